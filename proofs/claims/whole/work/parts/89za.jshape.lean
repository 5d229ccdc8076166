/-! ===== merging: the joined sheet ===== -/
def cf0 : Cf := ((0, 0, 0, 0), none, none, 0)
/-- lists over a field, row by row -/
def gdR {α : Type} (e : Int → Int → List α) (r : Int) : Nat → Int → List α
  | 0, _ => []
  | m + 1, c => e r c ++ gdR e r m (c + 1)
def gdL {α : Type} (e : Int → Int → List α) (nc : Int) : Nat → Int → List α
  | 0, _ => []
  | m + 1, r => gdR e r nc.toNat 0 ++ gdL e nc m (r + 1)
def gdK {α : Type} (e : Int → Int → List α) (nr nc k : Int) : List α := if k / 10 < nr then gdR e (k / 10) (nc - k % 10).toNat (k % 10) ++ gdL e nc (nr - k / 10 - 1).toNat (k / 10 + 1) else []
theorem gdK_s {α : Type} {e : Int → Int → List α} {nr nc k : Int} (hn : 1 ≤ nc ∧ nc ≤ 10) : gdK e nr nc k = (if k / 10 < nr ∧ k % 10 < nc then e (k / 10) (k % 10) else []) ++ gdK e nr nc (k + 1) := by
  unfold gdK
  by_cases e1 : k / 10 < nr
  · rw [if_pos e1]
    by_cases e2 : k % 10 < nc
    · rw [if_pos ⟨e1, e2⟩, show (nc - k % 10).toNat = (nc - (k % 10 + 1)).toNat + 1 by omega, gdR, List.append_assoc]
      congr 1
      by_cases e3 : k % 10 = 9
      · rw [show (k + 1) / 10 = k / 10 + 1 by omega, show (k + 1) % 10 = 0 by omega, show (nc - (k % 10 + 1)).toNat = 0 by omega, gdR, List.nil_append]
        by_cases e4 : k / 10 + 1 < nr
        · rw [if_pos e4, show (nr - k / 10 - 1).toNat = (nr - (k / 10 + 1) - 1).toNat + 1 by omega, gdL, Int.sub_zero]
        · rw [if_neg e4, show (nr - k / 10 - 1).toNat = 0 by omega, gdL]
      · rw [show (k + 1) / 10 = k / 10 by omega, show (k + 1) % 10 = k % 10 + 1 by omega, if_pos e1]
    · rw [if_neg (fun g => e2 g.2), List.nil_append, show (nc - k % 10).toNat = 0 by omega, gdR, List.nil_append]
      by_cases e3 : k % 10 = 9
      · rw [show (k + 1) / 10 = k / 10 + 1 by omega, show (k + 1) % 10 = 0 by omega]
        by_cases e4 : k / 10 + 1 < nr
        · rw [if_pos e4, show (nr - k / 10 - 1).toNat = (nr - (k / 10 + 1) - 1).toNat + 1 by omega, gdL, Int.sub_zero]
        · rw [if_neg e4, show (nr - k / 10 - 1).toNat = 0 by omega, gdL]
      · rw [show (k + 1) / 10 = k / 10 by omega, show (k + 1) % 10 = k % 10 + 1 by omega, if_pos e1, show (nc - (k % 10 + 1)).toNat = 0 by omega, gdR, List.nil_append]
  · rw [if_neg e1, if_neg (fun g => e1 g.1), if_neg (by omega)]; rfl
theorem gdK_0 {α : Type} {e : Int → Int → List α} {nr nc : Int} (hr : 1 ≤ nr) : gdK e nr nc 0 = gdL e nc nr.toNat 0 := by
  unfold gdK
  rw [show (0 : Int) / 10 = 0 by decide, show (0 : Int) % 10 = 0 by decide, if_pos (by omega), Int.sub_zero, Int.sub_zero]
  obtain ⟨m, hm⟩ : ∃ m, nr.toNat = m + 1 := ⟨nr.toNat - 1, by omega⟩
  rw [hm, gdL, show (nr - 1).toNat = m by omega]
theorem gdR_n {α : Type} {e : Int → Int → List α} (he : ∀ r c, (e r c).length ≤ 1) (r : Int) : ∀ (m : Nat) (c : Int), (gdR e r m c).length ≤ m
  | 0, _ => by rw [gdR]; exact Nat.le_refl _
  | m + 1, c => by
    have := gdR_n he r m (c + 1)
    have := he r c
    rw [gdR, List.length_append]; omega
theorem gdL_n {α : Type} {e : Int → Int → List α} (he : ∀ r c, (e r c).length ≤ 1) {nc : Int} (hc : nc ≤ 10) : ∀ (m : Nat) (r : Int), (gdL e nc m r).length ≤ 10 * m
  | 0, _ => by rw [gdL]; exact Nat.le_refl _
  | m + 1, r => by
    have := gdL_n he hc m (r + 1)
    have := gdR_n he r nc.toNat 0
    rw [gdL, List.length_append]; omega
/-- conflicts of lines -/
def cfE (w t d : Sh) (ax id : Int) : List Cf := if ¬ (0 ≤ plS w ax id ∧ 0 ≤ plS t ax id) ∧ 0 ≤ plS d ax id then [((ax + 1, (if ax = 0 then id else -1), (if ax = 0 then -1 else id), tb (0 ≤ plS w ax id)), none, none, 0)] else []
def cfL (w t d : Sh) (ax : Int) (L : List Int) : Nat → Int → List Cf
  | 0, _ => []
  | m + 1, k => cfE w t d ax (gI L k) ++ cfL w t d ax L m (k + 1)
theorem cfE_n (w t d : Sh) (ax id : Int) : (cfE w t d ax id).length ≤ 1 := by
  unfold cfE; split
  · exact Nat.le_refl _
  · exact Nat.zero_le _
theorem cfL_n (w t d : Sh) (ax : Int) (L : List Int) : ∀ (m : Nat) (k : Int), (cfL w t d ax L m k).length ≤ m
  | 0, _ => by rw [cfL]; exact Nat.le_refl _
  | m + 1, k => by
    have := cfL_n w t d ax L m (k + 1)
    have := cfE_n w t d ax (gI L k)
    rw [cfL, List.length_append]; omega
/-- one cell of both: what it holds, its conflict -/
noncomputable def clC (w t d : Sh) (row col : Int) : Cont × List Cf := if ¬ knowsP t row col then (cOf w row col, []) else if ¬ knowsP w row col then (cOf t row col, []) else ci (cOf t row col = cOf d row col ∨ cOf w row col = cOf t row col) (cOf w row col, []) (ci (cOf w row col = cOf d row col) (cOf t row col, []) (cOf w row col, [((3, row, col, 1), cOf w row col, cOf t row col, 0)]))
theorem clC_n (w t d : Sh) (row col : Int) : (clC w t d row col).2.length ≤ 1 := by
  unfold clC
  split
  · exact Nat.zero_le _
  · split
    · exact Nat.zero_le _
    · by_cases e : cOf t row col = cOf d row col ∨ cOf w row col = cOf t row col
      · rw [ci_1 e]; exact Nat.zero_le _
      · rw [ci_0 e]
        by_cases e2 : cOf w row col = cOf d row col
        · rw [ci_1 e2]; exact Nat.zero_le _
        · rw [ci_0 e2]; exact Nat.le_refl _
noncomputable def jSh (w t d : Sh) : Sh := (((joinL w t d 0).length, (joinL w t d 1).length), gI (joinL w t d 0), gI (joinL w t d 1), fun r c => (clC w t d (gI (joinL w t d 0) r) (gI (joinL w t d 1) c)).1)
noncomputable def cfJ (w t d : Sh) (r c : Int) : List Cf := (clC w t d (gI (joinL w t d 0) r) (gI (joinL w t d 1) c)).2
noncomputable def cfA (w t d : Sh) : List Cf := (([] ++ cfL w t d 0 (joinL w t d 0) (joinL w t d 0).length 0) ++ cfL w t d 1 (joinL w t d 1) (joinL w t d 1).length 0) ++ gdL (cfJ w t d) ((joinL w t d 1).length : Int) (joinL w t d 0).length 0
/-- does it fit? -/
abbrev fitJ (w t d : Sh) : Prop := (1 ≤ (joinL w t d 0).length ∧ (joinL w t d 0).length ≤ 32) ∧ (1 ≤ (joinL w t d 1).length ∧ (joinL w t d 1).length ≤ 10)
theorem cfA_n {w t d : Sh} (h : fitJ w t d) : (cfA w t d).length ≤ 362 := by
  have h1 := cfL_n w t d 0 (joinL w t d 0) (joinL w t d 0).length 0
  have h2 := cfL_n w t d 1 (joinL w t d 1) (joinL w t d 1).length 0
  have h3 := gdL_n (e := cfJ w t d) (fun r c => clC_n w t d _ _) (nc := ((joinL w t d 1).length : Int)) (by have := h.2.2; omega) (joinL w t d 0).length 0
  have := h.1
  have := h.2
  unfold cfA
  simp only [List.length_append, List.length_nil]
  omega
/-- the state with both put together -/
noncomputable def setJ (S : SS) (m : Int) (t d : Sh) : SS := (S.1, S.2.1, (S.2.2.1.1, S.2.2.1.2.1, m, S.2.2.1.2.2.2.1, S.2.2.1.2.2.2.2.1 + 1, S.2.2.1.2.2.2.2.2), (jSh S.2.2.2.1.1 t d, 0, S.2.2.2.1.2.2.1, 0, S.2.2.2.1.2.2.2.2), (((cfA S.2.2.2.1.1 t d).length : Int), (fun k => (cfA S.2.2.2.1.1 t d).getD k.toNat cf0), S.2.2.2.2.2.2))
/-! the reference's frame: slot 121 and conflicts -/
def wJm : WR := [(99, none), (0, some 100), (1, none), (2, none), (3, none), (4, none), (5, none), (0, some 98), (91, none), (92, none), (93, none), (94, none), (95, none), (96, none), (97, none)]
def wJ0 : WR := [(99, none), (0, some 100), (1, none), (2, none), (3, none), (4, none), (5, none)]
def FrX (L : WR) (u v : Mu) : Prop := FrM L u v ∧ ∀ s, 0 ≤ s → s < 121 → SlM u v s s
section FrXs
variable {L R : WR}
theorem FrX_rf {u : Mu} : FrX L u u := ⟨FrM_rf, fun _ _ _ => ⟨rfl, rfl, fun _ _ _ => rfl, fun _ _ _ => rfl, fun _ _ _ => rfl⟩⟩
theorem FrX_tr {u v w : Mu} (f : FrX L u v) (g : FrX L v w) : FrX L u w := ⟨FrM_tr f.1 g.1, fun s s0 s1 => SlM_tr (f.2 s s0 s1) (g.2 s s0 s1)⟩
theorem FrX_sub {u v : Mu} (f : FrX L u v) (h : ∀ t ∈ L, t ∈ R) : FrX R u v := ⟨FrM_sub f.1 h, f.2⟩
theorem FrX_ln (hL : ∀ t ∈ wLn, t ∈ L) {u v w : Mu} (f : FrX L u v) (g : FrM wLn v w) : FrX L u w := FrX_tr f ⟨FrM_sub g hL, fun s _ _ => SlM_fr g (by decide)⟩
theorem FrX_g (hd : wDis L rgC = true) {u v : Mu} (f : FrX L u v) (h0 : 0 ≤ mI u 0 19) : Grw u v := Grw_fr h0 f.1 hd
theorem FrX_S (hd : wDis L rgC = true) {u v : Mu} {s : Int} {h : Sh} (f : FrX L u v) (h0 : 0 ≤ mI u 0 19) (hb : ShB h) (s0 : 0 ≤ s) (s1 : s < 121) (m : ShM u s h) : ShM v s h := ShM_s hb (FrX_g hd f h0) (f.2 s s0 s1) m
theorem FrX_B (hd : wDis L rgC = true) {u v : Mu} (f : FrX L u v) (B : CoB u) : CoB v := by
  unfold CoB
  rw [mE f.1 (R := rgC) hd (k := 0) (i := 19) (wHas_i (by decide)), mE f.1 (R := rgC) hd (k := 0) (i := 24) (wHas_i (by decide)), mE f.1 (R := rgC) hd (k := 0) (i := 25) (wHas_i (by decide))]
  exact B
/-- a write of lists or of slot 121 -/
theorem FrX_w {u v : Mu} {k : Nat} {i x : Int} (f : FrX L u v) (h : wHas L k i) (hs : (k = 1 ∨ k = 2) → i = 121) (h3 : k = 3 → 3872 ≤ i) (h4 : k = 4 → 1210 ≤ i) (h5 : k = 5 → 38720 ≤ i) : FrX L u (uI v k i x) := by
  refine ⟨FrM_uI f.1 h, fun s s0 s1 => SlM_tr (f.2 s s0 s1) ⟨?_, ?_, fun j j0 j1 => ?_, fun j j0 j1 => ?_, fun j j0 j1 => ?_⟩⟩ <;> rw [mI_uI, if_neg (by omega)]
end FrXs
abbrev FrJ (u v : Mu) : Prop := FrX wJm u v
theorem FrJ_rf {u : Mu} : FrJ u u := FrX_rf
theorem FrJ_ln {u v w : Mu} (f : FrJ u v) (g : FrM wLn v w) : FrJ u w := FrX_ln (by decide) f g
theorem FrJ_g {u v : Mu} (f : FrJ u v) (h0 : 0 ≤ mI u 0 19) : Grw u v := FrX_g (by decide) f h0
theorem FrJ_S {u v : Mu} {s : Int} {h : Sh} (f : FrJ u v) (h0 : 0 ≤ mI u 0 19) (hb : ShB h) (s0 : 0 ≤ s) (s1 : s < 121) (m : ShM u s h) : ShM v s h := FrX_S (by decide) f h0 hb s0 s1 m
theorem FrJ_B {u v : Mu} (f : FrJ u v) (B : CoB u) : CoB v := FrX_B (by decide) f B
theorem FrJ_w {u v : Mu} {k : Nat} {i x : Int} (f : FrJ u v) (h : wHas wJm k i) (hs : (k = 1 ∨ k = 2) → i = 121) (h3 : k = 3 → 3872 ≤ i) (h4 : k = 4 → 1210 ≤ i) (h5 : k = 5 → 38720 ≤ i) : FrJ u (uI v k i x) := FrX_w f h hs h3 h4 h5
abbrev FrN (u v : Mu) : Prop := FrX wJ0 u v
theorem FrN_rf {u : Mu} : FrN u u := FrX_rf
theorem FrN_ln {u v w : Mu} (f : FrN u v) (g : FrM wLn v w) : FrN u w := FrX_ln (by decide) f g
theorem FrN_g {u v : Mu} (f : FrN u v) (h0 : 0 ≤ mI u 0 19) : Grw u v := FrX_g (by decide) f h0
theorem FrN_S {u v : Mu} {s : Int} {h : Sh} (f : FrN u v) (h0 : 0 ≤ mI u 0 19) (hb : ShB h) (s0 : 0 ≤ s) (s1 : s < 121) (m : ShM u s h) : ShM v s h := FrX_S (by decide) f h0 hb s0 s1 m
theorem FrN_B {u v : Mu} (f : FrN u v) (B : CoB u) : CoB v := FrX_B (by decide) f B
theorem FrN_w {u v : Mu} {k : Nat} {i x : Int} (f : FrN u v) (h : wHas wJ0 k i) (hs : (k = 1 ∨ k = 2) → i = 121) (h3 : k = 3 → 3872 ≤ i) (h4 : k = 4 → 1210 ≤ i) (h5 : k = 5 → 38720 ≤ i) : FrN u (uI v k i x) := FrX_w f h hs h3 h4 h5
theorem FrN_J {u v : Mu} (f : FrN u v) : FrJ u v := FrX_sub f (by decide)
/-- the lines of slot 121 -/
def Ln121 (u : Mu) (ax : Int) (L : List Int) : Prop := lnM u 121 ax = (L.length : Int) ∧ ∀ k, 0 ≤ k → k < (L.length : Int) → idM u 121 ax k = gI L k
theorem i_newLines {u v : Mu} {t y ax : Int} {w s b : Sh} {P : Int → Mu → Prop} (B : CoB u) (hax : ax = 0 ∨ ax = 1) (bw : ShB w) (bs : ShB s) (bb : ShB b) (dw : DsS w) (ds : DsS s) (mw : ShM u 40 w) (ms : ShM u t s) (mb : ShM u y b) (ht : 0 ≤ t ∧ t < 121) (hy : 0 ≤ y ∧ y < 121) (f : FrN u v) (hn : ¬ (1 ≤ (joinL w s b ax).length ∧ ((joinL w s b ax).length : Int) ≤ mst ax) → ∀ x, FrN u x → P 0 x) (h : (1 ≤ (joinL w s b ax).length ∧ ((joinL w s b ax).length : Int) ≤ mst ax) → ∀ x, FrN u x → Ln121 x ax (joinL w s b ax) → (∀ L, Ln121 v (1 - ax) L → Ln121 x (1 - ax) L) → P 1 x) : F_X12_newLines t y ax v P := by
  have B' := FrN_B f B
  unfold F_X12_newLines F_X12_newLines_23
  refine i_together1 (u := v) B' hax bw bs bb dw ds (FrN_S f B.1.1 bw (by decide) (by decide) mw) (FrN_S f B.1.1 bs ht.1 ht.2 ms) (FrN_S f B.1.1 bb hy.1 hy.2 mb) (by omega) (by omega) FrM_rf (fun x fx lx nx => ?_)
  have m32 := mst_32 ax
  generalize hL : joinL w s b ax = L at hn h lx nx
  have fin : ∀ mx, mx = mst ax → F_X12_in (mI x 0 100) 1 mx (fun x_23 => (if x_23 = 0 then P 0 x else F_X12_setLines 121 ax (mI x 0 100) x (fun u_39 => F_X12_newLines_45 ax 0 u_39 P))) := fun mx hmx => by
    rw [lx.1]
    refine i_in ?_
    by_cases e : 1 ≤ (L.length : Int) ∧ (L.length : Int) ≤ mx
    · rw [show tb (1 ≤ (L.length : Int) ∧ (L.length : Int) ≤ mx) = 1 by rw [tb, if_pos e], if_neg (by decide)]
      have hh := h ⟨by omega, by omega⟩
      clear h hn
      have fx' := FrN_ln f fx
      have l99 : ∀ q : Mu, (∀ i, mI q 99 i = mI x 99 i) → mI q 0 100 = (L.length : Int) → FrN u q → lnM q 121 ax = (L.length : Int) → (∀ M, Ln121 v (1 - ax) M → Ln121 q (1 - ax) M) → F_X12_newLines_45 ax 0 q P := fun q q99 q100 fq qn qo => by
        unfold F_X12_newLines_45
        refine lp_I (S := Int × Mu) (fun a => (0 ≤ a.1 ∧ a.1 ≤ (L.length : Int)) ∧ (∀ i, mI a.2 99 i = mI x 99 i) ∧ mI a.2 0 100 = (L.length : Int) ∧ FrN u a.2 ∧ lnM a.2 121 ax = (L.length : Int) ∧ (∀ M, Ln121 v (1 - ax) M → Ln121 a.2 (1 - ax) M) ∧ ∀ k, 0 ≤ k → k < a.1 → idM a.2 121 ax k = gI L k) (fun a => ((L.length : Int) - a.1).toNat) ?_ (0, q) ⟨⟨by show (0 : Int) ≤ 0; decide, by show (0 : Int) ≤ _; omega⟩, q99, q100, fq, qn, qo, fun k k0 k1 => absurd k1 (by show ¬ k < 0; omega)⟩
        rintro G ⟨k, a⟩ ⟨⟨k0, k1⟩, a99, a100, fa, an, ao, ai⟩ ih
        simp only at k0 k1 a99 a100 fa an ao ai
        unfold L_X12_newLines_45
        dsimp only
        rw [a100]
        by_cases ek : (L.length : Int) ≤ k
        · rw [if_pos ek]
          exact hh a fa ⟨an, fun j j0 j1 => ai j j0 (by omega)⟩ ao
        · rw [if_neg ek, w32e (x := k + 1) (by omega) (by omega)]
          refine ⟨k0, by omega, ?_⟩
          rw [a99 k, lx.2 k k0 (by omega)]
          unfold F_X12_setLine F_X12_setLine_33
          rcases hax with ea | ea
          · subst ea
            have hm : mst 0 = 32 := rfl
            rw [if_pos rfl, w32e (x := 32 * 121) (by decide) (by decide), w32e (x := 32 * 121 + k) (by omega) (by omega)]
            refine ⟨by omega, by omega, ?_⟩
            rintro _ rfl
            refine ih (k + 1, uI a 3 (32 * 121 + k) (gI L k)) ⟨⟨by show 0 ≤ k + 1; omega, by show k + 1 ≤ _; omega⟩, fun i => by show mI (uI a _ _ _) 99 i = _; rw [mI_uI, if_neg (by omega)]; exact a99 i, by show mI (uI a _ _ _) 0 100 = _; rw [mI_uI, if_neg (by omega)]; exact a100, FrN_w fa (wHas_a (by decide)) (by omega) (by omega) (by omega) (by omega), ?_, fun M hM => ?_, fun j j0 j1 => ?_⟩ (by show ((L.length : Int) - (k + 1)).toNat < ((L.length : Int) - k).toNat; omega)
            · show lnM (uI a _ _ _) 121 0 = _
              rw [← an]; unfold lnM; rw [if_pos rfl, if_pos rfl, mI_uI, if_neg (by omega)]
            · obtain ⟨g1, g2⟩ := ao M hM
              refine ⟨?_, fun j j0 j1 => ?_⟩
              · show lnM (uI a _ _ _) 121 (1 - 0) = _
                rw [← g1]; unfold lnM; rw [if_neg (by decide), if_neg (by decide), mI_uI, if_neg (by omega)]
              · show idM (uI a _ _ _) 121 (1 - 0) j = _
                rw [← g2 j j0 j1]; unfold idM; rw [if_neg (by decide), if_neg (by decide), mI_uI, if_neg (by omega)]
            · replace j1 : j < k + 1 := j1
              show idM (uI a _ _ _) 121 0 j = _
              unfold idM
              rw [if_pos rfl, mI_uI]
              by_cases ej : j = k
              · rw [if_pos ⟨rfl, by rw [ej]⟩, ej]
              · rw [if_neg (by omega)]
                have := ai j j0 (by omega)
                unfold idM at this; rw [if_pos rfl] at this; exact this
          · subst ea
            have hm : mst 1 = 10 := rfl
            rw [if_neg (by decide), w32e (x := 10 * 121) (by decide) (by decide), w32e (x := 10 * 121 + k) (by omega) (by omega)]
            refine ⟨by omega, by omega, ?_⟩
            rintro _ rfl
            refine ih (k + 1, uI a 4 (10 * 121 + k) (gI L k)) ⟨⟨by show 0 ≤ k + 1; omega, by show k + 1 ≤ _; omega⟩, fun i => by show mI (uI a _ _ _) 99 i = _; rw [mI_uI, if_neg (by omega)]; exact a99 i, by show mI (uI a _ _ _) 0 100 = _; rw [mI_uI, if_neg (by omega)]; exact a100, FrN_w fa (wHas_a (by decide)) (by omega) (by omega) (by omega) (by omega), ?_, fun M hM => ?_, fun j j0 j1 => ?_⟩ (by show ((L.length : Int) - (k + 1)).toNat < ((L.length : Int) - k).toNat; omega)
            · show lnM (uI a _ _ _) 121 1 = _
              rw [← an]; unfold lnM; rw [if_neg (by decide), if_neg (by decide), mI_uI, if_neg (by omega)]
            · obtain ⟨g1, g2⟩ := ao M hM
              refine ⟨?_, fun j j0 j1 => ?_⟩
              · show lnM (uI a _ _ _) 121 (1 - 1) = _
                rw [← g1]; unfold lnM; rw [if_pos (by decide), if_pos (by decide), mI_uI, if_neg (by omega)]
              · show idM (uI a _ _ _) 121 (1 - 1) j = _
                rw [← g2 j j0 j1]; unfold idM; rw [if_pos (by decide), if_pos (by decide), mI_uI, if_neg (by omega)]
            · replace j1 : j < k + 1 := j1
              show idM (uI a _ _ _) 121 1 j = _
              unfold idM
              rw [if_neg (by decide), mI_uI]
              by_cases ej : j = k
              · rw [if_pos ⟨rfl, by rw [ej]⟩, ej]
              · rw [if_neg (by omega)]
                have := ai j j0 (by omega)
                unfold idM at this; rw [if_neg (by decide)] at this; exact this
      have o0 : ∀ M, Ln121 v (1 - ax) M → Ln121 x (1 - ax) M := fun M hM => by
        refine ⟨?_, fun j j0 j1 => ?_⟩
        · rw [← hM.1]; unfold lnM; split
          · exact mE fx (R := [(1, none)]) (by decide) (wHas_a (by decide))
          · exact mE fx (R := [(2, none)]) (by decide) (wHas_a (by decide))
        · rw [← hM.2 j j0 j1]; unfold idM; split
          · exact mE fx (R := [(3, none)]) (by decide) (wHas_a (by decide))
          · exact mE fx (R := [(4, none)]) (by decide) (wHas_a (by decide))
      unfold F_X12_setLines F_X12_setLines_21
      rcases hax with ea | ea
      · subst ea
        rw [if_pos rfl]
        refine ⟨by decide, by decide, ?_⟩
        rintro _ rfl
        refine l99 _ (fun i => by rw [mI_uI, if_neg (by omega)]) (by rw [mI_uI, if_neg (by omega)]; exact lx.1) (FrN_w fx' (wHas_a (by decide)) (fun _ => rfl) (by omega) (by omega) (by omega)) (by unfold lnM; rw [if_pos rfl, mI_uI, if_pos ⟨rfl, rfl⟩]) (fun M hM => ?_)
        obtain ⟨g1, g2⟩ := o0 M hM
        refine ⟨?_, fun j j0 j1 => ?_⟩
        · rw [← g1]; unfold lnM; rw [if_neg (by decide), if_neg (by decide), mI_uI, if_neg (by omega)]
        · rw [← g2 j j0 j1]; unfold idM; rw [if_neg (by decide), if_neg (by decide), mI_uI, if_neg (by omega)]
      · subst ea
        rw [if_neg (by decide)]
        refine ⟨by decide, by decide, ?_⟩
        rintro _ rfl
        refine l99 _ (fun i => by rw [mI_uI, if_neg (by omega)]) (by rw [mI_uI, if_neg (by omega)]; exact lx.1) (FrN_w fx' (wHas_a (by decide)) (fun _ => rfl) (by omega) (by omega) (by omega)) (by unfold lnM; rw [if_neg (by decide), mI_uI, if_pos ⟨rfl, rfl⟩]) (fun M hM => ?_)
        obtain ⟨g1, g2⟩ := o0 M hM
        refine ⟨?_, fun j j0 j1 => ?_⟩
        · rw [← g1]; unfold lnM; rw [if_pos (by decide), if_pos (by decide), mI_uI, if_neg (by omega)]
        · rw [← g2 j j0 j1]; unfold idM; rw [if_pos (by decide), if_pos (by decide), mI_uI, if_neg (by omega)]
    · rw [show tb (1 ≤ (L.length : Int) ∧ (L.length : Int) ≤ mx) = 0 by rw [tb, if_neg e], if_pos rfl]
      exact hn (by omega) x (FrN_ln f fx)
  rcases hax with ea | ea
  · rw [if_pos ea]; exact fin 32 (by rw [ea]; rfl)
  · rw [if_neg (by omega)]; exact fin 10 (by rw [ea]; rfl)
