/-! ===== cells by their lines; blame ===== -/
abbrev knowsP (s : Sh) (row col : Int) : Prop := 0 ≤ plS s 0 row ∧ 0 ≤ plS s 1 col
/-- the content at a row and a column; nothing where the sheet lacks one -/
def cOf (s : Sh) (row col : Int) : Cont := if knowsP s row col then s.2.2.2 (plS s 0 row) (plS s 1 col) else none
theorem plS_r {s : Sh} {id : Int} (h : 0 ≤ plS s 0 id) : plS s 0 id < s.1.1 ∧ s.2.1 (plS s 0 id) = id := by
  rcases plS_b s 0 id with e | ⟨-, h1, h2⟩
  · omega
  · exact ⟨h1, h2⟩
theorem plS_c {s : Sh} {id : Int} (h : 0 ≤ plS s 1 id) : plS s 1 id < s.1.2 ∧ s.2.2.1 (plS s 1 id) = id := by
  rcases plS_b s 1 id with e | ⟨-, h1, h2⟩
  · omega
  · exact ⟨h1, h2⟩
theorem o_knows {z : Z} {I : Nat → Prop} {a : Nat} {s : Sh} {x y : Int} {P : Int → Prop} (hs : ShC z I a s) (h : P (tb (knowsP s (x - 1) (y - 1)))) : F_X6_knows a x y z P := by
  unfold F_X6_knows F_X6_knows_22 F_X6_knows_23
  refine ⟨ShC_7 hs, o_placeOf hs ?_⟩
  by_cases e : plS s 0 (x - 1) + 1 ≤ 0
  · rw [if_pos e]; rw [tb, if_neg (fun w => by have := w.1; omega)] at h; exact ⟨z1_0, h⟩
  · rw [if_neg e]
    refine o_placeOf hs ?_
    by_cases e2 : plS s 1 (y - 1) + 1 ≤ 0
    · rw [if_pos e2]; rw [tb, if_neg (fun w => by have := w.2; omega)] at h; exact ⟨z1_0, h⟩
    · rw [if_neg e2]; rw [tb, if_pos ⟨by omega, by omega⟩] at h; exact ⟨z1_1, h⟩
theorem o_cellAt {z : Z} {I : Nat → Prop} {a : Nat} {s : Sh} {r c : Int} {P : Option Nat → Prop} (hs : ShC z I a s) (h : ∀ q, ContC z I q (if (1 ≤ r ∧ r ≤ s.1.1) ∧ (1 ≤ c ∧ c ≤ s.1.2) then s.2.2.2 (r - 1) (c - 1) else none) → P q) : F_X6_at a r c z P := by
  obtain ⟨ra, ca, xa, Sp, -, -, -, -, -, h6⟩ := hs
  refine k_at Sp (h _ ?_)
  unfold cAt
  by_cases e : (1 ≤ r ∧ r ≤ s.1.1) ∧ (1 ≤ c ∧ c ≤ s.1.2)
  · rw [if_pos e, if_pos e]; exact h6 (r - 1) (c - 1) (by omega) (by omega) (by omega) (by omega)
  · rw [if_neg e, if_neg e]; exact rfl
theorem o_of {z : Z} {I : Nat → Prop} {a : Nat} {s : Sh} {x y : Int} {P : Option Nat → Prop} (hs : ShC z I a s) (h : ∀ q, ContC z I q (cOf s (x - 1) (y - 1)) → P q) : F_X6_of a x y z P := by
  unfold F_X6_of
  refine ⟨ShC_7 hs, o_placeOf hs (o_placeOf hs (o_cellAt hs (fun q hq => h q ?_)))⟩
  have e : (if (1 ≤ plS s 0 (x - 1) + 1 ∧ plS s 0 (x - 1) + 1 ≤ s.1.1) ∧ (1 ≤ plS s 1 (y - 1) + 1 ∧ plS s 1 (y - 1) + 1 ≤ s.1.2) then s.2.2.2 (plS s 0 (x - 1) + 1 - 1) (plS s 1 (y - 1) + 1 - 1) else none) = cOf s (x - 1) (y - 1) := by
    unfold cOf
    by_cases k : knowsP s (x - 1) (y - 1)
    · have := (plS_r k.1).1
      have := (plS_c k.2).1
      have k1 := k.1
      have k2 := k.2
      rw [if_pos k, if_pos ⟨⟨by omega, by omega⟩, by omega, by omega⟩, Int.add_sub_cancel, Int.add_sub_cancel]
    · rw [if_neg k, if_neg (fun w => k ⟨by have := w.1.1; omega, by have := w.2.1; omega⟩)]
  rw [← e]; exact hq
theorem ContM_nn {u : Mu} {q : Int} {c : Cont} (h : ContM u q c) : 0 ≤ q := by
  match c, h with
  | none, h => have h' : q = 0 := h; omega
  | some (k, l, ps), h =>
    unfold ContM at h
    simp only at h
    split at h
    · have := h.1; omega
    · have := h.1; omega
theorem i_content {u : Mu} {t : Int} {s : Sh} {row col : Int} {P : Int → Prop} (hb : ShB s) (m : ShM u t s) (t0 : 0 ≤ t) (t1 : t < 122) (hy : knowsP s row col → ∀ q, 0 ≤ q → ContM u q (cOf s row col) → P q) (hn : ¬ knowsP s row col → P (-1)) : F_X12_contentOf t row col u P := by
  have b1 := hb.1.2
  have b2 := hb.2.2
  refine i_contentOf t0 t1 (by rw [m.1.1]; exact b1) (by rw [m.1.2]; exact b2) ?_
  unfold coM
  rw [ShM_pl m 0 row, ShM_pl m 1 col]
  by_cases k : knowsP s row col
  · have k1 := k.1
    have k2 := k.2
    rw [if_neg (by omega)]
    have q := m.2.2.2 _ _ k1 (plS_r k1).1 k2 (plS_c k2).1
    refine hy k _ (ContM_nn q) ?_
    unfold cOf; rw [if_pos k]; exact q
  · rw [if_pos (by unfold knowsP at k; omega)]
    exact hn k
/-- version v has that content there -/
def hasP (S : SS) (row col : Int) (c : Cont) (v : Int) : Prop := (0 ≤ v ∧ v < S.2.1.1) ∧ knowsP (S.2.1.2.1 v) row col ∧ cOf (S.2.1.2.1 v) row col = c
noncomputable def blm (par oth : Int → Int) (has : Int → Prop) : Nat → Int → Int
  | 0, v => v
  | n + 1, v => ci (has (par v)) (blm par oth has n (par v)) (ci (has (oth v)) (blm par oth has n (oth v)) v)
theorem blm_f {par oth : Int → Int} {has : Int → Prop} (hh : ∀ v, has v → 0 ≤ v) : ∀ (n m : Nat) (v : Int), Dec par oth v → 0 ≤ v → v < n → v < m → blm par oth has n v = blm par oth has m v
  | 0, _, _, _, _, _, _ => by omega
  | n + 1, 0, _, _, _, _, _ => by omega
  | n + 1, m + 1, v, hd, v0, h1, h2 => by
    have d := hd v v0 (by omega)
    rw [blm, blm]
    by_cases e : has (par v)
    · rw [ci_1 e, ci_1 e]; exact blm_f hh n m (par v) (Dec_le hd (by omega)) (hh _ e) (by omega) (by omega)
    · rw [ci_0 e, ci_0 e]
      by_cases e2 : has (oth v)
      · rw [ci_1 e2, ci_1 e2]; exact blm_f hh n m (oth v) (Dec_le hd (by omega)) (hh _ e2) (by omega) (by omega)
      · rw [ci_0 e2, ci_0 e2]
noncomputable def pBlame (r c : Int) (S : SS) : Nat × Int × SS := if (1 ≤ r ∧ r ≤ S.2.2.2.1.1.1.1) ∧ (1 ≤ c ∧ c ≤ S.2.2.2.1.1.1.2) then (0, ci (hasP S (S.2.2.2.1.1.2.1 (r - 1)) (S.2.2.2.1.1.2.2.1 (c - 1)) (S.2.2.2.1.1.2.2.2 (r - 1) (c - 1)) (pHead S)) (blm S.2.1.2.2.1 S.2.1.2.2.2 (hasP S (S.2.2.2.1.1.2.1 (r - 1)) (S.2.2.2.1.1.2.2.1 (c - 1)) (S.2.2.2.1.1.2.2.2 (r - 1) (c - 1))) 41 (pHead S)) (-1), S) else (1, 0, S)
theorem o_holds {z : Z} {b : Nat → Nat} {I : Nat → Prop} {S : SS} {v x y : Int} {r : Option Nat} {c : Cont} {P : Int → Prop} (hw : WzI z I) (R : RC z b I S) (hc : ContC z I r c) (kc : CoK c) (hk : ∀ k, 0 ≤ k → k < S.2.1.1 → CoS (S.2.1.2.1 k)) (h : P (cb (hasP S (x - 1) (y - 1) c v))) : F_X2_holds (b 3) v x y r z P := by
  obtain ⟨cw, -, -, hl, -, -, -⟩ := id R
  unfold F_X2_holds F_X2_holds_41 F_X2_holds_42
  refine ⟨cK cw 3 rfl rfl, o_at cw hl ?_⟩
  by_cases e : 0 ≤ v ∧ v < S.2.1.1
  · obtain ⟨⟨⟨va, hva, sva⟩, -⟩, -⟩ := hl.2 v e.1 e.2
    rw [if_pos e, hva, if_neg (by simp)]
    refine ⟨va, rfl, ShC_7 sva, o_knows sva ?_⟩
    by_cases k : knowsP (S.2.1.2.1 v) (x - 1) (y - 1)
    · rw [show tb (knowsP (S.2.1.2.1 v) (x - 1) (y - 1)) = 1 by rw [tb, if_pos k], if_neg (by decide)]
      refine o_of sva (fun q hq => ?_)
      have kq : CoK (cOf (S.2.1.2.1 v) (x - 1) (y - 1)) := by
        unfold cOf; rw [if_pos k]
        exact hk v e.1 e.2 _ _ k.1 (plS_r k.1).1 k.2 (plS_c k.2).1
      refine o_alike hw hq hc kq kc (fun w => ?_) (fun w => ?_)
      · rw [cb_1 ⟨e, k, w⟩] at h; rw [if_neg (by decide)]; exact ⟨z1_1, h⟩
      · rw [cb_0 (fun q => w q.2.2)] at h; rw [if_pos rfl]; exact ⟨z1_0, h⟩
    · rw [show tb (knowsP (S.2.1.2.1 v) (x - 1) (y - 1)) = 0 by rw [tb, if_neg k], if_pos rfl]
      rw [cb_0 (fun q => k q.2.1)] at h; exact ⟨z1_0, h⟩
  · rw [if_neg e, if_pos rfl]
    rw [cb_0 (fun q => e q.1)] at h; exact ⟨z1_0, h⟩
theorem o_blame {z : Z} {b : Nat → Nat} {I : Nat → Prop} {S : SS} {r c : Int} {cc s : Nat} {P : Int → Z → Prop} {X : Nat → Z → Prop} (hw : WzI z I) (R : RC z b I S) (cs : CoS S.2.2.2.1.1) (hk : ∀ k, 0 ≤ k → k < S.2.1.1 → CoS (S.2.1.2.1 k)) (hc : 1 ≤ cc) (hs : 6 ≤ s) (hx1 : (pBlame r c S).1 = 1 → X 0 z) (h : (pBlame r c S).1 = 0 → P (pBlame r c S).2.1 z) : F_X11_blame (b 0) r c z cc s P X := by
  obtain ⟨cw, rf, ht, hl, hb, hkk, hq⟩ := id R
  have hB := RC_Bd R
  have hh := hB.2.2.1.2.1
  have hh1 : pHead S < S.2.1.1 := (hB.2.2.1.1 _ hh.1 hh.2.1).2
  have hh0 : 0 ≤ pHead S := hh.2.2
  have h40 := hB.2.1.1
  obtain ⟨wa, hwa, swa⟩ := hkk.1
  unfold F_X11_blame
  unfold pBlame at hx1 h
  obtain ⟨ra, ca, xa, Sp, i1, i2, i3, h4, h5, h6⟩ := id swa
  obtain ⟨s1, s2, s3, s4, s5, s6, s7, s8, s9, -⟩ := id Sp
  refine ⟨cK cw 0 rfl rfl, wa, hwa, s1, k_has Sp ?_⟩
  by_cases e : (1 ≤ r ∧ r ≤ S.2.2.2.1.1.1.1) ∧ (1 ≤ c ∧ c ≤ S.2.2.2.1.1.1.2)
  · rw [if_pos e] at h
    replace h := h rfl
    rw [show tb ((1 ≤ r ∧ r ≤ S.2.2.2.1.1.1.1) ∧ (1 ≤ c ∧ c ≤ S.2.2.2.1.1.1.2)) = 1 by rw [tb, if_pos e], if_neg (by decide)]
    have bw := hB.2.2.2.1.1
    have bw1 := bw.1.2
    have bw2 := bw.2.2
    refine ⟨ra, s2, s5, ?_⟩
    rw [w32e (x := r - 1) (by omega) (by omega), w32e (x := c - 1) (by omega) (by omega)]
    refine ⟨by omega, by rw [s8]; omega, ca, s3, s6, by omega, by rw [s9]; omega, o_cellAt swa (fun q hq => ?_)⟩
    rw [if_pos e] at hq
    rw [h4 (r - 1) (by omega) (by omega), h5 (c - 1) (by omega) (by omega)]
    have kc : CoK (S.2.2.2.1.1.2.2.2 (r - 1) (c - 1)) := cs _ _ (by omega) (by omega) (by omega) (by omega)
    generalize hrow : S.2.2.2.1.1.2.1 (r - 1) = row at h ⊢
    generalize hcol : S.2.2.2.1.1.2.2.1 (c - 1) = col at h ⊢
    generalize hcon : S.2.2.2.1.1.2.2.2 (r - 1) (c - 1) = con at h hq kc
    refine o_head cw hb ⟨b 3, cO cw 0 2 3 (by decide), cK cw 3 rfl rfl, o_holds hw R hq kc hk ?_⟩
    rw [Int.add_sub_cancel, Int.add_sub_cancel]
    show if cb (hasP S row col con (pHead S)) = 0 then _ else _
    by_cases l : hasP S row col con (pHead S)
    · rw [cb_1 l, if_neg (by decide)]
      rw [ci_1 l] at h
      refine o_head cw hb ?_
      show F_X11_blame_86 (b 0) (row + 1) (col + 1) q (pHead S) 0 z cc s P X
      unfold F_X11_blame_86
      refine lp_I (fun t => ((0 ≤ t.1 ∧ t.1 < S.2.1.1) ∧ 0 ≤ t.2 ∧ t.1 + t.2 ≤ 39) ∧ blm S.2.1.2.2.1 S.2.1.2.2.2 (hasP S row col con) 41 t.1 = blm S.2.1.2.2.1 S.2.1.2.2.2 (hasP S row col con) 41 (pHead S)) (fun t => t.1.toNat) ?_ (pHead S, 0) ⟨⟨⟨hh0, hh1⟩, by show (0 : Int) ≤ 0; decide, by show pHead S + 0 ≤ 39; omega⟩, rfl⟩
      rintro G ⟨v, t⟩ ⟨⟨⟨v0, v1⟩, t0, t1⟩, hv⟩ ih
      simp only at v0 v1 t0 t1 hv
      unfold L_X11_blame_86 F_X11_blame_176
      dsimp only
      have d := Bd_Dec hB v1 v v0 (by omega)
      have hB2 := hl.2 v v0 v1
      rw [if_neg (by omega), w32e (x := t + 1) (by omega) (by omega)]
      refine ⟨cK cw 0 rfl rfl, b 3, cO cw 0 2 3 (by decide), cK cw 3 rfl rfl, b 19, cO cw 3 1 19 (by decide), cK cw 19 rfl rfl, v0, by rw [cN cw 19 (c := 40) rfl rfl]; omega, ?_⟩
      rw [hB2.1.2.1]
      refine o_holds hw R hq kc hk ?_
      rw [Int.add_sub_cancel, Int.add_sub_cancel]
      have hun : blm S.2.1.2.2.1 S.2.1.2.2.2 (hasP S row col con) 41 v = ci (hasP S row col con (S.2.1.2.2.1 v)) (blm S.2.1.2.2.1 S.2.1.2.2.2 (hasP S row col con) 40 (S.2.1.2.2.1 v)) (ci (hasP S row col con (S.2.1.2.2.2 v)) (blm S.2.1.2.2.1 S.2.1.2.2.2 (hasP S row col con) 40 (S.2.1.2.2.2 v)) v) := rfl
      by_cases l1 : hasP S row col con (S.2.1.2.2.1 v)
      · rw [cb_1 l1, if_neg (by decide)]
        rw [ci_1 l1] at hun
        have l0 := l1.1
        refine ih (_, t + 1) ⟨⟨l0, by show 0 ≤ t + 1; omega, by show S.2.1.2.2.1 v + (t + 1) ≤ 39; omega⟩, ?_⟩ (by show (S.2.1.2.2.1 v).toNat < v.toNat; omega)
        show blm _ _ _ 41 (S.2.1.2.2.1 v) = _
        rw [← hv, hun]
        exact blm_f (fun w hw => hw.1.1) 41 40 _ (Bd_Dec hB l0.2) l0.1 (by omega) (by omega)
      · rw [cb_0 l1, if_pos rfl]
        rw [ci_0 l1] at hun
        refine ⟨b 20, cO cw 3 2 20 (by decide), cK cw 20 rfl rfl, v0, by rw [cN cw 20 (c := 40) rfl rfl]; omega, ?_⟩
        rw [hB2.1.2.2.1]
        refine o_holds hw R hq kc hk ?_
        rw [Int.add_sub_cancel, Int.add_sub_cancel]
        by_cases l2 : hasP S row col con (S.2.1.2.2.2 v)
        · rw [cb_1 l2, if_neg (by decide)]
          rw [ci_1 l2] at hun
          have l0 := l2.1
          refine ih (_, t + 1) ⟨⟨l0, by show 0 ≤ t + 1; omega, by show S.2.1.2.2.2 v + (t + 1) ≤ 39; omega⟩, ?_⟩ (by show (S.2.1.2.2.2 v).toNat < v.toNat; omega)
          show blm _ _ _ 41 (S.2.1.2.2.2 v) = _
          rw [← hv, hun]
          exact blm_f (fun w hw => hw.1.1) 41 40 _ (Bd_Dec hB l0.2) l0.1 (by omega) (by omega)
        · rw [cb_0 l2, if_pos rfl]
          rw [ci_0 l2] at hun
          show P v z
          rw [← hv, hun] at h
          exact h
    · rw [cb_0 l, if_pos rfl]
      rw [ci_0 l] at h; exact h
  · rw [if_neg e] at hx1
    rw [show tb ((1 ≤ r ∧ r ≤ S.2.2.2.1.1.1.1) ∧ (1 ≤ c ∧ c ≤ S.2.2.2.1.1.1.2)) = 0 by rw [tb, if_neg e], if_pos rfl]
    exact ⟨hc, hs, hx1 rfl⟩
theorem i_hasLike {u : Mu} {N : Int} {S : SS} {v row col q : Int} {c : Cont} {P : Int → Prop} (hB : Bd S) (R : RM u N S) (B : CoB u) (hq : ContM u q c) (hv : v < S.2.1.1) (h : P (cb (hasP S row col c v))) : F_X12_hasLike v row col q u P := by
  obtain ⟨-, ht, hl, hb, hk, -⟩ := id R
  have h40 := hB.2.1.1
  unfold F_X12_hasLike F_X12_hasLike_15 F_X12_hasLike_37 F_X12_hasLike_38
  by_cases e : 0 ≤ v
  · rw [if_pos e]
    refine i_content (hB.2.1.2 v e hv).1 (hl.2 v e hv).1 e (by omega) (fun k p p0 hp => ?_) (fun k => ?_)
    · rw [if_neg (by omega)]
      refine i_alike B hp hq (fun w => ?_) (fun w => ?_)
      · rw [cb_1 ⟨⟨e, hv⟩, k, w⟩] at h; rw [if_neg (by decide)]; exact ⟨z1_1, h⟩
      · rw [cb_0 (fun q => w q.2.2)] at h; rw [if_pos rfl]; exact ⟨z1_0, h⟩
    · rw [if_pos (by decide)]
      rw [cb_0 (fun q => k q.2.1)] at h; exact ⟨z1_0, h⟩
  · rw [if_neg e, if_pos (by decide)]
    rw [cb_0 (fun q => e q.1.1)] at h; exact ⟨z1_0, h⟩
theorem i_blame {u : Mu} {N : Int} {S : SS} {r c : Int} {P : Int → Mu → Prop} (hB : Bd S) (R : RM u N S) (B : CoB u) (h : ∀ v, RM v N (pBlame r c S).2.2 → FrM [(0, some 0)] u v → mI v 0 0 = ((pBlame r c S).1 : Int) → P (pBlame r c S).2.1 v) : F_X12_blame r c u P := by
  unfold F_X12_blame
  rintro _ rfl
  have R' := RM_thr (x := 0) hB R
  have f : FrM [(0, some 0)] u (uI u 0 0 0) := FrM_uI FrM_rf (wHas_i (by decide))
  have z0 : mI (uI u 0 0 0) 0 0 = 0 := by rw [mI_uI, if_pos ⟨rfl, rfl⟩]
  have B' : CoB (uI u 0 0 0) := by
    unfold CoB; rw [mI_uI, if_neg (by omega), mI_uI, if_neg (by omega), mI_uI, if_neg (by omega)]; exact B
  generalize hx : uI u 0 0 0 = x at R' f z0 B' ⊢
  obtain ⟨⟨n1, n2⟩, ht, hl, hb, hk, hq⟩ := id R'
  have hh := hB.2.2.1.2.1
  have hh1 : pHead S < S.2.1.1 := (hB.2.2.1.1 _ hh.1 hh.2.1).2
  have hh0 : 0 ≤ pHead S := hh.2.2
  have h40 := hB.2.1.1
  have bw := hB.2.2.2.1.1
  have bw1 := bw.1.2
  have bw2 := bw.2.2
  have mw := hk.1
  unfold pBlame at h
  refine i_isCell (by decide) (by decide) ?_
  rw [mw.1.1, mw.1.2]
  by_cases e : (1 ≤ r ∧ r ≤ S.2.2.2.1.1.1.1) ∧ (1 ≤ c ∧ c ≤ S.2.2.2.1.1.1.2)
  · rw [if_pos e] at h
    rw [show tb ((1 ≤ r ∧ r ≤ S.2.2.2.1.1.1.1) ∧ (1 ≤ c ∧ c ≤ S.2.2.2.1.1.1.2)) = 1 by rw [tb, if_pos e], if_neg (by decide), w32e (x := r - 1) (by omega) (by omega), w32e (x := c - 1) (by omega) (by omega)]
    have q := h x R' f z0
    clear h
    refine i_lineAt (by decide) (by decide) (by omega) (by show r - 1 < 32; omega) ?_
    refine i_lineAt (by decide) (by decide) (by omega) (by show c - 1 < 10; omega) ?_
    have er : idM x 40 0 (r - 1) = S.2.2.2.1.1.2.1 (r - 1) := ShM_id mw 0 (r - 1) (by omega) (by show r - 1 < S.2.2.2.1.1.1.1; omega)
    have ec : idM x 40 1 (c - 1) = S.2.2.2.1.1.2.2.1 (c - 1) := ShM_id mw 1 (c - 1) (by omega) (by show c - 1 < S.2.2.2.1.1.1.2; omega)
    rw [er, ec]
    refine i_cellAt (by decide) (by decide) (by omega) (by omega) (by omega) (by omega) ?_
    have hm := mw.2.2.2 (r - 1) (c - 1) (by omega) (by omega) (by omega) (by omega)
    generalize mI x 5 (320 * 40 + 10 * (r - 1) + (c - 1)) = code at hm
    generalize hrow : S.2.2.2.1.1.2.1 (r - 1) = row at q ⊢
    generalize hcol : S.2.2.2.1.1.2.2.1 (c - 1) = col at q ⊢
    generalize hcon : S.2.2.2.1.1.2.2.2 (r - 1) (c - 1) = con at q hm
    refine i_headB hB hb (i_hasLike hB R' B' hm hh1 ?_)
    by_cases l : hasP S row col con (pHead S)
    · rw [cb_1 l, if_neg (by decide)]
      rw [ci_1 l] at q
      unfold F_X12_blame_80
      refine lp_I (fun t => (0 ≤ t.1 ∧ t.1 < S.2.1.1) ∧ (t.2 = 1 ∧ blm S.2.1.2.2.1 S.2.1.2.2.2 (hasP S row col con) 41 t.1 = blm S.2.1.2.2.1 S.2.1.2.2.2 (hasP S row col con) 41 (pHead S) ∨ t.2 = 0 ∧ t.1 = blm S.2.1.2.2.1 S.2.1.2.2.2 (hasP S row col con) 41 (pHead S))) (fun t => 2 * t.1.toNat + t.2.toNat) ?_ (pHead S, 1) ⟨⟨hh0, hh1⟩, Or.inl ⟨rfl, rfl⟩⟩
      rintro G ⟨v, t⟩ ⟨⟨v0, v1⟩, hv⟩ ih
      simp only at v0 v1 hv
      unfold L_X12_blame_80
      dsimp only
      rcases hv with ⟨ht1, hv⟩ | ⟨ht1, hv⟩
      · rw [if_neg (by omega)]
        have d := Bd_Dec hB v1 v v0 (by omega)
        refine ⟨v0, by omega, ?_⟩
        rw [(hl.2 v v0 v1).2.1]
        refine i_hasLike hB R' B' hm (by omega) ?_
        have hun : blm S.2.1.2.2.1 S.2.1.2.2.2 (hasP S row col con) 41 v = ci (hasP S row col con (S.2.1.2.2.1 v)) (blm S.2.1.2.2.1 S.2.1.2.2.2 (hasP S row col con) 40 (S.2.1.2.2.1 v)) (ci (hasP S row col con (S.2.1.2.2.2 v)) (blm S.2.1.2.2.1 S.2.1.2.2.2 (hasP S row col con) 40 (S.2.1.2.2.2 v)) v) := rfl
        by_cases l1 : hasP S row col con (S.2.1.2.2.1 v)
        · rw [cb_1 l1, if_neg (by decide)]
          rw [ci_1 l1] at hun
          have l0 := l1.1
          refine ih (S.2.1.2.2.1 v, t) ⟨l0, Or.inl ⟨ht1, ?_⟩⟩ (by show 2 * (S.2.1.2.2.1 v).toNat + t.toNat < 2 * v.toNat + t.toNat; omega)
          show blm _ _ _ 41 (S.2.1.2.2.1 v) = _
          rw [← hv, hun]
          exact blm_f (fun w hw => hw.1.1) 41 40 _ (Bd_Dec hB l0.2) l0.1 (by omega) (by omega)
        · rw [cb_0 l1, if_pos rfl]
          rw [ci_0 l1] at hun
          refine ⟨v0, by omega, ?_⟩
          rw [(hl.2 v v0 v1).2.2]
          refine i_hasLike hB R' B' hm (by omega) ?_
          by_cases l2 : hasP S row col con (S.2.1.2.2.2 v)
          · rw [cb_1 l2, if_neg (by decide)]
            rw [ci_1 l2] at hun
            have l0 := l2.1
            refine ih (S.2.1.2.2.2 v, t) ⟨l0, Or.inl ⟨ht1, ?_⟩⟩ (by show 2 * (S.2.1.2.2.2 v).toNat + t.toNat < 2 * v.toNat + t.toNat; omega)
            show blm _ _ _ 41 (S.2.1.2.2.2 v) = _
            rw [← hv, hun]
            exact blm_f (fun w hw => hw.1.1) 41 40 _ (Bd_Dec hB l0.2) l0.1 (by omega) (by omega)
          · rw [cb_0 l2, if_pos rfl]
            rw [ci_0 l2] at hun
            refine ih (v, 0) ⟨⟨v0, v1⟩, Or.inr ⟨rfl, ?_⟩⟩ (by show 2 * v.toNat + (0 : Int).toNat < 2 * v.toNat + t.toNat; omega)
            show v = _
            rw [← hv, hun]
      · rw [if_pos ht1]
        show P v x
        rw [hv]; exact q
    · rw [cb_0 l, if_pos rfl]
      rw [ci_0 l] at q; exact q
  · rw [if_neg e] at h
    rw [show tb ((1 ≤ r ∧ r ≤ S.2.2.2.1.1.1.1) ∧ (1 ≤ c ∧ c ≤ S.2.2.2.1.1.1.2)) = 0 by rw [tb, if_neg e], if_pos rfl]
    exact i_throwing (h _ (RM_thr hB R') (FrM_uI f (wHas_i (by decide))) (by rw [mI_uI, if_pos ⟨rfl, rfl⟩]; rfl))
