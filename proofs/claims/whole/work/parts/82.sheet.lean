/-! ===== sheet, conflict, unsettled, commit ===== -/
abbrev isShP (v : Int) (S : SS) : Prop := -1 ≤ v ∧ v < S.2.1.1
/-- the sheet of a version, -1: the working one -/
def shOf (v : Int) (S : SS) : Sh := if v = -1 then S.2.2.2.1.1 else S.2.1.2.1 v
def pSheet (v w : Int) (S : SS) : Int := if isShP v S then (if w = 0 then (shOf v S).1.1 else if w = 1 then (shOf v S).1.2 else if w = 2 then (if v = -1 then pHead S else S.2.1.2.2.1 v) else if w = 3 then (if v = -1 then S.2.2.1.2.2.1 else S.2.1.2.2.2 v) else -1) else -1
theorem o_sheetOf {z : Z} {b : Nat → Nat} {I : Nat → Prop} {S : SS} {v : Int} {P : Option Nat → Prop} (R : RC z b I S) (h1 : isShP v S → ∀ a, ShC z I a (shOf v S) → (v = -1 → zO z (b 0) 11 = some a) → (v ≠ -1 → zO z (b 18) v = some a) → P (some a)) (h2 : ¬ isShP v S → P none) : F_X11_sheetOf (b 0) v z P := by
  obtain ⟨c, r, ht, hl, hb, hk, hq⟩ := id R
  have hB := RC_Bd R
  unfold F_X11_sheetOf F_X11_sheetOf_20
  by_cases e : v = -1
  · rw [if_pos e]
    refine ⟨cK c 0 rfl rfl, ?_⟩
    obtain ⟨wa, hw, sw⟩ := hk.1
    rw [hw]
    refine h1 ⟨by omega, by have := hB.2.1.1; omega⟩ wa ?_ (fun _ => hw) (fun w => absurd e w)
    unfold shOf; rw [if_pos e]; exact sw
  · rw [if_neg e]
    refine ⟨cK c 0 rfl rfl, b 3, cO c 0 2 3 (by decide), cK c 3 rfl rfl, ?_⟩
    refine o_at c hl ?_
    by_cases e2 : 0 ≤ v ∧ v < S.2.1.1
    · rw [if_pos e2]
      obtain ⟨⟨⟨va, hva, sva⟩, -⟩, -⟩ := hl.2 v e2.1 e2.2
      rw [hva]
      refine h1 ⟨by omega, e2.2⟩ va ?_ (fun w => absurd w e) (fun _ => hva)
      unfold shOf; rw [if_neg e]; exact sva
    · rw [if_neg e2]; exact h2 (fun w => by unfold isShP at w; omega)
theorem o_sheet {z : Z} {b : Nat → Nat} {I : Nat → Prop} {S : SS} {v w : Int} {P : Int → Prop} (R : RC z b I S) (h : P (pSheet v w S)) : F_X11_sheet (b 0) v w z P := by
  obtain ⟨c, r, ht, hl, hb, hk, hq⟩ := id R
  unfold F_X11_sheet F_X11_sheet_77 F_X11_sheet_99
  unfold pSheet at h
  refine ⟨cK c 0 rfl rfl, o_sheetOf R (fun hi a sa e1 e2 => ?_) (fun hi => ?_)⟩
  · rw [if_pos hi] at h
    obtain ⟨ra, ca, xa, Sp, -⟩ := sa
    obtain ⟨s1, s2, s3, s4, s5, s6, s7, s8, s9, -⟩ := Sp
    rw [if_neg (by simp)]
    by_cases w0 : w = 0
    · rw [if_pos w0]; rw [if_pos w0] at h; exact ⟨a, rfl, s1, ra, s2, s5, by rw [s8]; exact h⟩
    · rw [if_neg w0]; rw [if_neg w0] at h
      by_cases w1 : w = 1
      · rw [if_pos w1]; rw [if_pos w1] at h; exact ⟨a, rfl, s1, ca, s3, s6, by rw [s9]; exact h⟩
      · rw [if_neg w1]; rw [if_neg w1] at h
        by_cases w2 : w = 2
        · rw [if_pos w2]; rw [if_pos w2] at h
          by_cases ev : v = -1
          · rw [if_pos ev]; rw [if_pos ev] at h; exact o_head c hb h
          · rw [if_neg ev]; rw [if_neg ev] at h
            have hv : 0 ≤ v ∧ v < S.2.1.1 := by unfold isShP at hi; omega
            have h40 := hl.1.2
            exact ⟨b 3, cO c 0 2 3 (by decide), cK c 3 rfl rfl, b 19, cO c 3 1 19 (by decide), cK c 19 rfl rfl, hv.1, by rw [cN c 19 (c := 40) rfl rfl]; omega, by rw [(hl.2 v hv.1 hv.2).1.2.1]; exact h⟩
        · rw [if_neg w2]; rw [if_neg w2] at h
          by_cases w3 : w = 3
          · rw [if_pos w3]; rw [if_pos w3] at h
            by_cases ev : v = -1
            · rw [if_pos ev]; rw [if_pos ev] at h; rw [hb.2.2.1.1]; exact h
            · rw [if_neg ev]; rw [if_neg ev] at h
              have hv : 0 ≤ v ∧ v < S.2.1.1 := by unfold isShP at hi; omega
              have h40 := hl.1.2
              exact ⟨b 3, cO c 0 2 3 (by decide), cK c 3 rfl rfl, b 20, cO c 3 2 20 (by decide), cK c 20 rfl rfl, hv.1, by rw [cN c 20 (c := 40) rfl rfl]; omega, by rw [(hl.2 v hv.1 hv.2).1.2.2.1]; exact h⟩
          · rw [if_neg w3]; rw [if_neg w3] at h; exact h
  · rw [if_neg hi] at h; rw [if_pos rfl]; exact h
theorem i_isSheet {u : Mu} {v : Int} {S : SS} {P : Int → Prop} (hB : Bd S) (hl : RMl u S.2.1) (h : P (tb (isShP v S))) : F_X12_isSheet v u P := by
  unfold F_X12_isSheet
  have := hB.2.1.1
  rw [hl.1, w32e (by omega) (by omega)]
  refine i_in ⟨tb_z, ?_⟩
  have e : tb (-1 ≤ v ∧ v ≤ S.2.1.1 - 1) = tb (isShP v S) := by
    unfold tb isShP
    by_cases q : -1 ≤ v ∧ v ≤ S.2.1.1 - 1
    · rw [if_pos q, if_pos (by omega)]
    · rw [if_neg q, if_neg (by omega)]
  rw [e]; exact h
/-- the slot of a version -/
def slt (v : Int) : Int := if v = -1 then 40 else v
theorem i_sheetAt {v : Int} {P : Int → Prop} (hv : -1 ≤ v) (h : P (slt v)) : F_X12_sheetAt v P := by
  unfold F_X12_sheetAt F_X12_sheetAt_10
  unfold slt at h
  by_cases e : v = -1
  · rw [if_neg (by omega)]; rw [if_pos e] at h; exact h
  · rw [if_pos (by omega)]; rw [if_neg e] at h; exact h
theorem slt_M {u : Mu} {v N : Int} {S : SS} (hi : isShP v S) (R : RM u N S) : ShM u (slt v) (shOf v S) := by
  unfold slt shOf
  by_cases e : v = -1
  · rw [if_pos e, if_pos e]; exact R.2.2.2.2.1.1
  · rw [if_neg e, if_neg e]; unfold isShP at hi; exact (R.2.2.1.2 v (by omega) hi.2).1
theorem slt_b {v : Int} {S : SS} (hB : Bd S) (hi : isShP v S) : 0 ≤ slt v ∧ slt v < 41 := by
  have := hB.2.1.1
  unfold isShP at hi
  unfold slt; split <;> omega
theorem i_sheet {u : Mu} {N : Int} {S : SS} {v w : Int} {P : Int → Mu → Prop} (hB : Bd S) (R : RM u N S) (h : ∀ x, RM x N S → FrM [(0, some 0)] u x → P (pSheet v w S) x) : F_X12_sheet v w u P := by
  have R' := RM_thr (x := 0) hB R
  have f : FrM [(0, some 0)] u (uI u 0 0 0) := FrM_uI FrM_rf (wHas_i (by decide))
  have q := h _ R' f
  unfold F_X12_sheet F_X12_sheet_85 F_X12_sheet_103
  rintro _ rfl
  generalize hv : uI u 0 0 0 = x at R' f q ⊢
  obtain ⟨-, ht, hl, hb, hk, hq⟩ := id R'
  refine i_isSheet hB hl ?_
  unfold pSheet at q
  by_cases hi : isShP v S
  · rw [show tb (isShP v S) = 1 by rw [tb, if_pos hi], if_neg (by decide)]
    rw [if_pos hi] at q
    have hs := slt_M hi R'
    have hb2 := slt_b hB hi
    have h40 := hB.2.1.1
    have hv1 := hi.1
    by_cases w0 : w = 0
    · rw [if_pos w0]; rw [if_pos w0] at q
      exact i_sheetAt hv1 ⟨hb2.1, by omega, by rw [hs.1.1]; exact q⟩
    · rw [if_neg w0]; rw [if_neg w0] at q
      by_cases w1 : w = 1
      · rw [if_pos w1]; rw [if_pos w1] at q
        exact i_sheetAt hv1 ⟨hb2.1, by omega, by rw [hs.1.2]; exact q⟩
      · rw [if_neg w1]; rw [if_neg w1] at q
        have hi' : v < S.2.1.1 := hi.2
        by_cases w2 : w = 2
        · rw [if_pos w2]; rw [if_pos w2] at q
          by_cases ev : v = -1
          · rw [if_neg (by omega)]; rw [if_pos ev] at q; exact i_headB hB hb q
          · rw [if_pos (by omega)]; rw [if_neg ev] at q
            exact ⟨by omega, by omega, by rw [(hl.2 v (by omega) hi').2.1]; exact q⟩
        · rw [if_neg w2]; rw [if_neg w2] at q
          by_cases w3 : w = 3
          · rw [if_pos w3]; rw [if_pos w3] at q
            by_cases ev : v = -1
            · rw [if_neg (by omega)]; rw [if_pos ev] at q; rw [hb.2.2.1]; exact q
            · rw [if_pos (by omega)]; rw [if_neg ev] at q
              exact ⟨by omega, by omega, by rw [(hl.2 v (by omega) hi').2.2]; exact q⟩
          · rw [if_neg w3]; rw [if_neg w3] at q; exact q
  · rw [show tb (isShP v S) = 0 by rw [tb, if_neg hi], if_pos rfl]
    rw [if_neg hi] at q; exact q
/-! places of lines -/
theorem fst1_e {f f' : Int → Int} {x x' : Int} : ∀ (m : Nat) (k : Int), (∀ j, k ≤ j → j < k + m → (f j = x ↔ f' j = x')) → fst1 f x m k = fst1 f' x' m k
  | 0, _, _ => rfl
  | m + 1, k, h => by
    rw [fst1, fst1, fst1_e m (k + 1) (fun j h1 h2 => h j (by omega) (by omega))]
    by_cases e : f k = x
    · rw [if_pos e, if_pos ((h k (by omega) (by omega)).mp e)]
    · rw [if_neg e, if_neg (fun w => e ((h k (by omega) (by omega)).mpr w))]
theorem plc_e {f f' : Int → Int} {x x' n : Int} (h : ∀ j, 0 ≤ j → j < n → (f j = x ↔ f' j = x')) : plc f x n = plc f' x' n := fst1_e _ _ (fun j h1 h2 => h j h1 (by omega))
/-- lines of an axis, how many -/
def lnS (s : Sh) (ax : Int) : Int := if ax = 0 then s.1.1 else s.1.2
def idS (s : Sh) (ax : Int) : Int → Int := if ax = 0 then s.2.1 else s.2.2.1
/-- the place of a line, from 0 on; -1 without it -/
def plS (s : Sh) (ax id : Int) : Int := plc (idS s ax) id (lnS s ax)
theorem o_placeOf {z : Z} {I : Nat → Prop} {a : Nat} {s : Sh} {ax id : Int} {P : Int → Prop} (hs : ShC z I a s) (h : P (plS s ax (id - 1) + 1)) : F_X6_placeOf a ax id z P := by
  obtain ⟨ra, ca, xa, Sp, -, -, -, h4, h5, -⟩ := hs
  refine k_placeOf Sp ?_
  unfold plS idS lnS at h
  by_cases e : ax = 0
  · rw [if_pos e] at h ⊢; rw [if_pos e] at h
    rw [plc_e (f' := s.2.1) (x' := id - 1) (fun j j0 j1 => by rw [h4 j j0 j1]; omega)]; exact h
  · rw [if_neg e] at h ⊢; rw [if_neg e] at h
    rw [plc_e (f' := s.2.2.1) (x' := id - 1) (fun j j0 j1 => by rw [h5 j j0 j1]; omega)]; exact h
theorem ShM_ln {u : Mu} {s : Int} {h : Sh} (m : ShM u s h) (ax : Int) : lnM u s ax = lnS h ax := by
  unfold lnM lnS; split
  · exact m.1.1
  · exact m.1.2
theorem ShM_id {u : Mu} {s : Int} {h : Sh} (m : ShM u s h) (ax k : Int) (k0 : 0 ≤ k) (k1 : k < lnS h ax) : idM u s ax k = idS h ax k := by
  unfold idM idS; unfold lnS at k1
  by_cases e : ax = 0
  · rw [if_pos e] at k1 ⊢; rw [if_pos e]; exact m.2.1 k k0 k1
  · rw [if_neg e] at k1 ⊢; rw [if_neg e]; exact m.2.2.1 k k0 k1
theorem ShM_pl {u : Mu} {s : Int} {h : Sh} (m : ShM u s h) (ax id : Int) : plM u s ax id = plS h ax id := by
  unfold plM plS
  rw [ShM_ln m ax]
  exact plc_c (fun j j0 j1 => ShM_id m ax j j0 j1)
theorem lnS_b {h : Sh} (hb : ShB h) (ax : Int) : 1 ≤ lnS h ax ∧ lnS h ax ≤ mst ax := by
  unfold lnS mst; split
  · exact hb.1
  · exact hb.2
theorem i_placeS {u : Mu} {s : Int} {h : Sh} {ax id : Int} {P : Int → Prop} (hb : ShB h) (m : ShM u s h) (s0 : 0 ≤ s) (s1 : s < 122) (k : P (plS h ax id)) : F_X12_placeOf s ax id u P := by
  refine i_placeOf s0 s1 (by rw [ShM_ln m ax]; exact (lnS_b hb ax).2) ?_
  rw [ShM_pl m ax id]; exact k
theorem plS_b (h : Sh) (ax id : Int) : plS h ax id = -1 ∨ (0 ≤ plS h ax id ∧ plS h ax id < lnS h ax ∧ idS h ax (plS h ax id) = id) := plc_r _ _ _
def pConflict (i w : Int) (S : SS) : Int := if 0 ≤ i ∧ i < S.2.2.2.2.1 then (if w = 0 then (S.2.2.2.2.2.1 i).1.1 else if w = 1 then plS S.2.2.2.1.1 0 (S.2.2.2.2.2.1 i).1.2.1 + 1 else if w = 2 then plS S.2.2.2.1.1 1 (S.2.2.2.2.2.1 i).1.2.2.1 + 1 else if w = 3 then (S.2.2.2.2.2.1 i).2.2.2 else -1) else -1
theorem o_at3 {z : Z} {b : Nat → Nat} {I : Nat → Prop} {s : SQ} {k : Int} {P : Option Nat → Prop} (c : CWz z b) (hq : RCq z b I s) (h : P (if 0 ≤ k ∧ k < s.1 then zO z (b 30) k else none)) : F_X3_at (b 5) k z P := by
  unfold F_X3_at F_X3_at_21 F_X3_at_22
  by_cases e : k < 0
  · rw [if_pos e]; rw [if_neg (by omega)] at h; exact h
  · rw [if_neg e]
    refine ⟨cK c 5 rfl rfl, ?_⟩
    have h40 := hq.1.1.2
    rw [hq.1.1.1]
    by_cases e2 : s.1 ≤ k
    · rw [if_pos e2]; rw [if_neg (by omega)] at h; exact h
    · rw [if_neg e2]; rw [if_pos (by omega)] at h
      exact ⟨b 30, cO c 5 0 30 (by decide), cK c 30 rfl rfl, by omega, by rw [cN c 30 (c := 362) rfl rfl]; omega, h⟩
theorem o_conflict {z : Z} {b : Nat → Nat} {I : Nat → Prop} {S : SS} {i w : Int} {P : Int → Prop} (R : RC z b I S) (h : P (pConflict i w S)) : F_X11_conflict (b 0) i w z P := by
  obtain ⟨c, r, ht, hl, hb, hk, hq⟩ := id R
  unfold F_X11_conflict F_X11_conflict_91
  unfold pConflict at h
  refine ⟨cK c 0 rfl rfl, b 5, cO c 0 4 5 (by decide), cK c 5 rfl rfl, o_at3 c hq ?_⟩
  by_cases e : 0 ≤ i ∧ i < S.2.2.2.2.1
  · rw [if_pos e]; rw [if_pos e] at h
    obtain ⟨a, h0, h1, h2, h3, h4, h5, h6, h7, h8, h9⟩ := hq.1.2.1 i e.1 e.2
    obtain ⟨wa, hw, sw⟩ := hk.1
    rw [h0, if_neg (by simp)]
    by_cases w0 : w = 0
    · rw [if_pos w0]; rw [if_pos w0] at h; exact ⟨a, rfl, h1, by rw [h2]; exact h⟩
    · rw [if_neg w0]; rw [if_neg w0] at h
      by_cases w1 : w = 1
      · rw [if_pos w1]; rw [if_pos w1] at h
        exact ⟨a, rfl, h1, wa, hw, ShC_7 sw, o_placeOf sw (by rw [h3, Int.add_sub_cancel]; exact h)⟩
      · rw [if_neg w1]; rw [if_neg w1] at h
        by_cases w2 : w = 2
        · rw [if_pos w2]; rw [if_pos w2] at h
          exact ⟨a, rfl, h1, wa, hw, ShC_7 sw, o_placeOf sw (by rw [h4, Int.add_sub_cancel]; exact h)⟩
        · rw [if_neg w2]; rw [if_neg w2] at h
          by_cases w3 : w = 3
          · rw [if_pos w3]; rw [if_pos w3] at h
            refine ⟨a, rfl, h1, ?_⟩
            rw [h8]
            rcases h9 with e9 | e9
            · rw [if_pos e9]; rw [e9] at h; exact h
            · rw [if_neg (by omega)]; rw [e9] at h; exact h
          · rw [if_neg w3]; rw [if_neg w3] at h; exact h
  · rw [if_neg e, if_pos rfl]; rw [if_neg e] at h; exact h
/-- settled is 0 or 1 -/
def Bq (S : SS) : Prop := ∀ k, 0 ≤ k → k < S.2.2.2.2.1 → Z1 (S.2.2.2.2.2.1 k).2.2.2
theorem RC_Bq {z : Z} {b : Nat → Nat} {I : Nat → Prop} {S : SS} (R : RC z b I S) : Bq S := by
  obtain ⟨-, -, -, -, -, -, hq⟩ := R
  intro k k0 k1
  obtain ⟨a, -, -, -, -, -, -, -, -, -, h9⟩ := hq.1.2.1 k k0 k1
  exact h9
theorem i_conflict {u : Mu} {N : Int} {S : SS} {i w : Int} {P : Int → Mu → Prop} (hB : Bd S) (hZ : Bq S) (R : RM u N S) (h : ∀ x, RM x N S → FrM [(0, some 0)] u x → P (pConflict i w S) x) : F_X12_conflict i w u P := by
  have R' := RM_thr (x := 0) hB R
  have f : FrM [(0, some 0)] u (uI u 0 0 0) := FrM_uI FrM_rf (wHas_i (by decide))
  have q := h _ R' f
  unfold F_X12_conflict F_X12_conflict_105
  rintro _ rfl
  generalize hv : uI u 0 0 0 = x at R' f q ⊢
  obtain ⟨-, ht, hl, hb, hk, hq⟩ := id R'
  have b1 := hB.2.2.2.2.1
  have bw := hB.2.2.2.1.1
  rw [hq.1.1, w32e (by omega) (by omega)]
  refine i_in ?_
  unfold pConflict at q
  by_cases e : 0 ≤ i ∧ i < S.2.2.2.2.1
  · rw [show tb (0 ≤ i ∧ i ≤ S.2.2.2.2.1 - 1) = 1 by rw [tb, if_pos (by omega)], if_neg (by decide)]
    rw [if_pos e] at q
    obtain ⟨h1, h2, h3, h4, h5, h6⟩ := hq.1.2 i e.1 e.2
    by_cases w0 : w = 0
    · rw [if_pos w0]; rw [if_pos w0] at q; exact ⟨by omega, by omega, by rw [h1]; exact q⟩
    · rw [if_neg w0]; rw [if_neg w0] at q
      by_cases w1 : w = 1
      · rw [if_pos w1]; rw [if_pos w1] at q
        refine ⟨by omega, by omega, i_placeS bw hk.1 (by omega) (by omega) ?_⟩
        have pb := plS_b S.2.2.2.1.1 0 (mI x 92 i)
        have lb := (lnS_b bw 0).2
        have : mst 0 = 32 := rfl
        rw [w32e (by omega) (by omega), h2]; exact q
      · rw [if_neg w1]; rw [if_neg w1] at q
        by_cases w2 : w = 2
        · rw [if_pos w2]; rw [if_pos w2] at q
          refine ⟨by omega, by omega, i_placeS bw hk.1 (by omega) (by omega) ?_⟩
          have pb := plS_b S.2.2.2.1.1 1 (mI x 93 i)
          have lb := (lnS_b bw 1).2
          have : mst 1 = 10 := rfl
          rw [w32e (by omega) (by omega), h3]; exact q
        · rw [if_neg w2]; rw [if_neg w2] at q
          by_cases w3 : w = 3
          · rw [if_pos w3]; rw [if_pos w3] at q
            refine ⟨by omega, by omega, ?_⟩
            rw [h6]
            rcases hZ i e.1 e.2 with e9 | e9
            · rw [if_pos e9]; rw [e9] at q; exact q
            · rw [if_neg (by omega)]; rw [e9] at q; exact q
          · rw [if_neg w3]; rw [if_neg w3] at q; exact q
  · rw [show tb (0 ≤ i ∧ i ≤ S.2.2.2.2.1 - 1) = 0 by rw [tb, if_neg (by omega)], if_pos rfl]
    rw [if_neg e] at q; exact q
/-- how many are not settled -/
def uns (g : Int → Int) : Nat → Int → Int
  | 0, _ => 0
  | m + 1, k => (if g k = 0 then 1 else 0) + uns g m (k + 1)
theorem uns_b (g : Int → Int) : ∀ (m : Nat) (k : Int), 0 ≤ uns g m k ∧ uns g m k ≤ m
  | 0, _ => by unfold uns; omega
  | m + 1, k => by
    have := uns_b g m (k + 1)
    rw [uns]; split <;> omega
def pUns (S : SS) : Int := uns (fun k => (S.2.2.2.2.2.1 k).2.2.2) S.2.2.2.2.1.toNat 0
theorem o_unsettled {z : Z} {b : Nat → Nat} {I : Nat → Prop} {S : SS} {P : Int → Prop} (R : RC z b I S) (h : P (pUns S)) : F_X3_unsettled (b 5) z P := by
  obtain ⟨c, r, ht, hl, hb, hk, hq⟩ := id R
  have b1 := hq.1.1.2
  unfold F_X3_unsettled F_X3_unsettled_4
  refine lp_I (fun q => 0 ≤ q.1 ∧ q.1 ≤ q.2 ∧ q.2 ≤ S.2.2.2.2.1 ∧ q.1 + uns (fun k => (S.2.2.2.2.2.1 k).2.2.2) (S.2.2.2.2.1 - q.2).toNat q.2 = pUns S) (fun q => (S.2.2.2.2.1 - q.2).toNat) ?_ (0, 0) ⟨by show (0 : Int) ≤ 0; decide, by show (0 : Int) ≤ 0; decide, by show (0 : Int) ≤ S.2.2.2.2.1; omega, by show (0 : Int) + uns _ (S.2.2.2.2.1 - 0).toNat 0 = _; unfold pUns; rw [show S.2.2.2.2.1 - 0 = S.2.2.2.2.1 by omega]; omega⟩
  rintro G ⟨a, k⟩ ⟨a0, a1, k1, hs⟩ ih
  simp only at a0 a1 k1 hs
  unfold L_X3_unsettled_4 F_X3_unsettled_30
  dsimp only
  refine ⟨cK c 5 rfl rfl, ?_⟩
  rw [hq.1.1.1]
  by_cases e : S.2.2.2.2.1 ≤ k
  · rw [if_pos e]
    rw [show (S.2.2.2.2.1 - k).toNat = 0 by omega, uns] at hs
    show P a
    rw [show a = pUns S by omega]; exact h
  · rw [if_neg e]
    obtain ⟨x, h0, h1, -, -, -, -, -, -, h8, h9⟩ := hq.1.2.1 k (by omega) (by omega)
    rw [show (S.2.2.2.2.1 - k).toNat = (S.2.2.2.2.1 - (k + 1)).toNat + 1 by omega, uns] at hs
    refine ⟨b 30, cO c 5 0 30 (by decide), cK c 30 rfl rfl, by omega, by rw [cN c 30 (c := 362) rfl rfl]; omega, x, h0, h1, ?_⟩
    rw [h8]
    rw [w32e (x := k + 1) (by omega) (by omega)]
    by_cases e2 : (S.2.2.2.2.2.1 k).2.2.2 = 0
    · rw [if_pos e2]; rw [if_pos e2] at hs
      rw [w32e (by omega) (by omega)]
      exact ih (a + 1, k + 1) ⟨by show 0 ≤ a + 1; omega, by show a + 1 ≤ k + 1; omega, by show k + 1 ≤ _; omega, by show a + 1 + uns _ (S.2.2.2.2.1 - (k + 1)).toNat (k + 1) = _; omega⟩ (by show (S.2.2.2.2.1 - (k + 1)).toNat < (S.2.2.2.2.1 - k).toNat; omega)
    · rw [if_neg e2]; rw [if_neg e2] at hs
      rw [w32e (by omega) (by omega)]
      exact ih (a + 0, k + 1) ⟨by show 0 ≤ a + 0; omega, by show a + 0 ≤ k + 1; omega, by show k + 1 ≤ _; omega, by show a + 0 + uns _ (S.2.2.2.2.1 - (k + 1)).toNat (k + 1) = _; omega⟩ (by show (S.2.2.2.2.1 - (k + 1)).toNat < (S.2.2.2.2.1 - k).toNat; omega)
theorem i_unsettled {u : Mu} {S : SS} {P : Int → Prop} (hB : Bd S) (hq : RMq u S.2.2.2.2) (h : P (pUns S)) : F_X12_unsettled u P := by
  have b1 := hB.2.2.2.2.1
  unfold F_X12_unsettled F_X12_unsettled_4
  refine lp_I (fun q => 0 ≤ q.1 ∧ q.1 ≤ q.2 ∧ q.2 ≤ S.2.2.2.2.1 ∧ q.1 + uns (fun k => (S.2.2.2.2.2.1 k).2.2.2) (S.2.2.2.2.1 - q.2).toNat q.2 = pUns S) (fun q => (S.2.2.2.2.1 - q.2).toNat) ?_ (0, 0) ⟨by show (0 : Int) ≤ 0; decide, by show (0 : Int) ≤ 0; decide, by show (0 : Int) ≤ S.2.2.2.2.1; omega, by show (0 : Int) + uns _ (S.2.2.2.2.1 - 0).toNat 0 = _; unfold pUns; rw [show S.2.2.2.2.1 - 0 = S.2.2.2.2.1 by omega]; omega⟩
  rintro G ⟨a, k⟩ ⟨a0, a1, k1, hs⟩ ih
  simp only at a0 a1 k1 hs
  unfold L_X12_unsettled_4 F_X12_unsettled_27
  dsimp only
  rw [hq.1.1]
  by_cases e : S.2.2.2.2.1 ≤ k
  · rw [if_pos e]
    rw [show (S.2.2.2.2.1 - k).toNat = 0 by omega, uns] at hs
    show P a
    rw [show a = pUns S by omega]; exact h
  · rw [if_neg e]
    obtain ⟨-, -, -, -, -, h6⟩ := hq.1.2 k (by omega) (by omega)
    rw [show (S.2.2.2.2.1 - k).toNat = (S.2.2.2.2.1 - (k + 1)).toNat + 1 by omega, uns] at hs
    refine ⟨by omega, by omega, ?_⟩
    rw [h6]
    rw [w32e (x := k + 1) (by omega) (by omega)]
    by_cases e2 : (S.2.2.2.2.2.1 k).2.2.2 = 0
    · rw [if_pos e2]; rw [if_pos e2] at hs
      rw [w32e (by omega) (by omega)]
      exact ih (a + 1, k + 1) ⟨by show 0 ≤ a + 1; omega, by show a + 1 ≤ k + 1; omega, by show k + 1 ≤ _; omega, by show a + 1 + uns _ (S.2.2.2.2.1 - (k + 1)).toNat (k + 1) = _; omega⟩ (by show (S.2.2.2.2.1 - (k + 1)).toNat < (S.2.2.2.2.1 - k).toNat; omega)
    · rw [if_neg e2]; rw [if_neg e2] at hs
      rw [w32e (by omega) (by omega)]
      exact ih (a + 0, k + 1) ⟨by show 0 ≤ a + 0; omega, by show a + 0 ≤ k + 1; omega, by show k + 1 ≤ _; omega, by show a + 0 + uns _ (S.2.2.2.2.1 - (k + 1)).toNat (k + 1) = _; omega⟩ (by show (S.2.2.2.2.1 - (k + 1)).toNat < (S.2.2.2.2.1 - k).toNat; omega)
