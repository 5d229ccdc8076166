/-! ===== the working sheet like its branch's latest: isLikeHead, total, go ===== -/
theorem w32_add (x : Int) : w32 (x + 4294967296) = w32 x := by
  unfold w32
  rw [Int.bmod_def, Int.bmod_def]
  have e : (x + 4294967296) % ((4294967296 : Nat) : Int) = x % ((4294967296 : Nat) : Int) := by omega
  rw [e]
noncomputable def cb (p : Prop) : Int := @ite Int p (Classical.propDecidable p) 1 0
theorem cb_1 {p : Prop} (h : p) : cb p = 1 := by unfold cb; exact if_pos h
theorem cb_0 {p : Prop} (h : ¬ p) : cb p = 0 := by unfold cb; exact if_neg h
noncomputable def ci {α : Type} (p : Prop) (a b : α) : α := @ite α p (Classical.propDecidable p) a b
theorem ci_1 {α : Type} {p : Prop} {a b : α} (h : p) : ci p a b = a := by unfold ci; exact if_pos h
theorem ci_0 {α : Type} {p : Prop} {a b : α} (h : ¬ p) : ci p a b = b := by unfold ci; exact if_neg h
theorem RC_pm {z : Z} {b : Nat → Nat} {I : Nat → Prop} {S : SS} (h : RC z b I S) : S.2.2.1.2.2.2.1 ≤ 60000 := h.2.2.2.2.1.2.2.2.1.2.2
theorem CoB_of {u : Mu} {N : Int} {S : SS} (hB : Bd S) (R : RM u N S) (hN : N ≤ 4000) (hp : S.2.2.1.2.2.2.1 ≤ 60000) : CoB u := by
  obtain ⟨⟨n1, n2⟩, -, -, hb, -⟩ := R
  have := hB.1
  refine ⟨⟨n1.1, by omega⟩, by omega, ?_⟩
  rw [hb.2.2.2.1]; omega
theorem ContM_CoK {u : Mu} {q : Int} {c : Cont} (h : ContM u q c) : CoK c := by
  rintro k l ps rfl h5
  unfold ContM at h
  simp only at h
  rw [if_neg h5] at h
  exact h.2.2.1
theorem ShM_CoS {u : Mu} {s : Int} {h : Sh} (m : ShM u s h) : CoS h := fun r c r0 r1 c0 c1 => ContM_CoK (m.2.2.2 r c r0 r1 c0 c1)
/-- the same lines of an axis -/
def likeA (a d : Sh) (ax : Int) : Prop := lnS a ax = lnS d ax ∧ ∀ k, 0 ≤ k → k < lnS a ax → idS a ax k = idS d ax k
theorem mst_32 (ax : Int) : mst ax ≤ 32 := by unfold mst; split <;> omega
theorem i_isLikeA {u : Mu} {s t ax : Int} {a d : Sh} {P : Int → Prop} (hb : ShB a) (hb' : ShB d) (m : ShM u s a) (m' : ShM u t d) (s0 : 0 ≤ s) (s1 : s < 122) (t0 : 0 ≤ t) (t1 : t < 122) (hy : likeA a d ax → P 1) (hn : ¬ likeA a d ax → P 0) : F_X12_isLike_ s t ax u P := by
  have la := lnS_b hb ax
  have ld := lnS_b hb' ax
  have m32 := mst_32 ax
  unfold F_X12_isLike_
  refine i_linesOf s0 s1 (i_linesOf t0 t1 ?_)
  rw [ShM_ln m ax, ShM_ln m' ax]
  unfold F_X12_isLike__20 F_X12_isLike__25
  by_cases e : lnS a ax = lnS d ax
  · rw [if_pos e]
    refine lp_I (fun q => (0 ≤ q.2 ∧ q.2 ≤ lnS a ax) ∧ (q.1 = 1 ∧ (∀ k, 0 ≤ k → k < q.2 → idS a ax k = idS d ax k) ∨ q.1 = 0 ∧ ¬ likeA a d ax)) (fun q => (lnS a ax - q.2).toNat) ?_ (1, 0) ⟨⟨by decide, by show (0 : Int) ≤ _; omega⟩, Or.inl ⟨rfl, fun k k0 k1 => absurd k1 (by show ¬ k < 0; omega)⟩⟩
    rintro G ⟨x, k⟩ ⟨⟨k0, k1⟩, hs⟩ ih
    simp only at k0 k1 hs
    unfold L_X12_isLike__25 F_X12_isLike__65
    dsimp only
    refine i_linesOf s0 s1 ?_
    rw [ShM_ln m ax]
    by_cases ex : lnS a ax ≤ k
    · rw [if_pos ex]
      show F_X12_isLike__73 x u P
      unfold F_X12_isLike__73
      rcases hs with ⟨h1, h2⟩ | ⟨h1, h2⟩
      · rw [h1]; exact ⟨z1_1, hy ⟨e, fun j j0 j1 => h2 j j0 (by omega)⟩⟩
      · rw [h1]; exact ⟨z1_0, hn h2⟩
    · rw [if_neg ex]
      rcases hs with ⟨h1, h2⟩ | ⟨h1, h2⟩
      · rw [if_neg (by omega)]
        refine i_lineAt s0 s1 k0 (by omega) (i_lineAt t0 t1 k0 (by omega) ?_)
        rw [ShM_id m ax k k0 (by omega), ShM_id m' ax k k0 (by omega), w32e (x := k + 1) (by omega) (by omega)]
        by_cases ei : idS a ax k = idS d ax k
        · rw [if_pos ei]
          refine ih (1, k + 1) ⟨⟨by show 0 ≤ k + 1; omega, by show k + 1 ≤ _; omega⟩, Or.inl ⟨rfl, fun j j0 j1 => ?_⟩⟩ (by show (_ - (k + 1)).toNat < (_ - k).toNat; omega)
          replace j1 : j < k + 1 := j1
          by_cases ej : j = k
          · rw [ej]; exact ei
          · exact h2 j j0 (by omega)
        · rw [if_neg ei]
          exact ih (0, k + 1) ⟨⟨by show 0 ≤ k + 1; omega, by show k + 1 ≤ _; omega⟩, Or.inr ⟨rfl, fun w => ei (w.2 k k0 (by omega))⟩⟩ (by show (_ - (k + 1)).toNat < (_ - k).toNat; omega)
      · rw [if_pos h1]
        show F_X12_isLike__73 x u P
        unfold F_X12_isLike__73
        rw [h1]; exact ⟨z1_0, hn h2⟩
  · rw [if_neg e]
    refine lp_I (fun q => q.1 = 0 ∧ q.2 = 0) (fun _ => 0) ?_ (0, 0) ⟨rfl, rfl⟩
    rintro G ⟨x, k⟩ ⟨h1, h2⟩ ih
    simp only at h1 h2
    unfold L_X12_isLike__25
    dsimp only
    refine i_linesOf s0 s1 ?_
    rw [ShM_ln m ax, if_neg (by omega), if_pos h1]
    show F_X12_isLike__73 x u P
    unfold F_X12_isLike__73
    rw [h1]
    exact ⟨z1_0, hn (fun w => e w.1)⟩
/-- is the working sheet like its branch's latest version? -/
def likeH (S : SS) : Prop := likeS S.2.2.2.1.1 (S.2.1.2.1 (pHead S))
theorem likeS_a {a d : Sh} : likeS a d ↔ likeA a d 0 ∧ likeA a d 1 ∧ ∀ r c, 0 ≤ r → r < d.1.1 → 0 ≤ c → c < d.1.2 → a.2.2.2 r c = d.2.2.2 r c := by
  show likeS a d ↔ (a.1.1 = d.1.1 ∧ ∀ k, 0 ≤ k → k < a.1.1 → a.2.1 k = d.2.1 k) ∧ (a.1.2 = d.1.2 ∧ ∀ k, 0 ≤ k → k < a.1.2 → a.2.2.1 k = d.2.2.1 k) ∧ ∀ r c, 0 ≤ r → r < d.1.1 → 0 ≤ c → c < d.1.2 → a.2.2.2 r c = d.2.2.2 r c
  constructor
  · rintro ⟨⟨h1, h2⟩, h3, h4, h5⟩
    exact ⟨⟨h1, h3⟩, ⟨h2, h4⟩, fun r c r0 r1 c0 c1 => h5 r c r0 (by omega) c0 (by omega)⟩
  · rintro ⟨⟨h1, h3⟩, ⟨h2, h4⟩, h5⟩
    exact ⟨⟨h1, h2⟩, h3, h4, fun r c r0 r1 c0 c1 => h5 r c r0 (by omega) c0 (by omega)⟩
theorem i_isLikeHead {u : Mu} {N : Int} {S : SS} {P : Int → Prop} (hB : Bd S) (R : RM u N S) (B : CoB u) (h : P (cb (likeH S))) : F_X12_isLikeHead u P := by
  obtain ⟨-, ht, hl, hb, hk, hq⟩ := id R
  have hh := hB.2.2.1.2.1
  have hh1 : pHead S < S.2.1.1 := (hB.2.2.1.1 _ hh.1 hh.2.1).2
  have hh0 : 0 ≤ pHead S := hh.2.2
  have h40 := hB.2.1.1
  have bw := hB.2.2.2.1.1
  have bh := (hB.2.1.2 _ hh0 hh1).1
  have mw := hk.1
  have mh := (hl.2 _ hh0 hh1).1
  have hy : likeH S → P 1 := fun w => by rw [cb_1 w] at h; exact h
  have hn : ¬ likeH S → P 0 := fun w => by rw [cb_0 w] at h; exact h
  clear h
  unfold F_X12_isLikeHead F_X12_isLikeHead_27
  refine i_headB hB hb ?_
  refine i_isLikeA bw bh mw mh (by decide) (by decide) hh0 (by omega) (fun l0 => ?_) (fun l0 => ?_)
  rotate_left
  · rw [if_pos rfl]; exact hn (fun w => l0 (likeS_a.mp w).1)
  rw [if_neg (by decide)]
  refine i_isLikeA bw bh mw mh (by decide) (by decide) hh0 (by omega) (fun l1 => ?_) (fun l1 => ?_)
  rotate_left
  · rw [if_pos rfl]; exact hn (fun w => l1 (likeS_a.mp w).2.1)
  rw [if_neg (by decide)]
  unfold F_X12_isLikeHead_31
  generalize hd : S.2.1.2.1 (pHead S) = d at bh mh l0 l1
  generalize hw : S.2.2.2.1.1 = a at bw mw l0 l1
  have eH : likeH S = likeS a d := by unfold likeH; rw [hd, hw]
  rw [eH] at hy hn
  have ea1 : a.1.1 = d.1.1 := l0.1
  have ea2 : a.1.2 = d.1.2 := l1.1
  refine lp_I (fun k => 0 ≤ k ∧ k ≤ 320 ∧ ∀ r c, 0 ≤ r → r < d.1.1 → 0 ≤ c → c < d.1.2 → 10 * r + c < k → a.2.2.2 r c = d.2.2.2 r c) (fun k => (320 - k).toNat) ?_ 0 ⟨by decide, by decide, fun r c r0 r1 c0 c1 w => by omega⟩
  rintro G k ⟨k0, k1, ks⟩ ih
  unfold L_X12_isLikeHead_31 F_X12_isLikeHead_68 F_X12_isLikeHead_69 F_X12_isLikeHead_105
  by_cases ex : 320 ≤ k
  · rw [if_pos ex]
    refine hy (likeS_a.mpr ⟨l0, l1, fun r c r0 r1 c0 c1 => ks r c r0 r1 c0 c1 ?_⟩)
    have := bh.1.2; have := bh.2.2; omega
  · rw [if_neg ex, tdivE k0, tmodE k0, w32e (x := k / 10) (by omega) (by omega), w32e (x := k % 10) (by omega) (by omega), w32e (x := k + 1) (by omega) (by omega)]
    have go : (k / 10 < d.1.1 → k % 10 < d.1.2 → a.2.2.2 (k / 10) (k % 10) = d.2.2.2 (k / 10) (k % 10)) → G (k + 1) := fun w => by
      refine ih (k + 1) ⟨by omega, by omega, fun r c r0 r1 c0 c1 hl => ?_⟩ (by omega)
      by_cases el : 10 * r + c = k
      · have := bh.2.2
        have e1 : r = k / 10 := by omega
        have e2 : c = k % 10 := by omega
        rw [e1, e2]; exact w (by omega) (by omega)
      · exact ks r c r0 r1 c0 c1 (by omega)
    refine ⟨hh0, by omega, ?_⟩
    rw [mh.1.1, mh.1.2]
    by_cases e1 : d.1.1 ≤ k / 10
    · rw [if_pos e1, if_pos rfl]; exact go (fun w _ => by omega)
    · rw [if_neg e1]
      refine ⟨hh0, by omega, ?_⟩
      by_cases e2 : d.1.2 ≤ k % 10
      · rw [if_pos e2, if_pos rfl]; exact go (fun _ w => by omega)
      · rw [if_neg e2, if_neg (by decide), w32e (x := 320 * pHead S) (by omega) (by omega), w32e (x := 320 * pHead S + k) (by omega) (by omega), w32e (x := 12800 + k) (by omega) (by omega)]
        refine ⟨by omega, by omega, by omega, by omega, ?_⟩
        have p1 := mw.2.2.2 (k / 10) (k % 10) (by omega) (by omega) (by omega) (by omega)
        have p2 := mh.2.2.2 (k / 10) (k % 10) (by omega) (by omega) (by omega) (by omega)
        rw [show 320 * (40 : Int) + 10 * (k / 10) + k % 10 = 12800 + k by omega] at p1
        rw [show 320 * pHead S + 10 * (k / 10) + k % 10 = 320 * pHead S + k by omega] at p2
        refine i_alike B p1 p2 (fun e => ?_) (fun e => ?_)
        · rw [if_neg (by decide)]; exact go (fun _ _ => e)
        · rw [if_pos rfl]
          exact hn (fun w => e (w.2.2.2 _ _ (by omega) (by omega) (by omega) (by omega)))
theorem o_isLikeHead {z : Z} {b : Nat → Nat} {I : Nat → Prop} {S : SS} {P : Int → Prop} (hw : WzI z I) (R : RC z b I S) (cs : CoS S.2.2.2.1.1) (ct : CoS (S.2.1.2.1 (pHead S))) (h : P (cb (likeH S))) : F_X11_isLikeHead (b 0) z P := by
  obtain ⟨c, r, ht, hl, hb, hk, hq⟩ := id R
  have hB := RC_Bd R
  have hh := hB.2.2.1.2.1
  have hh1 : pHead S < S.2.1.1 := (hB.2.2.1.1 _ hh.1 hh.2.1).2
  have hh0 : 0 ≤ pHead S := hh.2.2
  unfold F_X11_isLikeHead F_X11_isLikeHead_31 F_X11_isLikeHead_32
  refine ⟨cK c 0 rfl rfl, o_head c hb ⟨b 3, cO c 0 2 3 (by decide), cK c 3 rfl rfl, o_at c hl ?_⟩⟩
  obtain ⟨⟨⟨va, hva, sva⟩, -⟩, -⟩ := hl.2 _ hh0 hh1
  obtain ⟨wa, hwa, swa⟩ := hk.1
  have hin : 0 ≤ S.2.2.1.1 S.2.2.1.2.1 ∧ S.2.2.1.1 S.2.2.1.2.1 < S.2.1.1 := ⟨hh0, hh1⟩
  have hva' : zO z (b 18) (S.2.2.1.1 S.2.2.1.2.1) = some va := hva
  rw [if_pos hin, hva', if_neg (by simp)]
  refine ⟨wa, hwa, ShC_7 swa, ?_⟩
  refine o_isLikeS hw swa sva cs ct (fun l => ?_) (fun l => ?_)
  · rw [if_neg (by decide)]; rw [cb_1 (p := likeH S) l] at h; exact ⟨z1_1, h⟩
  · rw [if_pos rfl]; rw [cb_0 (p := likeH S) l] at h; exact ⟨z1_0, h⟩
noncomputable def pTotal (w : Int) (S : SS) : Int := if w = 0 then S.2.1.1 else if w = 1 then S.2.2.1.2.1 else if w = 2 then pHead S else if w = 3 then pUns S else if w = 4 then S.2.2.2.1.2.1 else if w = 5 then S.2.2.2.1.2.2.2.1 else if w = 6 then S.2.2.1.2.2.2.1 else if w = 7 then S.1.1 else if w = 8 then S.2.2.1.2.2.2.2.1 else if w = 9 then cb (likeH S) else if 10 ≤ w ∧ w ≤ 15 then S.2.2.1.1 (w - 10) else -1
theorem o_total {z : Z} {b : Nat → Nat} {I : Nat → Prop} {S : SS} {w : Int} {P : Int → Prop} (hw : WzI z I) (w1 : -2147483648 ≤ w) (w2 : w ≤ 2147483647) (R : RC z b I S) (cs : CoS S.2.2.2.1.1) (ct : CoS (S.2.1.2.1 (pHead S))) (h : P (pTotal w S)) : F_X11_total (b 0) w z P := by
  obtain ⟨c, r, ht, hl, hb, hk, hq⟩ := id R
  unfold F_X11_total F_X11_total_128 F_X11_total_152
  unfold pTotal at h
  by_cases e0 : w = 0
  · rw [if_pos e0]; rw [if_pos e0] at h
    exact ⟨cK c 0 rfl rfl, b 3, cO c 0 2 3 (by decide), cK c 3 rfl rfl, by rw [hl.1.1]; exact h⟩
  rw [if_neg e0]; rw [if_neg e0] at h
  by_cases e1 : w = 1
  · rw [if_pos e1]; rw [if_pos e1] at h
    exact ⟨cK c 0 rfl rfl, by rw [hb.2.1.1]; exact h⟩
  rw [if_neg e1]; rw [if_neg e1] at h
  by_cases e2 : w = 2
  · rw [if_pos e2]; rw [if_pos e2] at h
    exact ⟨cK c 0 rfl rfl, o_head c hb h⟩
  rw [if_neg e2]; rw [if_neg e2] at h
  by_cases e3 : w = 3
  · rw [if_pos e3]; rw [if_pos e3] at h
    exact ⟨cK c 0 rfl rfl, b 5, cO c 0 4 5 (by decide), cK c 5 rfl rfl, o_unsettled R h⟩
  rw [if_neg e3]; rw [if_neg e3] at h
  by_cases e4 : w = 4
  · rw [if_pos e4]; rw [if_pos e4] at h
    exact ⟨cK c 0 rfl rfl, b 6, cO c 0 5 6 (by decide), cK c 6 rfl rfl, by rw [hk.2.1.1]; exact h⟩
  rw [if_neg e4]; rw [if_neg e4] at h
  by_cases e5 : w = 5
  · rw [if_pos e5]; rw [if_pos e5] at h
    exact ⟨cK c 0 rfl rfl, b 6, cO c 0 5 6 (by decide), cK c 6 rfl rfl, by rw [hk.2.1.2.1]; exact h⟩
  rw [if_neg e5]; rw [if_neg e5] at h
  by_cases e6 : w = 6
  · rw [if_pos e6]; rw [if_pos e6] at h
    exact ⟨cK c 0 rfl rfl, by rw [hb.2.2.2.1.1]; exact h⟩
  rw [if_neg e6]; rw [if_neg e6] at h
  by_cases e7 : w = 7
  · rw [if_pos e7]; rw [if_pos e7] at h
    exact ⟨cK c 0 rfl rfl, b 1, cO c 0 0 1 (by decide), cK c 1 rfl rfl, by rw [ht.1.1]; exact h⟩
  rw [if_neg e7]; rw [if_neg e7] at h
  by_cases e8 : w = 8
  · rw [if_pos e8]; rw [if_pos e8] at h
    exact ⟨cK c 0 rfl rfl, by rw [hb.2.2.2.2.1.1]; exact h⟩
  rw [if_neg e8]; rw [if_neg e8] at h
  by_cases e9 : w = 9
  · rw [if_pos e9]; rw [if_pos e9] at h
    refine ⟨cK c 0 rfl rfl, o_isLikeHead hw R cs ct ?_⟩
    by_cases l : likeH S
    · rw [cb_1 l] at h; rw [cb_1 l, if_neg (by decide)]; exact h
    · rw [cb_0 l] at h; rw [cb_0 l, if_pos rfl]; exact h
  rw [if_neg e9]; rw [if_neg e9] at h
  refine o_isBranch ?_
  by_cases e : 10 ≤ w ∧ w ≤ 15
  · rw [if_pos e] at h
    rw [w32e (x := w - 10) (by omega) (by omega), show tb (0 ≤ w - 10 ∧ w - 10 ≤ 5) = 1 by rw [tb, if_pos (by omega)], if_neg (by decide)]
    exact ⟨cK c 0 rfl rfl, b 9, cO c 0 8 9 (by decide), cK c 9 rfl rfl, by omega, by rw [cN c 9 (c := 6) rfl rfl]; omega, by rw [(hb.1 (w - 10) (by omega) (by omega)).1]; exact h⟩
  · rw [if_neg e] at h
    have hz : ¬ (0 ≤ w32 (w - 10) ∧ w32 (w - 10) ≤ 5) := by
      by_cases el : -2147483648 ≤ w - 10
      · rw [w32e el (by omega)]; omega
      · have : w32 (w - 10) = w - 10 + 4294967296 := by
          rw [← w32_add, w32e (by omega) (by omega)]
        omega
    rw [show tb (0 ≤ w32 (w - 10) ∧ w32 (w - 10) ≤ 5) = 0 by rw [tb, if_neg hz], if_pos rfl]
    exact h
theorem i_total {u : Mu} {N : Int} {S : SS} {w : Int} {P : Int → Mu → Prop} (hB : Bd S) (R : RM u N S) (B : CoB u) (h : ∀ x, RM x N S → FrM [(0, some 0)] u x → P (pTotal w S) x) : F_X12_total w u P := by
  have R' := RM_thr (x := 0) hB R
  have f : FrM [(0, some 0)] u (uI u 0 0 0) := FrM_uI FrM_rf (wHas_i (by decide))
  have q := h _ R' f
  have B' : CoB (uI u 0 0 0) := by
    unfold CoB; rw [mI_uI, if_neg (by omega), mI_uI, if_neg (by omega), mI_uI, if_neg (by omega)]; exact B
  unfold F_X12_total F_X12_total_117 F_X12_total_142
  rintro _ rfl
  generalize hv : uI u 0 0 0 = x at R' f q B' ⊢
  obtain ⟨-, ht, hl, hb, hk, hq⟩ := id R'
  unfold pTotal at q
  by_cases e0 : w = 0
  · rw [if_pos e0]; rw [if_pos e0] at q; rw [hl.1]; exact q
  rw [if_neg e0]; rw [if_neg e0] at q
  by_cases e1 : w = 1
  · rw [if_pos e1]; rw [if_pos e1] at q; rw [hb.2.1]; exact q
  rw [if_neg e1]; rw [if_neg e1] at q
  by_cases e2 : w = 2
  · rw [if_pos e2]; rw [if_pos e2] at q; exact i_headB hB hb q
  rw [if_neg e2]; rw [if_neg e2] at q
  by_cases e3 : w = 3
  · rw [if_pos e3]; rw [if_pos e3] at q; exact i_unsettled hB hq q
  rw [if_neg e3]; rw [if_neg e3] at q
  by_cases e4 : w = 4
  · rw [if_pos e4]; rw [if_pos e4] at q; rw [hk.2.1.1]; exact q
  rw [if_neg e4]; rw [if_neg e4] at q
  by_cases e5 : w = 5
  · rw [if_pos e5]; rw [if_pos e5] at q; rw [hk.2.1.2.1]; exact q
  rw [if_neg e5]; rw [if_neg e5] at q
  by_cases e6 : w = 6
  · rw [if_pos e6]; rw [if_pos e6] at q; rw [hb.2.2.2.1]; exact q
  rw [if_neg e6]; rw [if_neg e6] at q
  by_cases e7 : w = 7
  · rw [if_pos e7]; rw [if_pos e7] at q; rw [ht.1]; exact q
  rw [if_neg e7]; rw [if_neg e7] at q
  by_cases e8 : w = 8
  · rw [if_pos e8]; rw [if_pos e8] at q; rw [hb.2.2.2.2.1]; exact q
  rw [if_neg e8]; rw [if_neg e8] at q
  by_cases e9 : w = 9
  · rw [if_pos e9]; rw [if_pos e9] at q
    refine i_isLikeHead hB R' B' ?_
    by_cases l : likeH S
    · rw [cb_1 l] at q; rw [cb_1 l, if_neg (by decide)]; exact q
    · rw [cb_0 l] at q; rw [cb_0 l, if_pos rfl]; exact q
  rw [if_neg e9]; rw [if_neg e9] at q
  refine i_in ?_
  by_cases e : 10 ≤ w ∧ w ≤ 15
  · rw [if_pos e] at q
    rw [show tb (10 ≤ w ∧ w ≤ 15) = 1 by rw [tb, if_pos e], if_neg (by decide), w32e (x := w - 10) (by omega) (by omega)]
    exact ⟨by omega, by omega, by rw [hb.1 (w - 10) (by omega) (by omega)]; exact q⟩
  · rw [if_neg e] at q
    rw [show tb (10 ≤ w ∧ w ≤ 15) = 0 by rw [tb, if_neg e], if_pos rfl]; exact q
/-! go -/
def setH (S : SS) (x : Int) : SS := (S.1, S.2.1, (S.2.2.1.1, x, S.2.2.1.2.2), S.2.2.2)
noncomputable def pGo (x : Int) (S : SS) : Nat × Int × SS := if 0 ≤ x ∧ x ≤ 5 then (if S.2.2.1.1 x = -1 then (2, 0, S) else ci ((S.2.2.1.2.2.1 = -1 ∧ pUns S ≤ 0) ∧ likeH S) (0, (pDrop (setH S x)).1, (pDrop (setH S x)).2) (3, 0, S)) else (1, 0, S)
theorem o_isBusy {z : Z} {b : Nat → Nat} {I : Nat → Prop} {S : SS} {P : Int → Prop} (R : RC z b I S) (h : P (tb (¬ (S.2.2.1.2.2.1 = -1 ∧ pUns S ≤ 0)))) : F_X11_isBusy (b 0) z P := by
  obtain ⟨c, r, ht, hl, hb, hk, hq⟩ := id R
  unfold F_X11_isBusy F_X11_isBusy_18 F_X11_isBusy_23
  refine ⟨cK c 0 rfl rfl, ?_⟩
  rw [hb.2.2.1.1]
  by_cases e : S.2.2.1.2.2.1 = -1
  · rw [if_pos e]
    refine ⟨b 5, cO c 0 4 5 (by decide), cK c 5 rfl rfl, o_unsettled R ?_⟩
    by_cases e2 : pUns S ≤ 0
    · rw [if_pos e2]; rw [tb, if_neg (fun w => w ⟨e, e2⟩)] at h; exact ⟨z1_0, h⟩
    · rw [if_neg e2]; rw [tb, if_pos (fun w => e2 w.2)] at h; exact ⟨z1_1, h⟩
  · rw [if_neg e]; rw [tb, if_pos (fun w => e w.1)] at h; exact ⟨z1_1, h⟩
theorem Bd_setH {S : SS} {x : Int} (hB : Bd S) (x0 : 0 ≤ x ∧ x ≤ 5) (hx : S.2.2.1.1 x ≠ -1) : Bd (setH S x) := by
  have := hB.2.2.1.1 x (by omega) (by omega)
  exact ⟨hB.1, hB.2.1, ⟨hB.2.2.1.1, ⟨by show 0 ≤ x; omega, by show x < 6; omega, by show 0 ≤ S.2.2.1.1 x; omega⟩, hB.2.2.1.2.2⟩, hB.2.2.2.1, hB.2.2.2.2⟩
theorem o_go {z : Z} {b : Nat → Nat} {I : Nat → Prop} {S : SS} {x : Int} {c s : Nat} {P : Int → Z → Prop} {X : Nat → Z → Prop} (hw : WzI z I) (R : RC z b I S) (cs : CoS S.2.2.2.1.1) (ct : CoS (S.2.1.2.1 (pHead S))) (hc : 2 ≤ c) (hs : 324 ≤ s) (hx1 : (pGo x S).1 = 1 → X 0 z) (hx2 : (pGo x S).1 = 2 → X 4 z) (hx3 : (pGo x S).1 = 3 → X 3 z) (h : (pGo x S).1 = 0 → ∀ y J, GrI z I J → FrZ (WL z b wDr (wkT z b) no1) z y → RC y b J (pGo x S).2.2 → WkN z y b → P (pGo x S).2.1 y) : F_X11_go (b 0) x z c s P X := by
  obtain ⟨cw, r, ht, hl, hb, hk, hq⟩ := id R
  unfold F_X11_go F_X11_go_47
  unfold pGo at hx1 hx2 hx3 h
  refine o_isBranch ?_
  by_cases e : 0 ≤ x ∧ x ≤ 5
  · rw [show tb (0 ≤ x ∧ x ≤ 5) = 1 by rw [tb, if_pos e], if_neg (by decide)]
    rw [if_pos e] at hx1 hx2 hx3 h
    refine ⟨cK cw 0 rfl rfl, b 9, cO cw 0 8 9 (by decide), cK cw 9 rfl rfl, e.1, by rw [cN cw 9 (c := 6) rfl rfl]; omega, ?_⟩
    obtain ⟨b1, b2⟩ := hb.1 x e.1 (by omega)
    rw [b1]
    by_cases e2 : S.2.2.1.1 x = -1
    · rw [if_pos e2]; rw [if_pos e2] at hx2; exact ⟨by omega, by omega, hx2 rfl⟩
    · rw [if_neg e2]; rw [if_neg e2] at hx3 h
      refine o_isBusy R ?_
      by_cases e3 : S.2.2.1.2.2.1 = -1 ∧ pUns S ≤ 0
      · rw [show tb (¬ (S.2.2.1.2.2.1 = -1 ∧ pUns S ≤ 0)) = 0 by rw [tb, if_neg (fun w => w e3)], if_pos rfl]
        refine o_isLikeHead hw R cs ct ?_
        by_cases l : likeH S
        · rw [cb_1 l, if_neg (by decide)]
          rw [ci_1 ⟨e3, l⟩] at h
          rintro _ rfl
          refine ⟨c, s, Nat.le_refl _, Nat.le_refl _, ?_⟩
          have f : FrZ (WL z b [(0, some 12)] no1 no1) z (wI z (b 0) 12 x) := FrZ_wI FrZ_rf (Or.inl (WL_i (by decide) (by decide)))
          have f' : FrZ (WL z b wDr (wkT z b) no1) z (wI z (b 0) 12 x) := FrZ_wI FrZ_rf (Or.inl (WL_i (by decide) (by decide)))
          have n09 : b 9 ≠ b 0 := cNe cw rfl rfl rfl
          have hb' : RCb (wI z (b 0) 12 x) b S.2.1.1 (S.2.2.1.1, x, S.2.2.1.2.2) := by
            obtain ⟨g1, g2, g3⟩ := hb
            unfold RCb
            simp only [zI_wI, if_neg (fun w : b 9 = b 0 ∧ _ => n09 w.1)]
            refine ⟨g1, ⟨by rw [if_pos ⟨trivial, trivial⟩], by omega, by omega, by omega⟩, ?_⟩
            simpa using g3
          have R1 : RC (wI z (b 0) 12 x) b I (setH S x) := ⟨CWz_fr cw f (by decide), Frz_fr r f, RCt_fr cw f (by decide) ht, RCl_fr cw r f (by decide) hl, hb', RCk_fr cw r f (by decide) hk, RCq_fr cw r f (by decide) hq⟩
          refine o_drop R1 hc hs (fun y J iJ fy Ry hq => ?_)
          refine h rfl y J (GrI_pre f iJ) (FrZ_wl f' (FrZ_mono fy (fun a i ha w => ?_))) Ry ?_
          · rcases w with w | w | w
            · exact Or.inl w
            · refine Or.inr (Or.inl ⟨?_, w.2⟩)
              exact w.1
            · exact absurd w.1 id
          · exact WkN_pre cw f (by decide) hq
        · rw [cb_0 l, if_pos rfl]
          rw [ci_0 (fun w => l w.2)] at hx3
          exact ⟨by omega, by omega, hx3 rfl⟩
      · rw [show tb (¬ (S.2.2.1.2.2.1 = -1 ∧ pUns S ≤ 0)) = 1 by rw [tb, if_pos e3], if_neg (by decide)]
        rw [ci_0 (fun w => e3 w.1)] at hx3
        exact ⟨by omega, by omega, hx3 rfl⟩
  · rw [show tb (0 ≤ x ∧ x ≤ 5) = 0 by rw [tb, if_neg e], if_pos rfl]
    rw [if_neg e] at hx1; exact ⟨by omega, by omega, hx1 rfl⟩
theorem i_go {u : Mu} {N : Int} {S : SS} {x : Int} {P : Int → Mu → Prop} (hB : Bd S) (R : RM u N S) (B : CoB u) (h : ∀ v, RM v N (pGo x S).2.2 → FrM wDm u v → (mI v 0 0 = ((pGo x S).1 : Int) ∧ Q65 u v S (pGo x S).2.2) → P (pGo x S).2.1 v) : F_X12_go x u P := by
  unfold F_X12_go F_X12_go_56
  rintro _ rfl
  have R' := RM_thr (x := 0) hB R
  have f : FrM wDm u (uI u 0 0 0) := FrM_uI FrM_rf (wHas_i (by decide))
  have z0 : mI (uI u 0 0 0) 0 0 = 0 := by rw [mI_uI, if_pos ⟨rfl, rfl⟩]
  have B' : CoB (uI u 0 0 0) := by
    unfold CoB; rw [mI_uI, if_neg (by omega), mI_uI, if_neg (by omega), mI_uI, if_neg (by omega)]; exact B
  generalize hv : uI u 0 0 0 = v at R' f z0 B' ⊢
  obtain ⟨⟨n1, n2⟩, ht, hl, hb, hk, hq⟩ := id R'
  unfold pGo at h
  refine i_in ?_
  have t3 : ∀ {k : Nat}, (∀ v, RM v N S → FrM wDm u v → (mI v 0 0 = (k : Int) ∧ Q65 u v S S) → P 0 v) → F_X12_throwing k v (fun a b => P a b) := fun {k} h => i_throwing (h _ (RM_thr hB R') (FrM_uI f (wHas_i (by decide))) ⟨by rw [mI_uI, if_pos ⟨rfl, rfl⟩], by rw [← hv]; exact Q65_t⟩)
  by_cases e : 0 ≤ x ∧ x ≤ 5
  · rw [show tb (0 ≤ x ∧ x ≤ 5) = 1 by rw [tb, if_pos e], if_neg (by decide)]
    rw [if_pos e] at h
    refine ⟨e.1, by omega, ?_⟩
    have b1 := hB.2.2.1.1 x e.1 (by omega)
    rw [hb.1 x e.1 (by omega)]
    by_cases e2 : S.2.2.1.1 x = -1
    · rw [if_neg (by omega)]; rw [if_pos e2] at h; exact t3 (k := 2) h
    · rw [if_pos (by omega)]; rw [if_neg e2] at h
      have bm := hB.2.2.1.2.2
      rw [hb.2.2.1]
      by_cases e3 : S.2.2.1.2.2.1 = -1
      · rw [if_neg (by omega)]
        refine i_unsettled hB hq ?_
        by_cases e4 : pUns S ≤ 0
        · rw [if_neg (by omega)]
          refine i_isLikeHead hB R' B' ?_
          by_cases l : likeH S
          · rw [cb_1 l, if_neg (by decide)]
            rw [ci_1 ⟨⟨e3, e4⟩, l⟩] at h
            rintro _ rfl
            have f2 : FrM [(0, some 12)] v (uI v 0 12 x) := FrM_uI FrM_rf (wHas_i (by decide))
            have g := Grw_fr n1.1 f2 (by decide)
            have e19 := mE f2 (R := rgC) (by decide) (k := 0) (i := 19) (wHas_i (by decide))
            have e24 := mE f2 (R := rgC) (by decide) (k := 0) (i := 24) (wHas_i (by decide))
            have hb' : RMb (uI v 0 12 x) (setH S x).2.2.1 := by
              obtain ⟨g1, g2, g3⟩ := hb
              unfold RMb
              simp only [mI_uI]
              refine ⟨fun k k0 k1 => ?_, by rw [if_pos ⟨trivial, trivial⟩]; rfl, by simp; exact g3⟩
              rw [if_neg (by omega)]; exact g1 k k0 k1
            have hBx := Bd_setH hB e e2
            have R2 : RM (uI v 0 12 x) N (setH S x) := ⟨by rw [e19, e24]; exact ⟨n1, n2⟩, RMt_fr f2 (by decide) ht, RMl_fr f2 (by decide) (fun k a c => (hB.2.1.2 k a c).1) g (fun k _ _ => SlM_fr f2 (by decide)) hl, hb', RMk_fr f2 (by decide) (by decide) hB.2.2.2.1.1 hB.2.2.2.1.2.2.1 hB.2.2.2.1.2.2.2 g hk, RMq_fr f2 (by decide) g hq⟩
            refine i_headB hBx R2.2.2.2.1 ?_
            refine i_become hBx R2 (fun w Rw fw z1 => ?_)
            refine i_headB (Bd_drop hBx) Rw.2.2.2.1 ?_
            refine h w Rw (FrM_tr (FrM_uI f (wHas_i (by decide))) fw) ?_
            exact ⟨by rw [z1.1, mI_uI, if_neg (by omega)]; exact z0, Or.inl z1.2⟩
          · rw [cb_0 l, if_pos rfl]
            rw [ci_0 (fun w => l w.2)] at h
            exact t3 (k := 3) h
        · rw [if_pos (by omega)]
          rw [ci_0 (fun w => e4 w.1.2)] at h
          exact t3 (k := 3) h
      · rw [if_pos (by omega)]
        rw [ci_0 (fun w => e3 w.1.1)] at h
        exact t3 (k := 3) h
  · rw [show tb (0 ≤ x ∧ x ≤ 5) = 0 by rw [tb, if_neg e], if_pos rfl]
    rw [if_neg e] at h
    exact t3 (k := 1) h
