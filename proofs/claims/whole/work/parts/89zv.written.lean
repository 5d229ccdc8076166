/-! ===== written, of the system ===== -/
def BtC (z : Z) (ba : Nat) (fr : Int) (bs : List Int) : Prop := zK z ba = 14 ∧ 0 ≤ fr ∧ fr + (bs.length : Int) ≤ zN z ba ∧ ∀ i : Nat, i < bs.length → zI z ba (fr + i) = bs.getD i 0
theorem BtC_at {z : Z} {ba : Nat} {fr : Int} {bs : List Int} (h : BtC z ba fr bs) {k : Int} (k0 : fr ≤ k) (k1 : k < fr + bs.length) : zI z ba k = bs.getD (k - fr).toNat 0 := by
  have := h.2.2.2 (k - fr).toNat (by omega)
  rw [show fr + ((k - fr).toNat : Int) = k by omega] at this; exact this
theorem o_isDigit {x : Int} {P : Int → Prop} (h1 : dgP x → P 1) (h0 : ¬ dgP x → P 0) : F_X11_isDigit x P := by
  unfold F_X11_isDigit F_X11_isDigit_16 F_X11_isDigit_17
  unfold dgP at h1 h0
  by_cases c : x < 48
  · rw [if_pos c]; exact ⟨Or.inl rfl, h0 (by omega)⟩
  · rw [if_neg c]
    by_cases d : 57 < x
    · rw [if_pos d]; exact ⟨Or.inl rfl, h0 (by omega)⟩
    · rw [if_neg d]; exact ⟨Or.inr rfl, h1 ⟨by omega, by omega⟩⟩
theorem o_isNumber {z : Z} {ba : Nat} {fr en : Int} {bs : List Int} {P : Int → Prop} (h : BtC z ba fr bs) (he : en = fr + bs.length) (e31 : en ≤ 33554432) (hy : numP bs → P 1) (hn : ¬ numP bs → P 0) : F_X11_isNumber (some ba) fr en z P := by
  obtain ⟨k14, f0, f1, -⟩ := id h
  have key : F_X11_isNumber_26 (some ba) en (fr + (sg1 bs : Int)) z P := by
    have s1 : sg1 bs ≤ 1 := by unfold sg1; split <;> omega
    have s2 : bs.length = 0 → sg1 bs = 0 := by
      intro w
      rw [List.eq_nil_of_length_eq_zero w]; rfl
    unfold F_X11_isNumber_26 F_X11_isNumber_42
    rw [w32e (by omega) (by omega)]
    by_cases c1 : en - (fr + (sg1 bs : Int)) < 1
    · rw [if_pos c1]; exact hn (fun w => by have := w.1.1; omega)
    · rw [if_neg c1]
      by_cases c2 : en - (fr + (sg1 bs : Int)) ≤ 15
      · rw [if_pos c2]
        unfold F_X11_isNumber_47 F_X11_isNumber_78
        refine lp_I (fun k => (fr + (sg1 bs : Int) ≤ k ∧ k ≤ en) ∧ ∀ j : Nat, sg1 bs ≤ j → fr + (j : Int) < k → dgP (bs.getD j 0)) (fun k => (en - k).toNat) ?_ _ ⟨⟨Int.le_refl _, by omega⟩, fun j h1 h2 => by omega⟩
        rintro G k ⟨⟨k0, k1⟩, e⟩ ih
        unfold L_X11_isNumber_47
        by_cases d : en ≤ k
        · rw [if_pos d]
          exact hy ⟨⟨by omega, by omega⟩, fun j h1 h2 => e j h1 (by omega)⟩
        · rw [if_neg d]
          refine ⟨ba, rfl, k14, ?_⟩
          rw [if_neg (by omega)]
          refine ⟨by omega, by omega, ?_⟩
          rw [BtC_at h (by omega) (by omega)]
          refine o_isDigit (fun dd => ?_) (fun dd => ?_)
          · rw [if_neg (by decide), w32e (by omega) (by omega)]
            refine ih (k + 1) ⟨⟨by omega, by omega⟩, fun j h1 h2 => ?_⟩ (by omega)
            by_cases ej : fr + (j : Int) = k
            · rw [show j = (k - fr).toNat by omega]; exact dd
            · exact e j h1 (by omega)
          · rw [if_pos rfl]
            exact hn (fun w => dd (w.2 _ (by omega) (by omega)))
      · rw [if_neg c2]; exact hn (fun w => by have := w.1.2; omega)
  unfold F_X11_isNumber F_X11_isNumber_25
  by_cases c : en ≤ fr
  · rw [if_pos c]
    have e0 : sg1 bs = 0 := by rw [List.eq_nil_of_length_eq_zero (show bs.length = 0 by omega)]; rfl
    rw [e0, show fr + ((0 : Nat) : Int) = fr by omega] at key
    exact key
  · rw [if_neg c]
    refine ⟨ba, rfl, k14, ?_⟩
    rw [if_neg (by omega)]
    refine ⟨f0, by omega, ?_⟩
    rw [BtC_at h (by omega) (by omega), show (fr - fr).toNat = 0 by omega]
    unfold sg1 at key
    by_cases d : bs.getD 0 0 = 45
    · rw [if_pos d, w32e (by omega) (by omega)]
      rw [if_pos d] at key
      exact key
    · rw [if_neg d]
      rw [if_neg d, show fr + ((0 : Nat) : Int) = fr by omega] at key
      exact key
theorem o_isWord {z : Z} {ba : Nat} {fr en : Int} {bs : List Int} {s : Nat} {P : Int → Prop} (h : BtC z ba fr bs) (he : en = fr + bs.length) (e31 : en ≤ 33554432) (hs : s < 44) (hy : bs = sL s → P 1) (hn : bs ≠ sL s → P 0) : F_X11_isWord (some ba) fr en s z P := by
  obtain ⟨k14, f0, f1, -⟩ := id h
  have sl := sL_len s
  unfold F_X11_isWord F_X11_isWord_16
  refine ⟨hs, ?_⟩
  rw [w32e (by omega) (by omega)]
  by_cases c : en - fr = sLen s
  · rw [if_pos c]
    refine ⟨ba, rfl, k14, ?_⟩
    rw [if_pos (by omega)]
    unfold F_X11_isWord_21
    refine lp_I (fun k => (0 ≤ k ∧ k ≤ (bs.length : Int)) ∧ ∀ j : Nat, (j : Int) < k → bs.getD j 0 = (sL s).getD j 0) (fun k => ((bs.length : Int) - k).toNat) ?_ 0 ⟨⟨by omega, by omega⟩, fun j hj => by omega⟩
    rintro G k ⟨⟨k0, k1⟩, e⟩ ih
    unfold L_X11_isWord_21
    refine ⟨hs, ?_⟩
    by_cases d : sLen s ≤ k
    · rw [if_pos d]
      exact hy (lst_e (by omega) (fun j hj => e j (by omega)))
    · rw [if_neg d]
      have a2 := sL_at s (k := k.toNat) (by omega)
      rw [Int.toNat_of_nonneg k0] at a2
      rw [w32e (x := fr + k) (by omega) (by omega)]
      refine ⟨ba, rfl, k14, by omega, by omega, hs, k0, by omega, ?_⟩
      rw [BtC_at h (by omega) (by omega), ← a2, show (fr + k - fr).toNat = k.toNat by omega]
      by_cases e2 : bs.getD k.toNat 0 = (sL s).getD k.toNat 0
      · rw [if_pos e2, w32e (by omega) (by omega)]
        refine ih (k + 1) ⟨⟨by omega, by omega⟩, fun j hj => ?_⟩ (by omega)
        by_cases ej : (j : Int) = k
        · rw [show j = k.toNat by omega]; exact e2
        · exact e j (by omega)
      · rw [if_neg e2]
        exact hn (fun w => e2 (by rw [w]))
  · rw [if_neg c]
    exact hn (fun w => c (by rw [← sl, ← w]; omega))
theorem sL_56 : sL 5 = sL 0 ∧ sL 6 = sL 1 := by decide +kernel
theorem o_isTruth {z : Z} {ba : Nat} {fr en : Int} {bs : List Int} {P : Int → Prop} (h : BtC z ba fr bs) (he : en = fr + bs.length) (e31 : en ≤ 33554432) (hy : bs = sL 0 ∨ bs = sL 1 → P 1) (hn : ¬ (bs = sL 0 ∨ bs = sL 1) → P 0) : F_X11_isTruth (some ba) fr en z P := by
  unfold F_X11_isTruth F_X11_isTruth_24 F_X11_isTruth_29
  refine o_isWord h he e31 (by decide) (fun w => ?_) (fun n1 => ?_)
  · rw [if_neg (by decide)]
    rw [sL_56.1] at w
    exact ⟨Or.inr rfl, hy (Or.inl w)⟩
  · rw [if_pos rfl]
    rw [sL_56.1] at n1
    refine o_isWord h he e31 (by decide) (fun w => ?_) (fun n2 => ?_)
    · rw [if_neg (by decide)]
      rw [sL_56.2] at w
      exact ⟨Or.inr rfl, hy (Or.inr w)⟩
    · rw [if_pos rfl]
      rw [sL_56.2] at n2
      exact ⟨Or.inl rfl, hn (fun w => w.elim n1 n2)⟩
theorem o_changes {z : Z} {I : Nat → Prop} {v : Nat} {l : Lit} {P : Int → Prop} (hw : WzI z I) (hv : LitC z I v l) (wl : WfL l) (l2 : l.1 = 2) (hy : mkP l.2.2 → P 1) (hn : ¬ mkP l.2.2 → P 0) : F_X10_changesUnquoted (some v) z P := by
  obtain ⟨iv, kv, v1, ba, v0, iba, kba, vt⟩ := hv
  rw [if_pos l2] at vt
  obtain ⟨g1, g2, g3, g4⟩ := vt
  have l24 := wl.2.2.2.2.2.1
  have wz := (hw ba iba).1.2
  generalize l.2.2 = bs at *
  have hb : BtC z ba 0 bs := ⟨kba, Int.le_refl 0, by omega, fun i hi => by rw [show (0 : Int) + i = i by omega]; exact g4 i hi⟩
  unfold F_X10_changesUnquoted F_X10_changesUnquoted_20 F_X10_changesUnquoted_84 F_X10_changesUnquoted_89
  refine ⟨v, rfl, kv, ?_⟩
  rw [g1, w32e (x := (bs.length : Int)) (by omega) (by omega)]
  by_cases c0 : (bs.length : Int) < 1
  · rw [if_pos c0]
    exact hy (Or.inl (List.eq_nil_of_length_eq_zero (by omega)))
  · rw [if_neg c0]
    have nn : bs ≠ [] := fun w => by rw [w] at c0; exact c0 (by decide)
    have a0 := g4 0 (by omega)
    have a1 := g4 (bs.length - 1) (by omega)
    refine ⟨ba, v0, kba, ?_⟩
    rw [if_pos g2, show zI z ba 0 = bs.getD 0 0 from a0]
    refine ⟨by decide, by omega, ?_⟩
    by_cases c1 : bs.getD 0 0 = 32
    · rw [if_pos c1]; exact ⟨Or.inr rfl, hy (Or.inr (Or.inl c1))⟩
    · rw [if_neg c1]
      by_cases c3 : bs.getD 0 0 = 61
      · rw [if_pos c3]; exact ⟨Or.inr rfl, hy (Or.inr (Or.inr (Or.inl c3)))⟩
      · rw [if_neg c3]
        by_cases c4 : bs.getD 0 0 = 39
        · rw [if_pos c4]; exact ⟨Or.inr rfl, hy (Or.inr (Or.inr (Or.inr (Or.inl c4))))⟩
        · rw [if_neg c4, w32e (x := (bs.length : Int) - 1) (by omega) (by omega), show (bs.length : Int) - 1 = ((bs.length - 1 : Nat) : Int) by omega, a1]
          refine ⟨by omega, by omega, ?_⟩
          by_cases c2 : bs.getD (bs.length - 1) 0 = 32
          · rw [if_pos c2]; exact ⟨Or.inr rfl, hy (Or.inr (Or.inr (Or.inr (Or.inr (Or.inl c2)))))⟩
          · rw [if_neg c2, v0]
            refine o_isNumber hb (by omega) (by omega) (fun w => ?_) (fun n0 => ?_)
            · rw [if_neg (by decide)]
              exact ⟨Or.inr rfl, hy (Or.inr (Or.inr (Or.inr (Or.inr (Or.inr (Or.inl w))))))⟩
            · rw [if_pos rfl]
              refine o_isTruth hb (by omega) (by omega) (fun w => ?_) (fun n1 => ?_)
              · rw [if_neg (by decide)]
                exact ⟨Or.inr rfl, hy (Or.inr (Or.inr (Or.inr (Or.inr (Or.inr (Or.inr w))))))⟩
              · rw [if_pos rfl]
                refine ⟨Or.inl rfl, hn ?_⟩
                rintro (w | w | w | w | w | w | w)
                · exact nn w
                · exact c1 w
                · exact c3 w
                · exact c4 w
                · exact c2 w
                · exact n0 w
                · exact n1 w
theorem o_starts {z : Z} {b : Nat → Nat} {I : Nat → Prop} {ps : List Prt} {pa : Nat} {P : Z → Prop} (c : CWz z b) (rf : Frz z b I) (h4 : zO z (b 2) 4 = some pa) (hp : PtC z I pa ps) (hw : WfF ps) (wfa : ∀ p ∈ ps, WfP p) (l60 : ps.length ≤ 60) (h : ∀ y, FrZ (WB b [(15, none)]) z y → (∀ i : Nat, i < ps.length → zI y (b 15) i = (i : Int) + 1 - (spnL ps).getD i 0) → P y) : F_X10_findStarts (b 2) z P := by
  unfold F_X10_findStarts F_X10_findStarts_2 F_X10_findStarts_66
  refine lp_I (fun q => (0 ≤ q.1 ∧ q.1 ≤ (ps.length : Int)) ∧ FrZ (WB b [(15, none)]) z q.2 ∧ ∀ j : Nat, (j : Int) < q.1 → zI q.2 (b 15) j = (j : Int) + 1 - (spnL ps).getD j 0) (fun q => ((ps.length : Int) - q.1).toNat) ?_ (0, z) ⟨⟨by show (0 : Int) ≤ 0; omega, by show (0 : Int) ≤ ps.length; omega⟩, FrZ_rf, fun j hj => by exfalso; have : (j : Int) < 0 := hj; omega⟩
  rintro G ⟨i, y⟩ ⟨⟨i0, i1⟩, f, e⟩ ih
  simp only at i0 i1 f e
  have cy := CWz_fr c (WB_L f) (by decide)
  have y4 := (bB c f (R := [(2, none)]) (by decide) (k := 2) (by decide) (i := 4) (wHas_a (by decide))).2.2.trans h4
  have yp := PtC_fr (WB_L f) (WL_I rf) hp
  unfold L_X10_findStarts_2
  dsimp only
  refine ⟨cK cy 2 rfl rfl, pa, y4, yp.1.2.1, ?_⟩
  rw [yp.1.2.2]
  by_cases d : (ps.length : Int) ≤ i
  · rw [if_pos d]
    exact h y f (fun j hj => e j (by omega))
  · rw [if_neg d, if_neg (by omega)]
    have hi : i.toNat < ps.length := by omega
    obtain ⟨⟨w1, w2⟩, w3⟩ := hw.1 i.toNat hi
    have wp := wfa _ (gP_mem hi)
    have se := spn_e hi w2
    have wb := fun {m : Nat} hm => wlk_b hi w1 w2 (m := m) hm
    rw [Int.toNat_of_nonneg i0] at se wb
    rw [undS_w] at se
    have na : 0 ≤ (ps.getD i.toNat pd0).2.1 := by
      have := wp.2.2.2.2.1.1
      unfold argL at this
      revert this
      split <;> (try split) <;> (try split) <;> (try split) <;> (try split) <;> omega
    have na8 : (ps.getD i.toNat pd0).2.1 ≤ 8 := by
      have := wp.2.2.2.2.1.2
      unfold argM at this
      revert this
      split <;> (try split) <;> (try split) <;> (try split) <;> (try split) <;> (try split) <;> omega
    have sp0 := spn_pos ps i.toNat hi
    obtain ⟨q, q1, q2⟩ := PtC_at yp i0 (by omega)
    unfold F_X10_findStarts_21
    refine lp_I (fun t => (0 ≤ t.2 ∧ t.2 ≤ (ps.getD i.toNat pd0).2.1) ∧ t.1 = 1 + wlk (spnL ps) t.2.toNat (i - 1)) (fun t => ((ps.getD i.toNat pd0).2.1 - t.2).toNat) ?_ (i, 0) ⟨⟨by show (0 : Int) ≤ 0; omega, na⟩, by show i = 1 + wlk _ 0 _; rw [wlk]; omega⟩
    rintro G2 ⟨x, k⟩ ⟨⟨k0, k1⟩, ex⟩ ih2
    simp only at k0 k1 ex
    unfold L_X10_findStarts_21
    dsimp only
    refine ⟨cK cy 2 rfl rfl, pa, y4, yp.1.2.1, i0, by rw [yp.1.2.2]; omega, q, q1, q2.2.1, ?_⟩
    rw [q2.2.2.2.1]
    by_cases dk : (ps.getD i.toNat pd0).2.1 ≤ k
    · rw [if_pos dk]
      have ek : k.toNat = (ps.getD i.toNat pd0).2.1.toNat := by omega
      rw [ek] at ex
      show F_X10_findStarts_53 (b 2) i x y _
      unfold F_X10_findStarts_53
      refine ⟨cK cy 2 rfl rfl, b 15, cO cy 2 1 15 (by decide), cK cy 15 rfl rfl, i0, by rw [cN cy 15 (c := 60) rfl rfl]; omega, fun v hv => ?_⟩
      subst hv
      rw [w32e (x := i + 1) (by omega) (by omega)]
      refine ih _ ⟨⟨by show 0 ≤ i + 1; omega, by show i + 1 ≤ _; omega⟩, FrZ_wI f (Or.inl (WB_a (by decide) (by decide))), fun j hj => ?_⟩ (by show ((ps.length : Int) - (i + 1)).toNat < ((ps.length : Int) - i).toNat; omega)
      have hj : (j : Int) < i + 1 := hj
      show zI (wI y (b 15) i x) (b 15) j = _
      by_cases ej : (j : Int) = i
      · rw [zI_wI, if_pos ⟨rfl, ej⟩, show j = i.toNat by omega, se, ex, Int.toNat_of_nonneg i0]; omega
      · rw [zI_wI, if_neg (fun w => ej w.2)]; exact e j (by omega)
    · rw [if_neg dk]
      have bj := wb (m := k.toNat) (by omega)
      rw [if_neg (by omega), w32e (x := x - 1) (by omega) (by omega)]
      refine ⟨b 15, cO cy 2 1 15 (by decide), cK cy 15 rfl rfl, by omega, by rw [cN cy 15 (c := 60) rfl rfl]; omega, ?_⟩
      have es := e (wlk (spnL ps) k.toNat (i - 1)).toNat (by omega)
      rw [Int.toNat_of_nonneg bj.1] at es
      rw [show x - 1 = wlk (spnL ps) k.toNat (i - 1) by omega, es, w32e (x := k + 1) (by omega) (by omega)]
      refine ih2 _ ⟨⟨by show 0 ≤ k + 1; omega, by show k + 1 ≤ _; omega⟩, ?_⟩ (by show ((ps.getD i.toNat pd0).2.1 - (k + 1)).toNat < ((ps.getD i.toNat pd0).2.1 - k).toNat; omega)
      show _ = 1 + wlk (spnL ps) (k + 1).toNat (i - 1)
      rw [show (k + 1).toNat = k.toNat + 1 by omega, wlk_s]
      simp only
      omega
def wWf : WR := [(2, some 3), (2, some 4), (2, some 5), (2, some 6), (14, none), (15, none), (16, some 1), (16, some 2), (16, some 3), (17, none)]
theorem RC_wF {z y : Z} {b : Nat → Nat} {I : Nat → Prop} {S : SS} (R : RC z b I S) (f0 : FrZ (WB b wWf) z y) : RC y b I S := by
  have f := WB_L f0
  obtain ⟨c, r, ht, hl, hb, hk, hq⟩ := R
  exact ⟨CWz_fr c f (by decide), Frz_fr r f, RCt_fr c f (by decide) ht, RCl_fr c r f (by decide) hl, RCb_fr c f (by decide) hb, RCk_fr c r f (by decide) hk, RCq_fr c r f (by decide) hq⟩
/-- a content as the parser or a shift makes it -/
def WfD (c : Cont) : Prop := ∀ k l ps, c = some (k, l, ps) → (k = 5 → WfF ps ∧ (1 ≤ ps.length ∧ ps.length ≤ 60) ∧ ∀ p ∈ ps, WfP p) ∧ (k ≠ 5 → l.1 = k ∧ WfL l)
theorem WfD_M {u : Mu} {q : Int} {c : Cont} (h : ContM u q c) : WfD c := by
  intro k l ps e
  subst e
  unfold ContM at h
  simp only at h
  constructor
  · intro k5
    rw [if_pos k5] at h
    obtain ⟨-, -, ⟨x3, x5⟩, -, x7⟩ := h
    refine ⟨x5, x3, fun p hp => ?_⟩
    obtain ⟨i, hi, e⟩ := List.getElem_of_mem hp
    have := (x7 i hi).1.2.2.2.2.2.2.2.2.2
    rw [List.getD_eq_getElem?_getD, List.getElem?_eq_getElem hi] at this
    rw [← e]; exact this
  · intro k5
    rw [if_neg k5] at h
    exact ⟨h.2.2.1, h.2.2.2.1⟩
theorem o_write {z : Z} {b : Nat → Nat} {I : Nat → Prop} {v : Int} {S : SS} {r : Option Nat} {c : Cont} {sa : Nat} {P : Z → Prop} (R : RC z b I S) (hw : WzI z I) (hv : isShP v S) (hc : ContC z I r c) (wd : WfD c) (hn : VrC S.2.1.1 c) (ssa : ShC z I sa (shOf v S)) (h : ∀ y, (wrC (EnW v S) c).length ≤ 2000 → OutC y b (wrC (EnW v S) c) → FrZ (WB b wWf) z y → P y) : F_X10_write (b 2) r (some sa) (some (b 3)) z P := by
  obtain ⟨cw, rf, -⟩ := id R
  have hB := RC_Bd R
  unfold F_X10_write
  refine ⟨cK cw 2 rfl rfl, ?_⟩
  rintro _ rfl
  rintro _ rfl
  rintro _ rfl
  have n14 : b 14 ≠ b 2 := cNe cw rfl rfl rfl
  have f0 : FrZ (WB b wWf) z (wO (wO (wI z (b 2) 3 0) (b 2) 5 (some sa)) (b 2) 6 (some (b 3))) := FrZ_wO (FrZ_wO (FrZ_wI FrZ_rf (Or.inl (WB_i (by decide) (by decide)))) (Or.inl (WB_i (by decide) (by decide)))) (Or.inl (WB_i (by decide) (by decide)))
  have e5 : zO (wO (wO (wI z (b 2) 3 0) (b 2) 5 (some sa)) (b 2) 6 (some (b 3))) (b 2) 5 = some sa := by rw [zO_wO, if_neg (by omega), zO_wO, if_pos ⟨rfl, rfl⟩]
  have e6 : zO (wO (wO (wI z (b 2) 3 0) (b 2) 5 (some sa)) (b 2) 6 (some (b 3))) (b 2) 6 = some (b 3) := by rw [zO_wO, if_pos ⟨rfl, rfl⟩]
  have o0 : OutC (wO (wO (wI z (b 2) 3 0) (b 2) 5 (some sa)) (b 2) 6 (some (b 3))) b [] := ⟨by rw [zI_wO, zI_wO, zI_wI, if_pos ⟨rfl, rfl⟩]; rfl, fun i hi => by cases hi⟩
  generalize wO (wO (wI z (b 2) 3 0) (b 2) 5 (some sa)) (b 2) 6 (some (b 3)) = z0 at f0 e5 e6 o0
  have R0 := RC_wF R f0
  have w0 := WzI_fr rf (WB_L f0) (WL_I rf) hw
  have c0 := ContC_fr (WB_L f0) (WL_I rf) hc
  have s0 := ShC_fr (WB_L f0) (WL_I rf) (WL_7 cw) ssa
  obtain ⟨cw0, rf0, -⟩ := id R0
  have cs : ∀ t ∈ wWc, t ∈ wWf := by decide
  match c, wd, hn, c0, h with
  | none, _, _, c0, h =>
    rw [if_pos (show r = none from c0)]
    exact h z0 (by show 0 ≤ 2000; omega) o0 f0
  | some (k, l, ps), wd, hn, c0, h =>
    have hn' : ∀ p ∈ ps, p.2.2.2.2.2 < S.2.1.1 := hn k l ps rfl
    obtain ⟨wd1, wd2⟩ := wd k l ps rfl
    obtain ⟨a, pa, rfl, ia, ka, a0, a2, ipa, kpa, npa, hps, hli⟩ := c0
    rw [if_neg (by simp)]
    refine ⟨a, rfl, ka, ?_⟩
    rw [a0]
    unfold wrC at h
    by_cases k5 : k = 5
    · rw [if_pos k5]
      simp only [if_pos k5] at h
      obtain ⟨wf, l60, wfa⟩ := wd1 k5
      have n40 := hB.2.1.1.2
      have wl := wr_len (E := EnW v S) (ps := ps) n40 (EnW_b hB hv) wf wfa hn' 60 ((ps.length : Int) - 1) (by omega) (by omega)
      have ws := wf.2.1
      rw [show ((ps.length : Int) - 1).toNat = ps.length - 1 by omega, ws] at wl
      replace h := fun w => h w (by rw [List.length_append]; show 1 + _ ≤ 2000; omega)
      rintro _ rfl
      rw [a2]
      have f1 : FrZ (WB b wWf) z0 (wO z0 (b 2) 4 (some pa)) := FrZ_wO FrZ_rf (Or.inl (WB_i (by decide) (by decide)))
      have e4 : zO (wO z0 (b 2) 4 (some pa)) (b 2) 4 = some pa := by rw [zO_wO, if_pos ⟨rfl, rfl⟩]
      have e5' : zO (wO z0 (b 2) 4 (some pa)) (b 2) 5 = some sa := by rw [zO_wO, if_neg (by omega)]; exact e5
      have e6' : zO (wO z0 (b 2) 4 (some pa)) (b 2) 6 = some (b 3) := by rw [zO_wO, if_neg (by omega)]; exact e6
      have o1 : OutC (wO z0 (b 2) 4 (some pa)) b [] := ⟨by rw [zI_wO]; exact o0.1, fun i hi => by cases hi⟩
      generalize wO z0 (b 2) 4 (some pa) = z1 at f1 e4 e5' e6' o1
      have R1 := RC_wF R0 f1
      obtain ⟨cw1, rf1, -⟩ := id R1
      have p0 : PtC z0 I pa ps := ⟨⟨ipa (by omega), kpa, npa⟩, hps⟩
      have p1 := PtC_fr (WB_L f1) (WL_I rf0) p0
      have w1 := WzI_fr rf0 (WB_L f1) (WL_I rf0) w0
      have s1 := ShC_fr (WB_L f1) (WL_I rf0) (WL_7 cw0) s0
      refine o_starts cw1 rf1 e4 p1 wf wfa l60.2 (fun z2 f2 st => ?_)
      have f2' : FrZ (WB b wWf) z1 z2 := WB_s (by decide) f2
      have R2 := RC_wF R1 f2'
      obtain ⟨cw2, rf2, -⟩ := id R2
      have F : FmC z2 b I S v ps pa := ⟨⟨R2, WzI_fr rf1 (WB_L f2) (WL_I rf1) w1⟩, ⟨(bB cw1 f2 (R := [(2, none)]) (by decide) (k := 2) (by decide) (i := 4) (wHas_a (by decide))).2.2.trans e4, PtC_fr (WB_L f2) (WL_I rf1) p1⟩, ⟨sa, (bB cw1 f2 (R := [(2, none)]) (by decide) (k := 2) (by decide) (i := 5) (wHas_a (by decide))).2.2.trans e5', ShC_fr (WB_L f2) (WL_I rf1) (WL_7 cw1) s1⟩, (bB cw1 f2 (R := [(2, none)]) (by decide) (k := 2) (by decide) (i := 6) (wHas_a (by decide))).2.2.trans e6', st⟩
      have o2 : OutC z2 b [] := ⟨(bB cw1 f2 (R := [(2, none)]) (by decide) (k := 2) (by decide) (i := 3) (wHas_a (by decide))).1.trans o1.1, fun i hi => by cases hi⟩
      refine ⟨cK cw2 2 rfl rfl, o_put cw2 o2 (by decide) (by decide) (by decide) (fun z3 o3 f3 => ?_)⟩
      have F3 := FmC_fr (pu_W f3) F
      have cw3 := FmC_c F3
      refine ⟨cK cw3 2 rfl rfl, pa, F3.2.1.1, F3.2.1.2.1.2.1, 120, by decide, ?_⟩
      rw [F3.2.1.2.1.2.2, w32e (by omega) (by omega)]
      exact o_part hv wf wfa hn' l60.2 60 120 _ 0 z3 _ _ (by decide) (by omega) (by omega) (by omega) (by decide) (by omega) F3 o3 (by rw [List.length_append]; show 0 + 1 + _ ≤ 2000; omega) (fun w o4 f4 => h w o4 (FrZ_tr f0 (FrZ_tr f1 (FrZ_tr f2' (WB_s cs (FrZ_tr (pu_W f3) f4))))))
    · rw [if_neg k5]
      simp only [if_neg k5] at h
      rw [if_neg k5] at hli
      obtain ⟨lv, lv1, lv2⟩ := hli
      obtain ⟨lk, wl⟩ := wd2 k5
      have tl := txt_len wl
      have cl : (if k = 2 then ci (mkP l.2.2) [39] [] else ([] : List Int)).length ≤ 1 := by
        split
        · by_cases mk : mkP l.2.2
          · rw [ci_1 mk]; exact Nat.le_refl 1
          · rw [ci_0 mk]; exact Nat.zero_le 1
        · exact Nat.zero_le 1
      replace h := fun w => h w (by rw [List.length_append]; omega)
      have key : ∀ (y : Z) (M : List Int), M.length ≤ 1 → FrZ (WB b wPu) z0 y → OutC y b M → (∀ w, OutC w b (M ++ (txtL l).2.2) → FrZ (WB b wWf) z w → P w) → F_X10_write_83 (b 2) (some a) y P := by
        intro y M hM fy oy hh
        have cy := CWz_P cw0 fy
        have ey : zO y a 1 = zO z0 a 1 := (fy.2 a 1 (by rw [ka]; decide) (fun w => (rf0 a ia).2.2.2 _ w.choose_spec.2.1 w.choose_spec.2.2.1)).2.2
        have ky : zK y a = 2 := (fy.1 a (by rw [ka]; decide)).1.trans ka
        unfold F_X10_write_83
        refine ⟨a, rfl, ky, cK cy 2 rfl rfl, ?_⟩
        rw [ey, lv1]
        exact o_value cy (Frz_fr rf0 fy) (WzI_fr rf0 (WB_L fy) (WL_I rf0) w0) oy (LitC_fr (WB_L fy) (WL_I rf0) lv2) wl (by omega) (fun w ow fw => hh w ow (FrZ_tr f0 (WB_s cs (FrZ_tr (pu_W fy) fw))))
      by_cases k2 : k = 2
      · rw [if_pos k2]
        rw [if_pos k2] at h
        rw [lv1]
        refine o_changes w0 lv2 wl (by omega) (fun mk => ?_) (fun mk => ?_)
        · rw [if_neg (by decide)]
          rw [ci_1 mk] at h
          exact o_put cw0 o0 (by decide) (by decide) (by decide) (fun y oy fy => key y _ (by decide) fy oy h)
        · rw [if_pos rfl]
          rw [ci_0 mk] at h
          exact key z0 [] (by decide) FrZ_rf o0 h
      · rw [if_neg k2]
        rw [if_neg k2] at h
        exact key z0 [] (by decide) FrZ_rf o0 h
