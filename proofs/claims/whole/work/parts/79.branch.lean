/-! ===== more that never changes ===== -/
section MoI
variable {z : Z} {I J : Nat → Prop}
theorem LitC_I (i : ∀ a, I a → J a) {a : Nat} {l : Lit} (h : LitC z I a l) : LitC z J a l := by
  obtain ⟨h1, h2, h3, ba, h4, h5, h6⟩ := h
  exact ⟨i _ h1, h2, h3, ba, h4, i _ h5, h6⟩
theorem PrtC_I (i : ∀ a, I a → J a) {a : Nat} {p : Prt} (h : PrtC z I a p) : PrtC z J a p := by
  obtain ⟨h1, h2, h3, h4, h5, h6⟩ := h
  refine ⟨i _ h1, h2, h3, h4, ?_, h6⟩
  revert h5
  cases p.2.2.1 with
  | none => exact fun q => q
  | some l => rintro ⟨v, g1, g2⟩; exact ⟨v, g1, LitC_I i g2⟩
theorem ContC_I (i : ∀ a, I a → J a) {r : Option Nat} {c : Cont} (h : ContC z I r c) : ContC z J r c := by
  match c, h with
  | none, h => exact h
  | some (k, l, ps), h =>
    obtain ⟨a, pa, h1, h2, h3, h4, h5, h6, h7, h8, h9, h10⟩ := h
    refine ⟨a, pa, h1, i _ h2, h3, h4, h5, fun n => i _ (h6 n), h7, h8, fun j hj => ?_, ?_⟩
    · obtain ⟨q, g1, g2⟩ := h9 j hj; exact ⟨q, g1, PrtC_I i g2⟩
    · split at h10
      · next c => rw [if_pos c]; exact h10
      · next c => rw [if_neg c]; obtain ⟨v, g1, g2⟩ := h10; exact ⟨v, g1, LitC_I i g2⟩
theorem ShC_I (i : ∀ a, I a → J a) {a : Nat} {s : Sh} (h : ShC z I a s) : ShC z J a s := by
  obtain ⟨ra, ca, xa, S, h1, h2, h3, h4, h5, h6⟩ := h
  exact ⟨ra, ca, xa, S, i _ h1, i _ h2, i _ h3, h4, h5, fun r c a1 a2 a3 a4 => ContC_I i (h6 r c a1 a2 a3 a4)⟩
theorem ShO_I (i : ∀ a, I a → J a) {r : Option Nat} {s : Sh} (h : ShO z I r s) : ShO z J r s := by
  obtain ⟨a, h1, h2⟩ := h; exact ⟨a, h1, ShC_I i h2⟩
theorem CfC_I (i : ∀ a, I a → J a) {r : Option Nat} {s : Cf} (h : CfC z I r s) : CfC z J r s := by
  obtain ⟨a, h0, h1, h2, h3, h4, h5, h6, h7, h8⟩ := h
  exact ⟨a, h0, h1, h2, h3, h4, h5, ContC_I i h6, ContC_I i h7, h8⟩
theorem RC_I {b : Nat → Nat} {S : SS} (i : ∀ a, I a → J a) (hJ : Frz z b J) (h : RC z b I S) : RC z b J S := by
  obtain ⟨c, r, ht, hl, hb, hk, hq⟩ := h
  refine ⟨c, hJ, ht, ⟨hl.1, fun k a c => ?_⟩, hb, ⟨ShO_I i hk.1, hk.2.1, fun k a c => ShO_I i (hk.2.2.1 k a c), fun k a c => ShO_I i (hk.2.2.2 k a c)⟩, ⟨⟨hq.1.1, fun k a c => CfC_I i (hq.1.2.1 k a c), hq.1.2.2⟩, hq.2⟩⟩
  obtain ⟨⟨g1, g2⟩, g3⟩ := hl.2 k a c
  exact ⟨⟨ShO_I i g1, g2⟩, g3⟩
end MoI
theorem RC_nW {z y : Z} {b : Nat → Nat} {I : Nat → Prop} {S : SS} (f0 : FrZ nW z y) (h : RC z b I S) : RC y b I S := by
  obtain ⟨c, r, ht, hl, hb, hk, hq⟩ := h
  have f : FrZ (WL z b [] no1 no1) z y := FrZ_mono f0 (fun _ _ _ w => w.elim)
  exact ⟨CWz_fr c f (by decide), Frz_fr r f, RCt_fr c f (by decide) ht, RCl_fr c r f (by decide) hl, RCb_fr c f (by decide) hb, RCk_fr c r f (by decide) hk, RCq_fr c r f (by decide) hq⟩
theorem rcix {r c nr nc : Int} (r1 : 0 ≤ r) (r2 : r < nr) (c1 : 0 ≤ c) (c2 : c < nc) : 0 ≤ r * nc + c ∧ r * nc + c < nr * nc := by
  have := cix (r := r + 1) (c := c + 1) (nr := nr) (nc := nc) (by omega) (by omega) (by omega) (by omega)
  rw [show r + 1 - 1 = r by omega, show c + 1 - 1 = c by omega] at this
  exact ⟨this.2.1, this.2.2⟩
theorem ixrc {i nr nc : Int} (h0 : 0 ≤ i) (h1 : i < nr * nc) (hc : 1 ≤ nc) : (0 ≤ i / nc ∧ i / nc < nr) ∧ (0 ≤ i % nc ∧ i % nc < nc) ∧ i / nc * nc + i % nc = i := by
  refine ⟨⟨Int.ediv_nonneg h0 (by omega), Int.ediv_lt_of_lt_mul (by omega) h1⟩, ⟨Int.emod_nonneg _ (by omega), Int.emod_lt_of_pos _ (by omega)⟩, ?_⟩
  exact Int.ediv_mul_add_emod i nc
/-- all contents of a Sheet's cells, by one place -/
theorem ShC_all {z : Z} {I : Nat → Prop} {xa : Nat} {s : Sh} (hc : 1 ≤ s.1.2) (h : ∀ r c, 0 ≤ r → r < s.1.1 → 0 ≤ c → c < s.1.2 → ContC z I (zO z xa (r * s.1.2 + c)) (s.2.2.2 r c)) : ∀ i, 0 ≤ i → i < s.1.1 * s.1.2 → ∀ v, zO z xa i = some v → zK z v = 2 := by
  intro i i0 i1 v hv
  obtain ⟨⟨a1, a2⟩, ⟨a3, a4⟩, a5⟩ := ixrc i0 i1 hc
  have q := h _ _ a1 a2 a3 a4
  rw [a5] at q
  exact (ContC_k q v hv).1
/-- what is fixed has grown by new cells -/
def GrI (z : Z) (I J : Nat → Prop) : Prop := (∀ a, I a → J a) ∧ ∀ a, J a → I a ∨ zK z a = 0
def GrL (z : Z) (I J : Nat → Prop) (la : Nat) : Prop := (∀ a, I a → J a) ∧ ∀ a, J a → I a ∨ a = la ∨ zK z a = 0
theorem GrI_rf {z : Z} {I : Nat → Prop} : GrI z I I := ⟨fun _ h => h, fun _ h => Or.inl h⟩
theorem GrI_pre {W : Nat → Int → Prop} {z y : Z} {I J : Nat → Prop} (f : FrZ W z y) (g : GrI y I J) : GrI z I J := ⟨g.1, fun a h => (g.2 a h).imp id (new_of f)⟩
theorem GrI_tr {W : Nat → Int → Prop} {z y : Z} {I J K : Nat → Prop} (f : FrZ W z y) (g : GrI z I J) (h : GrI y J K) : GrI z I K := ⟨fun a ha => h.1 a (g.1 a ha), fun a ha => (h.2 a ha).elim (g.2 a) (fun e => Or.inr (new_of f e))⟩
theorem GrI_L {W : Nat → Int → Prop} {z y : Z} {I J : Nat → Prop} {la : Nat} (f : FrZ W z y) (g : GrL y I J la) (h : zK z la = 0) : GrI z I J := ⟨g.1, fun a ha => (g.2 a ha).elim Or.inl (fun e => Or.inr (e.elim (fun e => by rw [e]; exact h) (new_of f)))⟩
theorem GrI_1 {z : Z} {I : Nat → Prop} {x : Nat} (h : zK z x = 0) : GrI z I (fun a => I a ∨ a = x) := ⟨fun _ ha => Or.inl ha, fun a ha => ha.imp id (fun e => by rw [e]; exact h)⟩
/-- a Sheet's twin, fixed at once -/
theorem k_twinS {z : Z} {b : Nat → Nat} {I : Nat → Prop} {S : SS} {a : Nat} {s : Sh} {c sl : Nat} {P : Option Nat → Z → Prop} (R : RC z b I S) (h0 : ShC z I a s) (hc : 2 ≤ c) (hs : 324 ≤ sl) (h : ∀ q y J, GrI z I J → FrZ nW z y → zK z q = 0 → ShC y J q s → zO y q 3 = none → RC y b J S → P (some q) y) : F_X6_twin a z c sl P := by
  obtain ⟨ra, ca, xa, Sp, i1, i2, i3, g4, g5, g6⟩ := h0
  obtain ⟨s1, s2, s3, s4, s5, s6, s7, s8, s9, s10, s11, s12⟩ := id Sp
  have g3 := cnt s11 s12
  refine k_twin Sp (ShC_all s12.1 g6) hc (by omega) (fun q x y nw ex => ?_)
  obtain ⟨n1, n2, n3, n4, n5, n6, n7⟩ := nw
  have fr := R.2.1
  have f : FrZ (WL z b [] no1 no1) z y := FrZ_mono n4 (fun _ _ _ w => w.elim)
  have hJ : Frz y b (fun a => I a ∨ a = x) := by
    rintro a (ha | rfl)
    · exact Frz_fr fr f a ha
    · have kx : zK y a = 19 := n5.2.2.2.2.2.2.1
      refine ⟨by rw [kx]; decide, by rw [kx]; decide, by rw [kx]; decide, fun k hk e => ?_⟩
      exact (ckz_k k hk).2.2 (by rw [← (R.1.1 k hk).1, ← e]; exact n2)
  have iJ : ∀ a, I a → (fun a => I a ∨ a = x) a := fun a ha => Or.inl ha
  refine h q y (fun a => I a ∨ a = x) (GrI_1 n2) n4 n1 ?_ n6 (RC_I iJ hJ (RC_nW n4 R))
  refine ⟨ra, ca, x, n5, Or.inl i1, Or.inl i2, Or.inr rfl, fun k k0 k1 => ?_, fun k k0 k1 => ?_, fun r c r0 r1 c0 c1 => ?_⟩
  · rw [(n4.2 ra k (by rw [s5]; decide) (fun w => w)).1]; exact g4 k k0 k1
  · rw [(n4.2 ca k (by rw [s6]; decide) (fun w => w)).1]; exact g5 k k0 k1
  · have q := rcix r0 r1 c0 c1
    rw [ex _ q.1 q.2]
    exact ContC_I iJ (ContC_fr f (WL_I fr) (g6 r c r0 r1 c0 c1))
/-! ===== head, difference, branch, drop ===== -/
def pHead (S : SS) : Int := S.2.2.1.1 S.2.2.1.2.1
theorem o_head {z : Z} {b : Nat → Nat} {n : Int} {s : SB} {P : Int → Prop} (c : CWz z b) (hb : RCb z b n s) (h : P (s.1 s.2.1)) : F_X11_head (b 0) z P := by
  obtain ⟨h1, ⟨h2, h3, h4, h5⟩, -⟩ := hb
  unfold F_X11_head
  refine ⟨cK c 0 rfl rfl, b 9, cO c 0 8 9 (by decide), cK c 9 rfl rfl, ?_⟩
  rw [h2]
  refine ⟨h3, by rw [cN c 9 (c := 6) rfl rfl]; exact h4, ?_⟩
  rw [(h1 _ h3 h4).1]; exact h
theorem i_headB {u : Mu} {S : SS} {P : Int → Prop} (hB : Bd S) (hb : RMb u S.2.2.1) (h : P (pHead S)) : F_X12_head u P := by
  have q := hB.2.2.1.2.1
  refine i_head (by rw [hb.2.1]; exact q.1) (by rw [hb.2.1]; exact q.2.1) ?_
  rw [hb.2.1, hb.1 _ q.1 q.2.1]; exact h
def pDifference (i w : Int) (S : SS) : Int := if (0 ≤ i ∧ i < S.2.2.2.2.2.2.1) ∧ 0 ≤ w ∧ w ≤ 2 then (if w = 0 then (S.2.2.2.2.2.2.2 i).1 else if w = 1 then (S.2.2.2.2.2.2.2 i).2.1 else (S.2.2.2.2.2.2.2 i).2.2) else -1
theorem o_difference {z : Z} {b : Nat → Nat} {I : Nat → Prop} {S : SS} {i w : Int} {P : Int → Prop} (R : RC z b I S) (h : P (pDifference i w S)) : F_X11_difference (b 0) i w z P := by
  obtain ⟨c, -, -, -, -, -, -, ⟨q1, q2, q3⟩, q4⟩ := R
  unfold F_X11_difference F_X11_difference_21
  unfold pDifference at h
  by_cases e1 : i < 0
  · rw [if_pos e1]; rw [if_neg (by omega)] at h; exact h
  · rw [if_neg e1]
    refine ⟨cK c 0 rfl rfl, ?_⟩
    rw [q1]
    by_cases e2 : S.2.2.2.2.2.2.1 ≤ i
    · rw [if_pos e2]; rw [if_neg (by omega)] at h; exact h
    · rw [if_neg e2]
      by_cases e3 : w < 0
      · rw [if_pos e3]; rw [if_neg (by omega)] at h; exact h
      · rw [if_neg e3]
        by_cases e4 : w ≤ 2
        · rw [if_pos e4]; rw [if_pos (by omega)] at h
          refine ⟨b 10, cO c 0 9 10 (by decide), cK c 10 rfl rfl, ?_⟩
          rw [w32e (x := 3 * i) (by omega) (by omega), w32e (x := 3 * i + w) (by omega) (by omega)]
          refine ⟨by omega, by rw [cN c 10 (c := 1218) rfl rfl]; omega, ?_⟩
          obtain ⟨d1, d2, d3⟩ := q4 i (by omega) (by omega)
          by_cases w0 : w = 0
          · rw [if_pos w0] at h; rw [w0, show 3 * i + 0 = 3 * i by omega, d1]; exact h
          · rw [if_neg w0] at h
            by_cases w1 : w = 1
            · rw [if_pos w1] at h; rw [w1, d2]; exact h
            · rw [if_neg w1] at h; rw [show w = 2 by omega, d3]; exact h
        · rw [if_neg e4]; rw [if_neg (by omega)] at h; exact h
theorem i_difference {u : Mu} {N : Int} {S : SS} {i w : Int} {P : Int → Mu → Prop} (hB : Bd S) (R : RM u N S) (h : ∀ v, RM v N S → FrM [(0, some 0)] u v → P (pDifference i w S) v) : F_X12_difference i w u P := by
  have R' := RM_thr (x := 0) hB R
  have f : FrM [(0, some 0)] u (uI u 0 0 0) := FrM_uI FrM_rf (wHas_i (by decide))
  have q := h _ R' f
  unfold F_X12_difference F_X12_difference_63
  rintro _ rfl
  generalize hv : uI u 0 0 0 = v at R' f q ⊢
  obtain ⟨-, -, -, -, -, -, q1, q2⟩ := R'
  have b1 := hB.2.2.2.2.2
  rw [q1, w32e (by omega) (by omega)]
  refine i_in ?_
  unfold pDifference at q
  by_cases e : 0 ≤ i ∧ i ≤ S.2.2.2.2.2.2.1 - 1
  · rw [show tb (0 ≤ i ∧ i ≤ S.2.2.2.2.2.2.1 - 1) = 1 by rw [tb, if_pos e], if_neg (by decide)]
    obtain ⟨d1, d2, d3⟩ := q2 i (by omega) (by omega)
    by_cases w0 : w = 0
    · rw [if_pos w0]; rw [if_pos (by omega), if_pos w0] at q; exact ⟨by omega, by omega, by rw [d1]; exact q⟩
    · rw [if_neg w0]
      by_cases w1 : w = 1
      · rw [if_pos w1]; rw [if_pos (by omega), if_neg w0, if_pos w1] at q; exact ⟨by omega, by omega, by rw [d2]; exact q⟩
      · rw [if_neg w1]
        by_cases w2 : w = 2
        · rw [if_pos w2]; rw [if_pos (by omega), if_neg w0, if_neg w1] at q; exact ⟨by omega, by omega, by rw [d3]; exact q⟩
        · rw [if_neg w2]; rw [if_neg (by omega)] at q; exact q
  · rw [show tb (0 ≤ i ∧ i ≤ S.2.2.2.2.2.2.1 - 1) = 0 by rw [tb, if_neg e], if_pos rfl]
    rw [if_neg (by omega)] at q; exact q
def pBranch (x : Int) (S : SS) : Nat × Int × SS := if 0 ≤ x ∧ x ≤ 5 then (if S.2.2.1.1 x = -1 then (0, pHead S, S.1, S.2.1, ((fun k => if k = x then pHead S else S.2.2.1.1 k), S.2.2.1.2), S.2.2.2) else (2, 0, S)) else (1, 0, S)
theorem o_isBranch {x : Int} {P : Int → Prop} (h : P (tb (0 ≤ x ∧ x ≤ 5))) : F_X11_isBranch x P := by
  unfold F_X11_isBranch F_X11_isBranch_14 F_X11_isBranch_15
  by_cases e : x < 0
  · rw [if_pos e]; rw [tb, if_neg (by omega)] at h; exact ⟨z1_0, h⟩
  · rw [if_neg e]
    by_cases e2 : 6 ≤ x
    · rw [if_pos e2]; rw [tb, if_neg (by omega)] at h; exact ⟨z1_0, h⟩
    · rw [if_neg e2]; rw [tb, if_pos (by omega)] at h; exact ⟨z1_1, h⟩
theorem o_branch {z : Z} {b : Nat → Nat} {I : Nat → Prop} {S : SS} {x : Int} {c s : Nat} {P : Int → Z → Prop} {X : Nat → Z → Prop} (R : RC z b I S) (hc : 1 ≤ c) (hs : 6 ≤ s) (hx1 : (pBranch x S).1 = 1 → X 0 z) (hx2 : (pBranch x S).1 = 2 → X 3 z) (h : (pBranch x S).1 = 0 → ∀ y, FrZ (WL z b [(9, none)] no1 no1) z y → RC y b I (pBranch x S).2.2 → P (pBranch x S).2.1 y) : F_X11_branch (b 0) x z c s P X := by
  obtain ⟨cw, r, ht, hl, hb, hk, hq⟩ := id R
  unfold F_X11_branch
  unfold pBranch at hx1 hx2 h
  refine o_isBranch ?_
  by_cases e : 0 ≤ x ∧ x ≤ 5
  · rw [show tb (0 ≤ x ∧ x ≤ 5) = 1 by rw [tb, if_pos e], if_neg (by decide)]
    rw [if_pos e] at hx1 hx2 h
    refine ⟨cK cw 0 rfl rfl, b 9, cO cw 0 8 9 (by decide), cK cw 9 rfl rfl, e.1, by rw [cN cw 9 (c := 6) rfl rfl]; omega, ?_⟩
    obtain ⟨b1, b2⟩ := hb.1 x e.1 (by omega)
    rw [b1]
    by_cases e2 : S.2.2.1.1 x = -1
    · rw [if_pos e2]; rw [if_pos e2] at h
      refine o_head cw hb ?_
      rintro _ rfl
      have f : FrZ (WL z b [(9, none)] no1 no1) z (wI z (b 9) x (pHead S)) := FrZ_wI FrZ_rf (Or.inl (WL_a (by decide) (by decide)))
      have n90 : b 0 ≠ b 9 := cNe cw rfl rfl rfl
      have cy := CWz_fr cw f (by decide)
      have hh : -1 ≤ pHead S ∧ pHead S < S.2.1.1 ∧ 0 ≤ pHead S := ⟨(hb.1 _ hb.2.1.2.1 hb.2.1.2.2.1).2.1, (hb.1 _ hb.2.1.2.1 hb.2.1.2.2.1).2.2, hb.2.1.2.2.2⟩
      have hb' : RCb (wI z (b 9) x (pHead S)) b S.2.1.1 ((fun k => if k = x then pHead S else S.2.2.1.1 k), S.2.2.1.2) := by
        obtain ⟨g1, g2, g3⟩ := hb
        unfold RCb
        simp only [zI_wI, if_neg (fun w : b 0 = b 9 ∧ _ => n90 w.1)]
        refine ⟨fun k k0 k1 => ?_, ⟨g2.1, g2.2.1, g2.2.2.1, ?_⟩, g3⟩
        · by_cases ck : k = x
          · rw [if_pos ⟨trivial, ck⟩, if_pos ck]; exact ⟨rfl, hh.1, hh.2.1⟩
          · rw [if_neg (fun w => ck w.2), if_neg ck]; exact g1 k k0 k1
        · by_cases ck : S.2.2.1.2.1 = x
          · rw [if_pos ck]; exact hh.2.2
          · rw [if_neg ck]; exact g2.2.2.2
      refine o_head cy hb' ?_
      have eh : (fun k => if k = x then pHead S else S.2.2.1.1 k) S.2.2.1.2.1 = pHead S := by
        show (if S.2.2.1.2.1 = x then pHead S else S.2.2.1.1 S.2.2.1.2.1) = pHead S
        split
        · rfl
        · rfl
      show P ((fun k => if k = x then pHead S else S.2.2.1.1 k) S.2.2.1.2.1) _
      rw [eh]
      exact h rfl _ f ⟨cy, Frz_fr r f, RCt_fr cw f (by decide) ht, RCl_fr cw r f (by decide) hl, hb', RCk_fr cw r f (by decide) hk, RCq_fr cw r f (by decide) hq⟩
    · rw [if_neg e2]; rw [if_neg e2] at hx2; exact ⟨hc, hs, hx2 rfl⟩
  · rw [show tb (0 ≤ x ∧ x ≤ 5) = 0 by rw [tb, if_neg e], if_pos rfl]
    rw [if_neg e] at hx1; exact ⟨hc, hs, hx1 rfl⟩
theorem i_branch {u : Mu} {N : Int} {S : SS} {x : Int} {P : Int → Mu → Prop} (hB : Bd S) (R : RM u N S) (h : ∀ v, RM v N (pBranch x S).2.2 → FrM [(0, some 0), (11, none)] u v → mI v 0 0 = ((pBranch x S).1 : Int) → P (pBranch x S).2.1 v) : F_X12_branch x u P := by
  unfold F_X12_branch
  rintro _ rfl
  have R' := RM_thr (x := 0) hB R
  have f : FrM [(0, some 0), (11, none)] u (uI u 0 0 0) := FrM_uI FrM_rf (wHas_i (by decide))
  have z0 : mI (uI u 0 0 0) 0 0 = 0 := by rw [mI_uI, if_pos ⟨rfl, rfl⟩]
  generalize hv : uI u 0 0 0 = v at R' f z0 ⊢
  obtain ⟨⟨n1, n2⟩, ht, hl, hb, hk, hq⟩ := id R'
  unfold pBranch at h
  refine i_in ?_
  by_cases e : 0 ≤ x ∧ x ≤ 5
  · rw [show tb (0 ≤ x ∧ x ≤ 5) = 1 by rw [tb, if_pos e], if_neg (by decide)]
    rw [if_pos e] at h
    refine ⟨e.1, by omega, ?_⟩
    have b1 := hB.2.2.1.1 x e.1 (by omega)
    rw [hb.1 x e.1 (by omega)]
    by_cases e2 : S.2.2.1.1 x = -1
    · rw [if_pos (by omega)]; rw [if_pos e2] at h
      refine i_headB hB hb ?_
      rintro _ rfl
      have f2 : FrM [(11, none)] v (uI v 11 x (pHead S)) := FrM_uI FrM_rf (wHas_a (by decide))
      have g := Grw_fr n1.1 f2 (by decide)
      have e19 := mE f2 (R := rgC) (by decide) (k := 0) (i := 19) (wHas_i (by decide))
      have e24 := mE f2 (R := rgC) (by decide) (k := 0) (i := 24) (wHas_i (by decide))
      have q := hB.2.2.1.2.1
      have b12 : mI (uI v 11 x (pHead S)) 0 12 = S.2.2.1.2.1 := by rw [mI_uI, if_neg (by omega)]; exact hb.2.1
      refine i_head (by rw [b12]; exact q.1) (by rw [b12]; exact q.2.1) ?_
      have eh : mI (uI v 11 x (pHead S)) 11 S.2.2.1.2.1 = pHead S := by
        rw [mI_uI]
        split
        · rfl
        · exact hb.1 _ q.1 q.2.1
      rw [b12, eh]
      refine h _ ⟨by rw [e19, e24]; exact ⟨n1, n2⟩, RMt_fr f2 (by decide) ht, RMl_fr f2 (by decide) (fun k a c => (hB.2.1.2 k a c).1) g (fun k _ _ => SlM_fr f2 (by decide)) hl, ?_, RMk_fr f2 (by decide) (by decide) hB.2.2.2.1.1 hB.2.2.2.1.2.2.1 hB.2.2.2.1.2.2.2 g hk, RMq_fr f2 (by decide) g hq⟩ (FrM_uI f (wHas_a (by decide))) (by rw [mI_uI, if_neg (by omega)]; exact z0)
      obtain ⟨g1, g2⟩ := hb
      unfold RMb
      simp only [mI_uI]
      refine ⟨fun k k0 k1 => ?_, by simpa using g2⟩
      by_cases ck : k = x
      · rw [if_pos ⟨trivial, ck⟩, if_pos ck]
      · rw [if_neg (fun w => ck w.2), if_neg ck]; exact g1 k k0 k1
    · rw [if_neg (by omega)]; rw [if_neg e2] at h
      exact i_throwing (h _ (RM_thr hB R') (FrM_uI f (wHas_i (by decide))) (by rw [mI_uI, if_pos ⟨rfl, rfl⟩]; rfl))
  · rw [show tb (0 ≤ x ∧ x ≤ 5) = 0 by rw [tb, if_neg e], if_pos rfl]
    rw [if_neg e] at h
    exact i_throwing (h _ (RM_thr hB R') (FrM_uI f (wHas_i (by decide))) (by rw [mI_uI, if_pos ⟨rfl, rfl⟩]; rfl))
