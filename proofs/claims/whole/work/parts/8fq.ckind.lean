/-! ===== the system: kind, value, letter ===== -/
section Ki
variable {z : Z} {b sv sb : Nat → Nat} {I : Nat → Prop} {S : SS}
theorem o_seen {v r c : Int} {P : Option Nat → Prop} (R : RC z b I S) (C : Cac z b I sv sb S) (A : ShA S) (Vd : Vld z b v) (a : askP v r c S) (p : ∀ x xb, VlS z x xb (vvS v S (r - 1) (c - 1)) → VOk (vvS v S (r - 1) (c - 1)) → P (some x)) : F_X11_seen (b 0) v r c z P := by
  have cc := R.1
  obtain ⟨K, R8, V7, Cv, Di, Cw, St⟩ := id C
  obtain ⟨hv, hr, hcc⟩ := a
  unfold F_X11_seen F_X11_seen_26 F_X11_seen_42
  refine ⟨cK cc 0 rfl rfl, o_sheetOf R (fun _ a sa ea1 ea2 => ?_) (fun hn => absurd hv hn)⟩
  rw [if_neg (by simp)]
  refine ⟨a, rfl, ShC_7 sa, ?_⟩
  -- one set of cells for both
  obtain ⟨J, hJ⟩ : ∃ J : Nat → Prop, J = fun x => I x ∨ zK z x = 9 ∨ (zK z x = 14 ∧ zN z x = 24) := ⟨_, rfl⟩
  have iJ : ∀ x, I x → J x := fun x hx => by rw [hJ]; exact Or.inl hx
  have wJ : WzN z J := fun x hx hk => by
    rw [hJ] at hx
    rcases hx with hx | hx | hx
    · exact K.2.2.2.2.2.1 x hx hk
    · rw [hk] at hx; cases hx
    · rw [hx.2]; decide
  have sJ := ShC_I iJ sa
  have cv : CvL z b J a (shOf v S) (r - 1) (c - 1) (vvS v S (r - 1) (c - 1)) := by
    unfold vvS shOf at *
    by_cases e : v = -1
    · rw [if_pos e] at hr hcc sa ⊢
      rw [if_pos e]
      have hb := ShC_b sa
      have hne := Vd.1 e a (ea1 e)
      obtain ⟨⟨w1, w2⟩, w3⟩ := Cw a (ea1 e) hne
      obtain ⟨hi, d1, d2⟩ := xy_in hb (x := r - 1) (y := c - 1) (by omega) (by omega) (by omega) (by omega)
      have cdi := cd_in hb hi
      have ec : ctC S.2.2.2.1.1 (cdI S.2.2.2.1.1 ((r - 1) * S.2.2.2.1.1.1.2 + (c - 1))) = S.2.2.2.1.1.2.2.2 (r - 1) (c - 1) := by unfold ctC; rw [cdi.2.1, cdi.2.2, d1, d2]
      unfold CvL
      match ee : S.2.2.2.1.1.2.2.2 (r - 1) (c - 1) with
      | none =>
        have nf : ¬ FoI S.2.2.2.1.1 ((r - 1) * S.2.2.2.1.1.1.2 + (c - 1)) := fun ⟨_, l, ps, q⟩ => by rw [ec, ee] at q; cases q
        have g := w3 _ hi nf
        rw [d1, d2, ec, ee] at g
        rw [g]
        exact ⟨Or.inl ⟨rfl, rfl, rfl⟩, rfl⟩
      | some (kd, li, ps) =>
        simp only
        by_cases c5 : kd = 5
        · rw [if_pos c5]
          have fi : FoI S.2.2.2.1.1 ((r - 1) * S.2.2.2.1.1.1.2 + (c - 1)) := ⟨hi, li, ps, by rw [ec, ee, c5]⟩
          obtain ⟨x, xb, q1, q2, q3, q4⟩ := w2 _ fi
          rw [d1, d2] at q3 q4
          have n8 : zN z (b 8) = 320 := cN cc 8 rfl rfl
          have cb := cnt_b hb
          have hi2 := hi.2
          refine ⟨q4, b 8, x, xb, ⟨w1, Or.inr rfl, cK cc 8 rfl rfl, by omega⟩, q1, ⟨?_, ?_⟩, q3⟩
          · rw [hJ]; exact Or.inr (Or.inl q3.1.1.1)
          · rw [hJ]; exact Or.inr (Or.inr ⟨q3.1.1.2.2.2, q3.2⟩)
        · rw [if_neg c5]
          have nf : ¬ FoI S.2.2.2.1.1 ((r - 1) * S.2.2.2.1.1.1.2 + (c - 1)) := fun ⟨_, l, ps', q⟩ => by
            rw [ec, ee] at q
            injection q with q
            injection q with q
            exact c5 q
          have g := w3 _ hi nf
          rw [d1, d2, ec, ee] at g
          have g : WV S.2.1.2.1 S.2.2.2.1.1 (r - 1) (c - 1) = li := g
          rw [g]
          refine ⟨?_, rfl⟩
          exact ShW_p A.2 _ cdi.1 kd li ps (by rw [ec, ee]) c5
    · rw [if_neg e] at hr hcc sa ⊢
      rw [if_neg e]
      have h1 := hv.1
      have h2 := hv.2
      have ea := ea2 e
      exact CvL_J iJ (CvJ_L (Cv v (by omega) h2 a ea (Vd.2 e a ea) (r - 1) (c - 1) (by omega) (by omega) (by omega) (by omega)))
  have key := k9_at wJ sJ (r := r - 1) (c := c - 1) (by omega) (by omega) (by omega) (by omega) cv (P := fun x_16 => (if x_16 = none then (zK z (b 0) = 12 ∧ P (zO z (b 0) 6)) else P x_16)) (fun e => ?_) (fun x xb vx nx => ?_)
  · rw [show r - 1 + 1 = r by omega, show c - 1 + 1 = c by omega] at key
    exact key
  · show (if (none : Option Nat) = none then _ else _)
    rw [if_pos rfl, cO cc 0 6 7 (by decide)]
    exact ⟨cK cc 0 rfl rfl, p (b 7) (b 34) (by rw [e]; exact V7) cv.1⟩
  · show (if some x = none then _ else _)
    rw [if_neg (by simp)]
    exact p x xb vx cv.1
/-- what has become of the versions' values -/
def CnV (z y : Z) (b : Nat → Nat) (S : SS) (v : Int) (a : Prop) : Prop := (y = z ∧ (a → Vld z b v)) ∨ (¬ Vld z b v ∧ ∀ w, 0 ≤ w → w < S.2.1.1 → (UnV y b w ↔ (UnV z b w ∧ ¬ NeW z b S (shOf v S) w.toNat ∧ w ≠ v)))
/-- ready, and the value is seen -/
theorem o_rs {v r c : Int} {N c0 s0 : Nat} {P : Option Nat → Z → Prop} (hN : (N : Int) = S.2.1.1) (R : RC z b I S) (C : Cac z b I sv sb S) (A : ShA S) (a : askP v r c S) (hc : ¬ Vld z b v → 641 * coN z b S (shOf v S) N + 641 ≤ c0) (hs : ¬ Vld z b v → 9280 * coN z b S (shOf v S) N + 9280 ≤ s0) (p : ∀ y I' x xb, (∀ x, I x → I' x) → RC y b I' S → Cac y b I' sv sb S → CnV z y b S v (askP v r c S) → VlS y x xb (vvS v S (r - 1) (c - 1)) → VOk (vvS v S (r - 1) (c - 1)) → P (some x) y) : F_X11_ready (b 0) v z c0 s0 (fun y => (zK y (b 0) = 12 ∧ F_X11_seen (b 0) v r c y (fun x => P x y))) := by
  refine o_ready hN R C A a.1 hc hs (fun Vd => ⟨cK R.1 0 rfl rfl, o_seen R C A Vd a (fun x xb vx ox => p z I x xb (fun _ h => h) R C (Or.inl ⟨rfl, fun _ => Vd⟩) vx ox)⟩) (fun y I' hI Ry Cy Vd nV hU => ⟨cK Ry.1 0 rfl rfl, o_seen Ry Cy A Vd a (fun x xb vx ox => p y I' x xb hI Ry Cy (Or.inr ⟨nV, hU⟩) vx ox)⟩)
theorem o_kind {v r c : Int} {N c0 s0 : Nat} {P : Int → Z → Prop} (hN : (N : Int) = S.2.1.1) (R : RC z b I S) (C : Cac z b I sv sb S) (A : ShA S) (hc : askP v r c S → ¬ Vld z b v → 641 * coN z b S (shOf v S) N + 641 ≤ c0) (hs : askP v r c S → ¬ Vld z b v → 9280 * coN z b S (shOf v S) N + 9280 ≤ s0) (p : ∀ y I', (∀ x, I x → I' x) → RC y b I' S → Cac y b I' sv sb S → CnV z y b S v (askP v r c S) → P (pKind v r c S) y) : F_X11_kind (b 0) v r c z c0 s0 P := by
  unfold pKind at p
  unfold F_X11_kind
  refine ⟨cK R.1 0 rfl rfl, o_isCell R (fun d => ?_) (fun d => ?_)⟩
  · have a : askP v r c S := d
    rw [ci_1 a] at p
    rw [if_neg (by decide)]
    refine ⟨c0, s0, Nat.le_refl _, Nat.le_refl _, o_rs hN R C A a (hc a) (hs a) (P := fun x y => ∃ a_24, x = some a_24 ∧ zK y a_24 = 9 ∧ P (zI y a_24 1) y) (fun y I' x xb hI Ry Cy hU vx ox => ⟨x, rfl, vx.1.1, ?_⟩)⟩
    rw [vx.1.2.1]
    exact p y I' hI Ry Cy hU
  · have a : ¬ askP v r c S := d
    rw [ci_0 a] at p
    rw [if_pos rfl]
    exact p z I (fun _ h => h) R C (Or.inl ⟨rfl, fun q => absurd q a⟩)
theorem o_valueC {v r c : Int} {N c0 s0 : Nat} {P : Int → Z → Prop} (hN : (N : Int) = S.2.1.1) (R : RC z b I S) (C : Cac z b I sv sb S) (A : ShA S) (hc : askP v r c S → ¬ Vld z b v → 641 * coN z b S (shOf v S) N + 641 ≤ c0) (hs : askP v r c S → ¬ Vld z b v → 9280 * coN z b S (shOf v S) N + 9280 ≤ s0) (p : ∀ y I', (∀ x, I x → I' x) → RC y b I' S → Cac y b I' sv sb S → CnV z y b S v (askP v r c S) → P (pValue v r c S) y) : F_X11_value (b 0) v r c z c0 s0 P := by
  unfold pValue at p
  unfold F_X11_value
  refine ⟨cK R.1 0 rfl rfl, o_isCell R (fun d => ?_) (fun d => ?_)⟩
  · have a : askP v r c S := d
    rw [ci_1 a] at p
    rw [if_neg (by decide)]
    refine ⟨c0, s0, Nat.le_refl _, Nat.le_refl _, o_rs hN R C A a (hc a) (hs a) (P := fun x y => ∃ a_24, x = some a_24 ∧ zK y a_24 = 9 ∧ P (zG y a_24 2) y) (fun y I' x xb hI Ry Cy hU vx ox => ⟨x, rfl, vx.1.1, ?_⟩)⟩
    have hh := p y I' hI Ry Cy hU
    by_cases k0 : (vvS v S (r - 1) (c - 1)).1 = 0
    · rw [if_pos k0] at hh
      rw [VlS_g vx (by omega), VOk_0 ox k0]; exact hh
    · rw [if_neg k0] at hh
      by_cases k2 : (vvS v S (r - 1) (c - 1)).1 = 2
      · rw [if_pos k2] at hh
        rw [(VlS_t vx k2).1]; exact hh
      · rw [if_neg k2] at hh
        rw [VlS_g vx k2]; exact hh
  · have a : ¬ askP v r c S := d
    rw [ci_0 a] at p
    rw [if_pos rfl]
    exact p z I (fun _ h => h) R C (Or.inl ⟨rfl, fun q => absurd q a⟩)
theorem o_letter {v r c i : Int} {N c0 s0 : Nat} {P : Int → Z → Prop} (hN : (N : Int) = S.2.1.1) (R : RC z b I S) (C : Cac z b I sv sb S) (A : ShA S) (hc : askP v r c S → ¬ Vld z b v → 641 * coN z b S (shOf v S) N + 641 ≤ c0) (hs : askP v r c S → ¬ Vld z b v → 9280 * coN z b S (shOf v S) N + 9280 ≤ s0) (p : ∀ y I', (∀ x, I x → I' x) → RC y b I' S → Cac y b I' sv sb S → CnV z y b S v (askP v r c S) → P (pLetter v r c i S) y) : F_X11_letter (b 0) v r c i z c0 s0 P := by
  unfold pLetter at p
  unfold F_X11_letter F_X11_letter_74 F_X11_letter_75
  refine ⟨cK R.1 0 rfl rfl, o_isCell R (fun d => ?_) (fun d => ?_)⟩
  · have a : askP v r c S := d
    rw [ci_1 a] at p
    rw [if_neg (by decide)]
    refine ⟨c0, s0, Nat.le_refl _, Nat.le_refl _, o_rs hN R C A a (hc a) (hs a) (P := fun x_21 y => ∃ a_28, x_21 = some a_28 ∧ zK y a_28 = 9 ∧ (if zI y a_28 1 = 2 then (if i < 0 then P (-1) y else (if zG y a_28 2 ≤ i then P (-1) y else (∃ a_59, zO y a_28 0 = some a_59 ∧ zK y a_59 = 14 ∧ (if zN y a_59 ≤ i then P (-1) y else (0 ≤ i ∧ i < zN y a_59 ∧ P (zI y a_59 i) y))))) else P (-1) y)) (fun y I' x xb hI Ry Cy hU vx ox => ⟨x, rfl, vx.1.1, ?_⟩)⟩
    have hh := p y I' hI Ry Cy hU
    rw [vx.1.2.1]
    by_cases k2 : (vvS v S (r - 1) (c - 1)).1 = 2
    · obtain ⟨t1, t2, t3, t4⟩ := VlS_t vx k2
      rw [if_pos k2]
      by_cases i0 : i < 0
      · rw [if_pos i0]
        rw [if_neg (by omega)] at hh; exact hh
      rw [if_neg i0, t1]
      by_cases i1 : ((vvS v S (r - 1) (c - 1)).2.2.length : Int) ≤ i
      · rw [if_pos i1]
        rw [if_neg (by omega)] at hh; exact hh
      rw [if_neg i1]
      refine ⟨xb, vx.1.2.2.1, vx.1.2.2.2, ?_⟩
      rw [if_neg (by omega)]
      rw [if_pos ⟨k2, by omega, by omega⟩] at hh
      refine ⟨by omega, by omega, ?_⟩
      have q := t4 i.toNat (by omega)
      rw [Int.toNat_of_nonneg (by omega)] at q
      rw [q]; exact hh
    · rw [if_neg k2]
      rw [if_neg (fun q => k2 q.1)] at hh; exact hh
  · have a : ¬ askP v r c S := d
    rw [ci_0 a] at p
    rw [if_pos rfl]
    exact p z I (fun _ h => h) R C (Or.inl ⟨rfl, fun q => absurd q a⟩)
end Ki
