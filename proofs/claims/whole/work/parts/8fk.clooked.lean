/-! ===== the system: which versions a sheet looks at ===== -/
def vrW (h : Sh) (i : Int) (j : Nat) : Int := ((prC (ctC h (cdI h i))).getD j pd0).2.2.2.2.2
def lkW (h : Sh) (v : Int) : Prop := ∃ i, inI h i ∧ ∃ j : Nat, j < (prC (ctC h (cdI h i))).length ∧ vrW h i j = v
theorem o_looked {z : Z} {I : Nat → Prop} {a : Nat} {h : Sh} {P : Int → Prop} (hs : ShC z I a h) (hv : ∀ i, inI h i → (prC (ctC h (cdI h i))).length ≤ 1000 ∧ ∀ j : Nat, j < (prC (ctC h (cdI h i))).length → -1 ≤ vrW h i j ∧ vrW h i j < 64) (p : ∀ x, (∀ v : Nat, v < 64 → (bitL x v = true ↔ lkW h v)) → P x) : F_X6_versionsLookedAt a z P := by
  have hb := ShC_b hs
  have cb := cnt_b hb
  obtain ⟨ra, ca, xa, Sp, -, -, -, -, -, hct⟩ := hs
  obtain ⟨p1, p2, p3, p4, p5, p6, p7, p8, p9, p10, p11, p12⟩ := Sp
  have cc : ∀ i, inI h i → ContC z I (zO z xa i) (ctC h (cdI h i)) := fun i hi => by
    obtain ⟨x1, x2, x3⟩ := i_xy hb hi
    obtain ⟨-, q2, q3⟩ := cd_in hb hi
    have := hct _ _ x1.1 x1.2 x2.1 x2.2
    rw [x3] at this
    unfold ctC; rw [q2, q3]; exact this
  unfold F_X6_versionsLookedAt F_X6_versionsLookedAt_4
  refine lp_I (fun q => ∃ x i : Int, q = (x, i) ∧ (0 ≤ i ∧ i ≤ h.1.1 * h.1.2) ∧ ∀ v : Nat, v < 64 → (bitL x v = true ↔ ∃ i', (inI h i' ∧ i' < i) ∧ ∃ j : Nat, j < (prC (ctC h (cdI h i'))).length ∧ vrW h i' j = v)) (fun q => (h.1.1 * h.1.2 - q.2).toNat) ?_ (0, 0) ⟨0, 0, rfl, ⟨by omega, by omega⟩, fun v hv' => by rw [bit_0]; exact ⟨fun w => (by cases w), fun ⟨i', w, _⟩ => by have := w.1.1; omega⟩⟩
  rintro G _ ⟨x, i, rfl, ⟨i0, i1⟩, H⟩ ih
  show L_X6_versionsLookedAt_4 a x i z _
  unfold L_X6_versionsLookedAt_4
  refine ⟨p1, xa, p4, p7, ?_⟩
  rw [p10]
  by_cases ci : h.1.1 * h.1.2 ≤ i
  · rw [if_pos ci]
    refine p x (fun v hv' => (H v hv').trans ⟨fun ⟨i', w, r⟩ => ⟨i', w.1, r⟩, fun ⟨i', w, r⟩ => ⟨i', ⟨w, by have := w.2; omega⟩, r⟩⟩)
  rw [if_neg ci]
  have hi : inI h i := ⟨i0, by omega⟩
  obtain ⟨l1000, hvi⟩ := hv i hi
  have hc := cc i hi
  unfold F_X6_versionsLookedAt_16
  refine lp_I (fun q => ∃ (x' : Int) (j : Nat), q = (x', (j : Int)) ∧ j ≤ (prC (ctC h (cdI h i))).length ∧ ∀ v : Nat, v < 64 → (bitL x' v = true ↔ (bitL x v = true ∨ ∃ j' : Nat, j' < j ∧ vrW h i j' = v))) (fun q => (((prC (ctC h (cdI h i))).length : Int) - q.2).toNat) ?_ (x, 0) ⟨x, 0, rfl, Nat.zero_le _, fun v _ => ⟨fun w => Or.inl w, fun w => w.elim id (fun ⟨_, w, _⟩ => absurd w (Nat.not_lt_zero _))⟩⟩
  rintro G2 _ ⟨x', j, rfl, jl, H2⟩ ih2
  show L_X6_versionsLookedAt_16 a x' i (j : Int) z _
  unfold L_X6_versionsLookedAt_16
  refine ⟨p1, xa, p4, p7, i0, by rw [p10]; omega, o_partsOf hc ?_⟩
  have pc : (pcN (ctC h (cdI h i)) : Int) = ((prC (ctC h (cdI h i))).length : Int) := by
    cases ctC h (cdI h i) with
    | none => rfl
    | some t => rfl
  rw [pc]
  by_cases cj : ((prC (ctC h (cdI h i))).length : Int) ≤ (j : Int)
  · rw [if_pos cj]
    show G (x', w32 (i + 1))
    rw [w32e (x := i + 1) (by omega) (by omega)]
    refine ih (x', i + 1) ⟨x', i + 1, rfl, ⟨by omega, by omega⟩, fun v hv' => ?_⟩ (by show (_ - (i + 1)).toNat < (_ - i).toNat; omega)
    rw [H2 v hv', H v hv']
    constructor
    · rintro (⟨i', w, r⟩ | ⟨j', w, r⟩)
      · exact ⟨i', ⟨w.1, by omega⟩, r⟩
      · exact ⟨i, ⟨hi, by omega⟩, j', by omega, r⟩
    · rintro ⟨i', w, j', w2, r⟩
      by_cases c : i' = i
      · subst c; exact Or.inr ⟨j', by omega, r⟩
      · exact Or.inl ⟨i', ⟨w.1, by omega⟩, j', w2, r⟩
  rw [if_neg cj]
  have hj : j < (prC (ctC h (cdI h i))).length := by omega
  obtain ⟨v1, v2⟩ := hvi j hj
  match e : ctC h (cdI h i), hc with
  | none, hc => rw [e] at hj; exact absurd hj (Nat.not_lt_zero _)
  | some (kd, l, ps), hc =>
    unfold ContC at hc
    simp only at hc
    obtain ⟨a', pa, c1, c2, c3, c4, c5, c6, c7, c8, c9, -⟩ := hc
    have ep : prC (ctC h (cdI h i)) = ps := by rw [e]; rfl
    rw [ep] at hj
    obtain ⟨qa, o1, o2⟩ := c9 j hj
    have vq : zI z qa 8 = vrW h i j := by unfold vrW; rw [ep]; exact o2.2.2.2.2.2.2.2.2.2.2
    refine ⟨a', c1, c3, pa, c5, c7, by omega, by rw [c8]; omega, qa, o1, o2.2.1, ?_⟩
    rw [vq]
    unfold F_X6_versionsLookedAt_65
    rw [w32e (x := (j : Int) + 1) (by omega) (by omega)]
    have nx : ∀ y : Int, (∀ v : Nat, v < 64 → (bitL y v = true ↔ vrW h i j = v)) → G2 (lOr x' y, (j : Int) + 1) := fun y hy => by
      refine ih2 (lOr x' y, (j : Int) + 1) ⟨lOr x' y, j + 1, rfl, by rw [ep]; omega, fun v hv' => ?_⟩ (by rw [ep]; show (_ - ((j : Int) + 1)).toNat < (_ - (j : Int)).toNat; omega)
      rw [bit_or, Bool.or_eq_true, H2 v hv', hy v hv']
      constructor
      · rintro ((w | ⟨j', w, r⟩) | w)
        · exact Or.inl w
        · exact Or.inr ⟨j', by omega, r⟩
        · exact Or.inr ⟨j, by omega, w⟩
      · rintro (w | ⟨j', w, r⟩)
        · exact Or.inl (Or.inl w)
        · by_cases c : j' = j
          · rw [c] at r; exact Or.inr r
          · exact Or.inl (Or.inr ⟨j', by omega, r⟩)
    by_cases cv : vrW h i j = -1
    · rw [if_pos cv]
      exact nx 0 (fun v hv' => by rw [bit_0]; exact ⟨fun w => (by cases w), fun w => by omega⟩)
    · rw [if_neg cv]
      refine nx _ (fun v hv' => ?_)
      have := bit_shl (vrW h i j).toNat (by omega) v hv'
      rw [Int.toNat_of_nonneg (by omega)] at this
      rw [this, decide_eq_true_eq]
      omega
