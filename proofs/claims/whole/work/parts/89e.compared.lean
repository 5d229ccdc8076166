/-! ===== literals compared ===== -/
theorem lst_e {a b : List Int} (h : a.length = b.length) (h2 : ∀ i : Nat, i < a.length → a.getD i 0 = b.getD i 0) : a = b := by
  refine List.ext_getElem h (fun i h1 h3 => ?_)
  have q := h2 i h1
  rw [List.getD_eq_getElem?_getD, List.getD_eq_getElem?_getD, List.getElem?_eq_getElem h1, List.getElem?_eq_getElem h3] at q
  exact q
/-- the frozen cells are in range -/
def WzI (z : Z) (I : Nat → Prop) : Prop := ∀ a, I a → (0 ≤ zN z a ∧ zN z a < 33554432) ∧ ∀ i, zK z a = 14 → B8 (zI z a i)
theorem WzI_of {z : Z} {I : Nat → Prop} (hw : Wz z) : WzI z I := fun a _ => ⟨hw.2.2.2.2 a, fun i hk => hw.2.2.1 a i hk⟩
theorem WzI_fr {z y : Z} {b : Nat → Nat} {I : Nat → Prop} {W : Nat → Int → Prop} (r : Frz z b I) (f : FrZ W z y) (w : ∀ a i, I a → ¬ W a i) (h : WzI z I) : WzI y I := fun a ia => by
  have ka := (r a ia).1
  obtain ⟨h1, h2⟩ := h a ia
  refine ⟨by rw [(f.1 a ka).2]; exact h1, fun i hk => ?_⟩
  rw [(f.2 a i ka (w a i ia)).1]
  exact h2 i (by rw [← (f.1 a ka).1]; exact hk)
theorem o_compared {z : Z} {I : Nat → Prop} {a d : Nat} {l1 l2 : Lit} {P : Int → Prop} (hw : WzI z I) (h1 : LitC z I a l1) (h2 : LitC z I d l2) (hk : l1.1 = l2.1) (h : ∀ r, (r = 0 ↔ l1 = l2) → P r) : F_X8_compared a (some d) z P := by
  obtain ⟨k1, n1, b1⟩ := l1
  obtain ⟨k2, n2, b2⟩ := l2
  simp only at hk
  subst hk
  obtain ⟨-, ka, ea, ba, oa, iba, kba, ra⟩ := h1
  obtain ⟨-, kd, ed, bd, od, ibd, kbd, rd⟩ := h2
  simp only at ea ed ra rd
  unfold F_X8_compared F_X8_compared_49 F_X8_compared_50
  refine ⟨ka, ?_⟩
  rw [ea]
  by_cases e : k1 = 2
  · rw [if_pos e]
    rw [if_pos e] at ra rd
    obtain ⟨a1, a2, a3, a4⟩ := ra
    obtain ⟨d1, d2, d3, d4⟩ := rd
    have na := (hw ba iba).1.2
    have nd := (hw bd ibd).1.2
    unfold F_X8_compared_52
    refine lp_I (fun x => 0 ≤ x ∧ x ≤ (b1.length : Int) ∧ x ≤ (b2.length : Int) ∧ ∀ i : Nat, (i : Int) < x → b1.getD i 0 = b2.getD i 0) (fun x => ((b1.length : Int) - x).toNat) ?_ 0 ⟨by decide, by omega, by omega, fun i hi => by omega⟩
    rintro G x ⟨x0, x1, x2, xs⟩ ih
    have fin : ((b1.length : Int) ≤ x ∨ (b2.length : Int) ≤ x) → F_X8_compared_125 a (some d) z P := by
      intro hx
      unfold F_X8_compared_125
      refine ⟨ka, d, rfl, kd, ?_⟩
      rw [a1, d1, w64e (by omega) (by omega), w32e (by omega) (by omega)]
      refine h _ ⟨fun q => ?_, fun q => ?_⟩
      · have le : b1.length = b2.length := by omega
        rw [a3, d3, lst_e le (fun i hi => xs i (by omega))]
      · have : b1 = b2 := by injection q with _ q; injection q
        rw [this]; omega
    unfold L_X8_compared_52 F_X8_compared_119
    refine ⟨ka, ?_⟩
    rw [a1]
    by_cases e1 : (b1.length : Int) ≤ x
    · rw [if_pos e1]; exact fin (Or.inl e1)
    · rw [if_neg e1]
      refine ⟨d, rfl, kd, ?_⟩
      rw [d1]
      by_cases e2 : (b2.length : Int) ≤ x
      · rw [if_pos e2]; exact fin (Or.inr e2)
      · rw [if_neg e2]
        refine ⟨ba, oa, kba, ?_⟩
        rw [if_neg (by omega)]
        refine ⟨bd, od, kbd, ?_⟩
        rw [if_neg (by omega)]
        refine ⟨x0, by omega, x0, by omega, ?_⟩
        have g1 := a4 x.toNat (by omega)
        have g2 := d4 x.toNat (by omega)
        rw [Int.toNat_of_nonneg x0] at g1 g2
        by_cases e3 : zI z ba x = zI z bd x
        · rw [if_pos e3, w32e (by omega) (by omega)]
          refine ih (x + 1) ⟨by omega, by omega, by omega, fun i hi => ?_⟩ (by omega)
          by_cases e4 : i = x.toNat
          · rw [e4, ← g1, ← g2]; exact e3
          · exact xs i (by omega)
        · rw [if_neg e3]
          refine ⟨ka, ba, oa, kba, x0, by omega, d, rfl, kd, bd, od, kbd, x0, by omega, ?_⟩
          have c1 : B8 (zI z ba x) := (hw ba iba).2 x kba
          have c2 : B8 (zI z bd x) := (hw bd ibd).2 x kbd
          unfold B8 at c1 c2
          rw [w32e (by omega) (by omega)]
          refine h _ ⟨fun q => absurd (show zI z ba x = zI z bd x by omega) e3, fun q => ?_⟩
          have : b1 = b2 := by injection q with _ q; injection q
          exact absurd (by rw [g1, g2, this]) e3
  · rw [if_neg e]
    rw [if_neg e] at ra rd
    refine ⟨d, rfl, kd, ?_⟩
    rw [ed, if_neg e, ra.1, rd.1]
    have eb : b1 = b2 := by rw [ra.2, rd.2]
    by_cases e1 : n2 ≤ n1
    · rw [if_pos e1]
      by_cases e2 : n1 ≤ n2
      · rw [if_pos e2]; exact h 0 ⟨fun _ => by rw [eb, show n1 = n2 by omega], fun _ => rfl⟩
      · rw [if_neg e2]; exact h 1 ⟨fun q => by omega, fun q => by injection q with _ q; injection q with q _; omega⟩
    · rw [if_neg e1]; exact h (-1) ⟨fun q => by omega, fun q => by injection q with _ q; injection q with q _; omega⟩
