/-! ===== the system: Values that are reckoned with ===== -/
/-- a Value with room for 24 bytes -/
def VX (z : Z) (a ba : Nat) (l : Lit) : Prop := VlS z a ba l ∧ zN z ba = 24
theorem VX_B {z : Z} {a ba : Nat} {l : Lit} (h : VX z a ba l) : VlB z a ba := VlS_B h.1 h.2
theorem VX_of {z y : Z} {a ba : Nat} {l : Lit} (B : VlB z a ba) (f : FrZ (VW a ba) z y) (h : VlS y a ba l) : VX y a ba l := ⟨h, by
  rw [(f.1 ba (by rw [B.2.2.1]; decide)).2]; exact B.2.2.2⟩
theorem VlS_g {z : Z} {a ba : Nat} {l : Lit} (h : VlS z a ba l) (c : l.1 ≠ 2) : zG z a 2 = l.2.1 := by
  have := h.2
  unfold VlT at this
  rw [if_neg c] at this
  exact this.1
theorem VlS_t {z : Z} {a ba : Nat} {l : Lit} (h : VlS z a ba l) (c : l.1 = 2) : zG z a 2 = (l.2.2.length : Int) ∧ (l.2.2.length : Int) ≤ zN z ba ∧ l.2.1 = 0 ∧ ∀ i : Nat, i < l.2.2.length → zI z ba i = l.2.2.getD i 0 := by
  have := h.2
  unfold VlT at this
  rw [if_pos c] at this
  exact this
theorem k_serves {z : Z} {a ba : Nat} {l : Lit} {k : Int} {P : Int → Prop} (V : VlS z a ba l) (hy : l.1 = k ∨ l.1 = 0 → P 1) (hn : ¬ (l.1 = k ∨ l.1 = 0) → P 0) : F_X8_servesAs a k z P := by
  unfold F_X8_servesAs F_X8_servesAs_15 F_X8_servesAs_20
  refine ⟨V.1.1, ?_⟩
  rw [V.1.2.1]
  by_cases c : l.1 = k
  · rw [if_pos c]; exact ⟨Or.inr rfl, hy (Or.inl c)⟩
  · rw [if_neg c]
    by_cases c0 : l.1 = 0
    · rw [if_pos c0]; exact ⟨Or.inr rfl, hy (Or.inr c0)⟩
    · rw [if_neg c0]; exact ⟨Or.inl rfl, hn (fun w => w.elim c c0)⟩
theorem k_compares {z : Z} {a ba d bd : Nat} {l m : Lit} {P : Int → Prop} (V : VlS z a ba l) (V2 : VlS z d bd m) (hy : l.1 = m.1 ∨ l.1 = 0 ∨ m.1 = 0 → P 1) (hn : ¬ (l.1 = m.1 ∨ l.1 = 0 ∨ m.1 = 0) → P 0) : F_X8_compares a (some d) z P := by
  unfold F_X8_compares F_X8_compares_18 F_X8_compares_23
  refine ⟨d, rfl, V2.1.1, V.1.1, ?_⟩
  rw [V2.1.2.1]
  refine k_serves V (fun c => ?_) (fun c => ?_)
  · rw [if_neg (by decide)]; exact ⟨Or.inr rfl, hy (by omega)⟩
  · rw [if_pos rfl]
    by_cases c0 : m.1 = 0
    · rw [if_pos c0]; exact ⟨Or.inr rfl, hy (Or.inr (Or.inr c0))⟩
    · rw [if_neg c0]; exact ⟨Or.inl rfl, hn (by omega)⟩
theorem k_truth {z : Z} {a ba : Nat} {x : Int} {b : Bool} {P : Z → Prop} (B : VlB z a ba) (hb : x = 0 ↔ b = false) (h : ∀ y, VlS y a ba (trL b) → zI y a 3 = 0 → FrZ (VW a ba) z y → P y) : F_X8_setTruth a x z P := by
  unfold trL at h
  unfold F_X8_setTruth F_X8_setTruth_11
  by_cases c : x = 0
  · rw [if_pos c]
    rw [hb.mp c, if_neg (by decide)] at h
    exact ⟨a, rfl, B.1, k_set B (by decide) h⟩
  · rw [if_neg c]
    have : b = true := by cases b; exact absurd (hb.mpr rfl) c; rfl
    rw [this, if_pos rfl] at h
    exact ⟨a, rfl, B.1, k_set B (by decide) h⟩
theorem k_bound {z : Z} {a ba : Nat} {x : Int} {P : Z → Prop} (B : VlB z a ba) (h : ∀ y, VlS y a ba (nuL x) → zI y a 3 = 0 → FrZ (VW a ba) z y → P y) : F_X8_setBounded a x z P := by
  unfold nuL erL at h
  unfold F_X8_setBounded F_X8_setBounded_16 F_X8_setBounded_33
  by_cases c : 1000000000000000 < x
  · rw [if_pos c]
    rw [if_pos (Or.inl c)] at h
    exact ⟨B.1, k_set B (by decide) h⟩
  · rw [if_neg c]
    by_cases c2 : -1000000000000000 ≤ x
    · rw [if_pos c2]
      rw [if_neg (by omega)] at h
      exact ⟨B.1, k_set B (by decide) h⟩
    · rw [if_neg c2]
      rw [if_pos (by omega)] at h
      exact ⟨B.1, k_set B (by decide) h⟩
theorem txt_v {z : Z} {a ba : Nat} {l m : Lit} (V : VlS z a ba l) (o : VOk l) (c : l.1 = 2 ∨ (l.1 = 0 ∧ m.1 = 2)) : (asO l m).1 = 2 ∧ zG z a 2 = ((asO l m).2.2.length : Int) ∧ (asO l m).2.2.length ≤ 24 ∧ ∀ i : Nat, i < (asO l m).2.2.length → (i : Int) < zN z ba ∧ zI z ba i = (asO l m).2.2.getD i 0 ∧ -128 ≤ (asO l m).2.2.getD i 0 ∧ (asO l m).2.2.getD i 0 ≤ 127 := by
  have ob := VOk_b o
  unfold asO
  by_cases c2 : l.1 = 2
  · obtain ⟨v1, v2, v3, v4⟩ := VlS_t V c2
    rw [if_neg (by omega)]
    refine ⟨c2, v1, ob.1, fun i hi => ⟨by omega, v4 i hi, ?_⟩⟩
    exact ob.2.1 _ (gD0_mem hi)
  · have c0 : l.1 = 0 := by omega
    have cm : m.1 = 2 := by omega
    rw [if_pos ⟨c0, Or.inr (Or.inl cm)⟩]
    refine ⟨cm, ?_, by show (0 : Nat) ≤ 24; decide, fun i hi => absurd hi (Nat.not_lt_zero _)⟩
    rw [VlS_g V c2, VOk_0 o c0]; rfl
theorem k_compared {z : Z} {a ba d bd : Nat} {l m : Lit} {P : Int → Prop} (V : VlS z a ba l) (V2 : VlS z d bd m) (ol : VOk l) (om : VOk m) (hl : l.1 ≠ 4) (hm : m.1 ≠ 4) (hc : l.1 = m.1 ∨ l.1 = 0 ∨ m.1 = 0) (h : ∀ r, (r = 0 ↔ ordV (asO l m) (asO m l) = 0) → (r < 0 ↔ ordV (asO l m) (asO m l) < 0) → P r) : F_X8_compared a (some d) z P := by
  have kl := VOk_k ol
  have km := VOk_k om
  unfold F_X8_compared F_X8_compared_49 F_X8_compared_50
  refine ⟨V.1.1, ?_⟩
  rw [V.1.2.1]
  by_cases ct : l.1 = 2 ∨ m.1 = 2
  · have t1 := txt_v V ol (m := m) (by omega)
    have t2 := txt_v V2 om (m := l) (by omega)
    have key : F_X8_compared_52 a (some d) 0 z P := by
      unfold ordV at h
      rw [if_pos t1.1] at h
      obtain ⟨-, g1, l1, b1⟩ := t1
      obtain ⟨-, g2, l2, b2⟩ := t2
      generalize (asO l m).2.2 = La at *
      generalize (asO m l).2.2 = Lb at *
      unfold F_X8_compared_52
      refine lp_I (fun x => 0 ≤ x ∧ x ≤ (La.length : Int) ∧ x ≤ (Lb.length : Int) ∧ cmpB La Lb = cmpB (La.drop x.toNat) (Lb.drop x.toNat)) (fun x => ((La.length : Int) - x).toNat) ?_ 0 ⟨by decide, by omega, by omega, rfl⟩
      rintro G x ⟨x0, x1, x2, xs⟩ ih
      have fin : ((La.length : Int) ≤ x ∨ (Lb.length : Int) ≤ x) → F_X8_compared_125 a (some d) z P := by
        intro hx
        unfold F_X8_compared_125
        refine ⟨V.1.1, d, rfl, V2.1.1, ?_⟩
        rw [g1, g2, w64e (by omega) (by omega), w32e (by omega) (by omega)]
        have e0 : La.drop x.toNat = [] ∨ Lb.drop x.toNat = [] := by
          rcases hx with hx | hx
          · exact Or.inl (List.drop_eq_nil_of_le (by omega))
          · exact Or.inr (List.drop_eq_nil_of_le (by omega))
        rw [cmpB_0 _ _ e0, List.length_drop, List.length_drop] at xs
        rw [xs] at h
        refine h _ ?_ ?_
        · repeat' split
          all_goals omega
        · repeat' split
          all_goals omega
      unfold L_X8_compared_52 F_X8_compared_119
      refine ⟨V.1.1, ?_⟩
      rw [g1]
      by_cases e1 : (La.length : Int) ≤ x
      · rw [if_pos e1]; exact fin (Or.inl e1)
      rw [if_neg e1]
      refine ⟨d, rfl, V2.1.1, ?_⟩
      rw [g2]
      by_cases e2 : (Lb.length : Int) ≤ x
      · rw [if_pos e2]; exact fin (Or.inr e2)
      rw [if_neg e2]
      obtain ⟨p1, p2, p3⟩ := b1 x.toNat (by omega)
      obtain ⟨q1, q2, q3⟩ := b2 x.toNat (by omega)
      rw [Int.toNat_of_nonneg x0] at p1 p2 q1 q2
      have cd := cmpB_d (bs := La) (cs := Lb) (k := x.toNat) (by omega) (by omega)
      refine ⟨ba, V.1.2.2.1, V.1.2.2.2, ?_⟩
      rw [if_neg (by omega)]
      refine ⟨bd, V2.1.2.2.1, V2.1.2.2.2, ?_⟩
      rw [if_neg (by omega)]
      refine ⟨x0, p1, x0, q1, ?_⟩
      rw [p2, q2]
      by_cases e3 : La.getD x.toNat 0 = Lb.getD x.toNat 0
      · rw [if_pos e3, w32e (x := x + 1) (by omega) (by omega)]
        rw [if_pos e3] at cd
        exact ih (x + 1) ⟨by omega, by omega, by omega, by rw [xs, cd, show (x + 1).toNat = x.toNat + 1 by omega]⟩ (by omega)
      · rw [if_neg e3]
        rw [if_neg e3] at cd
        rw [xs, cd] at h
        show zK z a = 9 ∧ _
        refine ⟨V.1.1, ba, V.1.2.2.1, V.1.2.2.2, x0, p1, d, rfl, V2.1.1, bd, V2.1.2.2.1, V2.1.2.2.2, x0, q1, ?_⟩
        rw [p2, q2, w32e (by omega) (by omega)]
        refine h _ ?_ ?_
        · split <;> omega
        · split <;> omega
    by_cases c2 : l.1 = 2
    · rw [if_pos c2]; exact key
    · rw [if_neg c2]
      refine ⟨d, rfl, V2.1.1, ?_⟩
      rw [V2.1.2.1, if_pos (by omega)]; exact key
  · rw [if_neg (fun w => ct (Or.inl w))]
    refine ⟨d, rfl, V2.1.1, ?_⟩
    rw [V2.1.2.1, if_neg (fun w => ct (Or.inr w)), VlS_g V (fun w => ct (Or.inl w)), VlS_g V2 (fun w => ct (Or.inr w))]
    have e : ordV (asO l m) (asO m l) = cmpN l.2.1 m.2.1 := by
      have n1 : ∀ p q : Lit, VOk p → VOk q → p.1 ≠ 2 → q.1 ≠ 2 → p.1 ≠ 4 → q.1 ≠ 4 → (asO p q).1 ≠ 2 ∧ (asO p q).2.1 = p.2.1 := fun p q op oq c1 c2 c3 c4 => by
        unfold asO
        by_cases c0 : p.1 = 0 ∧ (q.1 = 1 ∨ q.1 = 2 ∨ q.1 = 3)
        · rw [if_pos c0]; refine ⟨c2, ?_⟩; rw [VOk_0 op c0.1]
        · rw [if_neg c0]; exact ⟨c1, rfl⟩
      obtain ⟨a1, a2⟩ := n1 l m ol om (fun w => ct (Or.inl w)) (fun w => ct (Or.inr w)) hl hm
      obtain ⟨a3, a4⟩ := n1 m l om ol (fun w => ct (Or.inr w)) (fun w => ct (Or.inl w)) hm hl
      unfold ordV
      rw [if_neg a1, a2, a4]
    rw [e] at h
    unfold cmpN at h
    by_cases c1 : m.2.1 ≤ l.2.1
    · rw [if_pos c1]
      by_cases c2 : l.2.1 ≤ m.2.1
      · rw [if_pos c2]
        refine h 0 ?_ ?_
        · rw [if_neg (by omega), if_neg (by omega)]
        · rw [if_neg (by omega), if_neg (by omega)]
      · rw [if_neg c2]
        refine h 1 ?_ ?_
        · rw [if_neg (by omega), if_pos (by omega)]
        · rw [if_neg (by omega), if_pos (by omega)]
    · rw [if_neg c1]
      refine h (-1) ?_ ?_
      · rw [if_pos (by omega)]
      · rw [if_pos (by omega)]
theorem asO_kk {l m : Lit} (hl : VOk l) (hm : VOk m) (cl : l.1 ≠ 4) (cm : m.1 ≠ 4) : (asO l m).1 = (asO m l).1 ↔ (l.1 = m.1 ∨ l.1 = 0 ∨ m.1 = 0) := by
  have k1 := VOk_k hl
  have k2 := VOk_k hm
  unfold asO
  by_cases c1 : l.1 = 0 ∧ (m.1 = 1 ∨ m.1 = 2 ∨ m.1 = 3)
  · rw [if_pos c1, if_neg (by omega)]; exact ⟨fun _ => Or.inr (Or.inl c1.1), fun _ => rfl⟩
  · rw [if_neg c1]
    by_cases c2 : m.1 = 0 ∧ (l.1 = 1 ∨ l.1 = 2 ∨ l.1 = 3)
    · rw [if_pos c2]; exact ⟨fun _ => Or.inr (Or.inr c2.1), fun _ => rfl⟩
    · rw [if_neg c2]; omega
/-! ===== one Value is changed ===== -/
theorem k9_negate {z : Z} {t a ba : Nat} {l : Lit} {P : Z → Prop} (V : VX z a ba l) (o : VOk l) (h : ∀ y, VX y a ba (negV l) → zI y a 3 = 0 → FrZ (VW a ba) z y → P y) : F_X9_negate t (some a) z P := by
  have B := VX_B V
  have h2 : ∀ y, VlS y a ba (negV l) → zI y a 3 = 0 → FrZ (VW a ba) z y → P y := fun y g1 g2 g3 => h y (VX_of B g3 g1) g2 g3
  unfold negV erL at h2
  unfold F_X9_negate F_X9_negate_49
  refine ⟨a, rfl, B.1, ?_⟩
  rw [V.1.1.2.1]
  by_cases c : l.1 = 4
  · rw [if_pos c]
    rw [if_pos c] at h2
    have := (VOk_e o c).1
    rw [VlS_g V.1 (by omega)]
    refine k_set B (by decide) (fun y g1 g2 g3 => h2 y ?_ g2 g3)
    rw [this]; exact g1
  · rw [if_neg c]
    rw [if_neg c] at h2
    refine k_serves V.1 (fun c1 => ?_) (fun c1 => ?_)
    · rw [if_neg (by decide), VlS_g V.1 (by omega)]
      rw [if_pos c1] at h2
      have := VOk_x o
      rw [w64e (by omega) (by omega)]
      exact k_set B (by decide) h2
    · rw [if_pos rfl]
      rw [if_neg c1] at h2
      exact k_set B (by decide) h2
theorem k9_compare {z : Z} {t a ba d bd : Nat} {l m : Lit} {op : Int} {P : Z → Prop} (V : VX z a ba l) (V2 : VlS z d bd m) (ol : VOk l) (om : VOk m) (hl : l.1 ≠ 4) (hm : m.1 ≠ 4) (h1 : 1 ≤ op) (h6 : op ≤ 6) (h : ∀ y, VX y a ba (cmpV op l m) → zI y a 3 = 0 → FrZ (VW a ba) z y → P y) : F_X9_compare t op (some a) (some d) z P := by
  have B := VX_B V
  have h2 : ∀ y, VlS y a ba (cmpV op l m) → zI y a 3 = 0 → FrZ (VW a ba) z y → P y := fun y g1 g2 g3 => h y (VX_of B g3 g1) g2 g3
  unfold cmpV at h2
  have hk := asO_kk ol om hl hm
  unfold F_X9_compare F_X9_compare_43 F_X9_compare_18 F_X9_compare_29 F_X9_compare_43 F_X9_compare_99 F_X9_compare_116 F_X9_compare_133 F_X9_compare_150 F_X9_compare_167 F_X9_compare_184 F_X9_compare_187
  refine ⟨a, rfl, B.1, k_compares V.1 V2 (fun c => ?_) (fun c => ?_)⟩
  · rw [if_neg (by decide)]
    rw [if_pos (hk.mpr c)] at h2
    refine k_compared V.1 V2 ol om hl hm c (fun r r0 r1 => ?_)
    generalize ordV (asO l m) (asO m l) = o at *
    unfold hldO at h2
    have fin : ∀ (x : Int) (bb : Bool), (∀ y, VlS y a ba (trL bb) → zI y a 3 = 0 → FrZ (VW a ba) z y → P y) → (x = 0 ↔ bb = false) → (∃ q, some a = some q ∧ zK z q = 9 ∧ F_X8_setTruth q x z (fun y => P y)) := fun x bb hh e => ⟨a, rfl, B.1, k_truth B e hh⟩
    by_cases c1 : op = 1
    · rw [if_pos c1]
      rw [if_pos c1] at h2
      by_cases e : r = 0
      · rw [if_pos e]; exact fin 1 _ h2 (by rw [decide_eq_false_iff_not]; omega)
      · rw [if_neg e]; exact fin 0 _ h2 (by rw [decide_eq_false_iff_not]; omega)
    rw [if_neg c1]
    rw [if_neg c1] at h2
    by_cases c2 : op = 2
    · rw [if_pos c2]
      rw [if_pos c2] at h2
      by_cases e : r = 0
      · rw [if_pos e]; exact fin 0 _ h2 (by rw [decide_eq_false_iff_not]; omega)
      · rw [if_neg e]; exact fin 1 _ h2 (by rw [decide_eq_false_iff_not]; omega)
    rw [if_neg c2]
    rw [if_neg c2] at h2
    by_cases c3 : op = 3
    · rw [if_pos c3]
      rw [if_pos c3] at h2
      by_cases e : 0 ≤ r
      · rw [if_pos e]; exact fin 0 _ h2 (by rw [decide_eq_false_iff_not]; omega)
      · rw [if_neg e]; exact fin 1 _ h2 (by rw [decide_eq_false_iff_not]; omega)
    rw [if_neg c3]
    rw [if_neg c3] at h2
    by_cases c4 : op = 4
    · rw [if_pos c4]
      rw [if_pos c4] at h2
      by_cases e : 0 < r
      · rw [if_pos e]; exact fin 0 _ h2 (by rw [decide_eq_false_iff_not]; omega)
      · rw [if_neg e]; exact fin 1 _ h2 (by rw [decide_eq_false_iff_not]; omega)
    rw [if_neg c4]
    rw [if_neg c4] at h2
    by_cases c5 : op = 5
    · rw [if_pos c5]
      rw [if_pos c5] at h2
      by_cases e : r ≤ 0
      · rw [if_pos e]; exact fin 0 _ h2 (by rw [decide_eq_false_iff_not]; omega)
      · rw [if_neg e]; exact fin 1 _ h2 (by rw [decide_eq_false_iff_not]; omega)
    rw [if_neg c5]
    rw [if_neg c5] at h2
    by_cases e : r < 0
    · rw [if_pos e]; exact fin 0 _ h2 (by rw [decide_eq_false_iff_not]; omega)
    · rw [if_neg e]; exact fin 1 _ h2 (by rw [decide_eq_false_iff_not]; omega)
  · rw [if_pos rfl]
    rw [if_neg (fun w => c (hk.mp w))] at h2
    by_cases c1 : op = 1
    · rw [if_pos c1, if_neg (by omega)]
      rw [if_pos c1] at h2
      exact ⟨a, rfl, B.1, k_truth B (by decide) h2⟩
    · rw [if_neg c1]
      rw [if_neg c1] at h2
      by_cases c2 : op = 2
      · rw [if_pos c2, if_pos c2]
        rw [if_pos c2] at h2
        exact ⟨a, rfl, B.1, k_truth B (by decide) h2⟩
      · rw [if_neg c2]
        rw [if_neg c2] at h2
        exact k_set B (by decide) h2
