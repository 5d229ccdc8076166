/-! ===== the reference: loads, what is wanted ===== -/
theorem mnl_t : mkl.getD 63 0 = 14 ∧ mnl.getD 63 0 = 314880 ∧ mkl.getD 70 0 = 14 ∧ mnl.getD 70 0 = 20 := by decide
theorem e_load {u : Mu} {d x : Int} {l : Lit} {P : Mu → Prop} (d0 : 0 ≤ d) (d1 : d < 200) (x0 : 0 ≤ x) (x1 : x < 13120) (hl : VOk l) (hc : CeM u x l) (h : ∀ v, FrS (fun e => e = d) u v → HdM v d l → P v) : F_X12_load d x u P := by
  obtain ⟨c1, c2, c3⟩ := hc
  unfold F_X12_load
  refine ⟨x0, x1, d0, d1, fun w hw => ?_⟩
  subst hw
  refine ⟨x0, x1, d0, d1, fun w hw => ?_⟩
  subst hw
  have e60 : mI (uG (uI u 66 d (mI u 60 x)) 67 d (mG (uI u 66 d (mI u 60 x)) 61 x)) 60 x = l.1 := by rw [mI_uG, mI_uI, if_neg (by omega)]; exact c1
  have e62 : mI (uG (uI u 66 d (mI u 60 x)) 67 d (mG (uI u 66 d (mI u 60 x)) 61 x)) 62 x = mI u 62 x := by rw [mI_uG, mI_uI, if_neg (by omega)]
  rw [e60, e62]
  have f : FrS (fun e => e = d) u (uG (uI u 66 d (mI u 60 x)) 67 d (mG (uI u 66 d (mI u 60 x)) 61 x)) := FrS_67 (FrS_66 FrS_rf rfl) rfl
  by_cases c : l.1 = 2
  · rw [if_pos c, w32e (by omega) (by omega)]
    obtain ⟨g1, g2⟩ := c2 c
    have b := VOk_b hl
    refine ⟨x0, x1, e_text (bs := l.2.2) d0 d1 mnl_t.1 (by decide) g1 b.1 (by omega) (by rw [g1, mnl_t.2.1]; omega) (by rw [mnl_t.2.1]; decide) (fun j hj => ?_) (fun v f2 hv => ?_)⟩
    · rw [mI_uG, mI_uI, if_neg (by omega)]; exact g2 j hj
    · unfold F_X12_load_53
      refine h v (FrS_tr f f2) ?_
      have : l = (2, 0, l.2.2) := by rw [← c, ← b.2.2.2 c]
      rw [this]; exact hv
  · rw [if_neg c]
    unfold F_X12_load_53
    refine h _ f ⟨?_, fun w => absurd w c, fun w => ?_⟩
    · rw [mI_uG, mI_uI, if_pos ⟨rfl, rfl⟩]; exact c1
    · rw [mG_uG, if_pos ⟨rfl, rfl⟩, mG_uI]; exact c3 w
theorem e_wantsN {u : Mu} {d : Int} {l : Lit} {P : Int → Mu → Prop} (d0 : 0 ≤ d) (d1 : d < 200) (hl : VOk l) (H : HdM u d l) (hy : (l.1 = 1 ∨ l.1 = 0) → ∀ v, FrS (fun e => e = d) u v → HdM v d (1, l.2.1, []) → P 1 v) (hn : ¬ (l.1 = 1 ∨ l.1 = 0) → ∀ v, FrS (fun e => e = d) u v → HdM v d (erL 3) → P 0 v) : F_X12_wantsNumber d u P := by
  have k15 : ∀ v (k : Int), mI v 66 d = k → (k = 1 → P 1 v) → (k ≠ 1 → ∀ w, FrS (fun e => e = d) v w → HdM w d (erL 3) → P 0 w) → F_X12_wantsNumber_15 d v P := by
    intro v k e1 h1 h2
    unfold F_X12_wantsNumber_15
    refine ⟨d0, d1, ?_⟩
    rw [e1]
    by_cases c : k = 1
    · rw [if_pos c]
      unfold F_X12_wantsNumber_31
      refine ⟨d0, d1, ?_⟩
      rw [e1, if_pos c]
      exact ⟨Or.inr rfl, h1 c⟩
    · rw [if_neg c]
      refine e_error d0 d1 (fun w f hw => ?_)
      unfold F_X12_wantsNumber_31
      refine ⟨d0, d1, ?_⟩
      rw [show mI w 66 d = 4 from hw.1, if_neg (by decide)]
      exact ⟨Or.inl rfl, h2 c w f hw⟩
  unfold F_X12_wantsNumber
  refine ⟨d0, d1, ?_⟩
  rw [H.1]
  by_cases c : l.1 = 0
  · rw [if_pos c]
    refine e_number d0 d1 (fun v f hv => ?_)
    have e0 : l.2.1 = 0 := by rw [VOk_0 hl c]
    unfold nuL at hv
    rw [if_neg (by decide)] at hv
    exact k15 v 1 hv.1 (fun _ => hy (Or.inr c) v f (by rw [e0]; exact hv)) (fun w => absurd rfl w)
  · rw [if_neg c]
    refine k15 u l.1 H.1 (fun c1 => hy (Or.inl c1) u FrS_rf ?_) (fun c1 w f hw => hn (by omega) w f hw)
    exact HdM_n (H.1.trans c1) (by decide) (H.2.2 (Or.inl c1))
theorem e_wantsT {u : Mu} {d : Int} {l : Lit} {P : Int → Mu → Prop} (d0 : 0 ≤ d) (d1 : d < 200) (hl : VOk l) (H : HdM u d l) (hy : (l.1 = 3 ∨ l.1 = 0) → ∀ v, FrS (fun e => e = d) u v → HdM v d (3, l.2.1, []) → P 1 v) (hn : ¬ (l.1 = 3 ∨ l.1 = 0) → ∀ v, FrS (fun e => e = d) u v → HdM v d (erL 3) → P 0 v) : F_X12_wantsTruth d u P := by
  have k15 : ∀ v (k : Int), mI v 66 d = k → (k = 3 → P 1 v) → (k ≠ 3 → ∀ w, FrS (fun e => e = d) v w → HdM w d (erL 3) → P 0 w) → F_X12_wantsTruth_15 d v P := by
    intro v k e1 h1 h2
    unfold F_X12_wantsTruth_15
    refine ⟨d0, d1, ?_⟩
    rw [e1]
    by_cases c : k = 3
    · rw [if_pos c]
      unfold F_X12_wantsTruth_31
      refine ⟨d0, d1, ?_⟩
      rw [e1, if_pos c]
      exact ⟨Or.inr rfl, h1 c⟩
    · rw [if_neg c]
      refine e_error d0 d1 (fun w f hw => ?_)
      unfold F_X12_wantsTruth_31
      refine ⟨d0, d1, ?_⟩
      rw [show mI w 66 d = 4 from hw.1, if_neg (by decide)]
      exact ⟨Or.inl rfl, h2 c w f hw⟩
  unfold F_X12_wantsTruth
  refine ⟨d0, d1, ?_⟩
  rw [H.1]
  by_cases c : l.1 = 0
  · rw [if_pos c]
    refine e_truth (t := false) d0 d1 (by decide) (fun v f hv => ?_)
    have e0 : l.2.1 = 0 := by rw [VOk_0 hl c]
    exact k15 v 3 hv.1 (fun _ => hy (Or.inr c) v f (by rw [e0]; exact hv)) (fun w => absurd rfl w)
  · rw [if_neg c]
    refine k15 u l.1 H.1 (fun c1 => hy (Or.inl c1) u FrS_rf ?_) (fun c1 w f hw => hn (by omega) w f hw)
    exact HdM_n (H.1.trans c1) (by decide) (H.2.2 (Or.inr (Or.inl c1)))
theorem sL_tf : sL 11 = sL 0 ∧ sL 12 = sL 1 ∧ sL 31 = [] ∧ sLen 11 = 4 ∧ sLen 12 = 5 ∧ sLen 31 = 0 := by decide +kernel
theorem e_wantsX {u : Mu} {d : Int} {l : Lit} {P : Mu → Prop} (d0 : 0 ≤ d) (d1 : d < 200) (hl : VOk l) (H : HdM u d l) (h : ∀ v, FrS (fun e => e = d) u v → HdM v d (txtL l) → P v) : F_X12_wantsText d u P := by
  unfold txtL at h
  unfold F_X12_wantsText
  refine ⟨d0, d1, ?_⟩
  rw [H.1]
  by_cases c0 : l.1 = 0
  · rw [if_neg (by omega), if_neg (by omega), if_pos c0] at h
    rw [if_pos c0]
    refine e_word d0 d1 (by decide) (by rw [sL_tf.2.2.2.2.2]; decide) (fun v f hv => h v f ?_)
    rw [sL_tf.2.2.1] at hv; exact hv
  rw [if_neg c0]
  by_cases c3 : l.1 = 3
  · rw [if_neg (by omega), if_pos c3] at h
    rw [if_pos c3, H.2.2 (Or.inr (Or.inl c3))]
    refine ⟨d0, d1, ?_⟩
    have x : l.2.1 = 0 ∨ l.2.1 = 1 := by rcases hl with hl | hl | hl | hl | hl <;> omega
    unfold F_X12_wantsText_52
    by_cases c1 : l.2.1 = 1
    · rw [if_pos c1]; rw [if_neg (by omega)] at h
      refine e_word d0 d1 (by decide) (by rw [sL_tf.2.2.2.1]; decide) (fun v f hv => h v f ?_)
      rw [sL_tf.1] at hv; exact hv
    · rw [if_neg c1]; rw [if_pos (by omega)] at h
      refine e_word d0 d1 (by decide) (by rw [sL_tf.2.2.2.2.1]; decide) (fun v f hv => h v f ?_)
      rw [sL_tf.2.1] at hv; exact hv
  rw [if_neg c3]
  by_cases c1 : l.1 = 1
  · rw [if_pos c1] at h
    rw [if_pos c1, H.2.2 (Or.inl c1)]
    refine ⟨d0, d1, ?_⟩
    have x := VOk_x hl
    have dl := dec_len x.1 x.2
    refine i_decimal x.1 x.2 (fun v f hv => ?_)
    rw [w32e (by omega) (by omega)]
    refine e_text (bs := dec l.2.1) d0 d1 mnl_t.2.2.1 (by decide) rfl (by omega) (by omega) (by rw [mnl_t.2.2.2]; omega) (by rw [mnl_t.2.2.2]; decide) (fun j hj => hv j hj) (fun w f2 hw => ?_)
    exact h w (FrS_tr (FrS_d f) f2) hw
  rw [if_neg c1]
  rw [if_neg c1, if_neg c3, if_neg c0] at h
  exact h u FrS_rf H
theorem e_asO {u : Mu} {a d : Int} {l m : Lit} {P : Mu → Prop} (a0 : 0 ≤ a) (a1 : a < 200) (d0 : 0 ≤ d) (d1 : d < 200) (H : HdM u a l) (K : HdM u d m) (h : ∀ v, FrS (fun e => e = a) u v → HdM v a (asO l m) → P v) : F_X12_asOther a d u P := by
  unfold asO at h
  unfold F_X12_asOther
  refine ⟨a0, a1, ?_⟩
  rw [H.1]
  by_cases c0 : l.1 = 0
  · rw [if_pos c0]
    refine ⟨d0, d1, ?_⟩
    rw [K.1]
    by_cases c1 : m.1 = 1
    · rw [if_pos c1]
      rw [if_pos ⟨c0, Or.inl c1⟩, c1] at h
      refine e_number a0 a1 (fun v f hv => h v f ?_)
      unfold nuL at hv
      rw [if_neg (by decide)] at hv; exact hv
    rw [if_neg c1]
    unfold F_X12_asOther_28
    refine ⟨a0, a1, ?_⟩
    rw [H.1, if_pos c0]
    refine ⟨d0, d1, ?_⟩
    rw [K.1]
    by_cases c2 : m.1 = 2
    · rw [if_pos c2]
      rw [if_pos ⟨c0, Or.inr (Or.inl c2)⟩, c2] at h
      refine e_word a0 a1 (by decide) (by rw [sL_tf.2.2.2.2.2]; decide) (fun v f hv => h v f ?_)
      rw [sL_tf.2.2.1] at hv; exact hv
    rw [if_neg c2]
    unfold F_X12_asOther_58
    refine ⟨a0, a1, ?_⟩
    rw [H.1, if_pos c0]
    refine ⟨d0, d1, ?_⟩
    rw [K.1]
    by_cases c3 : m.1 = 3
    · rw [if_pos c3]
      rw [if_pos ⟨c0, Or.inr (Or.inr c3)⟩, c3] at h
      exact e_truth (t := false) a0 a1 (by decide) (fun v f hv => h v f hv)
    rw [if_neg c3]
    rw [if_neg (by omega)] at h
    exact h u FrS_rf H
  · rw [if_neg (fun w => c0 w.1)] at h
    rw [if_neg c0]
    unfold F_X12_asOther_28
    refine ⟨a0, a1, ?_⟩
    rw [H.1, if_neg c0]
    unfold F_X12_asOther_58
    refine ⟨a0, a1, ?_⟩
    rw [H.1, if_neg c0]
    exact h u FrS_rf H
/-! comparing -/
theorem cmpB_0 : ∀ bs cs : List Int, bs = [] ∨ cs = [] → cmpB bs cs = (if (cs.length : Int) ≤ bs.length then (if (bs.length : Int) ≤ cs.length then 0 else 1) else -1)
  | [], [], _ => rfl
  | [], y :: b, _ => by rw [cmpB, if_neg (by rw [List.length_cons, List.length_nil]; omega)]
  | x :: a, [], _ => by rw [cmpB, if_pos (by rw [List.length_cons, List.length_nil]; omega), if_neg (by rw [List.length_cons, List.length_nil]; omega)]
  | x :: a, y :: b, h => by rcases h with h | h <;> cases h
theorem drop_c {l : List Int} {k : Nat} (h : k < l.length) : l.drop k = l.getD k 0 :: l.drop (k + 1) := by
  rw [List.getD_eq_getElem?_getD, List.getElem?_eq_getElem h]; exact List.drop_eq_getElem_cons h
theorem cmpB_d {bs cs : List Int} {k : Nat} (h1 : k < bs.length) (h2 : k < cs.length) : cmpB (bs.drop k) (cs.drop k) = (if bs.getD k 0 = cs.getD k 0 then cmpB (bs.drop (k + 1)) (cs.drop (k + 1)) else if bs.getD k 0 < cs.getD k 0 then -1 else 1) := by
  rw [drop_c h1, drop_c h2, cmpB]
theorem e_order {u : Mu} {a d : Int} {l m : Lit} {P : Int → Prop} (a0 : 0 ≤ a) (a1 : a < 200) (d0 : 0 ≤ d) (d1 : d < 200) (hl : VOk l) (hm : VOk m) (H : HdM u a l) (K : HdM u d m) (e : l.1 = m.1) (h : P (ordV l m)) : F_X12_order a d u P := by
  have k49 : ∀ x y, cmpN x y = ordV l m → F_X12_order_49 x y u P := by
    intro x y exy
    unfold F_X12_order_49 F_X12_order_74
    rw [← exy] at h
    unfold cmpN at h
    by_cases c : y ≤ x
    · rw [if_pos c]
      rw [if_neg (by omega)] at h
      by_cases c2 : x ≤ y
      · rw [if_pos c2]; rw [if_neg (by omega)] at h; exact h
      · rw [if_neg c2]; rw [if_pos (by omega)] at h; exact h
    · rw [if_neg c]; rw [if_pos (by omega)] at h; exact h
  unfold F_X12_order
  refine ⟨a0, a1, ?_⟩
  rw [H.1]
  by_cases c2 : l.1 = 2
  · rw [if_pos c2]
    obtain ⟨g1, g2⟩ := H.2.1 c2
    obtain ⟨g3, g4⟩ := K.2.1 (by omega)
    have b1 := (VOk_b hl).1
    have b2 := (VOk_b hm).1
    refine ⟨a0, a1, d0, d1, ?_⟩
    rw [g1, g3]
    have key : ∀ n : Int, n = (min l.2.2.length m.2.2.length : Nat) → F_X12_order_94 a d n 0 u P := by
      intro n hn
      unfold F_X12_order_94
      refine lp_I (fun q => (0 ≤ q ∧ q ≤ n) ∧ cmpB (l.2.2.drop q.toNat) (m.2.2.drop q.toNat) = ordV l m) (fun q => (n - q).toNat) ?_ _ ⟨⟨by omega, by omega⟩, by unfold ordV; rw [if_pos c2]; rfl⟩
      rintro G q ⟨⟨q0, q1⟩, eq⟩ ih
      unfold L_X12_order_94
      by_cases c : n ≤ q
      · rw [if_pos c]
        show 0 ≤ a ∧ a < 200 ∧ 0 ≤ d ∧ d < 200 ∧ _
        refine ⟨a0, a1, d0, d1, ?_⟩
        rw [g1, g3]
        unfold F_X12_order_193
        have l1 : (l.2.2.drop q.toNat).length = l.2.2.length - q.toNat := List.length_drop
        have l2 : (m.2.2.drop q.toNat).length = m.2.2.length - q.toNat := List.length_drop
        rw [cmpB_0 _ _ (by by_cases cc : l.2.2.length ≤ m.2.2.length
                           · left; exact List.eq_nil_of_length_eq_zero (by omega)
                           · right; exact List.eq_nil_of_length_eq_zero (by omega))] at eq
        rw [l1, l2] at eq
        by_cases d1 : (m.2.2.length : Int) ≤ l.2.2.length
        · rw [if_pos d1]
          rw [if_pos (by omega)] at eq
          by_cases d2 : (l.2.2.length : Int) ≤ m.2.2.length
          · rw [if_pos d2]; rw [if_pos (by omega)] at eq; rw [eq]; exact h
          · rw [if_neg d2]; rw [if_neg (by omega)] at eq; rw [eq]; exact h
        · rw [if_neg d1]; rw [if_neg (by omega)] at eq; rw [eq]; exact h
      · have k1 : q.toNat < l.2.2.length := by omega
        have k2 : q.toNat < m.2.2.length := by omega
        have x1 := g2 q.toNat k1
        have x2 := g4 q.toNat k2
        rw [Int.toNat_of_nonneg q0] at x1 x2
        rw [if_neg c, w32e (x := 24 * a) (by omega) (by omega), w32e (x := 24 * a + q) (by omega) (by omega), w32e (x := 24 * d) (by omega) (by omega), w32e (x := 24 * d + q) (by omega) (by omega), w32e (x := q + 1) (by omega) (by omega), x1, x2]
        refine ⟨by omega, by omega, by omega, by omega, ?_⟩
        rw [cmpB_d k1 k2] at eq
        by_cases ce : l.2.2.getD q.toNat 0 = m.2.2.getD q.toNat 0
        · rw [if_pos ce]
          rw [if_pos ce] at eq
          exact ih _ ⟨⟨by omega, by omega⟩, by rw [show (q + 1).toNat = q.toNat + 1 by omega]; exact eq⟩ (by omega)
        · rw [if_neg ce]
          rw [if_neg ce] at eq
          unfold F_X12_order_147
          show (if _ then _ else _)
          by_cases cl : m.2.2.getD q.toNat 0 ≤ l.2.2.getD q.toNat 0
          · rw [if_pos cl]; rw [if_neg (by omega)] at eq; rw [eq]; exact h
          · rw [if_neg cl]; rw [if_pos (by omega)] at eq; rw [eq]; exact h
    unfold F_X12_least F_X12_least_10
    by_cases c : (m.2.2.length : Int) ≤ l.2.2.length
    · rw [if_pos c]; exact key _ (by omega)
    · rw [if_neg c]; exact key _ (by omega)
  · rw [if_neg c2]
    have ev : ordV l m = cmpN l.2.1 m.2.1 := by unfold ordV; rw [if_neg c2]
    have kk := VOk_k hl
    by_cases c0 : l.1 = 0
    · rw [if_pos c0]
      unfold F_X12_order_29
      refine ⟨d0, d1, ?_⟩
      rw [K.1, if_pos (by omega)]
      exact k49 0 0 (by rw [ev, VOk_0 hl c0, VOk_0 hm (by omega)])
    · rw [if_neg c0, H.2.2 (by omega)]
      refine ⟨a0, a1, ?_⟩
      unfold F_X12_order_29
      refine ⟨d0, d1, ?_⟩
      rw [K.1, if_neg (by omega), K.2.2 (by omega)]
      exact ⟨d0, d1, k49 _ _ ev.symm⟩
theorem e_holds {o s : Int} {P : Int → Prop} (s0 : 0 ≤ s) (s5 : s ≤ 5) (h : P (if hldO (s + 1) o = true then 1 else 0)) : F_X12_holds o s P := by
  have z0 : Z1 0 := Or.inl rfl
  have z1 : Z1 1 := Or.inr rfl
  have yes : hldO (s + 1) o = true → P 1 := fun w => by rw [if_pos w] at h; exact h
  have no : hldO (s + 1) o = false → P 0 := fun w => by rw [if_neg (by rw [w]; decide)] at h; exact h
  unfold hldO at yes no
  unfold F_X12_holds F_X12_holds_45 F_X12_holds_55 F_X12_holds_65 F_X12_holds_75 F_X12_holds_85 F_X12_holds_95
  by_cases c0 : s = 0
  · rw [if_pos (by omega)] at yes no
    rw [if_pos c0]
    split
    · exact ⟨z1, yes (decide_eq_true (by assumption))⟩
    · exact ⟨z0, no (decide_eq_false (by assumption))⟩
  rw [if_neg c0]
  rw [if_neg (by omega)] at yes no
  by_cases c1 : s = 1
  · rw [if_pos (by omega)] at yes no
    rw [if_pos c1]
    split
    · next c => exact ⟨z0, no (decide_eq_false (fun w => w c))⟩
    · exact ⟨z1, yes (decide_eq_true (by assumption))⟩
  rw [if_neg c1]
  rw [if_neg (by omega)] at yes no
  by_cases c2 : s = 2
  · rw [if_pos (by omega)] at yes no
    rw [if_pos c2]
    split
    · exact ⟨z0, no (decide_eq_false (by omega))⟩
    · exact ⟨z1, yes (decide_eq_true (by omega))⟩
  rw [if_neg c2]
  rw [if_neg (by omega)] at yes no
  by_cases c3 : s = 3
  · rw [if_pos (by omega)] at yes no
    rw [if_pos c3]
    split
    · exact ⟨z0, no (decide_eq_false (by omega))⟩
    · exact ⟨z1, yes (decide_eq_true (by omega))⟩
  rw [if_neg c3]
  rw [if_neg (by omega)] at yes no
  by_cases c4 : s = 4
  · rw [if_pos (by omega)] at yes no
    rw [if_pos c4]
    split
    · exact ⟨z0, no (decide_eq_false (by omega))⟩
    · exact ⟨z1, yes (decide_eq_true (by omega))⟩
  rw [if_neg c4]
  rw [if_neg (by omega)] at yes no
  split
  · exact ⟨z0, no (decide_eq_false (by omega))⟩
  · exact ⟨z1, yes (decide_eq_true (by omega))⟩
