/-! ===== shapedAlong ===== -/
theorem NS_new {z : Z} {ra ca : Nat} {nr nc : Int} {q x : Nat} {y : Z} (h : New7 z ra ca nr nc q x y) (e : ∀ i, zO y x i = none) : NS z q x ra ca nr nc (fun _ _ => none) y := by
  obtain ⟨n1, n2, n3, n4, n5, n6, n7⟩ := h
  exact ⟨n1, n2, n3, n4, n5, n6, fun r c _ _ _ _ => e _⟩
theorem k_shape0 {z : Z} {I : Nat → Prop} {a la ra ca xa : Nat} {s : Sh} {n : Int} {ids : Int → Int} {c sl : Nat} {P : Option Nat → Z → Prop} (fr : ∀ v, I v → zK z v ≠ 0) (h0 : ShC z I a s) (Sp : Shp z a ra ca xa s.1.1 s.1.2) (g6 : ∀ r c, 0 ≤ r → r < s.1.1 → 0 ≤ c → c < s.1.2 → ContC z I (zO z xa (r * s.1.2 + c)) (s.2.2.2 r c)) (hk : zK z la = 15) (hn : zN z la = n) (n0 : 1 ≤ n) (n1 : n ≤ mst 0) (hi : ∀ k, 0 ≤ k → k < n → zI z la k = ids k + 1) (hc : 2 ≤ c) (hs : 324 ≤ sl) (h : ∀ q x y, NS z q x la ca n s.1.2 (fun a d => cAt z xa s.1.1 s.1.2 (plS s 0 (ids a) + 1) (d + 1)) y → P (some q) y) : F_X6_shapedAlong a 0 (some la) z c sl P := by
  obtain ⟨s1, s2, s3, s4, s5, s6, s7, s8, s9, s10, s11, s12⟩ := id Sp
  have hm : mst 0 = 32 := rfl
  rw [hm] at n1
  have hnm : 1 ≤ n * s.1.2 ∧ n * s.1.2 ≤ 320 := cnt (by omega) (by omega)
  unfold F_X6_shapedAlong
  refine ⟨by omega, by omega, fun q hq => ?_⟩
  rintro _ rfl
  have nqa : a ≠ q := fun e => by rw [← e, s1] at hq; cases hq
  rw [if_pos rfl]
  unfold F_X6_shapedAlong_16
  rw [if_pos rfl]
  refine ⟨by rw [zK_nZ, if_neg nqa]; exact s1, ?_⟩
  rw [zO_nZ, if_neg nqa, s3]
  unfold F_X6_shapedAlong_28
  refine ⟨q, rfl, by rw [zK_nZ, if_pos rfl], c - 1, sl - 4, Nat.le_refl _, Nat.le_refl _, ?_⟩
  refine k_new7 (nr := n) (nc := s.1.2) hq hk s6 hn s9 (by omega) (by omega) (by omega) (by omega) (fun x y nw ex => ?_)
  have N0 := NS_new nw ex
  unfold F_X6_shapedAlong_35
  have wI0 : ∀ v i, I v → ¬ nW v i := fun _ _ _ w => w
  refine lp_I (fun t => (0 ≤ t.1 ∧ t.1 ≤ n) ∧ NS z q x la ca n s.1.2 (fun a d => if a < t.1 ∨ (a = t.1 ∧ d < 0) then cAt z xa s.1.1 s.1.2 (plS s 0 (ids a) + 1) (d + 1) else none) t.2) (fun t => (n - t.1).toNat) ?_ (0, y) ⟨⟨by show (0 : Int) ≤ 0; decide, by show 0 ≤ n; omega⟩, ?_⟩
  · rintro G ⟨i, w⟩ ⟨⟨i0, i1⟩, NW⟩ ih
    simp only at i0 i1 NW
    have fw := NW.2.2.2.1
    have kla : zK w la = 15 := (fw.1 la (by rw [hk]; decide)).1.trans hk
    have nla : zN w la = n := (fw.1 la (by rw [hk]; decide)).2.trans hn
    unfold L_X6_shapedAlong_35
    dsimp only
    refine ⟨la, rfl, kla, ?_⟩
    rw [nla]
    by_cases e : n ≤ i
    · rw [if_pos e]
      show P (some q) w
      refine h q x w ⟨NW.1, NW.2.1, NW.2.2.1, fw, NW.2.2.2.2.1, NW.2.2.2.2.2.1, fun a d a0 a1 d0 d1 => ?_⟩
      rw [NW.2.2.2.2.2.2 a d a0 a1 d0 d1]
      dsimp only
      rw [if_pos (Or.inl (by omega))]
    · rw [if_neg e]
      refine ⟨i0, by omega, (fw.1 a (by rw [s1]; decide)).1.trans s1, ?_⟩
      refine o_placeOf (ShC_fr fw wI0 (fun _ _ _ w => w.elim) h0) ?_
      rw [(fw.2 la i (by rw [hk]; decide) (fun w => w)).1, hi i i0 (by omega), show ids i + 1 - 1 = ids i by omega]
      unfold F_X6_shapedAlong_56
      refine lp_I (fun t => (1 ≤ t.1 ∧ t.1 ≤ s.1.2 + 1) ∧ NS z q x la ca n s.1.2 (fun a d => if a < i ∨ (a = i ∧ d < t.1 - 1) then cAt z xa s.1.1 s.1.2 (plS s 0 (ids a) + 1) (d + 1) else none) t.2) (fun t => (s.1.2 + 1 - t.1).toNat) ?_ (1, w) ⟨⟨by show (1 : Int) ≤ 1; decide, by show 1 ≤ s.1.2 + 1; omega⟩, NW⟩
      rintro G2 ⟨k, w⟩ ⟨⟨k0, k1⟩, NW⟩ ih2
      simp only at k0 k1 NW
      have fw := NW.2.2.2.1
      have Sw := Shp_fr Sp fw (fun w => w) (fun w => w) (fun w => w)
      unfold L_X6_shapedAlong_56 F_X6_shapedAlong_112
      dsimp only
      refine ⟨Sw.1, ?_⟩
      rw [w32e (x := 1 - 0) (by decide) (by decide)]
      refine k_line Sw ?_
      rw [if_neg (by decide)]
      refine ⟨ca, rfl, Sw.2.2.2.2.2.1, ?_⟩
      rw [Sw.2.2.2.2.2.2.2.2.1]
      by_cases e2 : s.1.2 < k
      · rw [if_pos e2]
        have ek : k = s.1.2 + 1 := by omega
        show G (w32 (i + 1), w)
        rw [w32e (by omega) (by omega)]
        refine ih (i + 1, w) ⟨⟨by show 0 ≤ i + 1; omega, by show i + 1 ≤ n; omega⟩, NW.1, NW.2.1, NW.2.2.1, fw, NW.2.2.2.2.1, NW.2.2.2.2.2.1, fun a d a0 a1 d0 d1 => ?_⟩ (by show (n - (i + 1)).toNat < (n - i).toNat; omega)
        rw [NW.2.2.2.2.2.2 a d a0 a1 d0 d1]
        dsimp only
        by_cases q3 : a < i + 1
        · rw [if_pos (by omega), if_pos (Or.inl q3)]
        · rw [if_neg (by omega), if_neg (by omega)]
      · rw [if_neg e2, if_pos rfl]
        refine k_at Sw ?_
        have eC : cAt w xa s.1.1 s.1.2 (plS s 0 (ids i) + 1) k = cAt z xa s.1.1 s.1.2 (plS s 0 (ids i) + 1) k := by
          unfold cAt
          split
          · exact (fw.2 xa _ (by rw [s7]; decide) (fun w => w)).2.2
          · rfl
        rw [eC]
        refine ⟨q, rfl, NW.2.2.2.2.1.1, ?_⟩
        rw [w32e (x := i + 1) (by omega) (by omega)]
        refine NS_put NW (by omega) (by omega) (fun v hv => ?_) (fun w' NW' _ => ?_)
        · unfold cAt at hv
          split at hv
          · next q4 =>
            have kc := ShC_all s12.1 g6 _ (cix q4.1.1 q4.1.2 q4.2.1 q4.2.2).2.1 (cix q4.1.1 q4.1.2 q4.2.1 q4.2.2).2.2 v hv
            exact (fw.1 v (by rw [kc]; decide)).1.trans kc
          · cases hv
        · rw [w32e (x := k + 1) (by omega) (by omega)]
          refine ih2 (k + 1, w') ⟨⟨by show 1 ≤ k + 1; omega, by show k + 1 ≤ s.1.2 + 1; omega⟩, NW'.1, NW'.2.1, NW'.2.2.1, NW'.2.2.2.1, NW'.2.2.2.2.1, NW'.2.2.2.2.2.1, fun a d a0 a1 d0 d1 => ?_⟩ (by show (s.1.2 + 1 - (k + 1)).toNat < (s.1.2 + 1 - k).toNat; omega)
          rw [NW'.2.2.2.2.2.2 a d a0 a1 d0 d1]
          dsimp only
          by_cases q5 : a = i + 1 - 1 ∧ d = k - 1
          · rw [if_pos q5, if_pos (by omega)]
            obtain ⟨q6, q7⟩ := q5
            rw [show a = i by omega, show d + 1 = k by omega]
          · rw [if_neg q5]
            by_cases q8 : a < i ∨ (a = i ∧ d < k - 1)
            · rw [if_pos q8, if_pos (by omega)]
            · rw [if_neg q8, if_neg (by omega)]
  · obtain ⟨m1, m2, m3, m4, m5, m6, m7⟩ := N0
    refine ⟨m1, m2, m3, m4, m5, m6, fun a d a0 a1 d0 d1 => ?_⟩
    rw [m7 a d a0 a1 d0 d1]
    dsimp only
    rw [if_neg (by omega)]
theorem k_shape1 {z : Z} {I : Nat → Prop} {a la ra ca xa : Nat} {s : Sh} {n : Int} {ids : Int → Int} {c sl : Nat} {P : Option Nat → Z → Prop} (fr : ∀ v, I v → zK z v ≠ 0) (h0 : ShC z I a s) (Sp : Shp z a ra ca xa s.1.1 s.1.2) (g6 : ∀ r c, 0 ≤ r → r < s.1.1 → 0 ≤ c → c < s.1.2 → ContC z I (zO z xa (r * s.1.2 + c)) (s.2.2.2 r c)) (hk : zK z la = 15) (hn : zN z la = n) (n0 : 1 ≤ n) (n1 : n ≤ mst 1) (hi : ∀ k, 0 ≤ k → k < n → zI z la k = ids k + 1) (hc : 2 ≤ c) (hs : 324 ≤ sl) (h : ∀ q x y, NS z q x ra la s.1.1 n (fun a d => cAt z xa s.1.1 s.1.2 (a + 1) (plS s 1 (ids d) + 1)) y → P (some q) y) : F_X6_shapedAlong a 1 (some la) z c sl P := by
  obtain ⟨s1, s2, s3, s4, s5, s6, s7, s8, s9, s10, s11, s12⟩ := id Sp
  have hm : mst 1 = 10 := rfl
  rw [hm] at n1
  have hnm : 1 ≤ s.1.1 * n ∧ s.1.1 * n ≤ 320 := cnt (by omega) (by omega)
  unfold F_X6_shapedAlong
  refine ⟨by omega, by omega, fun q hq => ?_⟩
  rintro _ rfl
  have nqa : a ≠ q := fun e => by rw [← e, s1] at hq; cases hq
  rw [if_neg (by decide)]
  refine ⟨by rw [zK_nZ, if_neg nqa]; exact s1, ?_⟩
  unfold F_X6_shapedAlong_16
  rw [if_neg (by decide), zO_nZ, if_neg nqa, s2]
  unfold F_X6_shapedAlong_28
  refine ⟨q, rfl, by rw [zK_nZ, if_pos rfl], c - 1, sl - 4, Nat.le_refl _, Nat.le_refl _, ?_⟩
  refine k_new7 (nr := s.1.1) (nc := n) hq s5 hk s8 hn (by omega) (by omega) (by omega) (by omega) (fun x y nw ex => ?_)
  have N0 := NS_new nw ex
  unfold F_X6_shapedAlong_35
  have wI0 : ∀ v i, I v → ¬ nW v i := fun _ _ _ w => w
  refine lp_I (fun t => (0 ≤ t.1 ∧ t.1 ≤ n) ∧ NS z q x ra la s.1.1 n (fun a d => if d < t.1 ∨ (d = t.1 ∧ a < 0) then cAt z xa s.1.1 s.1.2 (a + 1) (plS s 1 (ids d) + 1) else none) t.2) (fun t => (n - t.1).toNat) ?_ (0, y) ⟨⟨by show (0 : Int) ≤ 0; decide, by show 0 ≤ n; omega⟩, ?_⟩
  · rintro G ⟨i, w⟩ ⟨⟨i0, i1⟩, NW⟩ ih
    simp only at i0 i1 NW
    have fw := NW.2.2.2.1
    have kla : zK w la = 15 := (fw.1 la (by rw [hk]; decide)).1.trans hk
    have nla : zN w la = n := (fw.1 la (by rw [hk]; decide)).2.trans hn
    unfold L_X6_shapedAlong_35
    dsimp only
    refine ⟨la, rfl, kla, ?_⟩
    rw [nla]
    by_cases e : n ≤ i
    · rw [if_pos e]
      show P (some q) w
      refine h q x w ⟨NW.1, NW.2.1, NW.2.2.1, fw, NW.2.2.2.2.1, NW.2.2.2.2.2.1, fun a d a0 a1 d0 d1 => ?_⟩
      rw [NW.2.2.2.2.2.2 a d a0 a1 d0 d1]
      dsimp only
      rw [if_pos (Or.inl (by omega))]
    · rw [if_neg e]
      refine ⟨i0, by omega, (fw.1 a (by rw [s1]; decide)).1.trans s1, ?_⟩
      refine o_placeOf (ShC_fr fw wI0 (fun _ _ _ w => w.elim) h0) ?_
      rw [(fw.2 la i (by rw [hk]; decide) (fun w => w)).1, hi i i0 (by omega), show ids i + 1 - 1 = ids i by omega]
      unfold F_X6_shapedAlong_56
      refine lp_I (fun t => (1 ≤ t.1 ∧ t.1 ≤ s.1.1 + 1) ∧ NS z q x ra la s.1.1 n (fun a d => if d < i ∨ (d = i ∧ a < t.1 - 1) then cAt z xa s.1.1 s.1.2 (a + 1) (plS s 1 (ids d) + 1) else none) t.2) (fun t => (s.1.1 + 1 - t.1).toNat) ?_ (1, w) ⟨⟨by show (1 : Int) ≤ 1; decide, by show 1 ≤ s.1.1 + 1; omega⟩, NW⟩
      rintro G2 ⟨k, w⟩ ⟨⟨k0, k1⟩, NW⟩ ih2
      simp only at k0 k1 NW
      have fw := NW.2.2.2.1
      have Sw := Shp_fr Sp fw (fun w => w) (fun w => w) (fun w => w)
      unfold L_X6_shapedAlong_56 F_X6_shapedAlong_112
      dsimp only
      refine ⟨Sw.1, ?_⟩
      rw [w32e (x := 1 - 1) (by decide) (by decide)]
      refine k_line Sw ?_
      rw [if_pos (by decide)]
      refine ⟨ra, rfl, Sw.2.2.2.2.1, ?_⟩
      rw [Sw.2.2.2.2.2.2.2.1]
      by_cases e2 : s.1.1 < k
      · rw [if_pos e2]
        have ek : k = s.1.1 + 1 := by omega
        show G (w32 (i + 1), w)
        rw [w32e (by omega) (by omega)]
        refine ih (i + 1, w) ⟨⟨by show 0 ≤ i + 1; omega, by show i + 1 ≤ n; omega⟩, NW.1, NW.2.1, NW.2.2.1, fw, NW.2.2.2.2.1, NW.2.2.2.2.2.1, fun a d a0 a1 d0 d1 => ?_⟩ (by show (n - (i + 1)).toNat < (n - i).toNat; omega)
        rw [NW.2.2.2.2.2.2 a d a0 a1 d0 d1]
        dsimp only
        by_cases q3 : d < i + 1
        · rw [if_pos (by omega), if_pos (Or.inl q3)]
        · rw [if_neg (by omega), if_neg (by omega)]
      · rw [if_neg e2, if_neg (by decide)]
        refine k_at Sw ?_
        have eC : cAt w xa s.1.1 s.1.2 k (plS s 1 (ids i) + 1) = cAt z xa s.1.1 s.1.2 k (plS s 1 (ids i) + 1) := by
          unfold cAt
          split
          · exact (fw.2 xa _ (by rw [s7]; decide) (fun w => w)).2.2
          · rfl
        rw [eC]
        refine ⟨q, rfl, NW.2.2.2.2.1.1, ?_⟩
        rw [w32e (x := i + 1) (by omega) (by omega)]
        refine NS_put NW (by omega) (by omega) (fun v hv => ?_) (fun w' NW' _ => ?_)
        · unfold cAt at hv
          split at hv
          · next q4 =>
            have kc := ShC_all s12.1 g6 _ (cix q4.1.1 q4.1.2 q4.2.1 q4.2.2).2.1 (cix q4.1.1 q4.1.2 q4.2.1 q4.2.2).2.2 v hv
            exact (fw.1 v (by rw [kc]; decide)).1.trans kc
          · cases hv
        · rw [w32e (x := k + 1) (by omega) (by omega)]
          refine ih2 (k + 1, w') ⟨⟨by show 1 ≤ k + 1; omega, by show k + 1 ≤ s.1.1 + 1; omega⟩, NW'.1, NW'.2.1, NW'.2.2.1, NW'.2.2.2.1, NW'.2.2.2.2.1, NW'.2.2.2.2.2.1, fun a d a0 a1 d0 d1 => ?_⟩ (by show (s.1.1 + 1 - (k + 1)).toNat < (s.1.1 + 1 - k).toNat; omega)
          rw [NW'.2.2.2.2.2.2 a d a0 a1 d0 d1]
          dsimp only
          by_cases q5 : a = k - 1 ∧ d = i + 1 - 1
          · rw [if_pos q5, if_pos (by omega)]
            obtain ⟨q6, q7⟩ := q5
            rw [show d = i by omega, show a + 1 = k by omega]
          · rw [if_neg q5]
            by_cases q8 : d < i ∨ (d = i ∧ a < k - 1)
            · rw [if_pos q8, if_pos (by omega)]
            · rw [if_neg q8, if_neg (by omega)]
  · obtain ⟨m1, m2, m3, m4, m5, m6, m7⟩ := N0
    refine ⟨m1, m2, m3, m4, m5, m6, fun a d a0 a1 d0 d1 => ?_⟩
    rw [m7 a d a0 a1 d0 d1]
    dsimp only
    rw [if_neg (by omega)]
theorem o_shape {z : Z} {b : Nat → Nat} {I : Nat → Prop} {S : SS} {a la : Nat} {s : Sh} {ax n : Int} {ids : Int → Int} {c sl : Nat} {P : Option Nat → Z → Prop} (R : RC z b I S) (h0 : ShC z I a s) (hax : ax = 0 ∨ ax = 1) (hk : zK z la = 15) (hb : ∀ k, k < 35 → la ≠ b k) (hn : zN z la = n) (n0 : 1 ≤ n) (n1 : n ≤ mst ax) (hi : ∀ k, 0 ≤ k → k < n → zI z la k = ids k + 1) (hc : 2 ≤ c) (hs : 324 ≤ sl) (h : ∀ q y J, GrL z I J la → FrZ nW z y → zK z q = 0 → ShC y J q (shA s ax n ids) → zO y q 3 = none → RC y b J S → P (some q) y) : F_X6_shapedAlong a ax (some la) z c sl P := by
  obtain ⟨ra, ca, xa, Sp, i1, i2, i3, g4, g5, g6⟩ := id h0
  have fr := R.2.1
  have iL : ∀ v, I v → (fun v => I v ∨ v = la) v := fun v hv => Or.inl hv
  have hL : Frz z b (fun v => I v ∨ v = la) := by
    rintro v (hv | rfl)
    · exact fr v hv
    · exact ⟨by rw [hk]; decide, by rw [hk]; decide, by rw [hk]; decide, hb⟩
  have RL := RC_I iL hL R
  have kra : zK z ra ≠ 0 := by rw [Sp.2.2.2.2.1]; decide
  have kca : zK z ca ≠ 0 := by rw [Sp.2.2.2.2.2.1]; decide
  have kla : zK z la ≠ 0 := by rw [hk]; decide
  rcases hax with rfl | rfl
  · refine k_shape0 (fun v hv => (fr v hv).1) h0 Sp g6 hk hn n0 n1 hi hc hs (fun q x y N => ?_)
    have fw := N.2.2.2.1
    have Ry := RC_nW fw RL
    have fW : FrZ (WL z b [] no1 no1) z y := FrZ_mono fw (fun _ _ _ w => w.elim)
    obtain ⟨sq, RJ⟩ := NS_fix (s := shA s 0 n ids) R.1 Ry N (Or.inr rfl) (Or.inl i2) (fun k a d => by rw [(fw.2 la k kla (fun w => w)).1]; exact hi k a d) (fun k a d => by rw [(fw.2 ca k kca (fun w => w)).1]; exact g5 k a d) (fun a d a0 a1 d0 d1 => by
      show ContC y _ _ (if 0 ≤ plS s 0 (ids a) then s.2.2.2 (plS s 0 (ids a)) d else none)
      have pb := plS_b s 0 (ids a)
      have ln : lnS s 0 = s.1.1 := rfl
      rw [ln] at pb
      replace d1 : d < s.1.2 := d1
      unfold cAt
      by_cases e : 0 ≤ plS s 0 (ids a)
      · rw [if_pos e, if_pos (by omega)]
        have q := g6 (plS s 0 (ids a)) d (by omega) (by omega) (by omega) (by omega)
        have e1 : plS s 0 (ids a) + 1 - 1 = plS s 0 (ids a) := by omega
        have e2 : d + 1 - 1 = d := by omega
        rw [e1, e2]
        exact ContC_I (fun v hv => Or.inl hv) (ContC_fr fW (WL_I fr) q)
      · rw [if_neg e, if_neg (by omega)]; exact rfl)
    exact h q y _ ⟨fun v hv => Or.inl (Or.inl hv), fun v hv => hv.elim (fun e => e.imp id Or.inl) (fun e => Or.inr (Or.inr (by rw [e]; exact N.2.1)))⟩ fw N.1 sq N.2.2.2.2.2.1 RJ
  · refine k_shape1 (fun v hv => (fr v hv).1) h0 Sp g6 hk hn n0 n1 hi hc hs (fun q x y N => ?_)
    have fw := N.2.2.2.1
    have Ry := RC_nW fw RL
    have fW : FrZ (WL z b [] no1 no1) z y := FrZ_mono fw (fun _ _ _ w => w.elim)
    obtain ⟨sq, RJ⟩ := NS_fix (s := shA s 1 n ids) R.1 Ry N (Or.inl i1) (Or.inr rfl) (fun k a d => by rw [(fw.2 ra k kra (fun w => w)).1]; exact g4 k a d) (fun k a d => by rw [(fw.2 la k kla (fun w => w)).1]; exact hi k a d) (fun a d a0 a1 d0 d1 => by
      show ContC y _ _ (if 0 ≤ plS s 1 (ids d) then s.2.2.2 a (plS s 1 (ids d)) else none)
      have pb := plS_b s 1 (ids d)
      have ln : lnS s 1 = s.1.2 := rfl
      rw [ln] at pb
      replace a1 : a < s.1.1 := a1
      unfold cAt
      by_cases e : 0 ≤ plS s 1 (ids d)
      · rw [if_pos e, if_pos (by omega)]
        have q := g6 a (plS s 1 (ids d)) (by omega) (by omega) (by omega) (by omega)
        have e1 : plS s 1 (ids d) + 1 - 1 = plS s 1 (ids d) := by omega
        have e2 : a + 1 - 1 = a := by omega
        rw [e1, e2]
        exact ContC_I (fun v hv => Or.inl hv) (ContC_fr fW (WL_I fr) q)
      · rw [if_neg e, if_neg (by omega)]; exact rfl)
    exact h q y _ ⟨fun v hv => Or.inl (Or.inl hv), fun v hv => hv.elim (fun e => e.imp id Or.inl) (fun e => Or.inr (Or.inr (by rw [e]; exact N.2.1)))⟩ fw N.1 sq N.2.2.2.2.2.1 RJ
