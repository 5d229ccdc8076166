/-! ===== a Value becomes a text ===== -/
theorem VW_b {a ba : Nat} {i : Int} : VW a ba ba i := Or.inr rfl
theorem FrZ_b {a ba : Nat} {z y : Z} {i x : Int} (f : FrZ (VW a ba) z y) : FrZ (VW a ba) z (wI y ba i x) := FrZ_wI f (Or.inl VW_b)
theorem gD0_mem {l : List Int} {i : Nat} (h : i < l.length) : l.getD i 0 ∈ l := by
  rw [List.getD_eq_getElem?_getD, List.getElem?_eq_getElem h]; exact List.getElem_mem h
theorem k_decLay {z : Z} {a ba : Nat} {x : Int} {n s i0 : Int} {P : Z → Prop} (B : VlB z a ba) (x0 : 0 ≤ x) (x1 : x ≤ 1000000000000000) (hg : (if 0 ≤ zG z a 2 then (0 : Int) else 1) = s) (hn : n = s + (nD x : Int)) (hi : i0 = n - 1) (h45 : s = 1 → zI z ba 0 = 45) (h : ∀ y, VlS y a ba (2, 0, (if s = 0 then dg (nD x) x else 45 :: dg (nD x) x)) → zI y a 3 = 0 → FrZ (VW a ba) z y → P y) : F_X8_becomeDecimals_82 a x n i0 z P := by
  have ne := VlB_ne B
  have hs : s = 0 ∨ s = 1 := by rw [← hg]; split <;> omega
  have nb := nD_b x1
  unfold F_X8_becomeDecimals_82
  refine lp_I (fun q => ∃ m : Nat, ∃ T : List Int, (0 ≤ q.1 ∧ q.1 ≤ 1000000000000000) ∧ q.2.1 = s + m - 1 ∧ T.length + m = nD x ∧ dg m q.1 ++ T = dg (nD x) x ∧ FrZ (VW a ba) z q.2.2 ∧ zG q.2.2 a 2 = zG z a 2 ∧ (s = 1 → zI q.2.2 ba 0 = 45) ∧ ∀ j : Nat, j < T.length → zI q.2.2 ba (q.2.1 + 1 + j) = T.getD j 0) (fun q => (q.2.1 + 1).toNat) ?_ _ ⟨nD x, [], ⟨x0, x1⟩, by show i0 = _; omega, by rw [List.length_nil]; omega, by rw [List.append_nil], FrZ_rf, rfl, h45, fun j hj => by cases hj⟩
  rintro G ⟨y, i, w⟩ ⟨m, T, ⟨y0, y1⟩, e1, e2, e3, f, e4, e5, e6⟩ ih
  simp only at y0 y1 e1 e3 f e4 e5 e6
  have B2 := VlB_fr B f
  obtain ⟨b1, b2, b3, b4⟩ := id B2
  unfold L_X8_becomeDecimals_82
  refine ⟨b1, ?_⟩
  have key : F_X8_becomeDecimals_98 a y n i i s w (fun o => match o with
    | .inl s' => G s'
    | .inr e => (zK e a = 9 ∧ F_X8_set a 2 n e (fun z_135 => P z_135))) := by
    unfold F_X8_becomeDecimals_98
    by_cases c : i < s
    · rw [if_pos c]
      have m0 : m = 0 := by omega
      subst m0
      rw [dg, List.nil_append] at e3
      refine ⟨b1, ?_⟩
      refine k_set2 (bs := if s = 0 then dg (nD x) x else 45 :: dg (nD x) x) B2 ?_ ?_ ?_ (fun v h1 h2 h3 => h v h1 h2 (FrZ_tr f h3))
      · rcases hs with e | e
        · rw [if_pos e, dg_len]; omega
        · rw [if_neg (by omega), List.length_cons, dg_len]; omega
      · rcases hs with e | e
        · rw [if_pos e, dg_len]; omega
        · rw [if_neg (by omega), List.length_cons, dg_len]; omega
      · intro j hj
        rcases hs with e | e
        · rw [if_pos e] at hj ⊢
          rw [← e3] at hj ⊢
          rw [← e6 j hj]; congr 1; omega
        · rw [if_neg (by omega)] at hj ⊢
          rw [← e3] at hj ⊢
          cases j with
          | zero => exact e5 e
          | succ j =>
            rw [List.getD_cons_succ, ← e6 j (by rw [List.length_cons] at hj; omega)]; congr 1; omega
    · rw [if_neg c]
      refine ⟨b1, ba, b2, b3, by omega, by omega, fun v hv => ?_⟩
      subst hv
      cases m with
      | zero => exfalso; omega
      | succ m =>
        rw [tdivE y0, tmodE y0, w64e (x := y % 10) (by omega) (by omega), w64e (x := 48 + y % 10) (by omega) (by omega), w64e (x := y / 10) (by omega) (by omega), w32e (x := 48 + y % 10) (by omega) (by omega), w8e (by omega) (by omega), w32e (x := i + -1) (by omega) (by omega)]
        refine ih _ ⟨m, (48 + y % 10) :: T, ⟨by show 0 ≤ y / 10; omega, by show y / 10 ≤ _; omega⟩, by show i + -1 = _; omega, by rw [List.length_cons]; omega, ?_, FrZ_b f, ?_, ?_, ?_⟩ (by show (i + -1 + 1).toNat < (i + 1).toNat; omega)
        · rw [dg, List.append_assoc] at e3; exact e3
        · show zG w a 2 = _; exact e4
        · intro e; show zI (wI w ba i (48 + y % 10)) ba 0 = 45; rw [zI_wI, if_neg (by omega)]; exact e5 e
        · intro j hj
          show zI (wI w ba i (48 + y % 10)) ba (i + -1 + 1 + j) = _
          cases j with
          | zero => rw [zI_wI, if_pos ⟨rfl, by omega⟩]; rfl
          | succ j =>
            rw [zI_wI, if_neg (by omega), List.getD_cons_succ, ← e6 j (by rw [List.length_cons] at hj; omega)]; congr 1; omega
  by_cases c : 0 ≤ zG w a 2
  · rw [if_pos c]
    rw [e4] at c
    rw [if_pos c] at hg
    rw [← hg] at key; exact key
  · rw [if_neg c]
    rw [e4] at c
    rw [if_neg c] at hg
    rw [← hg] at key; exact key
theorem k_decimals {z : Z} {a ba : Nat} {P : Z → Prop} (B : VlB z a ba) (x0 : -1000000000000000 ≤ zG z a 2) (x1 : zG z a 2 ≤ 1000000000000000) (h : ∀ y, VlS y a ba (2, 0, dec (zG z a 2)) → zI y a 3 = 0 → FrZ (VW a ba) z y → P y) : F_X8_becomeDecimals a z P := by
  have ne := VlB_ne B
  obtain ⟨b1, b2, b3, b4⟩ := id B
  unfold F_X8_becomeDecimals
  refine ⟨b1, ?_⟩
  have key : ∀ x s : Int, 0 ≤ x → x ≤ 1000000000000000 → (if 0 ≤ zG z a 2 then (0 : Int) else 1) = s → dec (zG z a 2) = (if s = 0 then dg (nD x) x else 45 :: dg (nD x) x) → F_X8_becomeDecimals_22 a x (s + 1) z P := by
    intro x s y0 y1 hs hd
    have s01 : s = 0 ∨ s = 1 := by rw [← hs]; split <;> omega
    have nb := nD_b y1
    unfold F_X8_becomeDecimals_22 F_X8_becomeDecimals_30
    rw [tdivE y0, w64e (by omega) (by omega)]
    refine lp_I (fun q => ((0 ≤ q.2 ∧ q.2 ≤ 1000000000000000) ∧ 1 ≤ q.1) ∧ ∃ f, q.2 < 10 ^ f ∧ q.1 + (nDf f q.2 : Int) = s + nD x) (fun q => q.2.toNat) ?_ _ ⟨⟨⟨by show 0 ≤ x / 10; omega, by show x / 10 ≤ _; omega⟩, by show 1 ≤ s + 1; omega⟩, 19, ?_, ?_⟩
    · rintro G ⟨n, r⟩ ⟨⟨⟨r0, r1⟩, n1⟩, f, e1, e2⟩ ih
      simp only at r0 r1 n1 e1 e2
      unfold L_X8_becomeDecimals_30
      by_cases c : r ≤ 0
      · rw [if_pos c]
        rw [nDf_0 f c] at e2
        refine ⟨b1, ba, b2, b3, ?_⟩
        rw [b4, if_pos (by show n ≤ 24; omega)]
        refine ⟨by omega, by omega, fun v hv => ?_⟩
        subst hv
        rw [w32e (by show -2147483648 ≤ n - 1; omega) (by show n - 1 ≤ _; omega)]
        refine k_decLay (s := s) (VlB_fr B (FrZ_b FrZ_rf)) y0 y1 (by rw [zG_wI]; exact hs) (by show n = _; omega) rfl (fun _ => by rw [zI_wI, if_pos ⟨rfl, rfl⟩]) (fun y g1 g2 g3 => h y (by rw [hd]; exact g1) g2 (FrZ_tr (FrZ_b FrZ_rf) g3))
      · rw [if_neg c]
        obtain ⟨g, e3, e4⟩ := nDf_s c e1
        rw [tdivE r0, w64e (by omega) (by omega), w32e (x := n + 1) (by omega) (by omega)]
        exact ih _ ⟨⟨⟨by show 0 ≤ r / 10; omega, by show r / 10 ≤ _; omega⟩, by show 1 ≤ n + 1; omega⟩, g, e3, by show n + 1 + (nDf g (r / 10) : Int) = _; omega⟩ (by show (r / 10).toNat < r.toNat; omega)
    · show x / 10 < 10 ^ 19
      have : (10 : Int) ^ 19 = 10000000000000000000 := by decide
      omega
    · show s + 1 + (nDf 19 (x / 10) : Int) = _
      unfold nD
      by_cases c : x ≤ 0
      · rw [if_pos c, nDf_0 _ (by omega)]; omega
      · rw [if_neg c, show nDf 20 x = nDf 19 (x / 10) + 1 by rw [nDf.eq_def]; exact if_neg c]; omega
  by_cases c : 0 ≤ zG z a 2
  · rw [if_pos c, if_pos c]
    exact key _ 0 c x1 (if_pos c) (by unfold dec; rw [if_pos c, if_pos rfl])
  · rw [if_neg c, if_neg c, w64e (by omega) (by omega), show (0 : Int) - zG z a 2 = -zG z a 2 by omega]
    exact key _ 1 (by omega) (by omega) (if_neg c) (by unfold dec; rw [if_neg c, if_neg (by decide)])
theorem k_word {z : Z} {a ba : Nat} {i : Nat} {P : Z → Prop} (B : VlB z a ba) (hi : i < 44) (h24 : sLen i ≤ 24) (h : ∀ y, VlS y a ba (2, 0, sL i) → zI y a 3 = 0 → FrZ (VW a ba) z y → P y) : F_X8_becomeWord a i z P := by
  have ne := VlB_ne B
  have sl := sL_len i
  unfold F_X8_becomeWord F_X8_becomeWord_2
  refine lp_I (fun q => (0 ≤ q.1 ∧ q.1 ≤ sLen i) ∧ FrZ (VW a ba) z q.2 ∧ ∀ j : Nat, (j : Int) < q.1 → zI q.2 ba j = (sL i).getD j 0) (fun q => (sLen i - q.1).toNat) ?_ _ ⟨⟨by show (0 : Int) ≤ 0; omega, by show (0 : Int) ≤ sLen i; omega⟩, FrZ_rf, fun j hj => by exfalso; have : (j : Int) < 0 := hj; omega⟩
  rintro G ⟨k, w⟩ ⟨⟨k0, k1⟩, f, e⟩ ih
  simp only at k0 k1 f e
  have B2 := VlB_fr B f
  obtain ⟨b1, b2, b3, b4⟩ := id B2
  unfold L_X8_becomeWord_2
  refine ⟨hi, ?_⟩
  by_cases c : sLen i ≤ k
  · rw [if_pos c]
    show F_X8_becomeWord_37 a i w P
    unfold F_X8_becomeWord_37
    refine ⟨hi, b1, k_set2 B2 sl.symm (by omega) (fun j hj => e j (by omega)) (fun y g1 g2 g3 => h y g1 g2 (FrZ_tr f g3))⟩
  · rw [if_neg c]
    refine ⟨b1, ba, b2, b3, ?_⟩
    simp only
    rw [b4, if_neg (by omega)]
    refine ⟨hi, k0, by omega, k0, by omega, fun v hv => ?_⟩
    subst hv
    rw [w32e (x := k + 1) (by omega) (by omega)]
    refine ih _ ⟨⟨by show 0 ≤ k + 1; omega, by show k + 1 ≤ _; omega⟩, FrZ_b f, fun j hj => ?_⟩ (by show (sLen i - (k + 1)).toNat < (sLen i - k).toNat; omega)
    have hj : (j : Int) < k + 1 := hj
    show zI (wI w ba k (w8 (sCh i k))) ba j = _
    by_cases cj : (j : Int) = k
    · have hl : j < (sL i).length := by omega
      have hm := (sL_all i hi).1 _ (gD0_mem hl)
      rw [zI_wI, if_pos ⟨rfl, cj⟩, ← cj, ← sL_at i hl, w8e (by omega) (by omega)]
    · rw [zI_wI, if_neg (fun w => cj w.2)]; exact e j (by omega)
/-- what a value is as a text -/
def txtL (l : Lit) : Lit := if l.1 = 1 then (2, 0, dec l.2.1) else if l.1 = 3 then (2, 0, if l.2.1 = 0 then sL 1 else sL 0) else if l.1 = 0 then (2, 0, []) else l
theorem k_text {z : Z} {a ba : Nat} {l : Lit} {P : Z → Prop} (V : VlS z a ba l) (n : zN z ba = 24) (x0 : l.1 = 1 → -1000000000000000 ≤ l.2.1 ∧ l.2.1 ≤ 1000000000000000) (h : ∀ y, VlS y a ba (txtL l) → zI y a 3 = (if l.1 = 1 ∨ l.1 = 3 ∨ l.1 = 0 then 0 else zI z a 3) → FrZ (VW a ba) z y → P y) : F_X8_becomeText a z P := by
  have B := VlS_B V n
  obtain ⟨⟨v1, v2, v3, v4⟩, v5⟩ := id V
  unfold txtL at h
  unfold F_X8_becomeText
  refine ⟨v1, ?_⟩
  rw [v2]
  by_cases c1 : l.1 = 1
  · unfold VlT at v5
    rw [if_neg (by omega)] at v5
    rw [if_pos c1]
    rw [if_pos c1, if_pos (Or.inl c1)] at h
    have := x0 c1
    exact k_decimals B (by omega) (by omega) (fun y g1 g2 g3 => h y (by rw [← v5.1]; exact g1) g2 g3)
  · rw [if_neg c1]
    rw [if_neg c1] at h
    by_cases c3 : l.1 = 3
    · unfold VlT at v5
      rw [if_neg (by omega)] at v5
      rw [if_pos c3]
      rw [if_pos c3, if_pos (Or.inr (Or.inl c3))] at h
      rw [v5.1]
      unfold F_X8_becomeText_40
      by_cases c : l.2.1 = 0
      · rw [if_pos c]; rw [if_pos c] at h
        exact ⟨a, rfl, v1, k_word B (by decide) (by decide) (fun y g1 g2 g3 => h y g1 g2 g3)⟩
      · rw [if_neg c]; rw [if_neg c] at h
        exact ⟨a, rfl, v1, k_word B (by decide) (by decide) (fun y g1 g2 g3 => h y g1 g2 g3)⟩
    · rw [if_neg c3]
      rw [if_neg c3] at h
      by_cases c0 : l.1 = 0
      · rw [if_pos c0]
        rw [if_pos c0, if_pos (Or.inr (Or.inr c0))] at h
        exact k_set2 (bs := []) B rfl (by decide) (fun i hi => by cases hi) (fun y g1 g2 g3 => h y g1 g2 g3)
      · rw [if_neg c0]
        rw [if_neg c0, if_neg (by omega)] at h
        exact h z V rfl FrZ_rf
/-- bytes of an array become a text, or the ERROR that it is too long -/
def fitL (bs : List Int) : Lit := if bs.length ≤ 24 then (2, 0, bs) else (4, 5, [])
theorem k_setBytes {z : Z} {a ba src : Nat} {at0 n : Int} {bs : List Int} {P : Z → Prop} (B : VlB z a ba) (ks : zK z src = 14) (hn : n = (bs.length : Int)) (hm : bs.length ≤ 33554432) (a0 : 0 ≤ at0) (a1 : at0 + n ≤ zN z src) (hN : zN z src ≤ 33554432) (hs : ∀ i : Nat, i < bs.length → zI z src (at0 + i) = bs.getD i 0) (h : ∀ y, VlS y a ba (fitL bs) → zI y a 3 = 0 → FrZ (VW a ba) z y → P y) : F_X8_setBytes a (some src) at0 n z P := by
  have ne := VlB_ne B
  obtain ⟨b1, b2, b3, b4⟩ := id B
  unfold fitL at h
  unfold F_X8_setBytes
  rw [if_neg (by omega)]
  refine ⟨b1, ba, b2, b3, ?_⟩
  by_cases c : bs.length ≤ 24
  · rw [if_pos c] at h
    rw [if_neg (by omega), if_neg (by omega)]
    refine ⟨src, rfl, ks, ?_⟩
    rw [w32e (by omega) (by omega), if_neg (by omega)]
    unfold F_X8_setBytes_30
    rw [if_neg (by decide)]
    refine ⟨b1, src, rfl, ks, ba, b2, b3, a0, by decide, by omega, a1, by omega, fun v hv => ?_⟩
    have f : FrZ (VW a ba) z v := by
      subst hv
      refine ⟨fun x _ => ⟨rfl, rfl⟩, fun x i _ hw => ⟨?_, rfl, rfl⟩⟩
      rw [zI_cpI2, if_neg (fun w => hw (Or.inr w.1))]
    have hv2 : ∀ i : Nat, i < bs.length → zI v ba i = bs.getD i 0 := by
      intro i hi
      subst hv
      rw [zI_cpI2, if_pos ⟨rfl, by omega, by omega⟩, show at0 + ((i : Int) - 0) = at0 + i by omega]; exact hs i hi
    obtain ⟨w1, w2, w3, w4⟩ := VlB_fr B f
    unfold F_X8_setBytes_48
    rw [if_neg (by decide)]
    unfold F_X8_setBytes_59
    refine ⟨a, rfl, w1, fun x ex => ?_⟩
    subst ex
    rw [if_neg (by decide)]
    unfold F_X8_setBytes_76
    refine ⟨a, rfl, w1, fun x ex => ?_⟩
    subst ex
    refine ⟨w1, fun x ex => ?_⟩
    subst ex
    refine h _ ⟨⟨w1, ?_, w2, w3⟩, ?_⟩ ?_ (FrZ_wI (FrZ_wG (FrZ_wI f (Or.inl (Or.inl ⟨rfl, Or.inl rfl⟩))) (Or.inl (Or.inl ⟨rfl, Or.inr (Or.inl rfl)⟩))) (Or.inl (Or.inl ⟨rfl, Or.inr (Or.inr rfl)⟩)))
    · rw [zI_wI, if_neg (by omega), zI_wG, zI_wI, if_pos ⟨rfl, rfl⟩]
    · unfold VlT
      rw [if_pos rfl]
      refine ⟨by rw [zG_wI, zG_wG, if_pos ⟨rfl, rfl⟩]; exact hn, by show (bs.length : Int) ≤ zN v ba; rw [w4]; omega, rfl, fun i hi => ?_⟩
      rw [zI_wI, if_neg (fun w => ne w.1.symm), zI_wG, zI_wI, if_neg (fun w => ne w.1.symm)]
      exact hv2 i hi
    · rw [zI_wI, if_pos ⟨rfl, rfl⟩]
  · rw [if_neg c] at h
    rw [if_pos (by omega)]
    unfold F_X8_setBytes_29 F_X8_setBytes_30
    rw [if_pos rfl]
    unfold F_X8_setBytes_48
    rw [if_pos rfl]
    unfold F_X8_setBytes_59
    refine ⟨a, rfl, b1, fun x ex => ?_⟩
    subst ex
    rw [if_pos rfl]
    unfold F_X8_setBytes_76
    refine ⟨a, rfl, b1, fun x ex => ?_⟩
    subst ex
    refine ⟨b1, fun x ex => ?_⟩
    subst ex
    refine h _ ⟨⟨b1, ?_, b2, b3⟩, ?_⟩ ?_ (FrZ_wI (FrZ_wG (FrZ_wI FrZ_rf (Or.inl (Or.inl ⟨rfl, Or.inl rfl⟩))) (Or.inl (Or.inl ⟨rfl, Or.inr (Or.inl rfl)⟩))) (Or.inl (Or.inl ⟨rfl, Or.inr (Or.inr rfl)⟩)))
    · rw [zI_wI, if_neg (by omega), zI_wG, zI_wI, if_pos ⟨rfl, rfl⟩]
    · unfold VlT
      rw [if_neg (by decide)]
      exact ⟨by rw [zG_wI, zG_wG, if_pos ⟨rfl, rfl⟩], rfl⟩
    · rw [zI_wI, if_pos ⟨rfl, rfl⟩]
theorem k_take {z : Z} {a ba v vb : Nat} {l : Lit} {P : Z → Prop} (B : VlB z a ba) (V : VlS z v vb l) (h24 : l.1 = 2 → l.2.2.length ≤ 24 ∧ zN z vb ≤ 33554432) (h : ∀ y, VlS y a ba l → zI y a 3 = 0 → FrZ (VW a ba) z y → P y) : F_X8_take a (some v) z P := by
  obtain ⟨⟨v1, v2, v3, v4⟩, v5⟩ := V
  unfold F_X8_take
  refine ⟨v, rfl, v1, ?_⟩
  rw [v2]
  unfold VlT at v5
  by_cases c : l.1 = 2
  · rw [if_pos c]
    rw [if_pos c] at v5
    obtain ⟨g1, g2, g3, g4⟩ := v5
    have h24 := h24 c
    rw [v3, g1, w32e (by omega) (by omega)]
    refine ⟨B.1, k_setBytes B v4 rfl (by omega) (by decide) (by omega) h24.2 (fun i hi => by rw [show (0 : Int) + i = i by omega]; exact g4 i hi) (fun y k1 k2 k3 => h y ?_ k2 k3)⟩
    unfold fitL at k1
    rw [if_pos h24.1] at k1
    rw [show l = (2, 0, l.2.2) by rw [← c, ← g3]]; exact k1
  · rw [if_neg c]
    rw [if_neg c] at v5
    rw [v5.1]
    refine ⟨B.1, k_set B c (fun y k1 k2 k3 => h y ?_ k2 k3)⟩
    rw [show l = (l.1, l.2.1, []) by rw [← v5.2]]; exact k1
