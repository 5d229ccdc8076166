/-! ===== the system: a Worker's rows of bits ===== -/
section Lf
variable {z y : Z} {b sv sb : Nat → Nat} {J : Nat → Prop} {L : WR}
theorem wl_J (r : Frz z b J) {x : Nat} (h : J x) (i : Int) : ¬ WB b L x i := by
  rintro ⟨t, -, h2, h3, -⟩
  exact (r x h).2.2.2 t.1 h2 h3
theorem wl_b (c : CWz z b) {R : WR} (hd : wDis L R = true) {k : Nat} (hk : k < 35) {i : Int} (hr : wHas R k i) : ¬ WB b L (b k) i := by
  rintro ⟨t, h1, h2, h3, h4⟩
  have e := c.2.1 k t.1 hk h2 h3
  exact wDis_e hd (k := k) (i := i) ⟨t, h1, e.symm, h4⟩ hr
theorem wl_k (c : CWz z b) {x : Nat} (h : zK z x = 7 ∨ zK z x = 1 ∨ zK z x = 0) (i : Int) : ¬ WB b L x i := by
  rintro ⟨t, h1, h2, h3, h4⟩
  have q := ckz_k t.1 h2
  rw [h3, (c.1 t.1 h2).1] at h
  rcases h with h | h | h
  · exact q.1 h
  · exact q.2.1 h
  · exact q.2.2 h
theorem kbz (c : CWz z b) {k : Nat} (hk : k < 35) : zK z (b k) ≠ 0 := by rw [(c.1 k hk).1]; exact (ckz_k k hk).2.2
theorem WkC_L (K : WkC z b J sv sb) (h1 : wDis L crw = true) (h2 : wDis L [(22, none), (23, none), (24, none)] = true) (f : FrZ (WB b L) z y) : WkC y b J sv sb := by
  have c2 := CWz_fr K.1 (WB_L f) h1
  refine ⟨c2, Frz_fr K.2.1 f, ⟨fun m hm => ?_, K.2.2.1.2⟩, K.2.2.2.1, K.2.2.2.2.1, WzN_fr K.2.1 f K.2.2.2.2.2.1, VlS_fr K.2.2.2.2.2.2 f (wl_b K.1 h2 (by decide) (wHas_a (by decide))) (wl_b K.1 h2 (by decide) (wHas_a (by decide))) (wl_b K.1 h2 (by decide) (wHas_a (by decide))) (fun i => wl_b K.1 h2 (by decide) (wHas_a (by decide)))⟩
  obtain ⟨o, B1, B2, B3, B4⟩ := K.2.2.1.1 m hm
  refine ⟨(f.2 (b 22) m (kbz K.1 (by decide)) (wl_b K.1 h2 (by decide) (wHas_a (by decide)))).2.2.trans o, (f.1 _ (by rw [B1]; decide)).1.trans B1, (f.2 (sv m) 0 (by rw [B1]; decide) ?_).2.2.trans B2, (f.1 _ (by rw [B3]; decide)).1.trans B3, (f.1 _ (by rw [B3]; decide)).2.trans B4⟩
  rintro ⟨t, h1, h2, h3, h4⟩
  exact (K.2.2.2.2.1 m hm t.1 h2).1 h3
theorem ShC_L (c : CWz z b) (r : Frz z b J) (f : FrZ (WB b L) z y) {sh : Nat} {h : Sh} (hs : ShC z J sh h) : ShC y J sh h := ShC_fr f (fun a i ha => wl_J r ha i) (fun a i ha w => absurd w (wl_k c (Or.inl ha) i)) hs
theorem CvL_L (c : CWz z b) (r : Frz z b J) (h8 : wDis L [(8, none)] = true) (f : FrZ (WB b L) z y) {sh : Nat} {h : Sh} {r' c' : Int} {l : Lit} (hs : ShC z J sh h) (H : CvL z b J sh h r' c' l) : CvL y b J sh h r' c' l := by
  obtain ⟨h1, h2⟩ := H
  refine ⟨h1, ?_⟩
  have k7 := ShC_7 hs
  match e : h.2.2.2 r' c' with
  | none => rw [e] at h2; exact h2
  | some (kd, li, q) =>
    rw [e] at h2
    simp only at h2 ⊢
    by_cases c5 : kd = 5
    · rw [if_pos c5] at h2 ⊢
      obtain ⟨va, x, xb, ⟨v1, v2, v3, v4⟩, v5, v6, v7⟩ := h2
      have kv : zK z va ≠ 0 := by rw [v3]; decide
      refine ⟨va, x, xb, ⟨(f.2 sh 3 (by rw [k7]; decide) (wl_k c (Or.inl k7) 3)).2.2.trans v1, v2, (f.1 va kv).1.trans v3, by rw [(f.1 va kv).2]; exact v4⟩, (f.2 va _ kv (v2.elim (fun w => wl_J r w _) (fun w => by rw [w]; exact wl_b c h8 (by decide) (wHas_a (by decide))))).2.2.trans v5, v6, VlS_fr v7.1 f (wl_J r v6.1 0) (wl_J r v6.1 1) (wl_J r v6.1 2) (fun i => wl_J r v6.2 i), ?_⟩
      rw [(f.1 xb (by rw [v7.1.1.2.2.2]; decide)).2]; exact v7.2
    · rw [if_neg c5] at h2 ⊢; exact h2
end Lf
section Bt
variable {z y : Z} {b sv sb : Nat → Nat} {J : Nat → Prop}
theorem k9_clear {k : Nat} {i0 : Int} {P : Z → Prop} (c : CWz z b) (hk : k < 35) (k16 : zK z (b k) = 16) (h0 : 0 ≤ i0) (h1 : i0 + 5 ≤ zN z (b k)) (h2 : i0 ≤ 100000) (p : ∀ y, FrZ (WB b [(k, none)]) z y → (∀ i, zG y (b k) i = if i0 ≤ i ∧ i < i0 + 5 then 0 else zG z (b k) i) → P y) : F_X9_clear (some (b k)) i0 z P := by
  unfold F_X9_clear F_X9_clear_2
  refine lp_I (fun q => (i0 ≤ q.1 ∧ q.1 ≤ i0 + 5) ∧ FrZ (WB b [(k, none)]) z q.2 ∧ ∀ i, zG q.2 (b k) i = if i0 ≤ i ∧ i < q.1 then 0 else zG z (b k) i) (fun q => (i0 + 5 - q.1).toNat) ?_ (i0, z) (And.intro ⟨Int.le_refl _, by show i0 ≤ i0 + 5; omega⟩ (And.intro FrZ_rf (fun i => by rw [if_neg (by show ¬ (i0 ≤ i ∧ i < i0); omega)])))
  rintro G ⟨x, w⟩ ⟨⟨x0, x1⟩, f, e⟩ ih
  simp only at x0 x1 f e
  have kk : zK w (b k) = 16 := (f.1 (b k) (by rw [k16]; decide)).1.trans k16
  have nn : zN w (b k) = zN z (b k) := (f.1 (b k) (by rw [k16]; decide)).2
  show L_X9_clear_2 (some (b k)) i0 x w _
  unfold L_X9_clear_2
  rw [w32e (x := i0 + 5) (by omega) (by omega)]
  by_cases cx : i0 + 5 ≤ x
  · rw [if_pos cx]
    show P w
    refine p w f (fun i => ?_)
    rw [e, show x = i0 + 5 by omega]
  · rw [if_neg cx]
    refine ⟨b k, rfl, kk, ?_⟩
    rw [nn, if_neg (by omega), w32e (x := x + 1) (by omega) (by omega)]
    refine ⟨by omega, by omega, fun v hv => ?_⟩
    subst hv
    refine ih (x + 1, _) (And.intro ⟨by show i0 ≤ x + 1; omega, by show x + 1 ≤ _; omega⟩ (And.intro (FrZ_wG f (Or.inl (WB_a (List.mem_singleton.mpr rfl) hk))) (fun i => ?_))) (by show (i0 + 5 - (x + 1)).toNat < (i0 + 5 - x).toNat; omega)
    show zG (wG w (b k) x 0) (b k) i = if i0 ≤ i ∧ i < x + 1 then 0 else _
    rw [zG_wG]
    by_cases ci : i = x
    · rw [if_pos ⟨rfl, ci⟩, if_pos (by omega)]
    · rw [if_neg (fun w => ci w.2), e]
      by_cases cr : i0 ≤ i ∧ i < x
      · rw [if_pos cr, if_pos (by omega)]
      · rw [if_neg cr, if_neg (by omega)]
/-- cell i is open -/
def OpC (z : Z) (b : Nat → Nat) (i : Int) : Prop := BtW (zG z (b 27)) i
theorem k9_isOpen {i : Int} {P : Int → Prop} (c : CWz z b) (i0 : 0 ≤ i) (i1 : i < 320) (hy : OpC z b i → P 1) (hn : ¬ OpC z b i → P 0) : F_X9_isOpen (b 4) i z P := by
  unfold OpC BtW at hy hn
  have n27 : zN z (b 27) = 5 := cN c 27 rfl rfl
  unfold F_X9_isOpen F_X9_isOpen_26
  rw [tdivE i0, tmodE i0, w32e (x := i / 64) (by omega) (by omega), w32e (x := i % 64) (by omega) (by omega)]
  refine ⟨cK c 4 rfl rfl, b 27, cO c 4 5 27 (by decide), cK c 27 rfl rfl, by omega, by omega, ?_⟩
  rw [tst_k (by omega) (by omega)]
  by_cases d : bitL (zG z (b 27) (i / 64)) (i % 64).toNat = true
  · rw [if_pos d, if_neg (by decide)]; exact ⟨Or.inr rfl, hy d⟩
  · rw [if_neg d, if_pos rfl]; exact ⟨Or.inl rfl, hn d⟩
theorem k9_close {i : Int} {P : Z → Prop} (c : CWz z b) (i0 : 0 ≤ i) (i1 : i < 320) (p : ∀ y, FrZ (WB b [(27, none)]) z y → (∀ j, 0 ≤ j → j < 320 → (OpC y b j ↔ (OpC z b j ∧ j ≠ i))) → P y) : F_X9_close (b 4) i z P := by
  have n27 : zN z (b 27) = 5 := cN c 27 rfl rfl
  unfold F_X9_close
  rw [tdivE i0, tmodE i0, w32e (x := i / 64) (by omega) (by omega), w32e (x := i % 64) (by omega) (by omega)]
  refine ⟨cK c 4 rfl rfl, b 27, cO c 4 5 27 (by decide), cK c 27 rfl rfl, by omega, by omega, fun v hv => ?_⟩
  subst hv
  refine p _ (FrZ_wG FrZ_rf (Or.inl (WB_a (by decide) (by decide)))) (fun j j0 j1 => ?_)
  exact BtW_clr i0 i1 j0 j1 (by rw [zG_wG, if_pos ⟨rfl, rfl⟩]) (fun k hk => by rw [zG_wG, if_neg (fun w => hk w.2)])
theorem k9_reaches {i j : Int} {P : Int → Prop} (c : CWz z b) (i0 : 0 ≤ i) (i1 : i < 320) (j0 : 0 ≤ j) (j1 : j < 320) (hy : BtR (zG z (b 26)) i j → P 1) (hn : ¬ BtR (zG z (b 26)) i j → P 0) : F_X9_reaches (b 4) i j z P := by
  unfold BtR at hy hn
  have n26 : zN z (b 26) = 1600 := cN c 26 rfl rfl
  unfold F_X9_reaches F_X9_reaches_30
  rw [tdivE j0, tmodE j0, Int.mul_comm i 5, w32e (x := 5 * i) (by omega) (by omega), w32e (x := j / 64) (by omega) (by omega), w32e (x := j % 64) (by omega) (by omega), w32e (x := 5 * i + j / 64) (by omega) (by omega)]
  refine ⟨cK c 4 rfl rfl, b 26, cO c 4 4 26 (by decide), cK c 26 rfl rfl, by omega, by omega, ?_⟩
  rw [tst_k (by omega) (by omega)]
  by_cases d : bitL (zG z (b 26) (5 * i + j / 64)) (j % 64).toNat = true
  · rw [if_pos d, if_neg (by decide)]; exact ⟨Or.inr rfl, hy d⟩
  · rw [if_neg d, if_pos rfl]; exact ⟨Or.inl rfl, hn d⟩
theorem k9_first {i : Int} {P : Int → Prop} (c : CWz z b) (i0 : 0 ≤ i) (i1 : i < 320) (hy : ∀ j, 0 ≤ j → j < 320 → BtR (zG z (b 25)) i j → OpC z b j → P j) (hn : (∀ j, 0 ≤ j → j < 320 → BtR (zG z (b 25)) i j → ¬ OpC z b j) → P (-1)) : F_X9_firstOpenOf (b 4) i z P := by
  have n25 : zN z (b 25) = 1600 := cN c 25 rfl rfl
  have n27 : zN z (b 27) = 5 := cN c 27 rfl rfl
  unfold F_X9_firstOpenOf F_X9_firstOpenOf_2
  refine lp_I (fun x => (0 ≤ x ∧ x ≤ 5) ∧ ∀ j, 0 ≤ j → j < 64 * x → BtR (zG z (b 25)) i j → ¬ OpC z b j) (fun x => (5 - x).toNat) ?_ 0 (And.intro ⟨Int.le_refl _, by decide⟩ (fun j j0 j1 => by omega))
  rintro G x ⟨⟨x0, x1⟩, H⟩ ih
  unfold L_X9_firstOpenOf_2
  by_cases cx : 5 ≤ x
  · rw [if_pos cx]
    exact hn (fun j j0 j1 => H j j0 (by omega))
  rw [if_neg cx, Int.mul_comm i 5, w32e (x := 5 * i) (by omega) (by omega), w32e (x := 5 * i + x) (by omega) (by omega)]
  refine ⟨cK c 4 rfl rfl, b 25, cO c 4 3 25 (by decide), cK c 25 rfl rfl, by omega, by omega, b 27, cO c 4 5 27 (by decide), cK c 27 rfl rfl, x0, by omega, ?_⟩
  by_cases ca : lAnd (zG z (b 25) (5 * i + x)) (zG z (b 27) x) = 0
  · rw [if_pos ca, w32e (x := x + 1) (by omega) (by omega)]
    refine ih (x + 1) (And.intro ⟨by omega, by omega⟩ (fun j j0 j1 hb ho => ?_)) (by omega)
    by_cases cj : j < 64 * x
    · exact H j j0 cj hb ho
    · have e : j / 64 = x := by omega
      unfold BtR at hb
      unfold OpC BtW at ho
      rw [e] at hb ho
      exact (and_0 _ _).mp ca (j % 64).toNat (by omega) ⟨hb, ho⟩
  · rw [if_neg ca]
    show F_J13_numberOfTrailingZeros_95d88 _ _
    have ne : ∃ k : Nat, k < 64 ∧ bitL (lAnd (zG z (b 25) (5 * i + x)) (zG z (b 27) x)) k = true := by
      by_cases q : ∃ k : Nat, k < 64 ∧ bitL (lAnd (zG z (b 25) (5 * i + x)) (zG z (b 27) x)) k = true
      · exact q
      · exfalso
        refine ca ((and_0 _ _).mpr (fun k hk w => q ⟨k, hk, ?_⟩))
        rw [bit_and, w.1, w.2]; rfl
    refine nt13 ne (fun r r0 r1 hb => ?_)
    rw [bit_and, Bool.and_eq_true] at hb
    rw [w32e (x := x * 64) (by omega) (by omega), w32e (x := x * 64 + r) (by omega) (by omega)]
    refine hy (x * 64 + r) (by omega) (by omega) ?_ ?_
    · unfold BtR
      rw [show (x * 64 + r) / 64 = x by omega, show (x * 64 + r) % 64 = r by omega]; exact hb.1
    · unfold OpC BtW
      rw [show (x * 64 + r) / 64 = x by omega, show (x * 64 + r) % 64 = r by omega]; exact hb.2
end Bt
