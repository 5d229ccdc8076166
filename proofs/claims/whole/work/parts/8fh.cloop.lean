/-! ===== the system: all formulas of a sheet ===== -/
section Wl
variable {z y : Z} {b sv sb : Nat → Nat} {J : Nat → Prop} {sh va : Nat} {h : Sh} {rv rb : Int → Nat} {F : Int → Sh} {G : Int → Int → Int → Lit}
theorem wx_J (K : WkC z b J sv sb) (R : RmI b J sv sb h rv rb) {x : Nat} (hx : J x) (i : Int) : ¬ Wx b sv sb rv rb h x i := by
  rintro (w | w | ⟨j, hj, w⟩)
  · exact wk_J K hx i w
  · exact wl_J K.2.1 hx i w
  · have q := (R.2.2 j hj.1).1
    rcases w with w | w
    · rw [w.1] at hx; exact q.1 hx
    · rw [w] at hx; exact q.2 hx
theorem wx_b (K : WkC z b J sv sb) (R : RmI b J sv sb h rv rb) {k : Nat} (hk : k < 35) (h4 : k ≠ 4) (i : Int) : ¬ Wx b sv sb rv rb h (b k) i := by
  rintro (w | w | ⟨j, hj, w⟩)
  · exact wk_b K hk h4 i w
  · exact h4 (K.1.2.1 k 4 hk (by decide) (WB_4 (by decide) w).1)
  · have q := (R.2.2 j hj.1).2.2 k hk
    rcases w with w | w
    · exact q.1 w.1.symm
    · exact q.2 w.symm
theorem wx_4 (K : WkC z b J sv sb) (R : RmI b J sv sb h rv rb) {i : Int} (h9 : i ≠ 9) (hi : ¬ (10 ≤ i ∧ i ≤ 20)) : ¬ Wx b sv sb rv rb h (b 4) i := by
  rintro (w | w | ⟨j, hj, w⟩)
  · exact wk_4 K hi w
  · obtain ⟨t, h1, -, h3⟩ := (WB_4 (by decide) w).2
    rw [List.mem_singleton] at h1
    rw [h1] at h3
    rcases h3 with h3 | h3
    · cases h3
    · injection h3 with h3; exact h9 h3.symm
  · have q := (R.2.2 j hj.1).2.2 4 (by decide)
    rcases w with w | w
    · exact q.1 w.1.symm
    · exact q.2 w.symm
theorem wx_k (K : WkC z b J sv sb) (M : RoC z b sh va h rv rb) {x : Nat} (h10 : zK z x ≠ 10) (h9 : zK z x ≠ 9) (h14 : zK z x ≠ 14) (i : Int) : ¬ Wx b sv sb rv rb h x i := by
  rintro (w | w | ⟨j, hj, w⟩)
  · exact wk_k K h10 h9 h14 i w
  · rw [(WB_4 (by decide) w).1] at h10; exact h10 (cK K.1 4 rfl rfl)
  · exact VW_k (M.2 j hj.1).2 h9 h14 i w
theorem wx_0 (K : WkC z b J sv sb) (R : RmI b J sv sb h rv rb) (M : RoC z b sh va h rv rb) {j : Int} (hj : FoI h j) : ¬ Wx b sv sb rv rb h (rv j) 0 := by
  have B := (M.2 j hj).2
  have q := (R.2.2 j hj)
  rintro (w | w | ⟨j', hj', w⟩)
  · rcases w with w | ⟨m, hm, w⟩
    · exact (q.2.2 4 (by decide)).1 (WB_4 (by decide) w).1
    · rcases w with ⟨w, -⟩ | w
      · exact (q.2.1 m hm).1 w
      · have := (K.2.2.1.1 m hm).2.2.2.1; rw [← w, B.1] at this; cases this
  · exact (q.2.2 4 (by decide)).1 (WB_4 (by decide) w).1
  · rcases w with w | w
    · omega
    · have := (M.2 j' hj'.1).2.2.2.1; rw [← w, B.1] at this; cases this
theorem WkC_y (K : WkC z b J sv sb) (R : RmI b J sv sb h rv rb) (M : RoC z b sh va h rv rb) (f : FrZ (Wx b sv sb rv rb h) z y) : WkC y b J sv sb := by
  refine WkC_W K (fun t ht => ?_) (fun k i hk => ?_) (fun m hm => ?_) f
  · by_cases c : t.1 = 4
    · rw [c]; exact wx_4 K R (crz_9 t ht c) (crz_4 t ht c)
    · exact wx_b K R (crz_b t ht) c _
  · exact wx_b K R (by omega) (by omega) i
  · have B := (K.2.2.1.1 m hm).2
    have q := K.2.2.2.2.1 m hm 4 (by decide)
    rintro (w | w | ⟨j, hj, w⟩)
    · rcases w with w | ⟨n, hn, w⟩
      · exact q.1 (WB_4 (by decide) w).1
      · rcases w with w | w
        · omega
        · have := (K.2.2.1.1 n hn).2.2.2.1; rw [← w, B.1] at this; cases this
    · exact q.1 (WB_4 (by decide) w).1
    · rcases w with w | w
      · omega
      · have := (M.2 j hj.1).2.2.2.1; rw [← w, B.1] at this; cases this
theorem ShC_y (K : WkC z b J sv sb) (R : RmI b J sv sb h rv rb) (M : RoC z b sh va h rv rb) (f : FrZ (Wx b sv sb rv rb h) z y) {s : Nat} {g : Sh} (hs : ShC z J s g) : ShC y J s g := ShC_fr f (fun a i ha => wx_J K R ha i) (fun a i ha w => absurd w (wx_k K M (by rw [ha]; decide) (by rw [ha]; decide) (by rw [ha]; decide) i)) hs
theorem RoC_y (K : WkC z b J sv sb) (k7 : zK z sh = 7) (R : RmI b J sv sb h rv rb) (M : RoC z b sh va h rv rb) (f : FrZ (Wx b sv sb rv rb h) z y) : RoC y b sh va h rv rb := by
  obtain ⟨⟨m1, m2, m3, m4⟩, m5⟩ := id M
  have kv : zK z va ≠ 0 := by rw [m2]; decide
  refine ⟨⟨(f.2 sh 3 (by rw [k7]; decide) (wx_k K M (by rw [k7]; decide) (by rw [k7]; decide) (by rw [k7]; decide) 3)).2.2.trans m1, (f.1 va kv).1.trans m2, by rw [(f.1 va kv).2]; exact m3, m4⟩, fun i hi => ?_⟩
  obtain ⟨o, B1, B2, B3, B4⟩ := m5 i hi
  exact ⟨(f.2 va i kv (wx_k K M (by rw [m2]; decide) (by rw [m2]; decide) (by rw [m2]; decide) i)).2.2.trans o, (f.1 _ (by rw [B1]; decide)).1.trans B1, (f.2 _ 0 (by rw [B1]; decide) (wx_0 K R M hi)).2.2.trans B2, (f.1 _ (by rw [B3]; decide)).1.trans B3, (f.1 _ (by rw [B3]; decide)).2.trans B4⟩
theorem EnV_y (K : WkC z b J sv sb) (R : RmI b J sv sb h rv rb) (M : RoC z b sh va h rv rb) (f : FrZ (Wx b sv sb rv rb h) z y) (En : EnV z b J F G h sh) : EnV y b J F G h sh := EnV_W (cK K.1 18 rfl rfl) (fun a i ha => wx_J K R ha i) (fun i => wx_b K R (by decide) (by decide) i) (fun a ha _ => wx_k K M (by rw [ha]; decide) (by rw [ha]; decide) (by rw [ha]; decide) 3) (fun a i ha w => absurd w (wx_k K M (by rw [ha]; decide) (by rw [ha]; decide) (by rw [ha]; decide) i)) f En
/-- another formula's Value stays -/
theorem wc_v (K : WkC z b J sv sb) (R : RmI b J sv sb h rv rb) (M : RoC z b sh va h rv rb) {i i0 : Int} (fi : FoI h i) (f0 : FoI h i0) (hne : i ≠ i0) : (∀ q, ¬ WcW b sv sb (rv i0) (rb i0) (rv i) q) ∧ ∀ q, ¬ WcW b sv sb (rv i0) (rb i0) (rb i) q := by
  have B := (M.2 i fi).2
  have B0 := (M.2 i0 f0).2
  have q := R.2.2 i fi
  refine ⟨fun e => ?_, fun e => ?_⟩
  · rintro (w | w | w)
    · rcases w with w | ⟨m, hm, w⟩
      · exact (q.2.2 4 (by decide)).1 (WB_4 (by decide) w).1
      · rcases w with ⟨w, -⟩ | w
        · exact (q.2.1 m hm).1 w
        · have := (K.2.2.1.1 m hm).2.2.2.1; rw [← w, B.1] at this; cases this
    · exact (q.2.2 4 (by decide)).1 (WB_4 (by decide) w).1
    · rcases w with ⟨w, -⟩ | w
      · exact hne (R.1 i i0 fi f0 w)
      · have := B0.2.2.1; rw [← w, B.1] at this; cases this
  · rintro (w | w | w)
    · rcases w with w | ⟨m, hm, w⟩
      · exact (q.2.2 4 (by decide)).2 (WB_4 (by decide) w).1
      · rcases w with ⟨w, -⟩ | w
        · have := (K.2.2.1.1 m hm).2.1; rw [← w, B.2.2.1] at this; cases this
        · exact (q.2.1 m hm).2 w
    · exact (q.2.2 4 (by decide)).2 (WB_4 (by decide) w).1
    · rcases w with ⟨w, -⟩ | w
      · have := B0.1; rw [← w, B.2.2.1] at this; cases this
      · exact hne (R.2.1 i i0 fi f0 w)
theorem k9_w140 {n : Int} {c s : Nat} {P : Z → Prop} {nv : Int} (K : WkC z b J sv sb) (h8 : zO z (b 4) 8 = some sh) (hs : ShC z J sh h) (R : RmI b J sv sb h rv rb) (M : RoC z b sh va h rv rb) (En : EnV z b J F G h sh) (Zf : WfZ F nv h) (hw : ∀ k, inS h k → ∀ kd l ps, ctC h k = some (kd, l, ps) → kd ≠ 5 → VOk l) (O : OrdOk h (zI z (b 29)) (fun _ => False) n) (n0 : 0 ≤ n) (n1 : n ≤ 320) (C : ∀ i, ciI h i → VX z (rv i) (rb i) (erL 6)) (p : ∀ y f, FrZ (Wx b sv sb rv rb h) z y → Sol F G h f → (∀ i, FoI h i → VX y (rv i) (rb i) (f (i / h.1.2) (i % h.1.2)) ∧ VOk (f (i / h.1.2) (i % h.1.2))) → P y) : F_X9_work_140 (b 4) n 0 z c s P := by
  have hb := ShC_b hs
  have k7 := ShC_7 hs
  obtain ⟨o, ho⟩ : ∃ o : Int → Int, o = zI z (b 29) := ⟨_, rfl⟩
  rw [← ho] at O
  unfold F_X9_work_140
  refine lp_I (fun q => ∃ (m : Int) (w : Z), q = (m, w) ∧ (0 ≤ m ∧ m ≤ n) ∧ FrZ (Wx b sv sb rv rb h) z w ∧ ∃ g : Int → Lit, (∀ i, inI h i → ¬ FoI h i → g i = plC (ctC h (cdI h i))) ∧ (∀ i, DnI h o m i → FoI h i → VX w (rv i) (rb i) (g i) ∧ VOk (g i)) ∧ ∀ i, DnI h o m i → FoI h i → g i = vlC F G h (fI h g) (cdI h i)) (fun q => (n - q.1).toNat) ?_ (0, z) ⟨0, z, rfl, ⟨by omega, n0⟩, FrZ_rf, fun i => ci (FoI h i) (erL 6) (plC (ctC h (cdI h i))), fun i hi nf => ci_0 nf, fun i d fi => ?_, fun i d fi => ?_⟩
  · rintro G2 _ ⟨m, w, rfl, ⟨m0, m1⟩, f, g, g1, g2, g3⟩ ih
    have Kw := WkC_y K R M f
    have hsw := ShC_y K R M f hs
    have Mw := RoC_y K k7 R M f
    have Enw := EnV_y K R M f En
    have h8w : zO w (b 4) 8 = some sh := (f.2 (b 4) 8 (kbz K.1 (by decide)) (wx_4 K R (by decide) (by decide))).2.2.trans h8
    have e29 : ∀ i, zI w (b 29) i = o i := fun i => by rw [(f.2 (b 29) i (kbz K.1 (by decide)) (wx_b K R (by decide) (by decide) i)).1, ho]
    show L_X9_work_140 (b 4) n m w c s _
    unfold L_X9_work_140
    by_cases cm : n ≤ m
    · rw [if_pos cm]
      have em : m = n := by omega
      subst em
      have dn : ∀ i, FoI h i → DnI h o m i := fun i fi => by
        by_cases ci : ciI h i
        · exact Or.inl ci
        · obtain ⟨q, hq, eq⟩ := O.2.1 i ⟨fi, ci⟩ id
          exact Or.inr ⟨q, hq, eq⟩
      have fe : ∀ i, inI h i → fI h g (i / h.1.2) (i % h.1.2) = g i := fun i hi => by unfold fI; rw [(i_xy hb hi).2.2]
      refine p w (fI h g) f (fun k hk => ?_) (fun i fi => ?_)
      · obtain ⟨q1, q2⟩ := ix_in hb hk
        show g (ixI h k) = _
        by_cases fi : FoI h (ixI h k)
        · rw [g3 _ (dn _ fi) fi, q2]
        · rw [g1 _ q1 fi, q2, vlC_p hk (fun a => fi ⟨q1, by obtain ⟨-, l, ps, e⟩ := a; exact ⟨l, ps, by rw [q2]; exact e⟩⟩)]
      · rw [fe i fi.1]; exact g2 i (dn i fi) fi
    rw [if_neg cm]
    have n29 : zN w (b 29) = 320 := cN Kw.1 29 rfl rfl
    refine ⟨cK Kw.1 4 rfl rfl, b 29, cO Kw.1 4 7 29 (by decide), cK Kw.1 29 rfl rfl, m0, by omega, ?_⟩
    rw [e29]
    obtain ⟨⟨f0, nc0⟩, -⟩ := O.1 m m0 (by omega)
    have nd : ¬ DnI h o m (o m) := by
      rintro (a | ⟨q, hq, eq⟩)
      · exact nc0 a
      · have := O.2.2.2 q m hq.1 (by omega) m0 (by omega) eq
        omega
    refine k9_one Kw h8w hsw R Mw Enw Zf hw O m0 (by omega) g1 g2 (fun y l ps e X oX fy => ?_)
    have fyx : FrZ (Wx b sv sb rv rb h) w y := FrZ_mono fy (fun a i _ q => by
      rcases q with q | q | q
      · exact Or.inl q
      · exact Or.inr (Or.inl q)
      · exact Or.inr (Or.inr ⟨o m, ⟨f0, nc0⟩, q⟩))
    rw [w32e (x := m + 1) (by omega) (by omega)]
    obtain ⟨g', gy, gn⟩ : ∃ g' : Int → Lit, g' (o m) = finL (EvA (eS F h) (vS G (fI h g)) ps (ps.length - 1)) ∧ ∀ i, i ≠ o m → g' i = g i := ⟨fun i => if i = o m then finL (EvA (eS F h) (vS G (fI h g)) ps (ps.length - 1)) else g i, if_pos rfl, fun i hi => if_neg hi⟩
    -- leads of what is worked out are worked out before
    have le : ∀ i, (i = o m ∨ DnI h o m i) → FoI h i → ∀ l' ps', ctC h (cdI h i) = some (5, l', ps') → ¬ rch (Ld h) (cdI h i) (cdI h i) → ∀ j, LdP h ps' j → fI h g (j / 10) (j % 10) = fI h g' (j / 10) (j % 10) := fun i di fi l' ps' e' nr j lj => by
      have hj := LdP_in hb lj
      obtain ⟨q1, q2⟩ := ix_in hb hj
      show g (ixI h j) = g' (ixI h j)
      refine (gn _ (fun eq => ?_)).symm
      have ld : LdI h i (ixI h j) := ⟨⟨fi.1, q1⟩, (cd_in hb fi.1).1, l', ps', e', by rw [q2]; exact lj⟩
      rw [eq] at ld
      have nci : ¬ ciI h i := fun a => nr ((rch_I hb fi.1).mpr a.2)
      rcases di with di | di
      · rw [di] at ld
        exact nc0 ⟨f0, rch_1 ld⟩
      · rcases di with a | ⟨q, hq, eq'⟩
        · exact nci a
        · rw [← eq'] at ld
          obtain ⟨q', hq', eq''⟩ := O.2.2.1 q (o m) hq.1 (by omega) ld ⟨f0, nc0⟩
          have := O.2.2.2 q' m hq'.1 (by omega) m0 (by omega) eq''
          omega
    refine ih (m + 1, y) ⟨m + 1, y, rfl, ⟨by omega, by omega⟩, FrZ_tr f fyx, g', fun i hi nf => ?_, fun i d fi => ?_, fun i d fi => ?_⟩ (by show (n - (m + 1)).toNat < (n - m).toNat; omega)
    · rw [gn i (fun q => nf (by rw [q]; exact f0))]; exact g1 i hi nf
    · by_cases ci : i = o m
      · rw [ci, gy]; exact ⟨X, oX⟩
      · have di : DnI h o m i := by
          rcases d with a | ⟨q, hq, eq⟩
          · exact Or.inl a
          · exact Or.inr ⟨q, ⟨hq.1, by by_cases cq : q = m; rw [cq] at eq; exact absurd eq.symm ci; omega⟩, eq⟩
        obtain ⟨Xi, oi⟩ := g2 i di fi
        obtain ⟨w1, w2⟩ := wc_v Kw R Mw fi f0 ci
        rw [gn i ci]
        exact ⟨⟨VlS_fr Xi.1 fy (w1 0) (w1 1) (w1 2) w2, by rw [(fy.1 (rb i) (by rw [Xi.1.1.2.2.2]; decide)).2]; exact Xi.2⟩, oi⟩
    · by_cases ci : i = o m
      · subst ci
        rw [gy]
        have nr : ¬ rch (Ld h) (cdI h (o m)) (cdI h (o m)) := fun a => nc0 ⟨f0, (rch_I hb f0.1).mp a⟩
        rw [← vlC_c Zf (cd_in hb f0.1).1 (f := fI h g) (le _ (Or.inl rfl) f0), vlC_f e nr]
      · have di : DnI h o m i := by
          rcases d with a | ⟨q, hq, eq⟩
          · exact Or.inl a
          · exact Or.inr ⟨q, ⟨hq.1, by by_cases cq : q = m; rw [cq] at eq; exact absurd eq.symm ci; omega⟩, eq⟩
        rw [gn i ci, ← vlC_c Zf (cd_in hb fi.1).1 (f := fI h g) (le i (Or.inr di) fi)]
        exact g3 i di fi
  · rcases d with a | ⟨q, hq, -⟩
    · show VX z (rv i) (rb i) (ci (FoI h i) _ _) ∧ VOk (ci (FoI h i) _ _)
      rw [ci_1 fi]
      exact ⟨C i a, VOk_er (by decide) (by decide)⟩
    · omega
  · rcases d with a | ⟨q, hq, -⟩
    · show ci (FoI h i) _ _ = _
      obtain ⟨l, ps, e⟩ := fi.2
      rw [ci_1 fi, vlC_e e ((rch_I hb fi.1).mpr a.2)]
    · omega
end Wl
