/-! ===== the system as it starts ===== -/
theorem crz_c : ∀ t ∈ crz, t.2.2 < 35 := by decide
theorem lsK_k : ∀ k, k < 35 → k ∈ lsK := by decide
theorem crw_s : ∀ t ∈ crw, t.2 ≠ none := by decide
theorem fre_of {z : Z} {L : OL} {E : WR} {R : List (Nat × Int × Nat)} {sv sb : Nat → Nat} {a22 t0 : Nat} (h : OX z L E R [(0, 17, 6), (0, 16, 8), (0, 13, -1)] sv sb a22) (hk : L.map (·.1) = lsK) (hR : ∀ t ∈ crz, t ∈ R) (hE : E.all exB = true) (h0 : (0, t0) ∈ L) : ∃ b : Nat → Nat, b 0 = t0 ∧ Fre z b sv sb := by
  have ex : ∀ k, k < 35 → ∃ a, (k, a) ∈ L := fun k q => by
    have := lsK_k k q
    rw [← hk] at this
    obtain ⟨t, ht, e⟩ := List.mem_map.mp this
    exact ⟨t.2, by rw [← e]; exact ht⟩
  have : ∃ b : Nat → Nat, ∀ k, k < 35 → (k, b k) ∈ L := ⟨fun k => if q : k < 35 then Classical.choose (ex k q) else 0, fun k q => by show (k, if q : k < 35 then Classical.choose (ex k q) else 0) ∈ L; rw [dif_pos q]; exact Classical.choose_spec (ex k q)⟩
  obtain ⟨b, hb⟩ := this
  obtain ⟨⟨h1, h2, h3, h4, h5⟩, ⟨s1, s2, s3⟩, m22⟩ := h
  have e0 : b 0 = t0 := by
    have := (h2 _ (hb 0 (by decide)) _ h0).1 rfl
    injection this
  have e22 : b 22 = a22 := by
    have := (h2 _ (hb 22 (by decide)) _ m22).1 rfl
    injection this
  refine ⟨b, e0, ⟨fun k q => ⟨(h1 _ (hb k q)).1, (h1 _ (hb k q)).2.1⟩, fun i j hi hj e => ?_, fun t ht => ?_⟩, fun k q k22 i hi hn => ?_, ⟨?_, ?_, ?_⟩, ⟨fun m hm => ?_, s2, s3⟩, fun m hm k q => ?_⟩
  · have := (h2 _ (hb i hi) _ (hb j hj)).2 e
    injection this
  · exact (h4 t (hR t ht)).2.2.2 _ _ (hb t.1 (crz_b t ht)) (hb t.2.2 (crz_c t ht))
  · refine h3 _ (hb k q) i ?_
    rintro ⟨t, ht, e1, e2⟩
    have w := List.all_eq_true.mp hE t ht
    unfold exB at w
    rw [Bool.or_eq_true, Bool.or_eq_true] at w
    rcases w with (w | w) | w
    · have mt := List.contains_iff_mem.mp w
      rcases e2 with e2 | e2
      · exact crw_s t mt e2
      · have et : t = (k, some i) := by
          obtain ⟨t1, t2⟩ := t
          simp only at e1 e2
          rw [e1, e2]
        rw [et] at w
        rw [w] at hi; cases hi
    · have : t.1 = 22 := by simpa using w
      exact k22 (e1.symm.trans this)
    · have w2 : t.1 = 0 ∧ ((t.2 = some 13 ∨ t.2 = some 16) ∨ t.2 = some 17) := by simpa using w
      refine hn ⟨e1.symm.trans w2.1, ?_⟩
      rcases e2 with e2 | e2
      · rw [e2] at w2
        rcases w2.2 with (e | e) | e <;> cases e
      · rw [e2] at w2
        rcases w2.2 with (e | e) | e
        · injection e with e; exact Or.inl e
        · injection e with e; exact Or.inr (Or.inl e)
        · injection e with e; exact Or.inr (Or.inr e)
  · exact (h5 (0, 13, -1) (by simp)).2.2 _ (hb 0 (by decide))
  · exact (h5 (0, 16, 8) (by simp)).2.2 _ (hb 0 (by decide))
  · exact (h5 (0, 17, 6) (by simp)).2.2 _ (hb 0 (by decide))
  · rw [e22]; exact (s1 m hm).1
  · have := (s1 m hm).2 _ (hb k q)
    exact ⟨this.1.symm, this.2.symm⟩
def sh0 : Sh := ((8, 6), (fun k => k), (fun k => k), fun _ _ => none)
def S0 : SS := ((0, fun _ => 0, 0, 0), (1, fun _ => sh0, fun _ => -1, fun _ => -1), ((fun k => if k = 0 then 0 else -1), 0, -1, 0, 0, 8, 6), (sh0, 0, fun _ => sh0, 0, fun _ => sh0), (0, fun _ => ((0, 0, 0, 0), none, none, 0), 0, fun _ => (0, 0, 0)))
theorem ShC_0 {y : Z} {I : Nat → Prop} {a ra ca xa : Nat} (S : Shp y a ra ca xa 8 6) (i1 : I ra) (i2 : I ca) (i3 : I xa) (r : ∀ i, 0 ≤ i → i < 8 → zI y ra i = i + 1) (c : ∀ i, 0 ≤ i → i < 6 → zI y ca i = i + 1) (x : ∀ i, 0 ≤ i → i < 48 → zO y xa i = none) : ShC y I a sh0 := by
  refine ⟨ra, ca, xa, S, i1, i2, i3, r, c, fun i j a0 a1 b0 b1 => ?_⟩
  have a1 : i < 8 := a1
  have b1 : j < 6 := b1
  show zO y xa (i * 6 + j) = none
  exact x _ (by omega) (by omega)
theorem w_start {z y : Z} {b sv sb : Nat → Nat} {a1 a2 ra ca x1 x2 : Nat} (h : Fre z b sv sb) (m : Mde z y b a1 a2 ra ca x1 x2) : ∃ I, RC y b I S0 ∧ (∃ sv sb, Cac y b I sv sb S0) ∧ ptZ y b S0 ≤ 1 := by
  obtain ⟨f, ⟨p1, p2⟩, ⟨⟨z1, z2, ne⟩, zr, zc, zx1, zx2⟩, ⟨v1, v2⟩, ⟨er, ec, ex⟩, ⟨e18, e19, e20, e21, e3, e0⟩, e9⟩ := m
  obtain ⟨c0, hz, ⟨i13, i16, i17⟩, st, sn⟩ := h
  have C : CWz y b := CWz_fr c0 (WB_L f) (by decide)
  have g : ∀ k i, k < 35 → k ≠ 22 → crw.contains (k, some i) = false → ¬ (k = 0 ∧ (i = 13 ∨ i = 16 ∨ i = 17)) → (wFs.all (fun t => !(t.1 == k && (t.2 == none || t.2 == some i)))) = true → zI y (b k) i = 0 ∧ zG y (b k) i = 0 ∧ zO y (b k) i = none := fun k i hk k22 q1 q2 q3 => by
    have n : ¬ WB b wFs (b k) i := by
      rintro ⟨t, ht, t1, t2, t3⟩
      have w := List.all_eq_true.mp q3 t ht
      have ek := c0.2.1 k t.1 hk t1 t2
      rw [← ek] at w
      rcases t3 with t3 | t3 <;> rw [t3] at w <;> simp at w
    obtain ⟨w1, w2, w3⟩ := f.2 (b k) i (kbz c0 hk) n
    rw [w1, w2, w3]
    exact hz k hk k22 i q1 q2
  have g2 : ∀ k i, k < 35 → (wFs.all (fun t => !(t.1 == k && (t.2 == none || t.2 == some i)))) = true → zI y (b k) i = zI z (b k) i ∧ zO y (b k) i = zO z (b k) i := fun k i hk q3 => by
    have n : ¬ WB b wFs (b k) i := by
      rintro ⟨t, ht, t1, t2, t3⟩
      have w := List.all_eq_true.mp q3 t ht
      have ek := c0.2.1 k t.1 hk t1 t2
      rw [← ek] at w
      rcases t3 with t3 | t3 <;> rw [t3] at w <;> simp at w
    obtain ⟨w1, w2, w3⟩ := f.2 (b k) i (kbz c0 hk) n
    exact ⟨w1, w3⟩
  have nb : ∀ x, zK z x = 0 → ∀ k, k < 35 → x ≠ b k := fun x hx k hk e => kbz c0 hk (by rw [← e]; exact hx)
  have I0 : ∃ I : Nat → Prop, (I ra ∧ I ca ∧ I x1 ∧ I x2) ∧ ∀ a, I a → (zK y a = 15 ∨ zK y a = 19) ∧ zK z a = 0 := ⟨fun a => a = ra ∨ a = ca ∨ a = x1 ∨ a = x2, ⟨Or.inl rfl, Or.inr (Or.inl rfl), Or.inr (Or.inr (Or.inl rfl)), Or.inr (Or.inr (Or.inr rfl))⟩, fun a ha => by
    rcases ha with rfl | rfl | rfl | rfl
    · exact ⟨Or.inl p1.2.2.2.2.1, zr⟩
    · exact ⟨Or.inl p1.2.2.2.2.2.1, zc⟩
    · exact ⟨Or.inr p1.2.2.2.2.2.2.1, zx1⟩
    · exact ⟨Or.inr p2.2.2.2.2.2.2.1, zx2⟩⟩
  obtain ⟨I, ⟨j1, j2, j3, j4⟩, hI⟩ := I0
  have F : Frz y b I := fun a ha => by
    obtain ⟨q1, q2⟩ := hI a ha
    refine ⟨?_, ?_, ?_, nb a q2⟩ <;> rcases q1 with e | e <;> rw [e] <;> decide
  have s1 : ShC y I a1 sh0 := ShC_0 p1 j1 j2 j3 er ec (fun i a c => (ex i a c).1)
  have s2 : ShC y I a2 sh0 := ShC_0 p2 j1 j2 j4 er ec (fun i a c => (ex i a c).2)
  refine ⟨I, ⟨C, F, ⟨⟨?_, by decide, by decide⟩, fun i i0 i1 => ⟨?_, by show (0 : Int) ≤ 0; decide, by show (0 : Int) ≤ 255; decide⟩, ?_, ?_⟩, ⟨⟨e3, by decide, by decide⟩, fun k k0 k1 => ?_⟩, ⟨fun k k0 k1 => ⟨e9 k k0 k1, ?_⟩, ⟨?_, by decide, by decide, by decide⟩, ⟨?_, by decide, by decide⟩, ⟨?_, by decide, by decide⟩, ⟨?_, by decide, by decide⟩, ⟨?_, by decide, by decide⟩, ⟨?_, by decide, by decide⟩⟩, ⟨⟨a2, e0, s2⟩, ⟨?_, ?_, by decide, by decide, by decide⟩, fun k k0 k1 => ?_, fun k k0 k1 => ?_⟩, ⟨⟨?_, by decide, by decide⟩, fun k k0 k1 => ?_, fun j k j0 j1 => ?_⟩, ⟨?_, by decide, by decide⟩, fun k k0 k1 => ?_⟩, ⟨sv, sb, ⟨C, F, ⟨fun m hm => ?_, st.2⟩, fun x hx m hm => ?_, sn, fun a ha hk => ?_, ⟨cK C 23 rfl rfl, ?_, cO C 23 0 24 (by decide), cK C 24 rfl rfl⟩, ?_⟩, ⟨fun i v hv => ?_, fun i j v hv => ?_, fun i j v v' vb hv => ?_⟩, ⟨⟨cK C 7 rfl rfl, ?_, cO C 7 0 34 (by decide), cK C 34 rfl rfl⟩, ?_⟩, fun v v0 v1 a ha h3 => ?_, ⟨fun v v' v0 v1 v0' v1' _ => ?_, fun v v0 v1 => ?_⟩, fun a ha h3 => ?_, fun a ha => ?_⟩, ?_⟩
  · exact (g 1 3 (by decide) (by decide) rfl (by decide) rfl).1
  · exact (g 11 i (by decide) (by decide) rfl (fun w => absurd w.1 (by decide)) rfl).1
  · exact (g 1 4 (by decide) (by decide) rfl (by decide) rfl).1
  · exact (g 1 5 (by decide) (by decide) rfl (by decide) rfl).1
  · have k1 : k < 1 := k1
    have e : k = 0 := by omega
    subst e
    exact ⟨⟨⟨a1, e18, s1⟩, e19, e20, e21⟩, by decide, by decide⟩
  · show -1 ≤ (if k = 0 then (0 : Int) else -1) ∧ (if k = 0 then (0 : Int) else -1) < 1
    split <;> omega
  · exact (g 0 12 (by decide) (by decide) rfl (by decide) rfl).1
  · exact (g2 0 13 (by decide) rfl).1.trans i13
  · exact (g 0 14 (by decide) (by decide) rfl (by decide) rfl).1
  · exact (g 0 15 (by decide) (by decide) rfl (by decide) rfl).1
  · exact (g2 0 16 (by decide) rfl).1.trans i16
  · exact (g2 0 17 (by decide) rfl).1.trans i17
  · exact (g 6 2 (by decide) (by decide) rfl (by decide) rfl).1
  · exact (g 6 3 (by decide) (by decide) rfl (by decide) rfl).1
  · exact absurd k1 (by show ¬ k < 0; omega)
  · exact absurd k1 (by show ¬ k < 0; omega)
  · exact (g 5 2 (by decide) (by decide) rfl (by decide) rfl).1
  · exact absurd k1 (by show ¬ k < 0; omega)
  · exact absurd j1 (by show ¬ j < 0; omega)
  · exact (g 0 10 (by decide) (by decide) rfl (by decide) rfl).1
  · exact absurd k1 (by show ¬ k < 0; omega)
  · obtain ⟨q1, q2, q3, q4, q5⟩ := st.1 m hm
    have nw : ¬ WB b wFs (sv m) 0 := fun ⟨t, _, t1, t2, _⟩ => (sn m hm t.1 t1).1 t2
    have ks : zK z (sv m) ≠ 0 := by rw [q2]; decide
    have kb : zK z (sb m) ≠ 0 := by rw [q4]; decide
    exact ⟨(g2 22 m (by decide) rfl).2.trans q1, (f.1 _ ks).1.trans q2, (f.2 _ 0 ks nw).2.2.trans q3, (f.1 _ kb).1.trans q4, (f.1 _ kb).2.trans q5⟩
  · obtain ⟨q1, q2, q3, q4, q5⟩ := st.1 m hm
    have := (hI x hx).2
    exact ⟨fun e => (by rw [e, q2] at this; cases this), fun e => (by rw [e, q4] at this; cases this)⟩
  · rcases (hI a ha).1 with e | e <;> rw [e] at hk <;> cases hk
  · exact (g 23 1 (by decide) (by decide) rfl (by decide) rfl).1
  · unfold VlT
    rw [if_neg (by decide)]
    exact ⟨(g 23 2 (by decide) (by decide) rfl (by decide) rfl).2.1, rfl⟩
  · rw [(g 8 i (by decide) (by decide) rfl (fun w => absurd w.1 (by decide)) rfl).2.2] at hv; cases hv
  · rw [(g 8 i (by decide) (by decide) rfl (fun w => absurd w.1 (by decide)) rfl).2.2] at hv; cases hv
  · rw [(g 8 i (by decide) (by decide) rfl (fun w => absurd w.1 (by decide)) rfl).2.2] at hv; cases hv
  · exact (g 7 1 (by decide) (by decide) rfl (by decide) rfl).1
  · unfold VlT
    rw [if_neg (by decide)]
    exact ⟨(g 7 2 (by decide) (by decide) rfl (by decide) rfl).2.1, rfl⟩
  · have v1' : v < 1 := v1
    have e : v = 0 := by omega
    rw [e, e18] at ha
    injection ha with ha
    rw [← ha] at h3
    exact absurd v1 (fun _ => h3 (by assumption))
  · have q1 : v < 1 := v1
    have q2 : v' < 1 := v1'
    omega
  · have q1 : v < 1 := v1
    have e : v = 0 := by omega
    rw [e, e18, e0]
    intro w
    injection w with w
    exact ne w
  · rw [e0] at ha
    injection ha with ha
    rw [← ha] at h3
    exact absurd v2 h3
  · rcases ha with ha | ⟨k, k0, k1, -⟩ | ⟨k, k0, k1, -⟩
    · have ea : a2 = a := by rw [e0] at ha; injection ha
      refine ⟨fun v v0 v1 => ?_, Or.inr ha⟩
      have q1 : v < 1 := v1
      have e : v = 0 := by omega
      rw [e, e18, ← ea]
      intro w
      injection w with w
      exact ne w
    · rw [(g 6 2 (by decide) (by decide) rfl (by decide) rfl).1] at k1; omega
    · rw [(g 6 3 (by decide) (by decide) rfl (by decide) rfl).1] at k1; omega
  · show cnQ (fun v => UnV y b v) 1 ≤ 1
    rw [cnQ, cnQ]
    by_cases c : UnV y b ((0 : Nat) : Int)
    · rw [cb_1 c]; exact Nat.le_refl _
    · rw [cb_0 c]; exact Nat.le_succ _
/-- the system's constructor -/
theorem x_made (t0 : Nat) : F_X11_init t0 (nZ zE t0 12 0) 300 20000 (fun y => ∃ b I, b 0 = t0 ∧ RC y b I S0 ∧ (∃ sv sb, Cac y b I sv sb S0) ∧ ptZ y b S0 ≤ 1) := by
  refine w_init (fun y L E R sv sb a22 c s o hk hR hE h0 hc hs => ?_)
  obtain ⟨b, e, F⟩ := fre_of o hk hR hE h0
  rw [← e]
  refine w_rest F hc hs (fun w a1 a2 ra ca x1 x2 M => ?_)
  obtain ⟨I, h⟩ := w_start F M
  exact ⟨b, I, rfl, h⟩
