/-! ===== the reference as it starts ===== -/
noncomputable def uZ (y : Z) (g : Nat → Nat) : Mu := (fun k i => @ite _ (vk k) (Classical.propDecidable _) (zI y (g k) i) 0, fun k i => @ite _ (vk k) (Classical.propDecidable _) (zG y (g k) i) 0)
theorem uZ_I {y : Z} {g : Nat → Nat} {k : Nat} {i : Int} (h : vk k) : mI (uZ y g) k i = zI y (g k) i := by
  show @ite _ (vk k) (Classical.propDecidable _) (zI y (g k) i) 0 = _
  exact @if_pos _ (Classical.propDecidable _) h _ _ _
theorem uZ_In {y : Z} {g : Nat → Nat} {k : Nat} {i : Int} (h : ¬ vk k) : mI (uZ y g) k i = 0 := by
  show @ite _ (vk k) (Classical.propDecidable _) (zI y (g k) i) 0 = _
  exact @if_neg _ (Classical.propDecidable _) h _ _ _
theorem uZ_G {y : Z} {g : Nat → Nat} {k : Nat} {i : Int} (h : vk k) : mG (uZ y g) k i = zG y (g k) i := by
  show @ite _ (vk k) (Classical.propDecidable _) (zG y (g k) i) 0 = _
  exact @if_pos _ (Classical.propDecidable _) h _ _ _
theorem uZ_Gn {y : Z} {g : Nat → Nat} {k : Nat} {i : Int} (h : ¬ vk k) : mG (uZ y g) k i = 0 := by
  show @ite _ (vk k) (Classical.propDecidable _) (zG y (g k) i) 0 = _
  exact @if_neg _ (Classical.propDecidable _) h _ _ _
theorem Ms_uZ {y : Z} {g : Nat → Nat} (h : MZ y g) (w : Wz y) : Ms (cz y) g (uZ y g) := by
  refine ⟨⟨h.1, fun k hk => ⟨(h.2.1 k hk).1, (h.2.1 k hk).2.1, ?_⟩, h.2.2⟩, ⟨fun k i => ?_, fun k i => ?_, fun k i hk => ?_, fun k i hk => ?_⟩, fun k i hk => ?_⟩
  · show (zN y (g k)).toNat = mnl.getD k 0
    rw [(h.2.1 k hk).2.2]; omega
  · by_cases c : vk k
    · rw [uZ_I c]; exact w.1 _ _
    · rw [uZ_In c]; exact ⟨by decide, by decide⟩
  · by_cases c : vk k
    · rw [uZ_G c]; exact w.2.1 _ _
    · rw [uZ_Gn c]; unfold R64; omega
  · have n : mkl.getD k 0 ≠ 0 := by rw [hk]; decide
    rw [uZ_I (Or.inr n)]
    exact w.2.2.1 _ _ (by rw [(h.2.1 k n).2.1, hk])
  · have n : mkl.getD k 0 ≠ 0 := by rw [hk]; decide
    rw [uZ_I (Or.inr n)]
    exact w.2.2.2.1 _ _ (by rw [(h.2.1 k n).2.1, hk])
  · rw [uZ_I hk, uZ_G hk]; exact ⟨rfl, rfl⟩
/-- the reference's numbers before its last call -/
def M0 (u : Mu) : Prop := (∀ i, mI u 0 i = if i = 13 then -1 else if i = 8 then 1 else if i = 7 then 6 else if i = 6 then 8 else 0) ∧ (∀ i, 0 ≤ i → i < 6 → mI u 11 i = if i = 0 then 0 else -1) ∧ (mI u 9 0 = -1 ∧ mI u 10 0 = -1 ∧ mI u 1 0 = 8 ∧ mI u 2 0 = 6) ∧ (∀ i, 0 ≤ i → i < 8 → mI u 3 i = i) ∧ (∀ i, 0 ≤ i → i < 6 → mI u 4 i = i) ∧ (∀ i, mI u 5 i = 0) ∧ (∀ i, mI u 39 i = 0) ∧ ∀ i, mI u 64 i = 0
theorem sh0_b : ShB sh0 := ⟨⟨by decide, by decide⟩, by decide, by decide⟩
theorem wf0 {n : Int} : WfZ (fun _ => sh0) n sh0 := ⟨sh0_b, fun _ _ _ => sh0_b, fun k _ l ps e => by cases e⟩
theorem m_start {u : Mu} (h : M0 u) : RM (cpF u 0 40) 0 S0 ∧ NdS (cpF u 0 40) S0 := by
  obtain ⟨h0, h11, ⟨h9, h10, h1, h2⟩, h3, h4, h5, h39, h64⟩ := h
  have a : ShM u 0 sh0 := by
    refine ⟨⟨h1, h2⟩, fun k k0 k1 => ?_, fun k k0 k1 => ?_, fun r c _ _ _ _ => h5 _⟩
    · rw [show 32 * (0 : Int) + k = k by omega]; exact h3 k k0 k1
    · rw [show 10 * (0 : Int) + k = k by omega]; exact h4 k k0 k1
  have f : FrM [(0, some 65), (1, none), (2, none), (3, none), (4, none), (5, none)] u (cpF u 0 40) := FrM_cpF ⟨fun _ _ _ => rfl, fun _ _ _ => rfl⟩ (by decide) (by decide)
  have gr : Grw u (cpF u 0 40) := Grw_fr (by rw [h0, if_neg (by decide), if_neg (by decide), if_neg (by decide), if_neg (by decide)]; decide) f (by decide)
  have b0 : ShM (cpF u 0 40) 0 sh0 := ShM_s sh0_b gr (SlM_fo (by decide)) a
  have b40 : ShM (cpF u 0 40) 40 sh0 := ShM_s sh0_b gr SlM_f a
  have e : ∀ i, i ≠ 65 → i ≠ 13 → i ≠ 8 → i ≠ 7 → i ≠ 6 → mI (cpF u 0 40) 0 i = 0 := fun i q1 q2 q3 q4 q5 => by
    rw [mF0 (Or.inl rfl) (fun _ => q1), h0, if_neg q2, if_neg q3, if_neg q4, if_neg q5]
  have e19 := e 19 (by decide) (by decide) (by decide) (by decide) (by decide)
  have e24 := e 24 (by decide) (by decide) (by decide) (by decide) (by decide)
  have e25 := e 25 (by decide) (by decide) (by decide) (by decide) (by decide)
  have e8 : mI (cpF u 0 40) 0 8 = 1 := by rw [mF0 (Or.inl rfl) (fun _ => by decide), h0, if_neg (by decide), if_pos rfl]
  have e13 : mI (cpF u 0 40) 0 13 = -1 := by rw [mF0 (Or.inl rfl) (fun _ => by decide), h0, if_pos rfl]
  have e7 : mI (cpF u 0 40) 0 7 = 6 := by rw [mF0 (Or.inl rfl) (fun _ => by decide), h0, if_neg (by decide), if_neg (by decide), if_pos rfl]
  have e6 : mI (cpF u 0 40) 0 6 = 8 := by rw [mF0 (Or.inl rfl) (fun _ => by decide), h0, if_neg (by decide), if_neg (by decide), if_neg (by decide), if_pos rfl]
  have o : ∀ (k : Nat) (i : Int), 6 ≤ k → mI (cpF u 0 40) k i = mI u k i := fun k i hk => mF0 (Or.inr hk) (fun q => by omega)
  have e15 := e 15 (by decide) (by decide) (by decide) (by decide) (by decide)
  refine ⟨⟨⟨⟨by rw [e19]; decide, by rw [e19]; decide⟩, ⟨by rw [e24]; decide, by rw [e24]; decide⟩⟩, ⟨e 40 (by decide) (by decide) (by decide) (by decide) (by decide), fun i _ _ => (o 39 i (by decide)).trans (h39 i), e 41 (by decide) (by decide) (by decide) (by decide) (by decide), e 42 (by decide) (by decide) (by decide) (by decide) (by decide)⟩, ⟨e8, fun k k0 k1 => ?_⟩, ⟨fun k k0 k1 => (o 11 k (by decide)).trans (h11 k k0 k1), e 12 (by decide) (by decide) (by decide) (by decide) (by decide), e13, e25, e 14 (by decide) (by decide) (by decide) (by decide) (by decide), e6, e7⟩, ⟨b40, ⟨e 16 (by decide) (by decide) (by decide) (by decide) (by decide), e 17 (by decide) (by decide) (by decide) (by decide) (by decide), by rw [e15]; decide, by rw [e15]; decide⟩, fun k k0 k1 => ?_, fun k k0 k1 => ?_⟩, ⟨e 98 (by decide) (by decide) (by decide) (by decide) (by decide), fun k k0 k1 => ?_⟩, e 104 (by decide) (by decide) (by decide) (by decide) (by decide), fun k k0 k1 => ?_⟩, ⟨by decide, by decide⟩, ⟨⟨by rw [e19]; decide, by rw [e19]; decide⟩, by rw [e24]; decide, by rw [e25]; decide⟩, fun v v0 v1 => ?_, ⟨b40, wf0⟩, fun v v0 v1 n => ?_, fun n => ?_, fun v v0 v1 => (o 64 v (by decide)).trans (h64 v)⟩
  · have k1 : k < 1 := k1
    have ek : k = 0 := by omega
    subst ek
    exact ⟨b0, (o 9 0 (by decide)).trans h9, (o 10 0 (by decide)).trans h10⟩
  · exact absurd k1 (by show ¬ k < 0; omega)
  · exact absurd k1 (by show ¬ k < 0; omega)
  · exact absurd k1 (by show ¬ k < 0; omega)
  · exact absurd k1 (by show ¬ k < 0; omega)
  · have v1 : v < 1 := v1
    have ek : v = 0 := by omega
    subst ek
    exact ⟨b0, wf0⟩
  · exact absurd ((o 64 v (by decide)).trans (h64 v)) n
  · exact absurd cpF_65 n
/-- all but its last call -/
theorem m_most (t0 : Nat) : F_X12_init t0 (nZ zE t0 13 0) 56 1298775 (fun y => ∃ g, g 0 = t0 ∧ MZ y g ∧ M0 (uZ y g)) := by
  refine m_arrs (fun z L c s o hL => ?_)
  obtain ⟨⟨o1, o1'⟩, o2, o3, o4, o5⟩ := o
  have ex : ∀ k, mkl.getD k 0 ≠ 0 → ∃ a, (k, a) ∈ L := fun k q => by
    have kk : k < 105 := Classical.byContradiction fun n => q (by
      rw [List.getD_eq_getElem?_getD, List.getElem?_eq_none (by show 105 ≤ k; omega)]; rfl)
    have := lsM_k k kk q
    rw [← hL] at this
    obtain ⟨t, ht, e⟩ := List.mem_map.mp this
    exact ⟨t.2, by rw [← e]; exact ht⟩
  have : ∃ g : Nat → Nat, g 0 = t0 ∧ ∀ k, mkl.getD k 0 ≠ 0 → (k, g k) ∈ L := by
    refine ⟨fun k => @dite _ (mkl.getD k 0 ≠ 0) (Classical.propDecidable _) (fun q => Classical.choose (ex k q)) (fun _ => t0), ?_, fun k q => ?_⟩
    · exact @dif_neg _ (Classical.propDecidable _) (by decide) _ _ _
    · have e : (@dite _ (mkl.getD k 0 ≠ 0) (Classical.propDecidable _) (fun q => Classical.choose (ex k q)) (fun _ => t0)) = Classical.choose (ex k q) := @dif_pos _ (Classical.propDecidable _) q _ _ _
      show (k, @dite _ (mkl.getD k 0 ≠ 0) (Classical.propDecidable _) (fun q => Classical.choose (ex k q)) (fun _ => t0)) ∈ L
      rw [e]; exact Classical.choose_spec (ex k q)
  obtain ⟨g, g0, hg⟩ := this
  have mz : MZ z g := by
    refine ⟨by rw [g0]; exact o1, fun k q => ?_, fun i j hi hj e => ?_⟩
    · obtain ⟨⟨q1, q2⟩, q3, q4, q5, q6⟩ := o2 _ (hg k q)
      rw [g0]; exact ⟨q5, q1, q2⟩
    · rcases hi with rfl | hi
      · rcases hj with rfl | hj
        · rfl
        · exact absurd (by rw [← e, g0]) (o2 _ (hg j hj)).2.2.1
      · rcases hj with rfl | hj
        · exact absurd (by rw [← g0]; exact e) (o2 _ (hg i hi)).2.2.1
        · have := o3 _ (hg i hi) _ (hg j hj) e
          injection this
  rw [← g0]
  refine m_fill mz (fun y ⟨f, f11, ⟨f9, f10, f1, f2⟩, f3, f4⟩ => ⟨g, rfl, f.1, ?_⟩)
  have zz : ∀ k i, mkl.getD k 0 ≠ 0 → zI z (g k) i = 0 := fun k i q => ((o2 _ (hg k q)).2.2.2.2 i).1
  have v : ∀ k, mkl.getD k 0 ≠ 0 → vk k := fun k q => Or.inr q
  refine ⟨fun i => ?_, fun i i0 i1 => ?_, ⟨?_, ?_, ?_, ?_⟩, fun i i0 i1 => ?_, fun i i0 i1 => ?_, fun i => ?_, fun i => ?_, fun i => ?_⟩
  · rw [uZ_I (Or.inl rfl), f.2.1 0 i (Or.inl rfl) (eHas_w rfl), g0]
    by_cases c13 : i = 13
    · rw [if_pos c13, c13]; exact o4 (13, -1) (by simp)
    rw [if_neg c13]
    by_cases c8 : i = 8
    · rw [if_pos c8, c8]; exact o4 (8, 1) (by simp)
    rw [if_neg c8]
    by_cases c7 : i = 7
    · rw [if_pos c7, c7]; exact o4 (7, 6) (by simp)
    rw [if_neg c7]
    by_cases c6 : i = 6
    · rw [if_pos c6, c6]; exact o4 (6, 8) (by simp)
    rw [if_neg c6]
    refine o5 i ?_
    simp [c13, c8, c7, c6]
  · rw [uZ_I (v 11 (by decide)), f11 i i0 i1]
    by_cases c : i = 0
    · rw [if_pos c, if_pos c]; exact zz 11 0 (by decide)
    · rw [if_neg c, if_neg c]
  · rw [uZ_I (v 9 (by decide))]; exact f9
  · rw [uZ_I (v 10 (by decide))]; exact f10
  · rw [uZ_I (v 1 (by decide))]; exact f1
  · rw [uZ_I (v 2 (by decide))]; exact f2
  · rw [uZ_I (v 3 (by decide))]; exact f3 i i0 i1
  · rw [uZ_I (v 4 (by decide))]; exact f4 i i0 i1
  · rw [uZ_I (v 5 (by decide)), f.2.1 5 i (v 5 (by decide)) (eHas_w rfl)]; exact zz 5 i (by decide)
  · rw [uZ_I (v 39 (by decide)), f.2.1 39 i (v 39 (by decide)) (eHas_w rfl)]; exact zz 39 i (by decide)
  · rw [uZ_I (v 64 (by decide)), f.2.1 64 i (v 64 (by decide)) (eHas_w rfl)]; exact zz 64 i (by decide)
