/-! ===== lists of parts that grow ===== -/
theorem gP_l {l r : List Prt} {i : Nat} (h : i < l.length) : (l ++ r).getD i pd0 = l.getD i pd0 := by
  rw [List.getD_eq_getElem?_getD, List.getD_eq_getElem?_getD, List.getElem?_append_left h]
theorem gP_e {l : List Prt} {p : Prt} : (l ++ [p]).getD l.length pd0 = p := by
  rw [List.getD_eq_getElem?_getD, List.getElem?_append_right (Nat.le_refl _), Nat.sub_self]; rfl
theorem und_pre {ps qs : List Prt} (h0 : 0 < ps.length) (m : Nat) {j : Int} (hj : j < ps.length) : undS (spnL (ps ++ qs)) m j = undS (spnL ps) m j := by
  obtain ⟨r, hr⟩ := spnL_app ps qs
  rw [hr]
  exact undS_pre (fun i hi => spn_pos ps i (by rw [spnL_len] at hi; exact hi)) (by rw [spnL_len]; exact h0) m j (by rw [spnL_len]; exact hj)
theorem wlk_pre {ps qs : List Prt} (h0 : 0 < ps.length) (m : Nat) {j : Int} (hj : j < ps.length) : wlk (spnL (ps ++ qs)) m j = wlk (spnL ps) m j := by
  have := und_pre (qs := qs) h0 m hj
  rw [undS_w, undS_w] at this; omega
theorem wlk_le (ps : List Prt) : ∀ (m : Nat) (j : Int), wlk (spnL ps) m j ≤ j
  | 0, j => by rw [wlk]; exact Int.le_refl j
  | m + 1, j => by rw [wlk_s]; have := wlk_le ps m j; have := spn_nn ps (wlk (spnL ps) m j).toNat; omega
/-- always: spans within, leaves without arguments -/
def SpF (ps : List Prt) : Prop := ∀ i : Nat, i < ps.length → (spnL ps).getD i 0 ≤ i + 1 ∧ (i = 0 → (ps.getD i pd0).2.1 = 0) ∧ (14 ≤ (ps.getD i pd0).1 ∧ (ps.getD i pd0).1 ≤ 17 → (ps.getD i pd0).2.1 = 0)
/-- with no late fault: parts as they must be -/
def GdW (nv : Int) (ps : List Prt) : Prop := ∀ i : Nat, i < ps.length → (WfP (ps.getD i pd0) ∧ (ps.getD i pd0).2.2.2.2.2 < nv) ∧ ∀ k : Nat, (k : Int) < (ps.getD i pd0).2.1 → chO (ps.getD i pd0).1 k (ps.getD (wlk (spnL ps) ((ps.getD i pd0).2.1.toNat - 1 - k) ((i : Int) - 1)).toNat pd0).1
/-- the last part's span -/
def spE (ps : List Prt) : Int := (spnL ps).getD (ps.length - 1) 0
theorem spE_snoc (ps : List Prt) (p : Prt) : spE (ps ++ [p]) = 1 + undS (spnL ps) p.2.1.toNat ((ps.length : Int) - 1) := by
  unfold spE
  rw [List.length_append, List.length_singleton, Nat.add_sub_cancel, spnL_snoc, gA_r (by rw [spnL_len]; exact Nat.le_refl _), spnL_len, Nat.sub_self]; rfl
theorem SpF_snoc {ps : List Prt} {p : Prt} (h : SpF ps) (h1 : spE (ps ++ [p]) ≤ ps.length + 1) (h2 : ps.length = 0 → p.2.1 = 0) (h3 : 14 ≤ p.1 ∧ p.1 ≤ 17 → p.2.1 = 0) : SpF (ps ++ [p]) := by
  intro i hi
  rw [List.length_append, List.length_singleton] at hi
  by_cases c : i < ps.length
  · rw [spnL_pre ps [p] c, gP_l c]; exact h i c
  · have e : i = ps.length := by omega
    rw [e, gP_e]
    unfold spE at h1
    rw [List.length_append, List.length_singleton, Nat.add_sub_cancel] at h1
    exact ⟨h1, h2, h3⟩
theorem GdW_snoc {nv : Int} {ps : List Prt} {p : Prt} (hs : SpF ps) (h : GdW nv ps) (h1 : WfP p) (h2 : p.2.2.2.2.2 < nv) (h3 : ∀ k : Nat, (k : Int) < p.2.1 → chO p.1 k (ps.getD (wlk (spnL ps) (p.2.1.toNat - 1 - k) ((ps.length : Int) - 1)).toNat pd0).1) (h0 : ps.length = 0 → p.2.1 = 0) : GdW nv (ps ++ [p]) := by
  intro i hi
  rw [List.length_append, List.length_singleton] at hi
  by_cases c : i < ps.length
  · rw [gP_l c]
    obtain ⟨a, d⟩ := h i c
    refine ⟨a, fun k hk => ?_⟩
    have q := d k hk
    have i0 : i ≠ 0 := fun w => by have := (hs i c).2.1 w; omega
    have wl := wlk_le ps ((ps.getD i pd0).2.1.toNat - 1 - k) ((i : Int) - 1)
    rw [wlk_pre (by omega) _ (by omega), gP_l (by omega)]; exact q
  · have e : i = ps.length := by omega
    rw [e, gP_e]
    refine ⟨⟨h1, h2⟩, fun k hk => ?_⟩
    have i0 : ps.length ≠ 0 := fun w => by have := h0 w; omega
    have q := h3 k hk
    have wl := wlk_le ps (p.2.1.toNat - 1 - k) ((ps.length : Int) - 1)
    rw [wlk_pre (by omega) _ (by omega), gP_l (by omega)]; exact q
theorem lastO_snoc {ps : List Prt} {p : Prt} : lastO (ps ++ [p]) = p.1 := by
  unfold lastO
  rw [List.length_append, List.length_singleton, Nat.add_sub_cancel, gP_e]
/-- from ps to qs more were read, whole: the last takes all of them -/
def Seg (ps qs : List Prt) : Prop := ∃ rs, qs = ps ++ rs ∧ 1 ≤ rs.length ∧ spE qs = (rs.length : Int) ∧ SpF qs
theorem Seg_leaf {ps : List Prt} {p : Prt} (h : SpF ps) (h0 : p.2.1 = 0) : Seg ps (ps ++ [p]) := by
  have e : spE (ps ++ [p]) = 1 := by rw [spE_snoc, h0]; rfl
  exact ⟨[p], rfl, Nat.le_refl 1, e, SpF_snoc h (by rw [e]; omega) (fun _ => h0) (fun _ => h0)⟩
theorem Seg_1 {ps qs : List Prt} {p : Prt} (h : Seg ps qs) (h1 : p.2.1 = 1) (hop : ¬ (14 ≤ p.1 ∧ p.1 ≤ 17)) : Seg ps (qs ++ [p]) := by
  obtain ⟨rs, e1, e2, e3, e4⟩ := h
  have el := congrArg List.length e1
  rw [List.length_append] at el
  have e : spE (qs ++ [p]) = (rs.length : Int) + 1 := by
    rw [spE_snoc, h1]
    show 1 + undS (spnL qs) (0 + 1) _ = _
    rw [undS, undS, show ((qs.length : Int) - 1).toNat = qs.length - 1 by omega]
    unfold spE at e3
    omega
  exact ⟨rs ++ [p], by rw [e1, List.append_assoc], by rw [List.length_append]; omega, by rw [e, List.length_append, List.length_singleton]; omega, SpF_snoc e4 (by rw [e]; omega) (fun w => by omega) (fun w => absurd w hop)⟩
theorem Seg_2 {ps qs us : List Prt} {p : Prt} (h : Seg ps qs) (g : Seg qs us) (h1 : p.2.1 = 2) (hop : ¬ (14 ≤ p.1 ∧ p.1 ≤ 17)) : Seg ps (us ++ [p]) := by
  obtain ⟨rs, e1, e2, e3, e4⟩ := h
  obtain ⟨vs, g1, g2, g3, g4⟩ := g
  have el := congrArg List.length e1
  have gl := congrArg List.length g1
  rw [List.length_append] at el gl
  have e : spE (us ++ [p]) = (rs.length : Int) + vs.length + 1 := by
    rw [spE_snoc, h1]
    show 1 + undS (spnL us) (0 + 1 + 1) _ = _
    rw [undS, undS, undS, show ((us.length : Int) - 1).toNat = us.length - 1 by omega]
    unfold spE at g3 e3
    rw [g3, show ((us.length : Int) - 1 - (vs.length : Int)).toNat = qs.length - 1 by omega, g1, spnL_pre qs vs (by omega), e3]
    omega
  exact ⟨rs ++ vs ++ [p], by rw [g1, e1, List.append_assoc, List.append_assoc, List.append_assoc], by rw [List.length_append, List.length_append]; omega, by rw [e, List.length_append, List.length_append, List.length_singleton]; omega, SpF_snoc g4 (by rw [e]; omega) (fun w => by omega) (fun w => absurd w hop)⟩
/-- arguments cs were read behind the first b0 parts -/
def ArI (b0 : Nat) (cs : List Int) (ps : List Prt) : Prop := SpF ps ∧ b0 ≤ ps.length ∧ (cs = [] → ps.length = b0) ∧ (cs ≠ [] → b0 < ps.length) ∧ undS (spnL ps) cs.length ((ps.length : Int) - 1) = (ps.length : Int) - b0 ∧ ∀ j : Nat, j < cs.length → (ps.getD (wlk (spnL ps) j ((ps.length : Int) - 1)).toNat pd0).1 = cs.getD (cs.length - 1 - j) 0
theorem ArI_0 {ps : List Prt} (h : SpF ps) : ArI ps.length [] ps := ⟨h, Nat.le_refl _, fun _ => rfl, fun w => absurd rfl w, by rw [List.length_nil, undS]; omega, fun j hj => by cases hj⟩
theorem ArI_s {b0 : Nat} {cs : List Int} {ps qs : List Prt} (h : ArI b0 cs ps) (g : Seg ps qs) : ArI b0 (cs ++ [lastO qs]) qs := by
  obtain ⟨h1, h2, h3, h4, h5, h6⟩ := h
  obtain ⟨rs, g1, g2, g3, g4⟩ := g
  have gl := congrArg List.length g1
  rw [List.length_append] at gl
  have nn : cs ++ [lastO qs] ≠ [] := by simp
  unfold spE at g3
  have st : (qs.length : Int) - 1 - (spnL qs).getD ((qs.length : Int) - 1).toNat 0 = (ps.length : Int) - 1 := by
    rw [show ((qs.length : Int) - 1).toNat = qs.length - 1 by omega, g3]; omega
  refine ⟨g4, by omega, fun w => absurd w nn, fun _ => by omega, ?_, fun j hj => ?_⟩
  · rw [List.length_append, List.length_singleton, undS, st, show ((qs.length : Int) - 1).toNat = qs.length - 1 by omega, g3]
    by_cases c : cs = []
    · have := h3 c
      rw [c, List.length_nil, undS]; omega
    · have := h4 c
      rw [g1, und_pre (by omega) _ (by omega), h5, ← g1]; omega
  · rw [List.length_append, List.length_singleton] at hj ⊢
    cases j with
    | zero =>
      rw [wlk, show ((qs.length : Int) - 1).toNat = qs.length - 1 by omega, gA_r (by omega), show cs.length + 1 - 1 - 0 - cs.length = 0 by omega]; rfl
    | succ j =>
      have c : cs ≠ [] := fun w => by rw [w, List.length_nil] at hj; omega
      have b1 := h4 c
      have q := h6 j (by omega)
      have wl := wlk_le ps j ((ps.length : Int) - 1)
      rw [wlk, st, gA_l (by omega), show cs.length + 1 - 1 - (j + 1) = cs.length - 1 - j by omega, ← q, g1, wlk_pre (by omega) _ (by omega), gP_l (by omega)]
/-- the call behind its arguments -/
theorem ArI_e {b0 : Nat} {cs : List Int} {ps : List Prt} {p : Prt} (h : ArI b0 cs ps) (hc : cs ≠ []) (h1 : p.2.1 = (cs.length : Int)) (hop : ¬ (14 ≤ p.1 ∧ p.1 ≤ 17)) : spE (ps ++ [p]) = (ps.length : Int) + 1 - b0 ∧ SpF (ps ++ [p]) := by
  obtain ⟨a1, a2, a3, a4, a5, a6⟩ := h
  have := a4 hc
  have e : spE (ps ++ [p]) = (ps.length : Int) + 1 - b0 := by rw [spE_snoc, h1, Int.toNat_natCast, a5]; omega
  exact ⟨e, SpF_snoc a1 (by rw [e]; omega) (fun w => by omega) (fun w => absurd w hop)⟩
