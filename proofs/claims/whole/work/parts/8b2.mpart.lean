/-! ===== parts that the reference reads ===== -/
def wPr : WR := [(0, some 19), (18, none), (0, some 41), (0, some 42), (0, some 46), (0, some 47), (0, some 48), (0, some 49), (0, some 50), (0, some 51), (0, some 52), (0, some 53), (0, some 54), (0, some 55), (0, some 56), (0, some 57), (0, some 58), (0, some 59), (26, none), (27, none), (28, none), (29, none), (30, none), (31, none), (32, none), (33, none), (34, none), (35, none), (36, none), (37, none)]
/-- a part as it is laid, but for the mark of ROW and COL -/
def PrR (u : Mu) (q : Int) (p : Prt) : Prop := ((1 ≤ p.1 ∧ p.1 ≤ 35) ∧ (p.1 = 14 → ∃ l, p.2.2.1 = some l ∧ 1 ≤ l.1 ∧ l.1 ≤ 3)) ∧ mI u 26 q = kM p ∧ mI u 27 q = p.2.1 ∧ PliM u q p.2.2.1 ∧ mI u 32 q = p.2.2.2.1.1 - 1 ∧ mI u 33 q = p.2.2.2.1.2.1 - 1 ∧ mI u 34 q = (if p.1 = 16 then -1 else p.2.2.2.1.2.2.1 - 1) ∧ mI u 35 q = (if p.1 = 16 then -1 else p.2.2.2.1.2.2.2 - 1) ∧ mI u 37 q = p.2.2.2.2.2
def PmL (u : Mu) (M : Int) (d : Prop) (nl : Int) (ps : List Prt) (l : Int) : Prop := ∀ i : Nat, i < ps.length → PrR u (M + i) (ps.getD i pd0) ∧ mI u 28 (M + i) = (spnL ps).getD i 0 ∧ (¬ d → l = 0 → mI u 36 (M + i) = fM (ps.getD i pd0) (if i + 1 < ps.length then (ps.getD (i + 1) pd0).1 else nl))
def PmR (u0 u : Mu) (d : Prop) (o nl a : Int) (ps : List Prt) (lt : Int × Int) : Prop := (FrM wPr u0 u ∧ Grw u0 u) ∧ (mI u 0 41 = 0 ∧ mI u 0 42 = -1 ∧ mI u 0 56 = (ps.length : Int) ∧ mI u 0 57 = o) ∧ mI u 0 19 ≤ mI u0 0 19 + a ∧ (mI u 0 58 = lt.1 ∧ (lt.1 ≠ 0 → mI u 0 59 = lt.2)) ∧ PmL u (mI u0 0 25) d nl ps lt.1
def PmB (u0 : Mu) : Prop := (0 ≤ mI u0 0 25 ∧ mI u0 0 25 ≤ 60000) ∧ 0 ≤ mI u0 0 19 ∧ mI u0 0 19 ≤ 82000
def FlM (u0 u : Mu) (k p en : Int) : Prop := (FrM wPr u0 u ∧ Grw u0 u) ∧ (mI u 0 41 = k ∧ mI u 0 42 = p ∧ 0 < k) ∧ mI u 0 19 ≤ mI u0 0 19 + en
/-- w has one part more than u, and letters behind -/
def AdQ (u w : Mu) (q : Int) : Prop := (∀ k i, ¬ (i = q ∧ 26 ≤ k ∧ k ≤ 37) → ¬ (k = 0 ∧ (i = 56 ∨ i = 19)) → ¬ (k = 18 ∧ mI u 0 19 ≤ i) → mI w k i = mI u k i) ∧ (∀ k i, ¬ (i = q ∧ k = 29) → mG w k i = mG u k i) ∧ mI w 0 56 = mI u 0 56 + 1 ∧ mI u 0 19 ≤ mI w 0 19
theorem k_rng {k : Nat} (h1 : 26 ≤ k) (h2 : k ≤ 37) : (k, (none : Option Int)) ∈ wPr := by
  have : k = 26 ∨ k = 27 ∨ k = 28 ∨ k = 29 ∨ k = 30 ∨ k = 31 ∨ k = 32 ∨ k = 33 ∨ k = 34 ∨ k = 35 ∨ k = 36 ∨ k = 37 := by omega
  rcases this with rfl | rfl | rfl | rfl | rfl | rfl | rfl | rfl | rfl | rfl | rfl | rfl <;> decide
theorem AdQ_tr {u w x : Mu} {q : Int} (h : AdQ u w q) (k : OnQ w x q) : AdQ u x q := by
  obtain ⟨h1, h2, h3, h4⟩ := h
  refine ⟨fun a i n1 n2 n3 => (k.1 a i n1).trans (h1 a i n1 n2 n3), fun a i n => (k.2 a i n).trans (h2 a i n), ?_, ?_⟩
  · rw [k.1 0 56 (by omega)]; exact h3
  · rw [k.1 0 19 (by omega)]; exact h4
theorem AdQ_fr {u w : Mu} {q : Int} (h : AdQ u w q) : FrM wPr u w := by
  refine ⟨fun k i n => h.1 k i (fun c => n (wHas_a (k_rng c.2.1 c.2.2))) (fun c => ?_) (fun c => ?_), fun k i n => h.2.1 k i (fun c => n (by rw [c.2]; exact wHas_a (by decide)))⟩
  · rcases c with ⟨rfl, rfl | rfl⟩
    · exact n (wHas_i (by decide))
    · exact n (wHas_i (by decide))
  · rw [c.1] at n; exact n (wHas_a (by decide))
theorem LetM_a {u w : Mu} {q x : Int} {bs : List Int} (h : AdQ u w q) (k : LetM u x bs) : LetM w x bs := by
  obtain ⟨k1, k2, k3⟩ := k
  refine ⟨k1, by have := h.2.2.2; omega, fun i hi => ?_⟩
  rw [h.1 18 (x + i) (by omega) (by omega) (by omega)]; exact k3 i hi
theorem PrR_a {u w : Mu} {q x : Int} {p : Prt} (h : AdQ u w q) (hx : x ≠ q) (k : PrR u x p) : PrR w x p := by
  obtain ⟨k0, k1, k2, k3, k4, k5, k6, k7, k8⟩ := k
  have e : ∀ m, 26 ≤ m → m ≤ 37 → mI w m x = mI u m x := fun m a b => h.1 m x (fun c => hx c.1) (by omega) (by omega)
  have e29 := h.2.1 29 x (fun c => hx c.1)
  refine ⟨k0, by rw [e 26 (by omega) (by omega)]; exact k1, by rw [e 27 (by omega) (by omega)]; exact k2, ?_, by rw [e 32 (by omega) (by omega)]; exact k4, by rw [e 33 (by omega) (by omega)]; exact k5, by rw [e 34 (by omega) (by omega)]; exact k6, by rw [e 35 (by omega) (by omega)]; exact k7, by rw [e 37 (by omega) (by omega)]; exact k8⟩
  revert k3
  unfold PliM
  cases p.2.2.1 with
  | none => rintro ⟨g1, g2, g3⟩; exact ⟨e29.trans g1, (e 30 (by omega) (by omega)).trans g2, (e 31 (by omega) (by omega)).trans g3⟩
  | some l => rintro ⟨g1, g2, g3⟩; exact ⟨e29.trans g1, (e 31 (by omega) (by omega)).trans g2, by rw [e 30 (by omega) (by omega)]; exact LetM_a h g3⟩
theorem fM_n2 {p : Prt} {a b : Int} (h : (isRC a ↔ isRC b) ∨ p.1 ≠ 16) : fM p a = fM p b := by
  unfold fM
  by_cases c : p.1 = 16
  · rw [if_pos c, if_pos c]
    rcases h with h | h
    · unfold isRC at h
      by_cases d : a = 29 ∨ a = 30
      · rw [if_pos d, if_pos (h.mp d)]
      · rw [if_neg d, if_neg (fun e => d (h.mpr e))]
    · exact absurd c h
  · rw [if_neg c, if_neg c]
theorem PmR_add {u0 u v : Mu} {d : Prop} {o nl nl' a a2 : Int} {ps : List Prt} {lt : Int × Int} {p : Prt} (B : PmB u0) (R : PmR u0 u d o nl a ps lt) (A : AdQ u v (mI u0 0 25 + ps.length)) (hp : PrR v (mI u0 0 25 + ps.length) p) (h28 : mI v 28 (mI u0 0 25 + ps.length) = spE (ps ++ [p])) (h36 : ¬ d → lt.1 = 0 → mI v 36 (mI u0 0 25 + ps.length) = fM p nl') (hnl : ¬ d → lt.1 = 0 → (isRC nl ↔ isRC p.1) ∨ lastO ps ≠ 16) (h19 : mI v 0 19 ≤ mI u0 0 19 + a2) : PmR u0 v d o nl' a2 (ps ++ [p]) lt := by
  obtain ⟨⟨R1, R2⟩, ⟨R3, R4, R5, R6⟩, R7, ⟨R8, R9⟩, R10⟩ := R
  obtain ⟨⟨B1, B2⟩, B3, B4⟩ := B
  obtain ⟨A1, A2, A3, A4⟩ := id A
  have lnn : (0 : Int) ≤ ps.length := by omega
  refine ⟨⟨FrM_tr R1 (AdQ_fr A), ?_⟩, ⟨?_, ?_, ?_, ?_⟩, h19, ⟨?_, fun n => ?_⟩, fun i hi => ?_⟩
  · obtain ⟨⟨g1, g2, g3, g4⟩, g5, g6, g7⟩ := R2
    refine ⟨⟨g1, by omega, ?_, ?_⟩, fun i i0 i1 => ?_, fun i i0 i1 => ?_, fun i i0 i1 => ⟨?_, fun k k0 k1 => ?_⟩⟩
    · rw [A1 0 24 (by omega) (by omega) (by omega)]; exact g3
    · rw [A1 0 25 (by omega) (by omega) (by omega)]; exact g4
    · rw [A1 18 i (by omega) (by omega) (by omega)]; exact g5 i i0 i1
    · rw [A1 20 i (by omega) (by omega) (by omega), A1 22 i (by omega) (by omega) (by omega), A1 23 i (by omega) (by omega) (by omega), A2 21 i (by omega)]; exact g6 i i0 i1
    · rw [A2 29 i (by omega)]; exact (g7 i i0 i1).1
    · rw [A1 k i (by omega) (by omega) (by omega)]; exact (g7 i i0 i1).2 k k0 k1
  · rw [A1 0 41 (by omega) (by omega) (by omega)]; exact R3
  · rw [A1 0 42 (by omega) (by omega) (by omega)]; exact R4
  · rw [A3, R5, List.length_append, List.length_singleton]; omega
  · rw [A1 0 57 (by omega) (by omega) (by omega)]; exact R6
  · rw [A1 0 58 (by omega) (by omega) (by omega)]; exact R8
  · rw [A1 0 59 (by omega) (by omega) (by omega)]; exact R9 n
  · rw [List.length_append, List.length_singleton] at hi ⊢
    by_cases c : i < ps.length
    · obtain ⟨t1, t2, t3⟩ := R10 i c
      rw [gP_l c, spnL_pre ps [p] c]
      refine ⟨PrR_a A (by omega) t1, ?_, fun nd l0 => ?_⟩
      · rw [A1 28 _ (by omega) (by omega) (by omega)]; exact t2
      · rw [A1 36 _ (by omega) (by omega) (by omega), t3 nd l0]
        by_cases c2 : i + 1 < ps.length
        · rw [if_pos c2, if_pos (by omega), gP_l c2]
        · have ei : i + 1 = ps.length := by omega
          rw [if_neg c2, if_pos (by omega), ei, gP_e]
          refine fM_n2 ?_
          rcases hnl nd l0 with q | q
          · exact Or.inl q
          · refine Or.inr ?_
            unfold lastO at q
            rw [show i = ps.length - 1 by omega]; exact q
    · have ei : i = ps.length := by omega
      rw [ei, gP_e]
      refine ⟨hp, ?_, fun nd l0 => ?_⟩
      · rw [h28]; unfold spE; rw [List.length_append, List.length_singleton, Nat.add_sub_cancel]
      · rw [if_neg (by omega)]; exact h36 nd l0
/-- what a new part is -/
def NwP (v : Mu) (q κ n s : Int) : Prop := mI v 26 q = κ ∧ mI v 27 q = n ∧ mI v 28 q = s ∧ mG v 29 q = 0 ∧ mI v 30 q = 0 ∧ mI v 31 q = 0 ∧ (mI v 32 q = -1 ∧ mI v 33 q = -1 ∧ mI v 34 q = -1 ∧ mI v 35 q = -1) ∧ mI v 36 q = 0 ∧ mI v 37 q = -1
theorem i_prt {u0 u : Mu} {d : Prop} {o nl a : Int} {ps : List Prt} {lt : Int × Int} {κ : Int} {n : Nat} {P : Int → Mu → Prop} (B : PmB u0) (R : PmR u0 u d o nl a ps lt) (hl : ps.length ≤ 400) (hn : n ≤ 400) (hz : ps.length = 0 → n = 0) (hs : 1 + undS (spnL ps) n ((ps.length : Int) - 1) ≤ ps.length + 1) (h : ∀ v, AdQ u v (mI u0 0 25 + ps.length) → NwP v (mI u0 0 25 + ps.length) κ (n : Int) (1 + undS (spnL ps) n ((ps.length : Int) - 1)) → mI v 0 19 = mI u 0 19 → P (mI u0 0 25 + ps.length) v) : F_X12_part κ (n : Int) u P := by
  obtain ⟨⟨R1, R2⟩, ⟨R3, R4, R5, R6⟩, R7, ⟨R8, R9⟩, R10⟩ := R
  obtain ⟨⟨B1, B2⟩, B3, B4⟩ := B
  have e25 : mI u 0 25 = mI u0 0 25 := mE R1 (R := [(0, some 25)]) (by decide) (wHas_i (by decide))
  generalize hM : mI u0 0 25 = M at *
  unfold F_X12_part
  rw [if_pos (by omega), e25, R5, w32e (x := (ps.length : Int) + 1) (by omega) (by omega), w32e (x := M + ps.length) (by omega) (by omega)]
  have wl : ∀ m : Nat, m < n → 0 ≤ wlk (spnL ps) m ((ps.length : Int) - 1) := by
    intro m hm
    rw [undS_w] at hs
    have key : ∀ j : Nat, m + 1 + j ≤ n → wlk (spnL ps) (m + 1 + j) ((ps.length : Int) - 1) ≤ wlk (spnL ps) (m + 1) ((ps.length : Int) - 1) := by
      intro j
      induction j with
      | zero => intro _; exact Int.le_refl _
      | succ j ih => intro hj; rw [show m + 1 + (j + 1) = m + 1 + j + 1 by omega, wlk_s]; have := ih (by omega); have := spn_nn ps (wlk (spnL ps) (m + 1 + j) ((ps.length : Int) - 1)).toNat; omega
    by_cases c : 0 ≤ wlk (spnL ps) m ((ps.length : Int) - 1)
    · exact c
    · exfalso
      have k1 := key (n - (m + 1)) (by omega)
      rw [show m + 1 + (n - (m + 1)) = n by omega, wlk_s, show (wlk (spnL ps) m ((ps.length : Int) - 1)).toNat = 0 by omega] at k1
      have := spn_pos ps 0 (by omega)
      omega
  rintro _ rfl
  refine ⟨by omega, by omega, ?_⟩
  rintro _ rfl
  refine ⟨by omega, by omega, ?_⟩
  rintro _ rfl
  have o2 : OnQ (uI u 0 56 ((ps.length : Int) + 1)) (uI (uI (uI u 0 56 ((ps.length : Int) + 1)) 26 (M + ps.length) κ) 27 (M + ps.length) (n : Int)) (M + ps.length) := OnQ_uI (OnQ_uI OnQ_rf (by decide) (by decide)) (by decide) (by decide)
  have v26 : mI (uI (uI (uI u 0 56 ((ps.length : Int) + 1)) 26 (M + ps.length) κ) 27 (M + ps.length) (n : Int)) 26 (M + ps.length) = κ := by simp [mI_uI]
  have v27 : mI (uI (uI (uI u 0 56 ((ps.length : Int) + 1)) 26 (M + ps.length) κ) 27 (M + ps.length) (n : Int)) 27 (M + ps.length) = n := by simp [mI_uI]
  generalize uI (uI (uI u 0 56 ((ps.length : Int) + 1)) 26 (M + ps.length) κ) 27 (M + ps.length) (n : Int) = y at o2 v26 v27
  have y28 : ∀ i : Nat, i < ps.length → mI y 28 (M + i) = (spnL ps).getD i 0 := fun i hi => by
    rw [o2.1 28 (M + i) (by omega), mI_uI, if_neg (by omega)]; exact (R10 i hi).2.1
  unfold F_X12_part_54
  rw [w32e (x := M + ps.length - 1) (by omega) (by omega)]
  refine lp_I (S := Int × Int × Int) (fun s => ∃ m : Nat, m ≤ n ∧ s.2.2 = (m : Int) ∧ s.2.1 = M + wlk (spnL ps) m ((ps.length : Int) - 1) ∧ s.1 = 1 + undS (spnL ps) m ((ps.length : Int) - 1)) (fun s => ((n : Int) - s.2.2).toNat) ?_ (1, M + ps.length - 1, 0) ⟨0, by omega, rfl, by show M + (ps.length : Int) - 1 = M + wlk _ 0 _; rw [wlk]; omega, by show (1 : Int) = 1 + undS _ 0 _; rw [undS]; rfl⟩
  rintro G ⟨x4, x5, x6⟩ ⟨m, m0, m1, m2, m3⟩ ih
  simp only at m1 m2 m3
  unfold L_X12_part_54
  dsimp only
  have ub : undS (spnL ps) m ((ps.length : Int) - 1) = (ps.length : Int) - 1 - wlk (spnL ps) m ((ps.length : Int) - 1) := undS_w _ _ _
  by_cases c : (n : Int) ≤ x6
  · rw [if_pos c]
    have em : m = n := by omega
    subst em
    rw [m3]
    show (0 ≤ M + (ps.length : Int) ∧ _)
    refine ⟨by omega, by omega, ?_⟩
    rintro _ rfl
    refine ⟨by omega, by omega, ?_⟩
    rintro _ rfl
    refine ⟨by omega, by omega, ?_⟩
    rintro _ rfl
    refine ⟨by omega, by omega, ?_⟩
    rintro _ rfl
    refine ⟨by omega, by omega, ?_⟩
    rintro _ rfl
    refine ⟨by omega, by omega, ?_⟩
    rintro _ rfl
    refine ⟨by omega, by omega, ?_⟩
    rintro _ rfl
    refine ⟨by omega, by omega, ?_⟩
    rintro _ rfl
    refine ⟨by omega, by omega, ?_⟩
    rintro _ rfl
    refine ⟨by omega, by omega, ?_⟩
    rintro _ rfl
    refine h _ ?_ ?_ ?_
    · refine ⟨fun k i n1 n2 n3 => ?_, fun k i n1 => ?_, ?_, ?_⟩
      · have e1 : ∀ m x, (26 ≤ m ∧ m ≤ 37) → ∀ z : Mu, mI (uI z m (M + ps.length) x) k i = mI z k i := fun m x hm z => by rw [mI_uI, if_neg (by omega)]
        rw [e1 37 _ (by decide), e1 36 _ (by decide), e1 35 _ (by decide), e1 34 _ (by decide), e1 33 _ (by decide), e1 32 _ (by decide), e1 31 _ (by decide), e1 30 _ (by decide)]
        rw [mI_uG, e1 28 _ (by decide), o2.1 k i n1, mI_uI, if_neg (by omega)]
      · show mG (uG (uI y 28 _ _) 29 _ 0) k i = _
        rw [mG_uG, if_neg (by omega)]
        show mG y k i = _
        rw [o2.2 k i n1]; rfl
      · simp [mI_uI]
        rw [mI_uG, mI_uI, if_neg (by omega), o2.1 0 56 (by omega), mI_uI, if_pos ⟨rfl, rfl⟩, R5]
      · simp [mI_uI]
        rw [mI_uG, mI_uI, if_neg (by omega), o2.1 0 19 (by omega), mI_uI, if_neg (by omega)]
        exact Int.le_refl _
    · refine ⟨?_, ?_, ?_, ?_, ?_, ?_, ⟨?_, ?_, ?_, ?_⟩, ?_, ?_⟩
      · simp [mI_uI]; rw [mI_uG, mI_uI, if_neg (by omega)]; exact v26
      · simp [mI_uI]; rw [mI_uG, mI_uI, if_neg (by omega)]; exact v27
      · simp [mI_uI]; rw [mI_uG, mI_uI, if_pos ⟨rfl, rfl⟩]
      · show mG (uG (uI y 28 _ _) 29 _ 0) 29 _ = 0; rw [mG_uG, if_pos ⟨rfl, rfl⟩]
      · simp [mI_uI]
      · simp [mI_uI]
      · simp [mI_uI]
      · simp [mI_uI]
      · simp [mI_uI]
      · simp [mI_uI]
      · simp [mI_uI]
      · simp [mI_uI]
    · simp [mI_uI]
      rw [mI_uG, mI_uI, if_neg (by omega), o2.1 0 19 (by omega), mI_uI, if_neg (by omega)]
  · rw [if_neg c]
    have b := wl m (by omega)
    have bl : wlk (spnL ps) m ((ps.length : Int) - 1) ≤ (ps.length : Int) - 1 := wlk_le ps m _
    have e28 := y28 (wlk (spnL ps) m ((ps.length : Int) - 1)).toNat (by omega)
    rw [Int.toNat_of_nonneg b] at e28
    have hsn := spn_nn ps (wlk (spnL ps) m ((ps.length : Int) - 1)).toNat
    have wn : 0 ≤ (ps.length : Int) + 1 := by omega
    have ws := wlk_s (spnL ps) m ((ps.length : Int) - 1)
    have wb2 : -1 ≤ wlk (spnL ps) (m + 1) ((ps.length : Int) - 1) := by
      by_cases c2 : m + 1 < n
      · have := wl (m + 1) c2; omega
      · have : m + 1 = n := by omega
        rw [this]; rw [undS_w] at hs; omega
    refine ⟨by omega, by omega, ?_⟩
    rw [m2, e28, w32e (x := x4 + _) (by omega) (by omega), w32e (x := M + _ - _) (by omega) (by omega), w32e (x := x6 + 1) (by omega) (by omega)]
    exact ih _ ⟨m + 1, by omega, by show x6 + 1 = _; omega, by show M + _ - _ = M + _; omega, by show x4 + _ = 1 + _; rw [undS_w, ws]; omega⟩ (by show ((n : Int) - (x6 + 1)).toNat < ((n : Int) - x6).toNat; omega)
