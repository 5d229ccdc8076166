/-! ===== the reference reads calls ===== -/
theorem RowE_s {t : Tx} {S : SS} {u0 : Mu} {n : Nat} (G : PgO t S (pg t S n)) (HS : RowS t S u0 n) (HL : RowL t S u0 n) : RowE t S u0 (n + 1) := by
  intro l l1 l5 d o st N ho hN gd u P R h
  have er : (pg t S (n + 1)).1 (l : Int) o st = bEx (pg t S n) l o st := rfl
  rw [er] at gd h
  unfold bEx at gd h
  generalize hr1 : (pg t S n).2.1 o st = r1 at gd h
  have gd1 : gdP ((pg t S n).2.1 o st) := by rw [hr1]; exact gd_rb gd
  have h0 := R.2.2.1.1.1
  by_cases e5 : l = 5
  · subst e5
    show F_X12_readSign N u P
    refine HS d o st N ho (by omega) gd1 u P R (fun v hv => h v ?_)
    rw [hr1] at hv
    cases r1 with
    | inl e => exact hv
    | inr s1 =>
      cases n with
      | zero => cases hr1
      | succ n' =>
        show PoR t u0 d o (bLo t (pg t S n') _ o false s1) v
        unfold bLo
        rw [if_pos ?_]
        · exact hv
        · by_cases z : sgO t s1.1 = 0
          · exact Or.inl z
          · have := bnd_b (sg_r z)
            exact Or.inr (Or.inl (by omega))
  · have key : F_X12_readSign (N + l - 5) u (fun v => chn (fun b => N + l - 5 + (4 - b)) l 4 v P) := by
      refine HS d o st (N + l - 5) ho (by omega) gd1 u _ R (fun v hv => ?_)
      rw [hr1] at hv
      cases r1 with
      | inl e =>
        have fv : 0 < mI v 0 41 := by have := hv.2.1; omega
        exact chn_F fv (h v hv) 4
      | inr s1 =>
        obtain ⟨q1, q2⟩ := G.2.1 o st s1 R.2.2.1 hr1
        replace h : ∀ v, PoR t u0 d o ((pg t S n).2.2.1 (l : Int) o false s1) v → P v := h
        have gd2 : gdP ((pg t S n).2.2.1 (l : Int) o false s1) := gd_rk gd rfl
        have pr := PrP_to (S := S) q1 (by omega) R.2.2.2 hv.1 hv.2
        have sb : sgO t s1.1 = 0 ∨ bnd (sgO t s1.1) ≤ ((4 : Nat) : Int) := by
          by_cases z : sgO t s1.1 = 0
          · exact Or.inl z
          · have := bnd_b (sg_r z)
            exact Or.inr (by omega)
        have hL := HL l 4 l1 (by omega) (Nat.le_refl 4) d o s1 st.2.1 (fun b => N + l - 5 + (4 - b)) ho (fun b b1 b4 => by show 10 * (20 - o) + (8 - (b : Int)) ≤ ((N + l - 5 + (4 - b) : Nat) : Int); omega) q1.1.1 q1.1.2 sb gd2 v P pr h
        exact RowL_c (t := t) (k := s1.1) (Nf := fun b => N + l - 5 + (4 - b)) l1 (by omega) hL
    have hl4 : l = 1 ∨ l = 2 ∨ l = 3 ∨ l = 4 := by omega
    rcases hl4 with rfl | rfl | rfl | rfl
    · obtain ⟨M, rfl⟩ : ∃ M, N = M + 4 := ⟨N - 4, by omega⟩
      rw [show M + 4 + 1 - 5 = M by omega] at key
      exact rdL_1 key
    · obtain ⟨M, rfl⟩ : ∃ M, N = M + 3 := ⟨N - 3, by omega⟩
      rw [show M + 3 + 2 - 5 = M by omega] at key
      exact rdL_2 key
    · obtain ⟨M, rfl⟩ : ∃ M, N = M + 2 := ⟨N - 2, by omega⟩
      rw [show M + 2 + 3 - 5 = M by omega] at key
      exact rdL_3 key
    · obtain ⟨M, rfl⟩ : ∃ M, N = M + 1 := ⟨N - 1, by omega⟩
      rw [show M + 1 + 4 - 5 = M by omega] at key
      exact rdL_4 key
theorem i_many {op : Int} {P : Int → Prop} (hy : 19 ≤ op ∧ op ≤ 24 → P 1) (hn : ¬ (19 ≤ op ∧ op ≤ 24) → P 0) : F_X12_isMany (op + 12) P := by
  unfold F_X12_isMany
  refine i_in ?_
  refine ⟨tb_z, ?_⟩
  by_cases c : 31 ≤ op + 12 ∧ op + 12 ≤ 36
  · rw [tb, if_pos c]; exact hy (by omega)
  · rw [tb, if_neg c]; exact hn (by omega)
theorem i_lstA {op : Int} {P : Int → Prop} (ho : 18 ≤ op ∧ op ≤ 35) (h : P (argL op)) : F_X12_leastArgs (op + 12) P := by
  unfold F_X12_leastArgs F_X12_leastArgs_28 F_X12_leastArgs_33
  unfold argL at h
  rw [if_neg (by omega), if_neg (by omega), if_neg (by omega)] at h
  by_cases c : op = 18
  · rw [if_pos (by omega)]; rw [if_pos c] at h; exact h
  · rw [if_neg (by omega)]; rw [if_neg c] at h
    refine i_many (fun q => ?_) (fun q => ?_)
    · rw [if_neg (by decide)]; rw [if_pos (by omega)] at h; exact h
    · rw [if_pos rfl]
      refine i_in ?_
      by_cases e : 37 ≤ op + 12 ∧ op + 12 ≤ 42
      · rw [tb, if_pos e, if_neg (by decide)]; rw [if_pos (by omega)] at h; exact h
      · rw [tb, if_neg e, if_pos rfl]; rw [if_neg (by omega)] at h; exact h
theorem i_most {op : Int} {P : Int → Prop} (ho : 18 ≤ op ∧ op ≤ 35) (h : P (argM op)) : F_X12_mostArgs (op + 12) P := by
  unfold F_X12_mostArgs F_X12_mostArgs_16
  refine i_many (fun q => ?_) (fun q => ?_)
  · rw [if_neg (by decide)]
    unfold argM at h
    rw [if_neg (by omega), if_neg (by omega), if_neg (by omega), if_neg (by omega), if_pos (by omega)] at h
    exact h
  · rw [if_pos rfl]
    refine i_lstA ho ?_
    have : argL op = argM op := by unfold argL argM; (repeat' split) <;> omega
    rw [this]; exact h
theorem kM_i {p : Prt} (h : (1 ≤ p.1 ∧ p.1 ≤ 35) ∧ (p.1 = 14 → ∃ l, p.2.2.1 = some l ∧ 1 ≤ l.1 ∧ l.1 ≤ 3)) : (kM p = 5 ↔ p.1 = 16) ∧ (kM p = 6 ↔ p.1 = 17) ∧ (kM p = 4 ↔ p.1 = 15) := by
  obtain ⟨h1, h2⟩ := h
  unfold kM
  by_cases c : p.1 = 14
  · obtain ⟨l, e, l1, l3⟩ := h2 c
    rw [if_pos c, e]
    simp only
    omega
  · rw [if_neg c]
    repeat' split
    all_goals omega
theorem bit16 : ∀ a : Nat, a ≤ 3 → bOr (a : Int) 16 = (a : Int) + 16 := by
  intro a ha
  have h1 : a = 0 ∨ a = 1 ∨ a = 2 ∨ a = 3 := by omega
  rcases h1 with rfl | rfl | rfl | rfl <;> decide
theorem i_arg {u0 u : Mu} {D : Prop} {o nl a op : Int} {j : Nat} {ps : List Prt} {lt : Int × Int} {P : Int → Mu → Prop} (B : PmB u0) (R : PmR u0 u D o nl a ps lt) (h0 : 0 < ps.length) (hl : ps.length ≤ 400) (ho : 18 ≤ op ∧ op ≤ 35) (hy : ∀ v, (v = u ∨ (isRC op ∧ lastO ps = 16 ∧ v = uI u 36 (mI u0 0 25 + ps.length - 1) (bOr (mI u 36 (mI u0 0 25 + ps.length - 1)) 16))) → (isRC op → lastO ps = 16 → v = uI u 36 (mI u0 0 25 + ps.length - 1) (bOr (mI u 36 (mI u0 0 25 + ps.length - 1)) 16)) → stdP op j (lastO ps) → P 1 v) (hn : ¬ stdP op j (lastO ps) → P 0 u) : F_X12_isArg (op + 12) (j : Int) (mI u0 0 25 + ps.length - 1) u P := by
  have hM := B.1
  obtain ⟨p0, p1, -⟩ := (R.2.2.2.2 (ps.length - 1) (by omega)).1
  rw [show mI u0 0 25 + ((ps.length - 1 : Nat) : Int) = mI u0 0 25 + (ps.length : Int) - 1 by omega] at p1
  have ki := kM_i p0
  rw [← p1] at ki
  have el : (ps.getD (ps.length - 1) pd0).1 = lastO ps := rfl
  rw [el] at ki
  generalize hq : mI u0 0 25 + (ps.length : Int) - 1 = q at *
  generalize hx : mI u 26 q = x at *
  generalize hc : lastO ps = cp at *
  unfold F_X12_isArg F_X12_isArg_29 F_X12_isArg_50 F_X12_isArg_62 F_X12_isArg_67 F_X12_isArg_80 F_X12_isArg_84 F_X12_isArg_95 F_X12_isArg_99 F_X12_isArg_100 F_X12_isArg_120 F_X12_isArg_140
  rw [hx]
  have nrc : ¬ isRC op → ∀ v, v = u → (v = u ∨ (isRC op ∧ cp = 16 ∧ v = uI u 36 q (bOr (mI u 36 q) 16))) ∧ (isRC op → cp = 16 → v = uI u 36 q (bOr (mI u 36 q) 16)) := fun n v e => ⟨Or.inl e, fun r => absurd r n⟩
  refine ⟨by omega, by omega, i_many (fun c => ?_) (fun c => ?_)⟩
  · rw [if_neg (by decide)]
    have n : ¬ isRC op := by unfold isRC; omega
    exact hy u (nrc n u rfl).1 (nrc n u rfl).2 (Or.inl c)
  · rw [if_pos rfl]
    by_cases rc : isRC op
    · have go : (if x = 5 then (0 ≤ q ∧ q < 60420 ∧ (∀ u_49, u_49 = uI u 36 q (bOr (mI u 36 q) 16) → (if x = 5 then (Z1 1 ∧ P 1 u_49) else (if x = 4 then (Z1 1 ∧ P 1 u_49) else (Z1 0 ∧ P 0 u_49))))) else (if x = 5 then (Z1 1 ∧ P 1 u) else (if x = 4 then (Z1 1 ∧ P 1 u) else (Z1 0 ∧ P 0 u)))) := by
        by_cases c5 : x = 5
        · rw [if_pos c5]
          refine ⟨by omega, by omega, ?_⟩
          rintro _ rfl
          rw [if_pos c5]
          have c16 := ki.1.mp c5
          refine ⟨z1_1, hy _ (Or.inr ⟨rc, c16, rfl⟩) (fun _ _ => rfl) (Or.inr (Or.inl ⟨rc, Or.inr c16⟩))⟩
        · rw [if_neg c5, if_neg c5]
          have n16 : cp ≠ 16 := fun e => c5 (ki.1.mpr e)
          by_cases c4 : x = 4
          · rw [if_pos c4]
            exact ⟨z1_1, hy u (Or.inl rfl) (fun _ e => absurd e n16) (Or.inr (Or.inl ⟨rc, Or.inl (ki.2.2.mp c4)⟩))⟩
          · rw [if_neg c4]
            have n15 : cp ≠ 15 := fun e => c4 (ki.2.2.mpr e)
            refine ⟨z1_0, hn ?_⟩
            unfold isRC at rc
            unfold stdP
            omega
      rcases rc with r29 | r30
      · rw [if_pos (by omega)]; exact go
      · rw [if_neg (by omega), if_pos (by omega)]; exact go
    · have nr : ¬ (op = 29 ∨ op = 30) := rc
      rw [if_neg (by omega), if_neg (by omega)]
      have ar1 : (((op = 33 ∨ op = 35) ∧ j = 0) ∨ (op = 34 ∧ j = 1)) → (if x = 6 then (Z1 1 ∧ P 1 u) else (if x = 4 then (Z1 1 ∧ P 1 u) else (Z1 0 ∧ P 0 u))) := by
        intro ha
        by_cases c6 : x = 6
        · rw [if_pos c6]
          exact ⟨z1_1, hy u (nrc rc u rfl).1 (nrc rc u rfl).2 (Or.inr (Or.inr (Or.inl ⟨ha, Or.inr (ki.2.1.mp c6)⟩)))⟩
        · rw [if_neg c6]
          have n17 : cp ≠ 17 := fun e => c6 (ki.2.1.mpr e)
          by_cases c4 : x = 4
          · rw [if_pos c4]
            exact ⟨z1_1, hy u (nrc rc u rfl).1 (nrc rc u rfl).2 (Or.inr (Or.inr (Or.inl ⟨ha, Or.inl (ki.2.2.mp c4)⟩)))⟩
          · rw [if_neg c4]
            have n15 : cp ≠ 15 := fun e => c4 (ki.2.2.mpr e)
            refine ⟨z1_0, hn ?_⟩
            unfold stdP
            omega
      have ar0 : ¬ (((op = 33 ∨ op = 35) ∧ j = 0) ∨ (op = 34 ∧ j = 1)) → (if x = 6 then (Z1 0 ∧ P 0 u) else (Z1 1 ∧ P 1 u)) := by
        intro ha
        by_cases c6 : x = 6
        · rw [if_pos c6]
          have c17 := ki.2.1.mp c6
          refine ⟨z1_0, hn ?_⟩
          unfold stdP
          omega
        · rw [if_neg c6]
          have n17 : cp ≠ 17 := fun e => c6 (ki.2.1.mpr e)
          exact ⟨z1_1, hy u (nrc rc u rfl).1 (nrc rc u rfl).2 (Or.inr (Or.inr (Or.inr ⟨nr, ha, n17⟩)))⟩
      by_cases d1 : op + 12 = 45
      · rw [if_pos d1]
        by_cases j0 : (j : Int) = 0
        · rw [if_pos j0, if_neg (by decide)]; exact ar1 (by omega)
        · rw [if_neg j0, if_neg (by omega), if_pos rfl]; exact ar0 (by omega)
      · rw [if_neg d1]
        by_cases d2 : op + 12 = 47
        · rw [if_pos d2]
          by_cases j0 : (j : Int) = 0
          · rw [if_pos j0, if_neg (by decide)]; exact ar1 (by omega)
          · rw [if_neg j0, if_neg (by omega), if_pos rfl]; exact ar0 (by omega)
        · rw [if_neg d2]
          by_cases d3 : op + 12 = 46
          · rw [if_pos d3]
            by_cases j1 : (j : Int) = 1
            · rw [if_pos j1, if_neg (by decide)]; exact ar1 (by omega)
            · rw [if_neg j1, if_pos rfl]; exact ar0 (by omega)
          · rw [if_neg d3, if_pos rfl]; exact ar0 (by omega)
theorem PmR_w {u0 u : Mu} {d d' : Prop} {o nl a a' : Int} {ps : List Prt} {lt : Int × Int} (R : PmR u0 u d o nl a ps lt) (ha : a ≤ a') (h : ¬ d' → ¬ d) : PmR u0 u d' o nl a' ps lt := PmR_fr (L := []) R FrM_rf (by decide) (by decide) ha R.2.1.2.2.2 R.2.2.2.1 (fun a b => ⟨h a, b⟩)
/-- with the mark of ROW and COL set at the last part -/
theorem PmR_16 {u0 u : Mu} {d : Prop} {o a op : Int} {ps : List Prt} {lt : Int × Int} (B : PmB u0) (R : PmR u0 u d o 0 a ps lt) (h0 : 0 < ps.length) (h16 : lastO ps = 16) (rc : isRC op) : PmR u0 (uI u 36 (mI u0 0 25 + ps.length - 1) (bOr (mI u 36 (mI u0 0 25 + ps.length - 1)) 16)) d o op a ps lt := by
  obtain ⟨⟨R1, R2⟩, ⟨R3, R4, R5, R6⟩, R7, ⟨R8, R9⟩, R10⟩ := R
  have hM := B.1
  generalize hq : mI u0 0 25 + (ps.length : Int) - 1 = q
  generalize hx : bOr (mI u 36 q) 16 = x
  have e : ∀ k i, ¬ (k = 36 ∧ i = q) → mI (uI u 36 q x) k i = mI u k i := fun k i n => by rw [mI_uI, if_neg n]
  refine ⟨⟨FrM_uI R1 (wHas_a (by decide)), ?_⟩, ⟨(e 0 41 (by omega)).trans R3, (e 0 42 (by omega)).trans R4, (e 0 56 (by omega)).trans R5, (e 0 57 (by omega)).trans R6⟩, by rw [e 0 19 (by omega)]; exact R7, ⟨(e 0 58 (by omega)).trans R8, fun n => (e 0 59 (by omega)).trans (R9 n)⟩, fun i hi => ?_⟩
  · obtain ⟨⟨g1, g2, g3, g4⟩, g5, g6, g7⟩ := R2
    refine ⟨⟨g1, by rw [e 0 19 (by omega)]; exact g2, by rw [e 0 24 (by omega)]; exact g3, by rw [e 0 25 (by omega)]; exact g4⟩, fun i i0 i1 => (e 18 i (by omega)).trans (g5 i i0 i1), fun i i0 i1 => ?_, fun i i0 i1 => ⟨(g7 i i0 i1).1, fun k k0 k1 => (e k i (by omega)).trans ((g7 i i0 i1).2 k k0 k1)⟩⟩
    rw [e 20 i (by omega), e 22 i (by omega), e 23 i (by omega)]; exact g6 i i0 i1
  · obtain ⟨t1, t2, t3⟩ := R10 i hi
    have le : ∀ x' bs, LetM u x' bs → LetM (uI u 36 q x) x' bs := fun x' bs k => ⟨k.1, by rw [e 0 19 (by omega)]; exact k.2.1, fun j hj => (e 18 _ (by omega)).trans (k.2.2 j hj)⟩
    refine ⟨?_, (e 28 _ (by omega)).trans t2, fun nd l0 => ?_⟩
    · obtain ⟨k0, k1, k2, k3, k4, k5, k6, k7, k8⟩ := t1
      refine ⟨k0, (e 26 _ (by omega)).trans k1, (e 27 _ (by omega)).trans k2, ?_, (e 32 _ (by omega)).trans k4, (e 33 _ (by omega)).trans k5, (e 34 _ (by omega)).trans k6, (e 35 _ (by omega)).trans k7, (e 37 _ (by omega)).trans k8⟩
      revert k3
      unfold PliM
      cases (ps.getD i pd0).2.2.1 with
      | none => rintro ⟨g1, g2, g3⟩; exact ⟨g1, (e 30 _ (by omega)).trans g2, (e 31 _ (by omega)).trans g3⟩
      | some l => rintro ⟨g1, g2, g3⟩; exact ⟨g1, (e 31 _ (by omega)).trans g2, by rw [e 30 _ (by omega)]; exact le _ _ g3⟩
    · have t4 := t3 nd l0
      by_cases c : i + 1 < ps.length
      · rw [e 36 _ (by omega), t4, if_pos c, if_pos c]
      · have ei : i = ps.length - 1 := by omega
        rw [if_neg c] at t4 ⊢
        have eq : mI u0 0 25 + (i : Int) = q := by omega
        rw [eq] at t4 ⊢
        rw [mI_uI, if_pos ⟨rfl, rfl⟩, ← hx, t4]
        have o16 : (ps.getD i pd0).1 = 16 := by rw [ei]; exact h16
        unfold fM
        rw [if_pos o16, if_pos o16, if_neg (by decide), if_pos (show op = 29 ∨ op = 30 from rc)]
        have sb := sw2_c (x := (ps.getD i pd0).2.2.2.2.1 % 4) (by omega) (by omega)
        have b16 := bit16 (sw2 ((ps.getD i pd0).2.2.2.2.1 % 4)).toNat (by omega)
        rw [Int.toNat_of_nonneg sb.1] at b16
        rw [show sw2 ((ps.getD i pd0).2.2.2.2.1 % 4) + 0 = sw2 ((ps.getD i pd0).2.2.2.2.1 % 4) by omega]
        exact b16
