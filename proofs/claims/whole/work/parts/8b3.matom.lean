/-! ===== what the reference reads: numbers, texts, places ===== -/
theorem Grw_t {u v x : Mu} (g : Grw u v) (k : Grw v x) : Grw u x := by
  obtain ⟨⟨g1, g2, g3, g4⟩, g5, g6, g7⟩ := g
  obtain ⟨⟨k1, k2, k3, k4⟩, k5, k6, k7⟩ := k
  refine ⟨⟨g1, by omega, by omega, by omega⟩, fun i a b => (k5 i a (by omega)).trans (g5 i a b), fun i a b => ?_, fun i a b => ⟨((k7 i a (by omega)).1).trans (g7 i a b).1, fun m m0 m1 => ((k7 i a (by omega)).2 m m0 m1).trans ((g7 i a b).2 m m0 m1)⟩⟩
  obtain ⟨p1, p2, p3, p4⟩ := k6 i a (by omega)
  obtain ⟨q1, q2, q3, q4⟩ := g6 i a b
  exact ⟨p1.trans q1, p2.trans q2, p3.trans q3, p4.trans q4⟩
theorem PrR_e {u v : Mu} {q : Int} {p : Prt} (e : ∀ m, 26 ≤ m → m ≤ 37 → mI v m q = mI u m q) (e29 : mG v 29 q = mG u 29 q) (eL : ∀ x bs, LetM u x bs → LetM v x bs) (k : PrR u q p) : PrR v q p := by
  obtain ⟨k0, k1, k2, k3, k4, k5, k6, k7, k8⟩ := k
  refine ⟨k0, by rw [e 26 (by omega) (by omega)]; exact k1, by rw [e 27 (by omega) (by omega)]; exact k2, ?_, by rw [e 32 (by omega) (by omega)]; exact k4, by rw [e 33 (by omega) (by omega)]; exact k5, by rw [e 34 (by omega) (by omega)]; exact k6, by rw [e 35 (by omega) (by omega)]; exact k7, by rw [e 37 (by omega) (by omega)]; exact k8⟩
  revert k3
  unfold PliM
  cases p.2.2.1 with
  | none => rintro ⟨g1, g2, g3⟩; exact ⟨e29.trans g1, (e 30 (by omega) (by omega)).trans g2, (e 31 (by omega) (by omega)).trans g3⟩
  | some l => rintro ⟨g1, g2, g3⟩; exact ⟨e29.trans g1, (e 31 (by omega) (by omega)).trans g2, by rw [e 30 (by omega) (by omega)]; exact eL _ _ g3⟩
def rPm : WR := [(0, some 41), (0, some 42), (0, some 56), (0, some 19), (18, none), (0, some 24), (0, some 25), (20, none), (21, none), (22, none), (23, none), (26, none), (27, none), (28, none), (29, none), (30, none), (31, none), (32, none), (33, none), (34, none), (35, none), (36, none), (37, none), (38, none)]
theorem rPm_k {k : Nat} (h1 : 26 ≤ k) (h2 : k ≤ 38) : (k, (none : Option Int)) ∈ rPm := by
  have : k = 26 ∨ k = 27 ∨ k = 28 ∨ k = 29 ∨ k = 30 ∨ k = 31 ∨ k = 32 ∨ k = 33 ∨ k = 34 ∨ k = 35 ∨ k = 36 ∨ k = 37 ∨ k = 38 := by omega
  rcases this with rfl | rfl | rfl | rfl | rfl | rfl | rfl | rfl | rfl | rfl | rfl | rfl | rfl <;> decide
theorem Grw_p {L : WR} {u v : Mu} (h0 : 0 ≤ mI u 0 19) (f : FrM L u v) (hd : wDis L rPm = true) : Grw u v := by
  have e1 := mE f hd (k := 0) (i := 19) (wHas_i (by decide))
  have e2 := mE f hd (k := 0) (i := 24) (wHas_i (by decide))
  have e3 := mE f hd (k := 0) (i := 25) (wHas_i (by decide))
  refine ⟨⟨h0, by omega, by omega, by omega⟩, fun i _ _ => mE f hd (wHas_a (by decide)), fun i _ _ => ⟨mE f hd (wHas_a (by decide)), gE f hd (wHas_a (by decide)), mE f hd (wHas_a (by decide)), mE f hd (wHas_a (by decide))⟩, fun i _ _ => ⟨gE f hd (wHas_a (by decide)), fun k h1 h2 => mE f hd (wHas_a (rPm_k h1 h2))⟩⟩
theorem PmR_fr {L : WR} {u0 u v : Mu} {d d' : Prop} {o o' nl a a' : Int} {ps : List Prt} {lt lt' : Int × Int} (R : PmR u0 u d o nl a ps lt) (f : FrM L u v) (hs : ∀ t ∈ L, t ∈ wPr) (hd : wDis L rPm = true) (ha : a ≤ a') (h57 : mI v 0 57 = o') (hlt : mI v 0 58 = lt'.1 ∧ (lt'.1 ≠ 0 → mI v 0 59 = lt'.2)) (hdd : ¬ d' → lt'.1 = 0 → ¬ d ∧ lt.1 = 0) : PmR u0 v d' o' nl a' ps lt' := by
  obtain ⟨⟨R1, R2⟩, ⟨R3, R4, R5, R6⟩, R7, ⟨R8, R9⟩, R10⟩ := R
  have e19 := mE f hd (k := 0) (i := 19) (wHas_i (by decide))
  have n19 : 0 ≤ mI u 0 19 := by have := R2.1; omega
  refine ⟨⟨FrM_tr R1 (FrM_sub f hs), Grw_t R2 (Grw_p n19 f hd)⟩, ⟨(mE f hd (wHas_i (by decide))).trans R3, (mE f hd (wHas_i (by decide))).trans R4, (mE f hd (wHas_i (by decide))).trans R5, h57⟩, by omega, hlt, fun i hi => ?_⟩
  obtain ⟨t1, t2, t3⟩ := R10 i hi
  refine ⟨PrR_e (fun m a b => mE f hd (wHas_a (rPm_k a (by omega)))) (gE f hd (wHas_a (by decide))) (fun x bs k => ⟨k.1, by rw [e19]; exact k.2.1, fun j hj => (mE f hd (wHas_a (by decide))).trans (k.2.2 j hj)⟩) t1, (mE f hd (wHas_a (by decide))).trans t2, fun nd l0 => ?_⟩
  obtain ⟨q1, q2⟩ := hdd nd l0
  exact (mE f hd (wHas_a (by decide))).trans (t3 q1 q2)
theorem PmR_tk {u0 u v : Mu} {d : Prop} {o nl a a' : Int} {ps : List Prt} {lt : Int × Int} (R : PmR u0 u d o nl a ps lt) (f : FrM wTk u v) (ha : a ≤ a') : PmR u0 v d o nl a' ps lt :=
  PmR_fr R f (by decide) (by decide) ha ((mE f (R := [(0, some 57)]) (by decide) (wHas_i (by decide))).trans R.2.1.2.2.2) ⟨(mE f (R := [(0, some 58)]) (by decide) (wHas_i (by decide))).trans R.2.2.2.1.1, fun n => (mE f (R := [(0, some 59)]) (by decide) (wHas_i (by decide))).trans (R.2.2.2.1.2 n)⟩ (fun a b => ⟨a, b⟩)
theorem i_fail {u0 u : Mu} {d : Prop} {o nl a k p en : Int} {ps : List Prt} {lt : Int × Int} {P : Mu → Prop} (R : PmR u0 u d o nl a ps lt) (hk : 0 < k) (ha : a ≤ en) (h : ∀ v, FlM u0 v k p en → P v) : F_X12_fail k p u P := by
  unfold F_X12_fail F_X12_fail_17
  rw [if_pos R.2.1.1]
  rintro _ rfl _ rfl
  have f : FrM [(0, some 41), (0, some 42)] u (uI (uI u 0 41 k) 0 42 p) := FrM_uI (FrM_uI FrM_rf (wHas_i (by decide))) (wHas_i (by decide))
  have n19 : 0 ≤ mI u 0 19 := by have := R.1.2.1; omega
  refine h _ ⟨⟨FrM_tr R.1.1 (FrM_sub f (by decide)), Grw_t R.1.2 (Grw_fr n19 f (by decide))⟩, ⟨by simp [mI_uI], by simp [mI_uI], by omega⟩, ?_⟩
  have : mI (uI (uI u 0 41 k) 0 42 p) 0 19 = mI u 0 19 := by simp [mI_uI]
  have := R.2.2.1
  omega
theorem ltU_0 {k p : Int} {s : Int × Int} (h : s.1 = 0 ∨ p < s.2) : ltU k p s = (k, p) := by unfold ltU; exact if_pos h
theorem ltU_1 {k p : Int} {s : Int × Int} (h : ¬ (s.1 = 0 ∨ p < s.2)) : ltU k p s = s := by unfold ltU; exact if_neg h
theorem i_lat {u0 u : Mu} {d d' : Prop} {o nl a k p : Int} {ps : List Prt} {lt : Int × Int} {P : Mu → Prop} (R : PmR u0 u d o nl a ps lt) (hk : k ≠ 0) (h : ∀ v, PmR u0 v d' o nl a ps (ltU k p lt) → FrM [(0, some 58), (0, some 59)] u v → P v) : F_X12_later k p u P := by
  obtain ⟨l1, l2⟩ := id R.2.2.2.1
  unfold F_X12_later F_X12_later_15 F_X12_later_25
  have st : lt.1 = 0 ∨ p < lt.2 → ∀ u_17, u_17 = uI u 0 58 k → (∀ u_22, u_22 = uI u_17 0 59 p → P u_22) := by
    rintro c _ rfl _ rfl
    have f : FrM [(0, some 58), (0, some 59)] u (uI (uI u 0 58 k) 0 59 p) := FrM_uI (FrM_uI FrM_rf (wHas_i (by decide))) (wHas_i (by decide))
    refine h _ (PmR_fr R f (by decide) (by decide) (Int.le_refl a) ((mE f (R := [(0, some 57)]) (by decide) (wHas_i (by decide))).trans R.2.1.2.2.2) ?_ ?_) f
    · rw [ltU_0 c]; exact ⟨by simp [mI_uI], fun _ => by simp [mI_uI]⟩
    · rw [ltU_0 c]; exact fun _ e => absurd e hk
  rw [l1]
  by_cases c : lt.1 = 0
  · rw [if_pos c]; exact st (Or.inl c)
  · rw [if_neg c, l2 c]
    by_cases c2 : lt.2 ≤ p
    · rw [if_pos c2]
      have nc : ¬ (lt.1 = 0 ∨ p < lt.2) := by omega
      refine h u ?_ FrM_rf
      rw [ltU_1 nc]
      exact PmR_fr (L := []) R FrM_rf (by decide) (by decide) (Int.le_refl a) R.2.1.2.2.2 ⟨l1, l2⟩ (fun _ e => absurd e c)
    · rw [if_neg c2]; exact st (Or.inr (by omega))
theorem i_numF {t : Tx} {u : Mu} {k e : Int} {P : Int → Prop} (C : CxM t u) (h0 : 0 ≤ k) (h1 : k ≤ e) (h2 : e ≤ t.2.1) (h15 : e - k ≤ 15) (hd : ∀ j, k ≤ j → j < e → dgB (bt t j) = true) (h : P (numV t (e - k).toNat k 0)) : F_X12_numberFrom k e u P := by
  have b3 := C.2.1
  unfold F_X12_numberFrom F_X12_numberFrom_5
  refine lp_I (S := Int × Int) (fun s => (k ≤ s.2 ∧ s.2 ≤ e) ∧ numV t (e - s.2).toNat s.2 s.1 = numV t (e - k).toNat k 0 ∧ 0 ≤ s.1 ∧ s.1 < 10 ^ (s.2 - k).toNat) (fun s => (e - s.2).toNat) ?_ (0, k) ⟨⟨Int.le_refl k, h1⟩, rfl, Int.le_refl 0, by show (0 : Int) < 10 ^ (k - k).toNat; rw [show (k - k).toNat = 0 by omega]; decide⟩
  rintro G ⟨x3, x5⟩ ⟨⟨a, b⟩, ev, p0, p1⟩ ih
  simp only at a b ev p0 p1
  unfold L_X12_numberFrom_5
  dsimp only
  by_cases c : e ≤ x5
  · rw [if_pos c]
    rw [show (e - x5).toNat = 0 by omega, numV] at ev
    show P x3
    rw [ev]; exact h
  · rw [if_neg c]
    have dd := dgB_i.mp (hd x5 a (by omega))
    unfold dgP at dd
    have bi := bt_is (t := t) (k := x5) (by omega) (by omega)
    have p15 := pow15 (x5 - k).toNat (by omega)
    refine ⟨by omega, by omega, ?_⟩
    rw [(C.2.2 x5 (by omega) (by omega)).1, ← bi, w64e (x := 10 * x3) (by omega) (by omega), w64e (x := 10 * x3 + bt t x5) (by omega) (by omega), w64e (x := 10 * x3 + bt t x5 - 48) (by omega) (by omega), w32e (x := x5 + 1) (by omega) (by omega), show 10 * x3 + bt t x5 - 48 = x3 * 10 + bt t x5 - 48 by omega]
    refine ih (x3 * 10 + bt t x5 - 48, x5 + 1) ⟨⟨by show k ≤ x5 + 1; omega, by show x5 + 1 ≤ e; omega⟩, ?_, by show 0 ≤ x3 * 10 + bt t x5 - 48; omega, ?_⟩ (by show (e - (x5 + 1)).toNat < (e - x5).toNat; omega)
    · rw [← ev, show (e - x5).toNat = (e - (x5 + 1)).toNat + 1 by omega, numV]
    · show x3 * 10 + bt t x5 - 48 < 10 ^ (x5 + 1 - k).toNat
      rw [show (x5 + 1 - k).toNat = (x5 - k).toNat + 1 by omega, Int.pow_succ]; omega
theorem i_kept {t : Tx} {u : Mu} {x1 x2 : Int} {P : Int → Mu → Prop} (C : CxM t u) (h0 : 0 ≤ x1) (h1 : x1 ≤ x2) (h2 : x2 ≤ t.2.1) (hp : ∀ j, x1 ≤ j → j < x2 → plB (bt t j) = true) (b0 : 0 ≤ mI u 0 19) (b1 : mI u 0 19 + (x2 - x1) ≤ 82400) (h : ∀ v, (∀ k i, ¬ (k = 0 ∧ i = 19) → ¬ (k = 18 ∧ mI u 0 19 ≤ i) → mI v k i = mI u k i) → (∀ k i, mG v k i = mG u k i) → mI v 0 19 = mI u 0 19 + (x2 - x1) → LetM v (mI u 0 19) (subL t x1 (x2 - x1).toNat) → P (mI u 0 19) v) : F_X12_kept x1 x2 u P := by
  have b3 := C.2.1
  unfold F_X12_kept F_X12_kept_8
  generalize hN : mI u 0 19 = N at *
  refine lp_I (S := Int × Mu) (fun s => (x1 ≤ s.1 ∧ s.1 ≤ x2) ∧ (∀ k i, ¬ (k = 0 ∧ i = 19) → ¬ (k = 18 ∧ N ≤ i) → mI s.2 k i = mI u k i) ∧ (∀ k i, mG s.2 k i = mG u k i) ∧ mI s.2 0 19 = N + (s.1 - x1) ∧ ∀ j : Nat, (j : Int) < s.1 - x1 → mI s.2 18 (N + j) = bt t (x1 + j)) (fun s => (x2 - s.1).toNat) ?_ (x1, u) ⟨⟨Int.le_refl x1, h1⟩, fun _ _ _ _ => rfl, fun _ _ => rfl, by show mI u 0 19 = N + (x1 - x1); omega, fun j hj => by have hj : (j : Int) < x1 - x1 := hj; omega⟩
  rintro G ⟨x4, y⟩ ⟨⟨a, b⟩, e1, e2, e3, e4⟩ ih
  simp only at a b e1 e2 e3 e4
  unfold L_X12_kept_8
  dsimp only
  by_cases c : x2 ≤ x4
  · rw [if_pos c]
    have : x4 = x2 := by omega
    subst this
    refine h y e1 e2 e3 ⟨b0, by rw [subL_len, e3]; omega, fun i hi => ?_⟩
    rw [subL_len] at hi
    rw [subL_at hi]; exact e4 i (by omega)
  · rw [if_neg c]
    have pl := plB_i.mp (hp x4 a (by omega))
    have bi := bt_is (t := t) (k := x4) (by omega) (by omega)
    have t39 : mI y 39 x4 = bt t x4 := by rw [e1 39 x4 (by omega) (by omega), bi]; exact (C.2.2 x4 (by omega) (by omega)).1
    rw [t39, w8e (by omega) (by omega), e3]
    refine ⟨by omega, by omega, by omega, by omega, ?_⟩
    rintro _ rfl
    have z19 : mI (uI y 18 (N + (x4 - x1)) (bt t x4)) 0 19 = N + (x4 - x1) := by rw [mI_uI, if_neg (by omega)]; exact e3
    rw [z19, w32e (x := N + (x4 - x1) + 1) (by omega) (by omega), w32e (x := x4 + 1) (by omega) (by omega)]
    rintro _ rfl
    refine ih (x4 + 1, _) ⟨⟨by show x1 ≤ x4 + 1; omega, by show x4 + 1 ≤ x2; omega⟩, fun k i n1 n2 => ?_, e2, ?_, fun j hj => ?_⟩ (by show (x2 - (x4 + 1)).toNat < (x2 - x4).toNat; omega)
    · show mI (uI (uI y 18 _ _) 0 19 _) k i = _
      rw [mI_uI, if_neg n1, mI_uI, if_neg (by omega)]; exact e1 k i n1 n2
    · show mI (uI (uI y 18 _ _) 0 19 _) 0 19 = N + (x4 + 1 - x1)
      rw [mI_uI, if_pos ⟨rfl, rfl⟩]; omega
    · have hj : (j : Int) < x4 + 1 - x1 := hj
      show mI (uI (uI y 18 _ _) 0 19 _) 18 (N + j) = _
      rw [mI_uI, if_neg (by omega), mI_uI]
      by_cases ej : (j : Int) = x4 - x1
      · rw [if_pos ⟨rfl, by omega⟩, show x1 + (j : Int) = x4 by omega]
      · rw [if_neg (by omega)]; exact e4 j (by omega)
def EnP (t : Tx) (S : SS) (u0 : Mu) : Prop := CxM t u0 ∧ PmB u0 ∧ (mI u0 0 8 = S.2.1.1 ∧ 0 ≤ S.2.1.1 ∧ S.2.1.1 ≤ 40) ∧ ∀ v, isShP v S → ShM u0 (slt v) (shOf v S) ∧ ShB (shOf v S)
def PrP (t : Tx) (u0 u : Mu) (d : Prop) (o : Int) (st : PS) : Prop := PmR u0 u d o 0 st.1 st.2.1 st.2.2 ∧ TkM t u st.1 ∧ OkS t st ∧ (st.2.1.length : Int) ≤ st.1
def PoR (t : Tx) (u0 : Mu) (d : Prop) (o : Int) (r : PR) (u : Mu) : Prop := match r with
  | .inl e => FlM u0 u e.1 e.2 t.2.1
  | .inr s => PmR u0 u d o 0 s.1 s.2.1 s.2.2 ∧ TkM t u s.1
theorem CxM_p {t : Tx} {S : SS} {u0 u : Mu} {d : Prop} {o nl a : Int} {ps : List Prt} {lt : Int × Int} (E : EnP t S u0) (R : PmR u0 u d o nl a ps lt) : CxM t u := CxM_f R.1.1 (by decide) E.1
theorem i_nx {t : Tx} {S : SS} {u0 u : Mu} {d : Prop} {o nl a e : Int} {ps : List Prt} {lt : Int × Int} {P : Mu → Prop} (E : EnP t S u0) (R : PmR u0 u d o nl a ps lt) (h46 : mI u 0 46 = e) (e0 : 0 ≤ e) (e1 : e ≤ t.2.1) (ha : a ≤ e) (h : ∀ v, PmR u0 v d o nl (skp t e) ps lt → TkM t v (skp t e) → P v) : F_X12_next u P := by
  refine i_next (CxM_p E R) h46 e0 e1 (fun v f k => h v (PmR_tk R f ?_) k)
  have := (skp_b (t := t) e0 e1).1
  omega
