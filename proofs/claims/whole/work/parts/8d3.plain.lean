/-! ===== a plain entry, of the reference ===== -/
theorem plB_n : plB (-1) = false := by decide
def nbV (t : Tx) (a : Int) : Int := if bt t a = 45 then - numV t (t.2.1 - a - 1).toNat (a + 1) 0 else numV t (t.2.1 - a).toNat a 0
def txF (t : Tx) (a : Int) : Int := if bt t a = 39 then a + 1 else a
noncomputable def pPlain (t : Tx) (a : Int) : (Int × Int) ⊕ Cont := if rn plB t a < t.2.1 then .inl (1, rn plB t a) else if t.2.1 ≤ a then .inr none else ci (numP (subL t a (t.2.1 - a).toNat)) (.inr (some (1, (1, nbV t a, []), []))) (if subL t a (t.2.1 - a).toNat = sL 0 then .inr (some (3, (3, 1, []), [])) else if subL t a (t.2.1 - a).toNat = sL 1 then .inr (some (3, (3, 0, []), [])) else if t.2.1 - txF t a ≤ 24 then .inr (some (2, (2, 0, subL t (txF t a) (t.2.1 - txF t a).toNat), [])) else .inl (6, txF t a + 24))
theorem sg_1 {t : Tx} {a : Int} {n : Nat} (hn : 1 ≤ n) : sg1 (subL t a n) = if bt t a = 45 then 1 else 0 := by
  unfold sg1
  rw [subL_at (by omega), show a + ((0 : Nat) : Int) = a by omega]
theorem numP_i {t : Tx} {a : Int} {n : Nat} (hn : 1 ≤ n) : numP (subL t a n) ↔ (1 ≤ (n : Int) - (if bt t a = 45 then 1 else 0) ∧ (n : Int) - (if bt t a = 45 then 1 else 0) ≤ 15) ∧ ∀ j, a + (if bt t a = 45 then 1 else 0) ≤ j → j < a + n → dgB (bt t j) = true := by
  unfold numP
  rw [sg_1 hn, subL_len]
  by_cases c : bt t a = 45
  · rw [if_pos c, if_pos c]
    constructor
    · rintro ⟨h1, h2⟩
      refine ⟨by omega, fun j j0 j1 => ?_⟩
      have := h2 (j - a).toNat (by omega) (by omega)
      rw [subL_at (by omega), Int.toNat_of_nonneg (by omega), show a + (j - a) = j by omega] at this
      exact dgB_i.mpr this
    · rintro ⟨h1, h2⟩
      refine ⟨by omega, fun k k0 k1 => ?_⟩
      rw [subL_at k1]
      exact dgB_i.mp (h2 (a + k) (by omega) (by omega))
  · rw [if_neg c, if_neg c]
    constructor
    · rintro ⟨h1, h2⟩
      refine ⟨by omega, fun j j0 j1 => ?_⟩
      have := h2 (j - a).toNat (by omega) (by omega)
      rw [subL_at (by omega), Int.toNat_of_nonneg (by omega), show a + (j - a) = j by omega] at this
      exact dgB_i.mpr this
    · rintro ⟨h1, h2⟩
      refine ⟨by omega, fun k k0 k1 => ?_⟩
      rw [subL_at k1]
      exact dgB_i.mp (h2 (a + k) (by omega) (by omega))
theorem i_isNum {t : Tx} {u : Mu} {a : Int} {P : Int → Prop} (C : CxM t u) (a0 : 0 ≤ a) (a1 : a < t.2.1) (hy : numP (subL t a (t.2.1 - a).toNat) → P 1) (hn : ¬ numP (subL t a (t.2.1 - a).toNat) → P 0) : F_X12_isNumber a t.2.1 u P := by
  have b3 := C.2.1
  have ni := numP_i (t := t) (a := a) (n := (t.2.1 - a).toNat) (by omega)
  have ta : mI u 39 a = bt t a := by rw [bt_is a0 a1]; exact (C.2.2 a a0 a1).1
  have key : ∀ s0, s0 = a + (if bt t a = 45 then 1 else 0) → F_X12_isNumber_18 t.2.1 s0 u P := by
    intro s0 hs0
    have sb : a ≤ s0 ∧ s0 ≤ a + 1 := by rw [hs0]; split <;> omega
    unfold F_X12_isNumber_18
    rw [w32e (x := t.2.1 - s0) (by omega) (by omega)]
    refine i_in ?_
    by_cases c : 1 ≤ t.2.1 - s0 ∧ t.2.1 - s0 ≤ 15
    · rw [tb, if_pos c, if_neg (by decide)]
      unfold F_X12_isNumber_36
      refine lp_I (fun x => (s0 ≤ x ∧ x ≤ t.2.1) ∧ ∀ j, s0 ≤ j → j < x → dgB (bt t j) = true) (fun x => (t.2.1 - x).toNat) ?_ s0 ⟨⟨Int.le_refl _, by omega⟩, fun j h1 h2 => by omega⟩
      rintro G x ⟨⟨x0, x1⟩, hx⟩ ih
      unfold L_X12_isNumber_36
      by_cases ce : t.2.1 ≤ x
      · rw [if_pos ce]
        exact hy (ni.mpr ⟨by omega, fun j h1 h2 => hx j (by omega) (by omega)⟩)
      · rw [if_neg ce]
        refine ⟨by omega, by omega, ?_⟩
        rw [show mI u 39 x = bt t x by rw [bt_is (by omega) (by omega)]; exact (C.2.2 x (by omega) (by omega)).1]
        refine i_dig (fun d => ?_) (fun d => ?_)
        · rw [if_neg (by decide), w32e (by omega) (by omega)]
          refine ih (x + 1) ⟨⟨by omega, by omega⟩, fun j h1 h2 => ?_⟩ (by omega)
          by_cases ej : j = x
          · rw [ej]; exact d
          · exact hx j h1 (by omega)
        · rw [if_pos rfl]
          exact hn (fun q => by have := (ni.mp q).2 x (by omega) (by omega); rw [d] at this; cases this)
    · rw [tb, if_neg c, if_pos rfl]
      exact hn (fun q => c (by have := (ni.mp q).1; omega))
  unfold F_X12_isNumber
  refine ⟨a0, by omega, ?_⟩
  rw [ta]
  by_cases c : bt t a = 45
  · rw [if_pos c, w32e (by omega) (by omega)]
    exact key _ (by rw [if_pos c])
  · rw [if_neg c]
    exact key _ (by rw [if_neg c]; omega)
def wPn : WR := [(0, some 24), (20, none), (21, none), (22, none), (23, none)]
theorem i_plnW {u : Mu} {k v q n : Int} {bs : List Int} {P : Int → Mu → Prop} (h24 : 0 ≤ mI u 0 24 ∧ mI u 0 24 < 4200) (n19 : 0 ≤ mI u 0 19) (hl : n = (bs.length : Int)) (L : LetM u q bs) (hk : k ≠ 5) (wl : WfL (k, v, bs)) (h : ∀ y, FrM wPn u y → Grw u y → mI y 0 24 = mI u 0 24 + 1 → ContM y (100000 + mI u 0 24) (some (k, (k, v, bs), [])) → P (100000 + mI u 0 24) y) : F_X12_plain k v q n u P := by
  generalize hm : mI u 0 24 = m at *
  unfold F_X12_plain
  rw [hm]
  refine ⟨h24.1, h24.2, ?_⟩
  rintro _ rfl
  have e1 : mI (uI u 20 m k) 0 24 = m := by simp [mI_uI]; exact hm
  rw [e1]
  refine ⟨h24.1, h24.2, ?_⟩
  rintro _ rfl
  have e2 : mI (uG (uI u 20 m k) 21 m v) 0 24 = m := by rw [mI_uG]; exact e1
  rw [e2]
  refine ⟨h24.1, h24.2, ?_⟩
  rintro _ rfl
  have e3 : mI (uI (uG (uI u 20 m k) 21 m v) 22 m q) 0 24 = m := by rw [mI_uI, if_neg (by omega)]; exact e2
  rw [e3]
  refine ⟨h24.1, h24.2, ?_⟩
  rintro _ rfl
  have e4 : mI (uI (uI (uG (uI u 20 m k) 21 m v) 22 m q) 23 m n) 0 24 = m := by rw [mI_uI, if_neg (by omega)]; exact e3
  rw [e4, w32e (x := m + 1) (by omega) (by omega)]
  rintro _ rfl
  have f : FrM wPn u (uI (uI (uI (uG (uI u 20 m k) 21 m v) 22 m q) 23 m n) 0 24 (m + 1)) := FrM_uI (FrM_uI (FrM_uI (FrM_uG (FrM_uI FrM_rf (wHas_a (by decide))) (wHas_a (by decide))) (wHas_a (by decide))) (wHas_a (by decide))) (wHas_i (by decide))
  have v24 : mI (uI (uI (uI (uG (uI u 20 m k) 21 m v) 22 m q) 23 m n) 0 24 (m + 1)) 0 24 = m + 1 := by simp [mI_uI]
  have v20 : ∀ i, mI (uI (uI (uI (uG (uI u 20 m k) 21 m v) 22 m q) 23 m n) 0 24 (m + 1)) 20 i = if i = m then k else mI u 20 i := fun i => by simp [mI_uI, mI_uG]
  have v21 : ∀ i, mG (uI (uI (uI (uG (uI u 20 m k) 21 m v) 22 m q) 23 m n) 0 24 (m + 1)) 21 i = if i = m then v else mG u 21 i := fun i => by simp [mG_uI, mG_uG]
  have v22 : ∀ i, mI (uI (uI (uI (uG (uI u 20 m k) 21 m v) 22 m q) 23 m n) 0 24 (m + 1)) 22 i = if i = m then q else mI u 22 i := fun i => by simp [mI_uI, mI_uG]
  have v23 : ∀ i, mI (uI (uI (uI (uG (uI u 20 m k) 21 m v) 22 m q) 23 m n) 0 24 (m + 1)) 23 i = if i = m then n else mI u 23 i := fun i => by simp [mI_uI, mI_uG]
  generalize uI (uI (uI (uG (uI u 20 m k) 21 m v) 22 m q) 23 m n) 0 24 (m + 1) = y at f v24 v20 v21 v22 v23
  rw [v24, w32e (x := 100000 + (m + 1)) (by omega) (by omega), w32e (x := 100000 + (m + 1) - 1) (by omega) (by omega), show 100000 + (m + 1) - 1 = 100000 + m by omega]
  have y19 : mI y 0 19 = mI u 0 19 := mE f (R := [(0, some 19)]) (by decide) (wHas_i (by decide))
  have y25 : mI y 0 25 = mI u 0 25 := mE f (R := [(0, some 25)]) (by decide) (wHas_i (by decide))
  have g : Grw u y := by
    refine ⟨⟨n19, by omega, by omega, by omega⟩, fun i _ _ => mE f (R := [(18, none)]) (by decide) (wHas_a (by decide)), fun i i0 i1 => ⟨by rw [v20, if_neg (by omega)], by rw [v21, if_neg (by omega)], by rw [v22, if_neg (by omega)], by rw [v23, if_neg (by omega)]⟩, fun i _ _ => ⟨gE f (R := [(29, none)]) (by decide) (wHas_a (by decide)), fun kk h1 h2 => ?_⟩⟩
    exact f.1 kk i (fun q' => by
      obtain ⟨t, t1, t2, t3⟩ := q'
      have : ∀ t ∈ wPn, t.1 < 26 := by decide
      have := this t t1
      omega)
  refine h y f g v24 ?_
  unfold ContM
  simp only
  rw [if_neg hk, show 100000 + m - 100000 = m by omega]
  refine ⟨⟨by omega, by omega⟩, trivial, trivial, wl, by rw [v20, if_pos rfl], by rw [v21, if_pos rfl], by rw [v23, if_pos rfl]; exact hl, ?_⟩
  rw [v22, if_pos rfl]
  exact ⟨L.1, by rw [y19]; exact L.2.1, fun i hi => (mE f (R := [(18, none)]) (by decide) (wHas_a (by decide))).trans (L.2.2 i hi)⟩
def wPl : WR := [(0, some 41), (0, some 42), (0, some 19), (18, none), (0, some 24), (20, none), (21, none), (22, none), (23, none)]
theorem nbV_b {t : Tx} {a : Int} (a1 : a < t.2.1) (h : numP (subL t a (t.2.1 - a).toNat)) : -1000000000000000 < nbV t a ∧ nbV t a < 1000000000000000 := by
  obtain ⟨h1, h2⟩ := (numP_i (t := t) (a := a) (n := (t.2.1 - a).toNat) (by omega)).mp h
  unfold nbV
  by_cases c : bt t a = 45
  · rw [if_pos c] at h1 h2 ⊢
    have nb := numV_b (t := t) (t.2.1 - a - 1).toNat (a + 1) 0 (fun j x y => dgB_i.mp (h2 j (by omega) (by omega))) 0 (by decide) (by decide)
    have p15 := pow15 (0 + (t.2.1 - a - 1).toNat) (by omega)
    omega
  · rw [if_neg c] at h1 h2 ⊢
    have nb := numV_b (t := t) (t.2.1 - a).toNat a 0 (fun j x y => dgB_i.mp (h2 j (by omega) (by omega))) 0 (by decide) (by decide)
    have p15 := pow15 (0 + (t.2.1 - a).toNat) (by omega)
    omega
theorem WfL_1 {v : Int} (h : -1000000000000000 < v ∧ v < 1000000000000000) : WfL (1, v, []) := by
  refine ⟨⟨by show (1 : Int) ≤ 1; decide, by show (1 : Int) ≤ 3; decide⟩, fun _ => h, ?_, ?_, fun _ => rfl, by show 0 ≤ 24; omega, ?_⟩
  · intro h3
    have h3 : (1 : Int) = 3 := h3
    omega
  · intro h2
    have h2 : (1 : Int) = 2 := h2
    omega
  · intro x hx
    cases hx
theorem WfL_3 {v : Int} (h : v = 0 ∨ v = 1) : WfL (3, v, []) := by
  refine ⟨⟨by show (1 : Int) ≤ 3; decide, by show (3 : Int) ≤ 3; decide⟩, ?_, fun _ => h, ?_, fun _ => rfl, by show 0 ≤ 24; omega, ?_⟩
  · intro h2
    have h2 : (3 : Int) = 1 := h2
    omega
  · intro h2
    have h2 : (3 : Int) = 2 := h2
    omega
  · intro y hy
    cases hy
theorem WfL_2 {t : Tx} {a : Int} {n : Nat} (hn : n ≤ 24) (hp : ∀ j, a ≤ j → j < a + n → plB (bt t j) = true) : WfL (2, 0, subL t a n) := by
  refine ⟨⟨by show (1 : Int) ≤ 2; decide, by show (2 : Int) ≤ 3; decide⟩, ?_, ?_, fun _ => rfl, fun h2 => absurd rfl h2, ?_, fun x hx => ?_⟩
  · intro h2
    have h2 : (2 : Int) = 1 := h2
    omega
  · intro h2
    have h2 : (2 : Int) = 3 := h2
    omega
  · show (subL t a n).length ≤ 24
    rw [subL_len]; exact hn
  · obtain ⟨j, hj, ex⟩ := subL_mem hx
    have := plB_i.mp (hp (a + j) (by omega) (by omega))
    omega
theorem i_plainE {t : Tx} {u : Mu} {a : Int} {P : Int → Mu → Prop} (C : CxM t u) (h43 : mI u 0 43 = a) (a0 : 0 ≤ a) (a1 : a ≤ t.2.1) (h41 : mI u 0 41 = 0) (h24 : 0 ≤ mI u 0 24 ∧ mI u 0 24 < 4200) (h19 : 0 ≤ mI u 0 19 ∧ mI u 0 19 ≤ 82000) (hf : ∀ e v, pPlain t a = .inl e → FrM wPl u v → Grw u v → mI v 0 41 = e.1 → mI v 0 42 = e.2 → 0 < e.1 → mI v 0 24 ≤ mI u 0 24 + 1 → mI v 0 19 ≤ mI u 0 19 + t.2.1 → P 0 v) (hk : ∀ k q v, pPlain t a = .inr k → FrM wPl u v → Grw u v → mI v 0 41 = 0 → mI v 0 42 = mI u 0 42 → ContM v q k → mI v 0 24 ≤ mI u 0 24 + 1 → mI v 0 19 ≤ mI u 0 19 + t.2.1 → P q v) : F_X12_plainEntered u P := by
  have b3 := C.2.1
  have rb0 := rn_b (p := plB) (t := t) plB_n a0
  unfold F_X12_plainEntered F_X12_plainEntered_5
  rw [h43]
  have fF : ∀ k p : Int, FrM wPl u (uI (uI u 0 41 k) 0 42 p) := fun k p => FrM_uI (FrM_uI FrM_rf (wHas_i (by decide))) (wHas_i (by decide))
  have fG : ∀ k p : Int, Grw u (uI (uI u 0 41 k) 0 42 p) := fun k p => Grw_fr (L := [(0, some 41), (0, some 42)]) h19.1 (FrM_uI (FrM_uI FrM_rf (wHas_i (by decide))) (wHas_i (by decide))) (by decide)
  refine lp_I (S := Int × Mu) (fun s => (a ≤ s.1 ∧ s.1 ≤ t.2.1) ∧ ((s.2 = u ∧ s.1 ≤ rn plB t a) ∨ (s.2 = uI (uI u 0 41 1) 0 42 (rn plB t a) ∧ rn plB t a < s.1))) (fun s => (t.2.1 - s.1).toNat) ?_ (a, u) ⟨⟨Int.le_refl _, a1⟩, Or.inl ⟨rfl, rb0.1⟩⟩
  rintro G ⟨x, y⟩ ⟨⟨x0, x1⟩, hy⟩ ih
  simp only at x0 x1 hy
  unfold L_X12_plainEntered_5 F_X12_plainEntered_31
  dsimp only
  have C41 : CxM t (uI (uI u 0 41 1) 0 42 (rn plB t a)) := CxM_f (fF _ _) (by decide) C
  have Cy : CxM t y := by
    rcases hy with ⟨e, -⟩ | ⟨e, -⟩
    · rw [e]; exact C
    · rw [e]; exact C41
  rw [Cy.1.1]
  by_cases ce : t.2.1 ≤ x
  · rw [if_pos ce]
    rcases hy with ⟨e, xr⟩ | ⟨e, xr⟩
    · -- all are plain
      subst e
      have nr : ¬ rn plB t a < t.2.1 := by omega
      unfold pPlain at hf hk
      rw [if_neg nr] at hf hk
      show (if 0 < mI y 0 41 then F_X12_plainEntered_58 y P else _)
      rw [if_neg (by omega), h43, w32e (x := t.2.1 - a) (by omega) (by omega)]
      by_cases c0 : t.2.1 - a = 0
      · rw [if_pos c0]
        rw [if_pos (by omega)] at hk
        exact hk none 0 y rfl FrM_rf (Grw_fr (L := []) h19.1 FrM_rf (by decide)) h41 rfl rfl (by omega) (by omega)
      rw [if_neg c0]
      rw [if_neg (by omega)] at hf hk
      have dg : ∀ j, a ≤ j → j < t.2.1 → plB (bt t j) = true := fun j h1 h2 => rb0.2.2.2 j h1 (by omega)
      have ta : mI y 39 a = bt t a := by rw [bt_is a0 (by omega)]; exact (C.2.2 a a0 (by omega)).1
      have fin : ∀ k v bs q n, (∀ e, ¬ (.inr (some (k, (k, v, bs), [])) : (Int × Int) ⊕ Cont) = .inl e) → n = (bs.length : Int) → LetM y q bs → k ≠ 5 → WfL (k, v, bs) → (∀ kk q' v', (.inr (some (k, (k, v, bs), [])) : (Int × Int) ⊕ Cont) = .inr kk → FrM wPl y v' → Grw y v' → mI v' 0 41 = 0 → mI v' 0 42 = mI y 0 42 → ContM v' q' kk → mI v' 0 24 ≤ mI y 0 24 + 1 → mI v' 0 19 ≤ mI y 0 19 + t.2.1 → P q' v') → F_X12_plain k v q n y (fun x_ u_ => P x_ u_) := by
        intro k v bs q n _ hl L hk5 wl hh
        refine i_plnW h24 h19.1 hl L hk5 wl (fun w' fw gw w24 cw => ?_)
        have fw' : FrM wPl y w' := FrM_sub fw (by decide)
        exact hh _ _ w' rfl fw' gw ((mE fw (R := [(0, some 41)]) (by decide) (wHas_i (by decide))).trans h41) (mE fw (R := [(0, some 42)]) (by decide) (wHas_i (by decide))) cw (by omega) (by rw [mE fw (R := [(0, some 19)]) (by decide) (wHas_i (by decide))]; omega)
      have L0 : LetM y 0 [] := ⟨Int.le_refl 0, by show (0 : Int) + 0 ≤ _; omega, fun i hi => by cases hi⟩
      refine i_isNum C a0 (by omega) (fun np => ?_) (fun np => ?_)
      · rw [if_neg (by decide)]
        rw [ci_1 np] at hf hk
        refine ⟨a0, by omega, ?_⟩
        rw [ta]
        unfold F_X12_plainEntered_94 F_X12_plainEntered_113 F_X12_plainEntered_133
        obtain ⟨q1, q2⟩ := (numP_i (t := t) (a := a) (n := (t.2.1 - a).toNat) (by omega)).mp np
        have nb := nbV_b (by omega) np
        have go : F_X12_plain 1 (nbV t a) 0 0 y (fun x_ u_ => P x_ u_) := fin 1 (nbV t a) [] 0 0 (fun e h => by cases h) rfl L0 (by decide) (WfL_1 nb) hk
        by_cases c45 : bt t a = 45
        · rw [if_pos c45, if_neg (by decide), h43, w32e (x := a + 1) (by omega) (by omega), C.1.1]
          rw [if_pos c45] at q1 q2
          refine i_numF C (by omega) (by omega) (Int.le_refl _) (by omega) (fun j h1 h2 => q2 j (by omega) (by omega)) ?_
          rw [if_neg (by decide)]
          have ev : nbV t a = - numV t (t.2.1 - (a + 1)).toNat (a + 1) 0 := by unfold nbV; rw [if_pos c45, show t.2.1 - a - 1 = t.2.1 - (a + 1) by omega]
          rw [w64e (by omega) (by omega), ← ev]
          exact go
        · rw [if_neg c45, if_pos rfl, h43, C.1.1]
          rw [if_neg c45] at q1 q2
          refine i_numF C a0 (by omega) (Int.le_refl _) (by omega) (fun j h1 h2 => q2 j (by omega) (by omega)) ?_
          rw [if_pos rfl]
          have ev : nbV t a = numV t (t.2.1 - a).toNat a 0 := by unfold nbV; rw [if_neg c45]
          rw [← ev]
          exact go
      · rw [if_pos rfl]
        rw [ci_0 np] at hf hk
        unfold F_X12_plainEntered_171 F_X12_plainEntered_182
        refine i_wd C a0 (by omega) (by omega) (by omega) (by decide) (fun q => ?_) (fun q => ?_)
        · rw [if_neg (by decide)]
          rw [sL_ref.2.1] at q
          rw [if_pos q] at hk
          rw [if_neg (by decide)]
          exact fin 3 1 [] 0 0 (fun e h => by cases h) rfl L0 (by decide) (WfL_3 (Or.inr rfl)) hk
        · rw [if_pos rfl]
          rw [sL_ref.2.1] at q
          rw [if_neg q] at hf hk
          refine i_wd C a0 (by omega) (by omega) (by omega) (by decide) (fun q2 => ?_) (fun q2 => ?_)
          · rw [if_neg (by decide)]
            rw [sL_ref.2.2] at q2
            rw [if_pos q2] at hk
            rw [if_pos rfl]
            exact fin 3 0 [] 0 0 (fun e h => by cases h) rfl L0 (by decide) (WfL_3 (Or.inl rfl)) hk
          · rw [if_pos rfl]
            rw [sL_ref.2.2] at q2
            rw [if_neg q2] at hf hk
            refine ⟨a0, by omega, ?_⟩
            rw [ta]
            have txt : ∀ f', f' = txF t a → (a ≤ f' ∧ f' ≤ t.2.1) → F_X12_plainEntered_215 f' y P := by
              intro f' hf' fb
              rw [← hf'] at hf hk
              unfold F_X12_plainEntered_215
              rw [C.1.1, w32e (x := t.2.1 - f') (by omega) (by omega)]
              by_cases c24 : t.2.1 - f' ≤ 24
              · rw [if_pos c24]
                rw [if_pos c24] at hk
                refine i_kept C (by omega) fb.2 (Int.le_refl _) (fun j h1 h2 => dg j (by omega) h2) h19.1 (by omega) (fun w' e1 e2 e3 e4 => ?_)
                have fw : FrM [(0, some 19), (18, none)] y w' := ⟨fun k i n => e1 k i (fun q => n (by rw [q.1, q.2]; exact wHas_i (by decide))) (fun q => n (by rw [q.1]; exact wHas_a (by decide))), fun k i _ => e2 k i⟩
                have gw : Grw y w' := by
                  refine ⟨⟨h19.1, by omega, by rw [e1 0 24 (by omega) (by omega)]; exact Int.le_refl _, by rw [e1 0 25 (by omega) (by omega)]; exact Int.le_refl _⟩, fun i i0 i1 => e1 18 i (by omega) (by omega), fun i i0 i1 => ⟨e1 20 i (by omega) (by omega), e2 21 i, e1 22 i (by omega) (by omega), e1 23 i (by omega) (by omega)⟩, fun i i0 i1 => ⟨e2 29 i, fun k k0 k1 => e1 k i (by omega) (by omega)⟩⟩
                rw [e1 0 44 (by omega) (by omega), C.1.1, w32e (x := t.2.1 - f') (by omega) (by omega)]
                have w24 : mI w' 0 24 = mI y 0 24 := e1 0 24 (by omega) (by omega)
                refine i_plnW (bs := subL t f' (t.2.1 - f').toNat) (by rw [w24]; exact h24) (by omega) (by rw [subL_len]; omega) e4 (by decide) (WfL_2 (by omega) (fun j h1 h2 => dg j (by omega) (by omega))) (fun v' fv gv v24 cv => ?_)
                refine hk _ _ v' rfl (FrM_tr (FrM_sub fw (by decide)) (FrM_sub fv (by decide))) (Grw_t gw gv) ?_ ?_ cv (by omega) ?_
                · rw [mE fv (R := [(0, some 41)]) (by decide) (wHas_i (by decide)), e1 0 41 (by omega) (by omega)]; exact h41
                · rw [mE fv (R := [(0, some 42)]) (by decide) (wHas_i (by decide)), e1 0 42 (by omega) (by omega)]
                · rw [mE fv (R := [(0, some 19)]) (by decide) (wHas_i (by decide)), e3]; omega
              · rw [if_neg c24, w32e (x := f' + 24) (by omega) (by omega)]
                rw [if_neg c24] at hf
                unfold F_X12_fail F_X12_fail_17
                rw [if_pos h41]
                rintro _ rfl _ rfl
                exact hf (6, f' + 24) _ rfl (fF _ _) (fG _ _) (by simp [mI_uI]) (by simp [mI_uI]) (by show (0 : Int) < 6; decide) (by simp [mI_uI]; omega) (by simp [mI_uI]; omega)
            by_cases c39 : bt t a = 39
            · rw [if_pos c39, w32e (x := a + 1) (by omega) (by omega)]
              exact txt _ (by unfold txF; rw [if_pos c39]) ⟨by omega, by omega⟩
            · rw [if_neg c39]
              exact txt _ (by unfold txF; rw [if_neg c39]) ⟨by omega, by omega⟩
    · -- one is not
      have e41 : mI y 0 41 = 1 := by rw [e]; simp [mI_uI]
      have e42 : mI y 0 42 = rn plB t a := by rw [e]; simp [mI_uI]
      show (if 0 < mI y 0 41 then F_X12_plainEntered_58 y P else _)
      rw [if_pos (by omega)]
      unfold F_X12_plainEntered_58
      refine hf (1, rn plB t a) y (by unfold pPlain; rw [if_pos (by omega)]) (by rw [e]; exact fF _ _) (by rw [e]; exact fG _ _) e41 e42 (by show (0 : Int) < 1; decide) (by rw [e]; simp [mI_uI]; omega) (by rw [e]; simp [mI_uI]; omega)
  · rw [if_neg ce]
    refine ⟨by omega, by omega, ?_⟩
    rw [show mI y 39 x = bt t x by rw [bt_is (by omega) (by omega)]; exact (Cy.2.2 x (by omega) (by omega)).1]
    refine i_pln (fun d => ?_) (fun d => ?_)
    · rw [if_neg (by decide), w32e (by omega) (by omega)]
      refine ih (x + 1, y) ⟨⟨by show a ≤ x + 1; omega, by show x + 1 ≤ t.2.1; omega⟩, ?_⟩ (by show (t.2.1 - (x + 1)).toNat < (t.2.1 - x).toNat; omega)
      rcases hy with ⟨e, xr⟩ | ⟨e, xr⟩
      · left
        refine ⟨e, ?_⟩
        show x + 1 ≤ rn plB t a
        by_cases q : x = rn plB t a
        · rw [q, rb0.2.2.1] at d; cases d
        · omega
      · right
        exact ⟨e, by show rn plB t a < x + 1; omega⟩
    · rw [if_pos rfl]
      unfold F_X12_fail F_X12_fail_17
      rcases hy with ⟨e, xr⟩ | ⟨e, xr⟩
      · subst e
        rw [if_pos h41]
        have ex : x = rn plB t a := by
          by_cases q : x = rn plB t a
          · exact q
          · have := rb0.2.2.2 x x0 (by omega)
            rw [d] at this; cases this
        rintro _ rfl _ rfl
        rw [w32e (by omega) (by omega)]
        refine ih (x + 1, _) ⟨⟨by show a ≤ x + 1; omega, by show x + 1 ≤ t.2.1; omega⟩, Or.inr ⟨by rw [ex], by show rn plB t a < x + 1; omega⟩⟩ (by show (t.2.1 - (x + 1)).toNat < (t.2.1 - x).toNat; omega)
      · have e41 : mI y 0 41 = 1 := by rw [e]; simp [mI_uI]
        rw [if_neg (by omega), w32e (by omega) (by omega)]
        exact ih (x + 1, y) ⟨⟨by show a ≤ x + 1; omega, by show x + 1 ≤ t.2.1; omega⟩, Or.inr ⟨e, by show rn plB t a < x + 1; omega⟩⟩ (by show (t.2.1 - (x + 1)).toNat < (t.2.1 - x).toNat; omega)
