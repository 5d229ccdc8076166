/-! ===== enter: pure, and of the reference ===== -/
def tA (S : SS) : Int := skp (S.1.2.1, S.1.1, S.1.1) 0
def trm (f : Int → Int) (lo : Int) : Nat → Int → Int
  | 0, k => k
  | n + 1, k => if lo < k ∧ f (k - 1) = 32 then trm f lo n (k - 1) else k
def tE (S : SS) : Int := trm S.1.2.1 (tA S) S.1.1.toNat S.1.1
def tT (S : SS) : Tx := (S.1.2.1, tE S, S.1.1)
theorem trm_b {f : Int → Int} {lo : Int} : ∀ (n : Nat) (k : Int), lo ≤ k → lo ≤ trm f lo n k ∧ trm f lo n k ≤ k ∧ ∀ j, trm f lo n k ≤ j → j < k → f j = 32
  | 0, k, h => ⟨h, Int.le_refl k, fun j a b => by rw [trm] at a; omega⟩
  | n + 1, k, h => by
    rw [trm]
    split
    · next c =>
      obtain ⟨h1, h2, h3⟩ := trm_b n (k - 1) (f := f) (lo := lo) (by omega)
      refine ⟨h1, by omega, fun j a b => ?_⟩
      by_cases e : j = k - 1
      · rw [e]; exact c.2
      · exact h3 j a (by omega)
    · exact ⟨h, Int.le_refl k, fun j a b => by omega⟩
noncomputable def pRd (S : SS) : (Int × Int) ⊕ Cont := if tA S < tE S ∧ S.1.2.1 (tA S) = 61 then (match pForm (tT S) S (tA S) with
  | .inl e => .inl e
  | .inr ps => .inr (some (5, (0, 0, []), ps))) else pPlain (tT S) (tA S)
def setT (S : SS) (k p : Int) : SS := ((0, S.1.2.1, k, p), S.2)
noncomputable def pEnter (r c : Int) (S : SS) : Nat × Int × SS := if hasS S.2.2.2.1.1 r c then (match pRd S with
  | .inl e => (2, 0, setT S e.1 e.2)
  | .inr k => if S.2.2.1.2.2.2.1 + (pcN k : Int) ≤ 60000 then (0, (pcN k : Int), setW (pStep0 (setP (setT S 0 (-1)) (S.2.2.1.2.2.2.1 + (pcN k : Int)))) (updS S.2.2.2.1.1 (r - 1) (c - 1) k)) else (3, 0, setT S 0 (-1))) else (1, 0, S)
theorem tA_b {S : SS} (h : 0 ≤ S.1.1) : 0 ≤ tA S ∧ tA S ≤ S.1.1 ∧ (∀ j, 0 ≤ j → j < tA S → S.1.2.1 j = 32) ∧ (tA S < S.1.1 → S.1.2.1 (tA S) ≠ 32) := by
  have rb := rn_b (p := blB) (t := (S.1.2.1, S.1.1, S.1.1)) (k := 0) blB_n (Int.le_refl 0)
  have e : tA S = rn blB (S.1.2.1, S.1.1, S.1.1) 0 := rfl
  rw [e]
  have le : rn blB (S.1.2.1, S.1.1, S.1.1) 0 ≤ S.1.1 := by
    rcases rb.2.1 with q | q
    · exact q
    · rw [q]; exact h
  refine ⟨rb.1, le, fun j a b => ?_, fun l q => ?_⟩
  · have := blB_i.mp (rb.2.2.2 j a b)
    rw [bt_is a (by show j < S.1.1; omega)] at this
    exact this
  · have := rb.2.2.1
    rw [bt_is rb.1 l] at this
    have q2 : S.1.2.1 (rn blB (S.1.2.1, S.1.1, S.1.1) 0) = 32 := q
    rw [show ((S.1.2.1, S.1.1, S.1.1) : Tx).1 (rn blB (S.1.2.1, S.1.1, S.1.1) 0) = 32 from q2] at this
    cases this
theorem tE_b {S : SS} (h : 0 ≤ S.1.1) : tA S ≤ tE S ∧ tE S ≤ S.1.1 ∧ ∀ j, tE S ≤ j → j < S.1.1 → S.1.2.1 j = 32 := trm_b _ _ (tA_b h).2.1
def wEnM : WR := [(0, some 0), (0, some 40), (0, some 41), (0, some 42), (0, some 43), (0, some 44), (0, some 45), (0, some 46), (0, some 47), (0, some 48), (0, some 49), (0, some 50), (0, some 51), (0, some 52), (0, some 53), (0, some 54), (0, some 55), (0, some 56), (0, some 57), (0, some 58), (0, some 59), (0, some 19), (18, none), (0, some 24), (20, none), (21, none), (22, none), (23, none), (0, some 25), (26, none), (27, none), (28, none), (29, none), (30, none), (31, none), (32, none), (33, none), (34, none), (35, none), (36, none), (37, none), (38, none)]
theorem RM_en {u v : Mu} {N m k p : Int} {S : SS} (hB : Bd S) (R : RM u N S) (f : FrM wEnM u v) (g : Grw u v) (h40 : mI v 0 40 = 0) (h41 : mI v 0 41 = k) (h42 : mI v 0 42 = p) (h25 : mI v 0 25 = m) (h19 : mI v 0 19 ≤ mI u 0 19 + S.1.1) (h24 : mI v 0 24 ≤ mI u 0 24 + 1) : RM v (N + 1) (setP (setT S k p) m) := by
  obtain ⟨⟨n1, n2⟩, ht, hl, hb, hk, hq⟩ := R
  have gg := g.1
  refine ⟨⟨⟨by omega, by show mI v 0 19 + 0 ≤ 20 * (N + 1); omega⟩, ⟨by omega, by omega⟩⟩, ⟨h40, fun i a b => (mE f (R := [(39, none)]) (by decide) (wHas_a (by decide))).trans (ht.2.1 i a b), h41, h42⟩, RMl_fr f (by decide) (fun k a c => (hB.2.1.2 k a c).1) g (fun k _ _ => SlM_fr f (by decide)) hl, ?_, RMk_fr f (by decide) (by decide) hB.2.2.2.1.1 hB.2.2.2.1.2.2.1 hB.2.2.2.1.2.2.2 g hk, RMq_fr f (by decide) g hq⟩
  obtain ⟨g1, g2, g3, g4, g5, g6, g7⟩ := hb
  have m0 : ∀ i, wHas [(0, some 12), (0, some 13), (0, some 14), (0, some 6), (0, some 7)] 0 i → mI v 0 i = mI u 0 i := fun i hi => mE f (R := [(0, some 12), (0, some 13), (0, some 14), (0, some 6), (0, some 7)]) (by decide) hi
  exact ⟨fun k a c => (mE f (R := [(11, none)]) (by decide) (wHas_a (by decide))).trans (g1 k a c), (m0 12 (wHas_i (by decide))).trans g2, (m0 13 (wHas_i (by decide))).trans g3, h25, (m0 14 (wHas_i (by decide))).trans g5, (m0 6 (wHas_i (by decide))).trans g6, (m0 7 (wHas_i (by decide))).trans g7⟩
theorem RM_up {u : Mu} {N : Int} {S : SS} (R : RM u N S) : RM u (N + 1) S := ⟨⟨⟨R.1.1.1, by have := R.1.1.2; omega⟩, ⟨R.1.2.1, by have := R.1.2.2; omega⟩⟩, R.2⟩
def wEnA : WR := wEnM ++ wUm
theorem setP_self (S : SS) : setP S S.2.2.1.2.2.2.1 = S := rfl
theorem i_enter {u : Mu} {N : Int} {S : SS} {r c : Int} {P : Int → Mu → Prop} (hB : Bd S) (R : RM u N S) (hT : ∀ i, 0 ≤ i → i < 400 → 0 ≤ S.1.2.1 i ∧ S.1.2.1 i ≤ 255) (hM : 0 ≤ S.2.2.1.2.2.2.1 ∧ S.2.2.1.2.2.2.1 ≤ 60000) (hN : N ≤ 4000) (hI : ∀ v, isShP v S → IdS (shOf v S)) (h : ∀ v, RM v (N + 1) (pEnter r c S).2.2 → FrM wEnA u v → (mI v 0 0 = ((pEnter r c S).1 : Int) ∧ Q65 u v S (pEnter r c S).2.2) → P (pEnter r c S).2.1 v) : F_X12_enter r c u P := by
  have bT := hB.1
  have bw := hB.2.2.2.1.1
  obtain ⟨⟨bw1, bw2⟩, bw3, bw4⟩ := id bw
  obtain ⟨m1, m2⟩ := R.2.2.2.2.1.1.1
  unfold F_X12_enter
  rintro _ rfl
  have R' := RM_thr (x := 0) hB R
  have fA : FrM wEnA u (uI u 0 0 0) := FrM_uI FrM_rf (wHas_i (by decide))
  have e1 : mI (uI u 0 0 0) 1 40 = S.2.2.2.1.1.1.1 := m1
  have e2 : mI (uI u 0 0 0) 2 40 = S.2.2.2.1.1.1.2 := m2
  refine i_isCell (by decide) (by decide) ?_
  rw [e1, e2]
  by_cases eh : hasS S.2.2.2.1.1 r c
  rotate_left
  · rw [show tb ((1 ≤ r ∧ r ≤ S.2.2.2.1.1.1.1) ∧ 1 ≤ c ∧ c ≤ S.2.2.2.1.1.1.2) = 0 by rw [tb, if_neg eh], if_pos rfl]
    unfold pEnter at h
    rw [if_neg eh] at h
    exact i_throwing (h _ (RM_up (RM_thr hB R')) (FrM_uI fA (wHas_i (by decide))) ⟨by rw [mI_uI, if_pos ⟨rfl, rfl⟩]; rfl, Q65_t⟩)
  rw [show tb ((1 ≤ r ∧ r ≤ S.2.2.2.1.1.1.1) ∧ 1 ≤ c ∧ c ≤ S.2.2.2.1.1.1.2) = 1 by rw [tb, if_pos eh], if_neg (by decide)]
  have ab := tA_b (S := S) bT.1
  have eb := tE_b (S := S) bT.1
  have e40 : mI (uI u 0 0 0) 0 40 = S.1.1 := R'.2.1.1
  rw [e40]
  rintro _ rfl _ rfl _ rfl _ rfl _ rfl _ rfl
  have f1 : FrM [(0, some 0), (0, some 40), (0, some 41), (0, some 42), (0, some 43), (0, some 44), (0, some 45), (0, some 56)] u (uI (uI (uI (uI (uI (uI (uI u 0 0 0) 0 40 0) 0 41 0) 0 42 (-1)) 0 43 0) 0 44 S.1.1) 0 45 S.1.1) := FrM_uI (FrM_uI (FrM_uI (FrM_uI (FrM_uI (FrM_uI (FrM_uI FrM_rf (wHas_i (by decide))) (wHas_i (by decide))) (wHas_i (by decide))) (wHas_i (by decide))) (wHas_i (by decide))) (wHas_i (by decide))) (wHas_i (by decide))
  have K : ∀ (v : Mu) (j k : Int), (v = uI (uI (uI (uI (uI (uI (uI u 0 0 0) 0 40 0) 0 41 0) 0 42 (-1)) 0 43 0) 0 44 S.1.1) 0 45 S.1.1 ∨ True) → True := fun _ _ _ _ => trivial
  have g0 : mI (uI (uI (uI (uI (uI (uI (uI u 0 0 0) 0 40 0) 0 41 0) 0 42 (-1)) 0 43 0) 0 44 S.1.1) 0 45 S.1.1) 0 0 = 0 := by simp [mI_uI]
  have g40 : mI (uI (uI (uI (uI (uI (uI (uI u 0 0 0) 0 40 0) 0 41 0) 0 42 (-1)) 0 43 0) 0 44 S.1.1) 0 45 S.1.1) 0 40 = 0 := by simp [mI_uI]
  have g41 : mI (uI (uI (uI (uI (uI (uI (uI u 0 0 0) 0 40 0) 0 41 0) 0 42 (-1)) 0 43 0) 0 44 S.1.1) 0 45 S.1.1) 0 41 = 0 := by simp [mI_uI]
  have g42 : mI (uI (uI (uI (uI (uI (uI (uI u 0 0 0) 0 40 0) 0 41 0) 0 42 (-1)) 0 43 0) 0 44 S.1.1) 0 45 S.1.1) 0 42 = -1 := by simp [mI_uI]
  have g43 : mI (uI (uI (uI (uI (uI (uI (uI u 0 0 0) 0 40 0) 0 41 0) 0 42 (-1)) 0 43 0) 0 44 S.1.1) 0 45 S.1.1) 0 43 = 0 := by simp [mI_uI]
  have g44 : mI (uI (uI (uI (uI (uI (uI (uI u 0 0 0) 0 40 0) 0 41 0) 0 42 (-1)) 0 43 0) 0 44 S.1.1) 0 45 S.1.1) 0 44 = S.1.1 := by simp [mI_uI]
  have g45 : mI (uI (uI (uI (uI (uI (uI (uI u 0 0 0) 0 40 0) 0 41 0) 0 42 (-1)) 0 43 0) 0 44 S.1.1) 0 45 S.1.1) 0 45 = S.1.1 := by simp [mI_uI]
  generalize uI (uI (uI (uI (uI (uI (uI u 0 0 0) 0 40 0) 0 41 0) 0 42 (-1)) 0 43 0) 0 44 S.1.1) 0 45 S.1.1 = u1 at f1 g0 g40 g41 g42 g43 g44 g45
  clear K
  have t39 : ∀ (v : Mu), FrM [(0, some 0), (0, some 40), (0, some 41), (0, some 42), (0, some 43), (0, some 44), (0, some 45), (0, some 56)] u v → ∀ i, 0 ≤ i → i < 400 → mI v 39 i = S.1.2.1 i := fun v f i a b => (mE f (R := [(39, none)]) (by decide) (wHas_a (by decide))).trans (R.2.1.2.1 i a b)
  -- blanks before
  unfold F_X12_enter_57
  refine lp_I (fun v => FrM [(0, some 43)] u1 v ∧ ∃ j, mI v 0 43 = j ∧ (0 ≤ j ∧ j ≤ S.1.1) ∧ skp (S.1.2.1, S.1.1, S.1.1) j = tA S) (fun v => (S.1.1 - mI v 0 43).toNat) ?_ u1 ⟨FrM_rf, 0, g43, ⟨Int.le_refl 0, bT.1⟩, rfl⟩
  rintro G v ⟨fv, j, v43, ⟨j0, j1⟩, ej⟩ ih
  have fuv : FrM [(0, some 0), (0, some 40), (0, some 41), (0, some 42), (0, some 43), (0, some 44), (0, some 45), (0, some 56)] u v := FrM_tr f1 (FrM_sub fv (by decide))
  have v44 : mI v 0 44 = S.1.1 := (mE fv (R := [(0, some 44)]) (by decide) (wHas_i (by decide))).trans g44
  unfold L_X12_enter_57
  rw [v43, v44]
  have bj : ¬ S.1.1 ≤ j → bt (S.1.2.1, S.1.1, S.1.1) j = S.1.2.1 j := fun q => bt_is j0 (by show j < S.1.1; omega)
  by_cases cgo : ¬ S.1.1 ≤ j ∧ S.1.2.1 j = 32
  · rw [if_neg cgo.1]
    refine ⟨j0, by omega, ?_⟩
    rw [t39 v fuv j j0 (by omega), if_pos cgo.2, w32e (by omega) (by omega)]
    rintro _ rfl
    refine ih _ ⟨FrM_uI fv (wHas_i (by decide)), j + 1, by simp [mI_uI], ⟨by omega, by omega⟩, ?_⟩ (by rw [show mI (uI v 0 43 (j + 1)) 0 43 = j + 1 by simp [mI_uI], v43]; omega)
    rw [← ej]
    exact (rn_1 (t := (S.1.2.1, S.1.1, S.1.1)) blB_n j0 (blB_i.mpr (by rw [bj cgo.1]; exact cgo.2))).symm
  have ea : j = tA S := by
    rw [← ej]
    refine (skp_0 ?_).symm
    by_cases q : S.1.1 ≤ j
    · rw [bt_out (by show ¬ (0 ≤ j ∧ j < S.1.1); omega)]; decide
    · rw [bj q]; exact fun w' => cgo ⟨q, w'⟩
  have next : F_X12_enter_95 r c v P := by
    clear ih cgo
    unfold F_X12_enter_95
    refine lp_I (fun w' => FrM [(0, some 44)] v w' ∧ ∃ (k : Int) (n : Nat), mI w' 0 44 = k ∧ (tA S ≤ k ∧ k ≤ S.1.1) ∧ (k - tA S).toNat ≤ n ∧ trm S.1.2.1 (tA S) n k = tE S) (fun w' => (mI w' 0 44).toNat) ?_ v ⟨FrM_rf, S.1.1, S.1.1.toNat, v44, ⟨ab.2.1, Int.le_refl _⟩, by omega, rfl⟩
    rintro G2 w' ⟨fw, k, n, w44, ⟨k0, k1⟩, kn, ek⟩ ih2
    have fuw : FrM [(0, some 0), (0, some 40), (0, some 41), (0, some 42), (0, some 43), (0, some 44), (0, some 45), (0, some 56)] u w' := FrM_tr fuv (FrM_sub fw (by decide))
    have w43 : mI w' 0 43 = tA S := ((mE fw (R := [(0, some 43)]) (by decide) (wHas_i (by decide))).trans v43).trans ea
    unfold L_X12_enter_95
    rw [w43, w44]
    by_cases cgo : tA S < k ∧ S.1.2.1 (k - 1) = 32
    · rw [if_neg (by omega), w32e (x := k - 1) (by omega) (by omega)]
      refine ⟨by omega, by omega, ?_⟩
      rw [t39 w' fuw (k - 1) (by omega) (by omega), if_pos cgo.2]
      rintro _ rfl
      obtain ⟨n', rfl⟩ : ∃ n', n = n' + 1 := ⟨n - 1, by omega⟩
      rw [trm, if_pos cgo] at ek
      exact ih2 _ ⟨FrM_uI fw (wHas_i (by decide)), k - 1, n', by simp [mI_uI], ⟨by omega, by omega⟩, by omega, ek⟩ (by rw [show mI (uI w' 0 44 (k - 1)) 0 44 = k - 1 by simp [mI_uI], w44]; omega)
    have eE : k = tE S := by
      rw [← ek]
      cases n with
      | zero => rw [trm]
      | succ n' => rw [trm, if_neg cgo]
    have fin : F_X12_enter_135 r c w' P := by
      clear ih2 cgo
      have w45 : mI w' 0 45 = S.1.1 := ((mE fw (R := [(0, some 45)]) (by decide) (wHas_i (by decide))).trans (mE fv (R := [(0, some 45)]) (by decide) (wHas_i (by decide)))).trans g45
      have w0 : ∀ i, wHas [(0, some 0), (0, some 40), (0, some 41), (0, some 42)] 0 i → mI w' 0 i = mI u1 0 i := fun i hi => (mE fw (R := [(0, some 0), (0, some 40), (0, some 41), (0, some 42)]) (by decide) hi).trans (mE fv (R := [(0, some 0), (0, some 40), (0, some 41), (0, some 42)]) (by decide) hi)
      have w41 : mI w' 0 41 = 0 := (w0 41 (wHas_i (by decide))).trans g41
      have w42 : mI w' 0 42 = -1 := (w0 42 (wHas_i (by decide))).trans g42
      have w40 : mI w' 0 40 = 0 := (w0 40 (wHas_i (by decide))).trans g40
      have w00 : mI w' 0 0 = 0 := (w0 0 (wHas_i (by decide))).trans g0
      -- what is entered
      have fx : FrM [(0, some 0), (0, some 40), (0, some 41), (0, some 42), (0, some 43), (0, some 44), (0, some 45), (0, some 56)] u (uI w' 0 56 0) := FrM_uI fuw (wHas_i (by decide))
      have x43 : mI (uI w' 0 56 0) 0 43 = tA S := by simp [mI_uI]; exact w43
      have x44 : mI (uI w' 0 56 0) 0 44 = tE S := by simp [mI_uI]; rw [w44, eE]
      have x45 : mI (uI w' 0 56 0) 0 45 = S.1.1 := by simp [mI_uI]; exact w45
      have x41 : mI (uI w' 0 56 0) 0 41 = 0 := by simp [mI_uI]; exact w41
      have x42 : mI (uI w' 0 56 0) 0 42 = -1 := by simp [mI_uI]; exact w42
      have x40 : mI (uI w' 0 56 0) 0 40 = 0 := by simp [mI_uI]; exact w40
      have x00 : mI (uI w' 0 56 0) 0 0 = 0 := by simp [mI_uI]; exact w00
      have x56 : mI (uI w' 0 56 0) 0 56 = 0 := by simp [mI_uI]
      unfold F_X12_enter_135 F_X12_enter_164 F_X12_enter_165
      rw [w43, w44, eE]
      generalize uI w' 0 56 0 = x at fx x43 x44 x45 x41 x42 x40 x00 x56
      obtain ⟨⟨⟨n1, n2⟩, n3, n4⟩, -⟩ := id R
      have gx : Grw u x := Grw_fr n1 fx (by decide)
      have x19 : mI x 0 19 = mI u 0 19 := mE fx (R := [(0, some 19)]) (by decide) (wHas_i (by decide))
      have x24 : mI x 0 24 = mI u 0 24 := mE fx (R := [(0, some 24)]) (by decide) (wHas_i (by decide))
      have x25 : mI x 0 25 = S.2.2.1.2.2.2.1 := (mE fx (R := [(0, some 25)]) (by decide) (wHas_i (by decide))).trans R.2.2.2.1.2.2.2.1
      have Cx : CxM (tT S) x := ⟨⟨x44, x45⟩, ⟨by show 0 ≤ tE S; omega, eb.2.1, bT.2⟩, fun k k0 k1 => ⟨t39 x fx k k0 (by have : k < tE S := k1; omega), hT k k0 (by have : k < tE S := k1; omega)⟩⟩
      have Ex : EnP (tT S) S x := by
        refine ⟨Cx, ⟨⟨by rw [x25]; exact hM.1, by rw [x25]; exact hM.2⟩, by omega, by omega⟩, ⟨(mE fx (R := [(0, some 8)]) (by decide) (wHas_i (by decide))).trans R.2.2.1.1, by have := hB.2.1.1; omega, hB.2.1.1.2⟩, fun v hv => ?_⟩
        have hv1 := hv.1
        have hv2 := hv.2
        unfold shOf slt
        by_cases c1 : v = -1
        · rw [if_pos c1, if_pos c1]
          exact ⟨ShM_s bw gx (SlM_fr fx (by decide)) R.2.2.2.2.1.1, bw⟩
        · rw [if_neg c1, if_neg c1]
          have q := R.2.2.1.2 v (by omega) hv2
          have bv := (hB.2.1.2 v (by omega) hv2).1
          exact ⟨ShM_s bv gx (SlM_fr fx (by decide)) q.1, bv⟩
      -- the end of it all
      have tail : ∀ (y : Mu) (s0 q : Int) (k : Cont), pRd S = .inr k → FrM wEnM u y → Grw u y → mI y 0 0 = 0 → mI y 0 40 = 0 → mI y 0 41 = 0 → mI y 0 42 = -1 → mI y 0 25 = S.2.2.1.2.2.2.1 → mI y 0 19 ≤ mI u 0 19 + S.1.1 → mI y 0 24 ≤ mI u 0 24 + 1 → mI y 0 56 = (pcN k : Int) → ((s0 = 0 ∧ pcN k = 0 ∧ ContM y q k) ∨ (s0 = 1 ∧ (1 ≤ pcN k ∧ pcN k ≤ 60) ∧ ∀ v, FrM [(38, none), (0, some 25)] y v → Grw u v → mI v 38 (mI y 0 25) = (pcN k : Int) → mI v 0 25 = mI y 0 25 + (pcN k : Int) → (∀ i, i ≠ mI y 0 25 → mI v 38 i = mI y 38 i) → ContM v (mI y 0 25 + 1) k)) → F_X12_enter_193 r c s0 q y P := by
        intro y s0 q k hk fy gy y00 y40 y41 y42 y25 y19 y24 y56 hc
        have hp : pcN k ≤ 60 := by
          rcases hc with ⟨-, q1, -⟩ | ⟨-, q1, -⟩
          · omega
          · exact q1.2
        unfold F_X12_enter_193
        unfold pEnter at h
        rw [if_pos eh, hk] at h
        simp only at h
        rw [if_pos (by omega), y25, y56, w32e (x := S.2.2.1.2.2.2.1 + (pcN k : Int)) (by omega) (by omega)]
        by_cases c6 : S.2.2.1.2.2.2.1 + (pcN k : Int) ≤ 60000
        · rw [if_pos c6]
          rw [if_pos c6] at h
          have put : ∀ (v : Mu) (q' : Int), FrM wEnM u v → RM v (N + 1) (setP (setT S 0 (-1)) (S.2.2.1.2.2.2.1 + (pcN k : Int))) → mI v 0 0 = 0 → mI v 0 56 = (pcN k : Int) → ContM v q' k → F_X12_enter_266 r c q' v P := by
            intro v q' fv2 Rv v00 v56 cv
            unfold F_X12_enter_266
            have hB2 : Bd (setP (setT S 0 (-1)) (S.2.2.1.2.2.2.1 + (pcN k : Int))) := ⟨⟨by show (0 : Int) ≤ 0; decide, by show (0 : Int) ≤ 400; decide⟩, hB.2⟩
            refine i_step hB2 Rv (fun v2 s' R2 f2 z2 _ _ => ?_)
            have gs := Grw_fr Rv.1.1.1 f2 (by decide)
            refine i_setCell eh.1.1 (by omega) eh.2.1 (by omega) ?_
            have hB3 := Bd_step0 hB2
            have R3 := RM_cell (r := r - 1) (c := c - 1) hB3 R2 ⟨by omega, by omega⟩ ⟨by omega, by omega⟩ (ContM_g gs cv)
            have v256 : mI (uI v2 5 (12800 + 10 * (r - 1) + (c - 1)) q') 0 56 = (pcN k : Int) := by
              rw [mI_uI, if_neg (by omega), mE f2 (R := [(0, some 56)]) (by decide) (wHas_i (by decide))]; exact v56
            rw [v256]
            have pw : (pStep0 (setP (setT S 0 (-1)) (S.2.2.1.2.2.2.1 + (pcN k : Int)))).2.2.2.1.1 = S.2.2.2.1.1 := pStep0_w _
            rw [pw] at R3
            refine h _ R3 (FrM_uI (FrM_tr (FrM_sub fv2 (by decide)) (FrM_sub f2 (by decide))) (wHas_a (by decide))) ?_
            exact ⟨by rw [mI_uI, if_neg (by omega), z2.1, v00]; rfl, Or.inl (by rw [mI_uI, if_neg (by omega)]; exact z2.2)⟩
          rcases hc with ⟨s00, q1, cq⟩ | ⟨s01, q1, cq⟩
          · rw [if_pos s00]
            have e0 : (pcN k : Int) = 0 := by omega
            exact put y q fy (RM_en hB R fy gy y40 y41 y42 (by rw [y25, e0]; omega) y19 y24) y00 y56 cq
          · rw [if_neg (by omega)]
            refine ⟨hM.1, by omega, ?_⟩
            rintro _ rfl
            have z25 : mI (uI y 38 S.2.2.1.2.2.2.1 (pcN k : Int)) 0 25 = S.2.2.1.2.2.2.1 := by rw [mI_uI, if_neg (by omega)]; exact y25
            have z56 : mI (uI y 38 S.2.2.1.2.2.2.1 (pcN k : Int)) 0 56 = (pcN k : Int) := by rw [mI_uI, if_neg (by omega)]; exact y56
            rw [z25, z56, w32e (x := S.2.2.1.2.2.2.1 + (pcN k : Int)) (by omega) (by omega), w32e (x := S.2.2.1.2.2.2.1 + 1) (by omega) (by omega)]
            rintro _ rfl
            have fz : FrM [(38, none), (0, some 25)] y (uI (uI y 38 S.2.2.1.2.2.2.1 (pcN k : Int)) 0 25 (S.2.2.1.2.2.2.1 + (pcN k : Int))) := FrM_uI (FrM_uI FrM_rf (wHas_a (by decide))) (wHas_i (by decide))
            have z38 : ∀ i, mI (uI (uI y 38 S.2.2.1.2.2.2.1 (pcN k : Int)) 0 25 (S.2.2.1.2.2.2.1 + (pcN k : Int))) 38 i = if i = S.2.2.1.2.2.2.1 then (pcN k : Int) else mI y 38 i := fun i => by
              rw [mI_uI, if_neg (by omega), mI_uI]
              by_cases e : i = S.2.2.1.2.2.2.1
              · rw [if_pos ⟨rfl, e⟩, if_pos e]
              · rw [if_neg (fun q => e q.2), if_neg e]
            have zz25 : mI (uI (uI y 38 S.2.2.1.2.2.2.1 (pcN k : Int)) 0 25 (S.2.2.1.2.2.2.1 + (pcN k : Int))) 0 25 = S.2.2.1.2.2.2.1 + (pcN k : Int) := by simp [mI_uI]
            generalize uI (uI y 38 S.2.2.1.2.2.2.1 (pcN k : Int)) 0 25 (S.2.2.1.2.2.2.1 + (pcN k : Int)) = v at fz z38 zz25
            have u25 : mI u 0 25 = S.2.2.1.2.2.2.1 := R.2.2.2.1.2.2.2.1
            have vE : ∀ i, wHas [(0, some 0), (0, some 40), (0, some 41), (0, some 42), (0, some 19), (0, some 24), (0, some 56)] 0 i → mI v 0 i = mI y 0 i := fun i hi => mE fz (R := [(0, some 0), (0, some 40), (0, some 41), (0, some 42), (0, some 19), (0, some 24), (0, some 56)]) (by decide) hi
            have gv : Grw u v := by
              obtain ⟨⟨h1, h2, h3, h4⟩, h5, h6, h7⟩ := gy
              have e19 := vE 19 (wHas_i (by decide))
              have e24 := vE 24 (wHas_i (by decide))
              refine ⟨⟨h1, by omega, by omega, by omega⟩, fun i a b => (mE fz (R := [(18, none)]) (by decide) (wHas_a (by decide))).trans (h5 i a b), fun i a b => ?_, fun i a b => ⟨(gE fz (R := [(29, none)]) (by decide) (wHas_a (by decide))).trans (h7 i a b).1, fun k k0 k1 => ?_⟩⟩
              · obtain ⟨p1, p2, p3, p4⟩ := h6 i a b
                exact ⟨(mE fz (R := [(20, none)]) (by decide) (wHas_a (by decide))).trans p1, (gE fz (R := [(21, none)]) (by decide) (wHas_a (by decide))).trans p2, (mE fz (R := [(22, none)]) (by decide) (wHas_a (by decide))).trans p3, (mE fz (R := [(23, none)]) (by decide) (wHas_a (by decide))).trans p4⟩
              · by_cases e38 : k = 38
                · rw [e38, z38, if_neg (by omega)]; exact (h7 i a b).2 38 (by decide) (by decide)
                · rw [fz.1 k i (fun q => by
                    obtain ⟨t, t1, t2, t3⟩ := q
                    have : t = (38, none) ∨ t = (0, some 25) := by simpa using t1
                    rcases this with rfl | rfl
                    · exact e38 t2.symm
                    · have : (0 : Nat) = k := t2
                      omega)]
                  exact (h7 i a b).2 k k0 k1
            have fuv2 : FrM wEnM u v := FrM_tr fy (FrM_sub fz (by decide))
            refine put v _ fuv2 (RM_en hB R fuv2 gv ((vE 40 (wHas_i (by decide))).trans y40) ((vE 41 (wHas_i (by decide))).trans y41) ((vE 42 (wHas_i (by decide))).trans y42) zz25 (by rw [vE 19 (wHas_i (by decide))]; exact y19) (by rw [vE 24 (wHas_i (by decide))]; exact y24)) ((vE 0 (wHas_i (by decide))).trans y00) ((vE 56 (wHas_i (by decide))).trans y56) ?_
            have := cq v fz gv (by rw [y25, z38, if_pos rfl]) (by rw [y25]; exact zz25) (fun i hi => by rw [z38, if_neg (by rw [y25] at hi; exact hi)])
            rw [y25] at this
            exact this
        · rw [if_neg c6]
          rw [if_neg c6] at h
          refine i_throwing ?_
          have R9 := RM_en hB R fy gy y40 y41 y42 y25 y19 y24
          rw [show setP (setT S 0 (-1)) S.2.2.1.2.2.2.1 = setT S 0 (-1) from rfl] at R9
          have hB9 : Bd (setT S 0 (-1)) := ⟨⟨by show (0 : Int) ≤ 0; decide, by show (0 : Int) ≤ 400; decide⟩, hB.2⟩
          exact h _ (RM_thr hB9 R9) (FrM_uI (FrM_sub fy (by decide)) (wHas_i (by decide))) ⟨by rw [mI_uI, if_pos ⟨rfl, rfl⟩]; rfl, Or.inr ⟨by rw [mI_uI, if_neg (by omega)]; exact e65 fy (by decide), rfl, rfl⟩⟩
      have bad : ∀ (y : Mu) (s0 q : Int) (e : Int × Int), pRd S = .inl e → FrM wEnM u y → Grw u y → mI y 0 40 = 0 → mI y 0 41 = e.1 → mI y 0 42 = e.2 → 0 < e.1 → mI y 0 25 = S.2.2.1.2.2.2.1 → mI y 0 19 ≤ mI u 0 19 + S.1.1 → mI y 0 24 ≤ mI u 0 24 + 1 → F_X12_enter_193 r c s0 q y P := by
        intro y s0 q e he fy gy y40 y41 y42 e0 y25 y19 y24
        unfold F_X12_enter_193
        unfold pEnter at h
        rw [if_pos eh, he] at h
        simp only at h
        rw [if_neg (by omega)]
        refine i_throwing ?_
        have R9 := RM_en hB R fy gy y40 y41 y42 y25 y19 y24
        rw [show setP (setT S e.1 e.2) S.2.2.1.2.2.2.1 = setT S e.1 e.2 from rfl] at R9
        have hB9 : Bd (setT S e.1 e.2) := ⟨⟨by show (0 : Int) ≤ 0; decide, by show (0 : Int) ≤ 400; decide⟩, hB.2⟩
        exact h _ (RM_thr hB9 R9) (FrM_uI (FrM_sub fy (by decide)) (wHas_i (by decide))) ⟨by rw [mI_uI, if_pos ⟨rfl, rfl⟩]; rfl, Or.inr ⟨by rw [mI_uI, if_neg (by omega)]; exact e65 fy (by decide), rfl, rfl⟩⟩
      have fxE : FrM wEnM u x := FrM_sub fx (by decide)
      have plain : ¬ (tA S < tE S ∧ S.1.2.1 (tA S) = 61) → F_X12_plainEntered x (fun x_188 u_188 => F_X12_enter_193 r c 0 x_188 u_188 P) := by
        intro np
        have ep : pRd S = pPlain (tT S) (tA S) := by unfold pRd; rw [if_neg np]
        have keep : ∀ y, FrM wPl x y → ∀ i, wHas [(0, some 0), (0, some 40), (0, some 25), (0, some 56)] 0 i → mI y 0 i = mI x 0 i := fun y f i hi => mE f (R := [(0, some 0), (0, some 40), (0, some 25), (0, some 56)]) (by decide) hi
        refine i_plainE Cx x43 ab.1 eb.1 x41 (by omega) (by omega) (fun e y he fy gy y41 y42 e0 y24 y19 => ?_) (fun k q y he fy gy y41 y42 cq y24 y19 => ?_)
        · have l19 : mI y 0 19 ≤ mI x 0 19 + tE S := y19
          exact bad y 0 0 e (ep.trans he) (FrM_tr fxE (FrM_sub fy (by decide))) (Grw_t gx gy) ((keep y fy 40 (wHas_i (by decide))).trans x40) y41 y42 e0 ((keep y fy 25 (wHas_i (by decide))).trans x25) (by omega) (by omega)
        · have l19 : mI y 0 19 ≤ mI x 0 19 + tE S := y19
          have pk : pcN k = 0 := by
            match k, cq, he with
            | none, _, _ => rfl
            | some (kk, l, ps), cq, he =>
              unfold ContM at cq
              simp only at cq
              split at cq
              · next c5 =>
                exfalso
                subst c5
                have he : pPlain (tT S) (tA S) = .inr (some (5, l, ps)) := he
                unfold pPlain at he
                split at he
                · cases he
                · split at he
                  · cases he
                  · by_cases npp : numP (subL (tT S) (tA S) ((tT S).2.1 - tA S).toNat)
                    · rw [ci_1 npp] at he; cases he
                    · rw [ci_0 npp] at he
                      split at he
                      · cases he
                      · split at he
                        · cases he
                        · split at he
                          · cases he
                          · cases he
              · show ps.length = 0
                rw [cq.2.1]; rfl
          exact tail y 0 q k (ep.trans he) (FrM_tr fxE (FrM_sub fy (by decide))) (Grw_t gx gy) ((keep y fy 0 (wHas_i (by decide))).trans x00) ((keep y fy 40 (wHas_i (by decide))).trans x40) y41 (y42.trans x42) ((keep y fy 25 (wHas_i (by decide))).trans x25) (by omega) (by omega) (by rw [keep y fy 56 (wHas_i (by decide)), x56, pk]; rfl) (Or.inl ⟨rfl, pk, cq⟩)
      by_cases ce : tE S ≤ tA S
      · rw [if_pos ce]
        rintro _ rfl
        rw [if_pos rfl]
        exact plain (fun q => by omega)
      · rw [if_neg ce]
        refine ⟨ab.1, by omega, ?_⟩
        rw [t39 w' fuw (tA S) ab.1 (by omega)]
        by_cases c61 : S.1.2.1 (tA S) = 61
        · rw [if_pos c61]
          intro u172 e172
          rw [e172, if_neg (by decide)]
          have ef : pRd S = (match pForm (tT S) S (tA S) with
              | .inl e => .inl e
              | .inr ps => .inr (some (5, (0, 0, []), ps))) := by unfold pRd; rw [if_pos ⟨by omega, c61⟩]
          have keep : ∀ y, FrM wPr x y → ∀ i, wHas [(0, some 0), (0, some 40), (0, some 25), (0, some 24)] 0 i → mI y 0 i = mI x 0 i := fun y f i hi => mE f (R := [(0, some 0), (0, some 40), (0, some 25), (0, some 24)]) (by decide) hi
          refine i_form (t := tT S) Ex hI x41 x42 x56 x43 ab.1 (by show tA S < tE S; omega) (fun e y he F => ?_) (fun ps y xx he Rp => ?_)
          · have l19 : mI y 0 19 ≤ mI x 0 19 + tE S := F.2.2
            rw [he] at ef
            exact bad y 1 0 e ef (FrM_tr fxE (FrM_sub F.1.1 (by decide))) (Grw_t gx F.1.2) ((keep y F.1.1 40 (wHas_i (by decide))).trans x40) F.2.1.1 F.2.1.2.1 F.2.1.2.2 ((keep y F.1.1 25 (wHas_i (by decide))).trans x25) (by omega) (by rw [keep y F.1.1 24 (wHas_i (by decide))]; omega)
          · rw [he] at ef
            have l19 : mI y 0 19 ≤ mI x 0 19 + tE S := Rp.2.2.1
            obtain ⟨⟨wf1, wf2⟩, wf3⟩ := pForm_f hI Ex.2.2.1.2.1 ab.1 (by show tA S < tE S; omega) he
            have y25 : mI y 0 25 = S.2.2.1.2.2.2.1 := (keep y Rp.1.1 25 (wHas_i (by decide))).trans x25
            refine tail y 1 0 (some (5, (0, 0, []), ps)) ef (FrM_tr fxE (FrM_sub Rp.1.1 (by decide))) (Grw_t gx Rp.1.2) ((keep y Rp.1.1 0 (wHas_i (by decide))).trans x00) ((keep y Rp.1.1 40 (wHas_i (by decide))).trans x40) Rp.2.1.1 Rp.2.1.2.1 y25 (by omega) (by rw [keep y Rp.1.1 24 (wHas_i (by decide))]; omega) Rp.2.1.2.2.1 (Or.inr ⟨rfl, wf1, fun v fv gv v38 v25 vo => ?_⟩)
            unfold ContM
            simp only
            rw [if_pos trivial, y25, show S.2.2.1.2.2.2.1 + 1 - 1 = S.2.2.1.2.2.2.1 by omega]
            have pl : pcN (some (5, (0, 0, []), ps)) = ps.length := rfl
            rw [pl, y25] at v25
            rw [pl, y25] at v38
            refine ⟨⟨by omega, by omega⟩, v38, ⟨wf1, wf2⟩, trivial, fun i hi => ?_⟩
            obtain ⟨p1, p2, p3⟩ := Rp.2.2.2.2 i hi
            rw [x25] at p1 p2 p3
            have e : ∀ m, 26 ≤ m → m ≤ 37 → mI v m (S.2.2.1.2.2.2.1 + i) = mI y m (S.2.2.1.2.2.2.1 + i) := fun m h1 h2 => fv.1 m _ (fun q => by
              obtain ⟨t, t1, t2, t3⟩ := q
              have : t = (38, none) ∨ t = (0, some 25) := by simpa using t1
              rcases this with rfl | rfl
              · have : (38 : Nat) = m := t2
                omega
              · have : (0 : Nat) = m := t2
                omega)
            have e29 := gE fv (R := [(29, none)]) (by decide) (k := 29) (i := S.2.2.1.2.2.2.1 + (i : Int)) (wHas_a (by decide))
            have v19 : mI v 0 19 = mI y 0 19 := mE fv (R := [(0, some 19)]) (by decide) (wHas_i (by decide))
            have p4 := p3 (fun q => q) rfl
            have enx : (if i + 1 < ps.length then (ps.getD (i + 1) pd0).1 else 0) = (ps.getD (i + 1) pd0).1 := by
              by_cases c1 : i + 1 < ps.length
              · rw [if_pos c1]
              · rw [if_neg c1, List.getD_eq_getElem?_getD, List.getElem?_eq_none (by omega)]; rfl
            rw [enx] at p4
            obtain ⟨k0, k1, k2, k3, k4, k5, k6, k7, k8⟩ := PrR_e e e29 (fun x' bs kk => ⟨kk.1, by rw [v19]; exact kk.2.1, fun jj hj => (mE fv (R := [(18, none)]) (by decide) (wHas_a (by decide))).trans (kk.2.2 jj hj)⟩) p1
            exact ⟨⟨k1, k2, k3, k4, k5, k6, k7, (e 36 (by decide) (by decide)).trans p4, k8, (wf3 i hi).1⟩, (e 28 (by decide) (by decide)).trans p2⟩
        · rw [if_neg c61]
          rintro _ rfl
          rw [if_pos rfl]
          exact plain (fun q => c61 q.2)
    by_cases ce : k ≤ tA S
    · rw [if_pos ce]; exact fin
    · rw [if_neg ce, w32e (x := k - 1) (by omega) (by omega)]
      refine ⟨by omega, by omega, ?_⟩
      rw [t39 w' fuw (k - 1) (by omega) (by omega), if_neg (fun q => cgo ⟨by omega, q⟩)]
      exact fin
  by_cases ce : S.1.1 ≤ j
  · rw [if_pos ce]; exact next
  · rw [if_neg ce]
    refine ⟨j0, by omega, ?_⟩
    rw [t39 v fuv j j0 (by omega), if_neg (fun q => cgo ⟨ce, q⟩)]
    exact next
