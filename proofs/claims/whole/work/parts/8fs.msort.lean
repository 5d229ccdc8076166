/-! ===== sort: insertion, and the reference's places ===== -/
def upF (q : Int → Int) (k x : Int) : Int → Int := fun i => if i = k then x else q i
noncomputable def insF (ah : Int → Int → Prop) (x : Int) : Nat → (Int → Int) → Int → Int
  | 0, q => upF q 0 x
  | k + 1, q => ci (ah x (q k)) (insF ah x k (upF q ((k : Int) + 1) (q k))) (upF q ((k : Int) + 1) x)
noncomputable def srtF (ah : Int → Int → Prop) : Nat → (Int → Int) → Int → Int
  | 0, q => q
  | n + 1, q => insF ah n n (srtF ah n q)
def wSo : WR := [(66, none), (67, none), (68, none), (69, none), (70, none), (88, none)]
theorem CvM_so {u v : Mu} {x : Int} {l : Lit} (f : FrM wSo u v) (h : CvM u x l) : CvM v x l := CvM_e f (by decide) h
theorem e_s110 {u : Mu} {x2 t n base x : Int} {val : Int → Lit} {Q : (Int × Mu) ⊕ Mu → Prop} (ht : t = 0 ∨ t = 1) (n1 : n ≤ 32) (b0 : 0 ≤ base) (b1 : ∀ y, 0 ≤ y → y < n → base + 10 * y < 13120) (V : ∀ y, 0 ≤ y → y < n → CvM u (base + 10 * y) (val y)) (x0 : 0 ≤ x) (x1 : x < n) (hq : ∀ j, 0 ≤ j → j < x → 0 ≤ mI u 88 j ∧ mI u 88 j < n) (p : ∀ v, FrM wSo u v → mI v 88 = insF (fun a c => aheP t (val a) (val c)) x x.toNat (mI u 88) → Q (.inl (x + 1, v))) : F_X12_sort_110 x2 t n base x x u Q := by
  unfold F_X12_sort_110
  refine lp_I (fun q => ∃ (k : Nat) (w : Mu), q = ((k : Int), w) ∧ (k : Int) ≤ x ∧ FrM wSo u w ∧ (∀ j, 0 ≤ j → j < (k : Int) → 0 ≤ mI w 88 j ∧ mI w 88 j < n) ∧ insF (fun a c => aheP t (val a) (val c)) x k (mI w 88) = insF (fun a c => aheP t (val a) (val c)) x x.toNat (mI u 88)) (fun q => q.1.toNat) ?_ (x, u) ⟨x.toNat, u, by rw [Int.toNat_of_nonneg x0], by omega, FrM_rf, fun j j0 j1 => hq j j0 (by omega), rfl⟩
  rintro G _ ⟨k, w, rfl, kx, f, hw, e⟩ ih
  show L_X12_sort_110 x2 t n base x (k : Int) w _
  unfold L_X12_sort_110
  have upE : ∀ (v : Mu) (i y : Int), mI (uI v 88 i y) 88 = upF (mI v 88) i y := fun v i y => by
    funext j
    unfold upF
    rw [mI_uI]
    by_cases c : j = i
    · rw [if_pos ⟨rfl, c⟩, if_pos c]
    · rw [if_neg (fun q => c q.2), if_neg c]
  have fin : ∀ v (i : Int), 0 ≤ i → i < 32 → FrM wSo u v → upF (mI v 88) i x = insF (fun a c => aheP t (val a) (val c)) x x.toNat (mI u 88) → F_X12_sort_169 x2 t n base x i v Q := fun v i i0 i1 fv ev => by
    unfold F_X12_sort_169
    refine ⟨i0, i1, fun v' hv' => ?_⟩
    rw [w32e (x := x + 1) (by omega) (by omega)]
    subst hv'
    exact p _ (FrM_uI fv (wHas_a (by decide))) (by rw [upE]; exact ev)
  match k, kx, hw, e, ih with
  | 0, kx, hw, e, ih =>
    rw [if_pos (by decide)]
    show F_X12_sort_169 x2 t n base x _ w Q
    exact fin w 0 (by decide) (by decide) f e
  | k + 1, kx, hw, e, ih =>
    rw [if_neg (by omega), show ((k + 1 : Nat) : Int) - 1 = (k : Int) by omega, w32e (x := (k : Int)) (by omega) (by omega)]
    obtain ⟨q0, q1⟩ := hw k (by omega) (by omega)
    have c1 := b1 x x0 x1
    have c2 := b1 _ q0 q1
    rw [w32e (x := 10 * x) (by omega) (by omega), w32e (x := base + 10 * x) (by omega) (by omega), w32e (x := 10 * mI w 88 k) (by omega) (by omega), w32e (x := base + 10 * mI w 88 k) (by omega) (by omega)]
    refine ⟨by omega, by omega, ?_⟩
    refine e_ahead (by omega) c1 (by omega) c2 ht (CvM_so f (V x x0 x1)) (CvM_so f (V _ q0 q1)) (fun ha v fv => ?_) (fun ha v fv => ?_)
    · rw [if_neg (by decide)]
      have e88 : mI v 88 = mI w 88 := funext (fun i => mE fv.1 (R := [(88, none)]) (by decide) (wHas_a (by decide)))
      have fuv : FrM wSo u v := FrM_tr f (FrM_up fv.1 (by decide))
      refine ⟨by omega, by omega, fun v' hv' => ?_⟩
      rw [show ((k + 1 : Nat) : Int) + -1 = (k : Int) by omega, w32e (x := (k : Int)) (by omega) (by omega)]
      subst hv'
      have eu : mI (uI v 88 ((k + 1 : Nat) : Int) (mI v 88 (k : Int))) 88 = upF (mI w 88) ((k : Int) + 1) (mI w 88 k) := by rw [upE, e88]; rfl
      refine ih ((k : Int), _) ⟨k, _, rfl, by omega, FrM_uI fuv (wHas_a (by decide)), fun j j0 j1 => ?_, ?_⟩ (by show (k : Int).toNat < ((k + 1 : Nat) : Int).toNat; omega)
      · rw [eu]; unfold upF; rw [if_neg (by omega)]; exact hw j j0 (by omega)
      · rw [eu, ← e]
        show _ = ci _ _ _
        rw [ci_1 ha]
    · rw [if_pos rfl]
      show F_X12_sort_169 x2 t n base x _ v Q
      have e88 : mI v 88 = mI w 88 := funext (fun i => mE fv.1 (R := [(88, none)]) (by decide) (wHas_a (by decide)))
      refine fin v _ (by omega) (by omega) (FrM_tr f (FrM_up fv.1 (by decide))) ?_
      rw [e88, ← e]
      show _ = ci _ _ _
      rw [ci_0 ha]; rfl
