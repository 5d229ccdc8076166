/-! ===== sort: all places of the reference ===== -/
theorem ci_p {α : Type} {R : α → Prop} {p : Prop} {a c : α} (h1 : p → R a) (h2 : ¬ p → R c) : R (ci p a c) := by
  by_cases h : p
  · rw [ci_1 h]; exact h1 h
  · rw [ci_0 h]; exact h2 h
theorem insF_b {ah : Int → Int → Prop} {x : Int} {R : Int → Prop} (hx : R x) : ∀ (k : Nat) (q : Int → Int) (X : Int), (k : Int) ≤ X → (∀ j, 0 ≤ j → j ≤ X → j ≠ (k : Int) → R (q j)) → ∀ j, 0 ≤ j → j ≤ X → R (insF ah x k q j)
  | 0, q, X, kX, h, j, j0, j1 => by
    show R (upF q 0 x j)
    unfold upF
    by_cases c : j = 0
    · rw [if_pos c]; exact hx
    · rw [if_neg c]; exact h j j0 j1 c
  | k + 1, q, X, kX, h, j, j0, j1 => by
    rw [insF]
    refine ci_p (R := fun f : Int → Int => R (f j)) (fun _ => ?_) (fun _ => ?_)
    · refine insF_b hx k _ X (by omega) (fun i i0 i1 hne => ?_) j j0 j1
      unfold upF
      by_cases c : i = (k : Int) + 1
      · rw [if_pos c]; exact h k (by omega) (by omega) (by omega)
      · rw [if_neg c]; exact h i i0 i1 (by omega)
    · show R (upF q ((k : Int) + 1) x j)
      unfold upF
      by_cases c : j = (k : Int) + 1
      · rw [if_pos c]; exact hx
      · rw [if_neg c]; exact h j j0 j1 (by omega)
theorem srtF_b {ah : Int → Int → Prop} {q : Int → Int} {n : Int} : ∀ m : Nat, (m : Int) ≤ n → ∀ j, 0 ≤ j → j < (m : Int) → 0 ≤ srtF ah m q j ∧ srtF ah m q j < n
  | 0, _, j, j0, j1 => by omega
  | m + 1, hm, j, j0, j1 => by
    show 0 ≤ insF ah m m (srtF ah m q) j ∧ insF ah m m (srtF ah m q) j < n
    exact insF_b (R := fun y => 0 ≤ y ∧ y < n) ⟨by omega, by omega⟩ m (srtF ah m q) m (Int.le_refl _) (fun i i0 i1 hne => srtF_b m (by omega) i i0 (by omega)) j j0 (by omega)
theorem e_s99 {u : Mu} {x2 t n base : Int} {val : Int → Lit} {Kc : Mu → Prop} (ht : t = 0 ∨ t = 1) (n0 : 0 ≤ n) (n1 : n ≤ 32) (b0 : 0 ≤ base) (b1 : ∀ y, 0 ≤ y → y < n → base + 10 * y < 13120) (V : ∀ y, 0 ≤ y → y < n → CvM u (base + 10 * y) (val y)) (p : ∀ v, FrM wSo u v → mI v 88 = srtF (fun a c => aheP t (val a) (val c)) n.toNat (mI u 88) → Kc v) : lp (S := Int × Mu) (E := (Mu)) (fun q P_ => L_X12_sort_99 x2 t n base q.1 q.2 P_) (0, u) Kc := by
  refine lp_I (fun q => ∃ (k : Nat) (w : Mu), q = ((k : Int), w) ∧ (k : Int) ≤ n ∧ FrM wSo u w ∧ mI w 88 = srtF (fun a c => aheP t (val a) (val c)) k (mI u 88)) (fun q => (n - q.1).toNat) ?_ (0, u) ⟨0, u, rfl, n0, FrM_rf, rfl⟩
  rintro G _ ⟨k, w, rfl, kn, f, e⟩ ih
  show L_X12_sort_99 x2 t n base (k : Int) w _
  unfold L_X12_sort_99
  by_cases c : n ≤ (k : Int)
  · rw [if_pos c]
    exact p w f (by rw [e, show n.toNat = k by omega])
  · rw [if_neg c]
    refine e_s110 ht n1 b0 b1 (fun y y0 y1 => CvM_so f (V y y0 y1)) (by omega) (by omega) (fun j j0 j1 => by rw [e]; exact srtF_b k kn j j0 j1) (fun v fv ev => ?_)
    refine ih ((k : Int) + 1, v) ⟨k + 1, v, rfl, by omega, FrM_tr f fv, ?_⟩ (by show (n - ((k : Int) + 1)).toNat < (n - (k : Int)).toNat; omega)
    rw [ev, e, Int.toNat_natCast]; rfl
