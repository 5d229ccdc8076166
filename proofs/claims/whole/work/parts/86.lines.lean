/-! ===== lines with one more, with one less ===== -/
def wthF (f : Int → Int) (p id : Int) : Int → Int := fun i => if i = p - 1 then id else if i < p - 1 then f i else f (i - 1)
def wotF (f : Int → Int) (p : Int) : Int → Int := fun i => if i < p - 1 then f i else f (i + 1)
theorem k_with {z : Z} {la : Nat} {n p id : Int} {c s : Nat} {P : Option Nat → Z → Prop} (hk : zK z la = 15) (hn : zN z la = n) (n0 : 0 ≤ n) (n1 : n ≤ 63) (p0 : 1 ≤ p) (p1 : p ≤ n + 1) (hc : 1 ≤ c) (hs : 64 ≤ s) (h : ∀ a y, zK z a = 0 → FrZ nW z y → zK y a = 15 → zN y a = n + 1 → (∀ i, 0 ≤ i → i < n + 1 → zI y a i = wthF (zI z la) p id i) → P (some a) y) : F_X11_with (some la) p id z c s P := by
  unfold F_X11_with
  refine ⟨la, rfl, hk, ?_⟩
  rw [hn, w32e (x := n + 1) (by omega) (by omega)]
  refine ⟨by omega, by omega, hc, by omega, fun a ha => ?_⟩
  rintro _ rfl
  have nal : a ≠ la := fun e => by rw [e, hk] at ha; cases ha
  unfold F_X11_with_10
  refine lp_I (fun q => (0 ≤ q.1 ∧ q.1 ≤ n + 1) ∧ FrZ nW z q.2 ∧ zK q.2 a = 15 ∧ zN q.2 a = n + 1 ∧ ∀ i, 0 ≤ i → i < q.1 → zI q.2 a i = wthF (zI z la) p id i) (fun q => (n + 1 - q.1).toNat) ?_ (0, _) ⟨⟨by show (0 : Int) ≤ 0; decide, by show 0 ≤ n + 1; omega⟩, FrZ_nZ FrZ_rf ha, by show zK (nZ z a 15 (n + 1)) a = 15; rw [zK_nZ, if_pos rfl], by show zN (nZ z a 15 (n + 1)) a = n + 1; rw [zN_nZ, if_pos rfl], fun i i0 i1 => absurd i1 (by show ¬ i < 0; omega)⟩
  rintro G ⟨j, y⟩ ⟨⟨j0, j1⟩, f, ka, na, hi⟩ ih
  simp only at j0 j1 f ka na hi
  have kl : zK y la = 15 := (f.1 la (by rw [hk]; decide)).1.trans hk
  have nl : zN y la = n := (f.1 la (by rw [hk]; decide)).2.trans hn
  have el : ∀ i, zI y la i = zI z la i := fun i => (f.2 la i (by rw [hk]; decide) (fun w => w)).1
  have step : ∀ x, x = wthF (zI z la) p id j → j < n + 1 → F_X11_with_60 (some la) p id (some a) j (some a) j x y (c - 1) (s - (n + 1).toNat) (fun o => match o with
      | .inl s' => G s'
      | .inr e => (fun (z : Z) => P (some a) z) e) := by
    intro x hx hj
    unfold F_X11_with_60
    refine ⟨a, rfl, ka, j0, by rw [na]; exact hj, ?_⟩
    rintro _ rfl
    rw [w32e (by omega) (by omega)]
    refine ih (j + 1, _) ⟨⟨by show 0 ≤ j + 1; omega, by show j + 1 ≤ n + 1; omega⟩, FrZ_wI f (Or.inr ha), ka, na, fun i i0 i1 => ?_⟩ (by show (n + 1 - (j + 1)).toNat < (n + 1 - j).toNat; omega)
    replace i1 : i < j + 1 := i1
    show zI (wI y a j x) a i = _
    rw [zI_wI]
    by_cases e : i = j
    · rw [if_pos ⟨rfl, e⟩, hx, e]
    · rw [if_neg (fun w => e w.2)]; exact hi i i0 (by omega)
  unfold L_X11_with_10
  dsimp only
  refine ⟨a, rfl, ka, ?_⟩
  rw [na]
  by_cases e : n + 1 ≤ j
  · rw [if_pos e]
    have ej : j = n + 1 := by omega
    subst ej
    exact h a y ha f ka na hi
  · rw [if_neg e]
    rw [w32e (x := p - 1) (by omega) (by omega), w32e (x := j - 1) (by omega) (by omega)]
    by_cases e2 : p - 1 ≤ j
    · rw [if_pos e2]
      unfold F_X11_with_34 F_X11_with_52
      rw [w32e (x := p - 1) (by omega) (by omega)]
      by_cases e3 : j = p - 1
      · rw [if_pos e3]; exact step id (by unfold wthF; rw [if_pos e3]) (by omega)
      · rw [if_neg e3, if_pos (by omega)]
        refine ⟨la, rfl, kl, by omega, by rw [nl]; omega, step _ ?_ (by omega)⟩
        unfold wthF; rw [if_neg e3, if_neg (by omega)]; exact el _
    · rw [if_neg e2]
      unfold F_X11_with_34 F_X11_with_52
      rw [w32e (x := p - 1) (by omega) (by omega), if_neg (by omega), if_pos j0]
      refine ⟨la, rfl, kl, j0, by rw [nl]; omega, step _ ?_ (by omega)⟩
      unfold wthF; rw [if_neg (by omega), if_pos (by omega)]; exact el _
theorem k_without {z : Z} {la : Nat} {n p : Int} {c s : Nat} {P : Option Nat → Z → Prop} (hk : zK z la = 15) (hn : zN z la = n) (n0 : 1 ≤ n) (n1 : n ≤ 64) (p0 : 1 ≤ p) (p1 : p ≤ n) (hc : 1 ≤ c) (hs : 64 ≤ s) (h : ∀ a y, zK z a = 0 → FrZ nW z y → zK y a = 15 → zN y a = n - 1 → (∀ i, 0 ≤ i → i < n - 1 → zI y a i = wotF (zI z la) p i) → P (some a) y) : F_X11_without (some la) p z c s P := by
  unfold F_X11_without
  refine ⟨la, rfl, hk, ?_⟩
  rw [hn, w32e (x := n - 1) (by omega) (by omega), show max (n - 1) 0 = n - 1 by omega]
  refine ⟨by omega, by omega, hc, by omega, fun a ha => ?_⟩
  rintro _ rfl
  unfold F_X11_without_13
  refine lp_I (fun q => (0 ≤ q.1 ∧ q.1 ≤ n - 1) ∧ FrZ nW z q.2 ∧ zK q.2 a = 15 ∧ zN q.2 a = n - 1 ∧ ∀ i, 0 ≤ i → i < q.1 → zI q.2 a i = wotF (zI z la) p i) (fun q => (n - 1 - q.1).toNat) ?_ (0, _) ⟨⟨by show (0 : Int) ≤ 0; decide, by show 0 ≤ n - 1; omega⟩, FrZ_nZ FrZ_rf ha, by show zK (nZ z a 15 (n - 1)) a = 15; rw [zK_nZ, if_pos rfl], by show zN (nZ z a 15 (n - 1)) a = n - 1; rw [zN_nZ, if_pos rfl], fun i i0 i1 => absurd i1 (by show ¬ i < 0; omega)⟩
  rintro G ⟨j, y⟩ ⟨⟨j0, j1⟩, f, ka, na, hi⟩ ih
  simp only at j0 j1 f ka na hi
  have kl : zK y la = 15 := (f.1 la (by rw [hk]; decide)).1.trans hk
  have nl : zN y la = n := (f.1 la (by rw [hk]; decide)).2.trans hn
  have el : ∀ i, zI y la i = zI z la i := fun i => (f.2 la i (by rw [hk]; decide) (fun w => w)).1
  have step : ∀ k, zI z la k = wotF (zI z la) p j → j < n - 1 → 0 ≤ k → k < n → F_X11_without_36 (some la) p (some a) j (some a) j (some la) k y (c - 1) (s - (n - 1).toNat) (fun o => match o with
      | .inl s' => G s'
      | .inr e => (fun (z : Z) => P (some a) z) e) := by
    intro k hx hj hk0 hk1
    unfold F_X11_without_36
    refine ⟨la, rfl, kl, hk0, by rw [nl]; exact hk1, a, rfl, ka, j0, by rw [na]; exact hj, ?_⟩
    rintro _ rfl
    rw [w32e (by omega) (by omega)]
    refine ih (j + 1, _) ⟨⟨by show 0 ≤ j + 1; omega, by show j + 1 ≤ n - 1; omega⟩, FrZ_wI f (Or.inr ha), ka, na, fun i i0 i1 => ?_⟩ (by show (n - 1 - (j + 1)).toNat < (n - 1 - j).toNat; omega)
    replace i1 : i < j + 1 := i1
    show zI (wI y a j _) a i = _
    rw [zI_wI]
    by_cases e : i = j
    · rw [if_pos ⟨rfl, e⟩, el, hx, e]
    · rw [if_neg (fun w => e w.2)]; exact hi i i0 (by omega)
  unfold L_X11_without_13
  dsimp only
  refine ⟨a, rfl, ka, ?_⟩
  rw [na]
  by_cases e : n - 1 ≤ j
  · rw [if_pos e]
    have ej : j = n - 1 := by omega
    subst ej
    exact h a y ha f ka na hi
  · rw [if_neg e]
    rw [w32e (x := p - 1) (by omega) (by omega), w32e (x := j + 1) (by omega) (by omega)]
    by_cases e2 : p - 1 ≤ j
    · rw [if_pos e2]
      exact step (j + 1) (by unfold wotF; rw [if_neg (by omega)]) (by omega) (by omega) (by omega)
    · rw [if_neg e2]
      exact step j (by unfold wotF; rw [if_pos (by omega)]) (by omega) j0 (by omega)
/-! ===== a Sheet shaped along an axis ===== -/
/-- s with n lines ids along an axis: what it had of them, and nothing in the others -/
def shA (s : Sh) (ax n : Int) (ids : Int → Int) : Sh := if ax = 0 then ((n, s.1.2), ids, s.2.2.1, fun i k => if 0 ≤ plS s 0 (ids i) then s.2.2.2 (plS s 0 (ids i)) k else none) else ((s.1.1, n), s.2.1, ids, fun i k => if 0 ≤ plS s 1 (ids k) then s.2.2.2 i (plS s 1 (ids k)) else none)
theorem shA_b {s : Sh} {ax n : Int} {ids : Int → Int} (hb : ShB s) (n0 : 1 ≤ n) (n1 : n ≤ mst ax) : ShB (shA s ax n ids) := by
  unfold shA mst at *
  by_cases e : ax = 0
  · rw [if_pos e] at n1; rw [if_pos e]; exact ⟨⟨n0, n1⟩, hb.2⟩
  · rw [if_neg e] at n1; rw [if_neg e]; exact ⟨hb.1, n0, n1⟩
