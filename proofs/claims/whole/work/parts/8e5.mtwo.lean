/-! ===== the reference: two values ===== -/
theorem asO_k (l m : Lit) : asO m (asO l m) = asO m l := by
  unfold asO
  by_cases c : l.1 = 0 ∧ (m.1 = 1 ∨ m.1 = 2 ∨ m.1 = 3)
  · rw [if_pos c, if_neg (by omega), if_neg (by omega)]
  · rw [if_neg c]
theorem VOk_asO {l m : Lit} (h : VOk l) : VOk (asO l m) := by
  unfold asO
  split
  · next c =>
    rcases c.2 with c | c | c
    · rw [c]; exact VOk_n (by decide) (by decide)
    · rw [c]; exact VOk_t (by decide) (fun x hx => by cases hx)
    · rw [c]; exact VOk_tr false
  · exact h
theorem e_compare {u : Mu} {d s : Int} {l m : Lit} {P : Mu → Prop} (d0 : 0 ≤ d) (d1 : d < 199) (s0 : 0 ≤ s) (s5 : s ≤ 5) (hl : VOk l) (hm : VOk m) (H : HdM u d l) (K : HdM u (d + 1) m) (h : ∀ v, FrS (fun e => d ≤ e) u v → HdM v d (cmpV (s + 1) l m) → P v) : F_X12_compare d s u P := by
  unfold F_X12_compare
  rw [w32e (x := d + 1) (by omega) (by omega)]
  have ha := VOk_asO (m := m) hl
  have hb := VOk_asO (m := l) hm
  refine e_asO d0 (by omega) (by omega) (by omega) H K (fun v f H1 => ?_)
  have K1 := HdM_f f (by show ¬ d + 1 = d; omega) (fun _ => (VOk_b hm).1) K
  refine e_asO (by omega) (by omega) d0 (by omega) K1 H1 (fun w g K2 => ?_)
  rw [asO_k] at K2
  have H2 := HdM_f g (by show ¬ d = d + 1; omega) (fun _ => (VOk_b ha).1) H1
  have fg : FrS (fun e => d ≤ e) u w := FrS_tr (FrS_mo f (fun e he => by rw [he]; exact Int.le_refl d)) (FrS_mo g (fun e he => by rw [he]; omega))
  have up : ∀ y, FrS (fun e => e = d) w y → FrS (fun e => d ≤ e) u y := fun y q => FrS_tr fg (FrS_mo q (fun e he => by rw [he]; exact Int.le_refl d))
  unfold cmpV at h
  refine ⟨d0, by omega, by omega, by omega, ?_⟩
  rw [H2.1, K2.1]
  unfold F_X12_compare_82 F_X12_compare_70
  by_cases c : (asO l m).1 = (asO m l).1
  · rw [if_pos c]
    rw [if_pos c] at h
    refine e_order d0 (by omega) (by omega) (by omega) ha hb H2 K2 c ?_
    refine e_holds s0 s5 ?_
    refine e_truth (t := hldO (s + 1) (ordV (asO l m) (asO m l))) d0 (by omega) ?_ (fun y q hy => h y (up y q) hy)
    cases hldO (s + 1) (ordV (asO l m) (asO m l)) <;> decide
  · rw [if_neg c]
    rw [if_neg c] at h
    by_cases c2 : 2 ≤ s
    · rw [if_pos c2]
      rw [if_neg (by omega), if_neg (by omega)] at h
      exact e_error d0 (by omega) (fun y q hy => h y (up y q) hy)
    · rw [if_neg c2]
      by_cases c1 : s = 1
      · rw [if_pos c1]
        rw [if_neg (by omega), if_pos (by omega)] at h
        exact e_truth (t := true) d0 (by omega) (by decide) (fun y q hy => h y (up y q) hy)
      · rw [if_neg c1]
        rw [if_pos (by omega)] at h
        exact e_truth (t := false) d0 (by omega) (by decide) (fun y q hy => h y (up y q) hy)
theorem e_times {u : Mu} {d x y : Int} {P : Mu → Prop} (d0 : 0 ≤ d) (d1 : d < 200) (x0 : -1000000000000000 ≤ x) (x1 : x ≤ 1000000000000000) (y0 : -1000000000000000 ≤ y) (y1 : y ≤ 1000000000000000) (h : ∀ v, FrS (fun e => e = d) u v → HdM v d (if x ≠ 0 ∧ 1000000000000000 / abI x < abI y then erL 4 else (1, x * y, [])) → P v) : F_X12_times d x y u P := by
  have k29 : ∀ a b, a = abI x → b = abI y → F_X12_times_29 d x y a b u P := by
    intro a b ea eb
    have ax := abI_n x
    have ay := abI_n y
    unfold F_X12_times_29 F_X12_times_59 F_X12_times_68
    have fin : ¬ (x ≠ 0 ∧ 1000000000000000 / abI x < abI y) → F_X12_number d (w64 (x * y)) u (fun u_65 => P u_65) := by
      intro c
      rw [if_neg c] at h
      have q := abI_mul (x := x) (y := y) (M := 1000000000000000) (by decide) (by by_cases c0 : x = 0; exact Or.inl c0; exact Or.inr (by omega))
      rw [w64e (by omega) (by omega)]
      refine e_number d0 d1 (fun v f hv => h v f ?_)
      unfold nuL at hv
      rw [if_neg (by omega)] at hv; exact hv
    by_cases c : a ≤ 0
    · rw [if_pos c]
      exact fin (by omega)
    · rw [if_neg c]
      refine ⟨by omega, ?_⟩
      have hd := Int.ediv_le_self (b := a) (a := 1000000000000000) (by omega)
      have hn : 0 ≤ 1000000000000000 / a := Int.ediv_nonneg (by omega) (by omega)
      rw [tdivE (by omega), w64e (by omega) (by omega)]
      by_cases c2 : b ≤ 1000000000000000 / a
      · rw [if_pos c2]
        refine fin (fun w => ?_)
        rw [← ea, ← eb] at w; omega
      · rw [if_neg c2]
        rw [if_pos ⟨by omega, by rw [← ea, ← eb]; omega⟩] at h
        exact e_error d0 d1 (fun v f hv => h v f hv)
  unfold F_X12_times F_X12_times_12
  have ax : abI x = if 0 ≤ x then x else -x := rfl
  have ay : abI y = if 0 ≤ y then y else -y := rfl
  by_cases c : 0 ≤ x
  · rw [if_pos c]; rw [if_pos c] at ax
    by_cases c2 : 0 ≤ y
    · rw [if_pos c2]; rw [if_pos c2] at ay; exact k29 _ _ ax.symm ay.symm
    · rw [if_neg c2, w64e (by omega) (by omega)]; rw [if_neg c2] at ay; exact k29 _ _ ax.symm ay.symm
  · rw [if_neg c, w64e (by omega) (by omega)]; rw [if_neg c] at ax
    by_cases c2 : 0 ≤ y
    · rw [if_pos c2]; rw [if_pos c2] at ay; exact k29 _ _ ax.symm ay.symm
    · rw [if_neg c2, w64e (by omega) (by omega)]; rw [if_neg c2] at ay; exact k29 _ _ ax.symm ay.symm
theorem e_reckon {u : Mu} {d op x y : Int} {P : Mu → Prop} (d0 : 0 ≤ d) (d1 : d < 199) (o8 : 8 ≤ op) (o12 : op ≤ 12) (x0 : -1000000000000000 ≤ x) (x1 : x ≤ 1000000000000000) (y0 : -1000000000000000 ≤ y) (y1 : y ≤ 1000000000000000) (H : mG u 67 d = x) (K : mG u 67 (d + 1) = y) (h : ∀ v, FrS (fun e => e = d) u v → HdM v d (recV op x y) → P v) : F_X12_reckon d (op + 9) u P := by
  unfold recV at h
  unfold F_X12_reckon F_X12_reckon_108 F_X12_reckon_105
  rw [w32e (x := d + 1) (by omega) (by omega), H, K]
  refine ⟨d0, by omega, by omega, by omega, ?_⟩
  by_cases c8 : op = 8
  · rw [if_pos (by omega), w64e (by omega) (by omega)]
    rw [if_pos c8] at h
    exact e_number d0 (by omega) (fun v f hv => h v f hv)
  rw [if_neg (by omega)]
  rw [if_neg c8] at h
  by_cases c9 : op = 9
  · rw [if_pos (by omega), w64e (by omega) (by omega)]
    rw [if_pos c9] at h
    exact e_number d0 (by omega) (fun v f hv => h v f hv)
  rw [if_neg (by omega)]
  rw [if_neg c9] at h
  by_cases c10 : op = 10
  · rw [if_pos (by omega)]
    rw [if_pos c10] at h
    exact e_times d0 (by omega) x0 x1 y0 y1 (fun v f hv => h v f hv)
  rw [if_neg (by omega)]
  rw [if_neg c10] at h
  by_cases cy : y = 0
  · rw [if_pos cy]
    rw [if_pos cy] at h
    exact e_error d0 (by omega) (fun v f hv => h v f hv)
  rw [if_neg cy]
  rw [if_neg cy] at h
  have q1 := tdiv_b (y := y) x0 x1
  have q2 := tmod_b (y := y) x0 x1
  by_cases c11 : op = 11
  · rw [if_pos (by omega), w64e (by omega) (by omega)]
    rw [if_pos c11] at h
    refine ⟨cy, e_number d0 (by omega) (fun v f hv => h v f ?_)⟩
    unfold nuL at hv
    rw [if_neg (by omega)] at hv; exact hv
  · rw [if_neg (by omega), w64e (by omega) (by omega)]
    rw [if_neg c11] at h
    refine ⟨cy, e_number d0 (by omega) (fun v f hv => h v f ?_)⟩
    unfold nuL at hv
    rw [if_neg (by omega)] at hv; exact hv
theorem e_join {u : Mu} {d : Int} {l m : Lit} {P : Mu → Prop} (d0 : 0 ≤ d) (d1 : d < 199) (hl : VOk l) (hm : VOk m) (cl : l.1 ≠ 4) (cm : m.1 ≠ 4) (H : HdM u d l) (K : HdM u (d + 1) m) (h : ∀ v, FrS (fun e => d ≤ e) u v → HdM v d (joiV l m) → P v) : F_X12_join d u P := by
  have tl := VOk_txt hl cl
  have tm := VOk_txt hm cm
  unfold F_X12_join
  rw [w32e (x := d + 1) (by omega) (by omega)]
  refine e_wantsX d0 (by omega) hl H (fun v f H1 => ?_)
  have K1 := HdM_f f (by show ¬ d + 1 = d; omega) (fun _ => (VOk_b hm).1) K
  refine e_wantsX (by omega) (by omega) hm K1 (fun w g K2 => ?_)
  have H2 := HdM_f g (by show ¬ d = d + 1; omega) (fun _ => tl.2.2.1) H1
  have fg : FrS (fun e => d ≤ e) u w := FrS_tr (FrS_mo f (fun e he => by rw [he]; exact Int.le_refl d)) (FrS_mo g (fun e he => by rw [he]; omega))
  obtain ⟨g1, g2⟩ := H2.2.1 tl.1
  obtain ⟨g3, g4⟩ := K2.2.1 tm.1
  unfold joiV at h
  generalize (txtL l).2.2 = A at *
  generalize (txtL m).2.2 = B at *
  refine ⟨d0, by omega, by omega, by omega, ?_⟩
  rw [g1, g3, w32e (by omega) (by omega)]
  by_cases c : (A.length : Int) + B.length ≤ 24
  · rw [if_pos c]
    rw [if_neg (by omega)] at h
    unfold F_X12_join_46
    refine lp_I (fun s => (0 ≤ s.1 ∧ s.1 ≤ (B.length : Int)) ∧ FrS (fun e => e = d) w s.2 ∧ mI s.2 66 d = 2 ∧ (∀ j : Nat, j < A.length → mI s.2 69 (24 * d + j) = A.getD j 0) ∧ ∀ j : Nat, (j : Int) < s.1 → mI s.2 69 (24 * d + (A.length : Int) + j) = B.getD j 0) (fun s => ((B.length : Int) - s.1).toNat) ?_ _ ⟨⟨by show (0 : Int) ≤ 0; omega, by show (0 : Int) ≤ _; omega⟩, FrS_rf, by rw [← tl.1]; exact H2.1, g2, fun j hj => by exfalso; have : (j : Int) < 0 := hj; omega⟩
    rintro G ⟨x, y⟩ ⟨⟨x0, x1⟩, q, e1, e2, e3⟩ ih
    simp only at x0 x1 q e1 e2 e3
    unfold L_X12_join_46
    simp only
    by_cases cx : (B.length : Int) ≤ x
    · rw [if_pos cx]
      refine ⟨d0, by omega, fun y2 hy => ?_⟩
      subst hy
      rw [w32e (by omega) (by omega)]
      refine h _ (FrS_68 (FrS_tr fg (FrS_mo q (fun e he => by rw [he]; exact Int.le_refl d))) (Int.le_refl d)) ⟨?_, fun _ => ⟨?_, fun j hj => ?_⟩, fun c => ?_⟩
      · rw [mI_uI, if_neg (by omega)]; exact e1
      · rw [mI_uI, if_pos ⟨rfl, rfl⟩]; show _ = ((A ++ B).length : Int); rw [List.length_append]; omega
      · have hj : j < (A ++ B).length := hj
        rw [List.length_append] at hj
        rw [mI_uI, if_neg (by omega)]
        show _ = (A ++ B).getD j 0
        by_cases cj : j < A.length
        · rw [gA_l cj]; exact e2 j cj
        · rw [gA_r (by omega), ← e3 (j - A.length) (by omega)]; congr 1; omega
      · rcases c with c | c | c <;> cases c
    · rw [if_neg cx, w32e (x := d + 1) (by omega) (by omega), w32e (x := 24 * (d + 1)) (by omega) (by omega), w32e (x := 24 * (d + 1) + x) (by omega) (by omega), w32e (x := 24 * d) (by omega) (by omega), w32e (x := 24 * d + (A.length : Int)) (by omega) (by omega), w32e (x := 24 * d + (A.length : Int) + x) (by omega) (by omega), w32e (x := x + 1) (by omega) (by omega)]
      refine ⟨by omega, by omega, by omega, by omega, fun y2 hy => ?_⟩
      subst hy
      refine ih _ ⟨⟨by show 0 ≤ x + 1; omega, by show x + 1 ≤ _; omega⟩, FrS_69 q rfl (by omega) (by omega), ?_, fun j hj => ?_, fun j hj => ?_⟩ (by show ((B.length : Int) - (x + 1)).toNat < ((B.length : Int) - x).toNat; omega)
      · show mI (uI y 69 _ _) 66 d = 2; rw [mI_uI, if_neg (by omega)]; exact e1
      · show mI (uI y 69 _ _) 69 (24 * d + j) = _; rw [mI_uI, if_neg (by omega)]; exact e2 j hj
      · have hj : (j : Int) < x + 1 := hj
        show mI (uI y 69 (24 * d + (A.length : Int) + x) (mI y 69 (24 * (d + 1) + x))) 69 (24 * d + (A.length : Int) + j) = _
        by_cases cj : (j : Int) = x
        · rw [mI_uI, if_pos ⟨rfl, by omega⟩, (q.2 (d + 1) (by omega)).2.2.2 _ (by omega) (by omega), ← cj]; exact g4 j (by omega)
        · rw [mI_uI, if_neg (by omega)]; exact e3 j (by omega)
  · rw [if_neg c]
    rw [if_pos (by omega)] at h
    exact e_error d0 (by omega) (fun y q hy => h y (FrS_tr fg (FrS_mo q (fun e he => by rw [he]; exact Int.le_refl d))) hy)
