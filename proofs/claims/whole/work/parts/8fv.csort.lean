/-! ===== sort: the system's places ===== -/
section Cs
variable {zb z : Z} {b sv sb : Nat → Nat} {I : Nat → Prop} {S : SS}
theorem o_p40 {pa d bd : Nat} {col fr t n x : Int} {q : Int → Int} {c s : Nat} {Q : (Int × Z) ⊕ Z → Prop} (Rb : RC zb b I S) (Cb : Cac zb b I sv sb S) (A : ShA S) (Vb : Vld zb b (-1)) (f : FrZ nW zb z) (hp : zK zb pa = 0) (kp : zK z pa = 15) (np : zN z pa = n) (ht : t = 0 ∨ t = 1) (f1 : 1 ≤ fr) (f2 : fr + n - 1 ≤ S.2.2.2.1.1.1.1) (c1 : 1 ≤ col) (c2 : col ≤ S.2.2.2.1.1.1.2) (n32 : n ≤ 32 ∧ fr ≤ 32) (x0 : 0 ≤ x) (x1 : x < n) (D : VlS z d bd (vvS (-1) S (fr - 1 + x) (col - 1))) (od : VOk (vvS (-1) S (fr - 1 + x) (col - 1))) (hq : ∀ j, 0 ≤ j → j < x → zI z pa j = fr + q j ∧ 0 ≤ q j ∧ q j < n) (p : ∀ y, FrZ nW zb y → zK y pa = 15 → zN y pa = n → (∀ j, 0 ≤ j → j ≤ x → zI y pa j = fr + insF (fun a c => aheP t (vvS (-1) S (fr - 1 + a) (col - 1)) (vvS (-1) S (fr - 1 + c) (col - 1))) x x.toNat q j) → Q (.inl (x + 1, y))) : F_X11_placesInOrder_40 (b 0) col fr t (some pa) x (some d) x z c s Q := by
  have isw : isShP (-1) S := ⟨by omega, by have := (RC_Bd Rb).2.1.1.1; omega⟩
  have dpa : d ≠ pa := fun e => by have := D.1.1; rw [e, kp] at this; cases this
  have bpa : bd ≠ pa := fun e => by have := D.1.2.2.2; rw [e, kp] at this; cases this
  unfold F_X11_placesInOrder_40
  refine lp_I (fun o => ∃ (k : Nat) (w : Z) (q' : Int → Int), o = ((k : Int), w) ∧ (k : Int) ≤ x ∧ FrZ nW zb w ∧ zK w pa = 15 ∧ zN w pa = n ∧ VlS w d bd (vvS (-1) S (fr - 1 + x) (col - 1)) ∧ (∀ j, 0 ≤ j → j ≤ x → j ≠ (k : Int) → zI w pa j = fr + q' j ∧ (j < (k : Int) → 0 ≤ q' j ∧ q' j < n)) ∧ insF (fun a c => aheP t (vvS (-1) S (fr - 1 + a) (col - 1)) (vvS (-1) S (fr - 1 + c) (col - 1))) x k q' = insF (fun a c => aheP t (vvS (-1) S (fr - 1 + a) (col - 1)) (vvS (-1) S (fr - 1 + c) (col - 1))) x x.toNat q) (fun o => o.1.toNat) ?_ (x, z) ⟨x.toNat, z, q, by rw [Int.toNat_of_nonneg x0], by omega, f, kp, np, D, fun j j0 j1 hne => by have := hq j j0 (by omega); exact ⟨this.1, fun _ => this.2⟩, rfl⟩
  rintro G _ ⟨k, w, q', rfl, kx, fw, kw, nw, Dw, hw, e⟩ ih
  have Rw := RC_W WOk_n fw Rb
  have Cw := Cac_n fw Rb Cb
  have Vw := Vld_n isw fw Rb Vb
  show L_X11_placesInOrder_40 (b 0) col fr t (some pa) x (some d) (k : Int) w c s _
  unfold L_X11_placesInOrder_40
  have fin : ∀ i : Int, 0 ≤ i → i ≤ x → (∀ j, 0 ≤ j → j ≤ x → j ≠ i → zI w pa j = fr + q' j) → upF q' i x = insF (fun a c => aheP t (vvS (-1) S (fr - 1 + a) (col - 1)) (vvS (-1) S (fr - 1 + c) (col - 1))) x x.toNat q → F_X11_placesInOrder_86 (b 0) col fr t (some pa) x i w c s Q := fun i i0 i1 hj ev => by
    unfold F_X11_placesInOrder_86
    refine ⟨pa, rfl, kw, i0, by omega, fun v hv => ?_⟩
    rw [w32e (x := x + 1) (by omega) (by omega)]
    rw [w32e (x := fr + x) (by omega) (by omega)] at hv
    subst hv
    refine p _ (FrZ_wI fw (Or.inr hp)) kw nw (fun j j0 j1 => ?_)
    rw [← ev, zI_wI]
    unfold upF
    by_cases cj : j = i
    · rw [if_pos ⟨rfl, cj⟩, if_pos cj]
    · rw [if_neg (fun o => cj o.2), if_neg cj]; exact hj j j0 j1 cj
  match k, kx, hw, e, ih with
  | 0, kx, hw, e, ih =>
    rw [if_pos (by decide)]
    show F_X11_placesInOrder_86 (b 0) col fr t (some pa) x _ w c s Q
    exact fin 0 (by decide) x0 (fun j j0 j1 hne => (hw j j0 j1 hne).1) e
  | k + 1, kx, hw, e, ih =>
    rw [if_neg (by omega), show ((k + 1 : Nat) : Int) - 1 = (k : Int) by omega, w32e (x := (k : Int)) (by omega) (by omega)]
    obtain ⟨g1, g2⟩ := hw k (by omega) (by omega) (by omega)
    obtain ⟨g3, g4⟩ := g2 (by omega)
    refine ⟨pa, rfl, kw, by omega, by omega, cK Rw.1 0 rfl rfl, ?_⟩
    rw [g1]
    have ask : askP (-1) (fr + q' k) col S := ⟨isw, by show (1 ≤ fr + q' k ∧ fr + q' k ≤ (shOf (-1) S).1.1) ∧ _; unfold shOf; rw [if_pos rfl]; exact ⟨⟨by omega, by omega⟩, c1, c2⟩⟩
    refine o_seen Rw Cw A Vw ask (fun y yb vy oy => ?_)
    have er : fr + q' k - 1 = fr - 1 + q' k := by omega
    rw [er] at vy oy
    refine k_orderOf ht vy Dw oy od (fun ha r r0 => ?_) (fun ha r r0 => ?_)
    · rw [if_neg (by omega)]
      refine ⟨by omega, by omega, fun v hv => ?_⟩
      rw [show ((k + 1 : Nat) : Int) + -1 = (k : Int) by omega, w32e (x := (k : Int)) (by omega) (by omega)]
      have fpa : FrZ (fun a _ => a = pa) w v := by rw [hv]; exact FrZ_wI FrZ_rf (Or.inl rfl)
      have eu : ∀ j, zI v pa j = if j = (k : Int) + 1 then fr + q' k else zI w pa j := fun j => by
        rw [hv, zI_wI]
        by_cases cj : j = (k : Int) + 1
        · rw [if_pos ⟨rfl, by omega⟩, if_pos cj]
        · rw [if_neg (fun o => cj (by have := o.2; omega)), if_neg cj]
      refine ih ((k : Int), v) ⟨k, v, upF q' ((k : Int) + 1) (q' k), rfl, by omega, by rw [hv]; exact FrZ_wI fw (Or.inr hp), by rw [hv]; exact kw, by rw [hv]; exact nw, VlS_fr Dw fpa dpa dpa dpa (fun _ => bpa), fun j j0 j1 hne => ?_, ?_⟩ (by show (k : Int).toNat < ((k + 1 : Nat) : Int).toNat; omega)
      · rw [eu]
        unfold upF
        by_cases cj : j = (k : Int) + 1
        · rw [if_pos cj, if_pos cj]; exact ⟨rfl, fun w => by omega⟩
        · rw [if_neg cj, if_neg cj]
          obtain ⟨o1, o2⟩ := hw j j0 j1 (by omega)
          exact ⟨o1, fun w => o2 (by omega)⟩
      · rw [← e, insF, ci_1 ha]
    · rw [if_pos r0]
      show F_X11_placesInOrder_86 (b 0) col fr t (some pa) x _ w c s Q
      refine fin _ (by omega) kx (fun j j0 j1 hne => (hw j j0 j1 hne).1) ?_
      rw [← e, insF, ci_0 ha]; rfl
end Cs
