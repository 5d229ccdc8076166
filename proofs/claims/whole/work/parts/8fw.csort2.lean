/-! ===== sort: all places of the system ===== -/
section Cs2
variable {zb z : Z} {b sv sb : Nat → Nat} {I : Nat → Prop} {S : SS}
theorem o_p16 {pa : Nat} {col fr t n : Int} {q : Int → Int} {c s : Nat} {P : Option Nat → Z → Prop} (Rb : RC zb b I S) (Cb : Cac zb b I sv sb S) (A : ShA S) (Vb : Vld zb b (-1)) (f : FrZ nW zb z) (hp : zK zb pa = 0) (kp : zK z pa = 15) (np : zN z pa = n) (ht : t = 0 ∨ t = 1) (f1 : 1 ≤ fr) (f2 : fr + n - 1 ≤ S.2.2.2.1.1.1.1) (c1 : 1 ≤ col) (c2 : col ≤ S.2.2.2.1.1.1.2) (n32 : n ≤ 32 ∧ fr ≤ 32) (n0 : 0 ≤ n) (p : ∀ y, FrZ nW zb y → zK y pa = 15 → zN y pa = n → (∀ j, 0 ≤ j → j < n → zI y pa j = fr + srtF (fun a c => aheP t (vvS (-1) S (fr - 1 + a) (col - 1)) (vvS (-1) S (fr - 1 + c) (col - 1))) n.toNat q j) → P (some pa) y) : F_X11_placesInOrder_16 (b 0) col fr t (some pa) 0 z c s P := by
  have isw : isShP (-1) S := ⟨by omega, by have := (RC_Bd Rb).2.1.1.1; omega⟩
  unfold F_X11_placesInOrder_16
  refine lp_I (fun o => ∃ (k : Nat) (w : Z), o = ((k : Int), w) ∧ (k : Int) ≤ n ∧ FrZ nW zb w ∧ zK w pa = 15 ∧ zN w pa = n ∧ ∀ j, 0 ≤ j → j < (k : Int) → zI w pa j = fr + srtF (fun a c => aheP t (vvS (-1) S (fr - 1 + a) (col - 1)) (vvS (-1) S (fr - 1 + c) (col - 1))) k q j) (fun o => (n - o.1).toNat) ?_ (0, z) ⟨0, z, rfl, n0, f, kp, np, fun j j0 j1 => by omega⟩
  rintro G _ ⟨k, w, rfl, kn, fw, kw, nw, hw⟩ ih
  have Rw := RC_W WOk_n fw Rb
  have Cw := Cac_n fw Rb Cb
  have Vw := Vld_n isw fw Rb Vb
  show L_X11_placesInOrder_16 (b 0) col fr t (some pa) (k : Int) w c s _
  unfold L_X11_placesInOrder_16
  refine ⟨pa, rfl, kw, ?_⟩
  rw [nw]
  by_cases cn : n ≤ (k : Int)
  · rw [if_pos cn]
    refine p w fw kw nw (fun j j0 j1 => ?_)
    rw [show n.toNat = k by omega]; exact hw j j0 (by omega)
  rw [if_neg cn, w32e (x := fr + (k : Int)) (by omega) (by omega)]
  refine ⟨cK Rw.1 0 rfl rfl, ?_⟩
  have ask : askP (-1) (fr + (k : Int)) col S := ⟨isw, by show (1 ≤ fr + (k : Int) ∧ fr + (k : Int) ≤ (shOf (-1) S).1.1) ∧ _; unfold shOf; rw [if_pos rfl]; exact ⟨⟨by omega, by omega⟩, c1, c2⟩⟩
  refine o_seen Rw Cw A Vw ask (fun y yb vy oy => ?_)
  rw [show fr + (k : Int) - 1 = fr - 1 + k by omega] at vy oy
  refine o_p40 Rb Cb A Vb fw hp kw nw ht f1 f2 c1 c2 n32 (by omega) (by omega) vy oy (fun j j0 j1 => ⟨hw j j0 j1, srtF_b k kn j j0 j1⟩) (fun v fv kv nv hv => ?_)
  refine ih ((k : Int) + 1, v) ⟨k + 1, v, rfl, by omega, fv, kv, nv, fun j j0 j1 => ?_⟩ (by show (n - ((k : Int) + 1)).toNat < (n - (k : Int)).toNat; omega)
  rw [hv j j0 (by omega), Int.toNat_natCast]; rfl
end Cs2
