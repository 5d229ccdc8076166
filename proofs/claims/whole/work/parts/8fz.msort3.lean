/-! ===== sort: the reference's ===== -/
def wSoM : WR := wSo ++ wUm
theorem i_sort {u : Mu} {N col fr to t : Int} {S : SS} {P : Int → Mu → Prop} (hB : Bd S) (hD : DsS S.2.2.2.1.1) (R : RM u N S) (Nd : NdS u S) (ht : t = 0 ∨ t = 1) (h : ∀ w v, NdS w S → FrM wNd0 u w → RM v N (pSort col fr to t S).2.2 → FrM wSoM w v → (mI v 0 0 = ((pSort col fr to t S).1 : Int) ∧ Q65 w v S (pSort col fr to t S).2.2) → P (pSort col fr to t S).2.1 v) : F_X12_sort col fr to t u P := by
  unfold F_X12_sort F_X12_sort_50
  rintro _ rfl
  have R' := RM_thr (x := 0) hB R
  have N' := NdS_0 (x := 0) Nd
  have f0 : FrM wNd0 u (uI u 0 0 0) := FrM_uI FrM_rf (wHas_i (by decide))
  have z0 : mI (uI u 0 0 0) 0 0 = 0 := by rw [mI_uI, if_pos ⟨rfl, rfl⟩]
  generalize hv : uI u 0 0 0 = v at R' N' f0 z0 ⊢
  have bw := hB.2.2.2.1.1
  obtain ⟨⟨b1, b2⟩, b3, b4⟩ := id bw
  obtain ⟨m1, m2⟩ := R'.2.2.2.2.1.1.1
  have thr : ∀ k : Nat, (∀ w x, NdS w S → FrM wNd0 u w → RM x N S → FrM wSoM w x → (mI x 0 0 = (k : Int) ∧ Q65 w x S S) → P 0 x) → F_X12_throwing (k : Int) v (fun a b => P a b) := fun k q => i_throwing (q v _ N' f0 (RM_thr hB R') (FrM_uI FrM_rf (wHas_i (by decide))) ⟨by rw [mI_uI, if_pos ⟨rfl, rfl⟩], Or.inr ⟨by rw [mI_uI, if_neg (by omega)], rfl, rfl⟩⟩)
  unfold pSort at h
  refine i_in ?_
  rw [m2]
  by_cases e1 : 1 ≤ col ∧ col ≤ S.2.2.2.1.1.1.2
  rotate_left
  · rw [show tb (1 ≤ col ∧ col ≤ S.2.2.2.1.1.1.2) = 0 by rw [tb, if_neg e1], if_pos rfl]
    rw [if_neg (fun g => e1 g.1.2)] at h
    exact thr 1 h
  rw [show tb (1 ≤ col ∧ col ≤ S.2.2.2.1.1.1.2) = 1 by rw [tb, if_pos e1], if_neg (by decide)]
  refine i_in ?_
  rw [m1]
  by_cases e2 : 1 ≤ fr ∧ fr ≤ S.2.2.2.1.1.1.1
  rotate_left
  · rw [show tb (1 ≤ fr ∧ fr ≤ S.2.2.2.1.1.1.1) = 0 by rw [tb, if_neg e2], if_pos rfl]
    rw [if_neg (fun g => e2 g.1.1)] at h
    exact thr 1 h
  rw [show tb (1 ≤ fr ∧ fr ≤ S.2.2.2.1.1.1.1) = 1 by rw [tb, if_pos e2], if_neg (by decide)]
  refine i_in ?_
  by_cases e3 : 1 ≤ to ∧ to ≤ S.2.2.2.1.1.1.1
  rotate_left
  · rw [show tb (1 ≤ to ∧ to ≤ S.2.2.2.1.1.1.1) = 0 by rw [tb, if_neg e3], if_pos rfl]
    rw [if_neg (fun g => e3 g.2)] at h
    exact thr 1 h
  rw [show tb (1 ≤ to ∧ to ≤ S.2.2.2.1.1.1.1) = 1 by rw [tb, if_pos e3], if_neg (by decide)]
  rw [if_pos ⟨⟨e2, e1⟩, e3⟩] at h
  by_cases e4 : fr ≤ to
  rotate_left
  · rw [if_neg e4]
    rw [if_neg e4] at h
    exact thr 2 h
  rw [if_pos e4]
  rw [if_pos e4] at h
  dsimp only at h
  rw [w32e (x := to - fr) (by omega) (by omega), w32e (x := to - fr + 1) (by omega) (by omega), w32e (x := fr - 1) (by omega) (by omega), w32e (x := 10 * (fr - 1)) (by omega) (by omega), w32e (x := 12800 + 10 * (fr - 1)) (by omega) (by omega), w32e (x := 12800 + 10 * (fr - 1) + col) (by omega) (by omega), w32e (x := 12800 + 10 * (fr - 1) + col - 1) (by omega) (by omega)]
  refine e_need N' (Or.inl rfl) R'.2.2.1.1 (fun w N2 fw hvl hw => ?_)
  have Rw : RM w N S := RM_fr hB fw (by decide) (by decide) (by decide) (by decide) (by decide) (by decide) (by decide) R'
  have V : ∀ y, 0 ≤ y → y < to - fr + 1 → CvM w (12800 + 10 * (fr - 1) + col - 1 + 10 * y) (vvS (-1) S (fr - 1 + y) (col - 1)) := fun y y0 y1 => by
    have hin : inS S.2.2.2.1.1 (10 * (fr - 1 + y) + (col - 1)) := ⟨⟨by omega, by omega⟩, by omega, by omega⟩
    have := N2.2.2.2.2.2.1 (hw rfl) _ hin
    rw [show (10 * (fr - 1 + y) + (col - 1)) / 10 = fr - 1 + y by omega, show (10 * (fr - 1 + y) + (col - 1)) % 10 = col - 1 by omega] at this
    unfold vvS
    rw [if_pos rfl, show 12800 + 10 * (fr - 1) + col - 1 + 10 * y = 12800 + (10 * (fr - 1 + y) + (col - 1)) by omega]
    exact this
  have w0 : mI w 0 0 = 0 := (mE fw (R := [(0, some 0)]) (by decide) (k := 0) (i := 0) (wHas_i (by decide))).trans z0
  have fuw : FrM wNd0 u w := FrM_tr f0 (FrM_up fw (fun t ht => List.mem_cons_of_mem _ ht))
  unfold F_X12_sort_99
  refine e_s99 (val := fun y => vvS (-1) S (fr - 1 + y) (col - 1)) ht (by omega) (by omega) (by omega) (fun y y0 y1 => by omega) V (fun x fx e88 => ?_)
  have Rx : RM x N S := RM_fr hB fx (by decide) (by decide) (by decide) (by decide) (by decide) (by decide) (by decide) Rw
  have x0 : mI x 0 0 = 0 := (mE fx (R := [(0, some 0)]) (by decide) (k := 0) (i := 0) (wHas_i (by decide))).trans w0
  refine i_step hB Rx (fun u1 kept R1 f1 z1 hk1 hkm => ?_)
  have q8 : ∀ j, 0 ≤ j → j < to - fr + 1 → mI u1 88 j = soF col fr to t S j := fun j j0 j1 => by
    rw [mE f1 (R := [(88, none)]) (by decide) (wHas_a (by decide)), e88]
    unfold soF
    exact srtF_q _ j j0 (by omega)
  have qb : ∀ j, 0 ≤ j → j < to - fr + 1 → 0 ≤ soF col fr to t S j ∧ soF col fr to t S j < to - fr + 1 := fun j j0 j1 => soF_b j0 j1
  generalize soF col fr to t S = q at h q8 qb
  have m40 : ShM u1 40 S.2.2.2.1.1 := by have o := R1.2.2.2.2.1.1; rw [pStep0_w] at o; exact o
  have hS : (pStep0 S).2.2.2.1.1 = S.2.2.2.1.1 := pStep0_w S
  have W0 := W4_0 u1 0
  rw [ShM_ln m40 0] at W0
  have W1 : W4 u1 u1 0 (lnD u1 40 0) S.2.2.2.1.1.1.1 := W0
  unfold F_X12_sort_196
  refine lp_I (fun o => ∃ (k : Nat) (y : Mu), o = (elC q k, (k : Int), y) ∧ (k : Int) ≤ to - fr + 1 ∧ W4 u1 y 0 (fun j => if fr - 1 ≤ j ∧ j < fr - 1 + (k : Int) then lnD u1 kept 0 (fr - 1 + q (j - (fr - 1))) else lnD u1 40 0 j) S.2.2.2.1.1.1.1) (fun o => (to - fr + 1 - o.2.1).toNat) ?_ (0, 0, u1) ⟨0, u1, rfl, by omega, W4_x W1 (fun j a c => ?_)⟩
  rotate_left
  · rw [if_neg (by omega)]; exact ⟨rfl, fun _ _ _ => rfl⟩
  rintro G _ ⟨k, y, rfl, kn, Wy⟩ ih
  show L_X12_sort_196 fr (to - fr + 1) kept (elC q k) (k : Int) y _
  unfold L_X12_sort_196 F_X12_sort_222
  by_cases cn : to - fr + 1 ≤ (k : Int)
  · rw [if_pos cn]
    have ek : (k : Int) = to - fr + 1 := by omega
    have en : (to - fr + 1).toNat = k := by omega
    show P (elC q k) y
    rw [en] at h
    rw [ek] at Wy
    refine h w y N2 fuw ?_ (FrM_tr (FrM_sub fx (by decide)) (FrM_tr (FrM_sub f1 (by decide)) (FrM_sub Wy.2.1 (by decide)))) ⟨?_, Q65_m Wy.2.1 (by decide) z1.2⟩
    · have o := W4_src (S := pStep0 S) (ids := soI S.2.2.2.1.1 fr (to - fr + 1) q) (Or.inl rfl) (Bd_step0 hB) (by rw [hS]; exact hD) R1 Wy (by show S.2.2.2.1.1.1.1 ≤ 32; exact b2) (fun j a c => by
        rw [hS]
        unfold soI
        by_cases c1 : fr - 1 ≤ j ∧ j < fr - 1 + (to - fr + 1)
        · have := qb (j - (fr - 1)) (by omega) (by omega)
          rw [if_pos c1, if_pos c1]
          exact Or.inl ⟨fr - 1 + q (j - (fr - 1)), kept, rfl, hkm, by omega, by show _ < S.2.2.2.1.1.1.1; omega, rfl⟩
        · rw [if_neg c1, if_neg c1]
          exact Or.inl ⟨j, 40, rfl, m40, a, c, rfl⟩)
      rw [hS] at o
      exact o
    · rw [mE Wy.2.1 (R := [(0, some 0)]) (by decide) (k := 0) (i := 0) (wHas_i (by decide)), z1.1]; exact x0
  rw [if_neg cn]
  have y8 : mI y 88 (k : Int) = q k := by rw [mE Wy.2.1 (R := [(88, none)]) (by decide) (wHas_a (by decide))]; exact q8 k (by omega) (by omega)
  have qk := qb k (by omega) (by omega)
  have eb := elC_b q k
  refine ⟨by omega, by omega, ?_⟩
  rw [y8, w32e (x := fr - 1) (by omega) (by omega), w32e (x := fr - 1 + q k) (by omega) (by omega), w32e (x := fr - 1 + (k : Int)) (by omega) (by omega), w32e (x := (k : Int) + 1) (by omega) (by omega)]
  have nx : ∀ c, c = elC q (k + 1) → F_X12_comeLine 0 (fr - 1 + q k) kept (fr - 1 + (k : Int)) y (fun u_246 => G (c, (k : Int) + 1, u_246)) := fun c hc => by
    refine i_comeLine (Or.inl rfl) Wy (by omega) (by show fr - 1 + q k < 32; omega) hk1.1 (by omega) (by omega) (by show fr - 1 + (k : Int) < 32; omega) (fun y2 W2 => ?_)
    refine ih (c, (k : Int) + 1, y2) ⟨k + 1, y2, by rw [hc]; rfl, by omega, W4_x W2 (fun j a d => ?_)⟩ (by show (to - fr + 1 - ((k : Int) + 1)).toNat < (to - fr + 1 - (k : Int)).toNat; omega)
    unfold upL
    dsimp only
    by_cases q1 : j = fr - 1 + (k : Int)
    · rw [if_pos q1, if_pos (by omega), show j - (fr - 1) = (k : Int) by omega]; exact ⟨rfl, fun _ _ _ => rfl⟩
    · rw [if_neg q1]
      by_cases q2 : fr - 1 ≤ j ∧ j < fr - 1 + (k : Int)
      · rw [if_pos q2, if_pos (by omega)]; exact ⟨rfl, fun _ _ _ => rfl⟩
      · rw [if_neg q2, if_neg (by omega)]; exact ⟨rfl, fun _ _ _ => rfl⟩
  by_cases cq : q k = (k : Int)
  · rw [if_pos cq, w32e (x := elC q k + 0) (by omega) (by omega)]
    exact ⟨by omega, by omega, nx _ (by rw [elC, if_pos cq])⟩
  · rw [if_neg cq, w32e (x := elC q k + 1) (by omega) (by omega)]
    exact ⟨by omega, by omega, nx _ (by rw [elC, if_neg cq])⟩
