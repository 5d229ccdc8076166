/-! ===== the reference's constructor: its arrays ===== -/
def OM (z : Z) (t0 : Nat) (L : OL) (Q : List (Int × Int)) : Prop := (zK z t0 = 13 ∧ ∀ i, zG z t0 i = 0) ∧ (∀ t ∈ L, (zK z t.2 = mkl.getD t.1 0 ∧ zN z t.2 = ((mnl.getD t.1 0 : Nat) : Int)) ∧ zK z t.2 ≠ 0 ∧ t.2 ≠ t0 ∧ zO z t0 t.1 = some t.2 ∧ ∀ i, zI z t.2 i = 0 ∧ zG z t.2 i = 0) ∧ (∀ s ∈ L, ∀ t ∈ L, s.2 = t.2 → s = t) ∧ (∀ q ∈ Q, zI z t0 q.1 = q.2) ∧ ∀ i, (Q.map (·.1)).contains i = false → zI z t0 i = 0
section Om
variable {z : Z} {t0 : Nat} {L : OL} {Q : List (Int × Int)}
theorem om_arr {k kd : Nat} {j n : Int} {c s : Nat} {P : Z → Prop} (h : OM z t0 L Q) (hk : (L.map (·.1)).contains k = false) (e1 : mkl.getD k 0 = kd) (e2 : ((mnl.getD k 0 : Nat) : Int) = n) (hj : j = (k : Int)) (k0 : kd ≠ 0) (n0 : 0 ≤ n ∧ n < 33554432) (c1 : 1 ≤ c) (s1 : n.toNat ≤ s) (p : ∀ y a, OM y t0 ((k, a) :: L) Q → P y) : (0 ≤ n ∧ n < (33554432 : Int) ∧ 1 ≤ c ∧ Int.toNat n ≤ s ∧ ∀ a, zK z a = 0 → (∀ z1, z1 = nZ z a kd n → (zK z1 t0 = 13 ∧ (∀ z2, z2 = wO z1 t0 j (some a) → P z2)))) := by
  obtain ⟨⟨h1, h1'⟩, h2, h3, h4, h5⟩ := h
  refine ⟨n0.1, n0.2, c1, s1, fun a ha => ?_⟩
  rintro _ rfl
  have na : t0 ≠ a := fun e => by rw [← e, h1] at ha; cases ha
  refine ⟨by rw [zK_nZ, if_neg na]; exact h1, ?_⟩
  rintro _ rfl
  refine p _ a ⟨⟨?_, fun i => ?_⟩, fun t ht => ?_, fun s hs t ht e => ?_, fun q hq => ?_, fun i hi => ?_⟩
  · rw [zK_wO, zK_nZ, if_neg na]; exact h1
  · rw [zG_wO, zG_nZ, if_neg na]; exact h1' i
  · rcases List.mem_cons.mp ht with rfl | ht
    · refine ⟨⟨?_, ?_⟩, ?_, na.symm, ?_, fun i => ⟨?_, ?_⟩⟩
      · show zK (wO (nZ z a kd n) t0 j (some a)) a = _
        rw [zK_wO, zK_nZ, if_pos rfl]; exact e1.symm
      · show zN (nZ z a kd n) a = _
        rw [zN_nZ, if_pos rfl]; exact e2.symm
      · show zK (wO (nZ z a kd n) t0 j (some a)) a ≠ 0
        rw [zK_wO, zK_nZ, if_pos rfl]; exact k0
      · show zO (wO (nZ z a kd n) t0 j (some a)) t0 (k : Int) = some a
        rw [zO_wO, if_pos ⟨rfl, hj.symm⟩]
      · show zI (nZ z a kd n) a i = 0
        rw [zI_nZ, if_pos rfl]
      · show zG (nZ z a kd n) a i = 0
        rw [zG_nZ, if_pos rfl]
    · obtain ⟨⟨g1, g2⟩, g3, g4, g5, g6⟩ := h2 t ht
      have nt : t.2 ≠ a := fun e => g3 (by rw [e]; exact ha)
      have nk : t.1 ≠ k := fun e => by
        have : (L.map (·.1)).contains k = true := List.contains_iff_mem.mpr (List.mem_map.mpr ⟨t, ht, e⟩)
        rw [hk] at this; cases this
      refine ⟨⟨?_, ?_⟩, ?_, g4, ?_, fun i => ⟨?_, ?_⟩⟩
      · rw [zK_wO, zK_nZ, if_neg nt]; exact g1
      · show zN (nZ z a kd n) t.2 = _
        rw [zN_nZ, if_neg nt]; exact g2
      · rw [zK_wO, zK_nZ, if_neg nt]; exact g3
      · rw [zO_wO, if_neg (fun w => nk (by have := w.2; omega)), zO_nZ, if_neg na]; exact g5
      · rw [zI_wO, zI_nZ, if_neg nt]; exact (g6 i).1
      · rw [zG_wO, zG_nZ, if_neg nt]; exact (g6 i).2
  · rcases List.mem_cons.mp hs with rfl | hs
    · rcases List.mem_cons.mp ht with rfl | ht
      · rfl
      · exact absurd ha (by have e : a = t.2 := e; rw [e]; exact (h2 t ht).2.1)
    · rcases List.mem_cons.mp ht with rfl | ht
      · exact absurd ha (by have e : s.2 = a := e; rw [← e]; exact (h2 s hs).2.1)
      · exact h3 s hs t ht e
  · rw [zI_wO, zI_nZ, if_neg na]; exact h4 q hq
  · rw [zI_wO, zI_nZ, if_neg na]; exact h5 i hi
theorem om_int {i x : Int} (h : OM z t0 L Q) (hi : (Q.map (·.1)).contains i = false) : OM (wI z t0 i x) t0 L ((i, x) :: Q) := by
  obtain ⟨h1, h2, h3, h4, h5⟩ := h
  refine ⟨h1, fun t ht => ?_, h3, fun q hq => ?_, fun j hj => ?_⟩
  · obtain ⟨g1, g3, g4, g5, g6⟩ := h2 t ht
    refine ⟨g1, g3, g4, g5, fun j => ⟨?_, (g6 j).2⟩⟩
    rw [zI_wI, if_neg (fun w => g4 w.1)]; exact (g6 j).1
  · rcases List.mem_cons.mp hq with rfl | hq
    · rw [zI_wI, if_pos ⟨rfl, rfl⟩]
    · rw [zI_wI, if_neg (fun w => ?_)]
      · exact h4 q hq
      · have : (Q.map (·.1)).contains i = true := List.contains_iff_mem.mpr (List.mem_map.mpr ⟨q, hq, w.2⟩)
        rw [hi] at this; cases this
  · have w : j ≠ i ∧ (Q.map (·.1)).contains j = false := by
      have hj : (i :: Q.map (·.1)).contains j = false := hj
      rw [List.contains_cons] at hj
      simp only [Bool.or_eq_false_iff, beq_eq_false_iff_ne] at hj
      exact hj
    rw [zI_wI, if_neg (fun q => w.1 q.2)]; exact h5 j w.2
end Om
def lsM : List Nat := [103, 102, 101, 99, 97, 96, 95, 94, 93, 92, 91, 90, 89, 88, 86, 85, 84, 83, 82, 70, 69, 68, 67, 66, 64, 63, 62, 61, 60, 39, 38, 37, 36, 35, 34, 33, 32, 31, 30, 29, 28, 27, 26, 23, 22, 21, 20, 18, 11, 10, 9, 5, 4, 3, 2, 1]
theorem lsM_k : ∀ k, k < 105 → mkl.getD k 0 ≠ 0 → k ∈ lsM := by decide
theorem lsM_v : ∀ k ∈ lsM, mkl.getD k 0 ≠ 0 ∧ k ≠ 0 := by decide
set_option maxRecDepth 50000 in
theorem m_arrs {t0 : Nat} {P : Z → Prop} (p : ∀ z L c s, OM z t0 L [(13, -1), (8, 1), (7, 6), (6, 8)] → L.map (·.1) = lsM → F_X12_init_503 t0 1 z c s P) : F_X12_init t0 (nZ zE t0 13 0) 56 1298775 P := by
  have w : OM (nZ zE t0 13 0) t0 [] [] := by
    refine ⟨⟨by rw [zK_nZ, if_pos rfl], fun i => by rw [zG_nZ, if_pos rfl]⟩, fun t ht => absurd ht List.not_mem_nil, fun t ht => absurd ht List.not_mem_nil, fun t ht => absurd ht List.not_mem_nil, fun i _ => by rw [zI_nZ, if_pos rfl]⟩
  generalize nZ zE t0 13 0 = z at w
  unfold F_X12_init
  refine om_arr (k := 1) w rfl rfl rfl rfl (by decide) (by decide) (by decide) (by decide) (fun _ a1 w => ?_)
  refine om_arr (k := 2) w rfl rfl rfl rfl (by decide) (by decide) (by decide) (by decide) (fun _ a2 w => ?_)
  refine om_arr (k := 3) w rfl rfl rfl rfl (by decide) (by decide) (by decide) (by decide) (fun _ a3 w => ?_)
  refine om_arr (k := 4) w rfl rfl rfl rfl (by decide) (by decide) (by decide) (by decide) (fun _ a4 w => ?_)
  refine om_arr (k := 5) w rfl rfl rfl rfl (by decide) (by decide) (by decide) (by decide) (fun _ a5 w => ?_)
  rintro _ rfl
  replace w := om_int (i := 6) (x := 8) w rfl
  rintro _ rfl
  replace w := om_int (i := 7) (x := 6) w rfl
  rintro _ rfl
  replace w := om_int (i := 8) (x := 1) w rfl
  refine om_arr (k := 9) w rfl rfl rfl rfl (by decide) (by decide) (by decide) (by decide) (fun _ a9 w => ?_)
  refine om_arr (k := 10) w rfl rfl rfl rfl (by decide) (by decide) (by decide) (by decide) (fun _ a10 w => ?_)
  refine om_arr (k := 11) w rfl rfl rfl rfl (by decide) (by decide) (by decide) (by decide) (fun _ a11 w => ?_)
  rintro _ rfl
  replace w := om_int (i := 13) (x := (-1)) w rfl
  refine om_arr (k := 18) w rfl rfl rfl rfl (by decide) (by decide) (by decide) (by decide) (fun _ a18 w => ?_)
  refine om_arr (k := 20) w rfl rfl rfl rfl (by decide) (by decide) (by decide) (by decide) (fun _ a20 w => ?_)
  refine om_arr (k := 21) w rfl rfl rfl rfl (by decide) (by decide) (by decide) (by decide) (fun _ a21 w => ?_)
  refine om_arr (k := 22) w rfl rfl rfl rfl (by decide) (by decide) (by decide) (by decide) (fun _ a22 w => ?_)
  refine om_arr (k := 23) w rfl rfl rfl rfl (by decide) (by decide) (by decide) (by decide) (fun _ a23 w => ?_)
  refine om_arr (k := 26) w rfl rfl rfl rfl (by decide) (by decide) (by decide) (by decide) (fun _ a26 w => ?_)
  refine om_arr (k := 27) w rfl rfl rfl rfl (by decide) (by decide) (by decide) (by decide) (fun _ a27 w => ?_)
  refine om_arr (k := 28) w rfl rfl rfl rfl (by decide) (by decide) (by decide) (by decide) (fun _ a28 w => ?_)
  refine om_arr (k := 29) w rfl rfl rfl rfl (by decide) (by decide) (by decide) (by decide) (fun _ a29 w => ?_)
  refine om_arr (k := 30) w rfl rfl rfl rfl (by decide) (by decide) (by decide) (by decide) (fun _ a30 w => ?_)
  refine om_arr (k := 31) w rfl rfl rfl rfl (by decide) (by decide) (by decide) (by decide) (fun _ a31 w => ?_)
  refine om_arr (k := 32) w rfl rfl rfl rfl (by decide) (by decide) (by decide) (by decide) (fun _ a32 w => ?_)
  refine om_arr (k := 33) w rfl rfl rfl rfl (by decide) (by decide) (by decide) (by decide) (fun _ a33 w => ?_)
  refine om_arr (k := 34) w rfl rfl rfl rfl (by decide) (by decide) (by decide) (by decide) (fun _ a34 w => ?_)
  refine om_arr (k := 35) w rfl rfl rfl rfl (by decide) (by decide) (by decide) (by decide) (fun _ a35 w => ?_)
  refine om_arr (k := 36) w rfl rfl rfl rfl (by decide) (by decide) (by decide) (by decide) (fun _ a36 w => ?_)
  refine om_arr (k := 37) w rfl rfl rfl rfl (by decide) (by decide) (by decide) (by decide) (fun _ a37 w => ?_)
  refine om_arr (k := 38) w rfl rfl rfl rfl (by decide) (by decide) (by decide) (by decide) (fun _ a38 w => ?_)
  refine om_arr (k := 39) w rfl rfl rfl rfl (by decide) (by decide) (by decide) (by decide) (fun _ a39 w => ?_)
  refine om_arr (k := 60) w rfl rfl rfl rfl (by decide) (by decide) (by decide) (by decide) (fun _ a60 w => ?_)
  refine om_arr (k := 61) w rfl rfl rfl rfl (by decide) (by decide) (by decide) (by decide) (fun _ a61 w => ?_)
  refine om_arr (k := 62) w rfl rfl rfl rfl (by decide) (by decide) (by decide) (by decide) (fun _ a62 w => ?_)
  refine om_arr (k := 63) w rfl rfl rfl rfl (by decide) (by decide) (by decide) (by decide) (fun _ a63 w => ?_)
  refine om_arr (k := 64) w rfl rfl rfl rfl (by decide) (by decide) (by decide) (by decide) (fun _ a64 w => ?_)
  refine om_arr (k := 66) w rfl rfl rfl rfl (by decide) (by decide) (by decide) (by decide) (fun _ a66 w => ?_)
  refine om_arr (k := 67) w rfl rfl rfl rfl (by decide) (by decide) (by decide) (by decide) (fun _ a67 w => ?_)
  refine om_arr (k := 68) w rfl rfl rfl rfl (by decide) (by decide) (by decide) (by decide) (fun _ a68 w => ?_)
  refine om_arr (k := 69) w rfl rfl rfl rfl (by decide) (by decide) (by decide) (by decide) (fun _ a69 w => ?_)
  refine om_arr (k := 70) w rfl rfl rfl rfl (by decide) (by decide) (by decide) (by decide) (fun _ a70 w => ?_)
  refine om_arr (k := 82) w rfl rfl rfl rfl (by decide) (by decide) (by decide) (by decide) (fun _ a82 w => ?_)
  refine om_arr (k := 83) w rfl rfl rfl rfl (by decide) (by decide) (by decide) (by decide) (fun _ a83 w => ?_)
  refine om_arr (k := 84) w rfl rfl rfl rfl (by decide) (by decide) (by decide) (by decide) (fun _ a84 w => ?_)
  refine om_arr (k := 85) w rfl rfl rfl rfl (by decide) (by decide) (by decide) (by decide) (fun _ a85 w => ?_)
  refine om_arr (k := 86) w rfl rfl rfl rfl (by decide) (by decide) (by decide) (by decide) (fun _ a86 w => ?_)
  refine om_arr (k := 88) w rfl rfl rfl rfl (by decide) (by decide) (by decide) (by decide) (fun _ a88 w => ?_)
  refine om_arr (k := 89) w rfl rfl rfl rfl (by decide) (by decide) (by decide) (by decide) (fun _ a89 w => ?_)
  refine om_arr (k := 90) w rfl rfl rfl rfl (by decide) (by decide) (by decide) (by decide) (fun _ a90 w => ?_)
  refine om_arr (k := 91) w rfl rfl rfl rfl (by decide) (by decide) (by decide) (by decide) (fun _ a91 w => ?_)
  refine om_arr (k := 92) w rfl rfl rfl rfl (by decide) (by decide) (by decide) (by decide) (fun _ a92 w => ?_)
  refine om_arr (k := 93) w rfl rfl rfl rfl (by decide) (by decide) (by decide) (by decide) (fun _ a93 w => ?_)
  refine om_arr (k := 94) w rfl rfl rfl rfl (by decide) (by decide) (by decide) (by decide) (fun _ a94 w => ?_)
  refine om_arr (k := 95) w rfl rfl rfl rfl (by decide) (by decide) (by decide) (by decide) (fun _ a95 w => ?_)
  refine om_arr (k := 96) w rfl rfl rfl rfl (by decide) (by decide) (by decide) (by decide) (fun _ a96 w => ?_)
  refine om_arr (k := 97) w rfl rfl rfl rfl (by decide) (by decide) (by decide) (by decide) (fun _ a97 w => ?_)
  refine om_arr (k := 99) w rfl rfl rfl rfl (by decide) (by decide) (by decide) (by decide) (fun _ a99 w => ?_)
  refine om_arr (k := 101) w rfl rfl rfl rfl (by decide) (by decide) (by decide) (by decide) (fun _ a101 w => ?_)
  refine om_arr (k := 102) w rfl rfl rfl rfl (by decide) (by decide) (by decide) (by decide) (fun _ a102 w => ?_)
  refine om_arr (k := 103) w rfl rfl rfl rfl (by decide) (by decide) (by decide) (by decide) (fun _ a103 w => ?_)
  exact p _ _ _ _ w rfl
