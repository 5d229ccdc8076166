/-! ===== the reference's constructor: what it fills in ===== -/
def vk (k : Nat) : Prop := k = 0 ∨ mkl.getD k 0 ≠ 0
def MZ (z : Z) (g : Nat → Nat) : Prop := zK z (g 0) = 13 ∧ (∀ k, mkl.getD k 0 ≠ 0 → zO z (g 0) k = some (g k) ∧ zK z (g k) = mkl.getD k 0 ∧ zN z (g k) = ((mnl.getD k 0 : Nat) : Int)) ∧ ∀ i j, vk i → vk j → g i = g j → i = j
def Sm (L : WR) (g : Nat → Nat) (z y : Z) : Prop := MZ y g ∧ (∀ k i, vk k → ¬ wHas L k i → zI y (g k) i = zI z (g k) i) ∧ ∀ a i, zG y a i = zG z a i
section Mz
variable {z y w : Z} {g : Nat → Nat} {L : WR}
theorem Sm_rf (h : MZ z g) : Sm L g z z := ⟨h, fun _ _ _ _ => rfl, fun _ _ => rfl⟩
theorem Sm_w {k : Nat} {i x : Int} (h : Sm L g z y) (hk : vk k) (hw : wHas L k i) : Sm L g z (wI y (g k) i x) := by
  refine ⟨h.1, fun k' i' q n => ?_, h.2.2⟩
  rw [zI_wI, if_neg (fun w => n (by rw [h.1.2.2 k' k q hk w.1, w.2]; exact hw))]
  exact h.2.1 k' i' q n
theorem Sm_tr {L' : WR} (h : Sm L g z y) (h' : Sm L' g y w) : Sm (L ++ L') g z w := by
  refine ⟨h'.1, fun k i q n => ?_, fun a i => (h'.2.2 a i).trans (h.2.2 a i)⟩
  have n1 : ¬ wHas L k i := fun ⟨t, a, c⟩ => n ⟨t, List.mem_append_left _ a, c⟩
  have n2 : ¬ wHas L' k i := fun ⟨t, a, c⟩ => n ⟨t, List.mem_append_right _ a, c⟩
  exact (h'.2.1 k i q n2).trans (h.2.1 k i q n1)
theorem MZ_o (h : MZ z g) (k : Nat) {j : Int} (hj : j = (k : Int)) (hk : mkl.getD k 0 ≠ 0) : zO z (g 0) j = some (g k) := by rw [hj]; exact (h.2.1 k hk).1
theorem MZ_k (h : MZ z g) (k : Nat) {c : Nat} (e : mkl.getD k 0 = c + 1) : zK z (g k) = c + 1 := by rw [← e]; exact (h.2.1 k (by omega)).2.1
theorem MZ_n (h : MZ z g) (k : Nat) {n : Nat} (e : mnl.getD k 0 = n) (hk : mkl.getD k 0 ≠ 0) : zN z (g k) = (n : Int) := by rw [← e]; exact (h.2.1 k hk).2.2
theorem l_503 {c s : Nat} {P : Z → Prop} (h : MZ z g) (p : ∀ y, Sm [(11, none)] g z y → (∀ i, 1 ≤ i → i < 6 → zI y (g 11) i = -1) → zI y (g 11) 0 = zI z (g 11) 0 → P y) : lp (S := Int × Z) (E := Z) (fun q P_ => L_X12_init_503 (g 0) q.1 q.2 c s P_) (1, z) P := by
  refine lp_I (fun q => 1 ≤ q.1 ∧ q.1 ≤ 6 ∧ Sm [(11, none)] g z q.2 ∧ (∀ i, 1 ≤ i → i < q.1 → zI q.2 (g 11) i = -1) ∧ zI q.2 (g 11) 0 = zI z (g 11) 0) (fun q => (6 - q.1).toNat) ?_ (1, z) ⟨by show (1 : Int) ≤ 1; omega, by show (1 : Int) ≤ 6; omega, Sm_rf h, fun i i0 i1 => (by have : i < 1 := i1; omega), rfl⟩
  rintro G ⟨k, w⟩ ⟨k0, k1, f, hk, e0⟩ ih
  simp only at k0 k1 f hk e0
  show L_X12_init_503 (g 0) k w c s _
  unfold L_X12_init_503
  by_cases cc : 6 ≤ k
  · rw [if_pos cc]
    exact p w f (fun i i0 i1 => hk i i0 (by omega)) e0
  rw [if_neg cc]
  refine ⟨f.1.1, g 11, MZ_o f.1 11 rfl (by decide), MZ_k f.1 11 rfl, by omega, by rw [MZ_n f.1 11 (n := 6) rfl (by decide)]; omega, ?_⟩
  rintro _ rfl
  rw [w32e (x := k + 1) (by omega) (by omega)]
  refine ih (k + 1, _) ⟨by show 1 ≤ k + 1; omega, by show k + 1 ≤ 6; omega, Sm_w f (Or.inr (by decide)) (wHas_a (by decide)), fun i i0 i1 => ?_, ?_⟩ (by show (6 - (k + 1)).toNat < (6 - k).toNat; omega)
  · have i1 : i < k + 1 := i1
    show zI (wI w (g 11) k (-1)) (g 11) i = _
    rw [zI_wI]
    by_cases e : i = k
    · rw [if_pos ⟨rfl, e⟩]
    · rw [if_neg (fun w => e w.2)]; exact hk i i0 (by omega)
  · show zI (wI w (g 11) k (-1)) (g 11) 0 = _
    rw [zI_wI, if_neg (fun w => by have := w.2; omega)]; exact e0
theorem l_554 {c s : Nat} {P : Z → Prop} (h : MZ z g) (p : ∀ y, Sm [(3, none)] g z y → (∀ i, 0 ≤ i → i < 8 → zI y (g 3) i = i) → P y) : lp (S := Int × Z) (E := Z) (fun q P_ => L_X12_init_554 (g 0) q.1 q.2 c s P_) (0, z) P := by
  refine lp_I (fun q => 0 ≤ q.1 ∧ q.1 ≤ 8 ∧ Sm [(3, none)] g z q.2 ∧ (∀ i, 0 ≤ i → i < q.1 → zI q.2 (g 3) i = i)) (fun q => (8 - q.1).toNat) ?_ (0, z) ⟨by show (0 : Int) ≤ 0; omega, by show (0 : Int) ≤ 8; omega, Sm_rf h, fun i i0 i1 => (by have : i < 0 := i1; omega)⟩
  rintro G ⟨k, w⟩ ⟨k0, k1, f, hk⟩ ih
  simp only at k0 k1 f hk
  show L_X12_init_554 (g 0) k w c s _
  unfold L_X12_init_554
  by_cases cc : 8 ≤ k
  · rw [if_pos cc]
    exact p w f (fun i i0 i1 => hk i i0 (by omega))
  rw [if_neg cc]
  refine ⟨f.1.1, g 3, MZ_o f.1 3 rfl (by decide), MZ_k f.1 3 rfl, by omega, by rw [MZ_n f.1 3 (n := 3904) rfl (by decide)]; omega, ?_⟩
  rintro _ rfl
  rw [w32e (x := k + 1) (by omega) (by omega)]
  refine ih (k + 1, _) ⟨by show 0 ≤ k + 1; omega, by show k + 1 ≤ 8; omega, Sm_w f (Or.inr (by decide)) (wHas_a (by decide)), fun i i0 i1 => ?_⟩ (by show (8 - (k + 1)).toNat < (8 - k).toNat; omega)
  have i1 : i < k + 1 := i1
  show zI (wI w (g 3) k k) (g 3) i = _
  rw [zI_wI]
  by_cases e : i = k
  · rw [if_pos ⟨rfl, e⟩, e]
  · rw [if_neg (fun w => e w.2)]; exact hk i i0 (by omega)
theorem l_575 {c s : Nat} {P : Z → Prop} (h : MZ z g) (p : ∀ y, Sm [(4, none)] g z y → (∀ i, 0 ≤ i → i < 6 → zI y (g 4) i = i) → P y) : lp (S := Int × Z) (E := Z) (fun q P_ => L_X12_init_575 (g 0) q.1 q.2 c s P_) (0, z) P := by
  refine lp_I (fun q => 0 ≤ q.1 ∧ q.1 ≤ 6 ∧ Sm [(4, none)] g z q.2 ∧ (∀ i, 0 ≤ i → i < q.1 → zI q.2 (g 4) i = i)) (fun q => (6 - q.1).toNat) ?_ (0, z) ⟨by show (0 : Int) ≤ 0; omega, by show (0 : Int) ≤ 6; omega, Sm_rf h, fun i i0 i1 => (by have : i < 0 := i1; omega)⟩
  rintro G ⟨k, w⟩ ⟨k0, k1, f, hk⟩ ih
  simp only at k0 k1 f hk
  show L_X12_init_575 (g 0) k w c s _
  unfold L_X12_init_575
  by_cases cc : 6 ≤ k
  · rw [if_pos cc]
    exact p w f (fun i i0 i1 => hk i i0 (by omega))
  rw [if_neg cc]
  refine ⟨f.1.1, g 4, MZ_o f.1 4 rfl (by decide), MZ_k f.1 4 rfl, by omega, by rw [MZ_n f.1 4 (n := 1220) rfl (by decide)]; omega, ?_⟩
  rintro _ rfl
  rw [w32e (x := k + 1) (by omega) (by omega)]
  refine ih (k + 1, _) ⟨by show 0 ≤ k + 1; omega, by show k + 1 ≤ 6; omega, Sm_w f (Or.inr (by decide)) (wHas_a (by decide)), fun i i0 i1 => ?_⟩ (by show (6 - (k + 1)).toNat < (6 - k).toNat; omega)
  have i1 : i < k + 1 := i1
  show zI (wI w (g 4) k k) (g 4) i = _
  rw [zI_wI]
  by_cases e : i = k
  · rw [if_pos ⟨rfl, e⟩, e]
  · rw [if_neg (fun w => e w.2)]; exact hk i i0 (by omega)
def wMd : WR := [(11, none), (9, some 0), (10, some 0), (1, some 0), (2, some 0), (3, none), (4, none)]
/-- the reference's ints when its constructor has filled them in -/
def Mfa (z y : Z) (g : Nat → Nat) : Prop := Sm wMd g z y ∧ (∀ i, 0 ≤ i → i < 6 → zI y (g 11) i = if i = 0 then zI z (g 11) 0 else -1) ∧ (zI y (g 9) 0 = -1 ∧ zI y (g 10) 0 = -1 ∧ zI y (g 1) 0 = 8 ∧ zI y (g 2) 0 = 6) ∧ (∀ i, 0 ≤ i → i < 8 → zI y (g 3) i = i) ∧ ∀ i, 0 ≤ i → i < 6 → zI y (g 4) i = i
theorem m_fill {c s : Nat} {P : Z → Prop} (h : MZ z g) (p : ∀ y, Mfa z y g → P y) : F_X12_init_503 (g 0) 1 z c s P := by
  unfold F_X12_init_503
  refine l_503 h (fun y1 f1 e1 e1' => ?_)
  have v9 : vk 9 := Or.inr (by decide)
  have v10 : vk 10 := Or.inr (by decide)
  have v1 : vk 1 := Or.inr (by decide)
  have v2 : vk 2 := Or.inr (by decide)
  have v3 : vk 3 := Or.inr (by decide)
  have v4 : vk 4 := Or.inr (by decide)
  have v11 : vk 11 := Or.inr (by decide)
  have h1 := f1.1
  refine ⟨h1.1, g 9, MZ_o h1 9 rfl (by decide), MZ_k h1 9 rfl, by decide, by rw [MZ_n h1 9 (n := 40) rfl (by decide)]; decide, ?_⟩
  rintro _ rfl
  refine ⟨g 10, MZ_o (z := y1) h1 10 rfl (by decide), MZ_k (z := y1) h1 10 rfl, by decide, by show 0 < zN y1 (g 10); rw [MZ_n h1 10 (n := 40) rfl (by decide)]; decide, ?_⟩
  rintro _ rfl
  refine ⟨g 1, MZ_o (z := y1) h1 1 rfl (by decide), MZ_k (z := y1) h1 1 rfl, by decide, by show 0 < zN y1 (g 1); rw [MZ_n h1 1 (n := 122) rfl (by decide)]; decide, ?_⟩
  rintro _ rfl
  refine ⟨g 2, MZ_o (z := y1) h1 2 rfl (by decide), MZ_k (z := y1) h1 2 rfl, by decide, by show 0 < zN y1 (g 2); rw [MZ_n h1 2 (n := 122) rfl (by decide)]; decide, ?_⟩
  rintro _ rfl
  have f2 : Sm [(9, some 0), (10, some 0), (1, some 0), (2, some 0)] g y1 (wI (wI (wI (wI y1 (g 9) 0 (-1)) (g 10) 0 (-1)) (g 1) 0 8) (g 2) 0 6) := Sm_w (Sm_w (Sm_w (Sm_w (Sm_rf h1) v9 (wHas_i (by decide))) v10 (wHas_i (by decide))) v1 (wHas_i (by decide))) v2 (wHas_i (by decide))
  have ne : ∀ i j, vk i → vk j → i ≠ j → g i ≠ g j := fun i j a c n e => n (h1.2.2 i j a c e)
  have a9 : zI (wI (wI (wI (wI y1 (g 9) 0 (-1)) (g 10) 0 (-1)) (g 1) 0 8) (g 2) 0 6) (g 9) 0 = -1 := by
    rw [zI_wI, if_neg (fun w => ne 9 2 v9 v2 (by decide) w.1), zI_wI, if_neg (fun w => ne 9 1 v9 v1 (by decide) w.1), zI_wI, if_neg (fun w => ne 9 10 v9 v10 (by decide) w.1), zI_wI, if_pos ⟨rfl, rfl⟩]
  have a10 : zI (wI (wI (wI (wI y1 (g 9) 0 (-1)) (g 10) 0 (-1)) (g 1) 0 8) (g 2) 0 6) (g 10) 0 = -1 := by
    rw [zI_wI, if_neg (fun w => ne 10 2 v10 v2 (by decide) w.1), zI_wI, if_neg (fun w => ne 10 1 v10 v1 (by decide) w.1), zI_wI, if_pos ⟨rfl, rfl⟩]
  have a1 : zI (wI (wI (wI (wI y1 (g 9) 0 (-1)) (g 10) 0 (-1)) (g 1) 0 8) (g 2) 0 6) (g 1) 0 = 8 := by
    rw [zI_wI, if_neg (fun w => ne 1 2 v1 v2 (by decide) w.1), zI_wI, if_pos ⟨rfl, rfl⟩]
  have a2 : zI (wI (wI (wI (wI y1 (g 9) 0 (-1)) (g 10) 0 (-1)) (g 1) 0 8) (g 2) 0 6) (g 2) 0 = 6 := by
    rw [zI_wI, if_pos ⟨rfl, rfl⟩]
  generalize wI (wI (wI (wI y1 (g 9) 0 (-1)) (g 10) 0 (-1)) (g 1) 0 8) (g 2) 0 6 = y2 at *
  unfold F_X12_init_554
  refine l_554 f2.1 (fun y3 f3 e3 => ?_)
  unfold F_X12_init_575
  refine l_575 f3.1 (fun y4 f4 e4 => p y4 ?_)
  have nh : ∀ (L : WR) (k : Nat) (i : Int), eHas L k i = false → ¬ wHas L k i := fun L k i e => eHas_w e
  refine ⟨Sm_tr (Sm_tr f1 f2) (Sm_tr f3 f4), fun i i0 i1 => ?_, ⟨?_, ?_, ?_, ?_⟩, fun i i0 i1 => ?_, e4⟩
  · have e : zI y4 (g 11) i = zI y1 (g 11) i := by
      rw [f4.2.1 11 i v11 (nh _ _ _ rfl), f3.2.1 11 i v11 (nh _ _ _ rfl), f2.2.1 11 i v11 (nh _ _ _ rfl)]
    rw [e]
    by_cases c : i = 0
    · rw [if_pos c, c]; exact e1'
    · rw [if_neg c]; exact e1 i (by omega) i1
  · rw [f4.2.1 9 0 v9 (nh _ _ _ rfl), f3.2.1 9 0 v9 (nh _ _ _ rfl)]; exact a9
  · rw [f4.2.1 10 0 v10 (nh _ _ _ rfl), f3.2.1 10 0 v10 (nh _ _ _ rfl)]; exact a10
  · rw [f4.2.1 1 0 v1 (nh _ _ _ rfl), f3.2.1 1 0 v1 (nh _ _ _ rfl)]; exact a1
  · rw [f4.2.1 2 0 v2 (nh _ _ _ rfl), f3.2.1 2 0 v2 (nh _ _ _ rfl)]; exact a2
  · rw [f4.2.1 3 i v3 (nh _ _ _ rfl)]; exact e3 i i0 i1
end Mz
