/-! ===== small rows ===== -/
theorem li_0 : (0 : Int32) = nI 0 := rfl
theorem li_1 : (1 : Int32) = nI 1 := rfl
theorem li_2 : (2 : Int32) = nI 2 := rfl
theorem li_3 : (3 : Int32) = nI 3 := rfl
theorem li_4 : (4 : Int32) = nI 4 := rfl
theorem li_5 : (5 : Int32) = nI 5 := rfl
theorem li_6 : (6 : Int32) = nI 6 := rfl
theorem li_7 : (7 : Int32) = nI 7 := rfl
theorem li_8 : (8 : Int32) = nI 8 := rfl
theorem li_9 : (9 : Int32) = nI 9 := rfl
theorem li_10 : (10 : Int32) = nI 10 := rfl
theorem li_11 : (11 : Int32) = nI 11 := rfl
theorem li_12 : (12 : Int32) = nI 12 := rfl
theorem li_13 : (13 : Int32) = nI 13 := rfl
theorem li_14 : (14 : Int32) = nI 14 := rfl
theorem li_15 : (15 : Int32) = nI 15 := rfl
theorem li_16 : (16 : Int32) = nI 16 := rfl
theorem li_17 : (17 : Int32) = nI 17 := rfl
theorem li_18 : (18 : Int32) = nI 18 := rfl
theorem li_19 : (19 : Int32) = nI 19 := rfl
theorem li_20 : (20 : Int32) = nI 20 := rfl
theorem li_21 : (21 : Int32) = nI 21 := rfl
theorem li_22 : (22 : Int32) = nI 22 := rfl
theorem li_23 : (23 : Int32) = nI 23 := rfl
theorem li_24 : (24 : Int32) = nI 24 := rfl
theorem li_25 : (25 : Int32) = nI 25 := rfl
theorem li_26 : (26 : Int32) = nI 26 := rfl
theorem li_27 : (27 : Int32) = nI 27 := rfl
theorem li_28 : (28 : Int32) = nI 28 := rfl
theorem li_29 : (29 : Int32) = nI 29 := rfl
theorem li_30 : (30 : Int32) = nI 30 := rfl
theorem li_31 : (31 : Int32) = nI 31 := rfl
theorem li_32 : (32 : Int32) = nI 32 := rfl
theorem li_33 : (33 : Int32) = nI 33 := rfl
theorem li_34 : (34 : Int32) = nI 34 := rfl
theorem li_35 : (35 : Int32) = nI 35 := rfl
theorem li_36 : (36 : Int32) = nI 36 := rfl
theorem li_37 : (37 : Int32) = nI 37 := rfl
theorem li_38 : (38 : Int32) = nI 38 := rfl
theorem li_39 : (39 : Int32) = nI 39 := rfl
theorem li_40 : (40 : Int32) = nI 40 := rfl
theorem li_41 : (41 : Int32) = nI 41 := rfl
theorem li_42 : (42 : Int32) = nI 42 := rfl
theorem li_43 : (43 : Int32) = nI 43 := rfl
theorem li_44 : (44 : Int32) = nI 44 := rfl
theorem li_45 : (45 : Int32) = nI 45 := rfl
theorem li_46 : (46 : Int32) = nI 46 := rfl
theorem li_47 : (47 : Int32) = nI 47 := rfl
theorem li_48 : (48 : Int32) = nI 48 := rfl
theorem li_49 : (49 : Int32) = nI 49 := rfl
theorem li_50 : (50 : Int32) = nI 50 := rfl
theorem li_51 : (51 : Int32) = nI 51 := rfl
theorem li_52 : (52 : Int32) = nI 52 := rfl
theorem li_53 : (53 : Int32) = nI 53 := rfl
theorem li_54 : (54 : Int32) = nI 54 := rfl
theorem li_55 : (55 : Int32) = nI 55 := rfl
theorem li_56 : (56 : Int32) = nI 56 := rfl
theorem li_57 : (57 : Int32) = nI 57 := rfl
theorem li_58 : (58 : Int32) = nI 58 := rfl
theorem li_59 : (59 : Int32) = nI 59 := rfl
theorem li_60 : (60 : Int32) = nI 60 := rfl
theorem li_61 : (61 : Int32) = nI 61 := rfl
theorem li_62 : (62 : Int32) = nI 62 := rfl
theorem li_63 : (63 : Int32) = nI 63 := rfl
theorem li_64 : (64 : Int32) = nI 64 := rfl
theorem li_81 : (81 : Int32) = nI 81 := rfl
theorem li_100 : (100 : Int32) = nI 100 := rfl
theorem li_121 : (121 : Int32) = nI 121 := rfl
theorem li_122 : (122 : Int32) = nI 122 := rfl
theorem li_126 : (126 : Int32) = nI 126 := rfl
theorem li_128 : (128 : Int32) = nI 128 := rfl
theorem li_200 : (200 : Int32) = nI 200 := rfl
theorem li_255 : (255 : Int32) = nI 255 := rfl
theorem li_320 : (320 : Int32) = nI 320 := rfl
theorem li_370 : (370 : Int32) = nI 370 := rfl
theorem li_380 : (380 : Int32) = nI 380 := rfl
theorem li_400 : (400 : Int32) = nI 400 := rfl
theorem li_406 : (406 : Int32) = nI 406 := rfl
theorem li_410 : (410 : Int32) = nI 410 := rfl
theorem li_420 : (420 : Int32) = nI 420 := rfl
theorem li_640 : (640 : Int32) = nI 640 := rfl
theorem li_1220 : (1220 : Int32) = nI 1220 := rfl
theorem li_1600 : (1600 : Int32) = nI 1600 := rfl
theorem li_2000 : (2000 : Int32) = nI 2000 := rfl
theorem li_2400 : (2400 : Int32) = nI 2400 := rfl
theorem li_3904 : (3904 : Int32) = nI 3904 := rfl
theorem li_4200 : (4200 : Int32) = nI 4200 := rfl
theorem li_4800 : (4800 : Int32) = nI 4800 := rfl
theorem li_13120 : (13120 : Int32) = nI 13120 := rfl
theorem li_39040 : (39040 : Int32) = nI 39040 := rfl
theorem li_60000 : (60000 : Int32) = nI 60000 := rfl
theorem li_60420 : (60420 : Int32) = nI 60420 := rfl
theorem li_82400 : (82400 : Int32) = nI 82400 := rfl
theorem li_100000 : (100000 : Int32) = nI 100000 := rfl
theorem li_314880 : (314880 : Int32) = nI 314880 := rfl
theorem inc1 (i : Nat) : nI i + Int32.ofInt 1 = nI (i + 1) := nI_1 i
theorem dec1 (i : Nat) : nI (i + 1) + Int32.ofInt (-1) = nI i := pk_m1 i
def b2 (p : Prop) [Decidable p] : Int32 := if p then 1 else 0
theorem b2t {p : Prop} [Decidable p] (h : p) : b2 p = 1 := if_pos h
theorem b2f {p : Prop} [Decidable p] (h : ¬ p) : b2 p = 0 := if_neg h
theorem b2_0 {p : Prop} [Decidable p] : b2 p = 0 ↔ ¬ p := by by_cases h : p <;> simp [b2, h]
theorem b2_n {p : Prop} [Decidable p] : b2 p ≠ 0 ↔ p := by by_cases h : p <;> simp [b2, h]
theorem b2_nar {p : Prop} [Decidable p] : narrow .boolean (.int (b2 p)) = .int (b2 p) := by by_cases h : p <;> simp [b2, h] <;> rfl
theorem b2_nn {p : Prop} [Decidable p] : ¬ b2 p = 0 ↔ p := b2_n
theorem lt_i {x y : Int32} : x < y ↔ x.toInt < y.toInt := Int32.lt_iff_toInt_lt
theorem le_i {x y : Int32} : x ≤ y ↔ x.toInt ≤ y.toInt := Int32.le_iff_toInt_le
theorem eq_i {x y : Int32} : x = y ↔ x.toInt = y.toInt := Int32.toInt_inj.symm
theorem nI_ex {x : Int32} {n : Nat} (h0 : 0 ≤ x.toInt) (h1 : x.toInt ≤ n) : ∃ k : Nat, k ≤ n ∧ x = nI k ∧ (k : Int) = x.toInt := by
  obtain ⟨j, hj, rfl⟩ := nI_of (x := x) (by rw [lt_i]; show ¬ _ < (0 : Int); omega)
  rw [nI_toInt hj] at h1 ⊢
  exact ⟨j, by omega, rfl, rfl⟩
/-- one list of locals says no more than another one -/
def lle : List (Option Sv) → List (Option Sv) → Prop
  | [], [] => True
  | none :: t, _ :: t' => lle t t'
  | some v :: t, o :: t' => o = some v ∧ lle t t'
  | _, _ => False
theorem lle_ok : ∀ (l l' : List (Option Sv)), lle l l' → l.length = l'.length ∧ ∀ (i : Nat) (v : Sv), l[i]? = some (some v) → l'[i]? = some (some v)
  | [], [], _ => ⟨rfl, fun i v h => by simp at h⟩
  | [], _ :: _, h => h.elim
  | none :: t, [], h => h.elim
  | some _ :: t, [], h => h.elim
  | none :: t, o :: t', h => by
    obtain ⟨q1, q2⟩ := lle_ok t t' h
    refine ⟨by simp [q1], fun i v hi => ?_⟩
    cases i with
    | zero => simp at hi
    | succ i => simpa using q2 i v (by simpa using hi)
  | some w :: t, o :: t', h => by
    obtain ⟨q1, q2⟩ := lle_ok t t' h.2
    refine ⟨by simp [q1], fun i v hi => ?_⟩
    cases i with
    | zero => rw [h.1]; simpa using hi
    | succ i => simpa using q2 i v (by simpa using hi)
theorem j_lle {Y : MI} {d mc ms : Nat} {post : Option Sv ⊕ String → Hp → Prop} {pc : Nat} {lv lv' : List (Option Sv)} {st : List Sv} {h : Hp} (hs : lle lv' lv) (k : J Y d mc ms post pc lv' st h) : J Y d mc ms post pc lv st h := j_lv ⟨(lle_ok lv' lv hs).1, (lle_ok lv' lv hs).2⟩ k
/-! ===== what stays: all cells that were there, but those of S ===== -/
def Fr (S : Nat → Prop) (h u : Hp) : Prop := ∀ b, hK h b ≠ 0 → hK u b = hK h b ∧ hN u b = hN h b ∧ (¬ S b → hI u b = hI h b ∧ hG u b = hG h b ∧ hO u b = hO h b)
theorem Fr_rf {S : Nat → Prop} {h : Hp} : Fr S h h := fun _ _ => ⟨rfl, rfl, fun _ => ⟨rfl, rfl, rfl⟩⟩
theorem Fr_tr {S : Nat → Prop} {h u w : Hp} (f : Fr S h u) (g : Fr S u w) : Fr S h w := fun b hb => by
  obtain ⟨a1, a2, a3⟩ := f b hb
  obtain ⟨b1, b2, b3⟩ := g b (by rw [a1]; exact hb)
  exact ⟨b1.trans a1, b2.trans a2, fun hs => ⟨(b3 hs).1.trans (a3 hs).1, (b3 hs).2.1.trans (a3 hs).2.1, (b3 hs).2.2.trans (a3 hs).2.2⟩⟩
theorem Fr_mono {S T : Nat → Prop} {h u : Hp} (f : Fr S h u) (g : ∀ b, hK h b ≠ 0 → S b → T b) : Fr T h u := fun b hb => by
  obtain ⟨a1, a2, a3⟩ := f b hb
  exact ⟨a1, a2, fun hs => a3 (fun q => hs (g b hb q))⟩
/-- what was not there at the beginning may be written too -/
theorem Fr_tr2 {S T : Nat → Prop} {h u w : Hp} (f : Fr S h u) (g : Fr T u w) (e : ∀ b, hK h b ≠ 0 → T b → S b) : Fr S h w := fun b hb => by
  obtain ⟨a1, a2, a3⟩ := f b hb
  obtain ⟨b1, b2, b3⟩ := g b (by rw [a1]; exact hb)
  exact ⟨b1.trans a1, b2.trans a2, fun hs => ⟨(b3 (fun q => hs (e b hb q))).1.trans (a3 hs).1, (b3 (fun q => hs (e b hb q))).2.1.trans (a3 hs).2.1, (b3 (fun q => hs (e b hb q))).2.2.trans (a3 hs).2.2⟩⟩
theorem Fr_pI {S : Nat → Prop} {h u : Hp} {a k : Nat} {x : Int32} (f : Fr S h u) (ha : S a ∨ hK h a = 0) : Fr S h (pI u a k x) := fun b hb => by
  obtain ⟨a1, a2, a3⟩ := f b hb
  refine ⟨a1, a2, fun hs => ⟨?_, (a3 hs).2.1, (a3 hs).2.2⟩⟩
  have hne : b ≠ a := by rintro rfl; rcases ha with q | q <;> contradiction
  rw [← (a3 hs).1]; funext j; simp [hI, pI, u2, hne]
theorem Fr_pG {S : Nat → Prop} {h u : Hp} {a k : Nat} {x : Int64} (f : Fr S h u) (ha : S a ∨ hK h a = 0) : Fr S h (pG u a k x) := fun b hb => by
  obtain ⟨a1, a2, a3⟩ := f b hb
  refine ⟨a1, a2, fun hs => ⟨(a3 hs).1, ?_, (a3 hs).2.2⟩⟩
  have hne : b ≠ a := by rintro rfl; rcases ha with q | q <;> contradiction
  rw [← (a3 hs).2.1]; funext j; simp [hG, pG, u2, hne]
theorem Fr_pO {S : Nat → Prop} {h u : Hp} {a k : Nat} {x : Option Nat} (f : Fr S h u) (ha : S a ∨ hK h a = 0) : Fr S h (pO u a k x) := fun b hb => by
  obtain ⟨a1, a2, a3⟩ := f b hb
  refine ⟨a1, a2, fun hs => ⟨(a3 hs).1, (a3 hs).2.1, ?_⟩⟩
  have hne : b ≠ a := by rintro rfl; rcases ha with q | q <;> contradiction
  rw [← (a3 hs).2.2]; funext j; simp [hO, pO, u2, hne]
theorem Fr_nw {S : Nat → Prop} {h u : Hp} {q c n : Nat} (f : Fr S h u) (hq : hK u q = 0) : Fr S h (nw u q c n) := fun b hb => by
  obtain ⟨a1, a2, a3⟩ := f b hb
  have hne : b ≠ q := by rintro rfl; rw [a1] at hq; contradiction
  refine ⟨by rw [hK_nw, if_neg hne, a1], by rw [hN_nw, if_neg hne, a2], fun hs => ⟨?_, ?_, ?_⟩⟩
  · rw [← (a3 hs).1]; funext j; rw [hI_nw, if_neg hne]
  · rw [← (a3 hs).2.1]; funext j; rw [hG_nw, if_neg hne]
  · rw [← (a3 hs).2.2]; funext j; rw [hO_nw, if_neg hne]
/-- nothing that was there is written -/
abbrev Ex (h u : Hp) : Prop := Fr (fun _ => False) h u
theorem Ex_K {h u : Hp} (f : Ex h u) {b c : Nat} (hb : hK h b = c) (hc : c ≠ 0) : hK u b = c := by rw [(f b (by omega)).1, hb]
theorem Fr_K {S : Nat → Prop} {h u : Hp} (f : Fr S h u) {b c : Nat} (hb : hK h b = c) (hc : c ≠ 0) : hK u b = c := by rw [(f b (by omega)).1, hb]
theorem Fr_N {S : Nat → Prop} {h u : Hp} (f : Fr S h u) {b c n : Nat} (hb : hK h b = c) (hc : c ≠ 0) (hn : hN h b = n) : hN u b = n := by rw [(f b (by omega)).2.1, hn]
theorem Fr_O {S : Nat → Prop} {h u : Hp} (f : Fr S h u) {b c k : Nat} {v : Option Nat} (hb : hK h b = c) (hc : c ≠ 0) (hs : ¬ S b) (hv : hO h b k = v) : hO u b k = v := by rw [((f b (by omega)).2.2 hs).2.2, hv]
theorem Fr_I {S : Nat → Prop} {h u : Hp} (f : Fr S h u) {b c k : Nat} {v : Int32} (hb : hK h b = c) (hc : c ≠ 0) (hs : ¬ S b) (hv : hI h b k = v) : hI u b k = v := by rw [((f b (by omega)).2.2 hs).1, hv]
theorem Fr_G {S : Nat → Prop} {h u : Hp} (f : Fr S h u) {b c k : Nat} {v : Int64} (hb : hK h b = c) (hc : c ≠ 0) (hs : ¬ S b) (hv : hG h b k = v) : hG u b k = v := by rw [((f b (by omega)).2.2 hs).2.1, hv]
/-- the first place, from 1 on, at which f is x; 0 if there is none -/
def pl1 (f : Nat → Int32) (x : Int32) : Nat → Nat
  | 0 => 0
  | n + 1 => if pl1 f x n = 0 then (if f n = x then n + 1 else 0) else pl1 f x n
theorem pl1_none {f : Nat → Int32} {x : Int32} : ∀ {n : Nat}, (∀ j, j < n → f j ≠ x) → pl1 f x n = 0
  | 0, _ => rfl
  | n + 1, h => by rw [pl1, if_pos (pl1_none (fun j hj => h j (by omega))), if_neg (h n (by omega))]
theorem pl1_at {f : Nat → Int32} {x : Int32} {i : Nat} (h : ∀ j, j < i → f j ≠ x) (hi : f i = x) : ∀ {n : Nat}, i < n → pl1 f x n = i + 1
  | 0, hn => by omega
  | n + 1, hn => by
    by_cases q : i < n
    · rw [pl1, if_neg (by rw [pl1_at h hi q]; omega), pl1_at h hi q]
    · have e : n = i := by omega
      subst e
      rw [pl1, if_pos (pl1_none h), if_pos hi]
theorem pl1_le (f : Nat → Int32) (x : Int32) : ∀ n : Nat, pl1 f x n ≤ n
  | 0 => Nat.le_refl 0
  | n + 1 => by
    have := pl1_le f x n
    rw [pl1]; split
    · split <;> omega
    · omega
