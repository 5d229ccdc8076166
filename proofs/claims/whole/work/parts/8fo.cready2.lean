/-! ===== the system: the versions that are needed are worked out ===== -/
section Rf
variable {z : Z} {b sv sb : Nat → Nat} {I : Nat → Prop} {S : SS}
/-- how many from i on are to be worked out -/
noncomputable def wkN (z : Z) (b : Nat → Nat) (X : Int) (N : Nat) (i : Int) : Nat := cnQ (fun v => i ≤ v ∧ bitL X v.toNat = true ∧ UnV z b v ∧ v < N) N
theorem k_r91 {X m : Int} {N : Nat} {x1 : Int} {x2 : Option Nat} {c0 s0 ce se : Nat} {P : Z → Prop} (hN : (N : Int) = S.2.1.1) (R : RC z b I S) (C : Cac z b I sv sb S) (A : ShA S) (m1 : m ≤ S.2.1.1) (H2 : ∀ v : Nat, v < 64 → bitL X v = true → (v : Int) < m) (H3 : ∀ v : Nat, v < 64 → bitL X v = true → UnV z b v → ∀ w : Nat, w < 64 → lkS (S.2.1.2.1 v) w → bitL X w = true) (hc : 641 * wkN z b X N 0 + ce ≤ c0) (hs : 9280 * wkN z b X N 0 + se ≤ s0) (p : ∀ y I' c s, (∀ x, I x → I' x) → RC y b I' S → Cac y b I' sv sb S → (∀ i, zO y (b 18) i = zO z (b 18) i) → zO y (b 0) 11 = zO z (b 0) 11 → (∀ v, 0 ≤ v → v < S.2.1.1 → bitL X v.toNat = true → ¬ UnV y b v) → (∀ v, 0 ≤ v → v < S.2.1.1 → ¬ bitL X v.toNat = true → (UnV y b v ↔ UnV z b v)) → (∀ x, zK z x = 7 → (∀ v, 0 ≤ v → v < m → zO z (b 18) v ≠ some x) → zO y x 3 = zO z x 3) → (∀ x, zK z x = 7 → zK y x = 7) → ce ≤ c → se ≤ s → (zK y (b 0) = 12 ∧ (if x1 = (-1) then F_X11_ready_187 (zO y (b 0) 3) x2 (zO y (b 0) 7) y c s P else (∃ a_180, x2 = some a_180 ∧ zK y a_180 = 7 ∧ (∃ a_183, zO y a_180 2 = some a_183 ∧ zK y a_183 = 19 ∧ (0 ≤ zN y a_183 ∧ zN y a_183 < (33554432 : Int) ∧ 1 ≤ c ∧ Int.toNat (zN y a_183) ≤ s ∧ ∀ a_184, zK y a_184 = 0 → (∀ z_184, z_184 = nZ y a_184 22 (zN y a_183) → F_X11_ready_187 (zO y (b 0) 3) x2 (some a_184) z_184 (c - 1) (s - Int.toNat (zN y a_183)) P))))))) : F_X11_ready_91 (b 0) x1 x2 X 0 z c0 s0 P := by
  have hB := RC_Bd R
  have n40 := hB.2.1.1
  unfold F_X11_ready_91
  refine lp_I (fun q => ∃ (i : Int) (y : Z) (c s : Nat) (I' : Nat → Prop), q = (i, y, c, s) ∧ (0 ≤ i ∧ i ≤ S.2.1.1) ∧ (∀ x, I x → I' x) ∧ RC y b I' S ∧ Cac y b I' sv sb S ∧ (∀ i, zO y (b 18) i = zO z (b 18) i) ∧ zO y (b 0) 11 = zO z (b 0) 11 ∧ (∀ v, 0 ≤ v → v < i → bitL X v.toNat = true → ¬ UnV y b v) ∧ (∀ v, i ≤ v → v < S.2.1.1 → (UnV y b v ↔ UnV z b v)) ∧ (∀ v, 0 ≤ v → v < S.2.1.1 → ¬ bitL X v.toNat = true → (UnV y b v ↔ UnV z b v)) ∧ (∀ x, zK z x = 7 → (∀ v, 0 ≤ v → v < m → zO z (b 18) v ≠ some x) → zO y x 3 = zO z x 3) ∧ (∀ x, zK z x = 7 → zK y x = 7) ∧ 641 * wkN z b X N i + ce ≤ c ∧ 9280 * wkN z b X N i + se ≤ s) (fun q => (S.2.1.1 - q.1).toNat) ?_ (0, z, c0, s0) ⟨0, z, c0, s0, I, rfl, ⟨by omega, by omega⟩, fun _ h => h, R, C, fun _ => rfl, rfl, fun v v0 v1 => by omega, fun v _ _ => Iff.rfl, fun v _ _ _ => Iff.rfl, fun _ _ _ => rfl, fun _ h => h, hc, hs⟩
  rintro G _ ⟨i, y, c, s, I', rfl, ⟨i0, i1⟩, hI, Ry, Cy, y18, y11, D1, D2, D5, D3, D4, hcy, hsy⟩ ih
  obtain ⟨cy, ry, -, hl, -, hk, -⟩ := id Ry
  have e4 : zI y (b 3) 4 = S.2.1.1 := hl.1.1
  show L_X11_ready_91 (b 0) x1 x2 X i y c s _
  unfold L_X11_ready_91
  refine ⟨cK cy 0 rfl rfl, b 3, cO cy 0 2 3 (by decide), cK cy 3 rfl rfl, ?_⟩
  rw [e4]
  by_cases ci : S.2.1.1 ≤ i
  · rw [if_pos ci]
    refine p y I' c s hI Ry Cy y18 y11 (fun v v0 v1 => D1 v v0 (by omega)) D5 D3 D4 ?_ ?_
    · omega
    · omega
  rw [if_neg ci]
  refine o_at cy hl ?_
  rw [show (if 0 ≤ i ∧ i < S.2.1.1 then zO y (b 18) i else none) = zO y (b 18) i from if_pos ⟨i0, by omega⟩]
  obtain ⟨⟨⟨a, ea, sa⟩, -⟩, -⟩ := hl.2 i i0 (by omega)
  have k7 := ShC_7 sa
  have un : UnV y b i ↔ zO y a 3 = none := ⟨fun w => w a ea, fun w a' e' => by rw [ea] at e'; injection e' with e'; rw [← e']; exact w⟩
  rw [ea, if_neg (by simp)]
  refine ⟨a, rfl, k7, ?_⟩
  have skip : (bitL X i.toNat = true → ¬ UnV y b i) → F_X11_ready_156 (b 0) x1 x2 X i y c s (fun o => match o with
      | .inl s' => G s'
      | .inr e => match e with | (z, c, s) => (zK z (b 0) = 12 ∧ (if x1 = (-1) then F_X11_ready_187 (zO z (b 0) 3) x2 (zO z (b 0) 7) z c s P else (∃ a_180, x2 = some a_180 ∧ zK z a_180 = 7 ∧ (∃ a_183, zO z a_180 2 = some a_183 ∧ zK z a_183 = 19 ∧ (0 ≤ zN z a_183 ∧ zN z a_183 < (33554432 : Int) ∧ 1 ≤ c ∧ Int.toNat (zN z a_183) ≤ s ∧ ∀ a_184, zK z a_184 = 0 → (∀ z_184, z_184 = nZ z a_184 22 (zN z a_183) → F_X11_ready_187 (zO z (b 0) 3) x2 (some a_184) z_184 (c - 1) (s - Int.toNat (zN z a_183)) P))))))) := fun hn => by
    have ew : wkN z b X N i = wkN z b X N (i + 1) := cnQ_e N (fun v hv => by
      constructor
      · rintro ⟨w1, w2, w3, w4⟩
        refine ⟨?_, w2, w3, w4⟩
        by_cases cv : (v : Int) = i
        · rw [cv] at w2 w3; exact absurd ((D2 i (Int.le_refl _) (by omega)).mpr w3) (hn w2)
        · omega
      · rintro ⟨w1, w2⟩; exact ⟨by omega, w2⟩)
    unfold F_X11_ready_156
    rw [w32e (x := i + 1) (by omega) (by omega)]
    rw [ew] at hcy hsy
    refine ih (i + 1, y, c, s) ⟨i + 1, y, c, s, I', rfl, ⟨by omega, by omega⟩, hI, Ry, Cy, y18, y11, fun v v0 v1 w => ?_, fun v v0 v1 => D2 v (by omega) v1, D5, D3, D4, hcy, hsy⟩ (by show (_ - (i + 1)).toNat < (_ - i).toNat; omega)
    by_cases cv : v = i
    · rw [cv] at w ⊢; exact hn w
    · exact D1 v v0 (by omega) w
  by_cases cu : zO y a 3 = none
  · rw [if_pos cu, tst_k i0 (by omega)]
    by_cases cb : bitL X i.toNat = true
    · rw [if_pos cb, if_neg (by decide)]
      have ui : UnV y b i := un.mpr cu
      have uz : UnV z b i := (D2 i (Int.le_refl _) (by omega)).mp ui
      have im : i < m := by have := H2 i.toNat (by omega) cb; omega
      have ew : wkN z b X N i = wkN z b X N (i + 1) + 1 := cnQ_1 (k := i.toNat) N (by omega) ⟨by omega, by rw [show ((i.toNat : Nat) : Int).toNat = i.toNat by omega]; exact cb, by rw [Int.toNat_of_nonneg i0]; exact uz, by omega⟩ (fun v hv => by
        constructor
        · rintro ⟨w1, w2⟩; exact ⟨⟨by omega, w2⟩, by omega⟩
        · rintro ⟨⟨w1, w2⟩, w3⟩; exact ⟨by omega, w2⟩)
      rw [ew] at hcy hsy
      have Wi := A.1 i i0 (by omega)
      have cb2 := cnt_b Wi.1
      obtain ⟨ra, ca, xa, Sp, -⟩ := id sa
      obtain ⟨p1, p2, p3, p4, p5, p6, p7, p8, p9, p10, p11, p12⟩ := Sp
      refine ⟨xa, p4, p7, ?_⟩
      rw [p10]
      refine ⟨by omega, by omega, by omega, by omega, fun va hva z1 e1 => ?_⟩
      have f0 : FrZ nW y z1 := by rw [e1]; exact FrZ_nZ FrZ_rf hva
      refine ⟨b 4, cO cy 0 3 4 (by decide), (f0.1 (b 4) (kbz cy (by decide))).1.trans (cK cy 4 rfl rfl), 640, 8960, by omega, by omega, ?_⟩
      rw [e1]
      refine k9_ver Ry Cy i0 (by omega) ea (ShW_Z Wi (fun w w0 w1 => (A.1 w w0 (by omega)).1)) (ShW_p Wi) (fun w lw aw eaw => ?_) hva (by omega) (by omega) (fun y' I'' hI' Ry' Cy' q18 q11 qa q3 q7 => ?_)
      · have w0 : 0 ≤ w := by obtain ⟨_, _, _, _, _, _, _, _, q⟩ := lw; exact q
        have wl := lk_lt Wi lw
        have xw := H3 i.toNat (by omega) cb (by rw [Int.toNat_of_nonneg i0]; exact uz) w.toNat (by omega) (by rw [Int.toNat_of_nonneg i0, Int.toNat_of_nonneg w0]; exact lw)
        have := D1 w w0 wl xw
        intro hn
        exact this (fun a' e' => by rw [eaw] at e'; injection e' with e'; rw [← e']; exact hn)
      · unfold F_X11_ready_156
        rw [w32e (x := i + 1) (by omega) (by omega)]
        have ot : ∀ v, 0 ≤ v → v < S.2.1.1 → v ≠ i → (UnV y' b v ↔ UnV y b v) := fun v v0 v1 hne => by
          obtain ⟨⟨⟨av, eav, sav⟩, -⟩, -⟩ := hl.2 v v0 v1
          have na : av ≠ a := fun e' => hne (Cy.2.2.2.2.1.1 v i v0 v1 i0 (by omega) (by rw [eav, ea, e']))
          have k7v := ShC_7 sav
          unfold UnV
          constructor
          · intro w a' e'
            rw [eav] at e'
            injection e' with e'
            rw [← e', ← q3 av k7v na]
            exact w av (by rw [q18]; exact eav)
          · intro w a' e'
            rw [q18, eav] at e'
            injection e' with e'
            rw [← e', q3 av k7v na]
            exact w av eav
        refine ih (i + 1, y', _, _) ⟨i + 1, y', _, _, I'', rfl, ⟨by omega, by omega⟩, fun x hx => hI' x (hI x hx), Ry', Cy', fun j => (q18 j).trans (y18 j), q11.trans y11, fun v v0 v1 w => ?_, fun v v0 v1 => (ot v (by omega) v1 (by omega)).trans (D2 v (by omega) v1), fun v v0 v1 nx => (ot v v0 v1 (fun e' => nx (by rw [e']; exact cb))).trans (D5 v v0 v1 nx), fun x hx hv => ?_, fun x hx => q7 x (D4 x hx), by omega, by omega⟩ (by show (_ - (i + 1)).toNat < (_ - i).toNat; omega)
        · by_cases cv : v = i
          · rw [cv]
            exact fun w' => qa (w' a (by rw [q18]; exact ea))
          · exact fun w' => D1 v v0 (by omega) w ((ot v v0 (by omega) cv).mp w')
        · have na : x ≠ a := fun e' => hv i i0 im (by rw [← y18, ea, e'])
          exact (q3 x (D4 x hx) na).trans (D3 x hx hv)
    · rw [if_neg cb, if_pos rfl]
      exact skip (fun w => absurd w cb)
  · rw [if_neg cu]
    exact skip (fun _ u => cu (un.mp u))
end Rf
