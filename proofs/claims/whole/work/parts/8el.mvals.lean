/-! ===== the reference: the values of a sheet, all of it ===== -/
section Vx5
variable {s n : Int} {F : Int → Sh} {G : Int → Int → Int → Lit} {h : Sh}
noncomputable def gp (h : Sh) (k : Int) : Lit := ci (isF h k) (erL 6) (plC (ctC h k))
theorem e_v165 {u : Mu} {P : Mu → Prop} (X : VxM u s n F G h) (T : TrM u) (D : D82 h u) (B : ∀ k j, 0 ≤ k → k < 320 → 0 ≤ j → j < 320 → (BtR (mG u 83) k j ↔ rch (Ld h) k j)) (N : ∀ k, 0 ≤ k → k < 320 → (mI u 84 k = 0 ↔ isF h k)) (V : ∀ k, inS h k → ¬ isF h k → CvM u (320 * s + k) (plC (ctC h k))) (p : ∀ v f, FrV s u v → Sol F G h f → (∀ k, inS h k → CvM v (320 * s + k) (f (k / 10) (k % 10))) → P v) : F_X12_valuesOf_165 s 0 u P := by
  have hs := X.1
  unfold F_X12_valuesOf_165
  refine lp_I (fun q => (0 ≤ q.1 ∧ q.1 ≤ 320) ∧ FrV s u q.2 ∧ TrM q.2 ∧ (∀ i, mG q.2 82 i = mG u 82 i) ∧ (∀ i, mG q.2 83 i = mG u 83 i) ∧ (∀ k, 0 ≤ k → k < 320 → (mI q.2 84 k = 0 ↔ (isF h k ∧ ¬ (k < q.1 ∧ rch (Ld h) k k)))) ∧ ∀ k, inS h k → mI q.2 84 k ≠ 0 → CvM q.2 (320 * s + k) (gp h k)) (fun q => (320 - q.1).toNat) ?_ (0, u) (And.intro ⟨by show (0 : Int) ≤ 0; omega, by show (0 : Int) ≤ 320; omega⟩ (And.intro FrW_rf (And.intro T (And.intro (fun _ => rfl) (And.intro (fun _ => rfl) (And.intro (fun k k0 k1 => (N k k0 k1).trans ⟨fun z => ⟨z, fun w => by have : k < 0 := w.1; omega⟩, fun z => z.1⟩) (fun k hk z => ?_)))))))
  · rintro G3 ⟨x, w⟩ ⟨⟨x0, x1⟩, f, T2, d82, d83, H, C⟩ ih
    simp only at x0 x1 f T2 d82 d83 H C
    show L_X12_valuesOf_165 s x w _
    unfold L_X12_valuesOf_165
    by_cases c : 320 ≤ x
    · rw [if_pos c]
      show F_X12_valuesOf_225 s 1 w P
      refine e_v225 (g := gp h) (VxM_f f X) T2 (fun a b a0 a1 b0 b1 => by rw [show mG w 82 = mG u 82 from funext d82]; exact D a b a0 a1 b0 b1) ⟨fun k hk z => ⟨C k hk z, ?_⟩, fun k k0 k1 z => ?_⟩ (fun v f' fv => p v f' (FrW_tr f fv))
      · have h1 := hk.1
        by_cases cf : isF h k
        · have cr : rch (Ld h) k k := by
            by_cases cr : rch (Ld h) k k
            · exact cr
            · exact absurd ((H k h1.1 h1.2).mpr ⟨cf, fun w => cr w.2⟩) z
          obtain ⟨-, l, ps, e⟩ := cf
          refine ⟨?_, fun _ _ _ nc => absurd cr nc⟩
          rw [vlC_e e cr]; unfold gp; rw [ci_1 ⟨hk, l, ps, e⟩]
        · refine ⟨?_, fun l ps e => absurd ⟨hk, l, ps, e⟩ cf⟩
          rw [vlC_p hk cf]; unfold gp; rw [ci_0 cf]
      · obtain ⟨q1, q2⟩ := (H k k0 k1).mp z
        exact ⟨q1, fun w => q2 ⟨by omega, w⟩⟩
    rw [if_neg c]
    refine ⟨by omega, by omega, ?_⟩
    have pass : (isF h x → ¬ rch (Ld h) x x) → F_X12_valuesOf_217 s x w (fun o => match o with
        | .inl s' => G3 s'
        | .inr e => F_X12_valuesOf_225 s 1 e P) := fun hc => by
      unfold F_X12_valuesOf_217
      rw [w32e (x := x + 1) (by omega) (by omega)]
      refine ih (x + 1, w) (And.intro ⟨by show 0 ≤ x + 1; omega, by show x + 1 ≤ 320; omega⟩ (And.intro f (And.intro T2 (And.intro d82 (And.intro d83 (And.intro (fun k k0 k1 => (H k k0 k1).trans ?_) C)))))) (by show (320 - (x + 1)).toNat < (320 - x).toNat; omega)
      show (isF h k ∧ ¬ (k < x ∧ rch (Ld h) k k)) ↔ (isF h k ∧ ¬ (k < x + 1 ∧ rch (Ld h) k k))
      constructor
      · rintro ⟨z1, z2⟩
        refine ⟨z1, fun w => ?_⟩
        by_cases ck : k = x
        · rw [ck] at z1 w; exact hc z1 w.2
        · exact z2 ⟨by omega, w.2⟩
      · rintro ⟨z1, z2⟩
        exact ⟨z1, fun w => z2 ⟨by omega, w.2⟩⟩
    by_cases h0 : mI w 84 x = 0
    · rw [if_pos h0]
      refine e_bit x0 (by omega) x0 (by omega) (fun hb => ?_) (fun hb => ?_)
      · rw [if_neg (by decide)]
        have cr : rch (Ld h) x x := (B x x x0 (by omega) x0 (by omega)).mp (by rw [← show mG w 83 = mG u 83 from funext d83]; exact hb)
        have cf : isF h x := ((H x x0 (by omega)).mp h0).1
        refine e_through x0 (by omega) (fun w1 f1 h84 h85 => ?_)
        refine e_error (by omega) (by omega) (fun w2 f2 h2 => ?_)
        rw [w32e (x := 320 * s) (by omega) (by omega), w32e (x := 320 * s + x) (by omega) (by omega)]
        refine e_store (by omega) (by omega) (by omega) (by omega) (by show (0 : Nat) ≤ 24; decide) h2 (fun w3 f3 h3 => ?_)
        unfold F_X12_valuesOf_217
        rw [w32e (x := x + 1) (by omega) (by omega)]
        have fa : FrW wVa (fun y => y = 320 * s + x) w w3 := FrW_tr (FrW_mo (FrW_of (C := fun y => y = 320 * s + x) f1 (by decide)) (by decide) (fun _ z => z)) (FrW_tr (FrW_mo (FrW_of (C := fun y => y = 320 * s + x) f2.1 (by decide)) (by decide) (fun _ z => z)) (FrW_mo f3 (by decide) (fun _ z => z)))
        have e84 : ∀ i, mI w3 84 i = if i = x then 1 else mI w 84 i := fun i => by
          rw [mE f3.1 (R := [(84, none)]) (by decide) (wHas_a (by decide)), mE f2.1 (R := [(84, none)]) (by decide) (wHas_a (by decide))]
          exact h84 i
        have e85 : mG w3 85 = mG w1 85 := funext (fun i => (gE f3.1 (R := [(85, none)]) (by decide) (wHas_a (by decide))).trans (gE f2.1 (R := [(85, none)]) (by decide) (wHas_a (by decide))))
        refine ih (x + 1, w3) (And.intro ⟨by show 0 ≤ x + 1; omega, by show x + 1 ≤ 320; omega⟩ (And.intro (FrW_tr f (FrW_mo fa (fun _ z => z) (fun y z => by omega))) (And.intro (fun j j0 j1 => ?_) (And.intro (fun i => ?_) (And.intro (fun i => ?_) (And.intro (fun k k0 k1 => ?_) (fun k hk z => ?_))))))) (by show (320 - (x + 1)).toNat < (320 - x).toNat; omega)
        · show BtW (mG w3 85) j ↔ mI w3 84 j ≠ 0
          rw [e85, h85 j j0 j1, T2 j j0 j1, e84]
          by_cases cj : j = x
          · rw [if_pos cj]; exact ⟨fun _ => by decide, fun _ => Or.inr cj⟩
          · rw [if_neg cj]; exact ⟨fun z => z.elim id (fun z => absurd z cj), fun z => Or.inl z⟩
        · show mG w3 82 i = _
          rw [gE f3.1 (R := [(82, none)]) (by decide) (wHas_a (by decide)), gE f2.1 (R := [(82, none)]) (by decide) (wHas_a (by decide)), gE f1 (R := [(82, none)]) (by decide) (wHas_a (by decide))]
          exact d82 i
        · show mG w3 83 i = _
          rw [gE f3.1 (R := [(83, none)]) (by decide) (wHas_a (by decide)), gE f2.1 (R := [(83, none)]) (by decide) (wHas_a (by decide)), gE f1 (R := [(83, none)]) (by decide) (wHas_a (by decide))]
          exact d83 i
        · show mI w3 84 k = 0 ↔ (isF h k ∧ ¬ (k < x + 1 ∧ rch (Ld h) k k))
          rw [e84]
          by_cases ck : k = x
          · rw [if_pos ck]
            refine ⟨fun z => absurd z (by decide), fun z => absurd ⟨by omega, ?_⟩ z.2⟩
            rw [ck]; exact cr
          · rw [if_neg ck, H k k0 k1]
            constructor
            · rintro ⟨z1, z2⟩; exact ⟨z1, fun w => z2 ⟨by omega, w.2⟩⟩
            · rintro ⟨z1, z2⟩; exact ⟨z1, fun w => z2 ⟨by omega, w.2⟩⟩
        · show CvM w3 (320 * s + k) (gp h k)
          have z : mI w3 84 k ≠ 0 := z
          by_cases ck : k = x
          · rw [ck]
            refine ⟨?_, ?_⟩
            · unfold gp; rw [ci_1 cf]; exact h3
            · unfold gp; rw [ci_1 cf]; exact VOk_er (by decide) (by decide)
          · rw [e84, if_neg ck] at z
            exact CvM_w fa (fun w => by omega) (C k hk z)
      · rw [if_pos rfl]
        exact pass (fun _ cr => hb (by rw [show mG w 83 = mG u 83 from funext d83]; exact (B x x x0 (by omega) x0 (by omega)).mpr cr))
    · rw [if_neg h0]
      refine pass (fun cf cr => ?_)
      exact h0 ((H x x0 (by omega)).mpr ⟨cf, fun w => by omega⟩)
  · have h1 := hk.1
    have nf : ¬ isF h k := fun w => z ((N k h1.1 h1.2).mpr w)
    show CvM u (320 * s + k) (gp h k)
    unfold gp
    rw [ci_0 nf]
    exact V k hk nf
theorem e_v44 {u : Mu} {P : Mu → Prop} (X : VxM u s n F G h) (z82 : ∀ i, 0 ≤ i → i < 1600 → mG u 82 i = 0) (z85 : ∀ i, 0 ≤ i → i < 5 → mG u 85 i = 0) (p : ∀ v f, FrV s u v → Sol F G h f → (∀ k, inS h k → CvM v (320 * s + k) (f (k / 10) (k % 10))) → P v) : F_X12_valuesOf_44 s 0 u P := by
  have hs := X.1
  unfold F_X12_valuesOf_44
  refine lp_I (fun q => (0 ≤ q.1 ∧ q.1 ≤ 320) ∧ FrV s u q.2 ∧ (∀ k, 0 ≤ k → k < 320 → (BtW (mG q.2 85) k ↔ (k < q.1 ∧ ¬ isF h k))) ∧ (∀ k, 0 ≤ k → k < q.1 → (mI q.2 84 k = 0 ↔ isF h k)) ∧ (∀ k j, 0 ≤ k → k < 320 → 0 ≤ j → j < 320 → (BtR (mG q.2 82) k j ↔ (k < q.1 ∧ Ld h k j))) ∧ ∀ k, inS h k → k < q.1 → ¬ isF h k → CvM q.2 (320 * s + k) (plC (ctC h k))) (fun q => (320 - q.1).toNat) ?_ (0, u) (And.intro ⟨by show (0 : Int) ≤ 0; omega, by show (0 : Int) ≤ 320; omega⟩ (And.intro FrW_rf (And.intro (fun k k0 k1 => ?_) (And.intro (fun k k0 k1 => by exfalso; have : k < 0 := k1; omega) (And.intro (fun k j k0 k1 j0 j1 => ?_) (fun k hk k1 => by exfalso; have : k < 0 := k1; have := hk.1.1; omega))))))
  · rintro G3 ⟨x, w⟩ ⟨⟨x0, x1⟩, f, W, H, D, C⟩ ih
    simp only at x0 x1 f W H D C
    show L_X12_valuesOf_44 s x w _
    by_cases c : 320 ≤ x
    · unfold L_X12_valuesOf_44
      rw [if_pos c]
      show F_X12_close w (fun u_160 => F_X12_valuesOf_165 s 0 u_160 P)
      have D' : D82 h w := fun k j k0 k1 j0 j1 => (D k j k0 k1 j0 j1).trans ⟨fun z => z.2, fun z => ⟨by omega, z⟩⟩
      refine e_close (R := Ld h) (fun k j hr => ?_) D' (fun v fv hv => ?_)
      · have := Ld_in X.2.2.2.2.1 hr
        exact ⟨this.1.1, this.2.1⟩
      · have f2 : FrV s w v := FrW_mo (FrW_of (C := fun x => 320 * s ≤ x ∧ x < 320 * s + 320) fv (by decide)) (by decide) (fun _ z => z)
        have e84 : ∀ i, mI v 84 i = mI w 84 i := fun i => mE fv (R := [(84, none)]) (by decide) (wHas_a (by decide))
        have e85 : mG v 85 = mG w 85 := funext (fun i => gE fv (R := [(85, none)]) (by decide) (wHas_a (by decide)))
        have e82 : mG v 82 = mG w 82 := funext (fun i => gE fv (R := [(82, none)]) (by decide) (wHas_a (by decide)))
        refine e_v165 (VxM_f (FrW_tr f f2) X) (fun k k0 k1 => ?_) (fun k j => by rw [e82]; exact D' k j) hv (fun k k0 k1 => by rw [e84]; exact H k k0 (by omega)) (fun k hk hn => CvM_w (FrW_of (C := fun _ => False) fv (by decide)) id (C k hk (by have := hk.1.2; omega) hn)) (fun v2 f' fv2 => p v2 f' (FrW_tr (FrW_tr f f2) fv2))
        rw [e85, e84, W k k0 k1]
        have := H k k0 (by omega)
        exact ⟨fun z w => z.2 (this.mp w), fun z => ⟨by omega, fun w => z (this.mpr w)⟩⟩
    · refine e_b44 (VxM_f f X) x0 (by omega) (fun l ps hi e v fv e85 e84 hv => ?_) (fun hn v fv e82 e84 hv hc => ?_)
      · refine ih (x + 1, v) (And.intro ⟨by show 0 ≤ x + 1; omega, by show x + 1 ≤ 320; omega⟩ (And.intro (FrW_tr f (FrW_mo fv (fun _ z => z) (fun y z => by omega))) (And.intro (fun k k0 k1 => ?_) (And.intro (fun k k0 k1 => ?_) (And.intro (fun k j k0 k1 j0 j1 => ?_) (fun k hk k1 nf => ?_)))))) (by show (320 - (x + 1)).toNat < (320 - x).toNat; omega)
        · show BtW (mG v 85) k ↔ (k < x + 1 ∧ ¬ isF h k)
          rw [show mG v 85 = mG w 85 from funext e85, W k k0 k1]
          constructor
          · rintro ⟨z1, z2⟩; exact ⟨by omega, z2⟩
          · rintro ⟨z1, z2⟩
            refine ⟨?_, z2⟩
            by_cases ck : k = x
            · rw [ck] at z2; exact absurd ⟨hi, l, ps, e⟩ z2
            · omega
        · show mI v 84 k = 0 ↔ isF h k
          have k1 : k < x + 1 := k1
          rw [e84]
          by_cases ck : k = x
          · rw [if_pos ck, ck]; exact ⟨fun _ => ⟨hi, l, ps, e⟩, fun _ => rfl⟩
          · rw [if_neg ck]; exact H k k0 (by omega)
        · show BtR (mG v 82) k j ↔ (k < x + 1 ∧ Ld h k j)
          rw [hv k j j0 j1, D k j k0 k1 j0 j1]
          constructor
          · rintro (z | ⟨z1, z2⟩)
            · exact ⟨by omega, z.2⟩
            · exact ⟨by omega, by rw [z1]; exact ⟨hi, l, ps, e, z2⟩⟩
          · rintro ⟨z1, z2⟩
            by_cases ck : k = x
            · right
              refine ⟨ck, ?_⟩
              rw [ck] at z2
              obtain ⟨-, l', ps', e', z2⟩ := z2
              rw [e] at e'
              injection e' with e'
              injection e' with _ e'
              injection e' with _ e'
              rw [e']; exact z2
            · exact Or.inl ⟨by omega, z2⟩
        · show CvM v (320 * s + k) (plC (ctC h k))
          have k1 : k < x + 1 := k1
          have ck : k ≠ x := fun z => nf (by rw [z]; exact ⟨hi, l, ps, e⟩)
          exact CvM_w fv (fun z => by omega) (C k hk (by omega) nf)
      · refine ih (x + 1, v) (And.intro ⟨by show 0 ≤ x + 1; omega, by show x + 1 ≤ 320; omega⟩ (And.intro (FrW_tr f (FrW_mo fv (fun _ z => z) (fun y z => by omega))) (And.intro (fun k k0 k1 => ?_) (And.intro (fun k k0 k1 => ?_) (And.intro (fun k j k0 k1 j0 j1 => ?_) (fun k hk k1 nf => ?_)))))) (by show (320 - (x + 1)).toNat < (320 - x).toNat; omega)
        · show BtW (mG v 85) k ↔ (k < x + 1 ∧ ¬ isF h k)
          rw [hv k k0 k1, W k k0 k1]
          constructor
          · rintro (z | z)
            · exact ⟨by omega, z.2⟩
            · exact ⟨by omega, by rw [z]; exact hn⟩
          · rintro ⟨z1, z2⟩
            by_cases ck : k = x
            · exact Or.inr ck
            · exact Or.inl ⟨by omega, z2⟩
        · show mI v 84 k = 0 ↔ isF h k
          have k1 : k < x + 1 := k1
          rw [e84]
          by_cases ck : k = x
          · rw [if_pos ck, ck]; exact ⟨fun z => absurd z (by decide), fun z => absurd z hn⟩
          · rw [if_neg ck]; exact H k k0 (by omega)
        · show BtR (mG v 82) k j ↔ (k < x + 1 ∧ Ld h k j)
          rw [show mG v 82 = mG w 82 from funext e82, D k j k0 k1 j0 j1]
          constructor
          · rintro ⟨z1, z2⟩; exact ⟨by omega, z2⟩
          · rintro ⟨z1, z2⟩
            refine ⟨?_, z2⟩
            by_cases ck : k = x
            · rw [ck] at z2
              obtain ⟨z3, l, ps, e, -⟩ := z2
              exact absurd ⟨z3, l, ps, e⟩ hn
            · omega
        · show CvM v (320 * s + k) (plC (ctC h k))
          have k1 : k < x + 1 := k1
          by_cases ck : k = x
          · rw [ck] at hk ⊢; exact hc hk
          · exact CvM_w fv (fun z => by omega) (C k hk (by omega) nf)
  · show BtW (mG u 85) k ↔ (k < 0 ∧ ¬ isF h k)
    unfold BtW
    rw [z85 _ (by omega) (by omega), bit_0]
    exact ⟨fun z => absurd z (by decide), fun z => by omega⟩
  · show BtR (mG u 82) k j ↔ (k < 0 ∧ Ld h k j)
    unfold BtR
    rw [z82 _ (by omega) (by omega), bit_0]
    exact ⟨fun z => absurd z (by decide), fun z => by omega⟩
theorem e_values {u : Mu} {P : Mu → Prop} (X : VxM u s n F G h) (p : ∀ v f, FrV s u v → Sol F G h f → (∀ k, inS h k → CvM v (320 * s + k) (f (k / 10) (k % 10))) → P v) : F_X12_valuesOf s u P := by
  have up : ∀ {L : WR} {a b : Mu}, FrM L a b → wDis L [(60, none), (61, none), (62, none), (63, none)] = true → (∀ t ∈ L, t ∈ wVa) → FrV s a b := fun f hd hL => FrW_mo (FrW_of (C := fun x => 320 * s ≤ x ∧ x < 320 * s + 320) f hd) hL (fun _ z => z)
  unfold F_X12_valuesOf F_X12_valuesOf_2
  refine lp_I (fun q => (0 ≤ q.1 ∧ q.1 ≤ 1600) ∧ FrM [(82, none)] u q.2 ∧ ∀ i, 0 ≤ i → i < q.1 → mG q.2 82 i = 0) (fun q => (1600 - q.1).toNat) ?_ (0, u) (And.intro ⟨by show (0 : Int) ≤ 0; omega, by show (0 : Int) ≤ 1600; omega⟩ (And.intro FrM_rf (fun i i0 i1 => by exfalso; have : i < 0 := i1; omega)))
  rintro G3 ⟨x, w⟩ ⟨⟨x0, x1⟩, f, H⟩ ih
  simp only at x0 x1 f H
  show L_X12_valuesOf_2 s x w _
  unfold L_X12_valuesOf_2
  by_cases c : 1600 ≤ x
  · rw [if_pos c]
    show F_X12_valuesOf_24 s 0 w P
    unfold F_X12_valuesOf_24
    refine lp_I (fun q => (0 ≤ q.1 ∧ q.1 ≤ 5) ∧ FrM [(85, none)] w q.2 ∧ ∀ i, 0 ≤ i → i < q.1 → mG q.2 85 i = 0) (fun q => (5 - q.1).toNat) ?_ (0, w) (And.intro ⟨by show (0 : Int) ≤ 0; omega, by show (0 : Int) ≤ 5; omega⟩ (And.intro FrM_rf (fun i i0 i1 => by exfalso; have : i < 0 := i1; omega)))
    rintro G4 ⟨y, w2⟩ ⟨⟨y0, y1⟩, f2, H2⟩ ih2
    simp only at y0 y1 f2 H2
    show L_X12_valuesOf_24 s y w2 _
    unfold L_X12_valuesOf_24
    by_cases c2 : 5 ≤ y
    · rw [if_pos c2]
      show F_X12_valuesOf_44 s 0 w2 P
      have ff : FrV s u w2 := FrW_tr (up f (by decide) (by decide)) (up f2 (by decide) (by decide))
      refine e_v44 (VxM_f ff X) (fun i i0 i1 => ?_) (fun i i0 i1 => H2 i i0 (by omega)) (fun v g fv => p v g (FrW_tr ff fv))
      rw [gE f2 (R := [(82, none)]) (by decide) (wHas_a (by decide))]
      exact H i i0 (by omega)
    · rw [if_neg c2, w32e (x := y + 1) (by omega) (by omega)]
      refine ⟨by omega, by omega, fun v hv => ?_⟩
      refine ih2 (y + 1, v) (And.intro ⟨by show 0 ≤ y + 1; omega, by show y + 1 ≤ 5; omega⟩ (And.intro (by subst hv; exact FrM_uG f2 (wHas_a (by decide))) (fun i i0 i1 => ?_))) (by show (5 - (y + 1)).toNat < (5 - y).toNat; omega)
      show mG v 85 i = 0
      have i1 : i < y + 1 := i1
      subst hv
      rw [mG_uG]
      by_cases ci : i = y
      · rw [if_pos ⟨rfl, ci⟩]
      · rw [if_neg (fun z => ci z.2)]; exact H2 i i0 (by omega)
  · rw [if_neg c, w32e (x := x + 1) (by omega) (by omega)]
    refine ⟨by omega, by omega, fun v hv => ?_⟩
    refine ih (x + 1, v) (And.intro ⟨by show 0 ≤ x + 1; omega, by show x + 1 ≤ 1600; omega⟩ (And.intro (by subst hv; exact FrM_uG f (wHas_a (by decide))) (fun i i0 i1 => ?_))) (by show (1600 - (x + 1)).toNat < (1600 - x).toNat; omega)
    show mG v 82 i = 0
    have i1 : i < x + 1 := i1
    subst hv
    rw [mG_uG]
    by_cases ci : i = x
    · rw [if_pos ⟨rfl, ci⟩]
    · rw [if_neg (fun z => ci z.2)]; exact H i i0 (by omega)
end Vx5
