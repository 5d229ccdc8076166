/-! ===== the reference: the values of a sheet, its loops ===== -/
def TrM (u : Mu) : Prop := ∀ k, 0 ≤ k → k < 320 → (BtW (mG u 85) k ↔ mI u 84 k ≠ 0)
def D82 (h : Sh) (u : Mu) : Prop := ∀ k j, 0 ≤ k → k < 320 → 0 ≤ j → j < 320 → (BtR (mG u 82) k j ↔ Ld h k j)
/-- what is through has its value -/
def GdV (u : Mu) (s : Int) (F : Int → Sh) (G : Int → Int → Int → Lit) (h : Sh) (g : Int → Lit) : Prop := (∀ k, inS h k → mI u 84 k ≠ 0 → CvM u (320 * s + k) (g k) ∧ g k = vlC F G h (fo g) k ∧ ∀ l ps, ctC h k = some (5, l, ps) → ¬ rch (Ld h) k k → ∀ j, LdP h ps j → mI u 84 j ≠ 0) ∧ ∀ k, 0 ≤ k → k < 320 → mI u 84 k = 0 → isF h k ∧ ¬ rch (Ld h) k k
noncomputable def cn0 (u : Mu) (N : Nat) : Nat := cnQ (fun j => mI u 84 j = 0) N
section Vx4
variable {s n : Int} {F : Int → Sh} {G : Int → Int → Int → Lit} {h : Sh}
theorem vlC_c {k : Int} {f f' : Int → Int → Lit} (Z : WfZ F n h) (hk : inS h k) (hf : ∀ l ps, ctC h k = some (5, l, ps) → ¬ rch (Ld h) k k → ∀ j, LdP h ps j → f (j / 10) (j % 10) = f' (j / 10) (j % 10)) : vlC F G h f k = vlC F G h f' k := by
  unfold vlC
  match e : ctC h k with
  | none => rfl
  | some (kd, l, ps) =>
    simp only
    by_cases c5 : kd = 5
    · rw [if_pos c5, if_pos c5]
      by_cases cc : rch (Ld h) k k
      · rw [ci_1 cc, ci_1 cc]
      · rw [ci_0 cc, ci_0 cc]
        rw [c5] at e
        congr 1
        exact Ev_c Z (fun _ _ _ _ _ _ _ _ _ => rfl) hk e (hf l ps e cc) _
    · rw [if_neg c5, if_neg c5]
theorem vlC_f {k : Int} {f : Int → Int → Lit} {l : Lit} {ps : List Prt} (e : ctC h k = some (5, l, ps)) (nc : ¬ rch (Ld h) k k) : vlC F G h f k = finL (EvA (eS F h) (vS G f) ps (ps.length - 1)) := by
  unfold vlC
  rw [e]
  simp only [if_true]
  rw [ci_0 nc]
theorem vlC_e {k : Int} {f : Int → Int → Lit} {l : Lit} {ps : List Prt} (e : ctC h k = some (5, l, ps)) (nc : rch (Ld h) k k) : vlC F G h f k = erL 6 := by
  unfold vlC
  rw [e]
  simp only [if_true]
  rw [ci_1 nc]
theorem vlC_p {k : Int} {f : Int → Int → Lit} (hk : inS h k) (hn : ¬ isF h k) : vlC F G h f k = plC (ctC h k) := by
  unfold vlC plC
  match e : ctC h k with
  | none => rfl
  | some (kd, l, ps) =>
    simp only
    by_cases c5 : kd = 5
    · exact absurd ⟨hk, l, ps, by rw [e, c5]⟩ hn
    · rw [if_neg c5]
theorem e_step {u : Mu} {N : Nat} (hN : N = 320) {k : Int} {g : Int → Lit} {Q : Mu → Prop} (X : VxM u s n F G h) (T : TrM u) (D : D82 h u) (V : GdV u s F G h g) (k0 : 0 ≤ k) (k1 : k < 320) (h0 : mI u 84 k = 0) (hr : ∀ j, 0 ≤ j → j < 320 → BtR (mG u 82) k j → BtW (mG u 85) j) (p : ∀ v g', FrV s u v → TrM v → D82 h v → GdV v s F G h g' → cn0 v N < cn0 u N → Q v) : F_X12_formulaValue s (mI u 5 (320 * s + k)) (320 * s + k) u (fun u' => F_X12_goesThrough k u' Q) := by
  obtain ⟨⟨hin, l, ps, e⟩, nc⟩ := V.2 k k0 k1 h0
  have hs := X.1
  have hL : ∀ j, LdP h ps j → mI u 84 j ≠ 0 := fun j hj => by
    have hi := LdP_in X.2.2.2.2.1 hj
    have h1 := hi.1
    exact (T j h1.1 h1.2).mp (hr j h1.1 h1.2 ((D k j k0 k1 h1.1 h1.2).mpr ⟨hin, l, ps, e, hj⟩))
  refine e_formula (f := fo g) X hin e (fun j hj => ?_) (fun v f hv => ?_)
  · rw [fo_k]; exact (V.1 j (LdP_in X.2.2.2.2.1 hj) (hL j hj)).1
  refine e_through k0 k1 (fun w f2 h84 h85 => ?_)
  have e84 : ∀ i, mI v 84 i = mI u 84 i := fun i => mE f.1 (R := [(84, none)]) (by decide) (wHas_a (by decide))
  have e85 : mG v 85 = mG u 85 := funext (fun i => gE f.1 (R := [(85, none)]) (by decide) (wHas_a (by decide)))
  have e82 : mG w 82 = mG u 82 := funext (fun i => (gE f2 (R := [(82, none)]) (by decide) (wHas_a (by decide))).trans (gE f.1 (R := [(82, none)]) (by decide) (wHas_a (by decide))))
  have fw : FrW wVa (fun y => y = 320 * s + k) u w := FrW_tr (FrW_mo f (by decide) (fun _ z => z)) (FrW_mo (FrW_of (C := fun y => y = 320 * s + k) f2 (by decide)) (by decide) (fun _ z => z))
  have nk : ∀ j, mI w 84 j ≠ 0 → j ≠ k → mI u 84 j ≠ 0 := fun j hj c => by rw [h84, if_neg c, e84] at hj; exact hj
  have yk : ∀ j, mI u 84 j ≠ 0 → mI w 84 j ≠ 0 := fun j hj => by
    rw [h84]
    by_cases c : j = k
    · rw [if_pos c]; decide
    · rw [if_neg c, e84]; exact hj
  have tk : ∀ j, mI u 84 j ≠ 0 → j ≠ k := fun j hj c => by rw [c] at hj; exact hj h0
  obtain ⟨g', gy, gn⟩ : ∃ g' : Int → Lit, g' k = finL (EvA (eS F h) (vS G (fo g)) ps (ps.length - 1)) ∧ ∀ j, j ≠ k → g' j = g j := ⟨fun j => if j = k then finL (EvA (eS F h) (vS G (fo g)) ps (ps.length - 1)) else g j, if_pos rfl, fun j hj => if_neg hj⟩
  have gk : ∀ (j : Int), mI u 84 j ≠ 0 → fo g (j / 10) (j % 10) = fo g' (j / 10) (j % 10) := fun j hj => by
    rw [fo_k, fo_k, gn j (tk j hj)]
  refine p w g' (FrW_mo fw (fun _ z => z) (fun y z => by omega)) (fun j j0 j1 => ?_) (fun a b a0 a1 b0 b1 => ?_) ⟨fun j hj tj => ?_, fun j j0 j1 hj => ?_⟩ ?_
  · rw [h85 j j0 j1, e85, T j j0 j1]
    constructor
    · rintro (z | z)
      · exact yk j z
      · rw [h84, if_pos z]; decide
    · intro z
      by_cases c : j = k
      · exact Or.inr c
      · exact Or.inl (nk j z c)
  · rw [e82]; exact D a b a0 a1 b0 b1
  · by_cases c : j = k
    · subst c
      rw [gy]
      refine ⟨CvM_w (FrW_of (C := fun _ => False) f2 (by decide)) id hv, ?_, fun l' ps' e' _ j' hj' => ?_⟩
      · rw [← vlC_c X.2.2.2.2 hj (f := fo g) (fun l' ps' e' _ j' hj' => ?_), vlC_f e nc]
        rw [e] at e'
        injection e' with e'
        injection e' with _ e'
        injection e' with _ e'
        rw [← e'] at hj'
        exact gk j' (hL j' hj')
      · rw [e] at e'
        injection e' with e'
        injection e' with _ e'
        injection e' with _ e'
        rw [← e'] at hj'
        exact yk j' (hL j' hj')
    · have tu := nk j tj c
      obtain ⟨a1, a2, a3⟩ := V.1 j hj tu
      rw [gn j c]
      refine ⟨CvM_w fw (fun z => by omega) a1, ?_, fun l' ps' e' nc' j' hj' => yk j' (a3 l' ps' e' nc' j' hj')⟩
      rw [← vlC_c X.2.2.2.2 hj (f := fo g) (fun l' ps' e' nc' j' hj' => gk j' (a3 l' ps' e' nc' j' hj'))]
      exact a2
  · refine V.2 j j0 j1 ?_
    by_cases c : j = k
    · rw [c]; exact h0
    · rw [h84, if_neg c, e84] at hj; exact hj
  · unfold cn0
    refine cnQ_lt (k := k.toNat) ?_ ?_ N (by omega) (fun x _ hx => ?_)
    · rw [Int.toNat_of_nonneg k0, h84, if_pos rfl]; decide
    · rw [Int.toNat_of_nonneg k0]; exact h0
    · have hx : mI w 84 (x : Int) = 0 := hx
      by_cases c : (x : Int) = k
      · rw [c]; exact h0
      · rw [h84, if_neg c, e84] at hx; exact hx
/-- a pass -/
theorem e_v233 {u : Mu} {N : Nat} (hN : N = 320) {g : Int → Lit} {Q : (Int × Mu) ⊕ Mu → Prop} (X : VxM u s n F G h) (T : TrM u) (D : D82 h u) (V : GdV u s F G h g) (p : ∀ x v g', FrV s u v → TrM v → D82 h v → GdV v s F G h g' → ((x = 0 ∧ cn0 v N ≤ cn0 u N ∧ ∀ k, 0 ≤ k → k < 320 → mI v 84 k = 0 → ∃ j, Ld h k j ∧ mI v 84 j = 0) ∨ (x = 1 ∧ cn0 v N < cn0 u N)) → Q (.inl (x, v))) : F_X12_valuesOf_233 s 0 0 u Q := by
  have hs := X.1
  unfold F_X12_valuesOf_233
  refine lp_I (fun q => (0 ≤ q.2.1 ∧ q.2.1 ≤ 320) ∧ FrV s u q.2.2 ∧ TrM q.2.2 ∧ D82 h q.2.2 ∧ (∃ g', GdV q.2.2 s F G h g') ∧ ((q.1 = 0 ∧ cn0 q.2.2 N ≤ cn0 u N ∧ ∀ k, 0 ≤ k → k < q.2.1 → mI q.2.2 84 k = 0 → ∃ j, Ld h k j ∧ mI q.2.2 84 j = 0) ∨ (q.1 = 1 ∧ cn0 q.2.2 N < cn0 u N))) (fun q => (320 - q.2.1).toNat) ?_ (0, 0, u) (And.intro ⟨by show (0 : Int) ≤ 0; omega, by show (0 : Int) ≤ 320; omega⟩ (And.intro FrW_rf (And.intro T (And.intro D (And.intro ⟨g, V⟩ (Or.inl ⟨rfl, Nat.le_refl _, fun k a c => by exfalso; have : k < 0 := c; omega⟩))))))
  rintro G3 ⟨x, y, w⟩ ⟨⟨y0, y1⟩, f, T2, D2, ⟨g2, V2⟩, C⟩ ih
  simp only at y0 y1 f T2 D2 V2 C
  show L_X12_valuesOf_233 s x y w _
  unfold L_X12_valuesOf_233
  by_cases c : 320 ≤ y
  · rw [if_pos c]
    show Q (.inl (x, w))
    refine p x w g2 f T2 D2 V2 ?_
    rcases C with ⟨c1, c2, c3⟩ | C
    · exact Or.inl ⟨c1, c2, fun k k0 k1 => c3 k k0 (by omega)⟩
    · exact Or.inr C
  rw [if_neg c]
  refine ⟨by omega, by omega, ?_⟩
  by_cases h0 : mI w 84 y = 0
  · rw [if_pos h0]
    refine e_ready y0 (by omega) (fun hr => ?_) (fun hr => ?_)
    · rw [if_neg (by decide), w32e (x := 320 * s) (by omega) (by omega), w32e (x := 320 * s + y) (by omega) (by omega)]
      refine ⟨by omega, by omega, ?_⟩
      refine e_step hN (VxM_f f X) T2 D2 V2 y0 (by omega) h0 hr (fun v g' f' T' D' V' c' => ?_)
      unfold F_X12_valuesOf_288
      rw [w32e (x := y + 1) (by omega) (by omega)]
      refine ih (1, y + 1, v) (And.intro ⟨by show 0 ≤ y + 1; omega, by show y + 1 ≤ 320; omega⟩ (And.intro (FrW_tr f f') (And.intro T' (And.intro D' (And.intro ⟨g', V'⟩ (Or.inr ⟨rfl, ?_⟩)))))) (by show (320 - (y + 1)).toNat < (320 - y).toNat; omega)
      show cn0 v N < cn0 u N
      rcases C with C | C
      · have := C.2.1; omega
      · have := C.2; omega
    · rw [if_pos rfl]
      unfold F_X12_valuesOf_288
      rw [w32e (x := y + 1) (by omega) (by omega)]
      refine ih (x, y + 1, w) (And.intro ⟨by show 0 ≤ y + 1; omega, by show y + 1 ≤ 320; omega⟩ (And.intro f (And.intro T2 (And.intro D2 (And.intro ⟨g2, V2⟩ ?_))))) (by show (320 - (y + 1)).toNat < (320 - y).toNat; omega)
      show ((x = 0 ∧ cn0 w N ≤ cn0 u N ∧ ∀ k, 0 ≤ k → k < y + 1 → mI w 84 k = 0 → ∃ j, Ld h k j ∧ mI w 84 j = 0) ∨ (x = 1 ∧ cn0 w N < cn0 u N))
      rcases C with ⟨c1, c2, c3⟩ | C
      · refine Or.inl ⟨c1, c2, fun k k0 k1 hk => ?_⟩
        by_cases ck : k = y
        · obtain ⟨j, ⟨j0, j1⟩, z1, z2⟩ := hr
          rw [ck]
          refine ⟨j, (D2 y j y0 (by omega) j0 j1).mp z1, ?_⟩
          by_cases cz : mI w 84 j = 0
          · exact cz
          · exact absurd ((T2 j j0 j1).mpr cz) z2
        · exact c3 k k0 (by omega) hk
      · exact Or.inr C
  · rw [if_neg h0]
    unfold F_X12_valuesOf_288
    rw [w32e (x := y + 1) (by omega) (by omega)]
    refine ih (x, y + 1, w) (And.intro ⟨by show 0 ≤ y + 1; omega, by show y + 1 ≤ 320; omega⟩ (And.intro f (And.intro T2 (And.intro D2 (And.intro ⟨g2, V2⟩ ?_))))) (by show (320 - (y + 1)).toNat < (320 - y).toNat; omega)
    show ((x = 0 ∧ cn0 w N ≤ cn0 u N ∧ ∀ k, 0 ≤ k → k < y + 1 → mI w 84 k = 0 → ∃ j, Ld h k j ∧ mI w 84 j = 0) ∨ (x = 1 ∧ cn0 w N < cn0 u N))
    rcases C with ⟨c1, c2, c3⟩ | C
    · refine Or.inl ⟨c1, c2, fun k k0 k1 hk => ?_⟩
      by_cases ck : k = y
      · rw [ck] at hk; exact absurd hk h0
      · exact c3 k k0 (by omega) hk
    · exact Or.inr C
theorem stuck_all {u : Mu} {g : Int → Lit} (hb : ShB h) (V : GdV u s F G h g) (hst : ∀ k, 0 ≤ k → k < 320 → mI u 84 k = 0 → ∃ j, Ld h k j ∧ mI u 84 j = 0) (m : Nat) : ∀ (k : Int), 0 ≤ k → k < 320 → msR (Ld h) k < m → mI u 84 k ≠ 0 := by
  induction m with
  | zero => intro k _ _ hm; omega
  | succ m ih =>
    intro k k0 k1 hm hk
    obtain ⟨j, hj, h0⟩ := hst k k0 k1 hk
    have hi := (Ld_in hb hj).2.1
    have := msR_lt hj (V.2 j hi.1 hi.2 h0).2 hi.1 hi.2
    exact ih j hi.1 hi.2 (by omega) h0
theorem e_v225 {u : Mu} {g : Int → Lit} {P : Mu → Prop} (X : VxM u s n F G h) (T : TrM u) (D : D82 h u) (V : GdV u s F G h g) (p : ∀ v f, FrV s u v → Sol F G h f → (∀ k, inS h k → CvM v (320 * s + k) (f (k / 10) (k % 10))) → P v) : F_X12_valuesOf_225 s 1 u P := by
  obtain ⟨N, hN⟩ : ∃ N : Nat, N = 320 := ⟨_, rfl⟩
  unfold F_X12_valuesOf_225
  refine lp_I (fun q => FrV s u q.2 ∧ TrM q.2 ∧ D82 h q.2 ∧ (∃ g', GdV q.2 s F G h g') ∧ (q.1 = 0 → ∀ k, 0 ≤ k → k < 320 → mI q.2 84 k = 0 → ∃ j, Ld h k j ∧ mI q.2 84 j = 0)) (fun q => 2 * cn0 q.2 N + (if q.1 = 0 then 0 else 1)) ?_ (1, u) (And.intro FrW_rf (And.intro T (And.intro D (And.intro ⟨g, V⟩ (fun z => absurd z (by show (1 : Int) ≠ 0; decide))))))
  rintro G3 ⟨x, w⟩ ⟨f, T2, D2, ⟨g2, V2⟩, C⟩ ih
  simp only at f T2 D2 V2 C
  show L_X12_valuesOf_225 s x w _
  unfold L_X12_valuesOf_225
  by_cases c : x = 0
  · rw [if_pos c]
    show P w
    have al := fun m => stuck_all X.2.2.2.2.1 V2 (C c) m
    refine p w (fo g2) f (fun k hk => ?_) (fun k hk => ?_)
    · rw [fo_k]; exact (V2.1 k hk (al (msR (Ld h) k + 1) k hk.1.1 hk.1.2 (by omega))).2.1
    · rw [fo_k]; exact (V2.1 k hk (al (msR (Ld h) k + 1) k hk.1.1 hk.1.2 (by omega))).1
  · rw [if_neg c]
    refine e_v233 hN (VxM_f f X) T2 D2 V2 (fun x' v g' f' T' D' V' C' => ?_)
    refine ih (x', v) (And.intro (FrW_tr f f') (And.intro T' (And.intro D' (And.intro ⟨g', V'⟩ (fun z => ?_))))) ?_
    · rcases C' with C' | C'
      · exact C'.2.2
      · have z : x' = 0 := z
        have := C'.1
        omega
    · show 2 * cn0 v N + (if x' = 0 then 0 else 1) < 2 * cn0 w N + (if x = 0 then 0 else 1)
      rw [if_neg c]
      rcases C' with C' | C'
      · have := C'.2.1
        rw [if_pos C'.1]; omega
      · have := C'.2
        rw [if_neg (by omega)]; omega
end Vx4
