/-! ===== the system's state under any writes that leave it ===== -/
def rcR : WR := crw ++ rgT ++ rgL ++ rgB ++ rgK ++ rgQ
def WOk (z : Z) (b : Nat → Nat) (I : Nat → Prop) (W : Nat → Int → Prop) : Prop := (∀ k i, k < 35 → wHas rcR k i → ¬ W (b k) i) ∧ (∀ a i, I a → ¬ W a i) ∧ (∀ a i, zK z a = 7 → W a i → i = 3) ∧ ∀ a i, zK z a = 1 → ¬ W a i
section RcW
variable {z y : Z} {b : Nat → Nat} {I : Nat → Prop} {W : Nat → Int → Prop}
theorem bW (c : CWz z b) (o : WOk z b I W) (f : FrZ W z y) {k : Nat} (hk : k < 35) {i : Int} (hr : wHas rcR k i) : zI y (b k) i = zI z (b k) i ∧ zG y (b k) i = zG z (b k) i ∧ zO y (b k) i = zO z (b k) i := f.2 (b k) i (kbz c hk) (o.1 k i hk hr)
theorem crz_R : ∀ t ∈ crz, (t.1, some t.2.1) ∈ rcR := by decide
theorem CWz_W (c : CWz z b) (o : WOk z b I W) (f : FrZ W z y) : CWz y b := by
  refine ⟨fun k hk => by rw [(f.1 (b k) (kbz c hk)).1, (f.1 (b k) (kbz c hk)).2]; exact c.1 k hk, c.2.1, fun t ht => ?_⟩
  rw [(bW c o f (crz_b t ht) (wHas_i (crz_R t ht))).2.2]
  exact c.2.2 t ht
theorem RC_W {S : SS} (o : WOk z b I W) (f : FrZ W z y) (h : RC z b I S) : RC y b I S := by
  obtain ⟨c, r, ht, hl, hb, hk, hq⟩ := h
  refine ⟨CWz_W c o f, Frz_fr r f, ?_, ?_, ?_, ?_, ?_⟩
  · obtain ⟨⟨h1, h2⟩, h3, h4, h5⟩ := ht
    refine ⟨⟨(bW c o f (k := 1) (by decide) (i := 3) (wHas_i (by decide))).1.trans h1, h2⟩, fun i i0 i1 => ?_, (bW c o f (k := 1) (by decide) (i := 4) (wHas_i (by decide))).1.trans h4, (bW c o f (k := 1) (by decide) (i := 5) (wHas_i (by decide))).1.trans h5⟩
    rw [(bW c o f (k := 11) (by decide) (i := i) (wHas_a (by decide))).1]; exact h3 i i0 i1
  · obtain ⟨⟨h1, h2⟩, h3⟩ := hl
    refine ⟨⟨(bW c o f (k := 3) (by decide) (i := 4) (wHas_i (by decide))).1.trans h1, h2⟩, fun k k0 k1 => ?_⟩
    obtain ⟨⟨g1, g2, g3, g4⟩, g5⟩ := h3 k k0 k1
    rw [(bW c o f (k := 18) (by decide) (i := k) (wHas_a (by decide))).2.2, (bW c o f (k := 19) (by decide) (i := k) (wHas_a (by decide))).1, (bW c o f (k := 20) (by decide) (i := k) (wHas_a (by decide))).1, (bW c o f (k := 21) (by decide) (i := k) (wHas_a (by decide))).2.1]
    exact ⟨⟨ShO_fr f o.2.1 o.2.2.1 g1, g2, g3, g4⟩, g5⟩
  · obtain ⟨h1, h2, h3, h4, h5, h6, h7⟩ := hb
    unfold RCb
    rw [(bW c o f (k := 0) (by decide) (i := 12) (wHas_i (by decide))).1, (bW c o f (k := 0) (by decide) (i := 13) (wHas_i (by decide))).1, (bW c o f (k := 0) (by decide) (i := 14) (wHas_i (by decide))).1, (bW c o f (k := 0) (by decide) (i := 15) (wHas_i (by decide))).1, (bW c o f (k := 0) (by decide) (i := 16) (wHas_i (by decide))).1, (bW c o f (k := 0) (by decide) (i := 17) (wHas_i (by decide))).1]
    refine ⟨fun k k0 k1 => ?_, h2, h3, h4, h5, h6, h7⟩
    rw [(bW c o f (k := 9) (by decide) (i := k) (wHas_a (by decide))).1]; exact h1 k k0 k1
  · obtain ⟨h1, h2, h3, h4⟩ := hk
    unfold RCk
    rw [(bW c o f (k := 0) (by decide) (i := 11) (wHas_i (by decide))).2.2, (bW c o f (k := 6) (by decide) (i := 2) (wHas_i (by decide))).1, (bW c o f (k := 6) (by decide) (i := 3) (wHas_i (by decide))).1]
    refine ⟨ShO_fr f o.2.1 o.2.2.1 h1, h2, fun k k0 k1 => ?_, fun k k0 k1 => ?_⟩
    · rw [(bW c o f (k := 32) (by decide) (i := k) (wHas_a (by decide))).2.2]; exact ShO_fr f o.2.1 o.2.2.1 (h3 k k0 k1)
    · rw [(bW c o f (k := 33) (by decide) (i := k) (wHas_a (by decide))).2.2]; exact ShO_fr f o.2.1 o.2.2.1 (h4 k k0 k1)
  · obtain ⟨⟨h1, h2, h3⟩, h4, h5⟩ := hq
    have e30 := fun k => (bW c o f (k := 30) (by decide) (i := k) (wHas_a (by decide))).2.2
    unfold RCq
    rw [(bW c o f (k := 5) (by decide) (i := 2) (wHas_i (by decide))).1, (bW c o f (k := 0) (by decide) (i := 10) (wHas_i (by decide))).1]
    refine ⟨⟨h1, fun k k0 k1 => ?_, fun j k => ?_⟩, h4, fun k k0 k1 => ?_⟩
    · rw [e30]
      obtain ⟨a, g0, g1, g2, g3, g4, g5, g6, g7, g8, g9⟩ := h2 k k0 k1
      have ka : zK z a ≠ 0 := by rw [g1]; decide
      have e := fun i => f.2 a i ka (o.2.2.2 a i g1)
      refine ⟨a, g0, (f.1 a ka).1.trans g1, (e 0).1.trans g2, (e 1).1.trans g3, (e 2).1.trans g4, (e 3).1.trans g5, ?_, ?_, (e 6).1.trans g8, g9⟩
      · rw [(e 4).2.2]; exact ContC_fr f o.2.1 g6
      · rw [(e 5).2.2]; exact ContC_fr f o.2.1 g7
    · rw [e30, e30]; exact h3 j k
    · rw [(bW c o f (k := 10) (by decide) (i := 3 * k) (wHas_a (by decide))).1, (bW c o f (k := 10) (by decide) (i := 3 * k + 1) (wHas_a (by decide))).1, (bW c o f (k := 10) (by decide) (i := 3 * k + 2) (wHas_a (by decide))).1]; exact h5 k k0 k1
end RcW
/-! ===== which versions a sheet looks at ===== -/
def lkS (h : Sh) (v : Int) : Prop := ∃ k, inS h k ∧ ∃ l ps, ctC h k = some (5, l, ps) ∧ ∃ j : Nat, j < ps.length ∧ (ps.getD j pd0).2.2.2.2.2 = v ∧ 0 ≤ v
/-- the parts of a content -/
def prC (c : Cont) : List Prt := match c with
  | none => []
  | some (_, _, ps) => ps
theorem LvA_W {z y : Z} {b : Nat → Nat} {I : Nat → Prop} {W : Nat → Int → Prop} {a : Nat} (c : CWz z b) (o : WOk z b I W) (f : FrZ W z y) (h : LvA y b a) : LvA z b a := by
  have e0 : zO y (b 0) 11 = zO z (b 0) 11 := (bW c o f (k := 0) (by decide) (i := 11) (wHas_i (by decide))).2.2
  have e2 : zI y (b 6) 2 = zI z (b 6) 2 := (bW c o f (k := 6) (by decide) (i := 2) (wHas_i (by decide))).1
  have e3 : zI y (b 6) 3 = zI z (b 6) 3 := (bW c o f (k := 6) (by decide) (i := 3) (wHas_i (by decide))).1
  have e32 : ∀ k, zO y (b 32) k = zO z (b 32) k := fun k => (bW c o f (k := 32) (by decide) (i := k) (wHas_a (by decide))).2.2
  have e33 : ∀ k, zO y (b 33) k = zO z (b 33) k := fun k => (bW c o f (k := 33) (by decide) (i := k) (wHas_a (by decide))).2.2
  unfold LvA at h ⊢
  rw [e0, e2, e3] at h
  rcases h with h | ⟨k, k0, k1, h⟩ | ⟨k, k0, k1, h⟩
  · exact Or.inl h
  · exact Or.inr (Or.inl ⟨k, k0, k1, by rw [← e32 k]; exact h⟩)
  · exact Or.inr (Or.inr ⟨k, k0, k1, by rw [← e33 k]; exact h⟩)
theorem LvA_7 {z : Z} {b : Nat → Nat} {I : Nat → Prop} {S : SS} {a : Nat} (R : RC z b I S) (h : LvA z b a) : zK z a = 7 := by
  have hk := R.2.2.2.2.2.1
  have go : ∀ r s, ShO z I r s → r = some a → zK z a = 7 := fun r s ⟨a', q1, q2⟩ e => by
    rw [e] at q1
    injection q1 with q1
    rw [q1]; exact ShC_7 q2
  rcases h with h | ⟨k, k0, k1, h⟩ | ⟨k, k0, k1, h⟩
  · exact go _ _ hk.1 h
  · exact go _ _ (hk.2.2.1 k k0 (by rw [← hk.2.1.1]; exact k1)) h
  · exact go _ _ (hk.2.2.2 k k0 (by rw [← hk.2.1.2.1]; exact k1)) h
