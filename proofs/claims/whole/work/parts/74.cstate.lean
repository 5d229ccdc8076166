/-! ===== sets of writes, by lists ===== -/
/-- key, place (none: all places) -/
abbrev WR : Type := List (Nat × Option Int)
def wHas (L : WR) (k : Nat) (i : Int) : Prop := ∃ t ∈ L, t.1 = k ∧ (t.2 = none ∨ t.2 = some i)
/-- no row of L meets a row of R -/
def wDis (L R : WR) : Bool := L.all (fun t => R.all (fun r => !(t.1 == r.1) || (match t.2, r.2 with
  | some i, some j => !(i == j)
  | _, _ => false)))
theorem wDis_e {L R : WR} (h : wDis L R = true) {k : Nat} {i : Int} (hl : wHas L k i) (hr : wHas R k i) : False := by
  obtain ⟨t, ht, e1, e2⟩ := hl
  obtain ⟨r, hr, e3, e4⟩ := hr
  have q := List.all_eq_true.mp (List.all_eq_true.mp h t ht) r hr
  have ek : (t.1 == r.1) = true := by rw [e1, e3]; exact beq_self_eq_true k
  rw [ek] at q
  revert q
  rcases e2 with e2 | e2 <;> rcases e4 with e4 | e4 <;> rw [e2, e4] <;> simp
theorem wHas_a {L : WR} {k : Nat} {i : Int} (h : (k, (none : Option Int)) ∈ L) : wHas L k i := ⟨_, h, rfl, Or.inl rfl⟩
theorem wHas_i {L : WR} {k : Nat} {i : Int} (h : (k, some i) ∈ L) : wHas L k i := ⟨_, h, rfl, Or.inr rfl⟩
/-- the system's writes: rows of L at the cells from its making, the values of the Sheets T, settled of the Conflicts C -/
def WL (z : Z) (b : Nat → Nat) (L : WR) (T C : Nat → Prop) (a : Nat) (i : Int) : Prop := (∃ t ∈ L, t.1 < 35 ∧ a = b t.1 ∧ (t.2 = none ∨ t.2 = some i)) ∨ (T a ∧ zK z a = 7 ∧ i = 3) ∨ (C a ∧ zK z a = 1 ∧ i = 6)
def no1 : Nat → Prop := fun _ => False
def all1 : Nat → Prop := fun _ => True
theorem WL_a {z : Z} {b : Nat → Nat} {L : WR} {T C : Nat → Prop} {k : Nat} {i : Int} (h : (k, (none : Option Int)) ∈ L) (hk : k < 35) : WL z b L T C (b k) i := Or.inl ⟨_, h, hk, rfl, Or.inl rfl⟩
theorem WL_i {z : Z} {b : Nat → Nat} {L : WR} {T C : Nat → Prop} {k : Nat} {i : Int} (h : (k, some i) ∈ L) (hk : k < 35) : WL z b L T C (b k) i := Or.inl ⟨_, h, hk, rfl, Or.inr rfl⟩
theorem ckz_k : ∀ k, k < 35 → (ckz.getD k (0, 0)).1 ≠ 7 ∧ (ckz.getD k (0, 0)).1 ≠ 1 ∧ (ckz.getD k (0, 0)).1 ≠ 0 := by decide
theorem WL_n {z : Z} {b : Nat → Nat} {L : WR} {T C : Nat → Prop} (c : CWz z b) {R : WR} (hd : wDis L R = true) {k : Nat} (hk : k < 35) {i : Int} (hr : wHas R k i) : ¬ WL z b L T C (b k) i := by
  rintro (⟨t, h1, h2, h3, h4⟩ | ⟨-, h2, -⟩ | ⟨-, h2, -⟩)
  · have e := c.2.1 k t.1 hk h2 h3
    exact wDis_e hd (k := k) (i := i) ⟨t, h1, e.symm, h4⟩ hr
  · exact (ckz_k k hk).1 (by rw [← (c.1 k hk).1]; exact h2)
  · exact (ckz_k k hk).2.1 (by rw [← (c.1 k hk).1]; exact h2)
theorem WL_I {z : Z} {b : Nat → Nat} {L : WR} {T C : Nat → Prop} {I : Nat → Prop} (f : Frz z b I) : ∀ a i, I a → ¬ WL z b L T C a i := by
  rintro a i ha (⟨t, h1, h2, h3, h4⟩ | ⟨-, h2, -⟩ | ⟨-, h2, -⟩)
  · exact (f a ha).2.2.2 t.1 h2 h3
  · exact (f a ha).2.1 h2
  · exact (f a ha).2.2.1 h2
theorem WL_7 {z : Z} {b : Nat → Nat} {L : WR} {T C : Nat → Prop} (c : CWz z b) : ∀ a i, zK z a = 7 → WL z b L T C a i → i = 3 := by
  rintro a i ha (⟨t, h1, h2, h3, h4⟩ | ⟨-, h2, h3⟩ | ⟨-, h2, -⟩)
  · exact absurd (by rw [← (c.1 t.1 h2).1, ← h3]; exact ha) (ckz_k t.1 h2).1
  · exact h3
  · rw [ha] at h2; cases h2
theorem WL_1 {z : Z} {b : Nat → Nat} {L : WR} {T C : Nat → Prop} (c : CWz z b) : ∀ a i, zK z a = 1 → WL z b L T C a i → i = 6 ∧ C a := by
  rintro a i ha (⟨t, h1, h2, h3, h4⟩ | ⟨-, h2, h3⟩ | ⟨h1, h2, h3⟩)
  · exact absurd (by rw [← (c.1 t.1 h2).1, ← h3]; exact ha) (ckz_k t.1 h2).2.1
  · rw [ha] at h2; cases h2
  · exact ⟨h3, h1⟩
section FrC
variable {z y : Z} {b : Nat → Nat} {L : WR} {T C : Nat → Prop} {I : Nat → Prop}
theorem bK (c : CWz z b) (f : FrZ (WL z b L T C) z y) {k : Nat} (hk : k < 35) : zK y (b k) = zK z (b k) ∧ zN y (b k) = zN z (b k) := f.1 (b k) (by rw [(c.1 k hk).1]; exact (ckz_k k hk).2.2)
theorem bI (c : CWz z b) (f : FrZ (WL z b L T C) z y) {R : WR} (hd : wDis L R = true) {k : Nat} (hk : k < 35) {i : Int} (hr : wHas R k i) : zI y (b k) i = zI z (b k) i ∧ zG y (b k) i = zG z (b k) i ∧ zO y (b k) i = zO z (b k) i := f.2 (b k) i (by rw [(c.1 k hk).1]; exact (ckz_k k hk).2.2) (WL_n c hd hk hr)
def crw : WR := crz.map (fun t => (t.1, some t.2.1))
theorem crz_b : ∀ t ∈ crz, t.1 < 35 := by decide
theorem CWz_fr (c : CWz z b) (f : FrZ (WL z b L T C) z y) (hd : wDis L crw = true) : CWz y b := by
  refine ⟨fun k hk => by rw [(bK c f hk).1, (bK c f hk).2]; exact c.1 k hk, c.2.1, fun t ht => ?_⟩
  have e := (bI c f hd (crz_b t ht) (i := t.2.1) (wHas_i (List.mem_map.mpr ⟨t, ht, rfl⟩))).2.2
  rw [e]; exact c.2.2 t ht
theorem Frz_fr {W : Nat → Int → Prop} (h : Frz z b I) (f : FrZ W z y) : Frz y b I := fun a ha => by
  obtain ⟨h1, h2, h3, h4⟩ := h a ha
  have e := (f.1 a h1).1
  rw [e]; exact ⟨h1, h2, h3, h4⟩
end FrC
/-! ===== the system's state ===== -/
def RCt (z : Z) (b : Nat → Nat) (t : ST) : Prop := (zI z (b 1) 3 = t.1 ∧ 0 ≤ t.1 ∧ t.1 ≤ 400) ∧ (∀ i, 0 ≤ i → i < 400 → zI z (b 11) i = w8 (t.2.1 i) ∧ 0 ≤ t.2.1 i ∧ t.2.1 i ≤ 255) ∧ zI z (b 1) 4 = t.2.2.1 ∧ zI z (b 1) 5 = t.2.2.2
def rgT : WR := [(1, some 3), (1, some 4), (1, some 5), (11, none)]
/-- the bits of a version's ancestors -/
def ancB (par oth : Int → Int) : Nat → Int → Int
  | 0, _ => 0
  | n + 1, k => if k < 0 then 0 else lOr (lOr (lShl 1 k) (ancB par oth n (par k))) (ancB par oth n (oth k))
def RCl (z : Z) (b : Nat → Nat) (I : Nat → Prop) (l : SL2) : Prop := (zI z (b 3) 4 = l.1 ∧ 1 ≤ l.1 ∧ l.1 ≤ 40) ∧ ∀ k, 0 ≤ k → k < l.1 → (ShO z I (zO z (b 18) k) (l.2.1 k) ∧ zI z (b 19) k = l.2.2.1 k ∧ zI z (b 20) k = l.2.2.2 k ∧ zG z (b 21) k = ancB l.2.2.1 l.2.2.2 (k.toNat + 1) k) ∧ ((-1 ≤ l.2.2.1 k ∧ l.2.2.1 k < k ∧ (0 < k → 0 ≤ l.2.2.1 k)) ∧ (-1 ≤ l.2.2.2 k ∧ l.2.2.2 k < k))
def rgL : WR := [(3, some 4), (18, none), (19, none), (20, none), (21, none)]
def RCb (z : Z) (b : Nat → Nat) (n : Int) (s : SB) : Prop := (∀ k, 0 ≤ k → k < 6 → zI z (b 9) k = s.1 k ∧ -1 ≤ s.1 k ∧ s.1 k < n) ∧ (zI z (b 0) 12 = s.2.1 ∧ 0 ≤ s.2.1 ∧ s.2.1 < 6 ∧ 0 ≤ s.1 s.2.1) ∧ (zI z (b 0) 13 = s.2.2.1 ∧ -1 ≤ s.2.2.1 ∧ s.2.2.1 < n) ∧ (zI z (b 0) 14 = s.2.2.2.1 ∧ 0 ≤ s.2.2.2.1 ∧ s.2.2.2.1 ≤ 60000) ∧ (zI z (b 0) 15 = s.2.2.2.2.1 ∧ 0 ≤ s.2.2.2.2.1 ∧ s.2.2.2.2.1 ≤ 200) ∧ (zI z (b 0) 16 = s.2.2.2.2.2.1 ∧ 8 ≤ s.2.2.2.2.2.1 ∧ s.2.2.2.2.2.1 ≤ 1000000) ∧ (zI z (b 0) 17 = s.2.2.2.2.2.2 ∧ 6 ≤ s.2.2.2.2.2.2 ∧ s.2.2.2.2.2.2 ≤ 1000000)
def rgB : WR := [(9, none), (0, some 12), (0, some 13), (0, some 14), (0, some 15), (0, some 16), (0, some 17)]
def RCk (z : Z) (b : Nat → Nat) (I : Nat → Prop) (s : SK) : Prop := ShO z I (zO z (b 0) 11) s.1 ∧ (zI z (b 6) 2 = s.2.1 ∧ zI z (b 6) 3 = s.2.2.2.1 ∧ 0 ≤ s.2.1 ∧ 0 ≤ s.2.2.2.1 ∧ s.2.1 + s.2.2.2.1 ≤ 40) ∧ (∀ k, 0 ≤ k → k < s.2.1 → ShO z I (zO z (b 32) k) (s.2.2.1 k)) ∧ ∀ k, 0 ≤ k → k < s.2.2.2.1 → ShO z I (zO z (b 33) k) (s.2.2.2.2 k)
def rgK : WR := [(0, some 11), (6, some 2), (6, some 3), (32, none), (33, none)]
def CfC (z : Z) (I : Nat → Prop) (r : Option Nat) (f : Cf) : Prop := ∃ a, r = some a ∧ zK z a = 1 ∧ zI z a 0 = f.1.1 ∧ zI z a 1 = f.1.2.1 + 1 ∧ zI z a 2 = f.1.2.2.1 + 1 ∧ zI z a 3 = f.1.2.2.2 ∧ ContC z I (zO z a 4) f.2.1 ∧ ContC z I (zO z a 5) f.2.2.1 ∧ zI z a 6 = f.2.2.2 ∧ Z1 f.2.2.2
def RCq (z : Z) (b : Nat → Nat) (I : Nat → Prop) (s : SQ) : Prop := ((zI z (b 5) 2 = s.1 ∧ 0 ≤ s.1 ∧ s.1 ≤ 362) ∧ (∀ k, 0 ≤ k → k < s.1 → CfC z I (zO z (b 30) k) (s.2.1 k)) ∧ ∀ j k, 0 ≤ j → j < s.1 → 0 ≤ k → k < s.1 → zO z (b 30) j = zO z (b 30) k → j = k) ∧ (zI z (b 0) 10 = s.2.2.1 ∧ 0 ≤ s.2.2.1 ∧ s.2.2.1 ≤ 406) ∧ ∀ k, 0 ≤ k → k < s.2.2.1 → zI z (b 10) (3 * k) = (s.2.2.2 k).1 ∧ zI z (b 10) (3 * k + 1) = (s.2.2.2 k).2.1 ∧ zI z (b 10) (3 * k + 2) = (s.2.2.2 k).2.2
def rgQ : WR := [(5, some 2), (30, none), (0, some 10), (10, none)]
section FrC2
variable {z y : Z} {b : Nat → Nat} {L : WR} {T C : Nat → Prop} {I : Nat → Prop}
theorem RCt_fr (c : CWz z b) (f : FrZ (WL z b L T C) z y) (hd : wDis L rgT = true) {t : ST} (h : RCt z b t) : RCt y b t := by
  obtain ⟨⟨h1, h2⟩, h3, h4, h5⟩ := h
  refine ⟨⟨(bI c f hd (k := 1) (by decide) (i := 3) (wHas_i (by decide))).1.trans h1, h2⟩, fun i i0 i1 => ?_, (bI c f hd (k := 1) (by decide) (i := 4) (wHas_i (by decide))).1.trans h4, (bI c f hd (k := 1) (by decide) (i := 5) (wHas_i (by decide))).1.trans h5⟩
  rw [(bI c f hd (k := 11) (by decide) (i := i) (wHas_a (by decide))).1]; exact h3 i i0 i1
theorem RCl_fr (c : CWz z b) (r : Frz z b I) (f : FrZ (WL z b L T C) z y) (hd : wDis L rgL = true) {l : SL2} (h : RCl z b I l) : RCl y b I l := by
  obtain ⟨⟨h1, h2⟩, h3⟩ := h
  refine ⟨⟨(bI c f hd (k := 3) (by decide) (i := 4) (wHas_i (by decide))).1.trans h1, h2⟩, fun k k0 k1 => ?_⟩
  obtain ⟨⟨g1, g2, g3, g4⟩, g5⟩ := h3 k k0 k1
  rw [(bI c f hd (k := 18) (by decide) (i := k) (wHas_a (by decide))).2.2, (bI c f hd (k := 19) (by decide) (i := k) (wHas_a (by decide))).1, (bI c f hd (k := 20) (by decide) (i := k) (wHas_a (by decide))).1, (bI c f hd (k := 21) (by decide) (i := k) (wHas_a (by decide))).2.1]
  exact ⟨⟨ShO_fr f (WL_I r) (WL_7 c) g1, g2, g3, g4⟩, g5⟩
theorem RCb_fr (c : CWz z b) (f : FrZ (WL z b L T C) z y) (hd : wDis L rgB = true) {n : Int} {s : SB} (h : RCb z b n s) : RCb y b n s := by
  obtain ⟨h1, h2, h3, h4, h5, h6, h7⟩ := h
  unfold RCb
  rw [(bI c f hd (k := 0) (by decide) (i := 12) (wHas_i (by decide))).1, (bI c f hd (k := 0) (by decide) (i := 13) (wHas_i (by decide))).1, (bI c f hd (k := 0) (by decide) (i := 14) (wHas_i (by decide))).1, (bI c f hd (k := 0) (by decide) (i := 15) (wHas_i (by decide))).1, (bI c f hd (k := 0) (by decide) (i := 16) (wHas_i (by decide))).1, (bI c f hd (k := 0) (by decide) (i := 17) (wHas_i (by decide))).1]
  refine ⟨fun k k0 k1 => ?_, h2, h3, h4, h5, h6, h7⟩
  rw [(bI c f hd (k := 9) (by decide) (i := k) (wHas_a (by decide))).1]; exact h1 k k0 k1
theorem RCk_fr (c : CWz z b) (r : Frz z b I) (f : FrZ (WL z b L T C) z y) (hd : wDis L rgK = true) {s : SK} (h : RCk z b I s) : RCk y b I s := by
  obtain ⟨h1, h2, h3, h4⟩ := h
  unfold RCk
  rw [(bI c f hd (k := 0) (by decide) (i := 11) (wHas_i (by decide))).2.2, (bI c f hd (k := 6) (by decide) (i := 2) (wHas_i (by decide))).1, (bI c f hd (k := 6) (by decide) (i := 3) (wHas_i (by decide))).1]
  refine ⟨ShO_fr f (WL_I r) (WL_7 c) h1, h2, fun k k0 k1 => ?_, fun k k0 k1 => ?_⟩
  · rw [(bI c f hd (k := 32) (by decide) (i := k) (wHas_a (by decide))).2.2]; exact ShO_fr f (WL_I r) (WL_7 c) (h3 k k0 k1)
  · rw [(bI c f hd (k := 33) (by decide) (i := k) (wHas_a (by decide))).2.2]; exact ShO_fr f (WL_I r) (WL_7 c) (h4 k k0 k1)
theorem CfC_fr (c : CWz z b) (r : Frz z b I) (f : FrZ (WL z b L T C) z y) {x : Option Nat} {s : Cf} (hC : ∀ a, x = some a → ¬ C a) (h : CfC z I x s) : CfC y I x s := by
  obtain ⟨a, h0, h1, h2, h3, h4, h5, h6, h7, h8, h9⟩ := h
  have ka : zK z a ≠ 0 := by rw [h1]; decide
  have e := fun i => f.2 a i ka (fun w => hC a h0 (WL_1 c a i h1 w).2)
  refine ⟨a, h0, (f.1 a ka).1.trans h1, (e 0).1.trans h2, (e 1).1.trans h3, (e 2).1.trans h4, (e 3).1.trans h5, ?_, ?_, (e 6).1.trans h8, h9⟩
  · rw [(e 4).2.2]; exact ContC_fr f (WL_I r) h6
  · rw [(e 5).2.2]; exact ContC_fr f (WL_I r) h7
theorem RCq_fr (c : CWz z b) (r : Frz z b I) (f : FrZ (WL z b L T no1) z y) (hd : wDis L rgQ = true) {s : SQ} (h : RCq z b I s) : RCq y b I s := by
  obtain ⟨⟨h1, h2, h3⟩, h4, h5⟩ := h
  have e30 := fun k => (bI c f hd (k := 30) (by decide) (i := k) (wHas_a (by decide))).2.2
  unfold RCq
  rw [(bI c f hd (k := 5) (by decide) (i := 2) (wHas_i (by decide))).1, (bI c f hd (k := 0) (by decide) (i := 10) (wHas_i (by decide))).1]
  refine ⟨⟨h1, fun k k0 k1 => ?_, fun j k => ?_⟩, h4, fun k k0 k1 => ?_⟩
  · rw [e30]; exact CfC_fr c r f (fun _ _ w => w) (h2 k k0 k1)
  · rw [e30, e30]; exact h3 j k
  · rw [(bI c f hd (k := 10) (by decide) (i := 3 * k) (wHas_a (by decide))).1, (bI c f hd (k := 10) (by decide) (i := 3 * k + 1) (wHas_a (by decide))).1, (bI c f hd (k := 10) (by decide) (i := 3 * k + 2) (wHas_a (by decide))).1]; exact h5 k k0 k1
end FrC2
