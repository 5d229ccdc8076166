/-! ===== copy: a formula moved ===== -/
/-- the line d further on; -1: none -/
def frt (s : Sh) (ax id d : Int) : Int := if 0 ≤ plS s ax id ∧ 0 ≤ plS s ax id + d ∧ plS s ax id + d < lnS s ax then idS s ax (plS s ax id + d) else -1
/-- the ids are no less than 0 -/
def IdS (s : Sh) : Prop := ∀ ax, ax = 0 ∨ ax = 1 → ∀ k, 0 ≤ k → k < lnS s ax → 0 ≤ idS s ax k
theorem frt_m {s : Sh} {ax id d : Int} (hi : IdS s) (hax : ax = 0 ∨ ax = 1) : -1 ≤ frt s ax id d := by
  unfold frt; split
  · next h => have := hi ax hax _ h.2.1 h.2.2; omega
  · decide
def cor (f : Int) (s : Sh) (ax id d : Int) : Int := if f = 1 then id else frt s ax id d
theorem cor_m {f : Int} {s : Sh} {ax id d : Int} (hi : IdS s) (hax : ax = 0 ∨ ax = 1) (h : -1 ≤ id) : -1 ≤ cor f s ax id d := by
  unfold cor
  split
  · exact h
  · exact frt_m hi hax
/-- a place, moved -/
def shfP (s : Sh) (p : Prt) (dr dc : Int) : Prt := if cor (p.2.2.2.2.1 % 2) s 0 (p.2.2.2.1.1 - 1) dr < 0 ∨ cor (p.2.2.2.2.1 / 2 % 2) s 1 (p.2.2.2.1.2.1 - 1) dc < 0 ∨ cor (p.2.2.2.2.1 / 4 % 2) s 0 (p.2.2.2.1.2.2.1 - 1) dr < 0 ∨ cor (p.2.2.2.2.1 / 8 % 2) s 1 (p.2.2.2.1.2.2.2 - 1) dc < 0 then (15, 0, none, (0, 0, 0, 0), 0, -1) else (p.1, 0, none, (cor (p.2.2.2.2.1 % 2) s 0 (p.2.2.2.1.1 - 1) dr + 1, cor (p.2.2.2.2.1 / 2 % 2) s 1 (p.2.2.2.1.2.1 - 1) dc + 1, cor (p.2.2.2.2.1 / 4 % 2) s 0 (p.2.2.2.1.2.2.1 - 1) dr + 1, cor (p.2.2.2.2.1 / 8 % 2) s 1 (p.2.2.2.1.2.2.2 - 1) dc + 1), p.2.2.2.2)
def shfQ (S : SS) (dr dc : Int) (p : Prt) : Prt := if p.1 = 16 ∨ p.1 = 17 then shfP (shOf p.2.2.2.2.2 S) p dr dc else p
def shfC (S : SS) (dr dc : Int) (c : Cont) : Cont := match c with
  | none => none
  | some (k, l, ps) => if k = 5 then some (k, l, ps.map (shfQ S dr dc)) else some (k, l, ps)
/-- the versions that a content speaks of are there -/
def VrC (n : Int) (c : Cont) : Prop := ∀ k l ps, c = some (k, l, ps) → ∀ p ∈ ps, p.2.2.2.2.2 < n
def WfC (c : Cont) : Prop := ∀ k l ps, c = some (k, l, ps) → (k = 5 → l = (0, 0, []) ∧ (1 ≤ ps.length ∧ ps.length ≤ 60)) ∧ (k ≠ 5 → ps = []) ∧ ∀ p ∈ ps, WfP p
theorem o_further {z : Z} {I : Nat → Prop} {a : Nat} {s : Sh} {ax id d : Int} {P : Int → Prop} (hax : ax = 0 ∨ ax = 1) (hs : ShC z I a s) (d0 : -100 ≤ d) (d1 : d ≤ 100) (h : P (frt s ax (id - 1) d + 1)) : F_X6_further a ax id d z P := by
  have bs := ShC_b hs
  have ls := lnS_b bs ax
  have m32 := mst_32 ax
  unfold F_X6_further F_X6_further_50 F_X6_further_51
  unfold frt at h
  have pb := plS_b s ax (id - 1)
  refine ⟨ShC_7 hs, o_lineS hax hs (fun la ⟨l1, l2, l3⟩ _ => o_placeOf hs ?_)⟩
  by_cases e1 : plS s ax (id - 1) + 1 ≤ 0
  · rw [if_pos e1]; rw [if_neg (by omega)] at h; exact h
  · rw [if_neg e1, w32e (x := plS s ax (id - 1) + 1 + d) (by omega) (by omega)]
    by_cases e2 : plS s ax (id - 1) + 1 + d < 1
    · rw [if_pos e2]; rw [if_neg (by omega)] at h; exact h
    · rw [if_neg e2]
      refine ⟨la, rfl, l1, ?_⟩
      rw [l2]
      by_cases e3 : lnS s ax < plS s ax (id - 1) + 1 + d
      · rw [if_pos e3]; rw [if_neg (by omega)] at h; exact h
      · rw [if_neg e3, w32e (by omega) (by omega)]
        rw [if_pos (by omega)] at h
        refine ⟨by omega, by omega, ?_⟩
        rw [show plS s ax (id - 1) + 1 + d - 1 = plS s ax (id - 1) + d by omega, l3 _ (by omega) (by omega)]
        exact h
theorem bt1 : ∀ f : Nat, f < 16 → (bAnd (f : Int) 1 = 0 ↔ (f : Int) % 2 ≠ 1) ∧ (bAnd (f : Int) 2 = 0 ↔ (f : Int) / 2 % 2 ≠ 1) ∧ (bAnd (f : Int) 4 = 0 ↔ (f : Int) / 4 % 2 ≠ 1) ∧ (bAnd (f : Int) 8 = 0 ↔ (f : Int) / 8 % 2 ≠ 1) := by decide +kernel
theorem bt2 {f : Int} (h0 : 0 ≤ f) (h1 : f ≤ 15) : (bAnd f 1 = 0 ↔ f % 2 ≠ 1) ∧ (bAnd f 2 = 0 ↔ f / 2 % 2 ≠ 1) ∧ (bAnd f 4 = 0 ↔ f / 4 % 2 ≠ 1) ∧ (bAnd f 8 = 0 ↔ f / 8 % 2 ≠ 1) := by
  have := bt1 f.toNat (by omega)
  rw [Int.toNat_of_nonneg h0] at this
  exact this
/-- what was made new -/
def NwZ (z y : Z) (N : Nat → Prop) : Prop := ∀ a, N a → zK z a = 0 ∧ zK y a ≠ 0 ∧ zK y a ≠ 7 ∧ zK y a ≠ 1
theorem Frz_nw {z y : Z} {b : Nat → Nat} {I N : Nat → Prop} (c : CWz z b) (r : Frz z b I) (f : FrZ nW z y) (n : NwZ z y N) : Frz y b (fun a => I a ∨ N a) := by
  rintro a (ha | ha)
  · obtain ⟨g1, g2, g3, g4⟩ := r a ha
    have e := (f.1 a g1).1
    exact ⟨by rw [e]; exact g1, by rw [e]; exact g2, by rw [e]; exact g3, g4⟩
  · obtain ⟨g1, g2, g3, g4⟩ := n a ha
    exact ⟨g2, g3, g4, fun k hk e => (ckz_k k hk).2.2 (by rw [← (c.1 k hk).1, ← e]; exact g1)⟩
theorem PrtC_nw {z y : Z} {I : Nat → Prop} {a : Nat} {p : Prt} (f : FrZ nW z y) (h : PrtC z I a p) : PrtC y I a p := PrtC_fr f (fun _ _ _ w => w) h
theorem ContC_nw {z y : Z} {I : Nat → Prop} {a : Option Nat} {p : Cont} (f : FrZ nW z y) (h : ContC z I a p) : ContC y I a p := ContC_fr f (fun _ _ _ w => w) h
theorem ShC_nw {z y : Z} {I : Nat → Prop} {a : Nat} {s : Sh} (f : FrZ nW z y) (h : ShC z I a s) : ShC y I a s := ShC_fr f (fun _ _ _ w => w) (fun _ _ _ w => w.elim) h
/-- a new Part -/
theorem k_newPart {z : Z} {I : Nat → Prop} {op : Int} {a : Nat} {P : Z → Prop} (ha : zK z a = 0) (h : ∀ y, FrZ nW z y → (∀ q, zK z q = 0 → q ≠ a → zK y q = 0) → zK y a = 5 → zI y a 0 = op → zI y a 1 = 0 → zO y a 2 = none → (∀ i, 3 ≤ i → i ≤ 7 → zI y a i = 0) → zI y a 8 = -1 → P y) : F_X4_init a op 0 none (nZ z a 5 0) P := by
  unfold F_X4_init
  refine ⟨by rw [zK_nZ, if_pos rfl], ?_⟩
  rintro _ rfl _ rfl _ rfl _ rfl
  have f0 : FrZ nW z (nZ z a 5 0) := FrZ_nZ FrZ_rf ha
  refine h _ (FrZ_wO (FrZ_wI (FrZ_wI (FrZ_wI f0 (Or.inr ha)) (Or.inr ha)) (Or.inr ha)) (Or.inr ha)) (fun q hq hn => ?_) ?_ ?_ ?_ ?_ (fun i i0 i1 => ?_) ?_
  · simp only [zK_wO, zK_wI, zK_nZ]; rw [if_neg hn]; exact hq
  · simp only [zK_wO, zK_wI, zK_nZ]; rw [if_pos trivial]
  · rw [zI_wO, zI_wI, if_neg (by omega), zI_wI, if_pos ⟨rfl, rfl⟩]
  · rw [zI_wO, zI_wI, if_pos ⟨rfl, rfl⟩]
  · rw [zO_wO, if_pos ⟨rfl, rfl⟩]
  · rw [zI_wO, zI_wI, if_neg (by omega), zI_wI, if_neg (by omega), zI_wI, if_neg (by omega), zI_nZ, if_pos rfl]
  · rw [zI_wO, zI_wI, if_neg (by omega), zI_wI, if_neg (by omega), zI_wI, if_pos ⟨rfl, rfl⟩]
theorem o_shiftP {z : Z} {I : Nat → Prop} {a d : Nat} {s : Sh} {p : Prt} {dr dc : Int} {c sl : Nat} {P : Option Nat → Z → Prop} (hp : PrtC z I a p) (wp : WfP p) (hpl : p.1 = 16 ∨ p.1 = 17) (hs : ShC z I d s) (his : IdS s) (r0 : -100 ≤ dr ∧ dr ≤ 100) (c0 : -100 ≤ dc ∧ dc ≤ 100) (hc : 1 ≤ c) (hsl : 9 ≤ sl) (h : ∀ q y N, FrZ nW z y → NwZ z y N → (∀ q, zK z q = 0 → ¬ N q → zK y q = 0) → PrtC y (fun a => I a ∨ N a) q (shfP s p dr dc) → P (some q) y) : F_X4_shifted a (some d) dr dc z c sl P := by
  obtain ⟨i1, k5, a0, a1, a2, a3, a4, a5, a6, a7, a8⟩ := id hp
  obtain ⟨wo, wl, wf, w16, wa, wr⟩ := id wp
  rw [if_pos hpl] at wr
  have lit : p.2.2.1 = none := by
    revert wl
    cases p.2.2.1 with
    | none => intro _; rfl
    | some l => rintro ⟨w, -⟩; omega
  have args : p.2.1 = 0 := by unfold argL argM at wa; rcases hpl with e | e <;> rw [e] at wa <;> simp at wa <;> omega
  have b2 := bt2 wf.1 wf.2
  unfold F_X4_shifted
  refine ⟨k5, ?_⟩
  rw [a7]
  have k7 := ShC_7 hs
  by_cases e15 : p.2.2.2.2.1 = 15
  · rw [if_pos e15]
    refine h a z (fun _ => False) FrZ_rf (fun _ w => w.elim) (fun q hq _ => hq) (PrtC_I (fun _ w => Or.inl w) ?_)
    have : shfP s p dr dc = p := by
      unfold shfP
      rw [e15, show (15 : Int) % 2 = 1 by decide, show (15 : Int) / 2 % 2 = 1 by decide, show (15 : Int) / 4 % 2 = 1 by decide, show (15 : Int) / 8 % 2 = 1 by decide]
      unfold cor
      rw [if_pos rfl, if_pos rfl, if_pos rfl, if_pos rfl, if_neg (by omega)]
      obtain ⟨o, ar, li, ⟨x1, x2, x3, x4⟩, fx, vs⟩ := p
      simp only at lit args ⊢
      rw [lit, args, Int.sub_add_cancel, Int.sub_add_cancel, Int.sub_add_cancel, Int.sub_add_cancel]
    rw [this]; exact hp
  rw [if_neg e15]
  generalize hX1 : cor (p.2.2.2.2.1 % 2) s 0 (p.2.2.2.1.1 - 1) dr = X1
  generalize hX2 : cor (p.2.2.2.2.1 / 2 % 2) s 1 (p.2.2.2.1.2.1 - 1) dc = X2
  generalize hX3 : cor (p.2.2.2.2.1 / 4 % 2) s 0 (p.2.2.2.1.2.2.1 - 1) dr = X3
  generalize hX4 : cor (p.2.2.2.2.1 / 8 % 2) s 1 (p.2.2.2.1.2.2.2 - 1) dc = X4
  have m1 : -1 ≤ X1 := by rw [← hX1]; exact cor_m his (Or.inl rfl) (by omega)
  have m2 : -1 ≤ X2 := by rw [← hX2]; exact cor_m his (Or.inr rfl) (by omega)
  have m3 : -1 ≤ X3 := by rw [← hX3]; exact cor_m his (Or.inl rfl) (by omega)
  have m4 : -1 ≤ X4 := by rw [← hX4]; exact cor_m his (Or.inr rfl) (by omega)
  have hres : shfP s p dr dc = if X1 < 0 ∨ X2 < 0 ∨ X3 < 0 ∨ X4 < 0 then (15, 0, none, (0, 0, 0, 0), 0, -1) else (p.1, 0, none, (X1 + 1, X2 + 1, X3 + 1, X4 + 1), p.2.2.2.2) := by unfold shfP; rw [hX1, hX2, hX3, hX4]
  have bad : (X1 < 0 ∨ X2 < 0 ∨ X3 < 0 ∨ X4 < 0) → F_X4_shifted_144 z c sl P := fun w => by
    unfold F_X4_shifted_144
    refine ⟨hc, hsl, fun q hq => ?_⟩
    rintro _ rfl
    refine k_newPart (I := I) hq (fun y fy ny y5 y0 y1 y2 y3 y8 => ?_)
    refine h q y (fun a => a = q) fy (fun a ha => ?_) (fun t ht hn => ny t ht hn) ?_
    · subst ha; exact ⟨hq, by rw [y5]; decide, by rw [y5]; decide, by rw [y5]; decide⟩
    · rw [hres, if_pos w]
      exact ⟨Or.inr rfl, y5, y0, y1, y2, y3 3 (by decide) (by decide), y3 4 (by decide) (by decide), y3 5 (by decide) (by decide), y3 6 (by decide) (by decide), y3 7 (by decide) (by decide), y8⟩
  have last : F_X4_shifted_122 a (X1 + 1) (X2 + 1) (X3 + 1) (X4 + 1) z c sl P := by
    unfold F_X4_shifted_122
    by_cases q1 : X1 + 1 = 0
    · rw [if_pos q1]; exact bad (by omega)
    rw [if_neg q1]
    by_cases q2 : X2 + 1 = 0
    · rw [if_pos q2]; exact bad (by omega)
    rw [if_neg q2]
    by_cases q3 : X3 + 1 = 0
    · rw [if_pos q3]; exact bad (by omega)
    rw [if_neg q3]
    by_cases q4 : X4 + 1 = 0
    · rw [if_pos q4]; exact bad (by omega)
    rw [if_neg q4]
    refine ⟨hc, hsl, fun q hq => ?_⟩
    have aq : a ≠ q := fun w => by rw [w, hq] at k5; cases k5
    rintro _ rfl
    refine ⟨by rw [zK_nZ, if_neg aq]; exact k5, ?_⟩
    have e0 : zI (nZ z q 5 0) a 0 = p.1 := by rw [zI_nZ, if_neg aq]; exact a0
    rw [e0]
    refine k_newPart (I := I) hq (fun y fy ny y5 y0 y1 y2 y3 y8 => ?_)
    refine ⟨y5, ?_⟩
    rintro _ rfl _ rfl _ rfl _ rfl
    have ka : zK y a = 5 := (fy.1 a (by rw [k5]; decide)).1.trans k5
    refine ⟨ka, ?_⟩
    have e7 : zI (wI (wI (wI (wI y q 3 (X1 + 1)) q 4 (X2 + 1)) q 5 (X3 + 1)) q 6 (X4 + 1)) a 7 = p.2.2.2.2.1 := by
      simp only [zI_wI]
      rw [if_neg (fun w => aq w.1), if_neg (fun w => aq w.1), if_neg (fun w => aq w.1), if_neg (fun w => aq w.1)]
      exact ((fy.2 a 7 (by rw [k5]; decide) (fun w => w)).1).trans a7
    rw [e7]
    rintro _ rfl
    have e8 : zI (wI (wI (wI (wI (wI y q 3 (X1 + 1)) q 4 (X2 + 1)) q 5 (X3 + 1)) q 6 (X4 + 1)) q 7 p.2.2.2.2.1) a 8 = p.2.2.2.2.2 := by
      simp only [zI_wI]
      rw [if_neg (fun w => aq w.1), if_neg (fun w => aq w.1), if_neg (fun w => aq w.1), if_neg (fun w => aq w.1), if_neg (fun w => aq w.1)]
      exact ((fy.2 a 8 (by rw [k5]; decide) (fun w => w)).1).trans a8
    rw [e8]
    rintro _ rfl
    refine h q _ (fun t => t = q) (FrZ_wI (FrZ_wI (FrZ_wI (FrZ_wI (FrZ_wI (FrZ_wI fy (Or.inr hq)) (Or.inr hq)) (Or.inr hq)) (Or.inr hq)) (Or.inr hq)) (Or.inr hq)) (fun t ht => ?_) (fun t ht hn => ?_) ?_
    · subst ht
      simp only [zK_wI]
      exact ⟨hq, by rw [y5]; decide, by rw [y5]; decide, by rw [y5]; decide⟩
    · simp only [zK_wI]; exact ny t ht hn
    · rw [hres, if_neg (by omega)]
      refine ⟨Or.inr rfl, ?_, ?_, ?_, ?_, ?_, ?_, ?_, ?_, ?_, ?_⟩
      · simp only [zK_wI]; exact y5
      · simp only [zI_wI]; simp; exact y0
      · simp only [zI_wI]; simp; exact y1
      · simp only [zO_wI]; exact y2
      · simp only [zI_wI]; simp
      · simp only [zI_wI]; simp
      · simp only [zI_wI]; simp
      · simp only [zI_wI]; simp
      · simp only [zI_wI]; simp
      · simp only [zI_wI]; simp
  have s4 : F_X4_shifted_93 a (some d) dc (X1 + 1) (X2 + 1) (X3 + 1) z c sl P := by
    unfold F_X4_shifted_93
    refine ⟨k5, ?_⟩
    rw [a7, a6]
    unfold cor at hX4
    by_cases q : bAnd p.2.2.2.2.1 8 = 0
    · rw [if_pos q]; rw [if_neg (b2.2.2.2.mp q)] at hX4
      refine ⟨d, rfl, k7, o_further (Or.inr rfl) hs c0.1 c0.2 ?_⟩
      rw [hX4]; exact last
    · rw [if_neg q]; rw [if_pos (Decidable.byContradiction (fun w => q (b2.2.2.2.mpr w)))] at hX4
      rw [show p.2.2.2.1.2.2.2 = X4 + 1 by omega]; exact last
  have s3 : F_X4_shifted_65 a (some d) dr dc (X1 + 1) (X2 + 1) z c sl P := by
    unfold F_X4_shifted_65
    refine ⟨k5, ?_⟩
    rw [a7, a5]
    unfold cor at hX3
    by_cases q : bAnd p.2.2.2.2.1 4 = 0
    · rw [if_pos q]; rw [if_neg (b2.2.2.1.mp q)] at hX3
      refine ⟨d, rfl, k7, o_further (Or.inl rfl) hs r0.1 r0.2 ?_⟩
      rw [hX3]; exact s4
    · rw [if_neg q]; rw [if_pos (Decidable.byContradiction (fun w => q (b2.2.2.1.mpr w)))] at hX3
      rw [show p.2.2.2.1.2.2.1 = X3 + 1 by omega]; exact s4
  have s2 : F_X4_shifted_37 a (some d) dr dc (X1 + 1) z c sl P := by
    unfold F_X4_shifted_37
    refine ⟨k5, ?_⟩
    rw [a7, a4]
    unfold cor at hX2
    by_cases q : bAnd p.2.2.2.2.1 2 = 0
    · rw [if_pos q]; rw [if_neg (b2.2.1.mp q)] at hX2
      refine ⟨d, rfl, k7, o_further (Or.inr rfl) hs c0.1 c0.2 ?_⟩
      rw [hX2]; exact s3
    · rw [if_neg q]; rw [if_pos (Decidable.byContradiction (fun w => q (b2.2.1.mpr w)))] at hX2
      rw [show p.2.2.2.1.2.1 = X2 + 1 by omega]; exact s3
  rw [a3]
  unfold cor at hX1
  by_cases q : bAnd p.2.2.2.2.1 1 = 0
  · rw [if_pos q]; rw [if_neg (b2.1.mp q)] at hX1
    refine ⟨d, rfl, k7, o_further (Or.inl rfl) hs r0.1 r0.2 ?_⟩
    rw [hX1]; exact s2
  · rw [if_neg q]; rw [if_pos (Decidable.byContradiction (fun w => q (b2.1.mpr w)))] at hX1
    rw [show p.2.2.2.1.1 = X1 + 1 by omega]; exact s2
