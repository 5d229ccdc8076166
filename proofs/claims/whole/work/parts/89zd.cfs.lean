/-! ===== merging: conflicts and cells of the system ===== -/
def wJc : WR := [(5, some 2), (30, none)]
def CfLC (z : Z) (b : Nat → Nat) (I : Nat → Prop) (D : List Cf) : Prop := zI z (b 5) 2 = (D.length : Int) ∧ (∀ i : Nat, i < D.length → CfC z I (zO z (b 30) i) (D.getD i cf0)) ∧ ∀ i j : Nat, i < D.length → j < D.length → zO z (b 30) i = zO z (b 30) j → i = j
theorem CfC_nw {z y : Z} {I : Nat → Prop} {x : Option Nat} {e : Cf} (f : FrZ nW z y) (h : CfC z I x e) : CfC y I x e := by
  obtain ⟨a, h0, h1, h2, h3, h4, h5, h6, h7, h8, h9⟩ := h
  have ka : zK z a ≠ 0 := by rw [h1]; decide
  have e := fun i => f.2 a i ka (fun g => g)
  refine ⟨a, h0, (f.1 a ka).1.trans h1, (e 0).1.trans h2, (e 1).1.trans h3, (e 2).1.trans h4, (e 3).1.trans h5, ?_, ?_, (e 6).1.trans h8, h9⟩
  · rw [(e 4).2.2]; exact ContC_nw f h6
  · rw [(e 5).2.2]; exact ContC_nw f h7
theorem k_newCf {z : Z} {a : Nat} {k r c hd : Int} {r4 r5 : Option Nat} {P : Z → Prop} (ha : zK z a = 0) (hz : Z1 hd) (h : ∀ y, FrZ nW z y → (∀ q, zK z q = 0 → q ≠ a → zK y q = 0) → zK y a = 1 → zI y a 0 = k → zI y a 1 = r → zI y a 2 = c → zI y a 3 = hd → zO y a 4 = r4 → zO y a 5 = r5 → zI y a 6 = 0 → P y) : F_X0_init a k r c hd r4 r5 (nZ z a 1 0) P := by
  unfold F_X0_init
  refine ⟨by rw [zK_nZ, if_pos rfl], ?_⟩
  rintro _ rfl _ rfl _ rfl
  refine ⟨hz, ?_⟩
  rintro _ rfl _ rfl _ rfl
  have f0 : FrZ nW z (nZ z a 1 0) := FrZ_nZ FrZ_rf ha
  refine h _ (FrZ_wO (FrZ_wO (FrZ_wI (FrZ_wI (FrZ_wI (FrZ_wI f0 (Or.inr ha)) (Or.inr ha)) (Or.inr ha)) (Or.inr ha)) (Or.inr ha)) (Or.inr ha)) (fun q hq hn => ?_) ?_ ?_ ?_ ?_ ?_ ?_ ?_ ?_
  · simp only [zK_wO, zK_wI, zK_nZ]; rw [if_neg hn]; exact hq
  · simp only [zK_wO, zK_wI, zK_nZ]; rw [if_pos trivial]
  · simp only [zI_wO, zI_wI]; simp
  · simp only [zI_wO, zI_wI]; simp
  · simp only [zI_wO, zI_wI]; simp
  · simp only [zI_wO, zI_wI]; simp
  · simp only [zO_wO]; simp
  · simp only [zO_wO]; simp
  · simp only [zI_wO, zI_wI, zI_nZ]; simp
theorem o_note3 {z y : Z} {b : Nat → Nat} {I : Nat → Prop} {D : List Cf} {e : Cf} {a : Nat} {K : Z → Prop} (cw : CWz z b) (r : Frz z b I) (f : FrZ (WL z b wJc no1 no1) z y) (d : CfLC y b I D) (hD : D.length < 362) (he : CfC y I (some a) e) (hn : ∀ i : Nat, i < D.length → zO y (b 30) i ≠ some a) (h : ∀ x, FrZ (WL z b wJc no1 no1) z x → FrZ (WL y b wJc no1 no1) y x → (∀ q, zK x q = zK y q) → CfLC x b I (D ++ [e]) → K x) : F_X3_note (b 5) (some a) y K := by
  have cy := CWz_fr cw f (by decide)
  have ry : Frz y b I := Frz_fr r f
  obtain ⟨d1, d2, d3⟩ := d
  have n35 : b 5 ≠ b 30 := cNe cy rfl rfl rfl
  have n53 : b 30 ≠ b 5 := cNe cy rfl rfl rfl
  unfold F_X3_note F_X3_note_32
  refine ⟨cK cy 5 rfl rfl, b 30, cO cy 5 0 30 (by decide), cK cy 30 rfl rfl, ?_⟩
  rw [cN cy 30 (c := 362) rfl rfl, d1, if_neg (by omega)]
  refine ⟨by omega, by omega, fun v hv => by cases hv; obtain ⟨a', e0, e1, -⟩ := he; cases e0; exact e1, ?_⟩
  rintro _ rfl
  have e5 : zI (wO y (b 30) (D.length : Int) (some a)) (b 5) 2 = (D.length : Int) := by rw [zI_wO]; exact d1
  rw [e5, w32e (by omega) (by omega)]
  rintro _ rfl
  have fy : FrZ (WL y b wJc no1 no1) y (wI (wO y (b 30) (D.length : Int) (some a)) (b 5) 2 ((D.length : Int) + 1)) := FrZ_wI (FrZ_wO FrZ_rf (Or.inl (WL_a (by decide) (by decide)))) (Or.inl (WL_i (by decide) (by decide)))
  have fz : FrZ (WL z b wJc no1 no1) z (wI (wO y (b 30) (D.length : Int) (some a)) (b 5) 2 ((D.length : Int) + 1)) := FrZ_wl f fy
  have e30 : ∀ i : Int, zO (wI (wO y (b 30) (D.length : Int) (some a)) (b 5) 2 ((D.length : Int) + 1)) (b 30) i = if i = (D.length : Int) then some a else zO y (b 30) i := fun i => by
    rw [zO_wI, zO_wO]
    by_cases c : i = (D.length : Int)
    · rw [if_pos ⟨rfl, c⟩, if_pos c]
    · rw [if_neg (fun g => c g.2), if_neg c]
  refine h _ fz fy (fun q => rfl) ⟨?_, fun i hi => ?_, fun i j hi hj hij => ?_⟩
  · rw [zI_wI, if_pos ⟨rfl, rfl⟩, List.length_append]; rfl
  · rw [List.length_append] at hi
    simp only [List.length_cons, List.length_nil] at hi
    rw [gC_app (by omega), e30]
    by_cases c : i = D.length
    · rw [if_pos c, if_pos (by omega)]; exact CfC_fr cy ry fy (fun _ _ g => g) he
    · rw [if_neg c, if_neg (by omega)]; exact CfC_fr cy ry fy (fun _ _ g => g) (d2 i (by omega))
  · rw [List.length_append] at hi hj
    simp only [List.length_cons, List.length_nil] at hi hj
    rw [e30, e30] at hij
    by_cases c : i = D.length
    · by_cases c2 : j = D.length
      · omega
      · rw [if_pos (by omega), if_neg (by omega)] at hij
        exact absurd hij.symm (hn j (by omega))
    · by_cases c2 : j = D.length
      · rw [if_neg (by omega), if_pos (by omega)] at hij
        exact absurd hij (hn i (by omega))
      · rw [if_neg (by omega), if_neg (by omega)] at hij
        exact d3 i j (by omega) (by omega) hij
/-- a new conflict noted -/
theorem CfLC_nw {z y : Z} {b : Nat → Nat} {I : Nat → Prop} {D : List Cf} (c : CWz z b) (f : FrZ nW z y) (d : CfLC z b I D) : CfLC y b I D := by
  obtain ⟨d1, d2, d3⟩ := d
  have k5 : zK z (b 5) ≠ 0 := by rw [cK c 5 rfl rfl]; decide
  have k30 : zK z (b 30) ≠ 0 := by rw [cK c 30 rfl rfl]; decide
  refine ⟨((f.2 (b 5) 2 k5 (fun g => g)).1).trans d1, fun i hi => ?_, fun i j hi hj => ?_⟩
  · rw [(f.2 (b 30) i k30 (fun g => g)).2.2]; exact CfC_nw f (d2 i hi)
  · rw [(f.2 (b 30) i k30 (fun g => g)).2.2, (f.2 (b 30) j k30 (fun g => g)).2.2]; exact d3 i j hi hj
/-- a line array of ids from 1 on -/
def LnQ (z : Z) (q : Nat) (L : List Int) : Prop := zK z q = 15 ∧ zN z q = (L.length : Int) ∧ ∀ i, 0 ≤ i → i < (L.length : Int) → zI z q i = gI L i + 1
theorem LnQ_fr {z y : Z} {b : Nat → Nat} {M : WR} {q : Nat} {L : List Int} (f : FrZ (WL z b M no1 no1) z y) (hq : ∀ k, k < 35 → q ≠ b k) (h : LnQ z q L) : LnQ y q L := by
  obtain ⟨h1, h2, h3⟩ := h
  have kq : zK z q ≠ 0 := by rw [h1]; decide
  have nw : ∀ i, ¬ WL z b M no1 no1 q i := fun i => by
    rintro (⟨t, t1, t2, t3, t4⟩ | ⟨g, -⟩ | ⟨g, -⟩)
    · exact hq _ t2 t3
    · exact g
    · exact g
  exact ⟨(f.1 q kq).1.trans h1, (f.1 q kq).2.trans h2, fun i i0 i1 => ((f.2 q i kq (nw i)).1).trans (h3 i i0 i1)⟩
theorem o_noteLine {z : Z} {b : Nat → Nat} {I : Nat → Prop} {a1 a2 a3 q : Nat} {w t d : Sh} {ax : Int} {L : List Int} {D : List Cf} {c s : Nat} {P : Z → Prop} (cw : CWz z b) (r : Frz z b I) (hax : ax = 0 ∨ ax = 1) (M : Mg3 z b I a1 a2 a3 w t d) (hq : ∀ k, k < 35 → q ≠ b k) (l : LnQ z q L) (hin : ∀ x ∈ L, 0 ≤ plS w ax x ∨ 0 ≤ plS t ax x) (hL : L.length ≤ 64) (hD : D.length + L.length ≤ 362) (dz : CfLC z b I D) (hc : L.length ≤ c) (hs : 7 * L.length ≤ s) (h : ∀ y, FrZ (WL z b wJc no1 no1) z y → CfLC y b I (D ++ cfL w t d ax L L.length 0) → P y) : F_X3_noteLine (b 5) ax (some q) z c s P := by
  unfold F_X3_noteLine F_X3_noteLine_2
  refine lp_I (S := Int × Z × Nat × Nat) (fun p => (0 ≤ p.1 ∧ p.1 ≤ (L.length : Int)) ∧ ((L.length : Int) - p.1 ≤ (p.2.2.1 : Int) ∧ 7 * ((L.length : Int) - p.1) ≤ (p.2.2.2 : Int)) ∧ FrZ (WL z b wJc no1 no1) z p.2.1 ∧ ∃ E, CfLC p.2.1 b I E ∧ E ++ cfL w t d ax L ((L.length : Int) - p.1).toNat p.1 = D ++ cfL w t d ax L L.length 0 ∧ (E.length : Int) ≤ D.length + p.1) (fun p => ((L.length : Int) - p.1).toNat) ?_ (0, z, c, s) ⟨⟨by show (0 : Int) ≤ 0; decide, by show (0 : Int) ≤ _; omega⟩, ⟨by show (L.length : Int) - 0 ≤ (c : Int); omega, by show 7 * ((L.length : Int) - 0) ≤ (s : Int); omega⟩, FrZ_rf, D, dz, by show D ++ cfL w t d ax L ((L.length : Int) - 0).toNat 0 = _; rw [Int.sub_zero, Int.toNat_natCast], by show (D.length : Int) ≤ D.length + 0; omega⟩
  rintro G ⟨k, y, c', s'⟩ ⟨⟨k0, k1⟩, ⟨rc, rs⟩, fy, E, dE, eE, nE⟩ ih
  simp only at k0 k1 rc rs fy dE eE nE
  unfold L_X3_noteLine_2 F_X3_noteLine_27 F_X3_noteLine_48 F_X3_noteLine_82 F_X3_noteLine_95 F_X3_noteLine_111 F_X3_noteLine_125
  dsimp only
  have cy := CWz_fr cw fy (by decide)
  have ry : Frz y b I := Frz_fr r fy
  obtain ⟨l1, l2, l3⟩ := LnQ_fr fy hq l
  obtain ⟨⟨k5, o3, o4, o5⟩, h1, h2, h3⟩ := Mg3_fr cw r fy (by decide) M
  refine ⟨q, rfl, l1, ?_⟩
  rw [l2]
  by_cases ek : (L.length : Int) ≤ k
  · rw [if_pos ek]
    rw [show ((L.length : Int) - k).toNat = 0 by omega, cfL, List.append_nil] at eE
    exact h y fy (eE ▸ dE)
  · rw [if_neg ek]
    rw [show ((L.length : Int) - k).toNat = ((L.length : Int) - (k + 1)).toNat + 1 by omega, cfL, ← List.append_assoc] at eE
    have hid := hin _ (gI_mem (L := L) k0 (by omega))
    have zl : zI y q k = gI L k + 1 := l3 k k0 (by omega)
    refine ⟨k5, k0, by omega, a1, o3, ShC_7 h1, o_placeOf h1 ?_⟩
    rw [zl, Int.add_sub_cancel]
    generalize hgi : gI L k = id at eE hid zl
    have p1 := plS_m w ax id
    have p2 := plS_m t ax id
    have p3 := plS_m d ax id
    have skip : cfE w t d ax id = [] → G (w32 (k + 1), y, c', s') := fun e => by
      rw [w32e (by omega) (by omega)]
      rw [e, List.append_nil] at eE
      exact ih (k + 1, y, c', s') ⟨⟨by show 0 ≤ k + 1; omega, by show k + 1 ≤ _; omega⟩, ⟨by show (L.length : Int) - (k + 1) ≤ (c' : Int); omega, by show 7 * ((L.length : Int) - (k + 1)) ≤ (s' : Int); omega⟩, fy, E, dE, eE, by show (E.length : Int) ≤ D.length + (k + 1); omega⟩ (by show ((L.length : Int) - (k + 1)).toNat < ((L.length : Int) - k).toNat; omega)
    have mk : ∀ (kk r_ c_ hd : Int), Z1 hd → cfE w t d ax id = [((kk, r_ - 1, c_ - 1, hd), none, none, 0)] → 1 ≤ c' ∧ 7 ≤ s' ∧ ∀ a_98, zK y a_98 = 0 → (∀ z_98, z_98 = nZ y a_98 1 0 → (∃ a_119, some a_98 = some a_119 ∧ zK z_98 a_119 = 1 ∧ F_X0_init a_119 kk r_ c_ hd none none z_98 (fun z_119 => (∃ a_122, some (b 5) = some a_122 ∧ zK z_119 a_122 = 4 ∧ F_X3_note a_122 (some a_98) z_119 (fun z_122 => G (w32 (k + 1), z_122, c' - 1, s' - 7)))))) := fun kk r_ c_ hd hz ee => by
      refine ⟨by omega, by omega, fun a ha => ?_⟩
      rintro _ rfl
      refine ⟨a, rfl, by rw [zK_nZ, if_pos rfl], k_newCf ha hz (fun x fx nx x1 e0 e1 e2 e3 e4 e5 e6 => ?_)⟩
      have cx : CWz x b := CWz_fr cy (FrZ_mono fx (fun _ _ _ g => g.elim) : FrZ (WL y b [] no1 no1) y x) (by decide)
      refine ⟨b 5, rfl, cK cx 5 rfl rfl, ?_⟩
      have fzx : FrZ (WL z b wJc no1 no1) z x := FrZ_wl fy (FrZ_mono fx (fun _ _ _ g => g.elim))
      rw [ee] at eE
      refine o_note3 (e := ((kk, r_ - 1, c_ - 1, hd), none, none, 0)) cw r fzx (CfLC_nw cy fx dE) (by omega) ⟨a, rfl, x1, e0, by rw [e1]; show r_ = r_ - 1 + 1; omega, by rw [e2]; show c_ = c_ - 1 + 1; omega, e3, e4, e5, e6, z1_0⟩ (fun i hi g => ?_) (fun x' fx' _ kx' dx' => ?_)
      · rw [(fx.2 (b 30) i (by rw [cK cy 30 rfl rfl]; decide) (fun g => g)).2.2] at g
        obtain ⟨a', g0, g1, -⟩ := dE.2.1 i hi
        rw [g0] at g; cases g
        rw [ha] at g1; cases g1
      · rw [w32e (by omega) (by omega)]
        exact ih (k + 1, x', c' - 1, s' - 7) ⟨⟨by show 0 ≤ k + 1; omega, by show k + 1 ≤ _; omega⟩, ⟨by show (L.length : Int) - (k + 1) ≤ ((c' - 1 : Nat) : Int); omega, by show 7 * ((L.length : Int) - (k + 1)) ≤ ((s' - 7 : Nat) : Int); omega⟩, fx', _, dx', eE, by show (((E ++ [_]).length : Nat) : Int) ≤ D.length + (k + 1); rw [List.length_append]; simp only [List.length_cons, List.length_nil]; omega⟩ (by show ((L.length : Int) - (k + 1)).toNat < ((L.length : Int) - k).toNat; omega)
    have go : ∀ hd, hd = tb (0 ≤ plS w ax id) → (zK y (b 5) = 4 ∧ (∃ a_36, some q = some a_36 ∧ zK y a_36 = 15 ∧ (0 ≤ k ∧ k < zN y a_36 ∧ (∃ a_37, zO y (b 5) 4 = some a_37 ∧ zK y a_37 = 7 ∧ F_X6_placeOf a_37 ax (zI y a_36 k) y (fun x_37 => (if x_37 ≤ 0 then F_X3_noteLine_48 (b 5) ax (some q) k hd 0 y c' s' (fun o => match o with
          | .inl s' => G s'
          | .inr e => P e.1) else F_X3_noteLine_48 (b 5) ax (some q) k hd 1 y c' s' (fun o => match o with
          | .inl s' => G s'
          | .inr e => P e.1))))))) := fun hd hhd => by
      refine ⟨k5, q, rfl, l1, k0, by omega, a2, o4, ShC_7 h2, o_placeOf h2 ?_⟩
      rw [zl, Int.add_sub_cancel]
      have n48 : ∀ tt, tt = tb (0 ≤ plS t ax id) → F_X3_noteLine_48 (b 5) ax (some q) k hd tt y c' s' (fun o => match o with
          | .inl s' => G s'
          | .inr e => P e.1) := fun tt htt => by
        unfold F_X3_noteLine_48 F_X3_noteLine_82 F_X3_noteLine_95 F_X3_noteLine_111 F_X3_noteLine_125
        rw [hhd, htt]
        by_cases e1 : 0 ≤ plS w ax id
        · by_cases e2 : 0 ≤ plS t ax id
          · rw [show tb (0 ≤ plS w ax id) = 1 by rw [tb, if_pos e1], show tb (0 ≤ plS t ax id) = 1 by rw [tb, if_pos e2], if_pos rfl]
            exact skip (by unfold cfE; rw [if_neg (fun g => g.1 ⟨e1, e2⟩)])
          · rw [show tb (0 ≤ plS w ax id) = 1 by rw [tb, if_pos e1], show tb (0 ≤ plS t ax id) = 0 by rw [tb, if_neg e2], if_neg (by decide)]
            refine ⟨k5, q, rfl, l1, k0, by omega, a3, o5, ShC_7 h3, o_placeOf h3 ?_⟩
            rw [zl, Int.add_sub_cancel]
            by_cases e3 : plS d ax id + 1 ≤ 0
            · rw [if_pos e3]; exact skip (by unfold cfE; rw [if_neg (fun g => by have := g.2; omega)])
            · rw [if_neg e3]
              have ht1 : tb (0 ≤ plS w ax id) = 1 := by rw [tb, if_pos e1]
              by_cases ea : ax = 0
              · rw [if_pos ea, if_pos ea]
                simp only [if_pos ea]
                exact mk 1 (id + 1) 0 1 z1_1 (by unfold cfE; rw [if_pos ⟨fun g => e2 g.2, by omega⟩, ht1, if_pos ea, if_pos ea, ea, Int.add_sub_cancel]; rfl)
              · rw [if_neg ea, if_neg ea]
                simp only [if_neg ea]
                refine ⟨q, rfl, l1, k0, by omega, ?_⟩
                rw [zl]
                exact mk 2 0 (id + 1) 1 z1_1 (by unfold cfE; rw [if_pos ⟨fun g => e2 g.2, by omega⟩, ht1, if_neg ea, if_neg ea, Int.add_sub_cancel, show ax + 1 = 2 by omega]; rfl)
        · by_cases e2 : 0 ≤ plS t ax id
          · rw [show tb (0 ≤ plS w ax id) = 0 by rw [tb, if_neg e1], show tb (0 ≤ plS t ax id) = 1 by rw [tb, if_pos e2], if_neg (by decide)]
            refine ⟨k5, q, rfl, l1, k0, by omega, a3, o5, ShC_7 h3, o_placeOf h3 ?_⟩
            rw [zl, Int.add_sub_cancel]
            by_cases e3 : plS d ax id + 1 ≤ 0
            · rw [if_pos e3]; exact skip (by unfold cfE; rw [if_neg (fun g => by have := g.2; omega)])
            · rw [if_neg e3]
              have ht1 : tb (0 ≤ plS w ax id) = 0 := by rw [tb, if_neg e1]
              by_cases ea : ax = 0
              · rw [if_pos ea, if_pos ea]
                simp only [if_pos ea]
                exact mk 1 (id + 1) 0 0 z1_0 (by unfold cfE; rw [if_pos ⟨fun g => e1 g.1, by omega⟩, ht1, if_pos ea, if_pos ea, ea, Int.add_sub_cancel]; rfl)
              · rw [if_neg ea, if_neg ea]
                simp only [if_neg ea]
                refine ⟨q, rfl, l1, k0, by omega, ?_⟩
                rw [zl]
                exact mk 2 0 (id + 1) 0 z1_0 (by unfold cfE; rw [if_pos ⟨fun g => e1 g.1, by omega⟩, ht1, if_neg ea, if_neg ea, Int.add_sub_cancel, show ax + 1 = 2 by omega]; rfl)
          · omega
      by_cases e2 : plS t ax id + 1 ≤ 0
      · rw [if_pos e2]; exact n48 0 (by rw [tb, if_neg (by omega)])
      · rw [if_neg e2]; exact n48 1 (by rw [tb, if_pos (by omega)])
    by_cases e1 : plS w ax id + 1 ≤ 0
    · rw [if_pos e1]; exact go 0 (by rw [tb, if_neg (by omega)])
    · rw [if_neg e1]; exact go 1 (by rw [tb, if_pos (by omega)])
