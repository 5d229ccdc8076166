/-! ===== the system: a Worker, its stack, what it looks at ===== -/
def wWk : WR := [(4, some 10), (4, some 11), (4, some 12), (4, some 13), (4, some 14), (4, some 15), (4, some 16), (4, some 17), (4, some 18), (4, some 19), (4, some 20)]
def wFi : WR := [(4, some 11), (4, some 12), (4, some 13), (4, some 14), (4, some 15)]
def WkW (b sv sb : Nat → Nat) (x : Nat) (i : Int) : Prop := WB b wWk x i ∨ ∃ m : Nat, m < 60 ∧ VW (sv m) (sb m) x i
def StK (z : Z) (b sv sb : Nat → Nat) : Prop := (∀ m : Nat, m < 60 → zO z (b 22) m = some (sv m) ∧ VlB z (sv m) (sb m)) ∧ (∀ m n : Nat, m < 60 → n < 60 → sv m = sv n → m = n) ∧ ∀ m n : Nat, m < 60 → n < 60 → sb m = sb n → m = n
/-- the bytes among the frozen cells are not too many -/
def WzN (z : Z) (J : Nat → Prop) : Prop := ∀ a, J a → zK z a = 14 → zN z a < 33554432
theorem WzN_of {z : Z} {J : Nat → Prop} (h : WzI z J) : WzN z J := fun a ha _ => (h a ha).1.2
theorem WzN_fr {z y : Z} {b : Nat → Nat} {J : Nat → Prop} {W : Nat → Int → Prop} (r : Frz z b J) (f : FrZ W z y) (h : WzN z J) : WzN y J := fun a ha hk => by
  have ka := (r a ha).1
  rw [(f.1 a ka).2]
  exact h a ha (by rw [← (f.1 a ka).1]; exact hk)
def WkC (z : Z) (b : Nat → Nat) (J : Nat → Prop) (sv sb : Nat → Nat) : Prop := CWz z b ∧ Frz z b J ∧ StK z b sv sb ∧ (∀ x, J x → ∀ m : Nat, m < 60 → x ≠ sv m ∧ x ≠ sb m) ∧ (∀ m : Nat, m < 60 → ∀ k, k < 35 → sv m ≠ b k ∧ sb m ≠ b k) ∧ WzN z J ∧ VlS z (b 23) (b 24) (0, 0, [])
theorem WB_4 {b : Nat → Nat} {L : WR} (hL : ∀ t ∈ L, t.1 = 4) {x : Nat} {i : Int} (h : WB b L x i) : x = b 4 ∧ wHas L 4 i := by
  obtain ⟨t, h1, h2, h3, h4⟩ := h
  have e := hL t h1
  rw [e] at h3
  exact ⟨h3, t, h1, e, h4⟩
theorem WB_up {b : Nat → Nat} {L R : WR} (hL : ∀ t ∈ L, t ∈ R) {x : Nat} {i : Int} (h : WB b L x i) : WB b R x i := by
  obtain ⟨t, h1, h2⟩ := h
  exact ⟨t, hL t h1, h2⟩
section Wk
variable {z y : Z} {b sv sb : Nat → Nat} {J : Nat → Prop}
theorem wk_J (K : WkC z b J sv sb) {x : Nat} (h : J x) (i : Int) : ¬ WkW b sv sb x i := by
  rintro (w | ⟨m, hm, w⟩)
  · exact (K.2.1 x h).2.2.2 4 (by decide) (WB_4 (by decide) w).1
  · have := K.2.2.2.1 x h m hm
    rcases w with w | w
    · exact this.1 w.1
    · exact this.2 w
theorem wk_b (K : WkC z b J sv sb) {k : Nat} (hk : k < 35) (h4 : k ≠ 4) (i : Int) : ¬ WkW b sv sb (b k) i := by
  rintro (w | ⟨m, hm, w⟩)
  · exact h4 (K.1.2.1 k 4 hk (by decide) (WB_4 (by decide) w).1)
  · have := K.2.2.2.2.1 m hm k hk
    rcases w with w | w
    · exact this.1 w.1.symm
    · exact this.2 w.symm
theorem wk_4 (K : WkC z b J sv sb) {i : Int} (h : ¬ (10 ≤ i ∧ i ≤ 20)) : ¬ WkW b sv sb (b 4) i := by
  rintro (w | ⟨m, hm, w⟩)
  · obtain ⟨t, h1, -, h3⟩ := (WB_4 (by decide) w).2
    have : ∀ t ∈ wWk, t.2 ≠ none ∧ ∀ i, t.2 = some i → 10 ≤ i ∧ i ≤ 20 := by
      intro t ht
      simp only [wWk, List.mem_cons, List.not_mem_nil, or_false] at ht
      rcases ht with ht | ht | ht | ht | ht | ht | ht | ht | ht | ht | ht <;> subst ht <;> refine ⟨by simp, fun i hi => ?_⟩ <;> (injection hi with hi; omega)
    obtain ⟨q1, q2⟩ := this t h1
    rcases h3 with h3 | h3
    · exact q1 h3
    · exact h (q2 i h3)
  · have := K.2.2.2.2.1 m hm 4 (by decide)
    rcases w with w | w
    · exact this.1 w.1.symm
    · exact this.2 w.symm
theorem wk_k (K : WkC z b J sv sb) {x : Nat} (h10 : zK z x ≠ 10) (h9 : zK z x ≠ 9) (h14 : zK z x ≠ 14) (i : Int) : ¬ WkW b sv sb x i := by
  rintro (w | ⟨m, hm, w⟩)
  · rw [(WB_4 (by decide) w).1] at h10; exact h10 (cK K.1 4 rfl rfl)
  · exact VW_k (K.2.2.1.1 m hm).2 h9 h14 i w
theorem VX_s (K : WkC z b J sv sb) {m : Nat} (hm : m < 60) {W : Nat → Int → Prop} (f : FrZ W z y) (h : ∀ i, ¬ W (sv m) i) (h2 : ∀ i, ¬ W (sb m) i) {l : Lit} (V : VX z (sv m) (sb m) l) : VX y (sv m) (sb m) l := ⟨VlS_fr V.1 f (h 0) (h 1) (h 2) h2, by
  rw [(f.1 (sb m) (by rw [V.1.1.2.2.2]; decide)).2]; exact V.2⟩
theorem crz_4 : ∀ t ∈ crz, t.1 = 4 → ¬ (10 ≤ t.2.1 ∧ t.2.1 ≤ 20) := by decide
theorem WkC_fr (K : WkC z b J sv sb) (f : FrZ (WkW b sv sb) z y) : WkC y b J sv sb := by
  have kb : ∀ k, k < 35 → zK z (b k) ≠ 0 := fun k hk => by rw [(K.1.1 k hk).1]; exact (ckz_k k hk).2.2
  have nt : ∀ t ∈ crz, ¬ WkW b sv sb (b t.1) t.2.1 := fun t ht => by
    by_cases c : t.1 = 4
    · rw [c]; exact wk_4 K (crz_4 t ht c)
    · exact wk_b K (crz_b t ht) c _
  have c2 : CWz y b := ⟨fun k hk => by rw [(f.1 (b k) (kb k hk)).1, (f.1 (b k) (kb k hk)).2]; exact K.1.1 k hk, K.1.2.1, fun t ht => by rw [(f.2 (b t.1) t.2.1 (kb t.1 (crz_b t ht)) (nt t ht)).2.2]; exact K.1.2.2 t ht⟩
  refine ⟨c2, Frz_fr K.2.1 f, ⟨fun m hm => ?_, K.2.2.1.2⟩, K.2.2.2.1, K.2.2.2.2.1, WzN_fr K.2.1 f K.2.2.2.2.2.1, VlS_fr K.2.2.2.2.2.2 f (wk_b K (by decide) (by decide) _) (wk_b K (by decide) (by decide) _) (wk_b K (by decide) (by decide) _) (fun i => wk_b K (by decide) (by decide) _)⟩
  obtain ⟨o, B1, B2, B3, B4⟩ := K.2.2.1.1 m hm
  have n22 := wk_b K (k := 22) (by decide) (by decide) m
  refine ⟨(f.2 (b 22) m (kb 22 (by decide)) n22).2.2.trans o, (f.1 _ (by rw [B1]; decide)).1.trans B1, ?_, (f.1 _ (by rw [B3]; decide)).1.trans B3, (f.1 _ (by rw [B3]; decide)).2.trans B4⟩
  refine (f.2 (sv m) 0 (by rw [B1]; decide) ?_).2.2.trans B2
  rintro (w | ⟨n, hn, w⟩)
  · exact (K.2.2.2.2.1 m hm 4 (by decide)).1 (WB_4 (by decide) w).1
  · rcases w with ⟨w, w2⟩ | w
    · omega
    · have := (K.2.2.1.1 n hn).2.2.2.1
      rw [← w, B1] at this; cases this
theorem CX_4 (K : WkC z b J sv sb) : CX z (b 4) (b 22) := ⟨cK K.1 4 rfl rfl, cO K.1 4 1 22 (by decide), cK K.1 22 rfl rfl, cN K.1 22 rfl rfl⟩
/-- the writes at slot m are the Worker's -/
theorem wk_m {m : Nat} (hm : m < 60) {u v : Z} (f : FrZ (VW (sv m) (sb m)) u v) : FrZ (WkW b sv sb) u v := FrZ_mono f (fun _ _ _ w => Or.inr ⟨m, hm, w⟩)
theorem wk_w {L : WR} (hL : ∀ t ∈ L, t ∈ wWk) {u v : Z} (f : FrZ (WB b L) u v) : FrZ (WkW b sv sb) u v := FrZ_mono f (fun _ _ _ w => Or.inl (WB_up hL w))
/-- slot n stays where slot m is written -/
theorem VX_n (K : WkC z b J sv sb) {m n : Nat} (hm : m < 60) (hn : n < 60) (h : m ≠ n) (f : FrZ (VW (sv m) (sb m)) z y) {l : Lit} (V : VX z (sv n) (sb n) l) : VX y (sv n) (sb n) l ∧ zI y (sv n) 3 = zI z (sv n) 3 := by
  have B := (K.2.2.1.1 m hm).2
  have n1 : sv m ≠ sv n := fun w => h (K.2.2.1.2.1 m n hm hn w)
  have n2 : sb m ≠ sb n := fun w => h (K.2.2.1.2.2 m n hm hn w)
  exact ⟨VX_f2 B n1 n2 f V, (f.2 (sv n) 3 (by rw [V.1.1.1]; decide) ((VW_n B ⟨V.1.1.1, V.1.1.2.2.2⟩ n1 n2).1 3)).1⟩
/-- a slot stays where fields of the Worker are written -/
theorem VX_w (K : WkC z b J sv sb) {L : WR} (hL : ∀ t ∈ L, t.1 = 4) {n : Nat} (hn : n < 60) (f : FrZ (WB b L) z y) {l : Lit} (V : VX z (sv n) (sb n) l) : VX y (sv n) (sb n) l ∧ zI y (sv n) 3 = zI z (sv n) 3 := by
  have q := K.2.2.2.2.1 n hn 4 (by decide)
  exact ⟨VX_s K hn f (fun i w => q.1 (WB_4 hL w).1) (fun i w => q.2 (WB_4 hL w).1) V, (f.2 (sv n) 3 (by rw [V.1.1.1]; decide) (fun w => q.1 (WB_4 hL w).1)).1⟩
end Wk
/-- the Sheet that a version names; before 0: the one that is worked out -/
def ShV (z : Z) (b : Nat → Nat) (v : Int) (sh : Nat) : Prop := if v < 0 then zO z (b 4) 8 = some sh else v < 40 ∧ zO z (b 18) v = some sh
/-- where the place that was found lies -/
def FdC (z : Z) (b : Nat → Nat) (sh : Nat) (t c l r : Int) : Prop := zO z (b 4) 11 = some sh ∧ zI z (b 4) 12 = t + 1 ∧ zI z (b 4) 13 = c + 1 ∧ zI z (b 4) 14 = l + 1 ∧ zI z (b 4) 15 = r + 1
/-- the value of a cell of a Sheet -/
def CvL (z : Z) (b : Nat → Nat) (J : Nat → Prop) (sh : Nat) (h : Sh) (r c : Int) (l : Lit) : Prop := VOk l ∧ match h.2.2.2 r c with
  | none => l = (0, 0, [])
  | some (kd, li, _) => if kd = 5 then ∃ va x xb, (zO z sh 3 = some va ∧ (J va ∨ va = b 8) ∧ zK z va = 22 ∧ r * h.1.2 + c < zN z va) ∧ zO z va (r * h.1.2 + c) = some x ∧ (J x ∧ J xb) ∧ VX z x xb l else l = li
theorem k9_finds {z : Z} {b sv sb : Nat → Nat} {J : Nat → Prop} {pa sh : Nat} {p : Prt} {h : Sh} {P : Int → Z → Prop} (K : WkC z b J sv sb) (hp : PrtC z J pa p) (hv : ShV z b p.2.2.2.2.2 sh) (hs : ShC z J sh h) (hn : arP h p = none → ∀ y, FrZ (WB b wFi) z y → P 0 y) (hy : ∀ t c l r, arP h p = some (t, c, l, r) → ∀ y, FrZ (WB b wFi) z y → FdC y b sh t c l r → P 1 y) : F_X9_finds (b 4) (some pa) z P := by
  obtain ⟨p1, p2, p3, p4, p5, p6, p7, p8, p9, p10, p11⟩ := hp
  have k4 : zK z (b 4) = 10 := cK K.1 4 rfl rfl
  have pb : pa ≠ b 4 := (K.2.1 pa p1).2.2.2 4 (by decide)
  have main : F_X9_finds_46 (b 4) (some pa) (some (b 4)) (some sh) z P := by
    unfold F_X9_finds_46
    refine ⟨b 4, rfl, k4, fun z1 e1 => ?_⟩
    have f1 : FrZ (WB b wFi) z z1 := by rw [e1]; exact FrZ_wO FrZ_rf (Or.inl (WB_i (by decide) (by decide)))
    have g11 : zO z1 (b 4) 11 = some sh := by rw [e1, zO_wO, if_pos ⟨rfl, rfl⟩]
    have k4' : zK z1 (b 4) = 10 := (f1.1 (b 4) (by rw [k4]; decide)).1.trans k4
    have pi : ∀ i, zI z1 pa i = zI z pa i := fun i => by rw [e1]; rfl
    have kp : zK z1 pa = 5 := (f1.1 pa (by rw [p2]; decide)).1.trans p2
    have w1 : ∀ a i, J a → ¬ WB b wFi a i := fun a i ha w => (K.2.1 a ha).2.2.2 4 (by decide) (WB_4 (by decide) w).1
    have hs1 : ShC z1 J sh h := ShC_fr f1 w1 (fun a i ha w => by have := (WB_4 (by decide) w).1; rw [this, k4] at ha; cases ha) hs
    refine ⟨k4', ?_⟩
    rw [g11, if_neg (by simp)]
    refine ⟨pa, rfl, kp, sh, rfl, ShC_7 hs1, ?_⟩
    rw [pi, pi, pi, pi, p6, p8, p7, p9]
    refine o_placeOf hs1 (o_placeOf hs1 (o_placeOf hs1 (o_placeOf hs1 ?_)))
    have r1 := plS_m h 0 (p.2.2.2.1.1 - 1)
    have r2 := plS_m h 0 (p.2.2.2.1.2.2.1 - 1)
    have r3 := plS_m h 1 (p.2.2.2.1.2.1 - 1)
    have r4 := plS_m h 1 (p.2.2.2.1.2.2.2 - 1)
    unfold arP mnI mxI at hn hy
    generalize plS h 0 (p.2.2.2.1.1 - 1) = x1 at *
    generalize plS h 0 (p.2.2.2.1.2.2.1 - 1) = x2 at *
    generalize plS h 1 (p.2.2.2.1.2.1 - 1) = x3 at *
    generalize plS h 1 (p.2.2.2.1.2.2.2 - 1) = x4 at *
    intro z2 e2 z3 e3 z4 e4 z5 e5
    have f5 : FrZ (WB b wFi) z z5 := by
      rw [e5, e4, e3, e2]
      exact FrZ_wI (FrZ_wI (FrZ_wI (FrZ_wI f1 (Or.inl (WB_i (by decide) (by decide)))) (Or.inl (WB_i (by decide) (by decide)))) (Or.inl (WB_i (by decide) (by decide)))) (Or.inl (WB_i (by decide) (by decide)))
    have i12 : zI z5 (b 4) 12 = min (x1 + 1) (x2 + 1) := by
      rw [e5, zI_wI, if_neg (fun w => absurd w.2 (by decide)), e4, zI_wI, if_neg (fun w => absurd w.2 (by decide)), e3, zI_wI, if_neg (fun w => absurd w.2 (by decide)), e2, zI_wI, if_pos ⟨rfl, rfl⟩]
    have i13 : zI z5 (b 4) 13 = max (x1 + 1) (x2 + 1) := by
      rw [e5, zI_wI, if_neg (fun w => absurd w.2 (by decide)), e4, zI_wI, if_neg (fun w => absurd w.2 (by decide)), e3, zI_wI, if_pos ⟨rfl, rfl⟩]
    have i14 : zI z5 (b 4) 14 = min (x3 + 1) (x4 + 1) := by
      rw [e5, zI_wI, if_neg (fun w => absurd w.2 (by decide)), e4, zI_wI, if_pos ⟨rfl, rfl⟩]
    have i15 : zI z5 (b 4) 15 = max (x3 + 1) (x4 + 1) := by
      rw [e5, zI_wI, if_pos ⟨rfl, rfl⟩]
    have o11 : zO z5 (b 4) 11 = some sh := by rw [e5, zO_wI, e4, zO_wI, e3, zO_wI, e2, zO_wI]; exact g11
    unfold F_X9_finds_173 F_X9_finds_174
    rw [i12, i14]
    by_cases c1 : min (x1 + 1) (x2 + 1) ≤ 0
    · rw [if_pos c1]
      rw [if_pos (by omega)] at hn
      exact ⟨Or.inl rfl, hn rfl z5 f5⟩
    · rw [if_neg c1]
      by_cases c2 : min (x3 + 1) (x4 + 1) ≤ 0
      · rw [if_pos c2]
        rw [if_pos (by omega)] at hn
        exact ⟨Or.inl rfl, hn rfl z5 f5⟩
      · rw [if_neg c2]
        rw [if_neg (by omega)] at hy
        refine ⟨Or.inr rfl, hy _ _ _ _ rfl z5 f5 ⟨o11, ?_, ?_, ?_, ?_⟩⟩
        · rw [i12]; split <;> omega
        · rw [i13]; split <;> omega
        · rw [i14]; split <;> omega
        · rw [i15]; split <;> omega
  unfold F_X9_finds F_X9_finds_23 F_X9_finds_24
  refine ⟨pa, rfl, p2, ?_⟩
  rw [p11]
  unfold ShV at hv
  by_cases c : p.2.2.2.2.2 < 0
  · rw [if_pos c, if_pos rfl]
    rw [if_pos c] at hv
    rw [hv]
    exact ⟨k4, main⟩
  · rw [if_neg c]
    rw [if_neg c] at hv
    have n18 : zN z (b 18) = 40 := cN K.1 18 rfl rfl
    refine ⟨k4, b 18, cO K.1 4 0 18 (by decide), cK K.1 18 rfl rfl, ?_⟩
    rw [n18, if_neg (by omega), if_neg (by decide)]
    refine ⟨k4, pa, rfl, p2, b 18, cO K.1 4 0 18 (by decide), cK K.1 18 rfl rfl, ?_⟩
    rw [p11, n18, hv.2]
    exact ⟨by omega, by omega, main⟩
theorem k9_at {z : Z} {b : Nat → Nat} {J : Nat → Prop} {sh : Nat} {h : Sh} {r c : Int} {l : Lit} {P : Option Nat → Prop} (hw : WzN z J) (hs : ShC z J sh h) (r0 : 0 ≤ r) (r1 : r < h.1.1) (c0 : 0 ≤ c) (c1 : c < h.1.2) (V : CvL z b J sh h r c l) (hn : l = (0, 0, []) → P none) (p : ∀ x xb, VlS z x xb l → zN z xb ≤ 33554432 → P (some x)) : F_X6_valueAt sh (r + 1) (c + 1) z P := by
  have hb := ShC_b hs
  obtain ⟨ra, ca, xa, Sp, -, -, -, -, -, hc⟩ := hs
  obtain ⟨s1, s2, s3, s4, s5, s6, s7, s8, s9, s10, s11, s12⟩ := Sp
  have hct := hc r c r0 r1 c0 c1
  obtain ⟨V1, V2⟩ := V
  have ix := cix (r := r + 1) (c := c + 1) (nr := h.1.1) (nc := h.1.2) (by omega) (by omega) (by omega) (by omega)
  rw [show r + 1 - 1 = r by omega, show c + 1 - 1 = c by omega] at ix
  have nb : h.1.1 * h.1.2 ≤ 320 := by
    have := Int.mul_le_mul_of_nonneg_right (a := h.1.1) (b := 32) (c := h.1.2) (by omega) (by omega)
    omega
  unfold F_X6_valueAt F_X6_valueAt_106 F_X6_valueAt_107 F_X6_valueAt_66 F_X6_valueAt_80
  rw [if_neg (by omega)]
  refine ⟨s1, ra, s2, s5, ?_⟩
  rw [s8, if_neg (by omega), if_neg (by omega)]
  refine ⟨ca, s3, s6, ?_⟩
  rw [s9, if_pos (by omega), w32e (x := r + 1 - 1) (by omega) (by omega), show r + 1 - 1 = r by omega]
  generalize hm : r * h.1.2 = m at *
  rw [w32e (x := m) (by omega) (by omega), w32e (x := m + (c + 1)) (by omega) (by omega), w32e (x := m + (c + 1) - 1) (by omega) (by omega), show m + (c + 1) - 1 = m + c by omega]
  refine ⟨xa, s4, s7, by omega, by omega, ?_⟩
  match e : h.2.2.2 r c with
  | none =>
    rw [e] at hct V2
    have hct : zO z xa (m + c) = none := hct
    have V2 : l = (0, 0, []) := V2
    rw [hct, if_pos rfl, if_pos rfl]
    exact hn V2
  | some (kd, li, ps) =>
    rw [e] at hct V2
    unfold ContC at hct
    simp only at hct V2
    obtain ⟨a, pa, q1, q2, q3, q4, q5, q6, q7, q8, q9, q10⟩ := hct
    rw [q1, if_neg (by simp)]
    refine ⟨a, rfl, q3, ?_⟩
    rw [q4]
    by_cases c5 : kd = 5
    · rw [if_pos c5]
      rw [if_pos c5] at V2
      obtain ⟨va, x, xb, ⟨v1, v2, v3, v4⟩, v5, v6, v7⟩ := V2
      rw [v1, if_neg (by simp)]
      refine ⟨va, rfl, v3, ?_⟩
      rw [if_neg (by omega), v5]
      exact ⟨by omega, by omega, p x xb v7.1 (by rw [v7.2]; decide)⟩
    · rw [if_neg c5, if_neg (by simp)]
      rw [if_neg c5] at V2 q10
      obtain ⟨v, o, L⟩ := q10
      obtain ⟨iv, vb, ib, V⟩ := LitC_V L
      refine ⟨a, rfl, q3, ?_⟩
      rw [o]
      refine p v vb (by rw [V2]; exact V) ?_
      have := hw vb ib V.1.2.2.2
      omega
theorem k9_met {z : Z} {b sv sb : Nat → Nat} {J : Nat → Prop} {sh : Nat} {h : Sh} {r c : Int} {l : Lit} {P : Option Nat → Prop} (K : WkC z b J sv sb) (ho : zO z (b 4) 11 = some sh) (hs : ShC z J sh h) (r0 : 0 ≤ r) (r1 : r < h.1.1) (c0 : 0 ≤ c) (c1 : c < h.1.2) (V : CvL z b J sh h r c l) (p : ∀ x xb, VlS z x xb l → zN z xb ≤ 33554432 → P (some x)) : F_X9_met (b 4) (r + 1) (c + 1) z P := by
  unfold F_X9_met F_X9_met_22
  refine ⟨cK K.1 4 rfl rfl, sh, ho, ShC_7 hs, k9_at K.2.2.2.2.2.1 hs r0 r1 c0 c1 V (fun e => ?_) (fun x xb v n => ?_)⟩
  · rw [if_pos rfl, cO K.1 4 2 23 (by decide)]
    refine p (b 23) (b 24) (by rw [e]; exact K.2.2.2.2.2.2) ?_
    have n24 : zN z (b 24) = 0 := cN K.1 24 rfl rfl
    rw [n24]; decide
  · rw [if_neg (by simp)]
    exact p x xb v n
