/-! ===== the reference's state ===== -/
/-- the kind of a part in the reference -/
def kM (p : Prt) : Int := if p.1 = 14 then (match p.2.2.1 with
  | some l => l.1
  | none => 0) else if p.1 = 15 then 4 else if p.1 = 16 then 5 else if p.1 = 17 then 6 else if p.1 = 13 then 7 else if p.1 ≤ 12 then p.1 + 9 else p.1 + 12
def sw2 (x : Int) : Int := if x = 1 then 2 else if x = 2 then 1 else x
/-- the $ of a part in the reference; nx: the next part's op -/
def fM (p : Prt) (nx : Int) : Int := sw2 (p.2.2.2.2.1 % 4) + (if p.1 = 16 then (if nx = 29 ∨ nx = 30 then 16 else 0) else 4 * sw2 (p.2.2.2.2.1 / 4))
/-- letters from place q on, n of them, as bytes -/
def LetM (u : Mu) (q : Int) (bs : List Int) : Prop := 0 ≤ q ∧ q + (bs.length : Int) ≤ mI u 0 19 ∧ ∀ i : Nat, i < bs.length → mI u 18 (q + i) = bs.getD i 0
/-- a part's literal -/
def PliM (u : Mu) (q : Int) (l : Option Lit) : Prop := match l with
  | none => mG u 29 q = 0 ∧ mI u 30 q = 0 ∧ mI u 31 q = 0
  | some l => mG u 29 q = l.2.1 ∧ mI u 31 q = (l.2.2.length : Int) ∧ LetM u (mI u 30 q) l.2.2
/-- a literal as the parser makes it -/
def WfL (l : Lit) : Prop := (1 ≤ l.1 ∧ l.1 ≤ 3) ∧ (l.1 = 1 → -1000000000000000 < l.2.1 ∧ l.2.1 < 1000000000000000) ∧ (l.1 = 3 → l.2.1 = 0 ∨ l.2.1 = 1) ∧ (l.1 = 2 → l.2.1 = 0) ∧ (l.1 ≠ 2 → l.2.2 = []) ∧ l.2.2.length ≤ 24 ∧ ∀ x ∈ l.2.2, -128 ≤ x ∧ x ≤ 127
/-- how many arguments an op has -/
def argL (op : Int) : Int := if op ≤ 12 then 2 else if op = 13 then 1 else if op ≤ 17 then 0 else if op = 18 then 3 else if op ≤ 30 then 1 else 2
def argM (op : Int) : Int := if op ≤ 12 then 2 else if op = 13 then 1 else if op ≤ 17 then 0 else if op = 18 then 3 else if op ≤ 24 then 8 else if op ≤ 30 then 1 else 2
/-- a part as the parser or a shift makes it -/
def WfP (p : Prt) : Prop := (1 ≤ p.1 ∧ p.1 ≤ 35) ∧ (match p.2.2.1 with
  | none => p.1 ≠ 14
  | some l => p.1 = 14 ∧ WfL l) ∧ (0 ≤ p.2.2.2.2.1 ∧ p.2.2.2.2.1 ≤ 15) ∧ (p.1 = 16 → p.2.2.2.1.2.2.1 = p.2.2.2.1.1 ∧ p.2.2.2.1.2.2.2 = p.2.2.2.1.2.1 ∧ p.2.2.2.2.1 = 5 * (p.2.2.2.2.1 % 4)) ∧ (argL p.1 ≤ p.2.1 ∧ p.2.1 ≤ argM p.1) ∧ (if p.1 = 16 ∨ p.1 = 17 then (1 ≤ p.2.2.2.1.1 ∧ 1 ≤ p.2.2.2.1.2.1 ∧ 1 ≤ p.2.2.2.1.2.2.1 ∧ 1 ≤ p.2.2.2.1.2.2.2) ∧ -1 ≤ p.2.2.2.2.2 else p.2.2.2.1 = (0, 0, 0, 0) ∧ p.2.2.2.2 = (0, -1))
def PrtM (u : Mu) (q : Int) (p : Prt) (nx : Int) : Prop := mI u 26 q = kM p ∧ mI u 27 q = p.2.1 ∧ PliM u q p.2.2.1 ∧ mI u 32 q = p.2.2.2.1.1 - 1 ∧ mI u 33 q = p.2.2.2.1.2.1 - 1 ∧ mI u 34 q = (if p.1 = 16 then -1 else p.2.2.2.1.2.2.1 - 1) ∧ mI u 35 q = (if p.1 = 16 then -1 else p.2.2.2.1.2.2.2 - 1) ∧ mI u 36 q = fM p nx ∧ mI u 37 q = p.2.2.2.2.2 ∧ WfP p
def pd0 : Prt := (0, 0, none, (0, 0, 0, 0), 0, 0)
/-- how many parts n arguments have, the last of which ends at place j -/
def undS (sp : List Int) : Nat → Int → Int
  | 0, _ => 0
  | n + 1, j => sp.getD j.toNat 0 + undS sp n (j - sp.getD j.toNat 0)
/-- the spans of parts: a part and all that it takes -/
def spnL (ps : List Prt) : List Int := ps.foldl (fun sp p => sp ++ [1 + undS sp p.2.1.toNat ((sp.length : Int) - 1)]) []
/-- the place that is m arguments before the one that ends at j -/
def wlk (sp : List Int) : Nat → Int → Int
  | 0, j => j
  | m + 1, j => wlk sp m (j - sp.getD j.toNat 0)
/-- what may stand where: areas, and what ROW and COL take -/
def chO (op : Int) (k : Nat) (cop : Int) : Prop := (cop = 17 → (19 ≤ op ∧ op ≤ 24) ∨ (op = 33 ∧ k = 0) ∨ (op = 34 ∧ k = 1) ∨ (op = 35 ∧ k = 0)) ∧ (op = 29 ∨ op = 30 → cop = 15 ∨ cop = 16)
/-- the parts of a formula: each has its arguments before it, the last takes all -/
def WfF (ps : List Prt) : Prop := (∀ i : Nat, i < ps.length → ((spnL ps).getD i 0 ≤ i + 1 ∧ (i = 0 → (ps.getD i pd0).2.1 = 0)) ∧ ∀ k : Nat, (k : Int) < (ps.getD i pd0).2.1 → chO (ps.getD i pd0).1 k (ps.getD (wlk (spnL ps) ((ps.getD i pd0).2.1.toNat - 1 - k) ((i : Int) - 1)).toNat pd0).1) ∧ ((spnL ps).getD (ps.length - 1) 0 = (ps.length : Int) ∧ (ps.getD (ps.length - 1) pd0).1 ≠ 17)
def ContM (u : Mu) (q : Int) (c : Cont) : Prop := match c with
  | none => q = 0
  | some (k, l, ps) => if k = 5 then (1 ≤ q ∧ q - 1 + (ps.length : Int) ≤ mI u 0 25) ∧ mI u 38 (q - 1) = (ps.length : Int) ∧ ((1 ≤ ps.length ∧ ps.length ≤ 60) ∧ WfF ps) ∧ l = (0, 0, []) ∧ ∀ i : Nat, i < ps.length → PrtM u (q - 1 + i) (ps.getD i pd0) (ps.getD (i + 1) pd0).1 ∧ mI u 28 (q - 1 + i) = (spnL ps).getD i 0 else (100000 ≤ q ∧ q - 100000 < mI u 0 24) ∧ ps = [] ∧ l.1 = k ∧ WfL l ∧ mI u 20 (q - 100000) = k ∧ mG u 21 (q - 100000) = l.2.1 ∧ mI u 23 (q - 100000) = (l.2.2.length : Int) ∧ LetM u (mI u 22 (q - 100000)) l.2.2
/-- the sheet of slot s -/
def ShM (u : Mu) (s : Int) (h : Sh) : Prop := (mI u 1 s = h.1.1 ∧ mI u 2 s = h.1.2) ∧ (∀ k, 0 ≤ k → k < h.1.1 → mI u 3 (32 * s + k) = h.2.1 k) ∧ (∀ k, 0 ≤ k → k < h.1.2 → mI u 4 (10 * s + k) = h.2.2.1 k) ∧ ∀ r c, 0 ≤ r → r < h.1.1 → 0 ≤ c → c < h.1.2 → ContM u (mI u 5 (320 * s + 10 * r + c)) (h.2.2.2 r c)
/-- what v has more than u: letters, plains, parts at their ends -/
def Grw (u v : Mu) : Prop := (0 ≤ mI u 0 19 ∧ mI u 0 19 ≤ mI v 0 19 ∧ mI u 0 24 ≤ mI v 0 24 ∧ mI u 0 25 ≤ mI v 0 25) ∧ (∀ i, 0 ≤ i → i < mI u 0 19 → mI v 18 i = mI u 18 i) ∧ (∀ i, 0 ≤ i → i < mI u 0 24 → mI v 20 i = mI u 20 i ∧ mG v 21 i = mG u 21 i ∧ mI v 22 i = mI u 22 i ∧ mI v 23 i = mI u 23 i) ∧ ∀ i, 0 ≤ i → i < mI u 0 25 → mG v 29 i = mG u 29 i ∧ ∀ k, 26 ≤ k → k ≤ 38 → mI v k i = mI u k i
theorem LetM_g {u v : Mu} (g : Grw u v) {q : Int} {bs : List Int} (h : LetM u q bs) : LetM v q bs := by
  obtain ⟨h1, h2, h3⟩ := h
  exact ⟨h1, by have := g.1; omega, fun i hi => by rw [g.2.1 (q + i) (by omega) (by omega)]; exact h3 i hi⟩
theorem PrtM_g {u v : Mu} (g : Grw u v) {q : Int} {p : Prt} {nx : Int} (q0 : 0 ≤ q) (q1 : q < mI u 0 25) (h : PrtM u q p nx) : PrtM v q p nx := by
  obtain ⟨e29, e⟩ := g.2.2.2 q q0 q1
  obtain ⟨h1, h2, h3, h4⟩ := h
  unfold PrtM
  rw [e 26 (by decide) (by decide), e 27 (by decide) (by decide), e 32 (by decide) (by decide), e 33 (by decide) (by decide), e 34 (by decide) (by decide), e 35 (by decide) (by decide), e 36 (by decide) (by decide), e 37 (by decide) (by decide)]
  refine ⟨h1, h2, ?_, h4⟩
  revert h3
  unfold PliM
  cases p.2.2.1 with
  | none => rintro ⟨g1, g2, g3⟩; exact ⟨e29.trans g1, (e 30 (by decide) (by decide)).trans g2, (e 31 (by decide) (by decide)).trans g3⟩
  | some l => rintro ⟨g1, g2, g3⟩; exact ⟨e29.trans g1, (e 31 (by decide) (by decide)).trans g2, by rw [e 30 (by decide) (by decide)]; exact LetM_g g g3⟩
theorem ContM_g {u v : Mu} (g : Grw u v) {q : Int} {c : Cont} (h : ContM u q c) : ContM v q c := by
  match c, h with
  | none, h => exact h
  | some (k, l, ps), h =>
    unfold ContM at h ⊢
    simp only at h ⊢
    split at h
    · next c =>
      rw [if_pos c]
      obtain ⟨⟨h1, h2⟩, h3, h4, h5, h6⟩ := h
      have hp : 1 ≤ (ps.length : Int) := by have := h4.1.1; omega
      refine ⟨⟨h1, by have := g.1; omega⟩, ?_, h4, h5, fun i hi => ?_⟩
      · rw [(g.2.2.2 (q - 1) (by omega) (by omega)).2 38 (by decide) (by decide)]; exact h3
      · obtain ⟨g1, g2⟩ := h6 i hi
        refine ⟨PrtM_g g (by omega) (by omega) g1, ?_⟩
        rw [(g.2.2.2 (q - 1 + i) (by omega) (by omega)).2 28 (by decide) (by decide)]; exact g2
    · next c =>
      rw [if_neg c]
      obtain ⟨⟨h1, h2⟩, h3, h4, h5, h6, h7, h8, h9⟩ := h
      obtain ⟨e1, e2, e3, e4⟩ := g.2.2.1 (q - 100000) (by omega) h2
      exact ⟨⟨h1, by have := g.1; omega⟩, h3, h4, h5, e1.trans h6, e2.trans h7, e4.trans h8, by rw [e3]; exact LetM_g g h9⟩
/-- slot s of u is slot t of v -/
def SlM (u v : Mu) (s t : Int) : Prop := mI v 1 t = mI u 1 s ∧ mI v 2 t = mI u 2 s ∧ (∀ k, 0 ≤ k → k < 32 → mI v 3 (32 * t + k) = mI u 3 (32 * s + k)) ∧ (∀ k, 0 ≤ k → k < 10 → mI v 4 (10 * t + k) = mI u 4 (10 * s + k)) ∧ ∀ k, 0 ≤ k → k < 320 → mI v 5 (320 * t + k) = mI u 5 (320 * s + k)
/-- a sheet's measures -/
def ShB (h : Sh) : Prop := (1 ≤ h.1.1 ∧ h.1.1 ≤ 32) ∧ 1 ≤ h.1.2 ∧ h.1.2 ≤ 10
theorem ShM_s {u v : Mu} {s t : Int} {h : Sh} (hb : ShB h) (g : Grw u v) (e : SlM u v s t) (m : ShM u s h) : ShM v t h := by
  obtain ⟨e1, e2, e3, e4, e5⟩ := e
  obtain ⟨⟨m1, m2⟩, m3, m4, m5⟩ := m
  obtain ⟨⟨b1, b2⟩, b3, b4⟩ := hb
  refine ⟨⟨e1.trans m1, e2.trans m2⟩, fun k k0 k1 => (e3 k k0 (by omega)).trans (m3 k k0 k1), fun k k0 k1 => (e4 k k0 (by omega)).trans (m4 k k0 k1), fun r c r0 r1 c0 c1 => ?_⟩
  rw [show 320 * t + 10 * r + c = 320 * t + (10 * r + c) by omega, e5 _ (by omega) (by omega), show 320 * s + (10 * r + c) = 320 * s + 10 * r + c by omega]
  exact ContM_g g (m5 r c r0 r1 c0 c1)
theorem ShC_b {z : Z} {I : Nat → Prop} {a : Nat} {s : Sh} (h : ShC z I a s) : ShB s := by
  obtain ⟨ra, ca, xa, S, -⟩ := h
  obtain ⟨-, -, -, -, -, -, -, -, -, -, h1, h2⟩ := S
  exact ⟨h1, h2⟩
theorem ShO_b {z : Z} {I : Nat → Prop} {r : Option Nat} {s : Sh} (h : ShO z I r s) : ShB s := by
  obtain ⟨a, -, h⟩ := h; exact ShC_b h
/-! the reference's writes -/
def FrM (L : WR) (u v : Mu) : Prop := (∀ k i, ¬ wHas L k i → mI v k i = mI u k i) ∧ ∀ k i, ¬ wHas L k i → mG v k i = mG u k i
theorem FrM_rf {L : WR} {u : Mu} : FrM L u u := ⟨fun _ _ _ => rfl, fun _ _ _ => rfl⟩
theorem FrM_uI {L : WR} {u v : Mu} {k : Nat} {i x : Int} (f : FrM L u v) (h : wHas L k i) : FrM L u (uI v k i x) := by
  refine ⟨fun k' i' n => ?_, f.2⟩
  rw [mI_uI, if_neg (by rintro ⟨rfl, rfl⟩; exact n h)]; exact f.1 k' i' n
theorem FrM_uG {L : WR} {u v : Mu} {k : Nat} {i x : Int} (f : FrM L u v) (h : wHas L k i) : FrM L u (uG v k i x) := by
  refine ⟨f.1, fun k' i' n => ?_⟩
  rw [mG_uG, if_neg (by rintro ⟨rfl, rfl⟩; exact n h)]; exact f.2 k' i' n
theorem FrM_tr {L : WR} {u v w : Mu} (f : FrM L u v) (g : FrM L v w) : FrM L u w := ⟨fun k i n => (g.1 k i n).trans (f.1 k i n), fun k i n => (g.2 k i n).trans (f.2 k i n)⟩
theorem FrM_cpM {L : WR} {u v : Mu} {k : Nat} {a b n : Int} (f : FrM L u v) (h : (k, (none : Option Int)) ∈ L) : FrM L u (cpM v k a b n) := by
  refine ⟨fun k' i' nn => ?_, f.2⟩
  rw [mI_cpM, if_neg (by rintro ⟨rfl, -⟩; exact nn (wHas_a h))]; exact f.1 k' i' nn
def wSl : WR := [(1, none), (2, none), (3, none), (4, none), (5, none)]
theorem FrM_cpF {L : WR} {u v : Mu} {a b : Int} (f : FrM L u v) (h : ∀ t ∈ wSl, t ∈ L) (h65 : (0, some (65 : Int)) ∈ L) : FrM L u (cpF v a b) := by
  have q : FrM L u (cpS v a b) := FrM_cpM (FrM_cpM (FrM_cpM (FrM_uI (FrM_uI f (wHas_a (h _ (by decide)))) (wHas_a (h _ (by decide)))) (h _ (by decide))) (h _ (by decide))) (h _ (by decide))
  unfold cpF
  split
  · exact FrM_uI q (wHas_i h65)
  · exact q
theorem mE {L R : WR} {u v : Mu} (f : FrM L u v) (hd : wDis L R = true) {k : Nat} {i : Int} (h : wHas R k i) : mI v k i = mI u k i := f.1 k i (fun w => wDis_e hd w h)
theorem gE {L R : WR} {u v : Mu} (f : FrM L u v) (hd : wDis L R = true) {k : Nat} {i : Int} (h : wHas R k i) : mG v k i = mG u k i := f.2 k i (fun w => wDis_e hd w h)
/-- the contents' region -/
def rgC : WR := [(0, some 19), (0, some 24), (0, some 25), (18, none), (20, none), (21, none), (22, none), (23, none), (26, none), (27, none), (28, none), (29, none), (30, none), (31, none), (32, none), (33, none), (34, none), (35, none), (36, none), (37, none), (38, none)]
theorem rgC_k : ∀ k : Nat, 26 ≤ k → k ≤ 38 → (k, (none : Option Int)) ∈ rgC := by
  intro k h1 h2
  have : k = 26 ∨ k = 27 ∨ k = 28 ∨ k = 29 ∨ k = 30 ∨ k = 31 ∨ k = 32 ∨ k = 33 ∨ k = 34 ∨ k = 35 ∨ k = 36 ∨ k = 37 ∨ k = 38 := by omega
  rcases this with rfl | rfl | rfl | rfl | rfl | rfl | rfl | rfl | rfl | rfl | rfl | rfl | rfl <;> decide
theorem Grw_fr {L : WR} {u v : Mu} (h0 : 0 ≤ mI u 0 19) (f : FrM L u v) (hd : wDis L rgC = true) : Grw u v := by
  have e1 := mE f hd (k := 0) (i := 19) (wHas_i (by decide))
  have e2 := mE f hd (k := 0) (i := 24) (wHas_i (by decide))
  have e3 := mE f hd (k := 0) (i := 25) (wHas_i (by decide))
  refine ⟨⟨h0, by omega, by omega, by omega⟩, fun i _ _ => mE f hd (wHas_a (by decide)), fun i _ _ => ⟨mE f hd (wHas_a (by decide)), gE f hd (wHas_a (by decide)), mE f hd (wHas_a (by decide)), mE f hd (wHas_a (by decide))⟩, fun i _ _ => ⟨gE f hd (wHas_a (by decide)), fun k h1 h2 => mE f hd (wHas_a (rgC_k k h1 h2))⟩⟩
theorem SlM_fr {L : WR} {u v : Mu} {s : Int} (f : FrM L u v) (hd : wDis L wSl = true) : SlM u v s s := ⟨mE f hd (wHas_a (by decide)), mE f hd (wHas_a (by decide)), fun _ _ _ => mE f hd (wHas_a (by decide)), fun _ _ _ => mE f hd (wHas_a (by decide)), fun _ _ _ => mE f hd (wHas_a (by decide))⟩
theorem SlM_tr {u v w : Mu} {s t r : Int} (f : SlM u v s t) (g : SlM v w t r) : SlM u w s r := ⟨g.1.trans f.1, g.2.1.trans f.2.1, fun k a b => (g.2.2.1 k a b).trans (f.2.2.1 k a b), fun k a b => (g.2.2.2.1 k a b).trans (f.2.2.2.1 k a b), fun k a b => (g.2.2.2.2 k a b).trans (f.2.2.2.2 k a b)⟩
theorem SlM_cps {u : Mu} {a b : Int} : SlM u (cpS u a b) a b := by
  unfold cpS
  refine ⟨?_, ?_, fun k k0 k1 => ?_, fun k k0 k1 => ?_, fun k k0 k1 => ?_⟩
  · rw [mI_cpM, if_neg (by omega), mI_cpM, if_neg (by omega), mI_cpM, if_neg (by omega), mI_uI, if_neg (by omega), mI_uI, if_pos ⟨rfl, rfl⟩]
  · rw [mI_cpM, if_neg (by omega), mI_cpM, if_neg (by omega), mI_cpM, if_neg (by omega), mI_uI, if_pos ⟨rfl, rfl⟩]
  · rw [mI_cpM, if_neg (by omega), mI_cpM, if_neg (by omega), mI_cpM, if_pos (by omega), mI_uI, if_neg (by omega), mI_uI, if_neg (by omega)]; congr 1; omega
  · rw [mI_cpM, if_neg (by omega), mI_cpM, if_pos (by omega), mI_cpM, if_neg (by omega), mI_uI, if_neg (by omega), mI_uI, if_neg (by omega)]; congr 1; omega
  · rw [mI_cpM, if_pos (by omega), mI_cpM, if_neg (by omega), mI_cpM, if_neg (by omega), mI_uI, if_neg (by omega), mI_uI, if_neg (by omega)]; congr 1; omega
theorem SlM_cpo {u : Mu} {a b s : Int} (h : s ≠ b) : SlM u (cpS u a b) s s := by
  unfold cpS
  refine ⟨?_, ?_, fun k k0 k1 => ?_, fun k k0 k1 => ?_, fun k k0 k1 => ?_⟩
  · rw [mI_cpM, if_neg (by omega), mI_cpM, if_neg (by omega), mI_cpM, if_neg (by omega), mI_uI, if_neg (by omega), mI_uI, if_neg (by omega)]
  · rw [mI_cpM, if_neg (by omega), mI_cpM, if_neg (by omega), mI_cpM, if_neg (by omega), mI_uI, if_neg (by omega), mI_uI, if_neg (by omega)]
  · rw [mI_cpM, if_neg (by omega), mI_cpM, if_neg (by omega), mI_cpM, if_neg (by omega), mI_uI, if_neg (by omega), mI_uI, if_neg (by omega)]
  · rw [mI_cpM, if_neg (by omega), mI_cpM, if_neg (by omega), mI_cpM, if_neg (by omega), mI_uI, if_neg (by omega), mI_uI, if_neg (by omega)]
  · rw [mI_cpM, if_neg (by omega), mI_cpM, if_neg (by omega), mI_cpM, if_neg (by omega), mI_uI, if_neg (by omega), mI_uI, if_neg (by omega)]
theorem SlM_65 {u v : Mu} {s t x i : Int} (h : SlM u v s t) : SlM u (uI v 0 i x) s t := by
  refine ⟨?_, ?_, fun k a b => ?_, fun k a b => ?_, fun k a b => ?_⟩ <;> rw [mI_uI, if_neg (by omega)]
  · exact h.1
  · exact h.2.1
  · exact h.2.2.1 k a b
  · exact h.2.2.2.1 k a b
  · exact h.2.2.2.2 k a b
theorem SlM_f {u : Mu} {a b : Int} : SlM u (cpF u a b) a b := by
  unfold cpF; split
  · exact SlM_65 SlM_cps
  · exact SlM_cps
theorem SlM_fo {u : Mu} {a b s : Int} (h : s ≠ b) : SlM u (cpF u a b) s s := by
  unfold cpF; split
  · exact SlM_65 (SlM_cpo h)
  · exact SlM_cpo h
/-! the reference's state -/
def RMt (u : Mu) (t : ST) : Prop := mI u 0 40 = t.1 ∧ (∀ i, 0 ≤ i → i < 400 → mI u 39 i = t.2.1 i) ∧ mI u 0 41 = t.2.2.1 ∧ mI u 0 42 = t.2.2.2
def rmT : WR := [(0, some 40), (39, none), (0, some 41), (0, some 42)]
def RMl (u : Mu) (l : SL2) : Prop := mI u 0 8 = l.1 ∧ ∀ k, 0 ≤ k → k < l.1 → ShM u k (l.2.1 k) ∧ mI u 9 k = l.2.2.1 k ∧ mI u 10 k = l.2.2.2 k
def rmL : WR := [(0, some 8), (9, none), (10, none)]
def RMb (u : Mu) (s : SB) : Prop := (∀ k, 0 ≤ k → k < 6 → mI u 11 k = s.1 k) ∧ mI u 0 12 = s.2.1 ∧ mI u 0 13 = s.2.2.1 ∧ mI u 0 25 = s.2.2.2.1 ∧ mI u 0 14 = s.2.2.2.2.1 ∧ mI u 0 6 = s.2.2.2.2.2.1 ∧ mI u 0 7 = s.2.2.2.2.2.2
def rmB : WR := [(11, none), (0, some 12), (0, some 13), (0, some 25), (0, some 14), (0, some 6), (0, some 7)]
def RMk (u : Mu) (s : SK) : Prop := ShM u 40 s.1 ∧ (mI u 0 16 = s.2.1 ∧ mI u 0 17 = s.2.2.2.1 ∧ 0 ≤ mI u 0 15 ∧ mI u 0 15 < 40) ∧ (∀ k, 0 ≤ k → k < s.2.1 → ShM u (41 + (mI u 0 15 + k) % 40) (s.2.2.1 k)) ∧ ∀ k, 0 ≤ k → k < s.2.2.2.1 → ShM u (81 + k) (s.2.2.2.2 k)
def rmK : WR := [(0, some 15), (0, some 16), (0, some 17)]
def CfM (u : Mu) (k : Int) (f : Cf) : Prop := mI u 91 k = f.1.1 ∧ mI u 92 k = f.1.2.1 ∧ mI u 93 k = f.1.2.2.1 ∧ mI u 96 k = f.1.2.2.2 ∧ (f.1.1 = 3 → ContM u (mI u 94 k) f.2.1 ∧ ContM u (mI u 95 k) f.2.2.1) ∧ mI u 97 k = f.2.2.2
def RMq (u : Mu) (s : SQ) : Prop := (mI u 0 98 = s.1 ∧ ∀ k, 0 ≤ k → k < s.1 → CfM u k (s.2.1 k)) ∧ mI u 0 104 = s.2.2.1 ∧ ∀ k, 0 ≤ k → k < s.2.2.1 → mI u 101 k = (s.2.2.2 k).1 ∧ mI u 102 k = (s.2.2.2 k).2.1 ∧ mI u 103 k = (s.2.2.2 k).2.2
def rmQ : WR := [(0, some 98), (91, none), (92, none), (93, none), (94, none), (95, none), (96, none), (97, none), (0, some 104), (101, none), (102, none), (103, none)]
section FrMs
variable {L : WR} {u v : Mu}
theorem RMt_fr (f : FrM L u v) (hd : wDis L rmT = true) {t : ST} (h : RMt u t) : RMt v t := by
  unfold RMt
  rw [mE f hd (k := 0) (i := 40) (wHas_i (by decide)), mE f hd (k := 0) (i := 41) (wHas_i (by decide)), mE f hd (k := 0) (i := 42) (wHas_i (by decide))]
  exact ⟨h.1, fun i a b => (mE f hd (wHas_a (by decide))).trans (h.2.1 i a b), h.2.2⟩
theorem RMl_fr (f : FrM L u v) (hd : wDis L rmL = true) {l : SL2} (hb : ∀ k, 0 ≤ k → k < l.1 → ShB (l.2.1 k)) (g : Grw u v) (e : ∀ k, 0 ≤ k → k < l.1 → SlM u v k k) (h : RMl u l) : RMl v l := by
  unfold RMl
  rw [mE f hd (k := 0) (i := 8) (wHas_i (by decide))]
  refine ⟨h.1, fun k a b => ?_⟩
  obtain ⟨h1, h2, h3⟩ := h.2 k a b
  exact ⟨ShM_s (hb k a b) g (e k a b) h1, (mE f hd (wHas_a (by decide))).trans h2, (mE f hd (wHas_a (by decide))).trans h3⟩
theorem RMb_fr (f : FrM L u v) (hd : wDis L rmB = true) {s : SB} (h : RMb u s) : RMb v s := by
  unfold RMb
  rw [mE f hd (k := 0) (i := 12) (wHas_i (by decide)), mE f hd (k := 0) (i := 13) (wHas_i (by decide)), mE f hd (k := 0) (i := 25) (wHas_i (by decide)), mE f hd (k := 0) (i := 14) (wHas_i (by decide)), mE f hd (k := 0) (i := 6) (wHas_i (by decide)), mE f hd (k := 0) (i := 7) (wHas_i (by decide))]
  exact ⟨fun k a b => (mE f hd (wHas_a (by decide))).trans (h.1 k a b), h.2⟩
theorem RMk_fr (f : FrM L u v) (hd : wDis L rmK = true) (hs : wDis L wSl = true) {s : SK} (hb : ShB s.1) (hb1 : ∀ k, 0 ≤ k → k < s.2.1 → ShB (s.2.2.1 k)) (hb2 : ∀ k, 0 ≤ k → k < s.2.2.2.1 → ShB (s.2.2.2.2 k)) (g : Grw u v) (h : RMk u s) : RMk v s := by
  unfold RMk
  rw [mE f hd (k := 0) (i := 16) (wHas_i (by decide)), mE f hd (k := 0) (i := 17) (wHas_i (by decide)), mE f hd (k := 0) (i := 15) (wHas_i (by decide))]
  exact ⟨ShM_s hb g (SlM_fr f hs) h.1, h.2.1, fun k a b => ShM_s (hb1 k a b) g (SlM_fr f hs) (h.2.2.1 k a b), fun k a b => ShM_s (hb2 k a b) g (SlM_fr f hs) (h.2.2.2 k a b)⟩
theorem RMq_fr (f : FrM L u v) (hd : wDis L rmQ = true) {s : SQ} (g : Grw u v) (h : RMq u s) : RMq v s := by
  unfold RMq
  rw [mE f hd (k := 0) (i := 98) (wHas_i (by decide)), mE f hd (k := 0) (i := 104) (wHas_i (by decide))]
  refine ⟨⟨h.1.1, fun k a b => ?_⟩, h.2.1, fun k a b => ?_⟩
  · obtain ⟨h1, h2, h3, h4, h5, h6⟩ := h.1.2 k a b
    unfold CfM
    rw [mE f hd (k := 91) (wHas_a (by decide)), mE f hd (k := 92) (wHas_a (by decide)), mE f hd (k := 93) (wHas_a (by decide)), mE f hd (k := 94) (wHas_a (by decide)), mE f hd (k := 95) (wHas_a (by decide)), mE f hd (k := 96) (wHas_a (by decide)), mE f hd (k := 97) (wHas_a (by decide))]
    exact ⟨h1, h2, h3, h4, fun w => ⟨ContM_g g (h5 w).1, ContM_g g (h5 w).2⟩, h6⟩
  · rw [mE f hd (k := 101) (wHas_a (by decide)), mE f hd (k := 102) (wHas_a (by decide)), mE f hd (k := 103) (wHas_a (by decide))]; exact h.2.2 k a b
end FrMs
