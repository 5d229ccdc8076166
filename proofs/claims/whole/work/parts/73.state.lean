/-! ===== what both sides stand for ===== -/
/-- a literal: kind, number, bytes -/
abbrev Lit : Type := Int × Int × List Int
/-- a part: op, args, literal, its two corners (row, column, row, column; from 1 on), its $, its version; as the system has it -/
abbrev Prt : Type := Int × Int × Option Lit × (Int × Int × Int × Int) × Int × Int
/-- a content: kind, literal, parts -/
abbrev Cont : Type := Option (Int × Lit × List Prt)
/-- a sheet: how many rows and columns, which (from 0 on), the cells by their places from 0 on -/
abbrev Sh : Type := (Int × Int) × (Int → Int) × (Int → Int) × (Int → Int → Cont)
/-- a conflict: kind, row, column (-1: none), whether ours has it, both contents, settled -/
abbrev Cf : Type := (Int × Int × Int × Int) × Cont × Cont × Int
/-- the tape (how many bytes, which: 0 to 255), the latest fault's kind and place -/
abbrev ST : Type := Int × (Int → Int) × Int × Int
/-- the versions: how many, their sheets, parents, other parents -/
abbrev SL2 : Type := Int × (Int → Sh) × (Int → Int) × (Int → Int)
/-- branches, the one gone to, merging, parts made, joins, the next row, the next column -/
abbrev SB : Type := (Int → Int) × Int × Int × Int × Int × Int × Int
/-- the working sheet; steps to undo (how many, which, the oldest first), to redo -/
abbrev SK : Type := Sh × Int × (Int → Sh) × Int × (Int → Sh)
/-- conflicts, differences -/
abbrev SQ : Type := Int × (Int → Cf) × Int × (Int → Int × Int × Int)
abbrev SS : Type := ST × SL2 × SB × SK × SQ
/-! ===== the system's side ===== -/
def ckz : List (Nat × Int) := [(12, 0), (6, 0), (11, 0), (3, 0), (10, 0), (4, 0), (8, 0), (9, 0), (22, 320), (15, 6), (15, 1218), (14, 400), (20, 400), (20, 0), (14, 2400), (15, 60), (9, 0), (14, 24), (21, 40), (15, 40), (15, 40), (16, 40), (22, 60), (9, 0), (14, 0), (16, 1600), (16, 1600), (16, 5), (15, 320), (15, 320), (18, 362), (15, 64), (21, 40), (21, 40), (14, 0)]
def crz : List (Nat × Int × Nat) := [(0, 0, 1), (0, 1, 2), (0, 2, 3), (0, 3, 4), (0, 4, 5), (0, 5, 6), (0, 6, 7), (0, 7, 8), (0, 8, 9), (0, 9, 10), (1, 0, 11), (1, 1, 12), (1, 2, 13), (2, 0, 14), (2, 1, 15), (2, 2, 16), (16, 0, 17), (3, 0, 18), (3, 1, 19), (3, 2, 20), (3, 3, 21), (4, 0, 18), (4, 1, 22), (4, 2, 23), (23, 0, 24), (4, 3, 25), (4, 4, 26), (4, 5, 27), (4, 6, 28), (4, 7, 29), (5, 0, 30), (5, 1, 31), (6, 0, 32), (6, 1, 33), (7, 0, 34)]
/-- the cells that an object has from its making on, and which of them know which -/
def CWz (z : Z) (b : Nat → Nat) : Prop := (∀ k, k < 35 → zK z (b k) = (ckz.getD k (0, 0)).1 ∧ zN z (b k) = (ckz.getD k (0, 0)).2) ∧ (∀ i j, i < 35 → j < 35 → b i = b j → i = j) ∧ ∀ t ∈ crz, zO z (b t.1) t.2.1 = some (b t.2.2)
theorem cK {z : Z} {b : Nat → Nat} (h : CWz z b) (k : Nat) {c : Nat} (hk : Nat.ble 35 k = false) (e : (ckz.getD k (0, 0)).1 = c) : zK z (b k) = c := by rw [← e]; exact (h.1 k (Nat.lt_of_not_le (fun w => by rw [Nat.ble_eq_true_of_le w] at hk; cases hk))).1
theorem cN {z : Z} {b : Nat → Nat} (h : CWz z b) (k : Nat) {c : Int} (hk : Nat.ble 35 k = false) (e : (ckz.getD k (0, 0)).2 = c) : zN z (b k) = c := by rw [← e]; exact (h.1 k (Nat.lt_of_not_le (fun w => by rw [Nat.ble_eq_true_of_le w] at hk; cases hk))).2
theorem cO {z : Z} {b : Nat → Nat} (h : CWz z b) (k : Nat) (j : Int) (k2 : Nat) (hm : (k, j, k2) ∈ crz) : zO z (b k) j = some (b k2) := h.2.2 _ hm
theorem cNe {z : Z} {b : Nat → Nat} (h : CWz z b) {i j : Nat} (hi : Nat.ble 35 i = false) (hj : Nat.ble 35 j = false) (hij : (i == j) = false) : b i ≠ b j := fun e => by
  have q := h.2.1 i j (Nat.lt_of_not_le (fun w => by rw [Nat.ble_eq_true_of_le w] at hi; cases hi)) (Nat.lt_of_not_le (fun w => by rw [Nat.ble_eq_true_of_le w] at hj; cases hj)) e
  rw [q] at hij
  simp at hij
def LitC (z : Z) (I : Nat → Prop) (a : Nat) (l : Lit) : Prop := I a ∧ zK z a = 9 ∧ zI z a 1 = l.1 ∧ ∃ ba, zO z a 0 = some ba ∧ I ba ∧ zK z ba = 14 ∧ (if l.1 = 2 then zG z a 2 = (l.2.2.length : Int) ∧ (l.2.2.length : Int) ≤ zN z ba ∧ l.2.1 = 0 ∧ ∀ i : Nat, i < l.2.2.length → zI z ba i = l.2.2.getD i 0 else zG z a 2 = l.2.1 ∧ l.2.2 = [])
def PrtC (z : Z) (I : Nat → Prop) (a : Nat) (p : Prt) : Prop := I a ∧ zK z a = 5 ∧ zI z a 0 = p.1 ∧ zI z a 1 = p.2.1 ∧ (match p.2.2.1 with
  | none => zO z a 2 = none
  | some l => ∃ v, zO z a 2 = some v ∧ LitC z I v l) ∧ zI z a 3 = p.2.2.2.1.1 ∧ zI z a 4 = p.2.2.2.1.2.1 ∧ zI z a 5 = p.2.2.2.1.2.2.1 ∧ zI z a 6 = p.2.2.2.1.2.2.2 ∧ zI z a 7 = p.2.2.2.2.1 ∧ zI z a 8 = p.2.2.2.2.2
def ContC (z : Z) (I : Nat → Prop) (r : Option Nat) (c : Cont) : Prop := match c with
  | none => r = none
  | some (k, l, ps) => ∃ a pa, r = some a ∧ I a ∧ zK z a = 2 ∧ zI z a 0 = k ∧ zO z a 2 = some pa ∧ (ps.length ≠ 0 → I pa) ∧ zK z pa = 20 ∧ zN z pa = (ps.length : Int) ∧ (∀ i : Nat, i < ps.length → ∃ q, zO z pa i = some q ∧ PrtC z I q (ps.getD i (0, 0, none, (0, 0, 0, 0), 0, 0))) ∧ (if k = 5 then zO z a 1 = none ∧ l = (0, 0, []) else ∃ v, zO z a 1 = some v ∧ LitC z I v l)
/-- the Sheet at a is that sheet -/
def ShC (z : Z) (I : Nat → Prop) (a : Nat) (s : Sh) : Prop := ∃ ra ca xa, Shp z a ra ca xa s.1.1 s.1.2 ∧ I ra ∧ I ca ∧ I xa ∧ (∀ k, 0 ≤ k → k < s.1.1 → zI z ra k = s.2.1 k + 1) ∧ (∀ k, 0 ≤ k → k < s.1.2 → zI z ca k = s.2.2.1 k + 1) ∧ ∀ r c, 0 ≤ r → r < s.1.1 → 0 ≤ c → c < s.1.2 → ContC z I (zO z xa (r * s.1.2 + c)) (s.2.2.2 r c)
def ShO (z : Z) (I : Nat → Prop) (r : Option Nat) (s : Sh) : Prop := ∃ a, r = some a ∧ ShC z I a s
/-- a set of cells that never change again: they are there, none of them is one that an object has from its making on, no Sheet, no Conflict -/
def Frz (z : Z) (b : Nat → Nat) (I : Nat → Prop) : Prop := ∀ a, I a → zK z a ≠ 0 ∧ zK z a ≠ 7 ∧ zK z a ≠ 1 ∧ ∀ k, k < 35 → a ≠ b k
/-- a write at W leaves what never changes -/
def Mild (z : Z) (I : Nat → Prop) (W : Nat → Int → Prop) : Prop := (∀ a i, I a → ¬ W a i) ∧ (∀ a i, zK z a = 7 → W a i → i = 3) ∧ ∀ a i, zK z a = 1 → W a i → i = 6
theorem LitC_fr {W : Nat → Int → Prop} {z y : Z} {I : Nat → Prop} {a : Nat} {l : Lit} (f : FrZ W z y) (w : ∀ a i, I a → ¬ W a i) (h : LitC z I a l) : LitC y I a l := by
  obtain ⟨h1, h2, h3, ba, h4, h5, h6, h7⟩ := h
  have ka : zK z a ≠ 0 := by rw [h2]; decide
  have kb : zK z ba ≠ 0 := by rw [h6]; decide
  refine ⟨h1, (f.1 a ka).1.trans h2, (f.2 a 1 ka (w a 1 h1)).1.trans h3, ba, (f.2 a 0 ka (w a 0 h1)).2.2.trans h4, h5, (f.1 ba kb).1.trans h6, ?_⟩
  split at h7
  · next c =>
    rw [if_pos c]
    obtain ⟨g1, g2, g3, g4⟩ := h7
    exact ⟨(f.2 a 2 ka (w a 2 h1)).2.1.trans g1, by rw [(f.1 ba kb).2]; exact g2, g3, fun i hi => (f.2 ba i kb (w ba i h5)).1.trans (g4 i hi)⟩
  · next c =>
    rw [if_neg c]
    exact ⟨(f.2 a 2 ka (w a 2 h1)).2.1.trans h7.1, h7.2⟩
theorem PrtC_fr {W : Nat → Int → Prop} {z y : Z} {I : Nat → Prop} {a : Nat} {p : Prt} (f : FrZ W z y) (w : ∀ a i, I a → ¬ W a i) (h : PrtC z I a p) : PrtC y I a p := by
  obtain ⟨h1, h2, h3, h4, h5, h6⟩ := h
  have ka : zK z a ≠ 0 := by rw [h2]; decide
  have e : ∀ i, zI y a i = zI z a i := fun i => (f.2 a i ka (w a i h1)).1
  have eo : zO y a 2 = zO z a 2 := (f.2 a 2 ka (w a 2 h1)).2.2
  refine ⟨h1, (f.1 a ka).1.trans h2, (e 0).trans h3, (e 1).trans h4, ?_, (e 3).trans h6.1, (e 4).trans h6.2.1, (e 5).trans h6.2.2.1, (e 6).trans h6.2.2.2.1, (e 7).trans h6.2.2.2.2.1, (e 8).trans h6.2.2.2.2.2⟩
  revert h5
  cases p.2.2.1 with
  | none => exact fun h5 => eo.trans h5
  | some l => rintro ⟨v, g1, g2⟩; exact ⟨v, eo.trans g1, LitC_fr f w g2⟩
theorem ContC_fr {W : Nat → Int → Prop} {z y : Z} {I : Nat → Prop} {r : Option Nat} {c : Cont} (f : FrZ W z y) (w : ∀ a i, I a → ¬ W a i) (h : ContC z I r c) : ContC y I r c := by
  match c, h with
  | none, h => exact h
  | some (k, l, ps), h =>
    obtain ⟨a, pa, h1, h2, h3, h4, h5, h6, h7, h8, h9, h10⟩ := h
    have ka : zK z a ≠ 0 := by rw [h3]; decide
    have kp : zK z pa ≠ 0 := by rw [h7]; decide
    refine ⟨a, pa, h1, h2, (f.1 a ka).1.trans h3, (f.2 a 0 ka (w a 0 h2)).1.trans h4, (f.2 a 2 ka (w a 2 h2)).2.2.trans h5, h6, (f.1 pa kp).1.trans h7, (f.1 pa kp).2.trans h8, fun i hi => ?_, ?_⟩
    · obtain ⟨q, g1, g2⟩ := h9 i hi
      exact ⟨q, (f.2 pa i kp (w pa i (h6 (by omega)))).2.2.trans g1, PrtC_fr f w g2⟩
    · split at h10
      · next c => rw [if_pos c]; exact ⟨(f.2 a 1 ka (w a 1 h2)).2.2.trans h10.1, h10.2⟩
      · next c =>
        rw [if_neg c]
        obtain ⟨v, g1, g2⟩ := h10
        exact ⟨v, (f.2 a 1 ka (w a 1 h2)).2.2.trans g1, LitC_fr f w g2⟩
theorem ContC_k {z : Z} {I : Nat → Prop} {r : Option Nat} {c : Cont} (h : ContC z I r c) : ∀ v, r = some v → zK z v = 2 ∧ I v := by
  intro v hv
  match c, h with
  | none, h => rw [hv] at h; cases h
  | some (k, l, ps), h =>
    obtain ⟨a, pa, h1, h2, h3, -⟩ := h
    rw [hv] at h1; cases h1; exact ⟨h3, h2⟩
theorem ShC_fr {W : Nat → Int → Prop} {z y : Z} {I : Nat → Prop} {a : Nat} {s : Sh} (f : FrZ W z y) (w : ∀ a i, I a → ¬ W a i) (w7 : ∀ a i, zK z a = 7 → W a i → i = 3) (h : ShC z I a s) : ShC y I a s := by
  obtain ⟨ra, ca, xa, S, h1, h2, h3, h4, h5, h6⟩ := h
  obtain ⟨s1, s2, s3, s4, s5, s6, s7, -⟩ := id S
  have kr : zK z ra ≠ 0 := by rw [s5]; decide
  have kc : zK z ca ≠ 0 := by rw [s6]; decide
  have kx : zK z xa ≠ 0 := by rw [s7]; decide
  have n3 : ∀ i : Int, i ≠ 3 → ¬ W a i := fun i hi hw => hi (w7 a i s1 hw)
  refine ⟨ra, ca, xa, Shp_fr S f (n3 0 (by decide)) (n3 1 (by decide)) (n3 2 (by decide)), h1, h2, h3, fun k k0 k1 => (f.2 ra k kr (w ra k h1)).1.trans (h4 k k0 k1), fun k k0 k1 => (f.2 ca k kc (w ca k h2)).1.trans (h5 k k0 k1), fun r c r0 r1 c0 c1 => ?_⟩
  rw [(f.2 xa _ kx (w xa _ h3)).2.2]
  exact ContC_fr f w (h6 r c r0 r1 c0 c1)
theorem ShO_fr {W : Nat → Int → Prop} {z y : Z} {I : Nat → Prop} {r : Option Nat} {s : Sh} (f : FrZ W z y) (w : ∀ a i, I a → ¬ W a i) (w7 : ∀ a i, zK z a = 7 → W a i → i = 3) (h : ShO z I r s) : ShO y I r s := by
  obtain ⟨a, h1, h2⟩ := h; exact ⟨a, h1, ShC_fr f w w7 h2⟩
