/-! ===== what leads to what ===== -/
def rch (R : Int → Int → Prop) (a b : Int) : Prop := ∀ T : Int → Int → Prop, (∀ x y, R x y → T x y) → (∀ x y w, T x y → T y w → T x w) → T a b
theorem rch_1 {R : Int → Int → Prop} {a b : Int} (h : R a b) : rch R a b := fun _ h1 _ => h1 a b h
theorem rch_t {R : Int → Int → Prop} {a b c : Int} (h : rch R a b) (h2 : rch R b c) : rch R a c := fun T h1 h3 => h3 a b c (h T h1 h3) (h2 T h1 h3)
/-- how many of the first n are such -/
noncomputable def cnQ (p : Int → Prop) : Nat → Nat
  | 0 => 0
  | n + 1 => cnQ p n + (cb (p n)).toNat
theorem cnQ_le {p q : Int → Prop} : ∀ n : Nat, (∀ x : Nat, x < n → p x → q x) → cnQ p n ≤ cnQ q n
  | 0, _ => Nat.le_refl _
  | n + 1, h => by
    have ih := cnQ_le n (fun x hx => h x (by omega))
    rw [cnQ, cnQ]
    by_cases c : p n
    · rw [cb_1 c, cb_1 (h n (by omega) c)]; omega
    · rw [cb_0 c]; omega
theorem cnQ_lt {p q : Int → Prop} {k : Nat} (hk : ¬ p k) (hq : q k) : ∀ n : Nat, k < n → (∀ x : Nat, x < n → p x → q x) → cnQ p n < cnQ q n
  | 0, hn, _ => absurd hn (Nat.not_lt_zero _)
  | n + 1, hn, h => by
    rw [cnQ, cnQ]
    by_cases c : k = n
    · subst c
      have := cnQ_le k (p := p) (q := q) (fun x hx => h x (by omega))
      rw [cb_0 hk, cb_1 hq]
      show cnQ p k + 0 < cnQ q k + 1
      omega
    · have ih := cnQ_lt hk hq n (by omega) (fun x hx => h x (by omega))
      by_cases cn : p n
      · rw [cb_1 cn, cb_1 (h n (by omega) cn)]; omega
      · rw [cb_0 cn]; show cnQ p n + 0 < _; omega
noncomputable def msR (R : Int → Int → Prop) (k : Int) : Nat := cnQ (rch R k) 320
theorem msR_lt {R : Int → Int → Prop} {k j : Int} (h : R k j) (hj : ¬ rch R j j) (j0 : 0 ≤ j) (j1 : j < 320) : msR R j < msR R k := by
  refine cnQ_lt (k := j.toNat) ?_ ?_ 320 (by omega) (fun x _ hx => rch_t (rch_1 h) hx)
  · rw [Int.toNat_of_nonneg j0]; exact hj
  · rw [Int.toNat_of_nonneg j0]; exact rch_1 h
/-- the closure, up to those below b -/
def WsH (R : Int → Int → Prop) (D : Int → Prop) (B : Int → Int → Prop) (b : Int) : Prop := (∀ k j, R k j → (D k ∧ 0 ≤ j ∧ j < 320) ∧ B k j) ∧ (∀ k j, D k → 0 ≤ j → j < 320 → B k j → rch R k j) ∧ ∀ k i j, D k → D i → 0 ≤ i → i < b → i < 320 → 0 ≤ j → j < 320 → B k i → B i j → B k j
/-- the closure over b, for the rows below m -/
def WsI (D : Int → Prop) (B0 B : Int → Int → Prop) (b m : Int) : Prop := ∀ k j, D k → 0 ≤ j → j < 320 → (B k j ↔ (B0 k j ∨ (k < m ∧ B0 k b ∧ B0 b j)))
theorem WsI_0 {D : Int → Prop} {B0 : Int → Int → Prop} {b m : Int} (h : ∀ k, D k → ¬ k < m) : WsI D B0 B0 b m := fun k j hk _ _ => ⟨fun h => Or.inl h, fun w => w.elim id (fun z => absurd z.1 (h k hk))⟩
theorem WsI_s {D : Int → Prop} {B0 B B' : Int → Int → Prop} {b m : Int} (hb : D b) (b0 : 0 ≤ b) (b1 : b < 320) (h : WsI D B0 B b m) (hy : D m → B m b → ∀ k j, D k → 0 ≤ j → j < 320 → (B' k j ↔ (B k j ∨ (k = m ∧ B b j)))) (hn : ¬ (D m ∧ B m b) → ∀ k j, D k → 0 ≤ j → j < 320 → (B' k j ↔ B k j)) : WsI D B0 B' b (m + 1) := by
  have hrow : ∀ j, 0 ≤ j → j < 320 → (B b j ↔ B0 b j) := fun j j0 j1 => by
    rw [h b j hb j0 j1]
    exact ⟨fun w => w.elim id (fun z => z.2.2), fun w => Or.inl w⟩
  have hcol : ∀ k, D k → k = m → (B k b ↔ B0 k b) := fun k hk e => by
    rw [h k b hk b0 b1]
    exact ⟨fun w => w.elim id (fun z => absurd z.1 (by omega)), fun w => Or.inl w⟩
  intro k j hk j0 j1
  by_cases c : D m ∧ B m b
  · rw [hy c.1 c.2 k j hk j0 j1, h k j hk j0 j1]
    constructor
    · rintro ((w | w) | w)
      · exact Or.inl w
      · exact Or.inr ⟨by omega, w.2⟩
      · refine Or.inr ⟨by omega, ?_, (hrow j j0 j1).mp w.2⟩
        have := (hcol m c.1 rfl).mp c.2
        rw [w.1]; exact this
    · rintro (w | w)
      · exact Or.inl (Or.inl w)
      · by_cases e : k = m
        · exact Or.inr ⟨e, (hrow j j0 j1).mpr w.2.2⟩
        · exact Or.inl (Or.inr ⟨by omega, w.2⟩)
  · rw [hn c k j hk j0 j1, h k j hk j0 j1]
    constructor
    · rintro (w | w)
      · exact Or.inl w
      · exact Or.inr ⟨by omega, w.2⟩
    · rintro (w | w)
      · exact Or.inl w
      · by_cases e : k = m
        · exact absurd ⟨by rw [← e]; exact hk, (hcol m (by rw [← e]; exact hk) rfl).mpr (by rw [← e]; exact w.2.1)⟩ c
        · exact Or.inr ⟨by omega, w.2⟩
theorem WsH_s {R : Int → Int → Prop} {D : Int → Prop} {B0 B : Int → Int → Prop} {b m : Int} (hb : D b) (b0 : 0 ≤ b) (b1 : b < 320) (hD : ∀ k, D k → k < m) (h : WsH R D B0 b) (hi : WsI D B0 B b m) : WsH R D B (b + 1) := by
  obtain ⟨h1, h2, h3⟩ := h
  refine ⟨fun k j hr => ?_, fun k j hk j0 j1 hB => ?_, fun k i j hk hD2 i0 i1 i2 j0 j1 hB1 hB2 => ?_⟩
  · obtain ⟨q1, q2⟩ := h1 k j hr
    exact ⟨q1, (hi k j q1.1 q1.2.1 q1.2.2).mpr (Or.inl q2)⟩
  · rcases (hi k j hk j0 j1).mp hB with w | ⟨-, w1, w2⟩
    · exact h2 k j hk j0 j1 w
    · exact rch_t (h2 k b hk b0 b1 w1) (h2 b j hb j0 j1 w2)
  · have fin : B0 k b → B0 b j → B k j := fun w1 w2 => (hi k j hk j0 j1).mpr (Or.inr ⟨hD k hk, w1, w2⟩)
    have a1 := (hi k i hk i0 i2).mp hB1
    have a2 := (hi i j hD2 j0 j1).mp hB2
    by_cases c : i = b
    · subst c
      refine fin ?_ ?_
      · rcases a1 with w | w
        · exact w
        · exact w.2.1
      · rcases a2 with w | w
        · exact w
        · exact w.2.2
    · have ib : i < b := by omega
      rcases a1 with w | ⟨-, w1, w2⟩
      · rcases a2 with v | ⟨-, v1, v2⟩
        · exact (hi k j hk j0 j1).mpr (Or.inl (h3 k i j hk hD2 i0 ib i2 j0 j1 w v))
        · exact fin (h3 k i b hk hD2 i0 ib i2 b0 b1 w v1) v2
      · rcases a2 with v | ⟨-, v1, v2⟩
        · exact fin w1 (h3 b i j hb hD2 i0 ib i2 j0 j1 w2 v)
        · exact fin w1 v2
theorem WsH_n {R : Int → Int → Prop} {D : Int → Prop} {B0 : Int → Int → Prop} {b : Int} (hb : ¬ D b) (h : WsH R D B0 b) : WsH R D B0 (b + 1) := by
  obtain ⟨h1, h2, h3⟩ := h
  exact ⟨h1, h2, fun k i j hk hD2 i0 i1 i2 => h3 k i j hk hD2 i0 (by by_cases c : i = b; exact absurd hD2 (by rw [c]; exact hb); omega) i2⟩
theorem WsH_0 {R : Int → Int → Prop} {D : Int → Prop} {B0 : Int → Int → Prop} (h : ∀ k j, R k j → (D k ∧ 0 ≤ j ∧ j < 320)) (hB : ∀ k j, D k → 0 ≤ j → j < 320 → (B0 k j ↔ R k j)) : WsH R D B0 0 := ⟨fun k j hr => ⟨h k j hr, (hB k j (h k j hr).1 (h k j hr).2.1 (h k j hr).2.2).mpr hr⟩, fun k j hk j0 j1 w => rch_1 ((hB k j hk j0 j1).mp w), fun k i j _ _ i0 i1 => by omega⟩
theorem WsH_e {R : Int → Int → Prop} {D : Int → Prop} {B : Int → Int → Prop} {b : Int} (hD : ∀ k, D k → 0 ≤ k ∧ k < b ∧ k < 320) (h : WsH R D B b) {k j : Int} (hk : D k) (j0 : 0 ≤ j) (j1 : j < 320) : B k j ↔ rch R k j := by
  obtain ⟨h1, h2, h3⟩ := h
  refine ⟨h2 k j hk j0 j1, fun hr => ?_⟩
  have := hr (fun x y => (D x ∧ 0 ≤ y ∧ y < 320) ∧ B x y) h1 (fun x y w a1 a2 => ⟨⟨a1.1.1, a2.1.2⟩, h3 x y w a1.1.1 a2.1.1 (hD y a2.1.1).1 (hD y a2.1.1).2.1 (hD y a2.1.1).2.2 a2.1.2.1 a2.1.2.2 a1.2 a2.2⟩)
  exact this.2
/-! ===== a sheet's values ===== -/
def ctC (h : Sh) (k : Int) : Cont := h.2.2.2 (k / 10) (k % 10)
def inS (h : Sh) (k : Int) : Prop := (0 ≤ k ∧ k < 320) ∧ k / 10 < h.1.1 ∧ k % 10 < h.1.2
/-- the cells of the sheet itself that a formula leads to -/
def LdP (h : Sh) (ps : List Prt) (j : Int) : Prop := ∃ i : Nat, i < ps.length ∧ (ps.getD i pd0).2.2.2.2.2 = -1 ∧ (((ps.getD i pd0).1 = 16 ∧ ¬ alnP ps i ∧ ∃ r c, spP h (ps.getD i pd0) = some (r, c) ∧ j = 10 * r + c) ∨ ((ps.getD i pd0).1 = 17 ∧ ∃ t b l r, arP h (ps.getD i pd0) = some (t, b, l, r) ∧ ∃ x y, (t ≤ x ∧ x ≤ b) ∧ (l ≤ y ∧ y ≤ r) ∧ j = 10 * x + y))
def Ld (h : Sh) (k j : Int) : Prop := inS h k ∧ ∃ l ps, ctC h k = some (5, l, ps) ∧ LdP h ps j
theorem LdP_in {h : Sh} (hb : ShB h) {ps : List Prt} {j : Int} (w : LdP h ps j) : inS h j := by
  obtain ⟨i, -, -, w⟩ := w
  rcases w with ⟨-, -, r, c, e, rfl⟩ | ⟨-, t, b, l, r, e, x, y, hx, hy, rfl⟩
  · have := spP_b hb e
    refine ⟨⟨by omega, by omega⟩, by omega, by omega⟩
  · have := arP_b hb e
    refine ⟨⟨by omega, by omega⟩, by omega, by omega⟩
theorem Ld_in {h : Sh} (hb : ShB h) {k j : Int} (w : Ld h k j) : inS h k ∧ inS h j := by
  obtain ⟨h1, l, ps, -, h2⟩ := w
  exact ⟨h1, LdP_in hb h2⟩
def finL (l : Lit) : Lit := if l.1 = 0 then (1, 0, []) else l
def eS (F : Int → Sh) (h : Sh) (v : Int) : Sh := if v < 0 then h else F v
def vS (G : Int → Int → Int → Lit) (f : Int → Int → Lit) (v : Int) : Int → Int → Lit := if v < 0 then f else G v
/-- the value that cell k should have, where f are the values of the sheet -/
noncomputable def vlC (F : Int → Sh) (G : Int → Int → Int → Lit) (h : Sh) (f : Int → Int → Lit) (k : Int) : Lit := match ctC h k with
  | none => (0, 0, [])
  | some (kd, l, ps) => if kd = 5 then ci (rch (Ld h) k k) (erL 6) (finL (EvA (eS F h) (vS G f) ps (ps.length - 1))) else l
def Sol (F : Int → Sh) (G : Int → Int → Int → Lit) (h : Sh) (f : Int → Int → Lit) : Prop := ∀ k, inS h k → f (k / 10) (k % 10) = vlC F G h f k
/-- a formula's value needs the values only where it looks -/
theorem EvA_c {E : Int → Sh} {V V' : Int → Int → Int → Lit} {ps : List Prt} (h1 : ∀ j : Nat, j < ps.length → (ps.getD j pd0).1 = 16 → ¬ alnP ps j → ∀ r c, spP (E (ps.getD j pd0).2.2.2.2.2) (ps.getD j pd0) = some (r, c) → V (ps.getD j pd0).2.2.2.2.2 r c = V' (ps.getD j pd0).2.2.2.2.2 r c) (h2 : ∀ j : Nat, j < ps.length → (ps.getD j pd0).1 = 17 → ∀ t b l r, arP (E (ps.getD j pd0).2.2.2.2.2) (ps.getD j pd0) = some (t, b, l, r) → (t ≤ b ∧ l ≤ r) ∧ ∀ x y, t ≤ x → x ≤ b → l ≤ y → y ≤ r → V (ps.getD j pd0).2.2.2.2.2 x y = V' (ps.getD j pd0).2.2.2.2.2 x y) (i : Nat) : EvA E V ps i = EvA E V' ps i := by
  have ho : ∀ j : Nat, ((ps.getD j pd0).1 = 16 ∨ (ps.getD j pd0).1 = 17) → j < ps.length := fun j c => by
    by_cases hj : j < ps.length
    · exact hj
    · have := op_out hj; omega
  have e1 : svE E V ps = svE E V' ps := by
    funext j
    unfold svE
    by_cases c : (ps.getD j pd0).1 = 16 ∧ ¬ ((ps.getD (j + 1) pd0).1 = 29 ∨ (ps.getD (j + 1) pd0).1 = 30)
    · rw [if_pos c, if_pos c]
      cases e : spP (E (ps.getD j pd0).2.2.2.2.2) (ps.getD j pd0) with
      | none => rfl
      | some t =>
        show some _ = some _
        exact congrArg some (h1 j (ho j (Or.inl c.1)) c.1 c.2 t.1 t.2 e)
    · rw [if_neg c, if_neg c]
  have e2 : avE E V ps = avE E V' ps := by
    funext j
    unfold avE
    by_cases c : (ps.getD j pd0).1 = 17
    · rw [if_pos c, if_pos c]
      cases e : arP (E (ps.getD j pd0).2.2.2.2.2) (ps.getD j pd0) with
      | none => rfl
      | some t =>
        obtain ⟨t, b, l, r⟩ := t
        show some (arL _ _) = some (arL _ _)
        obtain ⟨q1, q2⟩ := h2 j (ho j (Or.inr c)) c t b l r e
        congr 1
        unfold arL
        refine List.map_congr_left (fun k hk => ?_)
        rw [List.mem_range] at hk
        have hk : k < ((b - t + 1) * (r - l + 1)).toNat := hk
        have ak := ar_k (t := t) (b := b) (l := l) (r := r) (k := (k : Int)) q1.1 q1.2 (by omega) (by omega)
        exact q2 _ _ ak.1.1 ak.1.2 ak.2.1 ak.2.2
    · rw [if_neg c, if_neg c]
  unfold EvA
  rw [e1, e2]
/-- formulas as they should be, looking only at versions below n -/
def WfZ (F : Int → Sh) (n : Int) (h : Sh) : Prop := ShB h ∧ (∀ v, 0 ≤ v → v < n → ShB (F v)) ∧ ∀ k, inS h k → ∀ l ps, ctC h k = some (5, l, ps) → WfV ps ∧ (1 ≤ ps.length ∧ ps.length ≤ 60) ∧ ∀ i : Nat, i < ps.length → (ps.getD i pd0).2.2.2.2.2 < n ∧ -1 ≤ (ps.getD i pd0).2.2.2.2.2
theorem Ev_c {F : Int → Sh} {n : Int} {h : Sh} {G G' : Int → Int → Int → Lit} {f f' : Int → Int → Lit} (Z : WfZ F n h) (hG : ∀ v, 0 ≤ v → v < n → ∀ r c, 0 ≤ r → r < (F v).1.1 → 0 ≤ c → c < (F v).1.2 → G v r c = G' v r c) {k : Int} (hk : inS h k) {l : Lit} {ps : List Prt} (e : ctC h k = some (5, l, ps)) (hf : ∀ j, LdP h ps j → f (j / 10) (j % 10) = f' (j / 10) (j % 10)) (i : Nat) : EvA (eS F h) (vS G f) ps i = EvA (eS F h) (vS G' f') ps i := by
  obtain ⟨z1, z2, z3⟩ := Z
  obtain ⟨w1, w2, w3⟩ := z3 k hk l ps e
  refine EvA_c (fun j hj c na r q es => ?_) (fun j hj c t b lf r ea => ?_) i
  · obtain ⟨v1, v2⟩ := w3 j hj
    by_cases cv : (ps.getD j pd0).2.2.2.2.2 < 0
    · unfold eS at es
      unfold vS
      rw [if_pos cv] at es
      rw [if_pos cv, if_pos cv]
      have sb := spP_b z1 es
      have := hf (10 * r + q) ⟨j, hj, by omega, Or.inl ⟨c, na, r, q, es, rfl⟩⟩
      rw [show (10 * r + q) / 10 = r by omega, show (10 * r + q) % 10 = q by omega] at this
      exact this
    · unfold eS at es
      unfold vS
      rw [if_neg cv] at es
      rw [if_neg cv, if_neg cv]
      have sb := spP_b (z2 _ (by omega) v1) es
      exact hG _ (by omega) v1 r q (by omega) (by omega) (by omega) (by omega)
  · obtain ⟨v1, v2⟩ := w3 j hj
    by_cases cv : (ps.getD j pd0).2.2.2.2.2 < 0
    · unfold eS at ea
      unfold vS
      rw [if_pos cv] at ea
      have ab := arP_b z1 ea
      refine ⟨⟨by omega, by omega⟩, fun x y x0 x1 y0 y1 => ?_⟩
      rw [if_pos cv, if_pos cv]
      have := hf (10 * x + y) ⟨j, hj, by omega, Or.inr ⟨c, t, b, lf, r, ea, x, y, ⟨x0, x1⟩, ⟨y0, y1⟩, rfl⟩⟩
      rw [show (10 * x + y) / 10 = x by omega, show (10 * x + y) % 10 = y by omega] at this
      exact this
    · unfold eS at ea
      unfold vS
      rw [if_neg cv] at ea
      have ab := arP_b (z2 _ (by omega) v1) ea
      refine ⟨⟨by omega, by omega⟩, fun x y x0 x1 y0 y1 => ?_⟩
      rw [if_neg cv, if_neg cv]
      exact hG _ (by omega) v1 x y (by omega) (by omega) (by omega) (by omega)
/-- there is but one solution -/
theorem Sol_u {F : Int → Sh} {n : Int} {h : Sh} {G G' : Int → Int → Int → Lit} {f f' : Int → Int → Lit} (Z : WfZ F n h) (hG : ∀ v, 0 ≤ v → v < n → ∀ r c, 0 ≤ r → r < (F v).1.1 → 0 ≤ c → c < (F v).1.2 → G v r c = G' v r c) (S1 : Sol F G h f) (S2 : Sol F G' h f') : ∀ k, inS h k → f (k / 10) (k % 10) = f' (k / 10) (k % 10) := by
  have key : ∀ (m : Nat) (k : Int), inS h k → msR (Ld h) k < m → f (k / 10) (k % 10) = f' (k / 10) (k % 10) := by
    intro m
    induction m with
    | zero => intro k _ hm; omega
    | succ m ih =>
      intro k hk hm
      rw [S1 k hk, S2 k hk]
      unfold vlC
      match e : ctC h k with
      | none => rfl
      | some (kd, l, ps) =>
        simp only
        by_cases c5 : kd = 5
        · rw [if_pos c5, if_pos c5]
          by_cases cc : rch (Ld h) k k
          · rw [ci_1 cc, ci_1 cc]
          · rw [ci_0 cc, ci_0 cc]
            rw [c5] at e
            congr 1
            refine Ev_c Z hG hk e (fun j hj => ?_) _
            have hin := LdP_in Z.1 hj
            by_cases cj : rch (Ld h) j j
            · rw [S1 j hin, S2 j hin]
              unfold vlC
              match e2 : ctC h j with
              | none => rfl
              | some (kd2, l2, ps2) =>
                simp only
                rw [ci_1 cj, ci_1 cj]
            · have := msR_lt (R := Ld h) (k := k) ⟨hk, l, ps, e, hj⟩ cj hin.1.1 hin.1.2
              exact ih j hin (by omega)
        · rw [if_neg c5, if_neg c5]
  exact fun k hk => key _ k hk (Nat.lt_succ_self _)
