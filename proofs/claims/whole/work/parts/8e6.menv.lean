/-! ===== what a formula looks at ===== -/
/-- where a SPOT is, where an AREA is (its first and last row, its first and last column) -/
def spP (s : Sh) (p : Prt) : Option (Int × Int) := if plS s 0 (p.2.2.2.1.1 - 1) < 0 ∨ plS s 1 (p.2.2.2.1.2.1 - 1) < 0 then none else some (plS s 0 (p.2.2.2.1.1 - 1), plS s 1 (p.2.2.2.1.2.1 - 1))
def mnI (a c : Int) : Int := if c ≤ a then c else a
def mxI (a c : Int) : Int := if a ≤ c then c else a
def arP (s : Sh) (p : Prt) : Option (Int × Int × Int × Int) := if plS s 0 (p.2.2.2.1.1 - 1) < 0 ∨ plS s 1 (p.2.2.2.1.2.1 - 1) < 0 ∨ plS s 0 (p.2.2.2.1.2.2.1 - 1) < 0 ∨ plS s 1 (p.2.2.2.1.2.2.2 - 1) < 0 then none else some (mnI (plS s 0 (p.2.2.2.1.1 - 1)) (plS s 0 (p.2.2.2.1.2.2.1 - 1)), mxI (plS s 0 (p.2.2.2.1.1 - 1)) (plS s 0 (p.2.2.2.1.2.2.1 - 1)), mnI (plS s 1 (p.2.2.2.1.2.1 - 1)) (plS s 1 (p.2.2.2.1.2.2.2 - 1)), mxI (plS s 1 (p.2.2.2.1.2.1 - 1)) (plS s 1 (p.2.2.2.1.2.2.2 - 1)))
/-- does ROW or COL take this part -/
def alnP (ps : List Prt) (j : Nat) : Prop := (ps.getD (j + 1) pd0).1 = 29 ∨ (ps.getD (j + 1) pd0).1 = 30
def arL (V : Int → Int → Lit) (t : Int × Int × Int × Int) : List Lit := (List.range ((t.2.1 - t.1 + 1) * (t.2.2.2 - t.2.2.1 + 1)).toNat).map (fun k : Nat => V (t.1 + (k : Int) / (t.2.2.2 - t.2.2.1 + 1)) (t.2.2.1 + (k : Int) % (t.2.2.2 - t.2.2.1 + 1)))
def svE (E : Int → Sh) (V : Int → Int → Int → Lit) (ps : List Prt) (j : Nat) : Option Lit := if (ps.getD j pd0).1 = 16 ∧ ¬ ((ps.getD (j + 1) pd0).1 = 29 ∨ (ps.getD (j + 1) pd0).1 = 30) then (spP (E (ps.getD j pd0).2.2.2.2.2) (ps.getD j pd0)).map (fun t => V (ps.getD j pd0).2.2.2.2.2 t.1 t.2) else none
def avE (E : Int → Sh) (V : Int → Int → Int → Lit) (ps : List Prt) (j : Nat) : Option (List Lit) := if (ps.getD j pd0).1 = 17 then (arP (E (ps.getD j pd0).2.2.2.2.2) (ps.getD j pd0)).map (fun t => arL (V (ps.getD j pd0).2.2.2.2.2) t) else none
def plE (E : Int → Sh) (ps : List Prt) (j : Nat) : Option (Int × Int) := if (ps.getD j pd0).1 = 16 then spP (E (ps.getD j pd0).2.2.2.2.2) (ps.getD j pd0) else none
/-- the value of part i -/
def EvA (E : Int → Sh) (V : Int → Int → Int → Lit) (ps : List Prt) (i : Nat) : Lit := evV (svE E V ps) (avE E V ps) (plE E ps) ps i
theorem spP_b {s : Sh} (hb : ShB s) {p : Prt} {r c : Int} (h : spP s p = some (r, c)) : (0 ≤ r ∧ r < s.1.1 ∧ r < 32) ∧ 0 ≤ c ∧ c < s.1.2 ∧ c < 10 := by
  unfold spP at h
  split at h
  · cases h
  · next n =>
    cases h
    have h1 := (plS_r (s := s) (id := p.2.2.2.1.1 - 1) (by omega)).1
    have h2 := (plS_c (s := s) (id := p.2.2.2.1.2.1 - 1) (by omega)).1
    obtain ⟨⟨b1, b2⟩, b3, b4⟩ := hb
    omega
theorem arP_b {s : Sh} (hb : ShB s) {p : Prt} {t b l r : Int} (h : arP s p = some (t, b, l, r)) : (0 ≤ t ∧ t ≤ b ∧ b < s.1.1 ∧ b < 32) ∧ 0 ≤ l ∧ l ≤ r ∧ r < s.1.2 ∧ r < 10 := by
  unfold arP at h
  split at h
  · cases h
  · next n =>
    cases h
    have h1 := (plS_r (s := s) (id := p.2.2.2.1.1 - 1) (by omega)).1
    have h2 := (plS_c (s := s) (id := p.2.2.2.1.2.1 - 1) (by omega)).1
    have h3 := (plS_r (s := s) (id := p.2.2.2.1.2.2.1 - 1) (by omega)).1
    have h4 := (plS_c (s := s) (id := p.2.2.2.1.2.2.2 - 1) (by omega)).1
    obtain ⟨⟨b1, b2⟩, b3, b4⟩ := hb
    unfold mnI mxI
    repeat' split
    all_goals omega
/-- place k of an area -/
theorem ar_k {t b l r k : Int} (h1 : t ≤ b) (h2 : l ≤ r) (k0 : 0 ≤ k) (k1 : k < (b - t + 1) * (r - l + 1)) : (t ≤ t + k / (r - l + 1) ∧ t + k / (r - l + 1) ≤ b) ∧ l ≤ l + k % (r - l + 1) ∧ l + k % (r - l + 1) ≤ r := by
  have hw : 0 < r - l + 1 := by omega
  have h3 : 0 ≤ k / (r - l + 1) := Int.ediv_nonneg k0 (by omega)
  have h4 : k / (r - l + 1) < b - t + 1 := Int.ediv_lt_of_lt_mul hw k1
  have h5 := Int.emod_nonneg k (b := r - l + 1) (by omega)
  have h6 := Int.emod_lt_of_pos k hw
  omega
theorem ar_s {t b l r : Int} (h1 : t ≤ b) (h2 : l ≤ r) (hb : b - t < 32) (hr : r - l < 10) : 1 ≤ (b - t + 1) * (r - l + 1) ∧ (b - t + 1) * (r - l + 1) ≤ 320 := by
  refine ⟨Int.mul_pos (by omega) (by omega), ?_⟩
  have h3 : (b - t + 1) * (r - l + 1) ≤ 32 * (r - l + 1) := Int.mul_le_mul_of_nonneg_right (by omega) (by omega)
  omega
theorem arL_len (V : Int → Int → Lit) {t b l r : Int} (h1 : t ≤ b) (h2 : l ≤ r) (hb : b - t < 32) (hr : r - l < 10) : ((arL V (t, b, l, r)).length : Int) = (b - t + 1) * (r - l + 1) := by
  unfold arL
  rw [List.length_map, List.length_range]
  have := ar_s h1 h2 hb hr
  show (((b - t + 1) * (r - l + 1)).toNat : Int) = _
  omega
theorem arL_at (V : Int → Int → Lit) {t b l r : Int} {k : Nat} {d : Lit} (hk : k < (arL V (t, b, l, r)).length) : (arL V (t, b, l, r)).getD k d = V (t + (k : Int) / (r - l + 1)) (l + (k : Int) % (r - l + 1)) := by
  unfold arL at hk ⊢
  rw [List.length_map, List.length_range] at hk
  rw [List.getD_eq_getElem?_getD, List.getElem?_map, List.getElem?_range hk]
  rfl
/-! ===== how the reference has it ===== -/
def slV (s v : Int) : Int := if 0 ≤ v then v else s
def CvM (u : Mu) (x : Int) (l : Lit) : Prop := CeM u x l ∧ VOk l
def EnM (u : Mu) (s : Int) (E : Int → Sh) (V : Int → Int → Int → Lit) (ps : List Prt) : Prop := (0 ≤ s ∧ s ≤ 40) ∧ ∀ j : Nat, j < ps.length → ((ps.getD j pd0).1 = 16 ∨ (ps.getD j pd0).1 = 17) → (ShM u (slV s (ps.getD j pd0).2.2.2.2.2) (E (ps.getD j pd0).2.2.2.2.2) ∧ ShB (E (ps.getD j pd0).2.2.2.2.2) ∧ 0 ≤ slV s (ps.getD j pd0).2.2.2.2.2 ∧ slV s (ps.getD j pd0).2.2.2.2.2 ≤ 40) ∧ ((ps.getD j pd0).1 = 16 → ¬ alnP ps j → ∀ r c, spP (E (ps.getD j pd0).2.2.2.2.2) (ps.getD j pd0) = some (r, c) → CvM u (320 * slV s (ps.getD j pd0).2.2.2.2.2 + 10 * r + c) (V (ps.getD j pd0).2.2.2.2.2 r c)) ∧ ((ps.getD j pd0).1 = 17 → ∀ t b l r, arP (E (ps.getD j pd0).2.2.2.2.2) (ps.getD j pd0) = some (t, b, l, r) → ∀ x y, t ≤ x → x ≤ b → l ≤ y → y ≤ r → CvM u (320 * slV s (ps.getD j pd0).2.2.2.2.2 + 10 * x + y) (V (ps.getD j pd0).2.2.2.2.2 x y))
theorem ShM_e {u v : Mu} {s : Int} {h : Sh} (hb : ShB h) (B : CoB u) (f : FrM wEv u v) (m : ShM u s h) : ShM v s h := ShM_s hb (Grw_fr B.1.1 f (by decide)) (SlM_fr f (by decide)) m
theorem EnM_f {u v : Mu} {s : Int} {E : Int → Sh} {V : Int → Int → Int → Lit} {ps : List Prt} (B : CoB u) (f : FrM wEv u v) (h : EnM u s E V ps) : EnM v s E V ps := by
  refine ⟨h.1, fun j hj c => ?_⟩
  obtain ⟨⟨h1, h2, h3⟩, h4, h5⟩ := h.2 j hj c
  exact ⟨⟨ShM_e h2 B f h1, h2, h3⟩, fun c1 c2 r k e => ⟨CeM_f f (h4 c1 c2 r k e).1, (h4 c1 c2 r k e).2⟩, fun c1 t b l r e x y x0 x1 y0 y1 => ⟨CeM_f f (h5 c1 t b l r e x y x0 x1 y0 y1).1, (h5 c1 t b l r e x y x0 x1 y0 y1).2⟩⟩
theorem FmM_e {u v : Mu} {q0 : Int} {ps : List Prt} (B : CoB u) (f : FrM wEv u v) (h : FmM u q0 ps) : FmM v q0 ps := by
  have hd : wDis wEv rgC = true := by decide
  obtain ⟨⟨h1, h2, h3⟩, h4⟩ := h
  have e25 := mE f hd (k := 0) (i := 25) (wHas_i (by decide))
  refine ⟨⟨h1, by omega, by omega⟩, fun i hi => ?_⟩
  obtain ⟨g1, g2⟩ := h4 i hi
  exact ⟨PrtM_g (Grw_fr B.1.1 f hd) (by omega) (by omega) g1, (mE f hd (wHas_a (by decide))).trans g2⟩
/-- all that an evaluation needs -/
def EvM (u : Mu) (s : Int) (E : Int → Sh) (V : Int → Int → Int → Lit) (q0 : Int) (ps : List Prt) : Prop := CoB u ∧ FmM u q0 ps ∧ EnM u s E V ps ∧ WfV ps ∧ ps.length ≤ 60
theorem EvM_f {u v : Mu} {s : Int} {E : Int → Sh} {V : Int → Int → Int → Lit} {q0 : Int} {ps : List Prt} (f : FrM wEv u v) (h : EvM u s E V q0 ps) : EvM v s E V q0 ps := ⟨CoB_fr f (by decide) h.1, FmM_e h.1 f h.2.1, EnM_f h.1 f h.2.2.1, h.2.2.2⟩
theorem op_out {ps : List Prt} {j : Nat} (h : ¬ j < ps.length) : (ps.getD j pd0).1 = 0 := by
  rw [List.getD_eq_getElem?_getD, List.getElem?_eq_none (by omega)]; rfl
theorem EvM_ok {u : Mu} {s : Int} {E : Int → Sh} {V : Int → Int → Int → Lit} {q0 : Int} {ps : List Prt} (h : EvM u s E V q0 ps) : svOk (svE E V ps) ∧ avOk (avE E V ps) ∧ plOk (plE E ps) := by
  obtain ⟨-, -, h, -⟩ := h
  have ho : ∀ j : Nat, ((ps.getD j pd0).1 = 16 ∨ (ps.getD j pd0).1 = 17) → j < ps.length := fun j c => by
    by_cases hj : j < ps.length
    · exact hj
    · have := op_out hj; omega
  refine ⟨fun j l hl => ?_, fun j L hL => ?_, fun j r c hp => ?_⟩
  · unfold svE at hl
    split at hl
    · next c =>
      obtain ⟨-, h4, -⟩ := h.2 j (ho j (Or.inl c.1)) (Or.inl c.1)
      cases e : spP (E (ps.getD j pd0).2.2.2.2.2) (ps.getD j pd0) with
      | none => rw [e] at hl; cases hl
      | some t => rw [e] at hl; cases hl; exact (h4 c.1 c.2 t.1 t.2 e).2
    · cases hl
  · unfold avE at hL
    split at hL
    · next c =>
      obtain ⟨⟨-, hb, -⟩, -, h5⟩ := h.2 j (ho j (Or.inr c)) (Or.inr c)
      cases e : arP (E (ps.getD j pd0).2.2.2.2.2) (ps.getD j pd0) with
      | none => rw [e] at hL; cases hL
      | some x =>
        obtain ⟨t, b, l, r⟩ := x
        rw [e] at hL
        cases hL
        have q := arP_b hb e
        have ln := arL_len (V (ps.getD j pd0).2.2.2.2.2) (t := t) (b := b) (l := l) (r := r) (by omega) (by omega) (by omega) (by omega)
        have sz := ar_s (t := t) (b := b) (l := l) (r := r) (by omega) (by omega) (by omega) (by omega)
        refine ⟨by show (arL _ (t, b, l, r)).length ≤ 320; omega, fun y hy => ?_⟩
        have hy : y ∈ arL (V (ps.getD j pd0).2.2.2.2.2) (t, b, l, r) := hy
        unfold arL at hy
        obtain ⟨k, hk, rfl⟩ := List.mem_map.mp hy
        rw [List.mem_range] at hk
        have hk : k < ((b - t + 1) * (r - l + 1)).toNat := hk
        have ak := ar_k (t := t) (b := b) (l := l) (r := r) (k := (k : Int)) (by omega) (by omega) (by omega) (by omega)
        exact (h5 c t b l r e _ _ ak.1.1 ak.1.2 ak.2.1 ak.2.2).2
    · cases hL
  · unfold plE at hp
    split at hp
    · next c =>
      obtain ⟨⟨-, hb, -⟩, -⟩ := h.2 j (ho j (Or.inl c)) (Or.inl c)
      have := spP_b hb hp
      omega
    · cases hp
theorem EvM_V {u : Mu} {s : Int} {E : Int → Sh} {V : Int → Int → Int → Lit} {q0 : Int} {ps : List Prt} (h : EvM u s E V q0 ps) {i : Nat} (hi : i < ps.length) : VOk (EvA E V ps i) := by
  obtain ⟨h1, h2, h3⟩ := EvM_ok h
  exact VOk_ev h.2.2.2.1 h1 h2 h3 _ i (Nat.lt_succ_self i) hi
