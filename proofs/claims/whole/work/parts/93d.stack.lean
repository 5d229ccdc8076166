/-! ===== the constructor: the Worker's stack ===== -/
def StX (z : Z) (L : OL) (sv sb : Nat → Nat) (n a22 : Nat) : Prop := (∀ m : Nat, m < n → (zO z a22 m = some (sv m) ∧ VlB z (sv m) (sb m)) ∧ ∀ t ∈ L, t.2 ≠ sv m ∧ t.2 ≠ sb m) ∧ (∀ m k : Nat, m < n → k < n → sv m = sv k → m = k) ∧ ∀ m k : Nat, m < n → k < n → sb m = sb k → m = k
section Sx
variable {z y : Z} {L : OL} {E : WR} {R : List (Nat × Int × Nat)} {Q : List (Nat × Int × Int)} {sv sb : Nat → Nat} {n a22 : Nat}
theorem OW_E {t : Nat × Option Int} (h : OW z L E R Q) : OW z L (t :: E) R Q := ⟨h.1, h.2.1, fun t ht i hi => h.2.2.1 t ht i (fun w => hi (wHas_c w)), fun r hr => ⟨wHas_c (h.2.2.2.1 r hr).1, (h.2.2.2.1 r hr).2⟩, fun q hq => ⟨wHas_c (h.2.2.2.2 q hq).1, (h.2.2.2.2 q hq).2⟩⟩
theorem OW_x {k a : Nat} (h : OW z L ((k, none) :: E) R Q) (ha : (k, a) ∈ L) (hR : ∀ r ∈ R, r.1 ≠ k) (hQ : ∀ q ∈ Q, q.1 ≠ k) (f : FrZ (fun x _ => x = a) z y) : OW y L ((k, none) :: E) R Q := by
  obtain ⟨h1, h2, h3, h4, h5⟩ := h
  have e : ∀ t ∈ L, t.1 ≠ k → ∀ i, zI y t.2 i = zI z t.2 i ∧ zG y t.2 i = zG z t.2 i ∧ zO y t.2 i = zO z t.2 i := fun t ht hn i => f.2 t.2 i (h1 t ht).2.2 (fun w => hn (by rw [(h2 t ht _ ha).2 w]))
  refine ⟨fun t ht => ?_, h2, fun t ht i hi => ?_, fun r hr => ?_, fun q hq => ?_⟩
  · have q := f.1 t.2 (h1 t ht).2.2
    rw [q.1, q.2]; exact h1 t ht
  · have hn : t.1 ≠ k := fun w => hi ⟨(k, none), List.mem_cons_self, w.symm, Or.inl rfl⟩
    obtain ⟨q1, q2, q3⟩ := e t ht hn i
    rw [q1, q2, q3]; exact h3 t ht i hi
  · obtain ⟨a1, c, d, g⟩ := h4 r hr
    exact ⟨a1, c, d, fun x x2 hx hx2 => by rw [(e (r.1, x) hx (hR r hr) r.2.1).2.2]; exact g x x2 hx hx2⟩
  · obtain ⟨a1, c, g⟩ := h5 q hq
    exact ⟨a1, c, fun x hx => by rw [(e (q.1, x) hx (hQ q hq) q.2.1).1]; exact g x hx⟩
theorem StX_fr {W : Nat → Int → Prop} (h : StX z L sv sb n a22) (f : FrZ W z y) (k2 : zK z a22 ≠ 0) (h1 : ∀ i, ¬ W a22 i) (h2 : ∀ m : Nat, m < n → ¬ W (sv m) 0) : StX y L sv sb n a22 := by
  refine ⟨fun m hm => ?_, h.2⟩
  obtain ⟨⟨g1, v1, v2, v3, v4⟩, g3⟩ := h.1 m hm
  have kv : zK z (sv m) ≠ 0 := by rw [v1]; decide
  have kb : zK z (sb m) ≠ 0 := by rw [v3]; decide
  exact ⟨⟨(f.2 a22 m k2 (h1 m)).2.2.trans g1, (f.1 _ kv).1.trans v1, (f.2 _ 0 kv (h2 m hm)).2.2.trans v2, (f.1 _ kb).1.trans v3, (f.1 _ kb).2.trans v4⟩, g3⟩
theorem StX_c {k a : Nat} (h : StX z L sv sb n a22) (ha : zK z a = 0) : StX z ((k, a) :: L) sv sb n a22 := by
  refine ⟨fun m hm => ⟨(h.1 m hm).1, fun t ht => ?_⟩, h.2⟩
  obtain ⟨⟨g1, v1, v2, v3, v4⟩, g3⟩ := h.1 m hm
  rcases List.mem_cons.mp ht with rfl | ht
  · exact ⟨fun e => (by rw [← e] at v1; rw [show zK z a = 0 from ha] at v1; cases v1), fun e => (by rw [← e] at v3; rw [show zK z a = 0 from ha] at v3; cases v3)⟩
  · exact g3 t ht
theorem w_stack {a4 c s : Nat} {P : Z → Prop} (h : OW z L ((22, none) :: E) R Q) (h4 : (4, a4) ∈ L) (h22 : (22, a22) ∈ L) (hr : (4, 1, 22) ∈ R) (hR : ∀ r ∈ R, r.1 ≠ 22) (hQ : ∀ q ∈ Q, q.1 ≠ 22) (hc : 120 ≤ c) (hs : 1680 ≤ s) (p : ∀ y sv sb, OW y L ((22, none) :: E) R Q → StX y L sv sb 60 a22 → P y) : F_X9_init_75 a4 0 z c s P := by
  unfold F_X9_init_75
  refine lp_I (fun q => ∃ (k : Nat) (y : Z) (c' s' : Nat) (sv sb : Nat → Nat), q = ((k : Int), y, c', s') ∧ k ≤ 60 ∧ OW y L ((22, none) :: E) R Q ∧ StX y L sv sb k a22 ∧ 2 * (60 - k) ≤ c' ∧ 28 * (60 - k) ≤ s') (fun q => (60 - q.1).toNat) ?_ (0, z, c, s) ⟨0, z, c, s, fun _ => 0, fun _ => 0, rfl, by omega, h, ⟨fun m hm => absurd hm (by omega), fun m k hm => absurd hm (by omega), fun m k hm => absurd hm (by omega)⟩, by omega, by omega⟩
  rintro G _ ⟨k, y, c', s', sv, sb, rfl, hk, w, st, rc, rs⟩ ih
  show L_X9_init_75 a4 (k : Int) y c' s' _
  unfold L_X9_init_75
  have k4 : zK y a4 = 10 := (w.1 (4, a4) h4).1
  have k22 : zK y a22 = 22 := (w.1 (22, a22) h22).1
  have n22 : zN y a22 = 60 := (w.1 (22, a22) h22).2.1
  have o22 : zO y a4 1 = some a22 := (w.2.2.2.1 (4, 1, 22) hr).2.2.2 a4 a22 h4 h22
  refine ⟨k4, a22, o22, k22, ?_⟩
  rw [n22]
  by_cases ck : (60 : Int) ≤ (k : Int)
  · rw [if_pos ck]
    have e : k = 60 := by omega
    rw [e] at st
    exact p y sv sb w st
  rw [if_neg ck]
  refine ⟨by omega, by omega, fun a ha => ?_⟩
  rintro _ rfl
  refine ⟨1, 24, by omega, by omega, o_valN ha ⟨by decide, by decide⟩ (by decide) (by decide) (fun y2 ba f2 ka oa kb nb ne hb => ?_)⟩
  have k22' : zK y2 a22 = 22 := (f2.1 a22 (by rw [k22]; decide)).1.trans k22
  refine ⟨a22, o22, k22', by omega, by rw [(f2.1 a22 (by rw [k22]; decide)).2, n22]; omega, fun v hv => by injection hv with hv; rw [← hv]; exact ka, ?_⟩
  rintro _ rfl
  have f3 : FrZ (fun x _ => x = a22) y (wO y2 a22 (k : Int) (some a)) := FrZ_wO (FrZ_mono f2 (fun _ _ _ w => w.elim)) (Or.inl rfl)
  have na : ∀ t ∈ L, t.2 ≠ a ∧ t.2 ≠ ba := fun t ht => ⟨fun e => (w.1 t ht).2.2 (by rw [e]; exact ha), fun e => (w.1 t ht).2.2 (by rw [e]; exact hb)⟩
  have a22a := (na _ h22).1
  have a22b := (na _ h22).2
  rw [w32e (x := (k : Int) + 1) (by omega) (by omega)]
  refine ih ((k : Int) + 1, _, c' - 1 - 1, s' - 4 - 24) ⟨k + 1, wO y2 a22 (k : Int) (some a), c' - 1 - 1, s' - 4 - 24, (fun m => if m = k then a else sv m), (fun m => if m = k then ba else sb m), rfl, by omega, OW_x w h22 hR hQ f3, ⟨fun m hm => ?_, fun m j hm hj e => ?_, fun m j hm hj e => ?_⟩, by omega, by omega⟩ (by show (60 - ((k : Int) + 1)).toNat < (60 - (k : Int)).toNat; omega)
  · by_cases cm : m = k
    · simp only [if_pos cm]
      refine ⟨⟨by rw [zO_wO, if_pos ⟨rfl, by rw [cm]⟩], ka, ?_, kb, nb⟩, na⟩
      rw [zO_wO, if_neg (fun w => a22a w.1.symm)]; exact oa
    · simp only [if_neg cm]
      obtain ⟨⟨g1, v1, v2, v3, v4⟩, g3⟩ := st.1 m (by omega)
      have kv : zK y (sv m) ≠ 0 := by rw [v1]; decide
      have kb' : zK y (sb m) ≠ 0 := by rw [v3]; decide
      refine ⟨⟨?_, (f2.1 _ kv).1.trans v1, ?_, (f2.1 _ kb').1.trans v3, (f2.1 _ kb').2.trans v4⟩, g3⟩
      · rw [zO_wO, if_neg (fun w => cm (by have := w.2; omega)), (f2.2 a22 m (by rw [k22]; decide) (fun w => w)).2.2]; exact g1
      · rw [zO_wO, if_neg (fun w => (g3 _ h22).1 w.1.symm), (f2.2 _ 0 kv (fun w => w)).2.2]; exact v2
  · by_cases cm : m = k
    · by_cases cj : j = k
      · omega
      · simp only [if_pos cm, if_neg cj] at e
        have := (st.1 j (by omega)).1.2.1
        rw [← e, ha] at this; cases this
    · by_cases cj : j = k
      · simp only [if_neg cm, if_pos cj] at e
        have := (st.1 m (by omega)).1.2.1
        rw [e, ha] at this; cases this
      · simp only [if_neg cm, if_neg cj] at e
        exact st.2.1 m j (by omega) (by omega) e
  · by_cases cm : m = k
    · by_cases cj : j = k
      · omega
      · simp only [if_pos cm, if_neg cj] at e
        have := (st.1 j (by omega)).1.2.2.2.1
        rw [← e, hb] at this; cases this
    · by_cases cj : j = k
      · simp only [if_neg cm, if_pos cj] at e
        have := (st.1 m (by omega)).1.2.2.2.1
        rw [e, hb] at this; cases this
      · simp only [if_neg cm, if_neg cj] at e
        exact st.2.2 m j (by omega) (by omega) e
end Sx
