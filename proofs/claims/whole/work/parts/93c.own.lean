/-! ===== cells that an object gets from its making ===== -/
abbrev OL : Type := List (Nat × Nat)
def eHas (E : WR) (k : Nat) (j : Int) : Bool := E.any (fun t => t.1 == k && (match t.2 with
  | none => true
  | some i => i == j))
theorem eHas_w {E : WR} {k : Nat} {j : Int} (h : eHas E k j = false) : ¬ wHas E k j := by
  rintro ⟨t, ht, e1, e2⟩
  have q := List.any_eq_false.mp h t ht
  apply q
  rcases e2 with e2 | e2 <;> rw [e2] <;> simp [e1]
def OW (z : Z) (L : OL) (E : WR) (R : List (Nat × Int × Nat)) (Q : List (Nat × Int × Int)) : Prop := (∀ t ∈ L, zK z t.2 = (ckz.getD t.1 (0, 0)).1 ∧ zN z t.2 = (ckz.getD t.1 (0, 0)).2 ∧ zK z t.2 ≠ 0) ∧ (∀ s ∈ L, ∀ t ∈ L, (s.1 = t.1 → s = t) ∧ (s.2 = t.2 → s = t)) ∧ (∀ t ∈ L, ∀ i, ¬ wHas E t.1 i → zI z t.2 i = 0 ∧ zG z t.2 i = 0 ∧ zO z t.2 i = none) ∧ (∀ r ∈ R, wHas E r.1 r.2.1 ∧ (∃ a, (r.1, a) ∈ L) ∧ (∃ a, (r.2.2, a) ∈ L) ∧ ∀ a a2, (r.1, a) ∈ L → (r.2.2, a2) ∈ L → zO z a r.2.1 = some a2) ∧ ∀ q ∈ Q, wHas E q.1 q.2.1 ∧ (∃ a, (q.1, a) ∈ L) ∧ ∀ a, (q.1, a) ∈ L → zI z a q.2.1 = q.2.2
section Ow
variable {z y : Z} {L : OL} {E : WR} {R : List (Nat × Int × Nat)} {Q : List (Nat × Int × Int)}
theorem OW_fr {W : Nat → Int → Prop} (h : OW z L E R Q) (f : FrZ W z y) (hW : ∀ t ∈ L, ∀ i, ¬ W t.2 i) : OW y L E R Q := by
  obtain ⟨h1, h2, h3, h4, h5⟩ := h
  have e : ∀ t ∈ L, ∀ i, zI y t.2 i = zI z t.2 i ∧ zG y t.2 i = zG z t.2 i ∧ zO y t.2 i = zO z t.2 i := fun t ht i => f.2 t.2 i (h1 t ht).2.2 (hW t ht i)
  refine ⟨fun t ht => ?_, h2, fun t ht i hi => ?_, fun r hr => ?_, fun q hq => ?_⟩
  · have k := f.1 t.2 (h1 t ht).2.2
    rw [k.1, k.2]; exact h1 t ht
  · obtain ⟨a, c, d⟩ := e t ht i
    rw [a, c, d]; exact h3 t ht i hi
  · obtain ⟨a, c, d, g⟩ := h4 r hr
    exact ⟨a, c, d, fun x x2 hx hx2 => by rw [(e (r.1, x) hx r.2.1).2.2]; exact g x x2 hx hx2⟩
  · obtain ⟨a, c, g⟩ := h5 q hq
    exact ⟨a, c, fun x hx => by rw [(e (q.1, x) hx q.2.1).1]; exact g x hx⟩
theorem OW_new {a k kd : Nat} {n : Int} (h : OW z L E R Q) (ha : zK z a = 0) (hk : (L.map (·.1)).contains k = false) (hc : ckz.getD k (0, 0) = (kd, n)) (k0 : kd ≠ 0) : OW (nZ z a kd n) ((k, a) :: L) E R Q := by
  have nk : ∀ x, (k, x) ∉ L := fun x hx => by
    have : (L.map (·.1)).contains k = true := List.contains_iff_mem.mpr (List.mem_map.mpr ⟨(k, x), hx, rfl⟩)
    rw [hk] at this; cases this
  have na : ∀ t ∈ L, t.2 ≠ a := fun t ht e => (h.1 t ht).2.2 (by rw [e]; exact ha)
  have f : FrZ nW z (nZ z a kd n) := FrZ_nZ FrZ_rf ha
  obtain ⟨h1, h2, h3, h4, h5⟩ := OW_fr h f (fun _ _ _ w => w)
  refine ⟨fun t ht => ?_, fun s hs t ht => ?_, fun t ht i hi => ?_, fun r hr => ?_, fun q hq => ?_⟩
  · rcases List.mem_cons.mp ht with rfl | ht
    · rw [zK_nZ, zN_nZ, if_pos rfl, if_pos rfl, hc]; exact ⟨rfl, rfl, k0⟩
    · exact h1 t ht
  · rcases List.mem_cons.mp hs with rfl | hs
    · rcases List.mem_cons.mp ht with rfl | ht
      · exact ⟨fun _ => rfl, fun _ => rfl⟩
      · refine ⟨fun e => absurd ht ?_, fun e => absurd e.symm (na t ht)⟩
        intro ht
        obtain ⟨t1, t2⟩ := t
        have e : k = t1 := e
        rw [← e] at ht
        exact nk t2 ht
    · rcases List.mem_cons.mp ht with rfl | ht
      · refine ⟨fun e => absurd hs ?_, fun e => absurd e (na s hs)⟩
        intro hs
        obtain ⟨s1, s2⟩ := s
        have e : s1 = k := e
        rw [e] at hs
        exact nk s2 hs
      · exact h2 s hs t ht
  · rcases List.mem_cons.mp ht with rfl | ht
    · show zI (nZ z a kd n) a i = 0 ∧ zG (nZ z a kd n) a i = 0 ∧ zO (nZ z a kd n) a i = none
      rw [zI_nZ, zG_nZ, zO_nZ, if_pos rfl, if_pos rfl, if_pos rfl]; exact ⟨rfl, rfl, rfl⟩
    · exact h3 t ht i hi
  · obtain ⟨a1, ⟨x, hx⟩, ⟨x2, hx2⟩, g⟩ := h4 r hr
    refine ⟨a1, ⟨x, List.mem_cons_of_mem _ hx⟩, ⟨x2, List.mem_cons_of_mem _ hx2⟩, fun y y2 hy hy2 => ?_⟩
    have m1 : (r.1, y) ∈ L := by
      rcases List.mem_cons.mp hy with e | e
      · injection e with e1 e2
        rw [e1] at hx
        exact absurd hx (nk x)
      · exact e
    have m2 : (r.2.2, y2) ∈ L := by
      rcases List.mem_cons.mp hy2 with e | e
      · injection e with e1 e2
        rw [e1] at hx2
        exact absurd hx2 (nk x2)
      · exact e
    exact g y y2 m1 m2
  · obtain ⟨a1, ⟨x, hx⟩, g⟩ := h5 q hq
    refine ⟨a1, ⟨x, List.mem_cons_of_mem _ hx⟩, fun y hy => ?_⟩
    rcases List.mem_cons.mp hy with e | e
    · injection e with e1 e2
      rw [e1] at hx
      exact absurd hx (nk x)
    · exact g y e
theorem wHas_c {E : WR} {t : Nat × Option Int} {k : Nat} {i : Int} (h : wHas E k i) : wHas (t :: E) k i := by
  obtain ⟨x, hx, h2⟩ := h
  exact ⟨x, List.mem_cons_of_mem _ hx, h2⟩
theorem OW_w {a k : Nat} {j : Int} (h : OW z L E R Q) (ha : (k, a) ∈ L) (he : eHas E k j = false) (f : FrZ (fun x i => x = a ∧ i = j) z y) : OW y L ((k, some j) :: E) R Q := by
  have nh := eHas_w he
  obtain ⟨h1, h2, h3, h4, h5⟩ := h
  have e : ∀ t ∈ L, ∀ i, ¬ (t.1 = k ∧ i = j) → zI y t.2 i = zI z t.2 i ∧ zG y t.2 i = zG z t.2 i ∧ zO y t.2 i = zO z t.2 i := fun t ht i hn => f.2 t.2 i (h1 t ht).2.2 (fun w => hn ⟨by rw [(h2 t ht _ ha).2 w.1], w.2⟩)
  refine ⟨fun t ht => ?_, h2, fun t ht i hi => ?_, fun r hr => ?_, fun q hq => ?_⟩
  · have q := f.1 t.2 (h1 t ht).2.2
    rw [q.1, q.2]; exact h1 t ht
  · obtain ⟨q1, q2, q3⟩ := e t ht i (fun w => hi ⟨(k, some j), List.mem_cons_self, w.1.symm, Or.inr (by rw [w.2])⟩)
    rw [q1, q2, q3]; exact h3 t ht i (fun w => hi (wHas_c w))
  · obtain ⟨a1, c, d, g⟩ := h4 r hr
    refine ⟨wHas_c a1, c, d, fun x x2 hx hx2 => ?_⟩
    rw [(e (r.1, x) hx r.2.1 (fun w => nh (by rw [← w.1, ← w.2]; exact a1))).2.2]; exact g x x2 hx hx2
  · obtain ⟨a1, c, g⟩ := h5 q hq
    refine ⟨wHas_c a1, c, fun x hx => ?_⟩
    rw [(e (q.1, x) hx q.2.1 (fun w => nh (by rw [← w.1, ← w.2]; exact a1))).1]; exact g x hx
theorem OW_ref {a a2 k k2 : Nat} {j : Int} (h : OW z L E R Q) (ha : (k, a) ∈ L) (ha2 : (k2, a2) ∈ L) (he : eHas E k j = false) : OW (wO z a j (some a2)) L ((k, some j) :: E) ((k, j, k2) :: R) Q := by
  have f : FrZ (fun x i => x = a ∧ i = j) z (wO z a j (some a2)) := FrZ_wO FrZ_rf (Or.inl ⟨rfl, rfl⟩)
  have h2 := h.2.1
  obtain ⟨g1, g2, g3, g4, g5⟩ := OW_w h ha he f
  refine ⟨g1, g2, g3, fun r hr => ?_, g5⟩
  rcases List.mem_cons.mp hr with rfl | hr
  · refine ⟨⟨_, List.mem_cons_self, rfl, Or.inr rfl⟩, ⟨a, ha⟩, ⟨a2, ha2⟩, fun x x2 hx hx2 => ?_⟩
    have e1 := (h2 _ hx _ ha).1 rfl
    have e2 := (h2 _ hx2 _ ha2).1 rfl
    injection e1 with e1 e1'
    injection e2 with e2 e2'
    show zO (wO z a j (some a2)) x j = some x2
    rw [e1', e2', zO_wO, if_pos ⟨rfl, rfl⟩]
  · exact g4 r hr
theorem OW_int {a k : Nat} {j x : Int} (h : OW z L E R Q) (ha : (k, a) ∈ L) (he : eHas E k j = false) : OW (wI z a j x) L ((k, some j) :: E) R ((k, j, x) :: Q) := by
  have f : FrZ (fun x i => x = a ∧ i = j) z (wI z a j x) := FrZ_wI FrZ_rf (Or.inl ⟨rfl, rfl⟩)
  have h2 := h.2.1
  obtain ⟨g1, g2, g3, g4, g5⟩ := OW_w h ha he f
  refine ⟨g1, g2, g3, g4, fun q hq => ?_⟩
  rcases List.mem_cons.mp hq with rfl | hq
  · refine ⟨⟨_, List.mem_cons_self, rfl, Or.inr rfl⟩, ⟨a, ha⟩, fun y hy => ?_⟩
    have e1 := (h2 _ hy _ ha).1 rfl
    injection e1 with e1 e1'
    show zI (wI z a j x) y j = x
    rw [e1', zI_wI, if_pos ⟨rfl, rfl⟩]
  · exact g5 q hq
/-- an array is made and put into a field -/
theorem ow_arr {t0 k0 k kd kt : Nat} {j n : Int} {c s : Nat} {P : Z → Prop} (h : OW z L E R Q) (h0 : (k0, t0) ∈ L) (hk : (L.map (·.1)).contains k = false) (hc : ckz.getD k (0, 0) = (kd, n)) (hj : (ckz.getD k0 (0, 0)).1 = kt) (he : eHas E k0 j = false) (kd0 : kd ≠ 0) (n0 : 0 ≤ n ∧ n < 33554432) (c1 : 1 ≤ c) (s1 : n.toNat ≤ s) (p : ∀ y a, zK z a = 0 → OW y ((k, a) :: L) ((k0, some j) :: E) ((k0, j, k) :: R) Q → FrZ (fun x i => x = t0 ∧ i = j) z y → P y) : (0 ≤ n ∧ n < (33554432 : Int) ∧ 1 ≤ c ∧ Int.toNat n ≤ s ∧ ∀ a, zK z a = 0 → (∀ z1, z1 = nZ z a kd n → (zK z1 t0 = kt ∧ (∀ z2, z2 = wO z1 t0 j (some a) → P z2)))) := by
  refine ⟨n0.1, n0.2, c1, s1, fun a ha => ?_⟩
  rintro _ rfl
  have h1 := OW_new h ha hk hc kd0
  refine ⟨by rw [(h1.1 (k0, t0) (List.mem_cons_of_mem _ h0)).1]; exact hj, ?_⟩
  rintro _ rfl
  exact p _ a ha (OW_ref h1 (List.mem_cons_of_mem _ h0) List.mem_cons_self he) (FrZ_wO (FrZ_nZ FrZ_rf ha) (Or.inl ⟨rfl, rfl⟩))
end Ow
