/-! ===== the system: a sheet is worked out: what is open, and room for it ===== -/
def OwV (z : Z) (b : Nat → Nat) (J : Nat → Prop) (sv sb : Nat → Nat) (v vb : Nat) : Prop := VlB z v vb ∧ (¬ J v ∧ ¬ J vb) ∧ (∀ m : Nat, m < 60 → v ≠ sv m ∧ vb ≠ sb m) ∧ ∀ k, k < 35 → v ≠ b k ∧ vb ≠ b k
/-- a room has Values of its own, or none -/
def RoS (z : Z) (b : Nat → Nat) (J : Nat → Prop) (sv sb : Nat → Nat) (va : Nat) : Prop := (∀ i v, zO z va i = some v → ∃ vb, OwV z b J sv sb v vb) ∧ (∀ i j v, zO z va i = some v → zO z va j = some v → i = j) ∧ ∀ i j v v' vb, zO z va i = some v → zO z va j = some v' → zO z v 0 = some vb → zO z v' 0 = some vb → i = j
def VaC (z : Z) (b : Nat → Nat) (J : Nat → Prop) (va : Nat) (N : Int) : Prop := zK z va = 22 ∧ N ≤ zN z va ∧ (va = b 8 ∨ ∀ k, k < 35 → va ≠ b k) ∧ ¬ J va
def wLo : WR := [(4, some 9), (4, some 11), (4, some 12), (4, some 13), (4, some 14), (4, some 15), (25, none), (27, none)]
def W44 (b : Nat → Nat) (va : Nat) (x : Nat) (i : Int) : Prop := WB b wLo x i ∨ x = va
section Op
variable {z y : Z} {b sv sb : Nat → Nat} {J : Nat → Prop} {sh va : Nat} {h : Sh}
theorem WkC_W {W : Nat → Int → Prop} (K : WkC z b J sv sb) (hc : ∀ t ∈ crz, ¬ W (b t.1) t.2.1) (h2 : ∀ k i, k = 22 ∨ k = 23 ∨ k = 24 → ¬ W (b k) i) (hs : ∀ m : Nat, m < 60 → ¬ W (sv m) 0) (f : FrZ W z y) : WkC y b J sv sb := by
  have c2 : CWz y b := ⟨fun k hk => by rw [(f.1 (b k) (kbz K.1 hk)).1, (f.1 (b k) (kbz K.1 hk)).2]; exact K.1.1 k hk, K.1.2.1, fun t ht => by rw [(f.2 (b t.1) t.2.1 (kbz K.1 (crz_b t ht)) (hc t ht)).2.2]; exact K.1.2.2 t ht⟩
  refine ⟨c2, Frz_fr K.2.1 f, ⟨fun m hm => ?_, K.2.2.1.2⟩, K.2.2.2.1, K.2.2.2.2.1, WzN_fr K.2.1 f K.2.2.2.2.2.1, VlS_fr K.2.2.2.2.2.2 f (h2 23 _ (by decide)) (h2 23 _ (by decide)) (h2 23 _ (by decide)) (fun i => h2 24 i (by decide))⟩
  obtain ⟨o, B1, B2, B3, B4⟩ := K.2.2.1.1 m hm
  exact ⟨(f.2 (b 22) m (kbz K.1 (by decide)) (h2 22 _ (by decide))).2.2.trans o, (f.1 _ (by rw [B1]; decide)).1.trans B1, (f.2 (sv m) 0 (by rw [B1]; decide) (hs m hm)).2.2.trans B2, (f.1 _ (by rw [B3]; decide)).1.trans B3, (f.1 _ (by rw [B3]; decide)).2.trans B4⟩
theorem va_n {N : Int} (c : CWz z b) (A : VaC z b J va N) {k : Nat} (hk : k < 35) (h8 : k ≠ 8) : b k ≠ va := fun e => by
  rcases A.2.2.1 with w | w
  · exact h8 (c.2.1 k 8 hk (by decide) (e.trans w))
  · exact w k hk e.symm
theorem crz_8 : ∀ t ∈ crz, t.1 ≠ 8 := by decide
theorem WkC_44 {N : Int} (K : WkC z b J sv sb) (A : VaC z b J va N) (f : FrZ (W44 b va) z y) : WkC y b J sv sb := by
  refine WkC_W K (fun t ht => ?_) (fun k i hk => ?_) (fun m hm => ?_) f
  · rintro (w | w)
    · exact wl_b K.1 (R := crw) (by decide) (crz_b t ht) (wHas_i (List.mem_map.mpr ⟨t, ht, rfl⟩)) w
    · exact va_n K.1 A (crz_b t ht) (crz_8 t ht) w
  · rintro (w | w)
    · rcases hk with e | e | e <;> subst e <;> exact wl_b K.1 (R := [(22, none), (23, none), (24, none)]) (by decide) (by decide) (wHas_a (by decide)) w
    · exact va_n K.1 A (by omega) (by omega) w
  · rintro (w | w)
    · obtain ⟨t, -, w2, w3, -⟩ := w
      exact (K.2.2.2.2.1 m hm t.1 w2).1 w3
    · have := (K.2.2.1.1 m hm).2.1
      rw [w, A.1] at this; cases this
theorem VaC_f {N : Int} {W : Nat → Int → Prop} (A : VaC z b J va N) (f : FrZ W z y) : VaC y b J va N := by
  obtain ⟨a1, a2, a3, a4⟩ := A
  have k : zK z va ≠ 0 := by rw [a1]; decide
  exact ⟨(f.1 va k).1.trans a1, by rw [(f.1 va k).2]; exact a2, a3, a4⟩
theorem OwV_f {W : Nat → Int → Prop} {v vb : Nat} (f : FrZ W z y) (hw : ¬ W v 0) (H : OwV z b J sv sb v vb) : OwV y b J sv sb v vb := by
  obtain ⟨⟨B1, B2, B3, B4⟩, H2⟩ := H
  exact ⟨⟨(f.1 v (by rw [B1]; decide)).1.trans B1, (f.2 v 0 (by rw [B1]; decide) hw).2.2.trans B2, (f.1 vb (by rw [B3]; decide)).1.trans B3, (f.1 vb (by rw [B3]; decide)).2.trans B4⟩, H2⟩
theorem w44_v {v : Nat} {i : Int} (h1 : ∀ k, k < 35 → v ≠ b k) (h2 : v ≠ va) : ¬ W44 b va v i := by
  rintro (⟨t, -, w2, w3, -⟩ | w)
  · exact h1 t.1 w2 w3
  · exact h2 w
theorem ow_va {N : Int} {v vb : Nat} (A : VaC z b J va N) (H : OwV z b J sv sb v vb) : v ≠ va ∧ vb ≠ va := by
  refine ⟨fun e => ?_, fun e => ?_⟩
  · have := H.1.1; rw [e, A.1] at this; cases this
  · have := H.1.2.2.1; rw [e, A.1] at this; cases this
/-- the room stays where it is not written -/
theorem RoS_e {N : Int} {W : Nat → Int → Prop} (A : VaC z b J va N) (R : RoS z b J sv sb va) (f : FrZ W z y) (hv : ∀ i, zO y va i = zO z va i) (hw : ∀ i v, zO z va i = some v → ¬ W v 0) : RoS y b J sv sb va := by
  obtain ⟨r1, r2, r3⟩ := R
  refine ⟨fun i v e => ?_, fun i j v e e' => r2 i j v (by rw [← hv]; exact e) (by rw [← hv]; exact e'), fun i j v v' vb e e' o o' => ?_⟩
  · rw [hv] at e
    obtain ⟨vb, H⟩ := r1 i v e
    exact ⟨vb, OwV_f f (hw i v e) H⟩
  · rw [hv] at e e'
    obtain ⟨q, H⟩ := r1 i v e
    obtain ⟨q', H'⟩ := r1 j v' e'
    refine r3 i j v v' vb e e' ?_ ?_
    · rw [← (f.2 v 0 (by rw [H.1.1]; decide) (hw i v e)).2.2]; exact o
    · rw [← (f.2 v' 0 (by rw [H'.1.1]; decide) (hw j v' e')).2.2]; exact o'
theorem va_Oe {N : Int} {L : WR} (c : CWz z b) (A : VaC z b J va N) (h8 : wDis L [(8, none)] = true) (f : FrZ (WB b L) z y) (i : Int) : zO y va i = zO z va i := by
  refine (f.2 va i (by rw [A.1]; decide) ?_).2.2
  rcases A.2.2.1 with w | w
  · rw [w]; exact wl_b c h8 (by decide) (wHas_a (by decide))
  · rintro ⟨t, -, w2, w3, -⟩
    exact w t.1 w2 w3
theorem RoS_L {N : Int} {L : WR} (c : CWz z b) (A : VaC z b J va N) (h8 : wDis L [(8, none)] = true) (R : RoS z b J sv sb va) (f : FrZ (WB b L) z y) : RoS y b J sv sb va := by
  refine RoS_e A R f (fun i => ?_) (fun i v e => ?_)
  · refine (f.2 va i (by rw [A.1]; decide) ?_).2.2
    rcases A.2.2.1 with w | w
    · rw [w]; exact wl_b c h8 (by decide) (wHas_a (by decide))
    · rintro ⟨t, -, w2, w3, -⟩
      exact w t.1 w2 w3
  · obtain ⟨vb, H⟩ := R.1 i v e
    rintro ⟨t, -, w2, w3, -⟩
    exact (H.2.2.2 t.1 w2).1 w3
/-- a formula's Value is laid in its room -/
theorem RoS_w {N : Int} {x : Int} {a ab : Nat} {u : Z} (A : VaC z b J va N) (R : RoS z b J sv sb va) (f : FrZ nW z u) (O : OwV u b J sv sb a ab) (hn : zO z va x = none) (fa : zK z a = 0) (fab : zK z ab = 0) : RoS (wO u va x (some a)) b J sv sb va := by
  have kv : zK z va ≠ 0 := by rw [A.1]; decide
  have Au := VaC_f A f
  obtain ⟨n1, n2⟩ := ow_va Au O
  have e : ∀ i, zO (wO u va x (some a)) va i = if i = x then some a else zO z va i := fun i => by
    rw [zO_wO]
    by_cases c : i = x
    · rw [if_pos ⟨rfl, c⟩, if_pos c]
    · rw [if_neg (fun w => c w.2), if_neg c]; exact (f.2 va i kv (fun w => w)).2.2
  have f2 : FrZ (fun q _ => q = va) u (wO u va x (some a)) := FrZ_wO FrZ_rf (Or.inl rfl)
  obtain ⟨r1, r2, r3⟩ := R
  have old : ∀ i v, zO z va i = some v → ∃ vb, OwV z b J sv sb v vb ∧ OwV (wO u va x (some a)) b J sv sb v vb ∧ v ≠ a ∧ vb ≠ ab := fun i v ev => by
    obtain ⟨vb, H⟩ := r1 i v ev
    refine ⟨vb, H, OwV_f f2 (ow_va A H).1 (OwV_f f (fun w => w) H), fun q => ?_, fun q => ?_⟩
    · have := H.1.1; rw [q, fa] at this; cases this
    · have := H.1.2.2.1; rw [q, fab] at this; cases this
  refine ⟨fun i v ev => ?_, fun i j v ev ev' => ?_, fun i j v v' vb ev ev' o o' => ?_⟩
  · rw [e] at ev
    by_cases c : i = x
    · rw [if_pos c] at ev; injection ev with ev; rw [← ev]; exact ⟨ab, OwV_f f2 n1 O⟩
    · rw [if_neg c] at ev; obtain ⟨vb, -, H, -⟩ := old i v ev; exact ⟨vb, H⟩
  · rw [e] at ev ev'
    by_cases c : i = x
    · by_cases c' : j = x
      · omega
      · rw [if_pos c] at ev; rw [if_neg c'] at ev'
        injection ev with ev
        obtain ⟨vb, -, -, q, -⟩ := old j v ev'
        exact absurd ev.symm q
    · by_cases c' : j = x
      · rw [if_neg c] at ev; rw [if_pos c'] at ev'
        injection ev' with ev'
        obtain ⟨vb, -, -, q, -⟩ := old i v ev
        exact absurd ev'.symm q
      · rw [if_neg c] at ev; rw [if_neg c'] at ev'; exact r2 i j v ev ev'
  · rw [e] at ev ev'
    have oa : zO (wO u va x (some a)) a 0 = some ab := by rw [zO_wO, if_neg (fun w => n1 w.1)]; exact O.1.2.1
    by_cases c : i = x
    · by_cases c' : j = x
      · omega
      · rw [if_pos c] at ev; rw [if_neg c'] at ev'
        injection ev with ev
        rw [← ev, oa] at o
        injection o with o
        obtain ⟨q, -, H, -, q2⟩ := old j v' ev'
        have := H.1.2.1
        rw [o'] at this
        injection this with this
        exact absurd (this.symm.trans o.symm) q2
    · by_cases c' : j = x
      · rw [if_neg c] at ev; rw [if_pos c'] at ev'
        injection ev' with ev'
        rw [← ev', oa] at o'
        injection o' with o'
        obtain ⟨q, -, H, -, q2⟩ := old i v ev
        have := H.1.2.1
        rw [o] at this
        injection this with this
        exact absurd (this.symm.trans o'.symm) q2
      · rw [if_neg c] at ev; rw [if_neg c'] at ev'
        obtain ⟨q, H0, H, -⟩ := old i v ev
        obtain ⟨q', H0', H', -⟩ := old j v' ev'
        have t1 := H.1.2.1
        have t2 := H'.1.2.1
        rw [o] at t1
        rw [o'] at t2
        injection t1 with t1
        injection t2 with t2
        refine r3 i j v v' vb ev ev' ?_ ?_
        · rw [t1]; exact H0.1.2.1
        · rw [t2]; exact H0'.1.2.1
/-- formulas as they should be -/
def FmZ (h : Sh) : Prop := ∀ k, inS h k → ∀ l ps, ctC h k = some (5, l, ps) → WfV ps ∧ (1 ≤ ps.length ∧ ps.length ≤ 60) ∧ ∀ j : Nat, j < ps.length → -1 ≤ (ps.getD j pd0).2.2.2.2.2
/-- what the room has is from before, or new -/
def NwV (z w : Z) (va : Nat) : Prop := ∀ i v vb, zO w va i = some v → zO w v 0 = some vb → (zO z va i = some v ∧ zO z v 0 = some vb) ∨ (zK z v = 0 ∧ zK z vb = 0)
theorem k9_w44 {c0 s0 : Nat} {Kc : Z × Nat × Nat → Prop} (K : WkC z b J sv sb) (h8 : zO z (b 4) 8 = some sh) (hs : ShC z J sh h) (A : VaC z b J va (h.1.1 * h.1.2)) (R : RoS z b J sv sb va) (hz : ∀ i, 0 ≤ i → i < 5 → zG z (b 27) i = 0) (F : FmZ h) (hc : 2 * (h.1.1 * h.1.2) ≤ (c0 : Int)) (hs0 : 28 * (h.1.1 * h.1.2) ≤ (s0 : Int)) (p : ∀ w c s, FrZ (W44 b va) z w → RoS w b J sv sb va → (∀ i, FoI h i → ∃ v, zO w va i = some v) → OpF w b h → LbC h (zG w (b 25)) → NwV z w va → Kc (w, c, s)) : lp (S := Int × Z × Nat × Nat) (E := (Z × Nat × Nat)) (fun q P_ => L_X9_work_44 (b 4) (some va) (h.1.1 * h.1.2) q.1 q.2.1 q.2.2.1 q.2.2.2 P_) (0, z, c0, s0) Kc := by
  have hb := ShC_b hs
  have cb := cnt_b hb
  refine lp_I (fun q => ∃ (x : Int) (w : Z) (c s : Nat), q = (x, w, c, s) ∧ (0 ≤ x ∧ x ≤ h.1.1 * h.1.2) ∧ (2 * (h.1.1 * h.1.2 - x) ≤ (c : Int) ∧ 28 * (h.1.1 * h.1.2 - x) ≤ (s : Int)) ∧ FrZ (W44 b va) z w ∧ RoS w b J sv sb va ∧ (∀ i, FoI h i → i < x → ∃ v, zO w va i = some v) ∧ (∀ i, 0 ≤ i → i < 320 → (OpC w b i ↔ (i < x ∧ FoI h i))) ∧ (∀ i j, FoI h i → i < x → 0 ≤ j → j < 320 → (BtR (zG w (b 25)) i j ↔ LdI h i j)) ∧ NwV z w va) (fun q => (h.1.1 * h.1.2 - q.1).toNat) ?_ (0, z, c0, s0) ⟨0, z, c0, s0, rfl, ⟨by omega, by omega⟩, ⟨by omega, by omega⟩, FrZ_rf, R, fun i hi i1 => by have := hi.1.1; omega, fun i i0 i1 => ?_, fun i j hi i1 => by have := hi.1.1; omega, fun i v vb e1 e2 => Or.inl ⟨e1, e2⟩⟩
  · rintro G _ ⟨x, w, c, s, rfl, ⟨x0, x1⟩, ⟨hc1, hs1⟩, f, Rw, H1, H2, H3, H4⟩ ih
    have Kw := WkC_44 K A f
    have Aw := VaC_f A f
    have hsw : ShC w J sh h := by
      refine ShC_fr f (fun a i ha => ?_) (fun a i ha w => ?_) hs
      · rintro (w | w)
        · exact wl_J K.2.1 ha i w
        · rw [w] at ha; exact A.2.2.2 ha
      · rcases w with w | w
        · exact absurd w (wl_k K.1 (Or.inl ha) i)
        · rw [w, A.1] at ha; cases ha
    have h8w : zO w (b 4) 8 = some sh := by
      refine (f.2 (b 4) 8 (kbz K.1 (by decide)) ?_).2.2.trans h8
      rintro (w | w)
      · exact wl_b K.1 (R := [(4, some 8)]) (by decide) (by decide) (wHas_i (by decide)) w
      · exact va_n K.1 A (by decide) (by decide) w
    show L_X9_work_44 (b 4) (some va) (h.1.1 * h.1.2) x w c s _
    unfold L_X9_work_44
    by_cases cx : h.1.1 * h.1.2 ≤ x
    · rw [if_pos cx]
      refine p w c s f Rw (fun i hi => H1 i hi (by have := hi.1.2; omega)) (fun i i0 i1 => (H2 i i0 i1).trans ⟨fun q => q.2, fun q => ⟨by have := q.1.2; omega, q⟩⟩) (fun i j hi j0 j1 => H3 i j hi (by have := hi.1.2; omega) j0 j1) H4
    rw [if_neg cx]
    have hi : inI h x := ⟨x0, by omega⟩
    have hsw' := hsw
    obtain ⟨ra, ca, xa, Sp, -, -, -, -, -, hct⟩ := hsw'
    obtain ⟨p1, p2, p3, p4, p5, p6, p7, p8, p9, p10, p11, p12⟩ := Sp
    obtain ⟨x1', x2', x3'⟩ := i_xy hb hi
    obtain ⟨q1, q2, q3⟩ := cd_in hb hi
    have hct := hct (x / h.1.2) (x % h.1.2) x1'.1 x1'.2 x2'.1 x2'.2
    rw [x3'] at hct
    have ec : ctC h (cdI h x) = h.2.2.2 (x / h.1.2) (x % h.1.2) := by unfold ctC; rw [q2, q3]
    rw [← ec] at hct
    refine ⟨cK Kw.1 4 rfl rfl, sh, h8w, p1, xa, p4, p7, x0, by rw [p10]; omega, o_isFormulaC hct (fun l ps e => ?_) (fun hn => ?_)⟩
    · rw [if_neg (by decide)]
      have fx : FoI h x := ⟨hi, l, ps, e⟩
      obtain ⟨W1, ⟨W2, W3⟩, W4⟩ := F _ q1 l ps e
      -- the formula is open, its leads are found
      have go : ∀ (u : Z) (v : Nat) (c' s' : Nat), FrZ nW w u → zK u v = 9 → RoS (wO u va x (some v)) b J sv sb va → (∀ vb, zO u v 0 = some vb → (zO z va x = some v ∧ zO z v 0 = some vb) ∨ (zK z v = 0 ∧ zK z vb = 0)) → (2 * (h.1.1 * h.1.2 - (x + 1)) ≤ (c' : Int) ∧ 28 * (h.1.1 * h.1.2 - (x + 1)) ≤ (s' : Int)) → F_X9_work_92 (b 4) (some va) (h.1.1 * h.1.2) x (some va) x (some v) u c' s' (fun o => match o with
          | .inl s' => G s'
          | .inr e => Kc e) := fun u v c' s' fu0 kv Ru h4 hcs => by
        have fu : FrZ (W44 b va) w u := FrZ_mono fu0 (fun _ _ _ a => a.elim)
        have Au := VaC_f Aw fu
        have fu2 : FrZ (W44 b va) w (wO u va x (some v)) := FrZ_wO fu (Or.inl (Or.inr rfl))
        unfold F_X9_work_92
        refine ⟨va, rfl, Au.1, x0, by have := Au.2.1; omega, fun v' e' => (by injection e' with e'; rw [← e']; exact kv), fun z1 e1 => ?_⟩
        rw [← e1] at Ru fu2
        have K1 := WkC_44 Kw Aw fu2
        have A1 := VaC_f Aw fu2
        have n27 : zN z1 (b 27) = 5 := cN K1.1 27 rfl rfl
        rw [tdivE x0, tmodE x0, w32e (x := x / 64) (by omega) (by omega), w32e (x := x % 64) (by omega) (by omega)]
        refine ⟨cK K1.1 4 rfl rfl, b 27, cO K1.1 4 5 27 (by decide), cK K1.1 27 rfl rfl, by omega, by omega, fun z2 e2 => ?_⟩
        have f2 : FrZ (WB b [(27, none)]) z1 z2 := by rw [e2]; exact FrZ_wG FrZ_rf (Or.inl (WB_a (by decide) (by decide)))
        have K2 := WkC_L K1 (L := [(27, none)]) (by decide) (by decide) f2
        have f02 : FrZ (W44 b va) w z2 := FrZ_tr fu2 (FrZ_mono f2 (fun _ _ _ a => Or.inl (WB_up (by decide) a)))
        have nJ : ∀ {i : Int} {a : Nat}, J a → ¬ W44 b va a i := fun ha w => by
          rcases w with w | w
          · exact wl_J K.2.1 ha _ w
          · rw [w] at ha; exact A.2.2.2 ha
        have hs2 : ShC z2 J sh h := by
          refine ShC_fr f02 (fun a i ha => nJ ha) (fun a i ha w => ?_) hsw
          rcases w with w | w
          · exact absurd w (wl_k Kw.1 (Or.inl ha) i)
          · rw [w, Aw.1] at ha; cases ha
        have h82 : zO z2 (b 4) 8 = some sh := by
          refine (f02.2 (b 4) 8 (kbz Kw.1 (by decide)) ?_).2.2.trans h8w
          rintro (w | w)
          · exact wl_b Kw.1 (R := [(4, some 8)]) (by decide) (by decide) (wHas_i (by decide)) w
          · exact va_n Kw.1 Aw (by decide) (by decide) w
        have R2 : RoS z2 b J sv sb va := RoS_L K1.1 A1 (by decide) Ru f2
        have A2 := VaC_f A1 f2
        have g25 : zG z2 (b 25) = zG w (b 25) := by
          funext i
          rw [e2, zG_wG, if_neg (fun q => absurd (K1.1.2.1 25 27 (by decide) (by decide) q.1) (by decide)), e1, zG_wO]
          exact (fu0.2 (b 25) i (kbz Kw.1 (by decide)) (fun a => a)).2.1
        have g27 : zG z1 (b 27) = zG w (b 27) := by
          funext i
          rw [e1, zG_wO]
          exact (fu0.2 (b 27) i (kbz Kw.1 (by decide)) (fun a => a)).2.1
        have o1 : ∀ i, zO z1 va i = if i = x then some v else zO w va i := fun i => by
          rw [e1, zO_wO]
          by_cases ci : i = x
          · rw [if_pos ⟨rfl, ci⟩, if_pos ci]
          · rw [if_neg (fun q => ci q.2), if_neg ci]; exact (fu0.2 va i (by rw [Aw.1]; decide) (fun a => a)).2.2
        refine k9_leads K2 h82 hs2 hi e W1 W2 W3 W4 (fun y fy By => ?_)
        have oy : ∀ i, zO y va i = if i = x then some v else zO w va i := fun i => by
          rw [va_Oe K2.1 A2 (by decide) fy, va_Oe K1.1 A1 (by decide) f2]; exact o1 i
        have y27 : zG y (b 27) = zG z2 (b 27) := funext (fun i => (fy.2 (b 27) i (kbz K2.1 (by decide)) (wl_b K2.1 (R := [(27, none)]) (by decide) (by decide) (wHas_a (by decide)))).2.1)
        unfold F_X9_work_119
        rw [w32e (x := x + 1) (by omega) (by omega)]
        refine ih (x + 1, y, c', s') ⟨x + 1, y, c', s', rfl, ⟨by omega, by omega⟩, hcs, FrZ_tr f (FrZ_tr f02 (FrZ_mono fy (fun _ _ _ a => Or.inl (WB_up (by decide) a)))), RoS_L K2.1 A2 (by decide) R2 fy, fun i hi' i1 => ?_, fun i i0 i1 => ?_, fun i j hi' i1 j0 j1 => ?_, fun i v' vb e3 e4 => ?_⟩ (by show (_ - (x + 1)).toNat < (_ - x).toNat; omega)
        · rw [oy]
          by_cases ci : i = x
          · rw [if_pos ci]; exact ⟨v, rfl⟩
          · rw [if_neg ci]; exact H1 i hi' (by omega)
        · have b2 : BtW (zG z2 (b 27)) i ↔ (BtW (zG z1 (b 27)) i ∨ i = x) := BtW_set x0 (by omega) i0 i1 (by rw [e2, zG_wG, if_pos ⟨rfl, rfl⟩]) (fun k hk => by rw [e2, zG_wG, if_neg (fun q => hk q.2)])
          have b3 := H2 i i0 i1
          unfold OpC at b3 ⊢
          rw [y27, b2, g27, b3]
          constructor
          · rintro (a | a)
            · exact ⟨by omega, a.2⟩
            · exact ⟨by omega, by rw [a]; exact fx⟩
          · rintro ⟨a1, a2⟩
            by_cases ci : i = x
            · exact Or.inr ci
            · exact Or.inl ⟨by omega, a2⟩
        · rw [By i j j0 j1, g25]
          by_cases ci : i = x
          · subst ci
            constructor
            · rintro (⟨-, q, a1, a2, a3⟩ | a)
              · exact ⟨⟨hi, a2⟩, q1, l, ps, e, LdP_1.mpr ⟨q, by omega, a3⟩⟩
              · exact absurd rfl a.1
            · rintro ⟨⟨-, a1⟩, -, l', ps', e', a2⟩
              rw [e] at e'
              injection e' with e'
              injection e' with _ e'
              injection e' with _ e'
              rw [← e'] at a2
              obtain ⟨q, a3, a4⟩ := LdP_1.mp a2
              exact Or.inl ⟨rfl, q, by omega, a1, a4⟩
          · rw [← H3 i j hi' (by omega) j0 j1]
            exact ⟨fun a => a.elim (fun a => absurd a.1 ci) (fun a => a.2), fun a => Or.inr ⟨ci, a⟩⟩
        · rw [oy] at e3
          have in1 : zO z1 va i = some v' := by rw [o1]; exact e3
          obtain ⟨vq, Hq⟩ := Ru.1 i v' in1
          have nw : ∀ {L : WR} {k : Int}, ¬ WB b L v' k := fun ⟨t, _, w2, w3, _⟩ => (Hq.2.2.2 t.1 w2).1 w3
          have e5 : zO z1 v' 0 = some vb := by
            rw [← (f2.2 v' 0 (by rw [Hq.1.1]; decide) nw).2.2, ← (fy.2 v' 0 (by rw [(f2.1 v' (by rw [Hq.1.1]; decide)).1, Hq.1.1]; decide) nw).2.2]; exact e4
          have nv : v' ≠ va := (ow_va A1 Hq).1
          have e6 : zO u v' 0 = some vb := by rw [e1, zO_wO, if_neg (fun q => nv q.1)] at e5; exact e5
          by_cases ci : i = x
          · rw [if_pos ci] at e3
            injection e3 with e3
            rw [ci, ← e3]
            rw [← e3] at e6
            exact h4 vb e6
          · rw [if_neg ci] at e3
            obtain ⟨vw, Hw⟩ := Rw.1 i v' e3
            exact H4 i v' vb e3 (by rw [← (fu0.2 v' 0 (by rw [Hw.1.1]; decide) (fun a => a)).2.2]; exact e6)
      refine ⟨va, rfl, Aw.1, x0, by have := Aw.2.1; omega, ?_⟩
      match hv : zO w va x with
      | none =>
        rw [if_pos rfl]
        refine ⟨by omega, by omega, fun a ha z1 e1 => ?_⟩
        refine ⟨1, 24, by omega, by omega, ?_⟩
        rw [e1]
        refine o_valN ha (by decide) (by decide) (by decide) (fun u ba fu k1 o1 k2 k3 nb fb => ?_)
        have O : OwV u b J sv sb a ba := by
          refine ⟨⟨k1, o1, k2, k3⟩, ⟨fun q => (Kw.2.1 a q).1 ha, fun q => (Kw.2.1 ba q).1 fb⟩, fun m hm => ⟨fun q => ?_, fun q => ?_⟩, fun k hk => ⟨fun q => ?_, fun q => ?_⟩⟩
          · have := (Kw.2.2.1.1 m hm).2.1; rw [← q, ha] at this; cases this
          · have := (Kw.2.2.1.1 m hm).2.2.2.1; rw [← q, fb] at this; cases this
          · exact kbz Kw.1 hk (by rw [← q]; exact ha)
          · exact kbz Kw.1 hk (by rw [← q]; exact fb)
        have z0 : ∀ {q : Nat}, zK w q = 0 → zK z q = 0 := fun {q} hq => by
          by_cases cq : zK z q = 0
          · exact cq
          · rw [(f.1 q cq).1] at hq; exact absurd hq cq
        exact go u a _ _ fu k1 (RoS_w Aw Rw fu O hv ha fb) (fun vb ev => by rw [o1] at ev; injection ev with ev; rw [← ev]; exact Or.inr ⟨z0 ha, z0 fb⟩) ⟨by omega, by omega⟩
      | some v =>
        rw [if_neg (by simp)]
        obtain ⟨vb, H⟩ := Rw.1 x v hv
        refine go w v c s FrZ_rf H.1.1 ?_ (fun vb ev => H4 x v vb hv ev) ⟨by omega, by omega⟩
        have eo : ∀ i, zO (wO w va x (some v)) va i = zO w va i := fun i => by
          rw [zO_wO]
          by_cases ci : i = x
          · rw [if_pos ⟨rfl, ci⟩, ci, hv]
          · rw [if_neg (fun q => ci q.2)]
        exact RoS_e (W := fun q _ => q = va) Aw Rw (FrZ_wO FrZ_rf (Or.inl rfl)) eo (fun i v' e' => by obtain ⟨vb', H'⟩ := Rw.1 i v' e'; exact (ow_va Aw H').1)
    · rw [if_pos rfl]
      have nf : ¬ FoI h x := fun q => by obtain ⟨-, l, ps, e⟩ := q; exact hn l ps e
      unfold F_X9_work_119
      rw [w32e (x := x + 1) (by omega) (by omega)]
      refine ih (x + 1, w, c, s) ⟨x + 1, w, c, s, rfl, ⟨by omega, by omega⟩, ⟨by omega, by omega⟩, f, Rw, fun i hi' i1 => ?_, fun i i0 i1 => (H2 i i0 i1).trans ?_, fun i j hi' i1 => ?_, H4⟩ (by show (_ - (x + 1)).toNat < (_ - x).toNat; omega)
      · exact H1 i hi' (by by_cases ci : i = x; rw [ci] at hi'; exact absurd hi' nf; omega)
      · constructor
        · rintro ⟨a1, a2⟩; exact ⟨by omega, a2⟩
        · rintro ⟨a1, a2⟩
          exact ⟨by by_cases ci : i = x; rw [ci] at a2; exact absurd a2 nf; omega, a2⟩
      · exact H3 i j hi' (by by_cases ci : i = x; rw [ci] at hi'; exact absurd hi' nf; omega)
  · unfold OpC BtW
    rw [hz _ (by omega) (by omega), bit_0]
    exact ⟨fun q => (by cases q), fun q => by omega⟩
end Op
