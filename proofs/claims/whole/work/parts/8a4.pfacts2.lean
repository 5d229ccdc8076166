/-! ===== what the pure parser gives, on ===== -/
theorem lt_n {k p : Int} {s : Int × Int} (hk : k ≠ 0) : (ltU k p s).1 ≠ 0 := by
  unfold ltU
  split
  · exact hk
  · next c => exact fun h0 => c (Or.inl h0)
def PoT (t : Tx) (nv : Int) (ps0 : List Prt) (st s : PS) : Prop := Seg ps0 s.2.1 ∧ (s.1 ≤ t.2.1 ∧ bt t s.1 ≠ 32) ∧ (s.2.1.length : Int) - s.1 ≤ (st.2.1.length : Int) - st.1 ∧ (s.2.2.1 = 0 → st.2.2.1 = 0 ∧ (GdW nv st.2.1 → GdW nv s.2.1))
theorem PoT_S {t : Tx} {nv : Int} {ps0 : List Prt} {st s : PS} (h : PoT t nv ps0 st s) (hl : lastO s.2.1 ≠ 17) : PoS t nv ps0 st s := ⟨⟨h.1, hl⟩, h.2⟩
theorem PoS_T {t : Tx} {nv : Int} {ps0 : List Prt} {st s : PS} (h : PoS t nv ps0 st s) : PoT t nv ps0 st s := ⟨h.1.1, h.2⟩
theorem WfP_plc {S : SS} {op v r c r2 c2 fx : Int} (hI : ∀ v, isShP v S → IdS (shOf v S)) (ho : (op = 16 ∧ r2 = r ∧ c2 = c ∧ fx = 5 * (fx % 4)) ∨ op = 17) (f0 : 0 ≤ fx ∧ fx ≤ 15) (h1 : thP S v r c) (h2 : thP S v r2 c2) : WfP (plcP S op v r c r2 c2 fx) := by
  have i1 := hI v h1.1 0 (Or.inl rfl) (r - 1) (by omega) (by show r - 1 < (shOf v S).1.1; omega)
  have i2 := hI v h1.1 1 (Or.inr rfl) (c - 1) (by omega) (by show c - 1 < (shOf v S).1.2; omega)
  have i3 := hI v h1.1 0 (Or.inl rfl) (r2 - 1) (by omega) (by show r2 - 1 < (shOf v S).1.1; omega)
  have i4 := hI v h1.1 1 (Or.inr rfl) (c2 - 1) (by omega) (by show c2 - 1 < (shOf v S).1.2; omega)
  unfold plcP WfP
  refine ⟨⟨by show 1 ≤ op; omega, by show op ≤ 35; omega⟩, by show op ≠ 14; omega, f0, ?_, ?_, ?_⟩
  · intro h16
    have h16 : op = 16 := h16
    rcases ho with ⟨-, e1, e2, e3⟩ | e
    · rw [e1, e2]; exact ⟨rfl, rfl, e3⟩
    · omega
  · show argL op ≤ 0 ∧ 0 ≤ argM op
    unfold argL argM
    rcases ho with ⟨e, -⟩ | e
    · rw [e]; decide
    · rw [e]; decide
  · rw [if_pos (by show op = 16 ∨ op = 17; omega)]
    exact ⟨⟨by show 1 ≤ idS _ 0 (r - 1) + 1; omega, by show 1 ≤ idS _ 1 (c - 1) + 1; omega, by show 1 ≤ idS _ 0 (r2 - 1) + 1; omega, by show 1 ≤ idS _ 1 (c2 - 1) + 1; omega⟩, h1.1.1⟩
theorem plcA_f {t : Tx} {S : SS} {st : PS} {op v r c r2 c2 fx e : Int} (h : OkS t st) (hI : ∀ v, isShP v S → IdS (shOf v S)) (ho : (op = 16 ∧ r2 = r ∧ c2 = c ∧ fx = 5 * (fx % 4)) ∨ op = 17) (f0 : 0 ≤ fx ∧ fx ≤ 15) (e1 : st.1 < e) (e2 : e ≤ t.2.1) : PoT t S.2.1.1 st.2.1 st (plcA S op v r c r2 c2 fx st.1 (skp t e) st) ∧ lastO (plcA S op v r c r2 c2 fx st.1 (skp t e) st).2.1 = op ∧ st.1 < (plcA S op v r c r2 c2 fx st.1 (skp t e) st).1 := by
  have b := skp_b (t := t) (k := e) (by have := h.1.1; omega) e2
  unfold plcA
  split
  · next c =>
    refine ⟨⟨Seg_leaf h.2 rfl, ⟨b.2.1, b.2.2⟩, ?_, fun l0 => ⟨l0, fun g => GdW_snoc h.2 g (WfP_plc hI ho f0 c.1 c.2) (by show v < S.2.1.1; exact c.1.1.2) (fun k hk => ?_) (fun _ => rfl)⟩⟩, lastO_snoc, by show st.1 < skp t e; omega⟩
    · show ((st.2.1 ++ [_]).length : Int) - skp t e ≤ _
      rw [List.length_append, List.length_singleton]; omega
    · have hk : (k : Int) < 0 := hk
      omega
  · refine ⟨⟨Seg_leaf h.2 rfl, ⟨b.2.1, b.2.2⟩, ?_, fun l0 => absurd l0 (lt_n (by decide))⟩, lastO_snoc, by show st.1 < skp t e; omega⟩
    show ((st.2.1 ++ [_]).length : Int) - skp t e ≤ _
    rw [List.length_append, List.length_singleton]; omega
theorem pSpot_f {t : Tx} {S : SS} {st s : PS} (h : OkS t st) (hI : ∀ v, isShP v S → IdS (shOf v S)) (hc : crP t st.1) (e : pSpot t S st = .inr s) : PoS t S.2.1.1 st.2.1 st s ∧ st.1 < s.1 := by
  have cb := crP_b hc
  have cf := crF_b t st.1
  unfold pSpot at e
  split at e
  · cases e
  · next v e1 hv =>
    cases e
    have vb := vrP_b (by omega) cb.2.2.1 hv
    have q := plcA_f (S := S) (v := v) (r := crR t st.1) (c := crC t st.1) (r2 := crR t st.1) (c2 := crC t st.1) (fx := 5 * crF t st.1) (op := 16) h hI (Or.inl ⟨rfl, rfl, rfl, by omega⟩) ⟨by omega, by omega⟩ (e := e1) (by omega) vb.2.2.1
    exact ⟨PoT_S q.1 (by rw [q.2.1]; decide), q.2.2⟩
theorem pArea_f {t : Tx} {S : SS} {st s : PS} (h : OkS t st) (hI : ∀ v, isShP v S → IdS (shOf v S)) (hc : crP t st.1) (e : pArea t S st = .inr s) : PoT t S.2.1.1 st.2.1 st s ∧ lastO s.2.1 = 17 ∧ st.1 < s.1 := by
  have cb := crP_b hc
  have cf := crF_b t st.1
  have cf2 := crF_b t (crE t st.1 + 1)
  unfold pArea at e
  split at e
  · next c2 =>
    have cb2 := crP_b c2
    split at e
    · cases e
    · next v e1 hv =>
      cases e
      have vb := vrP_b (by omega) cb2.2.2.1 hv
      exact plcA_f (S := S) (v := v) (op := 17) h hI (Or.inr rfl) ⟨by omega, by omega⟩ (e := e1) (by omega) vb.2.2.1
  · cases e
theorem nmO_b {ws : List Int} (h : nmO ws ≠ 0) : (18 ≤ nmO ws ∧ nmO ws ≤ 35) ∧ nmW (nmO ws) = ws := by
  unfold nmO at h ⊢
  cases hf : (List.range 18).find? (fun (j : Nat) => decide (nmW (18 + (j : Int)) = ws)) with
  | none => rw [hf] at h; exact absurd rfl h
  | some j =>
    have m := List.mem_of_find?_eq_some hf
    have q := List.find?_some hf
    rw [List.mem_range] at m
    simp only [decide_eq_true_eq] at q
    exact ⟨⟨by show 18 ≤ 18 + (j : Int); omega, by show 18 + (j : Int) ≤ 35; omega⟩, q⟩
theorem lastO_pre {ps rs : List Prt} (h : 0 < ps.length) : ((ps ++ rs).getD (ps.length - 1) pd0).1 = lastO ps := by
  unfold lastO; rw [gP_l (by omega)]
theorem ch_2 {ps qs us : List Prt} {op : Int} (h : Seg ps qs) (g : Seg qs us) (h1 : lastO qs ≠ 17) (h2 : lastO us ≠ 17) (ho : op ≤ 12) (k : Nat) (hk : k < 2) : chO op k (us.getD (wlk (spnL us) (2 - 1 - k) ((us.length : Int) - 1)).toNat pd0).1 := by
  obtain ⟨rs, e1, e2, e3, e4⟩ := h
  obtain ⟨vs, g1, g2, g3, g4⟩ := g
  have el := congrArg List.length e1
  have gl := congrArg List.length g1
  rw [List.length_append] at el gl
  have q : (us.getD (wlk (spnL us) (2 - 1 - k) ((us.length : Int) - 1)).toNat pd0).1 ≠ 17 := by
    have hk2 : k = 0 ∨ k = 1 := by omega
    rcases hk2 with rfl | rfl
    · show (us.getD (wlk (spnL us) (0 + 1) ((us.length : Int) - 1)).toNat pd0).1 ≠ 17
      unfold spE at g3
      rw [wlk, wlk, show ((us.length : Int) - 1).toNat = us.length - 1 by omega, g3, show ((us.length : Int) - 1 - (vs.length : Int)).toNat = qs.length - 1 by omega, g1, lastO_pre (by omega)]
      exact h1
    · show (us.getD (wlk (spnL us) 0 ((us.length : Int) - 1)).toNat pd0).1 ≠ 17
      rw [wlk, show ((us.length : Int) - 1).toNat = us.length - 1 by omega]
      exact h2
  exact ⟨fun h17 => absurd h17 q, fun h29 => by omega⟩
theorem std_ch {op : Int} {k : Nat} {cop : Int} (h : stdP op k cop) : chO op k cop := by
  unfold stdP at h
  unfold chO
  omega
theorem rb_i {r : PR} {k : PS → PR} {s : PS} (h : rb r k = .inr s) : ∃ s1, r = .inr s1 ∧ k s1 = .inr s := by
  unfold rb at h
  cases r with
  | inl e => cases h
  | inr s1 => exact ⟨s1, rfl, h⟩
theorem Seg_p {ps qs : List Prt} (h : Seg ps qs) : 0 < qs.length ∧ SpF qs ∧ ps.length < qs.length := by
  obtain ⟨rs, e1, e2, e3, e4⟩ := h
  have el := congrArg List.length e1
  rw [List.length_append] at el
  exact ⟨by omega, e4, by omega⟩
def PgO (t : Tx) (S : SS) (g : PG) : Prop := (∀ l o st s, OkS t st → g.1 l o st = .inr s → PoS t S.2.1.1 st.2.1 st s ∧ st.1 < s.1) ∧ (∀ o st s, OkS t st → g.2.1 o st = .inr s → PoS t S.2.1.1 st.2.1 st s ∧ st.1 < s.1) ∧ (∀ l o c st s ps0, (0 ≤ st.1 ∧ st.1 ≤ t.2.1) → bt t st.1 ≠ 32 → Seg ps0 st.2.1 → lastO st.2.1 ≠ 17 → g.2.2.1 l o c st = .inr s → PoS t S.2.1.1 ps0 st s ∧ st.1 ≤ s.1) ∧ ∀ op fr o cs st s ps0, (18 ≤ op ∧ op ≤ 35) → (0 ≤ st.1 ∧ st.1 ≤ t.2.1) → (∃ as, st.2.1 = ps0 ++ as) → ArI ps0.length cs st.2.1 → g.2.2.2 op fr o cs st = .inr s → PoS t S.2.1.1 ps0 st s ∧ st.1 < s.1
theorem bEx_f {t : Tx} {S : SS} {g : PG} (H : PgO t S g) {l o : Int} {st s : PS} (h : OkS t st) (e : bEx g l o st = .inr s) : PoS t S.2.1.1 st.2.1 st s ∧ st.1 < s.1 := by
  unfold bEx at e
  obtain ⟨s1, e1, e2⟩ := rb_i e
  obtain ⟨q1, q2⟩ := H.2.1 o st s1 h e1
  obtain ⟨r1, r2⟩ := H.2.2.1 l o false s1 s st.2.1 ⟨by have := h.1.1; omega, q1.2.1.1⟩ q1.2.1.2 q1.1.1 q1.1.2 e2
  refine ⟨⟨r1.1, r1.2.1, by have := q1.2.2.1; have := r1.2.2.1; omega, fun l0 => ?_⟩, by omega⟩
  obtain ⟨a1, a2⟩ := r1.2.2.2 l0
  obtain ⟨d1, d2⟩ := q1.2.2.2 a1
  exact ⟨d1, fun gd => a2 (d2 gd)⟩
theorem bLo_f {t : Tx} {S : SS} {g : PG} (n0 : 0 ≤ S.2.1.1) (H : PgO t S g) {l o : Int} {c : Bool} {st s : PS} {ps0 : List Prt} (h : 0 ≤ st.1 ∧ st.1 ≤ t.2.1) (h32 : bt t st.1 ≠ 32) (hs : Seg ps0 st.2.1) (hl : lastO st.2.1 ≠ 17) (e : bLo t g l o c st = .inr s) : PoS t S.2.1.1 ps0 st s ∧ st.1 ≤ s.1 := by
  unfold bLo at e
  split at e
  · cases e
    exact ⟨⟨⟨hs, hl⟩, ⟨h.2, h32⟩, Int.le_refl _, fun l0 => ⟨l0, fun gd => gd⟩⟩, Int.le_refl _⟩
  · next cc =>
    have hop : sgO t st.1 ≠ 0 := fun w0 => cc (Or.inl w0)
    have sb := sgO_b t st.1
    have sn := sgO_n hop
    have kb := skp_b (t := t) (k := st.1 + sgN (sgO t st.1)) (by omega) sn.2.1
    obtain ⟨s1, e1, e2⟩ := rb_i e
    have sp := Seg_p hs
    obtain ⟨q1, q2⟩ := H.1 _ _ (skp t (st.1 + sgN (sgO t st.1)), st.2) s1 ⟨⟨by show 0 ≤ skp t _; omega, kb.2.1⟩, sp.2.1⟩ e1
    simp only at q1 q2
    have sp1 := Seg_p q1.1.1
    have lo : lastO (s1.2.1 ++ [opP (sgO t st.1) 2]) ≠ 17 := by rw [lastO_snoc]; show sgO t st.1 ≠ 17; omega
    obtain ⟨r1, r2⟩ := H.2.2.1 l o _ (addP (opP (sgO t st.1) 2) s1.1 s1) s ps0 ⟨by show 0 ≤ s1.1; omega, q1.2.1.1⟩ q1.2.1.2 (Seg_2 hs q1.1.1 rfl (by show ¬ (14 ≤ sgO t st.1 ∧ _); omega)) lo e2
    have c1 := r1.2.2.1
    have c2 := q1.2.2.1
    unfold addP at c1 r2
    simp only at c1 r2 c2
    rw [List.length_append, List.length_singleton] at c1
    refine ⟨⟨r1.1, r1.2.1, by omega, fun l0 => ?_⟩, by omega⟩
    obtain ⟨a1, a2⟩ := r1.2.2.2 l0
    obtain ⟨d1, d2⟩ := q1.2.2.2 a1
    refine ⟨d1, fun gd => a2 (GdW_snoc sp1.2.1 (d2 gd) (WfP_op ⟨by omega, by omega⟩ (Or.inl (by omega)) ?_) (by show (-1 : Int) < S.2.1.1; omega) (fun k hk => ?_) (fun w0 => by have := sp1.1; omega))⟩
    · unfold argL argM
      rw [if_pos (by omega), if_pos (by omega)]; exact ⟨Int.le_refl 2, Int.le_refl 2⟩
    · have hk : (k : Int) < 2 := hk
      exact ch_2 hs q1.1.1 hl q1.1.2 (by show sgO t st.1 ≤ 12; omega) k (by omega)
theorem bBr_f {t : Tx} {S : SS} {g : PG} (H : PgO t S g) {o : Int} {st s : PS} (h : OkS t st) (h40 : bt t st.1 = 40) (e : bBr t g o st = .inr s) : PoS t S.2.1.1 st.2.1 st s ∧ st.1 < s.1 := by
  have b0 := bt_in (t := t) (k := st.1) (by omega)
  have kb := skp_b (t := t) (k := st.1 + 1) (by omega) (by omega)
  unfold bBr at e
  split at e
  · cases e
  · obtain ⟨s1, e1, e2⟩ := rb_i e
    obtain ⟨q1, q2⟩ := H.1 _ _ (skp t (st.1 + 1), st.2) s1 ⟨⟨by show 0 ≤ skp t _; omega, kb.2.1⟩, h.2⟩ e1
    simp only at q1 q2
    split at e2
    · next c41 =>
      cases e2
      have b1 := bt_in (t := t) (k := s1.1) (by omega)
      have kc := skp_b (t := t) (k := s1.1 + 1) (by omega) (by omega)
      refine ⟨⟨q1.1, ⟨kc.2.1, kc.2.2⟩, ?_, q1.2.2.2⟩, by show st.1 < skp t (s1.1 + 1); omega⟩
      show (s1.2.1.length : Int) - skp t (s1.1 + 1) ≤ _
      have c2 := q1.2.2.1
      simp only at c2
      omega
    · cases e2
theorem bWd_f {t : Tx} {S : SS} {g : PG} (n0 : 0 ≤ S.2.1.1) (H : PgO t S g) {o : Int} {st s : PS} (h : OkS t st) (hle : leB (bt t st.1) = true) (e : bWd t g o st = .inr s) : PoS t S.2.1.1 st.2.1 st s ∧ st.1 < s.1 := by
  have b0 := rn_b (p := leB) (t := t) leB_n h.1.1
  have b1 := rn_1 (t := t) leB_n h.1.1 hle
  have b2 := rn_b (p := leB) (t := t) (k := st.1 + 1) leB_n (by have := h.1.1; omega)
  have bi := bt_in (t := t) (k := st.1) (fun w0 => by rw [w0] at hle; cases hle)
  have en : rn leB t st.1 ≤ t.2.1 := by omega
  have wt : ∀ x : Int, x = 0 ∨ x = 1 → WfL (3, x, []) := by
    intro x hx
    refine ⟨⟨by show (1 : Int) ≤ 3; decide, by show (3 : Int) ≤ 3; decide⟩, ?_, fun _ => hx, ?_, fun _ => rfl, by show 0 ≤ 24; omega, ?_⟩
    · intro h2
      have h2 : (3 : Int) = 1 := h2
      omega
    · intro h2
      have h2 : (3 : Int) = 2 := h2
      omega
    · intro y hy
      cases hy
  unfold bWd at e
  split at e
  · cases e
    exact PoS_leaf h rfl (by show (14 : Int) ≠ 17; decide) (by omega) en (WfP_lit (wt 1 (Or.inr rfl))) (by show (-1 : Int) < S.2.1.1; omega)
  · split at e
    · cases e
      exact PoS_leaf h rfl (by show (14 : Int) ≠ 17; decide) (by omega) en (WfP_lit (wt 0 (Or.inl rfl))) (by show (-1 : Int) < S.2.1.1; omega)
    · split at e
      · cases e
      · next c0 =>
        have ob := (nmO_b c0).1
        split at e
        · cases e
        · next c40 =>
          have c40 : bt t (skp t (rn leB t st.1)) = 40 := Classical.byContradiction c40
          split at e
          · cases e
          · have bb := bt_in (t := t) (k := skp t (rn leB t st.1)) (by omega)
            have ka := skp_b (t := t) (k := rn leB t st.1) (by omega) en
            have kb := skp_b (t := t) (k := skp t (rn leB t st.1) + 1) (by omega) (by omega)
            obtain ⟨q1, q2⟩ := H.2.2.2 _ _ _ _ (skp t (skp t (rn leB t st.1) + 1), st.2) s st.2.1 ob ⟨by show 0 ≤ skp t _; omega, kb.2.1⟩ ⟨[], by rw [List.append_nil]⟩ (ArI_0 h.2) e
            simp only at q1 q2
            refine ⟨⟨q1.1, q1.2.1, ?_, q1.2.2.2⟩, by omega⟩
            have := q1.2.2.1
            simp only at this
            omega
theorem bAt_f {t : Tx} {S : SS} {g : PG} (hI : ∀ v, isShP v S → IdS (shOf v S)) (n0 : 0 ≤ S.2.1.1) (H : PgO t S g) {o : Int} {st s : PS} (h : OkS t st) (e : bAt t S g o st = .inr s) : PoS t S.2.1.1 st.2.1 st s ∧ st.1 < s.1 := by
  unfold bAt at e
  split at e
  · next c => exact pNum_f h c n0 e
  · split at e
    · exact pQuo_f h n0 e
    · split at e
      · next c =>
        cases e
        have b3 := bt_in (t := t) (k := st.1 + 3) (by have := c.2.2.2; omega)
        exact PoS_leaf h rfl (by show (15 : Int) ≠ 17; decide) (by omega) (by omega) (WfP_op (op := 15) (n := 0) ⟨by decide, by decide⟩ (Or.inr rfl) (by decide)) (by show (-1 : Int) < S.2.1.1; omega)
      · split at e
        · next c => exact bBr_f H h c e
        · split at e
          · next c => exact pSpot_f h hI c e
          · split at e
            · next c => exact bWd_f n0 H h c e
            · cases e
theorem bSg_f {t : Tx} {S : SS} {g : PG} (hI : ∀ v, isShP v S → IdS (shOf v S)) (n0 : 0 ≤ S.2.1.1) (H : PgO t S g) {o : Int} {st s : PS} (h : OkS t st) (e : bSg t S g o st = .inr s) : PoS t S.2.1.1 st.2.1 st s ∧ st.1 < s.1 := by
  unfold bSg at e
  split at e
  · next c45 =>
    have b0 := bt_in (t := t) (k := st.1) (by omega)
    have kb := skp_b (t := t) (k := st.1 + 1) (by omega) (by omega)
    split at e
    · cases e
    · obtain ⟨s1, e1, e2⟩ := rb_i e
      obtain ⟨q1, q2⟩ := H.2.1 _ (skp t (st.1 + 1), st.2) s1 ⟨⟨by show 0 ≤ skp t _; omega, kb.2.1⟩, h.2⟩ e1
      simp only at q1 q2
      cases e2
      have sp1 := Seg_p q1.1.1
      have c2 := q1.2.2.1
      simp only at c2
      refine ⟨⟨⟨Seg_1 q1.1.1 rfl (by show ¬ (14 ≤ (13 : Int) ∧ _); omega), by show lastO (s1.2.1 ++ [opP 13 1]) ≠ 17; rw [lastO_snoc]; show (13 : Int) ≠ 17; decide⟩, q1.2.1, ?_, fun l0 => ?_⟩, by show st.1 < s1.1; omega⟩
      · show ((s1.2.1 ++ [opP 13 1]).length : Int) - s1.1 ≤ _
        rw [List.length_append, List.length_singleton]; omega
      · obtain ⟨d1, d2⟩ := q1.2.2.2 l0
        refine ⟨d1, fun gd => GdW_snoc sp1.2.1 (d2 gd) (WfP_op (op := 13) (n := 1) ⟨by decide, by decide⟩ (Or.inl (by decide)) (by decide)) (by show (-1 : Int) < S.2.1.1; omega) (fun k hk => ?_) (fun w0 => by have := sp1.1; omega)⟩
        have hk : (k : Int) < 1 := hk
        have k0 : k = 0 := by omega
        subst k0
        show chO 13 0 (s1.2.1.getD (wlk (spnL s1.2.1) 0 ((s1.2.1.length : Int) - 1)).toNat pd0).1
        rw [wlk, show ((s1.2.1.length : Int) - 1).toNat = s1.2.1.length - 1 by omega]
        exact ⟨fun h17 => absurd h17 q1.1.2, fun h29 => by omega⟩
  · exact bAt_f hI n0 H h e
theorem bAr_f {t : Tx} {S : SS} {g : PG} (hI : ∀ v, isShP v S → IdS (shOf v S)) (n0 : 0 ≤ S.2.1.1) (H : PgO t S g) {op fr o : Int} {cs : List Int} {st s : PS} {ps0 : List Prt} (ho : 18 ≤ op ∧ op ≤ 35) (h : 0 ≤ st.1 ∧ st.1 ≤ t.2.1) (hp : ∃ as, st.2.1 = ps0 ++ as) (ha : ArI ps0.length cs st.2.1) (e : bAr t S g op fr o cs st = .inr s) : PoS t S.2.1.1 ps0 st s ∧ st.1 < s.1 := by
  unfold bAr at e
  obtain ⟨s1, e1, e2⟩ := rb_i e
  have q : PoT t S.2.1.1 st.2.1 st s1 ∧ st.1 < s1.1 := by
    split at e1
    · next c =>
      have := pArea_f ⟨h, ha.1⟩ hI c.1 e1
      exact ⟨this.1, this.2.2⟩
    · have := H.1 _ _ _ _ ⟨h, ha.1⟩ e1
      exact ⟨PoS_T this.1, this.2⟩
  clear e1 e
  obtain ⟨q1, q2⟩ := q
  have ha1 := ArI_s ha q1.1
  obtain ⟨as, has⟩ := hp
  obtain ⟨rs, r1, r2, r3, r4⟩ := id q1.1
  have hp1 : s1.2.1 = ps0 ++ (as ++ rs) := by rw [r1, has, List.append_assoc]
  have c2 := q1.2.2.1
  split at e2
  · next c44 =>
    have b1 := bt_in (t := t) (k := s1.1) (by omega)
    have kb := skp_b (t := t) (k := s1.1 + 1) (by omega) (by omega)
    obtain ⟨u1, u2⟩ := H.2.2.2 op fr o _ (skp t (s1.1 + 1), s1.2) s ps0 ho ⟨by show 0 ≤ skp t _; omega, kb.2.1⟩ ⟨_, hp1⟩ ha1 e2
    simp only at u1 u2
    have c3 := u1.2.2.1
    simp only at c3
    refine ⟨⟨u1.1, u1.2.1, by omega, fun l0 => ?_⟩, by omega⟩
    obtain ⟨a1, a2⟩ := u1.2.2.2 l0
    obtain ⟨d1, d2⟩ := q1.2.2.2 a1
    exact ⟨d1, fun gd => a2 (d2 gd)⟩
  · split at e2
    · next c41 =>
      cases e2
      have b1 := bt_in (t := t) (k := s1.1) (by omega)
      have kb := skp_b (t := t) (k := s1.1 + 1) (by omega) (by omega)
      have nn : cs ++ [lastO s1.2.1] ≠ [] := by simp
      have hae := ArI_e (p := opP op ((cs ++ [lastO s1.2.1]).length : Int)) ha1 nn rfl (by show ¬ (14 ≤ op ∧ op ≤ 17); omega)
      have el := congrArg List.length hp1
      rw [List.length_append] at el
      have l1 : 0 < s1.2.1.length := (Seg_p q1.1).1
      unfold bArE
      refine ⟨⟨⟨⟨as ++ rs ++ [opP op ((cs ++ [lastO s1.2.1]).length : Int)], ?_, ?_, ?_, hae.2⟩, ?_⟩, ⟨kb.2.1, kb.2.2⟩, ?_, fun l0 => ?_⟩, by show st.1 < skp t (s1.1 + 1); omega⟩
      · show s1.2.1 ++ [_] = _
        rw [hp1, List.append_assoc]
      · rw [List.length_append, List.length_singleton]; omega
      · show spE (s1.2.1 ++ [_]) = _
        rw [hae.1, List.length_append (as := as ++ rs), List.length_singleton]; omega
      · show lastO (s1.2.1 ++ [_]) ≠ 17
        rw [lastO_snoc]; show op ≠ 17; omega
      · show ((s1.2.1 ++ [_]).length : Int) - skp t (s1.1 + 1) ≤ _
        rw [List.length_append, List.length_singleton]; omega
      · have l0 : (ci (fitP op (cs ++ [lastO s1.2.1])) s1.2.2 (ltU 4 fr s1.2.2)).1 = 0 := l0
        by_cases ft : fitP op (cs ++ [lastO s1.2.1])
        · rw [ci_1 ft] at l0
          obtain ⟨d1, d2⟩ := q1.2.2.2 l0
          refine ⟨d1, fun gd => ?_⟩
          show GdW S.2.1.1 (s1.2.1 ++ [_])
          refine GdW_snoc ha1.1 (d2 gd) (WfP_op ⟨by omega, by omega⟩ (Or.inl (by omega)) ft.1) (by show (-1 : Int) < S.2.1.1; omega) (fun k hk => ?_) (fun w0 => by omega)
          have hk : (k : Int) < ((cs ++ [lastO s1.2.1]).length : Int) := hk
          have hj := ha1.2.2.2.2.2 ((cs ++ [lastO s1.2.1]).length - 1 - k) (by omega)
          rw [show (cs ++ [lastO s1.2.1]).length - 1 - ((cs ++ [lastO s1.2.1]).length - 1 - k) = k by omega] at hj
          show chO op k (s1.2.1.getD (wlk (spnL s1.2.1) (((cs ++ [lastO s1.2.1]).length : Int).toNat - 1 - k) ((s1.2.1.length : Int) - 1)).toNat pd0).1
          rw [Int.toNat_natCast, hj]
          exact std_ch (ft.2 k (by omega))
        · rw [ci_0 ft] at l0
          exact absurd l0 (lt_n (by decide))
    · cases e2
theorem pg_ok {t : Tx} {S : SS} (hI : ∀ v, isShP v S → IdS (shOf v S)) (n0 : 0 ≤ S.2.1.1) : ∀ n, PgO t S (pg t S n)
  | 0 => ⟨(fun _ _ _ _ _ e => by cases e), (fun _ _ _ _ e => by cases e), (fun _ _ _ _ _ _ _ _ _ _ e => by cases e), (fun _ _ _ _ _ _ _ _ _ _ _ e => by cases e)⟩
  | n + 1 => ⟨fun _ _ _ _ h e => bEx_f (pg_ok hI n0 n) h e, fun _ _ _ h e => bSg_f hI n0 (pg_ok hI n0 n) h e, fun _ _ _ _ _ _ h h2 h3 h4 e => bLo_f n0 (pg_ok hI n0 n) h h2 h3 h4 e, fun _ _ _ _ _ _ _ h h2 h3 h4 e => bAr_f hI n0 (pg_ok hI n0 n) h h2 h3 h4 e⟩
