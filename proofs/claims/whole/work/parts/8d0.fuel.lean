/-! ===== the pure parser ends; a formula ===== -/
theorem gd_in {r : PR} {k : PS → PR} (h1 : gdP r) (h2 : ∀ s, r = .inr s → gdP (k s)) : gdP (rb r k) := by
  cases r with
  | inl e => exact h1
  | inr s => exact h2 s rfl
theorem gd_l {k p : Int} (h : 0 < k) : gdP (.inl (k, p)) := by
  intro e he
  cases he
  exact h
theorem gd_r {s : PS} : gdP (.inr s) := by
  intro e he
  cases he
theorem qu_1 {t : Tx} {k0 : Int} : ∀ (f : Nat) (i : Int) (e : Int × Int), qu t k0 f i = .inl e → e.1 = 1
  | 0, _, _, h => by cases h; rfl
  | f + 1, i, e, h => by
    rw [qu] at h
    split at h
    · cases h
    · split at h
      · cases h; rfl
      · split at h
        · cases h; rfl
        · split at h
          · cases h; rfl
          · exact qu_1 f (i + 1) e h
theorem gd_num {t : Tx} {st : PS} : gdP (pNum t st) := by
  unfold pNum
  split
  · exact gd_l (by decide)
  · exact gd_r
theorem gd_quo {t : Tx} {st : PS} : gdP (pQuo t st) := by
  unfold pQuo
  split
  · next e hq =>
    have := qu_1 _ _ _ hq
    intro e' he
    cases he
    omega
  · exact gd_r
theorem gd_spot {t : Tx} {S : SS} {st : PS} : gdP (pSpot t S st) := by
  unfold pSpot
  split
  · exact gd_l (by decide)
  · exact gd_r
theorem gd_area {t : Tx} {S : SS} {st : PS} : gdP (pArea t S st) := by
  unfold pArea
  split
  · split
    · exact gd_l (by decide)
    · exact gd_r
  · exact gd_l (by decide)
def GdQ (t : Tx) (S : SS) (n : Nat) : Prop := (∀ l o st, OkS t st → 4 * (t.2.1 - st.1) + 3 ≤ (n : Int) → gdP ((pg t S n).1 l o st)) ∧ (∀ o st, OkS t st → 4 * (t.2.1 - st.1) + 2 ≤ (n : Int) → gdP ((pg t S n).2.1 o st)) ∧ (∀ l o c st ps0, (0 ≤ st.1 ∧ st.1 ≤ t.2.1) → bt t st.1 ≠ 32 → Seg ps0 st.2.1 → lastO st.2.1 ≠ 17 → 4 * (t.2.1 - st.1) + 1 ≤ (n : Int) → gdP ((pg t S n).2.2.1 l o c st)) ∧ ∀ op fr o cs st ps0, (18 ≤ op ∧ op ≤ 35) → (0 ≤ st.1 ∧ st.1 ≤ t.2.1) → (∃ as, st.2.1 = ps0 ++ as) → ArI ps0.length cs st.2.1 → 4 * (t.2.1 - st.1) + 4 ≤ (n : Int) → gdP ((pg t S n).2.2.2 op fr o cs st)
theorem GdQ_s {t : Tx} {S : SS} {n : Nat} (hI : ∀ v, isShP v S → IdS (shOf v S)) (G : PgO t S (pg t S n)) (H : GdQ t S n) : GdQ t S (n + 1) := by
  refine ⟨fun l o st ok hn => ?_, fun o st ok hn => ?_, fun l o c st ps0 hst b32 sg l17 hn => ?_, fun op fr o cs st ps0 hop hst hps ha hn => ?_⟩
  · show gdP (bEx (pg t S n) l o st)
    unfold bEx
    refine gd_in (H.2.1 o st ok (by omega)) (fun s1 e1 => ?_)
    obtain ⟨q1, q2⟩ := G.2.1 o st s1 ok e1
    exact H.2.2.1 l o false s1 st.2.1 ⟨by have := ok.1.1; omega, q1.2.1.1⟩ q1.2.1.2 q1.1.1 q1.1.2 (by omega)
  · show gdP (bSg t S (pg t S n) o st)
    have h0 := ok.1.1
    unfold bSg
    split
    · next c45 =>
      have bi := bt_in (t := t) (k := st.1) (by omega)
      have kb := skp_b (t := t) (k := st.1 + 1) (by omega) (by omega)
      split
      · exact gd_l (by decide)
      · exact gd_in (H.2.1 _ (skp t (st.1 + 1), st.2) ⟨⟨by show 0 ≤ skp t _; omega, kb.2.1⟩, ok.2⟩ (by show 4 * (t.2.1 - skp t (st.1 + 1)) + 2 ≤ _; omega)) (fun s1 _ => gd_r)
    · unfold bAt
      split
      · exact gd_num
      · split
        · exact gd_quo
        · split
          · exact gd_r
          · split
            · next c40 =>
              have bi := bt_in (t := t) (k := st.1) (by omega)
              have kb := skp_b (t := t) (k := st.1 + 1) (by omega) (by omega)
              unfold bBr
              split
              · exact gd_l (by decide)
              · refine gd_in (H.1 _ _ (skp t (st.1 + 1), st.2) ⟨⟨by show 0 ≤ skp t _; omega, kb.2.1⟩, ok.2⟩ (by show 4 * (t.2.1 - skp t (st.1 + 1)) + 3 ≤ _; omega)) (fun s1 _ => ?_)
                split
                · exact gd_r
                · exact gd_l (by decide)
            · split
              · exact gd_spot
              · split
                · next cle =>
                  have b0 := rn_b (p := leB) (t := t) leB_n h0
                  have b1 := rn_1 (t := t) leB_n h0 cle
                  have b2 := rn_b (p := leB) (t := t) (k := st.1 + 1) leB_n (by omega)
                  have bi := bt_in (t := t) (k := st.1) (fun w0 => by rw [w0] at cle; cases cle)
                  unfold bWd
                  split
                  · exact gd_r
                  · split
                    · exact gd_r
                    · split
                      · exact gd_l (by decide)
                      · next c0 =>
                        split
                        · exact gd_l (by decide)
                        · next c40 =>
                          have c40 : bt t (skp t (rn leB t st.1)) = 40 := Classical.byContradiction c40
                          split
                          · exact gd_l (by decide)
                          · have bb := bt_in (t := t) (k := skp t (rn leB t st.1)) (by omega)
                            have ka := skp_b (t := t) (k := rn leB t st.1) (by omega) (by omega)
                            have kb := skp_b (t := t) (k := skp t (rn leB t st.1) + 1) (by omega) (by omega)
                            exact H.2.2.2 _ _ _ _ (skp t (skp t (rn leB t st.1) + 1), st.2) st.2.1 (nmO_b c0).1 ⟨by show 0 ≤ skp t _; omega, kb.2.1⟩ ⟨[], by rw [List.append_nil]⟩ (ArI_0 ok.2) (by show 4 * (t.2.1 - skp t (skp t (rn leB t st.1) + 1)) + 4 ≤ _; omega)
                · exact gd_l (by decide)
  · show gdP (bLo t (pg t S n) l o c st)
    unfold bLo
    split
    · exact gd_r
    · next cc =>
      have hop : sgO t st.1 ≠ 0 := fun w0 => cc (Or.inl w0)
      have sb := sgO_b t st.1
      have sn := sgO_n hop
      have kb := skp_b (t := t) (k := st.1 + sgN (sgO t st.1)) (by omega) sn.2.1
      have sp := Seg_p sg
      refine gd_in (H.1 _ _ (skp t (st.1 + sgN (sgO t st.1)), st.2) ⟨⟨by show 0 ≤ skp t _; omega, kb.2.1⟩, sp.2.1⟩ (by show 4 * (t.2.1 - skp t _) + 3 ≤ _; omega)) (fun s1 e1 => ?_)
      obtain ⟨q1, q2⟩ := G.1 _ _ (skp t (st.1 + sgN (sgO t st.1)), st.2) s1 ⟨⟨by show 0 ≤ skp t _; omega, kb.2.1⟩, sp.2.1⟩ e1
      simp only at q2
      refine H.2.2.1 l o _ (addP (opP (sgO t st.1) 2) s1.1 s1) ps0 ⟨by show 0 ≤ s1.1; omega, q1.2.1.1⟩ q1.2.1.2 (Seg_2 sg q1.1.1 rfl (by show ¬ (14 ≤ sgO t st.1 ∧ _); omega)) ?_ (by show 4 * (t.2.1 - s1.1) + 1 ≤ _; omega)
      show lastO (s1.2.1 ++ [_]) ≠ 17
      rw [lastO_snoc]
      show sgO t st.1 ≠ 17
      omega
  · show gdP (bAr t S (pg t S n) op fr o cs st)
    unfold bAr
    refine gd_in ?_ (fun s1 e1 => ?_)
    · split
      · exact gd_area
      · exact H.1 _ _ st ⟨hst, ha.1⟩ (by omega)
    · have q : PoT t S.2.1.1 st.2.1 st s1 ∧ st.1 < s1.1 := by
        split at e1
        · next c =>
          have := pArea_f ⟨hst, ha.1⟩ hI c.1 e1
          exact ⟨this.1, this.2.2⟩
        · have := G.1 _ _ _ _ ⟨hst, ha.1⟩ e1
          exact ⟨PoS_T this.1, this.2⟩
      obtain ⟨q1, q2⟩ := q
      obtain ⟨as, has⟩ := hps
      obtain ⟨rs, r1, -⟩ := id q1.1
      split
      · next c44 =>
        have b1 := bt_in (t := t) (k := s1.1) (by omega)
        have kb := skp_b (t := t) (k := s1.1 + 1) (by omega) (by omega)
        exact H.2.2.2 op fr o _ (skp t (s1.1 + 1), s1.2) ps0 hop ⟨by show 0 ≤ skp t _; omega, kb.2.1⟩ ⟨as ++ rs, by show s1.2.1 = _; rw [r1, has, List.append_assoc]⟩ (ArI_s ha q1.1) (by show 4 * (t.2.1 - skp t (s1.1 + 1)) + 4 ≤ _; omega)
      · split
        · exact gd_r
        · exact gd_l (by decide)
theorem GdQ_n {t : Tx} {S : SS} (hI : ∀ v, isShP v S → IdS (shOf v S)) (n0 : 0 ≤ S.2.1.1) : ∀ n, GdQ t S n
  | 0 => ⟨fun l o st ok hn => by have := ok.1.2; omega, fun o st ok hn => by have := ok.1.2; omega, fun l o c st ps0 hst _ _ _ hn => by omega, fun op fr o cs st ps0 _ hst _ _ hn => by omega⟩
  | n + 1 => GdQ_s hI (pg_ok hI n0 n) (GdQ_n hI n0 n)
/-- a formula from place a on ('=' stands at a): a fault, or its parts -/
noncomputable def pRead (t : Tx) (S : SS) (a : Int) : PR := (pg t S (4 * t.2.1 + 7).toNat).1 1 0 (skp t (a + 1), [], (0, 0))
noncomputable def pForm (t : Tx) (S : SS) (a : Int) : (Int × Int) ⊕ List Prt := match pRead t S a with
  | .inl e => .inl e
  | .inr s => if s.1 < t.2.1 then .inl (1, s.1) else if s.2.2.1 ≠ 0 then .inl s.2.2 else if 60 < s.2.1.length then .inl (5, t.2.2) else .inr s.2.1
theorem SpF_0 : SpF [] := fun i hi => by cases hi
theorem GdW_0 (nv : Int) : GdW nv [] := fun i hi => by cases hi
theorem pRead_g {t : Tx} {S : SS} {a : Int} (hI : ∀ v, isShP v S → IdS (shOf v S)) (n0 : 0 ≤ S.2.1.1) (h0 : 0 ≤ a) (h1 : a < t.2.1) : gdP (pRead t S a) ∧ ∀ s, pRead t S a = .inr s → PoS t S.2.1.1 [] (skp t (a + 1), [], (0, 0)) s ∧ skp t (a + 1) < s.1 := by
  have kb := skp_b (t := t) (k := a + 1) (by omega) (by omega)
  have ok : OkS t (skp t (a + 1), [], (0, 0)) := ⟨⟨by show 0 ≤ skp t _; omega, kb.2.1⟩, SpF_0⟩
  exact ⟨(GdQ_n hI n0 _).1 1 0 (skp t (a + 1), [], (0, 0)) ok (by show 4 * (t.2.1 - skp t (a + 1)) + 3 ≤ (((4 * t.2.1 + 7).toNat : Nat) : Int); omega), fun s e => (pg_ok hI n0 _).1 1 0 (skp t (a + 1), [], (0, 0)) s ok e⟩
theorem pForm_f {t : Tx} {S : SS} {a : Int} {ps : List Prt} (hI : ∀ v, isShP v S → IdS (shOf v S)) (n0 : 0 ≤ S.2.1.1) (h0 : 0 ≤ a) (h1 : a < t.2.1) (e : pForm t S a = .inr ps) : ((1 ≤ ps.length ∧ ps.length ≤ 60) ∧ WfF ps) ∧ ∀ i : Nat, i < ps.length → WfP (ps.getD i pd0) ∧ (ps.getD i pd0).2.2.2.2.2 < S.2.1.1 := by
  unfold pForm at e
  obtain ⟨g1, g2⟩ := pRead_g hI n0 h0 h1
  split at e
  · cases e
  · next s hs =>
    split at e
    · cases e
    · split at e
      · cases e
      · next c2 =>
        split at e
        · cases e
        · next c3 =>
          cases e
          obtain ⟨q1, q2⟩ := g2 s hs
          obtain ⟨⟨⟨rs, r1, r2, r3, r4⟩, l17⟩, -, -, q4⟩ := q1
          have lt0 : s.2.2.1 = 0 := Classical.byContradiction c2
          have gw := (q4 lt0).2 (GdW_0 _)
          have el := congrArg List.length r1
          rw [List.length_append, List.length_nil] at el
          refine ⟨⟨⟨by omega, by omega⟩, fun i hi => ⟨⟨(r4 i hi).1, (r4 i hi).2.1⟩, fun k hk => (gw i hi).2 k hk⟩, ?_, l17⟩, fun i hi => (gw i hi).1⟩
          unfold spE at r3
          omega
