/-! ===== the system: circles ===== -/
def FoI (h : Sh) (i : Int) : Prop := inI h i ∧ ∃ l ps, ctC h (cdI h i) = some (5, l, ps)
/-- the rows of the formulas' leads -/
def LbC (h : Sh) (g : Int → Int) : Prop := ∀ i j, FoI h i → 0 ≤ j → j < 320 → (BtR g i j ↔ LdI h i j)
theorem Ld_D {h : Sh} (hb : ShB h) {i j : Int} (r : LdI h i j) : FoI h i ∧ 0 ≤ j ∧ j < 320 := by
  obtain ⟨⟨r1, r2⟩, r3, l, ps, e, -⟩ := r
  have := cnt_b hb
  have r2a := r2.1
  have r2b := r2.2
  exact ⟨⟨r1, l, ps, e⟩, r2a, by omega⟩
section Se
variable {z y : Z} {b : Nat → Nat} {h : Sh}
theorem k9_s58 {o m x1 : Int} {Q : (Int × Z) ⊕ Z → Prop} (c : CWz z b) (o0 : 0 ≤ o) (o1 : o < 320) (m0 : 0 ≤ m) (m1 : m < 320) (p : ∀ y, FrZ (WB b [(26, none)]) z y → (∀ k j, 0 ≤ j → j < 320 → (BtR (zG y (b 26)) k j ↔ (BtR (zG z (b 26)) k j ∨ (k = m ∧ BtR (zG z (b 26)) o j)))) → Q (.inl (m + 1, y))) : F_X9_settleCircles_58 (b 4) x1 o m 0 z Q := by
  unfold F_X9_settleCircles_58
  refine lp_I (fun q => ∃ t w, q = (t, w) ∧ (0 ≤ t ∧ t ≤ 5) ∧ FrZ (WB b [(26, none)]) z w ∧ (m = o → ∀ i e, bitL (zG w (b 26) i) e = bitL (zG z (b 26) i) e) ∧ (m ≠ o → ∀ i, zG w (b 26) i = if 5 * m ≤ i ∧ i < 5 * m + t then lOr (zG z (b 26) i) (zG z (b 26) (5 * o + (i - 5 * m))) else zG z (b 26) i)) (fun q => (5 - q.1).toNat) ?_ (0, z) ⟨0, z, rfl, ⟨by omega, by omega⟩, FrZ_rf, fun _ _ _ => rfl, fun _ i => by rw [if_neg (by omega)]⟩
  rintro G _ ⟨t, w, rfl, ⟨t0, t1⟩, f, a1, a2⟩ ih
  have cw : CWz w b := CWz_fr c (WB_L f) (by decide)
  have n26 : zN w (b 26) = 1600 := cN cw 26 rfl rfl
  show L_X9_settleCircles_58 (b 4) x1 o m t w _
  unfold L_X9_settleCircles_58
  by_cases ct : 5 ≤ t
  · rw [if_pos ct]
    show F_X9_settleCircles_95 (b 4) x1 o m w Q
    unfold F_X9_settleCircles_95
    rw [w32e (x := m + 1) (by omega) (by omega)]
    refine p w f (fun k j j0 j1 => ?_)
    by_cases cb2 : m = o
    · have : BtR (zG w (b 26)) k j ↔ BtR (zG z (b 26)) k j := by unfold BtR; rw [a1 cb2]
      rw [this]
      constructor
      · exact fun z => Or.inl z
      · rintro (z | ⟨z1, z2⟩)
        · exact z
        · rw [z1, cb2]; exact z2
    · refine BtR_or j0 j1 (fun w w0 w1 => ?_) (fun i hi => ?_)
      · rw [a2 cb2, if_pos (by omega), show 5 * m + w - 5 * m = w by omega]
      · rw [a2 cb2, if_neg (fun z => hi (i - 5 * m) (by omega) (by omega) (by omega))]
  · rw [if_neg ct, Int.mul_comm m 5, Int.mul_comm o 5, w32e (x := 5 * m) (by omega) (by omega), w32e (x := 5 * m + t) (by omega) (by omega), w32e (x := 5 * o) (by omega) (by omega), w32e (x := 5 * o + t) (by omega) (by omega), w32e (x := t + 1) (by omega) (by omega)]
    refine ⟨cK cw 4 rfl rfl, b 26, cO cw 4 4 26 (by decide), cK cw 26 rfl rfl, by omega, by omega, by omega, by omega, fun v hv => ?_⟩
    subst hv
    refine ih (t + 1, _) ⟨t + 1, _, rfl, ⟨by omega, by omega⟩, FrZ_wG f (Or.inl (WB_a (by decide) (by decide))), fun cb2 i e => ?_, fun cb2 i => ?_⟩ (by show (5 - (t + 1)).toNat < (5 - t).toNat; omega)
    · rw [zG_wG]
      by_cases ci : i = 5 * m + t
      · rw [if_pos ⟨rfl, ci⟩, bit_or, a1 cb2, a1 cb2, ci, ← cb2, Bool.or_self]
      · rw [if_neg (fun z => ci z.2)]; exact a1 cb2 i e
    · rw [zG_wG]
      by_cases ci : i = 5 * m + t
      · rw [if_pos ⟨rfl, ci⟩, if_pos (by omega), a2 cb2, if_neg (by omega), a2 cb2, if_neg (by omega), ci, show 5 * m + t - 5 * m = t by omega]
      · rw [if_neg (fun z => ci z.2), a2 cb2]
        by_cases cr : 5 * m ≤ i ∧ i < 5 * m + t
        · rw [if_pos cr, if_pos (by omega)]
        · rw [if_neg cr, if_neg (by omega)]
/-- the open cells are the formulas -/
def OpF (z : Z) (b : Nat → Nat) (h : Sh) : Prop := ∀ i, 0 ≤ i → i < 320 → (OpC z b i ↔ FoI h i)
theorem Op_26 (c : CWz z b) {L : WR} (hd : wDis L [(27, none)] = true) (f : FrZ (WB b L) z y) : zG y (b 27) = zG z (b 27) := funext (fun i => (f.2 (b 27) i (kbz c (by decide)) (wl_b c hd (by decide) (wHas_a (by decide)))).2.1)
theorem k9_s25 {o : Int} {Q : (Int × Z) ⊕ Z → Prop} (c : CWz z b) (hb : ShB h) (O : OpF z b h) (o0 : 0 ≤ o) (o1 : o < h.1.1 * h.1.2) (p : ∀ y, FrZ (WB b [(26, none)]) z y → (FoI h o → WsI (FoI h) (BtR (zG z (b 26))) (BtR (zG y (b 26))) o (h.1.1 * h.1.2)) → (¬ FoI h o → zG y (b 26) = zG z (b 26)) → Q (.inl (o + 1, y))) : F_X9_settleCircles_25 (b 4) (h.1.1 * h.1.2) o 0 z Q := by
  have cb := cnt_b hb
  have I0 : WsI (FoI h) (BtR (zG z (b 26))) (BtR (zG z (b 26))) o 0 := WsI_0 (fun k hk => by have := hk.1.1; omega)
  generalize hN : h.1.1 * h.1.2 = N at *
  unfold F_X9_settleCircles_25
  refine lp_I (fun q => ∃ m w, q = (m, w) ∧ (0 ≤ m ∧ m ≤ N) ∧ FrZ (WB b [(26, none)]) z w ∧ (FoI h o → WsI (FoI h) (BtR (zG z (b 26))) (BtR (zG w (b 26))) o m) ∧ (¬ FoI h o → w = z)) (fun q => (N - q.1).toNat) ?_ (0, z) ⟨0, z, rfl, ⟨by omega, by omega⟩, FrZ_rf, fun _ => I0, fun _ => rfl⟩
  rintro G _ ⟨m, w, rfl, ⟨m0, m1⟩, f, a1, a2⟩ ih
  have cw : CWz w b := CWz_fr c (WB_L f) (by decide)
  have Ow : ∀ i, 0 ≤ i → i < 320 → (OpC w b i ↔ FoI h i) := fun i i0 i1 => by
    unfold OpC; rw [Op_26 c (by decide) f]; exact O i i0 i1
  show L_X9_settleCircles_25 (b 4) N o m w _
  unfold L_X9_settleCircles_25
  have out : (N ≤ m ∨ ¬ FoI h o) → F_X9_settleCircles_101 (b 4) N o w Q := fun hx => by
    unfold F_X9_settleCircles_101
    rw [w32e (x := o + 1) (by omega) (by omega)]
    refine p w f (fun ho => ?_) (fun ho => by rw [a2 ho])
    rcases hx with hx | hx
    · have e : m = N := by omega
      rw [← e]; exact a1 ho
    · exact absurd ho hx
  by_cases cm : N ≤ m
  · rw [if_pos cm]; exact out (Or.inl cm)
  rw [if_neg cm]
  refine ⟨cK cw 4 rfl rfl, k9_isOpen cw o0 (by omega) (fun ho => ?_) (fun ho => ?_)⟩
  · rw [if_neg (by decide)]
    have fo := (Ow o o0 (by omega)).mp ho
    have b1 := a1 fo
    have next : ∀ v, FrZ (WB b [(26, none)]) w v → WsI (FoI h) (BtR (zG z (b 26))) (BtR (zG v (b 26))) o (m + 1) → G (m + 1, v) := fun v fv hv => ih (m + 1, v) ⟨m + 1, v, rfl, ⟨by omega, by omega⟩, FrZ_tr f fv, fun _ => hv, fun n => absurd fo n⟩ (by show (N - (m + 1)).toNat < (N - m).toNat; omega)
    have stay : ¬ (FoI h m ∧ BtR (zG w (b 26)) m o) → G (m + 1, w) := fun hn => next w FrZ_rf (WsI_s fo o0 (by omega) b1 (fun d1 d2 => absurd ⟨d1, d2⟩ hn) (fun _ k j _ _ _ => Iff.rfl))
    refine k9_isOpen cw m0 (by omega) (fun hm => ?_) (fun hm => ?_)
    · rw [if_neg (by decide)]
      have fm := (Ow m m0 (by omega)).mp hm
      refine k9_reaches cw m0 (by omega) o0 (by omega) (fun hr => ?_) (fun hr => ?_)
      · rw [if_neg (by decide)]
        refine k9_s58 cw o0 (by omega) m0 (by omega) (fun v fv hv => ?_)
        exact next v fv (WsI_s fo o0 (by omega) b1 (fun _ _ k j _ j0 j1 => hv k j j0 j1) (fun hn => absurd ⟨fm, hr⟩ hn))
      · rw [if_pos rfl]
        unfold F_X9_settleCircles_95
        rw [w32e (x := m + 1) (by omega) (by omega)]
        exact stay (fun d => hr d.2)
    · rw [if_pos rfl]
      unfold F_X9_settleCircles_95
      rw [w32e (x := m + 1) (by omega) (by omega)]
      exact stay (fun d => hm ((Ow m m0 (by omega)).mpr d.1))
  · rw [if_pos rfl]
    exact out (Or.inr (fun d => ho ((Ow o o0 (by omega)).mpr d)))
theorem k9_s18 {P : Z → Prop} (c : CWz z b) (hb : ShB h) (O : OpF z b h) (B0 : WsH (LdI h) (FoI h) (BtR (zG z (b 26))) 0) (p : ∀ y, FrZ (WB b [(26, none)]) z y → (∀ k j, FoI h k → 0 ≤ j → j < 320 → (BtR (zG y (b 26)) k j ↔ rch (LdI h) k j)) → F_X9_settleCircles_109 (b 4) (h.1.1 * h.1.2) 0 y P) : F_X9_settleCircles_18 (b 4) (h.1.1 * h.1.2) 0 z P := by
  have cb := cnt_b hb
  unfold F_X9_settleCircles_18
  refine lp_I (fun q => ∃ x w, q = (x, w) ∧ (0 ≤ x ∧ x ≤ h.1.1 * h.1.2) ∧ FrZ (WB b [(26, none)]) z w ∧ WsH (LdI h) (FoI h) (BtR (zG w (b 26))) x) (fun q => (h.1.1 * h.1.2 - q.1).toNat) ?_ (0, z) ⟨0, z, rfl, ⟨by omega, by omega⟩, FrZ_rf, B0⟩
  rintro G _ ⟨x, w, rfl, ⟨x0, x1⟩, f, H⟩ ih
  have cw : CWz w b := CWz_fr c (WB_L f) (by decide)
  have Ow : OpF w b h := fun i i0 i1 => by unfold OpC; rw [Op_26 c (by decide) f]; exact O i i0 i1
  show L_X9_settleCircles_18 (b 4) (h.1.1 * h.1.2) x w _
  unfold L_X9_settleCircles_18
  by_cases cx : h.1.1 * h.1.2 ≤ x
  · rw [if_pos cx]
    have e : x = h.1.1 * h.1.2 := by omega
    rw [e] at H
    exact p w f (fun k j hk j0 j1 => WsH_e (fun k hk => ⟨hk.1.1, hk.1.2, by have := hk.1.2; omega⟩) H hk j0 j1)
  rw [if_neg cx]
  refine k9_s25 cw hb Ow x0 (by omega) (fun v fv h1 h2 => ?_)
  refine ih (x + 1, v) ⟨x + 1, v, rfl, ⟨by omega, by omega⟩, FrZ_tr f fv, ?_⟩ (by show (_ - (x + 1)).toNat < (_ - x).toNat; omega)
  by_cases fo : FoI h x
  · exact WsH_s (m := h.1.1 * h.1.2) fo x0 (by omega) (fun k hk => hk.1.2) H (h1 fo)
  · rw [h2 fo]; exact WsH_n fo H
end Se
