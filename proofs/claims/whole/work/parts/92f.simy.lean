/-! ===== the calls keep the relation: commit, copy, enter ===== -/
theorem pCommit_f {S : SS} : (pCommit S).1 ≤ 2 ∧ ((pCommit S).1 ≠ 0 → (pCommit S).2.2 = S) ∧ ((pCommit S).1 = 0 → ((pCommit S).2.2.2.1.1 = S.2.1.1 + 1 ∧ (∀ v, v < S.2.1.1 → (pCommit S).2.2.2.1.2.1 v = S.2.1.2.1 v) ∧ (pCommit S).2.2.2.2.2.1.1 = S.2.2.2.1.1)) ∧ (pCommit S).2.2.1 = S.1 ∧ (pCommit S).2.2.2.2.1.2.2.2.1 = S.2.2.1.2.2.2.1 ∧ ∀ a, nxt (pCommit S).2.2 a = nxt S a := by
  unfold pCommit
  by_cases e : 0 < pUns S
  · rw [if_pos e]; exact ⟨(by show (1 : Nat) ≤ 2; decide), fun _ => rfl, fun h => (by cases h), rfl, rfl, fun _ => rfl⟩
  · rw [if_neg e]
    by_cases e2 : S.2.1.1 < 40
    · rw [if_pos e2]
      refine ⟨Nat.zero_le _, fun h => absurd rfl h, fun _ => ⟨rfl, fun v hv => ?_, rfl⟩, rfl, rfl, fun _ => rfl⟩
      show (if v = S.2.1.1 then S.2.2.2.1.1 else S.2.1.2.1 v) = S.2.1.2.1 v
      rw [if_neg (by omega)]
    · rw [if_neg e2]; exact ⟨Nat.le_refl _, fun _ => rfl, fun h => (by cases h), rfl, rfl, fun _ => rfl⟩
theorem s_commit : Sm12 SRv := by
  refine simX_of (fun n mc ms z u b I S hw R M V => ?_)
  obtain ⟨hB, B, A, wI, M', hM, hT⟩ := VV_f hw R M V
  obtain ⟨ht, h0, h1, s1, s3, s4⟩ := pCommit_f (S := S)
  have pv : PV (pCommit S).2.2 := PV_commit hB V.2.1
  have nx := V.2.2.1
  have rm := V.2.2.2.2.2
  have n0 := hB.2.1.1
  have kz : (pCommit S).1 ≠ 0 → KC z b (pCommit S).2.2 (ptZ z b S + 1) := fun e => by
    rw [h0 e]; exact fun _ => ⟨I, R, V.2.2.2.1, Nat.le_succ _⟩
  refine ⟨(pCommit S).1, (pCommit S).2.1, (pCommit S).2.2, ptZ z b S + 1, 6, 2, 324, 2, ⟨ht, by omega⟩, ⟨pv, ⟨by rw [s4]; have := nx.1; omega, by rw [s4]; have := nx.2; omega⟩, ⟨by have := rm.1; omega, by have := rm.2; omega⟩, ?_, ?_⟩, ⟨by decide, by decide⟩, ?_, fun hm g m => ?_⟩
  · rw [s1, s3]; have := rm.1; omega
  · rw [s1, s3]; have := rm.2; omega
  · refine T_X11_commit (t0 := b 0) hw (o_commit (c := 2) (s := 324) (P := fun x y => (pCommit S).1 = 0 ∧ x = (pCommit S).2.1 ∧ KC y b (pCommit S).2.2 (ptZ z b S + 1)) (X := fun k y => (0 < (pCommit S).1 ∧ exs.getD k "" = ["java/lang/IllegalStateException", "java/lang/UnsupportedOperationException"].getD ((pCommit S).1 - 1) "") ∧ KC y b (pCommit S).2.2 (ptZ z b S + 1)) R (Nat.le_refl _) (Nat.le_refl _) (fun e => ⟨⟨by omega, by rw [e]; rfl⟩, kz (by omega)⟩) (fun e => ⟨⟨by omega, by rw [e]; rfl⟩, kz (by omega)⟩) (fun e y J g f Ry hq => ⟨e, rfl, fun wy => ?_⟩))
    obtain ⟨q, hq⟩ := hq
    obtain ⟨g1, g2, g3⟩ := h1 e
    obtain ⟨sv, sb, Ca⟩ := V.2.2.2.1
    obtain ⟨Cy, un⟩ := Cac_com R A Ca g (WzN_of (WzI_of wy)) Ry f (by decide) (by decide) g1 (fun v _ v1 => g2 v v1) g3 hq
    exact ⟨J, Ry, ⟨sv, sb, Cy⟩, pt_com un (by omega) g1⟩
  · refine T_X12_commit m (i_commit (P := fun x v => x = (pCommit S).2.1 ∧ mI v 0 0 = ((pCommit S).1 : Int) ∧ KM v n (pCommit S).2.2) hB M' (fun v Rv f e => ⟨rfl, e.1, Rv, fun hB' hm' => ?_⟩))
    have A' : ShA (pCommit S).2.2 := ShA_of hB' Rv (PV_Vr pv)
    have Bv := CoB_of hB' Rv (by omega) hm'
    by_cases c : (pCommit S).1 = 0
    · obtain ⟨g1, g2, g3⟩ := h1 c
      exact NdS_com hB' Rv Bv A A' V.2.2.2.2.1 f (by decide) g1 (fun v _ v1 => g2 v v1) g3 e.2
    · exact NdS_call Rv Bv A' V.2.2.2.2.1 f (by decide) (by rw [h0 c]) (Or.inr ⟨e.2, by rw [h0 c], by rw [h0 c]⟩)
theorem sumN_0 {g : Int → Int} (h : ∀ k, 0 ≤ g k) : ∀ (m : Nat) (k : Int), 0 ≤ sumN g m k
  | 0, _ => Int.le_refl _
  | m + 1, k => by
    have := sumN_0 h m (k + 1)
    have := h k
    rw [sumN]; omega
theorem pCopy_f {r c r2 c2 ar ac : Int} {S : SS} (hm : S.2.2.1.2.2.2.1 ≤ 60000) : (pCopy r c r2 c2 ar ac S).1 ≤ 3 ∧ ((pCopy r c r2 c2 ar ac S).1 ≠ 0 → (pCopy r c r2 c2 ar ac S).2.2 = S) ∧ (pCopy r c r2 c2 ar ac S).2.2.1 = S.1 ∧ (pCopy r c r2 c2 ar ac S).2.2.2.1 = S.2.1 ∧ (S.2.2.1.2.2.2.1 ≤ (pCopy r c r2 c2 ar ac S).2.2.2.2.1.2.2.2.1 ∧ (pCopy r c r2 c2 ar ac S).2.2.2.2.1.2.2.2.1 ≤ 60000) ∧ ∀ a, nxt (pCopy r c r2 c2 ar ac S).2.2 a = nxt S a := by
  unfold pCopy
  by_cases e : (hasS S.2.2.2.1.1 r c ∧ hasS S.2.2.2.1.1 r2 c2) ∧ hasS S.2.2.2.1.1 ar ac
  · rw [if_pos e]
    by_cases e1 : r ≤ r2 ∧ c ≤ c2
    · rw [if_pos e1]
      have m0 : 0 ≤ moreP S.2.2.2.1.1 r c (cpH S.2.2.2.1.1 r r2 ar) (cpW S.2.2.2.1.1 c c2 ac) := sumN_0 (fun k => by unfold pcK; omega) _ _
      generalize hmo : moreP S.2.2.2.1.1 r c (cpH S.2.2.2.1.1 r r2 ar) (cpW S.2.2.2.1.1 c c2 ac) = mo at m0 ⊢
      by_cases e2 : S.2.2.1.2.2.2.1 + mo ≤ 60000
      · rw [if_pos e2]
        exact ⟨Nat.zero_le _, fun h => absurd rfl h, rfl, rfl, ⟨by show S.2.2.1.2.2.2.1 ≤ S.2.2.1.2.2.2.1 + mo; omega, e2⟩, fun _ => rfl⟩
      · rw [if_neg e2]; exact ⟨Nat.le_refl _, fun _ => rfl, rfl, rfl, ⟨Int.le_refl _, hm⟩, fun _ => rfl⟩
    · rw [if_neg e1]; exact ⟨(by show (2 : Nat) ≤ 3; decide), fun _ => rfl, rfl, rfl, ⟨Int.le_refl _, hm⟩, fun _ => rfl⟩
  · rw [if_neg e]; exact ⟨(by show (1 : Nat) ≤ 3; decide), fun _ => rfl, rfl, rfl, ⟨Int.le_refl _, hm⟩, fun _ => rfl⟩
theorem s_copy : Sm8 SRv := by
  intro p0 p1 p2 p3 p4 p5
  refine simX_of (fun n mc ms z u b I S hw R M V => ?_)
  obtain ⟨hB, B, A, wI, M', hM, hT⟩ := VV_f hw R M V
  obtain ⟨ht, h0, s1, s2, s3, s4⟩ := pCopy_f (r := p0.toInt) (c := p1.toInt) (r2 := p2.toInt) (c2 := p3.toInt) (ar := p4.toInt) (ac := p5.toInt) (S := S) hM.2
  have pv : PV (pCopy p0.toInt p1.toInt p2.toInt p3.toInt p4.toInt p5.toInt S).2.2 := PV_copy hB V.2.1
  have nx := V.2.2.1
  have rm := V.2.2.2.2.2
  have vr : ∀ a d, 0 ≤ a → a < S.2.2.2.1.1.1.1 → 0 ≤ d → d < S.2.2.2.1.1.1.2 → VrC S.2.1.1 (S.2.2.2.1.1.2.2.2 a d) := V.2.1.2.1.1
  have wf : ∀ a d, 0 ≤ a → a < S.2.2.2.1.1.1.1 → 0 ≤ d → d < S.2.2.2.1.1.1.2 → WfC (S.2.2.2.1.1.2.2.2 a d) ∧ VrC S.2.1.1 (S.2.2.2.1.1.2.2.2 a d) := fun a d a0 a1 d0 d1 => ⟨ShM_CoW M.2.2.2.2.1.1 a d a0 a1 d0 d1, vr a d a0 a1 d0 d1⟩
  have his := PV_Id V.2.1
  generalize hp : pCopy p0.toInt p1.toInt p2.toInt p3.toInt p4.toInt p5.toInt S = q at ht h0 s1 s2 s3 s4 pv
  have kz : q.1 ≠ 0 → KC z b q.2.2 (ptZ z b S) := fun e => by rw [h0 e]; exact KC_z R V
  refine ⟨q.1, q.2.1, q.2.2, ptZ z b S, 7, (3 * (q.2.2.2.2.1.2.2.2.1 - S.2.2.1.2.2.2.1) + 2).toNat, (13 * (q.2.2.2.2.1.2.2.2.1 - S.2.2.1.2.2.2.1) + 324).toNat, 6, ⟨ht, by omega⟩, ⟨pv, ⟨by rw [s4]; have := nx.1; omega, by rw [s4]; have := nx.2; omega⟩, ⟨by have := rm.1; omega, by have := rm.2; omega⟩, ?_, ?_⟩, ⟨by decide, by decide⟩, ?_, fun hm g m => ?_⟩
  · rw [s1]; have := rm.1; omega
  · rw [s1]; have := rm.2; omega
  · have D := T_X11_copy (t0 := b 0) (R32_p p0) (R32_p p1) (R32_p p2) (R32_p p3) (R32_p p4) (R32_p p5) hw (o_copy (cc := (3 * (q.2.2.2.2.1.2.2.2.1 - S.2.2.1.2.2.2.1) + 2).toNat) (ss := (13 * (q.2.2.2.2.1.2.2.2.1 - S.2.2.1.2.2.2.1) + 324).toNat) (P := fun x y => q.1 = 0 ∧ x = q.2.1 ∧ KC y b q.2.2 (ptZ z b S)) (X := fun k y => (0 < q.1 ∧ exs.getD k "" = ["java/lang/IndexOutOfBoundsException", "java/lang/IllegalArgumentException", "java/lang/UnsupportedOperationException"].getD (q.1 - 1) "") ∧ KC y b q.2.2 (ptZ z b S)) R wf his (fun _ => by rw [hp]; omega) (fun _ => by rw [hp]; omega) (by omega) (by omega) (fun e => by rw [hp] at e; exact ⟨⟨by omega, by rw [e]; rfl⟩, kz (by omega)⟩) (fun e => by rw [hp] at e; exact ⟨⟨by omega, by rw [e]; rfl⟩, kz (by omega)⟩) (fun e => by rw [hp] at e; exact ⟨⟨by omega, by rw [e]; rfl⟩, kz (by omega)⟩) (fun e y J g f Ry wn => by rw [hp] at e Ry ⊢; exact ⟨e, rfl, KC_show R V g f Ry (WkN_S wn) (by decide) (by decide) s2⟩))
    simpa only [ii_p] using D
  · have D := T_X12_copy (R32_p p0) (R32_p p1) (R32_p p2) (R32_p p3) (R32_p p4) (R32_p p5) m (i_copy (P := fun x v => x = q.2.1 ∧ mI v 0 0 = (q.1 : Int) ∧ KM v n q.2.2) hB M' (by omega) hM vr his (fun v Rv f e => by rw [hp] at Rv e ⊢; exact ⟨rfl, e.1, KM_c V pv s2 Rv f e.2 (by decide)⟩))
    simpa only [ii_p] using D
theorem o_enter1 {z : Z} {b : Nat → Nat} {I : Nat → Prop} {S : SS} {r c : Int} {cc ss : Nat} {P : Int → Z → Prop} {X : Nat → Z → Prop} (R : RC z b I S) (eh : ¬ hasS S.2.2.2.1.1 r c) (hc : 1 ≤ cc) (hs : 6 ≤ ss) (hx : X 0 z) : F_X11_enter (b 0) r c z cc ss P X := by
  obtain ⟨cw, fr, ht, hl, hb, hk, hq⟩ := id R
  obtain ⟨wa, hwa, sw⟩ := hk.1
  obtain ⟨ra0, ca0, xa0, Sp0, -⟩ := id sw
  unfold F_X11_enter
  refine ⟨cK cw 0 rfl rfl, wa, hwa, ShC_7 sw, k_has Sp0 ?_⟩
  rw [show tb ((1 ≤ r ∧ r ≤ S.2.2.2.1.1.1.1) ∧ 1 ≤ c ∧ c ≤ S.2.2.2.1.1.1.2) = 0 by rw [tb, if_neg eh], if_pos rfl]
  exact ⟨hc, hs, hx⟩
theorem pEnter_f {r c : Int} {S : SS} (hm : S.2.2.1.2.2.2.1 ≤ 60000) (eh : hasS S.2.2.2.1.1 r c) : ((pEnter r c S).1 = 0 ∨ (pEnter r c S).1 = 2 ∨ (pEnter r c S).1 = 3) ∧ (pEnter r c S).2.2.1.1 = 0 ∧ (pEnter r c S).2.2.2.1 = S.2.1 ∧ ((pEnter r c S).1 ≠ 0 → (pEnter r c S).2.2.2.2.2.1.1 = S.2.2.2.1.1) ∧ (S.2.2.1.2.2.2.1 ≤ (pEnter r c S).2.2.2.2.1.2.2.2.1 ∧ (pEnter r c S).2.2.2.2.1.2.2.2.1 ≤ 60000) ∧ ∀ a, nxt (pEnter r c S).2.2 a = nxt S a := by
  unfold pEnter
  rw [if_pos eh]
  cases pRd S with
  | inl e => exact ⟨Or.inr (Or.inl rfl), rfl, rfl, fun _ => rfl, ⟨Int.le_refl _, hm⟩, fun _ => rfl⟩
  | inr k =>
    dsimp only
    by_cases e2 : S.2.2.1.2.2.2.1 + (pcN k : Int) ≤ 60000
    · rw [if_pos e2]
      exact ⟨Or.inl rfl, rfl, rfl, fun h => absurd rfl h, ⟨by show S.2.2.1.2.2.2.1 ≤ S.2.2.1.2.2.2.1 + (pcN k : Int); omega, e2⟩, fun _ => rfl⟩
    · rw [if_neg e2]; exact ⟨Or.inr (Or.inr rfl), rfl, rfl, fun _ => rfl, ⟨Int.le_refl _, hm⟩, fun _ => rfl⟩
theorem s_enter : Sm2 SRv := by
  intro p0 p1
  refine simX_of (fun n mc ms z u b I S hw R M V => ?_)
  obtain ⟨hB, B, A, wI, M', hM, hT⟩ := VV_f hw R M V
  have pv : PV (pEnter p0.toInt p1.toInt S).2.2 := PV_enter hB (PV_Id V.2.1) V.2.1
  have nx := V.2.2.1
  have rm := V.2.2.2.2.2
  have hb : ∀ i, 0 ≤ i → i < 400 → 0 ≤ S.1.2.1 i ∧ S.1.2.1 i ≤ 255 := fun i i0 i1 => (R.2.2.1.2.1 i i0 i1).2
  have ref : (pEnter p0.toInt p1.toInt S).2.2.2.1 = S.2.1 → ∀ hm g, Ms hm g u → Con mX12_enter 413 0 0 (vr (some (g 0)) :: [vi p0, vi p1]) hm (QMI g (fun x v => x = (pEnter p0.toInt p1.toInt S).2.1 ∧ mI v 0 0 = ((pEnter p0.toInt p1.toInt S).1 : Int) ∧ KM v n (pEnter p0.toInt p1.toInt S).2.2)) := fun s2 hm g m => by
    have D := T_X12_enter (R32_p p0) (R32_p p1) m (i_enter (P := fun x v => x = (pEnter p0.toInt p1.toInt S).2.1 ∧ mI v 0 0 = ((pEnter p0.toInt p1.toInt S).1 : Int) ∧ KM v n (pEnter p0.toInt p1.toInt S).2.2) hB M hb hM (by omega) (PV_Id V.2.1) (fun v Rv f e => ⟨rfl, e.1, KM_c V pv s2 (by rw [show (513 : Int) - ((n : Int) + 1) + 1 = 513 - (n : Int) by omega] at Rv; exact Rv) f e.2 (by decide)⟩))
    simpa only [ii_p] using D
  by_cases eh : hasS S.2.2.2.1.1 p0.toInt p1.toInt
  · obtain ⟨ht, s1, s2, s5, s3, s4⟩ := pEnter_f hM.2 eh
    refine ⟨(pEnter p0.toInt p1.toInt S).1, (pEnter p0.toInt p1.toInt S).2.1, (pEnter p0.toInt p1.toInt S).2.2, ptZ z b S, 413, (3 * S.1.1 + 8).toNat, (14 * S.1.1 + 450).toNat, 413, ⟨by show _ ≤ 3; omega, by omega⟩, ⟨pv, ⟨by rw [s4]; have := nx.1; omega, by rw [s4]; have := nx.2; omega⟩, ⟨by have := rm.1; omega, by have := rm.2; omega⟩, ?_, ?_⟩, ⟨by decide, by decide⟩, ?_, ref s2⟩
    · rw [s1]; have := rm.1; omega
    · rw [s1]; have := rm.2; omega
    · have D := T_X11_enter (t0 := b 0) (R32_p p0) (R32_p p1) hw (o_enter (cc := (3 * S.1.1 + 8).toNat) (ss := (14 * S.1.1 + 450).toNat) (P := fun x y => (pEnter p0.toInt p1.toInt S).1 = 0 ∧ x = (pEnter p0.toInt p1.toInt S).2.1 ∧ KC y b (pEnter p0.toInt p1.toInt S).2.2 (ptZ z b S)) (X := fun k y => (0 < (pEnter p0.toInt p1.toInt S).1 ∧ exs.getD k "" = ["java/lang/IndexOutOfBoundsException", "java/lang/IllegalArgumentException", "java/lang/UnsupportedOperationException"].getD ((pEnter p0.toInt p1.toInt S).1 - 1) "") ∧ KC y b (pEnter p0.toInt p1.toInt S).2.2 (ptZ z b S)) R (PV_Id V.2.1) (by omega) (by omega) (fun e => absurd e (by omega)) (fun e y J g f Ry _ => ⟨⟨by omega, by rw [e]; rfl⟩, KC_keep R V g f Ry (by decide) (by decide) (by decide) s2 (s5 (by omega))⟩) (fun e y J g f Ry _ => ⟨⟨by omega, by rw [e]; rfl⟩, KC_keep R V g f Ry (by decide) (by decide) (by decide) s2 (s5 (by omega))⟩) (fun e y J g f Ry wn => ⟨e, rfl, KC_show R V g f Ry (WkN_S wn) (by decide) (by decide) s2⟩))
      simpa only [ii_p] using D
  · have e1 : pEnter p0.toInt p1.toInt S = (1, 0, S) := by unfold pEnter; rw [if_neg eh]
    rw [e1] at ref
    refine ⟨1, 0, S, ptZ z b S, 413, 1, 6, 413, ⟨by decide, by decide⟩, Ask_1 hw R M V V.2.1 stay_rf (by decide) (by decide), ⟨by decide, by decide⟩, ?_, ref rfl⟩
    have D := T_X11_enter (t0 := b 0) (R32_p p0) (R32_p p1) hw (o_enter1 (cc := 1) (ss := 6) (P := fun x y => (1 : Nat) = 0 ∧ x = 0 ∧ KC y b S (ptZ z b S)) (X := fun k y => (0 < (1 : Nat) ∧ exs.getD k "" = ["java/lang/IndexOutOfBoundsException", "java/lang/IllegalArgumentException", "java/lang/UnsupportedOperationException"].getD ((1 : Nat) - 1) "") ∧ KC y b S (ptZ z b S)) R eh (Nat.le_refl _) (Nat.le_refl _) ⟨⟨by decide, rfl⟩, KC_z R V⟩)
    simpa only [ii_p] using D
