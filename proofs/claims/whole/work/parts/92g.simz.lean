/-! ===== the calls keep the relation: values, sort; laid by gen92g.py ===== -/
theorem s_kind : Sm25 SRv := by
  intro p0 p1 p2
  refine simD_of (fun n mc ms z u b I S hw R M V => ?_)
  obtain ⟨hB, B, A, wI, M', hM, hT⟩ := VV_f hw R M V
  obtain ⟨sv, sb, Ca⟩ := V.2.2.2.1
  have n0 := hB.2.1.1
  have hN : ((S.2.1.1.toNat : Nat) : Int) = S.2.1.1 := by omega
  have nx := V.2.2.1
  have rm := V.2.2.2.2.2
  have co : coN z b S (shOf p0.toInt S) S.2.1.1.toNat ≤ ptZ z b S := cnQ_le _ (fun x hx q => q.2)
  have ref : ∀ hm g, Ms hm g u → Con mX12_kind 415 0 0 (vr (some (g 0)) :: [vi p0, vi p1, vi p2]) hm (QMI g (fun x v => x = (pKind p0.toInt p1.toInt p2.toInt S) ∧ KM v n S)) := fun hm g m => by
    have D := T_X12_kind (R32_p p0) (R32_p p1) (R32_p p2) m (i_kind (P := fun x v => x = (pKind p0.toInt p1.toInt p2.toInt S) ∧ KM v n S) hB M' V.2.2.2.2.1 (fun w Rw Nw f e => ⟨rfl, Rw, fun _ _ => Nw⟩))
    simpa only [ii_p] using D
  have nb : NxB n S := ⟨by have := nx.1; omega, by have := nx.2; omega⟩
  by_cases a : askP p0.toInt p1.toInt p2.toInt S ∧ ¬ Vld z b p0.toInt
  · refine ⟨(pKind p0.toInt p1.toInt p2.toInt S), S, ptZ z b S - coN z b S (shOf p0.toInt S) S.2.1.1.toNat, 13, 641 * coN z b S (shOf p0.toInt S) S.2.1.1.toNat + 641, 9280 * coN z b S (shOf p0.toInt S) S.2.1.1.toNat + 9280, 415, ⟨V.2.1, nb, ⟨by have := rm.1; omega, by have := rm.2; omega⟩, by have := rm.1; omega, by have := rm.2; omega⟩, ⟨by decide, by decide⟩, ?_, ref⟩
    have D := T_X11_kind (t0 := b 0) (R32_p p0) (R32_p p1) (R32_p p2) hw (o_kind (c0 := 641 * coN z b S (shOf p0.toInt S) S.2.1.1.toNat + 641) (s0 := 9280 * coN z b S (shOf p0.toInt S) S.2.1.1.toNat + 9280) (P := fun x y => x = (pKind p0.toInt p1.toInt p2.toInt S) ∧ KC y b S (ptZ z b S - coN z b S (shOf p0.toInt S) S.2.1.1.toNat)) hN R Ca A (fun _ _ => Nat.le_refl _) (fun _ _ => Nat.le_refl _) (fun y I' hI Ry Cy cn => ⟨rfl, fun _ => ⟨I', Ry, ⟨sv, sb, Cy⟩, (by
      rcases cn with ⟨-, q⟩ | ⟨-, q⟩
      · exact absurd (q a.1) a.2
      · have := pt_ne hN q; omega)⟩⟩))
    simpa only [ii_p] using D
  · refine ⟨(pKind p0.toInt p1.toInt p2.toInt S), S, ptZ z b S, 13, 0, 0, 415, ⟨V.2.1, nb, ⟨Nat.zero_le _, Nat.zero_le _⟩, by have := rm.1; omega, by have := rm.2; omega⟩, ⟨by decide, by decide⟩, ?_, ref⟩
    have D := T_X11_kind (t0 := b 0) (R32_p p0) (R32_p p1) (R32_p p2) hw (o_kind (c0 := 0) (s0 := 0) (P := fun x y => x = (pKind p0.toInt p1.toInt p2.toInt S) ∧ KC y b S (ptZ z b S)) hN R Ca A (fun q1 q2 => absurd ⟨q1, q2⟩ a) (fun q1 q2 => absurd ⟨q1, q2⟩ a) (fun y I' hI Ry Cy cn => ⟨rfl, fun _ => ⟨I', Ry, ⟨sv, sb, Cy⟩, (by
      rcases cn with ⟨q, -⟩ | ⟨-, q⟩
      · rw [q]; exact Nat.le_refl _
      · have := pt_ne hN q; omega)⟩⟩))
    simpa only [ii_p] using D
theorem s_value : Sm26 SRv := by
  intro p0 p1 p2
  refine simL_of (fun n mc ms z u b I S hw R M V => ?_)
  obtain ⟨hB, B, A, wI, M', hM, hT⟩ := VV_f hw R M V
  obtain ⟨sv, sb, Ca⟩ := V.2.2.2.1
  have n0 := hB.2.1.1
  have hN : ((S.2.1.1.toNat : Nat) : Int) = S.2.1.1 := by omega
  have nx := V.2.2.1
  have rm := V.2.2.2.2.2
  have co : coN z b S (shOf p0.toInt S) S.2.1.1.toNat ≤ ptZ z b S := cnQ_le _ (fun x hx q => q.2)
  have ref : ∀ hm g, Ms hm g u → Con mX12_value 415 0 0 (vr (some (g 0)) :: [vi p0, vi p1, vi p2]) hm (QMJ g (fun x v => x = (pValue p0.toInt p1.toInt p2.toInt S) ∧ KM v n S)) := fun hm g m => by
    have D := T_X12_value (R32_p p0) (R32_p p1) (R32_p p2) m (i_value (P := fun x v => x = (pValue p0.toInt p1.toInt p2.toInt S) ∧ KM v n S) hB M' V.2.2.2.2.1 (fun w Rw Nw f e => ⟨rfl, Rw, fun _ _ => Nw⟩))
    simpa only [ii_p] using D
  have nb : NxB n S := ⟨by have := nx.1; omega, by have := nx.2; omega⟩
  by_cases a : askP p0.toInt p1.toInt p2.toInt S ∧ ¬ Vld z b p0.toInt
  · refine ⟨(pValue p0.toInt p1.toInt p2.toInt S), S, ptZ z b S - coN z b S (shOf p0.toInt S) S.2.1.1.toNat, 13, 641 * coN z b S (shOf p0.toInt S) S.2.1.1.toNat + 641, 9280 * coN z b S (shOf p0.toInt S) S.2.1.1.toNat + 9280, 415, ⟨V.2.1, nb, ⟨by have := rm.1; omega, by have := rm.2; omega⟩, by have := rm.1; omega, by have := rm.2; omega⟩, ⟨by decide, by decide⟩, ?_, ref⟩
    have D := T_X11_value (t0 := b 0) (R32_p p0) (R32_p p1) (R32_p p2) hw (o_valueC (c0 := 641 * coN z b S (shOf p0.toInt S) S.2.1.1.toNat + 641) (s0 := 9280 * coN z b S (shOf p0.toInt S) S.2.1.1.toNat + 9280) (P := fun x y => x = (pValue p0.toInt p1.toInt p2.toInt S) ∧ KC y b S (ptZ z b S - coN z b S (shOf p0.toInt S) S.2.1.1.toNat)) hN R Ca A (fun _ _ => Nat.le_refl _) (fun _ _ => Nat.le_refl _) (fun y I' hI Ry Cy cn => ⟨rfl, fun _ => ⟨I', Ry, ⟨sv, sb, Cy⟩, (by
      rcases cn with ⟨-, q⟩ | ⟨-, q⟩
      · exact absurd (q a.1) a.2
      · have := pt_ne hN q; omega)⟩⟩))
    simpa only [ii_p] using D
  · refine ⟨(pValue p0.toInt p1.toInt p2.toInt S), S, ptZ z b S, 13, 0, 0, 415, ⟨V.2.1, nb, ⟨Nat.zero_le _, Nat.zero_le _⟩, by have := rm.1; omega, by have := rm.2; omega⟩, ⟨by decide, by decide⟩, ?_, ref⟩
    have D := T_X11_value (t0 := b 0) (R32_p p0) (R32_p p1) (R32_p p2) hw (o_valueC (c0 := 0) (s0 := 0) (P := fun x y => x = (pValue p0.toInt p1.toInt p2.toInt S) ∧ KC y b S (ptZ z b S)) hN R Ca A (fun q1 q2 => absurd ⟨q1, q2⟩ a) (fun q1 q2 => absurd ⟨q1, q2⟩ a) (fun y I' hI Ry Cy cn => ⟨rfl, fun _ => ⟨I', Ry, ⟨sv, sb, Cy⟩, (by
      rcases cn with ⟨q, -⟩ | ⟨-, q⟩
      · rw [q]; exact Nat.le_refl _
      · have := pt_ne hN q; omega)⟩⟩))
    simpa only [ii_p] using D
theorem s_letter : Sm27 SRv := by
  intro p0 p1 p2 p3
  refine simD_of (fun n mc ms z u b I S hw R M V => ?_)
  obtain ⟨hB, B, A, wI, M', hM, hT⟩ := VV_f hw R M V
  obtain ⟨sv, sb, Ca⟩ := V.2.2.2.1
  have n0 := hB.2.1.1
  have hN : ((S.2.1.1.toNat : Nat) : Int) = S.2.1.1 := by omega
  have nx := V.2.2.1
  have rm := V.2.2.2.2.2
  have co : coN z b S (shOf p0.toInt S) S.2.1.1.toNat ≤ ptZ z b S := cnQ_le _ (fun x hx q => q.2)
  have ref : ∀ hm g, Ms hm g u → Con mX12_letter 415 0 0 (vr (some (g 0)) :: [vi p0, vi p1, vi p2, vi p3]) hm (QMI g (fun x v => x = (pLetter p0.toInt p1.toInt p2.toInt p3.toInt S) ∧ KM v n S)) := fun hm g m => by
    have D := T_X12_letter (R32_p p0) (R32_p p1) (R32_p p2) (R32_p p3) m (i_letter (P := fun x v => x = (pLetter p0.toInt p1.toInt p2.toInt p3.toInt S) ∧ KM v n S) hB M' V.2.2.2.2.1 (fun w Rw Nw f e => ⟨rfl, Rw, fun _ _ => Nw⟩))
    simpa only [ii_p] using D
  have nb : NxB n S := ⟨by have := nx.1; omega, by have := nx.2; omega⟩
  by_cases a : askP p0.toInt p1.toInt p2.toInt S ∧ ¬ Vld z b p0.toInt
  · refine ⟨(pLetter p0.toInt p1.toInt p2.toInt p3.toInt S), S, ptZ z b S - coN z b S (shOf p0.toInt S) S.2.1.1.toNat, 13, 641 * coN z b S (shOf p0.toInt S) S.2.1.1.toNat + 641, 9280 * coN z b S (shOf p0.toInt S) S.2.1.1.toNat + 9280, 415, ⟨V.2.1, nb, ⟨by have := rm.1; omega, by have := rm.2; omega⟩, by have := rm.1; omega, by have := rm.2; omega⟩, ⟨by decide, by decide⟩, ?_, ref⟩
    have D := T_X11_letter (t0 := b 0) (R32_p p0) (R32_p p1) (R32_p p2) (R32_p p3) hw (o_letter (c0 := 641 * coN z b S (shOf p0.toInt S) S.2.1.1.toNat + 641) (s0 := 9280 * coN z b S (shOf p0.toInt S) S.2.1.1.toNat + 9280) (P := fun x y => x = (pLetter p0.toInt p1.toInt p2.toInt p3.toInt S) ∧ KC y b S (ptZ z b S - coN z b S (shOf p0.toInt S) S.2.1.1.toNat)) hN R Ca A (fun _ _ => Nat.le_refl _) (fun _ _ => Nat.le_refl _) (fun y I' hI Ry Cy cn => ⟨rfl, fun _ => ⟨I', Ry, ⟨sv, sb, Cy⟩, (by
      rcases cn with ⟨-, q⟩ | ⟨-, q⟩
      · exact absurd (q a.1) a.2
      · have := pt_ne hN q; omega)⟩⟩))
    simpa only [ii_p] using D
  · refine ⟨(pLetter p0.toInt p1.toInt p2.toInt p3.toInt S), S, ptZ z b S, 13, 0, 0, 415, ⟨V.2.1, nb, ⟨Nat.zero_le _, Nat.zero_le _⟩, by have := rm.1; omega, by have := rm.2; omega⟩, ⟨by decide, by decide⟩, ?_, ref⟩
    have D := T_X11_letter (t0 := b 0) (R32_p p0) (R32_p p1) (R32_p p2) (R32_p p3) hw (o_letter (c0 := 0) (s0 := 0) (P := fun x y => x = (pLetter p0.toInt p1.toInt p2.toInt p3.toInt S) ∧ KC y b S (ptZ z b S)) hN R Ca A (fun q1 q2 => absurd ⟨q1, q2⟩ a) (fun q1 q2 => absurd ⟨q1, q2⟩ a) (fun y I' hI Ry Cy cn => ⟨rfl, fun _ => ⟨I', Ry, ⟨sv, sb, Cy⟩, (by
      rcases cn with ⟨q, -⟩ | ⟨-, q⟩
      · rw [q]; exact Nat.le_refl _
      · have := pt_ne hN q; omega)⟩⟩))
    simpa only [ii_p] using D
theorem b2_01 (c : Prop) [Decidable c] : (b2 c).toInt = 0 ∨ (b2 c).toInt = 1 := by
  unfold b2
  split
  · exact Or.inr rfl
  · exact Or.inl rfl
theorem pSort_f {col fr to t : Int} {S : SS} : Stay S (pSort col fr to t S).2.2 ∧ (pSort col fr to t S).1 ≤ 2 ∧ ((pSort col fr to t S).1 ≠ 0 → (pSort col fr to t S).2.2 = S) := by
  unfold pSort
  by_cases e : ((1 ≤ fr ∧ fr ≤ S.2.2.2.1.1.1.1) ∧ 1 ≤ col ∧ col ≤ S.2.2.2.1.1.1.2) ∧ (1 ≤ to ∧ to ≤ S.2.2.2.1.1.1.1)
  · rw [if_pos e]
    by_cases e1 : fr ≤ to
    · rw [if_pos e1]; exact ⟨⟨rfl, rfl, rfl, rfl⟩, Nat.zero_le _, fun h => absurd rfl h⟩
    · rw [if_neg e1]; exact ⟨stay_rf, Nat.le_refl _, fun _ => rfl⟩
  · rw [if_neg e]; exact ⟨stay_rf, (by show (1 : Nat) ≤ 2; decide), fun _ => rfl⟩
theorem s_sort : Sm9 SRv := by
  intro p0 p1 p2 p3
  refine simX_of (fun n mc ms z u b I S hw R M V => ?_)
  obtain ⟨hB, B, A, wI, M', hM, hT⟩ := VV_f hw R M V
  obtain ⟨sv, sb, Ca⟩ := V.2.2.2.1
  have t01 := b2_01 (p3 ≠ 0)
  obtain ⟨sm, ht, h0⟩ := pSort_f (col := p0.toInt) (fr := p1.toInt) (to := p2.toInt) (t := (b2 (p3 ≠ 0)).toInt) (S := S)
  have pv : PV (pSort p0.toInt p1.toInt p2.toInt (b2 (p3 ≠ 0)).toInt S).2.2 := PV_sort V.2.1
  generalize hp : pSort p0.toInt p1.toInt p2.toInt (b2 (p3 ≠ 0)).toInt S = q at sm ht h0 pv
  have n0 := hB.2.1.1
  have hN : ((S.2.1.1.toNat : Nat) : Int) = S.2.1.1 := by omega
  have nx := V.2.2.1
  have rm := V.2.2.2.2.2
  have co : coN z b S (shOf (-1) S) S.2.1.1.toNat ≤ ptZ z b S := cnQ_le _ (fun x hx q => q.2)
  have nb : NxB n q.2.2 := ⟨by rw [Stay_x sm]; have := nx.1; omega, by rw [Stay_x sm]; have := nx.2; omega⟩
  have ref : ∀ hm g, Ms hm g u → Con mX12_sort 415 0 0 (vr (some (g 0)) :: [vi p0, vi p1, vi p2, vi (b2 (p3 ≠ 0))]) hm (QMI g (fun x v => x = q.2.1 ∧ mI v 0 0 = (q.1 : Int) ∧ KM v n q.2.2)) := fun hm g m => by
    have D := T_X12_sort (R32_p p0) (R32_p p1) (R32_p p2) (R32_p (b2 (p3 ≠ 0))) m (i_sort (P := fun x v => x = q.2.1 ∧ mI v 0 0 = (q.1 : Int) ∧ KM v n q.2.2) hB (PV_Ds V.2.1).1 M' V.2.2.2.2.1 t01 (fun w v Nw fw Rv f e => by
      rw [hp] at Rv e ⊢
      exact ⟨rfl, e.1, Rv, fun hB' hm' => NdS_call Rv (CoB_of hB' Rv (by omega) hm') (ShA_of hB' Rv (PV_Vr pv)) Nw f (by decide) sm.2.1 e.2⟩))
    simpa only [ii_p] using D
  have fin : ∀ y0 I0, RC y0 b I0 S → Cac y0 b I0 sv sb S → ∀ y J, GrI y0 I0 J → FrZ (WL y0 b wSt (wkT y0 b) no1) y0 y → RC y b J q.2.2 → WkN y0 y b → KC y b q.2.2 (ptZ y0 b S) := fun y0 I0 R0 C0 y J g f Ry wn wy => by
    obtain ⟨Cy, un⟩ := Cac_show R0 C0 g (WzN_of (WzI_of wy)) Ry f (by decide) (by decide) (fun _ h => h) sm.2.1 (WkN_S wn)
    exact ⟨J, Ry, ⟨sv, sb, Cy⟩, Nat.le_of_eq (pt_e un (by rw [sm.2.1]))⟩
  have KC_le : ∀ {y : Z} {S' : SS} {a c : Nat}, a ≤ c → KC y b S' a → KC y b S' c := fun h k wy => by
    obtain ⟨J, k1, k2, k3⟩ := k wy
    exact ⟨J, k1, k2, Nat.le_trans k3 h⟩
  by_cases a : q.1 = 0 ∧ ¬ Vld z b (-1)
  · refine ⟨q.1, q.2.1, q.2.2, ptZ z b S - coN z b S (shOf (-1) S) S.2.1.1.toNat, 13, 641 * coN z b S (shOf (-1) S) S.2.1.1.toNat + 645, 9280 * coN z b S (shOf (-1) S) S.2.1.1.toNat + 9668, 415, ⟨ht, by omega⟩, ⟨pv, nb, ⟨by have := rm.1; omega, by have := rm.2; omega⟩, ?_, ?_⟩, ⟨by decide, by decide⟩, ?_, ref⟩
    · rw [sm.1, sm.2.2.1]; have := rm.1; omega
    · rw [sm.1, sm.2.2.1]; have := rm.2; omega
    · have D := T_X11_sort (t0 := b 0) (R32_p p0) (R32_p p1) (R32_p p2) (R32_p (b2 (p3 ≠ 0))) hw (o_sort (c0 := 641 * coN z b S (shOf (-1) S) S.2.1.1.toNat + 645) (s0 := 9280 * coN z b S (shOf (-1) S) S.2.1.1.toNat + 9668) (P := fun x y => q.1 = 0 ∧ x = q.2.1 ∧ KC y b q.2.2 (ptZ z b S - coN z b S (shOf (-1) S) S.2.1.1.toNat)) (X := fun k y => (0 < q.1 ∧ exs.getD k "" = ["java/lang/IndexOutOfBoundsException", "java/lang/IllegalArgumentException"].getD (q.1 - 1) "") ∧ KC y b q.2.2 (ptZ z b S - coN z b S (shOf (-1) S) S.2.1.1.toNat)) hN R Ca A t01 (fun _ _ => Nat.le_refl _) (fun _ _ => Nat.le_refl _) (by omega) (by omega) (fun e => by rw [hp] at e; omega) (fun e => by rw [hp] at e; omega) (fun e y0 I0 hI R0 C0 cn y J g f Ry wn => by
        rw [hp] at Ry ⊢
        refine ⟨a.1, rfl, KC_le ?_ (fin y0 I0 R0 C0 y J g f Ry wn)⟩
        rcases cn with ⟨-, q1⟩ | ⟨-, q1⟩
        · exact absurd (q1 trivial) a.2
        · have := pt_ne hN q1; omega))
      simpa only [ii_p] using D
  · refine ⟨q.1, q.2.1, q.2.2, ptZ z b S, 13, 4, 388, 415, ⟨ht, by omega⟩, ⟨pv, nb, ⟨by have := rm.1; omega, by have := rm.2; omega⟩, ?_, ?_⟩, ⟨by decide, by decide⟩, ?_, ref⟩
    · rw [sm.1, sm.2.2.1]; have := rm.1; omega
    · rw [sm.1, sm.2.2.1]; have := rm.2; omega
    · have D := T_X11_sort (t0 := b 0) (R32_p p0) (R32_p p1) (R32_p p2) (R32_p (b2 (p3 ≠ 0))) hw (o_sort (c0 := 4) (s0 := 388) (P := fun x y => q.1 = 0 ∧ x = q.2.1 ∧ KC y b q.2.2 (ptZ z b S)) (X := fun k y => (0 < q.1 ∧ exs.getD k "" = ["java/lang/IndexOutOfBoundsException", "java/lang/IllegalArgumentException"].getD (q.1 - 1) "") ∧ KC y b q.2.2 (ptZ z b S)) hN R Ca A t01 (fun q1 q2 => absurd ⟨by rw [hp] at q1; exact q1, q2⟩ a) (fun q1 q2 => absurd ⟨by rw [hp] at q1; exact q1, q2⟩ a) (Nat.le_refl _) (Nat.le_refl _) (fun e => by rw [hp] at e; exact ⟨⟨by omega, by rw [e]; rfl⟩, by rw [h0 (by omega)]; exact KC_z R V⟩) (fun e => by rw [hp] at e; exact ⟨⟨by omega, by rw [e]; rfl⟩, by rw [h0 (by omega)]; exact KC_z R V⟩) (fun e y0 I0 hI R0 C0 cn y J g f Ry wn => by
        rw [hp] at e Ry ⊢
        refine ⟨e, rfl, KC_le ?_ (fin y0 I0 R0 C0 y J g f Ry wn)⟩
        rcases cn with ⟨q1, -⟩ | ⟨-, q1⟩
        · rw [q1]; exact Nat.le_refl _
        · have := pt_ne hN q1; omega))
      simpa only [ii_p] using D
theorem sims : Sims SRv := by
  refine ⟨?_, s_feed, s_end, s_enter, s_fault, s_erase, s_insert, s_remove, s_move, s_copy, s_sort, s_undo, s_redo, s_commit, s_branch, s_go, s_drop, s_merge, s_pick, s_conflict, s_choose, s_base, s_diff, s_difference, s_blame, s_sheet, s_kind, s_value, s_letter, s_written, s_total⟩
  rintro n mc ms x g hc hm ⟨z, u, b, I, S, rfl, hw, m, rfl, R, M, v1, v2, v3, v4, v5, v6⟩
  refine ⟨?_, ?_, fun k hk => ?_⟩
  · exact cK R.1 0 rfl rfl
  · exact m.1.1
  · exact ⟨z, u, b, I, S, rfl, hw, m, rfl, R, RM_N M (by omega), by omega, v2, ⟨by have := v3.1; omega, by have := v3.2; omega⟩, v4, v5, by have := v6.1; omega, by have := v6.2; omega⟩
