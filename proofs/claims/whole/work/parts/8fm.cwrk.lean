/-! ===== the system: the working sheet is worked out ===== -/
section Cw
variable {z : Z} {b sv sb : Nat → Nat} {I : Nat → Prop} {S : SS}
theorem ww_b {va sh : Nat} {N : Int} (K : WkC z b I sv sb) (k7 : zK z sh = 7) (A : VaC z b I va N) (R : RoS z b I sv sb va) {k : Nat} (hk : k < 35) (h8 : k ≠ 8) {i : Int} (hn : ¬ WB b wWa (b k) i) : ¬ WWk z b sv sb va sh (b k) i := by
  rintro (w | w | w | ⟨m, hm, w⟩ | ⟨j, v, vb, e1, e2, w⟩)
  · exact hn w
  · exact n7 K.1 k7 k hk w.1.symm
  · exact va_n K.1 A hk h8 w
  · have q := K.2.2.2.2.1 m hm k hk
    rcases w with w | w
    · exact q.1 w.1.symm
    · exact q.2 w.symm
  · obtain ⟨q, H⟩ := R.1 j v e1
    have e3 := H.1.2.1
    rw [e2] at e3
    injection e3 with e3
    rcases w with w | w
    · exact (H.2.2.2 k hk).1 w.1.symm
    · exact (H.2.2.2 k hk).2 (e3.symm.trans w.symm)
theorem k9_wrk {a0 : Nat} {c0 s0 : Nat} {P : Z → Prop} (Rc : RC z b I S) (C : Cac z b I sv sb S) (e0 : zO z (b 0) 11 = some a0) (Zf : WfZ S.2.1.2.1 S.2.1.1 S.2.2.2.1.1) (hw : ∀ k, inS S.2.2.2.1.1 k → ∀ kd l ps, ctC S.2.2.2.1.1 k = some (kd, l, ps) → kd ≠ 5 → VOk l) (lk : ∀ w, lkS S.2.2.2.1.1 w → ∀ aw, zO z (b 18) w = some aw → zO z aw 3 ≠ none) (hc : 2 * (S.2.2.2.1.1.1.1 * S.2.2.2.1.1.1.2) ≤ (c0 : Int)) (hs0 : 28 * (S.2.2.2.1.1.1.1 * S.2.2.2.1.1.1.2) ≤ (s0 : Int)) (p : ∀ y, RC y b I S → Cac y b I sv sb S → (∀ i, zO y (b 18) i = zO z (b 18) i) → zO y (b 0) 11 = some a0 → zO y a0 3 = some (b 8) → (∀ x, zK z x = 7 → x ≠ a0 → zO y x 3 = zO z x 3) → P y) : F_X9_work (b 4) (some a0) (some (b 8)) z c0 s0 P := by
  obtain ⟨K, R8, V7, Cv, Di, Cw, St⟩ := C
  have shv : ∀ w, 0 ≤ w → w < S.2.1.1 → ∃ aw, zO z (b 18) w = some aw ∧ ShC z I aw (S.2.1.2.1 w) := fun w w0 w1 => (Rc.2.2.2.1.2 w w0 w1).1.1
  have n40 := Rc.2.2.2.1.1.2
  have hs : ShC z I a0 S.2.2.2.1.1 := by
    obtain ⟨a', q1, q2⟩ := Rc.2.2.2.2.2.1.1
    rw [e0] at q1
    injection q1 with q1
    rw [q1]; exact q2
  have k7 := ShC_7 hs
  have hb := ShC_b hs
  have cb := cnt_b hb
  have A8 : VaC z b I (b 8) (S.2.2.2.1.1.1.1 * S.2.2.2.1.1.1.2) := by
    obtain ⟨q1, q2, q3, q4⟩ := VaC_8 K
    exact ⟨q1, by omega, q3, q4⟩
  have En : EnV z b I S.2.1.2.1 (GV S.2.1.2.1) S.2.2.2.1.1 a0 := fun k hk l ps e j hj cop w0 => by
    have wl := ((Zf.2.2 k hk l ps e).2.2 j hj).1
    obtain ⟨aw, q1, q2⟩ := shv _ w0 wl
    refine ⟨by omega, aw, q1, fun eq => ?_, q2, fun r c r0 r1 c0 c1 => Cv _ w0 wl aw q1 (lk _ ⟨k, hk, l, ps, e, j, hj, rfl, w0⟩ aw q1) r c r0 r1 c0 c1⟩
    rw [eq, ← e0] at q1
    exact Di.2 _ w0 wl q1
  refine k9_work K hs A8 R8 En Zf hw hc hs0 (fun y f g Ky hsy Ry v3 Sy Vy Nw => ?_)
  have wo := wk_ok K k7 A8 R8
  have Rcy := RC_W wo g Rc
  have y18 : ∀ i, zO y (b 18) i = zO z (b 18) i := fun i => (bW K.1 wo g (k := 18) (by decide) (i := i) (wHas_a (by decide))).2.2
  have y11 : zO y (b 0) 11 = zO z (b 0) 11 := (bW K.1 wo g (k := 0) (by decide) (i := 11) (wHas_i (by decide))).2.2
  have w7 : ∀ i, ¬ WB b wWa (b 7) i := fun i => wl_b K.1 (R := [(7, none)]) (by decide) (by decide) (wHas_a (by decide))
  have w34 : ∀ i, ¬ WB b wWa (b 34) i := fun i => wl_b K.1 (R := [(34, none)]) (by decide) (by decide) (wHas_a (by decide))
  refine p y Rcy ⟨Ky, Ry, VlS_fr V7 g (ww_b K k7 A8 R8 (by decide) (by decide) (w7 _)) (ww_b K k7 A8 R8 (by decide) (by decide) (w7 _)) (ww_b K k7 A8 R8 (by decide) (by decide) (w7 _)) (fun i => ww_b K k7 A8 R8 (by decide) (by decide) (w34 i)), ?_, ⟨fun w w' w0 w1 w0' w1' e => Di.1 w w' w0 w1 w0' w1' (by rw [y18, y18] at e; exact e), fun w w0 w1 e => Di.2 w w0 w1 (by rw [y18, y11] at e; exact e)⟩, ?_, fun a' la => by
    have la1 : LvA z b a' := LvA_W K.1 wo g la
    obtain ⟨s1, s2⟩ := St a' la1
    refine ⟨fun w w0 w1 => by rw [y18]; exact s1 w w0 w1, ?_⟩
    by_cases na : a' = a0
    · exact Or.inr (by rw [y11, na]; exact e0)
    · have k7w := LvA_7 Rc la1
      rw [(g.2 a' 3 (by rw [k7w]; decide) (ww_7 K k7 A8 R8 k7w na 3)).2.2, y11]; exact s2⟩ y18 (y11.trans e0) v3 (fun x hx hne => (g.2 x 3 (by rw [hx]; decide) (ww_7 K k7 A8 R8 hx hne 3)).2.2)
  · intro w w0 w1 aw eaw hne r c r0 r1 c0 c1
    rw [y18] at eaw
    obtain ⟨aw', q1, q2⟩ := shv w w0 w1
    have eq : aw' = aw := by rw [eaw] at q1; injection q1 with q1; exact q1.symm
    rw [eq] at q2
    have na : aw ≠ a0 := fun e' => Di.2 w w0 w1 (by rw [eaw, e0, e'])
    have k7w := ShC_7 q2
    rw [(g.2 aw 3 (by rw [k7w]; decide) (ww_7 K k7 A8 R8 k7w na 3)).2.2] at hne
    exact CvJ_W wo.2.1 g q2 (ww_7 K k7 A8 R8 k7w na 3) (Cv w w0 w1 aw eaw hne r c r0 r1 c0 c1)
  · intro a' ea' hne
    rw [y11, e0] at ea'
    injection ea' with ea'
    rw [← ea']
    refine ⟨⟨v3, fun i fi => ?_⟩, fun i hi nf => ?_⟩
    · obtain ⟨x, xb, q1, q2, q3⟩ := Vy i fi
      have cdi := cd_in hb fi.1
      have gu := solv_u Zf Sy _ cdi.1
      rw [cdi.2.1, cdi.2.2] at gu
      rw [gu] at q2 q3
      exact ⟨x, xb, q1, q2.1.1.2.2.1, q2, q3⟩
    · have cdi := cd_in hb hi
      have gu := solv_u Zf Sy _ cdi.1
      have so := Sy _ cdi.1
      rw [vlC_p cdi.1 (fun q => nf ⟨hi, q.2⟩)] at so
      rw [cdi.2.1, cdi.2.2] at gu so
      exact gu.symm.trans so
end Cw
