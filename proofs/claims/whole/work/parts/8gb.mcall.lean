/-! ===== the reference: kept values over the calls ===== -/
theorem WfP_v {p : Prt} (h : WfP p) : -1 ≤ p.2.2.2.2.2 := by
  have h5 := h.2.2.2.2.2
  by_cases c : p.1 = 16 ∨ p.1 = 17
  · rw [if_pos c] at h5; exact h5.2
  · rw [if_neg c] at h5; rw [h5.2]; exact Int.le_refl _
theorem ShW_of {u : Mu} {s n : Int} {h : Sh} (hb : ShB h) (m : ShM u s h) (v : VrS n h) : ShW h n := by
  refine ⟨hb, fun k hk kd l ps e => ?_⟩
  obtain ⟨⟨k0, k1⟩, k2, k3⟩ := hk
  have q := m.2.2.2 (k / 10) (k % 10) (by omega) k2 (by omega) k3
  have e' : h.2.2.2 (k / 10) (k % 10) = some (kd, l, ps) := e
  have vr := v (k / 10) (k % 10) (by omega) k2 (by omega) k3 kd l ps e'
  rw [e'] at q
  unfold ContM at q
  simp only at q
  refine ⟨fun c5 => ?_, fun c5 => ?_⟩
  · rw [if_pos c5] at q
    obtain ⟨-, -, ⟨q1, q2⟩, -, q3⟩ := q
    have wf : ∀ i : Nat, i < ps.length → WfP (ps.getD i pd0) := fun i hi => (q3 i hi).1.2.2.2.2.2.2.2.2.2
    refine ⟨⟨q2, wf⟩, q1, fun i hi => ⟨vr _ ?_, WfP_v (wf i hi)⟩⟩
    rw [List.getD_eq_getElem?_getD, List.getElem?_eq_getElem hi]
    exact List.getElem_mem hi
  · rw [if_neg c5] at q
    obtain ⟨-, q1, -, q3, -⟩ := q
    exact ⟨VOk_L q3, q1⟩
/-- versions that parts look at -/
def VrP (S : SS) : Prop := (∀ v, 0 ≤ v → v < S.2.1.1 → VrS v (S.2.1.2.1 v)) ∧ VrS S.2.1.1 S.2.2.2.1.1
theorem ShA_of {u : Mu} {N : Int} {S : SS} (hB : Bd S) (R : RM u N S) (v : VrP S) : ShA S := ⟨fun w w0 w1 => ShW_of (hB.2.1.2 w w0 w1).1 (R.2.2.1.2 w w0 w1).1 (v.1 w w0 w1), ShW_of hB.2.2.2.1.1 R.2.2.2.2.1.1 v.2⟩
def wKp : WR := [(60, none), (61, none), (62, none), (63, none), (64, none)]
theorem NdS_call {L : WR} {u v : Mu} {M : Int} {S S' : SS} (R : RM v M S') (B : CoB v) (A : ShA S') (Nd : NdS u S) (f : FrM L u v) (hd : wDis L wKp = true) (e1 : S'.2.1 = S.2.1) (q : Q65 u v S S') : NdS v S' := by
  obtain ⟨a1, a2, a3, a4, a5, a6, a7⟩ := Nd
  have hd4 := wDis_l hd (R' := [(60, none), (61, none), (62, none), (63, none)]) (by decide)
  have e64 : ∀ i, mI v 64 i = mI u 64 i := fun i => mE f hd (wHas_a (by decide))
  have shb : ∀ w, 0 ≤ w → w < S'.2.1.1 → ShB (S'.2.1.2.1 w) := fun w w0 w1 => (A.1 w w0 w1).1
  refine ⟨by rw [e1]; exact a1, B, fun w w0 w1 => ⟨(R.2.2.1.2 w w0 w1).1, ShW_Z (A.1 w w0 w1) (fun x x0 x1 => shb x x0 (by omega))⟩, ⟨R.2.2.2.2.1.1, ShW_Z A.2 shb⟩, ?_, ?_, ?_⟩
  · rw [e1]
    intro w w0 w1 z k hk
    rw [e64] at z
    exact CvM_e f hd4 (a5 w w0 w1 z k hk)
  · rcases q with q | ⟨q1, q2, q3⟩
    · intro z; exact absurd q z
    · rw [e1, q3]
      intro z k hk
      rw [q1] at z
      exact CvM_e f hd4 (a6 z k hk)
  · rw [e1]
    intro w w0 w1
    rw [e64]; exact a7 w w0 w1
theorem NdS_com {L : WR} {u v : Mu} {M : Int} {S S' : SS} (hB : Bd S') (R : RM v M S') (B : CoB v) (A0 : ShA S) (A : ShA S') (Nd : NdS u S) (f : FrM L u v) (hd : wDis L wKp = true) (e1 : S'.2.1.1 = S.2.1.1 + 1) (eF : ∀ v, 0 ≤ v → v < S.2.1.1 → S'.2.1.2.1 v = S.2.1.2.1 v) (e2 : S'.2.2.2.1.1 = S.2.2.2.1.1) (h65 : mI v 0 65 = mI u 0 65) : NdS v S' := by
  obtain ⟨a1, a2, a3, a4, a5, a6, a7⟩ := Nd
  have hd4 := wDis_l hd (R' := [(60, none), (61, none), (62, none), (63, none)]) (by decide)
  have e64 : ∀ i, mI v 64 i = mI u 64 i := fun i => mE f hd (wHas_a (by decide))
  have shb : ∀ w, 0 ≤ w → w < S'.2.1.1 → ShB (S'.2.1.2.1 w) := fun w w0 w1 => (A.1 w w0 w1).1
  have n40 := hB.2.1.1
  have hZ : ∀ v, 0 ≤ v → v < S.2.1.1 → WfZ S.2.1.2.1 v (S.2.1.2.1 v) := fun v v0 v1 => ShW_Z (A0.1 v v0 v1) (fun w w0 w1 => (A0.1 w w0 (by omega)).1)
  have gv := GV_F (F := S.2.1.2.1) (F' := S'.2.1.2.1) (n := S.2.1.1) (fun v v0 v1 => (eF v v0 v1).symm) hZ
  have wv : WV S.2.1.2.1 S.2.2.2.1.1 = WV S'.2.1.2.1 S.2.2.2.1.1 := WV_F (ShW_Z A0.2 (fun w w0 w1 => (A0.1 w w0 w1).1)) (fun v v0 v1 => (eF v v0 v1).symm) hZ
  refine ⟨⟨by have := n40.1; omega, n40.2⟩, B, fun w w0 w1 => ⟨(R.2.2.1.2 w w0 w1).1, ShW_Z (A.1 w w0 w1) (fun x x0 x1 => shb x x0 (by omega))⟩, ⟨R.2.2.2.2.1.1, ShW_Z A.2 shb⟩, ?_, ?_, ?_⟩
  · rw [e1]
    intro w w0 w1 z k hk
    rw [e64] at z
    by_cases cw : w = S.2.1.1
    · rw [cw, a7 S.2.1.1 (Int.le_refl _) (by omega)] at z
      exact absurd rfl z
    · have w1' : w < S.2.1.1 := by omega
      rw [eF w w0 w1'] at hk
      rw [← gv w w0 w1']
      exact CvM_e f hd4 (a5 w w0 w1' z k hk)
  · rw [e2]
    intro z k hk
    rw [h65] at z
    rw [← wv]
    exact CvM_e f hd4 (a6 z k hk)
  · rw [e1]
    intro w w0 w1
    rw [e64]; exact a7 w (by omega) w1
