/-! ===== aids for the calls' rows ===== -/
section Ai
variable {n mc ms : Nat} {z y : Z} {b : Nat → Nat} {I J : Nat → Prop} {u v : Mu} {S S' : SS} {L : WR} {T C : Nat → Prop}
theorem KC_z (R : RC z b I S) (V : VV (n + 1) mc ms z b I u S) : KC z b S (ptZ z b S) := fun _ => ⟨I, R, V.2.2.2.1, Nat.le_refl _⟩
theorem KC_keep (R : RC z b I S) (V : VV (n + 1) mc ms z b I u S) (g : GrI z I J) (f : FrZ (WL z b L no1 C) z y) (Ry : RC y b J S') (hd : wDis L wCk = true) (h18 : wDis L [(18, none)] = true) (hst : wDis L wSt = true) (e1 : S'.2.1 = S.2.1) (e2 : S'.2.2.2.1.1 = S.2.2.2.1.1) : KC y b S' (ptZ z b S) := fun wy => by
  obtain ⟨sv, sb, Ca⟩ := V.2.2.2.1
  obtain ⟨Cy, un⟩ := Cac_keep R Ca g (WzN_of (WzI_of wy)) Ry f hd h18 hst e1 e2
  exact ⟨J, Ry, ⟨sv, sb, Cy⟩, Nat.le_of_eq (pt_e un (by rw [e1]))⟩
theorem KC_show (R : RC z b I S) (V : VV (n + 1) mc ms z b I u S) (g : GrI z I J) (f : FrZ (WL z b L (wkT z b) C) z y) (Ry : RC y b J S') (ws : WkS z y b (fun a => zK z a = 0 ∧ zO y a 3 = none)) (hd : wDis L wCk = true) (h18 : wDis L [(18, none)] = true) (e1 : S'.2.1 = S.2.1) : KC y b S' (ptZ z b S) := fun wy => by
  obtain ⟨sv, sb, Ca⟩ := V.2.2.2.1
  obtain ⟨Cy, un⟩ := Cac_show R Ca g (WzN_of (WzI_of wy)) Ry f hd h18 (fun _ h => h) e1 ws
  exact ⟨J, Ry, ⟨sv, sb, Cy⟩, Nat.le_of_eq (pt_e un (by rw [e1]))⟩
theorem WkN_S (h : WkN z y b) : WkS z y b (fun a => zK z a = 0 ∧ zO y a 3 = none) := by
  obtain ⟨q, ⟨e, n0⟩, n3, s1, s2⟩ := h
  exact ⟨fun a la => (s1 a la).imp (fun e => by rw [e]; exact ⟨n0, n3⟩) id, s2⟩
theorem WkS_0 (h : WkS z y b no1) : WkS z y b (fun a => zK z a = 0 ∧ zO y a 3 = none) := ⟨fun a la => (h.1 a la).imp (fun e => e.elim) id, h.2⟩
theorem KM_c {L : WR} (V : VV (n + 1) mc ms z b I u S) (pv : PV S') (e1 : S'.2.1 = S.2.1) (Rv : RM v (513 - (n : Int)) S') (f : FrM L u v) (q : Q65 u v S S') (hd : wDis L wKp = true) : KM v n S' := ⟨Rv, fun hB hm => NdS_call Rv (CoB_of hB Rv (by omega) hm) (ShA_of hB Rv (PV_Vr pv)) V.2.2.2.2.1 f hd e1 q⟩
theorem KM_k {L : WR} (V : VV (n + 1) mc ms z b I u S) (pv : PV S') (e1 : S'.2.1 = S.2.1) (e2 : S'.2.2.2.1.1 = S.2.2.2.1.1) (Rv : RM v (513 - (n : Int)) S') (f : FrM L u v) (hd : wDis L wKp = true) (h65 : wDis L [(0, some 65)] = true) : KM v n S' := KM_c V pv e1 Rv f (Or.inr ⟨e65 f h65, e1, e2⟩) hd
/-- tape, versions, parts made, next lines stay -/
def Stay (S S' : SS) : Prop := S'.1 = S.1 ∧ S'.2.1 = S.2.1 ∧ S'.2.2.1.2.2.2.1 = S.2.2.1.2.2.2.1 ∧ S'.2.2.1.2.2.2.2.2 = S.2.2.1.2.2.2.2.2
theorem Stay_x (h : Stay S S') (a : Int) : nxt S' a = nxt S a := by
  unfold nxt; rw [h.2.2.2]
theorem Ask_1 {c s : Nat} (hw : Wz z) (R : RC z b I S) (M : RM u (513 - ((n : Int) + 1)) S) (V : VV (n + 1) mc ms z b I u S) (pv : PV S') (h : Stay S S') (hc : c ≤ 645) (hs : s ≤ 9668) : AskC n S' (ptZ z b S) mc ms c s := by
  obtain ⟨-, -, -, -, -, hM, hT⟩ := VV_f hw R M V
  have nx := V.2.2.1
  obtain ⟨r1, r2⟩ := Rm_1 (S' := S') V.2.2.2.2.2 hc hs (by rw [h.1]; exact hT.1) (by rw [h.1]; exact Int.le_refl _) (by rw [h.2.2.1]; exact hM.2) (by rw [h.2.2.1]; exact Int.le_refl _)
  refine ⟨pv, ⟨?_, ?_⟩, r1, r2⟩
  · rw [Stay_x h]; have := nx.1; omega
  · rw [Stay_x h]; have := nx.2; omega
end Ai
