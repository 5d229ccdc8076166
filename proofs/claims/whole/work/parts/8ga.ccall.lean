/-! ===== the system: kept values over the calls ===== -/
def wCk : WR := crw ++ [(7, none), (8, none), (22, none), (23, none), (24, none), (34, none)]
theorem crz_C : ∀ t ∈ crz, (t.1, some t.2.1) ∈ wCk := by decide
section Cg
variable {z y : Z} {b sv sb : Nat → Nat} {I J : Nat → Prop} {S S' : SS} {L : WR} {T C : Nat → Prop}
theorem WL_9 {a : Nat} {i : Int} (k7 : zK z a ≠ 7) (k1 : zK z a ≠ 1) (hb : ∀ k, k < 35 → a ≠ b k) : ¬ WL z b L T C a i := by
  rintro (⟨t, t1, t2, t3, t4⟩ | ⟨-, t2, -⟩ | ⟨-, t2, -⟩)
  · exact hb t.1 t2 t3
  · exact k7 t2
  · exact k1 t2
theorem WkC_g (K : WkC z b I sv sb) (f : FrZ (WL z b L T C) z y) (hd : wDis L wCk = true) (g : GrI z I J) (r : Frz y b J) (wz : WzN y J) : WkC y b J sv sb := by
  have kv : ∀ m : Nat, m < 60 → VlB z (sv m) (sb m) := fun m hm => (K.2.2.1.1 m hm).2
  obtain ⟨k1, k2, k3, k4, k5, k6, k7⟩ := WkC_W K (fun t ht => WL_n K.1 hd (crz_b t ht) (wHas_i (crz_C t ht))) (fun k i hk => by
    rcases hk with rfl | rfl | rfl
    · exact WL_n K.1 hd (by decide) (wHas_a (by decide))
    · exact WL_n K.1 hd (by decide) (wHas_a (by decide))
    · exact WL_n K.1 hd (by decide) (wHas_a (by decide))) (fun m hm => WL_9 (by rw [(kv m hm).1]; decide) (by rw [(kv m hm).1]; decide) (fun k hk => (K.2.2.2.2.1 m hm k hk).1)) f
  refine ⟨k1, r, k3, fun x hx m hm => ?_, k5, wz, k7⟩
  rcases g.2 x hx with e | e
  · exact k4 x e m hm
  · exact ⟨fun q => (by rw [q, (kv m hm).1] at e; cases e), fun q => (by rw [q, (kv m hm).2.2.1] at e; cases e)⟩
theorem RoS_g {va : Nat} {N : Int} {W : Nat → Int → Prop} (A : VaC z b I va N) (R : RoS z b I sv sb va) (f : FrZ W z y) (hv : ∀ i, zO y va i = zO z va i) (hw : ∀ i v, zO z va i = some v → ¬ W v 0) (g : GrI z I J) : RoS y b J sv sb va := by
  obtain ⟨q1, q2⟩ := RoS_e A R f hv hw
  refine ⟨fun i v e => ?_, q2⟩
  obtain ⟨vb, o1, ⟨o2, o3⟩, o4⟩ := q1 i v e
  rw [hv] at e
  obtain ⟨vb', p1, -⟩ := R.1 i v e
  have same : vb' = vb := by
    have t := o1.2.1
    rw [(f.2 v 0 (by rw [p1.1]; decide) (hw i v e)).2.2, p1.2.1] at t
    injection t
  refine ⟨vb, o1, ⟨fun j => ?_, fun j => ?_⟩, o4⟩
  · rcases g.2 v j with q | q
    · exact o2 q
    · rw [p1.1] at q; cases q
  · rcases g.2 vb j with q | q
    · exact o3 q
    · rw [← same, p1.2.2.1] at q; cases q
theorem Ca_g (K : WkC z b I sv sb) (R8 : RoS z b I sv sb (b 8)) (V7 : VlS z (b 7) (b 34) (0, 0, [])) (g : GrI z I J) (wz : WzN y J) (r : Frz y b J) (f : FrZ (WL z b L T C) z y) (hd : wDis L wCk = true) : WkC y b J sv sb ∧ RoS y b J sv sb (b 8) ∧ VlS y (b 7) (b 34) (0, 0, []) := by
  refine ⟨WkC_g K f hd g r wz, RoS_g (VaC_8 K) R8 f (fun i => (f.2 (b 8) i (kbz K.1 (by decide)) (WL_n K.1 hd (by decide) (wHas_a (by decide)))).2.2) (fun i v e => ?_) g, VlS_fr V7 f (WL_n K.1 hd (by decide) (wHas_a (by decide))) (WL_n K.1 hd (by decide) (wHas_a (by decide))) (WL_n K.1 hd (by decide) (wHas_a (by decide))) (fun i => WL_n K.1 hd (by decide) (wHas_a (by decide)))⟩
  obtain ⟨vb, H⟩ := R8.1 i v e
  exact WL_9 (by rw [H.1.1]; decide) (by rw [H.1.1]; decide) (fun k hk => (H.2.2.2 k hk).1)
/-- another Sheet is worked at -/
theorem Cac_show (R : RC z b I S) (Ca : Cac z b I sv sb S) (g : GrI z I J) (wz : WzN y J) (Ry : RC y b J S') (f : FrZ (WL z b L T C) z y) (hd : wDis L wCk = true) (h18 : wDis L [(18, none)] = true) (hT : ∀ a, T a → zO z (b 0) 11 = some a) (e1 : S'.2.1 = S.2.1) (ws : WkS z y b (fun a => zK z a = 0 ∧ zO y a 3 = none)) : Cac y b J sv sb S' ∧ ∀ v, 0 ≤ v → v < S.2.1.1 → (UnV y b v ↔ UnV z b v) := by
  obtain ⟨K, R8, V7, Cv, Di, Cw, St⟩ := Ca
  obtain ⟨Ky, R8y, V7y⟩ := Ca_g K R8 V7 g wz Ry.2.1 f hd
  have e18 : ∀ i, zO y (b 18) i = zO z (b 18) i := fun i => (bI K.1 f (R := [(18, none)]) h18 (k := 18) (by decide) (i := i) (wHas_a (by decide))).2.2
  have ver : ∀ v, 0 ≤ v → v < S.2.1.1 → ∃ a, zO z (b 18) v = some a ∧ ShC z I a (S.2.1.2.1 v) := fun v v0 v1 => (R.2.2.2.1.2 v v0 v1).1.1
  have nW : ∀ a, zK z a = 7 → zO z (b 0) 11 ≠ some a → ¬ WL z b L T C a 3 := fun a k7 hne => by
    rintro (⟨t, t1, t2, t3, t4⟩ | ⟨t1, -, -⟩ | ⟨-, t2, -⟩)
    · exact neS K.1 k7 t2 t3
    · exact hne (hT a t1)
    · rw [k7] at t2; cases t2
  have f3 : ∀ a, zK z a = 7 → zO z (b 0) 11 ≠ some a → zO y a 3 = zO z a 3 := fun a k7 hne => (f.2 a 3 (by rw [k7]; decide) (nW a k7 hne)).2.2
  have nwk : ∀ v, 0 ≤ v → v < S.2.1.1 → ∀ a, zO z (b 18) v = some a → zO z (b 0) 11 ≠ some a := fun v v0 v1 a ea e => Di.2 v v0 v1 (ea.trans e.symm)
  have aln : ∀ a, LvA y b a → zO y a 3 = none ∧ ∀ v, 0 ≤ v → v < S.2.1.1 → zO z (b 18) v ≠ some a := fun a la => by
    rcases ws.1 a la with ⟨n0, n3⟩ | la1
    · refine ⟨n3, fun v v0 v1 e => ?_⟩
      obtain ⟨a', q1, q2⟩ := ver v v0 v1
      rw [e] at q1
      injection q1 with q1
      have := ShC_7 q2
      rw [← q1, n0] at this; cases this
    · obtain ⟨s1, s2⟩ := St a la1
      refine ⟨?_, s1⟩
      by_cases c : zO z (b 0) 11 = some a
      · exact ws.2 a c
      · rw [f3 a (LvA_7 R la1) c]; exact s2.resolve_right c
  refine ⟨⟨Ky, R8y, V7y, ?_, ⟨?_, ?_⟩, fun a ea hne => absurd (aln a (Or.inl ea)).1 hne, ?_⟩, fun v v0 v1 => ?_⟩
  · rw [e1]
    intro v v0 v1 a ea hne r c r0 r1 c0 c1
    rw [e18] at ea
    obtain ⟨a', q1, q2⟩ := ver v v0 v1
    have eq : a' = a := by rw [ea] at q1; injection q1 with q1; exact q1.symm
    rw [eq] at q2
    have nk := nwk v v0 v1 a ea
    rw [f3 a (ShC_7 q2) nk] at hne
    exact CvJ_J g.1 (CvJ_W (WL_I K.2.1) f q2 (nW a (ShC_7 q2) nk) (Cv v v0 v1 a ea hne r c r0 r1 c0 c1))
  · rw [e1]
    intro v v' v0 v1 v0' v1' e
    rw [e18, e18] at e
    exact Di.1 v v' v0 v1 v0' v1' e
  · rw [e1]
    intro v v0 v1 e
    rw [e18] at e
    obtain ⟨q, q1, -⟩ := Ry.2.2.2.2.2.1.1
    exact (aln q (Or.inl q1)).2 v v0 v1 (e.trans q1)
  · rw [e1]
    exact fun a la => ⟨fun v v0 v1 => by rw [e18]; exact (aln a la).2 v v0 v1, Or.inl (aln a la).1⟩
  · unfold UnV
    rw [e18]
    obtain ⟨a', q1, q2⟩ := ver v v0 v1
    have nk := nwk v v0 v1 a' q1
    constructor
    · intro h a ea
      have eq : a' = a := by rw [ea] at q1; injection q1 with q1; exact q1.symm
      rw [← eq, ← f3 a' (ShC_7 q2) nk, eq]; exact h a ea
    · intro h a ea
      have eq : a' = a := by rw [ea] at q1; injection q1 with q1; exact q1.symm
      rw [← eq, f3 a' (ShC_7 q2) nk, eq]; exact h a ea
/-- the working Sheet stays -/
theorem Cac_keep (R : RC z b I S) (Ca : Cac z b I sv sb S) (g : GrI z I J) (wz : WzN y J) (Ry : RC y b J S') (f : FrZ (WL z b L no1 C) z y) (hd : wDis L wCk = true) (h18 : wDis L [(18, none)] = true) (hst : wDis L wSt = true) (e1 : S'.2.1 = S.2.1) (e2 : S'.2.2.2.1.1 = S.2.2.2.1.1) : Cac y b J sv sb S' ∧ ∀ v, 0 ≤ v → v < S.2.1.1 → (UnV y b v ↔ UnV z b v) := by
  obtain ⟨K, R8, V7, Cv, Di, Cw, St⟩ := Ca
  obtain ⟨Ky, R8y, V7y⟩ := Ca_g K R8 V7 g wz Ry.2.1 f hd
  have e18 : ∀ i, zO y (b 18) i = zO z (b 18) i := fun i => (bI K.1 f (R := [(18, none)]) h18 (k := 18) (by decide) (i := i) (wHas_a (by decide))).2.2
  have e11 : zO y (b 0) 11 = zO z (b 0) 11 := (bI K.1 f (R := wSt) hst (k := 0) (by decide) (i := 11) (wHas_i (by decide))).2.2
  have e8 : ∀ i, zO y (b 8) i = zO z (b 8) i := fun i => (bI K.1 f (R := wCk) hd (k := 8) (by decide) (i := i) (wHas_a (by decide))).2.2
  have ver : ∀ v, 0 ≤ v → v < S.2.1.1 → ∃ a, zO z (b 18) v = some a ∧ ShC z I a (S.2.1.2.1 v) := fun v v0 v1 => (R.2.2.2.1.2 v v0 v1).1.1
  have f3 : ∀ a, zK z a = 7 → zO y a 3 = zO z a 3 := fun a k7 => (f.2 a 3 (by rw [k7]; decide) (WL_37 K.1 k7 3)).2.2
  refine ⟨⟨Ky, R8y, V7y, ?_, ⟨?_, ?_⟩, ?_, ?_⟩, fun v v0 v1 => ?_⟩
  · rw [e1]
    intro v v0 v1 a ea hne r c r0 r1 c0 c1
    rw [e18] at ea
    obtain ⟨a', q1, q2⟩ := ver v v0 v1
    have eq : a' = a := by rw [ea] at q1; injection q1 with q1; exact q1.symm
    rw [eq] at q2
    rw [f3 a (ShC_7 q2)] at hne
    exact CvJ_J g.1 (CvJ_W (WL_I K.2.1) f q2 (WL_37 K.1 (ShC_7 q2) 3) (Cv v v0 v1 a ea hne r c r0 r1 c0 c1))
  · rw [e1]
    intro v v' v0 v1 v0' v1' e
    rw [e18, e18] at e
    exact Di.1 v v' v0 v1 v0' v1' e
  · rw [e1]
    intro v v0 v1 e
    rw [e18, e11] at e
    exact Di.2 v v0 v1 e
  · rw [e1, e2]
    intro a ea hne
    rw [e11] at ea
    obtain ⟨a', q1, q2⟩ := R.2.2.2.2.2.1.1
    have eq : a' = a := by rw [ea] at q1; injection q1 with q1; exact q1.symm
    rw [eq] at q2
    rw [f3 a (ShC_7 q2)] at hne ⊢
    obtain ⟨⟨w1, w2⟩, w3⟩ := Cw a ea hne
    refine ⟨⟨w1, fun i fi => ?_⟩, w3⟩
    obtain ⟨x, xb, t1, t2, t3, t4⟩ := w2 i fi
    obtain ⟨xb', H⟩ := R8.1 i x t1
    have exb : xb' = xb := by have := H.1.2.1; rw [t2] at this; injection this with this; exact this.symm
    rw [exb] at H
    have nx : ∀ i, ¬ WL z b L no1 C x i := fun i => WL_9 (by rw [H.1.1]; decide) (by rw [H.1.1]; decide) (fun k hk => (H.2.2.2 k hk).1)
    have nb : ∀ i, ¬ WL z b L no1 C xb i := fun i => WL_9 (by rw [H.1.2.2.1]; decide) (by rw [H.1.2.2.1]; decide) (fun k hk => (H.2.2.2 k hk).2)
    exact ⟨x, xb, by rw [e8]; exact t1, ((f.2 x 0 (by rw [H.1.1]; decide) (nx 0)).2.2).trans t2, ⟨VlS_fr t3.1 f (nx 0) (nx 1) (nx 2) nb, by rw [(f.1 xb (by rw [H.1.2.2.1]; decide)).2]; exact t3.2⟩, t4⟩
  · rw [e1]
    intro a la
    have la1 := LvA_fr K.1 f hst la
    obtain ⟨s1, s2⟩ := St a la1
    exact ⟨fun v v0 v1 => by rw [e18]; exact s1 v v0 v1, by rw [f3 a (LvA_7 R la1), e11]; exact s2⟩
  · unfold UnV
    rw [e18]
    obtain ⟨a', q1, q2⟩ := ver v v0 v1
    constructor
    · intro h a ea
      have eq : a' = a := by rw [ea] at q1; injection q1 with q1; exact q1.symm
      rw [← eq, ← f3 a' (ShC_7 q2), eq]; exact h a ea
    · intro h a ea
      have eq : a' = a := by rw [ea] at q1; injection q1 with q1; exact q1.symm
      rw [← eq, f3 a' (ShC_7 q2), eq]; exact h a ea
/-- a version more -/
theorem Cac_com {q : Nat} (R : RC z b I S) (A : ShA S) (Ca : Cac z b I sv sb S) (g : GrI z I J) (wz : WzN y J) (Ry : RC y b J S') (f : FrZ (WL z b L no1 C) z y) (hd : wDis L wCk = true) (hst : wDis L wSt = true) (e1 : S'.2.1.1 = S.2.1.1 + 1) (eF : ∀ v, 0 ≤ v → v < S.2.1.1 → S'.2.1.2.1 v = S.2.1.2.1 v) (e2 : S'.2.2.2.1.1 = S.2.2.2.1.1) (hq : zO y (b 18) S.2.1.1 = some q ∧ zK z q = 0 ∧ zO y q 3 = none ∧ ∀ k, k ≠ S.2.1.1 → zO y (b 18) k = zO z (b 18) k) : Cac y b J sv sb S' ∧ ∀ v, 0 ≤ v → v < S.2.1.1 → (UnV y b v ↔ UnV z b v) := by
  obtain ⟨K, R8, V7, Cv, Di, Cw, St⟩ := Ca
  obtain ⟨Ky, R8y, V7y⟩ := Ca_g K R8 V7 g wz Ry.2.1 f hd
  obtain ⟨hq1, hq2, hq3, hq4⟩ := hq
  have e11 : zO y (b 0) 11 = zO z (b 0) 11 := (bI K.1 f (R := wSt) hst (k := 0) (by decide) (i := 11) (wHas_i (by decide))).2.2
  have e8 : ∀ i, zO y (b 8) i = zO z (b 8) i := fun i => (bI K.1 f (R := wCk) hd (k := 8) (by decide) (i := i) (wHas_a (by decide))).2.2
  have ver : ∀ v, 0 ≤ v → v < S.2.1.1 → ∃ a, zO z (b 18) v = some a ∧ ShC z I a (S.2.1.2.1 v) := fun v v0 v1 => (R.2.2.2.1.2 v v0 v1).1.1
  have f3 : ∀ a, zK z a = 7 → zO y a 3 = zO z a 3 := fun a k7 => (f.2 a 3 (by rw [k7]; decide) (WL_37 K.1 k7 3)).2.2
  have hZ : ∀ v, 0 ≤ v → v < S.2.1.1 → WfZ S.2.1.2.1 v (S.2.1.2.1 v) := fun v v0 v1 => ShW_Z (A.1 v v0 v1) (fun w w0 w1 => (A.1 w w0 (by omega)).1)
  have gv := GV_F (F := S.2.1.2.1) (F' := S'.2.1.2.1) (n := S.2.1.1) (fun v v0 v1 => (eF v v0 v1).symm) hZ
  have wv : WV S.2.1.2.1 S.2.2.2.1.1 = WV S'.2.1.2.1 S.2.2.2.1.1 := WV_F (ShW_Z A.2 (fun w w0 w1 => (A.1 w w0 w1).1)) (fun v v0 v1 => (eF v v0 v1).symm) hZ
  have vne : ∀ v, 0 ≤ v → v < S.2.1.1 → zO z (b 18) v ≠ some q := fun v v0 v1 e => by
    obtain ⟨a', q1, q2⟩ := ver v v0 v1
    rw [e] at q1
    injection q1 with q1
    have := ShC_7 q2
    rw [← q1, hq2] at this; cases this
  refine ⟨⟨Ky, R8y, V7y, ?_, ⟨?_, ?_⟩, ?_, ?_⟩, fun v v0 v1 => ?_⟩
  · rw [e1]
    intro v v0 v1 a ea hne r c r0 r1 c0 c1
    by_cases cv : v = S.2.1.1
    · rw [cv, hq1] at ea
      injection ea with ea
      rw [← ea] at hne
      exact absurd hq3 hne
    · have v1' : v < S.2.1.1 := by omega
      rw [hq4 v cv] at ea
      rw [eF v v0 v1'] at r1 c1 ⊢
      rw [← gv v v0 v1']
      obtain ⟨a', q1, q2⟩ := ver v v0 v1'
      have eq : a' = a := by rw [ea] at q1; injection q1 with q1; exact q1.symm
      rw [eq] at q2
      rw [f3 a (ShC_7 q2)] at hne
      exact CvJ_J g.1 (CvJ_W (WL_I K.2.1) f q2 (WL_37 K.1 (ShC_7 q2) 3) (Cv v v0 v1' a ea hne r c r0 r1 c0 c1))
  · rw [e1]
    intro v v' v0 v1 v0' v1' e
    by_cases cv : v = S.2.1.1
    · by_cases cv' : v' = S.2.1.1
      · rw [cv, cv']
      · rw [cv, hq1, hq4 v' cv'] at e
        exact absurd e.symm (vne v' v0' (by omega))
    · by_cases cv' : v' = S.2.1.1
      · rw [cv', hq1, hq4 v cv] at e
        exact absurd e (vne v v0 (by omega))
      · rw [hq4 v cv, hq4 v' cv'] at e
        exact Di.1 v v' v0 (by omega) v0' (by omega) e
  · rw [e1]
    intro v v0 v1 e
    rw [e11] at e
    by_cases cv : v = S.2.1.1
    · rw [cv, hq1] at e
      obtain ⟨a', q1, q2⟩ := R.2.2.2.2.2.1.1
      rw [← e] at q1
      injection q1 with q1
      have := ShC_7 q2
      rw [← q1, hq2] at this; cases this
    · rw [hq4 v cv] at e
      exact Di.2 v v0 (by omega) e
  · rw [e2]
    intro a ea hne
    rw [e11] at ea
    rw [← wv]
    obtain ⟨a', q1, q2⟩ := R.2.2.2.2.2.1.1
    have eq : a' = a := by rw [ea] at q1; injection q1 with q1; exact q1.symm
    rw [eq] at q2
    rw [f3 a (ShC_7 q2)] at hne ⊢
    obtain ⟨⟨w1, w2⟩, w3⟩ := Cw a ea hne
    refine ⟨⟨w1, fun i fi => ?_⟩, w3⟩
    obtain ⟨x, xb, t1, t2, t3, t4⟩ := w2 i fi
    obtain ⟨xb', H⟩ := R8.1 i x t1
    have exb : xb' = xb := by have := H.1.2.1; rw [t2] at this; injection this with this; exact this.symm
    rw [exb] at H
    have nx : ∀ i, ¬ WL z b L no1 C x i := fun i => WL_9 (by rw [H.1.1]; decide) (by rw [H.1.1]; decide) (fun k hk => (H.2.2.2 k hk).1)
    have nb : ∀ i, ¬ WL z b L no1 C xb i := fun i => WL_9 (by rw [H.1.2.2.1]; decide) (by rw [H.1.2.2.1]; decide) (fun k hk => (H.2.2.2 k hk).2)
    exact ⟨x, xb, by rw [e8]; exact t1, ((f.2 x 0 (by rw [H.1.1]; decide) (nx 0)).2.2).trans t2, ⟨VlS_fr t3.1 f (nx 0) (nx 1) (nx 2) nb, by rw [(f.1 xb (by rw [H.1.2.2.1]; decide)).2]; exact t3.2⟩, t4⟩
  · rw [e1]
    intro a la
    have la1 := LvA_fr K.1 f hst la
    obtain ⟨s1, s2⟩ := St a la1
    refine ⟨fun v v0 v1 => ?_, by rw [f3 a (LvA_7 R la1), e11]; exact s2⟩
    by_cases cv : v = S.2.1.1
    · rw [cv, hq1]
      intro e
      injection e with e
      have := LvA_7 R la1
      rw [← e, hq2] at this; cases this
    · rw [hq4 v cv]; exact s1 v v0 (by omega)
  · unfold UnV
    rw [hq4 v (by omega)]
    obtain ⟨a', q1, q2⟩ := ver v v0 v1
    constructor
    · intro h a ea
      have eq : a' = a := by rw [ea] at q1; injection q1 with q1; exact q1.symm
      rw [← eq, ← f3 a' (ShC_7 q2), eq]; exact h a ea
    · intro h a ea
      have eq : a' = a := by rw [ea] at q1; injection q1 with q1; exact q1.symm
      rw [← eq, f3 a' (ShC_7 q2), eq]; exact h a ea
end Cg
