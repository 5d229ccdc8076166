/-! ===== the reference: values when they are needed; kind, value, letter ===== -/
def wNd : WR := [(66, none), (67, none), (68, none), (69, none), (70, none), (0, some 71), (0, some 72), (0, some 73), (0, some 74), (0, some 75), (0, some 76), (0, some 77), (0, some 78), (0, some 79), (0, some 80), (0, some 81), (60, none), (61, none), (62, none), (63, none), (82, none), (83, none), (84, none), (85, none), (64, none), (0, some 65)]
def wNr : WR := [(60, none), (61, none), (62, none), (63, none), (64, none), (0, some 65), (1, none), (2, none), (3, none), (4, none), (5, none)]
def VsM (u : Mu) (n : Int) (F : Int → Sh) : Prop := ∀ v, 0 ≤ v → v < n → mI u 64 v ≠ 0 → ∀ k, inS (F v) k → CvM u (320 * v + k) (GV F v (k / 10) (k % 10))
def FsM (u : Mu) (F : Int → Sh) (h : Sh) : Prop := mI u 0 65 ≠ 0 → ∀ k, inS h k → CvM u (12800 + k) (WV F h (k / 10) (k % 10))
def NdM (u : Mu) (n : Int) (F : Int → Sh) (h : Sh) : Prop := (0 ≤ n ∧ n ≤ 40) ∧ CoB u ∧ (∀ v, 0 ≤ v → v < n → ShM u v (F v) ∧ WfZ F v (F v)) ∧ (ShM u 40 h ∧ WfZ F n h) ∧ VsM u n F ∧ FsM u F h ∧ ∀ v, n ≤ v → v < 40 → mI u 64 v = 0
theorem CvM_e {L : WR} {u v : Mu} {x : Int} {l : Lit} (f : FrM L u v) (hd : wDis L [(60, none), (61, none), (62, none), (63, none)] = true) (h : CvM u x l) : CvM v x l := CvM_w (FrW_of (C := fun _ => False) f hd) id h
theorem wDis_l {L R : WR} (h : wDis L R = true) {R' : WR} (hR : ∀ t ∈ R', t ∈ R) : wDis L R' = true := by
  unfold wDis at *
  rw [List.all_eq_true] at *
  intro t ht
  have := h t ht
  rw [List.all_eq_true] at *
  exact fun r hr => this r (hR r hr)
section Nd
variable {u : Mu} {n : Int} {F : Int → Sh} {h : Sh}
theorem NdM_f {L : WR} {v : Mu} (f : FrM L u v) (h1 : wDis L wNr = true) (h2 : wDis L rgC = true) (N : NdM u n F h) : NdM v n F h := by
  obtain ⟨a1, a2, a3, a4, a5, a6, a7⟩ := N
  have h3 := wDis_l h1 (R' := wSl) (by decide)
  have h4 := wDis_l h1 (R' := [(60, none), (61, none), (62, none), (63, none)]) (by decide)
  have g := Grw_fr a2.1.1 f h2
  refine ⟨a1, CoB_fr f h2 a2, fun w w0 w1 => ⟨ShM_s (a3 w w0 w1).2.1 g (SlM_fr f h3) (a3 w w0 w1).1, (a3 w w0 w1).2⟩, ⟨ShM_s a4.2.1 g (SlM_fr f h3) a4.1, a4.2⟩, fun w w0 w1 z k hk => ?_, fun z k hk => ?_, fun w w0 w1 => (mE f h1 (wHas_a (by decide))).trans (a7 w w0 w1)⟩
  · rw [mE f h1 (wHas_a (by decide))] at z
    exact CvM_e f h4 (a5 w w0 w1 z k hk)
  · rw [mE f h1 (wHas_i (by decide))] at z
    exact CvM_e f h4 (a6 z k hk)
theorem NdM_x {x : Int} (N : NdM u n F h) (x0 : 0 ≤ x) (x1 : x < n) (hv : ∀ v, 0 ≤ v → v < x → mI u 64 v ≠ 0) : VxM u x x F (GV F) (F x) := by
  obtain ⟨a1, a2, a3, a4, a5, a6, a7⟩ := N
  refine ⟨⟨⟨x0, by omega⟩, by omega⟩, a2, (a3 x x0 x1).1, fun v v0 v1 => ⟨(a3 v v0 (by omega)).1, fun r c r0 r1 c0 c1 => ?_⟩, (a3 x x0 x1).2⟩
  obtain ⟨⟨b1, b2⟩, b3, b4⟩ := (a3 v v0 (by omega)).2.1
  have := a5 v v0 (by omega) (hv v v0 v1) (10 * r + c) ⟨⟨by omega, by omega⟩, by omega, by omega⟩
  rw [show (10 * r + c) / 10 = r by omega, show (10 * r + c) % 10 = c by omega, show 320 * v + (10 * r + c) = 320 * v + 10 * r + c by omega] at this
  exact this
theorem NdM_40 (N : NdM u n F h) (hv : ∀ v, 0 ≤ v → v < n → mI u 64 v ≠ 0) : VxM u 40 n F (GV F) h := by
  obtain ⟨a1, a2, a3, a4, a5, a6, a7⟩ := N
  refine ⟨⟨⟨by omega, by omega⟩, by omega⟩, a2, a4.1, fun v v0 v1 => ⟨(a3 v v0 (by omega)).1, fun r c r0 r1 c0 c1 => ?_⟩, a4.2⟩
  obtain ⟨⟨b1, b2⟩, b3, b4⟩ := (a3 v v0 (by omega)).2.1
  have := a5 v v0 (by omega) (hv v v0 v1) (10 * r + c) ⟨⟨by omega, by omega⟩, by omega, by omega⟩
  rw [show (10 * r + c) / 10 = r by omega, show (10 * r + c) % 10 = c by omega, show 320 * v + (10 * r + c) = 320 * v + 10 * r + c by omega] at this
  exact this
/-- one version's values, or the working sheet's, are worked out -/
theorem NdM_s {v : Mu} {s : Int} (N : NdM u n F h) (f : FrV s u v) (hs : s ≤ 40) (ha : 0 ≤ s → s < n → ∀ k, inS (F s) k → CvM v (320 * s + k) (GV F s (k / 10) (k % 10))) (hb : s = 40 → ∀ k, inS h k → CvM v (12800 + k) (WV F h (k / 10) (k % 10))) : NdM v n F h := by
  obtain ⟨a1, a2, a3, a4, a5, a6, a7⟩ := N
  refine ⟨a1, CoB_fr f.1 (by decide) a2, fun w w0 w1 => ⟨ShM_v (a3 w w0 w1).2.1 a2 f.1 (a3 w w0 w1).1, (a3 w w0 w1).2⟩, ⟨ShM_v a4.2.1 a2 f.1 a4.1, a4.2⟩, fun w w0 w1 z k hk => ?_, fun z k hk => ?_, fun w w0 w1 => (mE f.1 (R := [(64, none)]) (by decide) (wHas_a (by decide))).trans (a7 w w0 w1)⟩
  · by_cases c : w = s
    · rw [c] at w0 w1 hk ⊢; exact ha w0 w1 k hk
    · rw [mE f.1 (R := [(64, none)]) (by decide) (wHas_a (by decide))] at z
      have := hk.1
      exact CvM_w f (fun z => by omega) (a5 w w0 w1 z k hk)
  · by_cases c : s = 40
    · exact hb c k hk
    · rw [mE f.1 (R := [(0, some 65)]) (by decide) (wHas_i (by decide))] at z
      have := hk.1
      exact CvM_w f (fun z => by omega) (a6 z k hk)
theorem NdM_64 {x : Int} (x1 : x < n) (N : NdM u n F h) (hx : ∀ k, inS (F x) k → CvM u (320 * x + k) (GV F x (k / 10) (k % 10))) : NdM (uI u 64 x 1) n F h := by
  have f : FrM [(64, none)] u (uI u 64 x 1) := FrM_uI FrM_rf (wHas_a (by decide))
  obtain ⟨a1, a2, a3, a4, a5, a6, a7⟩ := N
  have g := Grw_fr a2.1.1 f (by decide)
  refine ⟨a1, CoB_fr f (by decide) a2, fun w w0 w1 => ⟨ShM_s (a3 w w0 w1).2.1 g (SlM_fr f (by decide)) (a3 w w0 w1).1, (a3 w w0 w1).2⟩, ⟨ShM_s a4.2.1 g (SlM_fr f (by decide)) a4.1, a4.2⟩, fun w w0 w1 z k hk => ?_, fun z k hk => ?_, fun w w0 w1 => by rw [mI_uI, if_neg (fun q => by have := q.2; omega)]; exact a7 w w0 w1⟩
  · by_cases c : w = x
    · rw [c] at hk ⊢; exact CvM_e f (by decide) (hx k hk)
    · rw [mI_uI, if_neg (fun w => c w.2)] at z
      exact CvM_e f (by decide) (a5 w w0 w1 z k hk)
  · rw [mE f (R := [(0, some 65)]) (by decide) (wHas_i (by decide))] at z
    exact CvM_e f (by decide) (a6 z k hk)
theorem NdM_65 (N : NdM u n F h) (hx : ∀ k, inS h k → CvM u (12800 + k) (WV F h (k / 10) (k % 10))) : NdM (uI u 0 65 1) n F h := by
  have f : FrM [(0, some 65)] u (uI u 0 65 1) := FrM_uI FrM_rf (wHas_i (by decide))
  obtain ⟨a1, a2, a3, a4, a5, a6, a7⟩ := N
  have g := Grw_fr a2.1.1 f (by decide)
  refine ⟨a1, CoB_fr f (by decide) a2, fun w w0 w1 => ⟨ShM_s (a3 w w0 w1).2.1 g (SlM_fr f (by decide)) (a3 w w0 w1).1, (a3 w w0 w1).2⟩, ⟨ShM_s a4.2.1 g (SlM_fr f (by decide)) a4.1, a4.2⟩, fun w w0 w1 z k hk => ?_, fun z k hk => CvM_e f (by decide) (hx k hk), fun w w0 w1 => (mE f (R := [(64, none)]) (by decide) (wHas_a (by decide))).trans (a7 w w0 w1)⟩
  rw [mE f (R := [(64, none)]) (by decide) (wHas_a (by decide))] at z
  exact CvM_e f (by decide) (a5 w w0 w1 z k hk)
theorem e_need {s : Int} {P : Mu → Prop} (N : NdM u n F h) (hs : s = 40 ∨ (0 ≤ s ∧ s < n)) (e8 : mI u 0 8 = n) (p : ∀ w, NdM w n F h → FrM wNd u w → (∀ v, 0 ≤ v → v < n → (s = 40 ∨ v ≤ s) → mI w 64 v ≠ 0) → (s = 40 → mI w 0 65 ≠ 0) → P w) : F_X12_needValues s u P := by
  have hn := N.1
  have key : ∀ m, 0 ≤ m → m ≤ n → (∀ v, 0 ≤ v → v < n → (s = 40 ∨ v ≤ s) → v < m) → F_X12_needValues_19 s m 0 u P := fun m m0 m1 hm => by
    unfold F_X12_needValues_19
    refine lp_I (fun q => (0 ≤ q.1 ∧ q.1 ≤ m) ∧ NdM q.2 n F h ∧ FrM wNd u q.2 ∧ ∀ v, 0 ≤ v → v < q.1 → mI q.2 64 v ≠ 0) (fun q => (m - q.1).toNat) ?_ (0, u) (And.intro ⟨by show (0 : Int) ≤ 0; omega, m0⟩ (And.intro N (And.intro FrM_rf (fun v v0 v1 => by exfalso; have : v < 0 := v1; omega))))
    rintro G3 ⟨x, w⟩ ⟨⟨x0, x1⟩, N2, f, H⟩ ih
    simp only at x0 x1 N2 f H
    show L_X12_needValues_19 s m x w _
    unfold L_X12_needValues_19
    by_cases c : m ≤ x
    · rw [if_pos c]
      have al : ∀ v, 0 ≤ v → v < n → (s = 40 ∨ v ≤ s) → mI w 64 v ≠ 0 := fun v v0 v1 v2 => H v v0 (by have := hm v v0 v1 v2; omega)
      show (if s = 40 then (if mI w 0 65 = 0 then F_X12_valuesOf 40 w (fun u_67 => (∀ u_72, u_72 = uI u_67 0 65 1 → F_X12_needValues_75 u_72 P)) else F_X12_needValues_75 w P) else F_X12_needValues_75 w P)
      unfold F_X12_needValues_75
      by_cases c4 : s = 40
      · rw [if_pos c4]
        by_cases c5 : mI w 0 65 = 0
        · rw [if_pos c5]
          have X := NdM_40 N2 (fun v v0 v1 => al v v0 v1 (Or.inl c4))
          refine e_values X (fun v g fv S hv v2 e2 => ?_)
          have su := solv_u X.2.2.2.2 S
          have hw : ∀ k, inS h k → CvM v (12800 + k) (WV F h (k / 10) (k % 10)) := fun k hk => by
            have := hv k hk
            rw [su k hk] at this
            exact this
          have N3 := NdM_65 (NdM_s N2 fv (by omega) (fun _ z => by omega) (fun _ => hw)) hw
          rw [← e2] at N3
          have f2 : FrM [(0, some 65)] v v2 := by rw [e2]; exact FrM_uI FrM_rf (wHas_i (by decide))
          refine p v2 N3 (FrM_tr f (FrM_tr (FrM_up fv.1 (by decide)) (FrM_up f2 (by decide)))) (fun y y0 y1 y2 => ?_) (fun _ => ?_)
          · rw [mE f2 (R := [(64, none)]) (by decide) (wHas_a (by decide)), mE fv.1 (R := [(64, none)]) (by decide) (wHas_a (by decide))]
            exact al y y0 y1 y2
          · rw [e2, mI_uI, if_pos ⟨rfl, rfl⟩]; decide
        · rw [if_neg c5]; exact p w N2 f al (fun _ => c5)
      · rw [if_neg c4]; exact p w N2 f al (fun z => absurd z c4)
    rw [if_neg c]
    refine ⟨by omega, by omega, ?_⟩
    unfold F_X12_needValues_45
    rw [w32e (x := x + 1) (by omega) (by omega)]
    by_cases c5 : mI w 64 x = 0
    · rw [if_pos c5]
      have X := NdM_x N2 x0 (by omega) H
      refine e_values X (fun v g fv S hv v2 e2 => ?_)
      have su := GV_u x0 X.2.2.2.2 S
      have hw : ∀ k, inS (F x) k → CvM v (320 * x + k) (GV F x (k / 10) (k % 10)) := fun k hk => by
        have := hv k hk
        rw [su k hk] at this
        exact this
      have N3 := NdM_64 (show x < n by omega) (NdM_s N2 fv (by omega) (fun _ _ => hw) (fun z => by omega)) hw
      rw [← e2] at N3
      have f2 : FrM [(64, none)] v v2 := by rw [e2]; exact FrM_uI FrM_rf (wHas_a (by decide))
      refine ih (x + 1, v2) (And.intro ⟨by show 0 ≤ x + 1; omega, by show x + 1 ≤ m; omega⟩ (And.intro N3 (And.intro (FrM_tr f (FrM_tr (FrM_up fv.1 (by decide)) (FrM_up f2 (by decide)))) (fun y y0 y1 => ?_)))) (by show (m - (x + 1)).toNat < (m - x).toNat; omega)
      show mI v2 64 y ≠ 0
      have y1 : y < x + 1 := y1
      rw [e2, mI_uI]
      by_cases cy : y = x
      · rw [if_pos ⟨rfl, cy⟩]; decide
      · rw [if_neg (fun z => cy z.2), mE fv.1 (R := [(64, none)]) (by decide) (wHas_a (by decide))]
        exact H y y0 (by omega)
    · rw [if_neg c5]
      refine ih (x + 1, w) (And.intro ⟨by show 0 ≤ x + 1; omega, by show x + 1 ≤ m; omega⟩ (And.intro N2 (And.intro f (fun y y0 y1 => ?_)))) (by show (m - (x + 1)).toNat < (m - x).toNat; omega)
      show mI w 64 y ≠ 0
      have y1 : y < x + 1 := y1
      by_cases cy : y = x
      · rw [cy]; exact c5
      · exact H y y0 (by omega)
  unfold F_X12_needValues F_X12_needValues_16
  by_cases c : s = 40
  · rw [if_pos c, e8]
    exact key n hn.1 (by omega) (fun v _ v1 _ => v1)
  · have hs2 : 0 ≤ s ∧ s < n := by rcases hs with z | z; exact absurd z c; exact z
    rw [if_neg c, w32e (x := s + 1) (by omega) (by omega)]
    exact key (s + 1) (by omega) (by omega) (fun v _ _ v2 => by rcases v2 with z | z; exact absurd z c; omega)
end Nd
def NdS (u : Mu) (S : SS) : Prop := NdM u S.2.1.1 S.2.1.2.1 S.2.2.2.1.1
/-- the value of a cell that can be asked for -/
noncomputable def vvS (v : Int) (S : SS) : Int → Int → Lit := if v = -1 then WV S.2.1.2.1 S.2.2.2.1.1 else GV S.2.1.2.1 v
def askP (v r c : Int) (S : SS) : Prop := isShP v S ∧ (1 ≤ r ∧ r ≤ (shOf v S).1.1) ∧ (1 ≤ c ∧ c ≤ (shOf v S).1.2)
noncomputable def pKind (v r c : Int) (S : SS) : Int := ci (askP v r c S) (vvS v S (r - 1) (c - 1)).1 (-1)
noncomputable def pValue (v r c : Int) (S : SS) : Int := ci (askP v r c S) (if (vvS v S (r - 1) (c - 1)).1 = 0 then 0 else if (vvS v S (r - 1) (c - 1)).1 = 2 then ((vvS v S (r - 1) (c - 1)).2.2.length : Int) else (vvS v S (r - 1) (c - 1)).2.1) 0
noncomputable def pLetter (v r c i : Int) (S : SS) : Int := ci (askP v r c S) (if (vvS v S (r - 1) (c - 1)).1 = 2 ∧ 0 ≤ i ∧ i < ((vvS v S (r - 1) (c - 1)).2.2.length : Int) then (vvS v S (r - 1) (c - 1)).2.2.getD i.toNat 0 else -1) (-1)
def wNd0 : WR := (0, some 0) :: wNd
theorem i_needS {u : Mu} {N v r c : Int} {S : SS} {P : Mu → Prop} (hB : Bd S) (R : RM u N S) (Nd : NdS u S) (a : askP v r c S) (p : ∀ w, RM w N S → NdS w S → FrM wNd u w → CvM w (320 * slt v + 10 * (r - 1) + (c - 1)) (vvS v S (r - 1) (c - 1)) → P w) : F_X12_needValues (slt v) u P := by
  obtain ⟨e, d1, d2⟩ := a
  have sb := slt_b hB e
  have hn := hB.2.1.1
  have bw := EnW_b hB e (-1) (by decide) (by have := hB.2.1.1.1; omega)
  unfold EnW at bw
  rw [if_pos rfl] at bw
  have b1 := bw.1.2
  have b2 := bw.2.2
  have hin : inS (shOf v S) (10 * (r - 1) + (c - 1)) := ⟨⟨by omega, by omega⟩, by omega, by omega⟩
  have q1 : (10 * (r - 1) + (c - 1)) / 10 = r - 1 := by omega
  have q2 : (10 * (r - 1) + (c - 1)) % 10 = c - 1 := by omega
  refine e_need Nd ?_ R.2.2.1.1 (fun w N2 f hv hw => p w (RM_fr hB f (by decide) (by decide) (by decide) (by decide) (by decide) (by decide) (by decide) R) N2 f ?_)
  · unfold slt
    by_cases c1 : v = -1
    · rw [if_pos c1]; exact Or.inl rfl
    · rw [if_neg c1]
      have := e.1
      have := e.2
      exact Or.inr (by omega)
  · unfold slt at hv hw ⊢
    unfold vvS
    unfold shOf at hin
    by_cases c1 : v = -1
    · rw [if_pos c1] at hv hw hin ⊢
      rw [if_pos c1]
      have := N2.2.2.2.2.2.1 (hw rfl) _ hin
      rw [q1, q2] at this
      rw [show 320 * 40 + 10 * (r - 1) + (c - 1) = 12800 + (10 * (r - 1) + (c - 1)) by omega]
      exact this
    · rw [if_neg c1] at hv hw hin ⊢
      rw [if_neg c1]
      have e1 := e.1
      have e2 := e.2
      have := N2.2.2.2.2.1 v (by omega) (by omega) (hv v (by omega) (by omega) (Or.inr (Int.le_refl _))) _ hin
      rw [q1, q2] at this
      rw [show 320 * v + 10 * (r - 1) + (c - 1) = 320 * v + (10 * (r - 1) + (c - 1)) by omega]
      exact this
theorem NdS_0 {u : Mu} {x : Int} {S : SS} (N : NdS u S) : NdS (uI u 0 0 x) S := NdM_f (L := [(0, some 0)]) (FrM_uI FrM_rf (wHas_i (by decide))) (by decide) (by decide) N
theorem wNd_0 {u w : Mu} (f : FrM wNd (uI u 0 0 0) w) : FrM wNd0 u w ∧ mI w 0 0 = 0 := by
  refine ⟨FrM_tr (FrM_uI FrM_rf (wHas_i (by decide))) (FrM_up f (fun t ht => List.mem_cons_of_mem _ ht)), ?_⟩
  rw [mE f (R := [(0, some 0)]) (by decide) (k := 0) (i := 0) (wHas_i (by decide)), mI_uI, if_pos ⟨rfl, rfl⟩]
theorem slt_x {S : SS} (hB : Bd S) {v r c : Int} (a : askP v r c S) : 0 ≤ 320 * slt v + 10 * (r - 1) + (c - 1) ∧ 320 * slt v + 10 * (r - 1) + (c - 1) < 13120 := by
  obtain ⟨e, d1, d2⟩ := a
  have sb := slt_b hB e
  have bw := EnW_b hB e (-1) (by decide) (by have := hB.2.1.1.1; omega)
  unfold EnW at bw
  rw [if_pos rfl] at bw
  have b1 := bw.1.2
  have b2 := bw.2.2
  have s4 : slt v ≤ 40 := by
    have := hB.2.1.1
    unfold slt
    by_cases c1 : v = -1
    · rw [if_pos c1]; omega
    · rw [if_neg c1]; have := e.2; omega
  omega
theorem i_kind {u : Mu} {N v r c : Int} {S : SS} {P : Int → Mu → Prop} (hB : Bd S) (R : RM u N S) (Nd : NdS u S) (h : ∀ w, RM w N S → NdS w S → FrM wNd0 u w → mI w 0 0 = 0 → P (pKind v r c S) w) : F_X12_kind v r c u P := by
  unfold F_X12_kind
  rintro _ rfl
  have R' := RM_thr (x := 0) hB R
  have N' := NdS_0 (x := 0) Nd
  unfold pKind at h
  refine i_asked hB R' (fun e d => ?_) (fun d => ?_)
  · have a : askP v r c S := ⟨e, d⟩
    have bx := slt_x hB a
    rw [ci_1 a] at h
    rw [if_pos (by omega)]
    refine i_sheetAt e.1 (i_needS hB R' N' a (fun w Rw Nw f C => ⟨bx.1, bx.2, ?_⟩))
    obtain ⟨f1, f2⟩ := wNd_0 f
    rw [C.1.1]
    exact h w Rw Nw f1 f2
  · have d : ¬ askP v r c S := d
    rw [ci_0 d] at h
    rw [if_neg (by decide)]
    obtain ⟨f1, f2⟩ := wNd_0 (u := u) FrM_rf
    exact h _ R' N' f1 f2
theorem i_value {u : Mu} {N v r c : Int} {S : SS} {P : Int → Mu → Prop} (hB : Bd S) (R : RM u N S) (Nd : NdS u S) (h : ∀ w, RM w N S → NdS w S → FrM wNd0 u w → mI w 0 0 = 0 → P (pValue v r c S) w) : F_X12_value v r c u P := by
  unfold F_X12_value F_X12_value_72
  rintro _ rfl
  have R' := RM_thr (x := 0) hB R
  have N' := NdS_0 (x := 0) Nd
  unfold pValue at h
  refine i_asked hB R' (fun e d => ?_) (fun d => ?_)
  · have a : askP v r c S := ⟨e, d⟩
    have bx := slt_x hB a
    rw [ci_1 a] at h
    rw [if_pos (by omega)]
    refine i_sheetAt e.1 (i_needS hB R' N' a (fun w Rw Nw f C => ⟨bx.1, bx.2, ?_⟩))
    obtain ⟨f1, f2⟩ := wNd_0 f
    have hh := h w Rw Nw f1 f2
    obtain ⟨⟨c1, c2, c3⟩, c4⟩ := C
    have k4 := VOk_k c4
    rw [c1]
    by_cases k0 : (vvS v S (r - 1) (c - 1)).1 = 0
    · rw [if_pos k0] at hh ⊢; exact hh
    · rw [if_neg k0] at hh ⊢
      by_cases k2 : (vvS v S (r - 1) (c - 1)).1 = 2
      · rw [if_pos k2] at hh ⊢
        refine ⟨bx.1, bx.2, ?_⟩
        rw [(c2 k2).1]; exact hh
      · rw [if_neg k2] at hh ⊢
        refine ⟨bx.1, bx.2, ?_⟩
        rw [c3 (by omega)]; exact hh
  · have d : ¬ askP v r c S := d
    rw [ci_0 d] at h
    rw [if_neg (by decide)]
    obtain ⟨f1, f2⟩ := wNd_0 (u := u) FrM_rf
    exact h _ R' N' f1 f2
theorem i_letter {u : Mu} {N v r c i : Int} {S : SS} {P : Int → Mu → Prop} (hB : Bd S) (R : RM u N S) (Nd : NdS u S) (h : ∀ w, RM w N S → NdS w S → FrM wNd0 u w → mI w 0 0 = 0 → P (pLetter v r c i S) w) : F_X12_letter v r c i u P := by
  unfold F_X12_letter F_X12_letter_74 F_X12_letter_75
  rintro _ rfl
  have R' := RM_thr (x := 0) hB R
  have N' := NdS_0 (x := 0) Nd
  unfold pLetter at h
  refine i_asked hB R' (fun e d => ?_) (fun d => ?_)
  · have a : askP v r c S := ⟨e, d⟩
    have bx := slt_x hB a
    rw [ci_1 a] at h
    rw [if_pos (by omega)]
    refine i_sheetAt e.1 (i_needS hB R' N' a (fun w Rw Nw f C => ⟨bx.1, bx.2, ?_⟩))
    obtain ⟨f1, f2⟩ := wNd_0 f
    have hh := h w Rw Nw f1 f2
    obtain ⟨⟨c1, c2, c3⟩, c4⟩ := C
    have k4 := (VOk_b c4).1
    rw [c1]
    by_cases k2 : (vvS v S (r - 1) (c - 1)).1 = 2
    · rw [if_pos k2]
      refine ⟨bx.1, bx.2, i_in ?_⟩
      rw [(c2 k2).1, w32e (x := ((vvS v S (r - 1) (c - 1)).2.2.length : Int) - 1) (by omega) (by omega)]
      by_cases ci : 0 ≤ i ∧ i ≤ ((vvS v S (r - 1) (c - 1)).2.2.length : Int) - 1
      · rw [tb, if_pos ci, if_neg (by decide)]
        rw [if_pos ⟨k2, ci.1, by omega⟩] at hh
        have q := (c2 k2).2 i.toNat (by omega)
        rw [Int.toNat_of_nonneg ci.1] at q
        rw [w32e (x := 24 * _) (by omega) (by omega), w32e (x := 24 * _ + i) (by omega) (by omega)]
        exact ⟨by omega, by omega, by rw [q]; exact hh⟩
      · rw [tb, if_neg ci, if_pos rfl]
        rw [if_neg (fun z => ci ⟨z.2.1, by omega⟩)] at hh
        exact hh
    · rw [if_neg k2]
      rw [if_neg (fun z => k2 z.1)] at hh
      exact hh
  · have d : ¬ askP v r c S := d
    rw [ci_0 d] at h
    rw [if_neg (by decide)]
    obtain ⟨f1, f2⟩ := wNd_0 (u := u) FrM_rf
    exact h _ R' N' f1 f2
