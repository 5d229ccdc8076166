/-! ===== the system: values that are kept ===== -/
def CaV (z : Z) (b : Nat → Nat) (I : Nat → Prop) (F : Int → Sh) (n : Int) : Prop := ∀ v, 0 ≤ v → v < n → ∀ a, zO z (b 18) v = some a → zO z a 3 ≠ none → ∀ r c, 0 ≤ r → r < (F v).1.1 → 0 ≤ c → c < (F v).1.2 → CvJ z I a (F v) r c (GV F v r c)
def DiS (z : Z) (b : Nat → Nat) (n : Int) : Prop := (∀ v v', 0 ≤ v → v < n → 0 ≤ v' → v' < n → zO z (b 18) v = zO z (b 18) v' → v = v') ∧ ∀ v, 0 ≤ v → v < n → zO z (b 18) v ≠ zO z (b 0) 11
def CaW (z : Z) (b : Nat → Nat) (F : Int → Sh) (h : Sh) : Prop := ∀ a, zO z (b 0) 11 = some a → zO z a 3 ≠ none → (zO z a 3 = some (b 8) ∧ (∀ i, FoI h i → ∃ v vb, zO z (b 8) i = some v ∧ zO z v 0 = some vb ∧ VX z v vb (WV F h (i / h.1.2) (i % h.1.2)) ∧ VOk (WV F h (i / h.1.2) (i % h.1.2)))) ∧ ∀ i, inI h i → ¬ FoI h i → WV F h (i / h.1.2) (i % h.1.2) = plC (ctC h (cdI h i))
/-- Sheets that are worked at or kept as steps: no version's; none but the working one has values -/
def StN (z : Z) (b : Nat → Nat) (n : Int) : Prop := ∀ a, LvA z b a → (∀ v, 0 ≤ v → v < n → zO z (b 18) v ≠ some a) ∧ (zO z a 3 = none ∨ zO z (b 0) 11 = some a)
def Cac (z : Z) (b : Nat → Nat) (I : Nat → Prop) (sv sb : Nat → Nat) (S : SS) : Prop := WkC z b I sv sb ∧ RoS z b I sv sb (b 8) ∧ VlS z (b 7) (b 34) (0, 0, []) ∧ CaV z b I S.2.1.2.1 S.2.1.1 ∧ DiS z b S.2.1.1 ∧ CaW z b S.2.1.2.1 S.2.2.2.1.1 ∧ StN z b S.2.1.1
theorem CvJ_J {z : Z} {J J' : Nat → Prop} (hJ : ∀ a, J a → J' a) {sh : Nat} {h : Sh} {r c : Int} {l : Lit} (H : CvJ z J sh h r c l) : CvJ z J' sh h r c l := by
  obtain ⟨h1, h2⟩ := H
  refine ⟨h1, ?_⟩
  match e : h.2.2.2 r c with
  | none => rw [e] at h2; exact h2
  | some (kd, li, q) =>
    rw [e] at h2
    simp only at h2 ⊢
    by_cases c5 : kd = 5
    · rw [if_pos c5] at h2 ⊢
      obtain ⟨va, x, xb, ⟨v1, v2, v3, v4⟩, v5, v6, v7⟩ := h2
      exact ⟨va, x, xb, ⟨v1, hJ _ v2, v3, v4⟩, v5, ⟨hJ _ v6.1, hJ _ v6.2⟩, v7⟩
    · rw [if_neg c5] at h2 ⊢; exact h2
section Ca
variable {z : Z} {b sv sb : Nat → Nat} {I : Nat → Prop} {S : SS}
theorem WOk_n : WOk z b I nW := ⟨fun _ _ _ _ w => w, fun _ _ _ w => w, fun _ _ _ w => w.elim, fun _ _ _ w => w⟩
theorem VaC_8 (K : WkC z b I sv sb) : VaC z b I (b 8) 320 := by
  have n8 : zN z (b 8) = 320 := cN K.1 8 rfl rfl
  exact ⟨cK K.1 8 rfl rfl, by omega, Or.inl rfl, fun w => (K.2.1 _ w).2.2.2 8 (by decide) rfl⟩
/-- what a Worker writes leaves the state -/
theorem wk_ok {va sh : Nat} {N : Int} (K : WkC z b I sv sb) (k7 : zK z sh = 7) (A : VaC z b I va N) (R : RoS z b I sv sb va) : WOk z b I (WWk z b sv sb va sh) := by
  have vk := A.1
  refine ⟨fun k i hk hr => ?_, fun x i hx => ?_, fun x i hx w => ?_, fun x i hx => ?_⟩
  · rintro (w | w | w | ⟨m, hm, w⟩ | ⟨j, v, vb, e1, e2, w⟩)
    · exact wl_b K.1 (R := rcR) (by decide) hk hr w
    · exact n7 K.1 k7 k hk w.1.symm
    · rcases A.2.2.1 with q | q
      · have e8 := K.1.2.1 k 8 hk (by decide) (w.trans q)
        rw [e8] at hr
        obtain ⟨t, ht, h8, -⟩ := hr
        have : ∀ t ∈ rcR, t.1 ≠ 8 := by decide
        exact this t ht h8
      · exact q k hk w.symm
    · have q := K.2.2.2.2.1 m hm k hk
      rcases w with w | w
      · exact q.1 w.1.symm
      · exact q.2 w.symm
    · obtain ⟨q, H⟩ := R.1 j v e1
      have e3 := H.1.2.1
      rw [e2] at e3
      injection e3 with e3
      rcases w with w | w
      · exact (H.2.2.2 k hk).1 w.1.symm
      · exact (H.2.2.2 k hk).2 (e3.symm.trans w.symm)
  · rintro (w | w | w | ⟨m, hm, w⟩ | ⟨j, v, vb, e1, e2, w⟩)
    · exact wl_J K.2.1 hx i w
    · rw [w.1] at hx; exact (K.2.1 _ hx).2.1 k7
    · rw [w] at hx; exact A.2.2.2 hx
    · have q := K.2.2.2.1 x hx m hm
      rcases w with w | w
      · exact q.1 w.1
      · exact q.2 w
    · obtain ⟨q, H⟩ := R.1 j v e1
      have e3 := H.1.2.1
      rw [e2] at e3
      injection e3 with e3
      rcases w with w | w
      · rw [w.1] at hx; exact H.2.1.1 hx
      · rw [w, e3] at hx; exact H.2.1.2 hx
  · rcases w with w | w | w | ⟨m, hm, w⟩ | ⟨j, v, vb, e1, e2, w⟩
    · exact absurd w (wl_k K.1 (Or.inl hx) i)
    · exact w.2
    · rw [w, vk] at hx; cases hx
    · exact absurd w (VW_k (K.2.2.1.1 m hm).2 (by rw [hx]; decide) (by rw [hx]; decide) i)
    · obtain ⟨q, H⟩ := R.1 j v e1
      have e3 := H.1.2.1
      rw [e2] at e3
      injection e3 with e3
      rw [e3] at w
      exact absurd w (VW_k H.1 (by rw [hx]; decide) (by rw [hx]; decide) i)
  · rintro (w | w | w | ⟨m, hm, w⟩ | ⟨j, v, vb, e1, e2, w⟩)
    · exact wl_k K.1 (Or.inr (Or.inl hx)) i w
    · rw [w.1, k7] at hx; cases hx
    · rw [w, vk] at hx; cases hx
    · exact VW_k (K.2.2.1.1 m hm).2 (by rw [hx]; decide) (by rw [hx]; decide) i w
    · obtain ⟨q, H⟩ := R.1 j v e1
      have e3 := H.1.2.1
      rw [e2] at e3
      injection e3 with e3
      rw [e3] at w
      exact VW_k H.1 (by rw [hx]; decide) (by rw [hx]; decide) i w
/-- another Sheet's values stay -/
theorem ww_7 {va sh x : Nat} {N : Int} (K : WkC z b I sv sb) (k7 : zK z sh = 7) (A : VaC z b I va N) (R : RoS z b I sv sb va) (hx : zK z x = 7) (hne : x ≠ sh) (i : Int) : ¬ WWk z b sv sb va sh x i := by
  rintro (w | w | w | ⟨m, hm, w⟩ | ⟨j, v, vb, e1, e2, w⟩)
  · exact wl_k K.1 (Or.inl hx) i w
  · exact hne w.1
  · rw [w, A.1] at hx; cases hx
  · exact VW_k (K.2.2.1.1 m hm).2 (by rw [hx]; decide) (by rw [hx]; decide) i w
  · obtain ⟨q, H⟩ := R.1 j v e1
    have e3 := H.1.2.1
    rw [e2] at e3
    injection e3 with e3
    rw [e3] at w
    exact VW_k H.1 (by rw [hx]; decide) (by rw [hx]; decide) i w
/-- one version is worked out -/
theorem k9_ver {v : Int} {a va : Nat} {c0 s0 : Nat} {P : Z → Prop} (Rc : RC z b I S) (C : Cac z b I sv sb S) (v0 : 0 ≤ v) (v1 : v < S.2.1.1) (ea : zO z (b 18) v = some a) (Zf : WfZ S.2.1.2.1 v (S.2.1.2.1 v)) (hw : ∀ k, inS (S.2.1.2.1 v) k → ∀ kd l ps, ctC (S.2.1.2.1 v) k = some (kd, l, ps) → kd ≠ 5 → VOk l) (lk : ∀ w, lkS (S.2.1.2.1 v) w → ∀ aw, zO z (b 18) w = some aw → zO z aw 3 ≠ none) (ha : zK z va = 0) (hc : 2 * ((S.2.1.2.1 v).1.1 * (S.2.1.2.1 v).1.2) ≤ (c0 : Int)) (hs0 : 28 * ((S.2.1.2.1 v).1.1 * (S.2.1.2.1 v).1.2) ≤ (s0 : Int)) (p : ∀ y I', (∀ x, I x → I' x) → RC y b I' S → Cac y b I' sv sb S → (∀ i, zO y (b 18) i = zO z (b 18) i) → zO y (b 0) 11 = zO z (b 0) 11 → zO y a 3 ≠ none → (∀ x, zK z x = 7 → x ≠ a → zO y x 3 = zO z x 3) → (∀ x, zK z x = 7 → zK y x = 7) → P y) : F_X9_work (b 4) (some a) (some va) (nZ z va 22 ((S.2.1.2.1 v).1.1 * (S.2.1.2.1 v).1.2)) c0 s0 P := by
  obtain ⟨K, R8, V7, Cv, Di, Cw, St⟩ := C
  obtain ⟨z1, ez⟩ : ∃ z1, z1 = nZ z va 22 ((S.2.1.2.1 v).1.1 * (S.2.1.2.1 v).1.2) := ⟨_, rfl⟩
  rw [← ez]
  have f0 : FrZ nW z z1 := by rw [ez]; exact FrZ_nZ FrZ_rf ha
  have K1 : WkC z1 b I sv sb := WkC_W K (fun _ _ w => w) (fun _ _ _ w => w) (fun _ _ w => w) f0
  have Rc1 : RC z1 b I S := RC_W WOk_n f0 Rc
  have A1 : VaC z1 b I va ((S.2.1.2.1 v).1.1 * (S.2.1.2.1 v).1.2) := by
    refine ⟨by rw [ez, zK_nZ, if_pos rfl], by rw [ez, zN_nZ, if_pos rfl]; exact Int.le_refl _, Or.inr (fun k hk e => kbz K.1 hk (by rw [← e]; exact ha)), fun w => (K.2.1 va w).1 ha⟩
  have none1 : ∀ i, zO z1 va i = none := fun i => by rw [ez, zO_nZ, if_pos rfl]
  have R1 : RoS z1 b I sv sb va := ⟨fun i x e => (by rw [none1] at e; cases e), fun i j x e => (by rw [none1] at e; cases e), fun i j x x' xb e => (by rw [none1] at e; cases e)⟩
  have e18 : ∀ i, zO z1 (b 18) i = zO z (b 18) i := fun i => (f0.2 (b 18) i (kbz K.1 (by decide)) (fun w => w)).2.2
  have shv : ∀ w, 0 ≤ w → w < S.2.1.1 → ∃ aw, zO z (b 18) w = some aw ∧ ShC z I aw (S.2.1.2.1 w) := fun w w0 w1 => (Rc.2.2.2.1.2 w w0 w1).1.1
  have n40 := Rc.2.2.2.1.1.2
  have hs : ShC z I a (S.2.1.2.1 v) := by
    obtain ⟨a', q1, q2⟩ := shv v v0 v1
    rw [ea] at q1
    injection q1 with q1
    rw [q1]; exact q2
  have k7 := ShC_7 hs
  have up1 : ∀ {s : Nat} {g : Sh}, ShC z I s g → ShC z1 I s g := fun q => ShC_nw f0 q
  have hs1 := up1 hs
  have k71 := ShC_7 hs1
  have hb := ShC_b hs
  have cb := cnt_b hb
  have En1 : EnV z1 b I S.2.1.2.1 (GV S.2.1.2.1) (S.2.1.2.1 v) a := fun k hk l ps e j hj cop w0 => by
    have wl := ((Zf.2.2 k hk l ps e).2.2 j hj).1
    obtain ⟨aw, q1, q2⟩ := shv _ w0 (by omega)
    refine ⟨by omega, aw, by rw [e18]; exact q1, fun eq => ?_, up1 q2, fun r c r0 r1 c0 c1 => ?_⟩
    · rw [eq, ← ea] at q1
      have := Di.1 _ v w0 (by omega) v0 v1 q1
      omega
    · exact CvJ_W (fun _ _ _ w => w) f0 q2 (fun w => w) (Cv _ w0 (by omega) aw q1 (lk _ ⟨k, hk, l, ps, e, j, hj, rfl, w0⟩ aw q1) r c r0 r1 c0 c1)
  refine k9_work K1 hs1 A1 R1 En1 Zf hw hc hs0 (fun y f g Ky hsy Ry v3 Sy Vy Nw => ?_)
  have wo := wk_ok K1 k71 A1 R1
  have Rcy := RC_W wo g Rc1
  have Ay := VaC_f A1 g
  obtain ⟨RI, M, ky⟩ := RoS_R (h := S.2.1.2.1 v) Ay Ry rfl v3 (fun i fi => by obtain ⟨x, xb, q, -⟩ := Vy i fi; exact ⟨x, q⟩)
  have va8 : va ≠ b 8 := fun e => kbz K.1 (k := 8) (by decide) (by rw [← e]; exact ha)
  have Ky' := WkC_x (D := fun _ => True) Ky RI M
  have Rcy' := RC_I (J := Jx b I va (S.2.1.2.1 v) (rvH y va) (rbH y va) (fun _ => True)) (fun x hx => Or.inl hx) Ky'.2.1 Rcy
  have fr : ∀ i, FoI (S.2.1.2.1 v) i → zK z1 (rvH y va i) = 0 ∧ zK z1 (rbH y va i) = 0 := fun i fi => by
    obtain ⟨q1, q2⟩ := ky i fi
    rcases Nw i _ _ q1 q2 with q | q
    · rw [none1] at q; cases q.1
    · exact q
  have y18 : ∀ i, zO y (b 18) i = zO z (b 18) i := fun i => ((bW K1.1 wo g (k := 18) (by decide) (i := i) (wHas_a (by decide))).2.2).trans (e18 i)
  have y11 : zO y (b 0) 11 = zO z (b 0) 11 := ((bW K1.1 wo g (k := 0) (by decide) (i := 11) (wHas_i (by decide))).2.2).trans (f0.2 (b 0) 11 (kbz K.1 (by decide)) (fun w => w)).2.2
  have y3 : ∀ x, zK z x = 7 → x ≠ a → zO y x 3 = zO z x 3 := fun x hx hne => by
    have kx1 : zK z1 x = 7 := (f0.1 x (by rw [hx]; decide)).1.trans hx
    exact ((g.2 x 3 (by rw [kx1]; decide) (ww_7 K1 k71 A1 R1 kx1 hne 3)).2.2).trans (f0.2 x 3 (by rw [hx]; decide) (fun w => w)).2.2
  have y7 : ∀ x, zK z x = 7 → zK y x = 7 := fun x hx => by
    have kx1 : zK z1 x = 7 := (f0.1 x (by rw [hx]; decide)).1.trans hx
    exact (g.1 x (by rw [kx1]; decide)).1.trans kx1
  -- the working room
  have A81 := VaC_8 K1
  have R81 : RoS z1 b I sv sb (b 8) := RoS_e (VaC_8 K) R8 f0 (fun i => (f0.2 (b 8) i (kbz K.1 (by decide)) (fun w => w)).2.2) (fun _ _ _ w => w)
  have nW8 : ∀ {x xb : Nat} {i : Int}, OwV z1 b I sv sb x xb → ¬ WWk z1 b sv sb va a x i ∧ ¬ WWk z1 b sv sb va a xb i := fun {x xb i} H => by
    refine ⟨?_, ?_⟩
    · rintro (w | w | w | ⟨m, hm, w⟩ | ⟨j, v', vb, e1, e2, w⟩)
      · obtain ⟨t, -, w2, w3, -⟩ := w; exact (H.2.2.2 t.1 w2).1 w3
      · have := H.1.1; rw [w.1, k71] at this; cases this
      · have := H.1.1; rw [w, A1.1] at this; cases this
      · rcases w with w | w
        · exact (H.2.2.1 m hm).1 w.1
        · have := (K1.2.2.1.1 m hm).2.2.2.1; rw [← w, H.1.1] at this; cases this
      · rw [none1] at e1; cases e1
    · rintro (w | w | w | ⟨m, hm, w⟩ | ⟨j, v', vb, e1, e2, w⟩)
      · obtain ⟨t, -, w2, w3, -⟩ := w; exact (H.2.2.2 t.1 w2).2 w3
      · have := H.1.2.2.1; rw [w.1, k71] at this; cases this
      · have := H.1.2.2.1; rw [w, A1.1] at this; cases this
      · rcases w with w | w
        · have := (K1.2.2.1.1 m hm).2.1; rw [← w.1, H.1.2.2.1] at this; cases this
        · exact (H.2.2.1 m hm).2 w
      · rw [none1] at e1; cases e1
  have y8 : ∀ i, zO y (b 8) i = zO z1 (b 8) i := fun i => by
    refine (g.2 (b 8) i (kbz K1.1 (by decide)) ?_).2.2
    rintro (w | w | w | ⟨m, hm, w⟩ | ⟨j, v', vb, e1, e2, w⟩)
    · exact wl_b K1.1 (R := [(8, none)]) (by decide) (by decide) (wHas_a (by decide)) w
    · exact n7 K1.1 k71 8 (by decide) w.1.symm
    · exact va8 w.symm
    · have q := K1.2.2.2.2.1 m hm 8 (by decide)
      rcases w with w | w
      · exact q.1 w.1.symm
      · exact q.2 w.symm
    · rw [none1] at e1; cases e1
  have R8y : RoS y b I sv sb (b 8) := RoS_e A81 R81 g y8 (fun i x e => by obtain ⟨xb, H⟩ := R81.1 i x e; exact (nW8 H).1)
  have R8y' : RoS y b (Jx b I va (S.2.1.2.1 v) (rvH y va) (rbH y va) (fun _ => True)) sv sb (b 8) := by
    refine ⟨fun i x e => ?_, R8y.2⟩
    obtain ⟨xb, H⟩ := R8y.1 i x e
    rw [y8] at e
    obtain ⟨xb', H1⟩ := R81.1 i x e
    have same : xb = xb' := by
      have t1 := H.1.2.1
      rw [(g.2 x 0 (by rw [H1.1.1]; decide) (nW8 H1).1).2.2, H1.1.2.1] at t1
      injection t1 with t1
      exact t1.symm
    refine ⟨xb, H.1, ⟨?_, ?_⟩, H.2.2⟩
    · rintro (w | w | ⟨j, -, fj, w | w⟩)
      · exact H.2.1.1 w
      · have := H1.1.1; rw [w.1, A1.1] at this; cases this
      · have := H1.1.1; rw [w, (fr j fj).1] at this; cases this
      · have := H1.1.1; rw [w, (fr j fj).2] at this; cases this
    · rintro (w | w | ⟨j, -, fj, w | w⟩)
      · exact H.2.1.2 w
      · have := H1.1.2.2.1; rw [← same, w.1, A1.1] at this; cases this
      · have := H1.1.2.2.1; rw [← same, w, (fr j fj).1] at this; cases this
      · have := H1.1.2.2.1; rw [← same, w, (fr j fj).2] at this; cases this
  refine p y _ (fun x hx => Or.inl hx) Rcy' ⟨Ky', R8y', ?_, ?_, ⟨fun w w' w0 w1 w0' w1' e => Di.1 w w' w0 w1 w0' w1' (by rw [y18, y18] at e; exact e), fun w w0 w1 e => Di.2 w w0 w1 (by rw [y18, y11] at e; exact e)⟩, ?_, fun a' la => by
    have la1 : LvA z b a' := LvA_W K.1 (WOk_n (I := I)) f0 (LvA_W K1.1 wo g la)
    obtain ⟨s1, s2⟩ := St a' la1
    have na : a' ≠ a := fun e => s1 v v0 v1 (by rw [ea, e])
    refine ⟨fun w w0 w1 => by rw [y18]; exact s1 w w0 w1, ?_⟩
    rw [y3 a' (LvA_7 Rc la1) na, y11]; exact s2⟩ y18 y11 (by rw [v3]; simp) y3 y7
  · have V71 : VlS z1 (b 7) (b 34) (0, 0, []) := VlS_fr V7 f0 (fun w => w) (fun w => w) (fun w => w) (fun _ w => w)
    have n77 : ∀ {k : Nat} {i : Int}, k < 35 → k ≠ 8 → ¬ WB b wWa (b k) i → ¬ WWk z1 b sv sb va a (b k) i := fun {k i} hk h8 hn => by
      rintro (w | w | w | ⟨m, hm, w⟩ | ⟨j, v', vb, e1, e2, w⟩)
      · exact hn w
      · exact n7 K1.1 k71 k hk w.1.symm
      · exact va_n K1.1 A1 hk h8 w
      · have q := K1.2.2.2.2.1 m hm k hk
        rcases w with w | w
        · exact q.1 w.1.symm
        · exact q.2 w.symm
      · rw [none1] at e1; cases e1
    have w7 : ∀ i, ¬ WB b wWa (b 7) i := fun i => wl_b K1.1 (R := [(7, none)]) (by decide) (by decide) (wHas_a (by decide))
    have w34 : ∀ i, ¬ WB b wWa (b 34) i := fun i => wl_b K1.1 (R := [(34, none)]) (by decide) (by decide) (wHas_a (by decide))
    exact VlS_fr V71 g (n77 (by decide) (by decide) (w7 _)) (n77 (by decide) (by decide) (w7 _)) (n77 (by decide) (by decide) (w7 _)) (fun i => n77 (by decide) (by decide) (w34 i))
  · intro w w0 w1 aw eaw hne r c r0 r1 c0 c1
    rw [y18] at eaw
    by_cases cw : w = v
    · subst cw
      rw [ea] at eaw
      injection eaw with eaw
      rw [← eaw]
      obtain ⟨hi, d1, d2⟩ := xy_in hb r0 r1 c0 c1
      have cdi := cd_in hb hi
      have gu := GV_u w0 Zf Sy _ cdi.1
      rw [cdi.2.1, cdi.2.2, d1, d2] at gu
      have ec : ctC (S.2.1.2.1 w) (cdI (S.2.1.2.1 w) (r * (S.2.1.2.1 w).1.2 + c)) = (S.2.1.2.1 w).2.2.2 r c := by unfold ctC; rw [cdi.2.1, cdi.2.2, d1, d2]
      have so := Sy _ cdi.1
      rw [cdi.2.1, cdi.2.2, d1, d2] at so
      rw [← gu]
      unfold CvJ
      match e : (S.2.1.2.1 w).2.2.2 r c with
      | none =>
        have nf : ¬ isF (S.2.1.2.1 w) (cdI (S.2.1.2.1 w) (r * (S.2.1.2.1 w).1.2 + c)) := fun ⟨_, l, ps, q⟩ => by rw [ec, e] at q; cases q
        rw [vlC_p cdi.1 nf, ec, e] at so
        rw [so]
        exact ⟨Or.inl ⟨rfl, rfl, rfl⟩, rfl⟩
      | some (kd, li, ps) =>
        simp only
        by_cases c5 : kd = 5
        · rw [if_pos c5]
          have fi : FoI (S.2.1.2.1 w) (r * (S.2.1.2.1 w).1.2 + c) := ⟨hi, li, ps, by rw [ec, e, c5]⟩
          obtain ⟨x, xb, q1, q2, q3⟩ := Vy _ fi
          rw [d1, d2] at q2 q3
          obtain ⟨t1, t2⟩ := ky _ fi
          have ex : rvH y va (r * (S.2.1.2.1 w).1.2 + c) = x := by rw [q1] at t1; injection t1 with t1; exact t1.symm
          have exb : rbH y va (r * (S.2.1.2.1 w).1.2 + c) = xb := by rw [ex, q2.1.1.2.2.1] at t2; injection t2 with t2; exact t2.symm
          have hi2 := hi.2
          have Ayn := Ay.2.1
          exact ⟨q3, va, x, xb, ⟨v3, Or.inr (Or.inl ⟨rfl, va8⟩), Ay.1, by omega⟩, q1, ⟨Or.inr (Or.inr ⟨_, trivial, fi, Or.inl ex.symm⟩), Or.inr (Or.inr ⟨_, trivial, fi, Or.inr exb.symm⟩)⟩, q2⟩
        · rw [if_neg c5]
          have nf : ¬ isF (S.2.1.2.1 w) (cdI (S.2.1.2.1 w) (r * (S.2.1.2.1 w).1.2 + c)) := fun ⟨_, l, ps', q⟩ => by
            rw [ec, e] at q
            injection q with q
            injection q with q
            exact c5 q
          rw [vlC_p cdi.1 nf, ec, e] at so
          rw [so]
          exact ⟨hw _ cdi.1 kd li ps (by rw [ec, e]) c5, rfl⟩
    · obtain ⟨aw', q1, q2⟩ := shv w w0 w1
      have eq : aw' = aw := by rw [eaw] at q1; injection q1 with q1; exact q1.symm
      rw [eq] at q2
      have na : aw ≠ a := fun e' => cw (Di.1 w v w0 w1 v0 v1 (by rw [eaw, ea, e']))
      rw [y3 aw (ShC_7 q2) na] at hne
      have c1' := CvJ_W (fun _ _ _ w => w) f0 q2 (fun w => w) (Cv w w0 w1 aw eaw hne r c r0 r1 c0 c1)
      exact CvJ_J (fun x hx => Or.inl hx) (CvJ_W wo.2.1 g (up1 q2) (ww_7 K1 k71 A1 R1 (ShC_7 (up1 q2)) na 3) c1')
  · intro a0 e0 hne
    rw [y11] at e0
    have na : a0 ≠ a := fun e' => Di.2 v v0 v1 (by rw [ea, e0, e'])
    obtain ⟨a0', q1, q2⟩ := Rc.2.2.2.2.2.1.1
    have eq : a0' = a0 := by rw [e0] at q1; injection q1 with q1; exact q1.symm
    rw [eq] at q2
    rw [y3 a0 (ShC_7 q2) na] at hne ⊢
    obtain ⟨⟨w1, w2⟩, w3⟩ := Cw a0 e0 hne
    refine ⟨⟨w1, fun i fi => ?_⟩, w3⟩
    obtain ⟨x, xb, t1, t2, t3, t4⟩ := w2 i fi
    have t1' : zO z1 (b 8) i = some x := ((f0.2 (b 8) i (kbz K.1 (by decide)) (fun w => w)).2.2).trans t1
    obtain ⟨xb', H⟩ := R81.1 i x t1'
    have X1 : VX z1 x xb (WV S.2.1.2.1 S.2.2.2.1.1 (i / S.2.2.2.1.1.1.2) (i % S.2.2.2.1.1.1.2)) := ⟨VlS_fr t3.1 f0 (fun w => w) (fun w => w) (fun w => w) (fun _ w => w), by rw [(f0.1 xb (by rw [t3.1.1.2.2.2]; decide)).2]; exact t3.2⟩
    have exb : xb' = xb := by have := H.1.2.1; rw [X1.1.1.2.2.1] at this; injection this with this; exact this.symm
    rw [exb] at H
    refine ⟨x, xb, by rw [y8]; exact t1', ((g.2 x 0 (by rw [H.1.1]; decide) (nW8 H).1).2.2).trans X1.1.1.2.2.1, ⟨VlS_fr X1.1 g (nW8 H).1 (nW8 H).1 (nW8 H).1 (fun i => (nW8 H).2), by rw [(g.1 xb (by rw [H.1.2.2.1]; decide)).2]; exact X1.2⟩, t4⟩
end Ca
