/-! ===== the system: kept values where only new cells are written ===== -/
theorem Cac_n {z y : Z} {b sv sb : Nat → Nat} {I : Nat → Prop} {S : SS} (f : FrZ nW z y) (R : RC z b I S) (C : Cac z b I sv sb S) : Cac y b I sv sb S := by
  obtain ⟨K, R8, V7, Cv, Di, Cw, St⟩ := C
  have e18 : ∀ i, zO y (b 18) i = zO z (b 18) i := fun i => (f.2 (b 18) i (kbz K.1 (by decide)) (fun w => w)).2.2
  have e11 : zO y (b 0) 11 = zO z (b 0) 11 := (f.2 (b 0) 11 (kbz K.1 (by decide)) (fun w => w)).2.2
  have e8 : ∀ i, zO y (b 8) i = zO z (b 8) i := fun i => (f.2 (b 8) i (kbz K.1 (by decide)) (fun w => w)).2.2
  have e3 : ∀ x, zK z x = 7 → zO y x 3 = zO z x 3 := fun x hx => (f.2 x 3 (by rw [hx]; decide) (fun w => w)).2.2
  refine ⟨WkC_W K (fun _ _ w => w) (fun _ _ _ w => w) (fun _ _ w => w) f, RoS_e (VaC_8 K) R8 f e8 (fun _ _ _ w => w), VlS_fr V7 f (fun w => w) (fun w => w) (fun w => w) (fun _ w => w), fun v v0 v1 a ea hne r c r0 r1 c0 c1 => ?_, ⟨fun v v' v0 v1 v0' v1' e => Di.1 v v' v0 v1 v0' v1' (by rw [e18, e18] at e; exact e), fun v v0 v1 e => Di.2 v v0 v1 (by rw [e18, e11] at e; exact e)⟩, fun a ea hne => ?_, fun a' la => by
    have la1 : LvA z b a' := LvA_W K.1 (WOk_n (I := I)) f la
    obtain ⟨s1, s2⟩ := St a' la1
    refine ⟨fun w w0 w1 => by rw [e18]; exact s1 w w0 w1, ?_⟩
    rw [e3 a' (LvA_7 R la1), e11]; exact s2⟩
  · rw [e18] at ea
    obtain ⟨a', q1, q2⟩ := (R.2.2.2.1.2 v v0 v1).1.1
    have eq : a' = a := by rw [ea] at q1; injection q1 with q1; exact q1.symm
    rw [eq] at q2
    rw [e3 a (ShC_7 q2)] at hne
    exact CvJ_W (fun _ _ _ w => w) f q2 (fun w => w) (Cv v v0 v1 a ea hne r c r0 r1 c0 c1)
  · rw [e11] at ea
    obtain ⟨a', q1, q2⟩ := R.2.2.2.2.2.1.1
    have eq : a' = a := by rw [ea] at q1; injection q1 with q1; exact q1.symm
    rw [eq] at q2
    rw [e3 a (ShC_7 q2)] at hne ⊢
    obtain ⟨⟨w1, w2⟩, w3⟩ := Cw a ea hne
    refine ⟨⟨w1, fun i fi => ?_⟩, w3⟩
    obtain ⟨x, xb, t1, t2, t3, t4⟩ := w2 i fi
    exact ⟨x, xb, by rw [e8]; exact t1, (f.2 x 0 (by rw [t3.1.1.1]; decide) (fun w => w)).2.2.trans t2, ⟨VlS_fr t3.1 f (fun w => w) (fun w => w) (fun w => w) (fun _ w => w), by rw [(f.1 xb (by rw [t3.1.1.2.2.2]; decide)).2]; exact t3.2⟩, t4⟩
theorem Vld_n {z y : Z} {b : Nat → Nat} {I : Nat → Prop} {S : SS} {v : Int} (hv : isShP v S) (f : FrZ nW z y) (R : RC z b I S) (h : Vld z b v) : Vld y b v := by
  have e18 : ∀ i, zO y (b 18) i = zO z (b 18) i := fun i => (f.2 (b 18) i (kbz R.1 (by decide)) (fun w => w)).2.2
  have e11 : zO y (b 0) 11 = zO z (b 0) 11 := (f.2 (b 0) 11 (kbz R.1 (by decide)) (fun w => w)).2.2
  have e3 : ∀ x, zK z x = 7 → zO y x 3 = zO z x 3 := fun x hx => (f.2 x 3 (by rw [hx]; decide) (fun w => w)).2.2
  refine ⟨fun e a ea => ?_, fun e a ea => ?_⟩
  · rw [e11] at ea
    obtain ⟨a', q1, q2⟩ := R.2.2.2.2.2.1.1
    have eq : a' = a := by rw [ea] at q1; injection q1 with q1; exact q1.symm
    rw [eq] at q2
    rw [e3 a (ShC_7 q2)]; exact h.1 e a ea
  · rw [e18] at ea
    have h1 := hv.1
    have h2 := hv.2
    obtain ⟨a', q1, q2⟩ := (R.2.2.2.1.2 v (by omega) h2).1.1
    have eq : a' = a := by rw [ea] at q1; injection q1 with q1; exact q1.symm
    rw [eq] at q2
    rw [e3 a (ShC_7 q2)]; exact h.2 e a ea
