/-! ===== the constructor of the system: its cells ===== -/
def OX (z : Z) (L : OL) (E : WR) (R : List (Nat × Int × Nat)) (Q : List (Nat × Int × Int)) (sv sb : Nat → Nat) (a22 : Nat) : Prop := OW z L E R Q ∧ StX z L sv sb 60 a22 ∧ (22, a22) ∈ L
section Ox
variable {z y : Z} {L : OL} {E : WR} {R : List (Nat × Int × Nat)} {Q : List (Nat × Int × Int)} {sv sb : Nat → Nat} {a22 : Nat}
theorem OX_k (h : OX z L E R Q sv sb a22) : zK z a22 ≠ 0 := (h.1.1 _ h.2.2).2.2
theorem OX_fr {t0 k0 : Nat} {j : Int} (h : OX z L E R Q sv sb a22) (h0 : (k0, t0) ∈ L) (hk : k0 ≠ 22) (f : FrZ (fun x i => x = t0 ∧ i = j) z y) : StX y L sv sb 60 a22 := StX_fr h.2.1 f (OX_k h) (fun i q => hk (by have := (h.1.2.1 _ h.2.2 _ h0).2 q.1; injection this with e1 _; exact e1.symm)) (fun m hm q => ((h.2.1.1 m hm).2 _ h0).1 q.1.symm)
theorem OX_n {W : Nat → Int → Prop} (h : OX z L E R Q sv sb a22) (f : FrZ W z y) (hW : ∀ a i, zK z a ≠ 0 → ¬ W a i) : OX y L E R Q sv sb a22 := ⟨OW_fr h.1 f (fun t ht i => hW _ i (h.1.1 t ht).2.2), StX_fr h.2.1 f (OX_k h) (fun i => hW _ i (OX_k h)) (fun m hm => hW _ 0 (by rw [(h.2.1.1 m hm).1.2.1]; decide)), h.2.2⟩
theorem OX_new {a k kd : Nat} {n : Int} (h : OX z L E R Q sv sb a22) (ha : zK z a = 0) (hk : (L.map (·.1)).contains k = false) (hc : ckz.getD k (0, 0) = (kd, n)) (k0 : kd ≠ 0) : OX (nZ z a kd n) ((k, a) :: L) E R Q sv sb a22 := ⟨OW_new h.1 ha hk hc k0, StX_fr (StX_c h.2.1 ha) (FrZ_nZ FrZ_rf ha : FrZ nW z _) (OX_k h) (fun _ w => w) (fun _ _ w => w), List.mem_cons_of_mem _ h.2.2⟩
theorem OX_ref {a a2 k k2 : Nat} {j : Int} (h : OX z L E R Q sv sb a22) (ha : (k, a) ∈ L) (ha2 : (k2, a2) ∈ L) (he : eHas E k j = false) (hk : k ≠ 22) : OX (wO z a j (some a2)) L ((k, some j) :: E) ((k, j, k2) :: R) Q sv sb a22 := ⟨OW_ref h.1 ha ha2 he, OX_fr h ha hk (FrZ_wO FrZ_rf (Or.inl ⟨rfl, rfl⟩)), h.2.2⟩
theorem OX_int {a k : Nat} {j x : Int} (h : OX z L E R Q sv sb a22) (ha : (k, a) ∈ L) (he : eHas E k j = false) (hk : k ≠ 22) : OX (wI z a j x) L ((k, some j) :: E) R ((k, j, x) :: Q) sv sb a22 := ⟨OW_int h.1 ha he, OX_fr h ha hk (FrZ_wI FrZ_rf (Or.inl ⟨rfl, rfl⟩)), h.2.2⟩
theorem OX_any {a k : Nat} {j : Int} (h : OX z L E R Q sv sb a22) (ha : (k, a) ∈ L) (he : eHas E k j = false) (hk : k ≠ 22) (f : FrZ (fun x i => x = a ∧ i = j) z y) : OX y L ((k, some j) :: E) R Q sv sb a22 := ⟨OW_w h.1 ha he f, OX_fr h ha hk f, h.2.2⟩
theorem ox_arr {t0 k0 k kd kt : Nat} {j n : Int} {c s : Nat} {P : Z → Prop} (h : OX z L E R Q sv sb a22) (h0 : (k0, t0) ∈ L) (hk : (L.map (·.1)).contains k = false) (hc : ckz.getD k (0, 0) = (kd, n)) (hj : (ckz.getD k0 (0, 0)).1 = kt) (he : eHas E k0 j = false) (kd0 : kd ≠ 0) (hk0 : k0 ≠ 22) (n0 : 0 ≤ n ∧ n < 33554432) (c1 : 1 ≤ c) (s1 : n.toNat ≤ s) (p : ∀ y a, OX y ((k, a) :: L) ((k0, some j) :: E) ((k0, j, k) :: R) Q sv sb a22 → P y) : (0 ≤ n ∧ n < (33554432 : Int) ∧ 1 ≤ c ∧ Int.toNat n ≤ s ∧ ∀ a, zK z a = 0 → (∀ z1, z1 = nZ z a kd n → (zK z1 t0 = kt ∧ (∀ z2, z2 = wO z1 t0 j (some a) → P z2)))) := by
  refine ⟨n0.1, n0.2, c1, s1, fun a ha => ?_⟩
  rintro _ rfl
  have h1 := OX_new h ha hk hc kd0
  refine ⟨by rw [(h1.1.1 (k0, t0) (List.mem_cons_of_mem _ h0)).1]; exact hj, ?_⟩
  rintro _ rfl
  exact p _ a (OX_ref h1 (List.mem_cons_of_mem _ h0) List.mem_cons_self he hk0)
theorem OX_kd {k a kt : Nat} (h : OX z L E R Q sv sb a22) (ha : (k, a) ∈ L) (e : (ckz.getD k (0, 0)).1 = kt) : zK z a = kt := by rw [(h.1.1 (k, a) ha).1]; exact e
theorem OX_o {k k2 a a2 : Nat} {j : Int} (h : OX z L E R Q sv sb a22) (hr : (k, j, k2) ∈ R) (ha : (k, a) ∈ L) (ha2 : (k2, a2) ∈ L) : zO z a j = some a2 := (h.1.2.2.2.1 _ hr).2.2.2 a a2 ha ha2
end Ox
def zE : Z := (fun _ => 0, fun _ => 0, fun _ _ => 0, fun _ _ => 0, fun _ _ => none)
def lsK : List Nat := [10, 9, 8, 34, 7, 33, 32, 6, 31, 30, 5, 29, 28, 27, 26, 25, 24, 23, 22, 4, 21, 20, 19, 18, 3, 17, 16, 15, 14, 2, 13, 12, 11, 1, 0]
def exB (t : Nat × Option Int) : Bool := crw.contains t || t.1 == 22 || (t.1 == 0 && (t.2 == some 13 || t.2 == some 16 || t.2 == some 17))
/-- the rest of the constructor, from pc 133 on, is asked for all that stands before it -/
def Rst (t0 : Nat) (P : Z → Prop) : Prop := ∀ (y : Z) (L : OL) (E : WR) (R : List (Nat × Int × Nat)) (sv sb : Nat → Nat) (a22 c s : Nat), OX y L E R [(0, 17, 6), (0, 16, 8), (0, 13, -1)] sv sb a22 → L.map (·.1) = lsK → (∀ t ∈ crz, t ∈ R) → (E.all exB = true) → (0, t0) ∈ L → 20 ≤ c → 200 ≤ s → F_X11_init_133 t0 y c s P
set_option maxRecDepth 50000 in
theorem w_init {t0 : Nat} {P : Z → Prop} (p : Rst t0 P) : F_X11_init t0 (nZ zE t0 12 0) 300 20000 P := by
  have w0 : OW (nZ zE t0 12 0) [(0, t0)] [] [] [] := OW_new (L := []) ⟨fun t ht => absurd ht List.not_mem_nil, fun t ht => absurd ht List.not_mem_nil, fun t ht => absurd ht List.not_mem_nil, fun t ht => absurd ht List.not_mem_nil, fun t ht => absurd ht List.not_mem_nil⟩ rfl rfl rfl (by decide)
  generalize nZ zE t0 12 0 = z at w0
  unfold F_X11_init
  refine ⟨by decide, by decide, fun a1 n1 => ?_⟩
  rintro _ rfl
  have w1 := OW_new (k := 1) w0 n1 rfl rfl (by decide)
  refine ⟨3, 800, by decide, by decide, ?_⟩
  unfold F_X5_init
  refine ow_arr w1 (k0 := 1) (k := 11) (by simp) rfl rfl rfl rfl (by decide) (by decide) (by decide) (by decide) (fun _ a11 _ w _ => ?_)
  refine ow_arr w (k0 := 1) (k := 12) (by simp) rfl rfl rfl rfl (by decide) (by decide) (by decide) (by decide) (fun _ a12 _ w _ => ?_)
  refine ow_arr w (k0 := 1) (k := 13) (by simp) rfl rfl rfl rfl (by decide) (by decide) (by decide) (by decide) (fun _ a13 _ w _ => ?_)
  refine ⟨(w.1 (0, t0) (by simp)).1, ?_⟩
  rintro _ rfl
  replace w := OW_ref (k := 0) (k2 := 1) (j := 0) (a := t0) (a2 := a1) w (by simp) (by simp) rfl
  refine ⟨by decide, by decide, fun a2 n2 => ?_⟩
  rintro _ rfl
  replace w := OW_new (k := 2) w n2 rfl rfl (by decide)
  refine ⟨4, 2488, by decide, by decide, ?_⟩
  unfold F_X10_init
  refine ow_arr w (k0 := 2) (k := 14) (by simp) rfl rfl rfl rfl (by decide) (by decide) (by decide) (by decide) (fun _ a14 _ w _ => ?_)
  refine ow_arr w (k0 := 2) (k := 15) (by simp) rfl rfl rfl rfl (by decide) (by decide) (by decide) (by decide) (fun _ a15 _ w _ => ?_)
  refine ⟨by decide, by decide, fun a16 n16 => ?_⟩
  rintro _ rfl
  replace w := OW_new (k := 16) w n16 rfl rfl (by decide)
  refine ⟨1, 24, by decide, by decide, ?_⟩
  unfold F_X8_init
  refine ow_arr w (k0 := 16) (k := 17) (by simp) rfl rfl rfl rfl (by decide) (by decide) (by decide) (by decide) (fun _ a17 _ w _ => ?_)
  refine ⟨(w.1 (2, a2) (by simp)).1, ?_⟩
  rintro _ rfl
  replace w := OW_ref (k := 2) (k2 := 16) (j := 2) (a := a2) (a2 := a16) w (by simp) (by simp) rfl
  refine ⟨(w.1 (0, t0) (by simp)).1, ?_⟩
  rintro _ rfl
  replace w := OW_ref (k := 0) (k2 := 2) (j := 1) (a := t0) (a2 := a2) w (by simp) (by simp) rfl
  unfold F_X11_init_26
  refine ⟨by decide, by decide, fun a3 n3 => ?_⟩
  rintro _ rfl
  replace w := OW_new (k := 3) w n3 rfl rfl (by decide)
  refine ⟨4, 160, by decide, by decide, ?_⟩
  unfold F_X2_init
  refine ow_arr w (k0 := 3) (k := 18) (by simp) rfl rfl rfl rfl (by decide) (by decide) (by decide) (by decide) (fun _ a18 _ w _ => ?_)
  refine ow_arr w (k0 := 3) (k := 19) (by simp) rfl rfl rfl rfl (by decide) (by decide) (by decide) (by decide) (fun _ a19 _ w _ => ?_)
  refine ow_arr w (k0 := 3) (k := 20) (by simp) rfl rfl rfl rfl (by decide) (by decide) (by decide) (by decide) (fun _ a20 _ w _ => ?_)
  refine ow_arr w (k0 := 3) (k := 21) (by simp) rfl rfl rfl rfl (by decide) (by decide) (by decide) (by decide) (fun _ a21 _ w _ => ?_)
  refine ⟨(w.1 (0, t0) (by simp)).1, ?_⟩
  rintro _ rfl
  replace w := OW_ref (k := 0) (k2 := 3) (j := 2) (a := t0) (a2 := a3) w (by simp) (by simp) rfl
  refine ⟨by decide, by decide, fun a4 n4 => ?_⟩
  rintro _ rfl
  replace w := OW_new (k := 4) w n4 rfl rfl (by decide)
  refine ⟨(w.1 (0, t0) (by simp)).1, a3, (w.2.2.2.1 (0, 2, 3) (by simp)).2.2.2 t0 a3 (by simp) (by simp), (w.1 (3, a3) (by simp)).1, 130, 5700, by decide, by decide, ?_⟩
  rw [(w.2.2.2.1 (3, 0, 18) (by simp)).2.2.2 a3 a18 (by simp) (by simp)]
  unfold F_X9_init
  refine ow_arr w (k0 := 4) (k := 22) (by simp) rfl rfl rfl rfl (by decide) (by decide) (by decide) (by decide) (fun _ a22 _ w _ => ?_)
  refine ⟨by decide, by decide, fun a23 n23 => ?_⟩
  rintro _ rfl
  replace w := OW_new (k := 23) w n23 rfl rfl (by decide)
  refine ⟨1, 0, by decide, by decide, ?_⟩
  unfold F_X8_init
  refine ow_arr w (k0 := 23) (k := 24) (by simp) rfl rfl rfl rfl (by decide) (by decide) (by decide) (by decide) (fun _ a24 _ w _ => ?_)
  refine ⟨(w.1 (4, a4) (by simp)).1, ?_⟩
  rintro _ rfl
  replace w := OW_ref (k := 4) (k2 := 23) (j := 2) (a := a4) (a2 := a23) w (by simp) (by simp) rfl
  refine ow_arr w (k0 := 4) (k := 25) (by simp) rfl rfl rfl rfl (by decide) (by decide) (by decide) (by decide) (fun _ a25 _ w _ => ?_)
  refine ow_arr w (k0 := 4) (k := 26) (by simp) rfl rfl rfl rfl (by decide) (by decide) (by decide) (by decide) (fun _ a26 _ w _ => ?_)
  refine ow_arr w (k0 := 4) (k := 27) (by simp) rfl rfl rfl rfl (by decide) (by decide) (by decide) (by decide) (fun _ a27 _ w _ => ?_)
  refine ow_arr w (k0 := 4) (k := 28) (by simp) rfl rfl rfl rfl (by decide) (by decide) (by decide) (by decide) (fun _ a28 _ w _ => ?_)
  refine ow_arr w (k0 := 4) (k := 29) (by simp) rfl rfl rfl rfl (by decide) (by decide) (by decide) (by decide) (fun _ a29 _ w _ => ?_)
  rintro _ rfl
  replace w := OW_ref (k := 4) (k2 := 18) (j := 0) (a := a4) (a2 := a18) w (by simp) (by simp) rfl
  refine w_stack (a22 := a22) (OW_E w) (by simp) (by simp) (by simp) (by decide) (by decide) (by decide) (by decide) (fun y sv sb w st => ?_)
  have o : OX y _ _ _ _ sv sb a22 := ⟨w, st, by simp⟩
  clear w st
  refine ⟨OX_kd (k := 0) o (by simp) rfl, ?_⟩
  rintro _ rfl
  replace o := OX_ref (k := 0) (k2 := 4) (j := 3) (a := t0) (a2 := a4) o (by simp) (by simp) rfl (by decide)
  unfold F_X11_init_55
  refine ⟨by decide, by decide, fun a5 n5 => ?_⟩
  rintro _ rfl
  replace o := OX_new (k := 5) o n5 rfl rfl (by decide)
  refine ⟨2, 426, by decide, by decide, ?_⟩
  unfold F_X3_init
  refine ox_arr o (k0 := 5) (k := 30) (by simp) rfl rfl rfl rfl (by decide) (by decide) (by decide) (by decide) (by decide) (fun _ a30 o => ?_)
  refine ox_arr o (k0 := 5) (k := 31) (by simp) rfl rfl rfl rfl (by decide) (by decide) (by decide) (by decide) (by decide) (fun _ a31 o => ?_)
  refine ⟨OX_kd (k := 0) o (by simp) rfl, ?_⟩
  rintro _ rfl
  replace o := OX_ref (k := 0) (k2 := 5) (j := 4) (a := t0) (a2 := a5) o (by simp) (by simp) rfl (by decide)
  refine ⟨by decide, by decide, fun a6 n6 => ?_⟩
  rintro _ rfl
  replace o := OX_new (k := 6) o n6 rfl rfl (by decide)
  refine ⟨2, 80, by decide, by decide, ?_⟩
  unfold F_X7_init
  refine ox_arr o (k0 := 6) (k := 32) (by simp) rfl rfl rfl rfl (by decide) (by decide) (by decide) (by decide) (by decide) (fun _ a32 o => ?_)
  refine ox_arr o (k0 := 6) (k := 33) (by simp) rfl rfl rfl rfl (by decide) (by decide) (by decide) (by decide) (by decide) (fun _ a33 o => ?_)
  refine ⟨OX_kd (k := 0) o (by simp) rfl, ?_⟩
  rintro _ rfl
  replace o := OX_ref (k := 0) (k2 := 6) (j := 5) (a := t0) (a2 := a6) o (by simp) (by simp) rfl (by decide)
  unfold F_X11_init_77
  refine ⟨by decide, by decide, fun a7 n7 => ?_⟩
  rintro _ rfl
  replace o := OX_new (k := 7) o n7 rfl rfl (by decide)
  refine ⟨1, 0, by decide, by decide, ?_⟩
  unfold F_X8_init
  refine ox_arr o (k0 := 7) (k := 34) (by simp) rfl rfl rfl rfl (by decide) (by decide) (by decide) (by decide) (by decide) (fun _ a34 o => ?_)
  refine ⟨OX_kd (k := 0) o (by simp) rfl, ?_⟩
  rintro _ rfl
  replace o := OX_ref (k := 0) (k2 := 7) (j := 6) (a := t0) (a2 := a7) o (by simp) (by simp) rfl (by decide)
  refine ox_arr o (k0 := 0) (k := 8) (by simp) rfl rfl rfl rfl (by decide) (by decide) (by decide) (by decide) (by decide) (fun _ a8 o => ?_)
  refine ox_arr o (k0 := 0) (k := 9) (by simp) rfl rfl rfl rfl (by decide) (by decide) (by decide) (by decide) (by decide) (fun _ a9 o => ?_)
  unfold F_X11_init_107
  refine ox_arr o (k0 := 0) (k := 10) (by simp) rfl rfl rfl rfl (by decide) (by decide) (by decide) (by decide) (by decide) (fun _ a10 o => ?_)
  rintro _ rfl
  replace o := OX_int (k := 0) (j := 13) (a := t0) (x := -1) o (by simp) rfl (by decide)
  rintro _ rfl
  replace o := OX_int (k := 0) (j := 16) (a := t0) (x := 8) o (by simp) rfl (by decide)
  rintro _ rfl
  replace o := OX_int (k := 0) (j := 17) (a := t0) (x := 6) o (by simp) rfl (by decide)
  refine p _ _ _ _ sv sb a22 _ _ o rfl (by decide) (by rfl) (by simp) (by decide) (by decide)
