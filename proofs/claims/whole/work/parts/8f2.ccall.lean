/-! ===== the system: calls ===== -/
/-- a Worker and its stack -/
def CX (z : Z) (t st : Nat) : Prop := zK z t = 10 ∧ zO z t 1 = some st ∧ zK z st = 22 ∧ zN z st = 60
theorem VW_k {z : Z} {a ba x : Nat} (B : VlB z a ba) (h9 : zK z x ≠ 9) (h14 : zK z x ≠ 14) (i : Int) : ¬ VW a ba x i := by
  rintro (⟨w, -⟩ | w)
  · rw [w] at h9; exact h9 B.1
  · rw [w] at h14; exact h14 B.2.2.1
theorem CX_f {z y : Z} {t st a ba : Nat} (C : CX z t st) (B : VlB z a ba) (f : FrZ (VW a ba) z y) : CX y t st ∧ ∀ i, zO y st i = zO z st i := by
  obtain ⟨c1, c2, c3, c4⟩ := C
  have kt : zK z t ≠ 0 := by rw [c1]; decide
  have ks : zK z st ≠ 0 := by rw [c3]; decide
  refine ⟨⟨(f.1 t kt).1.trans c1, ?_, (f.1 st ks).1.trans c3, (f.1 st ks).2.trans c4⟩, fun i => (f.2 st i ks (VW_k B (by rw [c3]; decide) (by rw [c3]; decide) i)).2.2⟩
  exact (f.2 t 1 kt (VW_k B (by rw [c1]; decide) (by rw [c1]; decide) 1)).2.2.trans c2
theorem k9_cutL {z : Z} {a ba : Nat} {T bs : List Int} {kept from0 : Int} {P : Z → Prop} (V : VX z a ba (2, 0, T)) (h24 : T.length ≤ 24) (k0 : 0 ≤ kept) (f0 : 0 ≤ from0) (hk : from0 + kept ≤ (T.length : Int)) (hb : (bs.length : Int) = kept) (hbs : ∀ j : Nat, (j : Int) < kept → bs.getD j 0 = T.getD (from0.toNat + j) 0) (h : ∀ y, VlS y a ba (2, 0, bs) → zI y a 3 = 0 → FrZ (VW a ba) z y → P y) : F_X9_cut_102 (some a) kept from0 z P := by
  have B := VX_B V
  obtain ⟨a1, a2, -, a4⟩ := VlS_t V.1 rfl
  have a4 : ∀ i : Nat, i < T.length → zI z ba i = T.getD i 0 := a4
  unfold F_X9_cut_102 F_X9_cut_107
  refine lp_I (fun q => (0 ≤ q.1 ∧ q.1 ≤ kept) ∧ FrZ (VW a ba) z q.2 ∧ (∀ j : Nat, (j : Int) < q.1 → zI q.2 ba j = bs.getD j 0) ∧ ∀ j : Nat, q.1 ≤ (j : Int) → j < T.length → zI q.2 ba j = T.getD j 0) (fun q => (kept - q.1).toNat) ?_ (0, z) (And.intro ⟨by show (0 : Int) ≤ 0; omega, k0⟩ (And.intro FrZ_rf (And.intro (fun j hj => by exfalso; have : (j : Int) < 0 := hj; omega) (fun j _ hj => a4 j hj))))
  rintro G ⟨x, w⟩ ⟨⟨x0, x1⟩, f, e1, e2⟩ ih
  simp only at x0 x1 f e1 e2
  have B2 := VlB_fr B f
  show L_X9_cut_107 (some a) kept from0 x w _
  unfold L_X9_cut_107
  by_cases c : kept ≤ x
  · rw [if_pos c]
    show ∃ q, some a = some q ∧ zK w q = 9 ∧ F_X8_set q 2 kept w _
    exact ⟨a, rfl, B2.1, k_set2 (bs := bs) B2 hb.symm (by omega) (fun j hj => e1 j (by omega)) (fun y g1 g2 g3 => h y g1 g2 (FrZ_tr f g3))⟩
  · rw [if_neg c, w32e (x := from0 + x) (by omega) (by omega), w32e (x := x + 1) (by omega) (by omega)]
    refine ⟨a, rfl, B2.1, ba, B2.2.1, B2.2.2.1, by omega, by rw [B2.2.2.2]; omega, x0, by rw [B2.2.2.2]; omega, fun v hv => ?_⟩
    subst hv
    refine ih (x + 1, _) (And.intro ⟨by show 0 ≤ x + 1; omega, by show x + 1 ≤ _; omega⟩ (And.intro (FrZ_b f) (And.intro (fun j hj => ?_) (fun j hj hj2 => ?_)))) (by show (kept - (x + 1)).toNat < (kept - x).toNat; omega)
    · show zI (wI w ba x _) ba j = _
      have hj : (j : Int) < x + 1 := hj
      by_cases cj : (j : Int) = x
      · rw [zI_wI, if_pos ⟨rfl, cj⟩, hbs j (by omega)]
        have := e2 (from0.toNat + j) (by omega) (by omega)
        rw [← this]; congr 1; omega
      · rw [zI_wI, if_neg (fun w => cj w.2)]; exact e1 j (by omega)
    · show zI (wI w ba x _) ba j = _
      have hj : x + 1 ≤ (j : Int) := hj
      rw [zI_wI, if_neg (by omega)]; exact e2 j (by omega) hj2
theorem k9_cut {z : Z} {t a ba d bd : Nat} {l m : Lit} {op : Int} {P : Z → Prop} (V : VX z a ba (txtL l)) (V2 : VlS z d bd m) (ol : VOk l) (om : VOk m) (hop : op = 31 ∨ op = 32) (h : ∀ y, VX y a ba (endV op l m) → zI y a 3 = 0 → FrZ (VW a ba) z y → P y) : F_X9_cut t op (some a) (some d) z P := by
  have B := VX_B V
  have hh : ∀ y, VlS y a ba (endV op l m) → zI y a 3 = 0 → FrZ (VW a ba) z y → P y := fun y g1 g2 g3 => h y (VX_of B g3 g1) g2 g3
  unfold endV at hh
  unfold F_X9_cut F_X9_cut_16 F_X9_cut_37 F_X9_cut_58
  refine ⟨a, rfl, B.1, ?_⟩
  rw [V.1.1.2.1]
  by_cases c4 : l.1 = 4
  · have et : txtL l = l := by unfold txtL; rw [if_neg (by omega), if_neg (by omega), if_neg (by omega)]
    rw [et] at V ⊢
    have e := (VOk_e ol c4).1
    rw [if_pos c4] at hh
    rw [if_pos c4]
    refine ⟨a, rfl, B.1, ?_⟩
    rw [V.1.1.2.1, if_pos c4, VlS_g V.1 (by omega)]
    refine ⟨a, rfl, B.1, k_set B (by decide) (fun y g1 g2 g3 => hh y ?_ g2 g3)⟩
    rw [e]; exact g1
  obtain ⟨t1, t2, t3, t4⟩ := VOk_txt ol c4
  rw [if_neg (by omega)]
  rw [if_neg c4] at hh
  refine ⟨d, rfl, V2.1.1, ?_⟩
  rw [V2.1.2.1]
  by_cases m4 : m.1 = 4
  · rw [if_pos m4]
    rw [if_pos m4] at hh
    have e := (VOk_e om m4).1
    refine ⟨a, rfl, B.1, ?_⟩
    rw [V.1.1.2.1, if_neg (by omega)]
    refine ⟨d, rfl, V2.1.1, ?_⟩
    rw [VlS_g V2 (by omega)]
    refine ⟨a, rfl, B.1, k_set B (by decide) (fun y g1 g2 g3 => hh y ?_ g2 g3)⟩
    rw [e]; exact g1
  rw [if_neg m4]
  rw [if_neg m4] at hh
  refine k_serves V2 (fun c => ?_) (fun c => ?_)
  · rw [if_neg (by decide), VlS_g V2 (by omega), (VlS_t V.1 t1).1]
    by_cases c0 : 0 ≤ m.2.1
    · rw [if_pos c0]
      rw [if_pos ⟨c, c0⟩] at hh
      have eT : txtL l = (2, 0, (txtL l).2.2) := by
        have := (VOk_b t2).2.2.2 t1
        rw [← t1, ← this]
      rw [eT] at V
      have ek : w32 (min m.2.1 (w32 ((txtL l).2.2.length : Int))) = ((kptV l m : Nat) : Int) := by
        unfold kptV
        rw [w32e (x := ((txtL l).2.2.length : Int)) (by omega) (by omega), w32e (by omega) (by omega)]
        omega
      have kl : kptV l m ≤ (txtL l).2.2.length := by unfold kptV; omega
      rw [ek, w32e (x := ((txtL l).2.2.length : Int)) (by omega) (by omega), w32e (x := ((txtL l).2.2.length : Int) - (kptV l m : Nat)) (by omega) (by omega)]
      generalize (txtL l).2.2 = T at *
      generalize kptV l m = K at *
      by_cases c31 : op = 31
      · rw [if_pos c31]
        rw [if_pos c31] at hh
        refine k9_cutL V t3 (by omega) (by omega) (by omega) (by rw [List.length_take]; omega) (fun j hj => ?_) hh
        rw [List.getD_eq_getElem?_getD, List.getD_eq_getElem?_getD, List.getElem?_take_of_lt (by omega), show (0 : Int).toNat + j = j by omega]
      · rw [if_neg c31]
        rw [if_neg c31] at hh
        refine k9_cutL V t3 (by omega) (by omega) (by omega) (by rw [List.length_drop]; omega) (fun j hj => ?_) hh
        rw [List.getD_eq_getElem?_getD, List.getD_eq_getElem?_getD, List.getElem?_drop, show ((T.length : Int) - (K : Nat)).toNat = T.length - K by omega]
    · rw [if_neg c0]
      rw [if_neg (fun w => c0 w.2)] at hh
      exact ⟨a, rfl, B.1, k_set B (by decide) hh⟩
  · rw [if_pos rfl]
    rw [if_neg (fun w => c w.1)] at hh
    exact ⟨a, rfl, B.1, k_set B (by decide) hh⟩
section Call
variable {z : Z} {t st a ba : Nat} {l : Lit} {base : Int} {P : Z → Prop}
theorem k9_c18 {a1 b1 a2 b2 : Nat} {A A2 : Lit} (C : CX z t st) (i0 : 0 ≤ base) (i1 : base + 2 < 60) (e0 : zO z st base = some a) (e1 : zO z st (base + 1) = some a1) (e2 : zO z st (base + 2) = some a2) (V : VX z a ba l) (V1 : VX z a1 b1 A) (V2 : VX z a2 b2 A2) (ol : VOk l) (o1 : VOk A) (o2 : VOk A2) (h : ∀ y, VX y a ba (ifV l A A2) → zI y a 3 = 0 → FrZ (VW a ba) z y → P y) : F_X9_call t 18 base 3 z P := by
  have B := VX_B V
  have hh : ∀ y, VlS y a ba (ifV l A A2) → zI y a 3 = 0 → FrZ (VW a ba) z y → P y := fun y g1 g2 g3 => h y (VX_of B g3 g1) g2 g3
  obtain ⟨c1, c2, c3, c4⟩ := C
  unfold ifV at hh
  unfold F_X9_call F_X9_call_116
  refine ⟨c1, st, c2, c3, i0, by omega, ?_⟩
  rw [if_pos rfl]
  unfold F_X9_takeOne F_X9_takeOne_78 F_X9_takeOne_40 F_X9_takeOne_74 F_X9_takeOne_78
  refine ⟨c1, st, c2, c3, i0, by omega, a, e0, B.1, ?_⟩
  rw [V.1.1.2.1]
  by_cases k4 : l.1 = 4
  · rw [if_pos k4]
    rw [if_pos k4] at hh
    have e := (VOk_e ol k4).1
    rw [VlS_g V.1 (by omega)]
    refine k_set B (by decide) (fun y g1 g2 g3 => hh y ?_ g2 g3)
    rw [e]; exact g1
  rw [if_neg k4]
  rw [if_neg k4] at hh
  refine k_serves V.1 (fun c => ?_) (fun c => ?_)
  · rw [if_neg (by decide), if_pos (by decide), VlS_g V.1 (by omega), w32e (x := base + 1) (by omega) (by omega), w32e (x := base + 2) (by omega) (by omega)]
    rw [if_pos c] at hh
    by_cases cz : l.2.1 = 0
    · rw [if_pos cz]
      rw [if_pos cz] at hh
      refine ⟨st, c2, c3, by omega, by omega, a, e0, B.1, ?_⟩
      rw [e2]
      exact k_take B V2.1 (fun _ => ⟨(VOk_b o2).1, by rw [V2.2]; decide⟩) hh
    · rw [if_neg cz]
      rw [if_neg cz] at hh
      refine ⟨st, c2, c3, by omega, by omega, a, e0, B.1, ?_⟩
      rw [e1]
      exact k_take B V1.1 (fun _ => ⟨(VOk_b o1).1, by rw [V1.2]; decide⟩) hh
  · rw [if_pos rfl]
    rw [if_neg c] at hh
    exact ⟨a, e0, B.1, k_set B (by decide) hh⟩
theorem k9_c28 (C : CX z t st) (i0 : 0 ≤ base) (i1 : base < 60) (e0 : zO z st base = some a) (V : VX z a ba l) {args : Int} (h : ∀ y, VX y a ba (oneV 28 l) → zI y a 3 = 0 → FrZ (VW a ba) z y → P y) : F_X9_call t 28 base args z P := by
  have B := VX_B V
  have hh : ∀ y, VlS y a ba (oneV 28 l) → zI y a 3 = 0 → FrZ (VW a ba) z y → P y := fun y g1 g2 g3 => h y (VX_of B g3 g1) g2 g3
  obtain ⟨c1, c2, c3, c4⟩ := C
  unfold oneV at hh
  rw [if_pos rfl] at hh
  unfold F_X9_call F_X9_call_45 F_X9_call_116
  refine ⟨c1, st, c2, c3, i0, by omega, ?_⟩
  rw [if_neg (by decide), if_pos rfl]
  refine ⟨a, e0, B.1, ?_⟩
  rw [V.1.1.2.1]
  by_cases k4 : l.1 = 4
  · rw [if_pos k4]; exact ⟨a, e0, B.1, k_truth B (by rw [decide_eq_false_iff_not]; omega) hh⟩
  · rw [if_neg k4]; exact ⟨a, e0, B.1, k_truth B (by rw [decide_eq_false_iff_not]; omega) hh⟩
theorem k9_c31 {op : Int} {a1 b1 : Nat} {m : Lit} (C : CX z t st) (hop : op = 31 ∨ op = 32) (i0 : 0 ≤ base) (i1 : base + 1 < 60) (e0 : zO z st base = some a) (e1 : zO z st (base + 1) = some a1) (n1 : a ≠ a1) (n2 : ba ≠ b1) (V : VX z a ba l) (V1 : VX z a1 b1 m) (ol : VOk l) (o1 : VOk m) (h : ∀ y, VX y a ba (endV op l m) → zI y a 3 = 0 → FrZ (VW a ba) z y → P y) : F_X9_call t op base 2 z P := by
  have B := VX_B V
  unfold F_X9_call F_X9_call_63 F_X9_call_116
  refine ⟨C.1, st, C.2.1, C.2.2.1, i0, by have := C.2.2.2; omega, ?_⟩
  rw [if_neg (by omega), if_neg (by omega)]
  have key : ∃ q, zO z st base = some q ∧ zK z q = 9 ∧ F_X8_becomeText q z (fun z_65 => (zK z_65 t = 10 ∧ (∃ a_81, zO z_65 t 1 = some a_81 ∧ zK z_65 a_81 = 22 ∧ (0 ≤ w32 ((w32 (base + 2)) - 1) ∧ w32 ((w32 (base + 2)) - 1) < zN z_65 a_81 ∧ F_X9_cut t op (zO z st base) (zO z_65 a_81 (w32 ((w32 (base + 2)) - 1))) z_65 (fun z_82 => P z_82))))) := by
    refine ⟨a, e0, B.1, k_text V.1 V.2 (fun _ => VOk_x ol) (fun y g1 g2 g3 => ?_)⟩
    obtain ⟨⟨d1, d2, d3, d4⟩, d5⟩ := CX_f C B g3
    rw [w32e (x := base + 2) (by omega) (by omega), w32e (x := base + 2 - 1) (by omega) (by omega)]
    refine ⟨d1, st, d2, d3, by omega, by omega, ?_⟩
    rw [d5, e0, show base + 2 - 1 = base + 1 by omega, e1]
    refine k9_cut (VX_of B g3 g1) (VX_f2 B n1 n2 g3 V1).1 ol o1 hop (fun w q1 q2 q3 => h w q1 q2 (FrZ_tr g3 q3))
  by_cases c : op = 31
  · rw [if_pos c]; exact key
  · rw [if_neg c, if_pos (by omega)]; exact key
theorem k9_c25 {op args : Int} (C : CX z t st) (hop : op = 25 ∨ op = 26 ∨ op = 27) (i0 : 0 ≤ base) (i1 : base < 60) (e0 : zO z st base = some a) (V : VX z a ba l) (ol : VOk l) (h : ∀ y, VX y a ba (oneV op l) → zI y a 3 = 0 → FrZ (VW a ba) z y → P y) : F_X9_call t op base args z P := by
  have B := VX_B V
  unfold F_X9_call F_X9_call_116
  refine ⟨C.1, st, C.2.1, C.2.2.1, i0, by have := C.2.2.2; omega, ?_⟩
  rw [if_neg (by omega), if_neg (by omega), if_neg (by omega), if_neg (by omega)]
  by_cases c : op = 27
  · rw [if_pos c]
    rw [c] at h ⊢
    refine ⟨a, e0, B.1, k_text V.1 V.2 (fun _ => VOk_x ol) (fun y g1 g2 g3 => ⟨(CX_f C B g3).1.1, ?_⟩)⟩
    rw [e0]
    have Vy := VX_of B g3 g1
    have By := VX_B Vy
    have hh : ∀ w, VlS w a ba (oneV 27 l) → zI w a 3 = 0 → FrZ (VW a ba) y w → P w := fun w q1 q2 q3 => h w (VX_of By q3 q1) q2 (FrZ_tr g3 q3)
    unfold oneV at hh
    rw [if_neg (by decide)] at hh
    unfold F_X9_change F_X9_change_106
    refine ⟨a, rfl, By.1, ?_⟩
    rw [Vy.1.1.2.1]
    by_cases c4 : l.1 = 4
    · rw [if_pos c4] at hh
      have e := (VOk_e ol c4).1
      have et : txtL l = l := by unfold txtL; rw [if_neg (by omega), if_neg (by omega), if_neg (by omega)]
      rw [et] at g1 ⊢
      rw [if_pos c4, VlS_g g1 (by omega)]
      refine k_set By (by decide) (fun w q1 q2 q3 => hh w ?_ q2 q3)
      rw [e]; exact q1
    · rw [if_neg c4, if_pos rfl] at hh
      obtain ⟨t1, -⟩ := VOk_txt ol c4
      rw [if_neg (by omega), if_pos rfl, (VlS_t g1 t1).1]
      exact k_set By (by decide) hh
  · rw [if_neg c, e0]
    exact k9_change V ol (by omega) h
end Call
