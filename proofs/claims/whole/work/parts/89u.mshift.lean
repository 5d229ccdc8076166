/-! ===== copy: a formula moved, the reference ===== -/
theorem i_further {u : Mu} {t : Int} {s : Sh} {ax id d : Int} {P : Int → Prop} (hb : ShB s) (m : ShM u t s) (t0 : 0 ≤ t) (t1 : t < 122) (d0 : -100 ≤ d) (d1 : d ≤ 100) (h : P (frt s ax id d)) : F_X12_further t ax id d u P := by
  have ls := lnS_b hb ax
  have m32 := mst_32 ax
  have pb := plS_b s ax id
  unfold F_X12_further F_X12_further_34 F_X12_further_49
  unfold frt at h
  refine i_placeS hb m t0 t1 ?_
  by_cases e1 : plS s ax id < 0
  · rw [if_pos e1]; rw [if_neg (by omega)] at h; exact h
  · rw [if_neg e1]
    refine i_linesOf t0 t1 ?_
    rw [ShM_ln m ax, w32e (x := plS s ax id + d) (by omega) (by omega), w32e (x := lnS s ax - 1) (by omega) (by omega)]
    refine i_in ?_
    by_cases e2 : 0 ≤ plS s ax id + d ∧ plS s ax id + d ≤ lnS s ax - 1
    · rw [show tb (0 ≤ plS s ax id + d ∧ plS s ax id + d ≤ lnS s ax - 1) = 1 by rw [tb, if_pos e2], if_neg (by decide)]
      rw [if_pos (by omega)] at h
      refine i_lineAt t0 t1 (by omega) (by omega) ?_
      rw [ShM_id m ax _ (by omega) (by omega)]; exact h
    · rw [show tb (0 ≤ plS s ax id + d ∧ plS s ax id + d ≤ lnS s ax - 1) = 0 by rw [tb, if_neg e2], if_pos rfl]
      rw [if_neg (by omega)] at h; exact h
def BtI (x k f : Int) : Prop := bAnd x k ≤ 0 ↔ f ≠ 1
theorem bt3 : ∀ f : Nat, f < 16 → (bAnd (sw2 ((f : Int) % 4) + 4 * sw2 ((f : Int) / 4)) 2 ≤ 0 ↔ (f : Int) % 2 ≠ 1) ∧ (bAnd (sw2 ((f : Int) % 4) + 4 * sw2 ((f : Int) / 4)) 1 ≤ 0 ↔ (f : Int) / 2 % 2 ≠ 1) ∧ (bAnd (sw2 ((f : Int) % 4) + 4 * sw2 ((f : Int) / 4)) 8 ≤ 0 ↔ (f : Int) / 4 % 2 ≠ 1) ∧ (bAnd (sw2 ((f : Int) % 4) + 4 * sw2 ((f : Int) / 4)) 4 ≤ 0 ↔ (f : Int) / 8 % 2 ≠ 1) ∧ (bAnd (sw2 ((f : Int) % 4) + 16) 2 ≤ 0 ↔ (f : Int) % 2 ≠ 1) ∧ (bAnd (sw2 ((f : Int) % 4) + 16) 1 ≤ 0 ↔ (f : Int) / 2 % 2 ≠ 1) ∧ (bAnd (sw2 ((f : Int) % 4) + 0) 2 ≤ 0 ↔ (f : Int) % 2 ≠ 1) ∧ (bAnd (sw2 ((f : Int) % 4) + 0) 1 ≤ 0 ↔ (f : Int) / 2 % 2 ≠ 1) := by decide +kernel
theorem fM_bt {p : Prt} {nx : Int} (w0 : 0 ≤ p.2.2.2.2.1) (w1 : p.2.2.2.2.1 ≤ 15) : BtI (fM p nx) 2 (p.2.2.2.2.1 % 2) ∧ BtI (fM p nx) 1 (p.2.2.2.2.1 / 2 % 2) ∧ (p.1 ≠ 16 → BtI (fM p nx) 8 (p.2.2.2.2.1 / 4 % 2) ∧ BtI (fM p nx) 4 (p.2.2.2.2.1 / 8 % 2)) := by
  have b3 := bt3 p.2.2.2.2.1.toNat (by omega)
  rw [Int.toNat_of_nonneg w0] at b3
  obtain ⟨t1, t2, t3, t4, t5, t6, t7, t8⟩ := b3
  unfold fM BtI
  by_cases e : p.1 = 16
  · rw [if_pos e]
    by_cases e2 : nx = 29 ∨ nx = 30
    · rw [if_pos e2]; exact ⟨t5, t6, fun w => absurd e w⟩
    · rw [if_neg e2]; exact ⟨t7, t8, fun w => absurd e w⟩
  · rw [if_neg e]; exact ⟨t1, t2, fun _ => ⟨t3, t4⟩⟩
def isRC (op : Int) : Prop := op = 29 ∨ op = 30
theorem fM_nx {p : Prt} {nx nx' : Int} (h : isRC nx ↔ isRC nx') : fM p nx = fM p nx' := by
  unfold isRC at h
  unfold fM
  by_cases e : nx = 29 ∨ nx = 30
  · rw [if_pos e, if_pos (h.mp e)]
  · rw [if_neg e, if_neg (fun w => e (h.mpr w))]
theorem PrtM_nx {u : Mu} {q : Int} {p : Prt} {nx nx' : Int} (h : isRC nx ↔ isRC nx') (k : PrtM u q p nx) : PrtM u q p nx' := by
  unfold PrtM at k ⊢
  rw [← fM_nx h]; exact k
def wCf : WR := [(0, some 25), (26, none), (27, none), (28, none), (29, none), (30, none), (31, none), (32, none), (33, none), (34, none), (35, none), (36, none), (37, none), (38, none)]
/-- only the part q differs -/
def OnQ (u v : Mu) (q : Int) : Prop := (∀ k i, ¬ (i = q ∧ 26 ≤ k ∧ k ≤ 37) → mI v k i = mI u k i) ∧ ∀ k i, ¬ (i = q ∧ k = 29) → mG v k i = mG u k i
theorem OnQ_rf {u : Mu} {q : Int} : OnQ u u q := ⟨fun _ _ _ => rfl, fun _ _ _ => rfl⟩
theorem OnQ_uI {u v : Mu} {q x : Int} {k : Nat} (h : OnQ u v q) (k0 : 26 ≤ k) (k1 : k ≤ 37) : OnQ u (uI v k q x) q := ⟨fun k' i n => by rw [mI_uI, if_neg (by rintro ⟨rfl, rfl⟩; exact n ⟨rfl, k0, k1⟩)]; exact h.1 k' i n, h.2⟩
theorem OnQ_tr {u v w : Mu} {q : Int} (h : OnQ u v q) (k : OnQ v w q) : OnQ u w q := ⟨fun a i n => (k.1 a i n).trans (h.1 a i n), fun a i n => (k.2 a i n).trans (h.2 a i n)⟩
theorem kfld : ∀ k : Nat, 26 ≤ k → k ≤ 37 → (k, (none : Option Int)) ∈ wCf := by
  intro k h1 h2
  have : k = 26 ∨ k = 27 ∨ k = 28 ∨ k = 29 ∨ k = 30 ∨ k = 31 ∨ k = 32 ∨ k = 33 ∨ k = 34 ∨ k = 35 ∨ k = 36 ∨ k = 37 := by omega
  rcases this with rfl | rfl | rfl | rfl | rfl | rfl | rfl | rfl | rfl | rfl | rfl | rfl <;> decide
theorem OnQ_fr {u v : Mu} {q : Int} (h : OnQ u v q) : FrM wCf u v := ⟨fun k i n => h.1 k i (fun w => n (wHas_a (kfld k w.2.1 w.2.2))), fun k i n => h.2 k i (fun w => n (by rw [w.2]; exact wHas_a (by decide)))⟩
/-- a corner: fixed, or further on -/
theorem i_cor {u : Mu} {t q x5 kb f fld ax d : Int} {kf : Nat} {s : Sh} {K : Int → Prop} (hq : 0 ≤ q ∧ q < 60420) (b : BtI x5 kb f) (hb : ShB s) (m : ShM u t s) (t0 : 0 ≤ t) (t1 : t < 122) (d0 : -100 ≤ d) (d1 : d ≤ 100) (e : mI u kf q = fld) (h : K (cor f s ax fld d)) : (if bAnd x5 kb ≤ 0 then (0 ≤ q ∧ q < 60420 ∧ F_X12_further t ax (mI u kf q) d u K) else (0 ≤ q ∧ q < 60420 ∧ K (mI u kf q))) := by
  unfold cor at h
  rw [e]
  by_cases c : f = 1
  · rw [if_pos c] at h
    rw [if_neg (fun w => b.mp w c)]; exact ⟨hq.1, hq.2, h⟩
  · rw [if_neg c] at h
    rw [if_pos (b.mpr c)]; exact ⟨hq.1, hq.2, i_further hb m t0 t1 d0 d1 h⟩
/-- the four corners written -/
theorem wr4 {u v : Mu} {q y1 y2 y3 y4 : Int} (ov : OnQ u v q) (o28 : mI v 28 q = mI u 28 q) (o27 : mI v 27 q = mI u 27 q) (oL : mG v 29 q = 0 ∧ mI v 30 q = 0 ∧ mI v 31 q = 0) (w : Mu) (hw : w = uI (uI (uI (uI v 32 q y1) 33 q y2) 34 q y3) 35 q y4) : OnQ u w q ∧ mI w 28 q = mI u 28 q ∧ mI w 26 q = mI v 26 q ∧ mI w 27 q = mI u 27 q ∧ PliM w q none ∧ mI w 32 q = y1 ∧ mI w 33 q = y2 ∧ mI w 34 q = y3 ∧ mI w 35 q = y4 ∧ mI w 36 q = mI v 36 q ∧ mI w 37 q = mI v 37 q := by
  have z : ∀ k, k ≠ 32 → k ≠ 33 → k ≠ 34 → k ≠ 35 → mI w k q = mI v k q := fun k n1 n2 n3 n4 => by
    rw [hw, mI_uI, if_neg (fun w => n4 w.1), mI_uI, if_neg (fun w => n3 w.1), mI_uI, if_neg (fun w => n2 w.1), mI_uI, if_neg (fun w => n1 w.1)]
  refine ⟨?_, by rw [z 28 (by decide) (by decide) (by decide) (by decide)]; exact o28, z 26 (by decide) (by decide) (by decide) (by decide), ?_, ?_, ?_, ?_, ?_, ?_, z 36 (by decide) (by decide) (by decide) (by decide), z 37 (by decide) (by decide) (by decide) (by decide)⟩
  · rw [hw]; exact OnQ_uI (OnQ_uI (OnQ_uI (OnQ_uI ov (by decide) (by decide)) (by decide) (by decide)) (by decide) (by decide)) (by decide) (by decide)
  · rw [z 27 (by decide) (by decide) (by decide) (by decide)]; exact o27
  · exact ⟨by rw [hw]; exact oL.1, by rw [z 30 (by decide) (by decide) (by decide) (by decide)]; exact oL.2.1, by rw [z 31 (by decide) (by decide) (by decide) (by decide)]; exact oL.2.2⟩
  · rw [hw, mI_uI, if_neg (by omega), mI_uI, if_neg (by omega), mI_uI, if_neg (by omega), mI_uI, if_pos ⟨rfl, rfl⟩]
  · rw [hw, mI_uI, if_neg (by omega), mI_uI, if_neg (by omega), mI_uI, if_pos ⟨rfl, rfl⟩]
  · rw [hw, mI_uI, if_neg (by omega), mI_uI, if_pos ⟨rfl, rfl⟩]
  · rw [hw, mI_uI, if_pos ⟨rfl, rfl⟩]
def ref0 : Prt := (15, 0, none, (0, 0, 0, 0), 0, -1)
theorem i_shBad {u : Mu} {q nx x6 X1 X2 Y3 Y4 : Int} {P : Mu → Prop} (hq : 0 ≤ q ∧ q < 60420) (a2 : mI u 27 q = 0) (l : mG u 29 q = 0 ∧ mI u 30 q = 0 ∧ mI u 31 q = 0) (h : ∀ v, OnQ u v q → mI v 28 q = mI u 28 q → PrtM v q ref0 nx → P v) : F_X12_shift_206 q x6 X1 X2 Y3 Y4 u P := by
  unfold F_X12_shift_206 F_X12_shift_207
  rw [if_pos rfl]
  refine ⟨hq.1, hq.2, ?_⟩
  rintro _ rfl
  refine ⟨hq.1, hq.2, ?_⟩
  rintro _ rfl
  refine ⟨hq.1, hq.2, ?_⟩
  rintro _ rfl
  have vz : ∀ k, k ≠ 26 → k ≠ 36 → k ≠ 37 → mI (uI (uI (uI u 26 q 4) 36 q 0) 37 q (-1)) k q = mI u k q := fun k n1 n2 n3 => by
    rw [mI_uI, if_neg (fun w => n3 w.1), mI_uI, if_neg (fun w => n2 w.1), mI_uI, if_neg (fun w => n1 w.1)]
  have ov : OnQ u (uI (uI (uI u 26 q 4) 36 q 0) 37 q (-1)) q := OnQ_uI (OnQ_uI (OnQ_uI OnQ_rf (by decide) (by decide)) (by decide) (by decide)) (by decide) (by decide)
  have v26 : mI (uI (uI (uI u 26 q 4) 36 q 0) 37 q (-1)) 26 q = 4 := by rw [mI_uI, if_neg (by omega), mI_uI, if_neg (by omega), mI_uI, if_pos ⟨rfl, rfl⟩]
  have v36 : mI (uI (uI (uI u 26 q 4) 36 q 0) 37 q (-1)) 36 q = 0 := by rw [mI_uI, if_neg (by omega), mI_uI, if_pos ⟨rfl, rfl⟩]
  have v37 : mI (uI (uI (uI u 26 q 4) 36 q 0) 37 q (-1)) 37 q = -1 := by rw [mI_uI, if_pos ⟨rfl, rfl⟩]
  have v29 : mG (uI (uI (uI u 26 q 4) 36 q 0) 37 q (-1)) 29 q = 0 := l.1
  generalize uI (uI (uI u 26 q 4) 36 q 0) 37 q (-1) = v at vz ov v26 v36 v37 v29
  unfold F_X12_shift_235 F_X12_shift_251 F_X12_shift_268 F_X12_shift_289 F_X12_shift_290 F_X12_shift_311 F_X12_shift_312
  rw [if_pos rfl]
  refine ⟨hq.1, hq.2, ?_⟩
  rintro _ rfl
  rw [if_pos rfl]
  refine ⟨hq.1, hq.2, ?_⟩
  rintro _ rfl
  rw [if_pos rfl]
  refine ⟨hq.1, hq.2, ?_⟩
  rintro _ rfl
  rw [if_pos rfl]
  refine ⟨hq.1, hq.2, ?_⟩
  intro w hw
  obtain ⟨g0, g1, g2, g3, g4, g5, g6, g7, g8, g9, g10⟩ := wr4 ov (vz 28 (by decide) (by decide) (by decide)) (vz 27 (by decide) (by decide) (by decide)) ⟨v29, by rw [vz 30 (by decide) (by decide) (by decide)]; exact l.2.1, by rw [vz 31 (by decide) (by decide) (by decide)]; exact l.2.2⟩ w hw
  refine h w g0 g1 ⟨by rw [g2, v26]; rfl, by rw [g3, a2]; rfl, g4, by rw [g5]; rfl, by rw [g6]; rfl, by rw [g7]; rfl, by rw [g8]; rfl, by rw [g9, v36]; rfl, by rw [g10, v37]; rfl, ?_⟩
  refine ⟨by decide, by show (15 : Int) ≠ 14; decide, by decide, fun w => absurd w (by decide), by decide, ?_⟩
  rw [if_neg (by decide)]; exact ⟨rfl, rfl⟩
theorem i_shGood {u : Mu} {q nx x6 X1 X2 X3 X4 Y3 Y4 : Int} {p : Prt} {P : Mu → Prop} (hq : 0 ≤ q ∧ q < 60420) (hp : PrtM u q p nx) (hpl : p.1 = 16 ∨ p.1 = 17) (lit : p.2.2.1 = none) (args : p.2.1 = 0) (sp : p.1 = 16 → X3 = X1 ∧ X4 = X2) (g : 0 ≤ X1 ∧ 0 ≤ X2 ∧ 0 ≤ X3 ∧ 0 ≤ X4) (hx6 : x6 = 0 ∧ p.1 = 16 ∨ x6 = 1 ∧ p.1 = 17 ∧ Y3 = X3 ∧ Y4 = X4) (h : ∀ v, OnQ u v q → mI v 28 q = mI u 28 q → PrtM v q (p.1, 0, none, (X1 + 1, X2 + 1, X3 + 1, X4 + 1), p.2.2.2.2) nx → P v) : F_X12_shift_207 q x6 X1 X2 Y3 Y4 1 u P := by
  obtain ⟨a1, a2, a3, a4, a5, a6, a7, a8, a9, wo, wl, wf, w16, wa, wr⟩ := hp
  rw [if_pos hpl] at wr
  rw [lit] at a3
  rw [args] at a2
  have wfn : WfP (p.1, 0, none, (X1 + 1, X2 + 1, X3 + 1, X4 + 1), p.2.2.2.2) := by
    refine ⟨wo, by show p.1 ≠ 14; rcases hpl with e | e <;> rw [e] <;> decide, wf, fun e => ?_, by rw [args] at wa; exact wa, ?_⟩
    · obtain ⟨s1, s2⟩ := sp e
      show X3 + 1 = X1 + 1 ∧ X4 + 1 = X2 + 1 ∧ _
      exact ⟨by rw [s1], by rw [s2], (w16 e).2.2⟩
    · rw [if_pos hpl]
      exact ⟨⟨by show 1 ≤ X1 + 1; omega, by show 1 ≤ X2 + 1; omega, by show 1 ≤ X3 + 1; omega, by show 1 ≤ X4 + 1; omega⟩, wr.2⟩
  have kme : kM (p.1, 0, none, (X1 + 1, X2 + 1, X3 + 1, X4 + 1), p.2.2.2.2) = kM p := by
    unfold kM; rcases hpl with e | e <;> rw [e] <;> rfl
  have fme : fM (p.1, 0, none, (X1 + 1, X2 + 1, X3 + 1, X4 + 1), p.2.2.2.2) nx = fM p nx := rfl
  clear wo wl wf w16 wa wr a4 a5 a6 a7
  unfold F_X12_shift_207
  rw [if_neg (by decide)]
  unfold F_X12_shift_235 F_X12_shift_251 F_X12_shift_268 F_X12_shift_289 F_X12_shift_290 F_X12_shift_311 F_X12_shift_312
  rw [if_neg (by decide)]
  refine ⟨hq.1, hq.2, ?_⟩
  rintro _ rfl
  rw [if_neg (by decide)]
  refine ⟨hq.1, hq.2, ?_⟩
  rintro _ rfl
  rw [if_neg (by decide)]
  rcases hx6 with ⟨e6, e16⟩ | ⟨e6, e17, eY3, eY4⟩
  · rw [if_pos e6]
    refine ⟨hq.1, hq.2, ?_⟩
    rintro _ rfl
    rw [if_neg (by decide), if_pos e6]
    refine ⟨hq.1, hq.2, ?_⟩
    intro w hw
    obtain ⟨g0, g1, g2, g3, g4, g5, g6, g7, g8, g9, g10⟩ := wr4 OnQ_rf rfl rfl a3 w hw
    exact h w g0 g1 ⟨by rw [kme, g2]; exact a1, by rw [g3]; exact a2, g4, by rw [g5]; show X1 = X1 + 1 - 1; omega, by rw [g6]; show X2 = X2 + 1 - 1; omega, by rw [g7, if_pos e16], by rw [g8, if_pos e16], by rw [fme, g9]; exact a8, by rw [g10]; exact a9, wfn⟩
  · rw [if_neg (by rw [e6]; decide)]
    refine ⟨hq.1, hq.2, ?_⟩
    rintro _ rfl
    rw [if_neg (by decide), if_neg (by rw [e6]; decide)]
    refine ⟨hq.1, hq.2, ?_⟩
    intro w hw
    have n16 : ¬ p.1 = 16 := by rw [e17]; decide
    obtain ⟨g0, g1, g2, g3, g4, g5, g6, g7, g8, g9, g10⟩ := wr4 OnQ_rf rfl rfl a3 w hw
    refine h w g0 g1 ⟨by rw [kme, g2]; exact a1, by rw [g3]; exact a2, g4, by rw [g5]; show X1 = X1 + 1 - 1; omega, by rw [g6]; show X2 = X2 + 1 - 1; omega, ?_, ?_, by rw [fme, g9]; exact a8, by rw [g10]; exact a9, wfn⟩
    · rw [g7, if_neg n16, eY3]; show X3 = X3 + 1 - 1; omega
    · rw [g8, if_neg n16, eY4]; show X4 = X4 + 1 - 1; omega
theorem half5 {f : Int} (h0 : 0 ≤ f) (h1 : f ≤ 15) (h : f = 5 * (f % 4)) : f / 4 % 2 = f % 2 ∧ f / 8 % 2 = f / 2 % 2 := by
  have : f = 0 ∨ f = 5 ∨ f = 10 ∨ f = 15 := by omega
  rcases this with e | e | e | e <;> rw [e] <;> decide
theorem plc_la {p : Prt} (wp : WfP p) (hpl : p.1 = 16 ∨ p.1 = 17) : p.2.2.1 = none ∧ p.2.1 = 0 := by
  obtain ⟨wo, wl, wf, w16, wa, wr⟩ := wp
  constructor
  · revert wl
    cases p.2.2.1 with
    | none => intro _; rfl
    | some l => rintro ⟨w, -⟩; omega
  · unfold argL argM at wa; rcases hpl with e | e <;> rw [e] at wa <;> simp at wa <;> omega
theorem i_shift {u : Mu} {q : Int} {p : Prt} {nx dr dc : Int} {s : Sh} {P : Mu → Prop} (hq : 0 ≤ q ∧ q < 60420) (hp : PrtM u q p nx) (hpl : p.1 = 16 ∨ p.1 = 17) (hv : p.2.2.2.2.2 < 40) (hb : ShB s) (his : IdS s) (m : ShM u (slt p.2.2.2.2.2) s) (r0 : -100 ≤ dr ∧ dr ≤ 100) (c0 : -100 ≤ dc ∧ dc ≤ 100) (h : ∀ v, OnQ u v q → mI v 28 q = mI u 28 q → PrtM v q (shfP s p dr dc) nx → P v) : F_X12_shift q dr dc u P := by
  obtain ⟨a1, a2, a3, a4, a5, a6, a7, a8, a9, wp⟩ := id hp
  obtain ⟨lit, args⟩ := plc_la wp hpl
  have wf := wp.2.2.1
  have w16 := wp.2.2.2.1
  have wr := wp.2.2.2.2.2
  rw [if_pos hpl] at wr
  obtain ⟨bR, bC, bT⟩ := fM_bt (nx := nx) wf.1 wf.2
  rw [← a8] at bR bC bT
  have sb : 0 ≤ slt p.2.2.2.2.2 ∧ slt p.2.2.2.2.2 < 122 := by have := wr.2; unfold slt; split <;> omega
  have kk : mI u 26 q = 6 ↔ p.1 = 17 := by
    rw [a1]; unfold kM
    rcases hpl with e | e <;> rw [e] <;> simp
  rw [lit] at a3
  rw [args] at a2
  have spot : p.1 = 16 → cor (p.2.2.2.2.1 / 4 % 2) s 0 (p.2.2.2.1.2.2.1 - 1) dr = cor (p.2.2.2.2.1 % 2) s 0 (p.2.2.2.1.1 - 1) dr ∧ cor (p.2.2.2.2.1 / 8 % 2) s 1 (p.2.2.2.1.2.2.2 - 1) dc = cor (p.2.2.2.2.1 / 2 % 2) s 1 (p.2.2.2.1.2.1 - 1) dc := fun e => by
    obtain ⟨g1, g2, g3⟩ := w16 e
    have hf := half5 wf.1 wf.2 g3
    rw [g1, g2, hf.1, hf.2]
    exact ⟨rfl, rfl⟩
  have m1 := cor_m (f := p.2.2.2.2.1 % 2) (d := dr) his (Or.inl rfl) (show -1 ≤ p.2.2.2.1.1 - 1 by omega)
  have m2 := cor_m (f := p.2.2.2.2.1 / 2 % 2) (d := dc) his (Or.inr rfl) (show -1 ≤ p.2.2.2.1.2.1 - 1 by omega)
  have m3 := cor_m (f := p.2.2.2.2.1 / 4 % 2) (d := dr) his (Or.inl rfl) (show -1 ≤ p.2.2.2.1.2.2.1 - 1 by omega)
  have m4 := cor_m (f := p.2.2.2.2.1 / 8 % 2) (d := dc) his (Or.inr rfl) (show -1 ≤ p.2.2.2.1.2.2.2 - 1 by omega)
  have e34 : p.1 = 17 → mI u 34 q = p.2.2.2.1.2.2.1 - 1 := fun w => by rw [a6, if_neg (by rw [w]; decide)]
  have e35 : p.1 = 17 → mI u 35 q = p.2.2.2.1.2.2.2 - 1 := fun w => by rw [a7, if_neg (by rw [w]; decide)]
  have n16 : p.1 = 17 → p.1 ≠ 16 := fun w => by rw [w]; decide
  unfold shfP at h
  clear wp wf w16 wr a6 a7 a8 a1
  -- the end, with the corners
  have s180 : ∀ Y3 Y4 x6, (x6 = 0 ∧ p.1 = 16 ∧ Y3 = 0 ∧ Y4 = 0 ∨ x6 = 1 ∧ p.1 = 17 ∧ Y3 = cor (p.2.2.2.2.1 / 4 % 2) s 0 (p.2.2.2.1.2.2.1 - 1) dr ∧ Y4 = cor (p.2.2.2.2.1 / 8 % 2) s 1 (p.2.2.2.1.2.2.2 - 1) dc) → F_X12_shift_180 q x6 (cor (p.2.2.2.2.1 % 2) s 0 (p.2.2.2.1.1 - 1) dr) (cor (p.2.2.2.2.1 / 2 % 2) s 1 (p.2.2.2.1.2.1 - 1) dc) Y3 Y4 u P := by
    clear bR bC bT kk e34 e35 m sb
    generalize cor (p.2.2.2.2.1 % 2) s 0 (p.2.2.2.1.1 - 1) dr = X1 at *
    generalize cor (p.2.2.2.2.1 / 2 % 2) s 1 (p.2.2.2.1.2.1 - 1) dc = X2 at *
    generalize cor (p.2.2.2.2.1 / 4 % 2) s 0 (p.2.2.2.1.2.2.1 - 1) dr = X3 at *
    generalize cor (p.2.2.2.2.1 / 8 % 2) s 1 (p.2.2.2.1.2.2.2 - 1) dc = X4 at *
    intro Y3 Y4 x6 hx
    have bad : ∀ {Y3 Y4}, (X1 < 0 ∨ X2 < 0 ∨ X3 < 0 ∨ X4 < 0) → F_X12_shift_206 q x6 X1 X2 Y3 Y4 u P := fun hbad => by
      rw [if_pos hbad] at h
      exact i_shBad hq a2 a3 h
    have good : ∀ {Y3 Y4}, (x6 = 0 ∧ p.1 = 16 ∨ x6 = 1 ∧ p.1 = 17 ∧ Y3 = X3 ∧ Y4 = X4) → ¬ (X1 < 0 ∨ X2 < 0 ∨ X3 < 0 ∨ X4 < 0) → F_X12_shift_207 q x6 X1 X2 Y3 Y4 1 u P := fun hx6 hg => by
      rw [if_neg hg] at h
      exact i_shGood hq hp hpl lit args spot (by omega) hx6 h
    unfold F_X12_shift_180
    by_cases q1 : X1 < 0
    · rw [if_pos q1]; exact bad (Or.inl q1)
    rw [if_neg q1]
    by_cases q2 : X2 < 0
    · rw [if_pos q2]; exact bad (Or.inr (Or.inl q2))
    rw [if_neg q2]
    rcases hx with ⟨g1, g2, g3, g4⟩ | ⟨g1, g2, g3, g4⟩
    · obtain ⟨t1, t2⟩ := spot g2
      rw [if_neg (by rw [g3]; decide), if_neg (by rw [g4]; decide)]
      exact good (Or.inl ⟨g1, g2⟩) (by rw [t1, t2]; rintro (w | w | w | w) <;> contradiction)
    · by_cases q3 : Y3 < 0
      · rw [if_pos q3]; exact bad (Or.inr (Or.inr (Or.inl (g3 ▸ q3))))
      rw [if_neg q3]
      by_cases q4 : Y4 < 0
      · rw [if_pos q4]; exact bad (Or.inr (Or.inr (Or.inr (g4 ▸ q4))))
      rw [if_neg q4]
      exact good (Or.inr ⟨g1, g2, g3, g4⟩) (by rw [← g3, ← g4]; rintro (w | w | w | w) <;> contradiction)
  clear h lit args spot m1 m2 m3 m4 a2 a3 hp
  have s97 : ∀ x6, (x6 = 0 ∧ p.1 = 16 ∨ x6 = 1 ∧ p.1 = 17) → F_X12_shift_97 q dr dc (slt p.2.2.2.2.2) (mI u 36 q) x6 (cor (p.2.2.2.2.1 % 2) s 0 (p.2.2.2.1.1 - 1) dr) (cor (p.2.2.2.2.1 / 2 % 2) s 1 (p.2.2.2.1.2.1 - 1) dc) u P := fun x6 hx => by
    unfold F_X12_shift_97
    rcases hx with ⟨g1, g2⟩ | ⟨g1, g2⟩
    · rw [if_pos g1]
      unfold F_X12_shift_139
      rw [if_pos g1]
      exact s180 0 0 x6 (Or.inl ⟨g1, g2, rfl, rfl⟩)
    · rw [if_neg (by rw [g1]; decide)]
      obtain ⟨b8, b4⟩ := bT (n16 g2)
      refine i_cor hq b8 hb m sb.1 sb.2 r0.1 r0.2 (e34 g2) ?_
      unfold F_X12_shift_139
      rw [if_neg (by rw [g1]; decide)]
      exact i_cor hq b4 hb m sb.1 sb.2 c0.1 c0.2 (e35 g2) (s180 _ _ x6 (Or.inr ⟨g1, g2, rfl, rfl⟩))
  have s33 : ∀ x6, (x6 = 0 ∧ p.1 = 16 ∨ x6 = 1 ∧ p.1 = 17) → F_X12_shift_33 q dr dc (slt p.2.2.2.2.2) (mI u 36 q) x6 u P := fun x6 hx => by
    unfold F_X12_shift_33
    refine i_cor hq bR hb m sb.1 sb.2 r0.1 r0.2 a4 ?_
    unfold F_X12_shift_65
    exact i_cor hq bC hb m sb.1 sb.2 c0.1 c0.2 a5 (s97 x6 hx)
  unfold F_X12_shift F_X12_sheetOf F_X12_sheetOf_19
  refine ⟨hq.1, hq.2, ?_⟩
  rw [a9]
  have fin : ∀ t, t = slt p.2.2.2.2.2 → (0 ≤ q ∧ q < 60420 ∧ (0 ≤ q ∧ q < 60420 ∧ (if mI u 26 q = 6 then F_X12_shift_33 q dr dc t (mI u 36 q) 1 u P else F_X12_shift_33 q dr dc t (mI u 36 q) 0 u P))) := fun t ht => by
    rw [ht]
    refine ⟨hq.1, hq.2, hq.1, hq.2, ?_⟩
    by_cases e : p.1 = 17
    · rw [if_pos (kk.mpr e)]; exact s33 1 (Or.inr ⟨rfl, e⟩)
    · rw [if_neg (fun w => e (kk.mp w))]; exact s33 0 (Or.inl ⟨rfl, hpl.elim id (fun w => absurd w e)⟩)
  have hge : -1 ≤ p.2.2.2.2.2 := by
    by_cases w : p.2.2.2.2.2 = -1
    · omega
    · unfold slt at sb; rw [if_neg w] at sb; omega
  by_cases ev : 0 ≤ p.2.2.2.2.2
  · rw [if_pos ev]; exact fin _ (by unfold slt; rw [if_neg (by omega)])
  · rw [if_neg ev]; exact fin _ (by unfold slt; rw [if_pos (by omega)])
