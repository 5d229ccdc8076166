/-! ===== the system: the room for values, circles told ===== -/
/-- the room's Values are apart from all else -/
def RmI (b : Nat → Nat) (J : Nat → Prop) (sv sb : Nat → Nat) (h : Sh) (rv rb : Int → Nat) : Prop := (∀ i j, FoI h i → FoI h j → rv i = rv j → i = j) ∧ (∀ i j, FoI h i → FoI h j → rb i = rb j → i = j) ∧ ∀ i, FoI h i → (¬ J (rv i) ∧ ¬ J (rb i)) ∧ (∀ m : Nat, m < 60 → rv i ≠ sv m ∧ rb i ≠ sb m) ∧ ∀ k, k < 35 → rv i ≠ b k ∧ rb i ≠ b k
def RoC (z : Z) (b : Nat → Nat) (sh va : Nat) (h : Sh) (rv rb : Int → Nat) : Prop := (zO z sh 3 = some va ∧ zK z va = 22 ∧ h.1.1 * h.1.2 ≤ zN z va ∧ (va = b 8 ∨ ∀ k, k < 35 → va ≠ b k)) ∧ ∀ i, FoI h i → zO z va i = some (rv i) ∧ VlB z (rv i) (rb i)
/-- writes at own cells and at the room's Values of D -/
def RW (b : Nat → Nat) (L : WR) (rv rb : Int → Nat) (h : Sh) (D : Int → Prop) (x : Nat) (i : Int) : Prop := WB b L x i ∨ ∃ j, D j ∧ FoI h j ∧ VW (rv j) (rb j) x i
section Rw
variable {z y : Z} {b sv sb : Nat → Nat} {J : Nat → Prop} {L : WR} {sh va : Nat} {h : Sh} {rv rb : Int → Nat} {D : Int → Prop}
theorem rw_b (c : CWz z b) (R : RmI b J sv sb h rv rb) {T : WR} (hd : wDis L T = true) {k : Nat} (hk : k < 35) {i : Int} (hr : wHas T k i) : ¬ RW b L rv rb h D (b k) i := by
  rintro (w | ⟨j, -, hj, w⟩)
  · exact wl_b c hd hk hr w
  · have q := (R.2.2 j hj).2.2 k hk
    rcases w with w | w
    · exact q.1 w.1.symm
    · exact q.2 w.symm
theorem rw_J (r : Frz z b J) (R : RmI b J sv sb h rv rb) {x : Nat} (hx : J x) (i : Int) : ¬ RW b L rv rb h D x i := by
  rintro (w | ⟨j, -, hj, w⟩)
  · exact wl_J r hx i w
  · have q := (R.2.2 j hj).1
    rcases w with w | w
    · rw [w.1] at hx; exact q.1 hx
    · rw [w] at hx; exact q.2 hx
theorem rw_k (c : CWz z b) (M : RoC z b sh va h rv rb) {x : Nat} (hx : ∀ k, k < 35 → x ≠ b k) (h9 : zK z x ≠ 9) (h14 : zK z x ≠ 14) (i : Int) : ¬ RW b L rv rb h D x i := by
  rintro (w | ⟨j, -, hj, w⟩)
  · obtain ⟨t, -, w2, w3, -⟩ := w
    exact hx t.1 w2 w3
  · exact VW_k (M.2 j hj).2 h9 h14 i w
theorem n7 (c : CWz z b) {x : Nat} (h7 : zK z x = 7) : ∀ k, k < 35 → x ≠ b k := fun k hk e => (ckz_k k hk).1 (by rw [← (c.1 k hk).1, ← e]; exact h7)
theorem rw_sv (K : WkC z b J sv sb) (R : RmI b J sv sb h rv rb) (M : RoC z b sh va h rv rb) {m : Nat} (hm : m < 60) (i : Int) : ¬ RW b L rv rb h D (sv m) i ∧ ¬ RW b L rv rb h D (sb m) i := by
  have B := (K.2.2.1.1 m hm).2
  refine ⟨?_, ?_⟩
  · rintro (w | ⟨j, -, hj, w⟩)
    · obtain ⟨t, -, w2, w3, -⟩ := w
      exact (K.2.2.2.2.1 m hm t.1 w2).1 w3
    · rcases w with w | w
      · exact ((R.2.2 j hj).2.1 m hm).1 w.1.symm
      · have q := (M.2 j hj).2.2.2.1
        rw [← w, B.1] at q; cases q
  · rintro (w | ⟨j, -, hj, w⟩)
    · obtain ⟨t, -, w2, w3, -⟩ := w
      exact (K.2.2.2.2.1 m hm t.1 w2).2 w3
    · rcases w with w | w
      · have q := (M.2 j hj).2.1
        rw [← w.1, B.2.2.1] at q; cases q
      · exact ((R.2.2 j hj).2.1 m hm).2 w.symm
theorem rw_v (R : RmI b J sv sb h rv rb) (M : RoC z b sh va h rv rb) {j : Int} (hj : FoI h j) (hD : ¬ D j) (i : Int) : ¬ RW b L rv rb h D (rv j) i ∧ ¬ RW b L rv rb h D (rb j) i := by
  have B := (M.2 j hj).2
  refine ⟨?_, ?_⟩
  · rintro (w | ⟨j', d, hj', w⟩)
    · obtain ⟨t, -, w2, w3, -⟩ := w
      exact ((R.2.2 j hj).2.2 t.1 w2).1 w3
    · rcases w with w | w
      · exact hD (by rw [R.1 j j' hj hj' w.1]; exact d)
      · have q := (M.2 j' hj').2.2.2.1
        rw [← w, B.1] at q; cases q
  · rintro (w | ⟨j', d, hj', w⟩)
    · obtain ⟨t, -, w2, w3, -⟩ := w
      exact ((R.2.2 j hj).2.2 t.1 w2).2 w3
    · rcases w with w | w
      · have q := (M.2 j' hj').2.1
        rw [← w.1, B.2.2.1] at q; cases q
      · exact hD (by rw [R.2.1 j j' hj hj' w]; exact d)
theorem rw_0 (R : RmI b J sv sb h rv rb) (M : RoC z b sh va h rv rb) {j : Int} (hj : FoI h j) : ¬ RW b L rv rb h D (rv j) 0 := by
  have B := (M.2 j hj).2
  rintro (w | ⟨j', d, hj', w⟩)
  · obtain ⟨t, -, w2, w3, -⟩ := w
    exact ((R.2.2 j hj).2.2 t.1 w2).1 w3
  · rcases w with w | w
    · omega
    · have q := (M.2 j' hj').2.2.2.1
      rw [← w, B.1] at q; cases q
theorem rw_va (c : CWz z b) (R : RmI b J sv sb h rv rb) (M : RoC z b sh va h rv rb) (h8 : wDis L [(8, none)] = true) (i : Int) : ¬ RW b L rv rb h D va i := by
  obtain ⟨⟨-, m2, -, m4⟩, -⟩ := id M
  rcases m4 with m4 | m4
  · rw [m4]; exact rw_b c R h8 (by decide) (wHas_a (by decide))
  · exact rw_k c M m4 (by rw [m2]; decide) (by rw [m2]; decide) i
theorem CWz_R (c : CWz z b) (R : RmI b J sv sb h rv rb) (h1 : wDis L crw = true) (f : FrZ (RW b L rv rb h D) z y) : CWz y b := by
  refine ⟨fun k hk => by rw [(f.1 (b k) (kbz c hk)).1, (f.1 (b k) (kbz c hk)).2]; exact c.1 k hk, c.2.1, fun t ht => ?_⟩
  rw [(f.2 (b t.1) t.2.1 (kbz c (crz_b t ht)) (rw_b c R h1 (crz_b t ht) (wHas_i (List.mem_map.mpr ⟨t, ht, rfl⟩)))).2.2]
  exact c.2.2 t ht
theorem WkC_R (K : WkC z b J sv sb) (R : RmI b J sv sb h rv rb) (M : RoC z b sh va h rv rb) (h1 : wDis L crw = true) (h2 : wDis L [(22, none), (23, none), (24, none)] = true) (f : FrZ (RW b L rv rb h D) z y) : WkC y b J sv sb := by
  refine ⟨CWz_R K.1 R h1 f, Frz_fr K.2.1 f, ⟨fun m hm => ?_, K.2.2.1.2⟩, K.2.2.2.1, K.2.2.2.2.1, WzN_fr K.2.1 f K.2.2.2.2.2.1, VlS_fr K.2.2.2.2.2.2 f (rw_b K.1 R h2 (by decide) (wHas_a (by decide))) (rw_b K.1 R h2 (by decide) (wHas_a (by decide))) (rw_b K.1 R h2 (by decide) (wHas_a (by decide))) (fun i => rw_b K.1 R h2 (by decide) (wHas_a (by decide)))⟩
  obtain ⟨o, B1, B2, B3, B4⟩ := K.2.2.1.1 m hm
  exact ⟨(f.2 (b 22) m (kbz K.1 (by decide)) (rw_b K.1 R h2 (by decide) (wHas_a (by decide)))).2.2.trans o, (f.1 _ (by rw [B1]; decide)).1.trans B1, (f.2 (sv m) 0 (by rw [B1]; decide) (rw_sv K R M hm 0).1).2.2.trans B2, (f.1 _ (by rw [B3]; decide)).1.trans B3, (f.1 _ (by rw [B3]; decide)).2.trans B4⟩
theorem RoC_R (c : CWz z b) (k7 : zK z sh = 7) (R : RmI b J sv sb h rv rb) (M : RoC z b sh va h rv rb) (h8 : wDis L [(8, none)] = true) (f : FrZ (RW b L rv rb h D) z y) : RoC y b sh va h rv rb := by
  obtain ⟨⟨m1, m2, m3, m4⟩, m5⟩ := id M
  have kv : zK z va ≠ 0 := by rw [m2]; decide
  refine ⟨⟨(f.2 sh 3 (by rw [k7]; decide) (rw_k c M (n7 c k7) (by rw [k7]; decide) (by rw [k7]; decide) 3)).2.2.trans m1, (f.1 va kv).1.trans m2, by rw [(f.1 va kv).2]; exact m3, m4⟩, fun i hi => ?_⟩
  obtain ⟨o, B1, B2, B3, B4⟩ := m5 i hi
  exact ⟨(f.2 va i kv (rw_va c R M h8 i)).2.2.trans o, (f.1 _ (by rw [B1]; decide)).1.trans B1, (f.2 _ 0 (by rw [B1]; decide) (rw_0 R M hi)).2.2.trans B2, (f.1 _ (by rw [B3]; decide)).1.trans B3, (f.1 _ (by rw [B3]; decide)).2.trans B4⟩
theorem VX_R (R : RmI b J sv sb h rv rb) (M : RoC z b sh va h rv rb) {j : Int} (hj : FoI h j) (hD : ¬ D j) (f : FrZ (RW b L rv rb h D) z y) {l : Lit} (X : VX z (rv j) (rb j) l) : VX y (rv j) (rb j) l := ⟨VlS_fr X.1 f (rw_v R M hj hD 0).1 (rw_v R M hj hD 1).1 (rw_v R M hj hD 2).1 (fun i => (rw_v R M hj hD i).2), by
  rw [(f.1 (rb j) (by rw [X.1.1.2.2.2]; decide)).2]; exact X.2⟩
theorem ShC_R (c : CWz z b) (r : Frz z b J) (R : RmI b J sv sb h rv rb) (M : RoC z b sh va h rv rb) (f : FrZ (RW b L rv rb h D) z y) {s : Nat} {g : Sh} (hs : ShC z J s g) : ShC y J s g := ShC_fr f (fun a i ha => rw_J r R ha i) (fun a i ha w => absurd w (rw_k c M (n7 c ha) (by rw [ha]; decide) (by rw [ha]; decide) i)) hs
/-- what is in a circle is told -/
def ciI (h : Sh) (i : Int) : Prop := FoI h i ∧ rch (LdI h) i i
theorem k9_s109 {P : Z → Prop} (c : CWz z b) (hb : ShB h) (k7 : zK z sh = 7) (h8 : zO z (b 4) 8 = some sh) (R : RmI b J sv sb h rv rb) (M : RoC z b sh va h rv rb) (O : OpF z b h) (B : ∀ k j, FoI h k → 0 ≤ j → j < 320 → (BtR (zG z (b 26)) k j ↔ rch (LdI h) k j)) (p : ∀ y, FrZ (RW b [(27, none)] rv rb h (ciI h)) z y → (∀ i, 0 ≤ i → i < 320 → (OpC y b i ↔ (FoI h i ∧ ¬ ciI h i))) → (∀ i, ciI h i → VX y (rv i) (rb i) (erL 6)) → P y) : F_X9_settleCircles_109 (b 4) (h.1.1 * h.1.2) 0 z P := by
  have cb := cnt_b hb
  unfold F_X9_settleCircles_109
  refine lp_I (fun q => ∃ x w, q = (x, w) ∧ (0 ≤ x ∧ x ≤ h.1.1 * h.1.2) ∧ FrZ (RW b [(27, none)] rv rb h (ciI h)) z w ∧ (∀ i, 0 ≤ i → i < 320 → (OpC w b i ↔ (FoI h i ∧ ¬ (i < x ∧ ciI h i)))) ∧ ∀ i, ciI h i → i < x → VX w (rv i) (rb i) (erL 6)) (fun q => (h.1.1 * h.1.2 - q.1).toNat) ?_ (0, z) ⟨0, z, rfl, ⟨by omega, by omega⟩, FrZ_rf, fun i i0 i1 => (O i i0 i1).trans ⟨fun w => ⟨w, fun w2 => by omega⟩, fun w => w.1⟩, fun i hi i1 => by have := hi.1.1.1; omega⟩
  rintro G _ ⟨x, w, rfl, ⟨x0, x1⟩, f, Ow, H⟩ ih
  have cw := CWz_R c R (by decide) f
  have Mw := RoC_R c k7 R M (by decide) f
  have k7w : zK w sh = 7 := (f.1 sh (by rw [k7]; decide)).1.trans k7
  have h8w : zO w (b 4) 8 = some sh := (f.2 (b 4) 8 (kbz c (by decide)) (rw_b c R (T := [(4, none)]) (by decide) (by decide) (wHas_a (by decide)))).2.2.trans h8
  have e26 : zG w (b 26) = zG z (b 26) := funext (fun i => (f.2 (b 26) i (kbz c (by decide)) (rw_b c R (T := [(26, none)]) (by decide) (by decide) (wHas_a (by decide)))).2.1)
  show L_X9_settleCircles_109 (b 4) (h.1.1 * h.1.2) x w _
  unfold L_X9_settleCircles_109
  by_cases cx : h.1.1 * h.1.2 ≤ x
  · rw [if_pos cx]
    show P w
    refine p w f (fun i i0 i1 => (Ow i i0 i1).trans ?_) (fun i hi => H i hi (by have := hi.1.1.2; omega))
    constructor
    · rintro ⟨a, d⟩; exact ⟨a, fun e => d ⟨by have := a.1.2; omega, e⟩⟩
    · rintro ⟨a, d⟩; exact ⟨a, fun e => d e.2⟩
  rw [if_neg cx]
  have skip : ¬ ciI h x → F_X9_settleCircles_152 (b 4) (h.1.1 * h.1.2) x w (fun o => match o with
      | .inl s' => G s'
      | .inr e => P e) := fun hn => by
    unfold F_X9_settleCircles_152
    rw [w32e (x := x + 1) (by omega) (by omega)]
    refine ih (x + 1, w) ⟨x + 1, w, rfl, ⟨by omega, by omega⟩, f, fun i i0 i1 => (Ow i i0 i1).trans ?_, fun i hi i1 => ?_⟩ (by show (_ - (x + 1)).toNat < (_ - x).toNat; omega)
    · constructor
      · rintro ⟨a, d⟩
        refine ⟨a, fun e => ?_⟩
        by_cases ck : i = x
        · rw [ck] at e; exact hn e.2
        · exact d ⟨by omega, e.2⟩
      · rintro ⟨a, d⟩; exact ⟨a, fun e => d ⟨by omega, e.2⟩⟩
    · by_cases ck : i = x
      · rw [ck] at hi; exact absurd hi hn
      · exact H i hi (by omega)
  refine ⟨cK cw 4 rfl rfl, k9_isOpen cw x0 (by omega) (fun ho => ?_) (fun ho => ?_)⟩
  · rw [if_neg (by decide)]
    have fx := ((Ow x x0 (by omega)).mp ho).1
    refine k9_reaches cw x0 (by omega) x0 (by omega) (fun hr => ?_) (fun hr => ?_)
    · rw [if_neg (by decide)]
      rw [e26] at hr
      have cx2 : ciI h x := ⟨fx, (B x x fx x0 (by omega)).mp hr⟩
      obtain ⟨⟨m1, m2, m3, m4⟩, m5⟩ := id Mw
      obtain ⟨o, Bx⟩ := m5 x fx
      refine ⟨sh, h8w, k7w, va, m1, m2, x0, by omega, rv x, o, Bx.1, k_set Bx (by decide) (fun v g1 g2 g3 => ?_)⟩
      have fv : FrZ (RW b [(27, none)] rv rb h (ciI h)) w v := FrZ_mono g3 (fun _ _ _ a => Or.inr ⟨x, cx2, fx, a⟩)
      have cv := CWz_R cw R (by decide) fv
      have e27 : zG v (b 27) = zG w (b 27) := funext (fun i => (g3.2 (b 27) i (kbz cw (by decide)) (fun a => by
        have q := (R.2.2 x fx).2.2 27 (by decide)
        rcases a with a | a
        · exact q.1 a.1.symm
        · exact q.2 a.symm)).2.1)
      refine ⟨cK cv 4 rfl rfl, k9_close cv x0 (by omega) (fun u fu hu => ?_)⟩
      have fu' : FrZ (RW b [(27, none)] rv rb h (ciI h)) v u := FrZ_mono fu (fun _ _ _ a => Or.inl a)
      unfold F_X9_settleCircles_152
      rw [w32e (x := x + 1) (by omega) (by omega)]
      refine ih (x + 1, u) ⟨x + 1, u, rfl, ⟨by omega, by omega⟩, FrZ_tr f (FrZ_tr fv fu'), fun i i0 i1 => ?_, fun i hi i1 => ?_⟩ (by show (_ - (x + 1)).toNat < (_ - x).toNat; omega)
      · rw [hu i i0 i1]
        have : OpC v b i ↔ OpC w b i := by unfold OpC; rw [e27]
        rw [this, Ow i i0 i1]
        constructor
        · rintro ⟨⟨a, d⟩, e⟩; exact ⟨a, fun q => d ⟨by omega, q.2⟩⟩
        · rintro ⟨a, d⟩
          exact ⟨⟨a, fun q => d ⟨by omega, q.2⟩⟩, fun q => d ⟨by omega, by rw [q]; exact cx2⟩⟩
      · have nb : ∀ {a : Nat}, (∀ k, k < 35 → a ≠ b k) → ∀ q, ¬ WB b [(27, none)] a q := fun ha q ⟨t, _, w2, w3, _⟩ => ha t.1 w2 w3
        have keep : ∀ {l : Lit}, VX v (rv i) (rb i) l → VX u (rv i) (rb i) l := fun X => by
          have q := (R.2.2 i hi.1).2.2
          exact ⟨VlS_fr X.1 fu (nb (fun k hk => (q k hk).1) _) (nb (fun k hk => (q k hk).1) _) (nb (fun k hk => (q k hk).1) _) (fun e => nb (fun k hk => (q k hk).2) e), by rw [(fu.1 (rb i) (by rw [X.1.1.2.2.2]; decide)).2]; exact X.2⟩
        by_cases ck : i = x
        · rw [ck] at keep ⊢; exact keep (VX_of Bx g3 g1)
        · refine keep (VX_f2 Bx (fun q => ck (R.1 _ _ fx hi.1 q).symm) (fun q => ck (R.2.1 _ _ fx hi.1 q).symm) g3 (H i hi (by omega)))
    · rw [if_pos rfl]
      refine skip (fun d => hr ?_)
      rw [e26]; exact (B x x fx x0 (by omega)).mpr d.2
  · rw [if_pos rfl]
    exact skip (fun d => ho ((Ow x x0 (by omega)).mpr ⟨d.1, fun q => by omega⟩))
theorem k9_settle {P : Z → Prop} (c : CWz z b) (hb : ShB h) (k7 : zK z sh = 7) (h8 : zO z (b 4) 8 = some sh) (R : RmI b J sv sb h rv rb) (M : RoC z b sh va h rv rb) (O : OpF z b h) (B : LbC h (zG z (b 25))) (p : ∀ y, FrZ (RW b [(26, none), (27, none)] rv rb h (ciI h)) z y → (∀ i, 0 ≤ i → i < 320 → (OpC y b i ↔ (FoI h i ∧ ¬ ciI h i))) → (∀ i, ciI h i → VX y (rv i) (rb i) (erL 6)) → P y) : F_X9_settleCircles (b 4) (h.1.1 * h.1.2) z P := by
  have cb := cnt_b hb
  have n25 : zN z (b 25) = 1600 := cN c 25 rfl rfl
  have n26 : zN z (b 26) = 1600 := cN c 26 rfl rfl
  unfold F_X9_settleCircles
  rw [w32e (x := h.1.1 * h.1.2 * 5) (by omega) (by omega)]
  refine ⟨cK c 4 rfl rfl, b 25, cO c 4 3 25 (by decide), cK c 25 rfl rfl, b 26, cO c 4 4 26 (by decide), cK c 26 rfl rfl, by omega, by omega, by omega, by omega, by omega, fun z1 e1 => ?_⟩
  have f1 : FrZ (WB b [(26, none)]) z z1 := by
    rw [e1]
    refine ⟨fun x _ => ⟨rfl, rfl⟩, fun x i _ hw => ⟨rfl, ?_, rfl⟩⟩
    rw [zG_cpG2, if_neg (fun w => hw (by rw [w.1]; exact WB_a (by decide) (by decide)))]
  have c1 : CWz z1 b := CWz_fr c (WB_L f1) (by decide)
  have O1 : OpF z1 b h := fun i i0 i1 => by unfold OpC; rw [Op_26 c (by decide) f1]; exact O i i0 i1
  refine k9_s18 c1 hb O1 (WsH_0 (fun k j r => Ld_D hb r) (fun k j hk j0 j1 => ?_)) (fun y fy By => ?_)
  · rw [← B k j hk j0 j1]
    unfold BtR
    have k1 := hk.1.1
    have k2 := hk.1.2
    rw [e1, zG_cpG2, if_pos ⟨rfl, by omega, by omega⟩, show 0 + (5 * k + j / 64 - 0) = 5 * k + j / 64 by omega]
  · have f0y : FrZ (WB b [(26, none)]) z y := FrZ_tr f1 fy
    have cy : CWz y b := CWz_fr c (WB_L f0y) (by decide)
    have fR : FrZ (RW b [(26, none), (27, none)] rv rb h (ciI h)) z y := FrZ_mono f0y (fun _ _ _ a => Or.inl (WB_up (by decide) a))
    refine k9_s109 cy hb ((f0y.1 sh (by rw [k7]; decide)).1.trans k7) ((f0y.2 (b 4) 8 (kbz c (by decide)) (wl_b c (R := [(4, none)]) (by decide) (by decide) (wHas_a (by decide)))).2.2.trans h8) R (RoC_R c k7 R M (by decide) fR) (fun i i0 i1 => by unfold OpC; rw [Op_26 c (by decide) f0y]; exact O i i0 i1) By (fun v fv Ov Hv => p v (FrZ_tr fR (FrZ_mono fv (fun _ _ _ a => a.elim (fun a => Or.inl (WB_up (by decide) a)) Or.inr))) Ov Hv)
end Rw
