/-! ===== the system writes ===== -/
def WB (b : Nat → Nat) (L : WR) (a : Nat) (i : Int) : Prop := ∃ t ∈ L, t.1 < 35 ∧ a = b t.1 ∧ (t.2 = none ∨ t.2 = some i)
theorem WB_a {b : Nat → Nat} {L : WR} {k : Nat} {i : Int} (h : (k, (none : Option Int)) ∈ L) (hk : k < 35) : WB b L (b k) i := ⟨_, h, hk, rfl, Or.inl rfl⟩
theorem WB_i {b : Nat → Nat} {L : WR} {k : Nat} {i : Int} (h : (k, some i) ∈ L) (hk : k < 35) : WB b L (b k) i := ⟨_, h, hk, rfl, Or.inr rfl⟩
theorem WB_L {z y : Z} {b : Nat → Nat} {L : WR} (f : FrZ (WB b L) z y) : FrZ (WL z b L no1 no1) z y := FrZ_mono f (fun _ _ _ w => Or.inl w)
theorem WB_s {z y : Z} {b : Nat → Nat} {L R : WR} (h : ∀ t ∈ L, t ∈ R) (f : FrZ (WB b L) z y) : FrZ (WB b R) z y := FrZ_mono f (fun _ _ _ ⟨t, t1, t2⟩ => ⟨t, h t t1, t2⟩)
theorem bB {z y : Z} {b : Nat → Nat} {L : WR} (c : CWz z b) (f : FrZ (WB b L) z y) {R : WR} (hd : wDis L R = true) {k : Nat} (hk : k < 35) {i : Int} (hr : wHas R k i) : zI y (b k) i = zI z (b k) i ∧ zG y (b k) i = zG z (b k) i ∧ zO y (b k) i = zO z (b k) i := bI c (WB_L f) hd hk hr
def wPu : WR := [(2, some 3), (14, none)]
def wWc : WR := [(2, some 3), (14, none), (16, some 1), (16, some 2), (16, some 3), (17, none)]
theorem CWz_B {z y : Z} {b : Nat → Nat} (c : CWz z b) (f : FrZ (WB b wWc) z y) : CWz y b := CWz_fr c (WB_L f) (by decide)
theorem pu_W {z y : Z} {b : Nat → Nat} (f : FrZ (WB b wPu) z y) : FrZ (WB b wWc) z y := WB_s (by decide) f
theorem CWz_P {z y : Z} {b : Nat → Nat} (c : CWz z b) (f : FrZ (WB b wPu) z y) : CWz y b := CWz_B c (pu_W f)
def OutC (z : Z) (b : Nat → Nat) (L : List Int) : Prop := zI z (b 2) 3 = (L.length : Int) ∧ ∀ i : Nat, i < L.length → zI z (b 14) i = L.getD i 0
theorem o_put {z : Z} {b : Nat → Nat} {L : List Int} {x : Int} {P : Z → Prop} (c : CWz z b) (o : OutC z b L) (hl : L.length + 1 ≤ 2000) (x0 : -128 ≤ x) (x1 : x ≤ 127) (h : ∀ y, OutC y b (L ++ [x]) → FrZ (WB b wPu) z y → P y) : F_X10_put (b 2) x z P := by
  obtain ⟨o1, o2⟩ := o
  have ne : b 14 ≠ b 2 := cNe c rfl rfl rfl
  unfold F_X10_put F_X10_put_31
  refine ⟨cK c 2 rfl rfl, ?_⟩
  rw [o1, if_neg (by omega)]
  refine ⟨b 14, cO c 2 0 14 (by decide), cK c 14 rfl rfl, by omega, by rw [cN c 14 (c := 2400) rfl rfl]; omega, fun z2 e2 => ?_⟩
  subst e2
  intro z3 e3
  subst e3
  rw [zI_wI, if_neg (fun w => ne w.1.symm), o1, w32e (by omega) (by omega), w8e x0 x1]
  refine h _ ⟨?_, fun i hi => ?_⟩ (FrZ_wI (FrZ_wI FrZ_rf (Or.inl (WB_a (by decide) (by decide)))) (Or.inl (WB_i (by decide) (by decide))))
  · rw [zI_wI, if_pos ⟨rfl, rfl⟩, List.length_append, List.length_singleton]; omega
  · rw [List.length_append, List.length_singleton] at hi
    rw [zI_wI, if_neg (fun w => ne w.1)]
    by_cases ci : i < L.length
    · rw [zI_wI, if_neg (by omega), gA_l ci]; exact o2 i ci
    · rw [zI_wI, if_pos ⟨rfl, by omega⟩, gA_r (by omega), show i - L.length = 0 by omega]; rfl
/-- a word without its spaces -/
theorem o_word {z : Z} {b : Nat → Nat} {L : List Int} {s fr w : Nat} {P : Z → Prop} (c : CWz z b) (o : OutC z b L) (hs : s < 44) (hf : fr + w ≤ (sL s).length) (hl : L.length + (wdL s fr w).length ≤ 2000) (h : ∀ y, OutC y b (L ++ wdL s fr w) → FrZ (WB b wPu) z y → P y) : F_X10_putWord (b 2) s (fr : Int) (w : Int) z P := by
  have sl := sL_len s
  have s144 := (sL_all s hs).2
  unfold F_X10_putWord F_X10_putWord_3 F_X10_putWord_47
  have mono : ∀ k : Nat, (wdL s fr k).length ≤ (wdL s fr (k + 1)).length := by
    intro k
    unfold wdL
    rw [List.take_add_one, List.filter_append, List.length_append]; omega
  have mono2 : ∀ d k : Nat, (wdL s fr k).length ≤ (wdL s fr (k + d)).length := by
    intro d
    induction d with
    | zero => intro k; exact Nat.le_refl _
    | succ d ih => intro k; have := ih k; have := mono (k + d); rw [← Nat.add_assoc]; omega
  refine lp_I (S := Int × Z) (fun q => ((fr : Int) ≤ q.1 ∧ q.1 ≤ (fr : Int) + w) ∧ FrZ (WB b wPu) z q.2 ∧ OutC q.2 b (L ++ wdL s fr (q.1 - (fr : Int)).toNat)) (fun q => ((fr : Int) + w - q.1).toNat) ?_ ((fr : Int), z) ⟨⟨by show (fr : Int) ≤ fr; omega, by show (fr : Int) ≤ fr + w; omega⟩, FrZ_rf, ?_⟩
  · rintro G ⟨k, y⟩ ⟨⟨k0, k1⟩, f, e⟩ ih
    simp only at k0 k1 f e
    unfold L_X10_putWord_3
    dsimp only
    rw [w32e (x := (fr : Int) + w) (by omega) (by omega)]
    by_cases d : (fr : Int) + w ≤ k
    · rw [if_pos d]
      rw [show (k - (fr : Int)).toNat = w by omega] at e
      exact h y e f
    · rw [if_neg d]
      have hk : k.toNat < (sL s).length := by omega
      have hc := sL_at s hk
      rw [Int.toNat_of_nonneg (by omega)] at hc
      have hm := (sL_all s hs).1 _ (gD0_mem hk)
      refine ⟨hs, ?_⟩
      rw [if_neg (by omega)]
      refine ⟨hs, by omega, by omega, ?_⟩
      rw [← hc]
      have ew : wdL s fr ((k - (fr : Int)).toNat + 1) = wdL s fr (k - (fr : Int)).toNat ++ (if (sL s).getD k.toNat 0 = 32 then [] else [(sL s).getD k.toNat 0]) := by
        unfold wdL
        rw [List.take_add_one, List.filter_append, List.getElem?_drop, show fr + (k - (fr : Int)).toNat = k.toNat by omega, List.getElem?_eq_getElem hk, List.getD_eq_getElem?_getD, List.getElem?_eq_getElem hk]
        show _ ++ List.filter _ [(sL s)[k.toNat]] = _ ++ (if (sL s)[k.toNat] = 32 then [] else [(sL s)[k.toNat]])
        by_cases e32 : (sL s)[k.toNat] = 32
        · rw [if_pos e32, List.filter_cons, if_neg (by simp [e32])]; rfl
        · rw [if_neg e32, List.filter_cons, if_pos (by simp [e32])]; rfl
      have m2 := mono2 (w - (k - (fr : Int)).toNat) (k - (fr : Int)).toNat
      rw [show (k - (fr : Int)).toNat + (w - (k - (fr : Int)).toNat) = w by omega] at m2
      have m3 := mono2 (w - ((k - (fr : Int)).toNat + 1)) ((k - (fr : Int)).toNat + 1)
      rw [show (k - (fr : Int)).toNat + 1 + (w - ((k - (fr : Int)).toNat + 1)) = w by omega] at m3
      have nxt : (k + 1 - (fr : Int)).toNat = (k - (fr : Int)).toNat + 1 := by omega
      by_cases e32 : (sL s).getD k.toNat 0 = 32
      · rw [if_pos e32]
        unfold F_X10_putWord_41
        rw [w32e (x := k + 1) (by omega) (by omega)]
        refine ih _ ⟨⟨by show (fr : Int) ≤ k + 1; omega, by show k + 1 ≤ _; omega⟩, f, ?_⟩ (by show ((fr : Int) + w - (k + 1)).toNat < ((fr : Int) + w - k).toNat; omega)
        show OutC y b (L ++ wdL s fr (k + 1 - (fr : Int)).toNat)
        rw [nxt, ew, if_pos e32, List.append_nil]; exact e
      · rw [if_neg e32]
        rw [if_neg e32] at ew
        have ewl := congrArg List.length ew
        rw [List.length_append, List.length_singleton] at ewl
        have cy := CWz_P c f
        refine ⟨hs, by omega, by omega, cK cy 2 rfl rfl, ?_⟩
        unfold F_X10_putWord_41
        refine o_put cy e (by rw [List.length_append]; omega) (by omega) (by omega) (fun v g1 g2 => ?_)
        rw [w32e (x := k + 1) (by omega) (by omega)]
        refine ih _ ⟨⟨by show (fr : Int) ≤ k + 1; omega, by show k + 1 ≤ _; omega⟩, FrZ_tr f g2, ?_⟩ (by show ((fr : Int) + w - (k + 1)).toNat < ((fr : Int) + w - k).toNat; omega)
        show OutC v b (L ++ wdL s fr (k + 1 - (fr : Int)).toNat)
        rw [nxt, ew, ← List.append_assoc]; exact g1
  · show OutC z b (L ++ wdL s fr ((fr : Int) - fr).toNat)
    rw [show ((fr : Int) - fr).toNat = 0 by omega]
    unfold wdL
    rw [List.take_zero, List.filter_nil, List.append_nil]; exact o
theorem sL_2 : wdL 2 0 4 = sL 2 ∧ (sL 2).length = 4 ∧ (sL 3).length = 24 ∧ (sL 4).length = 144 := by decide +kernel
theorem o_ref {z : Z} {b : Nat → Nat} {L : List Int} {P : Z → Prop} (c : CWz z b) (o : OutC z b L) (hl : L.length + (sL 2).length ≤ 2000) (h : ∀ y, OutC y b (L ++ sL 2) → FrZ (WB b wPu) z y → P y) : F_X10_putReference (b 2) z P := by
  unfold F_X10_putReference
  refine ⟨cK c 2 rfl rfl, o_word (fr := 0) (w := 4) c o (by decide) (by rw [sL_2.2.1]; decide) (by rw [sL_2.1]; exact hl) (fun y g1 g2 => h y (by rw [← sL_2.1]; exact g1) g2)⟩
theorem VW_c {z y : Z} {b : Nat → Nat} (f : FrZ (VW (b 16) (b 17)) z y) : FrZ (WB b wWc) z y := FrZ_mono f (fun a i _ w => by
  rcases w with ⟨rfl, rfl | rfl | rfl⟩ | rfl
  · exact WB_i (by decide) (by decide)
  · exact WB_i (by decide) (by decide)
  · exact WB_i (by decide) (by decide)
  · exact WB_a (by decide) (by decide))
theorem OutC_v {z y : Z} {b : Nat → Nat} {L : List Int} (c : CWz z b) (f : FrZ (VW (b 16) (b 17)) z y) (o : OutC z b L) : OutC y b L := by
  have n1 : b 2 ≠ b 16 := cNe c rfl rfl rfl
  have n2 : b 2 ≠ b 17 := cNe c rfl rfl rfl
  have n3 : b 14 ≠ b 16 := cNe c rfl rfl rfl
  have n4 : b 14 ≠ b 17 := cNe c rfl rfl rfl
  refine ⟨(f.2 (b 2) 3 (by rw [cK c 2 (c := 11) rfl rfl]; decide) ?_).1.trans o.1, fun i hi => (f.2 (b 14) i (by rw [cK c 14 (c := 14) rfl rfl]; decide) ?_).1.trans (o.2 i hi)⟩
  · rintro (⟨w, -⟩ | w)
    · exact n1 w
    · exact n2 w
  · rintro (⟨w, -⟩ | w)
    · exact n3 w
    · exact n4 w
theorem o_value {z : Z} {b : Nat → Nat} {I : Nat → Prop} {L : List Int} {v : Nat} {l : Lit} {P : Z → Prop} (c : CWz z b) (rf : Frz z b I) (hw : WzI z I) (o : OutC z b L) (hv : LitC z I v l) (wl : WfL l) (hl : L.length + (txtL l).2.2.length ≤ 2000) (h : ∀ y, OutC y b (L ++ (txtL l).2.2) → FrZ (WB b wWc) z y → P y) : F_X10_putValue (b 2) (some v) z P := by
  have B : VlB z (b 16) (b 17) := ⟨cK c 16 rfl rfl, cO c 16 0 17 (by decide), cK c 17 rfl rfl, cN c 17 rfl rfl⟩
  obtain ⟨iv, vb, ivb, V⟩ := LitC_V hv
  obtain ⟨w1, w2, w3, w4, w5, w6, w7⟩ := id wl
  have tl := txt_len wl
  unfold F_X10_putValue F_X10_putValue_17 F_X10_putValue_55
  refine ⟨cK c 2 rfl rfl, b 16, cO c 2 2 16 (by decide), B.1, k_take B V (fun _ => ⟨w6, by have := (hw vb ivb).1.2; omega⟩) (fun y1 V1 _ f1 => ?_)⟩
  have c1 := CWz_B c (VW_c f1)
  refine ⟨cK c1 2 rfl rfl, b 16, cO c1 2 2 16 (by decide), cK c1 16 rfl rfl, ?_⟩
  refine k_text V1 (cN c1 17 rfl rfl) (fun e => by have := w2 e; omega) (fun y2 V2 _ f2 => ?_)
  have f12 := FrZ_tr f1 f2
  have c2 := CWz_B c (VW_c f12)
  have o2 := OutC_v c f12 o
  have k2 : (txtL l).1 = 2 := by
    unfold txtL
    split
    · rfl
    · split
      · rfl
      · split
        · rfl
        · omega
  have tm : ∀ x ∈ (txtL l).2.2, -128 ≤ x ∧ x ≤ 127 := by
    intro x hx
    unfold txtL at hx
    split at hx
    · have := dec_mem _ x hx; omega
    · split at hx
      · have hx : x ∈ (if l.2.1 = 0 then sL 1 else sL 0) := hx
        split at hx
        · have := (sL_all 1 (by decide)).1 x hx; omega
        · have := (sL_all 0 (by decide)).1 x hx; omega
      · split at hx
        · cases hx
        · exact w7 x hx
  obtain ⟨⟨a1, a2, a3, a4⟩, a5⟩ := id V2
  unfold VlT at a5
  rw [if_pos k2] at a5
  generalize (txtL l).2.2 = D at *
  refine lp_I (fun q => (0 ≤ q.1 ∧ q.1 ≤ (D.length : Int)) ∧ FrZ (WB b wPu) y2 q.2 ∧ OutC q.2 b (L ++ D.take q.1.toNat)) (fun q => ((D.length : Int) - q.1).toNat) ?_ (0, y2) ⟨⟨by show (0 : Int) ≤ 0; omega, by show (0 : Int) ≤ D.length; omega⟩, FrZ_rf, by show OutC y2 b (L ++ D.take 0); rw [List.take_zero, List.append_nil]; exact o2⟩
  rintro G ⟨k, y⟩ ⟨⟨k0, k1⟩, f, e⟩ ih
  simp only at k0 k1 f e
  have cy := CWz_P c2 f
  unfold L_X10_putValue_17
  dsimp only
  refine ⟨cK cy 2 rfl rfl, b 16, cO cy 2 2 16 (by decide), cK cy 16 rfl rfl, ?_⟩
  rw [(bB c2 f (R := [(16, none)]) (by decide) (k := 16) (by decide) (i := 2) (wHas_a (by decide))).2.1, a5.1]
  by_cases d : (D.length : Int) ≤ k
  · rw [if_pos d]
    rw [List.take_of_length_le (by omega)] at e
    exact h y e (FrZ_tr (VW_c f12) (pu_W f))
  · rw [if_neg d, if_neg (by omega)]
    have hk : k.toNat < D.length := by omega
    have a6 := a5.2.2.2 k.toNat hk
    rw [Int.toNat_of_nonneg k0] at a6
    have hm := tm _ (gD0_mem hk)
    refine ⟨b 17, cO cy 16 0 17 (by decide), cK cy 17 rfl rfl, k0, by rw [cN cy 17 (c := 24) rfl rfl]; omega, ?_⟩
    rw [(bB c2 f (R := [(17, none)]) (by decide) (k := 17) (by decide) (i := k) (wHas_a (by decide))).1, a6]
    refine o_put cy e (by rw [List.length_append, List.length_take]; omega) (by omega) (by omega) (fun v g1 g2 => ?_)
    rw [w32e (by omega) (by omega)]
    refine ih _ ⟨⟨by show 0 ≤ k + 1; omega, by show k + 1 ≤ _; omega⟩, FrZ_tr f g2, ?_⟩ (by show ((D.length : Int) - (k + 1)).toNat < ((D.length : Int) - k).toNat; omega)
    show OutC v b (L ++ D.take (k + 1).toNat)
    rw [show (k + 1).toNat = k.toNat + 1 by omega, List.take_add_one, List.getElem?_eq_getElem hk, ← List.append_assoc]
    rw [List.getD_eq_getElem?_getD, List.getElem?_eq_getElem hk] at g1
    exact g1
