/-! ===== the system writes parts ===== -/
theorem o_binds {x : Int} {P : Int → Prop} (h : P (bnd x)) : F_X11_bindsOf x P := by
  unfold bnd at h
  unfold F_X11_bindsOf F_X11_bindsOf_46 F_X11_bindsOf_25
  by_cases c6 : x ≤ 6
  · rw [if_neg (by omega)]; rw [if_pos c6] at h; exact h
  · rw [if_pos (by omega)]; rw [if_neg c6] at h
    by_cases c9 : x ≤ 9
    · rw [if_neg (by omega)]
      by_cases c7 : x = 7
      · rw [if_pos c7]; rw [if_pos c7] at h; exact h
      · rw [if_neg c7]; rw [if_neg c7, if_pos c9] at h; exact h
    · rw [if_pos (by omega)]; rw [if_neg (by omega), if_neg c9] at h
      by_cases c12 : x ≤ 12
      · rw [if_neg (by omega)]; rw [if_pos c12] at h; exact h
      · rw [if_pos (by omega)]; rw [if_neg c12] at h
        by_cases c13 : x = 13
        · rw [if_pos c13]; rw [if_pos c13] at h; exact h
        · rw [if_neg c13]; rw [if_neg c13] at h; exact h
theorem RC_wB {z y : Z} {b : Nat → Nat} {I : Nat → Prop} {S : SS} (R : RC z b I S) (f0 : FrZ (WB b wWc) z y) : RC y b I S := by
  have f := WB_L f0
  obtain ⟨c, r, ht, hl, hb, hk, hq⟩ := R
  exact ⟨CWz_fr c f (by decide), Frz_fr r f, RCt_fr c f (by decide) ht, RCl_fr c r f (by decide) hl, RCb_fr c f (by decide) hb, RCk_fr c r f (by decide) hk, RCq_fr c r f (by decide) hq⟩
def PtC (z : Z) (I : Nat → Prop) (pa : Nat) (ps : List Prt) : Prop := (I pa ∧ zK z pa = 20 ∧ zN z pa = (ps.length : Int)) ∧ ∀ i : Nat, i < ps.length → ∃ q, zO z pa i = some q ∧ PrtC z I q (ps.getD i pd0)
theorem PtC_at {z : Z} {I : Nat → Prop} {pa : Nat} {ps : List Prt} (h : PtC z I pa ps) {i : Int} (h0 : 0 ≤ i) (h1 : i < ps.length) : ∃ q, zO z pa i = some q ∧ PrtC z I q (ps.getD i.toNat pd0) := by
  have := h.2 i.toNat (by omega)
  rw [Int.toNat_of_nonneg h0] at this; exact this
theorem PtC_fr {W : Nat → Int → Prop} {z y : Z} {I : Nat → Prop} {pa : Nat} {ps : List Prt} (f : FrZ W z y) (w : ∀ a i, I a → ¬ W a i) (h : PtC z I pa ps) : PtC y I pa ps := by
  obtain ⟨⟨h1, h2, h3⟩, h4⟩ := h
  have kp : zK z pa ≠ 0 := by rw [h2]; decide
  refine ⟨⟨h1, (f.1 pa kp).1.trans h2, (f.1 pa kp).2.trans h3⟩, fun i hi => ?_⟩
  obtain ⟨q, g1, g2⟩ := h4 i hi
  exact ⟨q, (f.2 pa i kp (w pa i h1)).2.2.trans g1, PrtC_fr f w g2⟩
/-- what the Writer knows while it writes a formula -/
def FmC (z : Z) (b : Nat → Nat) (I : Nat → Prop) (S : SS) (v : Int) (ps : List Prt) (pa : Nat) : Prop := (RC z b I S ∧ WzI z I) ∧ (zO z (b 2) 4 = some pa ∧ PtC z I pa ps) ∧ (∃ sa, zO z (b 2) 5 = some sa ∧ ShC z I sa (shOf v S)) ∧ zO z (b 2) 6 = some (b 3) ∧ ∀ i : Nat, i < ps.length → zI z (b 15) i = (i : Int) + 1 - (spnL ps).getD i 0
theorem FmC_fr {z y : Z} {b : Nat → Nat} {I : Nat → Prop} {S : SS} {v : Int} {ps : List Prt} {pa : Nat} (f : FrZ (WB b wWc) z y) (h : FmC z b I S v ps pa) : FmC y b I S v ps pa := by
  obtain ⟨⟨R, hw⟩, ⟨h1, h2⟩, ⟨sa, h3, h4⟩, h5, h6⟩ := h
  obtain ⟨c, rf, -⟩ := id R
  refine ⟨⟨RC_wB R f, WzI_fr rf (WB_L f) (WL_I rf) hw⟩, ⟨(bB c f (R := [(2, some 4)]) (by decide) (k := 2) (by decide) (i := 4) (wHas_i (by decide))).2.2.trans h1, PtC_fr (WB_L f) (WL_I rf) h2⟩, ⟨sa, (bB c f (R := [(2, some 5)]) (by decide) (k := 2) (by decide) (i := 5) (wHas_i (by decide))).2.2.trans h3, ShC_fr (WB_L f) (WL_I rf) (WL_7 c) h4⟩, (bB c f (R := [(2, some 6)]) (by decide) (k := 2) (by decide) (i := 6) (wHas_i (by decide))).2.2.trans h5, fun i hi => (bB c f (R := [(15, none)]) (by decide) (k := 15) (by decide) (i := i) (wHas_a (by decide))).1.trans (h6 i hi)⟩
theorem FmC_c {z : Z} {b : Nat → Nat} {I : Nat → Prop} {S : SS} {v : Int} {ps : List Prt} {pa : Nat} (h : FmC z b I S v ps pa) : CWz z b := h.1.1.1
/-- a recursive write: at every heap behind z -/
def Rcc (z : Z) (b : Nat → Nat) (n : Nat) (j dp : Int) (g : List Int) : Prop := ∀ (w : Z) (M : List Int) (Q : Z → Prop), OutC w b M → FrZ (WB b wWc) z w → M.length + g.length ≤ 2000 → (∀ x, OutC x b (M ++ g) → FrZ (WB b wWc) w x → Q x) → F_X10_part n (b 2) j dp w Q
theorem o_side {z : Z} {b : Nat → Nat} {I : Nat → Prop} {S : SS} {v : Int} {ps : List Prt} {pa : Nat} {L : List Int} {G : Int → List Int} {n : Nat} {j t dp : Int} {P : Z → Prop} (F : FmC z b I S v ps pa) (o : OutC z b L) (j0 : 0 ≤ j) (j1 : j < ps.length) (hd : 0 ≤ dp ∧ dp ≤ 100) (hl : L.length + (sdW G ps j t).length ≤ 2000) (rcc : Rcc z b n j (dp + 1) (G j)) (h : ∀ y, OutC y b (L ++ sdW G ps j t) → FrZ (WB b wWc) z y → P y) : F_X10_under (n + 1) (b 2) j t dp z P := by
  have c := FmC_c F
  obtain ⟨-, ⟨h1, h2⟩, -⟩ := id F
  obtain ⟨q, g1, g2⟩ := PtC_at h2 j0 j1
  show B_X10_under (F_X10_args n) (F_X10_part n) (F_X10_under n) (b 2) j t dp z P
  unfold B_X10_under F_X10_under_33
  rw [if_neg (by omega)]
  refine ⟨cK c 2 rfl rfl, pa, h1, h2.1.2.1, ?_⟩
  rw [h2.1.2.2, if_neg (by omega)]
  refine ⟨j0, j1, q, g1, g2.2.1, o_binds ?_⟩
  rw [g2.2.2.1]
  unfold sdW opA at hl h
  unfold F_X10_under_34 F_X10_under_47 F_X10_under_66
  rw [w32e (x := dp + 1) (by omega) (by omega)]
  by_cases d : bnd (ps.getD j.toNat pd0).1 < t
  · rw [if_neg (by omega), if_neg (by decide)]
    rw [if_pos d] at hl h
    rw [List.length_append, List.length_append, List.length_singleton, List.length_singleton] at hl
    refine ⟨cK c 2 rfl rfl, o_put c o (by omega) (by decide) (by decide) (fun w o1 f1 => ?_)⟩
    have c1 := CWz_P c f1
    refine ⟨cK c1 2 rfl rfl, rcc w _ _ o1 (pu_W f1) (by rw [List.length_append, List.length_singleton]; omega) (fun x o2 f2 => ?_)⟩
    have f12 := FrZ_tr (pu_W f1) f2
    have c2 := CWz_B c f12
    rw [if_neg (by decide)]
    refine ⟨cK c2 2 rfl rfl, o_put c2 o2 (by rw [List.length_append, List.length_append, List.length_singleton]; omega) (by decide) (by decide) (fun y o3 f3 => h y ?_ (FrZ_tr f12 (pu_W f3)))⟩
    rw [← List.append_assoc, ← List.append_assoc]; exact o3
  · rw [if_pos (by omega), if_pos rfl]
    rw [if_neg d] at hl h
    refine ⟨cK c 2 rfl rfl, rcc z _ _ o FrZ_rf hl (fun x o2 f2 => ?_)⟩
    rw [if_pos rfl]
    exact h x o2 f2
theorem o_args {z : Z} {b : Nat → Nat} {I : Nat → Prop} {S : SS} {v : Int} {ps : List Prt} {pa : Nat} {L : List Int} {G : Int → List Int} {n na : Nat} {i dp : Int} {P : Z → Prop} (F : FmC z b I S v ps pa) (o : OutC z b L) (i0 : 0 ≤ i) (i1 : i < ps.length) (l60 : ps.length ≤ 60) (hna : (ps.getD i.toNat pd0).2.1 = (na : Int)) (n8 : na ≤ 8) (wb : ∀ m, m < na → 0 ≤ wlk (spnL ps) m (i - 1) ∧ wlk (spnL ps) m (i - 1) ≤ i - 1) (hd : 0 ≤ dp ∧ dp ≤ 100) (hl : L.length + (argW G (spnL ps) na (i - 1) na).length ≤ 2000) (rcc : ∀ j, 0 ≤ j → j ≤ i - 1 → Rcc z b n j (dp + 1) (G j)) (h : ∀ y, OutC y b (L ++ argW G (spnL ps) na (i - 1) na) → FrZ (WB b wWc) z y → P y) : F_X10_args (n + 1) (b 2) i dp z P := by
  have c := FmC_c F
  obtain ⟨-, ⟨h1, h2⟩, -⟩ := id F
  obtain ⟨q, g1, g2⟩ := PtC_at h2 i0 i1
  rw [F_X10_args_s]
  unfold B_X10_args
  refine ⟨cK c 2 rfl rfl, pa, h1, h2.1.2.1, i0, by rw [h2.1.2.2]; exact i1, q, g1, g2.2.1, ?_⟩
  rw [g2.2.2.2.1, hna]
  have mono : ∀ k : Nat, k ≤ na → (argW G (spnL ps) na (i - 1) k).length ≤ (argW G (spnL ps) na (i - 1) na).length := by
    intro k hk
    have key : ∀ d e : Nat, (argW G (spnL ps) e (i - 1) k).length ≤ (argW G (spnL ps) e (i - 1) (k + d)).length := by
      intro d e
      induction d with
      | zero => exact Nat.le_refl _
      | succ d ihd => rw [← Nat.add_assoc, argW, List.length_append, List.length_append]; omega
    have := key (na - k) na
    rw [show k + (na - k) = na by omega] at this; exact this
  unfold F_X10_args_13
  refine lp_I (fun t => (0 ≤ t.1 ∧ t.1 ≤ (na : Int)) ∧ FrZ (WB b wWc) z t.2 ∧ OutC t.2 b (L ++ argW G (spnL ps) na (i - 1) t.1.toNat)) (fun t => ((na : Int) - t.1).toNat) ?_ (0, z) ⟨⟨by show (0 : Int) ≤ 0; omega, by show (0 : Int) ≤ na; omega⟩, FrZ_rf, by show OutC z b (L ++ argW G (spnL ps) na (i - 1) 0); rw [argW, List.append_nil]; exact o⟩
  rintro K ⟨k, y⟩ ⟨⟨k0, k1⟩, f, e⟩ ih
  simp only at k0 k1 f e
  unfold L_X10_args_13
  dsimp only
  by_cases d : (na : Int) ≤ k
  · rw [if_pos d]
    rw [show k.toNat = na by omega] at e
    exact h y e f
  · rw [if_neg d]
    have Fy := FmC_fr f F
    have cy := FmC_c Fy
    obtain ⟨-, -, -, -, y15⟩ := id Fy
    rw [w32e (x := i - 1) (by omega) (by omega), w32e (x := (na : Int) - 1) (by omega) (by omega)]
    unfold F_X10_args_29
    refine lp_I (fun t => ∃ m : Nat, m ≤ na - 1 - k.toNat ∧ t.1 = wlk (spnL ps) m (i - 1) ∧ t.2 = (na : Int) - 1 - m) (fun t => t.2.toNat) ?_ (i - 1, (na : Int) - 1) ⟨0, by omega, by show i - 1 = wlk _ 0 _; rw [wlk], by show (na : Int) - 1 = _; omega⟩
    rintro K2 ⟨x5, x6⟩ ⟨m, m1, m2, m3⟩ ih2
    simp only at m2 m3
    unfold L_X10_args_29
    dsimp only
    have bj := wb m (by omega)
    by_cases d6 : x6 ≤ k
    · rw [if_pos d6]
      have em : m = na - 1 - k.toNat := by omega
      show F_X10_args_58 _ _ _ (b 2) i dp (na : Int) k x5 y _
      rw [m2]
      have eA : argW G (spnL ps) na (i - 1) (k.toNat + 1) = argW G (spnL ps) na (i - 1) k.toNat ++ (if k.toNat = 0 then [] else [44]) ++ G (wlk (spnL ps) m (i - 1)) := by rw [argW, em]
      have mo := mono (k.toNat + 1) (by omega)
      have el := congrArg List.length eA
      rw [List.length_append, List.length_append] at el
      have key : ∀ w : Z, FrZ (WB b wWc) y w → OutC w b (L ++ argW G (spnL ps) na (i - 1) k.toNat ++ (if k.toNat = 0 then [] else [44])) → F_X10_args_69 (F_X10_args n) (F_X10_part n) (F_X10_under n) (b 2) i dp (na : Int) k (wlk (spnL ps) m (i - 1)) w (fun o => match o with
          | .inl s' => K s'
          | .inr e => P e) := by
        intro w fw ow
        have cyw := CWz_B cy fw
        unfold F_X10_args_69
        rw [w32e (x := dp + 1) (by omega) (by omega), w32e (x := k + 1) (by omega) (by omega)]
        refine ⟨cK cyw 2 rfl rfl, rcc _ bj.1 bj.2 w _ _ ow (FrZ_tr f fw) (by rw [List.length_append, List.length_append]; omega) (fun x ox fx => ?_)⟩
        refine ih _ ⟨⟨by show 0 ≤ k + 1; omega, by show k + 1 ≤ _; omega⟩, FrZ_tr f (FrZ_tr fw fx), ?_⟩ (by show ((na : Int) - (k + 1)).toNat < ((na : Int) - k).toNat; omega)
        show OutC x b (L ++ argW G (spnL ps) na (i - 1) (k + 1).toNat)
        rw [show (k + 1).toNat = k.toNat + 1 by omega, eA, ← List.append_assoc, ← List.append_assoc]; exact ox
      unfold F_X10_args_58
      by_cases dk : k ≤ 0
      · rw [if_pos dk]
        exact key y FrZ_rf (by rw [if_pos (by omega), List.append_nil]; exact e)
      · rw [if_neg dk]
        rw [if_neg (by omega), List.length_singleton] at el
        exact ⟨cK cy 2 rfl rfl, o_put cy e (by rw [List.length_append]; omega) (by decide) (by decide) (fun w ow fw => key w (pu_W fw) (by rw [if_neg (by omega)]; exact ow))⟩
    · rw [if_neg d6, m2, if_neg (by omega)]
      have b2 := wb (m + 1) (by omega)
      have es := y15 (wlk (spnL ps) m (i - 1)).toNat (by omega)
      rw [Int.toNat_of_nonneg bj.1] at es
      rw [wlk_s] at b2
      refine ⟨cK cy 2 rfl rfl, b 15, cO cy 2 1 15 (by decide), cK cy 15 rfl rfl, bj.1, by rw [cN cy 15 (c := 60) rfl rfl]; omega, ?_⟩
      rw [es, w32e (by omega) (by omega), w32e (x := x6 + -1) (by omega) (by omega)]
      exact ih2 _ ⟨m + 1, by omega, by show _ = wlk (spnL ps) (m + 1) (i - 1); rw [wlk_s]; simp only; omega, by show x6 + -1 = _; omega⟩ (by show (x6 + -1).toNat < x6.toNat; omega)
