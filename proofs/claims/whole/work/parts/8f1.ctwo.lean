/-! ===== the system: signs, calls of one to three values ===== -/
def VW2 (a ba d bd : Nat) (x : Nat) (i : Int) : Prop := VW a ba x i ∨ VW d bd x i
theorem VW_n {z : Z} {a ba d bd : Nat} (B : VlB z a ba) (B2 : zK z d = 9 ∧ zK z bd = 14) (n1 : a ≠ d) (n2 : ba ≠ bd) : (∀ i, ¬ VW a ba d i) ∧ ∀ i, ¬ VW a ba bd i := by
  have e1 : d ≠ ba := fun w => by have := B2.1; rw [w, B.2.2.1] at this; cases this
  have e2 : bd ≠ a := fun w => by have := B2.2; rw [w, B.1] at this; cases this
  refine ⟨fun i => ?_, fun i => ?_⟩
  · rintro (⟨w, -⟩ | w)
    · exact n1 w.symm
    · exact e1 w
  · rintro (⟨w, -⟩ | w)
    · exact e2 w
    · exact n2 w.symm
theorem VlS_f2 {z y : Z} {a ba d bd : Nat} {m : Lit} (B : VlB z a ba) (n1 : a ≠ d) (n2 : ba ≠ bd) (f : FrZ (VW a ba) z y) (V : VlS z d bd m) : VlS y d bd m := by
  obtain ⟨q1, q2⟩ := VW_n B ⟨V.1.1, V.1.2.2.2⟩ n1 n2
  exact VlS_fr V f (q1 0) (q1 1) (q1 2) q2
theorem VX_f2 {z y : Z} {a ba d bd : Nat} {m : Lit} (B : VlB z a ba) (n1 : a ≠ d) (n2 : ba ≠ bd) (f : FrZ (VW a ba) z y) (V : VX z d bd m) : VX y d bd m := ⟨VlS_f2 B n1 n2 f V.1, by
  rw [(f.1 bd (by rw [V.1.1.2.2.2]; decide)).2]; exact V.2⟩
theorem k9_join {z : Z} {t a ba d bd : Nat} {la lb : List Int} {P : Z → Prop} (V : VX z a ba (2, 0, la)) (V2 : VX z d bd (2, 0, lb)) (h1 : la.length ≤ 24) (h2 : lb.length ≤ 24) (n1 : a ≠ d) (n2 : ba ≠ bd) (h : ∀ y, VX y a ba (if 24 < la.length + lb.length then erL 5 else (2, 0, la ++ lb)) → zI y a 3 = 0 → FrZ (VW a ba) z y → P y) : F_X9_join t (some a) (some d) z P := by
  have B := VX_B V
  have hh : ∀ y, VlS y a ba (if 24 < la.length + lb.length then erL 5 else (2, 0, la ++ lb)) → zI y a 3 = 0 → FrZ (VW a ba) z y → P y := fun y g1 g2 g3 => h y (VX_of B g3 g1) g2 g3
  obtain ⟨a1, a2, -, a4⟩ := VlS_t V.1 rfl
  obtain ⟨d1, d2, -, d4⟩ := VlS_t V2.1 rfl
  have a1 : zG z a 2 = (la.length : Int) := a1
  have d1 : zG z d 2 = (lb.length : Int) := d1
  have a4 : ∀ i : Nat, i < la.length → zI z ba i = la.getD i 0 := a4
  have d4 : ∀ i : Nat, i < lb.length → zI z bd i = lb.getD i 0 := d4
  obtain ⟨nw1, nw2⟩ := VW_n B ⟨V2.1.1.1, V2.1.1.2.2.2⟩ n1 n2
  have kd : zK z d ≠ 0 := by rw [V2.1.1.1]; decide
  have kb : zK z bd ≠ 0 := by rw [V2.1.1.2.2.2]; decide
  unfold F_X9_join
  refine ⟨a, rfl, B.1, d, rfl, V2.1.1.1, ?_⟩
  rw [a1, d1, w32e (x := (la.length : Int)) (by omega) (by omega), w32e (x := (lb.length : Int)) (by omega) (by omega), w32e (x := (la.length : Int) + lb.length) (by omega) (by omega)]
  by_cases c : (la.length : Int) + lb.length ≤ 24
  · rw [if_pos c]
    rw [if_neg (by omega)] at hh
    unfold F_X9_join_34
    refine lp_I (fun q => (0 ≤ q.1 ∧ q.1 ≤ (lb.length : Int)) ∧ FrZ (VW a ba) z q.2 ∧ (∀ j : Nat, j < la.length → zI q.2 ba j = la.getD j 0) ∧ ∀ j : Nat, (j : Int) < q.1 → zI q.2 ba ((la.length : Int) + j) = lb.getD j 0) (fun q => ((lb.length : Int) - q.1).toNat) ?_ (0, z) (And.intro ⟨by show (0 : Int) ≤ 0; omega, by show (0 : Int) ≤ _; omega⟩ (And.intro FrZ_rf (And.intro a4 (fun j hj => by exfalso; have : (j : Int) < 0 := hj; omega))))
    rintro G ⟨x, w⟩ ⟨⟨x0, x1⟩, f, e1, e2⟩ ih
    simp only at x0 x1 f e1 e2
    have B2 := VlB_fr B f
    show L_X9_join_34 (some a) (some d) (la.length : Int) (lb.length : Int) x w _
    unfold L_X9_join_34
    by_cases cx : (lb.length : Int) ≤ x
    · rw [if_pos cx]
      show ∃ q, some a = some q ∧ zK w q = 9 ∧ F_X8_set q 2 _ w _
      rw [w32e (x := (la.length : Int) + lb.length) (by omega) (by omega)]
      refine ⟨a, rfl, B2.1, k_set2 (bs := la ++ lb) B2 (by rw [List.length_append]; omega) (by rw [List.length_append]; omega) (fun j hj => ?_) (fun y g1 g2 g3 => hh y g1 g2 (FrZ_tr f g3))⟩
      rw [List.length_append] at hj
      by_cases cj : j < la.length
      · rw [e1 j cj, List.getD_eq_getElem?_getD, List.getD_eq_getElem?_getD, List.getElem?_append_left cj]
      · have := e2 (j - la.length) (by omega)
        rw [show (la.length : Int) + ((j - la.length : Nat) : Int) = (j : Int) by omega] at this
        rw [this, List.getD_eq_getElem?_getD, List.getD_eq_getElem?_getD, List.getElem?_append_right (by omega)]
    · rw [if_neg cx]
      have kd2 : zK w d = 9 := (f.1 d kd).1.trans V2.1.1.1
      have od2 : zO w d 0 = some bd := (f.2 d 0 kd (nw1 0)).2.2.trans V2.1.1.2.2.1
      have kb2 : zK w bd = 14 := (f.1 bd kb).1.trans V2.1.1.2.2.2
      have nb2 : zN w bd = 24 := (f.1 bd kb).2.trans V2.2
      have bx : zI w bd x = lb.getD x.toNat 0 := by
        rw [(f.2 bd x kb (nw2 x)).1]
        have := d4 x.toNat (by omega)
        rw [Int.toNat_of_nonneg x0] at this
        exact this
      rw [w32e (x := (la.length : Int) + x) (by omega) (by omega), w32e (x := x + 1) (by omega) (by omega)]
      refine ⟨a, rfl, B2.1, d, rfl, kd2, bd, od2, kb2, x0, by omega, ba, B2.2.1, B2.2.2.1, by omega, by rw [B2.2.2.2]; omega, fun v hv => ?_⟩
      subst hv
      rw [bx]
      refine ih (x + 1, _) (And.intro ⟨by show 0 ≤ x + 1; omega, by show x + 1 ≤ _; omega⟩ (And.intro (FrZ_b f) (And.intro (fun j hj => ?_) (fun j hj => ?_)))) (by show (_ - (x + 1)).toNat < (_ - x).toNat; omega)
      · show zI (wI w ba _ _) ba j = _
        rw [zI_wI, if_neg (by omega)]; exact e1 j hj
      · show zI (wI w ba _ _) ba ((la.length : Int) + j) = _
        have hj : (j : Int) < x + 1 := hj
        by_cases cj : (j : Int) = x
        · rw [zI_wI, if_pos ⟨rfl, by omega⟩, ← cj, Int.toNat_natCast]
        · rw [zI_wI, if_neg (by omega)]; exact e2 j (by omega)
  · rw [if_neg c]
    rw [if_pos (by omega)] at hh
    exact k_set B (by decide) hh
theorem k9_reckon {z : Z} {t a ba : Nat} {l : Lit} {op y : Int} {P : Z → Prop} (V : VX z a ba l) (o : VOk l) (hl : l.1 = 1 ∨ l.1 = 0) (h8 : 8 ≤ op) (h12 : op ≤ 12) (y0 : -1000000000000000 ≤ y) (y1 : y ≤ 1000000000000000) (h : ∀ w, VX w a ba (recV op l.2.1 y) → zI w a 3 = 0 → FrZ (VW a ba) z w → P w) : F_X9_reckon t op (some a) y z P := by
  have B := VX_B V
  have hh : ∀ w, VlS w a ba (recV op l.2.1 y) → zI w a 3 = 0 → FrZ (VW a ba) z w → P w := fun y g1 g2 g3 => h y (VX_of B g3 g1) g2 g3
  have ox := VOk_x o
  have gx := VlS_g V.1 (by omega)
  have vr := VOk_rec (op := op) (y := y) ox.1 ox.2
  unfold F_X9_reckon F_X9_reckon_140 F_X9_reckon_89 F_X9_reckon_137 F_X9_reckon_140
  refine ⟨a, rfl, B.1, ?_⟩
  rw [gx]
  generalize l.2.1 = x at *
  unfold recV at hh vr
  by_cases c8 : op = 8
  · rw [if_pos c8, w64e (x := x + y) (by omega) (by omega)]
    rw [if_pos c8] at hh
    exact k_bound B hh
  rw [if_neg c8]
  rw [if_neg c8] at hh vr
  by_cases c9 : op = 9
  · rw [if_pos c9, w64e (x := x - y) (by omega) (by omega)]
    rw [if_pos c9] at hh
    exact k_bound B hh
  rw [if_neg c9]
  rw [if_neg c9] at hh vr
  have ab : ∀ q : Int, -1000000000000000 ≤ q → q ≤ 1000000000000000 → (if 0 ≤ q then q else w64 (0 - q)) = abI q := fun q q0 q1 => by
    unfold abI
    by_cases c : 0 ≤ q
    · rw [if_pos c, if_pos c]
    · rw [if_neg c, if_neg c, w64e (by omega) (by omega)]; omega
  by_cases c10 : op = 10
  · rw [if_pos c10]
    rw [if_pos c10] at hh vr
    have pr : ¬ (x ≠ 0 ∧ 1000000000000000 / abI x < abI y) → (∃ q, some a = some q ∧ zK z q = 9 ∧ F_X8_set q 1 (w64 (x * y)) z (fun w => P w)) := fun c => by
      rw [if_neg c] at hh vr
      have vx := VOk_x vr
      have v1 : -1000000000000000 ≤ x * y := vx.1
      have v2 : x * y ≤ 1000000000000000 := vx.2
      rw [w64e (x := x * y) (by omega) (by omega)]
      exact ⟨a, rfl, B.1, k_set B (by decide) hh⟩
    by_cases cx : x = 0
    · rw [if_pos cx]; exact pr (fun w => w.1 cx)
    · rw [if_neg cx, ab x ox.1 ox.2, ab y y0 y1]
      have ax : 1 ≤ abI x ∧ abI x ≤ 1000000000000000 := by unfold abI; split <;> omega
      have dq : Int.tdiv 1000000000000000 (abI x) = 1000000000000000 / abI x := tdivE (by decide)
      have d0 : 0 ≤ 1000000000000000 / abI x := Int.ediv_nonneg (by decide) (by omega)
      have d1 : 1000000000000000 / abI x ≤ 1000000000000000 := Int.ediv_le_self _ (by decide)
      rw [dq, w64e (x := 1000000000000000 / abI x) (by omega) (by omega)]
      refine ⟨by omega, ?_⟩
      by_cases cc : abI y ≤ 1000000000000000 / abI x
      · rw [if_pos cc]; exact pr (fun w => by have := w.2; omega)
      · rw [if_neg cc]
        rw [if_pos ⟨cx, by omega⟩] at hh
        exact k_set B (by decide) hh
  rw [if_neg c10]
  rw [if_neg c10] at hh vr
  by_cases cy : y = 0
  · rw [if_pos cy]
    rw [if_pos cy] at hh
    exact k_set B (by decide) hh
  rw [if_neg cy]
  rw [if_neg cy] at hh vr
  by_cases c11 : op = 11
  · rw [if_pos c11]
    rw [if_pos c11] at hh vr
    have vx := VOk_x vr
    have v1 : -1000000000000000 ≤ Int.tdiv x y := vx.1
    have v2 : Int.tdiv x y ≤ 1000000000000000 := vx.2
    rw [w64e (x := Int.tdiv x y) (by omega) (by omega)]
    exact ⟨cy, a, rfl, B.1, k_set B (by decide) hh⟩
  · rw [if_neg c11]
    rw [if_neg c11] at hh vr
    have vx := VOk_x vr
    have v1 : -1000000000000000 ≤ Int.tmod x y := vx.1
    have v2 : Int.tmod x y ≤ 1000000000000000 := vx.2
    rw [w64e (x := Int.tmod x y) (by omega) (by omega)]
    exact ⟨cy, a, rfl, B.1, k_set B (by decide) hh⟩
theorem k9_sign {z : Z} {t a ba d bd : Nat} {l m : Lit} {op : Int} {P : Z → Prop} (kt : zK z t = 10) (V : VX z a ba l) (V2 : VX z d bd m) (ol : VOk l) (om : VOk m) (n1 : a ≠ d) (n2 : ba ≠ bd) (h1 : 1 ≤ op) (h12 : op ≤ 12) (h : ∀ y, VX y a ba (twoV op l m) → zI y a 3 = 0 → FrZ (VW2 a ba d bd) z y → P y) : F_X9_sign t op (some a) (some d) z P := by
  have B := VX_B V
  have B2 := VX_B V2
  have up : ∀ {u v : Z}, FrZ (VW a ba) u v → FrZ (VW2 a ba d bd) u v := fun f => FrZ_mono f (fun _ _ _ w => Or.inl w)
  have hh : ∀ y, VlS y a ba (twoV op l m) → zI y a 3 = 0 → FrZ (VW a ba) z y → P y := fun y g1 g2 g3 => h y (VX_of B g3 g1) g2 (up g3)
  unfold twoV at hh h
  unfold F_X9_sign F_X9_sign_116 F_X9_sign_95 F_X9_sign_116
  refine ⟨a, rfl, B.1, ?_⟩
  rw [V.1.1.2.1]
  by_cases c4 : l.1 = 4
  · rw [if_pos c4]
    rw [if_pos c4] at hh
    have e := (VOk_e ol c4).1
    rw [VlS_g V.1 (by omega)]
    refine k_set B (by decide) (fun y g1 g2 g3 => hh y ?_ g2 g3)
    rw [e]; exact g1
  rw [if_neg c4]
  rw [if_neg c4] at hh h
  refine ⟨d, rfl, B2.1, ?_⟩
  rw [V2.1.1.2.1]
  by_cases m4 : m.1 = 4
  · rw [if_pos m4]
    rw [if_pos m4] at hh
    have e := (VOk_e om m4).1
    rw [VlS_g V2.1 (by omega)]
    refine k_set B (by decide) (fun y g1 g2 g3 => hh y ?_ g2 g3)
    rw [e]; exact g1
  rw [if_neg m4]
  rw [if_neg m4] at hh h
  by_cases c6 : op ≤ 6
  · rw [if_neg (by omega)]
    rw [if_pos c6] at h
    exact ⟨kt, k9_compare V V2.1 ol om c4 m4 h1 c6 (fun y g1 g2 g3 => h y g1 g2 (up g3))⟩
  rw [if_pos (by omega)]
  rw [if_neg c6] at hh h
  by_cases c7 : op = 7
  · rw [if_pos c7]
    rw [if_pos c7] at h
    obtain ⟨t1, t2, t3, t4⟩ := VOk_txt ol c4
    obtain ⟨s1, s2, s3, s4⟩ := VOk_txt om m4
    have el : txtL l = (2, 0, (txtL l).2.2) := by
      have := (VOk_b t2).2.2.2 t1
      rw [← t1, ← this]
    have em : txtL m = (2, 0, (txtL m).2.2) := by
      have := (VOk_b s2).2.2.2 s1
      rw [← s1, ← this]
    refine k_text V.1 V.2 (fun _ => VOk_x ol) (fun y g1 g2 g3 => ?_)
    have Vy := VX_of B g3 g1
    have Wy := VX_f2 B n1 n2 g3 V2
    refine ⟨d, rfl, Wy.1.1.1, ?_⟩
    refine k_text Wy.1 Wy.2 (fun _ => VOk_x om) (fun x k1 k2 k3 => ?_)
    have Wx := VX_of (VX_B Wy) k3 k1
    have Vx := VX_f2 (VX_B Wy) (fun w => n1 w.symm) (fun w => n2 w.symm) k3 Vy
    have kx : zK x t = 10 := by
      have q := (g3.1 t (by rw [kt]; decide)).1
      rw [(k3.1 t (by rw [q, kt]; decide)).1, q]; exact kt
    refine ⟨kx, ?_⟩
    rw [el] at Vx
    rw [em] at Wx
    refine k9_join Vx Wx t3 s3 n1 n2 (fun v j1 j2 j3 => ?_)
    refine h v ?_ j2 (FrZ_tr (up g3) (FrZ_tr (FrZ_mono k3 (fun _ _ _ w => Or.inr w)) (up j3)))
    unfold joiV
    exact j1
  rw [if_neg c7]
  rw [if_neg c7] at hh h
  refine k_serves V.1 (fun c => ?_) (fun c => ?_)
  · rw [if_neg (by decide)]
    refine k_serves V2.1 (fun c' => ?_) (fun c' => ?_)
    · rw [if_neg (by decide)]
      rw [if_pos ⟨c, c'⟩] at h
      have om' := VOk_x om
      rw [VlS_g V2.1 (by omega)]
      exact ⟨kt, k9_reckon V ol c (by omega) h12 om'.1 om'.2 (fun y g1 g2 g3 => h y g1 g2 (up g3))⟩
    · rw [if_pos rfl]
      rw [if_neg (fun w => c' w.2)] at hh
      exact ⟨a, rfl, B.1, k_set B (by decide) hh⟩
  · rw [if_pos rfl]
    rw [if_neg (fun w => c w.1)] at hh
    exact ⟨a, rfl, B.1, k_set B (by decide) hh⟩
/-- NOT, ABS, LEN and ISERR but for what becomes a text before -/
theorem k9_change {z : Z} {t a ba : Nat} {l : Lit} {op : Int} {P : Z → Prop} (V : VX z a ba l) (o : VOk l) (hop : op = 25 ∨ op = 26) (h : ∀ y, VX y a ba (oneV op l) → zI y a 3 = 0 → FrZ (VW a ba) z y → P y) : F_X9_change t op (some a) z P := by
  have B := VX_B V
  have hh : ∀ w, VlS w a ba (oneV op l) → zI w a 3 = 0 → FrZ (VW a ba) z w → P w := fun y g1 g2 g3 => h y (VX_of B g3 g1) g2 g3
  unfold oneV at hh
  rw [if_neg (by omega)] at hh
  unfold F_X9_change F_X9_change_106 F_X9_change_50 F_X9_change_88 F_X9_change_106
  refine ⟨a, rfl, B.1, ?_⟩
  rw [V.1.1.2.1]
  by_cases c4 : l.1 = 4
  · rw [if_pos c4]
    rw [if_pos c4] at hh
    have e := (VOk_e o c4).1
    rw [VlS_g V.1 (by omega)]
    refine k_set B (by decide) (fun y g1 g2 g3 => hh y ?_ g2 g3)
    rw [e]; exact g1
  rw [if_neg c4, if_neg (by omega)]
  rw [if_neg c4, if_neg (by omega)] at hh
  have ox := VOk_x o
  by_cases c : op = 25
  · rw [if_pos c]
    rw [if_pos c] at hh
    refine ⟨a, rfl, B.1, k_serves V.1 (fun c' => ?_) (fun c' => ?_)⟩
    · rw [if_neg (by decide), if_pos c]
      rw [if_pos c'] at hh
      refine ⟨a, rfl, B.1, ?_⟩
      rw [VlS_g V.1 (by omega)]
      by_cases e : l.2.1 = 0
      · rw [if_pos e]; exact ⟨a, rfl, B.1, k_truth B (by rw [decide_eq_false_iff_not]; omega) hh⟩
      · rw [if_neg e]; exact ⟨a, rfl, B.1, k_truth B (by rw [decide_eq_false_iff_not]; omega) hh⟩
    · rw [if_pos rfl]
      rw [if_neg c'] at hh
      exact ⟨a, rfl, B.1, k_set B (by decide) hh⟩
  · rw [if_neg c]
    rw [if_neg c] at hh
    refine ⟨a, rfl, B.1, k_serves V.1 (fun c' => ?_) (fun c' => ?_)⟩
    · rw [if_neg (by decide), if_neg c]
      rw [if_pos c'] at hh
      refine ⟨a, rfl, B.1, ?_⟩
      rw [VlS_g V.1 (by omega)]
      have : (if 0 ≤ l.2.1 then l.2.1 else w64 (0 - l.2.1)) = abI l.2.1 := by
        unfold abI
        by_cases q : 0 ≤ l.2.1
        · rw [if_pos q, if_pos q]
        · rw [if_neg q, if_neg q, w64e (by omega) (by omega)]; omega
      rw [this]
      exact k_set B (by decide) hh
    · rw [if_pos rfl]
      rw [if_neg c'] at hh
      exact ⟨a, rfl, B.1, k_set B (by decide) hh⟩
