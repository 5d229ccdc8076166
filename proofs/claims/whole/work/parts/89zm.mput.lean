/-! ===== the length of what is written ===== -/
theorem ite_len {c : Prop} [Decidable c] {x : Int} : (if c then [x] else ([] : List Int)).length ≤ 1 := by split <;> simp
theorem dec_l2 {x : Int} (h0 : 0 ≤ x) (h1 : x < 100) : (dec x).length ≤ 2 := by
  rw [dec_2 h0 h1, List.length_append, List.length_singleton]
  split <;> simp
theorem corW_len {r c f : Int} (h0 : -1 ≤ r) (h1 : r < 99) : (corW r c f).length ≤ 5 := by
  unfold corW
  have := dec_l2 (x := r + 1) (by omega) (by omega)
  have e1 := ite_len (c := f / 2 % 2 = 1) (x := 36)
  have e2 := ite_len (c := f % 2 = 1) (x := 36)
  rw [List.length_append, List.length_append, List.length_append, List.length_singleton]
  omega
theorem plS_32 {s : Sh} (hb : ShB s) (ax id : Int) : -1 ≤ plS s ax id ∧ plS s ax id < 99 := by
  have := plS_b s ax id
  have := lnS_b hb ax
  have := mst_32 ax
  omega
theorem plW_len {s : Sh} {p : Prt} (hb : ShB s) (v0 : -1 ≤ p.2.2.2.2.2) (v1 : p.2.2.2.2.2 < 100) : (plW s p).length ≤ 14 := by
  unfold plW
  split
  · have a1 := corW_len (c := plS s 1 (p.2.2.2.1.2.1 - 1)) (f := p.2.2.2.2.1 % 4) (plS_32 hb 0 (p.2.2.2.1.1 - 1)).1 (plS_32 hb 0 (p.2.2.2.1.1 - 1)).2
    have a2 := corW_len (c := plS s 1 (p.2.2.2.1.2.2.2 - 1)) (f := p.2.2.2.2.1 / 4) (plS_32 hb 0 (p.2.2.2.1.2.2.1 - 1)).1 (plS_32 hb 0 (p.2.2.2.1.2.2.1 - 1)).2
    have b1 : (if p.1 = 17 then [58] ++ corW (plS s 0 (p.2.2.2.1.2.2.1 - 1)) (plS s 1 (p.2.2.2.1.2.2.2 - 1)) (p.2.2.2.2.1 / 4) else []).length ≤ 6 := by
      split
      · rw [List.length_append, List.length_singleton]; omega
      · show 0 ≤ 6; omega
    have b2 : (if p.2.2.2.2.2 = -1 then [] else [64] ++ dec p.2.2.2.2.2).length ≤ 3 := by
      split
      · show 0 ≤ 3; omega
      · have := dec_l2 (x := p.2.2.2.2.2) (by omega) (by omega)
        rw [List.length_append, List.length_singleton]; omega
    rw [List.length_append, List.length_append]
    omega
  · decide +kernel
theorem sL_0 : (sL 0).length ≤ 5 ∧ (sL 1).length ≤ 5 := by decide +kernel
theorem txt_len {l : Lit} (w : WfL l) : (txtL l).2.2.length ≤ 24 := by
  obtain ⟨w1, w2, w3, w4, w5, w6, -⟩ := w
  unfold txtL
  split
  · next e => have := dec_len (x := l.2.1) (by have := w2 e; omega) (by have := w2 e; omega); show (dec l.2.1).length ≤ 24; omega
  · split
    · show (if l.2.1 = 0 then sL 1 else sL 0).length ≤ 24
      have := sL_0
      split <;> omega
    · split
      · show 0 ≤ 24; omega
      · exact w6
theorem litW_len {l : Lit} (w : WfL l) : (litW l).length ≤ 26 := by
  have := txt_len w
  have := ite_len (c := l.1 = 2) (x := 34)
  unfold litW quo
  rw [List.length_append, List.length_append]; omega
theorem argW_len {g : Int → List Int} {sp : List Int} {n : Nat} {j : Int} (h : ∀ m, m < n → ((g (wlk sp m j)).length : Int) ≤ 29 * sp.getD (wlk sp m j).toNat 0 - 3) : ∀ k : Nat, k ≤ n → ((argW g sp n j k).length : Int) ≤ 29 * (wlk sp (n - k) j - wlk sp n j)
  | 0, _ => by rw [argW, Nat.sub_zero]; show (0 : Int) ≤ _; omega
  | k + 1, hk => by
    have ih := argW_len h k (by omega)
    have hm := h (n - 1 - k) (by omega)
    have e := wlk_s sp (n - 1 - k) j
    rw [show n - 1 - k + 1 = n - k by omega] at e
    have il := ite_len (c := ¬ k = 0) (x := 44)
    rw [ite_not] at il
    rw [argW, List.length_append, List.length_append, show n - (k + 1) = n - 1 - k by omega]
    omega
theorem sd_len {g : Int → List Int} {ps : List Prt} {j t : Int} : (sdW g ps j t).length ≤ (g j).length + 2 := by
  unfold sdW
  split
  · rw [List.length_append, List.length_append, List.length_singleton, List.length_singleton]; omega
  · omega
theorem gP_mem {ps : List Prt} {i : Nat} (h : i < ps.length) : ps.getD i pd0 ∈ ps := by
  rw [List.getD_eq_getElem?_getD, List.getElem?_eq_getElem h]; exact List.getElem_mem h
theorem wr_len {E : Int → Sh} {ps : List Prt} {nv : Int} (n40 : nv ≤ 40) (hb : ∀ v, -1 ≤ v → v < nv → ShB (E v)) (hw : WfF ps) (hp : ∀ p ∈ ps, WfP p) (hv : ∀ p ∈ ps, p.2.2.2.2.2 < nv) : ∀ (f : Nat) (i : Int), 0 ≤ i → i < ps.length → ((wr E ps f i).length : Int) ≤ 29 * (spnL ps).getD i.toNat 0 - 3
  | 0, i, h0, h1 => by
    rw [wr]
    have := spn_pos ps i.toNat (by omega)
    show (0 : Int) ≤ _; omega
  | f + 1, i, h0, h1 => by
    have hi : i.toNat < ps.length := by omega
    have sp := spn_pos ps i.toNat hi
    obtain ⟨⟨w1, w2⟩, w3⟩ := hw.1 i.toNat hi
    have hm := gP_mem hi
    obtain ⟨p1, p2, p3, p4, p5, p6⟩ := hp _ hm
    have v1 := hv _ hm
    have se := spn_e hi w2
    have wb := fun {m : Nat} hm => wlk_b hi w1 w2 (m := m) hm
    rw [Int.toNat_of_nonneg h0] at se wb
    rw [wr]
    unfold opA
    generalize hpp : ps.getD i.toNat pd0 = p at *
    by_cases c14 : p.1 = 14
    · rw [if_pos c14]
      revert p2
      cases p.2.2.1 with
      | none => intro p2; show (0 : Int) ≤ _; omega
      | some l => intro p2; have := litW_len p2.2; show ((litW l).length : Int) ≤ _; omega
    · rw [if_neg c14]
      by_cases c15 : p.1 = 15
      · rw [if_pos c15]
        have : (sL 2).length = 4 := by decide +kernel
        omega
      · rw [if_neg c15]
        by_cases c16 : p.1 = 16 ∨ p.1 = 17
        · rw [if_pos c16]
          rw [if_pos c16] at p6
          have := plW_len (s := E p.2.2.2.2.2) (p := p) (hb _ p6.2 v1) p6.2 (by omega)
          omega
        · rw [if_neg c16]
          by_cases c13 : p.1 = 13
          · rw [if_pos c13]
            have a1 : p.2.1 = 1 := by unfold argL argM at p5; rw [c13] at p5; simp at p5; omega
            rw [a1] at se wb
            have b0 := wb (m := 0) (by decide)
            rw [wlk] at b0
            have ih := wr_len n40 hb hw hp hv f (i - 1) b0.1 (by omega)
            have sl := sd_len (g := wr E ps f) (ps := ps) (j := i - 1) (t := 5)
            rw [show (1 : Int).toNat = 1 from rfl, undS, undS] at se
            rw [List.length_append, List.length_singleton]
            omega
          · rw [if_neg c13]
            by_cases c12 : p.1 ≤ 12
            · rw [if_pos c12]
              have a1 : p.2.1 = 2 := by unfold argL argM at p5; rw [if_pos c12, if_pos c12] at p5; omega
              rw [a1] at se wb
              have b0 := wb (m := 0) (by decide)
              rw [wlk] at b0
              have b1 := wb (m := 1) (by decide)
              have ih := wr_len n40 hb hw hp hv f (i - 1) b0.1 (by omega)
              have ih1 := wr_len n40 hb hw hp hv f (wlk (spnL ps) 1 (i - 1)) b1.1 (by omega)
              have sl := sd_len (g := wr E ps f) (ps := ps) (j := i - 1) (t := bnd p.1 + 1)
              have sl1 := sd_len (g := wr E ps f) (ps := ps) (j := wlk (spnL ps) 1 (i - 1)) (t := if bnd p.1 = 1 then 2 else bnd p.1)
              have sg := (sg_M p.1.toNat (by omega) (by omega)).2
              rw [Int.toNat_of_nonneg (by omega)] at sg
              rw [undS_w, show (2 : Int).toNat = 1 + 1 from rfl, wlk_s] at se
              have e1 : wlk (spnL ps) 1 (i - 1) = i - 1 - (spnL ps).getD (i - 1).toNat 0 := by rw [wlk, wlk]
              rw [List.length_append, List.length_append]
              omega
            · rw [if_neg c12]
              have nm := (nm_M p.1.toNat (by omega) (by omega)).2
              rw [Int.toNat_of_nonneg (by omega)] at nm
              have al := argW_len (g := wr E ps f) (sp := spnL ps) (n := p.2.1.toNat) (j := i - 1) (fun m hm => by
                have b := wb (m := m) hm
                exact wr_len n40 hb hw hp hv f _ b.1 (by omega)) p.2.1.toNat (Nat.le_refl _)
              rw [Nat.sub_self, wlk] at al
              rw [undS_w] at se
              rw [List.length_append, List.length_append, List.length_append, List.length_singleton, List.length_singleton]
              omega
/-! ===== the reference's page ===== -/
def wWr : WR := [(0, some 87), (86, none), (70, none)]
def OutM (u : Mu) (L : List Int) : Prop := mI u 0 87 = (L.length : Int) ∧ ∀ i : Nat, i < L.length → mI u 86 i = L.getD i 0
theorem i_put {u : Mu} {L : List Int} {x : Int} {P : Mu → Prop} (o : OutM u L) (hl : L.length + 1 ≤ 2000) (x0 : -128 ≤ x) (x1 : x ≤ 127) (h : ∀ v, OutM v (L ++ [x]) → FrM wWr u v → P v) : F_X12_put x u P := by
  obtain ⟨o1, o2⟩ := o
  unfold F_X12_put
  rw [o1]
  refine ⟨by omega, by omega, fun u2 e2 => ?_⟩
  subst e2
  intro u3 e3
  subst e3
  rw [mI_uI, if_neg (by omega), o1, w32e (by omega) (by omega), w8e x0 x1]
  refine h _ ⟨?_, fun i hi => ?_⟩ (FrM_uI (FrM_uI FrM_rf (wHas_a (by decide))) (wHas_i (by decide)))
  · rw [mI_uI, if_pos ⟨rfl, rfl⟩, List.length_append, List.length_singleton]; omega
  · rw [List.length_append, List.length_singleton] at hi
    rw [mI_uI, if_neg (by omega)]
    by_cases c : i < L.length
    · rw [mI_uI, if_neg (by omega), gA_l c]; exact o2 i c
    · rw [mI_uI, if_pos ⟨rfl, by omega⟩, gA_r (by omega), show i - L.length = 0 by omega]; rfl
theorem i_say {u : Mu} {L : List Int} {s : Nat} {P : Mu → Prop} (o : OutM u L) (hs : s < 44) (hl : L.length + (sL s).length ≤ 2000) (h : ∀ v, OutM v (L ++ sL s) → FrM wWr u v → P v) : F_X12_say s u P := by
  have sl := sL_len s
  unfold F_X12_say F_X12_say_2
  refine lp_I (fun q => (0 ≤ q.1 ∧ q.1 ≤ sLen s) ∧ FrM wWr u q.2 ∧ OutM q.2 (L ++ (sL s).take q.1.toNat)) (fun q => (sLen s - q.1).toNat) ?_ (0, u) ⟨⟨by show (0 : Int) ≤ 0; omega, by show (0 : Int) ≤ sLen s; omega⟩, FrM_rf, by show OutM u (L ++ (sL s).take 0); rw [List.take_zero, List.append_nil]; exact o⟩
  rintro G ⟨k, w⟩ ⟨⟨k0, k1⟩, f, e⟩ ih
  simp only at k0 k1 f e
  unfold L_X12_say_2
  refine ⟨hs, ?_⟩
  dsimp only
  by_cases c : sLen s ≤ k
  · rw [if_pos c]
    rw [List.take_of_length_le (by omega)] at e
    exact h w e f
  · rw [if_neg c]
    have hk : k.toNat < (sL s).length := by omega
    have hm := (sL_all s hs).1 _ (gD0_mem hk)
    have hc := sL_at s hk
    rw [Int.toNat_of_nonneg k0] at hc
    refine ⟨hs, k0, by omega, ?_⟩
    rw [← hc]
    refine i_put e (by rw [List.length_append, List.length_take]; omega) (by omega) (by omega) (fun v g1 g2 => ?_)
    rw [w32e (by omega) (by omega)]
    refine ih _ ⟨⟨by show 0 ≤ k + 1; omega, by show k + 1 ≤ _; omega⟩, FrM_tr f g2, ?_⟩ (by show (sLen s - (k + 1)).toNat < (sLen s - k).toNat; omega)
    show OutM v (L ++ (sL s).take (k + 1).toNat)
    rw [show (k + 1).toNat = k.toNat + 1 by omega, List.take_add_one, List.getElem?_eq_getElem hk, ← List.append_assoc]
    rw [List.getD_eq_getElem?_getD, List.getElem?_eq_getElem hk] at g1
    exact g1
theorem i_letters {u : Mu} {L : List Int} {q n : Int} {bs : List Int} {P : Mu → Prop} (o : OutM u L) (hq : LetM u q bs) (hn : n = (bs.length : Int)) (h19 : mI u 0 19 ≤ 82400) (hr : ∀ x ∈ bs, -128 ≤ x ∧ x ≤ 127) (hl : L.length + bs.length ≤ 2000) (h : ∀ v, OutM v (L ++ bs) → FrM wWr u v → P v) : F_X12_putLetters q n u P := by
  obtain ⟨q0, q1, q2⟩ := hq
  unfold F_X12_putLetters F_X12_putLetters_2
  refine lp_I (fun t => (0 ≤ t.1 ∧ t.1 ≤ n) ∧ FrM wWr u t.2 ∧ OutM t.2 (L ++ bs.take t.1.toNat)) (fun t => (n - t.1).toNat) ?_ (0, u) ⟨⟨by show (0 : Int) ≤ 0; omega, by show (0 : Int) ≤ n; omega⟩, FrM_rf, by show OutM u (L ++ bs.take 0); rw [List.take_zero, List.append_nil]; exact o⟩
  rintro G ⟨k, w⟩ ⟨⟨k0, k1⟩, f, e⟩ ih
  simp only at k0 k1 f e
  unfold L_X12_putLetters_2
  dsimp only
  by_cases c : n ≤ k
  · rw [if_pos c]
    rw [List.take_of_length_le (by omega)] at e
    exact h w e f
  · rw [if_neg c]
    have hk : k.toNat < bs.length := by omega
    have hm := hr _ (gD0_mem hk)
    have hc := q2 k.toNat hk
    rw [Int.toNat_of_nonneg k0] at hc
    rw [w32e (x := q + k) (by omega) (by omega)]
    refine ⟨by omega, by omega, ?_⟩
    rw [mE f (R := [(18, none)]) (by decide) (k := 18) (wHas_a (by decide)), hc]
    refine i_put e (by rw [List.length_append, List.length_take]; omega) (by omega) (by omega) (fun v g1 g2 => ?_)
    rw [w32e (by omega) (by omega)]
    refine ih _ ⟨⟨by show 0 ≤ k + 1; omega, by show k + 1 ≤ _; omega⟩, FrM_tr f g2, ?_⟩ (by show (n - (k + 1)).toNat < (n - k).toNat; omega)
    show OutM v (L ++ bs.take (k + 1).toNat)
    rw [show (k + 1).toNat = k.toNat + 1 by omega, List.take_add_one, List.getElem?_eq_getElem hk, ← List.append_assoc]
    rw [List.getD_eq_getElem?_getD, List.getElem?_eq_getElem hk] at g1
    exact g1
theorem i_decimal {u : Mu} {x : Int} {P : Int → Mu → Prop} (x0 : -1000000000000000 ≤ x) (x1 : x ≤ 1000000000000000) (h : ∀ v, FrM [(70, none)] u v → (∀ j : Nat, j < (dec x).length → mI v 70 (20 - ((dec x).length : Int) + j) = (dec x).getD j 0) → P ((dec x).length : Int) v) : F_X12_decimal x u P := by
  have key : ∀ y : Int, 0 ≤ y → y ≤ 1000000000000000 → (dec x = if 0 ≤ x then dg (nD y) y else 45 :: dg (nD y) y) → F_X12_decimal_12 x y u P := by
    intro y y0 y1 hd
    have nb := nD_b y1
    unfold F_X12_decimal_12 F_X12_decimal_16
    refine lp_I (fun q => ∃ m : Nat, ∃ T : List Int, (0 ≤ q.1 ∧ q.1 ≤ 1000000000000000) ∧ q.2.1 = (T.length : Int) ∧ T.length + m = nD y ∧ dg m q.1 ++ T = dg (nD y) y ∧ FrM [(70, none)] u q.2.2 ∧ (∀ j : Nat, j < T.length → mI q.2.2 70 (20 - q.2.1 + j) = T.getD j 0) ∧ (T = [] → q.1 = y) ∧ (T ≠ [] → ∃ f, q.1 < 10 ^ f ∧ m = nDf f q.1)) (fun q => (20 - q.2.1).toNat) ?_ (y, 0, u) ⟨nD y, [], ⟨y0, y1⟩, rfl, by rw [List.length_nil]; omega, by rw [List.append_nil], FrM_rf, (fun j hj => by cases hj), (fun _ => rfl), (fun w => absurd rfl w)⟩
    rintro G ⟨r, n, w⟩ ⟨m, T, ⟨r0, r1⟩, e1, e2, e3, f, e4, e5, e6⟩ ih
    simp only at r0 r1 e1 e3 f e4 e5 e6
    unfold L_X12_decimal_16
    dsimp only
    have go : ∀ m' : Nat, m = m' + 1 → (∃ f, r / 10 < 10 ^ f ∧ m' = nDf f (r / 10)) → F_X12_decimal_27 x r n w (fun o => match o with
        | .inl s' => G s'
        | .inr e => match e with
          | (x5, u) => (if 0 ≤ x then F_X12_decimal_81 x5 u P else (0 ≤ w32 (20 - (w32 (x5 + 1))) ∧ w32 (20 - (w32 (x5 + 1))) < 20 ∧ (∀ u_80, u_80 = uI u 70 (w32 (20 - (w32 (x5 + 1)))) 45 → F_X12_decimal_81 (w32 (x5 + 1)) u_80 P)))) := by
      intro m' hm' hf
      subst hm'
      unfold F_X12_decimal_27
      rw [w32e (x := n + 1) (by omega) (by omega), w32e (x := 20 - (n + 1)) (by omega) (by omega)]
      refine ⟨by omega, by omega, fun v hv => ?_⟩
      subst hv
      rw [tdivE r0, tmodE r0, w64e (x := r % 10) (by omega) (by omega), w64e (x := 48 + r % 10) (by omega) (by omega), w64e (x := r / 10) (by omega) (by omega), w32e (x := 48 + r % 10) (by omega) (by omega), w8e (by omega) (by omega)]
      refine ih _ ⟨m', (48 + r % 10) :: T, ⟨by show 0 ≤ r / 10; omega, by show r / 10 ≤ _; omega⟩, by show n + 1 = _; rw [List.length_cons]; omega, by rw [List.length_cons]; omega, ?_, FrM_uI f (wHas_a (by decide)), ?_, (fun w => by cases w), (fun _ => hf)⟩ (by show (20 - (n + 1)).toNat < (20 - n).toNat; omega)
      · rw [dg, List.append_assoc] at e3; exact e3
      · intro j hj
        show mI (uI w 70 (20 - (n + 1)) (48 + r % 10)) 70 (20 - (n + 1) + j) = _
        cases j with
        | zero => rw [mI_uI, if_pos ⟨rfl, by omega⟩]; rfl
        | succ j => rw [mI_uI, if_neg (by omega), List.getD_cons_succ, ← e4 j (by rw [List.length_cons] at hj; omega)]; congr 1; omega
    by_cases c : T = []
    · have n0 : n = 0 := by rw [e1, c]; rfl
      have m1 : m = nD y := by rw [c, List.length_nil] at e2; omega
      have ry := e5 c
      have q : ∃ m', m = m' + 1 ∧ ∃ f, r / 10 < 10 ^ f ∧ m' = nDf f (r / 10) := by
        rw [m1, ry]
        unfold nD
        by_cases cy : y ≤ 0
        · rw [if_pos cy]
          exact ⟨0, rfl, 1, by rw [Int.pow_succ, Int.pow_zero]; omega, (nDf_0 1 (by omega)).symm⟩
        · rw [if_neg cy]
          refine ⟨nDf 19 (y / 10), by rw [nDf.eq_def]; exact if_neg cy, 19, ?_, rfl⟩
          have : (10 : Int) ^ 19 = 10000000000000000000 := by decide
          omega
      obtain ⟨m', hm', hf⟩ := q
      by_cases c0 : 0 < r
      · rw [if_pos c0]; exact go m' hm' hf
      · rw [if_neg c0, if_pos n0]; exact go m' hm' hf
    · obtain ⟨f', e7, e8⟩ := e6 c
      have n1 : n ≠ 0 := by
        intro w
        exact c (List.eq_nil_of_length_eq_zero (by omega))
      by_cases c0 : 0 < r
      · rw [if_pos c0]
        obtain ⟨g, e9, e10⟩ := nDf_s (by omega) e7
        exact go (nDf g (r / 10)) (by omega) ⟨g, e9, rfl⟩
      · rw [if_neg c0, if_neg n1]
        rw [nDf_0 f' (by omega)] at e8
        subst e8
        rw [dg, List.nil_append] at e3
        show (if 0 ≤ x then F_X12_decimal_81 n w P else _)
        by_cases cx : 0 ≤ x
        · rw [if_pos cx]
          rw [if_pos cx, ← e3] at hd
          rw [hd] at h
          rw [e1] at e4 ⊢
          exact h w f e4
        · rw [if_neg cx]
          rw [if_neg cx, ← e3] at hd
          rw [hd] at h
          rw [w32e (x := n + 1) (by omega) (by omega), w32e (x := 20 - (n + 1)) (by omega) (by omega)]
          refine ⟨by omega, by omega, fun v hv => ?_⟩
          subst hv
          have := h (uI w 70 (20 - (n + 1)) 45) (FrM_uI f (wHas_a (by decide))) (fun j hj => ?_)
          · rw [List.length_cons] at this
            have en : ((T.length + 1 : Nat) : Int) = n + 1 := by omega
            rw [en] at this
            exact this
          · rw [List.length_cons]
            cases j with
            | zero => rw [mI_uI, if_pos ⟨rfl, by omega⟩]; rfl
            | succ j =>
              rw [List.length_cons] at hj
              rw [mI_uI, if_neg (by omega), List.getD_cons_succ, ← e4 j (by omega)]; congr 1; omega
  unfold F_X12_decimal
  by_cases c : 0 ≤ x
  · rw [if_pos c]; exact key x c x1 (by unfold dec; rw [if_pos c, if_pos c])
  · rw [if_neg c, w64e (by omega) (by omega)]; exact key (-x) (by omega) (by omega) (by unfold dec; rw [if_neg c, if_neg c])
theorem i_number {u : Mu} {L : List Int} {x : Int} {P : Mu → Prop} (o : OutM u L) (x0 : -1000000000000000 ≤ x) (x1 : x ≤ 1000000000000000) (hl : L.length + (dec x).length ≤ 2000) (h : ∀ v, OutM v (L ++ dec x) → FrM wWr u v → P v) : F_X12_putNumber x u P := by
  have dl := dec_len x0 x1
  have dm := dec_mem x
  unfold F_X12_putNumber
  refine i_decimal x0 x1 (fun u1 f1 d1 => ?_)
  have o1 : OutM u1 L := ⟨(mE f1 (R := [(0, some 87)]) (by decide) (wHas_i (by decide))).trans o.1, fun i hi => (mE f1 (R := [(86, none)]) (by decide) (wHas_a (by decide))).trans (o.2 i hi)⟩
  have f1' : FrM wWr u u1 := ⟨fun k i n => f1.1 k i (fun ⟨t, t1, t2, t3⟩ => by rw [List.mem_singleton] at t1; subst t1; exact n ⟨_, List.mem_cons_of_mem _ (List.mem_cons_of_mem _ List.mem_cons_self), t2, t3⟩), fun k i n => f1.2 k i (fun ⟨t, t1, t2, t3⟩ => by rw [List.mem_singleton] at t1; subst t1; exact n ⟨_, List.mem_cons_of_mem _ (List.mem_cons_of_mem _ List.mem_cons_self), t2, t3⟩)⟩
  unfold F_X12_putNumber_9
  generalize dec x = D at *
  refine lp_I (fun t => (0 ≤ t.1 ∧ t.1 ≤ (D.length : Int)) ∧ FrM wWr u1 t.2 ∧ (∀ i, mI t.2 70 i = mI u1 70 i) ∧ OutM t.2 (L ++ D.take t.1.toNat)) (fun t => ((D.length : Int) - t.1).toNat) ?_ (0, u1) ⟨⟨by show (0 : Int) ≤ 0; omega, by show (0 : Int) ≤ D.length; omega⟩, FrM_rf, fun i => rfl, by show OutM u1 (L ++ D.take 0); rw [List.take_zero, List.append_nil]; exact o1⟩
  rintro G ⟨k, w⟩ ⟨⟨k0, k1⟩, f, e7, e⟩ ih
  simp only at k0 k1 f e7 e
  unfold L_X12_putNumber_9
  dsimp only
  by_cases c : (D.length : Int) ≤ k
  · rw [if_pos c]
    rw [List.take_of_length_le (by omega)] at e
    exact h w e (FrM_tr f1' f)
  · rw [if_neg c]
    have hk : k.toNat < D.length := by omega
    have hm := dm _ (gD0_mem hk)
    have hc := d1 k.toNat hk
    rw [Int.toNat_of_nonneg k0] at hc
    rw [w32e (x := 20 - (D.length : Int)) (by omega) (by omega), w32e (x := 20 - (D.length : Int) + k) (by omega) (by omega)]
    refine ⟨by omega, by omega, ?_⟩
    rw [e7, hc]
    unfold F_X12_put
    rw [e.1, w8e (by omega) (by omega)]
    have el : (L ++ D.take k.toNat).length = L.length + k.toNat := by rw [List.length_append, List.length_take]; omega
    refine ⟨by omega, by omega, fun u2 e2 => ?_⟩
    subst e2
    intro u3 e3
    subst e3
    rw [mI_uI, if_neg (by omega), e.1, w32e (x := k + 1) (by omega) (by omega), w32e (by omega) (by omega)]
    refine ih _ ⟨⟨by show 0 ≤ k + 1; omega, by show k + 1 ≤ _; omega⟩, FrM_uI (FrM_uI f (wHas_a (by decide))) (wHas_i (by decide)), fun i => ?_, ?_⟩ (by show ((D.length : Int) - (k + 1)).toNat < ((D.length : Int) - k).toNat; omega)
    · show mI (uI (uI w 86 _ _) 0 87 _) 70 i = _
      rw [mI_uI, if_neg (by omega), mI_uI, if_neg (by omega)]; exact e7 i
    · show OutM (uI (uI w 86 _ _) 0 87 _) (L ++ D.take (k + 1).toNat)
      rw [show (k + 1).toNat = k.toNat + 1 by omega, List.take_add_one, List.getElem?_eq_getElem hk, ← List.append_assoc]
      refine ⟨?_, fun i hi => ?_⟩
      · have e1 : (L ++ D.take k.toNat ++ (some D[k.toNat]).toList).length = (L ++ D.take k.toNat).length + 1 := List.length_append
        rw [mI_uI, if_pos ⟨rfl, rfl⟩, e1]; omega
      · rw [List.length_append] at hi
        replace hi : i < (L ++ D.take k.toNat).length + 1 := hi
        rw [mI_uI, if_neg (by omega)]
        by_cases ci : i < (L ++ D.take k.toNat).length
        · rw [mI_uI, if_neg (by omega), gA_l ci]; exact e.2 i ci
        · rw [mI_uI, if_pos ⟨rfl, by omega⟩, gA_r (by omega), show i - (L ++ D.take k.toNat).length = 0 by omega, List.getD_eq_getElem?_getD, List.getElem?_eq_getElem hk]; rfl
