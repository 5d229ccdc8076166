/-! ===== the reference: counting ===== -/
def CtM (u : Mu) (op : Int) (xs : List Int) : Prop := mI u 0 76 = (xs.length : Int) ∧ mG u 0 77 = sumR xs ∧ (xs ≠ [] → mG u 0 78 = besR op xs) ∧ mI u 0 79 = (if xs.all (fun x => decide (x = 1)) = true then 1 else 0) ∧ mI u 0 80 = (if xs.any (fun x => decide (x = 1)) = true then 1 else 0)
theorem CtM_c {u v : Mu} {op : Int} {xs : List Int} (c : CoS2 u v) (h : CtM u op xs) : CtM v op xs := by
  obtain ⟨h1, h2, h3, h4, h5⟩ := h
  obtain ⟨c1, c2, c3, c4, c5, -⟩ := c
  exact ⟨c1.trans h1, c2.trans h2, fun w => c3.trans (h3 w), c4.trans h4, c5.trans h5⟩
theorem e_count {u : Mu} {d op x : Int} {xs : List Int} {P : Mu → Prop} (d0 : 0 ≤ d) (d1 : d < 200) (hc : CtM u op xs) (hx : mG u 67 d = x) (hl : xs.length ≤ 100000) (h : ∀ v, FrT (fun _ => False) u v → CtM v op (x :: xs) → (∀ i, ¬ (76 ≤ i ∧ i ≤ 80) → mI v 0 i = mI u 0 i) → P v) : F_X12_count (op + 12) d u P := by
  obtain ⟨c1, c2, c3, c4, c5⟩ := hc
  have z0 : Z1 0 := Or.inl rfl
  have z1 : Z1 1 := Or.inr rfl
  have k97 : ∀ w a o : Int, ∀ y : Mu, FrT (fun _ => False) u y → (∀ i, ¬ (76 ≤ i ∧ i ≤ 80) → mI y 0 i = mI u 0 i) → mI y 0 76 = (xs.length : Int) → mG y 0 77 = sumR (x :: xs) → mG y 0 78 = besR op (x :: xs) → mI y 0 79 = a → a = (if (x :: xs).all (fun x => decide (x = 1)) = true then 1 else 0) → o = (if (x :: xs).any (fun x => decide (x = 1)) = true then 1 else 0) → F_X12_count_97 o y P := by
    intro _ a o y f e e76 e77 e78 e79 ha ho
    unfold F_X12_count_97
    refine ⟨by rw [ho]; split; exact z1; exact z0, fun v hv => ?_⟩
    subst hv
    intro v hv
    subst hv
    refine h _ (FrT_0 (FrT_0 f (by decide)) (by decide)) ⟨?_, e77, fun _ => e78, ?_, ?_⟩ (fun i hi => ?_)
    · rw [mI_uI, if_pos ⟨rfl, rfl⟩, mI_uI, if_neg (by omega), e76, w32e (by omega) (by omega), List.length_cons]; omega
    · rw [mI_uI, if_neg (by omega), mI_uI, if_neg (by omega), e79, ha]
    · rw [mI_uI, if_neg (by omega), mI_uI, if_pos ⟨rfl, rfl⟩, ho]
    · rw [mI_uI, if_neg (by omega), mI_uI, if_neg (by omega)]; exact e i hi
  have k75 : ∀ a : Int, ∀ y : Mu, FrT (fun _ => False) u y → (∀ i, mI y 0 i = mI u 0 i) → mG y 0 77 = sumR (x :: xs) → mG y 0 78 = besR op (x :: xs) → a = (if (x :: xs).all (fun x => decide (x = 1)) = true then 1 else 0) → F_X12_count_75 x a y P := by
    intro a y f e e77 e78 ha
    unfold F_X12_count_75 F_X12_count_92
    refine ⟨by rw [ha]; split; exact z1; exact z0, fun v hv => ?_⟩
    subst hv
    have go := fun o ho => k97 0 a o (uI y 0 79 a) (FrT_0 f (by decide)) (fun i hi => by rw [mI_uI, if_neg (by omega)]; exact e i) (by rw [mI_uI, if_neg (by omega), e]; exact c1) e77 e78 (by rw [mI_uI, if_pos ⟨rfl, rfl⟩]) ha ho
    by_cases hb : xs.any (fun x => decide (x = 1)) = true
    · have e80 : mI (uI y 0 79 a) 0 80 = 1 := by rw [mI_uI, if_neg (by omega), e, c5, if_pos hb]
      rw [e80, if_neg (by decide)]
      exact go 1 (by rw [List.any_cons, hb, Bool.or_true]; rfl)
    · have e80 : mI (uI y 0 79 a) 0 80 = 0 := by rw [mI_uI, if_neg (by omega), e, c5, if_neg hb]
      rw [e80, if_pos rfl]
      have hb := Bool.eq_false_iff.mpr hb
      by_cases cx : x = 1
      · rw [if_pos cx]; exact go 1 (by rw [List.any_cons, decide_eq_true cx, Bool.true_or]; rfl)
      · rw [if_neg cx]; exact go 0 (by rw [List.any_cons, decide_eq_false cx, hb]; rfl)
  have k56 : ∀ y : Mu, FrT (fun _ => False) u y → (∀ i, mI y 0 i = mI u 0 i) → mG y 0 77 = sumR (x :: xs) → mG y 0 78 = besR op (x :: xs) → F_X12_count_56 x y P := by
    intro y f e e77 e78
    unfold F_X12_count_56 F_X12_count_74
    have go := fun a ha => k75 a y f e e77 e78 ha
    by_cases hb : xs.all (fun x => decide (x = 1)) = true
    · have e79 : mI y 0 79 = 1 := by rw [e, c4, if_pos hb]
      rw [e79, if_neg (by decide)]
      by_cases cx : x = 1
      · rw [if_pos cx]; exact go 1 (by rw [List.all_cons, decide_eq_true cx, hb]; rfl)
      · rw [if_neg cx]; exact go 0 (by rw [List.all_cons, decide_eq_false cx, Bool.false_and]; rfl)
    · have e79 : mI y 0 79 = 0 := by rw [e, c4, if_neg hb]
      rw [e79, if_pos rfl]
      have hb := Bool.eq_false_iff.mpr hb
      exact go 0 (by rw [List.all_cons, hb, Bool.and_false]; rfl)
  unfold F_X12_count
  rw [hx]
  refine ⟨d0, d1, fun y hy => ?_⟩
  subst hy
  have f1 : FrT (fun _ => False) u (uG u 0 77 (w64 (mG u 0 77 + x))) := FrT_g0 FrS_rf (by decide)
  have e77 : mG (uG u 0 77 (w64 (mG u 0 77 + x))) 0 77 = sumR (x :: xs) := by rw [mG_uG, if_pos ⟨rfl, rfl⟩, c2]; rfl
  have k51 : besR op (x :: xs) = x → F_X12_count_51 x (uG u 0 77 (w64 (mG u 0 77 + x))) P := by
    intro hb
    unfold F_X12_count_51
    intro y hy
    subst hy
    exact k56 _ (FrT_g0 f1 (by decide)) (fun i => rfl) (by rw [mG_uG, if_neg (by omega)]; exact e77) (by rw [mG_uG, if_pos ⟨rfl, rfl⟩, hb])
  have k0 : xs ≠ [] → besR op (x :: xs) = besR op xs → F_X12_count_56 x (uG u 0 77 (w64 (mG u 0 77 + x))) P := by
    intro hn hb
    exact k56 _ f1 (fun i => rfl) e77 (by rw [mG_uG, if_neg (by omega), c3 hn, hb])
  rw [show mI (uG u 0 77 (w64 (mG u 0 77 + x))) 0 76 = mI u 0 76 from rfl, c1, show mG (uG u 0 77 (w64 (mG u 0 77 + x))) 0 78 = mG u 0 78 by rw [mG_uG, if_neg (by omega)]]
  by_cases cn : xs = []
  · rw [if_pos (by rw [cn]; rfl)]
    exact k51 (by rw [besR, if_pos (Or.inl cn)])
  rw [if_neg (fun w => cn (List.eq_nil_of_length_eq_zero (by omega))), c3 cn]
  by_cases c22 : op = 22
  · rw [if_pos (by omega)]
    by_cases c : besR op xs ≤ x
    · rw [if_pos c]
      exact k0 cn (by rw [besR, if_neg (by rw [if_pos c22]; rintro (w | w); exact cn w; omega)])
    · rw [if_neg c]
      exact k51 (by rw [besR, if_pos (by rw [if_pos c22]; right; omega)])
  · rw [if_neg (by omega)]
    by_cases c : x ≤ besR op xs
    · rw [if_pos c]
      exact k0 cn (by rw [besR, if_neg (by rw [if_neg c22]; rintro (w | w); exact cn w; omega)])
    · rw [if_neg c]
      exact k51 (by rw [besR, if_pos (by rw [if_neg c22]; right; omega)])
theorem e_wTs {op : Int} {P : Int → Prop} (h : P (if wtK op = 3 then 1 else 0)) : F_X12_wantsTruths (op + 12) P := by
  unfold wtK at h
  unfold F_X12_wantsTruths F_X12_wantsTruths_12 F_X12_wantsTruths_17
  by_cases c : op = 19
  · rw [if_pos (by omega)]
    rw [if_pos (Or.inl c)] at h
    exact ⟨Or.inr rfl, h⟩
  rw [if_neg (by omega)]
  by_cases c2 : op = 20
  · rw [if_pos (by omega)]
    rw [if_pos (Or.inr c2)] at h
    exact ⟨Or.inr rfl, h⟩
  rw [if_neg (by omega)]
  rw [if_neg (by omega)] at h
  exact ⟨Or.inl rfl, h⟩
theorem fold_td {A B : Type} (f : B → A → B) (L : List A) (k : Nat) (a : B) : L.foldl f a = (L.drop k).foldl f ((L.take k).foldl f a) := by
  rw [← List.foldl_append, List.take_append_drop]
theorem fold_tk {A B : Type} (f : B → A → B) {L : List A} {k : Nat} (h : k < L.length) (d : A) (a : B) : (L.take (k + 1)).foldl f a = f ((L.take k).foldl f a) (L.getD k d) := by
  rw [List.take_add_one, List.foldl_append, List.getElem?_eq_getElem h, List.getD_eq_getElem?_getD, List.getElem?_eq_getElem h]; rfl
theorem celS_i (op : Int) (xs : List Int) (c : Lit) : celS op (.inr xs) c = if c.1 = 4 ∧ op ≠ 24 then .inl c else if c.1 = wtK op then .inr (c.2.1 :: xs) else .inr xs := rfl
theorem celS_e {op : Int} {e : Lit} : ∀ L : List Lit, L.foldl (celS op) (.inl e) = .inl e
  | [] => rfl
  | c :: L => by rw [List.foldl_cons]; exact celS_e L
theorem argT_e {op : Int} {e : Lit} : ∀ L : List Itm, L.foldl (argT op) (.inl e) = .inl e
  | [] => rfl
  | c :: L => by rw [List.foldl_cons]; exact argT_e L
theorem cel_len {op : Int} {xs ys : List Int} {c : Lit} (h : celS op (.inr xs) c = .inr ys) : ys.length ≤ xs.length + 1 := by
  have := tlN_cel op (.inr xs) c
  rw [h] at this; exact this
theorem e_countArea {u : Mu} {d op x t b l r : Int} {V : Int → Int → Lit} {xs : List Int} {P : Int → Mu → Prop} (d0 : 0 ≤ d) (d1 : d < 200) (o : 19 ≤ op ∧ op ≤ 24) (A : ArM u x t b l r) (h1 : 0 ≤ t ∧ t ≤ b ∧ b < 32) (h2 : 0 ≤ l ∧ l ≤ r ∧ r < 10) (x0 : 0 ≤ x) (x1 : x ≤ 40) (hv : ∀ i j, t ≤ i → i ≤ b → l ≤ j → j ≤ r → CvM u (320 * x + 10 * i + j) (V i j)) (hc : CtM u op xs) (hl : xs.length ≤ 90000) (hy : ∀ ys, (arL V (t, b, l, r)).foldl (celS op) (.inr xs) = .inr ys → ∀ v, FrT (fun e => e = d) u v → CtM v op ys → mI v 0 81 = mI u 0 81 → P 1 v) (hn : ∀ e, (arL V (t, b, l, r)).foldl (celS op) (.inr xs) = .inl e → ∀ v, FrT (fun e => e = d) u v → HdM v d e → P 0 v) : F_X12_countArea (op + 12) d u P := by
  have ln := arL_len V (t := t) (b := b) (l := l) (r := r) (by omega) (by omega) (by omega) (by omega)
  have sz := ar_s (t := t) (b := b) (l := l) (r := r) (by omega) (by omega) (by omega) (by omega)
  generalize hL : arL V (t, b, l, r) = L at *
  unfold F_X12_countArea F_X12_countArea_2
  refine lp_I (fun s => (0 ≤ s.1 ∧ s.1 ≤ (L.length : Int)) ∧ FrT (fun e => e = d) u s.2 ∧ ArM s.2 x t b l r ∧ mI s.2 0 81 = mI u 0 81 ∧ ∃ ys, (L.take s.1.toNat).foldl (celS op) (.inr xs) = .inr ys ∧ CtM s.2 op ys ∧ (ys.length : Int) ≤ xs.length + s.1) (fun s => ((L.length : Int) - s.1).toNat) ?_ _ ⟨⟨by show (0 : Int) ≤ 0; omega, by show (0 : Int) ≤ _; omega⟩, FrS_rf, A, rfl, xs, rfl, hc, by show (xs.length : Int) ≤ xs.length + 0; omega⟩
  rintro G ⟨k, w⟩ ⟨⟨k0, k1⟩, f, a, e81, ys, e1, e2, e3⟩ ih
  simp only at k0 k1 f a e81 e1 e2 e3
  show L_X12_countArea_2 (op + 12) d k w _
  unfold L_X12_countArea_2
  refine e_size a h1 h2 ?_
  rw [← ln]
  by_cases c : (L.length : Int) ≤ k
  · rw [if_pos c]
    have et : L.take k.toNat = L := List.take_of_length_le (by omega)
    rw [et] at e1
    exact hy ys e1 w f e2 e81
  rw [if_neg c]
  refine e_cell a h1 h2 x0 x1 k0 (by omega) ?_
  have ak := ar_k (t := t) (b := b) (l := l) (r := r) (k := k) (by omega) (by omega) k0 (by omega)
  have cv := hv _ _ ak.1.1 ak.1.2 ak.2.1 ak.2.2
  have hk : k.toNat < L.length := by omega
  have at0 : L.getD k.toNat (erL 1) = V (t + k / (r - l + 1)) (l + k % (r - l + 1)) := by
    have := arL_at V (t := t) (b := b) (l := l) (r := r) (k := k.toNat) (d := erL 1) (by rw [hL]; exact hk)
    rw [hL, Int.toNat_of_nonneg k0] at this; exact this
  rw [← at0] at cv
  have tk := fold_tk (celS op) hk (erL 1) (.inr xs)
  rw [e1] at tk
  generalize L.getD k.toNat (erL 1) = cl at *
  have td := fold_td (celS op) L (k.toNat + 1) (.inr xs)
  refine e_load d0 d1 (by omega) (by omega) cv.2 (CeM_f f.1 cv.1) (fun v g hd => ?_)
  have f2 := FrS_tr f (FrT_of g)
  have a2 := ArM_f g a
  have cs := CoS2_f g
  have e22 := CtM_c cs e2
  have e812 : mI v 0 81 = mI u 0 81 := cs.2.2.2.2.2.trans e81
  refine ⟨d0, d1, ?_⟩
  rw [hd.1]
  have k38 : ¬ (cl.1 = 4 ∧ op ≠ 24) → F_X12_countArea_38 (op + 12) d k v (fun o => match o with
    | .inl s' => G s'
    | .inr e => (match e with
      | (.inl u) => P 1 u
      | (.inr u) => P 0 u)) := by
    intro nc
    rw [celS_i, if_neg nc] at tk
    unfold F_X12_countArea_38
    refine ⟨d0, d1, e_wTs ?_⟩
    rw [hd.1]
    have k56 : F_X12_countArea_56 (op + 12) d k cl.1 (wtK op) v (fun o => match o with
      | .inl s' => G s'
      | .inr e => (match e with
        | (.inl u) => P 1 u
        | (.inr u) => P 0 u)) := by
      unfold F_X12_countArea_56 F_X12_countArea_65
      rw [w32e (by omega) (by omega)]
      by_cases ck : cl.1 = wtK op
      · rw [if_pos ck]
        rw [if_pos ck] at tk
        have wk : cl.1 = 1 ∨ cl.1 = 3 ∨ cl.1 = 4 := by unfold wtK at ck; split at ck <;> omega
        refine e_count d0 d1 e22 (hd.2.2 wk) (by omega) (fun y q cq eq => ?_)
        refine ih _ ⟨⟨by show 0 ≤ k + 1; omega, by show k + 1 ≤ _; omega⟩, FrS_tr f2 (FrS_mo q (fun _ w => w.elim)), ?_, ?_, cl.2.1 :: ys, ?_, cq, by show ((cl.2.1 :: ys).length : Int) ≤ xs.length + (k + 1); rw [List.length_cons]; omega⟩ (by show ((L.length : Int) - (k + 1)).toNat < ((L.length : Int) - k).toNat; omega)
        · obtain ⟨b1, b2, b3, b4, b5⟩ := a2
          exact ⟨(eq 71 (by omega)).trans b1, (eq 72 (by omega)).trans b2, (eq 73 (by omega)).trans b3, (eq 74 (by omega)).trans b4, (eq 75 (by omega)).trans b5⟩
        · exact (eq 81 (by omega)).trans e812
        · show (L.take (k + 1).toNat).foldl (celS op) (.inr xs) = _
          rw [show (k + 1).toNat = k.toNat + 1 by omega]; exact tk
      · rw [if_neg ck]
        rw [if_neg ck] at tk
        refine ih _ ⟨⟨by show 0 ≤ k + 1; omega, by show k + 1 ≤ _; omega⟩, f2, a2, e812, ys, ?_, e22, by show (ys.length : Int) ≤ xs.length + (k + 1); omega⟩ (by show ((L.length : Int) - (k + 1)).toNat < ((L.length : Int) - k).toNat; omega)
        show (L.take (k + 1).toNat).foldl (celS op) (.inr xs) = _
        rw [show (k + 1).toNat = k.toNat + 1 by omega]; exact tk
    unfold wtK at k56
    unfold wtK
    by_cases c3 : op = 19 ∨ op = 20
    · rw [if_pos c3] at k56; rw [if_pos c3, if_neg (by decide)]; exact k56
    · rw [if_neg c3] at k56; rw [if_neg c3, if_pos (by decide)]; exact k56
  by_cases c4 : cl.1 = 4
  · rw [if_pos c4]
    by_cases c24 : op = 24
    · rw [if_pos (by omega)]; exact k38 (fun w => w.2 c24)
    · rw [if_neg (by omega)]
      rw [celS_i, if_pos ⟨c4, c24⟩] at tk
      rw [tk, celS_e] at td
      exact hn cl td v f2 hd
  · rw [if_neg c4]; exact k38 (fun w => c4 w.1)
