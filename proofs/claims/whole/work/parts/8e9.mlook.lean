/-! ===== the reference: an argument, what comes out, what is the same ===== -/
theorem e_in {v lo hi : Int} {P : Int → Prop} (hy : lo ≤ v ∧ v ≤ hi → P 1) (hn : ¬ (lo ≤ v ∧ v ≤ hi) → P 0) : F_X12_in v lo hi P := by
  refine i_in ?_
  unfold tb
  split
  · next c => exact hy c
  · next c => exact hn c
theorem e_gone {u : Mu} {s : Int} {E : Int → Sh} {V : Int → Int → Int → Lit} {q0 : Int} {ps : List Prt} {j : Nat} {P : Int → Prop} (h : EvM u s E V q0 ps) (hj : j < ps.length) (c : (ps.getD j pd0).1 = 16) (h81 : mI u 0 81 = s) (hn : spP (E (ps.getD j pd0).2.2.2.2.2) (ps.getD j pd0) = none → P 1) (hy : spP (E (ps.getD j pd0).2.2.2.2.2) (ps.getD j pd0) ≠ none → P 0) : F_X12_isGone (q0 + j) u P := by
  unfold F_X12_isGone F_X12_isGone_17
  rw [h81]
  obtain ⟨⟨m1, m2, m3, m4⟩, -⟩ := h.2.2.1.2 j hj (Or.inl c)
  refine e_spot h hj c (fun e => ?_) (fun r k e => ?_)
  · rw [if_neg (by decide)]; exact ⟨Or.inr rfl, hn e⟩
  · have := spP_b m2 e
    rw [if_pos (by omega)]; exact ⟨Or.inl rfl, hy (by rw [e]; exact fun w => by cases w)⟩
theorem kM_45 {p : Prt} (h : WfP p) : (kM p = 4 ↔ p.1 = 15) ∧ (kM p = 5 ↔ p.1 = 16) := by
  unfold kM
  have h1 := h.1
  by_cases c : p.1 = 14
  · rw [if_pos c]
    have h2 := h.2.1
    revert h2
    cases p.2.2.1 with
    | none => exact fun h2 => absurd c h2
    | some l =>
      intro h2
      have := h2.2.1
      simp only
      omega
  · rw [if_neg c]
    constructor
    all_goals
      repeat' split
      all_goals omega
theorem svE_n {E : Int → Sh} {V : Int → Int → Int → Lit} {ps : List Prt} {j : Nat} (c : (ps.getD j pd0).1 = 16) (na : ¬ alnP ps j) : (svE E V ps j).isNone = true ↔ spP (E (ps.getD j pd0).2.2.2.2.2) (ps.getD j pd0) = none := by
  unfold svE
  rw [if_pos ⟨c, na⟩]
  cases spP (E (ps.getD j pd0).2.2.2.2.2) (ps.getD j pd0) with
  | none => exact ⟨fun _ => rfl, fun _ => rfl⟩
  | some t => exact ⟨fun w => (by cases w), fun w => (by cases w)⟩
theorem e_countOne {u : Mu} {s : Int} {E : Int → Sh} {V : Int → Int → Int → Lit} {q0 : Int} {ps : List Prt} {j : Nat} {d op : Int} {xs : List Int} {P : Int → Mu → Prop} (h : EvM u s E V q0 ps) (hj : j < ps.length) (na : ¬ alnP ps j) (d0 : 0 ≤ d) (d1 : d < 200) (H : HdM u d (EvA E V ps j)) (hc : CtM u op xs) (h81 : mI u 0 81 = s) (hl : xs.length ≤ 90000) (hy : ∀ ys, onT op (EvA E V ps j) (decide ((ps.getD j pd0).1 = 15 ∨ ((ps.getD j pd0).1 = 16 ∧ (svE E V ps j).isNone = true))) xs = .inr ys → ∀ v, FrT (fun e => e = d) u v → CtM v op ys → mI v 0 81 = mI u 0 81 → P 1 v) (hn : ∀ e, onT op (EvA E V ps j) (decide ((ps.getD j pd0).1 = 15 ∨ ((ps.getD j pd0).1 = 16 ∧ (svE E V ps j).isNone = true))) xs = .inl e → ∀ v, FrT (fun e => e = d) u v → HdM v d e → P 0 v) : F_X12_countOne (op + 12) (q0 + j) d u P := by
  have ok := EvM_V h hj
  obtain ⟨g1, g2, g3, g4⟩ := E_op h hj
  have k45 := kM_45 g1.2.2.2.2.2.2.2.2.2
  have ev := evV_s (sv := svE E V ps) (av := avE E V ps) (pl := plE E ps) h.2.2.2.1 hj
  have no0 : ∀ (y v : Mu) (z : List Int), CtM v op z → True := fun _ _ _ _ => trivial
  unfold F_X12_countOne
  by_cases c24 : op = 24
  · rw [if_pos (by omega)]
    unfold onT at hy hn
    rw [if_pos c24] at hy hn
    refine ⟨d0, d1, ?_⟩
    have k59 : ¬ ((ps.getD j pd0).1 = 15 ∨ ((ps.getD j pd0).1 = 16 ∧ (svE E V ps j).isNone = true)) → F_X12_countOne_59 (op + 12) d u P := by
      intro na2
      rw [if_neg (by rw [decide_eq_false na2]; decide)] at hy
      unfold F_X12_countOne_59 F_X12_countOne_60 F_X12_countOne_78 F_X12_countOne_88
      refine ⟨d0, d1, ?_⟩
      rw [H.1]
      by_cases c1 : (EvA E V ps j).1 = 1
      · rw [if_pos c1]
        rw [if_pos c1] at hy
        refine e_count d0 d1 hc (H.2.2 (Or.inl c1)) (by omega) (fun v f cv eq => ?_)
        rw [if_pos rfl]
        exact ⟨Or.inr rfl, hy _ rfl v (FrS_mo f (fun _ w => w.elim)) cv (eq 81 (by omega))⟩
      · rw [if_neg c1, if_pos rfl]
        rw [if_neg c1] at hy
        exact ⟨Or.inr rfl, hy _ rfl u FrS_rf hc rfl⟩
    have k55 : ((ps.getD j pd0).1 = 15 ∨ ((ps.getD j pd0).1 = 16 ∧ (svE E V ps j).isNone = true)) → (EvA E V ps j).1 = 4 → EvA E V ps j = erL 1 → F_X12_countOne_55 (op + 12) d u P := by
      intro ya c4 e1
      rw [if_pos (decide_eq_true ya)] at hn
      unfold F_X12_countOne_55 F_X12_countOne_60 F_X12_countOne_78 F_X12_countOne_88
      refine ⟨d0, d1, ?_⟩
      rw [H.1, if_neg (by omega), if_neg (by decide)]
      exact ⟨Or.inl rfl, hn _ rfl u FrS_rf (by rw [e1] at H; exact H)⟩
    have e15 : ((ps.getD j pd0).1 = 15 ∨ ((ps.getD j pd0).1 = 16 ∧ (svE E V ps j).isNone = true)) → EvA E V ps j = erL 1 := by
      rintro (c | ⟨c, c2⟩)
      · show evV _ _ _ _ _ = _; rw [ev, st_15 (Or.inl c)]
      · show evV _ _ _ _ _ = _; rw [ev, st_16 c, Option.isNone_iff_eq_none.mp c2]; rfl
    rw [H.1]
    by_cases c4 : (EvA E V ps j).1 = 4
    · rw [if_pos c4, H.2.2 (Or.inr (Or.inr c4))]
      refine ⟨d0, d1, ?_⟩
      by_cases c1 : (EvA E V ps j).2.1 = 1
      · rw [if_pos c1]
        have e1 : EvA E V ps j = erL 1 := by rw [(VOk_e ok c4).1, c1]
        refine ⟨g3, g4, ?_⟩
        rw [g1.1]
        by_cases k4 : (ps.getD j pd0).1 = 15
        · rw [if_pos (k45.1.mpr k4)]; exact k55 (Or.inl k4) c4 e1
        rw [if_neg (fun w => k4 (k45.1.mp w))]
        by_cases k5 : (ps.getD j pd0).1 = 16
        · rw [if_pos (k45.2.mpr k5)]
          refine e_gone h hj k5 h81 (fun e => ?_) (fun e => ?_)
          · rw [if_neg (by decide)]; exact k55 (Or.inr ⟨k5, (svE_n k5 na).mpr e⟩) c4 e1
          · rw [if_pos rfl]
            refine k59 ?_
            rintro (w | ⟨-, w⟩)
            · exact k4 w
            · exact e ((svE_n k5 na).mp w)
        · rw [if_neg (fun w => k5 (k45.2.mp w))]
          exact k59 (by rintro (w | ⟨w, -⟩); exact k4 w; exact k5 w)
      · rw [if_neg c1]
        exact k59 (fun w => c1 (by rw [e15 w]; rfl))
    · rw [if_neg c4]
      exact k59 (fun w => c4 (by rw [e15 w]; rfl))
  · rw [if_neg (by omega)]
    unfold onT at hy hn
    rw [if_neg c24] at hy hn
    refine e_wTs ?_
    unfold F_X12_countOne_109 F_X12_countOne_122
    by_cases c3 : op = 19 ∨ op = 20
    · have w3 : wtK op = 3 := by unfold wtK; rw [if_pos c3]
      rw [w3] at hy hn
      rw [if_pos w3, if_neg (by decide)]
      refine e_wantsT d0 d1 ok H (fun c v f hv => ?_) (fun c v f hv => ?_)
      · rw [if_neg (by decide)]
        rw [if_pos c] at hy
        refine e_count d0 d1 (CtM_c (CoS2_f f) hc) (hv.2.2 (Or.inr (Or.inl rfl))) (by omega) (fun y g cy eq => ?_)
        exact ⟨Or.inr rfl, hy _ rfl y (FrS_tr (FrT_of f) (FrS_mo g (fun _ w => w.elim))) cy ((eq 81 (by omega)).trans (CoS2_f f).2.2.2.2.2)⟩
      · rw [if_pos rfl]
        rw [if_neg c] at hn
        exact ⟨Or.inl rfl, hn _ rfl v (FrT_of f) hv⟩
    · have w3 : wtK op = 1 := by unfold wtK; rw [if_neg c3]
      rw [w3] at hy hn
      rw [show (if wtK op = 3 then (1 : Int) else 0) = 0 from if_neg (by omega), if_pos rfl]
      refine e_wantsN d0 d1 ok H (fun c v f hv => ?_) (fun c v f hv => ?_)
      · rw [if_neg (by decide)]
        rw [if_pos c] at hy
        refine e_count d0 d1 (CtM_c (CoS2_f f) hc) (hv.2.2 (Or.inl rfl)) (by omega) (fun y g cy eq => ?_)
        exact ⟨Or.inr rfl, hy _ rfl y (FrS_tr (FrT_of f) (FrS_mo g (fun _ w => w.elim))) cy ((eq 81 (by omega)).trans (CoS2_f f).2.2.2.2.2)⟩
      · rw [if_pos rfl]
        rw [if_neg c] at hn
        exact ⟨Or.inl rfl, hn _ rfl v (FrT_of f) hv⟩
theorem all_1 : ∀ xs : List Int, (∀ x ∈ xs, x = 0 ∨ x = 1) → xs.all (fun x => decide (x = 1)) = xs.all (fun x => decide (x ≠ 0)) ∧ xs.any (fun x => decide (x = 1)) = xs.any (fun x => decide (x ≠ 0))
  | [], _ => ⟨rfl, rfl⟩
  | x :: xs, h => by
    have ih := all_1 xs (fun y hy => h y (List.mem_cons_of_mem _ hy))
    have e : decide (x = 1) = decide (x ≠ 0) := by
      rcases h x List.mem_cons_self with w | w <;> rw [w] <;> rfl
    rw [List.all_cons, List.all_cons, List.any_cons, List.any_cons, ih.1, ih.2, e]
    exact ⟨rfl, rfl⟩
theorem e_come {u : Mu} {d op : Int} {xs : List Int} {P : Mu → Prop} (d0 : 0 ≤ d) (d1 : d < 200) (hc : CtM u op xs) (ht : TOk op (.inr xs)) (hl : xs.length ≤ 100000) (h : ∀ v, FrS (fun e => e = d) u v → HdM v d (telV op xs) → P v) : F_X12_come (op + 12) d u P := by
  obtain ⟨c1, c2, c3, c4, c5⟩ := hc
  unfold telV at h
  unfold F_X12_come F_X12_come_99
  have q : op = 19 ∨ op = 20 → ∀ x ∈ xs, x = 0 ∨ x = 1 := fun w x hx => (ht x hx).2 (by unfold wtK; rw [if_pos w])
  by_cases o19 : op = 19
  · rw [if_pos (by omega), c4, (all_1 xs (q (Or.inl o19))).1]
    rw [if_pos o19] at h
    refine e_truth (t := xs.all (fun x => decide (x ≠ 0))) d0 d1 ?_ (fun v f hv => h v f hv)
    cases xs.all (fun x => decide (x ≠ 0)) <;> decide
  rw [if_neg (by omega)]
  rw [if_neg o19] at h
  by_cases o20 : op = 20
  · rw [if_pos (by omega), c5, (all_1 xs (q (Or.inr o20))).2]
    rw [if_pos o20] at h
    refine e_truth (t := xs.any (fun x => decide (x ≠ 0))) d0 d1 ?_ (fun v f hv => h v f hv)
    cases xs.any (fun x => decide (x ≠ 0)) <;> decide
  rw [if_neg (by omega)]
  rw [if_neg o20] at h
  by_cases o24 : op = 24
  · rw [if_pos (by omega), c1]
    rw [if_pos o24] at h
    refine e_number d0 d1 (fun v f hv => h v f ?_)
    unfold nuL at hv
    rw [if_neg (by omega)] at hv; exact hv
  rw [if_neg (by omega)]
  rw [if_neg o24] at h
  by_cases o21 : op = 21
  · rw [if_pos (by omega), c2]
    rw [if_pos o21] at h
    exact e_number d0 d1 (fun v f hv => h v f hv)
  rw [if_neg (by omega)]
  rw [if_neg o21] at h
  rw [c1]
  by_cases n : xs = []
  · rw [if_pos (by rw [n]; rfl)]
    rw [if_pos n] at h
    exact e_error d0 d1 (fun v f hv => h v f hv)
  · rw [if_neg (fun w => n (List.eq_nil_of_length_eq_zero (by omega))), c3 n]
    rw [if_neg n] at h
    have := (ht _ (besR_m op xs n)).1
    refine e_number d0 d1 (fun v f hv => h v f ?_)
    unfold nuL at hv
    rw [if_neg (by omega)] at hv; exact hv
/-- MATCH and COUNTIF -/
theorem e_isLike {u : Mu} {d x : Int} {w c : Lit} {P : Int → Mu → Prop} (d0 : 0 ≤ d) (d1 : d < 198) (x0 : 0 ≤ x) (x1 : x < 13120) (hw : VOk w) (H : HdM u d w) (hc : CvM u x c) (h : ∀ v, FrS (fun e => e = d + 1 ∨ e = d + 2) u v → P (if lkV w c = true then 1 else 0) v) : F_X12_isLike d x u P := by
  have lk : lkV w c = decide (c.1 ≠ 4 ∧ (asO c w).1 = (asO w c).1 ∧ ordV (asO c w) (asO w c) = 0) := rfl
  unfold F_X12_isLike
  rw [w32e (x := d + 1) (by omega) (by omega), w32e (x := d + 2) (by omega) (by omega)]
  refine e_load (by omega) (by omega) x0 x1 hc.2 hc.1 (fun v f K => ?_)
  have fa : FrS (fun e => e = d + 1 ∨ e = d + 2) u v := FrS_mo f (fun e he => Or.inl he)
  refine ⟨by omega, by omega, ?_⟩
  rw [K.1]
  by_cases c4 : c.1 = 4
  · rw [if_pos c4]
    have := h v fa
    rw [if_neg (by rw [lk, decide_eq_false (fun z => z.1 c4)]; decide)] at this
    exact this
  rw [if_neg c4]
  have H1 := HdM_f f (by show ¬ d = d + 1; omega) (fun _ => (VOk_b hw).1) H
  refine e_bring d0 (by omega) (by omega) (by omega) (VOk_b hw).1 H1 (fun v2 f2 H2 => ?_)
  have K2 := HdM_f f2 (by show ¬ d + 1 = d + 2; omega) (fun _ => (VOk_b hc.2).1) K
  refine e_asO (by omega) (by omega) (by omega) (by omega) K2 H2 (fun v3 f3 K3 => ?_)
  have H3 := HdM_f f3 (by show ¬ d + 2 = d + 1; omega) (fun _ => (VOk_b hw).1) H2
  refine e_asO (by omega) (by omega) (by omega) (by omega) H3 K3 (fun v4 f4 H4 => ?_)
  rw [asO_k] at H4
  have K4 := HdM_f f4 (by show ¬ d + 1 = d + 2; omega) (fun _ => (VOk_b (VOk_asO hc.2)).1) K3
  have fz : FrS (fun e => e = d + 1 ∨ e = d + 2) u v4 := FrS_tr (FrS_tr (FrS_tr fa (FrS_mo f2 (fun e he => Or.inr he))) (FrS_mo f3 (fun e he => Or.inl he))) (FrS_mo f4 (fun e he => Or.inr he))
  have fin := h v4 fz
  refine ⟨by omega, by omega, ?_⟩
  rw [K4.1, H4.1]
  unfold F_X12_isLike_86 F_X12_isLike_87
  by_cases ck : (asO c w).1 = (asO w c).1
  · rw [if_pos ck]
    refine e_order (by omega) (by omega) (by omega) (by omega) (VOk_asO hc.2) (VOk_asO hw) K4 H4 ck ?_
    by_cases co : ordV (asO c w) (asO w c) = 0
    · rw [if_pos co]
      rw [if_pos (by rw [lk]; exact decide_eq_true ⟨c4, ck, co⟩)] at fin
      exact ⟨Or.inr rfl, fin⟩
    · rw [if_neg co]
      rw [if_neg (by rw [lk, decide_eq_false (fun z => co z.2.2)]; decide)] at fin
      exact ⟨Or.inl rfl, fin⟩
  · rw [if_neg ck]
    rw [if_neg (by rw [lk, decide_eq_false (fun z => ck z.2.1)]; decide)] at fin
    exact ⟨Or.inl rfl, fin⟩
