/-! ===== the system: a formula is worked out ===== -/
theorem ar_sp {h : Sh} {p : Prt} (w : WfP p) (c : p.1 = 16) : (spP h p = none → arP h p = none) ∧ ∀ r q, spP h p = some (r, q) → arP h p = some (r, r, q, q) := by
  obtain ⟨e1, e2, -⟩ := w.2.2.2.1 c
  unfold spP arP
  rw [e1, e2]
  have m1 : ∀ x : Int, mnI x x = x := fun x => by unfold mnI; rw [if_pos (Int.le_refl x)]
  have m2 : ∀ x : Int, mxI x x = x := fun x => by unfold mxI; rw [if_pos (Int.le_refl x)]
  by_cases cc : plS h 0 (p.2.2.2.1.1 - 1) < 0 ∨ plS h 1 (p.2.2.2.1.2.1 - 1) < 0
  · rw [if_pos cc, if_pos (by omega)]; exact ⟨fun _ => rfl, fun r q e => (by cases e)⟩
  · rw [if_neg cc, if_neg (by omega), m1, m1, m2, m2]
    refine ⟨fun e => (by cases e), fun r q e => ?_⟩
    injection e with e
    injection e with e1 e2
    rw [e1, e2]
section Wo
variable {z y : Z} {b sv sb : Nat → Nat} {J : Nat → Prop} {E : Int → Sh} {V : Int → Int → Int → Lit} {ps : List Prt} {pa : Nat}
theorem k9_alone {i : Nat} {P : Int → Prop} (H : EvC z b J sv sb E V ps pa) (hi : i < ps.length) (hy : alnP ps i → P 1) (hn : ¬ alnP ps i → P 0) : F_X9_standsAlone (b 4) (i : Int) z P := by
  obtain ⟨K, h9, ⟨f1, f2, f3, f4⟩, en, W, n1, n60⟩ := H
  unfold alnP at hy hn
  unfold F_X9_standsAlone F_X9_standsAlone_43 F_X9_standsAlone_47 F_X9_standsAlone_48
  refine ⟨cK K.1 4 rfl rfl, pa, h9, f2, ?_⟩
  rw [w32e (x := (i : Int) + 1) (by omega) (by omega), f3]
  by_cases c : (ps.length : Int) ≤ (i : Int) + 1
  · rw [if_pos c]
    have := op_out (ps := ps) (j := i + 1) (by omega)
    exact ⟨Or.inl rfl, hn (by omega)⟩
  · rw [if_neg c]
    obtain ⟨q, q1, q2⟩ := f4 (i + 1) (by omega)
    refine ⟨by omega, by omega, q, ?_, q2.2.1, ?_⟩
    · rw [show (i : Int) + 1 = ((i + 1 : Nat) : Int) by omega]; exact q1
    · rw [q2.2.2.1]
      by_cases c1 : (ps.getD (i + 1) pd0).1 = 29
      · rw [if_pos c1]; exact ⟨Or.inr rfl, hy (Or.inl c1)⟩
      · rw [if_neg c1]
        by_cases c2 : (ps.getD (i + 1) pd0).1 = 30
        · rw [if_pos c2]; exact ⟨Or.inr rfl, hy (Or.inr c2)⟩
        · rw [if_neg c2]; exact ⟨Or.inl rfl, hn (fun w => w.elim c1 c2)⟩
theorem k9_push {i T q : Nat} {P : Z → Prop} (H : EvC z b J sv sb E V ps pa) (hi : i < ps.length) (hq : PrtC z J q (ps.getD i pd0)) (h0 : (ps.getD i pd0).2.1 = 0) (hT : T < 60) (h10 : zI z (b 4) 10 = (T : Int)) (p : ∀ y, Ent y sv sb E V ps T i → zI y (b 4) 10 = (T : Int) + 1 → FrZ (WkT b sv sb T) z y → P y) : F_X9_push (b 4) (some q) (i : Int) z P := by
  have K := H.1
  have W := H.2.2.2.2.1
  have C := CX_4 K
  have wp := W.2 i hi
  have wa := WfP_a wp
  have S := K.2.2.1.1 T hT
  have sT := K.2.2.2.2.1 T hT 4 (by decide)
  unfold F_X9_push F_X9_push_144
  refine ⟨C.1, b 22, C.2.1, C.2.2.1, ?_⟩
  rw [h10, C.2.2.2, if_pos (by omega), S.1]
  refine ⟨by omega, by omega, fun z1 e1 => ?_⟩
  rw [w32e (x := (T : Int) + 1) (by omega) (by omega)] at e1
  have f1 : FrZ (WB b [(4, some 10)]) z z1 := by rw [e1]; exact FrZ_wI FrZ_rf (Or.inl (WB_i (by decide) (by decide)))
  have fK : FrZ (WkW b sv sb) z z1 := wk_w (by decide) f1
  have fT : FrZ (WkT b sv sb T) z z1 := wt_w (by decide) f1
  have H1 := EvC_wk H fK
  have K1 := H1.1
  have B1 := (K1.2.2.1.1 T hT).2
  have t1 : zI z1 (b 4) 10 = (T : Int) + 1 := by rw [e1, zI_wI, if_pos ⟨rfl, rfl⟩]
  have hq1 : PrtC z1 J q (ps.getD i pd0) := PrtC_fr fK (fun a i ha => wk_J K ha i) hq
  -- slot T is written after
  have top : ∀ {u v : Z}, zI u (b 4) 10 = (T : Int) + 1 → zK u (b 4) ≠ 0 → FrZ (VW (sv T) (sb T)) u v → zI v (b 4) 10 = (T : Int) + 1 := fun {u v} hu hk f => by
    refine (f.2 (b 4) 10 hk ?_).1.trans hu
    rintro (w | w)
    · exact sT.1 w.1.symm
    · exact sT.2 w.symm
  have k41 : zK z1 (b 4) ≠ 0 := by rw [cK K1.1 4 rfl rfl]; decide
  have ev := evV_s (sv := svE E V ps) (av := avE E V ps) (pl := plE E ps) W hi
  have plc : (ps.getD i pd0).1 = 17 ∨ ((ps.getD i pd0).1 = 16 ∧ alnP ps i) → F_X9_push_86 (i : Int) (some (sv T)) z1 P := fun c => by
    unfold F_X9_push_86 F_X9_push_144
    refine ⟨sv T, rfl, B1.1, k_set B1 (by decide) (fun u g1 g2 g3 => p u ⟨fun _ => VX_of B1 g3 g1, fun n => absurd c n⟩ (top t1 k41 g3) (FrZ_tr fT (wt_m (Nat.le_refl _) hT g3)))⟩
  have ref : ∀ u, FrZ (WkT b sv sb T) z u → zI u (b 4) 10 = (T : Int) + 1 → EvA E V ps i = erL 1 → ((ps.getD i pd0).1 = 15 ∨ ((ps.getD i pd0).1 = 16 ∧ (svE E V ps i).isNone = true)) → ¬ ((ps.getD i pd0).1 = 17 ∨ ((ps.getD i pd0).1 = 16 ∧ alnP ps i)) → F_X9_push_133 (some (sv T)) u P := fun u fu hu ee ca cn => by
    have Ku := WkC_fr K (wt_W fu)
    have Bu := (Ku.2.2.1.1 T hT).2
    unfold F_X9_push_133 F_X9_push_144
    refine ⟨sv T, rfl, Bu.1, k_set Bu (by decide) (fun v g1 g2 g3 => ?_)⟩
    have Bv := VlB_fr Bu g3
    refine ⟨sv T, rfl, Bv.1, fun v2 e2 => ?_⟩
    have f2 : FrZ (VW (sv T) (sb T)) v v2 := by rw [e2]; exact FrZ_wI FrZ_rf (Or.inl (Or.inl ⟨rfl, Or.inr (Or.inr rfl)⟩))
    have V2 : VlS v2 (sv T) (sb T) (4, 1, []) := by
      obtain ⟨⟨a1, a2, a3, a4⟩, a5⟩ := g1
      have ne := VlB_ne Bv
      refine ⟨⟨(f2.1 (sv T) (by rw [a1]; decide)).1.trans a1, ?_, ?_, (f2.1 (sb T) (by rw [a4]; decide)).1.trans a4⟩, ?_⟩
      · rw [e2, zI_wI, if_neg (fun w => absurd w.2 (by decide))]; exact a2
      · rw [e2]; exact a3
      · unfold VlT at a5 ⊢
        rw [if_neg (by show ¬ (4 : Int) = 2; decide)] at a5 ⊢
        rw [e2]; exact a5
    refine p v2 ⟨fun n => absurd n cn, fun _ => ⟨?_, ?_⟩⟩ ?_ (FrZ_tr fu (wt_m (Nat.le_refl _) hT (FrZ_tr g3 f2)))
    · rw [ee]; exact VX_of Bu (FrZ_tr g3 f2) V2
    · rw [if_pos (decide_eq_true ca), e2, zI_wI, if_pos ⟨rfl, rfl⟩]
    · exact top hu (by rw [cK Ku.1 4 rfl rfl]; decide) (FrZ_tr g3 f2)
  obtain ⟨q1, q2, q3, q4, q5, q6⟩ := hq1
  have c60 : (ps.getD i pd0).1 ≠ 14 → F_X9_push_60 (b 4) (some q) (i : Int) (some (sv T)) z1 P := fun c14 => by
    unfold F_X9_push_60
    refine ⟨q, rfl, q2, ?_⟩
    rw [q3]
    by_cases c17 : (ps.getD i pd0).1 = 17
    · rw [if_pos c17]; exact plc (Or.inl c17)
    rw [if_neg c17]
    have c97 : ¬ ((ps.getD i pd0).1 = 16 ∧ alnP ps i) → F_X9_push_97 (b 4) (some q) (some (sv T)) z1 P := fun na => by
      have npl : ¬ ((ps.getD i pd0).1 = 17 ∨ ((ps.getD i pd0).1 = 16 ∧ alnP ps i)) := fun w => w.elim c17 na
      unfold F_X9_push_97 F_X9_push_144
      refine ⟨q, rfl, q2, ?_⟩
      rw [q3]
      by_cases c16 : (ps.getD i pd0).1 = 16
      · rw [if_pos c16]
        have nal : ¬ alnP ps i := fun w => na ⟨c16, w⟩
        have ee : EvA E V ps i = liV (svE E V ps i) := by show evV _ _ _ _ _ = _; rw [ev, st_16 c16]
        obtain ⟨sh, s1, s2, s3, -⟩ := H1.2.2.2.1 i hi (Or.inl c16)
        obtain ⟨a1, a2⟩ := ar_sp (h := E (ps.getD i pd0).2.2.2.2.2) wp c16
        have esv : svE E V ps i = (spP (E (ps.getD i pd0).2.2.2.2.2) (ps.getD i pd0)).map (fun t => V (ps.getD i pd0).2.2.2.2.2 t.1 t.2) := by unfold svE; exact if_pos ⟨c16, nal⟩
        refine ⟨cK K1.1 4 rfl rfl, k9_finds K1 ⟨q1, q2, q3, q4, q5, q6⟩ s1 s2 (fun e u fu => ?_) (fun t c l r e u fu F => ?_)⟩
        · rw [if_pos rfl]
          have en : svE E V ps i = none := by
            rw [esv]
            match hsp : spP (E (ps.getD i pd0).2.2.2.2.2) (ps.getD i pd0) with
            | none => rfl
            | some (r, c) => rw [a2 r c hsp] at e; cases e
          have fu' : FrZ (WkT b sv sb T) z1 u := wt_w (by decide) fu
          refine ref u (FrZ_tr fT fu') ?_ (by rw [ee, en]; rfl) (Or.inr ⟨c16, by rw [en]; rfl⟩) npl
          refine (fu.2 (b 4) 10 k41 ?_).1.trans t1
          intro w
          obtain ⟨t, h1, -, h3⟩ := (WB_4 (by decide) w).2
          simp only [wFi, List.mem_cons, List.not_mem_nil, or_false] at h1
          rcases h1 with ht | ht | ht | ht | ht <;> subst ht <;> (rcases h3 with h3 | h3 <;> (first | (cases h3; done) | (injection h3 with h3; omega)))
        · rw [if_neg (by decide)]
          have hb := ShC_b s2
          match hsp : spP (E (ps.getD i pd0).2.2.2.2.2) (ps.getD i pd0) with
          | none => rw [a1 hsp] at e; cases e
          | some (r', c') =>
            rw [a2 r' c' hsp] at e
            injection e with e
            injection e with x1 e
            injection e with x2 e
            injection e with x3 x4
            have sb' := spP_b hb hsp
            have Ku := WkC_fr K1 (wk_w (by decide) fu)
            have Bu := (Ku.2.2.1.1 T hT).2
            obtain ⟨F1, F2, F3, F4, F5⟩ := F
            rw [F2, F4, ← x1, ← x3]
            refine ⟨cK Ku.1 4 rfl rfl, ?_⟩
            have hcx := CvL_wk K1 (wk_w (by decide) fu) s2 (s3 c16 nal r' c' hsp)
            refine k9_met Ku F1 (ShC_wk K1 (wk_w (by decide) fu) s2) (by omega) (by omega) (by omega) (by omega) hcx (fun v vb Vv nv => ⟨sv T, rfl, Bu.1, ?_⟩)
            have tu : zI u (b 4) 10 = (T : Int) + 1 := by
              refine (fu.2 (b 4) 10 k41 ?_).1.trans t1
              intro w
              obtain ⟨t, h1, -, h3⟩ := (WB_4 (by decide) w).2
              simp only [wFi, List.mem_cons, List.not_mem_nil, or_false] at h1
              rcases h1 with ht | ht | ht | ht | ht <;> subst ht <;> (rcases h3 with h3 | h3 <;> (first | (cases h3; done) | (injection h3 with h3; omega)))
            refine k_take Bu Vv (fun _ => ⟨(VOk_b hcx.1).1, nv⟩) (fun u2 g1 g2 g3 => p u2 ⟨fun n => absurd n npl, fun _ => ⟨?_, ?_⟩⟩ (top tu (by rw [cK Ku.1 4 rfl rfl]; decide) g3) (FrZ_tr fT (FrZ_tr (wt_w (by decide) fu) (wt_m (Nat.le_refl _) hT g3))))
            · rw [ee, esv, hsp]; exact VX_of Bu g3 g1
            · rw [g2, if_neg]
              rw [decide_eq_true_eq, esv, hsp]
              rintro (w | w)
              · omega
              · cases w.2
      · rw [if_neg c16]
        have c15 : (ps.getD i pd0).1 = 15 := by
          have := wa.2.2
          omega
        refine ref z1 fT t1 ?_ (Or.inl c15) npl
        show evV _ _ _ _ _ = _
        rw [ev, st_15 (Or.inl c15)]
    by_cases c16 : (ps.getD i pd0).1 = 16
    · rw [if_pos c16]
      refine ⟨cK K1.1 4 rfl rfl, k9_alone H1 hi (fun ha => ?_) (fun ha => ?_)⟩
      · rw [if_neg (by decide)]; exact plc (Or.inr ⟨c16, ha⟩)
      · rw [if_pos rfl]; exact c97 (fun w => ha w.2)
    · rw [if_neg c16]; exact c97 (fun w => c16 w.1)
  refine ⟨q, rfl, q2, ?_⟩
  rw [q3]
  by_cases c14 : (ps.getD i pd0).1 = 14
  · rw [if_pos c14]
    have w2 := wp.2.1
    match hl : (ps.getD i pd0).2.2.1, q5, w2 with
    | none, _, w2 => exact absurd c14 w2
    | some l, q5, w2 =>
      obtain ⟨v, o, L⟩ := q5
      obtain ⟨iv, vb, ib, Vv⟩ := LitC_V L
      rw [o, if_neg (by simp)]
      refine ⟨sv T, rfl, B1.1, ?_⟩
      have ol := VOk_L w2.2
      refine k_take B1 Vv (fun _ => ⟨(VOk_b ol).1, by have := K1.2.2.2.2.2.1 vb ib Vv.1.2.2.2; omega⟩) (fun u g1 g2 g3 => p u ⟨fun n => absurd n (by omega), fun _ => ⟨?_, ?_⟩⟩ (top t1 k41 g3) (FrZ_tr fT (wt_m (Nat.le_refl _) hT g3)))
      · have : EvA E V ps i = l := by show evV _ _ _ _ _ = _; rw [ev, st_14 c14, hl]; rfl
        rw [this]; exact VX_of B1 g3 g1
      · rw [g2, if_neg]
        rw [decide_eq_true_eq]; omega
  · rw [if_neg c14]; exact c60 c14
end Wo
