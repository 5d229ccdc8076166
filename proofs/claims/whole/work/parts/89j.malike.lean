/-! ===== contents alike: the reference ===== -/
def ltN (o : Option Lit) : Int := match o with
  | none => 0
  | some l => l.2.1
def ltB (o : Option Lit) : List Int := match o with
  | none => []
  | some l => l.2.2
def ltK (o : Option Lit) : Int := match o with
  | none => 0
  | some l => l.1
theorem PliM_l {u : Mu} {q : Int} {o : Option Lit} (h0 : 0 ≤ mI u 0 19) (h : PliM u q o) : mG u 29 q = ltN o ∧ mI u 31 q = ((ltB o).length : Int) ∧ LetM u (mI u 30 q) (ltB o) := by
  cases o with
  | none =>
    obtain ⟨h1, h2, h3⟩ := h
    refine ⟨h1, h3, ?_⟩
    rw [h2]
    exact ⟨by decide, by show (0 : Int) + 0 ≤ _; omega, fun i hi => absurd hi (by show ¬ i < 0; omega)⟩
  | some l => exact h
theorem kM_op {p p' : Prt} (h : WfP p) (h' : WfP p') (e : kM p = kM p') : p.1 = p'.1 ∧ (p.1 = 14 → ltK p.2.2.1 = ltK p'.2.2.1) := by
  obtain ⟨op, ar, li, co, fx, vs⟩ := p
  obtain ⟨op', ar', li', co', fx', vs'⟩ := p'
  obtain ⟨a1, a2, -⟩ := h
  obtain ⟨b1, b2, -⟩ := h'
  unfold kM at e
  simp only at a1 a2 b1 b2 e ⊢
  cases li with
  | none =>
    cases li' with
    | none => simp only at a2 b2 e; exact ⟨by (repeat' split at e) <;> omega, fun w => absurd w a2⟩
    | some l' =>
      simp only at a2 b2 e
      have bk := b2.2.1
      have bo := b2.1
      exact ⟨by (repeat' split at e) <;> omega, fun w => absurd w a2⟩
  | some l =>
    cases li' with
    | none =>
      simp only at a2 b2 e
      have bk := a2.2.1
      have bo := a2.1
      have : op = op' := by (repeat' split at e) <;> omega
      exact ⟨this, fun w => by omega⟩
    | some l' =>
      simp only at a2 b2 e
      rw [if_pos a2.1, if_pos b2.1] at e
      exact ⟨by omega, fun _ => e⟩
theorem sw2_i {x y : Int} (hx : 0 ≤ x ∧ x ≤ 3) (hy : 0 ≤ y ∧ y ≤ 3) (e : sw2 x = sw2 y) : x = y := by
  unfold sw2 at e; (repeat' split at e) <;> omega
theorem sw2_b {x : Int} (hx : 0 ≤ x ∧ x ≤ 3) : 0 ≤ sw2 x ∧ sw2 x ≤ 3 := by
  unfold sw2; (repeat' split) <;> omega
theorem prt_i {p p' : Prt} {nx nx' : Int} (h : WfP p) (h' : WfP p') (ek : kM p = kM p') (ea : p.2.1 = p'.2.1) (en : ltN p.2.2.1 = ltN p'.2.2.1) (eb : ltB p.2.2.1 = ltB p'.2.2.1) (e1 : p.2.2.2.1.1 - 1 = p'.2.2.2.1.1 - 1) (e2 : p.2.2.2.1.2.1 - 1 = p'.2.2.2.1.2.1 - 1) (e3 : (if p.1 = 16 then -1 else p.2.2.2.1.2.2.1 - 1) = (if p'.1 = 16 then -1 else p'.2.2.2.1.2.2.1 - 1)) (e4 : (if p.1 = 16 then -1 else p.2.2.2.1.2.2.2 - 1) = (if p'.1 = 16 then -1 else p'.2.2.2.1.2.2.2 - 1)) (ef : fM p nx = fM p' nx') (ev : p.2.2.2.2.2 = p'.2.2.2.2.2) : p = p' := by
  obtain ⟨ko, kl⟩ := kM_op h h' ek
  obtain ⟨op, ar, li, ⟨r1, c1, r2, c2⟩, fx, vs⟩ := p
  obtain ⟨op', ar', li', ⟨r1', c1', r2', c2'⟩, fx', vs'⟩ := p'
  obtain ⟨a1, a2, a3, a4, -⟩ := h
  obtain ⟨b1, b2, b3, b4, -⟩ := h'
  unfold fM at ef
  simp only at a1 a2 a3 a4 b1 b2 b3 b4 ko kl ea en eb e1 e2 e3 e4 ef ev
  subst ko
  subst ea
  subst ev
  have hli : li = li' := by
    match li, li', a2, b2, kl, en, eb with
    | none, none, _, _, _, _, _ => rfl
    | none, some l', a2, b2, _, _, _ => exact absurd b2.1 a2
    | some l, none, a2, b2, _, _, _ => exact absurd a2.1 b2
    | some (x, y, t), some (x', y', t'), a2, b2, kl, en, eb =>
      have k1 : x = x' := kl a2.1
      have k2 : y = y' := en
      have k3 : t = t' := eb
      rw [k1, k2, k3]
  subst hli
  have g1 : r1 = r1' := by omega
  have g2 : c1 = c1' := by omega
  subst g1
  subst g2
  have s1 := sw2_b (x := fx % 4) (by omega)
  have s2 := sw2_b (x := fx / 4) (by omega)
  have s3 := sw2_b (x := fx' % 4) (by omega)
  have s4 := sw2_b (x := fx' / 4) (by omega)
  by_cases e16 : op = 16
  · obtain ⟨q1, q2, q3⟩ := a4 e16
    obtain ⟨q1', q2', q3'⟩ := b4 e16
    rw [if_pos e16, if_pos e16] at ef
    have : sw2 (fx % 4) = sw2 (fx' % 4) := by (repeat' split at ef) <;> omega
    have := sw2_i (by omega) (by omega) this
    have : fx = fx' := by omega
    rw [q1, q2, q1', q2', this]
  · rw [if_neg e16, if_neg e16] at e3 e4 ef
    have t1 : sw2 (fx % 4) = sw2 (fx' % 4) := by omega
    have t2 : sw2 (fx / 4) = sw2 (fx' / 4) := by omega
    have := sw2_i (by omega) (by omega) t1
    have := sw2_i (by omega) (by omega) t2
    have : fx = fx' := by omega
    have : r2 = r2' := by omega
    have : c2 = c2' := by omega
    subst_vars
    rfl
theorem PrtM_i {u : Mu} {q q' : Int} {p p' : Prt} {nx nx' : Int} (h0 : 0 ≤ mI u 0 19) (h : PrtM u q p nx) (h' : PrtM u q' p' nx') (ek : mI u 26 q = mI u 26 q') (ea : mI u 27 q = mI u 27 q') (en : mG u 29 q = mG u 29 q') (eb : ltB p.2.2.1 = ltB p'.2.2.1) (e1 : mI u 32 q = mI u 32 q') (e2 : mI u 33 q = mI u 33 q') (e3 : mI u 34 q = mI u 34 q') (e4 : mI u 35 q = mI u 35 q') (ef : mI u 36 q = mI u 36 q') (ev : mI u 37 q = mI u 37 q') : p = p' := by
  obtain ⟨a1, a2, a3, a4, a5, a6, a7, a8, a9, wa⟩ := h
  obtain ⟨b1, b2, b3, b4, b5, b6, b7, b8, b9, wb⟩ := h'
  have l1 := PliM_l h0 a3
  have l2 := PliM_l h0 b3
  exact prt_i (nx := nx) (nx' := nx') wa wb (by rw [← a1, ← b1, ek]) (by rw [← a2, ← b2, ea]) (by rw [← l1.1, ← l2.1, en]) eb (by rw [← a4, ← b4, e1]) (by rw [← a5, ← b5, e2]) (by rw [← a6, ← b6, e3]) (by rw [← a7, ← b7, e4]) (by rw [← a8, ← b8, ef]) (by rw [← a9, ← b9, ev])
theorem let_u {u : Mu} {q : Int} {a b : List Int} (h1 : LetM u q a) (h2 : LetM u q b) (le : a.length = b.length) : a = b := lst_e le (fun i hi => by rw [← h1.2.2 i hi, ← h2.2.2 i (by omega)])
theorem PrtM_u {u : Mu} {q : Int} {p p' : Prt} {nx nx' : Int} (h0 : 0 ≤ mI u 0 19) (h : PrtM u q p nx) (h' : PrtM u q p' nx') : p = p' := by
  have l1 := PliM_l h0 h.2.2.1
  have l2 := PliM_l h0 h'.2.2.1
  exact PrtM_i h0 h h' rfl rfl rfl (let_u l1.2.2 l2.2.2 (by have := l1.2.1; have := l2.2.1; omega)) rfl rfl rfl rfl rfl rfl
theorem ContM_u {u : Mu} {q : Int} {c d : Cont} (h0 : 0 ≤ mI u 0 19) (hm : mI u 0 25 ≤ 60420) (h1 : ContM u q c) (h2 : ContM u q d) : c = d := by
  match c, d, h1, h2 with
  | none, none, _, _ => rfl
  | none, some (k, l, ps), h1, h2 =>
    have h1' : q = 0 := h1
    unfold ContM at h2; simp only at h2
    split at h2
    · have := h2.1; omega
    · have := h2.1; omega
  | some (k, l, ps), none, h1, h2 =>
    have h2' : q = 0 := h2
    unfold ContM at h1; simp only at h1
    split at h1
    · have := h1.1; omega
    · have := h1.1; omega
  | some (k, l, ps), some (k', l', ps'), h1, h2 =>
    unfold ContM at h1 h2
    simp only at h1 h2
    by_cases e5 : k = 5
    · rw [if_pos e5] at h1
      obtain ⟨a1, a2, a3, a4, a5⟩ := h1
      by_cases e5' : k' = 5
      · rw [if_pos e5'] at h2
        obtain ⟨b1, b2, b3, b4, b5⟩ := h2
        have ep : ps = ps' := prt_e (by omega) (fun i hi => PrtM_u h0 (a5 i hi).1 (b5 i (by omega)).1)
        rw [e5, e5', a4, b4, ep]
      · rw [if_neg e5'] at h2
        have := h2.1; omega
    · rw [if_neg e5] at h1
      by_cases e5' : k' = 5
      · rw [if_pos e5'] at h2
        have := h2.1; have := h1.1; omega
      · rw [if_neg e5'] at h2
        obtain ⟨a1, a2, a3, a4, a5, a6, a7, a8⟩ := h1
        obtain ⟨b1, b2, b3, b4, b5, b6, b7, b8⟩ := h2
        have el : l.2.2 = l'.2.2 := let_u a8 b8 (by omega)
        obtain ⟨x, y, t⟩ := l
        obtain ⟨x', y', t'⟩ := l'
        simp only at a3 a6 b3 b6 el
        rw [a2, b2, ← a6, b6, a3, b3, el, ← a5, b5]
theorem i_sameParts {u : Mu} {q q' : Int} {p p' : Prt} {nx nx' : Int} {P : Int → Prop} (h0 : 0 ≤ mI u 0 19 ∧ mI u 0 19 ≤ 82400) (hq : 0 ≤ q ∧ q < 60420) (hq' : 0 ≤ q' ∧ q' < 60420) (h : PrtM u q p nx) (h' : PrtM u q' p' nx') (hy : p = p' → P 1) (hn : p ≠ p' ∨ nx ≠ nx' → P 0) : F_X12_sameParts q q' u P := by
  have l1 := PliM_l h0.1 h.2.2.1
  have l2 := PliM_l h0.1 h'.2.2.1
  have n0 : P 0 → F_X12_sameParts_211 0 u P := fun w => ⟨z1_0, w⟩
  have n1 : P 0 → F_X12_sameParts_175 q q' u P := fun w => by unfold F_X12_sameParts_175 F_X12_sameParts_176 F_X12_sameParts_210; rw [if_pos rfl]; exact n0 w
  have n2 : P 0 → F_X12_sameParts_135 q q' u P := fun w => by unfold F_X12_sameParts_135 F_X12_sameParts_136; rw [if_pos rfl]; exact n1 w
  have n3 : P 0 → F_X12_sameParts_65 q q' u P := fun w => by unfold F_X12_sameParts_65 F_X12_sameParts_66; rw [if_pos rfl]; exact n2 w
  have hd : ∀ {X Y : Prop}, (p = p' → nx = nx' → X) → ¬ X → P 0 := fun f g => hn (by
    by_cases e1 : p = p'
    · by_cases e2 : nx = nx'
      · exact absurd (f e1 e2) g
      · exact Or.inr e2
    · exact Or.inl e1)
  obtain ⟨a1, a2, a3, a4, a5, a6, a7, a8, a9, wa⟩ := id h
  obtain ⟨b1, b2, b3, b4, b5, b6, b7, b8, b9, wb⟩ := id h'
  unfold F_X12_sameParts
  refine ⟨hq.1, hq.2, hq'.1, hq'.2, ?_⟩
  by_cases c1 : mI u 26 q = mI u 26 q'
  case neg => rw [if_neg c1]; exact n3 (hd (Y := True) (fun e1 e2 => by rw [a1, b1, e1]) c1)
  rw [if_pos c1]
  refine ⟨hq.1, hq.2, hq'.1, hq'.2, ?_⟩
  by_cases c2 : mI u 27 q = mI u 27 q'
  case neg => rw [if_neg c2]; exact n3 (hd (Y := True) (fun e1 e2 => by rw [a2, b2, e1]) c2)
  rw [if_pos c2]
  refine ⟨hq.1, hq.2, hq'.1, hq'.2, ?_⟩
  by_cases c3 : mG u 29 q = mG u 29 q'
  case neg => rw [if_neg c3]; exact n3 (hd (Y := True) (fun e1 e2 => by rw [l1.1, l2.1, e1]) c3)
  rw [if_pos c3]
  refine ⟨hq.1, hq.2, hq'.1, hq'.2, ?_⟩
  by_cases c4 : mI u 31 q = mI u 31 q'
  case neg => rw [if_neg c4]; exact n3 (hd (Y := True) (fun e1 e2 => by rw [l1.2.1, l2.2.1, e1]) c4)
  rw [if_pos c4]
  unfold F_X12_sameParts_66
  rw [if_neg (by decide)]
  refine ⟨hq.1, hq.2, hq'.1, hq'.2, ?_⟩
  by_cases c5 : mI u 32 q = mI u 32 q'
  case neg => rw [if_neg c5]; exact n2 (hd (Y := True) (fun e1 e2 => by rw [a4, b4, e1]) c5)
  rw [if_pos c5]
  refine ⟨hq.1, hq.2, hq'.1, hq'.2, ?_⟩
  by_cases c6 : mI u 33 q = mI u 33 q'
  case neg => rw [if_neg c6]; exact n2 (hd (Y := True) (fun e1 e2 => by rw [a5, b5, e1]) c6)
  rw [if_pos c6]
  refine ⟨hq.1, hq.2, hq'.1, hq'.2, ?_⟩
  by_cases c7 : mI u 34 q = mI u 34 q'
  case neg => rw [if_neg c7]; exact n2 (hd (Y := True) (fun e1 e2 => by rw [a6, b6, e1]) c7)
  rw [if_pos c7]
  refine ⟨hq.1, hq.2, hq'.1, hq'.2, ?_⟩
  by_cases c8 : mI u 35 q = mI u 35 q'
  case neg => rw [if_neg c8]; exact n2 (hd (Y := True) (fun e1 e2 => by rw [a7, b7, e1]) c8)
  rw [if_pos c8]
  unfold F_X12_sameParts_136
  rw [if_neg (by decide)]
  refine ⟨hq.1, hq.2, hq'.1, hq'.2, ?_⟩
  by_cases c9 : mI u 36 q = mI u 36 q'
  case neg => rw [if_neg c9]; exact n1 (hd (Y := True) (fun e1 e2 => by rw [a8, b8, e1, e2]) c9)
  rw [if_pos c9]
  refine ⟨hq.1, hq.2, hq'.1, hq'.2, ?_⟩
  by_cases c10 : mI u 37 q = mI u 37 q'
  case neg => rw [if_neg c10]; exact n1 (hd (Y := True) (fun e1 e2 => by rw [a9, b9, e1]) c10)
  rw [if_pos c10]
  unfold F_X12_sameParts_176
  rw [if_neg (by decide)]
  refine ⟨hq.1, hq.2, hq'.1, hq'.2, hq.1, hq.2, ?_⟩
  rw [l1.2.1]
  have m1 := l1.2.1
  have m2 := l2.2.1
  refine i_sameLetters h0.2 l1.2.2 l2.2.2 (by omega) (fun e => ?_) (fun e => ?_)
  · rw [if_neg (by decide)]
    exact ⟨z1_1, hy (PrtM_i h0.1 h h' c1 c2 c3 e c5 c6 c7 c8 c9 c10)⟩
  · rw [if_pos rfl]
    unfold F_X12_sameParts_210
    exact n0 (hd (Y := True) (fun e1 _ => by rw [e1]) e)
theorem i_isFormula {x : Int} {P : Int → Prop} (h : P (if 0 < x ∧ x < 100000 then 1 else 0)) : F_X12_isFormula x P := by
  unfold F_X12_isFormula F_X12_isFormula_14 F_X12_isFormula_15
  by_cases e1 : x ≤ 0
  · rw [if_neg (by omega)] at h; rw [if_pos e1]; exact ⟨z1_0, h⟩
  · rw [if_neg e1]
    by_cases e2 : 100000 ≤ x
    · rw [if_neg (by omega)] at h; rw [if_pos e2]; exact ⟨z1_0, h⟩
    · rw [if_pos (by omega)] at h; rw [if_neg e2]; exact ⟨z1_1, h⟩
/-- the bounds of the reference's contents -/
def CoB (u : Mu) : Prop := (0 ≤ mI u 0 19 ∧ mI u 0 19 ≤ 82400) ∧ mI u 0 24 ≤ 4200 ∧ mI u 0 25 ≤ 60420
theorem i_alike {u : Mu} {x y : Int} {c d : Cont} {P : Int → Prop} (B : CoB u) (h1 : ContM u x c) (h2 : ContM u y d) (hy : c = d → P 1) (hn : c ≠ d → P 0) : F_X12_alike x y u P := by
  obtain ⟨B1, B2, B3⟩ := B
  unfold F_X12_alike F_X12_alike_26 F_X12_alike_164
  by_cases exy : x = y
  · rw [if_pos exy]; subst exy; exact hy (ContM_u B1.1 B3 h1 h2)
  rw [if_neg exy]
  match c, d, h1, h2, hy, hn with
  | none, none, h1, h2, _, _ =>
    have h1' : x = 0 := h1
    have h2' : y = 0 := h2
    exact absurd (h1'.trans h2'.symm) exy
  | none, some (k, l, ps), h1, h2, _, hn =>
    have h1' : x = 0 := h1
    rw [if_pos h1']; exact hn (by simp)
  | some (k, l, ps), none, h1, h2, _, hn =>
    have h2' : y = 0 := h2
    have : x ≠ 0 := by omega
    rw [if_neg this, if_pos h2']; exact hn (by simp)
  | some (k, l, ps), some (k', l', ps'), h1, h2, hy, hn =>
    unfold ContM at h1 h2
    simp only at h1 h2
    by_cases e5 : k = 5
    · rw [if_pos e5] at h1
      obtain ⟨a1, a2, a3, a4, a5⟩ := h1
      rw [if_neg (by omega)]
      by_cases e5' : k' = 5
      · rw [if_pos e5'] at h2
        obtain ⟨b1, b2, b3, b4, b5⟩ := h2
        rw [if_neg (by omega)]
        refine i_isFormula (i_isFormula ?_)
        rw [if_pos (show 0 < x ∧ x < 100000 by omega), if_pos (show 0 < y ∧ y < 100000 by omega), if_pos rfl]
        refine i_isFormula ?_
        rw [if_pos (show 0 < x ∧ x < 100000 by omega), if_neg (by decide), w32e (x := x - 1) (by omega) (by omega), w32e (x := y - 1) (by omega) (by omega)]
        refine ⟨by omega, by omega, by omega, by omega, ?_⟩
        rw [a2, b2]
        unfold F_X12_alike_61 F_X12_alike_66
        by_cases el : (ps'.length : Int) = (ps.length : Int)
        · rw [if_pos el]
          have le : ps.length = ps'.length := by omega
          refine lp_I (fun t => (0 ≤ t.2 ∧ t.2 ≤ (ps.length : Int)) ∧ (t.1 = 1 ∧ (∀ i : Nat, (i : Int) < t.2 → ps.getD i pd0 = ps'.getD i pd0) ∨ t.1 = 0 ∧ ps ≠ ps')) (fun t => ((ps.length : Int) - t.2).toNat) ?_ (1, 0) ⟨⟨by decide, by show (0 : Int) ≤ _; omega⟩, Or.inl ⟨rfl, fun i hi => absurd hi (by show ¬ (i : Int) < 0; omega)⟩⟩
          rintro G ⟨s, t⟩ ⟨⟨t0, t1⟩, ts⟩ ih
          simp only at t0 t1 ts
          unfold L_X12_alike_66
          dsimp only
          have dn : ps ≠ ps' → P 0 := fun w => hn (fun v => w (by injection v with v; injection v with _ v; injection v))
          by_cases ex : (ps.length : Int) ≤ t
          · rw [if_pos ex]
            show F_X12_alike_101 s u P
            unfold F_X12_alike_101
            rcases ts with ⟨s1, s2⟩ | ⟨s1, s2⟩
            · rw [s1]
              refine ⟨z1_1, hy ?_⟩
              have ep : ps = ps' := prt_e le (fun i hi => s2 i (by omega))
              rw [e5, e5', a4, b4, ep]
            · rw [s1]; exact ⟨z1_0, dn s2⟩
          · rw [if_neg ex]
            rcases ts with ⟨s1, s2⟩ | ⟨s1, s2⟩
            · rw [if_neg (by omega), w32e (x := x - 1) (by omega) (by omega), w32e (x := y - 1) (by omega) (by omega), w32e (x := x - 1 + t) (by omega) (by omega), w32e (x := y - 1 + t) (by omega) (by omega), w32e (x := t + 1) (by omega) (by omega)]
              have g1 := (a5 t.toNat (by omega)).1
              have g2 := (b5 t.toNat (by omega)).1
              rw [Int.toNat_of_nonneg t0] at g1 g2
              refine i_sameParts B1 (by omega) (by omega) g1 g2 (fun e => ?_) (fun e => ?_)
              · refine ih (1, t + 1) ⟨⟨by show 0 ≤ t + 1; omega, by show t + 1 ≤ _; omega⟩, Or.inl ⟨rfl, fun i hi => ?_⟩⟩ (by show (_ - (t + 1)).toNat < (_ - t).toNat; omega)
                replace hi : (i : Int) < t + 1 := hi
                by_cases ei : i = t.toNat
                · rw [ei]; exact e
                · exact s2 i (by omega)
              · refine ih (0, t + 1) ⟨⟨by show 0 ≤ t + 1; omega, by show t + 1 ≤ _; omega⟩, Or.inr ⟨rfl, fun v => ?_⟩⟩ (by show (_ - (t + 1)).toNat < (_ - t).toNat; omega)
                rcases e with e | e
                · exact e (by rw [v])
                · exact e (by rw [v])
            · rw [if_pos s1]
              show F_X12_alike_101 s u P
              unfold F_X12_alike_101
              rw [s1]; exact ⟨z1_0, dn s2⟩
        · rw [if_neg el]
          refine lp_I (fun t => t.1 = 0 ∧ t.2 = 0) (fun t => 0) ?_ (0, 0) ⟨rfl, rfl⟩
          rintro G ⟨s, t⟩ ⟨t0, t1⟩ ih
          simp only at t0 t1
          unfold L_X12_alike_66
          dsimp only
          rw [if_neg (by omega), if_pos t0]
          show F_X12_alike_101 s u P
          unfold F_X12_alike_101
          rw [t0]
          exact ⟨z1_0, hn (fun v => el (by injection v with v; injection v with _ v; injection v with _ v; rw [v]))⟩
      · rw [if_neg e5'] at h2
        have hk : k ≠ k' := by omega
        have hb := h2.1
        rw [if_neg (by omega)]
        refine i_isFormula (i_isFormula ?_)
        rw [if_pos (show 0 < x ∧ x < 100000 by omega), if_neg (show ¬ (0 < y ∧ y < 100000) by omega), if_neg (by decide)]
        exact hn (fun v => hk (by injection v with v; injection v))
    · rw [if_neg e5] at h1
      have ha := h1.1
      rw [if_neg (by omega)]
      by_cases e5' : k' = 5
      · rw [if_pos e5'] at h2
        have hb := h2.1
        rw [if_neg (by omega)]
        refine i_isFormula (i_isFormula ?_)
        rw [if_neg (show ¬ (0 < x ∧ x < 100000) by omega), if_pos (show 0 < y ∧ y < 100000 by omega), if_neg (by decide)]
        exact hn (fun v => e5 (by injection v with v; injection v with v _; rw [v]; exact e5'))
      · rw [if_neg e5'] at h2
        have hb := h2.1
        obtain ⟨a1, a2, a3, a4, a5, a6, a7, a8⟩ := h1
        obtain ⟨b1, b2, b3, b4, b5, b6, b7, b8⟩ := h2
        rw [if_neg (by omega)]
        refine i_isFormula (i_isFormula ?_)
        rw [if_neg (show ¬ (0 < x ∧ x < 100000) by omega), if_neg (show ¬ (0 < y ∧ y < 100000) by omega), if_pos rfl]
        refine i_isFormula ?_
        rw [if_neg (show ¬ (0 < x ∧ x < 100000) by omega), if_pos rfl, w32e (x := x - 100000) (by omega) (by omega), w32e (x := y - 100000) (by omega) (by omega)]
        refine ⟨by omega, by omega, by omega, by omega, ?_⟩
        rw [a5, b5, a6, b6, a7, b7]
        by_cases d1 : k = k'
        case neg => rw [if_neg d1]; exact hn (fun v => d1 (by injection v with v; injection v))
        rw [if_pos d1]
        refine ⟨by omega, by omega, by omega, by omega, ?_⟩
        by_cases d2 : l.2.1 = l'.2.1
        case neg => rw [if_neg d2]; exact hn (fun v => d2 (by injection v with v; injection v with _ v; injection v with v _; rw [v]))
        rw [if_pos d2]
        refine ⟨by omega, by omega, by omega, by omega, ?_⟩
        by_cases d3 : (l.2.2.length : Int) = (l'.2.2.length : Int)
        case neg => rw [if_neg d3]; exact hn (fun v => d3 (by injection v with v; injection v with _ v; injection v with v _; rw [v]))
        rw [if_pos d3]
        refine ⟨by omega, by omega, by omega, by omega, ?_⟩
        refine i_sameLetters B1.2 a8 b8 (by omega) (fun e => ⟨z1_1, hy ?_⟩) (fun e => ⟨z1_0, hn (fun v => e (by injection v with v; injection v with _ v; injection v with v _; rw [v]))⟩)
        obtain ⟨p1, p2, p3⟩ := l
        obtain ⟨p1', p2', p3'⟩ := l'
        simp only at a3 b3 d2 e
        rw [a2, b2, d2, e, a3, b3, d1]
