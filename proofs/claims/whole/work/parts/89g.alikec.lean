/-! ===== contents alike ===== -/
theorem PrtC_u {z : Z} {I : Nat → Prop} {a : Nat} {p q : Prt} (h1 : PrtC z I a p) (h2 : PrtC z I a q) : p = q := by
  obtain ⟨p1, p2, p3, ⟨p4, p5, p6, p7⟩, p8, p9⟩ := p
  obtain ⟨q1, q2, q3, ⟨q4, q5, q6, q7⟩, q8, q9⟩ := q
  obtain ⟨-, -, a0, a1, a2, a3, a4, a5, a6, a7, a8⟩ := h1
  obtain ⟨-, -, d0, d1, d2, d3, d4, d5, d6, d7, d8⟩ := h2
  simp only at a0 a1 a2 a3 a4 a5 a6 a7 a8 d0 d1 d2 d3 d4 d5 d6 d7 d8
  have e3 : p3 = q3 := by
    match p3, q3, a2, d2 with
    | none, none, _, _ => rfl
    | none, some l', a2, ⟨v', d2, _⟩ => rw [a2] at d2; cases d2
    | some l, none, ⟨v, a2, _⟩, d2 => rw [a2] at d2; cases d2
    | some l, some l', ⟨v, a2, a2'⟩, ⟨v', d2, d2'⟩ =>
      rw [a2] at d2; cases d2
      rw [LitC_u a2' d2']
  rw [e3, ← a0, ← a1, ← a3, ← a4, ← a5, ← a6, ← a7, ← a8, d0, d1, d3, d4, d5, d6, d7, d8]
theorem prt_e {a b : List Prt} (h : a.length = b.length) (h2 : ∀ i : Nat, i < a.length → a.getD i pd0 = b.getD i pd0) : a = b := by
  refine List.ext_getElem h (fun i h1 h3 => ?_)
  have q := h2 i h1
  rw [List.getD_eq_getElem?_getD, List.getD_eq_getElem?_getD, List.getElem?_eq_getElem h1, List.getElem?_eq_getElem h3] at q
  exact q
theorem ContC_u {z : Z} {I : Nat → Prop} {r : Option Nat} {c d : Cont} (h1 : ContC z I r c) (h2 : ContC z I r d) : c = d := by
  match c, d, h1, h2 with
  | none, none, _, _ => rfl
  | none, some (k, l, ps), h1, ⟨a, pa, e, _⟩ => rw [h1] at e; cases e
  | some (k, l, ps), none, ⟨a, pa, e, _⟩, h2 => rw [h2] at e; cases e
  | some (k, l, ps), some (k', l', ps'), h1, h2 =>
    obtain ⟨a, pa, e1, -, -, a4, a5, -, -, a8, a9, a10⟩ := h1
    obtain ⟨d, pd, f1, -, -, d4, d5, -, -, d8, d9, d10⟩ := h2
    rw [e1] at f1; cases f1
    rw [a5] at d5; cases d5
    have ek : k = k' := a4.symm.trans d4
    subst ek
    have le : ps.length = ps'.length := by rw [a8] at d8; omega
    have ep : ps = ps' := prt_e le (fun i hi => by
      obtain ⟨q, g1, g2⟩ := a9 i hi
      obtain ⟨q', g1', g2'⟩ := d9 i (by omega)
      rw [g1] at g1'; cases g1'
      exact PrtC_u g2 g2')
    have el : l = l' := by
      by_cases e5 : k = 5
      · rw [if_pos e5] at a10 d10; rw [a10.2, d10.2]
      · rw [if_neg e5] at a10 d10
        obtain ⟨v, g1, g2⟩ := a10
        obtain ⟨v', g1', g2'⟩ := d10
        rw [g1] at g1'; cases g1'
        exact LitC_u g2 g2'
    rw [ep, el]
/-- a plain content's literal has its kind -/
def CoK (c : Cont) : Prop := ∀ k l ps, c = some (k, l, ps) → k ≠ 5 → l.1 = k
theorem o_alike {z : Z} {I : Nat → Prop} {r r' : Option Nat} {c d : Cont} {P : Int → Prop} (hw : WzI z I) (h1 : ContC z I r c) (h2 : ContC z I r' d) (kc : CoK c) (kd : CoK d) (hy : c = d → P 1) (hn : c ≠ d → P 0) : F_X1_alike r r' z P := by
  unfold F_X1_alike F_X1_alike_13 F_X1_alike_23 F_X1_alike_48
  have eq13 : r = r' → (if r = r' then Z1 1 ∧ P 1 else Z1 0 ∧ P 0) := fun e => by
    rw [if_pos e]; subst e; exact ⟨z1_1, hy (ContC_u h1 h2)⟩
  match c, d, h1, h2, kc, kd, hy, hn, eq13 with
  | none, none, h1, h2, _, _, hy, hn, eq13 =>
    have h1' : r = none := h1
    have h2' : r' = none := h2
    rw [if_pos h1']; exact eq13 (h1'.trans h2'.symm)
  | none, some (k, l, ps), h1, ⟨a, pa, e, _⟩, _, _, hy, hn, _ =>
    have h1' : r = none := h1
    rw [if_pos h1', if_neg (by rw [h1', e]; simp)]; exact ⟨z1_0, hn (by simp)⟩
  | some (k, l, ps), none, ⟨a, pa, e, _⟩, h2, _, _, hy, hn, _ =>
    have h2' : r' = none := h2
    rw [if_neg (by rw [e]; simp), if_pos h2', if_neg (by rw [h2', e]; simp)]; exact ⟨z1_0, hn (by simp)⟩
  | some (k, l, ps), some (k', l', ps'), h1, h2, kc, kd, hy, hn, eq13 =>
    obtain ⟨a, pa, e1, -, a3, a4, a5, ipa, a7, a8, a9, a10⟩ := h1
    obtain ⟨b, pb, f1, -, d3, d4, d5, -, d7, d8, d9, d10⟩ := h2
    rw [if_neg (by rw [e1]; simp), if_neg (by rw [f1]; simp)]
    by_cases er : r = r'
    · rw [if_pos er]; exact eq13 er
    · rw [if_neg er]
      refine ⟨a, e1, a3, b, f1, d3, ?_⟩
      rw [a4, d4]
      by_cases ek : k = k'
      · rw [if_pos ek]
        subst ek
        refine ⟨pa, a5, a7, pb, d5, d7, ?_⟩
        rw [a8, d8]
        by_cases el : (ps.length : Int) = (ps'.length : Int)
        · rw [if_pos el]
          have le : ps.length = ps'.length := by omega
          have np : (ps.length : Int) < 33554432 := by
            by_cases n0 : ps.length = 0
            · omega
            · have := (hw pa (ipa n0)).1.2; omega
          unfold F_X1_alike_52
          refine lp_I (fun x => 0 ≤ x ∧ x ≤ (ps.length : Int) ∧ ∀ i : Nat, (i : Int) < x → ps.getD i pd0 = ps'.getD i pd0) (fun x => ((ps.length : Int) - x).toNat) ?_ 0 ⟨by decide, by omega, fun i hi => by omega⟩
          rintro G x ⟨x0, x1, xs⟩ ih
          unfold L_X1_alike_52
          refine ⟨a, e1, a3, pa, a5, a7, ?_⟩
          rw [a8]
          by_cases ex : (ps.length : Int) ≤ x
          · rw [if_pos ex]
            have ep : ps = ps' := prt_e le (fun i hi => xs i (by omega))
            subst ep
            show ∃ a_88, _
            unfold F_X1_alike_115 F_X1_alike_120
            refine ⟨a, e1, a3, ?_⟩
            by_cases e5 : k = 5
            · rw [if_pos e5] at a10 d10
              rw [if_pos a10.1]
              exact ⟨z1_1, hy (by rw [a10.2, d10.2])⟩
            · rw [if_neg e5] at a10 d10
              obtain ⟨v, g1, g2⟩ := a10
              obtain ⟨v', g1', g2'⟩ := d10
              rw [if_neg (by rw [g1]; simp)]
              refine ⟨b, f1, d3, ?_⟩
              rw [if_neg (by rw [g1']; simp)]
              refine ⟨v, g1, g2.2.1, ?_⟩
              rw [g1']
              refine o_compared hw g2 g2' ((kc k l ps rfl e5).trans (kd k l' ps rfl e5).symm) (fun t ht => ?_)
              by_cases et : t = 0
              · rw [if_pos et]; exact ⟨z1_1, hy (by rw [ht.mp et])⟩
              · rw [if_neg et]; exact ⟨z1_0, hn (fun w => et (ht.mpr (by injection w with w; injection w with _ w; injection w)))⟩
          · rw [if_neg ex]
            obtain ⟨q, g1, g2⟩ := a9 x.toNat (by omega)
            obtain ⟨q', g1', g2'⟩ := d9 x.toNat (by omega)
            rw [Int.toNat_of_nonneg x0] at g1 g1'
            refine ⟨x0, by omega, b, f1, d3, pb, d5, d7, x0, by rw [d8]; omega, q, g1, g2.2.1, ?_⟩
            rw [g1']
            refine o_isLikeP hw g2 g2' (fun w => ?_) (fun w => ?_)
            · rw [if_neg (by decide), w32e (by omega) (by omega)]
              refine ih (x + 1) ⟨by omega, by omega, fun i hi => ?_⟩ (by omega)
              by_cases ei : i = x.toNat
              · rw [ei]; exact w
              · exact xs i (by omega)
            · rw [if_pos rfl]
              show P 0
              exact hn (fun v => w (by injection v with v; injection v with _ v; injection v with _ v; rw [v]))
        · rw [if_neg el]; exact hn (fun v => el (by injection v with v; injection v with _ v; injection v with _ v; rw [v]))
      · rw [if_neg ek]; exact hn (fun v => ek (by injection v with v; injection v))
