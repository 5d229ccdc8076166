/-! ===== a formula, of both ===== -/
theorem i_failF {u : Mu} {k p : Int} {P : Mu → Prop} (h : 0 < mI u 0 41) (hp : P u) : F_X12_fail k p u P := by
  unfold F_X12_fail F_X12_fail_17
  rw [if_neg (by omega)]; exact hp
/-- a late fault's kind is never below 0 -/
def LtQ (g : PG) : Prop := (∀ l o (st s : PS), 0 ≤ st.2.2.1 → g.1 l o st = .inr s → 0 ≤ s.2.2.1) ∧ (∀ o (st s : PS), 0 ≤ st.2.2.1 → g.2.1 o st = .inr s → 0 ≤ s.2.2.1) ∧ (∀ l o c (st s : PS), 0 ≤ st.2.2.1 → g.2.2.1 l o c st = .inr s → 0 ≤ s.2.2.1) ∧ ∀ op fr o cs (st s : PS), 0 ≤ st.2.2.1 → g.2.2.2 op fr o cs st = .inr s → 0 ≤ s.2.2.1
theorem ltU_p {k p : Int} {s : Int × Int} (hk : 0 ≤ k) (h : 0 ≤ s.1) : 0 ≤ (ltU k p s).1 := by
  unfold ltU
  split
  · exact hk
  · exact h
theorem plcA_l {S : SS} {op v r c r2 c2 fx fr at1 : Int} {st : PS} (h : 0 ≤ st.2.2.1) : 0 ≤ (plcA S op v r c r2 c2 fx fr at1 st).2.2.1 := by
  unfold plcA
  split
  · exact h
  · exact ltU_p (by decide) h
theorem lateK {t : Tx} {S : SS} (hI : ∀ v, isShP v S → IdS (shOf v S)) (n0 : 0 ≤ S.2.1.1) : ∀ n, LtQ (pg t S n)
  | 0 => ⟨(fun _ _ _ _ _ e => by cases e), (fun _ _ _ _ e => by cases e), (fun _ _ _ _ _ _ e => by cases e), (fun _ _ _ _ _ _ _ e => by cases e)⟩
  | n + 1 => by
    have H := lateK (t := t) hI n0 n
    refine ⟨fun l o st s hl e => ?_, fun o st s hl e => ?_, fun l o c st s hl e => ?_, fun op fr o cs st s hl e => ?_⟩
    · replace e : bEx (pg t S n) l o st = .inr s := e
      unfold bEx at e
      obtain ⟨s1, e1, e2⟩ := rb_i e
      exact H.2.2.1 _ _ _ _ _ (H.2.1 _ _ _ hl e1) e2
    · replace e : bSg t S (pg t S n) o st = .inr s := e
      unfold bSg at e
      split at e
      · split at e
        · cases e
        · obtain ⟨s1, e1, e2⟩ := rb_i e
          cases e2
          exact H.2.1 _ (skp t (st.1 + 1), st.2) s1 hl e1
      · unfold bAt at e
        split at e
        · unfold pNum at e
          split at e
          · cases e
          · cases e; exact hl
        · split at e
          · unfold pQuo at e
            split at e
            · cases e
            · cases e; exact hl
          · split at e
            · cases e; exact hl
            · split at e
              · unfold bBr at e
                split at e
                · cases e
                · obtain ⟨s1, e1, e2⟩ := rb_i e
                  split at e2
                  · cases e2; exact H.1 _ _ (skp t (st.1 + 1), st.2) s1 hl e1
                  · cases e2
              · split at e
                · unfold pSpot at e
                  split at e
                  · cases e
                  · cases e; exact plcA_l hl
                · split at e
                  · unfold bWd at e
                    split at e
                    · cases e; exact hl
                    · split at e
                      · cases e; exact hl
                      · split at e
                        · cases e
                        · split at e
                          · cases e
                          · split at e
                            · cases e
                            · exact H.2.2.2 _ _ _ _ (skp t (skp t (rn leB t st.1) + 1), st.2) s hl e
                  · cases e
    · replace e : bLo t (pg t S n) l o c st = .inr s := e
      unfold bLo at e
      split at e
      · cases e; exact hl
      · obtain ⟨s1, e1, e2⟩ := rb_i e
        exact H.2.2.1 _ _ _ (addP (opP (sgO t st.1) 2) s1.1 s1) s (H.1 _ _ (skp t (st.1 + sgN (sgO t st.1)), st.2) s1 hl e1) e2
    · replace e : bAr t S (pg t S n) op fr o cs st = .inr s := e
      unfold bAr at e
      obtain ⟨s1, e1, e2⟩ := rb_i e
      have h1 : 0 ≤ s1.2.2.1 := by
        split at e1
        · unfold pArea at e1
          split at e1
          · split at e1
            · cases e1
            · cases e1; exact plcA_l hl
          · cases e1
        · exact H.1 _ _ _ _ hl e1
      split at e2
      · exact H.2.2.2 _ _ _ _ (skp t (s1.1 + 1), s1.2) s h1 e2
      · split at e2
        · cases e2
          unfold bArE
          show 0 ≤ (ci (fitP op (cs ++ [lastO s1.2.1])) s1.2.2 (ltU 4 fr s1.2.2)).1
          by_cases ft : fitP op (cs ++ [lastO s1.2.1])
          · rw [ci_1 ft]; exact h1
          · rw [ci_0 ft]; exact ltU_p (by decide) h1
        · cases e2
theorem i_form {t : Tx} {S : SS} {u : Mu} {a : Int} {P : Mu → Prop} (E : EnP t S u) (hI : ∀ v, isShP v S → IdS (shOf v S)) (h41 : mI u 0 41 = 0) (h42 : mI u 0 42 = -1) (h56 : mI u 0 56 = 0) (h43 : mI u 0 43 = a) (a0 : 0 ≤ a) (a1 : a < t.2.1) (hf : ∀ e v, pForm t S a = .inl e → FlM u v e.1 e.2 t.2.1 → P v) (hk : ∀ ps v x, pForm t S a = .inr ps → PmR u v False 0 0 t.2.1 ps (0, x) → P v) : F_X12_readFormula u P := by
  have b3 := E.1.2.1
  obtain ⟨gd, po⟩ := pRead_g (t := t) (a := a) hI E.2.2.1.2.1 a0 a1
  have kb := skp_b (t := t) (k := a + 1) (by omega) (by omega)
  unfold F_X12_readFormula
  rintro _ rfl _ rfl
  rw [show mI (uI (uI u 0 58 0) 0 57 0) 0 43 = a by simp [mI_uI]; exact h43, w32e (x := a + 1) (by omega) (by omega)]
  rintro _ rfl
  have f : FrM [(0, some 58), (0, some 57), (0, some 46)] u (uI (uI (uI u 0 58 0) 0 57 0) 0 46 (a + 1)) := FrM_uI (FrM_uI (FrM_uI FrM_rf (wHas_i (by decide))) (wHas_i (by decide))) (wHas_i (by decide))
  have n19 := E.2.1.2.1
  have R0 : PmR u (uI (uI (uI u 0 58 0) 0 57 0) 0 46 (a + 1)) False 0 0 0 [] (0, 0) := by
    refine ⟨⟨FrM_sub f (by decide), Grw_fr n19 f (by decide)⟩, ⟨by simp [mI_uI]; exact h41, by simp [mI_uI]; exact h42, by simp [mI_uI]; exact h56, by simp [mI_uI]⟩, ?_, ⟨by simp [mI_uI], fun n => absurd rfl n⟩, fun i hi => by cases hi⟩
    simp [mI_uI]
  refine i_nx E R0 (e := a + 1) (by simp [mI_uI]) (by omega) (by omega) (by omega) (fun v Rv Tv => ?_)
  refine ⟨400, Nat.le_refl _, ?_⟩
  rw [← readL_1]
  have pr : PrP t u v False 0 (skp t (a + 1), [], (0, 0)) := ⟨Rv, Tv, ⟨⟨by show 0 ≤ skp t _; omega, kb.2.1⟩, SpF_0⟩, by show ((0 : Nat) : Int) ≤ skp t (a + 1); omega⟩
  refine (Rows E hI (4 * t.2.1 + 7).toNat).1 1 (by omega) (by omega) False 0 (skp t (a + 1), [], (0, 0)) 400 ⟨by omega, by omega⟩ (by omega) gd v _ pr (fun y hy => ?_)
  replace hy : PoR t u False 0 (pRead t S a) y := hy
  unfold F_X12_readFormula_51 F_X12_readFormula_70 F_X12_readFormula_88
  have fl : ∀ e w', pForm t S a = .inl e → FlM u w' e.1 e.2 t.2.1 → (if mI w' 0 58 ≤ 0 then (if mI w' 0 56 ≤ 60 then P w' else F_X12_fail 5 (mI w' 0 45) w' (fun u_85 => P u_85)) else F_X12_fail (mI w' 0 58) (mI w' 0 59) w' (fun u_67 => (if mI u_67 0 56 ≤ 60 then P u_67 else F_X12_fail 5 (mI u_67 0 45) u_67 (fun u_85 => P u_85)))) := by
    intro e w' he F
    have f4 : 0 < mI w' 0 41 := by have := F.2.1; omega
    have end1 : (if mI w' 0 56 ≤ 60 then P w' else F_X12_fail 5 (mI w' 0 45) w' (fun u_85 => P u_85)) := by
      split
      · exact hf e w' he F
      · exact i_failF f4 (hf e w' he F)
    split
    · exact end1
    · exact i_failF f4 end1
  cases hr : pRead t S a with
  | inl e =>
    rw [hr] at hy gd
    have g0 := gd e rfl
    have ep : pForm t S a = .inl e := by unfold pForm; rw [hr]
    rw [if_neg (by have := hy.2.1; omega)]
    exact fl e y ep hy
  | inr s =>
    rw [hr] at hy
    obtain ⟨q1, q2⟩ := po s hr
    obtain ⟨Ry, Ty⟩ := hy
    have q21 := q1.2.1.1
    have c1 := q1.2.2.1
    simp only [List.length_nil] at c1
    rw [if_pos Ry.2.1.1, Ty.1.2.1]
    by_cases ce : s.1 < t.2.1
    · have ep : pForm t S a = .inl (1, s.1) := by unfold pForm; rw [hr]; exact if_pos ce
      have nk : tkK t s.1 ≠ 0 := fun q => by have := bt_m E.1 (by omega) (tk_i.1 q); omega
      rw [if_neg nk, Ty.1.2.2]
      have pe : peo t s.1 = s.1 := by unfold peo; rw [if_pos ce]
      rw [pe]
      exact i_fail Ry (by decide) q21 (fun x F => fl (1, s.1) x ep F)
    · have k0 : tkK t s.1 = 0 := by unfold tkK; rw [if_pos (bt_out (by omega))]
      rw [if_pos k0, Ry.2.2.2.1.1]
      have lb : s.2.2.1 = 0 ∨ 0 < s.2.2.1 ∨ s.2.2.1 < 0 := by omega
      by_cases l0 : s.2.2.1 = 0
      · rw [if_pos (by omega), Ry.2.1.2.2.1]
        by_cases c60 : 60 < s.2.1.length
        · have ep : pForm t S a = .inl (5, t.2.2) := by unfold pForm; rw [hr]; simp only; rw [if_neg ce, if_neg (not_not_intro l0), if_pos c60]
          rw [if_neg (by omega), (CxM_p E Ry).1.2]
          exact i_fail Ry (by decide) q21 (fun x F => hf (5, t.2.2) x ep F)
        · have ep : pForm t S a = .inr s.2.1 := by unfold pForm; rw [hr]; simp only; rw [if_neg ce, if_neg (not_not_intro l0), if_neg c60]
          rw [if_pos (by omega)]
          refine hk s.2.1 y s.2.2.2 ep ?_
          have e2 : s.2.2 = (0, s.2.2.2) := by rw [← l0]
          rw [← e2]
          exact PmR_w Ry q21 (fun q => q)
      · have ep : pForm t S a = .inl s.2.2 := by unfold pForm; rw [hr]; simp only; rw [if_neg ce, if_pos l0]
        by_cases neg : s.2.2.1 ≤ 0
        · -- a late fault's kind is 3 or 4
          exfalso
          have lk := lateK (t := t) hI E.2.2.1.2.1 (4 * t.2.1 + 7).toNat
          have := lk.1 1 0 (skp t (a + 1), [], (0, 0)) s (by show (0 : Int) ≤ 0; decide) hr
          omega
        · rw [if_neg neg, Ry.2.2.2.1.2 l0]
          refine i_fail Ry (by omega) q21 (fun x F => ?_)
          have f4 : 0 < mI x 0 41 := by have := F.2.1; omega
          split
          · exact hf s.2.2 x ep F
          · exact i_failF f4 (hf s.2.2 x ep F)
