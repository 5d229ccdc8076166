/-! ===== written, of the reference ===== -/
def sg1 (bs : List Int) : Nat := if bs.getD 0 0 = 45 then 1 else 0
def dgP (x : Int) : Prop := 48 ≤ x ∧ x ≤ 57
/-- digits alone, after a sign -/
def numP (bs : List Int) : Prop := (1 ≤ bs.length - sg1 bs ∧ bs.length - sg1 bs ≤ 15) ∧ ∀ k : Nat, sg1 bs ≤ k → k < bs.length → dgP (bs.getD k 0)
def mkP (bs : List Int) : Prop := bs = [] ∨ bs.getD 0 0 = 32 ∨ bs.getD 0 0 = 61 ∨ bs.getD 0 0 = 39 ∨ bs.getD (bs.length - 1) 0 = 32 ∨ numP bs ∨ bs = sL 0 ∨ bs = sL 1
noncomputable def wrC (E : Int → Sh) (c : Cont) : List Int := match c with
  | none => []
  | some (k, l, ps) => if k = 5 then [61] ++ wr E ps 60 ((ps.length : Int) - 1) else (if k = 2 then ci (mkP l.2.2) [39] [] else []) ++ (txtL l).2.2
noncomputable def pWritten (v r c i : Int) (S : SS) : Int := if isShP v S ∧ (1 ≤ r ∧ r ≤ (shOf v S).1.1) ∧ (1 ≤ c ∧ c ≤ (shOf v S).1.2) then (if 0 ≤ i ∧ i < ((wrC (EnW v S) ((shOf v S).2.2.2 (r - 1) (c - 1))).length : Int) then (wrC (EnW v S) ((shOf v S).2.2.2 (r - 1) (c - 1))).getD i.toNat 0 else -1) else -1
theorem i_isLet {u : Mu} {q n : Int} {bs : List Int} {s : Nat} {P : Int → Prop} (hq : LetM u q bs) (hn : n = (bs.length : Int)) (hs : s < 44) (h19 : mI u 0 19 ≤ 82400) (hy : bs = sL s → P 1) (hno : bs ≠ sL s → P 0) : F_X12_isLetters q n s u P := by
  obtain ⟨q0, q1, q2⟩ := hq
  have sl := sL_len s
  unfold F_X12_isLetters
  refine ⟨hs, ?_⟩
  by_cases c : sLen s = n
  · rw [if_pos c]
    unfold F_X12_isLetters_13
    refine lp_I (fun k => (0 ≤ k ∧ k ≤ n) ∧ ∀ j : Nat, (j : Int) < k → bs.getD j 0 = (sL s).getD j 0) (fun k => (n - k).toNat) ?_ 0 ⟨⟨by omega, by omega⟩, fun j hj => by omega⟩
    rintro G k ⟨⟨k0, k1⟩, e⟩ ih
    unfold L_X12_isLetters_13
    by_cases d : n ≤ k
    · rw [if_pos d]
      exact hy (lst_e (by omega) (fun j hj => e j (by omega)))
    · rw [if_neg d]
      have hk : k.toNat < bs.length := by omega
      have a1 := q2 k.toNat hk
      have a2 := sL_at s (k := k.toNat) (by omega)
      rw [Int.toNat_of_nonneg k0] at a1 a2
      rw [w32e (x := q + k) (by omega) (by omega)]
      refine ⟨by omega, by omega, hs, k0, by omega, ?_⟩
      rw [a1, ← a2]
      by_cases e2 : bs.getD k.toNat 0 = (sL s).getD k.toNat 0
      · rw [if_pos e2, w32e (by omega) (by omega)]
        refine ih (k + 1) ⟨⟨by omega, by omega⟩, fun j hj => ?_⟩ (by omega)
        by_cases ej : (j : Int) = k
        · rw [show j = k.toNat by omega]; exact e2
        · exact e j (by omega)
      · rw [if_neg e2]
        exact hno (fun w => e2 (by rw [w]))
  · rw [if_neg c]
    exact hno (fun w => c (by rw [← sl, hn, w]))
theorem i_needs {u : Mu} {q n : Int} {bs : List Int} {P : Int → Prop} (hq : LetM u q bs) (hn : n = (bs.length : Int)) (h19 : mI u 0 19 ≤ 82400) (h24 : bs.length ≤ 24) (hy : mkP bs → P 1) (hno : ¬ mkP bs → P 0) : F_X12_needsMark q n u P := by
  obtain ⟨q0, q1, q2⟩ := id hq
  unfold F_X12_needsMark F_X12_needsMark_52 F_X12_needsMark_78
  by_cases c0 : n = 0
  · rw [if_pos c0]
    exact hy (Or.inl (List.eq_nil_of_length_eq_zero (by omega)))
  · rw [if_neg c0]
    have hl : 0 < bs.length := by omega
    have nn : bs ≠ [] := fun w => by rw [w] at hl; exact absurd hl (by decide)
    have a0 := q2 0 hl
    rw [show q + ((0 : Nat) : Int) = q by omega] at a0
    have a1 := q2 (bs.length - 1) (by omega)
    rw [a0, w32e (x := q + n) (by omega) (by omega), w32e (x := q + n - 1) (by omega) (by omega), show q + n - 1 = q + ((bs.length - 1 : Nat) : Int) by omega, a1]
    refine ⟨by omega, by omega, ?_⟩
    by_cases c1 : bs.getD 0 0 = 32
    · rw [if_pos c1]; exact hy (Or.inr (Or.inl c1))
    · rw [if_neg c1]
      refine ⟨by omega, by omega, ?_⟩
      by_cases c2 : bs.getD (bs.length - 1) 0 = 32
      · rw [if_pos c2]; exact hy (Or.inr (Or.inr (Or.inr (Or.inr (Or.inl c2)))))
      · rw [if_neg c2]
        by_cases c3 : bs.getD 0 0 = 61
        · rw [if_pos c3]; exact hy (Or.inr (Or.inr (Or.inl c3)))
        · rw [if_neg c3]
          by_cases c4 : bs.getD 0 0 = 39
          · rw [if_pos c4]; exact hy (Or.inr (Or.inr (Or.inr (Or.inl c4))))
          · rw [if_neg c4]
            refine i_isLet hq hn (by decide) h19 (fun w => ?_) (fun n1 => ?_)
            · rw [if_neg (by decide)]; rw [sL_ref.2.1] at w; exact hy (Or.inr (Or.inr (Or.inr (Or.inr (Or.inr (Or.inr (Or.inl w)))))))
            · rw [sL_ref.2.1] at n1
              rw [if_pos rfl]
              refine i_isLet hq hn (by decide) h19 (fun w => ?_) (fun n2 => ?_)
              · rw [if_neg (by decide)]; rw [sL_ref.2.2] at w; exact hy (Or.inr (Or.inr (Or.inr (Or.inr (Or.inr (Or.inr (Or.inr w)))))))
              · rw [sL_ref.2.2] at n2
                rw [if_pos rfl]
                have iff : mkP bs ↔ numP bs := by
                  constructor
                  · rintro (w | w | w | w | w | w | w | w)
                    · exact absurd w nn
                    · exact absurd w c1
                    · exact absurd w c3
                    · exact absurd w c4
                    · exact absurd w c2
                    · exact w
                    · exact absurd w n1
                    · exact absurd w n2
                  · intro w; exact Or.inr (Or.inr (Or.inr (Or.inr (Or.inr (Or.inl w)))))
                have key : F_X12_needsMark_96 q n (sg1 bs : Int) u P := by
                  have s1 : sg1 bs ≤ 1 := by unfold sg1; split <;> omega
                  unfold F_X12_needsMark_96
                  rw [w32e (x := n - (sg1 bs : Int)) (by omega) (by omega)]
                  refine i_in ?_
                  unfold F_X12_needsMark_111
                  by_cases d : 1 ≤ n - (sg1 bs : Int) ∧ n - (sg1 bs : Int) ≤ 15
                  · rw [tb, if_pos d]
                    refine lp_I (fun t => ((sg1 bs : Int) ≤ t.2 ∧ t.2 ≤ n) ∧ ((t.1 = 1 ∧ ∀ k : Nat, sg1 bs ≤ k → (k : Int) < t.2 → dgP (bs.getD k 0)) ∨ (t.1 = 0 ∧ ¬ numP bs))) (fun t => (n - t.2).toNat) ?_ (1, (sg1 bs : Int)) ⟨⟨Int.le_refl _, by show (sg1 bs : Int) ≤ n; omega⟩, Or.inl ⟨rfl, fun k h1 h2 => by exfalso; have : (k : Int) < sg1 bs := h2; omega⟩⟩
                    rintro G ⟨x, k⟩ ⟨⟨k0, k1⟩, e⟩ ih
                    simp only at k0 k1 e
                    unfold L_X12_needsMark_111
                    dsimp only
                    by_cases dk : n ≤ k
                    · rw [if_pos dk]
                      show F_X12_needsMark_142 x u P
                      unfold F_X12_needsMark_142
                      rcases e with ⟨e1, e2⟩ | ⟨e1, e2⟩
                      · rw [e1]
                        exact ⟨Or.inr rfl, hy (iff.mpr ⟨⟨by omega, by omega⟩, fun k h1 h2 => e2 k h1 (by omega)⟩)⟩
                      · rw [e1]
                        exact ⟨Or.inl rfl, hno (fun w => e2 (iff.mp w))⟩
                    · rw [if_neg dk]
                      rcases e with ⟨e1, e2⟩ | ⟨e1, e2⟩
                      · rw [if_neg (by omega)]
                        have hk : k.toNat < bs.length := by omega
                        have b1 := q2 k.toNat hk
                        rw [Int.toNat_of_nonneg (by omega)] at b1
                        rw [w32e (x := q + k) (by omega) (by omega), b1]
                        refine ⟨by omega, by omega, ?_⟩
                        unfold F_X12_isDigit
                        refine i_in ⟨tb_z, ?_⟩
                        rw [w32e (x := k + 1) (by omega) (by omega)]
                        refine ih _ ⟨⟨by show (sg1 bs : Int) ≤ k + 1; omega, by show k + 1 ≤ n; omega⟩, ?_⟩ (by show (n - (k + 1)).toNat < (n - k).toNat; omega)
                        by_cases dd : 48 ≤ bs.getD k.toNat 0 ∧ bs.getD k.toNat 0 ≤ 57
                        · left
                          refine ⟨by show tb _ = 1; rw [tb, if_pos dd], fun j h1 h2 => ?_⟩
                          have h2 : (j : Int) < k + 1 := h2
                          by_cases ej : (j : Int) = k
                          · rw [show j = k.toNat by omega]; exact dd
                          · exact e2 j h1 (by omega)
                        · right
                          exact ⟨by show tb _ = 0; rw [tb, if_neg dd], fun w => dd (w.2 k.toNat (by omega) hk)⟩
                      · rw [if_pos e1]
                        show F_X12_needsMark_142 x u P
                        unfold F_X12_needsMark_142
                        rw [e1]
                        exact ⟨Or.inl rfl, hno (fun w => e2 (iff.mp w))⟩
                  · rw [tb, if_neg d]
                    have nn2 : ¬ numP bs := fun w => d ⟨by have := w.1.1; omega, by have := w.1.2; omega⟩
                    refine lp_I (fun t => t.1 = 0) (fun t => 0) ?_ (0, (sg1 bs : Int)) rfl
                    rintro G ⟨x, k⟩ e ih
                    simp only at e
                    unfold L_X12_needsMark_111
                    dsimp only
                    have fin : F_X12_needsMark_142 x u P := by
                      unfold F_X12_needsMark_142
                      rw [e]
                      exact ⟨Or.inl rfl, hno (fun w => nn2 (iff.mp w))⟩
                    by_cases dk : n ≤ k
                    · rw [if_pos dk]; exact fin
                    · rw [if_neg dk, if_pos e]; exact fin
                unfold sg1 at key
                by_cases c5 : bs.getD 0 0 = 45
                · rw [if_pos c5]; rw [if_pos c5] at key; exact key
                · rw [if_neg c5]; rw [if_neg c5] at key; exact key
theorem i_write {u : Mu} {N v q : Int} {S : SS} {c : Cont} {P : Mu → Prop} (hB : Bd S) (R : RM u N S) (B : CoB u) (hv : isShP v S) (hc : ContM u q c) (hn : VrC S.2.1.1 c) (h : ∀ w, (wrC (EnW v S) c).length ≤ 2000 → OutM w (wrC (EnW v S) c) → FrM wWr u w → P w) : F_X12_write (slt v) q u P := by
  unfold F_X12_write F_X12_write_140
  rintro _ rfl
  have f0 : FrM wWr u (uI u 0 87 0) := FrM_uI FrM_rf (wHas_i (by decide))
  have R0 := RM_w hB f0 R
  have B0 := CoB_w f0 B
  have C0 := ContM_w B.1.1 f0 hc
  have o0 : OutM (uI u 0 87 0) [] := ⟨by rw [mI_uI, if_pos ⟨rfl, rfl⟩]; rfl, fun i hi => by cases hi⟩
  have n40 := hB.2.1.1.2
  generalize uI u 0 87 0 = u0 at f0 R0 B0 C0 o0
  match c, hn, C0, h with
  | none, _, C0, h =>
    unfold ContM at C0
    simp only at C0
    rw [if_pos C0]
    exact h u0 (by show 0 ≤ 2000; omega) o0 f0
  | some (k, l, ps), hn, C0, h =>
    have hn' : ∀ p ∈ ps, p.2.2.2.2.2 < S.2.1.1 := hn k l ps rfl
    by_cases k5 : k = 5
    · subst k5
      obtain ⟨F, wf, l60, m38, q1⟩ := FmM_of B0 C0
      have f1 := F.1
      rw [if_neg (by omega)]
      refine i_isFormula ?_
      have qb : q < 100000 := by omega
      rw [if_pos (show 0 < q ∧ q < 100000 from ⟨by omega, qb⟩), if_neg (by decide)]
      have wfa : ∀ p ∈ ps, WfP p := fun p hp => by
        obtain ⟨i, hi, e⟩ := List.getElem_of_mem hp
        have := (F.2 i hi).1.2.2.2.2.2.2.2.2.2
        rw [List.getD_eq_getElem?_getD, List.getElem?_eq_getElem hi] at this
        rw [← e]; exact this
      unfold wrC at h
      simp only [if_pos trivial] at h
      have wl := wr_len (E := EnW v S) (ps := ps) n40 (EnW_b hB hv) wf wfa hn' 60 ((ps.length : Int) - 1) (by omega) (by omega)
      have ws := wf.2.1
      rw [show ((ps.length : Int) - 1).toNat = ps.length - 1 by omega, ws] at wl
      replace h := fun w => h w (by rw [List.length_append]; show 1 + _ ≤ 2000; omega)
      refine i_put o0 (by decide) (by decide) (by decide) (fun u1 o1 f2 => ?_)
      unfold F_X12_wholeOf
      rw [w32e (x := q - 1) (by omega) (by omega), mE f2 (R := rgC) (by decide) (k := 38) (wHas_a (by decide)), m38, w32e (x := q - 1 + (ps.length : Int)) (by omega) (by omega), w32e (by omega) (by omega)]
      refine ⟨by omega, by omega, 120, by decide, ?_⟩
      rw [show q - 1 + (ps.length : Int) - 1 = (q - 1) + ((ps.length : Int) - 1) by omega]
      exact i_part hB hv wf wfa hn' l60.2 60 120 _ u1 _ _ (by decide) (by omega) (by omega) (by omega) (RM_w hB f2 R0) (CoB_w f2 B0) (FmM_w B0 f2 F) o1 (by rw [List.length_append]; show 0 + 1 + _ ≤ 2000; omega) (fun w o2 f3 => h w o2 (FrM_tr f0 (FrM_tr f2 f3)))
    · have C1 := C0
      unfold ContM at C1
      simp only at C1
      rw [if_neg k5] at C1
      obtain ⟨⟨h1, h2⟩, h3, h4, h5, h6, h7, h8, h9⟩ := C1
      have b24 := B0.2.1
      obtain ⟨a1, a2, a3, a4, a5, a6, a7⟩ := id h5
      unfold wrC at h
      simp only [if_neg k5] at h
      rw [if_neg (by omega)]
      refine i_isFormula ?_
      rw [if_neg (show ¬ (0 < q ∧ q < 100000) by omega), if_pos rfl, w32e (x := q - 100000) (by omega) (by omega)]
      refine ⟨by omega, by omega, ?_⟩
      rw [h6, ← h4]
      rw [← h4] at h
      have tl := txt_len h5
      have cl : (if l.1 = 2 then ci (mkP l.2.2) [39] [] else ([] : List Int)).length ≤ 1 := by
        split
        · by_cases mk : mkP l.2.2
          · rw [ci_1 mk]; exact Nat.le_refl 1
          · rw [ci_0 mk]; exact Nat.zero_le 1
        · exact Nat.zero_le 1
      replace h := fun w => h w (by rw [List.length_append]; omega)
      unfold txtL at h
      by_cases d1 : l.1 = 1
      · rw [if_pos d1]
        rw [if_neg (c := l.1 = 2) (by omega), if_pos d1] at h
        refine ⟨by omega, by omega, ?_⟩
        rw [h7]
        have := a2 d1
        have := dec_len (x := l.2.1) (by omega) (by omega)
        exact i_number o0 (by omega) (by omega) (by show 0 + _ ≤ 2000; omega) (fun w o1 f1 => h w o1 (FrM_tr f0 f1))
      · rw [if_neg d1]
        rw [if_neg d1] at h
        by_cases d3 : l.1 = 3
        · rw [if_pos d3]
          rw [if_neg (c := l.1 = 2) (by omega), if_pos d3] at h
          refine ⟨by omega, by omega, ?_⟩
          rw [h7]
          have s0 := sL_0
          unfold F_X12_write_93 F_X12_write_140
          rcases a3 d3 with e | e
          · rw [if_neg (by omega)]
            rw [if_pos e] at h
            exact i_say o0 (by decide) (by rw [sL_ref.2.2]; show 0 + _ ≤ 2000; omega) (fun w o1 f1 => h w (by rw [← sL_ref.2.2]; exact o1) (FrM_tr f0 f1))
          · rw [if_pos e]
            rw [if_neg (by omega)] at h
            exact i_say o0 (by decide) (by rw [sL_ref.2.1]; show 0 + _ ≤ 2000; omega) (fun w o1 f1 => h w (by rw [← sL_ref.2.1]; exact o1) (FrM_tr f0 f1))
        · rw [if_neg d3]
          have d2 : l.1 = 2 := by omega
          rw [if_pos d2, if_neg d3, if_neg (by omega)] at h
          refine ⟨by omega, by omega, by omega, by omega, ?_⟩
          have key : ∀ (u1 : Mu) (M : List Int), M.length ≤ 1 → FrM wWr u0 u1 → OutM u1 M → (∀ w, OutM w (M ++ l.2.2) → FrM wWr u w → P w) → F_X12_write_124 (q - 100000) u1 P := by
            intro u1 M hM g1 g2 g3
            unfold F_X12_write_124 F_X12_write_140
            refine ⟨by omega, by omega, by omega, by omega, ?_⟩
            rw [mE g1 (R := rgC) (by decide) (k := 22) (wHas_a (by decide)), mE g1 (R := rgC) (by decide) (k := 23) (wHas_a (by decide))]
            exact i_letters g2 (LetM_g (Grw_fr B0.1.1 g1 (by decide)) h9) h8 (CoB_w g1 B0).1.2 a7 (by omega) (fun w o1 f1 => g3 w o1 (FrM_tr f0 (FrM_tr g1 f1)))
          refine i_needs h9 h8 B0.1.2 a6 (fun mk => ?_) (fun mk => ?_)
          · rw [if_neg (by decide)]
            rw [ci_1 mk] at h
            exact i_put o0 (by decide) (by decide) (by decide) (fun u1 o1 f1 => key u1 _ (by decide) f1 o1 h)
          · rw [if_pos rfl]
            rw [ci_0 mk] at h
            exact key u0 [] (by decide) FrM_rf o0 h
theorem i_asked {u : Mu} {N v r c : Int} {S : SS} {P : Int → Prop} (hB : Bd S) (R : RM u N S) (hy : isShP v S → (1 ≤ r ∧ r ≤ (shOf v S).1.1) ∧ (1 ≤ c ∧ c ≤ (shOf v S).1.2) → P (320 * slt v + 10 * (r - 1) + (c - 1))) (hn : ¬ (isShP v S ∧ (1 ≤ r ∧ r ≤ (shOf v S).1.1) ∧ (1 ≤ c ∧ c ≤ (shOf v S).1.2)) → P (-1)) : F_X12_asked v r c u P := by
  unfold F_X12_asked F_X12_asked_21
  refine i_isSheet hB R.2.2.1 ?_
  by_cases e : isShP v S
  · rw [tb, if_pos e, if_neg (by decide)]
    have sb := slt_b hB e
    have m := slt_M e R
    have bw := EnW_b hB e (-1) (by decide) (by have := hB.2.1.1.1; omega)
    unfold EnW at bw
    rw [if_pos rfl] at bw
    refine i_sheetAt e.1 ?_
    refine i_isCell sb.1 (by omega) ?_
    rw [m.1.1, m.1.2]
    by_cases d : (1 ≤ r ∧ r ≤ (shOf v S).1.1) ∧ (1 ≤ c ∧ c ≤ (shOf v S).1.2)
    · rw [tb, if_pos d, if_neg (by decide)]
      refine i_sheetAt e.1 ?_
      have b1 := bw.1.2
      have b2 := bw.2.2
      rw [w32e (x := 320 * slt v) (by omega) (by omega), w32e (x := r - 1) (by omega) (by omega), w32e (x := 10 * (r - 1)) (by omega) (by omega), w32e (x := 320 * slt v + 10 * (r - 1)) (by omega) (by omega), w32e (x := 320 * slt v + 10 * (r - 1) + c) (by omega) (by omega), w32e (by omega) (by omega), show 320 * slt v + 10 * (r - 1) + c - 1 = 320 * slt v + 10 * (r - 1) + (c - 1) by omega]
      exact hy e d
    · rw [tb, if_neg d, if_pos rfl]
      exact hn (fun w => d w.2)
  · rw [tb, if_neg e, if_pos rfl]
    exact hn (fun w => e w.1)
def VrS (n : Int) (s : Sh) : Prop := ∀ r c, 0 ≤ r → r < s.1.1 → 0 ≤ c → c < s.1.2 → VrC n (s.2.2.2 r c)
theorem i_written {u : Mu} {N v r c i : Int} {S : SS} {P : Int → Mu → Prop} (hB : Bd S) (R : RM u N S) (B : CoB u) (hV : isShP v S → VrS S.2.1.1 (shOf v S)) (h : ∀ w, RM w N S → FrM ((0, some 0) :: wWr) u w → mI w 0 0 = 0 → P (pWritten v r c i S) w) : F_X12_written v r c i u P := by
  unfold F_X12_written F_X12_written_61
  rintro _ rfl
  have R' := RM_thr (x := 0) hB R
  have f : FrM [(0, some 0)] u (uI u 0 0 0) := FrM_uI FrM_rf (wHas_i (by decide))
  have f' : FrM ((0, some 0) :: wWr) u (uI u 0 0 0) := FrM_uI FrM_rf (wHas_i (by decide))
  have z0 : mI (uI u 0 0 0) 0 0 = 0 := by rw [mI_uI, if_pos ⟨rfl, rfl⟩]
  have B' : CoB (uI u 0 0 0) := CoB_fr f (by decide) B
  generalize uI u 0 0 0 = x at R' f f' z0 B' ⊢
  unfold pWritten at h
  refine i_asked hB R' (fun e d => ?_) (fun d => ?_)
  · have sb := slt_b hB e
    have m := slt_M e R'
    have bw := EnW_b hB e (-1) (by decide) (by have := hB.2.1.1.1; omega)
    unfold EnW at bw
    rw [if_pos rfl] at bw
    have b1 := bw.1.2
    have b2 := bw.2.2
    rw [if_pos ⟨e, d⟩] at h
    rw [if_pos (by omega)]
    refine i_sheetAt e.1 (i_sheetAt e.1 (i_cellAt sb.1 (by omega) (by omega) (by omega) (by omega) (by omega) ?_))
    refine i_write hB R' B' e (m.2.2.2 (r - 1) (c - 1) (by omega) (by omega) (by omega) (by omega)) (hV e (r - 1) (c - 1) (by omega) (by omega) (by omega) (by omega)) (fun w l2 o fw => ?_)
    have fw' : FrM ((0, some 0) :: wWr) x w := ⟨fun k i n => fw.1 k i (fun ⟨t, t1, t2⟩ => n ⟨t, List.mem_cons_of_mem _ t1, t2⟩), fun k i n => fw.2 k i (fun ⟨t, t1, t2⟩ => n ⟨t, List.mem_cons_of_mem _ t1, t2⟩)⟩
    have hh := h w (RM_w hB fw R') (FrM_tr f' fw') (by rw [mE fw (R := [(0, some 0)]) (by decide) (k := 0) (i := 0) (wHas_i (by decide))]; exact z0)
    generalize wrC (EnW v S) ((shOf v S).2.2.2 (r - 1) (c - 1)) = L at hh o l2
    refine i_in ?_
    rw [o.1, w32e (by omega) (by omega)]
    by_cases ci : 0 ≤ i ∧ i ≤ (L.length : Int) - 1
    · rw [tb, if_pos ci, if_neg (by decide)]
      rw [if_pos (by omega)] at hh
      have := o.2 i.toNat (by omega)
      rw [Int.toNat_of_nonneg ci.1] at this
      exact ⟨ci.1, by omega, by rw [this]; exact hh⟩
    · rw [tb, if_neg ci, if_pos rfl]
      rw [if_neg (by omega)] at hh
      exact hh
  · rw [if_neg d] at h
    rw [if_neg (by decide)]
    exact h x R' f' z0
