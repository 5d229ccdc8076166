def wIm : WR := [(0, some 0), (0, some 6), (0, some 7), (0, some 15), (0, some 16), (0, some 17), (0, some 65), (1, none), (2, none), (3, none), (4, none), (5, none)]
theorem i_insert {u : Mu} {N : Int} {S : SS} {ax p : Int} {P : Int → Mu → Prop} (hB : Bd S) (hD : DsS S.2.2.2.1.1) (hL : ∀ i, 0 ≤ i → i < lnS S.2.2.2.1.1 ax → idS S.2.2.2.1.1 ax i ≠ nxt S ax) (hN : (0 ≤ S.2.2.1.2.2.2.2.2.1 ∧ S.2.2.1.2.2.2.2.2.1 ≤ 999999) ∧ 0 ≤ S.2.2.1.2.2.2.2.2.2 ∧ S.2.2.1.2.2.2.2.2.2 ≤ 999999) (R : RM u N S) (h : ∀ v, RM v N (pInsert ax p S).2.2 → FrM wIm u v → (mI v 0 0 = ((pInsert ax p S).1 : Int) ∧ Q65 u v S (pInsert ax p S).2.2) → P (pInsert ax p S).2.1 v) : F_X12_insert ax p u P := by
  unfold F_X12_insert
  rintro _ rfl
  have R' := RM_thr (x := 0) hB R
  have f : FrM wIm u (uI u 0 0 0) := FrM_uI FrM_rf (wHas_i (by decide))
  have z0 : mI (uI u 0 0 0) 0 0 = 0 := by rw [mI_uI, if_pos ⟨rfl, rfl⟩]
  generalize hv : uI u 0 0 0 = v at R' f z0 ⊢
  unfold pInsert at h
  have bw := hB.2.2.2.1.1
  have thr : ∀ k : Nat, ((RM (uI v 0 0 (k : Int)) N S) → FrM wIm u (uI v 0 0 (k : Int)) → (mI (uI v 0 0 (k : Int)) 0 0 = (k : Int) ∧ Q65 u (uI v 0 0 (k : Int)) S S) → P 0 (uI v 0 0 (k : Int))) → F_X12_throwing (k : Int) v (fun x_16 u_16 => P x_16 u_16) := fun k q => i_throwing (q (RM_thr hB R') (FrM_uI f (wHas_i (by decide))) ⟨by rw [mI_uI, if_pos ⟨rfl, rfl⟩], by rw [← hv]; exact Q65_t⟩)
  refine i_in ?_
  by_cases e : ax = 0 ∨ ax = 1
  · rw [show tb (0 ≤ ax ∧ ax ≤ 1) = 1 by rw [tb, if_pos (by omega)], if_neg (by decide)]
    rw [if_pos e] at h
    have m40 := R'.2.2.2.2.1.1
    refine i_linesOf (by decide) (by decide) ?_
    rw [ShM_ln m40 ax]
    have lb := lnS_b bw ax
    have mb := mst_b ax
    rw [w32e (x := lnS S.2.2.2.1.1 ax + 1) (by omega) (by omega)]
    refine i_in ?_
    by_cases e1 : 1 ≤ p ∧ p ≤ lnS S.2.2.2.1.1 ax + 1
    · rw [show tb (1 ≤ p ∧ p ≤ lnS S.2.2.2.1.1 ax + 1) = 1 by rw [tb, if_pos e1], if_neg (by decide)]
      rw [if_pos e1] at h
      have main : F_X12_insert_57 ax p (lnS S.2.2.2.1.1 ax) (lnS S.2.2.2.1.1 ax) (mst ax) v P := by
        unfold F_X12_insert_57
        by_cases e2 : lnS S.2.2.2.1.1 ax = mst ax
        · rw [if_pos e2]; rw [if_neg (by omega)] at h; exact thr 3 (fun a b c => h _ a b c)
        · rw [if_neg e2]; rw [if_pos (by omega)] at h
          dsimp only at h
          refine i_step hB R' (fun u1 kept R1 f1 z1 hk1 hkm => ?_)
          rw [w32e (x := lnS S.2.2.2.1.1 ax + 1) (by omega) (by omega)]
          have m1 : ShM u1 40 S.2.2.2.1.1 := by have q := R1.2.2.2.2.1.1; rw [pStep0_w] at q; exact q
          have hS : (pStep0 S).2.2.2.1.1 = S.2.2.2.1.1 := pStep0_w S
          have W0 := W4_ln (m := lnS S.2.2.2.1.1 ax + 1) e (W4_0 u1 ax)
          refine i_setLines ?_
          generalize lnw u1 ax (lnS S.2.2.2.1.1 ax + 1) = v1 at W0 ⊢
          unfold F_X12_insert_85
          refine lp_I (fun q => (p ≤ q.1 ∧ q.1 ≤ lnS S.2.2.2.1.1 ax + 1) ∧ W4 u1 q.2 ax (fun j => if p ≤ j ∧ j < q.1 then lnD u1 kept ax (j - 1) else lnD u1 40 ax j) (lnS S.2.2.2.1.1 ax + 1)) (fun q => (lnS S.2.2.2.1.1 ax + 1 - q.1).toNat) ?_ (p, v1) ⟨⟨Int.le_refl _, e1.2⟩, W4_x W0 (fun j a c => by dsimp only; rw [if_neg (by omega)]; exact ⟨rfl, fun _ _ _ => rfl⟩)⟩
          rintro G ⟨j, w⟩ ⟨⟨j0, j1⟩, Ww⟩ ih
          simp only at j0 j1 Ww
          unfold L_X12_insert_85
          dsimp only
          by_cases e3 : lnS S.2.2.2.1.1 ax < j
          · rw [if_pos e3]
            have ej : j = lnS S.2.2.2.1.1 ax + 1 := by omega
            show F_X12_emptyLine ax (w32 (p - 1)) w _
            rw [w32e (x := p - 1) (by omega) (by omega)]
            refine i_emptyLine e Ww (by omega) (by omega) (fun w2 W2 => ?_)
            have b6 : mI w2 0 6 = S.2.2.1.2.2.2.2.2.1 := (mE W2.2.1 (R := [(0, some 6)]) (by decide) (wHas_i (by decide))).trans R1.2.2.2.1.2.2.2.2.2.1
            have b7 : mI w2 0 7 = S.2.2.1.2.2.2.2.2.2 := (mE W2.2.1 (R := [(0, some 7)]) (by decide) (wHas_i (by decide))).trans R1.2.2.2.1.2.2.2.2.2.2
            have go : ∀ id, id = nxt S ax → F_X12_insert_140 ax (lnS S.2.2.2.1.1 ax) 40 ax (p - 1) id w2 P := by
              intro id hid
              unfold F_X12_insert_140 F_X12_insert_170
              refine i_setLine e (by omega) (by omega) ?_
              have W3 := W4_id (x := id) e W2 (show 0 ≤ p - 1 by omega) (by omega)
              generalize idw w2 ax (p - 1) id = w3 at W3 ⊢
              have c6 : mI w3 0 6 = S.2.2.1.2.2.2.2.2.1 := (mE W3.2.1 (R := [(0, some 6)]) (by decide) (wHas_i (by decide))).trans R1.2.2.2.1.2.2.2.2.2.1
              have c7 : mI w3 0 7 = S.2.2.1.2.2.2.2.2.2 := (mE W3.2.1 (R := [(0, some 7)]) (by decide) (wHas_i (by decide))).trans R1.2.2.2.1.2.2.2.2.2.2
              have c0 : mI w3 0 0 = 0 := by rw [mE W3.2.1 (R := [(0, some 0)]) (by decide) (k := 0) (i := 0) (wHas_i (by decide)), z1.1]; exact z0
              have c65 : mI w3 0 65 = 0 := (e65 W3.2.1 (by decide)).trans z1.2
              have f3 : FrM wIm u w3 := FrM_tr (FrM_tr f (FrM_sub f1 (by decide))) (FrM_sub W3.2.1 (by decide))
              have q := W4_src (S := pStep0 S) (ids := wthF (idS S.2.2.2.1.1 ax) p (nxt S ax)) e (Bd_step0 hB) (by rw [hS]; exact hD) R1 W3 (by omega) (fun i a c => by
                rw [hS]
                unfold upL wthF
                dsimp only
                by_cases c1 : i = p - 1
                · rw [if_pos c1, if_pos c1, if_pos rfl, hid]
                  exact Or.inr ⟨rfl, fun i a c => hL i a c⟩
                · rw [if_neg c1, if_neg c1, if_neg c1]
                  by_cases c2 : i < p - 1
                  · rw [if_pos c2, if_neg (show ¬ (p ≤ i ∧ i < j) by omega)]
                    exact Or.inl ⟨i, 40, rfl, m1, a, by omega, rfl⟩
                  · rw [if_neg c2, if_pos (show p ≤ i ∧ i < j by omega)]
                    exact Or.inl ⟨i - 1, kept, rfl, hkm, by omega, by omega, rfl⟩)
              rw [hS] at q
              have hBq : Bd (setW (pStep0 S) (shA S.2.2.2.1.1 ax (lnS S.2.2.2.1.1 ax + 1) (wthF (idS S.2.2.2.1.1 ax) p (nxt S ax)))) := Bd_setW (Bd_step0 hB) (shA_b bw (by omega) (by omega))
              have q2 := RM_bmp (ax := ax) hBq q
              rw [w32e (x := lnS S.2.2.2.1.1 ax + 1) (by omega) (by omega)]
              by_cases d : ax = 0
              · rw [if_pos d]; rw [if_pos d] at q2
                rintro _ rfl
                rw [c6, w32e (by omega) (by omega)]
                exact h _ q2 (FrM_uI f3 (wHas_i (by decide))) ⟨by rw [mI_uI, if_neg (by omega)]; exact c0, Or.inl (by rw [mI_uI, if_neg (by omega)]; exact c65)⟩
              · rw [if_neg d]; rw [if_neg d] at q2
                rintro _ rfl
                rw [c7, w32e (by omega) (by omega)]
                exact h _ q2 (FrM_uI f3 (wHas_i (by decide))) ⟨by rw [mI_uI, if_neg (by omega)]; exact c0, Or.inl (by rw [mI_uI, if_neg (by omega)]; exact c65)⟩
            by_cases d : ax = 0
            · rw [if_pos d]; exact go _ (by rw [b6]; unfold nxt; rw [if_pos d])
            · rw [if_neg d]; exact go _ (by rw [b7]; unfold nxt; rw [if_neg d])
          · rw [if_neg e3, w32e (x := j - 1) (by omega) (by omega), w32e (x := j + 1) (by omega) (by omega)]
            refine i_comeLine e Ww (by omega) (by omega) hk1.1 (by omega) (by omega) (by omega) (fun w2 W2 => ?_)
            refine ih (j + 1, w2) ⟨⟨by show p ≤ j + 1; omega, by show j + 1 ≤ _; omega⟩, W4_x W2 (fun i a c => ?_)⟩ (by show (lnS S.2.2.2.1.1 ax + 1 - (j + 1)).toNat < (lnS S.2.2.2.1.1 ax + 1 - j).toNat; omega)
            unfold upL
            dsimp only
            by_cases q1 : i = j
            · rw [if_pos q1, if_pos (by omega), q1]; exact ⟨rfl, fun _ _ _ => rfl⟩
            · rw [if_neg q1]
              by_cases q2 : p ≤ i ∧ i < j
              · rw [if_pos q2, if_pos (by omega)]; exact ⟨rfl, fun _ _ _ => rfl⟩
              · rw [if_neg q2, if_neg (by omega)]; exact ⟨rfl, fun _ _ _ => rfl⟩
      unfold mst at main
      by_cases d : ax = 0
      · rw [if_pos d]; rw [if_pos d] at main; exact main
      · rw [if_neg d]; rw [if_neg d] at main; exact main
    · rw [show tb (1 ≤ p ∧ p ≤ lnS S.2.2.2.1.1 ax + 1) = 0 by rw [tb, if_neg e1], if_pos rfl]
      rw [if_neg e1] at h; exact thr 2 (fun a b c => h _ a b c)
  · rw [show tb (0 ≤ ax ∧ ax ≤ 1) = 0 by rw [tb, if_neg (by omega)], if_pos rfl]
    rw [if_neg e] at h; exact thr 1 (fun a b c => h _ a b c)
