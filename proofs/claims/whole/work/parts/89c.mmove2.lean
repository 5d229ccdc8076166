theorem W4_src {u w : Mu} {N : Int} {S : SS} {ax n : Int} {T : LT} {ids : Int → Int} (hax : ax = 0 ∨ ax = 1) (hB : Bd S) (hD : DsS S.2.2.2.1.1) (R : RM u N S) (W : W4 u w ax T n) (n1 : n ≤ mst ax) (hT : ∀ j, 0 ≤ j → j < n → (∃ i t, T j = lnD u t ax i ∧ ShM u t S.2.2.2.1.1 ∧ 0 ≤ i ∧ i < lnS S.2.2.2.1.1 ax ∧ ids j = idS S.2.2.2.1.1 ax i) ∨ (T j = (ids j, fun _ => 0) ∧ ∀ i, 0 ≤ i → i < lnS S.2.2.2.1.1 ax → idS S.2.2.2.1.1 ax i ≠ ids j)) : RM w N (setW S (shA S.2.2.2.1.1 ax n ids)) := by
  have sa := shA_ln S.2.2.2.1.1 ax n ids hax
  refine W4_RM hax hB R W n1 sa.1 sa.2.1 (fun k _ _ => by rw [sa.2.2.2]) (fun j a c => ?_) (fun j k a c d g => ?_)
  · rw [sa.2.2.1]
    rcases hT j a c with ⟨i, t, e1, e2, e3, e4, e5⟩ | ⟨e1, e2⟩
    · rw [e1, e5]; exact ShM_id e2 ax i e3 e4
    · rw [e1]
  · rw [shA_c S.2.2.2.1.1 ax _ _ hax]
    rw [sa.2.1] at g
    rcases hT j a c with ⟨i, t, e1, e2, e3, e4, e5⟩ | ⟨e1, e2⟩
    · rw [e1, e5, plS_id hD hax e3 e4, if_pos e3]; exact ShM_c hax e2 e3 e4 d g
    · rw [e1, plS_no e2, if_neg (by decide)]; exact rfl
theorem RM_bmp {u : Mu} {N : Int} {S : SS} {ax : Int} (hB : Bd S) (R : RM u N S) : RM (if ax = 0 then uI u 0 6 (S.2.2.1.2.2.2.2.2.1 + 1) else uI u 0 7 (S.2.2.1.2.2.2.2.2.2 + 1)) N (bmp S ax) := by
  obtain ⟨⟨g1, g2⟩, ht, hl, hb, hk, hq⟩ := R
  have hk' := hB.2.2.2.1
  have key : ∀ v, FrM [(0, some 6), (0, some 7)] u v → RMb v (bmp S ax).2.2.1 → RM v N (bmp S ax) := fun v f q => by
    have g := Grw_fr g1.1 f (by decide)
    have z19 := mE f (R := rgC) (by decide) (k := 0) (i := 19) (wHas_i (by decide))
    have z24 := mE f (R := rgC) (by decide) (k := 0) (i := 24) (wHas_i (by decide))
    exact ⟨by rw [z19, z24]; exact ⟨g1, g2⟩, RMt_fr f (by decide) ht, RMl_fr f (by decide) (fun k a c => (hB.2.1.2 k a c).1) g (fun k _ _ => SlM_fr f (by decide)) hl, q, RMk_fr f (by decide) (by decide) hk'.1 hk'.2.2.1 hk'.2.2.2 g hk, RMq_fr f (by decide) g hq⟩
  obtain ⟨b1, b2, b3, b4, b5, b6, b7⟩ := hb
  by_cases e : ax = 0
  · rw [if_pos e]
    refine key _ (FrM_uI FrM_rf (wHas_i (by decide))) ?_
    unfold bmp RMb
    dsimp only
    rw [if_pos e, if_pos e]
    exact ⟨fun k a c => by rw [mI_uI, if_neg (by omega)]; exact b1 k a c, by rw [mI_uI, if_neg (by omega)]; exact b2, by rw [mI_uI, if_neg (by omega)]; exact b3, by rw [mI_uI, if_neg (by omega)]; exact b4, by rw [mI_uI, if_neg (by omega)]; exact b5, by rw [mI_uI, if_pos ⟨rfl, rfl⟩], by rw [mI_uI, if_neg (by omega)]; exact b7⟩
  · rw [if_neg e]
    refine key _ (FrM_uI FrM_rf (wHas_i (by decide))) ?_
    unfold bmp RMb
    dsimp only
    rw [if_neg e, if_neg e]
    exact ⟨fun k a c => by rw [mI_uI, if_neg (by omega)]; exact b1 k a c, by rw [mI_uI, if_neg (by omega)]; exact b2, by rw [mI_uI, if_neg (by omega)]; exact b3, by rw [mI_uI, if_neg (by omega)]; exact b4, by rw [mI_uI, if_neg (by omega)]; exact b5, by rw [mI_uI, if_neg (by omega)]; exact b6, by rw [mI_uI, if_pos ⟨rfl, rfl⟩]⟩
theorem i_move {u : Mu} {N : Int} {S : SS} {ax p t : Int} {P : Int → Mu → Prop} (hB : Bd S) (hD : DsS S.2.2.2.1.1) (R : RM u N S) (h : ∀ v, RM v N (pMove ax p t S).2.2 → FrM wUm u v → (mI v 0 0 = ((pMove ax p t S).1 : Int) ∧ Q65 u v S (pMove ax p t S).2.2) → P (pMove ax p t S).2.1 v) : F_X12_move ax p t u P := by
  unfold F_X12_move F_X12_move_49
  rintro _ rfl
  have R' := RM_thr (x := 0) hB R
  have f : FrM wUm u (uI u 0 0 0) := FrM_uI FrM_rf (wHas_i (by decide))
  have z0 : mI (uI u 0 0 0) 0 0 = 0 := by rw [mI_uI, if_pos ⟨rfl, rfl⟩]
  generalize hv : uI u 0 0 0 = v at R' f z0 ⊢
  unfold pMove at h
  have bw := hB.2.2.2.1.1
  have thr : ∀ k : Nat, ((RM (uI v 0 0 (k : Int)) N S) → FrM wUm u (uI v 0 0 (k : Int)) → (mI (uI v 0 0 (k : Int)) 0 0 = (k : Int) ∧ Q65 u (uI v 0 0 (k : Int)) S S) → P 0 (uI v 0 0 (k : Int))) → F_X12_throwing (k : Int) v (fun x_16 u_16 => P x_16 u_16) := fun k q => i_throwing (q (RM_thr hB R') (FrM_uI f (wHas_i (by decide))) ⟨by rw [mI_uI, if_pos ⟨rfl, rfl⟩], by rw [← hv]; exact Q65_t⟩)
  refine i_in ?_
  by_cases e : ax = 0 ∨ ax = 1
  · rw [show tb (0 ≤ ax ∧ ax ≤ 1) = 1 by rw [tb, if_pos (by omega)], if_neg (by decide)]
    rw [if_pos e] at h
    have m40 := R'.2.2.2.2.1.1
    refine i_linesOf (by decide) (by decide) ?_
    rw [ShM_ln m40 ax]
    have lb := lnS_b bw ax
    have mb := mst_b ax
    refine i_in ?_
    by_cases e1 : 1 ≤ p ∧ p ≤ lnS S.2.2.2.1.1 ax
    · rw [show tb (1 ≤ p ∧ p ≤ lnS S.2.2.2.1.1 ax) = 1 by rw [tb, if_pos e1], if_neg (by decide)]
      refine i_in ?_
      by_cases e2 : 1 ≤ t ∧ t ≤ lnS S.2.2.2.1.1 ax
      · rw [show tb (1 ≤ t ∧ t ≤ lnS S.2.2.2.1.1 ax) = 1 by rw [tb, if_pos e2], if_neg (by decide)]
        rw [if_pos ⟨e1, e2⟩] at h
        dsimp only at h
        refine i_step hB R' (fun u1 kept R1 f1 z1 hk1 hkm => ?_)
        have m1 : ShM u1 40 S.2.2.2.1.1 := by have q := R1.2.2.2.2.1.1; rw [pStep0_w] at q; exact q
        have W0 := W4_0 u1 ax
        rw [ShM_ln m1 ax] at W0
        have hS : (pStep0 S).2.2.2.1.1 = S.2.2.2.1.1 := pStep0_w S
        have fin : ∀ w T, W4 u1 w ax T (lnS S.2.2.2.1.1 ax) → (∀ j, 0 ≤ j → j < lnS S.2.2.2.1.1 ax → ∃ i r, T j = lnD u1 r ax i ∧ (r = kept ∨ r = 40) ∧ 0 ≤ i ∧ i < lnS S.2.2.2.1.1 ax ∧ wthF (wotF (idS S.2.2.2.1.1 ax) p) t (idS S.2.2.2.1.1 ax (p - 1)) j = idS S.2.2.2.1.1 ax i) → P (if p = t then 0 else if t ≤ p then p - t + 1 else t - p + 1) w := by
          intro w T W hT
          refine h w ?_ (FrM_tr (FrM_tr f f1) (FrM_sub W.2.1 (by decide))) ⟨by rw [mE W.2.1 (R := [(0, some 0)]) (by decide) (k := 0) (i := 0) (wHas_i (by decide)), z1.1]; exact z0, Q65_m W.2.1 (by decide) z1.2⟩
          have q := W4_src (S := pStep0 S) (ids := wthF (wotF (idS S.2.2.2.1.1 ax) p) t (idS S.2.2.2.1.1 ax (p - 1))) e (Bd_step0 hB) (by rw [hS]; exact hD) R1 W (by omega) (fun j a c => by
            obtain ⟨i, r, g1, g2, g3, g4, g5⟩ := hT j a c
            refine Or.inl ⟨i, r, g1, ?_, g3, by rw [hS]; exact g4, by rw [hS]; exact g5⟩
            rw [hS]
            rcases g2 with rfl | rfl
            · exact hkm
            · exact m1)
          rw [hS] at q; exact q
        have ids : ∀ j, wthF (wotF (idS S.2.2.2.1.1 ax) p) t (idS S.2.2.2.1.1 ax (p - 1)) j = idS S.2.2.2.1.1 ax (if j = t - 1 then p - 1 else if j < t - 1 then (if j < p - 1 then j else j + 1) else (if j - 1 < p - 1 then j - 1 else j - 1 + 1)) := fun j => by
          unfold wthF wotF
          by_cases c1 : j = t - 1
          · rw [if_pos c1, if_pos c1]
          · rw [if_neg c1, if_neg c1]
            by_cases c2 : j < t - 1
            · rw [if_pos c2, if_pos c2]
              by_cases c3 : j < p - 1
              · rw [if_pos c3, if_pos c3]
              · rw [if_neg c3, if_neg c3]
            · rw [if_neg c2, if_neg c2]
              by_cases c3 : j - 1 < p - 1
              · rw [if_pos c3, if_pos c3]
              · rw [if_neg c3, if_neg c3]
        by_cases e3 : t ≤ p
        · rw [if_pos e3]
          unfold F_X12_move_71 F_X12_move_76 F_X12_move_140
          refine lp_I (fun q => (t ≤ q.1 ∧ q.1 ≤ p) ∧ W4 u1 q.2 ax (fun j => if q.1 ≤ j ∧ j ≤ p - 1 then lnD u1 kept ax (j - 1) else lnD u1 40 ax j) (lnS S.2.2.2.1.1 ax)) (fun q => (q.1 - t).toNat) ?_ (p, u1) ⟨⟨e3, Int.le_refl _⟩, W4_x W0 (fun j a c => by dsimp only; rw [if_neg (by omega)]; exact ⟨rfl, fun _ _ _ => rfl⟩)⟩
          rintro G ⟨j, w⟩ ⟨⟨j0, j1⟩, Ww⟩ ih
          simp only at j0 j1 Ww
          unfold L_X12_move_76
          dsimp only
          by_cases e4 : j = t
          · rw [if_pos e4]
            subst e4
            show F_X12_comeLine ax (w32 (p - 1)) kept (w32 (j - 1)) w _
            rw [w32e (x := p - 1) (by omega) (by omega), w32e (x := j - 1) (by omega) (by omega)]
            refine i_comeLine e Ww (by omega) (by omega) hk1.1 (by omega) (by omega) (by omega) (fun w2 W2 => ?_)
            have q := fin w2 _ W2 (fun i a c => by
              rw [ids i]
              unfold upL
              dsimp only
              by_cases c1 : i = j - 1
              · rw [if_pos c1, if_pos c1]; exact ⟨p - 1, kept, rfl, Or.inl rfl, by omega, by omega, rfl⟩
              · rw [if_neg c1, if_neg c1]
                by_cases c2 : i < j - 1
                · rw [if_pos c2, if_pos (show i < p - 1 by omega), if_neg (show ¬ (j ≤ i ∧ i ≤ p - 1) by omega)]
                  exact ⟨i, 40, rfl, Or.inr rfl, a, c, rfl⟩
                · rw [if_neg c2]
                  by_cases c3 : i - 1 < p - 1
                  · rw [if_pos c3, if_pos (show j ≤ i ∧ i ≤ p - 1 by omega)]
                    exact ⟨i - 1, kept, rfl, Or.inl rfl, by omega, by omega, rfl⟩
                  · rw [if_neg c3, if_neg (show ¬ (j ≤ i ∧ i ≤ p - 1) by omega)]
                    exact ⟨i, 40, rfl, Or.inr rfl, a, c, by rw [show i - 1 + 1 = i by omega]⟩)
            by_cases c1 : p = j
            · rw [if_pos c1]; rw [if_pos c1] at q; exact q
            · rw [if_neg c1]; rw [if_neg c1, if_pos e3] at q
              rw [w32e (x := j - p) (by omega) (by omega), w32e (x := (j - p) * -1) (by omega) (by omega), w32e (by omega) (by omega), show (j - p) * -1 + 1 = p - j + 1 by omega]; exact q
          · rw [if_neg e4, w32e (x := j + -1) (by omega) (by omega), w32e (x := j + -1 - 1) (by omega) (by omega), w32e (x := j - 1) (by omega) (by omega)]
            refine i_comeLine e Ww (by omega) (by omega) hk1.1 (by omega) (by omega) (by omega) (fun w2 W2 => ?_)
            refine ih (j + -1, w2) ⟨⟨by show t ≤ j + -1; omega, by show j + -1 ≤ p; omega⟩, W4_x W2 (fun i a c => ?_)⟩ (by show (j + -1 - t).toNat < (j - t).toNat; omega)
            unfold upL
            dsimp only
            by_cases q1 : i = j - 1
            · rw [if_pos q1, if_pos (by omega), show i - 1 = j + -1 - 1 by omega]; exact ⟨rfl, fun _ _ _ => rfl⟩
            · rw [if_neg q1]
              by_cases q2 : j ≤ i ∧ i ≤ p - 1
              · rw [if_pos q2, if_pos (by omega)]; exact ⟨rfl, fun _ _ _ => rfl⟩
              · rw [if_neg q2, if_neg (by omega)]; exact ⟨rfl, fun _ _ _ => rfl⟩
        · rw [if_neg e3]
          unfold F_X12_move_71 F_X12_move_76 F_X12_move_140
          refine lp_I (fun q => (p ≤ q.1 ∧ q.1 ≤ t) ∧ W4 u1 q.2 ax (fun j => if p - 1 ≤ j ∧ j < q.1 - 1 then lnD u1 kept ax (j + 1) else lnD u1 40 ax j) (lnS S.2.2.2.1.1 ax)) (fun q => (t - q.1).toNat) ?_ (p, u1) ⟨⟨Int.le_refl _, by show p ≤ t; omega⟩, W4_x W0 (fun j a c => by dsimp only; rw [if_neg (by omega)]; exact ⟨rfl, fun _ _ _ => rfl⟩)⟩
          rintro G ⟨j, w⟩ ⟨⟨j0, j1⟩, Ww⟩ ih
          simp only at j0 j1 Ww
          unfold L_X12_move_76
          dsimp only
          by_cases e4 : j = t
          · rw [if_pos e4]
            subst e4
            show F_X12_comeLine ax (w32 (p - 1)) kept (w32 (j - 1)) w _
            rw [w32e (x := p - 1) (by omega) (by omega), w32e (x := j - 1) (by omega) (by omega)]
            refine i_comeLine e Ww (by omega) (by omega) hk1.1 (by omega) (by omega) (by omega) (fun w2 W2 => ?_)
            have q := fin w2 _ W2 (fun i a c => by
              rw [ids i]
              unfold upL
              dsimp only
              by_cases c1 : i = j - 1
              · rw [if_pos c1, if_pos c1]; exact ⟨p - 1, kept, rfl, Or.inl rfl, by omega, by omega, rfl⟩
              · rw [if_neg c1, if_neg c1]
                by_cases c2 : i < j - 1
                · rw [if_pos c2]
                  by_cases c3 : i < p - 1
                  · rw [if_pos c3, if_neg (show ¬ (p - 1 ≤ i ∧ i < j - 1) by omega)]
                    exact ⟨i, 40, rfl, Or.inr rfl, a, c, rfl⟩
                  · rw [if_neg c3, if_pos (show p - 1 ≤ i ∧ i < j - 1 by omega)]
                    exact ⟨i + 1, kept, rfl, Or.inl rfl, by omega, by omega, rfl⟩
                · rw [if_neg c2, if_neg (show ¬ (i - 1 < p - 1) by omega), if_neg (show ¬ (p - 1 ≤ i ∧ i < j - 1) by omega)]
                  exact ⟨i, 40, rfl, Or.inr rfl, a, c, by rw [show i - 1 + 1 = i by omega]⟩)
            rw [if_neg (by omega)]; rw [if_neg (by omega), if_neg (by omega)] at q
            rw [w32e (x := j - p) (by omega) (by omega), w32e (x := (j - p) * 1) (by omega) (by omega), w32e (by omega) (by omega), show (j - p) * 1 + 1 = j - p + 1 by omega]; exact q
          · rw [if_neg e4, w32e (x := j + 1) (by omega) (by omega), w32e (x := j + 1 - 1) (by omega) (by omega), w32e (x := j - 1) (by omega) (by omega)]
            refine i_comeLine e Ww (by omega) (by omega) hk1.1 (by omega) (by omega) (by omega) (fun w2 W2 => ?_)
            refine ih (j + 1, w2) ⟨⟨by show p ≤ j + 1; omega, by show j + 1 ≤ t; omega⟩, W4_x W2 (fun i a c => ?_)⟩ (by show (t - (j + 1)).toNat < (t - j).toNat; omega)
            unfold upL
            dsimp only
            by_cases q1 : i = j - 1
            · rw [if_pos q1, if_pos (by omega), show i + 1 = j + 1 - 1 by omega]; exact ⟨rfl, fun _ _ _ => rfl⟩
            · rw [if_neg q1]
              by_cases q2 : p - 1 ≤ i ∧ i < j - 1
              · rw [if_pos q2, if_pos (by omega)]; exact ⟨rfl, fun _ _ _ => rfl⟩
              · rw [if_neg q2, if_neg (by omega)]; exact ⟨rfl, fun _ _ _ => rfl⟩
      · rw [show tb (1 ≤ t ∧ t ≤ lnS S.2.2.2.1.1 ax) = 0 by rw [tb, if_neg e2], if_pos rfl]
        rw [if_neg (fun w => e2 w.2)] at h; exact thr 2 (fun a b c => h _ a b c)
    · rw [show tb (1 ≤ p ∧ p ≤ lnS S.2.2.2.1.1 ax) = 0 by rw [tb, if_neg e1], if_pos rfl]
      rw [if_neg (fun w => e1 w.1)] at h; exact thr 2 (fun a b c => h _ a b c)
  · rw [show tb (0 ≤ ax ∧ ax ≤ 1) = 0 by rw [tb, if_neg (by omega)], if_pos rfl]
    rw [if_neg e] at h; exact thr 1 (fun a b c => h _ a b c)
