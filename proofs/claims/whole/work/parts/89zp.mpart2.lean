theorem i_part {N v q0 : Int} {S : SS} {ps : List Prt} (hB : Bd S) (hv : isShP v S) (hw : WfF ps) (hp : ∀ p ∈ ps, WfP p) (hn : ∀ p ∈ ps, p.2.2.2.2.2 < S.2.1.1) (l60 : ps.length ≤ 60) : ∀ (f n : Nat) (i : Int) (u : Mu) (L : List Int) (P : Mu → Prop), 2 * f ≤ n → 0 ≤ i → i < f → i < ps.length → RM u N S → CoB u → FmM u q0 ps → OutM u L → L.length + (wr (EnW v S) ps f i).length ≤ 2000 → (∀ w, OutM w (L ++ wr (EnW v S) ps f i) → FrM wWr u w → P w) → F_X12_putPart n (q0 + i) (slt v) u P := by
  intro f
  induction f with
  | zero => intro n i u L P _ h0 h1; exfalso; omega
  | succ f ih =>
    intro n i u L P hnf h0 hf h1 R B F o hl h
    cases n with
    | zero => exfalso; omega
    | succ n =>
    have hi : i.toNat < ps.length := by omega
    obtain ⟨⟨w1, w2⟩, w3⟩ := hw.1 i.toNat hi
    have hm := gP_mem hi
    have wp := hp _ hm
    have hver := hn _ hm
    have se := spn_e hi w2
    have wb := fun {m : Nat} hm => wlk_b hi w1 w2 (m := m) hm
    rw [Int.toNat_of_nonneg h0] at se wb
    have f0 := F.1
    obtain ⟨pm, -⟩ := FmM_P F h0 h1
    have opc : ∀ (w : Mu) (j : Int), FrM wWr u w → 0 ≤ j → j < ps.length → lvM (mI w 26 (q0 + j)) = bnd (opA ps j) := by
      intro w j fw j0 j1
      rw [(FmM_P (FmM_w B fw F) j0 j1).1.1]
      exact lvM_k (hp _ (gP_mem (by omega)))
    have rcc : ∀ (j : Int) (u1 : Mu), FrM wWr u u1 → 0 ≤ j → j ≤ i - 1 → ∀ m : Nat, 2 * f ≤ m → ∀ (w : Mu) (M : List Int) (Q : Mu → Prop), OutM w M → FrM wWr u1 w → M.length + (wr (EnW v S) ps f j).length ≤ 2000 → (∀ x, OutM x (M ++ wr (EnW v S) ps f j) → FrM wWr w x → Q x) → F_X12_putPart m (q0 + j) (slt v) w Q := by
      intro j u1 f1 j0 j1 m hm w M Q o1 f2 hl1 h2
      have f3 := FrM_tr f1 f2
      exact ih m j w M Q hm j0 (by omega) (by omega) (RM_w hB f3 R) (CoB_w f3 B) (FmM_w B f3 F) o1 hl1 h2
    have hq : 0 ≤ q0 + i ∧ q0 + i < 60420 := ⟨by omega, by omega⟩
    rw [F_X12_putPart_s]
    unfold B_X12_putPart
    refine ⟨hq.1, hq.2, i_level ?_⟩
    rw [wr] at hl h
    have pm' := pm
    obtain ⟨m26, m27, mli, -⟩ := pm'
    have lv := opc u i FrM_rf h0 h1
    rw [lv, m26]
    unfold opA at hl h lv ⊢
    generalize hpp : ps.getD i.toNat pd0 = p at *
    have p1 := wp.1
    have p5 := wp.2.2.2.2.1
    by_cases c14 : p.1 = 14
    · rw [if_pos c14] at hl h
      have p2 := wp.2.1
      revert p2 mli
      cases hli : p.2.2.1 with
      | none => intro _ p2; exact absurd c14 p2
      | some l =>
        rintro ⟨g1, g2, g3⟩ ⟨-, lw⟩
        rw [hli] at hl h
        simp only at hl h
        rw [kM_lit c14 hli]
        obtain ⟨a1, a2, a3, a4, a5, a6, a7⟩ := id lw
        unfold litW quo txtL at hl h
        by_cases d1 : l.1 = 1
        · rw [if_pos d1]
          rw [if_neg (c := l.1 = 2) (by omega), if_pos d1, List.nil_append, List.append_nil] at hl h
          have := a2 d1
          refine ⟨hq.1, hq.2, ?_⟩
          rw [g1]
          exact i_number o (by omega) (by omega) hl h
        · rw [if_neg d1]
          rw [if_neg d1] at hl h
          by_cases d2 : l.1 = 2
          · rw [if_pos d2]
            rw [if_pos d2, if_neg (by omega), if_neg (by omega), List.length_append, List.length_append, List.length_singleton] at hl
            rw [if_pos d2, if_neg (by omega), if_neg (by omega)] at h
            refine i_put o (by omega) (by decide) (by decide) (fun u1 o1 f1 => ⟨hq.1, hq.2, hq.1, hq.2, ?_⟩)
            have g3' := LetM_g (Grw_fr B.1.1 f1 (by decide)) g3
            rw [mE f1 (R := rgC) (by decide) (k := 30) (wHas_a (by decide)), mE f1 (R := rgC) (by decide) (k := 31) (wHas_a (by decide)), g2]
            refine i_letters o1 g3' rfl (CoB_w f1 B).1.2 a7 (by rw [List.length_append, List.length_singleton]; omega) (fun u2 o2 f2 => i_put o2 (by rw [List.length_append, List.length_append, List.length_singleton]; omega) (by decide) (by decide) (fun u3 o3 f3 => h u3 ?_ (FrM_tr f1 (FrM_tr f2 f3))))
            rw [← List.append_assoc, ← List.append_assoc]; exact o3
          · have d3 : l.1 = 3 := by omega
            rw [if_neg d2, if_pos d3]
            rw [if_neg d2, if_pos d3, List.nil_append, List.append_nil] at hl h
            refine ⟨hq.1, hq.2, ?_⟩
            rw [g1]
            unfold F_X12_putPart_93
            rcases a3 d3 with e | e
            · rw [if_neg (by omega)]
              rw [if_pos e] at hl h
              exact i_say o (by decide) (by rw [sL_ref.2.2]; exact hl) (fun w o1 f1 => h w (by rw [← sL_ref.2.2]; exact o1) f1)
            · rw [if_pos e]
              rw [if_neg (by omega)] at hl h
              exact i_say o (by decide) (by rw [sL_ref.2.1]; exact hl) (fun w o1 f1 => h w (by rw [← sL_ref.2.1]; exact o1) f1)
    · rw [if_neg c14] at hl h
      obtain ⟨k1, k2, k3, k4, k5, k6⟩ := kM_o wp c14
      by_cases c15 : p.1 = 15
      · rw [if_pos c15] at hl h
        rw [k1 c15, if_neg (by decide), if_neg (by decide), if_neg (by decide), if_pos rfl]
        exact i_say o (by decide) (by rw [sL_ref.1]; exact hl) (fun w o1 f1 => h w (by rw [← sL_ref.1]; exact o1) f1)
      · rw [if_neg c15] at hl h
        by_cases c16 : p.1 = 16 ∨ p.1 = 17
        · rw [if_pos c16] at hl h
          have ek : kM p = 5 ∨ kM p = 6 := by rcases c16 with e | e; exact Or.inl (k2 e); exact Or.inr (k3 e)
          rw [if_neg (by omega), if_neg (by omega), if_neg (by omega), if_neg (by omega)]
          unfold F_X12_putPart_125
          by_cases e5 : kM p = 5
          · rw [if_pos e5]; exact i_plc hB R o hv hq pm c16 hver hl h
          · rw [if_neg e5, if_pos (by omega)]; exact i_plc hB R o hv hq pm c16 hver hl h
        · rw [if_neg c16] at hl h
          by_cases c13 : p.1 = 13
          · rw [if_pos c13] at hl h
            have a1 : p.2.1 = 1 := by unfold argL argM at p5; rw [c13] at p5; simp at p5; omega
            rw [a1] at wb
            have b0 := wb (m := 0) (by decide)
            rw [wlk] at b0
            rw [k4 c13, if_neg (by decide), if_neg (by decide), if_neg (by decide), if_neg (by decide), if_neg (by decide), if_neg (by decide), if_pos rfl]
            rw [List.length_append, List.length_singleton] at hl
            refine i_put o (by omega) (by decide) (by decide) (fun u1 o1 f1 => ?_)
            rw [w32e (x := q0 + i - 1) (by omega) (by omega), show q0 + i - 1 = q0 + (i - 1) by omega]
            refine ⟨by omega, by omega, i_level ?_⟩
            have lv1 := opc u1 (i - 1) f1 b0.1 (by omega)
            unfold opA at lv1
            rw [lv1]
            unfold F_X12_putPart_171 F_X12_putPart_336
            unfold sdW opA at hl h
            cases n with
            | zero => exfalso; omega
            | succ n =>
            by_cases d : bnd (ps.getD (i - 1).toNat pd0).1 < 5
            · rw [if_pos d] at hl h
              rw [if_neg (by omega)]
              exact i_side (g := wr (EnW v S) ps f (i - 1)) o1 (by rw [if_neg (by decide), List.length_append, List.length_singleton]; omega) (rcc (i - 1) u1 f1 b0.1 (by omega) n (by omega)) (fun w o2 f2 => h w (by rw [if_neg (by decide), List.append_assoc] at o2; exact o2) (FrM_tr f1 f2))
            · rw [if_neg d] at hl h
              rw [if_pos (by omega)]
              exact i_side (g := wr (EnW v S) ps f (i - 1)) o1 (by rw [if_pos rfl, List.length_append, List.length_singleton]; omega) (rcc (i - 1) u1 f1 b0.1 (by omega) n (by omega)) (fun w o2 f2 => h w (by rw [if_pos rfl, List.append_assoc] at o2; exact o2) (FrM_tr f1 f2))
          · rw [if_neg c13] at hl h
            by_cases c12 : p.1 ≤ 12
            · rw [if_pos c12] at hl h
              have a1 : p.2.1 = 2 := by unfold argL argM at p5; rw [if_pos c12, if_pos c12] at p5; omega
              rw [a1] at wb
              have b0 := wb (m := 0) (by decide)
              rw [wlk] at b0
              have b1 := wb (m := 1) (by decide)
              have ek := k5 c12
              rw [if_neg (by omega), if_neg (by omega), if_neg (by omega), if_neg (by omega), if_neg (by omega), if_neg (by omega), if_neg (by omega), if_neg (by omega)]
              refine i_under (n := 2) F h0 h1 (by rw [hpp]; exact a1) (fun m hm => wb hm) (by decide) (by decide) (by decide) ?_
              rw [show 2 - 1 - (0 : Int).toNat = 1 from rfl]
              generalize wlk (spnL ps) 1 (i - 1) = j at hl h b1 ⊢
              refine ⟨by omega, by omega, i_level ?_⟩
              have lv1 := opc u j FrM_rf b1.1 (by omega)
              unfold opA at lv1
              rw [lv1]
              cases n with
              | zero => exfalso; omega
              | succ n =>
              have key : ∀ br : Int, (if br = 0 then wr (EnW v S) ps f j else [40] ++ wr (EnW v S) ps f j ++ [41]) = sdW (wr (EnW v S) ps f) ps j (if bnd p.1 = 1 then 2 else bnd p.1) → F_X12_putPart_231 (F_X12_putPart (n + 1)) (F_X12_putSide (n + 1)) (q0 + i) (slt v) (kM p) (bnd p.1) (q0 + j) (slt v) br u P := by
                intro br hbr
                rw [List.length_append, List.length_append] at hl
                unfold F_X12_putPart_231
                refine i_side (g := wr (EnW v S) ps f j) o (by rw [hbr]; omega) (rcc j u FrM_rf b1.1 (by omega) n (by omega)) (fun u1 o1 f1 => ?_)
                rw [hbr] at o1
                generalize sdW (wr (EnW v S) ps f) ps j (if bnd p.1 = 1 then 2 else bnd p.1) = W1 at hl h o1
                have sg := (sg_M p.1.toNat (by omega) (by omega))
                rw [Int.toNat_of_nonneg (by omega)] at sg
                rw [ek, show p.1 + 9 = (p.1.toNat : Int) + 9 by omega]
                refine i_sign (by omega) (by omega) ?_
                refine i_say o1 (by omega) (by rw [sg.1, List.length_append]; omega) (fun u2 o2 f2 => ?_)
                rw [sg.1] at o2
                rw [w32e (x := q0 + i - 1) (by omega) (by omega), show q0 + i - 1 = q0 + (i - 1) by omega]
                refine ⟨by omega, by omega, i_level ?_⟩
                have lv2 := opc u2 (i - 1) (FrM_tr f1 f2) b0.1 (by omega)
                unfold opA at lv2
                rw [lv2]
                unfold F_X12_putPart_268 F_X12_putPart_336
                unfold sdW opA at h hl
                by_cases d : bnd (ps.getD (i - 1).toNat pd0).1 < bnd p.1 + 1
                · rw [if_pos d] at hl h
                  rw [if_neg (by omega)]
                  exact i_side (g := wr (EnW v S) ps f (i - 1)) o2 (by rw [if_neg (c := (1 : Int) = 0) (by decide), List.length_append, List.length_append]; omega) (rcc (i - 1) u2 (FrM_tr f1 f2) b0.1 (by omega) n (by omega)) (fun w o3 f3 => h w (by rw [if_neg (c := (1 : Int) = 0) (by decide), List.append_assoc, List.append_assoc] at o3; rw [List.append_assoc]; exact o3) (FrM_tr f1 (FrM_tr f2 f3)))
                · rw [if_neg d] at hl h
                  rw [if_pos (by omega)]
                  exact i_side (g := wr (EnW v S) ps f (i - 1)) o2 (by rw [if_pos rfl, List.length_append, List.length_append]; omega) (rcc (i - 1) u2 (FrM_tr f1 f2) b0.1 (by omega) n (by omega)) (fun w o3 f3 => h w (by rw [if_pos rfl, List.append_assoc, List.append_assoc] at o3; rw [List.append_assoc]; exact o3) (FrM_tr f1 (FrM_tr f2 f3)))
              have bb : 1 ≤ bnd p.1 := by unfold bnd; split <;> (try split) <;> (try split) <;> (try split) <;> (try split) <;> omega
              unfold F_X12_putPart_226 F_X12_putPart_230
              by_cases d1 : bnd (ps.getD j.toNat pd0).1 < bnd p.1
              · rw [if_pos d1]
                exact key 1 (by unfold sdW opA; rw [if_neg (by decide), if_pos (by split <;> omega)])
              · rw [if_neg d1]
                by_cases d2 : bnd p.1 = 1
                · rw [if_pos d2]
                  by_cases d3 : bnd (ps.getD j.toNat pd0).1 = 1
                  · rw [if_pos d3]
                    exact key 1 (by unfold sdW opA; rw [if_neg (by decide), if_pos (by rw [if_pos d2]; omega)])
                  · rw [if_neg d3]
                    exact key 0 (by unfold sdW opA; rw [if_pos rfl, if_neg (by rw [if_pos d2]; omega)])
                · rw [if_neg d2]
                  exact key 0 (by unfold sdW opA; rw [if_pos rfl, if_neg (by rw [if_neg d2]; omega)])
            · rw [if_neg c12] at hl h
              have ek := k6 (by omega)
              rw [if_neg (by omega), if_neg (by omega), if_neg (by omega), if_neg (by omega), if_neg (by omega), if_neg (by omega), if_neg (by omega), if_pos (by omega)]
              have nm := (nm_M p.1.toNat (by omega) (by omega))
              rw [Int.toNat_of_nonneg (by omega)] at nm
              have a0 : 1 ≤ p.2.1 ∧ p.2.1 ≤ 8 := by
                unfold argL argM at p5
                have c17 : ¬ p.1 ≤ 17 := by omega
                simp only [if_neg c12, if_neg c13, if_neg c17] at p5
                obtain ⟨q1, q2⟩ := p5
                constructor
                · revert q1
                  split <;> (try split) <;> omega
                · revert q2
                  split <;> (try split) <;> (try split) <;> omega
              rw [List.length_append, List.length_append, List.length_append, List.length_singleton, List.length_singleton] at hl
              rw [ek, show p.1 + 12 = (p.1.toNat : Int) + 12 by omega]
              refine i_name (by omega) (by omega) ?_
              refine i_say o (by omega) (by rw [nm.1]; omega) (fun u1 o1 f1 => ?_)
              rw [nm.1] at o1
              have en : p.2.1 = (p.2.1.toNat : Int) := by omega
              generalize hnn : p.2.1.toNat = na at *
              have mono : ∀ k : Nat, k ≤ na → (argW (wr (EnW v S) ps f) (spnL ps) na (i - 1) k).length ≤ (argW (wr (EnW v S) ps f) (spnL ps) na (i - 1) na).length := by
                intro k hk
                obtain ⟨d, rfl⟩ : ∃ d, na = k + d := ⟨na - k, by omega⟩
                have key : ∀ d e : Nat, (argW (wr (EnW v S) ps f) (spnL ps) e (i - 1) k).length ≤ (argW (wr (EnW v S) ps f) (spnL ps) e (i - 1) (k + d)).length := by
                  intro d e
                  induction d with
                  | zero => exact Nat.le_refl _
                  | succ d ihd => rw [← Nat.add_assoc, argW, List.length_append, List.length_append]; omega
                exact key d (k + d)
              unfold F_X12_putPart_285
              refine lp_I (fun t => (0 ≤ t.1 ∧ t.1 ≤ (na : Int)) ∧ FrM wWr u t.2 ∧ OutM t.2 (L ++ nmW p.1 ++ (if t.1 = 0 then [] else [40] ++ argW (wr (EnW v S) ps f) (spnL ps) na (i - 1) t.1.toNat))) (fun t => ((na : Int) - t.1).toNat) ?_ (0, u1) ⟨⟨by show (0 : Int) ≤ 0; omega, by show (0 : Int) ≤ na; omega⟩, f1, by show OutM u1 (L ++ nmW p.1 ++ (if (0 : Int) = 0 then [] else _)); rw [if_pos rfl, List.append_nil]; exact o1⟩
              rintro G ⟨k, u2⟩ ⟨⟨k0, k1⟩, f2, o2⟩ ihl
              simp only at k0 k1 f2 o2
              unfold L_X12_putPart_285 F_X12_putPart_336
              dsimp only
              refine ⟨hq.1, hq.2, ?_⟩
              rw [mE f2 (R := rgC) (by decide) (k := 27) (wHas_a (by decide)), m27, en]
              by_cases c : (na : Int) ≤ k
              · rw [if_pos c]
                have ekn : k.toNat = na := by omega
                rw [if_neg (by omega), ekn] at o2
                refine i_put o2 (by rw [List.length_append, List.length_append, List.length_append, List.length_singleton]; omega) (by decide) (by decide) (fun w o3 f3 => h w ?_ (FrM_tr f2 f3))
                simp only [List.append_assoc] at o3 ⊢
                exact o3
              · rw [if_neg c]
                have hk : k.toNat + 1 ≤ na := by omega
                have mo := mono (k.toNat + 1) hk
                have bj := wb (m := na - 1 - k.toNat) (by omega)
                have eA : argW (wr (EnW v S) ps f) (spnL ps) na (i - 1) (k.toNat + 1) = argW (wr (EnW v S) ps f) (spnL ps) na (i - 1) k.toNat ++ (if k.toNat = 0 then [] else [44]) ++ wr (EnW v S) ps f (wlk (spnL ps) (na - 1 - k.toNat) (i - 1)) := rfl
                have key : ∀ ch : Int, (ch = 40 ∨ ch = 44) → (L ++ nmW p.1 ++ (if k = 0 then [] else [40] ++ argW (wr (EnW v S) ps f) (spnL ps) na (i - 1) k.toNat)) ++ [ch] ++ wr (EnW v S) ps f (wlk (spnL ps) (na - 1 - k.toNat) (i - 1)) = L ++ nmW p.1 ++ ([40] ++ argW (wr (EnW v S) ps f) (spnL ps) na (i - 1) (k.toNat + 1)) → F_X12_putPart_309 (F_X12_putPart n) (F_X12_putSide n) (q0 + i) (slt v) k ch u2 (fun o => match o with
                    | .inl s' => G s'
                    | .inr e => F_X12_put 41 e (fun u_333 => P u_333)) := by
                  intro ch hch he
                  have hlen := congrArg List.length he
                  simp only [List.length_append, List.length_singleton] at hlen
                  unfold F_X12_putPart_309
                  refine i_put o2 (by simp only [List.length_append, List.length_singleton]; omega) (by omega) (by omega) (fun u3 o3 f3 => ?_)
                  have f23 := FrM_tr f2 f3
                  refine i_under (n := na) (FmM_w B f23 F) h0 h1 (by rw [hpp]; exact en) (fun m hm => wb hm) k0 (by omega) (by omega) ?_
                  rw [w32e (x := k + 1) (by omega) (by omega)]
                  refine rcc _ u3 f23 bj.1 bj.2 n (by omega) u3 _ _ o3 FrM_rf (by simp only [List.length_append, List.length_singleton]; omega) (fun w o4 f4 => ?_)
                  refine ihl _ ⟨⟨by show 0 ≤ k + 1; omega, by show k + 1 ≤ _; omega⟩, FrM_tr f23 f4, ?_⟩ (by show ((na : Int) - (k + 1)).toNat < ((na : Int) - k).toNat; omega)
                  show OutM w (L ++ nmW p.1 ++ (if k + 1 = 0 then [] else [40] ++ argW (wr (EnW v S) ps f) (spnL ps) na (i - 1) (k + 1).toNat))
                  rw [if_neg (by omega), show (k + 1).toNat = k.toNat + 1 by omega, ← he]; exact o4
                by_cases ck : k = 0
                · rw [if_pos ck]
                  refine key 40 (Or.inl rfl) ?_
                  rw [if_pos ck, eA, ck]
                  show _ = L ++ nmW p.1 ++ ([40] ++ (argW (wr (EnW v S) ps f) (spnL ps) na (i - 1) 0 ++ (if 0 = 0 then [] else [44]) ++ _))
                  rw [argW, if_pos rfl]
                  simp only [List.append_assoc, List.nil_append]
                · rw [if_neg ck]
                  refine key 44 (Or.inr rfl) ?_
                  rw [if_neg ck, eA, if_neg (by omega)]
                  simp only [List.append_assoc]
