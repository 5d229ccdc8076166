theorem o_literal {z : Z} {b : Nat → Nat} {I : Nat → Prop} {L : List Int} {v : Nat} {l : Lit} {P : Z → Prop} (c : CWz z b) (rf : Frz z b I) (hw : WzI z I) (o : OutC z b L) (hv : LitC z I v l) (wl : WfL l) (hl : L.length + (litW l).length ≤ 2000) (h : ∀ y, OutC y b (L ++ litW l) → FrZ (WB b wWc) z y → P y) : F_X10_literal (b 2) (some v) z P := by
  have kv := hv.2.1
  have e1 := hv.2.2.1
  unfold litW quo at hl h
  rw [List.length_append, List.length_append] at hl
  unfold F_X10_literal
  rw [if_neg (by simp)]
  refine ⟨v, rfl, kv, ?_⟩
  rw [e1]
  have key : ∀ w : Z, FrZ (WB b wPu) z w → OutC w b (L ++ (if l.1 = 2 then [34] else [])) → F_X10_literal_19 (b 2) (some v) w P := by
    intro w fw ow
    have cy := CWz_P c fw
    have lv := LitC_fr (WB_L fw) (WL_I rf) hv
    unfold F_X10_literal_19 F_X10_literal_38
    refine ⟨cK cy 2 rfl rfl, o_value cy (Frz_fr rf fw) (WzI_fr rf (WB_L fw) (WL_I rf) hw) ow lv wl (by rw [List.length_append]; omega) (fun y oy fy => ?_)⟩
    have f2 := FrZ_tr (pu_W fw) fy
    have cy2 := CWz_B c f2
    have lv2 := LitC_fr (WB_L f2) (WL_I rf) hv
    refine ⟨v, rfl, lv2.2.1, ?_⟩
    rw [lv2.2.2.1]
    by_cases e : l.1 = 2
    · rw [if_pos e]
      rw [if_pos e] at h hl oy
      rw [List.length_singleton] at hl
      refine ⟨cK cy2 2 rfl rfl, o_put cy2 oy (by rw [List.length_append, List.length_append, List.length_singleton]; omega) (by decide) (by decide) (fun x ox fx => h x ?_ (FrZ_tr f2 (pu_W fx)))⟩
      simp only [List.append_assoc] at ox ⊢
      exact ox
    · rw [if_neg e]
      rw [if_neg e, List.append_nil] at h oy
      rw [List.nil_append] at h
      exact h y oy f2
  by_cases e : l.1 = 2
  · rw [if_pos e]
    rw [if_pos e] at key hl
    rw [List.length_singleton] at hl
    exact ⟨cK c 2 rfl rfl, o_put c o (by omega) (by decide) (by decide) (fun w ow fw => key w fw ow)⟩
  · rw [if_neg e]
    rw [if_neg e, List.append_nil] at key
    exact key z FrZ_rf o
theorem o_part {b : Nat → Nat} {I : Nat → Prop} {v : Int} {S : SS} {ps : List Prt} {pa : Nat} (hv : isShP v S) (hw : WfF ps) (hp : ∀ p ∈ ps, WfP p) (hn : ∀ p ∈ ps, p.2.2.2.2.2 < S.2.1.1) (l60 : ps.length ≤ 60) : ∀ (f n : Nat) (i dp : Int) (z : Z) (L : List Int) (P : Z → Prop), 2 * f ≤ n → 0 ≤ i → i < f → i < ps.length → 0 ≤ dp → dp + i ≤ 59 → FmC z b I S v ps pa → OutC z b L → L.length + (wr (EnW v S) ps f i).length ≤ 2000 → (∀ w, OutC w b (L ++ wr (EnW v S) ps f i) → FrZ (WB b wWc) z w → P w) → F_X10_part n (b 2) i dp z P := by
  intro f
  induction f with
  | zero => intro n i dp z L P _ h0 h1; exfalso; omega
  | succ f ih =>
    intro n i dp z L P hnf h0 hf h1 dp0 dp1 F o hl h
    obtain ⟨n, rfl⟩ : ∃ m, n = m + 2 := ⟨n - 2, by omega⟩
    have hi : i.toNat < ps.length := by omega
    obtain ⟨⟨w1, w2⟩, w3⟩ := hw.1 i.toNat hi
    have hm := gP_mem hi
    have wp := hp _ hm
    have hver := hn _ hm
    have wb := fun {m : Nat} hm => wlk_b hi w1 w2 (m := m) hm
    rw [Int.toNat_of_nonneg h0] at wb
    have c := FmC_c F
    obtain ⟨⟨R, hwz⟩, ⟨g1, g2⟩, ⟨sa, g3, g4⟩, g5, g6⟩ := id F
    have rf := R.2.1
    obtain ⟨q, e1, e2⟩ := PtC_at g2 h0 h1
    have rcc : ∀ (j : Int), 0 ≤ j → j ≤ i - 1 → ∀ u : Z, FrZ (WB b wWc) z u → Rcc u b n j (dp + 1) (wr (EnW v S) ps f j) := by
      intro j j0 j1 u fu w M Q o1 f2 hl1 h2
      exact ih n j (dp + 1) w M Q (by omega) j0 (by omega) (by omega) (by omega) (by omega) (FmC_fr (FrZ_tr fu f2) F) o1 hl1 h2
    show F_X10_part (n + 1 + 1) (b 2) i dp z P
    rw [F_X10_part_s]
    unfold B_X10_part F_X10_part_225
    rw [if_neg (by omega)]
    refine ⟨cK c 2 rfl rfl, pa, g1, g2.1.2.1, ?_⟩
    rw [g2.1.2.2, if_neg (by omega), if_neg (by omega), if_pos (by omega)]
    refine ⟨h0, h1, q, e1, e2.2.1, ?_⟩
    rw [e2.2.2.1, e1]
    rw [wr] at hl h
    unfold opA at hl h
    have e2' := e2
    generalize hpp : ps.getD i.toNat pd0 = p at *
    have p1 := wp.1
    have p5 := wp.2.2.2.2.1
    by_cases c14 : p.1 = 14
    · rw [if_pos c14]
      rw [if_pos c14] at hl h
      have p2 := wp.2.1
      have li := e2.2.2.2.2.1
      revert p2 li
      cases hli : p.2.2.1 with
      | none => intro p2; exact absurd c14 p2
      | some l =>
        rintro ⟨-, lw⟩ ⟨lv, lv1, lv2⟩
        rw [hli] at hl h
        rw [lv1]
        exact o_literal c rf hwz o lv2 lw hl h
    · rw [if_neg c14]
      rw [if_neg c14] at hl h
      by_cases c15 : p.1 = 15
      · rw [if_pos c15]
        rw [if_pos c15] at hl h
        exact o_ref c o hl (fun y oy fy => h y oy (pu_W fy))
      · rw [if_neg c15]
        rw [if_neg c15] at hl h
        refine o_isPlace e2' ?_
        rw [tb]
        by_cases c16 : p.1 = 16 ∨ p.1 = 17
        · rw [if_pos c16, if_neg (by decide)]
          rw [if_pos c16] at hl h
          exact o_plc R o hv e2' wp g3 g4 g5 c16 hver hl (fun y oy fy => h y oy (pu_W fy))
        · rw [if_neg c16, if_pos rfl]
          rw [if_neg c16] at hl h
          by_cases c13 : p.1 = 13
          · rw [if_pos c13]
            rw [if_pos c13] at hl h
            have a1 : p.2.1 = 1 := by unfold argL argM at p5; rw [c13] at p5; simp at p5; omega
            rw [a1] at wb
            have b0 := wb (m := 0) (by decide)
            rw [wlk] at b0
            rw [List.length_append, List.length_singleton] at hl
            refine o_put c o (by omega) (by decide) (by decide) (fun u1 o1 f1 => ?_)
            have f1' := pu_W f1
            rw [w32e (x := i - 1) (by omega) (by omega)]
            refine ⟨cK (CWz_P c f1) 2 rfl rfl, o_side (FmC_fr f1' F) o1 b0.1 (by omega) ⟨dp0, by omega⟩ (by rw [List.length_append, List.length_singleton]; omega) (rcc (i - 1) b0.1 (by omega) u1 f1') (fun w o2 f2 => h w ?_ (FrZ_tr f1' f2))⟩
            rw [← List.append_assoc]; exact o2
          · rw [if_neg c13]
            rw [if_neg c13] at hl h
            by_cases c12 : p.1 ≤ 12
            · rw [if_neg (by omega)]
              rw [if_pos c12] at hl h
              have a1 : p.2.1 = 2 := by unfold argL argM at p5; rw [if_pos c12, if_pos c12] at p5; omega
              rw [a1] at wb
              have b0 := wb (m := 0) (by decide)
              rw [wlk] at b0
              have b1 := wb (m := 1) (by decide)
              have es := g6 (i - 1).toNat (by omega)
              rw [Int.toNat_of_nonneg b0.1] at es
              have ew : wlk (spnL ps) 1 (i - 1) = i - 1 - (spnL ps).getD (i - 1).toNat 0 := by rw [wlk, wlk]
              rw [ew] at hl h b1
              refine o_binds ⟨b 15, cO c 2 1 15 (by decide), cK c 15 rfl rfl, ?_⟩
              rw [w32e (x := i - 1) (by omega) (by omega), es]
              refine ⟨b0.1, by rw [cN c 15 (c := 60) rfl rfl]; omega, ?_⟩
              rw [w32e (x := i - 1 + 1 - (spnL ps).getD (i - 1).toNat 0 - 1) (by omega) (by omega), show i - 1 + 1 - (spnL ps).getD (i - 1).toNat 0 - 1 = i - 1 - (spnL ps).getD (i - 1).toNat 0 by omega]
              generalize i - 1 - (spnL ps).getD (i - 1).toNat 0 = j at hl h b1 ⊢
              have bb : 1 ≤ bnd p.1 ∧ bnd p.1 ≤ 6 := by unfold bnd; split <;> (try split) <;> (try split) <;> (try split) <;> (try split) <;> omega
              have sg := (sg_M p.1.toNat (by omega) (by omega))
              rw [Int.toNat_of_nonneg (by omega)] at sg
              rw [List.length_append, List.length_append] at hl
              have key : ∀ t : Int, t = (if bnd p.1 = 1 then 2 else bnd p.1) → F_X10_part_155 (F_X10_args (n + 1)) (F_X10_part (n + 1)) (F_X10_under (n + 1)) (b 2) i dp (some q) (bnd p.1) (some (b 2)) j t z P := by
                intro t ht
                unfold F_X10_part_155 F_X10_part_225
                refine ⟨b 2, rfl, cK c 2 rfl rfl, o_side F o b1.1 (by omega) ⟨dp0, by omega⟩ (by rw [ht]; omega) (rcc j b1.1 (by omega) z FrZ_rf) (fun u1 o1 f1 => ?_)⟩
                rw [ht] at o1
                have c1 := CWz_B c f1
                have q1 := PrtC_fr (WB_L f1) (WL_I rf) e2
                refine ⟨q, rfl, q1.2.1, cK c1 2 rfl rfl, ?_⟩
                rw [q1.2.2.1, w32e (x := p.1 - 1) (by omega) (by omega), w32e (by omega) (by omega), show (p.1 - 1) * 2 = (((p.1 - 1) * 2).toNat : Int) by omega]
                refine o_word (s := 3) (fr := ((p.1 - 1) * 2).toNat) (w := 2) c1 o1 (by decide) (by rw [sL_2.2.2.1]; omega) (by rw [List.length_append]; show _ + (sgW p.1).length ≤ 2000; omega) (fun u2 o2 f2 => ?_)
                have f12 := FrZ_tr f1 (pu_W f2)
                have c2 := CWz_B c f12
                rw [w32e (x := bnd p.1 + 1) (by omega) (by omega), w32e (x := i - 1) (by omega) (by omega)]
                refine ⟨cK c2 2 rfl rfl, o_side (FmC_fr f12 F) o2 b0.1 (by omega) ⟨dp0, by omega⟩ (by rw [List.length_append, List.length_append]; show _ + (sgW p.1).length + _ ≤ 2000; omega) (rcc (i - 1) b0.1 (by omega) u2 f12) (fun w o3 f3 => h w ?_ (FrZ_tr f12 f3))⟩
                rw [← List.append_assoc, ← List.append_assoc]; exact o3
              by_cases d2 : bnd p.1 = 1
              · rw [if_pos d2, w32e (by omega) (by omega)]; exact key _ (by rw [if_pos d2]; omega)
              · rw [if_neg d2]; exact key _ (by rw [if_neg d2])
            · rw [if_pos (by omega)]
              rw [if_neg c12] at hl h
              have nm := (nm_M p.1.toNat (by omega) (by omega))
              rw [Int.toNat_of_nonneg (by omega)] at nm
              have a0 : 1 ≤ p.2.1 ∧ p.2.1 ≤ 8 := by
                unfold argL argM at p5
                have c17 : ¬ p.1 ≤ 17 := by omega
                simp only [if_neg c12, if_neg c13, if_neg c17] at p5
                obtain ⟨q1, q2⟩ := p5
                constructor
                · revert q1
                  split <;> (try split) <;> omega
                · revert q2
                  split <;> (try split) <;> (try split) <;> omega
              rw [List.length_append, List.length_append, List.length_append, List.length_singleton, List.length_singleton] at hl
              rw [w32e (x := p.1 - 18) (by omega) (by omega), w32e (by omega) (by omega), show (p.1 - 18) * 8 = (((p.1 - 18) * 8).toNat : Int) by omega]
              refine o_word (s := 4) (fr := ((p.1 - 18) * 8).toNat) (w := 8) c o (by decide) (by rw [sL_2.2.2.2]; omega) (by show _ + (nmW p.1).length ≤ 2000; omega) (fun u1 o1 f1 => ?_)
              have c1 := CWz_P c f1
              refine ⟨cK c1 2 rfl rfl, o_put c1 o1 (by rw [List.length_append]; show _ + (nmW p.1).length + 1 ≤ 2000; omega) (by decide) (by decide) (fun u2 o2 f2 => ?_)⟩
              have f12 := FrZ_tr (pu_W f1) (pu_W f2)
              have c2 := CWz_B c f12
              refine ⟨cK c2 2 rfl rfl, o_args (na := p.2.1.toNat) (G := wr (EnW v S) ps f) (FmC_fr f12 F) o2 h0 h1 l60 (by rw [hpp]; omega) (by omega) (fun m hm => wb hm) ⟨dp0, by omega⟩ (by rw [List.length_append, List.length_append, List.length_singleton]; show _ + (nmW p.1).length + 1 + _ ≤ 2000; omega) (fun j j0 j1 => rcc j j0 j1 u2 f12) (fun u3 o3 f3 => ?_)⟩
              have f123 := FrZ_tr f12 f3
              have c3 := CWz_B c f123
              refine ⟨cK c3 2 rfl rfl, o_put c3 o3 (by rw [List.length_append, List.length_append, List.length_append, List.length_singleton]; show _ + (nmW p.1).length + 1 + _ + 1 ≤ 2000; omega) (by decide) (by decide) (fun w o4 f4 => h w ?_ (FrZ_tr f123 (pu_W f4)))⟩
              simp only [List.append_assoc] at o4 ⊢
              exact o4
