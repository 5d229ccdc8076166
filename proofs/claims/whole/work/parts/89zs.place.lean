/-! ===== the system writes places ===== -/
theorem o_num2 {z : Z} {b : Nat → Nat} {L : List Int} {x : Int} {P : Z → Prop} (c : CWz z b) (o : OutC z b L) (x0 : 0 ≤ x) (x1 : x < 100) (hl : L.length + (dec x).length ≤ 2000) (h : ∀ y, OutC y b (L ++ dec x) → FrZ (WB b wPu) z y → P y) : F_X10_putNumber (b 2) x z P := by
  rw [dec_2 x0 x1] at hl h
  rw [List.length_append, List.length_singleton] at hl
  have key : ∀ y : Z, FrZ (WB b wPu) z y → OutC y b (L ++ (if x < 10 then [] else [48 + x / 10])) → F_X10_putNumber_17 (b 2) x y P := by
    intro y f oy
    have cy := CWz_P c f
    unfold F_X10_putNumber_17
    refine ⟨cK cy 2 rfl rfl, ?_⟩
    rw [tmodE x0, w32e (x := x % 10) (by omega) (by omega), w32e (by omega) (by omega)]
    exact o_put cy oy (by rw [List.length_append]; omega) (by omega) (by omega) (fun w ow fw => h w (by rw [← List.append_assoc]; exact ow) (FrZ_tr f fw))
  unfold F_X10_putNumber
  by_cases d : x < 10
  · rw [if_pos d]
    rw [if_pos d] at key
    exact key z FrZ_rf (by rw [List.append_nil]; exact o)
  · rw [if_neg d]
    rw [if_neg d] at key hl
    refine ⟨cK c 2 rfl rfl, ?_⟩
    rw [tdivE x0, w32e (x := x / 10) (by omega) (by omega), w32e (by omega) (by omega)]
    exact o_put c o (by show L.length + ([48 + x / 10] : List Int).length ≤ 2000; omega) (by omega) (by omega) (fun w ow fw => key w fw ow)
def BtO (x k f : Int) : Prop := bAnd x k = 0 ↔ f ≠ 1
theorem o_corner {z : Z} {b : Nat → Nat} {L : List Int} {r c x f r1 c1 : Int} {P : Z → Prop} (cw : CWz z b) (o : OutC z b L) (r0 : 0 ≤ r ∧ r < 32) (c0 : 0 ≤ c ∧ c < 10) (er : r1 = r + 1) (ec : c1 = c + 1) (b1 : BtO x 2 (f / 2 % 2)) (b2 : BtO x 1 (f % 2)) (hl : L.length + (corW r c f).length ≤ 2000) (h : ∀ y, OutC y b (L ++ corW r c f) → FrZ (WB b wPu) z y → P y) : F_X10_corner (b 2) r1 c1 x z P := by
  unfold corW at hl h
  rw [List.length_append, List.length_append, List.length_append, List.length_singleton] at hl
  have key : ∀ u1 : Z, FrZ (WB b wPu) z u1 → OutC u1 b (L ++ (if f / 2 % 2 = 1 then [36] else [])) → F_X10_corner_12 (b 2) r1 c1 x u1 P := by
    intro u1 f1 o1
    have cy1 := CWz_P cw f1
    unfold F_X10_corner_12
    refine ⟨cK cy1 2 rfl rfl, ?_⟩
    rw [w32e (x := 65 + c1) (by omega) (by omega), w32e (by omega) (by omega), show 65 + c1 - 1 = 65 + c by omega]
    refine o_put cy1 o1 (by rw [List.length_append]; omega) (by omega) (by omega) (fun u2 o2 f2 => ?_)
    have f12 := FrZ_tr f1 f2
    have cy2 := CWz_P cw f12
    have last : ∀ u3 : Z, FrZ (WB b wPu) z u3 → OutC u3 b (L ++ (if f / 2 % 2 = 1 then [36] else []) ++ [65 + c] ++ (if f % 2 = 1 then [36] else [])) → F_X10_corner_34 (b 2) r1 u3 P := by
      intro u3 f3 o3
      have cy3 := CWz_P cw f3
      unfold F_X10_corner_34
      refine ⟨cK cy3 2 rfl rfl, ?_⟩
      rw [er]
      refine o_num2 cy3 o3 (by omega) (by omega) (by rw [List.length_append, List.length_append, List.length_append, List.length_singleton]; omega) (fun u4 o4 f4 => h u4 ?_ (FrZ_tr f3 f4))
      simp only [List.append_assoc] at o4 ⊢
      exact o4
    by_cases e : bAnd x 1 = 0
    · rw [if_pos e]
      exact last u2 f12 (by rw [if_neg (c := f % 2 = 1) (b2.mp e), List.append_nil]; exact o2)
    · rw [if_neg e]
      have e' : f % 2 = 1 := Classical.byContradiction (fun w => e (b2.mpr w))
      rw [if_pos e'] at hl
      refine ⟨cK cy2 2 rfl rfl, o_put cy2 o2 (by rw [List.length_append, List.length_append, List.length_singleton]; show L.length + _ + 1 + ([36] : List Int).length ≤ 2000; omega) (by decide) (by decide) (fun u3 o3 f3 => last u3 (FrZ_tr f12 f3) (by rw [if_pos e']; exact o3))⟩
  unfold F_X10_corner
  by_cases e : bAnd x 2 = 0
  · rw [if_pos e]
    exact key z FrZ_rf (by rw [if_neg (b1.mp e), List.append_nil]; exact o)
  · rw [if_neg e]
    have e' : f / 2 % 2 = 1 := Classical.byContradiction (fun w => e (b1.mpr w))
    rw [if_pos e'] at hl
    exact ⟨cK cw 2 rfl rfl, o_put cw o (by show L.length + ([36] : List Int).length ≤ 2000; omega) (by decide) (by decide) (fun u1 o1 f1 => key u1 f1 (by rw [if_pos e']; exact o1))⟩
theorem bt5 : ∀ f : Nat, f < 16 → (bAnd (f : Int) 2 = 0 ↔ (f : Int) % 4 / 2 % 2 ≠ 1) ∧ (bAnd (f : Int) 1 = 0 ↔ (f : Int) % 4 % 2 ≠ 1) ∧ (bAnd (bShr (f : Int) 2) 2 = 0 ↔ (f : Int) / 4 / 2 % 2 ≠ 1) ∧ (bAnd (bShr (f : Int) 2) 1 = 0 ↔ (f : Int) / 4 % 2 ≠ 1) := by decide +kernel
theorem o_plc {z : Z} {b : Nat → Nat} {I : Nat → Prop} {L : List Int} {v : Int} {S : SS} {p : Prt} {q sa : Nat} {P : Z → Prop} (R : RC z b I S) (o : OutC z b L) (hv : isShP v S) (hp : PrtC z I q p) (wp : WfP p) (hsa : zO z (b 2) 5 = some sa) (ssa : ShC z I sa (shOf v S)) (hlg : zO z (b 2) 6 = some (b 3)) (hpl : p.1 = 16 ∨ p.1 = 17) (hn : p.2.2.2.2.2 < S.2.1.1) (hl : L.length + (plW (EnW v S p.2.2.2.2.2) p).length ≤ 2000) (h : ∀ y, OutC y b (L ++ plW (EnW v S p.2.2.2.2.2) p) → FrZ (WB b wPu) z y → P y) : F_X10_place (b 2) (some q) z P := by
  obtain ⟨cw, rf, ht, hlg2, -⟩ := id R
  have hB := RC_Bd R
  obtain ⟨p1, p2, p3, p4, p5, p6⟩ := id wp
  rw [if_pos hpl] at p6
  have n40 := hB.2.1.1.2
  have sb := EnW_b hB hv _ p6.2 hn
  have pf : ∀ {y : Z}, FrZ (WB b wPu) z y → PrtC y I q p := fun f => PrtC_fr (WB_L f) (WL_I rf) hp
  have sf : ∀ {y : Z} {a : Nat} {s : Sh}, FrZ (WB b wPu) z y → ShC z I a s → ShC y I a s := fun f m => ShC_fr (WB_L f) (WL_I rf) (WL_7 cw) m
  obtain ⟨iq, kq, q0, q1, -, q3, q4, q5, q6, q7, q8⟩ := id hp
  unfold F_X10_place
  refine ⟨q, rfl, kq, ?_⟩
  rw [q8]
  have key : ∀ (a : Nat), ShC z I a (EnW v S p.2.2.2.2.2) → F_X10_place_26 (b 2) (some q) (some a) z P := by
    intro a sA
    generalize EnW v S p.2.2.2.2.2 = s at hl h sb sA
    have rb0 := plS_b s 0 (p.2.2.2.1.1 - 1)
    have rb1 := plS_b s 1 (p.2.2.2.1.2.1 - 1)
    have rb2 := plS_b s 0 (p.2.2.2.1.2.2.1 - 1)
    have rb3 := plS_b s 1 (p.2.2.2.1.2.2.2 - 1)
    have l0 : lnS s 0 ≤ 32 := (lnS_b sb 0).2
    have l1 : lnS s 1 ≤ 10 := (lnS_b sb 1).2
    have ref : ¬ (knowsP s (p.2.2.2.1.1 - 1) (p.2.2.2.1.2.1 - 1) ∧ knowsP s (p.2.2.2.1.2.2.1 - 1) (p.2.2.2.1.2.2.2 - 1)) → F_X10_place_61 (b 2) z P := by
      intro nk
      unfold plW at hl h
      rw [if_neg nk] at hl h
      unfold F_X10_place_61
      exact ⟨cK cw 2 rfl rfl, o_ref cw o hl h⟩
    unfold F_X10_place_26
    rw [if_neg (by simp)]
    refine ⟨q, rfl, kq, a, rfl, ShC_7 sA, ?_⟩
    rw [q3, q4, q5, q6, q7]
    refine o_knows sA ?_
    by_cases k1 : knowsP s (p.2.2.2.1.1 - 1) (p.2.2.2.1.2.1 - 1)
    · rw [tb, if_pos k1, if_neg (by decide)]
      refine o_knows sA ?_
      by_cases k2 : knowsP s (p.2.2.2.1.2.2.1 - 1) (p.2.2.2.1.2.2.2 - 1)
      · rw [tb, if_pos k2, if_neg (by decide)]
        refine o_placeOf sA (o_placeOf sA ?_)
        refine ⟨cK cw 2 rfl rfl, ?_⟩
        have b5 := bt5 p.2.2.2.2.1.toNat (by omega)
        rw [Int.toNat_of_nonneg p3.1] at b5
        have kn := And.intro k1 k2
        unfold plW at hl h
        rw [if_pos kn] at hl h
        rw [List.length_append, List.length_append] at hl
        obtain ⟨k11, k12⟩ := k1
        obtain ⟨k21, k22⟩ := k2
        have tail : ∀ (u1 : Z), FrZ (WB b wPu) z u1 → OutC u1 b (L ++ (corW (plS s 0 (p.2.2.2.1.1 - 1)) (plS s 1 (p.2.2.2.1.2.1 - 1)) (p.2.2.2.2.1 % 4) ++ (if p.1 = 17 then [58] ++ corW (plS s 0 (p.2.2.2.1.2.2.1 - 1)) (plS s 1 (p.2.2.2.1.2.2.2 - 1)) (p.2.2.2.2.1 / 4) else []))) → F_X10_place_135 (b 2) (some q) u1 P := by
          intro u1 f1 o1
          have cy := CWz_P cw f1
          obtain ⟨-, kq1, -, -, -, -, -, -, -, -, q81⟩ := pf f1
          unfold F_X10_place_135 F_X10_place_157
          refine ⟨q, rfl, kq1, ?_⟩
          rw [q81]
          by_cases cv : p.2.2.2.2.2 = -1
          · rw [if_pos cv]
            rw [if_pos cv, List.append_nil] at h
            exact h u1 o1 f1
          · rw [if_neg cv]
            rw [if_neg cv] at h hl
            rw [@List.length_append _ [64], List.length_singleton] at hl
            refine ⟨cK cy 2 rfl rfl, o_put cy o1 (by rw [List.length_append, List.length_append]; omega) (by decide) (by decide) (fun u2 o2 f2 => ?_)⟩
            have f12 := FrZ_tr f1 f2
            have cy2 := CWz_P cw f12
            obtain ⟨-, kq2, -, -, -, -, -, -, -, -, q82⟩ := pf f12
            refine ⟨q, rfl, kq2, cK cy2 2 rfl rfl, ?_⟩
            rw [q82]
            refine o_num2 cy2 o2 (by omega) (by omega) (by rw [List.length_append, List.length_append, List.length_append, List.length_singleton]; omega) (fun u3 o3 f3 => h u3 ?_ (FrZ_tr f12 f3))
            simp only [List.append_assoc] at o3 ⊢
            exact o3
        refine o_corner (r := plS s 0 (p.2.2.2.1.1 - 1)) (c := plS s 1 (p.2.2.2.1.2.1 - 1)) (f := p.2.2.2.2.1 % 4) cw o ⟨by omega, by omega⟩ ⟨by omega, by omega⟩ rfl rfl b5.1 b5.2.1 (by omega) (fun u1 o1 f1 => ?_)
        have cy := CWz_P cw f1
        obtain ⟨-, kq1, q01, -⟩ := pf f1
        refine ⟨q, rfl, kq1, ?_⟩
        rw [q01]
        by_cases e17 : p.1 = 17
        · rw [if_pos e17]
          rw [if_pos e17] at hl tail
          rw [@List.length_append _ [58], List.length_singleton] at hl
          refine ⟨cK cy 2 rfl rfl, o_put cy o1 (by rw [List.length_append]; omega) (by decide) (by decide) (fun u2 o2 f2 => ?_)⟩
          have f12 := FrZ_tr f1 f2
          have cy2 := CWz_P cw f12
          have sA2 := sf f12 sA
          obtain ⟨-, kq2, -, -, -, -, -, q52, q62, q72, -⟩ := pf f12
          refine ⟨q, rfl, kq2, a, rfl, ShC_7 sA2, ?_⟩
          rw [q52, q62, q72]
          refine o_placeOf sA2 (o_placeOf sA2 ⟨cK cy2 2 rfl rfl, ?_⟩)
          refine o_corner (r := plS s 0 (p.2.2.2.1.2.2.1 - 1)) (c := plS s 1 (p.2.2.2.1.2.2.2 - 1)) (f := p.2.2.2.2.1 / 4) cy2 o2 ⟨by omega, by omega⟩ ⟨by omega, by omega⟩ rfl rfl b5.2.2.1 b5.2.2.2 (by rw [List.length_append, List.length_append, List.length_singleton]; omega) (fun u3 o3 f3 => ?_)
          refine tail u3 (FrZ_tr f12 f3) ?_
          simp only [List.append_assoc] at o3 ⊢
          exact o3
        · rw [if_neg e17]
          rw [if_neg e17, List.append_nil] at tail
          exact tail u1 f1 o1
      · rw [tb, if_neg k2, if_pos rfl]
        exact ref (fun w => k2 w.2)
    · rw [tb, if_neg k1, if_pos rfl]
      exact ref (fun w => k1 w.1)
  by_cases e : p.2.2.2.2.2 = -1
  · rw [if_pos e]
    refine ⟨cK cw 2 rfl rfl, ?_⟩
    rw [hsa]
    exact key sa (by unfold EnW; rw [if_pos e]; exact ssa)
  · rw [if_neg e]
    refine ⟨cK cw 2 rfl rfl, b 3, hlg, cK cw 3 rfl rfl, o_at cw hlg2 ?_⟩
    rw [if_pos ⟨by omega, hn⟩]
    obtain ⟨⟨a, ha, sA⟩, -⟩ := (hlg2.2 p.2.2.2.2.2 (by omega) hn).1
    rw [ha]
    exact key a (by unfold EnW; rw [if_neg e]; exact sA)
