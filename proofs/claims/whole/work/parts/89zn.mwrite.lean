/-! ===== the reference writes ===== -/
def EnW (v : Int) (S : SS) (k : Int) : Sh := if k = -1 then shOf v S else S.2.1.2.1 k
theorem EnW_b {v : Int} {S : SS} (hB : Bd S) (hv : isShP v S) : ∀ k, -1 ≤ k → k < S.2.1.1 → ShB (EnW v S k) := by
  intro k k0 k1
  have q : ∀ w, isShP w S → ShB (shOf w S) := by
    intro w hw
    unfold shOf
    split
    · exact hB.2.2.2.1.1
    · exact (hB.2.1.2 w (by omega) hw.2).1
  unfold EnW
  split
  · exact q v hv
  · exact (hB.2.1.2 k (by omega) k1).1
theorem RM_w {u v : Mu} {N : Int} {S : SS} (hB : Bd S) (f : FrM wWr u v) (R : RM u N S) : RM v N S := RM_fr hB f (by decide) (by decide) (by decide) (by decide) (by decide) (by decide) (by decide) R
theorem ContM_w {u v : Mu} {q : Int} {c : Cont} (h0 : 0 ≤ mI u 0 19) (f : FrM wWr u v) (h : ContM u q c) : ContM v q c := ContM_g (Grw_fr h0 f (by decide)) h
theorem CoB_w {u v : Mu} (f : FrM wWr u v) (B : CoB u) : CoB v := CoB_fr f (by decide) B
theorem i_corner {u : Mu} {L : List Int} {r c x f : Int} {P : Mu → Prop} (o : OutM u L) (r0 : 0 ≤ r ∧ r < 32) (c0 : 0 ≤ c ∧ c < 10) (b1 : BtI x 1 (f / 2 % 2)) (b2 : BtI x 2 (f % 2)) (hl : L.length + (corW r c f).length ≤ 2000) (h : ∀ v, OutM v (L ++ corW r c f) → FrM wWr u v → P v) : F_X12_putCorner r c x u P := by
  unfold corW at hl h
  rw [List.length_append, List.length_append, List.length_append, List.length_singleton] at hl
  have key : ∀ u1 : Mu, FrM wWr u u1 → OutM u1 (L ++ (if f / 2 % 2 = 1 then [36] else [])) → F_X12_putCorner_12 r c x u1 P := by
    intro u1 f1 o1
    unfold F_X12_putCorner_12
    rw [w32e (x := 65 + c) (by omega) (by omega)]
    refine i_put o1 (by rw [List.length_append]; omega) (by omega) (by omega) (fun u2 o2 f2 => ?_)
    have last : ∀ u3 : Mu, FrM wWr u u3 → OutM u3 (L ++ (if f / 2 % 2 = 1 then [36] else []) ++ [65 + c] ++ (if f % 2 = 1 then [36] else [])) → F_X12_putCorner_32 r u3 P := by
      intro u3 f3 o3
      unfold F_X12_putCorner_32
      rw [w32e (x := r + 1) (by omega) (by omega)]
      refine i_number o3 (by omega) (by omega) (by rw [List.length_append, List.length_append, List.length_append, List.length_singleton]; omega) (fun u4 o4 f4 => h u4 ?_ (FrM_tr f3 f4))
      simp only [List.append_assoc] at o4 ⊢
      exact o4
    by_cases e : bAnd x 2 ≤ 0
    · rw [if_pos e]
      have e' := b2.mp e
      exact last u2 (FrM_tr f1 f2) (by rw [if_neg (c := f % 2 = 1) e', List.append_nil]; exact o2)
    · rw [if_neg e]
      have e' : f % 2 = 1 := Classical.byContradiction (fun w => e (b2.mpr w))
      rw [if_pos e'] at hl
      refine i_put o2 (by rw [List.length_append, List.length_append, List.length_singleton]; show L.length + _ + 1 + ([36] : List Int).length ≤ 2000; omega) (by decide) (by decide) (fun u3 o3 f3 => last u3 (FrM_tr f1 (FrM_tr f2 f3)) (by rw [if_pos e']; exact o3))
  unfold F_X12_putCorner
  by_cases e : bAnd x 1 ≤ 0
  · rw [if_pos e]
    exact key u FrM_rf (by rw [if_neg (b1.mp e), List.append_nil]; exact o)
  · rw [if_neg e]
    have e' : f / 2 % 2 = 1 := Classical.byContradiction (fun w => e (b1.mpr w))
    rw [if_pos e'] at hl
    exact i_put o (by show L.length + ([36] : List Int).length ≤ 2000; omega) (by decide) (by decide) (fun u1 o1 f1 => key u1 f1 (by rw [if_pos e']; exact o1))
theorem bt4 : ∀ f : Nat, f < 16 → (bAnd (bShr (sw2 ((f : Int) % 4) + 4 * sw2 ((f : Int) / 4)) 2) 2 ≤ 0 ↔ (f : Int) / 4 % 2 ≠ 1) ∧ (bAnd (bShr (sw2 ((f : Int) % 4) + 4 * sw2 ((f : Int) / 4)) 2) 1 ≤ 0 ↔ (f : Int) / 4 / 2 % 2 ≠ 1) := by decide +kernel
theorem sL_ref : sL 10 = sL 2 ∧ sL 11 = sL 0 ∧ sL 12 = sL 1 := by decide +kernel
theorem f42 {f : Int} : f % 4 / 2 % 2 = f / 2 % 2 := by omega
theorem f41 {f : Int} : f % 4 % 2 = f % 2 := by omega
theorem i_plc {u : Mu} {L : List Int} {q v nx N : Int} {S : SS} {p : Prt} {P : Mu → Prop} (hB : Bd S) (R : RM u N S) (o : OutM u L) (hv : isShP v S) (hq : 0 ≤ q ∧ q < 60420) (hp : PrtM u q p nx) (hpl : p.1 = 16 ∨ p.1 = 17) (hn : p.2.2.2.2.2 < S.2.1.1) (hl : L.length + (plW (EnW v S p.2.2.2.2.2) p).length ≤ 2000) (h : ∀ w, OutM w (L ++ plW (EnW v S p.2.2.2.2.2) p) → FrM wWr u w → P w) : F_X12_putPlace q (slt v) u P := by
  have hpp := hp
  obtain ⟨m26, m27, -, m32, m33, m34, m35, m36, m37, wp⟩ := hpp
  obtain ⟨p1, p2, p3, p4, p5, p6⟩ := wp
  rw [if_pos hpl] at p6
  have n40 := hB.2.1.1.2
  have sb := EnW_b hB hv _ p6.2 hn
  have sM : ∃ t, (0 ≤ t ∧ t < 41) ∧ (if 0 ≤ p.2.2.2.2.2 then p.2.2.2.2.2 else slt v) = t ∧ ShM u t (EnW v S p.2.2.2.2.2) := by
    unfold EnW
    by_cases c : p.2.2.2.2.2 = -1
    · rw [if_pos c, if_neg (by omega)]
      exact ⟨slt v, slt_b hB hv, rfl, slt_M hv R⟩
    · rw [if_neg c, if_pos (by omega)]
      have hk : isShP p.2.2.2.2.2 S := ⟨p6.2, hn⟩
      have := slt_M hk R
      unfold slt shOf at this
      rw [if_neg c, if_neg c] at this
      exact ⟨_, ⟨by omega, by omega⟩, rfl, this⟩
  obtain ⟨t, t1, t2, t3⟩ := sM
  generalize EnW v S p.2.2.2.2.2 = s at hl h sb t3
  have rb0 := plS_b s 0 (p.2.2.2.1.1 - 1)
  have rb1 := plS_b s 1 (p.2.2.2.1.2.1 - 1)
  have rb2 := plS_b s 0 (p.2.2.2.1.2.2.1 - 1)
  have rb3 := plS_b s 1 (p.2.2.2.1.2.2.2 - 1)
  have l0 : lnS s 0 ≤ 32 := (lnS_b sb 0).2
  have l1 : lnS s 1 ≤ 10 := (lnS_b sb 1).2
  unfold F_X12_putPlace
  unfold F_X12_sheetOf F_X12_sheetOf_19
  refine ⟨hq.1, hq.2, ?_⟩
  rw [m37]
  have fin : (0 ≤ q ∧ q < 60420 ∧ (if mI u 26 q = 6 then F_X12_putPlace_23 q t 1 u P else F_X12_putPlace_23 q t 0 u P)) := by
    refine ⟨hq.1, hq.2, ?_⟩
    have ref : ¬ (knowsP s (p.2.2.2.1.1 - 1) (p.2.2.2.1.2.1 - 1) ∧ knowsP s (p.2.2.2.1.2.2.1 - 1) (p.2.2.2.1.2.2.2 - 1)) → F_X12_putPlace_119 u P := by
      intro nk
      unfold plW at hl h
      rw [if_neg nk] at hl h
      unfold F_X12_putPlace_119
      exact i_say o (by decide) (by rw [sL_ref.1]; exact hl) (fun w o1 f1 => h w (by rw [← sL_ref.1]; exact o1) f1)
    have bt := fM_bt (p := p) (nx := nx) p3.1 p3.2
    have tail : ∀ (u1 : Mu) (M : List Int), (M = L ++ (corW (plS s 0 (p.2.2.2.1.1 - 1)) (plS s 1 (p.2.2.2.1.2.1 - 1)) (p.2.2.2.2.1 % 4) ++ (if p.1 = 17 then [58] ++ corW (plS s 0 (p.2.2.2.1.2.2.1 - 1)) (plS s 1 (p.2.2.2.1.2.2.2 - 1)) (p.2.2.2.2.1 / 4) else []))) → (knowsP s (p.2.2.2.1.1 - 1) (p.2.2.2.1.2.1 - 1) ∧ knowsP s (p.2.2.2.1.2.2.1 - 1) (p.2.2.2.1.2.2.2 - 1)) → FrM wWr u u1 → OutM u1 M → F_X12_putPlace_168 q u1 P := by
      intro u1 M eM kn f1 o1
      unfold plW at hl h
      rw [if_pos kn] at hl h
      unfold F_X12_putPlace_168 F_X12_putPlace_194
      refine ⟨hq.1, hq.2, ?_⟩
      rw [mE f1 (R := [(37, none)]) (by decide) (k := 37) (wHas_a (by decide)), m37]
      by_cases c : p.2.2.2.2.2 = -1
      · rw [if_pos (by omega)]
        rw [if_pos c, List.append_nil, ← eM] at h
        exact h u1 o1 f1
      · rw [if_neg (by omega)]
        rw [if_neg c, ← List.append_assoc, ← eM] at h
        rw [if_neg c, List.length_append, @List.length_append _ [64], List.length_singleton] at hl
        have eL := congrArg List.length eM
        rw [List.length_append] at eL
        refine i_put o1 (by omega) (by decide) (by decide) (fun u2 o2 f2 => ?_)
        rw [mE (FrM_tr f1 f2) (R := [(37, none)]) (by decide) (k := 37) (wHas_a (by decide)), m37]
        refine i_number o2 (by omega) (by omega) (by rw [List.length_append, List.length_singleton]; omega) (fun u3 o3 f3 => h u3 ?_ (FrM_tr f1 (FrM_tr f2 f3)))
        rw [← List.append_assoc]; exact o3
    unfold F_X12_putPlace_23
    rw [m26]
    rcases hpl with e16 | e17
    · have ek : kM p = 5 := by unfold kM; rw [if_neg (by omega), if_neg (by omega), if_pos e16]
      obtain ⟨q1, q2, q3⟩ := p4 e16
      rw [ek, if_neg (by decide)]
      refine ⟨hq.1, hq.2, ?_⟩
      rw [m32]
      refine i_placeS sb t3 t1.1 (by omega) ⟨hq.1, hq.2, ?_⟩
      rw [m33]
      refine i_placeS sb t3 t1.1 (by omega) ?_
      rw [if_pos rfl]
      unfold F_X12_putPlace_74
      rw [if_pos rfl]
      unfold F_X12_putPlace_97
      by_cases d1 : plS s 0 (p.2.2.2.1.1 - 1) < 0
      · rw [if_pos d1]; exact ref (fun w => by have := w.1.1; omega)
      · rw [if_neg d1]
        by_cases d2 : plS s 1 (p.2.2.2.1.2.1 - 1) < 0
        · rw [if_pos d2]; exact ref (fun w => by have := w.1.2; omega)
        · rw [if_neg d2, if_neg (by decide), if_pos (by decide)]
          have kn : knowsP s (p.2.2.2.1.1 - 1) (p.2.2.2.1.2.1 - 1) ∧ knowsP s (p.2.2.2.1.2.2.1 - 1) (p.2.2.2.1.2.2.2 - 1) := by rw [q1, q2]; exact ⟨⟨by omega, by omega⟩, ⟨by omega, by omega⟩⟩
          refine ⟨hq.1, hq.2, ?_⟩
          rw [m36]
          refine i_corner (f := p.2.2.2.2.1 % 4) o ⟨by omega, by omega⟩ ⟨by omega, by omega⟩ (by rw [f42]; exact bt.2.1) (by rw [f41]; exact bt.1) (by unfold plW at hl; rw [if_pos kn, List.length_append, List.length_append] at hl; omega) (fun u1 o1 f1 => ?_)
          rw [if_pos rfl]
          exact tail u1 _ (by rw [if_neg (c := p.1 = 17) (by omega), List.append_nil]) kn f1 o1
    · have ek : kM p = 6 := by unfold kM; rw [if_neg (by omega), if_neg (by omega), if_neg (by omega), if_pos e17]
      rw [if_neg (by omega)] at m34 m35
      rw [ek, if_pos rfl]
      refine ⟨hq.1, hq.2, ?_⟩
      rw [m32]
      refine i_placeS sb t3 t1.1 (by omega) ⟨hq.1, hq.2, ?_⟩
      rw [m33]
      refine i_placeS sb t3 t1.1 (by omega) ?_
      rw [if_neg (by decide)]
      refine ⟨hq.1, hq.2, ?_⟩
      rw [m34]
      refine i_placeS sb t3 t1.1 (by omega) ?_
      unfold F_X12_putPlace_74
      rw [if_neg (by decide)]
      refine ⟨hq.1, hq.2, ?_⟩
      rw [m35]
      refine i_placeS sb t3 t1.1 (by omega) ?_
      unfold F_X12_putPlace_97
      by_cases d1 : plS s 0 (p.2.2.2.1.1 - 1) < 0
      · rw [if_pos d1]; exact ref (fun w => by have := w.1.1; omega)
      · rw [if_neg d1]
        by_cases d2 : plS s 1 (p.2.2.2.1.2.1 - 1) < 0
        · rw [if_pos d2]; exact ref (fun w => by have := w.1.2; omega)
        · rw [if_neg d2]
          by_cases d3 : plS s 0 (p.2.2.2.1.2.2.1 - 1) < 0
          · rw [if_pos d3]; exact ref (fun w => by have := w.2.1; omega)
          · rw [if_neg d3]
            by_cases d4 : 0 ≤ plS s 1 (p.2.2.2.1.2.2.2 - 1)
            · rw [if_pos d4]
              have kn : knowsP s (p.2.2.2.1.1 - 1) (p.2.2.2.1.2.1 - 1) ∧ knowsP s (p.2.2.2.1.2.2.1 - 1) (p.2.2.2.1.2.2.2 - 1) := ⟨⟨by omega, by omega⟩, ⟨by omega, by omega⟩⟩
              refine ⟨hq.1, hq.2, ?_⟩
              rw [m36]
              have hl' := hl
              unfold plW at hl'
              rw [if_pos kn, if_pos e17, List.length_append, List.length_append, @List.length_append _ [58], List.length_singleton] at hl'
              refine i_corner (f := p.2.2.2.2.1 % 4) o ⟨by omega, by omega⟩ ⟨by omega, by omega⟩ (by rw [f42]; exact bt.2.1) (by rw [f41]; exact bt.1) (by omega) (fun u1 o1 f1 => ?_)
              rw [if_neg (by decide)]
              refine i_put o1 (by rw [List.length_append]; omega) (by decide) (by decide) (fun u2 o2 f2 => ?_)
              rw [mE (FrM_tr f1 f2) (R := [(36, none)]) (by decide) (k := 36) (wHas_a (by decide)), m36]
              have b4 := bt4 p.2.2.2.2.1.toNat (by omega)
              rw [Int.toNat_of_nonneg p3.1] at b4
              have ef : fM p nx = sw2 (p.2.2.2.2.1 % 4) + 4 * sw2 (p.2.2.2.2.1 / 4) := by unfold fM; rw [if_neg (by omega)]
              rw [ef]
              refine i_corner (f := p.2.2.2.2.1 / 4) o2 ⟨by omega, by omega⟩ ⟨by omega, by omega⟩ b4.2 b4.1 (by rw [List.length_append, List.length_append, List.length_singleton]; omega) (fun u3 o3 f3 => ?_)
              exact tail u3 _ (by rw [if_pos e17, List.append_assoc, List.append_assoc]) kn (FrM_tr f1 (FrM_tr f2 f3)) o3
            · rw [if_neg d4]; exact ref (fun w => by have := w.2.2; omega)
  by_cases c : 0 ≤ p.2.2.2.2.2
  · rw [if_pos c]; rw [if_pos c] at t2; rw [t2]; exact fin
  · rw [if_neg c]; rw [if_neg c] at t2; rw [t2]; exact fin
