/-! ===== Sheets alike ===== -/
/-- the same lines, the same contents -/
def likeS (s t : Sh) : Prop := (s.1.1 = t.1.1 ∧ s.1.2 = t.1.2) ∧ (∀ k, 0 ≤ k → k < s.1.1 → s.2.1 k = t.2.1 k) ∧ (∀ k, 0 ≤ k → k < s.1.2 → s.2.2.1 k = t.2.2.1 k) ∧ ∀ r c, 0 ≤ r → r < s.1.1 → 0 ≤ c → c < s.1.2 → s.2.2.2 r c = t.2.2.2 r c
def CoS (s : Sh) : Prop := ∀ r c, 0 ≤ r → r < s.1.1 → 0 ≤ c → c < s.1.2 → CoK (s.2.2.2 r c)
theorem o_isLikeS {z : Z} {I : Nat → Prop} {a d : Nat} {s t : Sh} {P : Int → Prop} (hw : WzI z I) (h1 : ShC z I a s) (h2 : ShC z I d t) (cs : CoS s) (ct : CoS t) (hy : likeS s t → P 1) (hn : ¬ likeS s t → P 0) : F_X6_isLike a (some d) z P := by
  obtain ⟨ra, ca, xa, A, -, -, -, a4, a5, a6⟩ := h1
  obtain ⟨rd, cd, xd, D, -, -, -, d4, d5, d6⟩ := h2
  obtain ⟨A1, A2, A3, A4, A5, A6, A7, A8, A9, A10, A11, A12⟩ := A
  obtain ⟨D1, D2, D3, D4, D5, D6, D7, D8, D9, D10, D11, D12⟩ := D
  have gc := cnt A11 A12
  unfold F_X6_isLike F_X6_isLike_26
  refine ⟨A1, ra, A2, A5, d, rfl, D1, rd, D2, D5, ?_⟩
  rw [A8, D8]
  by_cases e1 : s.1.1 = t.1.1
  · rw [if_pos e1]
    refine ⟨ca, A3, A6, cd, D3, D6, ?_⟩
    rw [A9, D9]
    by_cases e2 : s.1.2 = t.1.2
    · rw [if_pos e2]
      unfold F_X6_isLike_30
      refine lp_I (fun x => 0 ≤ x ∧ x ≤ s.1.1 ∧ ∀ k, 0 ≤ k → k < x → s.2.1 k = t.2.1 k) (fun x => (s.1.1 - x).toNat) ?_ 0 ⟨by decide, by omega, fun k a c => by omega⟩
      rintro G x ⟨x0, x1, xs⟩ ih
      unfold L_X6_isLike_30
      refine ⟨A1, ra, A2, A5, ?_⟩
      rw [A8]
      by_cases ex : s.1.1 ≤ x
      · rw [if_pos ex]
        have hr : ∀ k, 0 ≤ k → k < s.1.1 → s.2.1 k = t.2.1 k := fun k a c => xs k a (by omega)
        show F_X6_isLike_64 a (some d) 0 z P
        unfold F_X6_isLike_64
        refine lp_I (fun x => 0 ≤ x ∧ x ≤ s.1.2 ∧ ∀ k, 0 ≤ k → k < x → s.2.2.1 k = t.2.2.1 k) (fun x => (s.1.2 - x).toNat) ?_ 0 ⟨by decide, by omega, fun k a c => by omega⟩
        rintro G2 y ⟨y0, y1, ys⟩ ih2
        unfold L_X6_isLike_64
        refine ⟨A1, ca, A3, A6, ?_⟩
        rw [A9]
        by_cases ey : s.1.2 ≤ y
        · rw [if_pos ey]
          have hc : ∀ k, 0 ≤ k → k < s.1.2 → s.2.2.1 k = t.2.2.1 k := fun k a c => ys k a (by omega)
          show F_X6_isLike_98 a (some d) 0 z P
          unfold F_X6_isLike_98
          refine lp_I (fun x => 0 ≤ x ∧ x ≤ s.1.1 * s.1.2 ∧ ∀ r c, 0 ≤ r → r < s.1.1 → 0 ≤ c → c < s.1.2 → r * s.1.2 + c < x → s.2.2.2 r c = t.2.2.2 r c) (fun x => (s.1.1 * s.1.2 - x).toNat) ?_ 0 ⟨by decide, by omega, fun r c r0 r1 c0 c1 w => by have := (rcix r0 r1 c0 c1).1; omega⟩
          rintro G3 w ⟨w0, w1, ws⟩ ih3
          unfold L_X6_isLike_98
          refine ⟨A1, xa, A4, A7, ?_⟩
          rw [A10]
          by_cases ew : s.1.1 * s.1.2 ≤ w
          · rw [if_pos ew]
            exact hy ⟨⟨e1, e2⟩, hr, hc, fun r c r0 r1 c0 c1 => ws r c r0 r1 c0 c1 (by have := (rcix r0 r1 c0 c1).2; omega)⟩
          · rw [if_neg ew]
            refine ⟨w0, by omega, d, rfl, D1, xd, D4, D7, w0, by rw [D10, ← e1, ← e2]; omega, ?_⟩
            obtain ⟨⟨i1, i2⟩, ⟨i3, i4⟩, i5⟩ := ixrc w0 (by omega : w < s.1.1 * s.1.2) A12.1
            have p := a6 _ _ i1 i2 i3 i4
            have q := d6 (w / s.1.2) (w % s.1.2) i1 (by omega) i3 (by omega)
            rw [← e2] at q
            rw [i5] at p q
            refine o_alike hw p q (cs _ _ i1 i2 i3 i4) (ct _ _ i1 (by omega) i3 (by omega)) (fun v => ?_) (fun v => ?_)
            · rw [if_neg (by decide), w32e (by omega) (by omega)]
              refine ih3 (w + 1) ⟨by omega, by omega, fun r c r0 r1 c0 c1 hl => ?_⟩ (by omega)
              by_cases el : r * s.1.2 + c = w
              · have q7 := ix_inj c0 c1 i3 i4 (el.trans i5.symm)
                rw [q7.1, q7.2]; exact v
              · exact ws r c r0 r1 c0 c1 (by omega)
            · rw [if_pos rfl]
              exact hn (fun l => v (l.2.2.2 _ _ i1 i2 i3 i4))
        · rw [if_neg ey]
          refine ⟨y0, by omega, d, rfl, D1, cd, D3, D6, y0, by rw [D9]; omega, ?_⟩
          rw [a5 y y0 (by omega), d5 y y0 (by omega)]
          by_cases e5 : s.2.2.1 y + 1 = t.2.2.1 y + 1
          · rw [if_pos e5, w32e (by omega) (by omega)]
            refine ih2 (y + 1) ⟨by omega, by omega, fun k k0 k1 => ?_⟩ (by omega)
            by_cases ek : k = y
            · rw [ek]; omega
            · exact ys k k0 (by omega)
          · rw [if_neg e5]
            exact hn (fun l => e5 (by rw [l.2.2.1 y y0 (by omega)]))
      · rw [if_neg ex]
        refine ⟨x0, by omega, d, rfl, D1, rd, D2, D5, x0, by rw [D8]; omega, ?_⟩
        rw [a4 x x0 (by omega), d4 x x0 (by omega)]
        by_cases e5 : s.2.1 x + 1 = t.2.1 x + 1
        · rw [if_pos e5, w32e (by omega) (by omega)]
          refine ih (x + 1) ⟨by omega, by omega, fun k k0 k1 => ?_⟩ (by omega)
          by_cases ek : k = x
          · rw [ek]; omega
          · exact xs k k0 (by omega)
        · rw [if_neg e5]
          exact hn (fun l => e5 (by rw [l.2.1 x x0 (by omega)]))
    · rw [if_neg e2]; exact hn (fun l => e2 l.1.2)
  · rw [if_neg e1]; exact hn (fun l => e1 l.1.1)
