theorem o_isCell {z : Z} {b : Nat → Nat} {I : Nat → Prop} {S : SS} {v r c : Int} {P : Int → Prop} (R : RC z b I S) (hy : isShP v S ∧ (1 ≤ r ∧ r ≤ (shOf v S).1.1) ∧ (1 ≤ c ∧ c ≤ (shOf v S).1.2) → P 1) (hn : ¬ (isShP v S ∧ (1 ≤ r ∧ r ≤ (shOf v S).1.1) ∧ (1 ≤ c ∧ c ≤ (shOf v S).1.2)) → P 0) : F_X11_isCell (b 0) v r c z P := by
  unfold F_X11_isCell F_X11_isCell_26 F_X11_isCell_27
  refine ⟨cK R.1 0 rfl rfl, o_sheetOf R (fun hv a sa _ _ => ?_) (fun hv => ?_)⟩
  · rw [if_neg (by simp)]
    obtain ⟨ra, ca, xa, Sp, -⟩ := id sa
    refine ⟨a, rfl, ShC_7 sa, k_has Sp ?_⟩
    by_cases e : (1 ≤ r ∧ r ≤ (shOf v S).1.1) ∧ (1 ≤ c ∧ c ≤ (shOf v S).1.2)
    · rw [tb, if_pos e, if_neg (by decide)]; exact ⟨Or.inr rfl, hy ⟨hv, e⟩⟩
    · rw [tb, if_neg e, if_pos rfl]; exact ⟨Or.inl rfl, hn (fun w => e w.2)⟩
  · rw [if_pos rfl]
    exact ⟨Or.inl rfl, hn (fun w => hv w.1)⟩
def WfS (s : Sh) : Prop := ∀ r c, 0 ≤ r → r < s.1.1 → 0 ≤ c → c < s.1.2 → WfD (s.2.2.2 r c)
theorem WfS_M {u : Mu} {t : Int} {s : Sh} (m : ShM u t s) : WfS s := fun r c r0 r1 c0 c1 => WfD_M (m.2.2.2 r c r0 r1 c0 c1)
theorem o_written {z : Z} {b : Nat → Nat} {I : Nat → Prop} {S : SS} {v r c i : Int} {P : Int → Z → Prop} (R : RC z b I S) (hw : WzI z I) (hV : isShP v S → VrS S.2.1.1 (shOf v S) ∧ WfS (shOf v S)) (h : ∀ y, RC y b I S → FrZ (WL z b wWf no1 no1) z y → P (pWritten v r c i S) y) : F_X11_written (b 0) v r c i z P := by
  have cw := R.1
  unfold pWritten at h
  unfold F_X11_written
  refine ⟨cK cw 0 rfl rfl, o_isCell R (fun e => ?_) (fun e => ?_)⟩
  · rw [if_neg (by decide)]
    rw [if_pos e] at h
    obtain ⟨hv, d⟩ := e
    refine o_sheetOf R (fun _ a sa _ _ => ?_) (fun w => absurd hv w)
    rw [if_neg (by simp)]
    refine ⟨a, rfl, ShC_7 sa, o_cellAt sa (fun q hq => ?_)⟩
    rw [if_pos d] at hq
    refine ⟨b 2, cO cw 0 1 2 (by decide), cK cw 2 rfl rfl, ?_⟩
    rw [cO cw 0 2 3 (by decide)]
    refine o_write R hw hv hq ((hV hv).2 _ _ (by omega) (by omega) (by omega) (by omega)) ((hV hv).1 _ _ (by omega) (by omega) (by omega) (by omega)) sa (fun y l2 oy fy => ?_)
    have Ry := RC_wF R fy
    have cy := Ry.1
    replace h := h y Ry (WB_L fy)
    generalize wrC (EnW v S) ((shOf v S).2.2.2 (r - 1) (c - 1)) = L at h oy l2
    refine ⟨cK cy 0 rfl rfl, b 2, cO cy 0 1 2 (by decide), cK cy 2 rfl rfl, ?_⟩
    unfold F_X10_letterAt F_X10_letterAt_21 F_X10_letterAt_22
    by_cases ci : 0 ≤ i ∧ i < (L.length : Int)
    · rw [if_pos ci] at h
      rw [if_neg (by omega)]
      refine ⟨cK cy 2 rfl rfl, ?_⟩
      rw [oy.1, if_neg (by omega)]
      have := oy.2 i.toNat (by omega)
      rw [Int.toNat_of_nonneg ci.1] at this
      refine ⟨b 14, cO cy 2 0 14 (by decide), cK cy 14 rfl rfl, ci.1, by rw [cN cy 14 (c := 2400) rfl rfl]; omega, ?_⟩
      rw [this]; exact h
    · rw [if_neg ci] at h
      by_cases ci0 : i < 0
      · rw [if_pos ci0]; exact h
      · rw [if_neg ci0]
        refine ⟨cK cy 2 rfl rfl, ?_⟩
        rw [oy.1, if_pos (by omega)]; exact h
  · rw [if_pos rfl]
    rw [if_neg e] at h
    exact h z R FrZ_rf
