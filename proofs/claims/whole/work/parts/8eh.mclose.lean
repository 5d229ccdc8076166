/-! # 8eh: the reference closes its table of leads. -/
theorem e_cl59 {y2 : Mu} {b m : Int} {Q : (Int × Mu) ⊕ Mu → Prop} (b0 : 0 ≤ b) (b1 : b < 320) (m0 : 0 ≤ m) (m1 : m < 320) (h : ∀ v, FrM [(83, none)] y2 v → (∀ k j, 0 ≤ j → j < 320 → (BtR (mG v 83) k j ↔ (BtR (mG y2 83) k j ∨ (k = m ∧ BtR (mG y2 83) b j)))) → Q (.inl (m + 1, v))) : F_X12_close_59 b m 0 y2 Q := by
  unfold F_X12_close_59
  refine lp_I (fun q => (0 ≤ q.1 ∧ q.1 ≤ 5) ∧ FrM [(83, none)] y2 q.2 ∧ (m = b → ∀ i t, bitL (mG q.2 83 i) t = bitL (mG y2 83 i) t) ∧ (m ≠ b → ∀ i, mG q.2 83 i = if 5 * m ≤ i ∧ i < 5 * m + q.1 then lOr (mG y2 83 i) (mG y2 83 (5 * b + (i - 5 * m))) else mG y2 83 i)) (fun q => (5 - q.1).toNat) ?_ _ ⟨⟨by show (0 : Int) ≤ 0; omega, by show (0 : Int) ≤ 5; omega⟩, FrM_rf, fun _ i _ => rfl, fun _ i => by rw [if_neg (by show ¬ (5 * m ≤ i ∧ i < 5 * m + 0); omega)]⟩
  rintro G3 ⟨t, y3⟩ ⟨⟨t0, t1⟩, g3, a1, a2⟩ ih3
  simp only at t0 t1 g3 a1 a2
  show L_X12_close_59 b m t y3 _
  unfold L_X12_close_59
  by_cases ct : 5 ≤ t
  · rw [if_pos ct]
    show F_X12_close_93 b m y3 Q
    unfold F_X12_close_93
    rw [w32e (x := m + 1) (by omega) (by omega)]
    refine h y3 g3 (fun k j j0 j1 => ?_)
    by_cases cb2 : m = b
    · have : BtR (mG y3 83) k j ↔ BtR (mG y2 83) k j := by unfold BtR; rw [a1 cb2]
      rw [this]
      constructor
      · exact fun z => Or.inl z
      · rintro (z | ⟨z1, z2⟩)
        · exact z
        · rw [z1, cb2]; exact z2
    · refine BtR_or j0 j1 (fun w w0 w1 => ?_) (fun i hi => ?_)
      · rw [a2 cb2, if_pos (by omega), show 5 * m + w - 5 * m = w by omega]
      · rw [a2 cb2, if_neg (fun z => hi (i - 5 * m) (by omega) (by omega) (by omega))]
  · rw [if_neg ct, w32e (x := 5 * m) (by omega) (by omega), w32e (x := 5 * m + t) (by omega) (by omega), w32e (x := 5 * b) (by omega) (by omega), w32e (x := 5 * b + t) (by omega) (by omega), w32e (x := t + 1) (by omega) (by omega)]
    refine ⟨by omega, by omega, by omega, by omega, fun v hv => ?_⟩
    subst hv
    refine ih3 _ ⟨⟨by show 0 ≤ t + 1; omega, by show t + 1 ≤ 5; omega⟩, FrM_uG g3 (wHas_a (by decide)), fun cb2 i e => ?_, fun cb2 i => ?_⟩ (by show (5 - (t + 1)).toNat < (5 - t).toNat; omega)
    · show bitL (mG (uG y3 83 _ _) 83 i) e = _
      rw [mG_uG]
      by_cases ci : i = 5 * m + t
      · rw [if_pos ⟨rfl, ci⟩, bit_or, a1 cb2, a1 cb2, ci, ← cb2, Bool.or_self]
      · rw [if_neg (fun z => ci z.2)]; exact a1 cb2 i e
    · show mG (uG y3 83 _ _) 83 i = if 5 * m ≤ i ∧ i < 5 * m + (t + 1) then _ else _
      rw [mG_uG]
      by_cases ci : i = 5 * m + t
      · rw [if_pos ⟨rfl, ci⟩, if_pos (by omega), a2 cb2, if_neg (by omega), a2 cb2, if_neg (by omega), ci, show 5 * m + t - 5 * m = t by omega]
      · rw [if_neg (fun z => ci z.2), a2 cb2]
        by_cases cr : 5 * m ≤ i ∧ i < 5 * m + t
        · rw [if_pos cr, if_pos (by omega)]
        · rw [if_neg cr, if_neg (by omega)]
def D320 (k : Int) : Prop := 0 ≤ k ∧ k < 320
theorem e_cl38 {y : Mu} {b : Int} {Q : (Int × Mu) ⊕ Mu → Prop} (b0 : 0 ≤ b) (b1 : b < 320) (h : ∀ v, FrM [(83, none)] y v → WsI D320 (BtR (mG y 83)) (BtR (mG v 83)) b 320 → Q (.inl (b + 1, v))) : F_X12_close_38 b 0 y Q := by
  have I0 : WsI D320 (BtR (mG y 83)) (BtR (mG y 83)) b 0 := WsI_0 (fun k hk => by have := hk.1; omega)
  unfold F_X12_close_38
  refine lp_I (fun q => (0 ≤ q.1 ∧ q.1 ≤ 320) ∧ FrM [(83, none)] y q.2 ∧ WsI D320 (BtR (mG y 83)) (BtR (mG q.2 83)) b q.1) (fun q => (320 - q.1).toNat) ?_ (0, y) (And.intro ⟨by show (0 : Int) ≤ 0; omega, by show (0 : Int) ≤ 320; omega⟩ (And.intro FrM_rf I0))
  rintro G2 ⟨m, y2⟩ ⟨⟨m0, m1⟩, g2, H2⟩ ih2
  simp only at m0 m1 g2 H2
  show L_X12_close_38 b m y2 _
  unfold L_X12_close_38
  by_cases cm : 320 ≤ m
  · rw [if_pos cm]
    show Q (.inl (w32 (b + 1), y2))
    rw [w32e (x := b + 1) (by omega) (by omega)]
    have : m = 320 := by omega
    rw [this] at H2
    exact h y2 g2 H2
  rw [if_neg cm]
  refine e_bit m0 (by omega) b0 (by omega) (fun hb => ?_) (fun hb => ?_)
  · rw [if_neg (by decide)]
    refine e_cl59 b0 b1 m0 (by omega) (fun v g3 hv => ?_)
    exact ih2 (m + 1, v) (And.intro ⟨by show 0 ≤ m + 1; omega, by show m + 1 ≤ 320; omega⟩ (And.intro (FrM_tr g2 g3) (WsI_s ⟨b0, b1⟩ b0 b1 H2 (fun _ _ k j hk j0 j1 => hv k j j0 j1) (fun hn => absurd ⟨⟨m0, by omega⟩, hb⟩ hn)))) (by show (320 - (m + 1)).toNat < (320 - m).toNat; omega)
  · rw [if_pos rfl]
    unfold F_X12_close_93
    rw [w32e (x := m + 1) (by omega) (by omega)]
    exact ih2 (m + 1, y2) (And.intro ⟨by show 0 ≤ m + 1; omega, by show m + 1 ≤ 320; omega⟩ (And.intro g2 (WsI_s ⟨b0, b1⟩ b0 b1 H2 (fun _ hb2 => absurd hb2 hb) (fun _ k j _ _ _ => Iff.rfl)))) (by show (320 - (m + 1)).toNat < (320 - m).toNat; omega)
theorem e_cl29 {u y : Mu} {R : Int → Int → Prop} {P : Mu → Prop} (f : FrM [(83, none)] u y) (B0 : WsH R D320 (BtR (mG y 83)) 0) (h : ∀ v, FrM [(83, none)] u v → (∀ k j, 0 ≤ k → k < 320 → 0 ≤ j → j < 320 → (BtR (mG v 83) k j ↔ rch R k j)) → P v) : F_X12_close_29 0 y P := by
  unfold F_X12_close_29
  refine lp_I (fun q => (0 ≤ q.1 ∧ q.1 ≤ 320) ∧ FrM [(83, none)] u q.2 ∧ WsH R D320 (BtR (mG q.2 83)) q.1) (fun q => (320 - q.1).toNat) ?_ (0, y) (And.intro ⟨by show (0 : Int) ≤ 0; omega, by show (0 : Int) ≤ 320; omega⟩ (And.intro f B0))
  rintro G ⟨b, y⟩ ⟨⟨b0, b1⟩, g, H⟩ ih
  simp only at b0 b1 g H
  show L_X12_close_29 b y _
  unfold L_X12_close_29
  by_cases c : 320 ≤ b
  · rw [if_pos c]
    have : b = 320 := by omega
    rw [this] at H
    exact h y g (fun k j k0 k1 j0 j1 => WsH_e (fun k hk => ⟨hk.1, hk.2, hk.2⟩) H ⟨k0, k1⟩ j0 j1)
  rw [if_neg c]
  refine e_cl38 b0 (by omega) (fun v g2 hv => ?_)
  exact ih (b + 1, v) (And.intro ⟨by show 0 ≤ b + 1; omega, by show b + 1 ≤ 320; omega⟩ (And.intro (FrM_tr g g2) (WsH_s (m := 320) ⟨b0, by omega⟩ b0 (by omega) (fun k hk => hk.2) H hv))) (by show (320 - (b + 1)).toNat < (320 - b).toNat; omega)
theorem e_close {u : Mu} {R : Int → Int → Prop} {P : Mu → Prop} (hR : ∀ k j, R k j → (0 ≤ k ∧ k < 320) ∧ 0 ≤ j ∧ j < 320) (hB : ∀ k j, 0 ≤ k → k < 320 → 0 ≤ j → j < 320 → (BtR (mG u 82) k j ↔ R k j)) (h : ∀ v, FrM [(83, none)] u v → (∀ k j, 0 ≤ k → k < 320 → 0 ≤ j → j < 320 → (BtR (mG v 83) k j ↔ rch R k j)) → P v) : F_X12_close u P := by
  unfold F_X12_close F_X12_close_2
  refine lp_I (fun q => (0 ≤ q.1 ∧ q.1 ≤ 1600) ∧ FrM [(83, none)] u q.2 ∧ ∀ i, 0 ≤ i → i < q.1 → mG q.2 83 i = mG u 82 i) (fun q => (1600 - q.1).toNat) ?_ _ ⟨⟨by show (0 : Int) ≤ 0; omega, by show (0 : Int) ≤ 1600; omega⟩, FrM_rf, fun i a b => by exfalso; have : i < 0 := b; omega⟩
  rintro G ⟨x, w⟩ ⟨⟨x0, x1⟩, f, e⟩ ih
  simp only at x0 x1 f e
  show L_X12_close_2 x w _
  unfold L_X12_close_2
  by_cases c : 1600 ≤ x
  · rw [if_pos c]
    show F_X12_close_29 0 w P
    refine e_cl29 f (WsH_0 (fun k j hr => hR k j hr) (fun k j hk j0 j1 => ?_)) h
    have hk0 := hk.1
    have hk1 := hk.2
    rw [← hB k j hk0 hk1 j0 j1]
    unfold BtR
    rw [e _ (by omega) (by omega)]
  · rw [if_neg c, w32e (x := x + 1) (by omega) (by omega)]
    refine ⟨by omega, by omega, by omega, by omega, fun v hv => ?_⟩
    subst hv
    refine ih _ ⟨⟨by show 0 ≤ x + 1; omega, by show x + 1 ≤ 1600; omega⟩, FrM_uG f (wHas_a (by decide)), fun i i0 i1 => ?_⟩ (by show (1600 - (x + 1)).toNat < (1600 - x).toNat; omega)
    have i1 : i < x + 1 := i1
    show mG (uG w 83 x (mG w 82 x)) 83 i = _
    have e82 : mG w 82 x = mG u 82 x := gE f (R := [(82, none)]) (by decide) (wHas_a (by decide))
    by_cases ci : i = x
    · rw [mG_uG, if_pos ⟨rfl, ci⟩, e82, ci]
    · rw [mG_uG, if_neg (fun z => ci z.2)]; exact e i i0 (by omega)
