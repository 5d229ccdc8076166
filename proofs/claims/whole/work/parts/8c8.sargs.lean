/-! ===== the system reads arguments ===== -/
def bdB (b : Nat → Nat) (N : Nat) (op fr o : Int) : Int × Int × Int × Int × Z × Nat × Nat → ((Int × Int × Int × Int × Z × Nat × Nat) ⊕ ((Int × Int × Z × Nat × Nat) ⊕ (Z × Nat × Nat)) → Prop) → Prop := fun q P_ => L_X5_args_12 (F_X5_args N) (F_X5_atom N) (F_X5_bracketed N) (F_X5_expression N) (F_X5_signed N) (F_X5_word N) (b 1) op fr o q.1 q.2.1 q.2.2.1 q.2.2.2.1 q.2.2.2.2.1 q.2.2.2.2.2.1 q.2.2.2.2.2.2 P_
theorem bdB_i {b : Nat → Nat} {N : Nat} {op fr o x4 x5 x6 x7 : Int} {z : Z} {c s : Nat} {Q : (Int × Int × Int × Int × Z × Nat × Nat) ⊕ ((Int × Int × Z × Nat × Nat) ⊕ (Z × Nat × Nat)) → Prop} (h : L_X5_args_12 (F_X5_args N) (F_X5_atom N) (F_X5_bracketed N) (F_X5_expression N) (F_X5_signed N) (F_X5_word N) (b 1) op fr o x4 x5 x6 x7 z c s Q) : bdB b N op fr o (x4, x5, x6, x7, z, c, s) Q := h
def kB (b : Nat → Nat) (N : Nat) (op fr : Int) (P : Z → Prop) (K : (Int × Int × Z × Nat × Nat) ⊕ (Z × Nat × Nat) → Prop) : Prop := (∀ x4 x5 y c s, F_X5_args_177 (F_X5_args N) (F_X5_atom N) (F_X5_bracketed N) (F_X5_expression N) (F_X5_signed N) (F_X5_word N) (b 1) op fr x4 x5 y c s P → K (.inl (x4, x5, y, c, s))) ∧ ∀ y c s, P y → K (.inr (y, c, s))
def CwA (t : Tx) (S : SS) (b : Nat → Nat) (I : Nat → Prop) (z0 : Z) (n : Nat) : Prop := ∀ (op fr o : Int) (cs : List Int) (st : PS) (ps0 : List Prt) (N : Nat) (x4 x7 : Int), (18 ≤ op ∧ op ≤ 35) → (1 ≤ o ∧ o ≤ 20) → 12 * (20 - o) + 11 ≤ (N : Int) → (∃ as, st.2.1 = ps0 ++ as) → ArI ps0.length cs st.2.1 → (0 ≤ st.1 ∧ st.1 ≤ t.2.1) → (st.2.1.length : Int) ≤ st.1 → (cs.length : Int) ≤ st.1 → (0 ≤ x7 ∧ 2 * x7 ≤ st.1) → CodP x4 cs → gdP ((pg t S n).2.2.2 op fr o cs st) → ∀ z c s P K, kB b N op fr P K → (∃ J e, OkC b z0 I J z e st.2.1 st.2.2 ∧ skp t e = st.1 ∧ 0 ≤ e ∧ e ≤ t.2.1) → RmC ((pg t S n).2.2.2 op fr o cs st) t.2.1 st.1 c s → (∀ y, PoC t b z0 I ((pg t S n).2.2.2 op fr o cs st) y → P y) → ∀ cnt, (t.2.1 - st.1).toNat + 3 ≤ cnt → itr (bdB b N op fr o) K cnt (x4, (cs.length : Int), 1, x7, z, c, s)
theorem CwA_s {t : Tx} {S : SS} {b : Nat → Nat} {I : Nat → Prop} {z0 : Z} {n : Nat} (E : EnC t S b I z0) (hI : ∀ v, isShP v S → IdS (shOf v S)) (G : PgO t S (pg t S n)) (HE : CwE t S b I z0 n) (HA : CwA t S b I z0 n) : CwA t S b I z0 (n + 1) := by
  intro op fr o cs st ps0 N x4 x7 hop ho hN hps ha hst hlen hcs hx7 hcod gd z c s P K hK start rm h cnt hcnt
  have C := E.1
  have b3 := C.2.2.1
  have er : (pg t S (n + 1)).2.2.2 op fr o cs st = bAr t S (pg t S n) op fr o cs st := rfl
  rw [er] at gd rm h
  unfold bAr at gd rm h
  generalize hr1 : (if crP t st.1 ∧ bt t (crE t st.1) = 58 then pArea t S st else (pg t S n).1 1 o st) = r1 at gd rm h
  have gd1 : gdP r1 := gd_rb gd
  have pos : ∀ s1, r1 = .inr s1 → PoT t S.2.1.1 st.2.1 st s1 ∧ st.1 < s1.1 := by
    intro s1 e
    rw [e] at hr1
    split at hr1
    · next c =>
      have := pArea_f ⟨hst, ha.1⟩ hI c.1 hr1
      exact ⟨this.1, this.2.2⟩
    · have := G.1 _ _ _ _ ⟨hst, ha.1⟩ hr1
      exact ⟨PoS_T this.1, this.2⟩
  -- what is left of the room behind the argument
  have left : ∀ s1, r1 = .inr s1 → ((3 * (s1.1 - st.1)).toNat ≤ c ∧ (14 * (s1.1 - st.1)).toNat ≤ s) ∧ RmC (if bt t s1.1 = 44 then (pg t S n).2.2.2 op fr o (cs ++ [lastO s1.2.1]) (skp t (s1.1 + 1), s1.2) else if bt t s1.1 = 41 then .inr (bArE t op fr (cs ++ [lastO s1.2.1]) s1) else .inl (1, peo t s1.1)) t.2.1 s1.1 (c - (3 * (s1.1 - st.1)).toNat) (s - (14 * (s1.1 - st.1)).toNat) := by
    intro s1 e
    obtain ⟨q1, q2⟩ := pos s1 e
    have q21 := q1.2.1.1
    rw [e] at rm
    replace rm : RmC (if bt t s1.1 = 44 then (pg t S n).2.2.2 op fr o (cs ++ [lastO s1.2.1]) (skp t (s1.1 + 1), s1.2) else if bt t s1.1 = 41 then .inr (bArE t op fr (cs ++ [lastO s1.2.1]) s1) else .inl (1, peo t s1.1)) t.2.1 st.1 c s := rm
    have mono : ∀ s2, (if bt t s1.1 = 44 then (pg t S n).2.2.2 op fr o (cs ++ [lastO s1.2.1]) (skp t (s1.1 + 1), s1.2) else if bt t s1.1 = 41 then .inr (bArE t op fr (cs ++ [lastO s1.2.1]) s1) else .inl (1, peo t s1.1)) = .inr s2 → s1.1 ≤ s2.1 := by
      intro s2 hs2
      split at hs2
      · next c44 =>
        have b1 := bt_in (t := t) (k := s1.1) (by omega)
        have kb := skp_b (t := t) (k := s1.1 + 1) (by omega) (by omega)
        obtain ⟨as, has⟩ := hps
        obtain ⟨rs, e1, -⟩ := id q1.1
        have := (G.2.2.2 op fr o _ (skp t (s1.1 + 1), s1.2) s2 ps0 hop ⟨by show 0 ≤ skp t _; omega, kb.2.1⟩ ⟨as ++ rs, by show s1.2.1 = _; rw [e1, has, List.append_assoc]⟩ (ArI_s ha q1.1) hs2).2
        simp only at this
        omega
      · split at hs2
        · next c41 =>
          cases hs2
          have b1 := bt_in (t := t) (k := s1.1) (by omega)
          have kb := skp_b (t := t) (k := s1.1 + 1) (by omega) (by omega)
          show s1.1 ≤ skp t (s1.1 + 1)
          omega
        · cases hs2
    revert rm mono
    generalize (if bt t s1.1 = 44 then (pg t S n).2.2.2 op fr o (cs ++ [lastO s1.2.1]) (skp t (s1.1 + 1), s1.2) else if bt t s1.1 = 41 then .inr (bArE t op fr (cs ++ [lastO s1.2.1]) s1) else .inl (1, peo t s1.1)) = r2
    intro rm mono
    cases r2 with
    | inl e2 =>
      have m1 := rm.1
      have m2 := rm.2
      exact ⟨by omega, by omega, by omega⟩
    | inr s2 =>
      have m := mono s2 rfl
      have m1 := rm.1
      have m2 := rm.2
      exact ⟨by omega, by omega, by omega⟩
  have rmA : RmC r1 t.2.1 st.1 (bgC r1 st.1 c) (bgS r1 st.1 s) ∧ (bgC r1 st.1 c ≤ c ∧ bgS r1 st.1 s ≤ s) ∧ (1 ≤ bgC r1 st.1 c ∧ 9 ≤ bgS r1 st.1 s) := by
    cases hr : r1 with
    | inl e1' =>
      rw [hr] at rm
      have m1 : 3 * (t.2.1 + 1 - st.1) ≤ (c : Int) := rm.1
      have m2 : 14 * (t.2.1 + 1 - st.1) ≤ (s : Int) := rm.2
      exact ⟨rm, ⟨Nat.le_refl _, Nat.le_refl _⟩, by show 1 ≤ c; omega, by show 9 ≤ s; omega⟩
    | inr s1 =>
      have l := (left s1 hr).1
      have q := (pos s1 hr).2
      exact ⟨⟨by show 3 * (s1.1 - st.1) ≤ (((3 * (s1.1 - st.1)).toNat : Nat) : Int); omega, by show 14 * (s1.1 - st.1) ≤ (((14 * (s1.1 - st.1)).toNat : Nat) : Int); omega⟩, l, by show 1 ≤ (3 * (s1.1 - st.1)).toNat; omega, by show 9 ≤ (14 * (s1.1 - st.1)).toNat; omega⟩
  cases cnt with
  | zero => omega
  | succ cnt =>
  show bdB b N op fr o (x4, (cs.length : Int), 1, x7, z, c, s) _
  refine bdB_i ?_
  obtain ⟨J, e, R, he, e0, e1⟩ := start
  unfold L_X5_args_12
  rw [if_neg (by omega), if_neg (by decide)]
  refine ⟨cK (TxC_o C R).1 1 rfl rfl, ?_⟩
  rw [R.2.2.2.1.2]
  -- behind the argument
  have C1 : ∀ (Q : (Int × Int × Int × Int × Z × Nat × Nat) ⊕ ((Int × Int × Z × Nat × Nat) ⊕ (Z × Nat × Nat)) → Prop), (∀ s', itr (bdB b N op fr o) K cnt s' → Q (.inl s')) → (∀ y c s, P y → Q (.inr (.inr (y, c, s)))) → ∀ y3, PoC t b z0 I r1 y3 → F_X5_args_72 (F_X5_args N) (F_X5_atom N) (F_X5_bracketed N) (F_X5_expression N) (F_X5_signed N) (F_X5_word N) (b 1) op fr o x4 (cs.length : Int) x7 (st.2.1.length : Int) y3 (c - bgC r1 st.1 c) (s - bgS r1 st.1 s) Q := by
    intro Q hQ hQ2 y3 hy3
    -- with a fault all ends
    have FF : ∀ (k p : Int) (y4 : Z) (c4 s4 : Nat) (s0 s1' : Int), FlC t b z0 I y4 k p → (∀ y5, FlC t b z0 I y5 k p → P y5) → F_X5_args_96 (F_X5_args N) (F_X5_atom N) (F_X5_bracketed N) (F_X5_expression N) (F_X5_signed N) (F_X5_word N) (b 1) op fr o (cs.length : Int) x7 s0 s1' y4 c4 s4 Q := by
      intro k p y4 c4 s4 s0 s1' F hp
      have C4 := TxC_l C F
      obtain ⟨J4, g1, g2, g3, g4⟩ := id F
      unfold F_X5_args_96 F_X5_args_124 F_X5_args_153
      refine ⟨cK C4.1 1 rfl rfl, o_skip C4 rfl g3.1 g3.2 (fun y5 f5 y59 => ?_)⟩
      have kb := skp_b (t := t) g3.1 g3.2
      have F5 := FlC_sc C.1 F f5 (by rw [y59]; omega)
      have C5 := TxC_l C F5
      have f54 := FlC_4 F5
      have ex : (zK y5 (b 1) = 6 ∧ (if zI y5 (b 1) 4 = 0 then (∀ z_168, z_168 = wI y5 (b 1) 9 (w32 (zI y5 (b 1) 9 + 1)) → Q (.inl (bOr s0 s1', w32 ((cs.length : Int) + 1), 0, w32 (x7 + 1), z_168, c4, s4))) else Q (.inr (.inr (y5, c4, s4))))) := ⟨cK C5.1 1 rfl rfl, by rw [if_neg (by omega)]; exact hQ2 _ _ _ (hp y5 F5)⟩
      refine ⟨cK C5.1 1 rfl rfl, o_byt C5 ?_⟩
      by_cases c44 : sbt t (zI y5 (b 1) 9) = 44
      · rw [if_pos c44, if_neg (by decide)]
        exact ⟨cK C5.1 1 rfl rfl, by rw [if_neg (by omega)]; exact hQ2 _ _ _ (hp y5 F5)⟩
      · rw [if_neg c44, if_pos rfl]
        refine ⟨cK C5.1 1 rfl rfl, o_byt C5 ?_⟩
        by_cases c41 : sbt t (zI y5 (b 1) 9) = 41
        · rw [if_pos c41]; exact ex
        · rw [if_neg c41]
          exact o_peo C5 (o_failF C5.1 f54 ex)
    unfold F_X5_args_72
    have fl72 : ∀ k p, FlC t b z0 I y3 k p → (∀ y5, FlC t b z0 I y5 k p → P y5) → (if 8 ≤ (cs.length : Int) then F_X5_args_96 (F_X5_args N) (F_X5_atom N) (F_X5_bracketed N) (F_X5_expression N) (F_X5_signed N) (F_X5_word N) (b 1) op fr o (cs.length : Int) x7 x4 0 y3 (c - bgC r1 st.1 c) (s - bgS r1 st.1 s) Q else (zK y3 (b 1) = 6 ∧ F_X5_shapeFrom (b 1) (st.2.1.length : Int) y3 (fun x_84 => F_X5_args_96 (F_X5_args N) (F_X5_atom N) (F_X5_bracketed N) (F_X5_expression N) (F_X5_signed N) (F_X5_word N) (b 1) op fr o (cs.length : Int) x7 x4 (bShl x_84 (w32 (2 * (cs.length : Int)))) y3 (c - bgC r1 st.1 c) (s - bgS r1 st.1 s) Q))) := by
      intro k p F hp
      by_cases c8 : 8 ≤ (cs.length : Int)
      · rw [if_pos c8]; exact FF k p y3 _ _ _ _ F hp
      · rw [if_neg c8]
        exact ⟨cK (TxC_l C F).1 1 rfl rfl, o_shpF C F ⟨by omega, by omega⟩ (fun v => FF k p y3 _ _ _ _ F hp)⟩
    cases hr : r1 with
    | inl e1' =>
      rw [hr] at hy3 h fl72
      exact fl72 e1'.1 e1'.2 hy3 (fun y5 F5 => h y5 F5)
    | inr s1 =>
      rw [hr] at hy3 gd h fl72
      have lf := left s1 hr
      obtain ⟨q1, q2⟩ := pos s1 hr
      have q21 := q1.2.1.1
      replace h : ∀ y, PoC t b z0 I (if bt t s1.1 = 44 then (pg t S n).2.2.2 op fr o (cs ++ [lastO s1.2.1]) (skp t (s1.1 + 1), s1.2) else if bt t s1.1 = 41 then .inr (bArE t op fr (cs ++ [lastO s1.2.1]) s1) else .inl (1, peo t s1.1)) y → P y := h
      replace gd : gdP (if bt t s1.1 = 44 then (pg t S n).2.2.2 op fr o (cs ++ [lastO s1.2.1]) (skp t (s1.1 + 1), s1.2) else if bt t s1.1 = 41 then .inr (bArE t op fr (cs ++ [lastO s1.2.1]) s1) else .inl (1, peo t s1.1)) := gd
      rcases hy3 with ⟨J3, e3, R3, he3, e30, e31⟩ | ⟨c58, F⟩
      · have sp1 := Seg_p q1.1
        have c2 := q1.2.2.1
        have ha1 := ArI_s ha q1.1
        obtain ⟨as, has⟩ := id hps
        obtain ⟨rs, er1, er2, er3, er4⟩ := id q1.1
        have hp1 : s1.2.1 = ps0 ++ (as ++ rs) := by rw [er1, has, List.append_assoc]
        have nn : cs ++ [lastO s1.2.1] ≠ [] := by simp
        have cl : ((cs ++ [lastO s1.2.1]).length : Int) = cs.length + 1 := by rw [List.length_append, List.length_singleton]; omega
        -- with the code of the shapes
        have D : ∀ s0' s1', CodP (bOr s0' s1') (cs ++ [lastO s1.2.1]) → F_X5_args_96 (F_X5_args N) (F_X5_atom N) (F_X5_bracketed N) (F_X5_expression N) (F_X5_signed N) (F_X5_word N) (b 1) op fr o (cs.length : Int) x7 s0' s1' y3 (c - bgC (.inr s1) st.1 c) (s - bgS (.inr s1) st.1 s) Q := by
          intro s0' s1' hcod'
          generalize hX : bOr s0' s1' = X at hcod'
          have C3 := TxC_o C R3
          unfold F_X5_args_96
          refine ⟨cK C3.1 1 rfl rfl, o_skip C3 R3.2.2.2.1.1 e30 e31 (fun y4 f4 y49 => ?_)⟩
          rw [he3] at y49
          have R4 := OkC_sc (e' := s1.1) C.1 R3 f4 y49
          have C4 := TxC_o C R4
          refine ⟨cK C4.1 1 rfl rfl, ?_⟩
          rw [y49, hX, w32e (x := (cs.length : Int) + 1) (by omega) (by omega), ← cl]
          refine o_byt C4 ?_
          by_cases c44 : bt t s1.1 = 44
          · rw [if_pos ((sb_i C4 (by decide) (by decide)).mpr c44)]
            rw [if_pos c44] at h gd lf
            have b1 := bt_in (t := t) (k := s1.1) (by omega)
            have kb := skp_b (t := t) (k := s1.1 + 1) (by omega) (by omega)
            unfold F_X5_args_124 F_X5_args_153
            rw [if_neg (by decide)]
            refine ⟨cK C4.1 1 rfl rfl, ?_⟩
            rw [if_pos R4.2.1.1, y49, w32e (x := s1.1 + 1) (by omega) (by omega), w32e (x := x7 + 1) (by omega) (by omega)]
            rintro _ rfl
            have f5 : FrZ (WB b wSc) y4 (wI y4 (b 1) 9 (s1.1 + 1)) := FrZ_wI FrZ_rf (Or.inl (WB_i (by decide) (by decide)))
            have R5 := OkC_sc (e' := s1.1 + 1) C.1 R4 f5 (by rw [zI_wI, if_pos ⟨rfl, rfl⟩])
            refine hQ _ (HA op fr o _ (skp t (s1.1 + 1), s1.2) ps0 N X (x7 + 1) hop ho hN ⟨_, hp1⟩ ha1 ⟨by show 0 ≤ skp t _; omega, kb.2.1⟩ (by show (s1.2.1.length : Int) ≤ skp t _; omega) (by show _ ≤ skp t (s1.1 + 1); omega) ⟨by omega, by show 2 * (x7 + 1) ≤ skp t (s1.1 + 1); omega⟩ hcod' gd _ _ _ P K hK ⟨J3, s1.1 + 1, R5, rfl, by omega, by omega⟩ ?_ h cnt ?_)
            · have l2 := lf.2
              show RmC _ t.2.1 (skp t (s1.1 + 1)) (c - (3 * (s1.1 - st.1)).toNat) (s - (14 * (s1.1 - st.1)).toNat)
              revert l2
              generalize (pg t S n).2.2.2 op fr o (cs ++ [lastO s1.2.1]) (skp t (s1.1 + 1), s1.2) = r2
              intro l2
              cases r2 with
              | inl e2 => exact ⟨by have := l2.1; omega, by have := l2.2; omega⟩
              | inr s2 => exact ⟨by have := l2.1; omega, by have := l2.2; omega⟩
            · show (t.2.1 - skp t (s1.1 + 1)).toNat + 3 ≤ cnt
              omega
          · rw [if_neg (fun q => c44 ((sb_i C4 (by decide) (by decide)).mp q))]
            rw [if_neg c44] at h gd lf
            unfold F_X5_args_124 F_X5_args_153
            rw [if_pos rfl]
            refine ⟨cK C4.1 1 rfl rfl, ?_⟩
            rw [y49]
            refine o_byt C4 ?_
            by_cases c41 : bt t s1.1 = 41
            · rw [if_pos ((sb_i C4 (by decide) (by decide)).mpr c41)]
              rw [if_pos c41] at h lf
              have b1 := bt_in (t := t) (k := s1.1) (by omega)
              have kb := skp_b (t := t) (k := s1.1 + 1) (by omega) (by omega)
              refine ⟨cK C4.1 1 rfl rfl, ?_⟩
              rw [if_pos R4.2.1.1, w32e (x := s1.1 + 1) (by omega) (by omega), w32e (x := x7 + 1) (by omega) (by omega)]
              rintro _ rfl
              have f5 : FrZ (WB b wSc) y4 (wI y4 (b 1) 9 (s1.1 + 1)) := FrZ_wI FrZ_rf (Or.inl (WB_i (by decide) (by decide)))
              have R5 := OkC_sc (e' := s1.1 + 1) C.1 R4 f5 (by rw [zI_wI, if_pos ⟨rfl, rfl⟩])
              generalize wI y4 (b 1) 9 (s1.1 + 1) = y5 at f5 R5
              refine hQ _ ?_
              have fin : F_X5_args_177 (F_X5_args N) (F_X5_atom N) (F_X5_bracketed N) (F_X5_expression N) (F_X5_signed N) (F_X5_word N) (b 1) op fr X ((cs ++ [lastO s1.2.1]).length : Int) y5 (c - bgC (.inr s1) st.1 c) (s - bgS (.inr s1) st.1 s) P := by
                have room : 1 ≤ c - (3 * (s1.1 - st.1)).toNat ∧ 9 ≤ s - (14 * (s1.1 - st.1)).toNat := by
                  have l1 : 3 * (skp t (s1.1 + 1) - s1.1) ≤ ((c - (3 * (s1.1 - st.1)).toNat : Nat) : Int) := lf.2.1
                  have l2 : 14 * (skp t (s1.1 + 1) - s1.1) ≤ ((s - (14 * (s1.1 - st.1)).toNat : Nat) : Int) := lf.2.2
                  omega
                have ad : ∀ y6 lt', OkC b z0 I J3 y6 (s1.1 + 1) s1.2.1 lt' → (∀ y7, PoC t b z0 I (.inr (skp t (s1.1 + 1), s1.2.1 ++ [opP op ((cs ++ [lastO s1.2.1]).length : Int)], lt')) y7 → P y7) → F_X5_args_194 (F_X5_args N) (F_X5_atom N) (F_X5_bracketed N) (F_X5_expression N) (F_X5_signed N) (F_X5_word N) (b 1) op ((cs ++ [lastO s1.2.1]).length : Int) y6 (c - bgC (.inr s1) st.1 c) (s - bgS (.inr s1) st.1 s) P := by
                  intro y6 lt' R6 hp
                  unfold F_X5_args_194
                  refine ⟨cK (TxC_o C R6).1 1 rfl rfl, _, _, Nat.le_refl _, Nat.le_refl _, ?_⟩
                  exact o_add (lo := none) (J1 := J3) C R6 (by omega) room.1 room.2 (fun _ j => j) (fun _ j => Or.inl j) rfl (fun y7 J7 R7 => hp y7 (Or.inl ⟨J7, s1.1 + 1, R7, rfl, by omega, by omega⟩))
                unfold F_X5_args_177
                refine o_fits hop hcod' (fun ft => ?_) (fun ft => ?_)
                · rw [if_neg (by decide)]
                  refine ad y5 _ R5 (fun y7 hy7 => h y7 ?_)
                  unfold bArE
                  rw [ci_1 ft]; exact hy7
                · rw [if_pos rfl]
                  refine ⟨cK (TxC_o C R5).1 1 rfl rfl, o_late C R5 (by decide) (fun y6 R6 _ => ?_)⟩
                  refine ad y6 _ R6 (fun y7 hy7 => h y7 ?_)
                  unfold bArE
                  rw [ci_0 ft]; exact hy7
              cases cnt with
              | zero => omega
              | succ cnt =>
                show bdB b N op fr o (X, ((cs ++ [lastO s1.2.1]).length : Int), 0, x7 + 1, y5, _, _) _
                refine bdB_i ?_
                unfold L_X5_args_12
                by_cases c4 : 400 ≤ x7 + 1
                · rw [if_pos c4]; exact hK.1 _ _ _ _ _ fin
                · rw [if_neg c4, if_pos rfl]; exact hK.1 _ _ _ _ _ fin
            · rw [if_neg (fun q => c41 ((sb_i C4 (by decide) (by decide)).mp q))]
              rw [if_neg c41] at h
              refine o_peo C4 ?_
              rw [y49]
              refine o_fail (t := t) C.1 R4 (by decide) ⟨by omega, q21⟩ (by omega) (fun y5 F5 => ?_)
              have f54 := FlC_4 F5
              exact ⟨cK (TxC_l C F5).1 1 rfl rfl, by rw [if_neg (by omega)]; exact hQ2 _ _ _ (h y5 F5)⟩
        by_cases c8 : 8 ≤ (cs.length : Int)
        · rw [if_pos c8]
          have q := CodP_8 (c := lastO s1.2.1) hcod (by omega)
          exact D x4 0 (by rw [q.1]; exact q.2)
        · rw [if_neg c8, w32e (x := 2 * (cs.length : Int)) (by omega) (by omega)]
          refine ⟨cK (TxC_o C R3).1 1 rfl rfl, o_shpA C R3 q1.1 (by omega) ?_⟩
          have q := CodP_s (c := lastO s1.2.1) hcod (by omega)
          exact D x4 _ (by rw [q.1]; exact q.2)
      · rw [if_neg (by omega), if_neg (by omega)] at h
        have b1 := bt_in (t := t) (k := s1.1) (by omega)
        have ep : peo t s1.1 = s1.1 := by unfold peo; rw [if_pos b1.2]
        rw [ep] at h
        exact fl72 1 s1.1 F (fun y5 F5 => h y5 F5)
  refine o_skip (TxC_o C R) R.2.2.2.1.1 e0 e1 (fun y fy y9 => ?_)
  rw [he] at y9
  have Ry := OkC_sc (e' := st.1) C.1 R fy y9
  have Cy := TxC_o C Ry
  refine ⟨cK Cy.1 1 rfl rfl, ?_⟩
  rw [y9]
  have test : ∀ (Q : (Int × Int × Int × Int × Z × Nat × Nat) ⊕ ((Int × Int × Z × Nat × Nat) ⊕ (Z × Nat × Nat)) → Prop), (∀ s', itr (bdB b N op fr o) K cnt s' → Q (.inl s')) → (∀ y c s, P y → Q (.inr (.inr (y, c, s)))) → ¬ (crP t st.1 ∧ bt t (crE t st.1) = 58) → ∀ y2, OkC b z0 I J y2 st.1 st.2.1 st.2.2 → F_X5_args_66 (F_X5_args N) (F_X5_atom N) (F_X5_bracketed N) (F_X5_expression N) (F_X5_signed N) (F_X5_word N) (b 1) op fr o x4 (cs.length : Int) x7 (st.2.1.length : Int) y2 c s Q := by
    intro Q hQ hQ2 nc y2 R2
    rw [if_neg nc] at hr1
    unfold F_X5_args_66
    refine ⟨cK (TxC_o C R2).1 1 rfl rfl, bgC r1 st.1 c, bgS r1 st.1 s, rmA.2.1.1, rmA.2.1.2, ?_⟩
    have sk : skp t st.1 = st.1 := by rw [← he]; exact skp_skp e0 e1
    exact HE 1 (by omega) (by omega) o st N ⟨by omega, by omega⟩ (by omega) (by show gdP ((pg t S n).1 1 o st); rw [hr1]; exact gd1) y2 _ _ _ ⟨⟨J, st.1, R2, sk, hst.1, hst.2⟩, ⟨hst, ha.1⟩, hlen⟩ (by show RmC ((pg t S n).1 1 o st) _ _ _ _; rw [hr1]; exact rmA.1) (fun y3 hy3 => C1 Q hQ hQ2 y3 (by rw [← hr1]; exact hy3))
  refine o_crn Cy hst.1 (by omega) (fun cr y2 f2 g13 g14 g15 g16 => ?_) (fun cr y2 f2 => ?_)
  · rw [if_neg (by decide)]
    have R2 := OkC_sc (e' := st.1) C.1 Ry (WB_s (by decide) f2) ((bB Cy.1 f2 (R := [(1, some 9)]) (by decide) (by decide) (wHas_i (by decide))).1.trans y9)
    have C2 := TxC_o C R2
    refine ⟨cK C2.1 1 rfl rfl, ?_⟩
    rw [g16]
    refine o_byt C2 ?_
    by_cases c58 : bt t (crE t st.1) = 58
    · rw [if_pos ((sb_i C2 (by decide) (by decide)).mpr c58)]
      rw [if_pos ⟨cr, c58⟩] at hr1
      refine ⟨bgC r1 st.1 c, bgS r1 st.1 s, rmA.2.1.1, rmA.2.1.2, ?_⟩
      exact o_area E R2 hlen cr c58 g13 g14 g15 g16 rmA.2.2 (fun y3 hy3 => C1 _ (fun _ hh => hh) (fun y c s hp => hK.2 y c s hp) y3 (by rw [← hr1]; exact hy3))
    · rw [if_neg (fun q => c58 ((sb_i C2 (by decide) (by decide)).mp q))]
      exact test _ (fun _ hh => hh) (fun y c s hp => hK.2 y c s hp) (fun q => c58 q.2) y2 R2
  · rw [if_pos rfl]
    have R2 := OkC_sc (e' := st.1) C.1 Ry (WB_s (by decide) f2) ((bB Cy.1 f2 (R := [(1, some 9)]) (by decide) (by decide) (wHas_i (by decide))).1.trans y9)
    exact test _ (fun _ hh => hh) (fun y c s hp => hK.2 y c s hp) (fun q => cr q.1) y2 R2
