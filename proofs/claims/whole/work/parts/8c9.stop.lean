/-! ===== the system reads words, brackets; the whole of it ===== -/
theorem RmC_le {r : PR} {en a a' : Int} {c s : Nat} (h : RmC r en a c s) (ha : a ≤ a') : RmC r en a' c s := by
  cases r with
  | inl e => exact ⟨by have := h.1; omega, by have := h.2; omega⟩
  | inr p => exact ⟨by have := h.1; omega, by have := h.2; omega⟩
theorem sL_01 : (sL 0).getD 0 0 = 84 ∧ (sL 1).getD 0 0 = 70 ∧ (sL 0).length = 4 ∧ (sL 1).length = 5 ∧ sL 7 = [82, 69, 70] := by decide +kernel
theorem BtC_l {t : Tx} {z : Z} {b : Nat → Nat} {k : Int} {n : Nat} (C : TxC t z b) (k0 : 0 ≤ k) (hk : k + n ≤ t.2.1) (hle : ∀ j, k ≤ j → j < k + n → leB (bt t j) = true) : BtC z (b 11) k (subL t k n) := by
  have b3 := C.2.2.1
  refine ⟨cK C.1 11 rfl rfl, k0, by rw [subL_len, cN C.1 11 (c := 400) rfl rfl]; omega, fun i hi => ?_⟩
  rw [subL_len] at hi
  rw [subL_at hi, sb_is C (by omega) (by omega)]
  have l := leB_i.mp (hle (k + i) (by omega) (by omega))
  have sv := sb_v C (k + i)
  omega
theorem o_word2 {t : Tx} {S : SS} {b : Nat → Nat} {I J : Nat → Prop} {z0 z : Z} {n N : Nat} {o : Int} {st : PS} {c s : Nat} {P : Z → Prop} (E : EnC t S b I z0) (HA : CwA t S b I z0 n) (R : OkC b z0 I J z st.1 st.2.1 st.2.2) (ok : OkS t st) (hlen : (st.2.1.length : Int) ≤ st.1) (ho : 0 ≤ o ∧ o ≤ 20) (hN : 12 * (20 - o) + 4 ≤ (N : Int)) (hle : leB (bt t st.1) = true) (gd : gdP (bWd t (pg t S n) o st)) (rm : RmC (bWd t (pg t S n) o st) t.2.1 st.1 c s) (h : ∀ y, PoC t b z0 I (bWd t (pg t S n) o st) y → P y) : F_X5_word N (b 1) o z c s P := by
  have C := E.1
  have b3 := C.2.2.1
  have h0 := ok.1.1
  have bi := bt_in (t := t) (k := st.1) (fun e => by rw [e] at hle; cases hle)
  have rb0 := rn_b (p := leB) (t := t) leB_n h0
  have r1 := rn_1 (t := t) leB_n h0 hle
  have rb1 := rn_b (p := leB) (t := t) (k := st.1 + 1) leB_n (by omega)
  obtain ⟨M, rfl⟩ : ∃ M, N = M + 1 := ⟨N - 1, by omega⟩
  show B_X5_word (F_X5_args M) (F_X5_atom M) (F_X5_bracketed M) (F_X5_expression M) (F_X5_signed M) (F_X5_word M) (b 1) o z c s P
  unfold B_X5_word F_X5_word_5
  refine ⟨cK (TxC_o C R).1 1 rfl rfl, ?_⟩
  rw [R.2.2.2.1.1]
  refine lp_I (fun y => ∃ j, OkC b z0 I J y j st.2.1 st.2.2 ∧ (st.1 ≤ j ∧ j ≤ rn leB t st.1)) (fun y => (t.2.1 - zI y (b 1) 9).toNat) ?_ z ⟨st.1, R, Int.le_refl _, by omega⟩
  rintro Gk y ⟨j, Ry, j0, j1⟩ ih
  have Cy := TxC_o C Ry
  have cy := Cy.1
  have y9 := Ry.2.2.2.1.1
  unfold L_X5_word_5
  refine ⟨cK cy 1 rfl rfl, ?_⟩
  rw [y9, Cy.2.1.2]
  have fin : j = rn leB t st.1 → F_X5_word_44 (F_X5_args M) (F_X5_atom M) (F_X5_bracketed M) (F_X5_expression M) (F_X5_signed M) (F_X5_word M) (b 1) o st.1 y c s P := by
    intro ej
    have Bt := BtC_l (n := (rn leB t st.1 - st.1).toNat) Cy h0 (by omega) (fun i a b => rb0.2.2.2 i a (by omega))
    unfold F_X5_word_44
    refine ⟨cK cy 1 rfl rfl, ?_⟩
    rw [cO cy 1 0 11 (by decide), y9]
    unfold bWd at gd rm h
    generalize hws : subL t st.1 (rn leB t st.1 - st.1).toNat = ws at *
    have wl : ws.length = (rn leB t st.1 - st.1).toNat := by rw [← hws, subL_len]
    have w0 : ws.getD 0 0 = bt t st.1 := by rw [← hws, subL_at (by omega)]; congr 1; omega
    refine o_isTruth Bt (by rw [wl]; omega) (by omega) (fun tr => ?_) (fun tr => ?_)
    · rw [if_neg (by decide)]
      -- TRUE, FALSE
      have key : ∀ v : Int, (∀ y2, PoC t b z0 I (.inr (addP (litP (3, v, [])) (skp t (rn leB t st.1)) st)) y2 → P y2) → RmC (.inr (addP (litP (3, v, [])) (skp t (rn leB t st.1)) st)) t.2.1 st.1 c s → (v = if bt t st.1 = 84 then 1 else 0) → (1 ≤ c ∧ 4 ≤ s ∧ ∀ a_59, zK y a_59 = 0 → (∀ z_59, z_59 = nZ y a_59 9 0 → (∃ c_64 s_64, c_64 ≤ c - 1 ∧ s_64 ≤ s - 4 ∧ F_X8_init a_59 0 z_59 c_64 s_64 (fun z_64 => (zK z_64 (b 1) = 6 ∧ (∃ a_74, zO z_64 (b 1) 0 = some a_74 ∧ zK z_64 a_74 = 14 ∧ (0 ≤ st.1 ∧ st.1 < zN z_64 a_74 ∧ (if zI z_64 a_74 st.1 = 84 then F_X5_word_85 (F_X5_args M) (F_X5_atom M) (F_X5_bracketed M) (F_X5_expression M) (F_X5_signed M) (F_X5_word M) (b 1) (some a_59) (some a_59) 1 z_64 ((c - 1) - c_64) ((s - 4) - s_64) P else F_X5_word_85 (F_X5_args M) (F_X5_atom M) (F_X5_bracketed M) (F_X5_expression M) (F_X5_signed M) (F_X5_word M) (b 1) (some a_59) (some a_59) 0 z_64 ((c - 1) - c_64) ((s - 4) - s_64) P))))))))  := by
        intro v hv rv ev
        have sk := skp_b (t := t) (k := rn leB t st.1) (by omega) (by omega)
        have m1 : 3 * (skp t (rn leB t st.1) - st.1) ≤ (c : Int) := rv.1
        have m2 : 14 * (skp t (rn leB t st.1) - st.1) ≤ (s : Int) := rv.2
        refine ⟨by omega, by omega, fun a ha z1 e1 => ?_⟩
        subst e1
        refine ⟨1, 0, by omega, by omega, ?_⟩
        refine o_val (e := j) C Ry ha ⟨Int.le_refl 0, by decide⟩ (by omega) (by decide) (fun y2 ba R2 ka oa kb nb hab fa fb _ => ?_)
        have C2 := TxC_o C R2
        refine ⟨cK C2.1 1 rfl rfl, b 11, cO C2.1 1 0 11 (by decide), cK C2.1 11 rfl rfl, h0, by rw [cN C2.1 11 (c := 400) rfl rfl]; omega, ?_⟩
        rw [sb_is C2 h0 bi.2]
        have w85 : F_X5_word_85 (F_X5_args M) (F_X5_atom M) (F_X5_bracketed M) (F_X5_expression M) (F_X5_signed M) (F_X5_word M) (b 1) (some a) (some a) v y2 ((c - 1) - 1) ((s - 4) - 0) P := by
          have v01 : v = 0 ∨ v = 1 := by rw [ev]; split <;> simp
          have setv : F_X8_set a 3 v y2 (fun z_85 => (zK z_85 (b 1) = 6 ∧ (∃ c_93 s_93, c_93 ≤ ((c - 1) - 1) ∧ s_93 ≤ ((s - 4) - 0) ∧ F_X5_addPart (b 1) 14 0 (some a) z_85 c_93 s_93 (fun z_93 => P z_93)))) := by
            unfold F_X8_set
            refine ⟨ka, ?_⟩
            rintro _ rfl _ rfl _ rfl
            have f0 : FrZ (fun x _ => x = a) y2 (wI (wG (wI y2 a 1 3) a 2 v) a 3 0) := FrZ_wI (FrZ_wG (FrZ_wI FrZ_rf (Or.inl rfl)) (Or.inl rfl)) (Or.inl rfl)
            have R3 := OkC_fr C.1 R2 f0 (fun x i hx => by rw [hx]; exact fa)
            refine ⟨cK (TxC_o C R3).1 1 rfl rfl, _, _, Nat.le_refl _, Nat.le_refl _, ?_⟩
            refine o_lit (l := (3, v, [])) C R3 (by omega) (by omega) (by omega) ka kb fa.1 fb.1 ⟨by simp [zI_wI, zI_wG], oa, ?_⟩ (fun y4 J4 R4 => hv y4 (Or.inl ⟨J4, j, R4, by rw [ej]; rfl, by omega, by omega⟩))
            rw [if_neg (by show ¬ (3 : Int) = 2; decide)]
            exact ⟨by simp [zG_wI, zG_wG], rfl⟩
          unfold F_X5_word_85 F_X8_setTruth F_X8_setTruth_11
          refine ⟨a, rfl, ka, ?_⟩
          rcases v01 with e | e
          · rw [e, if_pos rfl]
            rw [e] at setv
            exact ⟨a, rfl, ka, setv⟩
          · rw [e, if_neg (by decide)]
            rw [e] at setv
            exact ⟨a, rfl, ka, setv⟩
        by_cases c84 : bt t st.1 = 84
        · rw [if_pos ((sb_i C2 (by decide) (by decide)).mpr c84)]
          rw [if_pos c84] at ev
          rw [← ev]; exact w85
        · rw [if_neg (fun q => c84 ((sb_i C2 (by decide) (by decide)).mp q))]
          rw [if_neg c84] at ev
          rw [← ev]; exact w85
      by_cases t0 : ws = sL 0
      · rw [if_pos t0] at h rm
        refine key 1 h rm ?_
        rw [t0, sL_01.1] at w0
        rw [if_pos w0.symm]
      · rw [if_neg t0] at h rm
        have t1 : ws = sL 1 := tr.resolve_left t0
        rw [if_pos t1] at h rm
        refine key 0 h rm ?_
        rw [t1, sL_01.2.1] at w0
        rw [if_neg (by omega)]
    · rw [if_pos rfl]
      rw [if_neg (fun q => tr (Or.inl q)), if_neg (fun q => tr (Or.inr q))] at h rm gd
      have eq : j = st.1 + (rn leB t st.1 - st.1) := by omega
      rw [eq]
      refine o_nm Cy h0 (by omega) (by omega) (fun i a b => rb0.2.2.2 i a (by omega)) ?_
      rw [hws]
      by_cases n0 : nmO ws = 0
      · rw [if_pos n0]
        rw [if_pos n0] at h
        exact o_fail (t := t) C.1 Ry (by decide) ⟨by omega, by omega⟩ (by omega) (fun x F => h x F)
      · rw [if_neg n0]
        rw [if_neg n0] at h rm gd
        have hop := (nmO_b n0).1
        generalize nmO ws = op at *
        refine o_skip Cy y9 (by omega) (by omega) (fun y2 f2 y29 => ?_)
        rw [ej] at y29
        have R2 := OkC_sc (e' := skp t (rn leB t st.1)) C.1 Ry f2 y29
        have C2 := TxC_o C R2
        have kb := skp_b (t := t) (k := rn leB t st.1) (by omega) (by omega)
        refine ⟨cK C2.1 1 rfl rfl, ?_⟩
        rw [y29]
        unfold F_X5_word_184
        generalize hK : skp t (rn leB t st.1) = K at *
        refine o_byt C2 ?_
        by_cases c40 : bt t K = 40
        · rw [if_pos ((sb_i C2 (by decide) (by decide)).mpr c40)]
          rw [if_neg (not_not_intro c40)] at h rm gd
          have bK := bt_in (t := t) (k := K) (by omega)
          by_cases c20 : o < 20
          · rw [if_pos c20, w32e (x := K + 1) (by omega) (by omega), w32e (x := o + 1) (by omega) (by omega)]
            rw [if_neg (by omega)] at h rm gd
            rintro _ rfl
            have f3 : FrZ (WB b wSc) y2 (wI y2 (b 1) 9 (K + 1)) := FrZ_wI FrZ_rf (Or.inl (WB_i (by decide) (by decide)))
            have R3 := OkC_sc (e' := K + 1) C.1 R2 f3 (by rw [zI_wI, if_pos ⟨rfl, rfl⟩])
            have kb2 := skp_b (t := t) (k := K + 1) (by omega) (by omega)
            refine ⟨c, s, Nat.le_refl _, Nat.le_refl _, ?_⟩
            obtain ⟨M', rfl⟩ : ∃ M', M = M' + 1 := ⟨M - 1, by omega⟩
            show B_X5_args (F_X5_args M') (F_X5_atom M') (F_X5_bracketed M') (F_X5_expression M') (F_X5_signed M') (F_X5_word M') (b 1) op st.1 (o + 1) _ c s _
            unfold B_X5_args F_X5_args_12
            refine ⟨(t.2.1 - skp t (K + 1)).toNat + 3, ?_⟩
            exact HA op st.1 (o + 1) [] (skp t (K + 1), st.2) st.2.1 M' 0 0 hop ⟨by omega, by omega⟩ (by omega) ⟨[], by rw [List.append_nil]⟩ (ArI_0 ok.2) ⟨by show 0 ≤ skp t _; omega, kb2.2.1⟩ (by show (st.2.1.length : Int) ≤ skp t _; omega) (by show ((0 : Nat) : Int) ≤ skp t (K + 1); omega) ⟨Int.le_refl 0, by show 2 * (0 : Int) ≤ skp t (K + 1); omega⟩ CodP_0 gd _ c s P _ ⟨fun _ _ _ _ _ hh => hh, fun _ _ _ hh => hh⟩ ⟨J, K + 1, R3, rfl, by omega, by omega⟩ (RmC_le rm (by show st.1 ≤ skp t (K + 1); omega)) h _ (Nat.le_refl _)
          · rw [if_neg c20]
            rw [if_pos (by omega)] at h
            exact o_fail (t := t) C.1 R2 (by decide) ⟨by omega, by omega⟩ (by omega) (fun x F => h x F)
        · rw [if_neg (fun q => c40 ((sb_i C2 (by decide) (by decide)).mp q))]
          rw [if_pos c40] at h
          refine o_peo C2 ?_
          rw [y29]
          exact o_fail (t := t) C.1 R2 (by decide) ⟨by omega, by omega⟩ (by omega) (fun x F => h x F)
  by_cases ce : t.2.1 ≤ j
  · rw [if_pos ce]
    exact fin (by omega)
  · rw [if_neg ce]
    refine ⟨b 11, cO cy 1 0 11 (by decide), cK cy 11 rfl rfl, by omega, by rw [cN cy 11 (c := 400) rfl rfl]; omega, ?_⟩
    rw [sb_is Cy (by omega) (by omega)]
    refine o_let Cy (fun d => ?_) (fun d => ?_)
    · rw [if_neg (by decide), w32e (by omega) (by omega)]
      have jlt : j < rn leB t st.1 := by
        by_cases q : j < rn leB t st.1
        · exact q
        · have : j = rn leB t st.1 := by omega
          rw [this, rb0.2.2.1] at d
          cases d
      rintro _ rfl
      refine ih _ ⟨j + 1, OkC_sc (e' := j + 1) C.1 Ry (FrZ_wI FrZ_rf (Or.inl (WB_i (by decide) (by decide)))) (by rw [zI_wI, if_pos ⟨rfl, rfl⟩]), by omega, by omega⟩ (by rw [zI_wI, if_pos ⟨rfl, rfl⟩, y9]; omega)
    · rw [if_pos rfl]
      refine fin ?_
      by_cases q : j < rn leB t st.1
      · have := rb0.2.2.2 j j0 q
        rw [d] at this
        cases this
      · omega
/-- the bytes as the system sees them -/
def ssL (t : Tx) (a : Int) (n : Nat) : List Int := (List.range n).map (fun (j : Nat) => sbt t (a + (j : Int)))
theorem ssL_len {t : Tx} {a : Int} {n : Nat} : (ssL t a n).length = n := by unfold ssL; rw [List.length_map, List.length_range]
theorem ssL_at {t : Tx} {a : Int} {n j : Nat} (h : j < n) : (ssL t a n).getD j 0 = sbt t (a + j) := by
  unfold ssL
  rw [List.getD_eq_getElem?_getD, List.getElem?_map, List.getElem?_range h]; rfl
theorem o_brk {t : Tx} {S : SS} {b : Nat → Nat} {I J : Nat → Prop} {z0 z : Z} {n N : Nat} {o : Int} {st : PS} {c s : Nat} {P : Z → Prop} (E : EnC t S b I z0) (G : PgO t S (pg t S n)) (HE : CwE t S b I z0 n) (R : OkC b z0 I J z st.1 st.2.1 st.2.2) (ok : OkS t st) (hlen : (st.2.1.length : Int) ≤ st.1) (ho : 0 ≤ o ∧ o ≤ 20) (hN : 12 * (20 - o) + 4 ≤ (N : Int)) (h40 : bt t st.1 = 40) (gd : gdP (bBr t (pg t S n) o st)) (rm : RmC (bBr t (pg t S n) o st) t.2.1 st.1 c s) (h : ∀ y, PoC t b z0 I (bBr t (pg t S n) o st) y → P y) : F_X5_bracketed N (b 1) o z c s P := by
  have C := E.1
  have b3 := C.2.2.1
  have h0 := ok.1.1
  have bi := bt_in (t := t) (k := st.1) (by omega)
  have kb := skp_b (t := t) (k := st.1 + 1) (by omega) (by omega)
  have z9 := R.2.2.2.1.1
  obtain ⟨M, rfl⟩ : ∃ M, N = M + 1 := ⟨N - 1, by omega⟩
  show B_X5_bracketed (F_X5_args M) (F_X5_atom M) (F_X5_bracketed M) (F_X5_expression M) (F_X5_signed M) (F_X5_word M) (b 1) o z c s P
  unfold B_X5_bracketed
  unfold bBr at gd rm h
  by_cases c20 : o < 20
  · rw [if_pos c20]
    rw [if_neg (by omega)] at gd rm h
    refine ⟨cK (TxC_o C R).1 1 rfl rfl, ?_⟩
    rw [z9, w32e (x := st.1 + 1) (by omega) (by omega), w32e (x := o + 1) (by omega) (by omega)]
    rintro _ rfl
    have f1 : FrZ (WB b wSc) z (wI z (b 1) 9 (st.1 + 1)) := FrZ_wI FrZ_rf (Or.inl (WB_i (by decide) (by decide)))
    have R1 := OkC_sc (e' := st.1 + 1) C.1 R f1 (by rw [zI_wI, if_pos ⟨rfl, rfl⟩])
    refine ⟨c, s, Nat.le_refl _, Nat.le_refl _, ?_⟩
    generalize hr1 : (pg t S n).1 1 (o + 1) (skp t (st.1 + 1), st.2) = r1 at gd rm h
    have pos : ∀ s1, r1 = .inr s1 → PoS t S.2.1.1 st.2.1 (skp t (st.1 + 1), st.2) s1 ∧ skp t (st.1 + 1) < s1.1 := by
      intro s1 e
      rw [e] at hr1
      exact G.1 _ _ (skp t (st.1 + 1), st.2) s1 ⟨⟨by show 0 ≤ skp t _; omega, kb.2.1⟩, ok.2⟩ hr1
    have rm1 : RmC r1 t.2.1 (skp t (st.1 + 1)) c s := by
      cases hr : r1 with
      | inl e1 =>
        rw [hr] at rm
        exact RmC_le rm (by omega)
      | inr s1 =>
        rw [hr] at rm
        have q := pos s1 hr
        have q21 := q.1.2.1.1
        replace rm : RmC (if bt t s1.1 = 41 then .inr (skp t (s1.1 + 1), s1.2) else .inl (1, peo t s1.1)) t.2.1 st.1 c s := rm
        split at rm
        · next c41 =>
          have b1 := bt_in (t := t) (k := s1.1) (by omega)
          have kc := skp_b (t := t) (k := s1.1 + 1) (by omega) (by omega)
          have m1 : 3 * (skp t (s1.1 + 1) - st.1) ≤ (c : Int) := rm.1
          have m2 : 14 * (skp t (s1.1 + 1) - st.1) ≤ (s : Int) := rm.2
          exact ⟨by omega, by omega⟩
        · have m1 : 3 * (t.2.1 + 1 - st.1) ≤ (c : Int) := rm.1
          have m2 : 14 * (t.2.1 + 1 - st.1) ≤ (s : Int) := rm.2
          exact ⟨by omega, by omega⟩
    refine HE 1 (by omega) (by omega) (o + 1) (skp t (st.1 + 1), st.2) M ⟨by omega, by omega⟩ (by omega) (by show gdP ((pg t S n).1 1 _ _); rw [hr1]; exact gd_rb gd) _ _ _ _ ⟨⟨J, st.1 + 1, R1, rfl, by omega, by omega⟩, ⟨⟨by show 0 ≤ skp t _; omega, kb.2.1⟩, ok.2⟩, by show (st.2.1.length : Int) ≤ skp t _; omega⟩ (by show RmC ((pg t S n).1 1 _ _) _ _ _ _; rw [hr1]; exact rm1) (fun y hy => ?_)
    replace hy : PoC t b z0 I ((pg t S n).1 1 (o + 1) (skp t (st.1 + 1), st.2)) y := hy
    rw [hr1] at hy
    have fl : ∀ k p, FlC t b z0 I y k p → (∀ y5, FlC t b z0 I y5 k p → P y5) → (zK y (b 1) = 6 ∧ F_X5_skipBlanks (b 1) y (fun z_35 => (zK z_35 (b 1) = 6 ∧ F_X5_byteAt (b 1) (zI z_35 (b 1) 9) z_35 (fun x_43 => (if x_43 = 41 then (∀ z_68, z_68 = wI z_35 (b 1) 9 (w32 (zI z_35 (b 1) 9 + 1)) → P z_68) else F_X5_placeOrEnd (b 1) z_35 (fun x_54 => F_X5_fail (b 1) 1 x_54 z_35 (fun z_57 => P z_57))))))) := by
      intro k p F hp
      have Cy := TxC_l C F
      obtain ⟨J4, g1, g2, g3, g4⟩ := id F
      refine ⟨cK Cy.1 1 rfl rfl, o_skip Cy rfl g3.1 g3.2 (fun y5 f5 y59 => ?_)⟩
      have kc := skp_b (t := t) g3.1 g3.2
      have F5 := FlC_sc C.1 F f5 (by rw [y59]; omega)
      have C5 := TxC_l C F5
      refine ⟨cK C5.1 1 rfl rfl, o_byt C5 ?_⟩
      by_cases c41 : bt t (zI y5 (b 1) 9) = 41
      · rw [if_pos ((sb_i C5 (by decide) (by decide)).mpr c41)]
        have b5 := bt_in (t := t) (k := zI y5 (b 1) 9) (by omega)
        rw [w32e (by omega) (by omega)]
        rintro _ rfl
        exact hp _ (FlC_sc C.1 F5 (FrZ_wI FrZ_rf (Or.inl (WB_i (by decide) (by decide)))) (by rw [zI_wI, if_pos ⟨rfl, rfl⟩]; omega))
      · rw [if_neg (fun q => c41 ((sb_i C5 (by decide) (by decide)).mp q))]
        exact o_peo C5 (o_failF C5.1 (FlC_4 F5) (hp y5 F5))
    cases hr : r1 with
    | inl e1 =>
      rw [hr] at hy h
      exact fl e1.1 e1.2 hy (fun y5 F5 => h y5 F5)
    | inr s1 =>
      rw [hr] at hy h
      have q := pos s1 hr
      have q21 := q.1.2.1.1
      have c1 := q.1.2.2.1
      simp only at c1
      replace h : ∀ y, PoC t b z0 I (if bt t s1.1 = 41 then .inr (skp t (s1.1 + 1), s1.2) else .inl (1, peo t s1.1)) y → P y := h
      rcases hy with ⟨J3, e3, R3, he3, e30, e31⟩ | ⟨c58, F⟩
      · have C3 := TxC_o C R3
        refine ⟨cK C3.1 1 rfl rfl, o_skip C3 R3.2.2.2.1.1 e30 e31 (fun y4 f4 y49 => ?_)⟩
        rw [he3] at y49
        have R4 := OkC_sc (e' := s1.1) C.1 R3 f4 y49
        have C4 := TxC_o C R4
        refine ⟨cK C4.1 1 rfl rfl, ?_⟩
        rw [y49]
        refine o_byt C4 ?_
        by_cases c41 : bt t s1.1 = 41
        · rw [if_pos ((sb_i C4 (by decide) (by decide)).mpr c41), w32e (by omega) (by omega)]
          rw [if_pos c41] at h
          have b1 := bt_in (t := t) (k := s1.1) (by omega)
          rintro _ rfl
          have f5 : FrZ (WB b wSc) y4 (wI y4 (b 1) 9 (s1.1 + 1)) := FrZ_wI FrZ_rf (Or.inl (WB_i (by decide) (by decide)))
          exact h _ (Or.inl ⟨J3, s1.1 + 1, OkC_sc (e' := s1.1 + 1) C.1 R4 f5 (by rw [zI_wI, if_pos ⟨rfl, rfl⟩]), rfl, by omega, by omega⟩)
        · rw [if_neg (fun q => c41 ((sb_i C4 (by decide) (by decide)).mp q))]
          rw [if_neg c41] at h
          refine o_peo C4 ?_
          rw [y49]
          exact o_fail (t := t) C.1 R4 (by decide) ⟨by omega, q21⟩ (by omega) (fun y5 F5 => h y5 F5)
      · rw [if_neg (by omega)] at h
        have b1 := bt_in (t := t) (k := s1.1) (by omega)
        have ep : peo t s1.1 = s1.1 := by unfold peo; rw [if_pos b1.2]
        rw [ep] at h
        exact fl 1 s1.1 F (fun y5 F5 => h y5 F5)
  · rw [if_neg c20]
    rw [if_pos (by omega)] at h
    refine ⟨cK (TxC_o C R).1 1 rfl rfl, ?_⟩
    rw [z9]
    exact o_fail (t := t) C.1 R (by decide) ⟨h0, by omega⟩ (by omega) (fun x F => h x F)
theorem o_atm {t : Tx} {S : SS} {b : Nat → Nat} {I J : Nat → Prop} {z0 z : Z} {n N : Nat} {o : Int} {st : PS} {c s : Nat} {P : Z → Prop} (E : EnC t S b I z0) (G : PgO t S (pg t S n)) (HE : CwE t S b I z0 n) (HA : CwA t S b I z0 n) (R : OkC b z0 I J z st.1 st.2.1 st.2.2) (ok : OkS t st) (hlen : (st.2.1.length : Int) ≤ st.1) (ho : 0 ≤ o ∧ o ≤ 20) (hN : 12 * (20 - o) + 5 ≤ (N : Int)) (gd : gdP (bAt t S (pg t S n) o st)) (rm : RmC (bAt t S (pg t S n) o st) t.2.1 st.1 c s) (h : ∀ y, PoC t b z0 I (bAt t S (pg t S n) o st) y → P y) : F_X5_atom N (b 1) o z c s P := by
  have C := E.1
  have b3 := C.2.2.1
  have h0 := ok.1.1
  have h1 := ok.1.2
  have z9 := R.2.2.2.1.1
  have Cz := TxC_o C R
  obtain ⟨M, rfl⟩ : ∃ M, N = M + 1 := ⟨N - 1, by omega⟩
  show B_X5_atom (F_X5_args M) (F_X5_atom M) (F_X5_bracketed M) (F_X5_expression M) (F_X5_signed M) (F_X5_word M) (b 1) o z c s P
  unfold B_X5_atom F_X5_atom_150
  refine ⟨cK Cz.1 1 rfl rfl, ?_⟩
  rw [z9]
  refine o_byt Cz ?_
  unfold bAt at gd rm h
  refine o_dig Cz (fun d => ?_) (fun d => ?_)
  · rw [if_neg (by decide)]
    rw [if_pos d] at rm h
    exact ⟨c, s, Nat.le_refl _, Nat.le_refl _, o_num C R h0 hlen d rm h⟩
  · rw [if_pos rfl]
    rw [if_neg (by rw [d]; decide)] at gd rm h
    by_cases c34 : bt t st.1 = 34
    · rw [if_pos ((sb_i Cz (by decide) (by decide)).mpr c34)]
      rw [if_pos c34] at rm h
      exact ⟨c, s, Nat.le_refl _, Nat.le_refl _, o_quo C R h0 hlen c34 rm h⟩
    rw [if_neg (fun q => c34 ((sb_i Cz (by decide) (by decide)).mp q))]
    rw [if_neg c34] at gd rm h
    have a94 : ¬ refP t st.1 → F_X5_atom_94 (F_X5_args M) (F_X5_atom M) (F_X5_bracketed M) (F_X5_expression M) (F_X5_signed M) (F_X5_word M) (b 1) o (sbt t st.1) z c s P := by
      intro nr
      rw [if_neg nr] at gd rm h
      unfold F_X5_atom_94 F_X5_atom_150
      by_cases c40 : bt t st.1 = 40
      · rw [if_pos ((sb_i Cz (by decide) (by decide)).mpr c40)]
        rw [if_pos c40] at gd rm h
        exact ⟨cK Cz.1 1 rfl rfl, c, s, Nat.le_refl _, Nat.le_refl _, o_brk E G HE R ok hlen ho (by omega) c40 gd rm h⟩
      rw [if_neg (fun q => c40 ((sb_i Cz (by decide) (by decide)).mp q))]
      rw [if_neg c40] at gd rm h
      refine ⟨cK Cz.1 1 rfl rfl, ?_⟩
      rw [z9]
      refine o_crn Cz h0 (by omega) (fun cr y2 f2 g13 g14 g15 g16 => ?_) (fun cr y2 f2 => ?_)
      · rw [if_neg (by decide)]
        rw [if_pos cr] at rm h
        have R2 := OkC_sc (e' := st.1) C.1 R (WB_s (by decide) f2) ((bB Cz.1 f2 (R := [(1, some 9)]) (by decide) (by decide) (wHas_i (by decide))).1.trans z9)
        refine ⟨cK (TxC_o C R2).1 1 rfl rfl, c, s, Nat.le_refl _, Nat.le_refl _, o_spot E R2 hlen cr g13 g14 g15 g16 ?_ h⟩
        have cb := crP_b cr
        unfold pSpot at rm
        split at rm
        · have m1 : 3 * (t.2.1 + 1 - st.1) ≤ (c : Int) := rm.1
          have m2 : 14 * (t.2.1 + 1 - st.1) ≤ (s : Int) := rm.2
          omega
        · next v e hv =>
          have vb := vrP_b (by omega) cb.2.2.1 hv
          have sk := skp_b (t := t) (k := e) (by omega) vb.2.2.1
          have e1 : (plcA S 16 v (crR t st.1) (crC t st.1) (crR t st.1) (crC t st.1) (5 * crF t st.1) st.1 (skp t e) st).1 = skp t e := by unfold plcA; split <;> rfl
          have m1 := rm.1
          have m2 := rm.2
          rw [e1] at m1 m2
          omega
      · rw [if_pos rfl]
        rw [if_neg cr] at gd rm h
        have R2 := OkC_sc (e' := st.1) C.1 R (WB_s (by decide) f2) ((bB Cz.1 f2 (R := [(1, some 9)]) (by decide) (by decide) (wHas_i (by decide))).1.trans z9)
        have C2 := TxC_o C R2
        refine o_let C2 (fun le => ?_) (fun le => ?_)
        · rw [if_neg (by decide)]
          rw [if_pos le] at gd rm h
          exact ⟨cK C2.1 1 rfl rfl, c, s, Nat.le_refl _, Nat.le_refl _, o_word2 E HA R2 ok hlen ho (by omega) le gd rm h⟩
        · rw [if_pos rfl]
          rw [if_neg (by rw [le]; decide)] at h
          refine ⟨cK C2.1 1 rfl rfl, o_peo C2 ?_⟩
          rw [R2.2.2.2.1.1]
          exact o_fail (t := t) C.1 R2 (by decide) ⟨h0, h1⟩ (by omega) (fun x F => h x F)
    by_cases c35 : bt t st.1 = 35
    · rw [if_pos ((sb_i Cz (by decide) (by decide)).mpr c35)]
      have bi := bt_in (t := t) (k := st.1) (by omega)
      rw [cO Cz.1 1 0 11 (by decide), w32e (x := st.1 + 1) (by omega) (by omega), w32e (x := st.1 + 4) (by omega) (by omega), Cz.2.1.2]
      have Bt : BtC z (b 11) (st.1 + 1) (ssL t (st.1 + 1) (min (st.1 + 4) t.2.1 - (st.1 + 1)).toNat) := by
        refine ⟨cK Cz.1 11 rfl rfl, by omega, by rw [ssL_len, cN Cz.1 11 (c := 400) rfl rfl]; omega, fun i hi => ?_⟩
        rw [ssL_len] at hi
        rw [ssL_at hi, sb_is Cz (by omega) (by omega)]
      refine o_isWord Bt (by rw [ssL_len]; omega) (by omega) (by decide) (fun w' => ?_) (fun w' => ?_)
      · rw [if_neg (by decide)]
        have rp : refP t st.1 := by
          have len := congrArg List.length w'
          rw [ssL_len, sL_01.2.2.2.2] at len
          have n3 : (min (st.1 + 4) t.2.1 - (st.1 + 1)).toNat = 3 := len
          have g : ∀ i : Nat, i < 3 → sbt t (st.1 + 1 + i) = ([82, 69, 70] : List Int).getD i 0 := fun i hi => by
            rw [← ssL_at (n := (min (st.1 + 4) t.2.1 - (st.1 + 1)).toNat) (by omega), w', sL_01.2.2.2.2]
          have g0 := g 0 (by decide)
          have g1 := g 1 (by decide)
          have g2 := g 2 (by decide)
          rw [show st.1 + 1 + ((0 : Nat) : Int) = st.1 + 1 by omega] at g0
          rw [show st.1 + 1 + ((1 : Nat) : Int) = st.1 + 2 by omega] at g1
          rw [show st.1 + 1 + ((2 : Nat) : Int) = st.1 + 3 by omega] at g2
          exact ⟨c35, (sb_i Cz (by decide) (by decide)).mp g0, (sb_i Cz (by decide) (by decide)).mp g1, (sb_i Cz (by decide) (by decide)).mp g2⟩
        rw [if_pos rp] at rm h
        have b4 := bt_in (t := t) (k := st.1 + 3) (by have := rp.2.2.2; omega)
        rintro _ rfl
        have f1 : FrZ (WB b wSc) z (wI z (b 1) 9 (st.1 + 4)) := FrZ_wI FrZ_rf (Or.inl (WB_i (by decide) (by decide)))
        have R1 := OkC_sc (e' := st.1 + 4) C.1 R f1 (by rw [zI_wI, if_pos ⟨rfl, rfl⟩])
        have sk := skp_b (t := t) (k := st.1 + 4) (by omega) (by omega)
        have m1 : 3 * (skp t (st.1 + 4) - st.1) ≤ (c : Int) := rm.1
        have m2 : 14 * (skp t (st.1 + 4) - st.1) ≤ (s : Int) := rm.2
        refine ⟨c, s, Nat.le_refl _, Nat.le_refl _, ?_⟩
        exact o_add (lo := none) (J1 := J) C R1 (by omega) (by omega) (by omega) (fun _ j => j) (fun _ j => Or.inl j) rfl (fun y J2 R2 => h y (Or.inl ⟨J2, st.1 + 4, R2, rfl, by omega, by omega⟩))
      · rw [if_pos rfl]
        refine a94 (fun rp => w' ?_)
        have b4 := bt_in (t := t) (k := st.1 + 3) (by have := rp.2.2.2; omega)
        rw [sL_01.2.2.2.2, show (min (st.1 + 4) t.2.1 - (st.1 + 1)).toNat = 3 by omega]
        have e : ssL t (st.1 + 1) 3 = [sbt t (st.1 + 1 + (0 : Nat)), sbt t (st.1 + 1 + (1 : Nat)), sbt t (st.1 + 1 + (2 : Nat))] := rfl
        rw [e, show st.1 + 1 + ((0 : Nat) : Int) = st.1 + 1 by omega, show st.1 + 1 + ((1 : Nat) : Int) = st.1 + 2 by omega, show st.1 + 1 + ((2 : Nat) : Int) = st.1 + 3 by omega, (sb_i Cz (by decide) (by decide)).mpr rp.2.1, (sb_i Cz (by decide) (by decide)).mpr rp.2.2.1, (sb_i Cz (by decide) (by decide)).mpr rp.2.2.2]
    · rw [if_neg (fun q => c35 ((sb_i Cz (by decide) (by decide)).mp q))]
      exact a94 (fun rp => c35 rp.1)
theorem CwS_s {t : Tx} {S : SS} {b : Nat → Nat} {I : Nat → Prop} {z0 : Z} {n : Nat} (E : EnC t S b I z0) (G : PgO t S (pg t S n)) (HE : CwE t S b I z0 n) (HS : CwS t S b I z0 n) (HA : CwA t S b I z0 n) : CwS t S b I z0 (n + 1) := by
  intro o st N ho hN gd z c s P R rm h
  have C := E.1
  have b3 := C.2.2.1
  have er : (pg t S (n + 1)).2.1 o st = bSg t S (pg t S n) o st := rfl
  rw [er] at gd rm h
  unfold bSg at gd rm h
  obtain ⟨⟨J, e, Rz, he, e0, e1⟩, ok, hlen⟩ := R
  have h0 := ok.1.1
  have h1 := ok.1.2
  obtain ⟨M, rfl⟩ : ∃ M, N = M + 1 := ⟨N - 1, by omega⟩
  show B_X5_signed (F_X5_args M) (F_X5_atom M) (F_X5_bracketed M) (F_X5_expression M) (F_X5_signed M) (F_X5_word M) (b 1) o z c s P
  unfold B_X5_signed F_X5_signed_68
  refine ⟨cK (TxC_o C Rz).1 1 rfl rfl, o_skip (TxC_o C Rz) Rz.2.2.2.1.1 e0 e1 (fun y fy y9 => ?_)⟩
  rw [he] at y9
  have Ry := OkC_sc (e' := st.1) C.1 Rz fy y9
  have Cy := TxC_o C Ry
  refine ⟨cK Cy.1 1 rfl rfl, ?_⟩
  rw [y9]
  refine o_byt Cy ?_
  by_cases c45 : bt t st.1 = 45
  · rw [if_pos ((sb_i Cy (by decide) (by decide)).mpr c45)]
    rw [if_pos c45] at gd rm h
    have bi := bt_in (t := t) (k := st.1) (by omega)
    have kb := skp_b (t := t) (k := st.1 + 1) (by omega) (by omega)
    by_cases c20 : o < 20
    · rw [if_pos c20, w32e (x := st.1 + 1) (by omega) (by omega), w32e (x := o + 1) (by omega) (by omega)]
      rw [if_neg (by omega)] at gd rm h
      rintro _ rfl
      have f1 : FrZ (WB b wSc) y (wI y (b 1) 9 (st.1 + 1)) := FrZ_wI FrZ_rf (Or.inl (WB_i (by decide) (by decide)))
      have R1 := OkC_sc (e' := st.1 + 1) C.1 Ry f1 (by rw [zI_wI, if_pos ⟨rfl, rfl⟩])
      generalize hr1 : (pg t S n).2.1 (o + 1) (skp t (st.1 + 1), st.2) = r1 at gd rm h
      have pos : ∀ s1, r1 = .inr s1 → PoS t S.2.1.1 st.2.1 (skp t (st.1 + 1), st.2) s1 ∧ skp t (st.1 + 1) < s1.1 := by
        intro s1 e
        rw [e] at hr1
        exact G.2.1 _ (skp t (st.1 + 1), st.2) s1 ⟨⟨by show 0 ≤ skp t _; omega, kb.2.1⟩, ok.2⟩ hr1
      have rmA : RmC r1 t.2.1 (skp t (st.1 + 1)) c s ∧ (bgC r1 (skp t (st.1 + 1)) c ≤ c ∧ bgS r1 (skp t (st.1 + 1)) s ≤ s) := by
        cases hr : r1 with
        | inl e1 =>
          rw [hr] at rm
          exact ⟨RmC_le rm (by omega), Nat.le_refl _, Nat.le_refl _⟩
        | inr s1 =>
          rw [hr] at rm
          have q := (pos s1 hr).2
          have m1 : 3 * (s1.1 - st.1) ≤ (c : Int) := rm.1
          have m2 : 14 * (s1.1 - st.1) ≤ (s : Int) := rm.2
          exact ⟨⟨by omega, by omega⟩, by show (3 * (s1.1 - skp t (st.1 + 1))).toNat ≤ c; omega, by show (14 * (s1.1 - skp t (st.1 + 1))).toNat ≤ s; omega⟩
      refine ⟨bgC r1 (skp t (st.1 + 1)) c, bgS r1 (skp t (st.1 + 1)) s, rmA.2.1, rmA.2.2, ?_⟩
      refine HS (o + 1) (skp t (st.1 + 1), st.2) M ⟨by omega, by omega⟩ (by omega) (by rw [hr1]; exact gd_rb gd) _ _ _ _ ⟨⟨J, st.1 + 1, R1, rfl, by omega, by omega⟩, ⟨⟨by show 0 ≤ skp t _; omega, kb.2.1⟩, ok.2⟩, by show (st.2.1.length : Int) ≤ skp t _; omega⟩ (by rw [hr1]; exact rm_bg rmA.1) (fun y2 hy2 => ?_)
      rw [hr1] at hy2
      refine ⟨cK (z6_o E hy2) 1 rfl rfl, ?_⟩
      cases hr : r1 with
      | inl e1 =>
        rw [hr] at hy2 h
        exact ⟨0, 0, Nat.zero_le _, Nat.zero_le _, o_addF (TxC_l C hy2).1 (FlC_4 hy2) (h y2 hy2)⟩
      | inr s1 =>
        rw [hr] at hy2 h rm
        have q := pos s1 hr
        have q21 := q.1.2.1.1
        have c1 := q.1.2.2.1
        simp only at c1
        have m1 : 3 * (s1.1 - st.1) ≤ (c : Int) := rm.1
        have m2 : 14 * (s1.1 - st.1) ≤ (s : Int) := rm.2
        refine ⟨1, 9, ?_, ?_, o_opA E hy2 (by omega) (Nat.le_refl _) (Nat.le_refl _) (fun y3 hy3 => h y3 hy3)⟩
        · show 1 ≤ c - (3 * (s1.1 - skp t (st.1 + 1))).toNat
          omega
        · show 9 ≤ s - (14 * (s1.1 - skp t (st.1 + 1))).toNat
          omega
    · rw [if_neg c20]
      rw [if_pos (by omega)] at h
      exact o_fail (t := t) C.1 Ry (by decide) ⟨h0, h1⟩ (by omega) (fun x F => h x F)
  · rw [if_neg (fun q => c45 ((sb_i Cy (by decide) (by decide)).mp q))]
    rw [if_neg c45] at gd rm h
    exact ⟨c, s, Nat.le_refl _, Nat.le_refl _, o_atm E G HE HA Ry ok hlen ho (by omega) gd rm h⟩
theorem CRows {t : Tx} {S : SS} {b : Nat → Nat} {I : Nat → Prop} {z0 : Z} (E : EnC t S b I z0) (hI : ∀ v, isShP v S → IdS (shOf v S)) : ∀ n, CwE t S b I z0 n ∧ CwS t S b I z0 n ∧ CwL t S b I z0 n ∧ CwA t S b I z0 n
  | 0 => by
    refine ⟨?_, ?_, ?_, ?_⟩
    · intro l _ _ o st N _ _ gd
      exact absurd (gd (0, 0) rfl) (by decide)
    · intro o st N _ _ gd
      exact absurd (gd (0, 0) rfl) (by decide)
    · intro l _ _ o f st ps0 N x4 _ _ _ _ _ gd
      exact absurd (gd (0, 0) rfl) (by decide)
    · intro op fr o cs st ps0 N x4 x7 _ _ _ _ _ _ _ _ _ _ gd
      exact absurd (gd (0, 0) rfl) (by decide)
  | n + 1 => by
    have G := pg_ok (t := t) (S := S) hI (by have := E.2.2.2.1.2; omega) n
    obtain ⟨h1, h2, h3, h4⟩ := CRows E hI n
    exact ⟨CwE_s E G h2 h3, CwS_s E G h1 h2 h4, CwL_s E G h1 h3, CwA_s E hI G h1 h4⟩
