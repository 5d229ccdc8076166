/-! ===== the reference's rows of the parser ===== -/
def bdA (N : Nat) (op fr : Int) : Int × Int × Int × Mu → ((Int × Int × Int × Mu) ⊕ (Int × Int × Mu) → Prop) → Prop := fun q P_ => L_X12_readCall_44 (F_X12_readAtom N) (F_X12_readCall N) (F_X12_readChain N) (F_X12_readProduct N) (F_X12_readSign N) (F_X12_readSum N) (F_X12_readTest N) (F_X12_readWord N) op fr q.1 q.2.1 q.2.2.1 q.2.2.2 P_
def endA (N : Nat) (op fr : Int) (P : Mu → Prop) : Int × Int × Mu → Prop := fun e => F_X12_readCall_153 (F_X12_readAtom N) (F_X12_readCall N) (F_X12_readChain N) (F_X12_readProduct N) (F_X12_readSign N) (F_X12_readSum N) (F_X12_readTest N) (F_X12_readWord N) op fr e.1 e.2.1 e.2.2 P
theorem bdA_i {N : Nat} {op fr x3 x4 x5 : Int} {u : Mu} {Q : (Int × Int × Int × Mu) ⊕ (Int × Int × Mu) → Prop} (h : L_X12_readCall_44 (F_X12_readAtom N) (F_X12_readCall N) (F_X12_readChain N) (F_X12_readProduct N) (F_X12_readSign N) (F_X12_readSum N) (F_X12_readTest N) (F_X12_readWord N) op fr x3 x4 x5 u Q) : bdA N op fr (x3, x4, x5, u) Q := h
theorem endA_i {N : Nat} {op fr x3 x4 : Int} {u : Mu} {P : Mu → Prop} (h : F_X12_readCall_153 (F_X12_readAtom N) (F_X12_readCall N) (F_X12_readChain N) (F_X12_readProduct N) (F_X12_readSign N) (F_X12_readSum N) (F_X12_readTest N) (F_X12_readWord N) op fr x3 x4 u P) : endA N op fr P (x3, x4, u) := h
def stA (op : Int) (cs : List Int) : Prop := ∀ k : Nat, k < cs.length → stdP op k (cs.getD k 0)
def flA (op : Int) (cs : List Int) (x : Int) : Prop := (x = 1 ∧ stA op cs) ∨ (x = 0 ∧ ¬ stA op cs)
def RowA (t : Tx) (S : SS) (u0 : Mu) (n : Nat) : Prop := ∀ (op fr : Int) (d : Prop) (o : Int) (cs : List Int) (st : PS) (ps0 : List Prt) (N : Nat), (18 ≤ op ∧ op ≤ 35) → (1 ≤ o ∧ o ≤ 20) → 10 * (20 - o) + 8 ≤ (N : Int) → (∃ as, st.2.1 = ps0 ++ as) → ArI ps0.length cs st.2.1 → (0 ≤ st.1 ∧ st.1 ≤ t.2.1) → (st.2.1.length : Int) ≤ st.1 → (cs.length : Int) ≤ st.1 → gdP ((pg t S n).2.2.2 op fr o cs st) → ∀ u P k0 x4, PmR u0 u (d ∨ (isRC op ∧ cs ≠ [])) o 0 k0 st.2.1 st.2.2 → TkM t u k0 → (bt t k0 = 40 ∨ bt t k0 = 44) → st.1 = skp t (k0 + 1) → flA op cs x4 → (∀ v, PoR t u0 d (o - 1) ((pg t S n).2.2.2 op fr o cs st) v → P v) → ∀ cnt, (t.2.1 - st.1).toNat + 3 ≤ cnt → itr (bdA N (op + 12) fr) (endA N (op + 12) fr P) cnt ((cs.length : Int), x4, 1, u)
theorem kM_c {op n : Int} (h : 18 ≤ op ∧ op ≤ 35) : op + 12 = kM (opP op n) := by
  unfold kM
  show op + 12 = if op = 14 then 0 else if op = 15 then 4 else if op = 16 then 5 else if op = 17 then 6 else if op = 13 then 7 else if op ≤ 12 then op + 9 else op + 12
  rw [if_neg (by omega), if_neg (by omega), if_neg (by omega), if_neg (by omega), if_neg (by omega), if_neg (by omega)]
theorem stA_s {op : Int} {cs : List Int} {c : Int} : stA op (cs ++ [c]) ↔ stA op cs ∧ stdP op cs.length c := by
  unfold stA
  constructor
  · intro h
    refine ⟨fun k hk => ?_, ?_⟩
    · have := h k (by rw [List.length_append]; omega)
      rw [gA_l hk] at this; exact this
    · have := h cs.length (by rw [List.length_append, List.length_singleton]; omega)
      rw [gA_r (Nat.le_refl _), Nat.sub_self] at this; exact this
  · rintro ⟨h1, h2⟩ k hk
    rw [List.length_append, List.length_singleton] at hk
    by_cases c' : k < cs.length
    · rw [gA_l c']; exact h1 k c'
    · have : k = cs.length := by omega
      subst this
      rw [gA_r (Nat.le_refl _), Nat.sub_self]; exact h2
theorem i_shutF {u : Mu} {P : Mu → Prop} (h : 0 < mI u 0 41) (hp : P u) : F_X12_readShut u P := by
  unfold F_X12_readShut
  rw [if_neg (by omega)]; exact hp
theorem endA_F {N : Nat} {op fr x3 x4 : Int} {u : Mu} {P : Mu → Prop} (h : 0 < mI u 0 41) (hp : P u) : endA N op fr P (x3, x4, u) := by
  unfold endA F_X12_readCall_153
  refine i_shutF h ?_
  rw [if_neg (by show ¬ mI u 0 41 ≤ 0; omega)]; exact hp
/-- a bracket that shuts -/
theorem i_shut {t : Tx} {S : SS} {u0 u : Mu} {d : Prop} {o nl : Int} {s : PS} {P : Mu → Prop} (E : EnP t S u0) (R : PmR u0 u d o nl s.1 s.2.1 s.2.2) (T : TkM t u s.1) (h0 : 0 ≤ s.1) (h1 : s.1 ≤ t.2.1) (hn : bt t s.1 ≠ 41 → ∀ v, FlM u0 v 1 (peo t s.1) t.2.1 → P v) (hy : bt t s.1 = 41 → ∀ v, PmR u0 v d (o - 1) nl (skp t (s.1 + 1)) s.2.1 s.2.2 → TkM t v (skp t (s.1 + 1)) → P v) (ho : 0 ≤ o ∧ o ≤ 20) : F_X12_readShut u P := by
  have b3 := E.1.2.1
  have e41 := R.2.1.1
  unfold F_X12_readShut
  rw [if_pos (by omega), T.1.2.1]
  by_cases c : bt t s.1 = 41
  · have bi := (bt_in (t := t) (k := s.1) (by omega)).2
    have k49 : mI u 0 49 = s.1 + 1 := by
      have kx := T.2
      rw [tk_7 c] at kx
      exact kx.2.2.2.2.2.1 (Or.inr (Or.inl rfl))
    rw [if_pos (tk_7 c), R.2.1.2.2.2, w32e (by omega) (by omega)]
    rintro _ rfl
    have f : FrM [(0, some 57)] u (uI u 0 57 (o - 1)) := FrM_uI FrM_rf (wHas_i (by decide))
    have R2 : PmR u0 (uI u 0 57 (o - 1)) d (o - 1) nl s.1 s.2.1 s.2.2 := PmR_fr R f (by decide) (by decide) (Int.le_refl _) (by simp [mI_uI]) ⟨(mE f (R := [(0, some 58)]) (by decide) (wHas_i (by decide))).trans R.2.2.2.1.1, fun n => (mE f (R := [(0, some 59)]) (by decide) (wHas_i (by decide))).trans (R.2.2.2.1.2 n)⟩ (fun a b => ⟨a, b⟩)
    exact i_nx E R2 (e := s.1 + 1) (by rw [mE f (R := [(0, some 46)]) (by decide) (wHas_i (by decide)), T.1.1, k49]) (by omega) (by omega) (by omega) (hy c)
  · rw [if_neg (fun e => c (tk_i.2.2.2.2.2.2.2.1 e)), T.1.2.2]
    exact i_fail R (by decide) h1 (fun v f => hn c v f)
theorem RowA_s {t : Tx} {S : SS} {u0 : Mu} {n : Nat} (E : EnP t S u0) (hI : ∀ v, isShP v S → IdS (shOf v S)) (G : PgO t S (pg t S n)) (HE : RowE t S u0 n) (HA : RowA t S u0 n) : RowA t S u0 (n + 1) := by
  intro op fr d o cs st ps0 N hop ho hN hps ha hst hlen hcs gd u P k0 x4 R T hb hk0 hx h cnt hcnt
  have b3 := E.1.2.1
  have B := E.2.1
  have er : (pg t S (n + 1)).2.2.2 op fr o cs st = bAr t S (pg t S n) op fr o cs st := rfl
  rw [er] at gd h
  unfold bAr at gd h
  generalize hr1 : (if crP t st.1 ∧ bt t (crE t st.1) = 58 then pArea t S st else (pg t S n).1 1 o st) = r1 at gd h
  have gd1 : gdP r1 := gd_rb gd
  have pos : ∀ s1, r1 = .inr s1 → PoT t S.2.1.1 st.2.1 st s1 ∧ st.1 < s1.1 := by
    intro s1 e
    rw [e] at hr1
    split at hr1
    · next c =>
      have := pArea_f ⟨hst, ha.1⟩ hI c.1 hr1
      exact ⟨this.1, this.2.2⟩
    · have := G.1 _ _ _ _ ⟨hst, ha.1⟩ hr1
      exact ⟨PoS_T this.1, this.2⟩
  have bi := (bt_in (t := t) (k := k0) (by omega))
  have k49 : mI u 0 49 = k0 + 1 := by
    have kx := T.2
    rcases hb with c | c
    · rw [tk_6 c] at kx; exact kx.2.2.2.2.2.1 (Or.inl rfl)
    · rw [tk_8 c] at kx; exact kx.2.2.2.2.2.1 (Or.inr (Or.inr rfl))
  cases cnt with
  | zero => omega
  | succ cnt =>
  show bdA N (op + 12) fr ((cs.length : Int), x4, 1, u) _
  refine bdA_i ?_
  unfold L_X12_readCall_44 F_X12_readCall_88
  rw [if_neg (by decide), if_pos R.2.1.1]
  refine i_nx E R (e := k0 + 1) (T.1.1.trans k49) (by omega) (by omega) (by omega) (fun v0 R0 T0 => ?_)
  rw [← hk0] at R0 T0
  have P0 : PrP t u0 v0 (d ∨ (isRC op ∧ cs ≠ [])) o st := ⟨R0, T0, ⟨hst, ha.1⟩, hlen⟩
  have C1 : ∀ (Q : (Int × Int × Int × Mu) ⊕ (Int × Int × Mu) → Prop), (∀ s', itr (bdA N (op + 12) fr) (endA N (op + 12) fr P) cnt s' → Q (.inl s')) → ∀ v, PoR t u0 (d ∨ (isRC op ∧ cs ≠ [])) o r1 v → F_X12_readCall_92 (F_X12_readAtom N) (F_X12_readCall N) (F_X12_readChain N) (F_X12_readProduct N) (F_X12_readSign N) (F_X12_readSum N) (F_X12_readTest N) (F_X12_readWord N) (op + 12) fr (cs.length : Int) x4 1 v Q := by
    intro Q hQ v hv
    unfold F_X12_readCall_92 F_X12_readCall_128 F_X12_readCall_129 F_X12_readCall_148
    cases hr : r1 with
    | inl e =>
      rw [hr] at hv gd h
      have fv : 0 < mI v 0 41 := by have := hv.2.1; omega
      rw [if_neg (by omega)]
      refine hQ _ ?_
      cases cnt with
      | zero => omega
      | succ cnt =>
        show bdA N (op + 12) fr ((cs.length : Int), x4, 1, v) _
        refine bdA_i ?_
        unfold L_X12_readCall_44
        rw [if_neg (by decide), if_neg (by omega)]
        exact endA_F fv (h v hv)
    | inr s1 =>
      rw [hr] at hv gd h
      obtain ⟨q1, q2⟩ := pos s1 hr
      obtain ⟨Rv, Tv⟩ := hv
      have sp1 := Seg_p q1.1
      have c2 := q1.2.2.1
      have s1e := q1.2.1.1
      have ha1 := ArI_s ha q1.1
      obtain ⟨as, has⟩ := id hps
      obtain ⟨rs, e1, e2, e3, e4⟩ := id q1.1
      have hp1 : s1.2.1 = ps0 ++ (as ++ rs) := by rw [e1, has, List.append_assoc]
      have nn : cs ++ [lastO s1.2.1] ≠ [] := by simp
      have hM := B.1
      have e25 : mI v 0 25 = mI u0 0 25 := mE Rv.1.1 (R := [(0, some 25)]) (by decide) (wHas_i (by decide))
      rw [if_pos Rv.2.1.1]
      replace h : ∀ v, PoR t u0 d (o - 1) (if bt t s1.1 = 44 then (pg t S n).2.2.2 op fr o (cs ++ [lastO s1.2.1]) (skp t (s1.1 + 1), s1.2) else if bt t s1.1 = 41 then .inr (bArE t op fr (cs ++ [lastO s1.2.1]) s1) else .inl (1, peo t s1.1)) v → P v := h
      replace gd : gdP (if bt t s1.1 = 44 then (pg t S n).2.2.2 op fr o (cs ++ [lastO s1.2.1]) (skp t (s1.1 + 1), s1.2) else if bt t s1.1 = 41 then .inr (bArE t op fr (cs ++ [lastO s1.2.1]) s1) else .inl (1, peo t s1.1)) := gd
      have C2 : ∀ v2 x4', PmR u0 v2 (d ∨ ¬ fitP op (cs ++ [lastO s1.2.1])) o (if (op = 29 ∨ op = 30) ∧ lastO s1.2.1 = 16 then op else 0) s1.1 s1.2.1 s1.2.2 ∨ (PmR u0 v2 (d ∨ ¬ fitP op (cs ++ [lastO s1.2.1])) o 0 s1.1 s1.2.1 s1.2.2 ∧ (¬ isRC op ∨ lastO s1.2.1 ≠ 16 ∨ ¬ fitP op (cs ++ [lastO s1.2.1]))) → PmR u0 v2 (d ∨ (isRC op ∧ cs ++ [lastO s1.2.1] ≠ [])) o 0 s1.1 s1.2.1 s1.2.2 → TkM t v2 s1.1 → flA op (cs ++ [lastO s1.2.1]) x4' → (if mI v2 0 47 = 8 then Q (.inl (w32 ((cs.length : Int) + 1), x4', 1, v2)) else Q (.inl (w32 ((cs.length : Int) + 1), x4', 0, v2))) := by
        intro v2 x4' Rfit Rcom T2 fx
        have el : w32 ((cs.length : Int) + 1) = ((cs ++ [lastO s1.2.1]).length : Int) := by rw [w32e (by omega) (by omega), List.length_append, List.length_singleton]; omega
        rw [el, T2.1.2.1]
        have cl : ((cs ++ [lastO s1.2.1]).length : Int) = cs.length + 1 := by rw [List.length_append, List.length_singleton]; omega
        by_cases c44 : bt t s1.1 = 44
        · rw [if_pos (tk_8 c44)]
          rw [if_pos c44] at h gd
          have b1 := (bt_in (t := t) (k := s1.1) (by omega)).2
          have kb := skp_b (t := t) (k := s1.1 + 1) (by omega) (by omega)
          refine hQ _ (HA op fr d o _ (skp t (s1.1 + 1), s1.2) ps0 N hop ho hN ⟨_, hp1⟩ ha1 ⟨by show 0 ≤ skp t _; omega, kb.2.1⟩ (by show (s1.2.1.length : Int) ≤ skp t _; omega) (by show _ ≤ skp t (s1.1 + 1); omega) gd v2 P s1.1 x4' Rcom T2 (Or.inr c44) rfl fx h cnt ?_)
          show (t.2.1 - skp t (s1.1 + 1)).toNat + 3 ≤ cnt
          omega
        · rw [if_neg (fun e => c44 (tk_i.2.2.2.2.2.2.2.2.1 e))]
          rw [if_neg c44] at h gd
          refine hQ _ ?_
          cases cnt with
          | zero => omega
          | succ cnt =>
            show bdA N (op + 12) fr (((cs ++ [lastO s1.2.1]).length : Int), x4', 0, v2) _
            refine bdA_i ?_
            unfold L_X12_readCall_44
            rw [if_pos rfl]
            show endA N (op + 12) fr P (((cs ++ [lastO s1.2.1]).length : Int), x4', v2)
            refine endA_i ?_
            unfold F_X12_readCall_153 F_X12_readCall_192 F_X12_readCall_198
            obtain ⟨nl, Rn, hnl⟩ : ∃ nl, PmR u0 v2 (d ∨ ¬ fitP op (cs ++ [lastO s1.2.1])) o nl s1.1 s1.2.1 s1.2.2 ∧ (¬ (d ∨ ¬ fitP op (cs ++ [lastO s1.2.1])) → (isRC nl ↔ isRC op) ∨ lastO s1.2.1 ≠ 16) := by
              rcases Rfit with Rf | ⟨Rf, hf⟩
              · refine ⟨_, Rf, fun _ => ?_⟩
                by_cases q : (op = 29 ∨ op = 30) ∧ lastO s1.2.1 = 16
                · rw [if_pos q]; exact Or.inl Iff.rfl
                · rw [if_neg q]
                  by_cases q2 : lastO s1.2.1 = 16
                  · exact Or.inl ⟨fun z => absurd z nRC0, fun z => absurd ⟨z, q2⟩ q⟩
                  · exact Or.inr q2
              · refine ⟨0, Rf, fun nd => ?_⟩
                rcases hf with q | q | q
                · exact Or.inl ⟨fun z => absurd z nRC0, fun z => absurd z q⟩
                · exact Or.inr q
                · exact absurd (Or.inr q) nd
            refine i_shut E Rn T2 (by omega) s1e (fun c41 w' fw => ?_) (fun c41 w' Rw Tw => ?_) ⟨by omega, by omega⟩
            · rw [if_neg c41] at h
              rw [if_neg (by have := fw.2.1; omega)]
              exact h w' fw
            · rw [if_pos c41] at h
              have b1 := (bt_in (t := t) (k := s1.1) (by omega)).2
              have kb := skp_b (t := t) (k := s1.1 + 1) (by omega) (by omega)
              have e41 := Rw.2.1.1
              rw [if_pos (by omega)]
              have hae := ArI_e (p := opP op ((cs ++ [lastO s1.2.1]).length : Int)) ha1 nn rfl (by show ¬ (14 ≤ op ∧ op ≤ 17); omega)
              refine i_op (op := op) (n := (cs ++ [lastO s1.2.1]).length) B Rw (by omega) (by omega) (fun z => by have := sp1.1; omega) ⟨⟨by omega, by omega⟩, by omega⟩ (kM_c hop) (by rw [hae.1]; omega) (fun nd _ => hnl nd) (fun y Ry A Ny => ?_)
              have Ty := TkM_a A Tw
              have late : ¬ fitP op (cs ++ [lastO s1.2.1]) → F_X12_later 4 fr y (fun u_195 => P u_195) := by
                intro nf
                refine i_lat (d' := d) Ry (by decide) (fun y2 Ry2 fy2 => h y2 ?_)
                show PoR t u0 d (o - 1) (.inr (bArE t op fr _ s1)) y2
                unfold bArE
                rw [ci_0 nf]
                exact ⟨Ry2, TkM_f fy2 (by decide) Ty⟩
              rcases fx with ⟨x1, sA⟩ | ⟨x0, sA⟩
              · rw [if_neg (by omega)]
                refine i_lstA hop (i_most hop (i_in ?_))
                by_cases fa : argL op ≤ ((cs ++ [lastO s1.2.1]).length : Int) ∧ ((cs ++ [lastO s1.2.1]).length : Int) ≤ argM op
                · rw [tb, if_pos fa, if_neg (by decide)]
                  have ft : fitP op (cs ++ [lastO s1.2.1]) := ⟨fa, sA⟩
                  refine h y ?_
                  show PoR t u0 d (o - 1) (.inr (bArE t op fr _ s1)) y
                  unfold bArE
                  rw [ci_1 ft]
                  exact ⟨PmR_w Ry (Int.le_refl _) (fun nd z => z.elim nd (fun z => z ft)), Ty⟩
                · rw [tb, if_neg fa, if_pos rfl]
                  exact late (fun ft => fa ft.1)
              · rw [if_pos x0]
                exact late (fun ft => sA ft.2)
      have fitc : isRC op → fitP op (cs ++ [lastO s1.2.1]) → cs = [] := by
        intro rc ft
        have a1 := ft.1.2
        have : argM op = 1 := by unfold isRC at rc; unfold argM; rw [if_neg (by omega), if_neg (by omega), if_neg (by omega), if_neg (by omega), if_neg (by omega), if_pos (by omega)]
        rw [this, List.length_append, List.length_singleton] at a1
        exact List.length_eq_zero_iff.mp (by omega)
      have noRC : ¬ isRC op → PmR u0 v d o 0 s1.1 s1.2.1 s1.2.2 := fun nr => PmR_w Rv (Int.le_refl _) (fun nd z => z.elim nd (fun z => nr z.1))
      have com : ∀ v2, (v2 = v ∨ (isRC op ∧ lastO s1.2.1 = 16 ∧ v2 = uI v 36 (mI u0 0 25 + s1.2.1.length - 1) (bOr (mI v 36 (mI u0 0 25 + s1.2.1.length - 1)) 16))) → PmR u0 v2 (d ∨ (isRC op ∧ cs ++ [lastO s1.2.1] ≠ [])) o 0 s1.1 s1.2.1 s1.2.2 := by
        intro v2 hv2
        by_cases rc : isRC op
        · have tr : ∀ w2, (∃ nl, PmR u0 w2 (d ∨ (isRC op ∧ cs ≠ [])) o nl s1.1 s1.2.1 s1.2.2) → PmR u0 w2 (d ∨ (isRC op ∧ cs ++ [lastO s1.2.1] ≠ [])) o 0 s1.1 s1.2.1 s1.2.2 := by
            rintro w2 ⟨nl, K1, K2, K3, K4, K5⟩
            exact ⟨K1, K2, K3, K4, fun i hi => ⟨(K5 i hi).1, (K5 i hi).2.1, fun nd => absurd (Or.inr ⟨rc, nn⟩) nd⟩⟩
          rcases hv2 with e | ⟨-, h16, e⟩
          · rw [e]; exact tr _ ⟨0, Rv⟩
          · rw [e]; exact tr _ ⟨op, PmR_16 B Rv sp1.1 h16 rc⟩
        · rcases hv2 with e | ⟨q, -⟩
          · rw [e]; exact PmR_w (noRC rc) (Int.le_refl _) (fun nd z => nd (Or.inl z))
          · exact absurd q rc
      by_cases x0 : x4 = 0
      · rw [if_pos x0]
        have nS : ¬ stA op (cs ++ [lastO s1.2.1]) := by
          intro z
          have := (stA_s.mp z).1
          rcases hx with ⟨a1, a2⟩ | ⟨a1, a2⟩
          · omega
          · exact a2 this
        exact C2 v 0 (Or.inr ⟨PmR_w Rv (Int.le_refl _) (fun nd z => nd (Or.inr (fun ft => nS ft.2))), Or.inr (Or.inr (fun ft => nS ft.2))⟩) (com v (Or.inl rfl)) Tv (Or.inr ⟨rfl, nS⟩)
      · rw [if_neg x0]
        have sA : stA op cs := by
          rcases hx with ⟨a1, a2⟩ | ⟨a1, a2⟩
          · exact a2
          · exact absurd a1 x0
        rw [e25, Rv.2.1.2.2.1, w32e (x := mI u0 0 25 + (s1.2.1.length : Int)) (by omega) (by omega), w32e (x := mI u0 0 25 + (s1.2.1.length : Int) - 1) (by omega) (by omega)]
        refine i_arg (j := cs.length) B Rv sp1.1 (by omega) hop (fun v2 hv2 hv3 sd => ?_) (fun sd => ?_)
        · rw [if_neg (by decide)]
          have T2 : TkM t v2 s1.1 := by
            rcases hv2 with e | ⟨-, -, e⟩
            · rw [e]; exact Tv
            · rw [e]; exact TkM_f (L := [(36, none)]) (FrM_uI FrM_rf (wHas_a (by decide))) (by decide) Tv
          have R2 : PmR u0 v2 (d ∨ ¬ fitP op (cs ++ [lastO s1.2.1])) o (if (op = 29 ∨ op = 30) ∧ lastO s1.2.1 = 16 then op else 0) s1.1 s1.2.1 s1.2.2 := by
            by_cases rc : isRC op
            · have wk : ¬ (d ∨ ¬ fitP op (cs ++ [lastO s1.2.1])) → ¬ (d ∨ (isRC op ∧ cs ≠ [])) := fun nd z => z.elim (fun z => nd (Or.inl z)) (fun z => nd (Or.inr (fun ft => z.2 (fitc rc ft))))
              by_cases h16 : lastO s1.2.1 = 16
              · rw [if_pos (show (op = 29 ∨ op = 30) ∧ lastO s1.2.1 = 16 from ⟨rc, h16⟩), hv3 rc h16]
                exact PmR_w (PmR_16 B Rv sp1.1 h16 rc) (Int.le_refl _) wk
              · rw [if_neg (fun z : (op = 29 ∨ op = 30) ∧ lastO s1.2.1 = 16 => h16 z.2)]
                rcases hv2 with e | ⟨-, q, -⟩
                · rw [e]; exact PmR_w Rv (Int.le_refl _) wk
                · exact absurd q h16
            · rw [if_neg (fun z : (op = 29 ∨ op = 30) ∧ lastO s1.2.1 = 16 => rc z.1)]
              rcases hv2 with e | ⟨q, -⟩
              · rw [e]; exact PmR_w (noRC rc) (Int.le_refl _) (fun nd z => nd (Or.inl z))
              · exact absurd q rc
          exact C2 v2 1 (Or.inl R2) (com v2 hv2) T2 (Or.inl ⟨rfl, stA_s.mpr ⟨sA, sd⟩⟩)
        · rw [if_pos rfl]
          have nS : ¬ stA op (cs ++ [lastO s1.2.1]) := fun z => sd (stA_s.mp z).2
          exact C2 v 0 (Or.inr ⟨PmR_w Rv (Int.le_refl _) (fun nd z => nd (Or.inr (fun ft => nS ft.2))), Or.inr (Or.inr (fun ft => nS ft.2))⟩) (com v (Or.inl rfl)) Tv (Or.inr ⟨rfl, nS⟩)
  have test : ∀ (Q : (Int × Int × Int × Mu) ⊕ (Int × Int × Mu) → Prop), (∀ s', itr (bdA N (op + 12) fr) (endA N (op + 12) fr P) cnt s' → Q (.inl s')) → ¬ (crP t st.1 ∧ bt t (crE t st.1) = 58) → F_X12_readTest N v0 (fun u_89 => F_X12_readCall_92 (F_X12_readAtom N) (F_X12_readCall N) (F_X12_readChain N) (F_X12_readProduct N) (F_X12_readSign N) (F_X12_readSum N) (F_X12_readTest N) (F_X12_readWord N) (op + 12) fr (cs.length : Int) x4 1 u_89 Q) := by
    intro Q hQ nc
    rw [← readL_1]
    rw [if_neg nc] at hr1
    exact HE 1 (by omega) (by omega) _ o st N ⟨by omega, by omega⟩ (by omega) (by show gdP ((pg t S n).1 1 o st); rw [hr1]; exact gd1) v0 _ P0 (fun v hv => C1 Q hQ v (by rw [← hr1]; exact hv))
  rw [T0.1.2.1]
  by_cases c3 : crP t st.1
  · rw [if_pos (tk_3 c3)]
    have cb := crP_b c3
    have k49' : mI v0 0 49 = crE t st.1 := by
      have kx := T0.2
      rw [tk_3 c3] at kx
      exact (kx.2.2.1 rfl).1
    rw [k49']
    refine i_byte (CxM_p E R0) (by omega) ?_
    by_cases c58 : bt t (crE t st.1) = 58
    · rw [if_pos c58]
      rw [if_pos ⟨c3, c58⟩] at hr1
      exact i_rArea E P0 c3 c58 (fun v hv => C1 _ (fun _ hh => hh) v (by rw [← hr1]; exact hv))
    · rw [if_neg c58]
      exact test _ (fun _ hh => hh) (fun z => c58 z.2)
  · rw [if_neg (fun e => c3 (tk_i.2.2.2.1 e))]
    exact test _ (fun _ hh => hh) (fun z => c3 z.1)
