/-! ===== the system's reader: a place is looked up ===== -/
def EnC (t : Tx) (S : SS) (b : Nat → Nat) (I : Nat → Prop) (z0 : Z) : Prop := TxC t z0 b ∧ zO z0 (b 1) 12 = some (b 3) ∧ ShO z0 I (zO z0 (b 1) 11) S.2.2.2.1.1 ∧ (zI z0 (b 3) 4 = S.2.1.1 ∧ 1 ≤ S.2.1.1 ∧ S.2.1.1 ≤ 40) ∧ Frz z0 b I ∧ ∀ k, 0 ≤ k → k < S.2.1.1 → ShO z0 I (zO z0 (b 18) k) (S.2.1.2.1 k)
theorem Sh_z {t : Tx} {S : SS} {b : Nat → Nat} {I : Nat → Prop} {z0 z : Z} (E : EnC t S b I z0) (f : FrZ (WB b wPs) z0 z) {r : Option Nat} {s : Sh} (h : ShO z0 I r s) : ShO z I r s := ShO_fr (WB_L f) (WL_I E.2.2.2.2.1) (WL_7 E.1.1) h
theorem o_shtA {t : Tx} {S : SS} {b : Nat → Nat} {I : Nat → Prop} {z0 z : Z} {v : Int} {P : Option Nat → Prop} (E : EnC t S b I z0) (f : FrZ (WB b wPs) z0 z) (hv : 0 ≤ v) (hy : ∀ r, isShP v S → ShO z I r (shOf v S) → P r) (hn : ¬ isShP v S → P none) : F_X2_at (b 3) v z P := by
  have cz : CWz z b := CWz_fr E.1.1 (WB_L f) (by decide)
  have e4 : zI z (b 3) 4 = S.2.1.1 := (bB E.1.1 f (R := [(3, some 4)]) (by decide) (by decide) (wHas_i (by decide))).1.trans E.2.2.2.1.1
  have n40 := E.2.2.2.1.2
  unfold F_X2_at F_X2_at_21 F_X2_at_22
  rw [if_neg (by omega)]
  refine ⟨cK cz 3 rfl rfl, ?_⟩
  rw [e4]
  by_cases c : S.2.1.1 ≤ v
  · rw [if_pos c]; exact hn (fun q => by have := q.2; omega)
  · rw [if_neg c]
    refine ⟨b 18, cO cz 3 0 18 (by decide), cK cz 18 rfl rfl, hv, by rw [cN cz 18 (c := 40) rfl rfl]; omega, ?_⟩
    rw [(bB E.1.1 f (R := [(18, none)]) (by decide) (by decide) (wHas_a (by decide))).2.2]
    refine hy _ ⟨by omega, by omega⟩ ?_
    have := Sh_z E f (E.2.2.2.2.2 v hv (by omega))
    unfold shOf
    rw [if_neg (by omega)]; exact this
theorem o_s26 {b : Nat → Nat} {I : Nat → Prop} {z : Z} {q : Nat} {op r c r2 c2 fx v fr : Int} {s0 : Option Nat} {sh : Sh} {P : Z → Prop} (N : NpC z q op r c r2 c2 fx v) (hs : s0 = none ∨ ShO z I s0 sh) (hA : (s0 = none ∨ ¬ (hasS sh r c ∧ hasS sh r2 c2)) → F_X5_settle_61 (b 1) (some q) fr z P) (hB : s0 ≠ none → hasS sh r c → hasS sh r2 c2 → ∀ y, NpC y q op (sh.2.1 (r - 1) + 1) (sh.2.2.1 (c - 1) + 1) (sh.2.1 (r2 - 1) + 1) (sh.2.2.1 (c2 - 1) + 1) fx v → FrZ (fun x _ => x = q) z y → F_X5_settle_130 (b 1) (some q) y P) : F_X5_settle_26 (b 1) (some q) fr s0 z P := by
  obtain ⟨n1, n2, n3, n4, ⟨n5, n6, n7, n8⟩, n9, n10⟩ := N
  unfold F_X5_settle_26
  rcases hs with hs | hs
  · rw [if_pos hs]; exact hA (Or.inl hs)
  · obtain ⟨a, ea, ra, ca, xa, Sp, i1, i2, i3, hr, hc, -⟩ := hs
    obtain ⟨s1, s2, s3, s4, s5, s6, s7, s8, s9, s10, s11, s12⟩ := id Sp
    rw [if_neg (by rw [ea]; exact Option.some_ne_none a)]
    refine ⟨q, rfl, n1, a, ea, s1, k_has Sp ?_⟩
    rw [n5, n6]
    by_cases h1 : (1 ≤ r ∧ r ≤ sh.1.1) ∧ 1 ≤ c ∧ c ≤ sh.1.2
    · rw [tb, if_pos h1, if_neg (by decide)]
      refine k_has Sp ?_
      rw [n7, n8]
      by_cases h2 : (1 ≤ r2 ∧ r2 ≤ sh.1.1) ∧ 1 ≤ c2 ∧ c2 ≤ sh.1.2
      · rw [tb, if_pos h2, if_neg (by decide)]
        have nr : ra ≠ q := fun e => by rw [e, n1] at s5; cases s5
        have nc : ca ≠ q := fun e => by rw [e, n1] at s6; cases s6
        have na : a ≠ q := fun e => by rw [e, n1] at s1; cases s1
        have R1 : ∀ (y : Z), FrZ (fun x _ => x = q) z y → (zK y a = 7 ∧ zO y a 0 = some ra ∧ zO y a 1 = some ca ∧ zK y ra = 15 ∧ zK y ca = 15 ∧ zN y ra = sh.1.1 ∧ zN y ca = sh.1.2 ∧ zK y q = 5) ∧ (∀ i, zI y ra i = zI z ra i) ∧ ∀ i, zI y ca i = zI z ca i := by
          intro y f
          have ka : zK z a ≠ 0 := by rw [s1]; decide
          have kr : zK z ra ≠ 0 := by rw [s5]; decide
          have kc : zK z ca ≠ 0 := by rw [s6]; decide
          exact ⟨⟨(f.1 a ka).1.trans s1, (f.2 a 0 ka na).2.2.trans s2, (f.2 a 1 ka na).2.2.trans s3, (f.1 ra kr).1.trans s5, (f.1 ca kc).1.trans s6, (f.1 ra kr).2.trans s8, (f.1 ca kc).2.trans s9, (f.1 q (by rw [n1]; decide)).1.trans n1⟩, fun i => (f.2 ra i kr nr).1, fun i => (f.2 ca i kc nc).1⟩
        refine ⟨ra, s2, s5, ?_⟩
        rw [w32e (x := r - 1) (by omega) (by omega)]
        refine ⟨by omega, by rw [s8]; omega, ?_⟩
        rw [hr (r - 1) (by omega) (by omega)]
        rintro _ rfl
        have f1 : FrZ (fun x _ => x = q) z (wI z q 3 (sh.2.1 (r - 1) + 1)) := FrZ_wI FrZ_rf (Or.inl rfl)
        obtain ⟨⟨a1, a2, a3, a4, a5, a6, a7, a8⟩, a9, a10⟩ := R1 _ f1
        refine ⟨a, ea, a1, q, rfl, a8, ra, a2, a4, ?_⟩
        rw [show zI (wI z q 3 (sh.2.1 (r - 1) + 1)) q 5 = r2 by rw [zI_wI, if_neg (by omega)]; exact n7, w32e (x := r2 - 1) (by omega) (by omega)]
        refine ⟨by omega, by rw [a6]; omega, ?_⟩
        rw [a9, hr (r2 - 1) (by omega) (by omega)]
        rintro _ rfl
        have f2 : FrZ (fun x _ => x = q) z (wI (wI z q 3 (sh.2.1 (r - 1) + 1)) q 5 (sh.2.1 (r2 - 1) + 1)) := FrZ_wI f1 (Or.inl rfl)
        obtain ⟨⟨b1, b2, b3, b4, b5, b6, b7, b8⟩, b9, b10⟩ := R1 _ f2
        refine ⟨a, ea, b1, q, rfl, b8, ca, b3, b5, ?_⟩
        rw [show zI (wI (wI z q 3 (sh.2.1 (r - 1) + 1)) q 5 (sh.2.1 (r2 - 1) + 1)) q 4 = c by rw [zI_wI, if_neg (by omega), zI_wI, if_neg (by omega)]; exact n6, w32e (x := c - 1) (by omega) (by omega)]
        refine ⟨by omega, by rw [b7]; omega, ?_⟩
        rw [b10, hc (c - 1) (by omega) (by omega)]
        rintro _ rfl
        have f3 : FrZ (fun x _ => x = q) z (wI (wI (wI z q 3 (sh.2.1 (r - 1) + 1)) q 5 (sh.2.1 (r2 - 1) + 1)) q 4 (sh.2.2.1 (c - 1) + 1)) := FrZ_wI f2 (Or.inl rfl)
        obtain ⟨⟨c1, c2', c3, c4, c5, c6, c7, c8⟩, c9, c10⟩ := R1 _ f3
        refine ⟨a, ea, c1, q, rfl, c8, ca, c3, c5, ?_⟩
        rw [show zI (wI (wI (wI z q 3 (sh.2.1 (r - 1) + 1)) q 5 (sh.2.1 (r2 - 1) + 1)) q 4 (sh.2.2.1 (c - 1) + 1)) q 6 = c2 by rw [zI_wI, if_neg (by omega), zI_wI, if_neg (by omega), zI_wI, if_neg (by omega)]; exact n8, w32e (x := c2 - 1) (by omega) (by omega)]
        refine ⟨by omega, by rw [c7]; omega, ?_⟩
        rw [c10, hc (c2 - 1) (by omega) (by omega)]
        rintro _ rfl
        refine hB (by rw [ea]; exact Option.some_ne_none a) h1 h2 _ ?_ (FrZ_wI f3 (Or.inl rfl))
        refine ⟨n1, ?_, ?_, n4, ⟨?_, ?_, ?_, ?_⟩, ?_, ?_⟩
        · simp [zI_wI]; exact n2
        · simp [zI_wI]; exact n3
        · simp [zI_wI]
        · simp [zI_wI]
        · simp [zI_wI]
        · simp [zI_wI]
        · simp [zI_wI]; exact n9
        · simp [zI_wI]; exact n10
      · rw [tb, if_neg h2, if_pos rfl]
        exact hA (Or.inr (fun w' => h2 w'.2))
    · rw [tb, if_neg h1, if_pos rfl]
      exact hA (Or.inr (fun w' => h1 w'.1))
theorem o_late {t : Tx} {b : Nat → Nat} {z0 : Z} {I J : Nat → Prop} {z : Z} {e k p : Int} {ps : List Prt} {lt : Int × Int} {P : Z → Prop} (C : TxC t z0 b) (R : OkC b z0 I J z e ps lt) (hk : k ≠ 0) (h : ∀ y, OkC b z0 I J y e ps (ltU k p lt) → FrZ (WB b [(1, some 6), (1, some 7)]) z y → P y) : F_X5_failLate (b 1) k p z P := by
  have cz : CWz z b := (TxC_o C R).1
  obtain ⟨⟨r1, r2, r3⟩, ⟨r4, r5⟩, ⟨r6, r7⟩, ⟨r8, r9⟩, r10⟩ := id R
  unfold F_X5_failLate F_X5_failLate_15 F_X5_failLate_25
  refine ⟨cK cz 1 rfl rfl, ?_⟩
  have st : lt.1 = 0 ∨ p < lt.2 → (zK z (b 1) = 6 ∧ (∀ z_17, z_17 = wI z (b 1) 6 k → (∀ z_22, z_22 = wI z_17 (b 1) 7 p → P z_22))) := by
    intro c
    refine ⟨cK cz 1 rfl rfl, ?_⟩
    rintro _ rfl _ rfl
    have f : FrZ (WB b [(1, some 6), (1, some 7)]) z (wI (wI z (b 1) 6 k) (b 1) 7 p) := FrZ_wI (FrZ_wI FrZ_rf (Or.inl (WB_i (by decide) (by decide)))) (Or.inl (WB_i (by decide) (by decide)))
    have wJ : ∀ a i, J a → ¬ WB b [(1, some 6), (1, some 7)] a i := fun a i ja h => by
      obtain ⟨t, t1, t2, t3, t4⟩ := h
      exact (r3 a ja).2.2.2 t.1 t2 t3
    refine h _ ⟨⟨FrZ_tr r1 (WB_s (by decide) f), r2, Frz_fr r3 f⟩, ⟨(bB cz f (R := [(1, some 4)]) (by decide) (by decide) (wHas_i (by decide))).1.trans r4, (bB cz f (R := [(1, some 5)]) (by decide) (by decide) (wHas_i (by decide))).1.trans r5⟩, ?_, ⟨(bB cz f (R := [(1, some 9)]) (by decide) (by decide) (wHas_i (by decide))).1.trans r8, (bB cz f (R := [(1, some 10)]) (by decide) (by decide) (wHas_i (by decide))).1.trans r9⟩, fun i hi => ?_⟩ f
    · rw [ltU_0 c]
      exact ⟨by rw [zI_wI, if_neg (by omega), zI_wI, if_pos ⟨rfl, rfl⟩], fun _ => by rw [zI_wI, if_pos ⟨rfl, rfl⟩]⟩
    · obtain ⟨a, g1, g2, g3, g4, g5⟩ := r10 i hi
      have ka : zK z a ≠ 0 := by rw [g3]; decide
      rw [ltU_0 c]
      exact ⟨a, (bB cz f (R := [(12, none)]) (by decide) (by decide) (wHas_a (by decide))).2.2.trans g1, g2, (f.1 a ka).1.trans g3, (f.2 a 0 ka (wJ a 0 g2)).1.trans g4, fun l0 => absurd l0 hk⟩
  rw [r6]
  by_cases c : lt.1 = 0
  · rw [if_pos c]; exact st (Or.inl c)
  · rw [if_neg c, r7 c]
    by_cases c2 : lt.2 ≤ p
    · rw [if_pos c2]
      refine h z ?_ FrZ_rf
      rw [ltU_1 (by omega)]; exact R
    · rw [if_neg c2]; exact st (Or.inr (by omega))
theorem o_s130 {t : Tx} {b : Nat → Nat} {z0 : Z} {I J : Nat → Prop} {z : Z} {e op r c r2 c2 fx v : Int} {ps : List Prt} {lt : Int × Int} {q : Nat} {p : Prt} {P : Z → Prop} (C : TxC t z0 b) (R : OkC b z0 I J z e ps lt) (hl : ps.length < 400) (nq : zK z0 q = 0 ∧ ¬ J q) (N : NpC z q op r c r2 c2 fx v) (ho : p.1 = op) (hp : lt.1 = 0 → p = (op, 0, none, (r, c, r2, c2), fx, v)) (h : ∀ y J2, OkC b z0 I J2 y e (ps ++ [p]) lt → P y) : F_X5_settle_130 (b 1) (some q) z P := by
  have cz : CWz z b := (TxC_o C R).1
  obtain ⟨n1, n2, n3, n4, ⟨n5, n6, n7, n8⟩, n9, n10⟩ := id N
  unfold F_X5_settle_130 F_X5_settle_169
  refine ⟨cK cz 1 rfl rfl, ?_⟩
  rw [if_pos R.2.1.1]
  refine ⟨b 12, cO cz 1 1 12 (by decide), cK cz 12 rfl rfl, ?_⟩
  rw [cN cz 12 (c := 400) rfl rfl, R.2.2.2.1.2, if_neg (by omega)]
  refine ⟨by omega, by omega, fun v hv => by cases hv; exact n1, ?_⟩
  rintro _ rfl
  rw [zI_wO, R.2.2.2.1.2, w32e (by omega) (by omega)]
  rintro _ rfl
  refine h _ (fun x => J x ∨ x = q) (OkC_put C.1 R nq.1 n1 (n2.trans ho.symm) (fun x => J x ∨ x = q) (fun x jx => Or.inl jx) (Or.inr rfl) (fun x jx => ?_) (fun l0 => ?_) rfl)
  · rcases jx with jx | jx
    · exact Or.inl jx
    · rw [jx]; exact Or.inr ⟨nq.1, by rw [n1]; decide⟩
  · rw [hp l0]
    exact ⟨Or.inr rfl, n1, n2, n3, n4, n5, n6, n7, n8, n9, n10⟩
theorem o_s130F {b : Nat → Nat} {z : Z} {q : Nat} {P : Z → Prop} (c : CWz z b) (h4 : 0 < zI z (b 1) 4) (h : P z) : F_X5_settle_130 (b 1) (some q) z P := by
  unfold F_X5_settle_130 F_X5_settle_169
  refine ⟨cK c 1 rfl rfl, ?_⟩
  rw [if_neg (by omega)]; exact h
theorem th_i {S : SS} {v r c : Int} : thP S v r c ↔ isShP v S ∧ hasS (shOf v S) r c := Iff.rfl
theorem o_settle {t : Tx} {S : SS} {b : Nat → Nat} {z0 : Z} {I J : Nat → Prop} {z : Z} {e op r c r2 c2 fx v fr : Int} {ps : List Prt} {lt : Int × Int} {q : Nat} {P : Z → Prop} (E : EnC t S b I z0) (R : OkC b z0 I J z e ps lt) (hl : ps.length < 400) (nq : zK z0 q = 0 ∧ ¬ J q) (N : NpC z q op r c r2 c2 fx v) (hv : -1 ≤ v) (hy : thP S v r c ∧ thP S v r2 c2 → ∀ y J2, OkC b z0 I J2 y e (ps ++ [plcP S op v r c r2 c2 fx]) lt → P y) (hn : ¬ (thP S v r c ∧ thP S v r2 c2) → ∀ y J2, OkC b z0 I J2 y e (ps ++ [leafP op]) (ltU 3 fr lt) → P y) : F_X5_settle (b 1) (some q) fr z P := by
  have C := E.1
  have cz : CWz z b := (TxC_o C R).1
  have nk : ∀ k, k < 35 → b k ≠ q := fun k hk e => (ckz_k k hk).2.2 (by rw [← (C.1.1 k hk).1, e]; exact nq.1)
  have nW : ∀ (L : WR) i, ¬ WB b L q i := fun L i ⟨t, t1, t2, t3, t4⟩ => nk t.1 t2 t3.symm
  have A : ¬ (thP S v r c ∧ thP S v r2 c2) → F_X5_settle_61 (b 1) (some q) fr z P := by
    intro nt
    unfold F_X5_settle_61
    refine ⟨cK cz 1 rfl rfl, o_late C R (by decide) (fun y Ry fy => ?_)⟩
    refine o_s130 C Ry hl nq (NpC_fr fy (nW _) N) (p := leafP op) rfl (fun l0 => absurd l0 (lt_n (by decide))) (fun y2 J2 R2 => hn nt y2 J2 R2)
  have B : ∀ s0, isShP v S → ShO z I s0 (shOf v S) → F_X5_settle_26 (b 1) (some q) fr s0 z P := by
    intro s0 iv hs
    refine o_s26 N (Or.inr hs) (fun w' => A (fun tt => ?_)) (fun s0n h1 h2 y Ny fy => ?_)
    · rcases w' with w' | w'
      · obtain ⟨a, ea, -⟩ := hs
        rw [w'] at ea; cases ea
      · exact w' ⟨tt.1.2, tt.2.2⟩
    · have Ry := OkC_fr C.1 R fy (fun x i hx => by rw [hx]; exact nq)
      exact o_s130 C Ry hl nq Ny (p := plcP S op v r c r2 c2 fx) rfl (fun _ => rfl) (fun y2 J2 R2 => hy ⟨⟨iv, h1⟩, ⟨iv, h2⟩⟩ y2 J2 R2)
  have e11 : zO z (b 1) 11 = zO z0 (b 1) 11 := (bB C.1 R.1.1 (R := [(1, some 11)]) (by decide) (by decide) (wHas_i (by decide))).2.2
  have e12 : zO z (b 1) 12 = some (b 3) := (bB C.1 R.1.1 (R := [(1, some 12)]) (by decide) (by decide) (wHas_i (by decide))).2.2.trans E.2.1
  have n10 := N.2.2.2.2.2.2
  unfold F_X5_settle
  refine ⟨q, rfl, N.1, ?_⟩
  rw [n10]
  by_cases c1 : v = -1
  · rw [if_pos c1, e11]
    refine ⟨cK cz 1 rfl rfl, B _ ⟨hv, by have := E.2.2.2.1.2; omega⟩ ?_⟩
    have := Sh_z E R.1.1 E.2.2.1
    unfold shOf
    rw [if_pos c1]; exact this
  · rw [if_neg c1]
    refine ⟨cK cz 1 rfl rfl, b 3, e12, cK cz 3 rfl rfl, ?_⟩
    refine o_shtA E R.1.1 (by omega) (fun s0 iv hs => B s0 iv hs) (fun ni => ?_)
    refine o_s26 (I := I) (sh := shOf v S) N (Or.inl rfl) (fun _ => A (fun tt => ni tt.1.1)) (fun s0n => absurd rfl s0n)
theorem FlC_fr {t : Tx} {b : Nat → Nat} {z0 : Z} {I : Nat → Prop} {z y : Z} {k p : Int} {W : Nat → Int → Prop} (c : CWz z0 b) (R : FlC t b z0 I z k p) (f : FrZ W z y) (hW : ∀ a i, W a i → zK z0 a = 0 ∨ WB b [(1, some 6), (1, some 7)] a i) : FlC t b z0 I y k p := by
  obtain ⟨J, ⟨r1, r2, r3⟩, ⟨r4, r5, r6⟩, r7, n, r8, r9, r10⟩ := R
  have cz : CWz z b := CWz_fr c (WB_L r1) (by decide)
  have k0 : ∀ k, k < 35 → zK z0 (b k) ≠ 0 := fun k hk => by rw [(c.1 k hk).1]; exact (ckz_k k hk).2.2
  have kz : ∀ k, k < 35 → zK z (b k) ≠ 0 := fun k hk => by rw [(r1.1 (b k) (k0 k hk)).1]; exact k0 k hk
  have f2 : FrZ (WB b wPs) z0 y := by
    refine ⟨fun a ha => ?_, fun a i ha hn => ?_⟩
    · obtain ⟨p1, p2⟩ := r1.1 a ha
      obtain ⟨q1, q2⟩ := f.1 a (by rw [p1]; exact ha)
      exact ⟨q1.trans p1, q2.trans p2⟩
    · obtain ⟨p1, p2, p3⟩ := r1.2 a i ha hn
      obtain ⟨q1, q2, q3⟩ := f.2 a i (by rw [(r1.1 a ha).1]; exact ha) (fun h => by
        rcases hW a i h with h | ⟨t, t1, t2⟩
        · exact ha h
        · exact hn ⟨t, (by decide : ∀ t ∈ [(1, some (6 : Int)), (1, some 7)], t ∈ wPs) t t1, t2⟩)
      exact ⟨q1.trans p1, q2.trans p2, q3.trans p3⟩
  have e1 : ∀ k i, k < 35 → wHas [(1, some 4), (1, some 5), (1, some 9), (1, some 10), (12, none)] k i → zI y (b k) i = zI z (b k) i ∧ zO y (b k) i = zO z (b k) i := by
    intro k i hk hh
    have := f.2 (b k) i (kz k hk) (fun h => by
      rcases hW (b k) i h with h | ⟨t, t1, t2, t3, t4⟩
      · exact k0 k hk h
      · have e := c.2.1 k t.1 hk t2 t3
        exact wDis_e (L := [(1, some 6), (1, some 7)]) (R := [(1, some 4), (1, some 5), (1, some 9), (1, some 10), (12, none)]) (by decide) (k := k) (i := i) ⟨t, t1, e.symm, t4⟩ hh)
    exact ⟨this.1, this.2.2⟩
  refine ⟨J, ⟨f2, r2, Frz_fr r3 f⟩, ⟨(e1 1 4 (by decide) (wHas_i (by decide))).1.trans r4, (e1 1 5 (by decide) (wHas_i (by decide))).1.trans r5, r6⟩, ?_, n, (e1 1 10 (by decide) (wHas_i (by decide))).1.trans r8, r9, fun i hi => ?_⟩
  · rw [(e1 1 9 (by decide) (wHas_i (by decide))).1]; exact r7
  · obtain ⟨a, g1, g2⟩ := r10 i hi
    exact ⟨a, (e1 12 i (by decide) (wHas_a (by decide))).2.trans g1, (f.1 a (by rw [g2]; decide)).1.trans g2⟩
theorem o_lateF {t : Tx} {b : Nat → Nat} {z0 : Z} {I : Nat → Prop} {z : Z} {k p kk pp : Int} {P : Z → Prop} (C : TxC t z0 b) (R : FlC t b z0 I z kk pp) (h : ∀ y, FlC t b z0 I y kk pp → FrZ (WB b [(1, some 6), (1, some 7)]) z y → P y) : F_X5_failLate (b 1) k p z P := by
  have cz : CWz z b := (TxC_l C R).1
  unfold F_X5_failLate F_X5_failLate_15 F_X5_failLate_25
  refine ⟨cK cz 1 rfl rfl, ?_⟩
  have st : (zK z (b 1) = 6 ∧ (∀ z_17, z_17 = wI z (b 1) 6 k → (∀ z_22, z_22 = wI z_17 (b 1) 7 p → P z_22))) := by
    refine ⟨cK cz 1 rfl rfl, ?_⟩
    rintro _ rfl _ rfl
    have f : FrZ (WB b [(1, some 6), (1, some 7)]) z (wI (wI z (b 1) 6 k) (b 1) 7 p) := FrZ_wI (FrZ_wI FrZ_rf (Or.inl (WB_i (by decide) (by decide)))) (Or.inl (WB_i (by decide) (by decide)))
    exact h _ (FlC_fr C.1 R f (fun a i w' => Or.inr w')) f
  by_cases c : zI z (b 1) 6 = 0
  · rw [if_pos c]; exact st
  · rw [if_neg c]
    by_cases c2 : zI z (b 1) 7 ≤ p
    · rw [if_pos c2]; exact h z R FrZ_rf
    · rw [if_neg c2]; exact st
theorem FlC_4 {t : Tx} {b : Nat → Nat} {z0 : Z} {I : Nat → Prop} {z : Z} {k p : Int} (R : FlC t b z0 I z k p) : 0 < zI z (b 1) 4 := by
  obtain ⟨J, -, ⟨r4, -, r6⟩, -⟩ := R
  omega
theorem o_settleF {t : Tx} {S : SS} {b : Nat → Nat} {z0 : Z} {I : Nat → Prop} {z : Z} {kk pp op r c r2 c2 fx fr : Int} {q : Nat} {P : Z → Prop} (E : EnC t S b I z0) (R : FlC t b z0 I z kk pp) (nq : zK z0 q = 0) (N : NpC z q op r c r2 c2 fx (-1)) (h : ∀ y, FlC t b z0 I y kk pp → P y) : F_X5_settle (b 1) (some q) fr z P := by
  have C := E.1
  have cz : CWz z b := (TxC_l C R).1
  have fr0 : FrZ (WB b wPs) z0 z := by obtain ⟨J, ⟨r1, -⟩, -⟩ := R; exact r1
  have e11 : zO z (b 1) 11 = zO z0 (b 1) 11 := (bB C.1 fr0 (R := [(1, some 11)]) (by decide) (by decide) (wHas_i (by decide))).2.2
  unfold F_X5_settle
  refine ⟨q, rfl, N.1, ?_⟩
  rw [N.2.2.2.2.2.2, if_pos rfl]
  refine ⟨cK cz 1 rfl rfl, ?_⟩
  refine o_s26 (I := I) (sh := S.2.2.2.1.1) N (Or.inr (by rw [e11]; exact Sh_z E fr0 E.2.2.1)) (fun _ => ?_) (fun _ _ _ y Ny fy => ?_)
  · unfold F_X5_settle_61
    refine ⟨cK cz 1 rfl rfl, o_lateF C R (fun y Ry fy => ?_)⟩
    exact o_s130F (TxC_l C Ry).1 (FlC_4 Ry) (h y Ry)
  · have Ry := FlC_fr C.1 R fy (fun a i w' => Or.inl (by rw [w']; exact nq))
    exact o_s130F (TxC_l C Ry).1 (FlC_4 Ry) (h y Ry)
