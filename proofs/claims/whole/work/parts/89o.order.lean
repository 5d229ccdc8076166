/-! ===== the same order ===== -/
/-- the ids of s that b and t have too stand in b in the order of s -/
def comP (b t : Sh) (ax id : Int) : Prop := 0 ≤ plS b ax id ∧ 0 ≤ plS t ax id
def ordP (s b t : Sh) (ax : Int) : Prop := ∀ i j, 0 ≤ i → i < j → j < lnS s ax → comP b t ax (idS s ax i) → comP b t ax (idS s ax j) → plS b ax (idS s ax i) ≤ plS b ax (idS s ax j)
theorem plS_m (s : Sh) (ax id : Int) : -1 ≤ plS s ax id := by rcases plS_b s ax id with h | h <;> omega
theorem i_sameOrder {u : Mu} {x y w ax : Int} {s b t : Sh} {P : Int → Prop} (bs : ShB s) (bb : ShB b) (bt : ShB t) (ms : ShM u x s) (mb : ShM u y b) (mt : ShM u w t) (hx : 0 ≤ x ∧ x < 122) (hy : 0 ≤ y ∧ y < 122) (hw : 0 ≤ w ∧ w < 122) (h : P (cb (ordP s b t ax))) : F_X12_sameOrder x y w ax u P := by
  have ls := lnS_b bs ax
  have m32 := mst_32 ax
  unfold F_X12_sameOrder F_X12_sameOrder_6
  refine lp_I (fun q => (0 ≤ q.2 ∧ q.2 ≤ lnS s ax) ∧ (-1 ≤ q.1) ∧ (∀ i, 0 ≤ i → i < q.2 → comP b t ax (idS s ax i) → plS b ax (idS s ax i) ≤ q.1) ∧ (q.1 = -1 ∨ ∃ i, 0 ≤ i ∧ i < q.2 ∧ comP b t ax (idS s ax i) ∧ plS b ax (idS s ax i) = q.1) ∧ ∀ i j, 0 ≤ i → i < j → j < q.2 → comP b t ax (idS s ax i) → comP b t ax (idS s ax j) → plS b ax (idS s ax i) ≤ plS b ax (idS s ax j)) (fun q => (lnS s ax - q.2).toNat) ?_ (-1, 0) ⟨⟨by show (0 : Int) ≤ 0; decide, by show (0 : Int) ≤ _; omega⟩, by decide, fun i i0 i1 => absurd i1 (by show ¬ i < 0; omega), Or.inl rfl, fun i j i0 i1 j1 => absurd j1 (by show ¬ j < 0; omega)⟩
  rintro G ⟨last, k⟩ ⟨⟨k0, k1⟩, l0, A, B, C⟩ ih
  simp only at k0 k1 l0 A B C
  unfold L_X12_sameOrder_6 F_X12_sameOrder_54 F_X12_sameOrder_70 F_X12_sameOrder_82
  dsimp only
  refine i_linesOf hx.1 hx.2 ?_
  rw [ShM_ln ms ax]
  by_cases ek : lnS s ax ≤ k
  · rw [if_pos ek]
    show P 1
    rw [cb_1 (p := ordP s b t ax) (fun i j i0 ij j1 => C i j i0 ij (by omega))] at h; exact h
  · rw [if_neg ek, w32e (x := k + 1) (by omega) (by omega)]
    refine i_lineAt hx.1 hx.2 k0 (by omega) ?_
    rw [ShM_id ms ax k k0 (by omega)]
    have pb := plS_b b ax (idS s ax k)
    have pt := plS_b t ax (idS s ax k)
    refine i_placeS bt mt hw.1 hw.2 ?_
    have skip : ¬ comP b t ax (idS s ax k) → G (last, k + 1) := fun nc => by
      refine ih (last, k + 1) ⟨⟨by show 0 ≤ k + 1; omega, by show k + 1 ≤ _; omega⟩, l0, fun i i0 i1 c => ?_, ?_, fun i j i0 ij j1 c1 c2 => ?_⟩ (by show (_ - (k + 1)).toNat < (_ - k).toNat; omega)
      · replace i1 : i < k + 1 := i1
        by_cases e : i = k
        · rw [e] at c; exact absurd c nc
        · exact A i i0 (by omega) c
      · rcases B with B | ⟨i, i0, i1, i2⟩
        · exact Or.inl B
        · exact Or.inr ⟨i, i0, by show i < k + 1; omega, i2⟩
      · replace j1 : j < k + 1 := j1
        by_cases e : j = k
        · rw [e] at c2; exact absurd c2 nc
        · exact C i j i0 ij (by omega) c1 c2
    by_cases e1 : 0 ≤ plS t ax (idS s ax k)
    · rw [if_pos e1]
      refine i_placeS bb mb hy.1 hy.2 ?_
      by_cases e2 : plS b ax (idS s ax k) < 0
      · rw [if_pos e2, if_pos e2]; exact skip (fun c => by have := c.1; omega)
      · rw [if_neg e2]
        have cm : comP b t ax (idS s ax k) := ⟨by omega, e1⟩
        by_cases e3 : last ≤ plS b ax (idS s ax k)
        · rw [if_pos e3, if_neg e2]
          refine ih (_, k + 1) ⟨⟨by show 0 ≤ k + 1; omega, by show k + 1 ≤ _; omega⟩, by show -1 ≤ plS b ax (idS s ax k); omega, fun i i0 i1 c => ?_, Or.inr ⟨k, k0, by show k < k + 1; omega, cm, rfl⟩, fun i j i0 ij j1 c1 c2 => ?_⟩ (by show (_ - (k + 1)).toNat < (_ - k).toNat; omega)
          · replace i1 : i < k + 1 := i1
            show plS b ax (idS s ax i) ≤ plS b ax (idS s ax k)
            by_cases e : i = k
            · rw [e]; omega
            · have := A i i0 (by omega) c; omega
          · replace j1 : j < k + 1 := j1
            by_cases e : j = k
            · rw [e]; have := A i i0 (by omega) c1; omega
            · exact C i j i0 ij (by omega) c1 c2
        · rw [if_neg e3]
          show P 0
          rw [cb_0 (p := ordP s b t ax) (fun q => ?_)] at h
          · exact h
          · rcases B with B | ⟨i, i0, i1, i2, i3⟩
            · omega
            · have := q i k i0 i1 (by omega) i2 cm
              omega
    · rw [if_neg e1, if_pos (by decide), if_pos (by decide)]
      exact skip (fun c => e1 c.2)
/-! the system's -/
def LnC (z : Z) (la : Nat) (s : Sh) (ax : Int) : Prop := zK z la = 15 ∧ zN z la = lnS s ax ∧ ∀ k, 0 ≤ k → k < lnS s ax → zI z la k = idS s ax k + 1
theorem k_placeIn {z : Z} {la : Nat} {n id : Int} {P : Int → Prop} (hk : zK z la = 15) (n0 : 0 ≤ n) (hn : n ≤ zN z la) (hm : n ≤ 1000) (h : P (plc (zI z la) id n + 1)) : F_X11_placeIn (some la) n id z P := by
  unfold F_X11_placeIn F_X11_placeIn_2 F_X11_placeIn_30
  refine lp_I (fun k => 0 ≤ k ∧ k ≤ n ∧ plc (zI z la) id n = fst1 (zI z la) id (n - k).toNat k) (fun k => (n - k).toNat) ?_ 0 ⟨by omega, by omega, by unfold plc; congr 1; omega⟩
  rintro G k ⟨k0, k1, hk2⟩ ih
  unfold L_X11_placeIn_2
  by_cases c : n ≤ k
  · rw [if_pos c]
    rw [show (n - k).toNat = 0 by omega, fst1] at hk2
    rw [hk2] at h; exact h
  · rw [if_neg c]
    refine ⟨la, rfl, hk, ?_⟩
    rw [if_neg (by omega)]
    rw [show (n - k).toNat = (n - (k + 1)).toNat + 1 by omega, fst1] at hk2
    refine ⟨k0, by omega, ?_⟩
    by_cases c2 : zI z la k = id
    · rw [if_pos c2]; rw [if_pos c2] at hk2; rw [hk2] at h
      show P (w32 (k + 1))
      rw [w32e (by omega) (by omega)]; exact h
    · rw [if_neg c2]; rw [if_neg c2] at hk2
      rw [w32e (by omega) (by omega)]
      exact ih (k + 1) ⟨by omega, by omega, hk2⟩ (by omega)
theorem o_placeIn {z : Z} {la : Nat} {s : Sh} {ax id : Int} {P : Int → Prop} (hb : ShB s) (hl : LnC z la s ax) (h : P (plS s ax (id - 1) + 1)) : F_X11_placeIn (some la) (zN z la) id z P := by
  have ls := lnS_b hb ax
  have m32 := mst_32 ax
  obtain ⟨l1, l2, l3⟩ := hl
  refine k_placeIn l1 (by omega) (by omega) (by omega) ?_
  rw [l2]
  unfold plS at h
  rw [plc_e (f' := idS s ax) (x' := id - 1) (fun j j0 j1 => by rw [l3 j j0 j1]; omega)]; exact h
theorem ShC_ln {z : Z} {I : Nat → Prop} {a : Nat} {s : Sh} (hs : ShC z I a s) : ∃ ra ca, (zO z a 0 = some ra ∧ LnC z ra s 0 ∧ I ra) ∧ zO z a 1 = some ca ∧ LnC z ca s 1 ∧ I ca := by
  obtain ⟨ra, ca, xa, Sp, i1, i2, i3, h4, h5, h6⟩ := hs
  obtain ⟨s1, s2, s3, s4, s5, s6, s7, s8, s9, -⟩ := Sp
  exact ⟨ra, ca, ⟨s2, ⟨s5, s8, h4⟩, i1⟩, s3, ⟨s6, s9, h5⟩, i2⟩
theorem o_lineS {z : Z} {I : Nat → Prop} {a : Nat} {s : Sh} {ax : Int} {P : Option Nat → Prop} (hax : ax = 0 ∨ ax = 1) (hs : ShC z I a s) (h : ∀ la, LnC z la s ax → I la → P (some la)) : F_X6_line a ax z P := by
  obtain ⟨ra, ca, xa, Sp, i1, i2, i3, h4, h5, h6⟩ := hs
  obtain ⟨s1, s2, s3, s4, s5, s6, s7, s8, s9, -⟩ := id Sp
  refine k_line Sp ?_
  rcases hax with e | e
  · rw [if_pos e]; subst e; exact h ra ⟨s5, s8, h4⟩ i1
  · rw [if_neg (by omega)]; subst e; exact h ca ⟨s6, s9, h5⟩ i2
theorem o_sameOrder {z : Z} {la lb lt : Nat} {s b t : Sh} {ax : Int} {P : Int → Prop} (hax : ax = 0 ∨ ax = 1) (ha : LnC z la s ax) (hb : LnC z lb b ax) (ht : LnC z lt t ax) (bs : ShB s) (bb : ShB b) (bt : ShB t) (ds : DsS s) (db : DsS b) (h : P (cb (ordP s b t ax))) : F_X11_inSameOrder (some la) (some lb) (some lt) z P := by
  have ls := lnS_b bs ax
  have lbb := lnS_b bb ax
  have m32 := mst_32 ax
  obtain ⟨a1, a2, a3⟩ := id ha
  obtain ⟨b1, b2, b3⟩ := id hb
  obtain ⟨t1, t2, t3⟩ := id ht
  unfold F_X11_inSameOrder F_X11_inSameOrder_5 F_X11_inSameOrder_93
  refine lp_I (fun q => ((0 ≤ q.2 ∧ q.2 ≤ lnS s ax) ∧ 0 ≤ q.1 ∧ q.1 ≤ lnS b ax) ∧ (∀ k, 0 ≤ k → k < q.2 → comP b t ax (idS s ax k) → plS b ax (idS s ax k) < q.1) ∧ (∀ m, 0 ≤ m → m < q.1 → comP s t ax (idS b ax m) → plS s ax (idS b ax m) < q.2) ∧ ∀ i j, 0 ≤ i → i < j → j < q.2 → comP b t ax (idS s ax i) → comP b t ax (idS s ax j) → plS b ax (idS s ax i) ≤ plS b ax (idS s ax j)) (fun q => (lnS s ax - q.2).toNat) ?_ (0, 0) ⟨⟨⟨by show (0 : Int) ≤ 0; decide, by show (0 : Int) ≤ _; omega⟩, by decide, by show (0 : Int) ≤ _; omega⟩, fun i i0 i1 => absurd i1 (by show ¬ i < 0; omega), fun i i0 i1 => absurd i1 (by show ¬ i < 0; omega), fun i j i0 i1 j1 => absurd j1 (by show ¬ j < 0; omega)⟩
  rintro G ⟨nx, k⟩ ⟨⟨⟨k0, k1⟩, n0, n1⟩, A, B, C⟩ ih
  simp only at k0 k1 n0 n1 A B C
  unfold L_X11_inSameOrder_5 F_X11_inSameOrder_98
  dsimp only
  refine ⟨la, rfl, a1, ?_⟩
  rw [a2]
  by_cases ek : lnS s ax ≤ k
  · rw [if_pos ek]
    show P 1
    rw [cb_1 (p := ordP s b t ax) (fun i j i0 ij j1 => C i j i0 ij (by omega))] at h; exact h
  · rw [if_neg ek, w32e (x := k + 1) (by omega) (by omega)]
    refine ⟨k0, by omega, lb, rfl, b1, o_placeIn bb hb ?_⟩
    have ek1 := a3 k k0 (by omega)
    rw [ek1, Int.add_sub_cancel]
    have pb := plS_b b ax (idS s ax k)
    have pt := plS_b t ax (idS s ax k)
    have skip : ¬ comP b t ax (idS s ax k) → G (nx, k + 1) := fun nc => by
      refine ih (nx, k + 1) ⟨⟨⟨by show 0 ≤ k + 1; omega, by show k + 1 ≤ _; omega⟩, n0, n1⟩, fun i i0 i1 c => ?_, fun m m0 m1 c => ?_, fun i j i0 ij j1 c1 c2 => ?_⟩ (by show (_ - (k + 1)).toNat < (_ - k).toNat; omega)
      · replace i1 : i < k + 1 := i1
        by_cases e : i = k
        · rw [e] at c; exact absurd c nc
        · exact A i i0 (by omega) c
      · have := B m m0 m1 c
        show _ < k + 1
        omega
      · replace j1 : j < k + 1 := j1
        by_cases e : j = k
        · rw [e] at c2; exact absurd c2 nc
        · exact C i j i0 ij (by omega) c1 c2
    by_cases e1 : plS b ax (idS s ax k) + 1 = 0
    · rw [if_pos e1]; exact skip (fun c => by have := c.1; omega)
    · rw [if_neg e1]
      refine ⟨lt, rfl, t1, o_placeIn bt ht ?_⟩
      rw [Int.add_sub_cancel]
      by_cases e2 : plS t ax (idS s ax k) + 1 = 0
      · rw [if_pos e2]; exact skip (fun c => by have := c.2; omega)
      · rw [if_neg e2]
        have cm : comP b t ax (idS s ax k) := ⟨by omega, by omega⟩
        unfold F_X11_inSameOrder_43
        refine lp_I (fun m => (nx ≤ m ∧ m ≤ lnS b ax) ∧ ∀ q, nx ≤ q → q < m → ¬ comP s t ax (idS b ax q)) (fun m => (lnS b ax - m).toNat) ?_ nx ⟨⟨by omega, n1⟩, fun q q0 q1 => by omega⟩
        rintro G2 m ⟨⟨m0, m1⟩, ms⟩ ih2
        have fin : (m < lnS b ax → comP s t ax (idS b ax m)) → F_X11_inSameOrder_79 (some la) (some lb) (some lt) m k (idS s ax k + 1) z (fun o => match o with
            | Sum.inl s => G s
            | Sum.inr e => match e with
              | Sum.inl _ => P 1
              | Sum.inr _ => P 0) := fun hc => by
          unfold F_X11_inSameOrder_79 F_X11_inSameOrder_98
          refine ⟨lb, rfl, b1, ?_⟩
          rw [b2]
          have pk : plS s ax (idS s ax k) = k := plS_id ds hax k0 (by omega)
          have hp : 0 ≤ plS b ax (idS s ax k) ∧ plS b ax (idS s ax k) < lnS b ax ∧ idS b ax (plS b ax (idS s ax k)) = idS s ax k := by
            rcases pb with w | w
            · omega
            · exact w
          have pge : nx ≤ plS b ax (idS s ax k) := by
            by_cases w : nx ≤ plS b ax (idS s ax k)
            · exact w
            · have := B _ hp.1 (by omega) (by rw [hp.2.2]; exact ⟨by omega, by omega⟩)
              rw [hp.2.2] at this; omega
          have pgm : m ≤ plS b ax (idS s ax k) := by
            by_cases w : m ≤ plS b ax (idS s ax k)
            · exact w
            · exact absurd (show comP s t ax (idS b ax (plS b ax (idS s ax k))) by rw [hp.2.2]; exact ⟨by omega, by omega⟩) (ms _ pge (by omega))
          rw [if_neg (by omega)]
          refine ⟨by omega, by omega, ?_⟩
          rw [b3 m (by omega) (by omega)]
          by_cases e5 : idS b ax m + 1 = idS s ax k + 1
          · rw [if_pos e5, w32e (x := m + 1) (by omega) (by omega), w32e (x := k + 1) (by omega) (by omega)]
            have epm : plS b ax (idS s ax k) = m := by rw [show idS s ax k = idS b ax m by omega]; exact plS_id db hax (by omega) (by omega)
            refine ih (m + 1, k + 1) ⟨⟨⟨by show 0 ≤ k + 1; omega, by show k + 1 ≤ _; omega⟩, by show 0 ≤ m + 1; omega, by show m + 1 ≤ _; omega⟩, fun i i0 i1 c => ?_, fun q q0 q1 c => ?_, fun i j i0 ij j1 c1 c2 => ?_⟩ (by show (_ - (k + 1)).toNat < (_ - k).toNat; omega)
            · replace i1 : i < k + 1 := i1
              show _ < m + 1
              by_cases e : i = k
              · rw [e]; omega
              · have := A i i0 (by omega) c; omega
            · replace q1 : q < m + 1 := q1
              show _ < k + 1
              by_cases eq : q = m
              · rw [eq, show idS b ax m = idS s ax k by omega]; omega
              · by_cases eq2 : nx ≤ q
                · exact absurd c (ms q eq2 (by omega))
                · have := B q q0 (by omega) c; omega
            · replace j1 : j < k + 1 := j1
              by_cases e : j = k
              · rw [e]; have := A i i0 (by omega) c1; omega
              · exact C i j i0 ij (by omega) c1 c2
          · rw [if_neg e5]
            show P 0
            rw [cb_0 (p := ordP s b t ax) (fun q => ?_)] at h
            · exact h
            · have cc := hc (by omega)
              have pm : plS b ax (idS b ax m) = m := plS_id db hax (by omega) (by omega)
              rcases plS_b s ax (idS b ax m) with w | ⟨w1, w2, w3⟩
              · have := cc.1; omega
              · have cj : comP b t ax (idS s ax (plS s ax (idS b ax m))) := by rw [w3]; exact ⟨by omega, cc.2⟩
                have jge : k < plS s ax (idS b ax m) := by
                  by_cases wk : k < plS s ax (idS b ax m)
                  · exact wk
                  · by_cases we : plS s ax (idS b ax m) = k
                    · rw [we] at w3; omega
                    · have := A _ w1 (by omega) cj
                      rw [w3] at this; omega
                have := q k _ k0 jge w2 cm cj
                rw [w3, pm] at this
                have pne : plS b ax (idS s ax k) ≠ m := fun we => e5 (by rw [← hp.2.2, we])
                omega
        unfold L_X11_inSameOrder_43 F_X11_inSameOrder_73
        refine ⟨lb, rfl, b1, ?_⟩
        rw [b2]
        by_cases em : lnS b ax ≤ m
        · rw [if_pos em]
          exact fin (fun w => by omega)
        · rw [if_neg em]
          refine ⟨la, rfl, a1, by omega, by omega, o_placeIn bs ha ?_⟩
          rw [b3 m (by omega) (by omega), Int.add_sub_cancel]
          have g1 := plS_m s ax (idS b ax m)
          have g2 := plS_m t ax (idS b ax m)
          have nxt2 : ¬ comP s t ax (idS b ax m) → G2 (w32 (m + 1)) := fun nc => by
            rw [w32e (by omega) (by omega)]
            refine ih2 (m + 1) ⟨⟨by omega, by omega⟩, fun q q0 q1 => ?_⟩ (by omega)
            by_cases eq : q = m
            · rw [eq]; exact nc
            · exact ms q q0 (by omega)
          by_cases f1 : plS s ax (idS b ax m) + 1 = 0
          · rw [if_pos f1]; exact nxt2 (fun c => by have := c.1; omega)
          · rw [if_neg f1]
            refine ⟨lt, rfl, t1, o_placeIn bt ht ?_⟩
            rw [Int.add_sub_cancel]
            by_cases f2 : plS t ax (idS b ax m) + 1 = 0
            · rw [if_pos f2]; exact nxt2 (fun c => by have := c.2; omega)
            · rw [if_neg f2]
              exact fin (fun _ => ⟨by omega, by omega⟩)
