/-! ===== merging: what stays of two lines ===== -/
def xOf (s : Sh) (ax id across : Int) : Cont := if ax = 0 then cOf s id across else cOf s across id
/-- the line id of s holds another content than in b -/
def chgP (s b : Sh) (ax id : Int) : Prop := ∃ k, 0 ≤ k ∧ k < lnS s (1 - ax) ∧ xOf s ax id (idS s (1 - ax) k) ≠ xOf b ax id (idS s (1 - ax) k)
/-- the line id of s stays, o being the other sheet -/
def stP (s o b : Sh) (ax id : Int) : Prop := 0 ≤ plS o ax id ∨ plS b ax id < 0 ∨ chgP s b ax id
theorem xOf_k {s : Sh} {ax id across : Int} (hax : ax = 0 ∨ ax = 1) (h1 : 0 ≤ plS s ax id) (h2 : 0 ≤ plS s (1 - ax) across) : if ax = 0 then knowsP s id across else knowsP s across id := by
  rcases hax with e | e
  · rw [if_pos e]; subst e; exact ⟨h1, h2⟩
  · rw [if_neg (by omega)]; subst e; exact ⟨h2, h1⟩
theorem i_xOf {u : Mu} {t ax id across : Int} {s : Sh} {K : Int → Prop} (hb : ShB s) (m : ShM u t s) (t0 : 0 ≤ t) (t1 : t < 122) (hy : (if ax = 0 then knowsP s id across else knowsP s across id) → ∀ q, 0 ≤ q → ContM u q (xOf s ax id across) → K q) (hn : ¬ (if ax = 0 then knowsP s id across else knowsP s across id) → xOf s ax id across = none → K (-1)) : if ax = 0 then F_X12_contentOf t id across u K else F_X12_contentOf t across id u K := by
  unfold xOf at hy hn
  by_cases e : ax = 0
  · simp only [if_pos e] at hy hn ⊢
    refine i_content hb m t0 t1 hy (fun k => hn k ?_)
    unfold cOf; rw [if_neg k]
  · simp only [if_neg e] at hy hn ⊢
    refine i_content hb m t0 t1 hy (fun k => hn k ?_)
    unfold cOf; rw [if_neg k]
theorem i_isChanged {u : Mu} {x y ax id : Int} {s b : Sh} {P : Int → Prop} (B : CoB u) (hax : ax = 0 ∨ ax = 1) (bs : ShB s) (bb : ShB b) (ds : DsS s) (ms : ShM u x s) (mb : ShM u y b) (hx : 0 ≤ x ∧ x < 122) (hy : 0 ≤ y ∧ y < 122) (hid : 0 ≤ plS s ax id) (h : P (cb (chgP s b ax id))) : F_X12_isChanged x ax id y u P := by
  have ls := lnS_b bs (1 - ax)
  have m32 := mst_32 (1 - ax)
  have hax' : 1 - ax = 0 ∨ 1 - ax = 1 := by omega
  unfold F_X12_isChanged F_X12_isChanged_3 F_X12_isChanged_104
  refine lp_I (fun k => (0 ≤ k ∧ k ≤ lnS s (1 - ax)) ∧ ∀ j, 0 ≤ j → j < k → xOf s ax id (idS s (1 - ax) j) = xOf b ax id (idS s (1 - ax) j)) (fun k => (lnS s (1 - ax) - k).toNat) ?_ 0 ⟨⟨by decide, by omega⟩, fun j j0 j1 => by omega⟩
  rintro G k ⟨⟨k0, k1⟩, ks⟩ ih
  unfold L_X12_isChanged_3 F_X12_isChanged_51 F_X12_isChanged_78 F_X12_isChanged_106
  rw [w32e (x := 1 - ax) (by omega) (by omega)]
  refine i_linesOf hx.1 hx.2 ?_
  rw [ShM_ln ms (1 - ax)]
  by_cases ek : lnS s (1 - ax) ≤ k
  · rw [if_pos ek]
    show P 0
    rw [cb_0 (fun ⟨j, j0, j1, j2⟩ => j2 (ks j j0 (by omega)))] at h; exact h
  · rw [if_neg ek, w32e (x := k + 1) (by omega) (by omega)]
    refine i_lineAt hx.1 hx.2 k0 (by omega) ?_
    rw [ShM_id ms (1 - ax) k k0 (by omega)]
    have pk : plS s (1 - ax) (idS s (1 - ax) k) = k := plS_id ds hax' k0 (by omega)
    refine i_xOf (K := fun x_37 => if ax = 0 then F_X12_contentOf y id (idS s (1 - ax) k) u (fun x_63 => _) else F_X12_contentOf y (idS s (1 - ax) k) id u (fun x_75 => _)) bs ms hx.1 hx.2 (fun kn q q0 hq => ?_) (fun kn => absurd (xOf_k hax hid (by omega)) kn)
    have go : xOf s ax id (idS s (1 - ax) k) = xOf b ax id (idS s (1 - ax) k) → G (k + 1) := fun e => by
      refine ih (k + 1) ⟨⟨by omega, by omega⟩, fun j j0 j1 => ?_⟩ (by omega)
      by_cases ej : j = k
      · rw [ej]; exact e
      · exact ks j j0 (by omega)
    have no : xOf s ax id (idS s (1 - ax) k) ≠ xOf b ax id (idS s (1 - ax) k) → P 1 := fun e => by
      rw [cb_1 ⟨k, k0, by omega, e⟩] at h; exact h
    refine i_xOf bb mb hy.1 hy.2 (fun kn2 q2 q20 hq2 => ?_) (fun kn2 en => ?_)
    · rw [if_pos q20]
      refine i_alike B hq hq2 (fun e => ?_) (fun e => ?_)
      · rw [if_neg (by decide)]; exact go e
      · rw [if_pos rfl]; exact no e
    · rw [if_neg (by decide)]
      rcases ContM_0 hq with ⟨z1, z2⟩ | ⟨z1, z2⟩
      · rw [if_pos z1]
        refine go ?_
        rw [en]
        revert z2
        cases xOf s ax id (idS s (1 - ax) k) with
        | none => intro _; rfl
        | some c => intro w; exact absurd (show (1 : Int) = 0 from w) (by decide)
      · rw [if_neg z1]
        refine no ?_
        rw [en]
        intro w
        rw [w] at z2
        exact absurd (show (0 : Int) = 1 from z2) (by decide)
theorem i_isIn {u : Mu} {x w y ax id : Int} {s o b : Sh} {P : Int → Prop} (B : CoB u) (hax : ax = 0 ∨ ax = 1) (bs : ShB s) (bo : ShB o) (bb : ShB b) (ds : DsS s) (ms : ShM u x s) (mo : ShM u w o) (mb : ShM u y b) (hx : 0 ≤ x ∧ x < 122) (hw : 0 ≤ w ∧ w < 122) (hy : 0 ≤ y ∧ y < 122) (hid : 0 ≤ plS s ax id) (h : P (cb (stP s o b ax id))) : F_X12_isIn x w ax id y u P := by
  unfold F_X12_isIn F_X12_isIn_36 F_X12_isIn_41
  refine i_placeS bo mo hw.1 hw.2 ?_
  by_cases e1 : 0 ≤ plS o ax id
  · rw [if_pos e1]; rw [cb_1 (p := stP s o b ax id) (Or.inl e1)] at h; exact ⟨z1_1, h⟩
  · rw [if_neg e1]
    refine i_placeS bb mb hy.1 hy.2 ?_
    by_cases e2 : plS b ax id < 0
    · rw [if_pos e2]; rw [cb_1 (p := stP s o b ax id) (Or.inr (Or.inl e2))] at h; exact ⟨z1_1, h⟩
    · rw [if_neg e2]
      refine i_isChanged B hax bs bb ds ms mb hx hy hid ?_
      by_cases e3 : chgP s b ax id
      · rw [cb_1 e3, if_neg (by decide)]; rw [cb_1 (p := stP s o b ax id) (Or.inr (Or.inr e3))] at h; exact ⟨z1_1, h⟩
      · rw [cb_0 e3, if_pos rfl]
        rw [cb_0 (p := stP s o b ax id) (fun q => q.elim e1 (fun q => q.elim e2 e3))] at h; exact ⟨z1_0, h⟩
/-! the system's -/
/-- the Merger's three Sheets -/
def Mg3 (z : Z) (b : Nat → Nat) (I : Nat → Prop) (a1 a2 a3 : Nat) (w t c : Sh) : Prop := (zK z (b 5) = 4 ∧ zO z (b 5) 3 = some a1 ∧ zO z (b 5) 4 = some a2 ∧ zO z (b 5) 5 = some a3) ∧ ShC z I a1 w ∧ ShC z I a2 t ∧ ShC z I a3 c
theorem o_xOf {z : Z} {I : Nat → Prop} {a : Nat} {s : Sh} {ax id across : Int} {K : Option Nat → Prop} (hs : ShC z I a s) (h : ∀ q, ContC z I q (xOf s ax id across) → K q) : F_X6_of a (if ax = 0 then id + 1 else across + 1) (if ax = 0 then across + 1 else id + 1) z K := by
  unfold xOf at h
  by_cases e : ax = 0
  · simp only [if_pos e] at h ⊢
    refine o_of hs (fun q hq => h q ?_)
    rw [Int.add_sub_cancel, Int.add_sub_cancel] at hq; exact hq
  · simp only [if_neg e] at h ⊢
    refine o_of hs (fun q hq => h q ?_)
    rw [Int.add_sub_cancel, Int.add_sub_cancel] at hq; exact hq
theorem xOf_CoK {s : Sh} {ax id across : Int} (cs : CoS s) : CoK (xOf s ax id across) := by
  have key : ∀ r c, CoK (cOf s r c) := fun r c => by
    unfold cOf
    split
    · next k => exact cs _ _ k.1 (plS_r k.1).1 k.2 (plS_c k.2).1
    · intro k l ps w; cases w
  unfold xOf; split
  · exact key _ _
  · exact key _ _
theorem o_isChanged {z : Z} {b : Nat → Nat} {I : Nat → Prop} {a a3 : Nat} {s d : Sh} {ax id : Int} {P : Int → Prop} (hw : WzI z I) (hax : ax = 0 ∨ ax = 1) (k5 : zK z (b 5) = 4) (o5 : zO z (b 5) 5 = some a3) (hs : ShC z I a s) (hd : ShC z I a3 d) (cs : CoS s) (cd : CoS d) (h : P (cb (chgP s d ax id))) : F_X3_isChanged (b 5) (some a) ax (id + 1) z P := by
  have bs := ShC_b hs
  have ls := lnS_b bs (1 - ax)
  have m32 := mst_32 (1 - ax)
  unfold F_X3_isChanged
  rw [w32e (x := 1 - ax) (by omega) (by omega)]
  refine ⟨a, rfl, ShC_7 hs, o_lineS (by omega) hs (fun la ⟨l1, l2, l3⟩ _ => ?_)⟩
  unfold F_X3_isChanged_12
  refine lp_I (fun k => (0 ≤ k ∧ k ≤ lnS s (1 - ax)) ∧ ∀ j, 0 ≤ j → j < k → xOf s ax id (idS s (1 - ax) j) = xOf d ax id (idS s (1 - ax) j)) (fun k => (lnS s (1 - ax) - k).toNat) ?_ 0 ⟨⟨by decide, by omega⟩, fun j j0 j1 => by omega⟩
  rintro G k ⟨⟨k0, k1⟩, ks⟩ ih
  unfold L_X3_isChanged_12 F_X3_isChanged_33 F_X3_isChanged_48
  refine ⟨la, rfl, l1, ?_⟩
  rw [l2]
  by_cases ek : lnS s (1 - ax) ≤ k
  · rw [if_pos ek]
    show P 0
    rw [cb_0 (fun ⟨j, j0, j1, j2⟩ => j2 (ks j j0 (by omega)))] at h; exact h
  · rw [if_neg ek, w32e (x := k + 1) (by omega) (by omega), l3 k k0 (by omega)]
    have fin : ∃ a_55, some a = some a_55 ∧ zK z a_55 = 7 ∧ F_X6_of a_55 (if ax = 0 then id + 1 else idS s (1 - ax) k + 1) (if ax = 0 then idS s (1 - ax) k + 1 else id + 1) z (fun x_55 => (zK z (b 5) = 4 ∧ (∃ a_66, zO z (b 5) 5 = some a_66 ∧ zK z a_66 = 7 ∧ F_X6_of a_66 (if ax = 0 then id + 1 else idS s (1 - ax) k + 1) (if ax = 0 then idS s (1 - ax) k + 1 else id + 1) z (fun x_66 => F_X1_alike x_55 x_66 z (fun x_69 => (if x_69 = 0 then P 1 else G (k + 1))))))) := by
      refine ⟨a, rfl, ShC_7 hs, o_xOf hs (fun q hq => ⟨k5, a3, o5, ShC_7 hd, o_xOf hd (fun q2 hq2 => ?_)⟩)⟩
      refine o_alike hw hq hq2 (xOf_CoK cs) (xOf_CoK cd) (fun e => ?_) (fun e => ?_)
      · rw [if_neg (by decide)]
        refine ih (k + 1) ⟨⟨by omega, by omega⟩, fun j j0 j1 => ?_⟩ (by omega)
        by_cases ej : j = k
        · rw [ej]; exact e
        · exact ks j j0 (by omega)
      · rw [if_pos rfl]
        rw [cb_1 ⟨k, k0, by omega, e⟩] at h; exact h
    by_cases e : ax = 0
    · rw [if_pos e, if_pos e]
      simp only [if_pos e] at fin
      exact ⟨la, rfl, l1, k0, by rw [l2]; omega, by rw [l3 k k0 (by omega)]; exact fin⟩
    · rw [if_neg e]
      simp only [if_neg e] at fin
      refine ⟨k0, by omega, ?_⟩
      rw [if_neg e]
      exact fin
theorem o_stays {z : Z} {b : Nat → Nat} {I : Nat → Prop} {a1 a2 a3 : Nat} {w t d : Sh} {ax id : Int} {P : Int → Prop} (hw : WzI z I) (hax : ax = 0 ∨ ax = 1) (M : Mg3 z b I a1 a2 a3 w t d) (cs : CoS w) (ct : CoS t) (cd : CoS d) (h : P (cb (if 0 ≤ plS w ax id then stP w t d ax id else stP t w d ax id))) (hin : 0 ≤ plS w ax id ∨ 0 ≤ plS t ax id) : F_X3_stays (b 5) ax (id + 1) z P := by
  obtain ⟨⟨k5, o3, o4, o5⟩, h1, h2, h3⟩ := M
  have p1 := plS_m w ax id
  have p2 := plS_m t ax id
  have p3 := plS_m d ax id
  unfold F_X3_stays F_X3_stays_17 F_X3_stays_35 F_X3_stays_46 F_X3_stays_74 F_X3_stays_82 F_X3_stays_87
  refine ⟨k5, a1, o3, ShC_7 h1, o_placeOf h1 ?_⟩
  rw [Int.add_sub_cancel]
  by_cases e1 : 0 ≤ plS w ax id
  · rw [if_neg (show ¬ plS w ax id + 1 ≤ 0 by omega)]
    rw [if_pos e1] at h
    refine ⟨k5, a2, o4, ShC_7 h2, o_placeOf h2 ?_⟩
    rw [Int.add_sub_cancel]
    by_cases e2 : 0 ≤ plS t ax id
    · rw [if_neg (show ¬ plS t ax id + 1 ≤ 0 by omega), if_neg (by decide), if_neg (by decide)]
      rw [cb_1 (p := stP w t d ax id) (Or.inl e2)] at h; exact ⟨z1_1, h⟩
    · rw [if_pos (show plS t ax id + 1 ≤ 0 by omega), if_neg (by decide), if_pos rfl]
      refine ⟨k5, a3, o5, ShC_7 h3, o_placeOf h3 ?_⟩
      rw [Int.add_sub_cancel]
      by_cases e3 : plS d ax id < 0
      · rw [if_pos (by omega)]
        rw [cb_1 (p := stP w t d ax id) (Or.inr (Or.inl e3))] at h; exact ⟨z1_1, h⟩
      · rw [if_neg (by omega), if_neg (by decide), o3]
        refine ⟨b 5, rfl, k5, o_isChanged hw hax k5 o5 h1 h3 cs cd ?_⟩
        by_cases e4 : chgP w d ax id
        · rw [cb_1 e4, if_neg (by decide)]; rw [cb_1 (p := stP w t d ax id) (Or.inr (Or.inr e4))] at h; exact ⟨z1_1, h⟩
        · rw [cb_0 e4, if_pos rfl]; rw [cb_0 (p := stP w t d ax id) (fun q => q.elim e2 (fun q => q.elim e3 e4))] at h; exact ⟨z1_0, h⟩
  · rw [if_pos (show plS w ax id + 1 ≤ 0 by omega)]
    rw [if_neg e1] at h
    refine ⟨k5, a2, o4, ShC_7 h2, o_placeOf h2 ?_⟩
    rw [Int.add_sub_cancel, if_neg (show ¬ plS t ax id + 1 ≤ 0 by omega), if_pos rfl]
    refine ⟨k5, a3, o5, ShC_7 h3, o_placeOf h3 ?_⟩
    rw [Int.add_sub_cancel]
    by_cases e3 : plS d ax id < 0
    · rw [if_pos (by omega)]
      rw [cb_1 (p := stP t w d ax id) (Or.inr (Or.inl e3))] at h; exact ⟨z1_1, h⟩
    · rw [if_neg (by omega), if_pos rfl, o4]
      refine ⟨b 5, rfl, k5, o_isChanged hw hax k5 o5 h2 h3 ct cd ?_⟩
      by_cases e4 : chgP t d ax id
      · rw [cb_1 e4, if_neg (by decide)]; rw [cb_1 (p := stP t w d ax id) (Or.inr (Or.inr e4))] at h; exact ⟨z1_1, h⟩
      · rw [cb_0 e4, if_pos rfl]; rw [cb_0 (p := stP t w d ax id) (fun q => q.elim e1 (fun q => q.elim e3 e4))] at h; exact ⟨z1_0, h⟩
