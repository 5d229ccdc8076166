/-! ===== lines of the reference's working sheet ===== -/
def lg (ax : Int) : Int := if ax = 0 then 10 else 32
def onL (ax j k : Int) : Int := if ax = 0 then 10 * j + k else 10 * k + j
/-- lines: id, codes by the place across -/
abbrev LT : Type := Int → Int × (Int → Int)
def upL (T : LT) (j : Int) (d : Int × (Int → Int)) : LT := fun a => if a = j then d else T a
def wL4 : WR := [(1, none), (2, none), (3, none), (4, none), (5, none)]
/-- v is u but for its working sheet, whose lines along ax are T, how many: n -/
def W4 (u v : Mu) (ax : Int) (T : LT) (n : Int) : Prop := (∀ j, 0 ≤ j → j < mst ax → idM v 40 ax j = (T j).1 ∧ ∀ k, 0 ≤ k → k < lg ax → mI v 5 (12800 + onL ax j k) = (T j).2 k) ∧ FrM wL4 u v ∧ (∀ t, 0 ≤ t → t ≠ 40 → SlM u v t t) ∧ (∀ k, 0 ≤ k → k < mst (1 - ax) → idM v 40 (1 - ax) k = idM u 40 (1 - ax) k) ∧ lnM v 40 (1 - ax) = lnM u 40 (1 - ax) ∧ lnM v 40 ax = n
theorem onL_b {ax j k : Int} (hax : ax = 0 ∨ ax = 1) (j0 : 0 ≤ j) (j1 : j < mst ax) (k0 : 0 ≤ k) (k1 : k < lg ax) : 0 ≤ onL ax j k ∧ onL ax j k < 320 := by
  unfold mst at j1; unfold lg at k1; unfold onL
  rcases hax with rfl | rfl
  · rw [if_pos rfl] at *; omega
  · rw [if_neg (by decide)] at *; omega
theorem onL_i {ax j k j' k' : Int} (hax : ax = 0 ∨ ax = 1) (j0 : 0 ≤ j) (j1 : j < mst ax) (k0 : 0 ≤ k) (k1 : k < lg ax) (j0' : 0 ≤ j') (j1' : j' < mst ax) (k0' : 0 ≤ k') (k1' : k' < lg ax) (h : onL ax j k = onL ax j' k') : j = j' ∧ k = k' := by
  unfold mst at j1 j1'; unfold lg at k1 k1'; unfold onL at h
  rcases hax with rfl | rfl
  · rw [if_pos rfl] at *; omega
  · rw [if_neg (by decide)] at *; omega
theorem W4_x {u v : Mu} {ax n : Int} {T T' : LT} (h : W4 u v ax T n) (e : ∀ j, 0 ≤ j → j < mst ax → (T j).1 = (T' j).1 ∧ ∀ k, 0 ≤ k → k < lg ax → (T j).2 k = (T' j).2 k) : W4 u v ax T' n := by
  refine ⟨fun j j0 j1 => ?_, h.2⟩
  obtain ⟨h1, h2⟩ := h.1 j j0 j1
  obtain ⟨e1, e2⟩ := e j j0 j1
  exact ⟨h1.trans e1, fun k k0 k1 => (h2 k k0 k1).trans (e2 k k0 k1)⟩
theorem W4_cell {u v : Mu} {ax n j k x : Int} {T : LT} (hax : ax = 0 ∨ ax = 1) (h : W4 u v ax T n) (j0 : 0 ≤ j) (j1 : j < mst ax) (k0 : 0 ≤ k) (k1 : k < lg ax) : W4 u (uI v 5 (12800 + onL ax j k) x) ax (upL T j ((T j).1, fun k' => if k' = k then x else (T j).2 k')) n := by
  obtain ⟨h1, h2, h3, h4, h5, h6⟩ := h
  have ob := onL_b hax j0 j1 k0 k1
  have ei : ∀ a j, idM (uI v 5 (12800 + onL ax j k) x) 40 a j = idM v 40 a j := fun a j => by unfold idM; split <;> rw [mI_uI, if_neg (by omega)]
  have ei' : ∀ a j', idM (uI v 5 (12800 + onL ax j k) x) 40 a j' = idM v 40 a j' := fun a j' => by unfold idM; split <;> rw [mI_uI, if_neg (by omega)]
  have el : ∀ a, lnM (uI v 5 (12800 + onL ax j k) x) 40 a = lnM v 40 a := fun a => by unfold lnM; split <;> rw [mI_uI, if_neg (by omega)]
  refine ⟨fun j' j0' j1' => ?_, FrM_uI h2 (wHas_a (by decide)), fun t t0 t1 => ?_, fun k' a c => by rw [ei']; exact h4 k' a c, by rw [el]; exact h5, by rw [el]; exact h6⟩
  · obtain ⟨g1, g2⟩ := h1 j' j0' j1'
    rw [ei']
    unfold upL
    by_cases e : j' = j
    · rw [if_pos e]
      subst e
      refine ⟨g1, fun k' a c => ?_⟩
      rw [mI_uI]
      dsimp only
      by_cases e2 : k' = k
      · rw [if_pos e2, if_pos ⟨rfl, by rw [e2]⟩]
      · rw [if_neg e2, if_neg (fun w => e2 (onL_i hax j0' j1' a c j0 j1 k0 k1 (by omega)).2)]; exact g2 k' a c
    · rw [if_neg e]
      refine ⟨g1, fun k' a c => ?_⟩
      rw [mI_uI, if_neg (fun w => e (onL_i hax j0' j1' a c j0 j1 k0 k1 (by omega)).1)]; exact g2 k' a c
  · obtain ⟨s1, s2, s3, s4, s5⟩ := h3 t t0 t1
    refine ⟨?_, ?_, fun k' a c => ?_, fun k' a c => ?_, fun k' a c => ?_⟩ <;> rw [mI_uI, if_neg (by omega)]
    · exact s1
    · exact s2
    · exact s3 k' a c
    · exact s4 k' a c
    · exact s5 k' a c
def idw (v : Mu) (ax j x : Int) : Mu := if ax = 0 then uI v 3 (1280 + j) x else uI v 4 (400 + j) x
theorem W4_id {u v : Mu} {ax n j x : Int} {T : LT} (hax : ax = 0 ∨ ax = 1) (h : W4 u v ax T n) (j0 : 0 ≤ j) (j1 : j < mst ax) : W4 u (idw v ax j x) ax (upL T j (x, (T j).2)) n := by
  obtain ⟨h1, h2, h3, h4, h5, h6⟩ := h
  unfold idw
  rcases hax with rfl | rfl
  · rw [if_pos rfl]
    have jm : j < 32 := j1
    have e5 : ∀ i, mI (uI v 3 (1280 + j) x) 5 i = mI v 5 i := fun i => by rw [mI_uI, if_neg (by omega)]
    refine ⟨fun j' j0' j1' => ?_, FrM_uI h2 (wHas_a (by decide)), fun t t0 t1 => ?_, fun k' a c => ?_, ?_, ?_⟩
    · obtain ⟨g1, g2⟩ := h1 j' j0' j1'
      unfold upL
      have q : idM (uI v 3 (1280 + j) x) 40 0 j' = if j' = j then x else idM v 40 0 j' := by
        show mI (uI v 3 (1280 + j) x) 3 (32 * 40 + j') = if j' = j then x else mI v 3 (32 * 40 + j')
        rw [mI_uI]
        by_cases e : j' = j
        · rw [if_pos e, if_pos ⟨rfl, by omega⟩]
        · rw [if_neg e, if_neg (by omega)]
      rw [q]
      by_cases e : j' = j
      · rw [if_pos e, if_pos e]; subst e; exact ⟨rfl, fun k' a c => by rw [e5]; exact g2 k' a c⟩
      · rw [if_neg e, if_neg e]; exact ⟨g1, fun k' a c => by rw [e5]; exact g2 k' a c⟩
    · obtain ⟨s1, s2, s3, s4, s5⟩ := h3 t t0 t1
      refine ⟨?_, ?_, fun k' a c => ?_, fun k' a c => ?_, fun k' a c => ?_⟩ <;> rw [mI_uI, if_neg (by omega)]
      · exact s1
      · exact s2
      · exact s3 k' a c
      · exact s4 k' a c
      · exact s5 k' a c
    · have q := h4 k' a c
      unfold idM at q ⊢
      rw [if_neg (by decide)] at q ⊢
      rw [mI_uI, if_neg (by omega)]; exact q
    · unfold lnM at h5 ⊢; rw [if_neg (by decide)] at h5 ⊢; rw [mI_uI, if_neg (by omega)]; exact h5
    · unfold lnM at h6 ⊢; rw [if_pos rfl] at h6 ⊢; rw [mI_uI, if_neg (by omega)]; exact h6
  · rw [if_neg (by decide)]
    have jm : j < 10 := j1
    have e5 : ∀ i, mI (uI v 4 (400 + j) x) 5 i = mI v 5 i := fun i => by rw [mI_uI, if_neg (by omega)]
    refine ⟨fun j' j0' j1' => ?_, FrM_uI h2 (wHas_a (by decide)), fun t t0 t1 => ?_, fun k' a c => ?_, ?_, ?_⟩
    · obtain ⟨g1, g2⟩ := h1 j' j0' j1'
      unfold upL
      have q : idM (uI v 4 (400 + j) x) 40 1 j' = if j' = j then x else idM v 40 1 j' := by
        show mI (uI v 4 (400 + j) x) 4 (10 * 40 + j') = if j' = j then x else mI v 4 (10 * 40 + j')
        rw [mI_uI]
        by_cases e : j' = j
        · rw [if_pos e, if_pos ⟨rfl, by omega⟩]
        · rw [if_neg e, if_neg (by omega)]
      rw [q]
      by_cases e : j' = j
      · rw [if_pos e, if_pos e]; subst e; exact ⟨rfl, fun k' a c => by rw [e5]; exact g2 k' a c⟩
      · rw [if_neg e, if_neg e]; exact ⟨g1, fun k' a c => by rw [e5]; exact g2 k' a c⟩
    · obtain ⟨s1, s2, s3, s4, s5⟩ := h3 t t0 t1
      refine ⟨?_, ?_, fun k' a c => ?_, fun k' a c => ?_, fun k' a c => ?_⟩ <;> rw [mI_uI, if_neg (by omega)]
      · exact s1
      · exact s2
      · exact s3 k' a c
      · exact s4 k' a c
      · exact s5 k' a c
    · have q := h4 k' a c
      unfold idM at q ⊢
      rw [if_pos (by decide)] at q ⊢
      rw [mI_uI, if_neg (by omega)]; exact q
    · unfold lnM at h5 ⊢; rw [if_pos (by decide)] at h5 ⊢; rw [mI_uI, if_neg (by omega)]; exact h5
    · unfold lnM at h6 ⊢; rw [if_neg (by decide)] at h6 ⊢; rw [mI_uI, if_neg (by omega)]; exact h6
theorem i_longOf {ax : Int} {P : Int → Prop} (h : P (lg ax)) : F_X12_longOf ax P := by
  unfold F_X12_longOf F_X12_longOf_11; unfold lg at h
  split
  · next c => rw [if_pos c] at h; exact h
  · next c => rw [if_neg c] at h; exact h
theorem i_onLine {ax j k : Int} {P : Int → Prop} (j0 : 0 ≤ j) (j1 : j < 40) (k0 : 0 ≤ k) (k1 : k < 40) (h : P (onL ax j k)) : F_X12_onLine ax j k P := by
  unfold F_X12_onLine F_X12_onLine_19; unfold onL at h
  split
  · next c => rw [if_pos c] at h; rw [w32e (x := 10 * j) (by omega) (by omega), w32e (by omega) (by omega)]; exact h
  · next c => rw [if_neg c] at h; rw [w32e (x := 10 * k) (by omega) (by omega), w32e (by omega) (by omega)]; exact h
theorem i_setLine {ax j x : Int} {v : Mu} {P : Mu → Prop} (hax : ax = 0 ∨ ax = 1) (j0 : 0 ≤ j) (j1 : j < mst ax) (h : P (idw v ax j x)) : F_X12_setLine 40 ax j x v P := by
  unfold F_X12_setLine F_X12_setLine_33; unfold idw at h; unfold mst at j1
  rcases hax with rfl | rfl
  · rw [if_pos rfl] at h j1 ⊢
    simp (disch := omega) only [w32e]
    refine ⟨by omega, by omega, ?_⟩
    rintro _ rfl; exact h
  · rw [if_neg (by decide)] at h j1 ⊢
    simp (disch := omega) only [w32e]
    refine ⟨by omega, by omega, ?_⟩
    rintro _ rfl; exact h
theorem mst_b (ax : Int) : 10 ≤ mst ax ∧ mst ax ≤ 32 := by unfold mst; split <;> omega
theorem lg_b (ax : Int) : 10 ≤ lg ax ∧ lg ax ≤ 32 := by unfold lg; split <;> omega
/-- line i of slot s -/
def lnD (u : Mu) (s ax i : Int) : Int × (Int → Int) := (idM u s ax i, fun k => mI u 5 (320 * s + onL ax i k))
theorem i_comeLine {u v : Mu} {ax n i s j : Int} {T : LT} {P : Mu → Prop} (hax : ax = 0 ∨ ax = 1) (W : W4 u v ax T n) (i0 : 0 ≤ i) (i1 : i < mst ax) (s0 : 41 ≤ s) (s1 : s < 122) (j0 : 0 ≤ j) (j1 : j < mst ax) (h : ∀ w, W4 u w ax (upL T j (lnD u s ax i)) n → P w) : F_X12_comeLine ax i s j v P := by
  have mb := mst_b ax
  have lb := lg_b ax
  unfold F_X12_comeLine
  refine i_lineAt (by omega) s1 i0 i1 (i_setLine hax j0 j1 ?_)
  have sl := W.2.2.1 s (by omega) (by omega)
  have eId : idM v s ax i = idM u s ax i := by
    unfold mst at i1; unfold idM
    rcases hax with rfl | rfl
    · rw [if_pos rfl] at i1 ⊢; rw [if_pos rfl]; exact sl.2.2.1 i i0 i1
    · rw [if_neg (by decide)] at i1 ⊢; rw [if_neg (by decide)]; exact sl.2.2.2.1 i i0 i1
  rw [eId]
  have W1 := W4_id (x := idM u s ax i) hax W j0 j1
  generalize idw v ax j (idM u s ax i) = v1 at W1 ⊢
  unfold F_X12_comeLine_19
  refine lp_I (fun q => (0 ≤ q.1 ∧ q.1 ≤ lg ax) ∧ W4 u q.2 ax (upL T j (idM u s ax i, fun k => if k < q.1 then mI u 5 (320 * s + onL ax i k) else (T j).2 k)) n) (fun q => (lg ax - q.1).toNat) ?_ (0, v1) ⟨⟨by show (0 : Int) ≤ 0; decide, by show 0 ≤ lg ax; omega⟩, ?_⟩
  · rintro G ⟨k, w⟩ ⟨⟨k0, k1⟩, Ww⟩ ih
    simp only at k0 k1 Ww
    unfold L_X12_comeLine_19
    dsimp only
    refine i_longOf ?_
    by_cases e : lg ax ≤ k
    · rw [if_pos e]
      refine h w (W4_x Ww (fun j' a c => ?_))
      unfold upL lnD
      by_cases e2 : j' = j
      · rw [if_pos e2, if_pos e2]; exact ⟨rfl, fun k' a c => by dsimp only; rw [if_pos (by omega)]⟩
      · rw [if_neg e2, if_neg e2]; exact ⟨rfl, fun _ _ _ => rfl⟩
    · rw [if_neg e]
      refine i_onLine j0 (by omega) k0 (by omega) (i_onLine i0 (by omega) k0 (by omega) ?_)
      have o1 := onL_b hax j0 j1 k0 (by omega : k < lg ax)
      have o2 := onL_b hax i0 i1 k0 (by omega : k < lg ax)
      rw [w32e (x := 320 * s) (by omega) (by omega), w32e (x := 320 * s + onL ax i k) (by omega) (by omega), w32e (x := 12800 + onL ax j k) (by omega) (by omega), w32e (x := k + 1) (by omega) (by omega)]
      refine ⟨by omega, by omega, by omega, by omega, ?_⟩
      rintro _ rfl
      rw [(Ww.2.2.1 s (by omega) (by omega)).2.2.2.2 (onL ax i k) o2.1 o2.2]
      refine ih (k + 1, _) ⟨⟨by show 0 ≤ k + 1; omega, by show k + 1 ≤ lg ax; omega⟩, W4_x (W4_cell hax Ww j0 j1 k0 (by omega)) (fun j' a c => ?_)⟩ (by show (lg ax - (k + 1)).toNat < (lg ax - k).toNat; omega)
      unfold upL
      dsimp only
      by_cases e2 : j' = j
      · rw [if_pos e2, if_pos e2, if_pos rfl]
        refine ⟨rfl, fun k' a c => ?_⟩
        dsimp only
        by_cases e3 : k' = k
        · rw [if_pos e3, if_pos (by omega), e3]
        · rw [if_neg e3]
          by_cases e4 : k' < k
          · rw [if_pos e4, if_pos (by omega)]
          · rw [if_neg e4, if_neg (by omega)]
      · rw [if_neg e2, if_neg e2, if_neg e2]; exact ⟨rfl, fun _ _ _ => rfl⟩
  · refine W4_x W1 (fun j' a c => ?_)
    unfold upL
    by_cases e2 : j' = j
    · rw [if_pos e2, if_pos e2]; exact ⟨rfl, fun k' a c => by dsimp only; rw [if_neg (by omega)]⟩
    · rw [if_neg e2, if_neg e2]; exact ⟨rfl, fun _ _ _ => rfl⟩
theorem i_emptyLine {u v : Mu} {ax n j : Int} {T : LT} {P : Mu → Prop} (hax : ax = 0 ∨ ax = 1) (W : W4 u v ax T n) (j0 : 0 ≤ j) (j1 : j < mst ax) (h : ∀ w, W4 u w ax (upL T j ((T j).1, fun _ => 0)) n → P w) : F_X12_emptyLine ax j v P := by
  have mb := mst_b ax
  have lb := lg_b ax
  unfold F_X12_emptyLine F_X12_emptyLine_2
  refine lp_I (fun q => (0 ≤ q.1 ∧ q.1 ≤ lg ax) ∧ W4 u q.2 ax (upL T j ((T j).1, fun k => if k < q.1 then 0 else (T j).2 k)) n) (fun q => (lg ax - q.1).toNat) ?_ (0, v) ⟨⟨by show (0 : Int) ≤ 0; decide, by show 0 ≤ lg ax; omega⟩, ?_⟩
  · rintro G ⟨k, w⟩ ⟨⟨k0, k1⟩, Ww⟩ ih
    simp only at k0 k1 Ww
    unfold L_X12_emptyLine_2
    dsimp only
    refine i_longOf ?_
    by_cases e : lg ax ≤ k
    · rw [if_pos e]
      refine h w (W4_x Ww (fun j' a c => ?_))
      unfold upL
      by_cases e2 : j' = j
      · rw [if_pos e2, if_pos e2]; exact ⟨rfl, fun k' a c => by dsimp only; rw [if_pos (by omega)]⟩
      · rw [if_neg e2, if_neg e2]; exact ⟨rfl, fun _ _ _ => rfl⟩
    · rw [if_neg e]
      refine i_onLine j0 (by omega) k0 (by omega) ?_
      have o1 := onL_b hax j0 j1 k0 (by omega : k < lg ax)
      rw [w32e (x := 12800 + onL ax j k) (by omega) (by omega), w32e (x := k + 1) (by omega) (by omega)]
      refine ⟨by omega, by omega, ?_⟩
      rintro _ rfl
      refine ih (k + 1, _) ⟨⟨by show 0 ≤ k + 1; omega, by show k + 1 ≤ lg ax; omega⟩, W4_x (W4_cell hax Ww j0 j1 k0 (by omega)) (fun j' a c => ?_)⟩ (by show (lg ax - (k + 1)).toNat < (lg ax - k).toNat; omega)
      unfold upL
      dsimp only
      by_cases e2 : j' = j
      · rw [if_pos e2, if_pos e2, if_pos rfl]
        refine ⟨rfl, fun k' a c => ?_⟩
        dsimp only
        by_cases e3 : k' = k
        · rw [if_pos e3, if_pos (by omega)]
        · rw [if_neg e3]
          by_cases e4 : k' < k
          · rw [if_pos e4, if_pos (by omega)]
          · rw [if_neg e4, if_neg (by omega)]
      · rw [if_neg e2, if_neg e2, if_neg e2]; exact ⟨rfl, fun _ _ _ => rfl⟩
  · refine W4_x W (fun j' a c => ?_)
    unfold upL
    by_cases e2 : j' = j
    · rw [if_pos e2, e2]; exact ⟨rfl, fun k' a c => by dsimp only; rw [if_neg (by omega)]⟩
    · rw [if_neg e2]; exact ⟨rfl, fun _ _ _ => rfl⟩
