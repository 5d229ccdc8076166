/-! ===== pure: what holds of every state ===== -/
def SO (m : Int) (g : Int → Int) (s : Sh) : Prop := VrS m s ∧ DsS s ∧ ∀ ax, ax = 0 ∨ ax = 1 → ∀ k, 0 ≤ k → k < lnS s ax → 0 ≤ idS s ax k ∧ idS s ax k < g ax
def InjZ (f : Int → Int) (n : Int) : Prop := ∀ i j, 0 ≤ i → i < n → 0 ≤ j → j < n → f i = f j → i = j
/-- a conflict's kind and contents -/
def CfO (m : Int) (f : Cf) : Prop := (1 ≤ f.1.1 ∧ f.1.1 ≤ 3) ∧ VrC m f.2.1 ∧ VrC m f.2.2.1
def PV (S : SS) : Prop := (∀ v, 0 ≤ v → v < S.2.1.1 → SO v (nxt S) (S.2.1.2.1 v)) ∧ SO S.2.1.1 (nxt S) S.2.2.2.1.1 ∧ (∀ k, 0 ≤ k → k < S.2.2.2.1.2.1 → SO S.2.1.1 (nxt S) (S.2.2.2.1.2.2.1 k)) ∧ (∀ k, 0 ≤ k → k < S.2.2.2.1.2.2.2.1 → SO S.2.1.1 (nxt S) (S.2.2.2.1.2.2.2.2 k)) ∧ (∀ k, 0 ≤ k → k < S.2.2.2.2.1 → CfO S.2.1.1 (S.2.2.2.2.2.1 k)) ∧ 0 ≤ nxt S 0 ∧ 0 ≤ nxt S 1
theorem VrC_0 {m : Int} : VrC m none := fun _ _ _ e => by cases e
theorem VrC_mo {m m' : Int} {c : Cont} (h : m ≤ m') (v : VrC m c) : VrC m' c := fun k l ps e p hp => by have := v k l ps e p hp; omega
theorem SO_mo {m m' : Int} {g g' : Int → Int} {s : Sh} (hm : m ≤ m') (hg : ∀ ax, ax = 0 ∨ ax = 1 → g ax ≤ g' ax) (h : SO m g s) : SO m' g' s := ⟨fun r c r0 r1 c0 c1 => VrC_mo hm (h.1 r c r0 r1 c0 c1), h.2.1, fun ax hax k k0 k1 => by have := h.2.2 ax hax k k0 k1; have := hg ax hax; omega⟩
theorem SO_c {m : Int} {g : Int → Int} {s : Sh} {F : Int → Int → Cont} (h : SO m g s) (hF : ∀ r c, 0 ≤ r → r < s.1.1 → 0 ≤ c → c < s.1.2 → VrC m (F r c)) : SO m g (s.1, s.2.1, s.2.2.1, F) := ⟨hF, h.2.1, h.2.2⟩
theorem SO_upd {m : Int} {g : Int → Int} {s : Sh} {r c : Int} {k : Cont} (h : SO m g s) (hk : VrC m k) : SO m g (updS s r c k) := SO_c h (fun a d a0 a1 d0 d1 => by
  by_cases q : a = r ∧ d = c
  · rw [if_pos q]; exact hk
  · rw [if_neg q]; exact h.1 a d a0 a1 d0 d1)
theorem SO_ers {m : Int} {g : Int → Int} {s : Sh} {p : Int → Int → Bool} (h : SO m g s) : SO m g (ersS s p) := SO_c h (fun a d a0 a1 d0 d1 => by
  by_cases q : p (a + 1) (d + 1) = true
  · rw [if_pos q]; exact VrC_0
  · rw [if_neg q]; exact h.1 a d a0 a1 d0 d1)
theorem SO_inj {m : Int} {g : Int → Int} {s : Sh} {ax : Int} (hax : ax = 0 ∨ ax = 1) (h : SO m g s) : InjZ (idS s ax) (lnS s ax) := fun i j i0 i1 j0 j1 e => h.2.1 ax hax i j i0 i1 j0 j1 e
theorem SO_shA {m n ax : Int} {g g' : Int → Int} {s : Sh} {ids : Int → Int} (hax : ax = 0 ∨ ax = 1) (h : SO m g s) (hg : ∀ a, a = 0 ∨ a = 1 → g a ≤ g' a) (hi : ∀ k, 0 ≤ k → k < n → 0 ≤ ids k ∧ ids k < g' ax) (hj : InjZ ids n) : SO m g' (shA s ax n ids) := by
  obtain ⟨h1, h2, h3⟩ := h
  have e := shA_ln s ax n ids hax
  refine ⟨?_, ?_, ?_⟩
  · rcases hax with rfl | rfl
    · intro r c r0 r1 c0 c1
      replace c1 : c < s.1.2 := c1
      show VrC m (if 0 ≤ plS s 0 (ids r) then s.2.2.2 (plS s 0 (ids r)) c else none)
      by_cases q : 0 ≤ plS s 0 (ids r)
      · rw [if_pos q]; exact h1 _ _ q (plS_r q).1 c0 c1
      · rw [if_neg q]; exact VrC_0
    · intro r c r0 r1 c0 c1
      replace r1 : r < s.1.1 := r1
      show VrC m (if 0 ≤ plS s 1 (ids c) then s.2.2.2 r (plS s 1 (ids c)) else none)
      by_cases q : 0 ≤ plS s 1 (ids c)
      · rw [if_pos q]; exact h1 _ _ r0 r1 q (plS_c q).1
      · rw [if_neg q]; exact VrC_0
  · intro a ha i j i0 i1 j0 j1 e'
    by_cases ca : a = ax
    · rw [ca, e.1] at i1 j1
      rw [ca, e.2.2.1] at e'
      exact hj i j i0 i1 j0 j1 e'
    · have ca : a = 1 - ax := by omega
      rw [ca, e.2.1] at i1 j1
      rw [ca, e.2.2.2] at e'
      exact h2 (1 - ax) (by omega) i j i0 i1 j0 j1 e'
  · intro a ha k k0 k1
    by_cases ca : a = ax
    · rw [ca, e.1] at k1
      rw [ca, e.2.2.1]
      exact hi k k0 k1
    · have ca : a = 1 - ax := by omega
      rw [ca, e.2.1] at k1
      rw [ca, e.2.2.2]
      have := h3 (1 - ax) (by omega) k k0 k1
      have := hg (1 - ax) (by omega)
      omega
theorem wth_i {f : Int → Int} {n p id : Int} (p0 : 1 ≤ p) (p1 : p ≤ n + 1) (hf : InjZ f n) (hid : ∀ i, 0 ≤ i → i < n → f i ≠ id) : InjZ (wthF f p id) (n + 1) := by
  intro i j i0 i1 j0 j1 e
  unfold wthF at e
  by_cases ci : i = p - 1
  · rw [if_pos ci] at e
    by_cases cj : j = p - 1
    · omega
    · rw [if_neg cj] at e
      by_cases cj2 : j < p - 1
      · rw [if_pos cj2] at e; exact absurd e.symm (hid j j0 (by omega))
      · rw [if_neg cj2] at e; exact absurd e.symm (hid (j - 1) (by omega) (by omega))
  · rw [if_neg ci] at e
    by_cases ci2 : i < p - 1
    · rw [if_pos ci2] at e
      by_cases cj : j = p - 1
      · rw [if_pos cj] at e; exact absurd e (hid i i0 (by omega))
      · rw [if_neg cj] at e
        by_cases cj2 : j < p - 1
        · rw [if_pos cj2] at e; exact hf i j i0 (by omega) j0 (by omega) e
        · rw [if_neg cj2] at e
          have := hf i (j - 1) i0 (by omega) (by omega) (by omega) e
          omega
    · rw [if_neg ci2] at e
      by_cases cj : j = p - 1
      · rw [if_pos cj] at e; exact absurd e (hid (i - 1) (by omega) (by omega))
      · rw [if_neg cj] at e
        by_cases cj2 : j < p - 1
        · rw [if_pos cj2] at e
          have := hf (i - 1) j (by omega) (by omega) j0 (by omega) e
          omega
        · rw [if_neg cj2] at e
          have := hf (i - 1) (j - 1) (by omega) (by omega) (by omega) (by omega) e
          omega
theorem wot_i {f : Int → Int} {n p : Int} (p0 : 1 ≤ p) (p1 : p ≤ n) (hf : InjZ f n) : InjZ (wotF f p) (n - 1) := by
  intro i j i0 i1 j0 j1 e
  unfold wotF at e
  by_cases ci : i < p - 1
  · rw [if_pos ci] at e
    by_cases cj : j < p - 1
    · rw [if_pos cj] at e; exact hf i j i0 (by omega) j0 (by omega) e
    · rw [if_neg cj] at e
      have := hf i (j + 1) i0 (by omega) (by omega) (by omega) e
      omega
  · rw [if_neg ci] at e
    by_cases cj : j < p - 1
    · rw [if_pos cj] at e
      have := hf (i + 1) j (by omega) (by omega) j0 (by omega) e
      omega
    · rw [if_neg cj] at e
      have := hf (i + 1) (j + 1) (by omega) (by omega) (by omega) (by omega) e
      omega
theorem wot_n {f : Int → Int} {n p : Int} (p0 : 1 ≤ p) (p1 : p ≤ n) (hf : InjZ f n) : ∀ i, 0 ≤ i → i < n - 1 → wotF f p i ≠ f (p - 1) := by
  intro i i0 i1 e
  unfold wotF at e
  by_cases ci : i < p - 1
  · rw [if_pos ci] at e
    have := hf i (p - 1) i0 (by omega) (by omega) (by omega) e
    omega
  · rw [if_neg ci] at e
    have := hf (i + 1) (p - 1) (by omega) (by omega) (by omega) (by omega) e
    omega
section Pv
variable {S : SS}
theorem PV_step {s : Sh} (h : PV S) (hs : SO S.2.1.1 (nxt S) s) : PV (setW (pStep0 S) s) := by
  refine ⟨h.1, hs, ?_, ?_, h.2.2.2.2.1, h.2.2.2.2.2⟩
  · intro k k0 k1
    replace k1 : k < (pStep0 S).2.2.2.1.2.1 := k1
    show SO S.2.1.1 (nxt S) ((pStep0 S).2.2.2.1.2.2.1 k)
    unfold pStep0 at k1 ⊢
    dsimp only at k1 ⊢
    by_cases e : S.2.2.2.1.2.1 < 40
    · rw [if_pos e] at k1 ⊢
      dsimp only at k1 ⊢
      by_cases c : k = S.2.2.2.1.2.1
      · rw [if_pos c]; exact h.2.1
      · rw [if_neg c]; exact h.2.2.1 k k0 (by omega)
    · rw [if_neg e] at k1 ⊢
      dsimp only at k1 ⊢
      by_cases c : k = 39
      · rw [if_pos c]; exact h.2.1
      · rw [if_neg c]; exact h.2.2.1 (k + 1) (by omega) (by omega)
  · intro k k0 k1
    replace k1 : k < (pStep0 S).2.2.2.1.2.2.2.1 := k1
    unfold pStep0 at k1
    dsimp only at k1
    split at k1
    · dsimp only at k1; omega
    · dsimp only at k1; omega
theorem PV_bmp {ax : Int} (h : PV S) : PV (bmp S ax) ∧ ∀ a, a = 0 ∨ a = 1 → nxt S a ≤ nxt (bmp S ax) a := by
  have hg : ∀ a, a = 0 ∨ a = 1 → nxt S a ≤ nxt (bmp S ax) a := by
    intro a ha
    unfold nxt bmp
    dsimp only
    split <;> split <;> omega
  have h0 := h.2.2.2.2.2
  refine ⟨⟨fun v v0 v1 => SO_mo (Int.le_refl _) hg (h.1 v v0 v1), SO_mo (Int.le_refl _) hg h.2.1, fun k k0 k1 => SO_mo (Int.le_refl _) hg (h.2.2.1 k k0 k1), fun k k0 k1 => SO_mo (Int.le_refl _) hg (h.2.2.2.1 k k0 k1), h.2.2.2.2.1, ?_, ?_⟩, hg⟩
  · have := hg 0 (Or.inl rfl); omega
  · have := hg 1 (Or.inr rfl); omega
theorem PV_undo (hB : Bd S) (h : PV S) : PV (pUndo S).2.2 := by
  have hn := hB.2.2.2.1.2.1
  unfold pUndo
  by_cases e : S.2.2.2.1.2.1 = 0
  · rw [if_pos e]; exact h
  · rw [if_neg e]
    refine ⟨h.1, h.2.2.1 _ (by omega) (by omega), fun k k0 k1 => ?_, fun k k0 k1 => ?_, h.2.2.2.2.1, h.2.2.2.2.2⟩
    · replace k1 : k < S.2.2.2.1.2.1 - 1 := k1
      exact h.2.2.1 k k0 (by omega)
    · replace k1 : k < S.2.2.2.1.2.2.2.1 + 1 := k1
      show SO S.2.1.1 (nxt S) (if k = S.2.2.2.1.2.2.2.1 then S.2.2.2.1.1 else S.2.2.2.1.2.2.2.2 k)
      by_cases c : k = S.2.2.2.1.2.2.2.1
      · rw [if_pos c]; exact h.2.1
      · rw [if_neg c]; exact h.2.2.2.1 k k0 (by omega)
theorem PV_redo (hB : Bd S) (h : PV S) : PV (pRedo S).2.2 := by
  have hn := hB.2.2.2.1.2.1
  unfold pRedo
  by_cases e : S.2.2.2.1.2.2.2.1 = 0
  · rw [if_pos e]; exact h
  · rw [if_neg e]
    refine ⟨h.1, h.2.2.2.1 _ (by omega) (by omega), fun k k0 k1 => ?_, fun k k0 k1 => ?_, h.2.2.2.2.1, h.2.2.2.2.2⟩
    · replace k1 : k < S.2.2.2.1.2.1 + 1 := k1
      show SO S.2.1.1 (nxt S) (if k = S.2.2.2.1.2.1 then S.2.2.2.1.1 else S.2.2.2.1.2.2.1 k)
      by_cases c : k = S.2.2.2.1.2.1
      · rw [if_pos c]; exact h.2.1
      · rw [if_neg c]; exact h.2.2.1 k k0 (by omega)
    · replace k1 : k < S.2.2.2.1.2.2.2.1 - 1 := k1
      exact h.2.2.2.1 k k0 (by omega)
theorem PV_bare {s : Sh} (h : PV S) (hs : SO S.2.1.1 (nxt S) s) : PV (setW (pBare S) s) := ⟨h.1, hs, fun k k0 k1 => absurd k1 (by show ¬ k < 0; omega), fun k k0 k1 => absurd k1 (by show ¬ k < 0; omega), fun k k0 k1 => absurd k1 (by show ¬ k < 0; omega), h.2.2.2.2.2⟩
theorem PV_drop (hB : Bd S) (h : PV S) : PV (pDrop S).2 := by
  have hh := hB.2.2.1.2.1
  have hh1 := hB.2.2.1.1 _ hh.1 hh.2.1
  exact PV_bare h (SO_mo (show pHead S ≤ S.2.1.1 from Int.le_of_lt hh1.2) (fun _ _ => Int.le_refl _) (h.1 (pHead S) hh.2.2 hh1.2))
theorem PV_go {x : Int} (hB : Bd S) (h : PV S) : PV (pGo x S).2.2 := by
  unfold pGo
  by_cases e : 0 ≤ x ∧ x ≤ 5
  · rw [if_pos e]
    by_cases e2 : S.2.2.1.1 x = -1
    · rw [if_pos e2]; exact h
    · rw [if_neg e2]
      refine ci_p (R := fun r : Nat × Int × SS => PV r.2.2) (fun _ => ?_) (fun _ => h)
      exact PV_drop (Bd_setH hB e e2) h
  · rw [if_neg e]; exact h
theorem PV_branch {x : Int} (h : PV S) : PV (pBranch x S).2.2 := by
  unfold pBranch
  split
  · split
    · exact h
    · exact h
  · exact h
theorem PV_commit (hB : Bd S) (h : PV S) : PV (pCommit S).2.2 := by
  have hn := hB.2.1.1
  unfold pCommit
  split
  · exact h
  · split
    · refine ⟨fun v v0 v1 => ?_, SO_mo (by show S.2.1.1 ≤ S.2.1.1 + 1; omega) (fun _ _ => Int.le_refl _) h.2.1, fun k k0 k1 => SO_mo (by show S.2.1.1 ≤ S.2.1.1 + 1; omega) (fun _ _ => Int.le_refl _) (h.2.2.1 k k0 k1), fun k k0 k1 => SO_mo (by show S.2.1.1 ≤ S.2.1.1 + 1; omega) (fun _ _ => Int.le_refl _) (h.2.2.2.1 k k0 k1), fun k k0 k1 => absurd k1 (by show ¬ k < 0; omega), h.2.2.2.2.2⟩
      replace v1 : v < S.2.1.1 + 1 := v1
      show SO v (nxt S) (if v = S.2.1.1 then S.2.2.2.1.1 else S.2.1.2.1 v)
      by_cases c : v = S.2.1.1
      · rw [if_pos c, c]; exact h.2.1
      · rw [if_neg c]; exact h.1 v v0 (by omega)
    · exact h
theorem PV_erase {r c r2 c2 : Int} (h : PV S) : PV (pErase r c r2 c2 S).2.2 := by
  unfold pErase
  split
  · split
    · exact PV_step h (SO_ers h.2.1)
    · exact h
  · exact h
theorem PV_insert {ax p : Int} (hB : Bd S) (h : PV S) : PV (pInsert ax p S).2.2 := by
  unfold pInsert
  by_cases e : ax = 0 ∨ ax = 1
  · rw [if_pos e]
    by_cases e1 : 1 ≤ p ∧ p ≤ lnS S.2.2.2.1.1 ax + 1
    · rw [if_pos e1]
      by_cases e2 : lnS S.2.2.2.1.1 ax < mst ax
      · rw [if_pos e2]
        obtain ⟨hb, hg⟩ := PV_bmp (ax := ax) h
        have inj := SO_inj e h.2.1
        have nx : nxt (bmp S ax) ax = nxt S ax + 1 := by
          unfold nxt bmp
          dsimp only
          rcases e with rfl | rfl
          · rw [if_pos rfl, if_pos rfl, if_pos rfl]
          · rw [if_neg (by decide), if_neg (by decide), if_neg (by decide)]
        have n0 : 0 ≤ nxt S ax := by
          rcases e with rfl | rfl
          · exact h.2.2.2.2.2.1
          · exact h.2.2.2.2.2.2
        refine PV_step hb (SO_shA e h.2.1 hg (fun k k0 k1 => ?_) (wth_i e1.1 e1.2 inj (fun i i0 i1 q => ?_)))
        · rw [nx]
          unfold wthF
          by_cases c : k = p - 1
          · rw [if_pos c]; omega
          · rw [if_neg c]
            by_cases c2 : k < p - 1
            · rw [if_pos c2]
              have := h.2.1.2.2 ax e k k0 (by omega)
              omega
            · rw [if_neg c2]
              have := h.2.1.2.2 ax e (k - 1) (by omega) (by omega)
              omega
        · have := (h.2.1.2.2 ax e i i0 i1).2
          omega
      · rw [if_neg e2]; exact h
    · rw [if_neg e1]; exact h
  · rw [if_neg e]; exact h
theorem PV_remove {ax p : Int} (hB : Bd S) (h : PV S) : PV (pRemove ax p S).2.2 := by
  unfold pRemove
  by_cases e : ax = 0 ∨ ax = 1
  · rw [if_pos e]
    by_cases e1 : 1 ≤ p ∧ p ≤ lnS S.2.2.2.1.1 ax
    · rw [if_pos e1]
      by_cases e2 : lnS S.2.2.2.1.1 ax = 1
      · rw [if_pos e2]; exact h
      · rw [if_neg e2]
        refine PV_step h (SO_shA e h.2.1 (fun _ _ => Int.le_refl _) (fun k k0 k1 => ?_) (wot_i e1.1 e1.2 (SO_inj e h.2.1)))
        unfold wotF
        by_cases c : k < p - 1
        · rw [if_pos c]; exact h.2.1.2.2 ax e k k0 (by omega)
        · rw [if_neg c]; exact h.2.1.2.2 ax e (k + 1) (by omega) (by omega)
    · rw [if_neg e1]; exact h
  · rw [if_neg e]; exact h
theorem PV_move {ax p t : Int} (hB : Bd S) (h : PV S) : PV (pMove ax p t S).2.2 := by
  unfold pMove
  by_cases e : ax = 0 ∨ ax = 1
  · rw [if_pos e]
    by_cases e1 : (1 ≤ p ∧ p ≤ lnS S.2.2.2.1.1 ax) ∧ 1 ≤ t ∧ t ≤ lnS S.2.2.2.1.1 ax
    · rw [if_pos e1]
      have inj := SO_inj e h.2.1
      have w0 : ∀ k, 0 ≤ k → k < lnS S.2.2.2.1.1 ax - 1 → 0 ≤ wotF (idS S.2.2.2.1.1 ax) p k ∧ wotF (idS S.2.2.2.1.1 ax) p k < nxt S ax := fun k k0 k1 => by
        unfold wotF
        by_cases c : k < p - 1
        · rw [if_pos c]; exact h.2.1.2.2 ax e k k0 (by omega)
        · rw [if_neg c]; exact h.2.1.2.2 ax e (k + 1) (by omega) (by omega)
      have i2 := wth_i (f := wotF (idS S.2.2.2.1.1 ax) p) (n := lnS S.2.2.2.1.1 ax - 1) (p := t) (id := idS S.2.2.2.1.1 ax (p - 1)) e1.2.1 (by omega) (wot_i e1.1.1 e1.1.2 inj) (wot_n e1.1.1 e1.1.2 inj)
      rw [show lnS S.2.2.2.1.1 ax - 1 + 1 = lnS S.2.2.2.1.1 ax by omega] at i2
      refine PV_step h (SO_shA e h.2.1 (fun _ _ => Int.le_refl _) (fun k k0 k1 => ?_) i2)
      unfold wthF
      by_cases c : k = t - 1
      · rw [if_pos c]; exact h.2.1.2.2 ax e (p - 1) (by omega) (by omega)
      · rw [if_neg c]
        by_cases c2 : k < t - 1
        · rw [if_pos c2]; exact w0 k k0 (by omega)
        · rw [if_neg c2]; exact w0 (k - 1) (by omega) (by omega)
    · rw [if_neg e1]; exact h
  · rw [if_neg e]; exact h
theorem PV_sort {col fr to t : Int} (h : PV S) : PV (pSort col fr to t S).2.2 := by
  unfold pSort
  by_cases e : ((1 ≤ fr ∧ fr ≤ S.2.2.2.1.1.1.1) ∧ 1 ≤ col ∧ col ≤ S.2.2.2.1.1.1.2) ∧ (1 ≤ to ∧ to ≤ S.2.2.2.1.1.1.1)
  · rw [if_pos e]
    by_cases e1 : fr ≤ to
    · rw [if_pos e1]
      have inj : InjZ (idS S.2.2.2.1.1 0) S.2.2.2.1.1.1.1 := SO_inj (Or.inl rfl) h.2.1
      have ib : ∀ k, 0 ≤ k → k < S.2.2.2.1.1.1.1 → 0 ≤ idS S.2.2.2.1.1 0 k ∧ idS S.2.2.2.1.1 0 k < nxt S 0 := fun k k0 k1 => h.2.1.2.2 0 (Or.inl rfl) k k0 k1
      have qb : ∀ j, 0 ≤ j → j < to - fr + 1 → 0 ≤ soF col fr to t S j ∧ soF col fr to t S j < to - fr + 1 := fun j j0 j1 => soF_b j0 j1
      have qi : ∀ i j, 0 ≤ i → i < to - fr + 1 → 0 ≤ j → j < to - fr + 1 → soF col fr to t S i = soF col fr to t S j → i = j := fun i j i0 i1 j0 j1 q => soF_i i0 i1 j0 j1 q
      generalize soF col fr to t S = q at qb qi
      refine PV_step h (SO_shA (Or.inl rfl) h.2.1 (fun _ _ => Int.le_refl _) (fun k k0 k1 => ?_) (fun i j i0 i1 j0 j1 q => ?_))
      · unfold soI
        by_cases c : fr - 1 ≤ k ∧ k < fr - 1 + (to - fr + 1)
        · have := qb (k - (fr - 1)) (by omega) (by omega)
          rw [if_pos c]; exact ib _ (by omega) (by omega)
        · rw [if_neg c]; exact ib k k0 k1
      · unfold soI at q
        by_cases c : fr - 1 ≤ i ∧ i < fr - 1 + (to - fr + 1)
        · have b1 := qb (i - (fr - 1)) (by omega) (by omega)
          rw [if_pos c] at q
          by_cases d : fr - 1 ≤ j ∧ j < fr - 1 + (to - fr + 1)
          · have b2 := qb (j - (fr - 1)) (by omega) (by omega)
            rw [if_pos d] at q
            have := inj _ _ (by omega) (by omega) (by omega) (by omega) q
            have := qi (i - (fr - 1)) (j - (fr - 1)) (by omega) (by omega) (by omega) (by omega) (by omega)
            omega
          · rw [if_neg d] at q
            have := inj _ _ (by omega) (by omega) (by omega) (by omega) q
            omega
        · rw [if_neg c] at q
          by_cases d : fr - 1 ≤ j ∧ j < fr - 1 + (to - fr + 1)
          · have b2 := qb (j - (fr - 1)) (by omega) (by omega)
            rw [if_pos d] at q
            have := inj _ _ (by omega) (by omega) (by omega) (by omega) q
            omega
          · rw [if_neg d] at q
            exact inj _ _ i0 i1 j0 j1 q
    · rw [if_neg e1]; exact h
  · rw [if_neg e]; exact h
theorem VrC_shf {n dr dc : Int} {c : Cont} (h : VrC n c) (n0 : 0 ≤ n) : VrC n (shfC S dr dc c) := by
  match c, h with
  | none, h => exact h
  | some (k, l, ps), h =>
    unfold shfC
    dsimp only
    by_cases c5 : k = 5
    · rw [if_pos c5]
      intro k' l' ps' e p hp
      injection e with e
      injection e with e1 e
      injection e with e2 e3
      rw [← e3] at hp
      obtain ⟨p0, hp0, ep⟩ := List.mem_map.mp hp
      have := h k l ps rfl p0 hp0
      rw [← ep]
      unfold shfQ
      split
      · unfold shfP
        split
        · show (-1 : Int) < n; omega
        · exact this
      · exact this
    · rw [if_neg c5]; exact h
theorem PV_copy {r c r2 c2 ar ac : Int} (hB : Bd S) (h : PV S) : PV (pCopy r c r2 c2 ar ac S).2.2 := by
  have n0 := hB.2.1.1
  unfold pCopy
  by_cases e : (hasS S.2.2.2.1.1 r c ∧ hasS S.2.2.2.1.1 r2 c2) ∧ hasS S.2.2.2.1.1 ar ac
  · rw [if_pos e]
    by_cases e1 : r ≤ r2 ∧ c ≤ c2
    · rw [if_pos e1]
      split
      · refine PV_step (S := setP S _) h (SO_c h.2.1 (fun a d a0 a1 d0 d1 => ?_))
        unfold cpC
        split
        · next q =>
          obtain ⟨⟨⟨⟨r0, r1⟩, c0, c1⟩, ⟨r20, r21⟩, c20, c21⟩, -⟩ := id e
          unfold cpH cpW at q
          exact VrC_shf (h.2.1.1 _ _ (by omega) (by omega) (by omega) (by omega)) (show 0 ≤ S.2.1.1 by omega)
        · exact h.2.1.1 a d a0 a1 d0 d1
      · exact h
    · rw [if_neg e1]; exact h
  · rw [if_neg e]; exact h
theorem PV_enter {r c : Int} (hB : Bd S) (hI : ∀ v, isShP v S → IdS (shOf v S)) (h : PV S) : PV (pEnter r c S).2.2 := by
  have n0 := hB.2.1.1
  unfold pEnter
  split
  · cases e : pRd S with
    | inl e => exact h
    | inr k =>
      dsimp only
      split
      · refine PV_step (S := setP (setT S 0 (-1)) _) h (SO_upd h.2.1 ?_)
        have ab := tA_b (S := S) hB.1.1
        unfold pRd at e
        split at e
        · next c =>
          split at e
          · cases e
          · next ps he =>
            cases e
            intro k l ps' e2 p hp
            injection e2 with e2
            injection e2 with e3 e2
            injection e2 with e4 e5
            rw [← e5] at hp
            obtain ⟨i, hi, ei⟩ := List.getElem_of_mem hp
            have := ((pForm_f hI (by omega) ab.1 c.1 he).2 i hi).2
            rw [List.getD_eq_getElem?_getD, List.getElem?_eq_getElem hi] at this
            rw [← ei]; exact this
        · have pn := pPlain_n e
          intro k' l ps' e2 p hp
          rw [e2] at pn
          have pn : ps'.length = 0 := pn
          rw [List.length_eq_zero_iff.mp pn] at hp
          cases hp
      · exact h
  · exact h
theorem cOf_v {m : Int} {g : Int → Int} {s : Sh} {row col : Int} (h : SO m g s) : VrC m (cOf s row col) := by
  unfold cOf
  split
  · next k => exact h.1 _ _ k.1 (plS_r k.1).1 k.2 (plS_c k.2).1
  · exact VrC_0
theorem clC_v {m : Int} {g : Int → Int} {w t d : Sh} {row col : Int} (hw : SO m g w) (ht : SO m g t) : VrC m (clC w t d row col).1 ∧ ∀ f ∈ (clC w t d row col).2, CfO m f := by
  have vw := cOf_v (row := row) (col := col) hw
  have vt := cOf_v (row := row) (col := col) ht
  have nil : ∀ f ∈ ([] : List Cf), CfO m f := fun f hf => by cases hf
  unfold clC
  split
  · exact ⟨vw, nil⟩
  · split
    · exact ⟨vt, nil⟩
    · refine ci_p (R := fun r : Cont × List Cf => VrC m r.1 ∧ ∀ f ∈ r.2, CfO m f) (fun _ => ⟨vw, nil⟩) (fun _ => ?_)
      refine ci_p (R := fun r : Cont × List Cf => VrC m r.1 ∧ ∀ f ∈ r.2, CfO m f) (fun _ => ⟨vt, nil⟩) (fun _ => ⟨vw, fun f hf => ?_⟩)
      rcases List.mem_singleton.mp hf with rfl
      exact ⟨⟨by show (1 : Int) ≤ 3; decide, by show (3 : Int) ≤ 3; decide⟩, vw, vt⟩
theorem gdR_v {R : Cf → Prop} {e : Int → Int → List Cf} (h : ∀ r c, ∀ f ∈ e r c, R f) (r : Int) : ∀ (m : Nat) (c : Int), ∀ f ∈ gdR e r m c, R f
  | 0, _, f, hf => by cases hf
  | m + 1, c, f, hf => by
    rw [gdR] at hf
    rcases List.mem_append.mp hf with q | q
    · exact h r c f q
    · exact gdR_v h r m (c + 1) f q
theorem gdL_v {R : Cf → Prop} {e : Int → Int → List Cf} {nc : Int} (h : ∀ r c, ∀ f ∈ e r c, R f) : ∀ (m : Nat) (r : Int), ∀ f ∈ gdL e nc m r, R f
  | 0, _, f, hf => by cases hf
  | m + 1, r, f, hf => by
    rw [gdL] at hf
    rcases List.mem_append.mp hf with q | q
    · exact gdR_v h r _ _ f q
    · exact gdL_v h m (r + 1) f q
theorem cfL_v {m0 ax : Int} (hax : ax = 0 ∨ ax = 1) {w t d : Sh} {L : List Int} : ∀ (m : Nat) (k : Int), ∀ f ∈ cfL w t d ax L m k, CfO m0 f
  | 0, _, f, hf => by cases hf
  | m + 1, k, f, hf => by
    rw [cfL] at hf
    rcases List.mem_append.mp hf with q | q
    · unfold cfE at q
      split at q
      · rcases List.mem_singleton.mp q with rfl
        exact ⟨⟨by show 1 ≤ ax + 1; omega, by show ax + 1 ≤ 3; omega⟩, VrC_0, VrC_0⟩
      · cases q
    · exact cfL_v hax m (k + 1) f q
theorem cfA_v {m : Int} {g : Int → Int} {w t d : Sh} (hw : SO m g w) (ht : SO m g t) : ∀ f ∈ cfA w t d, CfO m f := by
  intro f hf
  unfold cfA at hf
  rcases List.mem_append.mp hf with q | q
  · rcases List.mem_append.mp q with q | q
    · exact cfL_v (Or.inl rfl) _ _ f q
    · exact cfL_v (Or.inr rfl) _ _ f q
  · exact gdL_v (fun r c f hf => (clC_v hw ht).2 f hf) _ _ f q
theorem SO_jSh {m : Int} {g : Int → Int} {w t d : Sh} (bw : ShB w) (bt : ShB t) (hw : SO m g w) (ht : SO m g t) : SO m g (jSh w t d) := by
  have ln : ∀ ax, ax = 0 ∨ ax = 1 → lnS (jSh w t d) ax = ((joinL w t d ax).length : Int) ∧ idS (jSh w t d) ax = gI (joinL w t d ax) := by
    intro ax hax
    rcases hax with rfl | rfl
    · exact ⟨rfl, rfl⟩
    · exact ⟨rfl, rfl⟩
  refine ⟨fun r c r0 r1 c0 c1 => (clC_v hw ht).1, fun ax hax i j i0 i1 j0 j1 e => ?_, fun ax hax k k0 k1 => ?_⟩
  · obtain ⟨l1, l2⟩ := ln ax hax
    rw [l1] at i1 j1
    rw [l2] at e
    exact joinL_nd hax hw.2.1 ht.2.1 (by have := (lnS_b bw ax).1; omega) (by have := (lnS_b bt ax).1; omega) i j i0 i1 j0 j1 e
  · obtain ⟨l1, l2⟩ := ln ax hax
    rw [l1] at k1
    rw [l2]
    have mem := gI_mem (L := joinL w t d ax) k0 k1
    have go : ∀ s, SO m g s → 0 ≤ plS s ax (gI (joinL w t d ax) k) → 0 ≤ gI (joinL w t d ax) k ∧ gI (joinL w t d ax) k < g ax := fun s hs q => by
      rcases plS_b s ax (gI (joinL w t d ax) k) with e | ⟨q1, q2, q3⟩
      · omega
      · have := hs.2.2 ax hax _ q1 q2
        rw [q3] at this; exact this
    rcases joinL_in mem with q | q
    · exact go w hw q
    · exact go t ht q
theorem PV_setJ {x v d : Int} (hB : Bd S) (h : PV S) (v0 : 0 ≤ v) (v1 : v < S.2.1.1) : PV (setJ S x (S.2.1.2.1 v) (S.2.1.2.1 d)) := by
  have ht : SO S.2.1.1 (nxt S) (S.2.1.2.1 v) := SO_mo (by omega) (fun _ _ => Int.le_refl _) (h.1 v v0 v1)
  refine ⟨h.1, SO_jSh hB.2.2.2.1.1 (hB.2.1.2 v v0 v1).1 h.2.1 ht, fun k k0 k1 => absurd k1 (by show ¬ k < 0; omega), fun k k0 k1 => absurd k1 (by show ¬ k < 0; omega), fun k k0 k1 => ?_, h.2.2.2.2.2⟩
  replace k1 : k < ((cfA S.2.2.2.1.1 (S.2.1.2.1 v) (S.2.1.2.1 d)).length : Int) := k1
  show CfO S.2.1.1 ((cfA S.2.2.2.1.1 (S.2.1.2.1 v) (S.2.1.2.1 d)).getD k.toNat cf0)
  refine cfA_v (d := S.2.1.2.1 d) h.2.1 ht _ ?_
  rw [List.getD_eq_getElem?_getD, List.getElem?_eq_getElem (by omega)]
  exact List.getElem_mem _
theorem PV_merge {x : Int} (hB : Bd S) (h : PV S) : PV (pMerge x S).2.2 := by
  unfold pMerge
  by_cases e : 0 ≤ x ∧ x ≤ 5
  · rw [if_pos e]
    have b1 := hB.2.2.1.1 x e.1 (by omega)
    by_cases e2 : S.2.2.1.1 x = -1
    · rw [if_pos e2]; exact h
    · rw [if_neg e2]
      split
      · exact h
      · split
        · split
          · exact h
          · split
            · exact PV_setJ hB h (by omega) b1.2
            · exact h
        · exact h
  · rw [if_neg e]; exact h
theorem PV_pick {x : Int} (hB : Bd S) (h : PV S) : PV (pPick x S).2.2 := by
  unfold pPick
  by_cases e : 1 ≤ x ∧ x < S.2.1.1
  · rw [if_pos e]
    split
    · exact h
    · split
      · split
        · exact PV_setJ hB h (by omega) e.2
        · exact h
      · exact h
  · rw [if_neg e]; exact h
theorem PV_choose {i th : Int} (hB : Bd S) (h : PV S) : PV (pChoose i th S).2.2 := by
  unfold pChoose
  by_cases e : 0 ≤ i ∧ i < S.2.2.2.2.1
  · rw [if_pos e]
    have hs : PV (setS S i) := by
      refine ⟨h.1, h.2.1, h.2.2.1, h.2.2.2.1, fun k k0 k1 => ?_, h.2.2.2.2.2⟩
      have := h.2.2.2.2.1 k k0 k1
      show CfO S.2.1.1 (if k = i then ((S.2.2.2.2.2.1 k).1, (S.2.2.2.2.2.1 k).2.1, (S.2.2.2.2.2.1 k).2.2.1, 1) else S.2.2.2.2.2.1 k)
      split
      · exact this
      · exact this
    have cf := h.2.2.2.2.1 i e.1 e.2
    refine PV_step hs ?_
    show SO S.2.1.1 (nxt S) (chS S.2.2.2.1.1 (S.2.2.2.2.2.1 i) th)
    generalize S.2.2.2.2.2.1 i = f at cf
    unfold chS
    by_cases c3 : f.1.1 = 3
    · rw [if_pos c3]
      by_cases kn : knowsP S.2.2.2.1.1 f.1.2.1 f.1.2.2.1
      · rw [if_pos kn]
        refine SO_upd h.2.1 ?_
        split
        · exact cf.2.1
        · exact cf.2.2
      · rw [if_neg kn]; exact h.2.1
    · rw [if_neg c3]
      have hax : f.1.1 - 1 = 0 ∨ f.1.1 - 1 = 1 := by have := cf.1; omega
      generalize (if f.1.1 = 1 then f.1.2.1 else f.1.2.2.1) = id0
      generalize f.1.1 - 1 = ax at hax ⊢
      by_cases q : th = f.1.2.2.2 ∧ 0 ≤ plS S.2.2.2.1.1 ax id0 ∧ 1 < lnS S.2.2.2.1.1 ax
      · rw [if_pos q]
        obtain ⟨-, q1, q2⟩ := q
        have pb : plS S.2.2.2.1.1 ax id0 < lnS S.2.2.2.1.1 ax := by
          rcases plS_b S.2.2.2.1.1 ax id0 with e' | e'
          · omega
          · exact e'.2.1
        generalize plS S.2.2.2.1.1 ax id0 = p at q1 pb
        refine SO_shA hax h.2.1 (fun _ _ => Int.le_refl _) (fun k k0 k1 => ?_) (wot_i (by omega) (by omega) (SO_inj hax h.2.1))
        unfold wotF
        by_cases c : k < p + 1 - 1
        · rw [if_pos c]; exact h.2.1.2.2 ax hax k k0 (by omega)
        · rw [if_neg c]; exact h.2.1.2.2 ax hax (k + 1) (by omega) (by omega)
      · rw [if_neg q]; exact h.2.1
  · rw [if_neg e]; exact h
theorem PV_diff {v w : Int} (h : PV S) : PV (pDiff v w S).2.2 := by
  unfold pDiff
  split
  · exact h
  · exact h
theorem PV_feed {a b c d e : Int} (h : PV S) : PV (pFeed a b c d e S).2 := by
  unfold pFeed
  split
  · exact h
  · exact h
theorem PV_end {x : Int} (h : PV S) : PV (pEnd x S).2 := by
  unfold pEnd
  split
  · exact h
  · exact h
/-- what the rows ask for -/
theorem PV_Id (h : PV S) : ∀ v, isShP v S → IdS (shOf v S) := by
  intro v hv
  unfold shOf
  have h1 := hv.1
  have h2 := hv.2
  by_cases c : v = -1
  · rw [if_pos c]; exact fun ax hax k k0 k1 => (h.2.1.2.2 ax hax k k0 k1).1
  · rw [if_neg c]; exact fun ax hax k k0 k1 => ((h.1 v (by omega) h2).2.2 ax hax k k0 k1).1
theorem PV_Vr (h : PV S) : VrP S := ⟨fun v v0 v1 => (h.1 v v0 v1).1, h.2.1.1⟩
theorem PV_Ds (h : PV S) : DsS S.2.2.2.1.1 ∧ ∀ k, 0 ≤ k → k < S.2.1.1 → DsS (S.2.1.2.1 k) := ⟨h.2.1.2.1, fun k k0 k1 => (h.1 k k0 k1).2.1⟩
theorem PV_Kd (h : PV S) : KdP S := fun k k0 k1 => (h.2.2.2.2.1 k k0 k1).1
end Pv
