/-! ===== spans ===== -/
theorem spnL_len (ps : List Prt) : (spnL ps).length = ps.length := by
  unfold spnL
  have key : ∀ (qs : List Prt) (acc : List Int), (qs.foldl (fun sp p => sp ++ [1 + undS sp p.2.1.toNat ((sp.length : Int) - 1)]) acc).length = acc.length + qs.length := by
    intro qs
    induction qs with
    | nil => intro acc; rfl
    | cons q qs ih =>
      intro acc
      rw [List.foldl_cons, ih, List.length_append]; show acc.length + 1 + qs.length = acc.length + (qs.length + 1); omega
  rw [key]; rw [List.length_nil]; omega
theorem spnL_snoc (ps : List Prt) (p : Prt) : spnL (ps ++ [p]) = spnL ps ++ [1 + undS (spnL ps) p.2.1.toNat ((ps.length : Int) - 1)] := by
  have e := spnL_len ps
  unfold spnL at e ⊢
  rw [List.foldl_append, List.foldl_cons, List.foldl_nil, e]
theorem snocI {P : List Prt → Prop} (h0 : P []) (hs : ∀ l a, P l → P (l ++ [a])) (l : List Prt) : P l := by
  have key : ∀ r : List Prt, P r.reverse := by
    intro r
    induction r with
    | nil => exact h0
    | cons a r ih => rw [List.reverse_cons]; exact hs _ _ ih
  have := key l.reverse
  rw [List.reverse_reverse] at this; exact this
theorem spnL_app (ps qs : List Prt) : ∃ r, spnL (ps ++ qs) = spnL ps ++ r := by
  refine snocI (P := fun qs => ∃ r, spnL (ps ++ qs) = spnL ps ++ r) ⟨[], by rw [List.append_nil, List.append_nil]⟩ ?_ qs
  intro qs q ih
  obtain ⟨r, hr⟩ := ih
  rw [← List.append_assoc, spnL_snoc, hr]
  exact ⟨_, List.append_assoc _ _ _⟩
theorem spnL_pre (ps qs : List Prt) {i : Nat} (h : i < ps.length) : (spnL (ps ++ qs)).getD i 0 = (spnL ps).getD i 0 := by
  obtain ⟨r, hr⟩ := spnL_app ps qs
  rw [hr, gA_l (by rw [spnL_len]; exact h)]
/-- walking needs only what lies before -/
theorem undS_pre {sp r : List Int} (hp : ∀ i : Nat, i < sp.length → 1 ≤ sp.getD i 0) (hl : 0 < sp.length) : ∀ (n : Nat) (j : Int), j < sp.length → undS (sp ++ r) n j = undS sp n j
  | 0, _, _ => rfl
  | n + 1, j, hj => by
    have hjn : j.toNat < sp.length := by omega
    have := hp j.toNat hjn
    rw [undS, undS, gA_l hjn, undS_pre hp hl n (j - sp.getD j.toNat 0) (by omega)]
theorem undS_nn {sp : List Int} (hp : ∀ i : Nat, 0 ≤ sp.getD i 0) : ∀ (n : Nat) (j : Int), 0 ≤ undS sp n j
  | 0, _ => by rw [undS]; omega
  | n + 1, j => by rw [undS]; have := undS_nn hp n (j - sp.getD j.toNat 0); have := hp j.toNat; omega
theorem spn_pos (ps : List Prt) : ∀ i : Nat, i < ps.length → 1 ≤ (spnL ps).getD i 0 := by
  refine snocI (P := fun ps => ∀ i : Nat, i < ps.length → 1 ≤ (spnL ps).getD i 0) (fun i h => by cases h) ?_ ps
  · intro ps p ih i h
    rw [List.length_append, List.length_singleton] at h
    have nn : ∀ j : Nat, 0 ≤ (spnL ps).getD j 0 := by
      intro j
      by_cases hj : j < ps.length
      · have := ih j hj; omega
      · rw [List.getD_eq_getElem?_getD, List.getElem?_eq_none (by rw [spnL_len]; omega)]; exact Int.le_refl 0
    rw [spnL_snoc]
    by_cases hi : i < ps.length
    · rw [gA_l (by rw [spnL_len]; exact hi)]; exact ih i hi
    · rw [gA_r (by rw [spnL_len]; omega), show i - (spnL ps).length = 0 by rw [spnL_len]; omega]
      have := undS_nn nn p.2.1.toNat ((ps.length : Int) - 1)
      show 1 ≤ 1 + undS _ _ _
      omega
theorem spn_nn (ps : List Prt) (i : Nat) : 0 ≤ (spnL ps).getD i 0 := by
  by_cases h : i < ps.length
  · have := spn_pos ps i h; omega
  · rw [List.getD_eq_getElem?_getD, List.getElem?_eq_none (by rw [spnL_len]; omega)]; exact Int.le_refl 0
/-- a span is that of the part and of its arguments -/
theorem spn_e {ps : List Prt} {i : Nat} (h : i < ps.length) (h0 : i = 0 → (ps.getD i pd0).2.1 = 0) : (spnL ps).getD i 0 = 1 + undS (spnL ps) (ps.getD i pd0).2.1.toNat ((i : Int) - 1) := by
  have e : ps = ps.take i ++ (ps.getD i pd0 :: ps.drop (i + 1)) := by
    rw [List.getD_eq_getElem?_getD, List.getElem?_eq_getElem h]
    show ps = List.take i ps ++ (ps[i] :: List.drop (i + 1) ps)
    rw [← List.drop_eq_getElem_cons h, List.take_append_drop]
  have lt : (ps.take i).length = i := by rw [List.length_take]; omega
  generalize hq : ps.getD i pd0 = p at e h0 ⊢
  generalize hA : ps.take i = A at e lt
  generalize ps.drop (i + 1) = D at e
  subst e
  have e2 : A ++ p :: D = (A ++ [p]) ++ D := by rw [List.append_assoc]; rfl
  rw [e2]
  obtain ⟨r, hr⟩ := spnL_app (A ++ [p]) D
  rw [hr, gA_l (by rw [spnL_len, List.length_append, lt]; show i < i + 1; omega), spnL_snoc, gA_r (by rw [spnL_len, lt]; exact Nat.le_refl i), show i - (spnL A).length = 0 by rw [spnL_len, lt]; omega, List.append_assoc]
  show 1 + undS (spnL A) _ _ = _
  rw [lt]
  by_cases i0 : i = 0
  · rw [h0 i0]; rfl
  · rw [undS_pre (fun k hk => spn_pos A k (by rw [spnL_len] at hk; exact hk)) (by rw [spnL_len, lt]; omega) _ _ (by rw [spnL_len, lt]; omega)]
theorem wlk_s (sp : List Int) : ∀ (m : Nat) (j : Int), wlk sp (m + 1) j = wlk sp m j - sp.getD (wlk sp m j).toNat 0
  | 0, j => by rw [wlk, wlk, wlk]
  | m + 1, j => by rw [wlk, wlk_s sp m]; rfl
theorem undS_w (sp : List Int) : ∀ (m : Nat) (j : Int), undS sp m j = j - wlk sp m j
  | 0, j => by rw [undS, wlk]; omega
  | m + 1, j => by rw [undS, undS_w sp m, wlk]; omega
/-- the arguments lie before the part -/
theorem wlk_b {ps : List Prt} {i : Nat} (h : i < ps.length) (hw : (spnL ps).getD i 0 ≤ i + 1) (h0 : i = 0 → (ps.getD i pd0).2.1 = 0) {m : Nat} (hm : m < (ps.getD i pd0).2.1.toNat) : 0 ≤ wlk (spnL ps) m ((i : Int) - 1) ∧ wlk (spnL ps) m ((i : Int) - 1) ≤ i - 1 := by
  have e := spn_e h h0
  rw [undS_w] at e
  have key : ∀ d m : Nat, wlk (spnL ps) (m + d) ((i : Int) - 1) ≤ wlk (spnL ps) m ((i : Int) - 1) := by
    intro d
    induction d with
    | zero => intro m; exact Int.le_refl _
    | succ d ih => intro m; rw [← Nat.add_assoc, wlk_s]; have := ih m; have := spn_nn ps (wlk (spnL ps) (m + d) ((i : Int) - 1)).toNat; omega
  have k1 := key ((ps.getD i pd0).2.1.toNat - (m + 1)) (m + 1)
  rw [show m + 1 + ((ps.getD i pd0).2.1.toNat - (m + 1)) = (ps.getD i pd0).2.1.toNat by omega, wlk_s] at k1
  have k2 := key m 0
  rw [Nat.zero_add, wlk] at k2
  have i0 : i ≠ 0 := fun w => by have := h0 w; omega
  have k3 := spn_pos ps (wlk (spnL ps) m ((i : Int) - 1)).toNat (by omega)
  omega
/-! ===== what a content is, written ===== -/
def bnd (op : Int) : Int := if op ≤ 6 then 1 else if op = 7 then 2 else if op ≤ 9 then 3 else if op ≤ 12 then 4 else if op = 13 then 5 else 6
def wdL (s fr w : Nat) : List Int := (((sL s).drop fr).take w).filter (fun x => decide (x ≠ 32))
def sgW (op : Int) : List Int := wdL 3 ((op - 1) * 2).toNat 2
def nmW (op : Int) : List Int := wdL 4 ((op - 18) * 8).toNat 8
theorem sg_M : ∀ o : Nat, 1 ≤ o → o ≤ 12 → sL (31 + o) = sgW (o : Int) ∧ (sgW (o : Int)).length ≤ 2 := by
  intro o h1 h2
  have : o = 1 ∨ o = 2 ∨ o = 3 ∨ o = 4 ∨ o = 5 ∨ o = 6 ∨ o = 7 ∨ o = 8 ∨ o = 9 ∨ o = 10 ∨ o = 11 ∨ o = 12 := by omega
  rcases this with rfl | rfl | rfl | rfl | rfl | rfl | rfl | rfl | rfl | rfl | rfl | rfl <;> decide +kernel
theorem nm_M : ∀ o : Nat, 18 ≤ o → o ≤ 35 → sL (o - 5) = nmW (o : Int) ∧ (nmW (o : Int)).length ≤ 7 := by
  intro o h1 h2
  have : o = 18 ∨ o = 19 ∨ o = 20 ∨ o = 21 ∨ o = 22 ∨ o = 23 ∨ o = 24 ∨ o = 25 ∨ o = 26 ∨ o = 27 ∨ o = 28 ∨ o = 29 ∨ o = 30 ∨ o = 31 ∨ o = 32 ∨ o = 33 ∨ o = 34 ∨ o = 35 := by omega
  rcases this with rfl | rfl | rfl | rfl | rfl | rfl | rfl | rfl | rfl | rfl | rfl | rfl | rfl | rfl | rfl | rfl | rfl | rfl <;> decide +kernel
def corW (r c f : Int) : List Int := (if f / 2 % 2 = 1 then [36] else []) ++ [65 + c] ++ (if f % 2 = 1 then [36] else []) ++ dec (r + 1)
def plW (s : Sh) (p : Prt) : List Int := if knowsP s (p.2.2.2.1.1 - 1) (p.2.2.2.1.2.1 - 1) ∧ knowsP s (p.2.2.2.1.2.2.1 - 1) (p.2.2.2.1.2.2.2 - 1) then corW (plS s 0 (p.2.2.2.1.1 - 1)) (plS s 1 (p.2.2.2.1.2.1 - 1)) (p.2.2.2.2.1 % 4) ++ (if p.1 = 17 then [58] ++ corW (plS s 0 (p.2.2.2.1.2.2.1 - 1)) (plS s 1 (p.2.2.2.1.2.2.2 - 1)) (p.2.2.2.2.1 / 4) else []) ++ (if p.2.2.2.2.2 = -1 then [] else [64] ++ dec p.2.2.2.2.2) else sL 2
def quo (l : Lit) : List Int := if l.1 = 2 then [34] else []
def litW (l : Lit) : List Int := quo l ++ (txtL l).2.2 ++ quo l
/-- the first k of n arguments, the last of which ends at j -/
def argW (g : Int → List Int) (sp : List Int) (n : Nat) (j : Int) : Nat → List Int
  | 0 => []
  | k + 1 => argW g sp n j k ++ (if k = 0 then [] else [44]) ++ g (wlk sp (n - 1 - k) j)
def opA (ps : List Prt) (j : Int) : Int := (ps.getD j.toNat pd0).1
def sdW (g : Int → List Int) (ps : List Prt) (j least : Int) : List Int := if bnd (opA ps j) < least then [40] ++ g j ++ [41] else g j
def wr (E : Int → Sh) (ps : List Prt) : Nat → Int → List Int
  | 0, _ => []
  | f + 1, i => if opA ps i = 14 then (match (ps.getD i.toNat pd0).2.2.1 with
      | none => []
      | some l => litW l)
    else if opA ps i = 15 then sL 2
    else if opA ps i = 16 ∨ opA ps i = 17 then plW (E (ps.getD i.toNat pd0).2.2.2.2.2) (ps.getD i.toNat pd0)
    else if opA ps i = 13 then [45] ++ sdW (wr E ps f) ps (i - 1) 5
    else if opA ps i ≤ 12 then sdW (wr E ps f) ps (wlk (spnL ps) 1 (i - 1)) (if bnd (opA ps i) = 1 then 2 else bnd (opA ps i)) ++ sgW (opA ps i) ++ sdW (wr E ps f) ps (i - 1) (bnd (opA ps i) + 1)
    else nmW (opA ps i) ++ [40] ++ argW (wr E ps f) (spnL ps) (ps.getD i.toNat pd0).2.1.toNat (i - 1) (ps.getD i.toNat pd0).2.1.toNat ++ [41]
