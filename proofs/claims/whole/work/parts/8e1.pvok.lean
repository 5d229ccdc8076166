/-! ===== values stay as they should be ===== -/
theorem VOk_er {n : Int} (h : 1 ≤ n) (h2 : n ≤ 7) : VOk (erL n) := Or.inr (Or.inr (Or.inr (Or.inr ⟨rfl, ⟨h, h2⟩, rfl⟩)))
theorem VOk_n {x : Int} (h : -1000000000000000 ≤ x) (h2 : x ≤ 1000000000000000) : VOk (1, x, []) := Or.inr (Or.inl ⟨rfl, ⟨h, h2⟩, rfl⟩)
theorem VOk_nu (x : Int) : VOk (nuL x) := by
  unfold nuL
  split
  · exact VOk_er (by decide) (by decide)
  · exact VOk_n (by omega) (by omega)
theorem VOk_tr (b : Bool) : VOk (trL b) := Or.inr (Or.inr (Or.inr (Or.inl ⟨rfl, by cases b; exact Or.inl rfl; exact Or.inr rfl, rfl⟩)))
theorem VOk_t {bs : List Int} (h : bs.length ≤ 24) (h2 : ∀ x ∈ bs, -128 ≤ x ∧ x ≤ 127) : VOk (2, 0, bs) := Or.inr (Or.inr (Or.inl ⟨rfl, rfl, h, h2⟩))
theorem VOk_e {l : Lit} (h : VOk l) (c : l.1 = 4) : l = erL l.2.1 ∧ 1 ≤ l.2.1 ∧ l.2.1 ≤ 7 := by
  rcases h with h | h | h | h | h
  · omega
  · omega
  · omega
  · omega
  · obtain ⟨h1, h2, h3⟩ := h
    refine ⟨?_, h2⟩
    unfold erL
    rw [← h1, ← h3]
theorem VOk_x {l : Lit} (h : VOk l) : -1000000000000000 ≤ l.2.1 ∧ l.2.1 ≤ 1000000000000000 := by
  rcases h with h | h | h | h | h <;> omega
theorem VOk_k {l : Lit} (h : VOk l) : 0 ≤ l.1 ∧ l.1 ≤ 4 := by
  rcases h with h | h | h | h | h <;> omega
theorem VOk_0 {l : Lit} (h : VOk l) (c : l.1 = 0) : l = (0, 0, []) := by
  rcases h with h | h | h | h | h
  · obtain ⟨k, x, bs⟩ := l
    obtain ⟨h1, h2, h3⟩ := h
    simp only at h1 h2 h3
    subst h1; subst h2; subst h3; rfl
  all_goals omega
theorem VOk_b {l : Lit} (h : VOk l) : l.2.2.length ≤ 24 ∧ (∀ x ∈ l.2.2, -128 ≤ x ∧ x ≤ 127) ∧ (l.1 ≠ 2 → l.2.2 = []) ∧ (l.1 = 2 → l.2.1 = 0) := by
  rcases h with h | h | h | h | h
  · rw [h.2.2]; exact ⟨by decide, fun x hx => (by cases hx), fun _ => rfl, fun c => by omega⟩
  · rw [h.2.2]; exact ⟨by decide, fun x hx => (by cases hx), fun _ => rfl, fun c => by omega⟩
  · exact ⟨h.2.2.1, h.2.2.2, fun c => absurd h.1 c, fun _ => h.2.1⟩
  · rw [h.2.2]; exact ⟨by decide, fun x hx => (by cases hx), fun _ => rfl, fun c => by omega⟩
  · rw [h.2.2]; exact ⟨by decide, fun x hx => (by cases hx), fun _ => rfl, fun c => by omega⟩
theorem VOk_L {l : Lit} (h : WfL l) : VOk l := by
  obtain ⟨h1, h2, h3, h4, h5, h6, h7⟩ := h
  have : l.1 = 1 ∨ l.1 = 2 ∨ l.1 = 3 := by omega
  rcases this with c | c | c
  · have := h2 c; exact Or.inr (Or.inl ⟨c, ⟨by omega, by omega⟩, h5 (by omega)⟩)
  · exact Or.inr (Or.inr (Or.inl ⟨c, h4 c, h6, h7⟩))
  · exact Or.inr (Or.inr (Or.inr (Or.inl ⟨c, h3 c, h5 (by omega)⟩)))
theorem sL01 : (sL 0).length = 4 ∧ (sL 1).length = 5 := by decide +kernel
/-- what a value is as a text -/
theorem VOk_txt {l : Lit} (h : VOk l) (c : l.1 ≠ 4) : (txtL l).1 = 2 ∧ VOk (txtL l) ∧ (txtL l).2.2.length ≤ 24 ∧ (∀ x ∈ (txtL l).2.2, -128 ≤ x ∧ x ≤ 127) := by
  have key : (txtL l).1 = 2 ∧ VOk (txtL l) := by
    unfold txtL
    by_cases c1 : l.1 = 1
    · rw [if_pos c1]
      have x := VOk_x h
      exact ⟨rfl, VOk_t (by have := (dec_len x.1 x.2).2; omega) (fun y hy => by have := dec_mem _ y hy; omega)⟩
    rw [if_neg c1]
    by_cases c3 : l.1 = 3
    · rw [if_pos c3]
      refine ⟨rfl, ?_⟩
      split
      · exact VOk_t (by rw [sL01.2]; decide) (fun y hy => by have := (sL_all 1 (by decide)).1 y hy; omega)
      · exact VOk_t (by rw [sL01.1]; decide) (fun y hy => by have := (sL_all 0 (by decide)).1 y hy; omega)
    rw [if_neg c3]
    by_cases c0 : l.1 = 0
    · rw [if_pos c0]; exact ⟨rfl, VOk_t (by decide) (fun x hx => by cases hx)⟩
    rw [if_neg c0]
    have := VOk_k h
    exact ⟨by omega, h⟩
  exact ⟨key.1, key.2, (VOk_b key.2).1, (VOk_b key.2).2.1⟩
theorem VOk_neg {l : Lit} (h : VOk l) : VOk (negV l) := by
  unfold negV
  split
  · exact h
  · split
    · have := VOk_x h; exact VOk_n (by omega) (by omega)
    · exact VOk_er (by decide) (by decide)
theorem VOk_cmp (op : Int) (l m : Lit) : VOk (cmpV op l m) := by
  unfold cmpV
  split
  · exact VOk_tr _
  · split
    · exact VOk_tr _
    · split
      · exact VOk_tr _
      · exact VOk_er (by decide) (by decide)
theorem VOk_joi {l m : Lit} (h : VOk l) (h2 : VOk m) (c : l.1 ≠ 4) (c2 : m.1 ≠ 4) : VOk (joiV l m) := by
  have a := VOk_txt h c
  have b := VOk_txt h2 c2
  unfold joiV
  split
  · exact VOk_er (by decide) (by decide)
  · refine VOk_t (by rw [List.length_append]; omega) (fun x hx => ?_)
    rcases List.mem_append.mp hx with hx | hx
    · exact a.2.2.2 x hx
    · exact b.2.2.2 x hx
theorem abI_n (x : Int) : 0 ≤ abI x ∧ (x = abI x ∨ x = -abI x) := by unfold abI; split <;> omega
theorem abI_mul {x y M : Int} (h0 : 0 ≤ M) (h : x = 0 ∨ abI y ≤ M / abI x) : -M ≤ x * y ∧ x * y ≤ M := by
  by_cases c : x = 0
  · rw [c, Int.zero_mul]; omega
  have h := h.resolve_left c
  have hx := abI_n x
  have hy := abI_n y
  have px : 0 < abI x := by omega
  have q : abI x * abI y ≤ M := by
    have h1 : abI x * abI y ≤ abI x * (M / abI x) := Int.mul_le_mul_of_nonneg_left h (by omega)
    have h2 : abI x * (M / abI x) ≤ M := Int.mul_ediv_self_le (by omega)
    omega
  have q0 : 0 ≤ abI x * abI y := Int.mul_nonneg hx.1 hy.1
  rcases hx.2 with e | e <;> rcases hy.2 with e2 | e2
  · rw [e, e2]; omega
  · rw [e, e2, Int.mul_neg]; omega
  · rw [e, e2, Int.neg_mul]; omega
  · rw [e, e2, Int.neg_mul_neg]; omega
theorem tdiv_b {x y M : Int} (h0 : -M ≤ x) (h1 : x ≤ M) : -M ≤ Int.tdiv x y ∧ Int.tdiv x y ≤ M := by
  have h := Int.natAbs_tdiv_le_natAbs x y
  omega
theorem tmod_b {x y M : Int} (h0 : -M ≤ x) (h1 : x ≤ M) : -M ≤ Int.tmod x y ∧ Int.tmod x y ≤ M := by
  have h : (Int.tmod x y).natAbs ≤ x.natAbs := by rw [Int.natAbs_tmod]; exact Nat.mod_le _ _
  omega
theorem VOk_rec {op x y : Int} (x0 : -1000000000000000 ≤ x) (x1 : x ≤ 1000000000000000) : VOk (recV op x y) := by
  unfold recV
  split
  · exact VOk_nu _
  split
  · exact VOk_nu _
  split
  · split
    · exact VOk_er (by decide) (by decide)
    · next c =>
      have := abI_mul (x := x) (y := y) (M := 1000000000000000) (by decide) (by by_cases c0 : x = 0; exact Or.inl c0; exact Or.inr (by omega))
      exact VOk_n this.1 this.2
  split
  · exact VOk_er (by decide) (by decide)
  split
  · have := tdiv_b (y := y) x0 x1; exact VOk_n this.1 this.2
  · have := tmod_b (y := y) x0 x1; exact VOk_n this.1 this.2
theorem VOk_two {op : Int} {l m : Lit} (h : VOk l) (h2 : VOk m) : VOk (twoV op l m) := by
  unfold twoV
  split
  · exact h
  split
  · exact h2
  split
  · exact VOk_cmp _ _ _
  split
  · exact VOk_joi h h2 (by assumption) (by assumption)
  split
  · have := VOk_x h; exact VOk_rec this.1 this.2
  · exact VOk_er (by decide) (by decide)
theorem VOk_if {l a b : Lit} (h : VOk l) (ha : VOk a) (hb : VOk b) : VOk (ifV l a b) := by
  unfold ifV
  split
  · exact h
  split
  · split
    · exact hb
    · exact ha
  · exact VOk_er (by decide) (by decide)
theorem VOk_one {op : Int} {l : Lit} (h : VOk l) : VOk (oneV op l) := by
  unfold oneV
  split
  · exact VOk_tr _
  split
  · exact h
  split
  · next c _ => have := (VOk_txt h c).2.2.1; exact VOk_n (by omega) (by omega)
  split
  · split
    · exact VOk_tr _
    · exact VOk_er (by decide) (by decide)
  · split
    · have := VOk_x h; have := abI_n l.2.1; exact VOk_n (by omega) (by omega)
    · exact VOk_er (by decide) (by decide)
theorem VOk_end {op : Int} {l m : Lit} (h : VOk l) (h2 : VOk m) : VOk (endV op l m) := by
  unfold endV
  split
  · exact h
  split
  · exact h2
  split
  · next c _ _ =>
    have a := VOk_txt h c
    split
    · exact VOk_t (by rw [List.length_take]; omega) (fun x hx => a.2.2.2 x (List.mem_of_mem_take hx))
    · exact VOk_t (by rw [List.length_drop]; omega) (fun x hx => a.2.2.2 x (List.mem_of_mem_drop hx))
  · exact VOk_er (by decide) (by decide)
theorem matV_b (w : Lit) : ∀ (L : List Lit) (s : Int × Int), 0 ≤ s.1 → 0 ≤ s.2 → s.2 ≤ s.1 → let t := L.foldl (fun s c => (s.1 + 1, if s.2 = 0 ∧ lkV w c = true then s.1 + 1 else s.2)) s
    t.1 = s.1 + L.length ∧ 0 ≤ t.2 ∧ t.2 ≤ t.1
  | [], s, h0, h1, h2 => by simp only [List.foldl_nil, List.length_nil]; omega
  | c :: L, s, h0, h1, h2 => by
    rw [List.foldl_cons, List.length_cons]
    have p1 : 0 ≤ (if s.2 = 0 ∧ lkV w c = true then s.1 + 1 else s.2) := by split <;> omega
    have p2 : (if s.2 = 0 ∧ lkV w c = true then s.1 + 1 else s.2) ≤ s.1 + 1 := by split <;> omega
    have := matV_b w L (s.1 + 1, if s.2 = 0 ∧ lkV w c = true then s.1 + 1 else s.2) (by show 0 ≤ s.1 + 1; omega) p1 p2
    simp only at this ⊢
    omega
theorem cntV_b (w : Lit) : ∀ (L : List Lit) (s : Int), 0 ≤ s → 0 ≤ L.foldl (fun s c => if lkV w c = true then s + 1 else s) s ∧ L.foldl (fun s c => if lkV w c = true then s + 1 else s) s ≤ s + L.length
  | [], s, h0 => by rw [List.foldl_nil, List.length_nil]; omega
  | c :: L, s, h0 => by
    rw [List.foldl_cons, List.length_cons]
    have := cntV_b w L (if lkV w c = true then s + 1 else s) (by split <;> omega)
    split at this
    · next c => rw [if_pos c]; omega
    · next c => rw [if_neg c]; omega
theorem getD_mem {L : List Lit} {k : Nat} {d : Lit} (h : k < L.length) : L.getD k d ∈ L := by
  rw [List.getD_eq_getElem?_getD, List.getElem?_eq_getElem h]; exact List.getElem_mem h
theorem VOk_lok {op : Int} {ar : Option (List Lit)} {w : Lit} (h : VOk w) (ha : ∀ L, ar = some L → L.length ≤ 320 ∧ ∀ c ∈ L, VOk c) : VOk (lokV op ar w) := by
  unfold lokV
  split
  · exact h
  match ar, ha with
  | none, _ => exact VOk_er (by decide) (by decide)
  | some L, ha =>
    obtain ⟨hl, ha⟩ := ha L rfl
    simp only
    split
    · split
      · split
        · exact VOk_er (by decide) (by decide)
        · exact ha _ (getD_mem (by omega))
      · exact VOk_er (by decide) (by decide)
    split
    · have := cntV_b w L 0 (by decide)
      unfold cntV
      exact VOk_n (by omega) (by omega)
    split
    · exact VOk_er (by decide) (by decide)
    · have := matV_b w L (0, 0) (by decide) (by decide) (by decide)
      unfold matV
      simp only at this
      exact VOk_n (by omega) (by omega)
/-- what is tallied -/
def TOk (op : Int) (s : Tly) : Prop := match s with
  | .inl e => VOk e ∧ e.1 = 4
  | .inr xs => ∀ x ∈ xs, (-1000000000000000 ≤ x ∧ x ≤ 1000000000000000) ∧ (wtK op = 3 → x = 0 ∨ x = 1)
theorem TOk_c {op x : Int} {xs : List Int} (h : TOk op (.inr xs)) (h0 : -1000000000000000 ≤ x) (h1 : x ≤ 1000000000000000) (h3 : wtK op = 3 → x = 0 ∨ x = 1) : TOk op (.inr (x :: xs)) := by
  intro y hy
  rcases List.mem_cons.mp hy with rfl | hy
  · exact ⟨⟨h0, h1⟩, h3⟩
  · exact h y hy
theorem TOk_k {op : Int} {l : Lit} (h : VOk l) (c : l.1 = wtK op ∨ l.1 = 0) : wtK op = 3 → l.2.1 = 0 ∨ l.2.1 = 1 := by
  intro w
  rcases h with h | h | h | h | h <;> omega
theorem TOk_cel {op : Int} {s : Tly} {c : Lit} (h : TOk op s) (hc : VOk c) : TOk op (celS op s c) := by
  match s, h with
  | .inl e, h => exact h
  | .inr xs, h =>
    unfold celS
    simp only
    split
    · next c4 => exact ⟨hc, c4.1⟩
    split
    · next k => have x := VOk_x hc; exact TOk_c h x.1 x.2 (TOk_k hc (Or.inl k))
    · exact h
theorem TOk_cels {op : Int} : ∀ (L : List Lit) (s : Tly), TOk op s → (∀ c ∈ L, VOk c) → TOk op (L.foldl (celS op) s)
  | [], _, h, _ => h
  | c :: L, s, h, hc => by
    rw [List.foldl_cons]
    exact TOk_cels L _ (TOk_cel h (hc c (List.mem_cons_self))) (fun d hd => hc d (List.mem_cons_of_mem _ hd))
def IOk (it : Itm) : Prop := match it with
  | .inl (l, _) => VOk l
  | .inr none => True
  | .inr (some L) => L.length ≤ 320 ∧ ∀ c ∈ L, VOk c
theorem TOk_on {op : Int} {l : Lit} {ab : Bool} {xs : List Int} (h : TOk op (.inr xs)) (hl : VOk l) : TOk op (onT op l ab xs) := by
  have x := VOk_x hl
  unfold onT
  split
  · next c24 =>
    split
    · exact ⟨VOk_er (by decide) (by decide), rfl⟩
    split
    · exact TOk_c h x.1 x.2 (fun w => by unfold wtK at w; rw [if_neg (by omega)] at w; omega)
    · exact h
  split
  · next c => exact TOk_c h x.1 x.2 (TOk_k hl c)
  · exact ⟨VOk_er (by decide) (by decide), rfl⟩
theorem TOk_arg {op : Int} {s : Tly} {it : Itm} (h : TOk op s) (hi : IOk it) : TOk op (argT op s it) := by
  match s, h with
  | .inl e, h => exact h
  | .inr xs, h =>
    match it, hi with
    | .inl (l, ab), hi => exact TOk_on h hi
    | .inr none, _ => exact ⟨VOk_er (by decide) (by decide), rfl⟩
    | .inr (some L), hi => exact TOk_cels L _ h hi.2
theorem TOk_args {op : Int} : ∀ (L : List Itm) (s : Tly), TOk op s → (∀ c ∈ L, IOk c) → TOk op (L.foldl (argT op) s)
  | [], _, h, _ => h
  | c :: L, s, h, hc => by
    rw [List.foldl_cons]
    exact TOk_args L _ (TOk_arg h (hc c (List.mem_cons_self))) (fun d hd => hc d (List.mem_cons_of_mem _ hd))
theorem besR_m (op : Int) : ∀ xs : List Int, xs ≠ [] → besR op xs ∈ xs
  | [], h => absurd rfl h
  | x :: xs, _ => by
    rw [besR]
    by_cases c : xs = [] ∨ (if op = 22 then x < besR op xs else besR op xs < x)
    · rw [if_pos c]; exact List.mem_cons_self
    · rw [if_neg c]; exact List.mem_cons_of_mem _ (besR_m op xs (fun w => c (Or.inl w)))
theorem VOk_tel {op : Int} {xs : List Int} (h : TOk op (.inr xs)) (hl : xs.length ≤ 1000000) : VOk (telV op xs) := by
  unfold telV
  split
  · exact VOk_tr _
  split
  · exact VOk_tr _
  split
  · exact VOk_n (by omega) (by omega)
  split
  · exact VOk_nu _
  split
  · exact VOk_er (by decide) (by decide)
  · next c => have := (h _ (besR_m op xs c)).1; exact VOk_n this.1 this.2
/-- how much can be tallied -/
def tlN (s : Tly) : Nat := match s with
  | .inl _ => 0
  | .inr xs => xs.length
theorem tlN_cel (op : Int) (s : Tly) (c : Lit) : tlN (celS op s c) ≤ tlN s + 1 := by
  match s with
  | .inl e => exact Nat.zero_le _
  | .inr xs =>
    unfold celS; simp only
    split
    · exact Nat.zero_le _
    split
    · exact Nat.le_refl _
    · exact Nat.le_succ _
theorem tlN_cels (op : Int) : ∀ (L : List Lit) (s : Tly), tlN (L.foldl (celS op) s) ≤ tlN s + L.length
  | [], _ => Nat.le_refl _
  | c :: L, s => by
    rw [List.foldl_cons, List.length_cons]
    have := tlN_cels op L (celS op s c)
    have := tlN_cel op s c
    omega
theorem tlN_arg {op : Int} {s : Tly} {it : Itm} (hi : IOk it) : tlN (argT op s it) ≤ tlN s + 320 := by
  match s with
  | .inl e => exact Nat.zero_le _
  | .inr xs =>
    match it, hi with
    | .inl (l, ab), hi =>
      show tlN (onT op l ab xs) ≤ _
      unfold onT
      repeat' split
      all_goals first | exact Nat.zero_le _ | (show _ ≤ xs.length + 320; show List.length _ ≤ _; simp only [List.length_cons]; omega) | (show xs.length ≤ xs.length + 320; omega)
    | .inr none, _ => exact Nat.zero_le _
    | .inr (some L), hi =>
      have := tlN_cels op L (.inr xs)
      have := hi.1
      show tlN (L.foldl (celS op) (.inr xs)) ≤ _
      omega
theorem tlN_args {op : Int} : ∀ (L : List Itm) (s : Tly), (∀ c ∈ L, IOk c) → tlN (L.foldl (argT op) s) ≤ tlN s + 320 * L.length
  | [], _, _ => Nat.le_refl _
  | c :: L, s, hc => by
    rw [List.foldl_cons, List.length_cons]
    have := tlN_args (op := op) L (argT op s c) (fun d hd => hc d (List.mem_cons_of_mem _ hd))
    have := tlN_arg (op := op) (s := s) (hc c (List.mem_cons_self))
    omega
theorem ferV_o {L : List Itm} (h : ∀ c ∈ L, IOk c) {e : Lit} : ∀ (e0 : Option Lit), (∀ x, e0 = some x → VOk x ∧ x.1 = 4) → L.foldl ferS e0 = some e → VOk e ∧ e.1 = 4 := by
  induction L with
  | nil => intro e0 h0 he; exact h0 e he
  | cons c L ih =>
    intro e0 h0 he
    rw [List.foldl_cons] at he
    refine ih (fun d hd => h d (List.mem_cons_of_mem _ hd)) _ ?_ he
    have hc := h c List.mem_cons_self
    intro x hx
    match e0, c, hc, hx with
    | some y, _, _, hx => exact h0 x hx
    | none, .inl (l, b), hc, hx =>
      unfold ferS at hx
      simp only at hx
      split at hx
      · next c4 => cases hx; exact ⟨hc, c4⟩
      · cases hx
    | none, .inr _, _, hx => cases hx
theorem VOk_man {op : Int} {L : List Itm} (h : ∀ c ∈ L, IOk c) (hl : L.length ≤ 100) : VOk (manV op L) := by
  unfold manV
  have q1 := fun e => ferV_o h (e := e) none (fun x hx => by cases hx)
  have q2 := TOk_args (op := op) L (.inr []) (fun x hx => by cases hx) h
  have q3 := tlN_args (op := op) L (.inr []) h
  have fin : VOk (match L.foldl (argT op) (.inr []) with
    | .inl e => e
    | .inr xs => telV op xs) := by
    revert q2 q3
    cases L.foldl (argT op) (.inr []) with
    | inl e => exact fun q2 _ => q2.1
    | inr xs => intro q2 q3; exact VOk_tel q2 (by have : tlN (.inr xs) = xs.length := rfl
                                                  have : tlN (.inr []) = 0 := rfl
                                                  omega)
  by_cases c : op = 24
  · rw [if_pos c]; exact fin
  · rw [if_neg c]
    revert q1
    unfold ferV
    cases L.foldl ferS none with
    | some e => exact fun q1 => (q1 e rfl).1
    | none => exact fun _ => fin
