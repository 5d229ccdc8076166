/-! ===== values: what both evaluators reckon with ===== -/
def erL (n : Int) : Lit := (4, n, [])
def nuL (x : Int) : Lit := if 1000000000000000 < x ∨ x < -1000000000000000 then erL 4 else (1, x, [])
def trL (b : Bool) : Lit := (3, if b = true then 1 else 0, [])
def VOk (l : Lit) : Prop := (l.1 = 0 ∧ l.2.1 = 0 ∧ l.2.2 = []) ∨ (l.1 = 1 ∧ (-1000000000000000 ≤ l.2.1 ∧ l.2.1 ≤ 1000000000000000) ∧ l.2.2 = []) ∨ (l.1 = 2 ∧ l.2.1 = 0 ∧ l.2.2.length ≤ 24 ∧ ∀ x ∈ l.2.2, -128 ≤ x ∧ x ≤ 127) ∨ (l.1 = 3 ∧ (l.2.1 = 0 ∨ l.2.1 = 1) ∧ l.2.2 = []) ∨ (l.1 = 4 ∧ (1 ≤ l.2.1 ∧ l.2.1 ≤ 7) ∧ l.2.2 = [])
def abI (x : Int) : Int := if 0 ≤ x then x else -x
def negV (l : Lit) : Lit := if l.1 = 4 then l else if l.1 = 1 ∨ l.1 = 0 then (1, -l.2.1, []) else erL 3
def asO (l m : Lit) : Lit := if l.1 = 0 ∧ (m.1 = 1 ∨ m.1 = 2 ∨ m.1 = 3) then (m.1, 0, []) else l
def cmpB : List Int → List Int → Int
  | [], [] => 0
  | [], _ :: _ => -1
  | _ :: _, [] => 1
  | x :: a, y :: b => if x = y then cmpB a b else if x < y then -1 else 1
def cmpN (x y : Int) : Int := if x < y then -1 else if y < x then 1 else 0
def ordV (l m : Lit) : Int := if l.1 = 2 then cmpB l.2.2 m.2.2 else cmpN l.2.1 m.2.1
def hldO (op o : Int) : Bool := if op = 1 then decide (o = 0) else if op = 2 then decide (o ≠ 0) else if op = 3 then decide (o < 0) else if op = 4 then decide (o ≤ 0) else if op = 5 then decide (0 < o) else decide (0 ≤ o)
def cmpV (op : Int) (l m : Lit) : Lit := if (asO l m).1 = (asO m l).1 then trL (hldO op (ordV (asO l m) (asO m l))) else if op = 1 then trL false else if op = 2 then trL true else erL 3
def joiV (l m : Lit) : Lit := if 24 < (txtL l).2.2.length + (txtL m).2.2.length then erL 5 else (2, 0, (txtL l).2.2 ++ (txtL m).2.2)
def recV (op x y : Int) : Lit := if op = 8 then nuL (x + y) else if op = 9 then nuL (x - y) else if op = 10 then (if x ≠ 0 ∧ 1000000000000000 / abI x < abI y then erL 4 else (1, x * y, [])) else if y = 0 then erL 2 else if op = 11 then (1, Int.tdiv x y, []) else (1, Int.tmod x y, [])
def twoV (op : Int) (l m : Lit) : Lit := if l.1 = 4 then l else if m.1 = 4 then m else if op ≤ 6 then cmpV op l m else if op = 7 then joiV l m else if (l.1 = 1 ∨ l.1 = 0) ∧ (m.1 = 1 ∨ m.1 = 0) then recV op l.2.1 m.2.1 else erL 3
def ifV (l a b : Lit) : Lit := if l.1 = 4 then l else if l.1 = 3 ∨ l.1 = 0 then (if l.2.1 = 0 then b else a) else erL 3
def oneV (op : Int) (l : Lit) : Lit := if op = 28 then trL (decide (l.1 = 4)) else if l.1 = 4 then l else if op = 27 then (1, ((txtL l).2.2.length : Int), []) else if op = 25 then (if l.1 = 3 ∨ l.1 = 0 then trL (decide (l.2.1 = 0)) else erL 3) else (if l.1 = 1 ∨ l.1 = 0 then (1, abI l.2.1, []) else erL 3)
def kptV (l m : Lit) : Nat := min m.2.1.toNat (txtL l).2.2.length
def endV (op : Int) (l m : Lit) : Lit := if l.1 = 4 then l else if m.1 = 4 then m else if (m.1 = 1 ∨ m.1 = 0) ∧ 0 ≤ m.2.1 then (2, 0, if op = 31 then (txtL l).2.2.take (kptV l m) else (txtL l).2.2.drop ((txtL l).2.2.length - kptV l m)) else erL 3
/-- MATCH, COUNTIF: is it the same -/
def lkV (w c : Lit) : Bool := decide (c.1 ≠ 4 ∧ (asO c w).1 = (asO w c).1 ∧ ordV (asO c w) (asO w c) = 0)
def matV (w : Lit) (L : List Lit) : Int × Int := L.foldl (fun s c => (s.1 + 1, if s.2 = 0 ∧ lkV w c = true then s.1 + 1 else s.2)) (0, 0)
def cntV (w : Lit) (L : List Lit) : Int := L.foldl (fun s c => if lkV w c = true then s + 1 else s) 0
def lokV (op : Int) (ar : Option (List Lit)) (w : Lit) : Lit := if w.1 = 4 then w else match ar with
  | none => erL 1
  | some L => if op = 33 then (if w.1 = 1 ∨ w.1 = 0 then (if w.2.1 < 1 ∨ (L.length : Int) < w.2.1 then erL 1 else L.getD (w.2.1 - 1).toNat (erL 1)) else erL 3) else if op = 35 then (1, cntV w L, []) else if (matV w L).2 = 0 then erL 7 else (1, (matV w L).2, [])
/-- an argument of AND to COUNT: a value (and whether it is a #REF itself) or an area -/
abbrev Itm : Type := (Lit × Bool) ⊕ Option (List Lit)
def wtK (op : Int) : Int := if op = 19 ∨ op = 20 then 3 else 1
def ferS (e : Option Lit) (it : Itm) : Option Lit := match e, it with
  | some x, _ => some x
  | none, .inl (l, _) => if l.1 = 4 then some l else none
  | none, .inr _ => none
def ferV (L : List Itm) : Option Lit := L.foldl ferS none
/-- what is tallied so far (the latest first), or the error -/
abbrev Tly : Type := Lit ⊕ List Int
def celS (op : Int) (s : Tly) (c : Lit) : Tly := match s with
  | .inl e => .inl e
  | .inr xs => if c.1 = 4 ∧ op ≠ 24 then .inl c else if c.1 = wtK op then .inr (c.2.1 :: xs) else .inr xs
def onT (op : Int) (l : Lit) (ab : Bool) (xs : List Int) : Tly := if op = 24 then (if ab = true then .inl (erL 1) else if l.1 = 1 then .inr (l.2.1 :: xs) else .inr xs) else if l.1 = wtK op ∨ l.1 = 0 then .inr (l.2.1 :: xs) else .inl (erL 3)
def argT (op : Int) (s : Tly) (it : Itm) : Tly := match s with
  | .inl e => .inl e
  | .inr xs => match it with
    | .inl (l, ab) => onT op l ab xs
    | .inr none => .inl (erL 1)
    | .inr (some L) => L.foldl (celS op) (.inr xs)
def sumR : List Int → Int
  | [] => 0
  | x :: xs => w64 (sumR xs + x)
def besR (op : Int) : List Int → Int
  | [] => 0
  | x :: xs => if xs = [] ∨ (if op = 22 then x < besR op xs else besR op xs < x) then x else besR op xs
def telV (op : Int) (xs : List Int) : Lit := if op = 19 then trL (xs.all (fun x => decide (x ≠ 0))) else if op = 20 then trL (xs.any (fun x => decide (x ≠ 0))) else if op = 24 then (1, (xs.length : Int), []) else if op = 21 then nuL (sumR xs) else if xs = [] then erL 7 else (1, besR op xs, [])
def manV (op : Int) (L : List Itm) : Lit := match (if op = 24 then none else ferV L) with
  | some e => e
  | none => match L.foldl (argT op) (.inr []) with
    | .inl e => e
    | .inr xs => telV op xs
/-! ===== a formula's value ===== -/
def agI (ps : List Prt) (i k : Nat) : Nat := (wlk (spnL ps) ((ps.getD i pd0).2.1.toNat - 1 - k) ((i : Int) - 1)).toNat
def itm (sv : Nat → Option Lit) (av : Nat → Option (List Lit)) (ps : List Prt) (g : Nat → Lit) (j : Nat) : Itm := if (ps.getD j pd0).1 = 17 then .inr (av j) else .inl (g j, decide ((ps.getD j pd0).1 = 15 ∨ ((ps.getD j pd0).1 = 16 ∧ (sv j).isNone = true)))
def rcV (op : Int) (x : Option (Int × Int)) : Lit := match x with
  | none => erL 1
  | some (r, c) => (1, (if op = 29 then r else c) + 1, [])
def liV (l : Option Lit) : Lit := match l with
  | some l => l
  | none => erL 1
def stV (sv : Nat → Option Lit) (av : Nat → Option (List Lit)) (pl : Nat → Option (Int × Int)) (ps : List Prt) (g : Nat → Lit) (i : Nat) : Lit :=
  if (ps.getD i pd0).1 = 14 then liV (ps.getD i pd0).2.2.1
  else if (ps.getD i pd0).1 = 15 ∨ (ps.getD i pd0).1 = 17 then erL 1
  else if (ps.getD i pd0).1 = 16 then liV (sv i)
  else if (ps.getD i pd0).1 = 13 then negV (g (agI ps i 0))
  else if (ps.getD i pd0).1 ≤ 12 then twoV (ps.getD i pd0).1 (g (agI ps i 0)) (g (agI ps i 1))
  else if (ps.getD i pd0).1 = 18 then ifV (g (agI ps i 0)) (g (agI ps i 1)) (g (agI ps i 2))
  else if (ps.getD i pd0).1 ≤ 24 then manV (ps.getD i pd0).1 ((List.range (ps.getD i pd0).2.1.toNat).map (fun k => itm sv av ps g (agI ps i k)))
  else if (ps.getD i pd0).1 ≤ 28 then oneV (ps.getD i pd0).1 (g (agI ps i 0))
  else if (ps.getD i pd0).1 ≤ 30 then rcV (ps.getD i pd0).1 (pl (agI ps i 0))
  else if (ps.getD i pd0).1 ≤ 32 then endV (ps.getD i pd0).1 (g (agI ps i 0)) (g (agI ps i 1))
  else if (ps.getD i pd0).1 = 34 then lokV (ps.getD i pd0).1 (av (agI ps i 1)) (g (agI ps i 0))
  else lokV (ps.getD i pd0).1 (av (agI ps i 0)) (g (agI ps i 1))
def evF (sv : Nat → Option Lit) (av : Nat → Option (List Lit)) (pl : Nat → Option (Int × Int)) (ps : List Prt) : Nat → Nat → Lit
  | 0, _ => erL 1
  | f + 1, i => stV sv av pl ps (evF sv av pl ps f) i
def evV (sv : Nat → Option Lit) (av : Nat → Option (List Lit)) (pl : Nat → Option (Int × Int)) (ps : List Prt) (i : Nat) : Lit := evF sv av pl ps (i + 1) i
/-- a formula's parts as they are in both -/
def WfV (ps : List Prt) : Prop := WfF ps ∧ ∀ i : Nat, i < ps.length → WfP (ps.getD i pd0)
theorem WfP_a {p : Prt} (h : WfP p) : (1 ≤ p.1 ∧ p.1 ≤ 35) ∧ 0 ≤ p.2.1 ∧ (p.1 ≤ 12 → p.2.1 = 2) ∧ (p.1 = 13 → p.2.1 = 1) ∧ (14 ≤ p.1 → p.1 ≤ 17 → p.2.1 = 0) ∧ (p.1 = 18 → p.2.1 = 3) ∧ (19 ≤ p.1 → p.1 ≤ 24 → 1 ≤ p.2.1 ∧ p.2.1 ≤ 8) ∧ (25 ≤ p.1 → p.1 ≤ 30 → p.2.1 = 1) ∧ (31 ≤ p.1 → p.2.1 = 2) := by
  obtain ⟨h1, -, -, -, h5, -⟩ := h
  unfold argL argM at h5
  refine ⟨h1, ?_, ?_, ?_, ?_, ?_, ?_, ?_, ?_⟩ <;> (repeat' split at h5) <;> omega
theorem WfV_i {ps : List Prt} (W : WfV ps) {i : Nat} (hi : i < ps.length) : (spnL ps).getD i 0 ≤ i + 1 ∧ (i = 0 → (ps.getD i pd0).2.1 = 0) ∧ (spnL ps).getD i 0 = 1 + (((i : Int) - 1) - wlk (spnL ps) (ps.getD i pd0).2.1.toNat ((i : Int) - 1)) := by
  obtain ⟨⟨h1, h2⟩, -⟩ := W.1.1 i hi
  exact ⟨h1, h2, by rw [spn_e hi h2, undS_w]⟩
theorem agI_w {ps : List Prt} (W : WfV ps) {i k : Nat} (hi : i < ps.length) (hk : (k : Int) < (ps.getD i pd0).2.1) : ((agI ps i k : Nat) : Int) = wlk (spnL ps) ((ps.getD i pd0).2.1.toNat - 1 - k) ((i : Int) - 1) ∧ agI ps i k < i := by
  obtain ⟨h1, h2, -⟩ := WfV_i W hi
  have := wlk_b hi h1 h2 (m := (ps.getD i pd0).2.1.toNat - 1 - k) (by omega)
  unfold agI
  omega
/-- a step looks only at the arguments -/
theorem stV_c {sv : Nat → Option Lit} {av : Nat → Option (List Lit)} {pl : Nat → Option (Int × Int)} {ps : List Prt} {g g' : Nat → Lit} {i : Nat} (W : WfV ps) (hi : i < ps.length) (h : ∀ j, j < i → g j = g' j) : stV sv av pl ps g i = stV sv av pl ps g' i := by
  obtain ⟨w1, w2, w3, w4, w5, w6, w7, w8, w9⟩ := WfP_a (W.2 i hi)
  have e : ∀ k : Nat, (k : Int) < (ps.getD i pd0).2.1 → g (agI ps i k) = g' (agI ps i k) := fun k hk => h _ (agI_w W hi hk).2
  unfold stV
  by_cases c14 : (ps.getD i pd0).1 = 14
  · rw [if_pos c14, if_pos c14]
  rw [if_neg c14, if_neg c14]
  by_cases c15 : (ps.getD i pd0).1 = 15 ∨ (ps.getD i pd0).1 = 17
  · rw [if_pos c15, if_pos c15]
  rw [if_neg c15, if_neg c15]
  by_cases c16 : (ps.getD i pd0).1 = 16
  · rw [if_pos c16, if_pos c16]
  rw [if_neg c16, if_neg c16]
  by_cases c13 : (ps.getD i pd0).1 = 13
  · rw [if_pos c13, if_pos c13, e 0 (by omega)]
  rw [if_neg c13, if_neg c13]
  by_cases c12 : (ps.getD i pd0).1 ≤ 12
  · rw [if_pos c12, if_pos c12, e 0 (by omega), e 1 (by omega)]
  rw [if_neg c12, if_neg c12]
  by_cases c18 : (ps.getD i pd0).1 = 18
  · rw [if_pos c18, if_pos c18, e 0 (by omega), e 1 (by omega), e 2 (by omega)]
  rw [if_neg c18, if_neg c18]
  by_cases c24 : (ps.getD i pd0).1 ≤ 24
  · rw [if_pos c24, if_pos c24]
    congr 1
    refine List.map_congr_left (fun k hk => ?_)
    rw [List.mem_range] at hk
    unfold itm
    rw [e k (by omega)]
  rw [if_neg c24, if_neg c24]
  by_cases c28 : (ps.getD i pd0).1 ≤ 28
  · rw [if_pos c28, if_pos c28, e 0 (by omega)]
  rw [if_neg c28, if_neg c28]
  by_cases c30 : (ps.getD i pd0).1 ≤ 30
  · rw [if_pos c30, if_pos c30]
  rw [if_neg c30, if_neg c30]
  by_cases c32 : (ps.getD i pd0).1 ≤ 32
  · rw [if_pos c32, if_pos c32, e 0 (by omega), e 1 (by omega)]
  rw [if_neg c32, if_neg c32]
  by_cases c34 : (ps.getD i pd0).1 = 34
  · rw [if_pos c34, if_pos c34, e 0 (by omega)]
  rw [if_neg c34, if_neg c34, e 1 (by omega)]
theorem evF_s {sv : Nat → Option Lit} {av : Nat → Option (List Lit)} {pl : Nat → Option (Int × Int)} {ps : List Prt} (W : WfV ps) : ∀ (f f' i : Nat), i < ps.length → i < f → i < f' → evF sv av pl ps f i = evF sv av pl ps f' i
  | 0, _, _, _, h, _ => absurd h (Nat.not_lt_zero _)
  | _ + 1, 0, _, _, _, h => absurd h (Nat.not_lt_zero _)
  | f + 1, f' + 1, i, hi, h1, h2 => by
    rw [evF, evF]
    exact stV_c W hi (fun j hj => evF_s W f f' j (by omega) (by omega) (by omega))
theorem evV_s {sv : Nat → Option Lit} {av : Nat → Option (List Lit)} {pl : Nat → Option (Int × Int)} {ps : List Prt} (W : WfV ps) {i : Nat} (hi : i < ps.length) : evV sv av pl ps i = stV sv av pl ps (evV sv av pl ps) i := by
  show evF sv av pl ps (i + 1) i = _
  rw [evF]
  exact stV_c W hi (fun j hj => evF_s W i (j + 1) j (by omega) hj (by omega))
