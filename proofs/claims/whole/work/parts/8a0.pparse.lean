/-! ===== the parser, pure ===== -/
/-- a text: its bytes (0 to 255), its end (without blanks), its length -/
abbrev Tx : Type := (Int → Int) × Int × Int
def bt (t : Tx) (k : Int) : Int := if 0 ≤ k ∧ k < t.2.1 then t.1 k else -1
def run (p : Int → Bool) (t : Tx) : Nat → Int → Int
  | 0, k => k
  | f + 1, k => if p (bt t k) = true then run p t f (k + 1) else k
def rn (p : Int → Bool) (t : Tx) (k : Int) : Int := run p t (t.2.1 - k).toNat k
def blB (x : Int) : Bool := decide (x = 32)
def dgB (x : Int) : Bool := decide (48 ≤ x ∧ x ≤ 57)
def leB (x : Int) : Bool := decide (65 ≤ x ∧ x ≤ 90)
def plB (x : Int) : Bool := decide (32 ≤ x ∧ x ≤ 126)
def skp (t : Tx) (k : Int) : Int := rn blB t k
def peo (t : Tx) (k : Int) : Int := if k < t.2.1 then k else t.2.2
/-- where the reading stands (no blank there), the parts, the late fault -/
abbrev PS : Type := Int × List Prt × Int × Int
abbrev PR : Type := (Int × Int) ⊕ PS
def rb (r : PR) (k : PS → PR) : PR := match r with
  | .inl e => .inl e
  | .inr s => k s
def ltU (k p : Int) (s : Int × Int) : Int × Int := if s.1 = 0 ∨ p < s.2 then (k, p) else s
def cr0 (t : Tx) (k : Int) : Int := if bt t k = 36 then k + 1 else k
def cr2 (t : Tx) (k : Int) : Int := cr0 t (cr0 t k + 1)
def crE (t : Tx) (k : Int) : Int := if dgB (bt t (cr2 t k + 1)) = true then cr2 t k + 2 else cr2 t k + 1
def crR (t : Tx) (k : Int) : Int := if dgB (bt t (cr2 t k + 1)) = true then (bt t (cr2 t k) - 48) * 10 + bt t (cr2 t k + 1) - 48 else bt t (cr2 t k) - 48
def crC (t : Tx) (k : Int) : Int := bt t (cr0 t k) - 64
def crF (t : Tx) (k : Int) : Int := (if bt t k = 36 then 2 else 0) + (if bt t (cr0 t k + 1) = 36 then 1 else 0)
/-- a corner stands at k -/
abbrev crP (t : Tx) (k : Int) : Prop := (65 ≤ bt t (cr0 t k) ∧ bt t (cr0 t k) ≤ 74) ∧ dgB (bt t (cr2 t k)) = true ∧ dgB (bt t (crE t k)) = false ∧ leB (bt t (crE t k)) = false
/-- a version after @: the fault's place, or the version and where it ends -/
def vrP (t : Tx) (k : Int) : Int ⊕ (Int × Int) := if bt t k = 64 then (if dgB (bt t (k + 1)) = false then .inl (k + 1) else if dgB (bt t (k + 2)) = false then .inr (bt t (k + 1) - 48, k + 2) else if dgB (bt t (k + 3)) = true then .inl (k + 3) else .inr ((bt t (k + 1) - 48) * 10 + bt t (k + 2) - 48, k + 3)) else .inr (-1, k)
abbrev thP (S : SS) (v r c : Int) : Prop := isShP v S ∧ (1 ≤ r ∧ r ≤ (shOf v S).1.1) ∧ (1 ≤ c ∧ c ≤ (shOf v S).1.2)
def leafP (op : Int) : Prt := (op, 0, none, (0, 0, 0, 0), 0, -1)
def plcP (S : SS) (op v r c r2 c2 fx : Int) : Prt := (op, 0, none, (idS (shOf v S) 0 (r - 1) + 1, idS (shOf v S) 1 (c - 1) + 1, idS (shOf v S) 0 (r2 - 1) + 1, idS (shOf v S) 1 (c2 - 1) + 1), fx, v)
def plcA (S : SS) (op v r c r2 c2 fx fr at1 : Int) (st : PS) : PS := if thP S v r c ∧ thP S v r2 c2 then (at1, st.2.1 ++ [plcP S op v r c r2 c2 fx], st.2.2) else (at1, st.2.1 ++ [leafP op], ltU 3 fr st.2.2)
def addP (p : Prt) (at1 : Int) (st : PS) : PS := (at1, st.2.1 ++ [p], st.2.2)
def numV (t : Tx) : Nat → Int → Int → Int
  | 0, _, a => a
  | n + 1, k, a => numV t n (k + 1) (a * 10 + bt t k - 48)
def qu (t : Tx) (k0 : Int) : Nat → Int → (Int × Int) ⊕ Int
  | 0, _ => .inl (1, t.2.2)
  | f + 1, i => if bt t i = 34 then .inr i else if t.2.1 ≤ i then .inl (1, t.2.2) else if i - (k0 + 1) = 24 then .inl (1, k0) else if plB (bt t i) = false then .inl (1, i) else qu t k0 f (i + 1)
def subL (t : Tx) (a : Int) (n : Nat) : List Int := (List.range n).map (fun (j : Nat) => bt t (a + (j : Int)))
def litP (l : Lit) : Prt := (14, 0, some l, (0, 0, 0, 0), 0, -1)
def opP (op args : Int) : Prt := (op, args, none, (0, 0, 0, 0), 0, -1)
def pNum (t : Tx) (st : PS) : PR := if rn dgB t st.1 - st.1 > 15 then .inl (1, st.1 + 15) else .inr (addP (litP (1, numV t (rn dgB t st.1 - st.1).toNat st.1 0, [])) (skp t (rn dgB t st.1)) st)
def pQuo (t : Tx) (st : PS) : PR := match qu t st.1 (t.2.1 - st.1).toNat (st.1 + 1) with
  | .inl e => .inl e
  | .inr i => .inr (addP (litP (2, 0, subL t (st.1 + 1) (i - (st.1 + 1)).toNat)) (skp t (i + 1)) st)
def pSpot (t : Tx) (S : SS) (st : PS) : PR := match vrP t (crE t st.1) with
  | .inl p => .inl (1, p)
  | .inr (v, e) => .inr (plcA S 16 v (crR t st.1) (crC t st.1) (crR t st.1) (crC t st.1) (5 * crF t st.1) st.1 (skp t e) st)
def pArea (t : Tx) (S : SS) (st : PS) : PR := if crP t (crE t st.1 + 1) then (match vrP t (crE t (crE t st.1 + 1)) with
    | .inl p => .inl (1, p)
    | .inr (v, e) => .inr (plcA S 17 v (crR t st.1) (crC t st.1) (crR t (crE t st.1 + 1)) (crC t (crE t st.1 + 1)) (crF t st.1 + 4 * crF t (crE t st.1 + 1)) st.1 (skp t e) st)) else .inl (1, crE t st.1 + 1)
/-- the sign of two that stands at k; 0: none -/
def sgO (t : Tx) (k : Int) : Int := if bt t k = 61 then 1 else if bt t k = 60 then (if bt t (k + 1) = 62 then 2 else if bt t (k + 1) = 61 then 4 else 3) else if bt t k = 62 then (if bt t (k + 1) = 61 then 6 else 5) else if bt t k = 38 then 7 else if bt t k = 43 then 8 else if bt t k = 45 then 9 else if bt t k = 42 then 10 else if bt t k = 47 then 11 else if bt t k = 37 then 12 else 0
def sgN (op : Int) : Int := if op = 2 ∨ op = 4 ∨ op = 6 then 2 else 1
/-- the name's op; 0: none -/
def nmO (ws : List Int) : Int := match (List.range 18).find? (fun (j : Nat) => decide (nmW (18 + (j : Int)) = ws)) with
  | none => 0
  | some j => 18 + (j : Int)
abbrev stdP (op : Int) (k : Nat) (cop : Int) : Prop := (19 ≤ op ∧ op ≤ 24) ∨ ((op = 29 ∨ op = 30) ∧ (cop = 15 ∨ cop = 16)) ∨ ((((op = 33 ∨ op = 35) ∧ k = 0) ∨ (op = 34 ∧ k = 1)) ∧ (cop = 15 ∨ cop = 17)) ∨ (¬ (op = 29 ∨ op = 30) ∧ ¬ (((op = 33 ∨ op = 35) ∧ k = 0) ∨ (op = 34 ∧ k = 1)) ∧ cop ≠ 17)
def fitP (op : Int) (cs : List Int) : Prop := (argL op ≤ (cs.length : Int) ∧ (cs.length : Int) ≤ argM op) ∧ ∀ k : Nat, k < cs.length → stdP op k (cs.getD k 0)
abbrev PG : Type := (Int → Int → PS → PR) × (Int → PS → PR) × (Int → Int → Bool → PS → PR) × (Int → Int → Int → List Int → PS → PR)
def bEx (g : PG) (l o : Int) (st : PS) : PR := rb (g.2.1 o st) (fun s => g.2.2.1 l o false s)
/-- a word: TRUE, FALSE, or a name with its arguments -/
def bWd (t : Tx) (g : PG) (o : Int) (st : PS) : PR := if subL t st.1 (rn leB t st.1 - st.1).toNat = sL 0 then .inr (addP (litP (3, 1, [])) (skp t (rn leB t st.1)) st)
  else if subL t st.1 (rn leB t st.1 - st.1).toNat = sL 1 then .inr (addP (litP (3, 0, [])) (skp t (rn leB t st.1)) st)
  else if nmO (subL t st.1 (rn leB t st.1 - st.1).toNat) = 0 then .inl (1, st.1)
  else if bt t (skp t (rn leB t st.1)) ≠ 40 then .inl (1, peo t (skp t (rn leB t st.1)))
  else if 20 ≤ o then .inl (2, skp t (rn leB t st.1))
  else g.2.2.2 (nmO (subL t st.1 (rn leB t st.1 - st.1).toNat)) st.1 (o + 1) [] (skp t (skp t (rn leB t st.1) + 1), st.2)
def bBr (t : Tx) (g : PG) (o : Int) (st : PS) : PR := if 20 ≤ o then .inl (2, st.1) else rb (g.1 1 (o + 1) (skp t (st.1 + 1), st.2)) (fun s => if bt t s.1 = 41 then .inr (skp t (s.1 + 1), s.2) else .inl (1, peo t s.1))
abbrev refP (t : Tx) (k : Int) : Prop := bt t k = 35 ∧ bt t (k + 1) = 82 ∧ bt t (k + 2) = 69 ∧ bt t (k + 3) = 70
def bAt (t : Tx) (S : SS) (g : PG) (o : Int) (st : PS) : PR := if dgB (bt t st.1) = true then pNum t st
  else if bt t st.1 = 34 then pQuo t st
  else if refP t st.1 then .inr (addP (leafP 15) (skp t (st.1 + 4)) st)
  else if bt t st.1 = 40 then bBr t g o st
  else if crP t st.1 then pSpot t S st
  else if leB (bt t st.1) = true then bWd t g o st
  else .inl (1, peo t st.1)
def bSg (t : Tx) (S : SS) (g : PG) (o : Int) (st : PS) : PR := if bt t st.1 = 45 then (if 20 ≤ o then .inl (2, st.1) else rb (g.2.1 (o + 1) (skp t (st.1 + 1), st.2)) (fun s => .inr (addP (opP 13 1) s.1 s))) else bAt t S g o st
def bLo (t : Tx) (g : PG) (l o : Int) (c : Bool) (st : PS) : PR := if sgO t st.1 = 0 ∨ bnd (sgO t st.1) < l ∨ (c = true ∧ bnd (sgO t st.1) = 1) then .inr st else rb (g.1 (bnd (sgO t st.1) + 1) o (skp t (st.1 + sgN (sgO t st.1)), st.2)) (fun s => g.2.2.1 l o (c || decide (bnd (sgO t st.1) = 1)) (addP (opP (sgO t st.1) 2) s.1 s))
noncomputable def bArE (t : Tx) (op fr : Int) (cs : List Int) (s : PS) : PS := (skp t (s.1 + 1), s.2.1 ++ [opP op (cs.length : Int)], ci (fitP op cs) s.2.2 (ltU 4 fr s.2.2))
def lastO (ps : List Prt) : Int := (ps.getD (ps.length - 1) pd0).1
noncomputable def bAr (t : Tx) (S : SS) (g : PG) (op fr o : Int) (cs : List Int) (st : PS) : PR := rb (if crP t st.1 ∧ bt t (crE t st.1) = 58 then pArea t S st else g.1 1 o st) (fun s => if bt t s.1 = 44 then g.2.2.2 op fr o (cs ++ [lastO s.2.1]) (skp t (s.1 + 1), s.2) else if bt t s.1 = 41 then .inr (bArE t op fr (cs ++ [lastO s.2.1]) s) else .inl (1, peo t s.1))
noncomputable def pg (t : Tx) (S : SS) : Nat → PG
  | 0 => (fun _ _ _ => .inl (0, 0), fun _ _ => .inl (0, 0), fun _ _ _ _ => .inl (0, 0), fun _ _ _ _ _ => .inl (0, 0))
  | n + 1 => (bEx (pg t S n), bSg t S (pg t S n), bLo t (pg t S n), bAr t S (pg t S n))
