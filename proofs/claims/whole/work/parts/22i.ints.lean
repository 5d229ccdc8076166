/-! ===== whole numbers for words of 32 and 64 bits ===== -/
abbrev R32 (x : Int) : Prop := -2147483648 ≤ x ∧ x ≤ 2147483647
abbrev R64 (x : Int) : Prop := -9223372036854775808 ≤ x ∧ x ≤ 9223372036854775807
abbrev B8 (x : Int) : Prop := -128 ≤ x ∧ x ≤ 127
abbrev Z1 (x : Int) : Prop := x = 0 ∨ x = 1
def w32 (x : Int) : Int := Int.bmod x 4294967296
def w64 (x : Int) : Int := Int.bmod x 18446744073709551616
def w8 (x : Int) : Int := Int.bmod x 256
abbrev ii (x : Int) : Sv := vi (Int32.ofInt x)
abbrev ll (x : Int) : Sv := vl (Int64.ofInt x)
theorem r32_w (x : Int) : R32 (w32 x) := by
  have h1 := Int.le_bmod (x := x) (m := 4294967296) (by decide)
  have h2 := Int.bmod_lt (x := x) (m := 4294967296) (by decide)
  unfold R32 w32; omega
theorem r64_w (x : Int) : R64 (w64 x) := by
  have h1 := Int.le_bmod (x := x) (m := 18446744073709551616) (by decide)
  have h2 := Int.bmod_lt (x := x) (m := 18446744073709551616) (by decide)
  unfold R64 w64; omega
theorem b8_w (x : Int) : B8 (w8 x) := by
  have h1 := Int.le_bmod (x := x) (m := 256) (by decide)
  have h2 := Int.bmod_lt (x := x) (m := 256) (by decide)
  unfold B8 w8; omega
theorem r32_b {x : Int} (h : B8 x) : R32 x := by unfold B8 at h; unfold R32; omega
theorem r32_z {x : Int} (h : Z1 x) : R32 x := by unfold Z1 at h; unfold R32; omega
theorem r64_3 {x : Int} (h : R32 x) : R64 x := by unfold R32 at h; unfold R64; omega
theorem r32_t (x : Int32) : R32 x.toInt := by
  have h1 := x.le_toInt; have h2 := x.toInt_lt
  unfold R32; omega
theorem r64_t (x : Int64) : R64 x.toInt := by
  have h1 := x.le_toInt; have h2 := x.toInt_lt
  unfold R64; omega
theorem w32_id {x : Int} (h : R32 x) : w32 x = x := by
  unfold R32 at h; unfold w32
  exact Int.bmod_eq_of_le (by omega) (by omega)
theorem w64_id {x : Int} (h : R64 x) : w64 x = x := by
  unfold R64 at h; unfold w64
  exact Int.bmod_eq_of_le (by omega) (by omega)
theorem w8_id {x : Int} (h : B8 x) : w8 x = x := by
  unfold B8 at h; unfold w8
  exact Int.bmod_eq_of_le (by omega) (by omega)
theorem i3_w (x : Int) : Int32.ofInt (w32 x) = Int32.ofInt x := Int32.toInt_inj.mp (by rw [Int32.toInt_ofInt, Int32.toInt_ofInt]; exact Int.bmod_bmod)
theorem i6_w (x : Int) : Int64.ofInt (w64 x) = Int64.ofInt x := Int64.toInt_inj.mp (by rw [Int64.toInt_ofInt, Int64.toInt_ofInt]; exact Int.bmod_bmod)
theorem toI3 {x : Int} (h : R32 x) : (Int32.ofInt x).toInt = x := by rw [Int32.toInt_ofInt]; exact w32_id h
theorem toI6 {x : Int} (h : R64 x) : (Int64.ofInt x).toInt = x := by rw [Int64.toInt_ofInt]; exact w64_id h
theorem i3_lt {a b : Int} (ha : R32 a) (hb : R32 b) : Int32.ofInt a < Int32.ofInt b ↔ a < b := by rw [Int32.lt_iff_toInt_lt, toI3 ha, toI3 hb]
theorem i3_le {a b : Int} (ha : R32 a) (hb : R32 b) : Int32.ofInt a ≤ Int32.ofInt b ↔ a ≤ b := by rw [Int32.le_iff_toInt_le, toI3 ha, toI3 hb]
theorem i3_eq {a b : Int} (ha : R32 a) (hb : R32 b) : Int32.ofInt a = Int32.ofInt b ↔ a = b := by rw [← Int32.toInt_inj, toI3 ha, toI3 hb]
theorem i6_lt {a b : Int} (ha : R64 a) (hb : R64 b) : Int64.ofInt a < Int64.ofInt b ↔ a < b := by rw [Int64.lt_iff_toInt_lt, toI6 ha, toI6 hb]
theorem i6_eq {a b : Int} (ha : R64 a) (hb : R64 b) : Int64.ofInt a = Int64.ofInt b ↔ a = b := by rw [← Int64.toInt_inj, toI6 ha, toI6 hb]
theorem i3_add (a b : Int) : Int32.ofInt a + Int32.ofInt b = Int32.ofInt (w32 (a + b)) := by rw [i3_w, Int32.ofInt_add]
theorem i3_sub (a b : Int) : Int32.ofInt a - Int32.ofInt b = Int32.ofInt (w32 (a - b)) := by rw [i3_w, Int32.ofInt_sub]
theorem i3_mul (a b : Int) : Int32.ofInt a * Int32.ofInt b = Int32.ofInt (w32 (a * b)) := by rw [i3_w, Int32.ofInt_mul]
theorem i3_neg (a : Int) : -Int32.ofInt a = Int32.ofInt (w32 (-a)) := by rw [i3_w, Int32.ofInt_neg]
theorem i6_add (a b : Int) : Int64.ofInt a + Int64.ofInt b = Int64.ofInt (w64 (a + b)) := by rw [i6_w, Int64.ofInt_add]
theorem i6_sub (a b : Int) : Int64.ofInt a - Int64.ofInt b = Int64.ofInt (w64 (a - b)) := by rw [i6_w, Int64.ofInt_sub]
theorem i6_mul (a b : Int) : Int64.ofInt a * Int64.ofInt b = Int64.ofInt (w64 (a * b)) := by rw [i6_w, Int64.ofInt_mul]
theorem i6_neg (a : Int) : -Int64.ofInt a = Int64.ofInt (w64 (-a)) := by rw [i6_w, Int64.ofInt_neg]
theorem i3_div {a b : Int} (ha : R32 a) (hb : R32 b) : Int32.ofInt a / Int32.ofInt b = Int32.ofInt (w32 (a.tdiv b)) := by
  rw [← Int32.toInt_inj, Int32.toInt_div, toI3 ha, toI3 hb, toI3 (r32_w _)]; rfl
theorem i6_div {a b : Int} (ha : R64 a) (hb : R64 b) : Int64.ofInt a / Int64.ofInt b = Int64.ofInt (w64 (a.tdiv b)) := by
  rw [← Int64.toInt_inj, Int64.toInt_div, toI6 ha, toI6 hb, toI6 (r64_w _)]; rfl
theorem i3_rem {a b : Int} (ha : R32 a) (hb : R32 b) : Int32.ofInt a - Int32.ofInt a / Int32.ofInt b * Int32.ofInt b = Int32.ofInt (w32 (a.tmod b)) := by
  rw [i3_div ha hb, i3_w, ← Int32.ofInt_mul, ← Int32.ofInt_sub, i3_w, Int.tmod_def, Int.mul_comm]
theorem i6_rem {a b : Int} (ha : R64 a) (hb : R64 b) : Int64.ofInt a - Int64.ofInt a / Int64.ofInt b * Int64.ofInt b = Int64.ofInt (w64 (a.tmod b)) := by
  rw [i6_div ha hb, i6_w, ← Int64.ofInt_mul, ← Int64.ofInt_sub, i6_w, Int.tmod_def, Int.mul_comm]
theorem i3_to6 {a : Int} (ha : R32 a) : (Int32.ofInt a).toInt64 = Int64.ofInt a := by
  rw [← Int64.toInt_inj, Int32.toInt_toInt64, toI3 ha, toI6 (r64_3 ha)]
theorem i6_to3 (a : Int) : (Int64.ofInt a).toInt32 = Int32.ofInt (w32 a) := by rw [Int64.toInt32_ofInt, i3_w]
theorem i3_to8 (a : Int) : (Int32.ofInt a).toInt8.toInt32 = Int32.ofInt (w8 a) := by
  rw [← Int32.toInt_inj, toI3 (r32_b (b8_w a)), Int8.toInt_toInt32, Int32.toInt8_ofInt, Int8.toInt_ofInt]; rfl
theorem i3_nI {i : Int} (h : 0 ≤ i) : Int32.ofInt i = nI i.toNat := by
  conv => lhs; rw [← Int.toNat_of_nonneg h]
  exact Int32.ofInt_eq_ofNat
/-- bits -/
def bAnd (a b : Int) : Int := (Int32.ofInt a &&& Int32.ofInt b).toInt
def bOr (a b : Int) : Int := (Int32.ofInt a ||| Int32.ofInt b).toInt
def bXor (a b : Int) : Int := (Int32.ofInt a ^^^ Int32.ofInt b).toInt
def bShl (a b : Int) : Int := (Int32.ofInt a <<< (Int32.ofInt b &&& 31)).toInt
def bShr (a b : Int) : Int := (Int32.ofInt a >>> (Int32.ofInt b &&& 31)).toInt
def bUshr (a b : Int) : Int := ((Int32.ofInt a).toUInt32 >>> ((Int32.ofInt b).toUInt32 &&& Int32.toUInt32 31)).toInt32.toInt
def lAnd (a b : Int) : Int := (Int64.ofInt a &&& Int64.ofInt b).toInt
def lOr (a b : Int) : Int := (Int64.ofInt a ||| Int64.ofInt b).toInt
def lXor (a b : Int) : Int := (Int64.ofInt a ^^^ Int64.ofInt b).toInt
def lShl (a b : Int) : Int := (Int64.ofInt a <<< ((Int32.ofInt b).toInt64 &&& 63)).toInt
def lShr (a b : Int) : Int := (Int64.ofInt a >>> ((Int32.ofInt b).toInt64 &&& 63)).toInt
def lUshr (a b : Int) : Int := ((Int64.ofInt a).toUInt64 >>> ((Int32.ofInt b).toInt64.toUInt64 &&& Int64.toUInt64 63)).toInt64.toInt
def lcm (a b : Int) : Int := if a < b then -1 else if a = b then 0 else 1
theorem r32_lcm (a b : Int) : R32 (lcm a b) := by unfold lcm R32; split <;> (try split) <;> omega
theorem i6_cmp {a b : Int} (ha : R64 a) (hb : R64 b) : lg_cmp (Int64.ofInt a) (Int64.ofInt b) = Int32.ofInt (lcm a b) := by
  unfold lg_cmp lcm
  have h1 : (Int64.ofInt a > Int64.ofInt b) ↔ b < a := i6_lt hb ha
  have h2 := i6_eq ha hb
  by_cases c1 : b < a
  · rw [if_pos (h1.mpr c1), if_neg (by omega), if_neg (by omega)]; rfl
  · rw [if_neg (fun z => c1 (h1.mp z))]
    by_cases c2 : a = b
    · rw [if_pos (h2.mpr c2), if_neg (by omega), if_pos c2]; rfl
    · rw [if_neg (fun z => c2 (h2.mp z)), if_pos (by omega)]; rfl
theorem lcm_lt {a b : Int} : lcm a b < 0 ↔ a < b := by unfold lcm; split <;> (try split) <;> omega
theorem lcm_gt {a b : Int} : 0 < lcm a b ↔ b < a := by unfold lcm; split <;> (try split) <;> omega
theorem lcm_eq {a b : Int} : lcm a b = 0 ↔ a = b := by unfold lcm; split <;> (try split) <;> omega
theorem lcm_le {a b : Int} : lcm a b ≤ 0 ↔ a ≤ b := by unfold lcm; split <;> (try split) <;> omega
theorem lcm_ge {a b : Int} : 0 ≤ lcm a b ↔ b ≤ a := by unfold lcm; split <;> (try split) <;> omega
theorem if_iff {p q A B : Prop} [Decidable p] [Decidable q] (h : p ↔ q) (H : if q then A else B) : if p then A else B := by
  by_cases c : q
  · rw [if_pos c] at H; rw [if_pos (h.mpr c)]; exact H
  · rw [if_neg c] at H; rw [if_neg (fun w => c (h.mp w))]; exact H
theorem nar_z {x : Int} (h : Z1 x) : narrow .boolean (.int (Int32.ofInt x)) = .int (Int32.ofInt x) := by rcases h with rfl | rfl <;> rfl
theorem fit_z {x : Int} (h : Z1 x) : fits .boolean (.int (Int32.ofInt x)) = true := by rcases h with rfl | rfl <;> rfl
theorem vpz {x : Int} (h : Z1 x) : vp_nar .boolean (Int32.ofInt x) = Int32.ofInt x := by rcases h with rfl | rfl <;> decide
theorem vpb {x : Int} (h : B8 x) : vp_nar .byte (Int32.ofInt x) = Int32.ofInt x := by rw [vp_nar_byte, i3_to8, w8_id h]
theorem r32_if {p : Prop} [Decidable p] {a b : Int} (ha : R32 a) (hb : R32 b) : R32 (if p then a else b) := by split <;> assumption
theorem r32_max {a b : Int} (ha : R32 a) (hb : R32 b) : R32 (max a b) := by unfold R32 at *; omega
theorem r32_min {a b : Int} (ha : R32 a) (hb : R32 b) : R32 (min a b) := by unfold R32 at *; omega
theorem r64_max {a b : Int} (ha : R64 a) (hb : R64 b) : R64 (max a b) := by unfold R64 at *; omega
theorem r64_min {a b : Int} (ha : R64 a) (hb : R64 b) : R64 (min a b) := by unfold R64 at *; omega
/-! ===== loops ===== -/
def itr {S E : Type} (body : S → (S ⊕ E → Prop) → Prop) (K : E → Prop) : Nat → S → Prop
  | 0, _ => False
  | n + 1, s => body s (fun o => match o with
    | .inl s' => itr body K n s'
    | .inr e => K e)
def lp {S E : Type} (body : S → (S ⊕ E → Prop) → Prop) (s : S) (K : E → Prop) : Prop := ∃ n, itr body K n s
/-- out of a loop: what each turn gives -/
theorem lp_J {S E : Type} {body : S → (S ⊕ E → Prop) → Prop} {G : S → Prop} {K : E → Prop} (hb : ∀ (s : S) (P : S ⊕ E → Prop), (∀ s', P (.inl s') → G s') → (∀ e, P (.inr e) → K e) → body s P → G s) (s : S) (H : lp body s K) : G s := by
  obtain ⟨n, H⟩ := H
  induction n generalizing s with
  | zero => exact H.elim
  | succ n ih => exact hb s _ (fun s' h => ih s' h) (fun e h => h) H
/-- into a loop: an invariant and a measure -/
theorem lp_I {S E : Type} {body : S → (S ⊕ E → Prop) → Prop} {K : E → Prop} (I : S → Prop) (m : S → Nat) (hs : ∀ (G : S → Prop) (s : S), I s → (∀ s', I s' → m s' < m s → G s') → body s (fun o => match o with
    | .inl s' => G s'
    | .inr e => K e)) (s : S) (h : I s) : lp body s K := by
  have key : ∀ n s, I s → m s < n → itr body K n s := by
    intro n
    induction n with
    | zero => intro s _ h; omega
    | succ n ih => intro s hi hm; exact hs (fun s' => itr body K n s') s hi (fun s' h1 h2 => ih s' h1 (by omega))
  exact ⟨m s + 1, key _ s h (by omega)⟩
section JI
variable {Y : MI} {d mc ms : Nat} {post : Option Sv ⊕ String → Hp → Prop} {pc : Nat} {lv : List (Option Sv)} {st : List Sv} {h : Hp}
theorem jz_iadd {a b : Int} (hd : decode Y.2.1 pc = .ok (.iadd, 1)) (k : J Y d mc ms post (pc + 1) lv (ii (w32 (a + b)) :: st) h) : J Y d mc ms post pc lv (ii b :: ii a :: st) h := j_iadd hd (by rw [i3_add]; exact k)
theorem jz_isub {a b : Int} (hd : decode Y.2.1 pc = .ok (.isub, 1)) (k : J Y d mc ms post (pc + 1) lv (ii (w32 (a - b)) :: st) h) : J Y d mc ms post pc lv (ii b :: ii a :: st) h := j_isub hd (by rw [i3_sub]; exact k)
theorem jz_imul {a b : Int} (hd : decode Y.2.1 pc = .ok (.imul, 1)) (k : J Y d mc ms post (pc + 1) lv (ii (w32 (a * b)) :: st) h) : J Y d mc ms post pc lv (ii b :: ii a :: st) h := j_imul hd (by rw [i3_mul]; exact k)
theorem jz_ladd {a b : Int} (hd : decode Y.2.1 pc = .ok (.ladd, 1)) (k : J Y d mc ms post (pc + 1) lv (ll (w64 (a + b)) :: st) h) : J Y d mc ms post pc lv (ll b :: ll a :: st) h := j_ladd hd (by rw [i6_add]; exact k)
theorem jz_lsub {a b : Int} (hd : decode Y.2.1 pc = .ok (.lsub, 1)) (k : J Y d mc ms post (pc + 1) lv (ll (w64 (a - b)) :: st) h) : J Y d mc ms post pc lv (ll b :: ll a :: st) h := j_lsub hd (by rw [i6_sub]; exact k)
theorem jz_lmul {a b : Int} (hd : decode Y.2.1 pc = .ok (.lmul, 1)) (k : J Y d mc ms post (pc + 1) lv (ll (w64 (a * b)) :: st) h) : J Y d mc ms post pc lv (ll b :: ll a :: st) h := j_lmul hd (by rw [i6_mul]; exact k)
theorem jz_idiv {a b : Int} (hd : decode Y.2.1 pc = .ok (.idiv, 1)) (ra : R32 a) (rb : R32 b) (hne : ¬ b = 0) (k : J Y d mc ms post (pc + 1) lv (ii (w32 (a.tdiv b)) :: st) h) : J Y d mc ms post pc lv (ii b :: ii a :: st) h := j_idiv hd (fun z => hne ((i3_eq (b := 0) rb (by decide)).mp z)) (by rw [i3_div ra rb]; exact k)
theorem jz_irem {a b : Int} (hd : decode Y.2.1 pc = .ok (.irem, 1)) (ra : R32 a) (rb : R32 b) (hne : ¬ b = 0) (k : J Y d mc ms post (pc + 1) lv (ii (w32 (a.tmod b)) :: st) h) : J Y d mc ms post pc lv (ii b :: ii a :: st) h := j_irem hd (fun z => hne ((i3_eq (b := 0) rb (by decide)).mp z)) (by rw [i3_rem ra rb]; exact k)
theorem jz_ldiv {a b : Int} (hd : decode Y.2.1 pc = .ok (.ldiv, 1)) (ra : R64 a) (rb : R64 b) (hne : ¬ b = 0) (k : J Y d mc ms post (pc + 1) lv (ll (w64 (a.tdiv b)) :: st) h) : J Y d mc ms post pc lv (ll b :: ll a :: st) h := j_ldiv hd (fun z => hne ((i6_eq (b := 0) rb (by decide)).mp z)) (by rw [i6_div ra rb]; exact k)
theorem jz_lrem {a b : Int} (hd : decode Y.2.1 pc = .ok (.lrem, 1)) (ra : R64 a) (rb : R64 b) (hne : ¬ b = 0) (k : J Y d mc ms post (pc + 1) lv (ll (w64 (a.tmod b)) :: st) h) : J Y d mc ms post pc lv (ll b :: ll a :: st) h := j_lrem hd (fun z => hne ((i6_eq (b := 0) rb (by decide)).mp z)) (by rw [i6_rem ra rb]; exact k)
theorem jz_iand {a b : Int} (hd : decode Y.2.1 pc = .ok (.iand, 1)) (k : J Y d mc ms post (pc + 1) lv (ii (bAnd a b) :: st) h) : J Y d mc ms post pc lv (ii b :: ii a :: st) h := j_iand hd (by rw [show _ = Int32.ofInt (bAnd a b) from (Int32.ofInt_toInt _).symm]; exact k)
theorem jz_ior {a b : Int} (hd : decode Y.2.1 pc = .ok (.ior, 1)) (k : J Y d mc ms post (pc + 1) lv (ii (bOr a b) :: st) h) : J Y d mc ms post pc lv (ii b :: ii a :: st) h := j_ior hd (by rw [show _ = Int32.ofInt (bOr a b) from (Int32.ofInt_toInt _).symm]; exact k)
theorem jz_ixor {a b : Int} (hd : decode Y.2.1 pc = .ok (.ixor, 1)) (k : J Y d mc ms post (pc + 1) lv (ii (bXor a b) :: st) h) : J Y d mc ms post pc lv (ii b :: ii a :: st) h := j_ixor hd (by rw [show _ = Int32.ofInt (bXor a b) from (Int32.ofInt_toInt _).symm]; exact k)
theorem jz_ishl {a b : Int} (hd : decode Y.2.1 pc = .ok (.ishl, 1)) (k : J Y d mc ms post (pc + 1) lv (ii (bShl a b) :: st) h) : J Y d mc ms post pc lv (ii b :: ii a :: st) h := j_ishl hd (by rw [show _ = Int32.ofInt (bShl a b) from (Int32.ofInt_toInt _).symm]; exact k)
theorem jz_ishr {a b : Int} (hd : decode Y.2.1 pc = .ok (.ishr, 1)) (k : J Y d mc ms post (pc + 1) lv (ii (bShr a b) :: st) h) : J Y d mc ms post pc lv (ii b :: ii a :: st) h := j_ishr hd (by rw [show _ = Int32.ofInt (bShr a b) from (Int32.ofInt_toInt _).symm]; exact k)
theorem jz_land {a b : Int} (hd : decode Y.2.1 pc = .ok (.land, 1)) (k : J Y d mc ms post (pc + 1) lv (ll (lAnd a b) :: st) h) : J Y d mc ms post pc lv (ll b :: ll a :: st) h := j_land hd (by rw [show _ = Int64.ofInt (lAnd a b) from (Int64.ofInt_toInt _).symm]; exact k)
theorem jz_lor {a b : Int} (hd : decode Y.2.1 pc = .ok (.lor, 1)) (k : J Y d mc ms post (pc + 1) lv (ll (lOr a b) :: st) h) : J Y d mc ms post pc lv (ll b :: ll a :: st) h := j_lor hd (by rw [show _ = Int64.ofInt (lOr a b) from (Int64.ofInt_toInt _).symm]; exact k)
theorem jz_lxor {a b : Int} (hd : decode Y.2.1 pc = .ok (.lxor, 1)) (k : J Y d mc ms post (pc + 1) lv (ll (lXor a b) :: st) h) : J Y d mc ms post pc lv (ll b :: ll a :: st) h := j_lxor hd (by rw [show _ = Int64.ofInt (lXor a b) from (Int64.ofInt_toInt _).symm]; exact k)
theorem jz_lshl {a b : Int} (hd : decode Y.2.1 pc = .ok (.lshl, 1)) (k : J Y d mc ms post (pc + 1) lv (ll (lShl a b) :: st) h) : J Y d mc ms post pc lv (ii b :: ll a :: st) h := j_lshl hd (by rw [show _ = Int64.ofInt (lShl a b) from (Int64.ofInt_toInt _).symm]; exact k)
theorem jz_lshr {a b : Int} (hd : decode Y.2.1 pc = .ok (.lshr, 1)) (k : J Y d mc ms post (pc + 1) lv (ll (lShr a b) :: st) h) : J Y d mc ms post pc lv (ii b :: ll a :: st) h := j_lshr hd (by rw [show _ = Int64.ofInt (lShr a b) from (Int64.ofInt_toInt _).symm]; exact k)
theorem jz_ineg {a : Int} (hd : decode Y.2.1 pc = .ok (.ineg, 1)) (k : J Y d mc ms post (pc + 1) lv (ii (w32 (-a)) :: st) h) : J Y d mc ms post pc lv (ii a :: st) h := j_ineg hd (by rw [i3_neg]; exact k)
theorem jz_lneg {a : Int} (hd : decode Y.2.1 pc = .ok (.lneg, 1)) (k : J Y d mc ms post (pc + 1) lv (ll (w64 (-a)) :: st) h) : J Y d mc ms post pc lv (ll a :: st) h := j_lneg hd (by rw [i6_neg]; exact k)
theorem jz_i2l {a : Int} (hd : decode Y.2.1 pc = .ok (.i2l, 1)) (ra : R32 a) (k : J Y d mc ms post (pc + 1) lv (ll a :: st) h) : J Y d mc ms post pc lv (ii a :: st) h := j_i2l hd (by rw [i3_to6 ra]; exact k)
theorem jz_l2i {a : Int} (hd : decode Y.2.1 pc = .ok (.l2i, 1)) (k : J Y d mc ms post (pc + 1) lv (ii (w32 a) :: st) h) : J Y d mc ms post pc lv (ll a :: st) h := j_l2i hd (by rw [i6_to3]; exact k)
theorem jz_i2b {a : Int} (hd : decode Y.2.1 pc = .ok (.i2b, 1)) (k : J Y d mc ms post (pc + 1) lv (ii (w8 a) :: st) h) : J Y d mc ms post pc lv (ii a :: st) h := j_i2b hd (by rw [i3_to8]; exact k)
theorem jz_lcmp {a b : Int} (hd : decode Y.2.1 pc = .ok (.lcmp, 1)) (ra : R64 a) (rb : R64 b) (k : J Y d mc ms post (pc + 1) lv (ii (lcm a b) :: st) h) : J Y d mc ms post pc lv (ll b :: ll a :: st) h := j_lcmp hd (by rw [i6_cmp ra rb]; exact k)
theorem jz_iinc {i : Nat} {n a : Int} (hd : decode Y.2.1 pc = .ok (.iinc i n, 3)) (hv : lv[i]? = some (some (ii a))) (k : J Y d mc ms post (pc + 3) (st1 lv i (ii (w32 (a + n)))) st h) : J Y d mc ms post pc lv st h := j_iinc hd hv (by rw [i3_add]; exact k)
theorem jz_if_eq {a : Int} {off : Int} {A B : Prop} (tgt : Nat) (hd : decode Y.2.1 pc = .ok (.ifCond .eq off, 3)) (ht : (pc : Int) + off = (tgt : Int)) (ra : R32 a) (H : if a = 0 then A else B) (kt : A → J Y d mc ms post tgt lv st h) (kf : B → J Y d mc ms post (pc + 3) lv st h) : J Y d mc ms post pc lv (ii a :: st) h := j_if_eq tgt hd ht (fun z => kt (by rw [if_pos ((i3_eq (b := 0) ra (by decide)).mp z)] at H; exact H)) (fun z => kf (by rw [if_neg (fun w => z ((i3_eq (b := 0) ra (by decide)).mpr w))] at H; exact H))
theorem jz_icmp_eq {a b : Int} {off : Int} {A B : Prop} (tgt : Nat) (hd : decode Y.2.1 pc = .ok (.if_icmp .eq off, 3)) (ht : (pc : Int) + off = (tgt : Int)) (ra : R32 a) (rb : R32 b) (H : if a = b then A else B) (kt : A → J Y d mc ms post tgt lv st h) (kf : B → J Y d mc ms post (pc + 3) lv st h) : J Y d mc ms post pc lv (ii b :: ii a :: st) h := j_icmp_eq tgt hd ht (fun z => kt (by rw [if_pos ((i3_eq ra rb).mp z)] at H; exact H)) (fun z => kf (by rw [if_neg (fun w => z ((i3_eq ra rb).mpr w))] at H; exact H))
theorem jz_if_ne {a : Int} {off : Int} {A B : Prop} (tgt : Nat) (hd : decode Y.2.1 pc = .ok (.ifCond .ne off, 3)) (ht : (pc : Int) + off = (tgt : Int)) (ra : R32 a) (H : if a = 0 then A else B) (kt : A → J Y d mc ms post (pc + 3) lv st h) (kf : B → J Y d mc ms post tgt lv st h) : J Y d mc ms post pc lv (ii a :: st) h := j_if_ne tgt hd ht (fun z => kf (by rw [if_neg (fun w => z ((i3_eq (b := 0) ra (by decide)).mpr w))] at H; exact H)) (fun z => kt (by rw [if_pos ((i3_eq (b := 0) ra (by decide)).mp (Classical.not_not.mp z))] at H; exact H))
theorem jz_icmp_ne {a b : Int} {off : Int} {A B : Prop} (tgt : Nat) (hd : decode Y.2.1 pc = .ok (.if_icmp .ne off, 3)) (ht : (pc : Int) + off = (tgt : Int)) (ra : R32 a) (rb : R32 b) (H : if a = b then A else B) (kt : A → J Y d mc ms post (pc + 3) lv st h) (kf : B → J Y d mc ms post tgt lv st h) : J Y d mc ms post pc lv (ii b :: ii a :: st) h := j_icmp_ne tgt hd ht (fun z => kf (by rw [if_neg (fun w => z ((i3_eq ra rb).mpr w))] at H; exact H)) (fun z => kt (by rw [if_pos ((i3_eq ra rb).mp (Classical.not_not.mp z))] at H; exact H))
theorem jz_if_lt {a : Int} {off : Int} {A B : Prop} (tgt : Nat) (hd : decode Y.2.1 pc = .ok (.ifCond .lt off, 3)) (ht : (pc : Int) + off = (tgt : Int)) (ra : R32 a) (H : if a < 0 then A else B) (kt : A → J Y d mc ms post tgt lv st h) (kf : B → J Y d mc ms post (pc + 3) lv st h) : J Y d mc ms post pc lv (ii a :: st) h := j_if_lt tgt hd ht (fun z => kt (by rw [if_pos ((i3_lt (b := 0) ra (by decide)).mp z)] at H; exact H)) (fun z => kf (by rw [if_neg (fun w => z ((i3_lt (b := 0) ra (by decide)).mpr w))] at H; exact H))
theorem jz_icmp_lt {a b : Int} {off : Int} {A B : Prop} (tgt : Nat) (hd : decode Y.2.1 pc = .ok (.if_icmp .lt off, 3)) (ht : (pc : Int) + off = (tgt : Int)) (ra : R32 a) (rb : R32 b) (H : if a < b then A else B) (kt : A → J Y d mc ms post tgt lv st h) (kf : B → J Y d mc ms post (pc + 3) lv st h) : J Y d mc ms post pc lv (ii b :: ii a :: st) h := j_icmp_lt tgt hd ht (fun z => kt (by rw [if_pos ((i3_lt ra rb).mp z)] at H; exact H)) (fun z => kf (by rw [if_neg (fun w => z ((i3_lt ra rb).mpr w))] at H; exact H))
theorem jz_if_ge {a : Int} {off : Int} {A B : Prop} (tgt : Nat) (hd : decode Y.2.1 pc = .ok (.ifCond .ge off, 3)) (ht : (pc : Int) + off = (tgt : Int)) (ra : R32 a) (H : if 0 ≤ a then A else B) (kt : A → J Y d mc ms post tgt lv st h) (kf : B → J Y d mc ms post (pc + 3) lv st h) : J Y d mc ms post pc lv (ii a :: st) h := j_if_ge tgt hd ht (fun z => kt (by rw [if_pos ((i3_le (a := 0) (by decide) ra).mp z)] at H; exact H)) (fun z => kf (by rw [if_neg (fun w => z ((i3_le (a := 0) (by decide) ra).mpr w))] at H; exact H))
theorem jz_icmp_ge {a b : Int} {off : Int} {A B : Prop} (tgt : Nat) (hd : decode Y.2.1 pc = .ok (.if_icmp .ge off, 3)) (ht : (pc : Int) + off = (tgt : Int)) (ra : R32 a) (rb : R32 b) (H : if b ≤ a then A else B) (kt : A → J Y d mc ms post tgt lv st h) (kf : B → J Y d mc ms post (pc + 3) lv st h) : J Y d mc ms post pc lv (ii b :: ii a :: st) h := j_icmp_ge tgt hd ht (fun z => kt (by rw [if_pos ((i3_le rb ra).mp z)] at H; exact H)) (fun z => kf (by rw [if_neg (fun w => z ((i3_le rb ra).mpr w))] at H; exact H))
theorem jz_if_gt {a : Int} {off : Int} {A B : Prop} (tgt : Nat) (hd : decode Y.2.1 pc = .ok (.ifCond .gt off, 3)) (ht : (pc : Int) + off = (tgt : Int)) (ra : R32 a) (H : if 0 < a then A else B) (kt : A → J Y d mc ms post tgt lv st h) (kf : B → J Y d mc ms post (pc + 3) lv st h) : J Y d mc ms post pc lv (ii a :: st) h := j_if_gt tgt hd ht (fun z => kt (by rw [if_pos ((i3_lt (a := 0) (by decide) ra).mp z)] at H; exact H)) (fun z => kf (by rw [if_neg (fun w => z ((i3_lt (a := 0) (by decide) ra).mpr w))] at H; exact H))
theorem jz_icmp_gt {a b : Int} {off : Int} {A B : Prop} (tgt : Nat) (hd : decode Y.2.1 pc = .ok (.if_icmp .gt off, 3)) (ht : (pc : Int) + off = (tgt : Int)) (ra : R32 a) (rb : R32 b) (H : if b < a then A else B) (kt : A → J Y d mc ms post tgt lv st h) (kf : B → J Y d mc ms post (pc + 3) lv st h) : J Y d mc ms post pc lv (ii b :: ii a :: st) h := j_icmp_gt tgt hd ht (fun z => kt (by rw [if_pos ((i3_lt rb ra).mp z)] at H; exact H)) (fun z => kf (by rw [if_neg (fun w => z ((i3_lt rb ra).mpr w))] at H; exact H))
theorem jz_if_le {a : Int} {off : Int} {A B : Prop} (tgt : Nat) (hd : decode Y.2.1 pc = .ok (.ifCond .le off, 3)) (ht : (pc : Int) + off = (tgt : Int)) (ra : R32 a) (H : if a ≤ 0 then A else B) (kt : A → J Y d mc ms post tgt lv st h) (kf : B → J Y d mc ms post (pc + 3) lv st h) : J Y d mc ms post pc lv (ii a :: st) h := j_if_le tgt hd ht (fun z => kt (by rw [if_pos ((i3_le (b := 0) ra (by decide)).mp z)] at H; exact H)) (fun z => kf (by rw [if_neg (fun w => z ((i3_le (b := 0) ra (by decide)).mpr w))] at H; exact H))
theorem jz_icmp_le {a b : Int} {off : Int} {A B : Prop} (tgt : Nat) (hd : decode Y.2.1 pc = .ok (.if_icmp .le off, 3)) (ht : (pc : Int) + off = (tgt : Int)) (ra : R32 a) (rb : R32 b) (H : if a ≤ b then A else B) (kt : A → J Y d mc ms post tgt lv st h) (kf : B → J Y d mc ms post (pc + 3) lv st h) : J Y d mc ms post pc lv (ii b :: ii a :: st) h := j_icmp_le tgt hd ht (fun z => kt (by rw [if_pos ((i3_le ra rb).mp z)] at H; exact H)) (fun z => kf (by rw [if_neg (fun w => z ((i3_le ra rb).mpr w))] at H; exact H))
theorem jz_lif_eq {a b off : Int} {A B : Prop} (tgt : Nat) (hd : decode Y.2.1 pc = .ok (.ifCond .eq off, 3)) (ht : (pc : Int) + off = (tgt : Int)) (H : if a = b then A else B) (kt : A → J Y d mc ms post tgt lv st h) (kf : B → J Y d mc ms post (pc + 3) lv st h) : J Y d mc ms post pc lv (ii (lcm a b) :: st) h := jz_if_eq (A := A) (B := B) tgt hd ht (r32_lcm a b) (if_iff lcm_eq H) kt kf
theorem jz_lif_ne {a b off : Int} {A B : Prop} (tgt : Nat) (hd : decode Y.2.1 pc = .ok (.ifCond .ne off, 3)) (ht : (pc : Int) + off = (tgt : Int)) (H : if a = b then A else B) (kt : A → J Y d mc ms post (pc + 3) lv st h) (kf : B → J Y d mc ms post tgt lv st h) : J Y d mc ms post pc lv (ii (lcm a b) :: st) h := jz_if_ne (A := A) (B := B) tgt hd ht (r32_lcm a b) (if_iff lcm_eq H) kt kf
theorem jz_lif_lt {a b off : Int} {A B : Prop} (tgt : Nat) (hd : decode Y.2.1 pc = .ok (.ifCond .lt off, 3)) (ht : (pc : Int) + off = (tgt : Int)) (H : if a < b then A else B) (kt : A → J Y d mc ms post tgt lv st h) (kf : B → J Y d mc ms post (pc + 3) lv st h) : J Y d mc ms post pc lv (ii (lcm a b) :: st) h := jz_if_lt (A := A) (B := B) tgt hd ht (r32_lcm a b) (if_iff lcm_lt H) kt kf
theorem jz_lif_ge {a b off : Int} {A B : Prop} (tgt : Nat) (hd : decode Y.2.1 pc = .ok (.ifCond .ge off, 3)) (ht : (pc : Int) + off = (tgt : Int)) (H : if b ≤ a then A else B) (kt : A → J Y d mc ms post tgt lv st h) (kf : B → J Y d mc ms post (pc + 3) lv st h) : J Y d mc ms post pc lv (ii (lcm a b) :: st) h := jz_if_ge (A := A) (B := B) tgt hd ht (r32_lcm a b) (if_iff lcm_ge H) kt kf
theorem jz_lif_gt {a b off : Int} {A B : Prop} (tgt : Nat) (hd : decode Y.2.1 pc = .ok (.ifCond .gt off, 3)) (ht : (pc : Int) + off = (tgt : Int)) (H : if b < a then A else B) (kt : A → J Y d mc ms post tgt lv st h) (kf : B → J Y d mc ms post (pc + 3) lv st h) : J Y d mc ms post pc lv (ii (lcm a b) :: st) h := jz_if_gt (A := A) (B := B) tgt hd ht (r32_lcm a b) (if_iff lcm_gt H) kt kf
theorem jz_lif_le {a b off : Int} {A B : Prop} (tgt : Nat) (hd : decode Y.2.1 pc = .ok (.ifCond .le off, 3)) (ht : (pc : Int) + off = (tgt : Int)) (H : if a ≤ b then A else B) (kt : A → J Y d mc ms post tgt lv st h) (kf : B → J Y d mc ms post (pc + 3) lv st h) : J Y d mc ms post pc lv (ii (lcm a b) :: st) h := jz_if_le (A := A) (B := B) tgt hd ht (r32_lcm a b) (if_iff lcm_le H) kt kf
theorem jz_ifnull {r : Option Nat} {off : Int} {A B : Prop} (tgt : Nat) (hd : decode Y.2.1 pc = .ok (.ifnull off, 3)) (ht : (pc : Int) + off = (tgt : Int)) (H : if r = none then A else B) (kt : A → J Y d mc ms post tgt lv st h) (kf : B → J Y d mc ms post (pc + 3) lv st h) : J Y d mc ms post pc lv (vr r :: st) h := j_ifnull tgt hd ht (fun z => kt (by rw [if_pos z] at H; exact H)) (fun z => kf (by rw [if_neg z] at H; exact H))
theorem jz_ifnonnull {r : Option Nat} {off : Int} {A B : Prop} (tgt : Nat) (hd : decode Y.2.1 pc = .ok (.ifnonnull off, 3)) (ht : (pc : Int) + off = (tgt : Int)) (H : if r = none then A else B) (kt : A → J Y d mc ms post (pc + 3) lv st h) (kf : B → J Y d mc ms post tgt lv st h) : J Y d mc ms post pc lv (vr r :: st) h := j_ifnonnull tgt hd ht (fun z => kf (by rw [if_neg z] at H; exact H)) (fun z => kt (by rw [if_pos z] at H; exact H))
theorem jz_acmp_eq {x y : Option Nat} {off : Int} {A B : Prop} (tgt : Nat) (hd : decode Y.2.1 pc = .ok (.if_acmp .eq off, 3)) (ht : (pc : Int) + off = (tgt : Int)) (H : if x = y then A else B) (kt : A → J Y d mc ms post tgt lv st h) (kf : B → J Y d mc ms post (pc + 3) lv st h) : J Y d mc ms post pc lv (vr y :: vr x :: st) h := j_acmp_eq tgt hd ht (fun z => kt (by rw [if_pos z] at H; exact H)) (fun z => kf (by rw [if_neg z] at H; exact H))
theorem jz_acmp_ne {x y : Option Nat} {off : Int} {A B : Prop} (tgt : Nat) (hd : decode Y.2.1 pc = .ok (.if_acmp .ne off, 3)) (ht : (pc : Int) + off = (tgt : Int)) (H : if x = y then A else B) (kt : A → J Y d mc ms post (pc + 3) lv st h) (kf : B → J Y d mc ms post tgt lv st h) : J Y d mc ms post pc lv (vr y :: vr x :: st) h := j_acmp_ne tgt hd ht (fun z => kf (by rw [if_neg z] at H; exact H)) (fun z => kt (by rw [if_pos z] at H; exact H))
theorem jz_tabIn {a dflt lo hi off : Int} {offs : Array Int} {len : Nat} (n : Int) (tgt : Nat) (hd : decode Y.2.1 pc = .ok (.tableswitch dflt lo hi offs, len)) (ra : R32 a) (e : a = n) (q1 : lo ≤ n) (q2 : n ≤ hi) (ho : offs[(n - lo).toNat]? = some off) (ht : (pc : Int) + off = (tgt : Int)) (k : J Y d mc ms post tgt lv st h) : J Y d mc ms post pc lv (ii a :: st) h := j_tabIn tgt hd (by rw [toI3 ra]; omega) (by rw [toI3 ra]; omega) (by rw [toI3 ra, e]; exact ho) ht k
theorem jz_tabOut {a dflt lo hi : Int} {offs : Array Int} {len : Nat} (tgt : Nat) (hd : decode Y.2.1 pc = .ok (.tableswitch dflt lo hi offs, len)) (ra : R32 a) (q : a < lo ∨ hi < a) (ht : (pc : Int) + dflt = (tgt : Int)) (k : J Y d mc ms post tgt lv st h) : J Y d mc ms post pc lv (ii a :: st) h := j_tabOut tgt hd (by rw [toI3 ra]; exact q) ht k
end JI
