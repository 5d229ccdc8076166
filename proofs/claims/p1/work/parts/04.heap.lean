/-! ===== the heap as functions: kind, length, ints, longs, references by address and place ===== -/
abbrev Hp : Type := (Nat → Nat) × (Nat → Nat) × (Nat → Nat → Int32) × (Nat → Nat → Int64) × (Nat → Nat → Option Nat)
def hK (h : Hp) (a : Nat) : Nat := h.1 a
def hN (h : Hp) (a : Nat) : Nat := h.2.1 a
def hI (h : Hp) (a k : Nat) : Int32 := h.2.2.1 a k
def hG (h : Hp) (a k : Nat) : Int64 := h.2.2.2.1 a k
def hO (h : Hp) (a k : Nat) : Option Nat := h.2.2.2.2 a k
def u2 {α : Type} (f : Nat → Nat → α) (a k : Nat) (x : α) : Nat → Nat → α := fun b j => if b = a ∧ j = k then x else f b j
def u1 {α : Type} (f : Nat → α) (a : Nat) (x : α) : Nat → α := fun b => if b = a then x else f b
def pI (h : Hp) (a k : Nat) (x : Int32) : Hp := (h.1, h.2.1, u2 h.2.2.1 a k x, h.2.2.2.1, h.2.2.2.2)
def pG (h : Hp) (a k : Nat) (x : Int64) : Hp := (h.1, h.2.1, h.2.2.1, u2 h.2.2.2.1 a k x, h.2.2.2.2)
def pO (h : Hp) (a k : Nat) (x : Option Nat) : Hp := (h.1, h.2.1, h.2.2.1, h.2.2.2.1, u2 h.2.2.2.2 a k x)
/-- a new cell of kind c and length n at q -/
def nw (h : Hp) (q c n : Nat) : Hp := (u1 h.1 q c, u1 h.2.1 q n, u1 h.2.2.1 q (fun _ => 0), u1 h.2.2.2.1 q (fun _ => 0), u1 h.2.2.2.2 q (fun _ => none))
theorem hK_pI (h : Hp) (a k : Nat) (x : Int32) (b : Nat) : hK (pI h a k x) b = hK h b := rfl
theorem hN_pI (h : Hp) (a k : Nat) (x : Int32) (b : Nat) : hN (pI h a k x) b = hN h b := rfl
theorem hG_pI (h : Hp) (a k : Nat) (x : Int32) (b j : Nat) : hG (pI h a k x) b j = hG h b j := rfl
theorem hO_pI (h : Hp) (a k : Nat) (x : Int32) (b j : Nat) : hO (pI h a k x) b j = hO h b j := rfl
theorem hI_pI (h : Hp) (a k : Nat) (x : Int32) (b j : Nat) : hI (pI h a k x) b j = if b = a ∧ j = k then x else hI h b j := rfl
theorem hK_pG (h : Hp) (a k : Nat) (x : Int64) (b : Nat) : hK (pG h a k x) b = hK h b := rfl
theorem hN_pG (h : Hp) (a k : Nat) (x : Int64) (b : Nat) : hN (pG h a k x) b = hN h b := rfl
theorem hI_pG (h : Hp) (a k : Nat) (x : Int64) (b j : Nat) : hI (pG h a k x) b j = hI h b j := rfl
theorem hO_pG (h : Hp) (a k : Nat) (x : Int64) (b j : Nat) : hO (pG h a k x) b j = hO h b j := rfl
theorem hG_pG (h : Hp) (a k : Nat) (x : Int64) (b j : Nat) : hG (pG h a k x) b j = if b = a ∧ j = k then x else hG h b j := rfl
theorem hK_pO (h : Hp) (a k : Nat) (x : Option Nat) (b : Nat) : hK (pO h a k x) b = hK h b := rfl
theorem hN_pO (h : Hp) (a k : Nat) (x : Option Nat) (b : Nat) : hN (pO h a k x) b = hN h b := rfl
theorem hI_pO (h : Hp) (a k : Nat) (x : Option Nat) (b j : Nat) : hI (pO h a k x) b j = hI h b j := rfl
theorem hG_pO (h : Hp) (a k : Nat) (x : Option Nat) (b j : Nat) : hG (pO h a k x) b j = hG h b j := rfl
theorem hO_pO (h : Hp) (a k : Nat) (x : Option Nat) (b j : Nat) : hO (pO h a k x) b j = if b = a ∧ j = k then x else hO h b j := rfl
theorem hK_nw (h : Hp) (q c n b : Nat) : hK (nw h q c n) b = if b = q then c else hK h b := rfl
theorem hN_nw (h : Hp) (q c n b : Nat) : hN (nw h q c n) b = if b = q then n else hN h b := rfl
theorem hI_nw (h : Hp) (q c n b j : Nat) : hI (nw h q c n) b j = if b = q then 0 else hI h b j := by
  show (if b = q then (fun _ => 0) else h.2.2.1 b) j = _
  by_cases e : b = q <;> simp [e, hI]
theorem hG_nw (h : Hp) (q c n b j : Nat) : hG (nw h q c n) b j = if b = q then 0 else hG h b j := by
  show (if b = q then (fun _ => 0) else h.2.2.2.1 b) j = _
  by_cases e : b = q <;> simp [e, hG]
theorem hO_nw (h : Hp) (q c n b j : Nat) : hO (nw h q c n) b j = if b = q then none else hO h b j := by
  show (if b = q then (fun _ => none) else h.2.2.2.2 b) j = _
  by_cases e : b = q <;> simp [e, hO]
/-- how many fields, of which types, by the number of the system -/
def fnum : Nat → Nat
  | 0 => 7 | 1 => 3 | 2 => 5 | 3 => 6 | 4 => 9 | 5 => 17 | 6 => 4 | 7 => 4 | 8 => 4 | 9 => 21 | 10 => 7 | 11 => 18 | _ => 105
def fty : Nat → Nat → FieldType
  | 0 => tyX0 | 1 => tyX1 | 2 => tyX2 | 3 => tyX3 | 4 => tyX4 | 5 => tyX5 | 6 => tyX6 | 7 => tyX7 | 8 => tyX8 | 9 => tyX9 | 10 => tyX10 | 11 => tyX11 | _ => tyX12
def fv (t : FieldType) (h : Hp) (a k : Nat) : Value := match t with
  | .long => .long (hG h a k)
  | .object _ => va_rf (hO h a k)
  | .array _ => va_rf (hO h a k)
  | _ => .int (hI h a k)
/-- 0: an int, 1: a long, 2: a reference -/
def ity : FieldType → Nat
  | .long => 1
  | .object _ => 2
  | .array _ => 2
  | _ => 0
def fvs (n : Nat) (t : Nat → FieldType) (h : Hp) (a : Nat) : List Value := (List.range n).map (fun k => fv (t k) h a k)
/-- kinds: 1 .. 13 objects, 14 byte[], 15 int[], 16 long[], 17 boolean[], 18 .. 22 arrays of references -/
def ce (cy : Nat → ClassId) (h : Hp) (a : Nat) : va_E :=
  if hK h a ≤ 13 then .inr (hK h a - 1, fvs (fnum (hK h a - 1)) (fty (hK h a - 1)) h a)
  else .inl (cy (hK h a - 14), (hN h a, if hK h a = 16 then .inr (.inl (hG h a)) else if hK h a ≤ 17 then .inl (hI h a) else .inr (.inr (.inr (.inr (hO h a))))))
abbrev ty9 (cy : Nat → ClassId) : List (ClassId × FieldType) := [(cy 0, .byte), (cy 1, .int), (cy 2, .long), (cy 3, .boolean), (cy 4, .object "SheetBranches$Conflict"), (cy 5, .object "SheetBranches$Content"), (cy 6, .object "SheetBranches$Part"), (cy 7, .object "SheetBranches$Sheet"), (cy 8, .object "SheetBranches$Value")]
theorem ce_o {cy : Nat → ClassId} {h : Hp} {a c : Nat} (hk : hK h a = c + 1) (hc : c < 13) : ce cy h a = .inr (c, fvs (fnum c) (fty c) h a) := by
  rw [ce, if_pos (by omega), hk]; rfl
theorem ce_i {cy : Nat → ClassId} {h : Hp} {a c : Nat} (hk : hK h a = c + 14) (hc : c < 4) (h2 : c ≠ 2) : ce cy h a = .inl (cy c, hN h a, .inl (hI h a)) := by
  rw [ce, if_neg (by omega), if_neg (by omega), if_pos (by omega), hk]; rfl
theorem ce_l {cy : Nat → ClassId} {h : Hp} {a : Nat} (hk : hK h a = 16) : ce cy h a = .inl (cy 2, hN h a, .inr (.inl (hG h a))) := by
  rw [ce, if_neg (by omega), if_pos hk, hk]
theorem ce_q {cy : Nat → ClassId} {h : Hp} {a c : Nat} (hk : hK h a = c + 14) (hc : 4 ≤ c) : ce cy h a = .inl (cy c, hN h a, .inr (.inr (.inr (.inr (hO h a))))) := by
  rw [ce, if_neg (by omega), if_neg (by omega), if_neg (by omega), hk]; rfl
theorem ce_congr {cy : Nat → ClassId} {h g : Hp} {a : Nat} (e1 : hK h a = hK g a) (e2 : hN h a = hN g a) (e3 : hI h a = hI g a) (e4 : hG h a = hG g a) (e5 : hO h a = hO g a) : ce cy h a = ce cy g a := by
  have e6 : ∀ n t, fvs n t h a = fvs n t g a := fun n t => by
    unfold fvs
    apply List.map_congr_left
    intro k _
    unfold fv
    rw [e3, e4, e5]
  rw [ce, ce, e1, e2, e3, e4, e5, e6]
theorem fvs_len (n : Nat) (t : Nat → FieldType) (h : Hp) (a : Nat) : (fvs n t h a).length = n := by simp [fvs]
theorem fvs_get {n k : Nat} (t : Nat → FieldType) (h : Hp) (a : Nat) (hk : k < n) : (fvs n t h a)[k]? = some (fv (t k) h a k) := by simp [fvs, hk]
theorem fvs_set {n k : Nat} {t : Nat → FieldType} {h g : Hp} {a : Nat} {v : Value} (hv : fv (t k) g a k = v) (ho : ∀ j, j ≠ k → fv (t j) g a j = fv (t j) h a j) : (fvs n t h a).set k v = fvs n t g a := by
  apply List.ext_getElem?
  intro j
  by_cases hj : j < n
  · rw [fvs_get t g a hj]
    by_cases hjk : j = k
    · subst hjk
      rw [List.getElem?_set_self (by rw [fvs_len]; exact hj), hv]
    · rw [List.getElem?_set_ne (Ne.symm hjk), fvs_get t h a hj, ho j hjk]
  · rw [List.getElem?_eq_none (by rw [List.length_set, fvs_len]; omega), List.getElem?_eq_none (by rw [fvs_len]; omega)]
theorem fv_I {t : FieldType} (ht : ity t = 0) (h : Hp) (a k : Nat) : fv t h a k = .int (hI h a k) := by cases t <;> first | rfl | cases ht
theorem fv_G {t : FieldType} (ht : ity t = 1) (h : Hp) (a k : Nat) : fv t h a k = .long (hG h a k) := by cases t <;> first | rfl | cases ht
theorem fv_O {t : FieldType} (ht : ity t = 2) (h : Hp) (a k : Nat) : fv t h a k = va_rf (hO h a k) := by cases t <;> first | rfl | cases ht
theorem fv_eq {t : FieldType} {h g : Hp} {a k : Nat} (e1 : hI g a k = hI h a k) (e2 : hG g a k = hG h a k) (e3 : hO g a k = hO h a k) : fv t g a k = fv t h a k := by cases t <;> simp [fv, e1, e2, e3]
/-! ===== the heap in the machine ===== -/
def Lk (L : List Nat) (h : Hp) : Prop := ∀ a, a ∈ L ↔ hK h a ≠ 0
def Rp (D : va_G) (cy : Nat → ClassId) (A : Nat → Prop) (H0 H : Heap) (locs : List Loc) (h : Hp) : Prop := ∃ L : List Nat, Lk L h ∧ va_P D vwCl (va_pl L (ce cy h)) H ∧ va_D A (va_pl L (ce cy h)) ∧ va_S A H0 H locs
theorem pl_get {L : List Nat} {f : Nat → va_E} {a : Nat} (h : a ∈ L) : ∃ k : Nat, (va_pl L f)[k]? = some (a, f a) := va_pl_get (X := []) h
theorem pl_set {A : Nat → Prop} {L : List Nat} {f : Nat → va_E} {a k : Nat} {e : va_E} (hD : va_D A (va_pl L f)) (h : a ∈ L) (hk : (va_pl L f)[k]? = some (a, f a)) : (va_pl L f).set k (a, e) = va_pl L (va_up f a e) := va_pl_set (X := []) hD h hk
theorem up_ce {cy : Nat → ClassId} {h g : Hp} {a : Nat} {e : va_E} (he : ce cy g a = e) (ho : ∀ b, b ≠ a → ce cy g b = ce cy h b) : ∀ b, va_up (ce cy h) a e b = ce cy g b := fun b => by
  by_cases hb : b = a
  · subst hb; rw [va_up_self, he]
  · rw [va_up_ne _ _ hb, ho b hb]
/-- one cell is another one then -/
theorem Rp_set {D : va_G} {cy : Nat → ClassId} {A : Nat → Prop} {H0 H1 : Heap} {locs1 : List Loc} {h g : Hp} {L : List Nat} {a k : Nat} {e : va_E} (hL : Lk L h) (hg : ∀ b, hK g b = hK h b) (hD0 : va_D A (va_pl L (ce cy h))) (ha : a ∈ L) (hk : (va_pl L (ce cy h))[k]? = some (a, ce cy h a)) (he : ce cy g a = e) (ho : ∀ b, b ≠ a → ce cy g b = ce cy h b) (hP : va_P D vwCl ((va_pl L (ce cy h)).set k (a, e)) H1) (hD : va_D A ((va_pl L (ce cy h)).set k (a, e))) (hS : va_S A H0 H1 locs1) : Rp D cy A H0 H1 locs1 g := by
  rw [pl_set hD0 ha hk, va_pl_congr (up_ce he ho)] at hP hD
  exact ⟨L, fun b => by rw [hg]; exact hL b, hP, hD, hS⟩
/-- a new cell -/
theorem Rp_new {D : va_G} {cy : Nat → ClassId} {A : Nat → Prop} {H0 H1 : Heap} {locs : List Loc} {h : Hp} {L : List Nat} {q c n : Nat} {e : va_E} (hL : Lk L h) (hc : c ≠ 0) (he : ce cy (nw h q c n) q = e) (hP : va_P D vwCl (va_pl L (ce cy h) ++ [(q, e)]) H1) (hD : va_D A (va_pl L (ce cy h) ++ [(q, e)])) (hS : va_S A H0 H1 locs) : hK h q = 0 ∧ Rp D cy A H0 H1 locs (nw h q c n) := by
  have hq : q ∉ L := fun hq => by
    obtain ⟨k, hk⟩ := pl_get (f := ce cy h) hq
    have hlt := (List.getElem?_eq_some_iff.mp hk).1
    have h1 : (va_pl L (ce cy h) ++ [(q, e)])[k]? = some (q, ce cy h q) := by rw [List.getElem?_append_left hlt]; exact hk
    have h2 : (va_pl L (ce cy h) ++ [(q, e)])[(va_pl L (ce cy h)).length]? = some (q, e) := by simp
    have := hD.1 _ _ _ _ h1 h2 rfl
    omega
  have h0 : hK h q = 0 := Classical.byContradiction fun h1 => hq ((hL q).mpr h1)
  refine ⟨h0, ?_⟩
  have ho : ∀ b, b ≠ q → ce cy (nw h q c n) b = ce cy h b := fun b hb => ce_congr (by rw [hK_nw, if_neg hb]) (by rw [hN_nw, if_neg hb]) (by funext j; rw [hI_nw, if_neg hb]) (by funext j; rw [hG_nw, if_neg hb]) (by funext j; rw [hO_nw, if_neg hb])
  rw [va_pl_push hq, va_pl_congr (up_ce he ho)] at hP hD
  refine ⟨L ++ [q], fun b => ?_, hP, hD, hS⟩
  rw [hK_nw, List.mem_append, List.mem_singleton]
  by_cases hb : b = q
  · subst hb; simp [hc]
  · simp [hb, hL b]
