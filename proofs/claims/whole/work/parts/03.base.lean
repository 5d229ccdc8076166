/-! ===== the words that every method may use ===== -/
def gtb : List Cond := lw_tbl.filter goodWord
theorem gtb_good {w : Cond} (h : w ∈ gtb) : w ∈ lw_tbl ∧ goodWord w = true := List.mem_filter.mp h
theorem gtb_in {w : Cond} (h : w ∈ tables_1) (g : goodWord w = true) : w ∈ gtb := List.mem_filter.mpr ⟨List.mem_append_right _ h, g⟩
theorem gtb_sel {q : MethodName × Nat} (h : q ∈ lw_privs) (g : goodWord (Cond.selects q.1.cls q.1 q.1) = true) : Cond.selects q.1.cls q.1 q.1 ∈ gtb := List.mem_filter.mpr ⟨List.mem_append_left _ (List.mem_map.mpr ⟨q, h, rfl⟩), g⟩
/-- a method: its name, its code, how many locals, what it returns -/
abbrev MI : Type := MethodName × ByteArray × Nat × Option FieldType
def wy (Y : MI) : List Cond := Cond.code Y.1 Y.2.1 Y.2.2.1 Y.2.2.2 :: gtb
theorem gi_gtb {ws : List Cond} (h : ∀ w ∈ ws, w ∈ gtb) : GoodIn gtb ws := fun w hw => ⟨h w hw, good_of_word (gtb_good (h w hw)).2⟩
theorem gi_wy {Y : MI} (h : Cond.code Y.1 Y.2.1 Y.2.2.1 Y.2.2.2 ∈ gtb) : ∀ w ∈ wy Y, w ∈ gtb := fun w hw => by
  rcases List.mem_cons.mp hw with rfl | hw
  · exact h
  · exact hw
/-! ===== values, locals ===== -/
abbrev Sv : Type := Int32 ⊕ Int64 ⊕ (Option Nat ⊕ Nat)
abbrev vi (x : Int32) : Sv := .inl x
abbrev vl (x : Int64) : Sv := .inr (.inl x)
abbrev vr (r : Option Nat) : Sv := .inr (.inr (.inl r))
/-- a thing that is there from the start: a String constant, its bytes, a static array -/
abbrev vs (i : Nat) : Sv := .inr (.inr (.inr i))
def tv (cy : Nat → Nat) : Sv → Value
  | .inl x => .int x
  | .inr (.inl x) => .long x
  | .inr (.inr (.inl r)) => va_rf r
  | .inr (.inr (.inr i)) => .ref (cy (100 + i))
def ct : Sv → Nat
  | .inl _ => 1
  | .inr (.inl _) => 2
  | .inr (.inr _) => 1
theorem tv_cat {cy : Nat → Nat} (v : Sv) : (tv cy v).category = ct v := by
  rcases v with x | x | r | i
  · rfl
  · rfl
  · cases r <;> rfl
  · rfl
def unL : Option Sv → Option Sv
  | some (.inr (.inl _)) => none
  | a => a
def st1 : List (Option Sv) → Nat → Sv → List (Option Sv)
  | [], _, _ => []
  | _ :: t, 0, v => some v :: t
  | a :: t, n + 1, v => (match n with
    | 0 => unL a
    | _ + 1 => a) :: st1 t n v
def st2 (lv : List (Option Sv)) (i : Nat) (v : Sv) : List (Option Sv) := (st1 lv i v).set (i + 1) none
theorem unL_some {a : Option Sv} {w : Sv} (h : unL a = some w) : a = some w ∧ ct w ≠ 2 := by
  rcases a with _ | v
  · cases h
  · rcases v with x | x | r
    · cases h; exact ⟨rfl, show (1 : Nat) ≠ 2 by decide⟩
    · cases h
    · cases h; exact ⟨rfl, show (1 : Nat) ≠ 2 by decide⟩
theorem st1_len : ∀ (lv : List (Option Sv)) (i : Nat) (v : Sv), (st1 lv i v).length = lv.length
  | [], _, _ => rfl
  | _ :: _, 0, _ => rfl
  | _ :: t, n + 1, v => by simp [st1, st1_len t n v]
theorem st1_get : ∀ (lv : List (Option Sv)) (i : Nat) (v : Sv) (j : Nat) (w : Sv), (st1 lv i v)[j]? = some (some w) → (j = i ∧ w = v) ∨ (j ≠ i ∧ lv[j]? = some (some w) ∧ ¬ (j + 1 = i ∧ ct w = 2))
  | [], _, _, _, _, h => by simp [st1] at h
  | a :: t, 0, v, j, w, h => by
    cases j with
    | zero => left; simp [st1] at h; exact ⟨rfl, h.symm⟩
    | succ j => right; simp [st1] at h; exact ⟨by omega, by simpa using h, by omega⟩
  | a :: t, n + 1, v, j, w, h => by
    cases j with
    | zero =>
      right
      refine ⟨by omega, ?_⟩
      cases n with
      | zero =>
        have h1 : unL a = some w := by simpa [st1] using h
        obtain ⟨h2, h3⟩ := unL_some h1
        exact ⟨by simp [h2], fun q => h3 q.2⟩
      | succ n =>
        have h1 : a = some w := by simpa [st1] using h
        exact ⟨by simp [h1], by omega⟩
    | succ j =>
      have h1 : (st1 t n v)[j]? = some (some w) := by simpa [st1] using h
      rcases st1_get t n v j w h1 with ⟨q1, q2⟩ | ⟨q1, q2, q3⟩
      · exact Or.inl ⟨by omega, q2⟩
      · exact Or.inr ⟨by omega, by simpa using q2, fun q => q3 ⟨by omega, q.2⟩⟩
/-- the locals of a frame -/
def lvh (cy : Nat → Nat) (ls : Array Slot) (nL : Nat) (lv : List (Option Sv)) : Prop := ls.size = nL ∧ lv_wf ls ∧ lv.length = nL ∧ ∀ (i : Nat) (v : Sv), lv[i]? = some (some v) → ls[i]? = some (.val (tv cy v))
def lpr (cy : Nat → Nat) : Nat → List (Option Sv) → List (Nat × Value)
  | _, [] => []
  | i, none :: t => lpr cy (i + 1) t
  | i, some v :: t => (i, tv cy v) :: lpr cy (i + 1) t
theorem lpr_mem {cy : Nat → Nat} : ∀ (lv : List (Option Sv)) (i : Nat) (q : Nat × Value), q ∈ lpr cy i lv ↔ ∃ (k : Nat) (x : Sv), lv[k]? = some (some x) ∧ q = (i + k, tv cy x)
  | [], i, q => by simp [lpr]
  | none :: t, i, q => by
    rw [lpr, lpr_mem t (i + 1) q]
    constructor
    · rintro ⟨k, x, h, rfl⟩; exact ⟨k + 1, x, by simpa using h, by rw [Nat.add_right_comm]; rfl⟩
    · rintro ⟨k, x, h, rfl⟩
      cases k with
      | zero => simp at h
      | succ k => exact ⟨k, x, by simpa using h, by rw [Nat.add_right_comm]; rfl⟩
  | some v :: t, i, q => by
    rw [lpr, List.mem_cons, lpr_mem t (i + 1) q]
    constructor
    · rintro (rfl | ⟨k, x, h, rfl⟩)
      · exact ⟨0, v, rfl, rfl⟩
      · exact ⟨k + 1, x, by simpa using h, by rw [Nat.add_right_comm]; rfl⟩
    · rintro ⟨k, x, h, rfl⟩
      cases k with
      | zero => left; simp at h; subst h; rfl
      | succ k => right; exact ⟨k, x, by simpa using h, by rw [Nat.add_right_comm]; rfl⟩
theorem lvh_has {cy : Nat → Nat} {ls : Array Slot} {nL : Nat} {lv : List (Option Sv)} (h : lvh cy ls nL lv) : lv_has ls nL (lpr cy 0 lv) := ⟨h.1, h.2.1, fun q hq => by
  obtain ⟨k, x, h1, rfl⟩ := (lpr_mem lv 0 q).mp hq
  rw [Nat.zero_add]
  exact h.2.2.2 k x h1⟩
theorem lvh_s1 {cy : Nat → Nat} {ls' : Array Slot} {nL i : Nat} {lv : List (Option Sv)} {v : Sv} (hn : lv.length = nL) (h : lv_has ls' nL ((i, tv cy v) :: (lpr cy 0 lv).filter (fun q => !(q.1 == i) && !(q.1 + 1 == i && q.2.category == 2)))) : lvh cy ls' nL (st1 lv i v) := by
  refine ⟨h.1, h.2.1, by rw [st1_len]; exact hn, fun j w hj => ?_⟩
  rcases st1_get lv i v j w hj with ⟨rfl, rfl⟩ | ⟨q1, q2, q3⟩
  · exact h.2.2 _ List.mem_cons_self
  · refine h.2.2 (j, tv cy w) (List.mem_cons_of_mem _ (List.mem_filter.mpr ⟨(lpr_mem lv 0 _).mpr ⟨j, w, q2, by rw [Nat.zero_add]⟩, ?_⟩))
    rw [tv_cat]
    by_cases h1 : j + 1 = i
    · have h2 : ct w ≠ 2 := fun h2 => q3 ⟨h1, h2⟩
      simp [q1, h2]
    · simp [q1, h1]
theorem lvh_s2 {cy : Nat → Nat} {ls' : Array Slot} {nL i : Nat} {lv : List (Option Sv)} {v : Sv} (hn : lv.length = nL) (h : lv_has ls' nL ((i, tv cy v) :: (lpr cy 0 lv).filter (fun q => !(q.1 == i) && (!(q.1 == i + 1) && !(q.1 + 1 == i && q.2.category == 2))))) : lvh cy ls' nL (st2 lv i v) := by
  refine ⟨h.1, h.2.1, by rw [st2, List.length_set, st1_len]; exact hn, fun j w hj => ?_⟩
  have hj1 : j ≠ i + 1 := by
    rintro rfl
    rw [st2, List.getElem?_set] at hj
    simp at hj
  have hj2 : (st1 lv i v)[j]? = some (some w) := by
    rw [st2, List.getElem?_set_ne (Ne.symm hj1)] at hj
    exact hj
  rcases st1_get lv i v j w hj2 with ⟨rfl, rfl⟩ | ⟨q1, q2, q3⟩
  · exact h.2.2 _ List.mem_cons_self
  · refine h.2.2 (j, tv cy w) (List.mem_cons_of_mem _ (List.mem_filter.mpr ⟨(lpr_mem lv 0 _).mpr ⟨j, w, q2, by rw [Nat.zero_add]⟩, ?_⟩))
    rw [tv_cat]
    by_cases h1 : j + 1 = i
    · have h2 : ct w ≠ 2 := fun h2 => q3 ⟨h1, h2⟩
      simp [q1, h2, hj1]
    · simp [q1, h1, hj1]
theorem lvh_sub {cy : Nat → Nat} {ls : Array Slot} {nL : Nat} {lv lv' : List (Option Sv)} (h : lvh cy ls nL lv) (hl : lv'.length = lv.length) (hs : ∀ (i : Nat) (v : Sv), lv'[i]? = some (some v) → lv[i]? = some (some v)) : lvh cy ls nL lv' := ⟨h.1, h.2.1, hl.trans h.2.2.1, fun i v hi => h.2.2.2 i v (hs i v hi)⟩
