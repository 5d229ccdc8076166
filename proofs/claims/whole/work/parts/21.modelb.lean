/-! ===== the model's skeleton: its object at g 0, the array of field k at g k ===== -/
def mkl : List Nat := [0, 15, 15, 15, 15, 15, 0, 0, 0, 15, 15, 15, 0, 0, 0, 0, 0, 0, 14, 0, 15, 16, 15, 15, 0, 0, 15, 15, 15, 16, 15, 15, 15, 15, 15, 15, 15, 15, 15, 15, 0, 0, 0, 0, 0, 0, 0, 0, 0, 0, 0, 0, 0, 0, 0, 0, 0, 0, 0, 0, 15, 16, 15, 14, 17, 0, 15, 16, 15, 14, 14, 0, 0, 0, 0, 0, 0, 0, 0, 0, 0, 0, 16, 16, 17, 16, 14, 0, 15, 17, 17, 15, 15, 15, 15, 15, 17, 17, 0, 15, 0, 15, 15, 15, 0]
def mnl : List Nat := [0, 122, 122, 3904, 1220, 39040, 0, 0, 0, 40, 40, 6, 0, 0, 0, 0, 0, 0, 82400, 0, 4200, 4200, 4200, 4200, 0, 0, 60420, 60420, 60420, 60420, 60420, 60420, 60420, 60420, 60420, 60420, 60420, 60420, 60420, 400, 0, 0, 0, 0, 0, 0, 0, 0, 0, 0, 0, 0, 0, 0, 0, 0, 0, 0, 0, 0, 13120, 13120, 13120, 314880, 40, 0, 200, 200, 200, 4800, 20, 0, 0, 0, 0, 0, 0, 0, 0, 0, 0, 0, 1600, 1600, 320, 5, 2000, 0, 32, 40, 40, 370, 370, 370, 370, 370, 370, 370, 0, 64, 0, 410, 410, 410, 0]
def MW (h : Hp) (g : Nat → Nat) : Prop := hK h (g 0) = 13 ∧ (∀ k, mkl.getD k 0 ≠ 0 → hO h (g 0) k = some (g k) ∧ hK h (g k) = mkl.getD k 0 ∧ hN h (g k) = mnl.getD k 0) ∧ (∀ i j, (i = 0 ∨ mkl.getD i 0 ≠ 0) → (j = 0 ∨ mkl.getD j 0 ≠ 0) → g i = g j → i = j)
theorem mK {h : Hp} {g : Nat → Nat} {k c : Nat} (hm : MW h g) (hk : mkl.getD k 0 = c + 1) : hK h (g k) = c + 1 := by rw [(hm.2.1 k (by omega)).2.1, hk]
theorem mO {h : Hp} {g : Nat → Nat} {k c : Nat} (hm : MW h g) (hk : mkl.getD k 0 = c + 1) : hO h (g 0) k = some (g k) := (hm.2.1 k (by omega)).1
theorem mN {h : Hp} {g : Nat → Nat} {k c n : Nat} (hm : MW h g) (hk : mkl.getD k 0 = c + 1) (hn : mnl.getD k 0 = n) : hN h (g k) = n := by rw [(hm.2.1 k (by omega)).2.2, hn]
theorem mNe {h : Hp} {g : Nat → Nat} (hm : MW h g) {i j : Nat} (hi : (i == 0 || mkl.getD i 0 != 0) = true) (hj : (j == 0 || mkl.getD j 0 != 0) = true) (hij : (i == j) = false) : g i ≠ g j := fun e => by
  have := hm.2.2 i j (by simpa using hi) (by simpa using hj) e
  simp [this] at hij

/-- a whole row of ints, or longs, anew -/
def sI (h : Hp) (a : Nat) (f : Nat → Int32) : Hp := (h.1, h.2.1, u1 h.2.2.1 a f, h.2.2.2.1, h.2.2.2.2)
def sG (h : Hp) (a : Nat) (f : Nat → Int64) : Hp := (h.1, h.2.1, h.2.2.1, u1 h.2.2.2.1 a f, h.2.2.2.2)
theorem hI_sI (h : Hp) (a : Nat) (f : Nat → Int32) (b : Nat) : hI (sI h a f) b = if b = a then f else hI h b := by
  funext j; show (if b = a then f else h.2.2.1 b) j = _; by_cases e : b = a <;> simp [e] <;> rfl
theorem hG_sG (h : Hp) (a : Nat) (f : Nat → Int64) (b : Nat) : hG (sG h a f) b = if b = a then f else hG h b := by
  funext j; show (if b = a then f else h.2.2.2.1 b) j = _; by_cases e : b = a <;> simp [e] <;> rfl
theorem hI_sI1 (h : Hp) (a : Nat) (f : Nat → Int32) : hI (sI h a f) a = f := by rw [hI_sI, if_pos rfl]
theorem hG_sG1 (h : Hp) (a : Nat) (f : Nat → Int64) : hG (sG h a f) a = f := by rw [hG_sG, if_pos rfl]
theorem pI_sI (h : Hp) (a k : Nat) (f : Nat → Int32) (x : Int32) : pI (sI h a f) a k x = sI h a (upd f k x) := by
  have : u2 (u1 h.2.2.1 a f) a k x = u1 h.2.2.1 a (upd f k x) := by
    funext b j; by_cases e : b = a <;> by_cases e2 : j = k <;> simp [u2, u1, upd, e, e2]
  show (h.1, h.2.1, u2 (u1 h.2.2.1 a f) a k x, h.2.2.2.1, h.2.2.2.2) = _
  rw [this]; rfl
theorem pG_sG (h : Hp) (a k : Nat) (f : Nat → Int64) (x : Int64) : pG (sG h a f) a k x = sG h a (vp_updL f k x) := by
  have : u2 (u1 h.2.2.2.1 a f) a k x = u1 h.2.2.2.1 a (vp_updL f k x) := by
    funext b j; by_cases e : b = a <;> by_cases e2 : j = k <;> simp [u2, u1, vp_updL, e, e2]
  show (h.1, h.2.1, h.2.2.1, u2 (u1 h.2.2.2.1 a f) a k x, h.2.2.2.2) = _
  rw [this]; rfl
theorem sI_self (h : Hp) (a : Nat) : sI h a (hI h a) = h := by
  have : u1 h.2.2.1 a (h.2.2.1 a) = h.2.2.1 := by funext b; by_cases e : b = a <;> simp [u1, e]
  show (h.1, h.2.1, u1 h.2.2.1 a (h.2.2.1 a), h.2.2.2.1, h.2.2.2.2) = h
  rw [this]
theorem sG_self (h : Hp) (a : Nat) : sG h a (hG h a) = h := by
  have : u1 h.2.2.2.1 a (h.2.2.2.1 a) = h.2.2.2.1 := by funext b; by_cases e : b = a <;> simp [u1, e]
  show (h.1, h.2.1, h.2.2.1, u1 h.2.2.2.1 a (h.2.2.2.1 a), h.2.2.2.2) = h
  rw [this]
theorem pI_eq (h : Hp) (a k : Nat) (x : Int32) : pI h a k x = sI h a (upd (hI h a) k x) := by
  conv => lhs; rw [← sI_self h a]
  exact pI_sI h a k _ x
theorem pG_eq (h : Hp) (a k : Nat) (x : Int64) : pG h a k x = sG h a (vp_updL (hG h a) k x) := by
  conv => lhs; rw [← sG_self h a]
  exact pG_sG h a k _ x
theorem sI_sI (h : Hp) (a : Nat) (f f2 : Nat → Int32) : sI (sI h a f) a f2 = sI h a f2 := by
  have : u1 (u1 h.2.2.1 a f) a f2 = u1 h.2.2.1 a f2 := by funext b; by_cases e : b = a <;> simp [u1, e]
  show (h.1, h.2.1, u1 (u1 h.2.2.1 a f) a f2, h.2.2.2.1, h.2.2.2.2) = _
  rw [this]; rfl
/-- n places from T on as those from F on -/
def cpI (f : Nat → Int32) (F T n : Nat) : Nat → Int32 := fun j => if T ≤ j ∧ j < T + n then f (F + (j - T)) else f j
theorem cpI_0 (f : Nat → Int32) (F T : Nat) : cpI f F T 0 = f := by funext j; rw [cpI, if_neg (by omega)]
theorem cpI_step {f : Nat → Int32} {F T n i : Nat} (hd : F + n ≤ T ∨ T + n ≤ F ∨ F = T) (hi : i < n) : upd (cpI f F T i) (T + i) (cpI f F T i (F + i)) = cpI f F T (i + 1) := by
  have e1 : cpI f F T i (F + i) = f (F + i) := by
    rw [cpI]; split
    · rename_i q; rcases hd with q2 | q2 | q2
      · omega
      · omega
      · omega
    · rfl
  rw [e1]
  funext j
  by_cases hj : j = T + i
  · subst hj
    show (if T + i = T + i then f (F + i) else _) = (if T ≤ T + i ∧ T + i < T + (i + 1) then f (F + (T + i - T)) else _)
    rw [if_pos rfl, if_pos (by omega), Nat.add_sub_cancel_left]
  · simp only [upd, if_neg hj, cpI]
    by_cases q : T ≤ j ∧ j < T + i
    · rw [if_pos q, if_pos (by omega)]
    · rw [if_neg q, if_neg (by omega)]
/-- where, from 0 on; -1 if nowhere -/
def plm (f : Nat → Int32) (x : Int32) (n : Nat) : Int32 := if pl1 f x n = 0 then -1 else nI (pl1 f x n - 1)

