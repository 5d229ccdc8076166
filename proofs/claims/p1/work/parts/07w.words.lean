/-! ===== methods that may throw, and their callers ===== -/
def exn : List String := ["java/lang/RuntimeException", "java/lang/Exception"]
abbrev thw (q : String × Nat × Nat × String) : List Cond := Cond.classLink q.1 q.2.1 q.2.2.2 :: Cond.initialized q.2.2.2 :: vx_at0 q.1 q.2.2.1 q.2.2.2 exn
theorem thl_in : ∀ q ∈ thl, ∀ w ∈ thw q, w ∈ tables_1 := by decide +kernel
theorem thl_ok : ∀ q ∈ thl, (∀ w ∈ thw q, (goodWord w || nestWord w) = true ∧ vx_ot w = true) ∧ Bundle.fit q.2.2.2 = true := by decide +kernel
theorem exn_ok : ∀ n ∈ exn, Bundle.fit n = true := by decide +kernel
def nmL : Nat → String
  | 13 => "java/lang/IndexOutOfBoundsException" | 15 => "java/lang/IllegalArgumentException" | 17 => "java/lang/UnsupportedOperationException" | 26 => "java/lang/IllegalStateException" | _ => "java/util/NoSuchElementException"
def catch1 (pc : Nat) (E : String) : List (Nat × Nat × Nat × Nat) → Option Nat
  | [] => none
  | q :: t => if q.1 ≤ pc ∧ pc < q.2.1 ∧ nmL q.2.2.2 = E then some q.2.2.1 else catch1 pc E t
theorem nmL_in (k : Nat) : nmL k ∈ exs := by
  unfold nmL; split <;> decide
theorem nmL_link : ∀ k ∈ [13, 15, 17, 26, 47], Cond.classLink RL k (nmL k) ∈ tables_1 ∧ goodWord (Cond.classLink RL k (nmL k)) = true := by decide +kernel
theorem exs_cast : ∀ E ∈ exs, Cond.castable E E ∈ tables_1 := by decide +kernel
