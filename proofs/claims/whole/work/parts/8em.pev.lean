/-! ===== the values of all versions ===== -/
noncomputable def solv (F : Int → Sh) (G : Int → Int → Int → Lit) (h : Sh) : Int → Int → Lit := Classical.epsilon (fun f => Sol F G h f)
noncomputable def evG (F : Int → Sh) : Nat → Int → Int → Int → Lit
  | 0 => fun _ _ _ => (0, 0, [])
  | n + 1 => fun v => if v = (n : Int) then solv F (evG F n) (F n) else evG F n v
noncomputable def GV (F : Int → Sh) (v : Int) : Int → Int → Lit := evG F (v.toNat + 1) v
/-- the values of the working sheet -/
noncomputable def WV (F : Int → Sh) (h : Sh) : Int → Int → Lit := solv F (GV F) h
section GV
variable {F F' : Int → Sh} {n : Int} {G G' : Int → Int → Int → Lit} {h : Sh} {f : Int → Int → Lit}
theorem evG_lt : ∀ (n : Nat) (v : Int), 0 ≤ v → v < n → evG F n v = GV F v
  | 0, v, v0, v1 => by omega
  | n + 1, v, v0, v1 => by
    by_cases c : v = (n : Int)
    · unfold GV; rw [c, Int.toNat_natCast]
    · have : evG F (n + 1) v = evG F n v := if_neg c
      rw [this]; exact evG_lt n v v0 (by omega)
theorem GV_n (n : Nat) : GV F (n : Int) = solv F (evG F n) (F n) := by
  unfold GV; rw [Int.toNat_natCast]; exact if_pos rfl
theorem vlC_g {k : Int} (Z : WfZ F n h) (hG : ∀ v, 0 ≤ v → v < n → ∀ r c, 0 ≤ r → r < (F v).1.1 → 0 ≤ c → c < (F v).1.2 → G v r c = G' v r c) (hk : inS h k) : vlC F G h f k = vlC F G' h f k := by
  unfold vlC
  match e : ctC h k with
  | none => rfl
  | some (kd, l, ps) =>
    simp only
    by_cases c5 : kd = 5
    · rw [if_pos c5, if_pos c5]
      by_cases cc : rch (Ld h) k k
      · rw [ci_1 cc, ci_1 cc]
      · rw [ci_0 cc, ci_0 cc]
        rw [c5] at e
        congr 1
        exact Ev_c Z hG hk e (fun _ _ => rfl) _
    · rw [if_neg c5, if_neg c5]
theorem Sol_c (Z : WfZ F n h) (hG : ∀ v, 0 ≤ v → v < n → ∀ r c, 0 ≤ r → r < (F v).1.1 → 0 ≤ c → c < (F v).1.2 → G v r c = G' v r c) (S : Sol F G h f) : Sol F G' h f := fun k hk => (S k hk).trans (vlC_g Z hG hk)
theorem solv_u (Z : WfZ F n h) (S : Sol F G h f) : ∀ k, inS h k → f (k / 10) (k % 10) = solv F G h (k / 10) (k % 10) := Sol_u Z (fun _ _ _ _ _ _ _ _ _ => rfl) S (Classical.epsilon_spec (p := fun f => Sol F G h f) ⟨f, S⟩)
theorem GV_u (n0 : 0 ≤ n) (Z : WfZ F n (F n)) (S : Sol F (GV F) (F n) f) : ∀ k, inS (F n) k → f (k / 10) (k % 10) = GV F n (k / 10) (k % 10) := by
  obtain ⟨m, rfl⟩ : ∃ m : Nat, n = m := ⟨n.toNat, by omega⟩
  rw [GV_n]
  exact solv_u Z (Sol_c Z (fun v v0 v1 r c _ _ _ _ => by rw [evG_lt m v v0 v1]) S)
theorem EvA_E {E E' : Int → Sh} {V : Int → Int → Int → Lit} {ps : List Prt} {i : Nat} (hE : ∀ j : Nat, j < ps.length → E (ps.getD j pd0).2.2.2.2.2 = E' (ps.getD j pd0).2.2.2.2.2) : EvA E V ps i = EvA E' V ps i := by
  have ho : ∀ j : Nat, ((ps.getD j pd0).1 = 16 ∨ (ps.getD j pd0).1 = 17) → E (ps.getD j pd0).2.2.2.2.2 = E' (ps.getD j pd0).2.2.2.2.2 := fun j c => by
    by_cases hj : j < ps.length
    · exact hE j hj
    · have := op_out hj; omega
  have e1 : svE E V ps = svE E' V ps := by
    funext j
    unfold svE
    by_cases c : (ps.getD j pd0).1 = 16 ∧ ¬ ((ps.getD (j + 1) pd0).1 = 29 ∨ (ps.getD (j + 1) pd0).1 = 30)
    · rw [if_pos c, if_pos c, ho j (Or.inl c.1)]
    · rw [if_neg c, if_neg c]
  have e2 : avE E V ps = avE E' V ps := by
    funext j
    unfold avE
    by_cases c : (ps.getD j pd0).1 = 17
    · rw [if_pos c, if_pos c, ho j (Or.inr c)]
    · rw [if_neg c, if_neg c]
  have e3 : plE E ps = plE E' ps := by
    funext j
    unfold plE
    by_cases c : (ps.getD j pd0).1 = 16
    · rw [if_pos c, if_pos c, ho j (Or.inl c)]
    · rw [if_neg c, if_neg c]
  unfold EvA
  rw [e1, e2, e3]
theorem Sol_F (Z : WfZ F n h) (hF : ∀ v, 0 ≤ v → v < n → F v = F' v) : Sol F G h f ↔ Sol F' G h f := by
  have key : ∀ k, inS h k → vlC F G h f k = vlC F' G h f k := fun k hk => by
    unfold vlC
    match e : ctC h k with
    | none => rfl
    | some (kd, l, ps) =>
      simp only
      by_cases c5 : kd = 5
      · rw [if_pos c5, if_pos c5]
        rw [c5] at e
        rw [EvA_E (E' := eS F' h) (fun j hj => ?_)]
        obtain ⟨v1, v2⟩ := (Z.2.2 k hk l ps e).2.2 j hj
        unfold eS
        by_cases cv : (ps.getD j pd0).2.2.2.2.2 < 0
        · rw [if_pos cv, if_pos cv]
        · rw [if_neg cv, if_neg cv]; exact hF _ (by omega) v1
      · rw [if_neg c5, if_neg c5]
  exact ⟨fun S k hk => (S k hk).trans (key k hk), fun S k hk => (S k hk).trans (key k hk).symm⟩
theorem solv_F (Z : WfZ F n h) (hF : ∀ v, 0 ≤ v → v < n → F v = F' v) : solv F G h = solv F' G h := by
  unfold solv
  rw [show (fun f => Sol F G h f) = fun f => Sol F' G h f from funext (fun f => propext (Sol_F Z hF))]
theorem solv_G (Z : WfZ F n h) (hG : ∀ v, 0 ≤ v → v < n → G v = G' v) : solv F G h = solv F G' h := by
  unfold solv
  rw [show (fun f => Sol F G h f) = fun f => Sol F G' h f from funext (fun f => propext ⟨Sol_c Z (fun v v0 v1 r c _ _ _ _ => by rw [hG v v0 v1]), Sol_c Z (fun v v0 v1 r c _ _ _ _ => by rw [hG v v0 v1])⟩)]
theorem evG_F : ∀ n : Nat, (∀ v : Int, 0 ≤ v → v < (n : Int) → F v = F' v) → (∀ v : Int, 0 ≤ v → v < (n : Int) → WfZ F v (F v)) → evG F n = evG F' n
  | 0, _, _ => rfl
  | n + 1, hF, hZ => by
    have ih := evG_F n (fun v v0 v1 => hF v v0 (by omega)) (fun v v0 v1 => hZ v v0 (by omega))
    funext v
    show (if v = (n : Int) then solv F (evG F n) (F n) else evG F n v) = if v = (n : Int) then solv F' (evG F' n) (F' n) else evG F' n v
    rw [← ih, ← hF n (by omega) (by omega), solv_F (hZ n (by omega) (by omega)) (fun v v0 v1 => hF v v0 (by omega))]
theorem GV_F (hF : ∀ v, 0 ≤ v → v < n → F v = F' v) (hZ : ∀ v, 0 ≤ v → v < n → WfZ F v (F v)) : ∀ v, 0 ≤ v → v < n → GV F v = GV F' v := fun v v0 v1 => by
  unfold GV
  rw [evG_F (v.toNat + 1) (fun w w0 w1 => hF w w0 (by omega)) (fun w w0 w1 => hZ w w0 (by omega))]
theorem WV_F (Z : WfZ F n h) (hF : ∀ v, 0 ≤ v → v < n → F v = F' v) (hZ : ∀ v, 0 ≤ v → v < n → WfZ F v (F v)) : WV F h = WV F' h := by
  unfold WV
  rw [solv_G Z (GV_F hF hZ), solv_F Z hF]
end GV
