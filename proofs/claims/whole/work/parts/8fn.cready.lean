/-! ===== the system: values when they are needed ===== -/
/-- a sheet as the parser and the shifts make it, looking at versions below n -/
def ShW (h : Sh) (n : Int) : Prop := ShB h ∧ ∀ k, inS h k → ∀ kd l ps, ctC h k = some (kd, l, ps) → (kd = 5 → WfV ps ∧ (1 ≤ ps.length ∧ ps.length ≤ 60) ∧ ∀ i : Nat, i < ps.length → (ps.getD i pd0).2.2.2.2.2 < n ∧ -1 ≤ (ps.getD i pd0).2.2.2.2.2) ∧ (kd ≠ 5 → VOk l ∧ ps = [])
/-- all sheets that can have values -/
def ShA (S : SS) : Prop := (∀ v, 0 ≤ v → v < S.2.1.1 → ShW (S.2.1.2.1 v) v) ∧ ShW S.2.2.2.1.1 S.2.1.1
theorem ShW_Z {F : Int → Sh} {h : Sh} {n : Int} (W : ShW h n) (hF : ∀ v, 0 ≤ v → v < n → ShB (F v)) : WfZ F n h := ⟨W.1, hF, fun k hk l ps e => ((W.2 k hk 5 l ps e).1 rfl)⟩
theorem ShW_p {h : Sh} {n : Int} (W : ShW h n) : ∀ k, inS h k → ∀ kd l ps, ctC h k = some (kd, l, ps) → kd ≠ 5 → VOk l := fun k hk kd l ps e c5 => ((W.2 k hk kd l ps e).2 c5).1
theorem ShW_v {h : Sh} {n : Int} (W : ShW h n) (hn : n ≤ 40) : ∀ i, inI h i → (prC (ctC h (cdI h i))).length ≤ 1000 ∧ ∀ j : Nat, j < (prC (ctC h (cdI h i))).length → -1 ≤ vrW h i j ∧ vrW h i j < 64 := fun i hi => by
  have isn := (cd_in W.1 hi).1
  unfold vrW
  match e : ctC h (cdI h i) with
  | none => exact ⟨by decide, fun j hj => absurd hj (Nat.not_lt_zero _)⟩
  | some (kd, l, ps) =>
    show ps.length ≤ 1000 ∧ ∀ j : Nat, j < ps.length → -1 ≤ (ps.getD j pd0).2.2.2.2.2 ∧ (ps.getD j pd0).2.2.2.2.2 < 64
    by_cases c5 : kd = 5
    · obtain ⟨-, w2, w3⟩ := (W.2 _ isn kd l ps e).1 c5
      exact ⟨by omega, fun j hj => by have := w3 j hj; omega⟩
    · have := ((W.2 _ isn kd l ps e).2 c5).2
      rw [this]
      exact ⟨by decide, fun j hj => absurd hj (Nat.not_lt_zero _)⟩
theorem lk_eq {h : Sh} {n : Int} (W : ShW h n) {v : Int} (v0 : 0 ≤ v) : lkW h v ↔ lkS h v := by
  constructor
  · rintro ⟨i, hi, j, hj, ev⟩
    have isn := (cd_in W.1 hi).1
    unfold vrW at ev
    match e : ctC h (cdI h i) with
    | none => rw [e] at hj; exact absurd hj (Nat.not_lt_zero _)
    | some (kd, l, ps) =>
      rw [e] at hj ev
      have hj : j < ps.length := hj
      have ev : (ps.getD j pd0).2.2.2.2.2 = v := ev
      by_cases c5 : kd = 5
      · rw [c5] at e; exact ⟨_, isn, l, ps, e, j, hj, ev, v0⟩
      · have := ((W.2 _ isn kd l ps e).2 c5).2
        rw [this] at hj; exact absurd hj (Nat.not_lt_zero _)
  · rintro ⟨k, hk, l, ps, e, j, hj, ev, -⟩
    obtain ⟨q1, q2⟩ := ix_in W.1 hk
    refine ⟨ixI h k, q1, j, ?_, ?_⟩
    · rw [q2, e]; exact hj
    · unfold vrW; rw [q2, e]; exact ev
theorem lk_lt {h : Sh} {n : Int} (W : ShW h n) {v : Int} (l : lkS h v) : v < n := by
  obtain ⟨k, hk, l, ps, e, j, hj, ev, -⟩ := l
  have := (((W.2 k hk 5 l ps e).1 rfl).2.2 j hj).1
  omega
section Re
variable {z : Z} {b sv sb : Nat → Nat} {I : Nat → Prop} {S : SS}
/-- not worked out -/
def UnV (z : Z) (b : Nat → Nat) (v : Int) : Prop := ∀ a, zO z (b 18) v = some a → zO z a 3 = none
/-- the versions that are needed -/
theorem k_r34 {x1 : Int} {x2 : Option Nat} {m x : Int} {c s : Nat} {P : Z → Prop} (R : RC z b I S) (A : ShA S) (m1 : m ≤ S.2.1.1) (h0 : ∀ v : Nat, v < 64 → bitL x v = true → (v : Int) < m) (p : ∀ X : Int, (∀ v : Nat, v < 64 → bitL x v = true → bitL X v = true) → (∀ v : Nat, v < 64 → bitL X v = true → (v : Int) < m) → (∀ v : Nat, v < 64 → bitL X v = true → UnV z b v → ∀ w : Nat, w < 64 → lkS (S.2.1.2.1 v) w → bitL X w = true) → (∀ T : Nat → Prop, (∀ v : Nat, v < 64 → bitL x v = true → T v) → (∀ v : Nat, v < 64 → T v → UnV z b v → ∀ w : Nat, w < 64 → lkS (S.2.1.2.1 v) w → T w) → ∀ v : Nat, v < 64 → bitL X v = true → T v) → F_X11_ready_91 (b 0) x1 x2 X 0 z c s P) : F_X11_ready_34 (b 0) x1 x2 x (S.2.1.1 - 1) z c s P := by
  have hB := RC_Bd R
  have n40 := hB.2.1.1
  obtain ⟨cc, r, ht, hl, hb, hk, hq⟩ := id R
  unfold F_X11_ready_34
  refine lp_I (fun q => ∃ X i : Int, q = (X, i) ∧ (-1 ≤ i ∧ i < S.2.1.1) ∧ (∀ v : Nat, v < 64 → bitL x v = true → bitL X v = true) ∧ (∀ v : Nat, v < 64 → bitL X v = true → (v : Int) < m) ∧ (∀ v : Nat, v < 64 → i < (v : Int) → bitL X v = true → UnV z b v → ∀ w : Nat, w < 64 → lkS (S.2.1.2.1 v) w → bitL X w = true) ∧ (∀ T : Nat → Prop, (∀ v : Nat, v < 64 → bitL x v = true → T v) → (∀ v : Nat, v < 64 → T v → UnV z b v → ∀ w : Nat, w < 64 → lkS (S.2.1.2.1 v) w → T w) → ∀ v : Nat, v < 64 → bitL X v = true → T v)) (fun q => (q.2 + 1).toNat) ?_ (x, S.2.1.1 - 1) ⟨x, S.2.1.1 - 1, rfl, ⟨by omega, by omega⟩, fun _ _ w => w, h0, fun v v1 v2 v3 => by have := h0 v v1 v3; omega, fun T t1 _ => t1⟩
  rintro G _ ⟨X, i, rfl, ⟨i0, i1⟩, H1, H2, H3, H4⟩ ih
  show L_X11_ready_34 (b 0) x1 x2 X i z c s _
  unfold L_X11_ready_34
  by_cases ci : i < 0
  · rw [if_pos ci]
    exact p X H1 H2 (fun v v1 v3 => H3 v v1 (by omega) v3) H4
  rw [if_neg ci]
  have next : ∀ Y : Int, (∀ v : Nat, v < 64 → bitL X v = true → bitL Y v = true) → (∀ v : Nat, v < 64 → bitL Y v = true → (v : Int) < m) → (∀ v : Nat, v < 64 → i ≤ (v : Int) → bitL Y v = true → UnV z b v → ∀ w : Nat, w < 64 → lkS (S.2.1.2.1 v) w → bitL Y w = true) → (∀ T : Nat → Prop, (∀ v : Nat, v < 64 → bitL x v = true → T v) → (∀ v : Nat, v < 64 → T v → UnV z b v → ∀ w : Nat, w < 64 → lkS (S.2.1.2.1 v) w → T w) → ∀ v : Nat, v < 64 → bitL Y v = true → T v) → F_X11_ready_82 (b 0) x1 x2 Y i z c s (fun o => match o with
      | .inl s' => G s'
      | .inr e => F_X11_ready_91 (b 0) x1 x2 e 0 z c s P) := fun Y y1 y2 y3 y4 => by
    unfold F_X11_ready_82
    rw [show i + -1 = i - 1 by omega, w32e (x := i - 1) (by omega) (by omega)]
    exact ih (Y, i - 1) ⟨Y, i - 1, rfl, ⟨by omega, by omega⟩, fun v v1 w => y1 v v1 (H1 v v1 w), y2, fun v v1 v2 => y3 v v1 (by omega), y4⟩ (by show (i - 1 + 1).toNat < (i + 1).toNat; omega)
  -- at v = i nothing new comes
  have keep : (bitL X i.toNat = true → UnV z b i → False) → F_X11_ready_82 (b 0) x1 x2 X i z c s (fun o => match o with
      | .inl s' => G s'
      | .inr e => F_X11_ready_91 (b 0) x1 x2 e 0 z c s P) := fun hn => next X (fun _ _ w => w) H2 (fun v v1 v2 v3 u => by
    by_cases cv : (v : Int) = i
    · exfalso
      have e : i.toNat = v := by omega
      rw [e] at hn
      rw [cv] at u
      exact hn v3 u
    · exact H3 v v1 (by omega) v3 u) H4
  refine ⟨cK cc 0 rfl rfl, b 3, cO cc 0 2 3 (by decide), cK cc 3 rfl rfl, o_at cc hl ?_⟩
  rw [show (if 0 ≤ i ∧ i < S.2.1.1 then zO z (b 18) i else none) = zO z (b 18) i from if_pos ⟨by omega, by omega⟩]
  obtain ⟨⟨⟨a, ea, sa⟩, -⟩, -⟩ := hl.2 i (by omega) (by omega)
  have k7 := ShC_7 sa
  rw [ea, if_neg (by simp)]
  refine ⟨a, rfl, k7, ?_⟩
  by_cases cu : zO z a 3 = none
  · rw [if_pos cu, tst_k (by omega) (by omega)]
    by_cases cb : bitL X i.toNat = true
    · rw [if_pos cb, if_neg (by decide)]
      have Wi := A.1 i (by omega) (by omega)
      have im := H2 i.toNat (by omega) cb
      refine o_looked sa (ShW_v Wi (by omega)) (fun Y hY => next (lOr X Y) (fun v v1 w => by rw [bit_or, w]; rfl) (fun v v1 w => ?_) (fun v v1 v2 w u q q1 lq => ?_) (fun T t1 t2 v v1 w => ?_))
      · rw [bit_or, Bool.or_eq_true] at w
        rcases w with w | w
        · exact H2 v v1 w
        · have := lk_lt Wi ((lk_eq Wi (by omega)).mp ((hY v v1).mp w))
          omega
      · rw [bit_or, Bool.or_eq_true]
        by_cases cv : (v : Int) = i
        · right
          rw [cv] at lq
          exact (hY q q1).mpr ((lk_eq Wi (by omega)).mpr lq)
        · left
          rw [bit_or, Bool.or_eq_true] at w
          rcases w with w | w
          · exact H3 v v1 (by omega) w u q q1 lq
          · have := lk_lt Wi ((lk_eq Wi (by omega)).mp ((hY v v1).mp w))
            omega
      · rw [bit_or, Bool.or_eq_true] at w
        rcases w with w | w
        · exact H4 T t1 t2 v v1 w
        · refine t2 i.toNat (by omega) (H4 T t1 t2 i.toNat (by omega) cb) ?_ v v1 ?_
          · rw [Int.toNat_of_nonneg (by omega)]
            intro a' e'
            rw [ea] at e'
            injection e' with e'
            rw [← e']; exact cu
          · rw [Int.toNat_of_nonneg (by omega)]
            exact (lk_eq Wi (by omega)).mp ((hY v v1).mp w)
    · rw [if_neg cb, if_pos rfl]
      exact keep (fun w _ => cb w)
  · rw [if_neg cu]
    exact keep (fun _ u => cu (u a ea))
end Re
