/-! ===== the reference reads chains of signs ===== -/
theorem i_isg {t : Tx} {u0 u : Mu} {d : Prop} {o nl a k lo hi : Int} {ps : List Prt} {lt : Int × Int} {P : Int → Prop} (R : PmR u0 u d o nl a ps lt) (T : TkM t u k) (hy : sgO t k ≠ 0 → lo ≤ sgO t k + 9 → sgO t k + 9 ≤ hi → P 1) (hn : ¬ (sgO t k ≠ 0 ∧ lo ≤ sgO t k + 9 ∧ sgO t k + 9 ≤ hi) → P 0) : F_X12_isSignOf lo hi u P := by
  obtain ⟨⟨k1, k2, k3⟩, kx⟩ := T
  unfold F_X12_isSignOf F_X12_isSignOf_32 F_X12_isSignOf_33
  rw [if_pos R.2.1.1, k2]
  by_cases c : sgO t k ≠ 0
  · rw [tk_9 c] at kx ⊢
    have k50 := (kx.2.2.2.2.2.2 rfl).2
    rw [if_pos rfl, k50]
    refine i_in ?_
    by_cases e : lo ≤ sgO t k + 9 ∧ sgO t k + 9 ≤ hi
    · rw [tb, if_pos e, if_neg (by decide)]; exact ⟨z1_1, hy c e.1 e.2⟩
    · rw [tb, if_neg e, if_pos rfl]; exact ⟨z1_0, hn (fun q => e q.2)⟩
  · rw [if_neg (fun e => c (tk_i.2.2.2.2.2.2.2.2.2 e))]
    exact ⟨z1_0, hn (fun q => c q.1)⟩
theorem i_isgF {u : Mu} {lo hi : Int} {P : Int → Prop} (h : 0 < mI u 0 41) (hp : P 0) : F_X12_isSignOf lo hi u P := by
  unfold F_X12_isSignOf F_X12_isSignOf_32 F_X12_isSignOf_33
  rw [if_neg (by omega)]
  exact ⟨z1_0, hp⟩
theorem i_prtF {u : Mu} {κ n : Int} {P : Int → Mu → Prop} (h : 0 < mI u 0 41) (hp : ∀ x, P x u) : F_X12_part κ n u P := by
  unfold F_X12_part
  rw [if_neg (by omega)]
  exact hp _
def bdy (lo hi : Int) (R : Mu → (Mu → Prop) → Prop) (ox : Mu → Int) (u : Mu) (P : Mu ⊕ Mu → Prop) : Prop := F_X12_isSignOf lo hi u (fun x => (if x = 0 then P (.inr u) else F_X12_next u (fun u1 => R u1 (fun u2 => F_X12_part (ox u) 2 u2 (fun _ u3 => P (.inl u3))))))
def lvlB (N m : Nat) : Mu → (Mu ⊕ Mu → Prop) → Prop := if m = 4 then bdy 19 21 (F_X12_readSign N) (fun u => mI u 0 50) else if m = 3 then bdy 17 18 (F_X12_readProduct N) (fun u => mI u 0 50) else bdy 16 16 (F_X12_readSum N) (fun _ => 16)
def tstB (N : Nat) (u : Mu) (P : Mu → Prop) : Prop := F_X12_isSignOf 10 15 u (fun x => (if x = 0 then P u else F_X12_next u (fun u21 => F_X12_readChain N u21 (fun u25 => F_X12_part (mI u 0 50) 2 u25 (fun _ u31 => P u31)))))
def chn (Nf : Nat → Nat) (l : Nat) : Nat → Mu → (Mu → Prop) → Prop
  | 0, u, P => P u
  | m + 1, u, P => if m + 1 < l then P u else if m = 0 then tstB (Nf 1) u P else lp (lvlB (Nf (m + 1)) (m + 1)) u (fun v => chn Nf l m v P)
def readL (l N : Nat) : Mu → (Mu → Prop) → Prop := if l = 1 then F_X12_readTest N else if l = 2 then F_X12_readChain N else if l = 3 then F_X12_readSum N else if l = 4 then F_X12_readProduct N else F_X12_readSign N
theorem readL_5 {N : Nat} : readL 5 N = F_X12_readSign N := by unfold readL; rw [if_neg (by decide), if_neg (by decide), if_neg (by decide), if_neg (by decide)]
theorem readL_4 {N : Nat} : readL 4 N = F_X12_readProduct N := by unfold readL; rw [if_neg (by decide), if_neg (by decide), if_neg (by decide), if_pos rfl]
theorem readL_3 {N : Nat} : readL 3 N = F_X12_readSum N := by unfold readL; rw [if_neg (by decide), if_neg (by decide), if_pos rfl]
theorem readL_2 {N : Nat} : readL 2 N = F_X12_readChain N := by unfold readL; rw [if_neg (by decide), if_pos rfl]
theorem readL_1 {N : Nat} : readL 1 N = F_X12_readTest N := by unfold readL; rw [if_pos rfl]
theorem rdL_4 {M : Nat} {u : Mu} {P : Mu → Prop} (h : F_X12_readSign M u (fun v => chn (fun b => M + (4 - b)) 4 4 v P)) : F_X12_readProduct (M + 1) u P := h
theorem rdL_3 {M : Nat} {u : Mu} {P : Mu → Prop} (h : F_X12_readSign M u (fun v => chn (fun b => M + (4 - b)) 3 4 v P)) : F_X12_readSum (M + 2) u P := h
theorem rdL_2 {M : Nat} {u : Mu} {P : Mu → Prop} (h : F_X12_readSign M u (fun v => chn (fun b => M + (4 - b)) 2 4 v P)) : F_X12_readChain (M + 3) u P := h
theorem rdL_1 {M : Nat} {u : Mu} {P : Mu → Prop} (h : F_X12_readSign M u (fun v => chn (fun b => M + (4 - b)) 1 4 v P)) : F_X12_readTest (M + 4) u P := h
theorem lvl_4 {N m : Nat} {u : Mu} {Q : Mu ⊕ Mu → Prop} (e : m = 4) (h : bdy 19 21 (F_X12_readSign N) (fun u => mI u 0 50) u Q) : lvlB N m u Q := by unfold lvlB; rw [if_pos e]; exact h
theorem lvl_3 {N m : Nat} {u : Mu} {Q : Mu ⊕ Mu → Prop} (e : m = 3) (h : bdy 17 18 (F_X12_readProduct N) (fun u => mI u 0 50) u Q) : lvlB N m u Q := by unfold lvlB; rw [if_neg (by omega), if_pos e]; exact h
theorem lvl_2 {N m : Nat} {u : Mu} {Q : Mu ⊕ Mu → Prop} (e : m = 2) (h : bdy 16 16 (F_X12_readSum N) (fun _ => 16) u Q) : lvlB N m u Q := by unfold lvlB; rw [if_neg (by omega), if_neg (by omega)]; exact h
/-- the range of a loop's signs -/
def rgS (m : Nat) (x : Int) : Prop := bnd x = (m : Int)
theorem lvl_r {m : Nat} {x : Int} (hm : 2 ≤ m) (h4 : m ≤ 4) (hx : 1 ≤ x ∧ x ≤ 12) (h : bnd x = (m : Int)) : (m = 4 → 19 ≤ x + 9 ∧ x + 9 ≤ 21) ∧ (m = 3 → 17 ≤ x + 9 ∧ x + 9 ≤ 18) ∧ (m = 2 → x = 7) := by
  unfold bnd at h
  revert h
  repeat' split
  all_goals omega
theorem lvl_n {m : Nat} {x : Int} (hm : 2 ≤ m) (h4 : m ≤ 4) (hx : 1 ≤ x ∧ x ≤ 12) (h : bnd x ≠ (m : Int)) : (m = 4 → ¬ (19 ≤ x + 9 ∧ x + 9 ≤ 21)) ∧ (m = 3 → ¬ (17 ≤ x + 9 ∧ x + 9 ≤ 18)) ∧ (m = 2 → ¬ (16 ≤ x + 9 ∧ x + 9 ≤ 16)) := by
  unfold bnd at h
  revert h
  repeat' split
  all_goals omega
theorem bnd_b {x : Int} (hx : 1 ≤ x ∧ x ≤ 12) : 1 ≤ bnd x ∧ bnd x ≤ 4 ∧ (bnd x = 1 ↔ x ≤ 6) := by
  unfold bnd
  repeat' split
  all_goals omega
theorem sg_r {t : Tx} {k : Int} (h : sgO t k ≠ 0) : 1 ≤ sgO t k ∧ sgO t k ≤ 12 := by
  have := sgO_b t k
  omega
theorem lvl_F {N m : Nat} {u : Mu} {Q : Mu ⊕ Mu → Prop} (h : 0 < mI u 0 41) (hq : Q (.inr u)) : lvlB N m u Q := by
  unfold lvlB
  split
  · exact i_isgF h (by rw [if_pos rfl]; exact hq)
  · split
    · exact i_isgF h (by rw [if_pos rfl]; exact hq)
    · exact i_isgF h (by rw [if_pos rfl]; exact hq)
theorem lvl_X {t : Tx} {u0 u : Mu} {d : Prop} {o nl a k : Int} {ps : List Prt} {lt : Int × Int} {N m : Nat} {Q : Mu ⊕ Mu → Prop} (R : PmR u0 u d o nl a ps lt) (T : TkM t u k) (hm : 2 ≤ m) (h4 : m ≤ 4) (hs : sgO t k = 0 ∨ bnd (sgO t k) ≠ (m : Int)) (hq : Q (.inr u)) : lvlB N m u Q := by
  have key : ∀ lo hi : Int, (sgO t k ≠ 0 → ¬ (lo ≤ sgO t k + 9 ∧ sgO t k + 9 ≤ hi)) → ∀ (R2 : Mu → (Mu → Prop) → Prop) ox, bdy lo hi R2 ox u Q := by
    intro lo hi hh R2 ox
    unfold bdy
    refine i_isg R T (fun a b c => absurd ⟨b, c⟩ (hh a)) (fun _ => ?_)
    rw [if_pos rfl]; exact hq
  have nn : sgO t k ≠ 0 → bnd (sgO t k) ≠ (m : Int) := fun h => hs.resolve_left h
  unfold lvlB
  split
  · next e => exact key 19 21 (fun h => (lvl_n hm h4 (sg_r h) (nn h)).1 e) _ _
  · split
    · next e => exact key 17 18 (fun h => (lvl_n hm h4 (sg_r h) (nn h)).2.1 e) _ _
    · exact key 16 16 (fun h => (lvl_n hm h4 (sg_r h) (nn h)).2.2 (by omega)) _ _
theorem tst_X {t : Tx} {u0 u : Mu} {d : Prop} {o nl a k : Int} {ps : List Prt} {lt : Int × Int} {N : Nat} {Q : Mu → Prop} (R : PmR u0 u d o nl a ps lt) (T : TkM t u k) (hs : sgO t k = 0 ∨ bnd (sgO t k) ≠ 1) (hq : Q u) : tstB N u Q := by
  unfold tstB
  refine i_isg R T (fun a b c => ?_) (fun _ => by rw [if_pos rfl]; exact hq)
  have r := sg_r a
  have := (bnd_b r).2.2
  rcases hs with h | h
  · exact absurd h a
  · exact absurd (this.mpr (by omega)) h
theorem chn_F {Nf : Nat → Nat} {l : Nat} {u : Mu} {P : Mu → Prop} (h : 0 < mI u 0 41) (hp : P u) : ∀ m, chn Nf l m u P
  | 0 => hp
  | m + 1 => by
    rw [chn]
    split
    · exact hp
    · split
      · unfold tstB
        exact i_isgF h (by rw [if_pos rfl]; exact hp)
      · exact ⟨1, lvl_F h (chn_F h hp m)⟩
theorem chn_X {t : Tx} {u0 u : Mu} {d : Prop} {o nl a k : Int} {ps : List Prt} {lt : Int × Int} {Nf : Nat → Nat} {l : Nat} {P : Mu → Prop} (R : PmR u0 u d o nl a ps lt) (T : TkM t u k) (hs : sgO t k = 0 ∨ bnd (sgO t k) < (l : Int)) (hp : P u) : ∀ m, m ≤ 4 → chn Nf l m u P
  | 0, _ => hp
  | m + 1, h4 => by
    rw [chn]
    split
    · exact hp
    · next c1 =>
      split
      · next c2 => exact tst_X R T (hs.imp id (fun h => by omega)) hp
      · next c2 => exact ⟨1, lvl_X R T (by omega) h4 (hs.imp id (fun h => by omega)) (chn_X R T hs hp m (by omega))⟩
theorem lo_end {t : Tx} {S : SS} : ∀ (n : Nat) (l o : Int) (st s : PS), 2 ≤ l → (pg t S n).2.2.1 l o false st = .inr s → sgO t s.1 = 0 ∨ bnd (sgO t s.1) < l
  | 0, _, _, _, _, _, e => by cases e
  | n + 1, l, o, st, s, hl, e => by
    replace e : bLo t (pg t S n) l o false st = .inr s := e
    unfold bLo at e
    split at e
    · next c =>
      cases e
      rcases c with c | c | c
      · exact Or.inl c
      · exact Or.inr c
      · exact absurd c.1 (by decide)
    · next c =>
      obtain ⟨s1, e1, e2⟩ := rb_i e
      have hb : decide (bnd (sgO t st.1) = 1) = false := decide_eq_false (by omega)
      rw [hb] at e2
      exact lo_end n l o _ s hl e2
theorem ex_end {t : Tx} {S : SS} {n : Nat} {l o : Int} {st s : PS} (hl : 2 ≤ l) (e : (pg t S n).1 l o st = .inr s) : sgO t s.1 = 0 ∨ bnd (sgO t s.1) < l := by
  cases n with
  | zero => cases e
  | succ n =>
    replace e : bEx (pg t S n) l o st = .inr s := e
    unfold bEx at e
    obtain ⟨s1, e1, e2⟩ := rb_i e
    exact lo_end n l o s1 s hl e2
def gdP (r : PR) : Prop := ∀ e, r = .inl e → 0 < e.1
theorem gd_rb {r : PR} {k : PS → PR} (h : gdP (rb r k)) : gdP r := by
  intro e he
  rw [he] at h
  exact h e rfl
theorem gd_rk {r : PR} {k : PS → PR} {s : PS} (h : gdP (rb r k)) (e : r = .inr s) : gdP (k s) := by
  rw [e] at h
  exact h
def RowE (t : Tx) (S : SS) (u0 : Mu) (n : Nat) : Prop := ∀ (l : Nat), 1 ≤ l → l ≤ 5 → ∀ (d : Prop) (o : Int) (st : PS) (N : Nat), (0 ≤ o ∧ o ≤ 20) → 10 * (20 - o) + (9 - (l : Int)) ≤ (N : Int) → gdP ((pg t S n).1 (l : Int) o st) → ∀ u P, PrP t u0 u d o st → (∀ v, PoR t u0 d o ((pg t S n).1 (l : Int) o st) v → P v) → readL l N u P
def RowS (t : Tx) (S : SS) (u0 : Mu) (n : Nat) : Prop := ∀ (d : Prop) (o : Int) (st : PS) (N : Nat), (0 ≤ o ∧ o ≤ 20) → 10 * (20 - o) + 4 ≤ (N : Int) → gdP ((pg t S n).2.1 o st) → ∀ u P, PrP t u0 u d o st → (∀ v, PoR t u0 d o ((pg t S n).2.1 o st) v → P v) → F_X12_readSign N u P
def RowL (t : Tx) (S : SS) (u0 : Mu) (n : Nat) : Prop := ∀ (l m : Nat), 1 ≤ l → l ≤ m → m ≤ 4 → ∀ (d : Prop) (o : Int) (st : PS) (ps0 : List Prt) (Nf : Nat → Nat), (0 ≤ o ∧ o ≤ 20) → (∀ b : Nat, 1 ≤ b → b ≤ 4 → 10 * (20 - o) + (8 - (b : Int)) ≤ (Nf b : Int)) → Seg ps0 st.2.1 → lastO st.2.1 ≠ 17 → (sgO t st.1 = 0 ∨ bnd (sgO t st.1) ≤ (m : Int)) → gdP ((pg t S n).2.2.1 (l : Int) o false st) → ∀ u P, PrP t u0 u d o st → (∀ v, PoR t u0 d o ((pg t S n).2.2.1 (l : Int) o false st) v → P v) → (m = 1 → tstB (Nf 1) u P) ∧ (2 ≤ m → ∀ cnt, (t.2.1 - st.1).toNat + 2 ≤ cnt → itr (lvlB (Nf m) m) (fun v => chn Nf l (m - 1) v P) cnt u)
theorem RowL_c {t : Tx} {u : Mu} {P : Mu → Prop} {Nf : Nat → Nat} {l m : Nat} {k : Int} (h1 : 1 ≤ l) (h : l ≤ m) (q : (m = 1 → tstB (Nf 1) u P) ∧ (2 ≤ m → ∀ cnt, (t.2.1 - k).toNat + 2 ≤ cnt → itr (lvlB (Nf m) m) (fun v => chn Nf l (m - 1) v P) cnt u)) : chn Nf l m u P := by
  cases m with
  | zero => omega
  | succ m =>
    rw [chn, if_neg (by omega)]
    split
    · next c => exact q.1 (by omega)
    · next c => exact ⟨_, q.2 (by omega) _ (Nat.le_refl _)⟩
theorem kM_2 {op : Int} (h : 1 ≤ op ∧ op ≤ 12) : op + 9 = kM (opP op ((2 : Nat) : Int)) := by
  unfold kM
  show op + 9 = if op = 14 then 0 else if op = 15 then 4 else if op = 16 then 5 else if op = 17 then 6 else if op = 13 then 7 else if op ≤ 12 then op + 9 else op + 12
  rw [if_neg (by omega), if_neg (by omega), if_neg (by omega), if_neg (by omega), if_neg (by omega), if_pos (by omega)]
/-- a sign of two behind its second side -/
theorem i_two {t : Tx} {S : SS} {u0 u : Mu} {d : Prop} {o op κ : Int} {s1 : PS} {ps0 ps1 : List Prt} {P : Int → Mu → Prop} (E : EnP t S u0) (R : PmR u0 u d o 0 s1.1 s1.2.1 s1.2.2) (T : TkM t u s1.1) (g0 : Seg ps0 ps1) (g : Seg ps1 s1.2.1) (hl : s1.2.1.length ≤ 400) (hop : 1 ≤ op ∧ op ≤ 12) (hk : κ = op + 9) (h : ∀ v, PmR u0 v d o 0 s1.1 (s1.2.1 ++ [opP op 2]) s1.2.2 → TkM t v s1.1 → ∀ x, P x v) : F_X12_part κ 2 u P := by
  have sg2 := Seg_2 (p := opP op 2) g0 g rfl (by show ¬ (14 ≤ op ∧ op ≤ 17); omega)
  obtain ⟨rs, e1, e2, e3, e4⟩ := sg2
  have b := (e4 s1.2.1.length (by rw [List.length_append, List.length_singleton]; omega)).1
  refine i_op (op := op) (n := 2) E.2.1 R hl (by omega) (fun z => by have := (Seg_p g).1; omega) ⟨⟨by omega, by omega⟩, by omega⟩ (by rw [hk]; exact kM_2 hop) ?_ (fun _ _ => Or.inl (by unfold isRC; omega)) (fun v Rv A N => h v Rv (TkM_a A T) _)
  unfold spE
  rw [List.length_append, List.length_singleton, Nat.add_sub_cancel]
  exact b
theorem PrP_to {t : Tx} {S : SS} {u0 v : Mu} {d : Prop} {o : Int} {ps0 : List Prt} {st s : PS} (h : PoS t S.2.1.1 ps0 st s) (h0 : 0 ≤ s.1) (hl : (st.2.1.length : Int) ≤ st.1) (R : PmR u0 v d o 0 s.1 s.2.1 s.2.2) (T : TkM t v s.1) : PrP t u0 v d o s := ⟨R, T, ⟨⟨h0, h.2.1.1⟩, (Seg_p h.1.1).2.1⟩, by have := h.2.2.1; omega⟩
theorem i_skp {t : Tx} {S : SS} {u0 u : Mu} {d : Prop} {o : Int} {st : PS} {e : Int} {P : Mu → Prop} (E : EnP t S u0) (R : PrP t u0 u d o st) (h49 : mI u 0 49 = e) (e0 : st.1 ≤ e) (e1 : e ≤ t.2.1) (h : ∀ v, PrP t u0 v d o (skp t e, st.2) → P v) : F_X12_next u P := by
  have h0 := R.2.2.1.1.1
  have kb := skp_b (t := t) (k := e) (by omega) e1
  refine i_nx E R.1 (R.2.1.1.1.trans h49) (by omega) e1 e0 (fun v Rv Tv => h v ⟨Rv, Tv, ⟨⟨by show 0 ≤ skp t e; omega, kb.2.1⟩, R.2.2.1.2⟩, ?_⟩)
  have := R.2.2.2
  show (st.2.1.length : Int) ≤ skp t e
  omega
theorem RowL_s {t : Tx} {S : SS} {u0 : Mu} {n : Nat} (E : EnP t S u0) (G : PgO t S (pg t S n)) (HE : RowE t S u0 n) (HL : RowL t S u0 n) : RowL t S u0 (n + 1) := by
  intro l m l1
  induction m with
  | zero => intro lm; omega
  | succ m ih =>
    intro lm m4 d o st ps0 Nf ho hN sg l17 hs gd u P R h
    have b3 := E.1.2.1
    obtain ⟨R1, R2, R3, R4⟩ := id R
    have er : (pg t S (n + 1)).2.2.1 (l : Int) o false st = bLo t (pg t S n) l o false st := rfl
    rw [er] at gd h
    unfold bLo at gd h
    by_cases c : sgO t st.1 = 0 ∨ bnd (sgO t st.1) < (l : Int)
    · have cc : sgO t st.1 = 0 ∨ bnd (sgO t st.1) < (l : Int) ∨ (false = true ∧ bnd (sgO t st.1) = 1) := c.imp id Or.inl
      rw [if_pos cc] at h
      have hp : P u := h u ⟨R1, R2⟩
      refine ⟨fun _ => tst_X R1 R2 (c.imp id (fun h => by omega)) hp, fun m2 cnt hc => ?_⟩
      cases cnt with
      | zero => omega
      | succ cnt => exact lvl_X R1 R2 m2 m4 (c.imp id (fun h => by omega)) (chn_X R1 R2 c hp _ (by omega))
    · have s0 : sgO t st.1 ≠ 0 := fun e => c (Or.inl e)
      have bl : ¬ bnd (sgO t st.1) < (l : Int) := fun e => c (Or.inr e)
      have sr := sg_r s0
      have bb := bnd_b sr
      have sn := sgO_n s0
      have cc : ¬ (sgO t st.1 = 0 ∨ bnd (sgO t st.1) < (l : Int) ∨ (false = true ∧ bnd (sgO t st.1) = 1)) := by
        rintro (e | e | e)
        · exact s0 e
        · exact bl e
        · exact absurd e.1 (by decide)
      rw [if_neg cc] at gd h
      have hbm : bnd (sgO t st.1) ≤ ((m + 1 : Nat) : Int) := hs.resolve_left s0
      by_cases bm : bnd (sgO t st.1) = ((m + 1 : Nat) : Int)
      · have k49 : mI u 0 49 = st.1 + sgN (sgO t st.1) ∧ mI u 0 50 = sgO t st.1 + 9 := by
          have kx := R2.2
          rw [tk_9 s0] at kx
          exact kx.2.2.2.2.2.2 rfl
        have kb := skp_b (t := t) (k := st.1 + sgN (sgO t st.1)) (by omega) sn.2.1
        rw [bm] at gd h
        rw [show ((m + 1 : Nat) : Int) + 1 = ((m + 1 + 1 : Nat) : Int) by omega] at gd h
        generalize hr1 : (pg t S n).1 ((m + 1 + 1 : Nat) : Int) o (skp t (st.1 + sgN (sgO t st.1)), st.2) = r1 at gd h
        have gd1 : gdP ((pg t S n).1 ((m + 1 + 1 : Nat) : Int) o (skp t (st.1 + sgN (sgO t st.1)), st.2)) := by rw [hr1]; exact gd_rb gd
        have sp := Seg_p sg
        have row : ∀ (N : Nat) (Q : Mu → Prop), 10 * (20 - o) + (9 - ((m + 1 + 1 : Nat) : Int)) ≤ (N : Int) → (∀ v, PoR t u0 d o r1 v → Q v) → F_X12_next u (fun u1 => readL (m + 1 + 1) N u1 Q) := by
          intro N Q hNN hQ
          refine i_skp E R k49.1 (by omega) sn.2.1 (fun v Rv => ?_)
          exact HE (m + 1 + 1) (by omega) (by omega) d o _ N ho hNN gd1 v Q Rv (fun v hv => hQ v (by rw [hr1] at hv; exact hv))
        have pos : ∀ s1, r1 = .inr s1 → PoS t S.2.1.1 st.2.1 (skp t (st.1 + sgN (sgO t st.1)), st.2) s1 ∧ skp t (st.1 + sgN (sgO t st.1)) < s1.1 := by
          intro s1 e
          rw [e] at hr1
          exact G.1 _ _ (skp t (st.1 + sgN (sgO t st.1)), st.2) s1 ⟨⟨by show 0 ≤ skp t _; omega, kb.2.1⟩, sp.2.1⟩ hr1
        refine ⟨fun m1 => ?_, fun m2 cnt hc => ?_⟩
        · have m0 : m = 0 := by omega
          subst m0
          have le : l = 1 := by omega
          subst le
          unfold tstB
          refine i_isg R1 R2 (fun _ _ _ => ?_) (fun q => absurd ⟨s0, by omega, by omega⟩ q)
          rw [if_neg (by decide)]
          rw [← readL_2]
          refine row (Nf 1) _ (by have := hN 1 (by omega) (by omega); omega) (fun v hv => ?_)
          cases r1 with
          | inl e =>
            have fv : 0 < mI v 0 41 := by have := hv.2.1; omega
            exact i_prtF fv (fun _ => h v hv)
          | inr s1 =>
            obtain ⟨q1, q2⟩ := pos s1 rfl
            have ee := ex_end (by decide) hr1
            have c1 := q1.2.2.1
            simp only at c1
            have q21 := q1.2.1.1
            rw [k49.2]
            refine i_two E hv.1 hv.2 sg q1.1.1 (by omega) sr rfl (fun x Rx Tx _ => h x ?_)
            cases n with
            | zero => cases hr1
            | succ n' =>
              show PoR t u0 d o (bLo t (pg t S n') _ o _ (addP (opP (sgO t st.1) 2) s1.1 s1)) x
              unfold bLo
              rw [if_pos ?_]
              · exact ⟨Rx, Tx⟩
              · show sgO t s1.1 = 0 ∨ bnd (sgO t s1.1) < _ ∨ _
                by_cases z : sgO t s1.1 = 0
                · exact Or.inl z
                · have eb := ee.resolve_left z
                  have := bnd_b (sg_r z)
                  refine Or.inr (Or.inr ⟨?_, (by omega : bnd (sgO t s1.1) = 1)⟩)
                  show (false || decide (((0 + 1 : Nat) : Int) = 1)) = true
                  decide
        · cases cnt with
          | zero => omega
          | succ cnt =>
            have lr := lvl_r m2 m4 sr bm
            have go : ∀ (Q : Mu ⊕ Mu → Prop), (∀ s', itr (lvlB (Nf (m + 1)) (m + 1)) (fun v => chn Nf l (m + 1 - 1) v P) cnt s' → Q (.inl s')) → ∀ lo hi : Int, (lo ≤ sgO t st.1 + 9 ∧ sgO t st.1 + 9 ≤ hi) → ∀ (RR : Mu → (Mu → Prop) → Prop) (ox : Mu → Int), RR = readL (m + 1 + 1) (Nf (m + 1)) → ox u = sgO t st.1 + 9 → bdy lo hi RR ox u Q := by
              intro Q hQ lo hi hlh RR ox hRR hox
              unfold bdy
              refine i_isg R1 R2 (fun _ _ _ => ?_) (fun q => absurd ⟨s0, hlh⟩ q)
              rw [if_neg (by decide), hRR, hox]
              refine row (Nf (m + 1)) _ (by have := hN (m + 1) (by omega) (by omega); omega) (fun v hv => ?_)
              cases r1 with
              | inl e =>
                have fv : 0 < mI v 0 41 := by have := hv.2.1; omega
                refine i_prtF fv (fun _ => hQ _ ?_)
                cases cnt with
                | zero => omega
                | succ cnt => exact lvl_F fv (chn_F fv (h v hv) _)
              | inr s1 =>
                obtain ⟨q1, q2⟩ := pos s1 rfl
                have ee := ex_end (by omega) hr1
                have c1 := q1.2.2.1
                simp only at c1
                have q21 := q1.2.1.1
                refine i_two E hv.1 hv.2 sg q1.1.1 (by omega) sr rfl (fun x Rx Tx _ => ?_)
                have hb1 : decide (((m + 1 : Nat) : Int) = 1) = false := decide_eq_false (by omega)
                have gd2 := gd_rk gd rfl
                have h2 : ∀ v, PoR t u0 d o ((pg t S n).2.2.1 (l : Int) o (false || decide (((m + 1 : Nat) : Int) = 1)) (addP (opP (sgO t st.1) 2) s1.1 s1)) v → P v := h
                rw [hb1] at gd2 h2
                have sg2 := Seg_2 (p := opP (sgO t st.1) 2) sg q1.1.1 rfl (by show ¬ (14 ≤ sgO t st.1 ∧ _); omega)
                have pr : PrP t u0 x d o (addP (opP (sgO t st.1) 2) s1.1 s1) := by
                  refine ⟨Rx, Tx, ⟨⟨by show 0 ≤ s1.1; omega, q21⟩, (Seg_p sg2).2.1⟩, ?_⟩
                  show ((s1.2.1 ++ [_]).length : Int) ≤ s1.1
                  rw [List.length_append, List.length_singleton]
                  omega
                refine hQ _ ((HL l (m + 1) l1 lm m4 d o _ ps0 Nf ho hN sg2 ?_ ?_ gd2 x P pr h2).2 m2 cnt ?_)
                · show lastO (s1.2.1 ++ [_]) ≠ 17
                  rw [lastO_snoc]
                  show sgO t st.1 ≠ 17
                  omega
                · show sgO t s1.1 = 0 ∨ bnd (sgO t s1.1) ≤ _
                  exact ee.imp id (fun z => by omega)
                · show (t.2.1 - s1.1).toNat + 2 ≤ cnt
                  omega
            show lvlB (Nf (m + 1)) (m + 1) u _
            by_cases e4 : m + 1 = 4
            · exact lvl_4 e4 (go _ (fun _ hh => hh) 19 21 (lr.1 e4) _ _ (by rw [show m + 1 + 1 = 5 by omega]; exact readL_5.symm) k49.2)
            · by_cases e3 : m + 1 = 3
              · exact lvl_3 e3 (go _ (fun _ hh => hh) 17 18 (lr.2.1 e3) _ _ (by rw [show m + 1 + 1 = 4 by omega]; exact readL_4.symm) k49.2)
              · have e2 : m + 1 = 2 := by omega
                have x7 := lr.2.2 e2
                exact lvl_2 e2 (go _ (fun _ hh => hh) 16 16 (by omega) _ _ (by rw [show m + 1 + 1 = 3 by omega]; exact readL_3.symm) (by show (16 : Int) = _; omega))
      · have lm2 : l ≤ m := by omega
        have q := ih lm2 (by omega) d o st ps0 Nf ho hN sg l17 (Or.inr (by omega)) (by rw [er]; unfold bLo; rw [if_neg cc]; exact gd) u P R (by rw [er]; unfold bLo; rw [if_neg cc]; exact h)
        have hc := RowL_c (t := t) l1 lm2 q
        refine ⟨fun m1 => ?_, fun m2 cnt hcn => ?_⟩
        · omega
        · cases cnt with
          | zero => omega
          | succ cnt => exact lvl_X R1 R2 m2 m4 (Or.inr bm) hc
