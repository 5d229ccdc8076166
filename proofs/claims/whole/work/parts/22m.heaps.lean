/-! ===== the reference's fields and arrays as whole numbers ===== -/
/-- ints and longs by field (0: the object's own) and place -/
abbrev Mu : Type := (Nat → Int → Int) × (Nat → Int → Int)
def mI (u : Mu) (k : Nat) (i : Int) : Int := u.1 k i
def mG (u : Mu) (k : Nat) (i : Int) : Int := u.2 k i
def uI (u : Mu) (k : Nat) (i x : Int) : Mu := (fun k' i' => if k' = k ∧ i' = i then x else u.1 k' i', u.2)
def uG (u : Mu) (k : Nat) (i x : Int) : Mu := (u.1, fun k' i' => if k' = k ∧ i' = i then x else u.2 k' i')
theorem mI_uI (u : Mu) (k k' : Nat) (i i' x : Int) : mI (uI u k i x) k' i' = if k' = k ∧ i' = i then x else mI u k' i' := rfl
theorem mG_uI (u : Mu) (k k' : Nat) (i i' x : Int) : mG (uI u k i x) k' i' = mG u k' i' := rfl
theorem mI_uG (u : Mu) (k k' : Nat) (i i' x : Int) : mI (uG u k i x) k' i' = mI u k' i' := rfl
theorem mG_uG (u : Mu) (k k' : Nat) (i i' x : Int) : mG (uG u k i x) k' i' = if k' = k ∧ i' = i then x else mG u k' i' := rfl
def Wm (u : Mu) : Prop := (∀ k i, R32 (mI u k i)) ∧ (∀ k i, R64 (mG u k i)) ∧ (∀ k i, mkl.getD k 0 = 14 → B8 (mI u k i)) ∧ (∀ k i, mkl.getD k 0 = 17 → Z1 (mI u k i))
def Ms (h : Hp) (g : Nat → Nat) (u : Mu) : Prop := MW h g ∧ Wm u ∧ ∀ k i : Nat, (k = 0 ∨ mkl.getD k 0 ≠ 0) → hI h (g k) i = Int32.ofInt (mI u k i) ∧ hG h (g k) i = Int64.ofInt (mG u k i)
theorem Wm_uI {u : Mu} {k : Nat} {i x : Int} (w : Wm u) (rx : R32 x) (h1 : mkl.getD k 0 = 14 → B8 x) (h2 : mkl.getD k 0 = 17 → Z1 x) : Wm (uI u k i x) := by
  refine ⟨fun k' i' => ?_, w.2.1, fun k' i' h => ?_, fun k' i' h => ?_⟩
  · rw [mI_uI]; split
    · exact rx
    · exact w.1 k' i'
  · rw [mI_uI]; split
    · next c => exact h1 (by rw [← c.1]; exact h)
    · exact w.2.2.1 k' i' h
  · rw [mI_uI]; split
    · next c => exact h2 (by rw [← c.1]; exact h)
    · exact w.2.2.2 k' i' h
theorem Wm_uG {u : Mu} {k : Nat} {i x : Int} (w : Wm u) (rx : R64 x) : Wm (uG u k i x) := by
  refine ⟨w.1, fun k' i' => ?_, w.2.2.1, w.2.2.2⟩
  rw [mG_uG]; split
  · exact rx
  · exact w.2.1 k' i'
theorem mvalid {k : Nat} (hk : k = 0 ∨ mkl.getD k 0 ≠ 0) {h : Hp} {g : Nat → Nat} (m : MW h g) {k' : Nat} (hk' : k' = 0 ∨ mkl.getD k' 0 ≠ 0) : g k' = g k ↔ k' = k := ⟨fun e => m.2.2 k' k hk' hk e, fun e => by rw [e]⟩
theorem Ms_pI {h : Hp} {g : Nat → Nat} {u : Mu} {k n : Nat} {i x : Int} (m : Ms h g u) (hk : k = 0 ∨ mkl.getD k 0 ≠ 0) (hi : i = (n : Int)) (w : Wm (uI u k i x)) : Ms (pI h (g k) n (Int32.ofInt x)) g (uI u k i x) := by
  obtain ⟨m1, m2, m3⟩ := m
  refine ⟨m1, w, fun k' j hk' => ⟨?_, (m3 k' j hk').2⟩⟩
  rw [hI_pI, mI_uI, hi]
  by_cases c : k' = k ∧ j = n
  · rw [if_pos ⟨by rw [c.1], c.2⟩, if_pos ⟨c.1, by rw [c.2]⟩]
  · rw [if_neg (fun z => c ⟨(mvalid hk m1 hk').mp z.1, z.2⟩), if_neg (fun z => c ⟨z.1, by omega⟩)]
    exact (m3 k' j hk').1
theorem Ms_pG {h : Hp} {g : Nat → Nat} {u : Mu} {k n : Nat} {i x : Int} (m : Ms h g u) (hk : k = 0 ∨ mkl.getD k 0 ≠ 0) (hi : i = (n : Int)) (w : Wm (uG u k i x)) : Ms (pG h (g k) n (Int64.ofInt x)) g (uG u k i x) := by
  obtain ⟨m1, m2, m3⟩ := m
  refine ⟨m1, w, fun k' j hk' => ⟨(m3 k' j hk').1, ?_⟩⟩
  rw [hG_pG, mG_uG, hi]
  by_cases c : k' = k ∧ j = n
  · rw [if_pos ⟨by rw [c.1], c.2⟩, if_pos ⟨c.1, by rw [c.2]⟩]
  · rw [if_neg (fun z => c ⟨(mvalid hk m1 hk').mp z.1, z.2⟩), if_neg (fun z => c ⟨z.1, by omega⟩)]
    exact (m3 k' j hk').2
theorem mnl_b : ∀ k, mnl.getD k 0 < 2 ^ 31 := by
  intro k
  by_cases h : k < mnl.length
  · exact List.all_eq_true.mp (show (List.range mnl.length).all (fun k => decide (mnl.getD k 0 < 2 ^ 31)) = true by decide +kernel) k (List.mem_range.mpr h) |> of_decide_eq_true
  · rw [List.getD_eq_getElem?_getD, List.getElem?_eq_none (by omega)]; decide
section JM2
variable {Y : MI} {d mc ms : Nat} {post : Option Sv ⊕ String → Hp → Prop} {pc : Nat} {lv : List (Option Sv)} {st : List Sv} {h : Hp} {g : Nat → Nat} {u : Mu}
theorem jm_getI {ix k : Nat} {kz : Int} {fin : Bool} (hd : decode Y.2.1 pc = .ok (.getfield ix, 3)) (hF : FL Y.1.cls ix 12 k fin) (ht : ity (fty 12 k) = 0) (hz : kz = (k : Int)) (m : Ms h g u) (kk : J Y d mc ms post (pc + 3) lv (ii (mI u 0 kz) :: st) h) : J Y d mc ms post pc lv (vr (some (g 0)) :: st) h := j_getI hd hF ht m.1.1 (by rw [(m.2.2 0 k (Or.inl rfl)).1, ← hz]; exact kk)
theorem jm_getG {ix k : Nat} {kz : Int} {fin : Bool} (hd : decode Y.2.1 pc = .ok (.getfield ix, 3)) (hF : FL Y.1.cls ix 12 k fin) (ht : ity (fty 12 k) = 1) (hz : kz = (k : Int)) (m : Ms h g u) (kk : J Y d mc ms post (pc + 3) lv (ll (mG u 0 kz) :: st) h) : J Y d mc ms post pc lv (vr (some (g 0)) :: st) h := j_getG hd hF ht m.1.1 (by rw [(m.2.2 0 k (Or.inl rfl)).2, ← hz]; exact kk)
theorem jm_getA {ix k c : Nat} {fin : Bool} (hd : decode Y.2.1 pc = .ok (.getfield ix, 3)) (hF : FL Y.1.cls ix 12 k fin) (ht : ity (fty 12 k) = 2) (hk : mkl.getD k 0 = c + 1) (m : Ms h g u) (kk : J Y d mc ms post (pc + 3) lv (vr (some (g k)) :: st) h) : J Y d mc ms post pc lv (vr (some (g 0)) :: st) h := j_getR hd hF ht m.1.1 (mO m.1 hk) kk
theorem jm_putI {ix k : Nat} {x kz : Int} (hd : decode Y.2.1 pc = .ok (.putfield ix, 3)) (hF : FL Y.1.cls ix 12 k false) (ht : ity (fty 12 k) = 0) (hn : narrow (fty 12 k) (.int (Int32.ofInt x)) = .int (Int32.ofInt x)) (hf : fits (fty 12 k) (.int (Int32.ofInt x)) = true) (hz : kz = (k : Int)) (m : Ms h g u) (rx : R32 x) (kk : ∀ h', Ms h' g (uI u 0 kz x) → J Y d mc ms post (pc + 3) lv st h') : J Y d mc ms post pc lv (ii x :: vr (some (g 0)) :: st) h := j_putI hd hF ht hn hf m.1.1 (kk _ (Ms_pI m (Or.inl rfl) hz (Wm_uI m.2.1 rx (fun z => by cases z) (fun z => by cases z))))
theorem jm_putG {ix k : Nat} {x kz : Int} (hd : decode Y.2.1 pc = .ok (.putfield ix, 3)) (hF : FL Y.1.cls ix 12 k false) (ht : ity (fty 12 k) = 1) (hn : narrow (fty 12 k) (.long (Int64.ofInt x)) = .long (Int64.ofInt x)) (hf : fits (fty 12 k) (.long (Int64.ofInt x)) = true) (hz : kz = (k : Int)) (m : Ms h g u) (rx : R64 x) (kk : ∀ h', Ms h' g (uG u 0 kz x) → J Y d mc ms post (pc + 3) lv st h') : J Y d mc ms post pc lv (ll x :: vr (some (g 0)) :: st) h := j_putG hd hF ht hn hf m.1.1 (kk _ (Ms_pG m (Or.inl rfl) hz (Wm_uG m.2.1 rx)))
theorem jm_iald {k : Nat} {i N : Int} (hd : decode Y.2.1 pc = .ok (.iaload, 1)) (hk : mkl.getD k 0 = 15) (hNN : ((mnl.getD k 0 : Nat) : Int) = N) (m : Ms h g u) (h0 : 0 ≤ i) (h1 : i < N) (kk : J Y d mc ms post (pc + 1) lv (ii (mI u k i) :: st) h) : J Y d mc ms post pc lv (ii i :: vr (some (g k)) :: st) h := by
  have e1 : hN h (g k) = mnl.getD k 0 := mN m.1 hk rfl
  have b := mnl_b k
  refine j_iald i.toNat hd (mK m.1 hk) (i3_nI h0) (by omega) (by omega) ?_
  rw [(m.2.2 k i.toNat (Or.inr (by rw [hk]; decide))).1, Int.toNat_of_nonneg h0]
  exact kk
theorem jm_bald {k : Nat} {i N : Int} (hd : decode Y.2.1 pc = .ok (.baload, 1)) (hk : mkl.getD k 0 = 14) (hNN : ((mnl.getD k 0 : Nat) : Int) = N) (m : Ms h g u) (h0 : 0 ≤ i) (h1 : i < N) (kk : J Y d mc ms post (pc + 1) lv (ii (mI u k i) :: st) h) : J Y d mc ms post pc lv (ii i :: vr (some (g k)) :: st) h := by
  have e1 : hN h (g k) = mnl.getD k 0 := mN m.1 hk rfl
  have b := mnl_b k
  refine j_bald i.toNat hd (mK m.1 hk) (i3_nI h0) (by omega) (by omega) ?_
  rw [(m.2.2 k i.toNat (Or.inr (by rw [hk]; decide))).1, Int.toNat_of_nonneg h0]
  exact kk
theorem jm_zald {k : Nat} {i N : Int} (hd : decode Y.2.1 pc = .ok (.baload, 1)) (hk : mkl.getD k 0 = 17) (hNN : ((mnl.getD k 0 : Nat) : Int) = N) (m : Ms h g u) (h0 : 0 ≤ i) (h1 : i < N) (kk : J Y d mc ms post (pc + 1) lv (ii (mI u k i) :: st) h) : J Y d mc ms post pc lv (ii i :: vr (some (g k)) :: st) h := by
  have e1 : hN h (g k) = mnl.getD k 0 := mN m.1 hk rfl
  have b := mnl_b k
  refine j_zald i.toNat hd (mK m.1 hk) (i3_nI h0) (by omega) (by omega) ?_
  rw [(m.2.2 k i.toNat (Or.inr (by rw [hk]; decide))).1, Int.toNat_of_nonneg h0]
  exact kk
theorem jm_lald {k : Nat} {i N : Int} (hd : decode Y.2.1 pc = .ok (.laload, 1)) (hk : mkl.getD k 0 = 16) (hNN : ((mnl.getD k 0 : Nat) : Int) = N) (m : Ms h g u) (h0 : 0 ≤ i) (h1 : i < N) (kk : J Y d mc ms post (pc + 1) lv (ll (mG u k i) :: st) h) : J Y d mc ms post pc lv (ii i :: vr (some (g k)) :: st) h := by
  have e1 : hN h (g k) = mnl.getD k 0 := mN m.1 hk rfl
  have b := mnl_b k
  refine j_lald i.toNat hd (mK m.1 hk) (i3_nI h0) (by omega) (by omega) ?_
  rw [(m.2.2 k i.toNat (Or.inr (by rw [hk]; decide))).2, Int.toNat_of_nonneg h0]
  exact kk
theorem jm_iast {k : Nat} {i x N : Int} (hd : decode Y.2.1 pc = .ok (.iastore, 1)) (hk : mkl.getD k 0 = 15) (hNN : ((mnl.getD k 0 : Nat) : Int) = N) (m : Ms h g u) (h0 : 0 ≤ i) (h1 : i < N) (rx : R32 x) (kk : ∀ h', Ms h' g (uI u k i x) → J Y d mc ms post (pc + 1) lv st h') : J Y d mc ms post pc lv (ii x :: ii i :: vr (some (g k)) :: st) h := by
  have e1 : hN h (g k) = mnl.getD k 0 := mN m.1 hk rfl
  have b := mnl_b k
  exact j_iast i.toNat hd (mK m.1 hk) (i3_nI h0) (by omega) (by omega) (kk _ (Ms_pI m (Or.inr (by rw [hk]; decide)) (Int.toNat_of_nonneg h0).symm (Wm_uI m.2.1 rx (fun z => by rw [hk] at z; cases z) (fun z => by rw [hk] at z; cases z))))
theorem jm_bast {k : Nat} {i x N : Int} (hd : decode Y.2.1 pc = .ok (.bastore, 1)) (hk : mkl.getD k 0 = 14) (hNN : ((mnl.getD k 0 : Nat) : Int) = N) (m : Ms h g u) (h0 : 0 ≤ i) (h1 : i < N) (bx : B8 x) (kk : ∀ h', Ms h' g (uI u k i x) → J Y d mc ms post (pc + 1) lv st h') : J Y d mc ms post pc lv (ii x :: ii i :: vr (some (g k)) :: st) h := by
  have e1 : hN h (g k) = mnl.getD k 0 := mN m.1 hk rfl
  have b := mnl_b k
  exact j_bast i.toNat hd (mK m.1 hk) (i3_nI h0) (by omega) (by omega) (vpb bx) (kk _ (Ms_pI m (Or.inr (by rw [hk]; decide)) (Int.toNat_of_nonneg h0).symm (Wm_uI m.2.1 (r32_b bx) (fun _ => bx) (fun z => by rw [hk] at z; cases z))))
theorem jm_zast {k : Nat} {i x N : Int} (hd : decode Y.2.1 pc = .ok (.bastore, 1)) (hk : mkl.getD k 0 = 17) (hNN : ((mnl.getD k 0 : Nat) : Int) = N) (m : Ms h g u) (h0 : 0 ≤ i) (h1 : i < N) (zx : Z1 x) (kk : ∀ h', Ms h' g (uI u k i x) → J Y d mc ms post (pc + 1) lv st h') : J Y d mc ms post pc lv (ii x :: ii i :: vr (some (g k)) :: st) h := by
  have e1 : hN h (g k) = mnl.getD k 0 := mN m.1 hk rfl
  have b := mnl_b k
  exact j_zast i.toNat hd (mK m.1 hk) (i3_nI h0) (by omega) (by omega) (vpz zx) (kk _ (Ms_pI m (Or.inr (by rw [hk]; decide)) (Int.toNat_of_nonneg h0).symm (Wm_uI m.2.1 (r32_z zx) (fun z => by rw [hk] at z; cases z) (fun _ => zx))))
theorem jm_last {k : Nat} {i x N : Int} (hd : decode Y.2.1 pc = .ok (.lastore, 1)) (hk : mkl.getD k 0 = 16) (hNN : ((mnl.getD k 0 : Nat) : Int) = N) (m : Ms h g u) (h0 : 0 ≤ i) (h1 : i < N) (rx : R64 x) (kk : ∀ h', Ms h' g (uG u k i x) → J Y d mc ms post (pc + 1) lv st h') : J Y d mc ms post pc lv (ll x :: ii i :: vr (some (g k)) :: st) h := by
  have e1 : hN h (g k) = mnl.getD k 0 := mN m.1 hk rfl
  have b := mnl_b k
  exact j_last i.toNat hd (mK m.1 hk) (i3_nI h0) (by omega) (by omega) (kk _ (Ms_pG m (Or.inr (by rw [hk]; decide)) (Int.toNat_of_nonneg h0).symm (Wm_uG m.2.1 rx)))
end JM2
/-! ===== the system's heap as whole numbers ===== -/
/-- kinds, lengths, ints, longs, references by address and place -/
abbrev Z : Type := (Nat → Nat) × (Nat → Int) × (Nat → Int → Int) × (Nat → Int → Int) × (Nat → Int → Option Nat)
def zK (z : Z) (a : Nat) : Nat := z.1 a
def zN (z : Z) (a : Nat) : Int := z.2.1 a
def zI (z : Z) (a : Nat) (i : Int) : Int := z.2.2.1 a i
def zG (z : Z) (a : Nat) (i : Int) : Int := z.2.2.2.1 a i
def zO (z : Z) (a : Nat) (i : Int) : Option Nat := z.2.2.2.2 a i
def wI (z : Z) (a : Nat) (i x : Int) : Z := (z.1, z.2.1, fun a' i' => if a' = a ∧ i' = i then x else z.2.2.1 a' i', z.2.2.2.1, z.2.2.2.2)
def wG (z : Z) (a : Nat) (i x : Int) : Z := (z.1, z.2.1, z.2.2.1, fun a' i' => if a' = a ∧ i' = i then x else z.2.2.2.1 a' i', z.2.2.2.2)
def wO (z : Z) (a : Nat) (i : Int) (x : Option Nat) : Z := (z.1, z.2.1, z.2.2.1, z.2.2.2.1, fun a' i' => if a' = a ∧ i' = i then x else z.2.2.2.2 a' i')
/-- a new cell of kind c and length n at q -/
def nZ (z : Z) (q c : Nat) (n : Int) : Z := (fun a => if a = q then c else z.1 a, fun a => if a = q then n else z.2.1 a, fun a i => if a = q then 0 else z.2.2.1 a i, fun a i => if a = q then 0 else z.2.2.2.1 a i, fun a i => if a = q then none else z.2.2.2.2 a i)
theorem zK_wI (z : Z) (a : Nat) (i : Int) (x : Int) (b : Nat) : zK (wI z a i x) b = zK z b := rfl
theorem zN_wI (z : Z) (a : Nat) (i : Int) (x : Int) (b : Nat) : zN (wI z a i x) b = zN z b := rfl
theorem zI_wI (z : Z) (a : Nat) (i : Int) (x : Int) (b : Nat) (j : Int) : zI (wI z a i x) b j = if b = a ∧ j = i then x else zI z b j := rfl
theorem zG_wI (z : Z) (a : Nat) (i : Int) (x : Int) (b : Nat) (j : Int) : zG (wI z a i x) b j = zG z b j := rfl
theorem zO_wI (z : Z) (a : Nat) (i : Int) (x : Int) (b : Nat) (j : Int) : zO (wI z a i x) b j = zO z b j := rfl
theorem zK_wG (z : Z) (a : Nat) (i : Int) (x : Int) (b : Nat) : zK (wG z a i x) b = zK z b := rfl
theorem zN_wG (z : Z) (a : Nat) (i : Int) (x : Int) (b : Nat) : zN (wG z a i x) b = zN z b := rfl
theorem zI_wG (z : Z) (a : Nat) (i : Int) (x : Int) (b : Nat) (j : Int) : zI (wG z a i x) b j = zI z b j := rfl
theorem zG_wG (z : Z) (a : Nat) (i : Int) (x : Int) (b : Nat) (j : Int) : zG (wG z a i x) b j = if b = a ∧ j = i then x else zG z b j := rfl
theorem zO_wG (z : Z) (a : Nat) (i : Int) (x : Int) (b : Nat) (j : Int) : zO (wG z a i x) b j = zO z b j := rfl
theorem zK_wO (z : Z) (a : Nat) (i : Int) (x : Option Nat) (b : Nat) : zK (wO z a i x) b = zK z b := rfl
theorem zN_wO (z : Z) (a : Nat) (i : Int) (x : Option Nat) (b : Nat) : zN (wO z a i x) b = zN z b := rfl
theorem zI_wO (z : Z) (a : Nat) (i : Int) (x : Option Nat) (b : Nat) (j : Int) : zI (wO z a i x) b j = zI z b j := rfl
theorem zG_wO (z : Z) (a : Nat) (i : Int) (x : Option Nat) (b : Nat) (j : Int) : zG (wO z a i x) b j = zG z b j := rfl
theorem zO_wO (z : Z) (a : Nat) (i : Int) (x : Option Nat) (b : Nat) (j : Int) : zO (wO z a i x) b j = if b = a ∧ j = i then x else zO z b j := rfl
theorem zK_nZ (z : Z) (q c : Nat) (n : Int) (b : Nat) : zK (nZ z q c n) b = if b = q then c else zK z b := rfl
theorem zN_nZ (z : Z) (q c : Nat) (n : Int) (b : Nat) : zN (nZ z q c n) b = if b = q then n else zN z b := rfl
theorem zI_nZ (z : Z) (q c : Nat) (n : Int) (b : Nat) (j : Int) : zI (nZ z q c n) b j = if b = q then 0 else zI z b j := rfl
theorem zG_nZ (z : Z) (q c : Nat) (n : Int) (b : Nat) (j : Int) : zG (nZ z q c n) b j = if b = q then 0 else zG z b j := rfl
theorem zO_nZ (z : Z) (q c : Nat) (n : Int) (b : Nat) (j : Int) : zO (nZ z q c n) b j = if b = q then none else zO z b j := rfl
def cz (z : Z) : Hp := (fun a => zK z a, fun a => (zN z a).toNat, fun a k => Int32.ofInt (zI z a k), fun a k => Int64.ofInt (zG z a k), fun a k => zO z a k)
def Wz (z : Z) : Prop := (∀ a i, R32 (zI z a i)) ∧ (∀ a i, R64 (zG z a i)) ∧ (∀ a i, zK z a = 14 → B8 (zI z a i)) ∧ (∀ a i, zK z a = 17 → Z1 (zI z a i)) ∧ ∀ a, 0 ≤ zN z a ∧ zN z a < 33554432
theorem cz_pI (z : Z) (a k : Nat) (i x : Int) (hi : i = (k : Int)) : pI (cz z) a k (Int32.ofInt x) = cz (wI z a i x) := by
  subst hi
  have e : (fun b j => if b = a ∧ j = k then Int32.ofInt x else Int32.ofInt (zI z b j)) = fun (b j : Nat) => Int32.ofInt (zI (wI z a k x) b j) := by
    funext b j
    rw [zI_wI]
    by_cases c : b = a ∧ j = k
    · rw [if_pos c, if_pos ⟨c.1, by rw [c.2]⟩]
    · rw [if_neg c, if_neg (fun w => c ⟨w.1, by omega⟩)]
  show (_, _, (fun b j => if b = a ∧ j = k then Int32.ofInt x else Int32.ofInt (zI z b j)), _, _) = _
  rw [e]; rfl
theorem cz_pG (z : Z) (a k : Nat) (i x : Int) (hi : i = (k : Int)) : pG (cz z) a k (Int64.ofInt x) = cz (wG z a i x) := by
  subst hi
  have e : (fun b j => if b = a ∧ j = k then Int64.ofInt x else Int64.ofInt (zG z b j)) = fun (b j : Nat) => Int64.ofInt (zG (wG z a k x) b j) := by
    funext b j
    rw [zG_wG]
    by_cases c : b = a ∧ j = k
    · rw [if_pos c, if_pos ⟨c.1, by rw [c.2]⟩]
    · rw [if_neg c, if_neg (fun w => c ⟨w.1, by omega⟩)]
  show (_, _, _, (fun b j => if b = a ∧ j = k then Int64.ofInt x else Int64.ofInt (zG z b j)), _) = _
  rw [e]; rfl
theorem cz_pO (z : Z) (a k : Nat) (i : Int) (x : Option Nat) (hi : i = (k : Int)) : pO (cz z) a k x = cz (wO z a i x) := by
  subst hi
  have e : (fun b j => if b = a ∧ j = k then x else zO z b j) = fun (b j : Nat) => zO (wO z a k x) b j := by
    funext b j
    rw [zO_wO]
    by_cases c : b = a ∧ j = k
    · rw [if_pos c, if_pos ⟨c.1, by rw [c.2]⟩]
    · rw [if_neg c, if_neg (fun w => c ⟨w.1, by omega⟩)]
  show (_, _, _, _, (fun b j => if b = a ∧ j = k then x else zO z b j)) = _
  rw [e]; rfl
theorem cz_nw (z : Z) (q c k : Nat) (n : Int) (hn : n = (k : Int)) : nw (cz z) q c k = cz (nZ z q c n) := by
  subst hn
  have e2 : (u1 (fun a => (zN z a).toNat) q k) = fun a => (zN (nZ z q c k) a).toNat := by
    funext b; rw [zN_nZ]; by_cases e : b = q
    · rw [u1, if_pos e, if_pos e]; omega
    · rw [u1, if_neg e, if_neg e]
  have e3 : (u1 (fun a (k : Nat) => Int32.ofInt (zI z a k)) q (fun _ => 0)) = fun a (j : Nat) => Int32.ofInt (zI (nZ z q c k) a j) := by
    funext b j; rw [zI_nZ]; by_cases e : b = q
    · rw [u1, if_pos e, if_pos e]; rfl
    · rw [u1, if_neg e, if_neg e]
  have e4 : (u1 (fun a (k : Nat) => Int64.ofInt (zG z a k)) q (fun _ => 0)) = fun a (j : Nat) => Int64.ofInt (zG (nZ z q c k) a j) := by
    funext b j; rw [zG_nZ]; by_cases e : b = q
    · rw [u1, if_pos e, if_pos e]; rfl
    · rw [u1, if_neg e, if_neg e]
  have e5 : (u1 (fun a (k : Nat) => zO z a k) q (fun _ => none)) = fun a (j : Nat) => zO (nZ z q c k) a j := by
    funext b j; rw [zO_nZ]; by_cases e : b = q
    · rw [u1, if_pos e, if_pos e]
    · rw [u1, if_neg e, if_neg e]
  show (u1 (fun a => zK z a) q c, u1 (fun a => (zN z a).toNat) q k, u1 (fun a (k : Nat) => Int32.ofInt (zI z a k)) q (fun _ => 0), u1 (fun a (k : Nat) => Int64.ofInt (zG z a k)) q (fun _ => 0), u1 (fun a (k : Nat) => zO z a k) q (fun _ => none)) = _
  rw [e2, e3, e4, e5]; rfl
theorem Wz_wI {z : Z} {a : Nat} {i x : Int} (w : Wz z) (rx : R32 x) (h1 : zK z a = 14 → B8 x) (h2 : zK z a = 17 → Z1 x) : Wz (wI z a i x) := by
  refine ⟨fun b j => ?_, w.2.1, fun b j h => ?_, fun b j h => ?_, w.2.2.2.2⟩
  · rw [zI_wI]; split
    · exact rx
    · exact w.1 b j
  · rw [zI_wI]; split
    · next c => exact h1 (by rw [← c.1]; exact h)
    · exact w.2.2.1 b j h
  · rw [zI_wI]; split
    · next c => exact h2 (by rw [← c.1]; exact h)
    · exact w.2.2.2.1 b j h
theorem Wz_wG {z : Z} {a : Nat} {i x : Int} (w : Wz z) (rx : R64 x) : Wz (wG z a i x) := by
  refine ⟨w.1, fun b j => ?_, w.2.2.1, w.2.2.2.1, w.2.2.2.2⟩
  rw [zG_wG]; split
  · exact rx
  · exact w.2.1 b j
theorem Wz_wO {z : Z} {a : Nat} {i : Int} {x : Option Nat} (w : Wz z) : Wz (wO z a i x) := w
theorem Wz_nZ {z : Z} {q c : Nat} {n : Int} (w : Wz z) (h0 : 0 ≤ n) (h1 : n < 33554432) : Wz (nZ z q c n) := by
  refine ⟨fun b j => ?_, fun b j => ?_, fun b j h => ?_, fun b j h => ?_, fun b => ?_⟩
  · rw [zI_nZ]; split
    · decide
    · exact w.1 b j
  · rw [zG_nZ]; split
    · decide
    · exact w.2.1 b j
  · rw [zI_nZ]; rw [zK_nZ] at h; split
    · decide
    · next e => rw [if_neg e] at h; exact w.2.2.1 b j h
  · rw [zI_nZ]; rw [zK_nZ] at h; split
    · decide
    · next e => rw [if_neg e] at h; exact w.2.2.2.1 b j h
  · rw [zN_nZ]; split
    · exact ⟨h0, h1⟩
    · exact w.2.2.2.2 b
section JZ2
variable {Y : MI} {d mc ms : Nat} {post : Option Sv ⊕ String → Hp → Prop} {pc : Nat} {lv : List (Option Sv)} {st : List Sv} {z : Z} {a : Nat} {r : Option Nat}
theorem jz_getI {ix c k : Nat} {kz : Int} {fin : Bool} (hd : decode Y.2.1 pc = .ok (.getfield ix, 3)) (hF : FL Y.1.cls ix c k fin) (ht : ity (fty c k) = 0) (hz : kz = (k : Int)) (er : r = some a) (hk : zK z a = c + 1) (kk : J Y d mc ms post (pc + 3) lv (ii (zI z a kz) :: st) (cz z)) : J Y d mc ms post pc lv (vr r :: st) (cz z) := by
  subst er; subst hz
  exact j_getI hd hF ht hk kk
theorem jz_getG {ix c k : Nat} {kz : Int} {fin : Bool} (hd : decode Y.2.1 pc = .ok (.getfield ix, 3)) (hF : FL Y.1.cls ix c k fin) (ht : ity (fty c k) = 1) (hz : kz = (k : Int)) (er : r = some a) (hk : zK z a = c + 1) (kk : J Y d mc ms post (pc + 3) lv (ll (zG z a kz) :: st) (cz z)) : J Y d mc ms post pc lv (vr r :: st) (cz z) := by
  subst er; subst hz
  exact j_getG hd hF ht hk kk
theorem jz_getO {ix c k : Nat} {kz : Int} {fin : Bool} (hd : decode Y.2.1 pc = .ok (.getfield ix, 3)) (hF : FL Y.1.cls ix c k fin) (ht : ity (fty c k) = 2) (hz : kz = (k : Int)) (er : r = some a) (hk : zK z a = c + 1) (kk : J Y d mc ms post (pc + 3) lv (vr (zO z a kz) :: st) (cz z)) : J Y d mc ms post pc lv (vr r :: st) (cz z) := by
  subst er; subst hz
  exact j_getO hd hF ht hk kk
theorem jz_putI {ix c k : Nat} {kz : Int} {x : Int} (hd : decode Y.2.1 pc = .ok (.putfield ix, 3)) (hF : FL Y.1.cls ix c k false) (ht : ity (fty c k) = 0) (hn : narrow (fty c k) (.int (Int32.ofInt x)) = .int (Int32.ofInt x)) (hf : fits (fty c k) (.int (Int32.ofInt x)) = true) (hz : kz = (k : Int)) (er : r = some a) (hk : zK z a = c + 1) (hw : Wz z) (rx : R32 x) (kk : Wz (wI z a kz x) → J Y d mc ms post (pc + 3) lv st (cz (wI z a kz x))) : J Y d mc ms post pc lv (ii x :: vr r :: st) (cz z) := by
  subst er
  refine j_putI hd hF ht hn hf hk ?_
  rw [cz_pI z a k kz x hz]
  exact kk (Wz_wI hw rx (fun e => by rw [hk] at e; obtain ⟨_, _, ⟨_, _, _, _, q5⟩, _⟩ := hF; omega) (fun e => by rw [hk] at e; obtain ⟨_, _, ⟨_, _, _, _, q5⟩, _⟩ := hF; omega))
theorem jz_putIF {ix c k : Nat} {kz : Int} {x : Int} (hd : decode Y.2.1 pc = .ok (.putfield ix, 3)) (hF : FL Y.1.cls ix c k true) (hin : Y.1.name = "<init>") (hdc : FD Y.1.cls c k) (ht : ity (fty c k) = 0) (hn : narrow (fty c k) (.int (Int32.ofInt x)) = .int (Int32.ofInt x)) (hf : fits (fty c k) (.int (Int32.ofInt x)) = true) (hz : kz = (k : Int)) (er : r = some a) (hk : zK z a = c + 1) (hw : Wz z) (rx : R32 x) (kk : Wz (wI z a kz x) → J Y d mc ms post (pc + 3) lv st (cz (wI z a kz x))) : J Y d mc ms post pc lv (ii x :: vr r :: st) (cz z) := by
  subst er
  refine j_putIF hd hF hin hdc ht hn hf hk ?_
  rw [cz_pI z a k kz x hz]
  exact kk (Wz_wI hw rx (fun e => by rw [hk] at e; obtain ⟨_, _, ⟨_, _, _, _, q5⟩, _⟩ := hF; omega) (fun e => by rw [hk] at e; obtain ⟨_, _, ⟨_, _, _, _, q5⟩, _⟩ := hF; omega))
theorem jz_putG {ix c k : Nat} {kz : Int} {x : Int} (hd : decode Y.2.1 pc = .ok (.putfield ix, 3)) (hF : FL Y.1.cls ix c k false) (ht : ity (fty c k) = 1) (hn : narrow (fty c k) (.long (Int64.ofInt x)) = .long (Int64.ofInt x)) (hf : fits (fty c k) (.long (Int64.ofInt x)) = true) (hz : kz = (k : Int)) (er : r = some a) (hk : zK z a = c + 1) (hw : Wz z) (rx : R64 x) (kk : Wz (wG z a kz x) → J Y d mc ms post (pc + 3) lv st (cz (wG z a kz x))) : J Y d mc ms post pc lv (ll x :: vr r :: st) (cz z) := by
  subst er
  refine j_putG hd hF ht hn hf hk ?_
  rw [cz_pG z a k kz x hz]
  exact kk (Wz_wG hw rx)
theorem jz_putGF {ix c k : Nat} {kz : Int} {x : Int} (hd : decode Y.2.1 pc = .ok (.putfield ix, 3)) (hF : FL Y.1.cls ix c k true) (hin : Y.1.name = "<init>") (hdc : FD Y.1.cls c k) (ht : ity (fty c k) = 1) (hn : narrow (fty c k) (.long (Int64.ofInt x)) = .long (Int64.ofInt x)) (hf : fits (fty c k) (.long (Int64.ofInt x)) = true) (hz : kz = (k : Int)) (er : r = some a) (hk : zK z a = c + 1) (hw : Wz z) (rx : R64 x) (kk : Wz (wG z a kz x) → J Y d mc ms post (pc + 3) lv st (cz (wG z a kz x))) : J Y d mc ms post pc lv (ll x :: vr r :: st) (cz z) := by
  subst er
  refine j_putGF hd hF hin hdc ht hn hf hk ?_
  rw [cz_pG z a k kz x hz]
  exact kk (Wz_wG hw rx)
theorem jz_putO {ix c k : Nat} {kz : Int} {x : Option Nat} (hd : decode Y.2.1 pc = .ok (.putfield ix, 3)) (hF : FL Y.1.cls ix c k false) (ht : ity (fty c k) = 2) (hz : kz = (k : Int)) (er : r = some a) (hk : zK z a = c + 1) (hw : Wz z) (kk : Wz (wO z a kz x) → J Y d mc ms post (pc + 3) lv st (cz (wO z a kz x))) : J Y d mc ms post pc lv (vr x :: vr r :: st) (cz z) := by
  subst er
  refine j_putO hd hF ht hk ?_
  rw [cz_pO z a k kz x hz]
  exact kk (Wz_wO hw)
theorem jz_putOF {ix c k : Nat} {kz : Int} {x : Option Nat} (hd : decode Y.2.1 pc = .ok (.putfield ix, 3)) (hF : FL Y.1.cls ix c k true) (hin : Y.1.name = "<init>") (hdc : FD Y.1.cls c k) (ht : ity (fty c k) = 2) (hz : kz = (k : Int)) (er : r = some a) (hk : zK z a = c + 1) (hw : Wz z) (kk : Wz (wO z a kz x) → J Y d mc ms post (pc + 3) lv st (cz (wO z a kz x))) : J Y d mc ms post pc lv (vr x :: vr r :: st) (cz z) := by
  subst er
  refine j_putOF hd hF hin hdc ht hk ?_
  rw [cz_pO z a k kz x hz]
  exact kk (Wz_wO hw)
theorem jz_iald {i : Int} (hd : decode Y.2.1 pc = .ok (.iaload, 1)) (er : r = some a) (hk : zK z a = 15) (h0 : 0 ≤ i) (h1 : i < zN z a) (hw : Wz z) (kk : J Y d mc ms post (pc + 1) lv (ii (zI z a i) :: st) (cz z)) : J Y d mc ms post pc lv (ii i :: vr r :: st) (cz z) := by
  subst er
  have b := hw.2.2.2.2 a
  refine j_iald i.toNat hd hk (i3_nI h0) (show i.toNat < (zN z a).toNat by omega) (show (zN z a).toNat < 2 ^ 31 by omega) ?_
  show J Y d mc ms post (pc + 1) lv (ii (zI z a (i.toNat : Int)) :: st) (cz z)
  rw [Int.toNat_of_nonneg h0]
  exact kk
theorem jz_bald {i : Int} (hd : decode Y.2.1 pc = .ok (.baload, 1)) (er : r = some a) (hk : zK z a = 14) (h0 : 0 ≤ i) (h1 : i < zN z a) (hw : Wz z) (kk : J Y d mc ms post (pc + 1) lv (ii (zI z a i) :: st) (cz z)) : J Y d mc ms post pc lv (ii i :: vr r :: st) (cz z) := by
  subst er
  have b := hw.2.2.2.2 a
  refine j_bald i.toNat hd hk (i3_nI h0) (show i.toNat < (zN z a).toNat by omega) (show (zN z a).toNat < 2 ^ 31 by omega) ?_
  show J Y d mc ms post (pc + 1) lv (ii (zI z a (i.toNat : Int)) :: st) (cz z)
  rw [Int.toNat_of_nonneg h0]
  exact kk
theorem jz_zald {i : Int} (hd : decode Y.2.1 pc = .ok (.baload, 1)) (er : r = some a) (hk : zK z a = 17) (h0 : 0 ≤ i) (h1 : i < zN z a) (hw : Wz z) (kk : J Y d mc ms post (pc + 1) lv (ii (zI z a i) :: st) (cz z)) : J Y d mc ms post pc lv (ii i :: vr r :: st) (cz z) := by
  subst er
  have b := hw.2.2.2.2 a
  refine j_zald i.toNat hd hk (i3_nI h0) (show i.toNat < (zN z a).toNat by omega) (show (zN z a).toNat < 2 ^ 31 by omega) ?_
  show J Y d mc ms post (pc + 1) lv (ii (zI z a (i.toNat : Int)) :: st) (cz z)
  rw [Int.toNat_of_nonneg h0]
  exact kk
theorem jz_lald {i : Int} (hd : decode Y.2.1 pc = .ok (.laload, 1)) (er : r = some a) (hk : zK z a = 16) (h0 : 0 ≤ i) (h1 : i < zN z a) (hw : Wz z) (kk : J Y d mc ms post (pc + 1) lv (ll (zG z a i) :: st) (cz z)) : J Y d mc ms post pc lv (ii i :: vr r :: st) (cz z) := by
  subst er
  have b := hw.2.2.2.2 a
  refine j_lald i.toNat hd hk (i3_nI h0) (show i.toNat < (zN z a).toNat by omega) (show (zN z a).toNat < 2 ^ 31 by omega) ?_
  show J Y d mc ms post (pc + 1) lv (ll (zG z a (i.toNat : Int)) :: st) (cz z)
  rw [Int.toNat_of_nonneg h0]
  exact kk
theorem jz_aald {t : Nat} {i : Int} (hd : decode Y.2.1 pc = .ok (.aaload, 1)) (er : r = some a) (hk : zK z a = t + 14) (ht : 4 ≤ t) (ht2 : t < 9) (h0 : 0 ≤ i) (h1 : i < zN z a) (hw : Wz z) (kk : J Y d mc ms post (pc + 1) lv (vr (zO z a i) :: st) (cz z)) : J Y d mc ms post pc lv (ii i :: vr r :: st) (cz z) := by
  subst er
  have b := hw.2.2.2.2 a
  refine j_aald i.toNat hd hk ht ht2 (i3_nI h0) (show i.toNat < (zN z a).toNat by omega) (show (zN z a).toNat < 2 ^ 31 by omega) ?_
  show J Y d mc ms post (pc + 1) lv (vr (zO z a (i.toNat : Int)) :: st) (cz z)
  rw [Int.toNat_of_nonneg h0]
  exact kk
theorem jz_iast {i x : Int} (hd : decode Y.2.1 pc = .ok (.iastore, 1)) (er : r = some a) (hk : zK z a = 15) (h0 : 0 ≤ i) (h1 : i < zN z a) (hw : Wz z) (rx : R32 x) (kk : Wz (wI z a i x) → J Y d mc ms post (pc + 1) lv st (cz (wI z a i x))) : J Y d mc ms post pc lv (ii x :: ii i :: vr r :: st) (cz z) := by
  subst er
  have b := hw.2.2.2.2 a
  refine j_iast i.toNat hd hk (i3_nI h0) (show i.toNat < (zN z a).toNat by omega) (show (zN z a).toNat < 2 ^ 31 by omega) ?_
  rw [cz_pI z a i.toNat i x (Int.toNat_of_nonneg h0).symm]
  exact kk (Wz_wI hw rx (fun e => by rw [hk] at e; cases e) (fun e => by rw [hk] at e; cases e))
theorem jz_bast {i x : Int} (hd : decode Y.2.1 pc = .ok (.bastore, 1)) (er : r = some a) (hk : zK z a = 14) (h0 : 0 ≤ i) (h1 : i < zN z a) (hw : Wz z) (bx : B8 x) (kk : Wz (wI z a i x) → J Y d mc ms post (pc + 1) lv st (cz (wI z a i x))) : J Y d mc ms post pc lv (ii x :: ii i :: vr r :: st) (cz z) := by
  subst er
  have b := hw.2.2.2.2 a
  refine j_bast i.toNat hd hk (i3_nI h0) (show i.toNat < (zN z a).toNat by omega) (show (zN z a).toNat < 2 ^ 31 by omega) (vpb bx) ?_
  rw [cz_pI z a i.toNat i x (Int.toNat_of_nonneg h0).symm]
  exact kk (Wz_wI hw (r32_b bx) (fun _ => bx) (fun e => by rw [hk] at e; cases e))
theorem jz_zast {i x : Int} (hd : decode Y.2.1 pc = .ok (.bastore, 1)) (er : r = some a) (hk : zK z a = 17) (h0 : 0 ≤ i) (h1 : i < zN z a) (hw : Wz z) (zx : Z1 x) (kk : Wz (wI z a i x) → J Y d mc ms post (pc + 1) lv st (cz (wI z a i x))) : J Y d mc ms post pc lv (ii x :: ii i :: vr r :: st) (cz z) := by
  subst er
  have b := hw.2.2.2.2 a
  refine j_zast i.toNat hd hk (i3_nI h0) (show i.toNat < (zN z a).toNat by omega) (show (zN z a).toNat < 2 ^ 31 by omega) (vpz zx) ?_
  rw [cz_pI z a i.toNat i x (Int.toNat_of_nonneg h0).symm]
  exact kk (Wz_wI hw (r32_z zx) (fun e => by rw [hk] at e; cases e) (fun _ => zx))
theorem jz_last {i x : Int} (hd : decode Y.2.1 pc = .ok (.lastore, 1)) (er : r = some a) (hk : zK z a = 16) (h0 : 0 ≤ i) (h1 : i < zN z a) (hw : Wz z) (rx : R64 x) (kk : Wz (wG z a i x) → J Y d mc ms post (pc + 1) lv st (cz (wG z a i x))) : J Y d mc ms post pc lv (ll x :: ii i :: vr r :: st) (cz z) := by
  subst er
  have b := hw.2.2.2.2 a
  refine j_last i.toNat hd hk (i3_nI h0) (show i.toNat < (zN z a).toNat by omega) (show (zN z a).toNat < 2 ^ 31 by omega) ?_
  rw [cz_pG z a i.toNat i x (Int.toNat_of_nonneg h0).symm]
  exact kk (Wz_wG hw rx)
theorem jz_aast {t : Nat} {i : Int} {x : Option Nat} (hd : decode Y.2.1 pc = .ok (.aastore, 1)) (er : r = some a) (hk : zK z a = t + 14) (ht : 4 ≤ t) (ht2 : t < 9) (h0 : 0 ≤ i) (h1 : i < zN z a) (hw : Wz z) (hv : ∀ v, x = some v → zK z v = arc t + 1) (kk : Wz (wO z a i x) → J Y d mc ms post (pc + 1) lv st (cz (wO z a i x))) : J Y d mc ms post pc lv (vr x :: ii i :: vr r :: st) (cz z) := by
  subst er
  have b := hw.2.2.2.2 a
  refine j_aast i.toNat hd hk ht ht2 (i3_nI h0) (show i.toNat < (zN z a).toNat by omega) (show (zN z a).toNat < 2 ^ 31 by omega) hv ?_
  rw [cz_pO z a i.toNat i x (Int.toNat_of_nonneg h0).symm]
  exact kk (Wz_wO hw)
theorem jz_alen {t : Nat} (hd : decode Y.2.1 pc = .ok (.arraylength, 1)) (er : r = some a) (hk : zK z a = t + 14) (ht : t < 9) (hw : Wz z) (kk : J Y d mc ms post (pc + 1) lv (ii (zN z a) :: st) (cz z)) : J Y d mc ms post pc lv (vr r :: st) (cz z) := by
  subst er
  refine j_alen hd hk ht ?_
  rw [show nI (hN (cz z) a) = Int32.ofInt (zN z a) from (i3_nI (show 0 ≤ zN z a from (hw.2.2.2.2 a).1)).symm]
  exact kk
theorem jz_new {ix c n : Nat} {Rn : String} {T : u_T} (hd : decode Y.2.1 pc = .ok (.new ix, 3)) (hC : CL c Rn T) (hw1 : Cond.classLink Y.1.cls ix Rn ∈ gtb) (hw2 : Cond.instantiable Rn (fnum c) ∈ gtb) (hw3 : Cond.initialized Rn ∈ gtb) (hn : fnum c = n) (h1 : 1 ≤ mc) (h2 : n ≤ ms) (hw : Wz z) (kk : ∀ q, zK z q = 0 → Wz (nZ z q (c + 1) 0) → J Y d (mc - 1) (ms - n) post (pc + 3) lv (vr (some q) :: st) (cz (nZ z q (c + 1) 0))) : J Y d mc ms post pc lv st (cz z) := by
  refine j_mono (mc' := mc - 1 + 1) (ms' := ms - n + fnum c) (by omega) (by omega) ?_
  refine j_new hd hC hw1 hw2 hw3 (fun q hq => ?_)
  rw [cz_nw z q (c + 1) 0 0 rfl]
  exact kk q hq (Wz_nZ hw (by decide) (by decide))
theorem jz_newB {i : Int} (hd : decode Y.2.1 pc = .ok (.newarray .byte, 2)) (h0 : 0 ≤ i) (h1 : i < 33554432) (hc : 1 ≤ mc) (hs : i.toNat ≤ ms) (hw : Wz z) (kk : ∀ q, zK z q = 0 → Wz (nZ z q 14 i) → J Y d (mc - 1) (ms - i.toNat) post (pc + 2) lv (vr (some q) :: st) (cz (nZ z q 14 i))) : J Y d mc ms post pc lv (ii i :: st) (cz z) := by
  refine j_mono (mc' := mc - 1 + 1) (ms' := ms - i.toNat + i.toNat) (by omega) (by omega) ?_
  refine j_newB i.toNat hd ac_byte (i3_nI h0) (by omega) (fun q hq => ?_)
  rw [cz_nw z q 14 i.toNat i (Int.toNat_of_nonneg h0).symm]
  exact kk q hq (Wz_nZ hw h0 h1)
theorem jz_newI {i : Int} (hd : decode Y.2.1 pc = .ok (.newarray .int, 2)) (h0 : 0 ≤ i) (h1 : i < 33554432) (hc : 1 ≤ mc) (hs : i.toNat ≤ ms) (hw : Wz z) (kk : ∀ q, zK z q = 0 → Wz (nZ z q 15 i) → J Y d (mc - 1) (ms - i.toNat) post (pc + 2) lv (vr (some q) :: st) (cz (nZ z q 15 i))) : J Y d mc ms post pc lv (ii i :: st) (cz z) := by
  refine j_mono (mc' := mc - 1 + 1) (ms' := ms - i.toNat + i.toNat) (by omega) (by omega) ?_
  refine j_newI i.toNat hd ac_int (i3_nI h0) (by omega) (fun q hq => ?_)
  rw [cz_nw z q 15 i.toNat i (Int.toNat_of_nonneg h0).symm]
  exact kk q hq (Wz_nZ hw h0 h1)
theorem jz_newJ {i : Int} (hd : decode Y.2.1 pc = .ok (.newarray .long, 2)) (h0 : 0 ≤ i) (h1 : i < 33554432) (hc : 1 ≤ mc) (hs : i.toNat ≤ ms) (hw : Wz z) (kk : ∀ q, zK z q = 0 → Wz (nZ z q 16 i) → J Y d (mc - 1) (ms - i.toNat) post (pc + 2) lv (vr (some q) :: st) (cz (nZ z q 16 i))) : J Y d mc ms post pc lv (ii i :: st) (cz z) := by
  refine j_mono (mc' := mc - 1 + 1) (ms' := ms - i.toNat + i.toNat) (by omega) (by omega) ?_
  refine j_newJ i.toNat hd ac_long (i3_nI h0) (by omega) (fun q hq => ?_)
  rw [cz_nw z q 16 i.toNat i (Int.toNat_of_nonneg h0).symm]
  exact kk q hq (Wz_nZ hw h0 h1)
theorem jz_newZ {i : Int} (hd : decode Y.2.1 pc = .ok (.newarray .boolean, 2)) (h0 : 0 ≤ i) (h1 : i < 33554432) (hc : 1 ≤ mc) (hs : i.toNat ≤ ms) (hw : Wz z) (kk : ∀ q, zK z q = 0 → Wz (nZ z q 17 i) → J Y d (mc - 1) (ms - i.toNat) post (pc + 2) lv (vr (some q) :: st) (cz (nZ z q 17 i))) : J Y d mc ms post pc lv (ii i :: st) (cz z) := by
  refine j_mono (mc' := mc - 1 + 1) (ms' := ms - i.toNat + i.toNat) (by omega) (by omega) ?_
  refine j_newZ i.toNat hd ac_boolean (i3_nI h0) (by omega) (fun q hq => ?_)
  rw [cz_nw z q 17 i.toNat i (Int.toNat_of_nonneg h0).symm]
  exact kk q hq (Wz_nZ hw h0 h1)
theorem jz_newQ {ix t : Nat} {i : Int} {Rn : String} (hd : decode Y.2.1 pc = .ok (.anewarray ix, 3)) (hl : Cond.classLink Y.1.cls ix Rn ∈ gtb) (hl2 : Cond.arrayOver (.object Rn) ∈ tables_1) (ht : 4 ≤ t) (ht2 : ∀ cy : Nat → ClassId, (ty9 cy)[t]? = some (cy t, .object Rn)) (h0 : 0 ≤ i) (h1 : i < 33554432) (hc : 1 ≤ mc) (hs : i.toNat ≤ ms) (hw : Wz z) (kk : ∀ q, zK z q = 0 → Wz (nZ z q (t + 14) i) → J Y d (mc - 1) (ms - i.toNat) post (pc + 3) lv (vr (some q) :: st) (cz (nZ z q (t + 14) i))) : J Y d mc ms post pc lv (ii i :: st) (cz z) := by
  refine j_mono (mc' := mc - 1 + 1) (ms' := ms - i.toNat + i.toNat) (by omega) (by omega) ?_
  refine j_newQ i.toNat hd hl hl2 ht ht2 (i3_nI h0) (by omega) (fun q hq => ?_)
  rw [cz_nw z q (t + 14) i.toNat i (Int.toNat_of_nonneg h0).symm]
  exact kk q hq (Wz_nZ hw h0 h1)
end JZ2
section JK2
variable {Y Y1 : MI} {d d1 mc ms mc1 ms1 : Nat} {post : Option Sv ⊕ String → Hp → Prop} {post1 : Option Sv → Hp → Prop} {pc : Nat} {lv : List (Option Sv)} {st : List Sv} {h : Hp} {r : Option Nat}
theorem jz_callV0 {ix c n a : Nat} (hd : decode Y.2.1 pc = .ok (.invokevirtual ix, 3)) (hM : VL Y.1.cls ix c Y1 n) (er : r = some a) (con : Con Y1 d1 mc1 ms1 (vr (some a) :: []) h post1) (hk : hK h a = c + 1) (hn : 0 = n) (hdd : d1 < d) (hmc : mc1 ≤ mc) (hms : ms1 ≤ ms) (hs : (st.map ct).sum ≤ 8) (kk : ∀ (v : Option Sv) (u : Hp), post1 v u → J Y d (mc - mc1) (ms - ms1) post (pc + 3) lv (rs v st) u) : J Y d mc ms post pc lv (vr r :: st) h := by subst er; exact j_callV0 hd hM con hk hn hdd hmc hms hs kk
theorem jz_callV1 {ix c n a : Nat} {v1 : Sv} (hd : decode Y.2.1 pc = .ok (.invokevirtual ix, 3)) (hM : VL Y.1.cls ix c Y1 n) (er : r = some a) (con : Con Y1 d1 mc1 ms1 (vr (some a) :: [v1]) h post1) (hk : hK h a = c + 1) (hn : 1 = n) (hdd : d1 < d) (hmc : mc1 ≤ mc) (hms : ms1 ≤ ms) (hs : (st.map ct).sum ≤ 8) (kk : ∀ (v : Option Sv) (u : Hp), post1 v u → J Y d (mc - mc1) (ms - ms1) post (pc + 3) lv (rs v st) u) : J Y d mc ms post pc lv (v1 :: vr r :: st) h := by subst er; exact j_callV1 hd hM con hk hn hdd hmc hms hs kk
theorem jz_callV2 {ix c n a : Nat} {v1 v2 : Sv} (hd : decode Y.2.1 pc = .ok (.invokevirtual ix, 3)) (hM : VL Y.1.cls ix c Y1 n) (er : r = some a) (con : Con Y1 d1 mc1 ms1 (vr (some a) :: [v1, v2]) h post1) (hk : hK h a = c + 1) (hn : 2 = n) (hdd : d1 < d) (hmc : mc1 ≤ mc) (hms : ms1 ≤ ms) (hs : (st.map ct).sum ≤ 8) (kk : ∀ (v : Option Sv) (u : Hp), post1 v u → J Y d (mc - mc1) (ms - ms1) post (pc + 3) lv (rs v st) u) : J Y d mc ms post pc lv (v2 :: v1 :: vr r :: st) h := by subst er; exact j_callV2 hd hM con hk hn hdd hmc hms hs kk
theorem jz_callV3 {ix c n a : Nat} {v1 v2 v3 : Sv} (hd : decode Y.2.1 pc = .ok (.invokevirtual ix, 3)) (hM : VL Y.1.cls ix c Y1 n) (er : r = some a) (con : Con Y1 d1 mc1 ms1 (vr (some a) :: [v1, v2, v3]) h post1) (hk : hK h a = c + 1) (hn : 3 = n) (hdd : d1 < d) (hmc : mc1 ≤ mc) (hms : ms1 ≤ ms) (hs : (st.map ct).sum ≤ 8) (kk : ∀ (v : Option Sv) (u : Hp), post1 v u → J Y d (mc - mc1) (ms - ms1) post (pc + 3) lv (rs v st) u) : J Y d mc ms post pc lv (v3 :: v2 :: v1 :: vr r :: st) h := by subst er; exact j_callV3 hd hM con hk hn hdd hmc hms hs kk
theorem jz_callV4 {ix c n a : Nat} {v1 v2 v3 v4 : Sv} (hd : decode Y.2.1 pc = .ok (.invokevirtual ix, 3)) (hM : VL Y.1.cls ix c Y1 n) (er : r = some a) (con : Con Y1 d1 mc1 ms1 (vr (some a) :: [v1, v2, v3, v4]) h post1) (hk : hK h a = c + 1) (hn : 4 = n) (hdd : d1 < d) (hmc : mc1 ≤ mc) (hms : ms1 ≤ ms) (hs : (st.map ct).sum ≤ 8) (kk : ∀ (v : Option Sv) (u : Hp), post1 v u → J Y d (mc - mc1) (ms - ms1) post (pc + 3) lv (rs v st) u) : J Y d mc ms post pc lv (v4 :: v3 :: v2 :: v1 :: vr r :: st) h := by subst er; exact j_callV4 hd hM con hk hn hdd hmc hms hs kk
theorem jz_callV5 {ix c n a : Nat} {v1 v2 v3 v4 v5 : Sv} (hd : decode Y.2.1 pc = .ok (.invokevirtual ix, 3)) (hM : VL Y.1.cls ix c Y1 n) (er : r = some a) (con : Con Y1 d1 mc1 ms1 (vr (some a) :: [v1, v2, v3, v4, v5]) h post1) (hk : hK h a = c + 1) (hn : 5 = n) (hdd : d1 < d) (hmc : mc1 ≤ mc) (hms : ms1 ≤ ms) (hs : (st.map ct).sum ≤ 8) (kk : ∀ (v : Option Sv) (u : Hp), post1 v u → J Y d (mc - mc1) (ms - ms1) post (pc + 3) lv (rs v st) u) : J Y d mc ms post pc lv (v5 :: v4 :: v3 :: v2 :: v1 :: vr r :: st) h := by subst er; exact j_callV5 hd hM con hk hn hdd hmc hms hs kk
theorem jz_callV6 {ix c n a : Nat} {v1 v2 v3 v4 v5 v6 : Sv} (hd : decode Y.2.1 pc = .ok (.invokevirtual ix, 3)) (hM : VL Y.1.cls ix c Y1 n) (er : r = some a) (con : Con Y1 d1 mc1 ms1 (vr (some a) :: [v1, v2, v3, v4, v5, v6]) h post1) (hk : hK h a = c + 1) (hn : 6 = n) (hdd : d1 < d) (hmc : mc1 ≤ mc) (hms : ms1 ≤ ms) (hs : (st.map ct).sum ≤ 8) (kk : ∀ (v : Option Sv) (u : Hp), post1 v u → J Y d (mc - mc1) (ms - ms1) post (pc + 3) lv (rs v st) u) : J Y d mc ms post pc lv (v6 :: v5 :: v4 :: v3 :: v2 :: v1 :: vr r :: st) h := by subst er; exact j_callV6 hd hM con hk hn hdd hmc hms hs kk
theorem jz_callV7 {ix c n a : Nat} {v1 v2 v3 v4 v5 v6 v7 : Sv} (hd : decode Y.2.1 pc = .ok (.invokevirtual ix, 3)) (hM : VL Y.1.cls ix c Y1 n) (er : r = some a) (con : Con Y1 d1 mc1 ms1 (vr (some a) :: [v1, v2, v3, v4, v5, v6, v7]) h post1) (hk : hK h a = c + 1) (hn : 7 = n) (hdd : d1 < d) (hmc : mc1 ≤ mc) (hms : ms1 ≤ ms) (hs : (st.map ct).sum ≤ 8) (kk : ∀ (v : Option Sv) (u : Hp), post1 v u → J Y d (mc - mc1) (ms - ms1) post (pc + 3) lv (rs v st) u) : J Y d mc ms post pc lv (v7 :: v6 :: v5 :: v4 :: v3 :: v2 :: v1 :: vr r :: st) h := by subst er; exact j_callV7 hd hM con hk hn hdd hmc hms hs kk
theorem jz_callI0 {ix n a : Nat} (hd : decode Y.2.1 pc = .ok (.invokespecial ix, 3)) (hM : IL Y.1.cls ix Y1 n) (er : r = some a) (con : Con Y1 d1 mc1 ms1 (vr (some a) :: []) h post1) (hn : 0 = n) (hdd : d1 < d) (hmc : mc1 ≤ mc) (hms : ms1 ≤ ms) (hs : (st.map ct).sum ≤ 8) (kk : ∀ (v : Option Sv) (u : Hp), post1 v u → J Y d (mc - mc1) (ms - ms1) post (pc + 3) lv (rs v st) u) : J Y d mc ms post pc lv (vr r :: st) h := by subst er; exact j_callI0 hd hM con hn hdd hmc hms hs kk
theorem jz_callI1 {ix n a : Nat} {v1 : Sv} (hd : decode Y.2.1 pc = .ok (.invokespecial ix, 3)) (hM : IL Y.1.cls ix Y1 n) (er : r = some a) (con : Con Y1 d1 mc1 ms1 (vr (some a) :: [v1]) h post1) (hn : 1 = n) (hdd : d1 < d) (hmc : mc1 ≤ mc) (hms : ms1 ≤ ms) (hs : (st.map ct).sum ≤ 8) (kk : ∀ (v : Option Sv) (u : Hp), post1 v u → J Y d (mc - mc1) (ms - ms1) post (pc + 3) lv (rs v st) u) : J Y d mc ms post pc lv (v1 :: vr r :: st) h := by subst er; exact j_callI1 hd hM con hn hdd hmc hms hs kk
theorem jz_callI2 {ix n a : Nat} {v1 v2 : Sv} (hd : decode Y.2.1 pc = .ok (.invokespecial ix, 3)) (hM : IL Y.1.cls ix Y1 n) (er : r = some a) (con : Con Y1 d1 mc1 ms1 (vr (some a) :: [v1, v2]) h post1) (hn : 2 = n) (hdd : d1 < d) (hmc : mc1 ≤ mc) (hms : ms1 ≤ ms) (hs : (st.map ct).sum ≤ 8) (kk : ∀ (v : Option Sv) (u : Hp), post1 v u → J Y d (mc - mc1) (ms - ms1) post (pc + 3) lv (rs v st) u) : J Y d mc ms post pc lv (v2 :: v1 :: vr r :: st) h := by subst er; exact j_callI2 hd hM con hn hdd hmc hms hs kk
theorem jz_callI3 {ix n a : Nat} {v1 v2 v3 : Sv} (hd : decode Y.2.1 pc = .ok (.invokespecial ix, 3)) (hM : IL Y.1.cls ix Y1 n) (er : r = some a) (con : Con Y1 d1 mc1 ms1 (vr (some a) :: [v1, v2, v3]) h post1) (hn : 3 = n) (hdd : d1 < d) (hmc : mc1 ≤ mc) (hms : ms1 ≤ ms) (hs : (st.map ct).sum ≤ 8) (kk : ∀ (v : Option Sv) (u : Hp), post1 v u → J Y d (mc - mc1) (ms - ms1) post (pc + 3) lv (rs v st) u) : J Y d mc ms post pc lv (v3 :: v2 :: v1 :: vr r :: st) h := by subst er; exact j_callI3 hd hM con hn hdd hmc hms hs kk
theorem jz_callI4 {ix n a : Nat} {v1 v2 v3 v4 : Sv} (hd : decode Y.2.1 pc = .ok (.invokespecial ix, 3)) (hM : IL Y.1.cls ix Y1 n) (er : r = some a) (con : Con Y1 d1 mc1 ms1 (vr (some a) :: [v1, v2, v3, v4]) h post1) (hn : 4 = n) (hdd : d1 < d) (hmc : mc1 ≤ mc) (hms : ms1 ≤ ms) (hs : (st.map ct).sum ≤ 8) (kk : ∀ (v : Option Sv) (u : Hp), post1 v u → J Y d (mc - mc1) (ms - ms1) post (pc + 3) lv (rs v st) u) : J Y d mc ms post pc lv (v4 :: v3 :: v2 :: v1 :: vr r :: st) h := by subst er; exact j_callI4 hd hM con hn hdd hmc hms hs kk
theorem jz_callI5 {ix n a : Nat} {v1 v2 v3 v4 v5 : Sv} (hd : decode Y.2.1 pc = .ok (.invokespecial ix, 3)) (hM : IL Y.1.cls ix Y1 n) (er : r = some a) (con : Con Y1 d1 mc1 ms1 (vr (some a) :: [v1, v2, v3, v4, v5]) h post1) (hn : 5 = n) (hdd : d1 < d) (hmc : mc1 ≤ mc) (hms : ms1 ≤ ms) (hs : (st.map ct).sum ≤ 8) (kk : ∀ (v : Option Sv) (u : Hp), post1 v u → J Y d (mc - mc1) (ms - ms1) post (pc + 3) lv (rs v st) u) : J Y d mc ms post pc lv (v5 :: v4 :: v3 :: v2 :: v1 :: vr r :: st) h := by subst er; exact j_callI5 hd hM con hn hdd hmc hms hs kk
theorem jz_callI6 {ix n a : Nat} {v1 v2 v3 v4 v5 v6 : Sv} (hd : decode Y.2.1 pc = .ok (.invokespecial ix, 3)) (hM : IL Y.1.cls ix Y1 n) (er : r = some a) (con : Con Y1 d1 mc1 ms1 (vr (some a) :: [v1, v2, v3, v4, v5, v6]) h post1) (hn : 6 = n) (hdd : d1 < d) (hmc : mc1 ≤ mc) (hms : ms1 ≤ ms) (hs : (st.map ct).sum ≤ 8) (kk : ∀ (v : Option Sv) (u : Hp), post1 v u → J Y d (mc - mc1) (ms - ms1) post (pc + 3) lv (rs v st) u) : J Y d mc ms post pc lv (v6 :: v5 :: v4 :: v3 :: v2 :: v1 :: vr r :: st) h := by subst er; exact j_callI6 hd hM con hn hdd hmc hms hs kk
theorem jz_callI7 {ix n a : Nat} {v1 v2 v3 v4 v5 v6 v7 : Sv} (hd : decode Y.2.1 pc = .ok (.invokespecial ix, 3)) (hM : IL Y.1.cls ix Y1 n) (er : r = some a) (con : Con Y1 d1 mc1 ms1 (vr (some a) :: [v1, v2, v3, v4, v5, v6, v7]) h post1) (hn : 7 = n) (hdd : d1 < d) (hmc : mc1 ≤ mc) (hms : ms1 ≤ ms) (hs : (st.map ct).sum ≤ 8) (kk : ∀ (v : Option Sv) (u : Hp), post1 v u → J Y d (mc - mc1) (ms - ms1) post (pc + 3) lv (rs v st) u) : J Y d mc ms post pc lv (v7 :: v6 :: v5 :: v4 :: v3 :: v2 :: v1 :: vr r :: st) h := by subst er; exact j_callI7 hd hM con hn hdd hmc hms hs kk
theorem jz_callIN0 {ix n a : Nat} {host : String} (hd : decode Y.2.1 pc = .ok (.invokespecial ix, 3)) (hM : INL Y.1.cls ix host Y1 n) (er : r = some a) (con : Con Y1 d1 mc1 ms1 (vr (some a) :: []) h post1) (hn : 0 = n) (hdd : d1 < d) (hmc : mc1 ≤ mc) (hms : ms1 ≤ ms) (hs : (st.map ct).sum ≤ 8) (kk : ∀ (v : Option Sv) (u : Hp), post1 v u → J Y d (mc - mc1) (ms - ms1) post (pc + 3) lv (rs v st) u) : J Y d mc ms post pc lv (vr r :: st) h := by subst er; exact j_callIN0 hd hM con hn hdd hmc hms hs kk
theorem jz_callIN1 {ix n a : Nat} {host : String} {v1 : Sv} (hd : decode Y.2.1 pc = .ok (.invokespecial ix, 3)) (hM : INL Y.1.cls ix host Y1 n) (er : r = some a) (con : Con Y1 d1 mc1 ms1 (vr (some a) :: [v1]) h post1) (hn : 1 = n) (hdd : d1 < d) (hmc : mc1 ≤ mc) (hms : ms1 ≤ ms) (hs : (st.map ct).sum ≤ 8) (kk : ∀ (v : Option Sv) (u : Hp), post1 v u → J Y d (mc - mc1) (ms - ms1) post (pc + 3) lv (rs v st) u) : J Y d mc ms post pc lv (v1 :: vr r :: st) h := by subst er; exact j_callIN1 hd hM con hn hdd hmc hms hs kk
theorem jz_callIN2 {ix n a : Nat} {host : String} {v1 v2 : Sv} (hd : decode Y.2.1 pc = .ok (.invokespecial ix, 3)) (hM : INL Y.1.cls ix host Y1 n) (er : r = some a) (con : Con Y1 d1 mc1 ms1 (vr (some a) :: [v1, v2]) h post1) (hn : 2 = n) (hdd : d1 < d) (hmc : mc1 ≤ mc) (hms : ms1 ≤ ms) (hs : (st.map ct).sum ≤ 8) (kk : ∀ (v : Option Sv) (u : Hp), post1 v u → J Y d (mc - mc1) (ms - ms1) post (pc + 3) lv (rs v st) u) : J Y d mc ms post pc lv (v2 :: v1 :: vr r :: st) h := by subst er; exact j_callIN2 hd hM con hn hdd hmc hms hs kk
theorem jz_callIN3 {ix n a : Nat} {host : String} {v1 v2 v3 : Sv} (hd : decode Y.2.1 pc = .ok (.invokespecial ix, 3)) (hM : INL Y.1.cls ix host Y1 n) (er : r = some a) (con : Con Y1 d1 mc1 ms1 (vr (some a) :: [v1, v2, v3]) h post1) (hn : 3 = n) (hdd : d1 < d) (hmc : mc1 ≤ mc) (hms : ms1 ≤ ms) (hs : (st.map ct).sum ≤ 8) (kk : ∀ (v : Option Sv) (u : Hp), post1 v u → J Y d (mc - mc1) (ms - ms1) post (pc + 3) lv (rs v st) u) : J Y d mc ms post pc lv (v3 :: v2 :: v1 :: vr r :: st) h := by subst er; exact j_callIN3 hd hM con hn hdd hmc hms hs kk
theorem jz_callIN4 {ix n a : Nat} {host : String} {v1 v2 v3 v4 : Sv} (hd : decode Y.2.1 pc = .ok (.invokespecial ix, 3)) (hM : INL Y.1.cls ix host Y1 n) (er : r = some a) (con : Con Y1 d1 mc1 ms1 (vr (some a) :: [v1, v2, v3, v4]) h post1) (hn : 4 = n) (hdd : d1 < d) (hmc : mc1 ≤ mc) (hms : ms1 ≤ ms) (hs : (st.map ct).sum ≤ 8) (kk : ∀ (v : Option Sv) (u : Hp), post1 v u → J Y d (mc - mc1) (ms - ms1) post (pc + 3) lv (rs v st) u) : J Y d mc ms post pc lv (v4 :: v3 :: v2 :: v1 :: vr r :: st) h := by subst er; exact j_callIN4 hd hM con hn hdd hmc hms hs kk
theorem jz_callIN5 {ix n a : Nat} {host : String} {v1 v2 v3 v4 v5 : Sv} (hd : decode Y.2.1 pc = .ok (.invokespecial ix, 3)) (hM : INL Y.1.cls ix host Y1 n) (er : r = some a) (con : Con Y1 d1 mc1 ms1 (vr (some a) :: [v1, v2, v3, v4, v5]) h post1) (hn : 5 = n) (hdd : d1 < d) (hmc : mc1 ≤ mc) (hms : ms1 ≤ ms) (hs : (st.map ct).sum ≤ 8) (kk : ∀ (v : Option Sv) (u : Hp), post1 v u → J Y d (mc - mc1) (ms - ms1) post (pc + 3) lv (rs v st) u) : J Y d mc ms post pc lv (v5 :: v4 :: v3 :: v2 :: v1 :: vr r :: st) h := by subst er; exact j_callIN5 hd hM con hn hdd hmc hms hs kk
theorem jz_callIN6 {ix n a : Nat} {host : String} {v1 v2 v3 v4 v5 v6 : Sv} (hd : decode Y.2.1 pc = .ok (.invokespecial ix, 3)) (hM : INL Y.1.cls ix host Y1 n) (er : r = some a) (con : Con Y1 d1 mc1 ms1 (vr (some a) :: [v1, v2, v3, v4, v5, v6]) h post1) (hn : 6 = n) (hdd : d1 < d) (hmc : mc1 ≤ mc) (hms : ms1 ≤ ms) (hs : (st.map ct).sum ≤ 8) (kk : ∀ (v : Option Sv) (u : Hp), post1 v u → J Y d (mc - mc1) (ms - ms1) post (pc + 3) lv (rs v st) u) : J Y d mc ms post pc lv (v6 :: v5 :: v4 :: v3 :: v2 :: v1 :: vr r :: st) h := by subst er; exact j_callIN6 hd hM con hn hdd hmc hms hs kk
theorem jz_callIN7 {ix n a : Nat} {host : String} {v1 v2 v3 v4 v5 v6 v7 : Sv} (hd : decode Y.2.1 pc = .ok (.invokespecial ix, 3)) (hM : INL Y.1.cls ix host Y1 n) (er : r = some a) (con : Con Y1 d1 mc1 ms1 (vr (some a) :: [v1, v2, v3, v4, v5, v6, v7]) h post1) (hn : 7 = n) (hdd : d1 < d) (hmc : mc1 ≤ mc) (hms : ms1 ≤ ms) (hs : (st.map ct).sum ≤ 8) (kk : ∀ (v : Option Sv) (u : Hp), post1 v u → J Y d (mc - mc1) (ms - ms1) post (pc + 3) lv (rs v st) u) : J Y d mc ms post pc lv (v7 :: v6 :: v5 :: v4 :: v3 :: v2 :: v1 :: vr r :: st) h := by subst er; exact j_callIN7 hd hM con hn hdd hmc hms hs kk
end JK2
/-! ===== what a method leaves ===== -/
def QPI (h : Hp) (P : Int → Prop) : Option Sv → Hp → Prop := fun r u => ∃ x, r = some (ii x) ∧ R32 x ∧ u = h ∧ P x
def QPJ (h : Hp) (P : Int → Prop) : Option Sv → Hp → Prop := fun r u => ∃ x, r = some (ll x) ∧ R64 x ∧ u = h ∧ P x
def QPA (h : Hp) (P : Option Nat → Prop) : Option Sv → Hp → Prop := fun r u => ∃ x, r = some (vr x) ∧ u = h ∧ P x
def QPS (h : Hp) (P : Nat → Prop) : Option Sv → Hp → Prop := fun r u => ∃ x, r = some (vs x) ∧ u = h ∧ P x
def QPV (h : Hp) (P : Prop) : Option Sv → Hp → Prop := fun r u => r = none ∧ u = h ∧ P
def QMI (g : Nat → Nat) (P : Int → Mu → Prop) : Option Sv → Hp → Prop := fun r u => ∃ x w, r = some (ii x) ∧ R32 x ∧ Ms u g w ∧ P x w
def QMJ (g : Nat → Nat) (P : Int → Mu → Prop) : Option Sv → Hp → Prop := fun r u => ∃ x w, r = some (ll x) ∧ R64 x ∧ Ms u g w ∧ P x w
def QMV (g : Nat → Nat) (P : Mu → Prop) : Option Sv → Hp → Prop := fun r u => ∃ w, r = none ∧ Ms u g w ∧ P w
def QZI (P : Int → Z → Prop) : Option Sv → Hp → Prop := fun r u => ∃ x w, r = some (ii x) ∧ R32 x ∧ u = cz w ∧ Wz w ∧ P x w
def QZJ (P : Int → Z → Prop) : Option Sv → Hp → Prop := fun r u => ∃ x w, r = some (ll x) ∧ R64 x ∧ u = cz w ∧ Wz w ∧ P x w
def QZA (P : Option Nat → Z → Prop) : Option Sv → Hp → Prop := fun r u => ∃ x w, r = some (vr x) ∧ u = cz w ∧ Wz w ∧ P x w
def QZV (P : Z → Prop) : Option Sv → Hp → Prop := fun r u => ∃ w, r = none ∧ u = cz w ∧ Wz w ∧ P w
