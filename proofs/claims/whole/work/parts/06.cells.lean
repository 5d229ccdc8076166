/-! ===== fields, arrays, new cells ===== -/
/-- what the tables say of a system -/
def CL (c : Nat) (R : String) (T : u_T) : Prop := vwCl[c]? = some (R, T, fnum c) ∧ (∀ w ∈ u_ws R T (fnum c), w ∈ gtb) ∧ (∀ j, j < fnum c → parseFieldDescriptor (T j).2.2.1 = some (fty c j)) ∧ (∀ a, a < fnum c → ∀ b, b < fnum c → a ≠ b → (T a).2.1 ≠ (T b).2.1) ∧ c < 13
/-- number ix of system own is field k of system c -/
def FL (own : String) (ix c k : Nat) (fin : Bool) : Prop := ∃ (R : String) (T : u_T), CL c R T ∧ k < fnum c ∧ Cond.fieldLink own ix (T k).1 (T k).2.1 (T k).2.2.1 ∈ gtb ∧ (T k).2.2.2 = fin
def FD (own : String) (c k : Nat) : Prop := ∀ (R : String) (T : u_T), vwCl[c]? = some (R, T, fnum c) → (T k).1 = own
def nofl : FieldType → Bool
  | .float => false
  | .double => false
  | _ => true
theorem nofl_all : (List.range 13).all (fun c => (List.range (fnum c)).all (fun j => nofl (fty c j))) = true := by decide +kernel
theorem nofl_ok {c j : Nat} (hc : c < 13) (hj : j < fnum c) : nofl (fty c j) = true := List.all_eq_true.mp (List.all_eq_true.mp nofl_all c (List.mem_range.mpr hc)) j (List.mem_range.mpr hj)
section JH
variable {Y : MI} {d mc ms : Nat} {post : Option Sv ⊕ String → Hp → Prop} {pc : Nat} {lv : List (Option Sv)} {st : List Sv} {h : Hp}
theorem j_getI {ix c k a : Nat} {fin : Bool} (hd : decode Y.2.1 pc = .ok (.getfield ix, 3)) (hF : FL Y.1.cls ix c k fin) (ht : ity (fty c k) = 0) (hk : hK h a = c + 1) (kk : J Y d mc ms post (pc + 3) lv (vi (hI h a k) :: st) h) : J Y d mc ms post pc lv (vr (some a) :: st) h := by
  intro p l e s m args below meth c0 H locs cells slots ls Q D cy A MC MS C R hl h1 h2 hr hx
  obtain ⟨L, hL, hP, hD, hS⟩ := id R
  have ha : a ∈ L := (hL a).mpr (by omega)
  obtain ⟨n0, hn0⟩ := pl_get (f := ce cy h) ha
  obtain ⟨Rn, T, ⟨q1, q2, q3, q4, q5⟩, q6, q7, q8⟩ := hF
  rw [ce_o hk q5] at hn0
  exact va_get C.1 C.2.1 C.2.2.2.2.1 q2 C.2.2.2.1 C.2.2.2.2.2.1 hP n0 hn0 q1 k q6 (C.2.2.2.2.1 _ q7) (fun _ h => h) ((fvs_get _ _ _ q6).trans (by rw [fv_I ht]; rfl)) hd (kk p l e s m args below meth c0 H locs cells slots ls Q D cy A MC MS C R hl h1 h2 hr hx)
theorem j_getG {ix c k a : Nat} {fin : Bool} (hd : decode Y.2.1 pc = .ok (.getfield ix, 3)) (hF : FL Y.1.cls ix c k fin) (ht : ity (fty c k) = 1) (hk : hK h a = c + 1) (kk : J Y d mc ms post (pc + 3) lv (vl (hG h a k) :: st) h) : J Y d mc ms post pc lv (vr (some a) :: st) h := by
  intro p l e s m args below meth c0 H locs cells slots ls Q D cy A MC MS C R hl h1 h2 hr hx
  obtain ⟨L, hL, hP, hD, hS⟩ := id R
  have ha : a ∈ L := (hL a).mpr (by omega)
  obtain ⟨n0, hn0⟩ := pl_get (f := ce cy h) ha
  obtain ⟨Rn, T, ⟨q1, q2, q3, q4, q5⟩, q6, q7, q8⟩ := hF
  rw [ce_o hk q5] at hn0
  exact va_get C.1 C.2.1 C.2.2.2.2.1 q2 C.2.2.2.1 C.2.2.2.2.2.1 hP n0 hn0 q1 k q6 (C.2.2.2.2.1 _ q7) (fun _ h => h) ((fvs_get _ _ _ q6).trans (by rw [fv_G ht]; rfl)) hd (kk p l e s m args below meth c0 H locs cells slots ls Q D cy A MC MS C R hl h1 h2 hr hx)
theorem j_getO {ix c k a : Nat} {fin : Bool} (hd : decode Y.2.1 pc = .ok (.getfield ix, 3)) (hF : FL Y.1.cls ix c k fin) (ht : ity (fty c k) = 2) (hk : hK h a = c + 1) (kk : J Y d mc ms post (pc + 3) lv (vr (hO h a k) :: st) h) : J Y d mc ms post pc lv (vr (some a) :: st) h := by
  intro p l e s m args below meth c0 H locs cells slots ls Q D cy A MC MS C R hl h1 h2 hr hx
  obtain ⟨L, hL, hP, hD, hS⟩ := id R
  have ha : a ∈ L := (hL a).mpr (by omega)
  obtain ⟨n0, hn0⟩ := pl_get (f := ce cy h) ha
  obtain ⟨Rn, T, ⟨q1, q2, q3, q4, q5⟩, q6, q7, q8⟩ := hF
  rw [ce_o hk q5] at hn0
  exact va_get C.1 C.2.1 C.2.2.2.2.1 q2 C.2.2.2.1 C.2.2.2.2.2.1 hP n0 hn0 q1 k q6 (C.2.2.2.2.1 _ q7) (fun _ h => h) ((fvs_get _ _ _ q6).trans (by rw [fv_O ht]; rfl)) hd (kk p l e s m args below meth c0 H locs cells slots ls Q D cy A MC MS C R hl h1 h2 hr hx)
theorem j_getR {ix c k a b : Nat} {fin : Bool} (hd : decode Y.2.1 pc = .ok (.getfield ix, 3)) (hF : FL Y.1.cls ix c k fin) (ht : ity (fty c k) = 2) (hk : hK h a = c + 1) (hv : hO h a k = some b) (kk : J Y d mc ms post (pc + 3) lv (vr (some b) :: st) h) : J Y d mc ms post pc lv (vr (some a) :: st) h := j_getO hd hF ht hk (by rw [hv]; exact kk)
theorem j_putI {ix c k a : Nat} {x : Int32} (hd : decode Y.2.1 pc = .ok (.putfield ix, 3)) (hF : FL Y.1.cls ix c k false) (ht : ity (fty c k) = 0) (hn : narrow (fty c k) (.int x) = .int x) (hf : fits (fty c k) (.int x) = true) (hk : hK h a = c + 1) (kk : J Y d mc ms post (pc + 3) lv st (pI h a k x)) : J Y d mc ms post pc lv (vi x :: vr (some a) :: st) h := by
  intro p l e s m args below meth c0 H locs cells slots ls Q D cy A MC MS C R hl h1 h2 hr hx
  obtain ⟨L, hL, hP, hD, hS⟩ := id R
  have ha : a ∈ L := (hL a).mpr (by omega)
  obtain ⟨n0, hn0⟩ := pl_get (f := ce cy h) ha
  obtain ⟨Rn, T, ⟨q1, q2, q3, q4, q5⟩, q6, q7, q8⟩ := hF
  have hn1 := hn0
  rw [ce_o hk q5] at hn1
  refine va_put (v := .int x) C.1 C.2.1 C.2.2.2.2.1 q2 (fty c) q3 q4 C.2.2.2.1 C.2.2.2.2.2.1 hP hD hS n0 hn1 q1 k q6 (C.2.2.2.2.1 _ q7) (fun _ h => h) q8 (q3 k q6) hn hf (by rw [fvs_len]; exact q6) hd (fun H1 locs1 hP1 hD1 hS1 => (kk p l e s m args below meth c0 H1 locs1 cells slots ls Q D cy A MC MS C ?_ hl h1 h2 hr hx))
  refine Rp_set hL (fun _ => rfl) hD ha hn0 ((ce_o (h := pI h a k x) hk q5).trans ?_) (fun b hb => ce_congr rfl rfl ?_ ?_ ?_) hP1 hD1 hS1
  · rw [fvs_set (g := pI h a k x) (v := .int x)]
    · rw [fv_I ht]; simp [hI, pI, u2]
    · intro j hj; exact fv_eq (by simp [hI, pI, u2, hj]) (by simp [hG, pI, u2, hj]) (by simp [hO, pI, u2, hj])
  · funext j; simp [hI, pI, u2, hb]
  · funext j; simp [hG, pI, u2, hb]
  · funext j; simp [hO, pI, u2, hb]
theorem j_putIF {ix c k a : Nat} {x : Int32} (hd : decode Y.2.1 pc = .ok (.putfield ix, 3)) (hF : FL Y.1.cls ix c k true) (hin : Y.1.name = "<init>") (hdc : FD Y.1.cls c k) (ht : ity (fty c k) = 0) (hn : narrow (fty c k) (.int x) = .int x) (hf : fits (fty c k) (.int x) = true) (hk : hK h a = c + 1) (kk : J Y d mc ms post (pc + 3) lv st (pI h a k x)) : J Y d mc ms post pc lv (vi x :: vr (some a) :: st) h := by
  intro p l e s m args below meth c0 H locs cells slots ls Q D cy A MC MS C R hl h1 h2 hr hx
  obtain ⟨L, hL, hP, hD, hS⟩ := id R
  have ha : a ∈ L := (hL a).mpr (by omega)
  obtain ⟨n0, hn0⟩ := pl_get (f := ce cy h) ha
  obtain ⟨Rn, T, ⟨q1, q2, q3, q4, q5⟩, q6, q7, q8⟩ := hF
  have hn1 := hn0
  rw [ce_o hk q5] at hn1
  refine va_putF (v := .int x) C.1 C.2.1 C.2.2.2.2.1 q2 (fty c) q3 q4 C.2.2.2.1 C.2.2.2.2.2.1 hP hD hS n0 hn1 q1 k q6 (C.2.2.2.2.1 _ q7) (fun _ h => h) q8 (C.2.2.2.2.2.2.2.2.1.trans hin) (hdc Rn T q1) (q3 k q6) hn hf (by rw [fvs_len]; exact q6) hd (fun H1 locs1 hP1 hD1 hS1 => (kk p l e s m args below meth c0 H1 locs1 cells slots ls Q D cy A MC MS C ?_ hl h1 h2 hr hx))
  refine Rp_set hL (fun _ => rfl) hD ha hn0 ((ce_o (h := pI h a k x) hk q5).trans ?_) (fun b hb => ce_congr rfl rfl ?_ ?_ ?_) hP1 hD1 hS1
  · rw [fvs_set (g := pI h a k x) (v := .int x)]
    · rw [fv_I ht]; simp [hI, pI, u2]
    · intro j hj; exact fv_eq (by simp [hI, pI, u2, hj]) (by simp [hG, pI, u2, hj]) (by simp [hO, pI, u2, hj])
  · funext j; simp [hI, pI, u2, hb]
  · funext j; simp [hG, pI, u2, hb]
  · funext j; simp [hO, pI, u2, hb]
theorem j_putG {ix c k a : Nat} {x : Int64} (hd : decode Y.2.1 pc = .ok (.putfield ix, 3)) (hF : FL Y.1.cls ix c k false) (ht : ity (fty c k) = 1) (hn : narrow (fty c k) (.long x) = .long x) (hf : fits (fty c k) (.long x) = true) (hk : hK h a = c + 1) (kk : J Y d mc ms post (pc + 3) lv st (pG h a k x)) : J Y d mc ms post pc lv (vl x :: vr (some a) :: st) h := by
  intro p l e s m args below meth c0 H locs cells slots ls Q D cy A MC MS C R hl h1 h2 hr hx
  obtain ⟨L, hL, hP, hD, hS⟩ := id R
  have ha : a ∈ L := (hL a).mpr (by omega)
  obtain ⟨n0, hn0⟩ := pl_get (f := ce cy h) ha
  obtain ⟨Rn, T, ⟨q1, q2, q3, q4, q5⟩, q6, q7, q8⟩ := hF
  have hn1 := hn0
  rw [ce_o hk q5] at hn1
  refine va_put (v := .long x) C.1 C.2.1 C.2.2.2.2.1 q2 (fty c) q3 q4 C.2.2.2.1 C.2.2.2.2.2.1 hP hD hS n0 hn1 q1 k q6 (C.2.2.2.2.1 _ q7) (fun _ h => h) q8 (q3 k q6) hn hf (by rw [fvs_len]; exact q6) hd (fun H1 locs1 hP1 hD1 hS1 => (kk p l e s m args below meth c0 H1 locs1 cells slots ls Q D cy A MC MS C ?_ hl h1 h2 hr hx))
  refine Rp_set hL (fun _ => rfl) hD ha hn0 ((ce_o (h := pG h a k x) hk q5).trans ?_) (fun b hb => ce_congr rfl rfl ?_ ?_ ?_) hP1 hD1 hS1
  · rw [fvs_set (g := pG h a k x) (v := .long x)]
    · rw [fv_G ht]; simp [hG, pG, u2]
    · intro j hj; exact fv_eq (by simp [hI, pG, u2, hj]) (by simp [hG, pG, u2, hj]) (by simp [hO, pG, u2, hj])
  · funext j; simp [hI, pG, u2, hb]
  · funext j; simp [hG, pG, u2, hb]
  · funext j; simp [hO, pG, u2, hb]
theorem j_putGF {ix c k a : Nat} {x : Int64} (hd : decode Y.2.1 pc = .ok (.putfield ix, 3)) (hF : FL Y.1.cls ix c k true) (hin : Y.1.name = "<init>") (hdc : FD Y.1.cls c k) (ht : ity (fty c k) = 1) (hn : narrow (fty c k) (.long x) = .long x) (hf : fits (fty c k) (.long x) = true) (hk : hK h a = c + 1) (kk : J Y d mc ms post (pc + 3) lv st (pG h a k x)) : J Y d mc ms post pc lv (vl x :: vr (some a) :: st) h := by
  intro p l e s m args below meth c0 H locs cells slots ls Q D cy A MC MS C R hl h1 h2 hr hx
  obtain ⟨L, hL, hP, hD, hS⟩ := id R
  have ha : a ∈ L := (hL a).mpr (by omega)
  obtain ⟨n0, hn0⟩ := pl_get (f := ce cy h) ha
  obtain ⟨Rn, T, ⟨q1, q2, q3, q4, q5⟩, q6, q7, q8⟩ := hF
  have hn1 := hn0
  rw [ce_o hk q5] at hn1
  refine va_putF (v := .long x) C.1 C.2.1 C.2.2.2.2.1 q2 (fty c) q3 q4 C.2.2.2.1 C.2.2.2.2.2.1 hP hD hS n0 hn1 q1 k q6 (C.2.2.2.2.1 _ q7) (fun _ h => h) q8 (C.2.2.2.2.2.2.2.2.1.trans hin) (hdc Rn T q1) (q3 k q6) hn hf (by rw [fvs_len]; exact q6) hd (fun H1 locs1 hP1 hD1 hS1 => (kk p l e s m args below meth c0 H1 locs1 cells slots ls Q D cy A MC MS C ?_ hl h1 h2 hr hx))
  refine Rp_set hL (fun _ => rfl) hD ha hn0 ((ce_o (h := pG h a k x) hk q5).trans ?_) (fun b hb => ce_congr rfl rfl ?_ ?_ ?_) hP1 hD1 hS1
  · rw [fvs_set (g := pG h a k x) (v := .long x)]
    · rw [fv_G ht]; simp [hG, pG, u2]
    · intro j hj; exact fv_eq (by simp [hI, pG, u2, hj]) (by simp [hG, pG, u2, hj]) (by simp [hO, pG, u2, hj])
  · funext j; simp [hI, pG, u2, hb]
  · funext j; simp [hG, pG, u2, hb]
  · funext j; simp [hO, pG, u2, hb]
theorem j_putO {ix c k a : Nat} {x : Option Nat} (hd : decode Y.2.1 pc = .ok (.putfield ix, 3)) (hF : FL Y.1.cls ix c k false) (ht : ity (fty c k) = 2) (hk : hK h a = c + 1) (kk : J Y d mc ms post (pc + 3) lv st (pO h a k x)) : J Y d mc ms post pc lv (vr x :: vr (some a) :: st) h := by
  intro p l e s m args below meth c0 H locs cells slots ls Q D cy A MC MS C R hl h1 h2 hr hx
  obtain ⟨L, hL, hP, hD, hS⟩ := id R
  have ha : a ∈ L := (hL a).mpr (by omega)
  obtain ⟨n0, hn0⟩ := pl_get (f := ce cy h) ha
  obtain ⟨Rn, T, ⟨q1, q2, q3, q4, q5⟩, q6, q7, q8⟩ := hF
  have hn : narrow (fty c k) (va_rf x) = va_rf x := by cases x <;> (generalize fty c k = t at ht; cases t <;> first | rfl | cases ht)
  have hf : fits (fty c k) (va_rf x) = true := by cases x <;> (generalize fty c k = t at ht; cases t <;> first | rfl | cases ht)
  have hn1 := hn0
  rw [ce_o hk q5] at hn1
  refine va_put (v := va_rf x) C.1 C.2.1 C.2.2.2.2.1 q2 (fty c) q3 q4 C.2.2.2.1 C.2.2.2.2.2.1 hP hD hS n0 hn1 q1 k q6 (C.2.2.2.2.1 _ q7) (fun _ h => h) q8 (q3 k q6) hn hf (by rw [fvs_len]; exact q6) hd (fun H1 locs1 hP1 hD1 hS1 => (kk p l e s m args below meth c0 H1 locs1 cells slots ls Q D cy A MC MS C ?_ hl h1 h2 hr hx))
  refine Rp_set hL (fun _ => rfl) hD ha hn0 ((ce_o (h := pO h a k x) hk q5).trans ?_) (fun b hb => ce_congr rfl rfl ?_ ?_ ?_) hP1 hD1 hS1
  · rw [fvs_set (g := pO h a k x) (v := va_rf x)]
    · rw [fv_O ht]; simp [hO, pO, u2]
    · intro j hj; exact fv_eq (by simp [hI, pO, u2, hj]) (by simp [hG, pO, u2, hj]) (by simp [hO, pO, u2, hj])
  · funext j; simp [hI, pO, u2, hb]
  · funext j; simp [hG, pO, u2, hb]
  · funext j; simp [hO, pO, u2, hb]
theorem j_putOF {ix c k a : Nat} {x : Option Nat} (hd : decode Y.2.1 pc = .ok (.putfield ix, 3)) (hF : FL Y.1.cls ix c k true) (hin : Y.1.name = "<init>") (hdc : FD Y.1.cls c k) (ht : ity (fty c k) = 2) (hk : hK h a = c + 1) (kk : J Y d mc ms post (pc + 3) lv st (pO h a k x)) : J Y d mc ms post pc lv (vr x :: vr (some a) :: st) h := by
  intro p l e s m args below meth c0 H locs cells slots ls Q D cy A MC MS C R hl h1 h2 hr hx
  obtain ⟨L, hL, hP, hD, hS⟩ := id R
  have ha : a ∈ L := (hL a).mpr (by omega)
  obtain ⟨n0, hn0⟩ := pl_get (f := ce cy h) ha
  obtain ⟨Rn, T, ⟨q1, q2, q3, q4, q5⟩, q6, q7, q8⟩ := hF
  have hn : narrow (fty c k) (va_rf x) = va_rf x := by cases x <;> (generalize fty c k = t at ht; cases t <;> first | rfl | cases ht)
  have hf : fits (fty c k) (va_rf x) = true := by cases x <;> (generalize fty c k = t at ht; cases t <;> first | rfl | cases ht)
  have hn1 := hn0
  rw [ce_o hk q5] at hn1
  refine va_putF (v := va_rf x) C.1 C.2.1 C.2.2.2.2.1 q2 (fty c) q3 q4 C.2.2.2.1 C.2.2.2.2.2.1 hP hD hS n0 hn1 q1 k q6 (C.2.2.2.2.1 _ q7) (fun _ h => h) q8 (C.2.2.2.2.2.2.2.2.1.trans hin) (hdc Rn T q1) (q3 k q6) hn hf (by rw [fvs_len]; exact q6) hd (fun H1 locs1 hP1 hD1 hS1 => (kk p l e s m args below meth c0 H1 locs1 cells slots ls Q D cy A MC MS C ?_ hl h1 h2 hr hx))
  refine Rp_set hL (fun _ => rfl) hD ha hn0 ((ce_o (h := pO h a k x) hk q5).trans ?_) (fun b hb => ce_congr rfl rfl ?_ ?_ ?_) hP1 hD1 hS1
  · rw [fvs_set (g := pO h a k x) (v := va_rf x)]
    · rw [fv_O ht]; simp [hO, pO, u2]
    · intro j hj; exact fv_eq (by simp [hI, pO, u2, hj]) (by simp [hG, pO, u2, hj]) (by simp [hO, pO, u2, hj])
  · funext j; simp [hI, pO, u2, hb]
  · funext j; simp [hG, pO, u2, hb]
  · funext j; simp [hO, pO, u2, hb]
theorem j_iald {a : Nat} {i : Int32} (n : Nat) (hd : decode Y.2.1 pc = .ok (.iaload, 1)) (hk : hK h a = 15) (hi : i = nI n) (hn : n < hN h a) (hN1 : hN h a < 2 ^ 31) (kk : J Y d mc ms post (pc + 1) lv (vi (hI h a n) :: st) h) : J Y d mc ms post pc lv (vi i :: vr (some a) :: st) h := by
  intro p l e s m args below meth c0 H locs cells slots ls Q D cy A MC MS C R hl h1 h2 hr hx
  obtain ⟨L, hL, hP, hD, hS⟩ := id R
  have ha : a ∈ L := (hL a).mpr (by omega)
  obtain ⟨n0, hn0⟩ := pl_get (f := ce cy h) ha
  subst hi
  rw [ce_i (c := 1) hk (by decide) (by decide)] at hn0
  refine va_iald C.1 C.2.1 C.2.2.2.2.2.1 hP n0 1 hn0 rfl (vp_in_nI hn hN1) hd ?_
  rw [nI_clamp (by omega)]
  exact (kk p l e s m args below meth c0 H locs cells slots ls Q D cy A MC MS C R hl h1 h2 hr hx)
theorem j_bald {a : Nat} {i : Int32} (n : Nat) (hd : decode Y.2.1 pc = .ok (.baload, 1)) (hk : hK h a = 14) (hi : i = nI n) (hn : n < hN h a) (hN1 : hN h a < 2 ^ 31) (kk : J Y d mc ms post (pc + 1) lv (vi (hI h a n) :: st) h) : J Y d mc ms post pc lv (vi i :: vr (some a) :: st) h := by
  intro p l e s m args below meth c0 H locs cells slots ls Q D cy A MC MS C R hl h1 h2 hr hx
  obtain ⟨L, hL, hP, hD, hS⟩ := id R
  have ha : a ∈ L := (hL a).mpr (by omega)
  obtain ⟨n0, hn0⟩ := pl_get (f := ce cy h) ha
  subst hi
  rw [ce_i (c := 0) hk (by decide) (by decide)] at hn0
  refine va_bald C.1 C.2.1 C.2.2.2.2.2.1 hP n0 0 hn0 rfl (vp_in_nI hn hN1) hd ?_
  rw [nI_clamp (by omega)]
  exact (kk p l e s m args below meth c0 H locs cells slots ls Q D cy A MC MS C R hl h1 h2 hr hx)
theorem j_zald {a : Nat} {i : Int32} (n : Nat) (hd : decode Y.2.1 pc = .ok (.baload, 1)) (hk : hK h a = 17) (hi : i = nI n) (hn : n < hN h a) (hN1 : hN h a < 2 ^ 31) (kk : J Y d mc ms post (pc + 1) lv (vi (hI h a n) :: st) h) : J Y d mc ms post pc lv (vi i :: vr (some a) :: st) h := by
  intro p l e s m args below meth c0 H locs cells slots ls Q D cy A MC MS C R hl h1 h2 hr hx
  obtain ⟨L, hL, hP, hD, hS⟩ := id R
  have ha : a ∈ L := (hL a).mpr (by omega)
  obtain ⟨n0, hn0⟩ := pl_get (f := ce cy h) ha
  subst hi
  rw [ce_i (c := 3) hk (by decide) (by decide)] at hn0
  refine va_zald C.1 C.2.1 C.2.2.2.2.2.1 hP n0 3 hn0 rfl (vp_in_nI hn hN1) hd ?_
  rw [nI_clamp (by omega)]
  exact (kk p l e s m args below meth c0 H locs cells slots ls Q D cy A MC MS C R hl h1 h2 hr hx)
theorem j_lald {a : Nat} {i : Int32} (n : Nat) (hd : decode Y.2.1 pc = .ok (.laload, 1)) (hk : hK h a = 16) (hi : i = nI n) (hn : n < hN h a) (hN1 : hN h a < 2 ^ 31) (kk : J Y d mc ms post (pc + 1) lv (vl (hG h a n) :: st) h) : J Y d mc ms post pc lv (vi i :: vr (some a) :: st) h := by
  intro p l e s m args below meth c0 H locs cells slots ls Q D cy A MC MS C R hl h1 h2 hr hx
  obtain ⟨L, hL, hP, hD, hS⟩ := id R
  have ha : a ∈ L := (hL a).mpr (by omega)
  obtain ⟨n0, hn0⟩ := pl_get (f := ce cy h) ha
  subst hi
  rw [ce_l hk] at hn0
  refine va_lald C.1 C.2.1 C.2.2.2.2.2.1 hP n0 2 hn0 rfl (vp_in_nI hn hN1) hd ?_
  rw [nI_clamp (by omega)]
  exact (kk p l e s m args below meth c0 H locs cells slots ls Q D cy A MC MS C R hl h1 h2 hr hx)
def arc : Nat → Nat
  | 4 => 0 | 5 => 1 | 6 => 4 | 7 => 6 | _ => 8
theorem ty9_q (cy : Nat → ClassId) {t : Nat} (h1 : 4 ≤ t) (h2 : t < 9) : ∃ r : vw_C, (ty9 cy)[t]? = some (cy t, .object r.1) ∧ vwCl[arc t]? = some r := by
  rcases (show t = 4 ∨ t = 5 ∨ t = 6 ∨ t = 7 ∨ t = 8 by omega) with rfl | rfl | rfl | rfl | rfl <;> exact ⟨_, rfl, rfl⟩
theorem ty9_a (cy : Nat → ClassId) {t : Nat} (h2 : t < 9) : ∃ ty : FieldType, (ty9 cy)[t]? = some (cy t, ty) := by
  rcases (show t = 0 ∨ t = 1 ∨ t = 2 ∨ t = 3 ∨ t = 4 ∨ t = 5 ∨ t = 6 ∨ t = 7 ∨ t = 8 by omega) with rfl | rfl | rfl | rfl | rfl | rfl | rfl | rfl | rfl <;> exact ⟨_, rfl⟩
theorem j_aald {a t : Nat} {i : Int32} (n : Nat) (hd : decode Y.2.1 pc = .ok (.aaload, 1)) (hk : hK h a = t + 14) (ht : 4 ≤ t) (ht2 : t < 9) (hi : i = nI n) (hn : n < hN h a) (hN1 : hN h a < 2 ^ 31) (kk : J Y d mc ms post (pc + 1) lv (vr (hO h a n) :: st) h) : J Y d mc ms post pc lv (vi i :: vr (some a) :: st) h := by
  intro p l e s m args below meth c0 H locs cells slots ls Q D cy A MC MS C R hl h1 h2 hr hx
  obtain ⟨L, hL, hP, hD, hS⟩ := id R
  have ha : a ∈ L := (hL a).mpr (by omega)
  obtain ⟨n0, hn0⟩ := pl_get (f := ce cy h) ha
  subst hi
  rw [ce_q hk ht] at hn0
  obtain ⟨r, hr1, hr2⟩ := ty9_q cy ht ht2
  refine va_aldq C.1 C.2.1 C.2.2.2.2.2.1 hP n0 t hn0 hr1 (vp_in_nI hn hN1) hd ?_
  rw [nI_clamp (by omega)]
  exact (kk p l e s m args below meth c0 H locs cells slots ls Q D cy A MC MS C R hl h1 h2 hr hx)
theorem j_iast {a : Nat} {i : Int32} {x : Int32} (n : Nat) (hd : decode Y.2.1 pc = .ok (.iastore, 1)) (hk : hK h a = 15) (hi : i = nI n) (hn : n < hN h a) (hN1 : hN h a < 2 ^ 31) (kk : J Y d mc ms post (pc + 1) lv st (pI h a n x)) : J Y d mc ms post pc lv (vi x :: vi i :: vr (some a) :: st) h := by
  intro p l e s m args below meth c0 H locs cells slots ls Q D cy A MC MS C R hl h1 h2 hr hx
  obtain ⟨L, hL, hP, hD, hS⟩ := id R
  have ha : a ∈ L := (hL a).mpr (by omega)
  obtain ⟨n0, hn0⟩ := pl_get (f := ce cy h) ha
  subst hi
  have hn1 := hn0
  rw [ce_i (c := 1) hk (by decide) (by decide)] at hn1
  refine va_iast C.1 C.2.1 C.2.2.2.2.2.1 hP hD hS n0 1 hn1 rfl (vp_in_nI hn hN1) hd (fun H1 locs1 hP1 hD1 hS1 => (kk p l e s m args below meth c0 H1 locs1 cells slots ls Q D cy A MC MS C ?_ hl h1 h2 hr hx))
  rw [nI_clamp (by omega)] at hP1 hD1
  refine Rp_set hL (fun _ => rfl) hD ha hn0 ((ce_i (c := 1) (h := pI h a n x) hk (by decide) (by decide)).trans ?_) (fun b hb => ce_congr rfl rfl ?_ ?_ ?_) hP1 hD1 hS1
  · have e9 : hI (pI h a n x) a = upd (hI h a) n x := by funext j; by_cases hj : j = n <;> simp [hI, pI, u2, upd, vp_updL, hj]
    rw [e9]; rfl
  · funext j; simp [hI, pI, u2, hb]
  · funext j; simp [hG, pI, u2, hb]
  · funext j; simp [hO, pI, u2, hb]
theorem j_bast {a : Nat} {i : Int32} {x : Int32} (n : Nat) (hd : decode Y.2.1 pc = .ok (.bastore, 1)) (hk : hK h a = 14) (hi : i = nI n) (hn : n < hN h a) (hN1 : hN h a < 2 ^ 31) (hxx : vp_nar .byte x = x) (kk : J Y d mc ms post (pc + 1) lv st (pI h a n x)) : J Y d mc ms post pc lv (vi x :: vi i :: vr (some a) :: st) h := by
  intro p l e s m args below meth c0 H locs cells slots ls Q D cy A MC MS C R hl h1 h2 hr hx
  obtain ⟨L, hL, hP, hD, hS⟩ := id R
  have ha : a ∈ L := (hL a).mpr (by omega)
  obtain ⟨n0, hn0⟩ := pl_get (f := ce cy h) ha
  subst hi
  have hn1 := hn0
  rw [ce_i (c := 0) hk (by decide) (by decide)] at hn1
  refine va_bast C.1 C.2.1 C.2.2.2.2.2.1 hP hD hS n0 0 hn1 rfl (vp_in_nI hn hN1) hd (fun H1 locs1 hP1 hD1 hS1 => (kk p l e s m args below meth c0 H1 locs1 cells slots ls Q D cy A MC MS C ?_ hl h1 h2 hr hx))
  rw [nI_clamp (by omega)] at hP1 hD1
  rw [hxx] at hP1 hD1
  refine Rp_set hL (fun _ => rfl) hD ha hn0 ((ce_i (c := 0) (h := pI h a n x) hk (by decide) (by decide)).trans ?_) (fun b hb => ce_congr rfl rfl ?_ ?_ ?_) hP1 hD1 hS1
  · have e9 : hI (pI h a n x) a = upd (hI h a) n x := by funext j; by_cases hj : j = n <;> simp [hI, pI, u2, upd, vp_updL, hj]
    rw [e9]; rfl
  · funext j; simp [hI, pI, u2, hb]
  · funext j; simp [hG, pI, u2, hb]
  · funext j; simp [hO, pI, u2, hb]
theorem j_zast {a : Nat} {i : Int32} {x : Int32} (n : Nat) (hd : decode Y.2.1 pc = .ok (.bastore, 1)) (hk : hK h a = 17) (hi : i = nI n) (hn : n < hN h a) (hN1 : hN h a < 2 ^ 31) (hxx : vp_nar .boolean x = x) (kk : J Y d mc ms post (pc + 1) lv st (pI h a n x)) : J Y d mc ms post pc lv (vi x :: vi i :: vr (some a) :: st) h := by
  intro p l e s m args below meth c0 H locs cells slots ls Q D cy A MC MS C R hl h1 h2 hr hx
  obtain ⟨L, hL, hP, hD, hS⟩ := id R
  have ha : a ∈ L := (hL a).mpr (by omega)
  obtain ⟨n0, hn0⟩ := pl_get (f := ce cy h) ha
  subst hi
  have hn1 := hn0
  rw [ce_i (c := 3) hk (by decide) (by decide)] at hn1
  refine va_zast C.1 C.2.1 C.2.2.2.2.2.1 hP hD hS n0 3 hn1 rfl (vp_in_nI hn hN1) hd (fun H1 locs1 hP1 hD1 hS1 => (kk p l e s m args below meth c0 H1 locs1 cells slots ls Q D cy A MC MS C ?_ hl h1 h2 hr hx))
  rw [nI_clamp (by omega)] at hP1 hD1
  rw [hxx] at hP1 hD1
  refine Rp_set hL (fun _ => rfl) hD ha hn0 ((ce_i (c := 3) (h := pI h a n x) hk (by decide) (by decide)).trans ?_) (fun b hb => ce_congr rfl rfl ?_ ?_ ?_) hP1 hD1 hS1
  · have e9 : hI (pI h a n x) a = upd (hI h a) n x := by funext j; by_cases hj : j = n <;> simp [hI, pI, u2, upd, vp_updL, hj]
    rw [e9]; rfl
  · funext j; simp [hI, pI, u2, hb]
  · funext j; simp [hG, pI, u2, hb]
  · funext j; simp [hO, pI, u2, hb]
theorem j_last {a : Nat} {i : Int32} {x : Int64} (n : Nat) (hd : decode Y.2.1 pc = .ok (.lastore, 1)) (hk : hK h a = 16) (hi : i = nI n) (hn : n < hN h a) (hN1 : hN h a < 2 ^ 31) (kk : J Y d mc ms post (pc + 1) lv st (pG h a n x)) : J Y d mc ms post pc lv (vl x :: vi i :: vr (some a) :: st) h := by
  intro p l e s m args below meth c0 H locs cells slots ls Q D cy A MC MS C R hl h1 h2 hr hx
  obtain ⟨L, hL, hP, hD, hS⟩ := id R
  have ha : a ∈ L := (hL a).mpr (by omega)
  obtain ⟨n0, hn0⟩ := pl_get (f := ce cy h) ha
  subst hi
  have hn1 := hn0
  rw [ce_l hk] at hn1
  refine va_last C.1 C.2.1 C.2.2.2.2.2.1 hP hD hS n0 2 hn1 rfl (vp_in_nI hn hN1) hd (fun H1 locs1 hP1 hD1 hS1 => (kk p l e s m args below meth c0 H1 locs1 cells slots ls Q D cy A MC MS C ?_ hl h1 h2 hr hx))
  rw [nI_clamp (by omega)] at hP1 hD1
  refine Rp_set hL (fun _ => rfl) hD ha hn0 ((ce_l (h := pG h a n x) hk).trans ?_) (fun b hb => ce_congr rfl rfl ?_ ?_ ?_) hP1 hD1 hS1
  · have e9 : hG (pG h a n x) a = vp_updL (hG h a) n x := by funext j; by_cases hj : j = n <;> simp [hG, pG, u2, upd, vp_updL, hj]
    rw [e9]; rfl
  · funext j; simp [hI, pG, u2, hb]
  · funext j; simp [hG, pG, u2, hb]
  · funext j; simp [hO, pG, u2, hb]
theorem j_aast {a t : Nat} {i : Int32} {x : Option Nat} (n : Nat) (hd : decode Y.2.1 pc = .ok (.aastore, 1)) (hk : hK h a = t + 14) (ht : 4 ≤ t) (ht2 : t < 9) (hi : i = nI n) (hn : n < hN h a) (hN1 : hN h a < 2 ^ 31) (hv : ∀ v, x = some v → hK h v = arc t + 1) (kk : J Y d mc ms post (pc + 1) lv st (pO h a n x)) : J Y d mc ms post pc lv (vr x :: vi i :: vr (some a) :: st) h := by
  intro p l e s m args below meth c0 H locs cells slots ls Q D cy A MC MS C R hl h1 h2 hr hx
  obtain ⟨L, hL, hP, hD, hS⟩ := id R
  have ha : a ∈ L := (hL a).mpr (by omega)
  obtain ⟨n0, hn0⟩ := pl_get (f := ce cy h) ha
  subst hi
  have hn1 := hn0
  rw [ce_q hk ht] at hn1
  obtain ⟨r, hr1, hr2⟩ := ty9_q cy ht ht2
  have hac : arc t < 13 := by rcases (show t = 4 ∨ t = 5 ∨ t = 6 ∨ t = 7 ∨ t = 8 by omega) with rfl | rfl | rfl | rfl | rfl <;> decide
  have fin : ∀ (H1 : Heap) (locs1 : List Loc), va_P D vwCl ((va_pl L (ce cy h)).set n0 (a, .inl (cy t, hN h a, .inr (.inr (.inr (.inr (va_up (hO h a) n x))))))) H1 → va_D A ((va_pl L (ce cy h)).set n0 (a, .inl (cy t, hN h a, .inr (.inr (.inr (.inr (va_up (hO h a) n x))))))) → va_S A s.heap H1 locs1 → Rp D cy A s.heap H1 locs1 (pO h a n x) := fun H1 locs1 hP1 hD1 hS1 => by
    refine Rp_set hL (fun _ => rfl) hD ha hn0 ((ce_q (h := pO h a n x) hk ht).trans ?_) (fun b hb => ce_congr rfl rfl ?_ ?_ ?_) hP1 hD1 hS1
    · have e9 : hO (pO h a n x) a = va_up (hO h a) n x := by funext j; by_cases hj : j = n <;> simp [hO, pO, u2, va_up, hj]
      rw [e9]; rfl
    · funext j; simp [hI, pO, u2, hb]
    · funext j; simp [hG, pO, u2, hb]
    · funext j; simp [hO, pO, u2, hb]
  have hcl : (nI n).toNatClampNeg = n := nI_clamp (by omega)
  cases x with
  | none =>
    refine va_astqN C.1 C.2.1 C.2.2.2.2.2.1 hP hD hS n0 t hn1 hr1 (vp_in_nI hn hN1) hd (fun H1 locs1 hP1 hD1 hS1 => ?_)
    rw [hcl] at hP1 hD1
    exact (kk p l e s m args below meth c0 H1 locs1 cells slots ls Q D cy A MC MS C (fin H1 locs1 hP1 hD1 hS1) hl h1 h2 hr hx)
  | some v =>
    have hkv := hv v rfl
    obtain ⟨n2, hn2⟩ := pl_get (f := ce cy h) ((hL v).mpr (by omega))
    rw [ce_o hkv hac] at hn2
    refine va_astq C.1 C.2.1 C.2.2.2.2.2.1 hP hD hS n0 t n2 (arc t) hn1 hr1 hn2 hr2 (vp_in_nI hn hN1) hd (fun H1 locs1 hP1 hD1 hS1 => ?_)
    rw [hcl] at hP1 hD1
    exact (kk p l e s m args below meth c0 H1 locs1 cells slots ls Q D cy A MC MS C (fin H1 locs1 hP1 hD1 hS1) hl h1 h2 hr hx)
theorem ce_a {cy : Nat → ClassId} {h : Hp} {a t : Nat} (hk : hK h a = t + 14) : ∃ x : vp_A, ce cy h a = .inl (cy t, x) ∧ x.1 = hN h a := by
  rw [ce, if_neg (by omega), hk]; exact ⟨_, rfl, rfl⟩
theorem j_alen {a t : Nat} (hd : decode Y.2.1 pc = .ok (.arraylength, 1)) (hk : hK h a = t + 14) (ht : t < 9) (kk : J Y d mc ms post (pc + 1) lv (vi (nI (hN h a)) :: st) h) : J Y d mc ms post pc lv (vr (some a) :: st) h := by
  intro p l e s m args below meth c0 H locs cells slots ls Q D cy A MC MS C R hl h1 h2 hr hx
  obtain ⟨L, hL, hP, hD, hS⟩ := id R
  have ha : a ∈ L := (hL a).mpr (by omega)
  obtain ⟨n0, hn0⟩ := pl_get (f := ce cy h) ha
  obtain ⟨x, e1, e2⟩ := ce_a (cy := cy) hk
  rw [e1] at hn0
  obtain ⟨ty, hty⟩ := ty9_a cy ht
  exact va_alen C.1 C.2.1 C.2.2.2.2.2.1 hP n0 t hn0 hty (by rw [e2]; rfl) hd (kk p l e s m args below meth c0 H locs cells slots ls Q D cy A MC MS C R hl h1 h2 hr hx)
theorem fvs_def {h : Hp} {q c n : Nat} (hc : c < 13) : fvs (fnum c) (fty c) (nw h q (c + 1) n) q = (List.range (fnum c)).map (fun j => defaultValue (fty c j)) := by
  unfold fvs
  apply List.map_congr_left
  intro j hj
  have hj : j < fnum c := List.mem_range.mp hj
  have e1 : hI (nw h q (c + 1) n) q j = 0 := by rw [hI_nw, if_pos rfl]
  have e2 : hG (nw h q (c + 1) n) q j = 0 := by rw [hG_nw, if_pos rfl]
  have e3 : hO (nw h q (c + 1) n) q j = none := by rw [hO_nw, if_pos rfl]
  have e4 := nofl_ok hc hj
  generalize fty c j = t at *
  cases t <;> first | (cases e4; done) | (simp [fv, e1, e2, e3, defaultValue, va_rf]; done) | simp [fv, e1, e2, e3, defaultValue, va_rf] at *
theorem j_new {ix c : Nat} {Rn : String} {T : u_T} (hd : decode Y.2.1 pc = .ok (.new ix, 3)) (hC : CL c Rn T) (hw1 : Cond.classLink Y.1.cls ix Rn ∈ gtb) (hw2 : Cond.instantiable Rn (fnum c) ∈ gtb) (hw3 : Cond.initialized Rn ∈ gtb) (kk : ∀ q, hK h q = 0 → J Y d mc ms post (pc + 3) lv (vr (some q) :: st) (nw h q (c + 1) 0)) : J Y d (mc + 1) (ms + fnum c) post pc lv st h := by
  intro p l e s m args below meth c0 H locs cells slots ls Q D cy A MC MS C R hl h1 h2 hr hx
  obtain ⟨L, hL, hP, hD, hS⟩ := id R
  obtain ⟨q1, q2, q3, q4, q5⟩ := hC
  refine va_new (fs := (List.range (fnum c)).map (fun j => defaultValue (fty c j))) C.1 C.2.1 C.2.2.2.2.1 q2 (fty c) q3 C.2.2.2.1 (C.2.2.2.2.1 _ hw1) (C.2.2.2.2.1 _ hw2) (C.2.2.2.2.1 _ hw3) C.2.2.2.2.2.1 hP hD hS C.2.2.2.2.2.2.1 q1 (fun j hj => by simp [vp_V, List.getD_eq_getElem?_getD, hj]) (show cells + 1 ≤ MC by omega) (show slots + fnum c ≤ MS by omega) hd (fun q H1 hP1 hD1 hS1 => ?_)
  obtain ⟨e1, e2⟩ := Rp_new (n := 0) hL (Nat.succ_ne_zero c) ((ce_o (by rw [hK_nw, if_pos rfl]) q5).trans (by rw [fvs_def q5])) hP1 hD1 hS1
  exact kk q e1 p l e s m args below meth c0 H1 locs (cells + 1) (slots + fnum c) ls Q D cy A MC MS C e2 hl (by omega) (by omega) hr hx
theorem j_newB {i : Int32} (n : Nat) (hd : decode Y.2.1 pc = .ok (.newarray .byte, 2)) (hw : Cond.arrayClass .byte ∈ gtb) (hi : i = nI n) (hn : n < 2 ^ 25) (kk : ∀ q, hK h q = 0 → J Y d mc ms post (pc + 2) lv (vr (some q) :: st) (nw h q 14 n)) : J Y d (mc + 1) (ms + n) post pc lv (vi i :: st) h := by
  intro p l e s m args below meth c0 H locs cells slots ls Q D cy A MC MS C R hl h1 h2 hr hx
  obtain ⟨L, hL, hP, hD, hS⟩ := id R
  subst hi
  refine va_newa (atype := .byte) (a0 := (n, .inl (fun _ => 0))) (ty := .byte) C.1 C.2.1 (C.2.2.2.2.1 _ hw) rfl C.2.2.2.2.2.1 hP hD hS C.2.2.2.2.2.2.1 (fun _ => rfl) (nI_pos (by omega)) (nI_clamp (by omega)) (show n * 1 ≤ 536870912 by omega) (show cells + 1 ≤ MC by omega) (show slots + n ≤ MS by omega) hd (fun q cA H1 hK1 hP1 hD1 hS1 => ?_)
  have hcA : cA = cy 0 := by
    have e1 := (hK1.2 9 (cA, .byte) rfl).2
    have e2 := (hK1.2 0 (cy 0, .byte) rfl).2
    exact Option.some.inj (e1.symm.trans e2)
  subst hcA
  obtain ⟨e1, e2⟩ := Rp_new (n := n) (c := 14) hL (by decide) ((ce_i (c := 0) (by rw [hK_nw, if_pos rfl]) (by decide) (by decide)).trans (by rw [hN_nw, if_pos rfl, show hI (nw h q 14 n) q = (fun _ => 0) by funext j; rw [hI_nw, if_pos rfl]])) hP1 hD1 hS1
  exact kk q e1 p l e s m args below meth c0 H1 locs (cells + 1) (slots + n) ls Q D cy A MC MS C e2 hl (by omega) (by omega) hr hx
theorem j_newI {i : Int32} (n : Nat) (hd : decode Y.2.1 pc = .ok (.newarray .int, 2)) (hw : Cond.arrayClass .int ∈ gtb) (hi : i = nI n) (hn : n < 2 ^ 25) (kk : ∀ q, hK h q = 0 → J Y d mc ms post (pc + 2) lv (vr (some q) :: st) (nw h q 15 n)) : J Y d (mc + 1) (ms + n) post pc lv (vi i :: st) h := by
  intro p l e s m args below meth c0 H locs cells slots ls Q D cy A MC MS C R hl h1 h2 hr hx
  obtain ⟨L, hL, hP, hD, hS⟩ := id R
  subst hi
  refine va_newa (atype := .int) (a0 := (n, .inl (fun _ => 0))) (ty := .int) C.1 C.2.1 (C.2.2.2.2.1 _ hw) rfl C.2.2.2.2.2.1 hP hD hS C.2.2.2.2.2.2.1 (fun _ => rfl) (nI_pos (by omega)) (nI_clamp (by omega)) (show n * 4 ≤ 536870912 by omega) (show cells + 1 ≤ MC by omega) (show slots + n ≤ MS by omega) hd (fun q cA H1 hK1 hP1 hD1 hS1 => ?_)
  have hcA : cA = cy 1 := by
    have e1 := (hK1.2 9 (cA, .int) rfl).2
    have e2 := (hK1.2 1 (cy 1, .int) rfl).2
    exact Option.some.inj (e1.symm.trans e2)
  subst hcA
  obtain ⟨e1, e2⟩ := Rp_new (n := n) (c := 15) hL (by decide) ((ce_i (c := 1) (by rw [hK_nw, if_pos rfl]) (by decide) (by decide)).trans (by rw [hN_nw, if_pos rfl, show hI (nw h q 15 n) q = (fun _ => 0) by funext j; rw [hI_nw, if_pos rfl]])) hP1 hD1 hS1
  exact kk q e1 p l e s m args below meth c0 H1 locs (cells + 1) (slots + n) ls Q D cy A MC MS C e2 hl (by omega) (by omega) hr hx
theorem j_newJ {i : Int32} (n : Nat) (hd : decode Y.2.1 pc = .ok (.newarray .long, 2)) (hw : Cond.arrayClass .long ∈ gtb) (hi : i = nI n) (hn : n < 2 ^ 25) (kk : ∀ q, hK h q = 0 → J Y d mc ms post (pc + 2) lv (vr (some q) :: st) (nw h q 16 n)) : J Y d (mc + 1) (ms + n) post pc lv (vi i :: st) h := by
  intro p l e s m args below meth c0 H locs cells slots ls Q D cy A MC MS C R hl h1 h2 hr hx
  obtain ⟨L, hL, hP, hD, hS⟩ := id R
  subst hi
  refine va_newa (atype := .long) (a0 := (n, .inr (.inl (fun _ => 0)))) (ty := .long) C.1 C.2.1 (C.2.2.2.2.1 _ hw) rfl C.2.2.2.2.2.1 hP hD hS C.2.2.2.2.2.2.1 (fun _ => rfl) (nI_pos (by omega)) (nI_clamp (by omega)) (show n * 8 ≤ 536870912 by omega) (show cells + 1 ≤ MC by omega) (show slots + n ≤ MS by omega) hd (fun q cA H1 hK1 hP1 hD1 hS1 => ?_)
  have hcA : cA = cy 2 := by
    have e1 := (hK1.2 9 (cA, .long) rfl).2
    have e2 := (hK1.2 2 (cy 2, .long) rfl).2
    exact Option.some.inj (e1.symm.trans e2)
  subst hcA
  obtain ⟨e1, e2⟩ := Rp_new (n := n) (c := 16) hL (by decide) ((ce_l (by rw [hK_nw, if_pos rfl])).trans (by rw [hN_nw, if_pos rfl, show hG (nw h q 16 n) q = (fun _ => 0) by funext j; rw [hG_nw, if_pos rfl]])) hP1 hD1 hS1
  exact kk q e1 p l e s m args below meth c0 H1 locs (cells + 1) (slots + n) ls Q D cy A MC MS C e2 hl (by omega) (by omega) hr hx
theorem j_newZ {i : Int32} (n : Nat) (hd : decode Y.2.1 pc = .ok (.newarray .boolean, 2)) (hw : Cond.arrayClass .boolean ∈ gtb) (hi : i = nI n) (hn : n < 2 ^ 25) (kk : ∀ q, hK h q = 0 → J Y d mc ms post (pc + 2) lv (vr (some q) :: st) (nw h q 17 n)) : J Y d (mc + 1) (ms + n) post pc lv (vi i :: st) h := by
  intro p l e s m args below meth c0 H locs cells slots ls Q D cy A MC MS C R hl h1 h2 hr hx
  obtain ⟨L, hL, hP, hD, hS⟩ := id R
  subst hi
  refine va_newa (atype := .boolean) (a0 := (n, .inl (fun _ => 0))) (ty := .boolean) C.1 C.2.1 (C.2.2.2.2.1 _ hw) rfl C.2.2.2.2.2.1 hP hD hS C.2.2.2.2.2.2.1 (fun _ => rfl) (nI_pos (by omega)) (nI_clamp (by omega)) (show n * 1 ≤ 536870912 by omega) (show cells + 1 ≤ MC by omega) (show slots + n ≤ MS by omega) hd (fun q cA H1 hK1 hP1 hD1 hS1 => ?_)
  have hcA : cA = cy 3 := by
    have e1 := (hK1.2 9 (cA, .boolean) rfl).2
    have e2 := (hK1.2 3 (cy 3, .boolean) rfl).2
    exact Option.some.inj (e1.symm.trans e2)
  subst hcA
  obtain ⟨e1, e2⟩ := Rp_new (n := n) (c := 17) hL (by decide) ((ce_i (c := 3) (by rw [hK_nw, if_pos rfl]) (by decide) (by decide)).trans (by rw [hN_nw, if_pos rfl, show hI (nw h q 17 n) q = (fun _ => 0) by funext j; rw [hI_nw, if_pos rfl]])) hP1 hD1 hS1
  exact kk q e1 p l e s m args below meth c0 H1 locs (cells + 1) (slots + n) ls Q D cy A MC MS C e2 hl (by omega) (by omega) hr hx
theorem j_newQ {ix t : Nat} {i : Int32} {Rn : String} (n : Nat) (hd : decode Y.2.1 pc = .ok (.anewarray ix, 3)) (hw : Cond.classLink Y.1.cls ix Rn ∈ gtb) (hw2 : Cond.arrayOver (.object Rn) ∈ tables_1) (ht : 4 ≤ t) (ht2 : ∀ cy : Nat → ClassId, (ty9 cy)[t]? = some (cy t, .object Rn)) (hi : i = nI n) (hn : n < 2 ^ 25) (kk : ∀ q, hK h q = 0 → J Y d mc ms post (pc + 3) lv (vr (some q) :: st) (nw h q (t + 14) n)) : J Y d (mc + 1) (ms + n) post pc lv (vi i :: st) h := by
  intro p l e s m args below meth c0 H locs cells slots ls Q D cy A MC MS C R hl h1 h2 hr hx
  obtain ⟨L, hL, hP, hD, hS⟩ := id R
  subst hi
  refine va_newq C.1 C.2.1 C.2.2.2.1 (C.2.2.2.2.1 _ hw) (C.2.2.2.2.2.2.2.1.1 _ hw2 rfl) C.2.2.2.2.2.1 hP hD hS C.2.2.2.2.2.2.1 (nI_pos (by omega)) (nI_clamp (by omega)) (show n * 4 ≤ 536870912 by omega) (show cells + 1 ≤ MC by omega) (show slots + n ≤ MS by omega) hd (fun q cA H1 hK1 hP1 hD1 hS1 => ?_)
  have hcA : cA = cy t := by
    obtain ⟨kA, comp, -, -, -, e1⟩ := (hK1.2 9 (cA, .object Rn) rfl).2
    obtain ⟨kA2, comp2, -, -, -, e2⟩ := (C.2.2.2.2.2.1.2 t (cy t, .object Rn) (ht2 cy)).2
    exact Option.some.inj (e1.symm.trans e2)
  subst hcA
  obtain ⟨e1, e2⟩ := Rp_new (n := n) (c := t + 14) hL (Nat.succ_ne_zero _) ((ce_q (by rw [hK_nw, if_pos rfl]) ht).trans (by rw [hN_nw, if_pos rfl, show hO (nw h q (t + 14) n) q = (fun _ => none) by funext j; rw [hO_nw, if_pos rfl]])) hP1 hD1 hS1
  exact kk q e1 p l e s m args below meth c0 H1 locs (cells + 1) (slots + n) ls Q D cy A MC MS C e2 hl (by omega) (by omega) hr hx
theorem j_objInit {ix a : Nat} (hd : decode Y.2.1 pc = .ok (.invokespecial ix, 3)) (hw : Cond.methodLink Y.1.cls ix objectInit ∈ gtb) (hw2 : Cond.instanceMethod objectInit ∈ gtb) (hw3 : Cond.code objectInit ⟨#[0xb1]⟩ 1 none ∈ gtb) (hd1 : 1 ≤ d) (hs : (st.map ct).sum ≤ 8) (kk : J Y d mc ms post (pc + 3) lv st h) : J Y d mc ms post pc lv (vr (some a) :: st) h := by
  intro p l e s m args below meth c0 H locs cells slots ls Q D cy A MC MS C R hl h1 h2 hr hx
  refine W.objInit C.1 C.2.1 C.2.2.2.1 (C.2.2.2.2.1 _ hw) (C.2.2.2.2.1 _ hw2) (C.2.2.2.2.1 _ hw3) rfl (by rw [C.2.2.1]; exact hl.1) (a := a) (rest := st.map (tv cy)) rfl hd (show 1 ≤ d from hd1) ?_ ?_
  · have e9 : ((st.map (tv cy)).map fun v => v.category) = st.map ct := by rw [List.map_map]; exact List.map_congr_left (fun v _ => tv_cat v)
    rw [e9]; show 2 * 0 + _ + 12 ≤ 40 * d; omega
  · exact (kk p l e s m args below meth c0 H locs cells slots ls Q D cy A MC MS C R hl h1 h2 hr hx)
end JH
