/-! ===== Math.max, min, abs of ints; clone of ints ===== -/
section JM
variable {Y : MI} {d mc ms : Nat} {post : Option Sv ⊕ String → Hp → Prop} {pc : Nat} {lv : List (Option Sv)} {st : List Sv} {h : Hp}
theorem mmax_1 : mJ9_max_7cf53.1 = Lib.Math.max.name := rfl
theorem mmax_2 : mJ9_max_7cf53.2.1 = Lib.Math.max.code := by decide +kernel
theorem j_mmax {ix : Nat} {x y : Int32} (hd : decode Y.2.1 pc = .ok (.invokestatic ix, 3)) (hM : SL Y.1.cls ix mJ9_max_7cf53 2) (hd1 : 1 ≤ d) (hs : (st.map ct).sum ≤ 8) (kk : J Y d mc ms post (pc + 3) lv (vi (if x < y then y else x) :: st) h) : J Y d mc ms post pc lv (vi y :: vi x :: st) h := by
  intro p l e s m args below meth c0 H locs cells slots ls Q D cy A MC MS C R hl h1 h2 hr hx
  obtain ⟨⟨w1, w2, w3, w4⟩, -⟩ := hM
  rw [mmax_1, mmax_2] at w1
  rw [mmax_1] at w2 w3
  refine va_mmax C.1 C.2.1 (by rw [C.2.2.1]; exact hl.1.symm) C.2.2.2.1 (C.2.2.2.2.1 _ w2) (C.2.2.2.2.1 _ w3) (C.2.2.2.2.1 _ w4) (C.2.2.2.2.1 _ w1) (show 1 ≤ d from hd1) ?_ (show cells ≤ MC by omega) (show slots ≤ MS by omega) hd ?_
  · have e9 : ((st.map (tv cy)).map fun v => v.category) = st.map ct := by rw [List.map_map]; exact List.map_congr_left (fun v _ => tv_cat v)
    rw [e9]; show _ + 13 ≤ 40 * d; omega
  · exact kk p l e s m args below meth c0 H locs cells slots ls Q D cy A MC MS C R hl h1 h2 hr hx
theorem mmin_1 : mJ9_min_7cf53.1 = Lib.Math.min.name := rfl
theorem mmin_2 : mJ9_min_7cf53.2.1 = Lib.Math.min.code := by decide +kernel
theorem j_mmin {ix : Nat} {x y : Int32} (hd : decode Y.2.1 pc = .ok (.invokestatic ix, 3)) (hM : SL Y.1.cls ix mJ9_min_7cf53 2) (hd1 : 1 ≤ d) (hs : (st.map ct).sum ≤ 8) (kk : J Y d mc ms post (pc + 3) lv (vi (if y < x then y else x) :: st) h) : J Y d mc ms post pc lv (vi y :: vi x :: st) h := by
  intro p l e s m args below meth c0 H locs cells slots ls Q D cy A MC MS C R hl h1 h2 hr hx
  obtain ⟨⟨w1, w2, w3, w4⟩, -⟩ := hM
  rw [mmin_1, mmin_2] at w1
  rw [mmin_1] at w2 w3
  refine va_mmin C.1 C.2.1 (by rw [C.2.2.1]; exact hl.1.symm) C.2.2.2.1 (C.2.2.2.2.1 _ w2) (C.2.2.2.2.1 _ w3) (C.2.2.2.2.1 _ w4) (C.2.2.2.2.1 _ w1) (show 1 ≤ d from hd1) ?_ (show cells ≤ MC by omega) (show slots ≤ MS by omega) hd ?_
  · have e9 : ((st.map (tv cy)).map fun v => v.category) = st.map ct := by rw [List.map_map]; exact List.map_congr_left (fun v _ => tv_cat v)
    rw [e9]; show _ + 13 ≤ 40 * d; omega
  · exact kk p l e s m args below meth c0 H locs cells slots ls Q D cy A MC MS C R hl h1 h2 hr hx
theorem mabs_1 : mJ9_abs_0f7a4.1 = Lib.Math.abs.name := rfl
theorem mabs_2 : mJ9_abs_0f7a4.2.1 = Lib.Math.abs.code := by decide +kernel
theorem j_mabs {ix : Nat} {x : Int32} (hd : decode Y.2.1 pc = .ok (.invokestatic ix, 3)) (hM : SL Y.1.cls ix mJ9_abs_0f7a4 1) (hd1 : 1 ≤ d) (hs : (st.map ct).sum ≤ 8) (kk : J Y d mc ms post (pc + 3) lv (vi (if 0 ≤ x then x else 0 - x) :: st) h) : J Y d mc ms post pc lv (vi x :: st) h := by
  intro p l e s m args below meth c0 H locs cells slots ls Q D cy A MC MS C R hl h1 h2 hr hx
  obtain ⟨⟨w1, w2, w3, w4⟩, -⟩ := hM
  rw [mabs_1, mabs_2] at w1
  rw [mabs_1] at w2 w3
  refine va_mabs C.1 C.2.1 (by rw [C.2.2.1]; exact hl.1.symm) C.2.2.2.1 (C.2.2.2.2.1 _ w2) (C.2.2.2.2.1 _ w3) (C.2.2.2.2.1 _ w4) (C.2.2.2.2.1 _ w1) (show 1 ≤ d from hd1) ?_ (show cells ≤ MC by omega) (show slots ≤ MS by omega) hd ?_
  · have e9 : ((st.map (tv cy)).map fun v => v.category) = st.map ct := by rw [List.map_map]; exact List.map_congr_left (fun v _ => tv_cat v)
    rw [e9]; show _ + 13 ≤ 40 * d; omega
  · exact kk p l e s m args below meth c0 H locs cells slots ls Q D cy A MC MS C R hl h1 h2 hr hx
/-- ints of one row as a new row -/
theorem Rp_cl {D : va_G} {cy : Nat → ClassId} {A : Nat → Prop} {H0 H1 : Heap} {locs : List Loc} {h : Hp} {L : List Nat} {q n : Nat} {f : Nat → Int32} {e : va_E} (hL : Lk L h) (he : ce cy (sI (nw h q 15 n) q f) q = e) (hP : va_P D vwCl (va_pl L (ce cy h) ++ [(q, e)]) H1) (hD : va_D A (va_pl L (ce cy h) ++ [(q, e)])) (hS : va_S A H0 H1 locs) : hK h q = 0 ∧ Rp D cy A H0 H1 locs (sI (nw h q 15 n) q f) := by
  have hq : q ∉ L := fun hq => by
    obtain ⟨k, hk⟩ := pl_get (f := ce cy h) hq
    have hlt := (List.getElem?_eq_some_iff.mp hk).1
    have h1 : (va_pl L (ce cy h) ++ [(q, e)])[k]? = some (q, ce cy h q) := by rw [List.getElem?_append_left hlt]; exact hk
    have h2 : (va_pl L (ce cy h) ++ [(q, e)])[(va_pl L (ce cy h)).length]? = some (q, e) := by simp
    have := hD.1 _ _ _ _ h1 h2 rfl
    omega
  have h0 : hK h q = 0 := Classical.byContradiction fun h1 => hq ((hL q).mpr h1)
  refine ⟨h0, ?_⟩
  have ho : ∀ b, b ≠ q → ce cy (sI (nw h q 15 n) q f) b = ce cy h b := fun b hb => ce_congr (by show hK (nw h q 15 n) b = _; rw [hK_nw, if_neg hb]) (by show hN (nw h q 15 n) b = _; rw [hN_nw, if_neg hb]) (by rw [hI_sI, if_neg hb]; funext j; rw [hI_nw, if_neg hb]) (by funext j; show hG (nw h q 15 n) b j = _; rw [hG_nw, if_neg hb]) (by funext j; show hO (nw h q 15 n) b j = _; rw [hO_nw, if_neg hb])
  rw [va_pl_push hq, va_pl_congr (up_ce he ho)] at hP hD
  refine ⟨L ++ [q], fun b => ?_, hP, hD, hS⟩
  show b ∈ L ++ [q] ↔ hK (nw h q 15 n) b ≠ 0
  rw [hK_nw, List.mem_append, List.mem_singleton]
  by_cases hb : b = q
  · subst hb; simp
  · simp [hb, hL b]
theorem cln_1 : Cond.sameMethod "[I" "java/lang/Object" "clone" "()Ljava/lang/Object;" ∈ gtb := (gtb_in (List.mem_of_getElem? (i := 1409) (by decide +kernel)) (by decide +kernel))
theorem cln_2 : Cond.native ⟨"java/lang/Object", "clone", "()Ljava/lang/Object;"⟩ ∈ gtb := (gtb_in (List.mem_of_getElem? (i := 1410) (by decide +kernel)) (by decide +kernel))
theorem cln_3 : Cond.instanceMethod ⟨"java/lang/Object", "clone", "()Ljava/lang/Object;"⟩ ∈ gtb := (gtb_in (List.mem_of_getElem? (i := 1411) (by decide +kernel)) (by decide +kernel))
theorem cln_4 : Cond.selects "[I" ⟨"[I", "clone", "()Ljava/lang/Object;"⟩ ⟨"java/lang/Object", "clone", "()Ljava/lang/Object;"⟩ ∈ gtb := (gtb_in (List.mem_of_getElem? (i := 1412) (by decide +kernel)) (by decide +kernel))
theorem cln_5 : Cond.castable "[I" "java/lang/Cloneable" ∈ tables_1 := List.mem_of_getElem? (i := 1413) (by decide +kernel)
theorem j_clone {ix a : Nat} (n : Nat) (hd : decode Y.2.1 pc = .ok (.invokevirtual ix, 3)) (hw : Cond.methodLink Y.1.cls ix ⟨"[I", "clone", "()Ljava/lang/Object;"⟩ ∈ gtb) (hk : hK h a = 15) (hn : hN h a = n) (hd1 : 1 ≤ d) (hs : (st.map ct).sum ≤ 8) (kk : ∀ q, hK h q = 0 → J Y d mc ms post (pc + 3) lv (vr (some q) :: st) (sI (nw h q 15 n) q (hI h a))) : J Y d (mc + 1) (ms + n) post pc lv (vr (some a) :: st) h := by
  intro p l e s m args below meth c0 H locs cells slots ls Q D cy A MC MS C R hl h1 h2 hr hx
  obtain ⟨L, hL, hP, hD, hS⟩ := id R
  obtain ⟨q0, hq0⟩ := pl_get (f := ce cy h) ((hL a).mpr (by omega))
  rw [ce_i (c := 1) hk (by decide) (by decide), hn] at hq0
  have hKK := C.2.2.2.2.2.1
  refine va_clone C.1 C.2.1 (by rw [C.2.2.1]; exact hl.1.symm) C.2.2.2.1 (C.2.2.2.2.1 _ hw) (C.2.2.2.2.1 _ cln_1) (C.2.2.2.2.1 _ cln_2) (C.2.2.2.2.1 _ cln_3) (C.2.2.2.2.1 _ cln_4) (C.2.2.2.2.2.2.2.1.1 _ cln_5 rfl) hKK hP hD hS C.2.2.2.2.2.2.1 q0 1 hq0 rfl (va_nm_int (hKK.2 1 (cy 1, .int) rfl).2) (va_fit (fun _ _ => rfl)) (show 1 ≤ d from hd1) ?_ (show cells + 1 ≤ MC by omega) (show slots + n ≤ MS by omega) hd (fun q H1 hK1 hP1 hD1 hS1 => ?_)
  · have e9 : ((st.map (tv cy)).map fun v => v.category) = st.map ct := by rw [List.map_map]; exact List.map_congr_left (fun v _ => tv_cat v)
    rw [e9]; show _ + 14 ≤ 40 * d; omega
  · obtain ⟨e1, e2⟩ := Rp_cl (n := n) (f := hI h a) hL ((ce_i (c := 1) (by show hK (nw h q 15 n) q = _; rw [hK_nw, if_pos rfl]) (by decide) (by decide)).trans (by rw [show hN (sI (nw h q 15 n) q (hI h a)) q = n by show hN (nw h q 15 n) q = n; rw [hN_nw, if_pos rfl], hI_sI1])) hP1 hD1 hS1
    exact kk q e1 p l e s m args below meth c0 H1 locs (cells + 1) (slots + n) ls Q D cy A MC MS C e2 hl (by omega) (by omega) hr hx
theorem j_castI {ix a : Nat} (hd : decode Y.2.1 pc = .ok (.checkcast ix, 3)) (hw : Cond.classLink Y.1.cls ix "[I" ∈ gtb) (hk : hK h a = 15) (kk : J Y d mc ms post (pc + 3) lv (vr (some a) :: st) h) : J Y d mc ms post pc lv (vr (some a) :: st) h := by
  intro p l e s m args below meth c0 H locs cells slots ls Q D cy A MC MS C R hl h1 h2 hr hx
  obtain ⟨L, hL, hP, hD, hS⟩ := id R
  obtain ⟨q0, hq0⟩ := pl_get (f := ce cy h) ((hL a).mpr (by omega))
  rw [ce_i (c := 1) hk (by decide) (by decide)] at hq0
  exact va_castA C.1 C.2.1 C.2.2.2.1 (C.2.2.2.2.1 _ hw) hP q0 hq0 (va_nm_int (C.2.2.2.2.2.1.2 1 (cy 1, .int) rfl).2) hd (kk p l e s m args below meth c0 H locs cells slots ls Q D cy A MC MS C R hl h1 h2 hr hx)
theorem acp_1 : Cond.static arraycopyName ∈ gtb := (gtb_in (List.mem_of_getElem? (i := 558) (by decide +kernel)) (by decide +kernel))
theorem acp_2 : Cond.native arraycopyName ∈ gtb := (gtb_in (List.mem_of_getElem? (i := 559) (by decide +kernel)) (by decide +kernel))
theorem acp_3 : Cond.initialized "java/lang/System" ∈ gtb := (gtb_in (List.mem_of_getElem? (i := 17) (by decide +kernel)) (by decide +kernel))
theorem acp_9 : Cond.methodLink "SheetBranches$Worker" 130 arraycopyName ∈ gtb := (gtb_in (List.mem_of_getElem? (i := 557) (by decide +kernel)) (by decide +kernel))
theorem acp_8 : Cond.methodLink "SheetBranches$Value" 43 arraycopyName ∈ gtb := (gtb_in (List.mem_of_getElem? (i := 608) (by decide +kernel)) (by decide +kernel))
theorem acp_w : nativeFrameWords "java/lang/System" "arraycopy" 5 + 11 ≤ 32 := by decide +kernel
theorem j_copyL {ix a0 a : Nat} {x y z : Int32} (sp dp n : Nat) (hd : decode Y.2.1 pc = .ok (.invokestatic ix, 3)) (hw : Cond.methodLink Y.1.cls ix arraycopyName ∈ gtb) (hk0 : hK h a0 = 16) (hk : hK h a = 16) (ex : x = nI sp) (ey : y = nI dp) (ez : z = nI n) (h0 : sp + n ≤ hN h a0) (h1' : dp + n ≤ hN h a) (hb : sp < 2 ^ 31 ∧ dp < 2 ^ 31 ∧ n < 2 ^ 31) (hd1 : 1 ≤ d) (hs : (st.map ct).sum ≤ 8) (kk : J Y d mc ms post (pc + 3) lv st (sG h a (va_cpy (hG h a0) (hG h a) sp dp n))) : J Y d mc ms post pc lv (vi z :: vi y :: vr (some a) :: vi x :: vr (some a0) :: st) h := by
  intro p l e s m args below meth c0 H locs cells slots ls Q D cy A MC MS C R hl h1 h2 hr hx
  obtain ⟨L, hL, hP, hD, hS⟩ := id R
  have ha : a ∈ L := (hL a).mpr (by omega)
  obtain ⟨n0, hn0⟩ := pl_get (f := ce cy h) ha
  obtain ⟨n1, hn1⟩ := pl_get (f := ce cy h) ((hL a0).mpr (by omega))
  have hn2 := hn0
  rw [ce_l hk] at hn2
  rw [ce_l hk0] at hn1
  subst ex; subst ey; subst ez
  refine va_copyl C.1 C.2.1 (by rw [C.2.2.1]; exact hl.1.symm) C.2.2.2.1 (C.2.2.2.2.1 _ hw) (C.2.2.2.2.1 _ acp_2) (C.2.2.2.2.1 _ acp_1) (C.2.2.2.2.1 _ acp_3) C.2.2.2.2.2.1 hP hD hS n1 n0 2 2 hn1 hn2 rfl rfl rfl (nI_pos hb.1) (nI_pos hb.2.1) (nI_pos hb.2.2) (by rw [nI_clamp hb.1, nI_clamp hb.2.2]; exact h0) (by rw [nI_clamp hb.2.1, nI_clamp hb.2.2]; exact h1') (fun _ _ => rfl) (show 1 ≤ d from hd1) ?_ hd (fun H1 locs1 hP1 hD1 hS1 => (kk p l e s m args below meth c0 H1 locs1 cells slots ls Q D cy A MC MS C ?_ hl h1 h2 hr hx))
  · have e9 : ((st.map (tv cy)).map fun v => v.category) = st.map ct := by rw [List.map_map]; exact List.map_congr_left (fun v _ => tv_cat v)
    rw [e9]; have := acp_w; show _ + (nativeFrameWords _ _ _ + 11) ≤ 40 * d; omega
  · rw [nI_clamp hb.1, nI_clamp hb.2.1, nI_clamp hb.2.2] at hP1 hD1
    refine Rp_set hL (fun _ => rfl) hD ha hn0 ((ce_l (h := sG h a (va_cpy (hG h a0) (hG h a) sp dp n)) hk).trans ?_) (fun b hb => ce_congr rfl rfl rfl ?_ rfl) hP1 hD1 hS1
    · rw [hG_sG1]; rfl
    · rw [hG_sG, if_neg hb]
theorem j_iushr {x y : Int32} (v : Int32) (hd : decode Y.2.1 pc = .ok (.iushr, 1)) (hv : (x.toUInt32 >>> (y.toUInt32 &&& Int32.toUInt32 31)).toInt32 = v) (k : J Y d mc ms post (pc + 1) lv (vi v :: st) h) : J Y d mc ms post pc lv (vi y :: vi x :: st) h := by
  intro p l e s m args below meth c H locs cells slots ls Q D cy A MC MS C R hl h1 h2 hr hx
  exact lv_iushr C.1 C.2.1 hd hv (k p l e s m args below meth c H locs cells slots ls Q D cy A MC MS C R hl h1 h2 hr hx)
theorem j_lushr {x : Int64} {y : Int32} (v : Int64) (hd : decode Y.2.1 pc = .ok (.lushr, 1)) (hv : (x.toUInt64 >>> (y.toInt64.toUInt64 &&& Int64.toUInt64 63)).toInt64 = v) (k : J Y d mc ms post (pc + 1) lv (vl v :: st) h) : J Y d mc ms post pc lv (vi y :: vl x :: st) h := by
  intro p l e s m args below meth c H locs cells slots ls Q D cy A MC MS C R hl h1 h2 hr hx
  exact lv_lushr C.1 C.2.1 hd hv (k p l e s m args below meth c H locs cells slots ls Q D cy A MC MS C R hl h1 h2 hr hx)
end JM
theorem r32_len {z : Z} (hw : Wz z) (a : Nat) : R32 (zN z a) := by
  have := hw.2.2.2.2 a
  exact ⟨by omega, by omega⟩
theorem zK_new {z : Z} {q c : Nat} {n : Int} : zK (nZ z q c n) q = c := if_pos rfl
theorem r64_if {p : Prop} [Decidable p] {a b : Int} (ha : R64 a) (hb : R64 b) : R64 (if p then a else b) := by split <;> assumption
/-- what a method leaves that may throw -/
def QX (Q : Option Sv → Hp → Prop) (X : Nat → Z → Prop) : Option Sv ⊕ String → Hp → Prop := fun o u => match o with
  | .inl v => Q v u
  | .inr E => ∃ k w, exs[k]? = some E ∧ u = cz w ∧ Wz w ∧ X k w
section JD
variable {Y : MI} {d mc ms : Nat} {post : Option Sv ⊕ String → Hp → Prop} {pc : Nat} {lv : List (Option Sv)} {st : List Sv} {h : Hp}
theorem j_i2c {x : Int32} (v : Int32) (hd : decode Y.2.1 pc = .ok (.i2c, 1)) (hv : (x.toUInt32 % 65536).toInt32 = v) (k : J Y d mc ms post (pc + 1) lv (vi v :: st) h) : J Y d mc ms post pc lv (vi x :: st) h := by
  intro p l e s m args below meth c0 H locs cells slots ls Q D cy A MC MS C R hl h1 h2 hr hx
  exact lv_i2c C.1 C.2.1 hd hv (k p l e s m args below meth c0 H locs cells slots ls Q D cy A MC MS C R hl h1 h2 hr hx)
theorem jz_iushr {a b : Int} (hd : decode Y.2.1 pc = .ok (.iushr, 1)) (k : J Y d mc ms post (pc + 1) lv (ii (bUshr a b) :: st) h) : J Y d mc ms post pc lv (ii b :: ii a :: st) h := j_iushr _ hd rfl (by rw [show _ = Int32.ofInt (bUshr a b) from (Int32.ofInt_toInt _).symm]; exact k)
theorem jz_lushr {a b : Int} (hd : decode Y.2.1 pc = .ok (.lushr, 1)) (k : J Y d mc ms post (pc + 1) lv (ll (lUshr a b) :: st) h) : J Y d mc ms post pc lv (ii b :: ll a :: st) h := j_lushr _ hd rfl (by rw [show _ = Int64.ofInt (lUshr a b) from (Int64.ofInt_toInt _).symm]; exact k)
theorem jz_mmax {ix : Nat} {a b : Int} (hd : decode Y.2.1 pc = .ok (.invokestatic ix, 3)) (hM : SL Y.1.cls ix mJ9_max_7cf53 2) (hd1 : 1 ≤ d) (hs : (st.map ct).sum ≤ 8) (ra : R32 a) (rb : R32 b) (k : J Y d mc ms post (pc + 3) lv (ii (max a b) :: st) h) : J Y d mc ms post pc lv (ii b :: ii a :: st) h := j_mmax hd hM hd1 hs (by
  by_cases c : a < b
  · rw [if_pos ((i3_lt ra rb).mpr c)]; rw [show max a b = b by omega] at k; exact k
  · rw [if_neg (fun z => c ((i3_lt ra rb).mp z))]; rw [show max a b = a by omega] at k; exact k)
theorem jz_mmin {ix : Nat} {a b : Int} (hd : decode Y.2.1 pc = .ok (.invokestatic ix, 3)) (hM : SL Y.1.cls ix mJ9_min_7cf53 2) (hd1 : 1 ≤ d) (hs : (st.map ct).sum ≤ 8) (ra : R32 a) (rb : R32 b) (k : J Y d mc ms post (pc + 3) lv (ii (min a b) :: st) h) : J Y d mc ms post pc lv (ii b :: ii a :: st) h := j_mmin hd hM hd1 hs (by
  by_cases c : b < a
  · rw [if_pos ((i3_lt rb ra).mpr c)]; rw [show min a b = b by omega] at k; exact k
  · rw [if_neg (fun z => c ((i3_lt rb ra).mp z))]; rw [show min a b = a by omega] at k; exact k)
theorem jz_mabs {ix : Nat} {a : Int} (hd : decode Y.2.1 pc = .ok (.invokestatic ix, 3)) (hM : SL Y.1.cls ix mJ9_abs_0f7a4 1) (hd1 : 1 ≤ d) (hs : (st.map ct).sum ≤ 8) (ra : R32 a) (k : J Y d mc ms post (pc + 3) lv (ii (if 0 ≤ a then a else w32 (0 - a)) :: st) h) : J Y d mc ms post pc lv (ii a :: st) h := j_mabs hd hM hd1 hs (by
  by_cases c : 0 ≤ a
  · rw [if_pos (show (0 : Int32) ≤ Int32.ofInt a from (i3_le (a := 0) (by decide) ra).mpr c)]; rw [if_pos c] at k; exact k
  · rw [if_neg (show ¬ (0 : Int32) ≤ Int32.ofInt a from fun z => c ((i3_le (a := 0) (by decide) ra).mp z)), show (0 : Int32) - Int32.ofInt a = Int32.ofInt (w32 (0 - a)) from i3_sub 0 a]; rw [if_neg c] at k; exact k)
end JD
/-! ===== Strings ===== -/
def strL (i : Nat) : List Int32 := ((strs[i]?).map (fun x => x.2.2.2)).getD []
def sLen (i : Nat) : Int := ((strL i).length : Int)
def sCh (i : Nat) (k : Int) : Int := ((strL i).getD k.toNat 0).toInt
theorem str_ok : strs.all (fun x => decide (x.2.2.2.length < 1000) && x.2.2.2.all (fun b => decide (0 ≤ b.toInt ∧ b.toInt ≤ 127) && decide (((b &&& 255).toUInt32 % 65536).toInt32 = b))) = true := by decide +kernel
theorem str_at {i : Nat} (hi : i < 44) : ∃ x, strs[i]? = some x ∧ strL i = x.2.2.2 := by
  have h : i < strs.length := hi
  exact ⟨strs[i], List.getElem?_eq_getElem h, by rw [strL, List.getElem?_eq_getElem h]; rfl⟩
theorem str_len (i : Nat) : (strL i).length < 1000 := by
  by_cases hi : i < strs.length
  · have h1 := List.all_eq_true.mp str_ok _ (List.getElem_mem hi)
    rw [Bool.and_eq_true] at h1
    rw [strL, List.getElem?_eq_getElem hi]
    exact of_decide_eq_true h1.1
  · rw [strL, List.getElem?_eq_none (by omega)]; decide
theorem str_ch (i : Nat) (k : Nat) (hk : k < (strL i).length) : 0 ≤ ((strL i).getD k 0).toInt ∧ ((strL i).getD k 0).toInt ≤ 127 ∧ ((((strL i).getD k 0) &&& 255).toUInt32 % 65536).toInt32 = (strL i).getD k 0 := by
  by_cases hi : i < strs.length
  · have h1 := List.all_eq_true.mp str_ok _ (List.getElem_mem hi)
    rw [Bool.and_eq_true] at h1
    have e : strL i = (strs[i]).2.2.2 := by rw [strL, List.getElem?_eq_getElem hi]; rfl
    have hm : (strL i).getD k 0 ∈ (strs[i]).2.2.2 := by
      rw [← e, List.getD_eq_getElem?_getD, List.getElem?_eq_getElem hk]; exact List.getElem_mem hk
    have h2 := List.all_eq_true.mp h1.2 _ hm
    rw [Bool.and_eq_true] at h2
    have h3 := of_decide_eq_true h2.1
    exact ⟨h3.1, h3.2, of_decide_eq_true h2.2⟩
  · rw [strL, List.getElem?_eq_none (by omega)] at hk; simp at hk
theorem r32_sLen (i : Nat) : R32 (sLen i) := by
  have := str_len i
  unfold sLen; exact ⟨by omega, by omega⟩
theorem r32_sCh (i : Nat) (k : Int) : R32 (sCh i k) := r32_t _
/-- number ix of class own is method Y1 of Strings -/
def VS (own : String) (ix : Nat) (Y1 : MI) (n : Nat) : Prop := (Cond.code Y1.1 Y1.2.1 Y1.2.2.1 Y1.2.2.2 ∈ gtb ∧ Cond.methodLink own ix Y1.1 ∈ gtb ∧ Cond.instanceMethod Y1.1 ∈ gtb ∧ Cond.selects Y1.1.cls Y1.1 Y1.1 ∈ gtb ∧ Cond.initialized Y1.1.cls ∈ gtb) ∧ Y1.1.cls = "java/lang/String" ∧ dsc Y1.1 n ∧ Y1.2.2.1 ≤ 21
def n24_1_0l : List (Nat × Cond) := [(18, (Jvm.Cond.initialized "java/lang/String")), (19, (Jvm.Cond.initialized "java/lang/StringLatin1")), (20, (Jvm.Cond.initialized "jdk/internal/util/Preconditions"))]
set_option maxRecDepth 100000 in
theorem n24_1_0 : n24_1_0l.all (fun q => decide (tables_1_1[q.1]? = some q.2)) = true := by decide +kernel
def n24_3_0l : List (Nat × Cond) := [(188, (Jvm.Cond.methodLink "SheetBranches$Value" (78 : Nat) ({ cls := "java/lang/String", name := "length", desc := "()I" } : Jvm.MethodName))), (198, (Jvm.Cond.methodLink "SheetBranches$Value" (84 : Nat) ({ cls := "java/lang/String", name := "charAt", desc := "(I)C" } : Jvm.MethodName))), (192, (Jvm.Cond.methodLink "java/lang/String" (335 : Nat) ({ cls := "java/lang/String", name := "coder", desc := "()B" } : Jvm.MethodName))), (202, (Jvm.Cond.methodLink "java/lang/String" (492 : Nat) ({ cls := "java/lang/String", name := "isLatin1", desc := "()Z" } : Jvm.MethodName))), (206, (Jvm.Cond.methodLink "java/lang/String" (495 : Nat) ({ cls := "java/lang/StringLatin1", name := "charAt", desc := "([BI)C" } : Jvm.MethodName))), (214, (Jvm.Cond.methodLink "java/lang/String" (1059 : Nat) ({ cls := "jdk/internal/util/Preconditions", name := "checkIndex", desc := "(IILjava/util/function/BiFunction;)I" } : Jvm.MethodName))), (209, (Jvm.Cond.methodLink "java/lang/StringLatin1" (9 : Nat) ({ cls := "java/lang/String", name := "checkIndex", desc := "(II)V" } : Jvm.MethodName)))]
set_option maxRecDepth 100000 in
theorem n24_3_0 : n24_3_0l.all (fun q => decide (tables_1_3[q.1]? = some q.2)) = true := by decide +kernel
def n24_4_0l : List (Nat × Cond) := [(136, (Jvm.Cond.methodLink "SheetBranches$Writer" (131 : Nat) ({ cls := "java/lang/String", name := "length", desc := "()I" } : Jvm.MethodName))), (137, (Jvm.Cond.methodLink "SheetBranches$Writer" (136 : Nat) ({ cls := "java/lang/String", name := "charAt", desc := "(I)C" } : Jvm.MethodName))), (187, (Jvm.Cond.methodLink "SheetBranches" (382 : Nat) ({ cls := "java/lang/String", name := "length", desc := "()I" } : Jvm.MethodName))), (188, (Jvm.Cond.methodLink "SheetBranches" (386 : Nat) ({ cls := "java/lang/String", name := "charAt", desc := "(I)C" } : Jvm.MethodName)))]
set_option maxRecDepth 100000 in
theorem n24_4_0 : n24_4_0l.all (fun q => decide (tables_1_4[q.1]? = some q.2)) = true := by decide +kernel
def n24_5_0l : List (Nat × Cond) := [(221, (Jvm.Cond.methodLink "SheetBranches$Reader" (137 : Nat) ({ cls := "java/lang/String", name := "charAt", desc := "(I)C" } : Jvm.MethodName))), (237, (Jvm.Cond.fieldLinkNest "SheetBranches$Reader" (275 : Nat) "SheetBranches" "LEAST_ARGS" "[I" "SheetBranches")), (239, (Jvm.Cond.fieldLinkNest "SheetBranches$Reader" (278 : Nat) "SheetBranches" "MOST_ARGS" "[I" "SheetBranches"))]
set_option maxRecDepth 100000 in
theorem n24_5_0 : n24_5_0l.all (fun q => decide (tables_1_5[q.1]? = some q.2)) = true := by decide +kernel
def n24_9_0l : List (Nat × Cond) := [(127, (Jvm.Cond.methodLink "SheetBranchesModel" (264 : Nat) ({ cls := "java/lang/String", name := "length", desc := "()I" } : Jvm.MethodName))), (128, (Jvm.Cond.methodLink "SheetBranchesModel" (273 : Nat) ({ cls := "java/lang/String", name := "charAt", desc := "(I)C" } : Jvm.MethodName)))]
set_option maxRecDepth 100000 in
theorem n24_9_0 : n24_9_0l.all (fun q => decide (tables_1_9[q.1]? = some q.2)) = true := by decide +kernel
theorem sv_X5_137 : VS RX5 137 mJ0_charAt_5068e 1 := ⟨⟨qc_J0_charAt_5068e, (gk tin_5 n24_5_0 0 rfl (by decide +kernel)), qi_J0_charAt_5068e, qs_J0_charAt_5068e, (gk tin_1 n24_1_0 0 rfl (by decide +kernel))⟩, rfl, qd_J0_charAt_5068e, by decide⟩
theorem fs_X5_275 : Cond.fieldLinkNest RX5 275 "SheetBranches" "LEAST_ARGS" "[I" "SheetBranches" ∈ tables_1 := (tk tin_5 n24_5_0 1 rfl)
theorem fs_X5_278 : Cond.fieldLinkNest RX5 278 "SheetBranches" "MOST_ARGS" "[I" "SheetBranches" ∈ tables_1 := (tk tin_5 n24_5_0 2 rfl)
theorem sv_X8_78 : VS RX8 78 mJ0_length_8abf5 0 := ⟨⟨qc_J0_length_8abf5, (gk tin_3 n24_3_0 0 rfl (by decide +kernel)), qi_J0_length_8abf5, qs_J0_length_8abf5, (gk tin_1 n24_1_0 0 rfl (by decide +kernel))⟩, rfl, qd_J0_length_8abf5, by decide⟩
theorem sv_X8_84 : VS RX8 84 mJ0_charAt_5068e 1 := ⟨⟨qc_J0_charAt_5068e, (gk tin_3 n24_3_0 1 rfl (by decide +kernel)), qi_J0_charAt_5068e, qs_J0_charAt_5068e, (gk tin_1 n24_1_0 0 rfl (by decide +kernel))⟩, rfl, qd_J0_charAt_5068e, by decide⟩
theorem sv_X10_131 : VS RX10 131 mJ0_length_8abf5 0 := ⟨⟨qc_J0_length_8abf5, (gk tin_4 n24_4_0 0 rfl (by decide +kernel)), qi_J0_length_8abf5, qs_J0_length_8abf5, (gk tin_1 n24_1_0 0 rfl (by decide +kernel))⟩, rfl, qd_J0_length_8abf5, by decide⟩
theorem sv_X10_136 : VS RX10 136 mJ0_charAt_5068e 1 := ⟨⟨qc_J0_charAt_5068e, (gk tin_4 n24_4_0 1 rfl (by decide +kernel)), qi_J0_charAt_5068e, qs_J0_charAt_5068e, (gk tin_1 n24_1_0 0 rfl (by decide +kernel))⟩, rfl, qd_J0_charAt_5068e, by decide⟩
theorem sv_X11_382 : VS RX11 382 mJ0_length_8abf5 0 := ⟨⟨qc_J0_length_8abf5, (gk tin_4 n24_4_0 2 rfl (by decide +kernel)), qi_J0_length_8abf5, qs_J0_length_8abf5, (gk tin_1 n24_1_0 0 rfl (by decide +kernel))⟩, rfl, qd_J0_length_8abf5, by decide⟩
theorem sv_X11_386 : VS RX11 386 mJ0_charAt_5068e 1 := ⟨⟨qc_J0_charAt_5068e, (gk tin_4 n24_4_0 3 rfl (by decide +kernel)), qi_J0_charAt_5068e, qs_J0_charAt_5068e, (gk tin_1 n24_1_0 0 rfl (by decide +kernel))⟩, rfl, qd_J0_charAt_5068e, by decide⟩
theorem sv_X12_264 : VS RX12 264 mJ0_length_8abf5 0 := ⟨⟨qc_J0_length_8abf5, (gk tin_9 n24_9_0 0 rfl (by decide +kernel)), qi_J0_length_8abf5, qs_J0_length_8abf5, (gk tin_1 n24_1_0 0 rfl (by decide +kernel))⟩, rfl, qd_J0_length_8abf5, by decide⟩
theorem sv_X12_273 : VS RX12 273 mJ0_charAt_5068e 1 := ⟨⟨qc_J0_charAt_5068e, (gk tin_9 n24_9_0 1 rfl (by decide +kernel)), qi_J0_charAt_5068e, qs_J0_charAt_5068e, (gk tin_1 n24_1_0 0 rfl (by decide +kernel))⟩, rfl, qd_J0_charAt_5068e, by decide⟩
theorem sv_J0_335 : VS RJ0 335 mJ0_coder_7d493 0 := ⟨⟨qc_J0_coder_7d493, (gk tin_3 n24_3_0 2 rfl (by decide +kernel)), qi_J0_coder_7d493, qs_J0_coder_7d493, (gk tin_1 n24_1_0 0 rfl (by decide +kernel))⟩, rfl, qd_J0_coder_7d493, by decide⟩
theorem sv_J0_492 : VS RJ0 492 mJ0_isLatin1_aae02 0 := ⟨⟨qc_J0_isLatin1_aae02, (gk tin_3 n24_3_0 3 rfl (by decide +kernel)), qi_J0_isLatin1_aae02, qs_J0_isLatin1_aae02, (gk tin_1 n24_1_0 0 rfl (by decide +kernel))⟩, rfl, qd_J0_isLatin1_aae02, by decide⟩
theorem sl_J0_495 : SL RJ0 495 mJ1_charAt_3b067 2 := ⟨⟨qc_J1_charAt_3b067, (gk tin_3 n24_3_0 4 rfl (by decide +kernel)), qt_J1_charAt_3b067, (gk tin_1 n24_1_0 1 rfl (by decide +kernel))⟩, qd_J1_charAt_3b067, by decide⟩
theorem sl_J0_1059 : SL RJ0 1059 mJ3_checkIndex_8e157 3 := ⟨⟨qc_J3_checkIndex_8e157, (gk tin_3 n24_3_0 5 rfl (by decide +kernel)), qt_J3_checkIndex_8e157, (gk tin_1 n24_1_0 2 rfl (by decide +kernel))⟩, qd_J3_checkIndex_8e157, by decide⟩
theorem sl_J1_9 : SL RJ1 9 mJ0_checkIndex_df160 2 := ⟨⟨qc_J0_checkIndex_df160, (gk tin_3 n24_3_0 6 rfl (by decide +kernel)), qt_J0_checkIndex_df160, (gk tin_1 n24_1_0 0 rfl (by decide +kernel))⟩, qd_J0_checkIndex_df160, by decide⟩
section JSTR
variable {Y Y1 : MI} {d d1 mc ms mc1 ms1 : Nat} {post : Option Sv ⊕ String → Hp → Prop} {post1 : Option Sv → Hp → Prop} {pc : Nat} {lv : List (Option Sv)} {st as : List Sv} {h : Hp}
theorem j_callVS {ix n i0 : Nat} {x0 : String × Nat × String × List Int32} (hd : decode Y.2.1 pc = .ok (.invokevirtual ix, 3)) (hx0 : strs[i0]? = some x0) (hM : VS Y.1.cls ix Y1 n) (con : Con Y1 d1 mc1 ms1 (vs i0 :: as) h post1) (hn : as.length = n) (hdd : d1 < d) (hmc : mc1 ≤ mc) (hms : ms1 ≤ ms) (hs : (st.map ct).sum ≤ 8) (kk : ∀ (v : Option Sv) (u : Hp), post1 v u → J Y d (mc - mc1) (ms - ms1) post (pc + 3) lv (rs v st) u) : J Y d mc ms post pc lv (as.reverse ++ vs i0 :: st) h := by
  intro p l e s m args below meth c0 H locs cells slots ls Q D cy A MC MS C R hl h1 h2 hr hx
  obtain ⟨L, hL, hP, hD, hS⟩ := id R
  have hpre : ∀ U : State, U.heap = H → s.WarmedH U.vm → va_Pc ((vs i0 :: as).map (tv cy)) (Pre D cy L H.size h) ((vs i0 :: as).map (tv cy)).toArray U := fun U hU hW => ⟨rfl, by rw [hU], by rw [hU]; exact hP, va_K.moved hW.alike C.2.2.2.2.2.1, hD.weaken (fun _ _ _ _ => trivial), Xw_warm hW C.2.2.2.2.2.2.2.1.1, by rw [hU]; exact Sw_pass hS.2.1 (A_sub hD hS C.2.2.2.2.2.2.1) hW C.2.2.2.2.2.2.2.1.2⟩
  have hst : ∀ w : List Sv, ((w.reverse ++ (vs i0 :: st)).map (tv cy)) = (w.map (tv cy)).reverse ++ ((vs i0 :: st)).map (tv cy) := fun w => by rw [List.map_append, List.map_reverse]
  have hroom : 2 * (F0 m pc ls []).monitorRoom + ((st.map (tv cy)).map fun v => v.category).sum ≤ 8 := by rw [cat_map]; show 2 * 0 + _ ≤ 8; omega
  obtain ⟨⟨w1, w2, w3, w4, w5⟩, hcls, hdsc, hmax⟩ := hM
  have hrv : ∃ cell : Cell, H[cy (100 + i0)]? = some cell ∧ cell.vm.isStatics = false ∧ s.vm.findClass Y1.1.cls = some cell.cls := by
    obtain ⟨cell, g1, g2, g3, -⟩ := ((C.2.2.2.2.2.2.2.1.2.1 i0 x0 hx0).2.1).kept hS.2.1
    exact ⟨cell, g1, g2, by rw [hcls]; exact g3⟩
  have hG : GoodIn gtb (wsV Y.1.cls ix Y1.1.cls Y1.1 (wy Y1)) := gi_gtb (fun w hw => by
    rcases List.mem_append.mp hw with hw | hw
    · simp only [List.mem_cons, List.not_mem_nil, or_false] at hw
      rcases hw with rfl | rfl | rfl | rfl
      · exact w2
      · exact w3
      · exact w4
      · exact w5
    · exact gi_wy w1 w hw)
  rw [hst as]
  exact w_call (va_runV (As := as.map (tv cy)) (rest := st.map (tv cy)) ⟨C.1, C.2.1, C.2.2.1, C.2.2.2.1, C.2.2.2.2.1⟩ (con l D cy L H.size hL) (cwV n C.2.2.2.2.1 hG rfl rfl rfl ⟨rfl, hdsc⟩ ⟨show d1 + 1 ≤ d by omega, show 8 + (Y1.2.2.1 + 11) + 40 * d1 ≤ 40 * d by omega⟩) ⟨pre_blind, hrv, hpre⟩ rfl (by rw [List.length_map]; exact hn) hl.1 rfl hroom hd ⟨show cells + mc1 ≤ MC by omega, show slots + ms1 ≤ MS by omega⟩) hS (A_sub hD hS C.2.2.2.2.2.2.1) (fun v u H1 locs1 hp hR1 => kk v u hp p l e s m args below meth c0 H1 locs1 (cells + mc1) (slots + ms1) ls Q D cy A MC MS C hR1 hl (by omega) (by omega) hr hx)
/-- what tells a wrong index: nothing, or something -/
theorem j_getsF {n : Nat} {ref : String} (hd : decode Y.2.1 pc = .ok (.getstatic n, 3)) (hw : Cond.fieldLink Y.1.cls n ref "SIOOBE_FORMATTER" "Ljava/util/function/BiFunction;" ∈ gtb) (hre : ref = "jdk/internal/util/Preconditions") (k : ∀ o : Sv, (o = vr none ∨ o = vs 96) → J Y d mc ms post (pc + 3) lv (o :: st) h) : J Y d mc ms post pc lv st h := by
  intro p l e s m args below meth c H locs cells slots ls Q D cy A MC MS C R hl h1 h2 hr hx'
  obtain ⟨L, hL, hP, hD, hS⟩ := id R
  subst hre
  rcases C.2.2.2.2.2.2.2.1.2.2.2.2.2 with z | z
  · exact va_gets C.1 C.2.1 z hS C.2.2.2.1 (C.2.2.2.2.1 _ hw) (fun _ h => h) hd (k (vr none) (Or.inl rfl) p l e s m args below meth c H locs cells slots ls Q D cy A MC MS C R hl h1 h2 hr hx')
  · exact va_gets C.1 C.2.1 z hS C.2.2.2.1 (C.2.2.2.2.1 _ hw) (fun _ h => h) hd (k (vs 96) (Or.inr rfl) p l e s m args below meth c H locs cells slots ls Q D cy A MC MS C R hl h1 h2 hr hx')
end JSTR
theorem c_check3 {h : Hp} {a b : Int} {o : Sv} (ho : o = vr none ∨ o = vs 96) (ra : R32 a) (rb : R32 b) (h0 : 0 ≤ a) (h1 : a < b) : Con mJ3_checkIndex_8e157 1 0 0 [ii a, ii b, o] h (fun v u => v = some (ii a) ∧ u = h) := by
  have hlv : lv0 3 [ii a, ii b, o] = [some (ii a), some (ii b), some o] := by rcases ho with rfl | rfl <;> rfl
  refine con_of rfl (by show (lva [ii a, ii b, o]).length ≤ 3; rcases ho with rfl | rfl <;> exact Nat.le_of_ble_eq_true rfl) (by decide) ?_
  show J mJ3_checkIndex_8e157 1 0 0 _ 0 (lv0 3 [ii a, ii b, o]) [] h
  rw [hlv]
  refine j_iload_n (dk dt_J3_checkIndex_8e157 0 rfl) rfl ?_
  refine jz_if_lt 9 (dk dt_J3_checkIndex_8e157 1 rfl) (by decide) ra (A := False) (B := True) (by rw [if_neg (by omega)]; trivial) (fun H => H.elim) (fun _ => ?_)
  refine j_iload_n (dk dt_J3_checkIndex_8e157 2 rfl) rfl ?_
  refine j_iload_n (dk dt_J3_checkIndex_8e157 3 rfl) rfl ?_
  refine jz_icmp_lt 16 (dk dt_J3_checkIndex_8e157 4 rfl) (by decide) ra rb (A := True) (B := False) (by rw [if_pos h1]; trivial) (fun _ => ?_) (fun H => H.elim)
  refine j_iload_n (dk dt_J3_checkIndex_8e157 10 rfl) rfl ?_
  exact j_ireturn (dk dt_J3_checkIndex_8e157 11 rfl) rfl rfl ⟨rfl, rfl⟩
theorem c_check2 {h : Hp} {a b : Int} (ra : R32 a) (rb : R32 b) (h0 : 0 ≤ a) (h1 : a < b) : Con mJ0_checkIndex_df160 2 0 0 [ii a, ii b] h (fun v u => v = none ∧ u = h) := by
  refine con_of rfl (Nat.le_of_ble_eq_true rfl) (by decide) ?_
  show J mJ0_checkIndex_df160 2 0 0 _ 0 [some (ii a), some (ii b)] [] h
  refine j_iload_n (dk dt_J0_checkIndex_df160 0 rfl) rfl ?_
  refine j_iload_n (dk dt_J0_checkIndex_df160 1 rfl) rfl ?_
  refine j_getsF (dk dt_J0_checkIndex_df160 2 rfl) fs_J0_1053 rfl (fun o ho => ?_)
  refine j_callS3 (dk dt_J0_checkIndex_df160 3 rfl) sl_J0_1059 (c_check3 ho ra rb h0 h1) rfl (by decide) (Nat.zero_le _) (Nat.zero_le _) (Nat.le_of_ble_eq_true rfl) (fun v u p => ?_)
  obtain ⟨rfl, rfl⟩ := p
  dsimp only [rs]
  refine j_pop (dk dt_J0_checkIndex_df160 4 rfl) rfl ?_
  exact j_return (dk dt_J0_checkIndex_df160 5 rfl) rfl ⟨rfl, rfl⟩
theorem c_coder {h : Hp} {i : Nat} (hi : i < 44) : Con mJ0_coder_7d493 1 0 0 [vs i] h (fun v u => v = some (ii 0) ∧ u = h) := by
  obtain ⟨x, hx, -⟩ := str_at hi
  refine con_of rfl (Nat.le_of_ble_eq_true rfl) (by decide) ?_
  show J mJ0_coder_7d493 1 0 0 _ 0 [some (vs i)] [] h
  refine j_getsC (dk dt_J0_coder_7d493 0 rfl) fs_J0_38 rfl ?_
  refine jz_if_eq (a := 1) 13 (dk dt_J0_coder_7d493 1 rfl) (by decide) (by decide) (A := False) (B := True) trivial (fun H => H.elim) (fun _ => ?_)
  refine j_aloadS_n (dk dt_J0_coder_7d493 2 rfl) rfl ?_
  refine j_getsK hx (dk dt_J0_coder_7d493 3 rfl) fs_J0_15 rfl ?_
  refine j_goto 14 (dk dt_J0_coder_7d493 4 rfl) (by decide) ?_
  exact j_ireturn (dk dt_J0_coder_7d493 6 rfl) rfl rfl ⟨rfl, rfl⟩
theorem c_latin {h : Hp} {i : Nat} (hi : i < 44) : Con mJ0_isLatin1_aae02 1 0 0 [vs i] h (fun v u => v = some (ii 1) ∧ u = h) := by
  obtain ⟨x, hx, -⟩ := str_at hi
  refine con_of rfl (Nat.le_of_ble_eq_true rfl) (by decide) ?_
  show J mJ0_isLatin1_aae02 1 0 0 _ 0 [some (vs i)] [] h
  refine j_getsC (dk dt_J0_isLatin1_aae02 0 rfl) fs_J0_38 rfl ?_
  refine jz_if_eq (a := 1) 17 (dk dt_J0_isLatin1_aae02 1 rfl) (by decide) (by decide) (A := False) (B := True) trivial (fun H => H.elim) (fun _ => ?_)
  refine j_aloadS_n (dk dt_J0_isLatin1_aae02 2 rfl) rfl ?_
  refine j_getsK hx (dk dt_J0_isLatin1_aae02 3 rfl) fs_J0_15 rfl ?_
  refine jz_if_ne (a := 0) 17 (dk dt_J0_isLatin1_aae02 4 rfl) (by decide) (by decide) (A := True) (B := False) trivial (fun _ => ?_) (fun H => H.elim)
  refine j_iconst (v := Int32.ofInt 1) (dk dt_J0_isLatin1_aae02 5 rfl) (by decide) ?_
  refine j_goto 18 (dk dt_J0_isLatin1_aae02 6 rfl) (by decide) ?_
  exact j_ireturn (dk dt_J0_isLatin1_aae02 8 rfl) rfl rfl ⟨rfl, rfl⟩
theorem shr0 (n : Nat) (h : n < 1000) : (nI n) >>> ((0 : Int32) &&& 31) = Int32.ofInt (n : Int) := by
  have e := pk_shrN (n := n) (by omega) ((0 : Int32) &&& 31) 0 (by decide)
  rw [e, Nat.pow_zero, Nat.div_one]
  exact (Int32.ofInt_eq_ofNat).symm
theorem c_length {h : Hp} {i : Nat} (hi : i < 44) : Con mJ0_length_8abf5 2 0 0 [vs i] h (fun v u => v = some (ii (sLen i)) ∧ u = h) := by
  obtain ⟨x, hx, ex⟩ := str_at hi
  have hl := str_len i
  refine con_of rfl (Nat.le_of_ble_eq_true rfl) (by decide) ?_
  show J mJ0_length_8abf5 2 0 0 _ 0 [some (vs i)] [] h
  refine j_aloadS_n (dk dt_J0_length_8abf5 0 rfl) rfl ?_
  refine j_getsV hx (dk dt_J0_length_8abf5 1 rfl) fs_J0_9 rfl ?_
  refine j_slen hx (dk dt_J0_length_8abf5 2 rfl) ?_
  refine j_aloadS_n (dk dt_J0_length_8abf5 3 rfl) rfl ?_
  refine j_callVS (as := []) (dk dt_J0_length_8abf5 4 rfl) hx sv_J0_335 (c_coder hi) rfl (by decide) (Nat.zero_le _) (Nat.zero_le _) (Nat.le_of_ble_eq_true rfl) (fun v u p => ?_)
  obtain ⟨rfl, rfl⟩ := p
  dsimp only [rs]
  refine j_ishr (dk dt_J0_length_8abf5 5 rfl) ?_
  refine j_ireturn (dk dt_J0_length_8abf5 6 rfl) rfl rfl ⟨?_, rfl⟩
  rw [sLen, ex]
  show some (vi (nI x.2.2.2.length >>> ((0 : Int32) &&& 31))) = some (vi (Int32.ofInt (x.2.2.2.length : Int)))
  rw [shr0 _ (by rw [← ex]; exact hl)]
theorem c_lcharAt {h : Hp} {i : Nat} {k : Int} (hi : i < 44) (h0 : 0 ≤ k) (h1 : k < sLen i) : Con mJ1_charAt_3b067 3 0 0 [vs (50 + i), ii k] h (fun v u => v = some (ii (sCh i k)) ∧ u = h) := by
  obtain ⟨x, hx, ex⟩ := str_at hi
  have hl := str_len i
  have hk : k.toNat < (strL i).length := by unfold sLen at h1; omega
  obtain ⟨b1, b2, b3⟩ := str_ch i k.toNat hk
  have rk : R32 k := by unfold sLen at h1; exact ⟨by omega, by omega⟩
  refine con_of rfl (Nat.le_of_ble_eq_true rfl) (by decide) ?_
  show J mJ1_charAt_3b067 3 0 0 _ 0 [some (vs (50 + i)), some (ii k)] [] h
  refine j_iload_n (dk dt_J1_charAt_3b067 0 rfl) rfl ?_
  refine j_aloadS_n (dk dt_J1_charAt_3b067 1 rfl) rfl ?_
  refine j_slen hx (dk dt_J1_charAt_3b067 2 rfl) ?_
  rw [← ex, show nI (strL i).length = Int32.ofInt (sLen i) from (Int32.ofInt_eq_ofNat).symm]
  refine j_callS2 (dk dt_J1_charAt_3b067 3 rfl) sl_J1_9 (c_check2 rk (r32_sLen i) h0 h1) rfl (by decide) (Nat.zero_le _) (Nat.zero_le _) (Nat.le_of_ble_eq_true rfl) (fun v u p => ?_)
  obtain ⟨rfl, rfl⟩ := p
  dsimp only [rs]
  refine j_aloadS_n (dk dt_J1_charAt_3b067 4 rfl) rfl ?_
  refine j_iload_n (dk dt_J1_charAt_3b067 5 rfl) rfl ?_
  refine j_sbald k.toNat hx (dk dt_J1_charAt_3b067 6 rfl) (i3_nI h0) (by rw [← ex]; exact hk) (by rw [← ex]; omega) ?_
  rw [← ex]
  refine j_sipush (v := 255) (dk dt_J1_charAt_3b067 7 rfl) (by decide) ?_
  refine j_iand (dk dt_J1_charAt_3b067 8 rfl) ?_
  refine j_i2c _ (dk dt_J1_charAt_3b067 9 rfl) b3 ?_
  refine j_ireturn (dk dt_J1_charAt_3b067 10 rfl) rfl ?_ ⟨?_, rfl⟩
  · have e9 := pk_charN (q := ((strL i).getD k.toNat 0).toInt.toNat) (by omega)
    rw [show nI ((strL i).getD k.toNat 0).toInt.toNat = (strL i).getD k.toNat 0 by rw [← i3_nI b1, Int32.ofInt_toInt]] at e9
    exact e9.1
  · show _ = some (vi (Int32.ofInt (sCh i k)))
    rw [sCh, Int32.ofInt_toInt]
theorem c_charAt {h : Hp} {i : Nat} {k : Int} (hi : i < 44) (h0 : 0 ≤ k) (h1 : k < sLen i) : Con mJ0_charAt_5068e 4 0 0 [vs i, ii k] h (fun v u => v = some (ii (sCh i k)) ∧ u = h) := by
  obtain ⟨x, hx, ex⟩ := str_at hi
  have hl := str_len i
  have hk : k.toNat < (strL i).length := by unfold sLen at h1; omega
  obtain ⟨b1, b2, b3⟩ := str_ch i k.toNat hk
  refine con_of rfl (Nat.le_of_ble_eq_true rfl) (by decide) ?_
  show J mJ0_charAt_5068e 4 0 0 _ 0 [some (vs i), some (ii k)] [] h
  refine j_aloadS_n (dk dt_J0_charAt_5068e 0 rfl) rfl ?_
  refine j_callVS (as := []) (dk dt_J0_charAt_5068e 1 rfl) hx sv_J0_492 (c_latin hi) rfl (by decide) (Nat.zero_le _) (Nat.zero_le _) (Nat.le_of_ble_eq_true rfl) (fun v u p => ?_)
  obtain ⟨rfl, rfl⟩ := p
  dsimp only [rs]
  refine jz_if_eq (a := 1) 16 (dk dt_J0_charAt_5068e 2 rfl) (by decide) (by decide) (A := False) (B := True) trivial (fun H => H.elim) (fun _ => ?_)
  refine j_aloadS_n (dk dt_J0_charAt_5068e 3 rfl) rfl ?_
  refine j_getsV hx (dk dt_J0_charAt_5068e 4 rfl) fs_J0_9 rfl ?_
  refine j_iload_n (dk dt_J0_charAt_5068e 5 rfl) rfl ?_
  refine j_callS2 (dk dt_J0_charAt_5068e 6 rfl) sl_J0_495 (c_lcharAt hi h0 h1) rfl (by decide) (Nat.zero_le _) (Nat.zero_le _) (Nat.le_of_ble_eq_true rfl) (fun v u p => ?_)
  obtain ⟨rfl, rfl⟩ := p
  dsimp only [rs]
  refine j_ireturn (dk dt_J0_charAt_5068e 7 rfl) rfl ?_ ⟨rfl, rfl⟩
  have e9 := pk_charN (q := ((strL i).getD k.toNat 0).toInt.toNat) (by omega)
  rw [show nI ((strL i).getD k.toNat 0).toInt.toNat = (strL i).getD k.toNat 0 by rw [← i3_nI b1, Int32.ofInt_toInt]] at e9
  rw [sCh, Int32.ofInt_toInt]
  exact e9.1
section JSTR2
variable {Y : MI} {d mc ms : Nat} {post : Option Sv ⊕ String → Hp → Prop} {pc : Nat} {lv : List (Option Sv)} {st : List Sv} {h : Hp}
theorem jz_slength {ix i : Nat} (hd : decode Y.2.1 pc = .ok (.invokevirtual ix, 3)) (hM : VS Y.1.cls ix mJ0_length_8abf5 0) (hi : i < 44) (hd1 : 3 ≤ d) (hs : (st.map ct).sum ≤ 8) (k : J Y d mc ms post (pc + 3) lv (ii (sLen i) :: st) h) : J Y d mc ms post pc lv (vs i :: st) h := by
  obtain ⟨x, hx, -⟩ := str_at hi
  refine j_callVS (as := []) hd hx hM (c_length hi) rfl (by omega) (Nat.zero_le _) (Nat.zero_le _) hs (fun v u p => ?_)
  obtain ⟨rfl, rfl⟩ := p
  exact k
theorem jz_scharAt {ix i : Nat} {a : Int} (hd : decode Y.2.1 pc = .ok (.invokevirtual ix, 3)) (hM : VS Y.1.cls ix mJ0_charAt_5068e 1) (hi : i < 44) (h0 : 0 ≤ a) (h1 : a < sLen i) (hd1 : 5 ≤ d) (hs : (st.map ct).sum ≤ 8) (k : J Y d mc ms post (pc + 3) lv (ii (sCh i a) :: st) h) : J Y d mc ms post pc lv (ii a :: vs i :: st) h := by
  obtain ⟨x, hx, -⟩ := str_at hi
  refine j_callVS (as := [ii a]) hd hx hM (c_charAt hi h0 h1) rfl (by omega) (Nat.zero_le _) (Nat.zero_le _) hs (fun v u p => ?_)
  obtain ⟨rfl, rfl⟩ := p
  exact k
end JSTR2
