/-! ===== Math.max, min, abs of ints; clone of ints ===== -/
section JM
variable {Y : MI} {d mc ms : Nat} {post : Option Sv ⊕ String → Hp → Prop} {pc : Nat} {lv : List (Option Sv)} {st : List Sv} {h : Hp}
theorem mmax_1 : mJ9_max_7cf53.1 = Lib.Math.max.name := rfl
theorem mmax_2 : mJ9_max_7cf53.2.1 = Lib.Math.max.code := by decide +kernel
theorem j_mmax {ix : Nat} {x y : Int32} (hd : decode Y.2.1 pc = .ok (.invokestatic ix, 3)) (hM : SL Y.1.cls ix mJ9_max_7cf53 2) (hd1 : 1 ≤ d) (hs : (st.map ct).sum ≤ 8) (kk : J Y d mc ms post (pc + 3) lv (vi (if x < y then y else x) :: st) h) : J Y d mc ms post pc lv (vi y :: vi x :: st) h := by
  intro p l e s m args below meth c0 H locs cells slots ls Q D cy A MC MS C R hl h1 h2 hr hx
  obtain ⟨⟨w1, w2, w3, w4⟩, -⟩ := hM
  rw [mmax_1, mmax_2] at w1
  rw [mmax_1] at w2 w3
  refine va_mmax C.1 C.2.1 (by rw [C.2.2.1]; exact hl.1.symm) C.2.2.2.1 (C.2.2.2.2.1 _ w2) (C.2.2.2.2.1 _ w3) (C.2.2.2.2.1 _ w4) (C.2.2.2.2.1 _ w1) (show 1 ≤ d from hd1) ?_ (show cells ≤ MC by omega) (show slots ≤ MS by omega) hd ?_
  · have e9 : ((st.map tv).map fun v => v.category) = st.map ct := by rw [List.map_map]; exact List.map_congr_left (fun v _ => tv_cat v)
    rw [e9]; show _ + 13 ≤ 40 * d; omega
  · exact kk p l e s m args below meth c0 H locs cells slots ls Q D cy A MC MS C R hl h1 h2 hr hx
theorem mmin_1 : mJ9_min_7cf53.1 = Lib.Math.min.name := rfl
theorem mmin_2 : mJ9_min_7cf53.2.1 = Lib.Math.min.code := by decide +kernel
theorem j_mmin {ix : Nat} {x y : Int32} (hd : decode Y.2.1 pc = .ok (.invokestatic ix, 3)) (hM : SL Y.1.cls ix mJ9_min_7cf53 2) (hd1 : 1 ≤ d) (hs : (st.map ct).sum ≤ 8) (kk : J Y d mc ms post (pc + 3) lv (vi (if y < x then y else x) :: st) h) : J Y d mc ms post pc lv (vi y :: vi x :: st) h := by
  intro p l e s m args below meth c0 H locs cells slots ls Q D cy A MC MS C R hl h1 h2 hr hx
  obtain ⟨⟨w1, w2, w3, w4⟩, -⟩ := hM
  rw [mmin_1, mmin_2] at w1
  rw [mmin_1] at w2 w3
  refine va_mmin C.1 C.2.1 (by rw [C.2.2.1]; exact hl.1.symm) C.2.2.2.1 (C.2.2.2.2.1 _ w2) (C.2.2.2.2.1 _ w3) (C.2.2.2.2.1 _ w4) (C.2.2.2.2.1 _ w1) (show 1 ≤ d from hd1) ?_ (show cells ≤ MC by omega) (show slots ≤ MS by omega) hd ?_
  · have e9 : ((st.map tv).map fun v => v.category) = st.map ct := by rw [List.map_map]; exact List.map_congr_left (fun v _ => tv_cat v)
    rw [e9]; show _ + 13 ≤ 40 * d; omega
  · exact kk p l e s m args below meth c0 H locs cells slots ls Q D cy A MC MS C R hl h1 h2 hr hx
theorem mabs_1 : mJ9_abs_0f7a4.1 = Lib.Math.abs.name := rfl
theorem mabs_2 : mJ9_abs_0f7a4.2.1 = Lib.Math.abs.code := by decide +kernel
theorem j_mabs {ix : Nat} {x : Int32} (hd : decode Y.2.1 pc = .ok (.invokestatic ix, 3)) (hM : SL Y.1.cls ix mJ9_abs_0f7a4 1) (hd1 : 1 ≤ d) (hs : (st.map ct).sum ≤ 8) (kk : J Y d mc ms post (pc + 3) lv (vi (if 0 ≤ x then x else 0 - x) :: st) h) : J Y d mc ms post pc lv (vi x :: st) h := by
  intro p l e s m args below meth c0 H locs cells slots ls Q D cy A MC MS C R hl h1 h2 hr hx
  obtain ⟨⟨w1, w2, w3, w4⟩, -⟩ := hM
  rw [mabs_1, mabs_2] at w1
  rw [mabs_1] at w2 w3
  refine va_mabs C.1 C.2.1 (by rw [C.2.2.1]; exact hl.1.symm) C.2.2.2.1 (C.2.2.2.2.1 _ w2) (C.2.2.2.2.1 _ w3) (C.2.2.2.2.1 _ w4) (C.2.2.2.2.1 _ w1) (show 1 ≤ d from hd1) ?_ (show cells ≤ MC by omega) (show slots ≤ MS by omega) hd ?_
  · have e9 : ((st.map tv).map fun v => v.category) = st.map ct := by rw [List.map_map]; exact List.map_congr_left (fun v _ => tv_cat v)
    rw [e9]; show _ + 13 ≤ 40 * d; omega
  · exact kk p l e s m args below meth c0 H locs cells slots ls Q D cy A MC MS C R hl h1 h2 hr hx
/-- ints of one row as a new row -/
theorem Rp_cl {D : va_G} {cy : Nat → ClassId} {A : Nat → Prop} {H0 H1 : Heap} {locs : List Loc} {h : Hp} {L : List Nat} {q n : Nat} {f : Nat → Int32} {e : va_E} (hL : Lk L h) (he : ce cy (sI (nw h q 15 n) q f) q = e) (hP : va_P D vwCl (va_pl L (ce cy h) ++ [(q, e)]) H1) (hD : va_D A (va_pl L (ce cy h) ++ [(q, e)])) (hS : va_S A H0 H1 locs) : hK h q = 0 ∧ Rp D cy A H0 H1 locs (sI (nw h q 15 n) q f) := by
  have hq : q ∉ L := fun hq => by
    obtain ⟨k, hk⟩ := pl_get (f := ce cy h) hq
    have hlt := (List.getElem?_eq_some_iff.mp hk).1
    have h1 : (va_pl L (ce cy h) ++ [(q, e)])[k]? = some (q, ce cy h q) := by rw [List.getElem?_append_left hlt]; exact hk
    have h2 : (va_pl L (ce cy h) ++ [(q, e)])[(va_pl L (ce cy h)).length]? = some (q, e) := by simp
    have := hD.1 _ _ _ _ h1 h2 rfl
    omega
  have h0 : hK h q = 0 := Classical.byContradiction fun h1 => hq ((hL q).mpr h1)
  refine ⟨h0, ?_⟩
  have ho : ∀ b, b ≠ q → ce cy (sI (nw h q 15 n) q f) b = ce cy h b := fun b hb => ce_congr (by show hK (nw h q 15 n) b = _; rw [hK_nw, if_neg hb]) (by show hN (nw h q 15 n) b = _; rw [hN_nw, if_neg hb]) (by rw [hI_sI, if_neg hb]; funext j; rw [hI_nw, if_neg hb]) (by funext j; show hG (nw h q 15 n) b j = _; rw [hG_nw, if_neg hb]) (by funext j; show hO (nw h q 15 n) b j = _; rw [hO_nw, if_neg hb])
  rw [va_pl_push hq, va_pl_congr (up_ce he ho)] at hP hD
  refine ⟨L ++ [q], fun b => ?_, hP, hD, hS⟩
  show b ∈ L ++ [q] ↔ hK (nw h q 15 n) b ≠ 0
  rw [hK_nw, List.mem_append, List.mem_singleton]
  by_cases hb : b = q
  · subst hb; simp
  · simp [hb, hL b]
theorem cln_1 : Cond.sameMethod "[I" "java/lang/Object" "clone" "()Ljava/lang/Object;" ∈ gtb := (gtb_in (List.mem_of_getElem? (i := 1409) (by decide +kernel)) (by decide +kernel))
theorem cln_2 : Cond.native ⟨"java/lang/Object", "clone", "()Ljava/lang/Object;"⟩ ∈ gtb := (gtb_in (List.mem_of_getElem? (i := 1410) (by decide +kernel)) (by decide +kernel))
theorem cln_3 : Cond.instanceMethod ⟨"java/lang/Object", "clone", "()Ljava/lang/Object;"⟩ ∈ gtb := (gtb_in (List.mem_of_getElem? (i := 1411) (by decide +kernel)) (by decide +kernel))
theorem cln_4 : Cond.selects "[I" ⟨"[I", "clone", "()Ljava/lang/Object;"⟩ ⟨"java/lang/Object", "clone", "()Ljava/lang/Object;"⟩ ∈ gtb := (gtb_in (List.mem_of_getElem? (i := 1412) (by decide +kernel)) (by decide +kernel))
theorem cln_5 : Cond.castable "[I" "java/lang/Cloneable" ∈ tables_1 := List.mem_of_getElem? (i := 1413) (by decide +kernel)
theorem j_clone {ix a : Nat} (n : Nat) (hd : decode Y.2.1 pc = .ok (.invokevirtual ix, 3)) (hw : Cond.methodLink Y.1.cls ix ⟨"[I", "clone", "()Ljava/lang/Object;"⟩ ∈ gtb) (hk : hK h a = 15) (hn : hN h a = n) (hd1 : 1 ≤ d) (hs : (st.map ct).sum ≤ 8) (kk : ∀ q, hK h q = 0 → J Y d mc ms post (pc + 3) lv (vr (some q) :: st) (sI (nw h q 15 n) q (hI h a))) : J Y d (mc + 1) (ms + n) post pc lv (vr (some a) :: st) h := by
  intro p l e s m args below meth c0 H locs cells slots ls Q D cy A MC MS C R hl h1 h2 hr hx
  obtain ⟨L, hL, hP, hD, hS⟩ := id R
  obtain ⟨q0, hq0⟩ := pl_get (f := ce cy h) ((hL a).mpr (by omega))
  rw [ce_i (c := 1) hk (by decide) (by decide), hn] at hq0
  have hKK := C.2.2.2.2.2.1
  refine va_clone C.1 C.2.1 (by rw [C.2.2.1]; exact hl.1.symm) C.2.2.2.1 (C.2.2.2.2.1 _ hw) (C.2.2.2.2.1 _ cln_1) (C.2.2.2.2.1 _ cln_2) (C.2.2.2.2.1 _ cln_3) (C.2.2.2.2.1 _ cln_4) (C.2.2.2.2.2.2.2.1 _ cln_5 rfl) hKK hP hD hS C.2.2.2.2.2.2.1 q0 1 hq0 rfl (va_nm_int (hKK.2 1 (cy 1, .int) rfl).2) (va_fit (fun _ _ => rfl)) (show 1 ≤ d from hd1) ?_ (show cells + 1 ≤ MC by omega) (show slots + n ≤ MS by omega) hd (fun q H1 hK1 hP1 hD1 hS1 => ?_)
  · have e9 : ((st.map tv).map fun v => v.category) = st.map ct := by rw [List.map_map]; exact List.map_congr_left (fun v _ => tv_cat v)
    rw [e9]; show _ + 14 ≤ 40 * d; omega
  · obtain ⟨e1, e2⟩ := Rp_cl (n := n) (f := hI h a) hL ((ce_i (c := 1) (by show hK (nw h q 15 n) q = _; rw [hK_nw, if_pos rfl]) (by decide) (by decide)).trans (by rw [show hN (sI (nw h q 15 n) q (hI h a)) q = n by show hN (nw h q 15 n) q = n; rw [hN_nw, if_pos rfl], hI_sI1])) hP1 hD1 hS1
    exact kk q e1 p l e s m args below meth c0 H1 locs (cells + 1) (slots + n) ls Q D cy A MC MS C e2 hl (by omega) (by omega) hr hx
theorem j_castI {ix a : Nat} (hd : decode Y.2.1 pc = .ok (.checkcast ix, 3)) (hw : Cond.classLink Y.1.cls ix "[I" ∈ gtb) (hk : hK h a = 15) (kk : J Y d mc ms post (pc + 3) lv (vr (some a) :: st) h) : J Y d mc ms post pc lv (vr (some a) :: st) h := by
  intro p l e s m args below meth c0 H locs cells slots ls Q D cy A MC MS C R hl h1 h2 hr hx
  obtain ⟨L, hL, hP, hD, hS⟩ := id R
  obtain ⟨q0, hq0⟩ := pl_get (f := ce cy h) ((hL a).mpr (by omega))
  rw [ce_i (c := 1) hk (by decide) (by decide)] at hq0
  exact va_castA C.1 C.2.1 C.2.2.2.1 (C.2.2.2.2.1 _ hw) hP q0 hq0 (va_nm_int (C.2.2.2.2.2.1.2 1 (cy 1, .int) rfl).2) hd (kk p l e s m args below meth c0 H locs cells slots ls Q D cy A MC MS C R hl h1 h2 hr hx)
theorem acp_1 : Cond.static arraycopyName ∈ gtb := (gtb_in (List.mem_of_getElem? (i := 558) (by decide +kernel)) (by decide +kernel))
theorem acp_2 : Cond.native arraycopyName ∈ gtb := (gtb_in (List.mem_of_getElem? (i := 559) (by decide +kernel)) (by decide +kernel))
theorem acp_3 : Cond.initialized "java/lang/System" ∈ gtb := (gtb_in (List.mem_of_getElem? (i := 17) (by decide +kernel)) (by decide +kernel))
theorem acp_9 : Cond.methodLink "SheetBranches$Worker" 130 arraycopyName ∈ gtb := (gtb_in (List.mem_of_getElem? (i := 557) (by decide +kernel)) (by decide +kernel))
theorem acp_8 : Cond.methodLink "SheetBranches$Value" 43 arraycopyName ∈ gtb := (gtb_in (List.mem_of_getElem? (i := 608) (by decide +kernel)) (by decide +kernel))
theorem acp_w : nativeFrameWords "java/lang/System" "arraycopy" 5 + 11 ≤ 32 := by decide +kernel
theorem j_copyL {ix a0 a : Nat} {x y z : Int32} (sp dp n : Nat) (hd : decode Y.2.1 pc = .ok (.invokestatic ix, 3)) (hw : Cond.methodLink Y.1.cls ix arraycopyName ∈ gtb) (hk0 : hK h a0 = 16) (hk : hK h a = 16) (ex : x = nI sp) (ey : y = nI dp) (ez : z = nI n) (h0 : sp + n ≤ hN h a0) (h1' : dp + n ≤ hN h a) (hb : sp < 2 ^ 31 ∧ dp < 2 ^ 31 ∧ n < 2 ^ 31) (hd1 : 1 ≤ d) (hs : (st.map ct).sum ≤ 8) (kk : J Y d mc ms post (pc + 3) lv st (sG h a (va_cpy (hG h a0) (hG h a) sp dp n))) : J Y d mc ms post pc lv (vi z :: vi y :: vr (some a) :: vi x :: vr (some a0) :: st) h := by
  intro p l e s m args below meth c0 H locs cells slots ls Q D cy A MC MS C R hl h1 h2 hr hx
  obtain ⟨L, hL, hP, hD, hS⟩ := id R
  have ha : a ∈ L := (hL a).mpr (by omega)
  obtain ⟨n0, hn0⟩ := pl_get (f := ce cy h) ha
  obtain ⟨n1, hn1⟩ := pl_get (f := ce cy h) ((hL a0).mpr (by omega))
  have hn2 := hn0
  rw [ce_l hk] at hn2
  rw [ce_l hk0] at hn1
  subst ex; subst ey; subst ez
  refine va_copyl C.1 C.2.1 (by rw [C.2.2.1]; exact hl.1.symm) C.2.2.2.1 (C.2.2.2.2.1 _ hw) (C.2.2.2.2.1 _ acp_2) (C.2.2.2.2.1 _ acp_1) (C.2.2.2.2.1 _ acp_3) C.2.2.2.2.2.1 hP hD hS n1 n0 2 2 hn1 hn2 rfl rfl rfl (nI_pos hb.1) (nI_pos hb.2.1) (nI_pos hb.2.2) (by rw [nI_clamp hb.1, nI_clamp hb.2.2]; exact h0) (by rw [nI_clamp hb.2.1, nI_clamp hb.2.2]; exact h1') (fun _ _ => rfl) (show 1 ≤ d from hd1) ?_ hd (fun H1 locs1 hP1 hD1 hS1 => (kk p l e s m args below meth c0 H1 locs1 cells slots ls Q D cy A MC MS C ?_ hl h1 h2 hr hx))
  · have e9 : ((st.map tv).map fun v => v.category) = st.map ct := by rw [List.map_map]; exact List.map_congr_left (fun v _ => tv_cat v)
    rw [e9]; have := acp_w; show _ + (nativeFrameWords _ _ _ + 11) ≤ 40 * d; omega
  · rw [nI_clamp hb.1, nI_clamp hb.2.1, nI_clamp hb.2.2] at hP1 hD1
    refine Rp_set hL (fun _ => rfl) hD ha hn0 ((ce_l (h := sG h a (va_cpy (hG h a0) (hG h a) sp dp n)) hk).trans ?_) (fun b hb => ce_congr rfl rfl rfl ?_ rfl) hP1 hD1 hS1
    · rw [hG_sG1]; rfl
    · rw [hG_sG, if_neg hb]
theorem j_iushr {x y : Int32} (v : Int32) (hd : decode Y.2.1 pc = .ok (.iushr, 1)) (hv : (x.toUInt32 >>> (y.toUInt32 &&& Int32.toUInt32 31)).toInt32 = v) (k : J Y d mc ms post (pc + 1) lv (vi v :: st) h) : J Y d mc ms post pc lv (vi y :: vi x :: st) h := by
  intro p l e s m args below meth c H locs cells slots ls Q D cy A MC MS C R hl h1 h2 hr hx
  exact lv_iushr C.1 C.2.1 hd hv (k p l e s m args below meth c H locs cells slots ls Q D cy A MC MS C R hl h1 h2 hr hx)
theorem j_lushr {x : Int64} {y : Int32} (v : Int64) (hd : decode Y.2.1 pc = .ok (.lushr, 1)) (hv : (x.toUInt64 >>> (y.toInt64.toUInt64 &&& Int64.toUInt64 63)).toInt64 = v) (k : J Y d mc ms post (pc + 1) lv (vl v :: st) h) : J Y d mc ms post pc lv (vi y :: vl x :: st) h := by
  intro p l e s m args below meth c H locs cells slots ls Q D cy A MC MS C R hl h1 h2 hr hx
  exact lv_lushr C.1 C.2.1 hd hv (k p l e s m args below meth c H locs cells slots ls Q D cy A MC MS C R hl h1 h2 hr hx)
end JM
