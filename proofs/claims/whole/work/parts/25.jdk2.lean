def n25_3_0l : List (Nat × Cond) := [(128, (Jvm.Cond.methodLink "SheetBranches$Value" (43 : Nat) ({ cls := "java/lang/System", name := "arraycopy", desc := "(Ljava/lang/Object;ILjava/lang/Object;II)V" } : Jvm.MethodName))), (77, (Jvm.Cond.methodLink "SheetBranches$Worker" (130 : Nat) ({ cls := "java/lang/System", name := "arraycopy", desc := "(Ljava/lang/Object;ILjava/lang/Object;II)V" } : Jvm.MethodName)))]
set_option maxRecDepth 100000 in
theorem n25_3_0 : n25_3_0l.all (fun q => decide (tables_1_3[q.1]? = some q.2)) = true := by decide +kernel
def n25_6_0l : List (Nat × Cond) := [(208, (Jvm.Cond.methodLink "SheetBranches" (215 : Nat) ({ cls := "[I", name := "clone", desc := "()Ljava/lang/Object;" } : Jvm.MethodName))), (214, (Jvm.Cond.classLink "SheetBranches" (216 : Nat) "[I"))]
set_option maxRecDepth 100000 in
theorem n25_6_0 : n25_6_0l.all (fun q => decide (tables_1_6[q.1]? = some q.2)) = true := by decide +kernel
def n25_7_0l : List (Nat × Cond) := [(79, (Jvm.Cond.methodLink "java/util/Arrays" (316 : Nat) ({ cls := "[I", name := "clone", desc := "()Ljava/lang/Object;" } : Jvm.MethodName))), (80, (Jvm.Cond.classLink "java/util/Arrays" (317 : Nat) "[I")), (82, (Jvm.Cond.methodLink "java/util/Arrays" (150 : Nat) ({ cls := "java/lang/System", name := "arraycopy", desc := "(Ljava/lang/Object;ILjava/lang/Object;II)V" } : Jvm.MethodName)))]
set_option maxRecDepth 100000 in
theorem n25_7_0 : n25_7_0l.all (fun q => decide (tables_1_7[q.1]? = some q.2)) = true := by decide +kernel
theorem ac_X8_43 : Cond.methodLink RX8 43 arraycopyName ∈ gtb := (gk tin_3 n25_3_0 0 rfl (by decide +kernel))
theorem ac_X9_130 : Cond.methodLink RX9 130 arraycopyName ∈ gtb := (gk tin_3 n25_3_0 1 rfl (by decide +kernel))
theorem cn_X11_215 : Cond.methodLink RX11 215 ⟨"[I", "clone", "()Ljava/lang/Object;"⟩ ∈ gtb := (gk tin_6 n25_6_0 0 rfl (by decide +kernel))
theorem cc_X11_216 : Cond.classLink RX11 216 "[I" ∈ gtb := (gk tin_6 n25_6_0 1 rfl (by decide +kernel))
theorem cn_J7_316 : Cond.methodLink RJ7 316 ⟨"[I", "clone", "()Ljava/lang/Object;"⟩ ∈ gtb := (gk tin_7 n25_7_0 0 rfl (by decide +kernel))
theorem cc_J7_317 : Cond.classLink RJ7 317 "[I" ∈ gtb := (gk tin_7 n25_7_0 1 rfl (by decide +kernel))
theorem ac_J7_150 : Cond.methodLink RJ7 150 arraycopyName ∈ gtb := (gk tin_7 n25_7_0 2 rfl (by decide +kernel))
/-! ===== Math of longs, arraycopy, clone, statics of the nest ===== -/
section JL
variable {Y : MI} {d mc ms : Nat} {post : Option Sv ⊕ String → Hp → Prop} {pc : Nat} {lv : List (Option Sv)} {st : List Sv} {h : Hp}
theorem lmmax_1 : mJ9_max_f86c9.1 = Lib.MathLoose.max_long.x := rfl
theorem lmmax_2 : mJ9_max_f86c9.2.1 = Lib.MathLoose.max_long.code := by decide +kernel
theorem j_lmmax {ix : Nat} {x y : Int64} (hd : decode Y.2.1 pc = .ok (.invokestatic ix, 3)) (hM : SL Y.1.cls ix mJ9_max_f86c9 2) (hd1 : 1 ≤ d) (hs : (st.map ct).sum ≤ 8) (kk : J Y d mc ms post (pc + 3) lv (vl (if y < x then x else y) :: st) h) : J Y d mc ms post pc lv (vl y :: vl x :: st) h := by
  intro p l e s m args below meth c0 H locs cells slots ls Q D cy A MC MS C R hl h1 h2 hr hx
  obtain ⟨⟨w1, w2, w3, w4⟩, -⟩ := hM
  rw [lmmax_1, lmmax_2] at w1
  rw [lmmax_1] at w2 w3
  refine va_mmax_long C.1 C.2.1 (by rw [C.2.2.1]; exact hl.1.symm) C.2.2.2.1 (C.2.2.2.2.1 _ w2) (C.2.2.2.2.1 _ w3) (C.2.2.2.2.1 _ w4) (C.2.2.2.2.1 _ w1) (show 1 ≤ d from hd1) ?_ (show cells ≤ MC by omega) (show slots ≤ MS by omega) hd ?_
  · have e9 : ((st.map (tv cy)).map fun v => v.category) = st.map ct := by rw [List.map_map]; exact List.map_congr_left (fun v _ => tv_cat v)
    rw [e9]; show _ + 15 ≤ 40 * d; omega
  · exact kk p l e s m args below meth c0 H locs cells slots ls Q D cy A MC MS C R hl h1 h2 hr hx
theorem lmmin_1 : mJ9_min_f86c9.1 = Lib.MathLoose.min_long.x := rfl
theorem lmmin_2 : mJ9_min_f86c9.2.1 = Lib.MathLoose.min_long.code := by decide +kernel
theorem j_lmmin {ix : Nat} {x y : Int64} (hd : decode Y.2.1 pc = .ok (.invokestatic ix, 3)) (hM : SL Y.1.cls ix mJ9_min_f86c9 2) (hd1 : 1 ≤ d) (hs : (st.map ct).sum ≤ 8) (kk : J Y d mc ms post (pc + 3) lv (vl (if y < x then y else x) :: st) h) : J Y d mc ms post pc lv (vl y :: vl x :: st) h := by
  intro p l e s m args below meth c0 H locs cells slots ls Q D cy A MC MS C R hl h1 h2 hr hx
  obtain ⟨⟨w1, w2, w3, w4⟩, -⟩ := hM
  rw [lmmin_1, lmmin_2] at w1
  rw [lmmin_1] at w2 w3
  refine va_mmin_long C.1 C.2.1 (by rw [C.2.2.1]; exact hl.1.symm) C.2.2.2.1 (C.2.2.2.2.1 _ w2) (C.2.2.2.2.1 _ w3) (C.2.2.2.2.1 _ w4) (C.2.2.2.2.1 _ w1) (show 1 ≤ d from hd1) ?_ (show cells ≤ MC by omega) (show slots ≤ MS by omega) hd ?_
  · have e9 : ((st.map (tv cy)).map fun v => v.category) = st.map ct := by rw [List.map_map]; exact List.map_congr_left (fun v _ => tv_cat v)
    rw [e9]; show _ + 15 ≤ 40 * d; omega
  · exact kk p l e s m args below meth c0 H locs cells slots ls Q D cy A MC MS C R hl h1 h2 hr hx
theorem lmabs_1 : mJ9_abs_067f4.1 = Lib.MathLoose.abs_long.x := rfl
theorem lmabs_2 : mJ9_abs_067f4.2.1 = Lib.MathLoose.abs_long.code := by decide +kernel
theorem j_lmabs {ix : Nat} {x : Int64} (hd : decode Y.2.1 pc = .ok (.invokestatic ix, 3)) (hM : SL Y.1.cls ix mJ9_abs_067f4 1) (hd1 : 1 ≤ d) (hs : (st.map ct).sum ≤ 8) (kk : J Y d mc ms post (pc + 3) lv (vl (if 0 < x then x else -x) :: st) h) : J Y d mc ms post pc lv (vl x :: st) h := by
  intro p l e s m args below meth c0 H locs cells slots ls Q D cy A MC MS C R hl h1 h2 hr hx
  obtain ⟨⟨w1, w2, w3, w4⟩, -⟩ := hM
  rw [lmabs_1, lmabs_2] at w1
  rw [lmabs_1] at w2 w3
  refine va_mabs_long C.1 C.2.1 (by rw [C.2.2.1]; exact hl.1.symm) C.2.2.2.1 (C.2.2.2.2.1 _ w2) (C.2.2.2.2.1 _ w3) (C.2.2.2.2.1 _ w4) (C.2.2.2.2.1 _ w1) (show 1 ≤ d from hd1) ?_ (show cells ≤ MC by omega) (show slots ≤ MS by omega) hd ?_
  · have e9 : ((st.map (tv cy)).map fun v => v.category) = st.map ct := by rw [List.map_map]; exact List.map_congr_left (fun v _ => tv_cat v)
    rw [e9]; show _ + 13 ≤ 40 * d; omega
  · exact kk p l e s m args below meth c0 H locs cells slots ls Q D cy A MC MS C R hl h1 h2 hr hx
theorem jz_lmmax {ix : Nat} {a b : Int} (hd : decode Y.2.1 pc = .ok (.invokestatic ix, 3)) (hM : SL Y.1.cls ix mJ9_max_f86c9 2) (hd1 : 1 ≤ d) (hs : (st.map ct).sum ≤ 8) (ra : R64 a) (rb : R64 b) (k : J Y d mc ms post (pc + 3) lv (ll (max a b) :: st) h) : J Y d mc ms post pc lv (ll b :: ll a :: st) h := j_lmmax hd hM hd1 hs (by
  by_cases c : b < a
  · rw [if_pos ((i6_lt rb ra).mpr c)]; rw [show max a b = a by omega] at k; exact k
  · rw [if_neg (fun z => c ((i6_lt rb ra).mp z))]; rw [show max a b = b by omega] at k; exact k)
theorem jz_lmmin {ix : Nat} {a b : Int} (hd : decode Y.2.1 pc = .ok (.invokestatic ix, 3)) (hM : SL Y.1.cls ix mJ9_min_f86c9 2) (hd1 : 1 ≤ d) (hs : (st.map ct).sum ≤ 8) (ra : R64 a) (rb : R64 b) (k : J Y d mc ms post (pc + 3) lv (ll (min a b) :: st) h) : J Y d mc ms post pc lv (ll b :: ll a :: st) h := j_lmmin hd hM hd1 hs (by
  by_cases c : b < a
  · rw [if_pos ((i6_lt rb ra).mpr c)]; rw [show min a b = b by omega] at k; exact k
  · rw [if_neg (fun z => c ((i6_lt rb ra).mp z))]; rw [show min a b = a by omega] at k; exact k)
theorem jz_lmabs {ix : Nat} {a : Int} (hd : decode Y.2.1 pc = .ok (.invokestatic ix, 3)) (hM : SL Y.1.cls ix mJ9_abs_067f4 1) (hd1 : 1 ≤ d) (hs : (st.map ct).sum ≤ 8) (ra : R64 a) (k : J Y d mc ms post (pc + 3) lv (ll (if 0 ≤ a then a else w64 (0 - a)) :: st) h) : J Y d mc ms post pc lv (ll a :: st) h := j_lmabs hd hM hd1 hs (by
  by_cases c : 0 < a
  · rw [if_pos (show (0 : Int64) < Int64.ofInt a from (i6_lt (a := 0) (by decide) ra).mpr c)]; rw [if_pos (by omega)] at k; exact k
  · rw [if_neg (show ¬ (0 : Int64) < Int64.ofInt a from fun z => c ((i6_lt (a := 0) (by decide) ra).mp z)), i6_neg]
    by_cases c2 : a = 0
    · subst c2; exact k
    · rw [if_neg (by omega), show 0 - a = -a by omega] at k; exact k)
theorem j_getsLN {n : Nat} {ref host : String} (hd : decode Y.2.1 pc = .ok (.getstatic n, 3)) (hw : Cond.fieldLinkNest Y.1.cls n ref "LEAST_ARGS" "[I" host ∈ tables_1) (hre : ref = "SheetBranches") (k : J Y d mc ms post (pc + 3) lv (vs 94 :: st) h) : J Y d mc ms post pc lv st h := by
  intro p l e s m args below meth c0 H locs cells slots ls Q D cy A MC MS C R hl h1 h2 hr hx
  obtain ⟨L, hL, hP, hD, hS⟩ := id R
  subst hre
  exact va_getsN C.1 C.2.1 C.2.2.2.2.2.2.2.1.2.2.2.1.1 hS C.2.2.2.1 (va_Nw.use rfl (C.2.2.2.2.2.2.2.1.1 _ hw rfl)) (fun _ h => h) hd (k p l e s m args below meth c0 H locs cells slots ls Q D cy A MC MS C R hl h1 h2 hr hx)
theorem j_getsMN {n : Nat} {ref host : String} (hd : decode Y.2.1 pc = .ok (.getstatic n, 3)) (hw : Cond.fieldLinkNest Y.1.cls n ref "MOST_ARGS" "[I" host ∈ tables_1) (hre : ref = "SheetBranches") (k : J Y d mc ms post (pc + 3) lv (vs 95 :: st) h) : J Y d mc ms post pc lv st h := by
  intro p l e s m args below meth c0 H locs cells slots ls Q D cy A MC MS C R hl h1 h2 hr hx
  obtain ⟨L, hL, hP, hD, hS⟩ := id R
  subst hre
  exact va_getsN C.1 C.2.1 C.2.2.2.2.2.2.2.1.2.2.2.2.1.1 hS C.2.2.2.1 (va_Nw.use rfl (C.2.2.2.2.2.2.2.1.1 _ hw rfl)) (fun _ h => h) hd (k p l e s m args below meth c0 H locs cells slots ls Q D cy A MC MS C R hl h1 h2 hr hx)
theorem j_copyB {ix a0 a : Nat} {x y z : Int32} (sp dp n : Nat) (hd : decode Y.2.1 pc = .ok (.invokestatic ix, 3)) (hw : Cond.methodLink Y.1.cls ix arraycopyName ∈ gtb) (hk0 : hK h a0 = 14) (hk : hK h a = 14) (ex : x = nI sp) (ey : y = nI dp) (ez : z = nI n) (h0 : sp + n ≤ hN h a0) (h1' : dp + n ≤ hN h a) (hb : sp < 2 ^ 31 ∧ dp < 2 ^ 31 ∧ n < 2 ^ 31) (hft : ∀ i, i < n → fits .byte (.int (hI h a0 (sp + i))) = true) (hd1 : 1 ≤ d) (hs : (st.map ct).sum ≤ 8) (kk : J Y d mc ms post (pc + 3) lv st (sI h a (va_cpy (hI h a0) (hI h a) sp dp n))) : J Y d mc ms post pc lv (vi z :: vi y :: vr (some a) :: vi x :: vr (some a0) :: st) h := by
  intro p l e s m args below meth c0 H locs cells slots ls Q D cy A MC MS C R hl h1 h2 hr hx
  obtain ⟨L, hL, hP, hD, hS⟩ := id R
  have ha : a ∈ L := (hL a).mpr (by omega)
  obtain ⟨n0, hn0⟩ := pl_get (f := ce cy h) ha
  obtain ⟨n1, hn1⟩ := pl_get (f := ce cy h) ((hL a0).mpr (by omega))
  have hn2 := hn0
  rw [ce_i (c := 0) hk (by decide) (by decide)] at hn2
  rw [ce_i (c := 0) hk0 (by decide) (by decide)] at hn1
  subst ex; subst ey; subst ez
  refine va_copyi C.1 C.2.1 (by rw [C.2.2.1]; exact hl.1.symm) C.2.2.2.1 (C.2.2.2.2.1 _ hw) (C.2.2.2.2.1 _ acp_2) (C.2.2.2.2.1 _ acp_1) (C.2.2.2.2.1 _ acp_3) C.2.2.2.2.2.1 hP hD hS n1 n0 0 0 hn1 hn2 rfl rfl rfl (nI_pos hb.1) (nI_pos hb.2.1) (nI_pos hb.2.2) (by rw [nI_clamp hb.1, nI_clamp hb.2.2]; exact h0) (by rw [nI_clamp hb.2.1, nI_clamp hb.2.2]; exact h1') (fun i hi => by rw [nI_clamp hb.2.2] at hi; rw [nI_clamp hb.1]; exact hft i hi) (show 1 ≤ d from hd1) ?_ hd (fun H1 locs1 hP1 hD1 hS1 => (kk p l e s m args below meth c0 H1 locs1 cells slots ls Q D cy A MC MS C ?_ hl h1 h2 hr hx))
  · have e9 : ((st.map (tv cy)).map fun v => v.category) = st.map ct := by rw [List.map_map]; exact List.map_congr_left (fun v _ => tv_cat v)
    rw [e9]; have := acp_w; show _ + (nativeFrameWords _ _ _ + 11) ≤ 40 * d; omega
  · rw [nI_clamp hb.1, nI_clamp hb.2.1, nI_clamp hb.2.2] at hP1 hD1
    refine Rp_set hL (fun _ => rfl) hD ha hn0 ((ce_i (c := 0) (h := sI h a (va_cpy (hI h a0) (hI h a) sp dp n)) hk (by decide) (by decide)).trans ?_) (fun b hb => ce_congr rfl rfl ?_ rfl rfl) hP1 hD1 hS1
    · rw [hI_sI1]; rfl
    · rw [hI_sI, if_neg hb]
theorem j_copyI {ix a0 a : Nat} {x y z : Int32} (sp dp n : Nat) (hd : decode Y.2.1 pc = .ok (.invokestatic ix, 3)) (hw : Cond.methodLink Y.1.cls ix arraycopyName ∈ gtb) (hk0 : hK h a0 = 15) (hk : hK h a = 15) (ex : x = nI sp) (ey : y = nI dp) (ez : z = nI n) (h0 : sp + n ≤ hN h a0) (h1' : dp + n ≤ hN h a) (hb : sp < 2 ^ 31 ∧ dp < 2 ^ 31 ∧ n < 2 ^ 31) (hft : ∀ i, i < n → fits .int (.int (hI h a0 (sp + i))) = true) (hd1 : 1 ≤ d) (hs : (st.map ct).sum ≤ 8) (kk : J Y d mc ms post (pc + 3) lv st (sI h a (va_cpy (hI h a0) (hI h a) sp dp n))) : J Y d mc ms post pc lv (vi z :: vi y :: vr (some a) :: vi x :: vr (some a0) :: st) h := by
  intro p l e s m args below meth c0 H locs cells slots ls Q D cy A MC MS C R hl h1 h2 hr hx
  obtain ⟨L, hL, hP, hD, hS⟩ := id R
  have ha : a ∈ L := (hL a).mpr (by omega)
  obtain ⟨n0, hn0⟩ := pl_get (f := ce cy h) ha
  obtain ⟨n1, hn1⟩ := pl_get (f := ce cy h) ((hL a0).mpr (by omega))
  have hn2 := hn0
  rw [ce_i (c := 1) hk (by decide) (by decide)] at hn2
  rw [ce_i (c := 1) hk0 (by decide) (by decide)] at hn1
  subst ex; subst ey; subst ez
  refine va_copyi C.1 C.2.1 (by rw [C.2.2.1]; exact hl.1.symm) C.2.2.2.1 (C.2.2.2.2.1 _ hw) (C.2.2.2.2.1 _ acp_2) (C.2.2.2.2.1 _ acp_1) (C.2.2.2.2.1 _ acp_3) C.2.2.2.2.2.1 hP hD hS n1 n0 1 1 hn1 hn2 rfl rfl rfl (nI_pos hb.1) (nI_pos hb.2.1) (nI_pos hb.2.2) (by rw [nI_clamp hb.1, nI_clamp hb.2.2]; exact h0) (by rw [nI_clamp hb.2.1, nI_clamp hb.2.2]; exact h1') (fun i hi => by rw [nI_clamp hb.2.2] at hi; rw [nI_clamp hb.1]; exact hft i hi) (show 1 ≤ d from hd1) ?_ hd (fun H1 locs1 hP1 hD1 hS1 => (kk p l e s m args below meth c0 H1 locs1 cells slots ls Q D cy A MC MS C ?_ hl h1 h2 hr hx))
  · have e9 : ((st.map (tv cy)).map fun v => v.category) = st.map ct := by rw [List.map_map]; exact List.map_congr_left (fun v _ => tv_cat v)
    rw [e9]; have := acp_w; show _ + (nativeFrameWords _ _ _ + 11) ≤ 40 * d; omega
  · rw [nI_clamp hb.1, nI_clamp hb.2.1, nI_clamp hb.2.2] at hP1 hD1
    refine Rp_set hL (fun _ => rfl) hD ha hn0 ((ce_i (c := 1) (h := sI h a (va_cpy (hI h a0) (hI h a) sp dp n)) hk (by decide) (by decide)).trans ?_) (fun b hb => ce_congr rfl rfl ?_ rfl rfl) hP1 hD1 hS1
    · rw [hI_sI1]; rfl
    · rw [hI_sI, if_neg hb]
end JL
/-- ints of one array, from sp on, n of them, into another one, from dp on -/
def cpI2 (z : Z) (a0 : Nat) (sp : Int) (a : Nat) (dp n : Int) : Z := (z.1, z.2.1, fun b j => if b = a ∧ dp ≤ j ∧ j < dp + n then z.2.2.1 a0 (sp + (j - dp)) else z.2.2.1 b j, z.2.2.2.1, z.2.2.2.2)
def cpG2 (z : Z) (a0 : Nat) (sp : Int) (a : Nat) (dp n : Int) : Z := (z.1, z.2.1, z.2.2.1, fun b j => if b = a ∧ dp ≤ j ∧ j < dp + n then z.2.2.2.1 a0 (sp + (j - dp)) else z.2.2.2.1 b j, z.2.2.2.2)
/-- a new int array as that one -/
def clZ (z : Z) (q a : Nat) : Z := (fun b => if b = q then 15 else z.1 b, fun b => if b = q then z.2.1 a else z.2.1 b, fun b j => if b = q then z.2.2.1 a j else z.2.2.1 b j, fun b j => if b = q then 0 else z.2.2.2.1 b j, fun b j => if b = q then none else z.2.2.2.2 b j)
theorem zI_cpI2 (z : Z) (a0 : Nat) (sp : Int) (a : Nat) (dp n : Int) (b : Nat) (j : Int) : zI (cpI2 z a0 sp a dp n) b j = if b = a ∧ dp ≤ j ∧ j < dp + n then zI z a0 (sp + (j - dp)) else zI z b j := rfl
theorem zG_cpG2 (z : Z) (a0 : Nat) (sp : Int) (a : Nat) (dp n : Int) (b : Nat) (j : Int) : zG (cpG2 z a0 sp a dp n) b j = if b = a ∧ dp ≤ j ∧ j < dp + n then zG z a0 (sp + (j - dp)) else zG z b j := rfl
theorem cz_cpI (z : Z) (a0 a : Nat) (sp dp n : Int) (h0 : 0 ≤ sp) (h1 : 0 ≤ dp) (h2 : 0 ≤ n) : sI (cz z) a (va_cpy (hI (cz z) a0) (hI (cz z) a) sp.toNat dp.toNat n.toNat) = cz (cpI2 z a0 sp a dp n) := by
  have e : (u1 (fun b (j : Nat) => Int32.ofInt (zI z b j)) a (va_cpy (fun (j : Nat) => Int32.ofInt (zI z a0 j)) (fun (j : Nat) => Int32.ofInt (zI z a j)) sp.toNat dp.toNat n.toNat)) = fun b (j : Nat) => Int32.ofInt (zI (cpI2 z a0 sp a dp n) b j) := by
    funext b j
    rw [zI_cpI2]
    by_cases c : b = a
    · rw [u1, if_pos c, va_cpy]
      by_cases c2 : dp.toNat ≤ j ∧ j < dp.toNat + n.toNat
      · rw [if_pos c2, if_pos ⟨c, by omega, by omega⟩]
        congr 2; omega
      · rw [if_neg c2, if_neg (fun w => c2 ⟨by omega, by omega⟩), c]
    · rw [u1, if_neg c, if_neg (fun w => c w.1)]
  show (_, _, (u1 (fun b (j : Nat) => Int32.ofInt (zI z b j)) a (va_cpy (fun (j : Nat) => Int32.ofInt (zI z a0 j)) (fun (j : Nat) => Int32.ofInt (zI z a j)) sp.toNat dp.toNat n.toNat)), _, _) = _
  rw [e]; rfl
theorem cz_cpG (z : Z) (a0 a : Nat) (sp dp n : Int) (h0 : 0 ≤ sp) (h1 : 0 ≤ dp) (h2 : 0 ≤ n) : sG (cz z) a (va_cpy (hG (cz z) a0) (hG (cz z) a) sp.toNat dp.toNat n.toNat) = cz (cpG2 z a0 sp a dp n) := by
  have e : (u1 (fun b (j : Nat) => Int64.ofInt (zG z b j)) a (va_cpy (fun (j : Nat) => Int64.ofInt (zG z a0 j)) (fun (j : Nat) => Int64.ofInt (zG z a j)) sp.toNat dp.toNat n.toNat)) = fun b (j : Nat) => Int64.ofInt (zG (cpG2 z a0 sp a dp n) b j) := by
    funext b j
    rw [zG_cpG2]
    by_cases c : b = a
    · rw [u1, if_pos c, va_cpy]
      by_cases c2 : dp.toNat ≤ j ∧ j < dp.toNat + n.toNat
      · rw [if_pos c2, if_pos ⟨c, by omega, by omega⟩]
        congr 2; omega
      · rw [if_neg c2, if_neg (fun w => c2 ⟨by omega, by omega⟩), c]
    · rw [u1, if_neg c, if_neg (fun w => c w.1)]
  show (_, _, _, (u1 (fun b (j : Nat) => Int64.ofInt (zG z b j)) a (va_cpy (fun (j : Nat) => Int64.ofInt (zG z a0 j)) (fun (j : Nat) => Int64.ofInt (zG z a j)) sp.toNat dp.toNat n.toNat)), _) = _
  rw [e]; rfl
theorem cz_cl (z : Z) (q a : Nat) : sI (nw (cz z) q 15 (zN z a).toNat) q (hI (cz z) a) = cz (clZ z q a) := by
  have e2 : (u1 (fun b => (zN z b).toNat) q (zN z a).toNat) = fun b => (zN (clZ z q a) b).toNat := by
    funext b; by_cases e : b = q
    · rw [u1, if_pos e]; show _ = (if b = q then zN z a else zN z b).toNat; rw [if_pos e]
    · rw [u1, if_neg e]; show _ = (if b = q then zN z a else zN z b).toNat; rw [if_neg e]
  have e3 : u1 (u1 (fun b (k : Nat) => Int32.ofInt (zI z b k)) q (fun _ => 0)) q (fun (k : Nat) => Int32.ofInt (zI z a k)) = fun b (j : Nat) => Int32.ofInt (zI (clZ z q a) b j) := by
    funext b j; by_cases e : b = q
    · rw [u1, if_pos e]; show _ = Int32.ofInt (if b = q then zI z a j else zI z b j); rw [if_pos e]
    · rw [u1, if_neg e, u1, if_neg e]; show _ = Int32.ofInt (if b = q then zI z a j else zI z b j); rw [if_neg e]
  have e4 : (u1 (fun b (k : Nat) => Int64.ofInt (zG z b k)) q (fun _ => 0)) = fun b (j : Nat) => Int64.ofInt (zG (clZ z q a) b j) := by
    funext b j; by_cases e : b = q
    · rw [u1, if_pos e]; show _ = Int64.ofInt (if b = q then 0 else zG z b j); rw [if_pos e]; rfl
    · rw [u1, if_neg e]; show _ = Int64.ofInt (if b = q then 0 else zG z b j); rw [if_neg e]
  have e5 : (u1 (fun b (k : Nat) => zO z b k) q (fun _ => none)) = fun b (j : Nat) => zO (clZ z q a) b j := by
    funext b j; by_cases e : b = q
    · rw [u1, if_pos e]; show _ = (if b = q then none else zO z b j); rw [if_pos e]
    · rw [u1, if_neg e]; show _ = (if b = q then none else zO z b j); rw [if_neg e]
  show (u1 (fun b => zK z b) q 15, u1 (fun b => (zN z b).toNat) q (zN z a).toNat, u1 (u1 (fun b (k : Nat) => Int32.ofInt (zI z b k)) q (fun _ => 0)) q (fun (k : Nat) => Int32.ofInt (zI z a k)), u1 (fun b (k : Nat) => Int64.ofInt (zG z b k)) q (fun _ => 0), u1 (fun b (k : Nat) => zO z b k) q (fun _ => none)) = _
  rw [e2, e3, e4, e5]; rfl
theorem Wz_cpI {z : Z} {a0 a : Nat} {sp dp n : Int} (w : Wz z) (hk0 : zK z a0 = 14 ∨ zK z a0 = 15) (hk : zK z a = zK z a0) : Wz (cpI2 z a0 sp a dp n) := by
  refine ⟨fun b j => ?_, w.2.1, fun b j h => ?_, fun b j h => ?_, w.2.2.2.2⟩
  · rw [zI_cpI2]; split
    · exact w.1 _ _
    · exact w.1 _ _
  · rw [zI_cpI2]; split
    · next c => exact w.2.2.1 _ _ (by rw [← hk, ← c.1]; exact h)
    · exact w.2.2.1 _ _ h
  · rw [zI_cpI2]; split
    · next c =>
      have h9 : zK z a = 17 := by rw [← c.1]; exact h
      omega
    · exact w.2.2.2.1 _ _ h
theorem Wz_cpG {z : Z} {a0 a : Nat} {sp dp n : Int} (w : Wz z) : Wz (cpG2 z a0 sp a dp n) := by
  refine ⟨w.1, fun b j => ?_, w.2.2.1, w.2.2.2.1, w.2.2.2.2⟩
  rw [zG_cpG2]; split
  · exact w.2.1 _ _
  · exact w.2.1 _ _
theorem Wz_cl {z : Z} {q a : Nat} (w : Wz z) : Wz (clZ z q a) := by
  refine ⟨fun b j => ?_, fun b j => ?_, fun b j h => ?_, fun b j h => ?_, fun b => ?_⟩
  · show R32 (if b = q then zI z a j else zI z b j); split
    · exact w.1 _ _
    · exact w.1 _ _
  · show R64 (if b = q then 0 else zG z b j); split
    · decide
    · exact w.2.1 _ _
  · have h' : (if b = q then 15 else zK z b) = 14 := h
    show B8 (if b = q then zI z a j else zI z b j)
    split
    · next e => rw [if_pos e] at h'; cases h'
    · next e => rw [if_neg e] at h'; exact w.2.2.1 _ _ h'
  · have h' : (if b = q then 15 else zK z b) = 17 := h
    show Z1 (if b = q then zI z a j else zI z b j)
    split
    · next e => rw [if_pos e] at h'; cases h'
    · next e => rw [if_neg e] at h'; exact w.2.2.2.1 _ _ h'
  · show 0 ≤ (if b = q then zN z a else zN z b) ∧ (if b = q then zN z a else zN z b) < 33554432
    split
    · exact w.2.2.2.2 a
    · exact w.2.2.2.2 b
section JCP
variable {Y : MI} {d mc ms : Nat} {post : Option Sv ⊕ String → Hp → Prop} {pc : Nat} {lv : List (Option Sv)} {st : List Sv} {z : Z} {a a0 : Nat} {r r0 : Option Nat}
theorem fit_b {x : Int} (h : B8 x) : fits .byte (.int (Int32.ofInt x)) = true := by
  have e := i3_to8 x
  rw [w8_id h] at e
  rw [← e]; exact pk_fb _
theorem jz_copyB {ix : Nat} {sp dp n : Int} (hd : decode Y.2.1 pc = .ok (.invokestatic ix, 3)) (hl : Cond.methodLink Y.1.cls ix arraycopyName ∈ gtb) (er0 : r0 = some a0) (hk0 : zK z a0 = 14) (er : r = some a) (hk : zK z a = 14) (h0 : 0 ≤ sp) (h1 : 0 ≤ dp) (h2 : 0 ≤ n) (h3 : sp + n ≤ zN z a0) (h4 : dp + n ≤ zN z a) (hd1 : 1 ≤ d) (hs : (st.map ct).sum ≤ 8) (hw : Wz z) (kk : Wz (cpI2 z a0 sp a dp n) → J Y d mc ms post (pc + 3) lv st (cz (cpI2 z a0 sp a dp n))) : J Y d mc ms post pc lv (ii n :: ii dp :: vr r :: ii sp :: vr r0 :: st) (cz z) := by
  subst er; subst er0
  have b := hw.2.2.2.2 a; have b0 := hw.2.2.2.2 a0
  refine j_copyB sp.toNat dp.toNat n.toNat hd hl hk0 hk (i3_nI h0) (i3_nI h1) (i3_nI h2) (show sp.toNat + n.toNat ≤ (zN z a0).toNat by omega) (show dp.toNat + n.toNat ≤ (zN z a).toNat by omega) ⟨by omega, by omega, by omega⟩ (fun i hi => by rw [show hI (cz z) a0 (sp.toNat + i) = Int32.ofInt (zI z a0 ((sp.toNat + i : Nat) : Int)) from rfl]; exact fit_b (hw.2.2.1 _ _ hk0)) hd1 hs ?_
  rw [cz_cpI z a0 a sp dp n h0 h1 h2]
  exact kk (Wz_cpI hw (by omega) (by rw [hk, hk0]))
theorem jz_copyI {ix : Nat} {sp dp n : Int} (hd : decode Y.2.1 pc = .ok (.invokestatic ix, 3)) (hl : Cond.methodLink Y.1.cls ix arraycopyName ∈ gtb) (er0 : r0 = some a0) (hk0 : zK z a0 = 15) (er : r = some a) (hk : zK z a = 15) (h0 : 0 ≤ sp) (h1 : 0 ≤ dp) (h2 : 0 ≤ n) (h3 : sp + n ≤ zN z a0) (h4 : dp + n ≤ zN z a) (hd1 : 1 ≤ d) (hs : (st.map ct).sum ≤ 8) (hw : Wz z) (kk : Wz (cpI2 z a0 sp a dp n) → J Y d mc ms post (pc + 3) lv st (cz (cpI2 z a0 sp a dp n))) : J Y d mc ms post pc lv (ii n :: ii dp :: vr r :: ii sp :: vr r0 :: st) (cz z) := by
  subst er; subst er0
  have b := hw.2.2.2.2 a; have b0 := hw.2.2.2.2 a0
  refine j_copyI sp.toNat dp.toNat n.toNat hd hl hk0 hk (i3_nI h0) (i3_nI h1) (i3_nI h2) (show sp.toNat + n.toNat ≤ (zN z a0).toNat by omega) (show dp.toNat + n.toNat ≤ (zN z a).toNat by omega) ⟨by omega, by omega, by omega⟩ (fun i hi => rfl) hd1 hs ?_
  rw [cz_cpI z a0 a sp dp n h0 h1 h2]
  exact kk (Wz_cpI hw (by omega) (by rw [hk, hk0]))
theorem jz_copyL {ix : Nat} {sp dp n : Int} (hd : decode Y.2.1 pc = .ok (.invokestatic ix, 3)) (hl : Cond.methodLink Y.1.cls ix arraycopyName ∈ gtb) (er0 : r0 = some a0) (hk0 : zK z a0 = 16) (er : r = some a) (hk : zK z a = 16) (h0 : 0 ≤ sp) (h1 : 0 ≤ dp) (h2 : 0 ≤ n) (h3 : sp + n ≤ zN z a0) (h4 : dp + n ≤ zN z a) (hd1 : 1 ≤ d) (hs : (st.map ct).sum ≤ 8) (hw : Wz z) (kk : Wz (cpG2 z a0 sp a dp n) → J Y d mc ms post (pc + 3) lv st (cz (cpG2 z a0 sp a dp n))) : J Y d mc ms post pc lv (ii n :: ii dp :: vr r :: ii sp :: vr r0 :: st) (cz z) := by
  subst er; subst er0
  have b := hw.2.2.2.2 a; have b0 := hw.2.2.2.2 a0
  refine j_copyL sp.toNat dp.toNat n.toNat hd hl hk0 hk (i3_nI h0) (i3_nI h1) (i3_nI h2) (show sp.toNat + n.toNat ≤ (zN z a0).toNat by omega) (show dp.toNat + n.toNat ≤ (zN z a).toNat by omega) ⟨by omega, by omega, by omega⟩ hd1 hs ?_
  rw [cz_cpG z a0 a sp dp n h0 h1 h2]
  exact kk (Wz_cpG hw)
theorem jz_clone {ix : Nat} (hd : decode Y.2.1 pc = .ok (.invokevirtual ix, 3)) (hl : Cond.methodLink Y.1.cls ix ⟨"[I", "clone", "()Ljava/lang/Object;"⟩ ∈ gtb) (er : r = some a) (hk : zK z a = 15) (hc : 1 ≤ mc) (hss : (zN z a).toNat ≤ ms) (hd1 : 1 ≤ d) (hs : (st.map ct).sum ≤ 8) (hw : Wz z) (kk : ∀ q, zK z q = 0 → Wz (clZ z q a) → J Y d (mc - 1) (ms - (zN z a).toNat) post (pc + 3) lv (vr (some q) :: st) (cz (clZ z q a))) : J Y d mc ms post pc lv (vr r :: st) (cz z) := by
  subst er
  refine j_mono (mc' := mc - 1 + 1) (ms' := ms - (zN z a).toNat + (zN z a).toNat) (by omega) (by omega) ?_
  refine j_clone (zN z a).toNat hd hl hk rfl hd1 hs (fun q hq => ?_)
  rw [cz_cl z q a]
  exact kk q hq (Wz_cl hw)
theorem jz_castI {ix : Nat} (hd : decode Y.2.1 pc = .ok (.checkcast ix, 3)) (hl : Cond.classLink Y.1.cls ix "[I" ∈ gtb) (er : r = some a) (hk : zK z a = 15) (kk : J Y d mc ms post (pc + 3) lv (vr r :: st) (cz z)) : J Y d mc ms post pc lv (vr r :: st) (cz z) := by
  subst er
  exact j_castI hd hl hk kk
end JCP
theorem j_el {Y : MI} {d mc ms : Nat} {post : Option Sv ⊕ String → Hp → Prop} {pc : Nat} {lv lv' : List (Option Sv)} {st : List Sv} {h : Hp} (k : J Y d mc ms post pc lv' st h) (hs : lle lv' lv) : J Y d mc ms post pc lv st h := j_lle hs k
theorem zK_cl {z : Z} {q a : Nat} : zK (clZ z q a) q = 15 := if_pos rfl
