/-! ===== the law's entry ===== -/
theorem lw_retR {R : Room} {p : Program} {l : Launch} {e : Env} {s : State} {m : MethodId} {below : List Frame} {meth : Method} {c : Code} {b : Nat} (hx : p.tables.exec = Jvm.exec) (hb : c.code = code) (hr : meth.sig.returnType = ret) (hlocks : meth.locks = false) {pc : Nat} {H : Heap} {ls : Array Slot} (hdg : decode code pc = .ok (.ireturn, 1)) : W p l e R s m #[Value.ref b] below meth c H [] 601024 7293034 (lw_Z below #[Value.ref b] s) (F0 m pc ls [.int 1]) := by
  intro T hT X
  obtain ⟨fs, hret, hrun, hended, hW, hframe⟩ := X.leave (v := some (.int 1)) (hlocks := hlocks) (fun h => by rw [hr] at h; cases h)
  have hmeth' : T.vm.method? m = some meth := X.method'
  refine ⟨T.setFrames fs, ?_, .returned (some (.int 1)), hrun, hended, rfl, ⟨_, rfl⟩, hW, hframe⟩
  jvm_step X.here [X.here.top, hx, hb, hdg, hmeth', hr, ret, narrow_b1]
  (try refine ⟨rfl, ?_⟩); (try refine ⟨rfl, ?_⟩)
  first | (intro acts; rw [hret _ acts rfl rfl rfl]) | rw [hret _ _ rfl rfl rfl]
  exact Steps.refl _
theorem hr_mono {s : State} {pl : Platform} {r r' : Room} (hf : r.frames ≤ r'.frames) (hl : r.locals ≤ r'.locals) (hc : r.cells ≤ r'.cells) (hs : r.slots ≤ r'.slots) (h : s.hasRoom pl r' = true) : s.hasRoom pl r = true := by
  simp only [State.hasRoom, Bool.and_eq_true, decide_eq_true_eq] at h ⊢
  obtain ⟨⟨⟨⟨h1, h2, h3, h4, h5, h6⟩, h7⟩, h8⟩, h9⟩ := h
  exact ⟨⟨⟨⟨by omega, by omega, by omega, by omega, by omega, h6⟩, by omega⟩, by omega⟩, h9⟩
theorem W_room {p : Program} {l : Launch} {e : Env} {R R' : Room} {s : State} {m : MethodId} {args : Array Value} {below : List Frame} {meth : Method} {c : Code} {H : Heap} {locs : List Loc} {cells slots : Nat} {Q : State → Prop} {g : JFrame} (hm : s.hasRoom e.platform R' = true → s.hasRoom e.platform R = true) (k : W p l e R s m args below meth c H locs cells slots Q g) : W p l e R' s m args below meth c H locs cells slots Q g :=
  fun T hT X => k T hT ⟨X.admits, X.cas, X.clock, X.frames, hm X.room, X.hears, X.method, X.code, X.here, X.tail, X.warmed, X.limits, X.bytes, X.same⟩
theorem kn1 {s : State} {args : Array Value} {k : Nat} {R : String} {T : u_T} (hts : ∀ w ∈ gtb, w.before args s = true) (hC : CL k R T) (hi : Cond.instantiable R (fnum k) ∈ gtb) : ∃ pr : ClassId × (Nat → Nat), ∀ q : vw_C, vwCl[k]? = some q → u_Kn s q.1 q.2.1 q.2.2 pr.1 pr.2 := by
  obtain ⟨q1, q2, -, -, -⟩ := hC
  obtain ⟨c, iS, h⟩ := u_known (C := R) (T := T) (N := fnum k) (n := fnum k) hts q2 (hts _ hi)
  exact ⟨(c, iS), fun q hq => by rw [q1] at hq; cases hq; exact h⟩
theorem kn_obj {s : State} {args : Array Value} (hts : ∀ w ∈ gtb, w.before args s = true) : ∀ k : Nat, ∃ pr : ClassId × (Nat → Nat), ∀ q : vw_C, vwCl[k]? = some q → u_Kn s q.1 q.2.1 q.2.2 pr.1 pr.2 := fun k =>
  match k with
  | 0 => kn1 hts cl_0 iw_0
  | 1 => kn1 hts cl_1 iw_1
  | 2 => kn1 hts cl_2 iw_2
  | 3 => kn1 hts cl_3 iw_3
  | 4 => kn1 hts cl_4 iw_4
  | 5 => kn1 hts cl_5 iw_5
  | 6 => kn1 hts cl_6 iw_6
  | 7 => kn1 hts cl_7 iw_7
  | 8 => kn1 hts cl_8 iw_8
  | 9 => kn1 hts cl_9 iw_9
  | 10 => kn1 hts cl_10 iw_10
  | 11 => kn1 hts cl_11 iw_11
  | 12 => kn1 hts cl_12 iw_12
  | k + 13 => ⟨(0, fun _ => 0), fun q hq => by simp [vwCl] at hq⟩
abbrev tyl : List FieldType := [.byte, .int, .long, .boolean, .object "SheetBranches$Conflict", .object "SheetBranches$Content", .object "SheetBranches$Part", .object "SheetBranches$Sheet", .object "SheetBranches$Value"]
theorem kn_o {s : State} {args : Array Value} {C : String} (h : (Cond.arrayOver (.object C)).before args s = true) : ∃ c : ClassId, ArrOfT s c (.object C) ∧ va_RA s c (.object C) := by
  obtain ⟨comp, c, k, h1, h2, h3, h4, h5⟩ := Cond.arrayOver_spec h
  exact ⟨c, fun n z => ⟨(fun k h => by cases h), k, h3, comp, h4⟩, k, comp, h3, h4, h1, h5⟩
theorem kn_arr {s : State} {args : Array Value} (hts : ∀ w ∈ gtb, w.before args s = true) (htt : ∀ w ∈ tables_1, w.before args s = true) : ∀ t : Nat, ∃ c : ClassId, ∀ ty : FieldType, tyl[t]? = some ty → ArrOfT s c ty ∧ va_RA s c ty := fun t =>
  match t with
  | 0 => by
    obtain ⟨c, k, comp, h1, h2, h3⟩ := Cond.arrayClass_spec (hts _ ac_byte)
    exact ⟨c, fun ty hq => by cases hq; exact ⟨fun n z => ⟨(fun k h => by cases h), k, h2, comp, h3⟩, h1⟩⟩
  | 1 => by
    obtain ⟨c, k, comp, h1, h2, h3⟩ := Cond.arrayClass_spec (hts _ ac_int)
    exact ⟨c, fun ty hq => by cases hq; exact ⟨fun n z => ⟨(fun k h => by cases h), k, h2, comp, h3⟩, h1⟩⟩
  | 2 => by
    obtain ⟨c, k, comp, h1, h2, h3⟩ := Cond.arrayClass_spec (hts _ ac_long)
    exact ⟨c, fun ty hq => by cases hq; exact ⟨fun n z => ⟨(fun k h => by cases h), k, h2, comp, h3⟩, h1⟩⟩
  | 3 => by
    obtain ⟨c, k, comp, h1, h2, h3⟩ := Cond.arrayClass_spec (hts _ ac_boolean)
    exact ⟨c, fun ty hq => by cases hq; exact ⟨fun n z => ⟨(fun k h => by cases h), k, h2, comp, h3⟩, h1⟩⟩
  | 4 => by
    obtain ⟨c, h⟩ := kn_o (htt _ ao_0)
    exact ⟨c, fun ty hq => by cases hq; exact h⟩
  | 5 => by
    obtain ⟨c, h⟩ := kn_o (htt _ ao_1)
    exact ⟨c, fun ty hq => by cases hq; exact h⟩
  | 6 => by
    obtain ⟨c, h⟩ := kn_o (htt _ ao_4)
    exact ⟨c, fun ty hq => by cases hq; exact h⟩
  | 7 => by
    obtain ⟨c, h⟩ := kn_o (htt _ ao_6)
    exact ⟨c, fun ty hq => by cases hq; exact h⟩
  | 8 => by
    obtain ⟨c, h⟩ := kn_o (htt _ ao_8)
    exact ⟨c, fun ty hq => by cases hq; exact h⟩
  | t + 9 => ⟨0, fun ty hq => by simp [tyl] at hq⟩
theorem known9 {s : State} {args : Array Value} (hts : ∀ w ∈ gtb, w.before args s = true) (htt : ∀ w ∈ tables_1, w.before args s = true) : ∃ (D : va_G) (cy : Nat → ClassId), va_K D vwCl (ty9 cy) s := by
  obtain ⟨F, hF⟩ := Classical.axiomOfChoice (kn_obj hts)
  obtain ⟨cy, hcy⟩ := Classical.axiomOfChoice (kn_arr hts htt)
  refine ⟨(fun k => (F k).1, fun k => (F k).2), cy, fun k q hq => hF k q hq, fun k q hq => ?_⟩
  match k, hq with
  | 0, hq => cases hq; exact hcy 0 _ rfl
  | 1, hq => cases hq; exact hcy 1 _ rfl
  | 2, hq => cases hq; exact hcy 2 _ rfl
  | 3, hq => cases hq; exact hcy 3 _ rfl
  | 4, hq => cases hq; exact hcy 4 _ rfl
  | 5, hq => cases hq; exact hcy 5 _ rfl
  | 6, hq => cases hq; exact hcy 6 _ rfl
  | 7, hq => cases hq; exact hcy 7 _ rfl
  | 8, hq => cases hq; exact hcy 8 _ rfl
  | k + 9, hq => simp [ty9] at hq
theorem nc_in : ∀ E ∈ exs, ∀ F ∈ exs, E ≠ F → Cond.not (Cond.castable E F) ∈ flatC (Jvm.Cond.and given_1 narrow_1) := by decide +kernel
theorem tb_in : [Cond.laysStatic "java/lang/Throwable" "UNASSIGNED_STACK" "[Ljava/lang/StackTraceElement;", Cond.laysStatic "java/lang/Throwable" "SUPPRESSED_SENTINEL" "Ljava/util/List;", Cond.initialized "java/lang/Throwable", Cond.laysStatic "java/lang/String" "COMPACT_STRINGS" "Z", Cond.initialized "java/lang/String", Cond.laysStatic "SheetBranches" "LEAST_ARGS" "[I", Cond.laysStatic "SheetBranches" "MOST_ARGS" "[I", Cond.initialized "SheetBranches", Cond.laysStatic "jdk/internal/util/Preconditions" "SIOOBE_FORMATTER" "Ljava/util/function/BiFunction;", Cond.initialized "jdk/internal/util/Preconditions"].all (fun w => decide (w ∈ tables_1)) = true := by decide +kernel
theorem tb_m {w : Cond} (h : w ∈ [Cond.laysStatic "java/lang/Throwable" "UNASSIGNED_STACK" "[Ljava/lang/StackTraceElement;", Cond.laysStatic "java/lang/Throwable" "SUPPRESSED_SENTINEL" "Ljava/util/List;", Cond.initialized "java/lang/Throwable", Cond.laysStatic "java/lang/String" "COMPACT_STRINGS" "Z", Cond.initialized "java/lang/String", Cond.laysStatic "SheetBranches" "LEAST_ARGS" "[I", Cond.laysStatic "SheetBranches" "MOST_ARGS" "[I", Cond.initialized "SheetBranches", Cond.laysStatic "jdk/internal/util/Preconditions" "SIOOBE_FORMATTER" "Ljava/util/function/BiFunction;", Cond.initialized "jdk/internal/util/Preconditions"]) : w ∈ tables_1 := of_decide_eq_true (List.all_eq_true.mp tb_in w h)
theorem zt_of {s : State} {args : Array Value} (htt : ∀ w ∈ tables_1, w.before args s = true) (hgv : (Jvm.Cond.and given_1 narrow_1).before args s = true) : Zt (fun q : Nat => s.heap.size ≤ q) s s.heap := by
  have hs := flat_of_before _ hgv
  have hA : ∀ a : Nat, a < s.heap.size → ¬ (fun q : Nat => s.heap.size ≤ q) a := fun a h => Nat.not_le.mpr h
  exact ⟨vx_Zqof (htt (Cond.laysStatic "java/lang/Throwable" "UNASSIGNED_STACK" "[Ljava/lang/StackTraceElement;") (tb_m (by simp))) (htt (Cond.initialized "java/lang/Throwable") (tb_m (by simp))) (hs _ (by decide +kernel)) hA, vx_Zqof (htt (Cond.laysStatic "java/lang/Throwable" "SUPPRESSED_SENTINEL" "Ljava/util/List;") (tb_m (by simp))) (htt (Cond.initialized "java/lang/Throwable") (tb_m (by simp))) (hs _ (by decide +kernel)) hA, fun E hE F hF hne => va_Nc.of (hs _ (nc_in E hE F hF hne))⟩
/-! ===== the String constants and the statics at the law's entry ===== -/
def sTm (x : String × Nat × String × List Int32) : Term := .string x.1 x.2.1
def sVl (x : String × Nat × String × List Int32) : Term := .field (sTm x) "java/lang/String" "value" "[B"
def sCd (x : String × Nat × String × List Int32) : List Cond := Cond.exactly (sTm x) "java/lang/String" :: Cond.eq (.field (sTm x) "java/lang/String" "coder" "B") (.int 0) :: Cond.arrayOf (sVl x) .byte :: Cond.eq (.length (sVl x)) (.int (Int32.ofNat x.2.2.2.length)) :: (List.range x.2.2.2.length).map (fun j => Cond.eq (.elem (sVl x) (.int (Int32.ofNat j))) (.int (x.2.2.2.getD j 0)))
def sbqL : List Cond → List Cond → Bool
  | [], [] => true
  | _ :: _, [] => false
  | as, b :: bs => match as with
    | [] => true
    | a :: as' => if a = b then sbqL as' bs else sbqL (a :: as') bs
theorem sbqL_m : ∀ (bs as : List Cond), sbqL as bs = true → ∀ w ∈ as, w ∈ bs
  | [], [], _, w, hw => hw
  | [], a :: as, h, _, _ => by simp [sbqL] at h
  | b :: bs, [], _, w, hw => absurd hw List.not_mem_nil
  | b :: bs, a :: as, h, w, hw => by
    unfold sbqL at h
    by_cases e : a = b
    · simp only [if_pos e] at h
      rcases List.mem_cons.mp hw with rfl | hw
      · rw [e]; exact List.mem_cons_self
      · exact List.mem_cons_of_mem _ (sbqL_m bs as h w hw)
    · simp only [if_neg e] at h
      exact List.mem_cons_of_mem _ (sbqL_m bs (a :: as) h w hw)
theorem sCd_in : sbqL (strs.flatMap sCd) ((flatC (Jvm.Cond.and given_1 narrow_1)).drop 138) = true := by decide +kernel
theorem sCd_m {x : String × Nat × String × List Int32} (hx : x ∈ strs) {w : Cond} (hw : w ∈ sCd x) : w ∈ flatC (Jvm.Cond.and given_1 narrow_1) :=
  List.mem_of_mem_drop (i := 138) (sbqL_m _ _ sCd_in w (List.mem_flatMap.mpr ⟨x, hx, hw⟩))
theorem sRf_in : strs.all (fun x => decide (Cond.stringRef x.1 x.2.1 x.2.2.1 ∈ tables_1)) = true := by decide +kernel
def aCd (tm : Term) (l : List Int32) : List Cond := Cond.arrayOf tm .int :: Cond.eq (.length tm) (.int (Int32.ofNat l.length)) :: (List.range l.length).map (fun j => Cond.eq (.elem tm (.int (Int32.ofNat j))) (.int (l.getD j 0)))
theorem aCd_L : (aCd (.static "SheetBranches" "LEAST_ARGS" "[I") lstA).all (fun w => decide (w ∈ flatC (Jvm.Cond.and given_1 narrow_1))) = true := by decide +kernel
theorem aCd_M : (aCd (.static "SheetBranches" "MOST_ARGS" "[I") mstA).all (fun w => decide (w ∈ flatC (Jvm.Cond.and given_1 narrow_1))) = true := by decide +kernel
theorem arr_of {s : State} {args : Array Value} {tm : Term} {l : List Int32} {A : Nat → Prop} (hl : l.length < 2 ^ 31) (h : ∀ w ∈ aCd tm l, w.before args s = true) (hA : ∀ a : Nat, a < s.heap.size → ¬ A a) : ∃ t : Nat, tm.eval args s none [] s = some (.ref t) ∧ va_T .int t l.length (fun j => .int (l.getD j 0)) A s s.heap :=
  va_Tof hl (h _ (List.mem_cons_self)) (va_eqt (h _ (List.mem_cons_of_mem _ List.mem_cons_self))) (fun j hj => va_eqt (h _ (List.mem_cons_of_mem _ (List.mem_cons_of_mem _ (List.mem_map.mpr ⟨j, List.mem_range.mpr hj, rfl⟩))))) hA
theorem sw_of {s : State} {args : Array Value} (cy0 : Nat → Nat) (htt : ∀ w ∈ tables_1, w.before args s = true) (hgv : (Jvm.Cond.and given_1 narrow_1).before args s = true) : ∃ cy : Nat → Nat, (∀ k, k < 100 → cy k = cy0 k) ∧ Sw cy (fun q : Nat => s.heap.size ≤ q) s s.heap := by
  have hs := flat_of_before _ hgv
  have hA : ∀ a : Nat, a < s.heap.size → ¬ (fun q : Nat => s.heap.size ≤ q) a := fun a h => Nat.not_le.mpr h
  have h0 : ∀ i : Nat, ∃ q : Nat × Nat, ∀ x, strs[i]? = some x → vk_R x.1 x.2.1 x.2.2.1 q.1 s ∧ va_O "java/lang/String" q.1 (fun q : Nat => s.heap.size ≤ q) s s.heap ∧ va_OF "java/lang/String" "coder" "B" (.int 0) q.1 (fun q : Nat => s.heap.size ≤ q) s s.heap ∧ va_OF "java/lang/String" "value" "[B" (.ref q.2) q.1 (fun q : Nat => s.heap.size ≤ q) s s.heap ∧ va_T .byte q.2 x.2.2.2.length (fun j => .int (x.2.2.2.getD j 0)) (fun q : Nat => s.heap.size ≤ q) s s.heap := by
    intro i
    cases hx : strs[i]? with
    | none => exact ⟨(0, 0), fun x h => by cases h⟩
    | some x =>
      have mx : x ∈ strs := List.mem_of_getElem? hx
      have hc : ∀ w ∈ sCd x, w.before args s = true := fun w hw => hs w (sCd_m mx hw)
      have hr := htt _ (of_decide_eq_true (List.all_eq_true.mp sRf_in x mx))
      have hl : x.2.2.2.length < 2 ^ 31 := by
        have q : strs.all (fun x => decide (x.2.2.2.length < 2 ^ 31)) = true := by decide +kernel
        exact of_decide_eq_true (List.all_eq_true.mp q x mx)
      obtain ⟨a, c, cA, kA, q1, q2, q3, q4, q5, q6, -⟩ := Cond.exactly_spec (args := args) (first := s) (o := none) (s := s) (idx := []) (t := sTm x) (cls := "java/lang/String") (hc _ List.mem_cons_self)
      obtain ⟨t, ht, hT⟩ := va_Tof (f := fun j => .int (x.2.2.2.getD j 0)) (A := fun q : Nat => s.heap.size ≤ q) hl (hc _ (List.mem_cons_of_mem _ (List.mem_cons_of_mem _ List.mem_cons_self))) (va_eqt (hc _ (List.mem_cons_of_mem _ (List.mem_cons_of_mem _ (List.mem_cons_of_mem _ List.mem_cons_self))))) (fun j hj => va_eqt (hc _ (List.mem_cons_of_mem _ (List.mem_cons_of_mem _ (List.mem_cons_of_mem _ (List.mem_cons_of_mem _ (List.mem_map.mpr ⟨j, List.mem_range.mpr hj, rfl⟩))))))) hA
      refine ⟨(a, t), fun y hy => ?_⟩
      cases hy
      exact ⟨vk_R.of hr q1, ⟨cA, q3, q5, by rw [q6]; exact q2, hA a (Array.getElem?_eq_some_iff.mp q3).1⟩, vk_OFof q1 (va_eqt (hc _ (List.mem_cons_of_mem _ List.mem_cons_self))) hA, vk_OFof q1 ht hA, hT⟩
  obtain ⟨ad, had⟩ := Classical.axiomOfChoice h0
  obtain ⟨tL, eL, vL⟩ := arr_of (s := s) (args := args) (tm := .static "SheetBranches" "LEAST_ARGS" "[I") (l := lstA) (A := fun q : Nat => s.heap.size ≤ q) (by decide) (fun w hw => hs w (of_decide_eq_true (List.all_eq_true.mp aCd_L w hw))) hA
  obtain ⟨tM, eM, vM⟩ := arr_of (s := s) (args := args) (tm := .static "SheetBranches" "MOST_ARGS" "[I") (l := mstA) (A := fun q : Nat => s.heap.size ≤ q) (by decide) (fun w hw => hs w (of_decide_eq_true (List.all_eq_true.mp aCd_M w hw))) hA
  have zL := va_Zref (htt _ (tb_m (by simp))) (htt _ (tb_m (by simp))) eL hA
  have zM := va_Zref (htt _ (tb_m (by simp))) (htt _ (tb_m (by simp))) eM hA
  have zC := va_Zof (htt (Cond.laysStatic "java/lang/String" "COMPACT_STRINGS" "Z") (tb_m (by simp))) (htt _ (tb_m (by simp))) (va_eqt (z := 1) (hs _ (by decide +kernel))) hA
  have zS := va_Zqof (htt (Cond.laysStatic "jdk/internal/util/Preconditions" "SIOOBE_FORMATTER" "Ljava/util/function/BiFunction;") (tb_m (by simp))) (htt _ (tb_m (by simp))) (hs _ (by decide +kernel)) hA
  have zS' : ∃ tS : Nat, va_Z "jdk/internal/util/Preconditions" "SIOOBE_FORMATTER" "Ljava/util/function/BiFunction;" .null (fun q : Nat => s.heap.size ≤ q) s s.heap ∨ va_Z "jdk/internal/util/Preconditions" "SIOOBE_FORMATTER" "Ljava/util/function/BiFunction;" (.ref tS) (fun q : Nat => s.heap.size ≤ q) s s.heap := by
    rcases zS with h | ⟨t, h⟩
    · exact ⟨0, Or.inl h⟩
    · exact ⟨t, Or.inr h⟩
  obtain ⟨tS, zS'⟩ := zS'
  refine ⟨fun k => if k < 100 then cy0 k else if k < 150 then (ad (k - 100)).1 else if k < 194 then (ad (k - 150)).2 else if k = 194 then tL else if k = 195 then tM else tS, fun k hk => if_pos hk, fun i x hx => ?_, zC, ⟨zL, vL⟩, ⟨zM, vM⟩, zS'⟩
  have hi : i < 44 := by
    have := (List.getElem?_eq_some_iff.mp hx).1
    exact this
  have e1 : (if 100 + i < 100 then cy0 (100 + i) else if 100 + i < 150 then (ad (100 + i - 100)).1 else if 100 + i < 194 then (ad (100 + i - 150)).2 else if 100 + i = 194 then tL else if 100 + i = 195 then tM else tS) = (ad i).1 := by
    rw [if_neg (by omega), if_pos (by omega), show 100 + i - 100 = i by omega]
  have e2 : (if 100 + (50 + i) < 100 then cy0 (100 + (50 + i)) else if 100 + (50 + i) < 150 then (ad (100 + (50 + i) - 100)).1 else if 100 + (50 + i) < 194 then (ad (100 + (50 + i) - 150)).2 else if 100 + (50 + i) = 194 then tL else if 100 + (50 + i) = 195 then tM else tS) = (ad i).2 := by
    rw [if_neg (by omega), if_neg (by omega), if_pos (by omega), show 100 + (50 + i) - 150 = i by omega]
  have h := had i x hx
  refine ⟨?_, ?_, ?_, ?_, ?_⟩
  · show vk_R _ _ _ (if 100 + i < 100 then cy0 (100 + i) else if 100 + i < 150 then (ad (100 + i - 100)).1 else if 100 + i < 194 then (ad (100 + i - 150)).2 else if 100 + i = 194 then tL else if 100 + i = 195 then tM else tS) s
    rw [e1]; exact h.1
  · show va_O _ (if 100 + i < 100 then cy0 (100 + i) else if 100 + i < 150 then (ad (100 + i - 100)).1 else if 100 + i < 194 then (ad (100 + i - 150)).2 else if 100 + i = 194 then tL else if 100 + i = 195 then tM else tS) _ _ _
    rw [e1]; exact h.2.1
  · show va_OF _ _ _ _ (if 100 + i < 100 then cy0 (100 + i) else if 100 + i < 150 then (ad (100 + i - 100)).1 else if 100 + i < 194 then (ad (100 + i - 150)).2 else if 100 + i = 194 then tL else if 100 + i = 195 then tM else tS) _ _ _
    rw [e1]; exact h.2.2.1
  · show va_OF _ _ _ (.ref (if 100 + (50 + i) < 100 then cy0 (100 + (50 + i)) else if 100 + (50 + i) < 150 then (ad (100 + (50 + i) - 100)).1 else if 100 + (50 + i) < 194 then (ad (100 + (50 + i) - 150)).2 else if 100 + (50 + i) = 194 then tL else if 100 + (50 + i) = 195 then tM else tS)) (if 100 + i < 100 then cy0 (100 + i) else if 100 + i < 150 then (ad (100 + i - 100)).1 else if 100 + i < 194 then (ad (100 + i - 150)).2 else if 100 + i = 194 then tL else if 100 + i = 195 then tM else tS) _ _ _
    rw [e1, e2]; exact h.2.2.2.1
  · show va_T _ (if 100 + (50 + i) < 100 then cy0 (100 + (50 + i)) else if 100 + (50 + i) < 150 then (ad (100 + (50 + i) - 100)).1 else if 100 + (50 + i) < 194 then (ad (100 + (50 + i) - 150)).2 else if 100 + (50 + i) = 194 then tL else if 100 + (50 + i) = 195 then tM else tS) _ _ _ _ _
    rw [e2]; exact h.2.2.2.2
