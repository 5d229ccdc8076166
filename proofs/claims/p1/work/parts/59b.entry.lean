/-! ===== the law's entry ===== -/
theorem lw_retR {R : Room} {p : Program} {l : Launch} {e : Env} {s : State} {m : MethodId} {below : List Frame} {meth : Method} {c : Code} {b : Nat} (hx : p.tables.exec = Jvm.exec) (hb : c.code = code) (hr : meth.sig.returnType = ret) (hlocks : meth.locks = false) {pc : Nat} {H : Heap} {ls : Array Slot} (hdg : decode code pc = .ok (.ireturn, 1)) : W p l e R s m #[Value.ref b] below meth c H [] 600002 7302232 (lw_Z below #[Value.ref b] s) (F0 m pc ls [.int 1]) := by
  intro T hT X
  obtain ⟨fs, hret, hrun, hended, hW, hframe⟩ := X.leave (v := some (.int 1)) (hlocks := hlocks) (fun h => by rw [hr] at h; cases h)
  have hmeth' : T.vm.method? m = some meth := X.method'
  refine ⟨T.setFrames fs, ?_, .returned (some (.int 1)), hrun, hended, rfl, ⟨_, rfl⟩, hW, hframe⟩
  jvm_step X.here [X.here.top, hx, hb, hdg, hmeth', hr, ret, narrow_b1]
  (try refine ⟨rfl, ?_⟩); (try refine ⟨rfl, ?_⟩)
  first | (intro acts; rw [hret _ acts rfl rfl rfl]) | rw [hret _ _ rfl rfl rfl]
  exact Steps.refl _
theorem hr_mono {s : State} {pl : Platform} {r r' : Room} (hf : r.frames ≤ r'.frames) (hl : r.locals ≤ r'.locals) (hc : r.cells ≤ r'.cells) (hs : r.slots ≤ r'.slots) (h : s.hasRoom pl r' = true) : s.hasRoom pl r = true := by
  simp only [State.hasRoom, Bool.and_eq_true, decide_eq_true_eq] at h ⊢
  obtain ⟨⟨⟨⟨h1, h2, h3, h4, h5, h6⟩, h7⟩, h8⟩, h9⟩ := h
  exact ⟨⟨⟨⟨by omega, by omega, by omega, by omega, by omega, h6⟩, by omega⟩, by omega⟩, h9⟩
theorem W_room {p : Program} {l : Launch} {e : Env} {R R' : Room} {s : State} {m : MethodId} {args : Array Value} {below : List Frame} {meth : Method} {c : Code} {H : Heap} {locs : List Loc} {cells slots : Nat} {Q : State → Prop} {g : JFrame} (hm : s.hasRoom e.platform R' = true → s.hasRoom e.platform R = true) (k : W p l e R s m args below meth c H locs cells slots Q g) : W p l e R' s m args below meth c H locs cells slots Q g :=
  fun T hT X => k T hT ⟨X.admits, X.cas, X.clock, X.frames, hm X.room, X.hears, X.method, X.code, X.here, X.tail, X.warmed, X.limits, X.bytes, X.same⟩
theorem kn1 {s : State} {args : Array Value} {k : Nat} {R : String} {T : u_T} (hts : ∀ w ∈ gtb, w.before args s = true) (hC : CL k R T) (hi : Cond.instantiable R (fnum k) ∈ gtb) : ∃ pr : ClassId × (Nat → Nat), ∀ q : vw_C, vwCl[k]? = some q → u_Kn s q.1 q.2.1 q.2.2 pr.1 pr.2 := by
  obtain ⟨q1, q2, -, -, -⟩ := hC
  obtain ⟨c, iS, h⟩ := u_known (C := R) (T := T) (N := fnum k) (n := fnum k) hts q2 (hts _ hi)
  exact ⟨(c, iS), fun q hq => by rw [q1] at hq; cases hq; exact h⟩
theorem kn_obj {s : State} {args : Array Value} (hts : ∀ w ∈ gtb, w.before args s = true) : ∀ k : Nat, ∃ pr : ClassId × (Nat → Nat), ∀ q : vw_C, vwCl[k]? = some q → u_Kn s q.1 q.2.1 q.2.2 pr.1 pr.2 := fun k =>
  match k with
  | 0 => kn1 hts cl_0 iw_0
  | 1 => kn1 hts cl_1 iw_1
  | 2 => kn1 hts cl_2 iw_2
  | 3 => kn1 hts cl_3 iw_3
  | 4 => kn1 hts cl_4 iw_4
  | 5 => kn1 hts cl_5 iw_5
  | 6 => kn1 hts cl_6 iw_6
  | 7 => kn1 hts cl_7 iw_7
  | 8 => kn1 hts cl_8 iw_8
  | 9 => kn1 hts cl_9 iw_9
  | 10 => kn1 hts cl_10 iw_10
  | 11 => kn1 hts cl_11 iw_11
  | 12 => kn1 hts cl_12 iw_12
  | k + 13 => ⟨(0, fun _ => 0), fun q hq => by simp [vwCl] at hq⟩
abbrev tyl : List FieldType := [.byte, .int, .long, .boolean, .object "SheetBranches$Conflict", .object "SheetBranches$Content", .object "SheetBranches$Part", .object "SheetBranches$Sheet", .object "SheetBranches$Value"]
theorem kn_o {s : State} {args : Array Value} {C : String} (h : (Cond.arrayOver (.object C)).before args s = true) : ∃ c : ClassId, ArrOfT s c (.object C) ∧ va_RA s c (.object C) := by
  obtain ⟨comp, c, k, h1, h2, h3, h4, h5⟩ := Cond.arrayOver_spec h
  exact ⟨c, fun n z => ⟨(fun k h => by cases h), k, h3, comp, h4⟩, k, comp, h3, h4, h1, h5⟩
theorem kn_arr {s : State} {args : Array Value} (hts : ∀ w ∈ gtb, w.before args s = true) (htt : ∀ w ∈ tables_1, w.before args s = true) : ∀ t : Nat, ∃ c : ClassId, ∀ ty : FieldType, tyl[t]? = some ty → ArrOfT s c ty ∧ va_RA s c ty := fun t =>
  match t with
  | 0 => by
    obtain ⟨c, k, comp, h1, h2, h3⟩ := Cond.arrayClass_spec (hts _ ac_byte)
    exact ⟨c, fun ty hq => by cases hq; exact ⟨fun n z => ⟨(fun k h => by cases h), k, h2, comp, h3⟩, h1⟩⟩
  | 1 => by
    obtain ⟨c, k, comp, h1, h2, h3⟩ := Cond.arrayClass_spec (hts _ ac_int)
    exact ⟨c, fun ty hq => by cases hq; exact ⟨fun n z => ⟨(fun k h => by cases h), k, h2, comp, h3⟩, h1⟩⟩
  | 2 => by
    obtain ⟨c, k, comp, h1, h2, h3⟩ := Cond.arrayClass_spec (hts _ ac_long)
    exact ⟨c, fun ty hq => by cases hq; exact ⟨fun n z => ⟨(fun k h => by cases h), k, h2, comp, h3⟩, h1⟩⟩
  | 3 => by
    obtain ⟨c, k, comp, h1, h2, h3⟩ := Cond.arrayClass_spec (hts _ ac_boolean)
    exact ⟨c, fun ty hq => by cases hq; exact ⟨fun n z => ⟨(fun k h => by cases h), k, h2, comp, h3⟩, h1⟩⟩
  | 4 => by
    obtain ⟨c, h⟩ := kn_o (htt _ ao_0)
    exact ⟨c, fun ty hq => by cases hq; exact h⟩
  | 5 => by
    obtain ⟨c, h⟩ := kn_o (htt _ ao_1)
    exact ⟨c, fun ty hq => by cases hq; exact h⟩
  | 6 => by
    obtain ⟨c, h⟩ := kn_o (htt _ ao_4)
    exact ⟨c, fun ty hq => by cases hq; exact h⟩
  | 7 => by
    obtain ⟨c, h⟩ := kn_o (htt _ ao_6)
    exact ⟨c, fun ty hq => by cases hq; exact h⟩
  | 8 => by
    obtain ⟨c, h⟩ := kn_o (htt _ ao_8)
    exact ⟨c, fun ty hq => by cases hq; exact h⟩
  | t + 9 => ⟨0, fun ty hq => by simp [tyl] at hq⟩
theorem known9 {s : State} {args : Array Value} (hts : ∀ w ∈ gtb, w.before args s = true) (htt : ∀ w ∈ tables_1, w.before args s = true) : ∃ (D : va_G) (cy : Nat → ClassId), va_K D vwCl (ty9 cy) s := by
  obtain ⟨F, hF⟩ := Classical.axiomOfChoice (kn_obj hts)
  obtain ⟨cy, hcy⟩ := Classical.axiomOfChoice (kn_arr hts htt)
  refine ⟨(fun k => (F k).1, fun k => (F k).2), cy, fun k q hq => hF k q hq, fun k q hq => ?_⟩
  match k, hq with
  | 0, hq => cases hq; exact hcy 0 _ rfl
  | 1, hq => cases hq; exact hcy 1 _ rfl
  | 2, hq => cases hq; exact hcy 2 _ rfl
  | 3, hq => cases hq; exact hcy 3 _ rfl
  | 4, hq => cases hq; exact hcy 4 _ rfl
  | 5, hq => cases hq; exact hcy 5 _ rfl
  | 6, hq => cases hq; exact hcy 6 _ rfl
  | 7, hq => cases hq; exact hcy 7 _ rfl
  | 8, hq => cases hq; exact hcy 8 _ rfl
  | k + 9, hq => simp [ty9] at hq
theorem nc_in : ∀ E ∈ exs, ∀ F ∈ exs, E ≠ F → Cond.not (Cond.castable E F) ∈ flatC (Jvm.Cond.and given_1 narrow_1) := by decide +kernel
theorem zt_of {s : State} {args : Array Value} (htt : ∀ w ∈ tables_1, w.before args s = true) (hgv : (Jvm.Cond.and given_1 narrow_1).before args s = true) : Zt (fun q : Nat => s.heap.size ≤ q) s s.heap := by
  have hs := flat_of_before _ hgv
  have hA : ∀ a : Nat, a < s.heap.size → ¬ (fun q : Nat => s.heap.size ≤ q) a := fun a h => Nat.not_le.mpr h
  exact ⟨vx_Zqof (htt _ (List.mem_of_getElem? (i := 979) (by decide +kernel))) (htt _ (List.mem_of_getElem? (i := 12) (by decide +kernel))) (hs _ (by decide +kernel)) hA, vx_Zqof (htt _ (List.mem_of_getElem? (i := 981) (by decide +kernel))) (htt _ (List.mem_of_getElem? (i := 12) (by decide +kernel))) (hs _ (by decide +kernel)) hA, fun E hE F hF hne => va_Nc.of (hs _ (nc_in E hE F hF hne))⟩
set_option maxRecDepth 20000 in
theorem law_in {p : Program} {e : Env} {s : State} {m : MethodId} {below : List Frame} {meth : Method} {c : Code} (l : Launch) {b L mc ms : Nat} {xs : Nat → Int32} (hst : l.stackTraces = false) (hnm : meth.name = "law") (htb : c.exceptionTable.toList = []) (C0 : lw_At p s m meth c b L xs) (hmc : mc ≤ 600002) (hms : ms ≤ 7302232)
    (k : ∀ (D : va_G) (cy : Nat → ClassId), va_X b L xs s s.heap → b < s.heap.size → Jp mL_law p l e s m #[Value.ref b] below meth c (lw_Z below #[Value.ref b] s) D cy (fun q : Nat => s.heap.size ≤ q) 600002 7302232 2048 mc ms (fun o _ => o = .inl (some (vi 1))) 0 [some (vr (some b)), none, none, none, none, none, none] [] he) : W p l e room_1 s m #[Value.ref b] below meth c s.heap [] 0 0 (lw_Z below #[Value.ref b] s) (entryFrame m ([Value.ref b] : List Value).toArray 7) := by
  obtain ⟨hx, hb, hr, hml, hown, hts, hX, hbl, hlocks, hgv⟩ := id C0
  have htg : ∀ w ∈ gtb, w.before #[Value.ref b] s = true := fun w hw => hts w (gtb_good hw).1
  have htt : ∀ w ∈ tables_1, w.before #[Value.ref b] s = true := fun w hw => hts w (List.mem_append_right _ hw)
  obtain ⟨D, cy, hK⟩ := known9 htg htt
  have hZ := zt_of htt hgv
  have hlv := lv_entry (([vr (some b)] : List Sv).map tv) (n := 7) (Nat.le_of_ble_eq_true rfl)
  rw [lg_entry_eq]
  refine W_room (R := rmm 2048 600002 7302232) (hr_mono (by decide) (by decide) (by decide) (by decide)) ?_
  refine k D cy hX hbl s.heap [] 0 0 _ ⟨hx, hb, hml, hown, htg, hK, fun _ h => h, Xw_of htt, hnm, by rw [htb]; rfl, fun _ => ⟨hZ, hst⟩⟩ ⟨[], fun a => ⟨fun z => (by cases z), fun z => absurd rfl z⟩, fun k q h => by simp [va_pl] at h, ⟨fun i j p q h => by simp [va_pl] at h, fun k q h => by simp [va_pl] at h⟩, va_S.rf⟩ (lv0_has (as := [vr (some b)]) (Nat.le_of_ble_eq_true rfl) hlv) (by omega) (by omega) ?_ ?_
  · intro v u H1 locs1 c1 s1 ls1 pc1 hp hR h1 h2 hrt
    cases hp
    obtain ⟨L', g1, g2, g3, g4⟩ := hR
    refine va_forget (fun q hq => g4.2.2 q hq) ?_
    exact W.widen (k := 600002) (n := 7302232) h1 h2 (lw_retR hx hb hr hlocks hrt.1)
  · intro E u H1 locs1 c1 s1 ls1 pc1 st1 hp
    cases hp
/-- scripts of at most 7 ints -/
theorem whole_start7 {p : Program} {e : Env} {s : State} {m : MethodId} {below : List Frame} {meth : Method} {c : Code} (l : Launch) {b L : Nat} {xs : Nat → Int32} (hst : l.stackTraces = false) (hnm : meth.name = "law") (htb : c.exceptionTable.toList = []) (hL : L ≤ 7) (C0 : lw_At p s m meth c b L xs) : W p l e room_1 s m #[Value.ref b] below meth c s.heap [] 0 0 (lw_Z below #[Value.ref b] s) (entryFrame m ([Value.ref b] : List Value).toArray 7) :=
  law_in l hst hnm htb C0 (mc := 1300) (ms := 1400000) (by decide) (by decide) (fun D cy hX hbl => p1_body hX hbl (Nat.not_le.mpr hbl) hL (by decide) (fun _ => rfl))
