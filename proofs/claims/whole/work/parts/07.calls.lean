/-! ===== contracts and calls ===== -/
def nx (post : Option Sv → Hp → Prop) : Option Sv ⊕ String → Hp → Prop := fun o u => match o with
  | .inl v => post v u
  | .inr _ => False
def Pre (D : va_G) (cy : Nat → ClassId) (L : List Nat) (sz : Nat) (h : Hp) : State → Prop := fun U => U.heap.size = sz ∧ va_P D vwCl (va_pl L (ce cy h)) U.heap ∧ va_K D vwCl (ty9 cy) U ∧ va_D (fun _ => True) (va_pl L (ce cy h)) ∧ (Xw U ∧ Sw cy (va_A (va_pl L (ce cy h)) sz) U U.heap)
def Qx (D : va_G) (cy : Nat → ClassId) (A : Nat → Prop) (post : Option Sv → Hp → Prop) : Array Value → State → Outcome → State → Prop := fun _ st oc t => (∃ (v : Option Sv) (u : Hp), oc = .returned (v.map (tv cy)) ∧ post v u ∧ ∃ L' : List Nat, Lk L' u ∧ va_P D vwCl (va_pl L' (ce cy u)) t.heap ∧ va_D A (va_pl L' (ce cy u))) ∧ va_F A st t
/-- the contract of a method: called with these, in this heap, it returns as post says, making at most mc cells of ms slots, with d frames -/
def Con (Y : MI) (d mc ms : Nat) (as : List Sv) (h : Hp) (post : Option Sv → Hp → Prop) : Prop := ∀ (l : Launch) (D : va_G) (cy : Nat → ClassId) (L : List Nat) (sz : Nat), Lk L h → Met l Y.1 (wy Y) (rmm d mc ms) (va_Pc (as.map (tv cy)) (Pre D cy L sz h)) (Qx D cy (va_A (va_pl L (ce cy h)) sz) post) mc ms (va_A (va_pl L (ce cy h)) sz)
def lva : List Sv → List (Option Sv)
  | [] => []
  | .inl x :: t => some (.inl x) :: lva t
  | .inr (.inl x) :: t => some (.inr (.inl x)) :: none :: lva t
  | .inr (.inr x) :: t => some (.inr (.inr x)) :: lva t
def lv0 (n : Nat) (as : List Sv) : List (Option Sv) := lva as ++ List.replicate (n - (lva as).length) none
theorem lva_len {cy : Nat → Nat} : ∀ as : List Sv, (lg_sl (as.map (tv cy))).length = (lva as).length
  | [] => rfl
  | .inl x :: t => by simpa [lg_sl, lva, tv, Value.category] using lva_len t
  | .inr (.inl x) :: t => by simpa [lg_sl, lva, tv, Value.category] using lva_len t
  | .inr (.inr (.inl none)) :: t => by simpa [lg_sl, lva, tv, va_rf, Value.category] using lva_len t
  | .inr (.inr (.inl (some x))) :: t => by simpa [lg_sl, lva, tv, va_rf, Value.category] using lva_len t
  | .inr (.inr (.inr i)) :: t => by simpa [lg_sl, lva, tv, Value.category] using lva_len t
theorem lva_mem {cy : Nat → Nat} : ∀ (as : List Sv) (j i : Nat) (v : Sv), (lva as)[i]? = some (some v) → (j + i, tv cy v) ∈ lv_args j (as.map (tv cy))
  | [], _, _, _, h => by simp [lva] at h
  | .inl x :: t, j, i, v, h => by
    cases i with
    | zero => simp [lva] at h; subst h; simp [lv_args]
    | succ i =>
      have h1 := lva_mem (cy := cy) t (j + 1) i v (by simpa [lva] using h)
      rw [show j + (i + 1) = j + 1 + i by omega]
      exact List.mem_cons_of_mem _ h1
  | .inr (.inl x) :: t, j, i, v, h => by
    cases i with
    | zero => simp [lva] at h; subst h; simp [lv_args]
    | succ i =>
      cases i with
      | zero => simp [lva] at h
      | succ i =>
        have h1 := lva_mem (cy := cy) t (j + 2) i v (by simpa [lva] using h)
        rw [show j + (i + 1 + 1) = j + 2 + i by omega]
        exact List.mem_cons_of_mem _ h1
  | .inr (.inr x) :: t, j, i, v, h => by
    cases i with
    | zero => simp [lva] at h; subst h; simp [lv_args]
    | succ i =>
      have h1 := lva_mem (cy := cy) t (j + 1) i v (by simpa [lva] using h)
      rw [show j + (i + 1) = j + 1 + i by omega]
      have h2 : (tv cy (.inr (.inr x))).category ≠ 2 := by rw [tv_cat]; exact show (1 : Nat) ≠ 2 by decide
      show _ ∈ (j, tv cy (.inr (.inr x))) :: lv_args (if (tv cy (.inr (.inr x))).category = 2 then j + 2 else j + 1) (t.map (tv cy))
      rw [if_neg h2]
      exact List.mem_cons_of_mem _ h1
theorem lv0_has {cy : Nat → Nat} {n : Nat} {as : List Sv} {ls : Array Slot} (hn : (lva as).length ≤ n) (h : lv_has ls n (lv_args 0 (as.map (tv cy)))) : lvh cy ls n (lv0 n as) := by
  refine ⟨h.1, h.2.1, by simp [lv0]; omega, fun i v hi => ?_⟩
  have hi2 : (lva as)[i]? = some (some v) := by
    by_cases hlt : i < (lva as).length
    · rw [lv0, List.getElem?_append_left hlt] at hi; exact hi
    · rw [lv0, List.getElem?_append_right (by omega), List.getElem?_replicate] at hi
      split at hi <;> cases hi
  have h9 := h.2.2 _ (lva_mem as 0 i v hi2)
  rw [Nat.zero_add] at h9
  exact h9
/-- a contract out of the body's walk -/
theorem con_of {Y : MI} {d mc ms : Nat} {as : List Sv} {h : Hp} {post : Option Sv → Hp → Prop} (hy : plainName Y.1.cls = true) (hn : (lva as).length ≤ Y.2.2.1) (hnl : Y.1.cls ≠ RL) (k : J Y d mc ms (nx post) 0 (lv0 Y.2.2.1 as) [] h) : Con Y d mc ms as h post := by
  intro l D cy L sz hL
  refine Met.ofW (cc := Y.2.1) (maxL := Y.2.2.1) (ret := Y.2.2.2) hy rfl ?_
  intro p e s m args below meth c s₁ B hml hv
  obtain ⟨rfl, hsz, hP, hK, hD0, hX, hSw⟩ := hv
  have hts := atoms_spec (ws := wy Y) B.pre
  subst hsz
  have hD := hD0.self (sz := s.heap.size)
  generalize hAe : va_A (va_pl L (ce cy h)) s.heap.size = A at hD hSw ⊢
  have hA : ∀ q : Nat, s.heap.size ≤ q → A q := fun q h => by rw [← hAe]; exact Or.inr h
  have hl := lv_entry (as.map (tv cy)) (n := Y.2.2.1) (by rw [lva_len]; exact hn)
  rw [lg_entry_eq]
  generalize (lg_sl (as.map (tv cy)) ++ List.replicate (Y.2.2.1 - (lg_sl (as.map (tv cy))).length) Slot.unset).toArray = ls at hl ⊢
  refine k p l e s m _ below meth c s.heap [] 0 0 ls _ D cy A mc ms ⟨B.exec, B.bytes, hml, findClass_of_methodNamed B.named, fun w hw => hts w (List.mem_cons_of_mem _ hw), hK, hA, ⟨hX, hSw⟩, (name_of_methodNamed B.named B.method).1, by rw [tbl, if_neg hnl, Array.isEmpty_iff.mp (BodyLoose.noHandlers B (hts _ List.mem_cons_self))]; rfl, fun q => absurd q hnl⟩ ⟨L, hL, hP, hD, va_S.rf⟩ (lv0_has hn hl) (by omega) (by omega) ?_ ?_
  · intro v u H1 locs1 c1 s1 ls1 pc1 hp hR h1 h2 hrt
    obtain ⟨L', g1, g2, g3, g4⟩ := hR
    refine W.widen (k := mc) (n := ms) h1 h2 ?_
    have hq : ∀ t : State, t.heap = H1 → s.WarmedH t.vm → Qx D cy A post (as.map (tv cy)).toArray s (.returned (v.map (tv cy))) t := fun t ht _ => ⟨⟨v, u, rfl, hp, L', g1, by rw [ht]; exact g2, g3⟩, g4.F ht⟩
    have hR9 := B.returns
    rcases v with _ | x | x | x | x
    · exact W.vret B.exec B.bytes (hR9.trans hrt.2) hq g4.2.2 hrt.1 (hlocks := B.notSynchronized)
    · obtain ⟨r1, ty, r2, r3⟩ := hrt
      exact W.zret B.exec B.bytes (hR9.trans r2) r3 hq g4.2.2 r1 (hlocks := B.notSynchronized)
    · exact W.lret B.exec B.bytes (hR9.trans hrt.2) hq g4.2.2 hrt.1 (hlocks := B.notSynchronized)
    · obtain ⟨r1, rt, r2, r3⟩ := hrt
      exact W.aret B.exec B.bytes (hR9.trans r2) r3 (by cases x <;> simp [tv, va_rf]) hq g4.2.2 r1 (hlocks := B.notSynchronized)
    · obtain ⟨r1, rt, r2, r3⟩ := hrt
      exact W.aret B.exec B.bytes (hR9.trans r2) r3 (by simp [tv]) hq g4.2.2 r1 (hlocks := B.notSynchronized)
  · intro E u H1 locs1 c1 s1 ls1 pc1 st1 hp
    exact hp.elim
theorem con_post {Y : MI} {d mc ms : Nat} {as : List Sv} {h : Hp} {post post' : Option Sv → Hp → Prop} (k : J Y d mc ms (nx post) 0 (lv0 Y.2.2.1 as) [] h) (q : ∀ v u, post v u → post' v u) : J Y d mc ms (nx post') 0 (lv0 Y.2.2.1 as) [] h := j_post (fun o u hp => by cases o with
  | inl v => exact q v u hp
  | inr E => exact hp) k
/-- what is on the stack behind a call -/
def rs (v : Option Sv) (st : List Sv) : List Sv := match v with
  | none => st
  | some x => x :: st
section JC
variable {p : Program} {l : Launch} {e : Env} {R : Room} {s : State} {m : MethodId} {args : Array Value} {below : List Frame} {meth : Method} {c : Code} {H : Heap} {locs : List Loc} {cells slots : Nat} {Q : State → Prop}
theorem w_call {D : va_G} {cy : Nat → ClassId} {A A1 : Nat → Prop} {post1 : Option Sv → Hp → Prop} {a1 : Array Value} {mc ms pc : Nat} {ls : Array Slot} {st0 : List Value} {st : List Sv} (hr : va_Run p l e R s m args below meth c H locs cells slots mc ms (F0 m pc ls st0) (st.map (tv cy)) (Qx D cy A1 post1 a1) A1) (hS : va_S A s.heap H locs) (hA : ∀ q, A1 q → A q)
    (kk : ∀ (v : Option Sv) (u : Hp) (H1 : Heap) (locs1 : List Loc), post1 v u → Rp D cy A s.heap H1 locs1 u → W p l e R s m args below meth c H1 locs1 (cells + mc) (slots + ms) Q (F0 m (pc + 3) ls ((rs v st).map (tv cy)))) : W p l e R s m args below meth c H locs cells slots Q (F0 m pc ls st0) := by
  intro T hT X
  obtain ⟨v, st₀, t, T', L, h0, X', hL, e1, e2, ⟨⟨v', u, hv, hp, L', g1, g2, g3⟩, hz, hk⟩, stp⟩ := hr T hT X
  have hv : v = v'.map (tv cy) := by injection hv
  subst hv
  rw [h0] at hz hk
  obtain ⟨t2, q1, q2⟩ := kk v' u T'.heap (locs ++ L) hp ⟨L', g1, by rw [e1]; exact g2, ⟨g3.1, fun k q h => hA _ (g3.2 k q h)⟩, Nat.le_trans hS.1 (by rw [e1]; exact hz), fun q h1 h2 => by rw [e1, hk q (Nat.lt_of_lt_of_le h1 hS.1) (fun z => h2 (hA q z))]; exact hS.2.1 q h1 h2, fun q hq => by
      rcases List.mem_append.mp hq with h | h
      · exact hS.2.2 q h
      · exact hA _ (hL q h)⟩ T' rfl X'
  refine ⟨t2, stp t2 ?_, q2⟩
  cases v' with
  | none => exact q1
  | some x => exact q1
end JC
theorem pre_blind {D : va_G} {cy : Nat → ClassId} {L : List Nat} {sz : Nat} {h : Hp} {as : List Value} : FrameBlind (va_Pc as (Pre D cy L sz h)) := fun a U g mk q => by
  obtain ⟨q0, q1, q2, q3, q4, q5, q6⟩ := q
  exact ⟨q0, q1, q2, va_K.moved (u := U) (U := U.calling g mk a) (Vm.Alike.refl U.vm) q3, q4, Xw_same (s := U) (U := U.calling g mk a) rfl q5, Sw_same (s := U) (U := U.calling g mk a) rfl q6⟩
theorem cat_map {cy : Nat → Nat} (st : List Sv) : ((st.map (tv cy)).map fun v => v.category) = st.map ct := by rw [List.map_map]; exact List.map_congr_left (fun v _ => tv_cat v)
theorem A_sub {A : Nat → Prop} {H0 H : Heap} {locs : List Loc} {ws : va_W} (hD : va_D A ws) (hS : va_S A H0 H locs) (hA : ∀ q, H0.size ≤ q → A q) : ∀ q, va_A ws H.size q → A q := fun q hq => by
  rcases hq with ⟨k, e, hk⟩ | hq
  · exact hD.2 k _ hk
  · exact hA q (Nat.le_trans hS.1 hq)
def dsc (y : MethodName) (n : Nat) : Prop := y.cls ≠ "java/lang/invoke/MethodHandle" ∧ y.cls ≠ "java/lang/invoke/VarHandle" ∧ (parseMethodDescriptor y.desc).map (fun d => d.parameters.length) = some n
/-- number ix of system own is method Y1 of the objects of kind c -/
def VL (own : String) (ix c : Nat) (Y1 : MI) (n : Nat) : Prop := (Cond.code Y1.1 Y1.2.1 Y1.2.2.1 Y1.2.2.2 ∈ gtb ∧ Cond.methodLink own ix Y1.1 ∈ gtb ∧ Cond.instanceMethod Y1.1 ∈ gtb ∧ Cond.selects Y1.1.cls Y1.1 Y1.1 ∈ gtb ∧ Cond.initialized Y1.1.cls ∈ gtb) ∧ (∃ (T : u_T) (n' : Nat), vwCl[c]? = some (Y1.1.cls, T, n')) ∧ c < 13 ∧ dsc Y1.1 n ∧ Y1.2.2.1 ≤ 21
def SL (own : String) (ix : Nat) (Y1 : MI) (n : Nat) : Prop := (Cond.code Y1.1 Y1.2.1 Y1.2.2.1 Y1.2.2.2 ∈ gtb ∧ Cond.methodLink own ix Y1.1 ∈ gtb ∧ Cond.static Y1.1 ∈ gtb ∧ Cond.initialized Y1.1.cls ∈ gtb) ∧ dsc Y1.1 n ∧ Y1.2.2.1 ≤ 21
def SNL (own : String) (ix : Nat) (host : String) (Y1 : MI) (n : Nat) : Prop := (Cond.code Y1.1 Y1.2.1 Y1.2.2.1 Y1.2.2.2 ∈ gtb ∧ Cond.methodLinkNest own ix Y1.1 host ∈ tables_1 ∧ Cond.static Y1.1 ∈ gtb ∧ Cond.initialized Y1.1.cls ∈ gtb) ∧ dsc Y1.1 n ∧ Y1.2.2.1 ≤ 21
def IL (own : String) (ix : Nat) (Y1 : MI) (n : Nat) : Prop := (Cond.code Y1.1 Y1.2.1 Y1.2.2.1 none ∈ gtb ∧ Cond.methodLink own ix Y1.1 ∈ gtb ∧ Cond.instanceMethod Y1.1 ∈ gtb ∧ Cond.initialized Y1.1.cls ∈ gtb) ∧ Y1.2.2.2 = none ∧ Y1.1.name = "<init>" ∧ dsc Y1.1 n ∧ Y1.2.2.1 ≤ 21
def INL (own : String) (ix : Nat) (host : String) (Y1 : MI) (n : Nat) : Prop := (Cond.code Y1.1 Y1.2.1 Y1.2.2.1 none ∈ gtb ∧ Cond.methodLinkNest own ix Y1.1 host ∈ tables_1 ∧ Cond.instanceMethod Y1.1 ∈ gtb ∧ Cond.initialized Y1.1.cls ∈ gtb) ∧ Y1.2.2.2 = none ∧ Y1.1.name = "<init>" ∧ dsc Y1.1 n ∧ Y1.2.2.1 ≤ 21
section JK
variable {Y Y1 : MI} {d d1 mc ms mc1 ms1 : Nat} {post : Option Sv ⊕ String → Hp → Prop} {post1 : Option Sv → Hp → Prop} {pc : Nat} {lv : List (Option Sv)} {st as : List Sv} {h : Hp}
theorem j_callV {ix c n a : Nat} (hd : decode Y.2.1 pc = .ok (.invokevirtual ix, 3)) (hM : VL Y.1.cls ix c Y1 n) (con : Con Y1 d1 mc1 ms1 (vr (some a) :: as) h post1) (hk : hK h a = c + 1) (hn : as.length = n) (hdd : d1 < d) (hmc : mc1 ≤ mc) (hms : ms1 ≤ ms) (hs : (st.map ct).sum ≤ 8) (kk : ∀ (v : Option Sv) (u : Hp), post1 v u → J Y d (mc - mc1) (ms - ms1) post (pc + 3) lv (rs v st) u) : J Y d mc ms post pc lv (as.reverse ++ vr (some a) :: st) h := by
  intro p l e s m args below meth c0 H locs cells slots ls Q D cy A MC MS C R hl h1 h2 hr hx
  obtain ⟨L, hL, hP, hD, hS⟩ := id R
  have hpre : ∀ U : State, U.heap = H → s.WarmedH U.vm → va_Pc ((vr (some a) :: as).map (tv cy)) (Pre D cy L H.size h) ((vr (some a) :: as).map (tv cy)).toArray U := fun U hU hW => ⟨rfl, by rw [hU], by rw [hU]; exact hP, va_K.moved hW.alike C.2.2.2.2.2.1, hD.weaken (fun _ _ _ _ => trivial), Xw_warm hW C.2.2.2.2.2.2.2.1.1, by rw [hU]; exact Sw_pass hS.2.1 (A_sub hD hS C.2.2.2.2.2.2.1) hW C.2.2.2.2.2.2.2.1.2⟩
  have hst : ∀ w : List Sv, ((w.reverse ++ (vr (some a) :: st)).map (tv cy)) = (w.map (tv cy)).reverse ++ ((vr (some a) :: st)).map (tv cy) := fun w => by rw [List.map_append, List.map_reverse]
  have hroom : 2 * (F0 m pc ls []).monitorRoom + ((st.map (tv cy)).map fun v => v.category).sum ≤ 8 := by rw [cat_map]; show 2 * 0 + _ ≤ 8; omega
  obtain ⟨⟨w1, w2, w3, w4, w5⟩, ⟨T, n', hc⟩, hc13, hdsc, hmax⟩ := hM
  obtain ⟨n0, hn0⟩ := pl_get (f := ce cy h) ((hL a).mpr (by omega))
  rw [ce_o hk hc13] at hn0
  have hG : GoodIn gtb (wsV Y.1.cls ix Y1.1.cls Y1.1 (wy Y1)) := gi_gtb (fun w hw => by
    rcases List.mem_append.mp hw with hw | hw
    · simp only [List.mem_cons, List.not_mem_nil, or_false] at hw
      rcases hw with rfl | rfl | rfl | rfl
      · exact w2
      · exact w3
      · exact w4
      · exact w5
    · exact gi_wy w1 w hw)
  rw [hst as]
  exact w_call (va_runV (As := as.map (tv cy)) (rest := st.map (tv cy)) ⟨C.1, C.2.1, C.2.2.1, C.2.2.2.1, C.2.2.2.2.1⟩ (con l D cy L H.size hL) (cwV n C.2.2.2.2.1 hG rfl rfl rfl ⟨rfl, hdsc⟩ ⟨show d1 + 1 ≤ d by omega, show 8 + (Y1.2.2.1 + 11) + 40 * d1 ≤ 40 * d by omega⟩) ⟨pre_blind, va_recv C.2.2.2.2.2.1 hP hc hn0, hpre⟩ rfl (by rw [List.length_map]; exact hn) hl.1 rfl hroom hd ⟨show cells + mc1 ≤ MC by omega, show slots + ms1 ≤ MS by omega⟩) hS (A_sub hD hS C.2.2.2.2.2.2.1) (fun v u H1 locs1 hp hR1 => kk v u hp p l e s m args below meth c0 H1 locs1 (cells + mc1) (slots + ms1) ls Q D cy A MC MS C hR1 hl (by omega) (by omega) hr hx)
theorem j_callS {ix n : Nat} (hd : decode Y.2.1 pc = .ok (.invokestatic ix, 3)) (hM : SL Y.1.cls ix Y1 n) (con : Con Y1 d1 mc1 ms1 as h post1) (hn : as.length = n) (hdd : d1 < d) (hmc : mc1 ≤ mc) (hms : ms1 ≤ ms) (hs : (st.map ct).sum ≤ 8) (kk : ∀ (v : Option Sv) (u : Hp), post1 v u → J Y d (mc - mc1) (ms - ms1) post (pc + 3) lv (rs v st) u) : J Y d mc ms post pc lv (as.reverse ++ st) h := by
  intro p l e s m args below meth c0 H locs cells slots ls Q D cy A MC MS C R hl h1 h2 hr hx
  obtain ⟨L, hL, hP, hD, hS⟩ := id R
  have hpre : ∀ U : State, U.heap = H → s.WarmedH U.vm → va_Pc (as.map (tv cy)) (Pre D cy L H.size h) (as.map (tv cy)).toArray U := fun U hU hW => ⟨rfl, by rw [hU], by rw [hU]; exact hP, va_K.moved hW.alike C.2.2.2.2.2.1, hD.weaken (fun _ _ _ _ => trivial), Xw_warm hW C.2.2.2.2.2.2.2.1.1, by rw [hU]; exact Sw_pass hS.2.1 (A_sub hD hS C.2.2.2.2.2.2.1) hW C.2.2.2.2.2.2.2.1.2⟩
  have hst : ∀ w : List Sv, ((w.reverse ++ st).map (tv cy)) = (w.map (tv cy)).reverse ++ (st).map (tv cy) := fun w => by rw [List.map_append, List.map_reverse]
  have hroom : 2 * (F0 m pc ls []).monitorRoom + ((st.map (tv cy)).map fun v => v.category).sum ≤ 8 := by rw [cat_map]; show 2 * 0 + _ ≤ 8; omega
  obtain ⟨⟨w1, w2, w3, w4⟩, hdsc, hmax⟩ := hM
  rw [hst as]
  exact w_call (va_runS (As := as.map (tv cy)) (rest := st.map (tv cy)) ⟨C.1, C.2.1, C.2.2.1, C.2.2.2.1, C.2.2.2.2.1⟩ (con l D cy L H.size hL) ⟨callB_of n C.2.2.2.2.1 (gi_gtb (gi_wy w1)) rfl rfl rfl (C.2.2.2.2.1 _ w4) (C.2.2.2.2.1 _ w2) hdsc ⟨show d1 + 1 ≤ d by omega, show 8 + (Y1.2.2.1 + 11) + 40 * d1 ≤ 40 * d by omega⟩, C.2.2.2.2.1 _ w3⟩ ⟨pre_blind, hpre⟩ rfl (by rw [List.length_map]; exact hn) hl.1 rfl hroom hd ⟨show cells + mc1 ≤ MC by omega, show slots + ms1 ≤ MS by omega⟩) hS (A_sub hD hS C.2.2.2.2.2.2.1) (fun v u H1 locs1 hp hR1 => kk v u hp p l e s m args below meth c0 H1 locs1 (cells + mc1) (slots + ms1) ls Q D cy A MC MS C hR1 hl (by omega) (by omega) hr hx)
theorem j_callSN {ix n : Nat} {host : String} (hd : decode Y.2.1 pc = .ok (.invokestatic ix, 3)) (hM : SNL Y.1.cls ix host Y1 n) (con : Con Y1 d1 mc1 ms1 as h post1) (hn : as.length = n) (hdd : d1 < d) (hmc : mc1 ≤ mc) (hms : ms1 ≤ ms) (hs : (st.map ct).sum ≤ 8) (kk : ∀ (v : Option Sv) (u : Hp), post1 v u → J Y d (mc - mc1) (ms - ms1) post (pc + 3) lv (rs v st) u) : J Y d mc ms post pc lv (as.reverse ++ st) h := by
  intro p l e s m args below meth c0 H locs cells slots ls Q D cy A MC MS C R hl h1 h2 hr hx
  obtain ⟨L, hL, hP, hD, hS⟩ := id R
  have hpre : ∀ U : State, U.heap = H → s.WarmedH U.vm → va_Pc (as.map (tv cy)) (Pre D cy L H.size h) (as.map (tv cy)).toArray U := fun U hU hW => ⟨rfl, by rw [hU], by rw [hU]; exact hP, va_K.moved hW.alike C.2.2.2.2.2.1, hD.weaken (fun _ _ _ _ => trivial), Xw_warm hW C.2.2.2.2.2.2.2.1.1, by rw [hU]; exact Sw_pass hS.2.1 (A_sub hD hS C.2.2.2.2.2.2.1) hW C.2.2.2.2.2.2.2.1.2⟩
  have hst : ∀ w : List Sv, ((w.reverse ++ st).map (tv cy)) = (w.map (tv cy)).reverse ++ (st).map (tv cy) := fun w => by rw [List.map_append, List.map_reverse]
  have hroom : 2 * (F0 m pc ls []).monitorRoom + ((st.map (tv cy)).map fun v => v.category).sum ≤ 8 := by rw [cat_map]; show 2 * 0 + _ ≤ 8; omega
  obtain ⟨⟨w1, w2, w3, w4⟩, hdsc, hmax⟩ := hM
  rw [hst as]
  exact w_call (va_runSN (As := as.map (tv cy)) (rest := st.map (tv cy)) ⟨C.1, C.2.1, C.2.2.1, C.2.2.2.1, C.2.2.2.2.1⟩ (con l D cy L H.size hL) ⟨va_cnB n C.2.2.2.2.1 (gi_gtb (gi_wy w1)) rfl rfl rfl (C.2.2.2.2.2.2.2.1.1 _ w2 rfl) (C.2.2.2.2.1 _ w4) hdsc ⟨show d1 + 1 ≤ d by omega, show 8 + (Y1.2.2.1 + 11) + 40 * d1 ≤ 40 * d by omega⟩, C.2.2.2.2.1 _ w3, trivial⟩ ⟨pre_blind, hpre⟩ rfl (by rw [List.length_map]; exact hn) hl.1 rfl hroom hd ⟨show cells + mc1 ≤ MC by omega, show slots + ms1 ≤ MS by omega⟩) hS (A_sub hD hS C.2.2.2.2.2.2.1) (fun v u H1 locs1 hp hR1 => kk v u hp p l e s m args below meth c0 H1 locs1 (cells + mc1) (slots + ms1) ls Q D cy A MC MS C hR1 hl (by omega) (by omega) hr hx)
theorem j_callI {ix n a : Nat} (hd : decode Y.2.1 pc = .ok (.invokespecial ix, 3)) (hM : IL Y.1.cls ix Y1 n) (con : Con Y1 d1 mc1 ms1 (vr (some a) :: as) h post1) (hn : as.length = n) (hdd : d1 < d) (hmc : mc1 ≤ mc) (hms : ms1 ≤ ms) (hs : (st.map ct).sum ≤ 8) (kk : ∀ (v : Option Sv) (u : Hp), post1 v u → J Y d (mc - mc1) (ms - ms1) post (pc + 3) lv (rs v st) u) : J Y d mc ms post pc lv (as.reverse ++ vr (some a) :: st) h := by
  intro p l e s m args below meth c0 H locs cells slots ls Q D cy A MC MS C R hl h1 h2 hr hx
  obtain ⟨L, hL, hP, hD, hS⟩ := id R
  have hpre : ∀ U : State, U.heap = H → s.WarmedH U.vm → va_Pc ((vr (some a) :: as).map (tv cy)) (Pre D cy L H.size h) ((vr (some a) :: as).map (tv cy)).toArray U := fun U hU hW => ⟨rfl, by rw [hU], by rw [hU]; exact hP, va_K.moved hW.alike C.2.2.2.2.2.1, hD.weaken (fun _ _ _ _ => trivial), Xw_warm hW C.2.2.2.2.2.2.2.1.1, by rw [hU]; exact Sw_pass hS.2.1 (A_sub hD hS C.2.2.2.2.2.2.1) hW C.2.2.2.2.2.2.2.1.2⟩
  have hst : ∀ w : List Sv, ((w.reverse ++ (vr (some a) :: st)).map (tv cy)) = (w.map (tv cy)).reverse ++ ((vr (some a) :: st)).map (tv cy) := fun w => by rw [List.map_append, List.map_reverse]
  have hroom : 2 * (F0 m pc ls []).monitorRoom + ((st.map (tv cy)).map fun v => v.category).sum ≤ 8 := by rw [cat_map]; show 2 * 0 + _ ≤ 8; omega
  obtain ⟨⟨w1, w2, w3, w4⟩, hret, hnm, hdsc, hmax⟩ := hM
  rw [hst as]
  exact w_call (va_runI (As := as.map (tv cy)) (rest := st.map (tv cy)) (bytes := Y1.2.1) (maxL := Y1.2.2.1) ⟨C.1, C.2.1, C.2.2.1, C.2.2.2.1, C.2.2.2.2.1⟩ (con l D cy L H.size hL) (cwI n C.2.2.2.2.1 (gi_gtb (gi_wy (by rw [hret]; exact w1))) (by rw [wy, hret]) rfl rfl (C.2.2.2.2.1 _ w4) (C.2.2.2.2.1 _ w2) (C.2.2.2.2.1 _ w3) hnm hdsc ⟨show d1 + 1 ≤ d by omega, show 8 + (Y1.2.2.1 + 11) + 40 * d1 ≤ 40 * d by omega⟩) ⟨pre_blind, hpre⟩ rfl (by rw [List.length_map]; exact hn) hl.1 rfl hroom hd ⟨show cells + mc1 ≤ MC by omega, show slots + ms1 ≤ MS by omega⟩) hS (A_sub hD hS C.2.2.2.2.2.2.1) (fun v u H1 locs1 hp hR1 => kk v u hp p l e s m args below meth c0 H1 locs1 (cells + mc1) (slots + ms1) ls Q D cy A MC MS C hR1 hl (by omega) (by omega) hr hx)
theorem j_callIN {ix n a : Nat} {host : String} (hd : decode Y.2.1 pc = .ok (.invokespecial ix, 3)) (hM : INL Y.1.cls ix host Y1 n) (con : Con Y1 d1 mc1 ms1 (vr (some a) :: as) h post1) (hn : as.length = n) (hdd : d1 < d) (hmc : mc1 ≤ mc) (hms : ms1 ≤ ms) (hs : (st.map ct).sum ≤ 8) (kk : ∀ (v : Option Sv) (u : Hp), post1 v u → J Y d (mc - mc1) (ms - ms1) post (pc + 3) lv (rs v st) u) : J Y d mc ms post pc lv (as.reverse ++ vr (some a) :: st) h := by
  intro p l e s m args below meth c0 H locs cells slots ls Q D cy A MC MS C R hl h1 h2 hr hx
  obtain ⟨L, hL, hP, hD, hS⟩ := id R
  have hpre : ∀ U : State, U.heap = H → s.WarmedH U.vm → va_Pc ((vr (some a) :: as).map (tv cy)) (Pre D cy L H.size h) ((vr (some a) :: as).map (tv cy)).toArray U := fun U hU hW => ⟨rfl, by rw [hU], by rw [hU]; exact hP, va_K.moved hW.alike C.2.2.2.2.2.1, hD.weaken (fun _ _ _ _ => trivial), Xw_warm hW C.2.2.2.2.2.2.2.1.1, by rw [hU]; exact Sw_pass hS.2.1 (A_sub hD hS C.2.2.2.2.2.2.1) hW C.2.2.2.2.2.2.2.1.2⟩
  have hst : ∀ w : List Sv, ((w.reverse ++ (vr (some a) :: st)).map (tv cy)) = (w.map (tv cy)).reverse ++ ((vr (some a) :: st)).map (tv cy) := fun w => by rw [List.map_append, List.map_reverse]
  have hroom : 2 * (F0 m pc ls []).monitorRoom + ((st.map (tv cy)).map fun v => v.category).sum ≤ 8 := by rw [cat_map]; show 2 * 0 + _ ≤ 8; omega
  obtain ⟨⟨w1, w2, w3, w4⟩, hret, hnm, hdsc, hmax⟩ := hM
  rw [hst as]
  exact w_call (va_runIN (As := as.map (tv cy)) (rest := st.map (tv cy)) (bytes := Y1.2.1) (maxL := Y1.2.2.1) ⟨C.1, C.2.1, C.2.2.1, C.2.2.2.1, C.2.2.2.2.1⟩ (con l D cy L H.size hL) ⟨va_cnB n C.2.2.2.2.1 (gi_gtb (gi_wy (by rw [hret]; exact w1))) (by rw [wy, hret]) rfl rfl (C.2.2.2.2.2.2.2.1.1 _ w2 rfl) (C.2.2.2.2.1 _ w4) hdsc ⟨show d1 + 1 ≤ d by omega, show 8 + (Y1.2.2.1 + 11) + 40 * d1 ≤ 40 * d by omega⟩, hnm, C.2.2.2.2.1 _ w3⟩ ⟨pre_blind, hpre⟩ rfl (by rw [List.length_map]; exact hn) hl.1 rfl hroom hd ⟨show cells + mc1 ≤ MC by omega, show slots + ms1 ≤ MS by omega⟩) hS (A_sub hD hS C.2.2.2.2.2.2.1) (fun v u H1 locs1 hp hR1 => kk v u hp p l e s m args below meth c0 H1 locs1 (cells + mc1) (slots + ms1) ls Q D cy A MC MS C hR1 hl (by omega) (by omega) hr hx)
theorem j_callV0 {ix c n a : Nat} (hd : decode Y.2.1 pc = .ok (.invokevirtual ix, 3)) (hM : VL Y.1.cls ix c Y1 n) (con : Con Y1 d1 mc1 ms1 (vr (some a) :: []) h post1) (hk : hK h a = c + 1) (hn : 0 = n) (hdd : d1 < d) (hmc : mc1 ≤ mc) (hms : ms1 ≤ ms) (hs : (st.map ct).sum ≤ 8) (kk : ∀ (v : Option Sv) (u : Hp), post1 v u → J Y d (mc - mc1) (ms - ms1) post (pc + 3) lv (rs v st) u) : J Y d mc ms post pc lv (vr (some a) :: st) h := j_callV (as := []) hd hM con hk hn hdd hmc hms hs kk
theorem j_callV1 {ix c n a : Nat} {v1 : Sv} (hd : decode Y.2.1 pc = .ok (.invokevirtual ix, 3)) (hM : VL Y.1.cls ix c Y1 n) (con : Con Y1 d1 mc1 ms1 (vr (some a) :: [v1]) h post1) (hk : hK h a = c + 1) (hn : 1 = n) (hdd : d1 < d) (hmc : mc1 ≤ mc) (hms : ms1 ≤ ms) (hs : (st.map ct).sum ≤ 8) (kk : ∀ (v : Option Sv) (u : Hp), post1 v u → J Y d (mc - mc1) (ms - ms1) post (pc + 3) lv (rs v st) u) : J Y d mc ms post pc lv (v1 :: vr (some a) :: st) h := j_callV (as := [v1]) hd hM con hk hn hdd hmc hms hs kk
theorem j_callV2 {ix c n a : Nat} {v1 v2 : Sv} (hd : decode Y.2.1 pc = .ok (.invokevirtual ix, 3)) (hM : VL Y.1.cls ix c Y1 n) (con : Con Y1 d1 mc1 ms1 (vr (some a) :: [v1, v2]) h post1) (hk : hK h a = c + 1) (hn : 2 = n) (hdd : d1 < d) (hmc : mc1 ≤ mc) (hms : ms1 ≤ ms) (hs : (st.map ct).sum ≤ 8) (kk : ∀ (v : Option Sv) (u : Hp), post1 v u → J Y d (mc - mc1) (ms - ms1) post (pc + 3) lv (rs v st) u) : J Y d mc ms post pc lv (v2 :: v1 :: vr (some a) :: st) h := j_callV (as := [v1, v2]) hd hM con hk hn hdd hmc hms hs kk
theorem j_callV3 {ix c n a : Nat} {v1 v2 v3 : Sv} (hd : decode Y.2.1 pc = .ok (.invokevirtual ix, 3)) (hM : VL Y.1.cls ix c Y1 n) (con : Con Y1 d1 mc1 ms1 (vr (some a) :: [v1, v2, v3]) h post1) (hk : hK h a = c + 1) (hn : 3 = n) (hdd : d1 < d) (hmc : mc1 ≤ mc) (hms : ms1 ≤ ms) (hs : (st.map ct).sum ≤ 8) (kk : ∀ (v : Option Sv) (u : Hp), post1 v u → J Y d (mc - mc1) (ms - ms1) post (pc + 3) lv (rs v st) u) : J Y d mc ms post pc lv (v3 :: v2 :: v1 :: vr (some a) :: st) h := j_callV (as := [v1, v2, v3]) hd hM con hk hn hdd hmc hms hs kk
theorem j_callV4 {ix c n a : Nat} {v1 v2 v3 v4 : Sv} (hd : decode Y.2.1 pc = .ok (.invokevirtual ix, 3)) (hM : VL Y.1.cls ix c Y1 n) (con : Con Y1 d1 mc1 ms1 (vr (some a) :: [v1, v2, v3, v4]) h post1) (hk : hK h a = c + 1) (hn : 4 = n) (hdd : d1 < d) (hmc : mc1 ≤ mc) (hms : ms1 ≤ ms) (hs : (st.map ct).sum ≤ 8) (kk : ∀ (v : Option Sv) (u : Hp), post1 v u → J Y d (mc - mc1) (ms - ms1) post (pc + 3) lv (rs v st) u) : J Y d mc ms post pc lv (v4 :: v3 :: v2 :: v1 :: vr (some a) :: st) h := j_callV (as := [v1, v2, v3, v4]) hd hM con hk hn hdd hmc hms hs kk
theorem j_callV5 {ix c n a : Nat} {v1 v2 v3 v4 v5 : Sv} (hd : decode Y.2.1 pc = .ok (.invokevirtual ix, 3)) (hM : VL Y.1.cls ix c Y1 n) (con : Con Y1 d1 mc1 ms1 (vr (some a) :: [v1, v2, v3, v4, v5]) h post1) (hk : hK h a = c + 1) (hn : 5 = n) (hdd : d1 < d) (hmc : mc1 ≤ mc) (hms : ms1 ≤ ms) (hs : (st.map ct).sum ≤ 8) (kk : ∀ (v : Option Sv) (u : Hp), post1 v u → J Y d (mc - mc1) (ms - ms1) post (pc + 3) lv (rs v st) u) : J Y d mc ms post pc lv (v5 :: v4 :: v3 :: v2 :: v1 :: vr (some a) :: st) h := j_callV (as := [v1, v2, v3, v4, v5]) hd hM con hk hn hdd hmc hms hs kk
theorem j_callV6 {ix c n a : Nat} {v1 v2 v3 v4 v5 v6 : Sv} (hd : decode Y.2.1 pc = .ok (.invokevirtual ix, 3)) (hM : VL Y.1.cls ix c Y1 n) (con : Con Y1 d1 mc1 ms1 (vr (some a) :: [v1, v2, v3, v4, v5, v6]) h post1) (hk : hK h a = c + 1) (hn : 6 = n) (hdd : d1 < d) (hmc : mc1 ≤ mc) (hms : ms1 ≤ ms) (hs : (st.map ct).sum ≤ 8) (kk : ∀ (v : Option Sv) (u : Hp), post1 v u → J Y d (mc - mc1) (ms - ms1) post (pc + 3) lv (rs v st) u) : J Y d mc ms post pc lv (v6 :: v5 :: v4 :: v3 :: v2 :: v1 :: vr (some a) :: st) h := j_callV (as := [v1, v2, v3, v4, v5, v6]) hd hM con hk hn hdd hmc hms hs kk
theorem j_callV7 {ix c n a : Nat} {v1 v2 v3 v4 v5 v6 v7 : Sv} (hd : decode Y.2.1 pc = .ok (.invokevirtual ix, 3)) (hM : VL Y.1.cls ix c Y1 n) (con : Con Y1 d1 mc1 ms1 (vr (some a) :: [v1, v2, v3, v4, v5, v6, v7]) h post1) (hk : hK h a = c + 1) (hn : 7 = n) (hdd : d1 < d) (hmc : mc1 ≤ mc) (hms : ms1 ≤ ms) (hs : (st.map ct).sum ≤ 8) (kk : ∀ (v : Option Sv) (u : Hp), post1 v u → J Y d (mc - mc1) (ms - ms1) post (pc + 3) lv (rs v st) u) : J Y d mc ms post pc lv (v7 :: v6 :: v5 :: v4 :: v3 :: v2 :: v1 :: vr (some a) :: st) h := j_callV (as := [v1, v2, v3, v4, v5, v6, v7]) hd hM con hk hn hdd hmc hms hs kk
theorem j_callS0 {ix n : Nat} (hd : decode Y.2.1 pc = .ok (.invokestatic ix, 3)) (hM : SL Y.1.cls ix Y1 n) (con : Con Y1 d1 mc1 ms1 [] h post1) (hn : 0 = n) (hdd : d1 < d) (hmc : mc1 ≤ mc) (hms : ms1 ≤ ms) (hs : (st.map ct).sum ≤ 8) (kk : ∀ (v : Option Sv) (u : Hp), post1 v u → J Y d (mc - mc1) (ms - ms1) post (pc + 3) lv (rs v st) u) : J Y d mc ms post pc lv (st) h := j_callS (as := []) hd hM con hn hdd hmc hms hs kk
theorem j_callS1 {ix n : Nat} {v1 : Sv} (hd : decode Y.2.1 pc = .ok (.invokestatic ix, 3)) (hM : SL Y.1.cls ix Y1 n) (con : Con Y1 d1 mc1 ms1 [v1] h post1) (hn : 1 = n) (hdd : d1 < d) (hmc : mc1 ≤ mc) (hms : ms1 ≤ ms) (hs : (st.map ct).sum ≤ 8) (kk : ∀ (v : Option Sv) (u : Hp), post1 v u → J Y d (mc - mc1) (ms - ms1) post (pc + 3) lv (rs v st) u) : J Y d mc ms post pc lv (v1 :: st) h := j_callS (as := [v1]) hd hM con hn hdd hmc hms hs kk
theorem j_callS2 {ix n : Nat} {v1 v2 : Sv} (hd : decode Y.2.1 pc = .ok (.invokestatic ix, 3)) (hM : SL Y.1.cls ix Y1 n) (con : Con Y1 d1 mc1 ms1 [v1, v2] h post1) (hn : 2 = n) (hdd : d1 < d) (hmc : mc1 ≤ mc) (hms : ms1 ≤ ms) (hs : (st.map ct).sum ≤ 8) (kk : ∀ (v : Option Sv) (u : Hp), post1 v u → J Y d (mc - mc1) (ms - ms1) post (pc + 3) lv (rs v st) u) : J Y d mc ms post pc lv (v2 :: v1 :: st) h := j_callS (as := [v1, v2]) hd hM con hn hdd hmc hms hs kk
theorem j_callS3 {ix n : Nat} {v1 v2 v3 : Sv} (hd : decode Y.2.1 pc = .ok (.invokestatic ix, 3)) (hM : SL Y.1.cls ix Y1 n) (con : Con Y1 d1 mc1 ms1 [v1, v2, v3] h post1) (hn : 3 = n) (hdd : d1 < d) (hmc : mc1 ≤ mc) (hms : ms1 ≤ ms) (hs : (st.map ct).sum ≤ 8) (kk : ∀ (v : Option Sv) (u : Hp), post1 v u → J Y d (mc - mc1) (ms - ms1) post (pc + 3) lv (rs v st) u) : J Y d mc ms post pc lv (v3 :: v2 :: v1 :: st) h := j_callS (as := [v1, v2, v3]) hd hM con hn hdd hmc hms hs kk
theorem j_callS4 {ix n : Nat} {v1 v2 v3 v4 : Sv} (hd : decode Y.2.1 pc = .ok (.invokestatic ix, 3)) (hM : SL Y.1.cls ix Y1 n) (con : Con Y1 d1 mc1 ms1 [v1, v2, v3, v4] h post1) (hn : 4 = n) (hdd : d1 < d) (hmc : mc1 ≤ mc) (hms : ms1 ≤ ms) (hs : (st.map ct).sum ≤ 8) (kk : ∀ (v : Option Sv) (u : Hp), post1 v u → J Y d (mc - mc1) (ms - ms1) post (pc + 3) lv (rs v st) u) : J Y d mc ms post pc lv (v4 :: v3 :: v2 :: v1 :: st) h := j_callS (as := [v1, v2, v3, v4]) hd hM con hn hdd hmc hms hs kk
theorem j_callS5 {ix n : Nat} {v1 v2 v3 v4 v5 : Sv} (hd : decode Y.2.1 pc = .ok (.invokestatic ix, 3)) (hM : SL Y.1.cls ix Y1 n) (con : Con Y1 d1 mc1 ms1 [v1, v2, v3, v4, v5] h post1) (hn : 5 = n) (hdd : d1 < d) (hmc : mc1 ≤ mc) (hms : ms1 ≤ ms) (hs : (st.map ct).sum ≤ 8) (kk : ∀ (v : Option Sv) (u : Hp), post1 v u → J Y d (mc - mc1) (ms - ms1) post (pc + 3) lv (rs v st) u) : J Y d mc ms post pc lv (v5 :: v4 :: v3 :: v2 :: v1 :: st) h := j_callS (as := [v1, v2, v3, v4, v5]) hd hM con hn hdd hmc hms hs kk
theorem j_callS6 {ix n : Nat} {v1 v2 v3 v4 v5 v6 : Sv} (hd : decode Y.2.1 pc = .ok (.invokestatic ix, 3)) (hM : SL Y.1.cls ix Y1 n) (con : Con Y1 d1 mc1 ms1 [v1, v2, v3, v4, v5, v6] h post1) (hn : 6 = n) (hdd : d1 < d) (hmc : mc1 ≤ mc) (hms : ms1 ≤ ms) (hs : (st.map ct).sum ≤ 8) (kk : ∀ (v : Option Sv) (u : Hp), post1 v u → J Y d (mc - mc1) (ms - ms1) post (pc + 3) lv (rs v st) u) : J Y d mc ms post pc lv (v6 :: v5 :: v4 :: v3 :: v2 :: v1 :: st) h := j_callS (as := [v1, v2, v3, v4, v5, v6]) hd hM con hn hdd hmc hms hs kk
theorem j_callS7 {ix n : Nat} {v1 v2 v3 v4 v5 v6 v7 : Sv} (hd : decode Y.2.1 pc = .ok (.invokestatic ix, 3)) (hM : SL Y.1.cls ix Y1 n) (con : Con Y1 d1 mc1 ms1 [v1, v2, v3, v4, v5, v6, v7] h post1) (hn : 7 = n) (hdd : d1 < d) (hmc : mc1 ≤ mc) (hms : ms1 ≤ ms) (hs : (st.map ct).sum ≤ 8) (kk : ∀ (v : Option Sv) (u : Hp), post1 v u → J Y d (mc - mc1) (ms - ms1) post (pc + 3) lv (rs v st) u) : J Y d mc ms post pc lv (v7 :: v6 :: v5 :: v4 :: v3 :: v2 :: v1 :: st) h := j_callS (as := [v1, v2, v3, v4, v5, v6, v7]) hd hM con hn hdd hmc hms hs kk
theorem j_callSN0 {ix n : Nat} {host : String} (hd : decode Y.2.1 pc = .ok (.invokestatic ix, 3)) (hM : SNL Y.1.cls ix host Y1 n) (con : Con Y1 d1 mc1 ms1 [] h post1) (hn : 0 = n) (hdd : d1 < d) (hmc : mc1 ≤ mc) (hms : ms1 ≤ ms) (hs : (st.map ct).sum ≤ 8) (kk : ∀ (v : Option Sv) (u : Hp), post1 v u → J Y d (mc - mc1) (ms - ms1) post (pc + 3) lv (rs v st) u) : J Y d mc ms post pc lv (st) h := j_callSN (as := []) hd hM con hn hdd hmc hms hs kk
theorem j_callSN1 {ix n : Nat} {host : String} {v1 : Sv} (hd : decode Y.2.1 pc = .ok (.invokestatic ix, 3)) (hM : SNL Y.1.cls ix host Y1 n) (con : Con Y1 d1 mc1 ms1 [v1] h post1) (hn : 1 = n) (hdd : d1 < d) (hmc : mc1 ≤ mc) (hms : ms1 ≤ ms) (hs : (st.map ct).sum ≤ 8) (kk : ∀ (v : Option Sv) (u : Hp), post1 v u → J Y d (mc - mc1) (ms - ms1) post (pc + 3) lv (rs v st) u) : J Y d mc ms post pc lv (v1 :: st) h := j_callSN (as := [v1]) hd hM con hn hdd hmc hms hs kk
theorem j_callSN2 {ix n : Nat} {host : String} {v1 v2 : Sv} (hd : decode Y.2.1 pc = .ok (.invokestatic ix, 3)) (hM : SNL Y.1.cls ix host Y1 n) (con : Con Y1 d1 mc1 ms1 [v1, v2] h post1) (hn : 2 = n) (hdd : d1 < d) (hmc : mc1 ≤ mc) (hms : ms1 ≤ ms) (hs : (st.map ct).sum ≤ 8) (kk : ∀ (v : Option Sv) (u : Hp), post1 v u → J Y d (mc - mc1) (ms - ms1) post (pc + 3) lv (rs v st) u) : J Y d mc ms post pc lv (v2 :: v1 :: st) h := j_callSN (as := [v1, v2]) hd hM con hn hdd hmc hms hs kk
theorem j_callSN3 {ix n : Nat} {host : String} {v1 v2 v3 : Sv} (hd : decode Y.2.1 pc = .ok (.invokestatic ix, 3)) (hM : SNL Y.1.cls ix host Y1 n) (con : Con Y1 d1 mc1 ms1 [v1, v2, v3] h post1) (hn : 3 = n) (hdd : d1 < d) (hmc : mc1 ≤ mc) (hms : ms1 ≤ ms) (hs : (st.map ct).sum ≤ 8) (kk : ∀ (v : Option Sv) (u : Hp), post1 v u → J Y d (mc - mc1) (ms - ms1) post (pc + 3) lv (rs v st) u) : J Y d mc ms post pc lv (v3 :: v2 :: v1 :: st) h := j_callSN (as := [v1, v2, v3]) hd hM con hn hdd hmc hms hs kk
theorem j_callSN4 {ix n : Nat} {host : String} {v1 v2 v3 v4 : Sv} (hd : decode Y.2.1 pc = .ok (.invokestatic ix, 3)) (hM : SNL Y.1.cls ix host Y1 n) (con : Con Y1 d1 mc1 ms1 [v1, v2, v3, v4] h post1) (hn : 4 = n) (hdd : d1 < d) (hmc : mc1 ≤ mc) (hms : ms1 ≤ ms) (hs : (st.map ct).sum ≤ 8) (kk : ∀ (v : Option Sv) (u : Hp), post1 v u → J Y d (mc - mc1) (ms - ms1) post (pc + 3) lv (rs v st) u) : J Y d mc ms post pc lv (v4 :: v3 :: v2 :: v1 :: st) h := j_callSN (as := [v1, v2, v3, v4]) hd hM con hn hdd hmc hms hs kk
theorem j_callSN5 {ix n : Nat} {host : String} {v1 v2 v3 v4 v5 : Sv} (hd : decode Y.2.1 pc = .ok (.invokestatic ix, 3)) (hM : SNL Y.1.cls ix host Y1 n) (con : Con Y1 d1 mc1 ms1 [v1, v2, v3, v4, v5] h post1) (hn : 5 = n) (hdd : d1 < d) (hmc : mc1 ≤ mc) (hms : ms1 ≤ ms) (hs : (st.map ct).sum ≤ 8) (kk : ∀ (v : Option Sv) (u : Hp), post1 v u → J Y d (mc - mc1) (ms - ms1) post (pc + 3) lv (rs v st) u) : J Y d mc ms post pc lv (v5 :: v4 :: v3 :: v2 :: v1 :: st) h := j_callSN (as := [v1, v2, v3, v4, v5]) hd hM con hn hdd hmc hms hs kk
theorem j_callSN6 {ix n : Nat} {host : String} {v1 v2 v3 v4 v5 v6 : Sv} (hd : decode Y.2.1 pc = .ok (.invokestatic ix, 3)) (hM : SNL Y.1.cls ix host Y1 n) (con : Con Y1 d1 mc1 ms1 [v1, v2, v3, v4, v5, v6] h post1) (hn : 6 = n) (hdd : d1 < d) (hmc : mc1 ≤ mc) (hms : ms1 ≤ ms) (hs : (st.map ct).sum ≤ 8) (kk : ∀ (v : Option Sv) (u : Hp), post1 v u → J Y d (mc - mc1) (ms - ms1) post (pc + 3) lv (rs v st) u) : J Y d mc ms post pc lv (v6 :: v5 :: v4 :: v3 :: v2 :: v1 :: st) h := j_callSN (as := [v1, v2, v3, v4, v5, v6]) hd hM con hn hdd hmc hms hs kk
theorem j_callSN7 {ix n : Nat} {host : String} {v1 v2 v3 v4 v5 v6 v7 : Sv} (hd : decode Y.2.1 pc = .ok (.invokestatic ix, 3)) (hM : SNL Y.1.cls ix host Y1 n) (con : Con Y1 d1 mc1 ms1 [v1, v2, v3, v4, v5, v6, v7] h post1) (hn : 7 = n) (hdd : d1 < d) (hmc : mc1 ≤ mc) (hms : ms1 ≤ ms) (hs : (st.map ct).sum ≤ 8) (kk : ∀ (v : Option Sv) (u : Hp), post1 v u → J Y d (mc - mc1) (ms - ms1) post (pc + 3) lv (rs v st) u) : J Y d mc ms post pc lv (v7 :: v6 :: v5 :: v4 :: v3 :: v2 :: v1 :: st) h := j_callSN (as := [v1, v2, v3, v4, v5, v6, v7]) hd hM con hn hdd hmc hms hs kk
theorem j_callI0 {ix n a : Nat} (hd : decode Y.2.1 pc = .ok (.invokespecial ix, 3)) (hM : IL Y.1.cls ix Y1 n) (con : Con Y1 d1 mc1 ms1 (vr (some a) :: []) h post1) (hn : 0 = n) (hdd : d1 < d) (hmc : mc1 ≤ mc) (hms : ms1 ≤ ms) (hs : (st.map ct).sum ≤ 8) (kk : ∀ (v : Option Sv) (u : Hp), post1 v u → J Y d (mc - mc1) (ms - ms1) post (pc + 3) lv (rs v st) u) : J Y d mc ms post pc lv (vr (some a) :: st) h := j_callI (as := []) hd hM con hn hdd hmc hms hs kk
theorem j_callI1 {ix n a : Nat} {v1 : Sv} (hd : decode Y.2.1 pc = .ok (.invokespecial ix, 3)) (hM : IL Y.1.cls ix Y1 n) (con : Con Y1 d1 mc1 ms1 (vr (some a) :: [v1]) h post1) (hn : 1 = n) (hdd : d1 < d) (hmc : mc1 ≤ mc) (hms : ms1 ≤ ms) (hs : (st.map ct).sum ≤ 8) (kk : ∀ (v : Option Sv) (u : Hp), post1 v u → J Y d (mc - mc1) (ms - ms1) post (pc + 3) lv (rs v st) u) : J Y d mc ms post pc lv (v1 :: vr (some a) :: st) h := j_callI (as := [v1]) hd hM con hn hdd hmc hms hs kk
theorem j_callI2 {ix n a : Nat} {v1 v2 : Sv} (hd : decode Y.2.1 pc = .ok (.invokespecial ix, 3)) (hM : IL Y.1.cls ix Y1 n) (con : Con Y1 d1 mc1 ms1 (vr (some a) :: [v1, v2]) h post1) (hn : 2 = n) (hdd : d1 < d) (hmc : mc1 ≤ mc) (hms : ms1 ≤ ms) (hs : (st.map ct).sum ≤ 8) (kk : ∀ (v : Option Sv) (u : Hp), post1 v u → J Y d (mc - mc1) (ms - ms1) post (pc + 3) lv (rs v st) u) : J Y d mc ms post pc lv (v2 :: v1 :: vr (some a) :: st) h := j_callI (as := [v1, v2]) hd hM con hn hdd hmc hms hs kk
theorem j_callI3 {ix n a : Nat} {v1 v2 v3 : Sv} (hd : decode Y.2.1 pc = .ok (.invokespecial ix, 3)) (hM : IL Y.1.cls ix Y1 n) (con : Con Y1 d1 mc1 ms1 (vr (some a) :: [v1, v2, v3]) h post1) (hn : 3 = n) (hdd : d1 < d) (hmc : mc1 ≤ mc) (hms : ms1 ≤ ms) (hs : (st.map ct).sum ≤ 8) (kk : ∀ (v : Option Sv) (u : Hp), post1 v u → J Y d (mc - mc1) (ms - ms1) post (pc + 3) lv (rs v st) u) : J Y d mc ms post pc lv (v3 :: v2 :: v1 :: vr (some a) :: st) h := j_callI (as := [v1, v2, v3]) hd hM con hn hdd hmc hms hs kk
theorem j_callI4 {ix n a : Nat} {v1 v2 v3 v4 : Sv} (hd : decode Y.2.1 pc = .ok (.invokespecial ix, 3)) (hM : IL Y.1.cls ix Y1 n) (con : Con Y1 d1 mc1 ms1 (vr (some a) :: [v1, v2, v3, v4]) h post1) (hn : 4 = n) (hdd : d1 < d) (hmc : mc1 ≤ mc) (hms : ms1 ≤ ms) (hs : (st.map ct).sum ≤ 8) (kk : ∀ (v : Option Sv) (u : Hp), post1 v u → J Y d (mc - mc1) (ms - ms1) post (pc + 3) lv (rs v st) u) : J Y d mc ms post pc lv (v4 :: v3 :: v2 :: v1 :: vr (some a) :: st) h := j_callI (as := [v1, v2, v3, v4]) hd hM con hn hdd hmc hms hs kk
theorem j_callI5 {ix n a : Nat} {v1 v2 v3 v4 v5 : Sv} (hd : decode Y.2.1 pc = .ok (.invokespecial ix, 3)) (hM : IL Y.1.cls ix Y1 n) (con : Con Y1 d1 mc1 ms1 (vr (some a) :: [v1, v2, v3, v4, v5]) h post1) (hn : 5 = n) (hdd : d1 < d) (hmc : mc1 ≤ mc) (hms : ms1 ≤ ms) (hs : (st.map ct).sum ≤ 8) (kk : ∀ (v : Option Sv) (u : Hp), post1 v u → J Y d (mc - mc1) (ms - ms1) post (pc + 3) lv (rs v st) u) : J Y d mc ms post pc lv (v5 :: v4 :: v3 :: v2 :: v1 :: vr (some a) :: st) h := j_callI (as := [v1, v2, v3, v4, v5]) hd hM con hn hdd hmc hms hs kk
theorem j_callI6 {ix n a : Nat} {v1 v2 v3 v4 v5 v6 : Sv} (hd : decode Y.2.1 pc = .ok (.invokespecial ix, 3)) (hM : IL Y.1.cls ix Y1 n) (con : Con Y1 d1 mc1 ms1 (vr (some a) :: [v1, v2, v3, v4, v5, v6]) h post1) (hn : 6 = n) (hdd : d1 < d) (hmc : mc1 ≤ mc) (hms : ms1 ≤ ms) (hs : (st.map ct).sum ≤ 8) (kk : ∀ (v : Option Sv) (u : Hp), post1 v u → J Y d (mc - mc1) (ms - ms1) post (pc + 3) lv (rs v st) u) : J Y d mc ms post pc lv (v6 :: v5 :: v4 :: v3 :: v2 :: v1 :: vr (some a) :: st) h := j_callI (as := [v1, v2, v3, v4, v5, v6]) hd hM con hn hdd hmc hms hs kk
theorem j_callI7 {ix n a : Nat} {v1 v2 v3 v4 v5 v6 v7 : Sv} (hd : decode Y.2.1 pc = .ok (.invokespecial ix, 3)) (hM : IL Y.1.cls ix Y1 n) (con : Con Y1 d1 mc1 ms1 (vr (some a) :: [v1, v2, v3, v4, v5, v6, v7]) h post1) (hn : 7 = n) (hdd : d1 < d) (hmc : mc1 ≤ mc) (hms : ms1 ≤ ms) (hs : (st.map ct).sum ≤ 8) (kk : ∀ (v : Option Sv) (u : Hp), post1 v u → J Y d (mc - mc1) (ms - ms1) post (pc + 3) lv (rs v st) u) : J Y d mc ms post pc lv (v7 :: v6 :: v5 :: v4 :: v3 :: v2 :: v1 :: vr (some a) :: st) h := j_callI (as := [v1, v2, v3, v4, v5, v6, v7]) hd hM con hn hdd hmc hms hs kk
theorem j_callIN0 {ix n a : Nat} {host : String} (hd : decode Y.2.1 pc = .ok (.invokespecial ix, 3)) (hM : INL Y.1.cls ix host Y1 n) (con : Con Y1 d1 mc1 ms1 (vr (some a) :: []) h post1) (hn : 0 = n) (hdd : d1 < d) (hmc : mc1 ≤ mc) (hms : ms1 ≤ ms) (hs : (st.map ct).sum ≤ 8) (kk : ∀ (v : Option Sv) (u : Hp), post1 v u → J Y d (mc - mc1) (ms - ms1) post (pc + 3) lv (rs v st) u) : J Y d mc ms post pc lv (vr (some a) :: st) h := j_callIN (as := []) hd hM con hn hdd hmc hms hs kk
theorem j_callIN1 {ix n a : Nat} {host : String} {v1 : Sv} (hd : decode Y.2.1 pc = .ok (.invokespecial ix, 3)) (hM : INL Y.1.cls ix host Y1 n) (con : Con Y1 d1 mc1 ms1 (vr (some a) :: [v1]) h post1) (hn : 1 = n) (hdd : d1 < d) (hmc : mc1 ≤ mc) (hms : ms1 ≤ ms) (hs : (st.map ct).sum ≤ 8) (kk : ∀ (v : Option Sv) (u : Hp), post1 v u → J Y d (mc - mc1) (ms - ms1) post (pc + 3) lv (rs v st) u) : J Y d mc ms post pc lv (v1 :: vr (some a) :: st) h := j_callIN (as := [v1]) hd hM con hn hdd hmc hms hs kk
theorem j_callIN2 {ix n a : Nat} {host : String} {v1 v2 : Sv} (hd : decode Y.2.1 pc = .ok (.invokespecial ix, 3)) (hM : INL Y.1.cls ix host Y1 n) (con : Con Y1 d1 mc1 ms1 (vr (some a) :: [v1, v2]) h post1) (hn : 2 = n) (hdd : d1 < d) (hmc : mc1 ≤ mc) (hms : ms1 ≤ ms) (hs : (st.map ct).sum ≤ 8) (kk : ∀ (v : Option Sv) (u : Hp), post1 v u → J Y d (mc - mc1) (ms - ms1) post (pc + 3) lv (rs v st) u) : J Y d mc ms post pc lv (v2 :: v1 :: vr (some a) :: st) h := j_callIN (as := [v1, v2]) hd hM con hn hdd hmc hms hs kk
theorem j_callIN3 {ix n a : Nat} {host : String} {v1 v2 v3 : Sv} (hd : decode Y.2.1 pc = .ok (.invokespecial ix, 3)) (hM : INL Y.1.cls ix host Y1 n) (con : Con Y1 d1 mc1 ms1 (vr (some a) :: [v1, v2, v3]) h post1) (hn : 3 = n) (hdd : d1 < d) (hmc : mc1 ≤ mc) (hms : ms1 ≤ ms) (hs : (st.map ct).sum ≤ 8) (kk : ∀ (v : Option Sv) (u : Hp), post1 v u → J Y d (mc - mc1) (ms - ms1) post (pc + 3) lv (rs v st) u) : J Y d mc ms post pc lv (v3 :: v2 :: v1 :: vr (some a) :: st) h := j_callIN (as := [v1, v2, v3]) hd hM con hn hdd hmc hms hs kk
theorem j_callIN4 {ix n a : Nat} {host : String} {v1 v2 v3 v4 : Sv} (hd : decode Y.2.1 pc = .ok (.invokespecial ix, 3)) (hM : INL Y.1.cls ix host Y1 n) (con : Con Y1 d1 mc1 ms1 (vr (some a) :: [v1, v2, v3, v4]) h post1) (hn : 4 = n) (hdd : d1 < d) (hmc : mc1 ≤ mc) (hms : ms1 ≤ ms) (hs : (st.map ct).sum ≤ 8) (kk : ∀ (v : Option Sv) (u : Hp), post1 v u → J Y d (mc - mc1) (ms - ms1) post (pc + 3) lv (rs v st) u) : J Y d mc ms post pc lv (v4 :: v3 :: v2 :: v1 :: vr (some a) :: st) h := j_callIN (as := [v1, v2, v3, v4]) hd hM con hn hdd hmc hms hs kk
theorem j_callIN5 {ix n a : Nat} {host : String} {v1 v2 v3 v4 v5 : Sv} (hd : decode Y.2.1 pc = .ok (.invokespecial ix, 3)) (hM : INL Y.1.cls ix host Y1 n) (con : Con Y1 d1 mc1 ms1 (vr (some a) :: [v1, v2, v3, v4, v5]) h post1) (hn : 5 = n) (hdd : d1 < d) (hmc : mc1 ≤ mc) (hms : ms1 ≤ ms) (hs : (st.map ct).sum ≤ 8) (kk : ∀ (v : Option Sv) (u : Hp), post1 v u → J Y d (mc - mc1) (ms - ms1) post (pc + 3) lv (rs v st) u) : J Y d mc ms post pc lv (v5 :: v4 :: v3 :: v2 :: v1 :: vr (some a) :: st) h := j_callIN (as := [v1, v2, v3, v4, v5]) hd hM con hn hdd hmc hms hs kk
theorem j_callIN6 {ix n a : Nat} {host : String} {v1 v2 v3 v4 v5 v6 : Sv} (hd : decode Y.2.1 pc = .ok (.invokespecial ix, 3)) (hM : INL Y.1.cls ix host Y1 n) (con : Con Y1 d1 mc1 ms1 (vr (some a) :: [v1, v2, v3, v4, v5, v6]) h post1) (hn : 6 = n) (hdd : d1 < d) (hmc : mc1 ≤ mc) (hms : ms1 ≤ ms) (hs : (st.map ct).sum ≤ 8) (kk : ∀ (v : Option Sv) (u : Hp), post1 v u → J Y d (mc - mc1) (ms - ms1) post (pc + 3) lv (rs v st) u) : J Y d mc ms post pc lv (v6 :: v5 :: v4 :: v3 :: v2 :: v1 :: vr (some a) :: st) h := j_callIN (as := [v1, v2, v3, v4, v5, v6]) hd hM con hn hdd hmc hms hs kk
theorem j_callIN7 {ix n a : Nat} {host : String} {v1 v2 v3 v4 v5 v6 v7 : Sv} (hd : decode Y.2.1 pc = .ok (.invokespecial ix, 3)) (hM : INL Y.1.cls ix host Y1 n) (con : Con Y1 d1 mc1 ms1 (vr (some a) :: [v1, v2, v3, v4, v5, v6, v7]) h post1) (hn : 7 = n) (hdd : d1 < d) (hmc : mc1 ≤ mc) (hms : ms1 ≤ ms) (hs : (st.map ct).sum ≤ 8) (kk : ∀ (v : Option Sv) (u : Hp), post1 v u → J Y d (mc - mc1) (ms - ms1) post (pc + 3) lv (rs v st) u) : J Y d mc ms post pc lv (v7 :: v6 :: v5 :: v4 :: v3 :: v2 :: v1 :: vr (some a) :: st) h := j_callIN (as := [v1, v2, v3, v4, v5, v6, v7]) hd hM con hn hdd hmc hms hs kk
end JK
