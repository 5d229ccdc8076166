def PreT (D : va_G) (cy : Nat → ClassId) (L : List Nat) (sz : Nat) (h : Hp) : State → Prop := fun U => Pre D cy L sz h U ∧ Zt (va_A (va_pl L (ce cy h)) sz) U U.heap
def XCx (D : va_G) (cy : Nat → ClassId) (A : Nat → Prop) (px : String → Hp → Prop) : String → State → State → Prop := fun E st t => ∃ u : Hp, px E u ∧ (∃ L' : List Nat, Lk L' u ∧ va_P D vwCl (va_pl L' (ce cy u)) t.heap ∧ va_D A (va_pl L' (ce cy u))) ∧ va_F A st t
def ConX (Y : MI) (d mc ms : Nat) (as : List Sv) (h : Hp) (post : Option Sv ⊕ String → Hp → Prop) : Prop := ∀ (l : Launch) (D : va_G) (cy : Nat → ClassId) (L : List Nat) (sz : Nat), l.stackTraces = false → Lk L h → vx_Met l Y.1 (wy Y) (rmm d mc ms) (va_Pc (as.map (tv cy)) (PreT D cy L sz h)) (Qx D cy (va_A (va_pl L (ce cy h)) sz) (fun v u => post (.inl v) u)) (XCx D cy (va_A (va_pl L (ce cy h)) sz) (fun E u => post (.inr E) u)) mc ms (va_A (va_pl L (ce cy h)) sz)
theorem con_ofX {Y : MI} {d mc ms : Nat} {as : List Sv} {h : Hp} {post : Option Sv ⊕ String → Hp → Prop} (hy : plainName Y.1.cls = true) (hn : (lva as).length ≤ Y.2.2.1) (hnl : Y.1.cls ≠ RL) (hd6 : 6 ≤ d) (k : J Y d mc ms post 0 (lv0 Y.2.2.1 as) [] h) : ConX Y d mc ms as h post := by
  intro l D cy L sz hl0 hL
  refine vx_ofW (cc := Y.2.1) (maxL := Y.2.2.1) (ret := Y.2.2.2) hy rfl ?_
  intro p e s m args below meth c s₁ B hml htab hv
  obtain ⟨rfl, ⟨hsz, hP, hK, hD0, hX, hSw⟩, hZ⟩ := hv
  have hts := atoms_spec (ws := wy Y) B.pre
  subst hsz
  have hD := hD0.self (sz := s.heap.size)
  generalize hAe : va_A (va_pl L (ce cy h)) s.heap.size = A at hD hZ hSw ⊢
  have hA : ∀ q : Nat, s.heap.size ≤ q → A q := fun q h => by rw [← hAe]; exact Or.inr h
  have hlv := lv_entry (as.map (tv cy)) (n := Y.2.2.1) (by rw [lva_len]; exact hn)
  rw [lg_entry_eq]
  generalize (lg_sl (as.map (tv cy)) ++ List.replicate (Y.2.2.1 - (lg_sl (as.map (tv cy))).length) Slot.unset).toArray = ls at hlv ⊢
  have htb : ∀ w ∈ gtb, w.before (as.map (tv cy)).toArray s = true := fun w hw => hts w (List.mem_cons_of_mem _ hw)
  have hown : s.vm.findClass Y.1.cls = some m.cls := findClass_of_methodNamed B.named
  refine k p l e s m _ below meth c s.heap [] 0 0 ls _ D cy A mc ms ⟨B.exec, B.bytes, hml, hown, htb, hK, hA, ⟨hX, hSw⟩, (name_of_methodNamed B.named B.method).1, by rw [tbl, if_neg hnl, Array.isEmpty_iff.mp (BodyLoose.noHandlers B (hts _ List.mem_cons_self))]; rfl, fun q => absurd q hnl⟩ ⟨L, hL, hP, hD, va_S.rf⟩ (lv0_has hn hlv) (by omega) (by omega) ?_ ?_
  · intro v u H1 locs1 c1 s1 ls1 pc1 hp hR h1 h2 hrt
    obtain ⟨L', g1, g2, g3, g4⟩ := hR
    refine vx_ret (W.widen (k := mc) (n := ms) h1 h2 ?_)
    have hq : ∀ t : State, t.heap = H1 → s.WarmedH t.vm → Qx D cy A (fun v u => post (.inl v) u) (as.map (tv cy)).toArray s (.returned (v.map (tv cy))) t := fun t ht _ => ⟨⟨v, u, rfl, hp, L', g1, by rw [ht]; exact g2, g3⟩, g4.F ht⟩
    have hR9 := B.returns
    rcases v with _ | x | x | x | x
    · exact W.vret B.exec B.bytes (hR9.trans hrt.2) hq g4.2.2 hrt.1 (hlocks := B.notSynchronized)
    · obtain ⟨r1, ty, r2, r3⟩ := hrt
      exact W.zret B.exec B.bytes (hR9.trans r2) r3 hq g4.2.2 r1 (hlocks := B.notSynchronized)
    · exact W.lret B.exec B.bytes (hR9.trans hrt.2) hq g4.2.2 hrt.1 (hlocks := B.notSynchronized)
    · obtain ⟨r1, rt, r2, r3⟩ := hrt
      exact W.aret B.exec B.bytes (hR9.trans r2) r3 (by cases x <;> simp [tv, va_rf]) hq g4.2.2 r1 (hlocks := B.notSynchronized)
    · obtain ⟨r1, rt, r2, r3⟩ := hrt
      exact W.aret B.exec B.bytes (hR9.trans r2) r3 (by simp [tv]) hq g4.2.2 r1 (hlocks := B.notSynchronized)
  · intro E u H1 locs1 c1 s1 ls1 pc1 st1 hp hR hls h1 h2 hth hst
    obtain ⟨L', g1, g2, g3, g4⟩ := hR
    obtain ⟨ik, ic, hin, d0, d3, d4, d7⟩ := hth
    have hall : ∀ w ∈ thw (Y.1.cls, ik, ic, E), w.before (as.map (tv cy)).toArray s = true := fun w hw => by
      have w1 := thl_in _ hin w hw
      have w2 := ((thl_ok _ hin).1 w hw).1
      rw [Bool.or_eq_true] at w2
      rcases w2 with w2 | w2
      · exact htb w (gtb_in w1 w2)
      · have w3 := hX w w1 w2
        cases w with
        | methodLinkNest a b c d => exact va_Nw.use rfl w3
        | fieldLinkNest a b c d e f => exact va_Nw.use rfl w3
        | castable a b => exact va_Nw.use rfl w3
        | declares a => exact va_Nw.use rfl w3
        | arrayOver t =>
          cases t with
          | object C => exact va_AO.use w3
          | _ => cases w2
        | _ => cases w2
    refine vx_throw0 (names := exn) B.exec B.bytes hl0 hown (thl_ok _ hin).2 exn_ok (hall _ List.mem_cons_self) (hall _ (List.mem_cons_of_mem _ List.mem_cons_self)) (fun w hw => hall w (List.mem_cons_of_mem _ (List.mem_cons_of_mem _ hw))) (fun w hw => ((thl_ok _ hin).1 w hw).2) hZ.1 hZ.2.1 g4 (by rw [hml]; exact hls) d0 d3 d4 d7 (fun x hx => (htab x hx).elim) (show 2 + 3 < d by omega) ?_ (show c1 + 1 ≤ mc by omega) (show s1 + 6 ≤ ms by omega) B.notSynchronized ?_ g4.2.2 h1 h2
    · rw [cat_map]; show _ + (13 * (2 + 1) + 42) ≤ 40 * d; omega
    · intro t hal hsz hsame
      have hkept : va_P D vwCl (va_pl L' (ce cy u)) t.heap := g2.kept (fun k q hk => hsame q.1 (vx_lt g2 hk))
      exact ⟨u, hp, ⟨L', g1, hkept, g3⟩, ⟨Nat.le_trans g4.1 hsz, fun q hq hnq => by rw [hsame q (Nat.lt_of_lt_of_le hq g4.1)]; exact g4.2.1 q hq hnq⟩⟩
/-! ===== caught in the law's helpers ===== -/
section JX
variable {p : Program} {l : Launch} {e : Env} {R : Room} {s : State} {m : MethodId} {args : Array Value} {below : List Frame} {meth : Method} {c : Code} {H : Heap} {locs : List Loc} {cells slots : Nat} {Q : State → Prop}
theorem catch_ok {pc hpc : Nat} {E : String} {ce : Cell} {q : Addr} {ls : Array Slot} {rest : List Value} (hown : s.vm.findClass RL = some m.cls) (hts : ∀ w ∈ gtb, w.before args s = true) (hX : Xw s) (hnc : ∀ E ∈ exs, ∀ F ∈ exs, E ≠ F → va_Nc E F s) (hE : E ∈ exs) (hcell : H[q]? = some ce) (hv : ce.vm = .none) (hcl : s.vm.findClass E = some ce.cls)
    (kk : W p l e R s m args below meth c H locs cells slots Q (F0 m hpc ls [.ref q])) : ∀ (hh pre : List (Nat × Nat × Nat × Nat)), c.exceptionTable.toList = tableOf pre ++ tableOf hh → (∀ z ∈ hh, z.2.2.2 ∈ [13, 15, 17, 26, 47]) →
    (∀ z ∈ tableOf pre, covers z pc = false ∨ (z.catchType ≠ 0 ∧ ∃ nm : String, (Cond.classLink RL z.catchType nm).before args s = true ∧ va_Nc E nm s)) → catch1 pc E hh = some hpc → vx_W p l e R s m args below meth c H locs cells slots Q (F0 m pc ls rest) q := by
  intro hh
  induction hh with
  | nil => intro pre _ _ _ h; cases h
  | cons x t ih =>
    intro pre hsp hk hpass hc
    obtain ⟨x1, x2, x3, x4⟩ := x
    have hx4 := hk _ List.mem_cons_self
    have hl := nmL_link x4 hx4
    have hlb := hts _ (gtb_in hl.1 hl.2)
    have hx40 : x4 ≠ 0 := by rintro rfl; simp at hx4
    rw [catch1] at hc
    by_cases hq : x1 ≤ pc ∧ pc < x2 ∧ nmL x4 = E
    · rw [if_pos hq] at hc
      cases hc
      refine vx_catch (E := E) hown (tableOf pre) ⟨x1, x2, x3, x4⟩ (tableOf t) (by rw [hsp]; rfl) hpass (by simp [covers, hq.1, hq.2.1]) hx40 (by rw [← hq.2.2]; exact hlb) (va_Nw.use rfl (hX _ (exs_cast E hE) rfl)) hcell hv hcl kk
    · rw [if_neg hq] at hc
      refine ih (pre ++ [(x1, x2, x3, x4)]) (by rw [hsp]; simp [tableOf]) (fun z hz => hk z (List.mem_cons_of_mem _ hz)) (fun z hz => ?_) hc
      rw [show tableOf (pre ++ [(x1, x2, x3, x4)]) = tableOf pre ++ [⟨x1, x2, x3, x4⟩] by simp [tableOf]] at hz
      rcases List.mem_append.mp hz with hz | hz
      · exact hpass z hz
      · rw [List.mem_singleton] at hz
        subst hz
        by_cases hcov : x1 ≤ pc ∧ pc < x2
        · exact Or.inr ⟨hx40, nmL x4, hlb, hnc E hE _ (nmL_in x4) (fun h => hq ⟨hcov.1, hcov.2, h.symm⟩)⟩
        · left; simp only [covers]; simp; omega
theorem w_callX {D : va_G} {cy : Nat → ClassId} {A A1 : Nat → Prop} {post1 : Option Sv → Hp → Prop} {px : String → Hp → Prop} {a1 : Array Value} {mc ms pc : Nat} {ls : Array Slot} {st0 : List Value} {st : List Sv} (hr : vx_Run p l e R s m args below meth c H locs cells slots mc ms (F0 m pc ls st0) (st.map (tv cy)) (Qx D cy A1 post1 a1) (XCx D cy A1 px) A1) (hS : va_S A s.heap H locs) (hA : ∀ q, A1 q → A q)
    (kx : ∀ (E : String) (u : Hp) (H1 : Heap) (locs1 : List Loc) (ce : Cell) (q : Addr), px E u → Rp D cy A s.heap H1 locs1 u → H1[q]? = some ce → ce.vm = .none → s.vm.findClass E = some ce.cls → vx_W p l e R s m args below meth c H1 locs1 (cells + mc) (slots + ms) Q (F0 m pc ls (st.map (tv cy))) q)
    (kk : ∀ (v : Option Sv) (u : Hp) (H1 : Heap) (locs1 : List Loc), post1 v u → Rp D cy A s.heap H1 locs1 u → W p l e R s m args below meth c H1 locs1 (cells + mc) (slots + ms) Q (F0 m (pc + 3) ls ((rs v st).map (tv cy)))) : W p l e R s m args below meth c H locs cells slots Q (F0 m pc ls st0) := by
  intro T hT X
  have mkR : ∀ {st₀ t T' : State} {L : List Loc} {L' : List Nat} {u : Hp}, st₀.heap = H → T'.heap = t.heap → (∀ q ∈ L, A1 q.base) → Lk L' u → va_P D vwCl (va_pl L' (ce cy u)) t.heap → va_D A1 (va_pl L' (ce cy u)) → va_F A1 st₀ t → Rp D cy A s.heap T'.heap (locs ++ L) u := fun {st₀ t T' L L' u} h0 e1 hL g1 g2 g3 hF => by
    obtain ⟨hz, hk⟩ := hF
    rw [h0] at hz hk
    exact ⟨L', g1, by rw [e1]; exact g2, ⟨g3.1, fun k q h => hA _ (g3.2 k q h)⟩, Nat.le_trans hS.1 (by rw [e1]; exact hz), fun q h1 h2 => by rw [e1, hk q (Nat.lt_of_lt_of_le h1 hS.1) (fun z => h2 (hA q z))]; exact hS.2.1 q h1 h2, fun q hq => by
      rcases List.mem_append.mp hq with h | h
      · exact hS.2.2 q h
      · exact hA _ (hL q h)⟩
  rcases hr T hT X with ⟨v, st₀, t, T', L, h0, X', hL, e1, e2, ⟨⟨v', u, hv, hp, L', g1, g2, g3⟩, hF⟩, stp⟩ | ⟨q, st₀, t, T', L, E, ce, h0, X', hL, e1, e2, ⟨u, hp, ⟨L', g1, g2, g3⟩, hF⟩, hce, hcv, hcl, stp⟩
  · have hv : v = v'.map (tv cy) := by injection hv
    subst hv
    obtain ⟨t2, q1, q2⟩ := kk v' u T'.heap (locs ++ L) hp (mkR h0 e1 hL g1 g2 g3 hF) T' rfl X'
    refine ⟨t2, stp t2 ?_, q2⟩
    cases v' with
    | none => exact q1
    | some x => exact q1
  · obtain ⟨t2, q1, q2⟩ := kx E u T'.heap (locs ++ L) ce q hp (mkR h0 e1 hL g1 g2 g3 hF) (by rw [e1]; exact hce) hcv hcl T' rfl X'
    exact ⟨t2, stp.trans q1, q2⟩
end JX
theorem preT_blind {D : va_G} {cy : Nat → ClassId} {L : List Nat} {sz : Nat} {h : Hp} {as : List Value} : FrameBlind (va_Pc as (PreT D cy L sz h)) := fun a U g mk q => by
  obtain ⟨q0, ⟨q1, q2, q3, q4, q5, q6⟩, z1, z2, z3⟩ := q
  have hv : U.vm.Alike (U.calling g mk a).vm := Vm.Alike.refl U.vm
  exact ⟨q0, ⟨q1, q2, va_K.moved (u := U) (U := U.calling g mk a) hv q3, q4, Xw_same (s := U) (U := U.calling g mk a) rfl q5, Sw_same (s := U) (U := U.calling g mk a) rfl q6⟩, vx_Zq.moved hv z1, vx_Zq.moved hv z2, fun E hE F hF hne => va_Nc.moved hv (z3 E hE F hF hne)⟩
/-- Throwable's statics, seen from a callee -/
theorem Zt_pass {A : Nat → Prop} {s U : State} {H : Heap} {locs : List Loc} {ws : va_W} (hD : va_D A ws) (hS : va_S A s.heap H locs) (hA : ∀ q, s.heap.size ≤ q → A q) (hW : s.WarmedH U.vm) (hU : U.heap = H) (h : Zt A s s.heap) : Zt (va_A ws H.size) U U.heap := by
  have hk : ∀ a : Nat, a < s.heap.size → ¬ A a → H[a]? = s.heap[a]? := hS.2.1
  rw [hU]
  exact ⟨vx_Zq.moved hW.alike (vx_Zq.narrow (vx_Zq.kept h.1 hk) (A_sub hD hS hA)), vx_Zq.moved hW.alike (vx_Zq.narrow (vx_Zq.kept h.2.1 hk) (A_sub hD hS hA)), fun E hE F hF hne => va_Nc.moved hW.alike (h.2.2 E hE F hF hne)⟩
section JY
variable {Y Y1 : MI} {d d1 mc ms mc1 ms1 : Nat} {post post1 : Option Sv ⊕ String → Hp → Prop} {pc : Nat} {lv : List (Option Sv)} {st as : List Sv} {h : Hp}
/-- a helper of the law calls the system: it returns, or what it throws is caught -/
theorem j_callX {ix c n a : Nat} (hd : decode Y.2.1 pc = .ok (.invokevirtual ix, 3)) (hM : VL Y.1.cls ix c Y1 n) (con : ConX Y1 d1 mc1 ms1 (vr (some a) :: as) h post1) (hk : hK h a = c + 1) (hn : as.length = n) (hdd : d1 < d) (hmc : mc1 ≤ mc) (hms : ms1 ≤ ms) (hs : (st.map ct).sum ≤ 8) (hlaw : Y.1.cls = RL) (hkeys : ∀ z ∈ tbl Y.1, z.2.2.2 ∈ [13, 15, 17, 26, 47])
    (kk : ∀ (v : Option Sv) (u : Hp), post1 (.inl v) u → J Y d (mc - mc1) (ms - ms1) post (pc + 3) lv (rs v st) u)
    (kx : ∀ (E : String) (u : Hp) (q : Nat), post1 (.inr E) u → E ∈ exs ∧ ∃ hpc, catch1 pc E (tbl Y.1) = some hpc ∧ J Y d (mc - mc1) (ms - ms1) post hpc lv [vr (some q)] u) : J Y d mc ms post pc lv (as.reverse ++ vr (some a) :: st) h := by
  intro p l e s m args below meth c0 H locs cells slots ls Q D cy A MC MS C R hl h1 h2 hr hx
  obtain ⟨L, hL, hP, hD, hS⟩ := id R
  obtain ⟨hz, hst0⟩ := C.2.2.2.2.2.2.2.2.2.2 hlaw
  have hpre : ∀ U : State, U.heap = H → s.WarmedH U.vm → va_Pc ((vr (some a) :: as).map (tv cy)) (PreT D cy L H.size h) ((vr (some a) :: as).map (tv cy)).toArray U := fun U hU hW => ⟨rfl, ⟨by rw [hU], by rw [hU]; exact hP, va_K.moved hW.alike C.2.2.2.2.2.1, hD.weaken (fun _ _ _ _ => trivial), Xw_warm hW C.2.2.2.2.2.2.2.1.1, by rw [hU]; exact Sw_pass hS.2.1 (A_sub hD hS C.2.2.2.2.2.2.1) hW C.2.2.2.2.2.2.2.1.2⟩, Zt_pass hD hS C.2.2.2.2.2.2.1 hW hU hz⟩
  have hst : ∀ w : List Sv, ((w.reverse ++ (vr (some a) :: st)).map (tv cy)) = (w.map (tv cy)).reverse ++ (vr (some a) :: st).map (tv cy) := fun w => by rw [List.map_append, List.map_reverse]
  have hroom : 2 * (F0 m pc ls []).monitorRoom + ((st.map (tv cy)).map fun v => v.category).sum ≤ 8 := by rw [cat_map]; show 2 * 0 + _ ≤ 8; omega
  obtain ⟨⟨w1, w2, w3, w4, w5⟩, ⟨T, n', hc⟩, hc13, hdsc, hmax⟩ := hM
  obtain ⟨n0, hn0⟩ := pl_get (f := ce cy h) ((hL a).mpr (by omega))
  rw [ce_o hk hc13] at hn0
  have hG : GoodIn gtb (wsV Y.1.cls ix Y1.1.cls Y1.1 (wy Y1)) := gi_gtb (fun w hw => by
    rcases List.mem_append.mp hw with hw | hw
    · simp only [List.mem_cons, List.not_mem_nil, or_false] at hw
      rcases hw with rfl | rfl | rfl | rfl
      · exact w2
      · exact w3
      · exact w4
      · exact w5
    · exact gi_wy w1 w hw)
  rw [hst as]
  refine w_callX (vx_runV (As := as.map (tv cy)) (rest := st.map (tv cy)) ⟨C.1, C.2.1, C.2.2.1, C.2.2.2.1, C.2.2.2.2.1⟩ (con l D cy L H.size hst0 hL) (cwV n C.2.2.2.2.1 hG rfl rfl rfl ⟨rfl, hdsc⟩ ⟨show d1 + 1 ≤ d by omega, show 8 + (Y1.2.2.1 + 11) + 40 * d1 ≤ 40 * d by omega⟩) ⟨preT_blind, va_recv C.2.2.2.2.2.1 hP hc hn0, hpre⟩ rfl (by rw [List.length_map]; exact hn) hl.1 rfl hroom hd ⟨show cells + mc1 ≤ MC by omega, show slots + ms1 ≤ MS by omega⟩) hS (A_sub hD hS C.2.2.2.2.2.2.1) (fun E u H1 locs1 ce q hp hR1 g1 g2 g3 => ?_) (fun v u H1 locs1 hp hR1 => kk v u hp p l e s m args below meth c0 H1 locs1 (cells + mc1) (slots + ms1) ls Q D cy A MC MS C hR1 hl (by omega) (by omega) hr hx)
  obtain ⟨hE, hpc, hca, hj⟩ := kx E u q hp
  exact catch_ok (by rw [← hlaw]; exact C.2.2.2.1) C.2.2.2.2.1 C.2.2.2.2.2.2.2.1.1 hz.2.2 hE g1 g2 g3 (hj p l e s m args below meth c0 H1 locs1 (cells + mc1) (slots + ms1) ls Q D cy A MC MS C hR1 hl (by omega) (by omega) hr hx) (tbl Y.1) [] (by rw [C.2.2.2.2.2.2.2.2.2.1]; rfl) hkeys (fun z hz => by cases hz) hca
end JY
/-! ===== contracts of the helpers ===== -/
def wyH (Y : MI) : List Cond := Cond.codeWith Y.1 Y.2.1 Y.2.2.1 Y.2.2.2 (tbl Y.1) :: gtb
def ConH (Y : MI) (d mc ms : Nat) (as : List Sv) (h : Hp) (post : Option Sv → Hp → Prop) : Prop := ∀ (l : Launch) (D : va_G) (cy : Nat → ClassId) (L : List Nat) (sz : Nat), l.stackTraces = false → Lk L h → vx_Met l Y.1 (wyH Y) (rmm d mc ms) (va_Pc (as.map (tv cy)) (PreT D cy L sz h)) (Qx D cy (va_A (va_pl L (ce cy h)) sz) post) (XCx D cy (va_A (va_pl L (ce cy h)) sz) (fun _ _ => False)) mc ms (va_A (va_pl L (ce cy h)) sz)
theorem con_ofH {Y : MI} {d mc ms : Nat} {as : List Sv} {h : Hp} {post : Option Sv → Hp → Prop} (hy : plainName Y.1.cls = true) (hn : (lva as).length ≤ Y.2.2.1) (k : J Y d mc ms (nx post) 0 (lv0 Y.2.2.1 as) [] h) : ConH Y d mc ms as h post := by
  intro l D cy L sz hl0 hL
  refine vx_ofWH (cc := Y.2.1) (maxL := Y.2.2.1) (ret := Y.2.2.2) (hh := tbl Y.1) hy rfl ?_
  intro p e s m args below meth c s₁ B hml hv
  obtain ⟨rfl, ⟨hsz, hP, hK, hD0, hX, hSw⟩, hZ⟩ := hv
  have hts := atoms_spec (ws := wyH Y) B.pre
  subst hsz
  have hD := hD0.self (sz := s.heap.size)
  generalize hAe : va_A (va_pl L (ce cy h)) s.heap.size = A at hD hZ hSw ⊢
  have hA : ∀ q : Nat, s.heap.size ≤ q → A q := fun q h => by rw [← hAe]; exact Or.inr h
  have hlv := lv_entry (as.map (tv cy)) (n := Y.2.2.1) (by rw [lva_len]; exact hn)
  rw [lg_entry_eq]
  generalize (lg_sl (as.map (tv cy)) ++ List.replicate (Y.2.2.1 - (lg_sl (as.map (tv cy))).length) Slot.unset).toArray = ls at hlv ⊢
  refine k p l e s m _ below meth c s.heap [] 0 0 ls _ D cy A mc ms ⟨B.exec, B.bytes, hml, findClass_of_methodNamed B.named, fun w hw => hts w (List.mem_cons_of_mem _ hw), hK, hA, ⟨hX, hSw⟩, (name_of_methodNamed B.named B.method).1, vx_table (x := Y.1) B (hts _ List.mem_cons_self), fun _ => ⟨hZ, hl0⟩⟩ ⟨L, hL, hP, hD, va_S.rf⟩ (lv0_has hn hlv) (by omega) (by omega) ?_ ?_
  · intro v u H1 locs1 c1 s1 ls1 pc1 hp hR h1 h2 hrt
    obtain ⟨L', g1, g2, g3, g4⟩ := hR
    refine vx_ret (W.widen (k := mc) (n := ms) h1 h2 ?_)
    have hq : ∀ t : State, t.heap = H1 → s.WarmedH t.vm → Qx D cy A post (as.map (tv cy)).toArray s (.returned (v.map (tv cy))) t := fun t ht _ => ⟨⟨v, u, rfl, hp, L', g1, by rw [ht]; exact g2, g3⟩, g4.F ht⟩
    have hR9 := B.returns
    rcases v with _ | x | x | x | x
    · exact W.vret B.exec B.bytes (hR9.trans hrt.2) hq g4.2.2 hrt.1 (hlocks := B.notSynchronized)
    · obtain ⟨r1, ty, r2, r3⟩ := hrt
      exact W.zret B.exec B.bytes (hR9.trans r2) r3 hq g4.2.2 r1 (hlocks := B.notSynchronized)
    · exact W.lret B.exec B.bytes (hR9.trans hrt.2) hq g4.2.2 hrt.1 (hlocks := B.notSynchronized)
    · obtain ⟨r1, rt, r2, r3⟩ := hrt
      exact W.aret B.exec B.bytes (hR9.trans r2) r3 (by cases x <;> simp [tv, va_rf]) hq g4.2.2 r1 (hlocks := B.notSynchronized)
    · obtain ⟨r1, rt, r2, r3⟩ := hrt
      exact W.aret B.exec B.bytes (hR9.trans r2) r3 (by simp [tv]) hq g4.2.2 r1 (hlocks := B.notSynchronized)
  · intro E u H1 locs1 c1 s1 ls1 pc1 st1 hp
    exact hp.elim
/-- number ix of the law is its helper Y1 -/
def HL (own : String) (ix : Nat) (Y1 : MI) (n : Nat) : Prop := (Cond.codeWith Y1.1 Y1.2.1 Y1.2.2.1 Y1.2.2.2 (tbl Y1.1) ∈ gtb ∧ Cond.methodLink own ix Y1.1 ∈ gtb ∧ Cond.static Y1.1 ∈ gtb ∧ Cond.initialized Y1.1.cls ∈ gtb) ∧ dsc Y1.1 n ∧ Y1.2.2.1 ≤ 21
section JZ
variable {Y Y1 : MI} {d d1 mc ms mc1 ms1 : Nat} {post : Option Sv ⊕ String → Hp → Prop} {post1 : Option Sv → Hp → Prop} {pc : Nat} {lv : List (Option Sv)} {st as : List Sv} {h : Hp}
theorem j_callH {ix n : Nat} (hd : decode Y.2.1 pc = .ok (.invokestatic ix, 3)) (hM : HL Y.1.cls ix Y1 n) (con : ConH Y1 d1 mc1 ms1 as h post1) (hn : as.length = n) (hdd : d1 < d) (hmc : mc1 ≤ mc) (hms : ms1 ≤ ms) (hs : (st.map ct).sum ≤ 8) (hlaw : Y.1.cls = RL)
    (kk : ∀ (v : Option Sv) (u : Hp), post1 v u → J Y d (mc - mc1) (ms - ms1) post (pc + 3) lv (rs v st) u) : J Y d mc ms post pc lv (as.reverse ++ st) h := by
  intro p l e s m args below meth c0 H locs cells slots ls Q D cy A MC MS C R hl h1 h2 hr hx
  obtain ⟨L, hL, hP, hD, hS⟩ := id R
  obtain ⟨hz, hst0⟩ := C.2.2.2.2.2.2.2.2.2.2 hlaw
  have hpre : ∀ U : State, U.heap = H → s.WarmedH U.vm → va_Pc (as.map (tv cy)) (PreT D cy L H.size h) (as.map (tv cy)).toArray U := fun U hU hW => ⟨rfl, ⟨by rw [hU], by rw [hU]; exact hP, va_K.moved hW.alike C.2.2.2.2.2.1, hD.weaken (fun _ _ _ _ => trivial), Xw_warm hW C.2.2.2.2.2.2.2.1.1, by rw [hU]; exact Sw_pass hS.2.1 (A_sub hD hS C.2.2.2.2.2.2.1) hW C.2.2.2.2.2.2.2.1.2⟩, Zt_pass hD hS C.2.2.2.2.2.2.1 hW hU hz⟩
  have hst : ∀ w : List Sv, ((w.reverse ++ st).map (tv cy)) = (w.map (tv cy)).reverse ++ st.map (tv cy) := fun w => by rw [List.map_append, List.map_reverse]
  have hroom : 2 * (F0 m pc ls []).monitorRoom + ((st.map (tv cy)).map fun v => v.category).sum ≤ 8 := by rw [cat_map]; show 2 * 0 + _ ≤ 8; omega
  obtain ⟨⟨w1, w2, w3, w4⟩, hdsc, hmax⟩ := hM
  have hG : GoodIn gtb (va_wsS Y.1.cls ix Y1.1 (wyH Y1)) := gi_gtb (fun w hw => by
    rcases List.mem_append.mp hw with hw | hw
    · simp only [List.mem_cons, List.not_mem_nil, or_false] at hw
      rcases hw with rfl | rfl | rfl
      · exact w2
      · exact w3
      · exact w4
    · rcases List.mem_cons.mp hw with rfl | hw
      · exact w1
      · exact hw)
  rw [hst as]
  exact w_callX (vx_runSX (As := as.map (tv cy)) (rest := st.map (tv cy)) ⟨C.1, C.2.1, C.2.2.1, C.2.2.2.1, C.2.2.2.2.1⟩ (con l D cy L H.size hst0 hL) (vx_cwSW n C.2.2.2.2.1 hG rfl rfl rfl hdsc ⟨show d1 + 1 ≤ d by omega, show 8 + (Y1.2.2.1 + 11) + 40 * d1 ≤ 40 * d by omega⟩) ⟨preT_blind, hpre⟩ rfl (by rw [List.length_map]; exact hn) hl.1 rfl hroom hd ⟨show cells + mc1 ≤ MC by omega, show slots + ms1 ≤ MS by omega⟩) hS (A_sub hD hS C.2.2.2.2.2.2.1) (fun E u H1 locs1 ce q hp => hp.elim) (fun v u H1 locs1 hp hR1 => kk v u hp p l e s m args below meth c0 H1 locs1 (cells + mc1) (slots + ms1) ls Q D cy A MC MS C hR1 hl (by omega) (by omega) hr hx)
end JZ
