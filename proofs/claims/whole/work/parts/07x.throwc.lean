/-! ===== methods that may throw, and their callers ===== -/
def exn : List String := ["java/lang/RuntimeException", "java/lang/Exception"]
abbrev thw (q : String × Nat × Nat × String) : List Cond := Cond.classLink q.1 q.2.1 q.2.2.2 :: Cond.initialized q.2.2.2 :: vx_at0 q.1 q.2.2.1 q.2.2.2 exn
theorem thl_in : ∀ q ∈ thl, ∀ w ∈ thw q, w ∈ tables_1 := by decide +kernel
theorem thl_ok : ∀ q ∈ thl, (∀ w ∈ thw q, (goodWord w || nestWord w) = true ∧ vx_ot w = true) ∧ Bundle.fit q.2.2.2 = true := by decide +kernel
theorem exn_ok : ∀ n ∈ exn, Bundle.fit n = true := by decide +kernel
def PreT (D : va_G) (cy : Nat → ClassId) (L : List Nat) (sz : Nat) (h : Hp) : State → Prop := fun U => Pre D cy L sz h U ∧ Zt (va_A (va_pl L (ce cy h)) sz) U U.heap
def XCx (D : va_G) (cy : Nat → ClassId) (A : Nat → Prop) (px : String → Hp → Prop) : String → State → State → Prop := fun E st t => ∃ u : Hp, px E u ∧ (∃ L' : List Nat, Lk L' u ∧ va_P D vwCl (va_pl L' (ce cy u)) t.heap ∧ va_D A (va_pl L' (ce cy u))) ∧ va_F A st t
def ConX (Y : MI) (d mc ms : Nat) (as : List Sv) (h : Hp) (post : Option Sv ⊕ String → Hp → Prop) : Prop := ∀ (l : Launch) (D : va_G) (cy : Nat → ClassId) (L : List Nat) (sz : Nat), l.stackTraces = false → Lk L h → vx_Met l Y.1 (wy Y) (rmm d mc ms) (va_Pc (as.map tv) (PreT D cy L sz h)) (Qx D cy (va_A (va_pl L (ce cy h)) sz) (fun v u => post (.inl v) u)) (XCx D cy (va_A (va_pl L (ce cy h)) sz) (fun E u => post (.inr E) u)) mc ms (va_A (va_pl L (ce cy h)) sz)
theorem con_ofX {Y : MI} {d mc ms : Nat} {as : List Sv} {h : Hp} {post : Option Sv ⊕ String → Hp → Prop} (hy : plainName Y.1.cls = true) (hn : (lva as).length ≤ Y.2.2.1) (hnl : Y.1.cls ≠ RL) (hd6 : 6 ≤ d) (k : J Y d mc ms post 0 (lv0 Y.2.2.1 as) [] h) : ConX Y d mc ms as h post := by
  intro l D cy L sz hl0 hL
  refine vx_ofW (cc := Y.2.1) (maxL := Y.2.2.1) (ret := Y.2.2.2) hy rfl ?_
  intro p e s m args below meth c s₁ B hml htab hv
  obtain ⟨rfl, ⟨hsz, hP, hK, hD0, hX⟩, hZ⟩ := hv
  have hts := atoms_spec (ws := wy Y) B.pre
  subst hsz
  have hD := hD0.self (sz := s.heap.size)
  generalize hAe : va_A (va_pl L (ce cy h)) s.heap.size = A at hD hZ ⊢
  have hA : ∀ q : Nat, s.heap.size ≤ q → A q := fun q h => by rw [← hAe]; exact Or.inr h
  have hlv := lv_entry (as.map tv) (n := Y.2.2.1) (by rw [lva_len]; exact hn)
  rw [lg_entry_eq]
  generalize (lg_sl (as.map tv) ++ List.replicate (Y.2.2.1 - (lg_sl (as.map tv)).length) Slot.unset).toArray = ls at hlv ⊢
  have htb : ∀ w ∈ gtb, w.before (as.map tv).toArray s = true := fun w hw => hts w (List.mem_cons_of_mem _ hw)
  have hown : s.vm.findClass Y.1.cls = some m.cls := findClass_of_methodNamed B.named
  refine k p l e s m _ below meth c s.heap [] 0 0 ls _ D cy A mc ms ⟨B.exec, B.bytes, hml, hown, htb, hK, hA, hX, (name_of_methodNamed B.named B.method).1, by rw [tbl, if_neg hnl, Array.isEmpty_iff.mp (BodyLoose.noHandlers B (hts _ List.mem_cons_self))]; rfl, fun q => absurd q hnl⟩ ⟨L, hL, hP, hD, va_S.rf⟩ (lv0_has hn hlv) (by omega) (by omega) ?_ ?_
  · intro v u H1 locs1 c1 s1 ls1 pc1 hp hR h1 h2 hrt
    obtain ⟨L', g1, g2, g3, g4⟩ := hR
    refine vx_ret (W.widen (k := mc) (n := ms) h1 h2 ?_)
    have hq : ∀ t : State, t.heap = H1 → s.WarmedH t.vm → Qx D cy A (fun v u => post (.inl v) u) (as.map tv).toArray s (.returned (v.map tv)) t := fun t ht _ => ⟨⟨v, u, rfl, hp, L', g1, by rw [ht]; exact g2, g3⟩, g4.F ht⟩
    have hR9 := B.returns
    rcases v with _ | x | x | x
    · exact W.vret B.exec B.bytes (hR9.trans hrt.2) hq g4.2.2 hrt.1 (hlocks := B.notSynchronized)
    · obtain ⟨r1, ty, r2, r3⟩ := hrt
      exact W.zret B.exec B.bytes (hR9.trans r2) r3 hq g4.2.2 r1 (hlocks := B.notSynchronized)
    · exact W.lret B.exec B.bytes (hR9.trans hrt.2) hq g4.2.2 hrt.1 (hlocks := B.notSynchronized)
    · obtain ⟨r1, rt, r2, r3⟩ := hrt
      exact W.aret B.exec B.bytes (hR9.trans r2) r3 (by cases x <;> simp [tv, va_rf]) hq g4.2.2 r1 (hlocks := B.notSynchronized)
  · intro E u H1 locs1 c1 s1 ls1 pc1 st1 hp hR hls h1 h2 hth hst
    obtain ⟨L', g1, g2, g3, g4⟩ := hR
    obtain ⟨ik, ic, hin, d0, d3, d4, d7⟩ := hth
    have hall : ∀ w ∈ thw (Y.1.cls, ik, ic, E), w.before (as.map tv).toArray s = true := fun w hw => by
      have w1 := thl_in _ hin w hw
      have w2 := ((thl_ok _ hin).1 w hw).1
      rw [Bool.or_eq_true] at w2
      rcases w2 with w2 | w2
      · exact htb w (gtb_in w1 w2)
      · have w3 := hX w w1 w2
        cases w with
        | methodLinkNest a b c d => exact va_Nw.use rfl w3
        | fieldLinkNest a b c d e f => exact va_Nw.use rfl w3
        | castable a b => exact va_Nw.use rfl w3
        | declares a => exact va_Nw.use rfl w3
        | arrayOver t =>
          cases t with
          | object C => exact va_AO.use w3
          | _ => cases w2
        | _ => cases w2
    refine vx_throw0 (names := exn) B.exec B.bytes hl0 hown (thl_ok _ hin).2 exn_ok (hall _ List.mem_cons_self) (hall _ (List.mem_cons_of_mem _ List.mem_cons_self)) (fun w hw => hall w (List.mem_cons_of_mem _ (List.mem_cons_of_mem _ hw))) (fun w hw => ((thl_ok _ hin).1 w hw).2) hZ.1 hZ.2 g4 (by rw [hml]; exact hls) d0 d3 d4 d7 (fun x hx => (htab x hx).elim) (show 2 + 3 < d by omega) ?_ (show c1 + 1 ≤ mc by omega) (show s1 + 6 ≤ ms by omega) B.notSynchronized ?_ g4.2.2 h1 h2
    · rw [cat_map]; show _ + (13 * (2 + 1) + 42) ≤ 40 * d; omega
    · intro t hal hsz hsame
      have hkept : va_P D vwCl (va_pl L' (ce cy u)) t.heap := g2.kept (fun k q hk => hsame q.1 (vx_lt g2 hk))
      exact ⟨u, hp, ⟨L', g1, hkept, g3⟩, ⟨Nat.le_trans g4.1 hsz, fun q hq hnq => by rw [hsame q (Nat.lt_of_lt_of_le hq g4.1)]; exact g4.2.1 q hq hnq⟩⟩
