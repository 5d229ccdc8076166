/-! ===== one call on fresh objects ===== -/
theorem it1 {c : Prop} [Decidable c] {a b : Int32} (ha : a = 0 ∨ a = 1) (hb : b = 0 ∨ b = 1) : (if c then a else b) = 0 ∨ (if c then a else b) = 1 := by
  by_cases q : c
  · simp only [if_pos q]; exact ha
  · simp only [if_neg q]; exact hb
theorem it2 {c : Prop} [Decidable c] {a b : Int32} (ha : a = 0 ∨ a = 1 ∨ a = 2) (hb : b = 0 ∨ b = 1 ∨ b = 2) : (if c then a else b) = 0 ∨ (if c then a else b) = 1 ∨ (if c then a else b) = 2 := by
  by_cases q : c
  · simp only [if_pos q]; exact ha
  · simp only [if_neg q]; exact hb
theorem it3 {c : Prop} [Decidable c] {a b : Int32} (ha : a = 0 ∨ a = 1 ∨ a = 2 ∨ a = 3) (hb : b = 0 ∨ b = 1 ∨ b = 2 ∨ b = 3) : (if c then a else b) = 0 ∨ (if c then a else b) = 1 ∨ (if c then a else b) = 2 ∨ (if c then a else b) = 3 := by
  by_cases q : c
  · simp only [if_pos q]; exact ha
  · simp only [if_neg q]; exact hb
theorem it4 {c : Prop} [Decidable c] {a b : Int32} (ha : a = 0 ∨ a = 1 ∨ a = 2 ∨ a = 3 ∨ a = 4) (hb : b = 0 ∨ b = 1 ∨ b = 2 ∨ b = 3 ∨ b = 4) : (if c then a else b) = 0 ∨ (if c then a else b) = 1 ∨ (if c then a else b) = 2 ∨ (if c then a else b) = 3 ∨ (if c then a else b) = 4 := by
  by_cases q : c
  · simp only [if_pos q]; exact ha
  · simp only [if_neg q]; exact hb
theorem px_py {h : Hp} {b : Nat → Nat} {w xw : Nat} {l : List String} {th r : Int32} : ∀ o u, px h b w xw l th r o u → py (fun _ => True) l th r o u := fun o u z => by
  cases o with
  | inl v => exact ⟨trivial, z.2⟩
  | inr v => exact ⟨trivial, z.2⟩
theorem an_am {g : Nat → Nat} {r th : Int32} : ∀ v u, an g r th v u → am g (fun _ => True) r th v u := fun v u z => ⟨fun _ => z.1, ⟨r, z.1⟩, z.2.1, z.2.2, trivial⟩
theorem m10 {x : Int32} (h : -1 ≤ x ∧ x ≤ 0) : x = -1 ∨ x = 0 := by
  simp only [le_i, Int32.reduceToInt] at h
  have : x.toInt = -1 ∨ x.toInt = 0 := by omega
  rcases this with e | e
  · left; rw [eq_i]; rw [e]; rfl
  · right; rw [eq_i]; rw [e]; rfl
theorem m01 {x : Int32} (h : 0 ≤ x ∧ x ≤ 1) : x = 0 ∨ x = 1 := by
  simp only [le_i, Int32.reduceToInt] at h
  have : x.toInt = 0 ∨ x.toInt = 1 := by omega
  rcases this with e | e
  · left; rw [eq_i]; rw [e]; rfl
  · right; rw [eq_i]; rw [e]; rfl
theorem inSh_ex {y z : Int32} (q : inSh 8 6 y z) : ∃ i j, i < 8 ∧ j < 6 ∧ y = nI (i + 1) ∧ z = nI (j + 1) := by
  have q2 := q
  simp only [inSh] at q2
  obtain ⟨i0, hi0, ey, ei⟩ := nI_ex (x := y) (n := 8) (by omega) (by omega)
  obtain ⟨j0, hj0, ez, ej⟩ := nI_ex (x := z) (n := 6) (by omega) (by omega)
  exact ⟨i0 - 1, j0 - 1, by omega, by omega, by rw [ey]; congr 1; omega, by rw [ez]; congr 1; omega⟩
theorem LSt_new {h hc hm : Hp} {o : Nat} (s1 : sub hc h) (s2 : sub hm h) (s3 : ∀ a, hK hc a ≠ 0 → hK hm a = 0) (ho : hK h o = 0) : LSt (nw h o 16 1) hc hm o := by
  have z : ∀ {k : Hp}, sub k h → hK k o = 0 := fun {k} s => Classical.byContradiction fun w => w (by rw [← (s o w).1]; exact ho)
  have e : ∀ a, a ≠ o → hK (nw h o 16 1) a = hK h a ∧ hN (nw h o 16 1) a = hN h a ∧ hI (nw h o 16 1) a = hI h a ∧ hG (nw h o 16 1) a = hG h a ∧ hO (nw h o 16 1) a = hO h a := fun a ha => ⟨by rw [hK_nw, if_neg ha], by rw [hN_nw, if_neg ha], by funext j; rw [hI_nw, if_neg ha], by funext j; rw [hG_nw, if_neg ha], by funext j; rw [hO_nw, if_neg ha]⟩
  have t : ∀ {k : Hp}, sub k h → sub k (nw h o 16 1) := fun {k} s a ha => by
    obtain ⟨e1, e2, e3, e4, e5⟩ := e a (fun w => by rw [w] at ha; exact ha (z s))
    obtain ⟨f1, f2, f3, f4, f5⟩ := s a ha
    exact ⟨e1.trans f1, e2.trans f2, e3.trans f3, e4.trans f4, e5.trans f5⟩
  exact ⟨t s1, t s2, s3, by rw [hK_nw, if_pos rfl], by rw [hN_nw, if_pos rfl], z s1, z s2⟩
set_option maxRecDepth 20000 in
theorem p1_end {p : Program} {l : Launch} {e : Env} {s : State} {m : MethodId} {args : Array Value} {below : List Frame} {meth : Method} {c0 : Code} {Q : State → Prop} {D : va_G} {cy : Nat → ClassId} {A : Nat → Prop} {MC MS d : Nat} {post : Option Sv ⊕ String → Hp → Prop} {x mo o b0 : Nat} {xs : Nat → Int32} (hX : va_X b0 7 xs s s.heap) (hbl : b0 < s.heap.size) (hbA : ¬ A b0) (hpost : ∀ u, post (.inl (some (vi 1))) u) (u : Hp) : Jp mL_law p l e s m args below meth c0 Q D cy A MC MS d 0 0 post 1884 [some (vr (some b0)), some (vr (some x)), some (vr (some mo)), some (vr (some o)), some (vi (nI 0)), none, none] [] u := by
  refine jp_iinc dL_law_1884 rfl ?_
  dsimp only [st1, st2, unL, List.set]
  refine jp_goto 23 dL_law_1887 (by decide) ?_
  refine jp_iload dL_law_23 rfl ?_
  refine jp_aload_n dL_law_25 rfl ?_
  refine jp_slen dL_law_26 hX hbl hbA ?_
  refine jp_bipush (v := 7) dL_law_27 (by decide) ?_
  refine jp_isub dL_law_29 ?_
  refine jp_icmp_gt 1890 dL_law_30 (by decide) (fun c_30 => ?_) (fun c_30 => ?_)
  · refine jp_iconst (v := 1) dL_law_1890 (by decide) ?_
    exact jp_ireturn dL_law_1891 rfl rfl (hpost _)
  · exact absurd (by decide) c_30

set_option maxRecDepth 20000 in
theorem p1_c0 {p : Program} {l : Launch} {e : Env} {s : State} {m : MethodId} {args : Array Value} {below : List Frame} {meth : Method} {c0 : Code} {Q : State → Prop} {D : va_G} {cy : Nat → ClassId} {A : Nat → Prop} {MC MS d : Nat} {post : Option Sv ⊕ String → Hp → Prop} {h hc hm : Hp} {b g : Nat → Nat} {w xw o b0 : Nat} {xs : Nat → Int32} (hX : va_X b0 7 xs s s.heap) (hbl : b0 < s.heap.size) (hbA : ¬ A b0) (S : LSt h hc hm o) (kx : hK hc (b 0) = 12) (km : hK hm (g 0) = 13) (fc : FC hc b w xw) (fm : FM2 hm g) (hd : 10 < d) (fin : ∀ u uc um, True → True → LSt u uc um o → Jp mL_law p l e s m args below meth c0 Q D cy A MC MS d 0 0 post 1884 [some (vr (some b0)), some (vr (some (b 0))), some (vr (some (g 0))), some (vr (some o)), some (vi (nI 0)), none, none] [] u) : Jp mL_law p l e s m args below meth c0 Q D cy A MC MS d 1000 10000 post 176 [some (vr (some b0)), some (vr (some (b 0))), some (vr (some (g 0))), some (vr (some o)), some (vi (nI 0)), none, none] [] h := by
  exact lw_feed (K := fun _ => True) (K2 := fun _ => True) (r := 20) hX hbl hbA (by omega) (by omega) S kx km (con_postC (d_feed (xs (0 + 1)) (xs (0 + 2)) (xs (0 + 3)) (xs (0 + 4)) (xs (0 + 5)) fc) (fun _ _ z => ⟨z.1, trivial⟩)) (con_postC (e_feed (xs (0 + 1)) (xs (0 + 2)) (xs (0 + 3)) (xs (0 + 4)) (xs (0 + 5)) fm.1) (fun _ _ z => ⟨z, trivial⟩)) (by omega) (by omega) (mc3 := 0) (ms3 := 0) (by decide) (by decide) fin

set_option maxRecDepth 20000 in
theorem p1_c1 {p : Program} {l : Launch} {e : Env} {s : State} {m : MethodId} {args : Array Value} {below : List Frame} {meth : Method} {c0 : Code} {Q : State → Prop} {D : va_G} {cy : Nat → ClassId} {A : Nat → Prop} {MC MS d : Nat} {post : Option Sv ⊕ String → Hp → Prop} {h hc hm : Hp} {b g : Nat → Nat} {w xw o b0 : Nat} {xs : Nat → Int32} (hX : va_X b0 7 xs s s.heap) (hbl : b0 < s.heap.size) (hbA : ¬ A b0) (S : LSt h hc hm o) (kx : hK hc (b 0) = 12) (km : hK hm (g 0) = 13) (fc : FC hc b w xw) (fm : FM2 hm g) (hd : 10 < d) (fin : ∀ u uc um, True → True → LSt u uc um o → Jp mL_law p l e s m args below meth c0 Q D cy A MC MS d 0 0 post 1884 [some (vr (some b0)), some (vr (some (b 0))), some (vr (some (g 0))), some (vr (some o)), some (vi (nI 0)), none, none] [] u) : Jp mL_law p l e s m args below meth c0 Q D cy A MC MS d 1000 10000 post 249 [some (vr (some b0)), some (vr (some (b 0))), some (vr (some (g 0))), some (vr (some o)), some (vi (nI 0)), none, none] [] h := by
  exact lw_end (K := fun _ => True) (K2 := fun _ => True) (r := b2 (0 ≤ (xs (0 + 1)) ∧ (xs (0 + 1)) ≤ 0)) hX hbl hbA (by omega) (by omega) S kx km (con_postC (d_end (xs (0 + 1)) fc) (fun _ _ z => ⟨z.1, trivial⟩)) (con_postC (e_end (xs (0 + 1)) fm.1) (fun _ _ z => ⟨z, trivial⟩)) (by omega) (by omega) (mc3 := 0) (ms3 := 0) (by decide) (by decide) fin

set_option maxRecDepth 20000 in
theorem p1_c2 {p : Program} {l : Launch} {e : Env} {s : State} {m : MethodId} {args : Array Value} {below : List Frame} {meth : Method} {c0 : Code} {Q : State → Prop} {D : va_G} {cy : Nat → ClassId} {A : Nat → Prop} {MC MS d : Nat} {post : Option Sv ⊕ String → Hp → Prop} {h hc hm : Hp} {b g : Nat → Nat} {w xw o b0 : Nat} {xs : Nat → Int32} (hX : va_X b0 7 xs s s.heap) (hbl : b0 < s.heap.size) (hbA : ¬ A b0) (S : LSt h hc hm o) (kx : hK hc (b 0) = 12) (km : hK hm (g 0) = 13) (fc : FC hc b w xw) (fm : FM2 hm g) (hd : 10 < d) (fin : ∀ u uc um, True → True → LSt u uc um o → Jp mL_law p l e s m args below meth c0 Q D cy A MC MS d 0 0 post 1884 [some (vr (some b0)), some (vr (some (b 0))), some (vr (some (g 0))), some (vr (some o)), some (vi (nI 0)), none, none] [] u) : Jp mL_law p l e s m args below meth c0 Q D cy A MC MS d 1000 10000 post 274 [some (vr (some b0)), some (vr (some (b 0))), some (vr (some (g 0))), some (vr (some o)), some (vi (nI 0)), none, none] [] h := by
  exact lw_enter (K := fun _ => True) (K2 := fun _ => True) (th := if inSh 8 6 (xs (0 + 1)) (xs (0 + 2)) then 0 else 1) (r := 0) hX hbl hbA (by omega) (by omega) S kx km (it3 (by decide) (by decide)) (con_postX (d_enter (xs (0 + 1)) (xs (0 + 2)) fc) px_py) (con_postC (e_enter (xs (0 + 1)) (xs (0 + 2)) fm.1) an_am) (by omega) (by omega) (mc3 := 0) (ms3 := 0) (by decide) (by decide) fin

set_option maxRecDepth 20000 in
theorem p1_c3 {p : Program} {l : Launch} {e : Env} {s : State} {m : MethodId} {args : Array Value} {below : List Frame} {meth : Method} {c0 : Code} {Q : State → Prop} {D : va_G} {cy : Nat → ClassId} {A : Nat → Prop} {MC MS d : Nat} {post : Option Sv ⊕ String → Hp → Prop} {h hc hm : Hp} {b g : Nat → Nat} {w xw o b0 : Nat} {xs : Nat → Int32} (hX : va_X b0 7 xs s s.heap) (hbl : b0 < s.heap.size) (hbA : ¬ A b0) (S : LSt h hc hm o) (kx : hK hc (b 0) = 12) (km : hK hm (g 0) = 13) (fc : FC hc b w xw) (fm : FM2 hm g) (hd : 10 < d) (fin : ∀ u uc um, True → True → LSt u uc um o → Jp mL_law p l e s m args below meth c0 Q D cy A MC MS d 0 0 post 1884 [some (vr (some b0)), some (vr (some (b 0))), some (vr (some (g 0))), some (vr (some o)), some (vi (nI 0)), none, none] [] u) : Jp mL_law p l e s m args below meth c0 Q D cy A MC MS d 1000 10000 post 342 [some (vr (some b0)), some (vr (some (b 0))), some (vr (some (g 0))), some (vr (some o)), some (vi (nI 0)), none, none] [] h := by
  exact lw_fault (K := fun _ => True) (K2 := fun _ => True) (r := if (xs (0 + 1)) = 0 then 0 else if (xs (0 + 1)) = 1 then 0 else -1) hX hbl hbA (by omega) (by omega) S kx km (con_postC (d_fault (xs (0 + 1)) fc) (fun _ _ z => ⟨z.2, trivial⟩)) (con_postC (e_fault (xs (0 + 1)) fm.1) (fun _ _ z => ⟨z, trivial⟩)) (by omega) (by omega) (mc3 := 0) (ms3 := 0) (by decide) (by decide) fin

set_option maxRecDepth 20000 in
theorem p1_c4 {p : Program} {l : Launch} {e : Env} {s : State} {m : MethodId} {args : Array Value} {below : List Frame} {meth : Method} {c0 : Code} {Q : State → Prop} {D : va_G} {cy : Nat → ClassId} {A : Nat → Prop} {MC MS d : Nat} {post : Option Sv ⊕ String → Hp → Prop} {h hc hm : Hp} {b g : Nat → Nat} {w xw o b0 : Nat} {xs : Nat → Int32} (hX : va_X b0 7 xs s s.heap) (hbl : b0 < s.heap.size) (hbA : ¬ A b0) (S : LSt h hc hm o) (kx : hK hc (b 0) = 12) (km : hK hm (g 0) = 13) (fc : FC hc b w xw) (fm : FM2 hm g) (hd : 10 < d) (fin : ∀ u uc um, True → True → LSt u uc um o → Jp mL_law p l e s m args below meth c0 Q D cy A MC MS d 0 0 post 1884 [some (vr (some b0)), some (vr (some (b 0))), some (vr (some (g 0))), some (vr (some o)), some (vi (nI 0)), none, none] [] u) : Jp mL_law p l e s m args below meth c0 Q D cy A MC MS d 1000 10000 post 367 [some (vr (some b0)), some (vr (some (b 0))), some (vr (some (g 0))), some (vr (some o)), some (vi (nI 0)), none, none] [] h := by
  exact lw_erase (K := fun _ => True) (K2 := fun _ => True) (th := erT (xs (0 + 1)) (xs (0 + 2)) (xs (0 + 3)) (xs (0 + 4))) (r := 0) hX hbl hbA (by omega) (by omega) S kx km (it2 (it2 (by decide) (by decide)) (by decide)) (con_postX (d_erase (xs (0 + 1)) (xs (0 + 2)) (xs (0 + 3)) (xs (0 + 4)) fc) px_py) (con_postC (e_erase (xs (0 + 1)) (xs (0 + 2)) (xs (0 + 3)) (xs (0 + 4)) fm.1) an_am) (by omega) (by omega) (mc3 := 0) (ms3 := 0) (by decide) (by decide) fin

set_option maxRecDepth 20000 in
theorem p1_c5 {p : Program} {l : Launch} {e : Env} {s : State} {m : MethodId} {args : Array Value} {below : List Frame} {meth : Method} {c0 : Code} {Q : State → Prop} {D : va_G} {cy : Nat → ClassId} {A : Nat → Prop} {MC MS d : Nat} {post : Option Sv ⊕ String → Hp → Prop} {h hc hm : Hp} {b g : Nat → Nat} {w xw o b0 : Nat} {xs : Nat → Int32} (hX : va_X b0 7 xs s s.heap) (hbl : b0 < s.heap.size) (hbA : ¬ A b0) (S : LSt h hc hm o) (kx : hK hc (b 0) = 12) (km : hK hm (g 0) = 13) (fc : FC hc b w xw) (fm : FM2 hm g) (hd : 10 < d) (fin : ∀ u uc um, True → True → LSt u uc um o → Jp mL_law p l e s m args below meth c0 Q D cy A MC MS d 0 0 post 1884 [some (vr (some b0)), some (vr (some (b 0))), some (vr (some (g 0))), some (vr (some o)), some (vi (nI 0)), none, none] [] u) : Jp mL_law p l e s m args below meth c0 Q D cy A MC MS d 1000 10000 post 459 [some (vr (some b0)), some (vr (some (b 0))), some (vr (some (g 0))), some (vr (some o)), some (vi (nI 0)), none, none] [] h := by
  by_cases ha : 0 ≤ (xs (0 + 1)) ∧ (xs (0 + 1)) ≤ 1
  · rcases m01 ha with e1 | e1
    · exact lw_insert (K := fun _ => True) (K2 := fun _ => True) (th := if 1 ≤ (xs (0 + 2)) ∧ (xs (0 + 2)) ≤ 9 then 0 else 2) (r := if 1 ≤ (xs (0 + 2)) ∧ (xs (0 + 2)) ≤ 9 then 9 else 0) hX hbl hbA (by omega) (by omega) S kx km (it3 (by decide) (by decide)) (by rw [e1]; exact con_postX (d_insert0 (xs (0 + 2)) fc) px_py) (by rw [e1]; exact con_postC (e_insert0 (xs (0 + 2)) fm.1) an_am) (by omega) (by omega) (mc3 := 0) (ms3 := 0) (by decide) (by decide) fin
    · exact lw_insert (K := fun _ => True) (K2 := fun _ => True) (th := if 1 ≤ (xs (0 + 2)) ∧ (xs (0 + 2)) ≤ 7 then 0 else 2) (r := if 1 ≤ (xs (0 + 2)) ∧ (xs (0 + 2)) ≤ 7 then 7 else 0) hX hbl hbA (by omega) (by omega) S kx km (it3 (by decide) (by decide)) (by rw [e1]; exact con_postX (d_insert1 (xs (0 + 2)) fc) px_py) (by rw [e1]; exact con_postC (e_insert1 (xs (0 + 2)) fm.1) an_am) (by omega) (by omega) (mc3 := 0) (ms3 := 0) (by decide) (by decide) fin
  · exact lw_insert (K := fun _ => True) (K2 := fun _ => True) (th := 1) (r := 0) hX hbl hbA (by omega) (by omega) S kx km (by decide) (con_postX (d_insertX (xs (0 + 1)) (xs (0 + 2)) fc ha) px_py) (con_postC (e_insertX (xs (0 + 1)) (xs (0 + 2)) fm.1 ha) an_am) (by omega) (by omega) (mc3 := 0) (ms3 := 0) (by decide) (by decide) fin

set_option maxRecDepth 20000 in
theorem p1_c6 {p : Program} {l : Launch} {e : Env} {s : State} {m : MethodId} {args : Array Value} {below : List Frame} {meth : Method} {c0 : Code} {Q : State → Prop} {D : va_G} {cy : Nat → ClassId} {A : Nat → Prop} {MC MS d : Nat} {post : Option Sv ⊕ String → Hp → Prop} {h hc hm : Hp} {b g : Nat → Nat} {w xw o b0 : Nat} {xs : Nat → Int32} (hX : va_X b0 7 xs s s.heap) (hbl : b0 < s.heap.size) (hbA : ¬ A b0) (S : LSt h hc hm o) (kx : hK hc (b 0) = 12) (km : hK hm (g 0) = 13) (fc : FC hc b w xw) (fm : FM2 hm g) (hd : 10 < d) (fin : ∀ u uc um, True → True → LSt u uc um o → Jp mL_law p l e s m args below meth c0 Q D cy A MC MS d 0 0 post 1884 [some (vr (some b0)), some (vr (some (b 0))), some (vr (some (g 0))), some (vr (some o)), some (vi (nI 0)), none, none] [] u) : Jp mL_law p l e s m args below meth c0 Q D cy A MC MS d 1000 10000 post 527 [some (vr (some b0)), some (vr (some (b 0))), some (vr (some (g 0))), some (vr (some o)), some (vi (nI 0)), none, none] [] h := by
  by_cases ha : 0 ≤ (xs (0 + 1)) ∧ (xs (0 + 1)) ≤ 1
  · rcases m01 ha with e1 | e1
    · exact lw_remove (K := fun _ => True) (K2 := fun _ => True) (th := if 1 ≤ (xs (0 + 2)) ∧ (xs (0 + 2)) ≤ 8 then 0 else 2) (r := if 1 ≤ (xs (0 + 2)) ∧ (xs (0 + 2)) ≤ 8 then 7 else 0) hX hbl hbA (by omega) (by omega) S kx km (it3 (by decide) (by decide)) (by rw [e1]; exact con_postX (d_remove0 (xs (0 + 2)) fc) px_py) (by rw [e1]; exact con_postC (e_remove0 (xs (0 + 2)) fm.1) an_am) (by omega) (by omega) (mc3 := 0) (ms3 := 0) (by decide) (by decide) fin
    · exact lw_remove (K := fun _ => True) (K2 := fun _ => True) (th := if 1 ≤ (xs (0 + 2)) ∧ (xs (0 + 2)) ≤ 6 then 0 else 2) (r := if 1 ≤ (xs (0 + 2)) ∧ (xs (0 + 2)) ≤ 6 then 5 else 0) hX hbl hbA (by omega) (by omega) S kx km (it3 (by decide) (by decide)) (by rw [e1]; exact con_postX (d_remove1 (xs (0 + 2)) fc) px_py) (by rw [e1]; exact con_postC (e_remove1 (xs (0 + 2)) fm.1) an_am) (by omega) (by omega) (mc3 := 0) (ms3 := 0) (by decide) (by decide) fin
  · exact lw_remove (K := fun _ => True) (K2 := fun _ => True) (th := 1) (r := 0) hX hbl hbA (by omega) (by omega) S kx km (by decide) (con_postX (d_removeX (xs (0 + 1)) (xs (0 + 2)) fc ha) px_py) (con_postC (e_removeX (xs (0 + 1)) (xs (0 + 2)) fm.1 ha) an_am) (by omega) (by omega) (mc3 := 0) (ms3 := 0) (by decide) (by decide) fin

set_option maxRecDepth 20000 in
theorem p1_c7 {p : Program} {l : Launch} {e : Env} {s : State} {m : MethodId} {args : Array Value} {below : List Frame} {meth : Method} {c0 : Code} {Q : State → Prop} {D : va_G} {cy : Nat → ClassId} {A : Nat → Prop} {MC MS d : Nat} {post : Option Sv ⊕ String → Hp → Prop} {h hc hm : Hp} {b g : Nat → Nat} {w xw o b0 : Nat} {xs : Nat → Int32} (hX : va_X b0 7 xs s s.heap) (hbl : b0 < s.heap.size) (hbA : ¬ A b0) (S : LSt h hc hm o) (kx : hK hc (b 0) = 12) (km : hK hm (g 0) = 13) (fc : FC hc b w xw) (fm : FM2 hm g) (hd : 10 < d) (fin : ∀ u uc um, True → True → LSt u uc um o → Jp mL_law p l e s m args below meth c0 Q D cy A MC MS d 0 0 post 1884 [some (vr (some b0)), some (vr (some (b 0))), some (vr (some (g 0))), some (vr (some o)), some (vi (nI 0)), none, none] [] u) : Jp mL_law p l e s m args below meth c0 Q D cy A MC MS d 1000 10000 post 595 [some (vr (some b0)), some (vr (some (b 0))), some (vr (some (g 0))), some (vr (some o)), some (vi (nI 0)), none, none] [] h := by
  by_cases ha : 0 ≤ (xs (0 + 1)) ∧ (xs (0 + 1)) ≤ 1
  · rcases m01 ha with e1 | e1
    · exact lw_move (K := fun _ => True) (K2 := fun _ => True) (th := if (1 ≤ (xs (0 + 2)) ∧ (xs (0 + 2)) ≤ 8 ∧ 1 ≤ (xs (0 + 3)) ∧ (xs (0 + 3)) ≤ 8) then 0 else 2) (r := mvR 8 (xs (0 + 2)) (xs (0 + 3))) hX hbl hbA (by omega) (by omega) S kx km (it2 (by decide) (by decide)) (by rw [e1]; exact con_postX (d_move0 (xs (0 + 2)) (xs (0 + 3)) fc) px_py) (by rw [e1]; exact con_postC (e_move0 (xs (0 + 2)) (xs (0 + 3)) fm.1) an_am) (by omega) (by omega) (mc3 := 0) (ms3 := 0) (by decide) (by decide) fin
    · exact lw_move (K := fun _ => True) (K2 := fun _ => True) (th := if (1 ≤ (xs (0 + 2)) ∧ (xs (0 + 2)) ≤ 6 ∧ 1 ≤ (xs (0 + 3)) ∧ (xs (0 + 3)) ≤ 6) then 0 else 2) (r := mvR 6 (xs (0 + 2)) (xs (0 + 3))) hX hbl hbA (by omega) (by omega) S kx km (it2 (by decide) (by decide)) (by rw [e1]; exact con_postX (d_move1 (xs (0 + 2)) (xs (0 + 3)) fc) px_py) (by rw [e1]; exact con_postC (e_move1 (xs (0 + 2)) (xs (0 + 3)) fm.1) an_am) (by omega) (by omega) (mc3 := 0) (ms3 := 0) (by decide) (by decide) fin
  · exact lw_move (K := fun _ => True) (K2 := fun _ => True) (th := 1) (r := 0) hX hbl hbA (by omega) (by omega) S kx km (by decide) (con_postX (d_moveX (xs (0 + 1)) (xs (0 + 2)) (xs (0 + 3)) fc ha) px_py) (con_postC (e_moveX (xs (0 + 1)) (xs (0 + 2)) (xs (0 + 3)) fm.1 ha) an_am) (by omega) (by omega) (mc3 := 0) (ms3 := 0) (by decide) (by decide) fin

set_option maxRecDepth 20000 in
theorem p1_c8 {p : Program} {l : Launch} {e : Env} {s : State} {m : MethodId} {args : Array Value} {below : List Frame} {meth : Method} {c0 : Code} {Q : State → Prop} {D : va_G} {cy : Nat → ClassId} {A : Nat → Prop} {MC MS d : Nat} {post : Option Sv ⊕ String → Hp → Prop} {h hc hm : Hp} {b g : Nat → Nat} {w xw o b0 : Nat} {xs : Nat → Int32} (hX : va_X b0 7 xs s s.heap) (hbl : b0 < s.heap.size) (hbA : ¬ A b0) (S : LSt h hc hm o) (kx : hK hc (b 0) = 12) (km : hK hm (g 0) = 13) (fc : FC hc b w xw) (fm : FM2 hm g) (hd : 10 < d) (fin : ∀ u uc um, True → True → LSt u uc um o → Jp mL_law p l e s m args below meth c0 Q D cy A MC MS d 0 0 post 1884 [some (vr (some b0)), some (vr (some (b 0))), some (vr (some (g 0))), some (vr (some o)), some (vi (nI 0)), none, none] [] u) : Jp mL_law p l e s m args below meth c0 Q D cy A MC MS d 1000 10000 post 675 [some (vr (some b0)), some (vr (some (b 0))), some (vr (some (g 0))), some (vr (some o)), some (vi (nI 0)), none, none] [] h := by
  exact lw_copy (K := fun _ => True) (K2 := fun _ => True) (th := cpT (xs (0 + 1)) (xs (0 + 2)) (xs (0 + 3)) (xs (0 + 4)) (xs (0 + 5)) (xs (0 + 6))) (r := cpR (xs (0 + 1)) (xs (0 + 2)) (xs (0 + 3)) (xs (0 + 4)) (xs (0 + 5)) (xs (0 + 6))) hX hbl hbA (by omega) (by omega) S kx km (it3 (it3 (by decide) (by decide)) (by decide)) (con_postX (d_copy (xs (0 + 1)) (xs (0 + 2)) (xs (0 + 3)) (xs (0 + 4)) (xs (0 + 5)) (xs (0 + 6)) fc) px_py) (con_postC (e_copy (xs (0 + 1)) (xs (0 + 2)) (xs (0 + 3)) (xs (0 + 4)) (xs (0 + 5)) (xs (0 + 6)) fm.1) an_am) (by omega) (by omega) (mc3 := 0) (ms3 := 0) (by decide) (by decide) fin

set_option maxRecDepth 20000 in
theorem p1_c9 {p : Program} {l : Launch} {e : Env} {s : State} {m : MethodId} {args : Array Value} {below : List Frame} {meth : Method} {c0 : Code} {Q : State → Prop} {D : va_G} {cy : Nat → ClassId} {A : Nat → Prop} {MC MS d : Nat} {post : Option Sv ⊕ String → Hp → Prop} {h hc hm : Hp} {b g : Nat → Nat} {w xw o b0 : Nat} {xs : Nat → Int32} (hX : va_X b0 7 xs s s.heap) (hbl : b0 < s.heap.size) (hbA : ¬ A b0) (S : LSt h hc hm o) (kx : hK hc (b 0) = 12) (km : hK hm (g 0) = 13) (fc : FC hc b w xw) (fm : FM2 hm g) (hd : 10 < d) (fin : ∀ u uc um, True → True → LSt u uc um o → Jp mL_law p l e s m args below meth c0 Q D cy A MC MS d 0 0 post 1884 [some (vr (some b0)), some (vr (some (b 0))), some (vr (some (g 0))), some (vr (some o)), some (vi (nI 0)), none, none] [] u) : Jp mL_law p l e s m args below meth c0 Q D cy A MC MS d 1000 10000 post 793 [some (vr (some b0)), some (vr (some (b 0))), some (vr (some (g 0))), some (vr (some o)), some (vi (nI 0)), none, none] [] h := by
  by_cases hb : (xs (0 + 4)) = 0
  · exact lw_sort0 (K := fun _ => True) (K2 := fun _ => True) (th := soT (xs (0 + 1)) (xs (0 + 2)) (xs (0 + 3))) (r := 0) hX hbl hbA (by omega) (by omega) hb S kx km (it2 (it2 (by decide) (by decide)) (by decide)) (con_postX (d_sort (xs (0 + 1)) (xs (0 + 2)) (xs (0 + 3)) 0 fc) px_py) (con_postC (e_sort (xs (0 + 1)) (xs (0 + 2)) (xs (0 + 3)) 0 fm) an_am) (by omega) (by omega) (mc3 := 0) (ms3 := 0) (by decide) (by decide) fin
  · exact lw_sort1 (K := fun _ => True) (K2 := fun _ => True) (th := soT (xs (0 + 1)) (xs (0 + 2)) (xs (0 + 3))) (r := 0) hX hbl hbA (by omega) (by omega) hb S kx km (it2 (it2 (by decide) (by decide)) (by decide)) (con_postX (d_sort (xs (0 + 1)) (xs (0 + 2)) (xs (0 + 3)) 1 fc) px_py) (con_postC (e_sort (xs (0 + 1)) (xs (0 + 2)) (xs (0 + 3)) 1 fm) an_am) (by omega) (by omega) (mc3 := 0) (ms3 := 0) (by decide) (by decide) fin

set_option maxRecDepth 20000 in
theorem p1_c10 {p : Program} {l : Launch} {e : Env} {s : State} {m : MethodId} {args : Array Value} {below : List Frame} {meth : Method} {c0 : Code} {Q : State → Prop} {D : va_G} {cy : Nat → ClassId} {A : Nat → Prop} {MC MS d : Nat} {post : Option Sv ⊕ String → Hp → Prop} {h hc hm : Hp} {b g : Nat → Nat} {w xw o b0 : Nat} {xs : Nat → Int32} (hX : va_X b0 7 xs s s.heap) (hbl : b0 < s.heap.size) (hbA : ¬ A b0) (S : LSt h hc hm o) (kx : hK hc (b 0) = 12) (km : hK hm (g 0) = 13) (fc : FC hc b w xw) (fm : FM2 hm g) (hd : 10 < d) (fin : ∀ u uc um, True → True → LSt u uc um o → Jp mL_law p l e s m args below meth c0 Q D cy A MC MS d 0 0 post 1884 [some (vr (some b0)), some (vr (some (b 0))), some (vr (some (g 0))), some (vr (some o)), some (vi (nI 0)), none, none] [] u) : Jp mL_law p l e s m args below meth c0 Q D cy A MC MS d 1000 10000 post 901 [some (vr (some b0)), some (vr (some (b 0))), some (vr (some (g 0))), some (vr (some o)), some (vi (nI 0)), none, none] [] h := by
  exact lw_undo (K := fun _ => True) (K2 := fun _ => True) (th := 1) (r := 0) hX hbl hbA (by omega) (by omega) S kx km (by decide) (con_postX (d_undo fc) px_py) (con_postC (e_undo fm.1) an_am) (by omega) (by omega) (mc3 := 0) (ms3 := 0) (by decide) (by decide) fin

set_option maxRecDepth 20000 in
theorem p1_c11 {p : Program} {l : Launch} {e : Env} {s : State} {m : MethodId} {args : Array Value} {below : List Frame} {meth : Method} {c0 : Code} {Q : State → Prop} {D : va_G} {cy : Nat → ClassId} {A : Nat → Prop} {MC MS d : Nat} {post : Option Sv ⊕ String → Hp → Prop} {h hc hm : Hp} {b g : Nat → Nat} {w xw o b0 : Nat} {xs : Nat → Int32} (hX : va_X b0 7 xs s s.heap) (hbl : b0 < s.heap.size) (hbA : ¬ A b0) (S : LSt h hc hm o) (kx : hK hc (b 0) = 12) (km : hK hm (g 0) = 13) (fc : FC hc b w xw) (fm : FM2 hm g) (hd : 10 < d) (fin : ∀ u uc um, True → True → LSt u uc um o → Jp mL_law p l e s m args below meth c0 Q D cy A MC MS d 0 0 post 1884 [some (vr (some b0)), some (vr (some (b 0))), some (vr (some (g 0))), some (vr (some o)), some (vi (nI 0)), none, none] [] u) : Jp mL_law p l e s m args below meth c0 Q D cy A MC MS d 1000 10000 post 945 [some (vr (some b0)), some (vr (some (b 0))), some (vr (some (g 0))), some (vr (some o)), some (vi (nI 0)), none, none] [] h := by
  exact lw_redo (K := fun _ => True) (K2 := fun _ => True) (th := 1) (r := 0) hX hbl hbA (by omega) (by omega) S kx km (by decide) (con_postX (d_redo fc) px_py) (con_postC (e_redo fm.1) an_am) (by omega) (by omega) (mc3 := 0) (ms3 := 0) (by decide) (by decide) fin

set_option maxRecDepth 20000 in
theorem p1_c12 {p : Program} {l : Launch} {e : Env} {s : State} {m : MethodId} {args : Array Value} {below : List Frame} {meth : Method} {c0 : Code} {Q : State → Prop} {D : va_G} {cy : Nat → ClassId} {A : Nat → Prop} {MC MS d : Nat} {post : Option Sv ⊕ String → Hp → Prop} {h hc hm : Hp} {b g : Nat → Nat} {w xw o b0 : Nat} {xs : Nat → Int32} (hX : va_X b0 7 xs s s.heap) (hbl : b0 < s.heap.size) (hbA : ¬ A b0) (S : LSt h hc hm o) (kx : hK hc (b 0) = 12) (km : hK hm (g 0) = 13) (fc : FC hc b w xw) (fm : FM2 hm g) (hd : 10 < d) (fin : ∀ u uc um, True → True → LSt u uc um o → Jp mL_law p l e s m args below meth c0 Q D cy A MC MS d 0 0 post 1884 [some (vr (some b0)), some (vr (some (b 0))), some (vr (some (g 0))), some (vr (some o)), some (vi (nI 0)), none, none] [] u) : Jp mL_law p l e s m args below meth c0 Q D cy A MC MS d 1000 10000 post 989 [some (vr (some b0)), some (vr (some (b 0))), some (vr (some (g 0))), some (vr (some o)), some (vi (nI 0)), none, none] [] h := by
  exact lw_commit (K := fun _ => True) (K2 := fun _ => True) (th := 0) (r := 1) hX hbl hbA (by omega) (by omega) S kx km (by decide) (con_postX (d_commit fc) px_py) (con_postC (e_commit fm.1) an_am) (by omega) (by omega) (mc3 := 0) (ms3 := 0) (by decide) (by decide) fin

set_option maxRecDepth 20000 in
theorem p1_c13 {p : Program} {l : Launch} {e : Env} {s : State} {m : MethodId} {args : Array Value} {below : List Frame} {meth : Method} {c0 : Code} {Q : State → Prop} {D : va_G} {cy : Nat → ClassId} {A : Nat → Prop} {MC MS d : Nat} {post : Option Sv ⊕ String → Hp → Prop} {h hc hm : Hp} {b g : Nat → Nat} {w xw o b0 : Nat} {xs : Nat → Int32} (hX : va_X b0 7 xs s s.heap) (hbl : b0 < s.heap.size) (hbA : ¬ A b0) (S : LSt h hc hm o) (kx : hK hc (b 0) = 12) (km : hK hm (g 0) = 13) (fc : FC hc b w xw) (fm : FM2 hm g) (hd : 10 < d) (fin : ∀ u uc um, True → True → LSt u uc um o → Jp mL_law p l e s m args below meth c0 Q D cy A MC MS d 0 0 post 1884 [some (vr (some b0)), some (vr (some (b 0))), some (vr (some (g 0))), some (vr (some o)), some (vi (nI 0)), none, none] [] u) : Jp mL_law p l e s m args below meth c0 Q D cy A MC MS d 1000 10000 post 1033 [some (vr (some b0)), some (vr (some (b 0))), some (vr (some (g 0))), some (vr (some o)), some (vi (nI 0)), none, none] [] h := by
  exact lw_branch (K := fun _ => True) (K2 := fun _ => True) (th := if 0 ≤ (xs (0 + 1)) ∧ (xs (0 + 1)) ≤ 5 then (if (xs (0 + 1)) = 0 then 2 else 0) else 1) (r := 0) hX hbl hbA (by omega) (by omega) S kx km (it2 (it2 (by decide) (by decide)) (by decide)) (con_postX (d_branch (xs (0 + 1)) fc) px_py) (con_postC (e_branch (xs (0 + 1)) fm.1) an_am) (by omega) (by omega) (mc3 := 0) (ms3 := 0) (by decide) (by decide) fin

set_option maxRecDepth 20000 in
theorem p1_c14 {p : Program} {l : Launch} {e : Env} {s : State} {m : MethodId} {args : Array Value} {below : List Frame} {meth : Method} {c0 : Code} {Q : State → Prop} {D : va_G} {cy : Nat → ClassId} {A : Nat → Prop} {MC MS d : Nat} {post : Option Sv ⊕ String → Hp → Prop} {h hc hm : Hp} {b g : Nat → Nat} {w xw o b0 : Nat} {xs : Nat → Int32} (hX : va_X b0 7 xs s s.heap) (hbl : b0 < s.heap.size) (hbA : ¬ A b0) (S : LSt h hc hm o) (kx : hK hc (b 0) = 12) (km : hK hm (g 0) = 13) (fc : FC hc b w xw) (fm : FM2 hm g) (hd : 10 < d) (fin : ∀ u uc um, True → True → LSt u uc um o → Jp mL_law p l e s m args below meth c0 Q D cy A MC MS d 0 0 post 1884 [some (vr (some b0)), some (vr (some (b 0))), some (vr (some (g 0))), some (vr (some o)), some (vi (nI 0)), none, none] [] u) : Jp mL_law p l e s m args below meth c0 Q D cy A MC MS d 1000 10000 post 1089 [some (vr (some b0)), some (vr (some (b 0))), some (vr (some (g 0))), some (vr (some o)), some (vi (nI 0)), none, none] [] h := by
  exact lw_go (K := fun _ => True) (K2 := fun _ => True) (th := if 0 ≤ (xs (0 + 1)) ∧ (xs (0 + 1)) ≤ 5 then (if (xs (0 + 1)) = 0 then 0 else 2) else 1) (r := 0) hX hbl hbA (by omega) (by omega) S kx km (it3 (it3 (by decide) (by decide)) (by decide)) (con_postX (d_go (xs (0 + 1)) fc) px_py) (con_postC (e_go (xs (0 + 1)) fm.1) an_am) (by omega) (by omega) (mc3 := 0) (ms3 := 0) (by decide) (by decide) fin

set_option maxRecDepth 20000 in
theorem p1_c15 {p : Program} {l : Launch} {e : Env} {s : State} {m : MethodId} {args : Array Value} {below : List Frame} {meth : Method} {c0 : Code} {Q : State → Prop} {D : va_G} {cy : Nat → ClassId} {A : Nat → Prop} {MC MS d : Nat} {post : Option Sv ⊕ String → Hp → Prop} {h hc hm : Hp} {b g : Nat → Nat} {w xw o b0 : Nat} {xs : Nat → Int32} (hX : va_X b0 7 xs s s.heap) (hbl : b0 < s.heap.size) (hbA : ¬ A b0) (S : LSt h hc hm o) (kx : hK hc (b 0) = 12) (km : hK hm (g 0) = 13) (fc : FC hc b w xw) (fm : FM2 hm g) (hd : 10 < d) (fin : ∀ u uc um, True → True → LSt u uc um o → Jp mL_law p l e s m args below meth c0 Q D cy A MC MS d 0 0 post 1884 [some (vr (some b0)), some (vr (some (b 0))), some (vr (some (g 0))), some (vr (some o)), some (vi (nI 0)), none, none] [] u) : Jp mL_law p l e s m args below meth c0 Q D cy A MC MS d 1000 10000 post 1145 [some (vr (some b0)), some (vr (some (b 0))), some (vr (some (g 0))), some (vr (some o)), some (vi (nI 0)), none, none] [] h := by
  exact lw_drop (K := fun _ => True) (K2 := fun _ => True) (r := 0) hX hbl hbA (by omega) (by omega) S kx km (con_postC (d_drop fc) (fun _ _ z => ⟨z.1, trivial⟩)) (con_postC (e_drop fm.1) (fun _ _ z => ⟨z, trivial⟩)) (by omega) (by omega) (mc3 := 0) (ms3 := 0) (by decide) (by decide) fin

set_option maxRecDepth 20000 in
theorem p1_c16 {p : Program} {l : Launch} {e : Env} {s : State} {m : MethodId} {args : Array Value} {below : List Frame} {meth : Method} {c0 : Code} {Q : State → Prop} {D : va_G} {cy : Nat → ClassId} {A : Nat → Prop} {MC MS d : Nat} {post : Option Sv ⊕ String → Hp → Prop} {h hc hm : Hp} {b g : Nat → Nat} {w xw o b0 : Nat} {xs : Nat → Int32} (hX : va_X b0 7 xs s s.heap) (hbl : b0 < s.heap.size) (hbA : ¬ A b0) (S : LSt h hc hm o) (kx : hK hc (b 0) = 12) (km : hK hm (g 0) = 13) (fc : FC hc b w xw) (fm : FM2 hm g) (hd : 10 < d) (fin : ∀ u uc um, True → True → LSt u uc um o → Jp mL_law p l e s m args below meth c0 Q D cy A MC MS d 0 0 post 1884 [some (vr (some b0)), some (vr (some (b 0))), some (vr (some (g 0))), some (vr (some o)), some (vi (nI 0)), none, none] [] u) : Jp mL_law p l e s m args below meth c0 Q D cy A MC MS d 1000 10000 post 1158 [some (vr (some b0)), some (vr (some (b 0))), some (vr (some (g 0))), some (vr (some o)), some (vi (nI 0)), none, none] [] h := by
  exact lw_merge (K := fun _ => True) (K2 := fun _ => True) (th := if 0 ≤ (xs (0 + 1)) ∧ (xs (0 + 1)) ≤ 5 then (if (xs (0 + 1)) = 0 then 0 else 2) else 1) (r := if 0 ≤ (xs (0 + 1)) ∧ (xs (0 + 1)) ≤ 5 then (if (xs (0 + 1)) = 0 then -1 else 0) else 0) hX hbl hbA (by omega) (by omega) S kx km (it4 (it4 (by decide) (by decide)) (by decide)) (con_postX (d_merge (xs (0 + 1)) fc) px_py) (con_postC (e_merge (xs (0 + 1)) fm.1) an_am) (by omega) (by omega) (mc3 := 0) (ms3 := 0) (by decide) (by decide) fin

set_option maxRecDepth 20000 in
theorem p1_c17 {p : Program} {l : Launch} {e : Env} {s : State} {m : MethodId} {args : Array Value} {below : List Frame} {meth : Method} {c0 : Code} {Q : State → Prop} {D : va_G} {cy : Nat → ClassId} {A : Nat → Prop} {MC MS d : Nat} {post : Option Sv ⊕ String → Hp → Prop} {h hc hm : Hp} {b g : Nat → Nat} {w xw o b0 : Nat} {xs : Nat → Int32} (hX : va_X b0 7 xs s s.heap) (hbl : b0 < s.heap.size) (hbA : ¬ A b0) (S : LSt h hc hm o) (kx : hK hc (b 0) = 12) (km : hK hm (g 0) = 13) (fc : FC hc b w xw) (fm : FM2 hm g) (hd : 10 < d) (fin : ∀ u uc um, True → True → LSt u uc um o → Jp mL_law p l e s m args below meth c0 Q D cy A MC MS d 0 0 post 1884 [some (vr (some b0)), some (vr (some (b 0))), some (vr (some (g 0))), some (vr (some o)), some (vi (nI 0)), none, none] [] u) : Jp mL_law p l e s m args below meth c0 Q D cy A MC MS d 1000 10000 post 1214 [some (vr (some b0)), some (vr (some (b 0))), some (vr (some (g 0))), some (vr (some o)), some (vi (nI 0)), none, none] [] h := by
  exact lw_pick (K := fun _ => True) (K2 := fun _ => True) (th := 1) (r := 0) hX hbl hbA (by omega) (by omega) S kx km (by decide) (con_postX (d_pick (xs (0 + 1)) fc) px_py) (con_postC (e_pick (xs (0 + 1)) fm.1) an_am) (by omega) (by omega) (mc3 := 0) (ms3 := 0) (by decide) (by decide) fin

set_option maxRecDepth 20000 in
theorem p1_c18 {p : Program} {l : Launch} {e : Env} {s : State} {m : MethodId} {args : Array Value} {below : List Frame} {meth : Method} {c0 : Code} {Q : State → Prop} {D : va_G} {cy : Nat → ClassId} {A : Nat → Prop} {MC MS d : Nat} {post : Option Sv ⊕ String → Hp → Prop} {h hc hm : Hp} {b g : Nat → Nat} {w xw o b0 : Nat} {xs : Nat → Int32} (hX : va_X b0 7 xs s s.heap) (hbl : b0 < s.heap.size) (hbA : ¬ A b0) (S : LSt h hc hm o) (kx : hK hc (b 0) = 12) (km : hK hm (g 0) = 13) (fc : FC hc b w xw) (fm : FM2 hm g) (hd : 10 < d) (fin : ∀ u uc um, True → True → LSt u uc um o → Jp mL_law p l e s m args below meth c0 Q D cy A MC MS d 0 0 post 1884 [some (vr (some b0)), some (vr (some (b 0))), some (vr (some (g 0))), some (vr (some o)), some (vi (nI 0)), none, none] [] u) : Jp mL_law p l e s m args below meth c0 Q D cy A MC MS d 1000 10000 post 1270 [some (vr (some b0)), some (vr (some (b 0))), some (vr (some (g 0))), some (vr (some o)), some (vi (nI 0)), none, none] [] h := by
  exact lw_conflict (K := fun _ => True) (K2 := fun _ => True) (r := -1) hX hbl hbA (by omega) (by omega) S kx km (con_postC (d_conflict (xs (0 + 1)) (xs (0 + 2)) fc) (fun _ _ z => ⟨z.2, trivial⟩)) (con_postC (e_conflict (xs (0 + 1)) (xs (0 + 2)) fm.1) (fun _ _ z => ⟨z, trivial⟩)) (by omega) (by omega) (mc3 := 0) (ms3 := 0) (by decide) (by decide) fin

set_option maxRecDepth 20000 in
theorem p1_c19 {p : Program} {l : Launch} {e : Env} {s : State} {m : MethodId} {args : Array Value} {below : List Frame} {meth : Method} {c0 : Code} {Q : State → Prop} {D : va_G} {cy : Nat → ClassId} {A : Nat → Prop} {MC MS d : Nat} {post : Option Sv ⊕ String → Hp → Prop} {h hc hm : Hp} {b g : Nat → Nat} {w xw o b0 : Nat} {xs : Nat → Int32} (hX : va_X b0 7 xs s s.heap) (hbl : b0 < s.heap.size) (hbA : ¬ A b0) (S : LSt h hc hm o) (kx : hK hc (b 0) = 12) (km : hK hm (g 0) = 13) (fc : FC hc b w xw) (fm : FM2 hm g) (hd : 10 < d) (fin : ∀ u uc um, True → True → LSt u uc um o → Jp mL_law p l e s m args below meth c0 Q D cy A MC MS d 0 0 post 1884 [some (vr (some b0)), some (vr (some (b 0))), some (vr (some (g 0))), some (vr (some o)), some (vi (nI 0)), none, none] [] u) : Jp mL_law p l e s m args below meth c0 Q D cy A MC MS d 1000 10000 post 1307 [some (vr (some b0)), some (vr (some (b 0))), some (vr (some (g 0))), some (vr (some o)), some (vi (nI 0)), none, none] [] h := by
  by_cases hb : (xs (0 + 2)) = 0
  · exact lw_choose0 (K := fun _ => True) (K2 := fun _ => True) (th := 1) (r := 0) hX hbl hbA (by omega) (by omega) hb S kx km (by decide) (con_postX (d_choose (xs (0 + 1)) 0 fc) px_py) (con_postC (e_choose (xs (0 + 1)) 0 fm.1) an_am) (by omega) (by omega) (mc3 := 0) (ms3 := 0) (by decide) (by decide) fin
  · exact lw_choose1 (K := fun _ => True) (K2 := fun _ => True) (th := 1) (r := 0) hX hbl hbA (by omega) (by omega) hb S kx km (by decide) (con_postX (d_choose (xs (0 + 1)) 1 fc) px_py) (con_postC (e_choose (xs (0 + 1)) 1 fm.1) an_am) (by omega) (by omega) (mc3 := 0) (ms3 := 0) (by decide) (by decide) fin

set_option maxRecDepth 20000 in
theorem p1_c20 {p : Program} {l : Launch} {e : Env} {s : State} {m : MethodId} {args : Array Value} {below : List Frame} {meth : Method} {c0 : Code} {Q : State → Prop} {D : va_G} {cy : Nat → ClassId} {A : Nat → Prop} {MC MS d : Nat} {post : Option Sv ⊕ String → Hp → Prop} {h hc hm : Hp} {b g : Nat → Nat} {w xw o b0 : Nat} {xs : Nat → Int32} (hX : va_X b0 7 xs s s.heap) (hbl : b0 < s.heap.size) (hbA : ¬ A b0) (S : LSt h hc hm o) (kx : hK hc (b 0) = 12) (km : hK hm (g 0) = 13) (fc : FC hc b w xw) (fm : FM2 hm g) (hd : 10 < d) (fin : ∀ u uc um, True → True → LSt u uc um o → Jp mL_law p l e s m args below meth c0 Q D cy A MC MS d 0 0 post 1884 [some (vr (some b0)), some (vr (some (b 0))), some (vr (some (g 0))), some (vr (some o)), some (vi (nI 0)), none, none] [] u) : Jp mL_law p l e s m args below meth c0 Q D cy A MC MS d 1000 10000 post 1391 [some (vr (some b0)), some (vr (some (b 0))), some (vr (some (g 0))), some (vr (some o)), some (vi (nI 0)), none, none] [] h := by
  exact lw_base (K := fun _ => True) (K2 := fun _ => True) (r := if (xs (0 + 1)) = 0 ∧ (xs (0 + 2)) = 0 then 0 else -1) hX hbl hbA (by omega) (by omega) S kx km (con_postC (d_base (xs (0 + 1)) (xs (0 + 2)) fc) (fun _ _ z => ⟨z.2, trivial⟩)) (con_postC (e_base (xs (0 + 1)) (xs (0 + 2)) fm.1) (fun _ _ z => ⟨z.1, trivial⟩)) (by omega) (by omega) (mc3 := 0) (ms3 := 0) (by decide) (by decide) fin

set_option maxRecDepth 20000 in
theorem p1_c21 {p : Program} {l : Launch} {e : Env} {s : State} {m : MethodId} {args : Array Value} {below : List Frame} {meth : Method} {c0 : Code} {Q : State → Prop} {D : va_G} {cy : Nat → ClassId} {A : Nat → Prop} {MC MS d : Nat} {post : Option Sv ⊕ String → Hp → Prop} {h hc hm : Hp} {b g : Nat → Nat} {w xw o b0 : Nat} {xs : Nat → Int32} (hX : va_X b0 7 xs s s.heap) (hbl : b0 < s.heap.size) (hbA : ¬ A b0) (S : LSt h hc hm o) (kx : hK hc (b 0) = 12) (km : hK hm (g 0) = 13) (fc : FC hc b w xw) (fm : FM2 hm g) (hd : 10 < d) (fin : ∀ u uc um, True → True → LSt u uc um o → Jp mL_law p l e s m args below meth c0 Q D cy A MC MS d 0 0 post 1884 [some (vr (some b0)), some (vr (some (b 0))), some (vr (some (g 0))), some (vr (some o)), some (vi (nI 0)), none, none] [] u) : Jp mL_law p l e s m args below meth c0 Q D cy A MC MS d 1000 10000 post 1428 [some (vr (some b0)), some (vr (some (b 0))), some (vr (some (g 0))), some (vr (some o)), some (vi (nI 0)), none, none] [] h := by
  exact lw_diff (K := fun _ => True) (K2 := fun _ => True) (th := if (-1 ≤ (xs (0 + 1)) ∧ (xs (0 + 1)) ≤ 0) ∧ (-1 ≤ (xs (0 + 2)) ∧ (xs (0 + 2)) ≤ 0) then 0 else 1) (r := 0) hX hbl hbA (by omega) (by omega) S kx km (it1 (by decide) (by decide)) (con_postX (d_diff (xs (0 + 1)) (xs (0 + 2)) fc) px_py) (con_postC (e_diff (xs (0 + 1)) (xs (0 + 2)) fm.1) an_am) (by omega) (by omega) (mc3 := 0) (ms3 := 0) (by decide) (by decide) fin

set_option maxRecDepth 20000 in
theorem p1_c22 {p : Program} {l : Launch} {e : Env} {s : State} {m : MethodId} {args : Array Value} {below : List Frame} {meth : Method} {c0 : Code} {Q : State → Prop} {D : va_G} {cy : Nat → ClassId} {A : Nat → Prop} {MC MS d : Nat} {post : Option Sv ⊕ String → Hp → Prop} {h hc hm : Hp} {b g : Nat → Nat} {w xw o b0 : Nat} {xs : Nat → Int32} (hX : va_X b0 7 xs s s.heap) (hbl : b0 < s.heap.size) (hbA : ¬ A b0) (S : LSt h hc hm o) (kx : hK hc (b 0) = 12) (km : hK hm (g 0) = 13) (fc : FC hc b w xw) (fm : FM2 hm g) (hd : 10 < d) (fin : ∀ u uc um, True → True → LSt u uc um o → Jp mL_law p l e s m args below meth c0 Q D cy A MC MS d 0 0 post 1884 [some (vr (some b0)), some (vr (some (b 0))), some (vr (some (g 0))), some (vr (some o)), some (vi (nI 0)), none, none] [] u) : Jp mL_law p l e s m args below meth c0 Q D cy A MC MS d 1000 10000 post 1496 [some (vr (some b0)), some (vr (some (b 0))), some (vr (some (g 0))), some (vr (some o)), some (vi (nI 0)), none, none] [] h := by
  exact lw_difference (K := fun _ => True) (K2 := fun _ => True) (r := -1) hX hbl hbA (by omega) (by omega) S kx km (con_postC (d_difference (xs (0 + 1)) (xs (0 + 2)) fc) (fun _ _ z => ⟨z.2, trivial⟩)) (con_postC (e_difference (xs (0 + 1)) (xs (0 + 2)) fm.1) (fun _ _ z => ⟨z, trivial⟩)) (by omega) (by omega) (mc3 := 0) (ms3 := 0) (by decide) (by decide) fin

set_option maxRecDepth 20000 in
theorem p1_c23 {p : Program} {l : Launch} {e : Env} {s : State} {m : MethodId} {args : Array Value} {below : List Frame} {meth : Method} {c0 : Code} {Q : State → Prop} {D : va_G} {cy : Nat → ClassId} {A : Nat → Prop} {MC MS d : Nat} {post : Option Sv ⊕ String → Hp → Prop} {h hc hm : Hp} {b g : Nat → Nat} {w xw o b0 : Nat} {xs : Nat → Int32} (hX : va_X b0 7 xs s s.heap) (hbl : b0 < s.heap.size) (hbA : ¬ A b0) (S : LSt h hc hm o) (kx : hK hc (b 0) = 12) (km : hK hm (g 0) = 13) (fc : FC hc b w xw) (fm : FM2 hm g) (hd : 10 < d) (fin : ∀ u uc um, True → True → LSt u uc um o → Jp mL_law p l e s m args below meth c0 Q D cy A MC MS d 0 0 post 1884 [some (vr (some b0)), some (vr (some (b 0))), some (vr (some (g 0))), some (vr (some o)), some (vi (nI 0)), none, none] [] u) : Jp mL_law p l e s m args below meth c0 Q D cy A MC MS d 1000 10000 post 1533 [some (vr (some b0)), some (vr (some (b 0))), some (vr (some (g 0))), some (vr (some o)), some (vi (nI 0)), none, none] [] h := by
  exact lw_blame (K := fun _ => True) (K2 := fun _ => True) (th := if inSh 8 6 (xs (0 + 1)) (xs (0 + 2)) then 0 else 1) (r := 0) hX hbl hbA (by omega) (by omega) S kx km (it1 (by decide) (by decide)) (con_postX (d_blame (xs (0 + 1)) (xs (0 + 2)) fc) px_py) (con_postC (e_blame (xs (0 + 1)) (xs (0 + 2)) fm.1) an_am) (by omega) (by omega) (mc3 := 0) (ms3 := 0) (by decide) (by decide) fin

set_option maxRecDepth 20000 in
theorem p1_c24 {p : Program} {l : Launch} {e : Env} {s : State} {m : MethodId} {args : Array Value} {below : List Frame} {meth : Method} {c0 : Code} {Q : State → Prop} {D : va_G} {cy : Nat → ClassId} {A : Nat → Prop} {MC MS d : Nat} {post : Option Sv ⊕ String → Hp → Prop} {h hc hm : Hp} {b g : Nat → Nat} {w xw o b0 : Nat} {xs : Nat → Int32} (hX : va_X b0 7 xs s s.heap) (hbl : b0 < s.heap.size) (hbA : ¬ A b0) (S : LSt h hc hm o) (kx : hK hc (b 0) = 12) (km : hK hm (g 0) = 13) (fc : FC hc b w xw) (fm : FM2 hm g) (hd : 10 < d) (fin : ∀ u uc um, True → True → LSt u uc um o → Jp mL_law p l e s m args below meth c0 Q D cy A MC MS d 0 0 post 1884 [some (vr (some b0)), some (vr (some (b 0))), some (vr (some (g 0))), some (vr (some o)), some (vi (nI 0)), none, none] [] u) : Jp mL_law p l e s m args below meth c0 Q D cy A MC MS d 1000 10000 post 1601 [some (vr (some b0)), some (vr (some (b 0))), some (vr (some (g 0))), some (vr (some o)), some (vi (nI 0)), none, none] [] h := by
  exact lw_sheet (K := fun _ => True) (K2 := fun _ => True) (r := shR (xs (0 + 1)) (xs (0 + 2))) hX hbl hbA (by omega) (by omega) S kx km (con_postC (d_sheet (xs (0 + 1)) (xs (0 + 2)) fc) (fun _ _ z => ⟨z.2, trivial⟩)) (con_postC (e_sheet (xs (0 + 1)) (xs (0 + 2)) fm.1) (fun _ _ z => ⟨z, trivial⟩)) (by omega) (by omega) (mc3 := 0) (ms3 := 0) (by decide) (by decide) fin

set_option maxRecDepth 20000 in
theorem p1_c25 {p : Program} {l : Launch} {e : Env} {s : State} {m : MethodId} {args : Array Value} {below : List Frame} {meth : Method} {c0 : Code} {Q : State → Prop} {D : va_G} {cy : Nat → ClassId} {A : Nat → Prop} {MC MS d : Nat} {post : Option Sv ⊕ String → Hp → Prop} {h hc hm : Hp} {b g : Nat → Nat} {w xw o b0 : Nat} {xs : Nat → Int32} (hX : va_X b0 7 xs s s.heap) (hbl : b0 < s.heap.size) (hbA : ¬ A b0) (S : LSt h hc hm o) (kx : hK hc (b 0) = 12) (km : hK hm (g 0) = 13) (fc : FC hc b w xw) (fm : FM2 hm g) (hd : 10 < d) (fin : ∀ u uc um, True → True → LSt u uc um o → Jp mL_law p l e s m args below meth c0 Q D cy A MC MS d 0 0 post 1884 [some (vr (some b0)), some (vr (some (b 0))), some (vr (some (g 0))), some (vr (some o)), some (vi (nI 0)), none, none] [] u) : Jp mL_law p l e s m args below meth c0 Q D cy A MC MS d 1000 10000 post 1638 [some (vr (some b0)), some (vr (some (b 0))), some (vr (some (g 0))), some (vr (some o)), some (vi (nI 0)), none, none] [] h := by
  by_cases hk : okA (xs (0 + 1)) (xs (0 + 2)) (xs (0 + 3))
  · obtain ⟨i, j, hi8, hj6, ey, ez⟩ := inSh_ex hk.2
    rcases m10 hk.1 with ex | ex
    · exact lw_kind (K := fun _ => True) (K2 := fun _ => True) (r := 0) hX hbl hbA (by omega) (by omega) S kx km (by rw [ex, ey, ez]; exact con_postC (d_kindW fc hi8 hj6) (fun _ _ z => ⟨z.1, trivial⟩)) (by rw [ex, ey, ez]; exact con_postC (e_kind40 fm hi8 hj6) (fun _ _ z => ⟨z, trivial⟩)) (by omega) (by omega) (mc3 := 0) (ms3 := 0) (by decide) (by decide) fin
    · exact lw_kind (K := fun _ => True) (K2 := fun _ => True) (r := 0) hX hbl hbA (by omega) (by omega) S kx km (by rw [ex, ey, ez]; exact con_postC (d_kind0 fc hi8 hj6) (fun _ _ z => ⟨z.1, trivial⟩)) (by rw [ex, ey, ez]; exact con_postC (e_kind0 fm hi8 hj6) (fun _ _ z => ⟨z, trivial⟩)) (by omega) (by omega) (mc3 := 0) (ms3 := 0) (by decide) (by decide) fin
  · exact lw_kind (K := fun _ => True) (K2 := fun _ => True) (r := -1) hX hbl hbA (by omega) (by omega) S kx km (con_postC (d_kindN (xs (0 + 1)) (xs (0 + 2)) (xs (0 + 3)) fc hk) (fun _ _ z => ⟨z.1, trivial⟩)) (con_postC (e_kindN (xs (0 + 1)) (xs (0 + 2)) (xs (0 + 3)) fm.1 hk) (fun _ _ z => ⟨z, trivial⟩)) (by omega) (by omega) (mc3 := 0) (ms3 := 0) (by decide) (by decide) fin

set_option maxRecDepth 20000 in
theorem p1_c26 {p : Program} {l : Launch} {e : Env} {s : State} {m : MethodId} {args : Array Value} {below : List Frame} {meth : Method} {c0 : Code} {Q : State → Prop} {D : va_G} {cy : Nat → ClassId} {A : Nat → Prop} {MC MS d : Nat} {post : Option Sv ⊕ String → Hp → Prop} {h hc hm : Hp} {b g : Nat → Nat} {w xw o b0 : Nat} {xs : Nat → Int32} (hX : va_X b0 7 xs s s.heap) (hbl : b0 < s.heap.size) (hbA : ¬ A b0) (S : LSt h hc hm o) (kx : hK hc (b 0) = 12) (km : hK hm (g 0) = 13) (fc : FC hc b w xw) (fm : FM2 hm g) (hd : 10 < d) (fin : ∀ u uc um, True → True → LSt u uc um o → Jp mL_law p l e s m args below meth c0 Q D cy A MC MS d 0 0 post 1884 [some (vr (some b0)), some (vr (some (b 0))), some (vr (some (g 0))), some (vr (some o)), some (vi (nI 0)), none, none] [] u) : Jp mL_law p l e s m args below meth c0 Q D cy A MC MS d 1000 10000 post 1687 [some (vr (some b0)), some (vr (some (b 0))), some (vr (some (g 0))), some (vr (some o)), some (vi (nI 0)), none, none] [] h := by
  by_cases hk : okA (xs (0 + 1)) (xs (0 + 2)) (xs (0 + 3))
  · obtain ⟨i, j, hi8, hj6, ey, ez⟩ := inSh_ex hk.2
    rcases m10 hk.1 with ex | ex
    · exact lw_value (K := fun _ => True) (K2 := fun _ => True) (r := 0) hX hbl hbA (by omega) (by omega) S kx km (by rw [ex, ey, ez]; exact con_postC (d_valueW fc hi8 hj6) (fun _ _ z => ⟨z.1, trivial⟩)) (by rw [ex, ey, ez]; exact con_postC (e_value40 fm hi8 hj6) (fun _ _ z => ⟨z, trivial⟩)) (by omega) (by omega) (mc3 := 0) (ms3 := 0) (by decide) (by decide) fin
    · exact lw_value (K := fun _ => True) (K2 := fun _ => True) (r := 0) hX hbl hbA (by omega) (by omega) S kx km (by rw [ex, ey, ez]; exact con_postC (d_value0 fc hi8 hj6) (fun _ _ z => ⟨z.1, trivial⟩)) (by rw [ex, ey, ez]; exact con_postC (e_value0 fm hi8 hj6) (fun _ _ z => ⟨z, trivial⟩)) (by omega) (by omega) (mc3 := 0) (ms3 := 0) (by decide) (by decide) fin
  · exact lw_value (K := fun _ => True) (K2 := fun _ => True) (r := 0) hX hbl hbA (by omega) (by omega) S kx km (con_postC (d_valueN (xs (0 + 1)) (xs (0 + 2)) (xs (0 + 3)) fc hk) (fun _ _ z => ⟨z.1, trivial⟩)) (con_postC (e_valueN (xs (0 + 1)) (xs (0 + 2)) (xs (0 + 3)) fm.1 hk) (fun _ _ z => ⟨z, trivial⟩)) (by omega) (by omega) (mc3 := 0) (ms3 := 0) (by decide) (by decide) fin

set_option maxRecDepth 20000 in
theorem p1_c27 {p : Program} {l : Launch} {e : Env} {s : State} {m : MethodId} {args : Array Value} {below : List Frame} {meth : Method} {c0 : Code} {Q : State → Prop} {D : va_G} {cy : Nat → ClassId} {A : Nat → Prop} {MC MS d : Nat} {post : Option Sv ⊕ String → Hp → Prop} {h hc hm : Hp} {b g : Nat → Nat} {w xw o b0 : Nat} {xs : Nat → Int32} (hX : va_X b0 7 xs s s.heap) (hbl : b0 < s.heap.size) (hbA : ¬ A b0) (S : LSt h hc hm o) (kx : hK hc (b 0) = 12) (km : hK hm (g 0) = 13) (fc : FC hc b w xw) (fm : FM2 hm g) (hd : 10 < d) (fin : ∀ u uc um, True → True → LSt u uc um o → Jp mL_law p l e s m args below meth c0 Q D cy A MC MS d 0 0 post 1884 [some (vr (some b0)), some (vr (some (b 0))), some (vr (some (g 0))), some (vr (some o)), some (vi (nI 0)), none, none] [] u) : Jp mL_law p l e s m args below meth c0 Q D cy A MC MS d 1000 10000 post 1737 [some (vr (some b0)), some (vr (some (b 0))), some (vr (some (g 0))), some (vr (some o)), some (vi (nI 0)), none, none] [] h := by
  by_cases hk : okA (xs (0 + 1)) (xs (0 + 2)) (xs (0 + 3))
  · obtain ⟨i, j, hi8, hj6, ey, ez⟩ := inSh_ex hk.2
    rcases m10 hk.1 with ex | ex
    · exact lw_letter (K := fun _ => True) (K2 := fun _ => True) (r := -1) hX hbl hbA (by omega) (by omega) S kx km (by rw [ex, ey, ez]; exact con_postC (d_letterW (xs (0 + 4)) fc hi8 hj6) (fun _ _ z => ⟨z.1, trivial⟩)) (by rw [ex, ey, ez]; exact con_postC (e_letter40 (xs (0 + 4)) fm hi8 hj6) (fun _ _ z => ⟨z, trivial⟩)) (by omega) (by omega) (mc3 := 0) (ms3 := 0) (by decide) (by decide) fin
    · exact lw_letter (K := fun _ => True) (K2 := fun _ => True) (r := -1) hX hbl hbA (by omega) (by omega) S kx km (by rw [ex, ey, ez]; exact con_postC (d_letter0 (xs (0 + 4)) fc hi8 hj6) (fun _ _ z => ⟨z.1, trivial⟩)) (by rw [ex, ey, ez]; exact con_postC (e_letter0 (xs (0 + 4)) fm hi8 hj6) (fun _ _ z => ⟨z, trivial⟩)) (by omega) (by omega) (mc3 := 0) (ms3 := 0) (by decide) (by decide) fin
  · exact lw_letter (K := fun _ => True) (K2 := fun _ => True) (r := -1) hX hbl hbA (by omega) (by omega) S kx km (con_postC (d_letterN (xs (0 + 1)) (xs (0 + 2)) (xs (0 + 3)) (xs (0 + 4)) fc hk) (fun _ _ z => ⟨z.1, trivial⟩)) (con_postC (e_letterN (xs (0 + 1)) (xs (0 + 2)) (xs (0 + 3)) (xs (0 + 4)) fm.1 hk) (fun _ _ z => ⟨z, trivial⟩)) (by omega) (by omega) (mc3 := 0) (ms3 := 0) (by decide) (by decide) fin

set_option maxRecDepth 20000 in
theorem p1_c28 {p : Program} {l : Launch} {e : Env} {s : State} {m : MethodId} {args : Array Value} {below : List Frame} {meth : Method} {c0 : Code} {Q : State → Prop} {D : va_G} {cy : Nat → ClassId} {A : Nat → Prop} {MC MS d : Nat} {post : Option Sv ⊕ String → Hp → Prop} {h hc hm : Hp} {b g : Nat → Nat} {w xw o b0 : Nat} {xs : Nat → Int32} (hX : va_X b0 7 xs s s.heap) (hbl : b0 < s.heap.size) (hbA : ¬ A b0) (S : LSt h hc hm o) (kx : hK hc (b 0) = 12) (km : hK hm (g 0) = 13) (fc : FC hc b w xw) (fm : FM2 hm g) (hd : 10 < d) (fin : ∀ u uc um, True → True → LSt u uc um o → Jp mL_law p l e s m args below meth c0 Q D cy A MC MS d 0 0 post 1884 [some (vr (some b0)), some (vr (some (b 0))), some (vr (some (g 0))), some (vr (some o)), some (vi (nI 0)), none, none] [] u) : Jp mL_law p l e s m args below meth c0 Q D cy A MC MS d 1000 10000 post 1798 [some (vr (some b0)), some (vr (some (b 0))), some (vr (some (g 0))), some (vr (some o)), some (vi (nI 0)), none, none] [] h := by
  by_cases hk : okA (xs (0 + 1)) (xs (0 + 2)) (xs (0 + 3))
  · obtain ⟨i, j, hi8, hj6, ey, ez⟩ := inSh_ex hk.2
    rcases m10 hk.1 with ex | ex
    · exact lw_written (K := fun _ => True) (K2 := fun _ => True) (r := -1) hX hbl hbA (by omega) (by omega) S kx km (by rw [ex, ey, ez]; exact con_postC (d_writtenW (xs (0 + 4)) fc hi8 hj6) (fun _ _ z => ⟨z.1, trivial⟩)) (by rw [ex, ey, ez]; exact con_postC (e_written40 (xs (0 + 4)) fm hi8 hj6) (fun _ _ z => ⟨z, trivial⟩)) (by omega) (by omega) (mc3 := 0) (ms3 := 0) (by decide) (by decide) fin
    · exact lw_written (K := fun _ => True) (K2 := fun _ => True) (r := -1) hX hbl hbA (by omega) (by omega) S kx km (by rw [ex, ey, ez]; exact con_postC (d_written0 (xs (0 + 4)) fc hi8 hj6) (fun _ _ z => ⟨z.1, trivial⟩)) (by rw [ex, ey, ez]; exact con_postC (e_written0 (xs (0 + 4)) fm hi8 hj6) (fun _ _ z => ⟨z, trivial⟩)) (by omega) (by omega) (mc3 := 0) (ms3 := 0) (by decide) (by decide) fin
  · exact lw_written (K := fun _ => True) (K2 := fun _ => True) (r := -1) hX hbl hbA (by omega) (by omega) S kx km (con_postC (d_writtenN (xs (0 + 1)) (xs (0 + 2)) (xs (0 + 3)) (xs (0 + 4)) fc hk) (fun _ _ z => ⟨z.1, trivial⟩)) (con_postC (e_writtenN (xs (0 + 1)) (xs (0 + 2)) (xs (0 + 3)) (xs (0 + 4)) fm.1 hk) (fun _ _ z => ⟨z, trivial⟩)) (by omega) (by omega) (mc3 := 0) (ms3 := 0) (by decide) (by decide) fin

set_option maxRecDepth 20000 in
theorem p1_c29 {p : Program} {l : Launch} {e : Env} {s : State} {m : MethodId} {args : Array Value} {below : List Frame} {meth : Method} {c0 : Code} {Q : State → Prop} {D : va_G} {cy : Nat → ClassId} {A : Nat → Prop} {MC MS d : Nat} {post : Option Sv ⊕ String → Hp → Prop} {h hc hm : Hp} {b g : Nat → Nat} {w xw o b0 : Nat} {xs : Nat → Int32} (hX : va_X b0 7 xs s s.heap) (hbl : b0 < s.heap.size) (hbA : ¬ A b0) (S : LSt h hc hm o) (kx : hK hc (b 0) = 12) (km : hK hm (g 0) = 13) (fc : FC hc b w xw) (fm : FM2 hm g) (hd : 10 < d) (fin : ∀ u uc um, True → True → LSt u uc um o → Jp mL_law p l e s m args below meth c0 Q D cy A MC MS d 0 0 post 1884 [some (vr (some b0)), some (vr (some (b 0))), some (vr (some (g 0))), some (vr (some o)), some (vi (nI 0)), none, none] [] u) : Jp mL_law p l e s m args below meth c0 Q D cy A MC MS d 1000 10000 post 1859 [some (vr (some b0)), some (vr (some (b 0))), some (vr (some (g 0))), some (vr (some o)), some (vi (nI 0)), none, none] [] h := by
  exact lw_total (K := fun _ => True) (K2 := fun _ => True) (r := toR (xs (0 + 1))) hX hbl hbA (by omega) (by omega) S kx km (con_postC (d_total (xs (0 + 1)) fc) (fun _ _ z => ⟨z.2, trivial⟩)) (con_postC (e_total (xs (0 + 1)) fm.1) (fun _ _ z => ⟨z, trivial⟩)) (by omega) (by omega) (mc3 := 0) (ms3 := 0) (by decide) (by decide) fin

set_option maxRecDepth 20000 in
theorem p1_loop {p : Program} {l : Launch} {e : Env} {s : State} {m : MethodId} {args : Array Value} {below : List Frame} {meth : Method} {c0 : Code} {Q : State → Prop} {D : va_G} {cy : Nat → ClassId} {A : Nat → Prop} {MC MS d : Nat} {post : Option Sv ⊕ String → Hp → Prop} {h hc hm : Hp} {b g : Nat → Nat} {w xw o b0 L : Nat} {xs : Nat → Int32} (hX : va_X b0 L xs s s.heap) (hbl : b0 < s.heap.size) (hbA : ¬ A b0) (hL : L ≤ 7) (S : LSt h hc hm o) (fc : FC hc b w xw) (fm : FM2 hm g) (hd : 10 < d) (hpost : ∀ u, post (.inl (some (vi 1))) u) : Jp mL_law p l e s m args below meth c0 Q D cy A MC MS d 1000 10000 post 23 [some (vr (some b0)), some (vr (some (b 0))), some (vr (some (g 0))), some (vr (some o)), some (vi (nI 0)), none, none] [] h := by
  have kx : hK hc (b 0) = 12 := fcK fc 0 rfl rfl
  have km : hK hm (g 0) = 13 := fm.1.1.1
  refine jp_iload dL_law_23 rfl ?_
  refine jp_aload_n dL_law_25 rfl ?_
  refine jp_slen dL_law_26 hX hbl hbA ?_
  refine jp_bipush (v := 7) dL_law_27 (by decide) ?_
  refine jp_isub dL_law_29 ?_
  refine jp_icmp_gt 1890 dL_law_30 (by decide) (fun c_30 => ?_) (fun c_30 => ?_)
  · refine jp_iconst (v := 1) dL_law_1890 (by decide) ?_
    exact jp_ireturn dL_law_1891 rfl rfl (hpost _)
  · have hL7 : L = 7 := by
      have q : L = 0 ∨ L = 1 ∨ L = 2 ∨ L = 3 ∨ L = 4 ∨ L = 5 ∨ L = 6 ∨ L = 7 := by omega
      rcases q with rfl | rfl | rfl | rfl | rfl | rfl | rfl | rfl
      · exact absurd (by decide) c_30
      · exact absurd (by decide) c_30
      · exact absurd (by decide) c_30
      · exact absurd (by decide) c_30
      · exact absurd (by decide) c_30
      · exact absurd (by decide) c_30
      · exact absurd (by decide) c_30
      · rfl
    subst hL7
    have fin : ∀ u uc um, True → True → LSt u uc um o → Jp mL_law p l e s m args below meth c0 Q D cy A MC MS d 0 0 post 1884 [some (vr (some b0)), some (vr (some (b 0))), some (vr (some (g 0))), some (vr (some o)), some (vi (nI 0)), none, none] [] u := fun u _ _ _ _ _ => p1_end hX hbl hbA hpost u
    refine jp_aload_n dL_law_33 rfl ?_
    refine jp_iload dL_law_34 rfl ?_
    refine jp_sld 0 dL_law_36 hX hbl hbA rfl (by decide) (by decide) ?_
    refine jp_bipush (v := 31) dL_law_37 (by decide) ?_
    refine jp_iand dL_law_39 ?_
    generalize xs 0 &&& 31 = sel
    rcases sw_29 sel with hsw | rfl | rfl | rfl | rfl | rfl | rfl | rfl | rfl | rfl | rfl | rfl | rfl | rfl | rfl | rfl | rfl | rfl | rfl | rfl | rfl | rfl | rfl | rfl | rfl | rfl | rfl | rfl | rfl | rfl | rfl
    · refine jp_tabOut 1884 dL_law_40 hsw (by decide) ?_
      exact jp_mono (by decide) (by decide) (fin _ _ _ trivial trivial S)
    · refine jp_tabIn 176 dL_law_40 (by decide) (by decide) rfl (by decide) ?_
      exact p1_c0 hX hbl hbA S kx km fc fm hd fin
    · refine jp_tabIn 249 dL_law_40 (by decide) (by decide) rfl (by decide) ?_
      exact p1_c1 hX hbl hbA S kx km fc fm hd fin
    · refine jp_tabIn 274 dL_law_40 (by decide) (by decide) rfl (by decide) ?_
      exact p1_c2 hX hbl hbA S kx km fc fm hd fin
    · refine jp_tabIn 342 dL_law_40 (by decide) (by decide) rfl (by decide) ?_
      exact p1_c3 hX hbl hbA S kx km fc fm hd fin
    · refine jp_tabIn 367 dL_law_40 (by decide) (by decide) rfl (by decide) ?_
      exact p1_c4 hX hbl hbA S kx km fc fm hd fin
    · refine jp_tabIn 459 dL_law_40 (by decide) (by decide) rfl (by decide) ?_
      exact p1_c5 hX hbl hbA S kx km fc fm hd fin
    · refine jp_tabIn 527 dL_law_40 (by decide) (by decide) rfl (by decide) ?_
      exact p1_c6 hX hbl hbA S kx km fc fm hd fin
    · refine jp_tabIn 595 dL_law_40 (by decide) (by decide) rfl (by decide) ?_
      exact p1_c7 hX hbl hbA S kx km fc fm hd fin
    · refine jp_tabIn 675 dL_law_40 (by decide) (by decide) rfl (by decide) ?_
      exact p1_c8 hX hbl hbA S kx km fc fm hd fin
    · refine jp_tabIn 793 dL_law_40 (by decide) (by decide) rfl (by decide) ?_
      exact p1_c9 hX hbl hbA S kx km fc fm hd fin
    · refine jp_tabIn 901 dL_law_40 (by decide) (by decide) rfl (by decide) ?_
      exact p1_c10 hX hbl hbA S kx km fc fm hd fin
    · refine jp_tabIn 945 dL_law_40 (by decide) (by decide) rfl (by decide) ?_
      exact p1_c11 hX hbl hbA S kx km fc fm hd fin
    · refine jp_tabIn 989 dL_law_40 (by decide) (by decide) rfl (by decide) ?_
      exact p1_c12 hX hbl hbA S kx km fc fm hd fin
    · refine jp_tabIn 1033 dL_law_40 (by decide) (by decide) rfl (by decide) ?_
      exact p1_c13 hX hbl hbA S kx km fc fm hd fin
    · refine jp_tabIn 1089 dL_law_40 (by decide) (by decide) rfl (by decide) ?_
      exact p1_c14 hX hbl hbA S kx km fc fm hd fin
    · refine jp_tabIn 1145 dL_law_40 (by decide) (by decide) rfl (by decide) ?_
      exact p1_c15 hX hbl hbA S kx km fc fm hd fin
    · refine jp_tabIn 1158 dL_law_40 (by decide) (by decide) rfl (by decide) ?_
      exact p1_c16 hX hbl hbA S kx km fc fm hd fin
    · refine jp_tabIn 1214 dL_law_40 (by decide) (by decide) rfl (by decide) ?_
      exact p1_c17 hX hbl hbA S kx km fc fm hd fin
    · refine jp_tabIn 1270 dL_law_40 (by decide) (by decide) rfl (by decide) ?_
      exact p1_c18 hX hbl hbA S kx km fc fm hd fin
    · refine jp_tabIn 1307 dL_law_40 (by decide) (by decide) rfl (by decide) ?_
      exact p1_c19 hX hbl hbA S kx km fc fm hd fin
    · refine jp_tabIn 1391 dL_law_40 (by decide) (by decide) rfl (by decide) ?_
      exact p1_c20 hX hbl hbA S kx km fc fm hd fin
    · refine jp_tabIn 1428 dL_law_40 (by decide) (by decide) rfl (by decide) ?_
      exact p1_c21 hX hbl hbA S kx km fc fm hd fin
    · refine jp_tabIn 1496 dL_law_40 (by decide) (by decide) rfl (by decide) ?_
      exact p1_c22 hX hbl hbA S kx km fc fm hd fin
    · refine jp_tabIn 1533 dL_law_40 (by decide) (by decide) rfl (by decide) ?_
      exact p1_c23 hX hbl hbA S kx km fc fm hd fin
    · refine jp_tabIn 1601 dL_law_40 (by decide) (by decide) rfl (by decide) ?_
      exact p1_c24 hX hbl hbA S kx km fc fm hd fin
    · refine jp_tabIn 1638 dL_law_40 (by decide) (by decide) rfl (by decide) ?_
      exact p1_c25 hX hbl hbA S kx km fc fm hd fin
    · refine jp_tabIn 1687 dL_law_40 (by decide) (by decide) rfl (by decide) ?_
      exact p1_c26 hX hbl hbA S kx km fc fm hd fin
    · refine jp_tabIn 1737 dL_law_40 (by decide) (by decide) rfl (by decide) ?_
      exact p1_c27 hX hbl hbA S kx km fc fm hd fin
    · refine jp_tabIn 1798 dL_law_40 (by decide) (by decide) rfl (by decide) ?_
      exact p1_c28 hX hbl hbA S kx km fc fm hd fin
    · refine jp_tabIn 1859 dL_law_40 (by decide) (by decide) rfl (by decide) ?_
      exact p1_c29 hX hbl hbA S kx km fc fm hd fin

def he : Hp := (fun _ => 0, fun _ => 0, fun _ _ => 0, fun _ _ => 0, fun _ _ => none)
set_option maxRecDepth 20000 in
theorem law_body {p : Program} {l : Launch} {e : Env} {s : State} {m : MethodId} {args : Array Value} {below : List Frame} {meth : Method} {c0 : Code} {Q : State → Prop} {D : va_G} {cy : Nat → ClassId} {A : Nat → Prop} {MC MS d : Nat} {post : Option Sv ⊕ String → Hp → Prop} {b0 mc ms : Nat} (hd : 10 < d) (k : ∀ (h hc hm : Hp) (b g : Nat → Nat) (w xw o : Nat), LSt h hc hm o → FC hc b w xw → FM2 hm g → Jp mL_law p l e s m args below meth c0 Q D cy A MC MS d mc ms post 23 [some (vr (some b0)), some (vr (some (b 0))), some (vr (some (g 0))), some (vr (some o)), some (vi (nI 0)), none, none] [] h) : Jp mL_law p l e s m args below meth c0 Q D cy A MC MS d (mc + 259) (ms + 1318899) post 0 [some (vr (some b0)), none, none, none, none, none, none] [] he := by
  refine jp_mono (mc' := (mc + 258) + 1) (ms' := (ms + 1318881) + fnum 11) (by omega) (by simp only [fnum]; omega) ?_
  refine jp_new dL_law_0 cl_11 nl_L_8 iw_11 zw_11 (fun qx hqx => ?_)
  refine jp_dup dL_law_3 rfl ?_
  refine jp_callI0 dL_law_4 il_L_78 (c_init11 (BK_new 0 qx 12 0 (BK_0 he) hqx rfl (by decide) rfl (by simp))) rfl (by omega) (by omega) (by omega) (Nat.le_of_ble_eq_true rfl) (fun v1 hc p1 => ?_)
  obtain ⟨rfl, b, w, xw, rfl, fc, -⟩ := p1
  dsimp only [rs]
  refine jp_astore_n dL_law_7 (by decide) ?_
  dsimp only [st1, st2, unL, List.set]
  refine jp_mono (mc' := (mc + 57) + 1) (ms' := (ms + 1298776) + fnum 12) (by omega) (by simp only [fnum]; omega) ?_
  refine jp_new dL_law_8 cl_12 nl_L_79 iw_12 zw_12 (fun qm hqm => ?_)
  refine jp_dup dL_law_11 rfl ?_
  have hsb : sub (nw he qm 13 0) (nw hc qm 13 0) := fun a ha => by
    have e : a = qm := Classical.byContradiction fun z => ha (by rw [hK_nw, if_neg z]; rfl)
    subst e
    exact ⟨by rw [hK_nw, hK_nw, if_pos rfl, if_pos rfl], by rw [hN_nw, hN_nw, if_pos rfl, if_pos rfl], by funext j; rw [hI_nw, hI_nw, if_pos rfl, if_pos rfl], by funext j; rw [hG_nw, hG_nw, if_pos rfl, if_pos rfl], by funext j; rw [hO_nw, hO_nw, if_pos rfl, if_pos rfl]⟩
  refine jp_callI0 dL_law_12 il_L_81 (con_frame (c_init12 (h0 := nw he qm 13 0) (a := qm) (by rw [hK_nw, if_pos rfl]) (by funext j; rw [hI_nw, if_pos rfl])) hsb) rfl (by omega) (by omega) (by omega) (Nat.le_of_ble_eq_true rfl) (fun v2 u2 p2 => ?_)
  obtain ⟨hm, ⟨rfl, g, rfl, fm, -⟩, rfl, fr⟩ := p2
  dsimp only [rs]
  have out : ∀ a, hK hc a ≠ 0 → a ≠ g 0 := fun a ha e => by rw [e] at ha; exact ha hqm
  have o1 : ∀ a, hK hc a ≠ 0 → hK (nw hc (g 0) 13 0) a ≠ 0 ∧ hK (nw he (g 0) 13 0) a = 0 := fun a ha => ⟨by rw [hK_nw, if_neg (out a ha)]; exact ha, by rw [hK_nw, if_neg (out a ha)]; rfl⟩
  have s1 : sub hc (mg (nw hc (g 0) 13 0) (nw he (g 0) 13 0) hm) := fun a ha => by
    obtain ⟨e1, e2, e3, e4, e5⟩ := mg_o (u := hm) (o1 a ha).1 (o1 a ha).2
    have n := out a ha
    exact ⟨e1.trans (by rw [hK_nw, if_neg n]), e2.trans (by rw [hN_nw, if_neg n]), e3.trans (by funext j; rw [hI_nw, if_neg n]), e4.trans (by funext j; rw [hG_nw, if_neg n]), e5.trans (by funext j; rw [hO_nw, if_neg n])⟩
  have s2 : sub hm (mg (nw hc (g 0) 13 0) (nw he (g 0) 13 0) hm) := fun a ha => mg_i (fun z => ha (fr a z.1 z.2))
  have s3 : ∀ a, hK hc a ≠ 0 → hK hm a = 0 := fun a ha => fr a (o1 a ha).1 (o1 a ha).2
  generalize mg (nw hc (g 0) 13 0) (nw he (g 0) 13 0) hm = h3 at s1 s2 ⊢
  refine jp_astore_n dL_law_15 (by decide) ?_
  dsimp only [st1, st2, unL, List.set]
  refine jp_iconst (v := 1) dL_law_16 (by decide) ?_
  refine jp_mono (mc' := mc + 1) (ms' := ms + 1) (by omega) (by omega) ?_
  refine jp_newJ 1 dL_law_17 ac_long rfl (by decide) (fun o ho => ?_)
  refine jp_astore_n dL_law_19 (by decide) ?_
  dsimp only [st1, st2, unL, List.set]
  refine jp_iconst (v := 0) dL_law_20 (by decide) ?_
  refine jp_istore dL_law_21 (by decide) ?_
  dsimp only [st1, st2, unL, List.set]
  refine jp_lle (lv' := [some (vr (some b0)), some (vr (some (b 0))), some (vr (some (g 0))), some (vr (some o)), some (vi (nI 0)), none, none]) (by first | (simp [lle]; done) | (simp [lle]; rfl)) ?_
  exact k _ hc hm b g w xw o (LSt_new s1 s2 s3 ho) fc fm
theorem p1_body {p : Program} {l : Launch} {e : Env} {s : State} {m : MethodId} {args : Array Value} {below : List Frame} {meth : Method} {c0 : Code} {Q : State → Prop} {D : va_G} {cy : Nat → ClassId} {A : Nat → Prop} {MC MS d : Nat} {post : Option Sv ⊕ String → Hp → Prop} {b0 L : Nat} {xs : Nat → Int32} (hX : va_X b0 L xs s s.heap) (hbl : b0 < s.heap.size) (hbA : ¬ A b0) (hL : L ≤ 7) (hd : 10 < d) (hpost : ∀ u, post (.inl (some (vi 1))) u) : Jp mL_law p l e s m args below meth c0 Q D cy A MC MS d 1300 1400000 post 0 [some (vr (some b0)), none, none, none, none, none, none] [] he :=
  jp_mono (mc' := 1000 + 259) (ms' := 10000 + 1318899) (by decide) (by decide) (law_body hd (fun h hc hm b g w xw o S fc fm => p1_loop hX hbl hbA hL S fc fm hd hpost))

