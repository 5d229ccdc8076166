/-! ===== whole out of a simulation: a relation that every call keeps ===== -/
theorem sw_29 (x : Int32) : (x.toInt < 0 ∨ 29 < x.toInt) ∨ x = 0 ∨ x = 1 ∨ x = 2 ∨ x = 3 ∨ x = 4 ∨ x = 5 ∨ x = 6 ∨ x = 7 ∨ x = 8 ∨ x = 9 ∨ x = 10 ∨ x = 11 ∨ x = 12 ∨ x = 13 ∨ x = 14 ∨ x = 15 ∨ x = 16 ∨ x = 17 ∨ x = 18 ∨ x = 19 ∨ x = 20 ∨ x = 21 ∨ x = 22 ∨ x = 23 ∨ x = 24 ∨ x = 25 ∨ x = 26 ∨ x = 27 ∨ x = 28 ∨ x = 29 := by
  by_cases h : x.toInt < 0 ∨ 29 < x.toInt
  · exact Or.inl h
  · right
    simp only [eq_i, Int32.reduceToInt]; omega
/-- calls left, room left, the object of the system, the cells of the reference, their two parts of the heap -/
abbrev SRT : Type := Nat → Nat → Nat → Nat → (Nat → Nat) → Hp → Hp → Prop
/-- a call that may throw keeps the relation, and both answer alike -/
def SimX (SR : SRT) (mX mM : MI) (l : List String) (as : List Sv) : Prop := ∀ n mc ms x g hc hm, SR (n + 1) mc ms x g hc hm → ∃ (th r : Int32) (K K2 : Hp → Prop) (d1 mc1 ms1 d2 mc2 ms2 mc3 ms3 : Nat), (∃ n : Nat, n ≤ l.length ∧ th = nI n) ∧ ConX mX d1 mc1 ms1 (vr (some x) :: as) hc (py K l th r) ∧ Con mM d2 mc2 ms2 (vr (some (g 0)) :: as) hm (am g K2 r th) ∧ (d1 + 1 < 2048 ∧ d2 < 2048) ∧ (mc1 + mc2 + mc3 ≤ mc ∧ ms1 + ms2 + ms3 ≤ ms) ∧ ∀ uc um, K uc → K2 um → SR n mc3 ms3 x g uc um
/-- a call that never throws -/
def SimD (SR : SRT) (mX mM : MI) (as : List Sv) : Prop := ∀ n mc ms x g hc hm, SR (n + 1) mc ms x g hc hm → ∃ (r : Int32) (K K2 : Hp → Prop) (d1 mc1 ms1 d2 mc2 ms2 mc3 ms3 : Nat), Con mX d1 mc1 ms1 (vr (some x) :: as) hc (fun v u => v = some (vi r) ∧ K u) ∧ Con mM d2 mc2 ms2 (vr (some (g 0)) :: as) hm (fun v u => v = some (vi r) ∧ K2 u) ∧ (d1 < 2048 ∧ d2 < 2048) ∧ (mc1 + mc2 + mc3 ≤ mc ∧ ms1 + ms2 + ms3 ≤ ms) ∧ ∀ uc um, K uc → K2 um → SR n mc3 ms3 x g uc um
def SimL (SR : SRT) (mX mM : MI) (as : List Sv) : Prop := ∀ n mc ms x g hc hm, SR (n + 1) mc ms x g hc hm → ∃ (r : Int64) (K K2 : Hp → Prop) (d1 mc1 ms1 d2 mc2 ms2 mc3 ms3 : Nat), Con mX d1 mc1 ms1 (vr (some x) :: as) hc (fun v u => v = some (vl r) ∧ K u) ∧ Con mM d2 mc2 ms2 (vr (some (g 0)) :: as) hm (fun v u => v = some (vl r) ∧ K2 u) ∧ (d1 < 2048 ∧ d2 < 2048) ∧ (mc1 + mc2 + mc3 ≤ mc ∧ ms1 + ms2 + ms3 ≤ ms) ∧ ∀ uc um, K uc → K2 um → SR n mc3 ms3 x g uc um
theorem th1 {th : Int32} {k : Nat} (hk : k = 1) (h : ∃ n : Nat, n ≤ k ∧ th = nI n) : th = 0 ∨ th = 1 := by
  obtain ⟨n, hn, rfl⟩ := h
  have q : n = 0 ∨ n = 1 := by omega
  rcases q with rfl | rfl <;> decide
theorem th2 {th : Int32} {k : Nat} (hk : k = 2) (h : ∃ n : Nat, n ≤ k ∧ th = nI n) : th = 0 ∨ th = 1 ∨ th = 2 := by
  obtain ⟨n, hn, rfl⟩ := h
  have q : n = 0 ∨ n = 1 ∨ n = 2 := by omega
  rcases q with rfl | rfl | rfl <;> decide
theorem th3 {th : Int32} {k : Nat} (hk : k = 3) (h : ∃ n : Nat, n ≤ k ∧ th = nI n) : th = 0 ∨ th = 1 ∨ th = 2 ∨ th = 3 := by
  obtain ⟨n, hn, rfl⟩ := h
  have q : n = 0 ∨ n = 1 ∨ n = 2 ∨ n = 3 := by omega
  rcases q with rfl | rfl | rfl | rfl <;> decide
theorem th4 {th : Int32} {k : Nat} (hk : k = 4) (h : ∃ n : Nat, n ≤ k ∧ th = nI n) : th = 0 ∨ th = 1 ∨ th = 2 ∨ th = 3 ∨ th = 4 := by
  obtain ⟨n, hn, rfl⟩ := h
  have q : n = 0 ∨ n = 1 ∨ n = 2 ∨ n = 3 ∨ n = 4 := by omega
  rcases q with rfl | rfl | rfl | rfl | rfl <;> decide
def Sm0 (SR : SRT) : Prop := ∀ p0 p1 p2 p3 p4 : Int32, SimD SR mX11_feed mX12_feed [vi p0, vi p1, vi p2, vi p3, vi p4]
def Sm1 (SR : SRT) : Prop := ∀ p0 : Int32, SimD SR mX11_end mX12_end [vi p0]
def Sm2 (SR : SRT) : Prop := ∀ p0 p1 : Int32, SimX SR mX11_enter mX12_enter ["java/lang/IndexOutOfBoundsException", "java/lang/IllegalArgumentException", "java/lang/UnsupportedOperationException"] [vi p0, vi p1]
def Sm3 (SR : SRT) : Prop := ∀ p0 : Int32, SimD SR mX11_fault mX12_fault [vi p0]
def Sm4 (SR : SRT) : Prop := ∀ p0 p1 p2 p3 : Int32, SimX SR mX11_erase mX12_erase ["java/lang/IndexOutOfBoundsException", "java/lang/IllegalArgumentException"] [vi p0, vi p1, vi p2, vi p3]
def Sm5 (SR : SRT) : Prop := ∀ p0 p1 : Int32, SimX SR mX11_insert mX12_insert ["java/lang/IllegalArgumentException", "java/lang/IndexOutOfBoundsException", "java/lang/IllegalStateException"] [vi p0, vi p1]
def Sm6 (SR : SRT) : Prop := ∀ p0 p1 : Int32, SimX SR mX11_remove mX12_remove ["java/lang/IllegalArgumentException", "java/lang/IndexOutOfBoundsException", "java/lang/IllegalStateException"] [vi p0, vi p1]
def Sm7 (SR : SRT) : Prop := ∀ p0 p1 p2 : Int32, SimX SR mX11_move mX12_move ["java/lang/IllegalArgumentException", "java/lang/IndexOutOfBoundsException"] [vi p0, vi p1, vi p2]
def Sm8 (SR : SRT) : Prop := ∀ p0 p1 p2 p3 p4 p5 : Int32, SimX SR mX11_copy mX12_copy ["java/lang/IndexOutOfBoundsException", "java/lang/IllegalArgumentException", "java/lang/UnsupportedOperationException"] [vi p0, vi p1, vi p2, vi p3, vi p4, vi p5]
def Sm9 (SR : SRT) : Prop := ∀ p0 p1 p2 p3 : Int32, SimX SR mX11_sort mX12_sort ["java/lang/IndexOutOfBoundsException", "java/lang/IllegalArgumentException"] [vi p0, vi p1, vi p2, vi (b2 (p3 ≠ 0))]
def Sm10 (SR : SRT) : Prop := SimX SR mX11_undo mX12_undo ["java/util/NoSuchElementException"] []
def Sm11 (SR : SRT) : Prop := SimX SR mX11_redo mX12_redo ["java/util/NoSuchElementException"] []
def Sm12 (SR : SRT) : Prop := SimX SR mX11_commit mX12_commit ["java/lang/IllegalStateException", "java/lang/UnsupportedOperationException"] []
def Sm13 (SR : SRT) : Prop := ∀ p0 : Int32, SimX SR mX11_branch mX12_branch ["java/lang/IndexOutOfBoundsException", "java/lang/IllegalStateException"] [vi p0]
def Sm14 (SR : SRT) : Prop := ∀ p0 : Int32, SimX SR mX11_go mX12_go ["java/lang/IndexOutOfBoundsException", "java/util/NoSuchElementException", "java/lang/IllegalStateException"] [vi p0]
def Sm15 (SR : SRT) : Prop := SimD SR mX11_drop mX12_drop []
def Sm16 (SR : SRT) : Prop := ∀ p0 : Int32, SimX SR mX11_merge mX12_merge ["java/lang/IndexOutOfBoundsException", "java/util/NoSuchElementException", "java/lang/UnsupportedOperationException", "java/lang/IllegalStateException"] [vi p0]
def Sm17 (SR : SRT) : Prop := ∀ p0 : Int32, SimX SR mX11_pick mX12_pick ["java/util/NoSuchElementException", "java/lang/UnsupportedOperationException", "java/lang/IllegalStateException"] [vi p0]
def Sm18 (SR : SRT) : Prop := ∀ p0 p1 : Int32, SimD SR mX11_conflict mX12_conflict [vi p0, vi p1]
def Sm19 (SR : SRT) : Prop := ∀ p0 p1 : Int32, SimX SR mX11_choose mX12_choose ["java/lang/IndexOutOfBoundsException"] [vi p0, vi (b2 (p1 ≠ 0))]
def Sm20 (SR : SRT) : Prop := ∀ p0 p1 : Int32, SimD SR mX11_base mX12_base [vi p0, vi p1]
def Sm21 (SR : SRT) : Prop := ∀ p0 p1 : Int32, SimX SR mX11_diff mX12_diff ["java/util/NoSuchElementException"] [vi p0, vi p1]
def Sm22 (SR : SRT) : Prop := ∀ p0 p1 : Int32, SimD SR mX11_difference mX12_difference [vi p0, vi p1]
def Sm23 (SR : SRT) : Prop := ∀ p0 p1 : Int32, SimX SR mX11_blame mX12_blame ["java/lang/IndexOutOfBoundsException"] [vi p0, vi p1]
def Sm24 (SR : SRT) : Prop := ∀ p0 p1 : Int32, SimD SR mX11_sheet mX12_sheet [vi p0, vi p1]
def Sm25 (SR : SRT) : Prop := ∀ p0 p1 p2 : Int32, SimD SR mX11_kind mX12_kind [vi p0, vi p1, vi p2]
def Sm26 (SR : SRT) : Prop := ∀ p0 p1 p2 : Int32, SimL SR mX11_value mX12_value [vi p0, vi p1, vi p2]
def Sm27 (SR : SRT) : Prop := ∀ p0 p1 p2 p3 : Int32, SimD SR mX11_letter mX12_letter [vi p0, vi p1, vi p2, vi p3]
def Sm28 (SR : SRT) : Prop := ∀ p0 p1 p2 p3 : Int32, SimD SR mX11_written mX12_written [vi p0, vi p1, vi p2, vi p3]
def Sm29 (SR : SRT) : Prop := ∀ p0 : Int32, SimD SR mX11_total mX12_total [vi p0]
def Sims (SR : SRT) : Prop := (∀ n mc ms x g hc hm, SR n mc ms x g hc hm → hK hc x = 12 ∧ hK hm (g 0) = 13 ∧ ∀ k, k ≤ n → SR k mc ms x g hc hm) ∧ Sm0 SR ∧ Sm1 SR ∧ Sm2 SR ∧ Sm3 SR ∧ Sm4 SR ∧ Sm5 SR ∧ Sm6 SR ∧ Sm7 SR ∧ Sm8 SR ∧ Sm9 SR ∧ Sm10 SR ∧ Sm11 SR ∧ Sm12 SR ∧ Sm13 SR ∧ Sm14 SR ∧ Sm15 SR ∧ Sm16 SR ∧ Sm17 SR ∧ Sm18 SR ∧ Sm19 SR ∧ Sm20 SR ∧ Sm21 SR ∧ Sm22 SR ∧ Sm23 SR ∧ Sm24 SR ∧ Sm25 SR ∧ Sm26 SR ∧ Sm27 SR ∧ Sm28 SR ∧ Sm29 SR
set_option maxRecDepth 20000 in
theorem sm_0 {p : Program} {l : Launch} {e : Env} {s : State} {m : MethodId} {args : Array Value} {below : List Frame} {meth : Method} {c0 : Code} {Q : State → Prop} {D : va_G} {cy : Nat → ClassId} {A : Nat → Prop} {MC MS : Nat} {post : Option Sv ⊕ String → Hp → Prop} {SR : SRT} {h hc hm : Hp} {x o b0 i L mc ms : Nat} {g : Nat → Nat} {xs : Nat → Int32} (hX : va_X b0 L xs s s.heap) (hbl : b0 < s.heap.size) (hbA : ¬ A b0) (hi : i + 7 ≤ L) (hL : L < 4000) (S : LSt h hc hm o) (kx : hK hc x = 12) (km : hK hm (g 0) = 13) (H : Sm0 SR) {n : Nat} (hsr : SR (n + 1) mc ms x g hc hm) (fin : ∀ mc3 ms3 u uc um, SR n mc3 ms3 x g uc um → LSt u uc um o → Jp mL_law p l e s m args below meth c0 Q D cy A MC MS 2048 mc3 ms3 post 1884 [some (vr (some b0)), some (vr (some x)), some (vr (some (g 0))), some (vr (some o)), some (vi (nI i)), none, none] [] u) : Jp mL_law p l e s m args below meth c0 Q D cy A MC MS 2048 mc ms post 176 [some (vr (some b0)), some (vr (some x)), some (vr (some (g 0))), some (vr (some o)), some (vi (nI i)), none, none] [] h := by
  obtain ⟨r, K, K2, d1, mc1, ms1, d2, mc2, ms2, mc3, ms3, con, cnm, ⟨hd1, hd2⟩, ⟨hmc, hms⟩, hk⟩ := H (xs (i + 1)) (xs (i + 2)) (xs (i + 3)) (xs (i + 4)) (xs (i + 5)) n mc ms x g hc hm hsr
  exact lw_feed hX hbl hbA hi hL S kx km con cnm hd1 hd2 hmc hms (fun u uc um h1 h2 h3 => fin mc3 ms3 u uc um (hk uc um h1 h2) h3)
set_option maxRecDepth 20000 in
theorem sm_1 {p : Program} {l : Launch} {e : Env} {s : State} {m : MethodId} {args : Array Value} {below : List Frame} {meth : Method} {c0 : Code} {Q : State → Prop} {D : va_G} {cy : Nat → ClassId} {A : Nat → Prop} {MC MS : Nat} {post : Option Sv ⊕ String → Hp → Prop} {SR : SRT} {h hc hm : Hp} {x o b0 i L mc ms : Nat} {g : Nat → Nat} {xs : Nat → Int32} (hX : va_X b0 L xs s s.heap) (hbl : b0 < s.heap.size) (hbA : ¬ A b0) (hi : i + 7 ≤ L) (hL : L < 4000) (S : LSt h hc hm o) (kx : hK hc x = 12) (km : hK hm (g 0) = 13) (H : Sm1 SR) {n : Nat} (hsr : SR (n + 1) mc ms x g hc hm) (fin : ∀ mc3 ms3 u uc um, SR n mc3 ms3 x g uc um → LSt u uc um o → Jp mL_law p l e s m args below meth c0 Q D cy A MC MS 2048 mc3 ms3 post 1884 [some (vr (some b0)), some (vr (some x)), some (vr (some (g 0))), some (vr (some o)), some (vi (nI i)), none, none] [] u) : Jp mL_law p l e s m args below meth c0 Q D cy A MC MS 2048 mc ms post 249 [some (vr (some b0)), some (vr (some x)), some (vr (some (g 0))), some (vr (some o)), some (vi (nI i)), none, none] [] h := by
  obtain ⟨r, K, K2, d1, mc1, ms1, d2, mc2, ms2, mc3, ms3, con, cnm, ⟨hd1, hd2⟩, ⟨hmc, hms⟩, hk⟩ := H (xs (i + 1)) n mc ms x g hc hm hsr
  exact lw_end hX hbl hbA hi hL S kx km con cnm hd1 hd2 hmc hms (fun u uc um h1 h2 h3 => fin mc3 ms3 u uc um (hk uc um h1 h2) h3)
set_option maxRecDepth 20000 in
theorem sm_2 {p : Program} {l : Launch} {e : Env} {s : State} {m : MethodId} {args : Array Value} {below : List Frame} {meth : Method} {c0 : Code} {Q : State → Prop} {D : va_G} {cy : Nat → ClassId} {A : Nat → Prop} {MC MS : Nat} {post : Option Sv ⊕ String → Hp → Prop} {SR : SRT} {h hc hm : Hp} {x o b0 i L mc ms : Nat} {g : Nat → Nat} {xs : Nat → Int32} (hX : va_X b0 L xs s s.heap) (hbl : b0 < s.heap.size) (hbA : ¬ A b0) (hi : i + 7 ≤ L) (hL : L < 4000) (S : LSt h hc hm o) (kx : hK hc x = 12) (km : hK hm (g 0) = 13) (H : Sm2 SR) {n : Nat} (hsr : SR (n + 1) mc ms x g hc hm) (fin : ∀ mc3 ms3 u uc um, SR n mc3 ms3 x g uc um → LSt u uc um o → Jp mL_law p l e s m args below meth c0 Q D cy A MC MS 2048 mc3 ms3 post 1884 [some (vr (some b0)), some (vr (some x)), some (vr (some (g 0))), some (vr (some o)), some (vi (nI i)), none, none] [] u) : Jp mL_law p l e s m args below meth c0 Q D cy A MC MS 2048 mc ms post 274 [some (vr (some b0)), some (vr (some x)), some (vr (some (g 0))), some (vr (some o)), some (vi (nI i)), none, none] [] h := by
  obtain ⟨th, r, K, K2, d1, mc1, ms1, d2, mc2, ms2, mc3, ms3, hth, con, cnm, ⟨hd1, hd2⟩, ⟨hmc, hms⟩, hk⟩ := H (xs (i + 1)) (xs (i + 2)) n mc ms x g hc hm hsr
  exact lw_enter hX hbl hbA hi hL S kx km (th3 rfl hth) con cnm hd1 hd2 hmc hms (fun u uc um h1 h2 h3 => fin mc3 ms3 u uc um (hk uc um h1 h2) h3)
set_option maxRecDepth 20000 in
theorem sm_3 {p : Program} {l : Launch} {e : Env} {s : State} {m : MethodId} {args : Array Value} {below : List Frame} {meth : Method} {c0 : Code} {Q : State → Prop} {D : va_G} {cy : Nat → ClassId} {A : Nat → Prop} {MC MS : Nat} {post : Option Sv ⊕ String → Hp → Prop} {SR : SRT} {h hc hm : Hp} {x o b0 i L mc ms : Nat} {g : Nat → Nat} {xs : Nat → Int32} (hX : va_X b0 L xs s s.heap) (hbl : b0 < s.heap.size) (hbA : ¬ A b0) (hi : i + 7 ≤ L) (hL : L < 4000) (S : LSt h hc hm o) (kx : hK hc x = 12) (km : hK hm (g 0) = 13) (H : Sm3 SR) {n : Nat} (hsr : SR (n + 1) mc ms x g hc hm) (fin : ∀ mc3 ms3 u uc um, SR n mc3 ms3 x g uc um → LSt u uc um o → Jp mL_law p l e s m args below meth c0 Q D cy A MC MS 2048 mc3 ms3 post 1884 [some (vr (some b0)), some (vr (some x)), some (vr (some (g 0))), some (vr (some o)), some (vi (nI i)), none, none] [] u) : Jp mL_law p l e s m args below meth c0 Q D cy A MC MS 2048 mc ms post 342 [some (vr (some b0)), some (vr (some x)), some (vr (some (g 0))), some (vr (some o)), some (vi (nI i)), none, none] [] h := by
  obtain ⟨r, K, K2, d1, mc1, ms1, d2, mc2, ms2, mc3, ms3, con, cnm, ⟨hd1, hd2⟩, ⟨hmc, hms⟩, hk⟩ := H (xs (i + 1)) n mc ms x g hc hm hsr
  exact lw_fault hX hbl hbA hi hL S kx km con cnm hd1 hd2 hmc hms (fun u uc um h1 h2 h3 => fin mc3 ms3 u uc um (hk uc um h1 h2) h3)
set_option maxRecDepth 20000 in
theorem sm_4 {p : Program} {l : Launch} {e : Env} {s : State} {m : MethodId} {args : Array Value} {below : List Frame} {meth : Method} {c0 : Code} {Q : State → Prop} {D : va_G} {cy : Nat → ClassId} {A : Nat → Prop} {MC MS : Nat} {post : Option Sv ⊕ String → Hp → Prop} {SR : SRT} {h hc hm : Hp} {x o b0 i L mc ms : Nat} {g : Nat → Nat} {xs : Nat → Int32} (hX : va_X b0 L xs s s.heap) (hbl : b0 < s.heap.size) (hbA : ¬ A b0) (hi : i + 7 ≤ L) (hL : L < 4000) (S : LSt h hc hm o) (kx : hK hc x = 12) (km : hK hm (g 0) = 13) (H : Sm4 SR) {n : Nat} (hsr : SR (n + 1) mc ms x g hc hm) (fin : ∀ mc3 ms3 u uc um, SR n mc3 ms3 x g uc um → LSt u uc um o → Jp mL_law p l e s m args below meth c0 Q D cy A MC MS 2048 mc3 ms3 post 1884 [some (vr (some b0)), some (vr (some x)), some (vr (some (g 0))), some (vr (some o)), some (vi (nI i)), none, none] [] u) : Jp mL_law p l e s m args below meth c0 Q D cy A MC MS 2048 mc ms post 367 [some (vr (some b0)), some (vr (some x)), some (vr (some (g 0))), some (vr (some o)), some (vi (nI i)), none, none] [] h := by
  obtain ⟨th, r, K, K2, d1, mc1, ms1, d2, mc2, ms2, mc3, ms3, hth, con, cnm, ⟨hd1, hd2⟩, ⟨hmc, hms⟩, hk⟩ := H (xs (i + 1)) (xs (i + 2)) (xs (i + 3)) (xs (i + 4)) n mc ms x g hc hm hsr
  exact lw_erase hX hbl hbA hi hL S kx km (th2 rfl hth) con cnm hd1 hd2 hmc hms (fun u uc um h1 h2 h3 => fin mc3 ms3 u uc um (hk uc um h1 h2) h3)
set_option maxRecDepth 20000 in
theorem sm_5 {p : Program} {l : Launch} {e : Env} {s : State} {m : MethodId} {args : Array Value} {below : List Frame} {meth : Method} {c0 : Code} {Q : State → Prop} {D : va_G} {cy : Nat → ClassId} {A : Nat → Prop} {MC MS : Nat} {post : Option Sv ⊕ String → Hp → Prop} {SR : SRT} {h hc hm : Hp} {x o b0 i L mc ms : Nat} {g : Nat → Nat} {xs : Nat → Int32} (hX : va_X b0 L xs s s.heap) (hbl : b0 < s.heap.size) (hbA : ¬ A b0) (hi : i + 7 ≤ L) (hL : L < 4000) (S : LSt h hc hm o) (kx : hK hc x = 12) (km : hK hm (g 0) = 13) (H : Sm5 SR) {n : Nat} (hsr : SR (n + 1) mc ms x g hc hm) (fin : ∀ mc3 ms3 u uc um, SR n mc3 ms3 x g uc um → LSt u uc um o → Jp mL_law p l e s m args below meth c0 Q D cy A MC MS 2048 mc3 ms3 post 1884 [some (vr (some b0)), some (vr (some x)), some (vr (some (g 0))), some (vr (some o)), some (vi (nI i)), none, none] [] u) : Jp mL_law p l e s m args below meth c0 Q D cy A MC MS 2048 mc ms post 459 [some (vr (some b0)), some (vr (some x)), some (vr (some (g 0))), some (vr (some o)), some (vi (nI i)), none, none] [] h := by
  obtain ⟨th, r, K, K2, d1, mc1, ms1, d2, mc2, ms2, mc3, ms3, hth, con, cnm, ⟨hd1, hd2⟩, ⟨hmc, hms⟩, hk⟩ := H (xs (i + 1)) (xs (i + 2)) n mc ms x g hc hm hsr
  exact lw_insert hX hbl hbA hi hL S kx km (th3 rfl hth) con cnm hd1 hd2 hmc hms (fun u uc um h1 h2 h3 => fin mc3 ms3 u uc um (hk uc um h1 h2) h3)
set_option maxRecDepth 20000 in
theorem sm_6 {p : Program} {l : Launch} {e : Env} {s : State} {m : MethodId} {args : Array Value} {below : List Frame} {meth : Method} {c0 : Code} {Q : State → Prop} {D : va_G} {cy : Nat → ClassId} {A : Nat → Prop} {MC MS : Nat} {post : Option Sv ⊕ String → Hp → Prop} {SR : SRT} {h hc hm : Hp} {x o b0 i L mc ms : Nat} {g : Nat → Nat} {xs : Nat → Int32} (hX : va_X b0 L xs s s.heap) (hbl : b0 < s.heap.size) (hbA : ¬ A b0) (hi : i + 7 ≤ L) (hL : L < 4000) (S : LSt h hc hm o) (kx : hK hc x = 12) (km : hK hm (g 0) = 13) (H : Sm6 SR) {n : Nat} (hsr : SR (n + 1) mc ms x g hc hm) (fin : ∀ mc3 ms3 u uc um, SR n mc3 ms3 x g uc um → LSt u uc um o → Jp mL_law p l e s m args below meth c0 Q D cy A MC MS 2048 mc3 ms3 post 1884 [some (vr (some b0)), some (vr (some x)), some (vr (some (g 0))), some (vr (some o)), some (vi (nI i)), none, none] [] u) : Jp mL_law p l e s m args below meth c0 Q D cy A MC MS 2048 mc ms post 527 [some (vr (some b0)), some (vr (some x)), some (vr (some (g 0))), some (vr (some o)), some (vi (nI i)), none, none] [] h := by
  obtain ⟨th, r, K, K2, d1, mc1, ms1, d2, mc2, ms2, mc3, ms3, hth, con, cnm, ⟨hd1, hd2⟩, ⟨hmc, hms⟩, hk⟩ := H (xs (i + 1)) (xs (i + 2)) n mc ms x g hc hm hsr
  exact lw_remove hX hbl hbA hi hL S kx km (th3 rfl hth) con cnm hd1 hd2 hmc hms (fun u uc um h1 h2 h3 => fin mc3 ms3 u uc um (hk uc um h1 h2) h3)
set_option maxRecDepth 20000 in
theorem sm_7 {p : Program} {l : Launch} {e : Env} {s : State} {m : MethodId} {args : Array Value} {below : List Frame} {meth : Method} {c0 : Code} {Q : State → Prop} {D : va_G} {cy : Nat → ClassId} {A : Nat → Prop} {MC MS : Nat} {post : Option Sv ⊕ String → Hp → Prop} {SR : SRT} {h hc hm : Hp} {x o b0 i L mc ms : Nat} {g : Nat → Nat} {xs : Nat → Int32} (hX : va_X b0 L xs s s.heap) (hbl : b0 < s.heap.size) (hbA : ¬ A b0) (hi : i + 7 ≤ L) (hL : L < 4000) (S : LSt h hc hm o) (kx : hK hc x = 12) (km : hK hm (g 0) = 13) (H : Sm7 SR) {n : Nat} (hsr : SR (n + 1) mc ms x g hc hm) (fin : ∀ mc3 ms3 u uc um, SR n mc3 ms3 x g uc um → LSt u uc um o → Jp mL_law p l e s m args below meth c0 Q D cy A MC MS 2048 mc3 ms3 post 1884 [some (vr (some b0)), some (vr (some x)), some (vr (some (g 0))), some (vr (some o)), some (vi (nI i)), none, none] [] u) : Jp mL_law p l e s m args below meth c0 Q D cy A MC MS 2048 mc ms post 595 [some (vr (some b0)), some (vr (some x)), some (vr (some (g 0))), some (vr (some o)), some (vi (nI i)), none, none] [] h := by
  obtain ⟨th, r, K, K2, d1, mc1, ms1, d2, mc2, ms2, mc3, ms3, hth, con, cnm, ⟨hd1, hd2⟩, ⟨hmc, hms⟩, hk⟩ := H (xs (i + 1)) (xs (i + 2)) (xs (i + 3)) n mc ms x g hc hm hsr
  exact lw_move hX hbl hbA hi hL S kx km (th2 rfl hth) con cnm hd1 hd2 hmc hms (fun u uc um h1 h2 h3 => fin mc3 ms3 u uc um (hk uc um h1 h2) h3)
set_option maxRecDepth 20000 in
theorem sm_8 {p : Program} {l : Launch} {e : Env} {s : State} {m : MethodId} {args : Array Value} {below : List Frame} {meth : Method} {c0 : Code} {Q : State → Prop} {D : va_G} {cy : Nat → ClassId} {A : Nat → Prop} {MC MS : Nat} {post : Option Sv ⊕ String → Hp → Prop} {SR : SRT} {h hc hm : Hp} {x o b0 i L mc ms : Nat} {g : Nat → Nat} {xs : Nat → Int32} (hX : va_X b0 L xs s s.heap) (hbl : b0 < s.heap.size) (hbA : ¬ A b0) (hi : i + 7 ≤ L) (hL : L < 4000) (S : LSt h hc hm o) (kx : hK hc x = 12) (km : hK hm (g 0) = 13) (H : Sm8 SR) {n : Nat} (hsr : SR (n + 1) mc ms x g hc hm) (fin : ∀ mc3 ms3 u uc um, SR n mc3 ms3 x g uc um → LSt u uc um o → Jp mL_law p l e s m args below meth c0 Q D cy A MC MS 2048 mc3 ms3 post 1884 [some (vr (some b0)), some (vr (some x)), some (vr (some (g 0))), some (vr (some o)), some (vi (nI i)), none, none] [] u) : Jp mL_law p l e s m args below meth c0 Q D cy A MC MS 2048 mc ms post 675 [some (vr (some b0)), some (vr (some x)), some (vr (some (g 0))), some (vr (some o)), some (vi (nI i)), none, none] [] h := by
  obtain ⟨th, r, K, K2, d1, mc1, ms1, d2, mc2, ms2, mc3, ms3, hth, con, cnm, ⟨hd1, hd2⟩, ⟨hmc, hms⟩, hk⟩ := H (xs (i + 1)) (xs (i + 2)) (xs (i + 3)) (xs (i + 4)) (xs (i + 5)) (xs (i + 6)) n mc ms x g hc hm hsr
  exact lw_copy hX hbl hbA hi hL S kx km (th3 rfl hth) con cnm hd1 hd2 hmc hms (fun u uc um h1 h2 h3 => fin mc3 ms3 u uc um (hk uc um h1 h2) h3)
set_option maxRecDepth 20000 in
theorem sm_9 {p : Program} {l : Launch} {e : Env} {s : State} {m : MethodId} {args : Array Value} {below : List Frame} {meth : Method} {c0 : Code} {Q : State → Prop} {D : va_G} {cy : Nat → ClassId} {A : Nat → Prop} {MC MS : Nat} {post : Option Sv ⊕ String → Hp → Prop} {SR : SRT} {h hc hm : Hp} {x o b0 i L mc ms : Nat} {g : Nat → Nat} {xs : Nat → Int32} (hX : va_X b0 L xs s s.heap) (hbl : b0 < s.heap.size) (hbA : ¬ A b0) (hi : i + 7 ≤ L) (hL : L < 4000) (S : LSt h hc hm o) (kx : hK hc x = 12) (km : hK hm (g 0) = 13) (H : Sm9 SR) {n : Nat} (hsr : SR (n + 1) mc ms x g hc hm) (fin : ∀ mc3 ms3 u uc um, SR n mc3 ms3 x g uc um → LSt u uc um o → Jp mL_law p l e s m args below meth c0 Q D cy A MC MS 2048 mc3 ms3 post 1884 [some (vr (some b0)), some (vr (some x)), some (vr (some (g 0))), some (vr (some o)), some (vi (nI i)), none, none] [] u) : Jp mL_law p l e s m args below meth c0 Q D cy A MC MS 2048 mc ms post 793 [some (vr (some b0)), some (vr (some x)), some (vr (some (g 0))), some (vr (some o)), some (vi (nI i)), none, none] [] h := by
  by_cases hb : (xs (i + 4)) = 0
  · obtain ⟨th, r, K, K2, d1, mc1, ms1, d2, mc2, ms2, mc3, ms3, hth, con, cnm, ⟨hd1, hd2⟩, ⟨hmc, hms⟩, hk⟩ := H (xs (i + 1)) (xs (i + 2)) (xs (i + 3)) (xs (i + 4)) n mc ms x g hc hm hsr
    rw [show b2 ((xs (i + 4)) ≠ 0) = 0 from b2f (fun z => z hb)] at con cnm
    exact lw_sort0 hX hbl hbA hi hL hb S kx km (th2 rfl hth) con cnm hd1 hd2 hmc hms (fun u uc um h1 h2 h3 => fin mc3 ms3 u uc um (hk uc um h1 h2) h3)
  · obtain ⟨th, r, K, K2, d1, mc1, ms1, d2, mc2, ms2, mc3, ms3, hth, con, cnm, ⟨hd1, hd2⟩, ⟨hmc, hms⟩, hk⟩ := H (xs (i + 1)) (xs (i + 2)) (xs (i + 3)) (xs (i + 4)) n mc ms x g hc hm hsr
    rw [show b2 ((xs (i + 4)) ≠ 0) = 1 from if_pos hb] at con cnm
    exact lw_sort1 hX hbl hbA hi hL hb S kx km (th2 rfl hth) con cnm hd1 hd2 hmc hms (fun u uc um h1 h2 h3 => fin mc3 ms3 u uc um (hk uc um h1 h2) h3)
set_option maxRecDepth 20000 in
theorem sm_10 {p : Program} {l : Launch} {e : Env} {s : State} {m : MethodId} {args : Array Value} {below : List Frame} {meth : Method} {c0 : Code} {Q : State → Prop} {D : va_G} {cy : Nat → ClassId} {A : Nat → Prop} {MC MS : Nat} {post : Option Sv ⊕ String → Hp → Prop} {SR : SRT} {h hc hm : Hp} {x o b0 i L mc ms : Nat} {g : Nat → Nat} {xs : Nat → Int32} (hX : va_X b0 L xs s s.heap) (hbl : b0 < s.heap.size) (hbA : ¬ A b0) (hi : i + 7 ≤ L) (hL : L < 4000) (S : LSt h hc hm o) (kx : hK hc x = 12) (km : hK hm (g 0) = 13) (H : Sm10 SR) {n : Nat} (hsr : SR (n + 1) mc ms x g hc hm) (fin : ∀ mc3 ms3 u uc um, SR n mc3 ms3 x g uc um → LSt u uc um o → Jp mL_law p l e s m args below meth c0 Q D cy A MC MS 2048 mc3 ms3 post 1884 [some (vr (some b0)), some (vr (some x)), some (vr (some (g 0))), some (vr (some o)), some (vi (nI i)), none, none] [] u) : Jp mL_law p l e s m args below meth c0 Q D cy A MC MS 2048 mc ms post 901 [some (vr (some b0)), some (vr (some x)), some (vr (some (g 0))), some (vr (some o)), some (vi (nI i)), none, none] [] h := by
  obtain ⟨th, r, K, K2, d1, mc1, ms1, d2, mc2, ms2, mc3, ms3, hth, con, cnm, ⟨hd1, hd2⟩, ⟨hmc, hms⟩, hk⟩ := H n mc ms x g hc hm hsr
  exact lw_undo hX hbl hbA hi hL S kx km (th1 rfl hth) con cnm hd1 hd2 hmc hms (fun u uc um h1 h2 h3 => fin mc3 ms3 u uc um (hk uc um h1 h2) h3)
set_option maxRecDepth 20000 in
theorem sm_11 {p : Program} {l : Launch} {e : Env} {s : State} {m : MethodId} {args : Array Value} {below : List Frame} {meth : Method} {c0 : Code} {Q : State → Prop} {D : va_G} {cy : Nat → ClassId} {A : Nat → Prop} {MC MS : Nat} {post : Option Sv ⊕ String → Hp → Prop} {SR : SRT} {h hc hm : Hp} {x o b0 i L mc ms : Nat} {g : Nat → Nat} {xs : Nat → Int32} (hX : va_X b0 L xs s s.heap) (hbl : b0 < s.heap.size) (hbA : ¬ A b0) (hi : i + 7 ≤ L) (hL : L < 4000) (S : LSt h hc hm o) (kx : hK hc x = 12) (km : hK hm (g 0) = 13) (H : Sm11 SR) {n : Nat} (hsr : SR (n + 1) mc ms x g hc hm) (fin : ∀ mc3 ms3 u uc um, SR n mc3 ms3 x g uc um → LSt u uc um o → Jp mL_law p l e s m args below meth c0 Q D cy A MC MS 2048 mc3 ms3 post 1884 [some (vr (some b0)), some (vr (some x)), some (vr (some (g 0))), some (vr (some o)), some (vi (nI i)), none, none] [] u) : Jp mL_law p l e s m args below meth c0 Q D cy A MC MS 2048 mc ms post 945 [some (vr (some b0)), some (vr (some x)), some (vr (some (g 0))), some (vr (some o)), some (vi (nI i)), none, none] [] h := by
  obtain ⟨th, r, K, K2, d1, mc1, ms1, d2, mc2, ms2, mc3, ms3, hth, con, cnm, ⟨hd1, hd2⟩, ⟨hmc, hms⟩, hk⟩ := H n mc ms x g hc hm hsr
  exact lw_redo hX hbl hbA hi hL S kx km (th1 rfl hth) con cnm hd1 hd2 hmc hms (fun u uc um h1 h2 h3 => fin mc3 ms3 u uc um (hk uc um h1 h2) h3)
set_option maxRecDepth 20000 in
theorem sm_12 {p : Program} {l : Launch} {e : Env} {s : State} {m : MethodId} {args : Array Value} {below : List Frame} {meth : Method} {c0 : Code} {Q : State → Prop} {D : va_G} {cy : Nat → ClassId} {A : Nat → Prop} {MC MS : Nat} {post : Option Sv ⊕ String → Hp → Prop} {SR : SRT} {h hc hm : Hp} {x o b0 i L mc ms : Nat} {g : Nat → Nat} {xs : Nat → Int32} (hX : va_X b0 L xs s s.heap) (hbl : b0 < s.heap.size) (hbA : ¬ A b0) (hi : i + 7 ≤ L) (hL : L < 4000) (S : LSt h hc hm o) (kx : hK hc x = 12) (km : hK hm (g 0) = 13) (H : Sm12 SR) {n : Nat} (hsr : SR (n + 1) mc ms x g hc hm) (fin : ∀ mc3 ms3 u uc um, SR n mc3 ms3 x g uc um → LSt u uc um o → Jp mL_law p l e s m args below meth c0 Q D cy A MC MS 2048 mc3 ms3 post 1884 [some (vr (some b0)), some (vr (some x)), some (vr (some (g 0))), some (vr (some o)), some (vi (nI i)), none, none] [] u) : Jp mL_law p l e s m args below meth c0 Q D cy A MC MS 2048 mc ms post 989 [some (vr (some b0)), some (vr (some x)), some (vr (some (g 0))), some (vr (some o)), some (vi (nI i)), none, none] [] h := by
  obtain ⟨th, r, K, K2, d1, mc1, ms1, d2, mc2, ms2, mc3, ms3, hth, con, cnm, ⟨hd1, hd2⟩, ⟨hmc, hms⟩, hk⟩ := H n mc ms x g hc hm hsr
  exact lw_commit hX hbl hbA hi hL S kx km (th2 rfl hth) con cnm hd1 hd2 hmc hms (fun u uc um h1 h2 h3 => fin mc3 ms3 u uc um (hk uc um h1 h2) h3)
set_option maxRecDepth 20000 in
theorem sm_13 {p : Program} {l : Launch} {e : Env} {s : State} {m : MethodId} {args : Array Value} {below : List Frame} {meth : Method} {c0 : Code} {Q : State → Prop} {D : va_G} {cy : Nat → ClassId} {A : Nat → Prop} {MC MS : Nat} {post : Option Sv ⊕ String → Hp → Prop} {SR : SRT} {h hc hm : Hp} {x o b0 i L mc ms : Nat} {g : Nat → Nat} {xs : Nat → Int32} (hX : va_X b0 L xs s s.heap) (hbl : b0 < s.heap.size) (hbA : ¬ A b0) (hi : i + 7 ≤ L) (hL : L < 4000) (S : LSt h hc hm o) (kx : hK hc x = 12) (km : hK hm (g 0) = 13) (H : Sm13 SR) {n : Nat} (hsr : SR (n + 1) mc ms x g hc hm) (fin : ∀ mc3 ms3 u uc um, SR n mc3 ms3 x g uc um → LSt u uc um o → Jp mL_law p l e s m args below meth c0 Q D cy A MC MS 2048 mc3 ms3 post 1884 [some (vr (some b0)), some (vr (some x)), some (vr (some (g 0))), some (vr (some o)), some (vi (nI i)), none, none] [] u) : Jp mL_law p l e s m args below meth c0 Q D cy A MC MS 2048 mc ms post 1033 [some (vr (some b0)), some (vr (some x)), some (vr (some (g 0))), some (vr (some o)), some (vi (nI i)), none, none] [] h := by
  obtain ⟨th, r, K, K2, d1, mc1, ms1, d2, mc2, ms2, mc3, ms3, hth, con, cnm, ⟨hd1, hd2⟩, ⟨hmc, hms⟩, hk⟩ := H (xs (i + 1)) n mc ms x g hc hm hsr
  exact lw_branch hX hbl hbA hi hL S kx km (th2 rfl hth) con cnm hd1 hd2 hmc hms (fun u uc um h1 h2 h3 => fin mc3 ms3 u uc um (hk uc um h1 h2) h3)
set_option maxRecDepth 20000 in
theorem sm_14 {p : Program} {l : Launch} {e : Env} {s : State} {m : MethodId} {args : Array Value} {below : List Frame} {meth : Method} {c0 : Code} {Q : State → Prop} {D : va_G} {cy : Nat → ClassId} {A : Nat → Prop} {MC MS : Nat} {post : Option Sv ⊕ String → Hp → Prop} {SR : SRT} {h hc hm : Hp} {x o b0 i L mc ms : Nat} {g : Nat → Nat} {xs : Nat → Int32} (hX : va_X b0 L xs s s.heap) (hbl : b0 < s.heap.size) (hbA : ¬ A b0) (hi : i + 7 ≤ L) (hL : L < 4000) (S : LSt h hc hm o) (kx : hK hc x = 12) (km : hK hm (g 0) = 13) (H : Sm14 SR) {n : Nat} (hsr : SR (n + 1) mc ms x g hc hm) (fin : ∀ mc3 ms3 u uc um, SR n mc3 ms3 x g uc um → LSt u uc um o → Jp mL_law p l e s m args below meth c0 Q D cy A MC MS 2048 mc3 ms3 post 1884 [some (vr (some b0)), some (vr (some x)), some (vr (some (g 0))), some (vr (some o)), some (vi (nI i)), none, none] [] u) : Jp mL_law p l e s m args below meth c0 Q D cy A MC MS 2048 mc ms post 1089 [some (vr (some b0)), some (vr (some x)), some (vr (some (g 0))), some (vr (some o)), some (vi (nI i)), none, none] [] h := by
  obtain ⟨th, r, K, K2, d1, mc1, ms1, d2, mc2, ms2, mc3, ms3, hth, con, cnm, ⟨hd1, hd2⟩, ⟨hmc, hms⟩, hk⟩ := H (xs (i + 1)) n mc ms x g hc hm hsr
  exact lw_go hX hbl hbA hi hL S kx km (th3 rfl hth) con cnm hd1 hd2 hmc hms (fun u uc um h1 h2 h3 => fin mc3 ms3 u uc um (hk uc um h1 h2) h3)
set_option maxRecDepth 20000 in
theorem sm_15 {p : Program} {l : Launch} {e : Env} {s : State} {m : MethodId} {args : Array Value} {below : List Frame} {meth : Method} {c0 : Code} {Q : State → Prop} {D : va_G} {cy : Nat → ClassId} {A : Nat → Prop} {MC MS : Nat} {post : Option Sv ⊕ String → Hp → Prop} {SR : SRT} {h hc hm : Hp} {x o b0 i L mc ms : Nat} {g : Nat → Nat} {xs : Nat → Int32} (hX : va_X b0 L xs s s.heap) (hbl : b0 < s.heap.size) (hbA : ¬ A b0) (hi : i + 7 ≤ L) (hL : L < 4000) (S : LSt h hc hm o) (kx : hK hc x = 12) (km : hK hm (g 0) = 13) (H : Sm15 SR) {n : Nat} (hsr : SR (n + 1) mc ms x g hc hm) (fin : ∀ mc3 ms3 u uc um, SR n mc3 ms3 x g uc um → LSt u uc um o → Jp mL_law p l e s m args below meth c0 Q D cy A MC MS 2048 mc3 ms3 post 1884 [some (vr (some b0)), some (vr (some x)), some (vr (some (g 0))), some (vr (some o)), some (vi (nI i)), none, none] [] u) : Jp mL_law p l e s m args below meth c0 Q D cy A MC MS 2048 mc ms post 1145 [some (vr (some b0)), some (vr (some x)), some (vr (some (g 0))), some (vr (some o)), some (vi (nI i)), none, none] [] h := by
  obtain ⟨r, K, K2, d1, mc1, ms1, d2, mc2, ms2, mc3, ms3, con, cnm, ⟨hd1, hd2⟩, ⟨hmc, hms⟩, hk⟩ := H n mc ms x g hc hm hsr
  exact lw_drop hX hbl hbA hi hL S kx km con cnm hd1 hd2 hmc hms (fun u uc um h1 h2 h3 => fin mc3 ms3 u uc um (hk uc um h1 h2) h3)
set_option maxRecDepth 20000 in
theorem sm_16 {p : Program} {l : Launch} {e : Env} {s : State} {m : MethodId} {args : Array Value} {below : List Frame} {meth : Method} {c0 : Code} {Q : State → Prop} {D : va_G} {cy : Nat → ClassId} {A : Nat → Prop} {MC MS : Nat} {post : Option Sv ⊕ String → Hp → Prop} {SR : SRT} {h hc hm : Hp} {x o b0 i L mc ms : Nat} {g : Nat → Nat} {xs : Nat → Int32} (hX : va_X b0 L xs s s.heap) (hbl : b0 < s.heap.size) (hbA : ¬ A b0) (hi : i + 7 ≤ L) (hL : L < 4000) (S : LSt h hc hm o) (kx : hK hc x = 12) (km : hK hm (g 0) = 13) (H : Sm16 SR) {n : Nat} (hsr : SR (n + 1) mc ms x g hc hm) (fin : ∀ mc3 ms3 u uc um, SR n mc3 ms3 x g uc um → LSt u uc um o → Jp mL_law p l e s m args below meth c0 Q D cy A MC MS 2048 mc3 ms3 post 1884 [some (vr (some b0)), some (vr (some x)), some (vr (some (g 0))), some (vr (some o)), some (vi (nI i)), none, none] [] u) : Jp mL_law p l e s m args below meth c0 Q D cy A MC MS 2048 mc ms post 1158 [some (vr (some b0)), some (vr (some x)), some (vr (some (g 0))), some (vr (some o)), some (vi (nI i)), none, none] [] h := by
  obtain ⟨th, r, K, K2, d1, mc1, ms1, d2, mc2, ms2, mc3, ms3, hth, con, cnm, ⟨hd1, hd2⟩, ⟨hmc, hms⟩, hk⟩ := H (xs (i + 1)) n mc ms x g hc hm hsr
  exact lw_merge hX hbl hbA hi hL S kx km (th4 rfl hth) con cnm hd1 hd2 hmc hms (fun u uc um h1 h2 h3 => fin mc3 ms3 u uc um (hk uc um h1 h2) h3)
set_option maxRecDepth 20000 in
theorem sm_17 {p : Program} {l : Launch} {e : Env} {s : State} {m : MethodId} {args : Array Value} {below : List Frame} {meth : Method} {c0 : Code} {Q : State → Prop} {D : va_G} {cy : Nat → ClassId} {A : Nat → Prop} {MC MS : Nat} {post : Option Sv ⊕ String → Hp → Prop} {SR : SRT} {h hc hm : Hp} {x o b0 i L mc ms : Nat} {g : Nat → Nat} {xs : Nat → Int32} (hX : va_X b0 L xs s s.heap) (hbl : b0 < s.heap.size) (hbA : ¬ A b0) (hi : i + 7 ≤ L) (hL : L < 4000) (S : LSt h hc hm o) (kx : hK hc x = 12) (km : hK hm (g 0) = 13) (H : Sm17 SR) {n : Nat} (hsr : SR (n + 1) mc ms x g hc hm) (fin : ∀ mc3 ms3 u uc um, SR n mc3 ms3 x g uc um → LSt u uc um o → Jp mL_law p l e s m args below meth c0 Q D cy A MC MS 2048 mc3 ms3 post 1884 [some (vr (some b0)), some (vr (some x)), some (vr (some (g 0))), some (vr (some o)), some (vi (nI i)), none, none] [] u) : Jp mL_law p l e s m args below meth c0 Q D cy A MC MS 2048 mc ms post 1214 [some (vr (some b0)), some (vr (some x)), some (vr (some (g 0))), some (vr (some o)), some (vi (nI i)), none, none] [] h := by
  obtain ⟨th, r, K, K2, d1, mc1, ms1, d2, mc2, ms2, mc3, ms3, hth, con, cnm, ⟨hd1, hd2⟩, ⟨hmc, hms⟩, hk⟩ := H (xs (i + 1)) n mc ms x g hc hm hsr
  exact lw_pick hX hbl hbA hi hL S kx km (th3 rfl hth) con cnm hd1 hd2 hmc hms (fun u uc um h1 h2 h3 => fin mc3 ms3 u uc um (hk uc um h1 h2) h3)
set_option maxRecDepth 20000 in
theorem sm_18 {p : Program} {l : Launch} {e : Env} {s : State} {m : MethodId} {args : Array Value} {below : List Frame} {meth : Method} {c0 : Code} {Q : State → Prop} {D : va_G} {cy : Nat → ClassId} {A : Nat → Prop} {MC MS : Nat} {post : Option Sv ⊕ String → Hp → Prop} {SR : SRT} {h hc hm : Hp} {x o b0 i L mc ms : Nat} {g : Nat → Nat} {xs : Nat → Int32} (hX : va_X b0 L xs s s.heap) (hbl : b0 < s.heap.size) (hbA : ¬ A b0) (hi : i + 7 ≤ L) (hL : L < 4000) (S : LSt h hc hm o) (kx : hK hc x = 12) (km : hK hm (g 0) = 13) (H : Sm18 SR) {n : Nat} (hsr : SR (n + 1) mc ms x g hc hm) (fin : ∀ mc3 ms3 u uc um, SR n mc3 ms3 x g uc um → LSt u uc um o → Jp mL_law p l e s m args below meth c0 Q D cy A MC MS 2048 mc3 ms3 post 1884 [some (vr (some b0)), some (vr (some x)), some (vr (some (g 0))), some (vr (some o)), some (vi (nI i)), none, none] [] u) : Jp mL_law p l e s m args below meth c0 Q D cy A MC MS 2048 mc ms post 1270 [some (vr (some b0)), some (vr (some x)), some (vr (some (g 0))), some (vr (some o)), some (vi (nI i)), none, none] [] h := by
  obtain ⟨r, K, K2, d1, mc1, ms1, d2, mc2, ms2, mc3, ms3, con, cnm, ⟨hd1, hd2⟩, ⟨hmc, hms⟩, hk⟩ := H (xs (i + 1)) (xs (i + 2)) n mc ms x g hc hm hsr
  exact lw_conflict hX hbl hbA hi hL S kx km con cnm hd1 hd2 hmc hms (fun u uc um h1 h2 h3 => fin mc3 ms3 u uc um (hk uc um h1 h2) h3)
set_option maxRecDepth 20000 in
theorem sm_19 {p : Program} {l : Launch} {e : Env} {s : State} {m : MethodId} {args : Array Value} {below : List Frame} {meth : Method} {c0 : Code} {Q : State → Prop} {D : va_G} {cy : Nat → ClassId} {A : Nat → Prop} {MC MS : Nat} {post : Option Sv ⊕ String → Hp → Prop} {SR : SRT} {h hc hm : Hp} {x o b0 i L mc ms : Nat} {g : Nat → Nat} {xs : Nat → Int32} (hX : va_X b0 L xs s s.heap) (hbl : b0 < s.heap.size) (hbA : ¬ A b0) (hi : i + 7 ≤ L) (hL : L < 4000) (S : LSt h hc hm o) (kx : hK hc x = 12) (km : hK hm (g 0) = 13) (H : Sm19 SR) {n : Nat} (hsr : SR (n + 1) mc ms x g hc hm) (fin : ∀ mc3 ms3 u uc um, SR n mc3 ms3 x g uc um → LSt u uc um o → Jp mL_law p l e s m args below meth c0 Q D cy A MC MS 2048 mc3 ms3 post 1884 [some (vr (some b0)), some (vr (some x)), some (vr (some (g 0))), some (vr (some o)), some (vi (nI i)), none, none] [] u) : Jp mL_law p l e s m args below meth c0 Q D cy A MC MS 2048 mc ms post 1307 [some (vr (some b0)), some (vr (some x)), some (vr (some (g 0))), some (vr (some o)), some (vi (nI i)), none, none] [] h := by
  by_cases hb : (xs (i + 2)) = 0
  · obtain ⟨th, r, K, K2, d1, mc1, ms1, d2, mc2, ms2, mc3, ms3, hth, con, cnm, ⟨hd1, hd2⟩, ⟨hmc, hms⟩, hk⟩ := H (xs (i + 1)) (xs (i + 2)) n mc ms x g hc hm hsr
    rw [show b2 ((xs (i + 2)) ≠ 0) = 0 from b2f (fun z => z hb)] at con cnm
    exact lw_choose0 hX hbl hbA hi hL hb S kx km (th1 rfl hth) con cnm hd1 hd2 hmc hms (fun u uc um h1 h2 h3 => fin mc3 ms3 u uc um (hk uc um h1 h2) h3)
  · obtain ⟨th, r, K, K2, d1, mc1, ms1, d2, mc2, ms2, mc3, ms3, hth, con, cnm, ⟨hd1, hd2⟩, ⟨hmc, hms⟩, hk⟩ := H (xs (i + 1)) (xs (i + 2)) n mc ms x g hc hm hsr
    rw [show b2 ((xs (i + 2)) ≠ 0) = 1 from if_pos hb] at con cnm
    exact lw_choose1 hX hbl hbA hi hL hb S kx km (th1 rfl hth) con cnm hd1 hd2 hmc hms (fun u uc um h1 h2 h3 => fin mc3 ms3 u uc um (hk uc um h1 h2) h3)
set_option maxRecDepth 20000 in
theorem sm_20 {p : Program} {l : Launch} {e : Env} {s : State} {m : MethodId} {args : Array Value} {below : List Frame} {meth : Method} {c0 : Code} {Q : State → Prop} {D : va_G} {cy : Nat → ClassId} {A : Nat → Prop} {MC MS : Nat} {post : Option Sv ⊕ String → Hp → Prop} {SR : SRT} {h hc hm : Hp} {x o b0 i L mc ms : Nat} {g : Nat → Nat} {xs : Nat → Int32} (hX : va_X b0 L xs s s.heap) (hbl : b0 < s.heap.size) (hbA : ¬ A b0) (hi : i + 7 ≤ L) (hL : L < 4000) (S : LSt h hc hm o) (kx : hK hc x = 12) (km : hK hm (g 0) = 13) (H : Sm20 SR) {n : Nat} (hsr : SR (n + 1) mc ms x g hc hm) (fin : ∀ mc3 ms3 u uc um, SR n mc3 ms3 x g uc um → LSt u uc um o → Jp mL_law p l e s m args below meth c0 Q D cy A MC MS 2048 mc3 ms3 post 1884 [some (vr (some b0)), some (vr (some x)), some (vr (some (g 0))), some (vr (some o)), some (vi (nI i)), none, none] [] u) : Jp mL_law p l e s m args below meth c0 Q D cy A MC MS 2048 mc ms post 1391 [some (vr (some b0)), some (vr (some x)), some (vr (some (g 0))), some (vr (some o)), some (vi (nI i)), none, none] [] h := by
  obtain ⟨r, K, K2, d1, mc1, ms1, d2, mc2, ms2, mc3, ms3, con, cnm, ⟨hd1, hd2⟩, ⟨hmc, hms⟩, hk⟩ := H (xs (i + 1)) (xs (i + 2)) n mc ms x g hc hm hsr
  exact lw_base hX hbl hbA hi hL S kx km con cnm hd1 hd2 hmc hms (fun u uc um h1 h2 h3 => fin mc3 ms3 u uc um (hk uc um h1 h2) h3)
set_option maxRecDepth 20000 in
theorem sm_21 {p : Program} {l : Launch} {e : Env} {s : State} {m : MethodId} {args : Array Value} {below : List Frame} {meth : Method} {c0 : Code} {Q : State → Prop} {D : va_G} {cy : Nat → ClassId} {A : Nat → Prop} {MC MS : Nat} {post : Option Sv ⊕ String → Hp → Prop} {SR : SRT} {h hc hm : Hp} {x o b0 i L mc ms : Nat} {g : Nat → Nat} {xs : Nat → Int32} (hX : va_X b0 L xs s s.heap) (hbl : b0 < s.heap.size) (hbA : ¬ A b0) (hi : i + 7 ≤ L) (hL : L < 4000) (S : LSt h hc hm o) (kx : hK hc x = 12) (km : hK hm (g 0) = 13) (H : Sm21 SR) {n : Nat} (hsr : SR (n + 1) mc ms x g hc hm) (fin : ∀ mc3 ms3 u uc um, SR n mc3 ms3 x g uc um → LSt u uc um o → Jp mL_law p l e s m args below meth c0 Q D cy A MC MS 2048 mc3 ms3 post 1884 [some (vr (some b0)), some (vr (some x)), some (vr (some (g 0))), some (vr (some o)), some (vi (nI i)), none, none] [] u) : Jp mL_law p l e s m args below meth c0 Q D cy A MC MS 2048 mc ms post 1428 [some (vr (some b0)), some (vr (some x)), some (vr (some (g 0))), some (vr (some o)), some (vi (nI i)), none, none] [] h := by
  obtain ⟨th, r, K, K2, d1, mc1, ms1, d2, mc2, ms2, mc3, ms3, hth, con, cnm, ⟨hd1, hd2⟩, ⟨hmc, hms⟩, hk⟩ := H (xs (i + 1)) (xs (i + 2)) n mc ms x g hc hm hsr
  exact lw_diff hX hbl hbA hi hL S kx km (th1 rfl hth) con cnm hd1 hd2 hmc hms (fun u uc um h1 h2 h3 => fin mc3 ms3 u uc um (hk uc um h1 h2) h3)
set_option maxRecDepth 20000 in
theorem sm_22 {p : Program} {l : Launch} {e : Env} {s : State} {m : MethodId} {args : Array Value} {below : List Frame} {meth : Method} {c0 : Code} {Q : State → Prop} {D : va_G} {cy : Nat → ClassId} {A : Nat → Prop} {MC MS : Nat} {post : Option Sv ⊕ String → Hp → Prop} {SR : SRT} {h hc hm : Hp} {x o b0 i L mc ms : Nat} {g : Nat → Nat} {xs : Nat → Int32} (hX : va_X b0 L xs s s.heap) (hbl : b0 < s.heap.size) (hbA : ¬ A b0) (hi : i + 7 ≤ L) (hL : L < 4000) (S : LSt h hc hm o) (kx : hK hc x = 12) (km : hK hm (g 0) = 13) (H : Sm22 SR) {n : Nat} (hsr : SR (n + 1) mc ms x g hc hm) (fin : ∀ mc3 ms3 u uc um, SR n mc3 ms3 x g uc um → LSt u uc um o → Jp mL_law p l e s m args below meth c0 Q D cy A MC MS 2048 mc3 ms3 post 1884 [some (vr (some b0)), some (vr (some x)), some (vr (some (g 0))), some (vr (some o)), some (vi (nI i)), none, none] [] u) : Jp mL_law p l e s m args below meth c0 Q D cy A MC MS 2048 mc ms post 1496 [some (vr (some b0)), some (vr (some x)), some (vr (some (g 0))), some (vr (some o)), some (vi (nI i)), none, none] [] h := by
  obtain ⟨r, K, K2, d1, mc1, ms1, d2, mc2, ms2, mc3, ms3, con, cnm, ⟨hd1, hd2⟩, ⟨hmc, hms⟩, hk⟩ := H (xs (i + 1)) (xs (i + 2)) n mc ms x g hc hm hsr
  exact lw_difference hX hbl hbA hi hL S kx km con cnm hd1 hd2 hmc hms (fun u uc um h1 h2 h3 => fin mc3 ms3 u uc um (hk uc um h1 h2) h3)
set_option maxRecDepth 20000 in
theorem sm_23 {p : Program} {l : Launch} {e : Env} {s : State} {m : MethodId} {args : Array Value} {below : List Frame} {meth : Method} {c0 : Code} {Q : State → Prop} {D : va_G} {cy : Nat → ClassId} {A : Nat → Prop} {MC MS : Nat} {post : Option Sv ⊕ String → Hp → Prop} {SR : SRT} {h hc hm : Hp} {x o b0 i L mc ms : Nat} {g : Nat → Nat} {xs : Nat → Int32} (hX : va_X b0 L xs s s.heap) (hbl : b0 < s.heap.size) (hbA : ¬ A b0) (hi : i + 7 ≤ L) (hL : L < 4000) (S : LSt h hc hm o) (kx : hK hc x = 12) (km : hK hm (g 0) = 13) (H : Sm23 SR) {n : Nat} (hsr : SR (n + 1) mc ms x g hc hm) (fin : ∀ mc3 ms3 u uc um, SR n mc3 ms3 x g uc um → LSt u uc um o → Jp mL_law p l e s m args below meth c0 Q D cy A MC MS 2048 mc3 ms3 post 1884 [some (vr (some b0)), some (vr (some x)), some (vr (some (g 0))), some (vr (some o)), some (vi (nI i)), none, none] [] u) : Jp mL_law p l e s m args below meth c0 Q D cy A MC MS 2048 mc ms post 1533 [some (vr (some b0)), some (vr (some x)), some (vr (some (g 0))), some (vr (some o)), some (vi (nI i)), none, none] [] h := by
  obtain ⟨th, r, K, K2, d1, mc1, ms1, d2, mc2, ms2, mc3, ms3, hth, con, cnm, ⟨hd1, hd2⟩, ⟨hmc, hms⟩, hk⟩ := H (xs (i + 1)) (xs (i + 2)) n mc ms x g hc hm hsr
  exact lw_blame hX hbl hbA hi hL S kx km (th1 rfl hth) con cnm hd1 hd2 hmc hms (fun u uc um h1 h2 h3 => fin mc3 ms3 u uc um (hk uc um h1 h2) h3)
set_option maxRecDepth 20000 in
theorem sm_24 {p : Program} {l : Launch} {e : Env} {s : State} {m : MethodId} {args : Array Value} {below : List Frame} {meth : Method} {c0 : Code} {Q : State → Prop} {D : va_G} {cy : Nat → ClassId} {A : Nat → Prop} {MC MS : Nat} {post : Option Sv ⊕ String → Hp → Prop} {SR : SRT} {h hc hm : Hp} {x o b0 i L mc ms : Nat} {g : Nat → Nat} {xs : Nat → Int32} (hX : va_X b0 L xs s s.heap) (hbl : b0 < s.heap.size) (hbA : ¬ A b0) (hi : i + 7 ≤ L) (hL : L < 4000) (S : LSt h hc hm o) (kx : hK hc x = 12) (km : hK hm (g 0) = 13) (H : Sm24 SR) {n : Nat} (hsr : SR (n + 1) mc ms x g hc hm) (fin : ∀ mc3 ms3 u uc um, SR n mc3 ms3 x g uc um → LSt u uc um o → Jp mL_law p l e s m args below meth c0 Q D cy A MC MS 2048 mc3 ms3 post 1884 [some (vr (some b0)), some (vr (some x)), some (vr (some (g 0))), some (vr (some o)), some (vi (nI i)), none, none] [] u) : Jp mL_law p l e s m args below meth c0 Q D cy A MC MS 2048 mc ms post 1601 [some (vr (some b0)), some (vr (some x)), some (vr (some (g 0))), some (vr (some o)), some (vi (nI i)), none, none] [] h := by
  obtain ⟨r, K, K2, d1, mc1, ms1, d2, mc2, ms2, mc3, ms3, con, cnm, ⟨hd1, hd2⟩, ⟨hmc, hms⟩, hk⟩ := H (xs (i + 1)) (xs (i + 2)) n mc ms x g hc hm hsr
  exact lw_sheet hX hbl hbA hi hL S kx km con cnm hd1 hd2 hmc hms (fun u uc um h1 h2 h3 => fin mc3 ms3 u uc um (hk uc um h1 h2) h3)
set_option maxRecDepth 20000 in
theorem sm_25 {p : Program} {l : Launch} {e : Env} {s : State} {m : MethodId} {args : Array Value} {below : List Frame} {meth : Method} {c0 : Code} {Q : State → Prop} {D : va_G} {cy : Nat → ClassId} {A : Nat → Prop} {MC MS : Nat} {post : Option Sv ⊕ String → Hp → Prop} {SR : SRT} {h hc hm : Hp} {x o b0 i L mc ms : Nat} {g : Nat → Nat} {xs : Nat → Int32} (hX : va_X b0 L xs s s.heap) (hbl : b0 < s.heap.size) (hbA : ¬ A b0) (hi : i + 7 ≤ L) (hL : L < 4000) (S : LSt h hc hm o) (kx : hK hc x = 12) (km : hK hm (g 0) = 13) (H : Sm25 SR) {n : Nat} (hsr : SR (n + 1) mc ms x g hc hm) (fin : ∀ mc3 ms3 u uc um, SR n mc3 ms3 x g uc um → LSt u uc um o → Jp mL_law p l e s m args below meth c0 Q D cy A MC MS 2048 mc3 ms3 post 1884 [some (vr (some b0)), some (vr (some x)), some (vr (some (g 0))), some (vr (some o)), some (vi (nI i)), none, none] [] u) : Jp mL_law p l e s m args below meth c0 Q D cy A MC MS 2048 mc ms post 1638 [some (vr (some b0)), some (vr (some x)), some (vr (some (g 0))), some (vr (some o)), some (vi (nI i)), none, none] [] h := by
  obtain ⟨r, K, K2, d1, mc1, ms1, d2, mc2, ms2, mc3, ms3, con, cnm, ⟨hd1, hd2⟩, ⟨hmc, hms⟩, hk⟩ := H (xs (i + 1)) (xs (i + 2)) (xs (i + 3)) n mc ms x g hc hm hsr
  exact lw_kind hX hbl hbA hi hL S kx km con cnm hd1 hd2 hmc hms (fun u uc um h1 h2 h3 => fin mc3 ms3 u uc um (hk uc um h1 h2) h3)
set_option maxRecDepth 20000 in
theorem sm_26 {p : Program} {l : Launch} {e : Env} {s : State} {m : MethodId} {args : Array Value} {below : List Frame} {meth : Method} {c0 : Code} {Q : State → Prop} {D : va_G} {cy : Nat → ClassId} {A : Nat → Prop} {MC MS : Nat} {post : Option Sv ⊕ String → Hp → Prop} {SR : SRT} {h hc hm : Hp} {x o b0 i L mc ms : Nat} {g : Nat → Nat} {xs : Nat → Int32} (hX : va_X b0 L xs s s.heap) (hbl : b0 < s.heap.size) (hbA : ¬ A b0) (hi : i + 7 ≤ L) (hL : L < 4000) (S : LSt h hc hm o) (kx : hK hc x = 12) (km : hK hm (g 0) = 13) (H : Sm26 SR) {n : Nat} (hsr : SR (n + 1) mc ms x g hc hm) (fin : ∀ mc3 ms3 u uc um, SR n mc3 ms3 x g uc um → LSt u uc um o → Jp mL_law p l e s m args below meth c0 Q D cy A MC MS 2048 mc3 ms3 post 1884 [some (vr (some b0)), some (vr (some x)), some (vr (some (g 0))), some (vr (some o)), some (vi (nI i)), none, none] [] u) : Jp mL_law p l e s m args below meth c0 Q D cy A MC MS 2048 mc ms post 1687 [some (vr (some b0)), some (vr (some x)), some (vr (some (g 0))), some (vr (some o)), some (vi (nI i)), none, none] [] h := by
  obtain ⟨r, K, K2, d1, mc1, ms1, d2, mc2, ms2, mc3, ms3, con, cnm, ⟨hd1, hd2⟩, ⟨hmc, hms⟩, hk⟩ := H (xs (i + 1)) (xs (i + 2)) (xs (i + 3)) n mc ms x g hc hm hsr
  exact lw_value hX hbl hbA hi hL S kx km con cnm hd1 hd2 hmc hms (fun u uc um h1 h2 h3 => fin mc3 ms3 u uc um (hk uc um h1 h2) h3)
set_option maxRecDepth 20000 in
theorem sm_27 {p : Program} {l : Launch} {e : Env} {s : State} {m : MethodId} {args : Array Value} {below : List Frame} {meth : Method} {c0 : Code} {Q : State → Prop} {D : va_G} {cy : Nat → ClassId} {A : Nat → Prop} {MC MS : Nat} {post : Option Sv ⊕ String → Hp → Prop} {SR : SRT} {h hc hm : Hp} {x o b0 i L mc ms : Nat} {g : Nat → Nat} {xs : Nat → Int32} (hX : va_X b0 L xs s s.heap) (hbl : b0 < s.heap.size) (hbA : ¬ A b0) (hi : i + 7 ≤ L) (hL : L < 4000) (S : LSt h hc hm o) (kx : hK hc x = 12) (km : hK hm (g 0) = 13) (H : Sm27 SR) {n : Nat} (hsr : SR (n + 1) mc ms x g hc hm) (fin : ∀ mc3 ms3 u uc um, SR n mc3 ms3 x g uc um → LSt u uc um o → Jp mL_law p l e s m args below meth c0 Q D cy A MC MS 2048 mc3 ms3 post 1884 [some (vr (some b0)), some (vr (some x)), some (vr (some (g 0))), some (vr (some o)), some (vi (nI i)), none, none] [] u) : Jp mL_law p l e s m args below meth c0 Q D cy A MC MS 2048 mc ms post 1737 [some (vr (some b0)), some (vr (some x)), some (vr (some (g 0))), some (vr (some o)), some (vi (nI i)), none, none] [] h := by
  obtain ⟨r, K, K2, d1, mc1, ms1, d2, mc2, ms2, mc3, ms3, con, cnm, ⟨hd1, hd2⟩, ⟨hmc, hms⟩, hk⟩ := H (xs (i + 1)) (xs (i + 2)) (xs (i + 3)) (xs (i + 4)) n mc ms x g hc hm hsr
  exact lw_letter hX hbl hbA hi hL S kx km con cnm hd1 hd2 hmc hms (fun u uc um h1 h2 h3 => fin mc3 ms3 u uc um (hk uc um h1 h2) h3)
set_option maxRecDepth 20000 in
theorem sm_28 {p : Program} {l : Launch} {e : Env} {s : State} {m : MethodId} {args : Array Value} {below : List Frame} {meth : Method} {c0 : Code} {Q : State → Prop} {D : va_G} {cy : Nat → ClassId} {A : Nat → Prop} {MC MS : Nat} {post : Option Sv ⊕ String → Hp → Prop} {SR : SRT} {h hc hm : Hp} {x o b0 i L mc ms : Nat} {g : Nat → Nat} {xs : Nat → Int32} (hX : va_X b0 L xs s s.heap) (hbl : b0 < s.heap.size) (hbA : ¬ A b0) (hi : i + 7 ≤ L) (hL : L < 4000) (S : LSt h hc hm o) (kx : hK hc x = 12) (km : hK hm (g 0) = 13) (H : Sm28 SR) {n : Nat} (hsr : SR (n + 1) mc ms x g hc hm) (fin : ∀ mc3 ms3 u uc um, SR n mc3 ms3 x g uc um → LSt u uc um o → Jp mL_law p l e s m args below meth c0 Q D cy A MC MS 2048 mc3 ms3 post 1884 [some (vr (some b0)), some (vr (some x)), some (vr (some (g 0))), some (vr (some o)), some (vi (nI i)), none, none] [] u) : Jp mL_law p l e s m args below meth c0 Q D cy A MC MS 2048 mc ms post 1798 [some (vr (some b0)), some (vr (some x)), some (vr (some (g 0))), some (vr (some o)), some (vi (nI i)), none, none] [] h := by
  obtain ⟨r, K, K2, d1, mc1, ms1, d2, mc2, ms2, mc3, ms3, con, cnm, ⟨hd1, hd2⟩, ⟨hmc, hms⟩, hk⟩ := H (xs (i + 1)) (xs (i + 2)) (xs (i + 3)) (xs (i + 4)) n mc ms x g hc hm hsr
  exact lw_written hX hbl hbA hi hL S kx km con cnm hd1 hd2 hmc hms (fun u uc um h1 h2 h3 => fin mc3 ms3 u uc um (hk uc um h1 h2) h3)
set_option maxRecDepth 20000 in
theorem sm_29 {p : Program} {l : Launch} {e : Env} {s : State} {m : MethodId} {args : Array Value} {below : List Frame} {meth : Method} {c0 : Code} {Q : State → Prop} {D : va_G} {cy : Nat → ClassId} {A : Nat → Prop} {MC MS : Nat} {post : Option Sv ⊕ String → Hp → Prop} {SR : SRT} {h hc hm : Hp} {x o b0 i L mc ms : Nat} {g : Nat → Nat} {xs : Nat → Int32} (hX : va_X b0 L xs s s.heap) (hbl : b0 < s.heap.size) (hbA : ¬ A b0) (hi : i + 7 ≤ L) (hL : L < 4000) (S : LSt h hc hm o) (kx : hK hc x = 12) (km : hK hm (g 0) = 13) (H : Sm29 SR) {n : Nat} (hsr : SR (n + 1) mc ms x g hc hm) (fin : ∀ mc3 ms3 u uc um, SR n mc3 ms3 x g uc um → LSt u uc um o → Jp mL_law p l e s m args below meth c0 Q D cy A MC MS 2048 mc3 ms3 post 1884 [some (vr (some b0)), some (vr (some x)), some (vr (some (g 0))), some (vr (some o)), some (vi (nI i)), none, none] [] u) : Jp mL_law p l e s m args below meth c0 Q D cy A MC MS 2048 mc ms post 1859 [some (vr (some b0)), some (vr (some x)), some (vr (some (g 0))), some (vr (some o)), some (vi (nI i)), none, none] [] h := by
  obtain ⟨r, K, K2, d1, mc1, ms1, d2, mc2, ms2, mc3, ms3, con, cnm, ⟨hd1, hd2⟩, ⟨hmc, hms⟩, hk⟩ := H (xs (i + 1)) n mc ms x g hc hm hsr
  exact lw_total hX hbl hbA hi hL S kx km con cnm hd1 hd2 hmc hms (fun u uc um h1 h2 h3 => fin mc3 ms3 u uc um (hk uc um h1 h2) h3)
theorem cmp7 {i L : Nat} (h : L < i + 7) (hi : i < 10000) (hL : L < 10000) : nI L - 7 < nI i := by
  by_cases q : 7 ≤ L
  · rw [li_7, pk_sub q, nI_ltI (by omega) (by omega)]; omega
  · have e : L = 0 ∨ L = 1 ∨ L = 2 ∨ L = 3 ∨ L = 4 ∨ L = 5 ∨ L = 6 := by omega
    have p : ∀ x : Int32, x < 0 → x < nI i := fun x hx => by
      rw [lt_i] at hx ⊢
      rw [nI_toInt (by omega)]
      have z : (0 : Int32).toInt = 0 := rfl
      omega
    rcases e with rfl | rfl | rfl | rfl | rfl | rfl | rfl <;> exact p _ (by decide)
set_option maxRecDepth 20000 in
theorem sim_loop {p : Program} {l : Launch} {e : Env} {s : State} {m : MethodId} {args : Array Value} {below : List Frame} {meth : Method} {c0 : Code} {Q : State → Prop} {D : va_G} {cy : Nat → ClassId} {A : Nat → Prop} {MC MS : Nat} {post : Option Sv ⊕ String → Hp → Prop} {SR : SRT} {x o b0 L : Nat} {g : Nat → Nat} {xs : Nat → Int32} (hX : va_X b0 L xs s s.heap) (hbl : b0 < s.heap.size) (hbA : ¬ A b0) (hL : L ≤ 3584) (HS : Sims SR) (hpost : ∀ u, post (.inl (some (vi 1))) u) : ∀ (n i : Nat) (mc ms : Nat) (h hc hm : Hp), L < i + 7 * n → i ≤ L + 7 → LSt h hc hm o → SR n mc ms x g hc hm → Jp mL_law p l e s m args below meth c0 Q D cy A MC MS 2048 mc ms post 23 [some (vr (some b0)), some (vr (some x)), some (vr (some (g 0))), some (vr (some o)), some (vi (nI i)), none, none] [] h := by
  intro n
  induction n with
  | zero =>
    intro i mc ms h hc hm hlt hi S hsr
    refine jp_iload dL_law_23 rfl ?_
    refine jp_aload_n dL_law_25 rfl ?_
    refine jp_slen dL_law_26 hX hbl hbA ?_
    refine jp_bipush (v := 7) dL_law_27 (by decide) ?_
    refine jp_isub dL_law_29 ?_
    refine jp_icmp_gt 1890 dL_law_30 (by decide) (fun c_30 => ?_) (fun c_30 => ?_)
    · refine jp_iconst (v := 1) dL_law_1890 (by decide) ?_
      exact jp_ireturn dL_law_1891 rfl rfl (hpost _)
    · exact absurd (cmp7 (by omega) (by omega) (by omega)) c_30
  | succ n ih =>
    intro i mc ms h hc hm hlt hi S hsr
    obtain ⟨kx, km, kn⟩ := HS.1 _ mc ms x g hc hm hsr
    refine jp_iload dL_law_23 rfl ?_
    refine jp_aload_n dL_law_25 rfl ?_
    refine jp_slen dL_law_26 hX hbl hbA ?_
    refine jp_bipush (v := 7) dL_law_27 (by decide) ?_
    refine jp_isub dL_law_29 ?_
    refine jp_icmp_gt 1890 dL_law_30 (by decide) (fun c_30 => ?_) (fun c_30 => ?_)
    · refine jp_iconst (v := 1) dL_law_1890 (by decide) ?_
      exact jp_ireturn dL_law_1891 rfl rfl (hpost _)
    · have hi7 : i + 7 ≤ L := Classical.byContradiction fun z => c_30 (cmp7 (by omega) (by omega) (by omega))
      have hL4 : L < 4000 := by omega
      have fin : ∀ mc3 ms3 u uc um, SR n mc3 ms3 x g uc um → LSt u uc um o → Jp mL_law p l e s m args below meth c0 Q D cy A MC MS 2048 mc3 ms3 post 1884 [some (vr (some b0)), some (vr (some x)), some (vr (some (g 0))), some (vr (some o)), some (vi (nI i)), none, none] [] u := fun mc3 ms3 u uc um hsr2 S2 => by
        refine jp_iinc dL_law_1884 rfl ?_
        dsimp only [st1, st2, unL, List.set]
        refine jp_goto 23 dL_law_1887 (by decide) ?_
        refine jp_lle (lv' := [some (vr (some b0)), some (vr (some x)), some (vr (some (g 0))), some (vr (some o)), some (vi (nI (i + 7))), none, none]) (by rw [show nI i + Int32.ofInt 7 = nI (i + 7) from by rw [show Int32.ofInt 7 = nI 7 from rfl, nI_add]]; simp [lle]) ?_
        exact ih (i + 7) mc3 ms3 u uc um (by omega) (by omega) S2 hsr2
      refine jp_aload_n dL_law_33 rfl ?_
      refine jp_iload dL_law_34 rfl ?_
      refine jp_sld i dL_law_36 hX hbl hbA rfl (by omega) (by omega) ?_
      refine jp_bipush (v := 31) dL_law_37 (by decide) ?_
      refine jp_iand dL_law_39 ?_
      generalize xs i &&& 31 = sel
      rcases sw_29 sel with hsw | rfl | rfl | rfl | rfl | rfl | rfl | rfl | rfl | rfl | rfl | rfl | rfl | rfl | rfl | rfl | rfl | rfl | rfl | rfl | rfl | rfl | rfl | rfl | rfl | rfl | rfl | rfl | rfl | rfl | rfl
      · refine jp_tabOut 1884 dL_law_40 hsw (by decide) ?_
        exact fin mc ms h hc hm (kn n (by omega)) S
      · refine jp_tabIn 176 dL_law_40 (by decide) (by decide) rfl (by decide) ?_
        exact sm_0 hX hbl hbA hi7 hL4 S kx km (HS.2.1) hsr fin
      · refine jp_tabIn 249 dL_law_40 (by decide) (by decide) rfl (by decide) ?_
        exact sm_1 hX hbl hbA hi7 hL4 S kx km (HS.2.2.1) hsr fin
      · refine jp_tabIn 274 dL_law_40 (by decide) (by decide) rfl (by decide) ?_
        exact sm_2 hX hbl hbA hi7 hL4 S kx km (HS.2.2.2.1) hsr fin
      · refine jp_tabIn 342 dL_law_40 (by decide) (by decide) rfl (by decide) ?_
        exact sm_3 hX hbl hbA hi7 hL4 S kx km (HS.2.2.2.2.1) hsr fin
      · refine jp_tabIn 367 dL_law_40 (by decide) (by decide) rfl (by decide) ?_
        exact sm_4 hX hbl hbA hi7 hL4 S kx km (HS.2.2.2.2.2.1) hsr fin
      · refine jp_tabIn 459 dL_law_40 (by decide) (by decide) rfl (by decide) ?_
        exact sm_5 hX hbl hbA hi7 hL4 S kx km (HS.2.2.2.2.2.2.1) hsr fin
      · refine jp_tabIn 527 dL_law_40 (by decide) (by decide) rfl (by decide) ?_
        exact sm_6 hX hbl hbA hi7 hL4 S kx km (HS.2.2.2.2.2.2.2.1) hsr fin
      · refine jp_tabIn 595 dL_law_40 (by decide) (by decide) rfl (by decide) ?_
        exact sm_7 hX hbl hbA hi7 hL4 S kx km (HS.2.2.2.2.2.2.2.2.1) hsr fin
      · refine jp_tabIn 675 dL_law_40 (by decide) (by decide) rfl (by decide) ?_
        exact sm_8 hX hbl hbA hi7 hL4 S kx km (HS.2.2.2.2.2.2.2.2.2.1) hsr fin
      · refine jp_tabIn 793 dL_law_40 (by decide) (by decide) rfl (by decide) ?_
        exact sm_9 hX hbl hbA hi7 hL4 S kx km (HS.2.2.2.2.2.2.2.2.2.2.1) hsr fin
      · refine jp_tabIn 901 dL_law_40 (by decide) (by decide) rfl (by decide) ?_
        exact sm_10 hX hbl hbA hi7 hL4 S kx km (HS.2.2.2.2.2.2.2.2.2.2.2.1) hsr fin
      · refine jp_tabIn 945 dL_law_40 (by decide) (by decide) rfl (by decide) ?_
        exact sm_11 hX hbl hbA hi7 hL4 S kx km (HS.2.2.2.2.2.2.2.2.2.2.2.2.1) hsr fin
      · refine jp_tabIn 989 dL_law_40 (by decide) (by decide) rfl (by decide) ?_
        exact sm_12 hX hbl hbA hi7 hL4 S kx km (HS.2.2.2.2.2.2.2.2.2.2.2.2.2.1) hsr fin
      · refine jp_tabIn 1033 dL_law_40 (by decide) (by decide) rfl (by decide) ?_
        exact sm_13 hX hbl hbA hi7 hL4 S kx km (HS.2.2.2.2.2.2.2.2.2.2.2.2.2.2.1) hsr fin
      · refine jp_tabIn 1089 dL_law_40 (by decide) (by decide) rfl (by decide) ?_
        exact sm_14 hX hbl hbA hi7 hL4 S kx km (HS.2.2.2.2.2.2.2.2.2.2.2.2.2.2.2.1) hsr fin
      · refine jp_tabIn 1145 dL_law_40 (by decide) (by decide) rfl (by decide) ?_
        exact sm_15 hX hbl hbA hi7 hL4 S kx km (HS.2.2.2.2.2.2.2.2.2.2.2.2.2.2.2.2.1) hsr fin
      · refine jp_tabIn 1158 dL_law_40 (by decide) (by decide) rfl (by decide) ?_
        exact sm_16 hX hbl hbA hi7 hL4 S kx km (HS.2.2.2.2.2.2.2.2.2.2.2.2.2.2.2.2.2.1) hsr fin
      · refine jp_tabIn 1214 dL_law_40 (by decide) (by decide) rfl (by decide) ?_
        exact sm_17 hX hbl hbA hi7 hL4 S kx km (HS.2.2.2.2.2.2.2.2.2.2.2.2.2.2.2.2.2.2.1) hsr fin
      · refine jp_tabIn 1270 dL_law_40 (by decide) (by decide) rfl (by decide) ?_
        exact sm_18 hX hbl hbA hi7 hL4 S kx km (HS.2.2.2.2.2.2.2.2.2.2.2.2.2.2.2.2.2.2.2.1) hsr fin
      · refine jp_tabIn 1307 dL_law_40 (by decide) (by decide) rfl (by decide) ?_
        exact sm_19 hX hbl hbA hi7 hL4 S kx km (HS.2.2.2.2.2.2.2.2.2.2.2.2.2.2.2.2.2.2.2.2.1) hsr fin
      · refine jp_tabIn 1391 dL_law_40 (by decide) (by decide) rfl (by decide) ?_
        exact sm_20 hX hbl hbA hi7 hL4 S kx km (HS.2.2.2.2.2.2.2.2.2.2.2.2.2.2.2.2.2.2.2.2.2.1) hsr fin
      · refine jp_tabIn 1428 dL_law_40 (by decide) (by decide) rfl (by decide) ?_
        exact sm_21 hX hbl hbA hi7 hL4 S kx km (HS.2.2.2.2.2.2.2.2.2.2.2.2.2.2.2.2.2.2.2.2.2.2.1) hsr fin
      · refine jp_tabIn 1496 dL_law_40 (by decide) (by decide) rfl (by decide) ?_
        exact sm_22 hX hbl hbA hi7 hL4 S kx km (HS.2.2.2.2.2.2.2.2.2.2.2.2.2.2.2.2.2.2.2.2.2.2.2.1) hsr fin
      · refine jp_tabIn 1533 dL_law_40 (by decide) (by decide) rfl (by decide) ?_
        exact sm_23 hX hbl hbA hi7 hL4 S kx km (HS.2.2.2.2.2.2.2.2.2.2.2.2.2.2.2.2.2.2.2.2.2.2.2.2.1) hsr fin
      · refine jp_tabIn 1601 dL_law_40 (by decide) (by decide) rfl (by decide) ?_
        exact sm_24 hX hbl hbA hi7 hL4 S kx km (HS.2.2.2.2.2.2.2.2.2.2.2.2.2.2.2.2.2.2.2.2.2.2.2.2.2.1) hsr fin
      · refine jp_tabIn 1638 dL_law_40 (by decide) (by decide) rfl (by decide) ?_
        exact sm_25 hX hbl hbA hi7 hL4 S kx km (HS.2.2.2.2.2.2.2.2.2.2.2.2.2.2.2.2.2.2.2.2.2.2.2.2.2.2.1) hsr fin
      · refine jp_tabIn 1687 dL_law_40 (by decide) (by decide) rfl (by decide) ?_
        exact sm_26 hX hbl hbA hi7 hL4 S kx km (HS.2.2.2.2.2.2.2.2.2.2.2.2.2.2.2.2.2.2.2.2.2.2.2.2.2.2.2.1) hsr fin
      · refine jp_tabIn 1737 dL_law_40 (by decide) (by decide) rfl (by decide) ?_
        exact sm_27 hX hbl hbA hi7 hL4 S kx km (HS.2.2.2.2.2.2.2.2.2.2.2.2.2.2.2.2.2.2.2.2.2.2.2.2.2.2.2.2.1) hsr fin
      · refine jp_tabIn 1798 dL_law_40 (by decide) (by decide) rfl (by decide) ?_
        exact sm_28 hX hbl hbA hi7 hL4 S kx km (HS.2.2.2.2.2.2.2.2.2.2.2.2.2.2.2.2.2.2.2.2.2.2.2.2.2.2.2.2.2.1) hsr fin
      · refine jp_tabIn 1859 dL_law_40 (by decide) (by decide) rfl (by decide) ?_
        exact sm_29 hX hbl hbA hi7 hL4 S kx km (HS.2.2.2.2.2.2.2.2.2.2.2.2.2.2.2.2.2.2.2.2.2.2.2.2.2.2.2.2.2.2) hsr fin

