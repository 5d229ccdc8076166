/-! ===== a new model ===== -/
theorem Fr_sI {S : Nat → Prop} {h u : Hp} {a : Nat} {f : Nat → Int32} (q : Fr S h u) (ha : S a ∨ hK h a = 0) : Fr S h (sI u a f) := fun b hb => by
  obtain ⟨a1, a2, a3⟩ := q b hb
  refine ⟨a1, a2, fun hs => ⟨?_, (a3 hs).2.1, (a3 hs).2.2⟩⟩
  rw [hI_sI, if_neg (by rintro rfl; rcases ha with w | w <;> contradiction)]; exact (a3 hs).1
def MP (c : Nat) (kd ln : Nat → Nat) (h0 h : Hp) (a : Nat) (f : Nat → Int32) (l : List (Nat × Nat)) : Prop := hK h a = c + 1 ∧ hI h a = f ∧ Fr (fun b => b = a) h0 h ∧ ((l.map Prod.snd).Nodup ∧ a ∉ l.map Prod.snd) ∧ ∀ p ∈ l, hO h a p.1 = some p.2 ∧ hK h p.2 = kd p.1 ∧ kd p.1 ≠ 0 ∧ hN h p.2 = ln p.1 ∧ (hI h p.2 = fun _ => 0) ∧ (hG h p.2 = fun _ => 0) ∧ hK h0 p.2 = 0
theorem MP_0 {c : Nat} {kd ln : Nat → Nat} {h : Hp} {a : Nat} {f : Nat → Int32} (hk : hK h a = c + 1) (hf : hI h a = f) : MP c kd ln h h a f [] := ⟨hk, hf, Fr_rf, ⟨List.nodup_nil, by simp⟩, fun p hp => by cases hp⟩
theorem MP_new {c : Nat} {kd ln : Nat → Nat} {h0 h : Hp} {a : Nat} {f : Nat → Int32} {l : List (Nat × Nat)} (k q K n : Nat) (hP : MP c kd ln h0 h a f l) (hq : hK h q = 0) (hK1 : kd k = K) (hK0 : K ≠ 0) (hn : ln k = n) (hnk : k ∉ l.map Prod.fst) : MP c kd ln h0 (pO (nw h q K n) a k (some q)) a f ((k, q) :: l) := by
  obtain ⟨p1, p2, p3, ⟨p4, p5⟩, p6⟩ := hP
  have haq : a ≠ q := fun e => by rw [e] at p1; omega
  have hq0 : hK h0 q = 0 := Classical.byContradiction fun w => by have := (p3 q w).1; omega
  refine ⟨by rw [hK_pO, hK_nw, if_neg haq]; exact p1, ?_, Fr_pO (Fr_nw p3 hq) (Or.inl rfl), ⟨?_, ?_⟩, ?_⟩
  · funext j; rw [hI_pO, hI_nw, if_neg haq, p2]
  · rw [List.map_cons, List.nodup_cons]
    refine ⟨fun hm => ?_, p4⟩
    obtain ⟨p, hp, e⟩ := List.mem_map.mp hm
    obtain ⟨-, g2, g3, -⟩ := p6 p hp
    exact g3 (by rw [← g2, e]; exact hq)
  · rw [List.map_cons, List.mem_cons, not_or]; exact ⟨haq, p5⟩
  · intro p hp
    rcases List.mem_cons.mp hp with rfl | hp
    · exact ⟨by rw [hO_pO, if_pos ⟨rfl, rfl⟩], by rw [hK_pO, hK_nw, if_pos rfl, hK1], by rw [hK1]; exact hK0, by rw [hN_pO, hN_nw, if_pos rfl, hn], by funext j; rw [hI_pO, hI_nw, if_pos rfl], by funext j; rw [hG_pO, hG_nw, if_pos rfl], hq0⟩
    · obtain ⟨g1, g2, g3, g4, g5, g6, g7⟩ := p6 p hp
      have hpq : p.2 ≠ q := fun e => by rw [e] at g2; omega
      have hpk : p.1 ≠ k := fun e => hnk (List.mem_map.mpr ⟨p, hp, e⟩)
      exact ⟨by rw [hO_pO, if_neg (fun w => hpk w.2), hO_nw, if_neg haq]; exact g1, by rw [hK_pO, hK_nw, if_neg hpq]; exact g2, g3, by rw [hN_pO, hN_nw, if_neg hpq]; exact g4, by funext j; rw [hI_pO, hI_nw, if_neg hpq, g5], by funext j; rw [hG_pO, hG_nw, if_neg hpq, g6], g7⟩
theorem MP_int {c : Nat} {kd ln : Nat → Nat} {h0 h : Hp} {a : Nat} {f : Nat → Int32} {l : List (Nat × Nat)} (k : Nat) (x : Int32) (hP : MP c kd ln h0 h a f l) : MP c kd ln h0 (pI h a k x) a (upd f k x) l := by
  obtain ⟨p1, p2, p3, ⟨p4, p5⟩, p6⟩ := hP
  refine ⟨p1, ?_, Fr_pI p3 (Or.inl rfl), ⟨p4, p5⟩, fun p hp => ?_⟩
  · funext j; rw [hI_pI, p2]; simp [upd]
  · obtain ⟨g1, g2, g3, g4, g5, g6, g7⟩ := p6 p hp
    exact ⟨g1, g2, g3, g4, by rw [hI_pIn (fun e => p5 (List.mem_map.mpr ⟨p, hp, e⟩))]; exact g5, g6, g7⟩
/-- the address book out of the list -/
def asl (l : List (Nat × Nat)) (a k : Nat) : Nat := match l with
  | [] => a
  | p :: t => if p.1 = k then p.2 else asl t a k
theorem asl_in : ∀ {l : List (Nat × Nat)} {a k : Nat}, k ∈ l.map Prod.fst → (k, asl l a k) ∈ l
  | [], _, _, h => by cases h
  | p :: t, a, k, h => by
    rw [asl]
    by_cases e : p.1 = k
    · rw [if_pos e, ← e]; exact List.mem_cons_self
    · rw [if_neg e]
      rcases List.mem_cons.mp h with h | h
      · exact absurd h.symm e
      · exact List.mem_cons_of_mem _ (asl_in h)
theorem asl_out : ∀ {l : List (Nat × Nat)} {a k : Nat}, k ∉ l.map Prod.fst → asl l a k = a
  | [], _, _, _ => rfl
  | p :: t, a, k, h => by
    rw [List.map_cons, List.mem_cons, not_or] at h
    rw [asl, if_neg (fun e => h.1 e.symm)]; exact asl_out h.2
theorem nd_inj : ∀ {l : List (Nat × Nat)} {i j q : Nat}, (l.map Prod.snd).Nodup → (i, q) ∈ l → (j, q) ∈ l → i = j
  | [], _, _, _, _, h, _ => by cases h
  | p :: t, i, j, q, hn, h1, h2 => by
    rw [List.map_cons, List.nodup_cons] at hn
    rcases List.mem_cons.mp h1 with h1 | h1 <;> rcases List.mem_cons.mp h2 with h2 | h2
    · rw [← h1] at h2; exact (congrArg Prod.fst h2).symm
    · exact absurd (List.mem_map.mpr ⟨_, h2, by rw [← h1]⟩) hn.1
    · exact absurd (List.mem_map.mpr ⟨_, h1, by rw [← h2]⟩) hn.1
    · exact nd_inj hn.2 h1 h2
def mfl : List Nat := [103, 102, 101, 99, 97, 96, 95, 94, 93, 92, 91, 90, 89, 88, 86, 85, 84, 83, 82, 70, 69, 68, 67, 66, 64, 63, 62, 61, 60, 39, 38, 37, 36, 35, 34, 33, 32, 31, 30, 29, 28, 27, 26, 23, 22, 21, 20, 18, 11, 10, 9, 5, 4, 3, 2, 1]
theorem mfl_1 : ∀ k, mkl.getD k 0 ≠ 0 → k ∈ mfl := fun k => by
  by_cases h : k < 105
  · have : ∀ k : Fin 105, mkl.getD k 0 ≠ 0 → (k : Nat) ∈ mfl := by decide +kernel
    exact this ⟨k, h⟩
  · intro w; exact absurd (by rw [List.getD_eq_getElem?_getD, List.getElem?_eq_none (by show 105 ≤ k; omega)]; rfl) w
abbrev kdM (k : Nat) : Nat := mkl.getD k 0
abbrev lnM (k : Nat) : Nat := mnl.getD k 0
theorem MP_MW {h0 h : Hp} {a : Nat} {f : Nat → Int32} {l : List (Nat × Nat)} (hP : MP 12 kdM lnM h0 h a f l) (hl : l.map Prod.fst = mfl) : ∃ g : Nat → Nat, g 0 = a ∧ MW h g ∧ hI h (g 0) = f ∧ Fr (fun b => b = a) h0 h ∧ ∀ k, mkl.getD k 0 ≠ 0 → (hI h (g k) = fun _ => 0) ∧ hK h0 (g k) = 0 := by
  obtain ⟨p1, p2, p3, ⟨p4, p5⟩, p6⟩ := hP
  have h0a : asl l a 0 = a := asl_out (by rw [hl]; decide)
  have hin : ∀ k, mkl.getD k 0 ≠ 0 → (k, asl l a k) ∈ l := fun k hk => asl_in (by rw [hl]; exact mfl_1 k hk)
  have hne : ∀ k, mkl.getD k 0 ≠ 0 → asl l a k ≠ a := fun k hk e => p5 (List.mem_map.mpr ⟨_, hin k hk, e⟩)
  refine ⟨asl l a, h0a, ⟨by rw [h0a]; exact p1, fun k hk => ?_, fun i j hi hj e => ?_⟩, by rw [h0a]; exact p2, p3, fun k hk => ?_⟩
  · obtain ⟨g1, g2, g3, g4, -⟩ := p6 _ (hin k hk)
    rw [h0a]; exact ⟨g1, g2, g4⟩
  · by_cases i0 : mkl.getD i 0 = 0
    · obtain rfl : i = 0 := by rcases hi with w | w; exact w; exact absurd i0 w
      by_cases j0 : mkl.getD j 0 = 0
      · rcases hj with w | w; exact w.symm; exact absurd j0 w
      · rw [h0a] at e; exact absurd e.symm (hne j j0)
    · by_cases j0 : mkl.getD j 0 = 0
      · obtain rfl : j = 0 := by rcases hj with w | w; exact w; exact absurd j0 w
        rw [h0a] at e; exact absurd e (hne i i0)
      · exact nd_inj p4 (hin i i0) (by rw [e]; exact hin j j0)
  · obtain ⟨-, -, -, -, g5, -, g7⟩ := p6 _ (hin k hk); exact ⟨g5, g7⟩
theorem fr_0u : upd (upd (upd (upd (fun _ => (0 : Int32)) 6 8) 7 6) 8 1) 13 (-1) = fr_0 := by
  funext j
  unfold fr_0
  split
  · rfl
  · rfl
  · rfl
  · rfl
  · rename_i h1 h2 h3 h4
    simp only [upd, if_neg (show ¬ j = 6 from h1), if_neg (show ¬ j = 7 from h2), if_neg (show ¬ j = 8 from h3), if_neg (show ¬ j = 13 from h4)]
theorem fr_1_o {n : Int32} {j : Nat} (h0 : j ≠ 0) (h4 : j ≠ 40) : fr_1 n j = 0 := by
  unfold fr_1; split
  · exact absurd rfl h0
  · exact absurd rfl h4
  · rfl
def ibr (f : Nat → Int32) (i : Nat) : Nat → Int32 := fun j => if 1 ≤ j ∧ j < i then -1 else f j
theorem ibr_s {f : Nat → Int32} {i : Nat} (hi : 1 ≤ i) : upd (ibr f i) i (-1) = ibr f (i + 1) := by
  funext j
  by_cases e : j = i
  · subst e; simp [upd, ibr, hi]
  · simp only [upd, if_neg e, ibr]
    by_cases q : 1 ≤ j ∧ j < i
    · rw [if_pos q, if_pos (by omega)]
    · rw [if_neg q, if_neg (by omega)]
def iln (f : Nat → Int32) (i : Nat) : Nat → Int32 := fun j => if j < i then nI j else f j
theorem iln_s {f : Nat → Int32} {i : Nat} : upd (iln f i) i (nI i) = iln f (i + 1) := by
  funext j
  by_cases e : j = i
  · subst e; simp [upd, iln]
  · simp only [upd, if_neg e, iln]
    by_cases q : j < i
    · rw [if_pos q, if_pos (by omega)]
    · rw [if_neg q, if_neg (by omega)]
set_option maxRecDepth 20000 in
theorem l_ini1 {h : Hp} {g : Nat → Nat} {post : Option Sv ⊕ String → Hp → Prop} (hm : MW h g) (fin : J mX12_init 3 0 0 post 522 [some (vr (some (g 0))), none] [] (sI h (g 11) (ibr (hI h (g 11)) 6))) : ∀ (n : Nat) (i : Nat), 6 - i < n → (1 ≤ i ∧ i ≤ 6) → J mX12_init 3 0 0 post 503 [some (vr (some (g 0))), some (vi (nI i))] [] (sI h (g 11) (ibr (hI h (g 11)) i)) := by
  intro n
  induction n with
  | zero => intro i hlt; omega
  | succ n ih =>
    intro i hlt hinv
    refine j_iload_n dX12_init_503 rfl ?_
    refine j_bipush (v := 6) dX12_init_504 (by decide) ?_
    refine j_icmp_ge 522 dX12_init_506 (by decide) (fun c_506 => ?_) (fun c_506 => ?_)
    · have he : i = 6 := by rw [li_6, nI_leI (by omega) (by omega)] at c_506; omega
      subst he
      exact j_lle (by simp [lle]) fin
    · have hlt2 : i < 6 := by rw [li_6, nI_leI (by omega) (by omega)] at c_506; omega
      refine j_aload_n dX12_init_509 rfl ?_
      refine j_getR dX12_init_510 fl_X12_42 rfl hm.1 (mO hm rfl) ?_
      refine j_iload_n dX12_init_513 rfl ?_
      refine j_iconst (v := -1) dX12_init_514 (by decide) ?_
      refine j_iast i dX12_init_515 (mK hm rfl) rfl (Nat.lt_of_lt_of_eq (by omega) (mN hm (k := 11) (n := 6) rfl rfl).symm) (Nat.lt_of_le_of_lt (Nat.le_of_eq (mN hm (k := 11) (n := 6) rfl rfl)) (by decide)) ?_
      rw [pI_sI, ibr_s hinv.1]
      refine j_iinc dX12_init_516 rfl ?_
      dsimp only [st1, st2, unL, List.set]
      refine j_goto 503 dX12_init_519 (by decide) ?_
      refine j_lle (lv' := [some (vr (some (g 0))), some (vi (nI (i + 1)))]) (by simp [lle, nI_1]) ?_
      exact ih (i + 1) (by omega) (by omega)

set_option maxRecDepth 20000 in
theorem l_ini2 {h : Hp} {g : Nat → Nat} {post : Option Sv ⊕ String → Hp → Prop} (hm : MW h g) (fin : J mX12_init 3 0 0 post 573 [some (vr (some (g 0))), none] [] (sI h (g 3) (iln (hI h (g 3)) 8))) : ∀ (n : Nat) (i : Nat), 8 - i < n → (0 ≤ i ∧ i ≤ 8) → J mX12_init 3 0 0 post 554 [some (vr (some (g 0))), some (vi (nI i))] [] (sI h (g 3) (iln (hI h (g 3)) i)) := by
  intro n
  induction n with
  | zero => intro i hlt; omega
  | succ n ih =>
    intro i hlt hinv
    refine j_iload_n dX12_init_554 rfl ?_
    refine j_bipush (v := 8) dX12_init_555 (by decide) ?_
    refine j_icmp_ge 573 dX12_init_557 (by decide) (fun c_557 => ?_) (fun c_557 => ?_)
    · have he : i = 8 := by rw [li_8, nI_leI (by omega) (by omega)] at c_557; omega
      subst he
      exact j_lle (by simp [lle]) fin
    · have hlt2 : i < 8 := by rw [li_8, nI_leI (by omega) (by omega)] at c_557; omega
      refine j_aload_n dX12_init_560 rfl ?_
      refine j_getR dX12_init_561 fl_X12_16 rfl hm.1 (mO hm rfl) ?_
      refine j_iload_n dX12_init_564 rfl ?_
      refine j_iload_n dX12_init_565 rfl ?_
      refine j_iast i dX12_init_566 (mK hm rfl) rfl (Nat.lt_of_lt_of_eq (by omega) (mN hm (k := 3) (n := 3904) rfl rfl).symm) (Nat.lt_of_le_of_lt (Nat.le_of_eq (mN hm (k := 3) (n := 3904) rfl rfl)) (by decide)) ?_
      rw [pI_sI, iln_s]
      refine j_iinc dX12_init_567 rfl ?_
      dsimp only [st1, st2, unL, List.set]
      refine j_goto 554 dX12_init_570 (by decide) ?_
      refine j_lle (lv' := [some (vr (some (g 0))), some (vi (nI (i + 1)))]) (by simp [lle, nI_1]) ?_
      exact ih (i + 1) (by omega) (by omega)

set_option maxRecDepth 20000 in
theorem l_ini3 {h : Hp} {g : Nat → Nat} {post : Option Sv ⊕ String → Hp → Prop} (hm : MW h g) (fin : J mX12_init 3 0 0 post 594 [some (vr (some (g 0))), none] [] (sI h (g 4) (iln (hI h (g 4)) 6))) : ∀ (n : Nat) (i : Nat), 6 - i < n → (0 ≤ i ∧ i ≤ 6) → J mX12_init 3 0 0 post 575 [some (vr (some (g 0))), some (vi (nI i))] [] (sI h (g 4) (iln (hI h (g 4)) i)) := by
  intro n
  induction n with
  | zero => intro i hlt; omega
  | succ n ih =>
    intro i hlt hinv
    refine j_iload_n dX12_init_575 rfl ?_
    refine j_bipush (v := 6) dX12_init_576 (by decide) ?_
    refine j_icmp_ge 594 dX12_init_578 (by decide) (fun c_578 => ?_) (fun c_578 => ?_)
    · have he : i = 6 := by rw [li_6, nI_leI (by omega) (by omega)] at c_578; omega
      subst he
      exact j_lle (by simp [lle]) fin
    · have hlt2 : i < 6 := by rw [li_6, nI_leI (by omega) (by omega)] at c_578; omega
      refine j_aload_n dX12_init_581 rfl ?_
      refine j_getR dX12_init_582 fl_X12_19 rfl hm.1 (mO hm rfl) ?_
      refine j_iload_n dX12_init_585 rfl ?_
      refine j_iload_n dX12_init_586 rfl ?_
      refine j_iast i dX12_init_587 (mK hm rfl) rfl (Nat.lt_of_lt_of_eq (by omega) (mN hm (k := 4) (n := 1220) rfl rfl).symm) (Nat.lt_of_le_of_lt (Nat.le_of_eq (mN hm (k := 4) (n := 1220) rfl rfl)) (by decide)) ?_
      rw [pI_sI, iln_s]
      refine j_iinc dX12_init_588 rfl ?_
      dsimp only [st1, st2, unL, List.set]
      refine j_goto 575 dX12_init_591 (by decide) ?_
      refine j_lle (lv' := [some (vr (some (g 0))), some (vi (nI (i + 1)))]) (by simp [lle, nI_1]) ?_
      exact ih (i + 1) (by omega) (by omega)

theorem ini_fr {h0 h : Hp} {g : Nat → Nat} (hm : MW h g) (z0 : hI h (g 0) = fr_0) (hFr : Fr (fun b => b = g 0) h0 h) (hz : ∀ k, mkl.getD k 0 ≠ 0 → (hI h (g k) = fun _ => 0) ∧ hK h0 (g k) = 0) : Fr (fun b => b = g 0) h0 (pI (cps (sI (sI (pI (pI (pI (pI (sI h (g 11) (ibr (hI h (g 11)) 6)) (g 9) 0 (-1)) (g 10) 0 (-1)) (g 1) 0 8) (g 2) 0 6) (g 3) (iln (hI (pI (pI (pI (pI (sI h (g 11) (ibr (hI h (g 11)) 6)) (g 9) 0 (-1)) (g 10) 0 (-1)) (g 1) 0 8) (g 2) 0 6) (g 3)) 8)) (g 4) (iln (hI (sI (pI (pI (pI (pI (sI h (g 11) (ibr (hI h (g 11)) 6)) (g 9) 0 (-1)) (g 10) 0 (-1)) (g 1) 0 8) (g 2) 0 6) (g 3) (iln (hI (pI (pI (pI (pI (sI h (g 11) (ibr (hI h (g 11)) 6)) (g 9) 0 (-1)) (g 10) 0 (-1)) (g 1) 0 8) (g 2) 0 6) (g 3)) 8)) (g 4)) 6)) g 0 40) (g 0) 65 0) := by
  have e : ∀ k, mkl.getD k 0 ≠ 0 → g k = g 0 ∨ hK h0 (g k) = 0 := fun k hk => Or.inr (hz k hk).2
  unfold cps cs5 cs4 cs3
  refine Fr_pI ?_ (Or.inl rfl)
  refine Fr_sI (Fr_sI (Fr_sI (Fr_pI (Fr_pI (Fr_sI (Fr_sI (Fr_pI (Fr_pI (Fr_pI (Fr_pI (Fr_sI hFr ?_) ?_) ?_) ?_) ?_) ?_) ?_) ?_) ?_) ?_) ?_) ?_ <;> exact e _ (by decide)
set_option maxHeartbeats 4000000 in
theorem ini_fm {h0 h : Hp} {g : Nat → Nat} (hm : MW h g) (z0 : hI h (g 0) = fr_0) (hFr : Fr (fun b => b = g 0) h0 h) (hz : ∀ k, mkl.getD k 0 ≠ 0 → (hI h (g k) = fun _ => 0) ∧ hK h0 (g k) = 0) : FM2 (pI (cps (sI (sI (pI (pI (pI (pI (sI h (g 11) (ibr (hI h (g 11)) 6)) (g 9) 0 (-1)) (g 10) 0 (-1)) (g 1) 0 8) (g 2) 0 6) (g 3) (iln (hI (pI (pI (pI (pI (sI h (g 11) (ibr (hI h (g 11)) 6)) (g 9) 0 (-1)) (g 10) 0 (-1)) (g 1) 0 8) (g 2) 0 6) (g 3)) 8)) (g 4) (iln (hI (sI (pI (pI (pI (pI (sI h (g 11) (ibr (hI h (g 11)) 6)) (g 9) 0 (-1)) (g 10) 0 (-1)) (g 1) 0 8) (g 2) 0 6) (g 3) (iln (hI (pI (pI (pI (pI (sI h (g 11) (ibr (hI h (g 11)) 6)) (g 9) 0 (-1)) (g 10) 0 (-1)) (g 1) 0 8) (g 2) 0 6) (g 3)) 8)) (g 4)) 6)) g 0 40) (g 0) 65 0) g := by
  have w : ∀ k, mkl.getD k 0 ≠ 0 → hI h (g k) = fun _ => 0 := fun k hk => (hz k hk).1
  have w1 := w 1 (by decide)
  have w2 := w 2 (by decide)
  have w3 := w 3 (by decide)
  have w4 := w 4 (by decide)
  have w5 := w 5 (by decide)
  have w11 := w 11 (by decide)
  have a5 : hI (sI (sI (pI (pI (pI (pI (sI h (g 11) (ibr (hI h (g 11)) 6)) (g 9) 0 (-1)) (g 10) 0 (-1)) (g 1) 0 8) (g 2) 0 6) (g 3) (iln (hI (pI (pI (pI (pI (sI h (g 11) (ibr (hI h (g 11)) 6)) (g 9) 0 (-1)) (g 10) 0 (-1)) (g 1) 0 8) (g 2) 0 6) (g 3)) 8)) (g 4) (iln (hI (sI (pI (pI (pI (pI (sI h (g 11) (ibr (hI h (g 11)) 6)) (g 9) 0 (-1)) (g 10) 0 (-1)) (g 1) 0 8) (g 2) 0 6) (g 3) (iln (hI (pI (pI (pI (pI (sI h (g 11) (ibr (hI h (g 11)) 6)) (g 9) 0 (-1)) (g 10) 0 (-1)) (g 1) 0 8) (g 2) 0 6) (g 3)) 8)) (g 4)) 6)) (g 5) = fun _ => 0 := by funext j; simp [hI_sI, hI_pI, mNe hm (i := 5) (j := 1) rfl rfl rfl, mNe hm (i := 5) (j := 2) rfl rfl rfl, mNe hm (i := 5) (j := 3) rfl rfl rfl, mNe hm (i := 5) (j := 4) rfl rfl rfl, mNe hm (i := 5) (j := 9) rfl rfl rfl, mNe hm (i := 5) (j := 10) rfl rfl rfl, mNe hm (i := 5) (j := 11) rfl rfl rfl, w5]
  have a4 : hI (sI (sI (pI (pI (pI (pI (sI h (g 11) (ibr (hI h (g 11)) 6)) (g 9) 0 (-1)) (g 10) 0 (-1)) (g 1) 0 8) (g 2) 0 6) (g 3) (iln (hI (pI (pI (pI (pI (sI h (g 11) (ibr (hI h (g 11)) 6)) (g 9) 0 (-1)) (g 10) 0 (-1)) (g 1) 0 8) (g 2) 0 6) (g 3)) 8)) (g 4) (iln (hI (sI (pI (pI (pI (pI (sI h (g 11) (ibr (hI h (g 11)) 6)) (g 9) 0 (-1)) (g 10) 0 (-1)) (g 1) 0 8) (g 2) 0 6) (g 3) (iln (hI (pI (pI (pI (pI (sI h (g 11) (ibr (hI h (g 11)) 6)) (g 9) 0 (-1)) (g 10) 0 (-1)) (g 1) 0 8) (g 2) 0 6) (g 3)) 8)) (g 4)) 6)) (g 4) = iln (fun _ => 0) 6 := by
    rw [hI_sI1]; congr 1; funext j; simp [hI_sI, hI_pI, mNe hm (i := 4) (j := 1) rfl rfl rfl, mNe hm (i := 4) (j := 2) rfl rfl rfl, mNe hm (i := 4) (j := 3) rfl rfl rfl, mNe hm (i := 4) (j := 9) rfl rfl rfl, mNe hm (i := 4) (j := 10) rfl rfl rfl, mNe hm (i := 4) (j := 11) rfl rfl rfl, w4]
  have a3 : hI (sI (sI (pI (pI (pI (pI (sI h (g 11) (ibr (hI h (g 11)) 6)) (g 9) 0 (-1)) (g 10) 0 (-1)) (g 1) 0 8) (g 2) 0 6) (g 3) (iln (hI (pI (pI (pI (pI (sI h (g 11) (ibr (hI h (g 11)) 6)) (g 9) 0 (-1)) (g 10) 0 (-1)) (g 1) 0 8) (g 2) 0 6) (g 3)) 8)) (g 4) (iln (hI (sI (pI (pI (pI (pI (sI h (g 11) (ibr (hI h (g 11)) 6)) (g 9) 0 (-1)) (g 10) 0 (-1)) (g 1) 0 8) (g 2) 0 6) (g 3) (iln (hI (pI (pI (pI (pI (sI h (g 11) (ibr (hI h (g 11)) 6)) (g 9) 0 (-1)) (g 10) 0 (-1)) (g 1) 0 8) (g 2) 0 6) (g 3)) 8)) (g 4)) 6)) (g 3) = iln (fun _ => 0) 8 := by
    rw [hI_sI, if_neg (mNe hm (i := 3) (j := 4) rfl rfl rfl), hI_sI1]; congr 1; funext j; simp [hI_sI, hI_pI, mNe hm (i := 3) (j := 1) rfl rfl rfl, mNe hm (i := 3) (j := 2) rfl rfl rfl, mNe hm (i := 3) (j := 9) rfl rfl rfl, mNe hm (i := 3) (j := 10) rfl rfl rfl, mNe hm (i := 3) (j := 11) rfl rfl rfl, w3]
  have a2 : hI (sI (sI (pI (pI (pI (pI (sI h (g 11) (ibr (hI h (g 11)) 6)) (g 9) 0 (-1)) (g 10) 0 (-1)) (g 1) 0 8) (g 2) 0 6) (g 3) (iln (hI (pI (pI (pI (pI (sI h (g 11) (ibr (hI h (g 11)) 6)) (g 9) 0 (-1)) (g 10) 0 (-1)) (g 1) 0 8) (g 2) 0 6) (g 3)) 8)) (g 4) (iln (hI (sI (pI (pI (pI (pI (sI h (g 11) (ibr (hI h (g 11)) 6)) (g 9) 0 (-1)) (g 10) 0 (-1)) (g 1) 0 8) (g 2) 0 6) (g 3) (iln (hI (pI (pI (pI (pI (sI h (g 11) (ibr (hI h (g 11)) 6)) (g 9) 0 (-1)) (g 10) 0 (-1)) (g 1) 0 8) (g 2) 0 6) (g 3)) 8)) (g 4)) 6)) (g 2) = upd (fun _ => 0) 0 6 := by funext j; simp [hI_sI, hI_pI, mNe hm (i := 2) (j := 1) rfl rfl rfl, mNe hm (i := 2) (j := 3) rfl rfl rfl, mNe hm (i := 2) (j := 4) rfl rfl rfl, mNe hm (i := 2) (j := 9) rfl rfl rfl, mNe hm (i := 2) (j := 10) rfl rfl rfl, mNe hm (i := 2) (j := 11) rfl rfl rfl, w2, upd]
  have a1 : hI (sI (sI (pI (pI (pI (pI (sI h (g 11) (ibr (hI h (g 11)) 6)) (g 9) 0 (-1)) (g 10) 0 (-1)) (g 1) 0 8) (g 2) 0 6) (g 3) (iln (hI (pI (pI (pI (pI (sI h (g 11) (ibr (hI h (g 11)) 6)) (g 9) 0 (-1)) (g 10) 0 (-1)) (g 1) 0 8) (g 2) 0 6) (g 3)) 8)) (g 4) (iln (hI (sI (pI (pI (pI (pI (sI h (g 11) (ibr (hI h (g 11)) 6)) (g 9) 0 (-1)) (g 10) 0 (-1)) (g 1) 0 8) (g 2) 0 6) (g 3) (iln (hI (pI (pI (pI (pI (sI h (g 11) (ibr (hI h (g 11)) 6)) (g 9) 0 (-1)) (g 10) 0 (-1)) (g 1) 0 8) (g 2) 0 6) (g 3)) 8)) (g 4)) 6)) (g 1) = upd (fun _ => 0) 0 8 := by funext j; simp [hI_sI, hI_pI, mNe hm (i := 1) (j := 2) rfl rfl rfl, mNe hm (i := 1) (j := 3) rfl rfl rfl, mNe hm (i := 1) (j := 4) rfl rfl rfl, mNe hm (i := 1) (j := 9) rfl rfl rfl, mNe hm (i := 1) (j := 10) rfl rfl rfl, mNe hm (i := 1) (j := 11) rfl rfl rfl, w1, upd]
  have ao : ∀ k, vld k = true → 12 ≤ k → mkl.getD k 0 ≠ 0 → hI (sI (sI (pI (pI (pI (pI (sI h (g 11) (ibr (hI h (g 11)) 6)) (g 9) 0 (-1)) (g 10) 0 (-1)) (g 1) 0 8) (g 2) 0 6) (g 3) (iln (hI (pI (pI (pI (pI (sI h (g 11) (ibr (hI h (g 11)) 6)) (g 9) 0 (-1)) (g 10) 0 (-1)) (g 1) 0 8) (g 2) 0 6) (g 3)) 8)) (g 4) (iln (hI (sI (pI (pI (pI (pI (sI h (g 11) (ibr (hI h (g 11)) 6)) (g 9) 0 (-1)) (g 10) 0 (-1)) (g 1) 0 8) (g 2) 0 6) (g 3) (iln (hI (pI (pI (pI (pI (sI h (g 11) (ibr (hI h (g 11)) 6)) (g 9) 0 (-1)) (g 10) 0 (-1)) (g 1) 0 8) (g 2) 0 6) (g 3)) 8)) (g 4)) 6)) (g k) = fun _ => 0 := fun k hv h12 hk => by
    have e : ∀ i, i < 12 → vld i = true → g k ≠ g i := fun i hi hv2 => mNe hm hv hv2 (by simp; omega)
    funext j
    simp [hI_sI, hI_pI, e 1 (by decide) rfl, e 2 (by decide) rfl, e 3 (by decide) rfl, e 4 (by decide) rfl, e 9 (by decide) rfl, e 10 (by decide) rfl, e 11 (by decide) rfl, w k hk]
  have a0 : hI (sI (sI (pI (pI (pI (pI (sI h (g 11) (ibr (hI h (g 11)) 6)) (g 9) 0 (-1)) (g 10) 0 (-1)) (g 1) 0 8) (g 2) 0 6) (g 3) (iln (hI (pI (pI (pI (pI (sI h (g 11) (ibr (hI h (g 11)) 6)) (g 9) 0 (-1)) (g 10) 0 (-1)) (g 1) 0 8) (g 2) 0 6) (g 3)) 8)) (g 4) (iln (hI (sI (pI (pI (pI (pI (sI h (g 11) (ibr (hI h (g 11)) 6)) (g 9) 0 (-1)) (g 10) 0 (-1)) (g 1) 0 8) (g 2) 0 6) (g 3) (iln (hI (pI (pI (pI (pI (sI h (g 11) (ibr (hI h (g 11)) 6)) (g 9) 0 (-1)) (g 10) 0 (-1)) (g 1) 0 8) (g 2) 0 6) (g 3)) 8)) (g 4)) 6)) (g 0) = fr_0 := by funext j; simp [hI_sI, hI_pI, mNe hm (i := 0) (j := 1) rfl rfl rfl, mNe hm (i := 0) (j := 2) rfl rfl rfl, mNe hm (i := 0) (j := 3) rfl rfl rfl, mNe hm (i := 0) (j := 4) rfl rfl rfl, mNe hm (i := 0) (j := 9) rfl rfl rfl, mNe hm (i := 0) (j := 10) rfl rfl rfl, mNe hm (i := 0) (j := 11) rfl rfl rfl, z0]
  have a9 : hI (sI (sI (pI (pI (pI (pI (sI h (g 11) (ibr (hI h (g 11)) 6)) (g 9) 0 (-1)) (g 10) 0 (-1)) (g 1) 0 8) (g 2) 0 6) (g 3) (iln (hI (pI (pI (pI (pI (sI h (g 11) (ibr (hI h (g 11)) 6)) (g 9) 0 (-1)) (g 10) 0 (-1)) (g 1) 0 8) (g 2) 0 6) (g 3)) 8)) (g 4) (iln (hI (sI (pI (pI (pI (pI (sI h (g 11) (ibr (hI h (g 11)) 6)) (g 9) 0 (-1)) (g 10) 0 (-1)) (g 1) 0 8) (g 2) 0 6) (g 3) (iln (hI (pI (pI (pI (pI (sI h (g 11) (ibr (hI h (g 11)) 6)) (g 9) 0 (-1)) (g 10) 0 (-1)) (g 1) 0 8) (g 2) 0 6) (g 3)) 8)) (g 4)) 6)) (g 9) 0 = -1 := by simp [hI_sI, hI_pI, mNe hm (i := 9) (j := 1) rfl rfl rfl, mNe hm (i := 9) (j := 2) rfl rfl rfl, mNe hm (i := 9) (j := 3) rfl rfl rfl, mNe hm (i := 9) (j := 4) rfl rfl rfl, mNe hm (i := 9) (j := 10) rfl rfl rfl, mNe hm (i := 9) (j := 11) rfl rfl rfl]
  have a10 : hI (sI (sI (pI (pI (pI (pI (sI h (g 11) (ibr (hI h (g 11)) 6)) (g 9) 0 (-1)) (g 10) 0 (-1)) (g 1) 0 8) (g 2) 0 6) (g 3) (iln (hI (pI (pI (pI (pI (sI h (g 11) (ibr (hI h (g 11)) 6)) (g 9) 0 (-1)) (g 10) 0 (-1)) (g 1) 0 8) (g 2) 0 6) (g 3)) 8)) (g 4) (iln (hI (sI (pI (pI (pI (pI (sI h (g 11) (ibr (hI h (g 11)) 6)) (g 9) 0 (-1)) (g 10) 0 (-1)) (g 1) 0 8) (g 2) 0 6) (g 3) (iln (hI (pI (pI (pI (pI (sI h (g 11) (ibr (hI h (g 11)) 6)) (g 9) 0 (-1)) (g 10) 0 (-1)) (g 1) 0 8) (g 2) 0 6) (g 3)) 8)) (g 4)) 6)) (g 10) 0 = -1 := by simp [hI_sI, hI_pI, mNe hm (i := 10) (j := 1) rfl rfl rfl, mNe hm (i := 10) (j := 2) rfl rfl rfl, mNe hm (i := 10) (j := 3) rfl rfl rfl, mNe hm (i := 10) (j := 4) rfl rfl rfl, mNe hm (i := 10) (j := 9) rfl rfl rfl, mNe hm (i := 10) (j := 11) rfl rfl rfl]
  have a11 : hI (sI (sI (pI (pI (pI (pI (sI h (g 11) (ibr (hI h (g 11)) 6)) (g 9) 0 (-1)) (g 10) 0 (-1)) (g 1) 0 8) (g 2) 0 6) (g 3) (iln (hI (pI (pI (pI (pI (sI h (g 11) (ibr (hI h (g 11)) 6)) (g 9) 0 (-1)) (g 10) 0 (-1)) (g 1) 0 8) (g 2) 0 6) (g 3)) 8)) (g 4) (iln (hI (sI (pI (pI (pI (pI (sI h (g 11) (ibr (hI h (g 11)) 6)) (g 9) 0 (-1)) (g 10) 0 (-1)) (g 1) 0 8) (g 2) 0 6) (g 3) (iln (hI (pI (pI (pI (pI (sI h (g 11) (ibr (hI h (g 11)) 6)) (g 9) 0 (-1)) (g 10) 0 (-1)) (g 1) 0 8) (g 2) 0 6) (g 3)) 8)) (g 4)) 6)) (g 11) = ibr (fun _ => 0) 6 := by funext j; simp [hI_sI, hI_pI, mNe hm (i := 11) (j := 1) rfl rfl rfl, mNe hm (i := 11) (j := 2) rfl rfl rfl, mNe hm (i := 11) (j := 3) rfl rfl rfl, mNe hm (i := 11) (j := 4) rfl rfl rfl, mNe hm (i := 11) (j := 9) rfl rfl rfl, mNe hm (i := 11) (j := 10) rfl rfl rfl, w11]
  have hm4 : MW (sI (sI (pI (pI (pI (pI (sI h (g 11) (ibr (hI h (g 11)) 6)) (g 9) 0 (-1)) (g 10) 0 (-1)) (g 1) 0 8) (g 2) 0 6) (g 3) (iln (hI (pI (pI (pI (pI (sI h (g 11) (ibr (hI h (g 11)) 6)) (g 9) 0 (-1)) (g 10) 0 (-1)) (g 1) 0 8) (g 2) 0 6) (g 3)) 8)) (g 4) (iln (hI (sI (pI (pI (pI (pI (sI h (g 11) (ibr (hI h (g 11)) 6)) (g 9) 0 (-1)) (g 10) 0 (-1)) (g 1) 0 8) (g 2) 0 6) (g 3) (iln (hI (pI (pI (pI (pI (sI h (g 11) (ibr (hI h (g 11)) 6)) (g 9) 0 (-1)) (g 10) 0 (-1)) (g 1) 0 8) (g 2) 0 6) (g 3)) 8)) (g 4)) 6)) g := hm
  generalize sI (sI (pI (pI (pI (pI (sI h (g 11) (ibr (hI h (g 11)) 6)) (g 9) 0 (-1)) (g 10) 0 (-1)) (g 1) 0 8) (g 2) 0 6) (g 3) (iln (hI (pI (pI (pI (pI (sI h (g 11) (ibr (hI h (g 11)) 6)) (g 9) 0 (-1)) (g 10) 0 (-1)) (g 1) 0 8) (g 2) 0 6) (g 3)) 8)) (g 4) (iln (hI (sI (pI (pI (pI (pI (sI h (g 11) (ibr (hI h (g 11)) 6)) (g 9) 0 (-1)) (g 10) 0 (-1)) (g 1) 0 8) (g 2) 0 6) (g 3) (iln (hI (pI (pI (pI (pI (sI h (g 11) (ibr (hI h (g 11)) 6)) (g 9) 0 (-1)) (g 10) 0 (-1)) (g 1) 0 8) (g 2) 0 6) (g 3)) 8)) (g 4)) 6) = H at a0 a1 a2 a3 a4 a5 a9 a10 a11 ao hm4 ⊢
  have bo : ∀ k, vld k = true → 6 ≤ k → hI (pI (cps H g 0 40) (g 0) 65 0) (g k) = hI H (g k) := fun k hv h6 => by
    have e : ∀ i, i < 6 → vld i = true → g k ≠ g i := fun i hi hv2 => mNe hm hv hv2 (by simp; omega)
    funext j
    simp [hI_sI, hI_pI, cps, cs5, cs4, cs3, e 0 (by decide) rfl, e 1 (by decide) rfl, e 2 (by decide) rfl, e 3 (by decide) rfl, e 4 (by decide) rfl, e 5 (by decide) rfl]
  refine ⟨⟨hm4, ?_, ?_, ?_, ?_, ?_, ?_, ?_, ?_, ?_, ?_⟩, ?_, ?_⟩
  · rw [pI_same (show hI (cps H g 0 40) (g 0) 65 = 0 by simp [hI_sI, hI_pI, cps, cs5, cs4, cs3, mNe hm (i := 0) (j := 1) rfl rfl rfl, mNe hm (i := 0) (j := 2) rfl rfl rfl, mNe hm (i := 0) (j := 3) rfl rfl rfl, mNe hm (i := 0) (j := 4) rfl rfl rfl, mNe hm (i := 0) (j := 5) rfl rfl rfl, a0, fr_0])]
    funext j; simp [hI_sI, hI_pI, cps, cs5, cs4, cs3, mNe hm (i := 0) (j := 1) rfl rfl rfl, mNe hm (i := 0) (j := 2) rfl rfl rfl, mNe hm (i := 0) (j := 3) rfl rfl rfl, mNe hm (i := 0) (j := 4) rfl rfl rfl, mNe hm (i := 0) (j := 5) rfl rfl rfl, a0]
  · rw [hI_pIn (mNe hm (i := 1) (j := 0) rfl rfl rfl)]
    funext j
    simp [hI_sI, hI_pI, cps, cs5, cs4, cs3, mNe hm (i := 1) (j := 2) rfl rfl rfl, mNe hm (i := 1) (j := 3) rfl rfl rfl, mNe hm (i := 1) (j := 4) rfl rfl rfl, mNe hm (i := 1) (j := 5) rfl rfl rfl, a1, upd]
    by_cases j0 : j = 0
    · subst j0; simp [fr_1]
    · by_cases j4 : j = 40
      · subst j4; simp [fr_1]
      · rw [fr_1_o j0 j4]; simp [j0, j4]
  · rw [hI_pIn (mNe hm (i := 2) (j := 0) rfl rfl rfl)]
    funext j
    simp [hI_sI, hI_pI, cps, cs5, cs4, cs3, mNe hm (i := 2) (j := 1) rfl rfl rfl, mNe hm (i := 2) (j := 3) rfl rfl rfl, mNe hm (i := 2) (j := 4) rfl rfl rfl, mNe hm (i := 2) (j := 5) rfl rfl rfl, a2, upd]
    by_cases j0 : j = 0
    · subst j0; simp [fr_1]
    · by_cases j4 : j = 40
      · subst j4; simp [fr_1]
      · rw [fr_1_o j0 j4]; simp [j0, j4]
  · rw [hI_pIn (mNe hm (i := 3) (j := 0) rfl rfl rfl)]
    funext j
    simp only [hI_sI, cps, cs5, cs4, if_neg (mNe hm (i := 3) (j := 4) rfl rfl rfl), if_neg (mNe hm (i := 3) (j := 5) rfl rfl rfl), if_pos, a3, cpI, iln, fr_3]
    by_cases q : 32 * 40 ≤ j ∧ j < 32 * 40 + 32
    · rw [if_pos q, if_neg (show ¬ j < 8 by omega)]
      by_cases q2 : j < 32 * 40 + 8
      · rw [if_pos (by omega), if_pos (by omega), show 32 * 0 + (j - 32 * 40) = j - 32 * 40 by omega]
      · rw [if_neg (by omega), if_neg (by omega)]
    · rw [if_neg q]
      by_cases q2 : j < 8
      · rw [if_pos q2, if_pos q2]
      · rw [if_neg q2, if_neg q2, if_neg (by omega)]
  · rw [hI_pIn (mNe hm (i := 4) (j := 0) rfl rfl rfl)]
    funext j
    simp only [hI_sI, cps, cs5, if_neg (mNe hm (i := 4) (j := 5) rfl rfl rfl), if_pos, a4, cpI, iln, fr_3]
    by_cases q : 10 * 40 ≤ j ∧ j < 10 * 40 + 10
    · rw [if_pos q, if_neg (show ¬ j < 6 by omega)]
      by_cases q2 : j < 10 * 40 + 6
      · rw [if_pos (by omega), if_pos (by omega), show 10 * 0 + (j - 10 * 40) = j - 10 * 40 by omega]
      · rw [if_neg (by omega), if_neg (by omega)]
    · rw [if_neg q]
      by_cases q2 : j < 6
      · rw [if_pos q2, if_pos q2]
      · rw [if_neg q2, if_neg q2, if_neg (by omega)]
  · rw [hI_pIn (mNe hm (i := 5) (j := 0) rfl rfl rfl), cps, hI_sI1, a5, cpI_z]
  · rw [bo 9 rfl (by decide)]; exact a9
  · rw [bo 10 rfl (by decide)]; exact a10
  · intro j hj
    rw [bo 11 rfl (by decide), a11]
    simp only [ibr]
    match j with
    | 0 => rfl
    | j + 1 => rw [if_pos (by omega)]; rfl
  · rw [bo 64 rfl (by decide)]; exact ao 64 rfl (by decide) (by decide)
  · rw [bo 60 rfl (by decide)]; exact ao 60 rfl (by decide) (by decide)
  · rw [bo 69 rfl (by decide)]; exact ao 69 rfl (by decide) (by decide)
set_option maxRecDepth 20000 in
theorem e_ini594 {h0 h : Hp} {g : Nat → Nat} (hm : MW h g) (z0 : hI h (g 0) = fr_0) (hFr : Fr (fun b => b = g 0) h0 h) (hz : ∀ k, mkl.getD k 0 ≠ 0 → (hI h (g k) = fun _ => 0) ∧ hK h0 (g k) = 0) : J mX12_init 3 0 0 (nx (fun v u => v = none ∧ ∃ g2 : Nat → Nat, g2 0 = g 0 ∧ FM2 u g2 ∧ Fr (fun b => b = g 0) h0 u ∧ ∀ k, mkl.getD k 0 ≠ 0 → hK h0 (g2 k) = 0)) 594 [some (vr (some (g 0))), none] [] (sI (sI (pI (pI (pI (pI (sI h (g 11) (ibr (hI h (g 11)) 6)) (g 9) 0 (-1)) (g 10) 0 (-1)) (g 1) 0 8) (g 2) 0 6) (g 3) (iln (hI (pI (pI (pI (pI (sI h (g 11) (ibr (hI h (g 11)) 6)) (g 9) 0 (-1)) (g 10) 0 (-1)) (g 1) 0 8) (g 2) 0 6) (g 3)) 8)) (g 4) (iln (hI (sI (pI (pI (pI (pI (sI h (g 11) (ibr (hI h (g 11)) 6)) (g 9) 0 (-1)) (g 10) 0 (-1)) (g 1) 0 8) (g 2) 0 6) (g 3) (iln (hI (pI (pI (pI (pI (sI h (g 11) (ibr (hI h (g 11)) 6)) (g 9) 0 (-1)) (g 10) 0 (-1)) (g 1) 0 8) (g 2) 0 6) (g 3)) 8)) (g 4)) 6)) := by
  refine j_aload_n dX12_init_594 rfl ?_
  refine j_iconst (v := 0) dX12_init_595 (by decide) ?_
  refine j_bipush (v := 40) dX12_init_596 (by decide) ?_
  refine j_callV2 dX12_init_598 vl_X12_198 (c_copySheet (s := 0) (t := 40) hm (by decide) (by decide)) hm.1 rfl (by decide) (by omega) (by omega) (Nat.le_of_ble_eq_true rfl) (fun v_598 u_598 p_598 => ?_)
  obtain ⟨rfl, rfl⟩ := p_598
  rw [if_pos rfl]
  dsimp only [rs]
  exact j_return dX12_init_601 rfl (⟨rfl, g, rfl, ini_fm hm z0 hFr hz, ini_fr hm z0 hFr hz, fun k hk => (hz k hk).2⟩)

set_option maxRecDepth 20000 in
theorem e_ini573 {h0 h : Hp} {g : Nat → Nat} (hm : MW h g) (z0 : hI h (g 0) = fr_0) (hFr : Fr (fun b => b = g 0) h0 h) (hz : ∀ k, mkl.getD k 0 ≠ 0 → (hI h (g k) = fun _ => 0) ∧ hK h0 (g k) = 0) : J mX12_init 3 0 0 (nx (fun v u => v = none ∧ ∃ g2 : Nat → Nat, g2 0 = g 0 ∧ FM2 u g2 ∧ Fr (fun b => b = g 0) h0 u ∧ ∀ k, mkl.getD k 0 ≠ 0 → hK h0 (g2 k) = 0)) 573 [some (vr (some (g 0))), none] [] (sI (pI (pI (pI (pI (sI h (g 11) (ibr (hI h (g 11)) 6)) (g 9) 0 (-1)) (g 10) 0 (-1)) (g 1) 0 8) (g 2) 0 6) (g 3) (iln (hI (pI (pI (pI (pI (sI h (g 11) (ibr (hI h (g 11)) 6)) (g 9) 0 (-1)) (g 10) 0 (-1)) (g 1) 0 8) (g 2) 0 6) (g 3)) 8)) := by
  refine j_iconst (v := 0) dX12_init_573 (by decide) ?_
  refine j_istore_n dX12_init_574 (by decide) ?_
  dsimp only [st1, st2, unL, List.set]
  refine j_lle (lv' := [some (vr (some (g 0))), some (vi (nI 0))]) (by simp [lle]; rfl) ?_
  have z : sI (sI (pI (pI (pI (pI (sI h (g 11) (ibr (hI h (g 11)) 6)) (g 9) 0 (-1)) (g 10) 0 (-1)) (g 1) 0 8) (g 2) 0 6) (g 3) (iln (hI (pI (pI (pI (pI (sI h (g 11) (ibr (hI h (g 11)) 6)) (g 9) 0 (-1)) (g 10) 0 (-1)) (g 1) 0 8) (g 2) 0 6) (g 3)) 8)) (g 4) (iln (hI (sI (pI (pI (pI (pI (sI h (g 11) (ibr (hI h (g 11)) 6)) (g 9) 0 (-1)) (g 10) 0 (-1)) (g 1) 0 8) (g 2) 0 6) (g 3) (iln (hI (pI (pI (pI (pI (sI h (g 11) (ibr (hI h (g 11)) 6)) (g 9) 0 (-1)) (g 10) 0 (-1)) (g 1) 0 8) (g 2) 0 6) (g 3)) 8)) (g 4)) 0) = sI (pI (pI (pI (pI (sI h (g 11) (ibr (hI h (g 11)) 6)) (g 9) 0 (-1)) (g 10) 0 (-1)) (g 1) 0 8) (g 2) 0 6) (g 3) (iln (hI (pI (pI (pI (pI (sI h (g 11) (ibr (hI h (g 11)) 6)) (g 9) 0 (-1)) (g 10) 0 (-1)) (g 1) 0 8) (g 2) 0 6) (g 3)) 8) := by
    rw [show iln (hI (sI (pI (pI (pI (pI (sI h (g 11) (ibr (hI h (g 11)) 6)) (g 9) 0 (-1)) (g 10) 0 (-1)) (g 1) 0 8) (g 2) 0 6) (g 3) (iln (hI (pI (pI (pI (pI (sI h (g 11) (ibr (hI h (g 11)) 6)) (g 9) 0 (-1)) (g 10) 0 (-1)) (g 1) 0 8) (g 2) 0 6) (g 3)) 8)) (g 4)) 0 = hI (sI (pI (pI (pI (pI (sI h (g 11) (ibr (hI h (g 11)) 6)) (g 9) 0 (-1)) (g 10) 0 (-1)) (g 1) 0 8) (g 2) 0 6) (g 3) (iln (hI (pI (pI (pI (pI (sI h (g 11) (ibr (hI h (g 11)) 6)) (g 9) 0 (-1)) (g 10) 0 (-1)) (g 1) 0 8) (g 2) 0 6) (g 3)) 8)) (g 4) by funext j; rw [iln, if_neg (by omega)], sI_self]
  refine z ▸ l_ini3 (h := sI (pI (pI (pI (pI (sI h (g 11) (ibr (hI h (g 11)) 6)) (g 9) 0 (-1)) (g 10) 0 (-1)) (g 1) 0 8) (g 2) 0 6) (g 3) (iln (hI (pI (pI (pI (pI (sI h (g 11) (ibr (hI h (g 11)) 6)) (g 9) 0 (-1)) (g 10) 0 (-1)) (g 1) 0 8) (g 2) 0 6) (g 3)) 8)) hm ?_ 10 0 (by omega) (by omega)
  exact e_ini594 hm z0 hFr hz

set_option maxRecDepth 20000 in
theorem e_ini522 {h0 h : Hp} {g : Nat → Nat} (hm : MW h g) (z0 : hI h (g 0) = fr_0) (hFr : Fr (fun b => b = g 0) h0 h) (hz : ∀ k, mkl.getD k 0 ≠ 0 → (hI h (g k) = fun _ => 0) ∧ hK h0 (g k) = 0) : J mX12_init 3 0 0 (nx (fun v u => v = none ∧ ∃ g2 : Nat → Nat, g2 0 = g 0 ∧ FM2 u g2 ∧ Fr (fun b => b = g 0) h0 u ∧ ∀ k, mkl.getD k 0 ≠ 0 → hK h0 (g2 k) = 0)) 522 [some (vr (some (g 0))), none] [] (sI h (g 11) (ibr (hI h (g 11)) 6)) := by
  refine j_aload_n dX12_init_522 rfl ?_
  refine j_getR dX12_init_523 fl_X12_36 rfl hm.1 (mO hm rfl) ?_
  refine j_iconst (v := 0) dX12_init_526 (by decide) ?_
  refine j_iconst (v := -1) dX12_init_527 (by decide) ?_
  refine j_iast 0 dX12_init_528 (mK hm rfl) rfl (Nat.lt_of_lt_of_eq (by omega) (mN hm (k := 9) (n := 40) rfl rfl).symm) (Nat.lt_of_le_of_lt (Nat.le_of_eq (mN hm (k := 9) (n := 40) rfl rfl)) (by decide)) ?_
  refine j_aload_n dX12_init_529 rfl ?_
  refine j_getR dX12_init_530 fl_X12_39 rfl hm.1 (mO hm rfl) ?_
  refine j_iconst (v := 0) dX12_init_533 (by decide) ?_
  refine j_iconst (v := -1) dX12_init_534 (by decide) ?_
  refine j_iast 0 dX12_init_535 (mK hm rfl) rfl (Nat.lt_of_lt_of_eq (by omega) (mN hm (k := 10) (n := 40) rfl rfl).symm) (Nat.lt_of_le_of_lt (Nat.le_of_eq (mN hm (k := 10) (n := 40) rfl rfl)) (by decide)) ?_
  refine j_aload_n dX12_init_536 rfl ?_
  refine j_getR dX12_init_537 fl_X12_7 rfl hm.1 (mO hm rfl) ?_
  refine j_iconst (v := 0) dX12_init_540 (by decide) ?_
  refine j_bipush (v := 8) dX12_init_541 (by decide) ?_
  refine j_iast 0 dX12_init_543 (mK hm rfl) rfl (Nat.lt_of_lt_of_eq (by omega) (mN hm (k := 1) (n := 122) rfl rfl).symm) (Nat.lt_of_le_of_lt (Nat.le_of_eq (mN hm (k := 1) (n := 122) rfl rfl)) (by decide)) ?_
  refine j_aload_n dX12_init_544 rfl ?_
  refine j_getR dX12_init_545 fl_X12_13 rfl hm.1 (mO hm rfl) ?_
  refine j_iconst (v := 0) dX12_init_548 (by decide) ?_
  refine j_bipush (v := 6) dX12_init_549 (by decide) ?_
  refine j_iast 0 dX12_init_551 (mK hm rfl) rfl (Nat.lt_of_lt_of_eq (by omega) (mN hm (k := 2) (n := 122) rfl rfl).symm) (Nat.lt_of_le_of_lt (Nat.le_of_eq (mN hm (k := 2) (n := 122) rfl rfl)) (by decide)) ?_
  refine j_iconst (v := 0) dX12_init_552 (by decide) ?_
  refine j_istore_n dX12_init_553 (by decide) ?_
  dsimp only [st1, st2, unL, List.set]
  refine j_lle (lv' := [some (vr (some (g 0))), some (vi (nI 0))]) (by simp [lle]; rfl) ?_
  have z : sI (pI (pI (pI (pI (sI h (g 11) (ibr (hI h (g 11)) 6)) (g 9) 0 (-1)) (g 10) 0 (-1)) (g 1) 0 8) (g 2) 0 6) (g 3) (iln (hI (pI (pI (pI (pI (sI h (g 11) (ibr (hI h (g 11)) 6)) (g 9) 0 (-1)) (g 10) 0 (-1)) (g 1) 0 8) (g 2) 0 6) (g 3)) 0) = pI (pI (pI (pI (sI h (g 11) (ibr (hI h (g 11)) 6)) (g 9) 0 (-1)) (g 10) 0 (-1)) (g 1) 0 8) (g 2) 0 6 := by
    rw [show iln (hI (pI (pI (pI (pI (sI h (g 11) (ibr (hI h (g 11)) 6)) (g 9) 0 (-1)) (g 10) 0 (-1)) (g 1) 0 8) (g 2) 0 6) (g 3)) 0 = hI (pI (pI (pI (pI (sI h (g 11) (ibr (hI h (g 11)) 6)) (g 9) 0 (-1)) (g 10) 0 (-1)) (g 1) 0 8) (g 2) 0 6) (g 3) by funext j; rw [iln, if_neg (by omega)], sI_self]
  refine z ▸ l_ini2 (h := pI (pI (pI (pI (sI h (g 11) (ibr (hI h (g 11)) 6)) (g 9) 0 (-1)) (g 10) 0 (-1)) (g 1) 0 8) (g 2) 0 6) hm ?_ 10 0 (by omega) (by omega)
  exact e_ini573 hm z0 hFr hz

set_option maxRecDepth 20000 in
theorem e_initB {h0 h : Hp} {g : Nat → Nat} (hm : MW h g) (z0 : hI h (g 0) = fr_0) (hFr : Fr (fun b => b = g 0) h0 h) (hz : ∀ k, mkl.getD k 0 ≠ 0 → (hI h (g k) = fun _ => 0) ∧ hK h0 (g k) = 0) : J mX12_init 3 0 0 (nx (fun v u => v = none ∧ ∃ g2 : Nat → Nat, g2 0 = g 0 ∧ FM2 u g2 ∧ Fr (fun b => b = g 0) h0 u ∧ ∀ k, mkl.getD k 0 ≠ 0 → hK h0 (g2 k) = 0)) 501 [some (vr (some (g 0))), none] [] (h) := by
  refine j_iconst (v := 1) dX12_init_501 (by decide) ?_
  refine j_istore_n dX12_init_502 (by decide) ?_
  dsimp only [st1, st2, unL, List.set]
  refine j_lle (lv' := [some (vr (some (g 0))), some (vi (nI 1))]) (by simp [lle]; rfl) ?_
  have z : sI (h) (g 11) (ibr (hI (h) (g 11)) 1) = h := by
    rw [show ibr (hI (h) (g 11)) 1 = hI (h) (g 11) by funext j; rw [ibr, if_neg (by omega)], sI_self]
  refine z ▸ l_ini1 (h := h) hm ?_ 10 1 (by omega) (by omega)
  exact e_ini522 hm z0 hFr hz

set_option maxRecDepth 20000 in
theorem c_init12 {h0 : Hp} {a : Nat} (hk : hK h0 a = 13) (hz : hI h0 a = fun _ => 0) : Con mX12_init 3 56 1298775 [vr (some a)] h0 (fun v u => v = none ∧ ∃ g : Nat → Nat, g 0 = a ∧ FM2 u g ∧ Fr (fun b => b = a) h0 u ∧ ∀ k, mkl.getD k 0 ≠ 0 → hK h0 (g k) = 0) := by
  have hP := MP_0 (kd := kdM) (ln := lnM) hk hz
  refine con_of rfl (Nat.le_of_ble_eq_true rfl) (by decide) ?_
  show J mX12_init 3 56 1298775 _ 0 [some (vr (some a)), none] [] h0
  refine j_aload_n dX12_init_0 rfl ?_
  refine j_objInit dX12_init_1 ol_X12_1 ob_1 ob_2 (by decide) (Nat.le_of_ble_eq_true rfl) ?_
  refine j_aload_n dX12_init_4 rfl ?_
  refine j_bipush (v := 122) dX12_init_5 (by decide) ?_
  refine j_mono (mc' := 55 + 1) (ms' := 1298653 + 122) (by omega) (by omega) ?_
  refine j_newI (122) dX12_init_7 ac_int (by rfl) (by omega) (fun q_7 hq_7 => ?_)
  refine j_putOF dX12_init_9 fl_X12_7 rfl (fun _ _ q => by cases q; rfl) rfl (by first | exact hP.1 | (rw [hK_nw, if_neg (fun e => by have w := hP.1; rw [e] at w; omega)]; exact hP.1)) ?_
  replace hP := MP_new 1 q_7 15 122 hP hq_7 rfl (by decide) rfl (by simp)
  generalize pO (nw h0 q_7 15 122) a 1 (some q_7) = h_12 at hP ⊢
  refine j_aload_n dX12_init_12 rfl ?_
  refine j_bipush (v := 122) dX12_init_13 (by decide) ?_
  refine j_mono (mc' := 54 + 1) (ms' := 1298531 + 122) (by omega) (by omega) ?_
  refine j_newI (122) dX12_init_15 ac_int (by rfl) (by omega) (fun q_15 hq_15 => ?_)
  refine j_putOF dX12_init_17 fl_X12_13 rfl (fun _ _ q => by cases q; rfl) rfl (by first | exact hP.1 | (rw [hK_nw, if_neg (fun e => by have w := hP.1; rw [e] at w; omega)]; exact hP.1)) ?_
  replace hP := MP_new 2 q_15 15 122 hP hq_15 rfl (by decide) rfl (by simp)
  generalize pO (nw h_12 q_15 15 122) a 2 (some q_15) = h_20 at hP ⊢
  refine j_aload_n dX12_init_20 rfl ?_
  refine j_sipush (v := 3904) dX12_init_21 (by decide) ?_
  refine j_mono (mc' := 53 + 1) (ms' := 1294627 + 3904) (by omega) (by omega) ?_
  refine j_newI (3904) dX12_init_24 ac_int (by rfl) (by omega) (fun q_24 hq_24 => ?_)
  refine j_putOF dX12_init_26 fl_X12_16 rfl (fun _ _ q => by cases q; rfl) rfl (by first | exact hP.1 | (rw [hK_nw, if_neg (fun e => by have w := hP.1; rw [e] at w; omega)]; exact hP.1)) ?_
  replace hP := MP_new 3 q_24 15 3904 hP hq_24 rfl (by decide) rfl (by simp)
  generalize pO (nw h_20 q_24 15 3904) a 3 (some q_24) = h_29 at hP ⊢
  refine j_aload_n dX12_init_29 rfl ?_
  refine j_sipush (v := 1220) dX12_init_30 (by decide) ?_
  refine j_mono (mc' := 52 + 1) (ms' := 1293407 + 1220) (by omega) (by omega) ?_
  refine j_newI (1220) dX12_init_33 ac_int (by rfl) (by omega) (fun q_33 hq_33 => ?_)
  refine j_putOF dX12_init_35 fl_X12_19 rfl (fun _ _ q => by cases q; rfl) rfl (by first | exact hP.1 | (rw [hK_nw, if_neg (fun e => by have w := hP.1; rw [e] at w; omega)]; exact hP.1)) ?_
  replace hP := MP_new 4 q_33 15 1220 hP hq_33 rfl (by decide) rfl (by simp)
  generalize pO (nw h_29 q_33 15 1220) a 4 (some q_33) = h_38 at hP ⊢
  refine j_aload_n dX12_init_38 rfl ?_
  refine j_ldc dX12_init_39 kl_X12_22 ?_
  refine j_mono (mc' := 51 + 1) (ms' := 1254367 + 39040) (by omega) (by omega) ?_
  refine j_newI (39040) dX12_init_41 ac_int (by rfl) (by omega) (fun q_41 hq_41 => ?_)
  refine j_putOF dX12_init_43 fl_X12_23 rfl (fun _ _ q => by cases q; rfl) rfl (by first | exact hP.1 | (rw [hK_nw, if_neg (fun e => by have w := hP.1; rw [e] at w; omega)]; exact hP.1)) ?_
  replace hP := MP_new 5 q_41 15 39040 hP hq_41 rfl (by decide) rfl (by simp)
  generalize pO (nw h_38 q_41 15 39040) a 5 (some q_41) = h_46 at hP ⊢
  refine j_aload_n dX12_init_46 rfl ?_
  refine j_bipush (v := 8) dX12_init_47 (by decide) ?_
  refine j_putI dX12_init_49 fl_X12_26 rfl rfl rfl (by first | exact hP.1 | (rw [hK_nw, if_neg (fun e => by have w := hP.1; rw [e] at w; omega)]; exact hP.1)) ?_
  replace hP := MP_int 6 8 hP
  generalize pI h_46 a 6 8 = h_52 at hP ⊢
  refine j_aload_n dX12_init_52 rfl ?_
  refine j_bipush (v := 6) dX12_init_53 (by decide) ?_
  refine j_putI dX12_init_55 fl_X12_30 rfl rfl rfl (by first | exact hP.1 | (rw [hK_nw, if_neg (fun e => by have w := hP.1; rw [e] at w; omega)]; exact hP.1)) ?_
  replace hP := MP_int 7 6 hP
  generalize pI h_52 a 7 6 = h_58 at hP ⊢
  refine j_aload_n dX12_init_58 rfl ?_
  refine j_iconst (v := 1) dX12_init_59 (by decide) ?_
  refine j_putI dX12_init_60 fl_X12_33 rfl rfl rfl (by first | exact hP.1 | (rw [hK_nw, if_neg (fun e => by have w := hP.1; rw [e] at w; omega)]; exact hP.1)) ?_
  replace hP := MP_int 8 1 hP
  generalize pI h_58 a 8 1 = h_63 at hP ⊢
  refine j_aload_n dX12_init_63 rfl ?_
  refine j_bipush (v := 40) dX12_init_64 (by decide) ?_
  refine j_mono (mc' := 50 + 1) (ms' := 1254327 + 40) (by omega) (by omega) ?_
  refine j_newI (40) dX12_init_66 ac_int (by rfl) (by omega) (fun q_66 hq_66 => ?_)
  refine j_putOF dX12_init_68 fl_X12_36 rfl (fun _ _ q => by cases q; rfl) rfl (by first | exact hP.1 | (rw [hK_nw, if_neg (fun e => by have w := hP.1; rw [e] at w; omega)]; exact hP.1)) ?_
  replace hP := MP_new 9 q_66 15 40 hP hq_66 rfl (by decide) rfl (by simp)
  generalize pO (nw h_63 q_66 15 40) a 9 (some q_66) = h_71 at hP ⊢
  refine j_aload_n dX12_init_71 rfl ?_
  refine j_bipush (v := 40) dX12_init_72 (by decide) ?_
  refine j_mono (mc' := 49 + 1) (ms' := 1254287 + 40) (by omega) (by omega) ?_
  refine j_newI (40) dX12_init_74 ac_int (by rfl) (by omega) (fun q_74 hq_74 => ?_)
  refine j_putOF dX12_init_76 fl_X12_39 rfl (fun _ _ q => by cases q; rfl) rfl (by first | exact hP.1 | (rw [hK_nw, if_neg (fun e => by have w := hP.1; rw [e] at w; omega)]; exact hP.1)) ?_
  replace hP := MP_new 10 q_74 15 40 hP hq_74 rfl (by decide) rfl (by simp)
  generalize pO (nw h_71 q_74 15 40) a 10 (some q_74) = h_79 at hP ⊢
  refine j_aload_n dX12_init_79 rfl ?_
  refine j_bipush (v := 6) dX12_init_80 (by decide) ?_
  refine j_mono (mc' := 48 + 1) (ms' := 1254281 + 6) (by omega) (by omega) ?_
  refine j_newI (6) dX12_init_82 ac_int (by rfl) (by omega) (fun q_82 hq_82 => ?_)
  refine j_putOF dX12_init_84 fl_X12_42 rfl (fun _ _ q => by cases q; rfl) rfl (by first | exact hP.1 | (rw [hK_nw, if_neg (fun e => by have w := hP.1; rw [e] at w; omega)]; exact hP.1)) ?_
  replace hP := MP_new 11 q_82 15 6 hP hq_82 rfl (by decide) rfl (by simp)
  generalize pO (nw h_79 q_82 15 6) a 11 (some q_82) = h_87 at hP ⊢
  refine j_aload_n dX12_init_87 rfl ?_
  refine j_iconst (v := -1) dX12_init_88 (by decide) ?_
  refine j_putI dX12_init_89 fl_X12_45 rfl rfl rfl (by first | exact hP.1 | (rw [hK_nw, if_neg (fun e => by have w := hP.1; rw [e] at w; omega)]; exact hP.1)) ?_
  replace hP := MP_int 13 (-1) hP
  generalize pI h_87 a 13 (-1) = h_92 at hP ⊢
  refine j_aload_n dX12_init_92 rfl ?_
  refine j_ldc dX12_init_93 kl_X12_48 ?_
  refine j_mono (mc' := 47 + 1) (ms' := 1171881 + 82400) (by omega) (by omega) ?_
  refine j_newB (82400) dX12_init_95 ac_byte (by rfl) (by omega) (fun q_95 hq_95 => ?_)
  refine j_putOF dX12_init_97 fl_X12_49 rfl (fun _ _ q => by cases q; rfl) rfl (by first | exact hP.1 | (rw [hK_nw, if_neg (fun e => by have w := hP.1; rw [e] at w; omega)]; exact hP.1)) ?_
  replace hP := MP_new 18 q_95 14 82400 hP hq_95 rfl (by decide) rfl (by simp)
  generalize pO (nw h_92 q_95 14 82400) a 18 (some q_95) = h_100 at hP ⊢
  refine j_aload_n dX12_init_100 rfl ?_
  refine j_sipush (v := 4200) dX12_init_101 (by decide) ?_
  refine j_mono (mc' := 46 + 1) (ms' := 1167681 + 4200) (by omega) (by omega) ?_
  refine j_newI (4200) dX12_init_104 ac_int (by rfl) (by omega) (fun q_104 hq_104 => ?_)
  refine j_putOF dX12_init_106 fl_X12_53 rfl (fun _ _ q => by cases q; rfl) rfl (by first | exact hP.1 | (rw [hK_nw, if_neg (fun e => by have w := hP.1; rw [e] at w; omega)]; exact hP.1)) ?_
  replace hP := MP_new 20 q_104 15 4200 hP hq_104 rfl (by decide) rfl (by simp)
  generalize pO (nw h_100 q_104 15 4200) a 20 (some q_104) = h_109 at hP ⊢
  refine j_aload_n dX12_init_109 rfl ?_
  refine j_sipush (v := 4200) dX12_init_110 (by decide) ?_
  refine j_mono (mc' := 45 + 1) (ms' := 1163481 + 4200) (by omega) (by omega) ?_
  refine j_newJ (4200) dX12_init_113 ac_long (by rfl) (by omega) (fun q_113 hq_113 => ?_)
  refine j_putOF dX12_init_115 fl_X12_56 rfl (fun _ _ q => by cases q; rfl) rfl (by first | exact hP.1 | (rw [hK_nw, if_neg (fun e => by have w := hP.1; rw [e] at w; omega)]; exact hP.1)) ?_
  replace hP := MP_new 21 q_113 16 4200 hP hq_113 rfl (by decide) rfl (by simp)
  generalize pO (nw h_109 q_113 16 4200) a 21 (some q_113) = h_118 at hP ⊢
  refine j_aload_n dX12_init_118 rfl ?_
  refine j_sipush (v := 4200) dX12_init_119 (by decide) ?_
  refine j_mono (mc' := 44 + 1) (ms' := 1159281 + 4200) (by omega) (by omega) ?_
  refine j_newI (4200) dX12_init_122 ac_int (by rfl) (by omega) (fun q_122 hq_122 => ?_)
  refine j_putOF dX12_init_124 fl_X12_60 rfl (fun _ _ q => by cases q; rfl) rfl (by first | exact hP.1 | (rw [hK_nw, if_neg (fun e => by have w := hP.1; rw [e] at w; omega)]; exact hP.1)) ?_
  replace hP := MP_new 22 q_122 15 4200 hP hq_122 rfl (by decide) rfl (by simp)
  generalize pO (nw h_118 q_122 15 4200) a 22 (some q_122) = h_127 at hP ⊢
  refine j_aload_n dX12_init_127 rfl ?_
  refine j_sipush (v := 4200) dX12_init_128 (by decide) ?_
  refine j_mono (mc' := 43 + 1) (ms' := 1155081 + 4200) (by omega) (by omega) ?_
  refine j_newI (4200) dX12_init_131 ac_int (by rfl) (by omega) (fun q_131 hq_131 => ?_)
  refine j_putOF dX12_init_133 fl_X12_63 rfl (fun _ _ q => by cases q; rfl) rfl (by first | exact hP.1 | (rw [hK_nw, if_neg (fun e => by have w := hP.1; rw [e] at w; omega)]; exact hP.1)) ?_
  replace hP := MP_new 23 q_131 15 4200 hP hq_131 rfl (by decide) rfl (by simp)
  generalize pO (nw h_127 q_131 15 4200) a 23 (some q_131) = h_136 at hP ⊢
  refine j_aload_n dX12_init_136 rfl ?_
  refine j_ldc dX12_init_137 kl_X12_66 ?_
  refine j_mono (mc' := 42 + 1) (ms' := 1094661 + 60420) (by omega) (by omega) ?_
  refine j_newI (60420) dX12_init_139 ac_int (by rfl) (by omega) (fun q_139 hq_139 => ?_)
  refine j_putOF dX12_init_141 fl_X12_67 rfl (fun _ _ q => by cases q; rfl) rfl (by first | exact hP.1 | (rw [hK_nw, if_neg (fun e => by have w := hP.1; rw [e] at w; omega)]; exact hP.1)) ?_
  replace hP := MP_new 26 q_139 15 60420 hP hq_139 rfl (by decide) rfl (by simp)
  generalize pO (nw h_136 q_139 15 60420) a 26 (some q_139) = h_144 at hP ⊢
  refine j_aload_n dX12_init_144 rfl ?_
  refine j_ldc dX12_init_145 kl_X12_66 ?_
  refine j_mono (mc' := 41 + 1) (ms' := 1034241 + 60420) (by omega) (by omega) ?_
  refine j_newI (60420) dX12_init_147 ac_int (by rfl) (by omega) (fun q_147 hq_147 => ?_)
  refine j_putOF dX12_init_149 fl_X12_70 rfl (fun _ _ q => by cases q; rfl) rfl (by first | exact hP.1 | (rw [hK_nw, if_neg (fun e => by have w := hP.1; rw [e] at w; omega)]; exact hP.1)) ?_
  replace hP := MP_new 27 q_147 15 60420 hP hq_147 rfl (by decide) rfl (by simp)
  generalize pO (nw h_144 q_147 15 60420) a 27 (some q_147) = h_152 at hP ⊢
  refine j_aload_n dX12_init_152 rfl ?_
  refine j_ldc dX12_init_153 kl_X12_66 ?_
  refine j_mono (mc' := 40 + 1) (ms' := 973821 + 60420) (by omega) (by omega) ?_
  refine j_newI (60420) dX12_init_155 ac_int (by rfl) (by omega) (fun q_155 hq_155 => ?_)
  refine j_putOF dX12_init_157 fl_X12_73 rfl (fun _ _ q => by cases q; rfl) rfl (by first | exact hP.1 | (rw [hK_nw, if_neg (fun e => by have w := hP.1; rw [e] at w; omega)]; exact hP.1)) ?_
  replace hP := MP_new 28 q_155 15 60420 hP hq_155 rfl (by decide) rfl (by simp)
  generalize pO (nw h_152 q_155 15 60420) a 28 (some q_155) = h_160 at hP ⊢
  refine j_aload_n dX12_init_160 rfl ?_
  refine j_ldc dX12_init_161 kl_X12_66 ?_
  refine j_mono (mc' := 39 + 1) (ms' := 913401 + 60420) (by omega) (by omega) ?_
  refine j_newJ (60420) dX12_init_163 ac_long (by rfl) (by omega) (fun q_163 hq_163 => ?_)
  refine j_putOF dX12_init_165 fl_X12_76 rfl (fun _ _ q => by cases q; rfl) rfl (by first | exact hP.1 | (rw [hK_nw, if_neg (fun e => by have w := hP.1; rw [e] at w; omega)]; exact hP.1)) ?_
  replace hP := MP_new 29 q_163 16 60420 hP hq_163 rfl (by decide) rfl (by simp)
  generalize pO (nw h_160 q_163 16 60420) a 29 (some q_163) = h_168 at hP ⊢
  refine j_aload_n dX12_init_168 rfl ?_
  refine j_ldc dX12_init_169 kl_X12_66 ?_
  refine j_mono (mc' := 38 + 1) (ms' := 852981 + 60420) (by omega) (by omega) ?_
  refine j_newI (60420) dX12_init_171 ac_int (by rfl) (by omega) (fun q_171 hq_171 => ?_)
  refine j_putOF dX12_init_173 fl_X12_79 rfl (fun _ _ q => by cases q; rfl) rfl (by first | exact hP.1 | (rw [hK_nw, if_neg (fun e => by have w := hP.1; rw [e] at w; omega)]; exact hP.1)) ?_
  replace hP := MP_new 30 q_171 15 60420 hP hq_171 rfl (by decide) rfl (by simp)
  generalize pO (nw h_168 q_171 15 60420) a 30 (some q_171) = h_176 at hP ⊢
  refine j_aload_n dX12_init_176 rfl ?_
  refine j_ldc dX12_init_177 kl_X12_66 ?_
  refine j_mono (mc' := 37 + 1) (ms' := 792561 + 60420) (by omega) (by omega) ?_
  refine j_newI (60420) dX12_init_179 ac_int (by rfl) (by omega) (fun q_179 hq_179 => ?_)
  refine j_putOF dX12_init_181 fl_X12_82 rfl (fun _ _ q => by cases q; rfl) rfl (by first | exact hP.1 | (rw [hK_nw, if_neg (fun e => by have w := hP.1; rw [e] at w; omega)]; exact hP.1)) ?_
  replace hP := MP_new 31 q_179 15 60420 hP hq_179 rfl (by decide) rfl (by simp)
  generalize pO (nw h_176 q_179 15 60420) a 31 (some q_179) = h_184 at hP ⊢
  refine j_aload_n dX12_init_184 rfl ?_
  refine j_ldc dX12_init_185 kl_X12_66 ?_
  refine j_mono (mc' := 36 + 1) (ms' := 732141 + 60420) (by omega) (by omega) ?_
  refine j_newI (60420) dX12_init_187 ac_int (by rfl) (by omega) (fun q_187 hq_187 => ?_)
  refine j_putOF dX12_init_189 fl_X12_85 rfl (fun _ _ q => by cases q; rfl) rfl (by first | exact hP.1 | (rw [hK_nw, if_neg (fun e => by have w := hP.1; rw [e] at w; omega)]; exact hP.1)) ?_
  replace hP := MP_new 32 q_187 15 60420 hP hq_187 rfl (by decide) rfl (by simp)
  generalize pO (nw h_184 q_187 15 60420) a 32 (some q_187) = h_192 at hP ⊢
  refine j_aload_n dX12_init_192 rfl ?_
  refine j_ldc dX12_init_193 kl_X12_66 ?_
  refine j_mono (mc' := 35 + 1) (ms' := 671721 + 60420) (by omega) (by omega) ?_
  refine j_newI (60420) dX12_init_195 ac_int (by rfl) (by omega) (fun q_195 hq_195 => ?_)
  refine j_putOF dX12_init_197 fl_X12_88 rfl (fun _ _ q => by cases q; rfl) rfl (by first | exact hP.1 | (rw [hK_nw, if_neg (fun e => by have w := hP.1; rw [e] at w; omega)]; exact hP.1)) ?_
  replace hP := MP_new 33 q_195 15 60420 hP hq_195 rfl (by decide) rfl (by simp)
  generalize pO (nw h_192 q_195 15 60420) a 33 (some q_195) = h_200 at hP ⊢
  refine j_aload_n dX12_init_200 rfl ?_
  refine j_ldc dX12_init_201 kl_X12_66 ?_
  refine j_mono (mc' := 34 + 1) (ms' := 611301 + 60420) (by omega) (by omega) ?_
  refine j_newI (60420) dX12_init_203 ac_int (by rfl) (by omega) (fun q_203 hq_203 => ?_)
  refine j_putOF dX12_init_205 fl_X12_91 rfl (fun _ _ q => by cases q; rfl) rfl (by first | exact hP.1 | (rw [hK_nw, if_neg (fun e => by have w := hP.1; rw [e] at w; omega)]; exact hP.1)) ?_
  replace hP := MP_new 34 q_203 15 60420 hP hq_203 rfl (by decide) rfl (by simp)
  generalize pO (nw h_200 q_203 15 60420) a 34 (some q_203) = h_208 at hP ⊢
  refine j_aload_n dX12_init_208 rfl ?_
  refine j_ldc dX12_init_209 kl_X12_66 ?_
  refine j_mono (mc' := 33 + 1) (ms' := 550881 + 60420) (by omega) (by omega) ?_
  refine j_newI (60420) dX12_init_211 ac_int (by rfl) (by omega) (fun q_211 hq_211 => ?_)
  refine j_putOF dX12_init_213 fl_X12_94 rfl (fun _ _ q => by cases q; rfl) rfl (by first | exact hP.1 | (rw [hK_nw, if_neg (fun e => by have w := hP.1; rw [e] at w; omega)]; exact hP.1)) ?_
  replace hP := MP_new 35 q_211 15 60420 hP hq_211 rfl (by decide) rfl (by simp)
  generalize pO (nw h_208 q_211 15 60420) a 35 (some q_211) = h_216 at hP ⊢
  refine j_aload_n dX12_init_216 rfl ?_
  refine j_ldc dX12_init_217 kl_X12_66 ?_
  refine j_mono (mc' := 32 + 1) (ms' := 490461 + 60420) (by omega) (by omega) ?_
  refine j_newI (60420) dX12_init_219 ac_int (by rfl) (by omega) (fun q_219 hq_219 => ?_)
  refine j_putOF dX12_init_221 fl_X12_97 rfl (fun _ _ q => by cases q; rfl) rfl (by first | exact hP.1 | (rw [hK_nw, if_neg (fun e => by have w := hP.1; rw [e] at w; omega)]; exact hP.1)) ?_
  replace hP := MP_new 36 q_219 15 60420 hP hq_219 rfl (by decide) rfl (by simp)
  generalize pO (nw h_216 q_219 15 60420) a 36 (some q_219) = h_224 at hP ⊢
  refine j_aload_n dX12_init_224 rfl ?_
  refine j_ldc dX12_init_225 kl_X12_66 ?_
  refine j_mono (mc' := 31 + 1) (ms' := 430041 + 60420) (by omega) (by omega) ?_
  refine j_newI (60420) dX12_init_227 ac_int (by rfl) (by omega) (fun q_227 hq_227 => ?_)
  refine j_putOF dX12_init_229 fl_X12_100 rfl (fun _ _ q => by cases q; rfl) rfl (by first | exact hP.1 | (rw [hK_nw, if_neg (fun e => by have w := hP.1; rw [e] at w; omega)]; exact hP.1)) ?_
  replace hP := MP_new 37 q_227 15 60420 hP hq_227 rfl (by decide) rfl (by simp)
  generalize pO (nw h_224 q_227 15 60420) a 37 (some q_227) = h_232 at hP ⊢
  refine j_aload_n dX12_init_232 rfl ?_
  refine j_ldc dX12_init_233 kl_X12_66 ?_
  refine j_mono (mc' := 30 + 1) (ms' := 369621 + 60420) (by omega) (by omega) ?_
  refine j_newI (60420) dX12_init_235 ac_int (by rfl) (by omega) (fun q_235 hq_235 => ?_)
  refine j_putOF dX12_init_237 fl_X12_103 rfl (fun _ _ q => by cases q; rfl) rfl (by first | exact hP.1 | (rw [hK_nw, if_neg (fun e => by have w := hP.1; rw [e] at w; omega)]; exact hP.1)) ?_
  replace hP := MP_new 38 q_235 15 60420 hP hq_235 rfl (by decide) rfl (by simp)
  generalize pO (nw h_232 q_235 15 60420) a 38 (some q_235) = h_240 at hP ⊢
  refine j_aload_n dX12_init_240 rfl ?_
  refine j_sipush (v := 400) dX12_init_241 (by decide) ?_
  refine j_mono (mc' := 29 + 1) (ms' := 369221 + 400) (by omega) (by omega) ?_
  refine j_newI (400) dX12_init_244 ac_int (by rfl) (by omega) (fun q_244 hq_244 => ?_)
  refine j_putOF dX12_init_246 fl_X12_106 rfl (fun _ _ q => by cases q; rfl) rfl (by first | exact hP.1 | (rw [hK_nw, if_neg (fun e => by have w := hP.1; rw [e] at w; omega)]; exact hP.1)) ?_
  replace hP := MP_new 39 q_244 15 400 hP hq_244 rfl (by decide) rfl (by simp)
  generalize pO (nw h_240 q_244 15 400) a 39 (some q_244) = h_249 at hP ⊢
  refine j_aload_n dX12_init_249 rfl ?_
  refine j_sipush (v := 13120) dX12_init_250 (by decide) ?_
  refine j_mono (mc' := 28 + 1) (ms' := 356101 + 13120) (by omega) (by omega) ?_
  refine j_newI (13120) dX12_init_253 ac_int (by rfl) (by omega) (fun q_253 hq_253 => ?_)
  refine j_putOF dX12_init_255 fl_X12_109 rfl (fun _ _ q => by cases q; rfl) rfl (by first | exact hP.1 | (rw [hK_nw, if_neg (fun e => by have w := hP.1; rw [e] at w; omega)]; exact hP.1)) ?_
  replace hP := MP_new 60 q_253 15 13120 hP hq_253 rfl (by decide) rfl (by simp)
  generalize pO (nw h_249 q_253 15 13120) a 60 (some q_253) = h_258 at hP ⊢
  refine j_aload_n dX12_init_258 rfl ?_
  refine j_sipush (v := 13120) dX12_init_259 (by decide) ?_
  refine j_mono (mc' := 27 + 1) (ms' := 342981 + 13120) (by omega) (by omega) ?_
  refine j_newJ (13120) dX12_init_262 ac_long (by rfl) (by omega) (fun q_262 hq_262 => ?_)
  refine j_putOF dX12_init_264 fl_X12_112 rfl (fun _ _ q => by cases q; rfl) rfl (by first | exact hP.1 | (rw [hK_nw, if_neg (fun e => by have w := hP.1; rw [e] at w; omega)]; exact hP.1)) ?_
  replace hP := MP_new 61 q_262 16 13120 hP hq_262 rfl (by decide) rfl (by simp)
  generalize pO (nw h_258 q_262 16 13120) a 61 (some q_262) = h_267 at hP ⊢
  refine j_aload_n dX12_init_267 rfl ?_
  refine j_sipush (v := 13120) dX12_init_268 (by decide) ?_
  refine j_mono (mc' := 26 + 1) (ms' := 329861 + 13120) (by omega) (by omega) ?_
  refine j_newI (13120) dX12_init_271 ac_int (by rfl) (by omega) (fun q_271 hq_271 => ?_)
  refine j_putOF dX12_init_273 fl_X12_115 rfl (fun _ _ q => by cases q; rfl) rfl (by first | exact hP.1 | (rw [hK_nw, if_neg (fun e => by have w := hP.1; rw [e] at w; omega)]; exact hP.1)) ?_
  replace hP := MP_new 62 q_271 15 13120 hP hq_271 rfl (by decide) rfl (by simp)
  generalize pO (nw h_267 q_271 15 13120) a 62 (some q_271) = h_276 at hP ⊢
  refine j_aload_n dX12_init_276 rfl ?_
  refine j_ldc dX12_init_277 kl_X12_118 ?_
  refine j_mono (mc' := 25 + 1) (ms' := 14981 + 314880) (by omega) (by omega) ?_
  refine j_newB (314880) dX12_init_279 ac_byte (by rfl) (by omega) (fun q_279 hq_279 => ?_)
  refine j_putOF dX12_init_281 fl_X12_119 rfl (fun _ _ q => by cases q; rfl) rfl (by first | exact hP.1 | (rw [hK_nw, if_neg (fun e => by have w := hP.1; rw [e] at w; omega)]; exact hP.1)) ?_
  replace hP := MP_new 63 q_279 14 314880 hP hq_279 rfl (by decide) rfl (by simp)
  generalize pO (nw h_276 q_279 14 314880) a 63 (some q_279) = h_284 at hP ⊢
  refine j_aload_n dX12_init_284 rfl ?_
  refine j_bipush (v := 40) dX12_init_285 (by decide) ?_
  refine j_mono (mc' := 24 + 1) (ms' := 14941 + 40) (by omega) (by omega) ?_
  refine j_newZ (40) dX12_init_287 ac_boolean (by rfl) (by omega) (fun q_287 hq_287 => ?_)
  refine j_putOF dX12_init_289 fl_X12_122 rfl (fun _ _ q => by cases q; rfl) rfl (by first | exact hP.1 | (rw [hK_nw, if_neg (fun e => by have w := hP.1; rw [e] at w; omega)]; exact hP.1)) ?_
  replace hP := MP_new 64 q_287 17 40 hP hq_287 rfl (by decide) rfl (by simp)
  generalize pO (nw h_284 q_287 17 40) a 64 (some q_287) = h_292 at hP ⊢
  refine j_aload_n dX12_init_292 rfl ?_
  refine j_sipush (v := 200) dX12_init_293 (by decide) ?_
  refine j_mono (mc' := 23 + 1) (ms' := 14741 + 200) (by omega) (by omega) ?_
  refine j_newI (200) dX12_init_296 ac_int (by rfl) (by omega) (fun q_296 hq_296 => ?_)
  refine j_putOF dX12_init_298 fl_X12_126 rfl (fun _ _ q => by cases q; rfl) rfl (by first | exact hP.1 | (rw [hK_nw, if_neg (fun e => by have w := hP.1; rw [e] at w; omega)]; exact hP.1)) ?_
  replace hP := MP_new 66 q_296 15 200 hP hq_296 rfl (by decide) rfl (by simp)
  generalize pO (nw h_292 q_296 15 200) a 66 (some q_296) = h_301 at hP ⊢
  refine j_aload_n dX12_init_301 rfl ?_
  refine j_sipush (v := 200) dX12_init_302 (by decide) ?_
  refine j_mono (mc' := 22 + 1) (ms' := 14541 + 200) (by omega) (by omega) ?_
  refine j_newJ (200) dX12_init_305 ac_long (by rfl) (by omega) (fun q_305 hq_305 => ?_)
  refine j_putOF dX12_init_307 fl_X12_129 rfl (fun _ _ q => by cases q; rfl) rfl (by first | exact hP.1 | (rw [hK_nw, if_neg (fun e => by have w := hP.1; rw [e] at w; omega)]; exact hP.1)) ?_
  replace hP := MP_new 67 q_305 16 200 hP hq_305 rfl (by decide) rfl (by simp)
  generalize pO (nw h_301 q_305 16 200) a 67 (some q_305) = h_310 at hP ⊢
  refine j_aload_n dX12_init_310 rfl ?_
  refine j_sipush (v := 200) dX12_init_311 (by decide) ?_
  refine j_mono (mc' := 21 + 1) (ms' := 14341 + 200) (by omega) (by omega) ?_
  refine j_newI (200) dX12_init_314 ac_int (by rfl) (by omega) (fun q_314 hq_314 => ?_)
  refine j_putOF dX12_init_316 fl_X12_132 rfl (fun _ _ q => by cases q; rfl) rfl (by first | exact hP.1 | (rw [hK_nw, if_neg (fun e => by have w := hP.1; rw [e] at w; omega)]; exact hP.1)) ?_
  replace hP := MP_new 68 q_314 15 200 hP hq_314 rfl (by decide) rfl (by simp)
  generalize pO (nw h_310 q_314 15 200) a 68 (some q_314) = h_319 at hP ⊢
  refine j_aload_n dX12_init_319 rfl ?_
  refine j_sipush (v := 4800) dX12_init_320 (by decide) ?_
  refine j_mono (mc' := 20 + 1) (ms' := 9541 + 4800) (by omega) (by omega) ?_
  refine j_newB (4800) dX12_init_323 ac_byte (by rfl) (by omega) (fun q_323 hq_323 => ?_)
  refine j_putOF dX12_init_325 fl_X12_135 rfl (fun _ _ q => by cases q; rfl) rfl (by first | exact hP.1 | (rw [hK_nw, if_neg (fun e => by have w := hP.1; rw [e] at w; omega)]; exact hP.1)) ?_
  replace hP := MP_new 69 q_323 14 4800 hP hq_323 rfl (by decide) rfl (by simp)
  generalize pO (nw h_319 q_323 14 4800) a 69 (some q_323) = h_328 at hP ⊢
  refine j_aload_n dX12_init_328 rfl ?_
  refine j_bipush (v := 20) dX12_init_329 (by decide) ?_
  refine j_mono (mc' := 19 + 1) (ms' := 9521 + 20) (by omega) (by omega) ?_
  refine j_newB (20) dX12_init_331 ac_byte (by rfl) (by omega) (fun q_331 hq_331 => ?_)
  refine j_putOF dX12_init_333 fl_X12_138 rfl (fun _ _ q => by cases q; rfl) rfl (by first | exact hP.1 | (rw [hK_nw, if_neg (fun e => by have w := hP.1; rw [e] at w; omega)]; exact hP.1)) ?_
  replace hP := MP_new 70 q_331 14 20 hP hq_331 rfl (by decide) rfl (by simp)
  generalize pO (nw h_328 q_331 14 20) a 70 (some q_331) = h_336 at hP ⊢
  refine j_aload_n dX12_init_336 rfl ?_
  refine j_sipush (v := 1600) dX12_init_337 (by decide) ?_
  refine j_mono (mc' := 18 + 1) (ms' := 7921 + 1600) (by omega) (by omega) ?_
  refine j_newJ (1600) dX12_init_340 ac_long (by rfl) (by omega) (fun q_340 hq_340 => ?_)
  refine j_putOF dX12_init_342 fl_X12_141 rfl (fun _ _ q => by cases q; rfl) rfl (by first | exact hP.1 | (rw [hK_nw, if_neg (fun e => by have w := hP.1; rw [e] at w; omega)]; exact hP.1)) ?_
  replace hP := MP_new 82 q_340 16 1600 hP hq_340 rfl (by decide) rfl (by simp)
  generalize pO (nw h_336 q_340 16 1600) a 82 (some q_340) = h_345 at hP ⊢
  refine j_aload_n dX12_init_345 rfl ?_
  refine j_sipush (v := 1600) dX12_init_346 (by decide) ?_
  refine j_mono (mc' := 17 + 1) (ms' := 6321 + 1600) (by omega) (by omega) ?_
  refine j_newJ (1600) dX12_init_349 ac_long (by rfl) (by omega) (fun q_349 hq_349 => ?_)
  refine j_putOF dX12_init_351 fl_X12_144 rfl (fun _ _ q => by cases q; rfl) rfl (by first | exact hP.1 | (rw [hK_nw, if_neg (fun e => by have w := hP.1; rw [e] at w; omega)]; exact hP.1)) ?_
  replace hP := MP_new 83 q_349 16 1600 hP hq_349 rfl (by decide) rfl (by simp)
  generalize pO (nw h_345 q_349 16 1600) a 83 (some q_349) = h_354 at hP ⊢
  refine j_aload_n dX12_init_354 rfl ?_
  refine j_sipush (v := 320) dX12_init_355 (by decide) ?_
  refine j_mono (mc' := 16 + 1) (ms' := 6001 + 320) (by omega) (by omega) ?_
  refine j_newZ (320) dX12_init_358 ac_boolean (by rfl) (by omega) (fun q_358 hq_358 => ?_)
  refine j_putOF dX12_init_360 fl_X12_147 rfl (fun _ _ q => by cases q; rfl) rfl (by first | exact hP.1 | (rw [hK_nw, if_neg (fun e => by have w := hP.1; rw [e] at w; omega)]; exact hP.1)) ?_
  replace hP := MP_new 84 q_358 17 320 hP hq_358 rfl (by decide) rfl (by simp)
  generalize pO (nw h_354 q_358 17 320) a 84 (some q_358) = h_363 at hP ⊢
  refine j_aload_n dX12_init_363 rfl ?_
  refine j_iconst (v := 5) dX12_init_364 (by decide) ?_
  refine j_mono (mc' := 15 + 1) (ms' := 5996 + 5) (by omega) (by omega) ?_
  refine j_newJ (5) dX12_init_365 ac_long (by rfl) (by omega) (fun q_365 hq_365 => ?_)
  refine j_putOF dX12_init_367 fl_X12_150 rfl (fun _ _ q => by cases q; rfl) rfl (by first | exact hP.1 | (rw [hK_nw, if_neg (fun e => by have w := hP.1; rw [e] at w; omega)]; exact hP.1)) ?_
  replace hP := MP_new 85 q_365 16 5 hP hq_365 rfl (by decide) rfl (by simp)
  generalize pO (nw h_363 q_365 16 5) a 85 (some q_365) = h_370 at hP ⊢
  refine j_aload_n dX12_init_370 rfl ?_
  refine j_sipush (v := 2000) dX12_init_371 (by decide) ?_
  refine j_mono (mc' := 14 + 1) (ms' := 3996 + 2000) (by omega) (by omega) ?_
  refine j_newB (2000) dX12_init_374 ac_byte (by rfl) (by omega) (fun q_374 hq_374 => ?_)
  refine j_putOF dX12_init_376 fl_X12_153 rfl (fun _ _ q => by cases q; rfl) rfl (by first | exact hP.1 | (rw [hK_nw, if_neg (fun e => by have w := hP.1; rw [e] at w; omega)]; exact hP.1)) ?_
  replace hP := MP_new 86 q_374 14 2000 hP hq_374 rfl (by decide) rfl (by simp)
  generalize pO (nw h_370 q_374 14 2000) a 86 (some q_374) = h_379 at hP ⊢
  refine j_aload_n dX12_init_379 rfl ?_
  refine j_bipush (v := 32) dX12_init_380 (by decide) ?_
  refine j_mono (mc' := 13 + 1) (ms' := 3964 + 32) (by omega) (by omega) ?_
  refine j_newI (32) dX12_init_382 ac_int (by rfl) (by omega) (fun q_382 hq_382 => ?_)
  refine j_putOF dX12_init_384 fl_X12_156 rfl (fun _ _ q => by cases q; rfl) rfl (by first | exact hP.1 | (rw [hK_nw, if_neg (fun e => by have w := hP.1; rw [e] at w; omega)]; exact hP.1)) ?_
  replace hP := MP_new 88 q_382 15 32 hP hq_382 rfl (by decide) rfl (by simp)
  generalize pO (nw h_379 q_382 15 32) a 88 (some q_382) = h_387 at hP ⊢
  refine j_aload_n dX12_init_387 rfl ?_
  refine j_bipush (v := 40) dX12_init_388 (by decide) ?_
  refine j_mono (mc' := 12 + 1) (ms' := 3924 + 40) (by omega) (by omega) ?_
  refine j_newZ (40) dX12_init_390 ac_boolean (by rfl) (by omega) (fun q_390 hq_390 => ?_)
  refine j_putOF dX12_init_392 fl_X12_159 rfl (fun _ _ q => by cases q; rfl) rfl (by first | exact hP.1 | (rw [hK_nw, if_neg (fun e => by have w := hP.1; rw [e] at w; omega)]; exact hP.1)) ?_
  replace hP := MP_new 89 q_390 17 40 hP hq_390 rfl (by decide) rfl (by simp)
  generalize pO (nw h_387 q_390 17 40) a 89 (some q_390) = h_395 at hP ⊢
  refine j_aload_n dX12_init_395 rfl ?_
  refine j_bipush (v := 40) dX12_init_396 (by decide) ?_
  refine j_mono (mc' := 11 + 1) (ms' := 3884 + 40) (by omega) (by omega) ?_
  refine j_newZ (40) dX12_init_398 ac_boolean (by rfl) (by omega) (fun q_398 hq_398 => ?_)
  refine j_putOF dX12_init_400 fl_X12_162 rfl (fun _ _ q => by cases q; rfl) rfl (by first | exact hP.1 | (rw [hK_nw, if_neg (fun e => by have w := hP.1; rw [e] at w; omega)]; exact hP.1)) ?_
  replace hP := MP_new 90 q_398 17 40 hP hq_398 rfl (by decide) rfl (by simp)
  generalize pO (nw h_395 q_398 17 40) a 90 (some q_398) = h_403 at hP ⊢
  refine j_aload_n dX12_init_403 rfl ?_
  refine j_sipush (v := 370) dX12_init_404 (by decide) ?_
  refine j_mono (mc' := 10 + 1) (ms' := 3514 + 370) (by omega) (by omega) ?_
  refine j_newI (370) dX12_init_407 ac_int (by rfl) (by omega) (fun q_407 hq_407 => ?_)
  refine j_putOF dX12_init_409 fl_X12_165 rfl (fun _ _ q => by cases q; rfl) rfl (by first | exact hP.1 | (rw [hK_nw, if_neg (fun e => by have w := hP.1; rw [e] at w; omega)]; exact hP.1)) ?_
  replace hP := MP_new 91 q_407 15 370 hP hq_407 rfl (by decide) rfl (by simp)
  generalize pO (nw h_403 q_407 15 370) a 91 (some q_407) = h_412 at hP ⊢
  refine j_aload_n dX12_init_412 rfl ?_
  refine j_sipush (v := 370) dX12_init_413 (by decide) ?_
  refine j_mono (mc' := 9 + 1) (ms' := 3144 + 370) (by omega) (by omega) ?_
  refine j_newI (370) dX12_init_416 ac_int (by rfl) (by omega) (fun q_416 hq_416 => ?_)
  refine j_putOF dX12_init_418 fl_X12_168 rfl (fun _ _ q => by cases q; rfl) rfl (by first | exact hP.1 | (rw [hK_nw, if_neg (fun e => by have w := hP.1; rw [e] at w; omega)]; exact hP.1)) ?_
  replace hP := MP_new 92 q_416 15 370 hP hq_416 rfl (by decide) rfl (by simp)
  generalize pO (nw h_412 q_416 15 370) a 92 (some q_416) = h_421 at hP ⊢
  refine j_aload_n dX12_init_421 rfl ?_
  refine j_sipush (v := 370) dX12_init_422 (by decide) ?_
  refine j_mono (mc' := 8 + 1) (ms' := 2774 + 370) (by omega) (by omega) ?_
  refine j_newI (370) dX12_init_425 ac_int (by rfl) (by omega) (fun q_425 hq_425 => ?_)
  refine j_putOF dX12_init_427 fl_X12_171 rfl (fun _ _ q => by cases q; rfl) rfl (by first | exact hP.1 | (rw [hK_nw, if_neg (fun e => by have w := hP.1; rw [e] at w; omega)]; exact hP.1)) ?_
  replace hP := MP_new 93 q_425 15 370 hP hq_425 rfl (by decide) rfl (by simp)
  generalize pO (nw h_421 q_425 15 370) a 93 (some q_425) = h_430 at hP ⊢
  refine j_aload_n dX12_init_430 rfl ?_
  refine j_sipush (v := 370) dX12_init_431 (by decide) ?_
  refine j_mono (mc' := 7 + 1) (ms' := 2404 + 370) (by omega) (by omega) ?_
  refine j_newI (370) dX12_init_434 ac_int (by rfl) (by omega) (fun q_434 hq_434 => ?_)
  refine j_putOF dX12_init_436 fl_X12_174 rfl (fun _ _ q => by cases q; rfl) rfl (by first | exact hP.1 | (rw [hK_nw, if_neg (fun e => by have w := hP.1; rw [e] at w; omega)]; exact hP.1)) ?_
  replace hP := MP_new 94 q_434 15 370 hP hq_434 rfl (by decide) rfl (by simp)
  generalize pO (nw h_430 q_434 15 370) a 94 (some q_434) = h_439 at hP ⊢
  refine j_aload_n dX12_init_439 rfl ?_
  refine j_sipush (v := 370) dX12_init_440 (by decide) ?_
  refine j_mono (mc' := 6 + 1) (ms' := 2034 + 370) (by omega) (by omega) ?_
  refine j_newI (370) dX12_init_443 ac_int (by rfl) (by omega) (fun q_443 hq_443 => ?_)
  refine j_putOF dX12_init_445 fl_X12_177 rfl (fun _ _ q => by cases q; rfl) rfl (by first | exact hP.1 | (rw [hK_nw, if_neg (fun e => by have w := hP.1; rw [e] at w; omega)]; exact hP.1)) ?_
  replace hP := MP_new 95 q_443 15 370 hP hq_443 rfl (by decide) rfl (by simp)
  generalize pO (nw h_439 q_443 15 370) a 95 (some q_443) = h_448 at hP ⊢
  refine j_aload_n dX12_init_448 rfl ?_
  refine j_sipush (v := 370) dX12_init_449 (by decide) ?_
  refine j_mono (mc' := 5 + 1) (ms' := 1664 + 370) (by omega) (by omega) ?_
  refine j_newZ (370) dX12_init_452 ac_boolean (by rfl) (by omega) (fun q_452 hq_452 => ?_)
  refine j_putOF dX12_init_454 fl_X12_180 rfl (fun _ _ q => by cases q; rfl) rfl (by first | exact hP.1 | (rw [hK_nw, if_neg (fun e => by have w := hP.1; rw [e] at w; omega)]; exact hP.1)) ?_
  replace hP := MP_new 96 q_452 17 370 hP hq_452 rfl (by decide) rfl (by simp)
  generalize pO (nw h_448 q_452 17 370) a 96 (some q_452) = h_457 at hP ⊢
  refine j_aload_n dX12_init_457 rfl ?_
  refine j_sipush (v := 370) dX12_init_458 (by decide) ?_
  refine j_mono (mc' := 4 + 1) (ms' := 1294 + 370) (by omega) (by omega) ?_
  refine j_newZ (370) dX12_init_461 ac_boolean (by rfl) (by omega) (fun q_461 hq_461 => ?_)
  refine j_putOF dX12_init_463 fl_X12_183 rfl (fun _ _ q => by cases q; rfl) rfl (by first | exact hP.1 | (rw [hK_nw, if_neg (fun e => by have w := hP.1; rw [e] at w; omega)]; exact hP.1)) ?_
  replace hP := MP_new 97 q_461 17 370 hP hq_461 rfl (by decide) rfl (by simp)
  generalize pO (nw h_457 q_461 17 370) a 97 (some q_461) = h_466 at hP ⊢
  refine j_aload_n dX12_init_466 rfl ?_
  refine j_bipush (v := 64) dX12_init_467 (by decide) ?_
  refine j_mono (mc' := 3 + 1) (ms' := 1230 + 64) (by omega) (by omega) ?_
  refine j_newI (64) dX12_init_469 ac_int (by rfl) (by omega) (fun q_469 hq_469 => ?_)
  refine j_putOF dX12_init_471 fl_X12_186 rfl (fun _ _ q => by cases q; rfl) rfl (by first | exact hP.1 | (rw [hK_nw, if_neg (fun e => by have w := hP.1; rw [e] at w; omega)]; exact hP.1)) ?_
  replace hP := MP_new 99 q_469 15 64 hP hq_469 rfl (by decide) rfl (by simp)
  generalize pO (nw h_466 q_469 15 64) a 99 (some q_469) = h_474 at hP ⊢
  refine j_aload_n dX12_init_474 rfl ?_
  refine j_sipush (v := 410) dX12_init_475 (by decide) ?_
  refine j_mono (mc' := 2 + 1) (ms' := 820 + 410) (by omega) (by omega) ?_
  refine j_newI (410) dX12_init_478 ac_int (by rfl) (by omega) (fun q_478 hq_478 => ?_)
  refine j_putOF dX12_init_480 fl_X12_189 rfl (fun _ _ q => by cases q; rfl) rfl (by first | exact hP.1 | (rw [hK_nw, if_neg (fun e => by have w := hP.1; rw [e] at w; omega)]; exact hP.1)) ?_
  replace hP := MP_new 101 q_478 15 410 hP hq_478 rfl (by decide) rfl (by simp)
  generalize pO (nw h_474 q_478 15 410) a 101 (some q_478) = h_483 at hP ⊢
  refine j_aload_n dX12_init_483 rfl ?_
  refine j_sipush (v := 410) dX12_init_484 (by decide) ?_
  refine j_mono (mc' := 1 + 1) (ms' := 410 + 410) (by omega) (by omega) ?_
  refine j_newI (410) dX12_init_487 ac_int (by rfl) (by omega) (fun q_487 hq_487 => ?_)
  refine j_putOF dX12_init_489 fl_X12_192 rfl (fun _ _ q => by cases q; rfl) rfl (by first | exact hP.1 | (rw [hK_nw, if_neg (fun e => by have w := hP.1; rw [e] at w; omega)]; exact hP.1)) ?_
  replace hP := MP_new 102 q_487 15 410 hP hq_487 rfl (by decide) rfl (by simp)
  generalize pO (nw h_483 q_487 15 410) a 102 (some q_487) = h_492 at hP ⊢
  refine j_aload_n dX12_init_492 rfl ?_
  refine j_sipush (v := 410) dX12_init_493 (by decide) ?_
  refine j_mono (mc' := 0 + 1) (ms' := 0 + 410) (by omega) (by omega) ?_
  refine j_newI (410) dX12_init_496 ac_int (by rfl) (by omega) (fun q_496 hq_496 => ?_)
  refine j_putOF dX12_init_498 fl_X12_195 rfl (fun _ _ q => by cases q; rfl) rfl (by first | exact hP.1 | (rw [hK_nw, if_neg (fun e => by have w := hP.1; rw [e] at w; omega)]; exact hP.1)) ?_
  replace hP := MP_new 103 q_496 15 410 hP hq_496 rfl (by decide) rfl (by simp)
  generalize pO (nw h_492 q_496 15 410) a 103 (some q_496) = h_501 at hP ⊢
  obtain ⟨g, rfl, hm, z0, hFr, hz⟩ := MP_MW hP rfl
  exact e_initB hm (z0.trans fr_0u) hFr hz

