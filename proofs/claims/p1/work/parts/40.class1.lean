/-! ===== a new object of the system: its cells by keys ===== -/
def ckl : List Nat := [12, 6, 11, 3, 10, 4, 8, 9, 22, 15, 15, 14, 20, 20, 14, 15, 9, 14, 21, 15, 15, 16, 22, 9, 14, 16, 16, 16, 15, 15, 18, 15, 21, 21, 14, 7, 15, 15, 19]
def cnl : List Nat := [0, 0, 0, 0, 0, 0, 0, 0, 320, 6, 1218, 400, 400, 0, 2400, 60, 0, 24, 40, 40, 40, 40, 60, 0, 0, 1600, 1600, 5, 320, 320, 362, 64, 40, 40, 0, 0, 8, 6, 48]
abbrev ck (k : Nat) : Nat := ckl.getD k 0
abbrev cn (k : Nat) : Nat := cnl.getD k 0
/-- h0: the heap before; l: keys and addresses, the latest first; what they have -/
def BK (h0 h : Hp) (l : List (Nat × Nat)) (fi : Nat → Nat → Int32) (fg : Nat → Nat → Int64) (ro : Nat → Nat → Option Nat) : Prop :=
  (Ex h0 h ∧ (l.map Prod.snd).Nodup ∧ (l.map Prod.fst).Nodup) ∧ (∀ k, k ∉ l.map Prod.fst → (fi k = fun _ => 0) ∧ (fg k = fun _ => 0) ∧ ro k = fun _ => none) ∧
  ∀ p ∈ l, hK h p.2 = ck p.1 ∧ ck p.1 ≠ 0 ∧ hN h p.2 = cn p.1 ∧ hI h p.2 = fi p.1 ∧ hG h p.2 = fg p.1 ∧ hO h p.2 = ro p.1 ∧ hK h0 p.2 = 0
theorem BK_0 (h : Hp) : BK h h [] (fun _ _ => 0) (fun _ _ => 0) (fun _ _ => none) := ⟨⟨Fr_rf, List.nodup_nil, List.nodup_nil⟩, fun _ _ => ⟨rfl, rfl, rfl⟩, fun p hp => by cases hp⟩
section BKS
variable {h0 h u : Hp} {l : List (Nat × Nat)} {fi : Nat → Nat → Int32} {fg : Nat → Nat → Int64} {ro : Nat → Nat → Option Nat}
theorem BK_k {k a c : Nat} (B : BK h0 h l fi fg ro) (ha : (k, a) ∈ l) (hc : ck k = c) : hK h a = c := by rw [← hc]; exact (B.2.2 _ ha).1
theorem BK_n {k a c : Nat} (B : BK h0 h l fi fg ro) (ha : (k, a) ∈ l) (hc : cn k = c) : hN h a = c := by rw [← hc]; exact (B.2.2 _ ha).2.2.1
theorem BK_i {k a : Nat} (B : BK h0 h l fi fg ro) (ha : (k, a) ∈ l) : hI h a = fi k := (B.2.2 _ ha).2.2.2.1
theorem BK_o {k a : Nat} (B : BK h0 h l fi fg ro) (ha : (k, a) ∈ l) : hO h a = ro k := (B.2.2 _ ha).2.2.2.2.2.1
theorem BK_new (k q K n : Nat) (B : BK h0 h l fi fg ro) (hq : hK h q = 0) (hK1 : ck k = K) (hK0 : K ≠ 0) (hn : cn k = n) (hk : k ∉ l.map Prod.fst) : BK h0 (nw h q K n) ((k, q) :: l) fi fg ro := by
  obtain ⟨⟨b1, b2, b3⟩, b4, b5⟩ := B
  have hq0 : hK h0 q = 0 := Classical.byContradiction fun w => by have := (b1 q w).1; omega
  have hz := b4 k hk
  have hne : ∀ p ∈ l, p.2 ≠ q := fun p hp e => by have w := b5 p hp; exact w.2.1 (by rw [← w.1, e]; exact hq)
  refine ⟨⟨Fr_nw b1 hq, ?_, ?_⟩, fun k2 hk2 => b4 k2 (fun w => hk2 (List.mem_cons_of_mem _ w)), fun p hp => ?_⟩
  · rw [List.map_cons, List.nodup_cons]
    refine ⟨fun hm => ?_, b2⟩
    obtain ⟨p, hp, e⟩ := List.mem_map.mp hm
    exact hne p hp e
  · rw [List.map_cons, List.nodup_cons]; exact ⟨hk, b3⟩
  · rcases List.mem_cons.mp hp with rfl | hp
    · exact ⟨by rw [hK_nw, if_pos rfl, hK1], by rw [hK1]; exact hK0, by rw [hN_nw, if_pos rfl, hn], by rw [hz.1]; funext j; rw [hI_nw, if_pos rfl], by rw [hz.2.1]; funext j; rw [hG_nw, if_pos rfl], by rw [hz.2.2]; funext j; rw [hO_nw, if_pos rfl], hq0⟩
    · obtain ⟨w1, w2, w3, w4, w5, w6, w7⟩ := b5 p hp
      have e := hne p hp
      exact ⟨by rw [hK_nw, if_neg e, w1], w2, by rw [hN_nw, if_neg e, w3], by rw [← w4]; funext j; rw [hI_nw, if_neg e], by rw [← w5]; funext j; rw [hG_nw, if_neg e], by rw [← w6]; funext j; rw [hO_nw, if_neg e], w7⟩
theorem BK_fr {S : Nat → Prop} (B : BK h0 h l fi fg ro) (hF : Fr S h u) (hS : ∀ p ∈ l, ¬ S p.2) (h0S : ∀ b, S b → hK h0 b = 0) : BK h0 u l fi fg ro := by
  obtain ⟨⟨b1, b2, b3⟩, b4, b5⟩ := B
  refine ⟨⟨Fr_tr2 b1 hF (fun b hb w => absurd (h0S b w) hb), b2, b3⟩, b4, fun p hp => ?_⟩
  obtain ⟨w1, w2, w3, w4, w5, w6, w7⟩ := b5 p hp
  obtain ⟨f1, f2, f3⟩ := hF p.2 (by rw [w1]; exact w2)
  obtain ⟨f3, f4, f5⟩ := f3 (hS p hp)
  exact ⟨f1.trans w1, w2, f2.trans w3, f3.trans w4, f4.trans w5, f5.trans w6, w7⟩
theorem BK_ex (B : BK h0 h l fi fg ro) (hF : Ex h u) : BK h0 u l fi fg ro := BK_fr B hF (fun _ _ w => w) (fun _ w => w.elim)
theorem BK_two {k a : Nat} (B : BK h0 h l fi fg ro) (ha : (k, a) ∈ l) : ∀ p ∈ l, p.1 = k ∧ p.2 = a ∨ p.1 ≠ k ∧ p.2 ≠ a := fun p hp => by
  obtain ⟨⟨b1, b2, b3⟩, b4, b5⟩ := B
  by_cases e : p.2 = a
  · left
    have w : (p.1, a) ∈ l := by rw [← e]; exact hp
    exact ⟨nd_inj b2 w ha, e⟩
  · right
    refine ⟨fun e2 => e ?_, e⟩
    have sw : ∀ {l : List (Nat × Nat)}, (l.map Prod.fst).Nodup → (k, p.2) ∈ l → (k, a) ∈ l → p.2 = a := fun {l} => by
      induction l with
      | nil => intro _ h; cases h
      | cons x t ih =>
        intro hn h1 h2
        rw [List.map_cons, List.nodup_cons] at hn
        rcases List.mem_cons.mp h1 with h1 | h1 <;> rcases List.mem_cons.mp h2 with h2 | h2
        · rw [← h1] at h2; exact (congrArg Prod.snd h2).symm
        · exact absurd (List.mem_map.mpr ⟨_, h2, by rw [← h1]⟩) hn.1
        · exact absurd (List.mem_map.mpr ⟨_, h1, by rw [← h2]⟩) hn.1
        · exact ih hn.2 h1 h2
    exact sw b3 (by rw [← e2]; exact hp) ha
theorem u2_a {α : Type} (f : Nat → Nat → α) (k j : Nat) (x : α) : u2 f k j x k = (fun i => if i = j then x else f k i) := by funext i; simp [u2]
theorem u2_n {α : Type} (f : Nat → Nat → α) {k k2 : Nat} (j : Nat) (x : α) (e : k2 ≠ k) : u2 f k j x k2 = f k2 := by funext i; simp [u2, e]
theorem BK_pO (k a j : Nat) (x : Option Nat) (B : BK h0 h l fi fg ro) (ha : (k, a) ∈ l) : BK h0 (pO h a j x) l fi fg (u2 ro k j x) := by
  have tw := BK_two B ha
  obtain ⟨⟨b1, b2, b3⟩, b4, b5⟩ := B
  refine ⟨⟨Fr_pO b1 (Or.inr (b5 _ ha).2.2.2.2.2.2), b2, b3⟩, fun k2 hk2 => ?_, fun p hp => ?_⟩
  · have := b4 k2 hk2
    exact ⟨this.1, this.2.1, by rw [u2_n ro j x (by rintro rfl; exact hk2 (List.mem_map.mpr ⟨_, ha, rfl⟩))]; exact this.2.2⟩
  · obtain ⟨w1, w2, w3, w4, w5, w6, w7⟩ := b5 p hp
    refine ⟨w1, w2, w3, w4, w5, ?_, w7⟩
    rcases tw p hp with ⟨e1, e2⟩ | ⟨e1, e2⟩
    · rw [e1, u2_a]; funext i; rw [hO_pO, e2]; rw [e1, e2] at w6; simp only [true_and]; rw [w6]
    · rw [u2_n ro j x e1, ← w6]; funext i; rw [hO_pO, if_neg (fun w => e2 w.1)]
theorem BK_pI (k a j : Nat) (x : Int32) (B : BK h0 h l fi fg ro) (ha : (k, a) ∈ l) : BK h0 (pI h a j x) l (u2 fi k j x) fg ro := by
  have tw := BK_two B ha
  obtain ⟨⟨b1, b2, b3⟩, b4, b5⟩ := B
  refine ⟨⟨Fr_pI b1 (Or.inr (b5 _ ha).2.2.2.2.2.2), b2, b3⟩, fun k2 hk2 => ?_, fun p hp => ?_⟩
  · have := b4 k2 hk2
    exact ⟨by rw [u2_n fi j x (by rintro rfl; exact hk2 (List.mem_map.mpr ⟨_, ha, rfl⟩))]; exact this.1, this.2.1, this.2.2⟩
  · obtain ⟨w1, w2, w3, w4, w5, w6, w7⟩ := b5 p hp
    refine ⟨w1, w2, w3, ?_, w5, w6, w7⟩
    rcases tw p hp with ⟨e1, e2⟩ | ⟨e1, e2⟩
    · rw [e1, u2_a]; funext i; rw [hI_pI, e2]; rw [e1, e2] at w4; simp only [true_and]; rw [w4]
    · rw [u2_n fi j x e1, ← w4]; funext i; rw [hI_pI, if_neg (fun w => e2 w.1)]
theorem BK_pG (k a j : Nat) (x : Int64) (B : BK h0 h l fi fg ro) (ha : (k, a) ∈ l) : BK h0 (pG h a j x) l fi (u2 fg k j x) ro := by
  have tw := BK_two B ha
  obtain ⟨⟨b1, b2, b3⟩, b4, b5⟩ := B
  refine ⟨⟨Fr_pG b1 (Or.inr (b5 _ ha).2.2.2.2.2.2), b2, b3⟩, fun k2 hk2 => ?_, fun p hp => ?_⟩
  · have := b4 k2 hk2
    exact ⟨this.1, by rw [u2_n fg j x (by rintro rfl; exact hk2 (List.mem_map.mpr ⟨_, ha, rfl⟩))]; exact this.2.1, this.2.2⟩
  · obtain ⟨w1, w2, w3, w4, w5, w6, w7⟩ := b5 p hp
    refine ⟨w1, w2, w3, w4, ?_, w6, w7⟩
    rcases tw p hp with ⟨e1, e2⟩ | ⟨e1, e2⟩
    · rw [e1, u2_a]; funext i; rw [hG_pG, e2]; rw [e1, e2] at w5; simp only [true_and]; rw [w5]
    · rw [u2_n fg j x e1, ← w5]; funext i; rw [hG_pG, if_neg (fun w => e2 w.1)]
theorem BK_out (B : BK h0 h l fi fg ro) {q : Nat} (hq : hK h q = 0) : ∀ p ∈ l, p.2 ≠ q := fun p hp e => by have w := B.2.2 p hp; exact w.2.1 (by rw [← w.1, e]; exact hq)
theorem BK_h0 (B : BK h0 h l fi fg ro) {q : Nat} (hq : hK h q = 0) : hK h0 q = 0 := Classical.byContradiction fun w => by have := (B.1.1 q w).1; omega
end BKS
set_option maxRecDepth 20000 in
theorem c_ini8 {h : Hp} {a n : Nat} (hk : hK h a = 9) (hn : n < 100) : Con mX8_init 2 1 100 [vr (some a), vi (nI n)] h (fun v u => v = none ∧ ∃ q, hK h q = 0 ∧ u = pO (nw h q 14 n) a 0 (some q)) := by
  refine con_of rfl (Nat.le_of_ble_eq_true rfl) (by decide) ?_
  show J mX8_init 2 1 100 _ 0 [some (vr (some a)), some (vi (nI n))] [] h
  refine j_aload_n dX8_init_0 rfl ?_
  refine j_objInit dX8_init_1 ol_X8_3 ob_1 ob_2 (by decide) (Nat.le_of_ble_eq_true rfl) ?_
  refine j_aload_n dX8_init_4 rfl ?_
  refine j_iload_n dX8_init_5 rfl ?_
  refine j_iconst (v := 0) dX8_init_6 (by decide) ?_
  refine j_mmax dX8_init_7 sl_X8_9 (by decide) (Nat.le_of_ble_eq_true rfl) ?_
  rw [show (if nI n < (0 : Int32) then 0 else nI n) = nI n from if_neg (nI_pos (by omega))]
  refine j_mono (mc' := 0 + 1) (ms' := 0 + n) (by omega) (by omega) ?_
  refine j_newB (n) dX8_init_10 ac_byte rfl (by omega) (fun q_10 hq_10 => ?_)
  refine j_putOF dX8_init_12 fl_X8_15 rfl (fun _ _ q => by cases q; rfl) rfl (by first | exact hk | (rw [hK_nw, if_neg (by rintro rfl; omega)]; exact hk)) ?_
  exact j_return dX8_init_15 rfl (⟨rfl, _, by assumption, rfl⟩)

set_option maxRecDepth 20000 in
theorem c_ini5 {h0 h : Hp} {l : List (Nat × Nat)} {fi : Nat → Nat → Int32} {fg : Nat → Nat → Int64} {ro : Nat → Nat → Option Nat} {a : Nat} (B : BK h0 h l fi fg ro) (ha : (1, a) ∈ l) (n11 : 11 ∉ l.map Prod.fst) (n12 : 12 ∉ l.map Prod.fst) (n13 : 13 ∉ l.map Prod.fst) : Con mX5_init 2 3 800 [vr (some a)] h (fun v u => v = none ∧ ∃ q0 q1 q2, BK h0 u ((13, q2) :: ((12, q1) :: ((11, q0) :: l))) fi fg (u2 (u2 (u2 ro 1 0 (some q0)) 1 1 (some q1)) 1 2 (some q2))) := by
  refine con_of rfl (Nat.le_of_ble_eq_true rfl) (by decide) ?_
  show J mX5_init 2 3 800 _ 0 [some (vr (some a))] [] h
  refine j_aload_n dX5_init_0 rfl ?_
  refine j_objInit dX5_init_1 ol_X5_3 ob_1 ob_2 (by decide) (Nat.le_of_ble_eq_true rfl) ?_
  refine j_aload_n dX5_init_4 rfl ?_
  refine j_sipush (v := 400) dX5_init_5 (by decide) ?_
  refine j_mono (mc' := 2 + 1) (ms' := 400 + 400) (by omega) (by omega) ?_
  refine j_newB (400) dX5_init_8 ac_byte (by rfl) (by omega) (fun q_8 hq_8 => ?_)
  refine j_putOF dX5_init_10 fl_X5_9 rfl (fun _ _ q => by cases q; rfl) rfl (by first | exact BK_k B ha rfl | (rw [hK_nw, if_neg (by rintro rfl; have w := BK_k (c := 6) B ha rfl; omega)]; exact BK_k B ha rfl)) ?_
  replace B := BK_pO 1 a 0 (some q_8) (BK_new 11 q_8 14 400 B hq_8 rfl (by decide) rfl (by simpa using n11)) (List.mem_cons_of_mem _ ha)
  replace ha := List.mem_cons_of_mem (11, q_8) ha
  generalize pO (nw h q_8 14 400) a 0 (some q_8) = h_13 at B ⊢
  refine j_aload_n dX5_init_13 rfl ?_
  refine j_sipush (v := 400) dX5_init_14 (by decide) ?_
  refine j_mono (mc' := 1 + 1) (ms' := 0 + 400) (by omega) (by omega) ?_
  refine j_newQ (t := 6) (400) dX5_init_17 nl_X5_15 ao_4 (by decide) (fun _ => rfl) (by rfl) (by omega) (fun q_17 hq_17 => ?_)
  refine j_putOF dX5_init_20 fl_X5_17 rfl (fun _ _ q => by cases q; rfl) rfl (by first | exact BK_k B ha rfl | (rw [hK_nw, if_neg (by rintro rfl; have w := BK_k (c := 6) B ha rfl; omega)]; exact BK_k B ha rfl)) ?_
  replace B := BK_pO 1 a 1 (some q_17) (BK_new 12 q_17 20 400 B hq_17 rfl (by decide) rfl (by simpa using n12)) (List.mem_cons_of_mem _ ha)
  replace ha := List.mem_cons_of_mem (12, q_17) ha
  generalize pO (nw h_13 q_17 20 400) a 1 (some q_17) = h_23 at B ⊢
  refine j_aload_n dX5_init_23 rfl ?_
  refine j_iconst (v := 0) dX5_init_24 (by decide) ?_
  refine j_mono (mc' := 0 + 1) (ms' := 0 + 0) (by omega) (by omega) ?_
  refine j_newQ (t := 6) (0) dX5_init_25 nl_X5_15 ao_4 (by decide) (fun _ => rfl) (by rfl) (by omega) (fun q_25 hq_25 => ?_)
  refine j_putOF dX5_init_28 fl_X5_21 rfl (fun _ _ q => by cases q; rfl) rfl (by first | exact BK_k B ha rfl | (rw [hK_nw, if_neg (by rintro rfl; have w := BK_k (c := 6) B ha rfl; omega)]; exact BK_k B ha rfl)) ?_
  replace B := BK_pO 1 a 2 (some q_25) (BK_new 13 q_25 20 0 B hq_25 rfl (by decide) rfl (by simpa using n13)) (List.mem_cons_of_mem _ ha)
  replace ha := List.mem_cons_of_mem (13, q_25) ha
  generalize pO (nw h_23 q_25 20 0) a 2 (some q_25) = h_31 at B ⊢
  exact j_return dX5_init_31 rfl (⟨rfl, q_8, q_17, q_25, B⟩)

set_option maxRecDepth 20000 in
theorem c_ini2 {h0 h : Hp} {l : List (Nat × Nat)} {fi : Nat → Nat → Int32} {fg : Nat → Nat → Int64} {ro : Nat → Nat → Option Nat} {a : Nat} (B : BK h0 h l fi fg ro) (ha : (3, a) ∈ l) (n18 : 18 ∉ l.map Prod.fst) (n19 : 19 ∉ l.map Prod.fst) (n20 : 20 ∉ l.map Prod.fst) (n21 : 21 ∉ l.map Prod.fst) : Con mX2_init 2 4 160 [vr (some a)] h (fun v u => v = none ∧ ∃ q0 q1 q2 q3, BK h0 u ((21, q3) :: ((20, q2) :: ((19, q1) :: ((18, q0) :: l)))) fi fg (u2 (u2 (u2 (u2 ro 3 0 (some q0)) 3 1 (some q1)) 3 2 (some q2)) 3 3 (some q3))) := by
  refine con_of rfl (Nat.le_of_ble_eq_true rfl) (by decide) ?_
  show J mX2_init 2 4 160 _ 0 [some (vr (some a))] [] h
  refine j_aload_n dX2_init_0 rfl ?_
  refine j_objInit dX2_init_1 ol_X2_3 ob_1 ob_2 (by decide) (Nat.le_of_ble_eq_true rfl) ?_
  refine j_aload_n dX2_init_4 rfl ?_
  refine j_bipush (v := 40) dX2_init_5 (by decide) ?_
  refine j_mono (mc' := 3 + 1) (ms' := 120 + 40) (by omega) (by omega) ?_
  refine j_newQ (t := 7) (40) dX2_init_7 nl_X2_9 ao_6 (by decide) (fun _ => rfl) (by rfl) (by omega) (fun q_7 hq_7 => ?_)
  refine j_putOF dX2_init_10 fl_X2_11 rfl (fun _ _ q => by cases q; rfl) rfl (by first | exact BK_k B ha rfl | (rw [hK_nw, if_neg (by rintro rfl; have w := BK_k (c := 3) B ha rfl; omega)]; exact BK_k B ha rfl)) ?_
  replace B := BK_pO 3 a 0 (some q_7) (BK_new 18 q_7 21 40 B hq_7 rfl (by decide) rfl (by simpa using n18)) (List.mem_cons_of_mem _ ha)
  replace ha := List.mem_cons_of_mem (18, q_7) ha
  generalize pO (nw h q_7 21 40) a 0 (some q_7) = h_13 at B ⊢
  refine j_aload_n dX2_init_13 rfl ?_
  refine j_bipush (v := 40) dX2_init_14 (by decide) ?_
  refine j_mono (mc' := 2 + 1) (ms' := 80 + 40) (by omega) (by omega) ?_
  refine j_newI (40) dX2_init_16 ac_int (by rfl) (by omega) (fun q_16 hq_16 => ?_)
  refine j_putOF dX2_init_18 fl_X2_17 rfl (fun _ _ q => by cases q; rfl) rfl (by first | exact BK_k B ha rfl | (rw [hK_nw, if_neg (by rintro rfl; have w := BK_k (c := 3) B ha rfl; omega)]; exact BK_k B ha rfl)) ?_
  replace B := BK_pO 3 a 1 (some q_16) (BK_new 19 q_16 15 40 B hq_16 rfl (by decide) rfl (by simpa using n19)) (List.mem_cons_of_mem _ ha)
  replace ha := List.mem_cons_of_mem (19, q_16) ha
  generalize pO (nw h_13 q_16 15 40) a 1 (some q_16) = h_21 at B ⊢
  refine j_aload_n dX2_init_21 rfl ?_
  refine j_bipush (v := 40) dX2_init_22 (by decide) ?_
  refine j_mono (mc' := 1 + 1) (ms' := 40 + 40) (by omega) (by omega) ?_
  refine j_newI (40) dX2_init_24 ac_int (by rfl) (by omega) (fun q_24 hq_24 => ?_)
  refine j_putOF dX2_init_26 fl_X2_21 rfl (fun _ _ q => by cases q; rfl) rfl (by first | exact BK_k B ha rfl | (rw [hK_nw, if_neg (by rintro rfl; have w := BK_k (c := 3) B ha rfl; omega)]; exact BK_k B ha rfl)) ?_
  replace B := BK_pO 3 a 2 (some q_24) (BK_new 20 q_24 15 40 B hq_24 rfl (by decide) rfl (by simpa using n20)) (List.mem_cons_of_mem _ ha)
  replace ha := List.mem_cons_of_mem (20, q_24) ha
  generalize pO (nw h_21 q_24 15 40) a 2 (some q_24) = h_29 at B ⊢
  refine j_aload_n dX2_init_29 rfl ?_
  refine j_bipush (v := 40) dX2_init_30 (by decide) ?_
  refine j_mono (mc' := 0 + 1) (ms' := 0 + 40) (by omega) (by omega) ?_
  refine j_newJ (40) dX2_init_32 ac_long (by rfl) (by omega) (fun q_32 hq_32 => ?_)
  refine j_putOF dX2_init_34 fl_X2_24 rfl (fun _ _ q => by cases q; rfl) rfl (by first | exact BK_k B ha rfl | (rw [hK_nw, if_neg (by rintro rfl; have w := BK_k (c := 3) B ha rfl; omega)]; exact BK_k B ha rfl)) ?_
  replace B := BK_pO 3 a 3 (some q_32) (BK_new 21 q_32 16 40 B hq_32 rfl (by decide) rfl (by simpa using n21)) (List.mem_cons_of_mem _ ha)
  replace ha := List.mem_cons_of_mem (21, q_32) ha
  generalize pO (nw h_29 q_32 16 40) a 3 (some q_32) = h_37 at B ⊢
  exact j_return dX2_init_37 rfl (⟨rfl, q_7, q_16, q_24, q_32, B⟩)

set_option maxRecDepth 20000 in
theorem c_ini3 {h0 h : Hp} {l : List (Nat × Nat)} {fi : Nat → Nat → Int32} {fg : Nat → Nat → Int64} {ro : Nat → Nat → Option Nat} {a : Nat} (B : BK h0 h l fi fg ro) (ha : (5, a) ∈ l) (n30 : 30 ∉ l.map Prod.fst) (n31 : 31 ∉ l.map Prod.fst) : Con mX3_init 2 2 426 [vr (some a)] h (fun v u => v = none ∧ ∃ q0 q1, BK h0 u ((31, q1) :: ((30, q0) :: l)) fi fg (u2 (u2 ro 5 0 (some q0)) 5 1 (some q1))) := by
  refine con_of rfl (Nat.le_of_ble_eq_true rfl) (by decide) ?_
  show J mX3_init 2 2 426 _ 0 [some (vr (some a))] [] h
  refine j_aload_n dX3_init_0 rfl ?_
  refine j_objInit dX3_init_1 ol_X3_3 ob_1 ob_2 (by decide) (Nat.le_of_ble_eq_true rfl) ?_
  refine j_aload_n dX3_init_4 rfl ?_
  refine j_sipush (v := 362) dX3_init_5 (by decide) ?_
  refine j_mono (mc' := 1 + 1) (ms' := 64 + 362) (by omega) (by omega) ?_
  refine j_newQ (t := 4) (362) dX3_init_8 nl_X3_9 ao_0 (by decide) (fun _ => rfl) (by rfl) (by omega) (fun q_8 hq_8 => ?_)
  refine j_putOF dX3_init_11 fl_X3_11 rfl (fun _ _ q => by cases q; rfl) rfl (by first | exact BK_k B ha rfl | (rw [hK_nw, if_neg (by rintro rfl; have w := BK_k (c := 4) B ha rfl; omega)]; exact BK_k B ha rfl)) ?_
  replace B := BK_pO 5 a 0 (some q_8) (BK_new 30 q_8 18 362 B hq_8 rfl (by decide) rfl (by simpa using n30)) (List.mem_cons_of_mem _ ha)
  replace ha := List.mem_cons_of_mem (30, q_8) ha
  generalize pO (nw h q_8 18 362) a 0 (some q_8) = h_14 at B ⊢
  refine j_aload_n dX3_init_14 rfl ?_
  refine j_bipush (v := 64) dX3_init_15 (by decide) ?_
  refine j_mono (mc' := 0 + 1) (ms' := 0 + 64) (by omega) (by omega) ?_
  refine j_newI (64) dX3_init_17 ac_int (by rfl) (by omega) (fun q_17 hq_17 => ?_)
  refine j_putOF dX3_init_19 fl_X3_17 rfl (fun _ _ q => by cases q; rfl) rfl (by first | exact BK_k B ha rfl | (rw [hK_nw, if_neg (by rintro rfl; have w := BK_k (c := 4) B ha rfl; omega)]; exact BK_k B ha rfl)) ?_
  replace B := BK_pO 5 a 1 (some q_17) (BK_new 31 q_17 15 64 B hq_17 rfl (by decide) rfl (by simpa using n31)) (List.mem_cons_of_mem _ ha)
  replace ha := List.mem_cons_of_mem (31, q_17) ha
  generalize pO (nw h_14 q_17 15 64) a 1 (some q_17) = h_22 at B ⊢
  exact j_return dX3_init_22 rfl (⟨rfl, q_8, q_17, B⟩)

set_option maxRecDepth 20000 in
theorem c_ini7 {h0 h : Hp} {l : List (Nat × Nat)} {fi : Nat → Nat → Int32} {fg : Nat → Nat → Int64} {ro : Nat → Nat → Option Nat} {a : Nat} (B : BK h0 h l fi fg ro) (ha : (6, a) ∈ l) (n32 : 32 ∉ l.map Prod.fst) (n33 : 33 ∉ l.map Prod.fst) : Con mX7_init 2 2 80 [vr (some a)] h (fun v u => v = none ∧ ∃ q0 q1, BK h0 u ((33, q1) :: ((32, q0) :: l)) fi fg (u2 (u2 ro 6 0 (some q0)) 6 1 (some q1))) := by
  refine con_of rfl (Nat.le_of_ble_eq_true rfl) (by decide) ?_
  show J mX7_init 2 2 80 _ 0 [some (vr (some a))] [] h
  refine j_aload_n dX7_init_0 rfl ?_
  refine j_objInit dX7_init_1 ol_X7_3 ob_1 ob_2 (by decide) (Nat.le_of_ble_eq_true rfl) ?_
  refine j_aload_n dX7_init_4 rfl ?_
  refine j_bipush (v := 40) dX7_init_5 (by decide) ?_
  refine j_mono (mc' := 1 + 1) (ms' := 40 + 40) (by omega) (by omega) ?_
  refine j_newQ (t := 7) (40) dX7_init_7 nl_X7_9 ao_6 (by decide) (fun _ => rfl) (by rfl) (by omega) (fun q_7 hq_7 => ?_)
  refine j_putOF dX7_init_10 fl_X7_11 rfl (fun _ _ q => by cases q; rfl) rfl (by first | exact BK_k B ha rfl | (rw [hK_nw, if_neg (by rintro rfl; have w := BK_k (c := 8) B ha rfl; omega)]; exact BK_k B ha rfl)) ?_
  replace B := BK_pO 6 a 0 (some q_7) (BK_new 32 q_7 21 40 B hq_7 rfl (by decide) rfl (by simpa using n32)) (List.mem_cons_of_mem _ ha)
  replace ha := List.mem_cons_of_mem (32, q_7) ha
  generalize pO (nw h q_7 21 40) a 0 (some q_7) = h_13 at B ⊢
  refine j_aload_n dX7_init_13 rfl ?_
  refine j_bipush (v := 40) dX7_init_14 (by decide) ?_
  refine j_mono (mc' := 0 + 1) (ms' := 0 + 40) (by omega) (by omega) ?_
  refine j_newQ (t := 7) (40) dX7_init_16 nl_X7_9 ao_6 (by decide) (fun _ => rfl) (by rfl) (by omega) (fun q_16 hq_16 => ?_)
  refine j_putOF dX7_init_19 fl_X7_17 rfl (fun _ _ q => by cases q; rfl) rfl (by first | exact BK_k B ha rfl | (rw [hK_nw, if_neg (by rintro rfl; have w := BK_k (c := 8) B ha rfl; omega)]; exact BK_k B ha rfl)) ?_
  replace B := BK_pO 6 a 1 (some q_16) (BK_new 33 q_16 21 40 B hq_16 rfl (by decide) rfl (by simpa using n33)) (List.mem_cons_of_mem _ ha)
  replace ha := List.mem_cons_of_mem (33, q_16) ha
  generalize pO (nw h_13 q_16 21 40) a 1 (some q_16) = h_22 at B ⊢
  exact j_return dX7_init_22 rfl (⟨rfl, q_7, q_16, B⟩)

