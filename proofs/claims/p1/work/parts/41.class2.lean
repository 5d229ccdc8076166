/-! ===== a new object of the system: writer, worker, the whole ===== -/
theorem BK_sI {h0 h : Hp} {l : List (Nat × Nat)} {fi : Nat → Nat → Int32} {fg : Nat → Nat → Int64} {ro : Nat → Nat → Option Nat} (k a : Nat) (f : Nat → Int32) (B : BK h0 h l fi fg ro) (ha : (k, a) ∈ l) : BK h0 (sI h a f) l (u1 fi k f) fg ro := by
  have tw := BK_two B ha
  obtain ⟨⟨b1, b2, b3⟩, b4, b5⟩ := B
  refine ⟨⟨Fr_sI b1 (Or.inr (b5 _ ha).2.2.2.2.2.2), b2, b3⟩, fun k2 hk2 => ?_, fun p hp => ?_⟩
  · have := b4 k2 hk2
    exact ⟨by rw [u1, if_neg (by rintro rfl; exact hk2 (List.mem_map.mpr ⟨_, ha, rfl⟩))]; exact this.1, this.2.1, this.2.2⟩
  · obtain ⟨w1, w2, w3, w4, w5, w6, w7⟩ := b5 p hp
    refine ⟨w1, w2, w3, ?_, w5, w6, w7⟩
    rcases tw p hp with ⟨e1, e2⟩ | ⟨e1, e2⟩
    · rw [hI_sI, if_pos e2, u1, if_pos e1]
    · rw [hI_sI, if_neg e2, u1, if_neg e1]; exact w4
theorem BK_ro {h0 h : Hp} {l : List (Nat × Nat)} {fi : Nat → Nat → Int32} {fg : Nat → Nat → Int64} {ro ro2 : Nat → Nat → Option Nat} (B : BK h0 h l fi fg ro) (e : ro = ro2) : BK h0 h l fi fg ro2 := e ▸ B
theorem u2_u1 {α : Type} (f : Nat → Nat → α) (k j : Nat) (g : Nat → α) (x : α) : u2 (u1 f k g) k j x = u1 f k (fun i => if i = j then x else g i) := by
  funext a b
  by_cases e : a = k
  · subst e; simp [u2, u1]
  · simp [u2, u1, e]
theorem u1_same {α : Type} (f : Nat → α) (k : Nat) {x : α} (e : f k = x) : u1 f k x = f := by
  funext a
  by_cases q : a = k
  · subst q; rw [u1, if_pos rfl, e]
  · rw [u1, if_neg q]
set_option maxRecDepth 20000 in
theorem c_ini10 {h0 h : Hp} {l : List (Nat × Nat)} {fi : Nat → Nat → Int32} {fg : Nat → Nat → Int64} {ro : Nat → Nat → Option Nat} {a : Nat} (B : BK h0 h l fi fg ro) (ha : (2, a) ∈ l) (n14 : 14 ∉ l.map Prod.fst) (n15 : 15 ∉ l.map Prod.fst) (n16 : 16 ∉ l.map Prod.fst) (n17 : 17 ∉ l.map Prod.fst) : Con mX10_init 3 4 2564 [vr (some a)] h (fun v u => v = none ∧ ∃ q1 q2 q3 q4, BK h0 u ((17, q4) :: (16, q3) :: (15, q2) :: (14, q1) :: l) fi fg (u2 (u2 (u2 (u2 ro 2 0 (some q1)) 2 1 (some q2)) 16 0 (some q4)) 2 2 (some q3))) := by
  refine con_of rfl (Nat.le_of_ble_eq_true rfl) (by decide) ?_
  show J mX10_init 3 4 2564 _ 0 [some (vr (some a))] [] h
  refine j_aload_n dX10_init_0 rfl ?_
  refine j_objInit dX10_init_1 ol_X10_3 ob_1 ob_2 (by decide) (Nat.le_of_ble_eq_true rfl) ?_
  refine j_aload_n dX10_init_4 rfl ?_
  refine j_sipush (v := 2400) dX10_init_5 (by decide) ?_
  refine j_mono (mc' := 3 + 1) (ms' := 164 + 2400) (by omega) (by omega) ?_
  refine j_newB (2400) dX10_init_8 ac_byte (by rfl) (by omega) (fun q_8 hq_8 => ?_)
  refine j_putOF dX10_init_10 fl_X10_11 rfl (fun _ _ q => by cases q; rfl) rfl (by first | exact BK_k B ha rfl | (rw [hK_nw, if_neg (by rintro rfl; have w := BK_k (c := 11) B ha rfl; omega)]; exact BK_k B ha rfl)) ?_
  replace B := BK_pO 2 a 0 (some q_8) (BK_new 14 q_8 14 2400 B hq_8 rfl (by decide) rfl (by simpa using n14)) (List.mem_cons_of_mem _ ha)
  replace ha := List.mem_cons_of_mem (14, q_8) ha
  generalize pO (nw h q_8 14 2400) a 0 (some q_8) = h_13 at B ⊢
  refine j_aload_n dX10_init_13 rfl ?_
  refine j_bipush (v := 60) dX10_init_14 (by decide) ?_
  refine j_mono (mc' := 2 + 1) (ms' := 104 + 60) (by omega) (by omega) ?_
  refine j_newI (60) dX10_init_16 ac_int (by rfl) (by omega) (fun q_16 hq_16 => ?_)
  refine j_putOF dX10_init_18 fl_X10_15 rfl (fun _ _ q => by cases q; rfl) rfl (by first | exact BK_k B ha rfl | (rw [hK_nw, if_neg (by rintro rfl; have w := BK_k (c := 11) B ha rfl; omega)]; exact BK_k B ha rfl)) ?_
  replace B := BK_pO 2 a 1 (some q_16) (BK_new 15 q_16 15 60 B hq_16 rfl (by decide) rfl (by simpa using n15)) (List.mem_cons_of_mem _ ha)
  replace ha := List.mem_cons_of_mem (15, q_16) ha
  generalize pO (nw h_13 q_16 15 60) a 1 (some q_16) = h_21 at B ⊢
  refine j_aload_n dX10_init_21 rfl ?_
  refine j_mono (mc' := 1 + 1) (ms' := 100 + fnum 8) (by first | decide | omega) (by first | decide | (simp only [fnum]; omega)) ?_
  refine j_new dX10_init_22 cl_8 nl_X10_19 iw_8 zw_8 (fun q_22 hq_22 => ?_)
  refine j_dup dX10_init_25 rfl ?_
  refine j_bipush (v := 24) dX10_init_26 (by decide) ?_
  refine j_callI1 dX10_init_28 il_X10_21 (c_ini8 (n := 24) (by rw [hK_nw, if_pos rfl]) (by decide)) rfl (by decide) (by omega) (by omega) (Nat.le_of_ble_eq_true rfl) (fun v_28 u_28 p_28 => ?_)
  obtain ⟨rfl, q_28, hq_28, rfl⟩ := p_28
  replace B := BK_pO 16 q_22 0 (some q_28) (BK_new 17 q_28 14 24 (BK_new 16 q_22 9 0 B hq_22 rfl (by decide) rfl (by simpa using n16)) hq_28 rfl (by decide) rfl (by simpa using n17)) (by simp)
  replace ha := List.mem_cons_of_mem (17, q_28) (List.mem_cons_of_mem (16, q_22) ha)
  generalize pO (nw (nw h_21 q_22 9 0) q_28 14 24) q_22 0 (some q_28) = h_28 at B ⊢
  dsimp only [rs]
  refine j_putOF dX10_init_31 fl_X10_24 rfl (fun _ _ q => by cases q; rfl) rfl (by first | exact BK_k B ha rfl | (rw [hK_nw, if_neg (by rintro rfl; have w := BK_k (c := 11) B ha rfl; omega)]; exact BK_k B ha rfl)) ?_
  replace B := BK_pO 2 a 2 (some q_22) B ha
  generalize pO h_28 a 2 (some q_22) = h_34 at B ⊢
  exact j_return dX10_init_34 rfl ⟨rfl, q_8, q_16, q_22, q_28, B⟩

set_option maxRecDepth 20000 in
theorem l_ini9 {h0 : Hp} {l : List (Nat × Nat)} {fi : Nat → Nat → Int32} {fg : Nat → Nat → Int64} {ro : Nat → Nat → Option Nat} {a sa q1 : Nat} {post : Option Sv ⊕ String → Hp → Prop} (ha : (4, a) ∈ l) (h22 : (22, q1) ∈ l) (hro : ro 4 1 = some q1) (fin : ∀ u f, BK h0 u l fi fg (u1 ro 22 f) → post (.inl none) u) : ∀ (n : Nat) (i : Nat) (u : Hp) (f : Nat → Option Nat), 60 - i < n → (i ≤ 60 ∧ BK h0 u l fi fg (u1 ro 22 f)) → J mX9_init 3 (2 * (60 - i)) (104 * (60 - i)) post 75 [some (vr (some a)), some (vr (some sa)), some (vi (nI i))] [] u := by
  intro n
  induction n with
  | zero => intro i u f hlt; omega
  | succ n ih =>
    intro i u f hlt hinv
    obtain ⟨hi, B⟩ := hinv
    refine j_iload_n dX9_init_75 rfl ?_
    refine j_aload_n dX9_init_76 rfl ?_
    refine j_getR dX9_init_77 fl_X9_11 rfl (BK_k B ha rfl) (by rw [BK_o B ha]; exact hro) ?_
    refine j_alen dX9_init_80 (t := 8) (BK_k B h22 rfl) (by decide) ?_
    rw [BK_n (c := 60) B h22 rfl]
    refine j_icmp_ge 105 dX9_init_81 (by decide) (fun c_81 => ?_) (fun c_81 => ?_)
    · exact j_return dX9_init_105 rfl (fin _ _ B)
    · have hlt2 : i < 60 := by rw [nI_leI (by omega) (by omega)] at c_81; omega
      refine j_aload_n dX9_init_84 rfl ?_
      refine j_getR dX9_init_85 fl_X9_11 rfl (BK_k B ha rfl) (by rw [BK_o B ha]; exact hro) ?_
      refine j_iload_n dX9_init_88 rfl ?_
      refine j_mono (mc' := 2 * (60 - (i + 1)) + 1 + 1) (ms' := 104 * (60 - (i + 1)) + 100 + fnum 8) (by first | decide | omega) (by first | decide | (simp only [fnum]; omega)) ?_
      refine j_new dX9_init_89 cl_8 nl_X9_9 iw_8 zw_8 (fun q_89 hq_89 => ?_)
      refine j_dup dX9_init_92 rfl ?_
      refine j_bipush (v := 24) dX9_init_93 (by decide) ?_
      refine j_callI1 dX9_init_95 il_X9_17 (c_ini8 (n := 24) (by rw [hK_nw, if_pos rfl]) (by decide)) rfl (by decide) (by omega) (by omega) (Nat.le_of_ble_eq_true rfl) (fun v_95 u_95 p_95 => ?_)
      obtain ⟨rfl, q_95, hq_95, rfl⟩ := p_95
      dsimp only [rs]
      have k22 : hK (pO (nw (nw u q_89 9 0) q_95 14 24) q_89 0 (some q_95)) q1 = 22 ∧ hN (pO (nw (nw u q_89 9 0) q_95 14 24) q_89 0 (some q_95)) q1 = 60 := by
        have e1 := BK_k (c := 22) B h22 rfl
        have e2 := BK_n (c := 60) B h22 rfl
        have n1 : q1 ≠ q_89 := by rintro rfl; omega
        have n2 : q1 ≠ q_95 := by rintro rfl; rw [hK_nw, if_neg n1] at hq_95; omega
        rw [hK_pO, hK_nw, if_neg n2, hK_nw, if_neg n1, hN_pO, hN_nw, if_neg n2, hN_nw, if_neg n1]
        exact ⟨e1, e2⟩
      refine j_aast (t := 8) i dX9_init_98 k22.1 (by decide) (by decide) rfl (by rw [k22.2]; exact hlt2) (by rw [k22.2]; decide) (fun v hv => by cases hv; rw [hK_pO, hK_nw, if_neg (by rintro rfl; rw [hK_nw, if_pos rfl] at hq_95; omega), hK_nw, if_pos rfl]; rfl) ?_
      refine j_iinc dX9_init_99 rfl ?_
      dsimp only [st1, st2, unL, List.set]
      refine j_goto 75 dX9_init_102 (by decide) ?_
      have hS := BK_out B hq_89
      have F1 : Fr (fun b => b = q_89) u (pO (nw (nw u q_89 9 0) q_95 14 24) q_89 0 (some q_95)) := Fr_pO (Fr_nw (Fr_nw Fr_rf hq_89) hq_95) (Or.inl rfl)
      have B2 := BK_fr B F1 (fun p hp e => hS p hp e) (fun b e => by rw [e]; exact BK_h0 B hq_89)
      have B3 := BK_pO 22 q1 i (some q_89) B2 h22
      rw [u2_u1] at B3
      refine j_lle (lv' := [some (vr (some a)), some (vr (some sa)), some (vi (nI (i + 1)))]) (by simp [lle, nI_1]) ?_
      refine j_mono (mc' := 2 * (60 - (i + 1))) (ms' := 104 * (60 - (i + 1))) (by omega) (by omega) ?_
      exact ih (i + 1) _ _ (by omega) ⟨by omega, B3⟩

set_option maxRecDepth 20000 in
theorem c_ini9 {h0 h : Hp} {l : List (Nat × Nat)} {fi : Nat → Nat → Int32} {fg : Nat → Nat → Int64} {ro : Nat → Nat → Option Nat} {a : Nat} {sa : Nat} (B : BK h0 h l fi fg ro) (ha : (4, a) ∈ l) (n22 : 22 ∉ l.map Prod.fst) (n23 : 23 ∉ l.map Prod.fst) (n24 : 24 ∉ l.map Prod.fst) (n25 : 25 ∉ l.map Prod.fst) (n26 : 26 ∉ l.map Prod.fst) (n27 : 27 ∉ l.map Prod.fst) (n28 : 28 ∉ l.map Prod.fst) (n29 : 29 ∉ l.map Prod.fst) : Con mX9_init 3 129 10249 [vr (some a), vr (some sa)] h (fun v u => v = none ∧ ∃ q1 q2 q3 q4 q5 q6 q7 q8 f, BK h0 u ((29, q8) :: (28, q7) :: (27, q6) :: (26, q5) :: (25, q4) :: (24, q3) :: (23, q2) :: (22, q1) :: l) fi fg (u1 (u2 (u2 (u2 (u2 (u2 (u2 (u2 (u2 (u2 ro 4 1 (some q1)) 23 0 (some q3)) 4 2 (some q2)) 4 3 (some q4)) 4 4 (some q5)) 4 5 (some q6)) 4 6 (some q7)) 4 7 (some q8)) 4 0 (some sa)) 22 f)) := by
  have B9 := B
  refine con_of rfl (Nat.le_of_ble_eq_true rfl) (by decide) ?_
  show J mX9_init 3 129 10249 _ 0 [some (vr (some a)), some (vr (some sa)), none] [] h
  refine j_aload_n dX9_init_0 rfl ?_
  refine j_objInit dX9_init_1 ol_X9_3 ob_1 ob_2 (by decide) (Nat.le_of_ble_eq_true rfl) ?_
  refine j_aload_n dX9_init_4 rfl ?_
  refine j_bipush (v := 60) dX9_init_5 (by decide) ?_
  refine j_mono (mc' := 128 + 1) (ms' := 10189 + 60) (by omega) (by omega) ?_
  refine j_newQ (t := 8) (60) dX9_init_7 nl_X9_9 ao_8 (by decide) (fun _ => rfl) (by rfl) (by omega) (fun q_7 hq_7 => ?_)
  refine j_putOF dX9_init_10 fl_X9_11 rfl (fun _ _ q => by cases q; rfl) rfl (by first | exact BK_k B ha rfl | (rw [hK_nw, if_neg (by rintro rfl; have w := BK_k (c := 10) B ha rfl; omega)]; exact BK_k B ha rfl)) ?_
  replace B := BK_pO 4 a 1 (some q_7) (BK_new 22 q_7 22 60 B hq_7 rfl (by decide) rfl (by simpa using n22)) (List.mem_cons_of_mem _ ha)
  replace ha := List.mem_cons_of_mem (22, q_7) ha
  generalize pO (nw h q_7 22 60) a 1 (some q_7) = h_13 at B ⊢
  refine j_aload_n dX9_init_13 rfl ?_
  refine j_mono (mc' := 127 + 1) (ms' := 10185 + fnum 8) (by first | decide | omega) (by first | decide | (simp only [fnum]; omega)) ?_
  refine j_new dX9_init_14 cl_8 nl_X9_9 iw_8 zw_8 (fun q_14 hq_14 => ?_)
  refine j_dup dX9_init_17 rfl ?_
  refine j_iconst (v := 0) dX9_init_18 (by decide) ?_
  refine j_callI1 dX9_init_19 il_X9_17 (c_ini8 (n := 0) (by rw [hK_nw, if_pos rfl]) (by decide)) rfl (by decide) (by omega) (by omega) (Nat.le_of_ble_eq_true rfl) (fun v_19 u_19 p_19 => ?_)
  obtain ⟨rfl, q_19, hq_19, rfl⟩ := p_19
  replace B := BK_pO 23 q_14 0 (some q_19) (BK_new 24 q_19 14 0 (BK_new 23 q_14 9 0 B hq_14 rfl (by decide) rfl (by simpa using n23)) hq_19 rfl (by decide) rfl (by simpa using n24)) (by simp)
  replace ha := List.mem_cons_of_mem (24, q_19) (List.mem_cons_of_mem (23, q_14) ha)
  generalize pO (nw (nw h_13 q_14 9 0) q_19 14 0) q_14 0 (some q_19) = h_19 at B ⊢
  dsimp only [rs]
  refine j_putOF dX9_init_22 fl_X9_20 rfl (fun _ _ q => by cases q; rfl) rfl (by first | exact BK_k B ha rfl | (rw [hK_nw, if_neg (by rintro rfl; have w := BK_k (c := 10) B ha rfl; omega)]; exact BK_k B ha rfl)) ?_
  replace B := BK_pO 4 a 2 (some q_14) B ha
  generalize pO h_19 a 2 (some q_14) = h_25 at B ⊢
  refine j_aload_n dX9_init_25 rfl ?_
  refine j_sipush (v := 1600) dX9_init_26 (by decide) ?_
  refine j_mono (mc' := 125 + 1) (ms' := 8485 + 1600) (by omega) (by omega) ?_
  refine j_newJ (1600) dX9_init_29 ac_long (by rfl) (by omega) (fun q_29 hq_29 => ?_)
  refine j_putOF dX9_init_31 fl_X9_24 rfl (fun _ _ q => by cases q; rfl) rfl (by first | exact BK_k B ha rfl | (rw [hK_nw, if_neg (by rintro rfl; have w := BK_k (c := 10) B ha rfl; omega)]; exact BK_k B ha rfl)) ?_
  replace B := BK_pO 4 a 3 (some q_29) (BK_new 25 q_29 16 1600 B hq_29 rfl (by decide) rfl (by simpa using n25)) (List.mem_cons_of_mem _ ha)
  replace ha := List.mem_cons_of_mem (25, q_29) ha
  generalize pO (nw h_25 q_29 16 1600) a 3 (some q_29) = h_34 at B ⊢
  refine j_aload_n dX9_init_34 rfl ?_
  refine j_sipush (v := 1600) dX9_init_35 (by decide) ?_
  refine j_mono (mc' := 124 + 1) (ms' := 6885 + 1600) (by omega) (by omega) ?_
  refine j_newJ (1600) dX9_init_38 ac_long (by rfl) (by omega) (fun q_38 hq_38 => ?_)
  refine j_putOF dX9_init_40 fl_X9_28 rfl (fun _ _ q => by cases q; rfl) rfl (by first | exact BK_k B ha rfl | (rw [hK_nw, if_neg (by rintro rfl; have w := BK_k (c := 10) B ha rfl; omega)]; exact BK_k B ha rfl)) ?_
  replace B := BK_pO 4 a 4 (some q_38) (BK_new 26 q_38 16 1600 B hq_38 rfl (by decide) rfl (by simpa using n26)) (List.mem_cons_of_mem _ ha)
  replace ha := List.mem_cons_of_mem (26, q_38) ha
  generalize pO (nw h_34 q_38 16 1600) a 4 (some q_38) = h_43 at B ⊢
  refine j_aload_n dX9_init_43 rfl ?_
  refine j_iconst (v := 5) dX9_init_44 (by decide) ?_
  refine j_mono (mc' := 123 + 1) (ms' := 6880 + 5) (by omega) (by omega) ?_
  refine j_newJ (5) dX9_init_45 ac_long (by rfl) (by omega) (fun q_45 hq_45 => ?_)
  refine j_putOF dX9_init_47 fl_X9_31 rfl (fun _ _ q => by cases q; rfl) rfl (by first | exact BK_k B ha rfl | (rw [hK_nw, if_neg (by rintro rfl; have w := BK_k (c := 10) B ha rfl; omega)]; exact BK_k B ha rfl)) ?_
  replace B := BK_pO 4 a 5 (some q_45) (BK_new 27 q_45 16 5 B hq_45 rfl (by decide) rfl (by simpa using n27)) (List.mem_cons_of_mem _ ha)
  replace ha := List.mem_cons_of_mem (27, q_45) ha
  generalize pO (nw h_43 q_45 16 5) a 5 (some q_45) = h_50 at B ⊢
  refine j_aload_n dX9_init_50 rfl ?_
  refine j_sipush (v := 320) dX9_init_51 (by decide) ?_
  refine j_mono (mc' := 122 + 1) (ms' := 6560 + 320) (by omega) (by omega) ?_
  refine j_newI (320) dX9_init_54 ac_int (by rfl) (by omega) (fun q_54 hq_54 => ?_)
  refine j_putOF dX9_init_56 fl_X9_34 rfl (fun _ _ q => by cases q; rfl) rfl (by first | exact BK_k B ha rfl | (rw [hK_nw, if_neg (by rintro rfl; have w := BK_k (c := 10) B ha rfl; omega)]; exact BK_k B ha rfl)) ?_
  replace B := BK_pO 4 a 6 (some q_54) (BK_new 28 q_54 15 320 B hq_54 rfl (by decide) rfl (by simpa using n28)) (List.mem_cons_of_mem _ ha)
  replace ha := List.mem_cons_of_mem (28, q_54) ha
  generalize pO (nw h_50 q_54 15 320) a 6 (some q_54) = h_59 at B ⊢
  refine j_aload_n dX9_init_59 rfl ?_
  refine j_sipush (v := 320) dX9_init_60 (by decide) ?_
  refine j_mono (mc' := 121 + 1) (ms' := 6240 + 320) (by omega) (by omega) ?_
  refine j_newI (320) dX9_init_63 ac_int (by rfl) (by omega) (fun q_63 hq_63 => ?_)
  refine j_putOF dX9_init_65 fl_X9_38 rfl (fun _ _ q => by cases q; rfl) rfl (by first | exact BK_k B ha rfl | (rw [hK_nw, if_neg (by rintro rfl; have w := BK_k (c := 10) B ha rfl; omega)]; exact BK_k B ha rfl)) ?_
  replace B := BK_pO 4 a 7 (some q_63) (BK_new 29 q_63 15 320 B hq_63 rfl (by decide) rfl (by simpa using n29)) (List.mem_cons_of_mem _ ha)
  replace ha := List.mem_cons_of_mem (29, q_63) ha
  generalize pO (nw h_59 q_63 15 320) a 7 (some q_63) = h_68 at B ⊢
  refine j_aload_n dX9_init_68 rfl ?_
  refine j_aload_n dX9_init_69 rfl ?_
  refine j_putOF dX9_init_70 fl_X9_41 rfl (fun _ _ q => by cases q; rfl) rfl (BK_k B ha rfl) ?_
  replace B := BK_pO 4 a 0 (some sa) B ha
  generalize pO h_68 a 0 (some sa) = h_73 at B ⊢
  refine j_iconst (v := 0) dX9_init_73 (by decide) ?_
  refine j_istore_n dX9_init_74 (by decide) ?_
  dsimp only [st1, st2, unL, List.set]
  have r22 := (B9.2.1 22 n22).2.2
  have B0 := BK_ro (ro2 := u1 (u2 (u2 (u2 (u2 (u2 (u2 (u2 (u2 (u2 ro 4 1 (some q_7)) 23 0 (some q_19)) 4 2 (some q_14)) 4 3 (some q_29)) 4 4 (some q_38)) 4 5 (some q_45)) 4 6 (some q_54)) 4 7 (some q_63)) 4 0 (some sa)) 22 (fun _ => none)) B (u1_same _ 22 (by simp only [u2_n _ _ _ (show 22 ≠ 4 by decide), u2_n _ _ _ (show 22 ≠ 23 by decide)]; exact r22)).symm
  refine j_lle (lv' := [some (vr (some a)), some (vr (some sa)), some (vi (nI 0))]) (by simp [lle]; rfl) ?_
  refine j_mono (mc' := 2 * (60 - 0)) (ms' := 104 * (60 - 0)) (by decide) (by decide) ?_
  exact l_ini9 ha (by simp) rfl (fun u f B => ⟨rfl, q_7, q_14, q_19, q_29, q_38, q_45, q_54, q_63, f, B⟩) 61 0 _ _ (by omega) ⟨by omega, B0⟩

