/-! ===== a new object of the system: its constructor ===== -/
def crl : List (Nat × Nat × Nat) := [(0, 0, 1), (0, 1, 2), (0, 2, 3), (0, 3, 4), (0, 4, 5), (0, 5, 6), (0, 6, 7), (0, 7, 8), (0, 8, 9), (0, 9, 10), (1, 0, 11), (1, 1, 12), (1, 2, 13), (2, 0, 14), (2, 1, 15), (2, 2, 16), (16, 0, 17), (3, 0, 18), (3, 1, 19), (3, 2, 20), (3, 3, 21), (4, 0, 18), (4, 1, 22), (4, 2, 23), (23, 0, 24), (4, 3, 25), (4, 4, 26), (4, 5, 27), (4, 6, 28), (4, 7, 29), (5, 0, 30), (5, 1, 31), (6, 0, 32), (6, 1, 33), (7, 0, 34), (35, 0, 36), (35, 1, 37), (35, 2, 38), (18, 0, 35)]
def cil : List (Nat × Nat × Int32) := [(0, 10, 0), (0, 12, 0), (0, 13, -1), (0, 14, 0), (0, 15, 0), (0, 16, 8), (0, 17, 6), (1, 3, 0), (1, 4, 0), (1, 5, 0), (2, 3, 0), (3, 4, 1), (5, 2, 0), (6, 2, 0), (6, 3, 0), (7, 1, 0), (9, 0, 0), (9, 1, -1), (9, 2, -1), (9, 3, -1), (9, 4, -1), (9, 5, -1), (19, 0, -1), (20, 0, -1)]
/-- an object of the system as it is made: its cells b, its working sheet at w with cells at xw -/
def FC (h : Hp) (b : Nat → Nat) (w xw : Nat) : Prop :=
  (∀ k, k < 39 → hK h (b k) = ck k ∧ hN h (b k) = cn k) ∧ (∀ i j, i < 39 → j < 39 → b i = b j → i = j) ∧ (∀ t ∈ crl, hO h (b t.1) t.2.1 = some (b t.2.2)) ∧ (∀ t ∈ cil, hI h (b t.1) t.2.1 = t.2.2) ∧
  hG h (b 21) 0 = 1 ∧ (∀ j, j < 8 → hI h (b 36) j = nI (j + 1)) ∧ (∀ j, j < 6 → hI h (b 37) j = nI (j + 1)) ∧ hO h (b 0) 11 = some w ∧ hO h (b 35) 3 = none ∧ (∀ j, hO h (b 38) j = none) ∧
  Sh h w (b 36) (b 37) xw 8 6 ∧ hO h w 3 = none ∧ (∀ j, j < 48 → hO h xw j = none) ∧ (∀ k, k < 39 → b k ≠ w ∧ b k ≠ xw) ∧ hG h (b 7) 2 = 0
theorem fcK {h : Hp} {b : Nat → Nat} {w xw : Nat} (f : FC h b w xw) (k : Nat) {c : Nat} (hk : Nat.ble 39 k = false) (hc : ck k = c) : hK h (b k) = c := by rw [← hc]; exact (f.1 k (Nat.lt_of_not_le (fun w => by rw [Nat.ble_eq_true_of_le w] at hk; cases hk))).1
theorem fcN {h : Hp} {b : Nat → Nat} {w xw : Nat} (f : FC h b w xw) (k : Nat) {c : Nat} (hk : Nat.ble 39 k = false) (hc : cn k = c) : hN h (b k) = c := by rw [← hc]; exact (f.1 k (Nat.lt_of_not_le (fun w => by rw [Nat.ble_eq_true_of_le w] at hk; cases hk))).2
theorem fcO {h : Hp} {b : Nat → Nat} {w xw : Nat} (f : FC h b w xw) (k j k2 : Nat) (hm : (k, j, k2) ∈ crl) : hO h (b k) j = some (b k2) := f.2.2.1 _ hm
theorem fcI {h : Hp} {b : Nat → Nat} {w xw : Nat} (f : FC h b w xw) (k j : Nat) (v : Int32) (hm : (k, j, v) ∈ cil) : hI h (b k) j = v := f.2.2.2.1 _ hm
theorem fcNe {h : Hp} {b : Nat → Nat} {w xw : Nat} (f : FC h b w xw) {i j : Nat} (hi : Nat.ble 39 i = false) (hj : Nat.ble 39 j = false) (hij : (i == j) = false) : b i ≠ b j := fun e => by
  have h1 := f.2.1 i j (Nat.lt_of_not_le (fun w => by rw [Nat.ble_eq_true_of_le w] at hi; cases hi)) (Nat.lt_of_not_le (fun w => by rw [Nat.ble_eq_true_of_le w] at hj; cases hj)) e
  simp [h1] at hij
set_option maxRecDepth 20000 in
theorem l_ini11 {h : Hp} {a c : Nat} {post : Option Sv ⊕ String → Hp → Prop} (hk : hK h a = 12) (ho : hO h a 8 = some c) (hc : hK h c = 15) (hn : hN h c = 6) (fin : post (.inl none) (sI h c (ibr (hI h c) 6))) : ∀ (n : Nat) (i : Nat), 6 - i < n → (1 ≤ i ∧ i ≤ 6) → J mX11_init 5 0 0 post 172 [some (vr (some a)), none, some (vi (nI i))] [] (sI h c (ibr (hI h c) i)) := by
  intro n
  induction n with
  | zero => intro i hlt; omega
  | succ n ih =>
    intro i hlt hinv
    refine j_iload_n dX11_init_172 rfl ?_
    refine j_aload_n dX11_init_173 rfl ?_
    refine j_getR dX11_init_174 fl_X11_70 rfl hk ho ?_
    refine j_alen dX11_init_177 (t := 1) hc (by decide) ?_
    rw [show hN (sI h c (ibr (hI h c) i)) c = 6 from hn]
    refine j_icmp_ge 194 dX11_init_178 (by decide) (fun c_178 => ?_) (fun c_178 => ?_)
    · have he : i = 6 := by rw [nI_leI (by omega) (by omega)] at c_178; omega
      subst he
      exact j_return dX11_init_194 rfl fin
    · have hlt2 : i < 6 := by rw [nI_leI (by omega) (by omega)] at c_178; omega
      refine j_aload_n dX11_init_181 rfl ?_
      refine j_getR dX11_init_182 fl_X11_70 rfl hk ho ?_
      refine j_iload_n dX11_init_185 rfl ?_
      refine j_iconst (v := -1) dX11_init_186 (by decide) ?_
      refine j_iast i dX11_init_187 hc rfl (by show i < hN h c; omega) (by show hN h c < _; omega) ?_
      rw [pI_sI, ibr_s hinv.1]
      refine j_iinc dX11_init_188 rfl ?_
      dsimp only [st1, st2, unL, List.set]
      refine j_goto 172 dX11_init_191 (by decide) ?_
      refine j_lle (lv' := [some (vr (some a)), none, some (vi (nI (i + 1)))]) (by simp [lle, nI_1]) ?_
      exact ih (i + 1) (by omega) (by omega)

set_option maxHeartbeats 4000000 in
set_option maxRecDepth 20000 in
theorem c_init11 {h0 h : Hp} {a : Nat} (B : BK h0 h [(0, a)] (fun _ _ => 0) (fun _ _ => 0) (fun _ _ => none)) : Con mX11_init 5 200 20000 [vr (some a)] h (fun v u => v = none ∧ ∃ (b : Nat → Nat) (w xw : Nat), b 0 = a ∧ FC u b w xw ∧ Ex h0 u) := by
  refine con_of rfl (Nat.le_of_ble_eq_true rfl) (by decide) ?_
  show J mX11_init 5 200 20000 _ 0 [some (vr (some a)), none, none] [] h
  refine j_aload_n dX11_init_0 rfl ?_
  refine j_objInit dX11_init_1 ol_X11_1 ob_1 ob_2 (by decide) (Nat.le_of_ble_eq_true rfl) ?_
  refine j_aload_n dX11_init_4 rfl ?_
  refine j_mono (mc' := 199 + 1) (ms' := 19983 + fnum 5) (by first | decide | omega) (by first | decide | (simp only [fnum]; omega)) ?_
  refine j_new dX11_init_5 cl_5 nl_X11_7 iw_5 zw_5 (fun q_5 hq_5 => ?_)
  replace B := BK_new 1 q_5 6 0 B hq_5 rfl (by decide) rfl (by simp)
  generalize nw h q_5 6 0 = h_8 at B ⊢
  refine j_dup dX11_init_8 rfl ?_
  refine j_callIN0 dX11_init_9 inl_X11_9 (c_ini5 B (by simp) (by simp) (by simp) (by simp)) rfl (by decide) (by omega) (by omega) (Nat.le_of_ble_eq_true rfl) (fun v_9 u_9 p_9 => ?_)
  obtain ⟨rfl, a11, a12, a13, B⟩ := p_9
  dsimp only [rs]
  refine j_putOF dX11_init_12 fl_X11_10 rfl (fun _ _ q => by cases q; rfl) rfl (by first | exact BK_k (k := 0) B (by simp) rfl | exact BK_k (k := 3) B (by simp) rfl | exact BK_k (k := 35) B (by simp) rfl) ?_
  replace B := BK_pO 0 a 0 (some q_5) B (by simp)
  generalize pO u_9 a 0 (some q_5) = h_15 at B ⊢
  refine j_aload_n dX11_init_15 rfl ?_
  refine j_mono (mc' := 195 + 1) (ms' := 19176 + fnum 10) (by first | decide | omega) (by first | decide | (simp only [fnum]; omega)) ?_
  refine j_new dX11_init_16 cl_10 nl_X11_16 iw_10 zw_10 (fun q_16 hq_16 => ?_)
  replace B := BK_new 2 q_16 11 0 B hq_16 rfl (by decide) rfl (by simp)
  generalize nw h_15 q_16 11 0 = h_19 at B ⊢
  refine j_dup dX11_init_19 rfl ?_
  refine j_callIN0 dX11_init_20 inl_X11_18 (c_ini10 B (by simp) (by simp) (by simp) (by simp) (by simp)) rfl (by decide) (by omega) (by omega) (Nat.le_of_ble_eq_true rfl) (fun v_20 u_20 p_20 => ?_)
  obtain ⟨rfl, a14, a15, a16, a17, B⟩ := p_20
  dsimp only [rs]
  refine j_putOF dX11_init_23 fl_X11_19 rfl (fun _ _ q => by cases q; rfl) rfl (by first | exact BK_k (k := 0) B (by simp) rfl | exact BK_k (k := 3) B (by simp) rfl | exact BK_k (k := 35) B (by simp) rfl) ?_
  replace B := BK_pO 0 a 1 (some q_16) B (by simp)
  generalize pO u_20 a 1 (some q_16) = h_26 at B ⊢
  refine j_aload_n dX11_init_26 rfl ?_
  refine j_mono (mc' := 190 + 1) (ms' := 16607 + fnum 2) (by first | decide | omega) (by first | decide | (simp only [fnum]; omega)) ?_
  refine j_new dX11_init_27 cl_2 nl_X11_23 iw_2 zw_2 (fun q_27 hq_27 => ?_)
  replace B := BK_new 3 q_27 3 0 B hq_27 rfl (by decide) rfl (by simp)
  generalize nw h_26 q_27 3 0 = h_30 at B ⊢
  refine j_dup dX11_init_30 rfl ?_
  refine j_callIN0 dX11_init_31 inl_X11_25 (c_ini2 B (by simp) (by simp) (by simp) (by simp) (by simp)) rfl (by decide) (by omega) (by omega) (Nat.le_of_ble_eq_true rfl) (fun v_31 u_31 p_31 => ?_)
  obtain ⟨rfl, a18, a19, a20, a21, B⟩ := p_31
  dsimp only [rs]
  refine j_putOF dX11_init_34 fl_X11_26 rfl (fun _ _ q => by cases q; rfl) rfl (by first | exact BK_k (k := 0) B (by simp) rfl | exact BK_k (k := 3) B (by simp) rfl | exact BK_k (k := 35) B (by simp) rfl) ?_
  replace B := BK_pO 0 a 2 (some q_27) B (by simp)
  generalize pO u_31 a 2 (some q_27) = h_37 at B ⊢
  refine j_aload_n dX11_init_37 rfl ?_
  refine j_mono (mc' := 185 + 1) (ms' := 16426 + fnum 9) (by first | decide | omega) (by first | decide | (simp only [fnum]; omega)) ?_
  refine j_new dX11_init_38 cl_9 nl_X11_30 iw_9 zw_9 (fun q_38 hq_38 => ?_)
  replace B := BK_new 4 q_38 10 0 B hq_38 rfl (by decide) rfl (by simp)
  generalize nw h_37 q_38 10 0 = h_41 at B ⊢
  refine j_dup dX11_init_41 rfl ?_
  refine j_aload_n dX11_init_42 rfl ?_
  refine j_getR dX11_init_43 fl_X11_26 rfl (BK_k (k := 0) B (by simp) rfl) (by rw [BK_o (k := 0) B (by simp)]; rfl) ?_
  refine j_getR dX11_init_46 fl_X11_32 rfl (BK_k (k := 3) B (by simp) rfl) (by rw [BK_o (k := 3) B (by simp)]; rfl) ?_
  refine j_callI1 dX11_init_49 il_X11_36 (c_ini9 B (by simp) (by simp) (by simp) (by simp) (by simp) (by simp) (by simp) (by simp) (by simp)) rfl (by decide) (by omega) (by omega) (Nat.le_of_ble_eq_true rfl) (fun v_49 u_49 p_49 => ?_)
  obtain ⟨rfl, a22, a23, a24, a25, a26, a27, a28, a29, f22, B⟩ := p_49
  dsimp only [rs]
  refine j_putOF dX11_init_52 fl_X11_39 rfl (fun _ _ q => by cases q; rfl) rfl (by first | exact BK_k (k := 0) B (by simp) rfl | exact BK_k (k := 3) B (by simp) rfl | exact BK_k (k := 35) B (by simp) rfl) ?_
  replace B := BK_pO 0 a 3 (some q_38) B (by simp)
  generalize pO u_49 a 3 (some q_38) = h_55 at B ⊢
  refine j_aload_n dX11_init_55 rfl ?_
  refine j_mono (mc' := 55 + 1) (ms' := 6171 + fnum 3) (by first | decide | omega) (by first | decide | (simp only [fnum]; omega)) ?_
  refine j_new dX11_init_56 cl_3 nl_X11_43 iw_3 zw_3 (fun q_56 hq_56 => ?_)
  replace B := BK_new 5 q_56 4 0 B hq_56 rfl (by decide) rfl (by simp)
  generalize nw h_55 q_56 4 0 = h_59 at B ⊢
  refine j_dup dX11_init_59 rfl ?_
  refine j_callIN0 dX11_init_60 inl_X11_45 (c_ini3 B (by simp) (by simp) (by simp)) rfl (by decide) (by omega) (by omega) (Nat.le_of_ble_eq_true rfl) (fun v_60 u_60 p_60 => ?_)
  obtain ⟨rfl, a30, a31, B⟩ := p_60
  dsimp only [rs]
  refine j_putOF dX11_init_63 fl_X11_46 rfl (fun _ _ q => by cases q; rfl) rfl (by first | exact BK_k (k := 0) B (by simp) rfl | exact BK_k (k := 3) B (by simp) rfl | exact BK_k (k := 35) B (by simp) rfl) ?_
  replace B := BK_pO 0 a 4 (some q_56) B (by simp)
  generalize pO u_60 a 4 (some q_56) = h_66 at B ⊢
  refine j_aload_n dX11_init_66 rfl ?_
  refine j_mono (mc' := 52 + 1) (ms' := 5741 + fnum 7) (by first | decide | omega) (by first | decide | (simp only [fnum]; omega)) ?_
  refine j_new dX11_init_67 cl_7 nl_X11_50 iw_7 zw_7 (fun q_67 hq_67 => ?_)
  replace B := BK_new 6 q_67 8 0 B hq_67 rfl (by decide) rfl (by simp)
  generalize nw h_66 q_67 8 0 = h_70 at B ⊢
  refine j_dup dX11_init_70 rfl ?_
  refine j_callIN0 dX11_init_71 inl_X11_52 (c_ini7 B (by simp) (by simp) (by simp)) rfl (by decide) (by omega) (by omega) (Nat.le_of_ble_eq_true rfl) (fun v_71 u_71 p_71 => ?_)
  obtain ⟨rfl, a32, a33, B⟩ := p_71
  dsimp only [rs]
  refine j_putOF dX11_init_74 fl_X11_53 rfl (fun _ _ q => by cases q; rfl) rfl (by first | exact BK_k (k := 0) B (by simp) rfl | exact BK_k (k := 3) B (by simp) rfl | exact BK_k (k := 35) B (by simp) rfl) ?_
  replace B := BK_pO 0 a 5 (some q_67) B (by simp)
  generalize pO u_71 a 5 (some q_67) = h_77 at B ⊢
  refine j_aload_n dX11_init_77 rfl ?_
  refine j_mono (mc' := 49 + 1) (ms' := 5657 + fnum 8) (by first | decide | omega) (by first | decide | (simp only [fnum]; omega)) ?_
  refine j_new dX11_init_78 cl_8 nl_X11_57 iw_8 zw_8 (fun q_78 hq_78 => ?_)
  replace B := BK_new 7 q_78 9 0 B hq_78 rfl (by decide) rfl (by simp)
  generalize nw h_77 q_78 9 0 = h_81 at B ⊢
  refine j_dup dX11_init_81 rfl ?_
  refine j_iconst (v := 0) dX11_init_82 (by decide) ?_
  refine j_callI1 dX11_init_83 il_X11_59 (c_ini8 (n := 0) (BK_k (k := 7) B (by simp) rfl) (by decide)) rfl (by decide) (by omega) (by omega) (Nat.le_of_ble_eq_true rfl) (fun v_83 u_83 p_83 => ?_)
  obtain ⟨rfl, a34, hq34, rfl⟩ := p_83
  replace B := BK_pO 7 q_78 0 (some a34) (BK_new 34 a34 14 0 B hq34 rfl (by decide) rfl (by simp)) (by simp)
  generalize pO (nw h_81 a34 14 0) q_78 0 (some a34) = u_83 at B ⊢
  dsimp only [rs]
  refine j_putOF dX11_init_86 fl_X11_62 rfl (fun _ _ q => by cases q; rfl) rfl (by first | exact BK_k (k := 0) B (by simp) rfl | exact BK_k (k := 3) B (by simp) rfl | exact BK_k (k := 35) B (by simp) rfl) ?_
  replace B := BK_pO 0 a 6 (some q_78) B (by simp)
  generalize pO u_83 a 6 (some q_78) = h_89 at B ⊢
  refine j_aload_n dX11_init_89 rfl ?_
  refine j_sipush (v := 320) dX11_init_90 (by decide) ?_
  refine j_mono (mc' := 47 + 1) (ms' := 5237 + 320) (by omega) (by omega) ?_
  refine j_newQ (t := 8) (320) dX11_init_93 nl_X11_57 ao_8 (by decide) (fun _ => rfl) (by rfl) (by omega) (fun q_93 hq_93 => ?_)
  replace B := BK_new 8 q_93 22 320 B hq_93 rfl (by decide) rfl (by simp)
  generalize nw h_89 q_93 22 320 = h_96 at B ⊢
  refine j_putOF dX11_init_96 fl_X11_66 rfl (fun _ _ q => by cases q; rfl) rfl (by first | exact BK_k (k := 0) B (by simp) rfl | exact BK_k (k := 3) B (by simp) rfl | exact BK_k (k := 35) B (by simp) rfl) ?_
  replace B := BK_pO 0 a 7 (some q_93) B (by simp)
  generalize pO h_96 a 7 (some q_93) = h_99 at B ⊢
  refine j_aload_n dX11_init_99 rfl ?_
  refine j_bipush (v := 6) dX11_init_100 (by decide) ?_
  refine j_mono (mc' := 46 + 1) (ms' := 5231 + 6) (by omega) (by omega) ?_
  refine j_newI (6) dX11_init_102 ac_int (by rfl) (by omega) (fun q_102 hq_102 => ?_)
  replace B := BK_new 9 q_102 15 6 B hq_102 rfl (by decide) rfl (by simp)
  generalize nw h_99 q_102 15 6 = h_104 at B ⊢
  refine j_putOF dX11_init_104 fl_X11_70 rfl (fun _ _ q => by cases q; rfl) rfl (by first | exact BK_k (k := 0) B (by simp) rfl | exact BK_k (k := 3) B (by simp) rfl | exact BK_k (k := 35) B (by simp) rfl) ?_
  replace B := BK_pO 0 a 8 (some q_102) B (by simp)
  generalize pO h_104 a 8 (some q_102) = h_107 at B ⊢
  refine j_aload_n dX11_init_107 rfl ?_
  refine j_sipush (v := 1218) dX11_init_108 (by decide) ?_
  refine j_mono (mc' := 45 + 1) (ms' := 4013 + 1218) (by omega) (by omega) ?_
  refine j_newI (1218) dX11_init_111 ac_int (by rfl) (by omega) (fun q_111 hq_111 => ?_)
  replace B := BK_new 10 q_111 15 1218 B hq_111 rfl (by decide) rfl (by simp)
  generalize nw h_107 q_111 15 1218 = h_113 at B ⊢
  refine j_putOF dX11_init_113 fl_X11_74 rfl (fun _ _ q => by cases q; rfl) rfl (by first | exact BK_k (k := 0) B (by simp) rfl | exact BK_k (k := 3) B (by simp) rfl | exact BK_k (k := 35) B (by simp) rfl) ?_
  replace B := BK_pO 0 a 9 (some q_111) B (by simp)
  generalize pO h_113 a 9 (some q_111) = h_116 at B ⊢
  refine j_aload_n dX11_init_116 rfl ?_
  refine j_iconst (v := -1) dX11_init_117 (by decide) ?_
  refine j_putI dX11_init_118 fl_X11_77 rfl rfl rfl (by first | exact BK_k (k := 0) B (by simp) rfl | exact BK_k (k := 3) B (by simp) rfl | exact BK_k (k := 35) B (by simp) rfl) ?_
  replace B := BK_pI 0 a 13 (-1) B (by simp)
  generalize pI h_116 a 13 (-1) = h_121 at B ⊢
  refine j_aload_n dX11_init_121 rfl ?_
  refine j_bipush (v := 8) dX11_init_122 (by decide) ?_
  refine j_putI dX11_init_124 fl_X11_81 rfl rfl rfl (by first | exact BK_k (k := 0) B (by simp) rfl | exact BK_k (k := 3) B (by simp) rfl | exact BK_k (k := 35) B (by simp) rfl) ?_
  replace B := BK_pI 0 a 16 8 B (by simp)
  generalize pI h_121 a 16 8 = h_127 at B ⊢
  refine j_aload_n dX11_init_127 rfl ?_
  refine j_bipush (v := 6) dX11_init_128 (by decide) ?_
  refine j_putI dX11_init_130 fl_X11_84 rfl rfl rfl (by first | exact BK_k (k := 0) B (by simp) rfl | exact BK_k (k := 3) B (by simp) rfl | exact BK_k (k := 35) B (by simp) rfl) ?_
  replace B := BK_pI 0 a 17 6 B (by simp)
  generalize pI h_127 a 17 6 = h_133 at B ⊢
  refine j_mono (mc' := 44 + 1) (ms' := 4009 + fnum 6) (by first | decide | omega) (by first | decide | (simp only [fnum]; omega)) ?_
  refine j_new dX11_init_133 cl_6 nl_X11_87 iw_6 zw_6 (fun q_133 hq_133 => ?_)
  replace B := BK_new 35 q_133 7 0 B hq_133 rfl (by decide) rfl (by simp)
  generalize nw h_133 q_133 7 0 = h_136 at B ⊢
  refine j_dup dX11_init_136 rfl ?_
  refine j_bipush (v := 8) dX11_init_137 (by decide) ?_
  refine j_callS1 dX11_init_139 sl_X11_89 (c_countedUp (m := 8) (by decide)) rfl (by decide) (by omega) (by omega) (Nat.le_of_ble_eq_true rfl) (fun v_139 u_139 p_139 => ?_)
  obtain ⟨a36, hq36, rfl, rfl⟩ := p_139
  replace B := BK_sI 36 a36 (fun j => if j < 8 then nI (j + 1) else 0) (BK_new 36 a36 15 8 B hq36 rfl (by decide) rfl (by simp)) (by simp)
  generalize sI (nw h_136 a36 15 8) a36 (fun j => if j < 8 then nI (j + 1) else 0) = u_139 at B ⊢
  dsimp only [rs]
  refine j_bipush (v := 6) dX11_init_142 (by decide) ?_
  refine j_callS1 dX11_init_144 sl_X11_89 (c_countedUp (m := 6) (by decide)) rfl (by decide) (by omega) (by omega) (Nat.le_of_ble_eq_true rfl) (fun v_144 u_144 p_144 => ?_)
  obtain ⟨a37, hq37, rfl, rfl⟩ := p_144
  replace B := BK_sI 37 a37 (fun j => if j < 6 then nI (j + 1) else 0) (BK_new 37 a37 15 6 B hq37 rfl (by decide) rfl (by simp)) (by simp)
  generalize sI (nw u_139 a37 15 6) a37 (fun j => if j < 6 then nI (j + 1) else 0) = u_144 at B ⊢
  dsimp only [rs]
  refine j_callI2 dX11_init_147 il_X11_93 (c_shInit (nr := 8) (nc := 6) (BK_k (k := 35) B (by simp) rfl) (BK_k (k := 36) B (by simp) rfl) (BK_n (k := 36) B (by simp) rfl) (BK_k (k := 37) B (by simp) rfl) (BK_n (k := 37) B (by simp) rfl) (by decide) (by decide)) rfl (by decide) (by omega) (by omega) (Nat.le_of_ble_eq_true rfl) (fun v_147 u_147 p_147 => ?_)
  obtain ⟨rfl, a38, hq38, rfl⟩ := p_147
  replace B := BK_pO 35 q_133 2 (some a38) (BK_new 38 a38 19 (8 * 6) (BK_pO 35 q_133 1 (some a37) (BK_pO 35 q_133 0 (some a36) B (by simp)) (by simp)) (show hK u_144 a38 = 0 from hq38) rfl (by decide) rfl (by simp)) (by simp)
  generalize pO (nw (pO (pO u_144 q_133 0 (some a36)) q_133 1 (some a37)) a38 19 (8 * 6)) q_133 2 (some a38) = u_147 at B ⊢
  dsimp only [rs]
  refine j_astore_n dX11_init_150 (by decide) ?_
  dsimp only [st1, st2, unL, List.set]
  refine j_aload_n dX11_init_151 rfl ?_
  refine j_getR dX11_init_152 fl_X11_26 rfl (BK_k (k := 0) B (by simp) rfl) (by rw [BK_o (k := 0) B (by simp)]; rfl) ?_
  refine j_aload_n dX11_init_155 rfl ?_
  refine j_iconst (v := -1) dX11_init_156 (by decide) ?_
  refine j_iconst (v := -1) dX11_init_157 (by decide) ?_
  refine j_callV3 dX11_init_158 vl_X11_96 (c_logAdd (-1) (-1) (show Lg u_147 q_27 a18 a19 a20 a21 0 from ⟨BK_k (k := 3) B (by simp) rfl, ⟨(by rw [BK_o (k := 3) B (by simp)]; rfl), (by rw [BK_o (k := 3) B (by simp)]; rfl), (by rw [BK_o (k := 3) B (by simp)]; rfl), (by rw [BK_o (k := 3) B (by simp)]; rfl)⟩, ⟨BK_k (k := 18) B (by simp) rfl, BK_n (k := 18) B (by simp) rfl⟩, ⟨BK_k (k := 19) B (by simp) rfl, BK_n (k := 19) B (by simp) rfl⟩, ⟨BK_k (k := 20) B (by simp) rfl, BK_n (k := 20) B (by simp) rfl⟩, ⟨BK_k (k := 21) B (by simp) rfl, BK_n (k := 21) B (by simp) rfl⟩, (by rw [BK_i (k := 3) B (by simp)]; rfl), by decide⟩) (by decide) (BK_k (k := 35) B (by simp) rfl)) (by first | exact BK_k (k := 0) B (by simp) rfl | exact BK_k (k := 3) B (by simp) rfl | exact BK_k (k := 35) B (by simp) rfl) rfl (by decide) (by omega) (by omega) (Nat.le_of_ble_eq_true rfl) (fun v_158 u_158 p_158 => ?_)
  obtain ⟨rfl, rfl⟩ := p_158
  have an0 : (1 <<< ((nI 0).toInt64 &&& 63) ||| anV u_147 a21 0 (-1) ||| anV u_147 a21 0 (-1) : Int64) = 1 := by
    rw [show anV u_147 a21 0 (-1) = 0 from if_neg (by decide)]; decide
  rw [an0]
  replace B := BK_pI 3 q_27 4 (nI (0 + 1)) (BK_pG 21 a21 0 1 (BK_pI 20 a20 0 (-1) (BK_pI 19 a19 0 (-1) (BK_pO 18 a18 0 (some q_133) B (by simp)) (by simp)) (by simp)) (by simp)) (by simp)
  generalize pI (pG (pI (pI (pO u_147 a18 0 (some q_133)) a19 0 (-1)) a20 0 (-1)) a21 0 1) q_27 4 (nI (0 + 1)) = u_158 at B ⊢
  dsimp only [rs]
  refine j_pop dX11_init_161 rfl ?_
  refine j_aload_n dX11_init_162 rfl ?_
  refine j_aload_n dX11_init_163 rfl ?_
  refine j_callV0 dX11_init_164 vl_X11_100 (c_twin (show Sh u_158 q_133 a36 a37 a38 8 6 from ⟨BK_k (k := 35) B (by simp) rfl, (by rw [BK_o (k := 35) B (by simp)]; rfl), (by rw [BK_o (k := 35) B (by simp)]; rfl), (by rw [BK_o (k := 35) B (by simp)]; rfl), BK_k (k := 36) B (by simp) rfl, BK_n (k := 36) B (by simp) rfl, BK_k (k := 37) B (by simp) rfl, BK_n (k := 37) B (by simp) rfl, BK_k (k := 38) B (by simp) rfl, BK_n (k := 38) B (by simp) rfl, by decide, by decide, by decide, by decide⟩) (fun k v _ hv => by rw [BK_o (k := 38) B (by simp)] at hv; cases hv)) (by first | exact BK_k (k := 0) B (by simp) rfl | exact BK_k (k := 3) B (by simp) rfl | exact BK_k (k := 35) B (by simp) rfl) rfl (by decide) (by omega) (by omega) (Nat.le_of_ble_eq_true rfl) (fun v_164 u_164 p_164 => ?_)
  obtain ⟨w, xw, rfl, hw0, hxw0, hSw, hEx, hw3, hxw⟩ := p_164
  have nw1 := BK_out B hw0
  have nw2 := BK_out B hxw0
  have hx2 : ∀ j, j < 48 → hO u_164 xw j = none := fun j hj => (hxw j hj).trans (by rw [BK_o (k := 38) B (by simp)]; rfl)
  replace B := BK_ex B hEx
  dsimp only [rs]
  refine j_putO dX11_init_167 fl_X11_104 rfl (by first | exact BK_k (k := 0) B (by simp) rfl | exact BK_k (k := 3) B (by simp) rfl | exact BK_k (k := 35) B (by simp) rfl) ?_
  have hwa : a ≠ w := nw1 (0, a) (by simp)
  have hxa : a ≠ xw := nw2 (0, a) (by simp)
  replace B := BK_pO 0 a 11 (some w) B (by simp)
  replace hSw : Sh (pO u_164 a 11 (some w)) w a36 a37 xw 8 6 := by
    obtain ⟨s1, s2, s3, s4, s5⟩ := hSw
    exact ⟨s1, by rw [hO_pO, if_neg (fun e => hwa e.1.symm)]; exact s2, by rw [hO_pO, if_neg (fun e => hwa e.1.symm)]; exact s3, by rw [hO_pO, if_neg (fun e => hwa e.1.symm)]; exact s4, s5⟩
  replace hw3 : hO (pO u_164 a 11 (some w)) w 3 = none := by rw [hO_pO, if_neg (fun e => hwa e.1.symm)]; exact hw3
  replace hx2 : ∀ j, j < 48 → hO (pO u_164 a 11 (some w)) xw j = none := fun j hj => by rw [hO_pO, if_neg (fun e => hxa e.1.symm)]; exact hx2 j hj
  generalize pO u_164 a 11 (some w) = h_170 at B hSw hw3 hx2 ⊢
  refine j_iconst (v := 1) dX11_init_170 (by decide) ?_
  refine j_istore_n dX11_init_171 (by decide) ?_
  dsimp only [st1, st2, unL, List.set]
  refine j_lle (lv' := [some (vr (some a)), none, some (vi (nI 1))]) (by simp [lle]; rfl) ?_
  have z : sI h_170 q_102 (ibr (hI h_170 q_102) 1) = h_170 := by
    rw [show ibr (hI h_170 q_102) 1 = hI h_170 q_102 by funext j; rw [ibr, if_neg (by omega)], sI_self]
  refine j_mono (mc' := 0) (ms' := 0) (by omega) (by omega) ?_
  refine z ▸ l_ini11 (h := h_170) (c := q_102) (BK_k (k := 0) B (by simp) rfl) (by rw [BK_o (k := 0) B (by simp)]; rfl) (BK_k (k := 9) B (by simp) rfl) (BK_n (k := 9) B (by simp) rfl) ?_ 6 1 (by omega) (by omega)
  have i9 := BK_i (k := 9) (a := q_102) B (by simp)
  replace B := BK_sI 9 q_102 (ibr (hI h_170 q_102) 6) B (by simp)
  have n9w : q_102 ≠ w := nw1 (9, q_102) (by simp)
  have n9x : q_102 ≠ xw := nw2 (9, q_102) (by simp)
  have hF : Fr (fun b => b = q_102) h_170 (sI h_170 q_102 (ibr (hI h_170 q_102) 6)) := Fr_sI Fr_rf (Or.inl rfl)
  replace hSw : Sh (sI h_170 q_102 (ibr (hI h_170 q_102) 6)) w a36 a37 xw 8 6 := hSw
  replace hw3 : hO (sI h_170 q_102 (ibr (hI h_170 q_102) 6)) w 3 = none := hw3
  replace hx2 : ∀ j, j < 48 → hO (sI h_170 q_102 (ibr (hI h_170 q_102) 6)) xw j = none := hx2
  rw [show ibr (hI h_170 q_102) 6 = ibr (fun _ => 0) 6 by rw [i9]; rfl] at *
  generalize sI h_170 q_102 (ibr (fun _ => 0) 6) = u at B hSw hw3 hx2 ⊢
  have hin : ∀ k, k < 39 → (k, asl [(38, a38), (37, a37), (36, a36), (35, q_133), (10, q_111), (9, q_102), (8, q_93), (34, a34), (7, q_78), (33, a33), (32, a32), (6, q_67), (31, a31), (30, a30), (5, q_56), (29, a29), (28, a28), (27, a27), (26, a26), (25, a25), (24, a24), (23, a23), (22, a22), (4, q_38), (21, a21), (20, a20), (19, a19), (18, a18), (3, q_27), (17, a17), (16, a16), (15, a15), (14, a14), (2, q_16), (13, a13), (12, a12), (11, a11), (1, q_5), (0, a)] a k) ∈ [(38, a38), (37, a37), (36, a36), (35, q_133), (10, q_111), (9, q_102), (8, q_93), (34, a34), (7, q_78), (33, a33), (32, a32), (6, q_67), (31, a31), (30, a30), (5, q_56), (29, a29), (28, a28), (27, a27), (26, a26), (25, a25), (24, a24), (23, a23), (22, a22), (4, q_38), (21, a21), (20, a20), (19, a19), (18, a18), (3, q_27), (17, a17), (16, a16), (15, a15), (14, a14), (2, q_16), (13, a13), (12, a12), (11, a11), (1, q_5), (0, a)] := fun k hk => asl_in (by
    show k ∈ [38, 37, 36, 35, 10, 9, 8, 34, 7, 33, 32, 6, 31, 30, 5, 29, 28, 27, 26, 25, 24, 23, 22, 4, 21, 20, 19, 18, 3, 17, 16, 15, 14, 2, 13, 12, 11, 1, 0]
    have : ∀ k : Fin 39, (k : Nat) ∈ [38, 37, 36, 35, 10, 9, 8, 34, 7, 33, 32, 6, 31, 30, 5, 29, 28, 27, 26, 25, 24, 23, 22, 4, 21, 20, 19, 18, 3, 17, 16, 15, 14, 2, 13, 12, 11, 1, 0] := by decide
    exact this ⟨k, hk⟩)
  refine ⟨rfl, asl [(38, a38), (37, a37), (36, a36), (35, q_133), (10, q_111), (9, q_102), (8, q_93), (34, a34), (7, q_78), (33, a33), (32, a32), (6, q_67), (31, a31), (30, a30), (5, q_56), (29, a29), (28, a28), (27, a27), (26, a26), (25, a25), (24, a24), (23, a23), (22, a22), (4, q_38), (21, a21), (20, a20), (19, a19), (18, a18), (3, q_27), (17, a17), (16, a16), (15, a15), (14, a14), (2, q_16), (13, a13), (12, a12), (11, a11), (1, q_5), (0, a)] a, w, xw, rfl, ⟨fun k hk => ⟨BK_k B (hin k hk) rfl, BK_n B (hin k hk) rfl⟩, fun i j hi hj e => nd_inj B.1.2.1 (hin i hi) (by rw [e]; exact hin j hj), ?_, ?_, ?_, ?_, ?_, (show hO u a 11 = some w by rw [BK_o (k := 0) (a := a) B (by simp)]; rfl), ?_, fun j => ?_, hSw, hw3, hx2, fun k hk => ⟨nw1 _ (hin k hk), nw2 _ (hin k hk)⟩, ?_⟩, B.1.1⟩
  · unfold crl
    repeat' (refine List.forall_mem_cons.mpr ⟨?_, ?_⟩)
    all_goals first
      | (rw [BK_o B (hin _ (by decide))]; rfl)
      | (intro t ht; cases ht)
  · unfold cil
    repeat' (refine List.forall_mem_cons.mpr ⟨?_, ?_⟩)
    all_goals first
      | (rw [BK_i B (hin _ (by decide))]; rfl)
      | (intro t ht; cases ht)
  · show hG u a21 0 = 1
    rw [(B.2.2 (21, a21) (by simp)).2.2.2.2.1]; rfl
  · intro j hj
    show hI u a36 j = nI (j + 1)
    rw [BK_i (k := 36) B (by simp)]
    show (if j < 8 then nI (j + 1) else 0) = _
    rw [if_pos hj]
  · intro j hj
    show hI u a37 j = nI (j + 1)
    rw [BK_i (k := 37) B (by simp)]
    show (if j < 6 then nI (j + 1) else 0) = _
    rw [if_pos hj]
  · show hO u q_133 3 = none
    rw [BK_o (k := 35) B (by simp)]; rfl
  · show hO u a38 j = none
    rw [BK_o (k := 38) B (by simp)]; rfl
  · show hG u q_78 2 = 0
    rw [(B.2.2 (7, q_78) (by simp)).2.2.2.2.1]; rfl

