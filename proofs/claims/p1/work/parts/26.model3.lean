/-! ===== the model on a fresh object, more ===== -/
set_option maxRecDepth 20000 in
theorem c_alikeE {h : Hp} {g : Nat → Nat} (x : Int32) (hm : MW h g) : Con mX12_alike 1 0 0 [vr (some (g 0)), vi x, vi x] h (fun v u => u = h ∧ v = some (vi (1))) := by
  refine con_of rfl (Nat.le_of_ble_eq_true rfl) (by decide) ?_
  show J mX12_alike 1 0 0 _ 0 [some (vr (some (g 0))), some (vi x), some (vi x), none, none, none] [] h
  refine j_iload_n dX12_alike_0 rfl ?_
  refine j_iload_n dX12_alike_1 rfl ?_
  refine j_icmp_ne 7 dX12_alike_2 (by decide) (fun c_2 => ?_) (fun c_2 => ?_)
  · exact absurd rfl c_2
  · refine j_iconst (v := 1) dX12_alike_5 (by decide) ?_
    exact j_ireturn dX12_alike_6 rfl rfl (⟨rfl, rfl⟩)

set_option maxRecDepth 20000 in
theorem l_isLike0 {h : Hp} {g : Nat → Nat} {s t n0 : Nat} (hm : MW h g) (hs : s < 122) (ht : t < 122) (hr : hI h (g 1) s = nI n0) (hr2 : hI h (g 1) t = nI n0) (hn : n0 ≤ 32) (hl : ∀ k, k < n0 → hI h (g 3) (32 * s + k) = hI h (g 3) (32 * t + k)) : ∀ (n : Nat) (i : Nat), n0 - i < n → i ≤ n0 → J mX12_isLike_ 2 0 0 (nx (fun v u => u = h ∧ v = some (vi (1)))) 25 [some (vr (some (g 0))), some (vi (nI s)), some (vi (nI t)), some (vi 0), some (vi 1), some (vi (nI i))] [] h := by
  intro n
  induction n with
  | zero => intro i hlt; omega
  | succ n ih =>
    intro i hlt hinv
    refine j_iload dX12_isLike__25 rfl ?_
    refine j_aload_n dX12_isLike__27 rfl ?_
    refine j_iload_n dX12_isLike__28 rfl ?_
    refine j_iload_n dX12_isLike__29 rfl ?_
    refine j_callV2 dX12_isLike__30 vl_X12_209 (c_linesOf0 s hs hm) hm.1 rfl (by decide) (by omega) (by omega) (Nat.le_of_ble_eq_true rfl) (fun v_30 u_30 p_30 => ?_)
    obtain ⟨e_30, rfl⟩ := p_30
    rw [e_30]
    clear e_30
    dsimp only [rs]
    rw [hr]
    refine j_icmp_ge 73 dX12_isLike__33 (by decide) (fun c_33 => ?_) (fun c_33 => ?_)
    · skip
      refine j_iload dX12_isLike__73 rfl ?_
      exact j_ireturn dX12_isLike__75 rfl rfl (⟨rfl, rfl⟩)
    · have hlt2 : i < n0 := by rw [nI_leI (by omega) (by omega)] at c_33; omega
      refine j_iload dX12_isLike__36 rfl ?_
      refine j_if_eq 73 dX12_isLike__38 (by decide) (fun c_38 => ?_) (fun c_38 => ?_)
      · skip
        refine j_iload dX12_isLike__73 rfl ?_
        exact j_ireturn dX12_isLike__75 rfl rfl (⟨rfl, rfl⟩)
      · refine j_aload_n dX12_isLike__41 rfl ?_
        refine j_iload_n dX12_isLike__42 rfl ?_
        refine j_iload_n dX12_isLike__43 rfl ?_
        refine j_iload dX12_isLike__44 rfl ?_
        refine j_callV3 dX12_isLike__46 vl_X12_213 (c_lineAt0 s hs i (by omega) hm) hm.1 rfl (by decide) (by omega) (by omega) (Nat.le_of_ble_eq_true rfl) (fun v_46 u_46 p_46 => ?_)
        obtain ⟨e_46, rfl⟩ := p_46
        rw [e_46]
        clear e_46
        dsimp only [rs]
        refine j_aload_n dX12_isLike__49 rfl ?_
        refine j_iload_n dX12_isLike__50 rfl ?_
        refine j_iload_n dX12_isLike__51 rfl ?_
        refine j_iload dX12_isLike__52 rfl ?_
        refine j_callV3 dX12_isLike__54 vl_X12_213 (c_lineAt0 t ht i (by omega) hm) hm.1 rfl (by decide) (by omega) (by omega) (Nat.le_of_ble_eq_true rfl) (fun v_54 u_54 p_54 => ?_)
        obtain ⟨e_54, rfl⟩ := p_54
        rw [e_54]
        clear e_54
        dsimp only [rs]
        refine j_icmp_ne 64 dX12_isLike__57 (by decide) (fun c_57 => ?_) (fun c_57 => ?_)
        · exact absurd (hl i hlt2) c_57
        · refine j_iconst (v := 1) dX12_isLike__60 (by decide) ?_
          refine j_goto 65 dX12_isLike__61 (by decide) ?_
          refine j_istore dX12_isLike__65 (by decide) ?_
          dsimp only [st1, st2, unL, List.set]
          refine j_iinc dX12_isLike__67 rfl ?_
          dsimp only [st1, st2, unL, List.set]
          refine j_goto 25 dX12_isLike__70 (by decide) ?_
          refine j_lle (lv' := [some (vr (some (g 0))), some (vi (nI s)), some (vi (nI t)), some (vi 0), some (vi 1), some (vi (nI (i + 1)))]) (by simp [lle, nI_1]) ?_
          exact ih (i + 1) (by omega) (by omega)

set_option maxRecDepth 20000 in
theorem c_isLike0 {h : Hp} {g : Nat → Nat} {s t n0 : Nat} (hm : MW h g) (hs : s < 122) (ht : t < 122) (hr : hI h (g 1) s = nI n0) (hr2 : hI h (g 1) t = nI n0) (hn : n0 ≤ 32) (hl : ∀ k, k < n0 → hI h (g 3) (32 * s + k) = hI h (g 3) (32 * t + k)) : Con mX12_isLike_ 2 0 0 [vr (some (g 0)), vi (nI s), vi (nI t), vi 0] h (fun v u => u = h ∧ v = some (vi (1))) := by
  refine con_of rfl (Nat.le_of_ble_eq_true rfl) (by decide) ?_
  show J mX12_isLike_ 2 0 0 _ 0 [some (vr (some (g 0))), some (vi (nI s)), some (vi (nI t)), some (vi 0), none, none] [] h
  refine j_aload_n dX12_isLike__0 rfl ?_
  refine j_iload_n dX12_isLike__1 rfl ?_
  refine j_iload_n dX12_isLike__2 rfl ?_
  refine j_callV2 dX12_isLike__3 vl_X12_209 (c_linesOf0 s hs hm) hm.1 rfl (by decide) (by omega) (by omega) (Nat.le_of_ble_eq_true rfl) (fun v_3 u_3 p_3 => ?_)
  obtain ⟨e_3, rfl⟩ := p_3
  rw [e_3]
  clear e_3
  dsimp only [rs]
  refine j_aload_n dX12_isLike__6 rfl ?_
  refine j_iload_n dX12_isLike__7 rfl ?_
  refine j_iload_n dX12_isLike__8 rfl ?_
  refine j_callV2 dX12_isLike__9 vl_X12_209 (c_linesOf0 t ht hm) hm.1 rfl (by decide) (by omega) (by omega) (Nat.le_of_ble_eq_true rfl) (fun v_9 u_9 p_9 => ?_)
  obtain ⟨e_9, rfl⟩ := p_9
  rw [e_9]
  clear e_9
  dsimp only [rs]
  refine j_icmp_ne 19 dX12_isLike__12 (by decide) (fun c_12 => ?_) (fun c_12 => ?_)
  · exact absurd (hr.trans hr2.symm) c_12
  · refine j_iconst (v := 1) dX12_isLike__15 (by decide) ?_
    refine j_goto 20 dX12_isLike__16 (by decide) ?_
    refine j_istore dX12_isLike__20 (by decide) ?_
    dsimp only [st1, st2, unL, List.set]
    refine j_iconst (v := 0) dX12_isLike__22 (by decide) ?_
    refine j_istore dX12_isLike__23 (by decide) ?_
    dsimp only [st1, st2, unL, List.set]
    refine j_lle (lv' := [some (vr (some (g 0))), some (vi (nI s)), some (vi (nI t)), some (vi 0), some (vi 1), some (vi (nI 0))]) (by simp [lle]; rfl) ?_
    exact l_isLike0 hm hs ht hr hr2 hn hl (n0 + 1) 0 (by omega) (by omega)

set_option maxRecDepth 20000 in
theorem l_isLike1 {h : Hp} {g : Nat → Nat} {s t n0 : Nat} (hm : MW h g) (hs : s < 122) (ht : t < 122) (hr : hI h (g 2) s = nI n0) (hr2 : hI h (g 2) t = nI n0) (hn : n0 ≤ 10) (hl : ∀ k, k < n0 → hI h (g 4) (10 * s + k) = hI h (g 4) (10 * t + k)) : ∀ (n : Nat) (i : Nat), n0 - i < n → i ≤ n0 → J mX12_isLike_ 2 0 0 (nx (fun v u => u = h ∧ v = some (vi (1)))) 25 [some (vr (some (g 0))), some (vi (nI s)), some (vi (nI t)), some (vi 1), some (vi 1), some (vi (nI i))] [] h := by
  intro n
  induction n with
  | zero => intro i hlt; omega
  | succ n ih =>
    intro i hlt hinv
    refine j_iload dX12_isLike__25 rfl ?_
    refine j_aload_n dX12_isLike__27 rfl ?_
    refine j_iload_n dX12_isLike__28 rfl ?_
    refine j_iload_n dX12_isLike__29 rfl ?_
    refine j_callV2 dX12_isLike__30 vl_X12_209 (c_linesOf1 s hs hm) hm.1 rfl (by decide) (by omega) (by omega) (Nat.le_of_ble_eq_true rfl) (fun v_30 u_30 p_30 => ?_)
    obtain ⟨e_30, rfl⟩ := p_30
    rw [e_30]
    clear e_30
    dsimp only [rs]
    rw [hr]
    refine j_icmp_ge 73 dX12_isLike__33 (by decide) (fun c_33 => ?_) (fun c_33 => ?_)
    · skip
      refine j_iload dX12_isLike__73 rfl ?_
      exact j_ireturn dX12_isLike__75 rfl rfl (⟨rfl, rfl⟩)
    · have hlt2 : i < n0 := by rw [nI_leI (by omega) (by omega)] at c_33; omega
      refine j_iload dX12_isLike__36 rfl ?_
      refine j_if_eq 73 dX12_isLike__38 (by decide) (fun c_38 => ?_) (fun c_38 => ?_)
      · skip
        refine j_iload dX12_isLike__73 rfl ?_
        exact j_ireturn dX12_isLike__75 rfl rfl (⟨rfl, rfl⟩)
      · refine j_aload_n dX12_isLike__41 rfl ?_
        refine j_iload_n dX12_isLike__42 rfl ?_
        refine j_iload_n dX12_isLike__43 rfl ?_
        refine j_iload dX12_isLike__44 rfl ?_
        refine j_callV3 dX12_isLike__46 vl_X12_213 (c_lineAt1 s hs i (by omega) hm) hm.1 rfl (by decide) (by omega) (by omega) (Nat.le_of_ble_eq_true rfl) (fun v_46 u_46 p_46 => ?_)
        obtain ⟨e_46, rfl⟩ := p_46
        rw [e_46]
        clear e_46
        dsimp only [rs]
        refine j_aload_n dX12_isLike__49 rfl ?_
        refine j_iload_n dX12_isLike__50 rfl ?_
        refine j_iload_n dX12_isLike__51 rfl ?_
        refine j_iload dX12_isLike__52 rfl ?_
        refine j_callV3 dX12_isLike__54 vl_X12_213 (c_lineAt1 t ht i (by omega) hm) hm.1 rfl (by decide) (by omega) (by omega) (Nat.le_of_ble_eq_true rfl) (fun v_54 u_54 p_54 => ?_)
        obtain ⟨e_54, rfl⟩ := p_54
        rw [e_54]
        clear e_54
        dsimp only [rs]
        refine j_icmp_ne 64 dX12_isLike__57 (by decide) (fun c_57 => ?_) (fun c_57 => ?_)
        · exact absurd (hl i hlt2) c_57
        · refine j_iconst (v := 1) dX12_isLike__60 (by decide) ?_
          refine j_goto 65 dX12_isLike__61 (by decide) ?_
          refine j_istore dX12_isLike__65 (by decide) ?_
          dsimp only [st1, st2, unL, List.set]
          refine j_iinc dX12_isLike__67 rfl ?_
          dsimp only [st1, st2, unL, List.set]
          refine j_goto 25 dX12_isLike__70 (by decide) ?_
          refine j_lle (lv' := [some (vr (some (g 0))), some (vi (nI s)), some (vi (nI t)), some (vi 1), some (vi 1), some (vi (nI (i + 1)))]) (by simp [lle, nI_1]) ?_
          exact ih (i + 1) (by omega) (by omega)

set_option maxRecDepth 20000 in
theorem c_isLike1 {h : Hp} {g : Nat → Nat} {s t n0 : Nat} (hm : MW h g) (hs : s < 122) (ht : t < 122) (hr : hI h (g 2) s = nI n0) (hr2 : hI h (g 2) t = nI n0) (hn : n0 ≤ 10) (hl : ∀ k, k < n0 → hI h (g 4) (10 * s + k) = hI h (g 4) (10 * t + k)) : Con mX12_isLike_ 2 0 0 [vr (some (g 0)), vi (nI s), vi (nI t), vi 1] h (fun v u => u = h ∧ v = some (vi (1))) := by
  refine con_of rfl (Nat.le_of_ble_eq_true rfl) (by decide) ?_
  show J mX12_isLike_ 2 0 0 _ 0 [some (vr (some (g 0))), some (vi (nI s)), some (vi (nI t)), some (vi 1), none, none] [] h
  refine j_aload_n dX12_isLike__0 rfl ?_
  refine j_iload_n dX12_isLike__1 rfl ?_
  refine j_iload_n dX12_isLike__2 rfl ?_
  refine j_callV2 dX12_isLike__3 vl_X12_209 (c_linesOf1 s hs hm) hm.1 rfl (by decide) (by omega) (by omega) (Nat.le_of_ble_eq_true rfl) (fun v_3 u_3 p_3 => ?_)
  obtain ⟨e_3, rfl⟩ := p_3
  rw [e_3]
  clear e_3
  dsimp only [rs]
  refine j_aload_n dX12_isLike__6 rfl ?_
  refine j_iload_n dX12_isLike__7 rfl ?_
  refine j_iload_n dX12_isLike__8 rfl ?_
  refine j_callV2 dX12_isLike__9 vl_X12_209 (c_linesOf1 t ht hm) hm.1 rfl (by decide) (by omega) (by omega) (Nat.le_of_ble_eq_true rfl) (fun v_9 u_9 p_9 => ?_)
  obtain ⟨e_9, rfl⟩ := p_9
  rw [e_9]
  clear e_9
  dsimp only [rs]
  refine j_icmp_ne 19 dX12_isLike__12 (by decide) (fun c_12 => ?_) (fun c_12 => ?_)
  · exact absurd (hr.trans hr2.symm) c_12
  · refine j_iconst (v := 1) dX12_isLike__15 (by decide) ?_
    refine j_goto 20 dX12_isLike__16 (by decide) ?_
    refine j_istore dX12_isLike__20 (by decide) ?_
    dsimp only [st1, st2, unL, List.set]
    refine j_iconst (v := 0) dX12_isLike__22 (by decide) ?_
    refine j_istore dX12_isLike__23 (by decide) ?_
    dsimp only [st1, st2, unL, List.set]
    refine j_lle (lv' := [some (vr (some (g 0))), some (vi (nI s)), some (vi (nI t)), some (vi 1), some (vi 1), some (vi (nI 0))]) (by simp [lle]; rfl) ?_
    exact l_isLike1 hm hs ht hr hr2 hn hl (n0 + 1) 0 (by omega) (by omega)

set_option maxRecDepth 20000 in
theorem l_isLikeH {h : Hp} {g : Nat → Nat} (hf : FM h g) : ∀ (n : Nat) (i : Nat), 320 - i < n → i ≤ 320 → J mX12_isLikeHead 3 0 0 (nx (fun v u => u = h ∧ v = some (vi (1)))) 31 [some (vr (some (g 0))), some (vi 0), some (vi (nI i)), none] [] h := by
  intro n
  induction n with
  | zero => intro i hlt; omega
  | succ n ih =>
    intro i hlt hinv
    obtain ⟨hm, z0, z1, z2, z3, z4, z5, z9, z10, z11, z64⟩ := id hf
    refine j_iload_n dX12_isLikeHead_31 rfl ?_
    refine j_sipush (v := 320) dX12_isLikeHead_32 (by decide) ?_
    refine j_icmp_ge 111 dX12_isLikeHead_35 (by decide) (fun c_35 => ?_) (fun c_35 => ?_)
    · refine j_iconst (v := 1) dX12_isLikeHead_111 (by decide) ?_
      exact j_ireturn dX12_isLikeHead_112 rfl rfl (⟨rfl, rfl⟩)
    · have hlt2 : i < 320 := by rw [li_320, nI_leI (by omega) (by omega)] at c_35; omega
      refine j_iload_n dX12_isLikeHead_38 rfl ?_
      refine j_bipush (v := 10) dX12_isLikeHead_39 (by decide) ?_
      refine j_idiv dX12_isLikeHead_41 (by decide) ?_
      refine j_aload_n dX12_isLikeHead_42 rfl ?_
      refine j_getR dX12_isLikeHead_43 fl_X12_7 rfl hm.1 (mO hm rfl) ?_
      refine j_iload_n dX12_isLikeHead_46 rfl ?_
      refine j_iald 0 dX12_isLikeHead_47 (mK hm rfl) rfl (Nat.lt_of_lt_of_eq (by decide) (mN hm (k := 1) (n := 122) rfl rfl).symm) (Nat.lt_of_le_of_lt (Nat.le_of_eq (mN hm (k := 1) (n := 122) rfl rfl)) (by decide)) ?_
      refine j_icmp_ge 68 dX12_isLikeHead_48 (by decide) (fun c_48 => ?_) (fun c_48 => ?_)
      · refine j_iconst (v := 0) dX12_isLikeHead_68 (by decide) ?_
        refine j_istore_n dX12_isLikeHead_69 (by decide) ?_
        dsimp only [st1, st2, unL, List.set]
        refine j_iload_n dX12_isLikeHead_70 rfl ?_
        refine j_if_eq 105 dX12_isLikeHead_71 (by decide) (fun c_71 => ?_) (fun c_71 => ?_)
        · refine j_iinc dX12_isLikeHead_105 rfl ?_
          dsimp only [st1, st2, unL, List.set]
          refine j_goto 31 dX12_isLikeHead_108 (by decide) ?_
          refine j_lle (lv' := [some (vr (some (g 0))), some (vi 0), some (vi (nI (i + 1))), none]) (by simp [lle, nI_1]) ?_
          exact ih (i + 1) (by omega) (by omega)
        · exact absurd (by decide) c_71
      · refine j_iload_n dX12_isLikeHead_51 rfl ?_
        refine j_bipush (v := 10) dX12_isLikeHead_52 (by decide) ?_
        refine j_irem dX12_isLikeHead_54 (by decide) ?_
        refine j_aload_n dX12_isLikeHead_55 rfl ?_
        refine j_getR dX12_isLikeHead_56 fl_X12_13 rfl hm.1 (mO hm rfl) ?_
        refine j_iload_n dX12_isLikeHead_59 rfl ?_
        refine j_iald 0 dX12_isLikeHead_60 (mK hm rfl) rfl (Nat.lt_of_lt_of_eq (by decide) (mN hm (k := 2) (n := 122) rfl rfl).symm) (Nat.lt_of_le_of_lt (Nat.le_of_eq (mN hm (k := 2) (n := 122) rfl rfl)) (by decide)) ?_
        refine j_icmp_ge 68 dX12_isLikeHead_61 (by decide) (fun c_61 => ?_) (fun c_61 => ?_)
        · refine j_iconst (v := 0) dX12_isLikeHead_68 (by decide) ?_
          refine j_istore_n dX12_isLikeHead_69 (by decide) ?_
          dsimp only [st1, st2, unL, List.set]
          refine j_iload_n dX12_isLikeHead_70 rfl ?_
          refine j_if_eq 105 dX12_isLikeHead_71 (by decide) (fun c_71 => ?_) (fun c_71 => ?_)
          · refine j_iinc dX12_isLikeHead_105 rfl ?_
            dsimp only [st1, st2, unL, List.set]
            refine j_goto 31 dX12_isLikeHead_108 (by decide) ?_
            refine j_lle (lv' := [some (vr (some (g 0))), some (vi 0), some (vi (nI (i + 1))), none]) (by simp [lle, nI_1]) ?_
            exact ih (i + 1) (by omega) (by omega)
          · exact absurd (by decide) c_71
        · refine j_iconst (v := 1) dX12_isLikeHead_64 (by decide) ?_
          refine j_goto 69 dX12_isLikeHead_65 (by decide) ?_
          refine j_istore_n dX12_isLikeHead_69 (by decide) ?_
          dsimp only [st1, st2, unL, List.set]
          refine j_iload_n dX12_isLikeHead_70 rfl ?_
          refine j_if_eq 105 dX12_isLikeHead_71 (by decide) (fun c_71 => ?_) (fun c_71 => ?_)
          · exact absurd c_71 (by decide)
          · refine j_aload_n dX12_isLikeHead_74 rfl ?_
            refine j_aload_n dX12_isLikeHead_75 rfl ?_
            refine j_getR dX12_isLikeHead_76 fl_X12_23 rfl hm.1 (mO hm rfl) ?_
            refine j_sipush (v := nI 12800) dX12_isLikeHead_79 (by decide) ?_
            refine j_iload_n dX12_isLikeHead_82 rfl ?_
            refine j_iadd dX12_isLikeHead_83 ?_
            refine j_iald _ dX12_isLikeHead_84 (mK hm rfl) (by first | with_reducible rfl | (simp (disch := omega) only [li_1, li_2, li_3, li_4, li_5, li_6, li_7, li_8, li_10, li_20, li_24, li_32, li_40, li_64, li_320, li_39, li_41, li_81, li_121, li_100000, pk_sub, pk_mul, nI_add, inc1, dec1]; with_reducible rfl)) (Nat.lt_of_lt_of_eq (by omega) (mN hm (k := 5) (n := 39040) rfl rfl).symm) (Nat.lt_of_le_of_lt (Nat.le_of_eq (mN hm (k := 5) (n := 39040) rfl rfl)) (by decide)) ?_
            refine j_aload_n dX12_isLikeHead_85 rfl ?_
            refine j_getR dX12_isLikeHead_86 fl_X12_23 rfl hm.1 (mO hm rfl) ?_
            refine j_sipush (v := 320) dX12_isLikeHead_89 (by decide) ?_
            refine j_iload_n dX12_isLikeHead_92 rfl ?_
            refine j_imul dX12_isLikeHead_93 ?_
            refine j_iload_n dX12_isLikeHead_94 rfl ?_
            refine j_iadd dX12_isLikeHead_95 ?_
            refine j_iald i dX12_isLikeHead_96 (mK hm rfl) (by rw [show (0 : Int32) = nI 0 from rfl, show (320 : Int32) = nI 320 from rfl, pk_mul, nI_add]; congr 1; omega) (Nat.lt_of_lt_of_eq (by omega) (mN hm (k := 5) (n := 39040) rfl rfl).symm) (Nat.lt_of_le_of_lt (Nat.le_of_eq (mN hm (k := 5) (n := 39040) rfl rfl)) (by decide)) ?_
            rw [z5]
            refine j_callV2 dX12_isLikeHead_97 vl_X12_865 (c_alikeE 0 hm) hm.1 rfl (by decide) (by omega) (by omega) (Nat.le_of_ble_eq_true rfl) (fun v_97 u_97 p_97 => ?_)
            obtain ⟨e_97, rfl⟩ := p_97
            rw [e_97]
            clear e_97
            dsimp only [rs]
            refine j_if_ne 105 dX12_isLikeHead_100 (by decide) (fun c_100 => ?_) (fun c_100 => ?_)
            · refine j_iinc dX12_isLikeHead_105 rfl ?_
              dsimp only [st1, st2, unL, List.set]
              refine j_goto 31 dX12_isLikeHead_108 (by decide) ?_
              refine j_lle (lv' := [some (vr (some (g 0))), some (vi 0), some (vi (nI (i + 1))), none]) (by simp [lle, nI_1]) ?_
              exact ih (i + 1) (by omega) (by omega)
            · exact absurd (by decide) c_100

set_option maxRecDepth 20000 in
theorem e_isLikeHead {h : Hp} {g : Nat → Nat} (hf : FM h g) : Con mX12_isLikeHead 3 0 0 [vr (some (g 0))] h (fun v u => u = h ∧ v = some (vi (1))) := by
  obtain ⟨hm, z0, z1, z2, z3, z4, z5, z9, z10, z11, z64⟩ := id hf
  refine con_of rfl (Nat.le_of_ble_eq_true rfl) (by decide) ?_
  show J mX12_isLikeHead 3 0 0 _ 0 [some (vr (some (g 0))), none, none, none] [] h
  refine j_aload_n dX12_isLikeHead_0 rfl ?_
  refine j_callV0 dX12_isLikeHead_1 vl_X12_860 (c_head12 0 (fmI z0 12 rfl) (by decide) hm) hm.1 rfl (by decide) (by omega) (by omega) (Nat.le_of_ble_eq_true rfl) (fun v_1 u_1 p_1 => ?_)
  obtain ⟨e_1, rfl⟩ := p_1
  rw [e_1]
  clear e_1
  dsimp only [rs]
  refine j_istore_n dX12_isLikeHead_4 (by decide) ?_
  dsimp only [st1, st2, unL, List.set]
  rw [show hI h (g 11) 0 = 0 from z11 0 (by decide)]
  refine j_aload_n dX12_isLikeHead_5 rfl ?_
  refine j_bipush (v := 40) dX12_isLikeHead_6 (by decide) ?_
  refine j_iload_n dX12_isLikeHead_8 rfl ?_
  refine j_iconst (v := 0) dX12_isLikeHead_9 (by decide) ?_
  refine j_callV3 dX12_isLikeHead_10 vl_X12_863 (c_isLike0 (s := 40) (t := 0) (n0 := 8) hm (by decide) (by decide) (by rw [z1]; rfl) (by rw [z1]; rfl) (by decide) (fun k hk => by rw [z3]; simp only [fr_3]; rw [if_neg (by omega), if_pos (by omega), if_pos (by omega)]; congr 1; omega)) hm.1 rfl (by decide) (by omega) (by omega) (Nat.le_of_ble_eq_true rfl) (fun v_10 u_10 p_10 => ?_)
  obtain ⟨e_10, rfl⟩ := p_10
  rw [e_10]
  clear e_10
  dsimp only [rs]
  refine j_if_eq 27 dX12_isLikeHead_13 (by decide) (fun c_13 => ?_) (fun c_13 => ?_)
  · first | exact absurd c_13 (by decide) | exact absurd (by decide) c_24
  · refine j_aload_n dX12_isLikeHead_16 rfl ?_
    refine j_bipush (v := 40) dX12_isLikeHead_17 (by decide) ?_
    refine j_iload_n dX12_isLikeHead_19 rfl ?_
    refine j_iconst (v := 1) dX12_isLikeHead_20 (by decide) ?_
    refine j_callV3 dX12_isLikeHead_21 vl_X12_863 (c_isLike1 (s := 40) (t := 0) (n0 := 6) hm (by decide) (by decide) (by rw [z2]; rfl) (by rw [z2]; rfl) (by decide) (fun k hk => by rw [z4]; simp only [fr_3]; rw [if_neg (by omega), if_pos (by omega), if_pos (by omega)]; congr 1; omega)) hm.1 rfl (by decide) (by omega) (by omega) (Nat.le_of_ble_eq_true rfl) (fun v_21 u_21 p_21 => ?_)
    obtain ⟨e_21, rfl⟩ := p_21
    rw [e_21]
    clear e_21
    dsimp only [rs]
    refine j_if_ne 29 dX12_isLikeHead_24 (by decide) (fun c_24 => ?_) (fun c_24 => ?_)
    · refine j_iconst (v := 0) dX12_isLikeHead_29 (by decide) ?_
      refine j_istore_n dX12_isLikeHead_30 (by decide) ?_
      dsimp only [st1, st2, unL, List.set]
      refine j_lle (lv' := [some (vr (some (g 0))), some (vi 0), some (vi (nI 0)), none]) (by simp [lle]; rfl) ?_
      exact l_isLikeH hf 321 0 (by omega) (by omega)
    · first | exact absurd c_13 (by decide) | exact absurd (by decide) c_24

set_option maxRecDepth 20000 in
theorem e_become {h : Hp} {g : Nat → Nat} (hm : MW h g) : Con mX12_become 2 0 0 [vr (some (g 0)), vi 0] h (fun v u => v = none ∧ MW u g ∧ hI u (g 0) 0 = hI h (g 0) 0 ∧ hI u (g 0) 12 = hI h (g 0) 12 ∧ ∀ j, hI u (g 11) j = hI h (g 11) j) := by
  refine con_of rfl (Nat.le_of_ble_eq_true rfl) (by decide) ?_
  show J mX12_become 2 0 0 _ 0 [some (vr (some (g 0))), some (vi 0)] [] h
  refine j_aload_n dX12_become_0 rfl ?_
  refine j_iload_n dX12_become_1 rfl ?_
  refine j_bipush (v := 40) dX12_become_2 (by decide) ?_
  refine j_callV2 dX12_become_4 vl_X12_198 (c_copySheet (s := 0) (t := 40) hm (by decide) (by decide)) hm.1 rfl (by decide) (by omega) (by omega) (Nat.le_of_ble_eq_true rfl) (fun v_4 u_4 p_4 => ?_)
  obtain ⟨e_, rfl⟩ := p_4
  rw [e_, if_pos rfl]
  clear e_
  dsimp only [rs]
  refine j_aload_n dX12_become_7 rfl ?_
  refine j_iconst (v := -1) dX12_become_8 (by decide) ?_
  refine j_putI dX12_become_9 fl_X12_45 rfl rfl rfl hm.1 ?_
  refine j_aload_n dX12_become_12 rfl ?_
  refine j_iconst (v := 0) dX12_become_13 (by decide) ?_
  refine j_putI dX12_become_14 fl_X12_868 rfl rfl rfl hm.1 ?_
  refine j_aload_n dX12_become_17 rfl ?_
  refine j_callV0 dX12_become_18 vl_X12_874 (c_forget12 hm) hm.1 rfl (by decide) (by omega) (by omega) (Nat.le_of_ble_eq_true rfl) (fun v_18 u_18 p_18 => ?_)
  obtain ⟨e_, rfl⟩ := p_18
  rw [e_]
  clear e_
  dsimp only [rs]
  exact j_return dX12_become_21 rfl (⟨rfl, hm, by simp [hI_pI, hI_sI, cps, cs5, cs4, cs3, mNe hm (i := 0) (j := 1) rfl rfl rfl, mNe hm (i := 0) (j := 2) rfl rfl rfl, mNe hm (i := 0) (j := 3) rfl rfl rfl, mNe hm (i := 0) (j := 4) rfl rfl rfl, mNe hm (i := 0) (j := 5) rfl rfl rfl], by simp [hI_pI, hI_sI, cps, cs5, cs4, cs3, mNe hm (i := 0) (j := 1) rfl rfl rfl, mNe hm (i := 0) (j := 2) rfl rfl rfl, mNe hm (i := 0) (j := 3) rfl rfl rfl, mNe hm (i := 0) (j := 4) rfl rfl rfl, mNe hm (i := 0) (j := 5) rfl rfl rfl], fun j => by simp [hI_pI, hI_sI, cps, cs5, cs4, cs3, mNe hm (i := 11) (j := 0) rfl rfl rfl, mNe hm (i := 11) (j := 1) rfl rfl rfl, mNe hm (i := 11) (j := 2) rfl rfl rfl, mNe hm (i := 11) (j := 3) rfl rfl rfl, mNe hm (i := 11) (j := 4) rfl rfl rfl, mNe hm (i := 11) (j := 5) rfl rfl rfl]⟩)

set_option maxRecDepth 20000 in
theorem e_drop {h : Hp} {g : Nat → Nat} (hf : FM h g) : Con mX12_drop 3 0 0 [vr (some (g 0))] h (fun v u => v = some (vi 0)) := by
  obtain ⟨hm, z0, z1, z2, z3, z4, z5, z9, z10, z11, z64⟩ := id hf
  refine con_of rfl (Nat.le_of_ble_eq_true rfl) (by decide) ?_
  show J mX12_drop 3 0 0 _ 0 [some (vr (some (g 0)))] [] h
  refine j_aload_n dX12_drop_0 rfl ?_
  refine j_iconst (v := 0) dX12_drop_1 (by decide) ?_
  refine j_putI dX12_drop_2 fl_X12_202 rfl rfl rfl hm.1 ?_
  rw [pI_same (fmI z0 0 (v := 0) rfl)]
  refine j_aload_n dX12_drop_5 rfl ?_
  refine j_aload_n dX12_drop_6 rfl ?_
  refine j_callV0 dX12_drop_7 vl_X12_860 (c_head12 0 (fmI z0 12 rfl) (by decide) hm) hm.1 rfl (by decide) (by omega) (by omega) (Nat.le_of_ble_eq_true rfl) (fun v_7 u_7 p_7 => ?_)
  obtain ⟨e_7, rfl⟩ := p_7
  rw [e_7]
  clear e_7
  dsimp only [rs]
  rw [show hI h (g 11) 0 = 0 from z11 0 (by decide)]
  refine j_callV1 dX12_drop_10 vl_X12_880 (e_become hm) hm.1 rfl (by decide) (by omega) (by omega) (Nat.le_of_ble_eq_true rfl) (fun v_10 u_10 p_10 => ?_)
  obtain ⟨rfl, hm2, y1, y2, y3⟩ := p_10
  dsimp only [rs]
  refine j_aload_n dX12_drop_13 rfl ?_
  have hm := hm2
  refine j_callV0 dX12_drop_14 vl_X12_860 (c_head12 0 (y2.trans (fmI z0 12 rfl)) (by decide) hm2) hm.1 rfl (by decide) (by omega) (by omega) (Nat.le_of_ble_eq_true rfl) (fun v_14 u_14 p_14 => ?_)
  obtain ⟨e_, rfl⟩ := p_14
  rw [e_]
  clear e_
  dsimp only [rs]
  rw [y3, show hI h (g 11) 0 = 0 from z11 0 (by decide)]
  exact j_ireturn dX12_drop_17 rfl rfl (rfl)

set_option maxRecDepth 20000 in
theorem e_go {h : Hp} {g : Nat → Nat} (x : Int32) (hf : FM h g) : Con mX12_go 4 0 0 [vr (some (g 0)), vi x] h (an g 0 (if 0 ≤ x ∧ x ≤ 5 then (if x = 0 then 0 else 2) else 1)) := by
  obtain ⟨hm, z0, z1, z2, z3, z4, z5, z9, z10, z11, z64⟩ := id hf
  refine con_of rfl (Nat.le_of_ble_eq_true rfl) (by decide) ?_
  show J mX12_go 4 0 0 _ 0 [some (vr (some (g 0))), some (vi x)] [] h
  refine j_aload_n dX12_go_0 rfl ?_
  refine j_iconst (v := 0) dX12_go_1 (by decide) ?_
  refine j_putI dX12_go_2 fl_X12_202 rfl rfl rfl hm.1 ?_
  rw [pI_same (fmI z0 0 (v := 0) rfl)]
  refine j_iload_n dX12_go_5 rfl ?_
  refine j_iconst (v := 0) dX12_go_6 (by decide) ?_
  refine j_iconst (v := 5) dX12_go_7 (by decide) ?_
  refine j_callS3 dX12_go_8 sl_X12_220 (c_in _ _ _) rfl (by decide) (by omega) (by omega) (Nat.le_of_ble_eq_true rfl) (fun v_8 u_8 p_8 => ?_)
  obtain ⟨e_8, rfl⟩ := p_8
  rw [e_8]
  clear e_8
  dsimp only [rs]
  refine j_if_ne 20 dX12_go_11 (by decide) (fun c_11 => ?_) (fun c_11 => ?_)
  · have q := b2_n.mp c_11
    obtain ⟨b, hb, hx, hv⟩ := brM z11 q
    subst hx
    refine j_aload_n dX12_go_20 rfl ?_
    refine j_getR dX12_go_21 fl_X12_42 rfl hm.1 (mO hm rfl) ?_
    refine j_iload_n dX12_go_24 rfl ?_
    refine j_iald _ dX12_go_25 (mK hm rfl) (by first | with_reducible rfl | (simp (disch := omega) only [li_1, li_2, li_3, li_4, li_5, li_6, li_7, li_8, li_10, li_20, li_24, li_32, li_40, li_64, li_320, li_39, li_41, li_81, li_121, li_100000, pk_sub, pk_mul, nI_add, inc1, dec1]; with_reducible rfl)) (Nat.lt_of_lt_of_eq (by omega) (mN hm (k := 11) (n := 6) rfl rfl).symm) (Nat.lt_of_le_of_lt (Nat.le_of_eq (mN hm (k := 11) (n := 6) rfl rfl)) (by decide)) ?_
    rw [hv]
    refine j_if_ge 35 dX12_go_26 (by decide) (fun c_26 => ?_) (fun c_26 => ?_)
    · have hb0 : b = 0 := Classical.byContradiction fun z => by rw [if_neg z] at c_26; exact absurd c_26 (by decide)
      subst hb0
      refine j_aload_n dX12_go_35 rfl ?_
      refine j_getI dX12_go_36 fl_X12_45 rfl hm.1 ?_
      rw [fmI z0 13 (v := -1) rfl]
      refine j_if_ge 56 dX12_go_39 (by decide) (fun c_39 => ?_) (fun c_39 => ?_)
      · exact absurd c_39 (by decide)
      · refine j_aload_n dX12_go_42 rfl ?_
        refine j_callV0 dX12_go_43 vl_X12_871 (e_unsettled hf) hm.1 rfl (by decide) (by omega) (by omega) (Nat.le_of_ble_eq_true rfl) (fun v_43 u_43 p_43 => ?_)
        obtain ⟨e_43, rfl⟩ := p_43
        rw [e_43]
        clear e_43
        dsimp only [rs]
        refine j_if_gt 56 dX12_go_46 (by decide) (fun c_46 => ?_) (fun c_46 => ?_)
        · first | exact absurd c_39 (by decide) | exact absurd c_46 (by decide) | exact absurd (by decide) c_53
        · refine j_aload_n dX12_go_49 rfl ?_
          refine j_callV0 dX12_go_50 vl_X12_877 (e_isLikeHead hf) hm.1 rfl (by decide) (by omega) (by omega) (Nat.le_of_ble_eq_true rfl) (fun v_50 u_50 p_50 => ?_)
          obtain ⟨e_50, rfl⟩ := p_50
          rw [e_50]
          clear e_50
          dsimp only [rs]
          refine j_if_ne 62 dX12_go_53 (by decide) (fun c_53 => ?_) (fun c_53 => ?_)
          · refine j_aload_n dX12_go_62 rfl ?_
            refine j_iload_n dX12_go_63 rfl ?_
            refine j_putI dX12_go_64 fl_X12_857 rfl rfl rfl hm.1 ?_
            refine j_aload_n dX12_go_67 rfl ?_
            refine j_aload_n dX12_go_68 rfl ?_
            refine j_callV0 dX12_go_69 vl_X12_860 (c_head12 (h := pI h (g 0) 12 (nI 0)) 0 (by rw [hI_pI, if_pos ⟨rfl, rfl⟩]) (by decide) hm) hm.1 rfl (by decide) (by omega) (by omega) (Nat.le_of_ble_eq_true rfl) (fun v_69 u_69 p_69 => ?_)
            obtain ⟨e_, rfl⟩ := p_69
            rw [e_]
            clear e_
            dsimp only [rs]
            rw [show hI (pI h (g 0) 12 (nI 0)) (g 11) 0 = 0 by rw [hI_pI, if_neg (fun w => mNe hm (i := 11) (j := 0) rfl rfl rfl w.1)]; exact z11 0 (by decide)]
            refine j_callV1 dX12_go_72 vl_X12_880 (e_become hm) hm.1 rfl (by decide) (by omega) (by omega) (Nat.le_of_ble_eq_true rfl) (fun v_72 u_72 p_72 => ?_)
            obtain ⟨rfl, hm2, y1, y2, y3⟩ := p_72
            dsimp only [rs]
            have hm := hm2
            refine j_aload_n dX12_go_75 rfl ?_
            refine j_callV0 dX12_go_76 vl_X12_860 (c_head12 0 (y2.trans (by rw [hI_pI, if_pos ⟨rfl, rfl⟩])) (by decide) hm2) hm.1 rfl (by decide) (by omega) (by omega) (Nat.le_of_ble_eq_true rfl) (fun v_76 u_76 p_76 => ?_)
            obtain ⟨e_, rfl⟩ := p_76
            rw [e_]
            clear e_
            dsimp only [rs]
            rw [y3, show hI (pI h (g 0) 12 (nI 0)) (g 11) 0 = 0 by rw [hI_pI, if_neg (fun w => mNe hf.1 (i := 11) (j := 0) rfl rfl rfl w.1)]; exact z11 0 (by decide)]
            exact j_ireturn dX12_go_79 rfl rfl ⟨rfl, hm2, by rw [y1, hI_pI, if_neg (by omega), if_pos q]; exact fmI z0 0 rfl⟩
          · first | exact absurd c_39 (by decide) | exact absurd c_46 (by decide) | exact absurd (by decide) c_53
    · refine j_aload_n dX12_go_29 rfl ?_
      refine j_iconst (v := 2) dX12_go_30 (by decide) ?_
      refine j_callV1 dX12_go_31 vl_X12_237 (c_throwing 2 hm) hm.1 rfl (by decide) (by omega) (by omega) (Nat.le_of_ble_eq_true rfl) (fun v_31 u_31 p_31 => ?_)
      obtain ⟨e_, rfl⟩ := p_31
      rw [e_]
      clear e_
      dsimp only [rs]
      have hb0 : ¬ b = 0 := fun z => by rw [if_pos z] at c_26; exact absurd (by decide) c_26
      have hx0 : ¬ nI b = 0 := by rw [li_0, nI_eq (by omega) (by omega)]; exact hb0
      exact j_ireturn dX12_go_34 rfl rfl ⟨rfl, hm, by rw [hI_pI, if_pos ⟨rfl, rfl⟩, if_pos q, if_neg hx0]⟩
  · refine j_aload_n dX12_go_14 rfl ?_
    refine j_iconst (v := 1) dX12_go_15 (by decide) ?_
    refine j_callV1 dX12_go_16 vl_X12_237 (c_throwing 1 hm) hm.1 rfl (by decide) (by omega) (by omega) (Nat.le_of_ble_eq_true rfl) (fun v_16 u_16 p_16 => ?_)
    obtain ⟨e_, rfl⟩ := p_16
    rw [e_]
    clear e_
    dsimp only [rs]
    exact j_ireturn dX12_go_19 rfl rfl ⟨rfl, hm, by rw [hI_pI, if_pos ⟨rfl, rfl⟩, if_neg (b2_0.mp (Classical.not_not.mp c_11))]⟩

