/-! ===== the model on a fresh object: values, sorting, copying, entering ===== -/
set_option maxRecDepth 20000 in
theorem l_vo6 {h : Hp} {g : Nat → Nat} {s : Nat} (fin : ∀ u, Km [60, 62, 63, 66, 84] g h u ∧ hI u (g 60) = (fun _ => 0) → J mX12_valuesOf 4 0 0 (nx (fun v u => v = none ∧ Km [60, 62, 63, 66, 84] g h u ∧ hI u (g 60) = (fun _ => 0))) 294 [some (vr (some (g 0))), some (vi (nI s)), some (vi 0), none] [] u) : ∀ (n : Nat) (i : Nat) (u : Hp), 320 - i < n → (i ≤ 320 ∧ (Km [60, 62, 63, 66, 84] g h u ∧ hI u (g 60) = (fun _ => 0)) ∧ ∀ j, j < 320 → hI u (g 84) j = 1) → J mX12_valuesOf 4 0 0 (nx (fun v u => v = none ∧ Km [60, 62, 63, 66, 84] g h u ∧ hI u (g 60) = (fun _ => 0))) 233 [some (vr (some (g 0))), some (vi (nI s)), some (vi 0), some (vi (nI i))] [] u := by
  intro n
  induction n with
  | zero => intro i u hlt; omega
  | succ n ih =>
    intro i u hlt hinv
    have hm := hinv.2.1.1.1
    refine j_iload_n dX12_valuesOf_233 rfl ?_
    refine j_sipush (v := 320) dX12_valuesOf_234 (by decide) ?_
    refine j_icmp_ge 294 dX12_valuesOf_237 (by decide) (fun c_237 => ?_) (fun c_237 => ?_)
    · exact j_lle (by simp [lle]) (fin _ hinv.2.1)
    · have hlt2 : i < 320 := by rw [li_320, nI_leI (by omega) (by omega)] at c_237; omega
      refine j_aload_n dX12_valuesOf_240 rfl ?_
      refine j_getR dX12_valuesOf_241 fl_X12_147 rfl hm.1 (mO hm rfl) ?_
      refine j_iload_n dX12_valuesOf_244 rfl ?_
      refine j_zald i dX12_valuesOf_245 (mK hm rfl) rfl (Nat.lt_of_lt_of_eq (by omega) (mN hm (k := 84) (n := 320) rfl rfl).symm) (Nat.lt_of_le_of_lt (Nat.le_of_eq (mN hm (k := 84) (n := 320) rfl rfl)) (by decide)) ?_
      rw [hinv.2.2 i hlt2]
      refine j_if_ne 288 dX12_valuesOf_246 (by decide) (fun c_246 => ?_) (fun c_246 => ?_)
      · refine j_iinc dX12_valuesOf_288 rfl ?_
        dsimp only [st1, st2, unL, List.set]
        refine j_goto 233 dX12_valuesOf_291 (by decide) ?_
        refine j_lle (lv' := [some (vr (some (g 0))), some (vi (nI s)), some (vi 0), some (vi (nI (i + 1)))]) (by simp [lle, nI_1]) ?_
        exact ih (i + 1) _ (by omega) ⟨by omega, hinv.2⟩
      · exact absurd (by decide) c_246

set_option maxRecDepth 20000 in
theorem l_vo5 {h : Hp} {g : Nat → Nat} {s : Nat}  : ∀ (n : Nat) (i : Nat) (u : Hp), 320 - i < n → (i ≤ 320 ∧ (Km [60, 62, 63, 66, 84] g h u ∧ hI u (g 60) = (fun _ => 0)) ∧ ∀ j, j < 320 → hI u (g 84) j = 1) → J mX12_valuesOf 4 0 0 (nx (fun v u => v = none ∧ Km [60, 62, 63, 66, 84] g h u ∧ hI u (g 60) = (fun _ => 0))) 165 [some (vr (some (g 0))), some (vi (nI s)), some (vi (nI i)), none] [] u := by
  intro n
  induction n with
  | zero => intro i u hlt; omega
  | succ n ih =>
    intro i u hlt hinv
    have hm := hinv.2.1.1.1
    refine j_iload_n dX12_valuesOf_165 rfl ?_
    refine j_sipush (v := 320) dX12_valuesOf_166 (by decide) ?_
    refine j_icmp_ge 223 dX12_valuesOf_169 (by decide) (fun c_169 => ?_) (fun c_169 => ?_)
    · refine j_iconst (v := 1) dX12_valuesOf_223 (by decide) ?_
      refine j_istore_n dX12_valuesOf_224 (by decide) ?_
      dsimp only [st1, st2, unL, List.set]
      refine j_iload_n dX12_valuesOf_225 rfl ?_
      refine j_if_eq 297 dX12_valuesOf_226 (by decide) (fun c_226 => ?_) (fun c_226 => ?_)
      · exact absurd c_226 (by decide)
      · refine j_iconst (v := 0) dX12_valuesOf_229 (by decide) ?_
        refine j_istore_n dX12_valuesOf_230 (by decide) ?_
        dsimp only [st1, st2, unL, List.set]
        refine j_iconst (v := 0) dX12_valuesOf_231 (by decide) ?_
        refine j_istore_n dX12_valuesOf_232 (by decide) ?_
        dsimp only [st1, st2, unL, List.set]
        refine j_lle (lv' := [some (vr (some (g 0))), some (vi (nI s)), some (vi 0), some (vi (nI 0))]) (by simp [lle]; rfl) ?_
        refine l_vo6 (fun u2 hu2 => ?_) 321 0 _ (by omega) ⟨by omega, hinv.2⟩
        have hm := hu2.1.1
        refine j_goto 225 dX12_valuesOf_294 (by decide) ?_
        refine j_iload_n dX12_valuesOf_225 rfl ?_
        refine j_if_eq 297 dX12_valuesOf_226 (by decide) (fun c_226 => ?_) (fun c_226 => ?_)
        · exact j_return dX12_valuesOf_297 rfl (⟨rfl, hu2⟩)
        · exact absurd rfl c_226
    · have hlt2 : i < 320 := by rw [li_320, nI_leI (by omega) (by omega)] at c_169; omega
      refine j_aload_n dX12_valuesOf_172 rfl ?_
      refine j_getR dX12_valuesOf_173 fl_X12_147 rfl hm.1 (mO hm rfl) ?_
      refine j_iload_n dX12_valuesOf_176 rfl ?_
      refine j_zald i dX12_valuesOf_177 (mK hm rfl) rfl (Nat.lt_of_lt_of_eq (by omega) (mN hm (k := 84) (n := 320) rfl rfl).symm) (Nat.lt_of_le_of_lt (Nat.le_of_eq (mN hm (k := 84) (n := 320) rfl rfl)) (by decide)) ?_
      rw [hinv.2.2 i hlt2]
      refine j_if_ne 217 dX12_valuesOf_178 (by decide) (fun c_178 => ?_) (fun c_178 => ?_)
      · refine j_iinc dX12_valuesOf_217 rfl ?_
        dsimp only [st1, st2, unL, List.set]
        refine j_goto 165 dX12_valuesOf_220 (by decide) ?_
        refine j_lle (lv' := [some (vr (some (g 0))), some (vi (nI s)), some (vi (nI (i + 1))), none]) (by simp [lle, nI_1]) ?_
        exact ih (i + 1) _ (by omega) ⟨by omega, hinv.2⟩
      · exact absurd (by decide) c_178

set_option maxRecDepth 20000 in
theorem l_vo3 {h : Hp} {g : Nat → Nat} {s : Nat} (hs : s < 41) (hr : hI h (g 1) s = 8) (hc : hI h (g 2) s = 6) (z5 : hI h (g 5) = fun _ => 0) (z69 : hI h (g 69) = fun _ => 0) : ∀ (n : Nat) (i : Nat) (u : Hp), 320 - i < n → (i ≤ 320 ∧ (Km [60, 62, 63, 66, 84] g h u ∧ hI u (g 60) = (fun _ => 0)) ∧ ∀ j, j < i → hI u (g 84) j = 1) → J mX12_valuesOf 4 0 0 (nx (fun v u => v = none ∧ Km [60, 62, 63, 66, 84] g h u ∧ hI u (g 60) = (fun _ => 0))) 44 [some (vr (some (g 0))), some (vi (nI s)), some (vi (nI i)), none] [] u := by
  intro n
  induction n with
  | zero => intro i u hlt; omega
  | succ n ih =>
    intro i u hlt hinv
    have hm := hinv.2.1.1.1
    refine j_iload_n dX12_valuesOf_44 rfl ?_
    refine j_sipush (v := 320) dX12_valuesOf_45 (by decide) ?_
    refine j_icmp_ge 159 dX12_valuesOf_48 (by decide) (fun c_48 => ?_) (fun c_48 => ?_)
    · have he : i = 320 := by rw [li_320, nI_leI (by omega) (by omega)] at c_48; omega
      subst he
      refine j_aload_n dX12_valuesOf_159 rfl ?_
      refine j_callV0 dX12_valuesOf_160 vl_X12_722 (e_close hm) hm.1 rfl (by decide) (by omega) (by omega) (Nat.le_of_ble_eq_true rfl) (fun v_160 u_160 p_160 => ?_)
      obtain ⟨rfl, pk3⟩ := p_160
      have hm := pk3.1
      dsimp only [rs]
      refine j_iconst (v := 0) dX12_valuesOf_163 (by decide) ?_
      refine j_istore_n dX12_valuesOf_164 (by decide) ?_
      dsimp only [st1, st2, unL, List.set]
      refine j_lle (lv' := [some (vr (some (g 0))), some (vi (nI s)), some (vi (nI 0)), none]) (by simp [lle]; rfl) ?_
      exact l_vo5 321 0 _ (by omega) ⟨by omega, ⟨Km_tr hinv.2.1.1 (Km_mono pk3 (fun k hk => by simp)), by rw [Km_k pk3 60 rfl rfl]; exact hinv.2.1.2⟩, fun j hj => by rw [Km_k pk3 84 rfl rfl]; exact hinv.2.2 j hj⟩
    · have hlt2 : i < 320 := by rw [li_320, nI_leI (by omega) (by omega)] at c_48; omega
      refine j_iload_n dX12_valuesOf_51 rfl ?_
      refine j_bipush (v := 10) dX12_valuesOf_52 (by decide) ?_
      refine j_idiv dX12_valuesOf_54 (by decide) ?_
      rw [li_10, pk_div (by omega) (by decide) (by decide)]
      refine j_aload_n dX12_valuesOf_55 rfl ?_
      refine j_getR dX12_valuesOf_56 fl_X12_7 rfl hm.1 (mO hm rfl) ?_
      refine j_iload_n dX12_valuesOf_59 rfl ?_
      refine j_iald s dX12_valuesOf_60 (mK hm rfl) rfl (Nat.lt_of_lt_of_eq (by omega) (mN hm (k := 1) (n := 122) rfl rfl).symm) (Nat.lt_of_le_of_lt (Nat.le_of_eq (mN hm (k := 1) (n := 122) rfl rfl)) (by decide)) ?_
      rw [Km_k hinv.2.1.1 1 rfl rfl, hr]
      refine j_icmp_ge 81 dX12_valuesOf_61 (by decide) (fun c_61 => ?_) (fun c_61 => ?_)
      · refine j_iconst (v := 0) dX12_valuesOf_81 (by decide) ?_
        refine j_istore_n dX12_valuesOf_82 (by decide) ?_
        dsimp only [st1, st2, unL, List.set]
        refine j_iload_n dX12_valuesOf_83 rfl ?_
        refine j_if_eq 121 dX12_valuesOf_84 (by decide) (fun c_84 => ?_) (fun c_84 => ?_)
        · refine j_aload_n dX12_valuesOf_121 rfl ?_
          refine j_iload_n dX12_valuesOf_122 rfl ?_
          refine j_callV1 dX12_valuesOf_123 vl_X12_716 (c_goesThrough hm hlt2) hm.1 rfl (by decide) (by omega) (by omega) (Nat.le_of_ble_eq_true rfl) (fun v_123 u_123 p_123 => ?_)
          obtain ⟨rfl, x_, rfl⟩ := p_123
          have b84 : ∀ j, j < i + 1 → hI (pG (pI u (g 84) i 1) (g 85) (i / 64) x_) (g 84) j = 1 := fun j hj => by
            show hI (pI u (g 84) i 1) (g 84) j = 1
            rw [hI_pI]
            by_cases e : j = i
            · rw [if_pos ⟨rfl, e⟩]
            · rw [if_neg (fun w => e w.2)]; exact hinv.2.2 j (by omega)
          have k84 : Km [60, 62, 63, 66, 84] g h (pG (pI u (g 84) i 1) (g 85) (i / 64) x_) := Km_pG (Km_pI hinv.2.1.1 rfl rfl)
          have k60 : hI (pG (pI u (g 84) i 1) (g 85) (i / 64) x_) (g 60) = fun _ => 0 := by
            show hI (pI u (g 84) i 1) (g 60) = _
            rw [hI_pIn (mNe hm (i := 60) (j := 84) rfl rfl rfl)]; exact hinv.2.1.2
          dsimp only [rs]
          refine j_iload_n dX12_valuesOf_126 rfl ?_
          refine j_if_eq 153 dX12_valuesOf_127 (by decide) (fun c_127 => ?_) (fun c_127 => ?_)
          · refine j_iinc dX12_valuesOf_153 rfl ?_
            dsimp only [st1, st2, unL, List.set]
            refine j_goto 44 dX12_valuesOf_156 (by decide) ?_
            refine j_lle (lv' := [some (vr (some (g 0))), some (vi (nI s)), some (vi (nI (i + 1))), none]) (by simp [lle, nI_1]) ?_
            first
              | exact ih (i + 1) _ (by omega) ⟨by omega, ⟨Km_tr k84 (Km_mono pk1 (fun k hk => by simp at hk ⊢; omega)), pk2⟩, fun j hj => by rw [Km_k pk1 84 rfl rfl]; exact b84 j hj⟩
              | exact ih (i + 1) _ (by omega) ⟨by omega, ⟨k84, k60⟩, b84⟩
          · exact absurd (by decide) c_127
        · exact absurd (by decide) c_84
      · refine j_iload_n dX12_valuesOf_64 rfl ?_
        refine j_bipush (v := 10) dX12_valuesOf_65 (by decide) ?_
        refine j_irem dX12_valuesOf_67 (by decide) ?_
        rw [li_10, pk_rem (by omega) (by decide) (by decide)]
        refine j_aload_n dX12_valuesOf_68 rfl ?_
        refine j_getR dX12_valuesOf_69 fl_X12_13 rfl hm.1 (mO hm rfl) ?_
        refine j_iload_n dX12_valuesOf_72 rfl ?_
        refine j_iald s dX12_valuesOf_73 (mK hm rfl) rfl (Nat.lt_of_lt_of_eq (by omega) (mN hm (k := 2) (n := 122) rfl rfl).symm) (Nat.lt_of_le_of_lt (Nat.le_of_eq (mN hm (k := 2) (n := 122) rfl rfl)) (by decide)) ?_
        rw [Km_k hinv.2.1.1 2 rfl rfl, hc]
        refine j_icmp_ge 81 dX12_valuesOf_74 (by decide) (fun c_74 => ?_) (fun c_74 => ?_)
        · refine j_iconst (v := 0) dX12_valuesOf_81 (by decide) ?_
          refine j_istore_n dX12_valuesOf_82 (by decide) ?_
          dsimp only [st1, st2, unL, List.set]
          refine j_iload_n dX12_valuesOf_83 rfl ?_
          refine j_if_eq 121 dX12_valuesOf_84 (by decide) (fun c_84 => ?_) (fun c_84 => ?_)
          · refine j_aload_n dX12_valuesOf_121 rfl ?_
            refine j_iload_n dX12_valuesOf_122 rfl ?_
            refine j_callV1 dX12_valuesOf_123 vl_X12_716 (c_goesThrough hm hlt2) hm.1 rfl (by decide) (by omega) (by omega) (Nat.le_of_ble_eq_true rfl) (fun v_123 u_123 p_123 => ?_)
            obtain ⟨rfl, x_, rfl⟩ := p_123
            have b84 : ∀ j, j < i + 1 → hI (pG (pI u (g 84) i 1) (g 85) (i / 64) x_) (g 84) j = 1 := fun j hj => by
              show hI (pI u (g 84) i 1) (g 84) j = 1
              rw [hI_pI]
              by_cases e : j = i
              · rw [if_pos ⟨rfl, e⟩]
              · rw [if_neg (fun w => e w.2)]; exact hinv.2.2 j (by omega)
            have k84 : Km [60, 62, 63, 66, 84] g h (pG (pI u (g 84) i 1) (g 85) (i / 64) x_) := Km_pG (Km_pI hinv.2.1.1 rfl rfl)
            have k60 : hI (pG (pI u (g 84) i 1) (g 85) (i / 64) x_) (g 60) = fun _ => 0 := by
              show hI (pI u (g 84) i 1) (g 60) = _
              rw [hI_pIn (mNe hm (i := 60) (j := 84) rfl rfl rfl)]; exact hinv.2.1.2
            dsimp only [rs]
            refine j_iload_n dX12_valuesOf_126 rfl ?_
            refine j_if_eq 153 dX12_valuesOf_127 (by decide) (fun c_127 => ?_) (fun c_127 => ?_)
            · refine j_iinc dX12_valuesOf_153 rfl ?_
              dsimp only [st1, st2, unL, List.set]
              refine j_goto 44 dX12_valuesOf_156 (by decide) ?_
              refine j_lle (lv' := [some (vr (some (g 0))), some (vi (nI s)), some (vi (nI (i + 1))), none]) (by simp [lle, nI_1]) ?_
              first
                | exact ih (i + 1) _ (by omega) ⟨by omega, ⟨Km_tr k84 (Km_mono pk1 (fun k hk => by simp at hk ⊢; omega)), pk2⟩, fun j hj => by rw [Km_k pk1 84 rfl rfl]; exact b84 j hj⟩
                | exact ih (i + 1) _ (by omega) ⟨by omega, ⟨k84, k60⟩, b84⟩
            · exact absurd (by decide) c_127
          · exact absurd (by decide) c_84
        · refine j_iconst (v := 1) dX12_valuesOf_77 (by decide) ?_
          refine j_goto 82 dX12_valuesOf_78 (by decide) ?_
          refine j_istore_n dX12_valuesOf_82 (by decide) ?_
          dsimp only [st1, st2, unL, List.set]
          refine j_iload_n dX12_valuesOf_83 rfl ?_
          refine j_if_eq 121 dX12_valuesOf_84 (by decide) (fun c_84 => ?_) (fun c_84 => ?_)
          · exact absurd c_84 (by decide)
          · refine j_aload_n dX12_valuesOf_87 rfl ?_
            refine j_getR dX12_valuesOf_88 fl_X12_23 rfl hm.1 (mO hm rfl) ?_
            refine j_sipush (v := 320) dX12_valuesOf_91 (by decide) ?_
            refine j_iload_n dX12_valuesOf_94 rfl ?_
            refine j_imul dX12_valuesOf_95 ?_
            refine j_iload_n dX12_valuesOf_96 rfl ?_
            refine j_iadd dX12_valuesOf_97 ?_
            refine j_iald (320 * s + i) dX12_valuesOf_98 (mK hm rfl) (by rw [li_320, pk_mul, nI_add]) (Nat.lt_of_lt_of_eq (by omega) (mN hm (k := 5) (n := 39040) rfl rfl).symm) (Nat.lt_of_le_of_lt (Nat.le_of_eq (mN hm (k := 5) (n := 39040) rfl rfl)) (by decide)) ?_
            rw [Km_k hinv.2.1.1 5 rfl rfl, z5]
            refine j_callS1 dX12_valuesOf_99 sl_X12_244 (c_isFormula12 _) rfl (by decide) (by omega) (by omega) (Nat.le_of_ble_eq_true rfl) (fun v_99 u_99 p_99 => ?_)
            obtain ⟨e_99, rfl⟩ := p_99
            rw [e_99]
            clear e_99
            dsimp only [rs]
            refine j_if_eq 121 dX12_valuesOf_102 (by decide) (fun c_102 => ?_) (fun c_102 => ?_)
            · refine j_aload_n dX12_valuesOf_121 rfl ?_
              refine j_iload_n dX12_valuesOf_122 rfl ?_
              refine j_callV1 dX12_valuesOf_123 vl_X12_716 (c_goesThrough hm hlt2) hm.1 rfl (by decide) (by omega) (by omega) (Nat.le_of_ble_eq_true rfl) (fun v_123 u_123 p_123 => ?_)
              obtain ⟨rfl, x_, rfl⟩ := p_123
              have b84 : ∀ j, j < i + 1 → hI (pG (pI u (g 84) i 1) (g 85) (i / 64) x_) (g 84) j = 1 := fun j hj => by
                show hI (pI u (g 84) i 1) (g 84) j = 1
                rw [hI_pI]
                by_cases e : j = i
                · rw [if_pos ⟨rfl, e⟩]
                · rw [if_neg (fun w => e w.2)]; exact hinv.2.2 j (by omega)
              have k84 : Km [60, 62, 63, 66, 84] g h (pG (pI u (g 84) i 1) (g 85) (i / 64) x_) := Km_pG (Km_pI hinv.2.1.1 rfl rfl)
              have k60 : hI (pG (pI u (g 84) i 1) (g 85) (i / 64) x_) (g 60) = fun _ => 0 := by
                show hI (pI u (g 84) i 1) (g 60) = _
                rw [hI_pIn (mNe hm (i := 60) (j := 84) rfl rfl rfl)]; exact hinv.2.1.2
              dsimp only [rs]
              refine j_iload_n dX12_valuesOf_126 rfl ?_
              refine j_if_eq 153 dX12_valuesOf_127 (by decide) (fun c_127 => ?_) (fun c_127 => ?_)
              · exact absurd c_127 (by decide)
              · skip
                refine j_aload_n dX12_valuesOf_130 rfl ?_
                refine j_aload_n dX12_valuesOf_131 rfl ?_
                refine j_getR dX12_valuesOf_132 fl_X12_23 rfl hm.1 (mO hm rfl) ?_
                refine j_sipush (v := 320) dX12_valuesOf_135 (by decide) ?_
                refine j_iload_n dX12_valuesOf_138 rfl ?_
                refine j_imul dX12_valuesOf_139 ?_
                refine j_iload_n dX12_valuesOf_140 rfl ?_
                refine j_iadd dX12_valuesOf_141 ?_
                refine j_iald (320 * s + i) dX12_valuesOf_142 (mK hm rfl) (by rw [li_320, pk_mul, nI_add]) (Nat.lt_of_lt_of_eq (by omega) (mN hm (k := 5) (n := 39040) rfl rfl).symm) (Nat.lt_of_le_of_lt (Nat.le_of_eq (mN hm (k := 5) (n := 39040) rfl rfl)) (by decide)) ?_
                rw [Km_k k84 5 rfl rfl, z5]
                refine j_sipush (v := 320) dX12_valuesOf_143 (by decide) ?_
                refine j_iload_n dX12_valuesOf_146 rfl ?_
                refine j_imul dX12_valuesOf_147 ?_
                refine j_iload_n dX12_valuesOf_148 rfl ?_
                refine j_iadd dX12_valuesOf_149 ?_
                rw [show (320 : Int32) * nI s + nI i = nI (320 * s + i) by rw [li_320, pk_mul, nI_add]]
                refine j_callV2 dX12_valuesOf_150 vl_X12_719 (e_plainValue0 (c := 320 * s + i) k84.1 (by omega) k60 ((Km_k k84 69 rfl rfl).trans z69)) hm.1 rfl (by decide) (by omega) (by omega) (Nat.le_of_ble_eq_true rfl) (fun v_150 u_150 p_150 => ?_)
                obtain ⟨rfl, pk1, pk2⟩ := p_150
                have hm := pk1.1
                dsimp only [rs]
                refine j_iinc dX12_valuesOf_153 rfl ?_
                dsimp only [st1, st2, unL, List.set]
                refine j_goto 44 dX12_valuesOf_156 (by decide) ?_
                refine j_lle (lv' := [some (vr (some (g 0))), some (vi (nI s)), some (vi (nI (i + 1))), none]) (by simp [lle, nI_1]) ?_
                first
                  | exact ih (i + 1) _ (by omega) ⟨by omega, ⟨Km_tr k84 (Km_mono pk1 (fun k hk => by simp at hk ⊢; omega)), pk2⟩, fun j hj => by rw [Km_k pk1 84 rfl rfl]; exact b84 j hj⟩
                  | exact ih (i + 1) _ (by omega) ⟨by omega, ⟨k84, k60⟩, b84⟩
            · exact absurd (b2f (by decide)) c_102

set_option maxRecDepth 20000 in
theorem l_vo2 {h : Hp} {g : Nat → Nat} {s : Nat} (fin : ∀ u, Km [60, 62, 63, 66, 84] g h u ∧ hI u (g 60) = (fun _ => 0) → J mX12_valuesOf 4 0 0 (nx (fun v u => v = none ∧ Km [60, 62, 63, 66, 84] g h u ∧ hI u (g 60) = (fun _ => 0))) 42 [some (vr (some (g 0))), some (vi (nI s)), none, none] [] u) : ∀ (n : Nat) (i : Nat) (u : Hp), 5 - i < n → (i ≤ 5 ∧ (Km [60, 62, 63, 66, 84] g h u ∧ hI u (g 60) = (fun _ => 0))) → J mX12_valuesOf 4 0 0 (nx (fun v u => v = none ∧ Km [60, 62, 63, 66, 84] g h u ∧ hI u (g 60) = (fun _ => 0))) 24 [some (vr (some (g 0))), some (vi (nI s)), some (vi (nI i)), none] [] u := by
  intro n
  induction n with
  | zero => intro i u hlt; omega
  | succ n ih =>
    intro i u hlt hinv
    have hm := hinv.2.1.1
    refine j_iload_n dX12_valuesOf_24 rfl ?_
    refine j_iconst (v := 5) dX12_valuesOf_25 (by decide) ?_
    refine j_icmp_ge 42 dX12_valuesOf_26 (by decide) (fun c_26 => ?_) (fun c_26 => ?_)
    · exact j_lle (by simp [lle]) (fin _ hinv.2)
    · have hlt2 : i < 5 := by rw [li_5, nI_leI (by omega) (by omega)] at c_26; omega
      refine j_aload_n dX12_valuesOf_29 rfl ?_
      refine j_getR dX12_valuesOf_30 fl_X12_150 rfl hm.1 (mO hm rfl) ?_
      refine j_iload_n dX12_valuesOf_33 rfl ?_
      refine j_lconst (v := 0) dX12_valuesOf_34 (by decide) ?_
      refine j_last i dX12_valuesOf_35 (mK hm rfl) rfl (Nat.lt_of_lt_of_eq (by omega) (mN hm (k := 85) (n := 5) rfl rfl).symm) (Nat.lt_of_le_of_lt (Nat.le_of_eq (mN hm (k := 85) (n := 5) rfl rfl)) (by decide)) ?_
      refine j_iinc dX12_valuesOf_36 rfl ?_
      dsimp only [st1, st2, unL, List.set]
      refine j_goto 24 dX12_valuesOf_39 (by decide) ?_
      refine j_lle (lv' := [some (vr (some (g 0))), some (vi (nI s)), some (vi (nI (i + 1))), none]) (by simp [lle, nI_1]) ?_
      exact ih (i + 1) _ (by omega) ⟨by omega, hinv.2⟩

set_option maxRecDepth 20000 in
theorem l_vo1 {h : Hp} {g : Nat → Nat} {s : Nat} (fin : ∀ u, Km [60, 62, 63, 66, 84] g h u ∧ hI u (g 60) = (fun _ => 0) → J mX12_valuesOf 4 0 0 (nx (fun v u => v = none ∧ Km [60, 62, 63, 66, 84] g h u ∧ hI u (g 60) = (fun _ => 0))) 22 [some (vr (some (g 0))), some (vi (nI s)), none, none] [] u) : ∀ (n : Nat) (i : Nat) (u : Hp), 1600 - i < n → (i ≤ 1600 ∧ (Km [60, 62, 63, 66, 84] g h u ∧ hI u (g 60) = (fun _ => 0))) → J mX12_valuesOf 4 0 0 (nx (fun v u => v = none ∧ Km [60, 62, 63, 66, 84] g h u ∧ hI u (g 60) = (fun _ => 0))) 2 [some (vr (some (g 0))), some (vi (nI s)), some (vi (nI i)), none] [] u := by
  intro n
  induction n with
  | zero => intro i u hlt; omega
  | succ n ih =>
    intro i u hlt hinv
    have hm := hinv.2.1.1
    refine j_iload_n dX12_valuesOf_2 rfl ?_
    refine j_sipush (v := 1600) dX12_valuesOf_3 (by decide) ?_
    refine j_icmp_ge 22 dX12_valuesOf_6 (by decide) (fun c_6 => ?_) (fun c_6 => ?_)
    · exact j_lle (by simp [lle]) (fin _ hinv.2)
    · have hlt2 : i < 1600 := by rw [li_1600, nI_leI (by omega) (by omega)] at c_6; omega
      refine j_aload_n dX12_valuesOf_9 rfl ?_
      refine j_getR dX12_valuesOf_10 fl_X12_141 rfl hm.1 (mO hm rfl) ?_
      refine j_iload_n dX12_valuesOf_13 rfl ?_
      refine j_lconst (v := 0) dX12_valuesOf_14 (by decide) ?_
      refine j_last i dX12_valuesOf_15 (mK hm rfl) rfl (Nat.lt_of_lt_of_eq (by omega) (mN hm (k := 82) (n := 1600) rfl rfl).symm) (Nat.lt_of_le_of_lt (Nat.le_of_eq (mN hm (k := 82) (n := 1600) rfl rfl)) (by decide)) ?_
      refine j_iinc dX12_valuesOf_16 rfl ?_
      dsimp only [st1, st2, unL, List.set]
      refine j_goto 2 dX12_valuesOf_19 (by decide) ?_
      refine j_lle (lv' := [some (vr (some (g 0))), some (vi (nI s)), some (vi (nI (i + 1))), none]) (by simp [lle, nI_1]) ?_
      exact ih (i + 1) _ (by omega) ⟨by omega, hinv.2⟩

set_option maxRecDepth 20000 in
theorem e_valuesOf {h : Hp} {g : Nat → Nat} {s : Nat} (hm : MW h g) (hs : s < 41) (hr : hI h (g 1) s = 8) (hc : hI h (g 2) s = 6) (z5 : hI h (g 5) = fun _ => 0) (z69 : hI h (g 69) = fun _ => 0) (z60 : hI h (g 60) = fun _ => 0) : Con mX12_valuesOf 4 0 0 [vr (some (g 0)), vi (nI s)] h (fun v u => v = none ∧ Km [60, 62, 63, 66, 84] g h u ∧ hI u (g 60) = (fun _ => 0)) := by
  refine con_of rfl (Nat.le_of_ble_eq_true rfl) (by decide) ?_
  show J mX12_valuesOf 4 0 0 _ 0 [some (vr (some (g 0))), some (vi (nI s)), none, none] [] h
  refine j_iconst (v := 0) dX12_valuesOf_0 (by decide) ?_
  refine j_istore_n dX12_valuesOf_1 (by decide) ?_
  dsimp only [st1, st2, unL, List.set]
  refine j_lle (lv' := [some (vr (some (g 0))), some (vi (nI s)), some (vi (nI 0)), none]) (by simp [lle]; rfl) ?_
  refine l_vo1 (fun u2 hu2 => ?_) 1601 0 _ (by omega) ⟨by omega, Km_rf hm, z60⟩
  have hm := hu2.1.1
  refine j_iconst (v := 0) dX12_valuesOf_22 (by decide) ?_
  refine j_istore_n dX12_valuesOf_23 (by decide) ?_
  dsimp only [st1, st2, unL, List.set]
  refine j_lle (lv' := [some (vr (some (g 0))), some (vi (nI s)), some (vi (nI 0)), none]) (by simp [lle]; rfl) ?_
  refine l_vo2 (fun u3 hu3 => ?_) 6 0 _ (by omega) ⟨by omega, hu2⟩
  have hm := hu3.1.1
  refine j_iconst (v := 0) dX12_valuesOf_42 (by decide) ?_
  refine j_istore_n dX12_valuesOf_43 (by decide) ?_
  dsimp only [st1, st2, unL, List.set]
  refine j_lle (lv' := [some (vr (some (g 0))), some (vi (nI s)), some (vi (nI 0)), none]) (by simp [lle]; rfl) ?_
  exact l_vo3 hs hr hc z5 z69 321 0 _ (by omega) ⟨by omega, hu3, fun j hj => absurd hj (Nat.not_lt_zero j)⟩

set_option maxRecDepth 20000 in
theorem e_need0 {h : Hp} {g : Nat → Nat} (hm : MW h g) (hr0 : hI h (g 1) 0 = 8) (hc0 : hI h (g 2) 0 = 6) (z5 : hI h (g 5) = fun _ => 0) (z69 : hI h (g 69) = fun _ => 0) (z60 : hI h (g 60) = fun _ => 0) (z64 : hI h (g 64) = fun _ => 0) : Con mX12_needValues 5 0 0 [vr (some (g 0)), vi 0] h (fun v u => v = none ∧ Km [60, 62, 63, 64, 66, 84] g h u ∧ hI u (g 60) = (fun _ => 0)) := by
  refine con_of rfl (Nat.le_of_ble_eq_true rfl) (by decide) ?_
  show J mX12_needValues 5 0 0 _ 0 [some (vr (some (g 0))), some (vi 0), none, none] [] h
  refine j_iload_n dX12_needValues_0 rfl ?_
  refine j_bipush (v := 40) dX12_needValues_1 (by decide) ?_
  refine j_icmp_ne 13 dX12_needValues_3 (by decide) (fun c_3 => ?_) (fun c_3 => ?_)
  · refine j_iload_n dX12_needValues_13 rfl ?_
    refine j_iconst (v := 1) dX12_needValues_14 (by decide) ?_
    refine j_iadd dX12_needValues_15 ?_
    refine j_istore_n dX12_needValues_16 (by decide) ?_
    dsimp only [st1, st2, unL, List.set]
    refine j_iconst (v := 0) dX12_needValues_17 (by decide) ?_
    refine j_istore_n dX12_needValues_18 (by decide) ?_
    dsimp only [st1, st2, unL, List.set]
    refine j_iload_n dX12_needValues_19 rfl ?_
    refine j_iload_n dX12_needValues_20 rfl ?_
    refine j_icmp_ge 51 dX12_needValues_21 (by decide) (fun c_21 => ?_) (fun c_21 => ?_)
    · exact absurd c_21 (by decide)
    · refine j_aload_n dX12_needValues_24 rfl ?_
      refine j_getR dX12_needValues_25 fl_X12_122 rfl hm.1 (mO hm rfl) ?_
      refine j_iload_n dX12_needValues_28 rfl ?_
      refine j_zald 0 dX12_needValues_29 (mK hm rfl) rfl (Nat.lt_of_lt_of_eq (by omega) (mN hm (k := 64) (n := 40) rfl rfl).symm) (Nat.lt_of_le_of_lt (Nat.le_of_eq (mN hm (k := 64) (n := 40) rfl rfl)) (by decide)) ?_
      rw [z64]
      refine j_if_ne 45 dX12_needValues_30 (by decide) (fun c_30 => ?_) (fun c_30 => ?_)
      · exact absurd c_30 (by decide)
      · refine j_aload_n dX12_needValues_33 rfl ?_
        refine j_iload_n dX12_needValues_34 rfl ?_
        refine j_callV1 dX12_needValues_35 vl_X12_731 (e_valuesOf (s := 0) hm (by decide) hr0 hc0 z5 z69 z60) hm.1 rfl (by decide) (by omega) (by omega) (Nat.le_of_ble_eq_true rfl) (fun v_35 u_35 p_35 => ?_)
        obtain ⟨rfl, pk1, pk2⟩ := p_35
        have hm := pk1.1
        dsimp only [rs]
        refine j_aload_n dX12_needValues_38 rfl ?_
        refine j_getR dX12_needValues_39 fl_X12_122 rfl hm.1 (mO hm rfl) ?_
        refine j_iload_n dX12_needValues_42 rfl ?_
        refine j_iconst (v := 1) dX12_needValues_43 (by decide) ?_
        refine j_zast 0 dX12_needValues_44 (mK hm rfl) rfl (Nat.lt_of_lt_of_eq (by omega) (mN hm (k := 64) (n := 40) rfl rfl).symm) (Nat.lt_of_le_of_lt (Nat.le_of_eq (mN hm (k := 64) (n := 40) rfl rfl)) (by decide)) (by rfl) ?_
        refine j_iinc dX12_needValues_45 rfl ?_
        dsimp only [st1, st2, unL, List.set]
        refine j_goto 19 dX12_needValues_48 (by decide) ?_
        refine j_iload_n dX12_needValues_19 rfl ?_
        refine j_iload_n dX12_needValues_20 rfl ?_
        refine j_icmp_ge 51 dX12_needValues_21 (by decide) (fun c_21 => ?_) (fun c_21 => ?_)
        · refine j_iload_n dX12_needValues_51 rfl ?_
          refine j_bipush (v := 40) dX12_needValues_52 (by decide) ?_
          refine j_icmp_ne 75 dX12_needValues_54 (by decide) (fun c_54 => ?_) (fun c_54 => ?_)
          · exact j_return dX12_needValues_75 rfl (⟨rfl, (Km_pI (Km_mono pk1 (fun k hk => by simp at hk ⊢; omega)) rfl rfl), by rw [hI_pIn (mNe hm (i := 60) (j := 64) rfl rfl rfl)]; exact pk2⟩)
          · exact absurd (by decide) c_54
        · exact absurd (by decide) c_21
  · exact absurd (by decide) c_3

set_option maxRecDepth 20000 in
theorem e_need40 {h : Hp} {g : Nat → Nat} (hm : MW h g) (hr0 : hI h (g 1) 0 = 8) (hc0 : hI h (g 2) 0 = 6) (z5 : hI h (g 5) = fun _ => 0) (z69 : hI h (g 69) = fun _ => 0) (z60 : hI h (g 60) = fun _ => 0) (z64 : hI h (g 64) = fun _ => 0) (hr4 : hI h (g 1) 40 = 8) (hc4 : hI h (g 2) 40 = 6) (v8 : hI h (g 0) 8 = 1) (v65 : hI h (g 0) 65 = 0) : Con mX12_needValues 5 0 0 [vr (some (g 0)), vi 40] h (fun v u => v = none ∧ Km [0, 60, 62, 63, 64, 66, 84] g h u ∧ hI u (g 60) = (fun _ => 0) ∧ ∀ k, k ≠ 65 → hI u (g 0) k = hI h (g 0) k) := by
  refine con_of rfl (Nat.le_of_ble_eq_true rfl) (by decide) ?_
  show J mX12_needValues 5 0 0 _ 0 [some (vr (some (g 0))), some (vi 40), none, none] [] h
  refine j_iload_n dX12_needValues_0 rfl ?_
  refine j_bipush (v := 40) dX12_needValues_1 (by decide) ?_
  refine j_icmp_ne 13 dX12_needValues_3 (by decide) (fun c_3 => ?_) (fun c_3 => ?_)
  · exact absurd c_3 (by decide)
  · refine j_aload_n dX12_needValues_6 rfl ?_
    refine j_getI dX12_needValues_7 fl_X12_33 rfl hm.1 ?_
    rw [v8]
    refine j_goto 16 dX12_needValues_10 (by decide) ?_
    refine j_istore_n dX12_needValues_16 (by decide) ?_
    dsimp only [st1, st2, unL, List.set]
    skip
    refine j_iconst (v := 0) dX12_needValues_17 (by decide) ?_
    refine j_istore_n dX12_needValues_18 (by decide) ?_
    dsimp only [st1, st2, unL, List.set]
    refine j_iload_n dX12_needValues_19 rfl ?_
    refine j_iload_n dX12_needValues_20 rfl ?_
    refine j_icmp_ge 51 dX12_needValues_21 (by decide) (fun c_21 => ?_) (fun c_21 => ?_)
    · exact absurd c_21 (by decide)
    · refine j_aload_n dX12_needValues_24 rfl ?_
      refine j_getR dX12_needValues_25 fl_X12_122 rfl hm.1 (mO hm rfl) ?_
      refine j_iload_n dX12_needValues_28 rfl ?_
      refine j_zald 0 dX12_needValues_29 (mK hm rfl) rfl (Nat.lt_of_lt_of_eq (by omega) (mN hm (k := 64) (n := 40) rfl rfl).symm) (Nat.lt_of_le_of_lt (Nat.le_of_eq (mN hm (k := 64) (n := 40) rfl rfl)) (by decide)) ?_
      rw [z64]
      refine j_if_ne 45 dX12_needValues_30 (by decide) (fun c_30 => ?_) (fun c_30 => ?_)
      · exact absurd c_30 (by decide)
      · refine j_aload_n dX12_needValues_33 rfl ?_
        refine j_iload_n dX12_needValues_34 rfl ?_
        refine j_callV1 dX12_needValues_35 vl_X12_731 (e_valuesOf (s := 0) hm (by decide) hr0 hc0 z5 z69 z60) hm.1 rfl (by decide) (by omega) (by omega) (Nat.le_of_ble_eq_true rfl) (fun v_35 u_35 p_35 => ?_)
        obtain ⟨rfl, pk1, pk2⟩ := p_35
        have hm := pk1.1
        have k0 := Km_k pk1 0 rfl rfl
        dsimp only [rs]
        refine j_aload_n dX12_needValues_38 rfl ?_
        refine j_getR dX12_needValues_39 fl_X12_122 rfl hm.1 (mO hm rfl) ?_
        refine j_iload_n dX12_needValues_42 rfl ?_
        refine j_iconst (v := 1) dX12_needValues_43 (by decide) ?_
        refine j_zast 0 dX12_needValues_44 (mK hm rfl) rfl (Nat.lt_of_lt_of_eq (by omega) (mN hm (k := 64) (n := 40) rfl rfl).symm) (Nat.lt_of_le_of_lt (Nat.le_of_eq (mN hm (k := 64) (n := 40) rfl rfl)) (by decide)) (by rfl) ?_
        have k1 : Km [60, 62, 63, 64, 66, 84] g h (pI u_35 (g 64) 0 1) := (Km_pI (Km_mono pk1 (fun k hk => by simp at hk ⊢; omega)) rfl rfl)
        have q60 : hI (pI u_35 (g 64) 0 1) (g 60) = fun _ => 0 := by rw [hI_pIn (mNe hm (i := 60) (j := 64) rfl rfl rfl)]; exact pk2
        refine j_iinc dX12_needValues_45 rfl ?_
        dsimp only [st1, st2, unL, List.set]
        refine j_goto 19 dX12_needValues_48 (by decide) ?_
        refine j_iload_n dX12_needValues_19 rfl ?_
        refine j_iload_n dX12_needValues_20 rfl ?_
        refine j_icmp_ge 51 dX12_needValues_21 (by decide) (fun c_21 => ?_) (fun c_21 => ?_)
        · refine j_iload_n dX12_needValues_51 rfl ?_
          refine j_bipush (v := 40) dX12_needValues_52 (by decide) ?_
          refine j_icmp_ne 75 dX12_needValues_54 (by decide) (fun c_54 => ?_) (fun c_54 => ?_)
          · exact absurd c_54 (by decide)
          · refine j_aload_n dX12_needValues_57 rfl ?_
            refine j_getI dX12_needValues_58 fl_X12_205 rfl hm.1 ?_
            rw [show hI (pI u_35 (g 64) 0 1) (g 0) 65 = 0 by rw [Km_k k1 0 rfl rfl]; exact v65]
            refine j_if_ne 75 dX12_needValues_61 (by decide) (fun c_61 => ?_) (fun c_61 => ?_)
            · exact absurd c_61 (by decide)
            · refine j_aload_n dX12_needValues_64 rfl ?_
              refine j_bipush (v := 40) dX12_needValues_65 (by decide) ?_
              refine j_callV1 dX12_needValues_67 vl_X12_731 (e_valuesOf (s := 40) k1.1 (by decide) (by rw [Km_k k1 1 rfl rfl]; exact hr4) (by rw [Km_k k1 2 rfl rfl]; exact hc4) (by rw [Km_k k1 5 rfl rfl]; exact z5) (by rw [Km_k k1 69 rfl rfl]; exact z69) q60) hm.1 rfl (by decide) (by omega) (by omega) (Nat.le_of_ble_eq_true rfl) (fun v_67 u_67 p_67 => ?_)
              obtain ⟨rfl, pk3, pk4⟩ := p_67
              have hm := pk3.1
              dsimp only [rs]
              refine j_aload_n dX12_needValues_70 rfl ?_
              refine j_iconst (v := 1) dX12_needValues_71 (by decide) ?_
              refine j_putI dX12_needValues_72 fl_X12_205 rfl rfl rfl hm.1 ?_
              exact j_return dX12_needValues_75 rfl ⟨rfl, Km_pI (Km_tr (Km_mono k1 (fun k hk => by simp at hk ⊢; omega)) (Km_mono pk3 (fun k hk => by simp at hk ⊢; omega))) rfl rfl, by rw [hI_pIn (mNe hm (i := 60) (j := 0) rfl rfl rfl)]; exact pk4, fun k hk => by rw [hI_pI, if_neg (fun w => hk w.2), Km_k pk3 0 rfl rfl, Km_k k1 0 rfl rfl]⟩
        · exact absurd (by decide) c_21

