/-! ===== the system on a fresh object: copied ===== -/
theorem lst_m {a b : Nat} (ha : a < 100) (hb : b < 100) : (if nI b < nI a then nI b else nI a) + 1 = nI (min a b + 1) := by
  rw [← nI_1]; congr 1
  by_cases q : b < a
  · rw [if_pos (nI_lt q (by omega)), Nat.min_eq_right (by omega)]
  · rw [if_neg (nI_nlt (by omega) (by omega)), Nat.min_eq_left (by omega)]
theorem cp_n {a c d e r s : Nat} (h1 : a ≤ d) (h2 : d < 8) (h3 : c ≤ e) (h4 : e < 6) (h5 : r < 8) (h6 : s < 6) : ((if nI (d + 1) - nI (a + 1) < 8 - nI (r + 1) then nI (d + 1) - nI (a + 1) else 8 - nI (r + 1)) + 1) * ((if nI (e + 1) - nI (c + 1) < 6 - nI (s + 1) then nI (e + 1) - nI (c + 1) else 6 - nI (s + 1)) + 1) = nI (min (d - a) (7 - r) + 1) * nI (min (e - c) (5 - s) + 1) := by
  rw [li_8, li_6, pk_sub (show a + 1 ≤ d + 1 by omega), pk_sub (show c + 1 ≤ e + 1 by omega), pk_sub (show r + 1 ≤ 8 by omega), pk_sub (show s + 1 ≤ 6 by omega), lst_n (n := 0) (by omega) (by omega), lst_n (n := 0) (by omega) (by omega), show d + 1 - (a + 1) = d - a by omega, show e + 1 - (c + 1) = e - c by omega, show 8 - (r + 1) = 7 - r by omega, show 6 - (s + 1) = 5 - s by omega]
theorem cp_h {a d r n : Nat} (h1 : a ≤ d) (h2 : d < n) (h5 : r < n) (hn : n < 100) : (if nI n - nI (r + 1) < nI (d + 1) - nI (a + 1) then nI n - nI (r + 1) else nI (d + 1) - nI (a + 1)) + 1 = nI (min (d - a) (n - 1 - r) + 1) := by
  rw [pk_sub (show a + 1 ≤ d + 1 by omega), pk_sub (show r + 1 ≤ n by omega), lst_m (by omega) (by omega), show d + 1 - (a + 1) = d - a by omega, show n - (r + 1) = n - 1 - r by omega]
set_option maxRecDepth 20000 in
theorem l_pw2 {h : Hp} {b : Nat → Nat} {w xw a c H W : Nat} {i : Nat} (fc : FC h b w xw) (ha : a + H < 8) (hc : c + W < 6) (hi : i ≤ H) (fin : J mX11_partsWithin 3 0 0 (nx (fun v u => u = h ∧ v = some (vi 0))) 51 [some (vr (some (b 0))), some (vi (nI (a + 1))), some (vi (nI (c + 1))), some (vi (nI (H + 1))), some (vi (nI (W + 1))), some (vi 0), some (vi (nI i)), none] [] h) : ∀ (n : Nat) (j : Nat), W + 1 - j < n → (j ≤ W + 1) → J mX11_partsWithin 3 0 0 (nx (fun v u => u = h ∧ v = some (vi 0))) 15 [some (vr (some (b 0))), some (vi (nI (a + 1))), some (vi (nI (c + 1))), some (vi (nI (H + 1))), some (vi (nI (W + 1))), some (vi 0), some (vi (nI i)), some (vi (nI j))] [] h := by
  intro n
  induction n with
  | zero => intro j hlt; omega
  | succ n ih =>
    intro j hlt hinv
    refine j_iload dX11_partsWithin_15 rfl ?_
    refine j_iload dX11_partsWithin_17 rfl ?_
    refine j_icmp_ge 51 dX11_partsWithin_19 (by decide) (fun c_19 => ?_) (fun c_19 => ?_)
    · exact j_lle (by simp [lle]) fin
    · have hlt2 : j < W + 1 := by rw [nI_leI (by omega) (by omega)] at c_19; omega
      refine j_iload dX11_partsWithin_22 rfl ?_
      refine j_aload_n dX11_partsWithin_24 rfl ?_
      refine j_getR dX11_partsWithin_25 fl_X11_104 rfl (fcK fc 0 rfl rfl) (fcW fc) ?_
      refine j_iload_n dX11_partsWithin_28 rfl ?_
      refine j_iload dX11_partsWithin_29 rfl ?_
      refine j_iadd dX11_partsWithin_31 ?_
      refine j_iload_n dX11_partsWithin_32 rfl ?_
      refine j_iload dX11_partsWithin_33 rfl ?_
      refine j_iadd dX11_partsWithin_35 ?_
      rw [nI_add, nI_add, show a + 1 + i = (a + i) + 1 by omega, show c + 1 + j = (c + j) + 1 by omega]
      refine j_callV2 dX11_partsWithin_36 vl_X11_152 (c_at (a + i) (c + j) (by omega) (by omega) (fcS fc)) (fcS fc).1 rfl (by decide) (by omega) (by omega) (Nat.le_of_ble_eq_true rfl) (fun v_36 u_36 p_36 => ?_)
      obtain ⟨e_36, rfl⟩ := p_36
      rw [e_36]
      clear e_36
      dsimp only [rs]
      rw [fcX fc ((a + i) * 6 + (c + j)) (by omega)]
      refine j_callS1 dX11_partsWithin_39 sl_X11_130 c_partsOfN rfl (by decide) (by omega) (by omega) (Nat.le_of_ble_eq_true rfl) (fun v_39 u_39 p_39 => ?_)
      obtain ⟨e_39, rfl⟩ := p_39
      rw [e_39]
      clear e_39
      dsimp only [rs]
      refine j_iadd dX11_partsWithin_42 ?_
      refine j_istore dX11_partsWithin_43 (by decide) ?_
      dsimp only [st1, st2, unL, List.set]
      refine j_iinc dX11_partsWithin_45 rfl ?_
      dsimp only [st1, st2, unL, List.set]
      refine j_goto 15 dX11_partsWithin_48 (by decide) ?_
      refine j_lle (lv' := [some (vr (some (b 0))), some (vi (nI (a + 1))), some (vi (nI (c + 1))), some (vi (nI (H + 1))), some (vi (nI (W + 1))), some (vi 0), some (vi (nI i)), some (vi (nI (j + 1)))]) (by first | (simp [lle, nI_1]; done) | (simp [lle, nI_1]; rfl)) ?_
      exact ih (j + 1) (by omega) (by omega)

set_option maxRecDepth 20000 in
theorem l_pw1 {h : Hp} {b : Nat → Nat} {w xw a c H W : Nat} (fc : FC h b w xw) (ha : a + H < 8) (hc : c + W < 6) : ∀ (n : Nat) (i : Nat), H + 1 - i < n → (i ≤ H + 1) → J mX11_partsWithin 3 0 0 (nx (fun v u => u = h ∧ v = some (vi 0))) 6 [some (vr (some (b 0))), some (vi (nI (a + 1))), some (vi (nI (c + 1))), some (vi (nI (H + 1))), some (vi (nI (W + 1))), some (vi 0), some (vi (nI i)), none] [] h := by
  intro n
  induction n with
  | zero => intro i hlt; omega
  | succ n ih =>
    intro i hlt hinv
    refine j_iload dX11_partsWithin_6 rfl ?_
    refine j_iload_n dX11_partsWithin_8 rfl ?_
    refine j_icmp_ge 57 dX11_partsWithin_9 (by decide) (fun c_9 => ?_) (fun c_9 => ?_)
    · refine j_iload dX11_partsWithin_57 rfl ?_
      exact j_ireturn dX11_partsWithin_59 rfl rfl (⟨rfl, rfl⟩)
    · have hlt2 : i < H + 1 := by rw [nI_leI (by omega) (by omega)] at c_9; omega
      refine j_iconst (v := 0) dX11_partsWithin_12 (by decide) ?_
      refine j_istore dX11_partsWithin_13 (by decide) ?_
      dsimp only [st1, st2, unL, List.set]
      refine j_lle (lv' := [some (vr (some (b 0))), some (vi (nI (a + 1))), some (vi (nI (c + 1))), some (vi (nI (H + 1))), some (vi (nI (W + 1))), some (vi 0), some (vi (nI i)), some (vi (nI 0))]) (by first | (simp [lle, nI_1]; done) | (simp [lle, nI_1]; rfl)) ?_
      refine l_pw2 fc ha hc (by omega) ?_ (W + 2) 0 (by omega) (by omega)
      refine j_iinc dX11_partsWithin_51 rfl ?_
      dsimp only [st1, st2, unL, List.set]
      refine j_goto 6 dX11_partsWithin_54 (by decide) ?_
      refine j_lle (lv' := [some (vr (some (b 0))), some (vi (nI (a + 1))), some (vi (nI (c + 1))), some (vi (nI (H + 1))), some (vi (nI (W + 1))), some (vi 0), some (vi (nI (i + 1))), none]) (by first | (simp [lle, nI_1]; done) | (simp [lle, nI_1]; rfl)) ?_
      exact ih (i + 1) (by omega) (by omega)

set_option maxRecDepth 20000 in
theorem c_partsWithin {h : Hp} {b : Nat → Nat} {w xw a c H W : Nat} (fc : FC h b w xw) (ha : a + H < 8) (hc : c + W < 6) : Con mX11_partsWithin 3 0 0 [vr (some (b 0)), vi (nI (a + 1)), vi (nI (c + 1)), vi (nI (H + 1)), vi (nI (W + 1))] h (fun v u => u = h ∧ v = some (vi 0)) := by
  refine con_of rfl (Nat.le_of_ble_eq_true rfl) (by decide) ?_
  show J mX11_partsWithin 3 0 0 _ 0 [some (vr (some (b 0))), some (vi (nI (a + 1))), some (vi (nI (c + 1))), some (vi (nI (H + 1))), some (vi (nI (W + 1))), none, none, none] [] h
  refine j_iconst (v := 0) dX11_partsWithin_0 (by decide) ?_
  refine j_istore dX11_partsWithin_1 (by decide) ?_
  dsimp only [st1, st2, unL, List.set]
  refine j_iconst (v := 0) dX11_partsWithin_3 (by decide) ?_
  refine j_istore dX11_partsWithin_4 (by decide) ?_
  dsimp only [st1, st2, unL, List.set]
  refine j_lle (lv' := [some (vr (some (b 0))), some (vi (nI (a + 1))), some (vi (nI (c + 1))), some (vi (nI (H + 1))), some (vi (nI (W + 1))), some (vi 0), some (vi (nI 0)), none]) (by first | (simp [lle, nI_1]; done) | (simp [lle, nI_1]; rfl)) ?_
  exact l_pw1 fc ha hc (H + 2) 0 (by omega) (by omega)

set_option maxRecDepth 20000 in
theorem c_shiftedN {h : Hp} {x : Nat} (y z : Int32)  : Con mX11_shifted 2 0 0 [vr (some x), vr none, vi y, vi z] h (fun v u => u = h ∧ v = some (vr none)) := by
  refine con_of rfl (Nat.le_of_ble_eq_true rfl) (by decide) ?_
  show J mX11_shifted 2 0 0 _ 0 [some (vr (some x)), some (vr none), some (vi y), some (vi z), none, none, none, none] [] h
  refine j_aload_n dX11_shifted_0 rfl ?_
  refine j_callS1 dX11_shifted_1 sl_X11_407 c_isFormulaN rfl (by decide) (by omega) (by omega) (Nat.le_of_ble_eq_true rfl) (fun v_1 u_1 p_1 => ?_)
  obtain ⟨e_1, rfl⟩ := p_1
  rw [e_1]
  clear e_1
  dsimp only [rs]
  refine j_if_ne 9 dX11_shifted_4 (by decide) (fun c_4 => ?_) (fun c_4 => ?_)
  · exact absurd c_4 (by decide)
  · refine j_aload_n dX11_shifted_7 rfl ?_
    exact j_areturn dX11_shifted_8 rfl rfl (⟨rfl, rfl⟩)

set_option maxRecDepth 20000 in
theorem l_cp2 {h : Hp} {b : Nat → Nat} {w xw q xq a c d e r s H W : Nat} {i : Nat} (fc : FC h b w xw) (hq0 : hK h q = 0) (hxq0 : hK h xq = 0) (ha : a + H < 8) (hc : c + W < 6) (hr : r + H < 8) (hs : s + W < 6) (hi : i ≤ H) (fin : ∀ u, Ex h u ∧ Sh u q (b 36) (b 37) xq 8 6 → J mX11_copy 6 1 6 (px h b w xw ["java/lang/IndexOutOfBoundsException", "java/lang/IllegalArgumentException", "java/lang/UnsupportedOperationException"] 0 (nI (H + 1) * nI (W + 1))) 233 [some (vr (some (b 0))), some (vi (nI (a + 1))), some (vi (nI (c + 1))), some (vi (nI (d + 1))), some (vi (nI (e + 1))), some (vi (nI (r + 1))), some (vi (nI (s + 1))), some (vi (nI (H + 1))), some (vi (nI (W + 1))), some (vi 0), some (vr (some q)), some (vi (nI i)), none, none] [] u) : ∀ (n : Nat) (j : Nat) (u : Hp), W + 1 - j < n → (j ≤ W + 1 ∧ Ex h u ∧ Sh u q (b 36) (b 37) xq 8 6) → J mX11_copy 6 1 6 (px h b w xw ["java/lang/IndexOutOfBoundsException", "java/lang/IllegalArgumentException", "java/lang/UnsupportedOperationException"] 0 (nI (H + 1) * nI (W + 1))) 174 [some (vr (some (b 0))), some (vi (nI (a + 1))), some (vi (nI (c + 1))), some (vi (nI (d + 1))), some (vi (nI (e + 1))), some (vi (nI (r + 1))), some (vi (nI (s + 1))), some (vi (nI (H + 1))), some (vi (nI (W + 1))), some (vi 0), some (vr (some q)), some (vi (nI i)), some (vi (nI j)), none] [] u := by
  intro n
  induction n with
  | zero => intro j u hlt; omega
  | succ n ih =>
    intro j u hlt hinv
    obtain ⟨hj, hE, hS⟩ := hinv
    refine j_iload dX11_copy_174 rfl ?_
    refine j_iload dX11_copy_176 rfl ?_
    refine j_icmp_ge 233 dX11_copy_178 (by decide) (fun c_178 => ?_) (fun c_178 => ?_)
    · exact j_lle (by simp [lle]) (fin _ ⟨hE, hS⟩)
    · have hlt2 : j < W + 1 := by rw [nI_leI (by omega) (by omega)] at c_178; omega
      refine j_aload_n dX11_copy_181 rfl ?_
      refine j_getR dX11_copy_182 fl_X11_104 rfl (fcK (FC_ex fc hE) 0 rfl rfl) (fcW (FC_ex fc hE)) ?_
      refine j_iload_n dX11_copy_185 rfl ?_
      refine j_iload dX11_copy_186 rfl ?_
      refine j_iadd dX11_copy_188 ?_
      refine j_iload_n dX11_copy_189 rfl ?_
      refine j_iload dX11_copy_190 rfl ?_
      refine j_iadd dX11_copy_192 ?_
      rw [nI_add, nI_add, show a + 1 + i = (a + i) + 1 by omega, show c + 1 + j = (c + j) + 1 by omega]
      refine j_callV2 dX11_copy_193 vl_X11_152 (c_at (a + i) (c + j) (by omega) (by omega) (fcS (FC_ex fc hE))) (by first | exact hS.1 | exact (fcS (FC_ex fc hE)).1 | exact fcK (FC_ex fc hE) 0 rfl rfl) rfl (by decide) (by omega) (by omega) (Nat.le_of_ble_eq_true rfl) (fun v_193 u_193 p_193 => ?_)
      obtain ⟨e_193, rfl⟩ := p_193
      rw [e_193]
      clear e_193
      dsimp only [rs]
      rw [fcX (FC_ex fc hE) ((a + i) * 6 + (c + j)) (by omega)]
      refine j_astore dX11_copy_196 (by decide) ?_
      dsimp only [st1, st2, unL, List.set]
      refine j_aload dX11_copy_198 rfl ?_
      refine j_iload dX11_copy_200 rfl ?_
      refine j_iload dX11_copy_202 rfl ?_
      refine j_iadd dX11_copy_204 ?_
      refine j_iload dX11_copy_205 rfl ?_
      refine j_iload dX11_copy_207 rfl ?_
      refine j_iadd dX11_copy_209 ?_
      refine j_aload_n dX11_copy_210 rfl ?_
      refine j_aload dX11_copy_211 rfl ?_
      refine j_iload dX11_copy_213 rfl ?_
      refine j_iload_n dX11_copy_215 rfl ?_
      refine j_isub dX11_copy_216 ?_
      refine j_iload dX11_copy_217 rfl ?_
      refine j_iload_n dX11_copy_219 rfl ?_
      refine j_isub dX11_copy_220 ?_
      refine j_callV3 dX11_copy_221 vl_X11_204 (c_shiftedN _ _) (by first | exact hS.1 | exact (fcS (FC_ex fc hE)).1 | exact fcK (FC_ex fc hE) 0 rfl rfl) rfl (by decide) (by omega) (by omega) (Nat.le_of_ble_eq_true rfl) (fun v_221 u_221 p_221 => ?_)
      obtain ⟨e_221, rfl⟩ := p_221
      rw [e_221]
      clear e_221
      dsimp only [rs]
      rw [nI_add, nI_add, show r + 1 + i = (r + i) + 1 by omega, show s + 1 + j = (s + j) + 1 by omega]
      refine j_callV3 dX11_copy_224 vl_X11_141 (c_put (r + i) (s + j) (by omega) (by omega) (x := none) (fun v e => by cases e) hS) (by first | exact hS.1 | exact (fcS (FC_ex fc hE)).1 | exact fcK (FC_ex fc hE) 0 rfl rfl) rfl (by decide) (by omega) (by omega) (Nat.le_of_ble_eq_true rfl) (fun v_224 u_224 p_224 => ?_)
      obtain ⟨rfl, rfl⟩ := p_224
      dsimp only [rs]
      refine j_iinc dX11_copy_227 rfl ?_
      dsimp only [st1, st2, unL, List.set]
      refine j_goto 174 dX11_copy_230 (by decide) ?_
      refine j_lle (lv' := [some (vr (some (b 0))), some (vi (nI (a + 1))), some (vi (nI (c + 1))), some (vi (nI (d + 1))), some (vi (nI (e + 1))), some (vi (nI (r + 1))), some (vi (nI (s + 1))), some (vi (nI (H + 1))), some (vi (nI (W + 1))), some (vi 0), some (vr (some q)), some (vi (nI i)), some (vi (nI (j + 1))), none]) (by first | (simp [lle, nI_1]; done) | (simp [lle, nI_1]; rfl)) ?_
      exact ih (j + 1) _ (by omega) ⟨by omega, Fr_pO hE (Or.inr hxq0), Sh_pO hS⟩

set_option maxRecDepth 20000 in
theorem l_cp1 {h : Hp} {b : Nat → Nat} {w xw q xq a c d e r s H W : Nat} (fc : FC h b w xw) (hq0 : hK h q = 0) (hxq0 : hK h xq = 0) (ha : a + H < 8) (hc : c + W < 6) (hr : r + H < 8) (hs : s + W < 6) : ∀ (n : Nat) (i : Nat) (u : Hp), H + 1 - i < n → (i ≤ H + 1 ∧ Ex h u ∧ Sh u q (b 36) (b 37) xq 8 6) → J mX11_copy 6 1 6 (px h b w xw ["java/lang/IndexOutOfBoundsException", "java/lang/IllegalArgumentException", "java/lang/UnsupportedOperationException"] 0 (nI (H + 1) * nI (W + 1))) 164 [some (vr (some (b 0))), some (vi (nI (a + 1))), some (vi (nI (c + 1))), some (vi (nI (d + 1))), some (vi (nI (e + 1))), some (vi (nI (r + 1))), some (vi (nI (s + 1))), some (vi (nI (H + 1))), some (vi (nI (W + 1))), some (vi 0), some (vr (some q)), some (vi (nI i)), none, none] [] u := by
  intro n
  induction n with
  | zero => intro i u hlt; omega
  | succ n ih =>
    intro i u hlt hinv
    obtain ⟨hi, hE, hS⟩ := hinv
    refine j_iload dX11_copy_164 rfl ?_
    refine j_iload dX11_copy_166 rfl ?_
    refine j_icmp_ge 239 dX11_copy_168 (by decide) (fun c_168 => ?_) (fun c_168 => ?_)
    · refine j_aload_n dX11_copy_239 rfl ?_
      refine j_aload dX11_copy_240 rfl ?_
      refine j_callV1 dX11_copy_242 vl_X11_145 (d_step (FS_fr (FS_fc fc) hE (fun z => z) (fun z => z))) (fcK (FC_ex fc hE) 0 rfl rfl) rfl (by decide) (by omega) (by omega) (Nat.le_of_ble_eq_true rfl) (fun v_242 u_242 p_242 => ?_)
      obtain ⟨rfl, rfl⟩ := p_242
      dsimp only [rs]
      refine j_iload dX11_copy_245 rfl ?_
      refine j_iload dX11_copy_247 rfl ?_
      refine j_imul dX11_copy_249 ?_
      exact j_ireturn dX11_copy_250 rfl rfl ⟨stp11_fr (frE hE), rfl, rfl⟩
    · have hlt2 : i < H + 1 := by rw [nI_leI (by omega) (by omega)] at c_168; omega
      refine j_iconst (v := 0) dX11_copy_171 (by decide) ?_
      refine j_istore dX11_copy_172 (by decide) ?_
      dsimp only [st1, st2, unL, List.set]
      refine j_lle (lv' := [some (vr (some (b 0))), some (vi (nI (a + 1))), some (vi (nI (c + 1))), some (vi (nI (d + 1))), some (vi (nI (e + 1))), some (vi (nI (r + 1))), some (vi (nI (s + 1))), some (vi (nI (H + 1))), some (vi (nI (W + 1))), some (vi 0), some (vr (some q)), some (vi (nI i)), some (vi (nI 0)), none]) (by first | (simp [lle, nI_1]; done) | (simp [lle, nI_1]; rfl)) ?_
      refine l_cp2 fc hq0 hxq0 ha hc hr hs (by omega) (fun u2 hu2 => ?_) (W + 2) 0 _ (by omega) ⟨by omega, hE, hS⟩
      refine j_iinc dX11_copy_233 rfl ?_
      dsimp only [st1, st2, unL, List.set]
      refine j_goto 164 dX11_copy_236 (by decide) ?_
      refine j_lle (lv' := [some (vr (some (b 0))), some (vi (nI (a + 1))), some (vi (nI (c + 1))), some (vi (nI (d + 1))), some (vi (nI (e + 1))), some (vi (nI (r + 1))), some (vi (nI (s + 1))), some (vi (nI (H + 1))), some (vi (nI (W + 1))), some (vi 0), some (vr (some q)), some (vi (nI (i + 1))), none, none]) (by first | (simp [lle, nI_1]; done) | (simp [lle, nI_1]; rfl)) ?_
      exact ih (i + 1) _ (by omega) ⟨by omega, hu2⟩

set_option maxRecDepth 20000 in
theorem d_copy {h : Hp} {b : Nat → Nat} {w xw : Nat} (x y z v p q : Int32) (fc : FC h b w xw) : ConX mX11_copy 6 3 330 [vr (some (b 0)), vi x, vi y, vi z, vi v, vi p, vi q] h (px h b w xw ["java/lang/IndexOutOfBoundsException", "java/lang/IllegalArgumentException", "java/lang/UnsupportedOperationException"] (cpT x y z v p q) (cpR x y z v p q)) := by
  refine con_ofX rfl (Nat.le_of_ble_eq_true rfl) (by decide) (by decide) ?_
  show J mX11_copy 6 3 330 _ 0 [some (vr (some (b 0))), some (vi x), some (vi y), some (vi z), some (vi v), some (vi p), some (vi q), none, none, none, none, none, none, none] [] h
  refine j_aload_n dX11_copy_0 rfl ?_
  refine j_getR dX11_copy_1 fl_X11_104 rfl (fcK fc 0 rfl rfl) (fcW fc) ?_
  refine j_iload_n dX11_copy_4 rfl ?_
  refine j_iload_n dX11_copy_5 rfl ?_
  refine j_callV2 dX11_copy_6 vl_X11_113 (c_has _ _ (fcS fc)) (fcS fc).1 rfl (by decide) (by omega) (by omega) (Nat.le_of_ble_eq_true rfl) (fun v_6 u_6 p_6 => ?_)
  obtain ⟨e_6, rfl⟩ := p_6
  rw [e_6]
  clear e_6
  dsimp only [rs]
  refine j_if_eq 39 dX11_copy_9 (by decide) (fun c_9 => ?_) (fun c_9 => ?_)
  · have eq : cpT x y z v p q = 1 := by rw [cpT, if_neg (fun k => by first | exact b2_0.mp c_9 k.1 | exact b2_0.mp c_22 k.2.1 | exact b2_0.mp (Classical.not_not.mp c_36) k.2.2)]
    exact j_throw (E := "java/lang/IndexOutOfBoundsException") ⟨117, 119, by decide, dX11_copy_39, dX11_copy_42, dX11_copy_43, dX11_copy_46⟩ (by omega) (by omega) (Nat.le_of_ble_eq_true rfl) ⟨Fr_rf, by rw [eq]; decide, by rw [eq]; rfl⟩
  · refine j_aload_n dX11_copy_12 rfl ?_
    refine j_getR dX11_copy_13 fl_X11_104 rfl (fcK fc 0 rfl rfl) (fcW fc) ?_
    refine j_iload_n dX11_copy_16 rfl ?_
    refine j_iload dX11_copy_17 rfl ?_
    refine j_callV2 dX11_copy_19 vl_X11_113 (c_has _ _ (fcS fc)) (fcS fc).1 rfl (by decide) (by omega) (by omega) (Nat.le_of_ble_eq_true rfl) (fun v_19 u_19 p_19 => ?_)
    obtain ⟨e_19, rfl⟩ := p_19
    rw [e_19]
    clear e_19
    dsimp only [rs]
    refine j_if_eq 39 dX11_copy_22 (by decide) (fun c_22 => ?_) (fun c_22 => ?_)
    · have eq : cpT x y z v p q = 1 := by rw [cpT, if_neg (fun k => by first | exact b2_0.mp c_9 k.1 | exact b2_0.mp c_22 k.2.1 | exact b2_0.mp (Classical.not_not.mp c_36) k.2.2)]
      exact j_throw (E := "java/lang/IndexOutOfBoundsException") ⟨117, 119, by decide, dX11_copy_39, dX11_copy_42, dX11_copy_43, dX11_copy_46⟩ (by omega) (by omega) (Nat.le_of_ble_eq_true rfl) ⟨Fr_rf, by rw [eq]; decide, by rw [eq]; rfl⟩
    · refine j_aload_n dX11_copy_25 rfl ?_
      refine j_getR dX11_copy_26 fl_X11_104 rfl (fcK fc 0 rfl rfl) (fcW fc) ?_
      refine j_iload dX11_copy_29 rfl ?_
      refine j_iload dX11_copy_31 rfl ?_
      refine j_callV2 dX11_copy_33 vl_X11_113 (c_has _ _ (fcS fc)) (fcS fc).1 rfl (by decide) (by omega) (by omega) (Nat.le_of_ble_eq_true rfl) (fun v_33 u_33 p_33 => ?_)
      obtain ⟨e_33, rfl⟩ := p_33
      rw [e_33]
      clear e_33
      dsimp only [rs]
      refine j_if_ne 47 dX11_copy_36 (by decide) (fun c_36 => ?_) (fun c_36 => ?_)
      · have qq : inSh 8 6 x y ∧ inSh 8 6 z v ∧ inSh 8 6 p q := ⟨b2_nn.mp c_9, b2_nn.mp c_22, b2_n.mp c_36⟩
        refine j_iload_n dX11_copy_47 rfl ?_
        refine j_iload_n dX11_copy_48 rfl ?_
        refine j_icmp_lt 58 dX11_copy_49 (by decide) (fun c_49 => ?_) (fun c_49 => ?_)
        · have eq : cpT x y z v p q = 2 := by rw [cpT, if_pos qq, if_pos (by simp only [le_i, lt_i] at *; omega)]
          exact j_throw (E := "java/lang/IllegalArgumentException") ⟨127, 129, by decide, dX11_copy_58, dX11_copy_61, dX11_copy_62, dX11_copy_65⟩ (by omega) (by omega) (Nat.le_of_ble_eq_true rfl) ⟨Fr_rf, by rw [eq]; decide, by rw [eq]; rfl⟩
        · refine j_iload dX11_copy_52 rfl ?_
          refine j_iload_n dX11_copy_54 rfl ?_
          refine j_icmp_ge 66 dX11_copy_55 (by decide) (fun c_55 => ?_) (fun c_55 => ?_)
          · have ql : ¬ (z < x ∨ v < y) := by simp only [le_i, lt_i] at *; omega
            rw [show cpT x y z v p q = 0 by rw [cpT, if_pos qq, if_neg ql], cpR, if_pos qq, if_neg ql]
            obtain ⟨a0, ha0, hv, -⟩ := nI_ex (x := x) (n := 8) (by simp only [inSh] at qq; omega) (by simp only [inSh] at qq; omega)
            subst hv
            obtain ⟨a, rfl⟩ : ∃ a, a0 = a + 1 := ⟨a0 - 1, by simp only [inSh, nI_toInt (n := a0) (by omega)] at qq; omega⟩
            obtain ⟨c0, hc0, hv, -⟩ := nI_ex (x := y) (n := 6) (by simp only [inSh] at qq; omega) (by simp only [inSh] at qq; omega)
            subst hv
            obtain ⟨c, rfl⟩ : ∃ a, c0 = a + 1 := ⟨c0 - 1, by simp only [inSh, nI_toInt (n := c0) (by omega)] at qq; omega⟩
            obtain ⟨d0, hd0, hv, -⟩ := nI_ex (x := z) (n := 8) (by simp only [inSh] at qq; omega) (by simp only [inSh] at qq; omega)
            subst hv
            obtain ⟨d, rfl⟩ : ∃ a, d0 = a + 1 := ⟨d0 - 1, by simp only [inSh, nI_toInt (n := d0) (by omega)] at qq; omega⟩
            obtain ⟨e0, he0, hv, -⟩ := nI_ex (x := v) (n := 6) (by simp only [inSh] at qq; omega) (by simp only [inSh] at qq; omega)
            subst hv
            obtain ⟨e, rfl⟩ : ∃ a, e0 = a + 1 := ⟨e0 - 1, by simp only [inSh, nI_toInt (n := e0) (by omega)] at qq; omega⟩
            obtain ⟨r0, hr0, hv, -⟩ := nI_ex (x := p) (n := 8) (by simp only [inSh] at qq; omega) (by simp only [inSh] at qq; omega)
            subst hv
            obtain ⟨r, rfl⟩ : ∃ a, r0 = a + 1 := ⟨r0 - 1, by simp only [inSh, nI_toInt (n := r0) (by omega)] at qq; omega⟩
            obtain ⟨s0, hs0, hv, -⟩ := nI_ex (x := q) (n := 6) (by simp only [inSh] at qq; omega) (by simp only [inSh] at qq; omega)
            subst hv
            obtain ⟨s, rfl⟩ : ∃ a, s0 = a + 1 := ⟨s0 - 1, by simp only [inSh, nI_toInt (n := s0) (by omega)] at qq; omega⟩
            simp only [inSh, nI_toInt (n := a + 1) (by omega), nI_toInt (n := c + 1) (by omega), nI_toInt (n := d + 1) (by omega), nI_toInt (n := e + 1) (by omega), nI_toInt (n := r + 1) (by omega), nI_toInt (n := s + 1) (by omega)] at qq
            have hce : c ≤ e := by rw [nI_leI (by omega) (by omega)] at c_55; omega
            have had : a ≤ d := by rw [nI_ltI (by omega) (by omega)] at c_49; omega
            rw [cp_n had (by omega) hce (by omega) (by omega) (by omega)]
            refine j_iload_n dX11_copy_66 rfl ?_
            refine j_iload_n dX11_copy_67 rfl ?_
            refine j_isub dX11_copy_68 ?_
            refine j_aload_n dX11_copy_69 rfl ?_
            refine j_getR dX11_copy_70 fl_X11_104 rfl (fcK fc 0 rfl rfl) (fcW fc) ?_
            refine j_getR dX11_copy_73 fl_X11_190 rfl (fcS fc).1 (fcS fc).2.1 ?_
            refine j_alen dX11_copy_76 (t := 1) (fcK fc 36 rfl rfl) (by decide) ?_
            rw [fcN fc 36 (c := 8) rfl rfl]
            refine j_iload dX11_copy_77 rfl ?_
            refine j_isub dX11_copy_79 ?_
            refine j_mmin dX11_copy_80 sl_X11_193 (by decide) (Nat.le_of_ble_eq_true rfl) ?_
            refine j_iconst (v := 1) dX11_copy_83 (by decide) ?_
            refine j_iadd dX11_copy_84 ?_
            rw [cp_h (n := 8) had (by omega) (by omega) (by decide)]
            refine j_istore dX11_copy_85 (by decide) ?_
            dsimp only [st1, st2, unL, List.set]
            refine j_iload dX11_copy_87 rfl ?_
            refine j_iload_n dX11_copy_89 rfl ?_
            refine j_isub dX11_copy_90 ?_
            refine j_aload_n dX11_copy_91 rfl ?_
            refine j_getR dX11_copy_92 fl_X11_104 rfl (fcK fc 0 rfl rfl) (fcW fc) ?_
            refine j_getR dX11_copy_95 fl_X11_197 rfl (fcS fc).1 (fcS fc).2.2.1 ?_
            refine j_alen dX11_copy_98 (t := 1) (fcK fc 37 rfl rfl) (by decide) ?_
            rw [fcN fc 37 (c := 6) rfl rfl]
            refine j_iload dX11_copy_99 rfl ?_
            refine j_isub dX11_copy_101 ?_
            refine j_mmin dX11_copy_102 sl_X11_193 (by decide) (Nat.le_of_ble_eq_true rfl) ?_
            refine j_iconst (v := 1) dX11_copy_105 (by decide) ?_
            refine j_iadd dX11_copy_106 ?_
            rw [cp_h (n := 6) hce (by omega) (by omega) (by decide)]
            refine j_istore dX11_copy_107 (by decide) ?_
            dsimp only [st1, st2, unL, List.set]
            refine j_aload_n dX11_copy_109 rfl ?_
            refine j_iload_n dX11_copy_110 rfl ?_
            refine j_iload_n dX11_copy_111 rfl ?_
            refine j_iload dX11_copy_112 rfl ?_
            refine j_iload dX11_copy_114 rfl ?_
            refine j_callV4 dX11_copy_116 vl_X11_200 (c_partsWithin fc (by omega) (by omega)) (fcK fc 0 rfl rfl) rfl (by decide) (by omega) (by omega) (Nat.le_of_ble_eq_true rfl) (fun v_116 u_116 p_116 => ?_)
            obtain ⟨e_116, rfl⟩ := p_116
            rw [e_116]
            clear e_116
            dsimp only [rs]
            refine j_istore dX11_copy_119 (by decide) ?_
            dsimp only [st1, st2, unL, List.set]
            refine j_iload dX11_copy_121 rfl ?_
            refine j_ldc dX11_copy_123 kl_X11_134 ?_
            refine j_aload_n dX11_copy_125 rfl ?_
            refine j_getI dX11_copy_126 fl_X11_135 rfl (fcK fc 0 rfl rfl) ?_
            rw [fcI fc 0 14 (0) (by decide)]
            refine j_isub dX11_copy_129 ?_
            refine j_icmp_le 141 dX11_copy_130 (by decide) (fun c_130 => ?_) (fun c_130 => ?_)
            · refine j_aload_n dX11_copy_141 rfl ?_
              refine j_dup dX11_copy_142 rfl ?_
              refine j_getI dX11_copy_143 fl_X11_135 rfl (fcK fc 0 rfl rfl) ?_
              rw [fcI fc 0 14 (0) (by decide)]
              refine j_iload dX11_copy_146 rfl ?_
              refine j_iadd dX11_copy_148 ?_
              refine j_putI dX11_copy_149 fl_X11_135 rfl rfl rfl (fcK fc 0 rfl rfl) ?_
              rw [pI_same (show hI h (b 0) 14 = 0 + 0 from fcI fc 0 14 0 (by decide))]
              refine j_aload_n dX11_copy_152 rfl ?_
              refine j_getR dX11_copy_153 fl_X11_104 rfl (fcK fc 0 rfl rfl) (fcW fc) ?_
              refine j_callV0 dX11_copy_156 vl_X11_100 (c_twin (fcS fc) (fcCel fc)) (fcS fc).1 rfl (by decide) (by omega) (by omega) (Nat.le_of_ble_eq_true rfl) (fun v_156 u_156 p_156 => ?_)
              obtain ⟨q2, xq, rfl, hq0, hxq0, hS2, hEx, -⟩ := p_156
              dsimp only [rs]
              refine j_astore dX11_copy_159 (by decide) ?_
              dsimp only [st1, st2, unL, List.set]
              refine j_iconst (v := 0) dX11_copy_161 (by decide) ?_
              refine j_istore dX11_copy_162 (by decide) ?_
              dsimp only [st1, st2, unL, List.set]
              refine j_lle (lv' := [some (vr (some (b 0))), some (vi (nI (a + 1))), some (vi (nI (c + 1))), some (vi (nI (d + 1))), some (vi (nI (e + 1))), some (vi (nI (r + 1))), some (vi (nI (s + 1))), some (vi (nI (min (d - a) (7 - r) + 1))), some (vi (nI (min (e - c) (5 - s) + 1))), some (vi 0), some (vr (some q2)), some (vi (nI 0)), none, none]) (by first | (simp [lle, nI_1]; done) | (simp [lle, nI_1]; rfl)) ?_
              exact l_cp1 fc hq0 hxq0 (by omega) (by omega) (by omega) (by omega) _ 0 _ (Nat.lt_succ_self _) ⟨by omega, hEx, hS2⟩
            · exact absurd (by decide) c_130
          · have eq : cpT x y z v p q = 2 := by rw [cpT, if_pos qq, if_pos (by simp only [le_i, lt_i] at *; omega)]
            exact j_throw (E := "java/lang/IllegalArgumentException") ⟨127, 129, by decide, dX11_copy_58, dX11_copy_61, dX11_copy_62, dX11_copy_65⟩ (by omega) (by omega) (Nat.le_of_ble_eq_true rfl) ⟨Fr_rf, by rw [eq]; decide, by rw [eq]; rfl⟩
      · have eq : cpT x y z v p q = 1 := by rw [cpT, if_neg (fun k => by first | exact b2_0.mp c_9 k.1 | exact b2_0.mp c_22 k.2.1 | exact b2_0.mp (Classical.not_not.mp c_36) k.2.2)]
        exact j_throw (E := "java/lang/IndexOutOfBoundsException") ⟨117, 119, by decide, dX11_copy_39, dX11_copy_42, dX11_copy_43, dX11_copy_46⟩ (by omega) (by omega) (Nat.le_of_ble_eq_true rfl) ⟨Fr_rf, by rw [eq]; decide, by rw [eq]; rfl⟩

