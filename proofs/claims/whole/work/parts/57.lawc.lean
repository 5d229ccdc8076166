/-! ===== the cases of the law ===== -/
theorem lc_self (x : Int64) : lg_cmp x x = 0 := by
  rw [lg_cmp, if_neg (fun z => by rw [gt_iff_lt, Int64.lt_iff_toInt_lt] at z; omega), if_pos rfl]
def am (g : Nat → Nat) (K2 : Hp → Prop) (r th : Int32) : Option Sv → Hp → Prop := fun v um => (th = 0 → v = some (vi r)) ∧ (∃ r', v = some (vi r')) ∧ MW um g ∧ hI um (g 0) 0 = th ∧ K2 um
set_option maxRecDepth 20000 in
theorem lw_feed {p : Program} {l : Launch} {e : Env} {s : State} {m : MethodId} {args : Array Value} {below : List Frame} {meth : Method} {c0 : Code} {Q : State → Prop} {D : va_G} {cy : Nat → ClassId} {A : Nat → Prop} {MC MS d : Nat} {post : Option Sv ⊕ String → Hp → Prop} {h hc hm : Hp} {x o b0 i L mc0 ms0 mc1 ms1 mc2 ms2 mc3 ms3 d2 : Nat} {g : Nat → Nat} {xs : Nat → Int32} {K K2 : Hp → Prop} {d1 : Nat} {r : Int32} (hX : va_X b0 L xs s s.heap) (hbl : b0 < s.heap.size) (hbA : ¬ A b0) (hi : i + 7 ≤ L) (hL : L < 4000) (S : LSt h hc hm o) (kx : hK hc x = 12) (km : hK hm (g 0) = 13) (con : Con mX11_feed d1 mc1 ms1 [vr (some x), vi (xs (i + 1)), vi (xs (i + 2)), vi (xs (i + 3)), vi (xs (i + 4)), vi (xs (i + 5))] hc (fun v u => v = some (vi r) ∧ K u)) (cnm : Con mX12_feed d2 mc2 ms2 [vr (some (g 0)), vi (xs (i + 1)), vi (xs (i + 2)), vi (xs (i + 3)), vi (xs (i + 4)), vi (xs (i + 5))] hm (fun v u => v = some (vi r) ∧ K2 u)) (hd7 : d1 < d) (hd2 : d2 < d) (hmc : mc1 + mc2 + mc3 ≤ mc0) (hms : ms1 + ms2 + ms3 ≤ ms0) (fin : ∀ u uc um, K uc → K2 um → LSt u uc um o → Jp mL_law p l e s m args below meth c0 Q D cy A MC MS d mc3 ms3 post 1884 [some (vr (some b0)), some (vr (some x)), some (vr (some (g 0))), some (vr (some o)), some (vi (nI i)), none, none] [] u) : Jp mL_law p l e s m args below meth c0 Q D cy A MC MS d mc0 ms0 post 176 [some (vr (some b0)), some (vr (some x)), some (vr (some (g 0))), some (vr (some o)), some (vi (nI i)), none, none] [] h := by
  refine jp_aload_n dL_law_176 rfl ?_
  refine jp_aload_n dL_law_177 rfl ?_
  refine jp_iload dL_law_178 rfl ?_
  refine jp_iconst (v := 1) dL_law_180 (by decide) ?_
  refine jp_iadd dL_law_181 ?_
  refine jp_sld (i + 1) dL_law_182 hX hbl hbA (by rw [li_1, nI_add]) (by omega) (by omega) ?_
  refine jp_aload_n dL_law_183 rfl ?_
  refine jp_iload dL_law_184 rfl ?_
  refine jp_iconst (v := 2) dL_law_186 (by decide) ?_
  refine jp_iadd dL_law_187 ?_
  refine jp_sld (i + 2) dL_law_188 hX hbl hbA (by rw [li_2, nI_add]) (by omega) (by omega) ?_
  refine jp_aload_n dL_law_189 rfl ?_
  refine jp_iload dL_law_190 rfl ?_
  refine jp_iconst (v := 3) dL_law_192 (by decide) ?_
  refine jp_iadd dL_law_193 ?_
  refine jp_sld (i + 3) dL_law_194 hX hbl hbA (by rw [li_3, nI_add]) (by omega) (by omega) ?_
  refine jp_aload_n dL_law_195 rfl ?_
  refine jp_iload dL_law_196 rfl ?_
  refine jp_iconst (v := 4) dL_law_198 (by decide) ?_
  refine jp_iadd dL_law_199 ?_
  refine jp_sld (i + 4) dL_law_200 hX hbl hbA (by rw [li_4, nI_add]) (by omega) (by omega) ?_
  refine jp_aload_n dL_law_201 rfl ?_
  refine jp_iload dL_law_202 rfl ?_
  refine jp_iconst (v := 5) dL_law_204 (by decide) ?_
  refine jp_iadd dL_law_205 ?_
  refine jp_sld (i + 5) dL_law_206 hX hbl hbA (by rw [li_5, nI_add]) (by omega) (by omega) ?_
  refine jp_callV5 dL_law_207 vl_L_82 (con_frame con S.1) ((S.1 x (by rw [kx]; decide)).1.trans kx) rfl hd7 (by omega) (by omega) (Nat.le_of_ble_eq_true rfl) (fun v_207 u_207 p_207 => ?_)
  obtain ⟨uc, ⟨rfl, hK1⟩, rfl, fr⟩ := p_207
  have S1 := LSt_c S fr
  dsimp only [rs]
  refine jp_aload_n dL_law_210 rfl ?_
  refine jp_aload_n dL_law_211 rfl ?_
  refine jp_iload dL_law_212 rfl ?_
  refine jp_iconst (v := 1) dL_law_214 (by decide) ?_
  refine jp_iadd dL_law_215 ?_
  refine jp_sld (i + 1) dL_law_216 hX hbl hbA (by rw [li_1, nI_add]) (by omega) (by omega) ?_
  refine jp_aload_n dL_law_217 rfl ?_
  refine jp_iload dL_law_218 rfl ?_
  refine jp_iconst (v := 2) dL_law_220 (by decide) ?_
  refine jp_iadd dL_law_221 ?_
  refine jp_sld (i + 2) dL_law_222 hX hbl hbA (by rw [li_2, nI_add]) (by omega) (by omega) ?_
  refine jp_aload_n dL_law_223 rfl ?_
  refine jp_iload dL_law_224 rfl ?_
  refine jp_iconst (v := 3) dL_law_226 (by decide) ?_
  refine jp_iadd dL_law_227 ?_
  refine jp_sld (i + 3) dL_law_228 hX hbl hbA (by rw [li_3, nI_add]) (by omega) (by omega) ?_
  refine jp_aload_n dL_law_229 rfl ?_
  refine jp_iload dL_law_230 rfl ?_
  refine jp_iconst (v := 4) dL_law_232 (by decide) ?_
  refine jp_iadd dL_law_233 ?_
  refine jp_sld (i + 4) dL_law_234 hX hbl hbA (by rw [li_4, nI_add]) (by omega) (by omega) ?_
  refine jp_aload_n dL_law_235 rfl ?_
  refine jp_iload dL_law_236 rfl ?_
  refine jp_iconst (v := 5) dL_law_238 (by decide) ?_
  refine jp_iadd dL_law_239 ?_
  refine jp_sld (i + 5) dL_law_240 hX hbl hbA (by rw [li_5, nI_add]) (by omega) (by omega) ?_
  refine jp_callV5 dL_law_241 vl_L_86 (con_frame cnm S1.1.2.1) ((S1.1.2.1 _ (by rw [km]; decide)).1.trans km) rfl hd2 (by omega) (by omega) (Nat.le_of_ble_eq_true rfl) (fun v_241 u_241 p_241 => ?_)
  obtain ⟨um, ⟨rfl, hk2⟩, rfl, fr2⟩ := p_241
  have S2 := LSt_m S1.1 fr2
  dsimp only [rs]
  refine jp_icmp_eq 1884 dL_law_244 (by decide) (fun c_244 => ?_) (fun c_244 => ?_)
  · exact jp_lle (by simp [lle]) (jp_mono (by omega) (by omega) (fin _ _ _ hK1 hk2 S2.1))
  · exact absurd rfl c_244

set_option maxRecDepth 20000 in
theorem lw_end {p : Program} {l : Launch} {e : Env} {s : State} {m : MethodId} {args : Array Value} {below : List Frame} {meth : Method} {c0 : Code} {Q : State → Prop} {D : va_G} {cy : Nat → ClassId} {A : Nat → Prop} {MC MS d : Nat} {post : Option Sv ⊕ String → Hp → Prop} {h hc hm : Hp} {x o b0 i L mc0 ms0 mc1 ms1 mc2 ms2 mc3 ms3 d2 : Nat} {g : Nat → Nat} {xs : Nat → Int32} {K K2 : Hp → Prop} {d1 : Nat} {r : Int32} (hX : va_X b0 L xs s s.heap) (hbl : b0 < s.heap.size) (hbA : ¬ A b0) (hi : i + 7 ≤ L) (hL : L < 4000) (S : LSt h hc hm o) (kx : hK hc x = 12) (km : hK hm (g 0) = 13) (con : Con mX11_end d1 mc1 ms1 [vr (some x), vi (xs (i + 1))] hc (fun v u => v = some (vi r) ∧ K u)) (cnm : Con mX12_end d2 mc2 ms2 [vr (some (g 0)), vi (xs (i + 1))] hm (fun v u => v = some (vi r) ∧ K2 u)) (hd7 : d1 < d) (hd2 : d2 < d) (hmc : mc1 + mc2 + mc3 ≤ mc0) (hms : ms1 + ms2 + ms3 ≤ ms0) (fin : ∀ u uc um, K uc → K2 um → LSt u uc um o → Jp mL_law p l e s m args below meth c0 Q D cy A MC MS d mc3 ms3 post 1884 [some (vr (some b0)), some (vr (some x)), some (vr (some (g 0))), some (vr (some o)), some (vi (nI i)), none, none] [] u) : Jp mL_law p l e s m args below meth c0 Q D cy A MC MS d mc0 ms0 post 249 [some (vr (some b0)), some (vr (some x)), some (vr (some (g 0))), some (vr (some o)), some (vi (nI i)), none, none] [] h := by
  refine jp_aload_n dL_law_249 rfl ?_
  refine jp_aload_n dL_law_250 rfl ?_
  refine jp_iload dL_law_251 rfl ?_
  refine jp_iconst (v := 1) dL_law_253 (by decide) ?_
  refine jp_iadd dL_law_254 ?_
  refine jp_sld (i + 1) dL_law_255 hX hbl hbA (by rw [li_1, nI_add]) (by omega) (by omega) ?_
  refine jp_callV1 dL_law_256 vl_L_87 (con_frame con S.1) ((S.1 x (by rw [kx]; decide)).1.trans kx) rfl hd7 (by omega) (by omega) (Nat.le_of_ble_eq_true rfl) (fun v_256 u_256 p_256 => ?_)
  obtain ⟨uc, ⟨rfl, hK1⟩, rfl, fr⟩ := p_256
  have S1 := LSt_c S fr
  dsimp only [rs]
  refine jp_aload_n dL_law_259 rfl ?_
  refine jp_aload_n dL_law_260 rfl ?_
  refine jp_iload dL_law_261 rfl ?_
  refine jp_iconst (v := 1) dL_law_263 (by decide) ?_
  refine jp_iadd dL_law_264 ?_
  refine jp_sld (i + 1) dL_law_265 hX hbl hbA (by rw [li_1, nI_add]) (by omega) (by omega) ?_
  refine jp_callV1 dL_law_266 vl_L_91 (con_frame cnm S1.1.2.1) ((S1.1.2.1 _ (by rw [km]; decide)).1.trans km) rfl hd2 (by omega) (by omega) (Nat.le_of_ble_eq_true rfl) (fun v_266 u_266 p_266 => ?_)
  obtain ⟨um, ⟨rfl, hk2⟩, rfl, fr2⟩ := p_266
  have S2 := LSt_m S1.1 fr2
  dsimp only [rs]
  refine jp_icmp_eq 1884 dL_law_269 (by decide) (fun c_269 => ?_) (fun c_269 => ?_)
  · exact jp_lle (by simp [lle]) (jp_mono (by omega) (by omega) (fin _ _ _ hK1 hk2 S2.1))
  · exact absurd rfl c_269

set_option maxRecDepth 20000 in
theorem lw_enter {p : Program} {l : Launch} {e : Env} {s : State} {m : MethodId} {args : Array Value} {below : List Frame} {meth : Method} {c0 : Code} {Q : State → Prop} {D : va_G} {cy : Nat → ClassId} {A : Nat → Prop} {MC MS d : Nat} {post : Option Sv ⊕ String → Hp → Prop} {h hc hm : Hp} {x o b0 i L mc0 ms0 mc1 ms1 mc2 ms2 mc3 ms3 d2 : Nat} {g : Nat → Nat} {xs : Nat → Int32} {K K2 : Hp → Prop} {d1 : Nat} {th r : Int32} (hX : va_X b0 L xs s s.heap) (hbl : b0 < s.heap.size) (hbA : ¬ A b0) (hi : i + 7 ≤ L) (hL : L < 4000) (S : LSt h hc hm o) (kx : hK hc x = 12) (km : hK hm (g 0) = 13) (hth : th = 0 ∨ th = 1 ∨ th = 2 ∨ th = 3) (con : ConX mX11_enter d1 mc1 ms1 [vr (some x), vi (xs (i + 1)), vi (xs (i + 2))] hc (py K ["java/lang/IndexOutOfBoundsException", "java/lang/IllegalArgumentException", "java/lang/UnsupportedOperationException"] th r)) (cnm : Con mX12_enter d2 mc2 ms2 [vr (some (g 0)), vi (xs (i + 1)), vi (xs (i + 2))] hm (am g K2 r th)) (hd7 : d1 + 1 < d) (hd2 : d2 < d) (hmc : mc1 + mc2 + mc3 ≤ mc0) (hms : ms1 + ms2 + ms3 ≤ ms0) (fin : ∀ u uc um, K uc → K2 um → LSt u uc um o → Jp mL_law p l e s m args below meth c0 Q D cy A MC MS d mc3 ms3 post 1884 [some (vr (some b0)), some (vr (some x)), some (vr (some (g 0))), some (vr (some o)), some (vi (nI i)), none, none] [] u) : Jp mL_law p l e s m args below meth c0 Q D cy A MC MS d mc0 ms0 post 274 [some (vr (some b0)), some (vr (some x)), some (vr (some (g 0))), some (vr (some o)), some (vi (nI i)), none, none] [] h := by
  refine jp_aload_n dL_law_274 rfl ?_
  refine jp_aload_n dL_law_275 rfl ?_
  refine jp_iload dL_law_276 rfl ?_
  refine jp_iconst (v := 1) dL_law_278 (by decide) ?_
  refine jp_iadd dL_law_279 ?_
  refine jp_sld (i + 1) dL_law_280 hX hbl hbA (by rw [li_1, nI_add]) (by omega) (by omega) ?_
  refine jp_aload_n dL_law_281 rfl ?_
  refine jp_iload dL_law_282 rfl ?_
  refine jp_iconst (v := 2) dL_law_284 (by decide) ?_
  refine jp_iadd dL_law_285 ?_
  refine jp_sld (i + 2) dL_law_286 hX hbl hbA (by rw [li_2, nI_add]) (by omega) (by omega) ?_
  refine jp_aload_n dL_law_287 rfl ?_
  refine jp_callH (as := [vr (some x), vi (xs (i + 1)), vi (xs (i + 2)), vr (some o)]) (st := []) dL_law_288 hl_L_92 (h_enter S kx hth con) rfl hd7 (by omega) (by omega) (Nat.le_of_ble_eq_true rfl) rfl (fun v_288 u0 p_288 => ?_)
  obtain ⟨rfl, uc, hK1, S1, hout⟩ := p_288
  dsimp only [rs]
  refine jp_istore dL_law_291 (by decide) ?_
  dsimp only [st1, st2, unL, List.set]
  refine jp_aload_n dL_law_293 rfl ?_
  refine jp_aload_n dL_law_294 rfl ?_
  refine jp_iload dL_law_295 rfl ?_
  refine jp_iconst (v := 1) dL_law_297 (by decide) ?_
  refine jp_iadd dL_law_298 ?_
  refine jp_sld (i + 1) dL_law_299 hX hbl hbA (by rw [li_1, nI_add]) (by omega) (by omega) ?_
  refine jp_aload_n dL_law_300 rfl ?_
  refine jp_iload dL_law_301 rfl ?_
  refine jp_iconst (v := 2) dL_law_303 (by decide) ?_
  refine jp_iadd dL_law_304 ?_
  refine jp_sld (i + 2) dL_law_305 hX hbl hbA (by rw [li_2, nI_add]) (by omega) (by omega) ?_
  refine jp_callV2 dL_law_306 vl_L_97 (con_frame cnm S1.2.1) ((S1.2.1 _ (by rw [km]; decide)).1.trans km) rfl hd2 (by omega) (by omega) (Nat.le_of_ble_eq_true rfl) (fun v_306 u_306 p_306 => ?_)
  obtain ⟨um, ⟨hr, ⟨r2, rfl⟩, hmw, hth2, hk2⟩, rfl, fr⟩ := p_306
  have S2 := LSt_m S1 fr
  dsimp only [rs]
  refine jp_istore dL_law_309 (by decide) ?_
  dsimp only [st1, st2, unL, List.set]
  refine jp_aload_n dL_law_311 rfl ?_
  refine jp_callV0 dL_law_312 vl_L_98 (con_frame (c_thrown hmw) S2.1.2.1) ((S2.1.2.1 _ (by rw [hmw.1]; decide)).1.trans hmw.1) rfl (by omega) (by omega) (by omega) (Nat.le_of_ble_eq_true rfl) (fun v_312 u_312 p_312 => ?_)
  obtain ⟨um2, ⟨rfl, rfl⟩, rfl, fr2⟩ := p_312
  have S3 := LSt_m S2.1 fr2
  dsimp only [rs]
  rw [hth2]
  refine jp_iload dL_law_315 rfl ?_
  refine jp_icmp_eq 322 dL_law_317 (by decide) (fun c_317 => ?_) (fun c_317 => ?_)
  · refine jp_iload dL_law_322 rfl ?_
    refine jp_if_ne 339 dL_law_324 (by decide) (fun c_324 => ?_) (fun c_324 => ?_)
    · refine jp_goto 1884 dL_law_339 (by decide) ?_
      exact jp_lle (by simp [lle]) (jp_mono (by omega) (by omega) (fin _ _ _ hK1 hk2 S3.1))
    · refine jp_aload_n dL_law_327 rfl ?_
      refine jp_iconst (v := 0) dL_law_328 (by decide) ?_
      have h0 : th = 0 := Classical.not_not.mp c_324
      have er : r2 = r := by
        have z := hr h0
        simpa using z
      have e0 := (congrFun S3.2 0).trans ((congrFun S2.2 0).trans (hout h0))
      refine jp_lald 0 dL_law_329 S3.1.2.2.2.1 rfl (by rw [S3.1.2.2.2.2.1]; decide) (by rw [S3.1.2.2.2.2.1]; decide) ?_
      rw [e0]
      refine jp_iload dL_law_330 rfl ?_
      refine jp_i2l dL_law_332 ?_
      refine jp_lcmp dL_law_333 ?_
      refine jp_if_eq 339 dL_law_334 (by decide) (fun c_334 => ?_) (fun c_334 => ?_)
      · refine jp_goto 1884 dL_law_339 (by decide) ?_
        exact jp_lle (by simp [lle]) (jp_mono (by omega) (by omega) (fin _ _ _ hK1 hk2 S3.1))
      · exact absurd (by rw [er]; exact lc_self _) c_334
  · exact absurd rfl c_317

set_option maxRecDepth 20000 in
theorem lw_fault {p : Program} {l : Launch} {e : Env} {s : State} {m : MethodId} {args : Array Value} {below : List Frame} {meth : Method} {c0 : Code} {Q : State → Prop} {D : va_G} {cy : Nat → ClassId} {A : Nat → Prop} {MC MS d : Nat} {post : Option Sv ⊕ String → Hp → Prop} {h hc hm : Hp} {x o b0 i L mc0 ms0 mc1 ms1 mc2 ms2 mc3 ms3 d2 : Nat} {g : Nat → Nat} {xs : Nat → Int32} {K K2 : Hp → Prop} {d1 : Nat} {r : Int32} (hX : va_X b0 L xs s s.heap) (hbl : b0 < s.heap.size) (hbA : ¬ A b0) (hi : i + 7 ≤ L) (hL : L < 4000) (S : LSt h hc hm o) (kx : hK hc x = 12) (km : hK hm (g 0) = 13) (con : Con mX11_fault d1 mc1 ms1 [vr (some x), vi (xs (i + 1))] hc (fun v u => v = some (vi r) ∧ K u)) (cnm : Con mX12_fault d2 mc2 ms2 [vr (some (g 0)), vi (xs (i + 1))] hm (fun v u => v = some (vi r) ∧ K2 u)) (hd7 : d1 < d) (hd2 : d2 < d) (hmc : mc1 + mc2 + mc3 ≤ mc0) (hms : ms1 + ms2 + ms3 ≤ ms0) (fin : ∀ u uc um, K uc → K2 um → LSt u uc um o → Jp mL_law p l e s m args below meth c0 Q D cy A MC MS d mc3 ms3 post 1884 [some (vr (some b0)), some (vr (some x)), some (vr (some (g 0))), some (vr (some o)), some (vi (nI i)), none, none] [] u) : Jp mL_law p l e s m args below meth c0 Q D cy A MC MS d mc0 ms0 post 342 [some (vr (some b0)), some (vr (some x)), some (vr (some (g 0))), some (vr (some o)), some (vi (nI i)), none, none] [] h := by
  refine jp_aload_n dL_law_342 rfl ?_
  refine jp_aload_n dL_law_343 rfl ?_
  refine jp_iload dL_law_344 rfl ?_
  refine jp_iconst (v := 1) dL_law_346 (by decide) ?_
  refine jp_iadd dL_law_347 ?_
  refine jp_sld (i + 1) dL_law_348 hX hbl hbA (by rw [li_1, nI_add]) (by omega) (by omega) ?_
  refine jp_callV1 dL_law_349 vl_L_101 (con_frame con S.1) ((S.1 x (by rw [kx]; decide)).1.trans kx) rfl hd7 (by omega) (by omega) (Nat.le_of_ble_eq_true rfl) (fun v_349 u_349 p_349 => ?_)
  obtain ⟨uc, ⟨rfl, hK1⟩, rfl, fr⟩ := p_349
  have S1 := LSt_c S fr
  dsimp only [rs]
  refine jp_aload_n dL_law_352 rfl ?_
  refine jp_aload_n dL_law_353 rfl ?_
  refine jp_iload dL_law_354 rfl ?_
  refine jp_iconst (v := 1) dL_law_356 (by decide) ?_
  refine jp_iadd dL_law_357 ?_
  refine jp_sld (i + 1) dL_law_358 hX hbl hbA (by rw [li_1, nI_add]) (by omega) (by omega) ?_
  refine jp_callV1 dL_law_359 vl_L_104 (con_frame cnm S1.1.2.1) ((S1.1.2.1 _ (by rw [km]; decide)).1.trans km) rfl hd2 (by omega) (by omega) (Nat.le_of_ble_eq_true rfl) (fun v_359 u_359 p_359 => ?_)
  obtain ⟨um, ⟨rfl, hk2⟩, rfl, fr2⟩ := p_359
  have S2 := LSt_m S1.1 fr2
  dsimp only [rs]
  refine jp_icmp_eq 1884 dL_law_362 (by decide) (fun c_362 => ?_) (fun c_362 => ?_)
  · exact jp_lle (by simp [lle]) (jp_mono (by omega) (by omega) (fin _ _ _ hK1 hk2 S2.1))
  · exact absurd rfl c_362

set_option maxRecDepth 20000 in
theorem lw_erase {p : Program} {l : Launch} {e : Env} {s : State} {m : MethodId} {args : Array Value} {below : List Frame} {meth : Method} {c0 : Code} {Q : State → Prop} {D : va_G} {cy : Nat → ClassId} {A : Nat → Prop} {MC MS d : Nat} {post : Option Sv ⊕ String → Hp → Prop} {h hc hm : Hp} {x o b0 i L mc0 ms0 mc1 ms1 mc2 ms2 mc3 ms3 d2 : Nat} {g : Nat → Nat} {xs : Nat → Int32} {K K2 : Hp → Prop} {d1 : Nat} {th r : Int32} (hX : va_X b0 L xs s s.heap) (hbl : b0 < s.heap.size) (hbA : ¬ A b0) (hi : i + 7 ≤ L) (hL : L < 4000) (S : LSt h hc hm o) (kx : hK hc x = 12) (km : hK hm (g 0) = 13) (hth : th = 0 ∨ th = 1 ∨ th = 2) (con : ConX mX11_erase d1 mc1 ms1 [vr (some x), vi (xs (i + 1)), vi (xs (i + 2)), vi (xs (i + 3)), vi (xs (i + 4))] hc (py K ["java/lang/IndexOutOfBoundsException", "java/lang/IllegalArgumentException"] th r)) (cnm : Con mX12_erase d2 mc2 ms2 [vr (some (g 0)), vi (xs (i + 1)), vi (xs (i + 2)), vi (xs (i + 3)), vi (xs (i + 4))] hm (am g K2 r th)) (hd7 : d1 + 1 < d) (hd2 : d2 < d) (hmc : mc1 + mc2 + mc3 ≤ mc0) (hms : ms1 + ms2 + ms3 ≤ ms0) (fin : ∀ u uc um, K uc → K2 um → LSt u uc um o → Jp mL_law p l e s m args below meth c0 Q D cy A MC MS d mc3 ms3 post 1884 [some (vr (some b0)), some (vr (some x)), some (vr (some (g 0))), some (vr (some o)), some (vi (nI i)), none, none] [] u) : Jp mL_law p l e s m args below meth c0 Q D cy A MC MS d mc0 ms0 post 367 [some (vr (some b0)), some (vr (some x)), some (vr (some (g 0))), some (vr (some o)), some (vi (nI i)), none, none] [] h := by
  refine jp_aload_n dL_law_367 rfl ?_
  refine jp_aload_n dL_law_368 rfl ?_
  refine jp_iload dL_law_369 rfl ?_
  refine jp_iconst (v := 1) dL_law_371 (by decide) ?_
  refine jp_iadd dL_law_372 ?_
  refine jp_sld (i + 1) dL_law_373 hX hbl hbA (by rw [li_1, nI_add]) (by omega) (by omega) ?_
  refine jp_aload_n dL_law_374 rfl ?_
  refine jp_iload dL_law_375 rfl ?_
  refine jp_iconst (v := 2) dL_law_377 (by decide) ?_
  refine jp_iadd dL_law_378 ?_
  refine jp_sld (i + 2) dL_law_379 hX hbl hbA (by rw [li_2, nI_add]) (by omega) (by omega) ?_
  refine jp_aload_n dL_law_380 rfl ?_
  refine jp_iload dL_law_381 rfl ?_
  refine jp_iconst (v := 3) dL_law_383 (by decide) ?_
  refine jp_iadd dL_law_384 ?_
  refine jp_sld (i + 3) dL_law_385 hX hbl hbA (by rw [li_3, nI_add]) (by omega) (by omega) ?_
  refine jp_aload_n dL_law_386 rfl ?_
  refine jp_iload dL_law_387 rfl ?_
  refine jp_iconst (v := 4) dL_law_389 (by decide) ?_
  refine jp_iadd dL_law_390 ?_
  refine jp_sld (i + 4) dL_law_391 hX hbl hbA (by rw [li_4, nI_add]) (by omega) (by omega) ?_
  refine jp_aload_n dL_law_392 rfl ?_
  refine jp_callH (as := [vr (some x), vi (xs (i + 1)), vi (xs (i + 2)), vi (xs (i + 3)), vi (xs (i + 4)), vr (some o)]) (st := []) dL_law_393 hl_L_105 (h_erase S kx hth con) rfl hd7 (by omega) (by omega) (Nat.le_of_ble_eq_true rfl) rfl (fun v_393 u0 p_393 => ?_)
  obtain ⟨rfl, uc, hK1, S1, hout⟩ := p_393
  dsimp only [rs]
  refine jp_istore dL_law_396 (by decide) ?_
  dsimp only [st1, st2, unL, List.set]
  refine jp_aload_n dL_law_398 rfl ?_
  refine jp_aload_n dL_law_399 rfl ?_
  refine jp_iload dL_law_400 rfl ?_
  refine jp_iconst (v := 1) dL_law_402 (by decide) ?_
  refine jp_iadd dL_law_403 ?_
  refine jp_sld (i + 1) dL_law_404 hX hbl hbA (by rw [li_1, nI_add]) (by omega) (by omega) ?_
  refine jp_aload_n dL_law_405 rfl ?_
  refine jp_iload dL_law_406 rfl ?_
  refine jp_iconst (v := 2) dL_law_408 (by decide) ?_
  refine jp_iadd dL_law_409 ?_
  refine jp_sld (i + 2) dL_law_410 hX hbl hbA (by rw [li_2, nI_add]) (by omega) (by omega) ?_
  refine jp_aload_n dL_law_411 rfl ?_
  refine jp_iload dL_law_412 rfl ?_
  refine jp_iconst (v := 3) dL_law_414 (by decide) ?_
  refine jp_iadd dL_law_415 ?_
  refine jp_sld (i + 3) dL_law_416 hX hbl hbA (by rw [li_3, nI_add]) (by omega) (by omega) ?_
  refine jp_aload_n dL_law_417 rfl ?_
  refine jp_iload dL_law_418 rfl ?_
  refine jp_iconst (v := 4) dL_law_420 (by decide) ?_
  refine jp_iadd dL_law_421 ?_
  refine jp_sld (i + 4) dL_law_422 hX hbl hbA (by rw [li_4, nI_add]) (by omega) (by omega) ?_
  refine jp_callV4 dL_law_423 vl_L_108 (con_frame cnm S1.2.1) ((S1.2.1 _ (by rw [km]; decide)).1.trans km) rfl hd2 (by omega) (by omega) (Nat.le_of_ble_eq_true rfl) (fun v_423 u_423 p_423 => ?_)
  obtain ⟨um, ⟨hr, ⟨r2, rfl⟩, hmw, hth2, hk2⟩, rfl, fr⟩ := p_423
  have S2 := LSt_m S1 fr
  dsimp only [rs]
  refine jp_istore dL_law_426 (by decide) ?_
  dsimp only [st1, st2, unL, List.set]
  refine jp_aload_n dL_law_428 rfl ?_
  refine jp_callV0 dL_law_429 vl_L_98 (con_frame (c_thrown hmw) S2.1.2.1) ((S2.1.2.1 _ (by rw [hmw.1]; decide)).1.trans hmw.1) rfl (by omega) (by omega) (by omega) (Nat.le_of_ble_eq_true rfl) (fun v_429 u_429 p_429 => ?_)
  obtain ⟨um2, ⟨rfl, rfl⟩, rfl, fr2⟩ := p_429
  have S3 := LSt_m S2.1 fr2
  dsimp only [rs]
  rw [hth2]
  refine jp_iload dL_law_432 rfl ?_
  refine jp_icmp_eq 439 dL_law_434 (by decide) (fun c_434 => ?_) (fun c_434 => ?_)
  · refine jp_iload dL_law_439 rfl ?_
    refine jp_if_ne 456 dL_law_441 (by decide) (fun c_441 => ?_) (fun c_441 => ?_)
    · refine jp_goto 1884 dL_law_456 (by decide) ?_
      exact jp_lle (by simp [lle]) (jp_mono (by omega) (by omega) (fin _ _ _ hK1 hk2 S3.1))
    · refine jp_aload_n dL_law_444 rfl ?_
      refine jp_iconst (v := 0) dL_law_445 (by decide) ?_
      have h0 : th = 0 := Classical.not_not.mp c_441
      have er : r2 = r := by
        have z := hr h0
        simpa using z
      have e0 := (congrFun S3.2 0).trans ((congrFun S2.2 0).trans (hout h0))
      refine jp_lald 0 dL_law_446 S3.1.2.2.2.1 rfl (by rw [S3.1.2.2.2.2.1]; decide) (by rw [S3.1.2.2.2.2.1]; decide) ?_
      rw [e0]
      refine jp_iload dL_law_447 rfl ?_
      refine jp_i2l dL_law_449 ?_
      refine jp_lcmp dL_law_450 ?_
      refine jp_if_eq 456 dL_law_451 (by decide) (fun c_451 => ?_) (fun c_451 => ?_)
      · refine jp_goto 1884 dL_law_456 (by decide) ?_
        exact jp_lle (by simp [lle]) (jp_mono (by omega) (by omega) (fin _ _ _ hK1 hk2 S3.1))
      · exact absurd (by rw [er]; exact lc_self _) c_451
  · exact absurd rfl c_434

set_option maxRecDepth 20000 in
theorem lw_insert {p : Program} {l : Launch} {e : Env} {s : State} {m : MethodId} {args : Array Value} {below : List Frame} {meth : Method} {c0 : Code} {Q : State → Prop} {D : va_G} {cy : Nat → ClassId} {A : Nat → Prop} {MC MS d : Nat} {post : Option Sv ⊕ String → Hp → Prop} {h hc hm : Hp} {x o b0 i L mc0 ms0 mc1 ms1 mc2 ms2 mc3 ms3 d2 : Nat} {g : Nat → Nat} {xs : Nat → Int32} {K K2 : Hp → Prop} {d1 : Nat} {th r : Int32} (hX : va_X b0 L xs s s.heap) (hbl : b0 < s.heap.size) (hbA : ¬ A b0) (hi : i + 7 ≤ L) (hL : L < 4000) (S : LSt h hc hm o) (kx : hK hc x = 12) (km : hK hm (g 0) = 13) (hth : th = 0 ∨ th = 1 ∨ th = 2 ∨ th = 3) (con : ConX mX11_insert d1 mc1 ms1 [vr (some x), vi (xs (i + 1)), vi (xs (i + 2))] hc (py K ["java/lang/IllegalArgumentException", "java/lang/IndexOutOfBoundsException", "java/lang/IllegalStateException"] th r)) (cnm : Con mX12_insert d2 mc2 ms2 [vr (some (g 0)), vi (xs (i + 1)), vi (xs (i + 2))] hm (am g K2 r th)) (hd7 : d1 + 1 < d) (hd2 : d2 < d) (hmc : mc1 + mc2 + mc3 ≤ mc0) (hms : ms1 + ms2 + ms3 ≤ ms0) (fin : ∀ u uc um, K uc → K2 um → LSt u uc um o → Jp mL_law p l e s m args below meth c0 Q D cy A MC MS d mc3 ms3 post 1884 [some (vr (some b0)), some (vr (some x)), some (vr (some (g 0))), some (vr (some o)), some (vi (nI i)), none, none] [] u) : Jp mL_law p l e s m args below meth c0 Q D cy A MC MS d mc0 ms0 post 459 [some (vr (some b0)), some (vr (some x)), some (vr (some (g 0))), some (vr (some o)), some (vi (nI i)), none, none] [] h := by
  refine jp_aload_n dL_law_459 rfl ?_
  refine jp_aload_n dL_law_460 rfl ?_
  refine jp_iload dL_law_461 rfl ?_
  refine jp_iconst (v := 1) dL_law_463 (by decide) ?_
  refine jp_iadd dL_law_464 ?_
  refine jp_sld (i + 1) dL_law_465 hX hbl hbA (by rw [li_1, nI_add]) (by omega) (by omega) ?_
  refine jp_aload_n dL_law_466 rfl ?_
  refine jp_iload dL_law_467 rfl ?_
  refine jp_iconst (v := 2) dL_law_469 (by decide) ?_
  refine jp_iadd dL_law_470 ?_
  refine jp_sld (i + 2) dL_law_471 hX hbl hbA (by rw [li_2, nI_add]) (by omega) (by omega) ?_
  refine jp_aload_n dL_law_472 rfl ?_
  refine jp_callH (as := [vr (some x), vi (xs (i + 1)), vi (xs (i + 2)), vr (some o)]) (st := []) dL_law_473 hl_L_109 (h_insert S kx hth con) rfl hd7 (by omega) (by omega) (Nat.le_of_ble_eq_true rfl) rfl (fun v_473 u0 p_473 => ?_)
  obtain ⟨rfl, uc, hK1, S1, hout⟩ := p_473
  dsimp only [rs]
  refine jp_istore dL_law_476 (by decide) ?_
  dsimp only [st1, st2, unL, List.set]
  refine jp_aload_n dL_law_478 rfl ?_
  refine jp_aload_n dL_law_479 rfl ?_
  refine jp_iload dL_law_480 rfl ?_
  refine jp_iconst (v := 1) dL_law_482 (by decide) ?_
  refine jp_iadd dL_law_483 ?_
  refine jp_sld (i + 1) dL_law_484 hX hbl hbA (by rw [li_1, nI_add]) (by omega) (by omega) ?_
  refine jp_aload_n dL_law_485 rfl ?_
  refine jp_iload dL_law_486 rfl ?_
  refine jp_iconst (v := 2) dL_law_488 (by decide) ?_
  refine jp_iadd dL_law_489 ?_
  refine jp_sld (i + 2) dL_law_490 hX hbl hbA (by rw [li_2, nI_add]) (by omega) (by omega) ?_
  refine jp_callV2 dL_law_491 vl_L_111 (con_frame cnm S1.2.1) ((S1.2.1 _ (by rw [km]; decide)).1.trans km) rfl hd2 (by omega) (by omega) (Nat.le_of_ble_eq_true rfl) (fun v_491 u_491 p_491 => ?_)
  obtain ⟨um, ⟨hr, ⟨r2, rfl⟩, hmw, hth2, hk2⟩, rfl, fr⟩ := p_491
  have S2 := LSt_m S1 fr
  dsimp only [rs]
  refine jp_istore dL_law_494 (by decide) ?_
  dsimp only [st1, st2, unL, List.set]
  refine jp_aload_n dL_law_496 rfl ?_
  refine jp_callV0 dL_law_497 vl_L_98 (con_frame (c_thrown hmw) S2.1.2.1) ((S2.1.2.1 _ (by rw [hmw.1]; decide)).1.trans hmw.1) rfl (by omega) (by omega) (by omega) (Nat.le_of_ble_eq_true rfl) (fun v_497 u_497 p_497 => ?_)
  obtain ⟨um2, ⟨rfl, rfl⟩, rfl, fr2⟩ := p_497
  have S3 := LSt_m S2.1 fr2
  dsimp only [rs]
  rw [hth2]
  refine jp_iload dL_law_500 rfl ?_
  refine jp_icmp_eq 507 dL_law_502 (by decide) (fun c_502 => ?_) (fun c_502 => ?_)
  · refine jp_iload dL_law_507 rfl ?_
    refine jp_if_ne 524 dL_law_509 (by decide) (fun c_509 => ?_) (fun c_509 => ?_)
    · refine jp_goto 1884 dL_law_524 (by decide) ?_
      exact jp_lle (by simp [lle]) (jp_mono (by omega) (by omega) (fin _ _ _ hK1 hk2 S3.1))
    · refine jp_aload_n dL_law_512 rfl ?_
      refine jp_iconst (v := 0) dL_law_513 (by decide) ?_
      have h0 : th = 0 := Classical.not_not.mp c_509
      have er : r2 = r := by
        have z := hr h0
        simpa using z
      have e0 := (congrFun S3.2 0).trans ((congrFun S2.2 0).trans (hout h0))
      refine jp_lald 0 dL_law_514 S3.1.2.2.2.1 rfl (by rw [S3.1.2.2.2.2.1]; decide) (by rw [S3.1.2.2.2.2.1]; decide) ?_
      rw [e0]
      refine jp_iload dL_law_515 rfl ?_
      refine jp_i2l dL_law_517 ?_
      refine jp_lcmp dL_law_518 ?_
      refine jp_if_eq 524 dL_law_519 (by decide) (fun c_519 => ?_) (fun c_519 => ?_)
      · refine jp_goto 1884 dL_law_524 (by decide) ?_
        exact jp_lle (by simp [lle]) (jp_mono (by omega) (by omega) (fin _ _ _ hK1 hk2 S3.1))
      · exact absurd (by rw [er]; exact lc_self _) c_519
  · exact absurd rfl c_502

set_option maxRecDepth 20000 in
theorem lw_remove {p : Program} {l : Launch} {e : Env} {s : State} {m : MethodId} {args : Array Value} {below : List Frame} {meth : Method} {c0 : Code} {Q : State → Prop} {D : va_G} {cy : Nat → ClassId} {A : Nat → Prop} {MC MS d : Nat} {post : Option Sv ⊕ String → Hp → Prop} {h hc hm : Hp} {x o b0 i L mc0 ms0 mc1 ms1 mc2 ms2 mc3 ms3 d2 : Nat} {g : Nat → Nat} {xs : Nat → Int32} {K K2 : Hp → Prop} {d1 : Nat} {th r : Int32} (hX : va_X b0 L xs s s.heap) (hbl : b0 < s.heap.size) (hbA : ¬ A b0) (hi : i + 7 ≤ L) (hL : L < 4000) (S : LSt h hc hm o) (kx : hK hc x = 12) (km : hK hm (g 0) = 13) (hth : th = 0 ∨ th = 1 ∨ th = 2 ∨ th = 3) (con : ConX mX11_remove d1 mc1 ms1 [vr (some x), vi (xs (i + 1)), vi (xs (i + 2))] hc (py K ["java/lang/IllegalArgumentException", "java/lang/IndexOutOfBoundsException", "java/lang/IllegalStateException"] th r)) (cnm : Con mX12_remove d2 mc2 ms2 [vr (some (g 0)), vi (xs (i + 1)), vi (xs (i + 2))] hm (am g K2 r th)) (hd7 : d1 + 1 < d) (hd2 : d2 < d) (hmc : mc1 + mc2 + mc3 ≤ mc0) (hms : ms1 + ms2 + ms3 ≤ ms0) (fin : ∀ u uc um, K uc → K2 um → LSt u uc um o → Jp mL_law p l e s m args below meth c0 Q D cy A MC MS d mc3 ms3 post 1884 [some (vr (some b0)), some (vr (some x)), some (vr (some (g 0))), some (vr (some o)), some (vi (nI i)), none, none] [] u) : Jp mL_law p l e s m args below meth c0 Q D cy A MC MS d mc0 ms0 post 527 [some (vr (some b0)), some (vr (some x)), some (vr (some (g 0))), some (vr (some o)), some (vi (nI i)), none, none] [] h := by
  refine jp_aload_n dL_law_527 rfl ?_
  refine jp_aload_n dL_law_528 rfl ?_
  refine jp_iload dL_law_529 rfl ?_
  refine jp_iconst (v := 1) dL_law_531 (by decide) ?_
  refine jp_iadd dL_law_532 ?_
  refine jp_sld (i + 1) dL_law_533 hX hbl hbA (by rw [li_1, nI_add]) (by omega) (by omega) ?_
  refine jp_aload_n dL_law_534 rfl ?_
  refine jp_iload dL_law_535 rfl ?_
  refine jp_iconst (v := 2) dL_law_537 (by decide) ?_
  refine jp_iadd dL_law_538 ?_
  refine jp_sld (i + 2) dL_law_539 hX hbl hbA (by rw [li_2, nI_add]) (by omega) (by omega) ?_
  refine jp_aload_n dL_law_540 rfl ?_
  refine jp_callH (as := [vr (some x), vi (xs (i + 1)), vi (xs (i + 2)), vr (some o)]) (st := []) dL_law_541 hl_L_112 (h_remove S kx hth con) rfl hd7 (by omega) (by omega) (Nat.le_of_ble_eq_true rfl) rfl (fun v_541 u0 p_541 => ?_)
  obtain ⟨rfl, uc, hK1, S1, hout⟩ := p_541
  dsimp only [rs]
  refine jp_istore dL_law_544 (by decide) ?_
  dsimp only [st1, st2, unL, List.set]
  refine jp_aload_n dL_law_546 rfl ?_
  refine jp_aload_n dL_law_547 rfl ?_
  refine jp_iload dL_law_548 rfl ?_
  refine jp_iconst (v := 1) dL_law_550 (by decide) ?_
  refine jp_iadd dL_law_551 ?_
  refine jp_sld (i + 1) dL_law_552 hX hbl hbA (by rw [li_1, nI_add]) (by omega) (by omega) ?_
  refine jp_aload_n dL_law_553 rfl ?_
  refine jp_iload dL_law_554 rfl ?_
  refine jp_iconst (v := 2) dL_law_556 (by decide) ?_
  refine jp_iadd dL_law_557 ?_
  refine jp_sld (i + 2) dL_law_558 hX hbl hbA (by rw [li_2, nI_add]) (by omega) (by omega) ?_
  refine jp_callV2 dL_law_559 vl_L_114 (con_frame cnm S1.2.1) ((S1.2.1 _ (by rw [km]; decide)).1.trans km) rfl hd2 (by omega) (by omega) (Nat.le_of_ble_eq_true rfl) (fun v_559 u_559 p_559 => ?_)
  obtain ⟨um, ⟨hr, ⟨r2, rfl⟩, hmw, hth2, hk2⟩, rfl, fr⟩ := p_559
  have S2 := LSt_m S1 fr
  dsimp only [rs]
  refine jp_istore dL_law_562 (by decide) ?_
  dsimp only [st1, st2, unL, List.set]
  refine jp_aload_n dL_law_564 rfl ?_
  refine jp_callV0 dL_law_565 vl_L_98 (con_frame (c_thrown hmw) S2.1.2.1) ((S2.1.2.1 _ (by rw [hmw.1]; decide)).1.trans hmw.1) rfl (by omega) (by omega) (by omega) (Nat.le_of_ble_eq_true rfl) (fun v_565 u_565 p_565 => ?_)
  obtain ⟨um2, ⟨rfl, rfl⟩, rfl, fr2⟩ := p_565
  have S3 := LSt_m S2.1 fr2
  dsimp only [rs]
  rw [hth2]
  refine jp_iload dL_law_568 rfl ?_
  refine jp_icmp_eq 575 dL_law_570 (by decide) (fun c_570 => ?_) (fun c_570 => ?_)
  · refine jp_iload dL_law_575 rfl ?_
    refine jp_if_ne 592 dL_law_577 (by decide) (fun c_577 => ?_) (fun c_577 => ?_)
    · refine jp_goto 1884 dL_law_592 (by decide) ?_
      exact jp_lle (by simp [lle]) (jp_mono (by omega) (by omega) (fin _ _ _ hK1 hk2 S3.1))
    · refine jp_aload_n dL_law_580 rfl ?_
      refine jp_iconst (v := 0) dL_law_581 (by decide) ?_
      have h0 : th = 0 := Classical.not_not.mp c_577
      have er : r2 = r := by
        have z := hr h0
        simpa using z
      have e0 := (congrFun S3.2 0).trans ((congrFun S2.2 0).trans (hout h0))
      refine jp_lald 0 dL_law_582 S3.1.2.2.2.1 rfl (by rw [S3.1.2.2.2.2.1]; decide) (by rw [S3.1.2.2.2.2.1]; decide) ?_
      rw [e0]
      refine jp_iload dL_law_583 rfl ?_
      refine jp_i2l dL_law_585 ?_
      refine jp_lcmp dL_law_586 ?_
      refine jp_if_eq 592 dL_law_587 (by decide) (fun c_587 => ?_) (fun c_587 => ?_)
      · refine jp_goto 1884 dL_law_592 (by decide) ?_
        exact jp_lle (by simp [lle]) (jp_mono (by omega) (by omega) (fin _ _ _ hK1 hk2 S3.1))
      · exact absurd (by rw [er]; exact lc_self _) c_587
  · exact absurd rfl c_570

set_option maxRecDepth 20000 in
theorem lw_move {p : Program} {l : Launch} {e : Env} {s : State} {m : MethodId} {args : Array Value} {below : List Frame} {meth : Method} {c0 : Code} {Q : State → Prop} {D : va_G} {cy : Nat → ClassId} {A : Nat → Prop} {MC MS d : Nat} {post : Option Sv ⊕ String → Hp → Prop} {h hc hm : Hp} {x o b0 i L mc0 ms0 mc1 ms1 mc2 ms2 mc3 ms3 d2 : Nat} {g : Nat → Nat} {xs : Nat → Int32} {K K2 : Hp → Prop} {d1 : Nat} {th r : Int32} (hX : va_X b0 L xs s s.heap) (hbl : b0 < s.heap.size) (hbA : ¬ A b0) (hi : i + 7 ≤ L) (hL : L < 4000) (S : LSt h hc hm o) (kx : hK hc x = 12) (km : hK hm (g 0) = 13) (hth : th = 0 ∨ th = 1 ∨ th = 2) (con : ConX mX11_move d1 mc1 ms1 [vr (some x), vi (xs (i + 1)), vi (xs (i + 2)), vi (xs (i + 3))] hc (py K ["java/lang/IllegalArgumentException", "java/lang/IndexOutOfBoundsException"] th r)) (cnm : Con mX12_move d2 mc2 ms2 [vr (some (g 0)), vi (xs (i + 1)), vi (xs (i + 2)), vi (xs (i + 3))] hm (am g K2 r th)) (hd7 : d1 + 1 < d) (hd2 : d2 < d) (hmc : mc1 + mc2 + mc3 ≤ mc0) (hms : ms1 + ms2 + ms3 ≤ ms0) (fin : ∀ u uc um, K uc → K2 um → LSt u uc um o → Jp mL_law p l e s m args below meth c0 Q D cy A MC MS d mc3 ms3 post 1884 [some (vr (some b0)), some (vr (some x)), some (vr (some (g 0))), some (vr (some o)), some (vi (nI i)), none, none] [] u) : Jp mL_law p l e s m args below meth c0 Q D cy A MC MS d mc0 ms0 post 595 [some (vr (some b0)), some (vr (some x)), some (vr (some (g 0))), some (vr (some o)), some (vi (nI i)), none, none] [] h := by
  refine jp_aload_n dL_law_595 rfl ?_
  refine jp_aload_n dL_law_596 rfl ?_
  refine jp_iload dL_law_597 rfl ?_
  refine jp_iconst (v := 1) dL_law_599 (by decide) ?_
  refine jp_iadd dL_law_600 ?_
  refine jp_sld (i + 1) dL_law_601 hX hbl hbA (by rw [li_1, nI_add]) (by omega) (by omega) ?_
  refine jp_aload_n dL_law_602 rfl ?_
  refine jp_iload dL_law_603 rfl ?_
  refine jp_iconst (v := 2) dL_law_605 (by decide) ?_
  refine jp_iadd dL_law_606 ?_
  refine jp_sld (i + 2) dL_law_607 hX hbl hbA (by rw [li_2, nI_add]) (by omega) (by omega) ?_
  refine jp_aload_n dL_law_608 rfl ?_
  refine jp_iload dL_law_609 rfl ?_
  refine jp_iconst (v := 3) dL_law_611 (by decide) ?_
  refine jp_iadd dL_law_612 ?_
  refine jp_sld (i + 3) dL_law_613 hX hbl hbA (by rw [li_3, nI_add]) (by omega) (by omega) ?_
  refine jp_aload_n dL_law_614 rfl ?_
  refine jp_callH (as := [vr (some x), vi (xs (i + 1)), vi (xs (i + 2)), vi (xs (i + 3)), vr (some o)]) (st := []) dL_law_615 hl_L_115 (h_move S kx hth con) rfl hd7 (by omega) (by omega) (Nat.le_of_ble_eq_true rfl) rfl (fun v_615 u0 p_615 => ?_)
  obtain ⟨rfl, uc, hK1, S1, hout⟩ := p_615
  dsimp only [rs]
  refine jp_istore dL_law_618 (by decide) ?_
  dsimp only [st1, st2, unL, List.set]
  refine jp_aload_n dL_law_620 rfl ?_
  refine jp_aload_n dL_law_621 rfl ?_
  refine jp_iload dL_law_622 rfl ?_
  refine jp_iconst (v := 1) dL_law_624 (by decide) ?_
  refine jp_iadd dL_law_625 ?_
  refine jp_sld (i + 1) dL_law_626 hX hbl hbA (by rw [li_1, nI_add]) (by omega) (by omega) ?_
  refine jp_aload_n dL_law_627 rfl ?_
  refine jp_iload dL_law_628 rfl ?_
  refine jp_iconst (v := 2) dL_law_630 (by decide) ?_
  refine jp_iadd dL_law_631 ?_
  refine jp_sld (i + 2) dL_law_632 hX hbl hbA (by rw [li_2, nI_add]) (by omega) (by omega) ?_
  refine jp_aload_n dL_law_633 rfl ?_
  refine jp_iload dL_law_634 rfl ?_
  refine jp_iconst (v := 3) dL_law_636 (by decide) ?_
  refine jp_iadd dL_law_637 ?_
  refine jp_sld (i + 3) dL_law_638 hX hbl hbA (by rw [li_3, nI_add]) (by omega) (by omega) ?_
  refine jp_callV3 dL_law_639 vl_L_118 (con_frame cnm S1.2.1) ((S1.2.1 _ (by rw [km]; decide)).1.trans km) rfl hd2 (by omega) (by omega) (Nat.le_of_ble_eq_true rfl) (fun v_639 u_639 p_639 => ?_)
  obtain ⟨um, ⟨hr, ⟨r2, rfl⟩, hmw, hth2, hk2⟩, rfl, fr⟩ := p_639
  have S2 := LSt_m S1 fr
  dsimp only [rs]
  refine jp_istore dL_law_642 (by decide) ?_
  dsimp only [st1, st2, unL, List.set]
  refine jp_aload_n dL_law_644 rfl ?_
  refine jp_callV0 dL_law_645 vl_L_98 (con_frame (c_thrown hmw) S2.1.2.1) ((S2.1.2.1 _ (by rw [hmw.1]; decide)).1.trans hmw.1) rfl (by omega) (by omega) (by omega) (Nat.le_of_ble_eq_true rfl) (fun v_645 u_645 p_645 => ?_)
  obtain ⟨um2, ⟨rfl, rfl⟩, rfl, fr2⟩ := p_645
  have S3 := LSt_m S2.1 fr2
  dsimp only [rs]
  rw [hth2]
  refine jp_iload dL_law_648 rfl ?_
  refine jp_icmp_eq 655 dL_law_650 (by decide) (fun c_650 => ?_) (fun c_650 => ?_)
  · refine jp_iload dL_law_655 rfl ?_
    refine jp_if_ne 672 dL_law_657 (by decide) (fun c_657 => ?_) (fun c_657 => ?_)
    · refine jp_goto 1884 dL_law_672 (by decide) ?_
      exact jp_lle (by simp [lle]) (jp_mono (by omega) (by omega) (fin _ _ _ hK1 hk2 S3.1))
    · refine jp_aload_n dL_law_660 rfl ?_
      refine jp_iconst (v := 0) dL_law_661 (by decide) ?_
      have h0 : th = 0 := Classical.not_not.mp c_657
      have er : r2 = r := by
        have z := hr h0
        simpa using z
      have e0 := (congrFun S3.2 0).trans ((congrFun S2.2 0).trans (hout h0))
      refine jp_lald 0 dL_law_662 S3.1.2.2.2.1 rfl (by rw [S3.1.2.2.2.2.1]; decide) (by rw [S3.1.2.2.2.2.1]; decide) ?_
      rw [e0]
      refine jp_iload dL_law_663 rfl ?_
      refine jp_i2l dL_law_665 ?_
      refine jp_lcmp dL_law_666 ?_
      refine jp_if_eq 672 dL_law_667 (by decide) (fun c_667 => ?_) (fun c_667 => ?_)
      · refine jp_goto 1884 dL_law_672 (by decide) ?_
        exact jp_lle (by simp [lle]) (jp_mono (by omega) (by omega) (fin _ _ _ hK1 hk2 S3.1))
      · exact absurd (by rw [er]; exact lc_self _) c_667
  · exact absurd rfl c_650

set_option maxRecDepth 20000 in
theorem lw_copy {p : Program} {l : Launch} {e : Env} {s : State} {m : MethodId} {args : Array Value} {below : List Frame} {meth : Method} {c0 : Code} {Q : State → Prop} {D : va_G} {cy : Nat → ClassId} {A : Nat → Prop} {MC MS d : Nat} {post : Option Sv ⊕ String → Hp → Prop} {h hc hm : Hp} {x o b0 i L mc0 ms0 mc1 ms1 mc2 ms2 mc3 ms3 d2 : Nat} {g : Nat → Nat} {xs : Nat → Int32} {K K2 : Hp → Prop} {d1 : Nat} {th r : Int32} (hX : va_X b0 L xs s s.heap) (hbl : b0 < s.heap.size) (hbA : ¬ A b0) (hi : i + 7 ≤ L) (hL : L < 4000) (S : LSt h hc hm o) (kx : hK hc x = 12) (km : hK hm (g 0) = 13) (hth : th = 0 ∨ th = 1 ∨ th = 2 ∨ th = 3) (con : ConX mX11_copy d1 mc1 ms1 [vr (some x), vi (xs (i + 1)), vi (xs (i + 2)), vi (xs (i + 3)), vi (xs (i + 4)), vi (xs (i + 5)), vi (xs (i + 6))] hc (py K ["java/lang/IndexOutOfBoundsException", "java/lang/IllegalArgumentException", "java/lang/UnsupportedOperationException"] th r)) (cnm : Con mX12_copy d2 mc2 ms2 [vr (some (g 0)), vi (xs (i + 1)), vi (xs (i + 2)), vi (xs (i + 3)), vi (xs (i + 4)), vi (xs (i + 5)), vi (xs (i + 6))] hm (am g K2 r th)) (hd7 : d1 + 1 < d) (hd2 : d2 < d) (hmc : mc1 + mc2 + mc3 ≤ mc0) (hms : ms1 + ms2 + ms3 ≤ ms0) (fin : ∀ u uc um, K uc → K2 um → LSt u uc um o → Jp mL_law p l e s m args below meth c0 Q D cy A MC MS d mc3 ms3 post 1884 [some (vr (some b0)), some (vr (some x)), some (vr (some (g 0))), some (vr (some o)), some (vi (nI i)), none, none] [] u) : Jp mL_law p l e s m args below meth c0 Q D cy A MC MS d mc0 ms0 post 675 [some (vr (some b0)), some (vr (some x)), some (vr (some (g 0))), some (vr (some o)), some (vi (nI i)), none, none] [] h := by
  refine jp_aload_n dL_law_675 rfl ?_
  refine jp_aload_n dL_law_676 rfl ?_
  refine jp_iload dL_law_677 rfl ?_
  refine jp_iconst (v := 1) dL_law_679 (by decide) ?_
  refine jp_iadd dL_law_680 ?_
  refine jp_sld (i + 1) dL_law_681 hX hbl hbA (by rw [li_1, nI_add]) (by omega) (by omega) ?_
  refine jp_aload_n dL_law_682 rfl ?_
  refine jp_iload dL_law_683 rfl ?_
  refine jp_iconst (v := 2) dL_law_685 (by decide) ?_
  refine jp_iadd dL_law_686 ?_
  refine jp_sld (i + 2) dL_law_687 hX hbl hbA (by rw [li_2, nI_add]) (by omega) (by omega) ?_
  refine jp_aload_n dL_law_688 rfl ?_
  refine jp_iload dL_law_689 rfl ?_
  refine jp_iconst (v := 3) dL_law_691 (by decide) ?_
  refine jp_iadd dL_law_692 ?_
  refine jp_sld (i + 3) dL_law_693 hX hbl hbA (by rw [li_3, nI_add]) (by omega) (by omega) ?_
  refine jp_aload_n dL_law_694 rfl ?_
  refine jp_iload dL_law_695 rfl ?_
  refine jp_iconst (v := 4) dL_law_697 (by decide) ?_
  refine jp_iadd dL_law_698 ?_
  refine jp_sld (i + 4) dL_law_699 hX hbl hbA (by rw [li_4, nI_add]) (by omega) (by omega) ?_
  refine jp_aload_n dL_law_700 rfl ?_
  refine jp_iload dL_law_701 rfl ?_
  refine jp_iconst (v := 5) dL_law_703 (by decide) ?_
  refine jp_iadd dL_law_704 ?_
  refine jp_sld (i + 5) dL_law_705 hX hbl hbA (by rw [li_5, nI_add]) (by omega) (by omega) ?_
  refine jp_aload_n dL_law_706 rfl ?_
  refine jp_iload dL_law_707 rfl ?_
  refine jp_bipush (v := 6) dL_law_709 (by decide) ?_
  refine jp_iadd dL_law_711 ?_
  refine jp_sld (i + 6) dL_law_712 hX hbl hbA (by rw [li_6, nI_add]) (by omega) (by omega) ?_
  refine jp_aload_n dL_law_713 rfl ?_
  refine jp_callH (as := [vr (some x), vi (xs (i + 1)), vi (xs (i + 2)), vi (xs (i + 3)), vi (xs (i + 4)), vi (xs (i + 5)), vi (xs (i + 6)), vr (some o)]) (st := []) dL_law_714 hl_L_119 (h_copy S kx hth con) rfl hd7 (by omega) (by omega) (Nat.le_of_ble_eq_true rfl) rfl (fun v_714 u0 p_714 => ?_)
  obtain ⟨rfl, uc, hK1, S1, hout⟩ := p_714
  dsimp only [rs]
  refine jp_istore dL_law_717 (by decide) ?_
  dsimp only [st1, st2, unL, List.set]
  refine jp_aload_n dL_law_719 rfl ?_
  refine jp_aload_n dL_law_720 rfl ?_
  refine jp_iload dL_law_721 rfl ?_
  refine jp_iconst (v := 1) dL_law_723 (by decide) ?_
  refine jp_iadd dL_law_724 ?_
  refine jp_sld (i + 1) dL_law_725 hX hbl hbA (by rw [li_1, nI_add]) (by omega) (by omega) ?_
  refine jp_aload_n dL_law_726 rfl ?_
  refine jp_iload dL_law_727 rfl ?_
  refine jp_iconst (v := 2) dL_law_729 (by decide) ?_
  refine jp_iadd dL_law_730 ?_
  refine jp_sld (i + 2) dL_law_731 hX hbl hbA (by rw [li_2, nI_add]) (by omega) (by omega) ?_
  refine jp_aload_n dL_law_732 rfl ?_
  refine jp_iload dL_law_733 rfl ?_
  refine jp_iconst (v := 3) dL_law_735 (by decide) ?_
  refine jp_iadd dL_law_736 ?_
  refine jp_sld (i + 3) dL_law_737 hX hbl hbA (by rw [li_3, nI_add]) (by omega) (by omega) ?_
  refine jp_aload_n dL_law_738 rfl ?_
  refine jp_iload dL_law_739 rfl ?_
  refine jp_iconst (v := 4) dL_law_741 (by decide) ?_
  refine jp_iadd dL_law_742 ?_
  refine jp_sld (i + 4) dL_law_743 hX hbl hbA (by rw [li_4, nI_add]) (by omega) (by omega) ?_
  refine jp_aload_n dL_law_744 rfl ?_
  refine jp_iload dL_law_745 rfl ?_
  refine jp_iconst (v := 5) dL_law_747 (by decide) ?_
  refine jp_iadd dL_law_748 ?_
  refine jp_sld (i + 5) dL_law_749 hX hbl hbA (by rw [li_5, nI_add]) (by omega) (by omega) ?_
  refine jp_aload_n dL_law_750 rfl ?_
  refine jp_iload dL_law_751 rfl ?_
  refine jp_bipush (v := 6) dL_law_753 (by decide) ?_
  refine jp_iadd dL_law_755 ?_
  refine jp_sld (i + 6) dL_law_756 hX hbl hbA (by rw [li_6, nI_add]) (by omega) (by omega) ?_
  refine jp_callV6 dL_law_757 vl_L_122 (con_frame cnm S1.2.1) ((S1.2.1 _ (by rw [km]; decide)).1.trans km) rfl hd2 (by omega) (by omega) (Nat.le_of_ble_eq_true rfl) (fun v_757 u_757 p_757 => ?_)
  obtain ⟨um, ⟨hr, ⟨r2, rfl⟩, hmw, hth2, hk2⟩, rfl, fr⟩ := p_757
  have S2 := LSt_m S1 fr
  dsimp only [rs]
  refine jp_istore dL_law_760 (by decide) ?_
  dsimp only [st1, st2, unL, List.set]
  refine jp_aload_n dL_law_762 rfl ?_
  refine jp_callV0 dL_law_763 vl_L_98 (con_frame (c_thrown hmw) S2.1.2.1) ((S2.1.2.1 _ (by rw [hmw.1]; decide)).1.trans hmw.1) rfl (by omega) (by omega) (by omega) (Nat.le_of_ble_eq_true rfl) (fun v_763 u_763 p_763 => ?_)
  obtain ⟨um2, ⟨rfl, rfl⟩, rfl, fr2⟩ := p_763
  have S3 := LSt_m S2.1 fr2
  dsimp only [rs]
  rw [hth2]
  refine jp_iload dL_law_766 rfl ?_
  refine jp_icmp_eq 773 dL_law_768 (by decide) (fun c_768 => ?_) (fun c_768 => ?_)
  · refine jp_iload dL_law_773 rfl ?_
    refine jp_if_ne 790 dL_law_775 (by decide) (fun c_775 => ?_) (fun c_775 => ?_)
    · refine jp_goto 1884 dL_law_790 (by decide) ?_
      exact jp_lle (by simp [lle]) (jp_mono (by omega) (by omega) (fin _ _ _ hK1 hk2 S3.1))
    · refine jp_aload_n dL_law_778 rfl ?_
      refine jp_iconst (v := 0) dL_law_779 (by decide) ?_
      have h0 : th = 0 := Classical.not_not.mp c_775
      have er : r2 = r := by
        have z := hr h0
        simpa using z
      have e0 := (congrFun S3.2 0).trans ((congrFun S2.2 0).trans (hout h0))
      refine jp_lald 0 dL_law_780 S3.1.2.2.2.1 rfl (by rw [S3.1.2.2.2.2.1]; decide) (by rw [S3.1.2.2.2.2.1]; decide) ?_
      rw [e0]
      refine jp_iload dL_law_781 rfl ?_
      refine jp_i2l dL_law_783 ?_
      refine jp_lcmp dL_law_784 ?_
      refine jp_if_eq 790 dL_law_785 (by decide) (fun c_785 => ?_) (fun c_785 => ?_)
      · refine jp_goto 1884 dL_law_790 (by decide) ?_
        exact jp_lle (by simp [lle]) (jp_mono (by omega) (by omega) (fin _ _ _ hK1 hk2 S3.1))
      · exact absurd (by rw [er]; exact lc_self _) c_785
  · exact absurd rfl c_768

set_option maxRecDepth 20000 in
theorem lw_sort0 {p : Program} {l : Launch} {e : Env} {s : State} {m : MethodId} {args : Array Value} {below : List Frame} {meth : Method} {c0 : Code} {Q : State → Prop} {D : va_G} {cy : Nat → ClassId} {A : Nat → Prop} {MC MS d : Nat} {post : Option Sv ⊕ String → Hp → Prop} {h hc hm : Hp} {x o b0 i L mc0 ms0 mc1 ms1 mc2 ms2 mc3 ms3 d2 : Nat} {g : Nat → Nat} {xs : Nat → Int32} {K K2 : Hp → Prop} {d1 : Nat} {th r : Int32} (hX : va_X b0 L xs s s.heap) (hbl : b0 < s.heap.size) (hbA : ¬ A b0) (hi : i + 7 ≤ L) (hL : L < 4000) (hb : xs (i + 4) = 0) (S : LSt h hc hm o) (kx : hK hc x = 12) (km : hK hm (g 0) = 13) (hth : th = 0 ∨ th = 1 ∨ th = 2) (con : ConX mX11_sort d1 mc1 ms1 [vr (some x), vi (xs (i + 1)), vi (xs (i + 2)), vi (xs (i + 3)), vi 0] hc (py K ["java/lang/IndexOutOfBoundsException", "java/lang/IllegalArgumentException"] th r)) (cnm : Con mX12_sort d2 mc2 ms2 [vr (some (g 0)), vi (xs (i + 1)), vi (xs (i + 2)), vi (xs (i + 3)), vi 0] hm (am g K2 r th)) (hd7 : d1 + 1 < d) (hd2 : d2 < d) (hmc : mc1 + mc2 + mc3 ≤ mc0) (hms : ms1 + ms2 + ms3 ≤ ms0) (fin : ∀ u uc um, K uc → K2 um → LSt u uc um o → Jp mL_law p l e s m args below meth c0 Q D cy A MC MS d mc3 ms3 post 1884 [some (vr (some b0)), some (vr (some x)), some (vr (some (g 0))), some (vr (some o)), some (vi (nI i)), none, none] [] u) : Jp mL_law p l e s m args below meth c0 Q D cy A MC MS d mc0 ms0 post 793 [some (vr (some b0)), some (vr (some x)), some (vr (some (g 0))), some (vr (some o)), some (vi (nI i)), none, none] [] h := by
  refine jp_aload_n dL_law_793 rfl ?_
  refine jp_aload_n dL_law_794 rfl ?_
  refine jp_iload dL_law_795 rfl ?_
  refine jp_iconst (v := 1) dL_law_797 (by decide) ?_
  refine jp_iadd dL_law_798 ?_
  refine jp_sld (i + 1) dL_law_799 hX hbl hbA (by rw [li_1, nI_add]) (by omega) (by omega) ?_
  refine jp_aload_n dL_law_800 rfl ?_
  refine jp_iload dL_law_801 rfl ?_
  refine jp_iconst (v := 2) dL_law_803 (by decide) ?_
  refine jp_iadd dL_law_804 ?_
  refine jp_sld (i + 2) dL_law_805 hX hbl hbA (by rw [li_2, nI_add]) (by omega) (by omega) ?_
  refine jp_aload_n dL_law_806 rfl ?_
  refine jp_iload dL_law_807 rfl ?_
  refine jp_iconst (v := 3) dL_law_809 (by decide) ?_
  refine jp_iadd dL_law_810 ?_
  refine jp_sld (i + 3) dL_law_811 hX hbl hbA (by rw [li_3, nI_add]) (by omega) (by omega) ?_
  refine jp_aload_n dL_law_812 rfl ?_
  refine jp_iload dL_law_813 rfl ?_
  refine jp_iconst (v := 4) dL_law_815 (by decide) ?_
  refine jp_iadd dL_law_816 ?_
  refine jp_sld (i + 4) dL_law_817 hX hbl hbA (by rw [li_4, nI_add]) (by omega) (by omega) ?_
  refine jp_if_eq 825 dL_law_818 (by decide) (fun c_818 => ?_) (fun c_818 => ?_)
  · refine jp_iconst (v := 0) dL_law_825 (by decide) ?_
    refine jp_aload_n dL_law_826 rfl ?_
    refine jp_callH (as := [vr (some x), vi (xs (i + 1)), vi (xs (i + 2)), vi (xs (i + 3)), vi 0, vr (some o)]) (st := []) dL_law_827 hl_L_123 (h_sort S kx hth con) rfl hd7 (by omega) (by omega) (Nat.le_of_ble_eq_true rfl) rfl (fun v_827 u0 p_827 => ?_)
    obtain ⟨rfl, uc, hK1, S1, hout⟩ := p_827
    dsimp only [rs]
    refine jp_istore dL_law_830 (by decide) ?_
    dsimp only [st1, st2, unL, List.set]
    refine jp_aload_n dL_law_832 rfl ?_
    refine jp_aload_n dL_law_833 rfl ?_
    refine jp_iload dL_law_834 rfl ?_
    refine jp_iconst (v := 1) dL_law_836 (by decide) ?_
    refine jp_iadd dL_law_837 ?_
    refine jp_sld (i + 1) dL_law_838 hX hbl hbA (by rw [li_1, nI_add]) (by omega) (by omega) ?_
    refine jp_aload_n dL_law_839 rfl ?_
    refine jp_iload dL_law_840 rfl ?_
    refine jp_iconst (v := 2) dL_law_842 (by decide) ?_
    refine jp_iadd dL_law_843 ?_
    refine jp_sld (i + 2) dL_law_844 hX hbl hbA (by rw [li_2, nI_add]) (by omega) (by omega) ?_
    refine jp_aload_n dL_law_845 rfl ?_
    refine jp_iload dL_law_846 rfl ?_
    refine jp_iconst (v := 3) dL_law_848 (by decide) ?_
    refine jp_iadd dL_law_849 ?_
    refine jp_sld (i + 3) dL_law_850 hX hbl hbA (by rw [li_3, nI_add]) (by omega) (by omega) ?_
    refine jp_aload_n dL_law_851 rfl ?_
    refine jp_iload dL_law_852 rfl ?_
    refine jp_iconst (v := 4) dL_law_854 (by decide) ?_
    refine jp_iadd dL_law_855 ?_
    refine jp_sld (i + 4) dL_law_856 hX hbl hbA (by rw [li_4, nI_add]) (by omega) (by omega) ?_
    refine jp_if_eq 864 dL_law_857 (by decide) (fun c_857 => ?_) (fun c_857 => ?_)
    · refine jp_iconst (v := 0) dL_law_864 (by decide) ?_
      refine jp_callV4 dL_law_865 vl_L_126 (con_frame cnm S1.2.1) ((S1.2.1 _ (by rw [km]; decide)).1.trans km) rfl hd2 (by omega) (by omega) (Nat.le_of_ble_eq_true rfl) (fun v_865 u_865 p_865 => ?_)
      obtain ⟨um, ⟨hr, ⟨r2, rfl⟩, hmw, hth2, hk2⟩, rfl, fr⟩ := p_865
      have S2 := LSt_m S1 fr
      dsimp only [rs]
      refine jp_istore dL_law_868 (by decide) ?_
      dsimp only [st1, st2, unL, List.set]
      refine jp_aload_n dL_law_870 rfl ?_
      refine jp_callV0 dL_law_871 vl_L_98 (con_frame (c_thrown hmw) S2.1.2.1) ((S2.1.2.1 _ (by rw [hmw.1]; decide)).1.trans hmw.1) rfl (by omega) (by omega) (by omega) (Nat.le_of_ble_eq_true rfl) (fun v_871 u_871 p_871 => ?_)
      obtain ⟨um2, ⟨rfl, rfl⟩, rfl, fr2⟩ := p_871
      have S3 := LSt_m S2.1 fr2
      dsimp only [rs]
      rw [hth2]
      refine jp_iload dL_law_874 rfl ?_
      refine jp_icmp_eq 881 dL_law_876 (by decide) (fun c_876 => ?_) (fun c_876 => ?_)
      · refine jp_iload dL_law_881 rfl ?_
        refine jp_if_ne 898 dL_law_883 (by decide) (fun c_883 => ?_) (fun c_883 => ?_)
        · refine jp_goto 1884 dL_law_898 (by decide) ?_
          exact jp_lle (by simp [lle]) (jp_mono (by omega) (by omega) (fin _ _ _ hK1 hk2 S3.1))
        · refine jp_aload_n dL_law_886 rfl ?_
          refine jp_iconst (v := 0) dL_law_887 (by decide) ?_
          have h0 : th = 0 := Classical.not_not.mp c_883
          have er : r2 = r := by
            have z := hr h0
            simpa using z
          have e0 := (congrFun S3.2 0).trans ((congrFun S2.2 0).trans (hout h0))
          refine jp_lald 0 dL_law_888 S3.1.2.2.2.1 rfl (by rw [S3.1.2.2.2.2.1]; decide) (by rw [S3.1.2.2.2.2.1]; decide) ?_
          rw [e0]
          refine jp_iload dL_law_889 rfl ?_
          refine jp_i2l dL_law_891 ?_
          refine jp_lcmp dL_law_892 ?_
          refine jp_if_eq 898 dL_law_893 (by decide) (fun c_893 => ?_) (fun c_893 => ?_)
          · refine jp_goto 1884 dL_law_898 (by decide) ?_
            exact jp_lle (by simp [lle]) (jp_mono (by omega) (by omega) (fin _ _ _ hK1 hk2 S3.1))
          · exact absurd (by rw [er]; exact lc_self _) c_893
      · exact absurd rfl c_876
    · exact absurd hb c_857
  · exact absurd hb c_818

set_option maxRecDepth 20000 in
theorem lw_sort1 {p : Program} {l : Launch} {e : Env} {s : State} {m : MethodId} {args : Array Value} {below : List Frame} {meth : Method} {c0 : Code} {Q : State → Prop} {D : va_G} {cy : Nat → ClassId} {A : Nat → Prop} {MC MS d : Nat} {post : Option Sv ⊕ String → Hp → Prop} {h hc hm : Hp} {x o b0 i L mc0 ms0 mc1 ms1 mc2 ms2 mc3 ms3 d2 : Nat} {g : Nat → Nat} {xs : Nat → Int32} {K K2 : Hp → Prop} {d1 : Nat} {th r : Int32} (hX : va_X b0 L xs s s.heap) (hbl : b0 < s.heap.size) (hbA : ¬ A b0) (hi : i + 7 ≤ L) (hL : L < 4000) (hb : ¬ xs (i + 4) = 0) (S : LSt h hc hm o) (kx : hK hc x = 12) (km : hK hm (g 0) = 13) (hth : th = 0 ∨ th = 1 ∨ th = 2) (con : ConX mX11_sort d1 mc1 ms1 [vr (some x), vi (xs (i + 1)), vi (xs (i + 2)), vi (xs (i + 3)), vi 1] hc (py K ["java/lang/IndexOutOfBoundsException", "java/lang/IllegalArgumentException"] th r)) (cnm : Con mX12_sort d2 mc2 ms2 [vr (some (g 0)), vi (xs (i + 1)), vi (xs (i + 2)), vi (xs (i + 3)), vi 1] hm (am g K2 r th)) (hd7 : d1 + 1 < d) (hd2 : d2 < d) (hmc : mc1 + mc2 + mc3 ≤ mc0) (hms : ms1 + ms2 + ms3 ≤ ms0) (fin : ∀ u uc um, K uc → K2 um → LSt u uc um o → Jp mL_law p l e s m args below meth c0 Q D cy A MC MS d mc3 ms3 post 1884 [some (vr (some b0)), some (vr (some x)), some (vr (some (g 0))), some (vr (some o)), some (vi (nI i)), none, none] [] u) : Jp mL_law p l e s m args below meth c0 Q D cy A MC MS d mc0 ms0 post 793 [some (vr (some b0)), some (vr (some x)), some (vr (some (g 0))), some (vr (some o)), some (vi (nI i)), none, none] [] h := by
  refine jp_aload_n dL_law_793 rfl ?_
  refine jp_aload_n dL_law_794 rfl ?_
  refine jp_iload dL_law_795 rfl ?_
  refine jp_iconst (v := 1) dL_law_797 (by decide) ?_
  refine jp_iadd dL_law_798 ?_
  refine jp_sld (i + 1) dL_law_799 hX hbl hbA (by rw [li_1, nI_add]) (by omega) (by omega) ?_
  refine jp_aload_n dL_law_800 rfl ?_
  refine jp_iload dL_law_801 rfl ?_
  refine jp_iconst (v := 2) dL_law_803 (by decide) ?_
  refine jp_iadd dL_law_804 ?_
  refine jp_sld (i + 2) dL_law_805 hX hbl hbA (by rw [li_2, nI_add]) (by omega) (by omega) ?_
  refine jp_aload_n dL_law_806 rfl ?_
  refine jp_iload dL_law_807 rfl ?_
  refine jp_iconst (v := 3) dL_law_809 (by decide) ?_
  refine jp_iadd dL_law_810 ?_
  refine jp_sld (i + 3) dL_law_811 hX hbl hbA (by rw [li_3, nI_add]) (by omega) (by omega) ?_
  refine jp_aload_n dL_law_812 rfl ?_
  refine jp_iload dL_law_813 rfl ?_
  refine jp_iconst (v := 4) dL_law_815 (by decide) ?_
  refine jp_iadd dL_law_816 ?_
  refine jp_sld (i + 4) dL_law_817 hX hbl hbA (by rw [li_4, nI_add]) (by omega) (by omega) ?_
  refine jp_if_eq 825 dL_law_818 (by decide) (fun c_818 => ?_) (fun c_818 => ?_)
  · exact absurd c_818 hb
  · refine jp_iconst (v := 1) dL_law_821 (by decide) ?_
    refine jp_goto 826 dL_law_822 (by decide) ?_
    refine jp_aload_n dL_law_826 rfl ?_
    refine jp_callH (as := [vr (some x), vi (xs (i + 1)), vi (xs (i + 2)), vi (xs (i + 3)), vi 1, vr (some o)]) (st := []) dL_law_827 hl_L_123 (h_sort S kx hth con) rfl hd7 (by omega) (by omega) (Nat.le_of_ble_eq_true rfl) rfl (fun v_827 u0 p_827 => ?_)
    obtain ⟨rfl, uc, hK1, S1, hout⟩ := p_827
    dsimp only [rs]
    refine jp_istore dL_law_830 (by decide) ?_
    dsimp only [st1, st2, unL, List.set]
    refine jp_aload_n dL_law_832 rfl ?_
    refine jp_aload_n dL_law_833 rfl ?_
    refine jp_iload dL_law_834 rfl ?_
    refine jp_iconst (v := 1) dL_law_836 (by decide) ?_
    refine jp_iadd dL_law_837 ?_
    refine jp_sld (i + 1) dL_law_838 hX hbl hbA (by rw [li_1, nI_add]) (by omega) (by omega) ?_
    refine jp_aload_n dL_law_839 rfl ?_
    refine jp_iload dL_law_840 rfl ?_
    refine jp_iconst (v := 2) dL_law_842 (by decide) ?_
    refine jp_iadd dL_law_843 ?_
    refine jp_sld (i + 2) dL_law_844 hX hbl hbA (by rw [li_2, nI_add]) (by omega) (by omega) ?_
    refine jp_aload_n dL_law_845 rfl ?_
    refine jp_iload dL_law_846 rfl ?_
    refine jp_iconst (v := 3) dL_law_848 (by decide) ?_
    refine jp_iadd dL_law_849 ?_
    refine jp_sld (i + 3) dL_law_850 hX hbl hbA (by rw [li_3, nI_add]) (by omega) (by omega) ?_
    refine jp_aload_n dL_law_851 rfl ?_
    refine jp_iload dL_law_852 rfl ?_
    refine jp_iconst (v := 4) dL_law_854 (by decide) ?_
    refine jp_iadd dL_law_855 ?_
    refine jp_sld (i + 4) dL_law_856 hX hbl hbA (by rw [li_4, nI_add]) (by omega) (by omega) ?_
    refine jp_if_eq 864 dL_law_857 (by decide) (fun c_857 => ?_) (fun c_857 => ?_)
    · exact absurd c_857 hb
    · refine jp_iconst (v := 1) dL_law_860 (by decide) ?_
      refine jp_goto 865 dL_law_861 (by decide) ?_
      refine jp_callV4 dL_law_865 vl_L_126 (con_frame cnm S1.2.1) ((S1.2.1 _ (by rw [km]; decide)).1.trans km) rfl hd2 (by omega) (by omega) (Nat.le_of_ble_eq_true rfl) (fun v_865 u_865 p_865 => ?_)
      obtain ⟨um, ⟨hr, ⟨r2, rfl⟩, hmw, hth2, hk2⟩, rfl, fr⟩ := p_865
      have S2 := LSt_m S1 fr
      dsimp only [rs]
      refine jp_istore dL_law_868 (by decide) ?_
      dsimp only [st1, st2, unL, List.set]
      refine jp_aload_n dL_law_870 rfl ?_
      refine jp_callV0 dL_law_871 vl_L_98 (con_frame (c_thrown hmw) S2.1.2.1) ((S2.1.2.1 _ (by rw [hmw.1]; decide)).1.trans hmw.1) rfl (by omega) (by omega) (by omega) (Nat.le_of_ble_eq_true rfl) (fun v_871 u_871 p_871 => ?_)
      obtain ⟨um2, ⟨rfl, rfl⟩, rfl, fr2⟩ := p_871
      have S3 := LSt_m S2.1 fr2
      dsimp only [rs]
      rw [hth2]
      refine jp_iload dL_law_874 rfl ?_
      refine jp_icmp_eq 881 dL_law_876 (by decide) (fun c_876 => ?_) (fun c_876 => ?_)
      · refine jp_iload dL_law_881 rfl ?_
        refine jp_if_ne 898 dL_law_883 (by decide) (fun c_883 => ?_) (fun c_883 => ?_)
        · refine jp_goto 1884 dL_law_898 (by decide) ?_
          exact jp_lle (by simp [lle]) (jp_mono (by omega) (by omega) (fin _ _ _ hK1 hk2 S3.1))
        · refine jp_aload_n dL_law_886 rfl ?_
          refine jp_iconst (v := 0) dL_law_887 (by decide) ?_
          have h0 : th = 0 := Classical.not_not.mp c_883
          have er : r2 = r := by
            have z := hr h0
            simpa using z
          have e0 := (congrFun S3.2 0).trans ((congrFun S2.2 0).trans (hout h0))
          refine jp_lald 0 dL_law_888 S3.1.2.2.2.1 rfl (by rw [S3.1.2.2.2.2.1]; decide) (by rw [S3.1.2.2.2.2.1]; decide) ?_
          rw [e0]
          refine jp_iload dL_law_889 rfl ?_
          refine jp_i2l dL_law_891 ?_
          refine jp_lcmp dL_law_892 ?_
          refine jp_if_eq 898 dL_law_893 (by decide) (fun c_893 => ?_) (fun c_893 => ?_)
          · refine jp_goto 1884 dL_law_898 (by decide) ?_
            exact jp_lle (by simp [lle]) (jp_mono (by omega) (by omega) (fin _ _ _ hK1 hk2 S3.1))
          · exact absurd (by rw [er]; exact lc_self _) c_893
      · exact absurd rfl c_876

set_option maxRecDepth 20000 in
theorem lw_undo {p : Program} {l : Launch} {e : Env} {s : State} {m : MethodId} {args : Array Value} {below : List Frame} {meth : Method} {c0 : Code} {Q : State → Prop} {D : va_G} {cy : Nat → ClassId} {A : Nat → Prop} {MC MS d : Nat} {post : Option Sv ⊕ String → Hp → Prop} {h hc hm : Hp} {x o b0 i L mc0 ms0 mc1 ms1 mc2 ms2 mc3 ms3 d2 : Nat} {g : Nat → Nat} {xs : Nat → Int32} {K K2 : Hp → Prop} {d1 : Nat} {th r : Int32} (hX : va_X b0 L xs s s.heap) (hbl : b0 < s.heap.size) (hbA : ¬ A b0) (hi : i + 7 ≤ L) (hL : L < 4000) (S : LSt h hc hm o) (kx : hK hc x = 12) (km : hK hm (g 0) = 13) (hth : th = 0 ∨ th = 1) (con : ConX mX11_undo d1 mc1 ms1 [vr (some x)] hc (py K ["java/util/NoSuchElementException"] th r)) (cnm : Con mX12_undo d2 mc2 ms2 [vr (some (g 0))] hm (am g K2 r th)) (hd7 : d1 + 1 < d) (hd2 : d2 < d) (hmc : mc1 + mc2 + mc3 ≤ mc0) (hms : ms1 + ms2 + ms3 ≤ ms0) (fin : ∀ u uc um, K uc → K2 um → LSt u uc um o → Jp mL_law p l e s m args below meth c0 Q D cy A MC MS d mc3 ms3 post 1884 [some (vr (some b0)), some (vr (some x)), some (vr (some (g 0))), some (vr (some o)), some (vi (nI i)), none, none] [] u) : Jp mL_law p l e s m args below meth c0 Q D cy A MC MS d mc0 ms0 post 901 [some (vr (some b0)), some (vr (some x)), some (vr (some (g 0))), some (vr (some o)), some (vi (nI i)), none, none] [] h := by
  refine jp_aload_n dL_law_901 rfl ?_
  refine jp_aload_n dL_law_902 rfl ?_
  refine jp_callH (as := [vr (some x), vr (some o)]) (st := []) dL_law_903 hl_L_127 (h_undo S kx hth con) rfl hd7 (by omega) (by omega) (Nat.le_of_ble_eq_true rfl) rfl (fun v_903 u0 p_903 => ?_)
  obtain ⟨rfl, uc, hK1, S1, hout⟩ := p_903
  dsimp only [rs]
  refine jp_istore dL_law_906 (by decide) ?_
  dsimp only [st1, st2, unL, List.set]
  refine jp_aload_n dL_law_908 rfl ?_
  refine jp_callV0 dL_law_909 vl_L_130 (con_frame cnm S1.2.1) ((S1.2.1 _ (by rw [km]; decide)).1.trans km) rfl hd2 (by omega) (by omega) (Nat.le_of_ble_eq_true rfl) (fun v_909 u_909 p_909 => ?_)
  obtain ⟨um, ⟨hr, ⟨r2, rfl⟩, hmw, hth2, hk2⟩, rfl, fr⟩ := p_909
  have S2 := LSt_m S1 fr
  dsimp only [rs]
  refine jp_istore dL_law_912 (by decide) ?_
  dsimp only [st1, st2, unL, List.set]
  refine jp_aload_n dL_law_914 rfl ?_
  refine jp_callV0 dL_law_915 vl_L_98 (con_frame (c_thrown hmw) S2.1.2.1) ((S2.1.2.1 _ (by rw [hmw.1]; decide)).1.trans hmw.1) rfl (by omega) (by omega) (by omega) (Nat.le_of_ble_eq_true rfl) (fun v_915 u_915 p_915 => ?_)
  obtain ⟨um2, ⟨rfl, rfl⟩, rfl, fr2⟩ := p_915
  have S3 := LSt_m S2.1 fr2
  dsimp only [rs]
  rw [hth2]
  refine jp_iload dL_law_918 rfl ?_
  refine jp_icmp_eq 925 dL_law_920 (by decide) (fun c_920 => ?_) (fun c_920 => ?_)
  · refine jp_iload dL_law_925 rfl ?_
    refine jp_if_ne 942 dL_law_927 (by decide) (fun c_927 => ?_) (fun c_927 => ?_)
    · refine jp_goto 1884 dL_law_942 (by decide) ?_
      exact jp_lle (by simp [lle]) (jp_mono (by omega) (by omega) (fin _ _ _ hK1 hk2 S3.1))
    · refine jp_aload_n dL_law_930 rfl ?_
      refine jp_iconst (v := 0) dL_law_931 (by decide) ?_
      have h0 : th = 0 := Classical.not_not.mp c_927
      have er : r2 = r := by
        have z := hr h0
        simpa using z
      have e0 := (congrFun S3.2 0).trans ((congrFun S2.2 0).trans (hout h0))
      refine jp_lald 0 dL_law_932 S3.1.2.2.2.1 rfl (by rw [S3.1.2.2.2.2.1]; decide) (by rw [S3.1.2.2.2.2.1]; decide) ?_
      rw [e0]
      refine jp_iload dL_law_933 rfl ?_
      refine jp_i2l dL_law_935 ?_
      refine jp_lcmp dL_law_936 ?_
      refine jp_if_eq 942 dL_law_937 (by decide) (fun c_937 => ?_) (fun c_937 => ?_)
      · refine jp_goto 1884 dL_law_942 (by decide) ?_
        exact jp_lle (by simp [lle]) (jp_mono (by omega) (by omega) (fin _ _ _ hK1 hk2 S3.1))
      · exact absurd (by rw [er]; exact lc_self _) c_937
  · exact absurd rfl c_920

set_option maxRecDepth 20000 in
theorem lw_redo {p : Program} {l : Launch} {e : Env} {s : State} {m : MethodId} {args : Array Value} {below : List Frame} {meth : Method} {c0 : Code} {Q : State → Prop} {D : va_G} {cy : Nat → ClassId} {A : Nat → Prop} {MC MS d : Nat} {post : Option Sv ⊕ String → Hp → Prop} {h hc hm : Hp} {x o b0 i L mc0 ms0 mc1 ms1 mc2 ms2 mc3 ms3 d2 : Nat} {g : Nat → Nat} {xs : Nat → Int32} {K K2 : Hp → Prop} {d1 : Nat} {th r : Int32} (hX : va_X b0 L xs s s.heap) (hbl : b0 < s.heap.size) (hbA : ¬ A b0) (hi : i + 7 ≤ L) (hL : L < 4000) (S : LSt h hc hm o) (kx : hK hc x = 12) (km : hK hm (g 0) = 13) (hth : th = 0 ∨ th = 1) (con : ConX mX11_redo d1 mc1 ms1 [vr (some x)] hc (py K ["java/util/NoSuchElementException"] th r)) (cnm : Con mX12_redo d2 mc2 ms2 [vr (some (g 0))] hm (am g K2 r th)) (hd7 : d1 + 1 < d) (hd2 : d2 < d) (hmc : mc1 + mc2 + mc3 ≤ mc0) (hms : ms1 + ms2 + ms3 ≤ ms0) (fin : ∀ u uc um, K uc → K2 um → LSt u uc um o → Jp mL_law p l e s m args below meth c0 Q D cy A MC MS d mc3 ms3 post 1884 [some (vr (some b0)), some (vr (some x)), some (vr (some (g 0))), some (vr (some o)), some (vi (nI i)), none, none] [] u) : Jp mL_law p l e s m args below meth c0 Q D cy A MC MS d mc0 ms0 post 945 [some (vr (some b0)), some (vr (some x)), some (vr (some (g 0))), some (vr (some o)), some (vi (nI i)), none, none] [] h := by
  refine jp_aload_n dL_law_945 rfl ?_
  refine jp_aload_n dL_law_946 rfl ?_
  refine jp_callH (as := [vr (some x), vr (some o)]) (st := []) dL_law_947 hl_L_131 (h_redo S kx hth con) rfl hd7 (by omega) (by omega) (Nat.le_of_ble_eq_true rfl) rfl (fun v_947 u0 p_947 => ?_)
  obtain ⟨rfl, uc, hK1, S1, hout⟩ := p_947
  dsimp only [rs]
  refine jp_istore dL_law_950 (by decide) ?_
  dsimp only [st1, st2, unL, List.set]
  refine jp_aload_n dL_law_952 rfl ?_
  refine jp_callV0 dL_law_953 vl_L_133 (con_frame cnm S1.2.1) ((S1.2.1 _ (by rw [km]; decide)).1.trans km) rfl hd2 (by omega) (by omega) (Nat.le_of_ble_eq_true rfl) (fun v_953 u_953 p_953 => ?_)
  obtain ⟨um, ⟨hr, ⟨r2, rfl⟩, hmw, hth2, hk2⟩, rfl, fr⟩ := p_953
  have S2 := LSt_m S1 fr
  dsimp only [rs]
  refine jp_istore dL_law_956 (by decide) ?_
  dsimp only [st1, st2, unL, List.set]
  refine jp_aload_n dL_law_958 rfl ?_
  refine jp_callV0 dL_law_959 vl_L_98 (con_frame (c_thrown hmw) S2.1.2.1) ((S2.1.2.1 _ (by rw [hmw.1]; decide)).1.trans hmw.1) rfl (by omega) (by omega) (by omega) (Nat.le_of_ble_eq_true rfl) (fun v_959 u_959 p_959 => ?_)
  obtain ⟨um2, ⟨rfl, rfl⟩, rfl, fr2⟩ := p_959
  have S3 := LSt_m S2.1 fr2
  dsimp only [rs]
  rw [hth2]
  refine jp_iload dL_law_962 rfl ?_
  refine jp_icmp_eq 969 dL_law_964 (by decide) (fun c_964 => ?_) (fun c_964 => ?_)
  · refine jp_iload dL_law_969 rfl ?_
    refine jp_if_ne 986 dL_law_971 (by decide) (fun c_971 => ?_) (fun c_971 => ?_)
    · refine jp_goto 1884 dL_law_986 (by decide) ?_
      exact jp_lle (by simp [lle]) (jp_mono (by omega) (by omega) (fin _ _ _ hK1 hk2 S3.1))
    · refine jp_aload_n dL_law_974 rfl ?_
      refine jp_iconst (v := 0) dL_law_975 (by decide) ?_
      have h0 : th = 0 := Classical.not_not.mp c_971
      have er : r2 = r := by
        have z := hr h0
        simpa using z
      have e0 := (congrFun S3.2 0).trans ((congrFun S2.2 0).trans (hout h0))
      refine jp_lald 0 dL_law_976 S3.1.2.2.2.1 rfl (by rw [S3.1.2.2.2.2.1]; decide) (by rw [S3.1.2.2.2.2.1]; decide) ?_
      rw [e0]
      refine jp_iload dL_law_977 rfl ?_
      refine jp_i2l dL_law_979 ?_
      refine jp_lcmp dL_law_980 ?_
      refine jp_if_eq 986 dL_law_981 (by decide) (fun c_981 => ?_) (fun c_981 => ?_)
      · refine jp_goto 1884 dL_law_986 (by decide) ?_
        exact jp_lle (by simp [lle]) (jp_mono (by omega) (by omega) (fin _ _ _ hK1 hk2 S3.1))
      · exact absurd (by rw [er]; exact lc_self _) c_981
  · exact absurd rfl c_964

set_option maxRecDepth 20000 in
theorem lw_commit {p : Program} {l : Launch} {e : Env} {s : State} {m : MethodId} {args : Array Value} {below : List Frame} {meth : Method} {c0 : Code} {Q : State → Prop} {D : va_G} {cy : Nat → ClassId} {A : Nat → Prop} {MC MS d : Nat} {post : Option Sv ⊕ String → Hp → Prop} {h hc hm : Hp} {x o b0 i L mc0 ms0 mc1 ms1 mc2 ms2 mc3 ms3 d2 : Nat} {g : Nat → Nat} {xs : Nat → Int32} {K K2 : Hp → Prop} {d1 : Nat} {th r : Int32} (hX : va_X b0 L xs s s.heap) (hbl : b0 < s.heap.size) (hbA : ¬ A b0) (hi : i + 7 ≤ L) (hL : L < 4000) (S : LSt h hc hm o) (kx : hK hc x = 12) (km : hK hm (g 0) = 13) (hth : th = 0 ∨ th = 1 ∨ th = 2) (con : ConX mX11_commit d1 mc1 ms1 [vr (some x)] hc (py K ["java/lang/IllegalStateException", "java/lang/UnsupportedOperationException"] th r)) (cnm : Con mX12_commit d2 mc2 ms2 [vr (some (g 0))] hm (am g K2 r th)) (hd7 : d1 + 1 < d) (hd2 : d2 < d) (hmc : mc1 + mc2 + mc3 ≤ mc0) (hms : ms1 + ms2 + ms3 ≤ ms0) (fin : ∀ u uc um, K uc → K2 um → LSt u uc um o → Jp mL_law p l e s m args below meth c0 Q D cy A MC MS d mc3 ms3 post 1884 [some (vr (some b0)), some (vr (some x)), some (vr (some (g 0))), some (vr (some o)), some (vi (nI i)), none, none] [] u) : Jp mL_law p l e s m args below meth c0 Q D cy A MC MS d mc0 ms0 post 989 [some (vr (some b0)), some (vr (some x)), some (vr (some (g 0))), some (vr (some o)), some (vi (nI i)), none, none] [] h := by
  refine jp_aload_n dL_law_989 rfl ?_
  refine jp_aload_n dL_law_990 rfl ?_
  refine jp_callH (as := [vr (some x), vr (some o)]) (st := []) dL_law_991 hl_L_134 (h_commit S kx hth con) rfl hd7 (by omega) (by omega) (Nat.le_of_ble_eq_true rfl) rfl (fun v_991 u0 p_991 => ?_)
  obtain ⟨rfl, uc, hK1, S1, hout⟩ := p_991
  dsimp only [rs]
  refine jp_istore dL_law_994 (by decide) ?_
  dsimp only [st1, st2, unL, List.set]
  refine jp_aload_n dL_law_996 rfl ?_
  refine jp_callV0 dL_law_997 vl_L_136 (con_frame cnm S1.2.1) ((S1.2.1 _ (by rw [km]; decide)).1.trans km) rfl hd2 (by omega) (by omega) (Nat.le_of_ble_eq_true rfl) (fun v_997 u_997 p_997 => ?_)
  obtain ⟨um, ⟨hr, ⟨r2, rfl⟩, hmw, hth2, hk2⟩, rfl, fr⟩ := p_997
  have S2 := LSt_m S1 fr
  dsimp only [rs]
  refine jp_istore dL_law_1000 (by decide) ?_
  dsimp only [st1, st2, unL, List.set]
  refine jp_aload_n dL_law_1002 rfl ?_
  refine jp_callV0 dL_law_1003 vl_L_98 (con_frame (c_thrown hmw) S2.1.2.1) ((S2.1.2.1 _ (by rw [hmw.1]; decide)).1.trans hmw.1) rfl (by omega) (by omega) (by omega) (Nat.le_of_ble_eq_true rfl) (fun v_1003 u_1003 p_1003 => ?_)
  obtain ⟨um2, ⟨rfl, rfl⟩, rfl, fr2⟩ := p_1003
  have S3 := LSt_m S2.1 fr2
  dsimp only [rs]
  rw [hth2]
  refine jp_iload dL_law_1006 rfl ?_
  refine jp_icmp_eq 1013 dL_law_1008 (by decide) (fun c_1008 => ?_) (fun c_1008 => ?_)
  · refine jp_iload dL_law_1013 rfl ?_
    refine jp_if_ne 1030 dL_law_1015 (by decide) (fun c_1015 => ?_) (fun c_1015 => ?_)
    · refine jp_goto 1884 dL_law_1030 (by decide) ?_
      exact jp_lle (by simp [lle]) (jp_mono (by omega) (by omega) (fin _ _ _ hK1 hk2 S3.1))
    · refine jp_aload_n dL_law_1018 rfl ?_
      refine jp_iconst (v := 0) dL_law_1019 (by decide) ?_
      have h0 : th = 0 := Classical.not_not.mp c_1015
      have er : r2 = r := by
        have z := hr h0
        simpa using z
      have e0 := (congrFun S3.2 0).trans ((congrFun S2.2 0).trans (hout h0))
      refine jp_lald 0 dL_law_1020 S3.1.2.2.2.1 rfl (by rw [S3.1.2.2.2.2.1]; decide) (by rw [S3.1.2.2.2.2.1]; decide) ?_
      rw [e0]
      refine jp_iload dL_law_1021 rfl ?_
      refine jp_i2l dL_law_1023 ?_
      refine jp_lcmp dL_law_1024 ?_
      refine jp_if_eq 1030 dL_law_1025 (by decide) (fun c_1025 => ?_) (fun c_1025 => ?_)
      · refine jp_goto 1884 dL_law_1030 (by decide) ?_
        exact jp_lle (by simp [lle]) (jp_mono (by omega) (by omega) (fin _ _ _ hK1 hk2 S3.1))
      · exact absurd (by rw [er]; exact lc_self _) c_1025
  · exact absurd rfl c_1008

set_option maxRecDepth 20000 in
theorem lw_branch {p : Program} {l : Launch} {e : Env} {s : State} {m : MethodId} {args : Array Value} {below : List Frame} {meth : Method} {c0 : Code} {Q : State → Prop} {D : va_G} {cy : Nat → ClassId} {A : Nat → Prop} {MC MS d : Nat} {post : Option Sv ⊕ String → Hp → Prop} {h hc hm : Hp} {x o b0 i L mc0 ms0 mc1 ms1 mc2 ms2 mc3 ms3 d2 : Nat} {g : Nat → Nat} {xs : Nat → Int32} {K K2 : Hp → Prop} {d1 : Nat} {th r : Int32} (hX : va_X b0 L xs s s.heap) (hbl : b0 < s.heap.size) (hbA : ¬ A b0) (hi : i + 7 ≤ L) (hL : L < 4000) (S : LSt h hc hm o) (kx : hK hc x = 12) (km : hK hm (g 0) = 13) (hth : th = 0 ∨ th = 1 ∨ th = 2) (con : ConX mX11_branch d1 mc1 ms1 [vr (some x), vi (xs (i + 1))] hc (py K ["java/lang/IndexOutOfBoundsException", "java/lang/IllegalStateException"] th r)) (cnm : Con mX12_branch d2 mc2 ms2 [vr (some (g 0)), vi (xs (i + 1))] hm (am g K2 r th)) (hd7 : d1 + 1 < d) (hd2 : d2 < d) (hmc : mc1 + mc2 + mc3 ≤ mc0) (hms : ms1 + ms2 + ms3 ≤ ms0) (fin : ∀ u uc um, K uc → K2 um → LSt u uc um o → Jp mL_law p l e s m args below meth c0 Q D cy A MC MS d mc3 ms3 post 1884 [some (vr (some b0)), some (vr (some x)), some (vr (some (g 0))), some (vr (some o)), some (vi (nI i)), none, none] [] u) : Jp mL_law p l e s m args below meth c0 Q D cy A MC MS d mc0 ms0 post 1033 [some (vr (some b0)), some (vr (some x)), some (vr (some (g 0))), some (vr (some o)), some (vi (nI i)), none, none] [] h := by
  refine jp_aload_n dL_law_1033 rfl ?_
  refine jp_aload_n dL_law_1034 rfl ?_
  refine jp_iload dL_law_1035 rfl ?_
  refine jp_iconst (v := 1) dL_law_1037 (by decide) ?_
  refine jp_iadd dL_law_1038 ?_
  refine jp_sld (i + 1) dL_law_1039 hX hbl hbA (by rw [li_1, nI_add]) (by omega) (by omega) ?_
  refine jp_aload_n dL_law_1040 rfl ?_
  refine jp_callH (as := [vr (some x), vi (xs (i + 1)), vr (some o)]) (st := []) dL_law_1041 hl_L_137 (h_branch S kx hth con) rfl hd7 (by omega) (by omega) (Nat.le_of_ble_eq_true rfl) rfl (fun v_1041 u0 p_1041 => ?_)
  obtain ⟨rfl, uc, hK1, S1, hout⟩ := p_1041
  dsimp only [rs]
  refine jp_istore dL_law_1044 (by decide) ?_
  dsimp only [st1, st2, unL, List.set]
  refine jp_aload_n dL_law_1046 rfl ?_
  refine jp_aload_n dL_law_1047 rfl ?_
  refine jp_iload dL_law_1048 rfl ?_
  refine jp_iconst (v := 1) dL_law_1050 (by decide) ?_
  refine jp_iadd dL_law_1051 ?_
  refine jp_sld (i + 1) dL_law_1052 hX hbl hbA (by rw [li_1, nI_add]) (by omega) (by omega) ?_
  refine jp_callV1 dL_law_1053 vl_L_140 (con_frame cnm S1.2.1) ((S1.2.1 _ (by rw [km]; decide)).1.trans km) rfl hd2 (by omega) (by omega) (Nat.le_of_ble_eq_true rfl) (fun v_1053 u_1053 p_1053 => ?_)
  obtain ⟨um, ⟨hr, ⟨r2, rfl⟩, hmw, hth2, hk2⟩, rfl, fr⟩ := p_1053
  have S2 := LSt_m S1 fr
  dsimp only [rs]
  refine jp_istore dL_law_1056 (by decide) ?_
  dsimp only [st1, st2, unL, List.set]
  refine jp_aload_n dL_law_1058 rfl ?_
  refine jp_callV0 dL_law_1059 vl_L_98 (con_frame (c_thrown hmw) S2.1.2.1) ((S2.1.2.1 _ (by rw [hmw.1]; decide)).1.trans hmw.1) rfl (by omega) (by omega) (by omega) (Nat.le_of_ble_eq_true rfl) (fun v_1059 u_1059 p_1059 => ?_)
  obtain ⟨um2, ⟨rfl, rfl⟩, rfl, fr2⟩ := p_1059
  have S3 := LSt_m S2.1 fr2
  dsimp only [rs]
  rw [hth2]
  refine jp_iload dL_law_1062 rfl ?_
  refine jp_icmp_eq 1069 dL_law_1064 (by decide) (fun c_1064 => ?_) (fun c_1064 => ?_)
  · refine jp_iload dL_law_1069 rfl ?_
    refine jp_if_ne 1086 dL_law_1071 (by decide) (fun c_1071 => ?_) (fun c_1071 => ?_)
    · refine jp_goto 1884 dL_law_1086 (by decide) ?_
      exact jp_lle (by simp [lle]) (jp_mono (by omega) (by omega) (fin _ _ _ hK1 hk2 S3.1))
    · refine jp_aload_n dL_law_1074 rfl ?_
      refine jp_iconst (v := 0) dL_law_1075 (by decide) ?_
      have h0 : th = 0 := Classical.not_not.mp c_1071
      have er : r2 = r := by
        have z := hr h0
        simpa using z
      have e0 := (congrFun S3.2 0).trans ((congrFun S2.2 0).trans (hout h0))
      refine jp_lald 0 dL_law_1076 S3.1.2.2.2.1 rfl (by rw [S3.1.2.2.2.2.1]; decide) (by rw [S3.1.2.2.2.2.1]; decide) ?_
      rw [e0]
      refine jp_iload dL_law_1077 rfl ?_
      refine jp_i2l dL_law_1079 ?_
      refine jp_lcmp dL_law_1080 ?_
      refine jp_if_eq 1086 dL_law_1081 (by decide) (fun c_1081 => ?_) (fun c_1081 => ?_)
      · refine jp_goto 1884 dL_law_1086 (by decide) ?_
        exact jp_lle (by simp [lle]) (jp_mono (by omega) (by omega) (fin _ _ _ hK1 hk2 S3.1))
      · exact absurd (by rw [er]; exact lc_self _) c_1081
  · exact absurd rfl c_1064

set_option maxRecDepth 20000 in
theorem lw_go {p : Program} {l : Launch} {e : Env} {s : State} {m : MethodId} {args : Array Value} {below : List Frame} {meth : Method} {c0 : Code} {Q : State → Prop} {D : va_G} {cy : Nat → ClassId} {A : Nat → Prop} {MC MS d : Nat} {post : Option Sv ⊕ String → Hp → Prop} {h hc hm : Hp} {x o b0 i L mc0 ms0 mc1 ms1 mc2 ms2 mc3 ms3 d2 : Nat} {g : Nat → Nat} {xs : Nat → Int32} {K K2 : Hp → Prop} {d1 : Nat} {th r : Int32} (hX : va_X b0 L xs s s.heap) (hbl : b0 < s.heap.size) (hbA : ¬ A b0) (hi : i + 7 ≤ L) (hL : L < 4000) (S : LSt h hc hm o) (kx : hK hc x = 12) (km : hK hm (g 0) = 13) (hth : th = 0 ∨ th = 1 ∨ th = 2 ∨ th = 3) (con : ConX mX11_go d1 mc1 ms1 [vr (some x), vi (xs (i + 1))] hc (py K ["java/lang/IndexOutOfBoundsException", "java/util/NoSuchElementException", "java/lang/IllegalStateException"] th r)) (cnm : Con mX12_go d2 mc2 ms2 [vr (some (g 0)), vi (xs (i + 1))] hm (am g K2 r th)) (hd7 : d1 + 1 < d) (hd2 : d2 < d) (hmc : mc1 + mc2 + mc3 ≤ mc0) (hms : ms1 + ms2 + ms3 ≤ ms0) (fin : ∀ u uc um, K uc → K2 um → LSt u uc um o → Jp mL_law p l e s m args below meth c0 Q D cy A MC MS d mc3 ms3 post 1884 [some (vr (some b0)), some (vr (some x)), some (vr (some (g 0))), some (vr (some o)), some (vi (nI i)), none, none] [] u) : Jp mL_law p l e s m args below meth c0 Q D cy A MC MS d mc0 ms0 post 1089 [some (vr (some b0)), some (vr (some x)), some (vr (some (g 0))), some (vr (some o)), some (vi (nI i)), none, none] [] h := by
  refine jp_aload_n dL_law_1089 rfl ?_
  refine jp_aload_n dL_law_1090 rfl ?_
  refine jp_iload dL_law_1091 rfl ?_
  refine jp_iconst (v := 1) dL_law_1093 (by decide) ?_
  refine jp_iadd dL_law_1094 ?_
  refine jp_sld (i + 1) dL_law_1095 hX hbl hbA (by rw [li_1, nI_add]) (by omega) (by omega) ?_
  refine jp_aload_n dL_law_1096 rfl ?_
  refine jp_callH (as := [vr (some x), vi (xs (i + 1)), vr (some o)]) (st := []) dL_law_1097 hl_L_141 (h_go S kx hth con) rfl hd7 (by omega) (by omega) (Nat.le_of_ble_eq_true rfl) rfl (fun v_1097 u0 p_1097 => ?_)
  obtain ⟨rfl, uc, hK1, S1, hout⟩ := p_1097
  dsimp only [rs]
  refine jp_istore dL_law_1100 (by decide) ?_
  dsimp only [st1, st2, unL, List.set]
  refine jp_aload_n dL_law_1102 rfl ?_
  refine jp_aload_n dL_law_1103 rfl ?_
  refine jp_iload dL_law_1104 rfl ?_
  refine jp_iconst (v := 1) dL_law_1106 (by decide) ?_
  refine jp_iadd dL_law_1107 ?_
  refine jp_sld (i + 1) dL_law_1108 hX hbl hbA (by rw [li_1, nI_add]) (by omega) (by omega) ?_
  refine jp_callV1 dL_law_1109 vl_L_143 (con_frame cnm S1.2.1) ((S1.2.1 _ (by rw [km]; decide)).1.trans km) rfl hd2 (by omega) (by omega) (Nat.le_of_ble_eq_true rfl) (fun v_1109 u_1109 p_1109 => ?_)
  obtain ⟨um, ⟨hr, ⟨r2, rfl⟩, hmw, hth2, hk2⟩, rfl, fr⟩ := p_1109
  have S2 := LSt_m S1 fr
  dsimp only [rs]
  refine jp_istore dL_law_1112 (by decide) ?_
  dsimp only [st1, st2, unL, List.set]
  refine jp_aload_n dL_law_1114 rfl ?_
  refine jp_callV0 dL_law_1115 vl_L_98 (con_frame (c_thrown hmw) S2.1.2.1) ((S2.1.2.1 _ (by rw [hmw.1]; decide)).1.trans hmw.1) rfl (by omega) (by omega) (by omega) (Nat.le_of_ble_eq_true rfl) (fun v_1115 u_1115 p_1115 => ?_)
  obtain ⟨um2, ⟨rfl, rfl⟩, rfl, fr2⟩ := p_1115
  have S3 := LSt_m S2.1 fr2
  dsimp only [rs]
  rw [hth2]
  refine jp_iload dL_law_1118 rfl ?_
  refine jp_icmp_eq 1125 dL_law_1120 (by decide) (fun c_1120 => ?_) (fun c_1120 => ?_)
  · refine jp_iload dL_law_1125 rfl ?_
    refine jp_if_ne 1142 dL_law_1127 (by decide) (fun c_1127 => ?_) (fun c_1127 => ?_)
    · refine jp_goto 1884 dL_law_1142 (by decide) ?_
      exact jp_lle (by simp [lle]) (jp_mono (by omega) (by omega) (fin _ _ _ hK1 hk2 S3.1))
    · refine jp_aload_n dL_law_1130 rfl ?_
      refine jp_iconst (v := 0) dL_law_1131 (by decide) ?_
      have h0 : th = 0 := Classical.not_not.mp c_1127
      have er : r2 = r := by
        have z := hr h0
        simpa using z
      have e0 := (congrFun S3.2 0).trans ((congrFun S2.2 0).trans (hout h0))
      refine jp_lald 0 dL_law_1132 S3.1.2.2.2.1 rfl (by rw [S3.1.2.2.2.2.1]; decide) (by rw [S3.1.2.2.2.2.1]; decide) ?_
      rw [e0]
      refine jp_iload dL_law_1133 rfl ?_
      refine jp_i2l dL_law_1135 ?_
      refine jp_lcmp dL_law_1136 ?_
      refine jp_if_eq 1142 dL_law_1137 (by decide) (fun c_1137 => ?_) (fun c_1137 => ?_)
      · refine jp_goto 1884 dL_law_1142 (by decide) ?_
        exact jp_lle (by simp [lle]) (jp_mono (by omega) (by omega) (fin _ _ _ hK1 hk2 S3.1))
      · exact absurd (by rw [er]; exact lc_self _) c_1137
  · exact absurd rfl c_1120

set_option maxRecDepth 20000 in
theorem lw_drop {p : Program} {l : Launch} {e : Env} {s : State} {m : MethodId} {args : Array Value} {below : List Frame} {meth : Method} {c0 : Code} {Q : State → Prop} {D : va_G} {cy : Nat → ClassId} {A : Nat → Prop} {MC MS d : Nat} {post : Option Sv ⊕ String → Hp → Prop} {h hc hm : Hp} {x o b0 i L mc0 ms0 mc1 ms1 mc2 ms2 mc3 ms3 d2 : Nat} {g : Nat → Nat} {xs : Nat → Int32} {K K2 : Hp → Prop} {d1 : Nat} {r : Int32} (hX : va_X b0 L xs s s.heap) (hbl : b0 < s.heap.size) (hbA : ¬ A b0) (hi : i + 7 ≤ L) (hL : L < 4000) (S : LSt h hc hm o) (kx : hK hc x = 12) (km : hK hm (g 0) = 13) (con : Con mX11_drop d1 mc1 ms1 [vr (some x)] hc (fun v u => v = some (vi r) ∧ K u)) (cnm : Con mX12_drop d2 mc2 ms2 [vr (some (g 0))] hm (fun v u => v = some (vi r) ∧ K2 u)) (hd7 : d1 < d) (hd2 : d2 < d) (hmc : mc1 + mc2 + mc3 ≤ mc0) (hms : ms1 + ms2 + ms3 ≤ ms0) (fin : ∀ u uc um, K uc → K2 um → LSt u uc um o → Jp mL_law p l e s m args below meth c0 Q D cy A MC MS d mc3 ms3 post 1884 [some (vr (some b0)), some (vr (some x)), some (vr (some (g 0))), some (vr (some o)), some (vi (nI i)), none, none] [] u) : Jp mL_law p l e s m args below meth c0 Q D cy A MC MS d mc0 ms0 post 1145 [some (vr (some b0)), some (vr (some x)), some (vr (some (g 0))), some (vr (some o)), some (vi (nI i)), none, none] [] h := by
  refine jp_aload_n dL_law_1145 rfl ?_
  refine jp_callV0 dL_law_1146 vl_L_144 (con_frame con S.1) ((S.1 x (by rw [kx]; decide)).1.trans kx) rfl hd7 (by omega) (by omega) (Nat.le_of_ble_eq_true rfl) (fun v_1146 u_1146 p_1146 => ?_)
  obtain ⟨uc, ⟨rfl, hK1⟩, rfl, fr⟩ := p_1146
  have S1 := LSt_c S fr
  dsimp only [rs]
  refine jp_aload_n dL_law_1149 rfl ?_
  refine jp_callV0 dL_law_1150 vl_L_147 (con_frame cnm S1.1.2.1) ((S1.1.2.1 _ (by rw [km]; decide)).1.trans km) rfl hd2 (by omega) (by omega) (Nat.le_of_ble_eq_true rfl) (fun v_1150 u_1150 p_1150 => ?_)
  obtain ⟨um, ⟨rfl, hk2⟩, rfl, fr2⟩ := p_1150
  have S2 := LSt_m S1.1 fr2
  dsimp only [rs]
  refine jp_icmp_eq 1884 dL_law_1153 (by decide) (fun c_1153 => ?_) (fun c_1153 => ?_)
  · exact jp_lle (by simp [lle]) (jp_mono (by omega) (by omega) (fin _ _ _ hK1 hk2 S2.1))
  · exact absurd rfl c_1153

set_option maxRecDepth 20000 in
theorem lw_merge {p : Program} {l : Launch} {e : Env} {s : State} {m : MethodId} {args : Array Value} {below : List Frame} {meth : Method} {c0 : Code} {Q : State → Prop} {D : va_G} {cy : Nat → ClassId} {A : Nat → Prop} {MC MS d : Nat} {post : Option Sv ⊕ String → Hp → Prop} {h hc hm : Hp} {x o b0 i L mc0 ms0 mc1 ms1 mc2 ms2 mc3 ms3 d2 : Nat} {g : Nat → Nat} {xs : Nat → Int32} {K K2 : Hp → Prop} {d1 : Nat} {th r : Int32} (hX : va_X b0 L xs s s.heap) (hbl : b0 < s.heap.size) (hbA : ¬ A b0) (hi : i + 7 ≤ L) (hL : L < 4000) (S : LSt h hc hm o) (kx : hK hc x = 12) (km : hK hm (g 0) = 13) (hth : th = 0 ∨ th = 1 ∨ th = 2 ∨ th = 3 ∨ th = 4) (con : ConX mX11_merge d1 mc1 ms1 [vr (some x), vi (xs (i + 1))] hc (py K ["java/lang/IndexOutOfBoundsException", "java/util/NoSuchElementException", "java/lang/UnsupportedOperationException", "java/lang/IllegalStateException"] th r)) (cnm : Con mX12_merge d2 mc2 ms2 [vr (some (g 0)), vi (xs (i + 1))] hm (am g K2 r th)) (hd7 : d1 + 1 < d) (hd2 : d2 < d) (hmc : mc1 + mc2 + mc3 ≤ mc0) (hms : ms1 + ms2 + ms3 ≤ ms0) (fin : ∀ u uc um, K uc → K2 um → LSt u uc um o → Jp mL_law p l e s m args below meth c0 Q D cy A MC MS d mc3 ms3 post 1884 [some (vr (some b0)), some (vr (some x)), some (vr (some (g 0))), some (vr (some o)), some (vi (nI i)), none, none] [] u) : Jp mL_law p l e s m args below meth c0 Q D cy A MC MS d mc0 ms0 post 1158 [some (vr (some b0)), some (vr (some x)), some (vr (some (g 0))), some (vr (some o)), some (vi (nI i)), none, none] [] h := by
  refine jp_aload_n dL_law_1158 rfl ?_
  refine jp_aload_n dL_law_1159 rfl ?_
  refine jp_iload dL_law_1160 rfl ?_
  refine jp_iconst (v := 1) dL_law_1162 (by decide) ?_
  refine jp_iadd dL_law_1163 ?_
  refine jp_sld (i + 1) dL_law_1164 hX hbl hbA (by rw [li_1, nI_add]) (by omega) (by omega) ?_
  refine jp_aload_n dL_law_1165 rfl ?_
  refine jp_callH (as := [vr (some x), vi (xs (i + 1)), vr (some o)]) (st := []) dL_law_1166 hl_L_148 (h_merge S kx hth con) rfl hd7 (by omega) (by omega) (Nat.le_of_ble_eq_true rfl) rfl (fun v_1166 u0 p_1166 => ?_)
  obtain ⟨rfl, uc, hK1, S1, hout⟩ := p_1166
  dsimp only [rs]
  refine jp_istore dL_law_1169 (by decide) ?_
  dsimp only [st1, st2, unL, List.set]
  refine jp_aload_n dL_law_1171 rfl ?_
  refine jp_aload_n dL_law_1172 rfl ?_
  refine jp_iload dL_law_1173 rfl ?_
  refine jp_iconst (v := 1) dL_law_1175 (by decide) ?_
  refine jp_iadd dL_law_1176 ?_
  refine jp_sld (i + 1) dL_law_1177 hX hbl hbA (by rw [li_1, nI_add]) (by omega) (by omega) ?_
  refine jp_callV1 dL_law_1178 vl_L_150 (con_frame cnm S1.2.1) ((S1.2.1 _ (by rw [km]; decide)).1.trans km) rfl hd2 (by omega) (by omega) (Nat.le_of_ble_eq_true rfl) (fun v_1178 u_1178 p_1178 => ?_)
  obtain ⟨um, ⟨hr, ⟨r2, rfl⟩, hmw, hth2, hk2⟩, rfl, fr⟩ := p_1178
  have S2 := LSt_m S1 fr
  dsimp only [rs]
  refine jp_istore dL_law_1181 (by decide) ?_
  dsimp only [st1, st2, unL, List.set]
  refine jp_aload_n dL_law_1183 rfl ?_
  refine jp_callV0 dL_law_1184 vl_L_98 (con_frame (c_thrown hmw) S2.1.2.1) ((S2.1.2.1 _ (by rw [hmw.1]; decide)).1.trans hmw.1) rfl (by omega) (by omega) (by omega) (Nat.le_of_ble_eq_true rfl) (fun v_1184 u_1184 p_1184 => ?_)
  obtain ⟨um2, ⟨rfl, rfl⟩, rfl, fr2⟩ := p_1184
  have S3 := LSt_m S2.1 fr2
  dsimp only [rs]
  rw [hth2]
  refine jp_iload dL_law_1187 rfl ?_
  refine jp_icmp_eq 1194 dL_law_1189 (by decide) (fun c_1189 => ?_) (fun c_1189 => ?_)
  · refine jp_iload dL_law_1194 rfl ?_
    refine jp_if_ne 1211 dL_law_1196 (by decide) (fun c_1196 => ?_) (fun c_1196 => ?_)
    · refine jp_goto 1884 dL_law_1211 (by decide) ?_
      exact jp_lle (by simp [lle]) (jp_mono (by omega) (by omega) (fin _ _ _ hK1 hk2 S3.1))
    · refine jp_aload_n dL_law_1199 rfl ?_
      refine jp_iconst (v := 0) dL_law_1200 (by decide) ?_
      have h0 : th = 0 := Classical.not_not.mp c_1196
      have er : r2 = r := by
        have z := hr h0
        simpa using z
      have e0 := (congrFun S3.2 0).trans ((congrFun S2.2 0).trans (hout h0))
      refine jp_lald 0 dL_law_1201 S3.1.2.2.2.1 rfl (by rw [S3.1.2.2.2.2.1]; decide) (by rw [S3.1.2.2.2.2.1]; decide) ?_
      rw [e0]
      refine jp_iload dL_law_1202 rfl ?_
      refine jp_i2l dL_law_1204 ?_
      refine jp_lcmp dL_law_1205 ?_
      refine jp_if_eq 1211 dL_law_1206 (by decide) (fun c_1206 => ?_) (fun c_1206 => ?_)
      · refine jp_goto 1884 dL_law_1211 (by decide) ?_
        exact jp_lle (by simp [lle]) (jp_mono (by omega) (by omega) (fin _ _ _ hK1 hk2 S3.1))
      · exact absurd (by rw [er]; exact lc_self _) c_1206
  · exact absurd rfl c_1189

set_option maxRecDepth 20000 in
theorem lw_pick {p : Program} {l : Launch} {e : Env} {s : State} {m : MethodId} {args : Array Value} {below : List Frame} {meth : Method} {c0 : Code} {Q : State → Prop} {D : va_G} {cy : Nat → ClassId} {A : Nat → Prop} {MC MS d : Nat} {post : Option Sv ⊕ String → Hp → Prop} {h hc hm : Hp} {x o b0 i L mc0 ms0 mc1 ms1 mc2 ms2 mc3 ms3 d2 : Nat} {g : Nat → Nat} {xs : Nat → Int32} {K K2 : Hp → Prop} {d1 : Nat} {th r : Int32} (hX : va_X b0 L xs s s.heap) (hbl : b0 < s.heap.size) (hbA : ¬ A b0) (hi : i + 7 ≤ L) (hL : L < 4000) (S : LSt h hc hm o) (kx : hK hc x = 12) (km : hK hm (g 0) = 13) (hth : th = 0 ∨ th = 1 ∨ th = 2 ∨ th = 3) (con : ConX mX11_pick d1 mc1 ms1 [vr (some x), vi (xs (i + 1))] hc (py K ["java/util/NoSuchElementException", "java/lang/UnsupportedOperationException", "java/lang/IllegalStateException"] th r)) (cnm : Con mX12_pick d2 mc2 ms2 [vr (some (g 0)), vi (xs (i + 1))] hm (am g K2 r th)) (hd7 : d1 + 1 < d) (hd2 : d2 < d) (hmc : mc1 + mc2 + mc3 ≤ mc0) (hms : ms1 + ms2 + ms3 ≤ ms0) (fin : ∀ u uc um, K uc → K2 um → LSt u uc um o → Jp mL_law p l e s m args below meth c0 Q D cy A MC MS d mc3 ms3 post 1884 [some (vr (some b0)), some (vr (some x)), some (vr (some (g 0))), some (vr (some o)), some (vi (nI i)), none, none] [] u) : Jp mL_law p l e s m args below meth c0 Q D cy A MC MS d mc0 ms0 post 1214 [some (vr (some b0)), some (vr (some x)), some (vr (some (g 0))), some (vr (some o)), some (vi (nI i)), none, none] [] h := by
  refine jp_aload_n dL_law_1214 rfl ?_
  refine jp_aload_n dL_law_1215 rfl ?_
  refine jp_iload dL_law_1216 rfl ?_
  refine jp_iconst (v := 1) dL_law_1218 (by decide) ?_
  refine jp_iadd dL_law_1219 ?_
  refine jp_sld (i + 1) dL_law_1220 hX hbl hbA (by rw [li_1, nI_add]) (by omega) (by omega) ?_
  refine jp_aload_n dL_law_1221 rfl ?_
  refine jp_callH (as := [vr (some x), vi (xs (i + 1)), vr (some o)]) (st := []) dL_law_1222 hl_L_151 (h_pick S kx hth con) rfl hd7 (by omega) (by omega) (Nat.le_of_ble_eq_true rfl) rfl (fun v_1222 u0 p_1222 => ?_)
  obtain ⟨rfl, uc, hK1, S1, hout⟩ := p_1222
  dsimp only [rs]
  refine jp_istore dL_law_1225 (by decide) ?_
  dsimp only [st1, st2, unL, List.set]
  refine jp_aload_n dL_law_1227 rfl ?_
  refine jp_aload_n dL_law_1228 rfl ?_
  refine jp_iload dL_law_1229 rfl ?_
  refine jp_iconst (v := 1) dL_law_1231 (by decide) ?_
  refine jp_iadd dL_law_1232 ?_
  refine jp_sld (i + 1) dL_law_1233 hX hbl hbA (by rw [li_1, nI_add]) (by omega) (by omega) ?_
  refine jp_callV1 dL_law_1234 vl_L_153 (con_frame cnm S1.2.1) ((S1.2.1 _ (by rw [km]; decide)).1.trans km) rfl hd2 (by omega) (by omega) (Nat.le_of_ble_eq_true rfl) (fun v_1234 u_1234 p_1234 => ?_)
  obtain ⟨um, ⟨hr, ⟨r2, rfl⟩, hmw, hth2, hk2⟩, rfl, fr⟩ := p_1234
  have S2 := LSt_m S1 fr
  dsimp only [rs]
  refine jp_istore dL_law_1237 (by decide) ?_
  dsimp only [st1, st2, unL, List.set]
  refine jp_aload_n dL_law_1239 rfl ?_
  refine jp_callV0 dL_law_1240 vl_L_98 (con_frame (c_thrown hmw) S2.1.2.1) ((S2.1.2.1 _ (by rw [hmw.1]; decide)).1.trans hmw.1) rfl (by omega) (by omega) (by omega) (Nat.le_of_ble_eq_true rfl) (fun v_1240 u_1240 p_1240 => ?_)
  obtain ⟨um2, ⟨rfl, rfl⟩, rfl, fr2⟩ := p_1240
  have S3 := LSt_m S2.1 fr2
  dsimp only [rs]
  rw [hth2]
  refine jp_iload dL_law_1243 rfl ?_
  refine jp_icmp_eq 1250 dL_law_1245 (by decide) (fun c_1245 => ?_) (fun c_1245 => ?_)
  · refine jp_iload dL_law_1250 rfl ?_
    refine jp_if_ne 1267 dL_law_1252 (by decide) (fun c_1252 => ?_) (fun c_1252 => ?_)
    · refine jp_goto 1884 dL_law_1267 (by decide) ?_
      exact jp_lle (by simp [lle]) (jp_mono (by omega) (by omega) (fin _ _ _ hK1 hk2 S3.1))
    · refine jp_aload_n dL_law_1255 rfl ?_
      refine jp_iconst (v := 0) dL_law_1256 (by decide) ?_
      have h0 : th = 0 := Classical.not_not.mp c_1252
      have er : r2 = r := by
        have z := hr h0
        simpa using z
      have e0 := (congrFun S3.2 0).trans ((congrFun S2.2 0).trans (hout h0))
      refine jp_lald 0 dL_law_1257 S3.1.2.2.2.1 rfl (by rw [S3.1.2.2.2.2.1]; decide) (by rw [S3.1.2.2.2.2.1]; decide) ?_
      rw [e0]
      refine jp_iload dL_law_1258 rfl ?_
      refine jp_i2l dL_law_1260 ?_
      refine jp_lcmp dL_law_1261 ?_
      refine jp_if_eq 1267 dL_law_1262 (by decide) (fun c_1262 => ?_) (fun c_1262 => ?_)
      · refine jp_goto 1884 dL_law_1267 (by decide) ?_
        exact jp_lle (by simp [lle]) (jp_mono (by omega) (by omega) (fin _ _ _ hK1 hk2 S3.1))
      · exact absurd (by rw [er]; exact lc_self _) c_1262
  · exact absurd rfl c_1245

set_option maxRecDepth 20000 in
theorem lw_conflict {p : Program} {l : Launch} {e : Env} {s : State} {m : MethodId} {args : Array Value} {below : List Frame} {meth : Method} {c0 : Code} {Q : State → Prop} {D : va_G} {cy : Nat → ClassId} {A : Nat → Prop} {MC MS d : Nat} {post : Option Sv ⊕ String → Hp → Prop} {h hc hm : Hp} {x o b0 i L mc0 ms0 mc1 ms1 mc2 ms2 mc3 ms3 d2 : Nat} {g : Nat → Nat} {xs : Nat → Int32} {K K2 : Hp → Prop} {d1 : Nat} {r : Int32} (hX : va_X b0 L xs s s.heap) (hbl : b0 < s.heap.size) (hbA : ¬ A b0) (hi : i + 7 ≤ L) (hL : L < 4000) (S : LSt h hc hm o) (kx : hK hc x = 12) (km : hK hm (g 0) = 13) (con : Con mX11_conflict d1 mc1 ms1 [vr (some x), vi (xs (i + 1)), vi (xs (i + 2))] hc (fun v u => v = some (vi r) ∧ K u)) (cnm : Con mX12_conflict d2 mc2 ms2 [vr (some (g 0)), vi (xs (i + 1)), vi (xs (i + 2))] hm (fun v u => v = some (vi r) ∧ K2 u)) (hd7 : d1 < d) (hd2 : d2 < d) (hmc : mc1 + mc2 + mc3 ≤ mc0) (hms : ms1 + ms2 + ms3 ≤ ms0) (fin : ∀ u uc um, K uc → K2 um → LSt u uc um o → Jp mL_law p l e s m args below meth c0 Q D cy A MC MS d mc3 ms3 post 1884 [some (vr (some b0)), some (vr (some x)), some (vr (some (g 0))), some (vr (some o)), some (vi (nI i)), none, none] [] u) : Jp mL_law p l e s m args below meth c0 Q D cy A MC MS d mc0 ms0 post 1270 [some (vr (some b0)), some (vr (some x)), some (vr (some (g 0))), some (vr (some o)), some (vi (nI i)), none, none] [] h := by
  refine jp_aload_n dL_law_1270 rfl ?_
  refine jp_aload_n dL_law_1271 rfl ?_
  refine jp_iload dL_law_1272 rfl ?_
  refine jp_iconst (v := 1) dL_law_1274 (by decide) ?_
  refine jp_iadd dL_law_1275 ?_
  refine jp_sld (i + 1) dL_law_1276 hX hbl hbA (by rw [li_1, nI_add]) (by omega) (by omega) ?_
  refine jp_aload_n dL_law_1277 rfl ?_
  refine jp_iload dL_law_1278 rfl ?_
  refine jp_iconst (v := 2) dL_law_1280 (by decide) ?_
  refine jp_iadd dL_law_1281 ?_
  refine jp_sld (i + 2) dL_law_1282 hX hbl hbA (by rw [li_2, nI_add]) (by omega) (by omega) ?_
  refine jp_callV2 dL_law_1283 vl_L_154 (con_frame con S.1) ((S.1 x (by rw [kx]; decide)).1.trans kx) rfl hd7 (by omega) (by omega) (Nat.le_of_ble_eq_true rfl) (fun v_1283 u_1283 p_1283 => ?_)
  obtain ⟨uc, ⟨rfl, hK1⟩, rfl, fr⟩ := p_1283
  have S1 := LSt_c S fr
  dsimp only [rs]
  refine jp_aload_n dL_law_1286 rfl ?_
  refine jp_aload_n dL_law_1287 rfl ?_
  refine jp_iload dL_law_1288 rfl ?_
  refine jp_iconst (v := 1) dL_law_1290 (by decide) ?_
  refine jp_iadd dL_law_1291 ?_
  refine jp_sld (i + 1) dL_law_1292 hX hbl hbA (by rw [li_1, nI_add]) (by omega) (by omega) ?_
  refine jp_aload_n dL_law_1293 rfl ?_
  refine jp_iload dL_law_1294 rfl ?_
  refine jp_iconst (v := 2) dL_law_1296 (by decide) ?_
  refine jp_iadd dL_law_1297 ?_
  refine jp_sld (i + 2) dL_law_1298 hX hbl hbA (by rw [li_2, nI_add]) (by omega) (by omega) ?_
  refine jp_callV2 dL_law_1299 vl_L_157 (con_frame cnm S1.1.2.1) ((S1.1.2.1 _ (by rw [km]; decide)).1.trans km) rfl hd2 (by omega) (by omega) (Nat.le_of_ble_eq_true rfl) (fun v_1299 u_1299 p_1299 => ?_)
  obtain ⟨um, ⟨rfl, hk2⟩, rfl, fr2⟩ := p_1299
  have S2 := LSt_m S1.1 fr2
  dsimp only [rs]
  refine jp_icmp_eq 1884 dL_law_1302 (by decide) (fun c_1302 => ?_) (fun c_1302 => ?_)
  · exact jp_lle (by simp [lle]) (jp_mono (by omega) (by omega) (fin _ _ _ hK1 hk2 S2.1))
  · exact absurd rfl c_1302

set_option maxRecDepth 20000 in
theorem lw_choose0 {p : Program} {l : Launch} {e : Env} {s : State} {m : MethodId} {args : Array Value} {below : List Frame} {meth : Method} {c0 : Code} {Q : State → Prop} {D : va_G} {cy : Nat → ClassId} {A : Nat → Prop} {MC MS d : Nat} {post : Option Sv ⊕ String → Hp → Prop} {h hc hm : Hp} {x o b0 i L mc0 ms0 mc1 ms1 mc2 ms2 mc3 ms3 d2 : Nat} {g : Nat → Nat} {xs : Nat → Int32} {K K2 : Hp → Prop} {d1 : Nat} {th r : Int32} (hX : va_X b0 L xs s s.heap) (hbl : b0 < s.heap.size) (hbA : ¬ A b0) (hi : i + 7 ≤ L) (hL : L < 4000) (hb : xs (i + 2) = 0) (S : LSt h hc hm o) (kx : hK hc x = 12) (km : hK hm (g 0) = 13) (hth : th = 0 ∨ th = 1) (con : ConX mX11_choose d1 mc1 ms1 [vr (some x), vi (xs (i + 1)), vi 0] hc (py K ["java/lang/IndexOutOfBoundsException"] th r)) (cnm : Con mX12_choose d2 mc2 ms2 [vr (some (g 0)), vi (xs (i + 1)), vi 0] hm (am g K2 r th)) (hd7 : d1 + 1 < d) (hd2 : d2 < d) (hmc : mc1 + mc2 + mc3 ≤ mc0) (hms : ms1 + ms2 + ms3 ≤ ms0) (fin : ∀ u uc um, K uc → K2 um → LSt u uc um o → Jp mL_law p l e s m args below meth c0 Q D cy A MC MS d mc3 ms3 post 1884 [some (vr (some b0)), some (vr (some x)), some (vr (some (g 0))), some (vr (some o)), some (vi (nI i)), none, none] [] u) : Jp mL_law p l e s m args below meth c0 Q D cy A MC MS d mc0 ms0 post 1307 [some (vr (some b0)), some (vr (some x)), some (vr (some (g 0))), some (vr (some o)), some (vi (nI i)), none, none] [] h := by
  refine jp_aload_n dL_law_1307 rfl ?_
  refine jp_aload_n dL_law_1308 rfl ?_
  refine jp_iload dL_law_1309 rfl ?_
  refine jp_iconst (v := 1) dL_law_1311 (by decide) ?_
  refine jp_iadd dL_law_1312 ?_
  refine jp_sld (i + 1) dL_law_1313 hX hbl hbA (by rw [li_1, nI_add]) (by omega) (by omega) ?_
  refine jp_aload_n dL_law_1314 rfl ?_
  refine jp_iload dL_law_1315 rfl ?_
  refine jp_iconst (v := 2) dL_law_1317 (by decide) ?_
  refine jp_iadd dL_law_1318 ?_
  refine jp_sld (i + 2) dL_law_1319 hX hbl hbA (by rw [li_2, nI_add]) (by omega) (by omega) ?_
  refine jp_if_eq 1327 dL_law_1320 (by decide) (fun c_1320 => ?_) (fun c_1320 => ?_)
  · refine jp_iconst (v := 0) dL_law_1327 (by decide) ?_
    refine jp_aload_n dL_law_1328 rfl ?_
    refine jp_callH (as := [vr (some x), vi (xs (i + 1)), vi 0, vr (some o)]) (st := []) dL_law_1329 hl_L_158 (h_choose S kx hth con) rfl hd7 (by omega) (by omega) (Nat.le_of_ble_eq_true rfl) rfl (fun v_1329 u0 p_1329 => ?_)
    obtain ⟨rfl, uc, hK1, S1, hout⟩ := p_1329
    dsimp only [rs]
    refine jp_istore dL_law_1332 (by decide) ?_
    dsimp only [st1, st2, unL, List.set]
    refine jp_aload_n dL_law_1334 rfl ?_
    refine jp_aload_n dL_law_1335 rfl ?_
    refine jp_iload dL_law_1336 rfl ?_
    refine jp_iconst (v := 1) dL_law_1338 (by decide) ?_
    refine jp_iadd dL_law_1339 ?_
    refine jp_sld (i + 1) dL_law_1340 hX hbl hbA (by rw [li_1, nI_add]) (by omega) (by omega) ?_
    refine jp_aload_n dL_law_1341 rfl ?_
    refine jp_iload dL_law_1342 rfl ?_
    refine jp_iconst (v := 2) dL_law_1344 (by decide) ?_
    refine jp_iadd dL_law_1345 ?_
    refine jp_sld (i + 2) dL_law_1346 hX hbl hbA (by rw [li_2, nI_add]) (by omega) (by omega) ?_
    refine jp_if_eq 1354 dL_law_1347 (by decide) (fun c_1347 => ?_) (fun c_1347 => ?_)
    · refine jp_iconst (v := 0) dL_law_1354 (by decide) ?_
      refine jp_callV2 dL_law_1355 vl_L_161 (con_frame cnm S1.2.1) ((S1.2.1 _ (by rw [km]; decide)).1.trans km) rfl hd2 (by omega) (by omega) (Nat.le_of_ble_eq_true rfl) (fun v_1355 u_1355 p_1355 => ?_)
      obtain ⟨um, ⟨hr, ⟨r2, rfl⟩, hmw, hth2, hk2⟩, rfl, fr⟩ := p_1355
      have S2 := LSt_m S1 fr
      dsimp only [rs]
      refine jp_istore dL_law_1358 (by decide) ?_
      dsimp only [st1, st2, unL, List.set]
      refine jp_aload_n dL_law_1360 rfl ?_
      refine jp_callV0 dL_law_1361 vl_L_98 (con_frame (c_thrown hmw) S2.1.2.1) ((S2.1.2.1 _ (by rw [hmw.1]; decide)).1.trans hmw.1) rfl (by omega) (by omega) (by omega) (Nat.le_of_ble_eq_true rfl) (fun v_1361 u_1361 p_1361 => ?_)
      obtain ⟨um2, ⟨rfl, rfl⟩, rfl, fr2⟩ := p_1361
      have S3 := LSt_m S2.1 fr2
      dsimp only [rs]
      rw [hth2]
      refine jp_iload dL_law_1364 rfl ?_
      refine jp_icmp_eq 1371 dL_law_1366 (by decide) (fun c_1366 => ?_) (fun c_1366 => ?_)
      · refine jp_iload dL_law_1371 rfl ?_
        refine jp_if_ne 1388 dL_law_1373 (by decide) (fun c_1373 => ?_) (fun c_1373 => ?_)
        · refine jp_goto 1884 dL_law_1388 (by decide) ?_
          exact jp_lle (by simp [lle]) (jp_mono (by omega) (by omega) (fin _ _ _ hK1 hk2 S3.1))
        · refine jp_aload_n dL_law_1376 rfl ?_
          refine jp_iconst (v := 0) dL_law_1377 (by decide) ?_
          have h0 : th = 0 := Classical.not_not.mp c_1373
          have er : r2 = r := by
            have z := hr h0
            simpa using z
          have e0 := (congrFun S3.2 0).trans ((congrFun S2.2 0).trans (hout h0))
          refine jp_lald 0 dL_law_1378 S3.1.2.2.2.1 rfl (by rw [S3.1.2.2.2.2.1]; decide) (by rw [S3.1.2.2.2.2.1]; decide) ?_
          rw [e0]
          refine jp_iload dL_law_1379 rfl ?_
          refine jp_i2l dL_law_1381 ?_
          refine jp_lcmp dL_law_1382 ?_
          refine jp_if_eq 1388 dL_law_1383 (by decide) (fun c_1383 => ?_) (fun c_1383 => ?_)
          · refine jp_goto 1884 dL_law_1388 (by decide) ?_
            exact jp_lle (by simp [lle]) (jp_mono (by omega) (by omega) (fin _ _ _ hK1 hk2 S3.1))
          · exact absurd (by rw [er]; exact lc_self _) c_1383
      · exact absurd rfl c_1366
    · exact absurd hb c_1347
  · exact absurd hb c_1320

set_option maxRecDepth 20000 in
theorem lw_choose1 {p : Program} {l : Launch} {e : Env} {s : State} {m : MethodId} {args : Array Value} {below : List Frame} {meth : Method} {c0 : Code} {Q : State → Prop} {D : va_G} {cy : Nat → ClassId} {A : Nat → Prop} {MC MS d : Nat} {post : Option Sv ⊕ String → Hp → Prop} {h hc hm : Hp} {x o b0 i L mc0 ms0 mc1 ms1 mc2 ms2 mc3 ms3 d2 : Nat} {g : Nat → Nat} {xs : Nat → Int32} {K K2 : Hp → Prop} {d1 : Nat} {th r : Int32} (hX : va_X b0 L xs s s.heap) (hbl : b0 < s.heap.size) (hbA : ¬ A b0) (hi : i + 7 ≤ L) (hL : L < 4000) (hb : ¬ xs (i + 2) = 0) (S : LSt h hc hm o) (kx : hK hc x = 12) (km : hK hm (g 0) = 13) (hth : th = 0 ∨ th = 1) (con : ConX mX11_choose d1 mc1 ms1 [vr (some x), vi (xs (i + 1)), vi 1] hc (py K ["java/lang/IndexOutOfBoundsException"] th r)) (cnm : Con mX12_choose d2 mc2 ms2 [vr (some (g 0)), vi (xs (i + 1)), vi 1] hm (am g K2 r th)) (hd7 : d1 + 1 < d) (hd2 : d2 < d) (hmc : mc1 + mc2 + mc3 ≤ mc0) (hms : ms1 + ms2 + ms3 ≤ ms0) (fin : ∀ u uc um, K uc → K2 um → LSt u uc um o → Jp mL_law p l e s m args below meth c0 Q D cy A MC MS d mc3 ms3 post 1884 [some (vr (some b0)), some (vr (some x)), some (vr (some (g 0))), some (vr (some o)), some (vi (nI i)), none, none] [] u) : Jp mL_law p l e s m args below meth c0 Q D cy A MC MS d mc0 ms0 post 1307 [some (vr (some b0)), some (vr (some x)), some (vr (some (g 0))), some (vr (some o)), some (vi (nI i)), none, none] [] h := by
  refine jp_aload_n dL_law_1307 rfl ?_
  refine jp_aload_n dL_law_1308 rfl ?_
  refine jp_iload dL_law_1309 rfl ?_
  refine jp_iconst (v := 1) dL_law_1311 (by decide) ?_
  refine jp_iadd dL_law_1312 ?_
  refine jp_sld (i + 1) dL_law_1313 hX hbl hbA (by rw [li_1, nI_add]) (by omega) (by omega) ?_
  refine jp_aload_n dL_law_1314 rfl ?_
  refine jp_iload dL_law_1315 rfl ?_
  refine jp_iconst (v := 2) dL_law_1317 (by decide) ?_
  refine jp_iadd dL_law_1318 ?_
  refine jp_sld (i + 2) dL_law_1319 hX hbl hbA (by rw [li_2, nI_add]) (by omega) (by omega) ?_
  refine jp_if_eq 1327 dL_law_1320 (by decide) (fun c_1320 => ?_) (fun c_1320 => ?_)
  · exact absurd c_1320 hb
  · refine jp_iconst (v := 1) dL_law_1323 (by decide) ?_
    refine jp_goto 1328 dL_law_1324 (by decide) ?_
    refine jp_aload_n dL_law_1328 rfl ?_
    refine jp_callH (as := [vr (some x), vi (xs (i + 1)), vi 1, vr (some o)]) (st := []) dL_law_1329 hl_L_158 (h_choose S kx hth con) rfl hd7 (by omega) (by omega) (Nat.le_of_ble_eq_true rfl) rfl (fun v_1329 u0 p_1329 => ?_)
    obtain ⟨rfl, uc, hK1, S1, hout⟩ := p_1329
    dsimp only [rs]
    refine jp_istore dL_law_1332 (by decide) ?_
    dsimp only [st1, st2, unL, List.set]
    refine jp_aload_n dL_law_1334 rfl ?_
    refine jp_aload_n dL_law_1335 rfl ?_
    refine jp_iload dL_law_1336 rfl ?_
    refine jp_iconst (v := 1) dL_law_1338 (by decide) ?_
    refine jp_iadd dL_law_1339 ?_
    refine jp_sld (i + 1) dL_law_1340 hX hbl hbA (by rw [li_1, nI_add]) (by omega) (by omega) ?_
    refine jp_aload_n dL_law_1341 rfl ?_
    refine jp_iload dL_law_1342 rfl ?_
    refine jp_iconst (v := 2) dL_law_1344 (by decide) ?_
    refine jp_iadd dL_law_1345 ?_
    refine jp_sld (i + 2) dL_law_1346 hX hbl hbA (by rw [li_2, nI_add]) (by omega) (by omega) ?_
    refine jp_if_eq 1354 dL_law_1347 (by decide) (fun c_1347 => ?_) (fun c_1347 => ?_)
    · exact absurd c_1347 hb
    · refine jp_iconst (v := 1) dL_law_1350 (by decide) ?_
      refine jp_goto 1355 dL_law_1351 (by decide) ?_
      refine jp_callV2 dL_law_1355 vl_L_161 (con_frame cnm S1.2.1) ((S1.2.1 _ (by rw [km]; decide)).1.trans km) rfl hd2 (by omega) (by omega) (Nat.le_of_ble_eq_true rfl) (fun v_1355 u_1355 p_1355 => ?_)
      obtain ⟨um, ⟨hr, ⟨r2, rfl⟩, hmw, hth2, hk2⟩, rfl, fr⟩ := p_1355
      have S2 := LSt_m S1 fr
      dsimp only [rs]
      refine jp_istore dL_law_1358 (by decide) ?_
      dsimp only [st1, st2, unL, List.set]
      refine jp_aload_n dL_law_1360 rfl ?_
      refine jp_callV0 dL_law_1361 vl_L_98 (con_frame (c_thrown hmw) S2.1.2.1) ((S2.1.2.1 _ (by rw [hmw.1]; decide)).1.trans hmw.1) rfl (by omega) (by omega) (by omega) (Nat.le_of_ble_eq_true rfl) (fun v_1361 u_1361 p_1361 => ?_)
      obtain ⟨um2, ⟨rfl, rfl⟩, rfl, fr2⟩ := p_1361
      have S3 := LSt_m S2.1 fr2
      dsimp only [rs]
      rw [hth2]
      refine jp_iload dL_law_1364 rfl ?_
      refine jp_icmp_eq 1371 dL_law_1366 (by decide) (fun c_1366 => ?_) (fun c_1366 => ?_)
      · refine jp_iload dL_law_1371 rfl ?_
        refine jp_if_ne 1388 dL_law_1373 (by decide) (fun c_1373 => ?_) (fun c_1373 => ?_)
        · refine jp_goto 1884 dL_law_1388 (by decide) ?_
          exact jp_lle (by simp [lle]) (jp_mono (by omega) (by omega) (fin _ _ _ hK1 hk2 S3.1))
        · refine jp_aload_n dL_law_1376 rfl ?_
          refine jp_iconst (v := 0) dL_law_1377 (by decide) ?_
          have h0 : th = 0 := Classical.not_not.mp c_1373
          have er : r2 = r := by
            have z := hr h0
            simpa using z
          have e0 := (congrFun S3.2 0).trans ((congrFun S2.2 0).trans (hout h0))
          refine jp_lald 0 dL_law_1378 S3.1.2.2.2.1 rfl (by rw [S3.1.2.2.2.2.1]; decide) (by rw [S3.1.2.2.2.2.1]; decide) ?_
          rw [e0]
          refine jp_iload dL_law_1379 rfl ?_
          refine jp_i2l dL_law_1381 ?_
          refine jp_lcmp dL_law_1382 ?_
          refine jp_if_eq 1388 dL_law_1383 (by decide) (fun c_1383 => ?_) (fun c_1383 => ?_)
          · refine jp_goto 1884 dL_law_1388 (by decide) ?_
            exact jp_lle (by simp [lle]) (jp_mono (by omega) (by omega) (fin _ _ _ hK1 hk2 S3.1))
          · exact absurd (by rw [er]; exact lc_self _) c_1383
      · exact absurd rfl c_1366

set_option maxRecDepth 20000 in
theorem lw_base {p : Program} {l : Launch} {e : Env} {s : State} {m : MethodId} {args : Array Value} {below : List Frame} {meth : Method} {c0 : Code} {Q : State → Prop} {D : va_G} {cy : Nat → ClassId} {A : Nat → Prop} {MC MS d : Nat} {post : Option Sv ⊕ String → Hp → Prop} {h hc hm : Hp} {x o b0 i L mc0 ms0 mc1 ms1 mc2 ms2 mc3 ms3 d2 : Nat} {g : Nat → Nat} {xs : Nat → Int32} {K K2 : Hp → Prop} {d1 : Nat} {r : Int32} (hX : va_X b0 L xs s s.heap) (hbl : b0 < s.heap.size) (hbA : ¬ A b0) (hi : i + 7 ≤ L) (hL : L < 4000) (S : LSt h hc hm o) (kx : hK hc x = 12) (km : hK hm (g 0) = 13) (con : Con mX11_base d1 mc1 ms1 [vr (some x), vi (xs (i + 1)), vi (xs (i + 2))] hc (fun v u => v = some (vi r) ∧ K u)) (cnm : Con mX12_base d2 mc2 ms2 [vr (some (g 0)), vi (xs (i + 1)), vi (xs (i + 2))] hm (fun v u => v = some (vi r) ∧ K2 u)) (hd7 : d1 < d) (hd2 : d2 < d) (hmc : mc1 + mc2 + mc3 ≤ mc0) (hms : ms1 + ms2 + ms3 ≤ ms0) (fin : ∀ u uc um, K uc → K2 um → LSt u uc um o → Jp mL_law p l e s m args below meth c0 Q D cy A MC MS d mc3 ms3 post 1884 [some (vr (some b0)), some (vr (some x)), some (vr (some (g 0))), some (vr (some o)), some (vi (nI i)), none, none] [] u) : Jp mL_law p l e s m args below meth c0 Q D cy A MC MS d mc0 ms0 post 1391 [some (vr (some b0)), some (vr (some x)), some (vr (some (g 0))), some (vr (some o)), some (vi (nI i)), none, none] [] h := by
  refine jp_aload_n dL_law_1391 rfl ?_
  refine jp_aload_n dL_law_1392 rfl ?_
  refine jp_iload dL_law_1393 rfl ?_
  refine jp_iconst (v := 1) dL_law_1395 (by decide) ?_
  refine jp_iadd dL_law_1396 ?_
  refine jp_sld (i + 1) dL_law_1397 hX hbl hbA (by rw [li_1, nI_add]) (by omega) (by omega) ?_
  refine jp_aload_n dL_law_1398 rfl ?_
  refine jp_iload dL_law_1399 rfl ?_
  refine jp_iconst (v := 2) dL_law_1401 (by decide) ?_
  refine jp_iadd dL_law_1402 ?_
  refine jp_sld (i + 2) dL_law_1403 hX hbl hbA (by rw [li_2, nI_add]) (by omega) (by omega) ?_
  refine jp_callV2 dL_law_1404 vl_L_162 (con_frame con S.1) ((S.1 x (by rw [kx]; decide)).1.trans kx) rfl hd7 (by omega) (by omega) (Nat.le_of_ble_eq_true rfl) (fun v_1404 u_1404 p_1404 => ?_)
  obtain ⟨uc, ⟨rfl, hK1⟩, rfl, fr⟩ := p_1404
  have S1 := LSt_c S fr
  dsimp only [rs]
  refine jp_aload_n dL_law_1407 rfl ?_
  refine jp_aload_n dL_law_1408 rfl ?_
  refine jp_iload dL_law_1409 rfl ?_
  refine jp_iconst (v := 1) dL_law_1411 (by decide) ?_
  refine jp_iadd dL_law_1412 ?_
  refine jp_sld (i + 1) dL_law_1413 hX hbl hbA (by rw [li_1, nI_add]) (by omega) (by omega) ?_
  refine jp_aload_n dL_law_1414 rfl ?_
  refine jp_iload dL_law_1415 rfl ?_
  refine jp_iconst (v := 2) dL_law_1417 (by decide) ?_
  refine jp_iadd dL_law_1418 ?_
  refine jp_sld (i + 2) dL_law_1419 hX hbl hbA (by rw [li_2, nI_add]) (by omega) (by omega) ?_
  refine jp_callV2 dL_law_1420 vl_L_165 (con_frame cnm S1.1.2.1) ((S1.1.2.1 _ (by rw [km]; decide)).1.trans km) rfl hd2 (by omega) (by omega) (Nat.le_of_ble_eq_true rfl) (fun v_1420 u_1420 p_1420 => ?_)
  obtain ⟨um, ⟨rfl, hk2⟩, rfl, fr2⟩ := p_1420
  have S2 := LSt_m S1.1 fr2
  dsimp only [rs]
  refine jp_icmp_eq 1884 dL_law_1423 (by decide) (fun c_1423 => ?_) (fun c_1423 => ?_)
  · exact jp_lle (by simp [lle]) (jp_mono (by omega) (by omega) (fin _ _ _ hK1 hk2 S2.1))
  · exact absurd rfl c_1423

set_option maxRecDepth 20000 in
theorem lw_diff {p : Program} {l : Launch} {e : Env} {s : State} {m : MethodId} {args : Array Value} {below : List Frame} {meth : Method} {c0 : Code} {Q : State → Prop} {D : va_G} {cy : Nat → ClassId} {A : Nat → Prop} {MC MS d : Nat} {post : Option Sv ⊕ String → Hp → Prop} {h hc hm : Hp} {x o b0 i L mc0 ms0 mc1 ms1 mc2 ms2 mc3 ms3 d2 : Nat} {g : Nat → Nat} {xs : Nat → Int32} {K K2 : Hp → Prop} {d1 : Nat} {th r : Int32} (hX : va_X b0 L xs s s.heap) (hbl : b0 < s.heap.size) (hbA : ¬ A b0) (hi : i + 7 ≤ L) (hL : L < 4000) (S : LSt h hc hm o) (kx : hK hc x = 12) (km : hK hm (g 0) = 13) (hth : th = 0 ∨ th = 1) (con : ConX mX11_diff d1 mc1 ms1 [vr (some x), vi (xs (i + 1)), vi (xs (i + 2))] hc (py K ["java/util/NoSuchElementException"] th r)) (cnm : Con mX12_diff d2 mc2 ms2 [vr (some (g 0)), vi (xs (i + 1)), vi (xs (i + 2))] hm (am g K2 r th)) (hd7 : d1 + 1 < d) (hd2 : d2 < d) (hmc : mc1 + mc2 + mc3 ≤ mc0) (hms : ms1 + ms2 + ms3 ≤ ms0) (fin : ∀ u uc um, K uc → K2 um → LSt u uc um o → Jp mL_law p l e s m args below meth c0 Q D cy A MC MS d mc3 ms3 post 1884 [some (vr (some b0)), some (vr (some x)), some (vr (some (g 0))), some (vr (some o)), some (vi (nI i)), none, none] [] u) : Jp mL_law p l e s m args below meth c0 Q D cy A MC MS d mc0 ms0 post 1428 [some (vr (some b0)), some (vr (some x)), some (vr (some (g 0))), some (vr (some o)), some (vi (nI i)), none, none] [] h := by
  refine jp_aload_n dL_law_1428 rfl ?_
  refine jp_aload_n dL_law_1429 rfl ?_
  refine jp_iload dL_law_1430 rfl ?_
  refine jp_iconst (v := 1) dL_law_1432 (by decide) ?_
  refine jp_iadd dL_law_1433 ?_
  refine jp_sld (i + 1) dL_law_1434 hX hbl hbA (by rw [li_1, nI_add]) (by omega) (by omega) ?_
  refine jp_aload_n dL_law_1435 rfl ?_
  refine jp_iload dL_law_1436 rfl ?_
  refine jp_iconst (v := 2) dL_law_1438 (by decide) ?_
  refine jp_iadd dL_law_1439 ?_
  refine jp_sld (i + 2) dL_law_1440 hX hbl hbA (by rw [li_2, nI_add]) (by omega) (by omega) ?_
  refine jp_aload_n dL_law_1441 rfl ?_
  refine jp_callH (as := [vr (some x), vi (xs (i + 1)), vi (xs (i + 2)), vr (some o)]) (st := []) dL_law_1442 hl_L_166 (h_diff S kx hth con) rfl hd7 (by omega) (by omega) (Nat.le_of_ble_eq_true rfl) rfl (fun v_1442 u0 p_1442 => ?_)
  obtain ⟨rfl, uc, hK1, S1, hout⟩ := p_1442
  dsimp only [rs]
  refine jp_istore dL_law_1445 (by decide) ?_
  dsimp only [st1, st2, unL, List.set]
  refine jp_aload_n dL_law_1447 rfl ?_
  refine jp_aload_n dL_law_1448 rfl ?_
  refine jp_iload dL_law_1449 rfl ?_
  refine jp_iconst (v := 1) dL_law_1451 (by decide) ?_
  refine jp_iadd dL_law_1452 ?_
  refine jp_sld (i + 1) dL_law_1453 hX hbl hbA (by rw [li_1, nI_add]) (by omega) (by omega) ?_
  refine jp_aload_n dL_law_1454 rfl ?_
  refine jp_iload dL_law_1455 rfl ?_
  refine jp_iconst (v := 2) dL_law_1457 (by decide) ?_
  refine jp_iadd dL_law_1458 ?_
  refine jp_sld (i + 2) dL_law_1459 hX hbl hbA (by rw [li_2, nI_add]) (by omega) (by omega) ?_
  refine jp_callV2 dL_law_1460 vl_L_168 (con_frame cnm S1.2.1) ((S1.2.1 _ (by rw [km]; decide)).1.trans km) rfl hd2 (by omega) (by omega) (Nat.le_of_ble_eq_true rfl) (fun v_1460 u_1460 p_1460 => ?_)
  obtain ⟨um, ⟨hr, ⟨r2, rfl⟩, hmw, hth2, hk2⟩, rfl, fr⟩ := p_1460
  have S2 := LSt_m S1 fr
  dsimp only [rs]
  refine jp_istore dL_law_1463 (by decide) ?_
  dsimp only [st1, st2, unL, List.set]
  refine jp_aload_n dL_law_1465 rfl ?_
  refine jp_callV0 dL_law_1466 vl_L_98 (con_frame (c_thrown hmw) S2.1.2.1) ((S2.1.2.1 _ (by rw [hmw.1]; decide)).1.trans hmw.1) rfl (by omega) (by omega) (by omega) (Nat.le_of_ble_eq_true rfl) (fun v_1466 u_1466 p_1466 => ?_)
  obtain ⟨um2, ⟨rfl, rfl⟩, rfl, fr2⟩ := p_1466
  have S3 := LSt_m S2.1 fr2
  dsimp only [rs]
  rw [hth2]
  refine jp_iload dL_law_1469 rfl ?_
  refine jp_icmp_eq 1476 dL_law_1471 (by decide) (fun c_1471 => ?_) (fun c_1471 => ?_)
  · refine jp_iload dL_law_1476 rfl ?_
    refine jp_if_ne 1493 dL_law_1478 (by decide) (fun c_1478 => ?_) (fun c_1478 => ?_)
    · refine jp_goto 1884 dL_law_1493 (by decide) ?_
      exact jp_lle (by simp [lle]) (jp_mono (by omega) (by omega) (fin _ _ _ hK1 hk2 S3.1))
    · refine jp_aload_n dL_law_1481 rfl ?_
      refine jp_iconst (v := 0) dL_law_1482 (by decide) ?_
      have h0 : th = 0 := Classical.not_not.mp c_1478
      have er : r2 = r := by
        have z := hr h0
        simpa using z
      have e0 := (congrFun S3.2 0).trans ((congrFun S2.2 0).trans (hout h0))
      refine jp_lald 0 dL_law_1483 S3.1.2.2.2.1 rfl (by rw [S3.1.2.2.2.2.1]; decide) (by rw [S3.1.2.2.2.2.1]; decide) ?_
      rw [e0]
      refine jp_iload dL_law_1484 rfl ?_
      refine jp_i2l dL_law_1486 ?_
      refine jp_lcmp dL_law_1487 ?_
      refine jp_if_eq 1493 dL_law_1488 (by decide) (fun c_1488 => ?_) (fun c_1488 => ?_)
      · refine jp_goto 1884 dL_law_1493 (by decide) ?_
        exact jp_lle (by simp [lle]) (jp_mono (by omega) (by omega) (fin _ _ _ hK1 hk2 S3.1))
      · exact absurd (by rw [er]; exact lc_self _) c_1488
  · exact absurd rfl c_1471

set_option maxRecDepth 20000 in
theorem lw_difference {p : Program} {l : Launch} {e : Env} {s : State} {m : MethodId} {args : Array Value} {below : List Frame} {meth : Method} {c0 : Code} {Q : State → Prop} {D : va_G} {cy : Nat → ClassId} {A : Nat → Prop} {MC MS d : Nat} {post : Option Sv ⊕ String → Hp → Prop} {h hc hm : Hp} {x o b0 i L mc0 ms0 mc1 ms1 mc2 ms2 mc3 ms3 d2 : Nat} {g : Nat → Nat} {xs : Nat → Int32} {K K2 : Hp → Prop} {d1 : Nat} {r : Int32} (hX : va_X b0 L xs s s.heap) (hbl : b0 < s.heap.size) (hbA : ¬ A b0) (hi : i + 7 ≤ L) (hL : L < 4000) (S : LSt h hc hm o) (kx : hK hc x = 12) (km : hK hm (g 0) = 13) (con : Con mX11_difference d1 mc1 ms1 [vr (some x), vi (xs (i + 1)), vi (xs (i + 2))] hc (fun v u => v = some (vi r) ∧ K u)) (cnm : Con mX12_difference d2 mc2 ms2 [vr (some (g 0)), vi (xs (i + 1)), vi (xs (i + 2))] hm (fun v u => v = some (vi r) ∧ K2 u)) (hd7 : d1 < d) (hd2 : d2 < d) (hmc : mc1 + mc2 + mc3 ≤ mc0) (hms : ms1 + ms2 + ms3 ≤ ms0) (fin : ∀ u uc um, K uc → K2 um → LSt u uc um o → Jp mL_law p l e s m args below meth c0 Q D cy A MC MS d mc3 ms3 post 1884 [some (vr (some b0)), some (vr (some x)), some (vr (some (g 0))), some (vr (some o)), some (vi (nI i)), none, none] [] u) : Jp mL_law p l e s m args below meth c0 Q D cy A MC MS d mc0 ms0 post 1496 [some (vr (some b0)), some (vr (some x)), some (vr (some (g 0))), some (vr (some o)), some (vi (nI i)), none, none] [] h := by
  refine jp_aload_n dL_law_1496 rfl ?_
  refine jp_aload_n dL_law_1497 rfl ?_
  refine jp_iload dL_law_1498 rfl ?_
  refine jp_iconst (v := 1) dL_law_1500 (by decide) ?_
  refine jp_iadd dL_law_1501 ?_
  refine jp_sld (i + 1) dL_law_1502 hX hbl hbA (by rw [li_1, nI_add]) (by omega) (by omega) ?_
  refine jp_aload_n dL_law_1503 rfl ?_
  refine jp_iload dL_law_1504 rfl ?_
  refine jp_iconst (v := 2) dL_law_1506 (by decide) ?_
  refine jp_iadd dL_law_1507 ?_
  refine jp_sld (i + 2) dL_law_1508 hX hbl hbA (by rw [li_2, nI_add]) (by omega) (by omega) ?_
  refine jp_callV2 dL_law_1509 vl_L_169 (con_frame con S.1) ((S.1 x (by rw [kx]; decide)).1.trans kx) rfl hd7 (by omega) (by omega) (Nat.le_of_ble_eq_true rfl) (fun v_1509 u_1509 p_1509 => ?_)
  obtain ⟨uc, ⟨rfl, hK1⟩, rfl, fr⟩ := p_1509
  have S1 := LSt_c S fr
  dsimp only [rs]
  refine jp_aload_n dL_law_1512 rfl ?_
  refine jp_aload_n dL_law_1513 rfl ?_
  refine jp_iload dL_law_1514 rfl ?_
  refine jp_iconst (v := 1) dL_law_1516 (by decide) ?_
  refine jp_iadd dL_law_1517 ?_
  refine jp_sld (i + 1) dL_law_1518 hX hbl hbA (by rw [li_1, nI_add]) (by omega) (by omega) ?_
  refine jp_aload_n dL_law_1519 rfl ?_
  refine jp_iload dL_law_1520 rfl ?_
  refine jp_iconst (v := 2) dL_law_1522 (by decide) ?_
  refine jp_iadd dL_law_1523 ?_
  refine jp_sld (i + 2) dL_law_1524 hX hbl hbA (by rw [li_2, nI_add]) (by omega) (by omega) ?_
  refine jp_callV2 dL_law_1525 vl_L_172 (con_frame cnm S1.1.2.1) ((S1.1.2.1 _ (by rw [km]; decide)).1.trans km) rfl hd2 (by omega) (by omega) (Nat.le_of_ble_eq_true rfl) (fun v_1525 u_1525 p_1525 => ?_)
  obtain ⟨um, ⟨rfl, hk2⟩, rfl, fr2⟩ := p_1525
  have S2 := LSt_m S1.1 fr2
  dsimp only [rs]
  refine jp_icmp_eq 1884 dL_law_1528 (by decide) (fun c_1528 => ?_) (fun c_1528 => ?_)
  · exact jp_lle (by simp [lle]) (jp_mono (by omega) (by omega) (fin _ _ _ hK1 hk2 S2.1))
  · exact absurd rfl c_1528

set_option maxRecDepth 20000 in
theorem lw_blame {p : Program} {l : Launch} {e : Env} {s : State} {m : MethodId} {args : Array Value} {below : List Frame} {meth : Method} {c0 : Code} {Q : State → Prop} {D : va_G} {cy : Nat → ClassId} {A : Nat → Prop} {MC MS d : Nat} {post : Option Sv ⊕ String → Hp → Prop} {h hc hm : Hp} {x o b0 i L mc0 ms0 mc1 ms1 mc2 ms2 mc3 ms3 d2 : Nat} {g : Nat → Nat} {xs : Nat → Int32} {K K2 : Hp → Prop} {d1 : Nat} {th r : Int32} (hX : va_X b0 L xs s s.heap) (hbl : b0 < s.heap.size) (hbA : ¬ A b0) (hi : i + 7 ≤ L) (hL : L < 4000) (S : LSt h hc hm o) (kx : hK hc x = 12) (km : hK hm (g 0) = 13) (hth : th = 0 ∨ th = 1) (con : ConX mX11_blame d1 mc1 ms1 [vr (some x), vi (xs (i + 1)), vi (xs (i + 2))] hc (py K ["java/lang/IndexOutOfBoundsException"] th r)) (cnm : Con mX12_blame d2 mc2 ms2 [vr (some (g 0)), vi (xs (i + 1)), vi (xs (i + 2))] hm (am g K2 r th)) (hd7 : d1 + 1 < d) (hd2 : d2 < d) (hmc : mc1 + mc2 + mc3 ≤ mc0) (hms : ms1 + ms2 + ms3 ≤ ms0) (fin : ∀ u uc um, K uc → K2 um → LSt u uc um o → Jp mL_law p l e s m args below meth c0 Q D cy A MC MS d mc3 ms3 post 1884 [some (vr (some b0)), some (vr (some x)), some (vr (some (g 0))), some (vr (some o)), some (vi (nI i)), none, none] [] u) : Jp mL_law p l e s m args below meth c0 Q D cy A MC MS d mc0 ms0 post 1533 [some (vr (some b0)), some (vr (some x)), some (vr (some (g 0))), some (vr (some o)), some (vi (nI i)), none, none] [] h := by
  refine jp_aload_n dL_law_1533 rfl ?_
  refine jp_aload_n dL_law_1534 rfl ?_
  refine jp_iload dL_law_1535 rfl ?_
  refine jp_iconst (v := 1) dL_law_1537 (by decide) ?_
  refine jp_iadd dL_law_1538 ?_
  refine jp_sld (i + 1) dL_law_1539 hX hbl hbA (by rw [li_1, nI_add]) (by omega) (by omega) ?_
  refine jp_aload_n dL_law_1540 rfl ?_
  refine jp_iload dL_law_1541 rfl ?_
  refine jp_iconst (v := 2) dL_law_1543 (by decide) ?_
  refine jp_iadd dL_law_1544 ?_
  refine jp_sld (i + 2) dL_law_1545 hX hbl hbA (by rw [li_2, nI_add]) (by omega) (by omega) ?_
  refine jp_aload_n dL_law_1546 rfl ?_
  refine jp_callH (as := [vr (some x), vi (xs (i + 1)), vi (xs (i + 2)), vr (some o)]) (st := []) dL_law_1547 hl_L_173 (h_blame S kx hth con) rfl hd7 (by omega) (by omega) (Nat.le_of_ble_eq_true rfl) rfl (fun v_1547 u0 p_1547 => ?_)
  obtain ⟨rfl, uc, hK1, S1, hout⟩ := p_1547
  dsimp only [rs]
  refine jp_istore dL_law_1550 (by decide) ?_
  dsimp only [st1, st2, unL, List.set]
  refine jp_aload_n dL_law_1552 rfl ?_
  refine jp_aload_n dL_law_1553 rfl ?_
  refine jp_iload dL_law_1554 rfl ?_
  refine jp_iconst (v := 1) dL_law_1556 (by decide) ?_
  refine jp_iadd dL_law_1557 ?_
  refine jp_sld (i + 1) dL_law_1558 hX hbl hbA (by rw [li_1, nI_add]) (by omega) (by omega) ?_
  refine jp_aload_n dL_law_1559 rfl ?_
  refine jp_iload dL_law_1560 rfl ?_
  refine jp_iconst (v := 2) dL_law_1562 (by decide) ?_
  refine jp_iadd dL_law_1563 ?_
  refine jp_sld (i + 2) dL_law_1564 hX hbl hbA (by rw [li_2, nI_add]) (by omega) (by omega) ?_
  refine jp_callV2 dL_law_1565 vl_L_175 (con_frame cnm S1.2.1) ((S1.2.1 _ (by rw [km]; decide)).1.trans km) rfl hd2 (by omega) (by omega) (Nat.le_of_ble_eq_true rfl) (fun v_1565 u_1565 p_1565 => ?_)
  obtain ⟨um, ⟨hr, ⟨r2, rfl⟩, hmw, hth2, hk2⟩, rfl, fr⟩ := p_1565
  have S2 := LSt_m S1 fr
  dsimp only [rs]
  refine jp_istore dL_law_1568 (by decide) ?_
  dsimp only [st1, st2, unL, List.set]
  refine jp_aload_n dL_law_1570 rfl ?_
  refine jp_callV0 dL_law_1571 vl_L_98 (con_frame (c_thrown hmw) S2.1.2.1) ((S2.1.2.1 _ (by rw [hmw.1]; decide)).1.trans hmw.1) rfl (by omega) (by omega) (by omega) (Nat.le_of_ble_eq_true rfl) (fun v_1571 u_1571 p_1571 => ?_)
  obtain ⟨um2, ⟨rfl, rfl⟩, rfl, fr2⟩ := p_1571
  have S3 := LSt_m S2.1 fr2
  dsimp only [rs]
  rw [hth2]
  refine jp_iload dL_law_1574 rfl ?_
  refine jp_icmp_eq 1581 dL_law_1576 (by decide) (fun c_1576 => ?_) (fun c_1576 => ?_)
  · refine jp_iload dL_law_1581 rfl ?_
    refine jp_if_ne 1598 dL_law_1583 (by decide) (fun c_1583 => ?_) (fun c_1583 => ?_)
    · refine jp_goto 1884 dL_law_1598 (by decide) ?_
      exact jp_lle (by simp [lle]) (jp_mono (by omega) (by omega) (fin _ _ _ hK1 hk2 S3.1))
    · refine jp_aload_n dL_law_1586 rfl ?_
      refine jp_iconst (v := 0) dL_law_1587 (by decide) ?_
      have h0 : th = 0 := Classical.not_not.mp c_1583
      have er : r2 = r := by
        have z := hr h0
        simpa using z
      have e0 := (congrFun S3.2 0).trans ((congrFun S2.2 0).trans (hout h0))
      refine jp_lald 0 dL_law_1588 S3.1.2.2.2.1 rfl (by rw [S3.1.2.2.2.2.1]; decide) (by rw [S3.1.2.2.2.2.1]; decide) ?_
      rw [e0]
      refine jp_iload dL_law_1589 rfl ?_
      refine jp_i2l dL_law_1591 ?_
      refine jp_lcmp dL_law_1592 ?_
      refine jp_if_eq 1598 dL_law_1593 (by decide) (fun c_1593 => ?_) (fun c_1593 => ?_)
      · refine jp_goto 1884 dL_law_1598 (by decide) ?_
        exact jp_lle (by simp [lle]) (jp_mono (by omega) (by omega) (fin _ _ _ hK1 hk2 S3.1))
      · exact absurd (by rw [er]; exact lc_self _) c_1593
  · exact absurd rfl c_1576

set_option maxRecDepth 20000 in
theorem lw_sheet {p : Program} {l : Launch} {e : Env} {s : State} {m : MethodId} {args : Array Value} {below : List Frame} {meth : Method} {c0 : Code} {Q : State → Prop} {D : va_G} {cy : Nat → ClassId} {A : Nat → Prop} {MC MS d : Nat} {post : Option Sv ⊕ String → Hp → Prop} {h hc hm : Hp} {x o b0 i L mc0 ms0 mc1 ms1 mc2 ms2 mc3 ms3 d2 : Nat} {g : Nat → Nat} {xs : Nat → Int32} {K K2 : Hp → Prop} {d1 : Nat} {r : Int32} (hX : va_X b0 L xs s s.heap) (hbl : b0 < s.heap.size) (hbA : ¬ A b0) (hi : i + 7 ≤ L) (hL : L < 4000) (S : LSt h hc hm o) (kx : hK hc x = 12) (km : hK hm (g 0) = 13) (con : Con mX11_sheet d1 mc1 ms1 [vr (some x), vi (xs (i + 1)), vi (xs (i + 2))] hc (fun v u => v = some (vi r) ∧ K u)) (cnm : Con mX12_sheet d2 mc2 ms2 [vr (some (g 0)), vi (xs (i + 1)), vi (xs (i + 2))] hm (fun v u => v = some (vi r) ∧ K2 u)) (hd7 : d1 < d) (hd2 : d2 < d) (hmc : mc1 + mc2 + mc3 ≤ mc0) (hms : ms1 + ms2 + ms3 ≤ ms0) (fin : ∀ u uc um, K uc → K2 um → LSt u uc um o → Jp mL_law p l e s m args below meth c0 Q D cy A MC MS d mc3 ms3 post 1884 [some (vr (some b0)), some (vr (some x)), some (vr (some (g 0))), some (vr (some o)), some (vi (nI i)), none, none] [] u) : Jp mL_law p l e s m args below meth c0 Q D cy A MC MS d mc0 ms0 post 1601 [some (vr (some b0)), some (vr (some x)), some (vr (some (g 0))), some (vr (some o)), some (vi (nI i)), none, none] [] h := by
  refine jp_aload_n dL_law_1601 rfl ?_
  refine jp_aload_n dL_law_1602 rfl ?_
  refine jp_iload dL_law_1603 rfl ?_
  refine jp_iconst (v := 1) dL_law_1605 (by decide) ?_
  refine jp_iadd dL_law_1606 ?_
  refine jp_sld (i + 1) dL_law_1607 hX hbl hbA (by rw [li_1, nI_add]) (by omega) (by omega) ?_
  refine jp_aload_n dL_law_1608 rfl ?_
  refine jp_iload dL_law_1609 rfl ?_
  refine jp_iconst (v := 2) dL_law_1611 (by decide) ?_
  refine jp_iadd dL_law_1612 ?_
  refine jp_sld (i + 2) dL_law_1613 hX hbl hbA (by rw [li_2, nI_add]) (by omega) (by omega) ?_
  refine jp_callV2 dL_law_1614 vl_L_176 (con_frame con S.1) ((S.1 x (by rw [kx]; decide)).1.trans kx) rfl hd7 (by omega) (by omega) (Nat.le_of_ble_eq_true rfl) (fun v_1614 u_1614 p_1614 => ?_)
  obtain ⟨uc, ⟨rfl, hK1⟩, rfl, fr⟩ := p_1614
  have S1 := LSt_c S fr
  dsimp only [rs]
  refine jp_aload_n dL_law_1617 rfl ?_
  refine jp_aload_n dL_law_1618 rfl ?_
  refine jp_iload dL_law_1619 rfl ?_
  refine jp_iconst (v := 1) dL_law_1621 (by decide) ?_
  refine jp_iadd dL_law_1622 ?_
  refine jp_sld (i + 1) dL_law_1623 hX hbl hbA (by rw [li_1, nI_add]) (by omega) (by omega) ?_
  refine jp_aload_n dL_law_1624 rfl ?_
  refine jp_iload dL_law_1625 rfl ?_
  refine jp_iconst (v := 2) dL_law_1627 (by decide) ?_
  refine jp_iadd dL_law_1628 ?_
  refine jp_sld (i + 2) dL_law_1629 hX hbl hbA (by rw [li_2, nI_add]) (by omega) (by omega) ?_
  refine jp_callV2 dL_law_1630 vl_L_179 (con_frame cnm S1.1.2.1) ((S1.1.2.1 _ (by rw [km]; decide)).1.trans km) rfl hd2 (by omega) (by omega) (Nat.le_of_ble_eq_true rfl) (fun v_1630 u_1630 p_1630 => ?_)
  obtain ⟨um, ⟨rfl, hk2⟩, rfl, fr2⟩ := p_1630
  have S2 := LSt_m S1.1 fr2
  dsimp only [rs]
  refine jp_icmp_eq 1884 dL_law_1633 (by decide) (fun c_1633 => ?_) (fun c_1633 => ?_)
  · exact jp_lle (by simp [lle]) (jp_mono (by omega) (by omega) (fin _ _ _ hK1 hk2 S2.1))
  · exact absurd rfl c_1633

set_option maxRecDepth 20000 in
theorem lw_kind {p : Program} {l : Launch} {e : Env} {s : State} {m : MethodId} {args : Array Value} {below : List Frame} {meth : Method} {c0 : Code} {Q : State → Prop} {D : va_G} {cy : Nat → ClassId} {A : Nat → Prop} {MC MS d : Nat} {post : Option Sv ⊕ String → Hp → Prop} {h hc hm : Hp} {x o b0 i L mc0 ms0 mc1 ms1 mc2 ms2 mc3 ms3 d2 : Nat} {g : Nat → Nat} {xs : Nat → Int32} {K K2 : Hp → Prop} {d1 : Nat} {r : Int32} (hX : va_X b0 L xs s s.heap) (hbl : b0 < s.heap.size) (hbA : ¬ A b0) (hi : i + 7 ≤ L) (hL : L < 4000) (S : LSt h hc hm o) (kx : hK hc x = 12) (km : hK hm (g 0) = 13) (con : Con mX11_kind d1 mc1 ms1 [vr (some x), vi (xs (i + 1)), vi (xs (i + 2)), vi (xs (i + 3))] hc (fun v u => v = some (vi r) ∧ K u)) (cnm : Con mX12_kind d2 mc2 ms2 [vr (some (g 0)), vi (xs (i + 1)), vi (xs (i + 2)), vi (xs (i + 3))] hm (fun v u => v = some (vi r) ∧ K2 u)) (hd7 : d1 < d) (hd2 : d2 < d) (hmc : mc1 + mc2 + mc3 ≤ mc0) (hms : ms1 + ms2 + ms3 ≤ ms0) (fin : ∀ u uc um, K uc → K2 um → LSt u uc um o → Jp mL_law p l e s m args below meth c0 Q D cy A MC MS d mc3 ms3 post 1884 [some (vr (some b0)), some (vr (some x)), some (vr (some (g 0))), some (vr (some o)), some (vi (nI i)), none, none] [] u) : Jp mL_law p l e s m args below meth c0 Q D cy A MC MS d mc0 ms0 post 1638 [some (vr (some b0)), some (vr (some x)), some (vr (some (g 0))), some (vr (some o)), some (vi (nI i)), none, none] [] h := by
  refine jp_aload_n dL_law_1638 rfl ?_
  refine jp_aload_n dL_law_1639 rfl ?_
  refine jp_iload dL_law_1640 rfl ?_
  refine jp_iconst (v := 1) dL_law_1642 (by decide) ?_
  refine jp_iadd dL_law_1643 ?_
  refine jp_sld (i + 1) dL_law_1644 hX hbl hbA (by rw [li_1, nI_add]) (by omega) (by omega) ?_
  refine jp_aload_n dL_law_1645 rfl ?_
  refine jp_iload dL_law_1646 rfl ?_
  refine jp_iconst (v := 2) dL_law_1648 (by decide) ?_
  refine jp_iadd dL_law_1649 ?_
  refine jp_sld (i + 2) dL_law_1650 hX hbl hbA (by rw [li_2, nI_add]) (by omega) (by omega) ?_
  refine jp_aload_n dL_law_1651 rfl ?_
  refine jp_iload dL_law_1652 rfl ?_
  refine jp_iconst (v := 3) dL_law_1654 (by decide) ?_
  refine jp_iadd dL_law_1655 ?_
  refine jp_sld (i + 3) dL_law_1656 hX hbl hbA (by rw [li_3, nI_add]) (by omega) (by omega) ?_
  refine jp_callV3 dL_law_1657 vl_L_180 (con_frame con S.1) ((S.1 x (by rw [kx]; decide)).1.trans kx) rfl hd7 (by omega) (by omega) (Nat.le_of_ble_eq_true rfl) (fun v_1657 u_1657 p_1657 => ?_)
  obtain ⟨uc, ⟨rfl, hK1⟩, rfl, fr⟩ := p_1657
  have S1 := LSt_c S fr
  dsimp only [rs]
  refine jp_aload_n dL_law_1660 rfl ?_
  refine jp_aload_n dL_law_1661 rfl ?_
  refine jp_iload dL_law_1662 rfl ?_
  refine jp_iconst (v := 1) dL_law_1664 (by decide) ?_
  refine jp_iadd dL_law_1665 ?_
  refine jp_sld (i + 1) dL_law_1666 hX hbl hbA (by rw [li_1, nI_add]) (by omega) (by omega) ?_
  refine jp_aload_n dL_law_1667 rfl ?_
  refine jp_iload dL_law_1668 rfl ?_
  refine jp_iconst (v := 2) dL_law_1670 (by decide) ?_
  refine jp_iadd dL_law_1671 ?_
  refine jp_sld (i + 2) dL_law_1672 hX hbl hbA (by rw [li_2, nI_add]) (by omega) (by omega) ?_
  refine jp_aload_n dL_law_1673 rfl ?_
  refine jp_iload dL_law_1674 rfl ?_
  refine jp_iconst (v := 3) dL_law_1676 (by decide) ?_
  refine jp_iadd dL_law_1677 ?_
  refine jp_sld (i + 3) dL_law_1678 hX hbl hbA (by rw [li_3, nI_add]) (by omega) (by omega) ?_
  refine jp_callV3 dL_law_1679 vl_L_183 (con_frame cnm S1.1.2.1) ((S1.1.2.1 _ (by rw [km]; decide)).1.trans km) rfl hd2 (by omega) (by omega) (Nat.le_of_ble_eq_true rfl) (fun v_1679 u_1679 p_1679 => ?_)
  obtain ⟨um, ⟨rfl, hk2⟩, rfl, fr2⟩ := p_1679
  have S2 := LSt_m S1.1 fr2
  dsimp only [rs]
  refine jp_icmp_eq 1884 dL_law_1682 (by decide) (fun c_1682 => ?_) (fun c_1682 => ?_)
  · exact jp_lle (by simp [lle]) (jp_mono (by omega) (by omega) (fin _ _ _ hK1 hk2 S2.1))
  · exact absurd rfl c_1682

set_option maxRecDepth 20000 in
theorem lw_value {p : Program} {l : Launch} {e : Env} {s : State} {m : MethodId} {args : Array Value} {below : List Frame} {meth : Method} {c0 : Code} {Q : State → Prop} {D : va_G} {cy : Nat → ClassId} {A : Nat → Prop} {MC MS d : Nat} {post : Option Sv ⊕ String → Hp → Prop} {h hc hm : Hp} {x o b0 i L mc0 ms0 mc1 ms1 mc2 ms2 mc3 ms3 d2 : Nat} {g : Nat → Nat} {xs : Nat → Int32} {K K2 : Hp → Prop} {d1 : Nat} {r : Int64} (hX : va_X b0 L xs s s.heap) (hbl : b0 < s.heap.size) (hbA : ¬ A b0) (hi : i + 7 ≤ L) (hL : L < 4000) (S : LSt h hc hm o) (kx : hK hc x = 12) (km : hK hm (g 0) = 13) (con : Con mX11_value d1 mc1 ms1 [vr (some x), vi (xs (i + 1)), vi (xs (i + 2)), vi (xs (i + 3))] hc (fun v u => v = some (vl r) ∧ K u)) (cnm : Con mX12_value d2 mc2 ms2 [vr (some (g 0)), vi (xs (i + 1)), vi (xs (i + 2)), vi (xs (i + 3))] hm (fun v u => v = some (vl r) ∧ K2 u)) (hd7 : d1 < d) (hd2 : d2 < d) (hmc : mc1 + mc2 + mc3 ≤ mc0) (hms : ms1 + ms2 + ms3 ≤ ms0) (fin : ∀ u uc um, K uc → K2 um → LSt u uc um o → Jp mL_law p l e s m args below meth c0 Q D cy A MC MS d mc3 ms3 post 1884 [some (vr (some b0)), some (vr (some x)), some (vr (some (g 0))), some (vr (some o)), some (vi (nI i)), none, none] [] u) : Jp mL_law p l e s m args below meth c0 Q D cy A MC MS d mc0 ms0 post 1687 [some (vr (some b0)), some (vr (some x)), some (vr (some (g 0))), some (vr (some o)), some (vi (nI i)), none, none] [] h := by
  refine jp_aload_n dL_law_1687 rfl ?_
  refine jp_aload_n dL_law_1688 rfl ?_
  refine jp_iload dL_law_1689 rfl ?_
  refine jp_iconst (v := 1) dL_law_1691 (by decide) ?_
  refine jp_iadd dL_law_1692 ?_
  refine jp_sld (i + 1) dL_law_1693 hX hbl hbA (by rw [li_1, nI_add]) (by omega) (by omega) ?_
  refine jp_aload_n dL_law_1694 rfl ?_
  refine jp_iload dL_law_1695 rfl ?_
  refine jp_iconst (v := 2) dL_law_1697 (by decide) ?_
  refine jp_iadd dL_law_1698 ?_
  refine jp_sld (i + 2) dL_law_1699 hX hbl hbA (by rw [li_2, nI_add]) (by omega) (by omega) ?_
  refine jp_aload_n dL_law_1700 rfl ?_
  refine jp_iload dL_law_1701 rfl ?_
  refine jp_iconst (v := 3) dL_law_1703 (by decide) ?_
  refine jp_iadd dL_law_1704 ?_
  refine jp_sld (i + 3) dL_law_1705 hX hbl hbA (by rw [li_3, nI_add]) (by omega) (by omega) ?_
  refine jp_callV3 dL_law_1706 vl_L_184 (con_frame con S.1) ((S.1 x (by rw [kx]; decide)).1.trans kx) rfl hd7 (by omega) (by omega) (Nat.le_of_ble_eq_true rfl) (fun v_1706 u_1706 p_1706 => ?_)
  obtain ⟨uc, ⟨rfl, hK1⟩, rfl, fr⟩ := p_1706
  have S1 := LSt_c S fr
  dsimp only [rs]
  refine jp_aload_n dL_law_1709 rfl ?_
  refine jp_aload_n dL_law_1710 rfl ?_
  refine jp_iload dL_law_1711 rfl ?_
  refine jp_iconst (v := 1) dL_law_1713 (by decide) ?_
  refine jp_iadd dL_law_1714 ?_
  refine jp_sld (i + 1) dL_law_1715 hX hbl hbA (by rw [li_1, nI_add]) (by omega) (by omega) ?_
  refine jp_aload_n dL_law_1716 rfl ?_
  refine jp_iload dL_law_1717 rfl ?_
  refine jp_iconst (v := 2) dL_law_1719 (by decide) ?_
  refine jp_iadd dL_law_1720 ?_
  refine jp_sld (i + 2) dL_law_1721 hX hbl hbA (by rw [li_2, nI_add]) (by omega) (by omega) ?_
  refine jp_aload_n dL_law_1722 rfl ?_
  refine jp_iload dL_law_1723 rfl ?_
  refine jp_iconst (v := 3) dL_law_1725 (by decide) ?_
  refine jp_iadd dL_law_1726 ?_
  refine jp_sld (i + 3) dL_law_1727 hX hbl hbA (by rw [li_3, nI_add]) (by omega) (by omega) ?_
  refine jp_callV3 dL_law_1728 vl_L_188 (con_frame cnm S1.1.2.1) ((S1.1.2.1 _ (by rw [km]; decide)).1.trans km) rfl hd2 (by omega) (by omega) (Nat.le_of_ble_eq_true rfl) (fun v_1728 u_1728 p_1728 => ?_)
  obtain ⟨um, ⟨rfl, hk2⟩, rfl, fr2⟩ := p_1728
  have S2 := LSt_m S1.1 fr2
  dsimp only [rs]
  refine jp_lcmp dL_law_1731 ?_
  refine jp_if_eq 1884 dL_law_1732 (by decide) (fun c_1732 => ?_) (fun c_1732 => ?_)
  · exact jp_lle (by simp [lle]) (jp_mono (by omega) (by omega) (fin _ _ _ hK1 hk2 S2.1))
  · exact absurd (lc_self _) c_1732

set_option maxRecDepth 20000 in
theorem lw_letter {p : Program} {l : Launch} {e : Env} {s : State} {m : MethodId} {args : Array Value} {below : List Frame} {meth : Method} {c0 : Code} {Q : State → Prop} {D : va_G} {cy : Nat → ClassId} {A : Nat → Prop} {MC MS d : Nat} {post : Option Sv ⊕ String → Hp → Prop} {h hc hm : Hp} {x o b0 i L mc0 ms0 mc1 ms1 mc2 ms2 mc3 ms3 d2 : Nat} {g : Nat → Nat} {xs : Nat → Int32} {K K2 : Hp → Prop} {d1 : Nat} {r : Int32} (hX : va_X b0 L xs s s.heap) (hbl : b0 < s.heap.size) (hbA : ¬ A b0) (hi : i + 7 ≤ L) (hL : L < 4000) (S : LSt h hc hm o) (kx : hK hc x = 12) (km : hK hm (g 0) = 13) (con : Con mX11_letter d1 mc1 ms1 [vr (some x), vi (xs (i + 1)), vi (xs (i + 2)), vi (xs (i + 3)), vi (xs (i + 4))] hc (fun v u => v = some (vi r) ∧ K u)) (cnm : Con mX12_letter d2 mc2 ms2 [vr (some (g 0)), vi (xs (i + 1)), vi (xs (i + 2)), vi (xs (i + 3)), vi (xs (i + 4))] hm (fun v u => v = some (vi r) ∧ K2 u)) (hd7 : d1 < d) (hd2 : d2 < d) (hmc : mc1 + mc2 + mc3 ≤ mc0) (hms : ms1 + ms2 + ms3 ≤ ms0) (fin : ∀ u uc um, K uc → K2 um → LSt u uc um o → Jp mL_law p l e s m args below meth c0 Q D cy A MC MS d mc3 ms3 post 1884 [some (vr (some b0)), some (vr (some x)), some (vr (some (g 0))), some (vr (some o)), some (vi (nI i)), none, none] [] u) : Jp mL_law p l e s m args below meth c0 Q D cy A MC MS d mc0 ms0 post 1737 [some (vr (some b0)), some (vr (some x)), some (vr (some (g 0))), some (vr (some o)), some (vi (nI i)), none, none] [] h := by
  refine jp_aload_n dL_law_1737 rfl ?_
  refine jp_aload_n dL_law_1738 rfl ?_
  refine jp_iload dL_law_1739 rfl ?_
  refine jp_iconst (v := 1) dL_law_1741 (by decide) ?_
  refine jp_iadd dL_law_1742 ?_
  refine jp_sld (i + 1) dL_law_1743 hX hbl hbA (by rw [li_1, nI_add]) (by omega) (by omega) ?_
  refine jp_aload_n dL_law_1744 rfl ?_
  refine jp_iload dL_law_1745 rfl ?_
  refine jp_iconst (v := 2) dL_law_1747 (by decide) ?_
  refine jp_iadd dL_law_1748 ?_
  refine jp_sld (i + 2) dL_law_1749 hX hbl hbA (by rw [li_2, nI_add]) (by omega) (by omega) ?_
  refine jp_aload_n dL_law_1750 rfl ?_
  refine jp_iload dL_law_1751 rfl ?_
  refine jp_iconst (v := 3) dL_law_1753 (by decide) ?_
  refine jp_iadd dL_law_1754 ?_
  refine jp_sld (i + 3) dL_law_1755 hX hbl hbA (by rw [li_3, nI_add]) (by omega) (by omega) ?_
  refine jp_aload_n dL_law_1756 rfl ?_
  refine jp_iload dL_law_1757 rfl ?_
  refine jp_iconst (v := 4) dL_law_1759 (by decide) ?_
  refine jp_iadd dL_law_1760 ?_
  refine jp_sld (i + 4) dL_law_1761 hX hbl hbA (by rw [li_4, nI_add]) (by omega) (by omega) ?_
  refine jp_callV4 dL_law_1762 vl_L_189 (con_frame con S.1) ((S.1 x (by rw [kx]; decide)).1.trans kx) rfl hd7 (by omega) (by omega) (Nat.le_of_ble_eq_true rfl) (fun v_1762 u_1762 p_1762 => ?_)
  obtain ⟨uc, ⟨rfl, hK1⟩, rfl, fr⟩ := p_1762
  have S1 := LSt_c S fr
  dsimp only [rs]
  refine jp_aload_n dL_law_1765 rfl ?_
  refine jp_aload_n dL_law_1766 rfl ?_
  refine jp_iload dL_law_1767 rfl ?_
  refine jp_iconst (v := 1) dL_law_1769 (by decide) ?_
  refine jp_iadd dL_law_1770 ?_
  refine jp_sld (i + 1) dL_law_1771 hX hbl hbA (by rw [li_1, nI_add]) (by omega) (by omega) ?_
  refine jp_aload_n dL_law_1772 rfl ?_
  refine jp_iload dL_law_1773 rfl ?_
  refine jp_iconst (v := 2) dL_law_1775 (by decide) ?_
  refine jp_iadd dL_law_1776 ?_
  refine jp_sld (i + 2) dL_law_1777 hX hbl hbA (by rw [li_2, nI_add]) (by omega) (by omega) ?_
  refine jp_aload_n dL_law_1778 rfl ?_
  refine jp_iload dL_law_1779 rfl ?_
  refine jp_iconst (v := 3) dL_law_1781 (by decide) ?_
  refine jp_iadd dL_law_1782 ?_
  refine jp_sld (i + 3) dL_law_1783 hX hbl hbA (by rw [li_3, nI_add]) (by omega) (by omega) ?_
  refine jp_aload_n dL_law_1784 rfl ?_
  refine jp_iload dL_law_1785 rfl ?_
  refine jp_iconst (v := 4) dL_law_1787 (by decide) ?_
  refine jp_iadd dL_law_1788 ?_
  refine jp_sld (i + 4) dL_law_1789 hX hbl hbA (by rw [li_4, nI_add]) (by omega) (by omega) ?_
  refine jp_callV4 dL_law_1790 vl_L_192 (con_frame cnm S1.1.2.1) ((S1.1.2.1 _ (by rw [km]; decide)).1.trans km) rfl hd2 (by omega) (by omega) (Nat.le_of_ble_eq_true rfl) (fun v_1790 u_1790 p_1790 => ?_)
  obtain ⟨um, ⟨rfl, hk2⟩, rfl, fr2⟩ := p_1790
  have S2 := LSt_m S1.1 fr2
  dsimp only [rs]
  refine jp_icmp_eq 1884 dL_law_1793 (by decide) (fun c_1793 => ?_) (fun c_1793 => ?_)
  · exact jp_lle (by simp [lle]) (jp_mono (by omega) (by omega) (fin _ _ _ hK1 hk2 S2.1))
  · exact absurd rfl c_1793

set_option maxRecDepth 20000 in
theorem lw_written {p : Program} {l : Launch} {e : Env} {s : State} {m : MethodId} {args : Array Value} {below : List Frame} {meth : Method} {c0 : Code} {Q : State → Prop} {D : va_G} {cy : Nat → ClassId} {A : Nat → Prop} {MC MS d : Nat} {post : Option Sv ⊕ String → Hp → Prop} {h hc hm : Hp} {x o b0 i L mc0 ms0 mc1 ms1 mc2 ms2 mc3 ms3 d2 : Nat} {g : Nat → Nat} {xs : Nat → Int32} {K K2 : Hp → Prop} {d1 : Nat} {r : Int32} (hX : va_X b0 L xs s s.heap) (hbl : b0 < s.heap.size) (hbA : ¬ A b0) (hi : i + 7 ≤ L) (hL : L < 4000) (S : LSt h hc hm o) (kx : hK hc x = 12) (km : hK hm (g 0) = 13) (con : Con mX11_written d1 mc1 ms1 [vr (some x), vi (xs (i + 1)), vi (xs (i + 2)), vi (xs (i + 3)), vi (xs (i + 4))] hc (fun v u => v = some (vi r) ∧ K u)) (cnm : Con mX12_written d2 mc2 ms2 [vr (some (g 0)), vi (xs (i + 1)), vi (xs (i + 2)), vi (xs (i + 3)), vi (xs (i + 4))] hm (fun v u => v = some (vi r) ∧ K2 u)) (hd7 : d1 < d) (hd2 : d2 < d) (hmc : mc1 + mc2 + mc3 ≤ mc0) (hms : ms1 + ms2 + ms3 ≤ ms0) (fin : ∀ u uc um, K uc → K2 um → LSt u uc um o → Jp mL_law p l e s m args below meth c0 Q D cy A MC MS d mc3 ms3 post 1884 [some (vr (some b0)), some (vr (some x)), some (vr (some (g 0))), some (vr (some o)), some (vi (nI i)), none, none] [] u) : Jp mL_law p l e s m args below meth c0 Q D cy A MC MS d mc0 ms0 post 1798 [some (vr (some b0)), some (vr (some x)), some (vr (some (g 0))), some (vr (some o)), some (vi (nI i)), none, none] [] h := by
  refine jp_aload_n dL_law_1798 rfl ?_
  refine jp_aload_n dL_law_1799 rfl ?_
  refine jp_iload dL_law_1800 rfl ?_
  refine jp_iconst (v := 1) dL_law_1802 (by decide) ?_
  refine jp_iadd dL_law_1803 ?_
  refine jp_sld (i + 1) dL_law_1804 hX hbl hbA (by rw [li_1, nI_add]) (by omega) (by omega) ?_
  refine jp_aload_n dL_law_1805 rfl ?_
  refine jp_iload dL_law_1806 rfl ?_
  refine jp_iconst (v := 2) dL_law_1808 (by decide) ?_
  refine jp_iadd dL_law_1809 ?_
  refine jp_sld (i + 2) dL_law_1810 hX hbl hbA (by rw [li_2, nI_add]) (by omega) (by omega) ?_
  refine jp_aload_n dL_law_1811 rfl ?_
  refine jp_iload dL_law_1812 rfl ?_
  refine jp_iconst (v := 3) dL_law_1814 (by decide) ?_
  refine jp_iadd dL_law_1815 ?_
  refine jp_sld (i + 3) dL_law_1816 hX hbl hbA (by rw [li_3, nI_add]) (by omega) (by omega) ?_
  refine jp_aload_n dL_law_1817 rfl ?_
  refine jp_iload dL_law_1818 rfl ?_
  refine jp_iconst (v := 4) dL_law_1820 (by decide) ?_
  refine jp_iadd dL_law_1821 ?_
  refine jp_sld (i + 4) dL_law_1822 hX hbl hbA (by rw [li_4, nI_add]) (by omega) (by omega) ?_
  refine jp_callV4 dL_law_1823 vl_L_193 (con_frame con S.1) ((S.1 x (by rw [kx]; decide)).1.trans kx) rfl hd7 (by omega) (by omega) (Nat.le_of_ble_eq_true rfl) (fun v_1823 u_1823 p_1823 => ?_)
  obtain ⟨uc, ⟨rfl, hK1⟩, rfl, fr⟩ := p_1823
  have S1 := LSt_c S fr
  dsimp only [rs]
  refine jp_aload_n dL_law_1826 rfl ?_
  refine jp_aload_n dL_law_1827 rfl ?_
  refine jp_iload dL_law_1828 rfl ?_
  refine jp_iconst (v := 1) dL_law_1830 (by decide) ?_
  refine jp_iadd dL_law_1831 ?_
  refine jp_sld (i + 1) dL_law_1832 hX hbl hbA (by rw [li_1, nI_add]) (by omega) (by omega) ?_
  refine jp_aload_n dL_law_1833 rfl ?_
  refine jp_iload dL_law_1834 rfl ?_
  refine jp_iconst (v := 2) dL_law_1836 (by decide) ?_
  refine jp_iadd dL_law_1837 ?_
  refine jp_sld (i + 2) dL_law_1838 hX hbl hbA (by rw [li_2, nI_add]) (by omega) (by omega) ?_
  refine jp_aload_n dL_law_1839 rfl ?_
  refine jp_iload dL_law_1840 rfl ?_
  refine jp_iconst (v := 3) dL_law_1842 (by decide) ?_
  refine jp_iadd dL_law_1843 ?_
  refine jp_sld (i + 3) dL_law_1844 hX hbl hbA (by rw [li_3, nI_add]) (by omega) (by omega) ?_
  refine jp_aload_n dL_law_1845 rfl ?_
  refine jp_iload dL_law_1846 rfl ?_
  refine jp_iconst (v := 4) dL_law_1848 (by decide) ?_
  refine jp_iadd dL_law_1849 ?_
  refine jp_sld (i + 4) dL_law_1850 hX hbl hbA (by rw [li_4, nI_add]) (by omega) (by omega) ?_
  refine jp_callV4 dL_law_1851 vl_L_196 (con_frame cnm S1.1.2.1) ((S1.1.2.1 _ (by rw [km]; decide)).1.trans km) rfl hd2 (by omega) (by omega) (Nat.le_of_ble_eq_true rfl) (fun v_1851 u_1851 p_1851 => ?_)
  obtain ⟨um, ⟨rfl, hk2⟩, rfl, fr2⟩ := p_1851
  have S2 := LSt_m S1.1 fr2
  dsimp only [rs]
  refine jp_icmp_eq 1884 dL_law_1854 (by decide) (fun c_1854 => ?_) (fun c_1854 => ?_)
  · exact jp_lle (by simp [lle]) (jp_mono (by omega) (by omega) (fin _ _ _ hK1 hk2 S2.1))
  · exact absurd rfl c_1854

set_option maxRecDepth 20000 in
theorem lw_total {p : Program} {l : Launch} {e : Env} {s : State} {m : MethodId} {args : Array Value} {below : List Frame} {meth : Method} {c0 : Code} {Q : State → Prop} {D : va_G} {cy : Nat → ClassId} {A : Nat → Prop} {MC MS d : Nat} {post : Option Sv ⊕ String → Hp → Prop} {h hc hm : Hp} {x o b0 i L mc0 ms0 mc1 ms1 mc2 ms2 mc3 ms3 d2 : Nat} {g : Nat → Nat} {xs : Nat → Int32} {K K2 : Hp → Prop} {d1 : Nat} {r : Int32} (hX : va_X b0 L xs s s.heap) (hbl : b0 < s.heap.size) (hbA : ¬ A b0) (hi : i + 7 ≤ L) (hL : L < 4000) (S : LSt h hc hm o) (kx : hK hc x = 12) (km : hK hm (g 0) = 13) (con : Con mX11_total d1 mc1 ms1 [vr (some x), vi (xs (i + 1))] hc (fun v u => v = some (vi r) ∧ K u)) (cnm : Con mX12_total d2 mc2 ms2 [vr (some (g 0)), vi (xs (i + 1))] hm (fun v u => v = some (vi r) ∧ K2 u)) (hd7 : d1 < d) (hd2 : d2 < d) (hmc : mc1 + mc2 + mc3 ≤ mc0) (hms : ms1 + ms2 + ms3 ≤ ms0) (fin : ∀ u uc um, K uc → K2 um → LSt u uc um o → Jp mL_law p l e s m args below meth c0 Q D cy A MC MS d mc3 ms3 post 1884 [some (vr (some b0)), some (vr (some x)), some (vr (some (g 0))), some (vr (some o)), some (vi (nI i)), none, none] [] u) : Jp mL_law p l e s m args below meth c0 Q D cy A MC MS d mc0 ms0 post 1859 [some (vr (some b0)), some (vr (some x)), some (vr (some (g 0))), some (vr (some o)), some (vi (nI i)), none, none] [] h := by
  refine jp_aload_n dL_law_1859 rfl ?_
  refine jp_aload_n dL_law_1860 rfl ?_
  refine jp_iload dL_law_1861 rfl ?_
  refine jp_iconst (v := 1) dL_law_1863 (by decide) ?_
  refine jp_iadd dL_law_1864 ?_
  refine jp_sld (i + 1) dL_law_1865 hX hbl hbA (by rw [li_1, nI_add]) (by omega) (by omega) ?_
  refine jp_callV1 dL_law_1866 vl_L_197 (con_frame con S.1) ((S.1 x (by rw [kx]; decide)).1.trans kx) rfl hd7 (by omega) (by omega) (Nat.le_of_ble_eq_true rfl) (fun v_1866 u_1866 p_1866 => ?_)
  obtain ⟨uc, ⟨rfl, hK1⟩, rfl, fr⟩ := p_1866
  have S1 := LSt_c S fr
  dsimp only [rs]
  refine jp_aload_n dL_law_1869 rfl ?_
  refine jp_aload_n dL_law_1870 rfl ?_
  refine jp_iload dL_law_1871 rfl ?_
  refine jp_iconst (v := 1) dL_law_1873 (by decide) ?_
  refine jp_iadd dL_law_1874 ?_
  refine jp_sld (i + 1) dL_law_1875 hX hbl hbA (by rw [li_1, nI_add]) (by omega) (by omega) ?_
  refine jp_callV1 dL_law_1876 vl_L_200 (con_frame cnm S1.1.2.1) ((S1.1.2.1 _ (by rw [km]; decide)).1.trans km) rfl hd2 (by omega) (by omega) (Nat.le_of_ble_eq_true rfl) (fun v_1876 u_1876 p_1876 => ?_)
  obtain ⟨um, ⟨rfl, hk2⟩, rfl, fr2⟩ := p_1876
  have S2 := LSt_m S1.1 fr2
  dsimp only [rs]
  refine jp_icmp_eq 1884 dL_law_1879 (by decide) (fun c_1879 => ?_) (fun c_1879 => ?_)
  · exact jp_lle (by simp [lle]) (jp_mono (by omega) (by omega) (fin _ _ _ hK1 hk2 S2.1))
  · exact absurd rfl c_1879

