/-! ===== in general: commit, branch, drop of the system ===== -/
theorem nx_py {l : List String} {r : Int32} {E : Hp} : ∀ o u, nx (fun v u => v = some (vi r) ∧ u = E) o u → py (fun u => u = E) l 0 r o u := fun o u z => by
  cases o with
  | inl v => exact ⟨z.2, rfl, z.1⟩
  | inr e => exact z.elim
theorem lg_cw {h : Hp} {b : Nat → Nat} {n : Nat} (cw : CW h b) (hc : hI h (b 3) 4 = nI n) (hn : n ≤ 40) : Lg h (b 3) (b 18) (b 19) (b 20) (b 21) n := ⟨cwK cw 3 rfl rfl, ⟨cwO cw 3 0 18 (by decide), cwO cw 3 1 19 (by decide), cwO cw 3 2 20 (by decide), cwO cw 3 3 21 (by decide)⟩, ⟨cwK cw 18 rfl rfl, cwN cw 18 rfl rfl⟩, ⟨cwK cw 19 rfl rfl, cwN cw 19 rfl rfl⟩, ⟨cwK cw 20 rfl rfl, cwN cw 20 rfl rfl⟩, ⟨cwK cw 21 rfl rfl, cwN cw 21 rfl rfl⟩, hc, hn⟩
set_option maxRecDepth 20000 in
theorem g_branch {h : Hp} {b : Nat → Nat} {k j : Nat} (cw : CW h b) (hk : k < 6) (hx : hI h (b 9) k = -1) (h12 : hI h (b 0) 12 = nI j) (hj : j < 6) (hkj : k ≠ j) : Con mX11_branch 2 0 0 [vr (some (b 0)), vi (nI k)] h (fun v u => v = some (vi (hI h (b 9) j)) ∧ u = pI h (b 9) k (hI h (b 9) j)) := by
  refine con_of rfl (Nat.le_of_ble_eq_true rfl) (by decide) ?_
  show J mX11_branch 2 0 0 _ 0 [some (vr (some (b 0))), some (vi (nI k))] [] h
  refine j_iload_n dX11_branch_0 rfl ?_
  refine j_callS1 dX11_branch_1 sl_X11_253 (c_isBranch _) rfl (by decide) (by omega) (by omega) (Nat.le_of_ble_eq_true rfl) (fun v_1 u_1 p_1 => ?_)
  obtain ⟨e_1, rfl⟩ := p_1
  rw [e_1]
  clear e_1
  dsimp only [rs]
  refine j_if_ne 15 dX11_branch_4 (by decide) (fun c_4 => ?_) (fun c_4 => ?_)
  · refine j_aload_n dX11_branch_15 rfl ?_
    refine j_getR dX11_branch_16 fl_X11_70 rfl (cwK cw 0 rfl rfl) (cwO cw 0 8 9 (by decide)) ?_
    refine j_iload_n dX11_branch_19 rfl ?_
    refine j_iald k dX11_branch_20 (cwK cw 9 rfl rfl) rfl (by rw [cwN cw 9 (c := 6) rfl rfl]; exact hk) (by rw [cwN cw 9 (c := 6) rfl rfl]; decide) ?_
    rw [hx]
    refine j_iconst (v := -1) dX11_branch_21 (by decide) ?_
    refine j_icmp_eq 33 dX11_branch_22 (by decide) (fun c_22 => ?_) (fun c_22 => ?_)
    · refine j_aload_n dX11_branch_33 rfl ?_
      refine j_getR dX11_branch_34 fl_X11_70 rfl (cwK cw 0 rfl rfl) (cwO cw 0 8 9 (by decide)) ?_
      refine j_iload_n dX11_branch_37 rfl ?_
      refine j_aload_n dX11_branch_38 rfl ?_
      refine j_callV0 dX11_branch_39 vl_X11_249 (c_head11 (h := h) (cwK cw 0 rfl rfl) (cwO cw 0 8 9 (by decide)) (cwK cw 9 rfl rfl) (cwN cw 9 rfl rfl) (h12) hj) (cwK cw 0 rfl rfl) rfl (by decide) (by omega) (by omega) (Nat.le_of_ble_eq_true rfl) (fun v_39 u_39 p_39 => ?_)
      obtain ⟨e_39, rfl⟩ := p_39
      rw [e_39]
      clear e_39
      dsimp only [rs]
      refine j_iast k dX11_branch_42 (cwK cw 9 rfl rfl) rfl (by rw [cwN cw 9 (c := 6) rfl rfl]; exact hk) (by rw [cwN cw 9 (c := 6) rfl rfl]; decide) ?_
      refine j_aload_n dX11_branch_43 rfl ?_
      refine j_callV0 dX11_branch_44 vl_X11_249 (c_head11 (h := pI h (b 9) k (hI h (b 9) j)) (cwK cw 0 rfl rfl) (show hO h (b 0) 8 = some (b 9) from cwO cw 0 8 9 (by decide)) (cwK cw 9 rfl rfl) (cwN cw 9 rfl rfl) (by rw [hI_pI, if_neg (fun e => cwNe cw (i := 0) (j := 9) rfl rfl rfl e.1)]; exact h12) hj) (cwK cw 0 rfl rfl) rfl (by decide) (by omega) (by omega) (Nat.le_of_ble_eq_true rfl) (fun v_44 u_44 p_44 => ?_)
      obtain ⟨rfl, rfl⟩ := p_44
      rw [show hI (pI h (b 9) k (hI h (b 9) j)) (b 9) j = hI h (b 9) j by rw [hI_pI, if_neg (fun z => hkj z.2.symm)]]
      dsimp only [rs]
      exact j_ireturn dX11_branch_47 rfl rfl (⟨rfl, rfl⟩)
    · exact absurd rfl c_22
  · exact absurd (by rw [b2_n]; exact ⟨nI_pos' (by omega), by rw [li_5, nI_leI (by omega) (by decide)]; omega⟩) c_4

set_option maxRecDepth 20000 in
theorem g_branch1 {h : Hp} {b : Nat → Nat} (x : Int32) (cw : CW h b) (hx : ¬ (0 ≤ x ∧ x ≤ 5)) : ConX mX11_branch 6 1 6 [vr (some (b 0)), vi x] h (py (fun u => u = h) ["java/lang/IndexOutOfBoundsException", "java/lang/IllegalStateException"] 1 0) := by
  refine con_ofX rfl (Nat.le_of_ble_eq_true rfl) (by decide) (by decide) ?_
  show J mX11_branch 6 1 6 _ 0 [some (vr (some (b 0))), some (vi x)] [] h
  refine j_iload_n dX11_branch_0 rfl ?_
  refine j_callS1 dX11_branch_1 sl_X11_253 (c_isBranch _) rfl (by decide) (by omega) (by omega) (Nat.le_of_ble_eq_true rfl) (fun v_1 u_1 p_1 => ?_)
  obtain ⟨e_1, rfl⟩ := p_1
  rw [e_1]
  clear e_1
  dsimp only [rs]
  refine j_if_ne 15 dX11_branch_4 (by decide) (fun c_4 => ?_) (fun c_4 => ?_)
  · exact absurd c_4 (fun e => e (b2f hx))
  · exact j_throw (E := "java/lang/IndexOutOfBoundsException") ⟨117, 119, by decide, dX11_branch_7, dX11_branch_10, dX11_branch_11, dX11_branch_14⟩ (by omega) (by omega) (Nat.le_of_ble_eq_true rfl) ⟨rfl, by decide, rfl⟩

set_option maxRecDepth 20000 in
theorem g_branch2 {h : Hp} {b : Nat → Nat} {k : Nat} (cw : CW h b) (hk : k < 6) (hx : ¬ hI h (b 9) k = -1) : ConX mX11_branch 6 1 6 [vr (some (b 0)), vi (nI k)] h (py (fun u => u = h) ["java/lang/IndexOutOfBoundsException", "java/lang/IllegalStateException"] 2 0) := by
  refine con_ofX rfl (Nat.le_of_ble_eq_true rfl) (by decide) (by decide) ?_
  show J mX11_branch 6 1 6 _ 0 [some (vr (some (b 0))), some (vi (nI k))] [] h
  refine j_iload_n dX11_branch_0 rfl ?_
  refine j_callS1 dX11_branch_1 sl_X11_253 (c_isBranch _) rfl (by decide) (by omega) (by omega) (Nat.le_of_ble_eq_true rfl) (fun v_1 u_1 p_1 => ?_)
  obtain ⟨e_1, rfl⟩ := p_1
  rw [e_1]
  clear e_1
  dsimp only [rs]
  refine j_if_ne 15 dX11_branch_4 (by decide) (fun c_4 => ?_) (fun c_4 => ?_)
  · refine j_aload_n dX11_branch_15 rfl ?_
    refine j_getR dX11_branch_16 fl_X11_70 rfl (cwK cw 0 rfl rfl) (cwO cw 0 8 9 (by decide)) ?_
    refine j_iload_n dX11_branch_19 rfl ?_
    refine j_iald k dX11_branch_20 (cwK cw 9 rfl rfl) rfl (by rw [cwN cw 9 (c := 6) rfl rfl]; exact hk) (by rw [cwN cw 9 (c := 6) rfl rfl]; decide) ?_
    refine j_iconst (v := -1) dX11_branch_21 (by decide) ?_
    refine j_icmp_eq 33 dX11_branch_22 (by decide) (fun c_22 => ?_) (fun c_22 => ?_)
    · exact absurd c_22 hx
    · exact j_throw (E := "java/lang/IllegalStateException") ⟨167, 169, by decide, dX11_branch_25, dX11_branch_28, dX11_branch_29, dX11_branch_32⟩ (by omega) (by omega) (Nat.le_of_ble_eq_true rfl) ⟨rfl, by decide, rfl⟩
  · exact absurd (by rw [b2_n]; exact ⟨nI_pos' (by omega), by rw [li_5, nI_leI (by omega) (by decide)]; omega⟩) c_4

theorem CW_ex {h u : Hp} {b : Nat → Nat} (f : CW h b) (e : Ex h u) : CW u b := by
  have kn : ∀ k, k < 35 → hK h (b k) ≠ 0 := fun k hk => by
    rw [(f.1 k hk).1]
    have : ∀ k : Fin 35, ck k ≠ 0 := by decide
    exact this ⟨k, hk⟩
  have c1 : ∀ t ∈ crf, t.1 < 35 := by decide
  exact ⟨fun k hk => ⟨(e _ (kn k hk)).1.trans (f.1 k hk).1, (e _ (kn k hk)).2.1.trans (f.1 k hk).2⟩, f.2.1, fun t ht => by rw [((e _ (kn t.1 (c1 t ht))).2.2 (fun z => z)).2.2]; exact f.2.2 t ht⟩
def drC (h : Hp) (b : Nat → Nat) : Hp := pI (pI (pI (pI h (b 0) 13 (-1)) (b 5) 2 0) (b 6) 2 0) (b 6) 3 0
set_option maxRecDepth 20000 in
theorem g_drop {h : Hp} {b : Nat → Nat} {w v j n s ra ca xa nr nc : Nat} (cw : CW h b) (o11 : hO h (b 0) 11 = some w) (kw : hK h w = 7) (h12 : hI h (b 0) 12 = nI j) (hj : j < 6) (hv : hI h (b 9) j = nI v) (hn : hI h (b 3) 4 = nI n) (hvn : v < n) (hn4 : n ≤ 40) (hs0 : hO h (b 18) v = some s) (hs : Sh h s ra ca xa nr nc) (hc : Cel h xa (nr * nc)) : Con mX11_drop 4 2 324 [vr (some (b 0))] h (fun r u => r = some (vi (nI v)) ∧ ∃ u1 q xq, hK h q = 0 ∧ hK h xq = 0 ∧ Sh u1 q ra ca xq nr nc ∧ Ex (drC h b) u1 ∧ hO u1 q 3 = none ∧ (∀ k, k < nr * nc → hO u1 xq k = hO h xa k) ∧ u = pO (pO u1 w 3 none) (b 0) 11 (some q)) := by
  have hsD : Sh (drC h b) s ra ca xa nr nc := hs
  have hcD : Cel (drC h b) xa (nr * nc) := hc
  have cwD : CW (drC h b) b := cw
  have h9 : hI (drC h b) (b 9) j = nI v := by rw [drC, hI_pI, if_neg (fun e => cwNe cw (i := 9) (j := 6) rfl rfl rfl e.1), hI_pI, if_neg (fun e => cwNe cw (i := 9) (j := 6) rfl rfl rfl e.1), hI_pI, if_neg (fun e => cwNe cw (i := 9) (j := 5) rfl rfl rfl e.1), hI_pI, if_neg (fun e => cwNe cw (i := 9) (j := 0) rfl rfl rfl e.1)]; exact hv
  have h12D : hI (drC h b) (b 0) 12 = nI j := by rw [drC, hI_pI, if_neg (fun e => cwNe cw (i := 0) (j := 6) rfl rfl rfl e.1), hI_pI, if_neg (fun e => cwNe cw (i := 0) (j := 6) rfl rfl rfl e.1), hI_pI, if_neg (fun e => cwNe cw (i := 0) (j := 5) rfl rfl rfl e.1), hI_pI, if_neg (by omega)]; exact h12
  have hnD : hI (drC h b) (b 3) 4 = nI n := by rw [drC, hI_pI, if_neg (fun e => cwNe cw (i := 3) (j := 6) rfl rfl rfl e.1), hI_pI, if_neg (fun e => cwNe cw (i := 3) (j := 6) rfl rfl rfl e.1), hI_pI, if_neg (fun e => cwNe cw (i := 3) (j := 5) rfl rfl rfl e.1), hI_pI, if_neg (fun e => cwNe cw (i := 3) (j := 0) rfl rfl rfl e.1)]; exact hn
  refine con_of rfl (Nat.le_of_ble_eq_true rfl) (by decide) ?_
  show J mX11_drop 4 2 324 _ 0 [some (vr (some (b 0))), none] [] h
  refine j_aload_n dX11_drop_0 rfl ?_
  refine j_iconst (v := -1) dX11_drop_1 (by decide) ?_
  refine j_putI dX11_drop_2 fl_X11_77 rfl rfl rfl (cwK cw 0 rfl rfl) ?_
  refine j_aload_n dX11_drop_5 rfl ?_
  refine j_getR dX11_drop_6 fl_X11_46 rfl (cwK cw 0 rfl rfl) (cwO cw 0 4 5 (by decide)) ?_
  refine j_iconst (v := 0) dX11_drop_9 (by decide) ?_
  refine j_putI dX11_drop_10 fl_X11_252 rfl rfl rfl (cwK cw 5 rfl rfl) ?_
  refine j_aload_n dX11_drop_13 rfl ?_
  refine j_getR dX11_drop_14 fl_X11_53 rfl (cwK cw 0 rfl rfl) (cwO cw 0 5 6 (by decide)) ?_
  refine j_callV0 dX11_drop_17 vl_X11_266 (c_forget7 (h := pI (pI h (b 0) 13 (-1)) (b 5) 2 0) (cwK cw 6 rfl rfl)) (by first | exact cwK cw 0 rfl rfl | exact cwK cw 6 rfl rfl | exact cwK cw 3 rfl rfl | exact hs.1 | exact cwK (CW_ex cwD hEx) 0 rfl rfl) rfl (by decide) (by omega) (by omega) (Nat.le_of_ble_eq_true rfl) (fun v_17 u_17 p_17 => ?_)
  obtain ⟨rfl, rfl⟩ := p_17
  rw [show pI (pI (pI (pI h (b 0) 13 (-1)) (b 5) 2 0) (b 6) 2 0) (b 6) 3 0 = drC h b from rfl]
  dsimp only [rs]
  refine j_aload_n dX11_drop_20 rfl ?_
  refine j_getR dX11_drop_21 fl_X11_26 rfl (cwK cw 0 rfl rfl) (cwO cw 0 2 3 (by decide)) ?_
  refine j_aload_n dX11_drop_24 rfl ?_
  refine j_callV0 dX11_drop_25 vl_X11_249 (c_head11 (h := drC h b) (cwK cw 0 rfl rfl) (show hO h (b 0) 8 = some (b 9) from cwO cw 0 8 9 (by decide)) (cwK cw 9 rfl rfl) (cwN cw 9 rfl rfl) (h12D) hj) (by first | exact cwK cw 0 rfl rfl | exact cwK cw 6 rfl rfl | exact cwK cw 3 rfl rfl | exact hs.1 | exact cwK (CW_ex cwD hEx) 0 rfl rfl) rfl (by decide) (by omega) (by omega) (Nat.le_of_ble_eq_true rfl) (fun v_25 u_25 p_25 => ?_)
  obtain ⟨rfl, rfl⟩ := p_25
  rw [h9]
  dsimp only [rs]
  refine j_callV1 dX11_drop_28 vl_X11_269 (c_logAt _ (lg_cw cwD hnD hn4)) (by first | exact cwK cw 0 rfl rfl | exact cwK cw 6 rfl rfl | exact cwK cw 3 rfl rfl | exact hs.1 | exact cwK (CW_ex cwD hEx) 0 rfl rfl) rfl (by decide) (by omega) (by omega) (Nat.le_of_ble_eq_true rfl) (fun v_28 u_28 p_28 => ?_)
  obtain ⟨rfl, rfl⟩ := p_28
  rw [show shV (drC h b) (b 18) n (nI v) = some s by rw [shV, if_pos ⟨nI_pos' (by omega), nI_lt hvn (by omega)⟩, nI_clamp (by omega)]; exact hs0]
  dsimp only [rs]
  refine j_astore_n dX11_drop_31 (by decide) ?_
  dsimp only [st1, st2, unL, List.set]
  refine j_aload_n dX11_drop_32 rfl ?_
  refine j_ifnull 44 dX11_drop_33 (by decide) (fun c_33 => ?_) (fun c_33 => ?_)
  · exact absurd c_33 (fun e => by cases e)
  · refine j_aload_n dX11_drop_36 rfl ?_
    refine j_aload_n dX11_drop_37 rfl ?_
    refine j_callV0 dX11_drop_38 vl_X11_100 (c_twin hsD hcD) (by first | exact cwK cw 0 rfl rfl | exact cwK cw 6 rfl rfl | exact cwK cw 3 rfl rfl | exact hs.1 | exact cwK (CW_ex cwD hEx) 0 rfl rfl) rfl (by decide) (by omega) (by omega) (Nat.le_of_ble_eq_true rfl) (fun v_38 u_38 p_38 => ?_)
    obtain ⟨q, xq, rfl, hq0, hxq0, hS2, hEx, h3, hcp⟩ := p_38
    dsimp only [rs]
    refine j_callV1 dX11_drop_41 vl_X11_230 (c_show (cwK (CW_ex cwD hEx) 0 rfl rfl) (show hO u_38 (b 0) 11 = some w by rw [((hEx (b 0) (by show hK h (b 0) ≠ 0; rw [cwK cw 0 (c := 12) rfl rfl]; decide)).2.2 (fun z => z)).2.2]; exact o11) (Fr_K hEx (show hK (drC h b) w = 7 from kw) (by decide))) (by first | exact cwK cw 0 rfl rfl | exact cwK cw 6 rfl rfl | exact cwK cw 3 rfl rfl | exact hs.1 | exact cwK (CW_ex cwD hEx) 0 rfl rfl) rfl (by decide) (by omega) (by omega) (Nat.le_of_ble_eq_true rfl) (fun v_41 u_41 p_41 => ?_)
    obtain ⟨rfl, rfl⟩ := p_41
    dsimp only [rs]
    have bw : b 0 ≠ w := fun e => by have := cwK cw 0 (c := 12) rfl rfl; rw [e] at this; omega
    refine j_aload_n dX11_drop_44 rfl ?_
    refine j_callV0 dX11_drop_45 vl_X11_249 (c_head11 (h := pO (pO u_38 w 3 none) (b 0) 11 (some q)) (cwK (CW_ex cwD hEx) 0 rfl rfl) (show hO (pO (pO u_38 w 3 none) (b 0) 11 (some q)) (b 0) 8 = some (b 9) by rw [hO_pO, if_neg (by omega), hO_pO, if_neg (fun e => bw e.1)]; exact cwO (CW_ex cwD hEx) 0 8 9 (by decide)) (cwK (CW_ex cwD hEx) 9 rfl rfl) (cwN (CW_ex cwD hEx) 9 rfl rfl) (show hI u_38 (b 0) 12 = nI j by rw [((hEx (b 0) (by show hK h (b 0) ≠ 0; rw [cwK cw 0 (c := 12) rfl rfl]; decide)).2.2 (fun z => z)).1]; exact h12D) hj) (by first | exact cwK cw 0 rfl rfl | exact cwK cw 6 rfl rfl | exact cwK cw 3 rfl rfl | exact hs.1 | exact cwK (CW_ex cwD hEx) 0 rfl rfl) rfl (by decide) (by omega) (by omega) (Nat.le_of_ble_eq_true rfl) (fun v_45 u_45 p_45 => ?_)
    obtain ⟨rfl, rfl⟩ := p_45
    rw [show hI (pO (pO u_38 w 3 none) (b 0) 11 (some q)) (b 9) j = nI v from by rw [hI_pO, hI_pO, ((hEx (b 9) (by show hK h (b 9) ≠ 0; rw [cwK cw 9 (c := 15) rfl rfl]; decide)).2.2 (fun z => z)).1]; exact h9]
    dsimp only [rs]
    exact j_ireturn dX11_drop_48 rfl rfl (⟨rfl, u_38, q, xq, hq0, hxq0, hS2, hEx, h3, hcp, rfl⟩)

