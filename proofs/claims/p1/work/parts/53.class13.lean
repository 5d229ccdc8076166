/-! ===== the system on a fresh object: what is seen ===== -/
def RS (b : Nat → Nat) (a c : Nat) : Prop := c = b 4 ∨ c = a ∨ c = b 27 ∨ c = b 26
theorem shV0 {h : Hp} {b : Nat → Nat} {w xw : Nat} {x : Int32} (fc : FC h b w xw) (hx : x = 0) : shV h (b 18) 1 x = some (b 35) := by
  subst hx
  rw [← shF_V fc (by decide), shF, if_neg (by decide), if_pos rfl]
theorem fc35 {h : Hp} {b : Nat → Nat} {w xw : Nat} (fc : FC h b w xw) : hO h (b 35) 3 = none := fc.2.2.2.2.2.2.2.2.1
theorem fcw3 {h : Hp} {b : Nat → Nat} {w xw : Nat} (fc : FC h b w xw) : hO h w 3 = none := fc.2.2.2.2.2.2.2.2.2.2.2.1
theorem fcX8 {h : Hp} {b : Nat → Nat} {w xw : Nat} (fc : FC h b w xw) : ∀ j, j < 48 → hO h (b 38) j = none := fun j _ => fcX0 fc j
theorem Lg_fr {S : Nat → Prop} {h u : Hp} {la sa pa oa aa n : Nat} (g : Lg h la sa pa oa aa n) (f : Fr S h u) (hl : ¬ S la) : Lg u la sa pa oa aa n := by
  obtain ⟨a1, ⟨o1, o2, o3, o4⟩, ⟨b1, b2⟩, ⟨c1, c2⟩, ⟨d1, d2⟩, ⟨e1, e2⟩, i1, i2⟩ := g
  exact ⟨Fr_K f a1 (by decide), ⟨Fr_O f a1 (by decide) hl o1, Fr_O f a1 (by decide) hl o2, Fr_O f a1 (by decide) hl o3, Fr_O f a1 (by decide) hl o4⟩, ⟨Fr_K f b1 (by decide), Fr_N f b1 (by decide) b2⟩, ⟨Fr_K f c1 (by decide), Fr_N f c1 (by decide) c2⟩, ⟨Fr_K f d1 (by decide), Fr_N f d1 (by decide) d2⟩, ⟨Fr_K f e1 (by decide), Fr_N f e1 (by decide) e2⟩, Fr_I f a1 (by decide) hl i1, i2⟩
theorem rs_w {h : Hp} {b : Nat → Nat} {w xw k : Nat} (fc : FC h b w xw) (hk : Nat.ble 39 k = false) (h4 : (k == 4) = false) (h27 : (k == 27) = false) (h26 : (k == 26) = false) : ¬ RS b w (b k) := fun e => by
  rcases e with e | e | e | e
  · exact fcNe fc hk rfl h4 e
  · exact (fcWn fc k hk).1 e
  · exact fcNe fc hk rfl h27 e
  · exact fcNe fc hk rfl h26 e
theorem rs_0 {h : Hp} {b : Nat → Nat} {w xw k : Nat} (fc : FC h b w xw) (hk : Nat.ble 39 k = false) (h4 : (k == 4) = false) (h27 : (k == 27) = false) (h26 : (k == 26) = false) (h35 : (k == 35) = false) : ¬ RS b (b 35) (b k) := fun e => by
  rcases e with e | e | e | e
  · exact fcNe fc hk rfl h4 e
  · exact fcNe fc hk rfl h35 e
  · exact fcNe fc hk rfl h27 e
  · exact fcNe fc hk rfl h26 e
theorem rs_cc {b : Nat → Nat} {w xw a c : Nat} (ha : CC b w xw a) (e : RS b a c) : CC b w xw c := by
  rcases e with rfl | rfl | rfl | rfl
  · exact ccB b w xw rfl
  · exact ha
  · exact ccB b w xw rfl
  · exact ccB b w xw rfl
set_option maxRecDepth 20000 in
theorem d_readyW {h : Hp} {b : Nat → Nat} {w xw : Nat} (fc : FC h b w xw) : Con mX11_ready 4 0 0 [vr (some (b 0)), vi (-1)] h (fun v u => v = none ∧ Fr (RS b w) h u ∧ Sh u w (b 36) (b 37) xw 8 6 ∧ ∀ j, j < 48 → hO u xw j = none) := by
  refine con_of rfl (Nat.le_of_ble_eq_true rfl) (by decide) ?_
  show J mX11_ready 4 0 0 _ 0 [some (vr (some (b 0))), some (vi (-1)), none, none, none, none, none] [] h
  refine j_aload_n dX11_ready_0 rfl ?_
  refine j_iload_n dX11_ready_1 rfl ?_
  refine j_callV1 dX11_ready_2 vl_X11_312 (d_sheetOf _ fc) (fcK fc 0 rfl rfl) rfl (by decide) (by omega) (by omega) (Nat.le_of_ble_eq_true rfl) (fun v_2 u_2 p_2 => ?_)
  obtain ⟨e_2, rfl⟩ := p_2
  rw [e_2]
  clear e_2
  dsimp only [rs]
  rw [show shF b w (-1) = some w from by simp [shF]]
  refine j_astore_n dX11_ready_5 (by decide) ?_
  dsimp only [st1, st2, unL, List.set]
  refine j_aload_n dX11_ready_6 rfl ?_
  refine j_ifnull 17 dX11_ready_7 (by decide) (fun c_7 => ?_) (fun c_7 => ?_)
  · exact absurd c_7 (fun e => by cases e)
  · refine j_aload_n dX11_ready_10 rfl ?_
    refine j_getO dX11_ready_11 fl_X11_404 rfl (fcS fc).1 ?_
    rw [fcw3 fc]
    refine j_ifnull 18 dX11_ready_14 (by decide) (fun c_14 => ?_) (fun c_14 => ?_)
    · refine j_aload_n dX11_ready_18 rfl ?_
      refine j_callV0 dX11_ready_19 vl_X11_447 (c_vla (fcS fc) (fcX fc)) (by first | exact (fcS fc).1 | exact fcK fc 0 rfl rfl | exact fcK fc 4 rfl rfl) rfl (by decide) (by omega) (by omega) (Nat.le_of_ble_eq_true rfl) (fun v_19 u_19 p_19 => ?_)
      obtain ⟨e_19, rfl⟩ := p_19
      rw [e_19]
      clear e_19
      dsimp only [rs]
      refine j_lstore_n dX11_ready_22 (by decide) ?_
      dsimp only [st1, st2, unL, List.set]
      refine j_aload_n dX11_ready_23 rfl ?_
      refine j_getR dX11_ready_24 fl_X11_26 rfl (fcK fc 0 rfl rfl) (fcO fc 0 2 3 (by decide)) ?_
      refine j_getI dX11_ready_27 fl_X11_243 rfl (fcK fc 3 rfl rfl) ?_
      rw [fcI fc 3 4 (1) (by decide)]
      refine j_iconst (v := 1) dX11_ready_30 (by decide) ?_
      refine j_isub dX11_ready_31 ?_
      refine j_istore dX11_ready_32 (by decide) ?_
      dsimp only [st1, st2, unL, List.set]
      refine j_iload dX11_ready_34 rfl ?_
      refine j_if_lt 88 dX11_ready_36 (by decide) (fun c_36 => ?_) (fun c_36 => ?_)
      · exact absurd c_36 (by decide)
      · refine j_aload_n dX11_ready_39 rfl ?_
        refine j_getR dX11_ready_40 fl_X11_26 rfl (fcK fc 0 rfl rfl) (fcO fc 0 2 3 (by decide)) ?_
        refine j_iload dX11_ready_43 rfl ?_
        refine j_callV1 dX11_ready_45 vl_X11_269 (c_logAt _ (fcLg fc)) (fcK fc 3 rfl rfl) rfl (by decide) (by omega) (by omega) (Nat.le_of_ble_eq_true rfl) (fun v_45 u_45 p_45 => ?_)
        obtain ⟨e_45, rfl⟩ := p_45
        rw [e_45]
        clear e_45
        dsimp only [rs]
        rw [shV0 fc (show (1 - 1 : Int32) = 0 by decide)]
        refine j_astore dX11_ready_48 (by decide) ?_
        dsimp only [st1, st2, unL, List.set]
        refine j_aload dX11_ready_50 rfl ?_
        refine j_ifnull 82 dX11_ready_52 (by decide) (fun c_52 => ?_) (fun c_52 => ?_)
        · exact absurd c_52 (fun e => by cases e)
        · refine j_aload dX11_ready_55 rfl ?_
          refine j_getO dX11_ready_57 fl_X11_404 rfl (fcK fc 35 rfl rfl) ?_
          rw [fc35 fc]
          refine j_ifnonnull 82 dX11_ready_60 (by decide) (fun c_60 => ?_) (fun c_60 => ?_)
          · exact absurd c_60 (fun e => e rfl)
          · refine j_lload_n dX11_ready_63 rfl ?_
            refine j_iload dX11_ready_64 rfl ?_
            refine j_lshr dX11_ready_66 ?_
            refine j_lconst (v := 1) dX11_ready_67 (by decide) ?_
            refine j_land dX11_ready_68 ?_
            refine j_lconst (v := 0) dX11_ready_69 (by decide) ?_
            refine j_lcmp dX11_ready_70 ?_
            refine j_if_eq 82 dX11_ready_71 (by decide) (fun c_71 => ?_) (fun c_71 => ?_)
            · refine j_iinc dX11_ready_82 rfl ?_
              dsimp only [st1, st2, unL, List.set]
              refine j_goto 34 dX11_ready_85 (by decide) ?_
              refine j_iload dX11_ready_34 rfl ?_
              refine j_if_lt 88 dX11_ready_36 (by decide) (fun c_36 => ?_) (fun c_36 => ?_)
              · refine j_iconst (v := 0) dX11_ready_88 (by decide) ?_
                refine j_istore dX11_ready_89 (by decide) ?_
                dsimp only [st1, st2, unL, List.set]
                refine j_iload dX11_ready_91 rfl ?_
                refine j_aload_n dX11_ready_93 rfl ?_
                refine j_getR dX11_ready_94 fl_X11_26 rfl (fcK fc 0 rfl rfl) (fcO fc 0 2 3 (by decide)) ?_
                refine j_getI dX11_ready_97 fl_X11_243 rfl (fcK fc 3 rfl rfl) ?_
                rw [fcI fc 3 4 (1) (by decide)]
                refine j_icmp_ge 162 dX11_ready_100 (by decide) (fun c_100 => ?_) (fun c_100 => ?_)
                · exact absurd c_100 (by decide)
                · refine j_aload_n dX11_ready_103 rfl ?_
                  refine j_getR dX11_ready_104 fl_X11_26 rfl (fcK fc 0 rfl rfl) (fcO fc 0 2 3 (by decide)) ?_
                  refine j_iload dX11_ready_107 rfl ?_
                  refine j_callV1 dX11_ready_109 vl_X11_269 (c_logAt _ (fcLg fc)) (fcK fc 3 rfl rfl) rfl (by decide) (by omega) (by omega) (Nat.le_of_ble_eq_true rfl) (fun v_109 u_109 p_109 => ?_)
                  obtain ⟨e_109, rfl⟩ := p_109
                  rw [e_109]
                  clear e_109
                  dsimp only [rs]
                  rw [shV0 fc (show (0 : Int32) = 0 from rfl)]
                  refine j_astore dX11_ready_112 (by decide) ?_
                  dsimp only [st1, st2, unL, List.set]
                  refine j_aload dX11_ready_114 rfl ?_
                  refine j_ifnull 156 dX11_ready_116 (by decide) (fun c_116 => ?_) (fun c_116 => ?_)
                  · exact absurd c_116 (fun e => by cases e)
                  · refine j_aload dX11_ready_119 rfl ?_
                    refine j_getO dX11_ready_121 fl_X11_404 rfl (fcK fc 35 rfl rfl) ?_
                    rw [fc35 fc]
                    refine j_ifnonnull 156 dX11_ready_124 (by decide) (fun c_124 => ?_) (fun c_124 => ?_)
                    · exact absurd c_124 (fun e => e rfl)
                    · refine j_lload_n dX11_ready_127 rfl ?_
                      refine j_iload dX11_ready_128 rfl ?_
                      refine j_lshr dX11_ready_130 ?_
                      refine j_lconst (v := 1) dX11_ready_131 (by decide) ?_
                      refine j_land dX11_ready_132 ?_
                      refine j_lconst (v := 0) dX11_ready_133 (by decide) ?_
                      refine j_lcmp dX11_ready_134 ?_
                      refine j_if_eq 156 dX11_ready_135 (by decide) (fun c_135 => ?_) (fun c_135 => ?_)
                      · refine j_iinc dX11_ready_156 rfl ?_
                        dsimp only [st1, st2, unL, List.set]
                        refine j_goto 91 dX11_ready_159 (by decide) ?_
                        refine j_iload dX11_ready_91 rfl ?_
                        refine j_aload_n dX11_ready_93 rfl ?_
                        refine j_getR dX11_ready_94 fl_X11_26 rfl (fcK fc 0 rfl rfl) (fcO fc 0 2 3 (by decide)) ?_
                        refine j_getI dX11_ready_97 fl_X11_243 rfl (fcK fc 3 rfl rfl) ?_
                        rw [fcI fc 3 4 (1) (by decide)]
                        refine j_icmp_ge 162 dX11_ready_100 (by decide) (fun c_100 => ?_) (fun c_100 => ?_)
                        · refine j_aload_n dX11_ready_162 rfl ?_
                          refine j_getR dX11_ready_163 fl_X11_39 rfl (fcK fc 0 rfl rfl) (fcO fc 0 3 4 (by decide)) ?_
                          refine j_aload_n dX11_ready_166 rfl ?_
                          refine j_iload_n dX11_ready_167 rfl ?_
                          refine j_iconst (v := -1) dX11_ready_168 (by decide) ?_
                          refine j_icmp_ne 179 dX11_ready_169 (by decide) (fun c_169 => ?_) (fun c_169 => ?_)
                          · exact absurd c_169 (by decide)
                          · refine j_aload_n dX11_ready_172 rfl ?_
                            refine j_getR dX11_ready_173 fl_X11_66 rfl (fcK fc 0 rfl rfl) (fcO fc 0 7 8 (by decide)) ?_
                            refine j_goto 187 dX11_ready_176 (by decide) ?_
                            refine j_callV2 dX11_ready_187 vl_X11_455 (c_work0 (h := h) (WK_fc fc) (fcS fc) (fcX fc) (fcK fc 8 rfl rfl) (fcN fc 8 rfl rfl) (by decide) (by decide)) (fcK fc 4 rfl rfl) rfl (by decide) (by omega) (by omega) (Nat.le_of_ble_eq_true rfl) (fun v_187 u_187 p_187 => ?_)
                            obtain ⟨rfl, hF, hs2, hz2⟩ := p_187
                            dsimp only [rs]
                            exact j_return dX11_ready_190 rfl (⟨rfl, hF, hs2, hz2⟩)
                        · exact absurd (by decide) c_100
                      · exact absurd (lc0 _) c_135
              · exact absurd (by decide) c_36
            · exact absurd (lc0 _) c_71
    · exact absurd rfl c_14

set_option maxRecDepth 20000 in
theorem d_ready0 {h : Hp} {b : Nat → Nat} {w xw : Nat} (fc : FC h b w xw) : Con mX11_ready 4 1 48 [vr (some (b 0)), vi 0] h (fun v u => v = none ∧ Fr (RS b (b 35)) h u ∧ Sh u (b 35) (b 36) (b 37) (b 38) 8 6 ∧ ∀ j, j < 48 → hO u (b 38) j = none) := by
  refine con_of rfl (Nat.le_of_ble_eq_true rfl) (by decide) ?_
  show J mX11_ready 4 1 48 _ 0 [some (vr (some (b 0))), some (vi 0), none, none, none, none, none] [] h
  refine j_aload_n dX11_ready_0 rfl ?_
  refine j_iload_n dX11_ready_1 rfl ?_
  refine j_callV1 dX11_ready_2 vl_X11_312 (d_sheetOf _ fc) (fcK fc 0 rfl rfl) rfl (by decide) (by omega) (by omega) (Nat.le_of_ble_eq_true rfl) (fun v_2 u_2 p_2 => ?_)
  obtain ⟨e_2, rfl⟩ := p_2
  rw [e_2]
  clear e_2
  dsimp only [rs]
  rw [show shF b w (0) = some (b 35) from by simp [shF]]
  refine j_astore_n dX11_ready_5 (by decide) ?_
  dsimp only [st1, st2, unL, List.set]
  refine j_aload_n dX11_ready_6 rfl ?_
  refine j_ifnull 17 dX11_ready_7 (by decide) (fun c_7 => ?_) (fun c_7 => ?_)
  · exact absurd c_7 (fun e => by cases e)
  · refine j_aload_n dX11_ready_10 rfl ?_
    refine j_getO dX11_ready_11 fl_X11_404 rfl (fcS0 fc).1 ?_
    rw [fc35 fc]
    refine j_ifnull 18 dX11_ready_14 (by decide) (fun c_14 => ?_) (fun c_14 => ?_)
    · refine j_aload_n dX11_ready_18 rfl ?_
      refine j_callV0 dX11_ready_19 vl_X11_447 (c_vla (fcS0 fc) (fcX8 fc)) (by first | exact (fcS0 fc).1 | exact fcK fc 0 rfl rfl | exact fcK (FC_ex fc hE) 4 rfl rfl) rfl (by decide) (by omega) (by omega) (Nat.le_of_ble_eq_true rfl) (fun v_19 u_19 p_19 => ?_)
      obtain ⟨e_19, rfl⟩ := p_19
      rw [e_19]
      clear e_19
      dsimp only [rs]
      refine j_lstore_n dX11_ready_22 (by decide) ?_
      dsimp only [st1, st2, unL, List.set]
      refine j_aload_n dX11_ready_23 rfl ?_
      refine j_getR dX11_ready_24 fl_X11_26 rfl (fcK fc 0 rfl rfl) (fcO fc 0 2 3 (by decide)) ?_
      refine j_getI dX11_ready_27 fl_X11_243 rfl (fcK fc 3 rfl rfl) ?_
      rw [fcI fc 3 4 (1) (by decide)]
      refine j_iconst (v := 1) dX11_ready_30 (by decide) ?_
      refine j_isub dX11_ready_31 ?_
      refine j_istore dX11_ready_32 (by decide) ?_
      dsimp only [st1, st2, unL, List.set]
      refine j_iload dX11_ready_34 rfl ?_
      refine j_if_lt 88 dX11_ready_36 (by decide) (fun c_36 => ?_) (fun c_36 => ?_)
      · exact absurd c_36 (by decide)
      · refine j_aload_n dX11_ready_39 rfl ?_
        refine j_getR dX11_ready_40 fl_X11_26 rfl (fcK fc 0 rfl rfl) (fcO fc 0 2 3 (by decide)) ?_
        refine j_iload dX11_ready_43 rfl ?_
        refine j_callV1 dX11_ready_45 vl_X11_269 (c_logAt _ (fcLg fc)) (fcK fc 3 rfl rfl) rfl (by decide) (by omega) (by omega) (Nat.le_of_ble_eq_true rfl) (fun v_45 u_45 p_45 => ?_)
        obtain ⟨e_45, rfl⟩ := p_45
        rw [e_45]
        clear e_45
        dsimp only [rs]
        rw [shV0 fc (show (1 - 1 : Int32) = 0 by decide)]
        refine j_astore dX11_ready_48 (by decide) ?_
        dsimp only [st1, st2, unL, List.set]
        refine j_aload dX11_ready_50 rfl ?_
        refine j_ifnull 82 dX11_ready_52 (by decide) (fun c_52 => ?_) (fun c_52 => ?_)
        · exact absurd c_52 (fun e => by cases e)
        · refine j_aload dX11_ready_55 rfl ?_
          refine j_getO dX11_ready_57 fl_X11_404 rfl (fcK fc 35 rfl rfl) ?_
          rw [fc35 fc]
          refine j_ifnonnull 82 dX11_ready_60 (by decide) (fun c_60 => ?_) (fun c_60 => ?_)
          · exact absurd c_60 (fun e => e rfl)
          · refine j_lload_n dX11_ready_63 rfl ?_
            refine j_iload dX11_ready_64 rfl ?_
            refine j_lshr dX11_ready_66 ?_
            refine j_lconst (v := 1) dX11_ready_67 (by decide) ?_
            refine j_land dX11_ready_68 ?_
            refine j_lconst (v := 0) dX11_ready_69 (by decide) ?_
            refine j_lcmp dX11_ready_70 ?_
            refine j_if_eq 82 dX11_ready_71 (by decide) (fun c_71 => ?_) (fun c_71 => ?_)
            · refine j_iinc dX11_ready_82 rfl ?_
              dsimp only [st1, st2, unL, List.set]
              refine j_goto 34 dX11_ready_85 (by decide) ?_
              refine j_iload dX11_ready_34 rfl ?_
              refine j_if_lt 88 dX11_ready_36 (by decide) (fun c_36 => ?_) (fun c_36 => ?_)
              · refine j_iconst (v := 0) dX11_ready_88 (by decide) ?_
                refine j_istore dX11_ready_89 (by decide) ?_
                dsimp only [st1, st2, unL, List.set]
                refine j_iload dX11_ready_91 rfl ?_
                refine j_aload_n dX11_ready_93 rfl ?_
                refine j_getR dX11_ready_94 fl_X11_26 rfl (fcK fc 0 rfl rfl) (fcO fc 0 2 3 (by decide)) ?_
                refine j_getI dX11_ready_97 fl_X11_243 rfl (fcK fc 3 rfl rfl) ?_
                rw [fcI fc 3 4 (1) (by decide)]
                refine j_icmp_ge 162 dX11_ready_100 (by decide) (fun c_100 => ?_) (fun c_100 => ?_)
                · exact absurd c_100 (by decide)
                · refine j_aload_n dX11_ready_103 rfl ?_
                  refine j_getR dX11_ready_104 fl_X11_26 rfl (fcK fc 0 rfl rfl) (fcO fc 0 2 3 (by decide)) ?_
                  refine j_iload dX11_ready_107 rfl ?_
                  refine j_callV1 dX11_ready_109 vl_X11_269 (c_logAt _ (fcLg fc)) (fcK fc 3 rfl rfl) rfl (by decide) (by omega) (by omega) (Nat.le_of_ble_eq_true rfl) (fun v_109 u_109 p_109 => ?_)
                  obtain ⟨e_109, rfl⟩ := p_109
                  rw [e_109]
                  clear e_109
                  dsimp only [rs]
                  rw [shV0 fc (show (0 : Int32) = 0 from rfl)]
                  refine j_astore dX11_ready_112 (by decide) ?_
                  dsimp only [st1, st2, unL, List.set]
                  refine j_aload dX11_ready_114 rfl ?_
                  refine j_ifnull 156 dX11_ready_116 (by decide) (fun c_116 => ?_) (fun c_116 => ?_)
                  · exact absurd c_116 (fun e => by cases e)
                  · refine j_aload dX11_ready_119 rfl ?_
                    refine j_getO dX11_ready_121 fl_X11_404 rfl (fcK fc 35 rfl rfl) ?_
                    rw [fc35 fc]
                    refine j_ifnonnull 156 dX11_ready_124 (by decide) (fun c_124 => ?_) (fun c_124 => ?_)
                    · exact absurd c_124 (fun e => e rfl)
                    · refine j_lload_n dX11_ready_127 rfl ?_
                      refine j_iload dX11_ready_128 rfl ?_
                      refine j_lshr dX11_ready_130 ?_
                      refine j_lconst (v := 1) dX11_ready_131 (by decide) ?_
                      refine j_land dX11_ready_132 ?_
                      refine j_lconst (v := 0) dX11_ready_133 (by decide) ?_
                      refine j_lcmp dX11_ready_134 ?_
                      refine j_if_eq 156 dX11_ready_135 (by decide) (fun c_135 => ?_) (fun c_135 => ?_)
                      · refine j_iinc dX11_ready_156 rfl ?_
                        dsimp only [st1, st2, unL, List.set]
                        refine j_goto 91 dX11_ready_159 (by decide) ?_
                        refine j_iload dX11_ready_91 rfl ?_
                        refine j_aload_n dX11_ready_93 rfl ?_
                        refine j_getR dX11_ready_94 fl_X11_26 rfl (fcK fc 0 rfl rfl) (fcO fc 0 2 3 (by decide)) ?_
                        refine j_getI dX11_ready_97 fl_X11_243 rfl (fcK fc 3 rfl rfl) ?_
                        rw [fcI fc 3 4 (1) (by decide)]
                        refine j_icmp_ge 162 dX11_ready_100 (by decide) (fun c_100 => ?_) (fun c_100 => ?_)
                        · refine j_aload_n dX11_ready_162 rfl ?_
                          refine j_getR dX11_ready_163 fl_X11_39 rfl (fcK fc 0 rfl rfl) (fcO fc 0 3 4 (by decide)) ?_
                          refine j_aload_n dX11_ready_166 rfl ?_
                          refine j_iload_n dX11_ready_167 rfl ?_
                          refine j_iconst (v := -1) dX11_ready_168 (by decide) ?_
                          refine j_icmp_ne 179 dX11_ready_169 (by decide) (fun c_169 => ?_) (fun c_169 => ?_)
                          · refine j_aload_n dX11_ready_179 rfl ?_
                            refine j_getR dX11_ready_180 fl_X11_451 rfl (fcS0 fc).1 (fcS0 fc).2.2.2.1 ?_
                            refine j_alen dX11_ready_183 (t := 5) (fcS0 fc).2.2.2.2.2.2.2.2.1 (by decide) ?_
                            rw [show hN h (b 38) = 48 from (fcS0 fc).2.2.2.2.2.2.2.2.2.1]
                            refine j_mono (mc' := 0 + 1) (ms' := 0 + 48) (by omega) (by omega) ?_
                            refine j_newQ (t := 8) (48) dX11_ready_184 nl_X11_57 ao_8 (by decide) (fun _ => rfl) (by rfl) (by omega) (fun q_184 hq_184 => ?_)
                            have hE : Ex h (nw h q_184 22 48) := Fr_nw Fr_rf hq_184
                            refine j_callV2 dX11_ready_187 vl_X11_455 (c_work0 (h := (nw h q_184 22 48)) (WK_fc (FC_ex fc hE)) (fcS0 (FC_ex fc hE)) (fcX8 (FC_ex fc hE)) (by rw [hK_nw, if_pos rfl]) (by rw [hN_nw, if_pos rfl]) (by decide) (by decide)) (by first | exact (fcS0 fc).1 | exact fcK fc 0 rfl rfl | exact fcK (FC_ex fc hE) 4 rfl rfl) rfl (by decide) (by omega) (by omega) (Nat.le_of_ble_eq_true rfl) (fun v_187 u_187 p_187 => ?_)
                            obtain ⟨rfl, hF, hs2, hz2⟩ := p_187
                            dsimp only [rs]
                            exact j_return dX11_ready_190 rfl (⟨rfl, (fun c hc => by have e1 := hE c hc; have e2 := hF c (by rw [e1.1]; exact hc); exact ⟨e2.1.trans e1.1, e2.2.1.trans e1.2.1, fun z => ⟨(e2.2.2 z).1.trans (e1.2.2 id).1, (e2.2.2 z).2.1.trans (e1.2.2 id).2.1, (e2.2.2 z).2.2.trans (e1.2.2 id).2.2⟩⟩), hs2, hz2⟩)
                          · exact absurd (by decide) c_169
                        · exact absurd (by decide) c_100
                      · exact absurd (lc0 _) c_135
              · exact absurd (by decide) c_36
            · exact absurd (lc0 _) c_71
    · exact absurd rfl c_14

set_option maxRecDepth 20000 in
theorem c_sheetOfG {h : Hp} {x w la sa pa oa aa n : Nat} (v : Int32) (k0 : hK h x = 12) (o11 : hO h x 11 = some w) (o2 : hO h x 2 = some la) (hg : Lg h la sa pa oa aa n) : Con mX11_sheetOf 2 0 0 [vr (some x), vi v] h (fun r u => u = h ∧ r = some (vr (if v = -1 then some w else shV h sa n v))) := by
  refine con_of rfl (Nat.le_of_ble_eq_true rfl) (by decide) ?_
  show J mX11_sheetOf 2 0 0 _ 0 [some (vr (some x)), some (vi v)] [] h
  refine j_iload_n dX11_sheetOf_0 rfl ?_
  refine j_iconst (v := -1) dX11_sheetOf_1 (by decide) ?_
  refine j_icmp_ne 12 dX11_sheetOf_2 (by decide) (fun c_2 => ?_) (fun c_2 => ?_)
  · refine j_aload_n dX11_sheetOf_12 rfl ?_
    refine j_getR dX11_sheetOf_13 fl_X11_26 rfl k0 o2 ?_
    refine j_iload_n dX11_sheetOf_16 rfl ?_
    refine j_callV1 dX11_sheetOf_17 vl_X11_269 (c_logAt _ hg) hg.1 rfl (by decide) (by omega) (by omega) (Nat.le_of_ble_eq_true rfl) (fun v_17 u_17 p_17 => ?_)
    obtain ⟨e_17, rfl⟩ := p_17
    rw [e_17]
    clear e_17
    dsimp only [rs]
    first | exact j_areturn dX11_sheetOf_20 rfl rfl ⟨rfl, by rw [if_pos (Classical.not_not.mp c_2)]⟩ | exact j_areturn dX11_sheetOf_20 rfl rfl ⟨rfl, by rw [if_neg c_2]⟩
  · refine j_aload_n dX11_sheetOf_5 rfl ?_
    refine j_getR dX11_sheetOf_6 fl_X11_104 rfl k0 o11 ?_
    refine j_goto 20 dX11_sheetOf_9 (by decide) ?_
    first | exact j_areturn dX11_sheetOf_20 rfl rfl ⟨rfl, by rw [if_pos (Classical.not_not.mp c_2)]⟩ | exact j_areturn dX11_sheetOf_20 rfl rfl ⟨rfl, by rw [if_neg c_2]⟩

set_option maxRecDepth 20000 in
theorem c_seenN {h : Hp} {x w la sa pa oa aa n a ra ca xa e i j : Nat} (v : Int32) (k0 : hK h x = 12) (o11 : hO h x 11 = some w) (o2 : hO h x 2 = some la) (o6 : hO h x 6 = some e) (hg : Lg h la sa pa oa aa n) (hv : (if v = -1 then some w else shV h sa n v) = some a) (hs : Sh h a ra ca xa 8 6) (hz : ∀ j, j < 48 → hO h xa j = none) (hi : i < 8) (hj : j < 6) : Con mX11_seen 3 0 0 [vr (some x), vi v, vi (nI (i + 1)), vi (nI (j + 1))] h (fun r u => u = h ∧ r = some (vr (some e))) := by
  refine con_of rfl (Nat.le_of_ble_eq_true rfl) (by decide) ?_
  show J mX11_seen 3 0 0 _ 0 [some (vr (some x)), some (vi v), some (vi (nI (i + 1))), some (vi (nI (j + 1))), none, none] [] h
  refine j_aload_n dX11_seen_0 rfl ?_
  refine j_iload_n dX11_seen_1 rfl ?_
  refine j_callV1 dX11_seen_2 vl_X11_312 (c_sheetOfG v k0 o11 o2 hg) (by first | exact hs.1 | exact k0) rfl (by decide) (by omega) (by omega) (Nat.le_of_ble_eq_true rfl) (fun v_2 u_2 p_2 => ?_)
  obtain ⟨e_2, rfl⟩ := p_2
  rw [e_2]
  clear e_2
  dsimp only [rs]
  rw [hv]
  refine j_astore dX11_seen_5 (by decide) ?_
  dsimp only [st1, st2, unL, List.set]
  refine j_aload dX11_seen_7 rfl ?_
  refine j_ifnull 22 dX11_seen_9 (by decide) (fun c_9 => ?_) (fun c_9 => ?_)
  · exact absurd c_9 (fun e => by cases e)
  · refine j_aload dX11_seen_12 rfl ?_
    refine j_iload_n dX11_seen_14 rfl ?_
    refine j_iload_n dX11_seen_15 rfl ?_
    refine j_callV2 dX11_seen_16 vl_X11_459 (c_valueAtN hs hz hi hj) (by first | exact hs.1 | exact k0) rfl (by decide) (by omega) (by omega) (Nat.le_of_ble_eq_true rfl) (fun v_16 u_16 p_16 => ?_)
    obtain ⟨e_16, rfl⟩ := p_16
    rw [e_16]
    clear e_16
    dsimp only [rs]
    refine j_goto 26 dX11_seen_19 (by decide) ?_
    refine j_astore dX11_seen_26 (by decide) ?_
    dsimp only [st1, st2, unL, List.set]
    refine j_aload dX11_seen_28 rfl ?_
    refine j_ifnull 38 dX11_seen_30 (by decide) (fun c_30 => ?_) (fun c_30 => ?_)
    · refine j_aload_n dX11_seen_38 rfl ?_
      refine j_getR dX11_seen_39 fl_X11_62 rfl k0 o6 ?_
      exact j_areturn dX11_seen_42 rfl rfl (⟨rfl, rfl⟩)
    · exact absurd rfl c_30

theorem d_seenW {h u : Hp} {b : Nat → Nat} {w xw i j : Nat} (fc : FC h b w xw) (hF : Fr (RS b w) h u) (hs : Sh u w (b 36) (b 37) xw 8 6) (hz : ∀ j, j < 48 → hO u xw j = none) (hi : i < 8) (hj : j < 6) : Con mX11_seen 3 0 0 [vr (some (b 0)), vi (-1), vi (nI (i + 1)), vi (nI (j + 1))] u (fun r u2 => u2 = u ∧ r = some (vr (some (b 7)))) := by
  have f0 := fcK fc 0 (c := 12) rfl rfl
  have n0 : ¬ RS b w (b 0) := rs_w fc rfl rfl rfl rfl
  refine c_seenN (-1) (Fr_K hF f0 (by decide)) (Fr_O hF f0 (by decide) n0 (fcW fc)) (Fr_O hF f0 (by decide) n0 (fcO fc 0 2 3 (by decide))) (Fr_O hF f0 (by decide) n0 (fcO fc 0 6 7 (by decide))) (Lg_fr (fcLg fc) hF (rs_w fc rfl rfl rfl rfl)) ?_ hs hz hi hj
  rw [if_pos rfl]
theorem d_seen0 {h u : Hp} {b : Nat → Nat} {w xw i j : Nat} (fc : FC h b w xw) (hF : Fr (RS b (b 35)) h u) (hs : Sh u (b 35) (b 36) (b 37) (b 38) 8 6) (hz : ∀ j, j < 48 → hO u (b 38) j = none) (hi : i < 8) (hj : j < 6) : Con mX11_seen 3 0 0 [vr (some (b 0)), vi (0), vi (nI (i + 1)), vi (nI (j + 1))] u (fun r u2 => u2 = u ∧ r = some (vr (some (b 7)))) := by
  have f0 := fcK fc 0 (c := 12) rfl rfl
  have n0 : ¬ RS b (b 35) (b 0) := rs_0 fc rfl rfl rfl rfl rfl
  refine c_seenN 0 (Fr_K hF f0 (by decide)) (Fr_O hF f0 (by decide) n0 (fcW fc)) (Fr_O hF f0 (by decide) n0 (fcO fc 0 2 3 (by decide))) (Fr_O hF f0 (by decide) n0 (fcO fc 0 6 7 (by decide))) (Lg_fr (fcLg fc) hF (rs_0 fc rfl rfl rfl rfl rfl)) ?_ hs hz hi hj
  rw [if_neg (by decide), shV, if_pos (by decide)]
  have f18 := fcK fc 18 (c := 21) rfl rfl
  exact Fr_O hF f18 (by decide) (rs_0 fc rfl rfl rfl rfl rfl) (fcO fc 18 0 35 (by decide))
theorem okA_n {x : Int32} {i j : Nat} (hx : x = -1 ∨ x = 0) (hi : i < 8) (hj : j < 6) : okA x (nI (i + 1)) (nI (j + 1)) := ⟨by rcases hx with rfl | rfl <;> decide, inSh_n (by decide) (by decide) hi hj⟩
set_option maxRecDepth 20000 in
theorem d_kindN {h : Hp} {b : Nat → Nat} {w xw : Nat} (x y z : Int32) (fc : FC h b w xw) (hn : ¬ okA x y z) : Con mX11_kind 6 0 0 [vr (some (b 0)), vi x, vi y, vi z] h (fun v u => v = some (vi (-1)) ∧ Fr (CC b w xw) h u) := by
  refine con_of rfl (Nat.le_of_ble_eq_true rfl) (by decide) ?_
  show J mX11_kind 6 0 0 _ 0 [some (vr (some (b 0))), some (vi x), some (vi y), some (vi z)] [] h
  refine j_aload_n dX11_kind_0 rfl ?_
  refine j_iload_n dX11_kind_1 rfl ?_
  refine j_iload_n dX11_kind_2 rfl ?_
  refine j_iload_n dX11_kind_3 rfl ?_
  refine j_callV3 dX11_kind_4 vl_X11_341 (d_isCell _ _ _ fc) (fcK fc 0 rfl rfl) rfl (by decide) (by omega) (by omega) (Nat.le_of_ble_eq_true rfl) (fun v_4 u_4 p_4 => ?_)
  obtain ⟨e_4, rfl⟩ := p_4
  rw [e_4]
  clear e_4
  dsimp only [rs]
  refine j_if_ne 12 dX11_kind_7 (by decide) (fun c_7 => ?_) (fun c_7 => ?_)
  · exact absurd c_7 (fun e => e (b2f hn))
  · refine j_iconst (v := -1) dX11_kind_10 (by decide) ?_
    exact j_ireturn dX11_kind_11 rfl rfl (⟨rfl, Fr_rf⟩)

set_option maxRecDepth 20000 in
theorem d_kindW {h : Hp} {b : Nat → Nat} {w xw : Nat} {i j : Nat} (fc : FC h b w xw) (hi : i < 8) (hj : j < 6) : Con mX11_kind 6 0 0 [vr (some (b 0)), vi (-1), vi (nI (i + 1)), vi (nI (j + 1))] h (fun v u => v = some (vi 0) ∧ Fr (CC b w xw) h u) := by
  refine con_of rfl (Nat.le_of_ble_eq_true rfl) (by decide) ?_
  show J mX11_kind 6 0 0 _ 0 [some (vr (some (b 0))), some (vi (-1)), some (vi (nI (i + 1))), some (vi (nI (j + 1)))] [] h
  refine j_aload_n dX11_kind_0 rfl ?_
  refine j_iload_n dX11_kind_1 rfl ?_
  refine j_iload_n dX11_kind_2 rfl ?_
  refine j_iload_n dX11_kind_3 rfl ?_
  refine j_callV3 dX11_kind_4 vl_X11_341 (d_isCell _ _ _ fc) (fcK fc 0 rfl rfl) rfl (by decide) (by omega) (by omega) (Nat.le_of_ble_eq_true rfl) (fun v_4 u_4 p_4 => ?_)
  obtain ⟨e_4, rfl⟩ := p_4
  rw [e_4]
  clear e_4
  dsimp only [rs]
  refine j_if_ne 12 dX11_kind_7 (by decide) (fun c_7 => ?_) (fun c_7 => ?_)
  · refine j_aload_n dX11_kind_12 rfl ?_
    refine j_iload_n dX11_kind_13 rfl ?_
    refine j_callV1 dX11_kind_14 vl_X11_208 (d_readyW fc) (fcK fc 0 rfl rfl) rfl (by decide) (by omega) (by omega) (Nat.le_of_ble_eq_true rfl) (fun v_14 u_14 p_14 => ?_)
    obtain ⟨rfl, hF, hs2, hz2⟩ := p_14
    have g0 := Fr_K hF (fcK fc 0 (c := 12) rfl rfl) (by decide)
    have g7 := Fr_K hF (fcK fc 7 (c := 9) rfl rfl) (by decide)
    have n7 : ¬ RS b w (b 7) := rs_w fc rfl rfl rfl rfl
    have i7 := Fr_I hF (fcK fc 7 (c := 9) rfl rfl) (by decide) n7 (fcI fc 7 1 0 (by decide))
    have j7 := Fr_G hF (fcK fc 7 (c := 9) rfl rfl) (by decide) n7 (show hG h (b 7) 2 = 0 from fc.2.2.2.2.2.2.2.2.2.2.2.2.2.2)
    dsimp only [rs]
    refine j_aload_n dX11_kind_17 rfl ?_
    refine j_iload_n dX11_kind_18 rfl ?_
    refine j_iload_n dX11_kind_19 rfl ?_
    refine j_iload_n dX11_kind_20 rfl ?_
    refine j_callV3 dX11_kind_21 vl_X11_345 (d_seenW fc hF hs2 hz2 hi hj) (by first | exact fcK fc 0 rfl rfl | exact g0) rfl (by decide) (by omega) (by omega) (Nat.le_of_ble_eq_true rfl) (fun v_21 u_21 p_21 => ?_)
    obtain ⟨e_21, rfl⟩ := p_21
    rw [e_21]
    clear e_21
    dsimp only [rs]
    refine j_getI dX11_kind_24 fl_X11_349 rfl g7 ?_
    rw [i7]
    exact j_ireturn dX11_kind_27 rfl rfl (⟨rfl, Fr_mono hF (fun c _ e => rs_cc (ccW b w xw) e)⟩)
  · exact absurd (by rw [b2_n]; exact okA_n (by decide) hi hj) c_7

set_option maxRecDepth 20000 in
theorem d_kind0 {h : Hp} {b : Nat → Nat} {w xw : Nat} {i j : Nat} (fc : FC h b w xw) (hi : i < 8) (hj : j < 6) : Con mX11_kind 6 1 48 [vr (some (b 0)), vi 0, vi (nI (i + 1)), vi (nI (j + 1))] h (fun v u => v = some (vi 0) ∧ Fr (CC b w xw) h u) := by
  refine con_of rfl (Nat.le_of_ble_eq_true rfl) (by decide) ?_
  show J mX11_kind 6 1 48 _ 0 [some (vr (some (b 0))), some (vi 0), some (vi (nI (i + 1))), some (vi (nI (j + 1)))] [] h
  refine j_aload_n dX11_kind_0 rfl ?_
  refine j_iload_n dX11_kind_1 rfl ?_
  refine j_iload_n dX11_kind_2 rfl ?_
  refine j_iload_n dX11_kind_3 rfl ?_
  refine j_callV3 dX11_kind_4 vl_X11_341 (d_isCell _ _ _ fc) (fcK fc 0 rfl rfl) rfl (by decide) (by omega) (by omega) (Nat.le_of_ble_eq_true rfl) (fun v_4 u_4 p_4 => ?_)
  obtain ⟨e_4, rfl⟩ := p_4
  rw [e_4]
  clear e_4
  dsimp only [rs]
  refine j_if_ne 12 dX11_kind_7 (by decide) (fun c_7 => ?_) (fun c_7 => ?_)
  · refine j_aload_n dX11_kind_12 rfl ?_
    refine j_iload_n dX11_kind_13 rfl ?_
    refine j_callV1 dX11_kind_14 vl_X11_208 (d_ready0 fc) (fcK fc 0 rfl rfl) rfl (by decide) (by omega) (by omega) (Nat.le_of_ble_eq_true rfl) (fun v_14 u_14 p_14 => ?_)
    obtain ⟨rfl, hF, hs2, hz2⟩ := p_14
    have g0 := Fr_K hF (fcK fc 0 (c := 12) rfl rfl) (by decide)
    have g7 := Fr_K hF (fcK fc 7 (c := 9) rfl rfl) (by decide)
    have n7 : ¬ RS b (b 35) (b 7) := rs_0 fc rfl rfl rfl rfl rfl
    have i7 := Fr_I hF (fcK fc 7 (c := 9) rfl rfl) (by decide) n7 (fcI fc 7 1 0 (by decide))
    have j7 := Fr_G hF (fcK fc 7 (c := 9) rfl rfl) (by decide) n7 (show hG h (b 7) 2 = 0 from fc.2.2.2.2.2.2.2.2.2.2.2.2.2.2)
    dsimp only [rs]
    refine j_aload_n dX11_kind_17 rfl ?_
    refine j_iload_n dX11_kind_18 rfl ?_
    refine j_iload_n dX11_kind_19 rfl ?_
    refine j_iload_n dX11_kind_20 rfl ?_
    refine j_callV3 dX11_kind_21 vl_X11_345 (d_seen0 fc hF hs2 hz2 hi hj) (by first | exact fcK fc 0 rfl rfl | exact g0) rfl (by decide) (by omega) (by omega) (Nat.le_of_ble_eq_true rfl) (fun v_21 u_21 p_21 => ?_)
    obtain ⟨e_21, rfl⟩ := p_21
    rw [e_21]
    clear e_21
    dsimp only [rs]
    refine j_getI dX11_kind_24 fl_X11_349 rfl g7 ?_
    rw [i7]
    exact j_ireturn dX11_kind_27 rfl rfl (⟨rfl, Fr_mono hF (fun c _ e => rs_cc (ccB b w xw rfl) e)⟩)
  · exact absurd (by rw [b2_n]; exact okA_n (by decide) hi hj) c_7

set_option maxRecDepth 20000 in
theorem d_valueN {h : Hp} {b : Nat → Nat} {w xw : Nat} (x y z : Int32) (fc : FC h b w xw) (hn : ¬ okA x y z) : Con mX11_value 6 0 0 [vr (some (b 0)), vi x, vi y, vi z] h (fun v u => v = some (vl 0) ∧ Fr (CC b w xw) h u) := by
  refine con_of rfl (Nat.le_of_ble_eq_true rfl) (by decide) ?_
  show J mX11_value 6 0 0 _ 0 [some (vr (some (b 0))), some (vi x), some (vi y), some (vi z)] [] h
  refine j_aload_n dX11_value_0 rfl ?_
  refine j_iload_n dX11_value_1 rfl ?_
  refine j_iload_n dX11_value_2 rfl ?_
  refine j_iload_n dX11_value_3 rfl ?_
  refine j_callV3 dX11_value_4 vl_X11_341 (d_isCell _ _ _ fc) (fcK fc 0 rfl rfl) rfl (by decide) (by omega) (by omega) (Nat.le_of_ble_eq_true rfl) (fun v_4 u_4 p_4 => ?_)
  obtain ⟨e_4, rfl⟩ := p_4
  rw [e_4]
  clear e_4
  dsimp only [rs]
  refine j_if_ne 12 dX11_value_7 (by decide) (fun c_7 => ?_) (fun c_7 => ?_)
  · exact absurd c_7 (fun e => e (b2f hn))
  · refine j_lconst (v := 0) dX11_value_10 (by decide) ?_
    exact j_lreturn dX11_value_11 rfl (⟨rfl, Fr_rf⟩)

set_option maxRecDepth 20000 in
theorem d_valueW {h : Hp} {b : Nat → Nat} {w xw : Nat} {i j : Nat} (fc : FC h b w xw) (hi : i < 8) (hj : j < 6) : Con mX11_value 6 0 0 [vr (some (b 0)), vi (-1), vi (nI (i + 1)), vi (nI (j + 1))] h (fun v u => v = some (vl 0) ∧ Fr (CC b w xw) h u) := by
  refine con_of rfl (Nat.le_of_ble_eq_true rfl) (by decide) ?_
  show J mX11_value 6 0 0 _ 0 [some (vr (some (b 0))), some (vi (-1)), some (vi (nI (i + 1))), some (vi (nI (j + 1)))] [] h
  refine j_aload_n dX11_value_0 rfl ?_
  refine j_iload_n dX11_value_1 rfl ?_
  refine j_iload_n dX11_value_2 rfl ?_
  refine j_iload_n dX11_value_3 rfl ?_
  refine j_callV3 dX11_value_4 vl_X11_341 (d_isCell _ _ _ fc) (fcK fc 0 rfl rfl) rfl (by decide) (by omega) (by omega) (Nat.le_of_ble_eq_true rfl) (fun v_4 u_4 p_4 => ?_)
  obtain ⟨e_4, rfl⟩ := p_4
  rw [e_4]
  clear e_4
  dsimp only [rs]
  refine j_if_ne 12 dX11_value_7 (by decide) (fun c_7 => ?_) (fun c_7 => ?_)
  · refine j_aload_n dX11_value_12 rfl ?_
    refine j_iload_n dX11_value_13 rfl ?_
    refine j_callV1 dX11_value_14 vl_X11_208 (d_readyW fc) (fcK fc 0 rfl rfl) rfl (by decide) (by omega) (by omega) (Nat.le_of_ble_eq_true rfl) (fun v_14 u_14 p_14 => ?_)
    obtain ⟨rfl, hF, hs2, hz2⟩ := p_14
    have g0 := Fr_K hF (fcK fc 0 (c := 12) rfl rfl) (by decide)
    have g7 := Fr_K hF (fcK fc 7 (c := 9) rfl rfl) (by decide)
    have n7 : ¬ RS b w (b 7) := rs_w fc rfl rfl rfl rfl
    have i7 := Fr_I hF (fcK fc 7 (c := 9) rfl rfl) (by decide) n7 (fcI fc 7 1 0 (by decide))
    have j7 := Fr_G hF (fcK fc 7 (c := 9) rfl rfl) (by decide) n7 (show hG h (b 7) 2 = 0 from fc.2.2.2.2.2.2.2.2.2.2.2.2.2.2)
    dsimp only [rs]
    refine j_aload_n dX11_value_17 rfl ?_
    refine j_iload_n dX11_value_18 rfl ?_
    refine j_iload_n dX11_value_19 rfl ?_
    refine j_iload_n dX11_value_20 rfl ?_
    refine j_callV3 dX11_value_21 vl_X11_345 (d_seenW fc hF hs2 hz2 hi hj) (by first | exact fcK fc 0 rfl rfl | exact g0) rfl (by decide) (by omega) (by omega) (Nat.le_of_ble_eq_true rfl) (fun v_21 u_21 p_21 => ?_)
    obtain ⟨e_21, rfl⟩ := p_21
    rw [e_21]
    clear e_21
    dsimp only [rs]
    refine j_getG dX11_value_24 fl_X11_350 rfl g7 ?_
    rw [j7]
    exact j_lreturn dX11_value_27 rfl (⟨rfl, Fr_mono hF (fun c _ e => rs_cc (ccW b w xw) e)⟩)
  · exact absurd (by rw [b2_n]; exact okA_n (by decide) hi hj) c_7

set_option maxRecDepth 20000 in
theorem d_value0 {h : Hp} {b : Nat → Nat} {w xw : Nat} {i j : Nat} (fc : FC h b w xw) (hi : i < 8) (hj : j < 6) : Con mX11_value 6 1 48 [vr (some (b 0)), vi 0, vi (nI (i + 1)), vi (nI (j + 1))] h (fun v u => v = some (vl 0) ∧ Fr (CC b w xw) h u) := by
  refine con_of rfl (Nat.le_of_ble_eq_true rfl) (by decide) ?_
  show J mX11_value 6 1 48 _ 0 [some (vr (some (b 0))), some (vi 0), some (vi (nI (i + 1))), some (vi (nI (j + 1)))] [] h
  refine j_aload_n dX11_value_0 rfl ?_
  refine j_iload_n dX11_value_1 rfl ?_
  refine j_iload_n dX11_value_2 rfl ?_
  refine j_iload_n dX11_value_3 rfl ?_
  refine j_callV3 dX11_value_4 vl_X11_341 (d_isCell _ _ _ fc) (fcK fc 0 rfl rfl) rfl (by decide) (by omega) (by omega) (Nat.le_of_ble_eq_true rfl) (fun v_4 u_4 p_4 => ?_)
  obtain ⟨e_4, rfl⟩ := p_4
  rw [e_4]
  clear e_4
  dsimp only [rs]
  refine j_if_ne 12 dX11_value_7 (by decide) (fun c_7 => ?_) (fun c_7 => ?_)
  · refine j_aload_n dX11_value_12 rfl ?_
    refine j_iload_n dX11_value_13 rfl ?_
    refine j_callV1 dX11_value_14 vl_X11_208 (d_ready0 fc) (fcK fc 0 rfl rfl) rfl (by decide) (by omega) (by omega) (Nat.le_of_ble_eq_true rfl) (fun v_14 u_14 p_14 => ?_)
    obtain ⟨rfl, hF, hs2, hz2⟩ := p_14
    have g0 := Fr_K hF (fcK fc 0 (c := 12) rfl rfl) (by decide)
    have g7 := Fr_K hF (fcK fc 7 (c := 9) rfl rfl) (by decide)
    have n7 : ¬ RS b (b 35) (b 7) := rs_0 fc rfl rfl rfl rfl rfl
    have i7 := Fr_I hF (fcK fc 7 (c := 9) rfl rfl) (by decide) n7 (fcI fc 7 1 0 (by decide))
    have j7 := Fr_G hF (fcK fc 7 (c := 9) rfl rfl) (by decide) n7 (show hG h (b 7) 2 = 0 from fc.2.2.2.2.2.2.2.2.2.2.2.2.2.2)
    dsimp only [rs]
    refine j_aload_n dX11_value_17 rfl ?_
    refine j_iload_n dX11_value_18 rfl ?_
    refine j_iload_n dX11_value_19 rfl ?_
    refine j_iload_n dX11_value_20 rfl ?_
    refine j_callV3 dX11_value_21 vl_X11_345 (d_seen0 fc hF hs2 hz2 hi hj) (by first | exact fcK fc 0 rfl rfl | exact g0) rfl (by decide) (by omega) (by omega) (Nat.le_of_ble_eq_true rfl) (fun v_21 u_21 p_21 => ?_)
    obtain ⟨e_21, rfl⟩ := p_21
    rw [e_21]
    clear e_21
    dsimp only [rs]
    refine j_getG dX11_value_24 fl_X11_350 rfl g7 ?_
    rw [j7]
    exact j_lreturn dX11_value_27 rfl (⟨rfl, Fr_mono hF (fun c _ e => rs_cc (ccB b w xw rfl) e)⟩)
  · exact absurd (by rw [b2_n]; exact okA_n (by decide) hi hj) c_7

set_option maxRecDepth 20000 in
theorem d_letterN {h : Hp} {b : Nat → Nat} {w xw : Nat} (x y z : Int32) (t : Int32) (fc : FC h b w xw) (hn : ¬ okA x y z) : Con mX11_letter 6 0 0 [vr (some (b 0)), vi x, vi y, vi z, vi t] h (fun v u => v = some (vi (-1)) ∧ Fr (CC b w xw) h u) := by
  refine con_of rfl (Nat.le_of_ble_eq_true rfl) (by decide) ?_
  show J mX11_letter 6 0 0 _ 0 [some (vr (some (b 0))), some (vi x), some (vi y), some (vi z), some (vi t), none] [] h
  refine j_aload_n dX11_letter_0 rfl ?_
  refine j_iload_n dX11_letter_1 rfl ?_
  refine j_iload_n dX11_letter_2 rfl ?_
  refine j_iload_n dX11_letter_3 rfl ?_
  refine j_callV3 dX11_letter_4 vl_X11_341 (d_isCell _ _ _ fc) (fcK fc 0 rfl rfl) rfl (by decide) (by omega) (by omega) (Nat.le_of_ble_eq_true rfl) (fun v_4 u_4 p_4 => ?_)
  obtain ⟨e_4, rfl⟩ := p_4
  rw [e_4]
  clear e_4
  dsimp only [rs]
  refine j_if_ne 12 dX11_letter_7 (by decide) (fun c_7 => ?_) (fun c_7 => ?_)
  · exact absurd c_7 (fun e => e (b2f hn))
  · refine j_iconst (v := -1) dX11_letter_10 (by decide) ?_
    exact j_ireturn dX11_letter_11 rfl rfl (⟨rfl, Fr_rf⟩)

set_option maxRecDepth 20000 in
theorem d_letterW {h : Hp} {b : Nat → Nat} {w xw : Nat} {i j : Nat} (t : Int32) (fc : FC h b w xw) (hi : i < 8) (hj : j < 6) : Con mX11_letter 6 0 0 [vr (some (b 0)), vi (-1), vi (nI (i + 1)), vi (nI (j + 1)), vi t] h (fun v u => v = some (vi (-1)) ∧ Fr (CC b w xw) h u) := by
  refine con_of rfl (Nat.le_of_ble_eq_true rfl) (by decide) ?_
  show J mX11_letter 6 0 0 _ 0 [some (vr (some (b 0))), some (vi (-1)), some (vi (nI (i + 1))), some (vi (nI (j + 1))), some (vi t), none] [] h
  refine j_aload_n dX11_letter_0 rfl ?_
  refine j_iload_n dX11_letter_1 rfl ?_
  refine j_iload_n dX11_letter_2 rfl ?_
  refine j_iload_n dX11_letter_3 rfl ?_
  refine j_callV3 dX11_letter_4 vl_X11_341 (d_isCell _ _ _ fc) (fcK fc 0 rfl rfl) rfl (by decide) (by omega) (by omega) (Nat.le_of_ble_eq_true rfl) (fun v_4 u_4 p_4 => ?_)
  obtain ⟨e_4, rfl⟩ := p_4
  rw [e_4]
  clear e_4
  dsimp only [rs]
  refine j_if_ne 12 dX11_letter_7 (by decide) (fun c_7 => ?_) (fun c_7 => ?_)
  · refine j_aload_n dX11_letter_12 rfl ?_
    refine j_iload_n dX11_letter_13 rfl ?_
    refine j_callV1 dX11_letter_14 vl_X11_208 (d_readyW fc) (fcK fc 0 rfl rfl) rfl (by decide) (by omega) (by omega) (Nat.le_of_ble_eq_true rfl) (fun v_14 u_14 p_14 => ?_)
    obtain ⟨rfl, hF, hs2, hz2⟩ := p_14
    have g0 := Fr_K hF (fcK fc 0 (c := 12) rfl rfl) (by decide)
    have g7 := Fr_K hF (fcK fc 7 (c := 9) rfl rfl) (by decide)
    have n7 : ¬ RS b w (b 7) := rs_w fc rfl rfl rfl rfl
    have i7 := Fr_I hF (fcK fc 7 (c := 9) rfl rfl) (by decide) n7 (fcI fc 7 1 0 (by decide))
    have j7 := Fr_G hF (fcK fc 7 (c := 9) rfl rfl) (by decide) n7 (show hG h (b 7) 2 = 0 from fc.2.2.2.2.2.2.2.2.2.2.2.2.2.2)
    dsimp only [rs]
    refine j_aload_n dX11_letter_17 rfl ?_
    refine j_iload_n dX11_letter_18 rfl ?_
    refine j_iload_n dX11_letter_19 rfl ?_
    refine j_iload_n dX11_letter_20 rfl ?_
    refine j_callV3 dX11_letter_21 vl_X11_345 (d_seenW fc hF hs2 hz2 hi hj) (by first | exact fcK fc 0 rfl rfl | exact g0) rfl (by decide) (by omega) (by omega) (Nat.le_of_ble_eq_true rfl) (fun v_21 u_21 p_21 => ?_)
    obtain ⟨e_21, rfl⟩ := p_21
    rw [e_21]
    clear e_21
    dsimp only [rs]
    refine j_astore dX11_letter_24 (by decide) ?_
    dsimp only [st1, st2, unL, List.set]
    refine j_aload dX11_letter_26 rfl ?_
    refine j_getI dX11_letter_28 fl_X11_349 rfl g7 ?_
    rw [i7]
    refine j_iconst (v := 2) dX11_letter_31 (by decide) ?_
    refine j_icmp_ne 74 dX11_letter_32 (by decide) (fun c_32 => ?_) (fun c_32 => ?_)
    · refine j_iconst (v := -1) dX11_letter_74 (by decide) ?_
      exact j_ireturn dX11_letter_75 rfl rfl (⟨rfl, Fr_mono hF (fun c _ e => rs_cc (ccW b w xw) e)⟩)
    · exact absurd (by decide) c_32
  · exact absurd (by rw [b2_n]; exact okA_n (by decide) hi hj) c_7

set_option maxRecDepth 20000 in
theorem d_letter0 {h : Hp} {b : Nat → Nat} {w xw : Nat} {i j : Nat} (t : Int32) (fc : FC h b w xw) (hi : i < 8) (hj : j < 6) : Con mX11_letter 6 1 48 [vr (some (b 0)), vi 0, vi (nI (i + 1)), vi (nI (j + 1)), vi t] h (fun v u => v = some (vi (-1)) ∧ Fr (CC b w xw) h u) := by
  refine con_of rfl (Nat.le_of_ble_eq_true rfl) (by decide) ?_
  show J mX11_letter 6 1 48 _ 0 [some (vr (some (b 0))), some (vi 0), some (vi (nI (i + 1))), some (vi (nI (j + 1))), some (vi t), none] [] h
  refine j_aload_n dX11_letter_0 rfl ?_
  refine j_iload_n dX11_letter_1 rfl ?_
  refine j_iload_n dX11_letter_2 rfl ?_
  refine j_iload_n dX11_letter_3 rfl ?_
  refine j_callV3 dX11_letter_4 vl_X11_341 (d_isCell _ _ _ fc) (fcK fc 0 rfl rfl) rfl (by decide) (by omega) (by omega) (Nat.le_of_ble_eq_true rfl) (fun v_4 u_4 p_4 => ?_)
  obtain ⟨e_4, rfl⟩ := p_4
  rw [e_4]
  clear e_4
  dsimp only [rs]
  refine j_if_ne 12 dX11_letter_7 (by decide) (fun c_7 => ?_) (fun c_7 => ?_)
  · refine j_aload_n dX11_letter_12 rfl ?_
    refine j_iload_n dX11_letter_13 rfl ?_
    refine j_callV1 dX11_letter_14 vl_X11_208 (d_ready0 fc) (fcK fc 0 rfl rfl) rfl (by decide) (by omega) (by omega) (Nat.le_of_ble_eq_true rfl) (fun v_14 u_14 p_14 => ?_)
    obtain ⟨rfl, hF, hs2, hz2⟩ := p_14
    have g0 := Fr_K hF (fcK fc 0 (c := 12) rfl rfl) (by decide)
    have g7 := Fr_K hF (fcK fc 7 (c := 9) rfl rfl) (by decide)
    have n7 : ¬ RS b (b 35) (b 7) := rs_0 fc rfl rfl rfl rfl rfl
    have i7 := Fr_I hF (fcK fc 7 (c := 9) rfl rfl) (by decide) n7 (fcI fc 7 1 0 (by decide))
    have j7 := Fr_G hF (fcK fc 7 (c := 9) rfl rfl) (by decide) n7 (show hG h (b 7) 2 = 0 from fc.2.2.2.2.2.2.2.2.2.2.2.2.2.2)
    dsimp only [rs]
    refine j_aload_n dX11_letter_17 rfl ?_
    refine j_iload_n dX11_letter_18 rfl ?_
    refine j_iload_n dX11_letter_19 rfl ?_
    refine j_iload_n dX11_letter_20 rfl ?_
    refine j_callV3 dX11_letter_21 vl_X11_345 (d_seen0 fc hF hs2 hz2 hi hj) (by first | exact fcK fc 0 rfl rfl | exact g0) rfl (by decide) (by omega) (by omega) (Nat.le_of_ble_eq_true rfl) (fun v_21 u_21 p_21 => ?_)
    obtain ⟨e_21, rfl⟩ := p_21
    rw [e_21]
    clear e_21
    dsimp only [rs]
    refine j_astore dX11_letter_24 (by decide) ?_
    dsimp only [st1, st2, unL, List.set]
    refine j_aload dX11_letter_26 rfl ?_
    refine j_getI dX11_letter_28 fl_X11_349 rfl g7 ?_
    rw [i7]
    refine j_iconst (v := 2) dX11_letter_31 (by decide) ?_
    refine j_icmp_ne 74 dX11_letter_32 (by decide) (fun c_32 => ?_) (fun c_32 => ?_)
    · refine j_iconst (v := -1) dX11_letter_74 (by decide) ?_
      exact j_ireturn dX11_letter_75 rfl rfl (⟨rfl, Fr_mono hF (fun c _ e => rs_cc (ccB b w xw rfl) e)⟩)
    · exact absurd (by decide) c_32
  · exact absurd (by rw [b2_n]; exact okA_n (by decide) hi hj) c_7

set_option maxRecDepth 20000 in
theorem c_writeN {h : Hp} {x a l : Nat} (k1 : hK h x = 11) : Con mX10_write 1 0 0 [vr (some x), vr none, vr (some a), vr (some l)] h (fun v u => v = none ∧ u = pO (pO (pI h x 3 0) x 5 (some a)) x 6 (some l)) := by
  refine con_of rfl (Nat.le_of_ble_eq_true rfl) (by decide) ?_
  show J mX10_write 1 0 0 _ 0 [some (vr (some x)), some (vr none), some (vr (some a)), some (vr (some l))] [] h
  refine j_aload_n dX10_write_0 rfl ?_
  refine j_iconst (v := 0) dX10_write_1 (by decide) ?_
  refine j_putI dX10_write_2 fl_X10_28 rfl rfl rfl k1 ?_
  refine j_aload_n dX10_write_5 rfl ?_
  refine j_aload_n dX10_write_6 rfl ?_
  refine j_putO dX10_write_7 fl_X10_32 rfl k1 ?_
  refine j_aload_n dX10_write_10 rfl ?_
  refine j_aload_n dX10_write_11 rfl ?_
  refine j_putO dX10_write_12 fl_X10_36 rfl k1 ?_
  refine j_aload_n dX10_write_15 rfl ?_
  refine j_ifnonnull 20 dX10_write_16 (by decide) (fun c_16 => ?_) (fun c_16 => ?_)
  · exact absurd c_16 (fun e => e rfl)
  · exact j_return dX10_write_19 rfl (⟨rfl, rfl⟩)

set_option maxRecDepth 20000 in
theorem c_letterAt0 {h : Hp} {x : Nat} (t : Int32) (k1 : hK h x = 11) (i3 : hI h x 3 = 0) : Con mX10_letterAt 1 0 0 [vr (some x), vi t] h (fun v u => u = h ∧ v = some (vi (-1))) := by
  refine con_of rfl (Nat.le_of_ble_eq_true rfl) (by decide) ?_
  show J mX10_letterAt 1 0 0 _ 0 [some (vr (some x)), some (vi t)] [] h
  refine j_iload_n dX10_letterAt_0 rfl ?_
  refine j_if_lt 21 dX10_letterAt_1 (by decide) (fun c_1 => ?_) (fun c_1 => ?_)
  · refine j_iconst (v := -1) dX10_letterAt_21 (by decide) ?_
    exact j_ireturn dX10_letterAt_22 rfl rfl (⟨rfl, rfl⟩)
  · refine j_iload_n dX10_letterAt_4 rfl ?_
    refine j_aload_n dX10_letterAt_5 rfl ?_
    refine j_getI dX10_letterAt_6 fl_X10_28 rfl k1 ?_
    rw [i3]
    refine j_icmp_ge 21 dX10_letterAt_9 (by decide) (fun c_9 => ?_) (fun c_9 => ?_)
    · refine j_iconst (v := -1) dX10_letterAt_21 (by decide) ?_
      exact j_ireturn dX10_letterAt_22 rfl rfl (⟨rfl, rfl⟩)
    · exact absurd (show t < 0 by simp only [le_i, lt_i, Int32.reduceToInt] at c_9 ⊢; omega) c_1

set_option maxRecDepth 20000 in
theorem d_writtenN {h : Hp} {b : Nat → Nat} {w xw : Nat} (x y z t : Int32) (fc : FC h b w xw) (hn : ¬ okA x y z) : Con mX11_written 6 0 0 [vr (some (b 0)), vi x, vi y, vi z, vi t] h (fun v u => v = some (vi (-1)) ∧ Fr (CC b w xw) h u) := by
  refine con_of rfl (Nat.le_of_ble_eq_true rfl) (by decide) ?_
  show J mX11_written 6 0 0 _ 0 [some (vr (some (b 0))), some (vi x), some (vi y), some (vi z), some (vi t), none] [] h
  refine j_aload_n dX11_written_0 rfl ?_
  refine j_iload_n dX11_written_1 rfl ?_
  refine j_iload_n dX11_written_2 rfl ?_
  refine j_iload_n dX11_written_3 rfl ?_
  refine j_callV3 dX11_written_4 vl_X11_341 (d_isCell _ _ _ fc) (fcK fc 0 rfl rfl) rfl (by decide) (by omega) (by omega) (Nat.le_of_ble_eq_true rfl) (fun v_4 u_4 p_4 => ?_)
  obtain ⟨e_4, rfl⟩ := p_4
  rw [e_4]
  clear e_4
  dsimp only [rs]
  refine j_if_ne 12 dX11_written_7 (by decide) (fun c_7 => ?_) (fun c_7 => ?_)
  · exact absurd c_7 (fun e => e (b2f hn))
  · refine j_iconst (v := -1) dX11_written_10 (by decide) ?_
    exact j_ireturn dX11_written_11 rfl rfl (⟨rfl, Fr_rf⟩)

set_option maxRecDepth 20000 in
theorem d_writtenW {h : Hp} {b : Nat → Nat} {w xw : Nat} {i j : Nat} (t : Int32) (fc : FC h b w xw) (hi : i < 8) (hj : j < 6) : Con mX11_written 6 0 0 [vr (some (b 0)), vi (-1), vi (nI (i + 1)), vi (nI (j + 1)), vi t] h (fun v u => v = some (vi (-1)) ∧ Fr (CC b w xw) h u) := by
  refine con_of rfl (Nat.le_of_ble_eq_true rfl) (by decide) ?_
  show J mX11_written 6 0 0 _ 0 [some (vr (some (b 0))), some (vi (-1)), some (vi (nI (i + 1))), some (vi (nI (j + 1))), some (vi t), none] [] h
  refine j_aload_n dX11_written_0 rfl ?_
  refine j_iload_n dX11_written_1 rfl ?_
  refine j_iload_n dX11_written_2 rfl ?_
  refine j_iload_n dX11_written_3 rfl ?_
  refine j_callV3 dX11_written_4 vl_X11_341 (d_isCell _ _ _ fc) (fcK fc 0 rfl rfl) rfl (by decide) (by omega) (by omega) (Nat.le_of_ble_eq_true rfl) (fun v_4 u_4 p_4 => ?_)
  obtain ⟨e_4, rfl⟩ := p_4
  rw [e_4]
  clear e_4
  dsimp only [rs]
  refine j_if_ne 12 dX11_written_7 (by decide) (fun c_7 => ?_) (fun c_7 => ?_)
  · refine j_aload_n dX11_written_12 rfl ?_
    refine j_iload_n dX11_written_13 rfl ?_
    refine j_callV1 dX11_written_14 vl_X11_312 (d_sheetOf _ fc) (fcK fc 0 rfl rfl) rfl (by decide) (by omega) (by omega) (Nat.le_of_ble_eq_true rfl) (fun v_14 u_14 p_14 => ?_)
    obtain ⟨e_14, rfl⟩ := p_14
    rw [e_14]
    clear e_14
    dsimp only [rs]
    rw [show shF b w (-1) = some w from by simp [shF]]
    refine j_astore dX11_written_17 (by decide) ?_
    dsimp only [st1, st2, unL, List.set]
    refine j_aload dX11_written_19 rfl ?_
    refine j_ifnonnull 26 dX11_written_21 (by decide) (fun c_21 => ?_) (fun c_21 => ?_)
    · refine j_aload_n dX11_written_26 rfl ?_
      refine j_getR dX11_written_27 fl_X11_19 rfl (fcK fc 0 rfl rfl) (fcO fc 0 1 2 (by decide)) ?_
      refine j_aload dX11_written_30 rfl ?_
      refine j_iload_n dX11_written_32 rfl ?_
      refine j_iload_n dX11_written_33 rfl ?_
      refine j_callV2 dX11_written_34 vl_X11_152 (c_at i j hi hj (fcS fc)) (by first | exact (fcS fc).1 | exact fcK fc 0 rfl rfl | exact fcK fc 2 rfl rfl) rfl (by decide) (by omega) (by omega) (Nat.le_of_ble_eq_true rfl) (fun v_34 u_34 p_34 => ?_)
      obtain ⟨e_34, rfl⟩ := p_34
      rw [e_34]
      clear e_34
      dsimp only [rs]
      rw [fcX fc (i * 6 + j) (by omega)]
      refine j_aload dX11_written_37 rfl ?_
      refine j_aload_n dX11_written_39 rfl ?_
      refine j_getR dX11_written_40 fl_X11_26 rfl (fcK fc 0 rfl rfl) (fcO fc 0 2 3 (by decide)) ?_
      refine j_callV3 dX11_written_43 vl_X11_358 (c_writeN (fcK fc 2 rfl rfl)) (fcK fc 2 rfl rfl) rfl (by decide) (by omega) (by omega) (Nat.le_of_ble_eq_true rfl) (fun v_43 u_43 p_43 => ?_)
      obtain ⟨rfl, rfl⟩ := p_43
      dsimp only [rs]
      refine j_aload_n dX11_written_46 rfl ?_
      refine j_getR dX11_written_47 fl_X11_19 rfl (fcK fc 0 rfl rfl) (by show hO (pO (pO (pI h (b 2) 3 0) (b 2) 5 (some w)) (b 2) 6 (some (b 3))) (b 0) 1 = _; rw [hO_pO, if_neg (fun e => fcNe fc (i := 0) (j := 2) rfl rfl rfl e.1), hO_pO, if_neg (fun e => fcNe fc (i := 0) (j := 2) rfl rfl rfl e.1)]; exact fcO fc 0 1 2 (by decide)) ?_
      refine j_iload dX11_written_50 rfl ?_
      refine j_callV1 dX11_written_52 vl_X11_362 (c_letterAt0 t (h := pO (pO (pI h (b 2) 3 0) (b 2) 5 (some w)) (b 2) 6 (some (b 3))) (fcK fc 2 rfl rfl) (by show hI (pI h (b 2) 3 0) (b 2) 3 = 0; rw [hI_pI, if_pos ⟨rfl, rfl⟩])) (by first | exact (fcS fc).1 | exact fcK fc 0 rfl rfl | exact fcK fc 2 rfl rfl) rfl (by decide) (by omega) (by omega) (Nat.le_of_ble_eq_true rfl) (fun v_52 u_52 p_52 => ?_)
      obtain ⟨e_52, rfl⟩ := p_52
      rw [e_52]
      clear e_52
      dsimp only [rs]
      exact j_ireturn dX11_written_55 rfl rfl (⟨rfl, Fr_pO (Fr_pO (Fr_pI Fr_rf (Or.inl (ccB b w xw rfl))) (Or.inl (ccB b w xw rfl))) (Or.inl (ccB b w xw rfl))⟩)
    · exact absurd c_21 (fun e => by cases e)
  · exact absurd (by rw [b2_n]; exact okA_n (by decide) hi hj) c_7

set_option maxRecDepth 20000 in
theorem d_written0 {h : Hp} {b : Nat → Nat} {w xw : Nat} {i j : Nat} (t : Int32) (fc : FC h b w xw) (hi : i < 8) (hj : j < 6) : Con mX11_written 6 0 0 [vr (some (b 0)), vi 0, vi (nI (i + 1)), vi (nI (j + 1)), vi t] h (fun v u => v = some (vi (-1)) ∧ Fr (CC b w xw) h u) := by
  refine con_of rfl (Nat.le_of_ble_eq_true rfl) (by decide) ?_
  show J mX11_written 6 0 0 _ 0 [some (vr (some (b 0))), some (vi 0), some (vi (nI (i + 1))), some (vi (nI (j + 1))), some (vi t), none] [] h
  refine j_aload_n dX11_written_0 rfl ?_
  refine j_iload_n dX11_written_1 rfl ?_
  refine j_iload_n dX11_written_2 rfl ?_
  refine j_iload_n dX11_written_3 rfl ?_
  refine j_callV3 dX11_written_4 vl_X11_341 (d_isCell _ _ _ fc) (fcK fc 0 rfl rfl) rfl (by decide) (by omega) (by omega) (Nat.le_of_ble_eq_true rfl) (fun v_4 u_4 p_4 => ?_)
  obtain ⟨e_4, rfl⟩ := p_4
  rw [e_4]
  clear e_4
  dsimp only [rs]
  refine j_if_ne 12 dX11_written_7 (by decide) (fun c_7 => ?_) (fun c_7 => ?_)
  · refine j_aload_n dX11_written_12 rfl ?_
    refine j_iload_n dX11_written_13 rfl ?_
    refine j_callV1 dX11_written_14 vl_X11_312 (d_sheetOf _ fc) (fcK fc 0 rfl rfl) rfl (by decide) (by omega) (by omega) (Nat.le_of_ble_eq_true rfl) (fun v_14 u_14 p_14 => ?_)
    obtain ⟨e_14, rfl⟩ := p_14
    rw [e_14]
    clear e_14
    dsimp only [rs]
    rw [show shF b w (0) = some (b 35) from by simp [shF]]
    refine j_astore dX11_written_17 (by decide) ?_
    dsimp only [st1, st2, unL, List.set]
    refine j_aload dX11_written_19 rfl ?_
    refine j_ifnonnull 26 dX11_written_21 (by decide) (fun c_21 => ?_) (fun c_21 => ?_)
    · refine j_aload_n dX11_written_26 rfl ?_
      refine j_getR dX11_written_27 fl_X11_19 rfl (fcK fc 0 rfl rfl) (fcO fc 0 1 2 (by decide)) ?_
      refine j_aload dX11_written_30 rfl ?_
      refine j_iload_n dX11_written_32 rfl ?_
      refine j_iload_n dX11_written_33 rfl ?_
      refine j_callV2 dX11_written_34 vl_X11_152 (c_at i j hi hj (fcS0 fc)) (by first | exact (fcS0 fc).1 | exact fcK fc 0 rfl rfl | exact fcK fc 2 rfl rfl) rfl (by decide) (by omega) (by omega) (Nat.le_of_ble_eq_true rfl) (fun v_34 u_34 p_34 => ?_)
      obtain ⟨e_34, rfl⟩ := p_34
      rw [e_34]
      clear e_34
      dsimp only [rs]
      rw [fcX8 fc (i * 6 + j) (by omega)]
      refine j_aload dX11_written_37 rfl ?_
      refine j_aload_n dX11_written_39 rfl ?_
      refine j_getR dX11_written_40 fl_X11_26 rfl (fcK fc 0 rfl rfl) (fcO fc 0 2 3 (by decide)) ?_
      refine j_callV3 dX11_written_43 vl_X11_358 (c_writeN (fcK fc 2 rfl rfl)) (fcK fc 2 rfl rfl) rfl (by decide) (by omega) (by omega) (Nat.le_of_ble_eq_true rfl) (fun v_43 u_43 p_43 => ?_)
      obtain ⟨rfl, rfl⟩ := p_43
      dsimp only [rs]
      refine j_aload_n dX11_written_46 rfl ?_
      refine j_getR dX11_written_47 fl_X11_19 rfl (fcK fc 0 rfl rfl) (by show hO (pO (pO (pI h (b 2) 3 0) (b 2) 5 (some (b 35))) (b 2) 6 (some (b 3))) (b 0) 1 = _; rw [hO_pO, if_neg (fun e => fcNe fc (i := 0) (j := 2) rfl rfl rfl e.1), hO_pO, if_neg (fun e => fcNe fc (i := 0) (j := 2) rfl rfl rfl e.1)]; exact fcO fc 0 1 2 (by decide)) ?_
      refine j_iload dX11_written_50 rfl ?_
      refine j_callV1 dX11_written_52 vl_X11_362 (c_letterAt0 t (h := pO (pO (pI h (b 2) 3 0) (b 2) 5 (some (b 35))) (b 2) 6 (some (b 3))) (fcK fc 2 rfl rfl) (by show hI (pI h (b 2) 3 0) (b 2) 3 = 0; rw [hI_pI, if_pos ⟨rfl, rfl⟩])) (by first | exact (fcS0 fc).1 | exact fcK fc 0 rfl rfl | exact fcK fc 2 rfl rfl) rfl (by decide) (by omega) (by omega) (Nat.le_of_ble_eq_true rfl) (fun v_52 u_52 p_52 => ?_)
      obtain ⟨e_52, rfl⟩ := p_52
      rw [e_52]
      clear e_52
      dsimp only [rs]
      exact j_ireturn dX11_written_55 rfl rfl (⟨rfl, Fr_pO (Fr_pO (Fr_pI Fr_rf (Or.inl (ccB b w xw rfl))) (Or.inl (ccB b w xw rfl))) (Or.inl (ccB b w xw rfl))⟩)
    · exact absurd c_21 (fun e => by cases e)
  · exact absurd (by rw [b2_n]; exact okA_n (by decide) hi hj) c_7

