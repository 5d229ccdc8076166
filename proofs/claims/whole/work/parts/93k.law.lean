/-! ===== both constructors; the law up to its loop ===== -/
theorem Wz_E : Wz zE := ⟨fun _ _ => (by decide : R32 0), fun _ _ => (⟨by decide, by decide⟩ : R64 0), fun _ _ h => (by cases h), fun _ _ h => (by cases h), fun _ => (by decide : (0 : Int) ≤ 0 ∧ (0 : Int) < 33554432)⟩
theorem x_con (t0 : Nat) : Con mX11_init 6 300 20000 [vr (some t0)] (cz (nZ zE t0 12 0)) (QZV (fun y => ∃ b I, b 0 = t0 ∧ RC y b I S0 ∧ (∃ sv sb, Cac y b I sv sb S0) ∧ ptZ y b S0 ≤ 1)) := T_X11_init (Wz_nZ Wz_E (by decide) (by decide)) (x_made t0)
theorem m_con (t0 : Nat) : Con mX12_init 4 56 1298775 [vr (some t0)] (cz (nZ zE t0 13 0)) (fun o h => o = none ∧ ∃ g v, g 0 = t0 ∧ Ms h g v ∧ RM v 0 S0 ∧ NdS v S0) := by
  refine T_X12_init (fun z c s hw hP => ?_) (Wz_nZ Wz_E (by decide) (by decide)) (m_most t0)
  obtain ⟨g, rfl, mz, m0⟩ := hP
  have m := Ms_uZ mz hw
  refine j_callV2 (dk dt_X12_init 297 rfl) vl_X12_198 (T_X12_copySheet (x1 := 0) (x2 := 40) (P := fun v => v = cpF (uZ z g) 0 40) (by decide) (by decide) m (i_copySheet (by decide) (by decide) (by decide) (by decide) rfl)) m.1.1 rfl (by decide) (Nat.zero_le _) (Nat.zero_le _) (Nat.le_of_ble_eq_true rfl) (fun v h p => ?_)
  obtain ⟨w, rfl, mw, rfl⟩ := p
  refine j_return (dk dt_X12_init 298 rfl) rfl ?_
  exact ⟨rfl, g, _, rfl, mw, m_start m0⟩
theorem so0 {m : Int} : SO m (nxt S0) sh0 := by
  refine ⟨fun r c _ _ _ _ k l ps e => (by cases e), fun ax hax i j _ _ _ _ e => ?_, fun ax hax k k0 k1 => ?_⟩
  · rcases hax with rfl | rfl
    · exact e
    · exact e
  · rcases hax with rfl | rfl
    · exact ⟨k0, k1⟩
    · exact ⟨k0, k1⟩
theorem pv0 : PV S0 := ⟨fun v _ _ => so0, so0, fun k k0 k1 => absurd k1 (by show ¬ k < 0; omega), fun k k0 k1 => absurd k1 (by show ¬ k < 0; omega), fun k k0 k1 => absurd k1 (by show ¬ k < 0; omega), by decide, by decide⟩
theorem sr_start {y : Z} {b g : Nat → Nat} {I : Nat → Prop} {v : Mu} {hm : Hp} (hw : Wz y) (R : RC y b I S0) (C : ∃ sv sb, Cac y b I sv sb S0) (q : ptZ y b S0 ≤ 1) (m : Ms hm g v) (M : RM v 0 S0) (N : NdS v S0) : SRv 513 600000 5900000 (b 0) g (cz y) hm := by
  refine ⟨y, v, b, I, S0, rfl, hw, m, rfl, R, M, Nat.le_refl _, pv0, ⟨by decide, by decide⟩, C, N, RmE_q (q := 1) ⟨by decide, by decide⟩ q⟩
theorem LSt_new {h hc hm : Hp} {o : Nat} (s1 : sub hc h) (s2 : sub hm h) (s3 : ∀ a, hK hc a ≠ 0 → hK hm a = 0) (ho : hK h o = 0) : LSt (nw h o 16 1) hc hm o := by
  have z : ∀ {k : Hp}, sub k h → hK k o = 0 := fun {k} s => Classical.byContradiction fun w => w (by rw [← (s o w).1]; exact ho)
  have e : ∀ a, a ≠ o → hK (nw h o 16 1) a = hK h a ∧ hN (nw h o 16 1) a = hN h a ∧ hI (nw h o 16 1) a = hI h a ∧ hG (nw h o 16 1) a = hG h a ∧ hO (nw h o 16 1) a = hO h a := fun a ha => ⟨by rw [hK_nw, if_neg ha], by rw [hN_nw, if_neg ha], by funext j; rw [hI_nw, if_neg ha], by funext j; rw [hG_nw, if_neg ha], by funext j; rw [hO_nw, if_neg ha]⟩
  have t : ∀ {k : Hp}, sub k h → sub k (nw h o 16 1) := fun {k} s a ha => by
    obtain ⟨e1, e2, e3, e4, e5⟩ := e a (fun w => by rw [w] at ha; exact ha (z s))
    obtain ⟨f1, f2, f3, f4, f5⟩ := s a ha
    exact ⟨e1.trans f1, e2.trans f2, e3.trans f3, e4.trans f4, e5.trans f5⟩
  exact ⟨t s1, t s2, s3, by rw [hK_nw, if_pos rfl], by rw [hN_nw, if_pos rfl], z s1, z s2⟩
def he : Hp := (fun _ => 0, fun _ => 0, fun _ _ => 0, fun _ _ => 0, fun _ _ => none)
theorem nw_he (q c : Nat) : nw he q c 0 = cz (nZ zE q c 0) := by
  rw [← cz_nw zE q c 0 0 rfl]; rfl
set_option maxRecDepth 20000 in
theorem law_body {p : Program} {l : Launch} {e : Env} {s : State} {m : MethodId} {args : Array Value} {below : List Frame} {meth : Method} {c0 : Code} {Q : State → Prop} {D : va_G} {cy : Nat → ClassId} {A : Nat → Prop} {MC MS d : Nat} {post : Option Sv ⊕ String → Hp → Prop} {b0 mc ms : Nat} (hd : 10 < d) (k : ∀ (h hc hm : Hp) (x : Nat) (g : Nat → Nat) (o : Nat), LSt h hc hm o → SRv 513 600000 5900000 x g hc hm → Jp mL_law p l e s m args below meth c0 Q D cy A MC MS d mc ms post 23 [some (vr (some b0)), some (vr (some x)), some (vr (some (g 0))), some (vr (some o)), some (vi (nI 0)), none, none] [] h) : Jp mL_law p l e s m args below meth c0 Q D cy A MC MS d (mc + 359) (ms + 1319200) post 0 [some (vr (some b0)), none, none, none, none, none, none] [] he := by
  refine jp_mono (mc' := (mc + 358) + 1) (ms' := (ms + 1319100) + fnum 11) (by omega) (by simp only [fnum]; omega) ?_
  refine jp_new dL_law_0 cl_11 nl_L_8 iw_11 zw_11 (fun qx hqx => ?_)
  refine jp_dup dL_law_3 rfl ?_
  rw [nw_he]
  refine jp_callI0 dL_law_4 il_L_78 (x_con qx) rfl (by omega) (by omega) (by omega) (Nat.le_of_ble_eq_true rfl) (fun v1 hc p1 => ?_)
  obtain ⟨y, rfl, rfl, wy, b, I, rfl, Ry, Cy, qy⟩ := p1
  dsimp only [rs]
  refine jp_astore_n dL_law_7 (by decide) ?_
  dsimp only [st1, st2, unL, List.set]
  refine jp_mono (mc' := (mc + 57) + 1) (ms' := (ms + 1298776) + fnum 12) (by omega) (by simp only [fnum]; omega) ?_
  refine jp_new dL_law_8 cl_12 nl_L_79 iw_12 zw_12 (fun qm hqm => ?_)
  refine jp_dup dL_law_11 rfl ?_
  have hsb : sub (nw he qm 13 0) (nw (cz y) qm 13 0) := fun a ha => by
    have e : a = qm := Classical.byContradiction fun z => ha (by rw [hK_nw, if_neg z]; rfl)
    subst e
    exact ⟨by rw [hK_nw, hK_nw, if_pos rfl, if_pos rfl], by rw [hN_nw, hN_nw, if_pos rfl, if_pos rfl], by funext j; rw [hI_nw, hI_nw, if_pos rfl, if_pos rfl], by funext j; rw [hG_nw, hG_nw, if_pos rfl, if_pos rfl], by funext j; rw [hO_nw, hO_nw, if_pos rfl, if_pos rfl]⟩
  have cm := m_con qm
  rw [← nw_he] at cm
  refine jp_callI0 dL_law_12 il_L_81 (con_frame cm hsb) rfl (by omega) (by omega) (by omega) (Nat.le_of_ble_eq_true rfl) (fun v2 u2 p2 => ?_)
  obtain ⟨hm, ⟨rfl, g, v, rfl, mv, Rv, Nv⟩, rfl, fr⟩ := p2
  dsimp only [rs]
  have out : ∀ a, hK (cz y) a ≠ 0 → a ≠ g 0 := fun a ha e => by rw [e] at ha; exact ha hqm
  have o1 : ∀ a, hK (cz y) a ≠ 0 → hK (nw (cz y) (g 0) 13 0) a ≠ 0 ∧ hK (nw he (g 0) 13 0) a = 0 := fun a ha => ⟨by rw [hK_nw, if_neg (out a ha)]; exact ha, by rw [hK_nw, if_neg (out a ha)]; rfl⟩
  have s1 : sub (cz y) (mg (nw (cz y) (g 0) 13 0) (nw he (g 0) 13 0) hm) := fun a ha => by
    obtain ⟨e1, e2, e3, e4, e5⟩ := mg_o (u := hm) (o1 a ha).1 (o1 a ha).2
    have n := out a ha
    exact ⟨e1.trans (by rw [hK_nw, if_neg n]), e2.trans (by rw [hN_nw, if_neg n]), e3.trans (by funext j; rw [hI_nw, if_neg n]), e4.trans (by funext j; rw [hG_nw, if_neg n]), e5.trans (by funext j; rw [hO_nw, if_neg n])⟩
  have s2 : sub hm (mg (nw (cz y) (g 0) 13 0) (nw he (g 0) 13 0) hm) := fun a ha => mg_i (fun z => ha (fr a z.1 z.2))
  have s3 : ∀ a, hK (cz y) a ≠ 0 → hK hm a = 0 := fun a ha => fr a (o1 a ha).1 (o1 a ha).2
  generalize mg (nw (cz y) (g 0) 13 0) (nw he (g 0) 13 0) hm = h3 at s1 s2 ⊢
  refine jp_astore_n dL_law_15 (by decide) ?_
  dsimp only [st1, st2, unL, List.set]
  refine jp_iconst (v := 1) dL_law_16 (by decide) ?_
  refine jp_mono (mc' := mc + 1) (ms' := ms + 1) (by omega) (by omega) ?_
  refine jp_newJ 1 dL_law_17 ac_long rfl (by decide) (fun o ho => ?_)
  refine jp_astore_n dL_law_19 (by decide) ?_
  dsimp only [st1, st2, unL, List.set]
  refine jp_iconst (v := 0) dL_law_20 (by decide) ?_
  refine jp_istore dL_law_21 (by decide) ?_
  dsimp only [st1, st2, unL, List.set]
  refine jp_lle (lv' := [some (vr (some b0)), some (vr (some (b 0))), some (vr (some (g 0))), some (vr (some o)), some (vi (nI 0)), none, none]) (by first | (simp [lle]; done) | (simp [lle]; rfl)) ?_
  exact k _ (cz y) hm (b 0) g o (LSt_new s1 s2 s3 ho) (sr_start wy Ry Cy qy mv Rv Nv)
/-- the law, from its first row on -/
theorem law_all {p : Program} {l : Launch} {e : Env} {s : State} {m : MethodId} {args : Array Value} {below : List Frame} {meth : Method} {c0 : Code} {Q : State → Prop} {D : va_G} {cy : Nat → ClassId} {A : Nat → Prop} {MC MS : Nat} {post : Option Sv ⊕ String → Hp → Prop} {b0 L : Nat} {xs : Nat → Int32} (hX : va_X b0 L xs s s.heap) (hbl : b0 < s.heap.size) (hbA : ¬ A b0) (hL : L ≤ 3584) (hpost : ∀ u, post (.inl (some (vi 1))) u) : Jp mL_law p l e s m args below meth c0 Q D cy A MC MS 2048 601024 7293034 post 0 [some (vr (some b0)), none, none, none, none, none, none] [] he :=
  jp_mono (mc' := 600000 + 359) (ms' := 5900000 + 1319200) (by decide) (by decide) (law_body (by decide) (fun h hc hm x g o S R => sim_loop hX hbl hbA hL sims hpost 513 0 600000 5900000 h hc hm (by omega) (by omega) S R))
