def F_X11_ready_17  (z : Z) (c : Nat) (s : Nat) (P : Z → Prop) : Prop :=
  P z
theorem T_X11_ready_17  {z : Z} {c : Nat} {s : Nat} {P : Z → Prop}  (hw : Wz z)   (H : F_X11_ready_17 z c s P) : J mX11_ready 12 c s (nx (QZV P)) 17 [none, none, none, none, none, none, none] [] (cz z) := by
  unfold F_X11_ready_17 at H
  exact j_return (dk dt_X11_ready 9 rfl) rfl ⟨_, rfl, rfl, hw, H⟩
def F_X11_ready_82  (t0 : Nat) (x1 : Int) (x2 : Option Nat) (x3 : Int) (x5 : Int) (z : Z) (c : Nat) (s : Nat) (P : (Int × Int) ⊕ ((Int)) → Prop) : Prop :=
  P (.inl (x3, w32 (x5 + (-1))))
theorem T_X11_ready_82  {t0 : Nat} {x1 : Int} {x2 : Option Nat} {x3 : Int} {x5 : Int} {z : Z} {c : Nat} {s : Nat} {P : (Int × Int) ⊕ ((Int)) → Prop} {post : Option Sv ⊕ String → Hp → Prop} (r_x1 : R32 x1) (r_x3 : R64 x3) (r_x5 : R32 x5) (hw : Wz z)  (hl : ∀ (x3 : Int) (x5 : Int), P (.inl (x3, x5)) → R64 x3 → R32 x5 → J mX11_ready 12 c s post 34 [some (vr (some t0)), some (ii (x1)), some (vr (x2)), some (ll (x3)), none, some (ii (x5)), none] [] (cz z)) (he0 : ∀ (x3 : Int), P (.inr x3) → R64 x3 → J mX11_ready 12 c s post 88 [some (vr (some t0)), some (ii (x1)), some (vr (x2)), some (ll (x3)), none, none, none] [] (cz z)) (H : F_X11_ready_82 t0 x1 x2 x3 x5 z c s P) : J mX11_ready 12 c s (post) 82 [some (vr (some t0)), some (ii (x1)), some (vr (x2)), some (ll (x3)), none, some (ii (x5)), none] [] (cz z) := by
  unfold F_X11_ready_82 at H
  refine jz_iinc (dk dt_X11_ready 44 rfl) rfl ?_
  refine j_goto 34 (dk dt_X11_ready 45 rfl) (by decide) ?_
  exact j_el (hl _ _ H r_x3 (r32_w _)) (And.intro rfl (And.intro rfl (And.intro rfl (And.intro rfl (And.intro rfl trivial)))))
def L_X11_ready_34  (t0 : Nat) (x1 : Int) (x2 : Option Nat) (x3 : Int) (x5 : Int) (z : Z) (c : Nat) (s : Nat) (P : (Int × Int) ⊕ ((Int)) → Prop) : Prop :=
  (if x5 < 0 then P (.inr x3) else (zK z t0 = 12 ∧ (∃ a_45, zO z t0 2 = some a_45 ∧ zK z a_45 = 3 ∧ F_X2_at a_45 x5 z (fun x_45 => (if x_45 = none then F_X11_ready_82 t0 x1 x2 x3 x5 z c s P else (∃ a_57, x_45 = some a_57 ∧ zK z a_57 = 7 ∧ (if zO z a_57 3 = none then (if lAnd (lShr x3 x5) 1 = 0 then F_X11_ready_82 t0 x1 x2 x3 x5 z c s P else F_X6_versionsLookedAt a_57 z (fun x_77 => F_X11_ready_82 t0 x1 x2 (lOr x3 x_77) x5 z c s P)) else F_X11_ready_82 t0 x1 x2 x3 x5 z c s P)))))))
theorem U_X11_ready_34  {t0 : Nat} {x1 : Int} {x2 : Option Nat} {x3 : Int} {x5 : Int} {z : Z} {c : Nat} {s : Nat} {P : (Int × Int) ⊕ ((Int)) → Prop} {post : Option Sv ⊕ String → Hp → Prop} (r_x1 : R32 x1) (r_x3 : R64 x3) (r_x5 : R32 x5) (hw : Wz z)  (hl : ∀ (x3 : Int) (x5 : Int), P (.inl (x3, x5)) → R64 x3 → R32 x5 → J mX11_ready 12 c s post 34 [some (vr (some t0)), some (ii (x1)), some (vr (x2)), some (ll (x3)), none, some (ii (x5)), none] [] (cz z)) (he0 : ∀ (x3 : Int), P (.inr x3) → R64 x3 → J mX11_ready 12 c s post 88 [some (vr (some t0)), some (ii (x1)), some (vr (x2)), some (ll (x3)), none, none, none] [] (cz z)) (H : L_X11_ready_34 t0 x1 x2 x3 x5 z c s P) : J mX11_ready 12 c s post 34 [some (vr (some t0)), some (ii (x1)), some (vr (x2)), some (ll (x3)), none, some (ii (x5)), none] [] (cz z) := by
  unfold L_X11_ready_34 at H
  refine j_iload (dk dt_X11_ready 19 rfl) rfl ?_
  refine jz_if_lt 88 (dk dt_X11_ready 20 rfl) (by decide) r_x5 H (fun H => ?_) (fun H => ?_)
  · exact j_el (he0 _ H r_x3) (And.intro rfl (And.intro rfl (And.intro rfl (And.intro rfl trivial))))
  · refine j_aload_n (dk dt_X11_ready 21 rfl) rfl ?_
    obtain ⟨k_40, H⟩ := H
    refine jz_getO (kz := 2) (dk dt_X11_ready 22 rfl) fl_X11_26 rfl rfl rfl k_40 ?_
    refine j_iload (dk dt_X11_ready 23 rfl) rfl ?_
    obtain ⟨a_45, e_45, k_45, H⟩ := H
    refine jz_callV1 (dk dt_X11_ready 24 rfl) vl_X11_269 e_45 (T_X2_at r_x5 hw H) k_45 rfl (by decide) (Nat.zero_le _) (Nat.zero_le _) (Nat.le_of_ble_eq_true rfl) (fun v_45 h_45 P_45 => ?_)
    obtain ⟨x_45, rfl, rfl, H⟩ := P_45
    dsimp only [rs]
    refine j_astore (dk dt_X11_ready 25 rfl) (by decide) ?_
    refine j_aload (dk dt_X11_ready 26 rfl) rfl ?_
    refine jz_ifnull 82 (dk dt_X11_ready 27 rfl) (by decide) H (fun H => ?_) (fun H => ?_)
    · exact j_el (T_X11_ready_82 r_x1 r_x3 r_x5 hw  hl he0 H) (And.intro rfl (And.intro rfl (And.intro rfl (And.intro rfl (And.intro rfl trivial)))))
    · refine j_aload (dk dt_X11_ready 28 rfl) rfl ?_
      obtain ⟨a_57, e_57, k_57, H⟩ := H
      refine jz_getO (kz := 3) (dk dt_X11_ready 29 rfl) fl_X11_404 rfl rfl e_57 k_57 ?_
      refine jz_ifnonnull 82 (dk dt_X11_ready 30 rfl) (by decide) H (fun H => ?_) (fun H => ?_)
      · refine j_lload_n (dk dt_X11_ready 31 rfl) rfl ?_
        refine j_iload (dk dt_X11_ready 32 rfl) rfl ?_
        refine jz_lshr (dk dt_X11_ready 33 rfl) ?_
        refine j_lconst (v := Int64.ofInt 1) (dk dt_X11_ready 34 rfl) (by decide) ?_
        refine jz_land (dk dt_X11_ready 35 rfl) ?_
        refine j_lconst (v := Int64.ofInt 0) (dk dt_X11_ready 36 rfl) (by decide) ?_
        refine jz_lcmp (dk dt_X11_ready 37 rfl) (r64_t _) (by decide) ?_
        refine jz_lif_eq 82 (dk dt_X11_ready 38 rfl) (by decide) H (fun H => ?_) (fun H => ?_)
        · exact j_el (T_X11_ready_82 r_x1 r_x3 r_x5 hw  hl he0 H) (And.intro rfl (And.intro rfl (And.intro rfl (And.intro rfl (And.intro rfl trivial)))))
        · refine j_lload_n (dk dt_X11_ready 39 rfl) rfl ?_
          refine j_aload (dk dt_X11_ready 40 rfl) rfl ?_
          refine jz_callV0 (dk dt_X11_ready 41 rfl) vl_X11_447 e_57 (T_X6_versionsLookedAt hw H) k_57 rfl (by decide) (Nat.zero_le _) (Nat.zero_le _) (Nat.le_of_ble_eq_true rfl) (fun v_77 h_77 P_77 => ?_)
          obtain ⟨x_77, rfl, r_77, rfl, H⟩ := P_77
          dsimp only [rs]
          refine jz_lor (dk dt_X11_ready 42 rfl) ?_
          refine j_lstore_n (dk dt_X11_ready 43 rfl) (by decide) ?_
          exact j_el (T_X11_ready_82 r_x1 (r64_t _) r_x5 hw  hl he0 H) (And.intro rfl (And.intro rfl (And.intro rfl (And.intro rfl (And.intro rfl trivial)))))
      · exact j_el (T_X11_ready_82 r_x1 r_x3 r_x5 hw  hl he0 H) (And.intro rfl (And.intro rfl (And.intro rfl (And.intro rfl (And.intro rfl trivial)))))
def F_X11_ready_156  (t0 : Nat) (x1 : Int) (x2 : Option Nat) (x3 : Int) (x5 : Int) (z : Z) (c : Nat) (s : Nat) (P : (Int × Z × Nat × Nat) ⊕ ((Z × Nat × Nat)) → Prop) : Prop :=
  P (.inl (w32 (x5 + 1), z, c, s))
theorem T_X11_ready_156  {t0 : Nat} {x1 : Int} {x2 : Option Nat} {x3 : Int} {x5 : Int} {z : Z} {c : Nat} {s : Nat} {P : (Int × Z × Nat × Nat) ⊕ ((Z × Nat × Nat)) → Prop} {post : Option Sv ⊕ String → Hp → Prop} (r_x1 : R32 x1) (r_x3 : R64 x3) (r_x5 : R32 x5) (hw : Wz z)  (hl : ∀ (x5 : Int) (z : Z) (c : Nat) (s : Nat), P (.inl (x5, z, c, s)) → Wz z → R32 x5 → J mX11_ready 12 c s post 91 [some (vr (some t0)), some (ii (x1)), some (vr (x2)), some (ll (x3)), none, some (ii (x5)), none] [] (cz z)) (he0 : ∀ (z : Z) (c : Nat) (s : Nat), P (.inr (z, c, s)) → Wz z → J mX11_ready 12 c s post 162 [some (vr (some t0)), some (ii (x1)), some (vr (x2)), none, none, none, none] [] (cz z)) (H : F_X11_ready_156 t0 x1 x2 x3 x5 z c s P) : J mX11_ready 12 c s (post) 156 [some (vr (some t0)), some (ii (x1)), some (vr (x2)), some (ll (x3)), none, some (ii (x5)), none] [] (cz z) := by
  unfold F_X11_ready_156 at H
  refine jz_iinc (dk dt_X11_ready 79 rfl) rfl ?_
  refine j_goto 91 (dk dt_X11_ready 80 rfl) (by decide) ?_
  exact j_el (hl _ _ _ _ H hw (r32_w _)) (And.intro rfl (And.intro rfl (And.intro rfl (And.intro rfl (And.intro rfl trivial)))))
def L_X11_ready_91  (t0 : Nat) (x1 : Int) (x2 : Option Nat) (x3 : Int) (x5 : Int) (z : Z) (c : Nat) (s : Nat) (P : (Int × Z × Nat × Nat) ⊕ ((Z × Nat × Nat)) → Prop) : Prop :=
  (zK z t0 = 12 ∧ (∃ a_97, zO z t0 2 = some a_97 ∧ zK z a_97 = 3 ∧ (if zI z a_97 4 ≤ x5 then P (.inr (z, c, s)) else F_X2_at a_97 x5 z (fun x_109 => (if x_109 = none then F_X11_ready_156 t0 x1 x2 x3 x5 z c s P else (∃ a_121, x_109 = some a_121 ∧ zK z a_121 = 7 ∧ (if zO z a_121 3 = none then (if lAnd (lShr x3 x5) 1 = 0 then F_X11_ready_156 t0 x1 x2 x3 x5 z c s P else (∃ a_149, zO z a_121 2 = some a_149 ∧ zK z a_149 = 19 ∧ (0 ≤ zN z a_149 ∧ zN z a_149 < (33554432 : Int) ∧ 1 ≤ c ∧ Int.toNat (zN z a_149) ≤ s ∧ ∀ a_150, zK z a_150 = 0 → (∀ z_150, z_150 = nZ z a_150 22 (zN z a_149) → (∃ a_153, zO z t0 3 = some a_153 ∧ zK z_150 a_153 = 10 ∧ (∃ c_153 s_153, c_153 ≤ c - 1 ∧ s_153 ≤ s - Int.toNat (zN z a_149) ∧ F_X9_work a_153 x_109 (some a_150) z_150 c_153 s_153 (fun z_153 => F_X11_ready_156 t0 x1 x2 x3 x5 z_153 ((c - 1) - c_153) ((s - Int.toNat (zN z a_149)) - s_153) P))))))) else F_X11_ready_156 t0 x1 x2 x3 x5 z c s P)))))))
theorem U_X11_ready_91  {t0 : Nat} {x1 : Int} {x2 : Option Nat} {x3 : Int} {x5 : Int} {z : Z} {c : Nat} {s : Nat} {P : (Int × Z × Nat × Nat) ⊕ ((Z × Nat × Nat)) → Prop} {post : Option Sv ⊕ String → Hp → Prop} (r_x1 : R32 x1) (r_x3 : R64 x3) (r_x5 : R32 x5) (hw : Wz z)  (hl : ∀ (x5 : Int) (z : Z) (c : Nat) (s : Nat), P (.inl (x5, z, c, s)) → Wz z → R32 x5 → J mX11_ready 12 c s post 91 [some (vr (some t0)), some (ii (x1)), some (vr (x2)), some (ll (x3)), none, some (ii (x5)), none] [] (cz z)) (he0 : ∀ (z : Z) (c : Nat) (s : Nat), P (.inr (z, c, s)) → Wz z → J mX11_ready 12 c s post 162 [some (vr (some t0)), some (ii (x1)), some (vr (x2)), none, none, none, none] [] (cz z)) (H : L_X11_ready_91 t0 x1 x2 x3 x5 z c s P) : J mX11_ready 12 c s post 91 [some (vr (some t0)), some (ii (x1)), some (vr (x2)), some (ll (x3)), none, some (ii (x5)), none] [] (cz z) := by
  unfold L_X11_ready_91 at H
  refine j_iload (dk dt_X11_ready 48 rfl) rfl ?_
  refine j_aload_n (dk dt_X11_ready 49 rfl) rfl ?_
  obtain ⟨k_94, H⟩ := H
  refine jz_getO (kz := 2) (dk dt_X11_ready 50 rfl) fl_X11_26 rfl rfl rfl k_94 ?_
  obtain ⟨a_97, e_97, k_97, H⟩ := H
  refine jz_getI (kz := 4) (dk dt_X11_ready 51 rfl) fl_X11_243 rfl rfl e_97 k_97 ?_
  refine jz_icmp_ge 162 (dk dt_X11_ready 52 rfl) (by decide) r_x5 (hw.1 _ _) H (fun H => ?_) (fun H => ?_)
  · exact j_el (he0 _ _ _ H hw) (And.intro rfl (And.intro rfl (And.intro rfl trivial)))
  · refine j_aload_n (dk dt_X11_ready 53 rfl) rfl ?_
    refine jz_getO (kz := 2) (dk dt_X11_ready 54 rfl) fl_X11_26 rfl rfl rfl k_94 ?_
    refine j_iload (dk dt_X11_ready 55 rfl) rfl ?_
    refine jz_callV1 (dk dt_X11_ready 56 rfl) vl_X11_269 e_97 (T_X2_at r_x5 hw H) k_97 rfl (by decide) (Nat.zero_le _) (Nat.zero_le _) (Nat.le_of_ble_eq_true rfl) (fun v_109 h_109 P_109 => ?_)
    obtain ⟨x_109, rfl, rfl, H⟩ := P_109
    dsimp only [rs]
    refine j_astore (dk dt_X11_ready 57 rfl) (by decide) ?_
    refine j_aload (dk dt_X11_ready 58 rfl) rfl ?_
    refine jz_ifnull 156 (dk dt_X11_ready 59 rfl) (by decide) H (fun H => ?_) (fun H => ?_)
    · exact j_el (T_X11_ready_156 r_x1 r_x3 r_x5 hw  hl he0 H) (And.intro rfl (And.intro rfl (And.intro rfl (And.intro rfl (And.intro rfl trivial)))))
    · refine j_aload (dk dt_X11_ready 60 rfl) rfl ?_
      obtain ⟨a_121, e_121, k_121, H⟩ := H
      refine jz_getO (kz := 3) (dk dt_X11_ready 61 rfl) fl_X11_404 rfl rfl e_121 k_121 ?_
      refine jz_ifnonnull 156 (dk dt_X11_ready 62 rfl) (by decide) H (fun H => ?_) (fun H => ?_)
      · refine j_lload_n (dk dt_X11_ready 63 rfl) rfl ?_
        refine j_iload (dk dt_X11_ready 64 rfl) rfl ?_
        refine jz_lshr (dk dt_X11_ready 65 rfl) ?_
        refine j_lconst (v := Int64.ofInt 1) (dk dt_X11_ready 66 rfl) (by decide) ?_
        refine jz_land (dk dt_X11_ready 67 rfl) ?_
        refine j_lconst (v := Int64.ofInt 0) (dk dt_X11_ready 68 rfl) (by decide) ?_
        refine jz_lcmp (dk dt_X11_ready 69 rfl) (r64_t _) (by decide) ?_
        refine jz_lif_eq 156 (dk dt_X11_ready 70 rfl) (by decide) H (fun H => ?_) (fun H => ?_)
        · exact j_el (T_X11_ready_156 r_x1 r_x3 r_x5 hw  hl he0 H) (And.intro rfl (And.intro rfl (And.intro rfl (And.intro rfl (And.intro rfl trivial)))))
        · refine j_aload_n (dk dt_X11_ready 71 rfl) rfl ?_
          refine jz_getO (kz := 3) (dk dt_X11_ready 72 rfl) fl_X11_39 rfl rfl rfl k_94 ?_
          refine j_aload (dk dt_X11_ready 73 rfl) rfl ?_
          refine j_aload (dk dt_X11_ready 74 rfl) rfl ?_
          refine jz_getO (kz := 2) (dk dt_X11_ready 75 rfl) fl_X11_451 rfl rfl e_121 k_121 ?_
          obtain ⟨a_149, e_149, k_149, H⟩ := H
          refine jz_alen (t := 5) (dk dt_X11_ready 76 rfl) e_149 k_149 (by decide) hw ?_
          obtain ⟨p_150, q_150, hc_150, hs_150, H⟩ := H
          refine jz_newQ (t := 8) (dk dt_X11_ready 77 rfl) nl_X11_57 ao_8 (by decide) (fun _ => rfl) p_150 q_150 hc_150 hs_150 hw (fun a_150 e_150 w_150 => ?_)
          replace H := H a_150 e_150
          replace H := H _ rfl
          obtain ⟨a_153, e_153, k_153, H⟩ := H
          obtain ⟨c_153, s_153, hc_153, hs_153, H⟩ := H
          refine jz_callV2 (dk dt_X11_ready 78 rfl) vl_X11_455 e_153 (T_X9_work w_150 H) k_153 rfl (by decide) hc_153 hs_153 (Nat.le_of_ble_eq_true rfl) (fun v_153 h_153 P_153 => ?_)
          obtain ⟨z_153, rfl, rfl, w_153, H⟩ := P_153
          dsimp only [rs]
          exact j_el (T_X11_ready_156 r_x1 r_x3 r_x5 w_153  hl he0 H) (And.intro rfl (And.intro rfl (And.intro rfl (And.intro rfl (And.intro rfl trivial)))))
      · exact j_el (T_X11_ready_156 r_x1 r_x3 r_x5 hw  hl he0 H) (And.intro rfl (And.intro rfl (And.intro rfl (And.intro rfl (And.intro rfl trivial)))))
def F_X11_ready_187  (s0 : Option Nat) (s1 : Option Nat) (s2 : Option Nat) (z : Z) (c : Nat) (s : Nat) (P : Z → Prop) : Prop :=
  (∃ a_187, s0 = some a_187 ∧ zK z a_187 = 10 ∧ (∃ c_187 s_187, c_187 ≤ c ∧ s_187 ≤ s ∧ F_X9_work a_187 s1 s2 z c_187 s_187 (fun z_187 => P z_187)))
theorem T_X11_ready_187  {s0 : Option Nat} {s1 : Option Nat} {s2 : Option Nat} {z : Z} {c : Nat} {s : Nat} {P : Z → Prop}  (hw : Wz z)   (H : F_X11_ready_187 s0 s1 s2 z c s P) : J mX11_ready 12 c s (nx (QZV P)) 187 [none, none, none, none, none, none, none] [vr (s2), vr (s1), vr (s0)] (cz z) := by
  unfold F_X11_ready_187 at H
  obtain ⟨a_187, e_187, k_187, H⟩ := H
  obtain ⟨c_187, s_187, hc_187, hs_187, H⟩ := H
  refine jz_callV2 (dk dt_X11_ready 94 rfl) vl_X11_455 e_187 (T_X9_work hw H) k_187 rfl (by decide) hc_187 hs_187 (Nat.le_of_ble_eq_true rfl) (fun v_187 h_187 P_187 => ?_)
  obtain ⟨z_187, rfl, rfl, w_187, H⟩ := P_187
  dsimp only [rs]
  exact j_return (dk dt_X11_ready 95 rfl) rfl ⟨_, rfl, rfl, w_187, H⟩
def F_X11_ready_91  (t0 : Nat) (x1 : Int) (x2 : Option Nat) (x3 : Int) (x5 : Int) (z : Z) (c : Nat) (s : Nat) (P : Z → Prop) : Prop :=
  lp (S := Int × Z × Nat × Nat) (E := (Z × Nat × Nat)) (fun q P_ => L_X11_ready_91 t0 x1 x2 x3 q.1 q.2.1 q.2.2.1 q.2.2.2 P_) (x5, z, c, s) (fun e => match e with | (z, c, s) => (zK z t0 = 12 ∧ (if x1 = (-1) then F_X11_ready_187 (zO z t0 3) x2 (zO z t0 7) z c s P else (∃ a_180, x2 = some a_180 ∧ zK z a_180 = 7 ∧ (∃ a_183, zO z a_180 2 = some a_183 ∧ zK z a_183 = 19 ∧ (0 ≤ zN z a_183 ∧ zN z a_183 < (33554432 : Int) ∧ 1 ≤ c ∧ Int.toNat (zN z a_183) ≤ s ∧ ∀ a_184, zK z a_184 = 0 → (∀ z_184, z_184 = nZ z a_184 22 (zN z a_183) → F_X11_ready_187 (zO z t0 3) x2 (some a_184) z_184 (c - 1) (s - Int.toNat (zN z a_183)) P)))))))
theorem T_X11_ready_91  {t0 : Nat} {x1 : Int} {x2 : Option Nat} {x3 : Int} {x5 : Int} {z : Z} {c : Nat} {s : Nat} {P : Z → Prop} (r_x1 : R32 x1) (r_x3 : R64 x3) (r_x5 : R32 x5) (hw : Wz z)   (H : F_X11_ready_91 t0 x1 x2 x3 x5 z c s P) : J mX11_ready 12 c s (nx (QZV P)) 91 [some (vr (some t0)), some (ii (x1)), some (vr (x2)), some (ll (x3)), none, some (ii (x5)), none] [] (cz z) := by
  unfold F_X11_ready_91 at H
  refine lp_J (G := fun q => Wz (q.2.1) → R32 (q.1) → J mX11_ready 12 (q.2.2.1) (q.2.2.2) (nx (QZV P)) 91 [some (vr (some t0)), some (ii (x1)), some (vr (x2)), some (ll (x3)), none, some (ii ((q.1))), none] [] (cz (q.2.1))) (fun q P_ hl_ he_ Hb => ?_) (x5, z, c, s) H hw r_x5
  obtain ⟨x5, z, c, s⟩ := q
  intro hw r_x5
  refine U_X11_ready_91 (P := P_) r_x1 r_x3 r_x5 hw  (fun x5 z c s Hp hw r_x5 => hl_ (x5, z, c, s) Hp hw r_x5) ?_ Hb
  · intro z c s Hp hw
    have H := he_ _ Hp
    refine j_aload_n (dk dt_X11_ready 81 rfl) rfl ?_
    obtain ⟨k_163, H⟩ := H
    refine jz_getO (kz := 3) (dk dt_X11_ready 82 rfl) fl_X11_39 rfl rfl rfl k_163 ?_
    refine j_aload_n (dk dt_X11_ready 83 rfl) rfl ?_
    refine j_iload_n (dk dt_X11_ready 84 rfl) rfl ?_
    refine j_iconst (v := Int32.ofInt (-1)) (dk dt_X11_ready 85 rfl) (by decide) ?_
    refine jz_icmp_ne 179 (dk dt_X11_ready 86 rfl) (by decide) r_x1 (by decide) H (fun H => ?_) (fun H => ?_)
    · refine j_aload_n (dk dt_X11_ready 87 rfl) rfl ?_
      refine jz_getO (kz := 7) (dk dt_X11_ready 88 rfl) fl_X11_66 rfl rfl rfl k_163 ?_
      refine j_goto 187 (dk dt_X11_ready 89 rfl) (by decide) ?_
      exact j_el (T_X11_ready_187  hw   H) trivial
    · refine j_aload_n (dk dt_X11_ready 90 rfl) rfl ?_
      obtain ⟨a_180, e_180, k_180, H⟩ := H
      refine jz_getO (kz := 2) (dk dt_X11_ready 91 rfl) fl_X11_451 rfl rfl e_180 k_180 ?_
      obtain ⟨a_183, e_183, k_183, H⟩ := H
      refine jz_alen (t := 5) (dk dt_X11_ready 92 rfl) e_183 k_183 (by decide) hw ?_
      obtain ⟨p_184, q_184, hc_184, hs_184, H⟩ := H
      refine jz_newQ (t := 8) (dk dt_X11_ready 93 rfl) nl_X11_57 ao_8 (by decide) (fun _ => rfl) p_184 q_184 hc_184 hs_184 hw (fun a_184 e_184 w_184 => ?_)
      replace H := H a_184 e_184
      replace H := H _ rfl
      exact j_el (T_X11_ready_187  w_184   H) trivial
def F_X11_ready_34  (t0 : Nat) (x1 : Int) (x2 : Option Nat) (x3 : Int) (x5 : Int) (z : Z) (c : Nat) (s : Nat) (P : Z → Prop) : Prop :=
  lp (S := Int × Int) (E := (Int)) (fun q P_ => L_X11_ready_34 t0 x1 x2 q.1 q.2 z c s P_) (x3, x5) (fun (x3 : Int) => F_X11_ready_91 t0 x1 x2 x3 0 z c s P)
theorem T_X11_ready_34  {t0 : Nat} {x1 : Int} {x2 : Option Nat} {x3 : Int} {x5 : Int} {z : Z} {c : Nat} {s : Nat} {P : Z → Prop} (r_x1 : R32 x1) (r_x3 : R64 x3) (r_x5 : R32 x5) (hw : Wz z)   (H : F_X11_ready_34 t0 x1 x2 x3 x5 z c s P) : J mX11_ready 12 c s (nx (QZV P)) 34 [some (vr (some t0)), some (ii (x1)), some (vr (x2)), some (ll (x3)), none, some (ii (x5)), none] [] (cz z) := by
  unfold F_X11_ready_34 at H
  refine lp_J (G := fun q => R64 (q.1) → R32 (q.2) → J mX11_ready 12 c s (nx (QZV P)) 34 [some (vr (some t0)), some (ii (x1)), some (vr (x2)), some (ll ((q.1))), none, some (ii ((q.2))), none] [] (cz z)) (fun q P_ hl_ he_ Hb => ?_) (x3, x5) H r_x3 r_x5
  obtain ⟨x3, x5⟩ := q
  intro r_x3 r_x5
  refine U_X11_ready_34 (P := P_) r_x1 r_x3 r_x5 hw  (fun x3 x5 Hp r_x3 r_x5 => hl_ (x3, x5) Hp r_x3 r_x5) ?_ Hb
  · intro x3 Hp r_x3
    have H := he_ _ Hp
    refine j_iconst (v := Int32.ofInt 0) (dk dt_X11_ready 46 rfl) (by decide) ?_
    refine j_istore (dk dt_X11_ready 47 rfl) (by decide) ?_
    exact j_el (T_X11_ready_91 r_x1 r_x3 (by decide) hw   H) (And.intro rfl (And.intro rfl (And.intro rfl (And.intro rfl (And.intro rfl trivial)))))
def F_X11_ready  (t0 : Nat) (x1 : Int) (z : Z) (c : Nat) (s : Nat) (P : Z → Prop) : Prop :=
  (zK z t0 = 12 ∧ F_X11_sheetOf t0 x1 z (fun x_2 => (if x_2 = none then F_X11_ready_17 z c s P else (∃ a_11, x_2 = some a_11 ∧ zK z a_11 = 7 ∧ (if zO z a_11 3 = none then F_X6_versionsLookedAt a_11 z (fun x_19 => (∃ a_27, zO z t0 2 = some a_27 ∧ zK z a_27 = 3 ∧ F_X11_ready_34 t0 x1 x_2 x_19 (w32 ((zI z a_27 4) - 1)) z c s P)) else F_X11_ready_17 z c s P)))))
theorem T_X11_ready  {t0 : Nat} {x1 : Int} {z : Z} {c : Nat} {s : Nat} {P : Z → Prop} (r_x1 : R32 x1) (hw : Wz z)  (H : F_X11_ready t0 x1 z c s P) : Con mX11_ready 12 c s [vr (some t0), ii (x1)] (cz z) (QZV P) := by
  refine con_of rfl (Nat.le_of_ble_eq_true rfl) (by decide) ?_
  show J mX11_ready 12 c s _ 0 [some (vr (some t0)), some (ii (x1)), none, none, none, none, none] [] (cz z)
  unfold F_X11_ready at H
  refine j_aload_n (dk dt_X11_ready 0 rfl) rfl ?_
  refine j_iload_n (dk dt_X11_ready 1 rfl) rfl ?_
  obtain ⟨k_2, H⟩ := H
  refine jz_callV1 (dk dt_X11_ready 2 rfl) vl_X11_312 rfl (T_X11_sheetOf r_x1 hw H) k_2 rfl (by decide) (Nat.zero_le _) (Nat.zero_le _) (Nat.le_of_ble_eq_true rfl) (fun v_2 h_2 P_2 => ?_)
  obtain ⟨x_2, rfl, rfl, H⟩ := P_2
  dsimp only [rs]
  refine j_astore_n (dk dt_X11_ready 3 rfl) (by decide) ?_
  refine j_aload_n (dk dt_X11_ready 4 rfl) rfl ?_
  refine jz_ifnull 17 (dk dt_X11_ready 5 rfl) (by decide) H (fun H => ?_) (fun H => ?_)
  · exact j_el (T_X11_ready_17  hw   H) trivial
  · refine j_aload_n (dk dt_X11_ready 6 rfl) rfl ?_
    obtain ⟨a_11, e_11, k_11, H⟩ := H
    refine jz_getO (kz := 3) (dk dt_X11_ready 7 rfl) fl_X11_404 rfl rfl e_11 k_11 ?_
    refine jz_ifnull 18 (dk dt_X11_ready 8 rfl) (by decide) H (fun H => ?_) (fun H => ?_)
    · refine j_aload_n (dk dt_X11_ready 10 rfl) rfl ?_
      refine jz_callV0 (dk dt_X11_ready 11 rfl) vl_X11_447 e_11 (T_X6_versionsLookedAt hw H) k_11 rfl (by decide) (Nat.zero_le _) (Nat.zero_le _) (Nat.le_of_ble_eq_true rfl) (fun v_19 h_19 P_19 => ?_)
      obtain ⟨x_19, rfl, r_19, rfl, H⟩ := P_19
      dsimp only [rs]
      refine j_lstore_n (dk dt_X11_ready 12 rfl) (by decide) ?_
      refine j_aload_n (dk dt_X11_ready 13 rfl) rfl ?_
      refine jz_getO (kz := 2) (dk dt_X11_ready 14 rfl) fl_X11_26 rfl rfl rfl k_2 ?_
      obtain ⟨a_27, e_27, k_27, H⟩ := H
      refine jz_getI (kz := 4) (dk dt_X11_ready 15 rfl) fl_X11_243 rfl rfl e_27 k_27 ?_
      refine j_iconst (v := Int32.ofInt 1) (dk dt_X11_ready 16 rfl) (by decide) ?_
      refine jz_isub (dk dt_X11_ready 17 rfl) ?_
      refine j_istore (dk dt_X11_ready 18 rfl) (by decide) ?_
      exact j_el (T_X11_ready_34 r_x1 r_19 (r32_w _) hw   H) (And.intro rfl (And.intro rfl (And.intro rfl (And.intro rfl (And.intro rfl trivial)))))
    · exact j_el (T_X11_ready_17  hw   H) trivial
def F_X11_seen_42  (s0 : Option Nat) (z : Z) (P : Option Nat → Prop) : Prop :=
  P s0
theorem T_X11_seen_42  {s0 : Option Nat} {z : Z} {P : Option Nat → Prop}  (hw : Wz z)   (H : F_X11_seen_42 s0 z P) : J mX11_seen 3 0 0 (nx (QPA (cz z) P)) 42 [none, none, none, none, none, none] [vr (s0)] (cz z) := by
  unfold F_X11_seen_42 at H
  exact j_areturn (dk dt_X11_seen 20 rfl) rfl rfl ⟨_, rfl, rfl, H⟩
def F_X11_seen_26  (t0 : Nat) (s0 : Option Nat) (z : Z) (P : Option Nat → Prop) : Prop :=
  (if s0 = none then (zK z t0 = 12 ∧ F_X11_seen_42 (zO z t0 6) z P) else F_X11_seen_42 s0 z P)
theorem T_X11_seen_26  {t0 : Nat} {s0 : Option Nat} {z : Z} {P : Option Nat → Prop}  (hw : Wz z)   (H : F_X11_seen_26 t0 s0 z P) : J mX11_seen 3 0 0 (nx (QPA (cz z) P)) 26 [some (vr (some t0)), none, none, none, none, none] [vr (s0)] (cz z) := by
  unfold F_X11_seen_26 at H
  refine j_astore (dk dt_X11_seen 13 rfl) (by decide) ?_
  refine j_aload (dk dt_X11_seen 14 rfl) rfl ?_
  refine jz_ifnull 38 (dk dt_X11_seen 15 rfl) (by decide) H (fun H => ?_) (fun H => ?_)
  · refine j_aload_n (dk dt_X11_seen 18 rfl) rfl ?_
    obtain ⟨k_39, H⟩ := H
    refine jz_getO (kz := 6) (dk dt_X11_seen 19 rfl) fl_X11_62 rfl rfl rfl k_39 ?_
    exact j_el (T_X11_seen_42  hw   H) trivial
  · refine j_aload (dk dt_X11_seen 16 rfl) rfl ?_
    refine j_goto 42 (dk dt_X11_seen 17 rfl) (by decide) ?_
    exact j_el (T_X11_seen_42  hw   H) trivial
def F_X11_seen  (t0 : Nat) (x1 : Int) (x2 : Int) (x3 : Int) (z : Z) (P : Option Nat → Prop) : Prop :=
  (zK z t0 = 12 ∧ F_X11_sheetOf t0 x1 z (fun x_2 => (if x_2 = none then F_X11_seen_26 t0 (zO z t0 6) z P else (∃ a_16, x_2 = some a_16 ∧ zK z a_16 = 7 ∧ F_X6_valueAt a_16 x2 x3 z (fun x_16 => F_X11_seen_26 t0 x_16 z P)))))
theorem T_X11_seen  {t0 : Nat} {x1 : Int} {x2 : Int} {x3 : Int} {z : Z} {P : Option Nat → Prop} (r_x1 : R32 x1) (r_x2 : R32 x2) (r_x3 : R32 x3) (hw : Wz z)  (H : F_X11_seen t0 x1 x2 x3 z P) : Con mX11_seen 3 0 0 [vr (some t0), ii (x1), ii (x2), ii (x3)] (cz z) (QPA (cz z) P) := by
  refine con_of rfl (Nat.le_of_ble_eq_true rfl) (by decide) ?_
  show J mX11_seen 3 0 0 _ 0 [some (vr (some t0)), some (ii (x1)), some (ii (x2)), some (ii (x3)), none, none] [] (cz z)
  unfold F_X11_seen at H
  refine j_aload_n (dk dt_X11_seen 0 rfl) rfl ?_
  refine j_iload_n (dk dt_X11_seen 1 rfl) rfl ?_
  obtain ⟨k_2, H⟩ := H
  refine jz_callV1 (dk dt_X11_seen 2 rfl) vl_X11_312 rfl (T_X11_sheetOf r_x1 hw H) k_2 rfl (by decide) (Nat.zero_le _) (Nat.zero_le _) (Nat.le_of_ble_eq_true rfl) (fun v_2 h_2 P_2 => ?_)
  obtain ⟨x_2, rfl, rfl, H⟩ := P_2
  dsimp only [rs]
  refine j_astore (dk dt_X11_seen 3 rfl) (by decide) ?_
  refine j_aload (dk dt_X11_seen 4 rfl) rfl ?_
  refine jz_ifnull 22 (dk dt_X11_seen 5 rfl) (by decide) H (fun H => ?_) (fun H => ?_)
  · refine j_aload_n (dk dt_X11_seen 11 rfl) rfl ?_
    refine jz_getO (kz := 6) (dk dt_X11_seen 12 rfl) fl_X11_62 rfl rfl rfl k_2 ?_
    exact j_el (T_X11_seen_26  hw   H) (And.intro rfl trivial)
  · refine j_aload (dk dt_X11_seen 6 rfl) rfl ?_
    refine j_iload_n (dk dt_X11_seen 7 rfl) rfl ?_
    refine j_iload_n (dk dt_X11_seen 8 rfl) rfl ?_
    obtain ⟨a_16, e_16, k_16, H⟩ := H
    refine jz_callV2 (dk dt_X11_seen 9 rfl) vl_X11_459 e_16 (T_X6_valueAt r_x2 r_x3 hw H) k_16 rfl (by decide) (Nat.zero_le _) (Nat.zero_le _) (Nat.le_of_ble_eq_true rfl) (fun v_16 h_16 P_16 => ?_)
    obtain ⟨x_16, rfl, rfl, H⟩ := P_16
    dsimp only [rs]
    refine j_goto 26 (dk dt_X11_seen 10 rfl) (by decide) ?_
    exact j_el (T_X11_seen_26  hw   H) (And.intro rfl trivial)
def F_X11_kind  (t0 : Nat) (x1 : Int) (x2 : Int) (x3 : Int) (z : Z) (c : Nat) (s : Nat) (P : Int → Z → Prop) : Prop :=
  (zK z t0 = 12 ∧ F_X11_isCell t0 x1 x2 x3 z (fun x_4 => (if x_4 = 0 then P (-1) z else (∃ c_14 s_14, c_14 ≤ c ∧ s_14 ≤ s ∧ F_X11_ready t0 x1 z c_14 s_14 (fun z_14 => (zK z_14 t0 = 12 ∧ F_X11_seen t0 x1 x2 x3 z_14 (fun x_21 => (∃ a_24, x_21 = some a_24 ∧ zK z_14 a_24 = 9 ∧ P (zI z_14 a_24 1) z_14))))))))
theorem T_X11_kind  {t0 : Nat} {x1 : Int} {x2 : Int} {x3 : Int} {z : Z} {c : Nat} {s : Nat} {P : Int → Z → Prop} (r_x1 : R32 x1) (r_x2 : R32 x2) (r_x3 : R32 x3) (hw : Wz z)  (H : F_X11_kind t0 x1 x2 x3 z c s P) : Con mX11_kind 13 c s [vr (some t0), ii (x1), ii (x2), ii (x3)] (cz z) (QZI P) := by
  refine con_of rfl (Nat.le_of_ble_eq_true rfl) (by decide) ?_
  show J mX11_kind 13 c s _ 0 [some (vr (some t0)), some (ii (x1)), some (ii (x2)), some (ii (x3))] [] (cz z)
  unfold F_X11_kind at H
  refine j_aload_n (dk dt_X11_kind 0 rfl) rfl ?_
  refine j_iload_n (dk dt_X11_kind 1 rfl) rfl ?_
  refine j_iload_n (dk dt_X11_kind 2 rfl) rfl ?_
  refine j_iload_n (dk dt_X11_kind 3 rfl) rfl ?_
  obtain ⟨k_4, H⟩ := H
  refine jz_callV3 (dk dt_X11_kind 4 rfl) vl_X11_341 rfl (T_X11_isCell r_x1 r_x2 r_x3 hw H) k_4 rfl (by decide) (Nat.zero_le _) (Nat.zero_le _) (Nat.le_of_ble_eq_true rfl) (fun v_4 h_4 P_4 => ?_)
  obtain ⟨x_4, rfl, r_4, rfl, H⟩ := P_4
  dsimp only [rs]
  refine jz_if_ne 12 (dk dt_X11_kind 5 rfl) (by decide) r_4 H (fun H => ?_) (fun H => ?_)
  · refine j_iconst (v := Int32.ofInt (-1)) (dk dt_X11_kind 6 rfl) (by decide) ?_
    exact j_ireturn (dk dt_X11_kind 7 rfl) rfl rfl ⟨_, _, rfl, (by decide), rfl, hw, H⟩
  · refine j_aload_n (dk dt_X11_kind 8 rfl) rfl ?_
    refine j_iload_n (dk dt_X11_kind 9 rfl) rfl ?_
    obtain ⟨c_14, s_14, hc_14, hs_14, H⟩ := H
    refine jz_callV1 (dk dt_X11_kind 10 rfl) vl_X11_208 rfl (T_X11_ready r_x1 hw H) k_4 rfl (by decide) hc_14 hs_14 (Nat.le_of_ble_eq_true rfl) (fun v_14 h_14 P_14 => ?_)
    obtain ⟨z_14, rfl, rfl, w_14, H⟩ := P_14
    dsimp only [rs]
    refine j_aload_n (dk dt_X11_kind 11 rfl) rfl ?_
    refine j_iload_n (dk dt_X11_kind 12 rfl) rfl ?_
    refine j_iload_n (dk dt_X11_kind 13 rfl) rfl ?_
    refine j_iload_n (dk dt_X11_kind 14 rfl) rfl ?_
    obtain ⟨k_21, H⟩ := H
    refine jz_callV3 (dk dt_X11_kind 15 rfl) vl_X11_345 rfl (T_X11_seen r_x1 r_x2 r_x3 w_14 H) k_21 rfl (by decide) (Nat.zero_le _) (Nat.zero_le _) (Nat.le_of_ble_eq_true rfl) (fun v_21 h_21 P_21 => ?_)
    obtain ⟨x_21, rfl, rfl, H⟩ := P_21
    dsimp only [rs]
    obtain ⟨a_24, e_24, k_24, H⟩ := H
    refine jz_getI (kz := 1) (dk dt_X11_kind 16 rfl) fl_X11_349 rfl rfl e_24 k_24 ?_
    exact j_ireturn (dk dt_X11_kind 17 rfl) rfl rfl ⟨_, _, rfl, (w_14.1 _ _), rfl, w_14, H⟩
def F_X11_letter_75  (s0 : Int) (z : Z) (c : Nat) (s : Nat) (P : Int → Z → Prop) : Prop :=
  P s0 z
theorem T_X11_letter_75  {s0 : Int} {z : Z} {c : Nat} {s : Nat} {P : Int → Z → Prop} (r_s0 : R32 s0) (hw : Wz z)   (H : F_X11_letter_75 s0 z c s P) : J mX11_letter 13 c s (nx (QZI P)) 75 [none, none, none, none, none, none] [ii (s0)] (cz z) := by
  unfold F_X11_letter_75 at H
  exact j_ireturn (dk dt_X11_letter 40 rfl) rfl rfl ⟨_, _, rfl, r_s0, rfl, hw, H⟩
def F_X11_letter_74  (z : Z) (c : Nat) (s : Nat) (P : Int → Z → Prop) : Prop :=
  F_X11_letter_75 (-1) z c s P
theorem T_X11_letter_74  {z : Z} {c : Nat} {s : Nat} {P : Int → Z → Prop}  (hw : Wz z)   (H : F_X11_letter_74 z c s P) : J mX11_letter 13 c s (nx (QZI P)) 74 [none, none, none, none, none, none] [] (cz z) := by
  unfold F_X11_letter_74 at H
  refine j_iconst (v := Int32.ofInt (-1)) (dk dt_X11_letter 39 rfl) (by decide) ?_
  exact j_el (T_X11_letter_75 (by decide) hw   H) trivial
def F_X11_letter  (t0 : Nat) (x1 : Int) (x2 : Int) (x3 : Int) (x4 : Int) (z : Z) (c : Nat) (s : Nat) (P : Int → Z → Prop) : Prop :=
  (zK z t0 = 12 ∧ F_X11_isCell t0 x1 x2 x3 z (fun x_4 => (if x_4 = 0 then P (-1) z else (∃ c_14 s_14, c_14 ≤ c ∧ s_14 ≤ s ∧ F_X11_ready t0 x1 z c_14 s_14 (fun z_14 => (zK z_14 t0 = 12 ∧ F_X11_seen t0 x1 x2 x3 z_14 (fun x_21 => (∃ a_28, x_21 = some a_28 ∧ zK z_14 a_28 = 9 ∧ (if zI z_14 a_28 1 = 2 then (if x4 < 0 then F_X11_letter_74 z_14 (c - c_14) (s - s_14) P else (if zG z_14 a_28 2 ≤ x4 then F_X11_letter_74 z_14 (c - c_14) (s - s_14) P else (∃ a_59, zO z_14 a_28 0 = some a_59 ∧ zK z_14 a_59 = 14 ∧ (if zN z_14 a_59 ≤ x4 then F_X11_letter_74 z_14 (c - c_14) (s - s_14) P else (0 ≤ x4 ∧ x4 < zN z_14 a_59 ∧ F_X11_letter_75 (zI z_14 a_59 x4) z_14 (c - c_14) (s - s_14) P))))) else F_X11_letter_74 z_14 (c - c_14) (s - s_14) P)))))))))
theorem T_X11_letter  {t0 : Nat} {x1 : Int} {x2 : Int} {x3 : Int} {x4 : Int} {z : Z} {c : Nat} {s : Nat} {P : Int → Z → Prop} (r_x1 : R32 x1) (r_x2 : R32 x2) (r_x3 : R32 x3) (r_x4 : R32 x4) (hw : Wz z)  (H : F_X11_letter t0 x1 x2 x3 x4 z c s P) : Con mX11_letter 13 c s [vr (some t0), ii (x1), ii (x2), ii (x3), ii (x4)] (cz z) (QZI P) := by
  refine con_of rfl (Nat.le_of_ble_eq_true rfl) (by decide) ?_
  show J mX11_letter 13 c s _ 0 [some (vr (some t0)), some (ii (x1)), some (ii (x2)), some (ii (x3)), some (ii (x4)), none] [] (cz z)
  unfold F_X11_letter at H
  refine j_aload_n (dk dt_X11_letter 0 rfl) rfl ?_
  refine j_iload_n (dk dt_X11_letter 1 rfl) rfl ?_
  refine j_iload_n (dk dt_X11_letter 2 rfl) rfl ?_
  refine j_iload_n (dk dt_X11_letter 3 rfl) rfl ?_
  obtain ⟨k_4, H⟩ := H
  refine jz_callV3 (dk dt_X11_letter 4 rfl) vl_X11_341 rfl (T_X11_isCell r_x1 r_x2 r_x3 hw H) k_4 rfl (by decide) (Nat.zero_le _) (Nat.zero_le _) (Nat.le_of_ble_eq_true rfl) (fun v_4 h_4 P_4 => ?_)
  obtain ⟨x_4, rfl, r_4, rfl, H⟩ := P_4
  dsimp only [rs]
  refine jz_if_ne 12 (dk dt_X11_letter 5 rfl) (by decide) r_4 H (fun H => ?_) (fun H => ?_)
  · refine j_iconst (v := Int32.ofInt (-1)) (dk dt_X11_letter 6 rfl) (by decide) ?_
    exact j_ireturn (dk dt_X11_letter 7 rfl) rfl rfl ⟨_, _, rfl, (by decide), rfl, hw, H⟩
  · refine j_aload_n (dk dt_X11_letter 8 rfl) rfl ?_
    refine j_iload_n (dk dt_X11_letter 9 rfl) rfl ?_
    obtain ⟨c_14, s_14, hc_14, hs_14, H⟩ := H
    refine jz_callV1 (dk dt_X11_letter 10 rfl) vl_X11_208 rfl (T_X11_ready r_x1 hw H) k_4 rfl (by decide) hc_14 hs_14 (Nat.le_of_ble_eq_true rfl) (fun v_14 h_14 P_14 => ?_)
    obtain ⟨z_14, rfl, rfl, w_14, H⟩ := P_14
    dsimp only [rs]
    refine j_aload_n (dk dt_X11_letter 11 rfl) rfl ?_
    refine j_iload_n (dk dt_X11_letter 12 rfl) rfl ?_
    refine j_iload_n (dk dt_X11_letter 13 rfl) rfl ?_
    refine j_iload_n (dk dt_X11_letter 14 rfl) rfl ?_
    obtain ⟨k_21, H⟩ := H
    refine jz_callV3 (dk dt_X11_letter 15 rfl) vl_X11_345 rfl (T_X11_seen r_x1 r_x2 r_x3 w_14 H) k_21 rfl (by decide) (Nat.zero_le _) (Nat.zero_le _) (Nat.le_of_ble_eq_true rfl) (fun v_21 h_21 P_21 => ?_)
    obtain ⟨x_21, rfl, rfl, H⟩ := P_21
    dsimp only [rs]
    refine j_astore (dk dt_X11_letter 16 rfl) (by decide) ?_
    refine j_aload (dk dt_X11_letter 17 rfl) rfl ?_
    obtain ⟨a_28, e_28, k_28, H⟩ := H
    refine jz_getI (kz := 1) (dk dt_X11_letter 18 rfl) fl_X11_349 rfl rfl e_28 k_28 ?_
    refine j_iconst (v := Int32.ofInt 2) (dk dt_X11_letter 19 rfl) (by decide) ?_
    refine jz_icmp_ne 74 (dk dt_X11_letter 20 rfl) (by decide) (w_14.1 _ _) (by decide) H (fun H => ?_) (fun H => ?_)
    · refine j_iload (dk dt_X11_letter 21 rfl) rfl ?_
      refine jz_if_lt 74 (dk dt_X11_letter 22 rfl) (by decide) r_x4 H (fun H => ?_) (fun H => ?_)
      · exact j_el (T_X11_letter_74  w_14   H) trivial
      · refine j_iload (dk dt_X11_letter 23 rfl) rfl ?_
        refine jz_i2l (dk dt_X11_letter 24 rfl) r_x4 ?_
        refine j_aload (dk dt_X11_letter 25 rfl) rfl ?_
        refine jz_getG (kz := 2) (dk dt_X11_letter 26 rfl) fl_X11_350 rfl rfl e_28 k_28 ?_
        refine jz_lcmp (dk dt_X11_letter 27 rfl) (r64_3 r_x4) (w_14.2.1 _ _) ?_
        refine jz_lif_ge 74 (dk dt_X11_letter 28 rfl) (by decide) H (fun H => ?_) (fun H => ?_)
        · exact j_el (T_X11_letter_74  w_14   H) trivial
        · refine j_iload (dk dt_X11_letter 29 rfl) rfl ?_
          refine j_aload (dk dt_X11_letter 30 rfl) rfl ?_
          refine jz_getO (kz := 0) (dk dt_X11_letter 31 rfl) fl_X11_354 rfl rfl e_28 k_28 ?_
          obtain ⟨a_59, e_59, k_59, H⟩ := H
          refine jz_alen (t := 0) (dk dt_X11_letter 32 rfl) e_59 k_59 (by decide) w_14 ?_
          refine jz_icmp_ge 74 (dk dt_X11_letter 33 rfl) (by decide) r_x4 (r32_len w_14 _) H (fun H => ?_) (fun H => ?_)
          · exact j_el (T_X11_letter_74  w_14   H) trivial
          · refine j_aload (dk dt_X11_letter 34 rfl) rfl ?_
            refine jz_getO (kz := 0) (dk dt_X11_letter 35 rfl) fl_X11_354 rfl rfl e_28 k_28 ?_
            refine j_iload (dk dt_X11_letter 36 rfl) rfl ?_
            obtain ⟨p_70, q_70, H⟩ := H
            refine jz_bald (dk dt_X11_letter 37 rfl) e_59 k_59 p_70 q_70 w_14 ?_
            refine j_goto 75 (dk dt_X11_letter 38 rfl) (by decide) ?_
            exact j_el (T_X11_letter_75 (w_14.1 _ _) w_14   H) trivial
    · exact j_el (T_X11_letter_74  w_14   H) trivial
def F_X11_showJoined  (t0 : Nat) (x1 : Option Nat) (z : Z) (P : Z → Prop) : Prop :=
  (zK z t0 = 12 ∧ (∀ z_7, z_7 = wI z t0 15 (w32 (zI z t0 15 + 1)) → (∃ a_14, zO z_7 t0 5 = some a_14 ∧ zK z_7 a_14 = 8 ∧ F_X7_forget a_14 z_7 (fun z_14 => (zK z_14 t0 = 12 ∧ F_X11_show t0 x1 z_14 (fun z_19 => P z_19))))))
theorem T_X11_showJoined  {t0 : Nat} {x1 : Option Nat} {z : Z} {P : Z → Prop}  (hw : Wz z)  (H : F_X11_showJoined t0 x1 z P) : Con mX11_showJoined 2 0 0 [vr (some t0), vr (x1)] (cz z) (QZV P) := by
  refine con_of rfl (Nat.le_of_ble_eq_true rfl) (by decide) ?_
  show J mX11_showJoined 2 0 0 _ 0 [some (vr (some t0)), some (vr (x1))] [] (cz z)
  unfold F_X11_showJoined at H
  refine j_aload_n (dk dt_X11_showJoined 0 rfl) rfl ?_
  refine j_dup (dk dt_X11_showJoined 1 rfl) rfl ?_
  obtain ⟨k_2, H⟩ := H
  refine jz_getI (kz := 15) (dk dt_X11_showJoined 2 rfl) fl_X11_272 rfl rfl rfl k_2 ?_
  refine j_iconst (v := Int32.ofInt 1) (dk dt_X11_showJoined 3 rfl) (by decide) ?_
  refine jz_iadd (dk dt_X11_showJoined 4 rfl) ?_
  refine jz_putI (kz := 15) (dk dt_X11_showJoined 5 rfl) fl_X11_272 rfl rfl rfl rfl rfl k_2 hw (r32_w _) (fun w_7 => ?_)
  replace H := H _ rfl
  refine j_aload_n (dk dt_X11_showJoined 6 rfl) rfl ?_
  refine jz_getO (kz := 5) (dk dt_X11_showJoined 7 rfl) fl_X11_53 rfl rfl rfl k_2 ?_
  obtain ⟨a_14, e_14, k_14, H⟩ := H
  refine jz_callV0 (dk dt_X11_showJoined 8 rfl) vl_X11_266 e_14 (T_X7_forget w_7 H) k_14 rfl (by decide) (Nat.zero_le _) (Nat.zero_le _) (Nat.le_of_ble_eq_true rfl) (fun v_14 h_14 P_14 => ?_)
  obtain ⟨z_14, rfl, rfl, w_14, H⟩ := P_14
  dsimp only [rs]
  refine j_aload_n (dk dt_X11_showJoined 9 rfl) rfl ?_
  refine j_aload_n (dk dt_X11_showJoined 10 rfl) rfl ?_
  obtain ⟨k_19, H⟩ := H
  refine jz_callV1 (dk dt_X11_showJoined 11 rfl) vl_X11_230 rfl (T_X11_show w_14 H) k_19 rfl (by decide) (Nat.zero_le _) (Nat.zero_le _) (Nat.le_of_ble_eq_true rfl) (fun v_19 h_19 P_19 => ?_)
  obtain ⟨z_19, rfl, rfl, w_19, H⟩ := P_19
  dsimp only [rs]
  exact j_return (dk dt_X11_showJoined 12 rfl) rfl ⟨_, rfl, rfl, w_19, H⟩
def F_X3_note_32  (z : Z) (P : Z → Prop) : Prop :=
  P z
theorem T_X3_note_32  {z : Z} {P : Z → Prop}  (hw : Wz z)   (H : F_X3_note_32 z P) : J mX3_note 1 0 0 (nx (QZV P)) 32 [none, none] [] (cz z) := by
  unfold F_X3_note_32 at H
  exact j_return (dk dt_X3_note 18 rfl) rfl ⟨_, rfl, rfl, hw, H⟩
def F_X3_note  (t0 : Nat) (x1 : Option Nat) (z : Z) (P : Z → Prop) : Prop :=
  (zK z t0 = 4 ∧ (∃ a_8, zO z t0 0 = some a_8 ∧ zK z a_8 = 18 ∧ (if zN z a_8 ≤ zI z t0 2 then F_X3_note_32 z P else (0 ≤ zI z t0 2 ∧ zI z t0 2 < zN z a_8 ∧ ((∀ v, x1 = some v → zK z v = 1) ∧ (∀ z_21, z_21 = wO z a_8 (zI z t0 2) x1 → (∀ z_29, z_29 = wI z_21 t0 2 (w32 (zI z_21 t0 2 + 1)) → F_X3_note_32 z_29 P)))))))
theorem T_X3_note  {t0 : Nat} {x1 : Option Nat} {z : Z} {P : Z → Prop}  (hw : Wz z)  (H : F_X3_note t0 x1 z P) : Con mX3_note 1 0 0 [vr (some t0), vr (x1)] (cz z) (QZV P) := by
  refine con_of rfl (Nat.le_of_ble_eq_true rfl) (by decide) ?_
  show J mX3_note 1 0 0 _ 0 [some (vr (some t0)), some (vr (x1))] [] (cz z)
  unfold F_X3_note at H
  refine j_aload_n (dk dt_X3_note 0 rfl) rfl ?_
  obtain ⟨k_1, H⟩ := H
  refine jz_getI (kz := 2) (dk dt_X3_note 1 rfl) fl_X3_21 rfl rfl rfl k_1 ?_
  refine j_aload_n (dk dt_X3_note 2 rfl) rfl ?_
  refine jz_getO (kz := 0) (dk dt_X3_note 3 rfl) fl_X3_11 rfl rfl rfl k_1 ?_
  obtain ⟨a_8, e_8, k_8, H⟩ := H
  refine jz_alen (t := 4) (dk dt_X3_note 4 rfl) e_8 k_8 (by decide) hw ?_
  refine jz_icmp_ge 32 (dk dt_X3_note 5 rfl) (by decide) (hw.1 _ _) (r32_len hw _) H (fun H => ?_) (fun H => ?_)
  · exact j_el (T_X3_note_32  hw   H) trivial
  · refine j_aload_n (dk dt_X3_note 6 rfl) rfl ?_
    refine jz_getO (kz := 0) (dk dt_X3_note 7 rfl) fl_X3_11 rfl rfl rfl k_1 ?_
    refine j_aload_n (dk dt_X3_note 8 rfl) rfl ?_
    refine jz_getI (kz := 2) (dk dt_X3_note 9 rfl) fl_X3_21 rfl rfl rfl k_1 ?_
    refine j_aload_n (dk dt_X3_note 10 rfl) rfl ?_
    obtain ⟨p_21, q_21, H⟩ := H
    obtain ⟨v_21, H⟩ := H
    refine jz_aast (t := 4) (dk dt_X3_note 11 rfl) e_8 k_8 (by decide) (by decide) p_21 q_21 hw v_21 (fun w_21 => ?_)
    replace H := H _ rfl
    refine j_aload_n (dk dt_X3_note 12 rfl) rfl ?_
    refine j_dup (dk dt_X3_note 13 rfl) rfl ?_
    refine jz_getI (kz := 2) (dk dt_X3_note 14 rfl) fl_X3_21 rfl rfl rfl k_1 ?_
    refine j_iconst (v := Int32.ofInt 1) (dk dt_X3_note 15 rfl) (by decide) ?_
    refine jz_iadd (dk dt_X3_note 16 rfl) ?_
    refine jz_putI (kz := 2) (dk dt_X3_note 17 rfl) fl_X3_21 rfl rfl rfl rfl rfl k_1 w_21 (r32_w _) (fun w_29 => ?_)
    replace H := H _ rfl
    exact j_el (T_X3_note_32  w_29   H) trivial
def F_X3_joinedCell_80  (x3 : Option Nat) (z : Z) (c : Nat) (s : Nat) (P : Option Nat → Z → Prop) : Prop :=
  P x3 z
theorem T_X3_joinedCell_80  {x3 : Option Nat} {z : Z} {c : Nat} {s : Nat} {P : Option Nat → Z → Prop}  (hw : Wz z)   (H : F_X3_joinedCell_80 x3 z c s P) : J mX3_joinedCell 5 c s (nx (QZA P)) 80 [none, none, none, some (vr (x3)), none, none] [] (cz z) := by
  unfold F_X3_joinedCell_80 at H
  refine j_aload_n (dk dt_X3_joinedCell 42 rfl) rfl ?_
  exact j_areturn (dk dt_X3_joinedCell 43 rfl) rfl rfl ⟨_, _, rfl, rfl, hw, H⟩
def F_X3_joinedCell  (t0 : Nat) (x1 : Int) (x2 : Int) (z : Z) (c : Nat) (s : Nat) (P : Option Nat → Z → Prop) : Prop :=
  (zK z t0 = 4 ∧ (∃ a_6, zO z t0 3 = some a_6 ∧ zK z a_6 = 7 ∧ F_X6_of a_6 x1 x2 z (fun x_6 => (∃ a_16, zO z t0 4 = some a_16 ∧ zK z a_16 = 7 ∧ F_X6_of a_16 x1 x2 z (fun x_16 => F_X6_knows a_16 x1 x2 z (fun x_27 => (if x_27 = 0 then P x_6 z else F_X6_knows a_6 x1 x2 z (fun x_41 => (if x_41 = 0 then P x_16 z else (∃ a_56, zO z t0 5 = some a_56 ∧ zK z a_56 = 7 ∧ F_X6_of a_56 x1 x2 z (fun x_56 => F_X1_alike x_16 x_56 z (fun x_65 => (if x_65 = 0 then F_X1_alike x_6 x_16 z (fun x_74 => (if x_74 = 0 then F_X1_alike x_6 x_56 z (fun x_85 => (if x_85 = 0 then (1 ≤ c ∧ 7 ≤ s ∧ ∀ a_92, zK z a_92 = 0 → (∀ z_92, z_92 = nZ z a_92 1 0 → F_X0_init a_92 3 x1 x2 1 x_6 x_16 z_92 (fun z_103 => (zK z_103 t0 = 4 ∧ F_X3_note t0 (some a_92) z_103 (fun z_106 => P x_6 z_106))))) else P x_16 z)) else F_X3_joinedCell_80 x_6 z c s P)) else F_X3_joinedCell_80 x_6 z c s P)))))))))))))
theorem T_X3_joinedCell  {t0 : Nat} {x1 : Int} {x2 : Int} {z : Z} {c : Nat} {s : Nat} {P : Option Nat → Z → Prop} (r_x1 : R32 x1) (r_x2 : R32 x2) (hw : Wz z)  (H : F_X3_joinedCell t0 x1 x2 z c s P) : Con mX3_joinedCell 5 c s [vr (some t0), ii (x1), ii (x2)] (cz z) (QZA P) := by
  refine con_of rfl (Nat.le_of_ble_eq_true rfl) (by decide) ?_
  show J mX3_joinedCell 5 c s _ 0 [some (vr (some t0)), some (ii (x1)), some (ii (x2)), none, none, none] [] (cz z)
  unfold F_X3_joinedCell at H
  refine j_aload_n (dk dt_X3_joinedCell 0 rfl) rfl ?_
  obtain ⟨k_1, H⟩ := H
  refine jz_getO (kz := 3) (dk dt_X3_joinedCell 1 rfl) fl_X3_29 rfl rfl rfl k_1 ?_
  refine j_iload_n (dk dt_X3_joinedCell 2 rfl) rfl ?_
  refine j_iload_n (dk dt_X3_joinedCell 3 rfl) rfl ?_
  obtain ⟨a_6, e_6, k_6, H⟩ := H
  refine jz_callV2 (dk dt_X3_joinedCell 4 rfl) vl_X3_88 e_6 (T_X6_of r_x1 r_x2 hw H) k_6 rfl (by decide) (Nat.zero_le _) (Nat.zero_le _) (Nat.le_of_ble_eq_true rfl) (fun v_6 h_6 P_6 => ?_)
  obtain ⟨x_6, rfl, rfl, H⟩ := P_6
  dsimp only [rs]
  refine j_astore_n (dk dt_X3_joinedCell 5 rfl) (by decide) ?_
  refine j_aload_n (dk dt_X3_joinedCell 6 rfl) rfl ?_
  refine jz_getO (kz := 4) (dk dt_X3_joinedCell 7 rfl) fl_X3_33 rfl rfl rfl k_1 ?_
  refine j_iload_n (dk dt_X3_joinedCell 8 rfl) rfl ?_
  refine j_iload_n (dk dt_X3_joinedCell 9 rfl) rfl ?_
  obtain ⟨a_16, e_16, k_16, H⟩ := H
  refine jz_callV2 (dk dt_X3_joinedCell 10 rfl) vl_X3_88 e_16 (T_X6_of r_x1 r_x2 hw H) k_16 rfl (by decide) (Nat.zero_le _) (Nat.zero_le _) (Nat.le_of_ble_eq_true rfl) (fun v_16 h_16 P_16 => ?_)
  obtain ⟨x_16, rfl, rfl, H⟩ := P_16
  dsimp only [rs]
  refine j_astore (dk dt_X3_joinedCell 11 rfl) (by decide) ?_
  refine j_aload_n (dk dt_X3_joinedCell 12 rfl) rfl ?_
  refine jz_getO (kz := 4) (dk dt_X3_joinedCell 13 rfl) fl_X3_33 rfl rfl rfl k_1 ?_
  refine j_iload_n (dk dt_X3_joinedCell 14 rfl) rfl ?_
  refine j_iload_n (dk dt_X3_joinedCell 15 rfl) rfl ?_
  refine jz_callV2 (dk dt_X3_joinedCell 16 rfl) vl_X3_104 e_16 (T_X6_knows r_x1 r_x2 hw H) k_16 rfl (by decide) (Nat.zero_le _) (Nat.zero_le _) (Nat.le_of_ble_eq_true rfl) (fun v_27 h_27 P_27 => ?_)
  obtain ⟨x_27, rfl, r_27, rfl, H⟩ := P_27
  dsimp only [rs]
  refine jz_if_ne 35 (dk dt_X3_joinedCell 17 rfl) (by decide) r_27 H (fun H => ?_) (fun H => ?_)
  · refine j_aload_n (dk dt_X3_joinedCell 18 rfl) rfl ?_
    exact j_areturn (dk dt_X3_joinedCell 19 rfl) rfl rfl ⟨_, _, rfl, rfl, hw, H⟩
  · refine j_aload_n (dk dt_X3_joinedCell 20 rfl) rfl ?_
    refine jz_getO (kz := 3) (dk dt_X3_joinedCell 21 rfl) fl_X3_29 rfl rfl rfl k_1 ?_
    refine j_iload_n (dk dt_X3_joinedCell 22 rfl) rfl ?_
    refine j_iload_n (dk dt_X3_joinedCell 23 rfl) rfl ?_
    refine jz_callV2 (dk dt_X3_joinedCell 24 rfl) vl_X3_104 e_6 (T_X6_knows r_x1 r_x2 hw H) k_6 rfl (by decide) (Nat.zero_le _) (Nat.zero_le _) (Nat.le_of_ble_eq_true rfl) (fun v_41 h_41 P_41 => ?_)
    obtain ⟨x_41, rfl, r_41, rfl, H⟩ := P_41
    dsimp only [rs]
    refine jz_if_ne 50 (dk dt_X3_joinedCell 25 rfl) (by decide) r_41 H (fun H => ?_) (fun H => ?_)
    · refine j_aload (dk dt_X3_joinedCell 26 rfl) rfl ?_
      exact j_areturn (dk dt_X3_joinedCell 27 rfl) rfl rfl ⟨_, _, rfl, rfl, hw, H⟩
    · refine j_aload_n (dk dt_X3_joinedCell 28 rfl) rfl ?_
      refine jz_getO (kz := 5) (dk dt_X3_joinedCell 29 rfl) fl_X3_36 rfl rfl rfl k_1 ?_
      refine j_iload_n (dk dt_X3_joinedCell 30 rfl) rfl ?_
      refine j_iload_n (dk dt_X3_joinedCell 31 rfl) rfl ?_
      obtain ⟨a_56, e_56, k_56, H⟩ := H
      refine jz_callV2 (dk dt_X3_joinedCell 32 rfl) vl_X3_88 e_56 (T_X6_of r_x1 r_x2 hw H) k_56 rfl (by decide) (Nat.zero_le _) (Nat.zero_le _) (Nat.le_of_ble_eq_true rfl) (fun v_56 h_56 P_56 => ?_)
      obtain ⟨x_56, rfl, rfl, H⟩ := P_56
      dsimp only [rs]
      refine j_astore (dk dt_X3_joinedCell 33 rfl) (by decide) ?_
      refine j_aload (dk dt_X3_joinedCell 34 rfl) rfl ?_
      refine j_aload (dk dt_X3_joinedCell 35 rfl) rfl ?_
      refine j_callS2 (dk dt_X3_joinedCell 36 rfl) sl_X3_91 (T_X1_alike hw H) rfl (by decide) (Nat.zero_le _) (Nat.zero_le _) (Nat.le_of_ble_eq_true rfl) (fun v_65 h_65 P_65 => ?_)
      obtain ⟨x_65, rfl, r_65, rfl, H⟩ := P_65
      dsimp only [rs]
      refine jz_if_ne 80 (dk dt_X3_joinedCell 37 rfl) (by decide) r_65 H (fun H => ?_) (fun H => ?_)
      · refine j_aload_n (dk dt_X3_joinedCell 38 rfl) rfl ?_
        refine j_aload (dk dt_X3_joinedCell 39 rfl) rfl ?_
        refine j_callS2 (dk dt_X3_joinedCell 40 rfl) sl_X3_91 (T_X1_alike hw H) rfl (by decide) (Nat.zero_le _) (Nat.zero_le _) (Nat.le_of_ble_eq_true rfl) (fun v_74 h_74 P_74 => ?_)
        obtain ⟨x_74, rfl, r_74, rfl, H⟩ := P_74
        dsimp only [rs]
        refine jz_if_eq 82 (dk dt_X3_joinedCell 41 rfl) (by decide) r_74 H (fun H => ?_) (fun H => ?_)
        · refine j_aload_n (dk dt_X3_joinedCell 44 rfl) rfl ?_
          refine j_aload (dk dt_X3_joinedCell 45 rfl) rfl ?_
          refine j_callS2 (dk dt_X3_joinedCell 46 rfl) sl_X3_91 (T_X1_alike hw H) rfl (by decide) (Nat.zero_le _) (Nat.zero_le _) (Nat.le_of_ble_eq_true rfl) (fun v_85 h_85 P_85 => ?_)
          obtain ⟨x_85, rfl, r_85, rfl, H⟩ := P_85
          dsimp only [rs]
          refine jz_if_ne 111 (dk dt_X3_joinedCell 47 rfl) (by decide) r_85 H (fun H => ?_) (fun H => ?_)
          · refine j_aload_n (dk dt_X3_joinedCell 48 rfl) rfl ?_
            obtain ⟨hc_92, hs_92, H⟩ := H
            refine jz_new (dk dt_X3_joinedCell 49 rfl) cl_0 nl_X3_9 iw_0 zw_0 rfl hc_92 hs_92 hw (fun a_92 e_92 w_92 => ?_)
            replace H := H a_92 e_92
            replace H := H _ rfl
            refine j_dup (dk dt_X3_joinedCell 50 rfl) rfl ?_
            refine j_iconst (v := Int32.ofInt 3) (dk dt_X3_joinedCell 51 rfl) (by decide) ?_
            refine j_iload_n (dk dt_X3_joinedCell 52 rfl) rfl ?_
            refine j_iload_n (dk dt_X3_joinedCell 53 rfl) rfl ?_
            refine j_iconst (v := Int32.ofInt 1) (dk dt_X3_joinedCell 54 rfl) (by decide) ?_
            refine j_aload_n (dk dt_X3_joinedCell 55 rfl) rfl ?_
            refine j_aload (dk dt_X3_joinedCell 56 rfl) rfl ?_
            refine jz_callI6 (dk dt_X3_joinedCell 57 rfl) il_X3_97 rfl (T_X0_init (by decide) r_x1 r_x2 (by decide) w_92 H) rfl (by decide) (Nat.zero_le _) (Nat.zero_le _) (Nat.le_of_ble_eq_true rfl) (fun v_103 h_103 P_103 => ?_)
            obtain ⟨z_103, rfl, rfl, w_103, H⟩ := P_103
            dsimp only [rs]
            obtain ⟨k_106, H⟩ := H
            refine jz_callV1 (dk dt_X3_joinedCell 58 rfl) vl_X3_100 rfl (T_X3_note w_103 H) k_106 rfl (by decide) (Nat.zero_le _) (Nat.zero_le _) (Nat.le_of_ble_eq_true rfl) (fun v_106 h_106 P_106 => ?_)
            obtain ⟨z_106, rfl, rfl, w_106, H⟩ := P_106
            dsimp only [rs]
            refine j_aload_n (dk dt_X3_joinedCell 59 rfl) rfl ?_
            exact j_areturn (dk dt_X3_joinedCell 60 rfl) rfl rfl ⟨_, _, rfl, rfl, w_106, H⟩
          · refine j_aload (dk dt_X3_joinedCell 61 rfl) rfl ?_
            exact j_areturn (dk dt_X3_joinedCell 62 rfl) rfl rfl ⟨_, _, rfl, rfl, hw, H⟩
        · exact j_el (T_X3_joinedCell_80  hw   H) (And.intro rfl trivial)
      · exact j_el (T_X3_joinedCell_80  hw   H) (And.intro rfl trivial)
def F_X3_isChanged_48  (t0 : Nat) (x1 : Option Nat) (x2 : Int) (x3 : Int) (x4 : Option Nat) (x5 : Int) (x6 : Int) (s0 : Int) (z : Z) (P : Int ⊕ ((Unit) ⊕ (Unit)) → Prop) : Prop :=
  (∃ a_55, x1 = some a_55 ∧ zK z a_55 = 7 ∧ F_X6_of a_55 x6 s0 z (fun x_55 => (zK z t0 = 4 ∧ (∃ a_66, zO z t0 5 = some a_66 ∧ zK z a_66 = 7 ∧ F_X6_of a_66 x6 s0 z (fun x_66 => F_X1_alike x_55 x_66 z (fun x_69 => (if x_69 = 0 then P (.inr (.inr ())) else P (.inl (w32 (x5 + 1))))))))))
theorem T_X3_isChanged_48  {t0 : Nat} {x1 : Option Nat} {x2 : Int} {x3 : Int} {x4 : Option Nat} {x5 : Int} {x6 : Int} {s0 : Int} {z : Z} {P : Int ⊕ ((Unit) ⊕ (Unit)) → Prop} {post : Option Sv ⊕ String → Hp → Prop} (r_x2 : R32 x2) (r_x3 : R32 x3) (r_x5 : R32 x5) (r_x6 : R32 x6) (r_s0 : R32 s0) (hw : Wz z)  (hl : ∀ (x5 : Int), P (.inl x5) → R32 x5 → J mX3_isChanged 4 0 0 post 12 [some (vr (some t0)), some (vr (x1)), some (ii (x2)), some (ii (x3)), some (vr (x4)), some (ii (x5)), none, none] [] (cz z)) (he0 : P (.inr (.inl ())) → J mX3_isChanged 4 0 0 post 83 [none, none, none, none, none, none, none, none] [] (cz z)) (he1 : P (.inr (.inr ())) → J mX3_isChanged 4 0 0 post 75 [none, none, none, none, none, none, none, none] [] (cz z)) (H : F_X3_isChanged_48 t0 x1 x2 x3 x4 x5 x6 s0 z P) : J mX3_isChanged 4 0 0 (post) 48 [some (vr (some t0)), some (vr (x1)), some (ii (x2)), some (ii (x3)), some (vr (x4)), some (ii (x5)), some (ii (x6)), none] [ii (s0)] (cz z) := by
  unfold F_X3_isChanged_48 at H
  refine j_istore (dk dt_X3_isChanged 27 rfl) (by decide) ?_
  refine j_aload_n (dk dt_X3_isChanged 28 rfl) rfl ?_
  refine j_iload (dk dt_X3_isChanged 29 rfl) rfl ?_
  refine j_iload (dk dt_X3_isChanged 30 rfl) rfl ?_
  obtain ⟨a_55, e_55, k_55, H⟩ := H
  refine jz_callV2 (dk dt_X3_isChanged 31 rfl) vl_X3_88 e_55 (T_X6_of r_x6 r_s0 hw H) k_55 rfl (by decide) (Nat.zero_le _) (Nat.zero_le _) (Nat.le_of_ble_eq_true rfl) (fun v_55 h_55 P_55 => ?_)
  obtain ⟨x_55, rfl, rfl, H⟩ := P_55
  dsimp only [rs]
  refine j_aload_n (dk dt_X3_isChanged 32 rfl) rfl ?_
  obtain ⟨k_59, H⟩ := H
  refine jz_getO (kz := 5) (dk dt_X3_isChanged 33 rfl) fl_X3_36 rfl rfl rfl k_59 ?_
  refine j_iload (dk dt_X3_isChanged 34 rfl) rfl ?_
  refine j_iload (dk dt_X3_isChanged 35 rfl) rfl ?_
  obtain ⟨a_66, e_66, k_66, H⟩ := H
  refine jz_callV2 (dk dt_X3_isChanged 36 rfl) vl_X3_88 e_66 (T_X6_of r_x6 r_s0 hw H) k_66 rfl (by decide) (Nat.zero_le _) (Nat.zero_le _) (Nat.le_of_ble_eq_true rfl) (fun v_66 h_66 P_66 => ?_)
  obtain ⟨x_66, rfl, rfl, H⟩ := P_66
  dsimp only [rs]
  refine j_callS2 (dk dt_X3_isChanged 37 rfl) sl_X3_91 (T_X1_alike hw H) rfl (by decide) (Nat.zero_le _) (Nat.zero_le _) (Nat.le_of_ble_eq_true rfl) (fun v_69 h_69 P_69 => ?_)
  obtain ⟨x_69, rfl, r_69, rfl, H⟩ := P_69
  dsimp only [rs]
  refine jz_if_ne 77 (dk dt_X3_isChanged 38 rfl) (by decide) r_69 H (fun H => ?_) (fun H => ?_)
  · exact j_el (he1  H ) trivial
  · refine jz_iinc (dk dt_X3_isChanged 41 rfl) rfl ?_
    refine j_goto 12 (dk dt_X3_isChanged 42 rfl) (by decide) ?_
    exact j_el (hl _ H (r32_w _)) (And.intro rfl (And.intro rfl (And.intro rfl (And.intro rfl (And.intro rfl (And.intro rfl trivial))))))
def F_X3_isChanged_33  (t0 : Nat) (x1 : Option Nat) (x2 : Int) (x3 : Int) (x4 : Option Nat) (x5 : Int) (s0 : Int) (z : Z) (P : Int ⊕ ((Unit) ⊕ (Unit)) → Prop) : Prop :=
  (if x2 = 0 then (∃ a_43, x4 = some a_43 ∧ zK z a_43 = 15 ∧ (0 ≤ x5 ∧ x5 < zN z a_43 ∧ F_X3_isChanged_48 t0 x1 x2 x3 x4 x5 s0 (zI z a_43 x5) z P)) else F_X3_isChanged_48 t0 x1 x2 x3 x4 x5 s0 x3 z P)
theorem T_X3_isChanged_33  {t0 : Nat} {x1 : Option Nat} {x2 : Int} {x3 : Int} {x4 : Option Nat} {x5 : Int} {s0 : Int} {z : Z} {P : Int ⊕ ((Unit) ⊕ (Unit)) → Prop} {post : Option Sv ⊕ String → Hp → Prop} (r_x2 : R32 x2) (r_x3 : R32 x3) (r_x5 : R32 x5) (r_s0 : R32 s0) (hw : Wz z)  (hl : ∀ (x5 : Int), P (.inl x5) → R32 x5 → J mX3_isChanged 4 0 0 post 12 [some (vr (some t0)), some (vr (x1)), some (ii (x2)), some (ii (x3)), some (vr (x4)), some (ii (x5)), none, none] [] (cz z)) (he0 : P (.inr (.inl ())) → J mX3_isChanged 4 0 0 post 83 [none, none, none, none, none, none, none, none] [] (cz z)) (he1 : P (.inr (.inr ())) → J mX3_isChanged 4 0 0 post 75 [none, none, none, none, none, none, none, none] [] (cz z)) (H : F_X3_isChanged_33 t0 x1 x2 x3 x4 x5 s0 z P) : J mX3_isChanged 4 0 0 (post) 33 [some (vr (some t0)), some (vr (x1)), some (ii (x2)), some (ii (x3)), some (vr (x4)), some (ii (x5)), none, none] [ii (s0)] (cz z) := by
  unfold F_X3_isChanged_33 at H
  refine j_istore (dk dt_X3_isChanged 19 rfl) (by decide) ?_
  refine j_iload_n (dk dt_X3_isChanged 20 rfl) rfl ?_
  refine jz_if_ne 47 (dk dt_X3_isChanged 21 rfl) (by decide) r_x2 H (fun H => ?_) (fun H => ?_)
  · refine j_aload (dk dt_X3_isChanged 22 rfl) rfl ?_
    refine j_iload (dk dt_X3_isChanged 23 rfl) rfl ?_
    obtain ⟨a_43, e_43, k_43, H⟩ := H
    obtain ⟨p_43, q_43, H⟩ := H
    refine jz_iald (dk dt_X3_isChanged 24 rfl) e_43 k_43 p_43 q_43 hw ?_
    refine j_goto 48 (dk dt_X3_isChanged 25 rfl) (by decide) ?_
    exact j_el (T_X3_isChanged_48 r_x2 r_x3 r_x5 r_s0 (hw.1 _ _) hw  hl he0 he1 H) (And.intro rfl (And.intro rfl (And.intro rfl (And.intro rfl (And.intro rfl (And.intro rfl (And.intro rfl trivial)))))))
  · refine j_iload_n (dk dt_X3_isChanged 26 rfl) rfl ?_
    exact j_el (T_X3_isChanged_48 r_x2 r_x3 r_x5 r_s0 r_x3 hw  hl he0 he1 H) (And.intro rfl (And.intro rfl (And.intro rfl (And.intro rfl (And.intro rfl (And.intro rfl (And.intro rfl trivial)))))))
def L_X3_isChanged_12  (t0 : Nat) (x1 : Option Nat) (x2 : Int) (x3 : Int) (x4 : Option Nat) (x5 : Int) (z : Z) (P : Int ⊕ ((Unit) ⊕ (Unit)) → Prop) : Prop :=
  (∃ a_16, x4 = some a_16 ∧ zK z a_16 = 15 ∧ (if zN z a_16 ≤ x5 then P (.inr (.inl ())) else (if x2 = 0 then F_X3_isChanged_33 t0 x1 x2 x3 x4 x5 x3 z P else (0 ≤ x5 ∧ x5 < zN z a_16 ∧ F_X3_isChanged_33 t0 x1 x2 x3 x4 x5 (zI z a_16 x5) z P))))
theorem U_X3_isChanged_12  {t0 : Nat} {x1 : Option Nat} {x2 : Int} {x3 : Int} {x4 : Option Nat} {x5 : Int} {z : Z} {P : Int ⊕ ((Unit) ⊕ (Unit)) → Prop} {post : Option Sv ⊕ String → Hp → Prop} (r_x2 : R32 x2) (r_x3 : R32 x3) (r_x5 : R32 x5) (hw : Wz z)  (hl : ∀ (x5 : Int), P (.inl x5) → R32 x5 → J mX3_isChanged 4 0 0 post 12 [some (vr (some t0)), some (vr (x1)), some (ii (x2)), some (ii (x3)), some (vr (x4)), some (ii (x5)), none, none] [] (cz z)) (he0 : P (.inr (.inl ())) → J mX3_isChanged 4 0 0 post 83 [none, none, none, none, none, none, none, none] [] (cz z)) (he1 : P (.inr (.inr ())) → J mX3_isChanged 4 0 0 post 75 [none, none, none, none, none, none, none, none] [] (cz z)) (H : L_X3_isChanged_12 t0 x1 x2 x3 x4 x5 z P) : J mX3_isChanged 4 0 0 post 12 [some (vr (some t0)), some (vr (x1)), some (ii (x2)), some (ii (x3)), some (vr (x4)), some (ii (x5)), none, none] [] (cz z) := by
  unfold L_X3_isChanged_12 at H
  refine j_iload (dk dt_X3_isChanged 8 rfl) rfl ?_
  refine j_aload (dk dt_X3_isChanged 9 rfl) rfl ?_
  obtain ⟨a_16, e_16, k_16, H⟩ := H
  refine jz_alen (t := 1) (dk dt_X3_isChanged 10 rfl) e_16 k_16 (by decide) hw ?_
  refine jz_icmp_ge 83 (dk dt_X3_isChanged 11 rfl) (by decide) r_x5 (r32_len hw _) H (fun H => ?_) (fun H => ?_)
  · exact j_el (he0  H ) trivial
  · refine j_iload_n (dk dt_X3_isChanged 12 rfl) rfl ?_
    refine jz_if_ne 28 (dk dt_X3_isChanged 13 rfl) (by decide) r_x2 H (fun H => ?_) (fun H => ?_)
    · refine j_iload_n (dk dt_X3_isChanged 14 rfl) rfl ?_
      refine j_goto 33 (dk dt_X3_isChanged 15 rfl) (by decide) ?_
      exact j_el (T_X3_isChanged_33 r_x2 r_x3 r_x5 r_x3 hw  hl he0 he1 H) (And.intro rfl (And.intro rfl (And.intro rfl (And.intro rfl (And.intro rfl (And.intro rfl trivial))))))
    · refine j_aload (dk dt_X3_isChanged 16 rfl) rfl ?_
      refine j_iload (dk dt_X3_isChanged 17 rfl) rfl ?_
      obtain ⟨p_32, q_32, H⟩ := H
      refine jz_iald (dk dt_X3_isChanged 18 rfl) e_16 k_16 p_32 q_32 hw ?_
      exact j_el (T_X3_isChanged_33 r_x2 r_x3 r_x5 (hw.1 _ _) hw  hl he0 he1 H) (And.intro rfl (And.intro rfl (And.intro rfl (And.intro rfl (And.intro rfl (And.intro rfl trivial))))))
def F_X3_isChanged_12  (t0 : Nat) (x1 : Option Nat) (x2 : Int) (x3 : Int) (x4 : Option Nat) (x5 : Int) (z : Z) (P : Int → Prop) : Prop :=
  lp (S := Int) (E := (Unit) ⊕ (Unit)) (fun q P_ => L_X3_isChanged_12 t0 x1 x2 x3 x4 q z P_) x5 (fun e => match e with | (.inl _) => P 0 | (.inr _) => P 1)
theorem T_X3_isChanged_12  {t0 : Nat} {x1 : Option Nat} {x2 : Int} {x3 : Int} {x4 : Option Nat} {x5 : Int} {z : Z} {P : Int → Prop} (r_x2 : R32 x2) (r_x3 : R32 x3) (r_x5 : R32 x5) (hw : Wz z)   (H : F_X3_isChanged_12 t0 x1 x2 x3 x4 x5 z P) : J mX3_isChanged 4 0 0 (nx (QPI (cz z) P)) 12 [some (vr (some t0)), some (vr (x1)), some (ii (x2)), some (ii (x3)), some (vr (x4)), some (ii (x5)), none, none] [] (cz z) := by
  unfold F_X3_isChanged_12 at H
  refine lp_J (G := fun q => R32 (q) → J mX3_isChanged 4 0 0 (nx (QPI (cz z) P)) 12 [some (vr (some t0)), some (vr (x1)), some (ii (x2)), some (ii (x3)), some (vr (x4)), some (ii ((q))), none, none] [] (cz z)) (fun x5 P_ hl_ he_ Hb => ?_) x5 H r_x5
  intro r_x5
  refine U_X3_isChanged_12 (P := P_) r_x2 r_x3 r_x5 hw  (fun x5 Hp r_x5 => hl_ x5 Hp r_x5) ?_ ?_ Hb
  · intro Hp
    have H := he_ _ Hp
    refine j_iconst (v := Int32.ofInt 0) (dk dt_X3_isChanged 43 rfl) (by decide) ?_
    exact j_ireturn (dk dt_X3_isChanged 44 rfl) rfl (nar_z (by decide)) ⟨_, rfl, (by decide), rfl, H⟩
  · intro Hp
    have H := he_ _ Hp
    refine j_iconst (v := Int32.ofInt 1) (dk dt_X3_isChanged 39 rfl) (by decide) ?_
    exact j_ireturn (dk dt_X3_isChanged 40 rfl) rfl (nar_z (by decide)) ⟨_, rfl, (by decide), rfl, H⟩
def F_X3_isChanged  (t0 : Nat) (x1 : Option Nat) (x2 : Int) (x3 : Int) (z : Z) (P : Int → Prop) : Prop :=
  (∃ a_4, x1 = some a_4 ∧ zK z a_4 = 7 ∧ F_X6_line a_4 (w32 (1 - x2)) z (fun x_4 => F_X3_isChanged_12 t0 x1 x2 x3 x_4 0 z P))
theorem T_X3_isChanged  {t0 : Nat} {x1 : Option Nat} {x2 : Int} {x3 : Int} {z : Z} {P : Int → Prop} (r_x2 : R32 x2) (r_x3 : R32 x3) (hw : Wz z)  (H : F_X3_isChanged t0 x1 x2 x3 z P) : Con mX3_isChanged 4 0 0 [vr (some t0), vr (x1), ii (x2), ii (x3)] (cz z) (QPI (cz z) P) := by
  refine con_of rfl (Nat.le_of_ble_eq_true rfl) (by decide) ?_
  show J mX3_isChanged 4 0 0 _ 0 [some (vr (some t0)), some (vr (x1)), some (ii (x2)), some (ii (x3)), none, none, none, none] [] (cz z)
  unfold F_X3_isChanged at H
  refine j_aload_n (dk dt_X3_isChanged 0 rfl) rfl ?_
  refine j_iconst (v := Int32.ofInt 1) (dk dt_X3_isChanged 1 rfl) (by decide) ?_
  refine j_iload_n (dk dt_X3_isChanged 2 rfl) rfl ?_
  refine jz_isub (dk dt_X3_isChanged 3 rfl) ?_
  obtain ⟨a_4, e_4, k_4, H⟩ := H
  refine jz_callV1 (dk dt_X3_isChanged 4 rfl) vl_X3_60 e_4 (T_X6_line (r32_w _) hw H) k_4 rfl (by decide) (Nat.zero_le _) (Nat.zero_le _) (Nat.le_of_ble_eq_true rfl) (fun v_4 h_4 P_4 => ?_)
  obtain ⟨x_4, rfl, rfl, H⟩ := P_4
  dsimp only [rs]
  refine j_astore (dk dt_X3_isChanged 5 rfl) (by decide) ?_
  refine j_iconst (v := Int32.ofInt 0) (dk dt_X3_isChanged 6 rfl) (by decide) ?_
  refine j_istore (dk dt_X3_isChanged 7 rfl) (by decide) ?_
  exact j_el (T_X3_isChanged_12 r_x2 r_x3 (by decide) hw   H) (And.intro rfl (And.intro rfl (And.intro rfl (And.intro rfl (And.intro rfl (And.intro rfl trivial))))))
def F_X3_stays_87  (s0 : Int) (z : Z) (P : Int → Prop) : Prop :=
  (Z1 s0 ∧ P s0)
theorem T_X3_stays_87  {s0 : Int} {z : Z} {P : Int → Prop} (r_s0 : R32 s0) (hw : Wz z)   (H : F_X3_stays_87 s0 z P) : J mX3_stays 5 0 0 (nx (QPI (cz z) P)) 87 [none, none, none, none, none] [ii (s0)] (cz z) := by
  unfold F_X3_stays_87 at H
  obtain ⟨hz_, H⟩ := H
  exact j_ireturn (dk dt_X3_stays 45 rfl) rfl (nar_z hz_) ⟨_, rfl, r_s0, rfl, H⟩
def F_X3_stays_82  (z : Z) (P : Int → Prop) : Prop :=
  F_X3_stays_87 1 z P
theorem T_X3_stays_82  {z : Z} {P : Int → Prop}  (hw : Wz z)   (H : F_X3_stays_82 z P) : J mX3_stays 5 0 0 (nx (QPI (cz z) P)) 82 [none, none, none, none, none] [] (cz z) := by
  unfold F_X3_stays_82 at H
  refine j_iconst (v := Int32.ofInt 1) (dk dt_X3_stays 42 rfl) (by decide) ?_
  refine j_goto 87 (dk dt_X3_stays 43 rfl) (by decide) ?_
  exact j_el (T_X3_stays_87 (by decide) hw   H) trivial
def F_X3_stays_74  (x1 : Int) (x2 : Int) (s0 : Option Nat) (s1 : Option Nat) (z : Z) (P : Int → Prop) : Prop :=
  (∃ a_76, s0 = some a_76 ∧ zK z a_76 = 4 ∧ F_X3_isChanged a_76 s1 x1 x2 z (fun x_76 => (if x_76 = 0 then F_X3_stays_87 0 z P else F_X3_stays_82 z P)))
theorem T_X3_stays_74  {x1 : Int} {x2 : Int} {s0 : Option Nat} {s1 : Option Nat} {z : Z} {P : Int → Prop} (r_x1 : R32 x1) (r_x2 : R32 x2) (hw : Wz z)   (H : F_X3_stays_74 x1 x2 s0 s1 z P) : J mX3_stays 5 0 0 (nx (QPI (cz z) P)) 74 [none, some (ii (x1)), some (ii (x2)), none, none] [vr (s1), vr (s0)] (cz z) := by
  unfold F_X3_stays_74 at H
  refine j_iload_n (dk dt_X3_stays 38 rfl) rfl ?_
  refine j_iload_n (dk dt_X3_stays 39 rfl) rfl ?_
  obtain ⟨a_76, e_76, k_76, H⟩ := H
  refine jz_callV3 (dk dt_X3_stays 40 rfl) vl_X3_84 e_76 (T_X3_isChanged r_x1 r_x2 hw H) k_76 rfl (by decide) (Nat.zero_le _) (Nat.zero_le _) (Nat.le_of_ble_eq_true rfl) (fun v_76 h_76 P_76 => ?_)
  obtain ⟨x_76, rfl, r_76, rfl, H⟩ := P_76
  dsimp only [rs]
  refine jz_if_eq 86 (dk dt_X3_stays 41 rfl) (by decide) r_76 H (fun H => ?_) (fun H => ?_)
  · refine j_iconst (v := Int32.ofInt 0) (dk dt_X3_stays 44 rfl) (by decide) ?_
    exact j_el (T_X3_stays_87 (by decide) hw   H) trivial
  · exact j_el (T_X3_stays_82  hw   H) trivial
def F_X3_stays_46  (t0 : Nat) (x1 : Int) (x2 : Int) (x3 : Int) (z : Z) (P : Int → Prop) : Prop :=
  (zK z t0 = 4 ∧ (∃ a_52, zO z t0 5 = some a_52 ∧ zK z a_52 = 7 ∧ F_X6_placeOf a_52 x1 x2 z (fun x_52 => (if x_52 = 0 then F_X3_stays_82 z P else (if x3 = 0 then F_X3_stays_74 x1 x2 (some t0) (zO z t0 4) z P else F_X3_stays_74 x1 x2 (some t0) (zO z t0 3) z P)))))
theorem T_X3_stays_46  {t0 : Nat} {x1 : Int} {x2 : Int} {x3 : Int} {z : Z} {P : Int → Prop} (r_x1 : R32 x1) (r_x2 : R32 x2) (r_x3 : R32 x3) (hw : Wz z)   (H : F_X3_stays_46 t0 x1 x2 x3 z P) : J mX3_stays 5 0 0 (nx (QPI (cz z) P)) 46 [some (vr (some t0)), some (ii (x1)), some (ii (x2)), some (ii (x3)), none] [] (cz z) := by
  unfold F_X3_stays_46 at H
  refine j_aload_n (dk dt_X3_stays 24 rfl) rfl ?_
  obtain ⟨k_47, H⟩ := H
  refine jz_getO (kz := 5) (dk dt_X3_stays 25 rfl) fl_X3_36 rfl rfl rfl k_47 ?_
  refine j_iload_n (dk dt_X3_stays 26 rfl) rfl ?_
  refine j_iload_n (dk dt_X3_stays 27 rfl) rfl ?_
  obtain ⟨a_52, e_52, k_52, H⟩ := H
  refine jz_callV2 (dk dt_X3_stays 28 rfl) vl_X3_80 e_52 (T_X6_placeOf r_x1 r_x2 hw H) k_52 rfl (by decide) (Nat.zero_le _) (Nat.zero_le _) (Nat.le_of_ble_eq_true rfl) (fun v_52 h_52 P_52 => ?_)
  obtain ⟨x_52, rfl, r_52, rfl, H⟩ := P_52
  dsimp only [rs]
  refine jz_if_eq 82 (dk dt_X3_stays 29 rfl) (by decide) r_52 H (fun H => ?_) (fun H => ?_)
  · exact j_el (T_X3_stays_82  hw   H) trivial
  · refine j_aload_n (dk dt_X3_stays 30 rfl) rfl ?_
    refine j_iload_n (dk dt_X3_stays 31 rfl) rfl ?_
    refine jz_if_eq 70 (dk dt_X3_stays 32 rfl) (by decide) r_x3 H (fun H => ?_) (fun H => ?_)
    · refine j_aload_n (dk dt_X3_stays 36 rfl) rfl ?_
      refine jz_getO (kz := 4) (dk dt_X3_stays 37 rfl) fl_X3_33 rfl rfl rfl k_47 ?_
      exact j_el (T_X3_stays_74 r_x1 r_x2 hw   H) (And.intro rfl (And.intro rfl trivial))
    · refine j_aload_n (dk dt_X3_stays 33 rfl) rfl ?_
      refine jz_getO (kz := 3) (dk dt_X3_stays 34 rfl) fl_X3_29 rfl rfl rfl k_47 ?_
      refine j_goto 74 (dk dt_X3_stays 35 rfl) (by decide) ?_
      exact j_el (T_X3_stays_74 r_x1 r_x2 hw   H) (And.intro rfl (And.intro rfl trivial))
def F_X3_stays_35  (t0 : Nat) (x1 : Int) (x2 : Int) (x3 : Int) (s0 : Int) (z : Z) (P : Int → Prop) : Prop :=
  (if x3 = 0 then F_X3_stays_46 t0 x1 x2 x3 z P else (if s0 = 0 then F_X3_stays_46 t0 x1 x2 x3 z P else F_X3_stays_82 z P))
theorem T_X3_stays_35  {t0 : Nat} {x1 : Int} {x2 : Int} {x3 : Int} {s0 : Int} {z : Z} {P : Int → Prop} (r_x1 : R32 x1) (r_x2 : R32 x2) (r_x3 : R32 x3) (r_s0 : R32 s0) (hw : Wz z)   (H : F_X3_stays_35 t0 x1 x2 x3 s0 z P) : J mX3_stays 5 0 0 (nx (QPI (cz z) P)) 35 [some (vr (some t0)), some (ii (x1)), some (ii (x2)), some (ii (x3)), none] [ii (s0)] (cz z) := by
  unfold F_X3_stays_35 at H
  refine j_istore (dk dt_X3_stays 19 rfl) (by decide) ?_
  refine j_iload_n (dk dt_X3_stays 20 rfl) rfl ?_
  refine jz_if_eq 46 (dk dt_X3_stays 21 rfl) (by decide) r_x3 H (fun H => ?_) (fun H => ?_)
  · exact j_el (T_X3_stays_46 r_x1 r_x2 r_x3 hw   H) (And.intro rfl (And.intro rfl (And.intro rfl (And.intro rfl trivial))))
  · refine j_iload (dk dt_X3_stays 22 rfl) rfl ?_
    refine jz_if_ne 82 (dk dt_X3_stays 23 rfl) (by decide) r_s0 H (fun H => ?_) (fun H => ?_)
    · exact j_el (T_X3_stays_46 r_x1 r_x2 r_x3 hw   H) (And.intro rfl (And.intro rfl (And.intro rfl (And.intro rfl trivial))))
    · exact j_el (T_X3_stays_82  hw   H) trivial
def F_X3_stays_17  (t0 : Nat) (x1 : Int) (x2 : Int) (s0 : Int) (z : Z) (P : Int → Prop) : Prop :=
  (zK z t0 = 4 ∧ (∃ a_24, zO z t0 4 = some a_24 ∧ zK z a_24 = 7 ∧ F_X6_placeOf a_24 x1 x2 z (fun x_24 => (if x_24 ≤ 0 then F_X3_stays_35 t0 x1 x2 s0 0 z P else F_X3_stays_35 t0 x1 x2 s0 1 z P))))
theorem T_X3_stays_17  {t0 : Nat} {x1 : Int} {x2 : Int} {s0 : Int} {z : Z} {P : Int → Prop} (r_x1 : R32 x1) (r_x2 : R32 x2) (r_s0 : R32 s0) (hw : Wz z)   (H : F_X3_stays_17 t0 x1 x2 s0 z P) : J mX3_stays 5 0 0 (nx (QPI (cz z) P)) 17 [some (vr (some t0)), some (ii (x1)), some (ii (x2)), none, none] [ii (s0)] (cz z) := by
  unfold F_X3_stays_17 at H
  refine j_istore_n (dk dt_X3_stays 9 rfl) (by decide) ?_
  refine j_aload_n (dk dt_X3_stays 10 rfl) rfl ?_
  obtain ⟨k_19, H⟩ := H
  refine jz_getO (kz := 4) (dk dt_X3_stays 11 rfl) fl_X3_33 rfl rfl rfl k_19 ?_
  refine j_iload_n (dk dt_X3_stays 12 rfl) rfl ?_
  refine j_iload_n (dk dt_X3_stays 13 rfl) rfl ?_
  obtain ⟨a_24, e_24, k_24, H⟩ := H
  refine jz_callV2 (dk dt_X3_stays 14 rfl) vl_X3_80 e_24 (T_X6_placeOf r_x1 r_x2 hw H) k_24 rfl (by decide) (Nat.zero_le _) (Nat.zero_le _) (Nat.le_of_ble_eq_true rfl) (fun v_24 h_24 P_24 => ?_)
  obtain ⟨x_24, rfl, r_24, rfl, H⟩ := P_24
  dsimp only [rs]
  refine jz_if_le 34 (dk dt_X3_stays 15 rfl) (by decide) r_24 H (fun H => ?_) (fun H => ?_)
  · refine j_iconst (v := Int32.ofInt 0) (dk dt_X3_stays 18 rfl) (by decide) ?_
    exact j_el (T_X3_stays_35 r_x1 r_x2 r_s0 (by decide) hw   H) (And.intro rfl (And.intro rfl (And.intro rfl (And.intro rfl trivial))))
  · refine j_iconst (v := Int32.ofInt 1) (dk dt_X3_stays 16 rfl) (by decide) ?_
    refine j_goto 35 (dk dt_X3_stays 17 rfl) (by decide) ?_
    exact j_el (T_X3_stays_35 r_x1 r_x2 r_s0 (by decide) hw   H) (And.intro rfl (And.intro rfl (And.intro rfl (And.intro rfl trivial))))
def F_X3_stays  (t0 : Nat) (x1 : Int) (x2 : Int) (z : Z) (P : Int → Prop) : Prop :=
  (zK z t0 = 4 ∧ (∃ a_6, zO z t0 3 = some a_6 ∧ zK z a_6 = 7 ∧ F_X6_placeOf a_6 x1 x2 z (fun x_6 => (if x_6 ≤ 0 then F_X3_stays_17 t0 x1 x2 0 z P else F_X3_stays_17 t0 x1 x2 1 z P))))
theorem T_X3_stays  {t0 : Nat} {x1 : Int} {x2 : Int} {z : Z} {P : Int → Prop} (r_x1 : R32 x1) (r_x2 : R32 x2) (hw : Wz z)  (H : F_X3_stays t0 x1 x2 z P) : Con mX3_stays 5 0 0 [vr (some t0), ii (x1), ii (x2)] (cz z) (QPI (cz z) P) := by
  refine con_of rfl (Nat.le_of_ble_eq_true rfl) (by decide) ?_
  show J mX3_stays 5 0 0 _ 0 [some (vr (some t0)), some (ii (x1)), some (ii (x2)), none, none] [] (cz z)
  unfold F_X3_stays at H
  refine j_aload_n (dk dt_X3_stays 0 rfl) rfl ?_
  obtain ⟨k_1, H⟩ := H
  refine jz_getO (kz := 3) (dk dt_X3_stays 1 rfl) fl_X3_29 rfl rfl rfl k_1 ?_
  refine j_iload_n (dk dt_X3_stays 2 rfl) rfl ?_
  refine j_iload_n (dk dt_X3_stays 3 rfl) rfl ?_
  obtain ⟨a_6, e_6, k_6, H⟩ := H
  refine jz_callV2 (dk dt_X3_stays 4 rfl) vl_X3_80 e_6 (T_X6_placeOf r_x1 r_x2 hw H) k_6 rfl (by decide) (Nat.zero_le _) (Nat.zero_le _) (Nat.le_of_ble_eq_true rfl) (fun v_6 h_6 P_6 => ?_)
  obtain ⟨x_6, rfl, r_6, rfl, H⟩ := P_6
  dsimp only [rs]
  refine jz_if_le 16 (dk dt_X3_stays 5 rfl) (by decide) r_6 H (fun H => ?_) (fun H => ?_)
  · refine j_iconst (v := Int32.ofInt 0) (dk dt_X3_stays 8 rfl) (by decide) ?_
    exact j_el (T_X3_stays_17 r_x1 r_x2 (by decide) hw   H) (And.intro rfl (And.intro rfl (And.intro rfl trivial)))
  · refine j_iconst (v := Int32.ofInt 1) (dk dt_X3_stays 6 rfl) (by decide) ?_
    refine j_goto 17 (dk dt_X3_stays 7 rfl) (by decide) ?_
    exact j_el (T_X3_stays_17 r_x1 r_x2 (by decide) hw   H) (And.intro rfl (And.intro rfl (And.intro rfl trivial)))
def F_X3_joinedLine_109  (t0 : Nat) (x1 : Int) (x5 : Option Nat) (x6 : Option Nat) (x7 : Int) (x8 : Int) (z : Z) (c : Nat) (s : Nat) (P : (Int × Int × Z) ⊕ ((Int × Z)) → Prop) : Prop :=
  P (.inl (x7, w32 (x8 + 1), z))
theorem T_X3_joinedLine_109  {t0 : Nat} {x1 : Int} {x5 : Option Nat} {x6 : Option Nat} {x7 : Int} {x8 : Int} {z : Z} {c : Nat} {s : Nat} {P : (Int × Int × Z) ⊕ ((Int × Z)) → Prop} {post : Option Sv ⊕ String → Hp → Prop} (r_x1 : R32 x1) (r_x7 : R32 x7) (r_x8 : R32 x8) (hw : Wz z)  (hl : ∀ (x7 : Int) (x8 : Int) (z : Z), P (.inl (x7, x8, z)) → Wz z → R32 x7 → R32 x8 → J mX3_joinedLine 6 c s post 63 [some (vr (some t0)), some (ii (x1)), none, none, none, some (vr (x5)), some (vr (x6)), some (ii (x7)), some (ii (x8)), none, none, none] [] (cz z)) (he0 : ∀ (x7 : Int) (z : Z), P (.inr (x7, z)) → Wz z → R32 x7 → J mX3_joinedLine 6 c s post 115 [some (vr (some t0)), some (ii (x1)), none, none, none, none, some (vr (x6)), some (ii (x7)), none, none, none, none] [] (cz z)) (H : F_X3_joinedLine_109 t0 x1 x5 x6 x7 x8 z c s P) : J mX3_joinedLine 6 c s (post) 109 [some (vr (some t0)), some (ii (x1)), none, none, none, some (vr (x5)), some (vr (x6)), some (ii (x7)), some (ii (x8)), none, none, none] [] (cz z) := by
  unfold F_X3_joinedLine_109 at H
  refine jz_iinc (dk dt_X3_joinedLine 58 rfl) rfl ?_
  refine j_goto 63 (dk dt_X3_joinedLine 59 rfl) (by decide) ?_
  exact j_el (hl _ _ _ H hw r_x7 (r32_w _)) (And.intro rfl (And.intro rfl (And.intro rfl (And.intro rfl (And.intro rfl (And.intro rfl trivial))))))
def L_X3_joinedLine_63  (t0 : Nat) (x1 : Int) (x5 : Option Nat) (x6 : Option Nat) (x7 : Int) (x8 : Int) (z : Z) (c : Nat) (s : Nat) (P : (Int × Int × Z) ⊕ ((Int × Z)) → Prop) : Prop :=
  (∃ a_67, x5 = some a_67 ∧ zK z a_67 = 15 ∧ (if zN z a_67 ≤ x8 then P (.inr (x7, z)) else (0 ≤ x8 ∧ x8 < zN z a_67 ∧ (zK z t0 = 4 ∧ F_X3_stays t0 x1 (zI z a_67 x8) z (fun x_78 => (if x_78 = 0 then F_X3_joinedLine_109 t0 x1 x5 x6 x7 x8 z c s P else (∃ a_90, zO z t0 1 = some a_90 ∧ zK z a_90 = 15 ∧ (if zN z a_90 ≤ x7 then F_X3_joinedLine_109 t0 x1 x5 x6 x7 x8 z c s P else (0 ≤ x7 ∧ x7 < zN z a_90 ∧ (∀ z_105, z_105 = wI z a_90 x7 (zI z a_67 x8) → F_X3_joinedLine_109 t0 x1 x5 x6 (w32 (x7 + 1)) x8 z_105 c s P))))))))))
theorem U_X3_joinedLine_63  {t0 : Nat} {x1 : Int} {x5 : Option Nat} {x6 : Option Nat} {x7 : Int} {x8 : Int} {z : Z} {c : Nat} {s : Nat} {P : (Int × Int × Z) ⊕ ((Int × Z)) → Prop} {post : Option Sv ⊕ String → Hp → Prop} (r_x1 : R32 x1) (r_x7 : R32 x7) (r_x8 : R32 x8) (hw : Wz z)  (hl : ∀ (x7 : Int) (x8 : Int) (z : Z), P (.inl (x7, x8, z)) → Wz z → R32 x7 → R32 x8 → J mX3_joinedLine 6 c s post 63 [some (vr (some t0)), some (ii (x1)), none, none, none, some (vr (x5)), some (vr (x6)), some (ii (x7)), some (ii (x8)), none, none, none] [] (cz z)) (he0 : ∀ (x7 : Int) (z : Z), P (.inr (x7, z)) → Wz z → R32 x7 → J mX3_joinedLine 6 c s post 115 [some (vr (some t0)), some (ii (x1)), none, none, none, none, some (vr (x6)), some (ii (x7)), none, none, none, none] [] (cz z)) (H : L_X3_joinedLine_63 t0 x1 x5 x6 x7 x8 z c s P) : J mX3_joinedLine 6 c s post 63 [some (vr (some t0)), some (ii (x1)), none, none, none, some (vr (x5)), some (vr (x6)), some (ii (x7)), some (ii (x8)), none, none, none] [] (cz z) := by
  unfold L_X3_joinedLine_63 at H
  refine j_iload (dk dt_X3_joinedLine 34 rfl) rfl ?_
  refine j_aload (dk dt_X3_joinedLine 35 rfl) rfl ?_
  obtain ⟨a_67, e_67, k_67, H⟩ := H
  refine jz_alen (t := 1) (dk dt_X3_joinedLine 36 rfl) e_67 k_67 (by decide) hw ?_
  refine jz_icmp_ge 115 (dk dt_X3_joinedLine 37 rfl) (by decide) r_x8 (r32_len hw _) H (fun H => ?_) (fun H => ?_)
  · exact j_el (he0 _ _ H hw r_x7) (And.intro rfl (And.intro rfl (And.intro rfl (And.intro rfl trivial))))
  · refine j_aload_n (dk dt_X3_joinedLine 38 rfl) rfl ?_
    refine j_iload_n (dk dt_X3_joinedLine 39 rfl) rfl ?_
    refine j_aload (dk dt_X3_joinedLine 40 rfl) rfl ?_
    refine j_iload (dk dt_X3_joinedLine 41 rfl) rfl ?_
    obtain ⟨p_77, q_77, H⟩ := H
    refine jz_iald (dk dt_X3_joinedLine 42 rfl) e_67 k_67 p_77 q_77 hw ?_
    obtain ⟨k_78, H⟩ := H
    refine jz_callV2 (dk dt_X3_joinedLine 43 rfl) vl_X3_66 rfl (T_X3_stays r_x1 (hw.1 _ _) hw H) k_78 rfl (by decide) (Nat.zero_le _) (Nat.zero_le _) (Nat.le_of_ble_eq_true rfl) (fun v_78 h_78 P_78 => ?_)
    obtain ⟨x_78, rfl, r_78, rfl, H⟩ := P_78
    dsimp only [rs]
    refine jz_if_eq 109 (dk dt_X3_joinedLine 44 rfl) (by decide) r_78 H (fun H => ?_) (fun H => ?_)
    · exact j_el (T_X3_joinedLine_109 r_x1 r_x7 r_x8 hw  hl he0 H) (And.intro rfl (And.intro rfl (And.intro rfl (And.intro rfl (And.intro rfl (And.intro rfl trivial))))))
    · refine j_iload (dk dt_X3_joinedLine 45 rfl) rfl ?_
      refine j_aload_n (dk dt_X3_joinedLine 46 rfl) rfl ?_
      refine jz_getO (kz := 1) (dk dt_X3_joinedLine 47 rfl) fl_X3_17 rfl rfl rfl k_78 ?_
      obtain ⟨a_90, e_90, k_90, H⟩ := H
      refine jz_alen (t := 1) (dk dt_X3_joinedLine 48 rfl) e_90 k_90 (by decide) hw ?_
      refine jz_icmp_ge 109 (dk dt_X3_joinedLine 49 rfl) (by decide) r_x7 (r32_len hw _) H (fun H => ?_) (fun H => ?_)
      · exact j_el (T_X3_joinedLine_109 r_x1 r_x7 r_x8 hw  hl he0 H) (And.intro rfl (And.intro rfl (And.intro rfl (And.intro rfl (And.intro rfl (And.intro rfl trivial))))))
      · refine j_aload_n (dk dt_X3_joinedLine 50 rfl) rfl ?_
        refine jz_getO (kz := 1) (dk dt_X3_joinedLine 51 rfl) fl_X3_17 rfl rfl rfl k_78 ?_
        refine j_iload (dk dt_X3_joinedLine 52 rfl) rfl ?_
        refine j_aload (dk dt_X3_joinedLine 53 rfl) rfl ?_
        refine j_iload (dk dt_X3_joinedLine 54 rfl) rfl ?_
        refine jz_iald (dk dt_X3_joinedLine 55 rfl) e_67 k_67 p_77 q_77 hw ?_
        obtain ⟨p_105, q_105, H⟩ := H
        refine jz_iast (dk dt_X3_joinedLine 56 rfl) e_90 k_90 p_105 q_105 hw (hw.1 _ _) (fun w_105 => ?_)
        replace H := H _ rfl
        refine jz_iinc (dk dt_X3_joinedLine 57 rfl) rfl ?_
        exact j_el (T_X3_joinedLine_109 r_x1 (r32_w _) r_x8 w_105  hl he0 H) (And.intro rfl (And.intro rfl (And.intro rfl (And.intro rfl (And.intro rfl (And.intro rfl trivial))))))
def F_X3_joinedLine_231  (t0 : Nat) (x1 : Int) (x6 : Option Nat) (x7 : Int) (x8 : Int) (x9 : Int) (z : Z) (c : Nat) (s : Nat) (P : (Int × Int × Int × Z) ⊕ ((Int × Z)) → Prop) : Prop :=
  P (.inl (x7, x8, w32 (x9 + 1), z))
theorem T_X3_joinedLine_231  {t0 : Nat} {x1 : Int} {x6 : Option Nat} {x7 : Int} {x8 : Int} {x9 : Int} {z : Z} {c : Nat} {s : Nat} {P : (Int × Int × Int × Z) ⊕ ((Int × Z)) → Prop} {post : Option Sv ⊕ String → Hp → Prop} (r_x1 : R32 x1) (r_x7 : R32 x7) (r_x8 : R32 x8) (r_x9 : R32 x9) (hw : Wz z)  (hl : ∀ (x7 : Int) (x8 : Int) (x9 : Int) (z : Z), P (.inl (x7, x8, x9, z)) → Wz z → R32 x7 → R32 x8 → R32 x9 → J mX3_joinedLine 6 c s post 121 [some (vr (some t0)), some (ii (x1)), none, none, none, none, some (vr (x6)), some (ii (x7)), some (ii (x8)), some (ii (x9)), none, none] [] (cz z)) (he0 : ∀ (x7 : Int) (z : Z), P (.inr (x7, z)) → Wz z → R32 x7 → J mX3_joinedLine 6 c s post 237 [some (vr (some t0)), none, none, none, none, none, none, some (ii (x7)), none, none, none, none] [] (cz z)) (H : F_X3_joinedLine_231 t0 x1 x6 x7 x8 x9 z c s P) : J mX3_joinedLine 6 c s (post) 231 [some (vr (some t0)), some (ii (x1)), none, none, none, none, some (vr (x6)), some (ii (x7)), some (ii (x8)), some (ii (x9)), none, none] [] (cz z) := by
  unfold F_X3_joinedLine_231 at H
  refine jz_iinc (dk dt_X3_joinedLine 119 rfl) rfl ?_
  refine j_goto 121 (dk dt_X3_joinedLine 120 rfl) (by decide) ?_
  exact j_el (hl _ _ _ _ H hw r_x7 r_x8 (r32_w _)) (And.intro rfl (And.intro rfl (And.intro rfl (And.intro rfl (And.intro rfl (And.intro rfl trivial))))))
def L_X3_joinedLine_184  (t0 : Nat) (x1 : Int) (x6 : Option Nat) (x7 : Int) (x8 : Int) (x9 : Int) (x11 : Int) (z : Z) (c : Nat) (s : Nat) (P : (Int × Z) ⊕ ((Z)) → Prop) : Prop :=
  (if x11 ≤ x8 then P (.inr z) else (zK z t0 = 4 ∧ (∃ a_205, zO z t0 1 = some a_205 ∧ zK z a_205 = 15 ∧ (0 ≤ w32 (x11 - 1) ∧ w32 (x11 - 1) < zN z a_205 ∧ (0 ≤ x11 ∧ x11 < zN z a_205 ∧ (∀ z_206, z_206 = wI z a_205 x11 (zI z a_205 (w32 (x11 - 1))) → P (.inl (w32 (x11 + (-1)), z_206))))))))
theorem U_X3_joinedLine_184  {t0 : Nat} {x1 : Int} {x6 : Option Nat} {x7 : Int} {x8 : Int} {x9 : Int} {x11 : Int} {z : Z} {c : Nat} {s : Nat} {P : (Int × Z) ⊕ ((Z)) → Prop} {post : Option Sv ⊕ String → Hp → Prop} (r_x1 : R32 x1) (r_x7 : R32 x7) (r_x8 : R32 x8) (r_x9 : R32 x9) (r_x11 : R32 x11) (hw : Wz z)  (hl : ∀ (x11 : Int) (z : Z), P (.inl (x11, z)) → Wz z → R32 x11 → J mX3_joinedLine 6 c s post 184 [some (vr (some t0)), some (ii (x1)), none, none, none, none, some (vr (x6)), some (ii (x7)), some (ii (x8)), some (ii (x9)), none, some (ii (x11))] [] (cz z)) (he0 : ∀ (z : Z), P (.inr z) → Wz z → J mX3_joinedLine 6 c s post 213 [some (vr (some t0)), some (ii (x1)), none, none, none, none, some (vr (x6)), some (ii (x7)), some (ii (x8)), some (ii (x9)), none, none] [] (cz z)) (H : L_X3_joinedLine_184 t0 x1 x6 x7 x8 x9 x11 z c s P) : J mX3_joinedLine 6 c s post 184 [some (vr (some t0)), some (ii (x1)), none, none, none, none, some (vr (x6)), some (ii (x7)), some (ii (x8)), some (ii (x9)), none, some (ii (x11))] [] (cz z) := by
  unfold L_X3_joinedLine_184 at H
  refine j_iload (dk dt_X3_joinedLine 95 rfl) rfl ?_
  refine j_iload (dk dt_X3_joinedLine 96 rfl) rfl ?_
  refine jz_icmp_le 213 (dk dt_X3_joinedLine 97 rfl) (by decide) r_x11 r_x8 H (fun H => ?_) (fun H => ?_)
  · exact j_el (he0 _ H hw) (And.intro rfl (And.intro rfl (And.intro rfl (And.intro rfl (And.intro rfl (And.intro rfl trivial))))))
  · refine j_aload_n (dk dt_X3_joinedLine 98 rfl) rfl ?_
    obtain ⟨k_192, H⟩ := H
    refine jz_getO (kz := 1) (dk dt_X3_joinedLine 99 rfl) fl_X3_17 rfl rfl rfl k_192 ?_
    refine j_iload (dk dt_X3_joinedLine 100 rfl) rfl ?_
    refine j_aload_n (dk dt_X3_joinedLine 101 rfl) rfl ?_
    refine jz_getO (kz := 1) (dk dt_X3_joinedLine 102 rfl) fl_X3_17 rfl rfl rfl k_192 ?_
    refine j_iload (dk dt_X3_joinedLine 103 rfl) rfl ?_
    refine j_iconst (v := Int32.ofInt 1) (dk dt_X3_joinedLine 104 rfl) (by decide) ?_
    refine jz_isub (dk dt_X3_joinedLine 105 rfl) ?_
    obtain ⟨a_205, e_205, k_205, H⟩ := H
    obtain ⟨p_205, q_205, H⟩ := H
    refine jz_iald (dk dt_X3_joinedLine 106 rfl) e_205 k_205 p_205 q_205 hw ?_
    obtain ⟨p_206, q_206, H⟩ := H
    refine jz_iast (dk dt_X3_joinedLine 107 rfl) e_205 k_205 p_206 q_206 hw (hw.1 _ _) (fun w_206 => ?_)
    replace H := H _ rfl
    refine jz_iinc (dk dt_X3_joinedLine 108 rfl) rfl ?_
    refine j_goto 184 (dk dt_X3_joinedLine 109 rfl) (by decide) ?_
    exact j_el (hl _ _ H w_206 (r32_w _)) (And.intro rfl (And.intro rfl (And.intro rfl (And.intro rfl (And.intro rfl (And.intro rfl (And.intro rfl trivial)))))))
def F_X3_joinedLine_184  (t0 : Nat) (x1 : Int) (x6 : Option Nat) (x7 : Int) (x8 : Int) (x9 : Int) (x11 : Int) (z : Z) (c : Nat) (s : Nat) (P : (Int × Int × Int × Z) ⊕ ((Int × Z)) → Prop) : Prop :=
  lp (S := Int × Z) (E := (Z)) (fun q P_ => L_X3_joinedLine_184 t0 x1 x6 x7 x8 x9 q.1 q.2 c s P_) (x11, z) (fun (z : Z) => (zK z t0 = 4 ∧ (∃ a_223, x6 = some a_223 ∧ zK z a_223 = 15 ∧ (0 ≤ x9 ∧ x9 < zN z a_223 ∧ (∃ a_224, zO z t0 1 = some a_224 ∧ zK z a_224 = 15 ∧ (0 ≤ x8 ∧ x8 < zN z a_224 ∧ (∀ z_224, z_224 = wI z a_224 x8 (zI z a_223 x9) → F_X3_joinedLine_231 t0 x1 x6 (w32 (x7 + 1)) (w32 (x8 + 1)) x9 z_224 c s P)))))))
theorem T_X3_joinedLine_184  {t0 : Nat} {x1 : Int} {x6 : Option Nat} {x7 : Int} {x8 : Int} {x9 : Int} {x11 : Int} {z : Z} {c : Nat} {s : Nat} {P : (Int × Int × Int × Z) ⊕ ((Int × Z)) → Prop} {post : Option Sv ⊕ String → Hp → Prop} (r_x1 : R32 x1) (r_x7 : R32 x7) (r_x8 : R32 x8) (r_x9 : R32 x9) (r_x11 : R32 x11) (hw : Wz z)  (hl : ∀ (x7 : Int) (x8 : Int) (x9 : Int) (z : Z), P (.inl (x7, x8, x9, z)) → Wz z → R32 x7 → R32 x8 → R32 x9 → J mX3_joinedLine 6 c s post 121 [some (vr (some t0)), some (ii (x1)), none, none, none, none, some (vr (x6)), some (ii (x7)), some (ii (x8)), some (ii (x9)), none, none] [] (cz z)) (he0 : ∀ (x7 : Int) (z : Z), P (.inr (x7, z)) → Wz z → R32 x7 → J mX3_joinedLine 6 c s post 237 [some (vr (some t0)), none, none, none, none, none, none, some (ii (x7)), none, none, none, none] [] (cz z)) (H : F_X3_joinedLine_184 t0 x1 x6 x7 x8 x9 x11 z c s P) : J mX3_joinedLine 6 c s (post) 184 [some (vr (some t0)), some (ii (x1)), none, none, none, none, some (vr (x6)), some (ii (x7)), some (ii (x8)), some (ii (x9)), none, some (ii (x11))] [] (cz z) := by
  unfold F_X3_joinedLine_184 at H
  refine lp_J (G := fun q => Wz (q.2) → R32 (q.1) → J mX3_joinedLine 6 c s (post) 184 [some (vr (some t0)), some (ii (x1)), none, none, none, none, some (vr (x6)), some (ii (x7)), some (ii (x8)), some (ii (x9)), none, some (ii ((q.1)))] [] (cz (q.2))) (fun q P_ hl_ he_ Hb => ?_) (x11, z) H hw r_x11
  obtain ⟨x11, z⟩ := q
  intro hw r_x11
  refine U_X3_joinedLine_184 (P := P_) r_x1 r_x7 r_x8 r_x9 r_x11 hw  (fun x11 z Hp hw r_x11 => hl_ (x11, z) Hp hw r_x11) ?_ Hb
  · intro z Hp hw
    have H := he_ _ Hp
    refine j_aload_n (dk dt_X3_joinedLine 110 rfl) rfl ?_
    obtain ⟨k_214, H⟩ := H
    refine jz_getO (kz := 1) (dk dt_X3_joinedLine 111 rfl) fl_X3_17 rfl rfl rfl k_214 ?_
    refine j_iload (dk dt_X3_joinedLine 112 rfl) rfl ?_
    refine j_aload (dk dt_X3_joinedLine 113 rfl) rfl ?_
    refine j_iload (dk dt_X3_joinedLine 114 rfl) rfl ?_
    obtain ⟨a_223, e_223, k_223, H⟩ := H
    obtain ⟨p_223, q_223, H⟩ := H
    refine jz_iald (dk dt_X3_joinedLine 115 rfl) e_223 k_223 p_223 q_223 hw ?_
    obtain ⟨a_224, e_224, k_224, H⟩ := H
    obtain ⟨p_224, q_224, H⟩ := H
    refine jz_iast (dk dt_X3_joinedLine 116 rfl) e_224 k_224 p_224 q_224 hw (hw.1 _ _) (fun w_224 => ?_)
    replace H := H _ rfl
    refine jz_iinc (dk dt_X3_joinedLine 117 rfl) rfl ?_
    refine jz_iinc (dk dt_X3_joinedLine 118 rfl) rfl ?_
    exact j_el (T_X3_joinedLine_231 r_x1 (r32_w _) (r32_w _) r_x9 w_224  hl he0 H) (And.intro rfl (And.intro rfl (And.intro rfl (And.intro rfl (And.intro rfl (And.intro rfl trivial))))))
def L_X3_joinedLine_121  (t0 : Nat) (x1 : Int) (x6 : Option Nat) (x7 : Int) (x8 : Int) (x9 : Int) (z : Z) (c : Nat) (s : Nat) (P : (Int × Int × Int × Z) ⊕ ((Int × Z)) → Prop) : Prop :=
  (∃ a_125, x6 = some a_125 ∧ zK z a_125 = 15 ∧ (if zN z a_125 ≤ x9 then P (.inr (x7, z)) else (zK z t0 = 4 ∧ (0 ≤ x9 ∧ x9 < zN z a_125 ∧ F_X11_placeIn (zO z t0 1) x7 (zI z a_125 x9) z (fun x_140 => (if x_140 ≤ 0 then F_X3_stays t0 x1 (zI z a_125 x9) z (fun x_164 => (if x_164 = 0 then F_X3_joinedLine_231 t0 x1 x6 x7 x8 x9 z c s P else (∃ a_176, zO z t0 1 = some a_176 ∧ zK z a_176 = 15 ∧ (if zN z a_176 ≤ x7 then F_X3_joinedLine_231 t0 x1 x6 x7 x8 x9 z c s P else F_X3_joinedLine_184 t0 x1 x6 x7 x8 x9 x7 z c s P)))) else F_X3_joinedLine_231 t0 x1 x6 x7 x_140 x9 z c s P))))))
theorem U_X3_joinedLine_121  {t0 : Nat} {x1 : Int} {x6 : Option Nat} {x7 : Int} {x8 : Int} {x9 : Int} {z : Z} {c : Nat} {s : Nat} {P : (Int × Int × Int × Z) ⊕ ((Int × Z)) → Prop} {post : Option Sv ⊕ String → Hp → Prop} (r_x1 : R32 x1) (r_x7 : R32 x7) (r_x8 : R32 x8) (r_x9 : R32 x9) (hw : Wz z)  (hl : ∀ (x7 : Int) (x8 : Int) (x9 : Int) (z : Z), P (.inl (x7, x8, x9, z)) → Wz z → R32 x7 → R32 x8 → R32 x9 → J mX3_joinedLine 6 c s post 121 [some (vr (some t0)), some (ii (x1)), none, none, none, none, some (vr (x6)), some (ii (x7)), some (ii (x8)), some (ii (x9)), none, none] [] (cz z)) (he0 : ∀ (x7 : Int) (z : Z), P (.inr (x7, z)) → Wz z → R32 x7 → J mX3_joinedLine 6 c s post 237 [some (vr (some t0)), none, none, none, none, none, none, some (ii (x7)), none, none, none, none] [] (cz z)) (H : L_X3_joinedLine_121 t0 x1 x6 x7 x8 x9 z c s P) : J mX3_joinedLine 6 c s post 121 [some (vr (some t0)), some (ii (x1)), none, none, none, none, some (vr (x6)), some (ii (x7)), some (ii (x8)), some (ii (x9)), none, none] [] (cz z) := by
  unfold L_X3_joinedLine_121 at H
  refine j_iload (dk dt_X3_joinedLine 64 rfl) rfl ?_
  refine j_aload (dk dt_X3_joinedLine 65 rfl) rfl ?_
  obtain ⟨a_125, e_125, k_125, H⟩ := H
  refine jz_alen (t := 1) (dk dt_X3_joinedLine 66 rfl) e_125 k_125 (by decide) hw ?_
  refine jz_icmp_ge 237 (dk dt_X3_joinedLine 67 rfl) (by decide) r_x9 (r32_len hw _) H (fun H => ?_) (fun H => ?_)
  · exact j_el (he0 _ _ H hw r_x7) (And.intro rfl (And.intro rfl trivial))
  · refine j_aload_n (dk dt_X3_joinedLine 68 rfl) rfl ?_
    obtain ⟨k_130, H⟩ := H
    refine jz_getO (kz := 1) (dk dt_X3_joinedLine 69 rfl) fl_X3_17 rfl rfl rfl k_130 ?_
    refine j_iload (dk dt_X3_joinedLine 70 rfl) rfl ?_
    refine j_aload (dk dt_X3_joinedLine 71 rfl) rfl ?_
    refine j_iload (dk dt_X3_joinedLine 72 rfl) rfl ?_
    obtain ⟨p_139, q_139, H⟩ := H
    refine jz_iald (dk dt_X3_joinedLine 73 rfl) e_125 k_125 p_139 q_139 hw ?_
    refine j_callSN3 (dk dt_X3_joinedLine 74 rfl) snl_X3_70 (T_X11_placeIn r_x7 (hw.1 _ _) hw H) rfl (by decide) (Nat.zero_le _) (Nat.zero_le _) (Nat.le_of_ble_eq_true rfl) (fun v_140 h_140 P_140 => ?_)
    obtain ⟨x_140, rfl, r_140, rfl, H⟩ := P_140
    dsimp only [rs]
    refine j_istore (dk dt_X3_joinedLine 75 rfl) (by decide) ?_
    refine j_iload (dk dt_X3_joinedLine 76 rfl) rfl ?_
    refine jz_if_le 157 (dk dt_X3_joinedLine 77 rfl) (by decide) r_140 H (fun H => ?_) (fun H => ?_)
    · refine j_aload_n (dk dt_X3_joinedLine 81 rfl) rfl ?_
      refine j_iload_n (dk dt_X3_joinedLine 82 rfl) rfl ?_
      refine j_aload (dk dt_X3_joinedLine 83 rfl) rfl ?_
      refine j_iload (dk dt_X3_joinedLine 84 rfl) rfl ?_
      refine jz_iald (dk dt_X3_joinedLine 85 rfl) e_125 k_125 p_139 q_139 hw ?_
      refine jz_callV2 (dk dt_X3_joinedLine 86 rfl) vl_X3_66 rfl (T_X3_stays r_x1 (hw.1 _ _) hw H) k_130 rfl (by decide) (Nat.zero_le _) (Nat.zero_le _) (Nat.le_of_ble_eq_true rfl) (fun v_164 h_164 P_164 => ?_)
      obtain ⟨x_164, rfl, r_164, rfl, H⟩ := P_164
      dsimp only [rs]
      refine jz_if_eq 231 (dk dt_X3_joinedLine 87 rfl) (by decide) r_164 H (fun H => ?_) (fun H => ?_)
      · exact j_el (T_X3_joinedLine_231 r_x1 r_x7 r_x8 r_x9 hw  hl he0 H) (And.intro rfl (And.intro rfl (And.intro rfl (And.intro rfl (And.intro rfl (And.intro rfl trivial))))))
      · refine j_iload (dk dt_X3_joinedLine 88 rfl) rfl ?_
        refine j_aload_n (dk dt_X3_joinedLine 89 rfl) rfl ?_
        refine jz_getO (kz := 1) (dk dt_X3_joinedLine 90 rfl) fl_X3_17 rfl rfl rfl k_130 ?_
        obtain ⟨a_176, e_176, k_176, H⟩ := H
        refine jz_alen (t := 1) (dk dt_X3_joinedLine 91 rfl) e_176 k_176 (by decide) hw ?_
        refine jz_icmp_ge 231 (dk dt_X3_joinedLine 92 rfl) (by decide) r_x7 (r32_len hw _) H (fun H => ?_) (fun H => ?_)
        · exact j_el (T_X3_joinedLine_231 r_x1 r_x7 r_x8 r_x9 hw  hl he0 H) (And.intro rfl (And.intro rfl (And.intro rfl (And.intro rfl (And.intro rfl (And.intro rfl trivial))))))
        · refine j_iload (dk dt_X3_joinedLine 93 rfl) rfl ?_
          refine j_istore (dk dt_X3_joinedLine 94 rfl) (by decide) ?_
          exact j_el (T_X3_joinedLine_184 r_x1 r_x7 r_x8 r_x9 r_x7 hw  hl he0 H) (And.intro rfl (And.intro rfl (And.intro rfl (And.intro rfl (And.intro rfl (And.intro rfl (And.intro rfl trivial)))))))
    · refine j_iload (dk dt_X3_joinedLine 78 rfl) rfl ?_
      refine j_istore (dk dt_X3_joinedLine 79 rfl) (by decide) ?_
      refine j_goto 231 (dk dt_X3_joinedLine 80 rfl) (by decide) ?_
      exact j_el (T_X3_joinedLine_231 r_x1 r_x7 r_140 r_x9 hw  hl he0 H) (And.intro rfl (And.intro rfl (And.intro rfl (And.intro rfl (And.intro rfl (And.intro rfl trivial))))))
def F_X3_joinedLine_121  (t0 : Nat) (x1 : Int) (x6 : Option Nat) (x7 : Int) (x8 : Int) (x9 : Int) (z : Z) (c : Nat) (s : Nat) (P : Option Nat → Z → Prop) : Prop :=
  lp (S := Int × Int × Int × Z) (E := (Int × Z)) (fun q P_ => L_X3_joinedLine_121 t0 x1 x6 q.1 q.2.1 q.2.2.1 q.2.2.2 c s P_) (x7, x8, x9, z) (fun e => match e with | (x7, z) => (zK z t0 = 4 ∧ (∃ c_243 s_243, c_243 ≤ c ∧ s_243 ≤ s ∧ F_J7_copyOf_59c91 (zO z t0 1) x7 z c_243 s_243 (fun x_243 z_243 => P x_243 z_243))))
theorem T_X3_joinedLine_121  {t0 : Nat} {x1 : Int} {x6 : Option Nat} {x7 : Int} {x8 : Int} {x9 : Int} {z : Z} {c : Nat} {s : Nat} {P : Option Nat → Z → Prop} (r_x1 : R32 x1) (r_x7 : R32 x7) (r_x8 : R32 x8) (r_x9 : R32 x9) (hw : Wz z)   (H : F_X3_joinedLine_121 t0 x1 x6 x7 x8 x9 z c s P) : J mX3_joinedLine 6 c s (nx (QZA P)) 121 [some (vr (some t0)), some (ii (x1)), none, none, none, none, some (vr (x6)), some (ii (x7)), some (ii (x8)), some (ii (x9)), none, none] [] (cz z) := by
  unfold F_X3_joinedLine_121 at H
  refine lp_J (G := fun q => Wz (q.2.2.2) → R32 (q.1) → R32 (q.2.1) → R32 (q.2.2.1) → J mX3_joinedLine 6 c s (nx (QZA P)) 121 [some (vr (some t0)), some (ii (x1)), none, none, none, none, some (vr (x6)), some (ii ((q.1))), some (ii ((q.2.1))), some (ii ((q.2.2.1))), none, none] [] (cz (q.2.2.2))) (fun q P_ hl_ he_ Hb => ?_) (x7, x8, x9, z) H hw r_x7 r_x8 r_x9
  obtain ⟨x7, x8, x9, z⟩ := q
  intro hw r_x7 r_x8 r_x9
  refine U_X3_joinedLine_121 (P := P_) r_x1 r_x7 r_x8 r_x9 hw  (fun x7 x8 x9 z Hp hw r_x7 r_x8 r_x9 => hl_ (x7, x8, x9, z) Hp hw r_x7 r_x8 r_x9) ?_ Hb
  · intro x7 z Hp hw r_x7
    have H := he_ _ Hp
    refine j_aload_n (dk dt_X3_joinedLine 121 rfl) rfl ?_
    obtain ⟨k_238, H⟩ := H
    refine jz_getO (kz := 1) (dk dt_X3_joinedLine 122 rfl) fl_X3_17 rfl rfl rfl k_238 ?_
    refine j_iload (dk dt_X3_joinedLine 123 rfl) rfl ?_
    obtain ⟨c_243, s_243, hc_243, hs_243, H⟩ := H
    refine j_callS2 (dk dt_X3_joinedLine 124 rfl) sl_X3_74 (T_J7_copyOf_59c91 r_x7 hw H) rfl (by decide) hc_243 hs_243 (Nat.le_of_ble_eq_true rfl) (fun v_243 h_243 P_243 => ?_)
    obtain ⟨x_243, z_243, rfl, rfl, w_243, H⟩ := P_243
    dsimp only [rs]
    exact j_areturn (dk dt_X3_joinedLine 125 rfl) rfl rfl ⟨_, _, rfl, rfl, w_243, H⟩
def F_X3_joinedLine_63  (t0 : Nat) (x1 : Int) (x5 : Option Nat) (x6 : Option Nat) (x7 : Int) (x8 : Int) (z : Z) (c : Nat) (s : Nat) (P : Option Nat → Z → Prop) : Prop :=
  lp (S := Int × Int × Z) (E := (Int × Z)) (fun q P_ => L_X3_joinedLine_63 t0 x1 x5 x6 q.1 q.2.1 q.2.2 c s P_) (x7, x8, z) (fun e => match e with | (x7, z) => F_X3_joinedLine_121 t0 x1 x6 x7 0 0 z c s P)
theorem T_X3_joinedLine_63  {t0 : Nat} {x1 : Int} {x5 : Option Nat} {x6 : Option Nat} {x7 : Int} {x8 : Int} {z : Z} {c : Nat} {s : Nat} {P : Option Nat → Z → Prop} (r_x1 : R32 x1) (r_x7 : R32 x7) (r_x8 : R32 x8) (hw : Wz z)   (H : F_X3_joinedLine_63 t0 x1 x5 x6 x7 x8 z c s P) : J mX3_joinedLine 6 c s (nx (QZA P)) 63 [some (vr (some t0)), some (ii (x1)), none, none, none, some (vr (x5)), some (vr (x6)), some (ii (x7)), some (ii (x8)), none, none, none] [] (cz z) := by
  unfold F_X3_joinedLine_63 at H
  refine lp_J (G := fun q => Wz (q.2.2) → R32 (q.1) → R32 (q.2.1) → J mX3_joinedLine 6 c s (nx (QZA P)) 63 [some (vr (some t0)), some (ii (x1)), none, none, none, some (vr (x5)), some (vr (x6)), some (ii ((q.1))), some (ii ((q.2.1))), none, none, none] [] (cz (q.2.2))) (fun q P_ hl_ he_ Hb => ?_) (x7, x8, z) H hw r_x7 r_x8
  obtain ⟨x7, x8, z⟩ := q
  intro hw r_x7 r_x8
  refine U_X3_joinedLine_63 (P := P_) r_x1 r_x7 r_x8 hw  (fun x7 x8 z Hp hw r_x7 r_x8 => hl_ (x7, x8, z) Hp hw r_x7 r_x8) ?_ Hb
  · intro x7 z Hp hw r_x7
    have H := he_ _ Hp
    refine j_iconst (v := Int32.ofInt 0) (dk dt_X3_joinedLine 60 rfl) (by decide) ?_
    refine j_istore (dk dt_X3_joinedLine 61 rfl) (by decide) ?_
    refine j_iconst (v := Int32.ofInt 0) (dk dt_X3_joinedLine 62 rfl) (by decide) ?_
    refine j_istore (dk dt_X3_joinedLine 63 rfl) (by decide) ?_
    exact j_el (T_X3_joinedLine_121 r_x1 r_x7 (by decide) (by decide) hw   H) (And.intro rfl (And.intro rfl (And.intro rfl (And.intro rfl (And.intro rfl (And.intro rfl trivial))))))
def F_X3_joinedLine_55  (t0 : Nat) (x1 : Int) (x5 : Option Nat) (s0 : Option Nat) (z : Z) (c : Nat) (s : Nat) (P : Option Nat → Z → Prop) : Prop :=
  F_X3_joinedLine_63 t0 x1 x5 s0 0 0 z c s P
theorem T_X3_joinedLine_55  {t0 : Nat} {x1 : Int} {x5 : Option Nat} {s0 : Option Nat} {z : Z} {c : Nat} {s : Nat} {P : Option Nat → Z → Prop} (r_x1 : R32 x1) (hw : Wz z)   (H : F_X3_joinedLine_55 t0 x1 x5 s0 z c s P) : J mX3_joinedLine 6 c s (nx (QZA P)) 55 [some (vr (some t0)), some (ii (x1)), none, none, none, some (vr (x5)), none, none, none, none, none, none] [vr (s0)] (cz z) := by
  unfold F_X3_joinedLine_55 at H
  refine j_astore (dk dt_X3_joinedLine 29 rfl) (by decide) ?_
  refine j_iconst (v := Int32.ofInt 0) (dk dt_X3_joinedLine 30 rfl) (by decide) ?_
  refine j_istore (dk dt_X3_joinedLine 31 rfl) (by decide) ?_
  refine j_iconst (v := Int32.ofInt 0) (dk dt_X3_joinedLine 32 rfl) (by decide) ?_
  refine j_istore (dk dt_X3_joinedLine 33 rfl) (by decide) ?_
  exact j_el (T_X3_joinedLine_63 r_x1 (by decide) (by decide) hw   H) (And.intro rfl (And.intro rfl (And.intro rfl (And.intro rfl (And.intro rfl (And.intro rfl trivial))))))
def F_X3_joinedLine_43  (t0 : Nat) (x1 : Int) (x2 : Option Nat) (x3 : Option Nat) (x4 : Int) (s0 : Option Nat) (z : Z) (c : Nat) (s : Nat) (P : Option Nat → Z → Prop) : Prop :=
  (if x4 = 0 then F_X3_joinedLine_55 t0 x1 s0 x3 z c s P else F_X3_joinedLine_55 t0 x1 s0 x2 z c s P)
theorem T_X3_joinedLine_43  {t0 : Nat} {x1 : Int} {x2 : Option Nat} {x3 : Option Nat} {x4 : Int} {s0 : Option Nat} {z : Z} {c : Nat} {s : Nat} {P : Option Nat → Z → Prop} (r_x1 : R32 x1) (r_x4 : R32 x4) (hw : Wz z)   (H : F_X3_joinedLine_43 t0 x1 x2 x3 x4 s0 z c s P) : J mX3_joinedLine 6 c s (nx (QZA P)) 43 [some (vr (some t0)), some (ii (x1)), some (vr (x2)), some (vr (x3)), some (ii (x4)), none, none, none, none, none, none, none] [vr (s0)] (cz z) := by
  unfold F_X3_joinedLine_43 at H
  refine j_astore (dk dt_X3_joinedLine 23 rfl) (by decide) ?_
  refine j_iload (dk dt_X3_joinedLine 24 rfl) rfl ?_
  refine jz_if_eq 54 (dk dt_X3_joinedLine 25 rfl) (by decide) r_x4 H (fun H => ?_) (fun H => ?_)
  · refine j_aload_n (dk dt_X3_joinedLine 28 rfl) rfl ?_
    exact j_el (T_X3_joinedLine_55 r_x1 hw   H) (And.intro rfl (And.intro rfl (And.intro rfl trivial)))
  · refine j_aload_n (dk dt_X3_joinedLine 26 rfl) rfl ?_
    refine j_goto 55 (dk dt_X3_joinedLine 27 rfl) (by decide) ?_
    exact j_el (T_X3_joinedLine_55 r_x1 hw   H) (And.intro rfl (And.intro rfl (And.intro rfl trivial)))
def F_X3_joinedLine  (t0 : Nat) (x1 : Int) (z : Z) (c : Nat) (s : Nat) (P : Option Nat → Z → Prop) : Prop :=
  (zK z t0 = 4 ∧ (∃ a_5, zO z t0 3 = some a_5 ∧ zK z a_5 = 7 ∧ F_X6_line a_5 x1 z (fun x_5 => (∃ a_14, zO z t0 4 = some a_14 ∧ zK z a_14 = 7 ∧ F_X6_line a_14 x1 z (fun x_14 => (∃ a_24, zO z t0 5 = some a_24 ∧ zK z a_24 = 7 ∧ F_X6_line a_24 x1 z (fun x_24 => F_X11_inSameOrder x_5 x_24 x_14 z (fun x_28 => (if x_28 = 0 then F_X3_joinedLine_43 t0 x1 x_5 x_14 x_28 x_5 z c s P else F_X3_joinedLine_43 t0 x1 x_5 x_14 x_28 x_14 z c s P)))))))))
theorem T_X3_joinedLine  {t0 : Nat} {x1 : Int} {z : Z} {c : Nat} {s : Nat} {P : Option Nat → Z → Prop} (r_x1 : R32 x1) (hw : Wz z)  (H : F_X3_joinedLine t0 x1 z c s P) : Con mX3_joinedLine 6 c s [vr (some t0), ii (x1)] (cz z) (QZA P) := by
  refine con_of rfl (Nat.le_of_ble_eq_true rfl) (by decide) ?_
  show J mX3_joinedLine 6 c s _ 0 [some (vr (some t0)), some (ii (x1)), none, none, none, none, none, none, none, none, none, none] [] (cz z)
  unfold F_X3_joinedLine at H
  refine j_aload_n (dk dt_X3_joinedLine 0 rfl) rfl ?_
  obtain ⟨k_1, H⟩ := H
  refine jz_getO (kz := 3) (dk dt_X3_joinedLine 1 rfl) fl_X3_29 rfl rfl rfl k_1 ?_
  refine j_iload_n (dk dt_X3_joinedLine 2 rfl) rfl ?_
  obtain ⟨a_5, e_5, k_5, H⟩ := H
  refine jz_callV1 (dk dt_X3_joinedLine 3 rfl) vl_X3_60 e_5 (T_X6_line r_x1 hw H) k_5 rfl (by decide) (Nat.zero_le _) (Nat.zero_le _) (Nat.le_of_ble_eq_true rfl) (fun v_5 h_5 P_5 => ?_)
  obtain ⟨x_5, rfl, rfl, H⟩ := P_5
  dsimp only [rs]
  refine j_astore_n (dk dt_X3_joinedLine 4 rfl) (by decide) ?_
  refine j_aload_n (dk dt_X3_joinedLine 5 rfl) rfl ?_
  refine jz_getO (kz := 4) (dk dt_X3_joinedLine 6 rfl) fl_X3_33 rfl rfl rfl k_1 ?_
  refine j_iload_n (dk dt_X3_joinedLine 7 rfl) rfl ?_
  obtain ⟨a_14, e_14, k_14, H⟩ := H
  refine jz_callV1 (dk dt_X3_joinedLine 8 rfl) vl_X3_60 e_14 (T_X6_line r_x1 hw H) k_14 rfl (by decide) (Nat.zero_le _) (Nat.zero_le _) (Nat.le_of_ble_eq_true rfl) (fun v_14 h_14 P_14 => ?_)
  obtain ⟨x_14, rfl, rfl, H⟩ := P_14
  dsimp only [rs]
  refine j_astore_n (dk dt_X3_joinedLine 9 rfl) (by decide) ?_
  refine j_aload_n (dk dt_X3_joinedLine 10 rfl) rfl ?_
  refine j_aload_n (dk dt_X3_joinedLine 11 rfl) rfl ?_
  refine jz_getO (kz := 5) (dk dt_X3_joinedLine 12 rfl) fl_X3_36 rfl rfl rfl k_1 ?_
  refine j_iload_n (dk dt_X3_joinedLine 13 rfl) rfl ?_
  obtain ⟨a_24, e_24, k_24, H⟩ := H
  refine jz_callV1 (dk dt_X3_joinedLine 14 rfl) vl_X3_60 e_24 (T_X6_line r_x1 hw H) k_24 rfl (by decide) (Nat.zero_le _) (Nat.zero_le _) (Nat.le_of_ble_eq_true rfl) (fun v_24 h_24 P_24 => ?_)
  obtain ⟨x_24, rfl, rfl, H⟩ := P_24
  dsimp only [rs]
  refine j_aload_n (dk dt_X3_joinedLine 15 rfl) rfl ?_
  refine j_callSN3 (dk dt_X3_joinedLine 16 rfl) snl_X3_62 (T_X11_inSameOrder hw H) rfl (by decide) (Nat.zero_le _) (Nat.zero_le _) (Nat.le_of_ble_eq_true rfl) (fun v_28 h_28 P_28 => ?_)
  obtain ⟨x_28, rfl, r_28, rfl, H⟩ := P_28
  dsimp only [rs]
  refine j_istore (dk dt_X3_joinedLine 17 rfl) (by decide) ?_
  refine j_iload (dk dt_X3_joinedLine 18 rfl) rfl ?_
  refine jz_if_eq 42 (dk dt_X3_joinedLine 19 rfl) (by decide) r_28 H (fun H => ?_) (fun H => ?_)
  · refine j_aload_n (dk dt_X3_joinedLine 22 rfl) rfl ?_
    exact j_el (T_X3_joinedLine_43 r_x1 r_28 hw   H) (And.intro rfl (And.intro rfl (And.intro rfl (And.intro rfl (And.intro rfl trivial)))))
  · refine j_aload_n (dk dt_X3_joinedLine 20 rfl) rfl ?_
    refine j_goto 43 (dk dt_X3_joinedLine 21 rfl) (by decide) ?_
    exact j_el (T_X3_joinedLine_43 r_x1 r_28 hw   H) (And.intro rfl (And.intro rfl (And.intro rfl (And.intro rfl (And.intro rfl trivial)))))
