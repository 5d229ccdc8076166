def F_X12_putPart_336 (R_X12_putPart : Int → Int → Mu → (Mu → Prop) → Prop) (R_X12_putSide : Int → Int → Int → Mu → (Mu → Prop) → Prop) (u : Mu) (P : Mu → Prop) : Prop :=
  P u
theorem T_X12_putPart_336 {n : Nat} {R_X12_putPart : Int → Int → Mu → (Mu → Prop) → Prop} {R_X12_putSide : Int → Int → Int → Mu → (Mu → Prop) → Prop} {u : Mu} {P : Mu → Prop} {h : Hp} {g : Nat → Nat}  (m : Ms h g u) (ih_X12_putPart : ∀ {x1 : Int} {x2 : Int} {u : Mu} {P : Mu → Prop} {h : Hp} {g : Nat → Nat}, R32 x1 → R32 x2 → Ms h g u → R_X12_putPart x1 x2 u P → Con mX12_putPart (9 + n) 0 0 [vr (some (g 0)), ii (x1), ii (x2)] h (QMV g P)) (ih_X12_putSide : ∀ {x1 : Int} {x2 : Int} {x3 : Int} {u : Mu} {P : Mu → Prop} {h : Hp} {g : Nat → Nat}, R32 x1 → R32 x2 → R32 x3 → Ms h g u → R_X12_putSide x1 x2 x3 u P → Con mX12_putSide (9 + n) 0 0 [vr (some (g 0)), ii (x1), ii (x2), ii (x3)] h (QMV g P))  (H : F_X12_putPart_336 R_X12_putPart R_X12_putSide u P) : J mX12_putPart (9 + n + 1) 0 0 (nx (QMV g P)) 336 [none, none, none, none, none, none, none] [] h := by
  unfold F_X12_putPart_336 at H
  exact j_return (dk dt_X12_putPart 181 rfl) rfl ⟨_, rfl, m, H⟩
def F_X12_putPart_93 (R_X12_putPart : Int → Int → Mu → (Mu → Prop) → Prop) (R_X12_putSide : Int → Int → Int → Mu → (Mu → Prop) → Prop) (s1 : Nat) (u : Mu) (P : Mu → Prop) : Prop :=
  F_X12_say s1 u (fun u_93 => F_X12_putPart_336 R_X12_putPart R_X12_putSide u_93 P)
theorem T_X12_putPart_93 {n : Nat} {R_X12_putPart : Int → Int → Mu → (Mu → Prop) → Prop} {R_X12_putSide : Int → Int → Int → Mu → (Mu → Prop) → Prop} {s1 : Nat} {u : Mu} {P : Mu → Prop} {h : Hp} {g : Nat → Nat}  (m : Ms h g u) (ih_X12_putPart : ∀ {x1 : Int} {x2 : Int} {u : Mu} {P : Mu → Prop} {h : Hp} {g : Nat → Nat}, R32 x1 → R32 x2 → Ms h g u → R_X12_putPart x1 x2 u P → Con mX12_putPart (9 + n) 0 0 [vr (some (g 0)), ii (x1), ii (x2)] h (QMV g P)) (ih_X12_putSide : ∀ {x1 : Int} {x2 : Int} {x3 : Int} {u : Mu} {P : Mu → Prop} {h : Hp} {g : Nat → Nat}, R32 x1 → R32 x2 → R32 x3 → Ms h g u → R_X12_putSide x1 x2 x3 u P → Con mX12_putSide (9 + n) 0 0 [vr (some (g 0)), ii (x1), ii (x2), ii (x3)] h (QMV g P))  (H : F_X12_putPart_93 R_X12_putPart R_X12_putSide s1 u P) : J mX12_putPart (9 + n + 1) 0 0 (nx (QMV g P)) 93 [none, none, none, none, none, none, none] [vs (s1), vr (some (g 0))] h := by
  unfold F_X12_putPart_93 at H
  refine jz_callV1 (dk dt_X12_putPart 52 rfl) vl_X12_786 rfl (T_X12_say m H) m.1.1 rfl (by omega) (Nat.zero_le _) (Nat.zero_le _) (Nat.le_of_ble_eq_true rfl) (fun v_93 h_93 P_93 => ?_)
  obtain ⟨u_93, rfl, m_93, H⟩ := P_93
  dsimp only [rs]
  refine j_goto 336 (dk dt_X12_putPart 53 rfl) (by decide) ?_
  exact j_el (T_X12_putPart_336  m_93 ih_X12_putPart ih_X12_putSide  H) trivial
def F_X12_putPart_125 (R_X12_putPart : Int → Int → Mu → (Mu → Prop) → Prop) (R_X12_putSide : Int → Int → Int → Mu → (Mu → Prop) → Prop) (x1 : Int) (x2 : Int) (u : Mu) (P : Mu → Prop) : Prop :=
  F_X12_putPlace x1 x2 u (fun u_128 => F_X12_putPart_336 R_X12_putPart R_X12_putSide u_128 P)
theorem T_X12_putPart_125 {n : Nat} {R_X12_putPart : Int → Int → Mu → (Mu → Prop) → Prop} {R_X12_putSide : Int → Int → Int → Mu → (Mu → Prop) → Prop} {x1 : Int} {x2 : Int} {u : Mu} {P : Mu → Prop} {h : Hp} {g : Nat → Nat} (r_x1 : R32 x1) (r_x2 : R32 x2) (m : Ms h g u) (ih_X12_putPart : ∀ {x1 : Int} {x2 : Int} {u : Mu} {P : Mu → Prop} {h : Hp} {g : Nat → Nat}, R32 x1 → R32 x2 → Ms h g u → R_X12_putPart x1 x2 u P → Con mX12_putPart (9 + n) 0 0 [vr (some (g 0)), ii (x1), ii (x2)] h (QMV g P)) (ih_X12_putSide : ∀ {x1 : Int} {x2 : Int} {x3 : Int} {u : Mu} {P : Mu → Prop} {h : Hp} {g : Nat → Nat}, R32 x1 → R32 x2 → R32 x3 → Ms h g u → R_X12_putSide x1 x2 x3 u P → Con mX12_putSide (9 + n) 0 0 [vr (some (g 0)), ii (x1), ii (x2), ii (x3)] h (QMV g P))  (H : F_X12_putPart_125 R_X12_putPart R_X12_putSide x1 x2 u P) : J mX12_putPart (9 + n + 1) 0 0 (nx (QMV g P)) 125 [some (vr (some (g 0))), some (ii (x1)), some (ii (x2)), none, none, none, none] [] h := by
  unfold F_X12_putPart_125 at H
  refine j_aload_n (dk dt_X12_putPart 67 rfl) rfl ?_
  refine j_iload_n (dk dt_X12_putPart 68 rfl) rfl ?_
  refine j_iload_n (dk dt_X12_putPart 69 rfl) rfl ?_
  refine jz_callV2 (dk dt_X12_putPart 70 rfl) vl_X12_799 rfl (T_X12_putPlace r_x1 r_x2 m H) m.1.1 rfl (by omega) (Nat.zero_le _) (Nat.zero_le _) (Nat.le_of_ble_eq_true rfl) (fun v_128 h_128 P_128 => ?_)
  obtain ⟨u_128, rfl, m_128, H⟩ := P_128
  dsimp only [rs]
  refine j_goto 336 (dk dt_X12_putPart 71 rfl) (by decide) ?_
  exact j_el (T_X12_putPart_336  m_128 ih_X12_putPart ih_X12_putSide  H) trivial
def F_X12_putPart_171 (R_X12_putPart : Int → Int → Mu → (Mu → Prop) → Prop) (R_X12_putSide : Int → Int → Int → Mu → (Mu → Prop) → Prop) (s1 : Int) (s2 : Int) (s3 : Int) (u : Mu) (P : Mu → Prop) : Prop :=
  R_X12_putSide s1 s2 s3 u (fun u_171 => F_X12_putPart_336 R_X12_putPart R_X12_putSide u_171 P)
theorem T_X12_putPart_171 {n : Nat} {R_X12_putPart : Int → Int → Mu → (Mu → Prop) → Prop} {R_X12_putSide : Int → Int → Int → Mu → (Mu → Prop) → Prop} {s1 : Int} {s2 : Int} {s3 : Int} {u : Mu} {P : Mu → Prop} {h : Hp} {g : Nat → Nat} (r_s1 : R32 s1) (r_s2 : R32 s2) (r_s3 : R32 s3) (m : Ms h g u) (ih_X12_putPart : ∀ {x1 : Int} {x2 : Int} {u : Mu} {P : Mu → Prop} {h : Hp} {g : Nat → Nat}, R32 x1 → R32 x2 → Ms h g u → R_X12_putPart x1 x2 u P → Con mX12_putPart (9 + n) 0 0 [vr (some (g 0)), ii (x1), ii (x2)] h (QMV g P)) (ih_X12_putSide : ∀ {x1 : Int} {x2 : Int} {x3 : Int} {u : Mu} {P : Mu → Prop} {h : Hp} {g : Nat → Nat}, R32 x1 → R32 x2 → R32 x3 → Ms h g u → R_X12_putSide x1 x2 x3 u P → Con mX12_putSide (9 + n) 0 0 [vr (some (g 0)), ii (x1), ii (x2), ii (x3)] h (QMV g P))  (H : F_X12_putPart_171 R_X12_putPart R_X12_putSide s1 s2 s3 u P) : J mX12_putPart (9 + n + 1) 0 0 (nx (QMV g P)) 171 [none, none, none, none, none, none, none] [ii (s3), ii (s2), ii (s1), vr (some (g 0))] h := by
  unfold F_X12_putPart_171 at H
  refine jz_callV3 (dk dt_X12_putPart 95 rfl) vl_X12_802 rfl (ih_X12_putSide r_s1 r_s2 r_s3 m H) m.1.1 rfl (by omega) (Nat.zero_le _) (Nat.zero_le _) (Nat.le_of_ble_eq_true rfl) (fun v_171 h_171 P_171 => ?_)
  obtain ⟨u_171, rfl, m_171, H⟩ := P_171
  dsimp only [rs]
  refine j_goto 336 (dk dt_X12_putPart 96 rfl) (by decide) ?_
  exact j_el (T_X12_putPart_336  m_171 ih_X12_putPart ih_X12_putSide  H) trivial
def F_X12_putPart_309 (R_X12_putPart : Int → Int → Mu → (Mu → Prop) → Prop) (R_X12_putSide : Int → Int → Int → Mu → (Mu → Prop) → Prop) (x1 : Int) (x2 : Int) (x5 : Int) (s1 : Int) (u : Mu) (P : (Int × Mu) ⊕ ((Mu)) → Prop) : Prop :=
  F_X12_put s1 u (fun u_309 => F_X12_under x1 x5 u_309 (fun x_317 => R_X12_putPart x_317 x2 u_309 (fun u_321 => P (.inl (w32 (x5 + 1), u_321)))))
theorem T_X12_putPart_309 {n : Nat} {R_X12_putPart : Int → Int → Mu → (Mu → Prop) → Prop} {R_X12_putSide : Int → Int → Int → Mu → (Mu → Prop) → Prop} {x1 : Int} {x2 : Int} {x5 : Int} {s1 : Int} {u : Mu} {P : (Int × Mu) ⊕ ((Mu)) → Prop} {h : Hp} {g : Nat → Nat} {post : Option Sv ⊕ String → Hp → Prop} (r_x1 : R32 x1) (r_x2 : R32 x2) (r_x5 : R32 x5) (r_s1 : R32 s1) (m : Ms h g u) (ih_X12_putPart : ∀ {x1 : Int} {x2 : Int} {u : Mu} {P : Mu → Prop} {h : Hp} {g : Nat → Nat}, R32 x1 → R32 x2 → Ms h g u → R_X12_putPart x1 x2 u P → Con mX12_putPart (9 + n) 0 0 [vr (some (g 0)), ii (x1), ii (x2)] h (QMV g P)) (ih_X12_putSide : ∀ {x1 : Int} {x2 : Int} {x3 : Int} {u : Mu} {P : Mu → Prop} {h : Hp} {g : Nat → Nat}, R32 x1 → R32 x2 → R32 x3 → Ms h g u → R_X12_putSide x1 x2 x3 u P → Con mX12_putSide (9 + n) 0 0 [vr (some (g 0)), ii (x1), ii (x2), ii (x3)] h (QMV g P)) (hl : ∀ (x5 : Int) (u : Mu) (h : Hp), P (.inl (x5, u)) → Ms h g u → R32 x5 → J mX12_putPart (9 + n + 1) 0 0 post 285 [some (vr (some (g 0))), some (ii (x1)), some (ii (x2)), none, none, some (ii (x5)), none] [] h) (he0 : ∀ (u : Mu) (h : Hp), P (.inr u) → Ms h g u → J mX12_putPart (9 + n + 1) 0 0 post 330 [some (vr (some (g 0))), none, none, none, none, none, none] [] h) (H : F_X12_putPart_309 R_X12_putPart R_X12_putSide x1 x2 x5 s1 u P) : J mX12_putPart (9 + n + 1) 0 0 (post) 309 [some (vr (some (g 0))), some (ii (x1)), some (ii (x2)), none, none, some (ii (x5)), none] [ii (s1), vr (some (g 0))] h := by
  unfold F_X12_putPart_309 at H
  refine jz_callV1 (dk dt_X12_putPart 168 rfl) vl_X12_749 rfl (T_X12_put r_s1 m H) m.1.1 rfl (by omega) (Nat.zero_le _) (Nat.zero_le _) (Nat.le_of_ble_eq_true rfl) (fun v_309 h_309 P_309 => ?_)
  obtain ⟨u_309, rfl, m_309, H⟩ := P_309
  dsimp only [rs]
  refine j_aload_n (dk dt_X12_putPart 169 rfl) rfl ?_
  refine j_aload_n (dk dt_X12_putPart 170 rfl) rfl ?_
  refine j_iload_n (dk dt_X12_putPart 171 rfl) rfl ?_
  refine j_iload (dk dt_X12_putPart 172 rfl) rfl ?_
  refine jz_callV2 (dk dt_X12_putPart 173 rfl) vl_X12_600 rfl (T_X12_under r_x1 r_x5 m_309 H) m_309.1.1 rfl (by omega) (Nat.zero_le _) (Nat.zero_le _) (Nat.le_of_ble_eq_true rfl) (fun v_317 h_317 P_317 => ?_)
  obtain ⟨x_317, rfl, r_317, rfl, H⟩ := P_317
  dsimp only [rs]
  refine j_iload_n (dk dt_X12_putPart 174 rfl) rfl ?_
  refine jz_callV2 (dk dt_X12_putPart 175 rfl) vl_X12_779 rfl (ih_X12_putPart r_317 r_x2 m_309 H) m_309.1.1 rfl (by omega) (Nat.zero_le _) (Nat.zero_le _) (Nat.le_of_ble_eq_true rfl) (fun v_321 h_321 P_321 => ?_)
  obtain ⟨u_321, rfl, m_321, H⟩ := P_321
  dsimp only [rs]
  refine jz_iinc (dk dt_X12_putPart 176 rfl) rfl ?_
  refine j_goto 285 (dk dt_X12_putPart 177 rfl) (by decide) ?_
  exact j_el (hl _ _ _ H m_321 (r32_w _)) (And.intro rfl (And.intro rfl (And.intro rfl (And.intro rfl trivial))))
def L_X12_putPart_285 (R_X12_putPart : Int → Int → Mu → (Mu → Prop) → Prop) (R_X12_putSide : Int → Int → Int → Mu → (Mu → Prop) → Prop) (x1 : Int) (x2 : Int) (x5 : Int) (u : Mu) (P : (Int × Mu) ⊕ ((Mu)) → Prop) : Prop :=
  (0 ≤ x1 ∧ x1 < 60420 ∧ (if mI u 27 x1 ≤ x5 then P (.inr u) else (if x5 = 0 then F_X12_putPart_309 R_X12_putPart R_X12_putSide x1 x2 x5 40 u P else F_X12_putPart_309 R_X12_putPart R_X12_putSide x1 x2 x5 44 u P)))
theorem U_X12_putPart_285 {n : Nat} {R_X12_putPart : Int → Int → Mu → (Mu → Prop) → Prop} {R_X12_putSide : Int → Int → Int → Mu → (Mu → Prop) → Prop} {x1 : Int} {x2 : Int} {x5 : Int} {u : Mu} {P : (Int × Mu) ⊕ ((Mu)) → Prop} {h : Hp} {g : Nat → Nat} {post : Option Sv ⊕ String → Hp → Prop} (r_x1 : R32 x1) (r_x2 : R32 x2) (r_x5 : R32 x5) (m : Ms h g u) (ih_X12_putPart : ∀ {x1 : Int} {x2 : Int} {u : Mu} {P : Mu → Prop} {h : Hp} {g : Nat → Nat}, R32 x1 → R32 x2 → Ms h g u → R_X12_putPart x1 x2 u P → Con mX12_putPart (9 + n) 0 0 [vr (some (g 0)), ii (x1), ii (x2)] h (QMV g P)) (ih_X12_putSide : ∀ {x1 : Int} {x2 : Int} {x3 : Int} {u : Mu} {P : Mu → Prop} {h : Hp} {g : Nat → Nat}, R32 x1 → R32 x2 → R32 x3 → Ms h g u → R_X12_putSide x1 x2 x3 u P → Con mX12_putSide (9 + n) 0 0 [vr (some (g 0)), ii (x1), ii (x2), ii (x3)] h (QMV g P)) (hl : ∀ (x5 : Int) (u : Mu) (h : Hp), P (.inl (x5, u)) → Ms h g u → R32 x5 → J mX12_putPart (9 + n + 1) 0 0 post 285 [some (vr (some (g 0))), some (ii (x1)), some (ii (x2)), none, none, some (ii (x5)), none] [] h) (he0 : ∀ (u : Mu) (h : Hp), P (.inr u) → Ms h g u → J mX12_putPart (9 + n + 1) 0 0 post 330 [some (vr (some (g 0))), none, none, none, none, none, none] [] h) (H : L_X12_putPart_285 R_X12_putPart R_X12_putSide x1 x2 x5 u P) : J mX12_putPart (9 + n + 1) 0 0 post 285 [some (vr (some (g 0))), some (ii (x1)), some (ii (x2)), none, none, some (ii (x5)), none] [] h := by
  unfold L_X12_putPart_285 at H
  refine j_iload (dk dt_X12_putPart 156 rfl) rfl ?_
  refine j_aload_n (dk dt_X12_putPart 157 rfl) rfl ?_
  refine jm_getA (dk dt_X12_putPart 158 rfl) fl_X12_70 rfl (c := 14) rfl m ?_
  refine j_iload_n (dk dt_X12_putPart 159 rfl) rfl ?_
  obtain ⟨p_292, q_292, H⟩ := H
  refine jm_iald (dk dt_X12_putPart 160 rfl) rfl rfl m p_292 q_292 ?_
  refine jz_icmp_ge 330 (dk dt_X12_putPart 161 rfl) (by decide) r_x5 (m.2.1.1 _ _) H (fun H => ?_) (fun H => ?_)
  · exact j_el (he0 _ _ H m) (And.intro rfl trivial)
  · refine j_aload_n (dk dt_X12_putPart 162 rfl) rfl ?_
    refine j_iload (dk dt_X12_putPart 163 rfl) rfl ?_
    refine jz_if_ne 307 (dk dt_X12_putPart 164 rfl) (by decide) r_x5 H (fun H => ?_) (fun H => ?_)
    · refine j_bipush (v := Int32.ofInt 40) (dk dt_X12_putPart 165 rfl) (by decide) ?_
      refine j_goto 309 (dk dt_X12_putPart 166 rfl) (by decide) ?_
      exact j_el (T_X12_putPart_309 r_x1 r_x2 r_x5 (by decide) m ih_X12_putPart ih_X12_putSide hl he0 H) (And.intro rfl (And.intro rfl (And.intro rfl (And.intro rfl trivial))))
    · refine j_bipush (v := Int32.ofInt 44) (dk dt_X12_putPart 167 rfl) (by decide) ?_
      exact j_el (T_X12_putPart_309 r_x1 r_x2 r_x5 (by decide) m ih_X12_putPart ih_X12_putSide hl he0 H) (And.intro rfl (And.intro rfl (And.intro rfl (And.intro rfl trivial))))
def F_X12_putPart_285 (R_X12_putPart : Int → Int → Mu → (Mu → Prop) → Prop) (R_X12_putSide : Int → Int → Int → Mu → (Mu → Prop) → Prop) (x1 : Int) (x2 : Int) (x5 : Int) (u : Mu) (P : Mu → Prop) : Prop :=
  lp (S := Int × Mu) (E := (Mu)) (fun q P_ => L_X12_putPart_285 R_X12_putPart R_X12_putSide x1 x2 q.1 q.2 P_) (x5, u) (fun (u : Mu) => F_X12_put 41 u (fun u_333 => F_X12_putPart_336 R_X12_putPart R_X12_putSide u_333 P))
theorem T_X12_putPart_285 {n : Nat} {R_X12_putPart : Int → Int → Mu → (Mu → Prop) → Prop} {R_X12_putSide : Int → Int → Int → Mu → (Mu → Prop) → Prop} {x1 : Int} {x2 : Int} {x5 : Int} {u : Mu} {P : Mu → Prop} {h : Hp} {g : Nat → Nat} (r_x1 : R32 x1) (r_x2 : R32 x2) (r_x5 : R32 x5) (m : Ms h g u) (ih_X12_putPart : ∀ {x1 : Int} {x2 : Int} {u : Mu} {P : Mu → Prop} {h : Hp} {g : Nat → Nat}, R32 x1 → R32 x2 → Ms h g u → R_X12_putPart x1 x2 u P → Con mX12_putPart (9 + n) 0 0 [vr (some (g 0)), ii (x1), ii (x2)] h (QMV g P)) (ih_X12_putSide : ∀ {x1 : Int} {x2 : Int} {x3 : Int} {u : Mu} {P : Mu → Prop} {h : Hp} {g : Nat → Nat}, R32 x1 → R32 x2 → R32 x3 → Ms h g u → R_X12_putSide x1 x2 x3 u P → Con mX12_putSide (9 + n) 0 0 [vr (some (g 0)), ii (x1), ii (x2), ii (x3)] h (QMV g P))  (H : F_X12_putPart_285 R_X12_putPart R_X12_putSide x1 x2 x5 u P) : J mX12_putPart (9 + n + 1) 0 0 (nx (QMV g P)) 285 [some (vr (some (g 0))), some (ii (x1)), some (ii (x2)), none, none, some (ii (x5)), none] [] h := by
  unfold F_X12_putPart_285 at H
  refine lp_J (G := fun q => ∀ h : Hp, Ms h g (q.2) → R32 (q.1) → J mX12_putPart (9 + n + 1) 0 0 (nx (QMV g P)) 285 [some (vr (some (g 0))), some (ii (x1)), some (ii (x2)), none, none, some (ii ((q.1))), none] [] h) (fun q P_ hl_ he_ Hb => ?_) (x5, u) H _ m r_x5
  obtain ⟨x5, u⟩ := q
  intro h m r_x5
  refine U_X12_putPart_285 (P := P_) r_x1 r_x2 r_x5 m ih_X12_putPart ih_X12_putSide (fun x5 u h Hp m r_x5 => hl_ (x5, u) Hp h m r_x5) ?_ Hb
  · intro u h Hp m
    have H := he_ _ Hp
    refine j_aload_n (dk dt_X12_putPart 178 rfl) rfl ?_
    refine j_bipush (v := Int32.ofInt 41) (dk dt_X12_putPart 179 rfl) (by decide) ?_
    refine jz_callV1 (dk dt_X12_putPart 180 rfl) vl_X12_749 rfl (T_X12_put (by decide) m H) m.1.1 rfl (by omega) (Nat.zero_le _) (Nat.zero_le _) (Nat.le_of_ble_eq_true rfl) (fun v_333 h_333 P_333 => ?_)
    obtain ⟨u_333, rfl, m_333, H⟩ := P_333
    dsimp only [rs]
    exact j_el (T_X12_putPart_336  m_333 ih_X12_putPart ih_X12_putSide  H) trivial
def F_X12_putPart_268 (R_X12_putPart : Int → Int → Mu → (Mu → Prop) → Prop) (R_X12_putSide : Int → Int → Int → Mu → (Mu → Prop) → Prop) (s1 : Int) (s2 : Int) (s3 : Int) (u : Mu) (P : Mu → Prop) : Prop :=
  R_X12_putSide s1 s2 s3 u (fun u_268 => F_X12_putPart_336 R_X12_putPart R_X12_putSide u_268 P)
theorem T_X12_putPart_268 {n : Nat} {R_X12_putPart : Int → Int → Mu → (Mu → Prop) → Prop} {R_X12_putSide : Int → Int → Int → Mu → (Mu → Prop) → Prop} {s1 : Int} {s2 : Int} {s3 : Int} {u : Mu} {P : Mu → Prop} {h : Hp} {g : Nat → Nat} (r_s1 : R32 s1) (r_s2 : R32 s2) (r_s3 : R32 s3) (m : Ms h g u) (ih_X12_putPart : ∀ {x1 : Int} {x2 : Int} {u : Mu} {P : Mu → Prop} {h : Hp} {g : Nat → Nat}, R32 x1 → R32 x2 → Ms h g u → R_X12_putPart x1 x2 u P → Con mX12_putPart (9 + n) 0 0 [vr (some (g 0)), ii (x1), ii (x2)] h (QMV g P)) (ih_X12_putSide : ∀ {x1 : Int} {x2 : Int} {x3 : Int} {u : Mu} {P : Mu → Prop} {h : Hp} {g : Nat → Nat}, R32 x1 → R32 x2 → R32 x3 → Ms h g u → R_X12_putSide x1 x2 x3 u P → Con mX12_putSide (9 + n) 0 0 [vr (some (g 0)), ii (x1), ii (x2), ii (x3)] h (QMV g P))  (H : F_X12_putPart_268 R_X12_putPart R_X12_putSide s1 s2 s3 u P) : J mX12_putPart (9 + n + 1) 0 0 (nx (QMV g P)) 268 [none, none, none, none, none, none, none] [ii (s3), ii (s2), ii (s1), vr (some (g 0))] h := by
  unfold F_X12_putPart_268 at H
  refine jz_callV3 (dk dt_X12_putPart 148 rfl) vl_X12_802 rfl (ih_X12_putSide r_s1 r_s2 r_s3 m H) m.1.1 rfl (by omega) (Nat.zero_le _) (Nat.zero_le _) (Nat.le_of_ble_eq_true rfl) (fun v_268 h_268 P_268 => ?_)
  obtain ⟨u_268, rfl, m_268, H⟩ := P_268
  dsimp only [rs]
  refine j_goto 336 (dk dt_X12_putPart 149 rfl) (by decide) ?_
  exact j_el (T_X12_putPart_336  m_268 ih_X12_putPart ih_X12_putSide  H) trivial
def F_X12_putPart_231 (R_X12_putPart : Int → Int → Mu → (Mu → Prop) → Prop) (R_X12_putSide : Int → Int → Int → Mu → (Mu → Prop) → Prop) (x1 : Int) (x2 : Int) (x3 : Int) (x4 : Int) (s1 : Int) (s2 : Int) (s3 : Int) (u : Mu) (P : Mu → Prop) : Prop :=
  R_X12_putSide s1 s2 s3 u (fun u_231 => F_X12_signOf x3 (fun x_236 => F_X12_say x_236 u_231 (fun u_239 => (0 ≤ w32 (x1 - 1) ∧ w32 (x1 - 1) < 60420 ∧ F_X12_level (mI u_239 26 (w32 (x1 - 1))) (fun x_255 => (if x4 < x_255 then F_X12_putPart_268 R_X12_putPart R_X12_putSide (w32 (x1 - 1)) x2 0 u_239 P else F_X12_putPart_268 R_X12_putPart R_X12_putSide (w32 (x1 - 1)) x2 1 u_239 P))))))
theorem T_X12_putPart_231 {n : Nat} {R_X12_putPart : Int → Int → Mu → (Mu → Prop) → Prop} {R_X12_putSide : Int → Int → Int → Mu → (Mu → Prop) → Prop} {x1 : Int} {x2 : Int} {x3 : Int} {x4 : Int} {s1 : Int} {s2 : Int} {s3 : Int} {u : Mu} {P : Mu → Prop} {h : Hp} {g : Nat → Nat} (r_x1 : R32 x1) (r_x2 : R32 x2) (r_x3 : R32 x3) (r_x4 : R32 x4) (r_s1 : R32 s1) (r_s2 : R32 s2) (r_s3 : R32 s3) (m : Ms h g u) (ih_X12_putPart : ∀ {x1 : Int} {x2 : Int} {u : Mu} {P : Mu → Prop} {h : Hp} {g : Nat → Nat}, R32 x1 → R32 x2 → Ms h g u → R_X12_putPart x1 x2 u P → Con mX12_putPart (9 + n) 0 0 [vr (some (g 0)), ii (x1), ii (x2)] h (QMV g P)) (ih_X12_putSide : ∀ {x1 : Int} {x2 : Int} {x3 : Int} {u : Mu} {P : Mu → Prop} {h : Hp} {g : Nat → Nat}, R32 x1 → R32 x2 → R32 x3 → Ms h g u → R_X12_putSide x1 x2 x3 u P → Con mX12_putSide (9 + n) 0 0 [vr (some (g 0)), ii (x1), ii (x2), ii (x3)] h (QMV g P))  (H : F_X12_putPart_231 R_X12_putPart R_X12_putSide x1 x2 x3 x4 s1 s2 s3 u P) : J mX12_putPart (9 + n + 1) 0 0 (nx (QMV g P)) 231 [some (vr (some (g 0))), some (ii (x1)), some (ii (x2)), some (ii (x3)), some (ii (x4)), none, none] [ii (s3), ii (s2), ii (s1), vr (some (g 0))] h := by
  unfold F_X12_putPart_231 at H
  refine jz_callV3 (dk dt_X12_putPart 126 rfl) vl_X12_802 rfl (ih_X12_putSide r_s1 r_s2 r_s3 m H) m.1.1 rfl (by omega) (Nat.zero_le _) (Nat.zero_le _) (Nat.le_of_ble_eq_true rfl) (fun v_231 h_231 P_231 => ?_)
  obtain ⟨u_231, rfl, m_231, H⟩ := P_231
  dsimp only [rs]
  refine j_aload_n (dk dt_X12_putPart 127 rfl) rfl ?_
  refine j_iload_n (dk dt_X12_putPart 128 rfl) rfl ?_
  refine j_callS1 (dk dt_X12_putPart 129 rfl) sl_X12_806 (T_X12_signOf r_x3 H) rfl (by omega) (Nat.zero_le _) (Nat.zero_le _) (Nat.le_of_ble_eq_true rfl) (fun v_236 h_236 P_236 => ?_)
  obtain ⟨x_236, rfl, rfl, H⟩ := P_236
  dsimp only [rs]
  refine jz_callV1 (dk dt_X12_putPart 130 rfl) vl_X12_786 rfl (T_X12_say m_231 H) m_231.1.1 rfl (by omega) (Nat.zero_le _) (Nat.zero_le _) (Nat.le_of_ble_eq_true rfl) (fun v_239 h_239 P_239 => ?_)
  obtain ⟨u_239, rfl, m_239, H⟩ := P_239
  dsimp only [rs]
  refine j_aload_n (dk dt_X12_putPart 131 rfl) rfl ?_
  refine j_iload_n (dk dt_X12_putPart 132 rfl) rfl ?_
  refine j_iconst (v := Int32.ofInt 1) (dk dt_X12_putPart 133 rfl) (by decide) ?_
  refine jz_isub (dk dt_X12_putPart 134 rfl) ?_
  refine j_iload_n (dk dt_X12_putPart 135 rfl) rfl ?_
  refine j_aload_n (dk dt_X12_putPart 136 rfl) rfl ?_
  refine jm_getA (dk dt_X12_putPart 137 rfl) fl_X12_67 rfl (c := 14) rfl m_239 ?_
  refine j_iload_n (dk dt_X12_putPart 138 rfl) rfl ?_
  refine j_iconst (v := Int32.ofInt 1) (dk dt_X12_putPart 139 rfl) (by decide) ?_
  refine jz_isub (dk dt_X12_putPart 140 rfl) ?_
  obtain ⟨p_254, q_254, H⟩ := H
  refine jm_iald (dk dt_X12_putPart 141 rfl) rfl rfl m_239 p_254 q_254 ?_
  refine j_callS1 (dk dt_X12_putPart 142 rfl) sl_X12_793 (T_X12_level (m_239.2.1.1 _ _) H) rfl (by omega) (Nat.zero_le _) (Nat.zero_le _) (Nat.le_of_ble_eq_true rfl) (fun v_255 h_255 P_255 => ?_)
  obtain ⟨x_255, rfl, r_255, rfl, H⟩ := P_255
  dsimp only [rs]
  refine j_iload (dk dt_X12_putPart 143 rfl) rfl ?_
  refine jz_icmp_gt 267 (dk dt_X12_putPart 144 rfl) (by decide) r_255 r_x4 H (fun H => ?_) (fun H => ?_)
  · refine j_iconst (v := Int32.ofInt 0) (dk dt_X12_putPart 147 rfl) (by decide) ?_
    exact j_el (T_X12_putPart_268 (r32_w _) r_x2 (by decide) m_239 ih_X12_putPart ih_X12_putSide  H) trivial
  · refine j_iconst (v := Int32.ofInt 1) (dk dt_X12_putPart 145 rfl) (by decide) ?_
    refine j_goto 268 (dk dt_X12_putPart 146 rfl) (by decide) ?_
    exact j_el (T_X12_putPart_268 (r32_w _) r_x2 (by decide) m_239 ih_X12_putPart ih_X12_putSide  H) trivial
def F_X12_putPart_226 (R_X12_putPart : Int → Int → Mu → (Mu → Prop) → Prop) (R_X12_putSide : Int → Int → Int → Mu → (Mu → Prop) → Prop) (x1 : Int) (x2 : Int) (x3 : Int) (x4 : Int) (s1 : Int) (s2 : Int) (u : Mu) (P : Mu → Prop) : Prop :=
  F_X12_putPart_231 R_X12_putPart R_X12_putSide x1 x2 x3 x4 s1 s2 1 u P
theorem T_X12_putPart_226 {n : Nat} {R_X12_putPart : Int → Int → Mu → (Mu → Prop) → Prop} {R_X12_putSide : Int → Int → Int → Mu → (Mu → Prop) → Prop} {x1 : Int} {x2 : Int} {x3 : Int} {x4 : Int} {s1 : Int} {s2 : Int} {u : Mu} {P : Mu → Prop} {h : Hp} {g : Nat → Nat} (r_x1 : R32 x1) (r_x2 : R32 x2) (r_x3 : R32 x3) (r_x4 : R32 x4) (r_s1 : R32 s1) (r_s2 : R32 s2) (m : Ms h g u) (ih_X12_putPart : ∀ {x1 : Int} {x2 : Int} {u : Mu} {P : Mu → Prop} {h : Hp} {g : Nat → Nat}, R32 x1 → R32 x2 → Ms h g u → R_X12_putPart x1 x2 u P → Con mX12_putPart (9 + n) 0 0 [vr (some (g 0)), ii (x1), ii (x2)] h (QMV g P)) (ih_X12_putSide : ∀ {x1 : Int} {x2 : Int} {x3 : Int} {u : Mu} {P : Mu → Prop} {h : Hp} {g : Nat → Nat}, R32 x1 → R32 x2 → R32 x3 → Ms h g u → R_X12_putSide x1 x2 x3 u P → Con mX12_putSide (9 + n) 0 0 [vr (some (g 0)), ii (x1), ii (x2), ii (x3)] h (QMV g P))  (H : F_X12_putPart_226 R_X12_putPart R_X12_putSide x1 x2 x3 x4 s1 s2 u P) : J mX12_putPart (9 + n + 1) 0 0 (nx (QMV g P)) 226 [some (vr (some (g 0))), some (ii (x1)), some (ii (x2)), some (ii (x3)), some (ii (x4)), none, none] [ii (s2), ii (s1), vr (some (g 0))] h := by
  unfold F_X12_putPart_226 at H
  refine j_iconst (v := Int32.ofInt 1) (dk dt_X12_putPart 123 rfl) (by decide) ?_
  refine j_goto 231 (dk dt_X12_putPart 124 rfl) (by decide) ?_
  exact j_el (T_X12_putPart_231 r_x1 r_x2 r_x3 r_x4 r_s1 r_s2 (by decide) m ih_X12_putPart ih_X12_putSide  H) (And.intro rfl (And.intro rfl (And.intro rfl (And.intro rfl (And.intro rfl trivial)))))
def F_X12_putPart_230 (R_X12_putPart : Int → Int → Mu → (Mu → Prop) → Prop) (R_X12_putSide : Int → Int → Int → Mu → (Mu → Prop) → Prop) (x1 : Int) (x2 : Int) (x3 : Int) (x4 : Int) (s1 : Int) (s2 : Int) (u : Mu) (P : Mu → Prop) : Prop :=
  F_X12_putPart_231 R_X12_putPart R_X12_putSide x1 x2 x3 x4 s1 s2 0 u P
theorem T_X12_putPart_230 {n : Nat} {R_X12_putPart : Int → Int → Mu → (Mu → Prop) → Prop} {R_X12_putSide : Int → Int → Int → Mu → (Mu → Prop) → Prop} {x1 : Int} {x2 : Int} {x3 : Int} {x4 : Int} {s1 : Int} {s2 : Int} {u : Mu} {P : Mu → Prop} {h : Hp} {g : Nat → Nat} (r_x1 : R32 x1) (r_x2 : R32 x2) (r_x3 : R32 x3) (r_x4 : R32 x4) (r_s1 : R32 s1) (r_s2 : R32 s2) (m : Ms h g u) (ih_X12_putPart : ∀ {x1 : Int} {x2 : Int} {u : Mu} {P : Mu → Prop} {h : Hp} {g : Nat → Nat}, R32 x1 → R32 x2 → Ms h g u → R_X12_putPart x1 x2 u P → Con mX12_putPart (9 + n) 0 0 [vr (some (g 0)), ii (x1), ii (x2)] h (QMV g P)) (ih_X12_putSide : ∀ {x1 : Int} {x2 : Int} {x3 : Int} {u : Mu} {P : Mu → Prop} {h : Hp} {g : Nat → Nat}, R32 x1 → R32 x2 → R32 x3 → Ms h g u → R_X12_putSide x1 x2 x3 u P → Con mX12_putSide (9 + n) 0 0 [vr (some (g 0)), ii (x1), ii (x2), ii (x3)] h (QMV g P))  (H : F_X12_putPart_230 R_X12_putPart R_X12_putSide x1 x2 x3 x4 s1 s2 u P) : J mX12_putPart (9 + n + 1) 0 0 (nx (QMV g P)) 230 [some (vr (some (g 0))), some (ii (x1)), some (ii (x2)), some (ii (x3)), some (ii (x4)), none, none] [ii (s2), ii (s1), vr (some (g 0))] h := by
  unfold F_X12_putPart_230 at H
  refine j_iconst (v := Int32.ofInt 0) (dk dt_X12_putPart 125 rfl) (by decide) ?_
  exact j_el (T_X12_putPart_231 r_x1 r_x2 r_x3 r_x4 r_s1 r_s2 (by decide) m ih_X12_putPart ih_X12_putSide  H) (And.intro rfl (And.intro rfl (And.intro rfl (And.intro rfl (And.intro rfl trivial)))))
def B_X12_putPart (R_X12_putPart : Int → Int → Mu → (Mu → Prop) → Prop) (R_X12_putSide : Int → Int → Int → Mu → (Mu → Prop) → Prop) (x1 : Int) (x2 : Int) (u : Mu) (P : Mu → Prop) : Prop :=
  (0 ≤ x1 ∧ x1 < 60420 ∧ F_X12_level (mI u 26 x1) (fun x_8 => (if mI u 26 x1 = 1 then (0 ≤ x1 ∧ x1 < 60420 ∧ F_X12_putNumber (mG u 29 x1) u (fun u_25 => F_X12_putPart_336 R_X12_putPart R_X12_putSide u_25 P)) else (if mI u 26 x1 = 2 then F_X12_put 34 u (fun u_39 => (0 ≤ x1 ∧ x1 < 60420 ∧ (0 ≤ x1 ∧ x1 < 60420 ∧ F_X12_putLetters (mI u_39 30 x1) (mI u_39 31 x1) u_39 (fun u_55 => F_X12_put 34 u_55 (fun u_61 => F_X12_putPart_336 R_X12_putPart R_X12_putSide u_61 P))))) else (if mI u 26 x1 = 3 then (0 ≤ x1 ∧ x1 < 60420 ∧ (if mG u 29 x1 = 1 then F_X12_putPart_93 R_X12_putPart R_X12_putSide 11 u P else F_X12_putPart_93 R_X12_putPart R_X12_putSide 12 u P)) else (if mI u 26 x1 = 4 then F_X12_say 10 u (fun u_108 => F_X12_putPart_336 R_X12_putPart R_X12_putSide u_108 P) else (if mI u 26 x1 = 5 then F_X12_putPart_125 R_X12_putPart R_X12_putSide x1 x2 u P else (if mI u 26 x1 = 6 then F_X12_putPart_125 R_X12_putPart R_X12_putSide x1 x2 u P else (if mI u 26 x1 = 7 then F_X12_put 45 u (fun u_143 => (0 ≤ w32 (x1 - 1) ∧ w32 (x1 - 1) < 60420 ∧ F_X12_level (mI u_143 26 (w32 (x1 - 1))) (fun x_159 => (if 5 ≤ x_159 then F_X12_putPart_171 R_X12_putPart R_X12_putSide (w32 (x1 - 1)) x2 0 u_143 P else F_X12_putPart_171 R_X12_putPart R_X12_putSide (w32 (x1 - 1)) x2 1 u_143 P)))) else (if 30 ≤ mI u 26 x1 then F_X12_nameOf (mI u 26 x1) (fun x_276 => F_X12_say x_276 u (fun u_279 => F_X12_putPart_285 R_X12_putPart R_X12_putSide x1 x2 0 u_279 P)) else F_X12_under x1 0 u (fun x_186 => (0 ≤ x_186 ∧ x_186 < 60420 ∧ F_X12_level (mI u 26 x_186) (fun x_198 => (if x_198 < x_8 then F_X12_putPart_226 R_X12_putPart R_X12_putSide x1 x2 (mI u 26 x1) x_8 x_186 x2 u P else (if x_8 = 1 then (if x_198 = 1 then F_X12_putPart_226 R_X12_putPart R_X12_putSide x1 x2 (mI u 26 x1) x_8 x_186 x2 u P else F_X12_putPart_230 R_X12_putPart R_X12_putSide x1 x2 (mI u 26 x1) x_8 x_186 x2 u P) else F_X12_putPart_230 R_X12_putPart R_X12_putSide x1 x2 (mI u 26 x1) x_8 x_186 x2 u P)))))))))))))))
theorem V_X12_putPart {n : Nat} {R_X12_putPart : Int → Int → Mu → (Mu → Prop) → Prop} {R_X12_putSide : Int → Int → Int → Mu → (Mu → Prop) → Prop} {x1 : Int} {x2 : Int} {u : Mu} {P : Mu → Prop} {h : Hp} {g : Nat → Nat} (r_x1 : R32 x1) (r_x2 : R32 x2) (m : Ms h g u) (ih_X12_putPart : ∀ {x1 : Int} {x2 : Int} {u : Mu} {P : Mu → Prop} {h : Hp} {g : Nat → Nat}, R32 x1 → R32 x2 → Ms h g u → R_X12_putPart x1 x2 u P → Con mX12_putPart (9 + n) 0 0 [vr (some (g 0)), ii (x1), ii (x2)] h (QMV g P)) (ih_X12_putSide : ∀ {x1 : Int} {x2 : Int} {x3 : Int} {u : Mu} {P : Mu → Prop} {h : Hp} {g : Nat → Nat}, R32 x1 → R32 x2 → R32 x3 → Ms h g u → R_X12_putSide x1 x2 x3 u P → Con mX12_putSide (9 + n) 0 0 [vr (some (g 0)), ii (x1), ii (x2), ii (x3)] h (QMV g P)) (H : B_X12_putPart R_X12_putPart R_X12_putSide x1 x2 u P) : Con mX12_putPart (9 + n + 1) 0 0 [vr (some (g 0)), ii (x1), ii (x2)] h (QMV g P) := by
  refine con_of rfl (Nat.le_of_ble_eq_true rfl) (by decide) ?_
  show J mX12_putPart (9 + n + 1) 0 0 _ 0 [some (vr (some (g 0))), some (ii (x1)), some (ii (x2)), none, none, none, none] [] h
  unfold B_X12_putPart at H
  refine j_aload_n (dk dt_X12_putPart 0 rfl) rfl ?_
  refine jm_getA (dk dt_X12_putPart 1 rfl) fl_X12_67 rfl (c := 14) rfl m ?_
  refine j_iload_n (dk dt_X12_putPart 2 rfl) rfl ?_
  obtain ⟨p_5, q_5, H⟩ := H
  refine jm_iald (dk dt_X12_putPart 3 rfl) rfl rfl m p_5 q_5 ?_
  refine j_istore_n (dk dt_X12_putPart 4 rfl) (by decide) ?_
  refine j_iload_n (dk dt_X12_putPart 5 rfl) rfl ?_
  refine j_callS1 (dk dt_X12_putPart 6 rfl) sl_X12_793 (T_X12_level (m.2.1.1 _ _) H) rfl (by omega) (Nat.zero_le _) (Nat.zero_le _) (Nat.le_of_ble_eq_true rfl) (fun v_8 h_8 P_8 => ?_)
  obtain ⟨x_8, rfl, r_8, rfl, H⟩ := P_8
  dsimp only [rs]
  refine j_istore (dk dt_X12_putPart 7 rfl) (by decide) ?_
  refine j_iload_n (dk dt_X12_putPart 8 rfl) rfl ?_
  refine j_iconst (v := Int32.ofInt 1) (dk dt_X12_putPart 9 rfl) (by decide) ?_
  refine jz_icmp_ne 31 (dk dt_X12_putPart 10 rfl) (by decide) (m.2.1.1 _ _) (by decide) H (fun H => ?_) (fun H => ?_)
  · refine j_aload_n (dk dt_X12_putPart 11 rfl) rfl ?_
    refine j_aload_n (dk dt_X12_putPart 12 rfl) rfl ?_
    refine jm_getA (dk dt_X12_putPart 13 rfl) fl_X12_76 rfl (c := 15) rfl m ?_
    refine j_iload_n (dk dt_X12_putPart 14 rfl) rfl ?_
    obtain ⟨p_24, q_24, H⟩ := H
    refine jm_lald (dk dt_X12_putPart 15 rfl) rfl rfl m p_24 q_24 ?_
    refine jz_callV1 (dk dt_X12_putPart 16 rfl) vl_X12_782 rfl (T_X12_putNumber (m.2.1.2.1 _ _) m H) m.1.1 rfl (by omega) (Nat.zero_le _) (Nat.zero_le _) (Nat.le_of_ble_eq_true rfl) (fun v_25 h_25 P_25 => ?_)
    obtain ⟨u_25, rfl, m_25, H⟩ := P_25
    dsimp only [rs]
    refine j_goto 336 (dk dt_X12_putPart 17 rfl) (by decide) ?_
    exact j_el (T_X12_putPart_336  m_25 ih_X12_putPart ih_X12_putSide  H) trivial
  · refine j_iload_n (dk dt_X12_putPart 18 rfl) rfl ?_
    refine j_iconst (v := Int32.ofInt 2) (dk dt_X12_putPart 19 rfl) (by decide) ?_
    refine jz_icmp_ne 67 (dk dt_X12_putPart 20 rfl) (by decide) (m.2.1.1 _ _) (by decide) H (fun H => ?_) (fun H => ?_)
    · refine j_aload_n (dk dt_X12_putPart 21 rfl) rfl ?_
      refine j_bipush (v := Int32.ofInt 34) (dk dt_X12_putPart 22 rfl) (by decide) ?_
      refine jz_callV1 (dk dt_X12_putPart 23 rfl) vl_X12_749 rfl (T_X12_put (by decide) m H) m.1.1 rfl (by omega) (Nat.zero_le _) (Nat.zero_le _) (Nat.le_of_ble_eq_true rfl) (fun v_39 h_39 P_39 => ?_)
      obtain ⟨u_39, rfl, m_39, H⟩ := P_39
      dsimp only [rs]
      refine j_aload_n (dk dt_X12_putPart 24 rfl) rfl ?_
      refine j_aload_n (dk dt_X12_putPart 25 rfl) rfl ?_
      refine jm_getA (dk dt_X12_putPart 26 rfl) fl_X12_79 rfl (c := 14) rfl m_39 ?_
      refine j_iload_n (dk dt_X12_putPart 27 rfl) rfl ?_
      obtain ⟨p_48, q_48, H⟩ := H
      refine jm_iald (dk dt_X12_putPart 28 rfl) rfl rfl m_39 p_48 q_48 ?_
      refine j_aload_n (dk dt_X12_putPart 29 rfl) rfl ?_
      refine jm_getA (dk dt_X12_putPart 30 rfl) fl_X12_82 rfl (c := 14) rfl m_39 ?_
      refine j_iload_n (dk dt_X12_putPart 31 rfl) rfl ?_
      obtain ⟨p_54, q_54, H⟩ := H
      refine jm_iald (dk dt_X12_putPart 32 rfl) rfl rfl m_39 p_54 q_54 ?_
      refine jz_callV2 (dk dt_X12_putPart 33 rfl) vl_X12_796 rfl (T_X12_putLetters (m_39.2.1.1 _ _) (m_39.2.1.1 _ _) m_39 H) m_39.1.1 rfl (by omega) (Nat.zero_le _) (Nat.zero_le _) (Nat.le_of_ble_eq_true rfl) (fun v_55 h_55 P_55 => ?_)
      obtain ⟨u_55, rfl, m_55, H⟩ := P_55
      dsimp only [rs]
      refine j_aload_n (dk dt_X12_putPart 34 rfl) rfl ?_
      refine j_bipush (v := Int32.ofInt 34) (dk dt_X12_putPart 35 rfl) (by decide) ?_
      refine jz_callV1 (dk dt_X12_putPart 36 rfl) vl_X12_749 rfl (T_X12_put (by decide) m_55 H) m_55.1.1 rfl (by omega) (Nat.zero_le _) (Nat.zero_le _) (Nat.le_of_ble_eq_true rfl) (fun v_61 h_61 P_61 => ?_)
      obtain ⟨u_61, rfl, m_61, H⟩ := P_61
      dsimp only [rs]
      refine j_goto 336 (dk dt_X12_putPart 37 rfl) (by decide) ?_
      exact j_el (T_X12_putPart_336  m_61 ih_X12_putPart ih_X12_putSide  H) trivial
    · refine j_iload_n (dk dt_X12_putPart 38 rfl) rfl ?_
      refine j_iconst (v := Int32.ofInt 3) (dk dt_X12_putPart 39 rfl) (by decide) ?_
      refine jz_icmp_ne 99 (dk dt_X12_putPart 40 rfl) (by decide) (m.2.1.1 _ _) (by decide) H (fun H => ?_) (fun H => ?_)
      · refine j_aload_n (dk dt_X12_putPart 41 rfl) rfl ?_
        refine j_aload_n (dk dt_X12_putPart 42 rfl) rfl ?_
        refine jm_getA (dk dt_X12_putPart 43 rfl) fl_X12_76 rfl (c := 15) rfl m ?_
        refine j_iload_n (dk dt_X12_putPart 44 rfl) rfl ?_
        obtain ⟨p_78, q_78, H⟩ := H
        refine jm_lald (dk dt_X12_putPart 45 rfl) rfl rfl m p_78 q_78 ?_
        refine j_lconst (v := Int64.ofInt 1) (dk dt_X12_putPart 46 rfl) (by decide) ?_
        refine jz_lcmp (dk dt_X12_putPart 47 rfl) (m.2.1.2.1 _ _) (by decide) ?_
        refine jz_lif_ne 90 (dk dt_X12_putPart 48 rfl) (by decide) H (fun H => ?_) (fun H => ?_)
        · refine j_ldcwS 11 rfl (dk dt_X12_putPart 49 rfl) rfl rfl ?_
          refine j_goto 93 (dk dt_X12_putPart 50 rfl) (by decide) ?_
          exact j_el (T_X12_putPart_93  m ih_X12_putPart ih_X12_putSide  H) trivial
        · refine j_ldcwS 12 rfl (dk dt_X12_putPart 51 rfl) rfl rfl ?_
          exact j_el (T_X12_putPart_93  m ih_X12_putPart ih_X12_putSide  H) trivial
      · refine j_iload_n (dk dt_X12_putPart 54 rfl) rfl ?_
        refine j_iconst (v := Int32.ofInt 4) (dk dt_X12_putPart 55 rfl) (by decide) ?_
        refine jz_icmp_ne 114 (dk dt_X12_putPart 56 rfl) (by decide) (m.2.1.1 _ _) (by decide) H (fun H => ?_) (fun H => ?_)
        · refine j_aload_n (dk dt_X12_putPart 57 rfl) rfl ?_
          refine j_ldcwS 10 rfl (dk dt_X12_putPart 58 rfl) rfl rfl ?_
          refine jz_callV1 (dk dt_X12_putPart 59 rfl) vl_X12_786 rfl (T_X12_say m H) m.1.1 rfl (by omega) (Nat.zero_le _) (Nat.zero_le _) (Nat.le_of_ble_eq_true rfl) (fun v_108 h_108 P_108 => ?_)
          obtain ⟨u_108, rfl, m_108, H⟩ := P_108
          dsimp only [rs]
          refine j_goto 336 (dk dt_X12_putPart 60 rfl) (by decide) ?_
          exact j_el (T_X12_putPart_336  m_108 ih_X12_putPart ih_X12_putSide  H) trivial
        · refine j_iload_n (dk dt_X12_putPart 61 rfl) rfl ?_
          refine j_iconst (v := Int32.ofInt 5) (dk dt_X12_putPart 62 rfl) (by decide) ?_
          refine jz_icmp_eq 125 (dk dt_X12_putPart 63 rfl) (by decide) (m.2.1.1 _ _) (by decide) H (fun H => ?_) (fun H => ?_)
          · exact j_el (T_X12_putPart_125 r_x1 r_x2 m ih_X12_putPart ih_X12_putSide  H) (And.intro rfl (And.intro rfl (And.intro rfl trivial)))
          · refine j_iload_n (dk dt_X12_putPart 64 rfl) rfl ?_
            refine j_bipush (v := Int32.ofInt 6) (dk dt_X12_putPart 65 rfl) (by decide) ?_
            refine jz_icmp_ne 134 (dk dt_X12_putPart 66 rfl) (by decide) (m.2.1.1 _ _) (by decide) H (fun H => ?_) (fun H => ?_)
            · exact j_el (T_X12_putPart_125 r_x1 r_x2 m ih_X12_putPart ih_X12_putSide  H) (And.intro rfl (And.intro rfl (And.intro rfl trivial)))
            · refine j_iload_n (dk dt_X12_putPart 72 rfl) rfl ?_
              refine j_bipush (v := Int32.ofInt 7) (dk dt_X12_putPart 73 rfl) (by decide) ?_
              refine jz_icmp_ne 177 (dk dt_X12_putPart 74 rfl) (by decide) (m.2.1.1 _ _) (by decide) H (fun H => ?_) (fun H => ?_)
              · refine j_aload_n (dk dt_X12_putPart 75 rfl) rfl ?_
                refine j_bipush (v := Int32.ofInt 45) (dk dt_X12_putPart 76 rfl) (by decide) ?_
                refine jz_callV1 (dk dt_X12_putPart 77 rfl) vl_X12_749 rfl (T_X12_put (by decide) m H) m.1.1 rfl (by omega) (Nat.zero_le _) (Nat.zero_le _) (Nat.le_of_ble_eq_true rfl) (fun v_143 h_143 P_143 => ?_)
                obtain ⟨u_143, rfl, m_143, H⟩ := P_143
                dsimp only [rs]
                refine j_aload_n (dk dt_X12_putPart 78 rfl) rfl ?_
                refine j_iload_n (dk dt_X12_putPart 79 rfl) rfl ?_
                refine j_iconst (v := Int32.ofInt 1) (dk dt_X12_putPart 80 rfl) (by decide) ?_
                refine jz_isub (dk dt_X12_putPart 81 rfl) ?_
                refine j_iload_n (dk dt_X12_putPart 82 rfl) rfl ?_
                refine j_aload_n (dk dt_X12_putPart 83 rfl) rfl ?_
                refine jm_getA (dk dt_X12_putPart 84 rfl) fl_X12_67 rfl (c := 14) rfl m_143 ?_
                refine j_iload_n (dk dt_X12_putPart 85 rfl) rfl ?_
                refine j_iconst (v := Int32.ofInt 1) (dk dt_X12_putPart 86 rfl) (by decide) ?_
                refine jz_isub (dk dt_X12_putPart 87 rfl) ?_
                obtain ⟨p_158, q_158, H⟩ := H
                refine jm_iald (dk dt_X12_putPart 88 rfl) rfl rfl m_143 p_158 q_158 ?_
                refine j_callS1 (dk dt_X12_putPart 89 rfl) sl_X12_793 (T_X12_level (m_143.2.1.1 _ _) H) rfl (by omega) (Nat.zero_le _) (Nat.zero_le _) (Nat.le_of_ble_eq_true rfl) (fun v_159 h_159 P_159 => ?_)
                obtain ⟨x_159, rfl, r_159, rfl, H⟩ := P_159
                dsimp only [rs]
                refine j_iconst (v := Int32.ofInt 5) (dk dt_X12_putPart 90 rfl) (by decide) ?_
                refine jz_icmp_ge 170 (dk dt_X12_putPart 91 rfl) (by decide) r_159 (by decide) H (fun H => ?_) (fun H => ?_)
                · refine j_iconst (v := Int32.ofInt 0) (dk dt_X12_putPart 94 rfl) (by decide) ?_
                  exact j_el (T_X12_putPart_171 (r32_w _) r_x2 (by decide) m_143 ih_X12_putPart ih_X12_putSide  H) trivial
                · refine j_iconst (v := Int32.ofInt 1) (dk dt_X12_putPart 92 rfl) (by decide) ?_
                  refine j_goto 171 (dk dt_X12_putPart 93 rfl) (by decide) ?_
                  exact j_el (T_X12_putPart_171 (r32_w _) r_x2 (by decide) m_143 ih_X12_putPart ih_X12_putSide  H) trivial
              · refine j_iload_n (dk dt_X12_putPart 97 rfl) rfl ?_
                refine j_bipush (v := Int32.ofInt 30) (dk dt_X12_putPart 98 rfl) (by decide) ?_
                refine jz_icmp_ge 274 (dk dt_X12_putPart 99 rfl) (by decide) (m.2.1.1 _ _) (by decide) H (fun H => ?_) (fun H => ?_)
                · refine j_aload_n (dk dt_X12_putPart 150 rfl) rfl ?_
                  refine j_iload_n (dk dt_X12_putPart 151 rfl) rfl ?_
                  refine j_callS1 (dk dt_X12_putPart 152 rfl) sl_X12_492 (T_X12_nameOf (m.2.1.1 _ _) H) rfl (by omega) (Nat.zero_le _) (Nat.zero_le _) (Nat.le_of_ble_eq_true rfl) (fun v_276 h_276 P_276 => ?_)
                  obtain ⟨x_276, rfl, rfl, H⟩ := P_276
                  dsimp only [rs]
                  refine jz_callV1 (dk dt_X12_putPart 153 rfl) vl_X12_786 rfl (T_X12_say m H) m.1.1 rfl (by omega) (Nat.zero_le _) (Nat.zero_le _) (Nat.le_of_ble_eq_true rfl) (fun v_279 h_279 P_279 => ?_)
                  obtain ⟨u_279, rfl, m_279, H⟩ := P_279
                  dsimp only [rs]
                  refine j_iconst (v := Int32.ofInt 0) (dk dt_X12_putPart 154 rfl) (by decide) ?_
                  refine j_istore (dk dt_X12_putPart 155 rfl) (by decide) ?_
                  exact j_el (T_X12_putPart_285 r_x1 r_x2 (by decide) m_279 ih_X12_putPart ih_X12_putSide  H) (And.intro rfl (And.intro rfl (And.intro rfl (And.intro rfl trivial))))
                · refine j_aload_n (dk dt_X12_putPart 100 rfl) rfl ?_
                  refine j_iload_n (dk dt_X12_putPart 101 rfl) rfl ?_
                  refine j_iconst (v := Int32.ofInt 0) (dk dt_X12_putPart 102 rfl) (by decide) ?_
                  refine jz_callV2 (dk dt_X12_putPart 103 rfl) vl_X12_600 rfl (T_X12_under r_x1 (by decide) m H) m.1.1 rfl (by omega) (Nat.zero_le _) (Nat.zero_le _) (Nat.le_of_ble_eq_true rfl) (fun v_186 h_186 P_186 => ?_)
                  obtain ⟨x_186, rfl, r_186, rfl, H⟩ := P_186
                  dsimp only [rs]
                  refine j_istore (dk dt_X12_putPart 104 rfl) (by decide) ?_
                  refine j_aload_n (dk dt_X12_putPart 105 rfl) rfl ?_
                  refine jm_getA (dk dt_X12_putPart 106 rfl) fl_X12_67 rfl (c := 14) rfl m ?_
                  refine j_iload (dk dt_X12_putPart 107 rfl) rfl ?_
                  obtain ⟨p_197, q_197, H⟩ := H
                  refine jm_iald (dk dt_X12_putPart 108 rfl) rfl rfl m p_197 q_197 ?_
                  refine j_callS1 (dk dt_X12_putPart 109 rfl) sl_X12_793 (T_X12_level (m.2.1.1 _ _) H) rfl (by omega) (Nat.zero_le _) (Nat.zero_le _) (Nat.le_of_ble_eq_true rfl) (fun v_198 h_198 P_198 => ?_)
                  obtain ⟨x_198, rfl, r_198, rfl, H⟩ := P_198
                  dsimp only [rs]
                  refine j_istore (dk dt_X12_putPart 110 rfl) (by decide) ?_
                  refine j_aload_n (dk dt_X12_putPart 111 rfl) rfl ?_
                  refine j_iload (dk dt_X12_putPart 112 rfl) rfl ?_
                  refine j_iload_n (dk dt_X12_putPart 113 rfl) rfl ?_
                  refine j_iload (dk dt_X12_putPart 114 rfl) rfl ?_
                  refine j_iload (dk dt_X12_putPart 115 rfl) rfl ?_
                  refine jz_icmp_lt 226 (dk dt_X12_putPart 116 rfl) (by decide) r_198 r_8 H (fun H => ?_) (fun H => ?_)
                  · exact j_el (T_X12_putPart_226 r_x1 r_x2 (m.2.1.1 _ _) r_8 r_186 r_x2 m ih_X12_putPart ih_X12_putSide  H) (And.intro rfl (And.intro rfl (And.intro rfl (And.intro rfl (And.intro rfl trivial)))))
                  · refine j_iload (dk dt_X12_putPart 117 rfl) rfl ?_
                    refine j_iconst (v := Int32.ofInt 1) (dk dt_X12_putPart 118 rfl) (by decide) ?_
                    refine jz_icmp_ne 230 (dk dt_X12_putPart 119 rfl) (by decide) r_8 (by decide) H (fun H => ?_) (fun H => ?_)
                    · refine j_iload (dk dt_X12_putPart 120 rfl) rfl ?_
                      refine j_iconst (v := Int32.ofInt 1) (dk dt_X12_putPart 121 rfl) (by decide) ?_
                      refine jz_icmp_ne 230 (dk dt_X12_putPart 122 rfl) (by decide) r_198 (by decide) H (fun H => ?_) (fun H => ?_)
                      · exact j_el (T_X12_putPart_226 r_x1 r_x2 (m.2.1.1 _ _) r_8 r_186 r_x2 m ih_X12_putPart ih_X12_putSide  H) (And.intro rfl (And.intro rfl (And.intro rfl (And.intro rfl (And.intro rfl trivial)))))
                      · exact j_el (T_X12_putPart_230 r_x1 r_x2 (m.2.1.1 _ _) r_8 r_186 r_x2 m ih_X12_putPart ih_X12_putSide  H) (And.intro rfl (And.intro rfl (And.intro rfl (And.intro rfl (And.intro rfl trivial)))))
                    · exact j_el (T_X12_putPart_230 r_x1 r_x2 (m.2.1.1 _ _) r_8 r_186 r_x2 m ih_X12_putPart ih_X12_putSide  H) (And.intro rfl (And.intro rfl (And.intro rfl (And.intro rfl (And.intro rfl trivial)))))
def F_X12_putSide_26 (R_X12_putPart : Int → Int → Mu → (Mu → Prop) → Prop) (R_X12_putSide : Int → Int → Int → Mu → (Mu → Prop) → Prop) (u : Mu) (P : Mu → Prop) : Prop :=
  P u
theorem T_X12_putSide_26 {n : Nat} {R_X12_putPart : Int → Int → Mu → (Mu → Prop) → Prop} {R_X12_putSide : Int → Int → Int → Mu → (Mu → Prop) → Prop} {u : Mu} {P : Mu → Prop} {h : Hp} {g : Nat → Nat}  (m : Ms h g u) (ih_X12_putPart : ∀ {x1 : Int} {x2 : Int} {u : Mu} {P : Mu → Prop} {h : Hp} {g : Nat → Nat}, R32 x1 → R32 x2 → Ms h g u → R_X12_putPart x1 x2 u P → Con mX12_putPart (9 + n) 0 0 [vr (some (g 0)), ii (x1), ii (x2)] h (QMV g P)) (ih_X12_putSide : ∀ {x1 : Int} {x2 : Int} {x3 : Int} {u : Mu} {P : Mu → Prop} {h : Hp} {g : Nat → Nat}, R32 x1 → R32 x2 → R32 x3 → Ms h g u → R_X12_putSide x1 x2 x3 u P → Con mX12_putSide (9 + n) 0 0 [vr (some (g 0)), ii (x1), ii (x2), ii (x3)] h (QMV g P))  (H : F_X12_putSide_26 R_X12_putPart R_X12_putSide u P) : J mX12_putSide (9 + n + 1) 0 0 (nx (QMV g P)) 26 [none, none, none, none] [] h := by
  unfold F_X12_putSide_26 at H
  exact j_return (dk dt_X12_putSide 14 rfl) rfl ⟨_, rfl, m, H⟩
def F_X12_putSide_10 (R_X12_putPart : Int → Int → Mu → (Mu → Prop) → Prop) (R_X12_putSide : Int → Int → Int → Mu → (Mu → Prop) → Prop) (x1 : Int) (x2 : Int) (x3 : Int) (u : Mu) (P : Mu → Prop) : Prop :=
  R_X12_putPart x1 x2 u (fun u_13 => (if x3 = 0 then F_X12_putSide_26 R_X12_putPart R_X12_putSide u_13 P else F_X12_put 41 u_13 (fun u_23 => F_X12_putSide_26 R_X12_putPart R_X12_putSide u_23 P)))
theorem T_X12_putSide_10 {n : Nat} {R_X12_putPart : Int → Int → Mu → (Mu → Prop) → Prop} {R_X12_putSide : Int → Int → Int → Mu → (Mu → Prop) → Prop} {x1 : Int} {x2 : Int} {x3 : Int} {u : Mu} {P : Mu → Prop} {h : Hp} {g : Nat → Nat} (r_x1 : R32 x1) (r_x2 : R32 x2) (r_x3 : R32 x3) (m : Ms h g u) (ih_X12_putPart : ∀ {x1 : Int} {x2 : Int} {u : Mu} {P : Mu → Prop} {h : Hp} {g : Nat → Nat}, R32 x1 → R32 x2 → Ms h g u → R_X12_putPart x1 x2 u P → Con mX12_putPart (9 + n) 0 0 [vr (some (g 0)), ii (x1), ii (x2)] h (QMV g P)) (ih_X12_putSide : ∀ {x1 : Int} {x2 : Int} {x3 : Int} {u : Mu} {P : Mu → Prop} {h : Hp} {g : Nat → Nat}, R32 x1 → R32 x2 → R32 x3 → Ms h g u → R_X12_putSide x1 x2 x3 u P → Con mX12_putSide (9 + n) 0 0 [vr (some (g 0)), ii (x1), ii (x2), ii (x3)] h (QMV g P))  (H : F_X12_putSide_10 R_X12_putPart R_X12_putSide x1 x2 x3 u P) : J mX12_putSide (9 + n + 1) 0 0 (nx (QMV g P)) 10 [some (vr (some (g 0))), some (ii (x1)), some (ii (x2)), some (ii (x3))] [] h := by
  unfold F_X12_putSide_10 at H
  refine j_aload_n (dk dt_X12_putSide 5 rfl) rfl ?_
  refine j_iload_n (dk dt_X12_putSide 6 rfl) rfl ?_
  refine j_iload_n (dk dt_X12_putSide 7 rfl) rfl ?_
  refine jz_callV2 (dk dt_X12_putSide 8 rfl) vl_X12_779 rfl (ih_X12_putPart r_x1 r_x2 m H) m.1.1 rfl (by omega) (Nat.zero_le _) (Nat.zero_le _) (Nat.le_of_ble_eq_true rfl) (fun v_13 h_13 P_13 => ?_)
  obtain ⟨u_13, rfl, m_13, H⟩ := P_13
  dsimp only [rs]
  refine j_iload_n (dk dt_X12_putSide 9 rfl) rfl ?_
  refine jz_if_eq 26 (dk dt_X12_putSide 10 rfl) (by decide) r_x3 H (fun H => ?_) (fun H => ?_)
  · exact j_el (T_X12_putSide_26  m_13 ih_X12_putPart ih_X12_putSide  H) trivial
  · refine j_aload_n (dk dt_X12_putSide 11 rfl) rfl ?_
    refine j_bipush (v := Int32.ofInt 41) (dk dt_X12_putSide 12 rfl) (by decide) ?_
    refine jz_callV1 (dk dt_X12_putSide 13 rfl) vl_X12_749 rfl (T_X12_put (by decide) m_13 H) m_13.1.1 rfl (by omega) (Nat.zero_le _) (Nat.zero_le _) (Nat.le_of_ble_eq_true rfl) (fun v_23 h_23 P_23 => ?_)
    obtain ⟨u_23, rfl, m_23, H⟩ := P_23
    dsimp only [rs]
    exact j_el (T_X12_putSide_26  m_23 ih_X12_putPart ih_X12_putSide  H) trivial
def B_X12_putSide (R_X12_putPart : Int → Int → Mu → (Mu → Prop) → Prop) (R_X12_putSide : Int → Int → Int → Mu → (Mu → Prop) → Prop) (x1 : Int) (x2 : Int) (x3 : Int) (u : Mu) (P : Mu → Prop) : Prop :=
  (if x3 = 0 then F_X12_putSide_10 R_X12_putPart R_X12_putSide x1 x2 x3 u P else F_X12_put 40 u (fun u_7 => F_X12_putSide_10 R_X12_putPart R_X12_putSide x1 x2 x3 u_7 P))
theorem V_X12_putSide {n : Nat} {R_X12_putPart : Int → Int → Mu → (Mu → Prop) → Prop} {R_X12_putSide : Int → Int → Int → Mu → (Mu → Prop) → Prop} {x1 : Int} {x2 : Int} {x3 : Int} {u : Mu} {P : Mu → Prop} {h : Hp} {g : Nat → Nat} (r_x1 : R32 x1) (r_x2 : R32 x2) (r_x3 : R32 x3) (m : Ms h g u) (ih_X12_putPart : ∀ {x1 : Int} {x2 : Int} {u : Mu} {P : Mu → Prop} {h : Hp} {g : Nat → Nat}, R32 x1 → R32 x2 → Ms h g u → R_X12_putPart x1 x2 u P → Con mX12_putPart (9 + n) 0 0 [vr (some (g 0)), ii (x1), ii (x2)] h (QMV g P)) (ih_X12_putSide : ∀ {x1 : Int} {x2 : Int} {x3 : Int} {u : Mu} {P : Mu → Prop} {h : Hp} {g : Nat → Nat}, R32 x1 → R32 x2 → R32 x3 → Ms h g u → R_X12_putSide x1 x2 x3 u P → Con mX12_putSide (9 + n) 0 0 [vr (some (g 0)), ii (x1), ii (x2), ii (x3)] h (QMV g P)) (H : B_X12_putSide R_X12_putPart R_X12_putSide x1 x2 x3 u P) : Con mX12_putSide (9 + n + 1) 0 0 [vr (some (g 0)), ii (x1), ii (x2), ii (x3)] h (QMV g P) := by
  refine con_of rfl (Nat.le_of_ble_eq_true rfl) (by decide) ?_
  show J mX12_putSide (9 + n + 1) 0 0 _ 0 [some (vr (some (g 0))), some (ii (x1)), some (ii (x2)), some (ii (x3))] [] h
  unfold B_X12_putSide at H
  refine j_iload_n (dk dt_X12_putSide 0 rfl) rfl ?_
  refine jz_if_eq 10 (dk dt_X12_putSide 1 rfl) (by decide) r_x3 H (fun H => ?_) (fun H => ?_)
  · exact j_el (T_X12_putSide_10 r_x1 r_x2 r_x3 m ih_X12_putPart ih_X12_putSide  H) (And.intro rfl (And.intro rfl (And.intro rfl (And.intro rfl trivial))))
  · refine j_aload_n (dk dt_X12_putSide 2 rfl) rfl ?_
    refine j_bipush (v := Int32.ofInt 40) (dk dt_X12_putSide 3 rfl) (by decide) ?_
    refine jz_callV1 (dk dt_X12_putSide 4 rfl) vl_X12_749 rfl (T_X12_put (by decide) m H) m.1.1 rfl (by omega) (Nat.zero_le _) (Nat.zero_le _) (Nat.le_of_ble_eq_true rfl) (fun v_7 h_7 P_7 => ?_)
    obtain ⟨u_7, rfl, m_7, H⟩ := P_7
    dsimp only [rs]
    exact j_el (T_X12_putSide_10 r_x1 r_x2 r_x3 m_7 ih_X12_putPart ih_X12_putSide  H) (And.intro rfl (And.intro rfl (And.intro rfl (And.intro rfl trivial))))
def RG_X12_putPart : Nat → (Int → Int → Mu → (Mu → Prop) → Prop) × (Int → Int → Int → Mu → (Mu → Prop) → Prop)
  | 0 => ((fun _ _ _ _ => False), (fun _ _ _ _ _ => False))
  | n + 1 => (B_X12_putPart ((RG_X12_putPart n).1) ((RG_X12_putPart n).2), B_X12_putSide ((RG_X12_putPart n).1) ((RG_X12_putPart n).2))
theorem RT_X12_putPart : ∀ n : Nat, (∀ {x1 : Int} {x2 : Int} {u : Mu} {P : Mu → Prop} {h : Hp} {g : Nat → Nat}, R32 x1 → R32 x2 → Ms h g u → (RG_X12_putPart n).1 x1 x2 u P → Con mX12_putPart (9 + n) 0 0 [vr (some (g 0)), ii (x1), ii (x2)] h (QMV g P)) ∧ (∀ {x1 : Int} {x2 : Int} {x3 : Int} {u : Mu} {P : Mu → Prop} {h : Hp} {g : Nat → Nat}, R32 x1 → R32 x2 → R32 x3 → Ms h g u → (RG_X12_putPart n).2 x1 x2 x3 u P → Con mX12_putSide (9 + n) 0 0 [vr (some (g 0)), ii (x1), ii (x2), ii (x3)] h (QMV g P)) := by
  intro n
  induction n with
  | zero => exact ⟨fun _ _ _ H => (show False from H).elim, fun _ _ _ _ H => (show False from H).elim⟩
  | succ n ih => exact ⟨fun a0 a1 w H => V_X12_putPart a0 a1 w ih.1 ih.2 H, fun a0 a1 a2 w H => V_X12_putSide a0 a1 a2 w ih.1 ih.2 H⟩
def F_X12_putPart (n : Nat) (x1 : Int) (x2 : Int) (u : Mu) (P : Mu → Prop) : Prop := (RG_X12_putPart n).1 x1 x2 u P
def F_X12_putSide (n : Nat) (x1 : Int) (x2 : Int) (x3 : Int) (u : Mu) (P : Mu → Prop) : Prop := (RG_X12_putPart n).2 x1 x2 x3 u P
theorem F_X12_putPart_s (n : Nat) (x1 : Int) (x2 : Int) (u : Mu) (P : Mu → Prop) : F_X12_putPart (n + 1) x1 x2 u P = B_X12_putPart (F_X12_putPart n) (F_X12_putSide n) x1 x2 u P := rfl
theorem T_X12_putPart {n : Nat} {x1 : Int} {x2 : Int} {u : Mu} {P : Mu → Prop} {h : Hp} {g : Nat → Nat} (r_x1 : R32 x1) (r_x2 : R32 x2) (m : Ms h g u) (H : F_X12_putPart n x1 x2 u P) : Con mX12_putPart (9 + n) 0 0 [vr (some (g 0)), ii (x1), ii (x2)] h (QMV g P) := (RT_X12_putPart n).1 r_x1 r_x2 m H
theorem F_X12_putSide_s (n : Nat) (x1 : Int) (x2 : Int) (x3 : Int) (u : Mu) (P : Mu → Prop) : F_X12_putSide (n + 1) x1 x2 x3 u P = B_X12_putSide (F_X12_putPart n) (F_X12_putSide n) x1 x2 x3 u P := rfl
theorem T_X12_putSide {n : Nat} {x1 : Int} {x2 : Int} {x3 : Int} {u : Mu} {P : Mu → Prop} {h : Hp} {g : Nat → Nat} (r_x1 : R32 x1) (r_x2 : R32 x2) (r_x3 : R32 x3) (m : Ms h g u) (H : F_X12_putSide n x1 x2 x3 u P) : Con mX12_putSide (9 + n) 0 0 [vr (some (g 0)), ii (x1), ii (x2), ii (x3)] h (QMV g P) := (RT_X12_putPart n).2 r_x1 r_x2 r_x3 m H
def F_X12_redo  (u : Mu) (P : Int → Mu → Prop) : Prop :=
  (∀ u_2, u_2 = uI u 0 0 0 → (if mI u_2 0 17 = 0 then F_X12_throwing 1 u_2 (fun x_14 u_14 => P x_14 u_14) else (∀ u_25, u_25 = uI u_2 0 16 (w32 (mI u_2 0 16 + 1)) → F_X12_stepAt (w32 ((mI u_25 0 16) - 1)) u_25 (fun x_38 => F_X12_copySheet 40 x_38 u_25 (fun u_41 => (∀ u_51, u_51 = uI u_41 0 17 (w32 ((mI u_41 0 17) - 1)) → F_X12_copySheet (w32 (81 + (mI u_51 0 17))) 40 u_51 (fun u_64 => P (mI u_64 0 17) u_64)))))))
theorem T_X12_redo  {u : Mu} {P : Int → Mu → Prop} {h : Hp} {g : Nat → Nat}  (m : Ms h g u)  (H : F_X12_redo u P) : Con mX12_redo 2 0 0 [vr (some (g 0))] h (QMI g P) := by
  refine con_of rfl (Nat.le_of_ble_eq_true rfl) (by decide) ?_
  show J mX12_redo 2 0 0 _ 0 [some (vr (some (g 0)))] [] h
  unfold F_X12_redo at H
  refine j_aload_n (dk dt_X12_redo 0 rfl) rfl ?_
  refine j_iconst (v := Int32.ofInt 0) (dk dt_X12_redo 1 rfl) (by decide) ?_
  refine jm_putI (kz := 0) (dk dt_X12_redo 2 rfl) fl_X12_202 rfl rfl rfl rfl m (by decide) (fun h_2 m_2 => ?_)
  replace H := H _ rfl
  refine j_aload_n (dk dt_X12_redo 3 rfl) rfl ?_
  refine jm_getI (kz := 17) (dk dt_X12_redo 4 rfl) fl_X12_230 rfl rfl m_2 ?_
  refine jz_if_ne 18 (dk dt_X12_redo 5 rfl) (by decide) (m_2.2.1.1 _ _) H (fun H => ?_) (fun H => ?_)
  · refine j_aload_n (dk dt_X12_redo 6 rfl) rfl ?_
    refine j_iconst (v := Int32.ofInt 1) (dk dt_X12_redo 7 rfl) (by decide) ?_
    refine jz_callV1 (dk dt_X12_redo 8 rfl) vl_X12_237 rfl (T_X12_throwing (by decide) m_2 H) m_2.1.1 rfl (by decide) (Nat.zero_le _) (Nat.zero_le _) (Nat.le_of_ble_eq_true rfl) (fun v_14 h_14 P_14 => ?_)
    obtain ⟨x_14, u_14, rfl, r_14, m_14, H⟩ := P_14
    dsimp only [rs]
    exact j_ireturn (dk dt_X12_redo 9 rfl) rfl rfl ⟨_, _, rfl, r_14, m_14, H⟩
  · refine j_aload_n (dk dt_X12_redo 10 rfl) rfl ?_
    refine j_dup (dk dt_X12_redo 11 rfl) rfl ?_
    refine jm_getI (kz := 16) (dk dt_X12_redo 12 rfl) fl_X12_227 rfl rfl m_2 ?_
    refine j_iconst (v := Int32.ofInt 1) (dk dt_X12_redo 13 rfl) (by decide) ?_
    refine jz_iadd (dk dt_X12_redo 14 rfl) ?_
    refine jm_putI (kz := 16) (dk dt_X12_redo 15 rfl) fl_X12_227 rfl rfl rfl rfl m_2 (r32_w _) (fun h_25 m_25 => ?_)
    replace H := H _ rfl
    refine j_aload_n (dk dt_X12_redo 16 rfl) rfl ?_
    refine j_bipush (v := Int32.ofInt 40) (dk dt_X12_redo 17 rfl) (by decide) ?_
    refine j_aload_n (dk dt_X12_redo 18 rfl) rfl ?_
    refine j_aload_n (dk dt_X12_redo 19 rfl) rfl ?_
    refine jm_getI (kz := 16) (dk dt_X12_redo 20 rfl) fl_X12_227 rfl rfl m_25 ?_
    refine j_iconst (v := Int32.ofInt 1) (dk dt_X12_redo 21 rfl) (by decide) ?_
    refine jz_isub (dk dt_X12_redo 22 rfl) ?_
    refine jz_callV1 (dk dt_X12_redo 23 rfl) vl_X12_233 rfl (T_X12_stepAt (r32_w _) m_25 H) m_25.1.1 rfl (by decide) (Nat.zero_le _) (Nat.zero_le _) (Nat.le_of_ble_eq_true rfl) (fun v_38 h_38 P_38 => ?_)
    obtain ⟨x_38, rfl, r_38, rfl, H⟩ := P_38
    dsimp only [rs]
    refine jz_callV2 (dk dt_X12_redo 24 rfl) vl_X12_198 rfl (T_X12_copySheet (by decide) r_38 m_25 H) m_25.1.1 rfl (by decide) (Nat.zero_le _) (Nat.zero_le _) (Nat.le_of_ble_eq_true rfl) (fun v_41 h_41 P_41 => ?_)
    obtain ⟨u_41, rfl, m_41, H⟩ := P_41
    dsimp only [rs]
    refine j_aload_n (dk dt_X12_redo 25 rfl) rfl ?_
    refine j_dup (dk dt_X12_redo 26 rfl) rfl ?_
    refine jm_getI (kz := 17) (dk dt_X12_redo 27 rfl) fl_X12_230 rfl rfl m_41 ?_
    refine j_iconst (v := Int32.ofInt 1) (dk dt_X12_redo 28 rfl) (by decide) ?_
    refine jz_isub (dk dt_X12_redo 29 rfl) ?_
    refine jm_putI (kz := 17) (dk dt_X12_redo 30 rfl) fl_X12_230 rfl rfl rfl rfl m_41 (r32_w _) (fun h_51 m_51 => ?_)
    replace H := H _ rfl
    refine j_aload_n (dk dt_X12_redo 31 rfl) rfl ?_
    refine j_bipush (v := Int32.ofInt 81) (dk dt_X12_redo 32 rfl) (by decide) ?_
    refine j_aload_n (dk dt_X12_redo 33 rfl) rfl ?_
    refine jm_getI (kz := 17) (dk dt_X12_redo 34 rfl) fl_X12_230 rfl rfl m_51 ?_
    refine jz_iadd (dk dt_X12_redo 35 rfl) ?_
    refine j_bipush (v := Int32.ofInt 40) (dk dt_X12_redo 36 rfl) (by decide) ?_
    refine jz_callV2 (dk dt_X12_redo 37 rfl) vl_X12_198 rfl (T_X12_copySheet (r32_w _) (by decide) m_51 H) m_51.1.1 rfl (by decide) (Nat.zero_le _) (Nat.zero_le _) (Nat.le_of_ble_eq_true rfl) (fun v_64 h_64 P_64 => ?_)
    obtain ⟨u_64, rfl, m_64, H⟩ := P_64
    dsimp only [rs]
    refine j_aload_n (dk dt_X12_redo 38 rfl) rfl ?_
    refine jm_getI (kz := 17) (dk dt_X12_redo 39 rfl) fl_X12_230 rfl rfl m_64 ?_
    exact j_ireturn (dk dt_X12_redo 40 rfl) rfl rfl ⟨_, _, rfl, (m_64.2.1.1 _ _), m_64, H⟩
def F_X12_remove  (x1 : Int) (x2 : Int) (u : Mu) (P : Int → Mu → Prop) : Prop :=
  (∀ u_2, u_2 = uI u 0 0 0 → F_X12_in x1 0 1 (fun x_8 => (if x_8 = 0 then F_X12_throwing 1 u_2 (fun x_16 u_16 => P x_16 u_16) else F_X12_linesOf 40 x1 u_2 (fun x_24 => F_X12_in x2 1 x_24 (fun x_31 => (if x_31 = 0 then F_X12_throwing 2 u_2 (fun x_39 u_39 => P x_39 u_39) else (if x_24 = 1 then F_X12_throwing 3 u_2 (fun x_50 u_50 => P x_50 u_50) else F_X12_step u_2 (fun x_55 u_55 => F_X12_goLine x1 x2 x_55 u_55 (fun u_65 => P (w32 (x_24 - 1)) u_65)))))))))
theorem T_X12_remove  {x1 : Int} {x2 : Int} {u : Mu} {P : Int → Mu → Prop} {h : Hp} {g : Nat → Nat} (r_x1 : R32 x1) (r_x2 : R32 x2) (m : Ms h g u)  (H : F_X12_remove x1 x2 u P) : Con mX12_remove 4 0 0 [vr (some (g 0)), ii (x1), ii (x2)] h (QMI g P) := by
  refine con_of rfl (Nat.le_of_ble_eq_true rfl) (by decide) ?_
  show J mX12_remove 4 0 0 _ 0 [some (vr (some (g 0))), some (ii (x1)), some (ii (x2)), none, none] [] h
  unfold F_X12_remove at H
  refine j_aload_n (dk dt_X12_remove 0 rfl) rfl ?_
  refine j_iconst (v := Int32.ofInt 0) (dk dt_X12_remove 1 rfl) (by decide) ?_
  refine jm_putI (kz := 0) (dk dt_X12_remove 2 rfl) fl_X12_202 rfl rfl rfl rfl m (by decide) (fun h_2 m_2 => ?_)
  replace H := H _ rfl
  refine j_iload_n (dk dt_X12_remove 3 rfl) rfl ?_
  refine j_iconst (v := Int32.ofInt 0) (dk dt_X12_remove 4 rfl) (by decide) ?_
  refine j_iconst (v := Int32.ofInt 1) (dk dt_X12_remove 5 rfl) (by decide) ?_
  refine j_callS3 (dk dt_X12_remove 6 rfl) sl_X12_220 (T_X12_in r_x1 (by decide) (by decide) H) rfl (by decide) (Nat.zero_le _) (Nat.zero_le _) (Nat.le_of_ble_eq_true rfl) (fun v_8 h_8 P_8 => ?_)
  obtain ⟨x_8, rfl, r_8, rfl, H⟩ := P_8
  dsimp only [rs]
  refine jz_if_ne 20 (dk dt_X12_remove 7 rfl) (by decide) r_8 H (fun H => ?_) (fun H => ?_)
  · refine j_aload_n (dk dt_X12_remove 8 rfl) rfl ?_
    refine j_iconst (v := Int32.ofInt 1) (dk dt_X12_remove 9 rfl) (by decide) ?_
    refine jz_callV1 (dk dt_X12_remove 10 rfl) vl_X12_237 rfl (T_X12_throwing (by decide) m_2 H) m_2.1.1 rfl (by decide) (Nat.zero_le _) (Nat.zero_le _) (Nat.le_of_ble_eq_true rfl) (fun v_16 h_16 P_16 => ?_)
    obtain ⟨x_16, u_16, rfl, r_16, m_16, H⟩ := P_16
    dsimp only [rs]
    exact j_ireturn (dk dt_X12_remove 11 rfl) rfl rfl ⟨_, _, rfl, r_16, m_16, H⟩
  · refine j_aload_n (dk dt_X12_remove 12 rfl) rfl ?_
    refine j_bipush (v := Int32.ofInt 40) (dk dt_X12_remove 13 rfl) (by decide) ?_
    refine j_iload_n (dk dt_X12_remove 14 rfl) rfl ?_
    refine jz_callV2 (dk dt_X12_remove 15 rfl) vl_X12_209 rfl (T_X12_linesOf (by decide) r_x1 m_2 H) m_2.1.1 rfl (by decide) (Nat.zero_le _) (Nat.zero_le _) (Nat.le_of_ble_eq_true rfl) (fun v_24 h_24 P_24 => ?_)
    obtain ⟨x_24, rfl, r_24, rfl, H⟩ := P_24
    dsimp only [rs]
    refine j_istore_n (dk dt_X12_remove 16 rfl) (by decide) ?_
    refine j_iload_n (dk dt_X12_remove 17 rfl) rfl ?_
    refine j_iconst (v := Int32.ofInt 1) (dk dt_X12_remove 18 rfl) (by decide) ?_
    refine j_iload_n (dk dt_X12_remove 19 rfl) rfl ?_
    refine j_callS3 (dk dt_X12_remove 20 rfl) sl_X12_220 (T_X12_in r_x2 (by decide) r_24 H) rfl (by decide) (Nat.zero_le _) (Nat.zero_le _) (Nat.le_of_ble_eq_true rfl) (fun v_31 h_31 P_31 => ?_)
    obtain ⟨x_31, rfl, r_31, rfl, H⟩ := P_31
    dsimp only [rs]
    refine jz_if_ne 43 (dk dt_X12_remove 21 rfl) (by decide) r_31 H (fun H => ?_) (fun H => ?_)
    · refine j_aload_n (dk dt_X12_remove 22 rfl) rfl ?_
      refine j_iconst (v := Int32.ofInt 2) (dk dt_X12_remove 23 rfl) (by decide) ?_
      refine jz_callV1 (dk dt_X12_remove 24 rfl) vl_X12_237 rfl (T_X12_throwing (by decide) m_2 H) m_2.1.1 rfl (by decide) (Nat.zero_le _) (Nat.zero_le _) (Nat.le_of_ble_eq_true rfl) (fun v_39 h_39 P_39 => ?_)
      obtain ⟨x_39, u_39, rfl, r_39, m_39, H⟩ := P_39
      dsimp only [rs]
      exact j_ireturn (dk dt_X12_remove 25 rfl) rfl rfl ⟨_, _, rfl, r_39, m_39, H⟩
    · refine j_iload_n (dk dt_X12_remove 26 rfl) rfl ?_
      refine j_iconst (v := Int32.ofInt 1) (dk dt_X12_remove 27 rfl) (by decide) ?_
      refine jz_icmp_ne 54 (dk dt_X12_remove 28 rfl) (by decide) r_24 (by decide) H (fun H => ?_) (fun H => ?_)
      · refine j_aload_n (dk dt_X12_remove 29 rfl) rfl ?_
        refine j_iconst (v := Int32.ofInt 3) (dk dt_X12_remove 30 rfl) (by decide) ?_
        refine jz_callV1 (dk dt_X12_remove 31 rfl) vl_X12_237 rfl (T_X12_throwing (by decide) m_2 H) m_2.1.1 rfl (by decide) (Nat.zero_le _) (Nat.zero_le _) (Nat.le_of_ble_eq_true rfl) (fun v_50 h_50 P_50 => ?_)
        obtain ⟨x_50, u_50, rfl, r_50, m_50, H⟩ := P_50
        dsimp only [rs]
        exact j_ireturn (dk dt_X12_remove 32 rfl) rfl rfl ⟨_, _, rfl, r_50, m_50, H⟩
      · refine j_aload_n (dk dt_X12_remove 33 rfl) rfl ?_
        refine jz_callV0 (dk dt_X12_remove 34 rfl) vl_X12_340 rfl (T_X12_step m_2 H) m_2.1.1 rfl (by decide) (Nat.zero_le _) (Nat.zero_le _) (Nat.le_of_ble_eq_true rfl) (fun v_55 h_55 P_55 => ?_)
        obtain ⟨x_55, u_55, rfl, r_55, m_55, H⟩ := P_55
        dsimp only [rs]
        refine j_istore (dk dt_X12_remove 35 rfl) (by decide) ?_
        refine j_aload_n (dk dt_X12_remove 36 rfl) rfl ?_
        refine j_iload_n (dk dt_X12_remove 37 rfl) rfl ?_
        refine j_iload_n (dk dt_X12_remove 38 rfl) rfl ?_
        refine j_iload (dk dt_X12_remove 39 rfl) rfl ?_
        refine jz_callV3 (dk dt_X12_remove 40 rfl) vl_X12_837 rfl (T_X12_goLine r_x1 r_x2 r_55 m_55 H) m_55.1.1 rfl (by decide) (Nat.zero_le _) (Nat.zero_le _) (Nat.le_of_ble_eq_true rfl) (fun v_65 h_65 P_65 => ?_)
        obtain ⟨u_65, rfl, m_65, H⟩ := P_65
        dsimp only [rs]
        refine j_iload_n (dk dt_X12_remove 41 rfl) rfl ?_
        refine j_iconst (v := Int32.ofInt 1) (dk dt_X12_remove 42 rfl) (by decide) ?_
        refine jz_isub (dk dt_X12_remove 43 rfl) ?_
        exact j_ireturn (dk dt_X12_remove 44 rfl) rfl rfl ⟨_, _, rfl, (r32_w _), m_65, H⟩
def F_X12_sheet_85  (s0 : Int) (u : Mu) (P : Int → Mu → Prop) : Prop :=
  P s0 u
theorem T_X12_sheet_85  {s0 : Int} {u : Mu} {P : Int → Mu → Prop} {h : Hp} {g : Nat → Nat} (r_s0 : R32 s0) (m : Ms h g u)   (H : F_X12_sheet_85 s0 u P) : J mX12_sheet 3 0 0 (nx (QMI g P)) 85 [none, none, none] [ii (s0)] h := by
  unfold F_X12_sheet_85 at H
  exact j_ireturn (dk dt_X12_sheet 32 rfl) rfl rfl ⟨_, _, rfl, r_s0, m, H⟩
def F_X12_sheet_103  (s0 : Int) (u : Mu) (P : Int → Mu → Prop) : Prop :=
  P s0 u
theorem T_X12_sheet_103  {s0 : Int} {u : Mu} {P : Int → Mu → Prop} {h : Hp} {g : Nat → Nat} (r_s0 : R32 s0) (m : Ms h g u)   (H : F_X12_sheet_103 s0 u P) : J mX12_sheet 3 0 0 (nx (QMI g P)) 103 [none, none, none] [ii (s0)] h := by
  unfold F_X12_sheet_103 at H
  exact j_ireturn (dk dt_X12_sheet 42 rfl) rfl rfl ⟨_, _, rfl, r_s0, m, H⟩
def F_X12_sheet  (x1 : Int) (x2 : Int) (u : Mu) (P : Int → Mu → Prop) : Prop :=
  (∀ u_2, u_2 = uI u 0 0 0 → F_X12_isSheet x1 u_2 (fun x_7 => (if x_7 = 0 then P (-1) u_2 else (if x2 = 0 then F_X12_sheetAt x1 (fun x_53 => (0 ≤ x_53 ∧ x_53 < 122 ∧ P (mI u_2 1 x_53) u_2)) else (if x2 = 1 then F_X12_sheetAt x1 (fun x_63 => (0 ≤ x_63 ∧ x_63 < 122 ∧ P (mI u_2 2 x_63) u_2)) else (if x2 = 2 then (if 0 ≤ x1 then (0 ≤ x1 ∧ x1 < 40 ∧ F_X12_sheet_85 (mI u_2 9 x1) u_2 P) else F_X12_head u_2 (fun x_73 => F_X12_sheet_85 x_73 u_2 P)) else (if x2 = 3 then (if 0 ≤ x1 then (0 ≤ x1 ∧ x1 < 40 ∧ F_X12_sheet_103 (mI u_2 10 x1) u_2 P) else F_X12_sheet_103 (mI u_2 0 13) u_2 P) else P (-1) u_2)))))))
theorem T_X12_sheet  {x1 : Int} {x2 : Int} {u : Mu} {P : Int → Mu → Prop} {h : Hp} {g : Nat → Nat} (r_x1 : R32 x1) (r_x2 : R32 x2) (m : Ms h g u)  (H : F_X12_sheet x1 x2 u P) : Con mX12_sheet 3 0 0 [vr (some (g 0)), ii (x1), ii (x2)] h (QMI g P) := by
  refine con_of rfl (Nat.le_of_ble_eq_true rfl) (by decide) ?_
  show J mX12_sheet 3 0 0 _ 0 [some (vr (some (g 0))), some (ii (x1)), some (ii (x2))] [] h
  unfold F_X12_sheet at H
  refine j_aload_n (dk dt_X12_sheet 0 rfl) rfl ?_
  refine j_iconst (v := Int32.ofInt 0) (dk dt_X12_sheet 1 rfl) (by decide) ?_
  refine jm_putI (kz := 0) (dk dt_X12_sheet 2 rfl) fl_X12_202 rfl rfl rfl rfl m (by decide) (fun h_2 m_2 => ?_)
  replace H := H _ rfl
  refine j_aload_n (dk dt_X12_sheet 3 rfl) rfl ?_
  refine j_iload_n (dk dt_X12_sheet 4 rfl) rfl ?_
  refine jz_callV1 (dk dt_X12_sheet 5 rfl) vl_X12_734 rfl (T_X12_isSheet r_x1 m_2 H) m_2.1.1 rfl (by decide) (Nat.zero_le _) (Nat.zero_le _) (Nat.le_of_ble_eq_true rfl) (fun v_7 h_7 P_7 => ?_)
  obtain ⟨x_7, rfl, r_7, rfl, H⟩ := P_7
  dsimp only [rs]
  refine jz_if_ne 15 (dk dt_X12_sheet 6 rfl) (by decide) r_7 H (fun H => ?_) (fun H => ?_)
  · refine j_iconst (v := Int32.ofInt (-1)) (dk dt_X12_sheet 7 rfl) (by decide) ?_
    exact j_ireturn (dk dt_X12_sheet 8 rfl) rfl rfl ⟨_, _, rfl, (by decide), m_2, H⟩
  · refine j_iload_n (dk dt_X12_sheet 9 rfl) rfl ?_
    by_cases y_16_0 : x2 = 0
    · rw [if_pos y_16_0] at H
      refine jz_tabIn 0 48 (dk dt_X12_sheet 10 rfl) r_x2 y_16_0 (by decide) (by decide) rfl (by decide) ?_
      refine j_aload_n (dk dt_X12_sheet 11 rfl) rfl ?_
      refine jm_getA (dk dt_X12_sheet 12 rfl) fl_X12_7 rfl (c := 14) rfl m_2 ?_
      refine j_iload_n (dk dt_X12_sheet 13 rfl) rfl ?_
      refine j_callS1 (dk dt_X12_sheet 14 rfl) sl_X12_737 (T_X12_sheetAt r_x1 H) rfl (by decide) (Nat.zero_le _) (Nat.zero_le _) (Nat.le_of_ble_eq_true rfl) (fun v_53 h_53 P_53 => ?_)
      obtain ⟨x_53, rfl, r_53, rfl, H⟩ := P_53
      dsimp only [rs]
      obtain ⟨p_56, q_56, H⟩ := H
      refine jm_iald (dk dt_X12_sheet 15 rfl) rfl rfl m_2 p_56 q_56 ?_
      exact j_ireturn (dk dt_X12_sheet 16 rfl) rfl rfl ⟨_, _, rfl, (m_2.2.1.1 _ _), m_2, H⟩
    rw [if_neg y_16_0] at H
    by_cases y_16_1 : x2 = 1
    · rw [if_pos y_16_1] at H
      refine jz_tabIn 1 58 (dk dt_X12_sheet 10 rfl) r_x2 y_16_1 (by decide) (by decide) rfl (by decide) ?_
      refine j_aload_n (dk dt_X12_sheet 17 rfl) rfl ?_
      refine jm_getA (dk dt_X12_sheet 18 rfl) fl_X12_13 rfl (c := 14) rfl m_2 ?_
      refine j_iload_n (dk dt_X12_sheet 19 rfl) rfl ?_
      refine j_callS1 (dk dt_X12_sheet 20 rfl) sl_X12_737 (T_X12_sheetAt r_x1 H) rfl (by decide) (Nat.zero_le _) (Nat.zero_le _) (Nat.le_of_ble_eq_true rfl) (fun v_63 h_63 P_63 => ?_)
      obtain ⟨x_63, rfl, r_63, rfl, H⟩ := P_63
      dsimp only [rs]
      obtain ⟨p_66, q_66, H⟩ := H
      refine jm_iald (dk dt_X12_sheet 21 rfl) rfl rfl m_2 p_66 q_66 ?_
      exact j_ireturn (dk dt_X12_sheet 22 rfl) rfl rfl ⟨_, _, rfl, (m_2.2.1.1 _ _), m_2, H⟩
    rw [if_neg y_16_1] at H
    by_cases y_16_2 : x2 = 2
    · rw [if_pos y_16_2] at H
      refine jz_tabIn 2 68 (dk dt_X12_sheet 10 rfl) r_x2 y_16_2 (by decide) (by decide) rfl (by decide) ?_
      refine j_iload_n (dk dt_X12_sheet 23 rfl) rfl ?_
      refine jz_if_ge 79 (dk dt_X12_sheet 24 rfl) (by decide) r_x1 H (fun H => ?_) (fun H => ?_)
      · refine j_aload_n (dk dt_X12_sheet 28 rfl) rfl ?_
        refine jm_getA (dk dt_X12_sheet 29 rfl) fl_X12_36 rfl (c := 14) rfl m_2 ?_
        refine j_iload_n (dk dt_X12_sheet 30 rfl) rfl ?_
        obtain ⟨p_84, q_84, H⟩ := H
        refine jm_iald (dk dt_X12_sheet 31 rfl) rfl rfl m_2 p_84 q_84 ?_
        exact j_el (T_X12_sheet_85 (m_2.2.1.1 _ _) m_2   H) trivial
      · refine j_aload_n (dk dt_X12_sheet 25 rfl) rfl ?_
        refine jz_callV0 (dk dt_X12_sheet 26 rfl) vl_X12_860 rfl (T_X12_head m_2 H) m_2.1.1 rfl (by decide) (Nat.zero_le _) (Nat.zero_le _) (Nat.le_of_ble_eq_true rfl) (fun v_73 h_73 P_73 => ?_)
        obtain ⟨x_73, rfl, r_73, rfl, H⟩ := P_73
        dsimp only [rs]
        refine j_goto 85 (dk dt_X12_sheet 27 rfl) (by decide) ?_
        exact j_el (T_X12_sheet_85 r_73 m_2   H) trivial
    rw [if_neg y_16_2] at H
    by_cases y_16_3 : x2 = 3
    · rw [if_pos y_16_3] at H
      refine jz_tabIn 3 86 (dk dt_X12_sheet 10 rfl) r_x2 y_16_3 (by decide) (by decide) rfl (by decide) ?_
      refine j_iload_n (dk dt_X12_sheet 33 rfl) rfl ?_
      refine jz_if_ge 97 (dk dt_X12_sheet 34 rfl) (by decide) r_x1 H (fun H => ?_) (fun H => ?_)
      · refine j_aload_n (dk dt_X12_sheet 38 rfl) rfl ?_
        refine jm_getA (dk dt_X12_sheet 39 rfl) fl_X12_39 rfl (c := 14) rfl m_2 ?_
        refine j_iload_n (dk dt_X12_sheet 40 rfl) rfl ?_
        obtain ⟨p_102, q_102, H⟩ := H
        refine jm_iald (dk dt_X12_sheet 41 rfl) rfl rfl m_2 p_102 q_102 ?_
        exact j_el (T_X12_sheet_103 (m_2.2.1.1 _ _) m_2   H) trivial
      · refine j_aload_n (dk dt_X12_sheet 35 rfl) rfl ?_
        refine jm_getI (kz := 13) (dk dt_X12_sheet 36 rfl) fl_X12_45 rfl rfl m_2 ?_
        refine j_goto 103 (dk dt_X12_sheet 37 rfl) (by decide) ?_
        exact j_el (T_X12_sheet_103 (m_2.2.1.1 _ _) m_2   H) trivial
    rw [if_neg y_16_3] at H
    refine jz_tabOut 104 (dk dt_X12_sheet 10 rfl) r_x2 (by omega) (by decide) ?_
    refine j_iconst (v := Int32.ofInt (-1)) (dk dt_X12_sheet 43 rfl) (by decide) ?_
    exact j_ireturn (dk dt_X12_sheet 44 rfl) rfl rfl ⟨_, _, rfl, (by decide), m_2, H⟩
def F_X12_sort_50  (u : Mu) (P : Int → Mu → Prop) : Prop :=
  F_X12_throwing 1 u (fun x_52 u_52 => P x_52 u_52)
theorem T_X12_sort_50  {u : Mu} {P : Int → Mu → Prop} {h : Hp} {g : Nat → Nat}  (m : Ms h g u)   (H : F_X12_sort_50 u P) : J mX12_sort 415 0 0 (nx (QMI g P)) 50 [some (vr (some (g 0))), none, none, none, none, none, none, none, none, none] [] h := by
  unfold F_X12_sort_50 at H
  refine j_aload_n (dk dt_X12_sort 27 rfl) rfl ?_
  refine j_iconst (v := Int32.ofInt 1) (dk dt_X12_sort 28 rfl) (by decide) ?_
  refine jz_callV1 (dk dt_X12_sort 29 rfl) vl_X12_237 rfl (T_X12_throwing (by decide) m H) m.1.1 rfl (by decide) (Nat.zero_le _) (Nat.zero_le _) (Nat.le_of_ble_eq_true rfl) (fun v_52 h_52 P_52 => ?_)
  obtain ⟨x_52, u_52, rfl, r_52, m_52, H⟩ := P_52
  dsimp only [rs]
  exact j_ireturn (dk dt_X12_sort 30 rfl) rfl rfl ⟨_, _, rfl, r_52, m_52, H⟩
def L_X12_sort_110  (x2 : Int) (x4 : Int) (x5 : Int) (x6 : Int) (x7 : Int) (x8 : Int) (u : Mu) (P : (Int × Mu) ⊕ ((Int × Mu)) → Prop) : Prop :=
  (if x8 ≤ 0 then P (.inr (x8, u)) else (0 ≤ w32 (x8 - 1) ∧ w32 (x8 - 1) < 32 ∧ F_X12_isAhead (w32 (x6 + (w32 (10 * x7)))) (w32 (x6 + (w32 (10 * (mI u 88 (w32 (x8 - 1))))))) x4 u (fun x_141 u_141 => (if x_141 = 0 then P (.inr (x8, u_141)) else (0 ≤ x8 ∧ x8 < 32 ∧ (∀ u_162, u_162 = uI u_141 88 x8 (mI u_141 88 (w32 (x8 - 1))) → P (.inl (w32 (x8 + (-1)), u_162))))))))
theorem U_X12_sort_110  {x2 : Int} {x4 : Int} {x5 : Int} {x6 : Int} {x7 : Int} {x8 : Int} {u : Mu} {P : (Int × Mu) ⊕ ((Int × Mu)) → Prop} {h : Hp} {g : Nat → Nat} {post : Option Sv ⊕ String → Hp → Prop} (r_x2 : R32 x2) (r_x4 : R32 x4) (r_x5 : R32 x5) (r_x6 : R32 x6) (r_x7 : R32 x7) (r_x8 : R32 x8) (m : Ms h g u)  (hl : ∀ (x8 : Int) (u : Mu) (h : Hp), P (.inl (x8, u)) → Ms h g u → R32 x8 → J mX12_sort 415 0 0 post 110 [some (vr (some (g 0))), none, some (ii (x2)), none, some (ii (x4)), some (ii (x5)), some (ii (x6)), some (ii (x7)), some (ii (x8)), none] [] h) (he0 : ∀ (x8 : Int) (u : Mu) (h : Hp), P (.inr (x8, u)) → Ms h g u → R32 x8 → J mX12_sort 415 0 0 post 169 [some (vr (some (g 0))), none, some (ii (x2)), none, some (ii (x4)), some (ii (x5)), some (ii (x6)), some (ii (x7)), some (ii (x8)), none] [] h) (H : L_X12_sort_110 x2 x4 x5 x6 x7 x8 u P) : J mX12_sort 415 0 0 post 110 [some (vr (some (g 0))), none, some (ii (x2)), none, some (ii (x4)), some (ii (x5)), some (ii (x6)), some (ii (x7)), some (ii (x8)), none] [] h := by
  unfold L_X12_sort_110 at H
  refine j_iload (dk dt_X12_sort 66 rfl) rfl ?_
  refine jz_if_le 169 (dk dt_X12_sort 67 rfl) (by decide) r_x8 H (fun H => ?_) (fun H => ?_)
  · exact j_el (he0 _ _ _ H m r_x8) (And.intro rfl (And.intro rfl (And.intro rfl (And.intro rfl (And.intro rfl (And.intro rfl (And.intro rfl trivial)))))))
  · refine j_aload_n (dk dt_X12_sort 68 rfl) rfl ?_
    refine j_iload (dk dt_X12_sort 69 rfl) rfl ?_
    refine j_bipush (v := Int32.ofInt 10) (dk dt_X12_sort 70 rfl) (by decide) ?_
    refine j_iload (dk dt_X12_sort 71 rfl) rfl ?_
    refine jz_imul (dk dt_X12_sort 72 rfl) ?_
    refine jz_iadd (dk dt_X12_sort 73 rfl) ?_
    refine j_iload (dk dt_X12_sort 74 rfl) rfl ?_
    refine j_bipush (v := Int32.ofInt 10) (dk dt_X12_sort 75 rfl) (by decide) ?_
    refine j_aload_n (dk dt_X12_sort 76 rfl) rfl ?_
    refine jm_getA (dk dt_X12_sort 77 rfl) fl_X12_156 rfl (c := 14) rfl m ?_
    refine j_iload (dk dt_X12_sort 78 rfl) rfl ?_
    refine j_iconst (v := Int32.ofInt 1) (dk dt_X12_sort 79 rfl) (by decide) ?_
    refine jz_isub (dk dt_X12_sort 80 rfl) ?_
    obtain ⟨p_136, q_136, H⟩ := H
    refine jm_iald (dk dt_X12_sort 81 rfl) rfl rfl m p_136 q_136 ?_
    refine jz_imul (dk dt_X12_sort 82 rfl) ?_
    refine jz_iadd (dk dt_X12_sort 83 rfl) ?_
    refine j_iload (dk dt_X12_sort 84 rfl) rfl ?_
    refine jz_callV3 (dk dt_X12_sort 85 rfl) vl_X12_853 rfl (T_X12_isAhead (r32_w _) (r32_w _) r_x4 m H) m.1.1 rfl (by decide) (Nat.zero_le _) (Nat.zero_le _) (Nat.le_of_ble_eq_true rfl) (fun v_141 h_141 P_141 => ?_)
    obtain ⟨x_141, u_141, rfl, r_141, m_141, H⟩ := P_141
    dsimp only [rs]
    refine jz_if_eq 169 (dk dt_X12_sort 86 rfl) (by decide) r_141 H (fun H => ?_) (fun H => ?_)
    · exact j_el (he0 _ _ _ H m_141 r_x8) (And.intro rfl (And.intro rfl (And.intro rfl (And.intro rfl (And.intro rfl (And.intro rfl (And.intro rfl trivial)))))))
    · refine j_aload_n (dk dt_X12_sort 87 rfl) rfl ?_
      refine jm_getA (dk dt_X12_sort 88 rfl) fl_X12_156 rfl (c := 14) rfl m_141 ?_
      refine j_iload (dk dt_X12_sort 89 rfl) rfl ?_
      refine j_aload_n (dk dt_X12_sort 90 rfl) rfl ?_
      refine jm_getA (dk dt_X12_sort 91 rfl) fl_X12_156 rfl (c := 14) rfl m_141 ?_
      refine j_iload (dk dt_X12_sort 92 rfl) rfl ?_
      refine j_iconst (v := Int32.ofInt 1) (dk dt_X12_sort 93 rfl) (by decide) ?_
      refine jz_isub (dk dt_X12_sort 94 rfl) ?_
      refine jm_iald (dk dt_X12_sort 95 rfl) rfl rfl m_141 p_136 q_136 ?_
      obtain ⟨p_162, q_162, H⟩ := H
      refine jm_iast (dk dt_X12_sort 96 rfl) rfl rfl m_141 p_162 q_162 (m_141.2.1.1 _ _) (fun h_162 m_162 => ?_)
      replace H := H _ rfl
      refine jz_iinc (dk dt_X12_sort 97 rfl) rfl ?_
      refine j_goto 110 (dk dt_X12_sort 98 rfl) (by decide) ?_
      exact j_el (hl _ _ _ H m_162 (r32_w _)) (And.intro rfl (And.intro rfl (And.intro rfl (And.intro rfl (And.intro rfl (And.intro rfl (And.intro rfl trivial)))))))
def F_X12_sort_169  (x2 : Int) (x4 : Int) (x5 : Int) (x6 : Int) (x7 : Int) (x8 : Int) (u : Mu) (P : (Int × Mu) ⊕ ((Mu)) → Prop) : Prop :=
  (0 ≤ x8 ∧ x8 < 32 ∧ (∀ u_177, u_177 = uI u 88 x8 x7 → P (.inl (w32 (x7 + 1), u_177))))
theorem T_X12_sort_169  {x2 : Int} {x4 : Int} {x5 : Int} {x6 : Int} {x7 : Int} {x8 : Int} {u : Mu} {P : (Int × Mu) ⊕ ((Mu)) → Prop} {h : Hp} {g : Nat → Nat} {post : Option Sv ⊕ String → Hp → Prop} (r_x2 : R32 x2) (r_x4 : R32 x4) (r_x5 : R32 x5) (r_x6 : R32 x6) (r_x7 : R32 x7) (r_x8 : R32 x8) (m : Ms h g u)  (hl : ∀ (x7 : Int) (u : Mu) (h : Hp), P (.inl (x7, u)) → Ms h g u → R32 x7 → J mX12_sort 415 0 0 post 99 [some (vr (some (g 0))), none, some (ii (x2)), none, some (ii (x4)), some (ii (x5)), some (ii (x6)), some (ii (x7)), none, none] [] h) (he0 : ∀ (u : Mu) (h : Hp), P (.inr u) → Ms h g u → J mX12_sort 415 0 0 post 184 [some (vr (some (g 0))), none, some (ii (x2)), none, none, some (ii (x5)), none, none, none, none] [] h) (H : F_X12_sort_169 x2 x4 x5 x6 x7 x8 u P) : J mX12_sort 415 0 0 (post) 169 [some (vr (some (g 0))), none, some (ii (x2)), none, some (ii (x4)), some (ii (x5)), some (ii (x6)), some (ii (x7)), some (ii (x8)), none] [] h := by
  unfold F_X12_sort_169 at H
  refine j_aload_n (dk dt_X12_sort 99 rfl) rfl ?_
  refine jm_getA (dk dt_X12_sort 100 rfl) fl_X12_156 rfl (c := 14) rfl m ?_
  refine j_iload (dk dt_X12_sort 101 rfl) rfl ?_
  refine j_iload (dk dt_X12_sort 102 rfl) rfl ?_
  obtain ⟨p_177, q_177, H⟩ := H
  refine jm_iast (dk dt_X12_sort 103 rfl) rfl rfl m p_177 q_177 r_x7 (fun h_177 m_177 => ?_)
  replace H := H _ rfl
  refine jz_iinc (dk dt_X12_sort 104 rfl) rfl ?_
  refine j_goto 99 (dk dt_X12_sort 105 rfl) (by decide) ?_
  exact j_el (hl _ _ _ H m_177 (r32_w _)) (And.intro rfl (And.intro rfl (And.intro rfl (And.intro rfl (And.intro rfl (And.intro rfl trivial))))))
def F_X12_sort_110  (x2 : Int) (x4 : Int) (x5 : Int) (x6 : Int) (x7 : Int) (x8 : Int) (u : Mu) (P : (Int × Mu) ⊕ ((Mu)) → Prop) : Prop :=
  lp (S := Int × Mu) (E := (Int × Mu)) (fun q P_ => L_X12_sort_110 x2 x4 x5 x6 x7 q.1 q.2 P_) (x8, u) (fun e => match e with | (x8, u) => F_X12_sort_169 x2 x4 x5 x6 x7 x8 u P)
theorem T_X12_sort_110  {x2 : Int} {x4 : Int} {x5 : Int} {x6 : Int} {x7 : Int} {x8 : Int} {u : Mu} {P : (Int × Mu) ⊕ ((Mu)) → Prop} {h : Hp} {g : Nat → Nat} {post : Option Sv ⊕ String → Hp → Prop} (r_x2 : R32 x2) (r_x4 : R32 x4) (r_x5 : R32 x5) (r_x6 : R32 x6) (r_x7 : R32 x7) (r_x8 : R32 x8) (m : Ms h g u)  (hl : ∀ (x7 : Int) (u : Mu) (h : Hp), P (.inl (x7, u)) → Ms h g u → R32 x7 → J mX12_sort 415 0 0 post 99 [some (vr (some (g 0))), none, some (ii (x2)), none, some (ii (x4)), some (ii (x5)), some (ii (x6)), some (ii (x7)), none, none] [] h) (he0 : ∀ (u : Mu) (h : Hp), P (.inr u) → Ms h g u → J mX12_sort 415 0 0 post 184 [some (vr (some (g 0))), none, some (ii (x2)), none, none, some (ii (x5)), none, none, none, none] [] h) (H : F_X12_sort_110 x2 x4 x5 x6 x7 x8 u P) : J mX12_sort 415 0 0 (post) 110 [some (vr (some (g 0))), none, some (ii (x2)), none, some (ii (x4)), some (ii (x5)), some (ii (x6)), some (ii (x7)), some (ii (x8)), none] [] h := by
  unfold F_X12_sort_110 at H
  refine lp_J (G := fun q => ∀ h : Hp, Ms h g (q.2) → R32 (q.1) → J mX12_sort 415 0 0 (post) 110 [some (vr (some (g 0))), none, some (ii (x2)), none, some (ii (x4)), some (ii (x5)), some (ii (x6)), some (ii (x7)), some (ii ((q.1))), none] [] h) (fun q P_ hl_ he_ Hb => ?_) (x8, u) H _ m r_x8
  obtain ⟨x8, u⟩ := q
  intro h m r_x8
  refine U_X12_sort_110 (P := P_) r_x2 r_x4 r_x5 r_x6 r_x7 r_x8 m  (fun x8 u h Hp m r_x8 => hl_ (x8, u) Hp h m r_x8) ?_ Hb
  · intro x8 u h Hp m r_x8
    have H := he_ _ Hp
    exact j_el (T_X12_sort_169 r_x2 r_x4 r_x5 r_x6 r_x7 r_x8 m  hl he0 H) (And.intro rfl (And.intro rfl (And.intro rfl (And.intro rfl (And.intro rfl (And.intro rfl (And.intro rfl trivial)))))))
def L_X12_sort_99  (x2 : Int) (x4 : Int) (x5 : Int) (x6 : Int) (x7 : Int) (u : Mu) (P : (Int × Mu) ⊕ ((Mu)) → Prop) : Prop :=
  (if x5 ≤ x7 then P (.inr u) else F_X12_sort_110 x2 x4 x5 x6 x7 x7 u P)
theorem U_X12_sort_99  {x2 : Int} {x4 : Int} {x5 : Int} {x6 : Int} {x7 : Int} {u : Mu} {P : (Int × Mu) ⊕ ((Mu)) → Prop} {h : Hp} {g : Nat → Nat} {post : Option Sv ⊕ String → Hp → Prop} (r_x2 : R32 x2) (r_x4 : R32 x4) (r_x5 : R32 x5) (r_x6 : R32 x6) (r_x7 : R32 x7) (m : Ms h g u)  (hl : ∀ (x7 : Int) (u : Mu) (h : Hp), P (.inl (x7, u)) → Ms h g u → R32 x7 → J mX12_sort 415 0 0 post 99 [some (vr (some (g 0))), none, some (ii (x2)), none, some (ii (x4)), some (ii (x5)), some (ii (x6)), some (ii (x7)), none, none] [] h) (he0 : ∀ (u : Mu) (h : Hp), P (.inr u) → Ms h g u → J mX12_sort 415 0 0 post 184 [some (vr (some (g 0))), none, some (ii (x2)), none, none, some (ii (x5)), none, none, none, none] [] h) (H : L_X12_sort_99 x2 x4 x5 x6 x7 u P) : J mX12_sort 415 0 0 post 99 [some (vr (some (g 0))), none, some (ii (x2)), none, some (ii (x4)), some (ii (x5)), some (ii (x6)), some (ii (x7)), none, none] [] h := by
  unfold L_X12_sort_99 at H
  refine j_iload (dk dt_X12_sort 61 rfl) rfl ?_
  refine j_iload (dk dt_X12_sort 62 rfl) rfl ?_
  refine jz_icmp_ge 184 (dk dt_X12_sort 63 rfl) (by decide) r_x7 r_x5 H (fun H => ?_) (fun H => ?_)
  · exact j_el (he0 _ _ H m) (And.intro rfl (And.intro rfl (And.intro rfl trivial)))
  · refine j_iload (dk dt_X12_sort 64 rfl) rfl ?_
    refine j_istore (dk dt_X12_sort 65 rfl) (by decide) ?_
    exact j_el (T_X12_sort_110 r_x2 r_x4 r_x5 r_x6 r_x7 r_x7 m  hl he0 H) (And.intro rfl (And.intro rfl (And.intro rfl (And.intro rfl (And.intro rfl (And.intro rfl (And.intro rfl trivial)))))))
def F_X12_sort_222  (x2 : Int) (x5 : Int) (x7 : Int) (x9 : Int) (s0 : Int) (s1 : Int) (u : Mu) (P : (Int × Int × Mu) ⊕ ((Int × Mu)) → Prop) : Prop :=
  (0 ≤ x9 ∧ x9 < 32 ∧ F_X12_comeLine 0 (w32 (w32 (x2 - 1) + (mI u 88 x9))) x7 (w32 (w32 (x2 - 1) + x9)) u (fun u_246 => P (.inl (w32 (s0 + s1), w32 (x9 + 1), u_246))))
theorem T_X12_sort_222  {x2 : Int} {x5 : Int} {x7 : Int} {x9 : Int} {s0 : Int} {s1 : Int} {u : Mu} {P : (Int × Int × Mu) ⊕ ((Int × Mu)) → Prop} {h : Hp} {g : Nat → Nat} {post : Option Sv ⊕ String → Hp → Prop} (r_x2 : R32 x2) (r_x5 : R32 x5) (r_x7 : R32 x7) (r_x9 : R32 x9) (r_s0 : R32 s0) (r_s1 : R32 s1) (m : Ms h g u)  (hl : ∀ (x8 : Int) (x9 : Int) (u : Mu) (h : Hp), P (.inl (x8, x9, u)) → Ms h g u → R32 x8 → R32 x9 → J mX12_sort 415 0 0 post 196 [some (vr (some (g 0))), none, some (ii (x2)), none, none, some (ii (x5)), none, some (ii (x7)), some (ii (x8)), some (ii (x9))] [] h) (he0 : ∀ (x8 : Int) (u : Mu) (h : Hp), P (.inr (x8, u)) → Ms h g u → R32 x8 → J mX12_sort 415 0 0 post 255 [none, none, none, none, none, none, none, none, some (ii (x8)), none] [] h) (H : F_X12_sort_222 x2 x5 x7 x9 s0 s1 u P) : J mX12_sort 415 0 0 (post) 222 [some (vr (some (g 0))), none, some (ii (x2)), none, none, some (ii (x5)), none, some (ii (x7)), none, some (ii (x9))] [ii (s1), ii (s0)] h := by
  unfold F_X12_sort_222 at H
  refine jz_iadd (dk dt_X12_sort 126 rfl) ?_
  refine j_istore (dk dt_X12_sort 127 rfl) (by decide) ?_
  refine j_aload_n (dk dt_X12_sort 128 rfl) rfl ?_
  refine j_iconst (v := Int32.ofInt 0) (dk dt_X12_sort 129 rfl) (by decide) ?_
  refine j_iload_n (dk dt_X12_sort 130 rfl) rfl ?_
  refine j_iconst (v := Int32.ofInt 1) (dk dt_X12_sort 131 rfl) (by decide) ?_
  refine jz_isub (dk dt_X12_sort 132 rfl) ?_
  refine j_aload_n (dk dt_X12_sort 133 rfl) rfl ?_
  refine jm_getA (dk dt_X12_sort 134 rfl) fl_X12_156 rfl (c := 14) rfl m ?_
  refine j_iload (dk dt_X12_sort 135 rfl) rfl ?_
  obtain ⟨p_236, q_236, H⟩ := H
  refine jm_iald (dk dt_X12_sort 136 rfl) rfl rfl m p_236 q_236 ?_
  refine jz_iadd (dk dt_X12_sort 137 rfl) ?_
  refine j_iload (dk dt_X12_sort 138 rfl) rfl ?_
  refine j_iload_n (dk dt_X12_sort 139 rfl) rfl ?_
  refine j_iconst (v := Int32.ofInt 1) (dk dt_X12_sort 140 rfl) (by decide) ?_
  refine jz_isub (dk dt_X12_sort 141 rfl) ?_
  refine j_iload (dk dt_X12_sort 142 rfl) rfl ?_
  refine jz_iadd (dk dt_X12_sort 143 rfl) ?_
  refine jz_callV4 (dk dt_X12_sort 144 rfl) vl_X12_831 rfl (T_X12_comeLine (by decide) (r32_w _) r_x7 (r32_w _) m H) m.1.1 rfl (by decide) (Nat.zero_le _) (Nat.zero_le _) (Nat.le_of_ble_eq_true rfl) (fun v_246 h_246 P_246 => ?_)
  obtain ⟨u_246, rfl, m_246, H⟩ := P_246
  dsimp only [rs]
  refine jz_iinc (dk dt_X12_sort 145 rfl) rfl ?_
  refine j_goto 196 (dk dt_X12_sort 146 rfl) (by decide) ?_
  exact j_el (hl _ _ _ _ H m_246 (r32_w _) (r32_w _)) (And.intro rfl (And.intro rfl (And.intro rfl (And.intro rfl (And.intro rfl (And.intro rfl trivial))))))
def L_X12_sort_196  (x2 : Int) (x5 : Int) (x7 : Int) (x8 : Int) (x9 : Int) (u : Mu) (P : (Int × Int × Mu) ⊕ ((Int × Mu)) → Prop) : Prop :=
  (if x5 ≤ x9 then P (.inr (x8, u)) else (0 ≤ x9 ∧ x9 < 32 ∧ (if mI u 88 x9 = x9 then F_X12_sort_222 x2 x5 x7 x9 x8 0 u P else F_X12_sort_222 x2 x5 x7 x9 x8 1 u P)))
theorem U_X12_sort_196  {x2 : Int} {x5 : Int} {x7 : Int} {x8 : Int} {x9 : Int} {u : Mu} {P : (Int × Int × Mu) ⊕ ((Int × Mu)) → Prop} {h : Hp} {g : Nat → Nat} {post : Option Sv ⊕ String → Hp → Prop} (r_x2 : R32 x2) (r_x5 : R32 x5) (r_x7 : R32 x7) (r_x8 : R32 x8) (r_x9 : R32 x9) (m : Ms h g u)  (hl : ∀ (x8 : Int) (x9 : Int) (u : Mu) (h : Hp), P (.inl (x8, x9, u)) → Ms h g u → R32 x8 → R32 x9 → J mX12_sort 415 0 0 post 196 [some (vr (some (g 0))), none, some (ii (x2)), none, none, some (ii (x5)), none, some (ii (x7)), some (ii (x8)), some (ii (x9))] [] h) (he0 : ∀ (x8 : Int) (u : Mu) (h : Hp), P (.inr (x8, u)) → Ms h g u → R32 x8 → J mX12_sort 415 0 0 post 255 [none, none, none, none, none, none, none, none, some (ii (x8)), none] [] h) (H : L_X12_sort_196 x2 x5 x7 x8 x9 u P) : J mX12_sort 415 0 0 post 196 [some (vr (some (g 0))), none, some (ii (x2)), none, none, some (ii (x5)), none, some (ii (x7)), some (ii (x8)), some (ii (x9))] [] h := by
  unfold L_X12_sort_196 at H
  refine j_iload (dk dt_X12_sort 113 rfl) rfl ?_
  refine j_iload (dk dt_X12_sort 114 rfl) rfl ?_
  refine jz_icmp_ge 255 (dk dt_X12_sort 115 rfl) (by decide) r_x9 r_x5 H (fun H => ?_) (fun H => ?_)
  · exact j_el (he0 _ _ _ H m r_x8) (And.intro rfl trivial)
  · refine j_iload (dk dt_X12_sort 116 rfl) rfl ?_
    refine j_aload_n (dk dt_X12_sort 117 rfl) rfl ?_
    refine jm_getA (dk dt_X12_sort 118 rfl) fl_X12_156 rfl (c := 14) rfl m ?_
    refine j_iload (dk dt_X12_sort 119 rfl) rfl ?_
    obtain ⟨p_211, q_211, H⟩ := H
    refine jm_iald (dk dt_X12_sort 120 rfl) rfl rfl m p_211 q_211 ?_
    refine j_iload (dk dt_X12_sort 121 rfl) rfl ?_
    refine jz_icmp_eq 221 (dk dt_X12_sort 122 rfl) (by decide) (m.2.1.1 _ _) r_x9 H (fun H => ?_) (fun H => ?_)
    · refine j_iconst (v := Int32.ofInt 0) (dk dt_X12_sort 125 rfl) (by decide) ?_
      exact j_el (T_X12_sort_222 r_x2 r_x5 r_x7 r_x9 r_x8 (by decide) m  hl he0 H) (And.intro rfl (And.intro rfl (And.intro rfl (And.intro rfl (And.intro rfl trivial)))))
    · refine j_iconst (v := Int32.ofInt 1) (dk dt_X12_sort 123 rfl) (by decide) ?_
      refine j_goto 222 (dk dt_X12_sort 124 rfl) (by decide) ?_
      exact j_el (T_X12_sort_222 r_x2 r_x5 r_x7 r_x9 r_x8 (by decide) m  hl he0 H) (And.intro rfl (And.intro rfl (And.intro rfl (And.intro rfl (And.intro rfl trivial)))))
def F_X12_sort_196  (x2 : Int) (x5 : Int) (x7 : Int) (x8 : Int) (x9 : Int) (u : Mu) (P : Int → Mu → Prop) : Prop :=
  lp (S := Int × Int × Mu) (E := (Int × Mu)) (fun q P_ => L_X12_sort_196 x2 x5 x7 q.1 q.2.1 q.2.2 P_) (x8, x9, u) (fun e => match e with | (x8, u) => P x8 u)
theorem T_X12_sort_196  {x2 : Int} {x5 : Int} {x7 : Int} {x8 : Int} {x9 : Int} {u : Mu} {P : Int → Mu → Prop} {h : Hp} {g : Nat → Nat} (r_x2 : R32 x2) (r_x5 : R32 x5) (r_x7 : R32 x7) (r_x8 : R32 x8) (r_x9 : R32 x9) (m : Ms h g u)   (H : F_X12_sort_196 x2 x5 x7 x8 x9 u P) : J mX12_sort 415 0 0 (nx (QMI g P)) 196 [some (vr (some (g 0))), none, some (ii (x2)), none, none, some (ii (x5)), none, some (ii (x7)), some (ii (x8)), some (ii (x9))] [] h := by
  unfold F_X12_sort_196 at H
  refine lp_J (G := fun q => ∀ h : Hp, Ms h g (q.2.2) → R32 (q.1) → R32 (q.2.1) → J mX12_sort 415 0 0 (nx (QMI g P)) 196 [some (vr (some (g 0))), none, some (ii (x2)), none, none, some (ii (x5)), none, some (ii (x7)), some (ii ((q.1))), some (ii ((q.2.1)))] [] h) (fun q P_ hl_ he_ Hb => ?_) (x8, x9, u) H _ m r_x8 r_x9
  obtain ⟨x8, x9, u⟩ := q
  intro h m r_x8 r_x9
  refine U_X12_sort_196 (P := P_) r_x2 r_x5 r_x7 r_x8 r_x9 m  (fun x8 x9 u h Hp m r_x8 r_x9 => hl_ (x8, x9, u) Hp h m r_x8 r_x9) ?_ Hb
  · intro x8 u h Hp m r_x8
    have H := he_ _ Hp
    refine j_iload (dk dt_X12_sort 147 rfl) rfl ?_
    exact j_ireturn (dk dt_X12_sort 148 rfl) rfl rfl ⟨_, _, rfl, r_x8, m, H⟩
def F_X12_sort_99  (x2 : Int) (x4 : Int) (x5 : Int) (x6 : Int) (x7 : Int) (u : Mu) (P : Int → Mu → Prop) : Prop :=
  lp (S := Int × Mu) (E := (Mu)) (fun q P_ => L_X12_sort_99 x2 x4 x5 x6 q.1 q.2 P_) (x7, u) (fun (u : Mu) => F_X12_step u (fun x_185 u_185 => F_X12_sort_196 x2 x5 x_185 0 0 u_185 P))
theorem T_X12_sort_99  {x2 : Int} {x4 : Int} {x5 : Int} {x6 : Int} {x7 : Int} {u : Mu} {P : Int → Mu → Prop} {h : Hp} {g : Nat → Nat} (r_x2 : R32 x2) (r_x4 : R32 x4) (r_x5 : R32 x5) (r_x6 : R32 x6) (r_x7 : R32 x7) (m : Ms h g u)   (H : F_X12_sort_99 x2 x4 x5 x6 x7 u P) : J mX12_sort 415 0 0 (nx (QMI g P)) 99 [some (vr (some (g 0))), none, some (ii (x2)), none, some (ii (x4)), some (ii (x5)), some (ii (x6)), some (ii (x7)), none, none] [] h := by
  unfold F_X12_sort_99 at H
  refine lp_J (G := fun q => ∀ h : Hp, Ms h g (q.2) → R32 (q.1) → J mX12_sort 415 0 0 (nx (QMI g P)) 99 [some (vr (some (g 0))), none, some (ii (x2)), none, some (ii (x4)), some (ii (x5)), some (ii (x6)), some (ii ((q.1))), none, none] [] h) (fun q P_ hl_ he_ Hb => ?_) (x7, u) H _ m r_x7
  obtain ⟨x7, u⟩ := q
  intro h m r_x7
  refine U_X12_sort_99 (P := P_) r_x2 r_x4 r_x5 r_x6 r_x7 m  (fun x7 u h Hp m r_x7 => hl_ (x7, u) Hp h m r_x7) ?_ Hb
  · intro u h Hp m
    have H := he_ _ Hp
    refine j_aload_n (dk dt_X12_sort 106 rfl) rfl ?_
    refine jz_callV0 (dk dt_X12_sort 107 rfl) vl_X12_340 rfl (T_X12_step m H) m.1.1 rfl (by decide) (Nat.zero_le _) (Nat.zero_le _) (Nat.le_of_ble_eq_true rfl) (fun v_185 h_185 P_185 => ?_)
    obtain ⟨x_185, u_185, rfl, r_185, m_185, H⟩ := P_185
    dsimp only [rs]
    refine j_istore (dk dt_X12_sort 108 rfl) (by decide) ?_
    refine j_iconst (v := Int32.ofInt 0) (dk dt_X12_sort 109 rfl) (by decide) ?_
    refine j_istore (dk dt_X12_sort 110 rfl) (by decide) ?_
    refine j_iconst (v := Int32.ofInt 0) (dk dt_X12_sort 111 rfl) (by decide) ?_
    refine j_istore (dk dt_X12_sort 112 rfl) (by decide) ?_
    exact j_el (T_X12_sort_196 r_x2 r_x5 r_185 (by decide) (by decide) m_185   H) (And.intro rfl (And.intro rfl (And.intro rfl (And.intro rfl (And.intro rfl (And.intro rfl trivial))))))
def F_X12_sort  (x1 : Int) (x2 : Int) (x3 : Int) (x4 : Int) (u : Mu) (P : Int → Mu → Prop) : Prop :=
  (∀ u_2, u_2 = uI u 0 0 0 → F_X12_in x1 1 (mI u_2 2 40) (fun x_14 => (if x_14 = 0 then F_X12_sort_50 u_2 P else F_X12_in x2 1 (mI u_2 1 40) (fun x_29 => (if x_29 = 0 then F_X12_sort_50 u_2 P else F_X12_in x3 1 (mI u_2 1 40) (fun x_44 => (if x_44 = 0 then F_X12_sort_50 u_2 P else (if x2 ≤ x3 then F_X12_needValues 40 u_2 (fun u_70 => F_X12_sort_99 x2 x4 (w32 (w32 (x3 - x2) + 1)) (w32 ((w32 (w32 (12800 + (w32 (10 * (w32 (x2 - 1))))) + x1)) - 1)) 0 u_70 P) else F_X12_throwing 2 u_2 (fun x_63 u_63 => P x_63 u_63)))))))))
theorem T_X12_sort  {x1 : Int} {x2 : Int} {x3 : Int} {x4 : Int} {u : Mu} {P : Int → Mu → Prop} {h : Hp} {g : Nat → Nat} (r_x1 : R32 x1) (r_x2 : R32 x2) (r_x3 : R32 x3) (r_x4 : R32 x4) (m : Ms h g u)  (H : F_X12_sort x1 x2 x3 x4 u P) : Con mX12_sort 415 0 0 [vr (some (g 0)), ii (x1), ii (x2), ii (x3), ii (x4)] h (QMI g P) := by
  refine con_of rfl (Nat.le_of_ble_eq_true rfl) (by decide) ?_
  show J mX12_sort 415 0 0 _ 0 [some (vr (some (g 0))), some (ii (x1)), some (ii (x2)), some (ii (x3)), some (ii (x4)), none, none, none, none, none] [] h
  unfold F_X12_sort at H
  refine j_aload_n (dk dt_X12_sort 0 rfl) rfl ?_
  refine j_iconst (v := Int32.ofInt 0) (dk dt_X12_sort 1 rfl) (by decide) ?_
  refine jm_putI (kz := 0) (dk dt_X12_sort 2 rfl) fl_X12_202 rfl rfl rfl rfl m (by decide) (fun h_2 m_2 => ?_)
  replace H := H _ rfl
  refine j_iload_n (dk dt_X12_sort 3 rfl) rfl ?_
  refine j_iconst (v := Int32.ofInt 1) (dk dt_X12_sort 4 rfl) (by decide) ?_
  refine j_aload_n (dk dt_X12_sort 5 rfl) rfl ?_
  refine jm_getA (dk dt_X12_sort 6 rfl) fl_X12_13 rfl (c := 14) rfl m_2 ?_
  refine j_bipush (v := Int32.ofInt 40) (dk dt_X12_sort 7 rfl) (by decide) ?_
  refine jm_iald (dk dt_X12_sort 8 rfl) rfl rfl m_2 (by decide) (by decide) ?_
  refine j_callS3 (dk dt_X12_sort 9 rfl) sl_X12_220 (T_X12_in r_x1 (by decide) (m_2.2.1.1 _ _) H) rfl (by decide) (Nat.zero_le _) (Nat.zero_le _) (Nat.le_of_ble_eq_true rfl) (fun v_14 h_14 P_14 => ?_)
  obtain ⟨x_14, rfl, r_14, rfl, H⟩ := P_14
  dsimp only [rs]
  refine jz_if_eq 50 (dk dt_X12_sort 10 rfl) (by decide) r_14 H (fun H => ?_) (fun H => ?_)
  · exact j_el (T_X12_sort_50  m_2   H) (And.intro rfl trivial)
  · refine j_iload_n (dk dt_X12_sort 11 rfl) rfl ?_
    refine j_iconst (v := Int32.ofInt 1) (dk dt_X12_sort 12 rfl) (by decide) ?_
    refine j_aload_n (dk dt_X12_sort 13 rfl) rfl ?_
    refine jm_getA (dk dt_X12_sort 14 rfl) fl_X12_7 rfl (c := 14) rfl m_2 ?_
    refine j_bipush (v := Int32.ofInt 40) (dk dt_X12_sort 15 rfl) (by decide) ?_
    refine jm_iald (dk dt_X12_sort 16 rfl) rfl rfl m_2 (by decide) (by decide) ?_
    refine j_callS3 (dk dt_X12_sort 17 rfl) sl_X12_220 (T_X12_in r_x2 (by decide) (m_2.2.1.1 _ _) H) rfl (by decide) (Nat.zero_le _) (Nat.zero_le _) (Nat.le_of_ble_eq_true rfl) (fun v_29 h_29 P_29 => ?_)
    obtain ⟨x_29, rfl, r_29, rfl, H⟩ := P_29
    dsimp only [rs]
    refine jz_if_eq 50 (dk dt_X12_sort 18 rfl) (by decide) r_29 H (fun H => ?_) (fun H => ?_)
    · exact j_el (T_X12_sort_50  m_2   H) (And.intro rfl trivial)
    · refine j_iload_n (dk dt_X12_sort 19 rfl) rfl ?_
      refine j_iconst (v := Int32.ofInt 1) (dk dt_X12_sort 20 rfl) (by decide) ?_
      refine j_aload_n (dk dt_X12_sort 21 rfl) rfl ?_
      refine jm_getA (dk dt_X12_sort 22 rfl) fl_X12_7 rfl (c := 14) rfl m_2 ?_
      refine j_bipush (v := Int32.ofInt 40) (dk dt_X12_sort 23 rfl) (by decide) ?_
      refine jm_iald (dk dt_X12_sort 24 rfl) rfl rfl m_2 (by decide) (by decide) ?_
      refine j_callS3 (dk dt_X12_sort 25 rfl) sl_X12_220 (T_X12_in r_x3 (by decide) (m_2.2.1.1 _ _) H) rfl (by decide) (Nat.zero_le _) (Nat.zero_le _) (Nat.le_of_ble_eq_true rfl) (fun v_44 h_44 P_44 => ?_)
      obtain ⟨x_44, rfl, r_44, rfl, H⟩ := P_44
      dsimp only [rs]
      refine jz_if_ne 56 (dk dt_X12_sort 26 rfl) (by decide) r_44 H (fun H => ?_) (fun H => ?_)
      · exact j_el (T_X12_sort_50  m_2   H) (And.intro rfl trivial)
      · refine j_iload_n (dk dt_X12_sort 31 rfl) rfl ?_
        refine j_iload_n (dk dt_X12_sort 32 rfl) rfl ?_
        refine jz_icmp_ge 67 (dk dt_X12_sort 33 rfl) (by decide) r_x3 r_x2 H (fun H => ?_) (fun H => ?_)
        · refine j_aload_n (dk dt_X12_sort 38 rfl) rfl ?_
          refine j_bipush (v := Int32.ofInt 40) (dk dt_X12_sort 39 rfl) (by decide) ?_
          refine jz_callV1 (dk dt_X12_sort 40 rfl) vl_X12_743 rfl (T_X12_needValues (by decide) m_2 H) m_2.1.1 rfl (by decide) (Nat.zero_le _) (Nat.zero_le _) (Nat.le_of_ble_eq_true rfl) (fun v_70 h_70 P_70 => ?_)
          obtain ⟨u_70, rfl, m_70, H⟩ := P_70
          dsimp only [rs]
          refine j_iload_n (dk dt_X12_sort 41 rfl) rfl ?_
          refine j_iload_n (dk dt_X12_sort 42 rfl) rfl ?_
          refine jz_isub (dk dt_X12_sort 43 rfl) ?_
          refine j_iconst (v := Int32.ofInt 1) (dk dt_X12_sort 44 rfl) (by decide) ?_
          refine jz_iadd (dk dt_X12_sort 45 rfl) ?_
          refine j_istore (dk dt_X12_sort 46 rfl) (by decide) ?_
          refine j_sipush (v := Int32.ofInt 12800) (dk dt_X12_sort 47 rfl) (by decide) ?_
          refine j_bipush (v := Int32.ofInt 10) (dk dt_X12_sort 48 rfl) (by decide) ?_
          refine j_iload_n (dk dt_X12_sort 49 rfl) rfl ?_
          refine j_iconst (v := Int32.ofInt 1) (dk dt_X12_sort 50 rfl) (by decide) ?_
          refine jz_isub (dk dt_X12_sort 51 rfl) ?_
          refine jz_imul (dk dt_X12_sort 52 rfl) ?_
          refine jz_iadd (dk dt_X12_sort 53 rfl) ?_
          refine j_iload_n (dk dt_X12_sort 54 rfl) rfl ?_
          refine jz_iadd (dk dt_X12_sort 55 rfl) ?_
          refine j_iconst (v := Int32.ofInt 1) (dk dt_X12_sort 56 rfl) (by decide) ?_
          refine jz_isub (dk dt_X12_sort 57 rfl) ?_
          refine j_istore (dk dt_X12_sort 58 rfl) (by decide) ?_
          refine j_iconst (v := Int32.ofInt 0) (dk dt_X12_sort 59 rfl) (by decide) ?_
          refine j_istore (dk dt_X12_sort 60 rfl) (by decide) ?_
          exact j_el (T_X12_sort_99 r_x2 r_x4 (r32_w _) (r32_w _) (by decide) m_70   H) (And.intro rfl (And.intro rfl (And.intro rfl (And.intro rfl (And.intro rfl (And.intro rfl trivial))))))
        · refine j_aload_n (dk dt_X12_sort 34 rfl) rfl ?_
          refine j_iconst (v := Int32.ofInt 2) (dk dt_X12_sort 35 rfl) (by decide) ?_
          refine jz_callV1 (dk dt_X12_sort 36 rfl) vl_X12_237 rfl (T_X12_throwing (by decide) m_2 H) m_2.1.1 rfl (by decide) (Nat.zero_le _) (Nat.zero_le _) (Nat.le_of_ble_eq_true rfl) (fun v_63 h_63 P_63 => ?_)
          obtain ⟨x_63, u_63, rfl, r_63, m_63, H⟩ := P_63
          dsimp only [rs]
          exact j_ireturn (dk dt_X12_sort 37 rfl) rfl rfl ⟨_, _, rfl, r_63, m_63, H⟩
def F_X12_thrown  (u : Mu) (P : Int → Prop) : Prop :=
  P (mI u 0 0)
theorem T_X12_thrown  {u : Mu} {P : Int → Prop} {h : Hp} {g : Nat → Nat}  (m : Ms h g u)  (H : F_X12_thrown u P) : Con mX12_thrown 1 0 0 [vr (some (g 0))] h (QPI h P) := by
  refine con_of rfl (Nat.le_of_ble_eq_true rfl) (by decide) ?_
  show J mX12_thrown 1 0 0 _ 0 [some (vr (some (g 0)))] [] h
  unfold F_X12_thrown at H
  refine j_aload_n (dk dt_X12_thrown 0 rfl) rfl ?_
  refine jm_getI (kz := 0) (dk dt_X12_thrown 1 rfl) fl_X12_202 rfl rfl m ?_
  exact j_ireturn (dk dt_X12_thrown 2 rfl) rfl rfl ⟨_, rfl, (m.2.1.1 _ _), rfl, H⟩
def F_X12_total_117  (s0 : Int) (u : Mu) (P : Int → Mu → Prop) : Prop :=
  P s0 u
theorem T_X12_total_117  {s0 : Int} {u : Mu} {P : Int → Mu → Prop} {h : Hp} {g : Nat → Nat} (r_s0 : R32 s0) (m : Ms h g u)   (H : F_X12_total_117 s0 u P) : J mX12_total 5 0 0 (nx (QMI g P)) 117 [none, none] [ii (s0)] h := by
  unfold F_X12_total_117 at H
  exact j_ireturn (dk dt_X12_total 38 rfl) rfl rfl ⟨_, _, rfl, r_s0, m, H⟩
def F_X12_total_142  (s0 : Int) (u : Mu) (P : Int → Mu → Prop) : Prop :=
  P s0 u
theorem T_X12_total_142  {s0 : Int} {u : Mu} {P : Int → Mu → Prop} {h : Hp} {g : Nat → Nat} (r_s0 : R32 s0) (m : Ms h g u)   (H : F_X12_total_142 s0 u P) : J mX12_total 5 0 0 (nx (QMI g P)) 142 [none, none] [ii (s0)] h := by
  unfold F_X12_total_142 at H
  exact j_ireturn (dk dt_X12_total 52 rfl) rfl rfl ⟨_, _, rfl, r_s0, m, H⟩
def F_X12_total  (x1 : Int) (u : Mu) (P : Int → Mu → Prop) : Prop :=
  (∀ u_2, u_2 = uI u 0 0 0 → (if x1 = 0 then P (mI u_2 0 8) u_2 else (if x1 = 1 then P (mI u_2 0 12) u_2 else (if x1 = 2 then F_X12_head u_2 (fun x_71 => P x_71 u_2) else (if x1 = 3 then F_X12_unsettled u_2 (fun x_76 => P x_76 u_2) else (if x1 = 4 then P (mI u_2 0 16) u_2 else (if x1 = 5 then P (mI u_2 0 17) u_2 else (if x1 = 6 then P (mI u_2 0 25) u_2 else (if x1 = 7 then P (mI u_2 0 40) u_2 else (if x1 = 8 then P (mI u_2 0 14) u_2 else (if x1 = 9 then F_X12_isLikeHead u_2 (fun x_106 => (if x_106 = 0 then F_X12_total_117 0 u_2 P else F_X12_total_117 1 u_2 P)) else F_X12_in x1 10 15 (fun x_123 => (if x_123 = 0 then F_X12_total_142 (-1) u_2 P else (0 ≤ w32 (x1 - 10) ∧ w32 (x1 - 10) < 6 ∧ F_X12_total_142 (mI u_2 11 (w32 (x1 - 10))) u_2 P))))))))))))))
theorem T_X12_total  {x1 : Int} {u : Mu} {P : Int → Mu → Prop} {h : Hp} {g : Nat → Nat} (r_x1 : R32 x1) (m : Ms h g u)  (H : F_X12_total x1 u P) : Con mX12_total 5 0 0 [vr (some (g 0)), ii (x1)] h (QMI g P) := by
  refine con_of rfl (Nat.le_of_ble_eq_true rfl) (by decide) ?_
  show J mX12_total 5 0 0 _ 0 [some (vr (some (g 0))), some (ii (x1))] [] h
  unfold F_X12_total at H
  refine j_aload_n (dk dt_X12_total 0 rfl) rfl ?_
  refine j_iconst (v := Int32.ofInt 0) (dk dt_X12_total 1 rfl) (by decide) ?_
  refine jm_putI (kz := 0) (dk dt_X12_total 2 rfl) fl_X12_202 rfl rfl rfl rfl m (by decide) (fun h_2 m_2 => ?_)
  replace H := H _ rfl
  refine j_iload_n (dk dt_X12_total 3 rfl) rfl ?_
  by_cases y_6_0 : x1 = 0
  · rw [if_pos y_6_0] at H
    refine jz_tabIn 0 60 (dk dt_X12_total 4 rfl) r_x1 y_6_0 (by decide) (by decide) rfl (by decide) ?_
    refine j_aload_n (dk dt_X12_total 5 rfl) rfl ?_
    refine jm_getI (kz := 8) (dk dt_X12_total 6 rfl) fl_X12_33 rfl rfl m_2 ?_
    exact j_ireturn (dk dt_X12_total 7 rfl) rfl rfl ⟨_, _, rfl, (m_2.2.1.1 _ _), m_2, H⟩
  rw [if_neg y_6_0] at H
  by_cases y_6_1 : x1 = 1
  · rw [if_pos y_6_1] at H
    refine jz_tabIn 1 65 (dk dt_X12_total 4 rfl) r_x1 y_6_1 (by decide) (by decide) rfl (by decide) ?_
    refine j_aload_n (dk dt_X12_total 8 rfl) rfl ?_
    refine jm_getI (kz := 12) (dk dt_X12_total 9 rfl) fl_X12_857 rfl rfl m_2 ?_
    exact j_ireturn (dk dt_X12_total 10 rfl) rfl rfl ⟨_, _, rfl, (m_2.2.1.1 _ _), m_2, H⟩
  rw [if_neg y_6_1] at H
  by_cases y_6_2 : x1 = 2
  · rw [if_pos y_6_2] at H
    refine jz_tabIn 2 70 (dk dt_X12_total 4 rfl) r_x1 y_6_2 (by decide) (by decide) rfl (by decide) ?_
    refine j_aload_n (dk dt_X12_total 11 rfl) rfl ?_
    refine jz_callV0 (dk dt_X12_total 12 rfl) vl_X12_860 rfl (T_X12_head m_2 H) m_2.1.1 rfl (by decide) (Nat.zero_le _) (Nat.zero_le _) (Nat.le_of_ble_eq_true rfl) (fun v_71 h_71 P_71 => ?_)
    obtain ⟨x_71, rfl, r_71, rfl, H⟩ := P_71
    dsimp only [rs]
    exact j_ireturn (dk dt_X12_total 13 rfl) rfl rfl ⟨_, _, rfl, r_71, m_2, H⟩
  rw [if_neg y_6_2] at H
  by_cases y_6_3 : x1 = 3
  · rw [if_pos y_6_3] at H
    refine jz_tabIn 3 75 (dk dt_X12_total 4 rfl) r_x1 y_6_3 (by decide) (by decide) rfl (by decide) ?_
    refine j_aload_n (dk dt_X12_total 14 rfl) rfl ?_
    refine jz_callV0 (dk dt_X12_total 15 rfl) vl_X12_871 rfl (T_X12_unsettled m_2 H) m_2.1.1 rfl (by decide) (Nat.zero_le _) (Nat.zero_le _) (Nat.le_of_ble_eq_true rfl) (fun v_76 h_76 P_76 => ?_)
    obtain ⟨x_76, rfl, r_76, rfl, H⟩ := P_76
    dsimp only [rs]
    exact j_ireturn (dk dt_X12_total 16 rfl) rfl rfl ⟨_, _, rfl, r_76, m_2, H⟩
  rw [if_neg y_6_3] at H
  by_cases y_6_4 : x1 = 4
  · rw [if_pos y_6_4] at H
    refine jz_tabIn 4 80 (dk dt_X12_total 4 rfl) r_x1 y_6_4 (by decide) (by decide) rfl (by decide) ?_
    refine j_aload_n (dk dt_X12_total 17 rfl) rfl ?_
    refine jm_getI (kz := 16) (dk dt_X12_total 18 rfl) fl_X12_227 rfl rfl m_2 ?_
    exact j_ireturn (dk dt_X12_total 19 rfl) rfl rfl ⟨_, _, rfl, (m_2.2.1.1 _ _), m_2, H⟩
  rw [if_neg y_6_4] at H
  by_cases y_6_5 : x1 = 5
  · rw [if_pos y_6_5] at H
    refine jz_tabIn 5 85 (dk dt_X12_total 4 rfl) r_x1 y_6_5 (by decide) (by decide) rfl (by decide) ?_
    refine j_aload_n (dk dt_X12_total 20 rfl) rfl ?_
    refine jm_getI (kz := 17) (dk dt_X12_total 21 rfl) fl_X12_230 rfl rfl m_2 ?_
    exact j_ireturn (dk dt_X12_total 22 rfl) rfl rfl ⟨_, _, rfl, (m_2.2.1.1 _ _), m_2, H⟩
  rw [if_neg y_6_5] at H
  by_cases y_6_6 : x1 = 6
  · rw [if_pos y_6_6] at H
    refine jz_tabIn 6 90 (dk dt_X12_total 4 rfl) r_x1 y_6_6 (by decide) (by decide) rfl (by decide) ?_
    refine j_aload_n (dk dt_X12_total 23 rfl) rfl ?_
    refine jm_getI (kz := 25) (dk dt_X12_total 24 rfl) fl_X12_336 rfl rfl m_2 ?_
    exact j_ireturn (dk dt_X12_total 25 rfl) rfl rfl ⟨_, _, rfl, (m_2.2.1.1 _ _), m_2, H⟩
  rw [if_neg y_6_6] at H
  by_cases y_6_7 : x1 = 7
  · rw [if_pos y_6_7] at H
    refine jz_tabIn 7 95 (dk dt_X12_total 4 rfl) r_x1 y_6_7 (by decide) (by decide) rfl (by decide) ?_
    refine j_aload_n (dk dt_X12_total 26 rfl) rfl ?_
    refine jm_getI (kz := 40) (dk dt_X12_total 27 rfl) fl_X12_258 rfl rfl m_2 ?_
    exact j_ireturn (dk dt_X12_total 28 rfl) rfl rfl ⟨_, _, rfl, (m_2.2.1.1 _ _), m_2, H⟩
  rw [if_neg y_6_7] at H
  by_cases y_6_8 : x1 = 8
  · rw [if_pos y_6_8] at H
    refine jz_tabIn 8 100 (dk dt_X12_total 4 rfl) r_x1 y_6_8 (by decide) (by decide) rfl (by decide) ?_
    refine j_aload_n (dk dt_X12_total 29 rfl) rfl ?_
    refine jm_getI (kz := 14) (dk dt_X12_total 30 rfl) fl_X12_927 rfl rfl m_2 ?_
    exact j_ireturn (dk dt_X12_total 31 rfl) rfl rfl ⟨_, _, rfl, (m_2.2.1.1 _ _), m_2, H⟩
  rw [if_neg y_6_8] at H
  by_cases y_6_9 : x1 = 9
  · rw [if_pos y_6_9] at H
    refine jz_tabIn 9 105 (dk dt_X12_total 4 rfl) r_x1 y_6_9 (by decide) (by decide) rfl (by decide) ?_
    refine j_aload_n (dk dt_X12_total 32 rfl) rfl ?_
    refine jz_callV0 (dk dt_X12_total 33 rfl) vl_X12_877 rfl (T_X12_isLikeHead m_2 H) m_2.1.1 rfl (by decide) (Nat.zero_le _) (Nat.zero_le _) (Nat.le_of_ble_eq_true rfl) (fun v_106 h_106 P_106 => ?_)
    obtain ⟨x_106, rfl, r_106, rfl, H⟩ := P_106
    dsimp only [rs]
    refine jz_if_eq 116 (dk dt_X12_total 34 rfl) (by decide) r_106 H (fun H => ?_) (fun H => ?_)
    · refine j_iconst (v := Int32.ofInt 0) (dk dt_X12_total 37 rfl) (by decide) ?_
      exact j_el (T_X12_total_117 (by decide) m_2   H) trivial
    · refine j_iconst (v := Int32.ofInt 1) (dk dt_X12_total 35 rfl) (by decide) ?_
      refine j_goto 117 (dk dt_X12_total 36 rfl) (by decide) ?_
      exact j_el (T_X12_total_117 (by decide) m_2   H) trivial
  rw [if_neg y_6_9] at H
  refine jz_tabOut 118 (dk dt_X12_total 4 rfl) r_x1 (by omega) (by decide) ?_
  refine j_iload_n (dk dt_X12_total 39 rfl) rfl ?_
  refine j_bipush (v := Int32.ofInt 10) (dk dt_X12_total 40 rfl) (by decide) ?_
  refine j_bipush (v := Int32.ofInt 15) (dk dt_X12_total 41 rfl) (by decide) ?_
  refine j_callS3 (dk dt_X12_total 42 rfl) sl_X12_220 (T_X12_in r_x1 (by decide) (by decide) H) rfl (by decide) (Nat.zero_le _) (Nat.zero_le _) (Nat.le_of_ble_eq_true rfl) (fun v_123 h_123 P_123 => ?_)
  obtain ⟨x_123, rfl, r_123, rfl, H⟩ := P_123
  dsimp only [rs]
  refine jz_if_eq 141 (dk dt_X12_total 43 rfl) (by decide) r_123 H (fun H => ?_) (fun H => ?_)
  · refine j_iconst (v := Int32.ofInt (-1)) (dk dt_X12_total 51 rfl) (by decide) ?_
    exact j_el (T_X12_total_142 (by decide) m_2   H) trivial
  · refine j_aload_n (dk dt_X12_total 44 rfl) rfl ?_
    refine jm_getA (dk dt_X12_total 45 rfl) fl_X12_42 rfl (c := 14) rfl m_2 ?_
    refine j_iload_n (dk dt_X12_total 46 rfl) rfl ?_
    refine j_bipush (v := Int32.ofInt 10) (dk dt_X12_total 47 rfl) (by decide) ?_
    refine jz_isub (dk dt_X12_total 48 rfl) ?_
    obtain ⟨p_137, q_137, H⟩ := H
    refine jm_iald (dk dt_X12_total 49 rfl) rfl rfl m_2 p_137 q_137 ?_
    refine j_goto 142 (dk dt_X12_total 50 rfl) (by decide) ?_
    exact j_el (T_X12_total_142 (m_2.2.1.1 _ _) m_2   H) trivial
def F_X12_undo  (u : Mu) (P : Int → Mu → Prop) : Prop :=
  (∀ u_2, u_2 = uI u 0 0 0 → (if mI u_2 0 16 = 0 then F_X12_throwing 1 u_2 (fun x_14 u_14 => P x_14 u_14) else F_X12_copySheet 40 (w32 (81 + (mI u_2 0 17))) u_2 (fun u_28 => (∀ u_38, u_38 = uI u_28 0 17 (w32 (mI u_28 0 17 + 1)) → (∀ u_48, u_48 = uI u_38 0 16 (w32 ((mI u_38 0 16) - 1)) → F_X12_stepAt (mI u_48 0 16) u_48 (fun x_57 => F_X12_copySheet x_57 40 u_48 (fun u_62 => P (mI u_62 0 16) u_62)))))))
theorem T_X12_undo  {u : Mu} {P : Int → Mu → Prop} {h : Hp} {g : Nat → Nat}  (m : Ms h g u)  (H : F_X12_undo u P) : Con mX12_undo 2 0 0 [vr (some (g 0))] h (QMI g P) := by
  refine con_of rfl (Nat.le_of_ble_eq_true rfl) (by decide) ?_
  show J mX12_undo 2 0 0 _ 0 [some (vr (some (g 0)))] [] h
  unfold F_X12_undo at H
  refine j_aload_n (dk dt_X12_undo 0 rfl) rfl ?_
  refine j_iconst (v := Int32.ofInt 0) (dk dt_X12_undo 1 rfl) (by decide) ?_
  refine jm_putI (kz := 0) (dk dt_X12_undo 2 rfl) fl_X12_202 rfl rfl rfl rfl m (by decide) (fun h_2 m_2 => ?_)
  replace H := H _ rfl
  refine j_aload_n (dk dt_X12_undo 3 rfl) rfl ?_
  refine jm_getI (kz := 16) (dk dt_X12_undo 4 rfl) fl_X12_227 rfl rfl m_2 ?_
  refine jz_if_ne 18 (dk dt_X12_undo 5 rfl) (by decide) (m_2.2.1.1 _ _) H (fun H => ?_) (fun H => ?_)
  · refine j_aload_n (dk dt_X12_undo 6 rfl) rfl ?_
    refine j_iconst (v := Int32.ofInt 1) (dk dt_X12_undo 7 rfl) (by decide) ?_
    refine jz_callV1 (dk dt_X12_undo 8 rfl) vl_X12_237 rfl (T_X12_throwing (by decide) m_2 H) m_2.1.1 rfl (by decide) (Nat.zero_le _) (Nat.zero_le _) (Nat.le_of_ble_eq_true rfl) (fun v_14 h_14 P_14 => ?_)
    obtain ⟨x_14, u_14, rfl, r_14, m_14, H⟩ := P_14
    dsimp only [rs]
    exact j_ireturn (dk dt_X12_undo 9 rfl) rfl rfl ⟨_, _, rfl, r_14, m_14, H⟩
  · refine j_aload_n (dk dt_X12_undo 10 rfl) rfl ?_
    refine j_bipush (v := Int32.ofInt 40) (dk dt_X12_undo 11 rfl) (by decide) ?_
    refine j_bipush (v := Int32.ofInt 81) (dk dt_X12_undo 12 rfl) (by decide) ?_
    refine j_aload_n (dk dt_X12_undo 13 rfl) rfl ?_
    refine jm_getI (kz := 17) (dk dt_X12_undo 14 rfl) fl_X12_230 rfl rfl m_2 ?_
    refine jz_iadd (dk dt_X12_undo 15 rfl) ?_
    refine jz_callV2 (dk dt_X12_undo 16 rfl) vl_X12_198 rfl (T_X12_copySheet (by decide) (r32_w _) m_2 H) m_2.1.1 rfl (by decide) (Nat.zero_le _) (Nat.zero_le _) (Nat.le_of_ble_eq_true rfl) (fun v_28 h_28 P_28 => ?_)
    obtain ⟨u_28, rfl, m_28, H⟩ := P_28
    dsimp only [rs]
    refine j_aload_n (dk dt_X12_undo 17 rfl) rfl ?_
    refine j_dup (dk dt_X12_undo 18 rfl) rfl ?_
    refine jm_getI (kz := 17) (dk dt_X12_undo 19 rfl) fl_X12_230 rfl rfl m_28 ?_
    refine j_iconst (v := Int32.ofInt 1) (dk dt_X12_undo 20 rfl) (by decide) ?_
    refine jz_iadd (dk dt_X12_undo 21 rfl) ?_
    refine jm_putI (kz := 17) (dk dt_X12_undo 22 rfl) fl_X12_230 rfl rfl rfl rfl m_28 (r32_w _) (fun h_38 m_38 => ?_)
    replace H := H _ rfl
    refine j_aload_n (dk dt_X12_undo 23 rfl) rfl ?_
    refine j_dup (dk dt_X12_undo 24 rfl) rfl ?_
    refine jm_getI (kz := 16) (dk dt_X12_undo 25 rfl) fl_X12_227 rfl rfl m_38 ?_
    refine j_iconst (v := Int32.ofInt 1) (dk dt_X12_undo 26 rfl) (by decide) ?_
    refine jz_isub (dk dt_X12_undo 27 rfl) ?_
    refine jm_putI (kz := 16) (dk dt_X12_undo 28 rfl) fl_X12_227 rfl rfl rfl rfl m_38 (r32_w _) (fun h_48 m_48 => ?_)
    replace H := H _ rfl
    refine j_aload_n (dk dt_X12_undo 29 rfl) rfl ?_
    refine j_aload_n (dk dt_X12_undo 30 rfl) rfl ?_
    refine j_aload_n (dk dt_X12_undo 31 rfl) rfl ?_
    refine jm_getI (kz := 16) (dk dt_X12_undo 32 rfl) fl_X12_227 rfl rfl m_48 ?_
    refine jz_callV1 (dk dt_X12_undo 33 rfl) vl_X12_233 rfl (T_X12_stepAt (m_48.2.1.1 _ _) m_48 H) m_48.1.1 rfl (by decide) (Nat.zero_le _) (Nat.zero_le _) (Nat.le_of_ble_eq_true rfl) (fun v_57 h_57 P_57 => ?_)
    obtain ⟨x_57, rfl, r_57, rfl, H⟩ := P_57
    dsimp only [rs]
    refine j_bipush (v := Int32.ofInt 40) (dk dt_X12_undo 34 rfl) (by decide) ?_
    refine jz_callV2 (dk dt_X12_undo 35 rfl) vl_X12_198 rfl (T_X12_copySheet r_57 (by decide) m_48 H) m_48.1.1 rfl (by decide) (Nat.zero_le _) (Nat.zero_le _) (Nat.le_of_ble_eq_true rfl) (fun v_62 h_62 P_62 => ?_)
    obtain ⟨u_62, rfl, m_62, H⟩ := P_62
    dsimp only [rs]
    refine j_aload_n (dk dt_X12_undo 36 rfl) rfl ?_
    refine jm_getI (kz := 16) (dk dt_X12_undo 37 rfl) fl_X12_227 rfl rfl m_62 ?_
    exact j_ireturn (dk dt_X12_undo 38 rfl) rfl rfl ⟨_, _, rfl, (m_62.2.1.1 _ _), m_62, H⟩
