/-! ===== the system: a sheet's values, all of it ===== -/
theorem FrZ_t2 {V W : Nat → Int → Prop} {z w y : Z} (f : FrZ V z w) (g : FrZ W w y) (h : ∀ a i, zK z a ≠ 0 → W a i → V a i) : FrZ V z y := by
  refine ⟨fun a ha => ?_, fun a i ha hn => ?_⟩
  · have q := f.1 a ha
    have r := g.1 a (by rw [q.1]; exact ha)
    exact ⟨r.1.trans q.1, r.2.trans q.2⟩
  · have q := f.2 a i ha hn
    have r := g.2 a i (by rw [(f.1 a ha).1]; exact ha) (fun w => hn (h a i ha w))
    exact ⟨r.1.trans q.1, r.2.1.trans q.2.1, r.2.2.trans q.2.2⟩
def wWa : WR := [(4, some 8), (4, some 9), (4, some 10), (4, some 11), (4, some 12), (4, some 13), (4, some 14), (4, some 15), (4, some 16), (4, some 17), (4, some 18), (4, some 19), (4, some 20), (25, none), (26, none), (27, none), (28, none), (29, none)]
/-- all that a Worker writes, of what was there before -/
def WWk (z : Z) (b sv sb : Nat → Nat) (va sh : Nat) (x : Nat) (i : Int) : Prop := WB b wWa x i ∨ (x = sh ∧ i = 3) ∨ x = va ∨ (∃ m : Nat, m < 60 ∧ VW (sv m) (sb m) x i) ∨ ∃ j v vb, zO z va j = some v ∧ zO z v 0 = some vb ∧ VW v vb x i
section Wa
variable {z y : Z} {b sv sb : Nat → Nat} {J : Nat → Prop} {sh va : Nat} {h : Sh} {F : Int → Sh} {G : Int → Int → Int → Lit}
def rvH (w : Z) (va : Nat) (i : Int) : Nat := (zO w va i).getD 0
def rbH (w : Z) (va : Nat) (i : Int) : Nat := (zO w (rvH w va i) 0).getD 0
theorem RoS_R {w : Z} {N : Int} (A : VaC w b J va N) (R : RoS w b J sv sb va) (hN : N = h.1.1 * h.1.2) (h3 : zO w sh 3 = some va) (hx : ∀ i, FoI h i → ∃ v, zO w va i = some v) : RmI b J sv sb h (rvH w va) (rbH w va) ∧ RoC w b sh va h (rvH w va) (rbH w va) ∧ ∀ i, FoI h i → zO w va i = some (rvH w va i) ∧ zO w (rvH w va i) 0 = some (rbH w va i) := by
  have key : ∀ i, FoI h i → zO w va i = some (rvH w va i) ∧ OwV w b J sv sb (rvH w va i) (rbH w va i) := fun i fi => by
    obtain ⟨v, ev⟩ := hx i fi
    have e1 : rvH w va i = v := by unfold rvH; rw [ev]; rfl
    obtain ⟨vb, H⟩ := R.1 i v ev
    have e2 : rbH w va i = vb := by unfold rbH; rw [e1, H.1.2.1]; rfl
    rw [e1, e2]
    exact ⟨ev, H⟩
  refine ⟨⟨fun i j fi fj e => ?_, fun i j fi fj e => ?_, fun i fi => (key i fi).2.2⟩, ⟨⟨h3, A.1, by rw [← hN]; exact A.2.1, A.2.2.1⟩, fun i fi => ⟨(key i fi).1, (key i fi).2.1⟩⟩, fun i fi => ⟨(key i fi).1, (key i fi).2.1.2.1⟩⟩
  · exact R.2.1 i j (rvH w va i) (key i fi).1 (by rw [e]; exact (key j fj).1)
  · exact R.2.2 i j _ _ (rbH w va i) (key i fi).1 (key j fj).1 (key i fi).2.1.2.1 (by rw [e]; exact (key j fj).2.1.2.1)
theorem k9_work {c0 s0 : Nat} {P : Z → Prop} {nv : Int} (K : WkC z b J sv sb) (hs : ShC z J sh h) (A : VaC z b J va (h.1.1 * h.1.2)) (R : RoS z b J sv sb va) (En : EnV z b J F G h sh) (Zf : WfZ F nv h) (hw : ∀ k, inS h k → ∀ kd l ps, ctC h k = some (kd, l, ps) → kd ≠ 5 → VOk l) (hc : 2 * (h.1.1 * h.1.2) ≤ (c0 : Int)) (hs0 : 28 * (h.1.1 * h.1.2) ≤ (s0 : Int)) (p : ∀ y f, FrZ (WWk z b sv sb va sh) z y → WkC y b J sv sb → ShC y J sh h → RoS y b J sv sb va → zO y sh 3 = some va → Sol F G h f → (∀ i, FoI h i → ∃ v vb, zO y va i = some v ∧ VX y v vb (f (i / h.1.2) (i % h.1.2)) ∧ VOk (f (i / h.1.2) (i % h.1.2))) → NwV z y va → P y) : F_X9_work (b 4) (some sh) (some va) z c0 s0 P := by
  have hb := ShC_b hs
  have cb := cnt_b hb
  have k7 := ShC_7 hs
  have shb := n7 K.1 k7
  unfold F_X9_work
  refine ⟨cK K.1 4 rfl rfl, fun z1 e1 => ?_⟩
  have f1 : FrZ (WB b [(4, some 8)]) z z1 := by rw [e1]; exact FrZ_wO FrZ_rf (Or.inl (WB_i (by decide) (by decide)))
  have K1 := WkC_L K (L := [(4, some 8)]) (by decide) (by decide) f1
  have o1 : zO z1 (b 4) 8 = some sh := by rw [e1, zO_wO, if_pos ⟨rfl, rfl⟩]
  have k71 : zK z1 sh = 7 := (f1.1 sh (by rw [k7]; decide)).1.trans k7
  have hs1 := ShC_L K.1 K.2.1 f1 hs
  have A1 := VaC_f A f1
  have R1 := RoS_L K.1 A (by decide) R f1
  have En1 : EnV z1 b J F G h sh := EnV_W (cK K.1 18 rfl rfl) (fun a i ha => wl_J K.2.1 ha i) (fun i => wl_b K.1 (R := [(18, none)]) (by decide) (by decide) (wHas_a (by decide))) (fun a ha _ => wl_k K.1 (Or.inl ha) 3) (fun a i ha w => absurd w (wl_k K.1 (Or.inl ha) i)) f1 En
  refine ⟨sh, o1, k71, fun z2 e2 => ?_⟩
  have f2 : FrZ (fun a i => a = sh ∧ i = 3) z1 z2 := by rw [e2]; exact FrZ_wO FrZ_rf (Or.inl ⟨rfl, rfl⟩)
  have nJs : ¬ J sh := fun a => (K1.2.1 sh a).2.1 k71
  have K2 : WkC z2 b J sv sb := WkC_W K1 (fun t ht w => shb t.1 (crz_b t ht) w.1.symm) (fun k i hk w => shb k (by omega) w.1.symm) (fun m hm w => by have := (K1.2.2.1.1 m hm).2.1; rw [w.1, k71] at this; cases this) f2
  have hs2 : ShC z2 J sh h := ShC_fr f2 (fun a i ha w => nJs (by rw [← w.1]; exact ha)) (fun a i _ w => w.2) hs1
  have A2 := VaC_f A1 f2
  have R2 : RoS z2 b J sv sb va := RoS_e A1 R1 f2 (fun i => (f2.2 va i (by rw [A1.1]; decide) (fun w => by have := A1.1; rw [w.1, k71] at this; cases this)).2.2) (fun i v ev w => by obtain ⟨vb, H⟩ := R1.1 i v ev; have := H.1.1; rw [w.1, k71] at this; cases this)
  have En2 : EnV z2 b J F G h sh := EnV_W (cK K1.1 18 rfl rfl) (fun a i ha w => nJs (by rw [← w.1]; exact ha)) (fun i w => shb 18 (by decide) w.1.symm) (fun a _ hne w => hne w.1) (fun a i _ w => w.2) f2 En1
  have o2 : zO z2 (b 4) 8 = some sh := (f2.2 (b 4) 8 (kbz K1.1 (by decide)) (fun w => shb 4 (by decide) w.1.symm)).2.2.trans o1
  have v2 : zO z2 sh 3 = some va := by rw [e2, zO_wO, if_pos ⟨rfl, rfl⟩]
  have n27 : zN z2 (b 27) = 5 := cN K2.1 27 rfl rfl
  rw [cO K2.1 4 5 27 (by decide)]
  refine k9_clear K2.1 (by decide) (cK K2.1 27 rfl rfl) (by omega) (by omega) (by omega) (fun z3 f3 e3 => ?_)
  have K3 := WkC_L K2 (L := [(27, none)]) (by decide) (by decide) f3
  have hs3 := ShC_L K2.1 K2.2.1 f3 hs2
  have A3 := VaC_f A2 f3
  have R3 := RoS_L K2.1 A2 (by decide) R2 f3
  have En3 : EnV z3 b J F G h sh := EnV_W (cK K2.1 18 rfl rfl) (fun a i ha => wl_J K2.2.1 ha i) (fun i => wl_b K2.1 (R := [(18, none)]) (by decide) (by decide) (wHas_a (by decide))) (fun a ha _ => wl_k K2.1 (Or.inl ha) 3) (fun a i ha w => absurd w (wl_k K2.1 (Or.inl ha) i)) f3 En2
  have o3 : zO z3 (b 4) 8 = some sh := (f3.2 (b 4) 8 (kbz K2.1 (by decide)) (wl_b K2.1 (R := [(4, none)]) (by decide) (by decide) (wHas_a (by decide)))).2.2.trans o2
  have k72 := ShC_7 hs2
  have k73 := ShC_7 hs3
  have v3 : zO z3 sh 3 = some va := (f3.2 sh 3 (by rw [k72]; decide) (wl_k K2.1 (Or.inl k72) 3)).2.2.trans v2
  obtain ⟨ra, ca, xa, Sp, -⟩ := id hs3
  obtain ⟨p1, p2, p3, p4, p5, p6, p7, p8, p9, p10, p11, p12⟩ := Sp
  refine ⟨cK K3.1 4 rfl rfl, sh, o3, p1, xa, p4, p7, va, rfl, A3.1, ?_⟩
  have A3n := A3.2.1
  rw [p10, show min (min (h.1.1 * h.1.2) (zN z3 va)) 320 = h.1.1 * h.1.2 by omega]
  have hF : FmZ h := fun k hk l ps e => by
    obtain ⟨w1, w2, w3⟩ := Zf.2.2 k hk l ps e
    exact ⟨w1, w2, fun j hj => (w3 j hj).2⟩
  -- the frame so far
  have g1 : FrZ (WWk z b sv sb va sh) z z1 := FrZ_mono f1 (fun _ _ _ a => Or.inl (WB_up (by decide) a))
  have g2 : FrZ (WWk z b sv sb va sh) z z2 := FrZ_t2 g1 f2 (fun _ _ _ a => Or.inr (Or.inl a))
  have g3 : FrZ (WWk z b sv sb va sh) z z3 := FrZ_t2 g2 f3 (fun _ _ _ a => Or.inl (WB_up (by decide) a))
  have ne : ∀ i v, zO z va i = some v → zO z3 va i = some v := fun i v ev => by
    rw [va_Oe K2.1 A2 (by decide) f3, (f2.2 va i (by rw [A1.1]; decide) (fun w => by have := A1.1; rw [w.1, k71] at this; cases this)).2.2, va_Oe K.1 A (by decide) f1]; exact ev
  have en : ∀ i, zO z3 va i = zO z va i := fun i => by
    rw [va_Oe K2.1 A2 (by decide) f3, (f2.2 va i (by rw [A1.1]; decide) (fun w => by have := A1.1; rw [w.1, k71] at this; cases this)).2.2, va_Oe K.1 A (by decide) f1]
  have old3 : ∀ j v vb, zO z3 va j = some v → zO z3 v 0 = some vb → zO z va j = some v ∧ zO z v 0 = some vb := fun j v vb a1 a2 => by
    have q1 : zO z va j = some v := by rw [← en]; exact a1
    obtain ⟨vq, H⟩ := R.1 j _ q1
    have nv : v ≠ sh := fun eq => by have := H.1.1; rw [eq, k7] at this; cases this
    refine ⟨q1, ?_⟩
    rw [← a2]
    have kr : zK z v ≠ 0 := by rw [H.1.1]; decide
    have nbw : ∀ {L : WR}, ¬ WB b L v 0 := fun ⟨t, _, w2, w3, _⟩ => (H.2.2.2 t.1 w2).1 w3
    rw [(f3.2 _ 0 (by rw [(f2.1 _ (by rw [(f1.1 _ kr).1]; exact kr)).1, (f1.1 _ kr).1]; exact kr) nbw).2.2, (f2.2 _ 0 (by rw [(f1.1 _ kr).1]; exact kr) (fun w => nv w.1)).2.2, (f1.2 _ 0 kr nbw).2.2]
  unfold F_X9_work_44
  refine k9_w44 K3 o3 hs3 A3 R3 (fun i i0 i1 => by rw [e3, if_pos (by omega)]) hF hc hs0 (fun w c s f4 Rw hx Ow Lw Nw => ?_)
  have K4 := WkC_44 K3 A3 f4
  have A4 := VaC_f A3 f4
  have n4 : ∀ {a : Nat} {i : Int}, zK z3 a = 7 → ¬ W44 b va a i := fun {a i} ha w => by
    rcases w with w | w
    · exact wl_k K3.1 (Or.inl ha) i w
    · rw [w, A3.1] at ha; cases ha
  have nJ4 : ∀ a i, J a → ¬ W44 b va a i := fun a i ha w => by
    rcases w with w | w
    · exact wl_J K3.2.1 ha i w
    · rw [w] at ha; exact A3.2.2.2 ha
  have nb4 : ∀ {k : Nat} {i : Int}, k < 35 → k ≠ 8 → ¬ WB b wLo (b k) i → ¬ W44 b va (b k) i := fun hk h8 hn w => by
    rcases w with w | w
    · exact hn w
    · exact va_n K3.1 A3 hk h8 w
  have hs4 : ShC w J sh h := ShC_fr f4 nJ4 (fun a i ha q => absurd q (n4 ha)) hs3
  have En4 : EnV w b J F G h sh := EnV_W (cK K3.1 18 rfl rfl) nJ4 (fun i => nb4 (by decide) (by decide) (wl_b K3.1 (R := [(18, none)]) (by decide) (by decide) (wHas_a (by decide)))) (fun a ha _ => n4 ha) (fun a i ha q => absurd q (n4 ha)) f4 En3
  have o4 : zO w (b 4) 8 = some sh := (f4.2 (b 4) 8 (kbz K3.1 (by decide)) (nb4 (by decide) (by decide) (wl_b K3.1 (R := [(4, some 8)]) (by decide) (by decide) (wHas_i (by decide))))).2.2.trans o3
  have v4 : zO w sh 3 = some va := (f4.2 sh 3 (by rw [k73]; decide) (n4 k73)).2.2.trans v3
  have k74 := ShC_7 hs4
  have g4 : FrZ (WWk z b sv sb va sh) z w := FrZ_t2 g3 f4 (fun _ _ _ a => a.elim (fun a => Or.inl (WB_up (by decide) a)) (fun a => Or.inr (Or.inr (Or.inl a))))
  obtain ⟨RI, M, ky⟩ := RoS_R A4 Rw rfl v4 hx
  -- the room's Values that were there before
  have rold : ∀ j x i, FoI h j → zK z x ≠ 0 → VW (rvH w va j) (rbH w va j) x i → WWk z b sv sb va sh x i := fun j x i fj hx' a => by
    obtain ⟨y1, y2⟩ := ky j fj
    have kz : zK z3 x ≠ 0 := by rw [(g3.1 x hx').1]; exact hx'
    rcases Nw j _ _ y1 y2 with q | q
    · have q1 : zO z va j = some (rvH w va j) := by rw [← en]; exact q.1
      obtain ⟨vb, H⟩ := R.1 j _ q1
      have nv : rvH w va j ≠ sh := fun eq => by have := H.1.1; rw [eq, k7] at this; cases this
      have q2 : zO z (rvH w va j) 0 = some (rbH w va j) := by
        rw [← q.2]
        have kr : zK z (rvH w va j) ≠ 0 := by rw [H.1.1]; decide
        have nbw : ∀ {L : WR}, ¬ WB b L (rvH w va j) 0 := fun ⟨t, _, w2, w3, _⟩ => (H.2.2.2 t.1 w2).1 w3
        rw [(f3.2 _ 0 (by rw [(f2.1 _ (by rw [(f1.1 _ kr).1]; exact kr)).1, (f1.1 _ kr).1]; exact kr) nbw).2.2, (f2.2 _ 0 (by rw [(f1.1 _ kr).1]; exact kr) (fun w => nv w.1)).2.2, (f1.2 _ 0 kr nbw).2.2]
      exact Or.inr (Or.inr (Or.inr (Or.inr ⟨j, _, _, q1, q2, a⟩)))
    · rcases a with a | a
      · rw [a.1] at kz; exact absurd q.1 kz
      · rw [a] at kz; exact absurd q.2 kz
  show zK w (b 4) = 10 ∧ _
  refine ⟨cK K4.1 4 rfl rfl, k9_settle K4.1 hb k74 o4 RI M Ow Lw (fun z5 f5 O5 C5 => ?_)⟩
  have K5 := WkC_R K4 RI M (by decide) (by decide) f5
  have M5 := RoC_R K4.1 k74 RI M (by decide) f5
  have hs5 := ShC_R K4.1 K4.2.1 RI M f5 hs4
  have k75 := ShC_7 hs5
  have En5 : EnV z5 b J F G h sh := EnV_W (cK K4.1 18 rfl rfl) (fun a i ha => rw_J K4.2.1 RI ha i) (fun i => rw_b K4.1 RI (T := [(18, none)]) (by decide) (by decide) (wHas_a (by decide))) (fun a ha _ => rw_k K4.1 M (n7 K4.1 ha) (by rw [ha]; decide) (by rw [ha]; decide) 3) (fun a i ha q => absurd q (rw_k K4.1 M (n7 K4.1 ha) (by rw [ha]; decide) (by rw [ha]; decide) i)) f5 En4
  have o5 : zO z5 (b 4) 8 = some sh := (f5.2 (b 4) 8 (kbz K4.1 (by decide)) (rw_b K4.1 RI (T := [(4, none)]) (by decide) (by decide) (wHas_a (by decide)))).2.2.trans o4
  have L5 : LbC h (zG z5 (b 25)) := by
    rw [show zG z5 (b 25) = zG w (b 25) from funext (fun i => (f5.2 (b 25) i (kbz K4.1 (by decide)) (rw_b K4.1 RI (T := [(25, none)]) (by decide) (by decide) (wHas_a (by decide)))).2.1)]
    exact Lw
  have g5 : FrZ (WWk z b sv sb va sh) z z5 := FrZ_t2 g4 f5 (fun x i hx' a => by
    rcases a with a | ⟨j, -, fj, a⟩
    · exact Or.inl (WB_up (by decide) a)
    · exact rold j x i fj hx' a)
  refine ⟨cK K5.1 4 rfl rfl, k9_order K5.1 hb L5 O5 (fun z6 n f6 hn O6 => ?_)⟩
  have K6 := WkC_L K5 (L := wOr) (by decide) (by decide) f6
  have hs6 := ShC_L K5.1 K5.2.1 f6 hs5
  have fR6 : FrZ (RW b wOr (rvH w va) (rbH w va) h (fun _ => False)) z5 z6 := FrZ_mono f6 (fun _ _ _ a => Or.inl a)
  have M6 := RoC_R K5.1 k75 RI M5 (by decide) fR6
  have En6 : EnV z6 b J F G h sh := EnV_W (cK K5.1 18 rfl rfl) (fun a i ha => wl_J K5.2.1 ha i) (fun i => wl_b K5.1 (R := [(18, none)]) (by decide) (by decide) (wHas_a (by decide))) (fun a ha _ => wl_k K5.1 (Or.inl ha) 3) (fun a i ha w => absurd w (wl_k K5.1 (Or.inl ha) i)) f6 En5
  have o6 : zO z6 (b 4) 8 = some sh := (f6.2 (b 4) 8 (kbz K5.1 (by decide)) (wl_b K5.1 (R := [(4, none)]) (by decide) (by decide) (wHas_a (by decide)))).2.2.trans o5
  have g6 : FrZ (WWk z b sv sb va sh) z z6 := FrZ_t2 g5 f6 (fun _ _ _ a => Or.inl (WB_up (by decide) a))
  refine k9_w140 K6 o6 hs6 RI M6 En6 Zf hw O6 hn.1 hn.2 (fun i ci => VX_R RI M5 ci.1 (fun a => a) fR6 (C5 i ci)) (fun y f fy Sy Vy => ?_)
  have Ky := WkC_y K6 RI M6 fy
  have My := RoC_y K6 (ShC_7 hs6) RI M6 fy
  have gy : FrZ (WWk z b sv sb va sh) z y := FrZ_t2 g6 fy (fun x i hx' a => by
    rcases a with (a | ⟨m, hm, a⟩) | a | ⟨j, fj, a⟩
    · exact Or.inl (WB_up (by decide) a)
    · exact Or.inr (Or.inr (Or.inr (Or.inl ⟨m, hm, a⟩)))
    · exact Or.inl (WB_up (by decide) a)
    · exact rold j x i fj.1 hx' a)
  have vw0 : ∀ {u : Z} {a ba v : Nat}, VlB u a ba → zK u v = 9 → ¬ VW a ba v 0 := fun {u a ba v} B hv q => by
    rcases q with q | q
    · omega
    · rw [q, B.2.2.1] at hv; cases hv
  have n5 : ∀ i v, zO w va i = some v → ¬ RW b [(26, none), (27, none)] (rvH w va) (rbH w va) h (ciI h) v 0 := fun i v ev q => by
    obtain ⟨vb, H⟩ := Rw.1 i v ev
    rcases q with ⟨t, -, w2, w3, -⟩ | ⟨j, -, fj, q⟩
    · exact (H.2.2.2 t.1 w2).1 w3
    · exact vw0 (M.2 j fj).2 H.1.1 q
  have v5e : ∀ i, zO z5 va i = zO w va i := fun i => (f5.2 va i (by rw [A4.1]; decide) (rw_va K4.1 RI M (by decide) i)).2.2
  have R5 : RoS z5 b J sv sb va := RoS_e A4 Rw f5 v5e n5
  have A5 := VaC_f A4 f5
  have R6 := RoS_L K5.1 A5 (by decide) R5 f6
  have v6e : ∀ i, zO z6 va i = zO z5 va i := fun i => va_Oe K5.1 A5 (by decide) f6 i
  have A6 := VaC_f A5 f6
  have vye : ∀ i, zO y va i = zO z6 va i := fun i => (fy.2 va i (by rw [A6.1]; decide) (wx_k K6 M6 (by rw [A6.1]; decide) (by rw [A6.1]; decide) (by rw [A6.1]; decide) i)).2.2
  have n6 : ∀ i v, zO z6 va i = some v → ¬ Wx b sv sb (rvH w va) (rbH w va) h v 0 := fun i v ev q => by
    obtain ⟨vb, H⟩ := R6.1 i v ev
    have h4 := (H.2.2.2 4 (by decide)).1
    rcases q with (q | ⟨m, hm, q⟩) | q | ⟨j, fj, q⟩
    · exact h4 (WB_4 (by decide) q).1
    · exact vw0 (K6.2.2.1.1 m hm).2 H.1.1 q
    · exact h4 (WB_4 (by decide) q).1
    · exact vw0 (M6.2 j fj.1).2 H.1.1 q
  refine p y f gy Ky (ShC_y K6 RI M6 fy hs6) ?_ My.1.1 Sy (fun i fi => ⟨_, _, (My.2 i fi).1, Vy i fi⟩) (fun i v vb a1 a2 => ?_)
  · exact RoS_e A6 R6 fy vye n6
  · have b6 : zO z6 va i = some v := by rw [← vye]; exact a1
    have b5 : zO z5 va i = some v := by rw [← v6e]; exact b6
    have b4 : zO w va i = some v := by rw [← v5e]; exact b5
    obtain ⟨q6, H6⟩ := R6.1 i v b6
    obtain ⟨q5, H5⟩ := R5.1 i v b5
    obtain ⟨q4, H4⟩ := Rw.1 i v b4
    rw [(fy.2 v 0 (by rw [H6.1.1]; decide) (n6 i v b6)).2.2, (f6.2 v 0 (by rw [H5.1.1]; decide) (fun ⟨t, _, w2, w3, _⟩ => (H5.2.2.2 t.1 w2).1 w3)).2.2, (f5.2 v 0 (by rw [H4.1.1]; decide) (n5 i v b4)).2.2] at a2
    rcases Nw i v vb b4 a2 with q | q
    · exact Or.inl (old3 i v vb q.1 q.2)
    · have z0 : ∀ {x : Nat}, zK z3 x = 0 → zK z x = 0 := fun {x} hx' => by
        by_cases cq : zK z x = 0
        · exact cq
        · rw [(g3.1 x cq).1] at hx'; exact absurd hx' cq
      exact Or.inr ⟨z0 q.1, z0 q.2⟩
end Wa
