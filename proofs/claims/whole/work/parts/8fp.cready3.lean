/-! ===== the system: ready ===== -/
section Rg
variable {z : Z} {b sv sb : Nat → Nat} {I : Nat → Prop} {S : SS}
/-- version v is needed for the values of h -/
def NeW (z : Z) (b : Nat → Nat) (S : SS) (h : Sh) (v : Nat) : Prop := ∀ T : Nat → Prop, (∀ v : Nat, v < 64 → lkS h v → T v) → (∀ v : Nat, v < 64 → T v → UnV z b v → ∀ w : Nat, w < 64 → lkS (S.2.1.2.1 v) w → T w) → T v
/-- how many versions will be worked out -/
noncomputable def coN (z : Z) (b : Nat → Nat) (S : SS) (h : Sh) (N : Nat) : Nat := cnQ (fun v => NeW z b S h v.toNat ∧ UnV z b v) N
def Vld (z : Z) (b : Nat → Nat) (v : Int) : Prop := (v = -1 → ∀ a, zO z (b 0) 11 = some a → zO z a 3 ≠ none) ∧ (v ≠ -1 → ∀ a, zO z (b 18) v = some a → zO z a 3 ≠ none)
theorem o_ready {v : Int} {N : Nat} {c0 s0 : Nat} {P : Z → Prop} (hN : (N : Int) = S.2.1.1) (R : RC z b I S) (C : Cac z b I sv sb S) (A : ShA S) (hv : isShP v S) (hc : ¬ Vld z b v → 641 * coN z b S (shOf v S) N + 641 ≤ c0) (hs : ¬ Vld z b v → 9280 * coN z b S (shOf v S) N + 9280 ≤ s0) (p0 : Vld z b v → P z) (p : ∀ y I', (∀ x, I x → I' x) → RC y b I' S → Cac y b I' sv sb S → Vld y b v → ¬ Vld z b v → (∀ w, 0 ≤ w → w < S.2.1.1 → (UnV y b w ↔ (UnV z b w ∧ ¬ NeW z b S (shOf v S) w.toNat ∧ w ≠ v))) → P y) : F_X11_ready (b 0) v z c0 s0 P := by
  have hB := RC_Bd R
  have n40 := hB.2.1.1
  have cc := R.1
  have hl := R.2.2.2.1
  have e4 : zI z (b 3) 4 = S.2.1.1 := hl.1.1
  unfold F_X11_ready F_X11_ready_17
  refine ⟨cK cc 0 rfl rfl, o_sheetOf R (fun _ a sa ea1 ea2 => ?_) (fun hn => absurd hv hn)⟩
  rw [if_neg (by simp)]
  have k7 := ShC_7 sa
  refine ⟨a, rfl, k7, ?_⟩
  by_cases cu : zO z a 3 = none
  · rw [if_pos cu]
    have nV : ¬ Vld z b v := fun q => by
      by_cases cv : v = -1
      · exact q.1 cv a (ea1 cv) cu
      · exact q.2 cv a (ea2 cv) cu
    have hc := hc nV
    have hs := hs nV
    -- the sheet that is asked for
    obtain ⟨m, hm1, hm2, Wm⟩ : ∃ m, m ≤ S.2.1.1 ∧ (v ≠ -1 → m = v) ∧ ShW (shOf v S) m := by
      unfold shOf
      by_cases cv : v = -1
      · rw [if_pos cv]; exact ⟨S.2.1.1, Int.le_refl _, fun w => absurd cv w, A.2⟩
      · rw [if_neg cv]
        have h1 := hv.1
        have h2 := hv.2
        exact ⟨v, by omega, fun _ => rfl, A.1 v (by omega) h2⟩
    refine o_looked sa (ShW_v Wm (by omega)) (fun x hx => ⟨b 3, cO cc 0 2 3 (by decide), cK cc 3 rfl rfl, ?_⟩)
    rw [e4, w32e (x := S.2.1.1 - 1) (by omega) (by omega)]
    have xl : ∀ w : Nat, w < 64 → (bitL x w = true ↔ lkS (shOf v S) w) := fun w hw => (hx w hw).trans (lk_eq Wm (by omega))
    refine k_r34 (m := m) R A hm1 (fun w hw h => lk_lt Wm ((xl w hw).mp h)) (fun X H1 H2 H3 H4 => ?_)
    have ne : ∀ w : Nat, w < 64 → (bitL X w = true ↔ NeW z b S (shOf v S) w) := fun w hw => by
      constructor
      · intro h T t1 t2
        exact H4 T (fun u hu q => t1 u hu ((xl u hu).mp q)) t2 w hw h
      · intro h
        exact h (fun u => bitL X u = true) (fun u hu q => H1 u hu ((xl u hu).mpr q)) (fun u hu q r w' hw' s => H3 u hu q r w' hw' s)
    have ew : wkN z b X N 0 = coN z b S (shOf v S) N := cnQ_e N (fun w hw => by
      constructor
      · rintro ⟨-, w2, w3, -⟩; exact ⟨(ne _ (by omega)).mp w2, w3⟩
      · rintro ⟨w2, w3⟩; exact ⟨by omega, (ne _ (by omega)).mpr w2, w3, by omega⟩)
    refine k_r91 (ce := 641) (se := 9280) hN R C A hm1 H2 H3 (by rw [ew]; exact hc) (by rw [ew]; exact hs) (fun y I' c s hI Ry Cy y18 y11 D1 D5 D3 D4 hce hse => ?_)
    have cy := Ry.1
    have hly := Ry.2.2.2.1
    -- what is looked at has its values
    have lkv : ∀ w, lkS (shOf v S) w → ∀ aw, zO y (b 18) w = some aw → zO y aw 3 ≠ none := fun w lw aw eaw hn => by
      have w0 : 0 ≤ w := by obtain ⟨_, _, _, _, _, _, _, _, q⟩ := lw; exact q
      have wl := lk_lt Wm lw
      have xw : bitL X w.toNat = true := H1 _ (by omega) ((xl _ (by omega)).mpr (by rw [Int.toNat_of_nonneg w0]; exact lw))
      exact D1 w w0 (by omega) xw (fun a' e' => by rw [eaw] at e'; injection e' with e'; rw [← e']; exact hn)
    have una : ∀ w, 0 ≤ w → w < S.2.1.1 → (UnV y b w ↔ (UnV z b w ∧ ¬ NeW z b S (shOf v S) w.toNat)) := fun w w0 w1 => by
      by_cases cw : bitL X w.toNat = true
      · exact ⟨fun h => absurd h (D1 w w0 w1 cw), fun h => absurd ((ne _ (by omega)).mp cw) h.2⟩
      · rw [D5 w w0 w1 cw]
        exact ⟨fun h => ⟨h, fun q => cw ((ne _ (by omega)).mpr q)⟩, fun h => h.1⟩
    refine ⟨cK cy 0 rfl rfl, ?_⟩
    unfold F_X11_ready_187
    rw [cO cy 0 3 4 (by decide)]
    by_cases cv : v = -1
    · rw [if_pos cv, cO cy 0 7 8 (by decide)]
      have e0 : zO y (b 0) 11 = some a := by rw [y11]; exact ea1 cv
      have esh : shOf v S = S.2.2.2.1.1 := by unfold shOf; rw [if_pos cv]
      have cbk := cnt_b A.2.1
      rw [esh] at lkv
      refine ⟨b 4, rfl, cK cy 4 rfl rfl, 640, 8960, by omega, by omega, k9_wrk Ry Cy e0 (ShW_Z A.2 (fun w w0 w1 => (A.1 w w0 w1).1)) (ShW_p A.2) lkv (by omega) (by omega) (fun y' Ry' Cy' q18 q11 qa q3 => ?_)⟩
      refine p y' I' hI Ry' Cy' ⟨fun _ a' e' => ?_, fun n => absurd cv n⟩ nV (fun w w0 w1 => ?_)
      · rw [q11] at e'
        injection e' with e'
        rw [← e', qa]; simp
      · obtain ⟨⟨⟨aw, eaw, saw⟩, -⟩, -⟩ := hly.2 w w0 w1
        have na : aw ≠ a := fun e' => Cy.2.2.2.2.1.2 w w0 w1 (by rw [eaw, e0, e'])
        have eq : UnV y' b w ↔ UnV y b w := by
          unfold UnV
          constructor
          · intro h a' e'
            rw [eaw] at e'
            injection e' with e'
            rw [← e', ← q3 aw (ShC_7 saw) na]
            exact h aw (by rw [q18]; exact eaw)
          · intro h a' e'
            rw [q18, eaw] at e'
            injection e' with e'
            rw [← e', q3 aw (ShC_7 saw) na]
            exact h aw eaw
        rw [eq, una w w0 w1]
        exact ⟨fun h => ⟨h.1, h.2, by omega⟩, fun h => ⟨h.1, h.2.1⟩⟩
    · rw [if_neg cv]
      have mv := hm2 cv
      have h1 := hv.1
      have h2 := hv.2
      have ea : zO y (b 18) v = some a := by rw [y18]; exact ea2 cv
      have esh : shOf v S = S.2.1.2.1 v := by unfold shOf; rw [if_neg cv]
      rw [esh] at lkv
      have Wv := A.1 v (by omega) h2
      have cbk := cnt_b Wv.1
      obtain ⟨⟨⟨a', e', say⟩, -⟩, -⟩ := hly.2 v (by omega) h2
      rw [ea] at e'
      injection e' with e'
      rw [← e'] at say
      have k7y := ShC_7 say
      obtain ⟨ra, ca, xa, Sp, -⟩ := id say
      obtain ⟨p1, p2, p3, p4, p5, p6, p7, p8, p9, p10, p11, p12⟩ := Sp
      refine ⟨a, rfl, k7y, xa, p4, p7, ?_⟩
      rw [p10]
      refine ⟨by omega, by omega, by omega, by omega, fun va hva z1 e1 => ?_⟩
      have f0 : FrZ nW y z1 := by rw [e1]; exact FrZ_nZ FrZ_rf hva
      refine ⟨b 4, rfl, (f0.1 (b 4) (kbz cy (by decide))).1.trans (cK cy 4 rfl rfl), 640, 8960, by omega, by omega, ?_⟩
      rw [e1]
      refine k9_ver Ry Cy (by omega) h2 ea (ShW_Z Wv (fun w w0 w1 => (A.1 w w0 (by omega)).1)) (ShW_p Wv) lkv hva (by omega) (by omega) (fun y' I'' hI' Ry' Cy' q18 q11 qa q3 q7 => ?_)
      refine p y' I'' (fun x hx => hI' x (hI x hx)) Ry' Cy' ⟨fun n => absurd n cv, fun _ a' e' => ?_⟩ nV (fun w w0 w1 => ?_)
      · rw [q18, ea] at e'
        injection e' with e'
        rw [← e']; exact qa
      · by_cases cw : w = v
        · rw [cw]
          exact ⟨fun h => absurd (h a (by rw [q18]; exact ea)) qa, fun h => absurd rfl h.2.2⟩
        · obtain ⟨⟨⟨aw, eaw, saw⟩, -⟩, -⟩ := hly.2 w w0 w1
          have na : aw ≠ a := fun e' => cw (Cy.2.2.2.2.1.1 w v w0 w1 (by omega) h2 (by rw [eaw, ea, e']))
          have eq : UnV y' b w ↔ UnV y b w := by
            unfold UnV
            constructor
            · intro h a' e'
              rw [eaw] at e'
              injection e' with e'
              rw [← e', ← q3 aw (ShC_7 saw) na]
              exact h aw (by rw [q18]; exact eaw)
            · intro h a' e'
              rw [q18, eaw] at e'
              injection e' with e'
              rw [← e', q3 aw (ShC_7 saw) na]
              exact h aw eaw
          rw [eq, una w w0 w1]
          exact ⟨fun h => ⟨h.1, h.2, cw⟩, fun h => ⟨h.1, h.2.1⟩⟩
  · rw [if_neg cu]
    refine p0 ⟨fun e a' e' => ?_, fun e a' e' => ?_⟩
    · rw [ea1 e] at e'; injection e' with e'; rw [← e']; exact cu
    · rw [ea2 e] at e'; injection e' with e'; rw [← e']; exact cu
end Rg
