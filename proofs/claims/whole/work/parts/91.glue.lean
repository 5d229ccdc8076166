/-! ===== from the predicates to the simulation ===== -/
/-- next lines stay small -/
def NxB (n : Nat) (S : SS) : Prop := nxt S 0 ≤ 1000 - (n : Int) ∧ nxt S 1 ≤ 1000 - (n : Int)
/-- what else is kept: calls left, room left, both heaps, the state -/
def VV (n mc ms : Nat) (z : Z) (b : Nat → Nat) (I : Nat → Prop) (u : Mu) (S : SS) : Prop := n ≤ 513 ∧ PV S ∧ NxB n S ∧ (∃ sv sb, Cac z b I sv sb S) ∧ NdS u S ∧ RmE n (ptZ z b S) S mc ms
def SRv : SRT := fun n mc ms x g hc hm => ∃ (z : Z) (u : Mu) (b : Nat → Nat) (I : Nat → Prop) (S : SS), hc = cz z ∧ Wz z ∧ Ms hm g u ∧ x = b 0 ∧ RC z b I S ∧ RM u (513 - (n : Int)) S ∧ VV n mc ms z b I u S
theorem exs_g {k : Nat} {E : String} (h : exs[k]? = some E) : E = exs.getD k "" := by
  rw [List.getD_eq_getElem?_getD, h]; rfl
theorem nI_th {th : Nat} (h : th ≤ 4) : (nI th = 0 ↔ th = 0) ∧ (nI th).toNatClampNeg = th := by
  have q : th = 0 ∨ th = 1 ∨ th = 2 ∨ th = 3 ∨ th = 4 := by omega
  rcases q with rfl | rfl | rfl | rfl | rfl <;> decide
theorem glueX {mX : MI} {l : List String} {as : List Sv} {d1 c s t0 : Nat} {z : Z} {th : Nat} {r : Int} {KC : Z → Prop} (hth : th ≤ 4) (hX : ConX mX d1 c s (vr (some t0) :: as) (cz z) (QX (QZI (fun x y => th = 0 ∧ x = r ∧ KC y)) (fun k y => (0 < th ∧ exs.getD k "" = l.getD (th - 1) "") ∧ KC y))) : ConX mX d1 c s (vr (some t0) :: as) (cz z) (py (fun uc => ∃ y, uc = cz y ∧ Wz y ∧ KC y) l (nI th) (Int32.ofInt r)) := by
  refine con_postX hX (fun o u ho => ?_)
  obtain ⟨t1, t2⟩ := nI_th hth
  cases o with
  | inl v =>
    obtain ⟨x, w, e1, -, e3, e4, e5, e6, e7⟩ := ho
    exact ⟨⟨w, e3, e4, e7⟩, t1.mpr e5, by rw [e1, e6]⟩
  | inr E =>
    obtain ⟨k, w, e1, e2, e3, ⟨e4, e5⟩, e6⟩ := ho
    refine ⟨⟨w, e2, e3, e6⟩, fun q => absurd (t1.mp q) (by omega), ?_⟩
    show E = l.getD ((nI th).toNatClampNeg - 1) ""
    rw [t2, exs_g e1, e5]
theorem glueM {mM : MI} {as : List Sv} {d2 c s : Nat} {hm : Hp} {g : Nat → Nat} {th : Nat} {r : Int} {KM : Mu → Prop} (hth : th ≤ 4) (hM : Con mM d2 c s (vr (some (g 0)) :: as) hm (QMI g (fun x v => x = r ∧ mI v 0 0 = (th : Int) ∧ KM v))) : Con mM d2 c s (vr (some (g 0)) :: as) hm (am g (fun um => ∃ v, Ms um g v ∧ KM v) (Int32.ofInt r) (nI th)) := by
  refine con_postC hM (fun o u ho => ?_)
  obtain ⟨x, v, e1, -, e3, e4, e5, e6⟩ := ho
  refine ⟨fun _ => by rw [e1, e4], ⟨_, e1⟩, e3.1, ?_, v, e3, e6⟩
  have q := (e3.2.2 0 0 (Or.inl rfl)).1
  rw [show ((0 : Nat) : Int) = 0 from rfl, e5] at q
  rw [q]
  exact Int32.ofInt_eq_ofNat
theorem glueD {mX : MI} {as : List Sv} {d1 c s t0 : Nat} {z : Z} {r : Int} {KC : Z → Prop} (hX : Con mX d1 c s (vr (some t0) :: as) (cz z) (QZI (fun x y => x = r ∧ KC y))) : Con mX d1 c s (vr (some t0) :: as) (cz z) (fun v u => v = some (vi (Int32.ofInt r)) ∧ ∃ y, u = cz y ∧ Wz y ∧ KC y) := by
  refine con_postC hX (fun o u ho => ?_)
  obtain ⟨x, w, e1, -, e3, e4, e6, e7⟩ := ho
  exact ⟨by rw [e1, e6], w, e3, e4, e7⟩
theorem glueP {mX : MI} {as : List Sv} {d1 c s t0 : Nat} {z : Z} {r : Int} (hw : Wz z) (hX : Con mX d1 c s (vr (some t0) :: as) (cz z) (QPI (cz z) (fun x => x = r))) : Con mX d1 c s (vr (some t0) :: as) (cz z) (fun v u => v = some (vi (Int32.ofInt r)) ∧ ∃ y, u = cz y ∧ Wz y ∧ y = z) := by
  refine con_postC hX (fun o u ho => ?_)
  obtain ⟨x, e1, -, e3, e4⟩ := ho
  exact ⟨by rw [e1, e4], z, e3, hw, rfl⟩
theorem glueMD {mM : MI} {as : List Sv} {d2 c s : Nat} {hm : Hp} {g : Nat → Nat} {r : Int} {KM : Mu → Prop} (hM : Con mM d2 c s (vr (some (g 0)) :: as) hm (QMI g (fun x v => x = r ∧ KM v))) : Con mM d2 c s (vr (some (g 0)) :: as) hm (fun o u => o = some (vi (Int32.ofInt r)) ∧ ∃ v, Ms u g v ∧ KM v) := by
  refine con_postC hM (fun o u ho => ?_)
  obtain ⟨x, v, e1, -, e3, e4, e6⟩ := ho
  exact ⟨by rw [e1, e4], v, e3, e6⟩
theorem glueL {mX : MI} {as : List Sv} {d1 c s t0 : Nat} {z : Z} {r : Int} {KC : Z → Prop} (hX : Con mX d1 c s (vr (some t0) :: as) (cz z) (QZJ (fun x y => x = r ∧ KC y))) : Con mX d1 c s (vr (some t0) :: as) (cz z) (fun v u => v = some (vl (Int64.ofInt r)) ∧ ∃ y, u = cz y ∧ Wz y ∧ KC y) := by
  refine con_postC hX (fun o u ho => ?_)
  obtain ⟨x, w, e1, -, e3, e4, e6, e7⟩ := ho
  exact ⟨by rw [e1, e6], w, e3, e4, e7⟩
theorem glueML {mM : MI} {as : List Sv} {d2 c s : Nat} {hm : Hp} {g : Nat → Nat} {r : Int} {KM : Mu → Prop} (hM : Con mM d2 c s (vr (some (g 0)) :: as) hm (QMJ g (fun x v => x = r ∧ KM v))) : Con mM d2 c s (vr (some (g 0)) :: as) hm (fun o u => o = some (vl (Int64.ofInt r)) ∧ ∃ v, Ms u g v ∧ KM v) := by
  refine con_postC hM (fun o u ho => ?_)
  obtain ⟨x, v, e1, -, e3, e4, e6⟩ := ho
  exact ⟨by rw [e1, e4], v, e3, e6⟩
/-- what a call leaves: the system, the reference -/
def KC (y : Z) (b : Nat → Nat) (S : SS) (q : Nat) : Prop := Wz y → ∃ J, RC y b J S ∧ (∃ sv sb, Cac y b J sv sb S) ∧ ptZ y b S ≤ q
def KM (v : Mu) (n : Nat) (S : SS) : Prop := RM v (513 - (n : Int)) S ∧ (Bd S → S.2.2.1.2.2.2.1 ≤ 60000 → NdS v S)
theorem RmE_q {n q q' mc ms : Nat} {S : SS} (h : RmE n q S mc ms) (e : q' ≤ q) : RmE n q' S mc ms := ⟨by have := h.1; omega, by have := h.2; omega⟩
/-- what a call's row is asked to show -/
def AskC (n : Nat) (S' : SS) (q mc ms c s : Nat) : Prop := PV S' ∧ NxB n S' ∧ (c ≤ mc ∧ s ≤ ms) ∧ RmE n q S' (mc - c) (ms - s)
theorem sr_of {n mc ms c s q : Nat} {b g : Nat → Nat} {S' : SS} {uc um : Hp} (n5 : n + 1 ≤ 513) (A : AskC n S' q mc ms c s) (h1 : ∃ y, uc = cz y ∧ Wz y ∧ KC y b S' q) (h2 : ∃ v, Ms um g v ∧ KM v n S') : SRv n (mc - c) (ms - s) (b 0) g uc um := by
  obtain ⟨y, e1, wy, kc⟩ := h1
  obtain ⟨v, mv, Rv, Nv⟩ := h2
  obtain ⟨J, Ry, Cy, pq⟩ := kc wy
  exact ⟨y, v, b, J, S', e1, wy, mv, rfl, Ry, Rv, by omega, A.1, A.2.1, Cy, Nv (RC_Bd Ry) Ry.2.2.2.2.1.2.2.2.1.2.2, RmE_q A.2.2.2 pq⟩
theorem simX_of {mX mM : MI} {l : List String} {as : List Sv} (H : ∀ (n mc ms : Nat) (z : Z) (u : Mu) (b : Nat → Nat) (I : Nat → Prop) (S : SS), Wz z → RC z b I S → RM u (513 - ((n : Int) + 1)) S → VV (n + 1) mc ms z b I u S → ∃ (th : Nat) (r : Int) (S' : SS) (q d1 c s d2 : Nat), (th ≤ l.length ∧ th ≤ 4) ∧ AskC n S' q mc ms c s ∧ (d1 + 1 < 2048 ∧ d2 < 2048) ∧ ConX mX d1 c s (vr (some (b 0)) :: as) (cz z) (QX (QZI (fun x y => th = 0 ∧ x = r ∧ KC y b S' q)) (fun k y => (0 < th ∧ exs.getD k "" = l.getD (th - 1) "") ∧ KC y b S' q)) ∧ ∀ hm g, Ms hm g u → Con mM d2 0 0 (vr (some (g 0)) :: as) hm (QMI g (fun x v => x = r ∧ mI v 0 0 = (th : Int) ∧ KM v n S'))) : SimX SRv mX mM l as := by
  rintro n mc ms x g hc hm ⟨z, u, b, I, S, rfl, hw, m, rfl, R, M, V⟩
  obtain ⟨th, r, S', q, d1, c, s, d2, ⟨t1, t2⟩, A, ⟨e1, e2⟩, C, D⟩ := H n mc ms z u b I S hw R (by rw [show ((n + 1 : Nat) : Int) = (n : Int) + 1 by omega] at M; exact M) V
  exact ⟨nI th, Int32.ofInt r, _, _, d1, c, s, d2, 0, 0, mc - c, ms - s, ⟨th, t1, rfl⟩, glueX t2 C, glueM t2 (D hm g m), ⟨e1, e2⟩, ⟨by have := A.2.2.1.1; omega, by have := A.2.2.1.2; omega⟩, fun uc um h1 h2 => sr_of V.1 A h1 h2⟩
theorem simD_of {mX mM : MI} {as : List Sv} (H : ∀ (n mc ms : Nat) (z : Z) (u : Mu) (b : Nat → Nat) (I : Nat → Prop) (S : SS), Wz z → RC z b I S → RM u (513 - ((n : Int) + 1)) S → VV (n + 1) mc ms z b I u S → ∃ (r : Int) (S' : SS) (q d1 c s d2 : Nat), AskC n S' q mc ms c s ∧ (d1 < 2048 ∧ d2 < 2048) ∧ Con mX d1 c s (vr (some (b 0)) :: as) (cz z) (QZI (fun x y => x = r ∧ KC y b S' q)) ∧ ∀ hm g, Ms hm g u → Con mM d2 0 0 (vr (some (g 0)) :: as) hm (QMI g (fun x v => x = r ∧ KM v n S'))) : SimD SRv mX mM as := by
  rintro n mc ms x g hc hm ⟨z, u, b, I, S, rfl, hw, m, rfl, R, M, V⟩
  obtain ⟨r, S', q, d1, c, s, d2, A, ⟨e1, e2⟩, C, D⟩ := H n mc ms z u b I S hw R (by rw [show ((n + 1 : Nat) : Int) = (n : Int) + 1 by omega] at M; exact M) V
  exact ⟨Int32.ofInt r, _, _, d1, c, s, d2, 0, 0, mc - c, ms - s, glueD C, glueMD (D hm g m), ⟨e1, e2⟩, ⟨by have := A.2.2.1.1; omega, by have := A.2.2.1.2; omega⟩, fun uc um h1 h2 => sr_of V.1 A h1 h2⟩
/-- the system writes nothing -/
theorem simP_of {mX mM : MI} {as : List Sv} (H : ∀ (n mc ms : Nat) (z : Z) (u : Mu) (b : Nat → Nat) (I : Nat → Prop) (S : SS), Wz z → RC z b I S → RM u (513 - ((n : Int) + 1)) S → VV (n + 1) mc ms z b I u S → ∃ (r : Int) (d1 d2 : Nat), (d1 < 2048 ∧ d2 < 2048) ∧ Con mX d1 0 0 (vr (some (b 0)) :: as) (cz z) (QPI (cz z) (fun x => x = r)) ∧ ∀ hm g, Ms hm g u → Con mM d2 0 0 (vr (some (g 0)) :: as) hm (QMI g (fun x v => x = r ∧ KM v n S))) : SimD SRv mX mM as := by
  rintro n mc ms x g hc hm ⟨z, u, b, I, S, rfl, hw, m, rfl, R, M, V⟩
  obtain ⟨r, d1, d2, ⟨e1, e2⟩, C, D⟩ := H n mc ms z u b I S hw R (by rw [show ((n + 1 : Nat) : Int) = (n : Int) + 1 by omega] at M; exact M) V
  refine ⟨Int32.ofInt r, _, _, d1, 0, 0, d2, 0, 0, mc, ms, glueP hw C, glueMD (D hm g m), ⟨e1, e2⟩, ⟨by omega, by omega⟩, ?_⟩
  rintro uc um ⟨y, rfl, wy, rfl⟩ ⟨v, mv, Rv, Nv⟩
  obtain ⟨v1, v2, v3, v4, v5, v6⟩ := V
  exact ⟨y, v, b, I, S, rfl, wy, mv, rfl, R, Rv, by omega, v2, ⟨by have := v3.1; omega, by have := v3.2; omega⟩, v4, Nv (RC_Bd R) R.2.2.2.2.1.2.2.2.1.2.2, ⟨by have := v6.1; omega, by have := v6.2; omega⟩⟩
theorem simL_of {mX mM : MI} {as : List Sv} (H : ∀ (n mc ms : Nat) (z : Z) (u : Mu) (b : Nat → Nat) (I : Nat → Prop) (S : SS), Wz z → RC z b I S → RM u (513 - ((n : Int) + 1)) S → VV (n + 1) mc ms z b I u S → ∃ (r : Int) (S' : SS) (q d1 c s d2 : Nat), AskC n S' q mc ms c s ∧ (d1 < 2048 ∧ d2 < 2048) ∧ Con mX d1 c s (vr (some (b 0)) :: as) (cz z) (QZJ (fun x y => x = r ∧ KC y b S' q)) ∧ ∀ hm g, Ms hm g u → Con mM d2 0 0 (vr (some (g 0)) :: as) hm (QMJ g (fun x v => x = r ∧ KM v n S'))) : SimL SRv mX mM as := by
  rintro n mc ms x g hc hm ⟨z, u, b, I, S, rfl, hw, m, rfl, R, M, V⟩
  obtain ⟨r, S', q, d1, c, s, d2, A, ⟨e1, e2⟩, C, D⟩ := H n mc ms z u b I S hw R (by rw [show ((n + 1 : Nat) : Int) = (n : Int) + 1 by omega] at M; exact M) V
  exact ⟨Int64.ofInt r, _, _, d1, c, s, d2, 0, 0, mc - c, ms - s, glueL C, glueML (D hm g m), ⟨e1, e2⟩, ⟨by have := A.2.2.1.1; omega, by have := A.2.2.1.2; omega⟩, fun uc um h1 h2 => sr_of V.1 A h1 h2⟩
theorem ii_p (p : Int32) : ii p.toInt = vi p := by rw [show ii p.toInt = vi (Int32.ofInt p.toInt) from rfl, Int32.ofInt_toInt]
theorem R32_p (p : Int32) : R32 p.toInt := ⟨by have := Int32.le_toInt p; exact this, by have := Int32.toInt_lt p; omega⟩
/-- what all rows may ask for -/
theorem VV_f {n mc ms : Nat} {z : Z} {b : Nat → Nat} {I : Nat → Prop} {u : Mu} {S : SS} (hw : Wz z) (R : RC z b I S) (M : RM u (513 - ((n : Int) + 1)) S) (V : VV (n + 1) mc ms z b I u S) : Bd S ∧ CoB u ∧ ShA S ∧ WzI z I ∧ RM u (513 - (n : Int)) S ∧ ((0 ≤ S.2.2.1.2.2.2.1 ∧ S.2.2.1.2.2.2.1 ≤ 60000) ∧ (0 ≤ S.1.1 ∧ S.1.1 ≤ 400)) := by
  have hB := RC_Bd R
  have hM := R.2.2.2.2.1.2.2.2.1.2
  exact ⟨hB, CoB_of hB M (by omega) hM.2, ShA_of hB M (PV_Vr V.2.1), WzI_of hw, RM_N M (by omega), hM, hB.1.1, hB.1.2⟩
theorem Rm_1 {n q mc ms c s : Nat} {S S' : SS} (h : RmE (n + 1) q S mc ms) (hc : c ≤ 645) (hs : s ≤ 9668) (t0 : 0 ≤ S'.1.1) (t : S'.1.1 ≤ S.1.1) (m0 : S'.2.2.1.2.2.2.1 ≤ 60000) (m : S.2.2.1.2.2.2.1 ≤ S'.2.2.1.2.2.2.1) : (c ≤ mc ∧ s ≤ ms) ∧ RmE n q S' (mc - c) (ms - s) := by
  obtain ⟨h1, h2⟩ := h
  refine ⟨⟨by omega, by omega⟩, by omega, by omega⟩
