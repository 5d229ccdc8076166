/-! ===== from the predicates to the simulation ===== -/
/-- V: what else is kept (values, room): calls left, room left, both heaps, the state -/
abbrev VT : Type := Nat → Nat → Nat → Z → (Nat → Nat) → (Nat → Prop) → Mu → SS → Prop
def SRv (V : VT) : SRT := fun n mc ms x g hc hm => ∃ (z : Z) (u : Mu) (b : Nat → Nat) (I : Nat → Prop) (S : SS), hc = cz z ∧ Wz z ∧ Ms hm g u ∧ x = b 0 ∧ RC z b I S ∧ RM u (512 - (n : Int)) S ∧ V n mc ms z b I u S
theorem exs_g {k : Nat} {E : String} (h : exs[k]? = some E) : E = exs.getD k "" := by
  rw [List.getD_eq_getElem?_getD, h]; rfl
theorem nI_th {th : Nat} (h : th ≤ 4) : (nI th = 0 ↔ th = 0) ∧ (nI th).toNatClampNeg = th := by
  have q : th = 0 ∨ th = 1 ∨ th = 2 ∨ th = 3 ∨ th = 4 := by omega
  rcases q with rfl | rfl | rfl | rfl | rfl <;> decide
theorem glueX {mX : MI} {l : List String} {as : List Sv} {d1 c s t0 : Nat} {z : Z} {th : Nat} {r : Int} {KC : Z → Prop} (hth : th ≤ 4) (hX : ConX mX d1 c s (vr (some t0) :: as) (cz z) (QX (QZI (fun x y => th = 0 ∧ x = r ∧ KC y)) (fun k y => (0 < th ∧ exs.getD k "" = l.getD (th - 1) "") ∧ KC y))) : ConX mX d1 c s (vr (some t0) :: as) (cz z) (py (fun uc => ∃ y, uc = cz y ∧ Wz y ∧ KC y) l (nI th) (Int32.ofInt r)) := by
  refine con_postX hX (fun o u ho => ?_)
  obtain ⟨t1, t2⟩ := nI_th hth
  cases o with
  | inl v =>
    obtain ⟨x, w, e1, -, e3, e4, e5, e6, e7⟩ := ho
    exact ⟨⟨w, e3, e4, e7⟩, t1.mpr e5, by rw [e1, e6]⟩
  | inr E =>
    obtain ⟨k, w, e1, e2, e3, ⟨e4, e5⟩, e6⟩ := ho
    refine ⟨⟨w, e2, e3, e6⟩, fun q => absurd (t1.mp q) (by omega), ?_⟩
    show E = l.getD ((nI th).toNatClampNeg - 1) ""
    rw [t2, exs_g e1, e5]
theorem glueM {mM : MI} {as : List Sv} {d2 c s : Nat} {hm : Hp} {g : Nat → Nat} {th : Nat} {r : Int} {KM : Mu → Prop} (hth : th ≤ 4) (hM : Con mM d2 c s (vr (some (g 0)) :: as) hm (QMI g (fun x v => x = r ∧ mI v 0 0 = (th : Int) ∧ KM v))) : Con mM d2 c s (vr (some (g 0)) :: as) hm (am g (fun um => ∃ v, Ms um g v ∧ KM v) (Int32.ofInt r) (nI th)) := by
  refine con_postC hM (fun o u ho => ?_)
  obtain ⟨x, v, e1, -, e3, e4, e5, e6⟩ := ho
  refine ⟨fun _ => by rw [e1, e4], ⟨_, e1⟩, e3.1, ?_, v, e3, e6⟩
  have q := (e3.2.2 0 0 (Or.inl rfl)).1
  rw [show ((0 : Nat) : Int) = 0 from rfl, e5] at q
  rw [q]
  exact Int32.ofInt_eq_ofNat
theorem glueD {mX : MI} {as : List Sv} {d1 c s t0 : Nat} {z : Z} {r : Int} {KC : Z → Prop} (hX : Con mX d1 c s (vr (some t0) :: as) (cz z) (QZI (fun x y => x = r ∧ KC y))) : Con mX d1 c s (vr (some t0) :: as) (cz z) (fun v u => v = some (vi (Int32.ofInt r)) ∧ ∃ y, u = cz y ∧ Wz y ∧ KC y) := by
  refine con_postC hX (fun o u ho => ?_)
  obtain ⟨x, w, e1, -, e3, e4, e6, e7⟩ := ho
  exact ⟨by rw [e1, e6], w, e3, e4, e7⟩
theorem glueP {mX : MI} {as : List Sv} {d1 c s t0 : Nat} {z : Z} {r : Int} (hw : Wz z) (hX : Con mX d1 c s (vr (some t0) :: as) (cz z) (QPI (cz z) (fun x => x = r))) : Con mX d1 c s (vr (some t0) :: as) (cz z) (fun v u => v = some (vi (Int32.ofInt r)) ∧ ∃ y, u = cz y ∧ Wz y ∧ y = z) := by
  refine con_postC hX (fun o u ho => ?_)
  obtain ⟨x, e1, -, e3, e4⟩ := ho
  exact ⟨by rw [e1, e4], z, e3, hw, rfl⟩
theorem glueMD {mM : MI} {as : List Sv} {d2 c s : Nat} {hm : Hp} {g : Nat → Nat} {r : Int} {KM : Mu → Prop} (hM : Con mM d2 c s (vr (some (g 0)) :: as) hm (QMI g (fun x v => x = r ∧ KM v))) : Con mM d2 c s (vr (some (g 0)) :: as) hm (fun o u => o = some (vi (Int32.ofInt r)) ∧ ∃ v, Ms u g v ∧ KM v) := by
  refine con_postC hM (fun o u ho => ?_)
  obtain ⟨x, v, e1, -, e3, e4, e6⟩ := ho
  exact ⟨by rw [e1, e4], v, e3, e6⟩
