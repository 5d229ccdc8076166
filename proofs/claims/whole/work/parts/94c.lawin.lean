/-! ===== the law's entry, on ===== -/
set_option maxRecDepth 20000 in
theorem law_in {p : Program} {e : Env} {s : State} {m : MethodId} {below : List Frame} {meth : Method} {c : Code} (l : Launch) {b L mc ms : Nat} {xs : Nat → Int32} (hst : l.stackTraces = false) (hnm : meth.name = "law") (htb : c.exceptionTable.toList = []) (C0 : lw_At p s m meth c b L xs) (hmc : mc ≤ 601024) (hms : ms ≤ 7293034)
    (k : ∀ (D : va_G) (cy : Nat → ClassId), va_X b L xs s s.heap → b < s.heap.size → Jp mL_law p l e s m #[Value.ref b] below meth c (lw_Z below #[Value.ref b] s) D cy (fun q : Nat => s.heap.size ≤ q) 601024 7293034 2048 mc ms (fun o _ => o = .inl (some (vi 1))) 0 [some (vr (some b)), none, none, none, none, none, none] [] he) : W p l e room_1 s m #[Value.ref b] below meth c s.heap [] 0 0 (lw_Z below #[Value.ref b] s) (entryFrame m ([Value.ref b] : List Value).toArray 7) := by
  obtain ⟨hx, hb, hr, hml, hown, hts, hX, hbl, hlocks, hgv⟩ := id C0
  have htg : ∀ w ∈ gtb, w.before #[Value.ref b] s = true := fun w hw => hts w (gtb_good hw).1
  have htt : ∀ w ∈ tables_1, w.before #[Value.ref b] s = true := fun w hw => hts w (List.mem_append_right _ hw)
  obtain ⟨D, cy0, hK0⟩ := known9 htg htt
  obtain ⟨cy, hcy, hSw⟩ := sw_of cy0 htt hgv
  have hty : ty9 cy = ty9 cy0 := by
    unfold ty9
    rw [hcy 0 (by decide), hcy 1 (by decide), hcy 2 (by decide), hcy 3 (by decide), hcy 4 (by decide), hcy 5 (by decide), hcy 6 (by decide), hcy 7 (by decide), hcy 8 (by decide)]
  have hK : va_K D vwCl (ty9 cy) s := by rw [hty]; exact hK0
  have hZ := zt_of htt hgv
  have hlv := lv_entry (([vr (some b)] : List Sv).map (tv cy)) (n := 7) (Nat.le_of_ble_eq_true rfl)
  rw [lg_entry_eq]
  refine W_room (R := rmm 2048 601024 7293034) (hr_mono (by decide) (by decide) (by decide) (by decide)) ?_
  refine k D cy hX hbl s.heap [] 0 0 _ ⟨hx, hb, hml, hown, htg, hK, fun _ h => h, ⟨Xw_of htt, hSw⟩, hnm, by rw [htb]; rfl, fun _ => ⟨hZ, hst⟩⟩ ⟨[], fun a => ⟨fun z => (by cases z), fun z => absurd rfl z⟩, fun k q h => by simp [va_pl] at h, ⟨fun i j p q h => by simp [va_pl] at h, fun k q h => by simp [va_pl] at h⟩, va_S.rf⟩ (lv0_has (as := [vr (some b)]) (Nat.le_of_ble_eq_true rfl) hlv) (by omega) (by omega) ?_ ?_
  · intro v u H1 locs1 c1 s1 ls1 pc1 hp hR h1 h2 hrt
    cases hp
    obtain ⟨L', g1, g2, g3, g4⟩ := hR
    refine va_forget (fun q hq => g4.2.2 q hq) ?_
    exact W.widen (k := 601024) (n := 7293034) h1 h2 (lw_retR hx hb hr hlocks hrt.1)
  · intro E u H1 locs1 c1 s1 ls1 pc1 st1 hp
    cases hp
/-- scripts of at most 3584 ints -/
theorem whole_go {p : Program} {e : Env} {s : State} {m : MethodId} {below : List Frame} {meth : Method} {c : Code} (l : Launch) {b L : Nat} {xs : Nat → Int32} (hst : l.stackTraces = false) (hnm : meth.name = "law") (htb : c.exceptionTable.toList = []) (hL : L ≤ 3584) (C0 : lw_At p s m meth c b L xs) : W p l e room_1 s m #[Value.ref b] below meth c s.heap [] 0 0 (lw_Z below #[Value.ref b] s) (entryFrame m ([Value.ref b] : List Value).toArray 7) :=
  law_in l hst hnm htb C0 (mc := 601024) (ms := 7293034) (Nat.le_refl _) (Nat.le_refl _) (fun D cy hX hbl => law_all hX hbl (Nat.not_le.mpr hbl) hL (fun _ => rfl))
