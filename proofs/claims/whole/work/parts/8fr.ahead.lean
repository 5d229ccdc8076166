/-! ===== sort: which value goes before which ===== -/
/-- l goes before m (t: turned) -/
def aheP (t : Int) (l m : Lit) : Prop := if l.1 = 0 ∨ m.1 = 0 then (l.1 ≠ 0 ∧ m.1 = 0) else if l.1 = m.1 then (l.1 ≠ 4 ∧ (if t = 0 then ordV l m < 0 else 0 < ordV l m)) else (if t = 0 then l.1 < m.1 else m.1 < l.1)
theorem cmpB_s : ∀ a c : List Int, cmpB a c = -cmpB c a
  | [], [] => rfl
  | [], _ :: _ => rfl
  | _ :: _, [] => rfl
  | x :: a, y :: c => by
    rw [cmpB, cmpB]
    by_cases e : x = y
    · rw [if_pos e, if_pos e.symm]; exact cmpB_s a c
    · rw [if_neg e, if_neg (show ¬ y = x from fun w => e w.symm)]
      by_cases l : x < y
      · rw [if_pos l, if_neg (show ¬ y < x by omega)]
      · rw [if_neg l, if_pos (show y < x by omega)]; rfl
theorem ordV_s {l m : Lit} (e : l.1 = m.1) : ordV l m = -ordV m l := by
  unfold ordV
  by_cases c : l.1 = 2
  · rw [if_pos c, if_pos (by omega)]; exact cmpB_s _ _
  · rw [if_neg c, if_neg (by omega)]
    unfold cmpN
    repeat' split
    all_goals omega
theorem e_rank {x : Int} {P : Int → Prop} (h : P (if x = 0 then 5 else x)) : F_X12_rank x P := by
  unfold F_X12_rank F_X12_rank_9
  by_cases c : x = 0
  · rw [if_pos c] at h ⊢; exact h
  · rw [if_neg c] at h ⊢; exact h
theorem e_ahead {u : Mu} {x1 x2 t : Int} {l m : Lit} {P : Int → Mu → Prop} (a0 : 0 ≤ x1) (a1 : x1 < 13120) (b0 : 0 ≤ x2) (b1 : x2 < 13120) (ht : t = 0 ∨ t = 1) (L : CvM u x1 l) (M : CvM u x2 m) (hy : aheP t l m → ∀ v, FrS (fun e => e = 0 ∨ e = 1) u v → P 1 v) (hn : ¬ aheP t l m → ∀ v, FrS (fun e => e = 0 ∨ e = 1) u v → P 0 v) : F_X12_isAhead x1 x2 t u P := by
  have k1 := VOk_k L.2
  have k2 := VOk_k M.2
  unfold F_X12_isAhead F_X12_isAhead_34 F_X12_isAhead_66 F_X12_isAhead_46 F_X12_isAhead_75 F_X12_isAhead_131
  rw [L.1.1, M.1.1]
  unfold aheP at hy hn
  refine ⟨a0, a1, e_rank ⟨b0, b1, e_rank ?_⟩⟩
  by_cases c1 : l.1 = 0
  · rw [show (if l.1 = 0 then (5 : Int) else l.1) = 5 from if_pos c1]
    rw [if_pos (Or.inl c1)] at hn
    have fin := hn (fun w => w.1 c1) u FrS_rf
    have m5 : (if m.1 = 0 then (5 : Int) else m.1) ≤ 5 := by split <;> omega
    rw [if_pos rfl, if_pos m5]
    exact ⟨Or.inl rfl, fin⟩
  rw [show (if l.1 = 0 then (5 : Int) else l.1) = l.1 from if_neg c1]
  by_cases c2 : m.1 = 0
  · rw [show (if m.1 = 0 then (5 : Int) else m.1) = 5 from if_pos c2]
    rw [if_neg (show ¬ l.1 = 5 by omega), if_pos rfl, if_neg (show ¬ (5 : Int) ≤ l.1 by omega)]
    rw [if_pos (Or.inr c2)] at hy
    exact ⟨Or.inr rfl, hy ⟨c1, c2⟩ u FrS_rf⟩
  rw [show (if m.1 = 0 then (5 : Int) else m.1) = m.1 from if_neg c2, if_neg (show ¬ l.1 = 5 by omega), if_neg (show ¬ m.1 = 5 by omega)]
  rw [if_neg (by omega)] at hy hn
  by_cases ce : l.1 = m.1
  · rw [if_pos ce]
    rw [if_pos ce] at hy hn
    by_cases c4 : l.1 = 4
    · rw [if_pos c4]; exact hn (fun w => w.1 c4) u FrS_rf
    · rw [if_neg c4]
      refine e_load (by decide) (by decide) a0 a1 L.2 L.1 (fun v f1 h1 => ?_)
      refine e_load (by decide) (by decide) b0 b1 M.2 (CeM_f (FrT_of f1).1 M.1) (fun w f2 h2 => ?_)
      have f : FrS (fun e => e = 0 ∨ e = 1) u w := FrS_tr (FrS_mo f1 (fun e he => Or.inl he)) (FrS_mo f2 (fun e he => Or.inr he))
      have h1w : HdM w 0 l := HdM_f f2 (by decide) (fun _ => (VOk_b L.2).1) h1
      refine e_order (by decide) (by decide) (by decide) (by decide) L.2 M.2 h1w h2 ce ?_
      by_cases ct : t = 0
      · rw [if_pos ct]
        rw [if_pos ct] at hy hn
        by_cases co : 0 ≤ ordV l m
        · rw [if_pos co]; exact ⟨Or.inl rfl, hn (fun q => by omega) w f⟩
        · rw [if_neg co]; exact ⟨Or.inr rfl, hy ⟨c4, by omega⟩ w f⟩
      · rw [if_neg ct]
        rw [if_neg ct] at hy hn
        by_cases co : ordV l m ≤ 0
        · rw [if_pos co]; exact ⟨Or.inl rfl, hn (fun q => by omega) w f⟩
        · rw [if_neg co]; exact ⟨Or.inr rfl, hy ⟨c4, by omega⟩ w f⟩
  · rw [if_neg ce]
    rw [if_neg ce] at hy hn
    by_cases cm : m.1 ≤ l.1
    · rw [if_pos cm]
      by_cases ct : t = 0
      · rw [if_pos (show (0 : Int) = t from ct.symm)]
        rw [if_pos ct] at hn
        exact ⟨Or.inl rfl, hn (by omega) u FrS_rf⟩
      · rw [if_neg (show ¬ (0 : Int) = t from fun q => ct q.symm)]
        rw [if_neg ct] at hy
        exact ⟨Or.inr rfl, hy (by omega) u FrS_rf⟩
    · rw [if_neg cm]
      by_cases ct : t = 0
      · rw [if_neg (show ¬ (1 : Int) = t by omega)]
        rw [if_pos ct] at hy
        exact ⟨Or.inr rfl, hy (by omega) u FrS_rf⟩
      · rw [if_pos (show (1 : Int) = t by omega)]
        rw [if_neg ct] at hn
        exact ⟨Or.inl rfl, hn (by omega) u FrS_rf⟩
theorem k_compared2 {z : Z} {a ba d bd : Nat} {l m : Lit} {P : Int → Prop} (V : VlS z a ba l) (V2 : VlS z d bd m) (ol : VOk l) (om : VOk m) (hl : l.1 ≠ 4) (hm : m.1 ≠ 4) (hc : l.1 = m.1 ∨ l.1 = 0 ∨ m.1 = 0) (h : ∀ r, (r = 0 ↔ ordV (asO l m) (asO m l) = 0) → (r < 0 ↔ ordV (asO l m) (asO m l) < 0) → (-1000 ≤ r ∧ r ≤ 1000) → P r) : F_X8_compared a (some d) z P := by
  have kl := VOk_k ol
  have km := VOk_k om
  unfold F_X8_compared F_X8_compared_49 F_X8_compared_50
  refine ⟨V.1.1, ?_⟩
  rw [V.1.2.1]
  by_cases ct : l.1 = 2 ∨ m.1 = 2
  · have t1 := txt_v V ol (m := m) (by omega)
    have t2 := txt_v V2 om (m := l) (by omega)
    have key : F_X8_compared_52 a (some d) 0 z P := by
      unfold ordV at h
      rw [if_pos t1.1] at h
      obtain ⟨-, g1, l1, b1⟩ := t1
      obtain ⟨-, g2, l2, b2⟩ := t2
      generalize (asO l m).2.2 = La at *
      generalize (asO m l).2.2 = Lb at *
      unfold F_X8_compared_52
      refine lp_I (fun x => 0 ≤ x ∧ x ≤ (La.length : Int) ∧ x ≤ (Lb.length : Int) ∧ cmpB La Lb = cmpB (La.drop x.toNat) (Lb.drop x.toNat)) (fun x => ((La.length : Int) - x).toNat) ?_ 0 ⟨by decide, by omega, by omega, rfl⟩
      rintro G x ⟨x0, x1, x2, xs⟩ ih
      have fin : ((La.length : Int) ≤ x ∨ (Lb.length : Int) ≤ x) → F_X8_compared_125 a (some d) z P := by
        intro hx
        unfold F_X8_compared_125
        refine ⟨V.1.1, d, rfl, V2.1.1, ?_⟩
        rw [g1, g2, w64e (by omega) (by omega), w32e (by omega) (by omega)]
        have e0 : La.drop x.toNat = [] ∨ Lb.drop x.toNat = [] := by
          rcases hx with hx | hx
          · exact Or.inl (List.drop_eq_nil_of_le (by omega))
          · exact Or.inr (List.drop_eq_nil_of_le (by omega))
        rw [cmpB_0 _ _ e0, List.length_drop, List.length_drop] at xs
        rw [xs] at h
        refine h _ ?_ ?_ (by omega)
        · repeat' split
          all_goals omega
        · repeat' split
          all_goals omega
      unfold L_X8_compared_52 F_X8_compared_119
      refine ⟨V.1.1, ?_⟩
      rw [g1]
      by_cases e1 : (La.length : Int) ≤ x
      · rw [if_pos e1]; exact fin (Or.inl e1)
      rw [if_neg e1]
      refine ⟨d, rfl, V2.1.1, ?_⟩
      rw [g2]
      by_cases e2 : (Lb.length : Int) ≤ x
      · rw [if_pos e2]; exact fin (Or.inr e2)
      rw [if_neg e2]
      obtain ⟨p1, p2, p3⟩ := b1 x.toNat (by omega)
      obtain ⟨q1, q2, q3⟩ := b2 x.toNat (by omega)
      rw [Int.toNat_of_nonneg x0] at p1 p2 q1 q2
      have cd := cmpB_d (bs := La) (cs := Lb) (k := x.toNat) (by omega) (by omega)
      refine ⟨ba, V.1.2.2.1, V.1.2.2.2, ?_⟩
      rw [if_neg (by omega)]
      refine ⟨bd, V2.1.2.2.1, V2.1.2.2.2, ?_⟩
      rw [if_neg (by omega)]
      refine ⟨x0, p1, x0, q1, ?_⟩
      rw [p2, q2]
      by_cases e3 : La.getD x.toNat 0 = Lb.getD x.toNat 0
      · rw [if_pos e3, w32e (x := x + 1) (by omega) (by omega)]
        rw [if_pos e3] at cd
        exact ih (x + 1) ⟨by omega, by omega, by omega, by rw [xs, cd, show (x + 1).toNat = x.toNat + 1 by omega]⟩ (by omega)
      · rw [if_neg e3]
        rw [if_neg e3] at cd
        rw [xs, cd] at h
        show zK z a = 9 ∧ _
        refine ⟨V.1.1, ba, V.1.2.2.1, V.1.2.2.2, x0, p1, d, rfl, V2.1.1, bd, V2.1.2.2.1, V2.1.2.2.2, x0, q1, ?_⟩
        rw [p2, q2, w32e (by omega) (by omega)]
        refine h _ ?_ ?_ (by omega)
        · split <;> omega
        · split <;> omega
    by_cases c2 : l.1 = 2
    · rw [if_pos c2]; exact key
    · rw [if_neg c2]
      refine ⟨d, rfl, V2.1.1, ?_⟩
      rw [V2.1.2.1, if_pos (by omega)]; exact key
  · rw [if_neg (fun w => ct (Or.inl w))]
    refine ⟨d, rfl, V2.1.1, ?_⟩
    rw [V2.1.2.1, if_neg (fun w => ct (Or.inr w)), VlS_g V (fun w => ct (Or.inl w)), VlS_g V2 (fun w => ct (Or.inr w))]
    have e : ordV (asO l m) (asO m l) = cmpN l.2.1 m.2.1 := by
      have n1 : ∀ p q : Lit, VOk p → VOk q → p.1 ≠ 2 → q.1 ≠ 2 → p.1 ≠ 4 → q.1 ≠ 4 → (asO p q).1 ≠ 2 ∧ (asO p q).2.1 = p.2.1 := fun p q op oq c1 c2 c3 c4 => by
        unfold asO
        by_cases c0 : p.1 = 0 ∧ (q.1 = 1 ∨ q.1 = 2 ∨ q.1 = 3)
        · rw [if_pos c0]; refine ⟨c2, ?_⟩; rw [VOk_0 op c0.1]
        · rw [if_neg c0]; exact ⟨c1, rfl⟩
      obtain ⟨a1, a2⟩ := n1 l m ol om (fun w => ct (Or.inl w)) (fun w => ct (Or.inr w)) hl hm
      obtain ⟨a3, a4⟩ := n1 m l om ol (fun w => ct (Or.inr w)) (fun w => ct (Or.inl w)) hm hl
      unfold ordV
      rw [if_neg a1, a2, a4]
    rw [e] at h
    unfold cmpN at h
    by_cases c1 : m.2.1 ≤ l.2.1
    · rw [if_pos c1]
      by_cases c2 : l.2.1 ≤ m.2.1
      · rw [if_pos c2]
        refine h 0 ?_ ?_ (by decide)
        · rw [if_neg (by omega), if_neg (by omega)]
        · rw [if_neg (by omega), if_neg (by omega)]
      · rw [if_neg c2]
        refine h 1 ?_ ?_ (by decide)
        · rw [if_neg (by omega), if_pos (by omega)]
        · rw [if_neg (by omega), if_pos (by omega)]
    · rw [if_neg c1]
      refine h (-1) ?_ ?_ (by decide)
      · rw [if_pos (by omega)]
      · rw [if_pos (by omega)]
/-- the one before is greater than the one that comes: it comes before -/
theorem k_orderOf {z : Z} {a ba d bd : Nat} {t : Int} {m l : Lit} {P : Int → Prop} (ht : t = 0 ∨ t = 1) (M : VlS z a ba m) (L : VlS z d bd l) (om : VOk m) (ol : VOk l) (hy : aheP t l m → ∀ r, 0 < r → P r) (hn : ¬ aheP t l m → ∀ r, r ≤ 0 → P r) : F_X11_orderOf (some a) (some d) t z P := by
  have k1 := VOk_k ol
  have k2 := VOk_k om
  unfold F_X11_orderOf F_X11_orderOf_14 F_X11_orderOf_26 F_X11_orderOf_38 F_X11_orderOf_68 F_X11_orderOf_78
  unfold aheP at hy hn
  have no : (l.1 = 0 ∨ m.1 = 0) → ∃ a_15, some a = some a_15 ∧ zK z a_15 = 9 ∧ (if zI z a_15 1 = 0 then (∃ a_27, some d = some a_27 ∧ zK z a_27 = 9 ∧ (if zI z a_27 1 = 0 then P (w32 (1 - 1)) else P (w32 (1 - 0)))) else (∃ a_27, some d = some a_27 ∧ zK z a_27 = 9 ∧ (if zI z a_27 1 = 0 then P (w32 (0 - 1)) else P (w32 (0 - 0))))) := fun h0 => by
    rw [if_pos h0] at hy hn
    refine ⟨a, rfl, M.1.1, ?_⟩
    rw [M.1.2.1]
    by_cases c2 : m.1 = 0
    · rw [if_pos c2]
      refine ⟨d, rfl, L.1.1, ?_⟩
      rw [L.1.2.1]
      by_cases c1 : l.1 = 0
      · rw [if_pos c1, w32e (by decide) (by decide)]; exact hn (fun q => q.1 c1) _ (by decide)
      · rw [if_neg c1, w32e (by decide) (by decide)]; exact hy ⟨c1, c2⟩ _ (by decide)
    · rw [if_neg c2]
      refine ⟨d, rfl, L.1.1, ?_⟩
      rw [L.1.2.1]
      by_cases c1 : l.1 = 0
      · rw [if_pos c1, w32e (by decide) (by decide)]; exact hn (fun q => c2 q.2) _ (by decide)
      · omega
  refine ⟨a, rfl, M.1.1, ?_⟩
  rw [M.1.2.1]
  by_cases c2 : m.1 = 0
  · rw [if_pos c2]
    have := no (Or.inr c2)
    exact this
  rw [if_neg c2]
  refine ⟨d, rfl, L.1.1, ?_⟩
  rw [L.1.2.1]
  by_cases c1 : l.1 = 0
  · rw [if_pos c1]
    have := no (Or.inl c1)
    exact this
  rw [if_neg c1, w32e (x := m.1 - l.1) (by omega) (by omega)]
  rw [if_neg (by omega)] at hy hn
  by_cases ce : l.1 = m.1
  · rw [if_pos (by omega)]
    rw [if_pos ce] at hy hn
    by_cases c4 : m.1 = 4
    · rw [if_pos c4]
      have q : ¬ (l.1 ≠ 4 ∧ (if t = 0 then ordV l m < 0 else 0 < ordV l m)) := fun w => by have := w.1; omega
      by_cases ct : t = 0
      · rw [if_pos ct]; exact hn q _ (by omega)
      · rw [if_neg ct, w32e (by omega) (by omega)]; exact hn q _ (by omega)
    · rw [if_neg c4]
      have ea : asO m l = m := by unfold asO; rw [if_neg (by omega)]
      have eb : asO l m = l := by unfold asO; rw [if_neg (by omega)]
      have so := ordV_s ce
      refine k_compared2 M L om ol c4 (by omega) (Or.inl ce.symm) (fun r r0 r1 rb => ?_)
      rw [ea, eb] at r0 r1
      by_cases ct : t = 0
      · rw [if_pos ct]
        rw [if_pos ct] at hy hn
        by_cases co : ordV l m < 0
        · exact hy ⟨by omega, co⟩ r (by omega)
        · exact hn (fun q => co q.2) r (by omega)
      · rw [if_neg ct, w32e (by omega) (by omega)]
        rw [if_neg ct] at hy hn
        by_cases co : 0 < ordV l m
        · exact hy ⟨by omega, co⟩ _ (by omega)
        · exact hn (fun q => co q.2) _ (by omega)
  · rw [if_neg (by omega)]
    rw [if_neg ce] at hy hn
    by_cases ct : t = 0
    · rw [if_pos ct]
      rw [if_pos ct] at hy hn
      by_cases co : l.1 < m.1
      · exact hy co _ (by omega)
      · exact hn co _ (by omega)
    · rw [if_neg ct, w32e (by omega) (by omega)]
      rw [if_neg ct] at hy hn
      by_cases co : m.1 < l.1
      · exact hy co _ (by omega)
      · exact hn co _ (by omega)
