/-! ===== parts alike ===== -/
theorem LitC_u {z : Z} {I : Nat → Prop} {a : Nat} {l l' : Lit} (h1 : LitC z I a l) (h2 : LitC z I a l') : l = l' := by
  obtain ⟨k1, n1, b1⟩ := l
  obtain ⟨k2, n2, b2⟩ := l'
  obtain ⟨-, -, ea, ba, oa, -, -, ra⟩ := h1
  obtain ⟨-, -, ed, bd, od, -, -, rd⟩ := h2
  simp only at ea ed ra rd
  have ek : k1 = k2 := ea.symm.trans ed
  subst ek
  rw [oa] at od
  cases od
  by_cases e : k1 = 2
  · rw [if_pos e] at ra rd
    obtain ⟨a1, a2, a3, a4⟩ := ra
    obtain ⟨d1, d2, d3, d4⟩ := rd
    have le : b1.length = b2.length := by omega
    rw [a3, d3, lst_e le (fun i hi => by rw [← a4 i hi]; exact d4 i (by omega))]
  · rw [if_neg e] at ra rd
    rw [ra.2, rd.2, ← ra.1, ← rd.1]
theorem o_isLikeP {z : Z} {I : Nat → Prop} {a d : Nat} {p q : Prt} {P : Int → Prop} (hw : WzI z I) (h1 : PrtC z I a p) (h2 : PrtC z I d q) (hy : p = q → P 1) (hn : p ≠ q → P 0) : F_X4_isLike a (some d) z P := by
  obtain ⟨p1, p2, p3, ⟨p4, p5, p6, p7⟩, p8, p9⟩ := p
  obtain ⟨q1, q2, q3, ⟨q4, q5, q6, q7⟩, q8, q9⟩ := q
  obtain ⟨-, ka, a0, a1, a2, a3, a4, a5, a6, a7, a8⟩ := h1
  obtain ⟨-, kd, d0, d1, d2, d3, d4, d5, d6, d7, d8⟩ := h2
  simp only at a0 a1 a2 a3 a4 a5 a6 a7 a8 d0 d1 d2 d3 d4 d5 d6 d7 d8
  unfold F_X4_isLike F_X4_isLike_144 F_X4_isLike_148 F_X4_isLike_149
  refine ⟨ka, d, rfl, kd, ?_⟩
  rw [a0, a1, a3, a4, a5, a6, a7, a8, d0, d1, d3, d4, d5, d6, d7, d8]
  have no : ¬ (((p1, p2, p3, (p4, p5, p6, p7), p8, p9) : Prt) = (q1, q2, q3, (q4, q5, q6, q7), q8, q9)) → Z1 0 ∧ P 0 := fun w => ⟨z1_0, hn w⟩
  have yes : (((p1, p2, p3, (p4, p5, p6, p7), p8, p9) : Prt) = (q1, q2, q3, (q4, q5, q6, q7), q8, q9)) → Z1 1 ∧ P 1 := fun w => ⟨z1_1, hy w⟩
  by_cases e1 : p1 = q1
  · rw [if_pos e1]
    by_cases e2 : p2 = q2
    · rw [if_pos e2]
      by_cases e4 : p4 = q4
      · rw [if_pos e4]
        by_cases e5 : p5 = q5
        · rw [if_pos e5]
          by_cases e6 : p6 = q6
          · rw [if_pos e6]
            by_cases e7 : p7 = q7
            · rw [if_pos e7]
              by_cases e8 : p8 = q8
              · rw [if_pos e8]
                by_cases e9 : p9 = q9
                · rw [if_pos e9]
                  subst e1 e2 e4 e5 e6 e7 e8 e9
                  have same : p3 = q3 → Z1 1 ∧ P 1 := fun w => yes (by rw [w])
                  have diff : p3 ≠ q3 → Z1 0 ∧ P 0 := fun w => no (fun v => w (by injection v with _ v; injection v with _ v; injection v))
                  match p3, q3, a2, d2, same, diff with
                  | none, none, a2, d2, same, diff => rw [a2, d2, if_pos rfl]; exact same rfl
                  | none, some l', a2, ⟨v', d2, d2'⟩, same, diff => rw [a2, d2, if_neg (by simp), if_pos rfl]; exact diff (by simp)
                  | some l, none, ⟨v, a2, a2'⟩, d2, same, diff => rw [a2, d2, if_neg (by simp), if_neg (by simp), if_pos rfl]; exact diff (by simp)
                  | some l, some l', ⟨v, a2, a2'⟩, ⟨v', d2, d2'⟩, same, diff =>
                    rw [a2, d2]
                    by_cases ev : v = v'
                    · rw [if_pos (by rw [ev])]
                      rw [ev] at a2'
                      exact same (by rw [LitC_u a2' d2'])
                    · rw [if_neg (by simpa using ev), if_neg (by simp), if_neg (by simp)]
                      refine ⟨v, rfl, a2'.2.1, v', rfl, d2'.2.1, ?_⟩
                      rw [a2'.2.2.1, d2'.2.2.1]
                      by_cases ek : l.1 = l'.1
                      · rw [if_pos ek]
                        refine o_compared hw a2' d2' ek (fun r hr => ?_)
                        by_cases er : r = 0
                        · rw [if_pos er]; exact same (by rw [hr.mp er])
                        · rw [if_neg er]; exact diff (fun w => er (hr.mpr (by injection w)))
                      · rw [if_neg ek]; exact diff (fun w => ek (by injection w with w; rw [w]))
                · rw [if_neg e9]; exact no (fun v => by injection v with _ v; injection v with _ v; injection v with _ v; injection v with _ v; injection v with _ v; exact e9 v)
              · rw [if_neg e8]; exact no (fun v => by injection v with _ v; injection v with _ v; injection v with _ v; injection v with _ v; injection v with v _; exact e8 v)
            · rw [if_neg e7]; exact no (fun v => by injection v with _ v; injection v with _ v; injection v with _ v; injection v with v _; injection v with _ v; injection v with _ v; injection v with _ v; exact e7 v)
          · rw [if_neg e6]; exact no (fun v => by injection v with _ v; injection v with _ v; injection v with _ v; injection v with v _; injection v with _ v; injection v with _ v; injection v with v _; exact e6 v)
        · rw [if_neg e5]; exact no (fun v => by injection v with _ v; injection v with _ v; injection v with _ v; injection v with v _; injection v with _ v; injection v with v _; exact e5 v)
      · rw [if_neg e4]; exact no (fun v => by injection v with _ v; injection v with _ v; injection v with _ v; injection v with v _; injection v with v _; exact e4 v)
    · rw [if_neg e2]; exact no (fun v => by injection v with _ v; injection v with v _; exact e2 v)
  · rw [if_neg e1]; exact no (fun v => by injection v with v _; exact e1 v)
