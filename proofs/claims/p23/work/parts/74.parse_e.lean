/-! the reference's item: j -/
section JMM
variable {l : Nat → Int32} {n p q : Nat}
theorem zle6 {k : Nat} (h : k < 6) : ¬ (6 : Int32) ≤ nI k := by
  show ¬ nI 6 ≤ nI k
  rw [nI_leI (by omega) (by omega)]
  omega
theorem k4 (k i : Nat) : (4 * nI k) + nI i = nI (4 * k + i) := by
  show (nI 4 * nI k) + nI i = _
  rw [pk_mul, nI_add]
theorem jump_m (it said re : Int32) (ro : Nat → Int32) {k : Nat} (hk : k < 6) (hn : n ≤ 120) (hq : q < n) (hl : l q = 106) : (j5 l n (q + 1) → F_X12_readItem (nI n) (nI q) (-1) it said re (nI k) l ro = some (nI (nq l n (ne l n (ne l n (ne l n (ne l n (q + 1))))) + 1), -1, it + 1, said, re, nI (k + 1), upd (upd (upd (upd ro (4 * k) (nw l n (q + 1))) (4 * k + 1) (nw l n (ne l n (q + 1)))) (4 * k + 2) (nw l n (ne l n (ne l n (q + 1))))) (4 * k + 3) (nw l n (ne l n (ne l n (ne l n (q + 1))))))) ∧ (¬ j5 l n (q + 1) → ∃ pl ro', F_X12_readItem (nI n) (nI q) (-1) it said re (nI k) l ro = some (pl, nI (jf l n (q + 1)), it, said, re, nI (k + 1), ro')) := by
  have hp : q + 1 ≤ n := hq
  generalize hP : q + 1 = p at hp
  have e0 := ne_le (l := l) hp
  have e1 := ne_le (l := l) e0.2
  have e2 := ne_le (l := l) e1.2
  have e3 := ne_le (l := l) e2.2
  have q0 := nq_le (l := l) hp
  have q1 := nq_le (l := l) e0.2
  have q2 := nq_le (l := l) e1.2
  have q3 := nq_le (l := l) e2.2
  have q4 := nq_le (l := l) e3.2
  have hh : F_X12_here (nI n) (nI q) l = some 106 := by rw [here_at l n q hn hq, hl]
  have h6 : ¬ (6 : Int32) ≤ nI k := zle6 hk
  have x0 : 4 * nI k = nI (4 * k) := by
    show nI 4 * nI k = _
    rw [pk_mul]
  have x1 : nI (4 * k) + 1 = nI (4 * k + 1) := nI_add _ _
  have x2 : nI (4 * k) + 2 = nI (4 * k + 2) := nI_add _ _
  have x3 : nI (4 * k) + 3 = nI (4 * k + 3) := nI_add _ _
  have t0 : (nI (4 * k)).toNatClampNeg = 4 * k := nI_clamp (by omega)
  have t1 : (nI (4 * k + 1)).toNatClampNeg = 4 * k + 1 := nI_clamp (by omega)
  have t2 : (nI (4 * k + 2)).toNatClampNeg = 4 * k + 2 := nI_clamp (by omega)
  have t3 : (nI (4 * k + 3)).toNatClampNeg = 4 * k + 3 := nI_clamp (by omega)
  have i0 : ¬ (nI (4 * k) < 0 ∨ 24 ≤ 4 * k) := by
    have z := nI_in (c := 4 * k) (N := 24) (by omega) (by omega)
    rwa [t0] at z
  have i1 : ¬ (nI (4 * k + 1) < 0 ∨ 24 ≤ 4 * k + 1) := by
    have z := nI_in (c := 4 * k + 1) (N := 24) (by omega) (by omega)
    rwa [t1] at z
  have i2 : ¬ (nI (4 * k + 2) < 0 ∨ 24 ≤ 4 * k + 2) := by
    have z := nI_in (c := 4 * k + 2) (N := 24) (by omega) (by omega)
    rwa [t2] at z
  have i3 : ¬ (nI (4 * k + 3) < 0 ∨ 24 ≤ 4 * k + 3) := by
    have z := nI_in (c := 4 * k + 3) (N := 24) (by omega) (by omega)
    rwa [t3] at z
  have hne : ¬ (106 : Int32) = 101 := by decide
  have hk1 : nI k + 1 = nI (k + 1) := nI_1 k
  have hq1 : nI q + 1 = nI p := by rw [nI_1, hP]
  have hm1 : (-1 : Int32) < 0 := by decide
  unfold F_X12_readItem
  simp only [hh, zb1, zb3, Option.bind_some, if_neg hne, if_true, if_neg h6, x0, x1, x2, x3, if_neg i0, if_neg i1, if_neg i2, if_neg i3, t0, t1, t2, t3, hk1, hq1]
  refine ⟨fun h => ?_, fun h => ?_⟩
  · obtain ⟨h0, h1, h2, h3, h4⟩ := h
    simp only [mm_ok hm1 hn hp h0, mm_ok hm1 hn e0.2 h1, mm_ok hm1 hn e1.2 h2, mm_ok hm1 hn e2.2 h3, ms_ok hm1 hn e3.2 h4, Option.bind_some]
  · unfold jf
    by_cases h0 : nok l n p 2 12
    · rw [if_pos h0]
      by_cases h1 : nok l n (ne l n p) 1 4
      · rw [if_pos h1]
        by_cases h2 : nok l n (ne l n (ne l n p)) 0 11
        · rw [if_pos h2]
          by_cases h3 : nok l n (ne l n (ne l n (ne l n p))) 1 60
          · rw [if_pos h3]
            have h4 : ¬ sok l n (ne l n (ne l n (ne l n (ne l n p)))) := fun z => h ⟨h0, h1, h2, h3, z⟩
            simp only [mm_ok hm1 hn hp h0, mm_ok hm1 hn e0.2 h1, mm_ok hm1 hn e1.2 h2, mm_ok hm1 hn e2.2 h3, ms_no hm1 hn e3.2 h4, Option.bind_some]
            exact ⟨_, _, rfl⟩
          · rw [if_neg h3]
            simp only [mm_ok hm1 hn hp h0, mm_ok hm1 hn e0.2 h1, mm_ok hm1 hn e1.2 h2, mm_no hm1 hn e2.2 h3, me_wrong (npos _ (show nq l n (ne l n (ne l n (ne l n p))) ≤ 120 by omega)), Option.bind_some]
            exact ⟨_, _, rfl⟩
        · rw [if_neg h2]
          have w2 := npos _ (show nq l n (ne l n (ne l n p)) ≤ 120 by omega)
          simp only [mm_ok hm1 hn hp h0, mm_ok hm1 hn e0.2 h1, mm_no hm1 hn e1.2 h2, mn_wrong w2, me_wrong w2, Option.bind_some]
          exact ⟨_, _, rfl⟩
      · rw [if_neg h1]
        have w1 := npos _ (show nq l n (ne l n p) ≤ 120 by omega)
        simp only [mm_ok hm1 hn hp h0, mm_no hm1 hn e0.2 h1, mn_wrong w1, me_wrong w1, Option.bind_some]
        exact ⟨_, _, rfl⟩
    · rw [if_neg h0]
      have w0 := npos _ (show nq l n p ≤ 120 by omega)
      simp only [mm_no hm1 hn hp h0, mn_wrong w0, me_wrong w0, Option.bind_some]
      exact ⟨_, _, rfl⟩
theorem jf_le (hp : p ≤ n) : jf l n p ≤ n := by
  have e0 := ne_le (l := l) hp
  have e1 := ne_le (l := l) e0.2
  have e2 := ne_le (l := l) e1.2
  have e3 := ne_le (l := l) e2.2
  have q0 := nq_le (l := l) hp
  have q1 := nq_le (l := l) e0.2
  have q2 := nq_le (l := l) e1.2
  have q3 := nq_le (l := l) e2.2
  have q4 := nq_le (l := l) e3.2
  unfold jf
  split
  · split
    · split
      · split
        · exact q4.2
        · exact q3.2
      · exact q2.2
    · exact q1.2
  · exact q0.2
end JMM
