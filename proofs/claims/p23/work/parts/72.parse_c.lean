/-! a whole item -/
section ITM
variable {l : Nat → Int32} {n p q : Nat} {val : Int32}
/-- where the next token stands, where a number there ends, its value -/
noncomputable def nq (l : Nat → Int32) (n p : Nat) : Nat := spf l (n - p) p
noncomputable def ne (l : Nat → Int32) (n p : Nat) : Nat := dgf l (n - nq l n p) (nq l n p)
noncomputable def nw (l : Nat → Int32) (n p : Nat) : Int32 := nv l (nq l n p) (ne l n p)
def nok (l : Nat → Int32) (n p : Nat) (lo hi : Int32) : Prop := okn l (nq l n p) (ne l n p) ∧ ¬ nw l n p < lo ∧ ¬ hi < nw l n p
def sok (l : Nat → Int32) (n p : Nat) : Prop := nq l n p < n ∧ l (nq l n p) = 59
theorem nq_le (hp : p ≤ n) : p ≤ nq l n p ∧ nq l n p ≤ n := by
  have := spf_ge l (n - p) p
  unfold nq
  omega
theorem ne_le (hp : p ≤ n) : nq l n p ≤ ne l n p ∧ ne l n p ≤ n := by
  have h1 := nq_le (l := l) hp
  have := dgf_ge l (n - nq l n p) (nq l n p)
  unfold ne
  omega
theorem ne_gt (hp : p ≤ n) (h : okn l (nq l n p) (ne l n p)) : p < ne l n p := by
  have h1 := nq_le (l := l) hp
  rcases h with h | h <;> omega
theorem cn_ok {lo hi : Int32} (hn : n ≤ 120) (hp : p ≤ n) (h : nok l n p lo hi) : F_X10_readNumber (nI n) (nI p) val l lo hi = some (1, nI (ne l n p), nI (nq l n p), 1, nw l n p) := rn_ok hn hp rfl h.1 h.2.1 h.2.2
theorem cn_no {lo hi : Int32} (hn : n ≤ 120) (hp : p ≤ n) (h : ¬ nok l n p lo hi) : ∃ a b d, F_X10_readNumber (nI n) (nI p) val l lo hi = some (0, a, nI (nq l n p), b, d) := rn_no hn hp rfl h
theorem cs_ok (hn : n ≤ 120) (hp : p ≤ n) (h : sok l n p) : F_X10_readStop (nI n) (nI p) val l = some (1, nI (nq l n p + 1), nI (nq l n p), 59, val) := rs_ok hn hp rfl h.1 h.2
theorem cs_no (hn : n ≤ 120) (hp : p ≤ n) (h : ¬ sok l n p) : ∃ a b d, F_X10_readStop (nI n) (nI p) val l = some (0, a, nI (nq l n p), b, d) := rs_no hn hp rfl h
theorem mm_ok {w lo hi : Int32} (hw : w < 0) (hn : n ≤ 120) (hp : p ≤ n) (h : nok l n p lo hi) : F_X12_number (nI n) (nI p) w l lo hi = some (nw l n p, nI (ne l n p), w) := mn_ok hw hn hp rfl h.1 h.2.1 h.2.2
theorem mm_no {w lo hi : Int32} (hw : w < 0) (hn : n ≤ 120) (hp : p ≤ n) (h : ¬ nok l n p lo hi) : F_X12_number (nI n) (nI p) w l lo hi = some (0, nI (nq l n p), nI (nq l n p)) := mn_no hw hn hp rfl h
theorem ms_ok {w it : Int32} (hw : w < 0) (hn : n ≤ 120) (hp : p ≤ n) (h : sok l n p) : F_X12_ends (nI n) (nI p) w it l = some (nI (nq l n p + 1), w, it + 1) := me_ok hw hn hp rfl h.1 h.2
theorem ms_no {w it : Int32} (hw : w < 0) (hn : n ≤ 120) (hp : p ≤ n) (h : ¬ sok l n p) : F_X12_ends (nI n) (nI p) w it l = some (nI (nq l n p), nI (nq l n p), it) := me_no hw hn hp rfl h
theorem npos (k : Nat) (hk : k ≤ 120) : ¬ nI k < 0 := nI_pos (by omega)
/-- e: either both go on, at one place, with one EVERY, or both stop at one place -/
theorem every_sim (hn : n ≤ 120) (hp : p ≤ n) (ce it : Int32) : (∃ e' v', p + 2 ≤ e' ∧ e' ≤ n ∧ (∃ a b d, F_X10_readEvery (nI n) (nI p) val l ce = some (1, nI e', a, b, d, v')) ∧ (zb3 (F_X12_number (nI n) (nI p) (-1) l 2 9) (fun r pl w => zb3 (F_X12_ends (nI n) pl w it l) (fun pl' w' it' => some (pl', w', it', r)))) = some (nI e', (-1 : Int32), it + 1, v') ∧ ¬ v' < 2 ∧ ¬ 9 < v') ∨
    (∃ f, f ≤ n ∧ (∃ a b d v', F_X10_readEvery (nI n) (nI p) val l ce = some (0, a, nI f, b, d, v')) ∧ ∃ pl r, (zb3 (F_X12_number (nI n) (nI p) (-1) l 2 9) (fun r pl w => zb3 (F_X12_ends (nI n) pl w it l) (fun pl' w' it' => some (pl', w', it', r)))) = some (pl, nI f, it, r)) := by
  have hq := nq_le (l := l) hp
  have he := ne_le (l := l) hp
  by_cases h1 : nok l n p 2 9
  · have hgt := ne_gt hp h1.1
    have hq2 := nq_le (l := l) he.2
    by_cases h2 : sok l n (ne l n p)
    · left
      have := h2.1
      refine ⟨nq l n (ne l n p) + 1, nw l n p, by omega, by omega, ?_, ?_, h1.2.1, h1.2.2⟩
      · refine ⟨nI (nq l n (ne l n p)), 59, nw l n p, ?_⟩
        unfold F_X10_readEvery
        rw [cn_ok hn hp h1]
        simp only [zb1, zb2, zb3, zb4, zb5, Option.bind_some, if_true]
        rw [if_neg (by decide), cs_ok hn he.2 h2]
        rfl
      · rw [mm_ok (by decide) hn hp h1]
        simp only [zb3, Option.bind_some]
        rw [ms_ok (by decide) hn he.2 h2]
        rfl
    · right
      refine ⟨nq l n (ne l n p), hq2.2, ?_, ?_⟩
      · obtain ⟨a, b, d, hs⟩ := cs_no (val := nw l n p) hn he.2 h2
        refine ⟨a, b, d, nw l n p, ?_⟩
        unfold F_X10_readEvery
        rw [cn_ok hn hp h1]
        simp only [zb1, zb2, zb3, zb4, zb5, Option.bind_some, if_true]
        rw [if_neg (by decide), hs]
        rfl
      · refine ⟨nI (nq l n (ne l n p)), nw l n p, ?_⟩
        rw [mm_ok (by decide) hn hp h1]
        simp only [zb3, Option.bind_some]
        rw [ms_no (by decide) hn he.2 h2]
        rfl
  · right
    refine ⟨nq l n p, hq.2, ?_, ?_⟩
    · obtain ⟨a, b, d, hs⟩ := cn_no (val := val) hn hp h1
      refine ⟨a, b, d, ce, ?_⟩
      unfold F_X10_readEvery
      rw [hs]
      rfl
    · refine ⟨nI (nq l n p), 0, ?_⟩
      rw [mm_no (by decide) hn hp h1]
      simp only [zb3, Option.bind_some]
      rw [me_wrong (npos _ (by omega))]
      rfl
end ITM
