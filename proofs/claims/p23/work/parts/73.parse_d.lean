/-! j: four numbers and a stop -/
section JMP
variable {l : Nat → Int32} {n p q : Nat}
theorem zl_at : zL 0 = 2 ∧ zL 1 = 1 ∧ zL 2 = 0 ∧ zL 3 = 1 ∧ zM 0 = 12 ∧ zM 1 = 4 ∧ zM 2 = 11 ∧ zM 3 = 60 := ⟨rfl, rfl, rfl, rfl, rfl, rfl, rfl, rfl⟩
theorem rj_ok {cs : Int32} {cp ch ct cw parts : Nat → Int32} {st tok val : Int32} {f i : Nat} (hi : i < 4) (hn : n ≤ 120) (hp : p ≤ n) (h : nok l n p (zL i) (zM i)) : L_X10_readJumper_2 (nI n) l cs cp ch ct cw (f + 1) (nI p) st tok val parts (nI i) = L_X10_readJumper_2 (nI n) l cs cp ch ct cw f (nI (ne l n p)) (nI (nq l n p)) 1 (nw l n p) (upd parts i (nw l n p)) (nI (i + 1)) := by
  have h4 : ¬ (4 : Int32) ≤ nI i := by
    show ¬ nI 4 ≤ nI i
    exact nI_ge hi (by omega)
  rw [L_X10_readJumper_2_s, if_neg h4, if_neg (nI_in hi (by omega)), nI_clamp (by omega), cn_ok hn hp h]
  simp only [zb5, Option.bind_some]
  rw [if_neg (by decide), nI_1]
theorem rj_no {cs : Int32} {cp ch ct cw parts : Nat → Int32} {st tok val : Int32} {f i : Nat} (hi : i < 4) (hn : n ≤ 120) (hp : p ≤ n) (h : ¬ nok l n p (zL i) (zM i)) : ∃ a b d, L_X10_readJumper_2 (nI n) l cs cp ch ct cw (f + 1) (nI p) st tok val parts (nI i) = some (.inr (0, a, nI (nq l n p), b, d, parts, cs, cp, ch, ct, cw)) := by
  have h4 : ¬ (4 : Int32) ≤ nI i := by
    show ¬ nI 4 ≤ nI i
    exact nI_ge hi (by omega)
  obtain ⟨a, b, d, e⟩ := cn_no (val := val) hn hp h
  refine ⟨a, b, d, ?_⟩
  rw [L_X10_readJumper_2_s, if_neg h4, if_neg (nI_in hi (by omega)), nI_clamp (by omega), e]
  simp only [zb5, Option.bind_some, if_true]
theorem rj_end {cs : Int32} {cp ch ct cw parts : Nat → Int32} {st tok val pl : Int32} {f : Nat} : L_X10_readJumper_2 (nI n) l cs cp ch ct cw (f + 1) pl st tok val parts (nI 4) = some (.inl (pl, st, tok, val, parts, nI 4)) := by
  rw [L_X10_readJumper_2_s, if_pos (by decide)]
theorem pu0 (f : Nat → Int32) (a b c d : Int32) : (upd (upd (upd (upd f 0 a) 1 b) 2 c) 3 d) (0 : Int32).toNatClampNeg = a ∧ (upd (upd (upd (upd f 0 a) 1 b) 2 c) 3 d) (1 : Int32).toNatClampNeg = b ∧ (upd (upd (upd (upd f 0 a) 1 b) 2 c) 3 d) (2 : Int32).toNatClampNeg = c ∧ (upd (upd (upd (upd f 0 a) 1 b) 2 c) 3 d) (3 : Int32).toNatClampNeg = d := ⟨rfl, rfl, rfl, rfl⟩
/-- the class's jumper: all five stand -/
def j5 (l : Nat → Int32) (n p : Nat) : Prop := nok l n p 2 12 ∧ nok l n (ne l n p) 1 4 ∧ nok l n (ne l n (ne l n p)) 0 11 ∧ nok l n (ne l n (ne l n (ne l n p))) 1 60 ∧ sok l n (ne l n (ne l n (ne l n (ne l n p))))
theorem jump_c_ok {st tok val : Int32} {parts cp ch ct cw : Nat → Int32} {k : Nat} (hk : k < 6) (hn : n ≤ 120) (hp : p ≤ n) (h : j5 l n p) : ∃ a b d pa, F_X10_readJumper (nI n) (nI p) st tok val l parts (nI k) cp ch ct cw = some (1, nI (nq l n (ne l n (ne l n (ne l n (ne l n p)))) + 1), a, b, d, pa, nI (k + 1), upd cp k (nw l n p), upd ch k (nw l n (ne l n p)), upd ct k (nw l n (ne l n (ne l n p))), upd cw k (nw l n (ne l n (ne l n (ne l n p))))) := by
  obtain ⟨h0, h1, h2, h3, h4⟩ := h
  have e0 := ne_le (l := l) hp
  have e1 := ne_le (l := l) e0.2
  have e2 := ne_le (l := l) e1.2
  have e3 := ne_le (l := l) e2.2
  refine ⟨nI (nq l n (ne l n (ne l n (ne l n (ne l n p))))), 59, nw l n (ne l n (ne l n (ne l n p))), upd (upd (upd (upd parts 0 (nw l n p)) 1 (nw l n (ne l n p))) 2 (nw l n (ne l n (ne l n p)))) 3 (nw l n (ne l n (ne l n (ne l n p)))), ?_⟩
  have hL : L_X10_readJumper_2 (nI n) l (nI k) cp ch ct cw 300 (nI p) st tok val parts 0 = some (.inl (nI (ne l n (ne l n (ne l n (ne l n p)))), nI (nq l n (ne l n (ne l n (ne l n p)))), 1, nw l n (ne l n (ne l n (ne l n p))), upd (upd (upd (upd parts 0 (nw l n p)) 1 (nw l n (ne l n p))) 2 (nw l n (ne l n (ne l n p)))) 3 (nw l n (ne l n (ne l n (ne l n p)))), nI 4)) := by
    show L_X10_readJumper_2 (nI n) l (nI k) cp ch ct cw (295 + 1 + 1 + 1 + 1 + 1) (nI p) st tok val parts (nI 0) = _
    rw [rj_ok (i := 0) (by omega) hn hp h0, rj_ok (i := 1) (by omega) hn e0.2 h1, rj_ok (i := 2) (by omega) hn e1.2 h2, rj_ok (i := 3) (by omega) hn e2.2 h3, rj_end]
  unfold F_X10_readJumper
  rw [hL]
  obtain ⟨p0, p1, p2, p3⟩ := pu0 parts (nw l n p) (nw l n (ne l n p)) (nw l n (ne l n (ne l n p))) (nw l n (ne l n (ne l n (ne l n p))))
  have h6 : nI k < 6 := by
    show nI k < nI 6
    exact nI_lt hk (by omega)
  simp only [zs6, p0, p1, p2, p3]
  unfold F_X1_add
  rw [if_pos h6, if_neg (nI_in hk (by omega)), nI_clamp (by omega), nI_1]
  simp only [zb5, Option.bind_some]
  rw [cs_ok hn e3.2 h4]
  rfl
/-- the class's jumper: one of the five doesn't stand -/
noncomputable def jf (l : Nat → Int32) (n p : Nat) : Nat := by
  classical
  exact if nok l n p 2 12 then (if nok l n (ne l n p) 1 4 then (if nok l n (ne l n (ne l n p)) 0 11 then (if nok l n (ne l n (ne l n (ne l n p))) 1 60 then nq l n (ne l n (ne l n (ne l n (ne l n p)))) else nq l n (ne l n (ne l n (ne l n p)))) else nq l n (ne l n (ne l n p))) else nq l n (ne l n p)) else nq l n p
theorem jump_c_no {st tok val : Int32} {parts cp ch ct cw : Nat → Int32} {k : Nat} (hk : k < 6) (hn : n ≤ 120) (hp : p ≤ n) (h : ¬ j5 l n p) : ∃ a b d pa c1 c2 c3 c4 c5, F_X10_readJumper (nI n) (nI p) st tok val l parts (nI k) cp ch ct cw = some (0, a, nI (jf l n p), b, d, pa, c1, c2, c3, c4, c5) := by
  have e0 := ne_le (l := l) hp
  have e1 := ne_le (l := l) e0.2
  have e2 := ne_le (l := l) e1.2
  have e3 := ne_le (l := l) e2.2
  have hfu : L_X10_readJumper_2 (nI n) l (nI k) cp ch ct cw 300 (nI p) st tok val parts 0 = L_X10_readJumper_2 (nI n) l (nI k) cp ch ct cw (295 + 1 + 1 + 1 + 1 + 1) (nI p) st tok val parts (nI 0) := rfl
  unfold F_X10_readJumper jf
  rw [hfu]
  by_cases h0 : nok l n p 2 12
  · rw [if_pos h0, rj_ok (i := 0) (by omega) hn hp h0]
    by_cases h1 : nok l n (ne l n p) 1 4
    · rw [if_pos h1, rj_ok (i := 1) (by omega) hn e0.2 h1]
      by_cases h2 : nok l n (ne l n (ne l n p)) 0 11
      · rw [if_pos h2, rj_ok (i := 2) (by omega) hn e1.2 h2]
        by_cases h3 : nok l n (ne l n (ne l n (ne l n p))) 1 60
        · rw [if_pos h3, rj_ok (i := 3) (by omega) hn e2.2 h3, rj_end]
          have h4 : ¬ sok l n (ne l n (ne l n (ne l n (ne l n p)))) := fun z => h ⟨h0, h1, h2, h3, z⟩
          obtain ⟨a, b, d, hs⟩ := cs_no (val := nw l n (ne l n (ne l n (ne l n p)))) hn e3.2 h4
          obtain ⟨p0, p1, p2, p3⟩ := pu0 parts (nw l n p) (nw l n (ne l n p)) (nw l n (ne l n (ne l n p))) (nw l n (ne l n (ne l n (ne l n p))))
          have h6 : nI k < 6 := by
            show nI k < nI 6
            exact nI_lt hk (by omega)
          simp only [zs6, p0, p1, p2, p3]
          unfold F_X1_add
          rw [if_pos h6, if_neg (nI_in hk (by omega)), nI_clamp (by omega), nI_1]
          simp only [zb5, Option.bind_some]
          rw [hs]
          exact ⟨_, _, _, _, _, _, _, _, _, rfl⟩
        · rw [if_neg h3]
          obtain ⟨a, b, d, hs⟩ := rj_no (f := 296) (cs := nI k) (cp := cp) (ch := ch) (ct := ct) (cw := cw) (parts := upd (upd (upd parts 0 (nw l n p)) 1 (nw l n (ne l n p))) 2 (nw l n (ne l n (ne l n p)))) (st := nI (nq l n (ne l n (ne l n p)))) (tok := 1) (val := nw l n (ne l n (ne l n p))) (i := 3) (by omega) hn e2.2 h3
          rw [show L_X10_readJumper_2 (nI n) l (nI k) cp ch ct cw (295 + 1 + 1) (nI (ne l n (ne l n (ne l n p)))) _ _ _ _ (nI (2 + 1)) = _ from hs]
          exact ⟨_, _, _, _, _, _, _, _, _, rfl⟩
      · rw [if_neg h2]
        obtain ⟨a, b, d, hs⟩ := rj_no (f := 297) (cs := nI k) (cp := cp) (ch := ch) (ct := ct) (cw := cw) (parts := upd (upd parts 0 (nw l n p)) 1 (nw l n (ne l n p))) (st := nI (nq l n (ne l n p))) (tok := 1) (val := nw l n (ne l n p)) (i := 2) (by omega) hn e1.2 h2
        rw [show L_X10_readJumper_2 (nI n) l (nI k) cp ch ct cw (295 + 1 + 1 + 1) (nI (ne l n (ne l n p))) _ _ _ _ (nI (1 + 1)) = _ from hs]
        exact ⟨_, _, _, _, _, _, _, _, _, rfl⟩
    · rw [if_neg h1]
      obtain ⟨a, b, d, hs⟩ := rj_no (f := 298) (cs := nI k) (cp := cp) (ch := ch) (ct := ct) (cw := cw) (parts := upd parts 0 (nw l n p)) (st := nI (nq l n p)) (tok := 1) (val := nw l n p) (i := 1) (by omega) hn e0.2 h1
      rw [show L_X10_readJumper_2 (nI n) l (nI k) cp ch ct cw (295 + 1 + 1 + 1 + 1) (nI (ne l n p)) _ _ _ _ (nI (0 + 1)) = _ from hs]
      exact ⟨_, _, _, _, _, _, _, _, _, rfl⟩
  · rw [if_neg h0]
    obtain ⟨a, b, d, hs⟩ := rj_no (f := 299) (cs := nI k) (cp := cp) (ch := ch) (ct := ct) (cw := cw) (parts := parts) (st := st) (tok := tok) (val := val) (i := 0) (by omega) hn hp h0
    rw [show L_X10_readJumper_2 (nI n) l (nI k) cp ch ct cw (295 + 1 + 1 + 1 + 1 + 1) (nI p) st tok val parts (nI 0) = _ from hs]
    exact ⟨_, _, _, _, _, _, _, _, _, rfl⟩
end JMP
