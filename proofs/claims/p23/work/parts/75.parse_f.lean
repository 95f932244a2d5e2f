/-! the whole text: both readers agree -/
section TXT
variable {l : Nat → Int32} {n : Nat}
def jrel (k : Nat) (cp ch ct cw ro : Nat → Int32) : Prop := ∀ j, j < k → cp j = ro (4 * j) ∧ ch j = ro (4 * j + 1) ∧ ct j = ro (4 * j + 2) ∧ cw j = ro (4 * j + 3) ∧ (¬ cp j < 2 ∧ ¬ 12 < cp j) ∧ (¬ ch j < 1 ∧ ¬ 4 < ch j) ∧ (¬ ct j < 0 ∧ ¬ 11 < ct j) ∧ (¬ cw j < 1 ∧ ¬ 60 < cw j)
theorem jrel_0 {cp ch ct cw ro : Nat → Int32} : jrel 0 cp ch ct cw ro := fun j h => absurd h (Nat.not_lt_zero j)
theorem jrel_s {k : Nat} {cp ch ct cw ro : Nat → Int32} {v0 v1 v2 v3 : Int32} (h : jrel k cp ch ct cw ro) (h0 : ¬ v0 < 2 ∧ ¬ 12 < v0) (h1 : ¬ v1 < 1 ∧ ¬ 4 < v1) (h2 : ¬ v2 < 0 ∧ ¬ 11 < v2) (h3 : ¬ v3 < 1 ∧ ¬ 60 < v3) : jrel (k + 1) (upd cp k v0) (upd ch k v1) (upd ct k v2) (upd cw k v3) (upd (upd (upd (upd ro (4 * k) v0) (4 * k + 1) v1) (4 * k + 2) v2) (4 * k + 3) v3) := by
  intro j hj
  by_cases e : j = k
  · subst e
    refine ⟨?_, ?_, ?_, ?_, ?_, ?_, ?_, ?_⟩
    · rw [pk_us, pk_un (by omega), pk_un (by omega), pk_un (by omega), pk_us]
    · rw [pk_us, pk_un (by omega), pk_un (by omega), pk_us]
    · rw [pk_us, pk_un (by omega), pk_us]
    · rw [pk_us, pk_us]
    · rw [pk_us]; exact h0
    · rw [pk_us]; exact h1
    · rw [pk_us]; exact h2
    · rw [pk_us]; exact h3
  · obtain ⟨a0, a1, a2, a3, a4⟩ := h j (by omega)
    rw [pk_un e, pk_un e, pk_un e, pk_un e, pk_un (by omega), pk_un (by omega), pk_un (by omega), pk_un (by omega), pk_un (by omega), pk_un (by omega), pk_un (by omega), pk_un (by omega), pk_un (by omega), pk_un (by omega), pk_un (by omega), pk_un (by omega), pk_un (by omega), pk_un (by omega), pk_un (by omega), pk_un (by omega)]
    exact ⟨a0, a1, a2, a3, a4⟩
/-- what both say of a text from a place on: a fault at one place, or the same yard -/
def agree (C : Option ((Int32 × Int32 × Int32 × Int32 × Int32 × (Nat → Int32) × Int32 × Int32 × (Nat → Int32) × (Nat → Int32) × (Nat → Int32) × (Nat → Int32) × Int32 × Int32) ⊕ (Int32 × Int32 × Int32 × Int32 × Int32 × Int32 × (Nat → Int32) × Int32 × Int32 × (Nat → Int32) × (Nat → Int32) × (Nat → Int32) × (Nat → Int32)))) (M : Option (Int32 × Int32 × Int32 × Int32 × Int32 × Int32 × (Nat → Int32))) (n : Nat) : Prop :=
  (∃ f, f ≤ n ∧ (∃ o, C = some (.inr (nI f, o))) ∧ ∃ pl o, M = some (pl, nI f, o)) ∨
  (∃ it k ce cp ch ct cw ro, k ≤ 6 ∧ (∃ a b d e g, C = some (.inr (-9, it, a, b, d, e, g, ce, nI k, cp, ch, ct, cw))) ∧ (∃ pl sd, M = some (pl, -1, it, sd, ce, nI k, ro)) ∧ jrel k cp ch ct cw ro ∧ ¬ ce < 2 ∧ ¬ 9 < ce)
theorem n0m1 : ¬ (0 : Int32) ≤ -1 := by decide
theorem yard_wrong {f : Nat} {pl w it sd re rj : Int32} {ro : Nat → Int32} (hw : ¬ w < 0) : L_X12_readYard_34 (nI n) l (f + 1) pl w it sd re rj ro = some (pl, w, it, sd, re, rj, ro) := by
  rw [L_X12_readYard_34_s, if_pos (Int32.not_lt.mp hw)]
theorem item_oth {q : Nat} {it sd re rj : Int32} {ro : Nat → Int32} (hn : n ≤ 120) (hq : q < n) (h1 : ¬ l q = 101 ∨ ¬ sd = 0) (h2 : ¬ l q = 106 ∨ (6 : Int32) ≤ rj) : F_X12_readItem (nI n) (nI q) (-1) it sd re rj l ro = some (nI q, nI q, it, sd, re, rj, ro) := by
  have hh := here_at l n q hn hq
  unfold F_X12_readItem
  simp only [hh, zb1, Option.bind_some]
  by_cases a : l q = 101
  · have hs : ¬ sd = 0 := h1.resolve_left (fun z => z a)
    have b : ¬ l q = 106 := by rw [a]; decide
    rw [if_pos a, if_neg hs, if_neg b]
  · rw [if_neg a]
    by_cases b : l q = 106
    · rw [if_pos b, if_pos (h2.resolve_left (fun z => z b))]
    · rw [if_neg b]
theorem parse_sim (hn : n ≤ 120) : ∀ (m p t k fC fM : Nat) (it st tok val ce v2 : Int32) (parts cp ch ct cw ro : Nat → Int32), n - p < m → p ≤ n → t ≤ p → k ≤ 6 → n - p < fC → n - p + 1 < fM → (v2 = 0 ∨ v2 = 1) → jrel k cp ch ct cw ro → ¬ ce < 2 → ¬ 9 < ce →
    agree (L_X10_readInto_18 (nI n) l fC it (nI p) st tok val parts ce (nI k) cp ch ct cw v2 (nI t)) (L_X12_readYard_34 (nI n) l fM (nI (nq l n p)) (-1) it v2 ce (nI k) ro) n := by
  intro m
  induction m with
  | zero => intro p t k fC fM it st tok val ce v2 parts cp ch ct cw ro h; omega
  | succ m ih =>
    intro p t k fC fM it st tok val ce v2 parts cp ch ct cw ro hm hp ht hk hfC hfM hv2 hj hc1 hc2
    obtain ⟨fC, rfl⟩ : ∃ g, fC = g + 1 := ⟨fC - 1, by omega⟩
    obtain ⟨fM, rfl⟩ : ∃ g, fM = g + 1 + 1 := ⟨fM - 2, by omega⟩
    have ht' : ¬ (120 : Int32) < nI t := by
      show ¬ nI 120 < nI t
      exact nI_nlt (by omega) (by omega)
    have hq := nq_le (l := l) hp
    rw [L_X10_readInto_18_s, if_neg ht', L_X12_readYard_34_s, if_neg n0m1]
    have hqe : spf l (n - p) p = nq l n p := rfl
    generalize nq l n p = q at hq hqe ⊢
    by_cases hqn : q < n
    · have hnq : ¬ nI n ≤ nI q := nple hqn hn
      rw [if_neg hnq]
      have hh := here_at l n q hn hqn
      have hp1 : q + 1 ≤ n := by omega
      have c0 : ¬ (101 : Int32) = 0 := by decide
      have c1 : ¬ (106 : Int32) = 0 := by decide
      have c2 : ¬ (106 : Int32) = 101 := by decide
      have c3 : ¬ (101 : Int32) = 106 := by decide
      have c4 : ¬ (1 : Int32) = 0 := by decide
      have hq0 : (0 : Int32) ≤ nI q := nI_pos' (by omega)
      have stop : ∀ (it' sd re rj : Int32) (ro' : Nat → Int32), ∃ pl o, L_X12_readYard_34 (nI n) l (fM + 1) (nI q) (nI q) it' sd re rj ro' = some (pl, nI q, o) := fun it' sd re rj ro' => ⟨_, _, yard_wrong (npos q (by omega))⟩
      by_cases a : l q = 101
      · rw [adv_oth hn hp hqe hqn (by rw [a]; decide), if_pos a]
        rcases hv2 with rfl | rfl
        · simp only [zb4, Option.bind_some, if_neg c0, if_true]
          rcases every_sim (l := l) (val := val) hn hp1 ce it with ⟨e', v', g1, g2, ⟨x, y, z, hC⟩, hM, g3, g4⟩ | ⟨f, g1, ⟨x, y, z, v', hC⟩, pl, r, hM⟩
          · obtain ⟨r, pl, w, hnum, hM⟩ := zb3_s hM
            obtain ⟨pl', w', it', hends, hM⟩ := zb3_s hM
            obtain ⟨z1, z2, z3, z4⟩ := zo4 hM
            rw [z1, z2, z3] at hends
            rw [z4] at hnum
            have hitem : F_X12_readItem (nI n) (nI q) (-1) it 0 ce (nI k) l ro = some (nI e', -1, it + 1, 1, v', nI k, ro) := by
              unfold F_X12_readItem
              rw [hh]
              simp only [zb1, zb3, Option.bind_some, if_pos a, if_true, nI_1, hnum, hends]
            rw [hC, hitem]
            simp only [zb6, zb7, zb1, Option.bind_some, if_neg c4, if_neg n0m1, nI_1, skips_sp l n e' hn g2]
            exact ih e' (t + 1) k fC (fM + 1) (it + 1) x y z v' 1 parts cp ch ct cw ro (by omega) g2 (by omega) hk (by omega) (by omega) (Or.inr rfl) hj g3 g4
          · obtain ⟨r', pl', w, hnum, hM⟩ := zb3_s hM
            obtain ⟨pl2, w', it', hends, hM⟩ := zb3_s hM
            obtain ⟨z1, z2, z3, z4⟩ := zo4 hM
            rw [z2, z3] at hends
            have hitem : F_X12_readItem (nI n) (nI q) (-1) it 0 ce (nI k) l ro = some (pl2, nI f, it, 1, r', nI k, ro) := by
              unfold F_X12_readItem
              rw [hh]
              simp only [zb1, zb3, Option.bind_some, if_pos a, if_true, nI_1, hnum, hends]
            rw [hC, hitem]
            simp only [zb6, zb7, Option.bind_some, if_true, if_pos (show (0 : Int32) ≤ nI f from nI_pos' (by omega))]
            exact Or.inl ⟨f, g1, ⟨_, rfl⟩, _, _, yard_wrong (npos f (by omega))⟩
        · rw [item_oth hn hqn (Or.inr c4) (Or.inl (by rw [a]; decide))]
          simp only [zb4, zb7, Option.bind_some, if_neg c0, if_true, if_neg c4, if_neg c3, if_pos hq0]
          exact Or.inl ⟨q, hq.2, ⟨_, rfl⟩, stop _ _ _ _ _⟩
      · by_cases b : l q = 106
        · rw [adv_oth hn hp hqe hqn (by rw [b]; decide), if_neg a, if_pos b]
          simp only [zb4, Option.bind_some, if_neg c1, if_neg c2, if_true]
          by_cases hk6 : k < 6
          · have hz6 := zle6 hk6
            by_cases h5 : j5 l n (q + 1)
            · obtain ⟨x, y, z, pa, hC⟩ := jump_c_ok (st := nI q) (tok := 106) (val := val) (parts := parts) (cp := cp) (ch := ch) (ct := ct) (cw := cw) hk6 hn hp1 h5
              rw [(jump_m it v2 ce ro hk6 hn hqn b).1 h5]
              obtain ⟨h0, h1, h2, h3, h4⟩ := h5
              have e0 := ne_le (l := l) hp1
              have e1 := ne_le (l := l) e0.2
              have e2 := ne_le (l := l) e1.2
              have e3 := ne_le (l := l) e2.2
              have q4 := nq_le (l := l) e3.2
              have q0 := ne_gt hp1 h0.1
              have s4 := h4.1
              have hE : nq l n (ne l n (ne l n (ne l n (ne l n (q + 1))))) + 1 ≤ n := by omega
              have hE2 : q + 1 < nq l n (ne l n (ne l n (ne l n (ne l n (q + 1))))) + 1 := by
                have := nq_le (l := l) e0.2
                have := nq_le (l := l) e1.2
                have := nq_le (l := l) e2.2
                omega
              simp only [if_neg hz6, hC, zb11, zb7, zb1, Option.bind_some, if_neg c4, if_neg n0m1, nI_1, skips_sp l n _ hn hE]
              exact ih _ (t + 1) (k + 1) fC (fM + 1) (it + 1) x y z ce v2 pa _ _ _ _ _ (by omega) hE (by omega) (by omega) (by omega) (by omega) hv2 (jrel_s hj h0.2 h1.2 h2.2 h3.2) hc1 hc2
            · obtain ⟨x, y, z, pa, d1, d2, d3, d4, d5, hC⟩ := jump_c_no (st := nI q) (tok := 106) (val := val) (parts := parts) (cp := cp) (ch := ch) (ct := ct) (cw := cw) hk6 hn hp1 h5
              obtain ⟨pl, ro', hM⟩ := (jump_m it v2 ce ro hk6 hn hqn b).2 h5
              have hf := jf_le (l := l) hp1
              rw [hM]
              simp only [if_neg hz6, hC, zb11, zb7, Option.bind_some, if_true, if_pos (show (0 : Int32) ≤ nI (jf l n (q + 1)) from nI_pos' (by omega))]
              exact Or.inl ⟨jf l n (q + 1), hf, ⟨_, rfl⟩, _, _, yard_wrong (npos _ (by omega))⟩
          · have h6 : (6 : Int32) ≤ nI k := by
              show nI 6 ≤ nI k
              exact nI_le (by omega) (by omega)
            rw [item_oth hn hqn (Or.inl a) (Or.inr h6)]
            simp only [if_pos h6, zb7, Option.bind_some, if_pos hq0]
            exact Or.inl ⟨q, hq.2, ⟨_, rfl⟩, stop _ _ _ _ _⟩
        · rw [item_oth hn hqn (Or.inl a) (Or.inl b)]
          simp only [zb7, Option.bind_some, if_pos hq0]
          refine Or.inl ⟨q, hq.2, ?_, stop _ _ _ _ _⟩
          by_cases hd : ¬ l q < 48 ∧ ¬ 57 < l q
          · by_cases ho : okn l q (dgf l (n - q) q)
            · rw [adv_ok hn hp hqe hqn hd ho]
              simp only [zb4, Option.bind_some, if_neg c4, if_neg (show ¬ (1 : Int32) = 101 by decide), if_neg (show ¬ (1 : Int32) = 106 by decide)]
              exact ⟨_, rfl⟩
            · obtain ⟨v, hv⟩ := adv_bad (val := val) hn hp hqe hqn hd ho
              rw [hv]
              simp only [zb4, Option.bind_some, if_neg (show ¬ (2 : Int32) = 0 by decide), if_neg (show ¬ (2 : Int32) = 101 by decide), if_neg (show ¬ (2 : Int32) = 106 by decide)]
              exact ⟨_, rfl⟩
          · rw [adv_oth hn hp hqe hqn hd, if_neg a, if_neg b]
            by_cases g : l q = 59
            · rw [if_pos g]
              simp only [zb4, Option.bind_some, if_neg (show ¬ (59 : Int32) = 0 by decide), if_neg (show ¬ (59 : Int32) = 101 by decide), if_neg (show ¬ (59 : Int32) = 106 by decide)]
              exact ⟨_, rfl⟩
            · rw [if_neg g]
              simp only [zb4, Option.bind_some, if_neg (show ¬ (2 : Int32) = 0 by decide), if_neg (show ¬ (2 : Int32) = 101 by decide), if_neg (show ¬ (2 : Int32) = 106 by decide)]
              exact ⟨_, rfl⟩
    · have e : q = n := by omega
      subst e
      right
      rw [adv_end hn hp hqe, if_pos (nI_le (Nat.le_refl _) (by omega))]
      simp only [zb4, Option.bind_some, if_true]
      exact ⟨it, k, ce, cp, ch, ct, cw, ro, hk, ⟨_, _, _, _, _, rfl⟩, ⟨_, _, rfl⟩, hj, hc1, hc2⟩
end TXT
