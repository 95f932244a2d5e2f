/-! odds: all together, some missing their next jump -/
def dueq (a : Nat) (z : Nat → Int32) (j : Nat) : Bool := a.testBit j && decide (z (10 + j) = 0)
theorem a21_l (a k : Nat) (ha : a < 64) (hk : k ≤ 6) (z : Nat → Int32) (hz : z 3 = nI a) : ∀ (n i : Nat), i ≤ k → k - i < n → L_X12_allStay_21 (nI k) z n (nI (mk (dueq a z) i)) (nI i) = some (nI (mk (dueq a z) k), nI k) := by
  intro n
  induction n with
  | zero => intro i h1 h2; omega
  | succ n ih =>
    intro i h1 h2
    rw [L_X12_allStay_21_s]
    by_cases hi : i = k
    · subst hi
      rw [if_pos (nI_le (Nat.le_refl _) (by omega))]
    · rw [if_neg (nI_ge (by omega) (by omega)), cl_3, hz, bm_has a ha i (by omega)]
      have := ih (i + 1) (by omega) (by omega)
      simp only [zb1, Option.bind_some, nI_1]
      by_cases t : a.testBit i = true
      · rw [if_pos t, if_neg n10, n_10, if_neg (nI_in (show 10 + i < 22 by omega) (by omega)), nI_clamp (show 10 + i < 2 ^ 31 by omega)]
        by_cases d : z (10 + i) = 0
        · rw [if_pos d, bm_or _ (mk_64 _ (by omega)) i (by omega)]
          rw [mk_s (show dueq a z i = true by unfold dueq; rw [t, decide_eq_true d]; rfl)] at this
          exact this
        · rw [if_neg d, bm_or0 _ (mk_64 _ (by omega))]
          rw [mk_n (show ¬ dueq a z i = true by unfold dueq; rw [t, decide_eq_false d]; decide)] at this
          exact this
      · rw [if_neg t, if_pos rfl, bm_or0 _ (mk_64 _ (by omega))]
        rw [mk_n (show ¬ dueq a z i = true by unfold dueq; rw [Bool.eq_false_iff.mpr t, Bool.false_and]; decide)] at this
        exact this
theorem a21 {a k : Nat} (ha : a < 64) (hk : k ≤ 6) {z : Nat → Int32} (hz : z 3 = nI a) : L_X12_allStay_21 (nI k) z 300 0 0 = some (nI (mk (dueq a z) k), nI k) := a21_l a k ha hk z hz 300 0 (by omega) (by omega)
section ALL
variable {k : Nat} {p h : Nat → Int32}
/-- who is out stays out -/
theorem as_0 (hk : k ≤ 6) (m : Nat) (hm : m < 2 ^ 31) : ∀ (n i a M : Nat) (z : Nat → Int32), a < 2 ^ k → M < 64 → z 3 = nI a → i ≤ m → m - i < n → ∃ z' M' b, L_X12_allStay_9 (nI k) p h (nI m) n z (nI M) (nI i) = some (z', M', nI m) ∧ z' 3 = nI b ∧ b < 64 ∧ ∀ j, j < 6 → b.testBit j = true → a.testBit j = true := by
  intro n
  induction n with
  | zero => intro i a M z h1 h2 h3 h4 h5; omega
  | succ n ih =>
    intro i a M z h1 h2 h3 h4 h5
    rw [L_X12_allStay_9_s]
    by_cases hi : i = m
    · subst hi
      rw [if_pos (nI_le (Nat.le_refl _) hm)]
      exact ⟨z, nI M, a, rfl, h3, p64 h1 hk, fun j _ y => y⟩
    · rw [if_neg (nI_ge (by omega) hm), a21 (p64 h1 hk) hk h3]
      obtain ⟨z', q1, q2, q3, q4, q5, q6, q7⟩ := tick_m k a M hk h1 h2 p h z h3
      simp only [zb2, Option.bind_some]
      rw [q1, bm_dif M h2 _ (mk_64 _ hk), nI_1]
      simp only [Option.bind_some]
      obtain ⟨z2, M2, b, g1, g2, g3, g4⟩ := ih (i + 1) (a &&& (63 ^^^ mtrip k a (z 2) (mU a M h z))) (M &&& (63 ^^^ mk (dueq a z) k)) z' (dif_lt h1) (Nat.lt_of_le_of_lt Nat.and_le_left h2) q5 (by omega) (by omega)
      refine ⟨z2, M2, b, g1, g2, g3, fun j hj tb => ?_⟩
      have := g4 j hj tb
      rw [tb_dif hj] at this
      exact (Bool.and_eq_true_iff.mp this).1
def oE (M : Nat) (p z : Nat → Int32) (j : Nat) : Int32 := if M.testBit j = true then z (10 + j) + p j else z (10 + j)
theorem one_t {a M : Nat} {z z' : Nat → Int32} {j : Nat} (hj : j < 6) (hjk : j < k) (ha : a.testBit j = true) (hp : ∃ v, 2 ≤ v ∧ v ≤ 12 ∧ p j = nI v) (hh : ∃ v, 1 ≤ v ∧ v ≤ 4 ∧ h j = nI v) (hu : rg (z (4 + j)) 4) (hd : rg (z (10 + j)) 12) (h4 : z' (4 + j) = dc (mU a M h z j)) (h10 : z' (10 + j) = mD a p z j - 1) (h16 : z' (16 + j) = mW a M z j) :
    mU a M h z j = oU (h j) (z (4 + j)) (oE M p z j) (z (16 + j)) ∧ z' (4 + j) = dc (oU (h j) (z (4 + j)) (oE M p z j) (z (16 + j))) ∧ oE (M &&& (63 ^^^ mk (dueq a z) k)) p z' j = dc (oD (p j) (oE M p z j)) ∧ z' (16 + j) = oW (oE M p z j) (z (16 + j)) ∧ rg (oU (h j) (z (4 + j)) (oE M p z j) (z (16 + j))) 4 ∧ rg (z' (10 + j)) 12 := by
  obtain ⟨pv, p1, p2, p3⟩ := hp
  obtain ⟨hv, v1, v2, v3⟩ := hh
  obtain ⟨dv, d1, d2⟩ := hd
  have em : (M &&& (63 ^^^ mk (dueq a z) k)).testBit j = (M.testBit j && !decide (z (10 + j) = 0)) := by
    rw [tb_dif hj, mk_tb, decide_eq_true hjk]
    unfold dueq
    rw [ha]
    rfl
  have e0 : (0 : Int32) = nI 0 := rfl
  have dz : z (10 + j) = 0 ↔ dv = 0 := by rw [d2, e0]; exact nI_eq (by omega) (by omega)
  have dp : ¬ 0 < z (10 + j) ↔ dv = 0 := by rw [d2, e0, nI_ltI (by omega) (by omega)]; omega
  have dpp : ¬ ¬ 0 < z (10 + j) + p j := by
    rw [d2, p3, nI_add, e0, nI_ltI (by omega) (by omega)]; omega
  have hE : z' (10 + j) = (if dv = 0 then nI pv else nI dv) - 1 := by
    rw [h10]
    unfold mD
    by_cases c : dv = 0
    · rw [if_pos ⟨ha, dz.2 c⟩, if_pos c, p3]
    · rw [if_neg (fun y => c (dz.1 y.2)), if_neg c, d2]
  have r10 : rg (z' (10 + j)) 12 := by
    rw [hE]
    by_cases c : dv = 0
    · rw [if_pos c]
      obtain ⟨q, rfl⟩ : ∃ q, pv = q + 1 := ⟨pv - 1, by omega⟩
      exact ⟨q, by omega, nI_pred q⟩
    · rw [if_neg c]
      obtain ⟨q, rfl⟩ : ∃ q, dv = q + 1 := ⟨dv - 1, by omega⟩
      exact ⟨q, by omega, nI_pred q⟩
  by_cases t : M.testBit j = true
  · have eE : oE M p z j = z (10 + j) + p j := if_pos t
    have eU : oU (h j) (z (4 + j)) (oE M p z j) (z (16 + j)) = z (4 + j) := by
      unfold oU; rw [eE, if_neg (fun y => dpp y.1)]
    have mUe : mU a M h z j = z (4 + j) := by
      unfold mU; rw [if_neg (fun y => by have := y.2.2.2; rw [t] at this; exact absurd this (by decide))]
    have mWe : mW a M z j = z (16 + j) := by
      unfold mW; rw [if_neg (fun y => by have := y.2.2.2; rw [t] at this; exact absurd this (by decide))]
    refine ⟨by rw [mUe, eU], by rw [h4, mUe, eU], ?_, ?_, by rw [eU]; exact hu, r10⟩
    · have eD : oD (p j) (oE M p z j) = z (10 + j) + p j := by unfold oD; rw [eE, if_neg dpp]
      rw [eD]
      unfold oE
      rw [em, t]
      have dcp : dc (z (10 + j) + p j) = z (10 + j) + p j - 1 := by
        unfold dc
        rw [if_neg (by rw [d2, p3, nI_add, e0, nI_leI (by omega) (by omega)]; omega)]
      rw [dcp]
      by_cases c : dv = 0
      · rw [decide_eq_true (dz.2 c), if_neg (by decide), hE, if_pos c, dz.2 c, Int32.zero_add, p3]
      · rw [decide_eq_false (fun y => c (dz.1 y)), if_pos (by decide), hE, if_neg c, d2, p3]
        obtain ⟨q, rfl⟩ : ∃ q, dv = q + 1 := ⟨dv - 1, by omega⟩
        rw [nI_pred, nI_add, nI_add, show q + 1 + pv = (q + pv) + 1 by omega, nI_pred]
    · rw [h16, mWe]
      unfold oW; rw [eE, if_neg (fun y => dpp y.1)]
  · have tf : M.testBit j = false := Bool.eq_false_iff.mpr t
    have eE : oE M p z j = z (10 + j) := if_neg t
    have eU : oU (h j) (z (4 + j)) (oE M p z j) (z (16 + j)) = mU a M h z j := by
      unfold oU mU
      rw [eE]
      by_cases c : ¬ 0 < z (10 + j) ∧ ¬ z (16 + j) ≤ 0
      · rw [if_pos c, if_pos ⟨ha, dz.2 (dp.1 c.1), c.2, tf⟩]
      · rw [if_neg c, if_neg (fun y => c ⟨dp.2 (dz.1 y.2.1), y.2.2.1⟩)]
    refine ⟨eU.symm, by rw [h4, eU], ?_, ?_, ?_, r10⟩
    · unfold oE
      rw [em, tf, Bool.false_and, if_neg (show ¬ (false : Bool) = true by decide), if_neg (show ¬ (false : Bool) = true by decide), hE]
      unfold oD
      by_cases c : dv = 0
      · rw [if_pos c, if_pos (dp.2 c), p3]
        unfold dc
        rw [if_neg (nI_nle (by omega) (by omega))]
      · rw [if_neg c, if_neg (fun y => c (dp.1 y)), d2]
        unfold dc
        rw [if_neg (nI_nle (by omega) (by omega))]
    · rw [h16]
      unfold oW mW
      rw [eE]
      by_cases c : ¬ 0 < z (10 + j) ∧ ¬ z (16 + j) ≤ 0
      · rw [if_pos c, if_pos ⟨ha, dz.2 (dp.1 c.1), c.2, tf⟩]
      · rw [if_neg c, if_neg (fun y => c ⟨dp.2 (dz.1 y.2.1), y.2.2.1⟩)]
    · unfold oU
      split
      · exact ⟨hv, v2, v3⟩
      · exact hu
theorem as_1 (hk : k ≤ 6) (hc : ∀ j, j < k → (∃ v, 2 ≤ v ∧ v ≤ 12 ∧ p j = nI v) ∧ ∃ v, 1 ≤ v ∧ v ≤ 4 ∧ h j = nI v) (m : Nat) (hm : m < 2 ^ 31) (e : Int32) (he : ∃ v, 2 ≤ v ∧ v ≤ 9 ∧ e = nI v) (a : Nat) (ha : a < 2 ^ k) : ∀ (n i M : Nat) (z : Nat → Int32), M < 64 → z 3 = nI a → z 1 = e → (∃ v, 1 ≤ v ∧ v ≤ 10 ∧ z 2 = nI v) → (∀ j, j < 6 → a.testBit j = true → rg (z (4 + j)) 4 ∧ rg (z (10 + j)) 12) → i ≤ m → m - i < n → ∃ z' M' b, L_X12_allStay_9 (nI k) p h (nI m) n z (nI M) (nI i) = some (z', M', nI m) ∧ z' 3 = nI b ∧ b < 64 ∧ (b = a ↔ ∀ j, j < k → a.testBit j = true → sol e (p j) (h j) (m - i) (z 2) (z (4 + j)) (oE M p z j) (z (16 + j)) = true) := by
  have h64 := p64 ha hk
  intro n
  induction n with
  | zero => intro i M z h1 h2 h3 h4 h5 h6 h7; omega
  | succ n ih =>
    intro i M z h1 h2 h3 h4 h5 h6 h7
    rw [L_X12_allStay_9_s]
    by_cases hi : i = m
    · subst hi
      rw [if_pos (nI_le (Nat.le_refl _) hm), Nat.sub_self]
      exact ⟨z, nI M, a, rfl, h2, h64, fun _ j _ _ => rfl, fun _ => rfl⟩
    · rw [if_neg (nI_ge (by omega) hm), a21 h64 hk h2]
      obtain ⟨z', q1, q2, q3, q4, q5, q6, q7⟩ := tick_m k a M hk ha h1 p h z h2
      simp only [zb2, Option.bind_some]
      rw [q1, bm_dif M h1 _ (mk_64 _ hk), nI_1]
      simp only [Option.bind_some]
      have hM' : M &&& (63 ^^^ mk (dueq a z) k) < 64 := Nat.lt_of_le_of_lt Nat.and_le_left h1
      obtain ⟨rv, r1, r2, r3⟩ := h4
      have hr : 0 < z 2 - 1 ↔ ¬ z 2 - 1 = 0 := by
        rw [r3]
        obtain ⟨v, rfl⟩ : ∃ v, rv = v + 1 := ⟨rv - 1, by omega⟩
        rw [nI_pred]
        exact (rg_lt (n := 10) (by omega) ⟨v, by omega, rfl⟩).1
      have em : m - i = (m - (i + 1)) + 1 := by omega
      have cont : mtrip k a (z 2) (mU a M h z) = 0 → (∀ j, j < k → a.testBit j = true → 0 < z 2 - 1 ∨ ¬ mU a M h z j ≤ 0) → ∃ z'' M'' b, L_X12_allStay_9 (nI k) p h (nI m) n z' (nI (M &&& (63 ^^^ mk (dueq a z) k))) (nI (i + 1)) = some (z'', M'', nI m) ∧ z'' 3 = nI b ∧ b < 64 ∧ (b = a ↔ ∀ j, j < k → a.testBit j = true → sol e (p j) (h j) (m - i) (z 2) (z (4 + j)) (oE M p z j) (z (16 + j)) = true) := by
        intro hT hno
        rw [hT, dif_0 h64] at q5 q7
        rw [hT] at q4
        have one := fun (j : Nat) (hj : j < 6) (hjk : j < k) (ta : a.testBit j = true) => one_t (p := p) (h := h) (k := k) (z' := z') (M := M) hj hjk ta (hc j hjk).1 (hc j hjk).2 (h5 j hj ta).1 (h5 j hj ta).2 (q7 j hj ta).1 (q7 j hj ta).2 (q6 j hj)
        obtain ⟨z2, M2, b, g1, g2, g3, g4⟩ := ih (i + 1) _ z' hM' q5 (by rw [q3, h3]) (by
          rw [q4]
          unfold mround
          by_cases c : z 2 - 1 = 0
          · rw [if_pos c, if_pos rfl, h3]
            obtain ⟨ev, e1, e2, e3⟩ := he
            exact ⟨ev, by omega, by omega, e3⟩
          · rw [if_neg c]
            rw [r3] at c ⊢
            obtain ⟨v, rfl⟩ : ∃ v, rv = v + 1 := ⟨rv - 1, by omega⟩
            rw [nI_pred] at c ⊢
            cases v with
            | zero => exact absurd rfl c
            | succ v => exact ⟨v + 1, by omega, by omega, rfl⟩) (fun j hj ta => by
          obtain ⟨a1, a2, a3, a4, a5, a6⟩ := one j hj (tb_lt ha ta) ta
          exact ⟨by rw [a2]; exact rg_dc (by omega) a5, a6⟩) (by omega) (by omega)
        refine ⟨z2, M2, b, g1, g2, g3, g4.trans ?_⟩
        have key : ∀ j, j < k → a.testBit j = true → sol e (p j) (h j) (m - i) (z 2) (z (4 + j)) (oE M p z j) (z (16 + j)) = sol e (p j) (h j) (m - (i + 1)) (z' 2) (z' (4 + j)) (oE (M &&& (63 ^^^ mk (dueq a z) k)) p z' j) (z' (16 + j)) := by
          intro j hjk ta
          obtain ⟨a1, a2, a3, a4, a5, a6⟩ := one j (by omega) hjk ta
          rw [em, sol_s, ← a2, ← a3, ← a4, q4]
          unfold mround
          by_cases c : z 2 - 1 = 0
          · rw [if_neg (fun y => hr.1 y c), if_pos c, if_pos rfl, h3, if_neg]
            rw [← a1]
            exact (hno j hjk ta).resolve_left (fun y => hr.1 y c)
          · rw [if_pos (hr.2 c), if_neg c]
        constructor
        · intro y j hjk ta
          rw [key j hjk ta]; exact y j hjk ta
        · intro y j hjk ta
          rw [← key j hjk ta]; exact y j hjk ta
      by_cases c : z 2 - 1 = 0
      · by_cases hT : mtrip k a (z 2) (mU a M h z) = 0
        · refine cont hT (fun j hjk ta => Or.inr (fun y => ?_))
          have rgU : rg (mU a M h z j) 4 := by
            unfold mU
            split
            · obtain ⟨_, v, v1, v2, v3⟩ := hc j hjk
              exact ⟨v, v2, v3⟩
            · exact (h5 j (by omega) ta).1
          have u0 := (rg_lt (by omega) rgU).2.1 y
          have : (mtrip k a (z 2) (mU a M h z)).testBit j = true := by
            unfold mtrip
            rw [if_pos c, mk_tb, decide_eq_true hjk]
            unfold tripq
            rw [ta, decide_eq_true u0]
            rfl
          rw [hT, Nat.zero_testBit] at this
          exact absurd this (by decide)
        · obtain ⟨z2, M2, b, g1, g2, g3, g4⟩ := as_0 (p := p) (h := h) hk m hm n (i + 1) _ _ z' (dif_lt ha) hM' q5 (by omega) (by omega)
          obtain ⟨j, hj, tj⟩ : ∃ j, j < 6 ∧ (mtrip k a (z 2) (mU a M h z)).testBit j = true := by
            apply Classical.byContradiction
            intro y
            apply hT
            apply mx_ext (mtrip_64 hk) (by decide)
            intro j hj
            rw [Nat.zero_testBit]
            exact Bool.eq_false_iff.mpr (fun x => y ⟨j, hj, x⟩)
          have tj' := tj
          unfold mtrip at tj'
          rw [if_pos c, mk_tb] at tj'
          obtain ⟨t1, t2⟩ := Bool.and_eq_true_iff.mp tj'
          have hjk := of_decide_eq_true t1
          unfold tripq at t2
          obtain ⟨ta, t3⟩ := Bool.and_eq_true_iff.mp t2
          have u0 := of_decide_eq_true t3
          refine ⟨z2, M2, b, g1, g2, g3, fun y => ?_, fun y => ?_⟩
          · rw [y] at g4
            have := g4 j hj ta
            rw [tb_dif hj, tj] at this
            rw [ta] at this
            exact absurd this (by decide)
          · have := y j hjk ta
            rw [em, sol_s, if_neg (fun x => hr.1 x c), if_pos] at this
            · exact absurd this (by decide)
            · have eU : oU (h j) (z (4 + j)) (oE M p z j) (z (16 + j)) = mU a M h z j := by
                by_cases t : M.testBit j = true
                · have dpp : ¬ ¬ 0 < oE M p z j := by
                    obtain ⟨dv, d1, d2⟩ := (h5 j hj ta).2
                    obtain ⟨⟨pv, p1, p2, p3⟩, _⟩ := hc j hjk
                    rw [show oE M p z j = z (10 + j) + p j from if_pos t, d2, p3, nI_add, show (0 : Int32) = nI 0 from rfl, nI_ltI (by omega) (by omega)]; omega
                  unfold oU mU
                  rw [if_neg (fun x => dpp x.1), if_neg (fun x => by have := x.2.2.2; rw [t] at this; exact absurd this (by decide))]
                · have tf : M.testBit j = false := Bool.eq_false_iff.mpr t
                  have dp : ¬ 0 < z (10 + j) ↔ z (10 + j) = 0 := by
                    rw [(rg_lt (by omega) (h5 j hj ta).2).1]; exact Decidable.not_not
                  unfold oU mU
                  rw [show oE M p z j = z (10 + j) from if_neg t]
                  by_cases g : ¬ 0 < z (10 + j) ∧ ¬ z (16 + j) ≤ 0
                  · rw [if_pos g, if_pos ⟨ta, dp.1 g.1, g.2, tf⟩]
                  · rw [if_neg g, if_neg (fun x => g ⟨dp.2 x.2.1, x.2.2.1⟩)]
              rw [eU, u0]
              exact Int32.le_refl _
      · refine cont ?_ (fun j _ _ => Or.inl (hr.2 c))
        unfold mtrip
        rw [if_neg c]
end ALL
