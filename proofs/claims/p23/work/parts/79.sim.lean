/-! both scenes, tick by tick -/
def rg (x : Int32) (n : Nat) : Prop := ∃ v, v ≤ n ∧ x = nI v
def CR (k : Nat) (p h p' h' : Nat → Int32) : Prop := ∀ j, j < k → p j = p' j ∧ h j = h' j ∧ (∃ v, 2 ≤ v ∧ v ≤ 12 ∧ p j = nI v) ∧ (∃ v, 1 ≤ v ∧ v ≤ 4 ∧ h j = nI v)
def SR (k a : Nat) (t e r : Int32) (up due w z : Nat → Int32) : Prop :=
  a < 2 ^ k ∧ z 3 = nI a ∧ t = z 0 ∧ e = z 1 ∧ r = z 2 ∧ (∃ v, 2 ≤ v ∧ v ≤ 9 ∧ e = nI v) ∧ (∃ v, 1 ≤ v ∧ v ≤ 10 ∧ r = nI v) ∧ (∀ j, j < k → w j = z (16 + j)) ∧ ∀ j, j < 6 → a.testBit j = true → up j = z (4 + j) ∧ due j = z (10 + j) ∧ rg (up j) 4 ∧ rg (due j) 12
theorem rg_lt {x : Int32} {n : Nat} (hn : n < 2 ^ 31) (h : rg x n) : (0 < x ↔ ¬ x = 0) ∧ (x ≤ 0 ↔ x = 0) := by
  obtain ⟨v, h1, rfl⟩ := h
  have e0 : (0 : Int32) = nI 0 := rfl
  rw [e0, nI_ltI (by omega) (by omega), nI_leI (by omega) (by omega), nI_eq (by omega) (by omega)]
  omega
theorem rg_dc {x : Int32} {n : Nat} (hn : n < 2 ^ 31) (h : rg x n) : rg (dc x) n := by
  unfold dc
  by_cases c : x ≤ 0
  · rw [if_pos c]; exact h
  · rw [if_neg c]
    obtain ⟨v, h1, rfl⟩ := h
    cases v with
    | zero => exact absurd (show nI 0 ≤ 0 by decide) c
    | succ v => exact ⟨v, by omega, nI_pred v⟩
theorem ph_eq {k a : Nat} {t e r : Int32} {up due w z p h p' h' : Nat → Int32} (hC : CR k p h p' h') (hS : SR k a t e r up due w z) {j : Nat} (hj : j < 6) (hk : j < k) : jW a due w j = mW a 0 z j ∧ (a.testBit j = true → jU a h up due w j = mU a 0 h' z j ∧ jD a p due j = mD a p' z j ∧ rg (jU a h up due w j) 4 ∧ rg (jD a p due j) 12 ∧ ¬ jD a p due j ≤ 0) := by
  obtain ⟨s1, s2, s3, s4, s5, s6, s7, s8, s9⟩ := hS
  obtain ⟨c1, c2, ⟨pv, p1, p2, p3⟩, ⟨hv, h1, h2, h3⟩⟩ := hC j hk
  have ew := s8 j hk
  by_cases t : a.testBit j = true
  · obtain ⟨u1, u2, u3, u4⟩ := s9 j hj t
    have ed : ¬ 0 < due j ↔ z (10 + j) = 0 := by
      rw [(rg_lt (by omega) u4).1, u2]
      exact Decidable.not_not
    have z0 : (0 : Nat).testBit j = false := Nat.zero_testBit j
    unfold jW mW jU mU jD mD
    by_cases d : z (10 + j) = 0
    · by_cases v : w j ≤ 0
      · rw [if_neg (fun y => y.2.2 v), if_neg (fun y => y.2.2.1 (by rw [← ew]; exact v)), if_neg (fun y => y.2.2 v), if_neg (fun y => y.2.2.1 (by rw [← ew]; exact v)), if_pos ⟨t, ed.2 d⟩, if_pos ⟨t, d⟩]
        refine ⟨ew, fun _ => ⟨u1, c1, u3, ⟨pv, p2, p3⟩, ?_⟩⟩
        rw [p3]; exact nI_nle (by omega) (by omega)
      · rw [if_pos ⟨t, ed.2 d, v⟩, if_pos ⟨t, d, by rw [← ew]; exact v, z0⟩, if_pos ⟨t, ed.2 d, v⟩, if_pos ⟨t, d, by rw [← ew]; exact v, z0⟩, if_pos ⟨t, ed.2 d⟩, if_pos ⟨t, d⟩]
        refine ⟨by rw [ew], fun _ => ⟨c2, c1, ⟨hv, h2, h3⟩, ⟨pv, p2, p3⟩, ?_⟩⟩
        rw [p3]; exact nI_nle (by omega) (by omega)
    · rw [if_neg (fun y => d (ed.1 y.2.1)), if_neg (fun y => d y.2.1), if_neg (fun y => d (ed.1 y.2.1)), if_neg (fun y => d y.2.1), if_neg (fun y => d (ed.1 y.2)), if_neg (fun y => d y.2)]
      refine ⟨ew, fun _ => ⟨u1, u2, u3, u4, ?_⟩⟩
      rw [(rg_lt (by omega) u4).2, u2]; exact d
  · refine ⟨?_, fun y => absurd y t⟩
    unfold jW mW
    rw [if_neg (fun y => t y.1), if_neg (fun y => t y.1)]
    exact ew
theorem tick_sim {k a : Nat} {t e r : Int32} {up due w z p h p' h' : Nat → Int32} (hk : k ≤ 6) (hC : CR k p h p' h') (hS : SR k a t e r up due w z) : ∃ c r' up' due' w' z', c < 64 ∧ (∀ j, j < 6 → c.testBit j = true → a.testBit j = true) ∧ F_X8_step t e r (nI a) up due w (nI k) p h = some (nI c, t + 1, r', nI (a &&& (63 ^^^ c)), up', due', w') ∧ F_X12_tickOn (nI k) p' h' z 0 = some (nI c, z') ∧ SR k (a &&& (63 ^^^ c)) (t + 1) e r' up' due' w' z' := by
  have hS' := hS
  obtain ⟨s1, s2, s3, s4, s5, s6, ⟨rv, r1, r2, r3⟩, s8, s9⟩ := hS'
  have h64 := p64 s1 hk
  obtain ⟨up', due', w', C1, C2, C3⟩ := step_c k a hk s1 t e r up due w p h
  obtain ⟨z', M1, M2, M3, M4, M5, M6, M7⟩ := tick_m k a 0 hk s1 (by decide) p' h' z s2
  have hr : 0 < r - 1 ↔ ¬ r - 1 = 0 := by
    rw [r3]
    obtain ⟨v, rfl⟩ : ∃ v, rv = v + 1 := ⟨rv - 1, by omega⟩
    rw [nI_pred]
    exact (rg_lt (n := 10) (by omega) ⟨v, by omega, rfl⟩).1
  have ec : ctrip a r (jU a h up due w) = mtrip k a (z 2) (mU a 0 h' z) := by
    unfold ctrip mtrip
    rw [← s5]
    by_cases c : r - 1 = 0
    · rw [if_pos c, if_neg (fun y => hr.1 y c)]
      apply mx_ext (Nat.lt_of_le_of_lt Nat.and_le_left h64) (mk_64 _ hk)
      intro j hj
      rw [tb_dif hj, mk_tb, mk_tb, decide_eq_true hj, Bool.true_and]
      cases tb : a.testBit j with
      | false => unfold tripq; rw [tb]; simp
      | true =>
        have hjk := tb_lt s1 tb
        obtain ⟨e1, e2, e3, e4, e5⟩ := (ph_eq hC hS hj hjk).2 tb
        rw [decide_eq_true hjk]
        unfold tripq airq
        rw [tb, ← e1]
        have := (rg_lt (by omega) e3).2
        by_cases q : jU a h up due w j = 0
        · rw [decide_eq_true q, decide_eq_false (fun y => y (this.2 q))]; rfl
        · rw [decide_eq_false q, decide_eq_true (p := ¬ jU a h up due w j ≤ 0) (fun y => q (this.1 y))]; rfl
    · rw [if_neg c, if_pos (hr.2 c)]
  rw [ec] at C1
  rw [← ec] at M7 C1 M1 M4 M5
  have hc64 := ctrip_64 h64 (r := r) (u := jU a h up due w)
  have hsub : ∀ j, j < 6 → (ctrip a r (jU a h up due w)).testBit j = true → a.testBit j = true := by
    intro j hj
    unfold ctrip
    split
    · rw [Nat.zero_testBit]; intro y; exact absurd y (by decide)
    · rw [tb_dif hj]; intro y; exact (Bool.and_eq_true_iff.mp y).1
  generalize ctrip a r (jU a h up due w) = c at C1 M7 M1 M4 M5 hc64 hsub
  refine ⟨c, _, up', due', w', z', hc64, hsub, C1, M1, dif_lt s1, M5, ?_, ?_, ?_, s6, ?_, fun j hj => ?_, fun j hj tb => ?_⟩
  · rw [M2, s3]
  · rw [M3, s4]
  · rw [M4, ← s5, ← s4]
    unfold nround mround
    by_cases q : r - 1 = 0
    · rw [if_pos q, if_neg (fun y => hr.1 y q)]
    · rw [if_neg q, if_pos (hr.2 q)]
  · obtain ⟨ev, e1, e2, e3⟩ := s6
    unfold nround
    by_cases q : r - 1 = 0
    · rw [if_neg (fun y => hr.1 y q)]
      split
      · exact ⟨ev, by omega, by omega, e3⟩
      · exact ⟨ev + 1, by omega, by omega, by rw [e3]; exact nI_1 ev⟩
    · rw [if_pos (hr.2 q)]
      rw [r3] at q ⊢
      obtain ⟨v, rfl⟩ : ∃ v, rv = v + 1 := ⟨rv - 1, by omega⟩
      rw [nI_pred] at q ⊢
      cases v with
      | zero => exact absurd rfl q
      | succ v => exact ⟨v + 1, by omega, by omega, rfl⟩
  · rw [C3 j, M6 j (by omega), (ph_eq hC hS (show j < 6 by omega) hj).1]
  · have tb' := tb
    rw [tb_dif hj] at tb'
    have ta := (Bool.and_eq_true_iff.mp tb').1
    obtain ⟨e1, e2, e3, e4, e5⟩ := (ph_eq hC hS hj (tb_lt s1 ta)).2 ta
    obtain ⟨a1, a2⟩ := C2 j hj
    obtain ⟨b1, b2⟩ := M7 j hj tb
    rw [a1, a2, b1, b2, ← e1, ← e2]
    refine ⟨rfl, ?_, rg_dc (by omega) e3, rg_dc (by omega) e4⟩
    unfold dc
    rw [if_neg e5]
