/-! with nobody in the yard: a tick trips nobody -/
theorem zand0 (x : Int32) : 0 &&& x = 0 := by simp
theorem zle6 {k : Nat} (h : k < 6) : ¬ (6 : Int32) ≤ nI k := by
  show ¬ nI 6 ≤ nI k
  rw [nI_leI (by omega) (by omega)]
  omega
theorem ja0 (i : Int32) (up due w p h : Nat → Int32) : F_X8_jumpAll i up due w 0 p h = some (up, due, w) := rfl
theorem pa0 : ∀ (n k : Nat) (up due : Nat → Int32), k ≤ 6 → 6 - k < n → ∃ up' due', L_X8_pass_12 n up due (nI k) = some (up', due', 6) := by
  intro n
  induction n with
  | zero => intro k up due h1 h2; omega
  | succ n ih =>
    intro k up due h1 h2
    rw [L_X8_pass_12_s]
    by_cases hk : k = 6
    · subst hk
      exact ⟨up, due, by rw [if_pos (by decide)]; rfl⟩
    · rw [if_neg (zle6 (by omega)), if_neg (nI_in (by omega) (by omega)), nI_1]
      split <;> split <;> exact ih (k + 1) _ _ (by omega) (by omega)
theorem pass0 (t : Int32) (up due : Nat → Int32) : ∃ up' due', F_X8_pass t up due = some (t + 1, up', due') := by
  obtain ⟨up', due', h⟩ := pa0 300 0 up due (by omega) (by omega)
  refine ⟨up', due', ?_⟩
  unfold F_X8_pass
  rw [show (0 : Int32) = nI 0 from rfl, h]
  rfl
theorem ai0 (up : Nat → Int32) : ∀ (n k : Nat) (v : Int32), k ≤ 6 → 6 - k < n → ∃ r, L_X8_airborne_4 up n v (nI k) = some (r, 6) := by
  intro n
  induction n with
  | zero => intro k v h1 h2; omega
  | succ n ih =>
    intro k v h1 h2
    rw [L_X8_airborne_4_s]
    by_cases hk : k = 6
    · subst hk
      exact ⟨v, by rw [if_pos (by decide)]; rfl⟩
    · rw [if_neg (zle6 (by omega)), if_neg (nI_in (by omega) (by omega)), nI_1]
      split <;> exact ih (k + 1) _ (by omega) (by omega)
theorem air0 (up : Nat → Int32) : ∃ r, F_X8_airborne up = some r := by
  obtain ⟨r, h⟩ := ai0 up 300 0 0 (by omega) (by omega)
  refine ⟨r, ?_⟩
  unfold F_X8_airborne
  rw [show L_X8_airborne_4 up 300 0 0 = some (r, 6) from h]
  rfl
theorem step0 (t e r : Int32) (up due w p h : Nat → Int32) : ∃ t' r' up' due', F_X8_step t e r 0 up due w 0 p h = some (0, t', r', 0, up', due', w) := by
  obtain ⟨up', due', hp⟩ := pass0 t up due
  obtain ⟨a, ha⟩ := air0 up
  unfold F_X8_step
  rw [ja0]
  by_cases c : 0 < r - 1
  · refine ⟨t + 1, r - 1, up', due', ?_⟩
    simp only [zb3, Option.bind_some, if_pos c, hp]
  · refine ⟨t + 1, e, up', due', ?_⟩
    simp only [zb3, zb1, Option.bind_some, if_neg c, ha, hp, zand0, if_true]
theorem po0 (e : Int32) (p h w : Nat → Int32) (k : Nat) (hk : k < 2 ^ 31) : ∀ (n i : Nat) (t r : Int32) (up due : Nat → Int32), i ≤ k → k - i < n → ∃ t' r' up' due', L_X11_playOn_2 e 0 p h (nI k) n t r 0 up due w (nI i) = some (t', r', 0, up', due', w, nI k) := by
  intro n
  induction n with
  | zero => intro i t r up due h1 h2; omega
  | succ n ih =>
    intro i t r up due h1 h2
    rw [L_X11_playOn_2_s]
    by_cases hi : i = k
    · subst hi
      exact ⟨t, r, up, due, by rw [if_pos (nI_le (Nat.le_refl _) hk)]⟩
    · obtain ⟨t', r', up', due', hs⟩ := step0 t e r up due w p h
      rw [if_neg (nI_ge (by omega) hk), hs, nI_1]
      exact ih (i + 1) t' r' up' due' (by omega) (by omega)
theorem playOn0 (t e r : Int32) (up due w p h : Nat → Int32) (k : Nat) (hk : k ≤ 120) : ∃ t' r' up' due', F_X11_playOn t e r 0 up due w 0 p h (nI k) = some (t', r', 0, up', due', w) := by
  obtain ⟨t', r', up', due', hl⟩ := po0 e p h w k (by omega) 300 0 t r up due (by omega) (by omega)
  refine ⟨t', r', up', due', ?_⟩
  unfold F_X11_playOn
  rw [show L_X11_playOn_2 e 0 p h (nI k) 300 t r 0 up due w 0 = some (t', r', 0, up', due', w, nI k) from hl]
  rfl
theorem bringL (fn tn : Nat) (hfn : fn < 2 ^ 30) (htn : tn < 2 ^ 30) (f : Nat → Int32) (a b m : Nat) (ha : a + m ≤ fn) (hb : b + m ≤ tn) : ∀ (n k : Nat) (t : Nat → Int32), k ≤ m → m - k < n → ∃ t', L_X12_bring_3 fn f tn (nI a) (nI b) (nI m) n t (nI k) = some (t', nI m) ∧ (∀ j, k ≤ j → j < m → t' (b + j) = f (a + j)) ∧ ∀ j, (j < b + k ∨ b + m ≤ j) → t' j = t j := by
  intro n
  induction n with
  | zero => intro k t h1 h2; omega
  | succ n ih =>
    intro k t h1 h2
    rw [L_X12_bring_3_s]
    by_cases hk : k = m
    · subst hk
      exact ⟨t, by rw [if_pos (nI_le (Nat.le_refl _) (by omega))], fun j h1 h2 => by omega, fun j _ => rfl⟩
    · rw [if_neg (nI_ge (by omega) (by omega)), nI_add, nI_add, if_neg (nI_in (by omega) (by omega)), if_neg (nI_in (by omega) (by omega)), nI_1, nI_clamp (by omega), nI_clamp (by omega)]
      obtain ⟨t', e1, e2, e3⟩ := ih (k + 1) (upd t (b + k) (f (a + k))) (by omega) (by omega)
      refine ⟨t', e1, fun j h3 h4 => ?_, fun j hj => ?_⟩
      · by_cases hjk : j = k
        · subst hjk
          rw [e3 (b + j) (Or.inl (by omega)), pk_us]
        · exact e2 j (by omega) h4
      · rw [e3 j (by omega), pk_un (by omega)]
theorem bring0 (fn tn : Nat) (hfn : fn < 2 ^ 30) (htn : tn < 2 ^ 30) (f t : Nat → Int32) (a b m : Nat) (ha : a + m ≤ fn) (hb : b + m ≤ tn) (hm : m < 300) : ∃ t', F_X12_bring fn f tn t (nI a) (nI b) (nI m) = some t' ∧ (∀ j, j < m → t' (b + j) = f (a + j)) ∧ ∀ j, (j < b ∨ b + m ≤ j) → t' j = t j := by
  obtain ⟨t', e1, e2, e3⟩ := bringL fn tn hfn htn f a b m ha hb 300 0 t (by omega) (by omega)
  refine ⟨t', ?_, fun j hj => e2 j (by omega) hj, fun j hj => e3 j (by omega)⟩
  unfold F_X12_bring
  rw [show L_X12_bring_3 fn f tn (nI a) (nI b) (nI m) 300 t 0 = some (t', nI m) from e1]
  rfl
theorem asit (st now : Nat → Int32) : ∃ now', F_X12_asItIs st now = some now' ∧ ∀ j, j < 22 → now' j = st j := by
  obtain ⟨t', e1, e2, e3⟩ := bring0 22 22 (by omega) (by omega) st now 0 0 22 (by omega) (by omega) (by omega)
  refine ⟨t', ?_, fun j hj => by have := e2 j hj; simpa using this⟩
  unfold F_X12_asItIs
  rw [show F_X12_bring 22 st 22 now 0 0 22 = some t' from e1]
  rfl
theorem tick0 (p h z : Nat → Int32) (m : Int32) : ∃ z', F_X12_tickOn 0 p h z m = some (0, z') ∧ z' 3 = z 3 := by
  have e5 : L_X12_tickOn_5 0 p h m 300 z 0 = some (z, 0) := rfl
  have e60 : ∀ y, L_X12_tickOn_60 0 y 300 0 0 = some (0, 0) := fun y => rfl
  have e125 : ∀ v y, L_X12_tickOn_125 0 v 300 y 0 = some (y, 0) := fun v y => rfl
  unfold F_X12_tickOn
  simp only [e5, e60, e125, zb2, Option.bind_some]
  split
  · exact ⟨_, rfl, rfl⟩
  · exact ⟨_, rfl, rfl⟩
theorem go0 (p h : Nat → Int32) (k : Nat) (hk : k < 2 ^ 31) : ∀ (n i : Nat) (z : Nat → Int32), i ≤ k → k - i < n → ∃ z', L_X12_goesOn_2 0 p h (nI k) n z (nI i) = some (z', nI k) ∧ z' 3 = z 3 := by
  intro n
  induction n with
  | zero => intro i z h1 h2; omega
  | succ n ih =>
    intro i z h1 h2
    rw [L_X12_goesOn_2_s]
    by_cases hi : i = k
    · subst hi
      exact ⟨z, by rw [if_pos (nI_le (Nat.le_refl _) hk)], rfl⟩
    · obtain ⟨z1, hs, hz⟩ := tick0 p h z 0
      rw [if_neg (nI_ge (by omega) hk), hs, nI_1]
      obtain ⟨z', e1, e2⟩ := ih (i + 1) z1 (by omega) (by omega)
      exact ⟨z', e1, by rw [e2, hz]⟩
theorem goesOn0 (p h z : Nat → Int32) (k : Nat) (hk : k ≤ 120) : ∃ z', F_X12_goesOn 0 p h z (nI k) = some z' ∧ z' 3 = z 3 := by
  obtain ⟨z', e1, e2⟩ := go0 p h k (by omega) 300 0 z (by omega) (by omega)
  refine ⟨z', ?_, e2⟩
  unfold F_X12_goesOn
  rw [show L_X12_goesOn_2 0 p h (nI k) 300 z 0 = some (z', nI k) from e1]
  rfl
theorem zst3 : zst 3 = 0 := rfl
theorem al0 (p h : Nat → Int32) (k : Nat) (hk : k < 2 ^ 31) : ∀ (n i : Nat) (z : Nat → Int32) (v : Int32), i ≤ k → k - i < n → ∃ z' v', L_X12_allStay_9 0 p h (nI k) n z v (nI i) = some (z', v', nI k) ∧ z' 3 = z 3 := by
  intro n
  induction n with
  | zero => intro i z v h1 h2; omega
  | succ n ih =>
    intro i z v h1 h2
    rw [L_X12_allStay_9_s]
    by_cases hi : i = k
    · subst hi
      exact ⟨z, v, by rw [if_pos (nI_le (Nat.le_refl _) hk)], rfl⟩
    · obtain ⟨z1, hs, hz⟩ := tick0 p h z v
      have e21 : L_X12_allStay_21 0 z 300 0 0 = some (0, 0) := rfl
      rw [if_neg (nI_ge (by omega) hk), e21]
      simp only [zb2, Option.bind_some, hs, nI_1]
      obtain ⟨z', v', e1, e2⟩ := ih (i + 1) z1 (v &&& (0 ^^^ (-1))) (by omega) (by omega)
      exact ⟨z', v', e1, by rw [e2, hz]⟩
theorem allStay0 (p h now : Nat → Int32) (v : Int32) (k : Nat) (hk : k ≤ 60) : ∃ now', F_X12_allStay 0 p h zst now v (nI k) = some (1, now') := by
  obtain ⟨n1, a1, a2⟩ := asit zst now
  obtain ⟨z', v', e1, e2⟩ := al0 p h k (by omega) 300 0 n1 v (by omega) (by omega)
  refine ⟨z', ?_⟩
  unfold F_X12_allStay
  rw [a1]
  have e1' : L_X12_allStay_9 0 p h (nI k) 300 n1 v 0 = some (z', v', nI k) := e1
  simp only [zb1, zb3, Option.bind_some, e1']
  rw [if_pos]
  show z' 3 = zst 3
  rw [e2, a2 3 (by omega)]
