/-! odds: one alone, and all together as long as nobody trips -/
def oU (h u d w : Int32) : Int32 := if ¬ 0 < d ∧ ¬ w ≤ 0 then h else u
def oD (p d : Int32) : Int32 := if ¬ 0 < d then p else d
def oW (d w : Int32) : Int32 := if ¬ 0 < d ∧ ¬ w ≤ 0 then w - 1 else w
/-- whether one alone, missing nothing, is in behind n ticks -/
def sol (e p h : Int32) : Nat → Int32 → Int32 → Int32 → Int32 → Bool
  | 0, _, _, _, _ => true
  | n + 1, r, u, d, w => if 0 < r - 1 then sol e p h n (r - 1) (dc (oU h u d w)) (dc (oD p d)) (oW d w) else if oU h u d w ≤ 0 then false else sol e p h n e (dc (oU h u d w)) (dc (oD p d)) (oW d w)
theorem sol_s (e p h : Int32) (n : Nat) (r u d w : Int32) : sol e p h (n + 1) r u d w = if 0 < r - 1 then sol e p h n (r - 1) (dc (oU h u d w)) (dc (oD p d)) (oW d w) else if oU h u d w ≤ 0 then false else sol e p h n e (dc (oU h u d w)) (dc (oD p d)) (oW d w) := rfl
theorem pw64 {j : Nat} (h : j < 6) : 2 ^ j < 64 := by
  rcases (show j = 0 ∨ j = 1 ∨ j = 2 ∨ j = 3 ∨ j = 4 ∨ j = 5 by omega) with rfl | rfl | rfl | rfl | rfl | rfl <;> decide
theorem tb1 (i j : Nat) : (2 ^ i).testBit j = decide (i = j) := Nat.testBit_two_pow
theorem tb1s (j : Nat) : (2 ^ j).testBit j = true := by rw [tb1]; exact decide_eq_true rfl
theorem ct_1 {j : Nat} (hj : j < 6) (u : Nat → Int32) : 2 ^ j &&& (63 ^^^ mk (airq u) 6) = if u j ≤ 0 then 2 ^ j else 0 := by
  have h1 : 2 ^ j &&& (63 ^^^ mk (airq u) 6) < 64 := Nat.lt_of_le_of_lt Nat.and_le_left (pw64 hj)
  by_cases c : u j ≤ 0
  · rw [if_pos c]
    apply mx_ext h1 (pw64 hj)
    intro i hi
    rw [tb_dif hi, mk_tb, tb1]
    by_cases e : j = i
    · subst e
      rw [show airq u j = false from decide_eq_false (fun y => y c)]
      simp
    · rw [decide_eq_false e]; rfl
  · rw [if_neg c]
    apply mx_ext h1 (by decide)
    intro i hi
    rw [tb_dif hi, mk_tb, tb1, Nat.zero_testBit]
    by_cases e : j = i
    · subst e
      rw [show airq u j = true from decide_eq_true c, decide_eq_true hi]
      simp
    · rw [decide_eq_false e]; rfl
section SOLO
variable {k : Nat} {p h : Nat → Int32}
theorem po_0 (hk : k ≤ 6) (m : Nat) (hm : m < 2 ^ 31) (e : Int32) : ∀ (n i : Nat) (t r : Int32) (up due w : Nat → Int32), i ≤ m → m - i < n → ∃ t' r' up' due' w', L_X11_playOn_2 e (nI k) p h (nI m) n t r (nI 0) up due w (nI i) = some (t', r', nI 0, up', due', w', nI m) := by
  intro n
  induction n with
  | zero => intro i t r up due w h1 h2; omega
  | succ n ih =>
    intro i t r up due w h1 h2
    rw [L_X11_playOn_2_s]
    by_cases hi : i = m
    · subst hi
      rw [if_pos (nI_le (Nat.le_refl _) hm)]
      exact ⟨t, r, up, due, w, rfl⟩
    · rw [if_neg (nI_ge (by omega) hm)]
      obtain ⟨up', due', w', q1, q2, q3⟩ := step_c k 0 hk (Nat.two_pow_pos k) t e r up due w p h
      rw [q1, nI_1, Nat.zero_and]
      exact ih (i + 1) _ _ _ _ _ (by omega) (by omega)
theorem po_1 (hk : k ≤ 6) (m : Nat) (hm : m < 2 ^ 31) (e : Int32) {j : Nat} (hj : j < k) : ∀ (n i : Nat) (t r : Int32) (up due w : Nat → Int32), i ≤ m → m - i < n → ∃ t' r' up' due' w', L_X11_playOn_2 e (nI k) p h (nI m) n t r (nI (2 ^ j)) up due w (nI i) = some (t', r', nI (if sol e (p j) (h j) (m - i) r (up j) (due j) (w j) = true then 2 ^ j else 0), up', due', w', nI m) := by
  intro n
  induction n with
  | zero => intro i t r up due w h1 h2; omega
  | succ n ih =>
    intro i t r up due w h1 h2
    rw [L_X11_playOn_2_s]
    by_cases hi : i = m
    · subst hi
      rw [if_pos (nI_le (Nat.le_refl _) hm), Nat.sub_self]
      exact ⟨t, r, up, due, w, rfl⟩
    · rw [if_neg (nI_ge (by omega) hm)]
      have h6 : j < 6 := by omega
      have hlt : 2 ^ j < 2 ^ k := Nat.pow_lt_pow_right (by decide) hj
      obtain ⟨up', due', w', q1, q2, q3⟩ := step_c k (2 ^ j) hk hlt t e r up due w p h
      have eu : jU (2 ^ j) h up due w j = oU (h j) (up j) (due j) (w j) := by
        unfold jU oU
        by_cases c : ¬ 0 < due j ∧ ¬ w j ≤ 0
        · rw [if_pos ⟨tb1s j, c⟩, if_pos c]
        · rw [if_neg (fun y => c y.2), if_neg c]
      have ed : jD (2 ^ j) p due j = oD (p j) (due j) := by
        unfold jD oD
        by_cases c : ¬ 0 < due j
        · rw [if_pos ⟨tb1s j, c⟩, if_pos c]
        · rw [if_neg (fun y => c y.2), if_neg c]
      have ew : jW (2 ^ j) due w j = oW (due j) (w j) := by
        unfold jW oW
        by_cases c : ¬ 0 < due j ∧ ¬ w j ≤ 0
        · rw [if_pos ⟨tb1s j, c⟩, if_pos c]
        · rw [if_neg (fun y => c y.2), if_neg c]
      have g1 : up' j = dc (oU (h j) (up j) (due j) (w j)) := by rw [(q2 j h6).1, eu]
      have g2 : due' j = dc (oD (p j) (due j)) := by rw [(q2 j h6).2, ed]
      have g3 : w' j = oW (due j) (w j) := by rw [q3 j, ew]
      rw [q1, show m - i = (m - (i + 1)) + 1 by omega, sol_s, ← g1, ← g2, ← g3, nI_1]
      unfold ctrip nround
      by_cases c : 0 < r - 1
      · simp only [if_pos c]
        rw [dif_0 (pw64 h6)]
        exact ih (i + 1) _ _ _ _ _ (by omega) (by omega)
      · simp only [if_neg c]
        rw [ct_1 h6, eu]
        by_cases g : oU (h j) (up j) (due j) (w j) ≤ 0
        · simp only [if_pos g]
          rw [d0 (pw64 h6), if_neg (show ¬ (false : Bool) = true by decide)]
          exact po_0 hk m hm e n (i + 1) _ _ _ _ _ (by omega) (by omega)
        · simp only [if_neg g]
          rw [dif_0 (pw64 h6)]
          exact ih (i + 1) _ _ _ _ _ (by omega) (by omega)
theorem alone_c (hk : k ≤ 6) {m : Nat} (hm : m ≤ 120) {j : Nat} (hj : j < k) (t e r i : Int32) (up due w up0 due0 w0 : Nat → Int32) (d : Int32) : ∃ t' e' r' i' up' due' w', F_X11_staysAlone t e r i up due w up0 due0 w0 (nI k) p h (nI j) d (nI m) = some (if sol e (p j) (h j) m r (up j) (due j + d) (w j) = true then 1 else 0, t', e', r', i', up', due', w') := by
  obtain ⟨u1, d1, w1, b1, b2⟩ := bec t e r i up due w up0 due0 w0
  obtain ⟨c1, c2, c3⟩ := b2 j (by omega)
  obtain ⟨t', r', up', due', w', q⟩ := po_1 (p := p) (h := h) hk m (by omega) e hj 300 0 t r u1 (upd d1 j (d1 j + d)) w1 (by omega) (by omega)
  rw [Nat.sub_zero, pk_us, c1, c2, c3] at q
  have hsh : (1 : Int32) <<< (nI j &&& 31) = nI (2 ^ j) := by
    have := bm_or 0 (by decide) j (by omega)
    rw [Nat.zero_or] at this
    rw [← this, nI_0]
    exact (Int32.zero_or).symm
  unfold F_X11_staysAlone F_X11_playOn
  rw [b1]
  simp only [zb7, Option.bind_some]
  rw [if_neg (nI_in (by omega) (by omega)), nI_clamp (by omega), hsh, c2, show L_X11_playOn_2 e (nI k) p h (nI m) 300 t r (nI (2 ^ j)) u1 (upd d1 j (due j + d)) w1 0 = _ from q]
  simp only [zb6, Option.bind_some]
  by_cases c : sol e (p j) (h j) m r (up j) (due j + d) (w j) = true
  · rw [if_pos c, if_pos c, bm_holds _ (pw64 (show j < 6 by omega)) j (by omega), tb1s, if_pos (show (true : Bool) = true from rfl)]
    simp only [zb1, Option.bind_some]
    rw [if_neg (show ¬ ¬ ((1 : Int32) = 0 ∨ True) from fun y => y (Or.inr trivial))]
    exact ⟨_, _, _, _, _, _, _, rfl⟩
  · rw [if_neg c, if_neg c, bm_holds 0 (by decide) j (by omega), Nat.zero_testBit, if_neg (show ¬ (false : Bool) = true by decide)]
    simp only [zb1, Option.bind_some]
    rw [if_neg (show ¬ ¬ (True ∨ (0 : Int32) = 1) from fun y => y (Or.inl trivial))]
    exact ⟨_, _, _, _, _, _, _, rfl⟩
/-- in how many of ten cases one stays -/
def oQ (e r : Int32) (p h up due w : Nat → Int32) (m : Nat) (j : Nat) (b : Bool) : Bool := sol e (p j) (h j) m r (up j) (if b = true then due j + p j else due j) (w j)
def oT (s1 s0 : Bool) (x : Nat) : Nat := (if s1 = true then x else 0) + if s0 = true then 10 - x else 0
theorem tenths_c (hk : k ≤ 6) {m x : Nat} (hm : m ≤ 120) (hx : x ≤ 10) {j : Nat} (hj : j < k) (t e r i : Int32) (up due w up0 due0 w0 : Nat → Int32) : ∃ t' e' r' i' up' due' w', F_X11_tenthsThatStay t e r i up due w up0 due0 w0 (nI k) p h (nI j) (nI x) (nI m) = some (nI (oT (oQ e r p h up due w m j true) (oQ e r p h up due w m j false) x), t', e', r', i', up', due', w') := by
  obtain ⟨t1, e1, r1, i1, u1, d1, w1, q1⟩ := alone_c (p := p) (h := h) hk hm hj t e r i up due w up0 due0 w0 0
  obtain ⟨t2, e2, r2, i2, u2, d2, w2, q2⟩ := alone_c (p := p) (h := h) hk hm hj t e r i up due w u1 d1 w1 (p j)
  have z0 : due j + 0 = due j := Int32.add_zero _
  have e10 : (10 : Int32) - nI x = nI (10 - x) := pk_sub (a := 10) hx
  rw [z0] at q1
  unfold F_X11_tenthsThatStay
  rw [q1]
  simp only [zb8, Option.bind_some]
  rw [if_neg (nI_in (show j < 6 by omega) (by omega)), if_neg (nI_in (show j < 6 by omega) (by omega)), nI_clamp (show j < 2 ^ 31 by omega), q2]
  simp only [Option.bind_some]
  unfold oQ oT
  rw [if_pos (show (true : Bool) = true from rfl), if_neg (show ¬ (false : Bool) = true by decide), e10]
  by_cases c0 : sol e (p j) (h j) m r (up j) (due j) (w j) = true
  · rw [if_pos c0, if_pos c0, if_neg n10]
    by_cases c1 : sol e (p j) (h j) m r (up j) (due j + p j) (w j) = true
    · rw [if_pos c1, if_pos c1, if_neg n10]
      rw [show (0 : Int32) + nI (10 - x) + nI x = nI (x + (10 - x)) from by rw [Int32.zero_add, nI_add, Nat.add_comm]]
      exact ⟨_, _, _, _, _, _, _, rfl⟩
    · rw [if_neg c1, if_neg c1, if_pos rfl]
      rw [show (0 : Int32) + nI (10 - x) = nI (0 + (10 - x)) from by rw [Int32.zero_add, Nat.zero_add]]
      exact ⟨_, _, _, _, _, _, _, rfl⟩
  · rw [if_neg c0, if_neg c0, if_pos rfl]
    by_cases c1 : sol e (p j) (h j) m r (up j) (due j + p j) (w j) = true
    · rw [if_pos c1, if_pos c1, if_neg n10]
      rw [show (0 : Int32) + nI x = nI (x + 0) from by rw [Int32.zero_add, Nat.add_zero]]
      exact ⟨_, _, _, _, _, _, _, rfl⟩
    · rw [if_neg c1, if_neg c1, if_pos rfl]
      exact ⟨_, _, _, _, _, _, _, rfl⟩
end SOLO
