/-! sets of jumpers: masks below 64 -/
theorem bm_or : ∀ a, a < 64 → ∀ j, j < 6 → nI a ||| ((1 : Int32) <<< (nI j &&& 31)) = nI (a ||| 2 ^ j) := by decide +kernel
theorem bm_or0 : ∀ a, a < 64 → nI a ||| 0 = nI a := by decide +kernel
theorem bm_dif : ∀ a, a < 64 → ∀ b, b < 64 → nI a &&& (nI b ^^^ (-1)) = nI (a &&& (63 ^^^ b)) := by decide +kernel
theorem bm_out : ∀ a, a < 64 → ∀ j, j < 6 → nI a &&& (((1 : Int32) <<< (nI j &&& 31)) ^^^ (-1)) = nI (a &&& (63 ^^^ 2 ^ j)) := by decide +kernel
theorem bm_has : ∀ a, a < 64 → ∀ j, j < 6 → F_X12_has (nI a) (nI j) = some (if a.testBit j then 1 else 0) := by decide +kernel
theorem bm_holds : ∀ a, a < 64 → ∀ j, j < 6 → F_X8_holds (nI a) (nI j) = some (if a.testBit j then 1 else 0) := by decide +kernel
theorem bm_cnt : ∀ a, a < 64 → ∃ n, n ≤ 6 ∧ F_J6_bitCount_0f7a4 (nI a) = some (nI n) ∧ F_X12_bits (nI a) = some (nI n) := by decide +kernel
theorem bm_all : ∀ k, k < 7 → ((1 : Int32) <<< (nI k &&& 31)) - 1 = nI (2 ^ k - 1) := by decide +kernel
theorem tb63 : ∀ j, j < 6 → (63 : Nat).testBit j = true := by decide
theorem tb_dif {a b j : Nat} (hj : j < 6) : (a &&& (63 ^^^ b)).testBit j = (a.testBit j && !b.testBit j) := by
  rw [Nat.testBit_and, Nat.testBit_xor, tb63 j hj]
  cases b.testBit j <;> rfl
theorem dif_lt {a b n : Nat} (h : a < 2 ^ n) : a &&& (63 ^^^ b) < 2 ^ n := Nat.lt_of_le_of_lt Nat.and_le_left h
theorem tb_lt {a k j : Nat} (h : a < 2 ^ k) (hj : a.testBit j = true) : j < k := by
  apply Nat.lt_of_not_le
  intro hk
  rw [Nat.testBit_lt_two_pow (Nat.lt_of_lt_of_le h (Nat.pow_le_pow_right (by decide) hk))] at hj
  exact absurd hj (by decide)
theorem p64 {a k : Nat} (h : a < 2 ^ k) (hk : k ≤ 6) : a < 64 := Nat.lt_of_lt_of_le h (show 2 ^ k ≤ 2 ^ 6 from Nat.pow_le_pow_right (by decide) hk)
theorem mx_ext {a b : Nat} (ha : a < 64) (hb : b < 64) (h : ∀ j, j < 6 → a.testBit j = b.testBit j) : a = b := by
  apply Nat.eq_of_testBit_eq
  intro j
  by_cases hj : j < 6
  · exact h j hj
  · have h2 : 2 ^ 6 ≤ 2 ^ j := Nat.pow_le_pow_right (by decide) (by omega)
    rw [Nat.testBit_lt_two_pow (Nat.lt_of_lt_of_le ha h2), Nat.testBit_lt_two_pow (Nat.lt_of_lt_of_le hb h2)]
/-- the mask of those below n of whom q holds -/
def mk (q : Nat → Bool) : Nat → Nat
  | 0 => 0
  | n + 1 => if q n = true then mk q n ||| 2 ^ n else mk q n
theorem mk_lt (q : Nat → Bool) : ∀ n, mk q n < 2 ^ n
  | 0 => Nat.one_pos
  | n + 1 => by
    have h := mk_lt q n
    have h1 : 2 ^ n < 2 ^ (n + 1) := Nat.pow_lt_pow_right (by decide) (by omega)
    unfold mk
    split
    · exact Nat.or_lt_two_pow (Nat.lt_trans h h1) h1
    · exact Nat.lt_trans h h1
theorem mk_tb (q : Nat → Bool) : ∀ n j, (mk q n).testBit j = (decide (j < n) && q j)
  | 0, j => by
    show (0 : Nat).testBit j = _
    rw [Nat.zero_testBit]
    simp
  | n + 1, j => by
    unfold mk
    by_cases hq : q n = true
    · rw [if_pos hq, Nat.testBit_or, mk_tb q n j, Nat.testBit_two_pow]
      by_cases e : n = j
      · subst e; simp [hq]
      · have : decide (j < n) = decide (j < n + 1) := by
          apply decide_eq_decide.mpr; omega
        rw [this]
        simp [e]
    · rw [if_neg hq, mk_tb q n j]
      by_cases e : n = j
      · subst e; simp [hq]
      · have : decide (j < n) = decide (j < n + 1) := by
          apply decide_eq_decide.mpr; omega
        rw [this]
theorem mk_64 (q : Nat → Bool) {n : Nat} (h : n ≤ 6) : mk q n < 64 := p64 (mk_lt q n) h
theorem mk_s {q : Nat → Bool} {n : Nat} (h : q n = true) : mk q (n + 1) = mk q n ||| 2 ^ n := if_pos h
theorem mk_n {q : Nat → Bool} {n : Nat} (h : ¬ q n = true) : mk q (n + 1) = mk q n := if_neg h
theorem mz {a : Nat} (h : a < 64) : nI a = 0 ↔ a = 0 := nI_eq (b := 0) (by omega) (by omega)
theorem dif_0 {a : Nat} (h : a < 64) : a &&& (63 ^^^ 0) = a := by
  apply mx_ext (Nat.lt_of_le_of_lt Nat.and_le_left h) h
  intro j hj
  rw [tb_dif hj, Nat.zero_testBit]
  simp
