/-! reading the text, in places: blanks, runs of figures -/
def isd (c : Int32) : Prop := ¬ c < 48 ∧ ¬ 57 < c
theorem isd_dec (c : Int32) : isd c ∨ ¬ isd c := Classical.em _
def spf (l : Nat → Int32) : Nat → Nat → Nat
  | 0, p => p
  | k + 1, p => if l p = 32 then spf l k (p + 1) else p
noncomputable def dgf (l : Nat → Int32) : Nat → Nat → Nat
  | 0, p => p
  | k + 1, p => if ¬ l p < 48 ∧ ¬ 57 < l p then dgf l k (p + 1) else p
theorem spf_ge (l : Nat → Int32) : ∀ k p, p ≤ spf l k p ∧ spf l k p ≤ p + k
  | 0, p => ⟨Nat.le_refl _, Nat.le_refl _⟩
  | k + 1, p => by
    unfold spf
    split
    · have := spf_ge l k (p + 1)
      omega
    · omega
theorem spf_at (l : Nat → Int32) : ∀ k p, spf l k p < p + k → l (spf l k p) ≠ 32
  | 0, p, h => by unfold spf at h; omega
  | k + 1, p, h => by
    unfold spf at h ⊢
    split
    · rename_i e
      rw [if_pos e] at h
      exact spf_at l k (p + 1) (by omega)
    · assumption
theorem spf_id {l : Nat → Int32} {k p : Nat} (h : k = 0 ∨ l p ≠ 32) : spf l k p = p := by
  cases k with
  | zero => rfl
  | succ k =>
    unfold spf
    rw [if_neg]
    rcases h with h | h
    · omega
    · exact h
theorem dgf_ge (l : Nat → Int32) : ∀ k p, p ≤ dgf l k p ∧ dgf l k p ≤ p + k
  | 0, p => ⟨Nat.le_refl _, Nat.le_refl _⟩
  | k + 1, p => by
    unfold dgf
    split
    · have := dgf_ge l k (p + 1)
      omega
    · omega
theorem dgf_in (l : Nat → Int32) : ∀ k p j, p ≤ j → j < dgf l k p → ¬ l j < 48 ∧ ¬ 57 < l j
  | 0, p, j, h1, h2 => by unfold dgf at h2; omega
  | k + 1, p, j, h1, h2 => by
    unfold dgf at h2
    split at h2
    · rename_i e
      by_cases hj : j = p
      · subst hj; exact e
      · exact dgf_in l k (p + 1) j (by omega) h2
    · omega
theorem nple {n p : Nat} (h : p < n) (hn : n ≤ 120) : ¬ nI n ≤ nI p := nI_ge h (by omega)
/-- the class's skipping of blanks -/
theorem adv_sp (l : Nat → Int32) (n : Nat) (hn : n ≤ 120) : ∀ (k p f : Nat), p + k = n → k < f → L_X10_advance_0 (nI n) l f (nI p) = some (nI (spf l k p)) := by
  intro k
  induction k with
  | zero =>
    intro p f h1 h2
    obtain ⟨f, rfl⟩ : ∃ g, f = g + 1 := ⟨f - 1, by omega⟩
    rw [L_X10_advance_0_s, if_pos (nI_le (by omega) (by omega))]
    rfl
  | succ k ih =>
    intro p f h1 h2
    obtain ⟨f, rfl⟩ : ∃ g, f = g + 1 := ⟨f - 1, by omega⟩
    rw [L_X10_advance_0_s, if_neg (nple (by omega) hn), if_neg (nI_in (by omega) (by omega)), nI_clamp (by omega), nI_1]
    unfold spf
    split
    · exact ih (p + 1) f (by omega) (by omega)
    · rfl
theorem here_at (l : Nat → Int32) (n p : Nat) (hn : n ≤ 120) (h : p < n) : F_X12_here (nI n) (nI p) l = some (l p) := by
  unfold F_X12_here
  rw [if_neg (nple h hn), if_neg (nI_in (by omega) (by omega)), nI_clamp (by omega)]
theorem here_end (l : Nat → Int32) (n : Nat) (hn : n ≤ 120) : F_X12_here (nI n) (nI n) l = some (-1) := by
  unfold F_X12_here
  rw [if_pos (nI_le (Nat.le_refl _) (by omega))]
/-- the reference's skipping of blanks -/
theorem skips_l (l : Nat → Int32) (n : Nat) (hn : n ≤ 120) : ∀ (k p f : Nat), p + k = n → k < f → L_X12_skips_0 (nI n) l f (nI p) = some (nI (spf l k p)) := by
  intro k
  induction k with
  | zero =>
    intro p f h1 h2
    obtain ⟨f, rfl⟩ : ∃ g, f = g + 1 := ⟨f - 1, by omega⟩
    have e : p = n := by omega
    subst e
    rw [L_X12_skips_0_s, here_end l p hn]
    simp only [zb1, zb2, zb3, zb4, zb5, Option.bind_some, if_true]
    rw [if_neg (by decide)]
    rfl
  | succ k ih =>
    intro p f h1 h2
    obtain ⟨f, rfl⟩ : ∃ g, f = g + 1 := ⟨f - 1, by omega⟩
    rw [L_X12_skips_0_s, here_at l n p hn (by omega)]
    show (if l p = 32 then L_X12_skips_0 (nI n) l f (nI p + 1) else some (nI p)) = _
    rw [nI_1]
    unfold spf
    split
    · exact ih (p + 1) f (by omega) (by omega)
    · rfl
theorem skips_sp (l : Nat → Int32) (n p : Nat) (hn : n ≤ 120) (hp : p ≤ n) : F_X12_skips (nI n) (nI p) l = some (nI (spf l (n - p) p)) := by
  unfold F_X12_skips
  rw [skips_l l n hn (n - p) p 300 (by omega) (by omega)]
  rfl
theorem dig_i (c : Int32) : F_X10_isDigit c = some (if ¬ c < 48 ∧ ¬ 57 < c then 1 else 0) := by
  unfold F_X10_isDigit
  by_cases h1 : c < 48
  · simp [h1]
  · by_cases h2 : 57 < c <;> simp [h1, h2]
theorem fig_i (c : Int32) : F_X12_isFigure c = some (if ¬ c < 48 ∧ ¬ 57 < c then 1 else 0) := by
  unfold F_X12_isFigure F_X12_in
  by_cases h1 : c < 48
  · simp [h1, zb1]
  · by_cases h2 : 57 < c <;> simp [h1, h2, zb1]
/-- the class's value of a run of figures: held at 100 -/
def cvf (l : Nat → Int32) : Nat → Nat → Int32 → Int32
  | 0, _, v => v
  | k + 1, p, v => cvf l k (p + 1) (if (((v * 10) + l p) - 48) < 100 then (((v * 10) + l p) - 48) else 100)
theorem dig_l (l : Nat → Int32) (n : Nat) (hn : n ≤ 120) : ∀ (k p f : Nat) (v : Int32), p + k = n → k < f → L_X10_advanceDigits_25 (nI n) l f (nI p) v = some (nI (dgf l k p), cvf l (dgf l k p - p) p v) := by
  intro k
  induction k with
  | zero =>
    intro p f v h1 h2
    obtain ⟨f, rfl⟩ : ∃ g, f = g + 1 := ⟨f - 1, by omega⟩
    rw [L_X10_advanceDigits_25_s, if_pos (nI_le (by omega) (by omega))]
    unfold dgf
    rw [Nat.sub_self]
    rfl
  | succ k ih =>
    intro p f v h1 h2
    obtain ⟨f, rfl⟩ : ∃ g, f = g + 1 := ⟨f - 1, by omega⟩
    rw [L_X10_advanceDigits_25_s, if_neg (nple (by omega) hn), if_neg (nI_in (by omega) (by omega)), nI_clamp (by omega), nI_1, dig_i]
    unfold dgf
    by_cases hd : ¬ l p < 48 ∧ ¬ 57 < l p
    · rw [if_pos hd, if_pos hd]
      simp only [zb1, zb2, zb3, zb4, zb5, Option.bind_some, if_true]
      rw [if_neg (by decide), ih (p + 1) f _ (by omega) (by omega)]
      have hg := dgf_ge l k (p + 1)
      rw [show dgf l k (p + 1) - p = (dgf l k (p + 1) - (p + 1)) + 1 by omega]
      rfl
    · rw [if_neg hd, if_neg hd]
      simp only [zb1, zb2, zb3, zb4, zb5, Option.bind_some, if_true]
      rw [Nat.sub_self]
      rfl
/-- the reference's value of a run of figures: its first three -/
def mvf (l : Nat → Int32) : Nat → Nat → Nat → Int32 → Int32
  | 0, _, _, v => v
  | k + 1, m, p, v => mvf l k (m + 1) (p + 1) (if 3 ≤ m then v else ((10 * v) + l p) - 48)
theorem num_l (l : Nat → Int32) (n : Nat) (hn : n ≤ 120) (q : Nat) : ∀ (k m f : Nat) (v : Int32), q + m + k = n → k < f → L_X12_number_18 (nI n) (nI q) l f (nI m) v = some (nI (dgf l k (q + m) - q), mvf l (dgf l k (q + m) - (q + m)) m (q + m) v) := by
  intro k
  induction k with
  | zero =>
    intro m f v h1 h2
    obtain ⟨f, rfl⟩ : ∃ g, f = g + 1 := ⟨f - 1, by omega⟩
    rw [L_X12_number_18_s, nI_add, if_pos (nI_le (by omega) (by omega))]
    unfold dgf
    rw [Nat.sub_self, show q + m - q = m by omega]
    rfl
  | succ k ih =>
    intro m f v h1 h2
    obtain ⟨f, rfl⟩ : ∃ g, f = g + 1 := ⟨f - 1, by omega⟩
    rw [L_X12_number_18_s, nI_add, if_neg (nple (by omega) hn), if_neg (nI_in (by omega) (by omega)), nI_clamp (by omega), nI_1, fig_i]
    unfold dgf
    by_cases hd : ¬ l (q + m) < 48 ∧ ¬ 57 < l (q + m)
    · rw [if_pos hd, if_pos hd]
      simp only [zb1, zb2, zb3, zb4, zb5, Option.bind_some, if_true]
      have hg := dgf_ge l k (q + m + 1)
      rw [if_neg (by decide), show dgf l k (q + m + 1) - (q + m) = (dgf l k (q + (m + 1)) - (q + (m + 1))) + 1 by rw [Nat.add_assoc] at hg ⊢; omega]
      by_cases h3 : 3 ≤ m
      · have h3' : (3 : Int32) ≤ nI m := by
          show nI 3 ≤ nI m
          exact nI_le h3 (by omega)
        rw [if_pos h3', ih (m + 1) f _ (by omega) (by omega)]
        show _ = some (_, mvf l _ (m + 1) (q + m + 1) (if 3 ≤ m then v else ((10 * v) + l (q + m)) - 48))
        rw [if_pos h3]
        rfl
      · have h3' : ¬ (3 : Int32) ≤ nI m := by
          show ¬ nI 3 ≤ nI m
          exact nI_ge (by omega) (by omega)
        rw [if_neg h3', ih (m + 1) f _ (by omega) (by omega)]
        show _ = some (_, mvf l _ (m + 1) (q + m + 1) (if 3 ≤ m then v else ((10 * v) + l (q + m)) - 48))
        rw [if_neg h3]
        rfl
    · rw [if_neg hd, if_neg hd]
      simp only [zb1, zb2, zb3, zb4, zb5, Option.bind_some, if_true]
      rw [Nat.sub_self, show q + m - q = m by omega]
      rfl
