/-! a number, a stop: where both readers agree -/
theorem dig_of {c : Int32} (h : ¬ c < 48 ∧ ¬ 57 < c) : ∃ d : Nat, d ≤ 9 ∧ c = nI (48 + d) := by
  obtain ⟨j, hj, rfl⟩ := nI_of2 (x := c) (M := 57) (n := 57) rfl (fun z => h.1 (Int32.lt_trans z (by decide))) (Int32.not_lt.mp h.2)
  have h1 : 48 ≤ j := by
    rcases Nat.lt_or_ge j 48 with z | z
    · exact absurd (show nI j < nI 48 from nI_lt z (by omega)) h.1
    · exact z
  exact ⟨j - 48, by omega, by rw [show 48 + (j - 48) = j by omega]⟩
theorem cv_step (v d : Nat) (hv : v ≤ 100) (hd : d ≤ 9) : ((nI v * 10) + nI (48 + d)) - 48 = nI (v * 10 + d) := by
  show ((nI v * nI 10) + nI (48 + d)) - nI 48 = _
  rw [pk_mul, nI_add, pk_sub (by omega), show v * 10 + (48 + d) - 48 = v * 10 + d by omega]
theorem mv_step (v d : Nat) (hv : v ≤ 100) (hd : d ≤ 9) : ((10 * nI v) + nI (48 + d)) - 48 = nI (10 * v + d) := by
  show ((nI 10 * nI v) + nI (48 + d)) - nI 48 = _
  rw [pk_mul, nI_add, pk_sub (by omega), show 10 * v + (48 + d) - 48 = 10 * v + d by omega]
theorem lt100 (v : Nat) (hv : v < 10000) : (nI v < 100) ↔ v < 100 := by
  show nI v < nI 100 ↔ _
  rw [nI_ltI (by omega) (by omega)]
theorem cvf_big (l : Nat → Int32) : ∀ (k p v : Nat), 10 ≤ v → v ≤ 100 → (∀ j, p ≤ j → j < p + (k + 1) → ¬ l j < 48 ∧ ¬ 57 < l j) → cvf l (k + 1) p (nI v) = 100 := by
  intro k
  induction k with
  | zero =>
    intro p v h1 h2 hd
    obtain ⟨d, hd9, e⟩ := dig_of (hd p (by omega) (by omega))
    unfold cvf cvf
    rw [e, cv_step v d h2 hd9, if_neg (fun z => by have := (lt100 _ (by omega)).mp z; omega)]
  | succ k ih =>
    intro p v h1 h2 hd
    obtain ⟨d, hd9, e⟩ := dig_of (hd p (by omega) (by omega))
    show cvf l (k + 1) (p + 1) (if (((nI v * 10) + l p) - 48) < 100 then (((nI v * 10) + l p) - 48) else 100) = 100
    rw [e, cv_step v d h2 hd9, if_neg (fun z => by have := (lt100 _ (by omega)).mp z; omega)]
    exact ih (p + 1) 100 (by omega) (by omega) (fun j h3 h4 => hd j (by omega) (by omega))
/-- a number as it may stand: one figure, or two without a 0 ahead -/
def okn (l : Nat → Int32) (q e : Nat) : Prop := e = q + 1 ∨ (e = q + 2 ∧ l q ≠ 48)
def nv (l : Nat → Int32) (q e : Nat) : Int32 := mvf l (e - q) 0 q 0
theorem cv_nv {l : Nat → Int32} {q e : Nat} (h : okn l q e) (hd : ∀ j, q ≤ j → j < e → ¬ l j < 48 ∧ ¬ 57 < l j) : cvf l (e - q) q 0 = nv l q e ∧ ¬ 99 < nv l q e := by
  unfold nv
  obtain ⟨d0, h0, e0⟩ := dig_of (hd q (Nat.le_refl _) (by rcases h with h | h <;> omega))
  rcases h with rfl | ⟨rfl, hz⟩
  · rw [show q + 1 - q = 1 by omega]
    show (if (((nI 0 * 10) + l q) - 48) < 100 then (((nI 0 * 10) + l q) - 48) else 100) = (((10 * nI 0) + l q) - 48) ∧ ¬ 99 < (((10 * nI 0) + l q) - 48)
    rw [e0, cv_step 0 d0 (by omega) h0, mv_step 0 d0 (by omega) h0, if_pos ((lt100 _ (by omega)).mpr (by omega))]
    refine ⟨by rw [show 0 * 10 + d0 = 10 * 0 + d0 by omega], ?_⟩
    show ¬ nI 99 < nI _
    exact nI_nlt (by omega) (by omega)
  · obtain ⟨d1, h1, e1⟩ := dig_of (hd (q + 1) (by omega) (by omega))
    rw [show q + 2 - q = 2 by omega]
    show (if (((if (((nI 0 * 10) + l q) - 48) < 100 then (((nI 0 * 10) + l q) - 48) else 100) * 10 + l (q + 1)) - 48) < 100 then (((if (((nI 0 * 10) + l q) - 48) < 100 then (((nI 0 * 10) + l q) - 48) else 100) * 10 + l (q + 1)) - 48) else 100) = (((10 * (((10 * nI 0) + l q) - 48)) + l (q + 1)) - 48) ∧ ¬ 99 < (((10 * (((10 * nI 0) + l q) - 48)) + l (q + 1)) - 48)
    rw [e0, e1, cv_step 0 d0 (by omega) h0, mv_step 0 d0 (by omega) h0, if_pos ((lt100 _ (by omega)).mpr (by omega)), cv_step _ d1 (by omega) h1, mv_step _ d1 (by omega) h1, if_pos ((lt100 _ (by omega)).mpr (by omega))]
    refine ⟨by rw [show (0 * 10 + d0) * 10 + d1 = 10 * (10 * 0 + d0) + d1 by omega], ?_⟩
    show ¬ nI 99 < nI _
    exact nI_nlt (by omega) (by omega)
/-- the class's reading of a run of figures -/
theorem digs (l : Nat → Int32) (n q : Nat) (hn : n ≤ 120) (hq : q < n) (hd : ¬ l q < 48 ∧ ¬ 57 < l q) : (okn l q (dgf l (n - q) q) → F_X10_advanceDigits (nI n) (nI q) (nI q) l = some (nI (dgf l (n - q) q), 1, nv l q (dgf l (n - q) q))) ∧ (¬ okn l q (dgf l (n - q) q) → ∃ v, F_X10_advanceDigits (nI n) (nI q) (nI q) l = some (nI (dgf l (n - q) q), 2, v)) := by
  have hin := dgf_in l (n - q) q
  have hge := dgf_ge l (n - q) q
  have hgt : q + 1 ≤ dgf l (n - q) q := by
    obtain ⟨k, hk⟩ : ∃ k, n - q = k + 1 := ⟨n - q - 1, by omega⟩
    rw [hk]
    unfold dgf
    rw [if_pos hd]
    exact (dgf_ge l k (q + 1)).1
  have hl := dig_l l n hn (n - q) q 300 0 (by omega) (by omega)
  generalize dgf l (n - q) q = e at hin hge hgt hl ⊢
  have hds : ∀ j, q ≤ j → j < e → ¬ l j < 48 ∧ ¬ 57 < l j := fun j h1 h2 => hin j h1 h2
  unfold F_X10_advanceDigits
  rw [if_neg (nI_in (by omega) (by omega)), nI_clamp (by omega), hl]
  by_cases hz : l q = 48
  · rw [if_pos hz]
    show (okn l q e → (if 99 < cvf l (e - q) q 0 then some (nI e, 2, cvf l (e - q) q 0) else (if nI e - nI q ≤ 1 then some (nI e, 1, cvf l (e - q) q 0) else some (nI e, 2, cvf l (e - q) q 0))) = some (nI e, 1, nv l q e)) ∧ (¬ okn l q e → ∃ v, (if 99 < cvf l (e - q) q 0 then some (nI e, 2, cvf l (e - q) q 0) else (if nI e - nI q ≤ 1 then some (nI e, 1, cvf l (e - q) q 0) else some (nI e, 2, cvf l (e - q) q 0))) = some (nI e, 2, v))
    rw [pk_sub (by omega)]
    refine ⟨fun h => ?_, fun h => ?_⟩
    · obtain ⟨h1, h2⟩ := cv_nv h hds
      have he : e = q + 1 := by
        rcases h with h | h
        · exact h
        · exact absurd hz h.2
      rw [h1, if_neg h2, if_pos]
      show nI (e - q) ≤ nI 1
      exact nI_le (by omega) (by omega)
    · have he : e ≠ q + 1 := fun z => h (Or.inl z)
      have h3 : ¬ nI (e - q) ≤ 1 := by
        show ¬ nI (e - q) ≤ nI 1
        exact nI_ge (by omega) (by omega)
      rw [if_neg h3]
      split
      · exact ⟨_, rfl⟩
      · exact ⟨_, rfl⟩
  · rw [if_neg hz]
    show (okn l q e → (if 99 < cvf l (e - q) q 0 then some (nI e, 2, cvf l (e - q) q 0) else some (nI e, 1, cvf l (e - q) q 0)) = some (nI e, 1, nv l q e)) ∧ (¬ okn l q e → ∃ v, (if 99 < cvf l (e - q) q 0 then some (nI e, 2, cvf l (e - q) q 0) else some (nI e, 1, cvf l (e - q) q 0)) = some (nI e, 2, v))
    refine ⟨fun h => ?_, fun h => ?_⟩
    · obtain ⟨h1, h2⟩ := cv_nv h hds
      rw [h1, if_neg h2]
    · have he : e ≠ q + 1 := fun z => h (Or.inl z)
      have he2 : e ≠ q + 2 := fun z => h (Or.inr ⟨z, hz⟩)
      obtain ⟨k, hk⟩ : ∃ k, e - q = k + 1 + 1 + 1 := ⟨e - q - 3, by omega⟩
      obtain ⟨d0, h0, e0⟩ := dig_of (hds q (by omega) (by omega))
      obtain ⟨d1, h1, e1⟩ := dig_of (hds (q + 1) (by omega) (by omega))
      have hd0 : 1 ≤ d0 := by
        rcases Nat.eq_zero_or_pos d0 with z | z
        · subst z
          exact absurd e0 hz
        · exact z
      have hc : cvf l (e - q) q 0 = 100 := by
        rw [hk]
        show cvf l (k + 1) (q + 1 + 1) (if (((if (((nI 0 * 10) + l q) - 48) < 100 then (((nI 0 * 10) + l q) - 48) else 100) * 10 + l (q + 1)) - 48) < 100 then (((if (((nI 0 * 10) + l q) - 48) < 100 then (((nI 0 * 10) + l q) - 48) else 100) * 10 + l (q + 1)) - 48) else 100) = 100
        rw [e0, e1, cv_step 0 d0 (by omega) h0, if_pos ((lt100 _ (by omega)).mpr (by omega)), cv_step _ d1 (by omega) h1, if_pos ((lt100 _ (by omega)).mpr (by omega))]
        exact cvf_big l k (q + 1 + 1) _ (by omega) (by omega) (fun j h3 h4 => hds j (by omega) (by omega))
      rw [hc, if_pos (by decide)]
      exact ⟨_, rfl⟩
/-- whether a number within bounds stands next, and a stop -/
def numOK (l : Nat → Int32) (n p : Nat) (lo hi : Int32) : Prop := okn l (spf l (n - p) p) (dgf l (n - spf l (n - p) p) (spf l (n - p) p)) ∧ ¬ nv l (spf l (n - p) p) (dgf l (n - spf l (n - p) p) (spf l (n - p) p)) < lo ∧ ¬ hi < nv l (spf l (n - p) p) (dgf l (n - spf l (n - p) p) (spf l (n - p) p))
def stOK (l : Nat → Int32) (n p : Nat) : Prop := spf l (n - p) p < n ∧ l (spf l (n - p) p) = 59
theorem dgf_id {l : Nat → Int32} {k p : Nat} (h : k = 0 ∨ ¬ (¬ l p < 48 ∧ ¬ 57 < l p)) : dgf l k p = p := by
  cases k with
  | zero => rfl
  | succ k =>
    unfold dgf
    rw [if_neg]
    rcases h with h | h
    · omega
    · exact h
theorem adv_l (l : Nat → Int32) (n p : Nat) (hn : n ≤ 120) (hp : p ≤ n) : L_X10_advance_0 (nI n) l 300 (nI p) = some (nI (spf l (n - p) p)) := adv_sp l n hn (n - p) p 300 (by omega) (by omega)
section PRS
variable {l : Nat → Int32} {n p q : Nat} {val : Int32}
theorem adv_end (hn : n ≤ 120) (hp : p ≤ n) (h : spf l (n - p) p = n) : F_X10_advance (nI n) (nI p) val l = some (nI n, nI n, 0, val) := by
  unfold F_X10_advance
  rw [adv_l l n p hn hp, h]
  show (if nI n < nI n then _ else some (nI n, nI n, 0, val)) = _
  rw [if_neg (nI_nlt (Nat.le_refl _) (by omega))]
theorem adv_ok (hn : n ≤ 120) (hp : p ≤ n) (h : spf l (n - p) p = q) (hq : q < n) (hd : ¬ l q < 48 ∧ ¬ 57 < l q) (ho : okn l q (dgf l (n - q) q)) : F_X10_advance (nI n) (nI p) val l = some (nI (dgf l (n - q) q), nI q, 1, nv l q (dgf l (n - q) q)) := by
  unfold F_X10_advance
  rw [adv_l l n p hn hp, h]
  show (if nI q < nI n then (if (nI q < 0 ∨ 120 ≤ (nI q).toNatClampNeg) then none else zb1 (F_X10_isDigit (l (nI q).toNatClampNeg)) _) else _) = _
  rw [if_pos (nI_lt hq (by omega)), if_neg (nI_in (by omega) (by omega)), nI_clamp (by omega), dig_i, if_pos hd]
  simp only [zb1, zb2, zb3, zb4, zb5, Option.bind_some, if_true]
  rw [if_neg (by decide), (digs l n q hn hq hd).1 ho]
  rfl
theorem adv_bad (hn : n ≤ 120) (hp : p ≤ n) (h : spf l (n - p) p = q) (hq : q < n) (hd : ¬ l q < 48 ∧ ¬ 57 < l q) (ho : ¬ okn l q (dgf l (n - q) q)) : ∃ v, F_X10_advance (nI n) (nI p) val l = some (nI (dgf l (n - q) q), nI q, 2, v) := by
  unfold F_X10_advance
  rw [adv_l l n p hn hp, h]
  obtain ⟨v, hv⟩ := (digs l n q hn hq hd).2 ho
  refine ⟨v, ?_⟩
  show (if nI q < nI n then (if (nI q < 0 ∨ 120 ≤ (nI q).toNatClampNeg) then none else zb1 (F_X10_isDigit (l (nI q).toNatClampNeg)) _) else _) = _
  rw [if_pos (nI_lt hq (by omega)), if_neg (nI_in (by omega) (by omega)), nI_clamp (by omega), dig_i, if_pos hd]
  simp only [zb1, zb2, zb3, zb4, zb5, Option.bind_some, if_true]
  rw [if_neg (by decide), hv]
  rfl
theorem adv_oth (hn : n ≤ 120) (hp : p ≤ n) (h : spf l (n - p) p = q) (hq : q < n) (hd : ¬ (¬ l q < 48 ∧ ¬ 57 < l q)) : F_X10_advance (nI n) (nI p) val l = some (nI (q + 1), nI q, if l q = 101 then 101 else if l q = 106 then 106 else if l q = 59 then 59 else 2, val) := by
  unfold F_X10_advance
  rw [adv_l l n p hn hp, h]
  show (if nI q < nI n then (if (nI q < 0 ∨ 120 ≤ (nI q).toNatClampNeg) then none else zb1 (F_X10_isDigit (l (nI q).toNatClampNeg)) _) else _) = _
  rw [if_pos (nI_lt hq (by omega)), if_neg (nI_in (by omega) (by omega)), nI_clamp (by omega), dig_i, if_neg hd]
  simp only [zb1, zb2, zb3, zb4, zb5, Option.bind_some, if_true]
  rw [nI_1]
  by_cases h1 : l q = 101
  · rw [if_pos h1, if_pos h1, h1]
  · rw [if_neg h1, if_neg h1]
    by_cases h2 : l q = 106
    · rw [if_pos h2, if_pos h2, h2]
    · rw [if_neg h2, if_neg h2]
      by_cases h3 : l q = 59
      · rw [if_pos h3, if_pos h3, h3]
      · rw [if_neg h3, if_neg h3]
theorem okn_dig (hq : q ≤ n) (ho : okn l q (dgf l (n - q) q)) : q < n ∧ (¬ l q < 48 ∧ ¬ 57 < l q) := by
  have hge := dgf_ge l (n - q) q
  have hgt : q < dgf l (n - q) q := by rcases ho with h | h <;> omega
  exact ⟨by omega, dgf_in l (n - q) q q (Nat.le_refl _) hgt⟩
theorem rn_ok {lo hi : Int32} (hn : n ≤ 120) (hp : p ≤ n) (h : spf l (n - p) p = q) (ho : okn l q (dgf l (n - q) q)) (h1 : ¬ nv l q (dgf l (n - q) q) < lo) (h2 : ¬ hi < nv l q (dgf l (n - q) q)) : F_X10_readNumber (nI n) (nI p) val l lo hi = some (1, nI (dgf l (n - q) q), nI q, 1, nv l q (dgf l (n - q) q)) := by
  have hg := spf_ge l (n - p) p
  obtain ⟨hq, hd⟩ := okn_dig (by omega) ho
  unfold F_X10_readNumber
  rw [adv_ok hn hp h hq hd ho]
  simp only [zb1, zb2, zb3, zb4, zb5, Option.bind_some, if_true]
  rw [if_neg h1, if_neg h2]
theorem rn_no {lo hi : Int32} (hn : n ≤ 120) (hp : p ≤ n) (h : spf l (n - p) p = q) (hno : ¬ (okn l q (dgf l (n - q) q) ∧ ¬ nv l q (dgf l (n - q) q) < lo ∧ ¬ hi < nv l q (dgf l (n - q) q))) : ∃ a b d, F_X10_readNumber (nI n) (nI p) val l lo hi = some (0, a, nI q, b, d) := by
  have hg := spf_ge l (n - p) p
  unfold F_X10_readNumber
  by_cases hq : q < n
  · by_cases hd : ¬ l q < 48 ∧ ¬ 57 < l q
    · by_cases ho : okn l q (dgf l (n - q) q)
      · rw [adv_ok hn hp h hq hd ho]
        simp only [zb1, zb2, zb3, zb4, zb5, Option.bind_some, if_true]
        by_cases h1 : nv l q (dgf l (n - q) q) < lo
        · rw [if_pos h1]; exact ⟨_, _, _, rfl⟩
        · by_cases h2 : hi < nv l q (dgf l (n - q) q)
          · rw [if_neg h1, if_pos h2]; exact ⟨_, _, _, rfl⟩
          · exact absurd ⟨ho, h1, h2⟩ hno
      · obtain ⟨v, hv⟩ := adv_bad (val := val) hn hp h hq hd ho
        rw [hv]
        simp only [zb1, zb2, zb3, zb4, zb5, Option.bind_some, if_true]
        rw [if_neg (by decide)]
        exact ⟨_, _, _, rfl⟩
    · rw [adv_oth hn hp h hq hd]
      simp only [zb1, zb2, zb3, zb4, zb5, Option.bind_some, if_true]
      rw [if_neg (by split; decide; split; decide; split; decide; decide)]
      exact ⟨_, _, _, rfl⟩
  · have e : q = n := by omega
    subst e
    rw [adv_end hn hp h]
    simp only [zb1, zb2, zb3, zb4, zb5, Option.bind_some, if_true]
    rw [if_neg (by decide)]
    exact ⟨_, _, _, rfl⟩
theorem rs_ok (hn : n ≤ 120) (hp : p ≤ n) (h : spf l (n - p) p = q) (hq : q < n) (hs : l q = 59) : F_X10_readStop (nI n) (nI p) val l = some (1, nI (q + 1), nI q, 59, val) := by
  unfold F_X10_readStop
  rw [adv_oth hn hp h hq (by rw [hs]; decide), hs]
  rfl
theorem rs_no (hn : n ≤ 120) (hp : p ≤ n) (h : spf l (n - p) p = q) (hno : ¬ (q < n ∧ l q = 59)) : ∃ a b d, F_X10_readStop (nI n) (nI p) val l = some (0, a, nI q, b, d) := by
  have hg := spf_ge l (n - p) p
  unfold F_X10_readStop
  by_cases hq : q < n
  · have hs : l q ≠ 59 := fun z => hno ⟨hq, z⟩
    by_cases hd : ¬ l q < 48 ∧ ¬ 57 < l q
    · by_cases ho : okn l q (dgf l (n - q) q)
      · rw [adv_ok hn hp h hq hd ho]
        simp only [zb1, zb2, zb3, zb4, zb5, Option.bind_some, if_true]
        rw [if_neg (by decide)]
        exact ⟨_, _, _, rfl⟩
      · obtain ⟨v, hv⟩ := adv_bad (val := val) hn hp h hq hd ho
        rw [hv]
        simp only [zb1, zb2, zb3, zb4, zb5, Option.bind_some, if_true]
        rw [if_neg (by decide)]
        exact ⟨_, _, _, rfl⟩
    · rw [adv_oth hn hp h hq hd]
      simp only [zb1, zb2, zb3, zb4, zb5, Option.bind_some, if_true]
      rw [if_neg (by rw [if_neg hs]; split; decide; split; decide; decide)]
      exact ⟨_, _, _, rfl⟩
  · have e : q = n := by omega
    subst e
    rw [adv_end hn hp h]
    simp only [zb1, zb2, zb3, zb4, zb5, Option.bind_some, if_true]
    rw [if_neg (by decide)]
    exact ⟨_, _, _, rfl⟩
/-- the reference's number and stop -/
theorem mn_wrong {w : Int32} {lo hi : Int32} (hw : ¬ w < 0) (pl : Int32) : F_X12_number (nI n) pl w l lo hi = some (0, pl, w) := by
  unfold F_X12_number
  rw [if_neg hw]
theorem in_i (v lo hi : Int32) : F_X12_in v lo hi = some (if ¬ v < lo ∧ ¬ hi < v then 1 else 0) := by
  unfold F_X12_in
  by_cases h1 : v < lo
  · simp [h1]
  · by_cases h2 : hi < v <;> simp [h1, h2]
theorem mn_ok {w lo hi : Int32} (hw : w < 0) (hn : n ≤ 120) (hp : p ≤ n) (h : spf l (n - p) p = q) (ho : okn l q (dgf l (n - q) q)) (h1 : ¬ nv l q (dgf l (n - q) q) < lo) (h2 : ¬ hi < nv l q (dgf l (n - q) q)) : F_X12_number (nI n) (nI p) w l lo hi = some (nv l q (dgf l (n - q) q), nI (dgf l (n - q) q), w) := by
  have hg := spf_ge l (n - p) p
  obtain ⟨hq, hd⟩ := okn_dig (by omega) ho
  have hl := num_l l n hn q (n - q) 0 300 0 (by omega) (by omega)
  have hge := dgf_ge l (n - q) q
  unfold F_X12_number
  rw [if_pos hw, skips_sp l n p hn hp, h]
  have hl2 : L_X12_number_18 (nI n) (nI q) l 300 0 0 = some (nI (dgf l (n - q) q - q), mvf l (dgf l (n - q) q - q) 0 q 0) := hl
  clear hl
  simp only [zb1, zb2, Option.bind_some, hl2]
  clear hl2
  unfold nv at h1 h2 ⊢
  generalize dgf l (n - q) q = e at *
  have n1 : nI 1 = 1 := rfl
  have n2 : nI 2 = 2 := rfl
  rcases ho with rfl | ⟨rfl, hz⟩
  · rw [show q + 1 - q = 1 by omega] at *
    rw [if_pos n1, in_i, if_pos ⟨h1, h2⟩]
    simp only [Option.bind_some]
    rw [if_neg (by decide), nI_add]
  · rw [show q + 2 - q = 2 by omega] at *
    rw [if_neg (show ¬ nI 2 = 1 by decide), if_pos n2, here_at l n q hn hq]
    simp only [Option.bind_some]
    rw [if_neg hz, in_i, if_pos ⟨h1, h2⟩]
    simp only [Option.bind_some]
    rw [if_neg (by decide), nI_add]
theorem mn_no {w lo hi : Int32} (hw : w < 0) (hn : n ≤ 120) (hp : p ≤ n) (h : spf l (n - p) p = q) (hno : ¬ (okn l q (dgf l (n - q) q) ∧ ¬ nv l q (dgf l (n - q) q) < lo ∧ ¬ hi < nv l q (dgf l (n - q) q))) : F_X12_number (nI n) (nI p) w l lo hi = some (0, nI q, nI q) := by
  have hg := spf_ge l (n - p) p
  have hl := num_l l n hn q (n - q) 0 300 0 (by omega) (by omega)
  have hge := dgf_ge l (n - q) q
  unfold F_X12_number
  rw [if_pos hw, skips_sp l n p hn hp, h]
  have hl2 : L_X12_number_18 (nI n) (nI q) l 300 0 0 = some (nI (dgf l (n - q) q - q), mvf l (dgf l (n - q) q - q) 0 q 0) := hl
  clear hl
  simp only [zb1, zb2, Option.bind_some, hl2]
  clear hl2
  unfold nv okn at hno
  generalize dgf l (n - q) q = e at *
  have n1 : nI 1 = 1 := rfl
  have n2 : nI 2 = 2 := rfl
  by_cases e1 : e = q + 1
  · subst e1
    rw [show q + 1 - q = 1 by omega] at *
    rw [if_pos n1, in_i, if_neg (fun z => hno ⟨Or.inl rfl, z⟩)]
    rfl
  · have e1' : ¬ nI (e - q) = 1 := fun z => e1 (by
      have := (nI_eq (a := e - q) (b := 1) (by omega) (by omega)).mp z
      omega)
    rw [if_neg e1']
    by_cases e2 : e = q + 2
    · subst e2
      rw [show q + 2 - q = 2 by omega] at *
      rw [if_pos n2, here_at l n q hn (by omega)]
      simp only [Option.bind_some]
      by_cases hz : l q = 48
      · rw [if_pos hz]
      · rw [if_neg hz, in_i, if_neg (fun z => hno ⟨Or.inr ⟨rfl, hz⟩, z⟩)]
        rfl
    · have e2' : ¬ nI (e - q) = 2 := fun z => e2 (by
        have := (nI_eq (a := e - q) (b := 2) (by omega) (by omega)).mp z
        omega)
      rw [if_neg e2']
theorem me_wrong {w it pl : Int32} (hw : ¬ w < 0) : F_X12_ends (nI n) pl w it l = some (pl, w, it) := by
  unfold F_X12_ends
  rw [if_neg hw]
theorem me_ok {w it : Int32} (hw : w < 0) (hn : n ≤ 120) (hp : p ≤ n) (h : spf l (n - p) p = q) (hq : q < n) (hs : l q = 59) : F_X12_ends (nI n) (nI p) w it l = some (nI (q + 1), w, it + 1) := by
  unfold F_X12_ends
  rw [if_pos hw, skips_sp l n p hn hp, h]
  show zb1 (F_X12_here (nI n) (nI q) l) _ = _
  rw [here_at l n q hn hq, hs, ← nI_1]
  rfl
theorem me_no {w it : Int32} (hw : w < 0) (hn : n ≤ 120) (hp : p ≤ n) (h : spf l (n - p) p = q) (hno : ¬ (q < n ∧ l q = 59)) : F_X12_ends (nI n) (nI p) w it l = some (nI q, nI q, it) := by
  have hg := spf_ge l (n - p) p
  unfold F_X12_ends
  rw [if_pos hw, skips_sp l n p hn hp, h]
  show zb1 (F_X12_here (nI n) (nI q) l) _ = _
  by_cases hq : q < n
  · rw [here_at l n q hn hq]
    show (if l q = 59 then _ else some (nI q, nI q, it)) = _
    rw [if_neg (fun z => hno ⟨hq, z⟩)]
  · have e : q = n := by omega
    subst e
    rw [here_end l q hn]
    rfl
end PRS
