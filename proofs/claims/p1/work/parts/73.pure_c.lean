set_option maxRecDepth 100000 in
theorem qf_stay (p1 : Int32) : ∃ r, zr1 (F_X11_stay 0 4 4 0 (fun _ => 0) (fun _ => 0) (fun _ => 0) 0 0 0 0 (fun _ => 0) (fun _ => 0) (fun _ => 0) 0 (fun _ => 0) (fun _ => 0) p1) = some r ∧ zr1 (F_X12_stay 0 (fun _ => 0) (fun _ => 0) zst (fun _ => 0) p1) = some r := by
  by_cases h1 : p1 < 0
  · exact ⟨-1, by simp [F_X11_stay, zr1, h1], by simp [F_X12_stay, F_X12_in, zb1, zr1, h1]⟩
  by_cases h2 : 120 < p1
  · exact ⟨-1, by simp [F_X11_stay, zr1, h1, Int32.not_le.mpr h2], by simp [F_X12_stay, F_X12_in, zb1, zr1, h1, h2]⟩
  obtain ⟨j, hj, rfl⟩ := nI_of2 (M := 120) (n := 120) rfl h1 (Int32.not_lt.mp h2)
  refine ⟨0, ?_, ?_⟩
  · obtain ⟨t', r', up', due', hl⟩ := playOn0 0 4 4 (va_cpy (fun _ => 0) (fun _ => 0) (0 : Int32).toNatClampNeg (0 : Int32).toNatClampNeg (6 : Int32).toNatClampNeg) (va_cpy (fun _ => 0) (fun _ => 0) (0 : Int32).toNatClampNeg (0 : Int32).toNatClampNeg (6 : Int32).toNatClampNeg) (va_cpy (fun _ => 0) (fun _ => 0) (0 : Int32).toNatClampNeg (0 : Int32).toNatClampNeg (6 : Int32).toNatClampNeg) (fun _ => 0) (fun _ => 0) j hj
    unfold F_X11_stay
    rw [if_neg h1, if_pos (Int32.not_lt.mp h2)]
    simp only [F_X8_become, zb7, zb6, Option.bind_some, hl]
    rfl
  · obtain ⟨n1, a1, a2⟩ := asit zst (fun _ => 0)
    obtain ⟨z', e1, e2⟩ := goesOn0 (fun _ => 0) (fun _ => 0) n1 j hj
    unfold F_X12_stay
    rw [show F_X12_in (nI j) 0 120 = some 1 from by simp [F_X12_in, h1, h2]]
    simp only [zb1, Option.bind_some, a1, e1]
    rw [if_neg (by decide)]
    show some (z' 3) = some 0
    rw [e2, a2 3 (by omega)]
    rfl
theorem turn0 (e r v : Int32) : ∃ e' r', F_X8_turn e r v = some (e', r') := by
  unfold F_X8_turn
  split
  · exact ⟨_, _, rfl⟩
  · exact ⟨_, _, rfl⟩
theorem pc0 (j : Nat) (hj : j ≤ 120) : ∀ (n k : Nat) (v2 v3 : Int32) (t e r i : Int32) (up due w : Nat → Int32), 2 ≤ k → k ≤ 10 → 10 - k < n → (v2 = 2 ∧ v3 = 0) ∨ (v2 = 2 ∧ v3 = -1 ∧ k = 2) → ∃ t' e' r' i' up' due' w' v3', L_X11_pace_19 0 4 4 0 (fun _ => 0) (fun _ => 0) (fun _ => 0) 0 (fun _ => 0) (fun _ => 0) (nI j) n t e r i up due w v2 v3 (nI k) = some (t', e', r', i', up', due', w', 2, v3', nI 10) := by
  intro n
  induction n with
  | zero => intro k v2 v3 t e r i up due w h1 h2 h3; omega
  | succ n ih =>
    intro k v2 v3 t e r i up due w h1 h2 h3 hv
    rw [L_X11_pace_19_s]
    by_cases hk : k = 10
    · subst hk
      have hv2 : v2 = 2 := by rcases hv with h | h <;> exact h.1
      subst hv2
      exact ⟨t, e, r, i, up, due, w, v3, by rw [if_pos (by decide)]⟩
    · obtain ⟨e', r', ht⟩ := turn0 4 4 (nI k)
      obtain ⟨t2, r2, up2, due2, hl⟩ := playOn0 0 e' r' (va_cpy (fun _ => 0) up (0 : Int32).toNatClampNeg (0 : Int32).toNatClampNeg (6 : Int32).toNatClampNeg) (va_cpy (fun _ => 0) due (0 : Int32).toNatClampNeg (0 : Int32).toNatClampNeg (6 : Int32).toNatClampNeg) (va_cpy (fun _ => 0) w (0 : Int32).toNatClampNeg (0 : Int32).toNatClampNeg (6 : Int32).toNatClampNeg) (fun _ => 0) (fun _ => 0) j hj
      have hb : F_J6_bitCount_0f7a4 0 = some 0 := by decide +kernel
      have h9 : ¬ (9 : Int32) < nI k := by
        show ¬ nI 9 < nI k
        rw [nI_ltI (by omega) (by omega)]
        omega
      rw [if_neg h9]
      simp only [F_X8_become, zb7, zb2, zb6, zb1, Option.bind_some, ht, hl, hb, nI_1]
      rcases hv with ⟨rfl, rfl⟩ | ⟨rfl, rfl, rfl⟩
      · rw [if_pos (by decide)]
        exact ih (k + 1) 2 0 _ _ _ _ _ _ _ (by omega) (by omega) (by omega) (Or.inl ⟨rfl, rfl⟩)
      · rw [if_neg (by decide)]
        exact ih 3 2 0 _ _ _ _ _ _ _ (by omega) (by omega) (by omega) (Or.inl ⟨rfl, rfl⟩)
theorem turnM (z : Nat → Int32) (v : Int32) : ∃ z', F_X12_turns z v = some z' ∧ z' 3 = z 3 := by
  unfold F_X12_turns
  split
  · exact ⟨_, rfl, rfl⟩
  · exact ⟨_, rfl, rfl⟩
theorem pm0 (j : Nat) (hj : j ≤ 120) : ∀ (n k : Nat) (v2 v3 : Int32) (z : Nat → Int32), 2 ≤ k → k ≤ 10 → 10 - k < n → (v2 = 2 ∧ v3 = 0) ∨ (v3 = -1 ∧ k = 2) → ∃ z' v3', L_X12_pace_19 0 (fun _ => 0) (fun _ => 0) zst (nI j) n z v2 v3 (nI k) = some (z', 2, v3', nI 10) := by
  intro n
  induction n with
  | zero => intro k v2 v3 z h1 h2 h3; omega
  | succ n ih =>
    intro k v2 v3 z h1 h2 h3 hv
    rw [L_X12_pace_19_s]
    by_cases hk : k = 10
    · subst hk
      rcases hv with ⟨rfl, rfl⟩ | ⟨_, h⟩
      · exact ⟨z, 0, by rw [if_pos (by decide)]⟩
      · omega
    · obtain ⟨n1, a1, a2⟩ := asit zst z
      have hb : F_X12_bits 0 = some 0 := by decide +kernel
      have key : ∀ y : Nat → Int32, y 3 = 0 → ∃ z', F_X12_goesOn 0 (fun _ => 0) (fun _ => 0) y (nI j) = some z' ∧ F_X12_bits (z' (3 : Int32).toNatClampNeg) = some 0 := by
        intro y hy
        obtain ⟨z', e1, e2⟩ := goesOn0 (fun _ => 0) (fun _ => 0) y j hj
        refine ⟨z', e1, ?_⟩
        show F_X12_bits (z' 3) = some 0
        rw [e2, hy]
        exact hb
      have h13 : n1 3 = 0 := by rw [a2 3 (by omega)]; rfl
      have h9 : ¬ (10 : Int32) ≤ nI k := by
        show ¬ nI 10 ≤ nI k
        rw [nI_leI (by omega) (by omega)]
        omega
      rw [if_neg h9, a1]
      obtain ⟨z1, g1, g2⟩ := key n1 h13
      obtain ⟨zt1, t1, t2⟩ := turnM n1 (nI k)
      obtain ⟨z2, g3, g4⟩ := key zt1 (by rw [t2, h13])
      simp only [zb1, Option.bind_some, g1, g2, t1, g3, g4, nI_1]
      rcases hv with ⟨rfl, rfl⟩ | ⟨rfl, rfl⟩
      · split
        · rw [if_pos (by decide)]
          exact ih (k + 1) 2 0 _ (by omega) (by omega) (by omega) (Or.inl ⟨rfl, rfl⟩)
        · rw [if_pos (by decide)]
          exact ih (k + 1) 2 0 _ (by omega) (by omega) (by omega) (Or.inl ⟨rfl, rfl⟩)
      · split
        · rw [if_neg (by decide)]
          exact ih 3 2 0 _ (by omega) (by omega) (by omega) (Or.inl ⟨rfl, rfl⟩)
        · rw [if_neg (by decide)]
          exact ih 3 2 0 _ (by omega) (by omega) (by omega) (Or.inl ⟨rfl, rfl⟩)
set_option maxRecDepth 100000 in
theorem qf_pace (p1 : Int32) : ∃ r, zr1 (F_X11_pace 0 4 4 0 (fun _ => 0) (fun _ => 0) (fun _ => 0) 0 0 0 0 (fun _ => 0) (fun _ => 0) (fun _ => 0) 0 (fun _ => 0) (fun _ => 0) p1) = some r ∧ zr1 (F_X12_pace 0 (fun _ => 0) (fun _ => 0) zst (fun _ => 0) p1) = some r := by
  by_cases h1 : p1 < 0
  · exact ⟨-1, by simp [F_X11_pace, zr1, h1], by simp [F_X12_pace, F_X12_in, zb1, zr1, h1]⟩
  by_cases h2 : 120 < p1
  · exact ⟨-1, by simp [F_X11_pace, zr1, h1, Int32.not_le.mpr h2], by simp [F_X12_pace, F_X12_in, zb1, zr1, h1, h2]⟩
  obtain ⟨j, hj, rfl⟩ := nI_of2 (M := 120) (n := 120) rfl h1 (Int32.not_lt.mp h2)
  refine ⟨2, ?_, ?_⟩
  · obtain ⟨t', e', r', i', up', due', w', v3', hl⟩ := pc0 j hj 300 2 2 (-1) 0 0 0 0 (fun _ => 0) (fun _ => 0) (fun _ => 0) (by omega) (by omega) (by omega) (Or.inr ⟨rfl, rfl, rfl⟩)
    unfold F_X11_pace
    rw [if_neg h1, if_pos (Int32.not_lt.mp h2), show (2 : Int32) = nI 2 from rfl, show L_X11_pace_19 0 4 4 0 (fun _ => 0) (fun _ => 0) (fun _ => 0) 0 (fun _ => 0) (fun _ => 0) (nI j) 300 0 0 0 0 (fun _ => 0) (fun _ => 0) (fun _ => 0) (nI 2) (-1) (nI 2) = _ from hl]
    rfl
  · obtain ⟨z', v3', hl⟩ := pm0 j hj 300 2 0 (-1) (fun _ => 0) (by omega) (by omega) (by omega) (Or.inr ⟨rfl, rfl⟩)
    unfold F_X12_pace
    rw [show F_X12_in (nI j) 0 120 = some 1 from by simp [F_X12_in, h1, h2]]
    simp only [zb1, Option.bind_some]
    rw [if_neg (by decide), show L_X12_pace_19 0 (fun _ => 0) (fun _ => 0) zst (nI j) 300 (fun _ => 0) 0 (-1) 2 = _ from hl]
    rfl
set_option maxRecDepth 100000 in
theorem qf_odds (p1 : Int32) (p2 : Int32) (p3 : Int32) : ∃ r, zr1 (F_X11_odds 0 4 4 0 (fun _ => 0) (fun _ => 0) (fun _ => 0) 0 0 0 0 (fun _ => 0) (fun _ => 0) (fun _ => 0) 0 (fun _ => 0) (fun _ => 0) p1 p2 p3) = some r ∧ zr1 (F_X12_odds 0 (fun _ => 0) (fun _ => 0) zst (fun _ => 0) p1 p2 p3) = some r := by
  by_cases a1 : p1 < 0
  · exact ⟨-1, by simp [F_X11_odds, zr1, a1], by simp [F_X12_odds, F_X12_in, zb1, zr1, a1]⟩
  by_cases a2 : 10 < p1
  · exact ⟨-1, by simp [F_X11_odds, zr1, a1, a2], by simp [F_X12_odds, F_X12_in, zb1, zr1, a1, a2]⟩
  by_cases b1 : p2 < 0
  · exact ⟨-1, by simp [F_X11_odds, zr1, a1, a2, b1], by simp [F_X12_odds, F_X12_in, zb1, zr1, a1, a2, b1]⟩
  by_cases b2 : 60 < p2
  · exact ⟨-1, by simp [F_X11_odds, zr1, a1, a2, b1, b2], by simp [F_X12_odds, F_X12_in, zb1, zr1, a1, a2, b1, b2]⟩
  by_cases d1 : p3 < 0
  · exact ⟨-1, by simp [F_X11_odds, zr1, a1, a2, b1, b2, d1], by simp [F_X12_odds, F_X12_in, zb1, zr1, a1, a2, b1, b2, d1]⟩
  by_cases d2 : 1 < p3
  · exact ⟨-1, by simp [F_X11_odds, zr1, a1, a2, b1, b2, d1, Int32.not_le.mpr d2], by simp [F_X12_odds, F_X12_in, zb1, zr1, a1, a2, b1, b2, d1, d2]⟩
  refine ⟨1, ?_, ?_⟩
  · unfold F_X11_odds
    rw [if_neg a1, if_neg a2, if_neg b1, if_neg b2, if_neg d1, if_pos (Int32.not_lt.mp d2)]
    have e40 : L_X11_odds_40 0 4 4 0 (fun _ => 0) (fun _ => 0) (fun _ => 0) 0 (fun _ => 0) (fun _ => 0) p1 p2 300 0 0 0 0 (fun _ => 0) (fun _ => 0) (fun _ => 0) 1 1 0 = some (0, 0, 0, 0, fun _ => 0, fun _ => 0, fun _ => 0, 1, 1, 0) := rfl
    have ec : F_X11_commonDivisor 1 1 = some 1 := by decide +kernel
    rw [e40]
    simp only [zb10, zb1, Option.bind_some, ec]
    rw [if_pos (by decide)]
    split
    · rw [if_neg (by decide)]; rfl
    · rw [if_neg (by decide)]; rfl
  · obtain ⟨j, hj, rfl⟩ := nI_of2 (M := 60) (n := 60) rfl b1 (Int32.not_lt.mp b2)
    obtain ⟨n1, hn⟩ := allStay0 (fun _ => 0) (fun _ => 0) (fun _ => 0) 0 j hj
    unfold F_X12_odds
    rw [show F_X12_in p1 0 10 = some 1 from by simp [F_X12_in, a1, a2], show F_X12_in (nI j) 0 60 = some 1 from by simp [F_X12_in, b1, b2], show F_X12_in p3 0 1 = some 1 from by simp [F_X12_in, d1, d2]]
    have e71 : L_X12_odds_71 0 zst p1 0 300 1 0 = some (1, 0) := rfl
    have e40 : L_X12_odds_40 0 (fun _ => 0) (fun _ => 0) zst p1 (nI j) 300 (fun _ => 0) 0 0 0 = some (n1, 1, 1, 1) := by
      rw [show (300 : Nat) = 298 + 1 + 1 from rfl, L_X12_odds_40_s, if_neg (by decide), if_pos (by decide), e71]
      simp only [zb2, Option.bind_some, hn]
      rw [if_neg (by decide), if_neg (by decide), L_X12_odds_40_s, if_pos (by decide)]
      rfl
    have ec : F_X12_divisor 1 1 = some 1 := by decide +kernel
    simp only [zb1, zb4, Option.bind_some, e40, ec]
    rw [if_neg (by decide), if_neg (by decide), if_neg (by decide)]
    split
    · rw [if_neg (by decide)]; rfl
    · rw [if_neg (by decide)]; rfl
theorem qf_trace : F_X11_trace 0 = some 0 ∧ F_X12_trace 0 = some 0 := ⟨rfl, rfl⟩
