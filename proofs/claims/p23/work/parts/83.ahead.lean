/-! what comes: both sides -/
theorem n10 : ¬ (1 : Int32) = 0 := by decide
section AHEAD
variable {k : Nat} {p h p' h' : Nat → Int32} {t e r i : Int32} {up due w st : Nat → Int32}
theorem stay_s (hk : k ≤ 6) (hC : CR k p h p' h') (hS : SQ k t e r i up due w st) (t0 e0 r0 i0 : Int32) (up0 due0 w0 now : Nat → Int32) (x : Int32) : ∃ v t' e' r' i' up' due' w' now', F_X11_stay t e r i up due w t0 e0 r0 i0 up0 due0 w0 (nI k) p h x = some (v, t', e', r', i', up', due', w') ∧ F_X12_stay (nI k) p' h' st now x = some (v, now') := by
  unfold F_X11_stay F_X12_stay
  rcases in_c (x := x) (a := 0) (b := 120) (by omega) (by omega) with ⟨h3, h4⟩ | ⟨m, m1, m2, rfl, h3⟩
  · rw [show F_X12_in x 0 120 = some 0 from h3]
    simp only [zb1, Option.bind_some, if_true]
    rcases h4 with h4 | h4
    · rw [if_pos (show x < 0 from h4)]
      exact ⟨_, _, _, _, _, _, _, _, _, rfl, rfl⟩
    · rw [if_neg (show ¬ x < 0 from fun z => Int32.lt_irrefl (Int32.lt_trans (Int32.lt_trans z (show (0 : Int32) < nI 120 by decide +kernel)) h4)), if_neg (show ¬ x ≤ 120 from Int32.not_le.mpr h4)]
      exact ⟨_, _, _, _, _, _, _, _, _, rfl, rfl⟩
  · rw [show F_X12_in (nI m) 0 120 = some 1 from h3, if_neg (nI_pos (by omega)), if_pos (show nI m ≤ 120 from nI_le (b := 120) m2 (by omega))]
    obtain ⟨a, rfl, ht, hs⟩ := hS
    obtain ⟨u1, d1, w1, b1, b2⟩ := bec t e r (nI a) up due w up0 due0 w0
    obtain ⟨z1, a1, a2⟩ := asit st now
    have hS1 := SR_cp hk hs b2 a2
    obtain ⟨b, t', r', up', due', w', z', q1, q2, q3⟩ := po_s hk hC m2 hS1
    simp only [zb1, Option.bind_some]
    rw [if_neg n10, b1, a1]
    simp only [zb7, Option.bind_some]
    rw [q1, q2]
    simp only [zb6, Option.bind_some]
    rw [cl_3, q3.2.1]
    exact ⟨_, _, _, _, _, _, _, _, _, rfl, rfl⟩
theorem n9 {v : Nat} (h : v ≤ 9) : ¬ (9 : Int32) < nI v := nI_nlt (a := 9) h (by omega)
theorem pc_l (hk : k ≤ 6) (hC : CR k p h p' h') (m : Nat) (hm : m ≤ 120) (a : Nat) (hS : SR k a t e r up due w st) : ∀ (n v : Nat) (t0 e0 r0 i0 : Int32) (up0 due0 w0 now : Nat → Int32) (b b' c : Int32), 2 ≤ v → v ≤ 10 → 10 - v < n → (b = b' ∨ (c = -1 ∧ v ≤ 9)) → ∃ x y t' e' r' i' up' due' w' now', L_X11_pace_19 t e r (nI a) up due w (nI k) p h (nI m) n t0 e0 r0 i0 up0 due0 w0 b c (nI v) = some (t', e', r', i', up', due', w', x, y, nI 10) ∧ L_X12_pace_19 (nI k) p' h' st (nI m) n now b' c (nI v) = some (now', x, y, nI 10) := by
  intro n
  induction n with
  | zero => intro v t0 e0 r0 i0 up0 due0 w0 now b b' c h1 h2 h3; omega
  | succ n ih =>
    intro v t0 e0 r0 i0 up0 due0 w0 now b b' c h1 h2 h3 h4
    rw [L_X11_pace_19_s, L_X12_pace_19_s]
    by_cases hv : v = 10
    · subst hv
      rw [if_pos (by decide +kernel), if_pos (by decide +kernel)]
      rcases h4 with rfl | ⟨_, h4⟩
      · exact ⟨_, _, _, _, _, _, _, _, _, _, rfl, rfl⟩
      · omega
    · rw [if_neg (n9 (by omega)), if_neg (show ¬ (10 : Int32) ≤ nI v from nI_ge (b := 10) (by omega) (by omega))]
      obtain ⟨u1, d1, w1, b1, b2⟩ := bec t e r (nI a) up due w up0 due0 w0
      obtain ⟨z1, a1, a2⟩ := asit st now
      have hS1 := SR_cp hk hS b2 a2
      rw [b1, a1]
      simp only [zb7, zb1, Option.bind_some]
      have fin : ∀ (t' e' r' : Int32) (bb : Nat) (up' due' w' z' : Nat → Int32), bb < 64 → ∃ cnt, cnt ≤ 6 ∧ F_J6_bitCount_0f7a4 (nI bb) = some (nI cnt) ∧ F_X12_bits (nI bb) = some (nI cnt) ∧ ∃ x y t'' e'' r'' i'' up'' due'' w'' now'', (if nI cnt ≤ c then L_X11_pace_19 t e r (nI a) up due w (nI k) p h (nI m) n t' e' r' (nI bb) up' due' w' b c (nI v + 1) else L_X11_pace_19 t e r (nI a) up due w (nI k) p h (nI m) n t' e' r' (nI bb) up' due' w' (nI v) (nI cnt) (nI v + 1)) = some (t'', e'', r'', i'', up'', due'', w'', x, y, nI 10) ∧ (if nI cnt ≤ c then L_X12_pace_19 (nI k) p' h' st (nI m) n z' b' c (nI v + 1) else L_X12_pace_19 (nI k) p' h' st (nI m) n z' (nI v) (nI cnt) (nI v + 1)) = some (now'', x, y, nI 10) := by
        intro t' e' r' bb up' due' w' z' hb
        obtain ⟨cnt, c1, c2, c3⟩ := bm_cnt bb hb
        refine ⟨cnt, c1, c2, c3, ?_⟩
        rw [nI_1]
        by_cases hc : nI cnt ≤ c
        · rw [if_pos hc, if_pos hc]
          rcases h4 with rfl | ⟨rfl, _⟩
          · exact ih (v + 1) t' e' r' (nI bb) up' due' w' z' b b c (by omega) (by omega) (by omega) (Or.inl rfl)
          · exact absurd (Int32.le_trans (nI_pos' (show cnt < 2 ^ 31 by omega)) hc) (by decide)
        · rw [if_neg hc, if_neg hc]
          exact ih (v + 1) t' e' r' (nI bb) up' due' w' z' (nI v) (nI v) (nI cnt) (by omega) (by omega) (by omega) (Or.inl rfl)
      have ee : st 1 = e := hS.2.2.2.1.symm
      rw [cl_1, ee]
      by_cases c1 : nI v = e
      · rw [if_pos c1]
        unfold F_X8_turn
        rw [if_pos c1]
        simp only [zb2, Option.bind_some]
        obtain ⟨b, t', r', up', due', w', z', q1, q2, q3⟩ := po_s hk hC hm hS1
        rw [q1, q2]
        simp only [zb6, Option.bind_some]
        obtain ⟨cnt, f1, f2, f3, f4⟩ := fin t' e r' b up' due' w' z' (p64 q3.1 hk)
        rw [f2, cl_3, q3.2.1, f3]
        exact f4
      · rw [if_neg c1]
        obtain ⟨r1, z2, g1, g2, g3⟩ := SR_turn hS1 h1 (show v ≤ 9 by omega) c1
        rw [g1, g2]
        simp only [zb2, Option.bind_some]
        obtain ⟨b, t', r', up', due', w', z', q1, q2, q3⟩ := po_s hk hC hm g3
        rw [q1, q2]
        simp only [zb6, Option.bind_some]
        obtain ⟨cnt, f1, f2, f3, f4⟩ := fin t' (nI v) r' b up' due' w' z' (p64 q3.1 hk)
        rw [f2, cl_3, q3.2.1, f3]
        exact f4
theorem pace_s (hk : k ≤ 6) (hC : CR k p h p' h') (hS : SQ k t e r i up due w st) (t0 e0 r0 i0 : Int32) (up0 due0 w0 now : Nat → Int32) (x : Int32) : ∃ v t' e' r' i' up' due' w' now', F_X11_pace t e r i up due w t0 e0 r0 i0 up0 due0 w0 (nI k) p h x = some (v, t', e', r', i', up', due', w') ∧ F_X12_pace (nI k) p' h' st now x = some (v, now') := by
  unfold F_X11_pace F_X12_pace
  rcases in_c (x := x) (a := 0) (b := 120) (by omega) (by omega) with ⟨h3, h4⟩ | ⟨m, m1, m2, rfl, h3⟩
  · rw [show F_X12_in x 0 120 = some 0 from h3]
    simp only [zb1, Option.bind_some, if_true]
    rcases h4 with h4 | h4
    · rw [if_pos (show x < 0 from h4)]
      exact ⟨_, _, _, _, _, _, _, _, _, rfl, rfl⟩
    · rw [if_neg (show ¬ x < 0 from fun z => Int32.lt_irrefl (Int32.lt_trans (Int32.lt_trans z (show (0 : Int32) < nI 120 by decide +kernel)) h4)), if_neg (show ¬ x ≤ 120 from Int32.not_le.mpr h4)]
      exact ⟨_, _, _, _, _, _, _, _, _, rfl, rfl⟩
  · rw [show F_X12_in (nI m) 0 120 = some 1 from h3, if_neg (nI_pos (by omega)), if_pos (show nI m ≤ 120 from nI_le (b := 120) m2 (by omega))]
    obtain ⟨a, rfl, ht, hs⟩ := hS
    obtain ⟨x, y, t', e', r', i', up', due', w', now', q1, q2⟩ := pc_l hk hC m m2 a hs 300 2 t0 e0 r0 i0 up0 due0 w0 now 2 0 (-1) (by omega) (by omega) (by omega) (Or.inr ⟨rfl, by omega⟩)
    simp only [zb1, Option.bind_some]
    rw [if_neg n10, show L_X11_pace_19 t e r (nI a) up due w (nI k) p h (nI m) 300 t0 e0 r0 i0 up0 due0 w0 2 (-1) 2 = _ from q1, show L_X12_pace_19 (nI k) p' h' st (nI m) 300 now 0 (-1) 2 = _ from q2]
    exact ⟨_, _, _, _, _, _, _, _, _, rfl, rfl⟩
theorem en_l (hk : k ≤ 6) (hC : CR k p h p' h') (j : Nat) (hj : j < k) (a : Nat) (hS : SR k a t e r up due w st) : ∀ (n v : Nat) (t0 e0 r0 i0 : Int32) (up0 due0 w0 now : Nat → Int32) (b c c' : Int32), v ≤ 12 → 12 - v < n → (c = c' ∨ (c = 0 ∧ c' = -1)) → ∃ x y y' t' e' r' i' up' due' w' now', L_X11_entry_31 t e r (nI a) up due w (nI k) p h (nI j) n t0 e0 r0 i0 up0 due0 w0 b c (nI v) = some (t', e', r', i', up', due', w', x, y, nI 12) ∧ L_X12_entry_33 (nI k) p' h' st (nI j) n now b c' (nI v) = some (now', x, y', nI 12) := by
  intro n
  induction n with
  | zero => intro v t0 e0 r0 i0 up0 due0 w0 now b c c' h2 h3; omega
  | succ n ih =>
    intro v t0 e0 r0 i0 up0 due0 w0 now b c c' h2 h3 h4
    rw [L_X11_entry_31_s, L_X12_entry_33_s]
    by_cases hv : v = 12
    · subst hv
      rw [if_pos (by decide +kernel), if_pos (by decide +kernel)]
      exact ⟨_, _, _, _, _, _, _, _, _, _, _, rfl, rfl⟩
    · rw [if_neg (show ¬ (11 : Int32) < nI v from nI_nlt (a := 11) (by omega) (by omega)), if_neg (show ¬ (12 : Int32) ≤ nI v from nI_ge (b := 12) (by omega) (by omega))]
      obtain ⟨u1, d1, w1, b1, b2⟩ := bec t e r (nI a) up due w up0 due0 w0
      obtain ⟨z1, a1, a2⟩ := asit st now
      have hS1 := SR_cp hk hS b2 a2
      obtain ⟨z2, g1, g2, g3⟩ := SR_in hk hS1 hj (show v ≤ 12 by omega)
      obtain ⟨x, t', r', i', up', due', w', z', q1, q2, q3⟩ := to_s hk hC (show j < 6 by omega) g3
      rw [b1, a1]
      simp only [zb7, zb1, Option.bind_some]
      rw [g1, g2]
      simp only [zb3, Option.bind_some]
      rw [q1, q2]
      simp only [zb2, Option.bind_some, nI_1]
      have go : ∀ L : Int32, 0 < L → ∃ x y y' t'' e'' r'' i'' up'' due'' w'' now'', (if L ≤ c then L_X11_entry_31 t e r (nI a) up due w (nI k) p h (nI j) n t' e r' i' up' due' w' b c (nI (v + 1)) else L_X11_entry_31 t e r (nI a) up due w (nI k) p h (nI j) n t' e r' i' up' due' w' (nI v) L (nI (v + 1))) = some (t'', e'', r'', i'', up'', due'', w'', x, y, nI 12) ∧ (if L ≤ c' then L_X12_entry_33 (nI k) p' h' st (nI j) n z' b c' (nI (v + 1)) else L_X12_entry_33 (nI k) p' h' st (nI j) n z' (nI v) L (nI (v + 1))) = some (now'', x, y', nI 12) := by
        intro L hL
        rcases h4 with rfl | ⟨rfl, rfl⟩
        · by_cases hc : L ≤ c
          · rw [if_pos hc, if_pos hc]
            exact ih (v + 1) t' e r' i' up' due' w' z' b c c (by omega) (by omega) (Or.inl rfl)
          · rw [if_neg hc, if_neg hc]
            exact ih (v + 1) t' e r' i' up' due' w' z' (nI v) L L (by omega) (by omega) (Or.inl rfl)
        · rw [if_neg (Int32.not_le.mpr hL), if_neg (Int32.not_le.mpr (Int32.lt_trans (show (-1 : Int32) < 0 by decide) hL))]
          exact ih (v + 1) t' e r' i' up' due' w' z' (nI v) L L (by omega) (by omega) (Or.inl rfl)
      rcases q3 with rfl | ⟨u, u1, u2, rfl⟩
      · rw [if_pos rfl, if_pos rfl]
        exact go 121 (by decide)
      · have hne : ¬ nI u = -9 := fun y => absurd (y ▸ nI_pos' (show u < 2 ^ 31 by omega) : (0 : Int32) ≤ -9) (by decide)
        rw [if_neg hne, if_neg hne]
        exact go (nI u) (nI_lt (a := 0) u1 (by omega))
theorem entry_s (hk : k ≤ 6) (hC : CR k p h p' h') (hS : SQ k t e r i up due w st) (t0 e0 r0 i0 : Int32) (up0 due0 w0 now : Nat → Int32) (x : Int32) : ∃ v t' e' r' i' up' due' w' now', F_X11_entry t e r i up due w t0 e0 r0 i0 up0 due0 w0 (nI k) p h x = some (v, t', e', r', i', up', due', w') ∧ F_X12_entry (nI k) p' h' st now x = some (v, now') := by
  unfold F_X11_entry F_X12_entry
  rcases nob_c k hk x with ⟨h1, h2⟩ | ⟨j, hj, rfl, h1, h2⟩
  · rw [h1, h2]
    simp only [zb1, Option.bind_some, if_true]
    rw [if_neg n10]
    exact ⟨_, _, _, _, _, _, _, _, _, rfl, rfl⟩
  · rw [h1, h2]
    simp only [zb1, Option.bind_some, if_true]
    rw [if_neg n10, cl_3]
    rcases SQ_has hk hS hj with ⟨g1, g2⟩ | ⟨g1, g2⟩
    · rw [g1, g2]
      simp only [Option.bind_some, if_true]
      obtain ⟨a, rfl, ht, hs⟩ := hS
      obtain ⟨x, y, y', t', e', r', i', up', due', w', now', q1, q2⟩ := en_l hk hC j hj a hs 300 0 t0 e0 r0 i0 up0 due0 w0 now 0 0 (-1) (by omega) (by omega) (Or.inr ⟨rfl, rfl⟩)
      rw [show L_X11_entry_31 t e r (nI a) up due w (nI k) p h (nI j) 300 t0 e0 r0 i0 up0 due0 w0 0 0 0 = _ from q1, show L_X12_entry_33 (nI k) p' h' st (nI j) 300 now 0 (-1) 0 = _ from q2]
      exact ⟨_, _, _, _, _, _, _, _, _, rfl, rfl⟩
    · rw [g1, g2]
      simp only [Option.bind_some]
      rw [if_neg n10, if_neg n10]
      exact ⟨_, _, _, _, _, _, _, _, _, rfl, rfl⟩
theorem now_s (hk : k ≤ 6) (hC : CR k p h p' h') (hS : SQ k t e r i up due w st) (t0 e0 r0 i0 : Int32) (up0 due0 w0 now : Nat → Int32) (us x : Int32) : ∃ v t' e' r' i' up' due' w' now', F_X11_now t e r i up due w t0 e0 r0 i0 up0 due0 w0 (nI k) p h us x = some (v, t', e', r', i', up', due', w') ∧ F_X12_now (nI k) us p' h' st now x = some (v, now') := by
  obtain ⟨a, rfl, ht, hs⟩ := hS
  have hs' := hs
  obtain ⟨s1, s2, s3, s4, s5, s6, s7, s8, s9⟩ := hs'
  obtain ⟨⟨v1, t1, e1, r1, i1, up1, due1, w1, z1, f1, f2⟩, hf⟩ := tf_s hk hC hs up0 due0 w0 now
  unfold F_X11_now F_X12_now
  rw [cl_0, cl_1, cl_2, cl_3, ← s3, ← s4, ← s5, s2]
  by_cases x0 : x = 0
  · rw [if_pos x0, if_pos x0]; exact ⟨_, _, _, _, _, _, _, _, _, rfl, rfl⟩
  rw [if_neg x0, if_neg x0]
  by_cases x1 : x = 1
  · rw [if_pos x1, if_pos x1]; exact ⟨_, _, _, _, _, _, _, _, _, rfl, rfl⟩
  rw [if_neg x1, if_neg x1]
  by_cases x2 : x = 2
  · rw [if_pos x2, if_pos x2]; exact ⟨_, _, _, _, _, _, _, _, _, rfl, rfl⟩
  rw [if_neg x2, if_neg x2]
  by_cases x3 : x = 3
  · rw [if_pos x3, if_pos x3]; exact ⟨_, _, _, _, _, _, _, _, _, rfl, rfl⟩
  rw [if_neg x3, if_neg x3]
  by_cases x4 : x = 4
  · subst x4
    rw [if_pos rfl, if_pos rfl, f1, f2]; exact ⟨_, _, _, _, _, _, _, _, _, rfl, rfl⟩
  rw [if_neg x4, if_neg x4]
  by_cases x5 : x = 5
  · obtain ⟨v1, t1, e1, r1, i1, up1, due1, w1, z1, f1, f2⟩ := hf x x4
    rw [if_pos x5, if_pos x5, f1, f2]; exact ⟨_, _, _, _, _, _, _, _, _, rfl, rfl⟩
  rw [if_neg x5, if_neg x5]
  by_cases x6 : x = 6
  · rw [if_pos x6, if_pos x6]; exact ⟨_, _, _, _, _, _, _, _, _, rfl, rfl⟩
  rw [if_neg x6, if_neg x6]; exact ⟨_, _, _, _, _, _, _, _, _, rfl, rfl⟩
/-- of one who is OUT the answers to 4 may differ -/
theorem jumper_s (hk : k ≤ 6) (hC : CR k p h p' h') (hS : SQ k t e r i up due w st) (t0 e0 r0 i0 : Int32) (up0 due0 w0 now : Nat → Int32) (x y : Int32) : ∃ v t' e' r' i' up' due' w' v' now', F_X11_jumper t e r i up due w t0 e0 r0 i0 up0 due0 w0 (nI k) p h x y = some (v, t', e', r', i', up', due', w') ∧ F_X12_jumper (nI k) p' h' st now x y = some (v', now') ∧ (¬ y = 4 → v = v') := by
  unfold F_X11_jumper F_X12_jumper
  rcases nob_c k hk x with ⟨h1, h2⟩ | ⟨j, hj, rfl, h1, h2⟩
  · rw [h1, h2]
    simp only [zb1, Option.bind_some, if_true]
    rw [if_neg n10]
    exact ⟨_, _, _, _, _, _, _, _, _, _, rfl, rfl, fun _ => rfl⟩
  · rw [h1, h2]
    simp only [zb1, Option.bind_some, if_true]
    obtain ⟨c1, c2, c3, c4⟩ := hC j hj
    have hS' := hS
    obtain ⟨a, rfl, ht, hs⟩ := hS'
    have hs' := hs
    obtain ⟨s1, s2, s3, s4, s5, s6, s7, s8, s9⟩ := hs'
    have h64 := p64 s1 hk
    rw [if_neg n10, cl_3, s2, bm_has a h64 j (by omega), n_4, n_10, n_16, if_neg (nI_in (by omega) (by omega)), if_neg (nI_in (show 16 + j < 22 by omega) (by omega)), if_neg (nI_in (show 4 + j < 22 by omega) (by omega)), if_neg (nI_in (show 10 + j < 22 by omega) (by omega)), nI_clamp (by omega), nI_clamp (by omega), nI_clamp (by omega), nI_clamp (by omega)]
    simp only [Option.bind_some, if_neg (nin (show j < 6 by omega) (by omega))]
    by_cases x0 : y = 0
    · rw [if_pos x0, if_pos x0]; exact ⟨_, _, _, _, _, _, _, _, _, _, rfl, rfl, fun _ => c1⟩
    rw [if_neg x0, if_neg x0]
    by_cases x1 : y = 1
    · rw [if_pos x1, if_pos x1]; exact ⟨_, _, _, _, _, _, _, _, _, _, rfl, rfl, fun _ => c2⟩
    rw [if_neg x1, if_neg x1]
    by_cases x2 : y = 2
    · rw [if_pos x2, if_pos x2]; exact ⟨_, _, _, _, _, _, _, _, _, _, rfl, rfl, fun _ => s8 j hj⟩
    rw [if_neg x2, if_neg x2]
    by_cases x3 : y = 3
    · rw [if_pos x3, if_pos x3, bm_holds a h64 j (by omega)]
      simp only [Option.bind_some]
      cases a.testBit j
      · exact ⟨_, _, _, _, _, _, _, _, _, _, rfl, rfl, fun _ => rfl⟩
      · exact ⟨_, _, _, _, _, _, _, _, _, _, rfl, rfl, fun _ => rfl⟩
    rw [if_neg x3, if_neg x3]
    by_cases x4 : y = 4
    · rw [if_pos x4, if_pos x4]; exact ⟨_, _, _, _, _, _, _, _, _, _, rfl, rfl, fun q => absurd x4 q⟩
    rw [if_neg x4, if_neg x4]
    by_cases x5 : y = 5
    · rw [if_pos x5, if_pos x5, bm_holds a h64 j (by omega)]
      simp only [Option.bind_some]
      cases tb : a.testBit j
      · exact ⟨_, _, _, _, _, _, _, _, _, _, rfl, rfl, fun _ => rfl⟩
      · exact ⟨_, _, _, _, _, _, _, _, _, _, rfl, rfl, fun _ => (s9 j (by omega) tb).2.1⟩
    rw [if_neg x5, if_neg x5]
    by_cases x6 : y = 6
    · rw [if_pos x6, if_pos x6]
      obtain ⟨u1, d1, w1, b1, b2⟩ := bec t e r (nI a) up due w up0 due0 w0
      obtain ⟨z1, a1, a2⟩ := asit st now
      have hS1 := SR_cp hk hs b2 a2
      obtain ⟨x, t', r', i', up', due', w', z', q1, q2, q3⟩ := to_s hk hC (show j < 6 by omega) hS1
      unfold F_X11_tripNow
      rw [bm_holds a h64 j (by omega), a1]
      simp only [zb1, Option.bind_some]
      cases tb : a.testBit j
      · exact ⟨_, _, _, _, _, _, _, _, _, _, rfl, rfl, fun _ => rfl⟩
      · rw [if_pos rfl, if_neg n10, if_neg n10, b1]
        simp only [zb7, Option.bind_some]
        rw [q1, q2]
        exact ⟨_, _, _, _, _, _, _, _, _, _, rfl, rfl, fun _ => rfl⟩
    rw [if_neg x6, if_neg x6]; exact ⟨_, _, _, _, _, _, _, _, _, _, rfl, rfl, fun _ => rfl⟩
end AHEAD
