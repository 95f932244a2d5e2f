/-! what is done: both sides -/
theorem in_c {x : Int32} {a b : Nat} (ha : a < 2 ^ 31) (hb : b < 2 ^ 31) : (F_X12_in x (nI a) (nI b) = some 0 ∧ (x < nI a ∨ nI b < x)) ∨ ∃ v, a ≤ v ∧ v ≤ b ∧ x = nI v ∧ F_X12_in x (nI a) (nI b) = some 1 := by
  unfold F_X12_in
  by_cases h1 : x < nI a
  · rw [if_pos h1]; exact Or.inl ⟨rfl, Or.inl h1⟩
  · by_cases h2 : nI b < x
    · rw [if_neg h1, if_pos h2]; exact Or.inl ⟨rfl, Or.inr h2⟩
    · rw [if_neg h1, if_neg h2]
      obtain ⟨v, e1, e2, e3⟩ := rng ha hb h1 h2
      exact Or.inr ⟨v, e1, e2, e3, rfl⟩
theorem nob_c (k : Nat) (hk : k ≤ 6) (x : Int32) : (F_X11_isNobody (nI k) x = some 1 ∧ F_X12_isJumper (nI k) x = some 0) ∨ ∃ j, j < k ∧ x = nI j ∧ F_X11_isNobody (nI k) x = some 0 ∧ F_X12_isJumper (nI k) x = some 1 := by
  unfold F_X11_isNobody F_X12_isJumper F_X12_in
  by_cases h1 : x < 0
  · rw [if_pos h1, if_pos h1]; exact Or.inl ⟨rfl, rfl⟩
  · rw [if_neg h1, if_neg h1]
    obtain ⟨j, hj, rfl⟩ := nI_of h1
    have hs : nI k - 1 < nI j ↔ ¬ j < k := by
      rw [Int32.lt_iff_toInt_lt, show (nI k - 1 : Int32) = nI k - nI 1 from rfl, pk_sub_toInt (by omega) (by omega), nI_toInt hj]
      omega
    by_cases h2 : j < k
    · rw [if_pos (nI_lt h2 (by omega)), if_neg (fun y => hs.1 y h2)]
      exact Or.inr ⟨j, h2, rfl, rfl, rfl⟩
    · rw [if_neg (nI_nlt (by omega) hj), if_pos (hs.2 h2)]
      exact Or.inl ⟨rfl, rfl⟩
theorem SR_turn {k a : Nat} {t e r : Int32} {up due w z : Nat → Int32} (hS : SR k a t e r up due w z) {v : Nat} (h2 : 2 ≤ v) (h9 : v ≤ 9) (hne : ¬ nI v = e) : ∃ r' z', F_X8_turn e r (nI v) = some (nI v, r') ∧ F_X12_turns z (nI v) = some z' ∧ SR k a t (nI v) r' up due w z' := by
  obtain ⟨s1, s2, s3, s4, s5, s6, ⟨rv, r1, r2, r3⟩, s8, s9⟩ := hS
  unfold F_X8_turn F_X12_turns
  rw [if_neg hne, cl_1, cl_2, pk_un (show (2 : Nat) ≠ 1 by decide), ← s5, r3]
  by_cases c : v < rv
  · rw [if_pos (nI_lt c (by omega)), if_neg (nI_ge c (by omega))]
    refine ⟨_, _, rfl, rfl, s1, ?_, ?_, ?_, ?_, ⟨v, h2, h9, rfl⟩, ⟨v, by omega, by omega, rfl⟩, fun j hj => ?_, fun j hj tb => ?_⟩
    · rw [pk_un (by decide), pk_un (by decide)]; exact s2
    · rw [pk_un (by decide), pk_un (by decide)]; exact s3
    · rw [pk_un (by decide), pk_us]
    · rw [pk_us]
    · rw [pk_un (by omega), pk_un (by omega)]; exact s8 j hj
    · rw [pk_un (by omega), pk_un (by omega), pk_un (by omega), pk_un (by omega)]; exact s9 j hj tb
  · rw [if_neg (nI_nlt (by omega) (by omega)), if_pos (nI_le (by omega) (by omega))]
    refine ⟨_, _, rfl, rfl, s1, ?_, ?_, ?_, ?_, ⟨v, h2, h9, rfl⟩, ⟨rv, by omega, by omega, rfl⟩, fun j hj => ?_, fun j hj tb => ?_⟩
    · rw [pk_un (by decide), pk_un (by decide)]; exact s2
    · rw [pk_un (by decide), pk_un (by decide)]; exact s3
    · rw [pk_un (by decide), pk_us]
    · rw [pk_us]
    · rw [pk_un (by omega), pk_un (by omega)]; exact s8 j hj
    · rw [pk_un (by omega), pk_un (by omega), pk_un (by omega), pk_un (by omega)]; exact s9 j hj tb
theorem SR_out {k a : Nat} (hk : k ≤ 6) {t e r : Int32} {up due w z : Nat → Int32} (hS : SR k a t e r up due w z) {j : Nat} (hj : j < k) : ∃ z', F_X8_leave (nI a) (nI j) = some (nI (a &&& (63 ^^^ 2 ^ j))) ∧ F_X12_outs z (nI j) = some z' ∧ SR k (a &&& (63 ^^^ 2 ^ j)) t e r up due w z' := by
  obtain ⟨s1, s2, s3, s4, s5, s6, s7, s8, s9⟩ := hS
  have h64 := p64 s1 hk
  unfold F_X8_leave F_X12_outs
  rw [n_4, n_10, if_neg (nI_in (by omega) (by omega)), if_neg (nI_in (by omega) (by omega)), cl_3, s2, bm_out a h64 j (by omega), nI_clamp (by omega), nI_clamp (by omega)]
  refine ⟨_, rfl, rfl, dif_lt s1, ?_, ?_, ?_, ?_, s6, s7, fun x hx => ?_, fun x hx tb => ?_⟩
  · rw [pk_un (by omega), pk_un (by omega), pk_us]
  · rw [pk_un (by omega), pk_un (by omega), pk_un (by omega)]; exact s3
  · rw [pk_un (by omega), pk_un (by omega), pk_un (by omega)]; exact s4
  · rw [pk_un (by omega), pk_un (by omega), pk_un (by omega)]; exact s5
  · rw [pk_un (by omega), pk_un (by omega), pk_un (by omega)]; exact s8 x hx
  · rw [tb_dif hx, Nat.testBit_two_pow] at tb
    obtain ⟨t1, t2⟩ := Bool.and_eq_true_iff.mp tb
    have hne : x ≠ j := fun y => by subst y; simp at t2
    rw [pk_un (by omega), pk_un (by omega), pk_un (by omega), pk_un (by omega), pk_un (by omega), pk_un (by omega)]
    exact s9 x hx t1
theorem SR_in {k a : Nat} (hk : k ≤ 6) {t e r : Int32} {up due w z : Nat → Int32} (hS : SR k a t e r up due w z) {j d : Nat} (hj : j < k) (hd : d ≤ 12) : ∃ z', F_X8_enter (nI a) up due (nI j) (nI d) = some (nI (a ||| 2 ^ j), upd up j 0, upd due j (nI d)) ∧ F_X12_enters z (nI j) (nI d) = some z' ∧ SR k (a ||| 2 ^ j) t e r (upd up j 0) (upd due j (nI d)) w z' := by
  obtain ⟨s1, s2, s3, s4, s5, s6, s7, s8, s9⟩ := hS
  have h64 := p64 s1 hk
  unfold F_X8_enter F_X12_enters
  rw [n_4, n_10, if_neg (nI_in (by omega) (by omega)), if_neg (nI_in (by omega) (by omega)), if_neg (nI_in (by omega) (by omega)), cl_3, s2, bm_or a h64 j (by omega), nI_clamp (by omega), nI_clamp (by omega), nI_clamp (by omega)]
  refine ⟨_, rfl, rfl, Nat.or_lt_two_pow s1 (Nat.pow_lt_pow_right (by decide) hj), ?_, ?_, ?_, ?_, s6, s7, fun x hx => ?_, fun x hx tb => ?_⟩
  · rw [pk_un (by omega), pk_un (by omega), pk_us]
  · rw [pk_un (by omega), pk_un (by omega), pk_un (by omega)]; exact s3
  · rw [pk_un (by omega), pk_un (by omega), pk_un (by omega)]; exact s4
  · rw [pk_un (by omega), pk_un (by omega), pk_un (by omega)]; exact s5
  · rw [pk_un (by omega), pk_un (by omega), pk_un (by omega)]; exact s8 x hx
  · by_cases e : x = j
    · subst e
      rw [pk_us, pk_us, pk_un (show 4 + x ≠ 10 + x by omega), pk_us, pk_us]
      exact ⟨rfl, rfl, ⟨0, by omega, rfl⟩, ⟨d, hd, rfl⟩⟩
    · rw [Nat.testBit_or, Nat.testBit_two_pow, decide_eq_false (fun y => e y.symm), Bool.or_false] at tb
      rw [pk_un e, pk_un e, pk_un (by omega), pk_un (by omega), pk_un (by omega), pk_un (by omega), pk_un (by omega), pk_un (by omega)]
      exact s9 x hx tb
theorem SQ_has {k : Nat} (hk : k ≤ 6) {t e r i : Int32} {up due w z : Nat → Int32} (hS : SQ k t e r i up due w z) {j : Nat} (hj : j < k) : (F_X8_holds i (nI j) = some 0 ∧ F_X12_has (z 3) (nI j) = some 0) ∨ (F_X8_holds i (nI j) = some 1 ∧ F_X12_has (z 3) (nI j) = some 1) := by
  obtain ⟨a, rfl, _, h⟩ := hS
  have h64 := p64 h.1 hk
  rw [h.2.1, bm_holds a h64 j (by omega), bm_has a h64 j (by omega)]
  cases a.testBit j
  · exact Or.inl ⟨rfl, rfl⟩
  · exact Or.inr ⟨rfl, rfl⟩
section DO
variable {k : Nat} {p h p' h' : Nat → Int32} {nx us mu : Int32} {qt qe qr qi : Nat → Int32} {qu qd qw : Nat → Nat → Int32} {book : Nat → Int32} {t e r i : Int32} {up due w st : Nat → Int32}
theorem ticks_s (hk : k ≤ 6) (hC : CR k p h p' h') (hR : IR k nx us qt qe qr qi qu qd qw mu book) (hS : SQ k t e r i up due w st) : ∃ v t' r' i' up' due' w' nx' us' qt' qe' qr' qi' qu' qd' qw' mu' st' book', F_X11_ticks t e r i up due w nx us qt qe qr qi qu qd qw (nI k) p h = some (v, t', r', i', up', due', w', nx', us', qt', qe', qr', qi', qu', qd', qw') ∧ F_X12_ticks (nI k) mu p' h' st book = some (v, mu', st', book') ∧ SQ k t' e r' i' up' due' w' st' ∧ IR k nx' us' qt' qe' qr' qi' qu' qd' qw' mu' book' := by
  have hS' := hS
  obtain ⟨a, rfl, ⟨tv, t1, rfl⟩, hs⟩ := hS'
  have et : st 0 = nI tv := hs.2.2.1.symm
  unfold F_X11_ticks F_X12_ticks
  rw [cl_0, et]
  by_cases c : tv = 999
  · subst c
    rw [if_neg (by decide +kernel), if_pos (show nI 999 = 999 from rfl)]
    exact ⟨_, _, _, _, _, _, _, _, _, _, _, _, _, _, _, _, _, _, _, rfl, rfl, hS, hR⟩
  · have hn : ¬ nI tv = 999 := fun y => by
      have := (nI_eq (b := 999) (by omega) (by omega)).1 y
      omega
    obtain ⟨nx', us', qt', qe', qr', qi', qu', qd', qw', book', b1, b2, b3⟩ := IR_push hk hR hS
    obtain ⟨c', r', up', due', w', z', q1, q2, q3, q4, q5⟩ := tick_sim hk hC hs
    rw [if_pos (show nI tv < 999 from nI_lt (b := 999) (by omega) (by omega)), if_neg hn, b1, b2]
    simp only [zb9, zb2, Option.bind_some]
    rw [q3, q4]
    exact ⟨_, _, _, _, _, _, _, _, _, _, _, _, _, _, _, _, _, _, _, rfl, rfl, ⟨_, rfl, ⟨tv + 1, by omega, nI_1 tv⟩, q5⟩, b3⟩
theorem speeds_s (hk : k ≤ 6) (hR : IR k nx us qt qe qr qi qu qd qw mu book) (hS : SQ k t e r i up due w st) (x : Int32) : ∃ v e' r' nx' us' qt' qe' qr' qi' qu' qd' qw' mu' st' book', F_X11_speeds t e r i up due w nx us qt qe qr qi qu qd qw x = some (v, e', r', nx', us', qt', qe', qr', qi', qu', qd', qw') ∧ F_X12_speeds mu st book x = some (v, mu', st', book') ∧ SQ k t e' r' i up due w st' ∧ IR k nx' us' qt' qe' qr' qi' qu' qd' qw' mu' book' := by
  unfold F_X11_speeds F_X12_speeds
  rcases in_c (x := x) (a := 2) (b := 9) (by omega) (by omega) with ⟨h1, h2⟩ | ⟨v, v1, v2, rfl, h1⟩
  · rw [show F_X12_in x 2 9 = some 0 from h1]
    simp only [zb1, Option.bind_some, if_true]
    rcases h2 with h2 | h2
    · rw [if_pos (show x < 2 from h2)]
      exact ⟨_, _, _, _, _, _, _, _, _, _, _, _, _, _, _, rfl, rfl, hS, hR⟩
    · rw [if_neg (show ¬ x < 2 from fun y => Int32.lt_irrefl (Int32.lt_trans (Int32.lt_trans y (show (2 : Int32) < nI 9 by decide +kernel)) h2)), if_neg (show ¬ x ≤ 9 from Int32.not_le.mpr h2)]
      exact ⟨_, _, _, _, _, _, _, _, _, _, _, _, _, _, _, rfl, rfl, hS, hR⟩
  · rw [show F_X12_in (nI v) 2 9 = some 1 from h1, if_neg (show ¬ nI v < 2 from nI_nlt (b := 2) v1 (by omega)), if_pos (show nI v ≤ 9 from nI_le (b := 9) v2 (by omega))]
    simp only [zb1, Option.bind_some]
    rw [if_neg (show ¬ (1 : Int32) = 0 by decide), cl_1]
    have hS' := hS
    obtain ⟨a, rfl, ht, hs⟩ := hS'
    have ee : st 1 = e := hs.2.2.2.1.symm
    rw [ee]
    by_cases c : nI v = e
    · rw [if_pos c, if_pos c.symm]
      exact ⟨_, _, _, _, _, _, _, _, _, _, _, _, _, _, _, rfl, rfl, hS, hR⟩
    · rw [if_neg c, if_neg (fun y => c y.symm)]
      obtain ⟨nx', us', qt', qe', qr', qi', qu', qd', qw', book', b1, b2, b3⟩ := IR_push hk hR hS
      obtain ⟨r', z', q1, q2, q3⟩ := SR_turn hs v1 v2 c
      rw [b1, b2]
      simp only [zb9, zb2, Option.bind_some]
      rw [q1, q2]
      exact ⟨_, _, _, _, _, _, _, _, _, _, _, _, _, _, _, rfl, rfl, ⟨a, rfl, ht, q3⟩, b3⟩
theorem goes_s (hk : k ≤ 6) (hR : IR k nx us qt qe qr qi qu qd qw mu book) (hS : SQ k t e r i up due w st) (x : Int32) : ∃ v i' nx' us' qt' qe' qr' qi' qu' qd' qw' mu' st' book', F_X11_goes t e r i up due w nx us qt qe qr qi qu qd qw (nI k) x = some (v, i', nx', us', qt', qe', qr', qi', qu', qd', qw') ∧ F_X12_goes (nI k) mu st book x = some (v, mu', st', book') ∧ SQ k t e r i' up due w st' ∧ IR k nx' us' qt' qe' qr' qi' qu' qd' qw' mu' book' := by
  unfold F_X11_goes F_X12_goes
  rcases nob_c k hk x with ⟨h1, h2⟩ | ⟨j, hj, rfl, h1, h2⟩
  · rw [h1, h2]
    simp only [zb1, Option.bind_some, if_true]
    rw [if_neg (show ¬ (1 : Int32) = 0 by decide)]
    exact ⟨_, _, _, _, _, _, _, _, _, _, _, _, _, _, rfl, rfl, hS, hR⟩
  · rw [h1, h2]
    simp only [zb1, Option.bind_some, if_true]
    rw [if_neg (show ¬ (1 : Int32) = 0 by decide), cl_3]
    rcases SQ_has hk hS hj with ⟨g1, g2⟩ | ⟨g1, g2⟩
    · rw [g1, g2]
      simp only [Option.bind_some, if_true]
      exact ⟨_, _, _, _, _, _, _, _, _, _, _, _, _, _, rfl, rfl, hS, hR⟩
    · rw [g1, g2]
      simp only [Option.bind_some]
      rw [if_neg (show ¬ (1 : Int32) = 0 by decide), if_neg (show ¬ (1 : Int32) = 0 by decide)]
      obtain ⟨nx', us', qt', qe', qr', qi', qu', qd', qw', book', b1, b2, b3⟩ := IR_push hk hR hS
      obtain ⟨a, rfl, ht, hs⟩ := hS
      obtain ⟨z', q1, q2, q3⟩ := SR_out hk hs hj
      obtain ⟨n, n1, n2, n3⟩ := bm_cnt _ (p64 q3.1 hk)
      rw [b1, b2]
      simp only [zb9, zb2, Option.bind_some]
      rw [q1, q2]
      simp only [Option.bind_some]
      rw [n2, q3.2.1, n3]
      exact ⟨_, _, _, _, _, _, _, _, _, _, _, _, _, _, rfl, rfl, ⟨_, rfl, ht, q3⟩, b3⟩
theorem comes_s (hk : k ≤ 6) (hR : IR k nx us qt qe qr qi qu qd qw mu book) (hS : SQ k t e r i up due w st) (x y : Int32) : ∃ v i' up' due' nx' us' qt' qe' qr' qi' qu' qd' qw' mu' st' book', F_X11_comes t e r i up due w nx us qt qe qr qi qu qd qw (nI k) x y = some (v, i', up', due', nx', us', qt', qe', qr', qi', qu', qd', qw') ∧ F_X12_comes (nI k) mu st book x y = some (v, mu', st', book') ∧ SQ k t e r i' up' due' w st' ∧ IR k nx' us' qt' qe' qr' qi' qu' qd' qw' mu' book' := by
  unfold F_X11_comes F_X12_comes
  rcases nob_c k hk x with ⟨h1, h2⟩ | ⟨j, hj, rfl, h1, h2⟩
  · rw [h1, h2]
    simp only [zb1, Option.bind_some, if_true]
    rw [if_neg (show ¬ (1 : Int32) = 0 by decide)]
    exact ⟨_, _, _, _, _, _, _, _, _, _, _, _, _, _, _, _, rfl, rfl, hS, hR⟩
  · rw [h1, h2]
    simp only [zb1, Option.bind_some, if_true]
    rw [if_neg (show ¬ (1 : Int32) = 0 by decide), cl_3]
    rcases in_c (x := y) (a := 0) (b := 11) (by omega) (by omega) with ⟨h3, h4⟩ | ⟨d, d1, d2, rfl, h3⟩
    · rw [show F_X12_in y 0 11 = some 0 from h3]
      simp only [Option.bind_some, if_true]
      rcases h4 with h4 | h4
      · rw [if_pos (show y < 0 from h4)]
        exact ⟨_, _, _, _, _, _, _, _, _, _, _, _, _, _, _, _, rfl, rfl, hS, hR⟩
      · rw [if_neg (show ¬ y < 0 from fun z => Int32.lt_irrefl (Int32.lt_trans (Int32.lt_trans z (show (0 : Int32) < nI 11 by decide +kernel)) h4)), if_neg (show ¬ y ≤ 11 from Int32.not_le.mpr h4)]
        exact ⟨_, _, _, _, _, _, _, _, _, _, _, _, _, _, _, _, rfl, rfl, hS, hR⟩
    · rw [show F_X12_in (nI d) 0 11 = some 1 from h3, if_neg (nI_pos (by omega)), if_pos (show nI d ≤ 11 from nI_le (b := 11) d2 (by omega))]
      simp only [Option.bind_some]
      rw [if_neg (show ¬ (1 : Int32) = 0 by decide)]
      rcases SQ_has hk hS hj with ⟨g1, g2⟩ | ⟨g1, g2⟩
      · rw [g1, g2]
        simp only [Option.bind_some, if_true]
        obtain ⟨nx', us', qt', qe', qr', qi', qu', qd', qw', book', b1, b2, b3⟩ := IR_push hk hR hS
        obtain ⟨a, rfl, ht, hs⟩ := hS
        obtain ⟨z', q1, q2, q3⟩ := SR_in hk hs hj (show d ≤ 12 by omega)
        obtain ⟨n, n1, n2, n3⟩ := bm_cnt _ (p64 q3.1 hk)
        rw [b1, b2]
        simp only [zb9, zb2, zb3, Option.bind_some]
        rw [q1, q2]
        simp only [Option.bind_some]
        rw [n2, q3.2.1, n3]
        exact ⟨_, _, _, _, _, _, _, _, _, _, _, _, _, _, _, _, rfl, rfl, ⟨_, rfl, ht, q3⟩, b3⟩
      · rw [g1, g2]
        simp only [Option.bind_some]
        rw [if_neg (show ¬ (1 : Int32) = 0 by decide), if_neg (show ¬ (1 : Int32) = 0 by decide)]
        exact ⟨_, _, _, _, _, _, _, _, _, _, _, _, _, _, _, _, rfl, rfl, hS, hR⟩
end DO
