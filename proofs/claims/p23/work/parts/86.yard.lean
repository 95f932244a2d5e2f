/-! kinds, images, the yard: both sides -/
theorem tr_0 (a : Int64) : a + 10 + 1 = a + 1 + 10 := by rw [Int64.add_assoc, Int64.add_assoc]; rfl
theorem tr_1 (a : Int64) : a + 100 + 1 = a + 1 + 100 := by rw [Int64.add_assoc, Int64.add_assoc]; rfl
theorem tr_2 (a : Int64) : a + 1000 + 10 + 1 = a + 1 + 1010 := by rw [Int64.add_assoc, Int64.add_assoc, Int64.add_assoc]; rfl
theorem tr_3 (a : Int64) : a + 10000 + 100 + 1 = a + 1 + 10100 := by rw [Int64.add_assoc, Int64.add_assoc, Int64.add_assoc]; rfl
theorem tr_4 (a : Int64) : a + 100000 + 1 = a + 1 + 100000 := by rw [Int64.add_assoc, Int64.add_assoc]; rfl
theorem rate_s {k : Nat} {p h p' h' : Nat → Int32} {t e r i : Int32} {up due w st : Nat → Int32} (hk : k ≤ 6) (hC : CR k p h p' h') (hS : SQ k t e r i up due w st) (tr : Int64) (x y : Int32) : ∃ v tr', F_X11_rate tr t r w (nI k) h x y = some (v, tr') ∧ F_X12_rate (nI k) tr h' st x y = some (v, tr') := by
  unfold F_X11_rate F_X12_rate
  rcases in_c (x := x) (a := 0) (b := 5) (by omega) (by omega) with ⟨h3, h4⟩ | ⟨m, m1, m2, rfl, h3⟩
  · rw [show F_X12_in x 0 5 = some 0 from h3]
    simp only [zb1, Option.bind_some, if_true]
    rcases h4 with h4 | h4
    · rw [if_pos (show x < 0 from h4)]
      exact ⟨_, _, rfl, rfl⟩
    · have h6 : ¬ x < 6 := by
        intro z
        have h0 : ¬ x < 0 := lt_no (Nat.zero_le 5) (by omega) h4
        obtain ⟨v, v1, rfl⟩ := nI_of h0
        have a1 := (nI_ltI (a := 5) (by omega) v1).1 h4
        have a2 := (nI_ltI (b := 6) v1 (by omega)).1 z
        omega
      rw [if_neg (show ¬ x < 0 from lt_no (Nat.zero_le 5) (by omega) h4), if_pos (Int32.not_lt.mp h6)]
      exact ⟨_, _, rfl, rfl⟩
  · rw [show F_X12_in (nI m) 0 5 = some 1 from h3, if_neg (nI_pos (by omega)), if_neg (show ¬ (6 : Int32) ≤ nI m from nI_ge (b := 6) (by omega) (by omega))]
    simp only [zb1, Option.bind_some]
    rw [if_neg n10]
    rcases nob_c k hk y with ⟨h1, h2⟩ | ⟨j, hj, rfl, h1, h2⟩
    · rw [h1, h2]
      simp only [Option.bind_some, if_true]
      rw [if_neg n10]
      exact ⟨_, _, rfl, rfl⟩
    · rw [h1, h2]
      simp only [Option.bind_some, if_true]
      obtain ⟨a, rfl, ht, s1, s2, s3, s4, s5, s6, s7, s8, s9⟩ := hS
      have ew := s8 j hj
      have eh := (hC j hj).2.1
      have hin : ¬ (nI j < 0 ∨ 6 ≤ (nI j).toNatClampNeg) := nI_in (by omega) (by omega)
      have hin2 : ¬ (nI j < 0 ∨ 6 ≤ j) := nin (by omega) (by omega)
      rw [if_neg n10, n_16, if_neg (nI_in (show 16 + j < 22 by omega) (by omega)), cl_0, cl_2, ← s3, ← s5, nI_clamp (show 16 + j < 2 ^ 31 by omega), ← ew]
      unfold F_X5_worth F_X0_worth F_X4_worth F_X2_worth F_X7_worth F_X3_worth F_X0_worth_r2 F_X4_worth_r7 F_X5_worth
      simp only [if_neg hin, if_neg hin2, zb2, Option.bind_some, nI_clamp (show j < 2 ^ 31 by omega)]
      rw [← eh]
      rcases (show m = 0 ∨ m = 1 ∨ m = 2 ∨ m = 3 ∨ m = 4 ∨ m = 5 by omega) with rfl | rfl | rfl | rfl | rfl | rfl
      · rw [if_pos (show nI 0 = 0 from rfl), if_neg (show ¬ nI 0 = 1 by decide +kernel), if_neg (show ¬ nI 0 = 2 by decide +kernel), if_neg (show ¬ nI 0 = 3 by decide +kernel), if_neg (show ¬ nI 0 = 4 by decide +kernel), if_neg (show ¬ nI 0 = 5 by decide +kernel)]
        exact ⟨_, _, rfl, rfl⟩
      · rw [if_neg (show ¬ nI 1 = 0 by decide +kernel), if_pos (show nI 1 = 1 from rfl), if_pos (show nI 1 = 1 from rfl)]
        exact ⟨_, _, rfl, by rw [tr_0]⟩
      · rw [if_neg (show ¬ nI 2 = 0 by decide +kernel), if_neg (show ¬ nI 2 = 1 by decide +kernel), if_neg (show ¬ nI 2 = 1 by decide +kernel), if_pos (show nI 2 = 2 from rfl), if_pos (show nI 2 = 2 from rfl)]
        exact ⟨_, _, rfl, by rw [tr_1]⟩
      · rw [if_neg (show ¬ nI 3 = 0 by decide +kernel), if_neg (show ¬ nI 3 = 1 by decide +kernel), if_neg (show ¬ nI 3 = 1 by decide +kernel), if_neg (show ¬ nI 3 = 2 by decide +kernel), if_neg (show ¬ nI 3 = 2 by decide +kernel), if_pos (show nI 3 = 3 from rfl), if_pos (show nI 3 = 3 from rfl)]
        exact ⟨_, _, rfl, by rw [tr_2]⟩
      · rw [if_neg (show ¬ nI 4 = 0 by decide +kernel), if_neg (show ¬ nI 4 = 1 by decide +kernel), if_neg (show ¬ nI 4 = 1 by decide +kernel), if_neg (show ¬ nI 4 = 2 by decide +kernel), if_neg (show ¬ nI 4 = 2 by decide +kernel), if_neg (show ¬ nI 4 = 3 by decide +kernel), if_neg (show ¬ nI 4 = 3 by decide +kernel), if_pos (show nI 4 = 4 from rfl), if_pos (show nI 4 = 4 from rfl)]
        exact ⟨_, _, rfl, by rw [tr_3]⟩
      · rw [if_neg (show ¬ nI 5 = 0 by decide +kernel), if_neg (show ¬ nI 5 = 1 by decide +kernel), if_neg (show ¬ nI 5 = 1 by decide +kernel), if_neg (show ¬ nI 5 = 2 by decide +kernel), if_neg (show ¬ nI 5 = 2 by decide +kernel), if_neg (show ¬ nI 5 = 3 by decide +kernel), if_neg (show ¬ nI 5 = 3 by decide +kernel), if_neg (show ¬ nI 5 = 4 by decide +kernel), if_neg (show ¬ nI 5 = 4 by decide +kernel), if_pos (show nI 5 = 5 from rfl), if_pos (show nI 5 = 5 from rfl)]
        exact ⟨_, _, rfl, by rw [tr_4]⟩
def IJ (k : Nat) (jt je jr ji : Nat → Int32) (ju jd jw : Nat → Nat → Int32) (kp mk im : Nat → Int32) : Prop := ∀ i, i < 2 → (kp i = 0 ∧ mk i = 0) ∨ (kp i = 1 ∧ mk i = 1 ∧ SQ k (jt i) (je i) (jr i) (ji i) (ju i) (jd i) (jw i) (fun x => im (22 * i + x)))
theorem img_c (x : Int32) : (F_X11_isNoImage x = some 1 ∧ F_X12_in x 0 1 = some 0) ∨ ∃ v, v < 2 ∧ x = nI v ∧ F_X11_isNoImage x = some 0 ∧ F_X12_in x 0 1 = some 1 := by
  rcases in_c (x := x) (a := 0) (b := 1) (by omega) (by omega) with ⟨h3, h4⟩ | ⟨m, m1, m2, rfl, h3⟩
  · refine Or.inl ⟨?_, h3⟩
    unfold F_X11_isNoImage
    rcases h4 with h4 | h4
    · rw [if_pos (show x < 0 from h4)]
    · have h6 : ¬ x < 2 := by
        intro z
        have h0 : ¬ x < 0 := lt_no (Nat.zero_le 1) (by omega) h4
        obtain ⟨v, v1, rfl⟩ := nI_of h0
        have a1 := (nI_ltI (a := 1) (by omega) v1).1 h4
        have a2 := (nI_ltI (b := 2) v1 (by omega)).1 z
        omega
      rw [if_neg (show ¬ x < 0 from lt_no (Nat.zero_le 1) (by omega) h4), if_pos (Int32.not_lt.mp h6)]
  · rcases (show m = 0 ∨ m = 1 by omega) with rfl | rfl
    · exact Or.inr ⟨0, by omega, rfl, by decide +kernel, h3⟩
    · exact Or.inr ⟨1, by omega, rfl, by decide +kernel, h3⟩
theorem nar1 : vp_nar .boolean 1 = (1 : Int32) := by decide +kernel
theorem nar0 : vp_nar .boolean 0 = (0 : Int32) := by decide +kernel
section IMG
variable {k : Nat} {jt je jr ji : Nat → Int32} {ju jd jw : Nat → Nat → Int32} {kp mk im : Nat → Int32} {t e r i : Int32} {up due w st : Nat → Int32}
theorem keep_s (hk : k ≤ 6) (hJ : IJ k jt je jr ji ju jd jw kp mk im) (hS : SQ k t e r i up due w st) (x : Int32) : ∃ v jt' je' jr' ji' ju' jd' jw' kp' im' mk', F_X11_keep t e r i up due w jt je jr ji ju jd jw kp x = some (v, jt', je', jr', ji', ju', jd', jw', kp') ∧ F_X12_keep st im mk x = some (v, im', mk') ∧ IJ k jt' je' jr' ji' ju' jd' jw' kp' mk' im' := by
  unfold F_X11_keep F_X12_keep
  rcases img_c x with ⟨h1, h2⟩ | ⟨v, hv, rfl, h1, h2⟩
  · rw [h1, h2]
    simp only [zb1, Option.bind_some, if_true]
    rw [if_neg n10]
    exact ⟨_, _, _, _, _, _, _, _, _, _, _, rfl, rfl, hJ⟩
  · rw [h1, h2]
    simp only [zb1, Option.bind_some, if_true]
    obtain ⟨im', g1, g2, g3⟩ := bring0 22 44 (by omega) (by omega) st im 0 (22 * v) 22 (by omega) (by omega) (by omega)
    obtain ⟨u1, d1, w1, b1, b2⟩ := bec t e r i up due w (ju v) (jd v) (jw v)
    have et : st 0 = t := by
      obtain ⟨a, _, _, hs⟩ := hS
      exact hs.2.2.1.symm
    have key : IJ k (va_up jt v t) (va_up je v e) (va_up jr v r) (va_up ji v i) (va_up ju v u1) (va_up jd v d1) (va_up jw v w1) (upd kp v 1) (upd mk v 1) im' := by
      intro j hj
      by_cases c : j = v
      · subst c
        refine Or.inr ⟨pk_us, pk_us, ?_⟩
        simp only [va_up_self]
        refine SQ_cp hk hS b2 (fun x hx => ?_)
        have := g2 x hx
        rw [Nat.zero_add] at this
        exact this
      · rw [pk_un c, pk_un c]
        refine (hJ j hj).imp id (fun y => ⟨y.1, y.2.1, ?_⟩)
        simp only [va_up_ne _ _ c]
        refine SQ_cp hk y.2.2 (fun _ _ => ⟨rfl, rfl, rfl⟩) (fun x hx => g3 _ (by omega))
    rw [if_neg n10, if_neg (nI_in (by omega) (by omega)), m22 v (by omega), show F_X12_bring 22 st 44 im 0 (nI (22 * v)) 22 = some im' from g1, nI_clamp (by omega), nar1, cl_0, et]
    simp only [Option.bind_some]
    rcases (show v = 0 ∨ v = 1 by omega) with rfl | rfl
    · rw [if_pos (show nI 0 = 0 from rfl), b1]
      simp only [zb7, Option.bind_some]
      rw [if_neg (nin (by omega) (by omega))]
      exact ⟨_, _, _, _, _, _, _, _, _, _, _, rfl, rfl, key⟩
    · rw [if_neg (show ¬ nI 1 = 0 by decide +kernel), if_pos (show nI 1 = 1 from rfl), b1]
      simp only [zb7, Option.bind_some]
      rw [if_neg (nin (by omega) (by omega))]
      exact ⟨_, _, _, _, _, _, _, _, _, _, _, rfl, rfl, key⟩
theorem back_s (hk : k ≤ 6) (hJ : IJ k jt je jr ji ju jd jw kp mk im) (hS : SQ k t e r i up due w st) (us : Int32) (x : Int32) : ∃ v t' e' r' i' up' due' w' us' st', F_X11_back t e r i up due w jt je jr ji ju jd jw kp us x = some (v, t', e', r', i', up', due', w', us') ∧ F_X12_back us st im mk x = some (v, us', st') ∧ SQ k t' e' r' i' up' due' w' st' ∧ (us' = us ∨ us' = 0) := by
  unfold F_X11_back F_X12_back
  rcases img_c x with ⟨h1, h2⟩ | ⟨v, hv, rfl, h1, h2⟩
  · rw [h1, h2]
    simp only [zb1, Option.bind_some, if_true]
    rw [if_neg n10]
    exact ⟨_, _, _, _, _, _, _, _, _, _, rfl, rfl, hS, Or.inl rfl⟩
  · rw [h1, h2]
    simp only [zb1, Option.bind_some, if_true]
    rw [if_neg n10, if_neg (nI_in (by omega) (by omega)), if_neg (nI_in (by omega) (by omega)), nI_clamp (by omega)]
    rcases hJ v hv with ⟨k1, k2⟩ | ⟨k1, k2, hq⟩
    · rw [if_pos k1, if_pos k2]
      exact ⟨_, _, _, _, _, _, _, _, _, _, rfl, rfl, hS, Or.inl rfl⟩
    · obtain ⟨st', g1, g2, g3⟩ := bring0 44 22 (by omega) (by omega) im st (22 * v) 0 22 (by omega) (by omega) (by omega)
      obtain ⟨u1, d1, w1, b1, b2⟩ := bec (jt v) (je v) (jr v) (ji v) (ju v) (jd v) (jw v) up due w
      have key : SQ k (jt v) (je v) (jr v) (ji v) u1 d1 w1 st' := SQ_cp hk hq b2 (fun x hx => by
        have := g2 x hx
        rw [Nat.zero_add] at this
        exact this)
      have et : st' 0 = jt v := by
        obtain ⟨a, _, _, hs⟩ := key
        exact hs.2.2.1.symm
      rw [if_neg (show ¬ kp v = 0 by rw [k1]; exact n10), if_neg (show ¬ mk v = 0 by rw [k2]; exact n10), m22 v (by omega), show F_X12_bring 44 im 22 st (nI (22 * v)) 0 22 = some st' from g1]
      simp only [Option.bind_some]
      rw [cl_0, et]
      rcases (show v = 0 ∨ v = 1 by omega) with rfl | rfl
      · rw [if_pos (show nI 0 = 0 from rfl), b1]
        exact ⟨_, _, _, _, _, _, _, _, _, _, rfl, rfl, key, Or.inr rfl⟩
      · rw [if_neg (show ¬ nI 1 = 0 by decide +kernel), if_pos (show nI 1 = 1 from rfl), b1]
        exact ⟨_, _, _, _, _, _, _, _, _, _, rfl, rfl, key, Or.inr rfl⟩
end IMG
theorem op_l (cs cw : Nat → Int32) : ∀ (n i : Nat) (up due w : Nat → Int32), i ≤ 6 → 6 - i < n → ∃ up' due' w', L_X8_open_35 cs cw n up due w (nI i) = some (up', due', w', nI 6) ∧ (∀ j, i ≤ j → j < 6 → up' j = 0 ∧ due' j = cs j ∧ w' j = cw j) ∧ ∀ j, j < i → up' j = up j ∧ due' j = due j ∧ w' j = w j := by
  intro n
  induction n with
  | zero => intro i up due w h1 h2; omega
  | succ n ih =>
    intro i up due w h1 h2
    rw [L_X8_open_35_s]
    by_cases hi : i = 6
    · subst hi
      exact ⟨up, due, w, by rw [if_pos (by decide +kernel)], fun j h1 h2 => by omega, fun j _ => ⟨rfl, rfl, rfl⟩⟩
    · rw [if_neg (zle6 (by omega)), if_neg (nI_in (by omega) (by omega)), nI_1, nI_clamp (by omega)]
      obtain ⟨up', due', w', q1, q2, q3⟩ := ih (i + 1) (upd up i 0) (upd due i (cs i)) (upd w i (cw i)) (by omega) (by omega)
      refine ⟨up', due', w', q1, fun j h3 h4 => ?_, fun j h3 => ?_⟩
      · by_cases e : j = i
        · subst e
          obtain ⟨a1, a2, a3⟩ := q3 j (by omega)
          rw [a1, a2, a3, pk_us, pk_us, pk_us]
          exact ⟨rfl, rfl, rfl⟩
        · exact q2 j (by omega) h4
      · obtain ⟨a1, a2, a3⟩ := q3 j (by omega)
        rw [a1, a2, a3, pk_un (by omega), pk_un (by omega), pk_un (by omega)]
        exact ⟨rfl, rfl, rfl⟩
theorem y34_l : ∀ (n i : Nat) (st : Nat → Int32), i ≤ 22 → 22 - i < n → ∃ st', L_X12_yard_34 n st (nI i) = some (st', nI 22) ∧ (∀ j, i ≤ j → j < 22 → st' j = 0) ∧ ∀ j, j < i → st' j = st j := by
  intro n
  induction n with
  | zero => intro i st h1 h2; omega
  | succ n ih =>
    intro i st h1 h2
    rw [L_X12_yard_34_s]
    by_cases hi : i = 22
    · subst hi
      exact ⟨st, by rw [if_pos (by decide +kernel)], fun j h1 h2 => by omega, fun j _ => rfl⟩
    · rw [if_neg (show ¬ (22 : Int32) ≤ nI i from nI_ge (b := 22) (by omega) (by omega)), if_neg (nI_in (by omega) (by omega)), nI_1, nI_clamp (by omega)]
      obtain ⟨st', q1, q2, q3⟩ := ih (i + 1) (upd st i 0) (by omega) (by omega)
      refine ⟨st', q1, fun j h3 h4 => ?_, fun j h3 => ?_⟩
      · by_cases e : j = i
        · subst e
          rw [q3 j (by omega), pk_us]
        · exact q2 j (by omega) h4
      · rw [q3 j (by omega), pk_un (by omega)]
theorem m4 : ∀ v, v < 6 → (4 : Int32) * nI v = nI (4 * v) := by decide +kernel
theorem y89_l (k : Nat) (hk : k ≤ 6) (ro : Nat → Int32) : ∀ (n i : Nat) (p h st : Nat → Int32), i ≤ k → k - i < n → ∃ p' h' st', L_X12_yard_89 (nI k) ro n p h st (nI i) = some (p', h', st', nI k) ∧ (∀ j, i ≤ j → j < k → p' j = ro (4 * j) ∧ h' j = ro (4 * j + 1) ∧ st' (10 + j) = ro (4 * j + 2) ∧ st' (16 + j) = ro (4 * j + 3)) ∧ (∀ j, j < i → p' j = p j ∧ h' j = h j ∧ st' (10 + j) = st (10 + j) ∧ st' (16 + j) = st (16 + j)) ∧ ∀ j, j < 10 → st' j = st j := by
  intro n
  induction n with
  | zero => intro i p h st h1 h2; omega
  | succ n ih =>
    intro i p h st h1 h2
    rw [L_X12_yard_89_s]
    by_cases hi : i = k
    · subst hi
      exact ⟨p, h, st, by rw [if_pos (nI_le (Nat.le_refl _) (by omega))], fun j h1 h2 => by omega, fun j _ => ⟨rfl, rfl, rfl, rfl⟩, fun _ _ => rfl⟩
    · rw [if_neg (nI_ge (by omega) (by omega)), m4 i (by omega), n_10, n_16, show nI (4 * i) + 1 = nI (4 * i + 1) from nI_1 _, show nI (4 * i) + 2 = nI (4 * i + 2) from nI_add _ 2, show nI (4 * i) + 3 = nI (4 * i + 3) from nI_add _ 3, nI_1]
      rw [if_neg (nI_in (show 4 * i < 24 by omega) (by omega)), if_neg (nI_in (show i < 6 by omega) (by omega)), if_neg (nI_in (show 4 * i + 1 < 24 by omega) (by omega)), if_neg (nI_in (show 4 * i + 2 < 24 by omega) (by omega)), if_neg (nI_in (show 10 + i < 22 by omega) (by omega)), if_neg (nI_in (show 4 * i + 3 < 24 by omega) (by omega)), if_neg (nI_in (show 16 + i < 22 by omega) (by omega))]
      rw [nI_clamp (show i < 2 ^ 31 by omega), nI_clamp (show 4 * i < 2 ^ 31 by omega), nI_clamp (show 4 * i + 1 < 2 ^ 31 by omega), nI_clamp (show 4 * i + 2 < 2 ^ 31 by omega), nI_clamp (show 4 * i + 3 < 2 ^ 31 by omega), nI_clamp (show 10 + i < 2 ^ 31 by omega), nI_clamp (show 16 + i < 2 ^ 31 by omega)]
      obtain ⟨p', h', st', q1, q2, q3, q4⟩ := ih (i + 1) (upd p i (ro (4 * i))) (upd h i (ro (4 * i + 1))) (upd (upd st (10 + i) (ro (4 * i + 2))) (16 + i) (ro (4 * i + 3))) (by omega) (by omega)
      refine ⟨p', h', st', q1, fun j h3 h4 => ?_, fun j h3 => ?_, fun j h3 => ?_⟩
      · by_cases e : j = i
        · subst e
          obtain ⟨a1, a2, a3, a4⟩ := q3 j (by omega)
          rw [a1, a2, a3, a4, pk_us, pk_us, pk_us, pk_un (by omega), pk_us]
          exact ⟨rfl, rfl, rfl, rfl⟩
        · exact q2 j (by omega) h4
      · obtain ⟨a1, a2, a3, a4⟩ := q3 j (by omega)
        rw [a1, a2, a3, a4, pk_un (by omega), pk_un (by omega), pk_un (by omega), pk_un (by omega), pk_un (by omega), pk_un (by omega)]
        exact ⟨rfl, rfl, rfl, rfl⟩
      · rw [q4 j h3, pk_un (by omega), pk_un (by omega)]
theorem y78 (kp : Nat → Int32) : ∃ kp', L_X11_yard_78 300 kp 0 = some (kp', nI 2) ∧ ∀ j, j < 2 → kp' j = 0 := by
  refine ⟨upd (upd kp 0 (vp_nar .boolean 0)) 1 (vp_nar .boolean 0), rfl, fun j hj => ?_⟩
  rcases (show j = 0 ∨ j = 1 by omega) with rfl | rfl
  · rw [pk_un (by decide), pk_us, nar0]
  · rw [pk_us, nar0]
