/-! odds: sums and products, the greatest divisor, both sides -/
def pr (f : Nat → Nat) : Nat → Nat
  | 0 => 1
  | n + 1 => pr f n * f n
def sm (f : Nat → Nat) : Nat → Nat
  | 0 => 0
  | n + 1 => sm f n + f n
theorem pr_s (f : Nat → Nat) (n : Nat) : pr f (n + 1) = pr f n * f n := rfl
theorem sm_s (f : Nat → Nat) (n : Nat) : sm f (n + 1) = sm f n + f n := rfl
theorem pr_eq {f g : Nat → Nat} : ∀ n, (∀ j, j < n → f j = g j) → pr f n = pr g n
  | 0, _ => rfl
  | n + 1, h => by rw [pr_s, pr_s, pr_eq n (fun j hj => h j (by omega)), h n (by omega)]
theorem sm_eq {f g : Nat → Nat} : ∀ n, (∀ j, j < n → f j = g j) → sm f n = sm g n
  | 0, _ => rfl
  | n + 1, h => by rw [sm_s, sm_s, sm_eq n (fun j hj => h j (by omega)), h n (by omega)]
theorem pr_le {f g : Nat → Nat} : ∀ n, (∀ j, j < n → f j ≤ g j) → pr f n ≤ pr g n
  | 0, _ => Nat.le_refl _
  | n + 1, h => by rw [pr_s, pr_s]; exact Nat.mul_le_mul (pr_le n (fun j hj => h j (by omega))) (h n (by omega))
theorem pr_pos {f : Nat → Nat} : ∀ n, (∀ j, j < n → 0 < f j) → 0 < pr f n
  | 0, _ => Nat.one_pos
  | n + 1, h => by rw [pr_s]; exact Nat.mul_pos (pr_pos n (fun j hj => h j (by omega))) (h n (by omega))
theorem pr_0 {f : Nat → Nat} {j : Nat} (hf : f j = 0) : ∀ n, j < n → pr f n = 0
  | 0, h => by omega
  | n + 1, h => by
    rw [pr_s]
    by_cases e : j = n
    · subst e; rw [hf, Nat.mul_zero]
    · rw [pr_0 hf n (by omega), Nat.zero_mul]
theorem pr_10 : ∀ n, n ≤ 6 → pr (fun _ => 10) n ≤ 1000000 := by
  intro n hn
  rcases (show n = 0 ∨ n = 1 ∨ n = 2 ∨ n = 3 ∨ n = 4 ∨ n = 5 ∨ n = 6 by omega) with rfl | rfl | rfl | rfl | rfl | rfl | rfl <;> decide +kernel
theorem sm_add (f : Nat → Nat) (a : Nat) : ∀ b, sm f (a + b) = sm f a + sm (fun i => f (a + i)) b
  | 0 => rfl
  | b + 1 => by
    show sm f (a + b) + f (a + b) = sm f a + (sm (fun i => f (a + i)) b + f (a + b))
    rw [sm_add f a b, Nat.add_assoc]
theorem sm_mul (f : Nat → Nat) (c : Nat) : ∀ n, sm (fun i => f i * c) n = sm f n * c
  | 0 => (Nat.zero_mul c).symm
  | n + 1 => by rw [sm_s, sm_s, sm_mul f c n, Nat.add_mul]
theorem dist (g : Nat → Bool → Nat) : ∀ k, sm (fun S => pr (fun j => g j (S.testBit j)) k) (2 ^ k) = pr (fun j => g j true + g j false) k
  | 0 => rfl
  | k + 1 => by
    have ih := dist g k
    rw [show 2 ^ (k + 1) = 2 ^ k + 2 ^ k by rw [Nat.pow_succ]; omega, sm_add]
    have e1 : sm (fun S => pr (fun j => g j (S.testBit j)) (k + 1)) (2 ^ k) = sm (fun S => pr (fun j => g j (S.testBit j)) k * g k false) (2 ^ k) := by
      apply sm_eq
      intro S hS
      show pr (fun j => g j (S.testBit j)) k * g k (S.testBit k) = _
      rw [Nat.testBit_lt_two_pow hS]
    have e2 : sm (fun i => (fun S => pr (fun j => g j (S.testBit j)) (k + 1)) (2 ^ k + i)) (2 ^ k) = sm (fun S => pr (fun j => g j (S.testBit j)) k * g k true) (2 ^ k) := by
      apply sm_eq
      intro S hS
      show pr (fun j => g j ((2 ^ k + S).testBit j)) k * g k ((2 ^ k + S).testBit k) = _
      rw [Nat.testBit_two_pow_add_eq, Nat.testBit_lt_two_pow hS]
      have : pr (fun j => g j ((2 ^ k + S).testBit j)) k = pr (fun j => g j (S.testBit j)) k := by
        apply pr_eq
        intro j hj
        show g j ((2 ^ k + S).testBit j) = g j (S.testBit j)
        rw [Nat.testBit_two_pow_add_gt hj]
      rw [this, Bool.not_false]
    rw [e1, e2, sm_mul, sm_mul, ih, pr_s, Nat.mul_add, Nat.add_comm]
/-- the greatest divisor: both find the same, and it is above 0 -/
theorem gcd_l : ∀ (m a b f f' t : Nat), b < 2 ^ m → m ≤ 30 → a < 2 ^ 31 → (0 < a ∨ 0 < b) → 2 * m < f → 2 * m < f' → t + 2 * m ≤ 64 → ∃ g y y' t', 0 < g ∧ g < 2 ^ 31 ∧ L_X11_commonDivisor_7 f (nI a) (nI b) (nI t) = some (nI g, y, t') ∧ L_X12_divisor_4 f' (nI a) (nI b) = some (nI g, y') := by
  intro m
  induction m with
  | zero =>
    intro a b f f' t hb hm ha h0 hf hf' ht
    have b0 : b = 0 := by rw [Nat.pow_zero] at hb; omega
    subst b0
    obtain ⟨f, rfl⟩ : ∃ n, f = n + 1 := ⟨f - 1, by omega⟩
    obtain ⟨f', rfl⟩ : ∃ n, f' = n + 1 := ⟨f' - 1, by omega⟩
    rw [L_X11_commonDivisor_7_s, L_X12_divisor_4_s, nI_0, if_pos (show (0 : Int32) = 0 from rfl), if_pos (show (0 : Int32) ≤ 0 from Int32.le_refl _)]
    refine ⟨a, 0, 0, nI t, by omega, ha, ?_, rfl⟩
    split <;> rfl
  | succ m ih =>
    intro a b f f' t hb hm ha h0 hf hf' ht
    have hpw : 2 ^ (m + 1) = 2 ^ m + 2 ^ m := by rw [Nat.pow_succ]; omega
    have hpl : 2 ^ (m + 1) ≤ 2 ^ 30 := Nat.pow_le_pow_right (by decide) hm
    obtain ⟨f, rfl⟩ : ∃ n, f = n + 2 := ⟨f - 2, by omega⟩
    obtain ⟨f', rfl⟩ : ∃ n, f' = n + 2 := ⟨f' - 2, by omega⟩
    have n64 : ∀ s, s < 64 → ¬ (64 : Int32) ≤ nI s := fun s hs => nI_ge (b := 64) hs (by omega)
    rw [L_X11_commonDivisor_7_s, L_X12_divisor_4_s, if_neg (n64 t (by omega))]
    by_cases b0 : b = 0
    · subst b0
      rw [nI_0, if_pos (show (0 : Int32) = 0 from rfl), if_pos (show (0 : Int32) ≤ 0 from Int32.le_refl _)]
      exact ⟨a, 0, 0, nI t, by omega, ha, rfl, rfl⟩
    · have hb31 : b < 2 ^ 31 := by omega
      have nb := nI_ne0 (show 0 < b by omega) hb31
      rw [if_neg nb, if_neg nb, if_neg nb, if_neg (nI_nle (show 0 < b by omega) hb31), pk_rem ha (by omega) hb31, L_X11_commonDivisor_7_s, L_X12_divisor_4_s, nI_1, if_neg (n64 (t + 1) (by omega))]
      have hcb : a % b < b := Nat.mod_lt _ (by omega)
      by_cases c0 : a % b = 0
      · rw [c0, nI_0, if_pos (show (0 : Int32) = 0 from rfl), if_pos (show (0 : Int32) ≤ 0 from Int32.le_refl _)]
        exact ⟨b, 0, 0, nI (t + 1), by omega, hb31, rfl, rfl⟩
      · generalize a % b = c at hcb c0 ⊢
        have hc31 : c < 2 ^ 31 := by omega
        have nc := nI_ne0 (show 0 < c by omega) hc31
        rw [if_neg nc, if_neg nc, if_neg nc, if_neg (nI_nle (show 0 < c by omega) hc31), pk_rem hb31 (by omega) hc31, nI_1]
        have hm1 : b % c < c := Nat.mod_lt _ (by omega)
        have hm2 : b % c + c ≤ b := by
          have hd := Nat.div_add_mod b c
          have h1 : 1 ≤ b / c := (Nat.le_div_iff_mul_le (by omega)).2 (by omega)
          have h2 : c * 1 ≤ c * (b / c) := Nat.mul_le_mul_left c h1
          omega
        exact ih c (b % c) f f' (t + 1 + 1) (by omega) (by omega) hc31 (Or.inl (by omega)) (by omega) (by omega) (by omega)
theorem gcd_c {a b : Nat} (ha : a ≤ 1000000) (hb : b ≤ 1000000) (h0 : 0 < b) : ∃ g, 0 < g ∧ g < 2 ^ 31 ∧ F_X11_commonDivisor (nI a) (nI b) = some (nI g) ∧ F_X12_divisor (nI a) (nI b) = some (nI g) := by
  obtain ⟨g, y, y', t', g1, g2, g3, g4⟩ := gcd_l 20 a b 300 300 0 (by omega) (by omega) (by omega) (Or.inr h0) (by omega) (by omega) (by omega)
  refine ⟨g, g1, g2, ?_, ?_⟩
  · unfold F_X11_commonDivisor
    rw [show L_X11_commonDivisor_7 300 (nI a) (nI b) 0 = _ from g3]
    rfl
  · unfold F_X12_divisor
    rw [g4]
    rfl
def oV (a x : Nat) (j : Nat) (b : Bool) : Nat := if a.testBit j = true then (if b = true then x else 10 - x) else (if b = true then 0 else 1)
def oX (a x : Nat) (q : Nat → Bool → Bool) (j : Nat) (b : Bool) : Nat := if a.testBit j = true then (if q j b = true then (if b = true then x else 10 - x) else 0) else (if b = true then 0 else 1)
theorem oX_le (a x : Nat) (q : Nat → Bool → Bool) (j : Nat) (b : Bool) : oX a x q j b ≤ oV a x j b := by
  unfold oX oV
  by_cases c : a.testBit j = true
  · rw [if_pos c, if_pos c]
    by_cases d : q j b = true
    · rw [if_pos d]; exact Nat.le_refl _
    · rw [if_neg d]; exact Nat.zero_le _
  · rw [if_neg c, if_neg c]; exact Nat.le_refl _
theorem oV_le (a : Nat) {x : Nat} (hx : x ≤ 10) (j : Nat) (b : Bool) : oV a x j b ≤ 10 := by
  unfold oV
  split <;> split <;> omega
theorem oX_s {a x : Nat} {q : Nat → Bool → Bool} {j : Nat} (h : a.testBit j = true) : oX a x q j true + oX a x q j false = oT (q j true) (q j false) x := by
  unfold oX oT
  rw [if_pos h, if_pos h]
  rfl
theorem oX_n {a x : Nat} {q : Nat → Bool → Bool} {j : Nat} (h : ¬ a.testBit j = true) : oX a x q j true + oX a x q j false = 1 := by
  unfold oX
  rw [if_neg h, if_neg h]
  rfl
theorem oV_s {a x : Nat} (hx : x ≤ 10) {j : Nat} (h : a.testBit j = true) : oV a x j true + oV a x j false = 10 := by
  unfold oV
  rw [if_pos h, if_pos h, if_pos rfl, if_neg (by decide)]
  omega
theorem oV_n {a x : Nat} {j : Nat} (h : ¬ a.testBit j = true) : oV a x j true + oV a x j false = 1 := by
  unfold oV
  rw [if_neg h, if_neg h]
  rfl
section ODDS
variable {k : Nat} {p h p' h' : Nat → Int32} {t e r : Int32} {up due w st : Nat → Int32}
theorem o71 {a S x : Nat} (hk : k ≤ 6) (ha : a < 64) (hS : S < 64) (hx : x ≤ 10) (hz : st 3 = nI a) (hsub : ∀ j, j < k → S.testBit j = true → a.testBit j = true) : ∀ (n i : Nat), i ≤ k → k - i < n → L_X12_odds_71 (nI k) st (nI x) (nI S) n (nI (pr (fun j => oV a x j (S.testBit j)) i)) (nI i) = some (nI (pr (fun j => oV a x j (S.testBit j)) k), nI k) := by
  intro n
  induction n with
  | zero => intro i h1 h2; omega
  | succ n ih =>
    intro i h1 h2
    rw [L_X12_odds_71_s]
    by_cases hi : i = k
    · subst hi
      rw [if_pos (nI_le (Nat.le_refl _) (by omega))]
    · rw [if_neg (nI_ge (by omega) (by omega)), cl_3, hz, bm_has S hS i (by omega), bm_has a ha i (by omega)]
      have := ih (i + 1) (by omega) (by omega)
      rw [pr_s] at this
      simp only [zb1, Option.bind_some, nI_1]
      rw [show (10 : Int32) - nI x = nI (10 - x) from pk_sub (a := 10) hx]
      by_cases s : S.testBit i = true
      · have ta := hsub i (by omega) s
        rw [if_pos s, if_neg n10, pk_mul]
        rw [show oV a x i (S.testBit i) = x by unfold oV; rw [if_pos ta, if_pos s]] at this
        exact this
      · rw [if_neg s, if_pos rfl]
        by_cases ta : a.testBit i = true
        · rw [if_pos ta, if_neg n10, pk_mul]
          rw [show oV a x i (S.testBit i) = 10 - x by unfold oV; rw [if_pos ta, if_neg s]] at this
          exact this
        · rw [if_neg ta, if_pos rfl, show (1 : Int32) = nI 1 from rfl, pk_mul]
          rw [show oV a x i (S.testBit i) = 1 by unfold oV; rw [if_neg ta, if_neg s]] at this
          exact this
theorem sh1 : ∀ k, k < 7 → (1 : Int32) <<< (nI k &&& 31) = nI (2 ^ k) := by decide +kernel
theorem p64' {k : Nat} (h : k ≤ 6) : 2 ^ k ≤ 64 := show 2 ^ k ≤ 2 ^ 6 from Nat.pow_le_pow_right (by decide) h
theorem allstay_c {a S m : Nat} (hk : k ≤ 6) (hC : CR k p h p' h') (hS : SR k a t e r up due w st) (hs : S < 64) (hm : m ≤ 120) (now : Nat → Int32) : ∃ v now', F_X12_allStay (nI k) p' h' st now (nI S) (nI m) = some (v, now') ∧ ((v = 1 ∧ ∀ j, j < k → a.testBit j = true → oQ e r p h up due w m j (S.testBit j) = true) ∨ (v = 0 ∧ ∃ j, j < k ∧ a.testBit j = true ∧ ¬ oQ e r p h up due w m j (S.testBit j) = true)) := by
  have h64 := p64 hS.1 hk
  obtain ⟨z1, a1, a2⟩ := asit st now
  obtain ⟨s1, s2, s3, s4, s5, s6, s7, s8, s9⟩ := SR_cp (up' := up) (due' := due) (w' := w) hk hS (fun _ _ => ⟨rfl, rfl, rfl⟩) a2
  obtain ⟨z', M', b, g1, g2, g3, g4⟩ := as_1 (p := p') (h := h') hk (fun j hj => by
    obtain ⟨c1, c2, ⟨pv, p1, p2, p3⟩, ⟨hv, h1, h2, h3⟩⟩ := hC j hj
    exact ⟨⟨pv, p1, p2, by rw [← c1]; exact p3⟩, ⟨hv, h1, h2, by rw [← c2]; exact h3⟩⟩) m (by omega) e s6 a s1 300 0 S z1 hs s2 s4.symm (by rw [← s5]; exact s7) (fun j hj tb => by
    obtain ⟨u1, u2, u3, u4⟩ := s9 j hj tb
    rw [← u1, ← u2]
    exact ⟨u3, u4⟩) (by omega) (by omega)
  have key : ∀ j, j < k → a.testBit j = true → sol e (p' j) (h' j) (m - 0) (z1 2) (z1 (4 + j)) (oE S p' z1 j) (z1 (16 + j)) = oQ e r p h up due w m j (S.testBit j) := by
    intro j hj tb
    obtain ⟨c1, c2, c3, c4⟩ := hC j hj
    obtain ⟨u1, u2, u3, u4⟩ := s9 j (by omega) tb
    unfold oE oQ
    rw [Nat.sub_zero, ← c1, ← c2, ← s5, ← u1, ← u2, ← s8 j hj]
  unfold F_X12_allStay
  rw [a1]
  simp only [zb1, Option.bind_some]
  rw [show L_X12_allStay_9 (nI k) p' h' (nI m) 300 z1 (nI S) 0 = _ from g1]
  simp only [zb3, Option.bind_some]
  rw [cl_3, g2, hS.2.1]
  by_cases c : b = a
  · rw [if_pos (by rw [c])]
    exact ⟨1, z', rfl, Or.inl ⟨rfl, fun j hj tb => by rw [← key j hj tb]; exact g4.1 c j hj tb⟩⟩
  · rw [if_neg (fun y => c ((nI_eq (by omega) (by omega)).1 y))]
    refine ⟨0, z', rfl, Or.inr ⟨rfl, ?_⟩⟩
    apply Classical.byContradiction
    intro y
    apply c
    apply g4.2
    intro j hj tb
    rw [key j hj tb]
    exact Classical.byContradiction (fun x => y ⟨j, hj, tb, x⟩)
theorem o40 {a m x : Nat} (hk : k ≤ 6) (hC : CR k p h p' h') (hS : SR k a t e r up due w st) (hm : m ≤ 120) (hx : x ≤ 10) : ∀ (n S : Nat) (now : Nat → Int32), S ≤ 2 ^ k → 2 ^ k - S < n → ∃ now', L_X12_odds_40 (nI k) p' h' st (nI x) (nI m) n now (nI (sm (fun S => pr (fun j => oX a x (oQ e r p h up due w m) j (S.testBit j)) k) S)) (nI (sm (fun S => pr (fun j => oV a x j (S.testBit j)) k) S)) (nI S) = some (now', nI (sm (fun S => pr (fun j => oX a x (oQ e r p h up due w m) j (S.testBit j)) k) (2 ^ k)), nI (sm (fun S => pr (fun j => oV a x j (S.testBit j)) k) (2 ^ k)), nI (2 ^ k)) := by
  have h64 := p64 hS.1 hk
  have hk64 := p64' hk
  intro n
  induction n with
  | zero => intro S now h1 h2; omega
  | succ n ih =>
    intro S now h1 h2
    rw [L_X12_odds_40_s, sh1 k (by omega)]
    by_cases hi : S = 2 ^ k
    · subst hi
      rw [if_pos (nI_le (Nat.le_refl _) (by omega))]
      exact ⟨now, rfl⟩
    · have hlt : S < 2 ^ k := by omega
      have hs64 : S < 64 := by omega
      have go := fun (now : Nat → Int32) => ih (S + 1) now (by omega) (by omega)
      rw [sm_s, sm_s] at go
      rw [if_neg (nI_ge (by omega) (by omega)), cl_3, hS.2.1, bm_dif S hs64 a h64]
      have hd64 : S &&& (63 ^^^ a) < 64 := Nat.lt_of_le_of_lt Nat.and_le_left hs64
      by_cases sub : S &&& (63 ^^^ a) = 0
      · rw [if_pos ((mz hd64).2 sub)]
        have hsub : ∀ j, j < k → S.testBit j = true → a.testBit j = true := by
          intro j hj tb
          have := tb_dif (a := S) (b := a) (show j < 6 by omega)
          rw [sub, Nat.zero_testBit, tb] at this
          cases c : a.testBit j with
          | true => rfl
          | false => rw [c] at this; exact absurd this (by decide)
        rw [show L_X12_odds_71 (nI k) st (nI x) (nI S) 300 1 0 = _ from o71 (st := st) hk h64 hs64 hx hS.2.1 hsub 300 0 (by omega) (by omega)]
        simp only [zb2, Option.bind_some, nI_1]
        have hle : pr (fun j => oX a x (oQ e r p h up due w m) j (S.testBit j)) k ≤ pr (fun j => oV a x j (S.testBit j)) k := pr_le k (fun j _ => oX_le a x _ j _)
        have hb : pr (fun j => oV a x j (S.testBit j)) k ≤ 1000000 := Nat.le_trans (pr_le k (fun j _ => oV_le a hx j _)) (pr_10 k hk)
        have eX : (pr (fun j => oX a x (oQ e r p h up due w m) j (S.testBit j)) k = 0 → ∀ now, ∃ now', L_X12_odds_40 (nI k) p' h' st (nI x) (nI m) n now (nI (sm (fun S => pr (fun j => oX a x (oQ e r p h up due w m) j (S.testBit j)) k) S) + 0) (nI (sm (fun S => pr (fun j => oV a x j (S.testBit j)) k) S) + nI (pr (fun j => oV a x j (S.testBit j)) k)) (nI (S + 1)) = some (now', nI (sm (fun S => pr (fun j => oX a x (oQ e r p h up due w m) j (S.testBit j)) k) (2 ^ k)), nI (sm (fun S => pr (fun j => oV a x j (S.testBit j)) k) (2 ^ k)), nI (2 ^ k))) := by
          intro z now
          have := go now
          rw [z] at this
          rw [Int32.add_zero, nI_add]
          exact this
        by_cases c : pr (fun j => oV a x j (S.testBit j)) k = 0
        · rw [if_pos (by rw [c]; exact Int32.le_refl _)]
          exact eX (by omega) now
        · rw [if_neg (nI_nle (by omega) (by omega))]
          obtain ⟨v, now1, q1, q2⟩ := allstay_c (p := p) (h := h) hk hC hS hs64 hm now
          rw [q1]
          simp only [Option.bind_some]
          rcases q2 with ⟨rfl, q2⟩ | ⟨rfl, j, hj, tb, nq⟩
          · rw [if_neg n10, nI_add, nI_add]
            have ee : pr (fun j => oX a x (oQ e r p h up due w m) j (S.testBit j)) k = pr (fun j => oV a x j (S.testBit j)) k := by
              apply pr_eq
              intro j hj
              show oX a x (oQ e r p h up due w m) j (S.testBit j) = oV a x j (S.testBit j)
              unfold oX oV
              by_cases tb : a.testBit j = true
              · rw [if_pos tb, if_pos tb, if_pos (q2 j hj tb)]
              · rw [if_neg tb, if_neg tb]
            have := go now1
            rw [ee] at this
            exact this
          · rw [if_pos rfl]
            refine eX (pr_0 (j := j) ?_ k hj) now1
            show oX a x (oQ e r p h up due w m) j (S.testBit j) = 0
            unfold oX
            rw [if_pos tb, if_neg nq]
      · rw [if_neg (fun y => sub ((mz hd64).1 y)), nI_1]
        obtain ⟨j, hj, tj⟩ : ∃ j, j < 6 ∧ (S &&& (63 ^^^ a)).testBit j = true := by
          apply Classical.byContradiction
          intro y
          apply sub
          apply mx_ext hd64 (by decide)
          intro j hj
          rw [Nat.zero_testBit]
          exact Bool.eq_false_iff.mpr (fun x => y ⟨j, hj, x⟩)
        rw [tb_dif hj] at tj
        obtain ⟨t1, t2⟩ := Bool.and_eq_true_iff.mp tj
        have ta : ¬ a.testBit j = true := by
          intro y
          rw [y] at t2
          exact absurd t2 (by decide)
        have hjk := tb_lt hlt t1
        have e1 : pr (fun j => oX a x (oQ e r p h up due w m) j (S.testBit j)) k = 0 := by
          refine pr_0 (j := j) ?_ k hjk
          show oX a x (oQ e r p h up due w m) j (S.testBit j) = 0
          unfold oX
          rw [if_neg ta, if_pos t1]
        have e2 : pr (fun j => oV a x j (S.testBit j)) k = 0 := by
          refine pr_0 (j := j) ?_ k hjk
          show oV a x j (S.testBit j) = 0
          unfold oV
          rw [if_neg ta, if_pos t1]
        have := go now
        rw [e1, e2, Nat.add_zero, Nat.add_zero] at this
        exact this
theorem c40 {a m x : Nat} (hk : k ≤ 6) (ha : a < 64) (hm : m ≤ 120) (hx : x ≤ 10) : ∀ (n i : Nat) (t0 e0 r0 i0 : Int32) (up0 due0 w0 : Nat → Int32), i ≤ k → k - i < n → ∃ t' e' r' i' up' due' w', L_X11_odds_40 t e r (nI a) up due w (nI k) p h (nI x) (nI m) n t0 e0 r0 i0 up0 due0 w0 (nI (pr (fun j => oX a x (oQ e r p h up due w m) j true + oX a x (oQ e r p h up due w m) j false) i)) (nI (pr (fun j => oV a x j true + oV a x j false) i)) (nI i) = some (t', e', r', i', up', due', w', nI (pr (fun j => oX a x (oQ e r p h up due w m) j true + oX a x (oQ e r p h up due w m) j false) k), nI (pr (fun j => oV a x j true + oV a x j false) k), nI k) := by
  intro n
  induction n with
  | zero => intro i t0 e0 r0 i0 up0 due0 w0 h1 h2; omega
  | succ n ih =>
    intro i t0 e0 r0 i0 up0 due0 w0 h1 h2
    rw [L_X11_odds_40_s]
    by_cases hi : i = k
    · subst hi
      rw [if_pos (nI_le (Nat.le_refl _) (by omega))]
      exact ⟨_, _, _, _, _, _, _, rfl⟩
    · rw [if_neg (nI_ge (by omega) (by omega)), bm_holds a ha i (by omega)]
      have go := fun (t0 e0 r0 i0 : Int32) (up0 due0 w0 : Nat → Int32) => ih (i + 1) t0 e0 r0 i0 up0 due0 w0 (by omega) (by omega)
      rw [pr_s, pr_s] at go
      simp only [zb1, Option.bind_some, nI_1]
      by_cases tb : a.testBit i = true
      · obtain ⟨t1, e1, r1, i1, u1, d1, w1, q1⟩ := tenths_c (p := p) (h := h) hk hm hx (show i < k by omega) t e r (nI a) up due w up0 due0 w0
        rw [if_pos tb, if_neg n10, q1]
        simp only [zb8, Option.bind_some]
        rw [pk_mul, show (10 : Int32) = nI 10 from rfl, pk_mul]
        rw [oX_s tb, oV_s hx tb] at go
        exact go _ _ _ _ _ _ _
      · rw [if_neg tb, if_pos rfl]
        rw [oX_n tb, oV_n tb, Nat.mul_one, Nat.mul_one] at go
        exact go _ _ _ _ _ _ _
theorem le1 {v : Nat} (h : v ≤ 1) : nI v ≤ 1 := nI_le (b := 1) h (by omega)
theorem odds_s {i : Int32} (hk : k ≤ 6) (hC : CR k p h p' h') (hS : SQ k t e r i up due w st) (t0 e0 r0 i0 : Int32) (up0 due0 w0 now : Nat → Int32) (x y z : Int32) : ∃ v t' e' r' i' up' due' w' now', F_X11_odds t e r i up due w t0 e0 r0 i0 up0 due0 w0 (nI k) p h x y z = some (v, t', e', r', i', up', due', w') ∧ F_X12_odds (nI k) p' h' st now x y z = some (v, now') := by
  obtain ⟨a, rfl, ht, hS⟩ := hS
  have h64 := p64 hS.1 hk
  unfold F_X11_odds F_X12_odds
  rcases in_c (x := x) (a := 0) (b := 10) (by omega) (by omega) with ⟨g1, g2⟩ | ⟨xv, x1, x2, rfl, g1⟩
  · rw [show F_X12_in x 0 10 = some 0 from g1]
    simp only [zb1, Option.bind_some, if_true]
    rcases g2 with g2 | g2
    · rw [if_pos (show x < 0 from g2)]
      exact ⟨_, _, _, _, _, _, _, _, _, rfl, rfl⟩
    · rw [if_neg (show ¬ x < 0 from lt_no (Nat.zero_le 10) (by omega) g2), if_pos (show 10 < x from g2)]
      exact ⟨_, _, _, _, _, _, _, _, _, rfl, rfl⟩
  · rw [show F_X12_in (nI xv) 0 10 = some 1 from g1, if_neg (nI_pos (by omega)), if_neg (show ¬ (10 : Int32) < nI xv from nI_nlt (a := 10) x2 (by omega))]
    simp only [zb1, Option.bind_some]
    rw [if_neg n10]
    rcases in_c (x := y) (a := 0) (b := 60) (by omega) (by omega) with ⟨g3, g4⟩ | ⟨yv, y1, y2, rfl, g3⟩
    · rw [show F_X12_in y 0 60 = some 0 from g3]
      simp only [Option.bind_some, if_true]
      rcases g4 with g4 | g4
      · rw [if_pos (show y < 0 from g4)]
        exact ⟨_, _, _, _, _, _, _, _, _, rfl, rfl⟩
      · rw [if_neg (show ¬ y < 0 from lt_no (Nat.zero_le 60) (by omega) g4), if_pos (show 60 < y from g4)]
        exact ⟨_, _, _, _, _, _, _, _, _, rfl, rfl⟩
    · rw [show F_X12_in (nI yv) 0 60 = some 1 from g3, if_neg (nI_pos (by omega)), if_neg (show ¬ (60 : Int32) < nI yv from nI_nlt (a := 60) y2 (by omega))]
      simp only [Option.bind_some]
      rw [if_neg n10]
      rcases in_c (x := z) (a := 0) (b := 1) (by omega) (by omega) with ⟨g5, g6⟩ | ⟨zv, z1, z2, rfl, g5⟩
      · rw [show F_X12_in z 0 1 = some 0 from g5]
        simp only [Option.bind_some, if_true]
        rcases g6 with g6 | g6
        · rw [if_pos (show z < 0 from g6)]
          exact ⟨_, _, _, _, _, _, _, _, _, rfl, rfl⟩
        · rw [if_neg (show ¬ z < 0 from lt_no (Nat.zero_le 1) (by omega) g6), if_neg (Int32.not_le.mpr (show 1 < z from g6))]
          exact ⟨_, _, _, _, _, _, _, _, _, rfl, rfl⟩
      · rw [show F_X12_in (nI zv) 0 1 = some 1 from g5, if_neg (nI_pos (by omega)), if_pos (le1 z2)]
        simp only [Option.bind_some]
        rw [if_neg n10]
        obtain ⟨t1, e1, r1, i1, u1, d1, w1, C1⟩ := c40 (t := t) (e := e) (r := r) (up := up) (due := due) (w := w) (p := p) (h := h) (a := a) (m := yv) (x := xv) hk h64 (by omega) x2 300 0 t0 e0 r0 i0 up0 due0 w0 (by omega) (by omega)
        obtain ⟨now1, M1⟩ := o40 (p := p) (h := h) (m := yv) (x := xv) hk hC hS (by omega) x2 300 0 now (Nat.zero_le _) (by have := p64' hk; omega)
        rw [dist, dist] at M1
        have hb : pr (fun j => oV a xv j true + oV a xv j false) k ≤ 1000000 := Nat.le_trans (pr_le k (fun j _ => by
          show oV a xv j true + oV a xv j false ≤ 10
          by_cases tb : a.testBit j = true
          · rw [oV_s x2 tb]; exact Nat.le_refl _
          · rw [oV_n tb]; omega)) (pr_10 k hk)
        have hp0 : 0 < pr (fun j => oV a xv j true + oV a xv j false) k := pr_pos k (fun j _ => by
          show 0 < oV a xv j true + oV a xv j false
          by_cases tb : a.testBit j = true
          · rw [oV_s x2 tb]; omega
          · rw [oV_n tb]; omega)
        have hle : pr (fun j => oX a xv (oQ e r p h up due w yv) j true + oX a xv (oQ e r p h up due w yv) j false) k ≤ pr (fun j => oV a xv j true + oV a xv j false) k := pr_le k (fun j _ => Nat.add_le_add (oX_le a xv _ j true) (oX_le a xv _ j false))
        rw [show L_X11_odds_40 t e r (nI a) up due w (nI k) p h (nI xv) (nI yv) 300 t0 e0 r0 i0 up0 due0 w0 1 1 0 = _ from C1, show L_X12_odds_40 (nI k) p' h' st (nI xv) (nI yv) 300 now 0 0 0 = _ from M1]
        simp only [zb10, zb4, Option.bind_some]
        generalize pr (fun j => oX a xv (oQ e r p h up due w yv) j true + oX a xv (oQ e r p h up due w yv) j false) k = U at hle ⊢
        generalize pr (fun j => oV a xv j true + oV a xv j false) k = V at hb hp0 hle ⊢
        obtain ⟨g, G1, G2, G3, G4⟩ := gcd_c (a := U) (b := V) (by omega) hb hp0
        rw [G3, G4]
        simp only [Option.bind_some]
        rw [if_pos (show 0 < nI g from nI_lt (a := 0) G1 G2)]
        by_cases c : nI zv = 0
        · rw [if_pos c, if_pos c, if_neg (nI_ne0 G1 G2), if_neg (nI_ne0 G1 G2)]
          exact ⟨_, _, _, _, _, _, _, _, _, rfl, rfl⟩
        · rw [if_neg c, if_neg c, if_neg (nI_ne0 G1 G2), if_neg (nI_ne0 G1 G2)]
          exact ⟨_, _, _, _, _, _, _, _, _, rfl, rfl⟩
end ODDS
