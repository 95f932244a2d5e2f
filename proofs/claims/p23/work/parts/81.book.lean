/-! what is kept to be undone: the class's ring, the reference's book -/
theorem rng {x : Int32} {a b : Nat} (ha : a < 2 ^ 31) (hb : b < 2 ^ 31) (h1 : ¬ x < nI a) (h2 : ¬ nI b < x) : ∃ v, a ≤ v ∧ v ≤ b ∧ x = nI v := by
  have h0 : ¬ x < 0 := fun y => h1 (Int32.lt_of_lt_of_le y (nI_pos' ha))
  obtain ⟨v, e1, rfl⟩ := nI_of h0
  rw [nI_ltI e1 ha] at h1
  rw [nI_ltI hb e1] at h2
  exact ⟨v, by omega, by omega, rfl⟩
def SQ (k : Nat) (t e r i : Int32) (up due w z : Nat → Int32) : Prop := ∃ a, i = nI a ∧ rg t 999 ∧ SR k a t e r up due w z
theorem SQ_cp {k : Nat} {t e r i : Int32} {up due w z up' due' w' z' : Nat → Int32} (hk : k ≤ 6) (hS : SQ k t e r i up due w z) (h1 : ∀ j, j < 6 → up' j = up j ∧ due' j = due j ∧ w' j = w j) (h2 : ∀ j, j < 22 → z' j = z j) : SQ k t e r i up' due' w' z' := by
  obtain ⟨a, e1, e2, e3⟩ := hS
  exact ⟨a, e1, e2, SR_cp hk e3 h1 h2⟩
theorem bsL (m : Nat) (hm : 22 + m ≤ 220) : ∀ (n k : Nat) (f : Nat → Int32), k ≤ m → m - k < n → ∃ f', L_X12_bring_same_3 220 (nI 22) (nI 0) (nI m) n f (nI k) = some (f', nI m) ∧ (∀ j, k ≤ j → j < m → f' j = f (22 + j)) ∧ ∀ j, (j < k ∨ m ≤ j) → f' j = f j := by
  intro n
  induction n with
  | zero => intro k f h1 h2; omega
  | succ n ih =>
    intro k f h1 h2
    rw [L_X12_bring_same_3_s]
    by_cases hk : k = m
    · subst hk
      exact ⟨f, by rw [if_pos (nI_le (Nat.le_refl _) (by omega))], fun j h1 h2 => by omega, fun j _ => rfl⟩
    · rw [if_neg (nI_ge (by omega) (by omega)), nI_add, nI_add, if_neg (nI_in (by omega) (by omega)), if_neg (nI_in (by omega) (by omega)), nI_1, nI_clamp (by omega), nI_clamp (by omega)]
      obtain ⟨f', e1, e2, e3⟩ := ih (k + 1) (upd f (0 + k) (f (22 + k))) (by omega) (by omega)
      refine ⟨f', e1, fun j h3 h4 => ?_, fun j hj => ?_⟩
      · by_cases hjk : j = k
        · subst hjk
          rw [e3 j (Or.inl (by omega)), Nat.zero_add, pk_us]
        · rw [e2 j (by omega) h4, pk_un (by omega)]
      · rw [e3 j (by omega), pk_un (by omega)]
theorem m22 : ∀ u, u < 11 → (22 : Int32) * nI u = nI (22 * u) := by decide +kernel
theorem notes_lt (u : Nat) (hu : u < 10) (st book : Nat → Int32) : ∃ book', F_X12_notes (nI u) st book = some (nI (u + 1), book') ∧ (∀ x, x < 22 → book' (22 * u + x) = st x) ∧ ∀ j, j < 22 * u → book' j = book j := by
  obtain ⟨b2, g1, g2, g3⟩ := bring0 22 220 (by omega) (by omega) st book 0 (22 * u) 22 (by omega) (by omega) (by omega)
  refine ⟨b2, ?_, fun x hx => ?_, fun j hj => g3 j (Or.inl hj)⟩
  · unfold F_X12_notes
    have hne : ¬ nI u = 10 := fun y => by
      have := (nI_eq (b := 10) (by omega) (by omega)).1 y
      omega
    rw [if_neg hne, m22 u (by omega), show F_X12_bring 22 st 220 book 0 (nI (22 * u)) 22 = some b2 from g1]
    simp only [zb1, Option.bind_some, nI_1]
  · rw [g2 x hx, Nat.zero_add]
theorem notes_10 (st book : Nat → Int32) : ∃ book', F_X12_notes (nI 10) st book = some (nI 10, book') ∧ (∀ x, x < 22 → book' (198 + x) = st x) ∧ ∀ j, j < 198 → book' j = book (22 + j) := by
  obtain ⟨b1, e1, e2, e3⟩ := bsL 198 (by omega) 300 0 book (by omega) (by omega)
  obtain ⟨b2, g1, g2, g3⟩ := bring0 22 220 (by omega) (by omega) st b1 0 198 22 (by omega) (by omega) (by omega)
  refine ⟨b2, ?_, fun x hx => ?_, fun j hj => ?_⟩
  · unfold F_X12_notes F_X12_bring_same
    rw [if_pos (show nI 10 = 10 from rfl), show L_X12_bring_same_3 220 22 0 198 300 book 0 = some (b1, nI 198) from e1]
    simp only [zb1, zb2, Option.bind_some]
    rw [show (22 : Int32) * (nI 10 - 1) = nI 198 from by decide +kernel, show F_X12_bring 22 st 220 b1 0 (nI 198) 22 = some b2 from g1]
    simp only [Option.bind_some]
    rw [show nI 10 - 1 + 1 = nI 10 from by decide +kernel]
  · rw [g2 x hx, Nat.zero_add]
  · rw [g3 j (Or.inl hj), e2 j (by omega) hj]
theorem psz : ∀ u, u < 11 → (if (10 : Int32) < nI u + 1 then 10 else nI u + 1) = nI (if u = 10 then 10 else u + 1) := by decide +kernel
theorem pnx : ∀ n, n < 10 → (nI n + 1) - (nI n + 1) / 10 * 10 = nI ((n + 1) % 10) := by decide +kernel
theorem plt : ∀ n, n < 10 → ((nI n + 10) - 1) - ((nI n + 10) - 1) / 10 * 10 = nI ((n + 9) % 10) := by decide +kernel
section RING
variable (qt qe qr qi : Nat → Int32) (qu qd qw : Nat → Nat → Int32) (t e r i : Int32) (up due w : Nat → Int32)
theorem push_c (n u : Nat) (hn : n < 10) (hu : u ≤ 10) : ∃ up' due' w', F_X6_push (nI n) (nI u) qt qe qr qi qu qd qw t e r i up due w = some (nI ((n + 1) % 10), nI (if u = 10 then 10 else u + 1), va_up qt n t, va_up qe n e, va_up qr n r, va_up qi n i, va_up qu n up', va_up qd n due', va_up qw n w') ∧ ∀ j, j < 6 → up' j = up j ∧ due' j = due j ∧ w' j = w j := by
  unfold F_X6_push
  rw [psz u (by omega), pnx n hn]
  rcases (show n = 0 ∨ n = 1 ∨ n = 2 ∨ n = 3 ∨ n = 4 ∨ n = 5 ∨ n = 6 ∨ n = 7 ∨ n = 8 ∨ n = 9 by omega) with rfl | rfl | rfl | rfl | rfl | rfl | rfl | rfl | rfl | rfl
  · obtain ⟨u1, d1, w1, b1, b2⟩ := bec t e r i up due w (qu 0) (qd 0) (qw 0)
    rw [if_pos (by decide +kernel), b1]
    exact ⟨u1, d1, w1, rfl, b2⟩
  · obtain ⟨u1, d1, w1, b1, b2⟩ := bec t e r i up due w (qu 1) (qd 1) (qw 1)
    rw [if_neg (by decide +kernel), if_pos (by decide +kernel), b1]
    exact ⟨u1, d1, w1, rfl, b2⟩
  · obtain ⟨u1, d1, w1, b1, b2⟩ := bec t e r i up due w (qu 2) (qd 2) (qw 2)
    rw [if_neg (by decide +kernel), if_neg (by decide +kernel), if_pos (by decide +kernel), b1]
    exact ⟨u1, d1, w1, rfl, b2⟩
  · obtain ⟨u1, d1, w1, b1, b2⟩ := bec t e r i up due w (qu 3) (qd 3) (qw 3)
    rw [if_neg (by decide +kernel), if_neg (by decide +kernel), if_neg (by decide +kernel), if_pos (by decide +kernel), b1]
    exact ⟨u1, d1, w1, rfl, b2⟩
  · obtain ⟨u1, d1, w1, b1, b2⟩ := bec t e r i up due w (qu 4) (qd 4) (qw 4)
    rw [if_neg (by decide +kernel), if_neg (by decide +kernel), if_neg (by decide +kernel), if_neg (by decide +kernel), if_pos (by decide +kernel), b1]
    exact ⟨u1, d1, w1, rfl, b2⟩
  · obtain ⟨u1, d1, w1, b1, b2⟩ := bec t e r i up due w (qu 5) (qd 5) (qw 5)
    rw [if_neg (by decide +kernel), if_neg (by decide +kernel), if_neg (by decide +kernel), if_neg (by decide +kernel), if_neg (by decide +kernel), if_pos (by decide +kernel), b1]
    exact ⟨u1, d1, w1, rfl, b2⟩
  · obtain ⟨u1, d1, w1, b1, b2⟩ := bec t e r i up due w (qu 6) (qd 6) (qw 6)
    rw [if_neg (by decide +kernel), if_neg (by decide +kernel), if_neg (by decide +kernel), if_neg (by decide +kernel), if_neg (by decide +kernel), if_neg (by decide +kernel), if_pos (by decide +kernel), b1]
    exact ⟨u1, d1, w1, rfl, b2⟩
  · obtain ⟨u1, d1, w1, b1, b2⟩ := bec t e r i up due w (qu 7) (qd 7) (qw 7)
    rw [if_neg (by decide +kernel), if_neg (by decide +kernel), if_neg (by decide +kernel), if_neg (by decide +kernel), if_neg (by decide +kernel), if_neg (by decide +kernel), if_neg (by decide +kernel), if_pos (by decide +kernel), b1]
    exact ⟨u1, d1, w1, rfl, b2⟩
  · obtain ⟨u1, d1, w1, b1, b2⟩ := bec t e r i up due w (qu 8) (qd 8) (qw 8)
    rw [if_neg (by decide +kernel), if_neg (by decide +kernel), if_neg (by decide +kernel), if_neg (by decide +kernel), if_neg (by decide +kernel), if_neg (by decide +kernel), if_neg (by decide +kernel), if_neg (by decide +kernel), if_pos (by decide +kernel), b1]
    exact ⟨u1, d1, w1, rfl, b2⟩
  · obtain ⟨u1, d1, w1, b1, b2⟩ := bec t e r i up due w (qu 9) (qd 9) (qw 9)
    rw [if_neg (by decide +kernel), if_neg (by decide +kernel), if_neg (by decide +kernel), if_neg (by decide +kernel), if_neg (by decide +kernel), if_neg (by decide +kernel), if_neg (by decide +kernel), if_neg (by decide +kernel), if_neg (by decide +kernel), if_pos (by decide +kernel), b1]
    exact ⟨u1, d1, w1, rfl, b2⟩
theorem pop_c (n u : Nat) (hn : n < 10) (h0 : 0 < u) (hu : u ≤ 10) : ∃ up' due' w', F_X6_popInto (nI n) (nI u) qt qe qr qi qu qd qw t e r i up due w = some (nI ((n + 9) % 10), nI u - 1, qt ((n + 9) % 10), qe ((n + 9) % 10), qr ((n + 9) % 10), qi ((n + 9) % 10), up', due', w') ∧ ∀ j, j < 6 → up' j = qu ((n + 9) % 10) j ∧ due' j = qd ((n + 9) % 10) j ∧ w' j = qw ((n + 9) % 10) j := by
  unfold F_X6_popInto
  rw [plt n hn]
  have hu0 : ¬ nI u ≤ 0 := nI_nle h0 (by omega)
  have hm : (n + 9) % 10 < 10 := Nat.mod_lt _ (by decide)
  generalize (n + 9) % 10 = m at hm ⊢
  rcases (show m = 0 ∨ m = 1 ∨ m = 2 ∨ m = 3 ∨ m = 4 ∨ m = 5 ∨ m = 6 ∨ m = 7 ∨ m = 8 ∨ m = 9 by omega) with rfl | rfl | rfl | rfl | rfl | rfl | rfl | rfl | rfl | rfl
  · obtain ⟨u1, d1, w1, b1, b2⟩ := bec (qt 0) (qe 0) (qr 0) (qi 0) (qu 0) (qd 0) (qw 0) up due w
    rw [if_pos (by decide +kernel), if_neg hu0, b1]
    exact ⟨u1, d1, w1, rfl, b2⟩
  · obtain ⟨u1, d1, w1, b1, b2⟩ := bec (qt 1) (qe 1) (qr 1) (qi 1) (qu 1) (qd 1) (qw 1) up due w
    rw [if_neg (by decide +kernel), if_pos (by decide +kernel), if_neg hu0, b1]
    exact ⟨u1, d1, w1, rfl, b2⟩
  · obtain ⟨u1, d1, w1, b1, b2⟩ := bec (qt 2) (qe 2) (qr 2) (qi 2) (qu 2) (qd 2) (qw 2) up due w
    rw [if_neg (by decide +kernel), if_neg (by decide +kernel), if_pos (by decide +kernel), if_neg hu0, b1]
    exact ⟨u1, d1, w1, rfl, b2⟩
  · obtain ⟨u1, d1, w1, b1, b2⟩ := bec (qt 3) (qe 3) (qr 3) (qi 3) (qu 3) (qd 3) (qw 3) up due w
    rw [if_neg (by decide +kernel), if_neg (by decide +kernel), if_neg (by decide +kernel), if_pos (by decide +kernel), if_neg hu0, b1]
    exact ⟨u1, d1, w1, rfl, b2⟩
  · obtain ⟨u1, d1, w1, b1, b2⟩ := bec (qt 4) (qe 4) (qr 4) (qi 4) (qu 4) (qd 4) (qw 4) up due w
    rw [if_neg (by decide +kernel), if_neg (by decide +kernel), if_neg (by decide +kernel), if_neg (by decide +kernel), if_pos (by decide +kernel), if_neg hu0, b1]
    exact ⟨u1, d1, w1, rfl, b2⟩
  · obtain ⟨u1, d1, w1, b1, b2⟩ := bec (qt 5) (qe 5) (qr 5) (qi 5) (qu 5) (qd 5) (qw 5) up due w
    rw [if_neg (by decide +kernel), if_neg (by decide +kernel), if_neg (by decide +kernel), if_neg (by decide +kernel), if_neg (by decide +kernel), if_pos (by decide +kernel), if_neg hu0, b1]
    exact ⟨u1, d1, w1, rfl, b2⟩
  · obtain ⟨u1, d1, w1, b1, b2⟩ := bec (qt 6) (qe 6) (qr 6) (qi 6) (qu 6) (qd 6) (qw 6) up due w
    rw [if_neg (by decide +kernel), if_neg (by decide +kernel), if_neg (by decide +kernel), if_neg (by decide +kernel), if_neg (by decide +kernel), if_neg (by decide +kernel), if_pos (by decide +kernel), if_neg hu0, b1]
    exact ⟨u1, d1, w1, rfl, b2⟩
  · obtain ⟨u1, d1, w1, b1, b2⟩ := bec (qt 7) (qe 7) (qr 7) (qi 7) (qu 7) (qd 7) (qw 7) up due w
    rw [if_neg (by decide +kernel), if_neg (by decide +kernel), if_neg (by decide +kernel), if_neg (by decide +kernel), if_neg (by decide +kernel), if_neg (by decide +kernel), if_neg (by decide +kernel), if_pos (by decide +kernel), if_neg hu0, b1]
    exact ⟨u1, d1, w1, rfl, b2⟩
  · obtain ⟨u1, d1, w1, b1, b2⟩ := bec (qt 8) (qe 8) (qr 8) (qi 8) (qu 8) (qd 8) (qw 8) up due w
    rw [if_neg (by decide +kernel), if_neg (by decide +kernel), if_neg (by decide +kernel), if_neg (by decide +kernel), if_neg (by decide +kernel), if_neg (by decide +kernel), if_neg (by decide +kernel), if_neg (by decide +kernel), if_pos (by decide +kernel), if_neg hu0, b1]
    exact ⟨u1, d1, w1, rfl, b2⟩
  · obtain ⟨u1, d1, w1, b1, b2⟩ := bec (qt 9) (qe 9) (qr 9) (qi 9) (qu 9) (qd 9) (qw 9) up due w
    rw [if_neg (by decide +kernel), if_neg (by decide +kernel), if_neg (by decide +kernel), if_neg (by decide +kernel), if_neg (by decide +kernel), if_neg (by decide +kernel), if_neg (by decide +kernel), if_neg (by decide +kernel), if_neg (by decide +kernel), if_pos (by decide +kernel), if_neg hu0, b1]
    exact ⟨u1, d1, w1, rfl, b2⟩
end RING
def IR (k : Nat) (nx us : Int32) (qt qe qr qi : Nat → Int32) (qu qd qw : Nat → Nat → Int32) (mu : Int32) (book : Nat → Int32) : Prop :=
  ∃ n u, n < 10 ∧ u ≤ 10 ∧ nx = nI n ∧ us = nI u ∧ mu = nI u ∧ ∀ i, i < u → SQ k (qt ((n + 10 - u + i) % 10)) (qe ((n + 10 - u + i) % 10)) (qr ((n + 10 - u + i) % 10)) (qi ((n + 10 - u + i) % 10)) (qu ((n + 10 - u + i) % 10)) (qd ((n + 10 - u + i) % 10)) (qw ((n + 10 - u + i) % 10)) (fun x => book (22 * i + x))
theorem IR_push {k : Nat} (hk : k ≤ 6) {nx us mu : Int32} {qt qe qr qi : Nat → Int32} {qu qd qw : Nat → Nat → Int32} {book : Nat → Int32} (hR : IR k nx us qt qe qr qi qu qd qw mu book) {t e r i : Int32} {up due w st : Nat → Int32} (hS : SQ k t e r i up due w st) : ∃ nx' us' qt' qe' qr' qi' qu' qd' qw' book', F_X6_push nx us qt qe qr qi qu qd qw t e r i up due w = some (nx', us', qt', qe', qr', qi', qu', qd', qw') ∧ F_X12_notes mu st book = some (us', book') ∧ IR k nx' us' qt' qe' qr' qi' qu' qd' qw' us' book' := by
  obtain ⟨n, u, hn, hu, rfl, rfl, rfl, hq⟩ := hR
  obtain ⟨up', due', w', b1, b2⟩ := push_c qt qe qr qi qu qd qw t e r i up due w n u hn hu
  have hnew : SQ k t e r i up' due' w' st := SQ_cp hk hS b2 (fun _ _ => rfl)
  by_cases h : u = 10
  · subst h
    obtain ⟨book', e1, e2, e3⟩ := notes_10 st book
    refine ⟨_, _, _, _, _, _, _, _, _, book', b1, e1, (n + 1) % 10, 10, Nat.mod_lt _ (by decide), Nat.le_refl _, rfl, rfl, rfl, fun j hj => ?_⟩
    by_cases hj9 : j = 9
    · subst hj9
      rw [show ((n + 1) % 10 + 10 - 10 + 9) % 10 = n by omega]
      simp only [va_up_self]
      exact SQ_cp hk hnew (fun _ _ => ⟨rfl, rfl, rfl⟩) (fun x hx => e2 x hx)
    · have hne : (n + (j + 1)) % 10 ≠ n := by omega
      have h2 := hq (j + 1) (by omega)
      rw [show (n + 10 - 10 + (j + 1)) % 10 = (n + (j + 1)) % 10 by omega] at h2
      rw [show ((n + 1) % 10 + 10 - 10 + j) % 10 = (n + (j + 1)) % 10 by omega, va_up_ne _ _ hne, va_up_ne _ _ hne, va_up_ne _ _ hne, va_up_ne _ _ hne, va_up_ne _ _ hne, va_up_ne _ _ hne, va_up_ne _ _ hne]
      refine SQ_cp hk h2 (fun _ _ => ⟨rfl, rfl, rfl⟩) (fun x hx => ?_)
      show book' (22 * j + x) = book (22 * (j + 1) + x)
      rw [e3 _ (by omega), show 22 + (22 * j + x) = 22 * (j + 1) + x by omega]
  · rw [if_neg h] at b1
    obtain ⟨book', e1, e2, e3⟩ := notes_lt u (by omega) st book
    refine ⟨_, _, _, _, _, _, _, _, _, book', b1, e1, (n + 1) % 10, u + 1, Nat.mod_lt _ (by decide), by omega, rfl, rfl, rfl, fun j hj => ?_⟩
    by_cases hju : j = u
    · subst hju
      rw [show ((n + 1) % 10 + 10 - (j + 1) + j) % 10 = n by omega]
      simp only [va_up_self]
      exact SQ_cp hk hnew (fun _ _ => ⟨rfl, rfl, rfl⟩) (fun x hx => e2 x hx)
    · have hne : (n + 10 - u + j) % 10 ≠ n := by omega
      have h2 := hq j (by omega)
      rw [show ((n + 1) % 10 + 10 - (u + 1) + j) % 10 = (n + 10 - u + j) % 10 by omega, va_up_ne _ _ hne, va_up_ne _ _ hne, va_up_ne _ _ hne, va_up_ne _ _ hne, va_up_ne _ _ hne, va_up_ne _ _ hne, va_up_ne _ _ hne]
      refine SQ_cp hk h2 (fun _ _ => ⟨rfl, rfl, rfl⟩) (fun x hx => ?_)
      show book' (22 * j + x) = book (22 * j + x)
      rw [e3 _ (by omega)]
theorem IR_0 {k : Nat} {nx us mu : Int32} {qt qe qr qi : Nat → Int32} {qu qd qw : Nat → Nat → Int32} {book : Nat → Int32} {k' : Nat} {qt' qe' qr' qi' : Nat → Int32} {qu' qd' qw' : Nat → Nat → Int32} {book' : Nat → Int32} (hR : IR k nx us qt qe qr qi qu qd qw mu book) : IR k' nx 0 qt' qe' qr' qi' qu' qd' qw' 0 book' := by
  obtain ⟨n, u, hn, hu, rfl, rfl, rfl, hq⟩ := hR
  exact ⟨n, 0, hn, by omega, rfl, rfl, rfl, fun i hi => by omega⟩
/-- the latest one undone -/
theorem undo_s {k : Nat} (hk : k ≤ 6) {nx us mu : Int32} {qt qe qr qi : Nat → Int32} {qu qd qw : Nat → Nat → Int32} {book : Nat → Int32} (hR : IR k nx us qt qe qr qi qu qd qw mu book) {t e r i : Int32} {up due w st : Nat → Int32} (hS : SQ k t e r i up due w st) : ∃ v t' e' r' i' up' due' w' nx' us' mu' st', F_X11_undo t e r i up due w nx us qt qe qr qi qu qd qw = some (v, t', e', r', i', up', due', w', nx', us') ∧ F_X12_undo mu st book = some (v, mu', st') ∧ SQ k t' e' r' i' up' due' w' st' ∧ IR k nx' us' qt qe qr qi qu qd qw mu' book := by
  have hR' := hR
  obtain ⟨n, u, hn, hu, rfl, rfl, rfl, hq⟩ := hR'
  unfold F_X11_undo F_X12_undo
  by_cases h : u = 0
  · subst h
    rw [if_neg (by decide +kernel), if_pos nI_0]
    exact ⟨_, _, _, _, _, _, _, _, _, _, _, _, rfl, rfl, hS, hR⟩
  · have h1 : (0 : Int32) < nI u := nI_lt (a := 0) (by omega) (by omega)
    have h2 : ¬ nI u = 0 := nI_ne0 (by omega) (by omega)
    obtain ⟨up', due', w', b1, b2⟩ := pop_c qt qe qr qi qu qd qw t e r i up due w n u hn (by omega) hu
    obtain ⟨v, rfl⟩ : ∃ v, u = v + 1 := ⟨u - 1, by omega⟩
    obtain ⟨st', g1, g2, g3⟩ := bring0 220 22 (by omega) (by omega) book st (22 * v) 0 22 (by omega) (by omega) (by omega)
    rw [if_pos h1, if_neg h2, b1, nI_pred, m22 v (by omega), show F_X12_bring 220 book 22 st (nI (22 * v)) 0 22 = some st' from g1]
    refine ⟨_, _, _, _, _, _, _, _, _, _, _, st', rfl, rfl, ?_, (n + 9) % 10, v, Nat.mod_lt _ (by decide), by omega, rfl, rfl, rfl, fun j hj => ?_⟩
    · have h3 := hq v (by omega)
      rw [show (n + 10 - (v + 1) + v) % 10 = (n + 9) % 10 by omega] at h3
      refine SQ_cp hk h3 b2 (fun j hj => ?_)
      have := g2 j hj
      rw [Nat.zero_add] at this
      exact this
    · have h3 := hq j (by omega)
      rw [show (n + 10 - (v + 1) + j) % 10 = ((n + 9) % 10 + 10 - v + j) % 10 by omega] at h3
      exact h3
