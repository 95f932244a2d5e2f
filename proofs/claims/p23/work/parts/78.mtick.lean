/-! the reference's tick, cell by cell -/
theorem n_4 (j : Nat) : (4 : Int32) + nI j = nI (4 + j) := nI_add 4 j
theorem n_10 (j : Nat) : (10 : Int32) + nI j = nI (10 + j) := nI_add 10 j
theorem n_16 (j : Nat) : (16 : Int32) + nI j = nI (16 + j) := nI_add 16 j
theorem cl_0 : (0 : Int32).toNatClampNeg = 0 := rfl
theorem cl_1 : (1 : Int32).toNatClampNeg = 1 := rfl
theorem cl_2 : (2 : Int32).toNatClampNeg = 2 := rfl
theorem cl_3 : (3 : Int32).toNatClampNeg = 3 := rfl
theorem nin {c N : Nat} (h : c < N) (hN : N < 2 ^ 31) : ¬ (nI c < 0 ∨ N ≤ c) := fun y => y.elim (nI_pos (by omega)) (fun z => by omega)
theorem jm_c (j : Nat) (hj : j < 6) (p h z : Nat → Int32) (m : Bool) : ∃ z', F_X12_jumps p h z (nI j) (if m = true then 1 else 0) = some z' ∧ (∀ x, x ≠ 4 + j → x ≠ 10 + j → x ≠ 16 + j → z' x = z x) ∧ z' (4 + j) = (if z (10 + j) = 0 ∧ ¬ z (16 + j) ≤ 0 ∧ m = false then h j else z (4 + j)) ∧ z' (10 + j) = (if z (10 + j) = 0 then p j else z (10 + j)) ∧ z' (16 + j) = (if z (10 + j) = 0 ∧ ¬ z (16 + j) ≤ 0 ∧ m = false then z (16 + j) - 1 else z (16 + j)) := by
  unfold F_X12_jumps
  rw [n_4, n_10, n_16, if_neg (nI_in (by omega) (by omega)), nI_clamp (by omega), nI_clamp (by omega), nI_clamp (by omega), nI_clamp (by omega)]
  by_cases d : z (10 + j) = 0
  · rw [if_pos d, if_neg (nin (by omega) (by omega))]
    by_cases v : z (16 + j) ≤ 0
    · rw [if_pos v, if_neg (nin (by omega) (by omega))]
      refine ⟨_, rfl, fun x h1 h2 h3 => pk_un h2, ?_, ?_, ?_⟩
      · rw [pk_un (by omega), if_neg (fun y => y.2.1 v)]
      · rw [pk_us, if_pos d]
      · rw [pk_un (by omega), if_neg (fun y => y.2.1 v)]
    · rw [if_neg v]
      cases m with
      | true =>
        rw [if_pos rfl, if_neg (by decide), if_neg (nin (by omega) (by omega))]
        refine ⟨_, rfl, fun x h1 h2 h3 => pk_un h2, ?_, ?_, ?_⟩
        · rw [pk_un (by omega), if_neg (fun y => absurd y.2.2 (by decide))]
        · rw [pk_us, if_pos d]
        · rw [pk_un (by omega), if_neg (fun y => absurd y.2.2 (by decide))]
      | false =>
        rw [if_pos (show (if (false = true) then (1 : Int32) else 0) = 0 from rfl), if_neg (nin (by omega) (by omega)), if_neg (nin (by omega) (by omega))]
        refine ⟨_, rfl, fun x h1 h2 h3 => by rw [pk_un h2, pk_un h1, pk_un h3], ?_, ?_, ?_⟩
        · rw [pk_un (by omega), pk_us, if_pos ⟨d, v, rfl⟩]
        · rw [pk_us, if_pos d]
        · rw [pk_un (by omega), pk_un (by omega), pk_us, if_pos ⟨d, v, rfl⟩]
  · rw [if_neg d]
    refine ⟨_, rfl, fun x _ _ _ => rfl, ?_, ?_, ?_⟩
    · rw [if_neg (fun y => d y.1)]
    · rw [if_neg d]
    · rw [if_neg (fun y => d y.1)]
def mU (a s : Nat) (h z : Nat → Int32) (j : Nat) : Int32 := if a.testBit j = true ∧ z (10 + j) = 0 ∧ ¬ z (16 + j) ≤ 0 ∧ s.testBit j = false then h j else z (4 + j)
def mD (a : Nat) (p z : Nat → Int32) (j : Nat) : Int32 := if a.testBit j = true ∧ z (10 + j) = 0 then p j else z (10 + j)
def mW (a s : Nat) (z : Nat → Int32) (j : Nat) : Int32 := if a.testBit j = true ∧ z (10 + j) = 0 ∧ ¬ z (16 + j) ≤ 0 ∧ s.testBit j = false then z (16 + j) - 1 else z (16 + j)
theorem t5_l (a s k : Nat) (ha : a < 64) (hs : s < 64) (hk : k ≤ 6) (p h : Nat → Int32) : ∀ (n i : Nat) (z : Nat → Int32), z 3 = nI a → i ≤ k → k - i < n → ∃ z', L_X12_tickOn_5 (nI k) p h (nI s) n z (nI i) = some (z', nI k) ∧ (∀ x, x < 4 → z' x = z x) ∧ ∀ j, j < 6 → (i ≤ j ∧ j < k → z' (4 + j) = mU a s h z j ∧ z' (10 + j) = mD a p z j ∧ z' (16 + j) = mW a s z j) ∧ (¬ (i ≤ j ∧ j < k) → z' (4 + j) = z (4 + j) ∧ z' (10 + j) = z (10 + j) ∧ z' (16 + j) = z (16 + j)) := by
  intro n
  induction n with
  | zero => intro i z hz h1 h2; omega
  | succ n ih =>
    intro i z hz h1 h2
    rw [L_X12_tickOn_5_s]
    by_cases hi : i = k
    · subst hi
      exact ⟨z, by rw [if_pos (nI_le (Nat.le_refl _) (by omega))], fun _ _ => rfl, fun j _ => ⟨fun z => by omega, fun _ => ⟨rfl, rfl, rfl⟩⟩⟩
    · rw [if_neg (nI_ge (by omega) (by omega)), cl_3, hz, bm_has a ha i (by omega), bm_has s hs i (by omega)]
      have key : ∀ z1 : Nat → Int32, (∀ x, x ≠ 4 + i → x ≠ 10 + i → x ≠ 16 + i → z1 x = z x) → (z1 (4 + i) = mU a s h z i ∧ z1 (10 + i) = mD a p z i ∧ z1 (16 + i) = mW a s z i) → ∃ z', L_X12_tickOn_5 (nI k) p h (nI s) n z1 (nI (i + 1)) = some (z', nI k) ∧ (∀ x, x < 4 → z' x = z x) ∧ ∀ j, j < 6 → (i ≤ j ∧ j < k → z' (4 + j) = mU a s h z j ∧ z' (10 + j) = mD a p z j ∧ z' (16 + j) = mW a s z j) ∧ (¬ (i ≤ j ∧ j < k) → z' (4 + j) = z (4 + j) ∧ z' (10 + j) = z (10 + j) ∧ z' (16 + j) = z (16 + j)) := by
        intro z1 e1 e2
        obtain ⟨z', q1, q0, q2⟩ := ih (i + 1) z1 (by rw [e1 3 (by omega) (by omega) (by omega), hz]) (by omega) (by omega)
        refine ⟨z', q1, fun x hx => by rw [q0 x hx, e1 x (by omega) (by omega) (by omega)], fun j hj => ⟨fun y => ?_, fun y => ?_⟩⟩
        · by_cases e : j = i
          · subst e
            obtain ⟨a1, a2, a3⟩ := (q2 j hj).2 (by omega)
            rw [a1, a2, a3]; exact e2
          · obtain ⟨a1, a2, a3⟩ := (q2 j hj).1 (by omega)
            rw [a1, a2, a3]
            unfold mU mD mW
            rw [e1 (4 + j) (by omega) (by omega) (by omega), e1 (10 + j) (by omega) (by omega) (by omega), e1 (16 + j) (by omega) (by omega) (by omega)]
            exact ⟨rfl, rfl, rfl⟩
        · obtain ⟨a1, a2, a3⟩ := (q2 j hj).2 (by omega)
          rw [a1, a2, a3]
          exact ⟨e1 _ (by omega) (by omega) (by omega), e1 _ (by omega) (by omega) (by omega), e1 _ (by omega) (by omega) (by omega)⟩
      simp only [zb1, Option.bind_some, nI_1]
      by_cases t : a.testBit i = true
      · rw [if_pos t, if_neg (by decide)]
        obtain ⟨z1, b1, b2, b3, b4, b5⟩ := jm_c i (by omega) p h z (s.testBit i)
        rw [b1]
        refine key z1 b2 ⟨?_, ?_, ?_⟩
        · rw [b3]; unfold mU
          by_cases g : z (10 + i) = 0 ∧ ¬ z (16 + i) ≤ 0 ∧ s.testBit i = false
          · rw [if_pos g, if_pos ⟨t, g⟩]
          · rw [if_neg g, if_neg (fun y => g y.2)]
        · rw [b4]; unfold mD
          by_cases g : z (10 + i) = 0
          · rw [if_pos g, if_pos ⟨t, g⟩]
          · rw [if_neg g, if_neg (fun y => g y.2)]
        · rw [b5]; unfold mW
          by_cases g : z (10 + i) = 0 ∧ ¬ z (16 + i) ≤ 0 ∧ s.testBit i = false
          · rw [if_pos g, if_pos ⟨t, g⟩]
          · rw [if_neg g, if_neg (fun y => g y.2)]
      · rw [if_neg t, if_pos rfl]
        refine key z (fun _ _ _ _ => rfl) ?_
        unfold mU mD mW
        rw [if_neg (fun z => t z.1), if_neg (fun z => t z.1), if_neg (fun z => t z.1)]
        exact ⟨rfl, rfl, rfl⟩
def tripq (a : Nat) (u : Nat → Int32) (j : Nat) : Bool := a.testBit j && decide (u j = 0)
theorem t60_l (a k : Nat) (ha : a < 64) (hk : k ≤ 6) (z u : Nat → Int32) (hz : z 3 = nI a) (hu : ∀ j, j < k → z (4 + j) = u j) : ∀ (n i : Nat), i ≤ k → k - i < n → L_X12_tickOn_60 (nI k) z n (nI (mk (tripq a u) i)) (nI i) = some (nI (mk (tripq a u) k), nI k) := by
  intro n
  induction n with
  | zero => intro i h1 h2; omega
  | succ n ih =>
    intro i h1 h2
    rw [L_X12_tickOn_60_s]
    by_cases hi : i = k
    · subst hi
      rw [if_pos (nI_le (Nat.le_refl _) (by omega))]
    · have := ih (i + 1) (by omega) (by omega)
      rw [if_neg (nI_ge (by omega) (by omega)), cl_3, hz, bm_has a ha i (by omega)]
      simp only [zb1, Option.bind_some, nI_1, n_4]
      rw [bm_or0 _ (mk_64 _ (by omega)), bm_or _ (mk_64 _ (by omega)) i (by omega)]
      by_cases t : a.testBit i = true
      · rw [if_pos t, if_neg (by decide), if_neg (nI_in (by omega) (by omega)), nI_clamp (by omega), hu i (by omega)]
        by_cases d : u i = 0
        · rw [mk_s (show tripq a u i = true by unfold tripq; rw [t, decide_eq_true d]; rfl)] at this
          rw [if_pos d]; exact this
        · rw [mk_n (show ¬ tripq a u i = true by unfold tripq; rw [t, decide_eq_false d]; decide)] at this
          rw [if_neg d]; exact this
      · rw [mk_n (show ¬ tripq a u i = true by unfold tripq; intro y; exact t (Bool.and_eq_true_iff.mp y).1)] at this
        rw [if_neg t, if_pos rfl]; exact this
theorem ou_c (j b : Nat) (hj : j < 6) (hb : b < 64) (z : Nat → Int32) (hz : z 3 = nI b) : ∃ z', F_X12_outs z (nI j) = some z' ∧ z' 3 = nI (b &&& (63 ^^^ 2 ^ j)) ∧ z' (4 + j) = 0 ∧ z' (10 + j) = 0 ∧ ∀ x, x ≠ 3 → x ≠ 4 + j → x ≠ 10 + j → z' x = z x := by
  unfold F_X12_outs
  rw [n_4, n_10, if_neg (nI_in (by omega) (by omega)), if_neg (nI_in (by omega) (by omega)), nI_clamp (by omega), nI_clamp (by omega), cl_3, hz, bm_out b hb j hj]
  refine ⟨_, rfl, ?_, ?_, ?_, fun x h1 h2 h3 => by rw [pk_un h3, pk_un h2, pk_un h1]⟩
  · rw [pk_un (by omega), pk_un (by omega), pk_us]
  · rw [pk_un (by omega), pk_us]
  · rw [pk_us]
theorem tb_pow (b : Nat) {i j : Nat} (hj : j < 6) : (b &&& (63 ^^^ 2 ^ i)).testBit j = (b.testBit j && !decide (i = j)) := by
  rw [tb_dif hj, Nat.testBit_two_pow]
theorem t125_l (c k : Nat) (hc : c < 64) (hk : k ≤ 6) : ∀ (n i b : Nat) (z : Nat → Int32), b < 64 → z 3 = nI b → i ≤ k → k - i < n → ∃ b' z', L_X12_tickOn_125 (nI k) (nI c) n z (nI i) = some (z', nI k) ∧ b' < 64 ∧ z' 3 = nI b' ∧ (∀ x, x < 3 → z' x = z x) ∧ (∀ j, j < 6 → z' (16 + j) = z (16 + j)) ∧ (∀ j, j < 6 → b'.testBit j = (b.testBit j && !(decide (i ≤ j ∧ j < k) && c.testBit j))) ∧ ∀ j, j < 6 → (i ≤ j ∧ j < k → c.testBit j = false → b.testBit j = true → z' (4 + j) = dc (z (4 + j)) ∧ z' (10 + j) = z (10 + j) - 1) ∧ (¬ (i ≤ j ∧ j < k) → z' (4 + j) = z (4 + j) ∧ z' (10 + j) = z (10 + j)) := by
  intro n
  induction n with
  | zero => intro i b z hb hz h1 h2; omega
  | succ n ih =>
    intro i b z hb hz h1 h2
    rw [L_X12_tickOn_125_s]
    by_cases hi : i = k
    · subst hi
      refine ⟨b, z, by rw [if_pos (nI_le (Nat.le_refl _) (by omega))], hb, hz, fun _ _ => rfl, fun _ _ => rfl, fun j _ => ?_, fun j _ => ⟨fun y => by omega, fun _ => ⟨rfl, rfl⟩⟩⟩
      rw [decide_eq_false (by omega)]
      simp
    · rw [if_neg (nI_ge (by omega) (by omega)), cl_3, hz, bm_has c hc i (by omega), bm_has b hb i (by omega)]
      simp only [zb1, Option.bind_some, nI_1, n_4, n_10]
      have dstep : ∀ j, j ≠ i → decide (i ≤ j ∧ j < k) = decide (i + 1 ≤ j ∧ j < k) := fun j hj => decide_eq_decide.mpr (by omega)
      by_cases t : c.testBit i = true
      · rw [if_pos t, if_neg (by decide)]
        obtain ⟨z1, e1, e2, e3, e4, e5⟩ := ou_c i b (by omega) hb z hz
        rw [e1]
        have hb1 : b &&& (63 ^^^ 2 ^ i) < 64 := Nat.lt_of_le_of_lt Nat.and_le_left hb
        obtain ⟨b', z', q1, q2, q3, q4, q5, q6, q7⟩ := ih (i + 1) _ z1 hb1 e2 (by omega) (by omega)
        refine ⟨b', z', q1, q2, q3, fun x hx => by rw [q4 x hx, e5 x (by omega) (by omega) (by omega)], fun j hj => by rw [q5 j hj, e5 _ (by omega) (by omega) (by omega)], fun j hj => ?_, fun j hj => ⟨fun y h3 h4 => ?_, fun y => ?_⟩⟩
        · rw [q6 j hj, tb_pow b hj]
          by_cases e : j = i
          · subst e
            rw [decide_eq_true (p := j ≤ j ∧ j < k) ⟨by omega, by omega⟩, t]
            simp
          · rw [dstep j e, decide_eq_false (fun y => e (Eq.symm y))]
            simp
        · have e : j ≠ i := fun y => by rw [y, t] at h3; exact absurd h3 (by decide)
          have tb : (b &&& (63 ^^^ 2 ^ i)).testBit j = true := by rw [tb_pow b hj, h4, decide_eq_false (fun y => e (Eq.symm y))]; rfl
          obtain ⟨a1, a2⟩ := (q7 j hj).1 (by omega) h3 tb
          rw [a1, a2, e5 _ (by omega) (by omega) (by omega), e5 _ (by omega) (by omega) (by omega)]
          exact ⟨rfl, rfl⟩
        · obtain ⟨a1, a2⟩ := (q7 j hj).2 (by omega)
          rw [a1, a2, e5 _ (by omega) (by omega) (by omega), e5 _ (by omega) (by omega) (by omega)]
          exact ⟨rfl, rfl⟩
      · rw [if_neg t, if_pos rfl]
        have tf : c.testBit i = false := by cases x : c.testBit i with | true => exact absurd x t | false => rfl
        have key : ∀ z1 : Nat → Int32, (∀ x, x ≠ 4 + i → x ≠ 10 + i → z1 x = z x) → (b.testBit i = true → z1 (4 + i) = dc (z (4 + i)) ∧ z1 (10 + i) = z (10 + i) - 1) → ∃ b' z', L_X12_tickOn_125 (nI k) (nI c) n z1 (nI (i + 1)) = some (z', nI k) ∧ b' < 64 ∧ z' 3 = nI b' ∧ (∀ x, x < 3 → z' x = z x) ∧ (∀ j, j < 6 → z' (16 + j) = z (16 + j)) ∧ (∀ j, j < 6 → b'.testBit j = (b.testBit j && !(decide (i ≤ j ∧ j < k) && c.testBit j))) ∧ ∀ j, j < 6 → (i ≤ j ∧ j < k → c.testBit j = false → b.testBit j = true → z' (4 + j) = dc (z (4 + j)) ∧ z' (10 + j) = z (10 + j) - 1) ∧ (¬ (i ≤ j ∧ j < k) → z' (4 + j) = z (4 + j) ∧ z' (10 + j) = z (10 + j)) := by
          intro z1 e1 e2
          obtain ⟨b', z', q1, q2, q3, q4, q5, q6, q7⟩ := ih (i + 1) b z1 hb (by rw [e1 3 (by omega) (by omega), hz]) (by omega) (by omega)
          refine ⟨b', z', q1, q2, q3, fun x hx => by rw [q4 x hx, e1 x (by omega) (by omega)], fun j hj => by rw [q5 j hj, e1 _ (by omega) (by omega)], fun j hj => ?_, fun j hj => ⟨fun y h3 h4 => ?_, fun y => ?_⟩⟩
          · rw [q6 j hj]
            by_cases e : j = i
            · subst e
              rw [tf]
              simp
            · rw [dstep j e]
          · by_cases e : j = i
            · subst e
              obtain ⟨a1, a2⟩ := (q7 j hj).2 (by omega)
              rw [a1, a2]
              exact e2 h4
            · obtain ⟨a1, a2⟩ := (q7 j hj).1 (by omega) h3 h4
              rw [a1, a2, e1 _ (by omega) (by omega), e1 _ (by omega) (by omega)]
              exact ⟨rfl, rfl⟩
          · obtain ⟨a1, a2⟩ := (q7 j hj).2 (by omega)
            rw [a1, a2, e1 _ (by omega) (by omega), e1 _ (by omega) (by omega)]
            exact ⟨rfl, rfl⟩
        by_cases u : b.testBit i = true
        · rw [if_pos u, if_neg (by decide), if_neg (nI_in (by omega) (by omega)), if_neg (nI_in (by omega) (by omega)), nI_clamp (by omega), nI_clamp (by omega), pk_un (show 4 + i ≠ 10 + i by omega)]
          by_cases v : z (4 + i) ≤ 0
          · rw [if_pos v]
            refine key _ (fun x h3 h4 => by rw [pk_un h3, pk_un h4]) (fun _ => ⟨?_, ?_⟩)
            · rw [pk_us, Int32.sub_zero]; unfold dc; rw [if_pos v]
            · rw [pk_un (by omega), pk_us]
          · rw [if_neg v]
            refine key _ (fun x h3 h4 => by rw [pk_un h3, pk_un h4]) (fun _ => ⟨?_, ?_⟩)
            · rw [pk_us]; unfold dc; rw [if_neg v]
            · rw [pk_un (by omega), pk_us]
        · rw [if_neg u, if_pos rfl]
          exact key z (fun _ _ _ => rfl) (fun y => absurd y u)
/-- who trips in the reference's tick -/
def mtrip (k a : Nat) (r : Int32) (u : Nat → Int32) : Nat := if r - 1 = 0 then mk (tripq a u) k else 0
def mround (e r : Int32) (c : Nat) : Int32 := if r - 1 = 0 then (if c = 0 then e else e + 1) else r - 1
theorem mtrip_64 {k a : Nat} (hk : k ≤ 6) {r : Int32} {u : Nat → Int32} : mtrip k a r u < 64 := by
  unfold mtrip
  split
  · exact mk_64 _ hk
  · omega
theorem tick_m (k a s : Nat) (hk : k ≤ 6) (ha : a < 2 ^ k) (hs : s < 64) (p h z : Nat → Int32) (hz : z 3 = nI a) :
    ∃ z', F_X12_tickOn (nI k) p h z (nI s) = some (nI (mtrip k a (z 2) (mU a s h z)), z') ∧ z' 0 = z 0 + 1 ∧ z' 1 = z 1 ∧ z' 2 = mround (z 1) (z 2) (mtrip k a (z 2) (mU a s h z)) ∧ z' 3 = nI (a &&& (63 ^^^ mtrip k a (z 2) (mU a s h z))) ∧ (∀ j, j < 6 → z' (16 + j) = mW a s z j) ∧ ∀ j, j < 6 → (a &&& (63 ^^^ mtrip k a (z 2) (mU a s h z))).testBit j = true → z' (4 + j) = dc (mU a s h z j) ∧ z' (10 + j) = mD a p z j - 1 := by
  have h64 := p64 ha hk
  obtain ⟨y, q1, q2, q3⟩ := t5_l a s k h64 hs hk p h 300 0 z hz (by omega) (by omega)
  have hW : ∀ j, j < 6 → y (4 + j) = mU a s h z j ∧ y (10 + j) = mD a p z j ∧ y (16 + j) = mW a s z j := by
    intro j hj
    by_cases e : j < k
    · exact (q3 j hj).1 ⟨by omega, e⟩
    · obtain ⟨a1, a2, a3⟩ := (q3 j hj).2 (by omega)
      have nt : ¬ a.testBit j = true := fun z => e (tb_lt ha z)
      unfold mU mD mW
      rw [if_neg (fun z => nt z.1), if_neg (fun z => nt z.1), if_neg (fun z => nt z.1)]
      exact ⟨a1, a2, a3⟩
  have fin : ∀ (c : Nat) (x : Nat → Int32), c < 64 → (∀ j, c.testBit j = true → j < k) → (∀ j, j ≠ 2 → x j = y j) → ∃ z', L_X12_tickOn_125 (nI k) (nI c) 300 x 0 = some (z', nI k) ∧ z' 0 = z 0 ∧ z' 1 = z 1 ∧ z' 2 = x 2 ∧ z' 3 = nI (a &&& (63 ^^^ c)) ∧ (∀ j, j < 6 → z' (16 + j) = mW a s z j) ∧ ∀ j, j < 6 → (a &&& (63 ^^^ c)).testBit j = true → z' (4 + j) = dc (mU a s h z j) ∧ z' (10 + j) = mD a p z j - 1 := by
    intro c x hc hck hx
    obtain ⟨b', z', r1, r2, r3, r4, r5, r6, r7⟩ := t125_l c k hc hk 300 0 a x h64 (by rw [hx 3 (by omega), q2 3 (by omega), hz]) (by omega) (by omega)
    have eb : b' = a &&& (63 ^^^ c) := by
      apply mx_ext r2 (Nat.lt_of_le_of_lt Nat.and_le_left h64)
      intro j hj
      rw [r6 j hj, tb_dif hj]
      cases t : c.testBit j with
      | true => rw [decide_eq_true ⟨Nat.zero_le _, hck j t⟩]; rfl
      | false => simp
    refine ⟨z', r1, ?_, ?_, r4 2 (by omega), by rw [r3, eb], fun j hj => ?_, fun j hj t => ?_⟩
    · rw [r4 0 (by omega), hx 0 (by omega), q2 0 (by omega)]
    · rw [r4 1 (by omega), hx 1 (by omega), q2 1 (by omega)]
    · rw [r5 j hj, hx _ (by omega), (hW j hj).2.2]
    · rw [tb_dif hj] at t
      obtain ⟨t1, t2⟩ := Bool.and_eq_true_iff.mp t
      obtain ⟨a1, a2⟩ := (r7 j hj).1 ⟨Nat.zero_le _, tb_lt ha t1⟩ (by cases x : c.testBit j with | true => rw [x] at t2; exact absurd t2 (by decide) | false => rfl) t1
      rw [a1, a2, hx _ (by omega), hx _ (by omega), (hW j hj).1, (hW j hj).2.1]
      exact ⟨rfl, rfl⟩
  unfold F_X12_tickOn
  rw [show L_X12_tickOn_5 (nI k) p h (nI s) 300 z 0 = some (y, nI k) from q1]
  simp only [zb2, Option.bind_some, cl_0, cl_1, cl_2, pk_us]
  rw [pk_un (show (1 : Nat) ≠ 2 by decide), q2 1 (by omega), q2 2 (by omega), Int32.add_zero]
  unfold mtrip mround
  by_cases c : z 2 - 1 = 0
  · rw [if_pos c, if_pos c]
    rw [show L_X12_tickOn_60 (nI k) (upd y 2 (z 2 - 1)) 300 0 0 = some (nI (mk (tripq a (mU a s h z)) k), nI k) from t60_l a k h64 hk _ (mU a s h z) (by rw [pk_un (by decide), q2 3 (by omega), hz]) (fun j hj => by rw [pk_un (by omega), (hW j (by omega)).1]) 300 0 (by omega) (by omega)]
    simp only [Option.bind_some]
    have hck : ∀ j, (mk (tripq a (mU a s h z)) k).testBit j = true → j < k := fun j => tb_lt (mk_lt _ k)
    by_cases d : mk (tripq a (mU a s h z)) k = 0
    · rw [if_pos ((mz (mk_64 _ hk)).2 d)]
      obtain ⟨z', g1, g2, g3, g4, g5, g6, g7⟩ := fin _ (upd (upd y 2 (z 2 - 1)) 2 (z 1)) (mk_64 (tripq a (mU a s h z)) hk) hck (fun j hj => by rw [pk_un hj, pk_un hj])
      rw [g1]
      refine ⟨upd z' 0 (z' 0 + 1), rfl, ?_, ?_, ?_, ?_, fun j hj => ?_, fun j hj t => ?_⟩
      · rw [pk_us, g2]
      · rw [pk_un (by decide), g3]
      · rw [pk_un (by decide), g4, pk_us, if_pos c, if_pos d]
      · rw [pk_un (by decide), g5]
      · rw [pk_un (by omega), g6 j hj]
      · rw [pk_un (by omega), pk_un (by omega)]; exact g7 j hj t
    · rw [if_neg (fun w => d ((mz (mk_64 _ hk)).1 w))]
      obtain ⟨z', g1, g2, g3, g4, g5, g6, g7⟩ := fin _ (upd (upd y 2 (z 2 - 1)) 2 (z 1 + 1)) (mk_64 (tripq a (mU a s h z)) hk) hck (fun j hj => by rw [pk_un hj, pk_un hj])
      rw [g1]
      refine ⟨upd z' 0 (z' 0 + 1), rfl, ?_, ?_, ?_, ?_, fun j hj => ?_, fun j hj t => ?_⟩
      · rw [pk_us, g2]
      · rw [pk_un (by decide), g3]
      · rw [pk_un (by decide), g4, pk_us, if_pos c, if_neg d]
      · rw [pk_un (by decide), g5]
      · rw [pk_un (by omega), g6 j hj]
      · rw [pk_un (by omega), pk_un (by omega)]; exact g7 j hj t
  · rw [if_neg c, if_neg c]
    obtain ⟨z', g1, g2, g3, g4, g5, g6, g7⟩ := fin 0 (upd y 2 (z 2 - 1)) (by decide) (fun j t => by rw [Nat.zero_testBit] at t; exact absurd t (by decide)) (fun j hj => pk_un hj)
    rw [show L_X12_tickOn_125 (nI k) 0 300 (upd y 2 (z 2 - 1)) 0 = some (z', nI k) from g1]
    refine ⟨upd z' 0 (z' 0 + 1), rfl, ?_, ?_, ?_, ?_, fun j hj => ?_, fun j hj t => ?_⟩
    · rw [pk_us, g2]
    · rw [pk_un (by decide), g3]
    · rw [pk_un (by decide), g4, pk_us, if_neg c]
    · rw [pk_un (by decide), g5]
    · rw [pk_un (by omega), g6 j hj]
    · rw [pk_un (by omega), pk_un (by omega)]; exact g7 j hj t
