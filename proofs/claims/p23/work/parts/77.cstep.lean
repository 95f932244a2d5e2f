/-! the class's tick, cell by cell -/
def jU (a : Nat) (h up due w : Nat → Int32) (j : Nat) : Int32 := if a.testBit j = true ∧ ¬ 0 < due j ∧ ¬ w j ≤ 0 then h j else up j
def jD (a : Nat) (p due : Nat → Int32) (j : Nat) : Int32 := if a.testBit j = true ∧ ¬ 0 < due j then p j else due j
def jW (a : Nat) (due w : Nat → Int32) (j : Nat) : Int32 := if a.testBit j = true ∧ ¬ 0 < due j ∧ ¬ w j ≤ 0 then w j - 1 else w j
theorem ja_l (a k : Nat) (ha : a < 64) (hk : k ≤ 6) (p h : Nat → Int32) : ∀ (n i : Nat) (up due w : Nat → Int32), i ≤ k → k - i < n → ∃ up' due' w', L_X8_jumpAll_2 (nI a) (nI k) p h n up due w (nI i) = some (up', due', w', nI k) ∧ ∀ j, (i ≤ j ∧ j < k → up' j = jU a h up due w j ∧ due' j = jD a p due j ∧ w' j = jW a due w j) ∧ (¬ (i ≤ j ∧ j < k) → up' j = up j ∧ due' j = due j ∧ w' j = w j) := by
  intro n
  induction n with
  | zero => intro i up due w h1 h2; omega
  | succ n ih =>
    intro i up due w h1 h2
    rw [L_X8_jumpAll_2_s]
    by_cases hi : i = k
    · subst hi
      exact ⟨up, due, w, by rw [if_pos (nI_le (Nat.le_refl _) (by omega))], fun j => ⟨fun z => by omega, fun _ => ⟨rfl, rfl, rfl⟩⟩⟩
    · rw [if_neg (nI_ge (by omega) (by omega)), bm_holds a ha i (by omega)]
      have key : ∀ up1 due1 w1 : Nat → Int32, (∀ j, j ≠ i → up1 j = up j ∧ due1 j = due j ∧ w1 j = w j) → (up1 i = jU a h up due w i ∧ due1 i = jD a p due i ∧ w1 i = jW a due w i) → ∃ up' due' w', L_X8_jumpAll_2 (nI a) (nI k) p h n up1 due1 w1 (nI (i + 1)) = some (up', due', w', nI k) ∧ ∀ j, (i ≤ j ∧ j < k → up' j = jU a h up due w j ∧ due' j = jD a p due j ∧ w' j = jW a due w j) ∧ (¬ (i ≤ j ∧ j < k) → up' j = up j ∧ due' j = due j ∧ w' j = w j) := by
        intro up1 due1 w1 e1 e2
        obtain ⟨up', due', w', q1, q2⟩ := ih (i + 1) up1 due1 w1 (by omega) (by omega)
        refine ⟨up', due', w', q1, fun j => ⟨fun z => ?_, fun z => ?_⟩⟩
        · by_cases e : j = i
          · subst e
            obtain ⟨a1, a2, a3⟩ := (q2 j).2 (by omega)
            rw [a1, a2, a3]; exact e2
          · obtain ⟨a1, a2, a3⟩ := (q2 j).1 (by omega)
            obtain ⟨b1, b2, b3⟩ := e1 j e
            rw [a1, a2, a3]
            unfold jU jD jW
            rw [b1, b2, b3]
            exact ⟨rfl, rfl, rfl⟩
        · obtain ⟨a1, a2, a3⟩ := (q2 j).2 (by omega)
          obtain ⟨b1, b2, b3⟩ := e1 j (by omega)
          rw [a1, a2, a3]; exact ⟨b1, b2, b3⟩
      simp only [zb1, Option.bind_some, nI_1]
      by_cases t : a.testBit i = true
      · rw [if_pos t, if_neg (by decide), if_neg (nI_in (by omega) (by omega)), nI_clamp (by omega)]
        by_cases d : 0 < due i
        · rw [if_pos d]
          refine key _ _ _ (fun j _ => ⟨rfl, rfl, rfl⟩) ?_
          unfold jU jD jW
          rw [if_neg (fun z => z.2.1 d), if_neg (fun z => z.2 d), if_neg (fun z => z.2.1 d)]
          exact ⟨rfl, rfl, rfl⟩
        · rw [if_neg d]
          by_cases v : w i ≤ 0
          · rw [if_pos v]
            refine key _ _ _ (fun j hj => ⟨rfl, pk_un hj, rfl⟩) ?_
            unfold jU jD jW
            rw [if_neg (fun z => z.2.2 v), if_pos ⟨t, d⟩, if_neg (fun z => z.2.2 v), pk_us]
            exact ⟨rfl, rfl, rfl⟩
          · rw [if_neg v]
            refine key _ _ _ (fun j hj => ⟨pk_un hj, pk_un hj, pk_un hj⟩) ?_
            unfold jU jD jW
            rw [if_pos ⟨t, d, v⟩, if_pos ⟨t, d⟩, if_pos ⟨t, d, v⟩, pk_us, pk_us, pk_us]
            exact ⟨rfl, rfl, rfl⟩
      · rw [if_neg t, if_pos rfl]
        refine key _ _ _ (fun j _ => ⟨rfl, rfl, rfl⟩) ?_
        unfold jU jD jW
        rw [if_neg (fun z => t z.1), if_neg (fun z => t z.1), if_neg (fun z => t z.1)]
        exact ⟨rfl, rfl, rfl⟩
theorem ja_c (a k : Nat) (hk : k ≤ 6) (ha : a < 2 ^ k) (p h up due w : Nat → Int32) : ∃ up' due' w', F_X8_jumpAll (nI a) up due w (nI k) p h = some (up', due', w') ∧ ∀ j, up' j = jU a h up due w j ∧ due' j = jD a p due j ∧ w' j = jW a due w j := by
  obtain ⟨up', due', w', q1, q2⟩ := ja_l a k (p64 ha hk) hk p h 300 0 up due w (by omega) (by omega)
  refine ⟨up', due', w', ?_, fun j => ?_⟩
  · unfold F_X8_jumpAll
    rw [show L_X8_jumpAll_2 (nI a) (nI k) p h 300 up due w 0 = some (up', due', w', nI k) from q1]
    rfl
  · by_cases hj : j < k
    · exact (q2 j).1 ⟨by omega, hj⟩
    · obtain ⟨a1, a2, a3⟩ := (q2 j).2 (by omega)
      have nt : ¬ a.testBit j = true := fun z => hj (tb_lt ha z)
      unfold jU jD jW
      rw [if_neg (fun z => nt z.1), if_neg (fun z => nt z.1), if_neg (fun z => nt z.1)]
      exact ⟨a1, a2, a3⟩
def dc (x : Int32) : Int32 := if x ≤ 0 then x else x - 1
theorem pa_l : ∀ (n i : Nat) (up due : Nat → Int32), i ≤ 6 → 6 - i < n → ∃ up' due', L_X8_pass_12 n up due (nI i) = some (up', due', nI 6) ∧ ∀ j, (i ≤ j ∧ j < 6 → up' j = dc (up j) ∧ due' j = dc (due j)) ∧ (¬ (i ≤ j ∧ j < 6) → up' j = up j ∧ due' j = due j) := by
  intro n
  induction n with
  | zero => intro i up due h1 h2; omega
  | succ n ih =>
    intro i up due h1 h2
    rw [L_X8_pass_12_s]
    by_cases hi : i = 6
    · subst hi
      exact ⟨up, due, by rw [if_pos (by decide)], fun j => ⟨fun z => by omega, fun _ => ⟨rfl, rfl⟩⟩⟩
    · have key : ∀ up1 due1 : Nat → Int32, (∀ j, j ≠ i → up1 j = up j ∧ due1 j = due j) → (up1 i = dc (up i) ∧ due1 i = dc (due i)) → ∃ up' due', L_X8_pass_12 n up1 due1 (nI (i + 1)) = some (up', due', nI 6) ∧ ∀ j, (i ≤ j ∧ j < 6 → up' j = dc (up j) ∧ due' j = dc (due j)) ∧ (¬ (i ≤ j ∧ j < 6) → up' j = up j ∧ due' j = due j) := by
        intro up1 due1 e1 e2
        obtain ⟨up', due', q1, q2⟩ := ih (i + 1) up1 due1 (by omega) (by omega)
        refine ⟨up', due', q1, fun j => ⟨fun z => ?_, fun z => ?_⟩⟩
        · by_cases e : j = i
          · subst e
            obtain ⟨a1, a2⟩ := (q2 j).2 (by omega)
            rw [a1, a2]; exact e2
          · obtain ⟨a1, a2⟩ := (q2 j).1 (by omega)
            obtain ⟨b1, b2⟩ := e1 j e
            rw [a1, a2, b1, b2]
            exact ⟨rfl, rfl⟩
        · obtain ⟨a1, a2⟩ := (q2 j).2 (by omega)
          obtain ⟨b1, b2⟩ := e1 j (by omega)
          rw [a1, a2]; exact ⟨b1, b2⟩
      rw [if_neg (zle6 (by omega)), if_neg (nI_in (by omega) (by omega)), nI_1, nI_clamp (by omega)]
      by_cases u : up i ≤ 0
      · rw [if_pos u]
        by_cases d : due i ≤ 0
        · rw [if_pos d]
          refine key _ _ (fun j _ => ⟨rfl, rfl⟩) ?_
          unfold dc
          rw [if_pos u, if_pos d]
          exact ⟨rfl, rfl⟩
        · rw [if_neg d]
          refine key _ _ (fun j hj => ⟨rfl, pk_un hj⟩) ?_
          unfold dc
          rw [if_pos u, if_neg d, pk_us]
          exact ⟨rfl, rfl⟩
      · rw [if_neg u]
        by_cases d : due i ≤ 0
        · rw [if_pos d]
          refine key _ _ (fun j hj => ⟨pk_un hj, rfl⟩) ?_
          unfold dc
          rw [if_neg u, if_pos d, pk_us]
          exact ⟨rfl, rfl⟩
        · rw [if_neg d]
          refine key _ _ (fun j hj => ⟨pk_un hj, pk_un hj⟩) ?_
          unfold dc
          rw [if_neg u, if_neg d, pk_us, pk_us]
          exact ⟨rfl, rfl⟩
theorem pa_c (t : Int32) (up due : Nat → Int32) : ∃ up' due', F_X8_pass t up due = some (t + 1, up', due') ∧ ∀ j, j < 6 → up' j = dc (up j) ∧ due' j = dc (due j) := by
  obtain ⟨up', due', q1, q2⟩ := pa_l 300 0 up due (by omega) (by omega)
  refine ⟨up', due', ?_, fun j hj => (q2 j).1 ⟨by omega, hj⟩⟩
  unfold F_X8_pass
  rw [show L_X8_pass_12 300 up due 0 = some (up', due', nI 6) from q1]
  rfl
def airq (up : Nat → Int32) (j : Nat) : Bool := decide (¬ up j ≤ 0)
theorem ai_l (up : Nat → Int32) : ∀ (n i : Nat), i ≤ 6 → 6 - i < n → L_X8_airborne_4 up n (nI (mk (airq up) i)) (nI i) = some (nI (mk (airq up) 6), nI 6) := by
  intro n
  induction n with
  | zero => intro i h1 h2; omega
  | succ n ih =>
    intro i h1 h2
    rw [L_X8_airborne_4_s]
    by_cases hi : i = 6
    · subst hi
      rw [if_pos (by decide)]
    · rw [if_neg (zle6 (by omega)), if_neg (nI_in (by omega) (by omega)), nI_1, nI_clamp (by omega)]
      have := ih (i + 1) (by omega) (by omega)
      by_cases u : up i ≤ 0
      · rw [if_pos u]
        rw [mk_n (show ¬ airq up i = true from fun z => of_decide_eq_true z u)] at this
        exact this
      · rw [if_neg u, bm_or _ (mk_64 _ (by omega)) i (by omega)]
        rw [mk_s (show airq up i = true from decide_eq_true u)] at this
        exact this
theorem ai_c (up : Nat → Int32) : F_X8_airborne up = some (nI (mk (airq up) 6)) := by
  unfold F_X8_airborne
  rw [show L_X8_airborne_4 up 300 0 0 = some (nI (mk (airq up) 6), nI 6) from ai_l up 300 0 (by omega) (by omega)]
  rfl
/-- who trips in the class's tick -/
def ctrip (a : Nat) (r : Int32) (u : Nat → Int32) : Nat := if 0 < r - 1 then 0 else a &&& (63 ^^^ mk (airq u) 6)
def nround (e r : Int32) (c : Nat) : Int32 := if 0 < r - 1 then r - 1 else if c = 0 then e else e + 1
theorem ctrip_64 {a : Nat} (ha : a < 64) {r : Int32} {u : Nat → Int32} : ctrip a r u < 64 := by
  unfold ctrip
  split
  · omega
  · exact Nat.lt_of_le_of_lt Nat.and_le_left ha
theorem step_c (k a : Nat) (hk : k ≤ 6) (ha : a < 2 ^ k) (t e r : Int32) (up due w p h : Nat → Int32) :
    ∃ up' due' w', F_X8_step t e r (nI a) up due w (nI k) p h = some (nI (ctrip a r (jU a h up due w)), t + 1, nround e r (ctrip a r (jU a h up due w)), nI (a &&& (63 ^^^ ctrip a r (jU a h up due w))), up', due', w') ∧ (∀ j, j < 6 → up' j = dc (jU a h up due w j) ∧ due' j = dc (jD a p due j)) ∧ ∀ j, w' j = jW a due w j := by
  have h64 := p64 ha hk
  obtain ⟨u1, d1, w1, q1, q2⟩ := ja_c a k hk ha p h up due w
  have eu : u1 = jU a h up due w := funext (fun j => (q2 j).1)
  have ed : d1 = jD a p due := funext (fun j => (q2 j).2.1)
  subst eu ed
  obtain ⟨u2, d2, p1, p2⟩ := pa_c t (jU a h up due w) (jD a p due)
  refine ⟨u2, d2, w1, ?_, p2, fun j => (q2 j).2.2⟩
  unfold F_X8_step ctrip nround
  rw [q1]
  by_cases c : 0 < r - 1
  · simp only [zb3, Option.bind_some, if_pos c, p1]
    rw [dif_0 h64]
    rfl
  · have hc := ctrip_64 h64 (r := r) (u := jU a h up due w)
    unfold ctrip at hc
    rw [if_neg c] at hc
    simp only [zb3, zb1, Option.bind_some, if_neg c, p1, ai_c, bm_dif a h64 _ (mk_64 _ (Nat.le_refl 6)), bm_dif a h64 _ hc]
    by_cases z : a &&& (63 ^^^ mk (airq (jU a h up due w)) 6) = 0
    · rw [if_pos ((mz hc).2 z), if_pos z]
    · rw [if_neg (fun y => z ((mz hc).1 y)), if_neg z]
