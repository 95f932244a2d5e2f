/-! playing on, both sides -/
theorem bringL (fn tn : Nat) (hfn : fn < 2 ^ 30) (htn : tn < 2 ^ 30) (f : Nat → Int32) (a b m : Nat) (ha : a + m ≤ fn) (hb : b + m ≤ tn) : ∀ (n k : Nat) (t : Nat → Int32), k ≤ m → m - k < n → ∃ t', L_X12_bring_3 fn f tn (nI a) (nI b) (nI m) n t (nI k) = some (t', nI m) ∧ (∀ j, k ≤ j → j < m → t' (b + j) = f (a + j)) ∧ ∀ j, (j < b + k ∨ b + m ≤ j) → t' j = t j := by
  intro n
  induction n with
  | zero => intro k t h1 h2; omega
  | succ n ih =>
    intro k t h1 h2
    rw [L_X12_bring_3_s]
    by_cases hk : k = m
    · subst hk
      exact ⟨t, by rw [if_pos (nI_le (Nat.le_refl _) (by omega))], fun j h1 h2 => by omega, fun j _ => rfl⟩
    · rw [if_neg (nI_ge (by omega) (by omega)), nI_add, nI_add, if_neg (nI_in (by omega) (by omega)), if_neg (nI_in (by omega) (by omega)), nI_1, nI_clamp (by omega), nI_clamp (by omega)]
      obtain ⟨t', e1, e2, e3⟩ := ih (k + 1) (upd t (b + k) (f (a + k))) (by omega) (by omega)
      refine ⟨t', e1, fun j h3 h4 => ?_, fun j hj => ?_⟩
      · by_cases hjk : j = k
        · subst hjk
          rw [e3 (b + j) (Or.inl (by omega)), pk_us]
        · exact e2 j (by omega) h4
      · rw [e3 j (by omega), pk_un (by omega)]
theorem bring0 (fn tn : Nat) (hfn : fn < 2 ^ 30) (htn : tn < 2 ^ 30) (f t : Nat → Int32) (a b m : Nat) (ha : a + m ≤ fn) (hb : b + m ≤ tn) (hm : m < 300) : ∃ t', F_X12_bring fn f tn t (nI a) (nI b) (nI m) = some t' ∧ (∀ j, j < m → t' (b + j) = f (a + j)) ∧ ∀ j, (j < b ∨ b + m ≤ j) → t' j = t j := by
  obtain ⟨t', e1, e2, e3⟩ := bringL fn tn hfn htn f a b m ha hb 300 0 t (by omega) (by omega)
  refine ⟨t', ?_, fun j hj => e2 j (by omega) hj, fun j hj => e3 j (by omega)⟩
  unfold F_X12_bring
  rw [show L_X12_bring_3 fn f tn (nI a) (nI b) (nI m) 300 t 0 = some (t', nI m) from e1]
  rfl
theorem asit (st now : Nat → Int32) : ∃ now', F_X12_asItIs st now = some now' ∧ ∀ j, j < 22 → now' j = st j := by
  obtain ⟨t', e1, e2, e3⟩ := bring0 22 22 (by omega) (by omega) st now 0 0 22 (by omega) (by omega) (by omega)
  refine ⟨t', ?_, fun j hj => by have := e2 j hj; simpa using this⟩
  unfold F_X12_asItIs
  rw [show F_X12_bring 22 st 22 now 0 0 22 = some t' from e1]
  rfl
theorem SR_cp {k a : Nat} {t e r : Int32} {up due w z up' due' w' z' : Nat → Int32} (hk : k ≤ 6) (hS : SR k a t e r up due w z) (h1 : ∀ j, j < 6 → up' j = up j ∧ due' j = due j ∧ w' j = w j) (h2 : ∀ j, j < 22 → z' j = z j) : SR k a t e r up' due' w' z' := by
  obtain ⟨s1, s2, s3, s4, s5, s6, s7, s8, s9⟩ := hS
  refine ⟨s1, by rw [h2 3 (by omega), s2], by rw [h2 0 (by omega), s3], by rw [h2 1 (by omega), s4], by rw [h2 2 (by omega), s5], s6, s7, fun j hj => ?_, fun j hj tb => ?_⟩
  · rw [(h1 j (by omega)).2.2, h2 _ (by omega), s8 j hj]
  · rw [(h1 j hj).1, (h1 j hj).2.1, h2 _ (by omega), h2 _ (by omega)]
    exact s9 j hj tb
theorem cpy6 {o s : Nat → Int32} {j : Nat} (hj : j < 6) : va_cpy o s (0 : Int32).toNatClampNeg (0 : Int32).toNatClampNeg (6 : Int32).toNatClampNeg j = o j := by
  show va_cpy o s 0 0 6 j = o j
  rw [pk_cpy_in (by omega) (by omega)]
  congr 1
  omega
theorem bec (t e r i : Int32) (up due w up0 due0 w0 : Nat → Int32) : ∃ up' due' w', F_X8_become up0 due0 w0 t e r i up due w = some (t, e, r, i, up', due', w') ∧ ∀ j, j < 6 → up' j = up j ∧ due' j = due j ∧ w' j = w j := ⟨_, _, _, rfl, fun j hj => ⟨cpy6 hj, cpy6 hj, cpy6 hj⟩⟩
section PLAY
variable {k : Nat} {p h p' h' : Nat → Int32}
theorem po_l (hk : k ≤ 6) (hC : CR k p h p' h') (m : Nat) (hm : m < 2 ^ 31) (e : Int32) : ∀ (n i a : Nat) (t r : Int32) (up due w z : Nat → Int32), SR k a t e r up due w z → i ≤ m → m - i < n → ∃ b t' r' up' due' w' z', L_X11_playOn_2 e (nI k) p h (nI m) n t r (nI a) up due w (nI i) = some (t', r', nI b, up', due', w', nI m) ∧ L_X12_goesOn_2 (nI k) p' h' (nI m) n z (nI i) = some (z', nI m) ∧ SR k b t' e r' up' due' w' z' := by
  intro n
  induction n with
  | zero => intro i a t r up due w z hS h1 h2; omega
  | succ n ih =>
    intro i a t r up due w z hS h1 h2
    rw [L_X11_playOn_2_s, L_X12_goesOn_2_s]
    by_cases hi : i = m
    · subst hi
      rw [if_pos (nI_le (Nat.le_refl _) hm), if_pos (nI_le (Nat.le_refl _) hm)]
      exact ⟨a, t, r, up, due, w, z, rfl, rfl, hS⟩
    · rw [if_neg (nI_ge (by omega) hm), if_neg (nI_ge (by omega) hm)]
      obtain ⟨c, r', up', due', w', z', q1, q2, q3, q4, q5⟩ := tick_sim hk hC hS
      rw [q3, q4, nI_1]
      exact ih (i + 1) _ _ _ _ _ _ _ q5 (by omega) (by omega)
theorem po_s (hk : k ≤ 6) (hC : CR k p h p' h') {m : Nat} (hm : m ≤ 120) {a : Nat} {t e r : Int32} {up due w z : Nat → Int32} (hS : SR k a t e r up due w z) : ∃ b t' r' up' due' w' z', F_X11_playOn t e r (nI a) up due w (nI k) p h (nI m) = some (t', r', nI b, up', due', w') ∧ F_X12_goesOn (nI k) p' h' z (nI m) = some z' ∧ SR k b t' e r' up' due' w' z' := by
  obtain ⟨b, t', r', up', due', w', z', q1, q2, q3⟩ := po_l hk hC m (by omega) e 300 0 a t r up due w z hS (by omega) (by omega)
  refine ⟨b, t', r', up', due', w', z', ?_, ?_, q3⟩
  · unfold F_X11_playOn
    rw [show L_X11_playOn_2 e (nI k) p h (nI m) 300 t r (nI a) up due w 0 = some (t', r', nI b, up', due', w', nI m) from q1]
    rfl
  · unfold F_X12_goesOn
    rw [show L_X12_goesOn_2 (nI k) p' h' (nI m) 300 z 0 = some (z', nI m) from q2]
    rfl
theorem n120 {i : Nat} (h : i ≤ 120) : ¬ (120 : Int32) < nI i := nI_nlt (a := 120) h (by omega)
theorem n121 : (120 : Int32) < nI 121 := by decide
theorem to_l (hk : k ≤ 6) (hC : CR k p h p' h') (j : Nat) (hj : j < 6) (e : Int32) : ∀ (n i a : Nat) (t r : Int32) (up due w z : Nat → Int32), SR k a t e r up due w z → 1 ≤ i → i ≤ 121 → 121 - i < n → (∃ v o o', L_X11_playTillOut_2 e (nI k) p h (nI j) n t r (nI a) up due w (nI i) = some (.inr (nI v, o)) ∧ L_X12_tripOf_2 (nI k) p' h' (nI j) n z (nI i) = some (.inr (nI v, o')) ∧ 1 ≤ v ∧ v ≤ 120) ∨ ∃ t' r' i' up' due' w' x z' x', L_X11_playTillOut_2 e (nI k) p h (nI j) n t r (nI a) up due w (nI i) = some (.inl (t', r', i', up', due', w', x)) ∧ L_X12_tripOf_2 (nI k) p' h' (nI j) n z (nI i) = some (.inl (z', x')) := by
  intro n
  induction n with
  | zero => intro i a t r up due w z hS h0 h1 h2; omega
  | succ n ih =>
    intro i a t r up due w z hS h0 h1 h2
    rw [L_X11_playTillOut_2_s, L_X12_tripOf_2_s]
    by_cases hi : i = 121
    · subst hi
      rw [if_pos n121, if_pos n121]
      exact Or.inr ⟨t, r, nI a, up, due, w, _, z, _, rfl, rfl⟩
    · rw [if_neg (n120 (by omega)), if_neg (n120 (by omega))]
      obtain ⟨c, r', up', due', w', z', q1, q2, q3, q4, q5⟩ := tick_sim hk hC hS
      have hb : a &&& (63 ^^^ c) < 64 := p64 q5.1 hk
      rw [q3, q4]
      simp only [zb7, zb2, Option.bind_some, zb1, cl_3, q5.2.1, bm_has _ hb j hj, bm_holds _ hb j hj, nI_1]
      by_cases tb : (a &&& (63 ^^^ c)).testBit j = true
      · rw [if_pos tb, if_neg (by decide), if_neg (by decide)]
        exact ih (i + 1) _ _ _ _ _ _ _ q5 (by omega) (by omega) (by omega)
      · rw [if_neg tb, if_pos rfl, if_pos rfl]
        exact Or.inl ⟨i, _, _, rfl, rfl, h0, by omega⟩
theorem to_s (hk : k ≤ 6) (hC : CR k p h p' h') {j : Nat} (hj : j < 6) {a : Nat} {t e r : Int32} {up due w z : Nat → Int32} (hS : SR k a t e r up due w z) : ∃ v t' r' i' up' due' w' z', F_X11_playTillOut t e r (nI a) up due w (nI k) p h (nI j) = some (v, t', r', i', up', due', w') ∧ F_X12_tripOf (nI k) p' h' z (nI j) = some (v, z') ∧ (v = -9 ∨ ∃ u, 1 ≤ u ∧ u ≤ 120 ∧ v = nI u) := by
  rcases to_l hk hC j hj e 300 1 a t r up due w z hS (by omega) (by omega) (by omega) with ⟨v, ⟨o1, o2, o3, o4, o5, o6⟩, o', q1, q2, q3⟩ | ⟨t', r', i', up', due', w', x, z', x', q1, q2⟩
  · refine ⟨nI v, o1, o2, o3, o4, o5, o6, o', ?_, ?_, Or.inr ⟨v, q3.1, q3.2, rfl⟩⟩
    · unfold F_X11_playTillOut
      rw [show L_X11_playTillOut_2 e (nI k) p h (nI j) 300 t r (nI a) up due w 1 = _ from q1]
      rfl
    · unfold F_X12_tripOf
      rw [show L_X12_tripOf_2 (nI k) p' h' (nI j) 300 z 1 = _ from q2]
      rfl
  · refine ⟨-9, t', r', i', up', due', w', z', ?_, ?_, Or.inl rfl⟩
    · unfold F_X11_playTillOut
      rw [show L_X11_playTillOut_2 e (nI k) p h (nI j) 300 t r (nI a) up due w 1 = _ from q1]
      rfl
    · unfold F_X12_tripOf
      rw [show L_X12_tripOf_2 (nI k) p' h' (nI j) 300 z 1 = _ from q2]
      rfl
theorem tf_l (hk : k ≤ 6) (hC : CR k p h p' h') (e q : Int32) (a : Nat) : ∀ (n i : Nat) (t r : Int32) (up due w z : Nat → Int32), SR k a t e r up due w z → 1 ≤ i → i ≤ 121 → 121 - i < n → (∃ v c t' r' up' due' w' z', L_X11_playTillFirst_13 e (nI k) p h n t r (nI a) up due w (nI i) = some (.inr (nI v, t', e, r', nI (a &&& (63 ^^^ c)), up', due', w')) ∧ L_X12_firstOf_6 (nI k) p' h' q n z (nI i) = some (.inr (if q = 4 then nI v else nI c, z')) ∧ c < 64 ∧ ∀ j, j < 6 → c.testBit j = true → a.testBit j = true) ∨ ∃ t' r' up' due' w' x z' x', L_X11_playTillFirst_13 e (nI k) p h n t r (nI a) up due w (nI i) = some (.inl (t', r', nI a, up', due', w', x)) ∧ L_X12_firstOf_6 (nI k) p' h' q n z (nI i) = some (.inl (z', x')) := by
  intro n
  induction n with
  | zero => intro i t r up due w z hS h0 h1 h2; omega
  | succ n ih =>
    intro i t r up due w z hS h0 h1 h2
    rw [L_X11_playTillFirst_13_s, L_X12_firstOf_6_s]
    by_cases hi : i = 121
    · subst hi
      rw [if_pos n121, if_pos n121]
      exact Or.inr ⟨t, r, up, due, w, _, z, _, rfl, rfl⟩
    · rw [if_neg (n120 (by omega)), if_neg (n120 (by omega))]
      obtain ⟨c, r', up', due', w', z', q1, q2, q3, q4, q5⟩ := tick_sim hk hC hS
      rw [q3, q4]
      simp only [zb7, zb2, Option.bind_some, nI_1]
      by_cases c0 : c = 0
      · subst c0
        rw [dif_0 (p64 hS.1 hk)] at q5 ⊢
        rw [if_pos nI_0, if_pos nI_0]
        exact ih (i + 1) _ _ _ _ _ _ q5 (by omega) (by omega) (by omega)
      · rw [if_neg (fun y => c0 ((mz q1).1 y)), if_neg (fun y => c0 ((mz q1).1 y))]
        refine Or.inl ⟨i, c, _, _, _, _, _, z', rfl, ?_, q1, q2⟩
        by_cases q4 : q = 4
        · rw [if_pos q4, if_pos q4]
        · rw [if_neg q4, if_neg q4]
theorem dd {a c : Nat} (ha : a < 64) (hc : c < 64) (h : ∀ j, j < 6 → c.testBit j = true → a.testBit j = true) : a &&& (63 ^^^ (a &&& (63 ^^^ c))) = c := by
  apply mx_ext (Nat.lt_of_le_of_lt Nat.and_le_left ha) hc
  intro j hj
  rw [tb_dif hj, tb_dif hj]
  cases x : c.testBit j with
  | false => cases a.testBit j <;> rfl
  | true => rw [h j hj x]; rfl
theorem d0 {a : Nat} (ha : a < 64) : a &&& (63 ^^^ a) = 0 := by
  apply mx_ext (Nat.lt_of_le_of_lt Nat.and_le_left ha) (by decide)
  intro j hj
  rw [tb_dif hj, Nat.zero_testBit]
  cases a.testBit j <;> rfl
/-- how many ticks till the first trip, and who then -/
theorem tf_s (hk : k ≤ 6) (hC : CR k p h p' h') {a : Nat} {t e r : Int32} {up due w z : Nat → Int32} (hS : SR k a t e r up due w z) (up0 due0 w0 now : Nat → Int32) : (∃ v t' e' r' i' up' due' w' z', F_X11_playTillFirst t e r (nI a) up due w up0 due0 w0 (nI k) p h = some (v, t', e', r', i', up', due', w') ∧ F_X12_firstOf (nI k) p' h' z now 4 = some (v, z')) ∧ ∀ q, ¬ q = 4 → ∃ v t' e' r' i' up' due' w' z', F_X11_firstOnes t e r (nI a) up due w up0 due0 w0 (nI k) p h = some (v, t', e', r', i', up', due', w') ∧ F_X12_firstOf (nI k) p' h' z now q = some (v, z') := by
  have h64 := p64 hS.1 hk
  obtain ⟨u1, d1, w1, b1, b2⟩ := bec t e r (nI a) up due w up0 due0 w0
  obtain ⟨z1, a1, a2⟩ := asit z now
  have hS1 := SR_cp hk hS b2 a2
  refine ⟨?_, fun q hq => ?_⟩
  · rcases tf_l hk hC e 4 a 300 1 t r u1 d1 w1 z1 hS1 (by omega) (by omega) (by omega) with ⟨v, c, t', r', up', due', w', z', q1, q2, q3, q4⟩ | ⟨t', r', up', due', w', x, z', x', q1, q2⟩
    · refine ⟨nI v, t', e, r', nI (a &&& (63 ^^^ c)), up', due', w', z', ?_, ?_⟩
      · unfold F_X11_playTillFirst
        rw [b1]
        simp only [zb7, Option.bind_some]
        rw [show L_X11_playTillFirst_13 e (nI k) p h 300 t r (nI a) u1 d1 w1 1 = _ from q1]
        rfl
      · unfold F_X12_firstOf
        rw [a1]
        simp only [zb1, Option.bind_some]
        rw [show L_X12_firstOf_6 (nI k) p' h' 4 300 z1 1 = _ from q2, if_pos rfl]
        rfl
    · refine ⟨-9, t', e, r', nI a, up', due', w', z', ?_, ?_⟩
      · unfold F_X11_playTillFirst
        rw [b1]
        simp only [zb7, Option.bind_some]
        rw [show L_X11_playTillFirst_13 e (nI k) p h 300 t r (nI a) u1 d1 w1 1 = _ from q1]
        rfl
      · unfold F_X12_firstOf
        rw [a1]
        simp only [zb1, Option.bind_some]
        rw [show L_X12_firstOf_6 (nI k) p' h' 4 300 z1 1 = _ from q2]
        rfl
  · rcases tf_l hk hC e q a 300 1 t r u1 d1 w1 z1 hS1 (by omega) (by omega) (by omega) with ⟨v, c, t', r', up', due', w', z', q1, q2, q3, q4⟩ | ⟨t', r', up', due', w', x, z', x', q1, q2⟩
    · refine ⟨nI c, t', e, r', nI (a &&& (63 ^^^ c)), up', due', w', z', ?_, ?_⟩
      · unfold F_X11_firstOnes F_X11_playTillFirst
        rw [b1]
        simp only [zb7, Option.bind_some]
        rw [show L_X11_playTillFirst_13 e (nI k) p h 300 t r (nI a) u1 d1 w1 1 = _ from q1]
        simp only [zs7, zb8, Option.bind_some]
        rw [bm_dif a h64 _ (Nat.lt_of_le_of_lt Nat.and_le_left h64), dd h64 q3 q4]
      · unfold F_X12_firstOf
        rw [a1]
        simp only [zb1, Option.bind_some]
        rw [show L_X12_firstOf_6 (nI k) p' h' q 300 z1 1 = _ from q2, if_neg hq]
        rfl
    · refine ⟨0, t', e, r', nI a, up', due', w', z', ?_, ?_⟩
      · unfold F_X11_firstOnes F_X11_playTillFirst
        rw [b1]
        simp only [zb7, Option.bind_some]
        rw [show L_X11_playTillFirst_13 e (nI k) p h 300 t r (nI a) u1 d1 w1 1 = _ from q1]
        simp only [zs7, zb8, Option.bind_some]
        rw [bm_dif a h64 a h64, d0 h64]
        rfl
      · unfold F_X12_firstOf
        rw [a1]
        simp only [zb1, Option.bind_some]
        rw [show L_X12_firstOf_6 (nI k) p' h' q 300 z1 1 = _ from q2]
        show (if q = 4 then some (-9, z') else some (0, z')) = _
        rw [if_neg hq]
end PLAY
