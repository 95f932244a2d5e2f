/-! how one jumps: both sides -/
def upq (p s h t : Int32) : Bool := decide (¬ t < s ∧ ¬ h ≤ ((t - s) - (t - s) / p * p))
theorem up_9 {v : Nat} (h1 : 0 < v) (h2 : v < 2 ^ 31) (s h t : Int32) : F_X9_isUp (nI v) s h t = some (if upq (nI v) s h t = true then 1 else 0) := by
  unfold F_X9_isUp upq
  rw [if_neg (nI_nle h1 h2), if_neg (nI_ne0 h1 h2)]
  by_cases a : t < s
  · rw [if_pos a, if_neg (fun y => (of_decide_eq_true y).1 a)]
  · rw [if_neg a]
    by_cases b : h ≤ ((t - s) - (t - s) / nI v * nI v)
    · rw [if_pos b, if_neg (fun y => (of_decide_eq_true y).2 b)]
    · rw [if_neg b, if_pos (decide_eq_true ⟨a, b⟩)]
theorem up_12 {v : Nat} (h1 : 0 < v) (h2 : v < 2 ^ 31) (s h t : Int32) : F_X12_isUp (nI v) s h t = some (if upq (nI v) s h t = true then 1 else 0) := by
  unfold F_X12_isUp upq
  rw [if_neg (nI_ne0 h1 h2)]
  by_cases a : t < s
  · rw [if_pos a, if_neg (fun y => (of_decide_eq_true y).1 a)]
  · rw [if_neg a]
    by_cases b : h ≤ ((t - s) - (t - s) / nI v * nI v)
    · rw [if_pos b, if_neg (fun y => (of_decide_eq_true y).2 b)]
    · rw [if_neg b, if_pos (decide_eq_true ⟨a, b⟩)]
def fitb (hg tk ub : Nat → Int32) (p s : Int32) : Nat → Nat → Bool
  | 0, _ => true
  | c + 1, i => (upq p s (hg i) (tk i) == decide (ub i = 1)) && fitb hg tk ub p s c (i + 1)
theorem fitb_s (hg tk ub : Nat → Int32) (p s : Int32) (c i : Nat) : fitb hg tk ub p s (c + 1) i = ((upq p s (hg i) (tk i) == decide (ub i = 1)) && fitb hg tk ub p s c (i + 1)) := rfl
theorem c01 : ¬ (0 : Int32) = 1 := by decide
theorem c10 : ¬ (1 : Int32) = 0 := by decide
def IW (ws : Int32) (hg tk ub : Nat → Int32) (ms : Int32) (mh mt mu : Nat → Int32) : Prop :=
  ∃ n, n ≤ 6 ∧ ws = nI n ∧ ms = nI n ∧ ∀ i, i < n → hg i = mh i ∧ tk i = mt i ∧ ((ub i = 1 ∧ mu i = 1) ∨ (ub i = 0 ∧ mu i = 0))
section SIGHT
variable {hg tk ub mh mt mu : Nat → Int32} {n : Nat}
theorem ag_l (hn : n ≤ 6) (hu : ∀ i, i < n → ub i = 1 ∨ ub i = 0) {v : Nat} (h1 : 0 < v) (h2 : v < 2 ^ 31) (s : Int32) : ∀ (c i f : Nat), i + c = n → c < f → L_X9_agrees_2 (nI n) hg tk ub (nI v) s f (nI i) = some (if fitb hg tk ub (nI v) s c i = true then .inl (nI n) else .inr 0) := by
  intro c
  induction c with
  | zero =>
    intro i f e1 e2
    obtain ⟨f, rfl⟩ : ∃ g, f = g + 1 := ⟨f - 1, by omega⟩
    have : i = n := by omega
    subst this
    rw [L_X9_agrees_2_s, if_pos (nI_le (Nat.le_refl _) (by omega))]
    rfl
  | succ c ih =>
    intro i f e1 e2
    obtain ⟨f, rfl⟩ : ∃ g, f = g + 1 := ⟨f - 1, by omega⟩
    rw [L_X9_agrees_2_s, if_neg (nI_ge (by omega) (by omega)), if_neg (nI_in (by omega) (by omega)), nI_clamp (by omega), up_9 h1 h2, nI_1]
    simp only [zb1, Option.bind_some]
    rw [ih (i + 1) f (by omega) (by omega)]
    rw [fitb_s]
    cases q : upq (nI v) s (hg i) (tk i) <;> rcases hu i (by omega) with e | e <;> rw [e] <;> simp [c01, c10]
theorem ag_c (hn : n ≤ 6) (hu : ∀ i, i < n → ub i = 1 ∨ ub i = 0) {v : Nat} (h1 : 0 < v) (h2 : v < 2 ^ 31) (s : Int32) : F_X9_agrees (nI n) hg tk ub (nI v) s = some (if fitb hg tk ub (nI v) s n 0 = true then 1 else 0) := by
  unfold F_X9_agrees
  rw [show L_X9_agrees_2 (nI n) hg tk ub (nI v) s 300 0 = _ from ag_l hn hu h1 h2 s n 0 300 (by omega) (by omega)]
  by_cases q : fitb hg tk ub (nI v) s n 0 = true
  · rw [if_pos q, if_pos q]; rfl
  · rw [if_neg q, if_neg q]; rfl
theorem fi_0 (hn : n ≤ 6) (v s : Int32) : ∀ (c i f : Nat), i + c = n → c < f → L_X12_fits_5 (nI n) mh mt mu v s f 0 (nI i) = some (0, nI n) := by
  intro c
  induction c with
  | zero =>
    intro i f e1 e2
    obtain ⟨f, rfl⟩ : ∃ g, f = g + 1 := ⟨f - 1, by omega⟩
    have : i = n := by omega
    subst this
    rw [L_X12_fits_5_s, if_pos (nI_le (Nat.le_refl _) (by omega))]
  | succ c ih =>
    intro i f e1 e2
    obtain ⟨f, rfl⟩ : ∃ g, f = g + 1 := ⟨f - 1, by omega⟩
    rw [L_X12_fits_5_s, if_neg (nI_ge (by omega) (by omega)), if_pos rfl, nI_1]
    exact ih (i + 1) f (by omega) (by omega)
theorem fi_l (hn : n ≤ 6) (hw : ∀ i, i < n → hg i = mh i ∧ tk i = mt i ∧ ((ub i = 1 ∧ mu i = 1) ∨ (ub i = 0 ∧ mu i = 0))) {v : Nat} (h1 : 0 < v) (h2 : v < 2 ^ 31) (s : Int32) : ∀ (c i f : Nat), i + c = n → c < f → L_X12_fits_5 (nI n) mh mt mu (nI v) s f 1 (nI i) = some (if fitb hg tk ub (nI v) s c i = true then 1 else 0, nI n) := by
  intro c
  induction c with
  | zero =>
    intro i f e1 e2
    obtain ⟨f, rfl⟩ : ∃ g, f = g + 1 := ⟨f - 1, by omega⟩
    have : i = n := by omega
    subst this
    rw [L_X12_fits_5_s, if_pos (nI_le (Nat.le_refl _) (by omega))]
    rfl
  | succ c ih =>
    intro i f e1 e2
    obtain ⟨f, rfl⟩ : ∃ g, f = g + 1 := ⟨f - 1, by omega⟩
    rw [L_X12_fits_5_s, if_neg (nI_ge (by omega) (by omega)), if_neg (by decide), if_neg (nI_in (by omega) (by omega)), nI_clamp (by omega), up_12 h1 h2, nI_1]
    simp only [zb1, Option.bind_some]
    rw [ih (i + 1) f (by omega) (by omega), fi_0 hn (nI v) s c (i + 1) f (by omega) (by omega)]
    obtain ⟨w1, w2, w3⟩ := hw i (by omega)
    rw [fitb_s, ← w1, ← w2]
    cases q : upq (nI v) s (hg i) (tk i) <;> rcases w3 with ⟨e, e'⟩ | ⟨e, e'⟩ <;> rw [e, e'] <;> simp [c01, c10]
theorem fi_c (hn : n ≤ 6) (hw : ∀ i, i < n → hg i = mh i ∧ tk i = mt i ∧ ((ub i = 1 ∧ mu i = 1) ∨ (ub i = 0 ∧ mu i = 0))) {v : Nat} (h1 : 0 < v) (h2 : v < 2 ^ 31) (s : Int32) : F_X12_fits (nI n) mh mt mu (nI v) s = some (if fitb hg tk ub (nI v) s n 0 = true then 1 else 0) := by
  unfold F_X12_fits
  rw [show L_X12_fits_5 (nI n) mh mt mu (nI v) s 300 1 0 = _ from fi_l hn hw h1 h2 s n 0 300 (by omega) (by omega)]
  simp only [zb2, Option.bind_some]
  split
  · rw [if_neg (by decide)]
  · rw [if_neg (by decide)]
end SIGHT
/-- how many below e, the ways in their order -/
def cn (g : Nat → Bool) : Nat → Nat
  | 0 => 0
  | e + 1 => if g e = true then cn g e + 1 else cn g e
theorem cn_le (g : Nat → Bool) : ∀ e, cn g e ≤ e
  | 0 => Nat.le_refl _
  | e + 1 => by
    have := cn_le g e
    unfold cn
    split <;> omega
theorem cn_s {g : Nat → Bool} {e : Nat} (h : g e = true) : cn g (e + 1) = cn g e + 1 := if_pos h
theorem cn_n {g : Nat → Bool} {e : Nat} (h : ¬ g e = true) : cn g (e + 1) = cn g e := if_neg h
theorem cn_mono (g : Nat → Bool) {a : Nat} : ∀ {b}, a ≤ b → cn g a ≤ cn g b := by
  intro b
  induction b with
  | zero => intro h; have : a = 0 := by omega
            subst this; exact Nat.le_refl _
  | succ b ih =>
    intro h
    by_cases e : a = b + 1
    · subst e; exact Nat.le_refl _
    · have := ih (by omega)
      by_cases q : g b = true
      · rw [cn_s q]; omega
      · rw [cn_n q]; exact this
theorem cn_at {g : Nat → Bool} : ∀ e x, x < cn g e → ∃ i, i < e ∧ g i = true ∧ cn g i = x := by
  intro e
  induction e with
  | zero => intro x h; exact absurd h (Nat.not_lt_zero x)
  | succ e ih =>
    intro x h
    by_cases q : g e = true
    · rw [cn_s q] at h
      by_cases hx : x = cn g e
      · exact ⟨e, by omega, q, hx.symm⟩
      · obtain ⟨i, a, b, c⟩ := ih x (by omega)
        exact ⟨i, by omega, b, c⟩
    · rw [cn_n q] at h
      obtain ⟨i, a, b, c⟩ := ih x h
      exact ⟨i, by omega, b, c⟩
def cr (g : Nat → Bool) : Nat → Nat → Nat
  | 0, _ => 0
  | c + 1, e => if g e = true then cr g c (e + 1) + 1 else cr g c (e + 1)
theorem cn_cr (g : Nat → Bool) : ∀ c e, cn g e + cr g c e = cn g (e + c)
  | 0, e => rfl
  | c + 1, e => by
    have h := cn_cr g c (e + 1)
    have hc : cr g (c + 1) e = if g e = true then cr g c (e + 1) + 1 else cr g c (e + 1) := rfl
    rw [show e + (c + 1) = e + 1 + c by omega, ← h, hc]
    by_cases q : g e = true
    · rw [if_pos q, cn_s q]; omega
    · rw [if_neg q, cn_n q]
def wv (e : Nat) : Int32 := (100 * nI (2 + e / 12)) + nI (e % 12)
def fw (g : Nat → Bool) : Nat → Nat → Int32
  | 0, _ => -9
  | c + 1, e => if g e = true then wv e else fw g c (e + 1)
theorem fw_c {g : Nat → Bool} : ∀ c e, cn g e = 0 → (fw g c e = -9 ∧ cn g (e + c) = 0) ∨ ∃ i, i < e + c ∧ g i = true ∧ cn g i = 0 ∧ fw g c e = wv i
  | 0, e, h => Or.inl ⟨rfl, h⟩
  | c + 1, e, h => by
    unfold fw
    by_cases q : g e = true
    · rw [if_pos q]; exact Or.inr ⟨e, by omega, q, h, rfl⟩
    · rw [if_neg q]
      rcases fw_c (g := g) c (e + 1) (by rw [cn_n q]; exact h) with ⟨a, b⟩ | ⟨i, a, b, d, f⟩
      · exact Or.inl ⟨a, by rw [show e + (c + 1) = e + 1 + c by omega]; exact b⟩
      · exact Or.inr ⟨i, by omega, b, d, f⟩
/-- the way number i fits -/
def wf (hg tk ub : Nat → Int32) (n : Nat) (i : Nat) : Bool := fitb hg tk ub (nI (2 + i / 12)) (nI (i % 12)) n 0
def GI (g : Nat → Bool) (e : Nat) (f : Int32) (ps ss : Nat → Int32) : Prop := f = nI (cn g e) ∧ ∀ i, i < e → g i = true → ps (cn g i) = nI (2 + i / 12) ∧ ss (cn g i) = nI (i % 12)
section WAYS
variable {hg tk ub mh mt mu : Nat → Int32} {n : Nat}
theorem g15 (hn : n ≤ 6) (hu : ∀ i, i < n → ub i = 1 ∨ ub i = 0) (q : Nat) (hq : q < 11) : ∀ (c s fu : Nat) (f : Int32) (ps ss : Nat → Int32), s + c = 12 → c < fu → GI (wf hg tk ub n) (12 * q + s) f ps ss → ∃ f' ps' ss', L_X9_gather_15 (nI n) hg tk ub (nI (2 + q)) fu f ps ss (nI s) = some (f', ps', ss', nI 12) ∧ GI (wf hg tk ub n) (12 * q + 12) f' ps' ss' := by
  intro c
  induction c with
  | zero =>
    intro s fu f ps ss e1 e2 hG
    obtain ⟨fu, rfl⟩ : ∃ g, fu = g + 1 := ⟨fu - 1, by omega⟩
    have : s = 12 := by omega
    subst this
    rw [L_X9_gather_15_s, if_pos (by decide +kernel)]
    exact ⟨f, ps, ss, rfl, hG⟩
  | succ c ih =>
    intro s fu f ps ss e1 e2 hG
    obtain ⟨fu, rfl⟩ : ∃ g, fu = g + 1 := ⟨fu - 1, by omega⟩
    obtain ⟨rfl, hG2⟩ := hG
    have hle := cn_le (wf hg tk ub n) (12 * q + s)
    have ed : (12 * q + s) / 12 = q := by omega
    have em : (12 * q + s) % 12 = s := by omega
    rw [L_X9_gather_15_s, if_neg (show ¬ (11 : Int32) < nI s from nI_nlt (a := 11) (by omega) (by omega)), if_neg (show ¬ (132 : Int32) ≤ nI _ from nI_ge (b := 132) (by omega) (by omega)), ag_c hn hu (by omega) (by omega), if_neg (nI_in (by omega) (by omega)), nI_clamp (by omega), nI_1, nI_1]
    simp only [zb1, Option.bind_some]
    have ew : wf hg tk ub n (12 * q + s) = fitb hg tk ub (nI (2 + q)) (nI s) n 0 := by
      unfold wf
      rw [ed, em]
    rw [← ew]
    by_cases g : wf hg tk ub n (12 * q + s) = true
    · rw [if_pos g, if_neg n10]
      refine ih (s + 1) fu _ _ _ (by omega) (by omega) ⟨?_, fun i hi gi => ?_⟩
      · rw [← Nat.add_assoc, cn_s g]
      · by_cases e : i = 12 * q + s
        · subst e
          rw [pk_us, pk_us, ed, em]
          exact ⟨rfl, rfl⟩
        · have hlt : i < 12 * q + s := by omega
          have := cn_mono (wf hg tk ub n) (show i + 1 ≤ 12 * q + s by omega)
          rw [cn_s gi] at this
          rw [pk_un (by omega), pk_un (by omega)]
          exact hG2 i hlt gi
    · rw [if_neg g, if_pos rfl]
      refine ih (s + 1) fu _ _ _ (by omega) (by omega) ⟨?_, fun i hi gi => ?_⟩
      · rw [← Nat.add_assoc, cn_n g]
      · exact hG2 i (by
          by_cases e : i = 12 * q + s
          · subst e; exact absurd gi g
          · omega) gi
theorem g7 (hn : n ≤ 6) (hu : ∀ i, i < n → ub i = 1 ∨ ub i = 0) : ∀ (c q fu : Nat) (f : Int32) (ps ss : Nat → Int32), q + c = 11 → c < fu → GI (wf hg tk ub n) (12 * q) f ps ss → ∃ f' ps' ss', L_X9_gather_7 (nI n) hg tk ub fu f ps ss (nI (2 + q)) = some (f', ps', ss', nI 13) ∧ GI (wf hg tk ub n) 132 f' ps' ss' := by
  intro c
  induction c with
  | zero =>
    intro q fu f ps ss e1 e2 hG
    obtain ⟨fu, rfl⟩ : ∃ g, fu = g + 1 := ⟨fu - 1, by omega⟩
    have : q = 11 := by omega
    subst this
    rw [L_X9_gather_7_s, if_pos (by decide +kernel)]
    exact ⟨f, ps, ss, rfl, hG⟩
  | succ c ih =>
    intro q fu f ps ss e1 e2 hG
    obtain ⟨fu, rfl⟩ : ∃ g, fu = g + 1 := ⟨fu - 1, by omega⟩
    obtain ⟨f', ps', ss', x1, x2⟩ := g15 hn hu q (by omega) 12 0 300 f ps ss (by omega) (by omega) hG
    rw [L_X9_gather_7_s, if_neg (show ¬ (12 : Int32) < nI _ from nI_nlt (a := 12) (by omega) (by omega)), show L_X9_gather_15 (nI n) hg tk ub (nI (2 + q)) 300 f ps ss 0 = _ from x1, nI_1]
    exact ih (q + 1) fu f' ps' ss' (by omega) (by omega) x2
theorem gather_c (hn : n ≤ 6) (hu : ∀ i, i < n → ub i = 1 ∨ ub i = 0) (ps ss : Nat → Int32) : ∃ ps' ss', F_X9_gather (nI n) hg tk ub ps ss = some (nI (cn (wf hg tk ub n) 132), ps', ss') ∧ GI (wf hg tk ub n) 132 (nI (cn (wf hg tk ub n) 132)) ps' ss' := by
  obtain ⟨f', ps', ss', x1, x2⟩ := g7 hn hu 11 0 300 0 ps ss (by omega) (by omega) ⟨rfl, fun i hi => by omega⟩
  have e := x2.1
  subst e
  refine ⟨ps', ss', ?_, x2⟩
  unfold F_X9_gather
  rw [show L_X9_gather_7 (nI n) hg tk ub 300 0 ps ss 2 = _ from x1]
  rfl
theorem nI_m1 (c : Nat) : nI (c + 1) + (-1) = nI c := by
  rw [← Int32.sub_eq_add_neg]; exact nI_pred c
theorem w30 (hn : n ≤ 6) (hw : ∀ i, i < n → hg i = mh i ∧ tk i = mt i ∧ ((ub i = 1 ∧ mu i = 1) ∨ (ub i = 0 ∧ mu i = 0))) (q : Nat) (hq : q < 11) : ∀ (s fu b : Nat), s < 12 → s + 1 < fu → b + (12 * q + s + 1) = 132 → L_X12_ways_30 (nI n) mh mt mu (nI (2 + q)) fu (nI (cr (wf hg tk ub n) b (12 * q + s + 1))) (fw (wf hg tk ub n) b (12 * q + s + 1)) (nI s) = some (nI (cr (wf hg tk ub n) (b + s + 1) (12 * q)), fw (wf hg tk ub n) (b + s + 1) (12 * q), -1) := by
  intro s
  induction s with
  | zero =>
    intro fu b e1 e2 e3
    obtain ⟨fu, rfl⟩ : ∃ g, fu = g + 1 + 1 := ⟨fu - 2, by omega⟩
    have ew : wf hg tk ub n (12 * q) = fitb hg tk ub (nI (2 + q)) (nI 0) n 0 := by
      unfold wf
      rw [show 12 * q / 12 = q by omega, show 12 * q % 12 = 0 by omega]
    rw [L_X12_ways_30_s, if_neg (by decide), fi_c (hg := hg) (tk := tk) (ub := ub) hn hw (by omega) (by omega), ← ew, show nI 0 + (-1) = -1 from by decide +kernel, nI_1]
    simp only [zb1, Option.bind_some]
    show _ = some (nI (if wf hg tk ub n (12 * q) = true then cr (wf hg tk ub n) b (12 * q + 1) + 1 else cr (wf hg tk ub n) b (12 * q + 1)), (if wf hg tk ub n (12 * q) = true then wv (12 * q) else fw (wf hg tk ub n) b (12 * q + 1)), -1)
    by_cases g : wf hg tk ub n (12 * q) = true
    · rw [if_pos g, if_neg n10, L_X12_ways_30_s, if_pos (by decide), if_pos g, if_pos g]
      unfold wv
      rw [show 12 * q / 12 = q by omega, show 12 * q % 12 = 0 by omega]
    · rw [if_neg g, if_pos rfl, L_X12_ways_30_s, if_pos (by decide), if_neg g, if_neg g]
  | succ s ih =>
    intro fu b e1 e2 e3
    obtain ⟨fu, rfl⟩ : ∃ g, fu = g + 1 := ⟨fu - 1, by omega⟩
    have ed : (12 * q + (s + 1)) / 12 = q := by omega
    have em : (12 * q + (s + 1)) % 12 = s + 1 := by omega
    have ew : wf hg tk ub n (12 * q + (s + 1)) = fitb hg tk ub (nI (2 + q)) (nI (s + 1)) n 0 := by
      unfold wf
      rw [ed, em]
    have := ih fu (b + 1) (by omega) (by omega) (by omega)
    rw [show b + 1 + s + 1 = b + (s + 1) + 1 by omega] at this
    rw [← this, L_X12_ways_30_s, if_neg (nI_pos (by omega)), fi_c (hg := hg) (tk := tk) (ub := ub) hn hw (by omega) (by omega), ← ew, nI_m1, nI_1]
    simp only [zb1, Option.bind_some]
    show _ = L_X12_ways_30 (nI n) mh mt mu (nI (2 + q)) fu (nI (if wf hg tk ub n (12 * q + s + 1) = true then cr (wf hg tk ub n) b (12 * q + s + 1 + 1) + 1 else cr (wf hg tk ub n) b (12 * q + s + 1 + 1))) (if wf hg tk ub n (12 * q + s + 1) = true then wv (12 * q + s + 1) else fw (wf hg tk ub n) b (12 * q + s + 1 + 1)) (nI s)
    rw [show 12 * q + (s + 1) = 12 * q + s + 1 by omega]
    rw [show 12 * q + (s + 1) = 12 * q + s + 1 by omega] at ed em
    by_cases g : wf hg tk ub n (12 * q + s + 1) = true
    · rw [if_pos g, if_pos g, if_pos g, if_neg n10]
      unfold wv
      rw [ed, em]
    · rw [if_neg g, if_neg g, if_neg g, if_pos rfl]
theorem w20 (hn : n ≤ 6) (hw : ∀ i, i < n → hg i = mh i ∧ tk i = mt i ∧ ((ub i = 1 ∧ mu i = 1) ∨ (ub i = 0 ∧ mu i = 0))) : ∀ (q fu b : Nat), q < 12 → q + 1 < fu → b + 12 * q = 132 → L_X12_ways_20 (nI n) mh mt mu fu (nI (cr (wf hg tk ub n) b (12 * q))) (fw (wf hg tk ub n) b (12 * q)) (nI (1 + q)) = some (nI (cr (wf hg tk ub n) 132 0), fw (wf hg tk ub n) 132 0, nI 1) := by
  intro q
  induction q with
  | zero =>
    intro fu b e1 e2 e3
    obtain ⟨fu, rfl⟩ : ∃ g, fu = g + 1 := ⟨fu - 1, by omega⟩
    have : b = 132 := by omega
    subst this
    rw [L_X12_ways_20_s, if_pos (by decide +kernel)]
  | succ q ih =>
    intro fu b e1 e2 e3
    obtain ⟨fu, rfl⟩ : ∃ g, fu = g + 1 := ⟨fu - 1, by omega⟩
    have h1 := w30 (hg := hg) (tk := tk) (ub := ub) hn hw q (by omega) 11 300 b (by omega) (by omega) (by omega)
    have h2 := ih fu (b + 12) (by omega) (by omega) (by omega)
    rw [L_X12_ways_20_s, if_neg (show ¬ nI (1 + (q + 1)) ≤ 1 from nI_ge (a := 1) (by omega) (by omega)), show 1 + (q + 1) = 2 + q by omega, show 12 * (q + 1) = 12 * q + 11 + 1 by omega, show L_X12_ways_30 (nI n) mh mt mu (nI (2 + q)) 300 (nI (cr (wf hg tk ub n) b (12 * q + 11 + 1))) (fw (wf hg tk ub n) b (12 * q + 11 + 1)) 11 = _ from h1]
    simp only [zb3, Option.bind_some]
    rw [show 2 + q = (1 + q) + 1 by omega, nI_m1, ← h2]
theorem ways_c (hn : n ≤ 6) (hw : ∀ i, i < n → hg i = mh i ∧ tk i = mt i ∧ ((ub i = 1 ∧ mu i = 1) ∨ (ub i = 0 ∧ mu i = 0))) : L_X12_ways_20 (nI n) mh mt mu 300 0 (-9) 12 = some (nI (cn (wf hg tk ub n) 132), fw (wf hg tk ub n) 132 0, nI 1) := by
  have := w20 (hg := hg) (tk := tk) (ub := ub) hn hw 11 300 0 (by omega) (by omega) (by omega)
  have e := cn_cr (wf hg tk ub n) 132 0
  rw [Nat.zero_add, show cn (wf hg tk ub n) 0 = 0 from rfl, Nat.zero_add] at e
  rw [← e]
  exact this
end WAYS
