/-! what was seen, when to look: both sides -/
theorem hang_c (x : Int32) : (F_X11_isNoHang x = some 1 ∧ F_X12_in x 1 4 = some 0) ∨ (F_X11_isNoHang x = some 0 ∧ F_X12_in x 1 4 = some 1) := by
  unfold F_X11_isNoHang F_X12_in
  by_cases a : x < 1
  · rw [if_pos a, if_pos a]; exact Or.inl ⟨rfl, rfl⟩
  · by_cases b : x ≤ 4
    · rw [if_neg a, if_neg a, if_pos b, if_neg (Int32.not_lt.mpr b)]; exact Or.inr ⟨rfl, rfl⟩
    · rw [if_neg a, if_neg a, if_neg b, if_pos (Int32.not_le.mp b)]; exact Or.inl ⟨rfl, rfl⟩
theorem lt_no {x : Int32} {a b : Nat} (h : a ≤ b) (hb : b < 2 ^ 31) (h4 : nI b < x) : ¬ x < nI a := fun z => Int32.lt_irrefl (Int32.lt_trans (Int32.lt_of_lt_of_le z (nI_le h hb)) h4)
theorem sees_s {ws ms : Int32} {hg tk ub mh mt mu : Nat → Int32} (hW : IW ws hg tk ub ms mh mt mu) (x y z : Int32) : ∃ v ws' hg' tk' ub' ms' mh' mt' mu', F_X11_sees ws hg tk ub x y z = some (v, ws', hg', tk', ub') ∧ F_X12_sees ms mh mt mu x y z = some (v, ms', mh', mt', mu') ∧ IW ws' hg' tk' ub' ms' mh' mt' mu' := by
  unfold F_X11_sees F_X12_sees
  rcases hang_c x with ⟨h1, h2⟩ | ⟨h1, h2⟩
  · rw [h1, h2]
    simp only [zb1, Option.bind_some, if_true]
    rw [if_neg n10]
    exact ⟨_, _, _, _, _, _, _, _, _, rfl, rfl, hW⟩
  rw [h1, h2]
  simp only [zb1, Option.bind_some, if_true]
  rw [if_neg n10]
  rcases in_c (x := y) (a := 0) (b := 40) (by omega) (by omega) with ⟨h3, h4⟩ | ⟨m, m1, m2, rfl, h3⟩
  · rw [show F_X12_in y 0 40 = some 0 from h3]
    simp only [Option.bind_some, if_true]
    rcases h4 with h4 | h4
    · rw [if_pos (show y < 0 from h4)]
      exact ⟨_, _, _, _, _, _, _, _, _, rfl, rfl, hW⟩
    · rw [if_neg (show ¬ y < 0 from lt_no (Nat.zero_le 40) (by omega) h4), if_pos (show 40 < y from h4)]
      exact ⟨_, _, _, _, _, _, _, _, _, rfl, rfl, hW⟩
  rw [show F_X12_in (nI m) 0 40 = some 1 from h3, if_neg (nI_pos (by omega)), if_neg (show ¬ 40 < nI m from nI_nlt (a := 40) m2 (by omega))]
  simp only [Option.bind_some]
  rw [if_neg n10]
  rcases in_c (x := z) (a := 0) (b := 1) (by omega) (by omega) with ⟨h3, h4⟩ | ⟨u, u1, u2, rfl, h3⟩
  · rw [show F_X12_in z 0 1 = some 0 from h3]
    simp only [Option.bind_some, if_true]
    rcases h4 with h4 | h4
    · rw [if_pos (show z < 0 from h4)]
      exact ⟨_, _, _, _, _, _, _, _, _, rfl, rfl, hW⟩
    · rw [if_neg (show ¬ z < 0 from lt_no (Nat.zero_le 1) (by omega) h4), if_neg (show ¬ z ≤ 1 from Int32.not_le.mpr h4)]
      exact ⟨_, _, _, _, _, _, _, _, _, rfl, rfl, hW⟩
  rw [show F_X12_in (nI u) 0 1 = some 1 from h3, if_neg (nI_pos (by omega)), if_pos (show nI u ≤ 1 from nI_le (b := 1) u2 (by omega))]
  simp only [Option.bind_some]
  rw [if_neg n10]
  have hW' := hW
  obtain ⟨n, n1, rfl, rfl, n2⟩ := hW'
  by_cases h6 : n = 6
  · subst h6
    rw [if_neg (by decide +kernel), if_pos (show nI 6 = 6 from rfl)]
    exact ⟨_, _, _, _, _, _, _, _, _, rfl, rfl, hW⟩
  have hne : ¬ nI n = 6 := fun y => h6 ((nI_eq (b := 6) (by omega) (by omega)).1 y)
  have hlt : nI n < 6 := nI_lt (b := 6) (by omega) (by omega)
  have key : ∀ b : Int32, (b = 1 ∧ nI u = 1) ∨ (b = 0 ∧ nI u = 0) → IW (nI (n + 1)) (upd hg n x) (upd tk n (nI m)) (upd ub n b) (nI (n + 1)) (upd mh n x) (upd mt n (nI m)) (upd mu n (nI u)) := by
    intro b hb
    refine ⟨n + 1, by omega, rfl, rfl, fun i hi => ?_⟩
    by_cases e : i = n
    · subst e
      rw [pk_us, pk_us, pk_us, pk_us, pk_us, pk_us]
      exact ⟨rfl, rfl, hb⟩
    · rw [pk_un e, pk_un e, pk_un e, pk_un e, pk_un e, pk_un e]
      exact n2 i (by omega)
  rw [if_pos hlt, if_neg hne, if_neg (nI_in (by omega) (by omega)), nI_clamp (by omega), nI_1]
  unfold F_X9_add
  rw [if_pos hlt, if_neg (nI_in (by omega) (by omega)), nI_clamp (by omega), nI_1]
  rcases (show u = 0 ∨ u = 1 by omega) with rfl | rfl
  · rw [if_neg (show ¬ nI 0 = 1 by decide +kernel), if_pos hlt, if_neg (nin (by omega) (by omega))]
    exact ⟨_, _, _, _, _, _, _, _, _, rfl, rfl, key (vp_nar .boolean 0) (Or.inr ⟨by decide +kernel, by decide +kernel⟩)⟩
  · rw [if_pos (show nI 1 = 1 from rfl)]
    exact ⟨_, _, _, _, _, _, _, _, _, rfl, rfl, key (vp_nar .boolean 1) (Or.inl ⟨by decide +kernel, by decide +kernel⟩)⟩
theorem IW_u {n : Nat} {hg tk ub mh mt mu : Nat → Int32} (hw : ∀ i, i < n → hg i = mh i ∧ tk i = mt i ∧ ((ub i = 1 ∧ mu i = 1) ∨ (ub i = 0 ∧ mu i = 0))) : ∀ i, i < n → ub i = 1 ∨ ub i = 0 := fun i hi => (hw i hi).2.2.elim (fun y => Or.inl y.1) (fun y => Or.inr y.1)
theorem ways_s {ws ms : Int32} {hg tk ub mh mt mu : Nat → Int32} (hW : IW ws hg tk ub ms mh mt mu) (f : Int32) (ps ss : Nat → Int32) (x : Int32) : ∃ v f' ps' ss', F_X11_ways ws f hg tk ub ps ss x = some (v, f', ps', ss') ∧ F_X12_ways ms mh mt mu x = some v := by
  obtain ⟨n, n1, rfl, rfl, n2⟩ := hW
  unfold F_X11_ways F_X12_ways
  rcases in_c (x := x) (a := 0) (b := 1) (by omega) (by omega) with ⟨h3, h4⟩ | ⟨u, u1, u2, rfl, h3⟩
  · rw [show F_X12_in x 0 1 = some 0 from h3]
    simp only [zb1, Option.bind_some, if_true]
    rcases h4 with h4 | h4
    · rw [if_pos (show x < 0 from h4)]
      exact ⟨_, _, _, _, rfl, rfl⟩
    · rw [if_neg (show ¬ x < 0 from lt_no (Nat.zero_le 1) (by omega) h4), if_neg (show ¬ x ≤ 1 from Int32.not_le.mpr h4)]
      exact ⟨_, _, _, _, rfl, rfl⟩
  · rw [show F_X12_in (nI u) 0 1 = some 1 from h3, if_neg (nI_pos (by omega)), if_pos (show nI u ≤ 1 from nI_le (b := 1) u2 (by omega))]
    simp only [zb1, Option.bind_some]
    obtain ⟨ps', ss', g1, g2⟩ := gather_c n1 (IW_u n2) (hg := hg) (tk := tk) ps ss
    rw [if_neg n10, g1, ways_c (hg := hg) (tk := tk) (ub := ub) n1 n2]
    simp only [zb3, Option.bind_some]
    by_cases hu : nI u = 0
    · rw [if_pos hu, if_pos hu]
      exact ⟨_, _, _, _, rfl, rfl⟩
    · rw [if_neg hu, if_neg hu]
      have hle := cn_le (wf hg tk ub n) 132
      rcases fw_c (g := wf hg tk ub n) 132 0 rfl with ⟨a, b⟩ | ⟨i, a, b, d, e⟩
      · rw [Nat.zero_add] at b
        rw [if_pos (show nI (cn (wf hg tk ub n) 132) = 0 by rw [b]; rfl), a]
        exact ⟨_, _, _, _, rfl, rfl⟩
      · have hpos := cn_mono (wf hg tk ub n) (show i + 1 ≤ 132 by omega)
        rw [cn_s b] at hpos
        obtain ⟨p1, p2⟩ := g2.2 i (by omega) b
        rw [d] at p1 p2
        rw [if_neg (nI_ne0 (by omega) (by omega)), cl_0, p1, p2, e]
        exact ⟨_, _, _, _, rfl, rfl⟩
/-- how many of the ways have him in the air -/
def wu (g : Nat → Bool) (h t : Int32) (i : Nat) : Bool := g i && upq (nI (2 + i / 12)) (nI (i % 12)) h t
theorem cn_sub (g : Nat → Bool) (h t : Int32) (ps ss : Nat → Int32) : ∀ e, (∀ i, i < e → g i = true → ps (cn g i) = nI (2 + i / 12) ∧ ss (cn g i) = nI (i % 12)) → cn (fun x => upq (ps x) (ss x) h t) (cn g e) = cn (wu g h t) e
  | 0, _ => rfl
  | e + 1, H => by
    have ih := cn_sub g h t ps ss e (fun i hi => H i (by omega))
    by_cases q : g e = true
    · rw [cn_s q]
      obtain ⟨p1, p2⟩ := H e (by omega) q
      have ew : wu g h t e = upq (ps (cn g e)) (ss (cn g e)) h t := by
        unfold wu
        rw [q, p1, p2, Bool.true_and]
      by_cases u : upq (ps (cn g e)) (ss (cn g e)) h t = true
      · rw [cn_s (g := fun x => upq (ps x) (ss x) h t) u, cn_s (by rw [ew]; exact u), ih]
      · rw [cn_n (g := fun x => upq (ps x) (ss x) h t) u, cn_n (by rw [ew]; exact u), ih]
    · rw [cn_n q, cn_n (g := wu g h t), ih]
      unfold wu
      intro z
      exact q (Bool.and_eq_true_iff.mp z).1
theorem b25 (F : Nat) (hF : F ≤ 132) (ps ss : Nat → Int32) (h t : Int32) (hp : ∀ x, x < F → ∃ v, 0 < v ∧ v < 2 ^ 31 ∧ ps x = nI v) : ∀ (c i fu : Nat), i + c = F → c < fu → L_X9_bestTick_25 (nI F) ps ss h t fu (nI (cn (fun x => upq (ps x) (ss x) h t) i)) (nI i) = some (nI (cn (fun x => upq (ps x) (ss x) h t) F), nI F) := by
  intro c
  induction c with
  | zero =>
    intro i fu e1 e2
    obtain ⟨fu, rfl⟩ : ∃ g, fu = g + 1 := ⟨fu - 1, by omega⟩
    have : i = F := by omega
    subst this
    rw [L_X9_bestTick_25_s, if_pos (nI_le (Nat.le_refl _) (by omega))]
  | succ c ih =>
    intro i fu e1 e2
    obtain ⟨fu, rfl⟩ : ∃ g, fu = g + 1 := ⟨fu - 1, by omega⟩
    obtain ⟨v, v1, v2, v3⟩ := hp i (by omega)
    have := ih (i + 1) fu (by omega) (by omega)
    rw [L_X9_bestTick_25_s, if_neg (nI_ge (by omega) (by omega)), if_neg (nI_in (by omega) (by omega)), nI_clamp (by omega), v3, up_9 v1 v2, nI_1, nI_1, ← v3]
    simp only [zb1, Option.bind_some]
    by_cases u : upq (ps i) (ss i) h t = true
    · rw [if_pos u, if_neg n10]
      rw [cn_s (g := fun x => upq (ps x) (ss x) h t) u] at this
      exact this
    · rw [if_neg u, if_pos rfl]
      rw [cn_n (g := fun x => upq (ps x) (ss x) h t) u] at this
      exact this
section LOOK
variable {hg tk ub mh mt mu : Nat → Int32} {n : Nat}
theorem l54 (hn : n ≤ 6) (hw : ∀ i, i < n → hg i = mh i ∧ tk i = mt i ∧ ((ub i = 1 ∧ mu i = 1) ∨ (ub i = 0 ∧ mu i = 0))) (h t : Int32) (q : Nat) (hq : q < 11) : ∀ (c s fu : Nat), s + c = 12 → c < fu → L_X12_look_54 (nI n) mh mt mu h t (nI (2 + q)) fu (nI (cn (wu (wf hg tk ub n) h t) (12 * q + s))) (nI s) = some (nI (cn (wu (wf hg tk ub n) h t) (12 * q + 12)), nI 12) := by
  intro c
  induction c with
  | zero =>
    intro s fu e1 e2
    obtain ⟨fu, rfl⟩ : ∃ g, fu = g + 1 := ⟨fu - 1, by omega⟩
    have : s = 12 := by omega
    subst this
    rw [L_X12_look_54_s, if_pos (by decide +kernel)]
  | succ c ih =>
    intro s fu e1 e2
    obtain ⟨fu, rfl⟩ : ∃ g, fu = g + 1 := ⟨fu - 1, by omega⟩
    have ed : (12 * q + s) / 12 = q := by omega
    have em : (12 * q + s) % 12 = s := by omega
    have ew : wf hg tk ub n (12 * q + s) = fitb hg tk ub (nI (2 + q)) (nI s) n 0 := by
      unfold wf
      rw [ed, em]
    have eu : wu (wf hg tk ub n) h t (12 * q + s) = (wf hg tk ub n (12 * q + s) && upq (nI (2 + q)) (nI s) h t) := by
      unfold wu
      rw [ed, em]
    have := ih (s + 1) fu (by omega) (by omega)
    rw [← Nat.add_assoc] at this
    rw [L_X12_look_54_s, if_neg (show ¬ (12 : Int32) ≤ nI s from nI_ge (b := 12) (by omega) (by omega)), fi_c (hg := hg) (tk := tk) (ub := ub) hn hw (by omega) (by omega), up_12 (by omega) (by omega), ← ew, nI_1, nI_1, Int32.add_zero]
    simp only [zb1, Option.bind_some]
    by_cases g : wf hg tk ub n (12 * q + s) = true
    · rw [if_pos g, if_neg n10]
      rw [g, Bool.true_and] at eu
      by_cases u : upq (nI (2 + q)) (nI s) h t = true
      · rw [if_pos u, if_neg n10]
        rw [cn_s (by rw [eu]; exact u)] at this
        exact this
      · rw [if_neg u, if_pos rfl]
        rw [cn_n (by rw [eu]; exact u)] at this
        exact this
    · rw [if_neg g, if_pos rfl]
      rw [cn_n (by rw [eu]; intro z; exact g (Bool.and_eq_true_iff.mp z).1)] at this
      exact this
theorem l44 (hn : n ≤ 6) (hw : ∀ i, i < n → hg i = mh i ∧ tk i = mt i ∧ ((ub i = 1 ∧ mu i = 1) ∨ (ub i = 0 ∧ mu i = 0))) (h t : Int32) : ∀ (c q fu : Nat), q + c = 11 → c < fu → L_X12_look_44 (nI n) mh mt mu h t fu (nI (cn (wu (wf hg tk ub n) h t) (12 * q))) (nI (2 + q)) = some (nI (cn (wu (wf hg tk ub n) h t) 132), nI 13) := by
  intro c
  induction c with
  | zero =>
    intro q fu e1 e2
    obtain ⟨fu, rfl⟩ : ∃ g, fu = g + 1 := ⟨fu - 1, by omega⟩
    have : q = 11 := by omega
    subst this
    rw [L_X12_look_44_s, if_pos (by decide +kernel)]
  | succ c ih =>
    intro q fu e1 e2
    obtain ⟨fu, rfl⟩ : ∃ g, fu = g + 1 := ⟨fu - 1, by omega⟩
    have x1 := l54 (hg := hg) (tk := tk) (ub := ub) hn hw h t q (by omega) 12 0 300 (by omega) (by omega)
    rw [L_X12_look_44_s, if_neg (show ¬ (13 : Int32) ≤ nI _ from nI_ge (b := 13) (by omega) (by omega)), show L_X12_look_54 (nI n) mh mt mu h t (nI (2 + q)) 300 (nI (cn (wu (wf hg tk ub n) h t) (12 * q))) 0 = _ from x1, nI_1]
    exact ih (q + 1) fu (by omega) (by omega)
/-- the greater part, as both say it -/
theorem part_c {u F : Nat} (h : u ≤ F) (hF : F < 2 ^ 30) : nI F - nI u = nI (F - u) ∧ (nI u ≤ nI (F - u) ↔ u ≤ F - u) ∧ (nI u < nI (F - u) ↔ u < F - u) := ⟨pk_sub h, nI_leI (by omega) (by omega), nI_ltI (by omega) (by omega)⟩
theorem lk (hn : n ≤ 6) (hw : ∀ i, i < n → hg i = mh i ∧ tk i = mt i ∧ ((ub i = 1 ∧ mu i = 1) ∨ (ub i = 0 ∧ mu i = 0))) (h : Int32) (F : Nat) (hF : F = cn (wf hg tk ub n) 132) (h1 : 1 < F) (ps ss : Nat → Int32) (hG : GI (wf hg tk ub n) 132 (nI F) ps ss) : ∀ (c t fu : Nat) (b s b' s' : Int32), t + c = 41 → c < fu → ((t = 0 ∧ s = nI (F + 1) ∧ b' = -9) ∨ (b = b' ∧ s = s' ∧ ∃ x, x < 2 ^ 31 ∧ b = nI x)) → ∃ x y y', L_X9_bestTick_12 (nI F) ps ss h fu b s (nI t) = some (x, y, nI 41) ∧ L_X12_look_26 (nI n) mh mt mu h (nI F) fu b' s' (nI t) = some (x, y', nI 41) := by
  intro c
  have hle : F ≤ 132 := by rw [hF]; exact cn_le _ _
  induction c with
  | zero =>
    intro t fu b s b' s' e1 e2 e3
    obtain ⟨fu, rfl⟩ : ∃ g, fu = g + 1 := ⟨fu - 1, by omega⟩
    have : t = 41 := by omega
    subst this
    rw [L_X9_bestTick_12_s, L_X12_look_26_s, if_pos (by decide +kernel), if_pos (by decide +kernel)]
    rcases e3 with ⟨e3, _⟩ | ⟨rfl, _⟩
    · omega
    · exact ⟨_, _, _, rfl, rfl⟩
  | succ c ih =>
    intro t fu b s b' s' e1 e2 e3
    obtain ⟨fu, rfl⟩ : ∃ g, fu = g + 1 := ⟨fu - 1, by omega⟩
    have hp : ∀ x, x < F → ∃ v, 0 < v ∧ v < 2 ^ 31 ∧ ps x = nI v := by
      intro x hx
      rw [hF] at hx
      obtain ⟨i, i1, i2, i3⟩ := cn_at 132 x hx
      exact ⟨2 + i / 12, by omega, by omega, by rw [← i3]; exact (hG.2 i i1 i2).1⟩
    have x1 := b25 F hle ps ss h (nI t) hp F 0 300 (by omega) (by omega)
    have x2 := l44 (hg := hg) (tk := tk) (ub := ub) hn hw h (nI t) 11 0 300 (by omega) (by omega)
    have eq := cn_sub (wf hg tk ub n) h (nI t) ps ss 132 hG.2
    rw [← hF] at eq
    rw [eq] at x1
    have hu : cn (wu (wf hg tk ub n) h (nI t)) 132 ≤ F := by
      rw [← eq]; exact cn_le _ _
    rw [L_X9_bestTick_12_s, L_X12_look_26_s, if_neg (show ¬ (40 : Int32) < nI t from nI_nlt (a := 40) (by omega) (by omega)), if_neg (show ¬ (40 : Int32) < nI t from nI_nlt (a := 40) (by omega) (by omega)), if_neg (show ¬ nI F ≤ 1 from nI_ge (a := 1) h1 (by omega)), show L_X9_bestTick_25 (nI F) ps ss h (nI t) 300 0 0 = _ from x1, show L_X12_look_44 (nI n) mh mt mu h (nI t) 300 0 2 = _ from x2]
    simp only [zb2, Option.bind_some, nI_1]
    generalize cn (wu (wf hg tk ub n) h (nI t)) 132 = u at hu
    obtain ⟨p1, p2, p3⟩ := part_c hu (by omega)
    rw [p1]
    have eg : (if nI u < nI (F - u) then nI (F - u) else nI u) = nI (if u ≤ F - u then F - u else u) := by
      by_cases z : u ≤ F - u
      · rw [if_pos z]
        by_cases z2 : u < F - u
        · rw [if_pos (p3.2 z2)]
        · rw [if_neg (fun y => z2 (p3.1 y)), show F - u = u by omega]
      · rw [if_neg z, if_neg (fun y => z (Nat.le_of_lt (p3.1 y)))]
    rw [eg]
    have eg2 : ∀ (α : Type) (A B : α), (if nI u ≤ nI (F - u) then A else B) = if u ≤ F - u then A else B := by
      intro α A B
      by_cases z : u ≤ F - u
      · rw [if_pos z, if_pos (p2.2 z)]
      · rw [if_neg z, if_neg (fun y => z (p2.1 y))]
    rw [eg2]
    have em : ∀ (A : Int32 → Option (Int32 × Int32 × Int32)), (if u ≤ F - u then A (nI (F - u)) else A (nI u)) = A (nI (if u ≤ F - u then F - u else u)) := by
      intro A
      by_cases z : u ≤ F - u
      · rw [if_pos z, if_pos z]
      · rw [if_neg z, if_neg z]
    rw [em (fun v => if b' = (-9) then L_X12_look_26 (nI n) mh mt mu h (nI F) fu (nI t) v (nI (t + 1)) else if s' ≤ v then L_X12_look_26 (nI n) mh mt mu h (nI F) fu b' s' (nI (t + 1)) else L_X12_look_26 (nI n) mh mt mu h (nI F) fu (nI t) v (nI (t + 1)))]
    have hg : (if u ≤ F - u then F - u else u) ≤ F := by split <;> omega
    generalize (if u ≤ F - u then F - u else u) = G at hg
    rcases e3 with ⟨rfl, rfl, rfl⟩ | ⟨rfl, rfl, x, x1, rfl⟩
    · rw [if_neg (nI_ge (by omega) (by omega)), if_pos rfl]
      exact ih 1 fu _ _ _ _ (by omega) (by omega) (Or.inr ⟨rfl, rfl, 0, by omega, rfl⟩)
    · have hne : ¬ nI x = -9 := fun y => absurd (y ▸ nI_pos' x1 : (0 : Int32) ≤ -9) (by decide)
      rw [if_neg hne]
      by_cases z : s ≤ nI G
      · rw [if_pos z, if_pos z]
        exact ih (t + 1) fu _ _ _ _ (by omega) (by omega) (Or.inr ⟨rfl, rfl, x, x1, rfl⟩)
      · rw [if_neg z, if_neg z]
        exact ih (t + 1) fu _ _ _ _ (by omega) (by omega) (Or.inr ⟨rfl, rfl, t, by omega, rfl⟩)
end LOOK
theorem look_s {ws ms : Int32} {hg tk ub mh mt mu : Nat → Int32} (hW : IW ws hg tk ub ms mh mt mu) (f : Int32) (ps ss : Nat → Int32) (x : Int32) : ∃ v f' ps' ss', F_X11_look ws f hg tk ub ps ss x = some (v, f', ps', ss') ∧ F_X12_look ms mh mt mu x = some v := by
  obtain ⟨n, n1, rfl, rfl, n2⟩ := hW
  unfold F_X11_look F_X12_look
  rcases hang_c x with ⟨h1, h2⟩ | ⟨h1, h2⟩
  · rw [h1, h2]
    simp only [zb1, Option.bind_some, if_true]
    rw [if_neg n10]
    exact ⟨_, _, _, _, rfl, rfl⟩
  · rw [h1, h2]
    simp only [zb1, Option.bind_some, if_true]
    obtain ⟨ps', ss', g1, g2⟩ := gather_c n1 (IW_u n2) (hg := hg) (tk := tk) ps ss
    have hle := cn_le (wf hg tk ub n) 132
    have hw0 : F_X12_ways (nI n) mh mt mu 0 = some (nI (cn (wf hg tk ub n) 132)) := by
      unfold F_X12_ways
      rw [show F_X12_in 0 0 1 = some 1 from by decide +kernel]
      simp only [zb1, Option.bind_some]
      rw [if_neg n10, ways_c (hg := hg) (tk := tk) (ub := ub) n1 n2]
      rfl
    rw [if_neg n10, g1, hw0]
    simp only [zb3, Option.bind_some]
    by_cases h1 : 1 < cn (wf hg tk ub n) 132
    · rw [if_pos (show 1 < nI _ from nI_lt (a := 1) h1 (by omega))]
      obtain ⟨x', y, y', q1, q2⟩ := lk n1 n2 x _ rfl h1 ps' ss' g2 41 0 300 0 (nI (cn (wf hg tk ub n) 132 + 1)) (-9) 0 (by omega) (by omega) (Or.inl ⟨rfl, rfl, rfl⟩)
      unfold F_X9_bestTick
      rw [nI_1, show L_X9_bestTick_12 (nI (cn (wf hg tk ub n) 132)) ps' ss' x 300 0 (nI (cn (wf hg tk ub n) 132 + 1)) 0 = _ from q1, show L_X12_look_26 (nI n) mh mt mu x (nI (cn (wf hg tk ub n) 132)) 300 (-9) 0 0 = _ from q2]
      exact ⟨_, _, _, _, rfl, rfl⟩
    · rw [if_neg (show ¬ 1 < nI (cn (wf hg tk ub n) 132) from nI_nlt (a := 1) (by omega) (by omega)), L_X12_look_26_s, if_neg (by decide), if_pos (show nI (cn (wf hg tk ub n) 132) ≤ 1 from nI_le (b := 1) (by omega) (by omega))]
      exact ⟨_, _, _, _, rfl, rfl⟩
