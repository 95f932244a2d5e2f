/-! the law: its calls, its world -/
theorem zc_k : (0 : Int32).toNatClampNeg = 0 ∧ (1 : Int32).toNatClampNeg = 1 ∧ (2 : Int32).toNatClampNeg = 2 ∧ (3 : Int32).toNatClampNeg = 3 ∧ (4 : Int32).toNatClampNeg = 4 ∧ (5 : Int32).toNatClampNeg = 5 ∧ (6 : Int32).toNatClampNeg = 6 ∧ (7 : Int32).toNatClampNeg = 7 ∧ (8 : Int32).toNatClampNeg = 8 ∧ (9 : Int32).toNatClampNeg = 9 := by decide
theorem zr2 (a0 a1 : Nat) : va_up (va_up (fun _ => none) (0 : Int32).toNatClampNeg (some a0)) (1 : Int32).toNatClampNeg (some a1) = fun j => ([a0, a1] : List Nat)[j]? := by
  obtain ⟨e0, e1, e2, e3, e4, e5, e6, e7, e8, e9⟩ := zc_k
  rw [e0, e1]
  funext j
  match j with
  | 0 => rfl
  | 1 => rfl
  | n + 2 => simp [va_up]
theorem zr6 (a0 a1 a2 a3 a4 a5 : Nat) : va_up (va_up (va_up (va_up (va_up (va_up (fun _ => none) (0 : Int32).toNatClampNeg (some a0)) (1 : Int32).toNatClampNeg (some a1)) (2 : Int32).toNatClampNeg (some a2)) (3 : Int32).toNatClampNeg (some a3)) (4 : Int32).toNatClampNeg (some a4)) (5 : Int32).toNatClampNeg (some a5) = fun j => ([a0, a1, a2, a3, a4, a5] : List Nat)[j]? := by
  obtain ⟨e0, e1, e2, e3, e4, e5, e6, e7, e8, e9⟩ := zc_k
  rw [e0, e1, e2, e3, e4, e5]
  funext j
  match j with
  | 0 => rfl
  | 1 => rfl
  | 2 => rfl
  | 3 => rfl
  | 4 => rfl
  | 5 => rfl
  | n + 6 => simp [va_up]
theorem zr10 (a0 a1 a2 a3 a4 a5 a6 a7 a8 a9 : Nat) : va_up (va_up (va_up (va_up (va_up (va_up (va_up (va_up (va_up (va_up (fun _ => none) (0 : Int32).toNatClampNeg (some a0)) (1 : Int32).toNatClampNeg (some a1)) (2 : Int32).toNatClampNeg (some a2)) (3 : Int32).toNatClampNeg (some a3)) (4 : Int32).toNatClampNeg (some a4)) (5 : Int32).toNatClampNeg (some a5)) (6 : Int32).toNatClampNeg (some a6)) (7 : Int32).toNatClampNeg (some a7)) (8 : Int32).toNatClampNeg (some a8)) (9 : Int32).toNatClampNeg (some a9) = fun j => ([a0, a1, a2, a3, a4, a5, a6, a7, a8, a9] : List Nat)[j]? := by
  obtain ⟨e0, e1, e2, e3, e4, e5, e6, e7, e8, e9⟩ := zc_k
  rw [e0, e1, e2, e3, e4, e5, e6, e7, e8, e9]
  funext j
  match j with
  | 0 => rfl
  | 1 => rfl
  | 2 => rfl
  | 3 => rfl
  | 4 => rfl
  | 5 => rfl
  | 6 => rfl
  | 7 => rfl
  | 8 => rfl
  | 9 => rfl
  | n + 10 => simp [va_up]
/-- the array classes, out of the tables -/
theorem zarr_p {args : Array Value} {s : State} {ty : FieldType} (h : (Cond.arrayClass ty).before args s = true) (hty : ∀ cA : ClassId, va_RA s cA ty = (s.vm.findClass ("[" ++ ty.toString) = some cA)) : ∃ cA : ClassId, ArrOfT s cA ty ∧ va_RA s cA ty := by
  obtain ⟨cA, kA, comp, h1, h2, h3⟩ := Cond.arrayClass_spec h
  exact ⟨cA, fun n z => ⟨fun k h => (by cases h), kA, h2, comp, h3⟩, by rw [hty]; exact h1⟩
theorem zarr_o {s : State} {C : String} (h : va_AO C s) : ∃ cA : ClassId, ArrOfT s cA (.object C) ∧ va_RA s cA (.object C) := by
  obtain ⟨comp, cA, kA, h1, h2, h3, h4, h5⟩ := Cond.arrayOver_spec h
  exact ⟨cA, fun n z => ⟨fun k h => (by cases h), kA, h3, comp, h4⟩, kA, comp, h3, h4, h1, h5⟩
theorem zK_of {s : State} {D : va_G} {cI cZ cS cJ : ClassId} (hKc : ∀ (k : Nat) (q : vw_C), classes[k]? = some q → u_Kn s q.1 q.2.1 q.2.2 (D.1 k) (D.2 k)) (h0 : ArrOfT s cI .int ∧ va_RA s cI .int) (h1 : ArrOfT s cZ .boolean ∧ va_RA s cZ .boolean) (h2 : ArrOfT s cS (.object RX8) ∧ va_RA s cS (.object RX8)) (h3 : ArrOfT s cJ (.object RX5) ∧ va_RA s cJ (.object RX5)) : va_K D classes (TYS cI cZ cS cJ) s := by
  refine ⟨hKc, fun k q h => ?_⟩
  match k, h with
  | 0, h => cases h; exact h0
  | 1, h => cases h; exact h1
  | 2, h => cases h; exact h2
  | 3, h => cases h; exact h3
  | k + 4, h => simp [TYS] at h
/-- a table of four, out of the Statement's words -/
theorem ztab {args : Array Value} {s : State} {n : String} {f : Nat → Int32} {A : Nat → Prop} (hl : (Cond.laysStatic "SkipRope$Text" n "[I").before args s = true) (hini : (Cond.initialized "SkipRope$Text").before args s = true) (harr : (Cond.arrayOf (.static "SkipRope$Text" n "[I") .int).before args s = true) (hlen : (Cond.eq (.length (.static "SkipRope$Text" n "[I")) (.int 4)).before args s = true) (h0 : (Cond.eq (.elem (.static "SkipRope$Text" n "[I") (.int 0)) (.int (f 0))).before args s = true) (h1 : (Cond.eq (.elem (.static "SkipRope$Text" n "[I") (.int 1)) (.int (f 1))).before args s = true) (h2 : (Cond.eq (.elem (.static "SkipRope$Text" n "[I") (.int 2)) (.int (f 2))).before args s = true) (h3 : (Cond.eq (.elem (.static "SkipRope$Text" n "[I") (.int 3)) (.int (f 3))).before args s = true) (hA : ∀ a : Nat, a < s.heap.size → ¬ A a) : ∃ t : Nat, va_Z "SkipRope$Text" n "[I" (.ref t) A s s.heap ∧ va_T .int t 4 (fun j => .int (f j)) A s s.heap := by
  obtain ⟨t, ht, hT⟩ := va_Tof (ty := .int) (N := 4) (f := fun j => .int (f j)) (A := A) (by decide) harr (va_eqt hlen) (fun j hj => by
    match j, hj with
    | 0, _ => exact va_eqt h0
    | 1, _ => exact va_eqt h1
    | 2, _ => exact va_eqt h2
    | 3, _ => exact va_eqt h3
    | k + 4, h => omega) hA
  exact ⟨t, va_Zref hl hini ht hA, hT⟩

/-! a world in blocks -/
theorem zP_iff {D : va_G} {ws : va_W} {H : Heap} : va_P D classes ws H ↔ ∀ q ∈ ws, va_at D classes q H := ⟨fun h q hq => by
  obtain ⟨k, hk⟩ := List.getElem?_of_mem hq
  exact h k q hk, fun h k q hk => h q (List.mem_of_getElem? hk)⟩
theorem zD_iff {A : Nat → Prop} {ws : va_W} : va_D A ws ↔ ws.Pairwise (fun a b => a.1 ≠ b.1) ∧ ∀ q ∈ ws, A q.1 := by
  refine ⟨fun h => ⟨List.pairwise_iff_getElem.mpr fun i j hi hj hij e => ?_, fun q hq => ?_⟩, fun h => ⟨fun i j p q hi hj e => ?_, fun k q hk => h.2 q (List.mem_of_getElem? hk)⟩⟩
  · have := h.1 i j _ _ (List.getElem?_eq_getElem hi) (List.getElem?_eq_getElem hj) e
    omega
  · obtain ⟨k, hk⟩ := List.getElem?_of_mem hq
    exact h.2 k q hk
  · obtain ⟨hi', ei⟩ := List.getElem?_eq_some_iff.mp hi
    obtain ⟨hj', ej⟩ := List.getElem?_eq_some_iff.mp hj
    rcases Nat.lt_trichotomy i j with c | c | c
    · exact absurd (by rw [ei, ej]; exact e) (List.pairwise_iff_getElem.mp h.1 i j hi' hj' c)
    · exact c
    · exact absurd (by rw [ei, ej]; exact e.symm) (List.pairwise_iff_getElem.mp h.1 j i hj' hi' c)
theorem zDf {A : Nat → Prop} {bs : List va_W} (h : va_D A bs.flatten) : (∀ b ∈ bs, b.Pairwise (fun a b => a.1 ≠ b.1)) ∧ (∀ (i j : Nat) (b b' : va_W), bs[i]? = some b → bs[j]? = some b' → i ≠ j → ∀ q ∈ b, ∀ q' ∈ b', q.1 ≠ q'.1) ∧ ∀ b ∈ bs, ∀ q ∈ b, A q.1 := by
  obtain ⟨h1, h2⟩ := zD_iff.mp h
  obtain ⟨g1, g2⟩ := List.pairwise_flatten.mp h1
  refine ⟨g1, fun i j b b' hi hj hne q hq q' hq' => ?_, fun b hb q hq => h2 q (List.mem_flatten.mpr ⟨b, hb, hq⟩)⟩
  obtain ⟨hi', ei⟩ := List.getElem?_eq_some_iff.mp hi
  obtain ⟨hj', ej⟩ := List.getElem?_eq_some_iff.mp hj
  rcases Nat.lt_or_gt_of_ne hne with c | c
  · have := List.pairwise_iff_getElem.mp g2 i j hi' hj' c
    rw [ei, ej] at this
    exact this q hq q' hq'
  · have := List.pairwise_iff_getElem.mp g2 j i hj' hi' c
    rw [ei, ej] at this
    exact (this q' hq' q hq).symm
theorem zfD {A : Nat → Prop} {bs : List va_W} (h1 : ∀ b ∈ bs, b.Pairwise (fun a b => a.1 ≠ b.1)) (h2 : ∀ (i j : Nat) (b b' : va_W), bs[i]? = some b → bs[j]? = some b' → i ≠ j → ∀ q ∈ b, ∀ q' ∈ b', q.1 ≠ q'.1) (h3 : ∀ b ∈ bs, ∀ q ∈ b, A q.1) : va_D A bs.flatten := by
  refine zD_iff.mpr ⟨List.pairwise_flatten.mpr ⟨h1, List.pairwise_iff_getElem.mpr fun i j hi hj hij q hq q' hq' => h2 i j _ _ (List.getElem?_eq_getElem hi) (List.getElem?_eq_getElem hj) (by omega) q hq q' hq'⟩, fun q hq => ?_⟩
  obtain ⟨b, hb, hq⟩ := List.mem_flatten.mp hq
  exact h3 b hb q hq
def zset {α : Type} : List α → List Nat → List α → List α
  | ws, i :: is, c :: cs => zset (ws.set i c) is cs
  | ws, _, _ => ws
theorem zset_at {α : Type} : ∀ (is : List Nat) (cs ws : List α) (k : Nat) (q : α), (zset ws is cs)[k]? = some q → is.length = cs.length → (k ∉ is ∧ ws[k]? = some q) ∨ ∃ j : Nat, is[j]? = some k ∧ cs[j]? = some q
  | [], cs, ws, k, q, h, _ => Or.inl ⟨by simp, by cases cs <;> exact h⟩
  | i :: is, [], ws, k, q, h, hl => by simp at hl
  | i :: is, c :: cs, ws, k, q, h, hl => by
    rcases zset_at is cs (ws.set i c) k q h (by simpa using hl) with ⟨h1, h2⟩ | ⟨j, h1, h2⟩
    · by_cases hk : k = i
      · subst hk
        by_cases hlt : k < ws.length
        · rw [List.getElem?_set_self hlt] at h2
          cases h2
          exact Or.inr ⟨0, rfl, rfl⟩
        · rw [List.getElem?_eq_none (by simp; omega)] at h2
          cases h2
      · rw [List.getElem?_set_ne (Ne.symm hk)] at h2
        exact Or.inl ⟨by simp [hk, h1], h2⟩
    · exact Or.inr ⟨j + 1, by simpa using h1, by simpa using h2⟩
theorem zpick {bs bc : List va_W} {is : List Nat} {j : Nat} {b : va_W} (hC : is.map (fun i => bs[i]?) = bc.map some) (h : bc[j]? = some b) : ∃ i, is[j]? = some i ∧ bs[i]? = some b := by
  have h1 : (is.map (fun i => bs[i]?))[j]? = some (some b) := by rw [hC, List.getElem?_map, h]; rfl
  rw [List.getElem?_map] at h1
  cases hi : is[j]? with
  | none => rw [hi] at h1; cases h1
  | some i => rw [hi] at h1; exact ⟨i, rfl, Option.some.inj h1⟩
/-- the callee's cells, out of the blocks -/
theorem zsubB {D : va_G} {A : Nat → Prop} {bs bc : List va_W} {H : Heap} {is : List Nat} (hP : va_P D classes bs.flatten H) (hD : va_D A bs.flatten) (hC : is.map (fun i => bs[i]?) = bc.map some) (hn : va_nd is = true) : va_P D classes bc.flatten H ∧ va_D A bc.flatten := by
  have hm : ∀ b ∈ bc, b ∈ bs := fun b hb => by
    obtain ⟨j, hj⟩ := List.getElem?_of_mem hb
    obtain ⟨i, -, hi⟩ := zpick hC hj
    exact List.mem_of_getElem? hi
  obtain ⟨d1, d2, d3⟩ := zDf hD
  refine ⟨zP_iff.mpr fun q hq => ?_, zfD (fun b hb => d1 b (hm b hb)) (fun i j b b' hi hj hne q hq q' hq' => ?_) (fun b hb => d3 b (hm b hb))⟩
  · obtain ⟨b, hb, hq⟩ := List.mem_flatten.mp hq
    exact zP_iff.mp hP q (List.mem_flatten.mpr ⟨b, hm b hb, hq⟩)
  · obtain ⟨x, hx, hbx⟩ := zpick hC hi
    obtain ⟨y, hy, hby⟩ := zpick hC hj
    refine d2 x y b b' hbx hby (fun e => hne ?_) q hq q' hq'
    subst e
    exact va_nd_inj is hn i j x hx hy
/-- the world behind a call, in blocks -/
theorem zjoinB {A : Nat → Prop} {D : va_G} {TY : List (ClassId × FieldType)} {bs bc bc1 : List va_W} {H H1 : Heap} {t : State} {is : List Nat} (ht : t.heap = H1) (hP : va_P D classes bs.flatten H) (hD : va_D A bs.flatten) (hC : is.map (fun i => bs[i]?) = bc.map some) (hlen : is.length = bc1.length)
    (hk1 : ∀ q : Nat, q < H.size → ¬ va_A bc.flatten H.size q → H1[q]? = H[q]?) (hF : ∀ q, va_A bc.flatten H.size q → A q) (hB : zPost D TY (va_A bc.flatten H.size) bc1.flatten t) : va_P D classes (zset bs is bc1).flatten H1 ∧ va_D A (zset bs is bc1).flatten := by
  obtain ⟨hP1, -, hD1⟩ := hB
  rw [ht] at hP1
  obtain ⟨d1, d2, d3⟩ := zDf hD
  obtain ⟨n1, n2, n3⟩ := zDf hD1
  have hPq := zP_iff.mp hP
  have apart : ∀ (k : Nat) (b : va_W) (q : Nat × va_E), k ∉ is → bs[k]? = some b → q ∈ b → q.1 < H.size ∧ ¬ va_A bc.flatten H.size q.1 := by
    intro k b q hk hb hq
    have hl := (hPq q (List.mem_flatten.mpr ⟨b, List.mem_of_getElem? hb, hq⟩)).lt
    refine ⟨hl, fun h => ?_⟩
    rcases h with ⟨k2, e, h⟩ | h
    · obtain ⟨b', hb', hq'⟩ := List.mem_flatten.mp (List.mem_of_getElem? h)
      obtain ⟨j, hj⟩ := List.getElem?_of_mem hb'
      obtain ⟨i, hi, hbi⟩ := zpick hC hj
      exact d2 k i b b' hb hbi (fun z => hk (by rw [z]; exact List.mem_of_getElem? hi)) q hq (q.1, e) hq' rfl
    · omega
  have newb : ∀ (k : Nat) (b : va_W), (zset bs is bc1)[k]? = some b → (k ∉ is ∧ bs[k]? = some b) ∨ ∃ j : Nat, is[j]? = some k ∧ bc1[j]? = some b := fun k b hb => zset_at is bc1 bs k b hb hlen
  refine ⟨zP_iff.mpr fun q hq => ?_, zfD (fun b hb => ?_) (fun i j b b' hi hj hne q hq q' hq' => ?_) (fun b hb q hq => ?_)⟩
  · obtain ⟨b, hb, hq⟩ := List.mem_flatten.mp hq
    obtain ⟨k, hk⟩ := List.getElem?_of_mem hb
    rcases newb k b hk with ⟨h1, h2⟩ | ⟨j, h1, h2⟩
    · obtain ⟨g1, g2⟩ := apart k b q h1 h2 hq
      exact (hPq q (List.mem_flatten.mpr ⟨b, List.mem_of_getElem? h2, hq⟩)).kept (hk1 q.1 g1 g2)
    · exact zP_iff.mp hP1 q (List.mem_flatten.mpr ⟨b, List.mem_of_getElem? h2, hq⟩)
  · obtain ⟨k, hk⟩ := List.getElem?_of_mem hb
    rcases newb k b hk with ⟨h1, h2⟩ | ⟨j, h1, h2⟩
    · exact d1 b (List.mem_of_getElem? h2)
    · exact n1 b (List.mem_of_getElem? h2)
  · rcases newb i b hi with ⟨h1, h2⟩ | ⟨a, h1, h2⟩ <;> rcases newb j b' hj with ⟨g1, g2⟩ | ⟨c, g1, g2⟩
    · exact d2 i j b b' h2 g2 hne q hq q' hq'
    · exact fun e => (apart i b q h1 h2 hq).2 (by rw [e]; exact n3 b' (List.mem_of_getElem? g2) q' hq')
    · exact fun e => (apart j b' q' g1 g2 hq').2 (by rw [← e]; exact n3 b (List.mem_of_getElem? h2) q hq)
    · refine n2 a c b b' h2 g2 (fun e => hne ?_) q hq q' hq'
      subst e
      rw [h1] at g1
      exact Option.some.inj g1
  · obtain ⟨k, hk⟩ := List.getElem?_of_mem hb
    rcases newb k b hk with ⟨h1, h2⟩ | ⟨j, h1, h2⟩
    · exact d3 b (List.mem_of_getElem? h2) q hq
    · exact hF q.1 (n3 b (List.mem_of_getElem? h2) q hq)
section ZLV
variable {p : Program} {l : Launch} {e : Env} {R : Room} {s : State} {m : MethodId} {args : Array Value} {below : List Frame} {meth : Method} {c : Code} {H : Heap} {locs : List Loc} {cells slots : Nat} {Q : State → Prop}
variable {cc bytes : ByteArray} {pc nL maxL index n : Nat} {ls : Array Slot} {rest st0 As : List Value} {D : va_G} {TY : List (ClassId × FieldType)} {A B : Nat → Prop} {bs bc bc1 : List va_W} {wc wc1 : va_W} {Ts : List Cond} {own : String} {y : MethodName} {ret : Option FieldType} {rm : Room} {b ci tl tm : Nat} {fs : List Value} {q : vw_C}
theorem zlv_i {r : Int32} (S : CallFix p m c cc nL s args Ts own) (hT : ∀ w ∈ zt, w ∈ Ts) (lk : zLk own index y bytes maxL ret n) (hM : zMi l y (zwl y bytes maxL ret) rm D TY (.ref b :: As) wc wc1 r) (hrm : rm.cells = 0 ∧ rm.slots = 0 ∧ rm.frames + 1 ≤ R.frames ∧ 8 + (maxL + 11) + rm.locals ≤ R.locals) (hK : va_K D classes TY s) (hP : va_P D classes bs.flatten H) (hD : va_D A bs.flatten) (hS : va_S A s.heap H locs) (hA : ∀ q : Nat, s.heap.size ≤ q → A q) (is : List Nat) (hC : is.map (fun i => bs[i]?) = bc.map some) (hnc : va_nd is = true) (hlen : is.length = bc1.length) (hwc : bc.flatten = wc) (hwc1 : bc1.flatten = wc1) (hq : wc[0]? = some (b, .inr (ci, fs))) (hcl : classes[ci]? = some q) (hqc : q.1 = y.cls) (hn : As.length = n) (hsize : ls.size = nL) (hst : st0 = As.reverse ++ .ref b :: rest) (hW : (rest.map fun v => v.category).sum ≤ 8) (hdg : decode cc pc = .ok (.invokevirtual index, 3)) (hf : cells ≤ R.cells ∧ slots ≤ R.slots)
    (kk : ∀ (H1 : Heap) (locs1 : List Loc), va_P D classes (zset bs is bc1).flatten H1 → va_D A (zset bs is bc1).flatten → va_S A s.heap H1 locs1 → W p l e R s m args below meth c H1 locs1 cells slots Q (F0 m (pc + 3) ls (.int r :: rest))) : W p l e R s m args below meth c H locs cells slots Q (F0 m pc ls st0) := by
  obtain ⟨hPc, hDc⟩ := zsubB hP hD hC hnc
  subst hwc
  subst hwc1
  have hF : ∀ q, va_A bc.flatten H.size q → A q := fun q h => by
    rcases h with ⟨k, e, h⟩ | h
    · exact hDc.2 k _ h
    · exact hA q (Nat.le_trans hS.1 h)
  refine va_calli (zrunV S hT lk (hM H.size) hrm ⟨zblind, by rw [← hqc]; exact va_recv hK hPc hcl hq, fun U hU hW => ⟨rfl, by rw [hU], by rw [hU]; exact hPc, va_K.moved hW.alike hK, hDc.weaken (fun _ _ _ _ => trivial)⟩⟩ hn hsize hst hW hdg hf) hS (fun q _ h => hF q h) hF (fun r' u t H1 locs1 ht hvm hw hB hz1 hk1 hS1 => ?_)
  subst hw
  obtain ⟨hP1, hD1⟩ := zjoinB ht hP hD hC hlen hk1 hF hB
  exact kk H1 locs1 hP1 hD1 hS1
theorem zlv_l {r : Int64} (S : CallFix p m c cc nL s args Ts own) (hT : ∀ w ∈ zt, w ∈ Ts) (lk : zLk own index y bytes maxL ret n) (hM : zMl l y (zwl y bytes maxL ret) rm D TY (.ref b :: As) wc wc1 r) (hrm : rm.cells = 0 ∧ rm.slots = 0 ∧ rm.frames + 1 ≤ R.frames ∧ 8 + (maxL + 11) + rm.locals ≤ R.locals) (hK : va_K D classes TY s) (hP : va_P D classes bs.flatten H) (hD : va_D A bs.flatten) (hS : va_S A s.heap H locs) (hA : ∀ q : Nat, s.heap.size ≤ q → A q) (is : List Nat) (hC : is.map (fun i => bs[i]?) = bc.map some) (hnc : va_nd is = true) (hlen : is.length = bc1.length) (hwc : bc.flatten = wc) (hwc1 : bc1.flatten = wc1) (hq : wc[0]? = some (b, .inr (ci, fs))) (hcl : classes[ci]? = some q) (hqc : q.1 = y.cls) (hn : As.length = n) (hsize : ls.size = nL) (hst : st0 = As.reverse ++ .ref b :: rest) (hW : (rest.map fun v => v.category).sum ≤ 8) (hdg : decode cc pc = .ok (.invokevirtual index, 3)) (hf : cells ≤ R.cells ∧ slots ≤ R.slots)
    (kk : ∀ (H1 : Heap) (locs1 : List Loc), va_P D classes (zset bs is bc1).flatten H1 → va_D A (zset bs is bc1).flatten → va_S A s.heap H1 locs1 → W p l e R s m args below meth c H1 locs1 cells slots Q (F0 m (pc + 3) ls (.long r :: rest))) : W p l e R s m args below meth c H locs cells slots Q (F0 m pc ls st0) := by
  obtain ⟨hPc, hDc⟩ := zsubB hP hD hC hnc
  subst hwc
  subst hwc1
  have hF : ∀ q, va_A bc.flatten H.size q → A q := fun q h => by
    rcases h with ⟨k, e, h⟩ | h
    · exact hDc.2 k _ h
    · exact hA q (Nat.le_trans hS.1 h)
  refine va_calll (zrunV S hT lk (hM H.size) hrm ⟨zblind, by rw [← hqc]; exact va_recv hK hPc hcl hq, fun U hU hW => ⟨rfl, by rw [hU], by rw [hU]; exact hPc, va_K.moved hW.alike hK, hDc.weaken (fun _ _ _ _ => trivial)⟩⟩ hn hsize hst hW hdg hf) hS (fun q _ h => hF q h) hF (fun r' u t H1 locs1 ht hvm hw hB hz1 hk1 hS1 => ?_)
  subst hw
  obtain ⟨hP1, hD1⟩ := zjoinB ht hP hD hC hlen hk1 hF hB
  exact kk H1 locs1 hP1 hD1 hS1
theorem zlv_si {r : Int32} (S : CallFix p m c cc nL s args Ts own) (hT : ∀ w ∈ zt, w ∈ Ts) (lk : zLk own index y bytes maxL ret n) (hM : zMsi l y (zwl y bytes maxL ret) rm D TY tl tm B (.ref b :: As) wc wc1 r) (hrm : rm.cells = 0 ∧ rm.slots = 0 ∧ rm.frames + 1 ≤ R.frames ∧ 8 + (maxL + 11) + rm.locals ≤ R.locals) (hB : ∀ q : Nat, A q → B q) (hSt : zStat tl tm B s) (hK : va_K D classes TY s) (hP : va_P D classes bs.flatten H) (hD : va_D A bs.flatten) (hS : va_S A s.heap H locs) (hA : ∀ q : Nat, s.heap.size ≤ q → A q) (is : List Nat) (hC : is.map (fun i => bs[i]?) = bc.map some) (hnc : va_nd is = true) (hlen : is.length = bc1.length) (hwc : bc.flatten = wc) (hwc1 : bc1.flatten = wc1) (hq : wc[0]? = some (b, .inr (ci, fs))) (hcl : classes[ci]? = some q) (hqc : q.1 = y.cls) (hn : As.length = n) (hsize : ls.size = nL) (hst : st0 = As.reverse ++ .ref b :: rest) (hW : (rest.map fun v => v.category).sum ≤ 8) (hdg : decode cc pc = .ok (.invokevirtual index, 3)) (hf : cells ≤ R.cells ∧ slots ≤ R.slots)
    (kk : ∀ (H1 : Heap) (locs1 : List Loc), va_P D classes (zset bs is bc1).flatten H1 → va_D A (zset bs is bc1).flatten → va_S A s.heap H1 locs1 → W p l e R s m args below meth c H1 locs1 cells slots Q (F0 m (pc + 3) ls (.int r :: rest))) : W p l e R s m args below meth c H locs cells slots Q (F0 m pc ls st0) := by
  obtain ⟨hPc, hDc⟩ := zsubB hP hD hC hnc
  subst hwc
  subst hwc1
  have hF : ∀ q, va_A bc.flatten H.size q → A q := fun q h => by
    rcases h with ⟨k, e, h⟩ | h
    · exact hDc.2 k _ h
    · exact hA q (Nat.le_trans hS.1 h)
  refine va_calli (zrunV S hT lk (hM H.size) hrm ⟨zblindS, by rw [← hqc]; exact va_recv hK hPc hcl hq, fun U hU hW0 => ⟨rfl, ⟨by rw [hU], by rw [hU]; exact hPc, va_K.moved hW0.alike hK, hDc.weaken (fun _ _ _ _ => trivial)⟩, hDc.weaken (fun _ _ _ h => hB _ h), fun q hq => hB q (hA q (Nat.le_trans hS.1 hq)), zstat_at hW0 hU hS hB hSt⟩⟩ hn hsize hst hW hdg hf) hS (fun q _ h => hF q h) hF (fun r' u t H1 locs1 ht hvm hw hB hz1 hk1 hS1 => ?_)
  subst hw
  obtain ⟨hP1, hD1⟩ := zjoinB ht hP hD hC hlen hk1 hF hB
  exact kk H1 locs1 hP1 hD1 hS1
theorem zlv_ni {r : Int32} (S : CallFix p m c cc nL s args Ts own) (hT : ∀ w ∈ zt, w ∈ Ts) (lk : zLk own index y bytes maxL ret n) (hM : zMni l y (zwl y bytes maxL ret) rm D TY (.ref b :: As) wc wc1 r) (hrm : rm.cells = 0 ∧ rm.slots = 0 ∧ rm.frames + 1 ≤ R.frames ∧ 8 + (maxL + 11) + rm.locals ≤ R.locals) (hN : zNest s) (hK : va_K D classes TY s) (hP : va_P D classes bs.flatten H) (hD : va_D A bs.flatten) (hS : va_S A s.heap H locs) (hA : ∀ q : Nat, s.heap.size ≤ q → A q) (is : List Nat) (hC : is.map (fun i => bs[i]?) = bc.map some) (hnc : va_nd is = true) (hlen : is.length = bc1.length) (hwc : bc.flatten = wc) (hwc1 : bc1.flatten = wc1) (hq : wc[0]? = some (b, .inr (ci, fs))) (hcl : classes[ci]? = some q) (hqc : q.1 = y.cls) (hn : As.length = n) (hsize : ls.size = nL) (hst : st0 = As.reverse ++ .ref b :: rest) (hW : (rest.map fun v => v.category).sum ≤ 8) (hdg : decode cc pc = .ok (.invokevirtual index, 3)) (hf : cells ≤ R.cells ∧ slots ≤ R.slots)
    (kk : ∀ (H1 : Heap) (locs1 : List Loc), va_P D classes (zset bs is bc1).flatten H1 → va_D A (zset bs is bc1).flatten → va_S A s.heap H1 locs1 → W p l e R s m args below meth c H1 locs1 cells slots Q (F0 m (pc + 3) ls (.int r :: rest))) : W p l e R s m args below meth c H locs cells slots Q (F0 m pc ls st0) := by
  obtain ⟨hPc, hDc⟩ := zsubB hP hD hC hnc
  subst hwc
  subst hwc1
  have hF : ∀ q, va_A bc.flatten H.size q → A q := fun q h => by
    rcases h with ⟨k, e, h⟩ | h
    · exact hDc.2 k _ h
    · exact hA q (Nat.le_trans hS.1 h)
  refine va_calli (zrunV S hT lk (hM H.size) hrm ⟨zblindN, by rw [← hqc]; exact va_recv hK hPc hcl hq, fun U hU hW0 => ⟨rfl, ⟨by rw [hU], by rw [hU]; exact hPc, va_K.moved hW0.alike hK, hDc.weaken (fun _ _ _ _ => trivial)⟩, znw_warm hW0 hN⟩⟩ hn hsize hst hW hdg hf) hS (fun q _ h => hF q h) hF (fun r' u t H1 locs1 ht hvm hw hB hz1 hk1 hS1 => ?_)
  subst hw
  obtain ⟨hP1, hD1⟩ := zjoinB ht hP hD hC hlen hk1 hF hB
  exact kk H1 locs1 hP1 hD1 hS1
end ZLV
/-! THE CLAIM OUT OF ONE WALK OF THE LAW'S BODY. Your part is whole_start (and what it stands on); all else here is the same for every law, but numbers. -/
def R_law : String := "SkipRopeLaw"
def lw_P (b : Addr) (xs : List Int32) (args : Array Value) (s : State) : Prop := args = #[.ref b] ∧ s.IntsAt b xs ∧ xs.length ≤ 2048 ∧ (Jvm.Cond.and given_1 narrow_1).before args s = true
def lw_Q (_ : Array Value) (s : State) (o : Outcome) (t : State) : Prop := o = .returned (some (.int 1)) ∧ Framed s o t [] 600000 7302250
def lw_Z (below : List Frame) (a : Array Value) (s : State) : State → Prop := fun t => ∃ o, t.status = .running ∧ Ended t below o ∧ lw_Q a s o t
/-- the law's own end, with 1 on the stack, nothing written that was there before, its room as the claim has it -/
theorem lw_ret {p : Program} {l : Launch} {e : Env} {s : State} {m : MethodId} {below : List Frame} {meth : Method} {c : Code} {b : Nat} (hx : p.tables.exec = Jvm.exec) (hb : c.code = code) (hr : meth.sig.returnType = ret) (hlocks : meth.locks = false) {pc : Nat} {H : Heap} {ls : Array Slot} (hdg : decode code pc = .ok (.ireturn, 1)) : W p l e room_1 s m #[Value.ref b] below meth c H [] 600000 7302250 (lw_Z below #[Value.ref b] s) (F0 m pc ls [.int 1]) := by
  intro T hT X
  obtain ⟨fs, hret, hrun, hended, hW, hframe⟩ := X.leave (v := some (.int 1)) (hlocks := hlocks) (fun h => by rw [hr] at h; cases h)
  have hmeth' : T.vm.method? m = some meth := X.method'
  refine ⟨T.setFrames fs, ?_, .returned (some (.int 1)), hrun, hended, rfl, ⟨_, rfl⟩, hW, hframe⟩
  jvm_step X.here [X.here.top, hx, hb, hdg, hmeth', hr, ret, narrow_b1]
  (try refine ⟨rfl, ?_⟩); (try refine ⟨rfl, ?_⟩)
  first | (intro acts; rw [hret _ acts rfl rfl rfl]) | rw [hret _ _ rfl rfl rfl]
  exact Steps.refl _
/-- what holds at the law's entry: the machine, the code, the tables' words (any of lw_tbl by 'hts w (by decide +kernel)'), the script of L ints xs at the cell b, what the Statement gives of the start (any of its parts by flat_of_before) -/
def lw_At (p : Program) (s : State) (m : MethodId) (meth : Method) (c : Code) (b L : Nat) (xs : Nat → Int32) : Prop :=
  p.tables.exec = Jvm.exec ∧ c.code = code ∧ meth.sig.returnType = ret ∧ c.maxLocals = 4 ∧ s.vm.findClass R_law = some m.cls ∧ (∀ w ∈ lw_tbl, w.before #[Value.ref b] s = true) ∧ va_X b L xs s s.heap ∧ b < s.heap.size ∧ meth.locks = false ∧ (Jvm.Cond.and given_1 narrow_1).before #[Value.ref b] s = true
abbrev LW (cI cZ cS cJ : ClassId) (ad : Nat → Nat) (xc xd : Nat) (x_asked : Int64) (t_length : Int32) (t_items : Int32) (t_place : Int32) (t_start : Int32) (t_token : Int32) (t_value : Int32) (t_letters : Nat → Int32) (t_parts : Nat → Int32) (c_every : Int32) (c_size : Int32) (c_period : Nat → Int32) (c_hang : Nat → Int32) (c_start : Nat → Int32) (c_wind : Nat → Int32) (d_every : Int32) (d_size : Int32) (d_period : Nat → Int32) (d_hang : Nat → Int32) (d_start : Nat → Int32) (d_wind : Nat → Int32) (s_tick : Int32) (s_every : Int32) (s_round : Int32) (s_inside : Int32) (s_up : Nat → Int32) (s_due : Nat → Int32) (s_wind : Nat → Int32) (u_tick : Int32) (u_every : Int32) (u_round : Int32) (u_inside : Int32) (u_up : Nat → Int32) (u_due : Nat → Int32) (u_wind : Nat → Int32) (q_next : Int32) (q_size : Int32) (q_tick : Nat → Int32) (q_every : Nat → Int32) (q_round : Nat → Int32) (q_inside : Nat → Int32) (q_up : Nat → Nat → Int32) (q_due : Nat → Nat → Int32) (q_wind : Nat → Nat → Int32) (j_tick : Nat → Int32) (j_every : Nat → Int32) (j_round : Nat → Int32) (j_inside : Nat → Int32) (j_up : Nat → Nat → Int32) (j_due : Nat → Nat → Int32) (j_wind : Nat → Nat → Int32) (k_ : Nat → Int32) (w_size : Int32) (w_found : Int32) (w_hangs : Nat → Int32) (w_ticksSeen : Nat → Int32) (w_ups : Nat → Int32) (w_periods : Nat → Int32) (w_starts : Nat → Int32) (m_length : Int32) (m_jumpers : Int32) (m_undos : Int32) (m_seen : Int32) (m_trail : Int64) (m_place : Int32) (m_wrong : Int32) (m_items : Int32) (m_saidEvery : Int32) (m_readEvery : Int32) (m_readJumpers : Int32) (m_letters : Nat → Int32) (m_period : Nat → Int32) (m_hang : Nat → Int32) (m_st : Nat → Int32) (m_now : Nat → Int32) (m_book : Nat → Int32) (m_images : Nat → Int32) (m_isKept : Nat → Int32) (m_seenHang : Nat → Int32) (m_seenTick : Nat → Int32) (m_seenUp : Nat → Int32) (m_readOne : Nat → Int32) : List va_W := [[((ad 0), .inr (11, [.ref (ad 1), .ref xc, .ref xd, .ref (ad 14), .ref (ad 18), .ref (ad 22), .ref (ad 64), .ref (ad 73), .ref (ad 74), .ref (ad 80), .long x_asked]))], [((ad 1), .inr (10, [.ref (ad 2), .ref (ad 3), .int t_length, .int t_items, .int t_place, .int t_start, .int t_token, .int t_value]))], [((ad 2), .inl (cI, 120, .inl t_letters))], [((ad 3), .inl (cI, 4, .inl t_parts))], [((ad 4), .inr (1, [.int c_every, .int c_size, .ref (ad 5), .ref (ad 6), .ref (ad 7), .ref (ad 8)]))], [((ad 5), .inl (cI, 6, .inl c_period))], [((ad 6), .inl (cI, 6, .inl c_hang))], [((ad 7), .inl (cI, 6, .inl c_start))], [((ad 8), .inl (cI, 6, .inl c_wind))], [((ad 9), .inr (1, [.int d_every, .int d_size, .ref (ad 10), .ref (ad 11), .ref (ad 12), .ref (ad 13)]))], [((ad 10), .inl (cI, 6, .inl d_period))], [((ad 11), .inl (cI, 6, .inl d_hang))], [((ad 12), .inl (cI, 6, .inl d_start))], [((ad 13), .inl (cI, 6, .inl d_wind))], [((ad 14), .inr (8, [.int s_tick, .int s_every, .int s_round, .int s_inside, .ref (ad 15), .ref (ad 16), .ref (ad 17)]))], [((ad 15), .inl (cI, 6, .inl s_up))], [((ad 16), .inl (cI, 6, .inl s_due))], [((ad 17), .inl (cI, 6, .inl s_wind))], [((ad 18), .inr (8, [.int u_tick, .int u_every, .int u_round, .int u_inside, .ref (ad 19), .ref (ad 20), .ref (ad 21)]))], [((ad 19), .inl (cI, 6, .inl u_up))], [((ad 20), .inl (cI, 6, .inl u_due))], [((ad 21), .inl (cI, 6, .inl u_wind))], [((ad 22), .inr (6, [.ref (ad 23), .int q_next, .int q_size]))], [((ad 23), .inl (cS, 10, .inr (.inr (.inr (.inr (fun j => ([(ad 24), (ad 28), (ad 32), (ad 36), (ad 40), (ad 44), (ad 48), (ad 52), (ad 56), (ad 60)] : List Nat)[j]?))))))], [((ad 24), .inr (8, [.int (q_tick 0), .int (q_every 0), .int (q_round 0), .int (q_inside 0), .ref (ad 25), .ref (ad 26), .ref (ad 27)])), ((ad 25), .inl (cI, 6, .inl (q_up 0))), ((ad 26), .inl (cI, 6, .inl (q_due 0))), ((ad 27), .inl (cI, 6, .inl (q_wind 0))), ((ad 28), .inr (8, [.int (q_tick 1), .int (q_every 1), .int (q_round 1), .int (q_inside 1), .ref (ad 29), .ref (ad 30), .ref (ad 31)])), ((ad 29), .inl (cI, 6, .inl (q_up 1))), ((ad 30), .inl (cI, 6, .inl (q_due 1))), ((ad 31), .inl (cI, 6, .inl (q_wind 1))), ((ad 32), .inr (8, [.int (q_tick 2), .int (q_every 2), .int (q_round 2), .int (q_inside 2), .ref (ad 33), .ref (ad 34), .ref (ad 35)])), ((ad 33), .inl (cI, 6, .inl (q_up 2))), ((ad 34), .inl (cI, 6, .inl (q_due 2))), ((ad 35), .inl (cI, 6, .inl (q_wind 2))), ((ad 36), .inr (8, [.int (q_tick 3), .int (q_every 3), .int (q_round 3), .int (q_inside 3), .ref (ad 37), .ref (ad 38), .ref (ad 39)])), ((ad 37), .inl (cI, 6, .inl (q_up 3))), ((ad 38), .inl (cI, 6, .inl (q_due 3))), ((ad 39), .inl (cI, 6, .inl (q_wind 3))), ((ad 40), .inr (8, [.int (q_tick 4), .int (q_every 4), .int (q_round 4), .int (q_inside 4), .ref (ad 41), .ref (ad 42), .ref (ad 43)])), ((ad 41), .inl (cI, 6, .inl (q_up 4))), ((ad 42), .inl (cI, 6, .inl (q_due 4))), ((ad 43), .inl (cI, 6, .inl (q_wind 4))), ((ad 44), .inr (8, [.int (q_tick 5), .int (q_every 5), .int (q_round 5), .int (q_inside 5), .ref (ad 45), .ref (ad 46), .ref (ad 47)])), ((ad 45), .inl (cI, 6, .inl (q_up 5))), ((ad 46), .inl (cI, 6, .inl (q_due 5))), ((ad 47), .inl (cI, 6, .inl (q_wind 5))), ((ad 48), .inr (8, [.int (q_tick 6), .int (q_every 6), .int (q_round 6), .int (q_inside 6), .ref (ad 49), .ref (ad 50), .ref (ad 51)])), ((ad 49), .inl (cI, 6, .inl (q_up 6))), ((ad 50), .inl (cI, 6, .inl (q_due 6))), ((ad 51), .inl (cI, 6, .inl (q_wind 6))), ((ad 52), .inr (8, [.int (q_tick 7), .int (q_every 7), .int (q_round 7), .int (q_inside 7), .ref (ad 53), .ref (ad 54), .ref (ad 55)])), ((ad 53), .inl (cI, 6, .inl (q_up 7))), ((ad 54), .inl (cI, 6, .inl (q_due 7))), ((ad 55), .inl (cI, 6, .inl (q_wind 7))), ((ad 56), .inr (8, [.int (q_tick 8), .int (q_every 8), .int (q_round 8), .int (q_inside 8), .ref (ad 57), .ref (ad 58), .ref (ad 59)])), ((ad 57), .inl (cI, 6, .inl (q_up 8))), ((ad 58), .inl (cI, 6, .inl (q_due 8))), ((ad 59), .inl (cI, 6, .inl (q_wind 8))), ((ad 60), .inr (8, [.int (q_tick 9), .int (q_every 9), .int (q_round 9), .int (q_inside 9), .ref (ad 61), .ref (ad 62), .ref (ad 63)])), ((ad 61), .inl (cI, 6, .inl (q_up 9))), ((ad 62), .inl (cI, 6, .inl (q_due 9))), ((ad 63), .inl (cI, 6, .inl (q_wind 9)))], [((ad 64), .inl (cS, 2, .inr (.inr (.inr (.inr (fun j => ([(ad 65), (ad 69)] : List Nat)[j]?))))))], [((ad 65), .inr (8, [.int (j_tick 0), .int (j_every 0), .int (j_round 0), .int (j_inside 0), .ref (ad 66), .ref (ad 67), .ref (ad 68)])), ((ad 66), .inl (cI, 6, .inl (j_up 0))), ((ad 67), .inl (cI, 6, .inl (j_due 0))), ((ad 68), .inl (cI, 6, .inl (j_wind 0))), ((ad 69), .inr (8, [.int (j_tick 1), .int (j_every 1), .int (j_round 1), .int (j_inside 1), .ref (ad 70), .ref (ad 71), .ref (ad 72)])), ((ad 70), .inl (cI, 6, .inl (j_up 1))), ((ad 71), .inl (cI, 6, .inl (j_due 1))), ((ad 72), .inl (cI, 6, .inl (j_wind 1)))], [((ad 73), .inl (cZ, 2, .inl k_))], [((ad 74), .inr (9, [.int w_size, .ref (ad 75), .ref (ad 76), .ref (ad 77), .int w_found, .ref (ad 78), .ref (ad 79)]))], [((ad 75), .inl (cI, 6, .inl w_hangs))], [((ad 76), .inl (cI, 6, .inl w_ticksSeen))], [((ad 77), .inl (cZ, 6, .inl w_ups))], [((ad 78), .inl (cI, 132, .inl w_periods))], [((ad 79), .inl (cI, 132, .inl w_starts))], [((ad 80), .inl (cJ, 6, .inr (.inr (.inr (.inr (fun j => ([(ad 81), (ad 82), (ad 83), (ad 84), (ad 85), (ad 86)] : List Nat)[j]?))))))], [((ad 81), .inr (5, [])), ((ad 82), .inr (0, [])), ((ad 83), .inr (4, [])), ((ad 84), .inr (2, [])), ((ad 85), .inr (7, [])), ((ad 86), .inr (3, []))], [((ad 87), .inr (12, [.ref (ad 88), .int m_length, .int m_jumpers, .ref (ad 89), .ref (ad 90), .ref (ad 91), .ref (ad 92), .ref (ad 93), .int m_undos, .ref (ad 94), .ref (ad 95), .int m_seen, .ref (ad 96), .ref (ad 97), .ref (ad 98), .long m_trail, .int m_place, .int m_wrong, .int m_items, .int m_saidEvery, .int m_readEvery, .int m_readJumpers, .ref (ad 99)]))], [((ad 88), .inl (cI, 120, .inl m_letters))], [((ad 89), .inl (cI, 6, .inl m_period))], [((ad 90), .inl (cI, 6, .inl m_hang))], [((ad 91), .inl (cI, 22, .inl m_st))], [((ad 92), .inl (cI, 22, .inl m_now))], [((ad 93), .inl (cI, 220, .inl m_book))], [((ad 94), .inl (cI, 44, .inl m_images))], [((ad 95), .inl (cZ, 2, .inl m_isKept))], [((ad 96), .inl (cI, 6, .inl m_seenHang))], [((ad 97), .inl (cI, 6, .inl m_seenTick))], [((ad 98), .inl (cI, 6, .inl m_seenUp))], [((ad 99), .inl (cI, 24, .inl m_readOne))]]
