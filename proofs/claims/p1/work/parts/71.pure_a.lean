abbrev zst : Nat → Int32 := upd (upd (fun _ => 0) (1 : Int32).toNatClampNeg 4) (2 : Int32).toNatClampNeg 4
def zr1 {α : Type} (o : Option (Int32 × α)) : Option Int32 := o.map (fun x => x.1)
theorem zr1_s {α : Type} {o : Option (Int32 × α)} {r : Int32} (h : zr1 o = some r) : ∃ a, o = some (r, a) := by
  cases o with
  | none => cases h
  | some x => cases h; exact ⟨x.2, rfl⟩
theorem zr1_e {α β : Type} {o : Option (Int32 × α)} {o' : Option (Int32 × β)} (h : (zr1 o).isSome = true ∧ zr1 o = zr1 o') : ∃ r, zr1 o = some r ∧ zr1 o' = some r := by
  obtain ⟨r, hr⟩ := Option.isSome_iff_exists.mp h.1
  exact ⟨r, hr, by rw [← h.2]; exact hr⟩
theorem zneg {p : Int32} (h : ¬ p < 0) : (0 - 1 : Int32) < p := by
  have h1 := Int32.not_lt.mp h
  rw [Int32.le_iff_toInt_le] at h1
  rw [Int32.lt_iff_toInt_lt]
  have e0 : (0 : Int32).toInt = 0 := rfl
  have e1 : (0 - 1 : Int32).toInt = -1 := rfl
  omega
theorem znob (p : Int32) : F_X11_isNobody 0 p = some 1 := by
  by_cases h : p < 0 <;> simp [F_X11_isNobody, h]
theorem znoj (p : Int32) : F_X12_isJumper 0 p = some 0 := by
  by_cases h : p < 0
  · simp [F_X12_isJumper, F_X12_in, zb1, h]
  · simp [F_X12_isJumper, F_X12_in, zb1, h, show (-1 : Int32) < p from zneg h]

theorem qf_type (p1 : Int32) : ∃ r, zr1 (F_X11_type 0 (fun _ => 0) p1) = some r ∧ zr1 (F_X12_type 0 (fun _ => 0) p1) = some r := by
  by_cases h1 : p1 < 0
  · exact ⟨-1, by simp [F_X11_type, zr1, h1], by simp [F_X12_type, F_X12_in, zb1, zr1, h1]⟩
  · by_cases h2 : 255 < p1
    · exact ⟨-1, by simp [F_X11_type, zr1, h1, Int32.not_le.mpr h2], by simp [F_X12_type, F_X12_in, zb1, zr1, h1, h2]⟩
    · refine ⟨1, ?_, ?_⟩
      · simp [F_X11_type, zr1, h1, Int32.not_lt.mp h2]
      · simp [F_X12_type, F_X12_in, zb1, zr1, h1, h2]
theorem qf_clear : ∃ r, zr1 (F_X11_clear 0) = some r ∧ zr1 (F_X12_clear 0) = some r := by
  exact ⟨0, rfl, rfl⟩
theorem qf_yard (c d : Nat) : ∃ r, zr1 (F_X11_yard 0 0 0 0 (fun _ => 0) (fun _ => 0) (fun _ => 0) (fun _ => 0) (fun _ => 0) (fun _ => 0) 0 4 4 0 (fun _ => 0) (fun _ => 0) (fun _ => 0) 0 0 (fun _ => 0) c d) = some r ∧ zr1 (F_X12_yard 0 0 0 0 (fun _ => 0) (fun _ => 0) (fun _ => 0) zst (fun _ => 0) (fun _ => 0)) = some r := by
  exact ⟨0, rfl, by decide +kernel⟩
theorem qf_jumper (p1 : Int32) (p2 : Int32) : ∃ r, zr1 (F_X11_jumper 0 4 4 0 (fun _ => 0) (fun _ => 0) (fun _ => 0) 0 0 0 0 (fun _ => 0) (fun _ => 0) (fun _ => 0) 0 (fun _ => 0) (fun _ => 0) p1 p2) = some r ∧ zr1 (F_X12_jumper 0 (fun _ => 0) (fun _ => 0) zst (fun _ => 0) p1 p2) = some r := by
  refine ⟨-1, ?_, ?_⟩
  · unfold F_X11_jumper
    rw [znob]
    rfl
  · unfold F_X12_jumper
    rw [znoj]
    rfl
theorem qf_now (p1 : Int32) : ∃ r, zr1 (F_X11_now 0 4 4 0 (fun _ => 0) (fun _ => 0) (fun _ => 0) 0 0 0 0 (fun _ => 0) (fun _ => 0) (fun _ => 0) 0 (fun _ => 0) (fun _ => 0) 0 p1) = some r ∧ zr1 (F_X12_now 0 0 (fun _ => 0) (fun _ => 0) zst (fun _ => 0) p1) = some r := by
  by_cases h0 : p1 = 0
  · subst h0
    exact zr1_e (by decide +kernel)
  by_cases h1 : p1 = 1
  · subst h1
    exact zr1_e (by decide +kernel)
  by_cases h2 : p1 = 2
  · subst h2
    exact zr1_e (by decide +kernel)
  by_cases h3 : p1 = 3
  · subst h3
    exact zr1_e (by decide +kernel)
  by_cases h4 : p1 = 4
  · subst h4
    exact zr1_e (by decide +kernel)
  by_cases h5 : p1 = 5
  · subst h5
    exact zr1_e (by decide +kernel)
  by_cases h6 : p1 = 6
  · subst h6
    exact zr1_e (by decide +kernel)
  exact ⟨-1, by simp [F_X11_now, zr1, h0, h1, h2, h3, h4, h5, h6], by simp [F_X12_now, zr1, h0, h1, h2, h3, h4, h5, h6]⟩
theorem qf_ticks : ∃ r, zr1 (F_X11_ticks 0 4 4 0 (fun _ => 0) (fun _ => 0) (fun _ => 0) 0 0 (fun _ => 0) (fun _ => 0) (fun _ => 0) (fun _ => 0) (fun _ _ => 0) (fun _ _ => 0) (fun _ _ => 0) 0 (fun _ => 0) (fun _ => 0)) = some r ∧ zr1 (F_X12_ticks 0 0 (fun _ => 0) (fun _ => 0) zst (fun _ => 0)) = some r := by
  exact zr1_e (by decide +kernel)
set_option maxRecDepth 100000 in
theorem qa_speeds : ∀ j, j < 10 → (zr1 (F_X11_speeds 0 4 4 0 (fun _ => 0) (fun _ => 0) (fun _ => 0) 0 0 (fun _ => 0) (fun _ => 0) (fun _ => 0) (fun _ => 0) (fun _ _ => 0) (fun _ _ => 0) (fun _ _ => 0) (nI j))).isSome = true ∧ zr1 (F_X11_speeds 0 4 4 0 (fun _ => 0) (fun _ => 0) (fun _ => 0) 0 0 (fun _ => 0) (fun _ => 0) (fun _ => 0) (fun _ => 0) (fun _ _ => 0) (fun _ _ => 0) (fun _ _ => 0) (nI j)) = zr1 (F_X12_speeds 0 zst (fun _ => 0) (nI j)) := by decide +kernel
theorem qf_speeds (p1 : Int32) : ∃ r, zr1 (F_X11_speeds 0 4 4 0 (fun _ => 0) (fun _ => 0) (fun _ => 0) 0 0 (fun _ => 0) (fun _ => 0) (fun _ => 0) (fun _ => 0) (fun _ _ => 0) (fun _ _ => 0) (fun _ _ => 0) p1) = some r ∧ zr1 (F_X12_speeds 0 zst (fun _ => 0) p1) = some r := by
  by_cases h1 : p1 < 2
  · exact ⟨-1, by simp [F_X11_speeds, zr1, h1], by simp [F_X12_speeds, F_X12_in, zb1, zr1, h1]⟩
  · by_cases h2 : 9 < p1
    · exact ⟨-1, by simp [F_X11_speeds, zr1, h1, Int32.not_le.mpr h2], by simp [F_X12_speeds, F_X12_in, zb1, zr1, h1, h2]⟩
    · obtain ⟨j, hj, rfl⟩ := nI_of2 (M := 9) (n := 9) rfl (fun h => h1 (Int32.lt_trans h (by decide))) (Int32.not_lt.mp h2)
      exact zr1_e (qa_speeds j (by omega))
theorem qf_goes (p1 : Int32) : ∃ r, zr1 (F_X11_goes 0 4 4 0 (fun _ => 0) (fun _ => 0) (fun _ => 0) 0 0 (fun _ => 0) (fun _ => 0) (fun _ => 0) (fun _ => 0) (fun _ _ => 0) (fun _ _ => 0) (fun _ _ => 0) 0 p1) = some r ∧ zr1 (F_X12_goes 0 0 zst (fun _ => 0) p1) = some r := by
  refine ⟨-1, ?_, ?_⟩
  · unfold F_X11_goes
    rw [znob]
    rfl
  · unfold F_X12_goes
    rw [znoj]
    rfl
theorem qf_comes (p1 : Int32) (p2 : Int32) : ∃ r, zr1 (F_X11_comes 0 4 4 0 (fun _ => 0) (fun _ => 0) (fun _ => 0) 0 0 (fun _ => 0) (fun _ => 0) (fun _ => 0) (fun _ => 0) (fun _ _ => 0) (fun _ _ => 0) (fun _ _ => 0) 0 p1 p2) = some r ∧ zr1 (F_X12_comes 0 0 zst (fun _ => 0) p1 p2) = some r := by
  refine ⟨-1, ?_, ?_⟩
  · unfold F_X11_comes
    rw [znob]
    rfl
  · unfold F_X12_comes
    rw [znoj]
    rfl
theorem qf_undo : ∃ r, zr1 (F_X11_undo 0 4 4 0 (fun _ => 0) (fun _ => 0) (fun _ => 0) 0 0 (fun _ => 0) (fun _ => 0) (fun _ => 0) (fun _ => 0) (fun _ _ => 0) (fun _ _ => 0) (fun _ _ => 0)) = some r ∧ zr1 (F_X12_undo 0 zst (fun _ => 0)) = some r := by
  exact zr1_e (by decide +kernel)
theorem qf_entry (p1 : Int32) : ∃ r, zr1 (F_X11_entry 0 4 4 0 (fun _ => 0) (fun _ => 0) (fun _ => 0) 0 0 0 0 (fun _ => 0) (fun _ => 0) (fun _ => 0) 0 (fun _ => 0) (fun _ => 0) p1) = some r ∧ zr1 (F_X12_entry 0 (fun _ => 0) (fun _ => 0) zst (fun _ => 0) p1) = some r := by
  refine ⟨-1, ?_, ?_⟩
  · unfold F_X11_entry
    rw [znob]
    rfl
  · unfold F_X12_entry
    rw [znoj]
    rfl
theorem qf_sees (p1 : Int32) (p2 : Int32) (p3 : Int32) : ∃ r, zr1 (F_X11_sees 0 (fun _ => 0) (fun _ => 0) (fun _ => 0) p1 p2 p3) = some r ∧ zr1 (F_X12_sees 0 (fun _ => 0) (fun _ => 0) (fun _ => 0) p1 p2 p3) = some r := by
  by_cases a1 : p1 < 1
  · exact ⟨-1, by simp [F_X11_sees, F_X11_isNoHang, zb1, zr1, a1], by simp [F_X12_sees, F_X12_in, zb1, zr1, a1]⟩
  by_cases a2 : 4 < p1
  · exact ⟨-1, by simp [F_X11_sees, F_X11_isNoHang, zb1, zr1, a1, a2, Int32.not_le.mpr a2], by simp [F_X12_sees, F_X12_in, zb1, zr1, a1, a2]⟩
  by_cases b1 : p2 < 0
  · exact ⟨-1, by simp [F_X11_sees, F_X11_isNoHang, zb1, zr1, a1, a2, Int32.not_lt.mp a2, b1], by simp [F_X12_sees, F_X12_in, zb1, zr1, a1, a2, b1]⟩
  by_cases b2 : 40 < p2
  · exact ⟨-1, by simp [F_X11_sees, F_X11_isNoHang, zb1, zr1, a1, a2, Int32.not_lt.mp a2, b1, b2, Int32.not_le.mpr b2], by simp [F_X12_sees, F_X12_in, zb1, zr1, a1, a2, b1, b2]⟩
  by_cases d1 : p3 < 0
  · exact ⟨-1, by simp [F_X11_sees, F_X11_isNoHang, zb1, zr1, a1, a2, Int32.not_lt.mp a2, b1, b2, Int32.not_lt.mp b2, d1], by simp [F_X12_sees, F_X12_in, zb1, zr1, a1, a2, b1, b2, d1]⟩
  by_cases d2 : 1 < p3
  · exact ⟨-1, by simp [F_X11_sees, F_X11_isNoHang, zb1, zr1, a1, a2, Int32.not_lt.mp a2, b1, b2, Int32.not_lt.mp b2, d1, d2, Int32.not_le.mpr d2], by simp [F_X12_sees, F_X12_in, zb1, zr1, a1, a2, b1, b2, d1, d2]⟩
  refine ⟨1, ?_, ?_⟩
  · by_cases e1 : p3 = 1 <;> simp [F_X11_sees, F_X11_isNoHang, F_X9_add, zb1, zb4, zr1, a1, a2, Int32.not_lt.mp a2, b1, b2, Int32.not_lt.mp b2, d1, d2, Int32.not_lt.mp d2, e1]
  · simp [F_X12_sees, F_X12_in, zb1, zr1, a1, a2, b1, b2, d1, d2]
theorem qf_forget : ∃ r, zr1 (F_X11_forget 0) = some r ∧ zr1 (F_X12_forget 0) = some r := by
  exact ⟨0, rfl, rfl⟩
set_option maxRecDepth 100000 in
theorem qa_ways : ∀ j, j < 2 → (zr1 (F_X11_ways 0 0 (fun _ => 0) (fun _ => 0) (fun _ => 0) (fun _ => 0) (fun _ => 0) (nI j))).isSome = true ∧ zr1 (F_X11_ways 0 0 (fun _ => 0) (fun _ => 0) (fun _ => 0) (fun _ => 0) (fun _ => 0) (nI j)) = (F_X12_ways 0 (fun _ => 0) (fun _ => 0) (fun _ => 0) (nI j)) := by decide +kernel
theorem qf_ways (p1 : Int32) : ∃ r, zr1 (F_X11_ways 0 0 (fun _ => 0) (fun _ => 0) (fun _ => 0) (fun _ => 0) (fun _ => 0) p1) = some r ∧ (F_X12_ways 0 (fun _ => 0) (fun _ => 0) (fun _ => 0) p1) = some r := by
  by_cases h1 : p1 < 0
  · exact ⟨-1, by simp [F_X11_ways, zr1, h1], by simp [F_X12_ways, F_X12_in, zb1, zr1, h1]⟩
  · by_cases h2 : 1 < p1
    · exact ⟨-1, by simp [F_X11_ways, zr1, h1, Int32.not_le.mpr h2], by simp [F_X12_ways, F_X12_in, zb1, zr1, h1, h2]⟩
    · obtain ⟨j, hj, rfl⟩ := nI_of2 (M := 1) (n := 1) rfl h1 (Int32.not_lt.mp h2)
      have hw := qa_ways j (by omega)
      obtain ⟨r, hr⟩ := Option.isSome_iff_exists.mp hw.1
      exact ⟨r, hr, by rw [← hw.2]; exact hr⟩
theorem qf_rate (p1 : Int32) (p2 : Int32) : ∃ r, zr1 (F_X11_rate 0 0 4 (fun _ => 0) 0 (fun _ => 0) p1 p2) = some r ∧ zr1 (F_X12_rate 0 0 (fun _ => 0) zst p1 p2) = some r := by
  by_cases a1 : p1 < 0
  · exact ⟨-1000000, by simp [F_X11_rate, zr1, a1], by simp [F_X12_rate, F_X12_in, zb1, zr1, a1]⟩
  by_cases a2 : 6 ≤ p1
  · refine ⟨-1000000, by simp [F_X11_rate, zr1, a1, a2], ?_⟩
    have a3 : 5 < p1 := Int32.lt_of_lt_of_le (by decide) a2
    simp [F_X12_rate, F_X12_in, zb1, zr1, a1, a3]
  refine ⟨-1000000, ?_, ?_⟩
  · simp [F_X11_rate, znob, zb1, zr1, a1, a2]
  · have a3 : ¬ 5 < p1 := fun h => a2 (by
      rw [Int32.lt_iff_toInt_lt] at h
      rw [Int32.le_iff_toInt_le]
      have e0 : (5 : Int32).toInt = 5 := rfl
      have e1 : (6 : Int32).toInt = 6 := rfl
      omega)
    simp [F_X12_rate, F_X12_in, znoj, zb1, zr1, a1, a3]
set_option maxRecDepth 100000 in
theorem qa_keep : ∀ j, j < 2 → (zr1 (F_X11_keep 0 4 4 0 (fun _ => 0) (fun _ => 0) (fun _ => 0) (fun _ => 0) (fun _ => 0) (fun _ => 0) (fun _ => 0) (fun _ _ => 0) (fun _ _ => 0) (fun _ _ => 0) (fun _ => 0) (nI j))).isSome = true ∧ zr1 (F_X11_keep 0 4 4 0 (fun _ => 0) (fun _ => 0) (fun _ => 0) (fun _ => 0) (fun _ => 0) (fun _ => 0) (fun _ => 0) (fun _ _ => 0) (fun _ _ => 0) (fun _ _ => 0) (fun _ => 0) (nI j)) = zr1 (F_X12_keep zst (fun _ => 0) (fun _ => 0) (nI j)) := by decide +kernel
theorem qf_keep (p1 : Int32) : ∃ r, zr1 (F_X11_keep 0 4 4 0 (fun _ => 0) (fun _ => 0) (fun _ => 0) (fun _ => 0) (fun _ => 0) (fun _ => 0) (fun _ => 0) (fun _ _ => 0) (fun _ _ => 0) (fun _ _ => 0) (fun _ => 0) p1) = some r ∧ zr1 (F_X12_keep zst (fun _ => 0) (fun _ => 0) p1) = some r := by
  by_cases h1 : p1 < 0
  · exact ⟨-1, by simp [F_X11_keep, F_X11_isNoImage, zb1, zr1, h1], by simp [F_X12_keep, F_X12_in, zb1, zr1, h1]⟩
  · by_cases h2 : 1 < p1
    · have h3 : 2 ≤ p1 := by
        rw [Int32.lt_iff_toInt_lt] at h2
        rw [Int32.le_iff_toInt_le]
        have e0 : (1 : Int32).toInt = 1 := rfl
        have e1 : (2 : Int32).toInt = 2 := rfl
        omega
      exact ⟨-1, by simp [F_X11_keep, F_X11_isNoImage, zb1, zr1, h1, h3], by simp [F_X12_keep, F_X12_in, zb1, zr1, h1, h2]⟩
    · obtain ⟨j, hj, rfl⟩ := nI_of2 (M := 1) (n := 1) rfl h1 (Int32.not_lt.mp h2)
      exact zr1_e (qa_keep j (by omega))
set_option maxRecDepth 100000 in
theorem qa_back : ∀ j, j < 2 → (zr1 (F_X11_back 0 4 4 0 (fun _ => 0) (fun _ => 0) (fun _ => 0) (fun _ => 0) (fun _ => 0) (fun _ => 0) (fun _ => 0) (fun _ _ => 0) (fun _ _ => 0) (fun _ _ => 0) (fun _ => 0) 0 (nI j))).isSome = true ∧ zr1 (F_X11_back 0 4 4 0 (fun _ => 0) (fun _ => 0) (fun _ => 0) (fun _ => 0) (fun _ => 0) (fun _ => 0) (fun _ => 0) (fun _ _ => 0) (fun _ _ => 0) (fun _ _ => 0) (fun _ => 0) 0 (nI j)) = zr1 (F_X12_back 0 zst (fun _ => 0) (fun _ => 0) (nI j)) := by decide +kernel
theorem qf_back (p1 : Int32) : ∃ r, zr1 (F_X11_back 0 4 4 0 (fun _ => 0) (fun _ => 0) (fun _ => 0) (fun _ => 0) (fun _ => 0) (fun _ => 0) (fun _ => 0) (fun _ _ => 0) (fun _ _ => 0) (fun _ _ => 0) (fun _ => 0) 0 p1) = some r ∧ zr1 (F_X12_back 0 zst (fun _ => 0) (fun _ => 0) p1) = some r := by
  by_cases h1 : p1 < 0
  · exact ⟨-1, by simp [F_X11_back, F_X11_isNoImage, zb1, zr1, h1], by simp [F_X12_back, F_X12_in, zb1, zr1, h1]⟩
  · by_cases h2 : 1 < p1
    · have h3 : 2 ≤ p1 := by
        rw [Int32.lt_iff_toInt_lt] at h2
        rw [Int32.le_iff_toInt_le]
        have e0 : (1 : Int32).toInt = 1 := rfl
        have e1 : (2 : Int32).toInt = 2 := rfl
        omega
      exact ⟨-1, by simp [F_X11_back, F_X11_isNoImage, zb1, zr1, h1, h3], by simp [F_X12_back, F_X12_in, zb1, zr1, h1, h2]⟩
    · obtain ⟨j, hj, rfl⟩ := nI_of2 (M := 1) (n := 1) rfl h1 (Int32.not_lt.mp h2)
      exact zr1_e (qa_back j (by omega))
theorem qf_count (p1 : Int32) : ∃ r, (F_X11_count 0 0 0 p1) = some r ∧ (F_X12_count 0 0 0 p1) = some r := by
  by_cases h0 : p1 = 0
  · subst h0; exact ⟨0, by decide +kernel, by decide +kernel⟩
  by_cases h1 : p1 = 1
  · subst h1; exact ⟨0, by decide +kernel, by decide +kernel⟩
  by_cases h2 : p1 = 2
  · subst h2; exact ⟨0, by decide +kernel, by decide +kernel⟩
  exact ⟨-1, by simp [F_X11_count, h0, h1, h2], by simp [F_X12_count, h0, h1, h2]⟩
