set_option maxRecDepth 1000000 in
theorem qa_look : ∀ j, j < 5 → (zr1 (F_X11_look 0 0 (fun _ => 0) (fun _ => 0) (fun _ => 0) (fun _ => 0) (fun _ => 0) (nI j))).isSome = true ∧ zr1 (F_X11_look 0 0 (fun _ => 0) (fun _ => 0) (fun _ => 0) (fun _ => 0) (fun _ => 0) (nI j)) = (F_X12_look 0 (fun _ => 0) (fun _ => 0) (fun _ => 0) (nI j)) := by decide +kernel
theorem qf_look (p1 : Int32) : ∃ r, zr1 (F_X11_look 0 0 (fun _ => 0) (fun _ => 0) (fun _ => 0) (fun _ => 0) (fun _ => 0) p1) = some r ∧ (F_X12_look 0 (fun _ => 0) (fun _ => 0) (fun _ => 0) p1) = some r := by
  by_cases h1 : p1 < 1
  · exact ⟨-1, by simp [F_X11_look, F_X11_isNoHang, zb1, zr1, h1], by simp [F_X12_look, F_X12_in, zb1, h1]⟩
  by_cases h2 : 4 < p1
  · exact ⟨-1, by simp [F_X11_look, F_X11_isNoHang, zb1, zr1, h1, h2, Int32.not_le.mpr h2], by simp [F_X12_look, F_X12_in, zb1, h1, h2]⟩
  obtain ⟨j, hj, rfl⟩ := nI_of2 (M := 4) (n := 4) rfl (fun h => h1 (Int32.lt_trans h (by decide))) (Int32.not_lt.mp h2)
  have hw := qa_look j (by omega)
  obtain ⟨r, hr⟩ := Option.isSome_iff_exists.mp hw.1
  exact ⟨r, hr, by rw [← hw.2]; exact hr⟩
