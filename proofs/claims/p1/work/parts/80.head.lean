theorem law_exit {p : Program} {l : Launch} {e : Env} {s : State} {m : MethodId} {below : List Frame} {meth : Method} {c : Code} {b L : Nat} {xs : Nat → Int32} {am ax : Nat} (S : CallFix p m c code 4 s #[Value.ref b] lw_tbl RL) (hr : meth.sig.returnType = ret) (hlocks : meth.locks = false) (hX : va_X b L xs s s.heap) (hbl : b < s.heap.size) (hL : L ≤ 4) {H : Heap} {locs : List Loc} {ls : Array Slot} (hS : va_S (fun q : Nat => s.heap.size ≤ q) s.heap H locs) (hl : lv_has ls 4 [(3, .int 4), (2, .ref am), (1, .ref ax), (0, .ref b)]) : W p l e room_1 s m #[Value.ref b] below meth c H locs 100 1372 (lw_Z below #[Value.ref b] s) (F0 m 18 ls []) := by
  have hx := S.1
  have hb := S.2.1
  have hbA : ¬ (fun q : Nat => s.heap.size ≤ q) b := Nat.not_le.mpr hbl
  refine lv_iload_n hx hb dL_law_18 rfl (lv_at hl 0 rfl) ?_
  refine lv_aload_n hx hb dL_law_19 rfl (lv_at hl 3 rfl) ?_
  refine va_slen hx hb hX hbl hbA hS dL_law_20 ?_
  refine lv_iconst (v := 4) hx hb dL_law_21 (by decide) ?_
  refine lv_isub hx hb dL_law_22 ?_
  have hlt : Int32.ofNat L - 4 < 4 := by
    rcases (show L = 0 ∨ L = 1 ∨ L = 2 ∨ L = 3 ∨ L = 4 by omega) with rfl | rfl | rfl | rfl | rfl <;> decide
  refine lv_icmp_gt (tgt := 686) hx hb dL_law_23 (by decide) (fun _ => ?_) (fun c_ => absurd hlt c_)
  refine lv_iconst (v := 1) hx hb dL_law_686 (by decide) ?_
  refine va_forget (fun q hq => hS.2.2 q hq) ?_
  refine W.widen (k := 600000) (n := 7302250) (by omega) (by omega) ?_
  exact lw_ret hx hb hr hlocks dL_law_687
theorem law_tail {p : Program} {l : Launch} {e : Env} {s : State} {m : MethodId} {below : List Frame} {meth : Method} {c : Code} {b L : Nat} {xs : Nat → Int32} {am ax : Nat} (S : CallFix p m c code 4 s #[Value.ref b] lw_tbl RL) (hr : meth.sig.returnType = ret) (hlocks : meth.locks = false) (hX : va_X b L xs s s.heap) (hbl : b < s.heap.size) (hL : L ≤ 4) {H : Heap} {locs : List Loc} {ls : Array Slot} (hS : va_S (fun q : Nat => s.heap.size ≤ q) s.heap H locs) (hl : lv_has ls 4 [(3, .int 0), (2, .ref am), (1, .ref ax), (0, .ref b)]) : W p l e room_1 s m #[Value.ref b] below meth c H locs 100 1372 (lw_Z below #[Value.ref b] s) (F0 m 680 ls []) := by
  have hx := S.1
  have hb := S.2.1
  refine lv_iinc (v := 4) (lv' := [(3, .int 4), (2, .ref am), (1, .ref ax), (0, .ref b)]) hx hb dL_law_680 hl (k := 0) rfl (by rfl) (by decide) rfl (fun ls hl => ?_)
  refine lv_goto (tgt := 18) hx hb dL_law_683 (by decide) ?_
  exact law_exit S hr hlocks hX hbl hL hS hl
set_option maxHeartbeats 8000000 in
set_option maxRecDepth 100000 in
theorem law_head {p : Program} {l : Launch} {e : Env} {s : State} {m : MethodId} {below : List Frame} {meth : Method} {c : Code} {D : va_G} {cI cZ cS cJ : ClassId} {tl tm b L : Nat} {xs : Nat → Int32} {ad : Nat → Nat} (S : CallFix p m c code 4 s #[Value.ref b] lw_tbl RL) (hr : meth.sig.returnType = ret) (hlocks : meth.locks = false) (hX : va_X b L xs s s.heap) (hbl : b < s.heap.size) (hL : L ≤ 4) (hK : va_K D classes (TYS cI cZ cS cJ) s) (hSt : zStat tl tm (fun q : Nat => s.heap.size ≤ q) s) (hN : zNest s) {H : Heap} {locs : List Loc} {ls : Array Slot} (hP : va_P D classes (LW cI cZ cS cJ ad (ad 4) (ad 9) 0 0 0 0 0 0 0 (fun _ => 0) (fun _ => 0) 4 0 (fun _ => 0) (fun _ => 0) (fun _ => 0) (fun _ => 0) 4 0 (fun _ => 0) (fun _ => 0) (fun _ => 0) (fun _ => 0) 0 4 4 0 (fun _ => 0) (fun _ => 0) (fun _ => 0) 0 0 0 0 (fun _ => 0) (fun _ => 0) (fun _ => 0) 0 0 (fun _ => 0) (fun _ => 0) (fun _ => 0) (fun _ => 0) (fun _ _ => 0) (fun _ _ => 0) (fun _ _ => 0) (fun _ => 0) (fun _ => 0) (fun _ => 0) (fun _ => 0) (fun _ _ => 0) (fun _ _ => 0) (fun _ _ => 0) (fun _ => 0) 0 0 (fun _ => 0) (fun _ => 0) (fun _ => 0) (fun _ => 0) (fun _ => 0) 0 0 0 0 0 0 0 0 0 0 0 (fun _ => 0) (fun _ => 0) (fun _ => 0) zst (fun _ => 0) (fun _ => 0) (fun _ => 0) (fun _ => 0) (fun _ => 0) (fun _ => 0) (fun _ => 0) (fun _ => 0)).flatten H) (hD : va_D (fun q : Nat => s.heap.size ≤ q) (LW cI cZ cS cJ ad (ad 4) (ad 9) 0 0 0 0 0 0 0 (fun _ => 0) (fun _ => 0) 4 0 (fun _ => 0) (fun _ => 0) (fun _ => 0) (fun _ => 0) 4 0 (fun _ => 0) (fun _ => 0) (fun _ => 0) (fun _ => 0) 0 4 4 0 (fun _ => 0) (fun _ => 0) (fun _ => 0) 0 0 0 0 (fun _ => 0) (fun _ => 0) (fun _ => 0) 0 0 (fun _ => 0) (fun _ => 0) (fun _ => 0) (fun _ => 0) (fun _ _ => 0) (fun _ _ => 0) (fun _ _ => 0) (fun _ => 0) (fun _ => 0) (fun _ => 0) (fun _ => 0) (fun _ _ => 0) (fun _ _ => 0) (fun _ _ => 0) (fun _ => 0) 0 0 (fun _ => 0) (fun _ => 0) (fun _ => 0) (fun _ => 0) (fun _ => 0) 0 0 0 0 0 0 0 0 0 0 0 (fun _ => 0) (fun _ => 0) (fun _ => 0) zst (fun _ => 0) (fun _ => 0) (fun _ => 0) (fun _ => 0) (fun _ => 0) (fun _ => 0) (fun _ => 0) (fun _ => 0)).flatten) (hS : va_S (fun q : Nat => s.heap.size ≤ q) s.heap H locs) (hl : lv_has ls 4 [(3, .int 0), (2, .ref (ad 87)), (1, .ref (ad 0)), (0, .ref b)]) : W p l e room_1 s m #[Value.ref b] below meth c H locs 100 1372 (lw_Z below #[Value.ref b] s) (F0 m 18 ls []) := by
  have hx := S.1
  have hb := S.2.1
  have hbA : ¬ (fun q : Nat => s.heap.size ≤ q) b := Nat.not_le.mpr hbl
  refine lv_iload_n hx hb dL_law_18 rfl (lv_at hl 0 rfl) ?_
  refine lv_aload_n hx hb dL_law_19 rfl (lv_at hl 3 rfl) ?_
  refine va_slen hx hb hX hbl hbA hS dL_law_20 ?_
  refine lv_iconst (v := 4) hx hb dL_law_21 (by decide) ?_
  refine lv_isub hx hb dL_law_22 ?_
  refine lv_icmp_gt (tgt := 686) hx hb dL_law_23 (by decide) (fun _ => ?_) (fun hge => ?_)
  · refine lv_iconst (v := 1) hx hb dL_law_686 (by decide) ?_
    refine va_forget (fun q hq => hS.2.2 q hq) ?_
    refine W.widen (k := 600000) (n := 7302250) (by omega) (by omega) ?_
    exact lw_ret hx hb hr hlocks dL_law_687
  have hL4 : L = 4 := by
    rcases (show L = 0 ∨ L = 1 ∨ L = 2 ∨ L = 3 ∨ L = 4 by omega) with rfl | rfl | rfl | rfl | rfl
    · exact absurd (by decide) hge
    · exact absurd (by decide) hge
    · exact absurd (by decide) hge
    · exact absurd (by decide) hge
    · rfl
  subst hL4
  have hi0 : vp_in 0 4 := show ¬ ((0 : Int32) < 0 ∨ 4 ≤ (0 : Int32).toNatClampNeg) by decide
  have hi1 : vp_in (0 + 1) 4 := show ¬ ((0 + 1 : Int32) < 0 ∨ 4 ≤ (0 + 1 : Int32).toNatClampNeg) by decide
  have hi2 : vp_in (0 + 2) 4 := show ¬ ((0 + 2 : Int32) < 0 ∨ 4 ≤ (0 + 2 : Int32).toNatClampNeg) by decide
  have hi3 : vp_in (0 + 3) 4 := show ¬ ((0 + 3 : Int32) < 0 ∨ 4 ≤ (0 + 3 : Int32).toNatClampNeg) by decide
  refine lv_aload_n hx hb dL_law_26 rfl (lv_at hl 3 rfl) ?_
  refine lv_iload_n hx hb dL_law_27 rfl (lv_at hl 0 rfl) ?_
  refine va_sld hx hb hX hbl hbA hS hi0 dL_law_28 ?_
  refine lv_bipush (v := 31) hx hb dL_law_29 (by decide) ?_
  refine lv_iand hx hb dL_law_31 ?_
  generalize xs (0 : Int32).toNatClampNeg &&& 31 = x
  by_cases c_0 : x = 0
  · refine lv_tableIn (tgt := 140) hx hb dL_law_32 (by rw [c_0]; decide) (by rw [c_0]; decide) (by rw [c_0]; rfl) (by decide) ?_
    obtain ⟨r, h1, h2⟩ := qf_type (xs (0 + 1 : Int32).toNatClampNeg)
    obtain ⟨⟨h1_0, h1_1⟩, h1⟩ := zr1_s h1
    obtain ⟨⟨h2_0, h2_1⟩, h2⟩ := zr1_s h2
    exact lc_0 (v3 := 0) S hK hX hbl hSt hN hi1 h1 h2 rfl hP hD hS hl (fun H locs ls hP hD hS hl => law_tail S hr hlocks hX hbl hL hS hl)
  by_cases c_1 : x = 1
  · refine lv_tableIn (tgt := 163) hx hb dL_law_32 (by rw [c_1]; decide) (by rw [c_1]; decide) (by rw [c_1]; rfl) (by decide) ?_
    obtain ⟨r, h1, h2⟩ := qf_clear
    obtain ⟨h1_0, h1⟩ := zr1_s h1
    obtain ⟨h2_0, h2⟩ := zr1_s h2
    exact lc_1 (v3 := 0) S hK hX hbl hSt hN h1 h2 rfl hP hD hS hl (fun H locs ls hP hD hS hl => law_tail S hr hlocks hX hbl hL hS hl)
  by_cases c_2 : x = 2
  · refine lv_tableIn (tgt := 176) hx hb dL_law_32 (by rw [c_2]; decide) (by rw [c_2]; decide) (by rw [c_2]; rfl) (by decide) ?_
    obtain ⟨r, h1, h2⟩ := qf_yard (ad 4) (ad 9)
    obtain ⟨⟨h1_0, h1_1, h1_2, h1_3, h1_4, h1_5, h1_6, h1_7, h1_8, h1_9, h1_10, h1_11, h1_12, h1_13, h1_14, h1_15, h1_16, h1_17, h1_18, h1_19, h1_20, h1_21, h1_22, h1_23, h1_24⟩, h1⟩ := zr1_s h1
    obtain ⟨⟨h2_0, h2_1, h2_2, h2_3, h2_4, h2_5, h2_6, h2_7, h2_8, h2_9, h2_10, h2_11, h2_12, h2_13, h2_14⟩, h2⟩ := zr1_s h2
    exact lc_2 (v3 := 0) S hK hX hbl hSt hN h1 h2 rfl hP hD hS hl (fun H locs ls hP hD hS hl => law_tail S hr hlocks hX hbl hL hS hl)
  by_cases c_3 : x = 3
  · refine lv_tableIn (tgt := 189) hx hb dL_law_32 (by rw [c_3]; decide) (by rw [c_3]; decide) (by rw [c_3]; rfl) (by decide) ?_
    obtain ⟨r, h1, h2⟩ := qf_jumper (xs (0 + 1 : Int32).toNatClampNeg) (xs (0 + 2 : Int32).toNatClampNeg)
    obtain ⟨⟨h1_0, h1_1, h1_2, h1_3, h1_4, h1_5, h1_6⟩, h1⟩ := zr1_s h1
    obtain ⟨h2_0, h2⟩ := zr1_s h2
    exact lc_3 (v3 := 0) S hK hX hbl hSt hN hi1 hi2 h1 h2 rfl hP hD hS hl (fun H locs ls hP hD hS hl => law_tail S hr hlocks hX hbl hL hS hl)
  by_cases c_4 : x = 4
  · refine lv_tableIn (tgt := 222) hx hb dL_law_32 (by rw [c_4]; decide) (by rw [c_4]; decide) (by rw [c_4]; rfl) (by decide) ?_
    obtain ⟨r, h1, h2⟩ := qf_now (xs (0 + 1 : Int32).toNatClampNeg)
    obtain ⟨⟨h1_0, h1_1, h1_2, h1_3, h1_4, h1_5, h1_6⟩, h1⟩ := zr1_s h1
    obtain ⟨h2_0, h2⟩ := zr1_s h2
    exact lc_4 (v3 := 0) S hK hX hbl hSt hN hi1 h1 h2 rfl hP hD hS hl (fun H locs ls hP hD hS hl => law_tail S hr hlocks hX hbl hL hS hl)
  by_cases c_5 : x = 5
  · refine lv_tableIn (tgt := 245) hx hb dL_law_32 (by rw [c_5]; decide) (by rw [c_5]; decide) (by rw [c_5]; rfl) (by decide) ?_
    obtain ⟨r, h1, h2⟩ := qf_ticks
    obtain ⟨⟨h1_0, h1_1, h1_2, h1_3, h1_4, h1_5, h1_6, h1_7, h1_8, h1_9, h1_10, h1_11, h1_12, h1_13, h1_14⟩, h1⟩ := zr1_s h1
    obtain ⟨⟨h2_0, h2_1, h2_2⟩, h2⟩ := zr1_s h2
    exact lc_5 (v3 := 0) S hK hX hbl hSt hN h1 h2 rfl hP hD hS hl (fun H locs ls hP hD hS hl => law_tail S hr hlocks hX hbl hL hS hl)
  by_cases c_6 : x = 6
  · refine lv_tableIn (tgt := 258) hx hb dL_law_32 (by rw [c_6]; decide) (by rw [c_6]; decide) (by rw [c_6]; rfl) (by decide) ?_
    obtain ⟨r, h1, h2⟩ := qf_speeds (xs (0 + 1 : Int32).toNatClampNeg)
    obtain ⟨⟨h1_0, h1_1, h1_2, h1_3, h1_4, h1_5, h1_6, h1_7, h1_8, h1_9, h1_10⟩, h1⟩ := zr1_s h1
    obtain ⟨⟨h2_0, h2_1, h2_2⟩, h2⟩ := zr1_s h2
    exact lc_6 (v3 := 0) S hK hX hbl hSt hN hi1 h1 h2 rfl hP hD hS hl (fun H locs ls hP hD hS hl => law_tail S hr hlocks hX hbl hL hS hl)
  by_cases c_7 : x = 7
  · refine lv_tableIn (tgt := 281) hx hb dL_law_32 (by rw [c_7]; decide) (by rw [c_7]; decide) (by rw [c_7]; rfl) (by decide) ?_
    obtain ⟨r, h1, h2⟩ := qf_goes (xs (0 + 1 : Int32).toNatClampNeg)
    obtain ⟨⟨h1_0, h1_1, h1_2, h1_3, h1_4, h1_5, h1_6, h1_7, h1_8, h1_9⟩, h1⟩ := zr1_s h1
    obtain ⟨⟨h2_0, h2_1, h2_2⟩, h2⟩ := zr1_s h2
    exact lc_7 (v3 := 0) S hK hX hbl hSt hN hi1 h1 h2 rfl hP hD hS hl (fun H locs ls hP hD hS hl => law_tail S hr hlocks hX hbl hL hS hl)
  by_cases c_8 : x = 8
  · refine lv_tableIn (tgt := 304) hx hb dL_law_32 (by rw [c_8]; decide) (by rw [c_8]; decide) (by rw [c_8]; rfl) (by decide) ?_
    obtain ⟨r, h1, h2⟩ := qf_comes (xs (0 + 1 : Int32).toNatClampNeg) (xs (0 + 2 : Int32).toNatClampNeg)
    obtain ⟨⟨h1_0, h1_1, h1_2, h1_3, h1_4, h1_5, h1_6, h1_7, h1_8, h1_9, h1_10, h1_11⟩, h1⟩ := zr1_s h1
    obtain ⟨⟨h2_0, h2_1, h2_2⟩, h2⟩ := zr1_s h2
    exact lc_8 (v3 := 0) S hK hX hbl hSt hN hi1 hi2 h1 h2 rfl hP hD hS hl (fun H locs ls hP hD hS hl => law_tail S hr hlocks hX hbl hL hS hl)
  by_cases c_9 : x = 9
  · refine lv_tableIn (tgt := 337) hx hb dL_law_32 (by rw [c_9]; decide) (by rw [c_9]; decide) (by rw [c_9]; rfl) (by decide) ?_
    obtain ⟨r, h1, h2⟩ := qf_undo
    obtain ⟨⟨h1_0, h1_1, h1_2, h1_3, h1_4, h1_5, h1_6, h1_7, h1_8⟩, h1⟩ := zr1_s h1
    obtain ⟨⟨h2_0, h2_1⟩, h2⟩ := zr1_s h2
    exact lc_9 (v3 := 0) S hK hX hbl hSt hN h1 h2 rfl hP hD hS hl (fun H locs ls hP hD hS hl => law_tail S hr hlocks hX hbl hL hS hl)
  by_cases c_10 : x = 10
  · refine lv_tableIn (tgt := 350) hx hb dL_law_32 (by rw [c_10]; decide) (by rw [c_10]; decide) (by rw [c_10]; rfl) (by decide) ?_
    obtain ⟨r, h1, h2⟩ := qf_stay (xs (0 + 1 : Int32).toNatClampNeg)
    obtain ⟨⟨h1_0, h1_1, h1_2, h1_3, h1_4, h1_5, h1_6⟩, h1⟩ := zr1_s h1
    obtain ⟨h2_0, h2⟩ := zr1_s h2
    exact lc_10 (v3 := 0) S hK hX hbl hSt hN hi1 h1 h2 rfl hP hD hS hl (fun H locs ls hP hD hS hl => law_tail S hr hlocks hX hbl hL hS hl)
  by_cases c_11 : x = 11
  · refine lv_tableIn (tgt := 373) hx hb dL_law_32 (by rw [c_11]; decide) (by rw [c_11]; decide) (by rw [c_11]; rfl) (by decide) ?_
    obtain ⟨r, h1, h2⟩ := qf_pace (xs (0 + 1 : Int32).toNatClampNeg)
    obtain ⟨⟨h1_0, h1_1, h1_2, h1_3, h1_4, h1_5, h1_6⟩, h1⟩ := zr1_s h1
    obtain ⟨h2_0, h2⟩ := zr1_s h2
    exact lc_11 (v3 := 0) S hK hX hbl hSt hN hi1 h1 h2 rfl hP hD hS hl (fun H locs ls hP hD hS hl => law_tail S hr hlocks hX hbl hL hS hl)
  by_cases c_12 : x = 12
  · refine lv_tableIn (tgt := 396) hx hb dL_law_32 (by rw [c_12]; decide) (by rw [c_12]; decide) (by rw [c_12]; rfl) (by decide) ?_
    obtain ⟨r, h1, h2⟩ := qf_entry (xs (0 + 1 : Int32).toNatClampNeg)
    obtain ⟨⟨h1_0, h1_1, h1_2, h1_3, h1_4, h1_5, h1_6⟩, h1⟩ := zr1_s h1
    obtain ⟨h2_0, h2⟩ := zr1_s h2
    exact lc_12 (v3 := 0) S hK hX hbl hSt hN hi1 h1 h2 rfl hP hD hS hl (fun H locs ls hP hD hS hl => law_tail S hr hlocks hX hbl hL hS hl)
  by_cases c_13 : x = 13
  · refine lv_tableIn (tgt := 419) hx hb dL_law_32 (by rw [c_13]; decide) (by rw [c_13]; decide) (by rw [c_13]; rfl) (by decide) ?_
    obtain ⟨r, h1, h2⟩ := qf_odds (xs (0 + 1 : Int32).toNatClampNeg) (xs (0 + 2 : Int32).toNatClampNeg) (xs (0 + 3 : Int32).toNatClampNeg)
    obtain ⟨⟨h1_0, h1_1, h1_2, h1_3, h1_4, h1_5, h1_6⟩, h1⟩ := zr1_s h1
    obtain ⟨h2_0, h2⟩ := zr1_s h2
    exact lc_13 (v3 := 0) S hK hX hbl hSt hN hi1 hi2 hi3 h1 h2 rfl hP hD hS hl (fun H locs ls hP hD hS hl => law_tail S hr hlocks hX hbl hL hS hl)
  by_cases c_14 : x = 14
  · refine lv_tableIn (tgt := 462) hx hb dL_law_32 (by rw [c_14]; decide) (by rw [c_14]; decide) (by rw [c_14]; rfl) (by decide) ?_
    obtain ⟨r, h1, h2⟩ := qf_sees (xs (0 + 1 : Int32).toNatClampNeg) (xs (0 + 2 : Int32).toNatClampNeg) (xs (0 + 3 : Int32).toNatClampNeg)
    obtain ⟨⟨h1_0, h1_1, h1_2, h1_3⟩, h1⟩ := zr1_s h1
    obtain ⟨⟨h2_0, h2_1, h2_2, h2_3⟩, h2⟩ := zr1_s h2
    exact lc_14 (v3 := 0) S hK hX hbl hSt hN hi1 hi2 hi3 h1 h2 rfl hP hD hS hl (fun H locs ls hP hD hS hl => law_tail S hr hlocks hX hbl hL hS hl)
  by_cases c_15 : x = 15
  · refine lv_tableIn (tgt := 505) hx hb dL_law_32 (by rw [c_15]; decide) (by rw [c_15]; decide) (by rw [c_15]; rfl) (by decide) ?_
    obtain ⟨r, h1, h2⟩ := qf_forget
    obtain ⟨h1_0, h1⟩ := zr1_s h1
    obtain ⟨h2_0, h2⟩ := zr1_s h2
    exact lc_15 (v3 := 0) S hK hX hbl hSt hN h1 h2 rfl hP hD hS hl (fun H locs ls hP hD hS hl => law_tail S hr hlocks hX hbl hL hS hl)
  by_cases c_16 : x = 16
  · refine lv_tableIn (tgt := 518) hx hb dL_law_32 (by rw [c_16]; decide) (by rw [c_16]; decide) (by rw [c_16]; rfl) (by decide) ?_
    obtain ⟨r, h1, h2⟩ := qf_ways (xs (0 + 1 : Int32).toNatClampNeg)
    obtain ⟨⟨h1_0, h1_1, h1_2⟩, h1⟩ := zr1_s h1
    exact lc_16 (v3 := 0) S hK hX hbl hSt hN hi1 h1 h2 rfl hP hD hS hl (fun H locs ls hP hD hS hl => law_tail S hr hlocks hX hbl hL hS hl)
  by_cases c_17 : x = 17
  · refine lv_tableIn (tgt := 541) hx hb dL_law_32 (by rw [c_17]; decide) (by rw [c_17]; decide) (by rw [c_17]; rfl) (by decide) ?_
    obtain ⟨r, h1, h2⟩ := qf_look (xs (0 + 1 : Int32).toNatClampNeg)
    obtain ⟨⟨h1_0, h1_1, h1_2⟩, h1⟩ := zr1_s h1
    exact lc_17 (v3 := 0) S hK hX hbl hSt hN hi1 h1 h2 rfl hP hD hS hl (fun H locs ls hP hD hS hl => law_tail S hr hlocks hX hbl hL hS hl)
  by_cases c_18 : x = 18
  · refine lv_tableIn (tgt := 564) hx hb dL_law_32 (by rw [c_18]; decide) (by rw [c_18]; decide) (by rw [c_18]; rfl) (by decide) ?_
    obtain ⟨r, h1, h2⟩ := qf_rate (xs (0 + 1 : Int32).toNatClampNeg) (xs (0 + 2 : Int32).toNatClampNeg)
    obtain ⟨h1_0, h1⟩ := zr1_s h1
    obtain ⟨h2_0, h2⟩ := zr1_s h2
    exact lc_18 (v3 := 0) S hK hX hbl hSt hN hi1 hi2 h1 h2 rfl hP hD hS hl (fun H locs ls hP hD hS hl => law_tail S hr hlocks hX hbl hL hS hl)
  by_cases c_19 : x = 19
  · refine lv_tableIn (tgt := 597) hx hb dL_law_32 (by rw [c_19]; decide) (by rw [c_19]; decide) (by rw [c_19]; rfl) (by decide) ?_
    obtain ⟨r, h1, h2⟩ := qf_keep (xs (0 + 1 : Int32).toNatClampNeg)
    obtain ⟨⟨h1_0, h1_1, h1_2, h1_3, h1_4, h1_5, h1_6, h1_7⟩, h1⟩ := zr1_s h1
    obtain ⟨⟨h2_0, h2_1⟩, h2⟩ := zr1_s h2
    exact lc_19 (v3 := 0) S hK hX hbl hSt hN hi1 h1 h2 rfl hP hD hS hl (fun H locs ls hP hD hS hl => law_tail S hr hlocks hX hbl hL hS hl)
  by_cases c_20 : x = 20
  · refine lv_tableIn (tgt := 620) hx hb dL_law_32 (by rw [c_20]; decide) (by rw [c_20]; decide) (by rw [c_20]; rfl) (by decide) ?_
    obtain ⟨r, h1, h2⟩ := qf_back (xs (0 + 1 : Int32).toNatClampNeg)
    obtain ⟨⟨h1_0, h1_1, h1_2, h1_3, h1_4, h1_5, h1_6, h1_7⟩, h1⟩ := zr1_s h1
    obtain ⟨⟨h2_0, h2_1⟩, h2⟩ := zr1_s h2
    exact lc_20 (v3 := 0) S hK hX hbl hSt hN hi1 h1 h2 rfl hP hD hS hl (fun H locs ls hP hD hS hl => law_tail S hr hlocks hX hbl hL hS hl)
  by_cases c_21 : x = 21
  · refine lv_tableIn (tgt := 643) hx hb dL_law_32 (by rw [c_21]; decide) (by rw [c_21]; decide) (by rw [c_21]; rfl) (by decide) ?_
    obtain ⟨r, h1, h2⟩ := qf_count (xs (0 + 1 : Int32).toNatClampNeg)
    exact lc_21 (v3 := 0) S hK hX hbl hSt hN hi1 h1 h2 rfl hP hD hS hl (fun H locs ls hP hD hS hl => law_tail S hr hlocks hX hbl hL hS hl)
  by_cases c_22 : x = 22
  · refine lv_tableIn (tgt := 666) hx hb dL_law_32 (by rw [c_22]; decide) (by rw [c_22]; decide) (by rw [c_22]; rfl) (by decide) ?_
    obtain ⟨h1, h2⟩ := qf_trace
    exact lc_22 (v3 := 0) S hK hX hbl hSt hN h1 h2 rfl hP hD hS hl (fun H locs ls hP hD hS hl => law_tail S hr hlocks hX hbl hL hS hl)
  have hto : x.toInt < 0 ∨ 22 < x.toInt := by
    have z_0 := lv_neT c_0 (a := 0) (by decide)
    have z_1 := lv_neT c_1 (a := 1) (by decide)
    have z_2 := lv_neT c_2 (a := 2) (by decide)
    have z_3 := lv_neT c_3 (a := 3) (by decide)
    have z_4 := lv_neT c_4 (a := 4) (by decide)
    have z_5 := lv_neT c_5 (a := 5) (by decide)
    have z_6 := lv_neT c_6 (a := 6) (by decide)
    have z_7 := lv_neT c_7 (a := 7) (by decide)
    have z_8 := lv_neT c_8 (a := 8) (by decide)
    have z_9 := lv_neT c_9 (a := 9) (by decide)
    have z_10 := lv_neT c_10 (a := 10) (by decide)
    have z_11 := lv_neT c_11 (a := 11) (by decide)
    have z_12 := lv_neT c_12 (a := 12) (by decide)
    have z_13 := lv_neT c_13 (a := 13) (by decide)
    have z_14 := lv_neT c_14 (a := 14) (by decide)
    have z_15 := lv_neT c_15 (a := 15) (by decide)
    have z_16 := lv_neT c_16 (a := 16) (by decide)
    have z_17 := lv_neT c_17 (a := 17) (by decide)
    have z_18 := lv_neT c_18 (a := 18) (by decide)
    have z_19 := lv_neT c_19 (a := 19) (by decide)
    have z_20 := lv_neT c_20 (a := 20) (by decide)
    have z_21 := lv_neT c_21 (a := 21) (by decide)
    have z_22 := lv_neT c_22 (a := 22) (by decide)
    omega
  refine lv_tableOut (tgt := 680) hx hb dL_law_32 hto (by decide) ?_
  exact law_tail S hr hlocks hX hbl hL hS hl
