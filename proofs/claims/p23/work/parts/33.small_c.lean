def F_X10_isDigit (p0 : Int32) : Option (Int32) :=
  (if p0 < 48 then some (0) else (if 57 < p0 then some (0) else some (1)))
set_option maxHeartbeats 4000000 in
set_option maxRecDepth 100000 in
theorem c_X10_isDigit (l : Launch) (D : va_G) (cI cZ cS cJ : ClassId) (p0 : Int32) {r_o : Int32} (hF : F_X10_isDigit p0 = some (r_o)) : zMi l yX10_isDigit (zwl yX10_isDigit cX10_isDigit 1 (some .boolean)) { frames := 0, cells := 0, slots := 0, locals := 0 } D (TYS cI cZ cS cJ) [.int p0] [] [] r_o := by
  refine zent_i (own := RX10) (by decide) rfl (Nat.le_of_ble_eq_true rfl) ?_
  intro p e s m below meth c A ls S hr hlocks hK hP hD hA hl
  have hx := S.1
  have hb := S.2.1
  have hml := S.2.2.1
  have hown := S.2.2.2.1
  have hT : ∀ w ∈ zt, w ∈ zwl yX10_isDigit cX10_isDigit 1 (some .boolean) := fun _ h => List.mem_cons_of_mem _ h
  have ht : ∀ w ∈ zt, w.before [.int p0].toArray s = true := fun w h => S.2.2.2.2 w (hT w h)
  have hl : lv_has ls 1 [(0, .int p0)] := hl
  have hS : va_S A s.heap s.heap [] := va_S.rf
  unfold F_X10_isDigit at hF
  refine lv_iload_n hx hb dX10_isDigit_0 rfl (lv_at hl 0 rfl) ?_
  refine lv_bipush (v := 48) hx hb dX10_isDigit_1 (by decide) ?_
  refine lv_icmp_lt (tgt := 16) hx hb dX10_isDigit_3 (by decide) (fun c_1 => ?_) (fun c_1 => ?_)
  · have hF := zi_pos c_1 hF
    refine lv_iconst (v := 0) hx hb dX10_isDigit_16 (by decide) ?_
    have e_0 := zo1 hF
    subst e_0
    exact zret_z (by decide) S hr hlocks hK hP hD hS dX10_isDigit_17
  · have hF := zi_neg c_1 hF
    refine lv_iload_n hx hb dX10_isDigit_6 rfl (lv_at hl 0 rfl) ?_
    refine lv_bipush (v := 57) hx hb dX10_isDigit_7 (by decide) ?_
    refine lv_icmp_gt (tgt := 16) hx hb dX10_isDigit_9 (by decide) (fun c_2 => ?_) (fun c_2 => ?_)
    · have hF := zi_pos c_2 hF
      refine lv_iconst (v := 0) hx hb dX10_isDigit_16 (by decide) ?_
      have e_0 := zo1 hF
      subst e_0
      exact zret_z (by decide) S hr hlocks hK hP hD hS dX10_isDigit_17
    · have hF := zi_neg c_2 hF
      refine lv_iconst (v := 1) hx hb dX10_isDigit_12 (by decide) ?_
      refine lv_goto (tgt := 17) hx hb dX10_isDigit_13 (by decide) ?_
      have e_0 := zo1 hF
      subst e_0
      exact zret_z (by decide) S hr hlocks hK hP hD hS dX10_isDigit_17

theorem lk_X10_76 : zLs RX10 76 yX10_isDigit cX10_isDigit 1 (some .boolean) 1 := ⟨⟨wm_X10_76, ws_X10_isDigit, wi_X10, wd_X10_isDigit⟩, by decide, by decide, by decide +kernel⟩
def L_X10_advanceDigits_25 (t_length : Int32) (t_letters : Nat → Int32) : Nat → Int32 → Int32 → Option (Int32 × Int32)
  | 0 => fun _ _ => none
  | n + 1 => fun t_place t_value => (if t_length ≤ t_place then some (t_place, t_value) else (if (t_place < 0 ∨ 120 ≤ t_place.toNatClampNeg) then none else (zb1 (F_X10_isDigit (t_letters t_place.toNatClampNeg)) (fun r_10 => (if r_10 = 0 then some (t_place, t_value) else (L_X10_advanceDigits_25 t_length t_letters n (t_place + 1) (if (((t_value * 10) + (t_letters t_place.toNatClampNeg)) - 48) < 100 then (((t_value * 10) + (t_letters t_place.toNatClampNeg)) - 48) else 100)))))))
theorem L_X10_advanceDigits_25_z (t_length : Int32) (t_letters : Nat → Int32) (t_place : Int32) (t_value : Int32) : L_X10_advanceDigits_25 t_length t_letters 0 t_place t_value = none := rfl
theorem L_X10_advanceDigits_25_s (t_length : Int32) (t_letters : Nat → Int32) (n : Nat) (t_place : Int32) (t_value : Int32) : L_X10_advanceDigits_25 t_length t_letters (n + 1) t_place t_value = (if t_length ≤ t_place then some (t_place, t_value) else (if (t_place < 0 ∨ 120 ≤ t_place.toNatClampNeg) then none else (zb1 (F_X10_isDigit (t_letters t_place.toNatClampNeg)) (fun r_10 => (if r_10 = 0 then some (t_place, t_value) else (L_X10_advanceDigits_25 t_length t_letters n (t_place + 1) (if (((t_value * 10) + (t_letters t_place.toNatClampNeg)) - 48) < 100 then (((t_value * 10) + (t_letters t_place.toNatClampNeg)) - 48) else 100))))))) := rfl
def F_X10_advanceDigits (t_length : Int32) (t_place : Int32) (t_start : Int32) (t_letters : Nat → Int32) : Option (Int32 × Int32 × Int32) :=
  (if (t_start < 0 ∨ 120 ≤ t_start.toNatClampNeg) then none else (if (t_letters t_start.toNatClampNeg) = 48 then (zb2 (L_X10_advanceDigits_25 t_length t_letters 300 t_place 0) (fun t_place_20 t_value_21 => (if 99 < t_value_21 then some (t_place_20, 2, t_value_21) else (if (t_place_20 - t_start) ≤ 1 then some (t_place_20, 1, t_value_21) else some (t_place_20, 2, t_value_21))))) else (zb2 (L_X10_advanceDigits_25 t_length t_letters 300 t_place 0) (fun t_place_13 t_value_14 => (if 99 < t_value_14 then some (t_place_13, 2, t_value_14) else some (t_place_13, 1, t_value_14))))))
set_option maxHeartbeats 4000000 in
set_option maxRecDepth 100000 in
theorem c_X10_advanceDigits (l : Launch) (D : va_G) (cI cZ cS cJ : ClassId) (t_a : Nat) (t_a_letters : Nat) (t_a_parts : Nat) (t_length : Int32) (t_items : Int32) (t_place : Int32) (t_start : Int32) (t_token : Int32) (t_value : Int32) (t_letters : Nat → Int32) {t_place_o : Int32} {t_token_o : Int32} {t_value_o : Int32} (hF : F_X10_advanceDigits t_length t_place t_start t_letters = some (t_place_o, t_token_o, t_value_o)) : zMv l yX10_advanceDigits (zwl yX10_advanceDigits cX10_advanceDigits 3 none) { frames := 1, cells := 0, slots := 0, locals := 20 } D (TYS cI cZ cS cJ) [.ref t_a] [(t_a, .inr (10, [.ref t_a_letters, .ref t_a_parts, .int t_length, .int t_items, .int t_place, .int t_start, .int t_token, .int t_value])), (t_a_letters, .inl (cI, 120, .inl t_letters))] [(t_a, .inr (10, [.ref t_a_letters, .ref t_a_parts, .int t_length, .int t_items, .int t_place_o, .int t_start, .int t_token_o, .int t_value_o])), (t_a_letters, .inl (cI, 120, .inl t_letters))] := by
  refine zent_v (own := RX10) (by decide) rfl (Nat.le_of_ble_eq_true rfl) ?_
  intro p e s m below meth c A ls S hr hlocks hK hP hD hA hl
  have hx := S.1
  have hb := S.2.1
  have hml := S.2.2.1
  have hown := S.2.2.2.1
  have hT : ∀ w ∈ zt, w ∈ zwl yX10_advanceDigits cX10_advanceDigits 3 none := fun _ h => List.mem_cons_of_mem _ h
  have ht : ∀ w ∈ zt, w.before [.ref t_a].toArray s = true := fun w h => S.2.2.2.2 w (hT w h)
  have hl : lv_has ls 3 [(0, .ref t_a)] := hl
  have hS : va_S A s.heap s.heap [] := va_S.rf
  unfold F_X10_advanceDigits at hF
  have hloop_25 : ∀ (n : Nat) (t_length : Int32) (t_items : Int32) (t_place : Int32) (t_start : Int32) (t_token : Int32) (t_value : Int32) (t_letters : Nat → Int32) (v1 : Int32) (t_place' : Int32) (t_value' : Int32), L_X10_advanceDigits_25 t_length t_letters n t_place t_value = some (t_place', t_value') → ∀ (H : Heap) (locs : List Loc) (ls : Array Slot), va_P D classes [(t_a, .inr (10, [.ref t_a_letters, .ref t_a_parts, .int t_length, .int t_items, .int t_place, .int t_start, .int t_token, .int t_value])), (t_a_letters, .inl (cI, 120, .inl t_letters))] H → va_D A [(t_a, .inr (10, [.ref t_a_letters, .ref t_a_parts, .int t_length, .int t_items, .int t_place, .int t_start, .int t_token, .int t_value])), (t_a_letters, .inl (cI, 120, .inl t_letters))] → va_S A s.heap H locs → lv_has ls 3 [(0, .ref t_a), (1, .int v1)] → (∀ (H : Heap) (locs : List Loc) (ls : Array Slot), va_P D classes [(t_a, .inr (10, [.ref t_a_letters, .ref t_a_parts, .int t_length, .int t_items, .int t_place', .int t_start, .int t_token, .int t_value'])), (t_a_letters, .inl (cI, 120, .inl t_letters))] H → va_D A [(t_a, .inr (10, [.ref t_a_letters, .ref t_a_parts, .int t_length, .int t_items, .int t_place', .int t_start, .int t_token, .int t_value'])), (t_a_letters, .inl (cI, 120, .inl t_letters))] → va_S A s.heap H locs → lv_has ls 3 [(0, .ref t_a), (1, .int v1)] → W p l e { frames := 1, cells := 0, slots := 0, locals := 20 } s m [.ref t_a].toArray below meth c H locs 0 0 (zFv below [.ref t_a] s A D (TYS cI cZ cS cJ) [(t_a, .inr (10, [.ref t_a_letters, .ref t_a_parts, .int t_length, .int t_items, .int t_place_o, .int t_start, .int t_token_o, .int t_value_o])), (t_a_letters, .inl (cI, 120, .inl t_letters))]) (F0 m 93 ls [])) → W p l e { frames := 1, cells := 0, slots := 0, locals := 20 } s m [.ref t_a].toArray below meth c H locs 0 0 (zFv below [.ref t_a] s A D (TYS cI cZ cS cJ) [(t_a, .inr (10, [.ref t_a_letters, .ref t_a_parts, .int t_length, .int t_items, .int t_place_o, .int t_start, .int t_token_o, .int t_value_o])), (t_a_letters, .inl (cI, 120, .inl t_letters))]) (F0 m 25 ls []) := by
    intro n
    induction n with
    | zero =>
      intro t_length t_items t_place t_start t_token t_value t_letters v1 t_place' t_value' hF
      rw [L_X10_advanceDigits_25_z] at hF
      cases hF
    | succ n ih_25 =>
      intro t_length t_items t_place t_start t_token t_value t_letters v1 t_place' t_value' hF H locs ls hP hD hS hl hexit_25
      rw [L_X10_advanceDigits_25_s] at hF
      refine lv_aload_n hx hb dX10_advanceDigits_25 rfl (lv_at hl 0 rfl) ?_
      refine va_get (D := D) (ci := 10) (v := .int t_place) (C := RX10) (T := TX10) (N := 8) hx hb ht iyX10 hown hK hP 0 rfl rfl 4 (by decide) (ht _ wf_X10_27) (fun _ h9 => h9) rfl dX10_advanceDigits_26 ?_
      refine lv_aload_n hx hb dX10_advanceDigits_29 rfl (lv_at hl 0 rfl) ?_
      refine va_get (D := D) (ci := 10) (v := .int t_length) (C := RX10) (T := TX10) (N := 8) hx hb ht iyX10 hown hK hP 0 rfl rfl 2 (by decide) (ht _ wf_X10_73) (fun _ h9 => h9) rfl dX10_advanceDigits_30 ?_
      refine lv_icmp_ge (tgt := 93) hx hb dX10_advanceDigits_33 (by decide) (fun c_8 => ?_) (fun c_8 => ?_)
      · have hF := zi_pos c_8 hF
        obtain ⟨e_0, e_1⟩ := zo2 hF
        subst e_0
        subst e_1
        exact hexit_25 _ _ _ hP hD hS (lv_sub hl [0, 1] rfl)
      · have hF := zi_neg c_8 hF
        refine lv_aload_n hx hb dX10_advanceDigits_36 rfl (lv_at hl 0 rfl) ?_
        refine va_get (D := D) (ci := 10) (v := .ref t_a_letters) (C := RX10) (T := TX10) (N := 8) hx hb ht iyX10 hown hK hP 0 rfl rfl 0 (by decide) (ht _ wf_X10_9) (fun _ h9 => h9) rfl dX10_advanceDigits_37 ?_
        refine lv_aload_n hx hb dX10_advanceDigits_40 rfl (lv_at hl 0 rfl) ?_
        refine va_get (D := D) (ci := 10) (v := .int t_place) (C := RX10) (T := TX10) (N := 8) hx hb ht iyX10 hown hK hP 0 rfl rfl 4 (by decide) (ht _ wf_X10_27) (fun _ h9 => h9) rfl dX10_advanceDigits_41 ?_
        obtain ⟨h_9, hF⟩ := zi_chk hF
        refine va_iald hx hb hK hP 1 0 rfl rfl h_9 dX10_advanceDigits_44 ?_
        obtain ⟨r_10, hc_11, hF⟩ := zb1_s hF
        refine zcs_i (ws1 := [(t_a, .inr (10, [.ref t_a_letters, .ref t_a_parts, .int t_length, .int t_items, .int t_place, .int t_start, .int t_token, .int t_value])), (t_a_letters, .inl (cI, 120, .inl t_letters))]) S hT lk_X10_76 (c_X10_isDigit l D cI cZ cS cJ (t_letters t_place.toNatClampNeg) hc_11) ⟨rfl, rfl, Nat.le_of_ble_eq_true rfl, Nat.le_of_ble_eq_true rfl⟩ hK hP hD hS hA [] [0, 1] [0, 1] rfl rfl rfl rfl rfl rfl rfl rfl hl.1 rfl (Nat.le_of_ble_eq_true rfl) dX10_advanceDigits_45 ⟨Nat.zero_le _, Nat.zero_le _⟩ (fun H locs hP hD hS => ?_)
        refine lv_if_eq (tgt := 93) hx hb dX10_advanceDigits_48 (by decide) (fun c_12 => ?_) (fun c_12 => ?_)
        · have hF := zi_pos c_12 hF
          obtain ⟨e_0, e_1⟩ := zo2 hF
          subst e_0
          subst e_1
          exact hexit_25 _ _ _ hP hD hS (lv_sub hl [0, 1] rfl)
        · have hF := zi_neg c_12 hF
          refine lv_aload_n hx hb dX10_advanceDigits_51 rfl (lv_at hl 0 rfl) ?_
          refine lv_bipush (v := 100) hx hb dX10_advanceDigits_52 (by decide) ?_
          refine lv_aload_n hx hb dX10_advanceDigits_54 rfl (lv_at hl 0 rfl) ?_
          refine va_get (D := D) (ci := 10) (v := .int t_value) (C := RX10) (T := TX10) (N := 8) hx hb ht iyX10 hown hK hP 0 rfl rfl 7 (by decide) (ht _ wf_X10_53) (fun _ h9 => h9) rfl dX10_advanceDigits_55 ?_
          refine lv_bipush (v := 10) hx hb dX10_advanceDigits_58 (by decide) ?_
          refine lv_imul hx hb dX10_advanceDigits_60 ?_
          refine lv_aload_n hx hb dX10_advanceDigits_61 rfl (lv_at hl 0 rfl) ?_
          refine va_get (D := D) (ci := 10) (v := .ref t_a_letters) (C := RX10) (T := TX10) (N := 8) hx hb ht iyX10 hown hK hP 0 rfl rfl 0 (by decide) (ht _ wf_X10_9) (fun _ h9 => h9) rfl dX10_advanceDigits_62 ?_
          refine lv_aload_n hx hb dX10_advanceDigits_65 rfl (lv_at hl 0 rfl) ?_
          refine va_get (D := D) (ci := 10) (v := .int t_place) (C := RX10) (T := TX10) (N := 8) hx hb ht iyX10 hown hK hP 0 rfl rfl 4 (by decide) (ht _ wf_X10_27) (fun _ h9 => h9) rfl dX10_advanceDigits_66 ?_
          refine va_iald hx hb hK hP 1 0 rfl rfl h_9 dX10_advanceDigits_69 ?_
          refine lv_iadd hx hb dX10_advanceDigits_70 ?_
          refine lv_bipush (v := 48) hx hb dX10_advanceDigits_71 (by decide) ?_
          refine lv_isub hx hb dX10_advanceDigits_73 ?_
          refine va_mmin hx hb (hml.trans hl.1.symm) hown (ht _ wm_X10_83) (ht _ ws_J9_min_7cf53) (ht _ wi_J9) (ht _ wd_J9_min_7cf53) (Nat.le_of_ble_eq_true rfl) (Nat.le_of_ble_eq_true rfl) (Nat.zero_le _) (Nat.zero_le _) dX10_advanceDigits_74 ?_
          refine va_put (D := D) (ci := 10) (v := .int (if (((t_value * 10) + (t_letters t_place.toNatClampNeg)) - 48) < 100 then (((t_value * 10) + (t_letters t_place.toNatClampNeg)) - 48) else 100)) (ty := .int) (C := RX10) (T := TX10) (N := 8) hx hb ht iyX10 tyX10 tyX10_ok nmX10 hown hK hP hD hS 0 rfl rfl 7 (by decide) (ht _ wf_X10_53) (fun _ h9 => h9) rfl (by decide +kernel) rfl rfl (Nat.le_of_ble_eq_true rfl) dX10_advanceDigits_77 (fun H locs hP hD hS => ?_)
          have hP : va_P D classes [(t_a, .inr (10, [.ref t_a_letters, .ref t_a_parts, .int t_length, .int t_items, .int t_place, .int t_start, .int t_token, .int (if (((t_value * 10) + (t_letters t_place.toNatClampNeg)) - 48) < 100 then (((t_value * 10) + (t_letters t_place.toNatClampNeg)) - 48) else 100)])), (t_a_letters, .inl (cI, 120, .inl t_letters))] H := hP
          have hD : va_D A [(t_a, .inr (10, [.ref t_a_letters, .ref t_a_parts, .int t_length, .int t_items, .int t_place, .int t_start, .int t_token, .int (if (((t_value * 10) + (t_letters t_place.toNatClampNeg)) - 48) < 100 then (((t_value * 10) + (t_letters t_place.toNatClampNeg)) - 48) else 100)])), (t_a_letters, .inl (cI, 120, .inl t_letters))] := hD
          refine lv_aload_n hx hb dX10_advanceDigits_80 rfl (lv_at hl 0 rfl) ?_
          refine lv_dup hx hb dX10_advanceDigits_81 rfl ?_
          refine va_get (D := D) (ci := 10) (v := .int t_place) (C := RX10) (T := TX10) (N := 8) hx hb ht iyX10 hown hK hP 0 rfl rfl 4 (by decide) (ht _ wf_X10_27) (fun _ h9 => h9) rfl dX10_advanceDigits_82 ?_
          refine lv_iconst (v := 1) hx hb dX10_advanceDigits_85 (by decide) ?_
          refine lv_iadd hx hb dX10_advanceDigits_86 ?_
          refine va_put (D := D) (ci := 10) (v := .int (t_place + 1)) (ty := .int) (C := RX10) (T := TX10) (N := 8) hx hb ht iyX10 tyX10 tyX10_ok nmX10 hown hK hP hD hS 0 rfl rfl 4 (by decide) (ht _ wf_X10_27) (fun _ h9 => h9) rfl (by decide +kernel) rfl rfl (Nat.le_of_ble_eq_true rfl) dX10_advanceDigits_87 (fun H locs hP hD hS => ?_)
          have hP : va_P D classes [(t_a, .inr (10, [.ref t_a_letters, .ref t_a_parts, .int t_length, .int t_items, .int (t_place + 1), .int t_start, .int t_token, .int (if (((t_value * 10) + (t_letters t_place.toNatClampNeg)) - 48) < 100 then (((t_value * 10) + (t_letters t_place.toNatClampNeg)) - 48) else 100)])), (t_a_letters, .inl (cI, 120, .inl t_letters))] H := hP
          have hD : va_D A [(t_a, .inr (10, [.ref t_a_letters, .ref t_a_parts, .int t_length, .int t_items, .int (t_place + 1), .int t_start, .int t_token, .int (if (((t_value * 10) + (t_letters t_place.toNatClampNeg)) - 48) < 100 then (((t_value * 10) + (t_letters t_place.toNatClampNeg)) - 48) else 100)])), (t_a_letters, .inl (cI, 120, .inl t_letters))] := hD
          refine lv_goto (tgt := 25) hx hb dX10_advanceDigits_90 (by decide) ?_
          exact ih_25 t_length t_items (t_place + 1) t_start t_token (if (((t_value * 10) + (t_letters t_place.toNatClampNeg)) - 48) < 100 then (((t_value * 10) + (t_letters t_place.toNatClampNeg)) - 48) else 100) t_letters v1 _ _ hF _ _ _ hP hD hS (lv_sub hl [0, 1] rfl) hexit_25
  refine lv_aload_n hx hb dX10_advanceDigits_0 rfl (lv_at hl 0 rfl) ?_
  refine va_get (D := D) (ci := 10) (v := .ref t_a_letters) (C := RX10) (T := TX10) (N := 8) hx hb ht iyX10 hown hK hP 0 rfl rfl 0 (by decide) (ht _ wf_X10_9) (fun _ h9 => h9) rfl dX10_advanceDigits_1 ?_
  refine lv_aload_n hx hb dX10_advanceDigits_4 rfl (lv_at hl 0 rfl) ?_
  refine va_get (D := D) (ci := 10) (v := .int t_start) (C := RX10) (T := TX10) (N := 8) hx hb ht iyX10 hown hK hP 0 rfl rfl 5 (by decide) (ht _ wf_X10_46) (fun _ h9 => h9) rfl dX10_advanceDigits_5 ?_
  obtain ⟨h_1, hF⟩ := zi_chk hF
  refine va_iald hx hb hK hP 1 0 rfl rfl h_1 dX10_advanceDigits_8 ?_
  refine lv_bipush (v := 48) hx hb dX10_advanceDigits_9 (by decide) ?_
  refine lv_icmp_ne (tgt := 18) hx hb dX10_advanceDigits_11 (by decide) (fun c_2 => ?_) (fun c_2 => ?_)
  · have hF := zi_neg c_2 hF
    refine lv_iconst (v := 0) hx hb dX10_advanceDigits_18 (by decide) ?_
    refine lv_istore_n (lv' := [(1, .int 0), (0, .ref t_a)]) hx hb dX10_advanceDigits_19 rfl hl (by decide) rfl (fun ls hl => ?_)
    refine lv_aload_n hx hb dX10_advanceDigits_20 rfl (lv_at hl 1 rfl) ?_
    refine lv_iconst (v := 0) hx hb dX10_advanceDigits_21 (by decide) ?_
    refine va_put (D := D) (ci := 10) (v := .int 0) (ty := .int) (C := RX10) (T := TX10) (N := 8) hx hb ht iyX10 tyX10 tyX10_ok nmX10 hown hK hP hD hS 0 rfl rfl 7 (by decide) (ht _ wf_X10_53) (fun _ h9 => h9) rfl (by decide +kernel) rfl rfl (Nat.le_of_ble_eq_true rfl) dX10_advanceDigits_22 (fun H locs hP hD hS => ?_)
    have hP : va_P D classes [(t_a, .inr (10, [.ref t_a_letters, .ref t_a_parts, .int t_length, .int t_items, .int t_place, .int t_start, .int t_token, .int 0])), (t_a_letters, .inl (cI, 120, .inl t_letters))] H := hP
    have hD : va_D A [(t_a, .inr (10, [.ref t_a_letters, .ref t_a_parts, .int t_length, .int t_items, .int t_place, .int t_start, .int t_token, .int 0])), (t_a_letters, .inl (cI, 120, .inl t_letters))] := hD
    obtain ⟨t_place_13, t_value_14, hL_15, hF⟩ := zb2_s hF
    refine hloop_25 300 t_length t_items t_place t_start t_token 0 t_letters 0 t_place_13 t_value_14 hL_15 _ _ _ hP hD hS (lv_sub hl [1, 0] rfl) (fun H locs ls hP hD hS hl => ?_)
    refine lv_aload_n hx hb dX10_advanceDigits_93 rfl (lv_at hl 0 rfl) ?_
    refine va_get (D := D) (ci := 10) (v := .int t_value_14) (C := RX10) (T := TX10) (N := 8) hx hb ht iyX10 hown hK hP 0 rfl rfl 7 (by decide) (ht _ wf_X10_53) (fun _ h9 => h9) rfl dX10_advanceDigits_94 ?_
    refine lv_bipush (v := 99) hx hb dX10_advanceDigits_97 (by decide) ?_
    refine lv_icmp_gt (tgt := 119) hx hb dX10_advanceDigits_99 (by decide) (fun c_16 => ?_) (fun c_16 => ?_)
    · have hF := zi_pos c_16 hF
      refine lv_iconst (v := 1) hx hb dX10_advanceDigits_119 (by decide) ?_
      refine lv_goto (tgt := 124) hx hb dX10_advanceDigits_120 (by decide) ?_
      refine lv_istore_n (lv' := [(2, .int 1), (0, .ref t_a), (1, .int 0)]) hx hb dX10_advanceDigits_124 rfl hl (by decide) rfl (fun ls hl => ?_)
      refine lv_aload_n hx hb dX10_advanceDigits_125 rfl (lv_at hl 1 rfl) ?_
      refine lv_iload_n hx hb dX10_advanceDigits_126 rfl (lv_at hl 0 rfl) ?_
      refine lv_if_eq (tgt := 134) hx hb dX10_advanceDigits_127 (by decide) (fun c_17 => ?_) (fun c_17 => ?_)
      · exact absurd c_17 (by decide)
      refine lv_iconst (v := 2) hx hb dX10_advanceDigits_130 (by decide) ?_
      refine lv_goto (tgt := 135) hx hb dX10_advanceDigits_131 (by decide) ?_
      refine va_put (D := D) (ci := 10) (v := .int 2) (ty := .int) (C := RX10) (T := TX10) (N := 8) hx hb ht iyX10 tyX10 tyX10_ok nmX10 hown hK hP hD hS 0 rfl rfl 6 (by decide) (ht _ wf_X10_33) (fun _ h9 => h9) rfl (by decide +kernel) rfl rfl (Nat.le_of_ble_eq_true rfl) dX10_advanceDigits_135 (fun H locs hP hD hS => ?_)
      have hP : va_P D classes [(t_a, .inr (10, [.ref t_a_letters, .ref t_a_parts, .int t_length, .int t_items, .int t_place_13, .int t_start, .int 2, .int t_value_14])), (t_a_letters, .inl (cI, 120, .inl t_letters))] H := hP
      have hD : va_D A [(t_a, .inr (10, [.ref t_a_letters, .ref t_a_parts, .int t_length, .int t_items, .int t_place_13, .int t_start, .int 2, .int t_value_14])), (t_a_letters, .inl (cI, 120, .inl t_letters))] := hD
      obtain ⟨e_0, e_1, e_2⟩ := zo3 hF
      subst e_0
      subst e_1
      subst e_2
      exact zret_v S hr hlocks hK hP hD hS dX10_advanceDigits_138
    · have hF := zi_neg c_16 hF
      refine lv_iload_n hx hb dX10_advanceDigits_102 rfl (lv_at hl 1 rfl) ?_
      refine lv_if_eq (tgt := 123) hx hb dX10_advanceDigits_103 (by decide) (fun c_18 => ?_) (fun c_18 => ?_)
      rotate_left
      · exact absurd c_18 (by decide)
      refine lv_iconst (v := 0) hx hb dX10_advanceDigits_123 (by decide) ?_
      refine lv_istore_n (lv' := [(2, .int 0), (0, .ref t_a), (1, .int 0)]) hx hb dX10_advanceDigits_124 rfl hl (by decide) rfl (fun ls hl => ?_)
      refine lv_aload_n hx hb dX10_advanceDigits_125 rfl (lv_at hl 1 rfl) ?_
      refine lv_iload_n hx hb dX10_advanceDigits_126 rfl (lv_at hl 0 rfl) ?_
      refine lv_if_eq (tgt := 134) hx hb dX10_advanceDigits_127 (by decide) (fun c_19 => ?_) (fun c_19 => ?_)
      rotate_left
      · exact absurd c_19 (by decide)
      refine lv_iconst (v := 1) hx hb dX10_advanceDigits_134 (by decide) ?_
      refine va_put (D := D) (ci := 10) (v := .int 1) (ty := .int) (C := RX10) (T := TX10) (N := 8) hx hb ht iyX10 tyX10 tyX10_ok nmX10 hown hK hP hD hS 0 rfl rfl 6 (by decide) (ht _ wf_X10_33) (fun _ h9 => h9) rfl (by decide +kernel) rfl rfl (Nat.le_of_ble_eq_true rfl) dX10_advanceDigits_135 (fun H locs hP hD hS => ?_)
      have hP : va_P D classes [(t_a, .inr (10, [.ref t_a_letters, .ref t_a_parts, .int t_length, .int t_items, .int t_place_13, .int t_start, .int 1, .int t_value_14])), (t_a_letters, .inl (cI, 120, .inl t_letters))] H := hP
      have hD : va_D A [(t_a, .inr (10, [.ref t_a_letters, .ref t_a_parts, .int t_length, .int t_items, .int t_place_13, .int t_start, .int 1, .int t_value_14])), (t_a_letters, .inl (cI, 120, .inl t_letters))] := hD
      obtain ⟨e_0, e_1, e_2⟩ := zo3 hF
      subst e_0
      subst e_1
      subst e_2
      exact zret_v S hr hlocks hK hP hD hS dX10_advanceDigits_138
  · have hF := zi_pos c_2 hF
    refine lv_iconst (v := 1) hx hb dX10_advanceDigits_14 (by decide) ?_
    refine lv_goto (tgt := 19) hx hb dX10_advanceDigits_15 (by decide) ?_
    refine lv_istore_n (lv' := [(1, .int 1), (0, .ref t_a)]) hx hb dX10_advanceDigits_19 rfl hl (by decide) rfl (fun ls hl => ?_)
    refine lv_aload_n hx hb dX10_advanceDigits_20 rfl (lv_at hl 1 rfl) ?_
    refine lv_iconst (v := 0) hx hb dX10_advanceDigits_21 (by decide) ?_
    refine va_put (D := D) (ci := 10) (v := .int 0) (ty := .int) (C := RX10) (T := TX10) (N := 8) hx hb ht iyX10 tyX10 tyX10_ok nmX10 hown hK hP hD hS 0 rfl rfl 7 (by decide) (ht _ wf_X10_53) (fun _ h9 => h9) rfl (by decide +kernel) rfl rfl (Nat.le_of_ble_eq_true rfl) dX10_advanceDigits_22 (fun H locs hP hD hS => ?_)
    have hP : va_P D classes [(t_a, .inr (10, [.ref t_a_letters, .ref t_a_parts, .int t_length, .int t_items, .int t_place, .int t_start, .int t_token, .int 0])), (t_a_letters, .inl (cI, 120, .inl t_letters))] H := hP
    have hD : va_D A [(t_a, .inr (10, [.ref t_a_letters, .ref t_a_parts, .int t_length, .int t_items, .int t_place, .int t_start, .int t_token, .int 0])), (t_a_letters, .inl (cI, 120, .inl t_letters))] := hD
    obtain ⟨t_place_20, t_value_21, hL_22, hF⟩ := zb2_s hF
    refine hloop_25 300 t_length t_items t_place t_start t_token 0 t_letters 1 t_place_20 t_value_21 hL_22 _ _ _ hP hD hS (lv_sub hl [1, 0] rfl) (fun H locs ls hP hD hS hl => ?_)
    refine lv_aload_n hx hb dX10_advanceDigits_93 rfl (lv_at hl 0 rfl) ?_
    refine va_get (D := D) (ci := 10) (v := .int t_value_21) (C := RX10) (T := TX10) (N := 8) hx hb ht iyX10 hown hK hP 0 rfl rfl 7 (by decide) (ht _ wf_X10_53) (fun _ h9 => h9) rfl dX10_advanceDigits_94 ?_
    refine lv_bipush (v := 99) hx hb dX10_advanceDigits_97 (by decide) ?_
    refine lv_icmp_gt (tgt := 119) hx hb dX10_advanceDigits_99 (by decide) (fun c_23 => ?_) (fun c_23 => ?_)
    · have hF := zi_pos c_23 hF
      refine lv_iconst (v := 1) hx hb dX10_advanceDigits_119 (by decide) ?_
      refine lv_goto (tgt := 124) hx hb dX10_advanceDigits_120 (by decide) ?_
      refine lv_istore_n (lv' := [(2, .int 1), (0, .ref t_a), (1, .int 1)]) hx hb dX10_advanceDigits_124 rfl hl (by decide) rfl (fun ls hl => ?_)
      refine lv_aload_n hx hb dX10_advanceDigits_125 rfl (lv_at hl 1 rfl) ?_
      refine lv_iload_n hx hb dX10_advanceDigits_126 rfl (lv_at hl 0 rfl) ?_
      refine lv_if_eq (tgt := 134) hx hb dX10_advanceDigits_127 (by decide) (fun c_24 => ?_) (fun c_24 => ?_)
      · exact absurd c_24 (by decide)
      refine lv_iconst (v := 2) hx hb dX10_advanceDigits_130 (by decide) ?_
      refine lv_goto (tgt := 135) hx hb dX10_advanceDigits_131 (by decide) ?_
      refine va_put (D := D) (ci := 10) (v := .int 2) (ty := .int) (C := RX10) (T := TX10) (N := 8) hx hb ht iyX10 tyX10 tyX10_ok nmX10 hown hK hP hD hS 0 rfl rfl 6 (by decide) (ht _ wf_X10_33) (fun _ h9 => h9) rfl (by decide +kernel) rfl rfl (Nat.le_of_ble_eq_true rfl) dX10_advanceDigits_135 (fun H locs hP hD hS => ?_)
      have hP : va_P D classes [(t_a, .inr (10, [.ref t_a_letters, .ref t_a_parts, .int t_length, .int t_items, .int t_place_20, .int t_start, .int 2, .int t_value_21])), (t_a_letters, .inl (cI, 120, .inl t_letters))] H := hP
      have hD : va_D A [(t_a, .inr (10, [.ref t_a_letters, .ref t_a_parts, .int t_length, .int t_items, .int t_place_20, .int t_start, .int 2, .int t_value_21])), (t_a_letters, .inl (cI, 120, .inl t_letters))] := hD
      obtain ⟨e_0, e_1, e_2⟩ := zo3 hF
      subst e_0
      subst e_1
      subst e_2
      exact zret_v S hr hlocks hK hP hD hS dX10_advanceDigits_138
    · have hF := zi_neg c_23 hF
      refine lv_iload_n hx hb dX10_advanceDigits_102 rfl (lv_at hl 1 rfl) ?_
      refine lv_if_eq (tgt := 123) hx hb dX10_advanceDigits_103 (by decide) (fun c_25 => ?_) (fun c_25 => ?_)
      · exact absurd c_25 (by decide)
      refine lv_aload_n hx hb dX10_advanceDigits_106 rfl (lv_at hl 0 rfl) ?_
      refine va_get (D := D) (ci := 10) (v := .int t_place_20) (C := RX10) (T := TX10) (N := 8) hx hb ht iyX10 hown hK hP 0 rfl rfl 4 (by decide) (ht _ wf_X10_27) (fun _ h9 => h9) rfl dX10_advanceDigits_107 ?_
      refine lv_aload_n hx hb dX10_advanceDigits_110 rfl (lv_at hl 0 rfl) ?_
      refine va_get (D := D) (ci := 10) (v := .int t_start) (C := RX10) (T := TX10) (N := 8) hx hb ht iyX10 hown hK hP 0 rfl rfl 5 (by decide) (ht _ wf_X10_46) (fun _ h9 => h9) rfl dX10_advanceDigits_111 ?_
      refine lv_isub hx hb dX10_advanceDigits_114 ?_
      refine lv_iconst (v := 1) hx hb dX10_advanceDigits_115 (by decide) ?_
      refine lv_icmp_le (tgt := 123) hx hb dX10_advanceDigits_116 (by decide) (fun c_26 => ?_) (fun c_26 => ?_)
      · have hF := zi_pos c_26 hF
        refine lv_iconst (v := 0) hx hb dX10_advanceDigits_123 (by decide) ?_
        refine lv_istore_n (lv' := [(2, .int 0), (0, .ref t_a), (1, .int 1)]) hx hb dX10_advanceDigits_124 rfl hl (by decide) rfl (fun ls hl => ?_)
        refine lv_aload_n hx hb dX10_advanceDigits_125 rfl (lv_at hl 1 rfl) ?_
        refine lv_iload_n hx hb dX10_advanceDigits_126 rfl (lv_at hl 0 rfl) ?_
        refine lv_if_eq (tgt := 134) hx hb dX10_advanceDigits_127 (by decide) (fun c_27 => ?_) (fun c_27 => ?_)
        rotate_left
        · exact absurd c_27 (by decide)
        refine lv_iconst (v := 1) hx hb dX10_advanceDigits_134 (by decide) ?_
        refine va_put (D := D) (ci := 10) (v := .int 1) (ty := .int) (C := RX10) (T := TX10) (N := 8) hx hb ht iyX10 tyX10 tyX10_ok nmX10 hown hK hP hD hS 0 rfl rfl 6 (by decide) (ht _ wf_X10_33) (fun _ h9 => h9) rfl (by decide +kernel) rfl rfl (Nat.le_of_ble_eq_true rfl) dX10_advanceDigits_135 (fun H locs hP hD hS => ?_)
        have hP : va_P D classes [(t_a, .inr (10, [.ref t_a_letters, .ref t_a_parts, .int t_length, .int t_items, .int t_place_20, .int t_start, .int 1, .int t_value_21])), (t_a_letters, .inl (cI, 120, .inl t_letters))] H := hP
        have hD : va_D A [(t_a, .inr (10, [.ref t_a_letters, .ref t_a_parts, .int t_length, .int t_items, .int t_place_20, .int t_start, .int 1, .int t_value_21])), (t_a_letters, .inl (cI, 120, .inl t_letters))] := hD
        obtain ⟨e_0, e_1, e_2⟩ := zo3 hF
        subst e_0
        subst e_1
        subst e_2
        exact zret_v S hr hlocks hK hP hD hS dX10_advanceDigits_138
      · have hF := zi_neg c_26 hF
        refine lv_iconst (v := 1) hx hb dX10_advanceDigits_119 (by decide) ?_
        refine lv_goto (tgt := 124) hx hb dX10_advanceDigits_120 (by decide) ?_
        refine lv_istore_n (lv' := [(2, .int 1), (0, .ref t_a), (1, .int 1)]) hx hb dX10_advanceDigits_124 rfl hl (by decide) rfl (fun ls hl => ?_)
        refine lv_aload_n hx hb dX10_advanceDigits_125 rfl (lv_at hl 1 rfl) ?_
        refine lv_iload_n hx hb dX10_advanceDigits_126 rfl (lv_at hl 0 rfl) ?_
        refine lv_if_eq (tgt := 134) hx hb dX10_advanceDigits_127 (by decide) (fun c_28 => ?_) (fun c_28 => ?_)
        · exact absurd c_28 (by decide)
        refine lv_iconst (v := 2) hx hb dX10_advanceDigits_130 (by decide) ?_
        refine lv_goto (tgt := 135) hx hb dX10_advanceDigits_131 (by decide) ?_
        refine va_put (D := D) (ci := 10) (v := .int 2) (ty := .int) (C := RX10) (T := TX10) (N := 8) hx hb ht iyX10 tyX10 tyX10_ok nmX10 hown hK hP hD hS 0 rfl rfl 6 (by decide) (ht _ wf_X10_33) (fun _ h9 => h9) rfl (by decide +kernel) rfl rfl (Nat.le_of_ble_eq_true rfl) dX10_advanceDigits_135 (fun H locs hP hD hS => ?_)
        have hP : va_P D classes [(t_a, .inr (10, [.ref t_a_letters, .ref t_a_parts, .int t_length, .int t_items, .int t_place_20, .int t_start, .int 2, .int t_value_21])), (t_a_letters, .inl (cI, 120, .inl t_letters))] H := hP
        have hD : va_D A [(t_a, .inr (10, [.ref t_a_letters, .ref t_a_parts, .int t_length, .int t_items, .int t_place_20, .int t_start, .int 2, .int t_value_21])), (t_a_letters, .inl (cI, 120, .inl t_letters))] := hD
        obtain ⟨e_0, e_1, e_2⟩ := zo3 hF
        subst e_0
        subst e_1
        subst e_2
        exact zret_v S hr hlocks hK hP hD hS dX10_advanceDigits_138

theorem lk_X10_80 : zLk RX10 80 yX10_advanceDigits cX10_advanceDigits 3 none 0 := ⟨⟨wm_X10_80, wo_X10_advanceDigits, we_X10_X10_advanceDigits, wi_X10, wd_X10_advanceDigits⟩, by decide, by decide, by decide +kernel⟩
def L_X10_advance_0 (t_length : Int32) (t_letters : Nat → Int32) : Nat → Int32 → Option (Int32)
  | 0 => fun _ => none
  | n + 1 => fun t_place => (if t_length ≤ t_place then some (t_place) else (if (t_place < 0 ∨ 120 ≤ t_place.toNatClampNeg) then none else (if (t_letters t_place.toNatClampNeg) = 32 then (L_X10_advance_0 t_length t_letters n (t_place + 1)) else some (t_place))))
theorem L_X10_advance_0_z (t_length : Int32) (t_letters : Nat → Int32) (t_place : Int32) : L_X10_advance_0 t_length t_letters 0 t_place = none := rfl
theorem L_X10_advance_0_s (t_length : Int32) (t_letters : Nat → Int32) (n : Nat) (t_place : Int32) : L_X10_advance_0 t_length t_letters (n + 1) t_place = (if t_length ≤ t_place then some (t_place) else (if (t_place < 0 ∨ 120 ≤ t_place.toNatClampNeg) then none else (if (t_letters t_place.toNatClampNeg) = 32 then (L_X10_advance_0 t_length t_letters n (t_place + 1)) else some (t_place)))) := rfl
def F_X10_advance (t_length : Int32) (t_place : Int32) (t_value : Int32) (t_letters : Nat → Int32) : Option (Int32 × Int32 × Int32 × Int32) :=
  (zb1 (L_X10_advance_0 t_length t_letters 300 t_place) (fun t_place_7 => (if t_place_7 < t_length then (if (t_place_7 < 0 ∨ 120 ≤ t_place_7.toNatClampNeg) then none else (zb1 (F_X10_isDigit (t_letters t_place_7.toNatClampNeg)) (fun r_11 => (if r_11 = 0 then (if (t_letters t_place_7.toNatClampNeg) = 101 then some (t_place_7 + 1, t_place_7, t_letters t_place_7.toNatClampNeg, t_value) else (if (t_letters t_place_7.toNatClampNeg) = 106 then some (t_place_7 + 1, t_place_7, t_letters t_place_7.toNatClampNeg, t_value) else (if (t_letters t_place_7.toNatClampNeg) = 59 then some (t_place_7 + 1, t_place_7, t_letters t_place_7.toNatClampNeg, t_value) else some (t_place_7 + 1, t_place_7, 2, t_value)))) else (zb3 (F_X10_advanceDigits t_length t_place_7 t_place_7 t_letters) (fun t_place_17 t_token_18 t_value_19 => some (t_place_17, t_place_7, t_token_18, t_value_19))))))) else some (t_place_7, t_place_7, 0, t_value))))
set_option maxHeartbeats 4000000 in
set_option maxRecDepth 100000 in
theorem c_X10_advance (l : Launch) (D : va_G) (cI cZ cS cJ : ClassId) (t_a : Nat) (t_a_letters : Nat) (t_a_parts : Nat) (t_length : Int32) (t_items : Int32) (t_place : Int32) (t_start : Int32) (t_token : Int32) (t_value : Int32) (t_letters : Nat → Int32) {t_place_o : Int32} {t_start_o : Int32} {t_token_o : Int32} {t_value_o : Int32} (hF : F_X10_advance t_length t_place t_value t_letters = some (t_place_o, t_start_o, t_token_o, t_value_o)) : zMv l yX10_advance (zwl yX10_advance cX10_advance 2 none) { frames := 2, cells := 0, slots := 0, locals := 42 } D (TYS cI cZ cS cJ) [.ref t_a] [(t_a, .inr (10, [.ref t_a_letters, .ref t_a_parts, .int t_length, .int t_items, .int t_place, .int t_start, .int t_token, .int t_value])), (t_a_letters, .inl (cI, 120, .inl t_letters))] [(t_a, .inr (10, [.ref t_a_letters, .ref t_a_parts, .int t_length, .int t_items, .int t_place_o, .int t_start_o, .int t_token_o, .int t_value_o])), (t_a_letters, .inl (cI, 120, .inl t_letters))] := by
  refine zent_v (own := RX10) (by decide) rfl (Nat.le_of_ble_eq_true rfl) ?_
  intro p e s m below meth c A ls S hr hlocks hK hP hD hA hl
  have hx := S.1
  have hb := S.2.1
  have hml := S.2.2.1
  have hown := S.2.2.2.1
  have hT : ∀ w ∈ zt, w ∈ zwl yX10_advance cX10_advance 2 none := fun _ h => List.mem_cons_of_mem _ h
  have ht : ∀ w ∈ zt, w.before [.ref t_a].toArray s = true := fun w h => S.2.2.2.2 w (hT w h)
  have hl : lv_has ls 2 [(0, .ref t_a)] := hl
  have hS : va_S A s.heap s.heap [] := va_S.rf
  unfold F_X10_advance at hF
  have hloop_0 : ∀ (n : Nat) (t_length : Int32) (t_items : Int32) (t_place : Int32) (t_start : Int32) (t_token : Int32) (t_value : Int32) (t_letters : Nat → Int32) (t_place' : Int32), L_X10_advance_0 t_length t_letters n t_place = some (t_place') → ∀ (H : Heap) (locs : List Loc) (ls : Array Slot), va_P D classes [(t_a, .inr (10, [.ref t_a_letters, .ref t_a_parts, .int t_length, .int t_items, .int t_place, .int t_start, .int t_token, .int t_value])), (t_a_letters, .inl (cI, 120, .inl t_letters))] H → va_D A [(t_a, .inr (10, [.ref t_a_letters, .ref t_a_parts, .int t_length, .int t_items, .int t_place, .int t_start, .int t_token, .int t_value])), (t_a_letters, .inl (cI, 120, .inl t_letters))] → va_S A s.heap H locs → lv_has ls 2 [(0, .ref t_a)] → (∀ (H : Heap) (locs : List Loc) (ls : Array Slot), va_P D classes [(t_a, .inr (10, [.ref t_a_letters, .ref t_a_parts, .int t_length, .int t_items, .int t_place', .int t_start, .int t_token, .int t_value])), (t_a_letters, .inl (cI, 120, .inl t_letters))] H → va_D A [(t_a, .inr (10, [.ref t_a_letters, .ref t_a_parts, .int t_length, .int t_items, .int t_place', .int t_start, .int t_token, .int t_value])), (t_a_letters, .inl (cI, 120, .inl t_letters))] → va_S A s.heap H locs → lv_has ls 2 [(0, .ref t_a)] → W p l e { frames := 2, cells := 0, slots := 0, locals := 42 } s m [.ref t_a].toArray below meth c H locs 0 0 (zFv below [.ref t_a] s A D (TYS cI cZ cS cJ) [(t_a, .inr (10, [.ref t_a_letters, .ref t_a_parts, .int t_length, .int t_items, .int t_place_o, .int t_start_o, .int t_token_o, .int t_value_o])), (t_a_letters, .inl (cI, 120, .inl t_letters))]) (F0 m 38 ls [])) → W p l e { frames := 2, cells := 0, slots := 0, locals := 42 } s m [.ref t_a].toArray below meth c H locs 0 0 (zFv below [.ref t_a] s A D (TYS cI cZ cS cJ) [(t_a, .inr (10, [.ref t_a_letters, .ref t_a_parts, .int t_length, .int t_items, .int t_place_o, .int t_start_o, .int t_token_o, .int t_value_o])), (t_a_letters, .inl (cI, 120, .inl t_letters))]) (F0 m 0 ls []) := by
    intro n
    induction n with
    | zero =>
      intro t_length t_items t_place t_start t_token t_value t_letters t_place' hF
      rw [L_X10_advance_0_z] at hF
      cases hF
    | succ n ih_0 =>
      intro t_length t_items t_place t_start t_token t_value t_letters t_place' hF H locs ls hP hD hS hl hexit_0
      rw [L_X10_advance_0_s] at hF
      refine lv_aload_n hx hb dX10_advance_0 rfl (lv_at hl 0 rfl) ?_
      refine va_get (D := D) (ci := 10) (v := .int t_place) (C := RX10) (T := TX10) (N := 8) hx hb ht iyX10 hown hK hP 0 rfl rfl 4 (by decide) (ht _ wf_X10_27) (fun _ h9 => h9) rfl dX10_advance_1 ?_
      refine lv_aload_n hx hb dX10_advance_4 rfl (lv_at hl 0 rfl) ?_
      refine va_get (D := D) (ci := 10) (v := .int t_length) (C := RX10) (T := TX10) (N := 8) hx hb ht iyX10 hown hK hP 0 rfl rfl 2 (by decide) (ht _ wf_X10_73) (fun _ h9 => h9) rfl dX10_advance_5 ?_
      refine lv_icmp_ge (tgt := 38) hx hb dX10_advance_8 (by decide) (fun c_4 => ?_) (fun c_4 => ?_)
      · have hF := zi_pos c_4 hF
        have e_0 := zo1 hF
        subst e_0
        exact hexit_0 _ _ _ hP hD hS (lv_sub hl [0] rfl)
      · have hF := zi_neg c_4 hF
        refine lv_aload_n hx hb dX10_advance_11 rfl (lv_at hl 0 rfl) ?_
        refine va_get (D := D) (ci := 10) (v := .ref t_a_letters) (C := RX10) (T := TX10) (N := 8) hx hb ht iyX10 hown hK hP 0 rfl rfl 0 (by decide) (ht _ wf_X10_9) (fun _ h9 => h9) rfl dX10_advance_12 ?_
        refine lv_aload_n hx hb dX10_advance_15 rfl (lv_at hl 0 rfl) ?_
        refine va_get (D := D) (ci := 10) (v := .int t_place) (C := RX10) (T := TX10) (N := 8) hx hb ht iyX10 hown hK hP 0 rfl rfl 4 (by decide) (ht _ wf_X10_27) (fun _ h9 => h9) rfl dX10_advance_16 ?_
        obtain ⟨h_5, hF⟩ := zi_chk hF
        refine va_iald hx hb hK hP 1 0 rfl rfl h_5 dX10_advance_19 ?_
        refine lv_bipush (v := 32) hx hb dX10_advance_20 (by decide) ?_
        refine lv_icmp_ne (tgt := 38) hx hb dX10_advance_22 (by decide) (fun c_6 => ?_) (fun c_6 => ?_)
        · have hF := zi_neg c_6 hF
          have e_0 := zo1 hF
          subst e_0
          exact hexit_0 _ _ _ hP hD hS (lv_sub hl [0] rfl)
        · have hF := zi_pos c_6 hF
          refine lv_aload_n hx hb dX10_advance_25 rfl (lv_at hl 0 rfl) ?_
          refine lv_dup hx hb dX10_advance_26 rfl ?_
          refine va_get (D := D) (ci := 10) (v := .int t_place) (C := RX10) (T := TX10) (N := 8) hx hb ht iyX10 hown hK hP 0 rfl rfl 4 (by decide) (ht _ wf_X10_27) (fun _ h9 => h9) rfl dX10_advance_27 ?_
          refine lv_iconst (v := 1) hx hb dX10_advance_30 (by decide) ?_
          refine lv_iadd hx hb dX10_advance_31 ?_
          refine va_put (D := D) (ci := 10) (v := .int (t_place + 1)) (ty := .int) (C := RX10) (T := TX10) (N := 8) hx hb ht iyX10 tyX10 tyX10_ok nmX10 hown hK hP hD hS 0 rfl rfl 4 (by decide) (ht _ wf_X10_27) (fun _ h9 => h9) rfl (by decide +kernel) rfl rfl (Nat.le_of_ble_eq_true rfl) dX10_advance_32 (fun H locs hP hD hS => ?_)
          have hP : va_P D classes [(t_a, .inr (10, [.ref t_a_letters, .ref t_a_parts, .int t_length, .int t_items, .int (t_place + 1), .int t_start, .int t_token, .int t_value])), (t_a_letters, .inl (cI, 120, .inl t_letters))] H := hP
          have hD : va_D A [(t_a, .inr (10, [.ref t_a_letters, .ref t_a_parts, .int t_length, .int t_items, .int (t_place + 1), .int t_start, .int t_token, .int t_value])), (t_a_letters, .inl (cI, 120, .inl t_letters))] := hD
          refine lv_goto (tgt := 0) hx hb dX10_advance_35 (by decide) ?_
          exact ih_0 t_length t_items (t_place + 1) t_start t_token t_value t_letters _ hF _ _ _ hP hD hS (lv_sub hl [0] rfl) hexit_0
  obtain ⟨t_place_7, hL_8, hF⟩ := zb1_s hF
  refine hloop_0 300 t_length t_items t_place t_start t_token t_value t_letters t_place_7 hL_8 _ _ _ hP hD hS (lv_sub hl [0] rfl) (fun H locs ls hP hD hS hl => ?_)
  refine lv_aload_n hx hb dX10_advance_38 rfl (lv_at hl 0 rfl) ?_
  refine lv_aload_n hx hb dX10_advance_39 rfl (lv_at hl 0 rfl) ?_
  refine va_get (D := D) (ci := 10) (v := .int t_place_7) (C := RX10) (T := TX10) (N := 8) hx hb ht iyX10 hown hK hP 0 rfl rfl 4 (by decide) (ht _ wf_X10_27) (fun _ h9 => h9) rfl dX10_advance_40 ?_
  refine va_put (D := D) (ci := 10) (v := .int t_place_7) (ty := .int) (C := RX10) (T := TX10) (N := 8) hx hb ht iyX10 tyX10 tyX10_ok nmX10 hown hK hP hD hS 0 rfl rfl 5 (by decide) (ht _ wf_X10_46) (fun _ h9 => h9) rfl (by decide +kernel) rfl rfl (Nat.le_of_ble_eq_true rfl) dX10_advance_43 (fun H locs hP hD hS => ?_)
  have hP : va_P D classes [(t_a, .inr (10, [.ref t_a_letters, .ref t_a_parts, .int t_length, .int t_items, .int t_place_7, .int t_place_7, .int t_token, .int t_value])), (t_a_letters, .inl (cI, 120, .inl t_letters))] H := hP
  have hD : va_D A [(t_a, .inr (10, [.ref t_a_letters, .ref t_a_parts, .int t_length, .int t_items, .int t_place_7, .int t_place_7, .int t_token, .int t_value])), (t_a_letters, .inl (cI, 120, .inl t_letters))] := hD
  refine lv_aload_n hx hb dX10_advance_46 rfl (lv_at hl 0 rfl) ?_
  refine va_get (D := D) (ci := 10) (v := .int t_place_7) (C := RX10) (T := TX10) (N := 8) hx hb ht iyX10 hown hK hP 0 rfl rfl 4 (by decide) (ht _ wf_X10_27) (fun _ h9 => h9) rfl dX10_advance_47 ?_
  refine lv_aload_n hx hb dX10_advance_50 rfl (lv_at hl 0 rfl) ?_
  refine va_get (D := D) (ci := 10) (v := .int t_length) (C := RX10) (T := TX10) (N := 8) hx hb ht iyX10 hown hK hP 0 rfl rfl 2 (by decide) (ht _ wf_X10_73) (fun _ h9 => h9) rfl dX10_advance_51 ?_
  refine lv_icmp_lt (tgt := 63) hx hb dX10_advance_54 (by decide) (fun c_9 => ?_) (fun c_9 => ?_)
  · have hF := zi_pos c_9 hF
    refine lv_aload_n hx hb dX10_advance_63 rfl (lv_at hl 0 rfl) ?_
    refine va_get (D := D) (ci := 10) (v := .ref t_a_letters) (C := RX10) (T := TX10) (N := 8) hx hb ht iyX10 hown hK hP 0 rfl rfl 0 (by decide) (ht _ wf_X10_9) (fun _ h9 => h9) rfl dX10_advance_64 ?_
    refine lv_aload_n hx hb dX10_advance_67 rfl (lv_at hl 0 rfl) ?_
    refine va_get (D := D) (ci := 10) (v := .int t_place_7) (C := RX10) (T := TX10) (N := 8) hx hb ht iyX10 hown hK hP 0 rfl rfl 4 (by decide) (ht _ wf_X10_27) (fun _ h9 => h9) rfl dX10_advance_68 ?_
    obtain ⟨h_10, hF⟩ := zi_chk hF
    refine va_iald hx hb hK hP 1 0 rfl rfl h_10 dX10_advance_71 ?_
    refine lv_istore_n (lv' := [(1, .int (t_letters t_place_7.toNatClampNeg)), (0, .ref t_a)]) hx hb dX10_advance_72 rfl hl (by decide) rfl (fun ls hl => ?_)
    refine lv_iload_n hx hb dX10_advance_73 rfl (lv_at hl 0 rfl) ?_
    obtain ⟨r_11, hc_12, hF⟩ := zb1_s hF
    refine zcs_i (ws1 := [(t_a, .inr (10, [.ref t_a_letters, .ref t_a_parts, .int t_length, .int t_items, .int t_place_7, .int t_place_7, .int t_token, .int t_value])), (t_a_letters, .inl (cI, 120, .inl t_letters))]) S hT lk_X10_76 (c_X10_isDigit l D cI cZ cS cJ (t_letters t_place_7.toNatClampNeg) hc_12) ⟨rfl, rfl, Nat.le_of_ble_eq_true rfl, Nat.le_of_ble_eq_true rfl⟩ hK hP hD hS hA [] [0, 1] [0, 1] rfl rfl rfl rfl rfl rfl rfl rfl hl.1 rfl (Nat.le_of_ble_eq_true rfl) dX10_advance_74 ⟨Nat.zero_le _, Nat.zero_le _⟩ (fun H locs hP hD hS => ?_)
    refine lv_if_eq (tgt := 85) hx hb dX10_advance_77 (by decide) (fun c_13 => ?_) (fun c_13 => ?_)
    · have hF := zi_pos c_13 hF
      refine lv_aload_n hx hb dX10_advance_85 rfl (lv_at hl 1 rfl) ?_
      refine lv_dup hx hb dX10_advance_86 rfl ?_
      refine va_get (D := D) (ci := 10) (v := .int t_place_7) (C := RX10) (T := TX10) (N := 8) hx hb ht iyX10 hown hK hP 0 rfl rfl 4 (by decide) (ht _ wf_X10_27) (fun _ h9 => h9) rfl dX10_advance_87 ?_
      refine lv_iconst (v := 1) hx hb dX10_advance_90 (by decide) ?_
      refine lv_iadd hx hb dX10_advance_91 ?_
      refine va_put (D := D) (ci := 10) (v := .int (t_place_7 + 1)) (ty := .int) (C := RX10) (T := TX10) (N := 8) hx hb ht iyX10 tyX10 tyX10_ok nmX10 hown hK hP hD hS 0 rfl rfl 4 (by decide) (ht _ wf_X10_27) (fun _ h9 => h9) rfl (by decide +kernel) rfl rfl (Nat.le_of_ble_eq_true rfl) dX10_advance_92 (fun H locs hP hD hS => ?_)
      have hP : va_P D classes [(t_a, .inr (10, [.ref t_a_letters, .ref t_a_parts, .int t_length, .int t_items, .int (t_place_7 + 1), .int t_place_7, .int t_token, .int t_value])), (t_a_letters, .inl (cI, 120, .inl t_letters))] H := hP
      have hD : va_D A [(t_a, .inr (10, [.ref t_a_letters, .ref t_a_parts, .int t_length, .int t_items, .int (t_place_7 + 1), .int t_place_7, .int t_token, .int t_value])), (t_a_letters, .inl (cI, 120, .inl t_letters))] := hD
      refine lv_aload_n hx hb dX10_advance_95 rfl (lv_at hl 1 rfl) ?_
      refine lv_iload_n hx hb dX10_advance_96 rfl (lv_at hl 0 rfl) ?_
      refine lv_bipush (v := 101) hx hb dX10_advance_97 (by decide) ?_
      refine lv_icmp_eq (tgt := 114) hx hb dX10_advance_99 (by decide) (fun c_14 => ?_) (fun c_14 => ?_)
      · have hF := zi_pos c_14 hF
        refine lv_iload_n hx hb dX10_advance_114 rfl (lv_at hl 0 rfl) ?_
        refine lv_goto (tgt := 119) hx hb dX10_advance_115 (by decide) ?_
        refine va_put (D := D) (ci := 10) (v := .int (t_letters t_place_7.toNatClampNeg)) (ty := .int) (C := RX10) (T := TX10) (N := 8) hx hb ht iyX10 tyX10 tyX10_ok nmX10 hown hK hP hD hS 0 rfl rfl 6 (by decide) (ht _ wf_X10_33) (fun _ h9 => h9) rfl (by decide +kernel) rfl rfl (Nat.le_of_ble_eq_true rfl) dX10_advance_119 (fun H locs hP hD hS => ?_)
        have hP : va_P D classes [(t_a, .inr (10, [.ref t_a_letters, .ref t_a_parts, .int t_length, .int t_items, .int (t_place_7 + 1), .int t_place_7, .int (t_letters t_place_7.toNatClampNeg), .int t_value])), (t_a_letters, .inl (cI, 120, .inl t_letters))] H := hP
        have hD : va_D A [(t_a, .inr (10, [.ref t_a_letters, .ref t_a_parts, .int t_length, .int t_items, .int (t_place_7 + 1), .int t_place_7, .int (t_letters t_place_7.toNatClampNeg), .int t_value])), (t_a_letters, .inl (cI, 120, .inl t_letters))] := hD
        obtain ⟨e_0, e_1, e_2, e_3⟩ := zo4 hF
        subst e_0
        subst e_1
        subst e_2
        subst e_3
        exact zret_v S hr hlocks hK hP hD hS dX10_advance_122
      · have hF := zi_neg c_14 hF
        refine lv_iload_n hx hb dX10_advance_102 rfl (lv_at hl 0 rfl) ?_
        refine lv_bipush (v := 106) hx hb dX10_advance_103 (by decide) ?_
        refine lv_icmp_eq (tgt := 114) hx hb dX10_advance_105 (by decide) (fun c_15 => ?_) (fun c_15 => ?_)
        · have hF := zi_pos c_15 hF
          refine lv_iload_n hx hb dX10_advance_114 rfl (lv_at hl 0 rfl) ?_
          refine lv_goto (tgt := 119) hx hb dX10_advance_115 (by decide) ?_
          refine va_put (D := D) (ci := 10) (v := .int (t_letters t_place_7.toNatClampNeg)) (ty := .int) (C := RX10) (T := TX10) (N := 8) hx hb ht iyX10 tyX10 tyX10_ok nmX10 hown hK hP hD hS 0 rfl rfl 6 (by decide) (ht _ wf_X10_33) (fun _ h9 => h9) rfl (by decide +kernel) rfl rfl (Nat.le_of_ble_eq_true rfl) dX10_advance_119 (fun H locs hP hD hS => ?_)
          have hP : va_P D classes [(t_a, .inr (10, [.ref t_a_letters, .ref t_a_parts, .int t_length, .int t_items, .int (t_place_7 + 1), .int t_place_7, .int (t_letters t_place_7.toNatClampNeg), .int t_value])), (t_a_letters, .inl (cI, 120, .inl t_letters))] H := hP
          have hD : va_D A [(t_a, .inr (10, [.ref t_a_letters, .ref t_a_parts, .int t_length, .int t_items, .int (t_place_7 + 1), .int t_place_7, .int (t_letters t_place_7.toNatClampNeg), .int t_value])), (t_a_letters, .inl (cI, 120, .inl t_letters))] := hD
          obtain ⟨e_0, e_1, e_2, e_3⟩ := zo4 hF
          subst e_0
          subst e_1
          subst e_2
          subst e_3
          exact zret_v S hr hlocks hK hP hD hS dX10_advance_122
        · have hF := zi_neg c_15 hF
          refine lv_iload_n hx hb dX10_advance_108 rfl (lv_at hl 0 rfl) ?_
          refine lv_bipush (v := 59) hx hb dX10_advance_109 (by decide) ?_
          refine lv_icmp_ne (tgt := 118) hx hb dX10_advance_111 (by decide) (fun c_16 => ?_) (fun c_16 => ?_)
          · have hF := zi_neg c_16 hF
            refine lv_iconst (v := 2) hx hb dX10_advance_118 (by decide) ?_
            refine va_put (D := D) (ci := 10) (v := .int 2) (ty := .int) (C := RX10) (T := TX10) (N := 8) hx hb ht iyX10 tyX10 tyX10_ok nmX10 hown hK hP hD hS 0 rfl rfl 6 (by decide) (ht _ wf_X10_33) (fun _ h9 => h9) rfl (by decide +kernel) rfl rfl (Nat.le_of_ble_eq_true rfl) dX10_advance_119 (fun H locs hP hD hS => ?_)
            have hP : va_P D classes [(t_a, .inr (10, [.ref t_a_letters, .ref t_a_parts, .int t_length, .int t_items, .int (t_place_7 + 1), .int t_place_7, .int 2, .int t_value])), (t_a_letters, .inl (cI, 120, .inl t_letters))] H := hP
            have hD : va_D A [(t_a, .inr (10, [.ref t_a_letters, .ref t_a_parts, .int t_length, .int t_items, .int (t_place_7 + 1), .int t_place_7, .int 2, .int t_value])), (t_a_letters, .inl (cI, 120, .inl t_letters))] := hD
            obtain ⟨e_0, e_1, e_2, e_3⟩ := zo4 hF
            subst e_0
            subst e_1
            subst e_2
            subst e_3
            exact zret_v S hr hlocks hK hP hD hS dX10_advance_122
          · have hF := zi_pos c_16 hF
            refine lv_iload_n hx hb dX10_advance_114 rfl (lv_at hl 0 rfl) ?_
            refine lv_goto (tgt := 119) hx hb dX10_advance_115 (by decide) ?_
            refine va_put (D := D) (ci := 10) (v := .int (t_letters t_place_7.toNatClampNeg)) (ty := .int) (C := RX10) (T := TX10) (N := 8) hx hb ht iyX10 tyX10 tyX10_ok nmX10 hown hK hP hD hS 0 rfl rfl 6 (by decide) (ht _ wf_X10_33) (fun _ h9 => h9) rfl (by decide +kernel) rfl rfl (Nat.le_of_ble_eq_true rfl) dX10_advance_119 (fun H locs hP hD hS => ?_)
            have hP : va_P D classes [(t_a, .inr (10, [.ref t_a_letters, .ref t_a_parts, .int t_length, .int t_items, .int (t_place_7 + 1), .int t_place_7, .int (t_letters t_place_7.toNatClampNeg), .int t_value])), (t_a_letters, .inl (cI, 120, .inl t_letters))] H := hP
            have hD : va_D A [(t_a, .inr (10, [.ref t_a_letters, .ref t_a_parts, .int t_length, .int t_items, .int (t_place_7 + 1), .int t_place_7, .int (t_letters t_place_7.toNatClampNeg), .int t_value])), (t_a_letters, .inl (cI, 120, .inl t_letters))] := hD
            obtain ⟨e_0, e_1, e_2, e_3⟩ := zo4 hF
            subst e_0
            subst e_1
            subst e_2
            subst e_3
            exact zret_v S hr hlocks hK hP hD hS dX10_advance_122
    · have hF := zi_neg c_13 hF
      refine lv_aload_n hx hb dX10_advance_80 rfl (lv_at hl 1 rfl) ?_
      obtain ⟨t_place_17, t_token_18, t_value_19, hc_20, hF⟩ := zb3_s hF
      refine zcv_v (ws1 := [(t_a, .inr (10, [.ref t_a_letters, .ref t_a_parts, .int t_length, .int t_items, .int t_place_17, .int t_place_7, .int t_token_18, .int t_value_19])), (t_a_letters, .inl (cI, 120, .inl t_letters))]) S hT lk_X10_80 (c_X10_advanceDigits l D cI cZ cS cJ t_a t_a_letters t_a_parts t_length t_items t_place_7 t_place_7 t_token t_value t_letters hc_20) ⟨rfl, rfl, Nat.le_of_ble_eq_true rfl, Nat.le_of_ble_eq_true rfl⟩ hK hP hD hS hA [0, 1] [] [0, 1] rfl rfl rfl rfl rfl rfl rfl rfl rfl rfl rfl hl.1 rfl (Nat.le_of_ble_eq_true rfl) dX10_advance_81 ⟨Nat.zero_le _, Nat.zero_le _⟩ (fun H locs hP hD hS => ?_)
      obtain ⟨e_0, e_1, e_2, e_3⟩ := zo4 hF
      subst e_0
      subst e_1
      subst e_2
      subst e_3
      exact zret_v S hr hlocks hK hP hD hS dX10_advance_84
  · have hF := zi_neg c_9 hF
    refine lv_aload_n hx hb dX10_advance_57 rfl (lv_at hl 0 rfl) ?_
    refine lv_iconst (v := 0) hx hb dX10_advance_58 (by decide) ?_
    refine va_put (D := D) (ci := 10) (v := .int 0) (ty := .int) (C := RX10) (T := TX10) (N := 8) hx hb ht iyX10 tyX10 tyX10_ok nmX10 hown hK hP hD hS 0 rfl rfl 6 (by decide) (ht _ wf_X10_33) (fun _ h9 => h9) rfl (by decide +kernel) rfl rfl (Nat.le_of_ble_eq_true rfl) dX10_advance_59 (fun H locs hP hD hS => ?_)
    have hP : va_P D classes [(t_a, .inr (10, [.ref t_a_letters, .ref t_a_parts, .int t_length, .int t_items, .int t_place_7, .int t_place_7, .int 0, .int t_value])), (t_a_letters, .inl (cI, 120, .inl t_letters))] H := hP
    have hD : va_D A [(t_a, .inr (10, [.ref t_a_letters, .ref t_a_parts, .int t_length, .int t_items, .int t_place_7, .int t_place_7, .int 0, .int t_value])), (t_a_letters, .inl (cI, 120, .inl t_letters))] := hD
    obtain ⟨e_0, e_1, e_2, e_3⟩ := zo4 hF
    subst e_0
    subst e_1
    subst e_2
    subst e_3
    exact zret_v S hr hlocks hK hP hD hS dX10_advance_62

theorem lk_X10_30 : zLk RX10 30 yX10_advance cX10_advance 2 none 0 := ⟨⟨wm_X10_30, wo_X10_advance, we_X10_X10_advance, wi_X10, wd_X10_advance⟩, by decide, by decide, by decide +kernel⟩
def F_X10_readNumber (t_length : Int32) (t_place : Int32) (t_value : Int32) (t_letters : Nat → Int32) (p1 : Int32) (p2 : Int32) : Option (Int32 × Int32 × Int32 × Int32 × Int32) :=
  (zb4 (F_X10_advance t_length t_place t_value t_letters) (fun t_place_1 t_start_2 t_token_3 t_value_4 => (if t_token_3 = 1 then (if t_value_4 < p1 then some (0, t_place_1, t_start_2, t_token_3, t_value_4) else (if p2 < t_value_4 then some (0, t_place_1, t_start_2, t_token_3, t_value_4) else some (1, t_place_1, t_start_2, t_token_3, t_value_4))) else some (0, t_place_1, t_start_2, t_token_3, t_value_4))))
set_option maxHeartbeats 4000000 in
set_option maxRecDepth 100000 in
theorem c_X10_readNumber (l : Launch) (D : va_G) (cI cZ cS cJ : ClassId) (t_a : Nat) (t_a_letters : Nat) (t_a_parts : Nat) (t_length : Int32) (t_items : Int32) (t_place : Int32) (t_start : Int32) (t_token : Int32) (t_value : Int32) (t_letters : Nat → Int32) (p1 : Int32) (p2 : Int32) {r_o : Int32} {t_place_o : Int32} {t_start_o : Int32} {t_token_o : Int32} {t_value_o : Int32} (hF : F_X10_readNumber t_length t_place t_value t_letters p1 p2 = some (r_o, t_place_o, t_start_o, t_token_o, t_value_o)) : zMi l yX10_readNumber (zwl yX10_readNumber cX10_readNumber 3 (some .boolean)) { frames := 3, cells := 0, slots := 0, locals := 63 } D (TYS cI cZ cS cJ) [.ref t_a, .int p1, .int p2] [(t_a, .inr (10, [.ref t_a_letters, .ref t_a_parts, .int t_length, .int t_items, .int t_place, .int t_start, .int t_token, .int t_value])), (t_a_letters, .inl (cI, 120, .inl t_letters))] [(t_a, .inr (10, [.ref t_a_letters, .ref t_a_parts, .int t_length, .int t_items, .int t_place_o, .int t_start_o, .int t_token_o, .int t_value_o])), (t_a_letters, .inl (cI, 120, .inl t_letters))] r_o := by
  refine zent_i (own := RX10) (by decide) rfl (Nat.le_of_ble_eq_true rfl) ?_
  intro p e s m below meth c A ls S hr hlocks hK hP hD hA hl
  have hx := S.1
  have hb := S.2.1
  have hml := S.2.2.1
  have hown := S.2.2.2.1
  have hT : ∀ w ∈ zt, w ∈ zwl yX10_readNumber cX10_readNumber 3 (some .boolean) := fun _ h => List.mem_cons_of_mem _ h
  have ht : ∀ w ∈ zt, w.before [.ref t_a, .int p1, .int p2].toArray s = true := fun w h => S.2.2.2.2 w (hT w h)
  have hl : lv_has ls 3 [(0, .ref t_a), (1, .int p1), (2, .int p2)] := hl
  have hS : va_S A s.heap s.heap [] := va_S.rf
  unfold F_X10_readNumber at hF
  refine lv_aload_n hx hb dX10_readNumber_0 rfl (lv_at hl 0 rfl) ?_
  obtain ⟨t_place_1, t_start_2, t_token_3, t_value_4, hc_5, hF⟩ := zb4_s hF
  refine zcv_v (ws1 := [(t_a, .inr (10, [.ref t_a_letters, .ref t_a_parts, .int t_length, .int t_items, .int t_place_1, .int t_start_2, .int t_token_3, .int t_value_4])), (t_a_letters, .inl (cI, 120, .inl t_letters))]) S hT lk_X10_30 (c_X10_advance l D cI cZ cS cJ t_a t_a_letters t_a_parts t_length t_items t_place t_start t_token t_value t_letters hc_5) ⟨rfl, rfl, Nat.le_of_ble_eq_true rfl, Nat.le_of_ble_eq_true rfl⟩ hK hP hD hS hA [0, 1] [] [0, 1] rfl rfl rfl rfl rfl rfl rfl rfl rfl rfl rfl hl.1 rfl (Nat.le_of_ble_eq_true rfl) dX10_readNumber_1 ⟨Nat.zero_le _, Nat.zero_le _⟩ (fun H locs hP hD hS => ?_)
  refine lv_aload_n hx hb dX10_readNumber_4 rfl (lv_at hl 0 rfl) ?_
  refine va_get (D := D) (ci := 10) (v := .int t_token_3) (C := RX10) (T := TX10) (N := 8) hx hb ht iyX10 hown hK hP 0 rfl rfl 6 (by decide) (ht _ wf_X10_33) (fun _ h9 => h9) rfl dX10_readNumber_5 ?_
  refine lv_iconst (v := 1) hx hb dX10_readNumber_8 (by decide) ?_
  refine lv_icmp_ne (tgt := 32) hx hb dX10_readNumber_9 (by decide) (fun c_6 => ?_) (fun c_6 => ?_)
  · have hF := zi_neg c_6 hF
    refine lv_iconst (v := 0) hx hb dX10_readNumber_32 (by decide) ?_
    obtain ⟨e_0, e_1, e_2, e_3, e_4⟩ := zo5 hF
    subst e_0
    subst e_1
    subst e_2
    subst e_3
    subst e_4
    exact zret_z (by decide) S hr hlocks hK hP hD hS dX10_readNumber_33
  · have hF := zi_pos c_6 hF
    refine lv_aload_n hx hb dX10_readNumber_12 rfl (lv_at hl 0 rfl) ?_
    refine va_get (D := D) (ci := 10) (v := .int t_value_4) (C := RX10) (T := TX10) (N := 8) hx hb ht iyX10 hown hK hP 0 rfl rfl 7 (by decide) (ht _ wf_X10_53) (fun _ h9 => h9) rfl dX10_readNumber_13 ?_
    refine lv_iload_n hx hb dX10_readNumber_16 rfl (lv_at hl 1 rfl) ?_
    refine lv_icmp_lt (tgt := 32) hx hb dX10_readNumber_17 (by decide) (fun c_7 => ?_) (fun c_7 => ?_)
    · have hF := zi_pos c_7 hF
      refine lv_iconst (v := 0) hx hb dX10_readNumber_32 (by decide) ?_
      obtain ⟨e_0, e_1, e_2, e_3, e_4⟩ := zo5 hF
      subst e_0
      subst e_1
      subst e_2
      subst e_3
      subst e_4
      exact zret_z (by decide) S hr hlocks hK hP hD hS dX10_readNumber_33
    · have hF := zi_neg c_7 hF
      refine lv_aload_n hx hb dX10_readNumber_20 rfl (lv_at hl 0 rfl) ?_
      refine va_get (D := D) (ci := 10) (v := .int t_value_4) (C := RX10) (T := TX10) (N := 8) hx hb ht iyX10 hown hK hP 0 rfl rfl 7 (by decide) (ht _ wf_X10_53) (fun _ h9 => h9) rfl dX10_readNumber_21 ?_
      refine lv_iload_n hx hb dX10_readNumber_24 rfl (lv_at hl 2 rfl) ?_
      refine lv_icmp_gt (tgt := 32) hx hb dX10_readNumber_25 (by decide) (fun c_8 => ?_) (fun c_8 => ?_)
      · have hF := zi_pos c_8 hF
        refine lv_iconst (v := 0) hx hb dX10_readNumber_32 (by decide) ?_
        obtain ⟨e_0, e_1, e_2, e_3, e_4⟩ := zo5 hF
        subst e_0
        subst e_1
        subst e_2
        subst e_3
        subst e_4
        exact zret_z (by decide) S hr hlocks hK hP hD hS dX10_readNumber_33
      · have hF := zi_neg c_8 hF
        refine lv_iconst (v := 1) hx hb dX10_readNumber_28 (by decide) ?_
        refine lv_goto (tgt := 33) hx hb dX10_readNumber_29 (by decide) ?_
        obtain ⟨e_0, e_1, e_2, e_3, e_4⟩ := zo5 hF
        subst e_0
        subst e_1
        subst e_2
        subst e_3
        subst e_4
        exact zret_z (by decide) S hr hlocks hK hP hD hS dX10_readNumber_33

def F_X10_readStop (t_length : Int32) (t_place : Int32) (t_value : Int32) (t_letters : Nat → Int32) : Option (Int32 × Int32 × Int32 × Int32 × Int32) :=
  (zb4 (F_X10_advance t_length t_place t_value t_letters) (fun t_place_1 t_start_2 t_token_3 t_value_4 => (if t_token_3 = 59 then some (1, t_place_1, t_start_2, t_token_3, t_value_4) else some (0, t_place_1, t_start_2, t_token_3, t_value_4))))
set_option maxHeartbeats 4000000 in
set_option maxRecDepth 100000 in
theorem c_X10_readStop (l : Launch) (D : va_G) (cI cZ cS cJ : ClassId) (t_a : Nat) (t_a_letters : Nat) (t_a_parts : Nat) (t_length : Int32) (t_items : Int32) (t_place : Int32) (t_start : Int32) (t_token : Int32) (t_value : Int32) (t_letters : Nat → Int32) {r_o : Int32} {t_place_o : Int32} {t_start_o : Int32} {t_token_o : Int32} {t_value_o : Int32} (hF : F_X10_readStop t_length t_place t_value t_letters = some (r_o, t_place_o, t_start_o, t_token_o, t_value_o)) : zMi l yX10_readStop (zwl yX10_readStop cX10_readStop 1 (some .boolean)) { frames := 3, cells := 0, slots := 0, locals := 63 } D (TYS cI cZ cS cJ) [.ref t_a] [(t_a, .inr (10, [.ref t_a_letters, .ref t_a_parts, .int t_length, .int t_items, .int t_place, .int t_start, .int t_token, .int t_value])), (t_a_letters, .inl (cI, 120, .inl t_letters))] [(t_a, .inr (10, [.ref t_a_letters, .ref t_a_parts, .int t_length, .int t_items, .int t_place_o, .int t_start_o, .int t_token_o, .int t_value_o])), (t_a_letters, .inl (cI, 120, .inl t_letters))] r_o := by
  refine zent_i (own := RX10) (by decide) rfl (Nat.le_of_ble_eq_true rfl) ?_
  intro p e s m below meth c A ls S hr hlocks hK hP hD hA hl
  have hx := S.1
  have hb := S.2.1
  have hml := S.2.2.1
  have hown := S.2.2.2.1
  have hT : ∀ w ∈ zt, w ∈ zwl yX10_readStop cX10_readStop 1 (some .boolean) := fun _ h => List.mem_cons_of_mem _ h
  have ht : ∀ w ∈ zt, w.before [.ref t_a].toArray s = true := fun w h => S.2.2.2.2 w (hT w h)
  have hl : lv_has ls 1 [(0, .ref t_a)] := hl
  have hS : va_S A s.heap s.heap [] := va_S.rf
  unfold F_X10_readStop at hF
  refine lv_aload_n hx hb dX10_readStop_0 rfl (lv_at hl 0 rfl) ?_
  obtain ⟨t_place_1, t_start_2, t_token_3, t_value_4, hc_5, hF⟩ := zb4_s hF
  refine zcv_v (ws1 := [(t_a, .inr (10, [.ref t_a_letters, .ref t_a_parts, .int t_length, .int t_items, .int t_place_1, .int t_start_2, .int t_token_3, .int t_value_4])), (t_a_letters, .inl (cI, 120, .inl t_letters))]) S hT lk_X10_30 (c_X10_advance l D cI cZ cS cJ t_a t_a_letters t_a_parts t_length t_items t_place t_start t_token t_value t_letters hc_5) ⟨rfl, rfl, Nat.le_of_ble_eq_true rfl, Nat.le_of_ble_eq_true rfl⟩ hK hP hD hS hA [0, 1] [] [0, 1] rfl rfl rfl rfl rfl rfl rfl rfl rfl rfl rfl hl.1 rfl (Nat.le_of_ble_eq_true rfl) dX10_readStop_1 ⟨Nat.zero_le _, Nat.zero_le _⟩ (fun H locs hP hD hS => ?_)
  refine lv_aload_n hx hb dX10_readStop_4 rfl (lv_at hl 0 rfl) ?_
  refine va_get (D := D) (ci := 10) (v := .int t_token_3) (C := RX10) (T := TX10) (N := 8) hx hb ht iyX10 hown hK hP 0 rfl rfl 6 (by decide) (ht _ wf_X10_33) (fun _ h9 => h9) rfl dX10_readStop_5 ?_
  refine lv_bipush (v := 59) hx hb dX10_readStop_8 (by decide) ?_
  refine lv_icmp_ne (tgt := 17) hx hb dX10_readStop_10 (by decide) (fun c_6 => ?_) (fun c_6 => ?_)
  · have hF := zi_neg c_6 hF
    refine lv_iconst (v := 0) hx hb dX10_readStop_17 (by decide) ?_
    obtain ⟨e_0, e_1, e_2, e_3, e_4⟩ := zo5 hF
    subst e_0
    subst e_1
    subst e_2
    subst e_3
    subst e_4
    exact zret_z (by decide) S hr hlocks hK hP hD hS dX10_readStop_18
  · have hF := zi_pos c_6 hF
    refine lv_iconst (v := 1) hx hb dX10_readStop_13 (by decide) ?_
    refine lv_goto (tgt := 18) hx hb dX10_readStop_14 (by decide) ?_
    obtain ⟨e_0, e_1, e_2, e_3, e_4⟩ := zo5 hF
    subst e_0
    subst e_1
    subst e_2
    subst e_3
    subst e_4
    exact zret_z (by decide) S hr hlocks hK hP hD hS dX10_readStop_18

theorem lk_X10_49 : zLk RX10 49 yX10_readNumber cX10_readNumber 3 (some .boolean) 2 := ⟨⟨wm_X10_49, wo_X10_readNumber, we_X10_X10_readNumber, wi_X10, wd_X10_readNumber⟩, by decide, by decide, by decide +kernel⟩
theorem lk_X10_59 : zLk RX10 59 yX10_readStop cX10_readStop 1 (some .boolean) 0 := ⟨⟨wm_X10_59, wo_X10_readStop, we_X10_X10_readStop, wi_X10, wd_X10_readStop⟩, by decide, by decide, by decide +kernel⟩
def F_X10_readEvery (t_length : Int32) (t_place : Int32) (t_value : Int32) (t_letters : Nat → Int32) (c_every : Int32) : Option (Int32 × Int32 × Int32 × Int32 × Int32 × Int32) :=
  (zb5 (F_X10_readNumber t_length t_place t_value t_letters 2 9) (fun r_1 t_place_2 t_start_3 t_token_4 t_value_5 => (if r_1 = 0 then some (0, t_place_2, t_start_3, t_token_4, t_value_5, c_every) else (zb5 (F_X10_readStop t_length t_place_2 t_value_5 t_letters) (fun r_8 t_place_9 t_start_10 t_token_11 t_value_12 => (if ¬ (r_8 = 0 ∨ r_8 = 1) then none else some (r_8, t_place_9, t_start_10, t_token_11, t_value_12, t_value_5)))))))
set_option maxHeartbeats 4000000 in
set_option maxRecDepth 100000 in
theorem c_X10_readEvery (l : Launch) (D : va_G) (cI cZ cS cJ : ClassId) (t_a : Nat) (t_a_letters : Nat) (t_a_parts : Nat) (c_a : Nat) (c_a_period : Nat) (c_a_hang : Nat) (c_a_start : Nat) (c_a_wind : Nat) (t_length : Int32) (t_items : Int32) (t_place : Int32) (t_start : Int32) (t_token : Int32) (t_value : Int32) (t_letters : Nat → Int32) (c_every : Int32) (c_size : Int32) {r_o : Int32} {t_place_o : Int32} {t_start_o : Int32} {t_token_o : Int32} {t_value_o : Int32} {c_every_o : Int32} (hF : F_X10_readEvery t_length t_place t_value t_letters c_every = some (r_o, t_place_o, t_start_o, t_token_o, t_value_o, c_every_o)) : zMi l yX10_readEvery (zwl yX10_readEvery cX10_readEvery 2 (some .boolean)) { frames := 4, cells := 0, slots := 0, locals := 85 } D (TYS cI cZ cS cJ) [.ref t_a, .ref c_a] [(t_a, .inr (10, [.ref t_a_letters, .ref t_a_parts, .int t_length, .int t_items, .int t_place, .int t_start, .int t_token, .int t_value])), (t_a_letters, .inl (cI, 120, .inl t_letters)), (c_a, .inr (1, [.int c_every, .int c_size, .ref c_a_period, .ref c_a_hang, .ref c_a_start, .ref c_a_wind]))] [(t_a, .inr (10, [.ref t_a_letters, .ref t_a_parts, .int t_length, .int t_items, .int t_place_o, .int t_start_o, .int t_token_o, .int t_value_o])), (t_a_letters, .inl (cI, 120, .inl t_letters)), (c_a, .inr (1, [.int c_every_o, .int c_size, .ref c_a_period, .ref c_a_hang, .ref c_a_start, .ref c_a_wind]))] r_o := by
  refine zent_i (own := RX10) (by decide) rfl (Nat.le_of_ble_eq_true rfl) ?_
  intro p e s m below meth c A ls S hr hlocks hK hP hD hA hl
  have hx := S.1
  have hb := S.2.1
  have hml := S.2.2.1
  have hown := S.2.2.2.1
  have hT : ∀ w ∈ zt, w ∈ zwl yX10_readEvery cX10_readEvery 2 (some .boolean) := fun _ h => List.mem_cons_of_mem _ h
  have ht : ∀ w ∈ zt, w.before [.ref t_a, .ref c_a].toArray s = true := fun w h => S.2.2.2.2 w (hT w h)
  have hl : lv_has ls 2 [(0, .ref t_a), (1, .ref c_a)] := hl
  have hS : va_S A s.heap s.heap [] := va_S.rf
  unfold F_X10_readEvery at hF
  refine lv_aload_n hx hb dX10_readEvery_0 rfl (lv_at hl 0 rfl) ?_
  refine lv_iconst (v := 2) hx hb dX10_readEvery_1 (by decide) ?_
  refine lv_bipush (v := 9) hx hb dX10_readEvery_2 (by decide) ?_
  obtain ⟨r_1, t_place_2, t_start_3, t_token_4, t_value_5, hc_6, hF⟩ := zb5_s hF
  refine zcv_i (ws1 := [(t_a, .inr (10, [.ref t_a_letters, .ref t_a_parts, .int t_length, .int t_items, .int t_place_2, .int t_start_3, .int t_token_4, .int t_value_5])), (t_a_letters, .inl (cI, 120, .inl t_letters)), (c_a, .inr (1, [.int c_every, .int c_size, .ref c_a_period, .ref c_a_hang, .ref c_a_start, .ref c_a_wind]))]) S hT lk_X10_49 (c_X10_readNumber l D cI cZ cS cJ t_a t_a_letters t_a_parts t_length t_items t_place t_start t_token t_value t_letters 2 9 hc_6) ⟨rfl, rfl, Nat.le_of_ble_eq_true rfl, Nat.le_of_ble_eq_true rfl⟩ hK hP hD hS hA [0, 1] [2] [1, 2, 0] rfl rfl rfl rfl rfl rfl rfl rfl rfl rfl rfl hl.1 rfl (Nat.le_of_ble_eq_true rfl) dX10_readEvery_4 ⟨Nat.zero_le _, Nat.zero_le _⟩ (fun H locs hP hD hS => ?_)
  refine lv_if_ne (tgt := 12) hx hb dX10_readEvery_7 (by decide) (fun c_7 => ?_) (fun c_7 => ?_)
  · have hF := zi_neg c_7 hF
    refine lv_aload_n hx hb dX10_readEvery_12 rfl (lv_at hl 1 rfl) ?_
    refine lv_aload_n hx hb dX10_readEvery_13 rfl (lv_at hl 0 rfl) ?_
    refine va_get (D := D) (ci := 10) (v := .int t_value_5) (C := RX10) (T := TX10) (N := 8) hx hb ht iyX10 hown hK hP 0 rfl rfl 7 (by decide) (ht _ wf_X10_53) (fun _ h9 => h9) rfl dX10_readEvery_14 ?_
    refine va_put (D := D) (ci := 1) (v := .int t_value_5) (ty := .int) (C := RX1) (T := TX1) (N := 6) hx hb ht iyX1 tyX1 tyX1_ok nmX1 hown hK hP hD hS 2 rfl rfl 0 (by decide) (ht _ wf_X10_56) (fun _ h9 => h9) rfl (by decide +kernel) rfl rfl (Nat.le_of_ble_eq_true rfl) dX10_readEvery_17 (fun H locs hP hD hS => ?_)
    have hP : va_P D classes [(t_a, .inr (10, [.ref t_a_letters, .ref t_a_parts, .int t_length, .int t_items, .int t_place_2, .int t_start_3, .int t_token_4, .int t_value_5])), (t_a_letters, .inl (cI, 120, .inl t_letters)), (c_a, .inr (1, [.int t_value_5, .int c_size, .ref c_a_period, .ref c_a_hang, .ref c_a_start, .ref c_a_wind]))] H := hP
    have hD : va_D A [(t_a, .inr (10, [.ref t_a_letters, .ref t_a_parts, .int t_length, .int t_items, .int t_place_2, .int t_start_3, .int t_token_4, .int t_value_5])), (t_a_letters, .inl (cI, 120, .inl t_letters)), (c_a, .inr (1, [.int t_value_5, .int c_size, .ref c_a_period, .ref c_a_hang, .ref c_a_start, .ref c_a_wind]))] := hD
    refine lv_aload_n hx hb dX10_readEvery_20 rfl (lv_at hl 0 rfl) ?_
    obtain ⟨r_8, t_place_9, t_start_10, t_token_11, t_value_12, hc_13, hF⟩ := zb5_s hF
    refine zcv_i (ws1 := [(t_a, .inr (10, [.ref t_a_letters, .ref t_a_parts, .int t_length, .int t_items, .int t_place_9, .int t_start_10, .int t_token_11, .int t_value_12])), (t_a_letters, .inl (cI, 120, .inl t_letters)), (c_a, .inr (1, [.int t_value_5, .int c_size, .ref c_a_period, .ref c_a_hang, .ref c_a_start, .ref c_a_wind]))]) S hT lk_X10_59 (c_X10_readStop l D cI cZ cS cJ t_a t_a_letters t_a_parts t_length t_items t_place_2 t_start_3 t_token_4 t_value_5 t_letters hc_13) ⟨rfl, rfl, Nat.le_of_ble_eq_true rfl, Nat.le_of_ble_eq_true rfl⟩ hK hP hD hS hA [0, 1] [2] [1, 2, 0] rfl rfl rfl rfl rfl rfl rfl rfl rfl rfl rfl hl.1 rfl (Nat.le_of_ble_eq_true rfl) dX10_readEvery_21 ⟨Nat.zero_le _, Nat.zero_le _⟩ (fun H locs hP hD hS => ?_)
    obtain ⟨h_14, hF⟩ := zi_chk hF
    obtain ⟨e_0, e_1, e_2, e_3, e_4, e_5⟩ := zo6 hF
    subst e_0
    subst e_1
    subst e_2
    subst e_3
    subst e_4
    subst e_5
    exact zret_z (Decidable.not_not.mp h_14) S hr hlocks hK hP hD hS dX10_readEvery_24
  · have hF := zi_pos c_7 hF
    refine lv_iconst (v := 0) hx hb dX10_readEvery_10 (by decide) ?_
    obtain ⟨e_0, e_1, e_2, e_3, e_4, e_5⟩ := zo6 hF
    subst e_0
    subst e_1
    subst e_2
    subst e_3
    subst e_4
    subst e_5
    exact zret_z (by decide) S hr hlocks hK hP hD hS dX10_readEvery_11

def F_J6_bitCount_0f7a4 (p0 : Int32) : Option (Int32) :=
  some ((((((((p0 - (((p0.toUInt32 >>> ((1 : Int32).toUInt32 &&& Int32.toUInt32 31)).toInt32) &&& 1431655765)) &&& 858993459) + ((((p0 - (((p0.toUInt32 >>> ((1 : Int32).toUInt32 &&& Int32.toUInt32 31)).toInt32) &&& 1431655765)).toUInt32 >>> ((2 : Int32).toUInt32 &&& Int32.toUInt32 31)).toInt32) &&& 858993459)) + (((((p0 - (((p0.toUInt32 >>> ((1 : Int32).toUInt32 &&& Int32.toUInt32 31)).toInt32) &&& 1431655765)) &&& 858993459) + ((((p0 - (((p0.toUInt32 >>> ((1 : Int32).toUInt32 &&& Int32.toUInt32 31)).toInt32) &&& 1431655765)).toUInt32 >>> ((2 : Int32).toUInt32 &&& Int32.toUInt32 31)).toInt32) &&& 858993459)).toUInt32 >>> ((4 : Int32).toUInt32 &&& Int32.toUInt32 31)).toInt32)) &&& 252645135) + (((((((p0 - (((p0.toUInt32 >>> ((1 : Int32).toUInt32 &&& Int32.toUInt32 31)).toInt32) &&& 1431655765)) &&& 858993459) + ((((p0 - (((p0.toUInt32 >>> ((1 : Int32).toUInt32 &&& Int32.toUInt32 31)).toInt32) &&& 1431655765)).toUInt32 >>> ((2 : Int32).toUInt32 &&& Int32.toUInt32 31)).toInt32) &&& 858993459)) + (((((p0 - (((p0.toUInt32 >>> ((1 : Int32).toUInt32 &&& Int32.toUInt32 31)).toInt32) &&& 1431655765)) &&& 858993459) + ((((p0 - (((p0.toUInt32 >>> ((1 : Int32).toUInt32 &&& Int32.toUInt32 31)).toInt32) &&& 1431655765)).toUInt32 >>> ((2 : Int32).toUInt32 &&& Int32.toUInt32 31)).toInt32) &&& 858993459)).toUInt32 >>> ((4 : Int32).toUInt32 &&& Int32.toUInt32 31)).toInt32)) &&& 252645135).toUInt32 >>> ((8 : Int32).toUInt32 &&& Int32.toUInt32 31)).toInt32)) + ((((((((p0 - (((p0.toUInt32 >>> ((1 : Int32).toUInt32 &&& Int32.toUInt32 31)).toInt32) &&& 1431655765)) &&& 858993459) + ((((p0 - (((p0.toUInt32 >>> ((1 : Int32).toUInt32 &&& Int32.toUInt32 31)).toInt32) &&& 1431655765)).toUInt32 >>> ((2 : Int32).toUInt32 &&& Int32.toUInt32 31)).toInt32) &&& 858993459)) + (((((p0 - (((p0.toUInt32 >>> ((1 : Int32).toUInt32 &&& Int32.toUInt32 31)).toInt32) &&& 1431655765)) &&& 858993459) + ((((p0 - (((p0.toUInt32 >>> ((1 : Int32).toUInt32 &&& Int32.toUInt32 31)).toInt32) &&& 1431655765)).toUInt32 >>> ((2 : Int32).toUInt32 &&& Int32.toUInt32 31)).toInt32) &&& 858993459)).toUInt32 >>> ((4 : Int32).toUInt32 &&& Int32.toUInt32 31)).toInt32)) &&& 252645135) + (((((((p0 - (((p0.toUInt32 >>> ((1 : Int32).toUInt32 &&& Int32.toUInt32 31)).toInt32) &&& 1431655765)) &&& 858993459) + ((((p0 - (((p0.toUInt32 >>> ((1 : Int32).toUInt32 &&& Int32.toUInt32 31)).toInt32) &&& 1431655765)).toUInt32 >>> ((2 : Int32).toUInt32 &&& Int32.toUInt32 31)).toInt32) &&& 858993459)) + (((((p0 - (((p0.toUInt32 >>> ((1 : Int32).toUInt32 &&& Int32.toUInt32 31)).toInt32) &&& 1431655765)) &&& 858993459) + ((((p0 - (((p0.toUInt32 >>> ((1 : Int32).toUInt32 &&& Int32.toUInt32 31)).toInt32) &&& 1431655765)).toUInt32 >>> ((2 : Int32).toUInt32 &&& Int32.toUInt32 31)).toInt32) &&& 858993459)).toUInt32 >>> ((4 : Int32).toUInt32 &&& Int32.toUInt32 31)).toInt32)) &&& 252645135).toUInt32 >>> ((8 : Int32).toUInt32 &&& Int32.toUInt32 31)).toInt32)).toUInt32 >>> ((16 : Int32).toUInt32 &&& Int32.toUInt32 31)).toInt32)) &&& 63)
set_option maxHeartbeats 4000000 in
set_option maxRecDepth 100000 in
theorem c_J6_bitCount_0f7a4 (l : Launch) (D : va_G) (cI cZ cS cJ : ClassId) (p0 : Int32) {r_o : Int32} (hF : F_J6_bitCount_0f7a4 p0 = some (r_o)) : zMi l yJ6_bitCount_0f7a4 (zwl yJ6_bitCount_0f7a4 cJ6_bitCount_0f7a4 1 (some .int)) { frames := 0, cells := 0, slots := 0, locals := 0 } D (TYS cI cZ cS cJ) [.int p0] [] [] r_o := by
  refine zent_i (own := RJ6) (by decide) rfl (Nat.le_of_ble_eq_true rfl) ?_
  intro p e s m below meth c A ls S hr hlocks hK hP hD hA hl
  have hx := S.1
  have hb := S.2.1
  have hml := S.2.2.1
  have hown := S.2.2.2.1
  have hT : ∀ w ∈ zt, w ∈ zwl yJ6_bitCount_0f7a4 cJ6_bitCount_0f7a4 1 (some .int) := fun _ h => List.mem_cons_of_mem _ h
  have ht : ∀ w ∈ zt, w.before [.int p0].toArray s = true := fun w h => S.2.2.2.2 w (hT w h)
  have hl : lv_has ls 1 [(0, .int p0)] := hl
  have hS : va_S A s.heap s.heap [] := va_S.rf
  unfold F_J6_bitCount_0f7a4 at hF
  refine lv_iload_n hx hb dJ6_bitCount_0f7a4_0 rfl (lv_at hl 0 rfl) ?_
  refine lv_iload_n hx hb dJ6_bitCount_0f7a4_1 rfl (lv_at hl 0 rfl) ?_
  refine lv_iconst (v := 1) hx hb dJ6_bitCount_0f7a4_2 (by decide) ?_
  refine lv_iushr (v := (p0.toUInt32 >>> ((1 : Int32).toUInt32 &&& Int32.toUInt32 31)).toInt32) hx hb dJ6_bitCount_0f7a4_3 rfl ?_
  refine lv_ldcw (v := 1431655765) hx hb hown (ht _ wc_J6_265) dJ6_bitCount_0f7a4_4 ?_
  refine lv_iand hx hb dJ6_bitCount_0f7a4_7 ?_
  refine lv_isub hx hb dJ6_bitCount_0f7a4_8 ?_
  refine lv_istore_n (lv' := [(0, .int (p0 - (((p0.toUInt32 >>> ((1 : Int32).toUInt32 &&& Int32.toUInt32 31)).toInt32) &&& 1431655765)))]) hx hb dJ6_bitCount_0f7a4_9 rfl hl (by decide) rfl (fun ls hl => ?_)
  refine lv_iload_n hx hb dJ6_bitCount_0f7a4_10 rfl (lv_at hl 0 rfl) ?_
  refine lv_ldcw (v := 858993459) hx hb hown (ht _ wc_J6_266) dJ6_bitCount_0f7a4_11 ?_
  refine lv_iand hx hb dJ6_bitCount_0f7a4_14 ?_
  refine lv_iload_n hx hb dJ6_bitCount_0f7a4_15 rfl (lv_at hl 0 rfl) ?_
  refine lv_iconst (v := 2) hx hb dJ6_bitCount_0f7a4_16 (by decide) ?_
  refine lv_iushr (v := ((p0 - (((p0.toUInt32 >>> ((1 : Int32).toUInt32 &&& Int32.toUInt32 31)).toInt32) &&& 1431655765)).toUInt32 >>> ((2 : Int32).toUInt32 &&& Int32.toUInt32 31)).toInt32) hx hb dJ6_bitCount_0f7a4_17 rfl ?_
  refine lv_ldcw (v := 858993459) hx hb hown (ht _ wc_J6_266) dJ6_bitCount_0f7a4_18 ?_
  refine lv_iand hx hb dJ6_bitCount_0f7a4_21 ?_
  refine lv_iadd hx hb dJ6_bitCount_0f7a4_22 ?_
  refine lv_istore_n (lv' := [(0, .int (((p0 - (((p0.toUInt32 >>> ((1 : Int32).toUInt32 &&& Int32.toUInt32 31)).toInt32) &&& 1431655765)) &&& 858993459) + ((((p0 - (((p0.toUInt32 >>> ((1 : Int32).toUInt32 &&& Int32.toUInt32 31)).toInt32) &&& 1431655765)).toUInt32 >>> ((2 : Int32).toUInt32 &&& Int32.toUInt32 31)).toInt32) &&& 858993459)))]) hx hb dJ6_bitCount_0f7a4_23 rfl hl (by decide) rfl (fun ls hl => ?_)
  refine lv_iload_n hx hb dJ6_bitCount_0f7a4_24 rfl (lv_at hl 0 rfl) ?_
  refine lv_iload_n hx hb dJ6_bitCount_0f7a4_25 rfl (lv_at hl 0 rfl) ?_
  refine lv_iconst (v := 4) hx hb dJ6_bitCount_0f7a4_26 (by decide) ?_
  refine lv_iushr (v := ((((p0 - (((p0.toUInt32 >>> ((1 : Int32).toUInt32 &&& Int32.toUInt32 31)).toInt32) &&& 1431655765)) &&& 858993459) + ((((p0 - (((p0.toUInt32 >>> ((1 : Int32).toUInt32 &&& Int32.toUInt32 31)).toInt32) &&& 1431655765)).toUInt32 >>> ((2 : Int32).toUInt32 &&& Int32.toUInt32 31)).toInt32) &&& 858993459)).toUInt32 >>> ((4 : Int32).toUInt32 &&& Int32.toUInt32 31)).toInt32) hx hb dJ6_bitCount_0f7a4_27 rfl ?_
  refine lv_iadd hx hb dJ6_bitCount_0f7a4_28 ?_
  refine lv_ldcw (v := 252645135) hx hb hown (ht _ wc_J6_267) dJ6_bitCount_0f7a4_29 ?_
  refine lv_iand hx hb dJ6_bitCount_0f7a4_32 ?_
  refine lv_istore_n (lv' := [(0, .int (((((p0 - (((p0.toUInt32 >>> ((1 : Int32).toUInt32 &&& Int32.toUInt32 31)).toInt32) &&& 1431655765)) &&& 858993459) + ((((p0 - (((p0.toUInt32 >>> ((1 : Int32).toUInt32 &&& Int32.toUInt32 31)).toInt32) &&& 1431655765)).toUInt32 >>> ((2 : Int32).toUInt32 &&& Int32.toUInt32 31)).toInt32) &&& 858993459)) + (((((p0 - (((p0.toUInt32 >>> ((1 : Int32).toUInt32 &&& Int32.toUInt32 31)).toInt32) &&& 1431655765)) &&& 858993459) + ((((p0 - (((p0.toUInt32 >>> ((1 : Int32).toUInt32 &&& Int32.toUInt32 31)).toInt32) &&& 1431655765)).toUInt32 >>> ((2 : Int32).toUInt32 &&& Int32.toUInt32 31)).toInt32) &&& 858993459)).toUInt32 >>> ((4 : Int32).toUInt32 &&& Int32.toUInt32 31)).toInt32)) &&& 252645135))]) hx hb dJ6_bitCount_0f7a4_33 rfl hl (by decide) rfl (fun ls hl => ?_)
  refine lv_iload_n hx hb dJ6_bitCount_0f7a4_34 rfl (lv_at hl 0 rfl) ?_
  refine lv_iload_n hx hb dJ6_bitCount_0f7a4_35 rfl (lv_at hl 0 rfl) ?_
  refine lv_bipush (v := 8) hx hb dJ6_bitCount_0f7a4_36 (by decide) ?_
  refine lv_iushr (v := ((((((p0 - (((p0.toUInt32 >>> ((1 : Int32).toUInt32 &&& Int32.toUInt32 31)).toInt32) &&& 1431655765)) &&& 858993459) + ((((p0 - (((p0.toUInt32 >>> ((1 : Int32).toUInt32 &&& Int32.toUInt32 31)).toInt32) &&& 1431655765)).toUInt32 >>> ((2 : Int32).toUInt32 &&& Int32.toUInt32 31)).toInt32) &&& 858993459)) + (((((p0 - (((p0.toUInt32 >>> ((1 : Int32).toUInt32 &&& Int32.toUInt32 31)).toInt32) &&& 1431655765)) &&& 858993459) + ((((p0 - (((p0.toUInt32 >>> ((1 : Int32).toUInt32 &&& Int32.toUInt32 31)).toInt32) &&& 1431655765)).toUInt32 >>> ((2 : Int32).toUInt32 &&& Int32.toUInt32 31)).toInt32) &&& 858993459)).toUInt32 >>> ((4 : Int32).toUInt32 &&& Int32.toUInt32 31)).toInt32)) &&& 252645135).toUInt32 >>> ((8 : Int32).toUInt32 &&& Int32.toUInt32 31)).toInt32) hx hb dJ6_bitCount_0f7a4_38 rfl ?_
  refine lv_iadd hx hb dJ6_bitCount_0f7a4_39 ?_
  refine lv_istore_n (lv' := [(0, .int ((((((p0 - (((p0.toUInt32 >>> ((1 : Int32).toUInt32 &&& Int32.toUInt32 31)).toInt32) &&& 1431655765)) &&& 858993459) + ((((p0 - (((p0.toUInt32 >>> ((1 : Int32).toUInt32 &&& Int32.toUInt32 31)).toInt32) &&& 1431655765)).toUInt32 >>> ((2 : Int32).toUInt32 &&& Int32.toUInt32 31)).toInt32) &&& 858993459)) + (((((p0 - (((p0.toUInt32 >>> ((1 : Int32).toUInt32 &&& Int32.toUInt32 31)).toInt32) &&& 1431655765)) &&& 858993459) + ((((p0 - (((p0.toUInt32 >>> ((1 : Int32).toUInt32 &&& Int32.toUInt32 31)).toInt32) &&& 1431655765)).toUInt32 >>> ((2 : Int32).toUInt32 &&& Int32.toUInt32 31)).toInt32) &&& 858993459)).toUInt32 >>> ((4 : Int32).toUInt32 &&& Int32.toUInt32 31)).toInt32)) &&& 252645135) + (((((((p0 - (((p0.toUInt32 >>> ((1 : Int32).toUInt32 &&& Int32.toUInt32 31)).toInt32) &&& 1431655765)) &&& 858993459) + ((((p0 - (((p0.toUInt32 >>> ((1 : Int32).toUInt32 &&& Int32.toUInt32 31)).toInt32) &&& 1431655765)).toUInt32 >>> ((2 : Int32).toUInt32 &&& Int32.toUInt32 31)).toInt32) &&& 858993459)) + (((((p0 - (((p0.toUInt32 >>> ((1 : Int32).toUInt32 &&& Int32.toUInt32 31)).toInt32) &&& 1431655765)) &&& 858993459) + ((((p0 - (((p0.toUInt32 >>> ((1 : Int32).toUInt32 &&& Int32.toUInt32 31)).toInt32) &&& 1431655765)).toUInt32 >>> ((2 : Int32).toUInt32 &&& Int32.toUInt32 31)).toInt32) &&& 858993459)).toUInt32 >>> ((4 : Int32).toUInt32 &&& Int32.toUInt32 31)).toInt32)) &&& 252645135).toUInt32 >>> ((8 : Int32).toUInt32 &&& Int32.toUInt32 31)).toInt32)))]) hx hb dJ6_bitCount_0f7a4_40 rfl hl (by decide) rfl (fun ls hl => ?_)
  refine lv_iload_n hx hb dJ6_bitCount_0f7a4_41 rfl (lv_at hl 0 rfl) ?_
  refine lv_iload_n hx hb dJ6_bitCount_0f7a4_42 rfl (lv_at hl 0 rfl) ?_
  refine lv_bipush (v := 16) hx hb dJ6_bitCount_0f7a4_43 (by decide) ?_
  refine lv_iushr (v := (((((((p0 - (((p0.toUInt32 >>> ((1 : Int32).toUInt32 &&& Int32.toUInt32 31)).toInt32) &&& 1431655765)) &&& 858993459) + ((((p0 - (((p0.toUInt32 >>> ((1 : Int32).toUInt32 &&& Int32.toUInt32 31)).toInt32) &&& 1431655765)).toUInt32 >>> ((2 : Int32).toUInt32 &&& Int32.toUInt32 31)).toInt32) &&& 858993459)) + (((((p0 - (((p0.toUInt32 >>> ((1 : Int32).toUInt32 &&& Int32.toUInt32 31)).toInt32) &&& 1431655765)) &&& 858993459) + ((((p0 - (((p0.toUInt32 >>> ((1 : Int32).toUInt32 &&& Int32.toUInt32 31)).toInt32) &&& 1431655765)).toUInt32 >>> ((2 : Int32).toUInt32 &&& Int32.toUInt32 31)).toInt32) &&& 858993459)).toUInt32 >>> ((4 : Int32).toUInt32 &&& Int32.toUInt32 31)).toInt32)) &&& 252645135) + (((((((p0 - (((p0.toUInt32 >>> ((1 : Int32).toUInt32 &&& Int32.toUInt32 31)).toInt32) &&& 1431655765)) &&& 858993459) + ((((p0 - (((p0.toUInt32 >>> ((1 : Int32).toUInt32 &&& Int32.toUInt32 31)).toInt32) &&& 1431655765)).toUInt32 >>> ((2 : Int32).toUInt32 &&& Int32.toUInt32 31)).toInt32) &&& 858993459)) + (((((p0 - (((p0.toUInt32 >>> ((1 : Int32).toUInt32 &&& Int32.toUInt32 31)).toInt32) &&& 1431655765)) &&& 858993459) + ((((p0 - (((p0.toUInt32 >>> ((1 : Int32).toUInt32 &&& Int32.toUInt32 31)).toInt32) &&& 1431655765)).toUInt32 >>> ((2 : Int32).toUInt32 &&& Int32.toUInt32 31)).toInt32) &&& 858993459)).toUInt32 >>> ((4 : Int32).toUInt32 &&& Int32.toUInt32 31)).toInt32)) &&& 252645135).toUInt32 >>> ((8 : Int32).toUInt32 &&& Int32.toUInt32 31)).toInt32)).toUInt32 >>> ((16 : Int32).toUInt32 &&& Int32.toUInt32 31)).toInt32) hx hb dJ6_bitCount_0f7a4_45 rfl ?_
  refine lv_iadd hx hb dJ6_bitCount_0f7a4_46 ?_
  refine lv_istore_n (lv' := [(0, .int (((((((p0 - (((p0.toUInt32 >>> ((1 : Int32).toUInt32 &&& Int32.toUInt32 31)).toInt32) &&& 1431655765)) &&& 858993459) + ((((p0 - (((p0.toUInt32 >>> ((1 : Int32).toUInt32 &&& Int32.toUInt32 31)).toInt32) &&& 1431655765)).toUInt32 >>> ((2 : Int32).toUInt32 &&& Int32.toUInt32 31)).toInt32) &&& 858993459)) + (((((p0 - (((p0.toUInt32 >>> ((1 : Int32).toUInt32 &&& Int32.toUInt32 31)).toInt32) &&& 1431655765)) &&& 858993459) + ((((p0 - (((p0.toUInt32 >>> ((1 : Int32).toUInt32 &&& Int32.toUInt32 31)).toInt32) &&& 1431655765)).toUInt32 >>> ((2 : Int32).toUInt32 &&& Int32.toUInt32 31)).toInt32) &&& 858993459)).toUInt32 >>> ((4 : Int32).toUInt32 &&& Int32.toUInt32 31)).toInt32)) &&& 252645135) + (((((((p0 - (((p0.toUInt32 >>> ((1 : Int32).toUInt32 &&& Int32.toUInt32 31)).toInt32) &&& 1431655765)) &&& 858993459) + ((((p0 - (((p0.toUInt32 >>> ((1 : Int32).toUInt32 &&& Int32.toUInt32 31)).toInt32) &&& 1431655765)).toUInt32 >>> ((2 : Int32).toUInt32 &&& Int32.toUInt32 31)).toInt32) &&& 858993459)) + (((((p0 - (((p0.toUInt32 >>> ((1 : Int32).toUInt32 &&& Int32.toUInt32 31)).toInt32) &&& 1431655765)) &&& 858993459) + ((((p0 - (((p0.toUInt32 >>> ((1 : Int32).toUInt32 &&& Int32.toUInt32 31)).toInt32) &&& 1431655765)).toUInt32 >>> ((2 : Int32).toUInt32 &&& Int32.toUInt32 31)).toInt32) &&& 858993459)).toUInt32 >>> ((4 : Int32).toUInt32 &&& Int32.toUInt32 31)).toInt32)) &&& 252645135).toUInt32 >>> ((8 : Int32).toUInt32 &&& Int32.toUInt32 31)).toInt32)) + ((((((((p0 - (((p0.toUInt32 >>> ((1 : Int32).toUInt32 &&& Int32.toUInt32 31)).toInt32) &&& 1431655765)) &&& 858993459) + ((((p0 - (((p0.toUInt32 >>> ((1 : Int32).toUInt32 &&& Int32.toUInt32 31)).toInt32) &&& 1431655765)).toUInt32 >>> ((2 : Int32).toUInt32 &&& Int32.toUInt32 31)).toInt32) &&& 858993459)) + (((((p0 - (((p0.toUInt32 >>> ((1 : Int32).toUInt32 &&& Int32.toUInt32 31)).toInt32) &&& 1431655765)) &&& 858993459) + ((((p0 - (((p0.toUInt32 >>> ((1 : Int32).toUInt32 &&& Int32.toUInt32 31)).toInt32) &&& 1431655765)).toUInt32 >>> ((2 : Int32).toUInt32 &&& Int32.toUInt32 31)).toInt32) &&& 858993459)).toUInt32 >>> ((4 : Int32).toUInt32 &&& Int32.toUInt32 31)).toInt32)) &&& 252645135) + (((((((p0 - (((p0.toUInt32 >>> ((1 : Int32).toUInt32 &&& Int32.toUInt32 31)).toInt32) &&& 1431655765)) &&& 858993459) + ((((p0 - (((p0.toUInt32 >>> ((1 : Int32).toUInt32 &&& Int32.toUInt32 31)).toInt32) &&& 1431655765)).toUInt32 >>> ((2 : Int32).toUInt32 &&& Int32.toUInt32 31)).toInt32) &&& 858993459)) + (((((p0 - (((p0.toUInt32 >>> ((1 : Int32).toUInt32 &&& Int32.toUInt32 31)).toInt32) &&& 1431655765)) &&& 858993459) + ((((p0 - (((p0.toUInt32 >>> ((1 : Int32).toUInt32 &&& Int32.toUInt32 31)).toInt32) &&& 1431655765)).toUInt32 >>> ((2 : Int32).toUInt32 &&& Int32.toUInt32 31)).toInt32) &&& 858993459)).toUInt32 >>> ((4 : Int32).toUInt32 &&& Int32.toUInt32 31)).toInt32)) &&& 252645135).toUInt32 >>> ((8 : Int32).toUInt32 &&& Int32.toUInt32 31)).toInt32)).toUInt32 >>> ((16 : Int32).toUInt32 &&& Int32.toUInt32 31)).toInt32)))]) hx hb dJ6_bitCount_0f7a4_47 rfl hl (by decide) rfl (fun ls hl => ?_)
  refine lv_iload_n hx hb dJ6_bitCount_0f7a4_48 rfl (lv_at hl 0 rfl) ?_
  refine lv_bipush (v := 63) hx hb dJ6_bitCount_0f7a4_49 (by decide) ?_
  refine lv_iand hx hb dJ6_bitCount_0f7a4_51 ?_
  have e_0 := zo1 hF
  subst e_0
  exact zret_i S hr hlocks hK hP hD hS dJ6_bitCount_0f7a4_52
