theorem lk_X10_69 : zLk RX10 69 yX1_add cX1_add 5 none 4 := ⟨⟨wm_X10_69, wo_X1_add, we_X1_X1_add, wi_X1, wd_X1_add⟩, by decide, by decide, by decide +kernel⟩
def L_X10_readJumper_2 (t_length : Int32) (t_letters : Nat → Int32) (c_size : Int32) (c_period : Nat → Int32) (c_hang : Nat → Int32) (c_start : Nat → Int32) (c_wind : Nat → Int32) : Nat → Int32 → Int32 → Int32 → Int32 → (Nat → Int32) → Int32 → Option ((Int32 × Int32 × Int32 × Int32 × (Nat → Int32) × Int32) ⊕ (Int32 × Int32 × Int32 × Int32 × Int32 × (Nat → Int32) × Int32 × (Nat → Int32) × (Nat → Int32) × (Nat → Int32) × (Nat → Int32)))
  | 0 => fun _ _ _ _ _ _ => none
  | n + 1 => fun t_place t_start t_token t_value t_parts v2 => (if 4 ≤ v2 then some (.inl (t_place, t_start, t_token, t_value, t_parts, v2)) else (if (v2 < 0 ∨ 4 ≤ v2.toNatClampNeg) then none else (zb5 (F_X10_readNumber t_length t_place t_value t_letters (zL v2.toNatClampNeg) (zM v2.toNatClampNeg)) (fun r_12 t_place_13 t_start_14 t_token_15 t_value_16 => (if r_12 = 0 then some (.inr (0, t_place_13, t_start_14, t_token_15, t_value_16, t_parts, c_size, c_period, c_hang, c_start, c_wind)) else (L_X10_readJumper_2 t_length t_letters c_size c_period c_hang c_start c_wind n t_place_13 t_start_14 t_token_15 t_value_16 (upd t_parts v2.toNatClampNeg t_value_16) (v2 + 1)))))))
theorem L_X10_readJumper_2_z (t_length : Int32) (t_letters : Nat → Int32) (c_size : Int32) (c_period : Nat → Int32) (c_hang : Nat → Int32) (c_start : Nat → Int32) (c_wind : Nat → Int32) (t_place : Int32) (t_start : Int32) (t_token : Int32) (t_value : Int32) (t_parts : Nat → Int32) (v2 : Int32) : L_X10_readJumper_2 t_length t_letters c_size c_period c_hang c_start c_wind 0 t_place t_start t_token t_value t_parts v2 = none := rfl
theorem L_X10_readJumper_2_s (t_length : Int32) (t_letters : Nat → Int32) (c_size : Int32) (c_period : Nat → Int32) (c_hang : Nat → Int32) (c_start : Nat → Int32) (c_wind : Nat → Int32) (n : Nat) (t_place : Int32) (t_start : Int32) (t_token : Int32) (t_value : Int32) (t_parts : Nat → Int32) (v2 : Int32) : L_X10_readJumper_2 t_length t_letters c_size c_period c_hang c_start c_wind (n + 1) t_place t_start t_token t_value t_parts v2 = (if 4 ≤ v2 then some (.inl (t_place, t_start, t_token, t_value, t_parts, v2)) else (if (v2 < 0 ∨ 4 ≤ v2.toNatClampNeg) then none else (zb5 (F_X10_readNumber t_length t_place t_value t_letters (zL v2.toNatClampNeg) (zM v2.toNatClampNeg)) (fun r_12 t_place_13 t_start_14 t_token_15 t_value_16 => (if r_12 = 0 then some (.inr (0, t_place_13, t_start_14, t_token_15, t_value_16, t_parts, c_size, c_period, c_hang, c_start, c_wind)) else (L_X10_readJumper_2 t_length t_letters c_size c_period c_hang c_start c_wind n t_place_13 t_start_14 t_token_15 t_value_16 (upd t_parts v2.toNatClampNeg t_value_16) (v2 + 1))))))) := rfl
def F_X10_readJumper (t_length : Int32) (t_place : Int32) (t_start : Int32) (t_token : Int32) (t_value : Int32) (t_letters : Nat → Int32) (t_parts : Nat → Int32) (c_size : Int32) (c_period : Nat → Int32) (c_hang : Nat → Int32) (c_start : Nat → Int32) (c_wind : Nat → Int32) : Option (Int32 × Int32 × Int32 × Int32 × Int32 × (Nat → Int32) × Int32 × (Nat → Int32) × (Nat → Int32) × (Nat → Int32) × (Nat → Int32)) :=
  (zs6 (L_X10_readJumper_2 t_length t_letters c_size c_period c_hang c_start c_wind 300 t_place t_start t_token t_value t_parts 0) (fun t_place_19 t_start_20 t_token_21 t_value_22 t_parts_23 v2_24 => (zb5 (F_X1_add c_size c_period c_hang c_start c_wind (t_parts_23 (0 : Int32).toNatClampNeg) (t_parts_23 (1 : Int32).toNatClampNeg) (t_parts_23 (2 : Int32).toNatClampNeg) (t_parts_23 (3 : Int32).toNatClampNeg)) (fun c_size_26 c_period_27 c_hang_28 c_start_29 c_wind_30 => (zb5 (F_X10_readStop t_length t_place_19 t_value_22 t_letters) (fun r_32 t_place_33 t_start_34 t_token_35 t_value_36 => (if ¬ (r_32 = 0 ∨ r_32 = 1) then none else some (r_32, t_place_33, t_start_34, t_token_35, t_value_36, t_parts_23, c_size_26, c_period_27, c_hang_28, c_start_29, c_wind_30))))))))
set_option maxHeartbeats 4000000 in
set_option maxRecDepth 100000 in
theorem c_X10_readJumper (l : Launch) (D : va_G) (cI cZ cS cJ : ClassId) (tl tm : Nat) (B : Nat → Prop) (t_a : Nat) (t_a_letters : Nat) (t_a_parts : Nat) (c_a : Nat) (c_a_period : Nat) (c_a_hang : Nat) (c_a_start : Nat) (c_a_wind : Nat) (t_length : Int32) (t_items : Int32) (t_place : Int32) (t_start : Int32) (t_token : Int32) (t_value : Int32) (t_letters : Nat → Int32) (t_parts : Nat → Int32) (c_every : Int32) (c_size : Int32) (c_period : Nat → Int32) (c_hang : Nat → Int32) (c_start : Nat → Int32) (c_wind : Nat → Int32) {r_o : Int32} {t_place_o : Int32} {t_start_o : Int32} {t_token_o : Int32} {t_value_o : Int32} {t_parts_o : Nat → Int32} {c_size_o : Int32} {c_period_o : Nat → Int32} {c_hang_o : Nat → Int32} {c_start_o : Nat → Int32} {c_wind_o : Nat → Int32} (hF : F_X10_readJumper t_length t_place t_start t_token t_value t_letters t_parts c_size c_period c_hang c_start c_wind = some (r_o, t_place_o, t_start_o, t_token_o, t_value_o, t_parts_o, c_size_o, c_period_o, c_hang_o, c_start_o, c_wind_o)) : zMsi l yX10_readJumper (zwl yX10_readJumper cX10_readJumper 3 (some .boolean)) { frames := 4, cells := 0, slots := 0, locals := 85 } D (TYS cI cZ cS cJ) tl tm B [.ref t_a, .ref c_a] [(t_a, .inr (10, [.ref t_a_letters, .ref t_a_parts, .int t_length, .int t_items, .int t_place, .int t_start, .int t_token, .int t_value])), (t_a_letters, .inl (cI, 120, .inl t_letters)), (t_a_parts, .inl (cI, 4, .inl t_parts)), (c_a, .inr (1, [.int c_every, .int c_size, .ref c_a_period, .ref c_a_hang, .ref c_a_start, .ref c_a_wind])), (c_a_period, .inl (cI, 6, .inl c_period)), (c_a_hang, .inl (cI, 6, .inl c_hang)), (c_a_start, .inl (cI, 6, .inl c_start)), (c_a_wind, .inl (cI, 6, .inl c_wind))] [(t_a, .inr (10, [.ref t_a_letters, .ref t_a_parts, .int t_length, .int t_items, .int t_place_o, .int t_start_o, .int t_token_o, .int t_value_o])), (t_a_letters, .inl (cI, 120, .inl t_letters)), (t_a_parts, .inl (cI, 4, .inl t_parts_o)), (c_a, .inr (1, [.int c_every, .int c_size_o, .ref c_a_period, .ref c_a_hang, .ref c_a_start, .ref c_a_wind])), (c_a_period, .inl (cI, 6, .inl c_period_o)), (c_a_hang, .inl (cI, 6, .inl c_hang_o)), (c_a_start, .inl (cI, 6, .inl c_start_o)), (c_a_wind, .inl (cI, 6, .inl c_wind_o))] r_o := by
  refine zent_si (own := RX10) (by decide) rfl (Nat.le_of_ble_eq_true rfl) ?_
  intro p e s m below meth c A ls S hr hlocks hK hP hD hA hl hB hSt
  have hx := S.1
  have hb := S.2.1
  have hml := S.2.2.1
  have hown := S.2.2.2.1
  have hT : ∀ w ∈ zt, w ∈ zwl yX10_readJumper cX10_readJumper 3 (some .boolean) := fun _ h => List.mem_cons_of_mem _ h
  have ht : ∀ w ∈ zt, w.before [.ref t_a, .ref c_a].toArray s = true := fun w h => S.2.2.2.2 w (hT w h)
  have hl : lv_has ls 3 [(0, .ref t_a), (1, .ref c_a)] := hl
  have hS : va_S A s.heap s.heap [] := va_S.rf
  unfold F_X10_readJumper at hF
  have hloop_2 : ∀ (n : Nat) (t_length : Int32) (t_items : Int32) (t_place : Int32) (t_start : Int32) (t_token : Int32) (t_value : Int32) (t_letters : Nat → Int32) (t_parts : Nat → Int32) (c_every : Int32) (c_size : Int32) (c_period : Nat → Int32) (c_hang : Nat → Int32) (c_start : Nat → Int32) (c_wind : Nat → Int32) (v2 : Int32) (res : (Int32 × Int32 × Int32 × Int32 × (Nat → Int32) × Int32) ⊕ (Int32 × Int32 × Int32 × Int32 × Int32 × (Nat → Int32) × Int32 × (Nat → Int32) × (Nat → Int32) × (Nat → Int32) × (Nat → Int32))), L_X10_readJumper_2 t_length t_letters c_size c_period c_hang c_start c_wind n t_place t_start t_token t_value t_parts v2 = some res → (∀ o, res = .inr o → o = (r_o, t_place_o, t_start_o, t_token_o, t_value_o, t_parts_o, c_size_o, c_period_o, c_hang_o, c_start_o, c_wind_o)) → ∀ (H : Heap) (locs : List Loc) (ls : Array Slot), va_P D classes [(t_a, .inr (10, [.ref t_a_letters, .ref t_a_parts, .int t_length, .int t_items, .int t_place, .int t_start, .int t_token, .int t_value])), (t_a_letters, .inl (cI, 120, .inl t_letters)), (t_a_parts, .inl (cI, 4, .inl t_parts)), (c_a, .inr (1, [.int c_every, .int c_size, .ref c_a_period, .ref c_a_hang, .ref c_a_start, .ref c_a_wind])), (c_a_period, .inl (cI, 6, .inl c_period)), (c_a_hang, .inl (cI, 6, .inl c_hang)), (c_a_start, .inl (cI, 6, .inl c_start)), (c_a_wind, .inl (cI, 6, .inl c_wind))] H → va_D A [(t_a, .inr (10, [.ref t_a_letters, .ref t_a_parts, .int t_length, .int t_items, .int t_place, .int t_start, .int t_token, .int t_value])), (t_a_letters, .inl (cI, 120, .inl t_letters)), (t_a_parts, .inl (cI, 4, .inl t_parts)), (c_a, .inr (1, [.int c_every, .int c_size, .ref c_a_period, .ref c_a_hang, .ref c_a_start, .ref c_a_wind])), (c_a_period, .inl (cI, 6, .inl c_period)), (c_a_hang, .inl (cI, 6, .inl c_hang)), (c_a_start, .inl (cI, 6, .inl c_start)), (c_a_wind, .inl (cI, 6, .inl c_wind))] → va_S A s.heap H locs → lv_has ls 3 [(0, .ref t_a), (1, .ref c_a), (2, .int v2)] → (∀ (t_place' : Int32) (t_start' : Int32) (t_token' : Int32) (t_value' : Int32) (t_parts' : Nat → Int32) (v2' : Int32), res = .inl (t_place', t_start', t_token', t_value', t_parts', v2') → ∀ (H : Heap) (locs : List Loc) (ls : Array Slot), va_P D classes [(t_a, .inr (10, [.ref t_a_letters, .ref t_a_parts, .int t_length, .int t_items, .int t_place', .int t_start', .int t_token', .int t_value'])), (t_a_letters, .inl (cI, 120, .inl t_letters)), (t_a_parts, .inl (cI, 4, .inl t_parts')), (c_a, .inr (1, [.int c_every, .int c_size, .ref c_a_period, .ref c_a_hang, .ref c_a_start, .ref c_a_wind])), (c_a_period, .inl (cI, 6, .inl c_period)), (c_a_hang, .inl (cI, 6, .inl c_hang)), (c_a_start, .inl (cI, 6, .inl c_start)), (c_a_wind, .inl (cI, 6, .inl c_wind))] H → va_D A [(t_a, .inr (10, [.ref t_a_letters, .ref t_a_parts, .int t_length, .int t_items, .int t_place', .int t_start', .int t_token', .int t_value'])), (t_a_letters, .inl (cI, 120, .inl t_letters)), (t_a_parts, .inl (cI, 4, .inl t_parts')), (c_a, .inr (1, [.int c_every, .int c_size, .ref c_a_period, .ref c_a_hang, .ref c_a_start, .ref c_a_wind])), (c_a_period, .inl (cI, 6, .inl c_period)), (c_a_hang, .inl (cI, 6, .inl c_hang)), (c_a_start, .inl (cI, 6, .inl c_start)), (c_a_wind, .inl (cI, 6, .inl c_wind))] → va_S A s.heap H locs → lv_has ls 3 [(0, .ref t_a), (1, .ref c_a), (2, .int v2')] → W p l e { frames := 4, cells := 0, slots := 0, locals := 85 } s m [.ref t_a, .ref c_a].toArray below meth c H locs 0 0 (zFi below [.ref t_a, .ref c_a] s A D (TYS cI cZ cS cJ) [(t_a, .inr (10, [.ref t_a_letters, .ref t_a_parts, .int t_length, .int t_items, .int t_place_o, .int t_start_o, .int t_token_o, .int t_value_o])), (t_a_letters, .inl (cI, 120, .inl t_letters)), (t_a_parts, .inl (cI, 4, .inl t_parts_o)), (c_a, .inr (1, [.int c_every, .int c_size_o, .ref c_a_period, .ref c_a_hang, .ref c_a_start, .ref c_a_wind])), (c_a_period, .inl (cI, 6, .inl c_period_o)), (c_a_hang, .inl (cI, 6, .inl c_hang_o)), (c_a_start, .inl (cI, 6, .inl c_start_o)), (c_a_wind, .inl (cI, 6, .inl c_wind_o))] r_o) (F0 m 42 ls [])) → W p l e { frames := 4, cells := 0, slots := 0, locals := 85 } s m [.ref t_a, .ref c_a].toArray below meth c H locs 0 0 (zFi below [.ref t_a, .ref c_a] s A D (TYS cI cZ cS cJ) [(t_a, .inr (10, [.ref t_a_letters, .ref t_a_parts, .int t_length, .int t_items, .int t_place_o, .int t_start_o, .int t_token_o, .int t_value_o])), (t_a_letters, .inl (cI, 120, .inl t_letters)), (t_a_parts, .inl (cI, 4, .inl t_parts_o)), (c_a, .inr (1, [.int c_every, .int c_size_o, .ref c_a_period, .ref c_a_hang, .ref c_a_start, .ref c_a_wind])), (c_a_period, .inl (cI, 6, .inl c_period_o)), (c_a_hang, .inl (cI, 6, .inl c_hang_o)), (c_a_start, .inl (cI, 6, .inl c_start_o)), (c_a_wind, .inl (cI, 6, .inl c_wind_o))] r_o) (F0 m 2 ls []) := by
    intro n
    induction n with
    | zero =>
      intro t_length t_items t_place t_start t_token t_value t_letters t_parts c_every c_size c_period c_hang c_start c_wind v2 res hF
      rw [L_X10_readJumper_2_z] at hF
      cases hF
    | succ n ih_2 =>
      intro t_length t_items t_place t_start t_token t_value t_letters t_parts c_every c_size c_period c_hang c_start c_wind v2 res hF hret H locs ls hP hD hS hl hexit_2
      rw [L_X10_readJumper_2_s] at hF
      refine lv_iload_n hx hb dX10_readJumper_2 rfl (lv_at hl 2 rfl) ?_
      refine lv_iconst (v := 4) hx hb dX10_readJumper_3 (by decide) ?_
      refine lv_icmp_ge (tgt := 42) hx hb dX10_readJumper_4 (by decide) (fun c_10 => ?_) (fun c_10 => ?_)
      · have hF := zi_pos c_10 hF
        have e_0 := zo1 hF
        subst e_0
        exact hexit_2 _ _ _ _ _ _ rfl _ _ _ hP hD hS (lv_sub hl [0, 1, 2] rfl)
      · have hF := zi_neg c_10 hF
        refine lv_aload_n hx hb dX10_readJumper_7 rfl (lv_at hl 0 rfl) ?_
        refine va_gets hx hb (va_Z.narrow hSt.1 hB) hS hown (ht _ wf_X10_63) (fun _ h9 => h9) dX10_readJumper_8 ?_
        refine lv_iload_n hx hb dX10_readJumper_11 rfl (lv_at hl 2 rfl) ?_
        obtain ⟨h_11, hF⟩ := zi_chk hF
        refine va_ti (v := .int (zL v2.toNatClampNeg)) hx hb (va_T.narrow hSt.2.1 hB) hS h_11 rfl dX10_readJumper_12 ?_
        refine va_gets hx hb (va_Z.narrow hSt.2.2.1 hB) hS hown (ht _ wf_X10_66) (fun _ h9 => h9) dX10_readJumper_13 ?_
        refine lv_iload_n hx hb dX10_readJumper_16 rfl (lv_at hl 2 rfl) ?_
        refine va_ti (v := .int (zM v2.toNatClampNeg)) hx hb (va_T.narrow hSt.2.2.2 hB) hS h_11 rfl dX10_readJumper_17 ?_
        obtain ⟨r_12, t_place_13, t_start_14, t_token_15, t_value_16, hc_17, hF⟩ := zb5_s hF
        refine zcv_i (ws1 := [(t_a, .inr (10, [.ref t_a_letters, .ref t_a_parts, .int t_length, .int t_items, .int t_place_13, .int t_start_14, .int t_token_15, .int t_value_16])), (t_a_letters, .inl (cI, 120, .inl t_letters)), (t_a_parts, .inl (cI, 4, .inl t_parts)), (c_a, .inr (1, [.int c_every, .int c_size, .ref c_a_period, .ref c_a_hang, .ref c_a_start, .ref c_a_wind])), (c_a_period, .inl (cI, 6, .inl c_period)), (c_a_hang, .inl (cI, 6, .inl c_hang)), (c_a_start, .inl (cI, 6, .inl c_start)), (c_a_wind, .inl (cI, 6, .inl c_wind))]) S hT lk_X10_49 (c_X10_readNumber l D cI cZ cS cJ t_a t_a_letters t_a_parts t_length t_items t_place t_start t_token t_value t_letters (zL v2.toNatClampNeg) (zM v2.toNatClampNeg) hc_17) ⟨rfl, rfl, Nat.le_of_ble_eq_true rfl, Nat.le_of_ble_eq_true rfl⟩ hK hP hD hS hA [0, 1] [2, 3, 4, 5, 6, 7] [6, 7, 0, 1, 2, 3, 4, 5] rfl rfl rfl rfl rfl rfl rfl rfl rfl rfl rfl hl.1 rfl (Nat.le_of_ble_eq_true rfl) dX10_readJumper_18 ⟨Nat.zero_le _, Nat.zero_le _⟩ (fun H locs hP hD hS => ?_)
        refine lv_if_ne (tgt := 26) hx hb dX10_readJumper_21 (by decide) (fun c_18 => ?_) (fun c_18 => ?_)
        · have hF := zi_neg c_18 hF
          refine lv_aload_n hx hb dX10_readJumper_26 rfl (lv_at hl 0 rfl) ?_
          refine va_get (D := D) (ci := 10) (v := .ref t_a_parts) (C := RX10) (T := TX10) (N := 8) hx hb ht iyX10 hown hK hP 0 rfl rfl 1 (by decide) (ht _ wf_X10_15) (fun _ h9 => h9) rfl dX10_readJumper_27 ?_
          refine lv_iload_n hx hb dX10_readJumper_30 rfl (lv_at hl 2 rfl) ?_
          refine lv_aload_n hx hb dX10_readJumper_31 rfl (lv_at hl 0 rfl) ?_
          refine va_get (D := D) (ci := 10) (v := .int t_value_16) (C := RX10) (T := TX10) (N := 8) hx hb ht iyX10 hown hK hP 0 rfl rfl 7 (by decide) (ht _ wf_X10_53) (fun _ h9 => h9) rfl dX10_readJumper_32 ?_
          refine va_iast hx hb hK hP hD hS 2 0 rfl rfl h_11 dX10_readJumper_35 (fun H locs hP hD hS => ?_)
          have hP : va_P D classes [(t_a, .inr (10, [.ref t_a_letters, .ref t_a_parts, .int t_length, .int t_items, .int t_place_13, .int t_start_14, .int t_token_15, .int t_value_16])), (t_a_letters, .inl (cI, 120, .inl t_letters)), (t_a_parts, .inl (cI, 4, .inl (upd t_parts v2.toNatClampNeg t_value_16))), (c_a, .inr (1, [.int c_every, .int c_size, .ref c_a_period, .ref c_a_hang, .ref c_a_start, .ref c_a_wind])), (c_a_period, .inl (cI, 6, .inl c_period)), (c_a_hang, .inl (cI, 6, .inl c_hang)), (c_a_start, .inl (cI, 6, .inl c_start)), (c_a_wind, .inl (cI, 6, .inl c_wind))] H := hP
          have hD : va_D A [(t_a, .inr (10, [.ref t_a_letters, .ref t_a_parts, .int t_length, .int t_items, .int t_place_13, .int t_start_14, .int t_token_15, .int t_value_16])), (t_a_letters, .inl (cI, 120, .inl t_letters)), (t_a_parts, .inl (cI, 4, .inl (upd t_parts v2.toNatClampNeg t_value_16))), (c_a, .inr (1, [.int c_every, .int c_size, .ref c_a_period, .ref c_a_hang, .ref c_a_start, .ref c_a_wind])), (c_a_period, .inl (cI, 6, .inl c_period)), (c_a_hang, .inl (cI, 6, .inl c_hang)), (c_a_start, .inl (cI, 6, .inl c_start)), (c_a_wind, .inl (cI, 6, .inl c_wind))] := hD
          refine lv_iinc (v := v2 + 1) (lv' := [(2, .int (v2 + 1)), (0, .ref t_a), (1, .ref c_a)]) hx hb dX10_readJumper_36 hl (k := 2) rfl (by rfl) (by decide) rfl (fun ls hl => ?_)
          refine lv_goto (tgt := 2) hx hb dX10_readJumper_39 (by decide) ?_
          exact ih_2 t_length t_items t_place_13 t_start_14 t_token_15 t_value_16 t_letters (upd t_parts v2.toNatClampNeg t_value_16) c_every c_size c_period c_hang c_start c_wind (v2 + 1) _ hF hret _ _ _ hP hD hS (lv_sub hl [1, 2, 0] rfl) hexit_2
        · have hF := zi_pos c_18 hF
          refine lv_iconst (v := 0) hx hb dX10_readJumper_24 (by decide) ?_
          obtain ⟨e_0, e_1, e_2, e_3, e_4, e_5, e_6, e_7, e_8, e_9, e_10⟩ := zo11 (congrArg some (hret _ (Option.some.inj hF).symm))
          subst e_0
          subst e_1
          subst e_2
          subst e_3
          subst e_4
          subst e_5
          subst e_6
          subst e_7
          subst e_8
          subst e_9
          subst e_10
          exact zret_z (by decide) S hr hlocks hK hP hD hS dX10_readJumper_25
  refine lv_iconst (v := 0) hx hb dX10_readJumper_0 (by decide) ?_
  refine lv_istore_n (lv' := [(2, .int 0), (0, .ref t_a), (1, .ref c_a)]) hx hb dX10_readJumper_1 rfl hl (by decide) rfl (fun ls hl => ?_)
  rcases zs6_s hF with ⟨t_place_19, t_start_20, t_token_21, t_value_22, t_parts_23, v2_24, hL_25, hF⟩ | hL_25
  rotate_left
  · exact hloop_2 300 t_length t_items t_place t_start t_token t_value t_letters t_parts c_every c_size c_period c_hang c_start c_wind 0 _ hL_25 (fun o ho => (Sum.inr.inj ho).symm) _ _ _ hP hD hS (lv_sub hl [1, 2, 0] rfl) (fun t_place_19 t_start_20 t_token_21 t_value_22 t_parts_23 v2_24 ho => nomatch ho)
  refine hloop_2 300 t_length t_items t_place t_start t_token t_value t_letters t_parts c_every c_size c_period c_hang c_start c_wind 0 _ hL_25 (fun o ho => nomatch ho) _ _ _ hP hD hS (lv_sub hl [1, 2, 0] rfl) (fun t_place_19' t_start_20' t_token_21' t_value_22' t_parts_23' v2_24' ho H locs ls hP hD hS hl => ?_)
  obtain ⟨rfl, rfl, rfl, rfl, rfl, rfl⟩ : t_place_19 = t_place_19' ∧ t_start_20 = t_start_20' ∧ t_token_21 = t_token_21' ∧ t_value_22 = t_value_22' ∧ t_parts_23 = t_parts_23' ∧ v2_24 = v2_24' := by cases ho; exact ⟨rfl, rfl, rfl, rfl, rfl, rfl⟩
  refine lv_aload_n hx hb dX10_readJumper_42 rfl (lv_at hl 1 rfl) ?_
  refine lv_aload_n hx hb dX10_readJumper_43 rfl (lv_at hl 0 rfl) ?_
  refine va_get (D := D) (ci := 10) (v := .ref t_a_parts) (C := RX10) (T := TX10) (N := 8) hx hb ht iyX10 hown hK hP 0 rfl rfl 1 (by decide) (ht _ wf_X10_15) (fun _ h9 => h9) rfl dX10_readJumper_44 ?_
  refine lv_iconst (v := 0) hx hb dX10_readJumper_47 (by decide) ?_
  refine va_iald hx hb hK hP 2 0 rfl rfl (show ¬ ((0 : Int32) < 0 ∨ 4 ≤ (0 : Int32).toNatClampNeg) by decide) dX10_readJumper_48 ?_
  refine lv_aload_n hx hb dX10_readJumper_49 rfl (lv_at hl 0 rfl) ?_
  refine va_get (D := D) (ci := 10) (v := .ref t_a_parts) (C := RX10) (T := TX10) (N := 8) hx hb ht iyX10 hown hK hP 0 rfl rfl 1 (by decide) (ht _ wf_X10_15) (fun _ h9 => h9) rfl dX10_readJumper_50 ?_
  refine lv_iconst (v := 1) hx hb dX10_readJumper_53 (by decide) ?_
  refine va_iald hx hb hK hP 2 0 rfl rfl (show ¬ ((1 : Int32) < 0 ∨ 4 ≤ (1 : Int32).toNatClampNeg) by decide) dX10_readJumper_54 ?_
  refine lv_aload_n hx hb dX10_readJumper_55 rfl (lv_at hl 0 rfl) ?_
  refine va_get (D := D) (ci := 10) (v := .ref t_a_parts) (C := RX10) (T := TX10) (N := 8) hx hb ht iyX10 hown hK hP 0 rfl rfl 1 (by decide) (ht _ wf_X10_15) (fun _ h9 => h9) rfl dX10_readJumper_56 ?_
  refine lv_iconst (v := 2) hx hb dX10_readJumper_59 (by decide) ?_
  refine va_iald hx hb hK hP 2 0 rfl rfl (show ¬ ((2 : Int32) < 0 ∨ 4 ≤ (2 : Int32).toNatClampNeg) by decide) dX10_readJumper_60 ?_
  refine lv_aload_n hx hb dX10_readJumper_61 rfl (lv_at hl 0 rfl) ?_
  refine va_get (D := D) (ci := 10) (v := .ref t_a_parts) (C := RX10) (T := TX10) (N := 8) hx hb ht iyX10 hown hK hP 0 rfl rfl 1 (by decide) (ht _ wf_X10_15) (fun _ h9 => h9) rfl dX10_readJumper_62 ?_
  refine lv_iconst (v := 3) hx hb dX10_readJumper_65 (by decide) ?_
  refine va_iald hx hb hK hP 2 0 rfl rfl (show ¬ ((3 : Int32) < 0 ∨ 4 ≤ (3 : Int32).toNatClampNeg) by decide) dX10_readJumper_66 ?_
  obtain ⟨c_size_26, c_period_27, c_hang_28, c_start_29, c_wind_30, hc_31, hF⟩ := zb5_s hF
  refine zcv_v (ws1 := [(t_a, .inr (10, [.ref t_a_letters, .ref t_a_parts, .int t_length, .int t_items, .int t_place_19, .int t_start_20, .int t_token_21, .int t_value_22])), (t_a_letters, .inl (cI, 120, .inl t_letters)), (t_a_parts, .inl (cI, 4, .inl t_parts_23)), (c_a, .inr (1, [.int c_every, .int c_size_26, .ref c_a_period, .ref c_a_hang, .ref c_a_start, .ref c_a_wind])), (c_a_period, .inl (cI, 6, .inl c_period_27)), (c_a_hang, .inl (cI, 6, .inl c_hang_28)), (c_a_start, .inl (cI, 6, .inl c_start_29)), (c_a_wind, .inl (cI, 6, .inl c_wind_30))]) S hT lk_X10_69 (c_X1_add l D cI cZ cS cJ c_a c_a_period c_a_hang c_a_start c_a_wind c_every c_size c_period c_hang c_start c_wind (t_parts_23 (0 : Int32).toNatClampNeg) (t_parts_23 (1 : Int32).toNatClampNeg) (t_parts_23 (2 : Int32).toNatClampNeg) (t_parts_23 (3 : Int32).toNatClampNeg) hc_31) ⟨rfl, rfl, Nat.le_of_ble_eq_true rfl, Nat.le_of_ble_eq_true rfl⟩ hK hP hD hS hA [3, 4, 5, 6, 7] [0, 1, 2] [0, 1, 2, 3, 4, 5, 6, 7] rfl rfl rfl rfl rfl rfl rfl rfl rfl rfl rfl hl.1 rfl (Nat.le_of_ble_eq_true rfl) dX10_readJumper_67 ⟨Nat.zero_le _, Nat.zero_le _⟩ (fun H locs hP hD hS => ?_)
  refine lv_aload_n hx hb dX10_readJumper_70 rfl (lv_at hl 0 rfl) ?_
  obtain ⟨r_32, t_place_33, t_start_34, t_token_35, t_value_36, hc_37, hF⟩ := zb5_s hF
  refine zcv_i (ws1 := [(t_a, .inr (10, [.ref t_a_letters, .ref t_a_parts, .int t_length, .int t_items, .int t_place_33, .int t_start_34, .int t_token_35, .int t_value_36])), (t_a_letters, .inl (cI, 120, .inl t_letters)), (t_a_parts, .inl (cI, 4, .inl t_parts_23)), (c_a, .inr (1, [.int c_every, .int c_size_26, .ref c_a_period, .ref c_a_hang, .ref c_a_start, .ref c_a_wind])), (c_a_period, .inl (cI, 6, .inl c_period_27)), (c_a_hang, .inl (cI, 6, .inl c_hang_28)), (c_a_start, .inl (cI, 6, .inl c_start_29)), (c_a_wind, .inl (cI, 6, .inl c_wind_30))]) S hT lk_X10_59 (c_X10_readStop l D cI cZ cS cJ t_a t_a_letters t_a_parts t_length t_items t_place_19 t_start_20 t_token_21 t_value_22 t_letters hc_37) ⟨rfl, rfl, Nat.le_of_ble_eq_true rfl, Nat.le_of_ble_eq_true rfl⟩ hK hP hD hS hA [0, 1] [2, 3, 4, 5, 6, 7] [6, 7, 0, 1, 2, 3, 4, 5] rfl rfl rfl rfl rfl rfl rfl rfl rfl rfl rfl hl.1 rfl (Nat.le_of_ble_eq_true rfl) dX10_readJumper_71 ⟨Nat.zero_le _, Nat.zero_le _⟩ (fun H locs hP hD hS => ?_)
  obtain ⟨h_38, hF⟩ := zi_chk hF
  obtain ⟨e_0, e_1, e_2, e_3, e_4, e_5, e_6, e_7, e_8, e_9, e_10⟩ := zo11 hF
  subst e_0
  subst e_1
  subst e_2
  subst e_3
  subst e_4
  subst e_5
  subst e_6
  subst e_7
  subst e_8
  subst e_9
  subst e_10
  exact zret_z (Decidable.not_not.mp h_38) S hr hlocks hK hP hD hS dX10_readJumper_74

theorem lk_X10_18 : zLk RX10 18 yX1_reset cX1_reset 1 none 0 := ⟨⟨wm_X10_18, wo_X1_reset, we_X1_X1_reset, wi_X1, wd_X1_reset⟩, by decide, by decide, by decide +kernel⟩
theorem lk_X10_43 : zLk RX10 43 yX10_readJumper cX10_readJumper 3 (some .boolean) 1 := ⟨⟨wm_X10_43, wo_X10_readJumper, we_X10_X10_readJumper, wi_X10, wd_X10_readJumper⟩, by decide, by decide, by decide +kernel⟩
theorem lk_X10_36 : zLk RX10 36 yX10_readEvery cX10_readEvery 2 (some .boolean) 1 := ⟨⟨wm_X10_36, wo_X10_readEvery, we_X10_X10_readEvery, wi_X10, wd_X10_readEvery⟩, by decide, by decide, by decide +kernel⟩
def L_X10_readInto_18 (t_length : Int32) (t_letters : Nat → Int32) : Nat → Int32 → Int32 → Int32 → Int32 → Int32 → (Nat → Int32) → Int32 → Int32 → (Nat → Int32) → (Nat → Int32) → (Nat → Int32) → (Nat → Int32) → Int32 → Int32 → Option ((Int32 × Int32 × Int32 × Int32 × Int32 × (Nat → Int32) × Int32 × Int32 × (Nat → Int32) × (Nat → Int32) × (Nat → Int32) × (Nat → Int32) × Int32 × Int32) ⊕ (Int32 × Int32 × Int32 × Int32 × Int32 × Int32 × (Nat → Int32) × Int32 × Int32 × (Nat → Int32) × (Nat → Int32) × (Nat → Int32) × (Nat → Int32)))
  | 0 => fun _ _ _ _ _ _ _ _ _ _ _ _ _ _ => none
  | n + 1 => fun t_items t_place t_start t_token t_value t_parts c_every c_size c_period c_hang c_start c_wind v2 v3 => (if 120 < v3 then some (.inl (t_items, t_place, t_start, t_token, t_value, t_parts, c_every, c_size, c_period, c_hang, c_start, c_wind, v2, v3)) else (zb4 (F_X10_advance t_length t_place t_value t_letters) (fun t_place_56 t_start_57 t_token_58 t_value_59 => (if t_token_58 = 0 then some (.inr ((-9), t_items, t_place_56, t_start_57, t_token_58, t_value_59, t_parts, c_every, c_size, c_period, c_hang, c_start, c_wind)) else (if t_token_58 = 101 then (if v2 = 0 then (zb6 (F_X10_readEvery t_length t_place_56 t_value_59 t_letters c_every) (fun r_98 t_place_99 t_start_100 t_token_101 t_value_102 c_every_103 => (if r_98 = 0 then some (.inr (t_start_100, t_items, t_place_99, t_start_100, t_token_101, t_value_102, t_parts, c_every_103, c_size, c_period, c_hang, c_start, c_wind)) else (L_X10_readInto_18 t_length t_letters n (t_items + 1) t_place_99 t_start_100 t_token_101 t_value_102 t_parts c_every_103 c_size c_period c_hang c_start c_wind 1 (v3 + 1))))) else (if t_token_58 = 106 then (if 6 ≤ c_size then some (.inr (t_start_57, t_items, t_place_56, t_start_57, t_token_58, t_value_59, t_parts, c_every, c_size, c_period, c_hang, c_start, c_wind)) else (zb11 (F_X10_readJumper t_length t_place_56 t_start_57 t_token_58 t_value_59 t_letters t_parts c_size c_period c_hang c_start c_wind) (fun r_85 t_place_86 t_start_87 t_token_88 t_value_89 t_parts_90 c_size_91 c_period_92 c_hang_93 c_start_94 c_wind_95 => (if r_85 = 0 then some (.inr (t_start_87, t_items, t_place_86, t_start_87, t_token_88, t_value_89, t_parts_90, c_every, c_size_91, c_period_92, c_hang_93, c_start_94, c_wind_95)) else (L_X10_readInto_18 t_length t_letters n (t_items + 1) t_place_86 t_start_87 t_token_88 t_value_89 t_parts_90 c_every c_size_91 c_period_92 c_hang_93 c_start_94 c_wind_95 v2 (v3 + 1)))))) else some (.inr (t_start_57, t_items, t_place_56, t_start_57, t_token_58, t_value_59, t_parts, c_every, c_size, c_period, c_hang, c_start, c_wind)))) else (if t_token_58 = 106 then (if 6 ≤ c_size then some (.inr (t_start_57, t_items, t_place_56, t_start_57, t_token_58, t_value_59, t_parts, c_every, c_size, c_period, c_hang, c_start, c_wind)) else (zb11 (F_X10_readJumper t_length t_place_56 t_start_57 t_token_58 t_value_59 t_letters t_parts c_size c_period c_hang c_start c_wind) (fun r_67 t_place_68 t_start_69 t_token_70 t_value_71 t_parts_72 c_size_73 c_period_74 c_hang_75 c_start_76 c_wind_77 => (if r_67 = 0 then some (.inr (t_start_69, t_items, t_place_68, t_start_69, t_token_70, t_value_71, t_parts_72, c_every, c_size_73, c_period_74, c_hang_75, c_start_76, c_wind_77)) else (L_X10_readInto_18 t_length t_letters n (t_items + 1) t_place_68 t_start_69 t_token_70 t_value_71 t_parts_72 c_every c_size_73 c_period_74 c_hang_75 c_start_76 c_wind_77 v2 (v3 + 1)))))) else some (.inr (t_start_57, t_items, t_place_56, t_start_57, t_token_58, t_value_59, t_parts, c_every, c_size, c_period, c_hang, c_start, c_wind))))))))
theorem L_X10_readInto_18_z (t_length : Int32) (t_letters : Nat → Int32) (t_items : Int32) (t_place : Int32) (t_start : Int32) (t_token : Int32) (t_value : Int32) (t_parts : Nat → Int32) (c_every : Int32) (c_size : Int32) (c_period : Nat → Int32) (c_hang : Nat → Int32) (c_start : Nat → Int32) (c_wind : Nat → Int32) (v2 : Int32) (v3 : Int32) : L_X10_readInto_18 t_length t_letters 0 t_items t_place t_start t_token t_value t_parts c_every c_size c_period c_hang c_start c_wind v2 v3 = none := rfl
theorem L_X10_readInto_18_s (t_length : Int32) (t_letters : Nat → Int32) (n : Nat) (t_items : Int32) (t_place : Int32) (t_start : Int32) (t_token : Int32) (t_value : Int32) (t_parts : Nat → Int32) (c_every : Int32) (c_size : Int32) (c_period : Nat → Int32) (c_hang : Nat → Int32) (c_start : Nat → Int32) (c_wind : Nat → Int32) (v2 : Int32) (v3 : Int32) : L_X10_readInto_18 t_length t_letters (n + 1) t_items t_place t_start t_token t_value t_parts c_every c_size c_period c_hang c_start c_wind v2 v3 = (if 120 < v3 then some (.inl (t_items, t_place, t_start, t_token, t_value, t_parts, c_every, c_size, c_period, c_hang, c_start, c_wind, v2, v3)) else (zb4 (F_X10_advance t_length t_place t_value t_letters) (fun t_place_56 t_start_57 t_token_58 t_value_59 => (if t_token_58 = 0 then some (.inr ((-9), t_items, t_place_56, t_start_57, t_token_58, t_value_59, t_parts, c_every, c_size, c_period, c_hang, c_start, c_wind)) else (if t_token_58 = 101 then (if v2 = 0 then (zb6 (F_X10_readEvery t_length t_place_56 t_value_59 t_letters c_every) (fun r_98 t_place_99 t_start_100 t_token_101 t_value_102 c_every_103 => (if r_98 = 0 then some (.inr (t_start_100, t_items, t_place_99, t_start_100, t_token_101, t_value_102, t_parts, c_every_103, c_size, c_period, c_hang, c_start, c_wind)) else (L_X10_readInto_18 t_length t_letters n (t_items + 1) t_place_99 t_start_100 t_token_101 t_value_102 t_parts c_every_103 c_size c_period c_hang c_start c_wind 1 (v3 + 1))))) else (if t_token_58 = 106 then (if 6 ≤ c_size then some (.inr (t_start_57, t_items, t_place_56, t_start_57, t_token_58, t_value_59, t_parts, c_every, c_size, c_period, c_hang, c_start, c_wind)) else (zb11 (F_X10_readJumper t_length t_place_56 t_start_57 t_token_58 t_value_59 t_letters t_parts c_size c_period c_hang c_start c_wind) (fun r_85 t_place_86 t_start_87 t_token_88 t_value_89 t_parts_90 c_size_91 c_period_92 c_hang_93 c_start_94 c_wind_95 => (if r_85 = 0 then some (.inr (t_start_87, t_items, t_place_86, t_start_87, t_token_88, t_value_89, t_parts_90, c_every, c_size_91, c_period_92, c_hang_93, c_start_94, c_wind_95)) else (L_X10_readInto_18 t_length t_letters n (t_items + 1) t_place_86 t_start_87 t_token_88 t_value_89 t_parts_90 c_every c_size_91 c_period_92 c_hang_93 c_start_94 c_wind_95 v2 (v3 + 1)))))) else some (.inr (t_start_57, t_items, t_place_56, t_start_57, t_token_58, t_value_59, t_parts, c_every, c_size, c_period, c_hang, c_start, c_wind)))) else (if t_token_58 = 106 then (if 6 ≤ c_size then some (.inr (t_start_57, t_items, t_place_56, t_start_57, t_token_58, t_value_59, t_parts, c_every, c_size, c_period, c_hang, c_start, c_wind)) else (zb11 (F_X10_readJumper t_length t_place_56 t_start_57 t_token_58 t_value_59 t_letters t_parts c_size c_period c_hang c_start c_wind) (fun r_67 t_place_68 t_start_69 t_token_70 t_value_71 t_parts_72 c_size_73 c_period_74 c_hang_75 c_start_76 c_wind_77 => (if r_67 = 0 then some (.inr (t_start_69, t_items, t_place_68, t_start_69, t_token_70, t_value_71, t_parts_72, c_every, c_size_73, c_period_74, c_hang_75, c_start_76, c_wind_77)) else (L_X10_readInto_18 t_length t_letters n (t_items + 1) t_place_68 t_start_69 t_token_70 t_value_71 t_parts_72 c_every c_size_73 c_period_74 c_hang_75 c_start_76 c_wind_77 v2 (v3 + 1)))))) else some (.inr (t_start_57, t_items, t_place_56, t_start_57, t_token_58, t_value_59, t_parts, c_every, c_size, c_period, c_hang, c_start, c_wind)))))))) := rfl
def F_X10_readInto (t_length : Int32) (t_start : Int32) (t_token : Int32) (t_value : Int32) (t_letters : Nat → Int32) (t_parts : Nat → Int32) (c_period : Nat → Int32) (c_hang : Nat → Int32) (c_start : Nat → Int32) (c_wind : Nat → Int32) : Option (Int32 × Int32 × Int32 × Int32 × Int32 × Int32 × (Nat → Int32) × Int32 × Int32 × (Nat → Int32) × (Nat → Int32) × (Nat → Int32) × (Nat → Int32)) :=
  (zb2 (F_X1_reset) (fun c_every_1 c_size_2 => (zs14 (L_X10_readInto_18 t_length t_letters 300 0 0 t_start t_token t_value t_parts c_every_1 c_size_2 c_period c_hang c_start c_wind 0 0) (fun t_items_106 t_place_107 t_start_108 t_token_109 t_value_110 t_parts_111 c_every_112 c_size_113 c_period_114 c_hang_115 c_start_116 c_wind_117 v2_118 v3_119 => some (t_start_108, t_items_106, t_place_107, t_start_108, t_token_109, t_value_110, t_parts_111, c_every_112, c_size_113, c_period_114, c_hang_115, c_start_116, c_wind_117)))))
set_option maxHeartbeats 4000000 in
set_option maxRecDepth 100000 in
theorem c_X10_readInto (l : Launch) (D : va_G) (cI cZ cS cJ : ClassId) (tl tm : Nat) (B : Nat → Prop) (t_a : Nat) (t_a_letters : Nat) (t_a_parts : Nat) (c_a : Nat) (c_a_period : Nat) (c_a_hang : Nat) (c_a_start : Nat) (c_a_wind : Nat) (t_length : Int32) (t_items : Int32) (t_place : Int32) (t_start : Int32) (t_token : Int32) (t_value : Int32) (t_letters : Nat → Int32) (t_parts : Nat → Int32) (c_every : Int32) (c_size : Int32) (c_period : Nat → Int32) (c_hang : Nat → Int32) (c_start : Nat → Int32) (c_wind : Nat → Int32) {r_o : Int32} {t_items_o : Int32} {t_place_o : Int32} {t_start_o : Int32} {t_token_o : Int32} {t_value_o : Int32} {t_parts_o : Nat → Int32} {c_every_o : Int32} {c_size_o : Int32} {c_period_o : Nat → Int32} {c_hang_o : Nat → Int32} {c_start_o : Nat → Int32} {c_wind_o : Nat → Int32} (hF : F_X10_readInto t_length t_start t_token t_value t_letters t_parts c_period c_hang c_start c_wind = some (r_o, t_items_o, t_place_o, t_start_o, t_token_o, t_value_o, t_parts_o, c_every_o, c_size_o, c_period_o, c_hang_o, c_start_o, c_wind_o)) : zMsi l yX10_readInto (zwl yX10_readInto cX10_readInto 5 (some .int)) { frames := 5, cells := 0, slots := 0, locals := 107 } D (TYS cI cZ cS cJ) tl tm B [.ref t_a, .ref c_a] [(t_a, .inr (10, [.ref t_a_letters, .ref t_a_parts, .int t_length, .int t_items, .int t_place, .int t_start, .int t_token, .int t_value])), (t_a_letters, .inl (cI, 120, .inl t_letters)), (t_a_parts, .inl (cI, 4, .inl t_parts)), (c_a, .inr (1, [.int c_every, .int c_size, .ref c_a_period, .ref c_a_hang, .ref c_a_start, .ref c_a_wind])), (c_a_period, .inl (cI, 6, .inl c_period)), (c_a_hang, .inl (cI, 6, .inl c_hang)), (c_a_start, .inl (cI, 6, .inl c_start)), (c_a_wind, .inl (cI, 6, .inl c_wind))] [(t_a, .inr (10, [.ref t_a_letters, .ref t_a_parts, .int t_length, .int t_items_o, .int t_place_o, .int t_start_o, .int t_token_o, .int t_value_o])), (t_a_letters, .inl (cI, 120, .inl t_letters)), (t_a_parts, .inl (cI, 4, .inl t_parts_o)), (c_a, .inr (1, [.int c_every_o, .int c_size_o, .ref c_a_period, .ref c_a_hang, .ref c_a_start, .ref c_a_wind])), (c_a_period, .inl (cI, 6, .inl c_period_o)), (c_a_hang, .inl (cI, 6, .inl c_hang_o)), (c_a_start, .inl (cI, 6, .inl c_start_o)), (c_a_wind, .inl (cI, 6, .inl c_wind_o))] r_o := by
  refine zent_si (own := RX10) (by decide) rfl (Nat.le_of_ble_eq_true rfl) ?_
  intro p e s m below meth c A ls S hr hlocks hK hP hD hA hl hB hSt
  have hx := S.1
  have hb := S.2.1
  have hml := S.2.2.1
  have hown := S.2.2.2.1
  have hT : ∀ w ∈ zt, w ∈ zwl yX10_readInto cX10_readInto 5 (some .int) := fun _ h => List.mem_cons_of_mem _ h
  have ht : ∀ w ∈ zt, w.before [.ref t_a, .ref c_a].toArray s = true := fun w h => S.2.2.2.2 w (hT w h)
  have hl : lv_has ls 5 [(0, .ref t_a), (1, .ref c_a)] := hl
  have hS : va_S A s.heap s.heap [] := va_S.rf
  unfold F_X10_readInto at hF
  have hloop_18 : ∀ (n : Nat) (t_length : Int32) (t_items : Int32) (t_place : Int32) (t_start : Int32) (t_token : Int32) (t_value : Int32) (t_letters : Nat → Int32) (t_parts : Nat → Int32) (c_every : Int32) (c_size : Int32) (c_period : Nat → Int32) (c_hang : Nat → Int32) (c_start : Nat → Int32) (c_wind : Nat → Int32) (v2 : Int32) (v3 : Int32) (res : (Int32 × Int32 × Int32 × Int32 × Int32 × (Nat → Int32) × Int32 × Int32 × (Nat → Int32) × (Nat → Int32) × (Nat → Int32) × (Nat → Int32) × Int32 × Int32) ⊕ (Int32 × Int32 × Int32 × Int32 × Int32 × Int32 × (Nat → Int32) × Int32 × Int32 × (Nat → Int32) × (Nat → Int32) × (Nat → Int32) × (Nat → Int32))), L_X10_readInto_18 t_length t_letters n t_items t_place t_start t_token t_value t_parts c_every c_size c_period c_hang c_start c_wind v2 v3 = some res → (∀ o, res = .inr o → o = (r_o, t_items_o, t_place_o, t_start_o, t_token_o, t_value_o, t_parts_o, c_every_o, c_size_o, c_period_o, c_hang_o, c_start_o, c_wind_o)) → ∀ (H : Heap) (locs : List Loc) (ls : Array Slot), va_P D classes [(t_a, .inr (10, [.ref t_a_letters, .ref t_a_parts, .int t_length, .int t_items, .int t_place, .int t_start, .int t_token, .int t_value])), (t_a_letters, .inl (cI, 120, .inl t_letters)), (t_a_parts, .inl (cI, 4, .inl t_parts)), (c_a, .inr (1, [.int c_every, .int c_size, .ref c_a_period, .ref c_a_hang, .ref c_a_start, .ref c_a_wind])), (c_a_period, .inl (cI, 6, .inl c_period)), (c_a_hang, .inl (cI, 6, .inl c_hang)), (c_a_start, .inl (cI, 6, .inl c_start)), (c_a_wind, .inl (cI, 6, .inl c_wind))] H → va_D A [(t_a, .inr (10, [.ref t_a_letters, .ref t_a_parts, .int t_length, .int t_items, .int t_place, .int t_start, .int t_token, .int t_value])), (t_a_letters, .inl (cI, 120, .inl t_letters)), (t_a_parts, .inl (cI, 4, .inl t_parts)), (c_a, .inr (1, [.int c_every, .int c_size, .ref c_a_period, .ref c_a_hang, .ref c_a_start, .ref c_a_wind])), (c_a_period, .inl (cI, 6, .inl c_period)), (c_a_hang, .inl (cI, 6, .inl c_hang)), (c_a_start, .inl (cI, 6, .inl c_start)), (c_a_wind, .inl (cI, 6, .inl c_wind))] → va_S A s.heap H locs → lv_has ls 5 [(0, .ref t_a), (1, .ref c_a), (2, .int v2), (3, .int v3)] → (∀ (t_items' : Int32) (t_place' : Int32) (t_start' : Int32) (t_token' : Int32) (t_value' : Int32) (t_parts' : Nat → Int32) (c_every' : Int32) (c_size' : Int32) (c_period' : Nat → Int32) (c_hang' : Nat → Int32) (c_start' : Nat → Int32) (c_wind' : Nat → Int32) (v2' : Int32) (v3' : Int32), res = .inl (t_items', t_place', t_start', t_token', t_value', t_parts', c_every', c_size', c_period', c_hang', c_start', c_wind', v2', v3') → ∀ (H : Heap) (locs : List Loc) (ls : Array Slot), va_P D classes [(t_a, .inr (10, [.ref t_a_letters, .ref t_a_parts, .int t_length, .int t_items', .int t_place', .int t_start', .int t_token', .int t_value'])), (t_a_letters, .inl (cI, 120, .inl t_letters)), (t_a_parts, .inl (cI, 4, .inl t_parts')), (c_a, .inr (1, [.int c_every', .int c_size', .ref c_a_period, .ref c_a_hang, .ref c_a_start, .ref c_a_wind])), (c_a_period, .inl (cI, 6, .inl c_period')), (c_a_hang, .inl (cI, 6, .inl c_hang')), (c_a_start, .inl (cI, 6, .inl c_start')), (c_a_wind, .inl (cI, 6, .inl c_wind'))] H → va_D A [(t_a, .inr (10, [.ref t_a_letters, .ref t_a_parts, .int t_length, .int t_items', .int t_place', .int t_start', .int t_token', .int t_value'])), (t_a_letters, .inl (cI, 120, .inl t_letters)), (t_a_parts, .inl (cI, 4, .inl t_parts')), (c_a, .inr (1, [.int c_every', .int c_size', .ref c_a_period, .ref c_a_hang, .ref c_a_start, .ref c_a_wind])), (c_a_period, .inl (cI, 6, .inl c_period')), (c_a_hang, .inl (cI, 6, .inl c_hang')), (c_a_start, .inl (cI, 6, .inl c_start')), (c_a_wind, .inl (cI, 6, .inl c_wind'))] → va_S A s.heap H locs → lv_has ls 5 [(0, .ref t_a), (1, .ref c_a), (2, .int v2'), (3, .int v3')] → W p l e { frames := 5, cells := 0, slots := 0, locals := 107 } s m [.ref t_a, .ref c_a].toArray below meth c H locs 0 0 (zFi below [.ref t_a, .ref c_a] s A D (TYS cI cZ cS cJ) [(t_a, .inr (10, [.ref t_a_letters, .ref t_a_parts, .int t_length, .int t_items_o, .int t_place_o, .int t_start_o, .int t_token_o, .int t_value_o])), (t_a_letters, .inl (cI, 120, .inl t_letters)), (t_a_parts, .inl (cI, 4, .inl t_parts_o)), (c_a, .inr (1, [.int c_every_o, .int c_size_o, .ref c_a_period, .ref c_a_hang, .ref c_a_start, .ref c_a_wind])), (c_a_period, .inl (cI, 6, .inl c_period_o)), (c_a_hang, .inl (cI, 6, .inl c_hang_o)), (c_a_start, .inl (cI, 6, .inl c_start_o)), (c_a_wind, .inl (cI, 6, .inl c_wind_o))] r_o) (F0 m 117 ls [])) → W p l e { frames := 5, cells := 0, slots := 0, locals := 107 } s m [.ref t_a, .ref c_a].toArray below meth c H locs 0 0 (zFi below [.ref t_a, .ref c_a] s A D (TYS cI cZ cS cJ) [(t_a, .inr (10, [.ref t_a_letters, .ref t_a_parts, .int t_length, .int t_items_o, .int t_place_o, .int t_start_o, .int t_token_o, .int t_value_o])), (t_a_letters, .inl (cI, 120, .inl t_letters)), (t_a_parts, .inl (cI, 4, .inl t_parts_o)), (c_a, .inr (1, [.int c_every_o, .int c_size_o, .ref c_a_period, .ref c_a_hang, .ref c_a_start, .ref c_a_wind])), (c_a_period, .inl (cI, 6, .inl c_period_o)), (c_a_hang, .inl (cI, 6, .inl c_hang_o)), (c_a_start, .inl (cI, 6, .inl c_start_o)), (c_a_wind, .inl (cI, 6, .inl c_wind_o))] r_o) (F0 m 18 ls []) := by
    intro n
    induction n with
    | zero =>
      intro t_length t_items t_place t_start t_token t_value t_letters t_parts c_every c_size c_period c_hang c_start c_wind v2 v3 res hF
      rw [L_X10_readInto_18_z] at hF
      cases hF
    | succ n ih_18 =>
      intro t_length t_items t_place t_start t_token t_value t_letters t_parts c_every c_size c_period c_hang c_start c_wind v2 v3 res hF hret H locs ls hP hD hS hl hexit_18
      rw [L_X10_readInto_18_s] at hF
      refine lv_iload_n hx hb dX10_readInto_18 rfl (lv_at hl 3 rfl) ?_
      refine lv_bipush (v := 120) hx hb dX10_readInto_19 (by decide) ?_
      refine lv_icmp_gt (tgt := 117) hx hb dX10_readInto_21 (by decide) (fun c_55 => ?_) (fun c_55 => ?_)
      · have hF := zi_pos c_55 hF
        have e_0 := zo1 hF
        subst e_0
        exact hexit_18 _ _ _ _ _ _ _ _ _ _ _ _ _ _ rfl _ _ _ hP hD hS (lv_sub hl [0, 1, 2, 3] rfl)
      · have hF := zi_neg c_55 hF
        refine lv_aload_n hx hb dX10_readInto_24 rfl (lv_at hl 0 rfl) ?_
        obtain ⟨t_place_56, t_start_57, t_token_58, t_value_59, hc_60, hF⟩ := zb4_s hF
        refine zcv_v (ws1 := [(t_a, .inr (10, [.ref t_a_letters, .ref t_a_parts, .int t_length, .int t_items, .int t_place_56, .int t_start_57, .int t_token_58, .int t_value_59])), (t_a_letters, .inl (cI, 120, .inl t_letters)), (t_a_parts, .inl (cI, 4, .inl t_parts)), (c_a, .inr (1, [.int c_every, .int c_size, .ref c_a_period, .ref c_a_hang, .ref c_a_start, .ref c_a_wind])), (c_a_period, .inl (cI, 6, .inl c_period)), (c_a_hang, .inl (cI, 6, .inl c_hang)), (c_a_start, .inl (cI, 6, .inl c_start)), (c_a_wind, .inl (cI, 6, .inl c_wind))]) S hT lk_X10_30 (c_X10_advance l D cI cZ cS cJ t_a t_a_letters t_a_parts t_length t_items t_place t_start t_token t_value t_letters hc_60) ⟨rfl, rfl, Nat.le_of_ble_eq_true rfl, Nat.le_of_ble_eq_true rfl⟩ hK hP hD hS hA [0, 1] [2, 3, 4, 5, 6, 7] [6, 7, 0, 1, 2, 3, 4, 5] rfl rfl rfl rfl rfl rfl rfl rfl rfl rfl rfl hl.1 rfl (Nat.le_of_ble_eq_true rfl) dX10_readInto_25 ⟨Nat.zero_le _, Nat.zero_le _⟩ (fun H locs hP hD hS => ?_)
        refine lv_aload_n hx hb dX10_readInto_28 rfl (lv_at hl 0 rfl) ?_
        refine va_get (D := D) (ci := 10) (v := .int t_token_58) (C := RX10) (T := TX10) (N := 8) hx hb ht iyX10 hown hK hP 0 rfl rfl 6 (by decide) (ht _ wf_X10_33) (fun _ h9 => h9) rfl dX10_readInto_29 ?_
        refine lv_if_ne (tgt := 38) hx hb dX10_readInto_32 (by decide) (fun c_61 => ?_) (fun c_61 => ?_)
        · have hF := zi_neg c_61 hF
          refine lv_iconst (v := 0) hx hb dX10_readInto_38 (by decide) ?_
          refine lv_istore (lv' := [(4, .int 0), (0, .ref t_a), (1, .ref c_a), (2, .int v2), (3, .int v3)]) hx hb dX10_readInto_39 hl (by decide) rfl (fun ls hl => ?_)
          refine lv_aload_n hx hb dX10_readInto_41 rfl (lv_at hl 1 rfl) ?_
          refine va_get (D := D) (ci := 10) (v := .int t_token_58) (C := RX10) (T := TX10) (N := 8) hx hb ht iyX10 hown hK hP 0 rfl rfl 6 (by decide) (ht _ wf_X10_33) (fun _ h9 => h9) rfl dX10_readInto_42 ?_
          refine lv_bipush (v := 101) hx hb dX10_readInto_45 (by decide) ?_
          refine lv_icmp_ne (tgt := 66) hx hb dX10_readInto_47 (by decide) (fun c_62 => ?_) (fun c_62 => ?_)
          · have hF := zi_neg c_62 hF
            refine lv_aload_n hx hb dX10_readInto_66 rfl (lv_at hl 1 rfl) ?_
            refine va_get (D := D) (ci := 10) (v := .int t_token_58) (C := RX10) (T := TX10) (N := 8) hx hb ht iyX10 hown hK hP 0 rfl rfl 6 (by decide) (ht _ wf_X10_33) (fun _ h9 => h9) rfl dX10_readInto_67 ?_
            refine lv_bipush (v := 106) hx hb dX10_readInto_70 (by decide) ?_
            refine lv_icmp_ne (tgt := 91) hx hb dX10_readInto_72 (by decide) (fun c_63 => ?_) (fun c_63 => ?_)
            · have hF := zi_neg c_63 hF
              refine lv_iload hx hb dX10_readInto_91 (lv_at hl 0 rfl) ?_
              refine lv_if_ne (tgt := 101) hx hb dX10_readInto_93 (by decide) (fun c_64 => ?_) (fun c_64 => ?_)
              · exact absurd c_64 (by decide)
              refine lv_aload_n hx hb dX10_readInto_96 rfl (lv_at hl 1 rfl) ?_
              refine va_get (D := D) (ci := 10) (v := .int t_start_57) (C := RX10) (T := TX10) (N := 8) hx hb ht iyX10 hown hK hP 0 rfl rfl 5 (by decide) (ht _ wf_X10_46) (fun _ h9 => h9) rfl dX10_readInto_97 ?_
              obtain ⟨e_0, e_1, e_2, e_3, e_4, e_5, e_6, e_7, e_8, e_9, e_10, e_11, e_12⟩ := zo13 (congrArg some (hret _ (Option.some.inj hF).symm))
              subst e_0
              subst e_1
              subst e_2
              subst e_3
              subst e_4
              subst e_5
              subst e_6
              subst e_7
              subst e_8
              subst e_9
              subst e_10
              subst e_11
              subst e_12
              exact zret_i S hr hlocks hK hP hD hS dX10_readInto_100
            · have hF := zi_pos c_63 hF
              refine lv_aload_n hx hb dX10_readInto_75 rfl (lv_at hl 2 rfl) ?_
              refine va_get (D := D) (ci := 1) (v := .int c_size) (C := RX1) (T := TX1) (N := 6) hx hb ht iyX1 hown hK hP 3 rfl rfl 1 (by decide) (ht _ wf_X10_40) (fun _ h9 => h9) rfl dX10_readInto_76 ?_
              refine lv_bipush (v := 6) hx hb dX10_readInto_79 (by decide) ?_
              refine lv_icmp_ge (tgt := 91) hx hb dX10_readInto_81 (by decide) (fun c_65 => ?_) (fun c_65 => ?_)
              · have hF := zi_pos c_65 hF
                refine lv_iload hx hb dX10_readInto_91 (lv_at hl 0 rfl) ?_
                refine lv_if_ne (tgt := 101) hx hb dX10_readInto_93 (by decide) (fun c_66 => ?_) (fun c_66 => ?_)
                · exact absurd c_66 (by decide)
                refine lv_aload_n hx hb dX10_readInto_96 rfl (lv_at hl 1 rfl) ?_
                refine va_get (D := D) (ci := 10) (v := .int t_start_57) (C := RX10) (T := TX10) (N := 8) hx hb ht iyX10 hown hK hP 0 rfl rfl 5 (by decide) (ht _ wf_X10_46) (fun _ h9 => h9) rfl dX10_readInto_97 ?_
                obtain ⟨e_0, e_1, e_2, e_3, e_4, e_5, e_6, e_7, e_8, e_9, e_10, e_11, e_12⟩ := zo13 (congrArg some (hret _ (Option.some.inj hF).symm))
                subst e_0
                subst e_1
                subst e_2
                subst e_3
                subst e_4
                subst e_5
                subst e_6
                subst e_7
                subst e_8
                subst e_9
                subst e_10
                subst e_11
                subst e_12
                exact zret_i S hr hlocks hK hP hD hS dX10_readInto_100
              · have hF := zi_neg c_65 hF
                refine lv_aload_n hx hb dX10_readInto_84 rfl (lv_at hl 1 rfl) ?_
                refine lv_aload_n hx hb dX10_readInto_85 rfl (lv_at hl 2 rfl) ?_
                obtain ⟨r_67, t_place_68, t_start_69, t_token_70, t_value_71, t_parts_72, c_size_73, c_period_74, c_hang_75, c_start_76, c_wind_77, hc_78, hF⟩ := zb11_s hF
                refine zcv_si (ws1 := [(t_a, .inr (10, [.ref t_a_letters, .ref t_a_parts, .int t_length, .int t_items, .int t_place_68, .int t_start_69, .int t_token_70, .int t_value_71])), (t_a_letters, .inl (cI, 120, .inl t_letters)), (t_a_parts, .inl (cI, 4, .inl t_parts_72)), (c_a, .inr (1, [.int c_every, .int c_size_73, .ref c_a_period, .ref c_a_hang, .ref c_a_start, .ref c_a_wind])), (c_a_period, .inl (cI, 6, .inl c_period_74)), (c_a_hang, .inl (cI, 6, .inl c_hang_75)), (c_a_start, .inl (cI, 6, .inl c_start_76)), (c_a_wind, .inl (cI, 6, .inl c_wind_77))]) S hT lk_X10_43 (c_X10_readJumper l D cI cZ cS cJ tl tm B t_a t_a_letters t_a_parts c_a c_a_period c_a_hang c_a_start c_a_wind t_length t_items t_place_56 t_start_57 t_token_58 t_value_59 t_letters t_parts c_every c_size c_period c_hang c_start c_wind hc_78) ⟨rfl, rfl, Nat.le_of_ble_eq_true rfl, Nat.le_of_ble_eq_true rfl⟩ hB hSt hK hP hD hS hA [0, 1, 2, 3, 4, 5, 6, 7] [] [0, 1, 2, 3, 4, 5, 6, 7] rfl rfl rfl rfl rfl rfl rfl rfl rfl rfl rfl hl.1 rfl (Nat.le_of_ble_eq_true rfl) dX10_readInto_86 ⟨Nat.zero_le _, Nat.zero_le _⟩ (fun H locs hP hD hS => ?_)
                refine lv_istore (lv' := [(4, .int r_67), (0, .ref t_a), (1, .ref c_a), (2, .int v2), (3, .int v3)]) hx hb dX10_readInto_89 hl (by decide) rfl (fun ls hl => ?_)
                refine lv_iload hx hb dX10_readInto_91 (lv_at hl 0 rfl) ?_
                refine lv_if_ne (tgt := 101) hx hb dX10_readInto_93 (by decide) (fun c_79 => ?_) (fun c_79 => ?_)
                · have hF := zi_neg c_79 hF
                  refine lv_aload_n hx hb dX10_readInto_101 rfl (lv_at hl 1 rfl) ?_
                  refine lv_dup hx hb dX10_readInto_102 rfl ?_
                  refine va_get (D := D) (ci := 10) (v := .int t_items) (C := RX10) (T := TX10) (N := 8) hx hb ht iyX10 hown hK hP 0 rfl rfl 3 (by decide) (ht _ wf_X10_23) (fun _ h9 => h9) rfl dX10_readInto_103 ?_
                  refine lv_iconst (v := 1) hx hb dX10_readInto_106 (by decide) ?_
                  refine lv_iadd hx hb dX10_readInto_107 ?_
                  refine va_put (D := D) (ci := 10) (v := .int (t_items + 1)) (ty := .int) (C := RX10) (T := TX10) (N := 8) hx hb ht iyX10 tyX10 tyX10_ok nmX10 hown hK hP hD hS 0 rfl rfl 3 (by decide) (ht _ wf_X10_23) (fun _ h9 => h9) rfl (by decide +kernel) rfl rfl (Nat.le_of_ble_eq_true rfl) dX10_readInto_108 (fun H locs hP hD hS => ?_)
                  have hP : va_P D classes [(t_a, .inr (10, [.ref t_a_letters, .ref t_a_parts, .int t_length, .int (t_items + 1), .int t_place_68, .int t_start_69, .int t_token_70, .int t_value_71])), (t_a_letters, .inl (cI, 120, .inl t_letters)), (t_a_parts, .inl (cI, 4, .inl t_parts_72)), (c_a, .inr (1, [.int c_every, .int c_size_73, .ref c_a_period, .ref c_a_hang, .ref c_a_start, .ref c_a_wind])), (c_a_period, .inl (cI, 6, .inl c_period_74)), (c_a_hang, .inl (cI, 6, .inl c_hang_75)), (c_a_start, .inl (cI, 6, .inl c_start_76)), (c_a_wind, .inl (cI, 6, .inl c_wind_77))] H := hP
                  have hD : va_D A [(t_a, .inr (10, [.ref t_a_letters, .ref t_a_parts, .int t_length, .int (t_items + 1), .int t_place_68, .int t_start_69, .int t_token_70, .int t_value_71])), (t_a_letters, .inl (cI, 120, .inl t_letters)), (t_a_parts, .inl (cI, 4, .inl t_parts_72)), (c_a, .inr (1, [.int c_every, .int c_size_73, .ref c_a_period, .ref c_a_hang, .ref c_a_start, .ref c_a_wind])), (c_a_period, .inl (cI, 6, .inl c_period_74)), (c_a_hang, .inl (cI, 6, .inl c_hang_75)), (c_a_start, .inl (cI, 6, .inl c_start_76)), (c_a_wind, .inl (cI, 6, .inl c_wind_77))] := hD
                  refine lv_iinc (v := v3 + 1) (lv' := [(3, .int (v3 + 1)), (4, .int r_67), (0, .ref t_a), (1, .ref c_a), (2, .int v2)]) hx hb dX10_readInto_111 hl (k := 4) rfl (by rfl) (by decide) rfl (fun ls hl => ?_)
                  refine lv_goto (tgt := 18) hx hb dX10_readInto_114 (by decide) ?_
                  exact ih_18 t_length (t_items + 1) t_place_68 t_start_69 t_token_70 t_value_71 t_letters t_parts_72 c_every c_size_73 c_period_74 c_hang_75 c_start_76 c_wind_77 v2 (v3 + 1) _ hF hret _ _ _ hP hD hS (lv_sub hl [2, 3, 4, 0] rfl) hexit_18
                · have hF := zi_pos c_79 hF
                  refine lv_aload_n hx hb dX10_readInto_96 rfl (lv_at hl 1 rfl) ?_
                  refine va_get (D := D) (ci := 10) (v := .int t_start_69) (C := RX10) (T := TX10) (N := 8) hx hb ht iyX10 hown hK hP 0 rfl rfl 5 (by decide) (ht _ wf_X10_46) (fun _ h9 => h9) rfl dX10_readInto_97 ?_
                  obtain ⟨e_0, e_1, e_2, e_3, e_4, e_5, e_6, e_7, e_8, e_9, e_10, e_11, e_12⟩ := zo13 (congrArg some (hret _ (Option.some.inj hF).symm))
                  subst e_0
                  subst e_1
                  subst e_2
                  subst e_3
                  subst e_4
                  subst e_5
                  subst e_6
                  subst e_7
                  subst e_8
                  subst e_9
                  subst e_10
                  subst e_11
                  subst e_12
                  exact zret_i S hr hlocks hK hP hD hS dX10_readInto_100
          · have hF := zi_pos c_62 hF
            refine lv_iload_n hx hb dX10_readInto_50 rfl (lv_at hl 3 rfl) ?_
            refine lv_if_ne (tgt := 66) hx hb dX10_readInto_51 (by decide) (fun c_80 => ?_) (fun c_80 => ?_)
            · have hF := zi_neg c_80 hF
              refine lv_aload_n hx hb dX10_readInto_66 rfl (lv_at hl 1 rfl) ?_
              refine va_get (D := D) (ci := 10) (v := .int t_token_58) (C := RX10) (T := TX10) (N := 8) hx hb ht iyX10 hown hK hP 0 rfl rfl 6 (by decide) (ht _ wf_X10_33) (fun _ h9 => h9) rfl dX10_readInto_67 ?_
              refine lv_bipush (v := 106) hx hb dX10_readInto_70 (by decide) ?_
              refine lv_icmp_ne (tgt := 91) hx hb dX10_readInto_72 (by decide) (fun c_81 => ?_) (fun c_81 => ?_)
              · have hF := zi_neg c_81 hF
                refine lv_iload hx hb dX10_readInto_91 (lv_at hl 0 rfl) ?_
                refine lv_if_ne (tgt := 101) hx hb dX10_readInto_93 (by decide) (fun c_82 => ?_) (fun c_82 => ?_)
                · exact absurd c_82 (by decide)
                refine lv_aload_n hx hb dX10_readInto_96 rfl (lv_at hl 1 rfl) ?_
                refine va_get (D := D) (ci := 10) (v := .int t_start_57) (C := RX10) (T := TX10) (N := 8) hx hb ht iyX10 hown hK hP 0 rfl rfl 5 (by decide) (ht _ wf_X10_46) (fun _ h9 => h9) rfl dX10_readInto_97 ?_
                obtain ⟨e_0, e_1, e_2, e_3, e_4, e_5, e_6, e_7, e_8, e_9, e_10, e_11, e_12⟩ := zo13 (congrArg some (hret _ (Option.some.inj hF).symm))
                subst e_0
                subst e_1
                subst e_2
                subst e_3
                subst e_4
                subst e_5
                subst e_6
                subst e_7
                subst e_8
                subst e_9
                subst e_10
                subst e_11
                subst e_12
                exact zret_i S hr hlocks hK hP hD hS dX10_readInto_100
              · have hF := zi_pos c_81 hF
                refine lv_aload_n hx hb dX10_readInto_75 rfl (lv_at hl 2 rfl) ?_
                refine va_get (D := D) (ci := 1) (v := .int c_size) (C := RX1) (T := TX1) (N := 6) hx hb ht iyX1 hown hK hP 3 rfl rfl 1 (by decide) (ht _ wf_X10_40) (fun _ h9 => h9) rfl dX10_readInto_76 ?_
                refine lv_bipush (v := 6) hx hb dX10_readInto_79 (by decide) ?_
                refine lv_icmp_ge (tgt := 91) hx hb dX10_readInto_81 (by decide) (fun c_83 => ?_) (fun c_83 => ?_)
                · have hF := zi_pos c_83 hF
                  refine lv_iload hx hb dX10_readInto_91 (lv_at hl 0 rfl) ?_
                  refine lv_if_ne (tgt := 101) hx hb dX10_readInto_93 (by decide) (fun c_84 => ?_) (fun c_84 => ?_)
                  · exact absurd c_84 (by decide)
                  refine lv_aload_n hx hb dX10_readInto_96 rfl (lv_at hl 1 rfl) ?_
                  refine va_get (D := D) (ci := 10) (v := .int t_start_57) (C := RX10) (T := TX10) (N := 8) hx hb ht iyX10 hown hK hP 0 rfl rfl 5 (by decide) (ht _ wf_X10_46) (fun _ h9 => h9) rfl dX10_readInto_97 ?_
                  obtain ⟨e_0, e_1, e_2, e_3, e_4, e_5, e_6, e_7, e_8, e_9, e_10, e_11, e_12⟩ := zo13 (congrArg some (hret _ (Option.some.inj hF).symm))
                  subst e_0
                  subst e_1
                  subst e_2
                  subst e_3
                  subst e_4
                  subst e_5
                  subst e_6
                  subst e_7
                  subst e_8
                  subst e_9
                  subst e_10
                  subst e_11
                  subst e_12
                  exact zret_i S hr hlocks hK hP hD hS dX10_readInto_100
                · have hF := zi_neg c_83 hF
                  refine lv_aload_n hx hb dX10_readInto_84 rfl (lv_at hl 1 rfl) ?_
                  refine lv_aload_n hx hb dX10_readInto_85 rfl (lv_at hl 2 rfl) ?_
                  obtain ⟨r_85, t_place_86, t_start_87, t_token_88, t_value_89, t_parts_90, c_size_91, c_period_92, c_hang_93, c_start_94, c_wind_95, hc_96, hF⟩ := zb11_s hF
                  refine zcv_si (ws1 := [(t_a, .inr (10, [.ref t_a_letters, .ref t_a_parts, .int t_length, .int t_items, .int t_place_86, .int t_start_87, .int t_token_88, .int t_value_89])), (t_a_letters, .inl (cI, 120, .inl t_letters)), (t_a_parts, .inl (cI, 4, .inl t_parts_90)), (c_a, .inr (1, [.int c_every, .int c_size_91, .ref c_a_period, .ref c_a_hang, .ref c_a_start, .ref c_a_wind])), (c_a_period, .inl (cI, 6, .inl c_period_92)), (c_a_hang, .inl (cI, 6, .inl c_hang_93)), (c_a_start, .inl (cI, 6, .inl c_start_94)), (c_a_wind, .inl (cI, 6, .inl c_wind_95))]) S hT lk_X10_43 (c_X10_readJumper l D cI cZ cS cJ tl tm B t_a t_a_letters t_a_parts c_a c_a_period c_a_hang c_a_start c_a_wind t_length t_items t_place_56 t_start_57 t_token_58 t_value_59 t_letters t_parts c_every c_size c_period c_hang c_start c_wind hc_96) ⟨rfl, rfl, Nat.le_of_ble_eq_true rfl, Nat.le_of_ble_eq_true rfl⟩ hB hSt hK hP hD hS hA [0, 1, 2, 3, 4, 5, 6, 7] [] [0, 1, 2, 3, 4, 5, 6, 7] rfl rfl rfl rfl rfl rfl rfl rfl rfl rfl rfl hl.1 rfl (Nat.le_of_ble_eq_true rfl) dX10_readInto_86 ⟨Nat.zero_le _, Nat.zero_le _⟩ (fun H locs hP hD hS => ?_)
                  refine lv_istore (lv' := [(4, .int r_85), (0, .ref t_a), (1, .ref c_a), (2, .int v2), (3, .int v3)]) hx hb dX10_readInto_89 hl (by decide) rfl (fun ls hl => ?_)
                  refine lv_iload hx hb dX10_readInto_91 (lv_at hl 0 rfl) ?_
                  refine lv_if_ne (tgt := 101) hx hb dX10_readInto_93 (by decide) (fun c_97 => ?_) (fun c_97 => ?_)
                  · have hF := zi_neg c_97 hF
                    refine lv_aload_n hx hb dX10_readInto_101 rfl (lv_at hl 1 rfl) ?_
                    refine lv_dup hx hb dX10_readInto_102 rfl ?_
                    refine va_get (D := D) (ci := 10) (v := .int t_items) (C := RX10) (T := TX10) (N := 8) hx hb ht iyX10 hown hK hP 0 rfl rfl 3 (by decide) (ht _ wf_X10_23) (fun _ h9 => h9) rfl dX10_readInto_103 ?_
                    refine lv_iconst (v := 1) hx hb dX10_readInto_106 (by decide) ?_
                    refine lv_iadd hx hb dX10_readInto_107 ?_
                    refine va_put (D := D) (ci := 10) (v := .int (t_items + 1)) (ty := .int) (C := RX10) (T := TX10) (N := 8) hx hb ht iyX10 tyX10 tyX10_ok nmX10 hown hK hP hD hS 0 rfl rfl 3 (by decide) (ht _ wf_X10_23) (fun _ h9 => h9) rfl (by decide +kernel) rfl rfl (Nat.le_of_ble_eq_true rfl) dX10_readInto_108 (fun H locs hP hD hS => ?_)
                    have hP : va_P D classes [(t_a, .inr (10, [.ref t_a_letters, .ref t_a_parts, .int t_length, .int (t_items + 1), .int t_place_86, .int t_start_87, .int t_token_88, .int t_value_89])), (t_a_letters, .inl (cI, 120, .inl t_letters)), (t_a_parts, .inl (cI, 4, .inl t_parts_90)), (c_a, .inr (1, [.int c_every, .int c_size_91, .ref c_a_period, .ref c_a_hang, .ref c_a_start, .ref c_a_wind])), (c_a_period, .inl (cI, 6, .inl c_period_92)), (c_a_hang, .inl (cI, 6, .inl c_hang_93)), (c_a_start, .inl (cI, 6, .inl c_start_94)), (c_a_wind, .inl (cI, 6, .inl c_wind_95))] H := hP
                    have hD : va_D A [(t_a, .inr (10, [.ref t_a_letters, .ref t_a_parts, .int t_length, .int (t_items + 1), .int t_place_86, .int t_start_87, .int t_token_88, .int t_value_89])), (t_a_letters, .inl (cI, 120, .inl t_letters)), (t_a_parts, .inl (cI, 4, .inl t_parts_90)), (c_a, .inr (1, [.int c_every, .int c_size_91, .ref c_a_period, .ref c_a_hang, .ref c_a_start, .ref c_a_wind])), (c_a_period, .inl (cI, 6, .inl c_period_92)), (c_a_hang, .inl (cI, 6, .inl c_hang_93)), (c_a_start, .inl (cI, 6, .inl c_start_94)), (c_a_wind, .inl (cI, 6, .inl c_wind_95))] := hD
                    refine lv_iinc (v := v3 + 1) (lv' := [(3, .int (v3 + 1)), (4, .int r_85), (0, .ref t_a), (1, .ref c_a), (2, .int v2)]) hx hb dX10_readInto_111 hl (k := 4) rfl (by rfl) (by decide) rfl (fun ls hl => ?_)
                    refine lv_goto (tgt := 18) hx hb dX10_readInto_114 (by decide) ?_
                    exact ih_18 t_length (t_items + 1) t_place_86 t_start_87 t_token_88 t_value_89 t_letters t_parts_90 c_every c_size_91 c_period_92 c_hang_93 c_start_94 c_wind_95 v2 (v3 + 1) _ hF hret _ _ _ hP hD hS (lv_sub hl [2, 3, 4, 0] rfl) hexit_18
                  · have hF := zi_pos c_97 hF
                    refine lv_aload_n hx hb dX10_readInto_96 rfl (lv_at hl 1 rfl) ?_
                    refine va_get (D := D) (ci := 10) (v := .int t_start_87) (C := RX10) (T := TX10) (N := 8) hx hb ht iyX10 hown hK hP 0 rfl rfl 5 (by decide) (ht _ wf_X10_46) (fun _ h9 => h9) rfl dX10_readInto_97 ?_
                    obtain ⟨e_0, e_1, e_2, e_3, e_4, e_5, e_6, e_7, e_8, e_9, e_10, e_11, e_12⟩ := zo13 (congrArg some (hret _ (Option.some.inj hF).symm))
                    subst e_0
                    subst e_1
                    subst e_2
                    subst e_3
                    subst e_4
                    subst e_5
                    subst e_6
                    subst e_7
                    subst e_8
                    subst e_9
                    subst e_10
                    subst e_11
                    subst e_12
                    exact zret_i S hr hlocks hK hP hD hS dX10_readInto_100
            · have hF := zi_pos c_80 hF
              refine lv_iconst (v := 1) hx hb dX10_readInto_54 (by decide) ?_
              refine lv_istore_n (lv' := [(2, .int 1), (4, .int 0), (0, .ref t_a), (1, .ref c_a), (3, .int v3)]) hx hb dX10_readInto_55 rfl hl (by decide) rfl (fun ls hl => ?_)
              refine lv_aload_n hx hb dX10_readInto_56 rfl (lv_at hl 2 rfl) ?_
              refine lv_aload_n hx hb dX10_readInto_57 rfl (lv_at hl 3 rfl) ?_
              obtain ⟨r_98, t_place_99, t_start_100, t_token_101, t_value_102, c_every_103, hc_104, hF⟩ := zb6_s hF
              refine zcv_i (ws1 := [(t_a, .inr (10, [.ref t_a_letters, .ref t_a_parts, .int t_length, .int t_items, .int t_place_99, .int t_start_100, .int t_token_101, .int t_value_102])), (t_a_letters, .inl (cI, 120, .inl t_letters)), (t_a_parts, .inl (cI, 4, .inl t_parts)), (c_a, .inr (1, [.int c_every_103, .int c_size, .ref c_a_period, .ref c_a_hang, .ref c_a_start, .ref c_a_wind])), (c_a_period, .inl (cI, 6, .inl c_period)), (c_a_hang, .inl (cI, 6, .inl c_hang)), (c_a_start, .inl (cI, 6, .inl c_start)), (c_a_wind, .inl (cI, 6, .inl c_wind))]) S hT lk_X10_36 (c_X10_readEvery l D cI cZ cS cJ t_a t_a_letters t_a_parts c_a c_a_period c_a_hang c_a_start c_a_wind t_length t_items t_place_56 t_start_57 t_token_58 t_value_59 t_letters c_every c_size hc_104) ⟨rfl, rfl, Nat.le_of_ble_eq_true rfl, Nat.le_of_ble_eq_true rfl⟩ hK hP hD hS hA [0, 1, 3] [2, 4, 5, 6, 7] [5, 6, 0, 7, 1, 2, 3, 4] rfl rfl rfl rfl rfl rfl rfl rfl rfl rfl rfl hl.1 rfl (Nat.le_of_ble_eq_true rfl) dX10_readInto_58 ⟨Nat.zero_le _, Nat.zero_le _⟩ (fun H locs hP hD hS => ?_)
              refine lv_istore (lv' := [(4, .int r_98), (2, .int 1), (0, .ref t_a), (1, .ref c_a), (3, .int v3)]) hx hb dX10_readInto_61 hl (by decide) rfl (fun ls hl => ?_)
              refine lv_goto (tgt := 91) hx hb dX10_readInto_63 (by decide) ?_
              refine lv_iload hx hb dX10_readInto_91 (lv_at hl 0 rfl) ?_
              refine lv_if_ne (tgt := 101) hx hb dX10_readInto_93 (by decide) (fun c_105 => ?_) (fun c_105 => ?_)
              · have hF := zi_neg c_105 hF
                refine lv_aload_n hx hb dX10_readInto_101 rfl (lv_at hl 2 rfl) ?_
                refine lv_dup hx hb dX10_readInto_102 rfl ?_
                refine va_get (D := D) (ci := 10) (v := .int t_items) (C := RX10) (T := TX10) (N := 8) hx hb ht iyX10 hown hK hP 0 rfl rfl 3 (by decide) (ht _ wf_X10_23) (fun _ h9 => h9) rfl dX10_readInto_103 ?_
                refine lv_iconst (v := 1) hx hb dX10_readInto_106 (by decide) ?_
                refine lv_iadd hx hb dX10_readInto_107 ?_
                refine va_put (D := D) (ci := 10) (v := .int (t_items + 1)) (ty := .int) (C := RX10) (T := TX10) (N := 8) hx hb ht iyX10 tyX10 tyX10_ok nmX10 hown hK hP hD hS 0 rfl rfl 3 (by decide) (ht _ wf_X10_23) (fun _ h9 => h9) rfl (by decide +kernel) rfl rfl (Nat.le_of_ble_eq_true rfl) dX10_readInto_108 (fun H locs hP hD hS => ?_)
                have hP : va_P D classes [(t_a, .inr (10, [.ref t_a_letters, .ref t_a_parts, .int t_length, .int (t_items + 1), .int t_place_99, .int t_start_100, .int t_token_101, .int t_value_102])), (t_a_letters, .inl (cI, 120, .inl t_letters)), (t_a_parts, .inl (cI, 4, .inl t_parts)), (c_a, .inr (1, [.int c_every_103, .int c_size, .ref c_a_period, .ref c_a_hang, .ref c_a_start, .ref c_a_wind])), (c_a_period, .inl (cI, 6, .inl c_period)), (c_a_hang, .inl (cI, 6, .inl c_hang)), (c_a_start, .inl (cI, 6, .inl c_start)), (c_a_wind, .inl (cI, 6, .inl c_wind))] H := hP
                have hD : va_D A [(t_a, .inr (10, [.ref t_a_letters, .ref t_a_parts, .int t_length, .int (t_items + 1), .int t_place_99, .int t_start_100, .int t_token_101, .int t_value_102])), (t_a_letters, .inl (cI, 120, .inl t_letters)), (t_a_parts, .inl (cI, 4, .inl t_parts)), (c_a, .inr (1, [.int c_every_103, .int c_size, .ref c_a_period, .ref c_a_hang, .ref c_a_start, .ref c_a_wind])), (c_a_period, .inl (cI, 6, .inl c_period)), (c_a_hang, .inl (cI, 6, .inl c_hang)), (c_a_start, .inl (cI, 6, .inl c_start)), (c_a_wind, .inl (cI, 6, .inl c_wind))] := hD
                refine lv_iinc (v := v3 + 1) (lv' := [(3, .int (v3 + 1)), (4, .int r_98), (2, .int 1), (0, .ref t_a), (1, .ref c_a)]) hx hb dX10_readInto_111 hl (k := 4) rfl (by rfl) (by decide) rfl (fun ls hl => ?_)
                refine lv_goto (tgt := 18) hx hb dX10_readInto_114 (by decide) ?_
                exact ih_18 t_length (t_items + 1) t_place_99 t_start_100 t_token_101 t_value_102 t_letters t_parts c_every_103 c_size c_period c_hang c_start c_wind 1 (v3 + 1) _ hF hret _ _ _ hP hD hS (lv_sub hl [3, 4, 2, 0] rfl) hexit_18
              · have hF := zi_pos c_105 hF
                refine lv_aload_n hx hb dX10_readInto_96 rfl (lv_at hl 2 rfl) ?_
                refine va_get (D := D) (ci := 10) (v := .int t_start_100) (C := RX10) (T := TX10) (N := 8) hx hb ht iyX10 hown hK hP 0 rfl rfl 5 (by decide) (ht _ wf_X10_46) (fun _ h9 => h9) rfl dX10_readInto_97 ?_
                obtain ⟨e_0, e_1, e_2, e_3, e_4, e_5, e_6, e_7, e_8, e_9, e_10, e_11, e_12⟩ := zo13 (congrArg some (hret _ (Option.some.inj hF).symm))
                subst e_0
                subst e_1
                subst e_2
                subst e_3
                subst e_4
                subst e_5
                subst e_6
                subst e_7
                subst e_8
                subst e_9
                subst e_10
                subst e_11
                subst e_12
                exact zret_i S hr hlocks hK hP hD hS dX10_readInto_100
        · have hF := zi_pos c_61 hF
          refine lv_bipush (v := (-9)) hx hb dX10_readInto_35 (by decide) ?_
          obtain ⟨e_0, e_1, e_2, e_3, e_4, e_5, e_6, e_7, e_8, e_9, e_10, e_11, e_12⟩ := zo13 (congrArg some (hret _ (Option.some.inj hF).symm))
          subst e_0
          subst e_1
          subst e_2
          subst e_3
          subst e_4
          subst e_5
          subst e_6
          subst e_7
          subst e_8
          subst e_9
          subst e_10
          subst e_11
          subst e_12
          exact zret_i S hr hlocks hK hP hD hS dX10_readInto_37
  refine lv_aload_n hx hb dX10_readInto_0 rfl (lv_at hl 1 rfl) ?_
  obtain ⟨c_every_1, c_size_2, hc_3, hF⟩ := zb2_s hF
  refine zcv_v (ws1 := [(t_a, .inr (10, [.ref t_a_letters, .ref t_a_parts, .int t_length, .int t_items, .int t_place, .int t_start, .int t_token, .int t_value])), (t_a_letters, .inl (cI, 120, .inl t_letters)), (t_a_parts, .inl (cI, 4, .inl t_parts)), (c_a, .inr (1, [.int c_every_1, .int c_size_2, .ref c_a_period, .ref c_a_hang, .ref c_a_start, .ref c_a_wind])), (c_a_period, .inl (cI, 6, .inl c_period)), (c_a_hang, .inl (cI, 6, .inl c_hang)), (c_a_start, .inl (cI, 6, .inl c_start)), (c_a_wind, .inl (cI, 6, .inl c_wind))]) S hT lk_X10_18 (c_X1_reset l D cI cZ cS cJ c_a c_a_period c_a_hang c_a_start c_a_wind c_every c_size hc_3) ⟨rfl, rfl, Nat.le_of_ble_eq_true rfl, Nat.le_of_ble_eq_true rfl⟩ hK hP hD hS hA [3] [0, 1, 2, 4, 5, 6, 7] [0, 1, 2, 7, 3, 4, 5, 6] rfl rfl rfl rfl rfl rfl rfl rfl rfl rfl rfl hl.1 rfl (Nat.le_of_ble_eq_true rfl) dX10_readInto_1 ⟨Nat.zero_le _, Nat.zero_le _⟩ (fun H locs hP hD hS => ?_)
  refine lv_aload_n hx hb dX10_readInto_4 rfl (lv_at hl 0 rfl) ?_
  refine lv_iconst (v := 0) hx hb dX10_readInto_5 (by decide) ?_
  refine va_put (D := D) (ci := 10) (v := .int 0) (ty := .int) (C := RX10) (T := TX10) (N := 8) hx hb ht iyX10 tyX10 tyX10_ok nmX10 hown hK hP hD hS 0 rfl rfl 3 (by decide) (ht _ wf_X10_23) (fun _ h9 => h9) rfl (by decide +kernel) rfl rfl (Nat.le_of_ble_eq_true rfl) dX10_readInto_6 (fun H locs hP hD hS => ?_)
  have hP : va_P D classes [(t_a, .inr (10, [.ref t_a_letters, .ref t_a_parts, .int t_length, .int 0, .int t_place, .int t_start, .int t_token, .int t_value])), (t_a_letters, .inl (cI, 120, .inl t_letters)), (t_a_parts, .inl (cI, 4, .inl t_parts)), (c_a, .inr (1, [.int c_every_1, .int c_size_2, .ref c_a_period, .ref c_a_hang, .ref c_a_start, .ref c_a_wind])), (c_a_period, .inl (cI, 6, .inl c_period)), (c_a_hang, .inl (cI, 6, .inl c_hang)), (c_a_start, .inl (cI, 6, .inl c_start)), (c_a_wind, .inl (cI, 6, .inl c_wind))] H := hP
  have hD : va_D A [(t_a, .inr (10, [.ref t_a_letters, .ref t_a_parts, .int t_length, .int 0, .int t_place, .int t_start, .int t_token, .int t_value])), (t_a_letters, .inl (cI, 120, .inl t_letters)), (t_a_parts, .inl (cI, 4, .inl t_parts)), (c_a, .inr (1, [.int c_every_1, .int c_size_2, .ref c_a_period, .ref c_a_hang, .ref c_a_start, .ref c_a_wind])), (c_a_period, .inl (cI, 6, .inl c_period)), (c_a_hang, .inl (cI, 6, .inl c_hang)), (c_a_start, .inl (cI, 6, .inl c_start)), (c_a_wind, .inl (cI, 6, .inl c_wind))] := hD
  refine lv_aload_n hx hb dX10_readInto_9 rfl (lv_at hl 0 rfl) ?_
  refine lv_iconst (v := 0) hx hb dX10_readInto_10 (by decide) ?_
  refine va_put (D := D) (ci := 10) (v := .int 0) (ty := .int) (C := RX10) (T := TX10) (N := 8) hx hb ht iyX10 tyX10 tyX10_ok nmX10 hown hK hP hD hS 0 rfl rfl 4 (by decide) (ht _ wf_X10_27) (fun _ h9 => h9) rfl (by decide +kernel) rfl rfl (Nat.le_of_ble_eq_true rfl) dX10_readInto_11 (fun H locs hP hD hS => ?_)
  have hP : va_P D classes [(t_a, .inr (10, [.ref t_a_letters, .ref t_a_parts, .int t_length, .int 0, .int 0, .int t_start, .int t_token, .int t_value])), (t_a_letters, .inl (cI, 120, .inl t_letters)), (t_a_parts, .inl (cI, 4, .inl t_parts)), (c_a, .inr (1, [.int c_every_1, .int c_size_2, .ref c_a_period, .ref c_a_hang, .ref c_a_start, .ref c_a_wind])), (c_a_period, .inl (cI, 6, .inl c_period)), (c_a_hang, .inl (cI, 6, .inl c_hang)), (c_a_start, .inl (cI, 6, .inl c_start)), (c_a_wind, .inl (cI, 6, .inl c_wind))] H := hP
  have hD : va_D A [(t_a, .inr (10, [.ref t_a_letters, .ref t_a_parts, .int t_length, .int 0, .int 0, .int t_start, .int t_token, .int t_value])), (t_a_letters, .inl (cI, 120, .inl t_letters)), (t_a_parts, .inl (cI, 4, .inl t_parts)), (c_a, .inr (1, [.int c_every_1, .int c_size_2, .ref c_a_period, .ref c_a_hang, .ref c_a_start, .ref c_a_wind])), (c_a_period, .inl (cI, 6, .inl c_period)), (c_a_hang, .inl (cI, 6, .inl c_hang)), (c_a_start, .inl (cI, 6, .inl c_start)), (c_a_wind, .inl (cI, 6, .inl c_wind))] := hD
  refine lv_iconst (v := 0) hx hb dX10_readInto_14 (by decide) ?_
  refine lv_istore_n (lv' := [(2, .int 0), (0, .ref t_a), (1, .ref c_a)]) hx hb dX10_readInto_15 rfl hl (by decide) rfl (fun ls hl => ?_)
  refine lv_iconst (v := 0) hx hb dX10_readInto_16 (by decide) ?_
  refine lv_istore_n (lv' := [(3, .int 0), (2, .int 0), (0, .ref t_a), (1, .ref c_a)]) hx hb dX10_readInto_17 rfl hl (by decide) rfl (fun ls hl => ?_)
  rcases zs14_s hF with ⟨t_items_106, t_place_107, t_start_108, t_token_109, t_value_110, t_parts_111, c_every_112, c_size_113, c_period_114, c_hang_115, c_start_116, c_wind_117, v2_118, v3_119, hL_120, hF⟩ | hL_120
  rotate_left
  · exact hloop_18 300 t_length 0 0 t_start t_token t_value t_letters t_parts c_every_1 c_size_2 c_period c_hang c_start c_wind 0 0 _ hL_120 (fun o ho => (Sum.inr.inj ho).symm) _ _ _ hP hD hS (lv_sub hl [2, 3, 1, 0] rfl) (fun t_items_106 t_place_107 t_start_108 t_token_109 t_value_110 t_parts_111 c_every_112 c_size_113 c_period_114 c_hang_115 c_start_116 c_wind_117 v2_118 v3_119 ho => nomatch ho)
  refine hloop_18 300 t_length 0 0 t_start t_token t_value t_letters t_parts c_every_1 c_size_2 c_period c_hang c_start c_wind 0 0 _ hL_120 (fun o ho => nomatch ho) _ _ _ hP hD hS (lv_sub hl [2, 3, 1, 0] rfl) (fun t_items_106' t_place_107' t_start_108' t_token_109' t_value_110' t_parts_111' c_every_112' c_size_113' c_period_114' c_hang_115' c_start_116' c_wind_117' v2_118' v3_119' ho H locs ls hP hD hS hl => ?_)
  obtain ⟨rfl, rfl, rfl, rfl, rfl, rfl, rfl, rfl, rfl, rfl, rfl, rfl, rfl, rfl⟩ : t_items_106 = t_items_106' ∧ t_place_107 = t_place_107' ∧ t_start_108 = t_start_108' ∧ t_token_109 = t_token_109' ∧ t_value_110 = t_value_110' ∧ t_parts_111 = t_parts_111' ∧ c_every_112 = c_every_112' ∧ c_size_113 = c_size_113' ∧ c_period_114 = c_period_114' ∧ c_hang_115 = c_hang_115' ∧ c_start_116 = c_start_116' ∧ c_wind_117 = c_wind_117' ∧ v2_118 = v2_118' ∧ v3_119 = v3_119' := by cases ho; exact ⟨rfl, rfl, rfl, rfl, rfl, rfl, rfl, rfl, rfl, rfl, rfl, rfl, rfl, rfl⟩
  refine lv_aload_n hx hb dX10_readInto_117 rfl (lv_at hl 0 rfl) ?_
  refine va_get (D := D) (ci := 10) (v := .int t_start_108) (C := RX10) (T := TX10) (N := 8) hx hb ht iyX10 hown hK hP 0 rfl rfl 5 (by decide) (ht _ wf_X10_46) (fun _ h9 => h9) rfl dX10_readInto_118 ?_
  obtain ⟨e_0, e_1, e_2, e_3, e_4, e_5, e_6, e_7, e_8, e_9, e_10, e_11, e_12⟩ := zo13 hF
  subst e_0
  subst e_1
  subst e_2
  subst e_3
  subst e_4
  subst e_5
  subst e_6
  subst e_7
  subst e_8
  subst e_9
  subst e_10
  subst e_11
  subst e_12
  exact zret_i S hr hlocks hK hP hD hS dX10_readInto_121

theorem lk_X11_92 : zLk RX11 92 yX10_readInto cX10_readInto 5 (some .int) 1 := ⟨⟨wm_X11_92, wo_X10_readInto, we_X10_X10_readInto, wi_X10, wd_X10_readInto⟩, by decide, by decide, by decide +kernel⟩
theorem lk_X11_80 : zLk RX11 80 yX8_open cX8_open 3 none 1 := ⟨⟨wm_X11_80, wo_X8_open, we_X8_X8_open, wi_X8, wd_X8_open⟩, by decide, by decide, by decide +kernel⟩
def L_X11_yard_78 : Nat → (Nat → Int32) → Int32 → Option ((Nat → Int32) × Int32)
  | 0 => fun _ _ => none
  | n + 1 => fun k_ v3 => (if 2 ≤ v3 then some (k_, v3) else (if (v3 < 0 ∨ 2 ≤ v3.toNatClampNeg) then none else (L_X11_yard_78 n (upd k_ v3.toNatClampNeg (vp_nar .boolean 0)) (v3 + 1))))
theorem L_X11_yard_78_z (k_ : Nat → Int32) (v3 : Int32) : L_X11_yard_78 0 k_ v3 = none := rfl
theorem L_X11_yard_78_s (n : Nat) (k_ : Nat → Int32) (v3 : Int32) : L_X11_yard_78 (n + 1) k_ v3 = (if 2 ≤ v3 then some (k_, v3) else (if (v3 < 0 ∨ 2 ≤ v3.toNatClampNeg) then none else (L_X11_yard_78 n (upd k_ v3.toNatClampNeg (vp_nar .boolean 0)) (v3 + 1)))) := rfl
def F_X11_yard (t_length : Int32) (t_start : Int32) (t_token : Int32) (t_value : Int32) (t_letters : Nat → Int32) (t_parts : Nat → Int32) (d_period : Nat → Int32) (d_hang : Nat → Int32) (d_start : Nat → Int32) (d_wind : Nat → Int32) (s_tick : Int32) (s_every : Int32) (s_round : Int32) (s_inside : Int32) (s_up : Nat → Int32) (s_due : Nat → Int32) (s_wind : Nat → Int32) (q_size : Int32) (w_size : Int32) (k_ : Nat → Int32) (c_a : Nat) (d_a : Nat) : Option (Int32 × Int32 × Int32 × Int32 × Int32 × Int32 × Int32 × (Nat → Int32) × Int32 × Int32 × (Nat → Int32) × (Nat → Int32) × (Nat → Int32) × (Nat → Int32) × Int32 × Int32 × Int32 × Int32 × (Nat → Int32) × (Nat → Int32) × (Nat → Int32) × Int32 × Int32 × (Nat → Int32) × Nat × Nat) :=
  (zb13 (F_X10_readInto t_length t_start t_token t_value t_letters t_parts d_period d_hang d_start d_wind) (fun r_1 t_items_2 t_place_3 t_start_4 t_token_5 t_value_6 t_parts_7 d_every_8 d_size_9 d_period_10 d_hang_11 d_start_12 d_wind_13 => (if r_1 = (-9) then (zb7 (F_X8_open s_up s_due s_wind d_every_8 d_size_9 d_start_12 d_wind_13) (fun s_tick_16 s_every_17 s_round_18 s_inside_19 s_up_20 s_due_21 s_wind_22 => (zb2 (L_X11_yard_78 300 k_ 0) (fun k__28 v3_29 => some (t_items_2, 0, t_items_2, t_place_3, t_start_4, t_token_5, t_value_6, t_parts_7, d_every_8, d_size_9, d_period_10, d_hang_11, d_start_12, d_wind_13, s_tick_16, s_every_17, s_round_18, s_inside_19, s_up_20, s_due_21, s_wind_22, 0, 0, k__28, d_a, c_a))))) else some ((-10) - r_1, t_length, t_items_2, t_place_3, t_start_4, t_token_5, t_value_6, t_parts_7, d_every_8, d_size_9, d_period_10, d_hang_11, d_start_12, d_wind_13, s_tick, s_every, s_round, s_inside, s_up, s_due, s_wind, q_size, w_size, k_, c_a, d_a))))
set_option maxHeartbeats 4000000 in
set_option maxRecDepth 100000 in
theorem c_X11_yard (l : Launch) (D : va_G) (cI cZ cS cJ : ClassId) (tl tm : Nat) (B : Nat → Prop) (x_a : Nat) (t_a : Nat) (c_a : Nat) (d_a : Nat) (s_a : Nat) (u_a : Nat) (q_a : Nat) (i_a : Nat) (k_a : Nat) (w_a : Nat) (n_a : Nat) (t_a_letters : Nat) (t_a_parts : Nat) (d_a_period : Nat) (d_a_hang : Nat) (d_a_start : Nat) (d_a_wind : Nat) (s_a_up : Nat) (s_a_due : Nat) (s_a_wind : Nat) (q_a_ring : Nat) (w_a_hangs : Nat) (w_a_ticksSeen : Nat) (w_a_ups : Nat) (w_a_periods : Nat) (w_a_starts : Nat) (x_asked : Int64) (t_length : Int32) (t_items : Int32) (t_place : Int32) (t_start : Int32) (t_token : Int32) (t_value : Int32) (t_letters : Nat → Int32) (t_parts : Nat → Int32) (d_every : Int32) (d_size : Int32) (d_period : Nat → Int32) (d_hang : Nat → Int32) (d_start : Nat → Int32) (d_wind : Nat → Int32) (s_tick : Int32) (s_every : Int32) (s_round : Int32) (s_inside : Int32) (s_up : Nat → Int32) (s_due : Nat → Int32) (s_wind : Nat → Int32) (q_next : Int32) (q_size : Int32) (w_size : Int32) (w_found : Int32) (k_ : Nat → Int32) {r_o : Int32} {t_length_o : Int32} {t_items_o : Int32} {t_place_o : Int32} {t_start_o : Int32} {t_token_o : Int32} {t_value_o : Int32} {t_parts_o : Nat → Int32} {d_every_o : Int32} {d_size_o : Int32} {d_period_o : Nat → Int32} {d_hang_o : Nat → Int32} {d_start_o : Nat → Int32} {d_wind_o : Nat → Int32} {s_tick_o : Int32} {s_every_o : Int32} {s_round_o : Int32} {s_inside_o : Int32} {s_up_o : Nat → Int32} {s_due_o : Nat → Int32} {s_wind_o : Nat → Int32} {q_size_o : Int32} {w_size_o : Int32} {k__o : Nat → Int32} {x_crew_o : Nat} {x_draft_o : Nat} (hF : F_X11_yard t_length t_start t_token t_value t_letters t_parts d_period d_hang d_start d_wind s_tick s_every s_round s_inside s_up s_due s_wind q_size w_size k_ c_a d_a = some (r_o, t_length_o, t_items_o, t_place_o, t_start_o, t_token_o, t_value_o, t_parts_o, d_every_o, d_size_o, d_period_o, d_hang_o, d_start_o, d_wind_o, s_tick_o, s_every_o, s_round_o, s_inside_o, s_up_o, s_due_o, s_wind_o, q_size_o, w_size_o, k__o, x_crew_o, x_draft_o)) : zMsi l yX11_yard (zwl yX11_yard cX11_yard 4 (some .int)) { frames := 6, cells := 0, slots := 0, locals := 131 } D (TYS cI cZ cS cJ) tl tm B [.ref x_a] [(x_a, .inr (11, [.ref t_a, .ref c_a, .ref d_a, .ref s_a, .ref u_a, .ref q_a, .ref i_a, .ref k_a, .ref w_a, .ref n_a, .long x_asked])), (t_a, .inr (10, [.ref t_a_letters, .ref t_a_parts, .int t_length, .int t_items, .int t_place, .int t_start, .int t_token, .int t_value])), (t_a_letters, .inl (cI, 120, .inl t_letters)), (t_a_parts, .inl (cI, 4, .inl t_parts)), (d_a, .inr (1, [.int d_every, .int d_size, .ref d_a_period, .ref d_a_hang, .ref d_a_start, .ref d_a_wind])), (d_a_period, .inl (cI, 6, .inl d_period)), (d_a_hang, .inl (cI, 6, .inl d_hang)), (d_a_start, .inl (cI, 6, .inl d_start)), (d_a_wind, .inl (cI, 6, .inl d_wind)), (s_a, .inr (8, [.int s_tick, .int s_every, .int s_round, .int s_inside, .ref s_a_up, .ref s_a_due, .ref s_a_wind])), (s_a_up, .inl (cI, 6, .inl s_up)), (s_a_due, .inl (cI, 6, .inl s_due)), (s_a_wind, .inl (cI, 6, .inl s_wind)), (q_a, .inr (6, [.ref q_a_ring, .int q_next, .int q_size])), (w_a, .inr (9, [.int w_size, .ref w_a_hangs, .ref w_a_ticksSeen, .ref w_a_ups, .int w_found, .ref w_a_periods, .ref w_a_starts])), (k_a, .inl (cZ, 2, .inl k_))] [(x_a, .inr (11, [.ref t_a, .ref x_crew_o, .ref x_draft_o, .ref s_a, .ref u_a, .ref q_a, .ref i_a, .ref k_a, .ref w_a, .ref n_a, .long x_asked])), (t_a, .inr (10, [.ref t_a_letters, .ref t_a_parts, .int t_length_o, .int t_items_o, .int t_place_o, .int t_start_o, .int t_token_o, .int t_value_o])), (t_a_letters, .inl (cI, 120, .inl t_letters)), (t_a_parts, .inl (cI, 4, .inl t_parts_o)), (d_a, .inr (1, [.int d_every_o, .int d_size_o, .ref d_a_period, .ref d_a_hang, .ref d_a_start, .ref d_a_wind])), (d_a_period, .inl (cI, 6, .inl d_period_o)), (d_a_hang, .inl (cI, 6, .inl d_hang_o)), (d_a_start, .inl (cI, 6, .inl d_start_o)), (d_a_wind, .inl (cI, 6, .inl d_wind_o)), (s_a, .inr (8, [.int s_tick_o, .int s_every_o, .int s_round_o, .int s_inside_o, .ref s_a_up, .ref s_a_due, .ref s_a_wind])), (s_a_up, .inl (cI, 6, .inl s_up_o)), (s_a_due, .inl (cI, 6, .inl s_due_o)), (s_a_wind, .inl (cI, 6, .inl s_wind_o)), (q_a, .inr (6, [.ref q_a_ring, .int q_next, .int q_size_o])), (w_a, .inr (9, [.int w_size_o, .ref w_a_hangs, .ref w_a_ticksSeen, .ref w_a_ups, .int w_found, .ref w_a_periods, .ref w_a_starts])), (k_a, .inl (cZ, 2, .inl k__o))] r_o := by
  refine zent_si (own := RX11) (by decide) rfl (Nat.le_of_ble_eq_true rfl) ?_
  intro p e s m below meth c A ls S hr hlocks hK hP hD hA hl hB hSt
  have hx := S.1
  have hb := S.2.1
  have hml := S.2.2.1
  have hown := S.2.2.2.1
  have hT : ∀ w ∈ zt, w ∈ zwl yX11_yard cX11_yard 4 (some .int) := fun _ h => List.mem_cons_of_mem _ h
  have ht : ∀ w ∈ zt, w.before [.ref x_a].toArray s = true := fun w h => S.2.2.2.2 w (hT w h)
  have hl : lv_has ls 4 [(0, .ref x_a)] := hl
  have hS : va_S A s.heap s.heap [] := va_S.rf
  unfold F_X11_yard at hF
  have hloop_78 : ∀ (n : Nat) (x_asked : Int64) (t_length : Int32) (t_items : Int32) (t_place : Int32) (t_start : Int32) (t_token : Int32) (t_value : Int32) (t_letters : Nat → Int32) (t_parts : Nat → Int32) (d_every : Int32) (d_size : Int32) (d_period : Nat → Int32) (d_hang : Nat → Int32) (d_start : Nat → Int32) (d_wind : Nat → Int32) (s_tick : Int32) (s_every : Int32) (s_round : Int32) (s_inside : Int32) (s_up : Nat → Int32) (s_due : Nat → Int32) (s_wind : Nat → Int32) (q_next : Int32) (q_size : Int32) (w_size : Int32) (w_found : Int32) (k_ : Nat → Int32) (v1 : Int32) (v3 : Int32) (k_' : Nat → Int32) (v3' : Int32), L_X11_yard_78 n k_ v3 = some (k_', v3') → ∀ (H : Heap) (locs : List Loc) (ls : Array Slot), va_P D classes [(x_a, .inr (11, [.ref t_a, .ref d_a, .ref c_a, .ref s_a, .ref u_a, .ref q_a, .ref i_a, .ref k_a, .ref w_a, .ref n_a, .long x_asked])), (t_a, .inr (10, [.ref t_a_letters, .ref t_a_parts, .int t_length, .int t_items, .int t_place, .int t_start, .int t_token, .int t_value])), (t_a_letters, .inl (cI, 120, .inl t_letters)), (t_a_parts, .inl (cI, 4, .inl t_parts)), (d_a, .inr (1, [.int d_every, .int d_size, .ref d_a_period, .ref d_a_hang, .ref d_a_start, .ref d_a_wind])), (d_a_period, .inl (cI, 6, .inl d_period)), (d_a_hang, .inl (cI, 6, .inl d_hang)), (d_a_start, .inl (cI, 6, .inl d_start)), (d_a_wind, .inl (cI, 6, .inl d_wind)), (s_a, .inr (8, [.int s_tick, .int s_every, .int s_round, .int s_inside, .ref s_a_up, .ref s_a_due, .ref s_a_wind])), (s_a_up, .inl (cI, 6, .inl s_up)), (s_a_due, .inl (cI, 6, .inl s_due)), (s_a_wind, .inl (cI, 6, .inl s_wind)), (q_a, .inr (6, [.ref q_a_ring, .int q_next, .int q_size])), (w_a, .inr (9, [.int w_size, .ref w_a_hangs, .ref w_a_ticksSeen, .ref w_a_ups, .int w_found, .ref w_a_periods, .ref w_a_starts])), (k_a, .inl (cZ, 2, .inl k_))] H → va_D A [(x_a, .inr (11, [.ref t_a, .ref d_a, .ref c_a, .ref s_a, .ref u_a, .ref q_a, .ref i_a, .ref k_a, .ref w_a, .ref n_a, .long x_asked])), (t_a, .inr (10, [.ref t_a_letters, .ref t_a_parts, .int t_length, .int t_items, .int t_place, .int t_start, .int t_token, .int t_value])), (t_a_letters, .inl (cI, 120, .inl t_letters)), (t_a_parts, .inl (cI, 4, .inl t_parts)), (d_a, .inr (1, [.int d_every, .int d_size, .ref d_a_period, .ref d_a_hang, .ref d_a_start, .ref d_a_wind])), (d_a_period, .inl (cI, 6, .inl d_period)), (d_a_hang, .inl (cI, 6, .inl d_hang)), (d_a_start, .inl (cI, 6, .inl d_start)), (d_a_wind, .inl (cI, 6, .inl d_wind)), (s_a, .inr (8, [.int s_tick, .int s_every, .int s_round, .int s_inside, .ref s_a_up, .ref s_a_due, .ref s_a_wind])), (s_a_up, .inl (cI, 6, .inl s_up)), (s_a_due, .inl (cI, 6, .inl s_due)), (s_a_wind, .inl (cI, 6, .inl s_wind)), (q_a, .inr (6, [.ref q_a_ring, .int q_next, .int q_size])), (w_a, .inr (9, [.int w_size, .ref w_a_hangs, .ref w_a_ticksSeen, .ref w_a_ups, .int w_found, .ref w_a_periods, .ref w_a_starts])), (k_a, .inl (cZ, 2, .inl k_))] → va_S A s.heap H locs → lv_has ls 4 [(0, .ref x_a), (1, .int v1), (2, .ref c_a), (3, .int v3)] → (∀ (H : Heap) (locs : List Loc) (ls : Array Slot), va_P D classes [(x_a, .inr (11, [.ref t_a, .ref d_a, .ref c_a, .ref s_a, .ref u_a, .ref q_a, .ref i_a, .ref k_a, .ref w_a, .ref n_a, .long x_asked])), (t_a, .inr (10, [.ref t_a_letters, .ref t_a_parts, .int t_length, .int t_items, .int t_place, .int t_start, .int t_token, .int t_value])), (t_a_letters, .inl (cI, 120, .inl t_letters)), (t_a_parts, .inl (cI, 4, .inl t_parts)), (d_a, .inr (1, [.int d_every, .int d_size, .ref d_a_period, .ref d_a_hang, .ref d_a_start, .ref d_a_wind])), (d_a_period, .inl (cI, 6, .inl d_period)), (d_a_hang, .inl (cI, 6, .inl d_hang)), (d_a_start, .inl (cI, 6, .inl d_start)), (d_a_wind, .inl (cI, 6, .inl d_wind)), (s_a, .inr (8, [.int s_tick, .int s_every, .int s_round, .int s_inside, .ref s_a_up, .ref s_a_due, .ref s_a_wind])), (s_a_up, .inl (cI, 6, .inl s_up)), (s_a_due, .inl (cI, 6, .inl s_due)), (s_a_wind, .inl (cI, 6, .inl s_wind)), (q_a, .inr (6, [.ref q_a_ring, .int q_next, .int q_size])), (w_a, .inr (9, [.int w_size, .ref w_a_hangs, .ref w_a_ticksSeen, .ref w_a_ups, .int w_found, .ref w_a_periods, .ref w_a_starts])), (k_a, .inl (cZ, 2, .inl k_'))] H → va_D A [(x_a, .inr (11, [.ref t_a, .ref d_a, .ref c_a, .ref s_a, .ref u_a, .ref q_a, .ref i_a, .ref k_a, .ref w_a, .ref n_a, .long x_asked])), (t_a, .inr (10, [.ref t_a_letters, .ref t_a_parts, .int t_length, .int t_items, .int t_place, .int t_start, .int t_token, .int t_value])), (t_a_letters, .inl (cI, 120, .inl t_letters)), (t_a_parts, .inl (cI, 4, .inl t_parts)), (d_a, .inr (1, [.int d_every, .int d_size, .ref d_a_period, .ref d_a_hang, .ref d_a_start, .ref d_a_wind])), (d_a_period, .inl (cI, 6, .inl d_period)), (d_a_hang, .inl (cI, 6, .inl d_hang)), (d_a_start, .inl (cI, 6, .inl d_start)), (d_a_wind, .inl (cI, 6, .inl d_wind)), (s_a, .inr (8, [.int s_tick, .int s_every, .int s_round, .int s_inside, .ref s_a_up, .ref s_a_due, .ref s_a_wind])), (s_a_up, .inl (cI, 6, .inl s_up)), (s_a_due, .inl (cI, 6, .inl s_due)), (s_a_wind, .inl (cI, 6, .inl s_wind)), (q_a, .inr (6, [.ref q_a_ring, .int q_next, .int q_size])), (w_a, .inr (9, [.int w_size, .ref w_a_hangs, .ref w_a_ticksSeen, .ref w_a_ups, .int w_found, .ref w_a_periods, .ref w_a_starts])), (k_a, .inl (cZ, 2, .inl k_'))] → va_S A s.heap H locs → lv_has ls 4 [(0, .ref x_a), (1, .int v1), (2, .ref c_a), (3, .int v3')] → W p l e { frames := 6, cells := 0, slots := 0, locals := 131 } s m [.ref x_a].toArray below meth c H locs 0 0 (zFi below [.ref x_a] s A D (TYS cI cZ cS cJ) [(x_a, .inr (11, [.ref t_a, .ref x_crew_o, .ref x_draft_o, .ref s_a, .ref u_a, .ref q_a, .ref i_a, .ref k_a, .ref w_a, .ref n_a, .long x_asked])), (t_a, .inr (10, [.ref t_a_letters, .ref t_a_parts, .int t_length_o, .int t_items_o, .int t_place_o, .int t_start_o, .int t_token_o, .int t_value_o])), (t_a_letters, .inl (cI, 120, .inl t_letters)), (t_a_parts, .inl (cI, 4, .inl t_parts_o)), (d_a, .inr (1, [.int d_every_o, .int d_size_o, .ref d_a_period, .ref d_a_hang, .ref d_a_start, .ref d_a_wind])), (d_a_period, .inl (cI, 6, .inl d_period_o)), (d_a_hang, .inl (cI, 6, .inl d_hang_o)), (d_a_start, .inl (cI, 6, .inl d_start_o)), (d_a_wind, .inl (cI, 6, .inl d_wind_o)), (s_a, .inr (8, [.int s_tick_o, .int s_every_o, .int s_round_o, .int s_inside_o, .ref s_a_up, .ref s_a_due, .ref s_a_wind])), (s_a_up, .inl (cI, 6, .inl s_up_o)), (s_a_due, .inl (cI, 6, .inl s_due_o)), (s_a_wind, .inl (cI, 6, .inl s_wind_o)), (q_a, .inr (6, [.ref q_a_ring, .int q_next, .int q_size_o])), (w_a, .inr (9, [.int w_size_o, .ref w_a_hangs, .ref w_a_ticksSeen, .ref w_a_ups, .int w_found, .ref w_a_periods, .ref w_a_starts])), (k_a, .inl (cZ, 2, .inl k__o))] r_o) (F0 m 96 ls [])) → W p l e { frames := 6, cells := 0, slots := 0, locals := 131 } s m [.ref x_a].toArray below meth c H locs 0 0 (zFi below [.ref x_a] s A D (TYS cI cZ cS cJ) [(x_a, .inr (11, [.ref t_a, .ref x_crew_o, .ref x_draft_o, .ref s_a, .ref u_a, .ref q_a, .ref i_a, .ref k_a, .ref w_a, .ref n_a, .long x_asked])), (t_a, .inr (10, [.ref t_a_letters, .ref t_a_parts, .int t_length_o, .int t_items_o, .int t_place_o, .int t_start_o, .int t_token_o, .int t_value_o])), (t_a_letters, .inl (cI, 120, .inl t_letters)), (t_a_parts, .inl (cI, 4, .inl t_parts_o)), (d_a, .inr (1, [.int d_every_o, .int d_size_o, .ref d_a_period, .ref d_a_hang, .ref d_a_start, .ref d_a_wind])), (d_a_period, .inl (cI, 6, .inl d_period_o)), (d_a_hang, .inl (cI, 6, .inl d_hang_o)), (d_a_start, .inl (cI, 6, .inl d_start_o)), (d_a_wind, .inl (cI, 6, .inl d_wind_o)), (s_a, .inr (8, [.int s_tick_o, .int s_every_o, .int s_round_o, .int s_inside_o, .ref s_a_up, .ref s_a_due, .ref s_a_wind])), (s_a_up, .inl (cI, 6, .inl s_up_o)), (s_a_due, .inl (cI, 6, .inl s_due_o)), (s_a_wind, .inl (cI, 6, .inl s_wind_o)), (q_a, .inr (6, [.ref q_a_ring, .int q_next, .int q_size_o])), (w_a, .inr (9, [.int w_size_o, .ref w_a_hangs, .ref w_a_ticksSeen, .ref w_a_ups, .int w_found, .ref w_a_periods, .ref w_a_starts])), (k_a, .inl (cZ, 2, .inl k__o))] r_o) (F0 m 78 ls []) := by
    intro n
    induction n with
    | zero =>
      intro x_asked t_length t_items t_place t_start t_token t_value t_letters t_parts d_every d_size d_period d_hang d_start d_wind s_tick s_every s_round s_inside s_up s_due s_wind q_next q_size w_size w_found k_ v1 v3 k_' v3' hF
      rw [L_X11_yard_78_z] at hF
      cases hF
    | succ n ih_78 =>
      intro x_asked t_length t_items t_place t_start t_token t_value t_letters t_parts d_every d_size d_period d_hang d_start d_wind s_tick s_every s_round s_inside s_up s_due s_wind q_next q_size w_size w_found k_ v1 v3 k_' v3' hF H locs ls hP hD hS hl hexit_78
      rw [L_X11_yard_78_s] at hF
      refine lv_iload_n hx hb dX11_yard_78 rfl (lv_at hl 3 rfl) ?_
      refine lv_iconst (v := 2) hx hb dX11_yard_79 (by decide) ?_
      refine lv_icmp_ge (tgt := 96) hx hb dX11_yard_80 (by decide) (fun c_26 => ?_) (fun c_26 => ?_)
      · have hF := zi_pos c_26 hF
        obtain ⟨e_0, e_1⟩ := zo2 hF
        subst e_0
        subst e_1
        exact hexit_78 _ _ _ hP hD hS (lv_sub hl [0, 1, 2, 3] rfl)
      · have hF := zi_neg c_26 hF
        refine lv_aload_n hx hb dX11_yard_83 rfl (lv_at hl 0 rfl) ?_
        refine va_get (D := D) (ci := 11) (v := .ref k_a) (C := RX11) (T := TX11) (N := 11) hx hb ht iyX11 hown hK hP 0 rfl rfl 7 (by decide) (ht _ wf_X11_47) (fun _ h9 => h9) rfl dX11_yard_84 ?_
        refine lv_iload_n hx hb dX11_yard_87 rfl (lv_at hl 3 rfl) ?_
        refine lv_iconst (v := 0) hx hb dX11_yard_88 (by decide) ?_
        obtain ⟨h_27, hF⟩ := zi_chk hF
        refine va_zast hx hb hK hP hD hS 15 1 rfl rfl h_27 dX11_yard_89 (fun H locs hP hD hS => ?_)
        have hP : va_P D classes [(x_a, .inr (11, [.ref t_a, .ref d_a, .ref c_a, .ref s_a, .ref u_a, .ref q_a, .ref i_a, .ref k_a, .ref w_a, .ref n_a, .long x_asked])), (t_a, .inr (10, [.ref t_a_letters, .ref t_a_parts, .int t_length, .int t_items, .int t_place, .int t_start, .int t_token, .int t_value])), (t_a_letters, .inl (cI, 120, .inl t_letters)), (t_a_parts, .inl (cI, 4, .inl t_parts)), (d_a, .inr (1, [.int d_every, .int d_size, .ref d_a_period, .ref d_a_hang, .ref d_a_start, .ref d_a_wind])), (d_a_period, .inl (cI, 6, .inl d_period)), (d_a_hang, .inl (cI, 6, .inl d_hang)), (d_a_start, .inl (cI, 6, .inl d_start)), (d_a_wind, .inl (cI, 6, .inl d_wind)), (s_a, .inr (8, [.int s_tick, .int s_every, .int s_round, .int s_inside, .ref s_a_up, .ref s_a_due, .ref s_a_wind])), (s_a_up, .inl (cI, 6, .inl s_up)), (s_a_due, .inl (cI, 6, .inl s_due)), (s_a_wind, .inl (cI, 6, .inl s_wind)), (q_a, .inr (6, [.ref q_a_ring, .int q_next, .int q_size])), (w_a, .inr (9, [.int w_size, .ref w_a_hangs, .ref w_a_ticksSeen, .ref w_a_ups, .int w_found, .ref w_a_periods, .ref w_a_starts])), (k_a, .inl (cZ, 2, .inl (upd k_ v3.toNatClampNeg (vp_nar .boolean 0))))] H := hP
        have hD : va_D A [(x_a, .inr (11, [.ref t_a, .ref d_a, .ref c_a, .ref s_a, .ref u_a, .ref q_a, .ref i_a, .ref k_a, .ref w_a, .ref n_a, .long x_asked])), (t_a, .inr (10, [.ref t_a_letters, .ref t_a_parts, .int t_length, .int t_items, .int t_place, .int t_start, .int t_token, .int t_value])), (t_a_letters, .inl (cI, 120, .inl t_letters)), (t_a_parts, .inl (cI, 4, .inl t_parts)), (d_a, .inr (1, [.int d_every, .int d_size, .ref d_a_period, .ref d_a_hang, .ref d_a_start, .ref d_a_wind])), (d_a_period, .inl (cI, 6, .inl d_period)), (d_a_hang, .inl (cI, 6, .inl d_hang)), (d_a_start, .inl (cI, 6, .inl d_start)), (d_a_wind, .inl (cI, 6, .inl d_wind)), (s_a, .inr (8, [.int s_tick, .int s_every, .int s_round, .int s_inside, .ref s_a_up, .ref s_a_due, .ref s_a_wind])), (s_a_up, .inl (cI, 6, .inl s_up)), (s_a_due, .inl (cI, 6, .inl s_due)), (s_a_wind, .inl (cI, 6, .inl s_wind)), (q_a, .inr (6, [.ref q_a_ring, .int q_next, .int q_size])), (w_a, .inr (9, [.int w_size, .ref w_a_hangs, .ref w_a_ticksSeen, .ref w_a_ups, .int w_found, .ref w_a_periods, .ref w_a_starts])), (k_a, .inl (cZ, 2, .inl (upd k_ v3.toNatClampNeg (vp_nar .boolean 0))))] := hD
        refine lv_iinc (v := v3 + 1) (lv' := [(3, .int (v3 + 1)), (0, .ref x_a), (1, .int v1), (2, .ref c_a)]) hx hb dX11_yard_90 hl (k := 3) rfl (by rfl) (by decide) rfl (fun ls hl => ?_)
        refine lv_goto (tgt := 78) hx hb dX11_yard_93 (by decide) ?_
        exact ih_78 x_asked t_length t_items t_place t_start t_token t_value t_letters t_parts d_every d_size d_period d_hang d_start d_wind s_tick s_every s_round s_inside s_up s_due s_wind q_next q_size w_size w_found (upd k_ v3.toNatClampNeg (vp_nar .boolean 0)) v1 (v3 + 1) _ _ hF _ _ _ hP hD hS (lv_sub hl [1, 2, 3, 0] rfl) hexit_78
  refine lv_aload_n hx hb dX11_yard_0 rfl (lv_at hl 0 rfl) ?_
  refine va_get (D := D) (ci := 11) (v := .ref t_a) (C := RX11) (T := TX11) (N := 11) hx hb ht iyX11 hown hK hP 0 rfl rfl 0 (by decide) (ht _ wf_X11_10) (fun _ h9 => h9) rfl dX11_yard_1 ?_
  refine lv_aload_n hx hb dX11_yard_4 rfl (lv_at hl 0 rfl) ?_
  refine va_get (D := D) (ci := 11) (v := .ref d_a) (C := RX11) (T := TX11) (N := 11) hx hb ht iyX11 hown hK hP 0 rfl rfl 2 (by decide) (ht _ wf_X11_23) (fun _ h9 => h9) rfl dX11_yard_5 ?_
  obtain ⟨r_1, t_items_2, t_place_3, t_start_4, t_token_5, t_value_6, t_parts_7, d_every_8, d_size_9, d_period_10, d_hang_11, d_start_12, d_wind_13, hc_14, hF⟩ := zb13_s hF
  refine zcv_si (ws1 := [(x_a, .inr (11, [.ref t_a, .ref c_a, .ref d_a, .ref s_a, .ref u_a, .ref q_a, .ref i_a, .ref k_a, .ref w_a, .ref n_a, .long x_asked])), (t_a, .inr (10, [.ref t_a_letters, .ref t_a_parts, .int t_length, .int t_items_2, .int t_place_3, .int t_start_4, .int t_token_5, .int t_value_6])), (t_a_letters, .inl (cI, 120, .inl t_letters)), (t_a_parts, .inl (cI, 4, .inl t_parts_7)), (d_a, .inr (1, [.int d_every_8, .int d_size_9, .ref d_a_period, .ref d_a_hang, .ref d_a_start, .ref d_a_wind])), (d_a_period, .inl (cI, 6, .inl d_period_10)), (d_a_hang, .inl (cI, 6, .inl d_hang_11)), (d_a_start, .inl (cI, 6, .inl d_start_12)), (d_a_wind, .inl (cI, 6, .inl d_wind_13)), (s_a, .inr (8, [.int s_tick, .int s_every, .int s_round, .int s_inside, .ref s_a_up, .ref s_a_due, .ref s_a_wind])), (s_a_up, .inl (cI, 6, .inl s_up)), (s_a_due, .inl (cI, 6, .inl s_due)), (s_a_wind, .inl (cI, 6, .inl s_wind)), (q_a, .inr (6, [.ref q_a_ring, .int q_next, .int q_size])), (w_a, .inr (9, [.int w_size, .ref w_a_hangs, .ref w_a_ticksSeen, .ref w_a_ups, .int w_found, .ref w_a_periods, .ref w_a_starts])), (k_a, .inl (cZ, 2, .inl k_))]) S hT lk_X11_92 (c_X10_readInto l D cI cZ cS cJ tl tm B t_a t_a_letters t_a_parts d_a d_a_period d_a_hang d_a_start d_a_wind t_length t_items t_place t_start t_token t_value t_letters t_parts d_every d_size d_period d_hang d_start d_wind hc_14) ⟨rfl, rfl, Nat.le_of_ble_eq_true rfl, Nat.le_of_ble_eq_true rfl⟩ hB hSt hK hP hD hS hA [1, 2, 3, 4, 5, 6, 7, 8] [0, 9, 10, 11, 12, 13, 14, 15] [0, 8, 9, 10, 11, 12, 13, 14, 15, 1, 2, 3, 4, 5, 6, 7] rfl rfl rfl rfl rfl rfl rfl rfl rfl rfl rfl hl.1 rfl (Nat.le_of_ble_eq_true rfl) dX11_yard_8 ⟨Nat.zero_le _, Nat.zero_le _⟩ (fun H locs hP hD hS => ?_)
  refine lv_istore_n (lv' := [(1, .int r_1), (0, .ref x_a)]) hx hb dX11_yard_11 rfl hl (by decide) rfl (fun ls hl => ?_)
  refine lv_iload_n hx hb dX11_yard_12 rfl (lv_at hl 0 rfl) ?_
  refine lv_bipush (v := (-9)) hx hb dX11_yard_13 (by decide) ?_
  refine lv_icmp_eq (tgt := 23) hx hb dX11_yard_15 (by decide) (fun c_15 => ?_) (fun c_15 => ?_)
  · have hF := zi_pos c_15 hF
    refine lv_aload_n hx hb dX11_yard_23 rfl (lv_at hl 1 rfl) ?_
    refine va_get (D := D) (ci := 11) (v := .ref t_a) (C := RX11) (T := TX11) (N := 11) hx hb ht iyX11 hown hK hP 0 rfl rfl 0 (by decide) (ht _ wf_X11_10) (fun _ h9 => h9) rfl dX11_yard_24 ?_
    refine lv_iconst (v := 0) hx hb dX11_yard_27 (by decide) ?_
    refine va_put (D := D) (ci := 10) (v := .int 0) (ty := .int) (C := RX10) (T := TX10) (N := 8) hx hb ht iyX10 tyX10 tyX10_ok nmX10 hown hK hP hD hS 1 rfl rfl 2 (by decide) (ht _ wf_X11_84) (fun _ h9 => h9) rfl (by decide +kernel) rfl rfl (Nat.le_of_ble_eq_true rfl) dX11_yard_28 (fun H locs hP hD hS => ?_)
    have hP : va_P D classes [(x_a, .inr (11, [.ref t_a, .ref c_a, .ref d_a, .ref s_a, .ref u_a, .ref q_a, .ref i_a, .ref k_a, .ref w_a, .ref n_a, .long x_asked])), (t_a, .inr (10, [.ref t_a_letters, .ref t_a_parts, .int 0, .int t_items_2, .int t_place_3, .int t_start_4, .int t_token_5, .int t_value_6])), (t_a_letters, .inl (cI, 120, .inl t_letters)), (t_a_parts, .inl (cI, 4, .inl t_parts_7)), (d_a, .inr (1, [.int d_every_8, .int d_size_9, .ref d_a_period, .ref d_a_hang, .ref d_a_start, .ref d_a_wind])), (d_a_period, .inl (cI, 6, .inl d_period_10)), (d_a_hang, .inl (cI, 6, .inl d_hang_11)), (d_a_start, .inl (cI, 6, .inl d_start_12)), (d_a_wind, .inl (cI, 6, .inl d_wind_13)), (s_a, .inr (8, [.int s_tick, .int s_every, .int s_round, .int s_inside, .ref s_a_up, .ref s_a_due, .ref s_a_wind])), (s_a_up, .inl (cI, 6, .inl s_up)), (s_a_due, .inl (cI, 6, .inl s_due)), (s_a_wind, .inl (cI, 6, .inl s_wind)), (q_a, .inr (6, [.ref q_a_ring, .int q_next, .int q_size])), (w_a, .inr (9, [.int w_size, .ref w_a_hangs, .ref w_a_ticksSeen, .ref w_a_ups, .int w_found, .ref w_a_periods, .ref w_a_starts])), (k_a, .inl (cZ, 2, .inl k_))] H := hP
    have hD : va_D A [(x_a, .inr (11, [.ref t_a, .ref c_a, .ref d_a, .ref s_a, .ref u_a, .ref q_a, .ref i_a, .ref k_a, .ref w_a, .ref n_a, .long x_asked])), (t_a, .inr (10, [.ref t_a_letters, .ref t_a_parts, .int 0, .int t_items_2, .int t_place_3, .int t_start_4, .int t_token_5, .int t_value_6])), (t_a_letters, .inl (cI, 120, .inl t_letters)), (t_a_parts, .inl (cI, 4, .inl t_parts_7)), (d_a, .inr (1, [.int d_every_8, .int d_size_9, .ref d_a_period, .ref d_a_hang, .ref d_a_start, .ref d_a_wind])), (d_a_period, .inl (cI, 6, .inl d_period_10)), (d_a_hang, .inl (cI, 6, .inl d_hang_11)), (d_a_start, .inl (cI, 6, .inl d_start_12)), (d_a_wind, .inl (cI, 6, .inl d_wind_13)), (s_a, .inr (8, [.int s_tick, .int s_every, .int s_round, .int s_inside, .ref s_a_up, .ref s_a_due, .ref s_a_wind])), (s_a_up, .inl (cI, 6, .inl s_up)), (s_a_due, .inl (cI, 6, .inl s_due)), (s_a_wind, .inl (cI, 6, .inl s_wind)), (q_a, .inr (6, [.ref q_a_ring, .int q_next, .int q_size])), (w_a, .inr (9, [.int w_size, .ref w_a_hangs, .ref w_a_ticksSeen, .ref w_a_ups, .int w_found, .ref w_a_periods, .ref w_a_starts])), (k_a, .inl (cZ, 2, .inl k_))] := hD
    refine lv_aload_n hx hb dX11_yard_31 rfl (lv_at hl 1 rfl) ?_
    refine va_get (D := D) (ci := 11) (v := .ref c_a) (C := RX11) (T := TX11) (N := 11) hx hb ht iyX11 hown hK hP 0 rfl rfl 1 (by decide) (ht _ wf_X11_19) (fun _ h9 => h9) rfl dX11_yard_32 ?_
    refine lv_astore_n (lv' := [(2, .ref c_a), (1, .int r_1), (0, .ref x_a)]) hx hb dX11_yard_35 rfl hl (by decide) rfl (fun ls hl => ?_)
    refine lv_aload_n hx hb dX11_yard_36 rfl (lv_at hl 2 rfl) ?_
    refine lv_aload_n hx hb dX11_yard_37 rfl (lv_at hl 2 rfl) ?_
    refine va_get (D := D) (ci := 11) (v := .ref d_a) (C := RX11) (T := TX11) (N := 11) hx hb ht iyX11 hown hK hP 0 rfl rfl 2 (by decide) (ht _ wf_X11_23) (fun _ h9 => h9) rfl dX11_yard_38 ?_
    refine va_put (D := D) (ci := 11) (v := .ref d_a) (ty := .object "SkipRope$Crew") (C := RX11) (T := TX11) (N := 11) hx hb ht iyX11 tyX11 tyX11_ok nmX11 hown hK hP hD hS 0 rfl rfl 1 (by decide) (ht _ wf_X11_19) (fun _ h9 => h9) rfl (by decide +kernel) rfl rfl (Nat.le_of_ble_eq_true rfl) dX11_yard_41 (fun H locs hP hD hS => ?_)
    have hP : va_P D classes [(x_a, .inr (11, [.ref t_a, .ref d_a, .ref d_a, .ref s_a, .ref u_a, .ref q_a, .ref i_a, .ref k_a, .ref w_a, .ref n_a, .long x_asked])), (t_a, .inr (10, [.ref t_a_letters, .ref t_a_parts, .int 0, .int t_items_2, .int t_place_3, .int t_start_4, .int t_token_5, .int t_value_6])), (t_a_letters, .inl (cI, 120, .inl t_letters)), (t_a_parts, .inl (cI, 4, .inl t_parts_7)), (d_a, .inr (1, [.int d_every_8, .int d_size_9, .ref d_a_period, .ref d_a_hang, .ref d_a_start, .ref d_a_wind])), (d_a_period, .inl (cI, 6, .inl d_period_10)), (d_a_hang, .inl (cI, 6, .inl d_hang_11)), (d_a_start, .inl (cI, 6, .inl d_start_12)), (d_a_wind, .inl (cI, 6, .inl d_wind_13)), (s_a, .inr (8, [.int s_tick, .int s_every, .int s_round, .int s_inside, .ref s_a_up, .ref s_a_due, .ref s_a_wind])), (s_a_up, .inl (cI, 6, .inl s_up)), (s_a_due, .inl (cI, 6, .inl s_due)), (s_a_wind, .inl (cI, 6, .inl s_wind)), (q_a, .inr (6, [.ref q_a_ring, .int q_next, .int q_size])), (w_a, .inr (9, [.int w_size, .ref w_a_hangs, .ref w_a_ticksSeen, .ref w_a_ups, .int w_found, .ref w_a_periods, .ref w_a_starts])), (k_a, .inl (cZ, 2, .inl k_))] H := hP
    have hD : va_D A [(x_a, .inr (11, [.ref t_a, .ref d_a, .ref d_a, .ref s_a, .ref u_a, .ref q_a, .ref i_a, .ref k_a, .ref w_a, .ref n_a, .long x_asked])), (t_a, .inr (10, [.ref t_a_letters, .ref t_a_parts, .int 0, .int t_items_2, .int t_place_3, .int t_start_4, .int t_token_5, .int t_value_6])), (t_a_letters, .inl (cI, 120, .inl t_letters)), (t_a_parts, .inl (cI, 4, .inl t_parts_7)), (d_a, .inr (1, [.int d_every_8, .int d_size_9, .ref d_a_period, .ref d_a_hang, .ref d_a_start, .ref d_a_wind])), (d_a_period, .inl (cI, 6, .inl d_period_10)), (d_a_hang, .inl (cI, 6, .inl d_hang_11)), (d_a_start, .inl (cI, 6, .inl d_start_12)), (d_a_wind, .inl (cI, 6, .inl d_wind_13)), (s_a, .inr (8, [.int s_tick, .int s_every, .int s_round, .int s_inside, .ref s_a_up, .ref s_a_due, .ref s_a_wind])), (s_a_up, .inl (cI, 6, .inl s_up)), (s_a_due, .inl (cI, 6, .inl s_due)), (s_a_wind, .inl (cI, 6, .inl s_wind)), (q_a, .inr (6, [.ref q_a_ring, .int q_next, .int q_size])), (w_a, .inr (9, [.int w_size, .ref w_a_hangs, .ref w_a_ticksSeen, .ref w_a_ups, .int w_found, .ref w_a_periods, .ref w_a_starts])), (k_a, .inl (cZ, 2, .inl k_))] := hD
    refine lv_aload_n hx hb dX11_yard_44 rfl (lv_at hl 2 rfl) ?_
    refine lv_aload_n hx hb dX11_yard_45 rfl (lv_at hl 0 rfl) ?_
    refine va_put (D := D) (ci := 11) (v := .ref c_a) (ty := .object "SkipRope$Crew") (C := RX11) (T := TX11) (N := 11) hx hb ht iyX11 tyX11 tyX11_ok nmX11 hown hK hP hD hS 0 rfl rfl 2 (by decide) (ht _ wf_X11_23) (fun _ h9 => h9) rfl (by decide +kernel) rfl rfl (Nat.le_of_ble_eq_true rfl) dX11_yard_46 (fun H locs hP hD hS => ?_)
    have hP : va_P D classes [(x_a, .inr (11, [.ref t_a, .ref d_a, .ref c_a, .ref s_a, .ref u_a, .ref q_a, .ref i_a, .ref k_a, .ref w_a, .ref n_a, .long x_asked])), (t_a, .inr (10, [.ref t_a_letters, .ref t_a_parts, .int 0, .int t_items_2, .int t_place_3, .int t_start_4, .int t_token_5, .int t_value_6])), (t_a_letters, .inl (cI, 120, .inl t_letters)), (t_a_parts, .inl (cI, 4, .inl t_parts_7)), (d_a, .inr (1, [.int d_every_8, .int d_size_9, .ref d_a_period, .ref d_a_hang, .ref d_a_start, .ref d_a_wind])), (d_a_period, .inl (cI, 6, .inl d_period_10)), (d_a_hang, .inl (cI, 6, .inl d_hang_11)), (d_a_start, .inl (cI, 6, .inl d_start_12)), (d_a_wind, .inl (cI, 6, .inl d_wind_13)), (s_a, .inr (8, [.int s_tick, .int s_every, .int s_round, .int s_inside, .ref s_a_up, .ref s_a_due, .ref s_a_wind])), (s_a_up, .inl (cI, 6, .inl s_up)), (s_a_due, .inl (cI, 6, .inl s_due)), (s_a_wind, .inl (cI, 6, .inl s_wind)), (q_a, .inr (6, [.ref q_a_ring, .int q_next, .int q_size])), (w_a, .inr (9, [.int w_size, .ref w_a_hangs, .ref w_a_ticksSeen, .ref w_a_ups, .int w_found, .ref w_a_periods, .ref w_a_starts])), (k_a, .inl (cZ, 2, .inl k_))] H := hP
    have hD : va_D A [(x_a, .inr (11, [.ref t_a, .ref d_a, .ref c_a, .ref s_a, .ref u_a, .ref q_a, .ref i_a, .ref k_a, .ref w_a, .ref n_a, .long x_asked])), (t_a, .inr (10, [.ref t_a_letters, .ref t_a_parts, .int 0, .int t_items_2, .int t_place_3, .int t_start_4, .int t_token_5, .int t_value_6])), (t_a_letters, .inl (cI, 120, .inl t_letters)), (t_a_parts, .inl (cI, 4, .inl t_parts_7)), (d_a, .inr (1, [.int d_every_8, .int d_size_9, .ref d_a_period, .ref d_a_hang, .ref d_a_start, .ref d_a_wind])), (d_a_period, .inl (cI, 6, .inl d_period_10)), (d_a_hang, .inl (cI, 6, .inl d_hang_11)), (d_a_start, .inl (cI, 6, .inl d_start_12)), (d_a_wind, .inl (cI, 6, .inl d_wind_13)), (s_a, .inr (8, [.int s_tick, .int s_every, .int s_round, .int s_inside, .ref s_a_up, .ref s_a_due, .ref s_a_wind])), (s_a_up, .inl (cI, 6, .inl s_up)), (s_a_due, .inl (cI, 6, .inl s_due)), (s_a_wind, .inl (cI, 6, .inl s_wind)), (q_a, .inr (6, [.ref q_a_ring, .int q_next, .int q_size])), (w_a, .inr (9, [.int w_size, .ref w_a_hangs, .ref w_a_ticksSeen, .ref w_a_ups, .int w_found, .ref w_a_periods, .ref w_a_starts])), (k_a, .inl (cZ, 2, .inl k_))] := hD
    refine lv_aload_n hx hb dX11_yard_49 rfl (lv_at hl 2 rfl) ?_
    refine va_get (D := D) (ci := 11) (v := .ref s_a) (C := RX11) (T := TX11) (N := 11) hx hb ht iyX11 hown hK hP 0 rfl rfl 3 (by decide) (ht _ wf_X11_29) (fun _ h9 => h9) rfl dX11_yard_50 ?_
    refine lv_aload_n hx hb dX11_yard_53 rfl (lv_at hl 2 rfl) ?_
    refine va_get (D := D) (ci := 11) (v := .ref d_a) (C := RX11) (T := TX11) (N := 11) hx hb ht iyX11 hown hK hP 0 rfl rfl 1 (by decide) (ht _ wf_X11_19) (fun _ h9 => h9) rfl dX11_yard_54 ?_
    obtain ⟨s_tick_16, s_every_17, s_round_18, s_inside_19, s_up_20, s_due_21, s_wind_22, hc_23, hF⟩ := zb7_s hF
    refine zcv_v (ws1 := [(x_a, .inr (11, [.ref t_a, .ref d_a, .ref c_a, .ref s_a, .ref u_a, .ref q_a, .ref i_a, .ref k_a, .ref w_a, .ref n_a, .long x_asked])), (t_a, .inr (10, [.ref t_a_letters, .ref t_a_parts, .int 0, .int t_items_2, .int t_place_3, .int t_start_4, .int t_token_5, .int t_value_6])), (t_a_letters, .inl (cI, 120, .inl t_letters)), (t_a_parts, .inl (cI, 4, .inl t_parts_7)), (d_a, .inr (1, [.int d_every_8, .int d_size_9, .ref d_a_period, .ref d_a_hang, .ref d_a_start, .ref d_a_wind])), (d_a_period, .inl (cI, 6, .inl d_period_10)), (d_a_hang, .inl (cI, 6, .inl d_hang_11)), (d_a_start, .inl (cI, 6, .inl d_start_12)), (d_a_wind, .inl (cI, 6, .inl d_wind_13)), (s_a, .inr (8, [.int s_tick_16, .int s_every_17, .int s_round_18, .int s_inside_19, .ref s_a_up, .ref s_a_due, .ref s_a_wind])), (s_a_up, .inl (cI, 6, .inl s_up_20)), (s_a_due, .inl (cI, 6, .inl s_due_21)), (s_a_wind, .inl (cI, 6, .inl s_wind_22)), (q_a, .inr (6, [.ref q_a_ring, .int q_next, .int q_size])), (w_a, .inr (9, [.int w_size, .ref w_a_hangs, .ref w_a_ticksSeen, .ref w_a_ups, .int w_found, .ref w_a_periods, .ref w_a_starts])), (k_a, .inl (cZ, 2, .inl k_))]) S hT lk_X11_80 (c_X8_open l D cI cZ cS cJ s_a s_a_up s_a_due s_a_wind d_a d_a_period d_a_hang d_a_start d_a_wind s_tick s_every s_round s_inside s_up s_due s_wind d_every_8 d_size_9 d_start_12 d_wind_13 hc_23) ⟨rfl, rfl, Nat.le_of_ble_eq_true rfl, Nat.le_of_ble_eq_true rfl⟩ hK hP hD hS hA [9, 10, 11, 12, 4, 7, 8] [0, 1, 2, 3, 5, 6, 13, 14, 15] [0, 1, 2, 3, 13, 4, 5, 14, 15, 9, 10, 11, 12, 6, 7, 8] rfl rfl rfl rfl rfl rfl rfl rfl rfl rfl rfl hl.1 rfl (Nat.le_of_ble_eq_true rfl) dX11_yard_57 ⟨Nat.zero_le _, Nat.zero_le _⟩ (fun H locs hP hD hS => ?_)
    refine lv_aload_n hx hb dX11_yard_60 rfl (lv_at hl 2 rfl) ?_
    refine va_get (D := D) (ci := 11) (v := .ref q_a) (C := RX11) (T := TX11) (N := 11) hx hb ht iyX11 hown hK hP 0 rfl rfl 5 (by decide) (ht _ wf_X11_39) (fun _ h9 => h9) rfl dX11_yard_61 ?_
    refine lv_iconst (v := 0) hx hb dX11_yard_64 (by decide) ?_
    refine va_put (D := D) (ci := 6) (v := .int 0) (ty := .int) (C := RX6) (T := TX6) (N := 3) hx hb ht iyX6 tyX6 tyX6_ok nmX6 hown hK hP hD hS 13 rfl rfl 2 (by decide) (ht _ wf_X11_96) (fun _ h9 => h9) rfl (by decide +kernel) rfl rfl (Nat.le_of_ble_eq_true rfl) dX11_yard_65 (fun H locs hP hD hS => ?_)
    have hP : va_P D classes [(x_a, .inr (11, [.ref t_a, .ref d_a, .ref c_a, .ref s_a, .ref u_a, .ref q_a, .ref i_a, .ref k_a, .ref w_a, .ref n_a, .long x_asked])), (t_a, .inr (10, [.ref t_a_letters, .ref t_a_parts, .int 0, .int t_items_2, .int t_place_3, .int t_start_4, .int t_token_5, .int t_value_6])), (t_a_letters, .inl (cI, 120, .inl t_letters)), (t_a_parts, .inl (cI, 4, .inl t_parts_7)), (d_a, .inr (1, [.int d_every_8, .int d_size_9, .ref d_a_period, .ref d_a_hang, .ref d_a_start, .ref d_a_wind])), (d_a_period, .inl (cI, 6, .inl d_period_10)), (d_a_hang, .inl (cI, 6, .inl d_hang_11)), (d_a_start, .inl (cI, 6, .inl d_start_12)), (d_a_wind, .inl (cI, 6, .inl d_wind_13)), (s_a, .inr (8, [.int s_tick_16, .int s_every_17, .int s_round_18, .int s_inside_19, .ref s_a_up, .ref s_a_due, .ref s_a_wind])), (s_a_up, .inl (cI, 6, .inl s_up_20)), (s_a_due, .inl (cI, 6, .inl s_due_21)), (s_a_wind, .inl (cI, 6, .inl s_wind_22)), (q_a, .inr (6, [.ref q_a_ring, .int q_next, .int 0])), (w_a, .inr (9, [.int w_size, .ref w_a_hangs, .ref w_a_ticksSeen, .ref w_a_ups, .int w_found, .ref w_a_periods, .ref w_a_starts])), (k_a, .inl (cZ, 2, .inl k_))] H := hP
    have hD : va_D A [(x_a, .inr (11, [.ref t_a, .ref d_a, .ref c_a, .ref s_a, .ref u_a, .ref q_a, .ref i_a, .ref k_a, .ref w_a, .ref n_a, .long x_asked])), (t_a, .inr (10, [.ref t_a_letters, .ref t_a_parts, .int 0, .int t_items_2, .int t_place_3, .int t_start_4, .int t_token_5, .int t_value_6])), (t_a_letters, .inl (cI, 120, .inl t_letters)), (t_a_parts, .inl (cI, 4, .inl t_parts_7)), (d_a, .inr (1, [.int d_every_8, .int d_size_9, .ref d_a_period, .ref d_a_hang, .ref d_a_start, .ref d_a_wind])), (d_a_period, .inl (cI, 6, .inl d_period_10)), (d_a_hang, .inl (cI, 6, .inl d_hang_11)), (d_a_start, .inl (cI, 6, .inl d_start_12)), (d_a_wind, .inl (cI, 6, .inl d_wind_13)), (s_a, .inr (8, [.int s_tick_16, .int s_every_17, .int s_round_18, .int s_inside_19, .ref s_a_up, .ref s_a_due, .ref s_a_wind])), (s_a_up, .inl (cI, 6, .inl s_up_20)), (s_a_due, .inl (cI, 6, .inl s_due_21)), (s_a_wind, .inl (cI, 6, .inl s_wind_22)), (q_a, .inr (6, [.ref q_a_ring, .int q_next, .int 0])), (w_a, .inr (9, [.int w_size, .ref w_a_hangs, .ref w_a_ticksSeen, .ref w_a_ups, .int w_found, .ref w_a_periods, .ref w_a_starts])), (k_a, .inl (cZ, 2, .inl k_))] := hD
    refine lv_aload_n hx hb dX11_yard_68 rfl (lv_at hl 2 rfl) ?_
    refine va_get (D := D) (ci := 11) (v := .ref w_a) (C := RX11) (T := TX11) (N := 11) hx hb ht iyX11 hown hK hP 0 rfl rfl 8 (by decide) (ht _ wf_X11_54) (fun _ h9 => h9) rfl dX11_yard_69 ?_
    refine lv_iconst (v := 0) hx hb dX11_yard_72 (by decide) ?_
    refine va_put (D := D) (ci := 9) (v := .int 0) (ty := .int) (C := RX9) (T := TX9) (N := 7) hx hb ht iyX9 tyX9 tyX9_ok nmX9 hown hK hP hD hS 14 rfl rfl 0 (by decide) (ht _ wf_X11_99) (fun _ h9 => h9) rfl (by decide +kernel) rfl rfl (Nat.le_of_ble_eq_true rfl) dX11_yard_73 (fun H locs hP hD hS => ?_)
    have hP : va_P D classes [(x_a, .inr (11, [.ref t_a, .ref d_a, .ref c_a, .ref s_a, .ref u_a, .ref q_a, .ref i_a, .ref k_a, .ref w_a, .ref n_a, .long x_asked])), (t_a, .inr (10, [.ref t_a_letters, .ref t_a_parts, .int 0, .int t_items_2, .int t_place_3, .int t_start_4, .int t_token_5, .int t_value_6])), (t_a_letters, .inl (cI, 120, .inl t_letters)), (t_a_parts, .inl (cI, 4, .inl t_parts_7)), (d_a, .inr (1, [.int d_every_8, .int d_size_9, .ref d_a_period, .ref d_a_hang, .ref d_a_start, .ref d_a_wind])), (d_a_period, .inl (cI, 6, .inl d_period_10)), (d_a_hang, .inl (cI, 6, .inl d_hang_11)), (d_a_start, .inl (cI, 6, .inl d_start_12)), (d_a_wind, .inl (cI, 6, .inl d_wind_13)), (s_a, .inr (8, [.int s_tick_16, .int s_every_17, .int s_round_18, .int s_inside_19, .ref s_a_up, .ref s_a_due, .ref s_a_wind])), (s_a_up, .inl (cI, 6, .inl s_up_20)), (s_a_due, .inl (cI, 6, .inl s_due_21)), (s_a_wind, .inl (cI, 6, .inl s_wind_22)), (q_a, .inr (6, [.ref q_a_ring, .int q_next, .int 0])), (w_a, .inr (9, [.int 0, .ref w_a_hangs, .ref w_a_ticksSeen, .ref w_a_ups, .int w_found, .ref w_a_periods, .ref w_a_starts])), (k_a, .inl (cZ, 2, .inl k_))] H := hP
    have hD : va_D A [(x_a, .inr (11, [.ref t_a, .ref d_a, .ref c_a, .ref s_a, .ref u_a, .ref q_a, .ref i_a, .ref k_a, .ref w_a, .ref n_a, .long x_asked])), (t_a, .inr (10, [.ref t_a_letters, .ref t_a_parts, .int 0, .int t_items_2, .int t_place_3, .int t_start_4, .int t_token_5, .int t_value_6])), (t_a_letters, .inl (cI, 120, .inl t_letters)), (t_a_parts, .inl (cI, 4, .inl t_parts_7)), (d_a, .inr (1, [.int d_every_8, .int d_size_9, .ref d_a_period, .ref d_a_hang, .ref d_a_start, .ref d_a_wind])), (d_a_period, .inl (cI, 6, .inl d_period_10)), (d_a_hang, .inl (cI, 6, .inl d_hang_11)), (d_a_start, .inl (cI, 6, .inl d_start_12)), (d_a_wind, .inl (cI, 6, .inl d_wind_13)), (s_a, .inr (8, [.int s_tick_16, .int s_every_17, .int s_round_18, .int s_inside_19, .ref s_a_up, .ref s_a_due, .ref s_a_wind])), (s_a_up, .inl (cI, 6, .inl s_up_20)), (s_a_due, .inl (cI, 6, .inl s_due_21)), (s_a_wind, .inl (cI, 6, .inl s_wind_22)), (q_a, .inr (6, [.ref q_a_ring, .int q_next, .int 0])), (w_a, .inr (9, [.int 0, .ref w_a_hangs, .ref w_a_ticksSeen, .ref w_a_ups, .int w_found, .ref w_a_periods, .ref w_a_starts])), (k_a, .inl (cZ, 2, .inl k_))] := hD
    refine lv_iconst (v := 0) hx hb dX11_yard_76 (by decide) ?_
    refine lv_istore_n (lv' := [(3, .int 0), (2, .ref c_a), (1, .int r_1), (0, .ref x_a)]) hx hb dX11_yard_77 rfl hl (by decide) rfl (fun ls hl => ?_)
    obtain ⟨k__28, v3_29, hL_30, hF⟩ := zb2_s hF
    refine hloop_78 300 x_asked 0 t_items_2 t_place_3 t_start_4 t_token_5 t_value_6 t_letters t_parts_7 d_every_8 d_size_9 d_period_10 d_hang_11 d_start_12 d_wind_13 s_tick_16 s_every_17 s_round_18 s_inside_19 s_up_20 s_due_21 s_wind_22 q_next 0 0 w_found k_ r_1 0 k__28 v3_29 hL_30 _ _ _ hP hD hS (lv_sub hl [3, 2, 1, 0] rfl) (fun H locs ls hP hD hS hl => ?_)
    refine lv_aload_n hx hb dX11_yard_96 rfl (lv_at hl 0 rfl) ?_
    refine va_get (D := D) (ci := 11) (v := .ref t_a) (C := RX11) (T := TX11) (N := 11) hx hb ht iyX11 hown hK hP 0 rfl rfl 0 (by decide) (ht _ wf_X11_10) (fun _ h9 => h9) rfl dX11_yard_97 ?_
    refine va_get (D := D) (ci := 10) (v := .int t_items_2) (C := RX10) (T := TX10) (N := 8) hx hb ht iyX10 hown hK hP 1 rfl rfl 3 (by decide) (ht _ wf_X11_100) (fun _ h9 => h9) rfl dX11_yard_100 ?_
    obtain ⟨e_0, e_1, e_2, e_3, e_4, e_5, e_6, e_7, e_8, e_9, e_10, e_11, e_12, e_13, e_14, e_15, e_16, e_17, e_18, e_19, e_20, e_21, e_22, e_23, e_24, e_25⟩ := zo26 hF
    subst e_0
    subst e_1
    subst e_2
    subst e_3
    subst e_4
    subst e_5
    subst e_6
    subst e_7
    subst e_8
    subst e_9
    subst e_10
    subst e_11
    subst e_12
    subst e_13
    subst e_14
    subst e_15
    subst e_16
    subst e_17
    subst e_18
    subst e_19
    subst e_20
    subst e_21
    subst e_22
    subst e_23
    subst e_24
    subst e_25
    exact zret_i S hr hlocks hK hP hD hS dX11_yard_103
  · have hF := zi_neg c_15 hF
    refine lv_bipush (v := (-10)) hx hb dX11_yard_18 (by decide) ?_
    refine lv_iload_n hx hb dX11_yard_20 rfl (lv_at hl 0 rfl) ?_
    refine lv_isub hx hb dX11_yard_21 ?_
    obtain ⟨e_0, e_1, e_2, e_3, e_4, e_5, e_6, e_7, e_8, e_9, e_10, e_11, e_12, e_13, e_14, e_15, e_16, e_17, e_18, e_19, e_20, e_21, e_22, e_23, e_24, e_25⟩ := zo26 hF
    subst e_0
    subst e_1
    subst e_2
    subst e_3
    subst e_4
    subst e_5
    subst e_6
    subst e_7
    subst e_8
    subst e_9
    subst e_10
    subst e_11
    subst e_12
    subst e_13
    subst e_14
    subst e_15
    subst e_16
    subst e_17
    subst e_18
    subst e_19
    subst e_20
    subst e_21
    subst e_22
    subst e_23
    subst e_24
    subst e_25
    exact zret_i S hr hlocks hK hP hD hS dX11_yard_22
