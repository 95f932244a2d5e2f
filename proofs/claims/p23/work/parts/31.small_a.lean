def F_X1_reset : Option (Int32 × Int32) :=
  some (4, 0)
set_option maxHeartbeats 4000000 in
set_option maxRecDepth 100000 in
theorem c_X1_reset (l : Launch) (D : va_G) (cI cZ cS cJ : ClassId) (c_a : Nat) (c_a_period : Nat) (c_a_hang : Nat) (c_a_start : Nat) (c_a_wind : Nat) (c_every : Int32) (c_size : Int32) {c_every_o : Int32} {c_size_o : Int32} (hF : F_X1_reset = some (c_every_o, c_size_o)) : zMv l yX1_reset (zwl yX1_reset cX1_reset 1 none) { frames := 0, cells := 0, slots := 0, locals := 0 } D (TYS cI cZ cS cJ) [.ref c_a] [(c_a, .inr (1, [.int c_every, .int c_size, .ref c_a_period, .ref c_a_hang, .ref c_a_start, .ref c_a_wind]))] [(c_a, .inr (1, [.int c_every_o, .int c_size_o, .ref c_a_period, .ref c_a_hang, .ref c_a_start, .ref c_a_wind]))] := by
  refine zent_v (own := RX1) (by decide) rfl (Nat.le_of_ble_eq_true rfl) ?_
  intro p e s m below meth c A ls S hr hlocks hK hP hD hA hl
  have hx := S.1
  have hb := S.2.1
  have hml := S.2.2.1
  have hown := S.2.2.2.1
  have hT : ∀ w ∈ zt, w ∈ zwl yX1_reset cX1_reset 1 none := fun _ h => List.mem_cons_of_mem _ h
  have ht : ∀ w ∈ zt, w.before [.ref c_a].toArray s = true := fun w h => S.2.2.2.2 w (hT w h)
  have hl : lv_has ls 1 [(0, .ref c_a)] := hl
  have hS : va_S A s.heap s.heap [] := va_S.rf
  unfold F_X1_reset at hF
  refine lv_aload_n hx hb dX1_reset_0 rfl (lv_at hl 0 rfl) ?_
  refine lv_iconst (v := 4) hx hb dX1_reset_1 (by decide) ?_
  refine va_put (D := D) (ci := 1) (v := .int 4) (ty := .int) (C := RX1) (T := TX1) (N := 6) hx hb ht iyX1 tyX1 tyX1_ok nmX1 hown hK hP hD hS 0 rfl rfl 0 (by decide) (ht _ wf_X1_9) (fun _ h9 => h9) rfl (by decide +kernel) rfl rfl (Nat.le_of_ble_eq_true rfl) dX1_reset_2 (fun H locs hP hD hS => ?_)
  have hP : va_P D classes [(c_a, .inr (1, [.int 4, .int c_size, .ref c_a_period, .ref c_a_hang, .ref c_a_start, .ref c_a_wind]))] H := hP
  have hD : va_D A [(c_a, .inr (1, [.int 4, .int c_size, .ref c_a_period, .ref c_a_hang, .ref c_a_start, .ref c_a_wind]))] := hD
  refine lv_aload_n hx hb dX1_reset_5 rfl (lv_at hl 0 rfl) ?_
  refine lv_iconst (v := 0) hx hb dX1_reset_6 (by decide) ?_
  refine va_put (D := D) (ci := 1) (v := .int 0) (ty := .int) (C := RX1) (T := TX1) (N := 6) hx hb ht iyX1 tyX1 tyX1_ok nmX1 hown hK hP hD hS 0 rfl rfl 1 (by decide) (ht _ wf_X1_28) (fun _ h9 => h9) rfl (by decide +kernel) rfl rfl (Nat.le_of_ble_eq_true rfl) dX1_reset_7 (fun H locs hP hD hS => ?_)
  have hP : va_P D classes [(c_a, .inr (1, [.int 4, .int 0, .ref c_a_period, .ref c_a_hang, .ref c_a_start, .ref c_a_wind]))] H := hP
  have hD : va_D A [(c_a, .inr (1, [.int 4, .int 0, .ref c_a_period, .ref c_a_hang, .ref c_a_start, .ref c_a_wind]))] := hD
  obtain ⟨e_0, e_1⟩ := zo2 hF
  subst e_0
  subst e_1
  exact zret_v S hr hlocks hK hP hD hS dX1_reset_10

def F_X1_add (c_size : Int32) (c_period : Nat → Int32) (c_hang : Nat → Int32) (c_start : Nat → Int32) (c_wind : Nat → Int32) (p1 : Int32) (p2 : Int32) (p3 : Int32) (p4 : Int32) : Option (Int32 × (Nat → Int32) × (Nat → Int32) × (Nat → Int32) × (Nat → Int32)) :=
  (if c_size < 6 then (if (c_size < 0 ∨ 6 ≤ c_size.toNatClampNeg) then none else some (c_size + 1, upd c_period c_size.toNatClampNeg p1, upd c_hang c_size.toNatClampNeg p2, upd c_start c_size.toNatClampNeg p3, upd c_wind c_size.toNatClampNeg p4)) else some (c_size, c_period, c_hang, c_start, c_wind))
set_option maxHeartbeats 4000000 in
set_option maxRecDepth 100000 in
theorem c_X1_add (l : Launch) (D : va_G) (cI cZ cS cJ : ClassId) (c_a : Nat) (c_a_period : Nat) (c_a_hang : Nat) (c_a_start : Nat) (c_a_wind : Nat) (c_every : Int32) (c_size : Int32) (c_period : Nat → Int32) (c_hang : Nat → Int32) (c_start : Nat → Int32) (c_wind : Nat → Int32) (p1 : Int32) (p2 : Int32) (p3 : Int32) (p4 : Int32) {c_size_o : Int32} {c_period_o : Nat → Int32} {c_hang_o : Nat → Int32} {c_start_o : Nat → Int32} {c_wind_o : Nat → Int32} (hF : F_X1_add c_size c_period c_hang c_start c_wind p1 p2 p3 p4 = some (c_size_o, c_period_o, c_hang_o, c_start_o, c_wind_o)) : zMv l yX1_add (zwl yX1_add cX1_add 5 none) { frames := 0, cells := 0, slots := 0, locals := 0 } D (TYS cI cZ cS cJ) [.ref c_a, .int p1, .int p2, .int p3, .int p4] [(c_a, .inr (1, [.int c_every, .int c_size, .ref c_a_period, .ref c_a_hang, .ref c_a_start, .ref c_a_wind])), (c_a_period, .inl (cI, 6, .inl c_period)), (c_a_hang, .inl (cI, 6, .inl c_hang)), (c_a_start, .inl (cI, 6, .inl c_start)), (c_a_wind, .inl (cI, 6, .inl c_wind))] [(c_a, .inr (1, [.int c_every, .int c_size_o, .ref c_a_period, .ref c_a_hang, .ref c_a_start, .ref c_a_wind])), (c_a_period, .inl (cI, 6, .inl c_period_o)), (c_a_hang, .inl (cI, 6, .inl c_hang_o)), (c_a_start, .inl (cI, 6, .inl c_start_o)), (c_a_wind, .inl (cI, 6, .inl c_wind_o))] := by
  refine zent_v (own := RX1) (by decide) rfl (Nat.le_of_ble_eq_true rfl) ?_
  intro p e s m below meth c A ls S hr hlocks hK hP hD hA hl
  have hx := S.1
  have hb := S.2.1
  have hml := S.2.2.1
  have hown := S.2.2.2.1
  have hT : ∀ w ∈ zt, w ∈ zwl yX1_add cX1_add 5 none := fun _ h => List.mem_cons_of_mem _ h
  have ht : ∀ w ∈ zt, w.before [.ref c_a, .int p1, .int p2, .int p3, .int p4].toArray s = true := fun w h => S.2.2.2.2 w (hT w h)
  have hl : lv_has ls 5 [(0, .ref c_a), (1, .int p1), (2, .int p2), (3, .int p3), (4, .int p4)] := hl
  have hS : va_S A s.heap s.heap [] := va_S.rf
  unfold F_X1_add at hF
  refine lv_aload_n hx hb dX1_add_0 rfl (lv_at hl 0 rfl) ?_
  refine va_get (D := D) (ci := 1) (v := .int c_size) (C := RX1) (T := TX1) (N := 6) hx hb ht iyX1 hown hK hP 0 rfl rfl 1 (by decide) (ht _ wf_X1_28) (fun _ h9 => h9) rfl dX1_add_1 ?_
  refine lv_bipush (v := 6) hx hb dX1_add_4 (by decide) ?_
  refine lv_icmp_lt (tgt := 10) hx hb dX1_add_6 (by decide) (fun c_1 => ?_) (fun c_1 => ?_)
  · have hF := zi_pos c_1 hF
    refine lv_aload_n hx hb dX1_add_10 rfl (lv_at hl 0 rfl) ?_
    refine va_get (D := D) (ci := 1) (v := .ref c_a_period) (C := RX1) (T := TX1) (N := 6) hx hb ht iyX1 hown hK hP 0 rfl rfl 2 (by decide) (ht _ wf_X1_15) (fun _ h9 => h9) rfl dX1_add_11 ?_
    refine lv_aload_n hx hb dX1_add_14 rfl (lv_at hl 0 rfl) ?_
    refine va_get (D := D) (ci := 1) (v := .int c_size) (C := RX1) (T := TX1) (N := 6) hx hb ht iyX1 hown hK hP 0 rfl rfl 1 (by decide) (ht _ wf_X1_28) (fun _ h9 => h9) rfl dX1_add_15 ?_
    refine lv_iload_n hx hb dX1_add_18 rfl (lv_at hl 1 rfl) ?_
    obtain ⟨h_2, hF⟩ := zi_chk hF
    refine va_iast hx hb hK hP hD hS 1 0 rfl rfl h_2 dX1_add_19 (fun H locs hP hD hS => ?_)
    have hP : va_P D classes [(c_a, .inr (1, [.int c_every, .int c_size, .ref c_a_period, .ref c_a_hang, .ref c_a_start, .ref c_a_wind])), (c_a_period, .inl (cI, 6, .inl (upd c_period c_size.toNatClampNeg p1))), (c_a_hang, .inl (cI, 6, .inl c_hang)), (c_a_start, .inl (cI, 6, .inl c_start)), (c_a_wind, .inl (cI, 6, .inl c_wind))] H := hP
    have hD : va_D A [(c_a, .inr (1, [.int c_every, .int c_size, .ref c_a_period, .ref c_a_hang, .ref c_a_start, .ref c_a_wind])), (c_a_period, .inl (cI, 6, .inl (upd c_period c_size.toNatClampNeg p1))), (c_a_hang, .inl (cI, 6, .inl c_hang)), (c_a_start, .inl (cI, 6, .inl c_start)), (c_a_wind, .inl (cI, 6, .inl c_wind))] := hD
    refine lv_aload_n hx hb dX1_add_20 rfl (lv_at hl 0 rfl) ?_
    refine va_get (D := D) (ci := 1) (v := .ref c_a_hang) (C := RX1) (T := TX1) (N := 6) hx hb ht iyX1 hown hK hP 0 rfl rfl 3 (by decide) (ht _ wf_X1_19) (fun _ h9 => h9) rfl dX1_add_21 ?_
    refine lv_aload_n hx hb dX1_add_24 rfl (lv_at hl 0 rfl) ?_
    refine va_get (D := D) (ci := 1) (v := .int c_size) (C := RX1) (T := TX1) (N := 6) hx hb ht iyX1 hown hK hP 0 rfl rfl 1 (by decide) (ht _ wf_X1_28) (fun _ h9 => h9) rfl dX1_add_25 ?_
    refine lv_iload_n hx hb dX1_add_28 rfl (lv_at hl 2 rfl) ?_
    refine va_iast hx hb hK hP hD hS 2 0 rfl rfl h_2 dX1_add_29 (fun H locs hP hD hS => ?_)
    have hP : va_P D classes [(c_a, .inr (1, [.int c_every, .int c_size, .ref c_a_period, .ref c_a_hang, .ref c_a_start, .ref c_a_wind])), (c_a_period, .inl (cI, 6, .inl (upd c_period c_size.toNatClampNeg p1))), (c_a_hang, .inl (cI, 6, .inl (upd c_hang c_size.toNatClampNeg p2))), (c_a_start, .inl (cI, 6, .inl c_start)), (c_a_wind, .inl (cI, 6, .inl c_wind))] H := hP
    have hD : va_D A [(c_a, .inr (1, [.int c_every, .int c_size, .ref c_a_period, .ref c_a_hang, .ref c_a_start, .ref c_a_wind])), (c_a_period, .inl (cI, 6, .inl (upd c_period c_size.toNatClampNeg p1))), (c_a_hang, .inl (cI, 6, .inl (upd c_hang c_size.toNatClampNeg p2))), (c_a_start, .inl (cI, 6, .inl c_start)), (c_a_wind, .inl (cI, 6, .inl c_wind))] := hD
    refine lv_aload_n hx hb dX1_add_30 rfl (lv_at hl 0 rfl) ?_
    refine va_get (D := D) (ci := 1) (v := .ref c_a_start) (C := RX1) (T := TX1) (N := 6) hx hb ht iyX1 hown hK hP 0 rfl rfl 4 (by decide) (ht _ wf_X1_22) (fun _ h9 => h9) rfl dX1_add_31 ?_
    refine lv_aload_n hx hb dX1_add_34 rfl (lv_at hl 0 rfl) ?_
    refine va_get (D := D) (ci := 1) (v := .int c_size) (C := RX1) (T := TX1) (N := 6) hx hb ht iyX1 hown hK hP 0 rfl rfl 1 (by decide) (ht _ wf_X1_28) (fun _ h9 => h9) rfl dX1_add_35 ?_
    refine lv_iload_n hx hb dX1_add_38 rfl (lv_at hl 3 rfl) ?_
    refine va_iast hx hb hK hP hD hS 3 0 rfl rfl h_2 dX1_add_39 (fun H locs hP hD hS => ?_)
    have hP : va_P D classes [(c_a, .inr (1, [.int c_every, .int c_size, .ref c_a_period, .ref c_a_hang, .ref c_a_start, .ref c_a_wind])), (c_a_period, .inl (cI, 6, .inl (upd c_period c_size.toNatClampNeg p1))), (c_a_hang, .inl (cI, 6, .inl (upd c_hang c_size.toNatClampNeg p2))), (c_a_start, .inl (cI, 6, .inl (upd c_start c_size.toNatClampNeg p3))), (c_a_wind, .inl (cI, 6, .inl c_wind))] H := hP
    have hD : va_D A [(c_a, .inr (1, [.int c_every, .int c_size, .ref c_a_period, .ref c_a_hang, .ref c_a_start, .ref c_a_wind])), (c_a_period, .inl (cI, 6, .inl (upd c_period c_size.toNatClampNeg p1))), (c_a_hang, .inl (cI, 6, .inl (upd c_hang c_size.toNatClampNeg p2))), (c_a_start, .inl (cI, 6, .inl (upd c_start c_size.toNatClampNeg p3))), (c_a_wind, .inl (cI, 6, .inl c_wind))] := hD
    refine lv_aload_n hx hb dX1_add_40 rfl (lv_at hl 0 rfl) ?_
    refine va_get (D := D) (ci := 1) (v := .ref c_a_wind) (C := RX1) (T := TX1) (N := 6) hx hb ht iyX1 hown hK hP 0 rfl rfl 5 (by decide) (ht _ wf_X1_25) (fun _ h9 => h9) rfl dX1_add_41 ?_
    refine lv_aload_n hx hb dX1_add_44 rfl (lv_at hl 0 rfl) ?_
    refine va_get (D := D) (ci := 1) (v := .int c_size) (C := RX1) (T := TX1) (N := 6) hx hb ht iyX1 hown hK hP 0 rfl rfl 1 (by decide) (ht _ wf_X1_28) (fun _ h9 => h9) rfl dX1_add_45 ?_
    refine lv_iload hx hb dX1_add_48 (lv_at hl 4 rfl) ?_
    refine va_iast hx hb hK hP hD hS 4 0 rfl rfl h_2 dX1_add_50 (fun H locs hP hD hS => ?_)
    have hP : va_P D classes [(c_a, .inr (1, [.int c_every, .int c_size, .ref c_a_period, .ref c_a_hang, .ref c_a_start, .ref c_a_wind])), (c_a_period, .inl (cI, 6, .inl (upd c_period c_size.toNatClampNeg p1))), (c_a_hang, .inl (cI, 6, .inl (upd c_hang c_size.toNatClampNeg p2))), (c_a_start, .inl (cI, 6, .inl (upd c_start c_size.toNatClampNeg p3))), (c_a_wind, .inl (cI, 6, .inl (upd c_wind c_size.toNatClampNeg p4)))] H := hP
    have hD : va_D A [(c_a, .inr (1, [.int c_every, .int c_size, .ref c_a_period, .ref c_a_hang, .ref c_a_start, .ref c_a_wind])), (c_a_period, .inl (cI, 6, .inl (upd c_period c_size.toNatClampNeg p1))), (c_a_hang, .inl (cI, 6, .inl (upd c_hang c_size.toNatClampNeg p2))), (c_a_start, .inl (cI, 6, .inl (upd c_start c_size.toNatClampNeg p3))), (c_a_wind, .inl (cI, 6, .inl (upd c_wind c_size.toNatClampNeg p4)))] := hD
    refine lv_aload_n hx hb dX1_add_51 rfl (lv_at hl 0 rfl) ?_
    refine lv_dup hx hb dX1_add_52 rfl ?_
    refine va_get (D := D) (ci := 1) (v := .int c_size) (C := RX1) (T := TX1) (N := 6) hx hb ht iyX1 hown hK hP 0 rfl rfl 1 (by decide) (ht _ wf_X1_28) (fun _ h9 => h9) rfl dX1_add_53 ?_
    refine lv_iconst (v := 1) hx hb dX1_add_56 (by decide) ?_
    refine lv_iadd hx hb dX1_add_57 ?_
    refine va_put (D := D) (ci := 1) (v := .int (c_size + 1)) (ty := .int) (C := RX1) (T := TX1) (N := 6) hx hb ht iyX1 tyX1 tyX1_ok nmX1 hown hK hP hD hS 0 rfl rfl 1 (by decide) (ht _ wf_X1_28) (fun _ h9 => h9) rfl (by decide +kernel) rfl rfl (Nat.le_of_ble_eq_true rfl) dX1_add_58 (fun H locs hP hD hS => ?_)
    have hP : va_P D classes [(c_a, .inr (1, [.int c_every, .int (c_size + 1), .ref c_a_period, .ref c_a_hang, .ref c_a_start, .ref c_a_wind])), (c_a_period, .inl (cI, 6, .inl (upd c_period c_size.toNatClampNeg p1))), (c_a_hang, .inl (cI, 6, .inl (upd c_hang c_size.toNatClampNeg p2))), (c_a_start, .inl (cI, 6, .inl (upd c_start c_size.toNatClampNeg p3))), (c_a_wind, .inl (cI, 6, .inl (upd c_wind c_size.toNatClampNeg p4)))] H := hP
    have hD : va_D A [(c_a, .inr (1, [.int c_every, .int (c_size + 1), .ref c_a_period, .ref c_a_hang, .ref c_a_start, .ref c_a_wind])), (c_a_period, .inl (cI, 6, .inl (upd c_period c_size.toNatClampNeg p1))), (c_a_hang, .inl (cI, 6, .inl (upd c_hang c_size.toNatClampNeg p2))), (c_a_start, .inl (cI, 6, .inl (upd c_start c_size.toNatClampNeg p3))), (c_a_wind, .inl (cI, 6, .inl (upd c_wind c_size.toNatClampNeg p4)))] := hD
    obtain ⟨e_0, e_1, e_2, e_3, e_4⟩ := zo5 hF
    subst e_0
    subst e_1
    subst e_2
    subst e_3
    subst e_4
    exact zret_v S hr hlocks hK hP hD hS dX1_add_61
  · have hF := zi_neg c_1 hF
    obtain ⟨e_0, e_1, e_2, e_3, e_4⟩ := zo5 hF
    subst e_0
    subst e_1
    subst e_2
    subst e_3
    subst e_4
    exact zret_v S hr hlocks hK hP hD hS dX1_add_9

def L_X8_open_35 (c_start : Nat → Int32) (c_wind : Nat → Int32) : Nat → (Nat → Int32) → (Nat → Int32) → (Nat → Int32) → Int32 → Option ((Nat → Int32) × (Nat → Int32) × (Nat → Int32) × Int32)
  | 0 => fun _ _ _ _ => none
  | n + 1 => fun s_up s_due s_wind v2 => (if 6 ≤ v2 then some (s_up, s_due, s_wind, v2) else (if (v2 < 0 ∨ 6 ≤ v2.toNatClampNeg) then none else (L_X8_open_35 c_start c_wind n (upd s_up v2.toNatClampNeg 0) (upd s_due v2.toNatClampNeg (c_start v2.toNatClampNeg)) (upd s_wind v2.toNatClampNeg (c_wind v2.toNatClampNeg)) (v2 + 1))))
theorem L_X8_open_35_z (c_start : Nat → Int32) (c_wind : Nat → Int32) (s_up : Nat → Int32) (s_due : Nat → Int32) (s_wind : Nat → Int32) (v2 : Int32) : L_X8_open_35 c_start c_wind 0 s_up s_due s_wind v2 = none := rfl
theorem L_X8_open_35_s (c_start : Nat → Int32) (c_wind : Nat → Int32) (n : Nat) (s_up : Nat → Int32) (s_due : Nat → Int32) (s_wind : Nat → Int32) (v2 : Int32) : L_X8_open_35 c_start c_wind (n + 1) s_up s_due s_wind v2 = (if 6 ≤ v2 then some (s_up, s_due, s_wind, v2) else (if (v2 < 0 ∨ 6 ≤ v2.toNatClampNeg) then none else (L_X8_open_35 c_start c_wind n (upd s_up v2.toNatClampNeg 0) (upd s_due v2.toNatClampNeg (c_start v2.toNatClampNeg)) (upd s_wind v2.toNatClampNeg (c_wind v2.toNatClampNeg)) (v2 + 1)))) := rfl
def F_X8_open (s_up : Nat → Int32) (s_due : Nat → Int32) (s_wind : Nat → Int32) (c_every : Int32) (c_size : Int32) (c_start : Nat → Int32) (c_wind : Nat → Int32) : Option (Int32 × Int32 × Int32 × Int32 × (Nat → Int32) × (Nat → Int32) × (Nat → Int32)) :=
  (zb4 (L_X8_open_35 c_start c_wind 300 s_up s_due s_wind 0) (fun s_up_5 s_due_6 s_wind_7 v2_8 => some (0, c_every, c_every, ((1 : Int32) <<< (c_size &&& 31)) - 1, s_up_5, s_due_6, s_wind_7)))
set_option maxHeartbeats 4000000 in
set_option maxRecDepth 100000 in
theorem c_X8_open (l : Launch) (D : va_G) (cI cZ cS cJ : ClassId) (s_a : Nat) (s_a_up : Nat) (s_a_due : Nat) (s_a_wind : Nat) (c_a : Nat) (c_a_period : Nat) (c_a_hang : Nat) (c_a_start : Nat) (c_a_wind : Nat) (s_tick : Int32) (s_every : Int32) (s_round : Int32) (s_inside : Int32) (s_up : Nat → Int32) (s_due : Nat → Int32) (s_wind : Nat → Int32) (c_every : Int32) (c_size : Int32) (c_start : Nat → Int32) (c_wind : Nat → Int32) {s_tick_o : Int32} {s_every_o : Int32} {s_round_o : Int32} {s_inside_o : Int32} {s_up_o : Nat → Int32} {s_due_o : Nat → Int32} {s_wind_o : Nat → Int32} (hF : F_X8_open s_up s_due s_wind c_every c_size c_start c_wind = some (s_tick_o, s_every_o, s_round_o, s_inside_o, s_up_o, s_due_o, s_wind_o)) : zMv l yX8_open (zwl yX8_open cX8_open 3 none) { frames := 0, cells := 0, slots := 0, locals := 0 } D (TYS cI cZ cS cJ) [.ref s_a, .ref c_a] [(s_a, .inr (8, [.int s_tick, .int s_every, .int s_round, .int s_inside, .ref s_a_up, .ref s_a_due, .ref s_a_wind])), (s_a_up, .inl (cI, 6, .inl s_up)), (s_a_due, .inl (cI, 6, .inl s_due)), (s_a_wind, .inl (cI, 6, .inl s_wind)), (c_a, .inr (1, [.int c_every, .int c_size, .ref c_a_period, .ref c_a_hang, .ref c_a_start, .ref c_a_wind])), (c_a_start, .inl (cI, 6, .inl c_start)), (c_a_wind, .inl (cI, 6, .inl c_wind))] [(s_a, .inr (8, [.int s_tick_o, .int s_every_o, .int s_round_o, .int s_inside_o, .ref s_a_up, .ref s_a_due, .ref s_a_wind])), (s_a_up, .inl (cI, 6, .inl s_up_o)), (s_a_due, .inl (cI, 6, .inl s_due_o)), (s_a_wind, .inl (cI, 6, .inl s_wind_o)), (c_a, .inr (1, [.int c_every, .int c_size, .ref c_a_period, .ref c_a_hang, .ref c_a_start, .ref c_a_wind])), (c_a_start, .inl (cI, 6, .inl c_start)), (c_a_wind, .inl (cI, 6, .inl c_wind))] := by
  refine zent_v (own := RX8) (by decide) rfl (Nat.le_of_ble_eq_true rfl) ?_
  intro p e s m below meth c A ls S hr hlocks hK hP hD hA hl
  have hx := S.1
  have hb := S.2.1
  have hml := S.2.2.1
  have hown := S.2.2.2.1
  have hT : ∀ w ∈ zt, w ∈ zwl yX8_open cX8_open 3 none := fun _ h => List.mem_cons_of_mem _ h
  have ht : ∀ w ∈ zt, w.before [.ref s_a, .ref c_a].toArray s = true := fun w h => S.2.2.2.2 w (hT w h)
  have hl : lv_has ls 3 [(0, .ref s_a), (1, .ref c_a)] := hl
  have hS : va_S A s.heap s.heap [] := va_S.rf
  unfold F_X8_open at hF
  have hloop_35 : ∀ (n : Nat) (s_tick : Int32) (s_every : Int32) (s_round : Int32) (s_inside : Int32) (s_up : Nat → Int32) (s_due : Nat → Int32) (s_wind : Nat → Int32) (c_every : Int32) (c_size : Int32) (c_start : Nat → Int32) (c_wind : Nat → Int32) (v2 : Int32) (s_up' : Nat → Int32) (s_due' : Nat → Int32) (s_wind' : Nat → Int32) (v2' : Int32), L_X8_open_35 c_start c_wind n s_up s_due s_wind v2 = some (s_up', s_due', s_wind', v2') → ∀ (H : Heap) (locs : List Loc) (ls : Array Slot), va_P D classes [(s_a, .inr (8, [.int s_tick, .int s_every, .int s_round, .int s_inside, .ref s_a_up, .ref s_a_due, .ref s_a_wind])), (s_a_up, .inl (cI, 6, .inl s_up)), (s_a_due, .inl (cI, 6, .inl s_due)), (s_a_wind, .inl (cI, 6, .inl s_wind)), (c_a, .inr (1, [.int c_every, .int c_size, .ref c_a_period, .ref c_a_hang, .ref c_a_start, .ref c_a_wind])), (c_a_start, .inl (cI, 6, .inl c_start)), (c_a_wind, .inl (cI, 6, .inl c_wind))] H → va_D A [(s_a, .inr (8, [.int s_tick, .int s_every, .int s_round, .int s_inside, .ref s_a_up, .ref s_a_due, .ref s_a_wind])), (s_a_up, .inl (cI, 6, .inl s_up)), (s_a_due, .inl (cI, 6, .inl s_due)), (s_a_wind, .inl (cI, 6, .inl s_wind)), (c_a, .inr (1, [.int c_every, .int c_size, .ref c_a_period, .ref c_a_hang, .ref c_a_start, .ref c_a_wind])), (c_a_start, .inl (cI, 6, .inl c_start)), (c_a_wind, .inl (cI, 6, .inl c_wind))] → va_S A s.heap H locs → lv_has ls 3 [(0, .ref s_a), (1, .ref c_a), (2, .int v2)] → (∀ (H : Heap) (locs : List Loc) (ls : Array Slot), va_P D classes [(s_a, .inr (8, [.int s_tick, .int s_every, .int s_round, .int s_inside, .ref s_a_up, .ref s_a_due, .ref s_a_wind])), (s_a_up, .inl (cI, 6, .inl s_up')), (s_a_due, .inl (cI, 6, .inl s_due')), (s_a_wind, .inl (cI, 6, .inl s_wind')), (c_a, .inr (1, [.int c_every, .int c_size, .ref c_a_period, .ref c_a_hang, .ref c_a_start, .ref c_a_wind])), (c_a_start, .inl (cI, 6, .inl c_start)), (c_a_wind, .inl (cI, 6, .inl c_wind))] H → va_D A [(s_a, .inr (8, [.int s_tick, .int s_every, .int s_round, .int s_inside, .ref s_a_up, .ref s_a_due, .ref s_a_wind])), (s_a_up, .inl (cI, 6, .inl s_up')), (s_a_due, .inl (cI, 6, .inl s_due')), (s_a_wind, .inl (cI, 6, .inl s_wind')), (c_a, .inr (1, [.int c_every, .int c_size, .ref c_a_period, .ref c_a_hang, .ref c_a_start, .ref c_a_wind])), (c_a_start, .inl (cI, 6, .inl c_start)), (c_a_wind, .inl (cI, 6, .inl c_wind))] → va_S A s.heap H locs → lv_has ls 3 [(0, .ref s_a), (1, .ref c_a), (2, .int v2')] → W p l e { frames := 0, cells := 0, slots := 0, locals := 0 } s m [.ref s_a, .ref c_a].toArray below meth c H locs 0 0 (zFv below [.ref s_a, .ref c_a] s A D (TYS cI cZ cS cJ) [(s_a, .inr (8, [.int s_tick_o, .int s_every_o, .int s_round_o, .int s_inside_o, .ref s_a_up, .ref s_a_due, .ref s_a_wind])), (s_a_up, .inl (cI, 6, .inl s_up_o)), (s_a_due, .inl (cI, 6, .inl s_due_o)), (s_a_wind, .inl (cI, 6, .inl s_wind_o)), (c_a, .inr (1, [.int c_every, .int c_size, .ref c_a_period, .ref c_a_hang, .ref c_a_start, .ref c_a_wind])), (c_a_start, .inl (cI, 6, .inl c_start)), (c_a_wind, .inl (cI, 6, .inl c_wind))]) (F0 m 78 ls [])) → W p l e { frames := 0, cells := 0, slots := 0, locals := 0 } s m [.ref s_a, .ref c_a].toArray below meth c H locs 0 0 (zFv below [.ref s_a, .ref c_a] s A D (TYS cI cZ cS cJ) [(s_a, .inr (8, [.int s_tick_o, .int s_every_o, .int s_round_o, .int s_inside_o, .ref s_a_up, .ref s_a_due, .ref s_a_wind])), (s_a_up, .inl (cI, 6, .inl s_up_o)), (s_a_due, .inl (cI, 6, .inl s_due_o)), (s_a_wind, .inl (cI, 6, .inl s_wind_o)), (c_a, .inr (1, [.int c_every, .int c_size, .ref c_a_period, .ref c_a_hang, .ref c_a_start, .ref c_a_wind])), (c_a_start, .inl (cI, 6, .inl c_start)), (c_a_wind, .inl (cI, 6, .inl c_wind))]) (F0 m 35 ls []) := by
    intro n
    induction n with
    | zero =>
      intro s_tick s_every s_round s_inside s_up s_due s_wind c_every c_size c_start c_wind v2 s_up' s_due' s_wind' v2' hF
      rw [L_X8_open_35_z] at hF
      cases hF
    | succ n ih_35 =>
      intro s_tick s_every s_round s_inside s_up s_due s_wind c_every c_size c_start c_wind v2 s_up' s_due' s_wind' v2' hF H locs ls hP hD hS hl hexit_35
      rw [L_X8_open_35_s] at hF
      refine lv_iload_n hx hb dX8_open_35 rfl (lv_at hl 2 rfl) ?_
      refine lv_bipush (v := 6) hx hb dX8_open_36 (by decide) ?_
      refine lv_icmp_ge (tgt := 78) hx hb dX8_open_38 (by decide) (fun c_3 => ?_) (fun c_3 => ?_)
      · have hF := zi_pos c_3 hF
        obtain ⟨e_0, e_1, e_2, e_3⟩ := zo4 hF
        subst e_0
        subst e_1
        subst e_2
        subst e_3
        exact hexit_35 _ _ _ hP hD hS (lv_sub hl [0, 1, 2] rfl)
      · have hF := zi_neg c_3 hF
        refine lv_aload_n hx hb dX8_open_41 rfl (lv_at hl 0 rfl) ?_
        refine va_get (D := D) (ci := 8) (v := .ref s_a_up) (C := RX8) (T := TX8) (N := 7) hx hb ht iyX8 hown hK hP 0 rfl rfl 4 (by decide) (ht _ wf_X8_9) (fun _ h9 => h9) rfl dX8_open_42 ?_
        refine lv_iload_n hx hb dX8_open_45 rfl (lv_at hl 2 rfl) ?_
        refine lv_iconst (v := 0) hx hb dX8_open_46 (by decide) ?_
        obtain ⟨h_4, hF⟩ := zi_chk hF
        refine va_iast hx hb hK hP hD hS 1 0 rfl rfl h_4 dX8_open_47 (fun H locs hP hD hS => ?_)
        have hP : va_P D classes [(s_a, .inr (8, [.int s_tick, .int s_every, .int s_round, .int s_inside, .ref s_a_up, .ref s_a_due, .ref s_a_wind])), (s_a_up, .inl (cI, 6, .inl (upd s_up v2.toNatClampNeg 0))), (s_a_due, .inl (cI, 6, .inl s_due)), (s_a_wind, .inl (cI, 6, .inl s_wind)), (c_a, .inr (1, [.int c_every, .int c_size, .ref c_a_period, .ref c_a_hang, .ref c_a_start, .ref c_a_wind])), (c_a_start, .inl (cI, 6, .inl c_start)), (c_a_wind, .inl (cI, 6, .inl c_wind))] H := hP
        have hD : va_D A [(s_a, .inr (8, [.int s_tick, .int s_every, .int s_round, .int s_inside, .ref s_a_up, .ref s_a_due, .ref s_a_wind])), (s_a_up, .inl (cI, 6, .inl (upd s_up v2.toNatClampNeg 0))), (s_a_due, .inl (cI, 6, .inl s_due)), (s_a_wind, .inl (cI, 6, .inl s_wind)), (c_a, .inr (1, [.int c_every, .int c_size, .ref c_a_period, .ref c_a_hang, .ref c_a_start, .ref c_a_wind])), (c_a_start, .inl (cI, 6, .inl c_start)), (c_a_wind, .inl (cI, 6, .inl c_wind))] := hD
        refine lv_aload_n hx hb dX8_open_48 rfl (lv_at hl 0 rfl) ?_
        refine va_get (D := D) (ci := 8) (v := .ref s_a_due) (C := RX8) (T := TX8) (N := 7) hx hb ht iyX8 hown hK hP 0 rfl rfl 5 (by decide) (ht _ wf_X8_15) (fun _ h9 => h9) rfl dX8_open_49 ?_
        refine lv_iload_n hx hb dX8_open_52 rfl (lv_at hl 2 rfl) ?_
        refine lv_aload_n hx hb dX8_open_53 rfl (lv_at hl 1 rfl) ?_
        refine va_get (D := D) (ci := 1) (v := .ref c_a_start) (C := RX1) (T := TX1) (N := 6) hx hb ht iyX1 hown hK hP 4 rfl rfl 4 (by decide) (ht _ wf_X8_40) (fun _ h9 => h9) rfl dX8_open_54 ?_
        refine lv_iload_n hx hb dX8_open_57 rfl (lv_at hl 2 rfl) ?_
        refine va_iald hx hb hK hP 5 0 rfl rfl h_4 dX8_open_58 ?_
        refine va_iast hx hb hK hP hD hS 2 0 rfl rfl h_4 dX8_open_59 (fun H locs hP hD hS => ?_)
        have hP : va_P D classes [(s_a, .inr (8, [.int s_tick, .int s_every, .int s_round, .int s_inside, .ref s_a_up, .ref s_a_due, .ref s_a_wind])), (s_a_up, .inl (cI, 6, .inl (upd s_up v2.toNatClampNeg 0))), (s_a_due, .inl (cI, 6, .inl (upd s_due v2.toNatClampNeg (c_start v2.toNatClampNeg)))), (s_a_wind, .inl (cI, 6, .inl s_wind)), (c_a, .inr (1, [.int c_every, .int c_size, .ref c_a_period, .ref c_a_hang, .ref c_a_start, .ref c_a_wind])), (c_a_start, .inl (cI, 6, .inl c_start)), (c_a_wind, .inl (cI, 6, .inl c_wind))] H := hP
        have hD : va_D A [(s_a, .inr (8, [.int s_tick, .int s_every, .int s_round, .int s_inside, .ref s_a_up, .ref s_a_due, .ref s_a_wind])), (s_a_up, .inl (cI, 6, .inl (upd s_up v2.toNatClampNeg 0))), (s_a_due, .inl (cI, 6, .inl (upd s_due v2.toNatClampNeg (c_start v2.toNatClampNeg)))), (s_a_wind, .inl (cI, 6, .inl s_wind)), (c_a, .inr (1, [.int c_every, .int c_size, .ref c_a_period, .ref c_a_hang, .ref c_a_start, .ref c_a_wind])), (c_a_start, .inl (cI, 6, .inl c_start)), (c_a_wind, .inl (cI, 6, .inl c_wind))] := hD
        refine lv_aload_n hx hb dX8_open_60 rfl (lv_at hl 0 rfl) ?_
        refine va_get (D := D) (ci := 8) (v := .ref s_a_wind) (C := RX8) (T := TX8) (N := 7) hx hb ht iyX8 hown hK hP 0 rfl rfl 6 (by decide) (ht _ wf_X8_18) (fun _ h9 => h9) rfl dX8_open_61 ?_
        refine lv_iload_n hx hb dX8_open_64 rfl (lv_at hl 2 rfl) ?_
        refine lv_aload_n hx hb dX8_open_65 rfl (lv_at hl 1 rfl) ?_
        refine va_get (D := D) (ci := 1) (v := .ref c_a_wind) (C := RX1) (T := TX1) (N := 6) hx hb ht iyX1 hown hK hP 4 rfl rfl 5 (by decide) (ht _ wf_X8_43) (fun _ h9 => h9) rfl dX8_open_66 ?_
        refine lv_iload_n hx hb dX8_open_69 rfl (lv_at hl 2 rfl) ?_
        refine va_iald hx hb hK hP 6 0 rfl rfl h_4 dX8_open_70 ?_
        refine va_iast hx hb hK hP hD hS 3 0 rfl rfl h_4 dX8_open_71 (fun H locs hP hD hS => ?_)
        have hP : va_P D classes [(s_a, .inr (8, [.int s_tick, .int s_every, .int s_round, .int s_inside, .ref s_a_up, .ref s_a_due, .ref s_a_wind])), (s_a_up, .inl (cI, 6, .inl (upd s_up v2.toNatClampNeg 0))), (s_a_due, .inl (cI, 6, .inl (upd s_due v2.toNatClampNeg (c_start v2.toNatClampNeg)))), (s_a_wind, .inl (cI, 6, .inl (upd s_wind v2.toNatClampNeg (c_wind v2.toNatClampNeg)))), (c_a, .inr (1, [.int c_every, .int c_size, .ref c_a_period, .ref c_a_hang, .ref c_a_start, .ref c_a_wind])), (c_a_start, .inl (cI, 6, .inl c_start)), (c_a_wind, .inl (cI, 6, .inl c_wind))] H := hP
        have hD : va_D A [(s_a, .inr (8, [.int s_tick, .int s_every, .int s_round, .int s_inside, .ref s_a_up, .ref s_a_due, .ref s_a_wind])), (s_a_up, .inl (cI, 6, .inl (upd s_up v2.toNatClampNeg 0))), (s_a_due, .inl (cI, 6, .inl (upd s_due v2.toNatClampNeg (c_start v2.toNatClampNeg)))), (s_a_wind, .inl (cI, 6, .inl (upd s_wind v2.toNatClampNeg (c_wind v2.toNatClampNeg)))), (c_a, .inr (1, [.int c_every, .int c_size, .ref c_a_period, .ref c_a_hang, .ref c_a_start, .ref c_a_wind])), (c_a_start, .inl (cI, 6, .inl c_start)), (c_a_wind, .inl (cI, 6, .inl c_wind))] := hD
        refine lv_iinc (v := v2 + 1) (lv' := [(2, .int (v2 + 1)), (0, .ref s_a), (1, .ref c_a)]) hx hb dX8_open_72 hl (k := 2) rfl (by rfl) (by decide) rfl (fun ls hl => ?_)
        refine lv_goto (tgt := 35) hx hb dX8_open_75 (by decide) ?_
        exact ih_35 s_tick s_every s_round s_inside (upd s_up v2.toNatClampNeg 0) (upd s_due v2.toNatClampNeg (c_start v2.toNatClampNeg)) (upd s_wind v2.toNatClampNeg (c_wind v2.toNatClampNeg)) c_every c_size c_start c_wind (v2 + 1) _ _ _ _ hF _ _ _ hP hD hS (lv_sub hl [1, 2, 0] rfl) hexit_35
  refine lv_aload_n hx hb dX8_open_0 rfl (lv_at hl 0 rfl) ?_
  refine lv_iconst (v := 0) hx hb dX8_open_1 (by decide) ?_
  refine va_put (D := D) (ci := 8) (v := .int 0) (ty := .int) (C := RX8) (T := TX8) (N := 7) hx hb ht iyX8 tyX8 tyX8_ok nmX8 hown hK hP hD hS 0 rfl rfl 0 (by decide) (ht _ wf_X8_21) (fun _ h9 => h9) rfl (by decide +kernel) rfl rfl (Nat.le_of_ble_eq_true rfl) dX8_open_2 (fun H locs hP hD hS => ?_)
  have hP : va_P D classes [(s_a, .inr (8, [.int 0, .int s_every, .int s_round, .int s_inside, .ref s_a_up, .ref s_a_due, .ref s_a_wind])), (s_a_up, .inl (cI, 6, .inl s_up)), (s_a_due, .inl (cI, 6, .inl s_due)), (s_a_wind, .inl (cI, 6, .inl s_wind)), (c_a, .inr (1, [.int c_every, .int c_size, .ref c_a_period, .ref c_a_hang, .ref c_a_start, .ref c_a_wind])), (c_a_start, .inl (cI, 6, .inl c_start)), (c_a_wind, .inl (cI, 6, .inl c_wind))] H := hP
  have hD : va_D A [(s_a, .inr (8, [.int 0, .int s_every, .int s_round, .int s_inside, .ref s_a_up, .ref s_a_due, .ref s_a_wind])), (s_a_up, .inl (cI, 6, .inl s_up)), (s_a_due, .inl (cI, 6, .inl s_due)), (s_a_wind, .inl (cI, 6, .inl s_wind)), (c_a, .inr (1, [.int c_every, .int c_size, .ref c_a_period, .ref c_a_hang, .ref c_a_start, .ref c_a_wind])), (c_a_start, .inl (cI, 6, .inl c_start)), (c_a_wind, .inl (cI, 6, .inl c_wind))] := hD
  refine lv_aload_n hx hb dX8_open_5 rfl (lv_at hl 0 rfl) ?_
  refine lv_aload_n hx hb dX8_open_6 rfl (lv_at hl 1 rfl) ?_
  refine va_get (D := D) (ci := 1) (v := .int c_every) (C := RX1) (T := TX1) (N := 6) hx hb ht iyX1 hown hK hP 4 rfl rfl 0 (by decide) (ht _ wf_X8_25) (fun _ h9 => h9) rfl dX8_open_7 ?_
  refine va_put (D := D) (ci := 8) (v := .int c_every) (ty := .int) (C := RX8) (T := TX8) (N := 7) hx hb ht iyX8 tyX8 tyX8_ok nmX8 hown hK hP hD hS 0 rfl rfl 1 (by decide) (ht _ wf_X8_30) (fun _ h9 => h9) rfl (by decide +kernel) rfl rfl (Nat.le_of_ble_eq_true rfl) dX8_open_10 (fun H locs hP hD hS => ?_)
  have hP : va_P D classes [(s_a, .inr (8, [.int 0, .int c_every, .int s_round, .int s_inside, .ref s_a_up, .ref s_a_due, .ref s_a_wind])), (s_a_up, .inl (cI, 6, .inl s_up)), (s_a_due, .inl (cI, 6, .inl s_due)), (s_a_wind, .inl (cI, 6, .inl s_wind)), (c_a, .inr (1, [.int c_every, .int c_size, .ref c_a_period, .ref c_a_hang, .ref c_a_start, .ref c_a_wind])), (c_a_start, .inl (cI, 6, .inl c_start)), (c_a_wind, .inl (cI, 6, .inl c_wind))] H := hP
  have hD : va_D A [(s_a, .inr (8, [.int 0, .int c_every, .int s_round, .int s_inside, .ref s_a_up, .ref s_a_due, .ref s_a_wind])), (s_a_up, .inl (cI, 6, .inl s_up)), (s_a_due, .inl (cI, 6, .inl s_due)), (s_a_wind, .inl (cI, 6, .inl s_wind)), (c_a, .inr (1, [.int c_every, .int c_size, .ref c_a_period, .ref c_a_hang, .ref c_a_start, .ref c_a_wind])), (c_a_start, .inl (cI, 6, .inl c_start)), (c_a_wind, .inl (cI, 6, .inl c_wind))] := hD
  refine lv_aload_n hx hb dX8_open_13 rfl (lv_at hl 0 rfl) ?_
  refine lv_aload_n hx hb dX8_open_14 rfl (lv_at hl 1 rfl) ?_
  refine va_get (D := D) (ci := 1) (v := .int c_every) (C := RX1) (T := TX1) (N := 6) hx hb ht iyX1 hown hK hP 4 rfl rfl 0 (by decide) (ht _ wf_X8_25) (fun _ h9 => h9) rfl dX8_open_15 ?_
  refine va_put (D := D) (ci := 8) (v := .int c_every) (ty := .int) (C := RX8) (T := TX8) (N := 7) hx hb ht iyX8 tyX8 tyX8_ok nmX8 hown hK hP hD hS 0 rfl rfl 2 (by decide) (ht _ wf_X8_31) (fun _ h9 => h9) rfl (by decide +kernel) rfl rfl (Nat.le_of_ble_eq_true rfl) dX8_open_18 (fun H locs hP hD hS => ?_)
  have hP : va_P D classes [(s_a, .inr (8, [.int 0, .int c_every, .int c_every, .int s_inside, .ref s_a_up, .ref s_a_due, .ref s_a_wind])), (s_a_up, .inl (cI, 6, .inl s_up)), (s_a_due, .inl (cI, 6, .inl s_due)), (s_a_wind, .inl (cI, 6, .inl s_wind)), (c_a, .inr (1, [.int c_every, .int c_size, .ref c_a_period, .ref c_a_hang, .ref c_a_start, .ref c_a_wind])), (c_a_start, .inl (cI, 6, .inl c_start)), (c_a_wind, .inl (cI, 6, .inl c_wind))] H := hP
  have hD : va_D A [(s_a, .inr (8, [.int 0, .int c_every, .int c_every, .int s_inside, .ref s_a_up, .ref s_a_due, .ref s_a_wind])), (s_a_up, .inl (cI, 6, .inl s_up)), (s_a_due, .inl (cI, 6, .inl s_due)), (s_a_wind, .inl (cI, 6, .inl s_wind)), (c_a, .inr (1, [.int c_every, .int c_size, .ref c_a_period, .ref c_a_hang, .ref c_a_start, .ref c_a_wind])), (c_a_start, .inl (cI, 6, .inl c_start)), (c_a_wind, .inl (cI, 6, .inl c_wind))] := hD
  refine lv_aload_n hx hb dX8_open_21 rfl (lv_at hl 0 rfl) ?_
  refine lv_iconst (v := 1) hx hb dX8_open_22 (by decide) ?_
  refine lv_aload_n hx hb dX8_open_23 rfl (lv_at hl 1 rfl) ?_
  refine va_get (D := D) (ci := 1) (v := .int c_size) (C := RX1) (T := TX1) (N := 6) hx hb ht iyX1 hown hK hP 4 rfl rfl 1 (by decide) (ht _ wf_X8_34) (fun _ h9 => h9) rfl dX8_open_24 ?_
  refine lv_ishl hx hb dX8_open_27 ?_
  refine lv_iconst (v := 1) hx hb dX8_open_28 (by decide) ?_
  refine lv_isub hx hb dX8_open_29 ?_
  refine va_put (D := D) (ci := 8) (v := .int (((1 : Int32) <<< (c_size &&& 31)) - 1)) (ty := .int) (C := RX8) (T := TX8) (N := 7) hx hb ht iyX8 tyX8 tyX8_ok nmX8 hown hK hP hD hS 0 rfl rfl 3 (by decide) (ht _ wf_X8_37) (fun _ h9 => h9) rfl (by decide +kernel) rfl rfl (Nat.le_of_ble_eq_true rfl) dX8_open_30 (fun H locs hP hD hS => ?_)
  have hP : va_P D classes [(s_a, .inr (8, [.int 0, .int c_every, .int c_every, .int (((1 : Int32) <<< (c_size &&& 31)) - 1), .ref s_a_up, .ref s_a_due, .ref s_a_wind])), (s_a_up, .inl (cI, 6, .inl s_up)), (s_a_due, .inl (cI, 6, .inl s_due)), (s_a_wind, .inl (cI, 6, .inl s_wind)), (c_a, .inr (1, [.int c_every, .int c_size, .ref c_a_period, .ref c_a_hang, .ref c_a_start, .ref c_a_wind])), (c_a_start, .inl (cI, 6, .inl c_start)), (c_a_wind, .inl (cI, 6, .inl c_wind))] H := hP
  have hD : va_D A [(s_a, .inr (8, [.int 0, .int c_every, .int c_every, .int (((1 : Int32) <<< (c_size &&& 31)) - 1), .ref s_a_up, .ref s_a_due, .ref s_a_wind])), (s_a_up, .inl (cI, 6, .inl s_up)), (s_a_due, .inl (cI, 6, .inl s_due)), (s_a_wind, .inl (cI, 6, .inl s_wind)), (c_a, .inr (1, [.int c_every, .int c_size, .ref c_a_period, .ref c_a_hang, .ref c_a_start, .ref c_a_wind])), (c_a_start, .inl (cI, 6, .inl c_start)), (c_a_wind, .inl (cI, 6, .inl c_wind))] := hD
  refine lv_iconst (v := 0) hx hb dX8_open_33 (by decide) ?_
  refine lv_istore_n (lv' := [(2, .int 0), (0, .ref s_a), (1, .ref c_a)]) hx hb dX8_open_34 rfl hl (by decide) rfl (fun ls hl => ?_)
  obtain ⟨s_up_5, s_due_6, s_wind_7, v2_8, hL_9, hF⟩ := zb4_s hF
  refine hloop_35 300 0 c_every c_every (((1 : Int32) <<< (c_size &&& 31)) - 1) s_up s_due s_wind c_every c_size c_start c_wind 0 s_up_5 s_due_6 s_wind_7 v2_8 hL_9 _ _ _ hP hD hS (lv_sub hl [1, 2, 0] rfl) (fun H locs ls hP hD hS hl => ?_)
  obtain ⟨e_0, e_1, e_2, e_3, e_4, e_5, e_6⟩ := zo7 hF
  subst e_0
  subst e_1
  subst e_2
  subst e_3
  subst e_4
  subst e_5
  subst e_6
  exact zret_v S hr hlocks hK hP hD hS dX8_open_78

def F_X8_become (s_up : Nat → Int32) (s_due : Nat → Int32) (s_wind : Nat → Int32) (o_tick : Int32) (o_every : Int32) (o_round : Int32) (o_inside : Int32) (o_up : Nat → Int32) (o_due : Nat → Int32) (o_wind : Nat → Int32) : Option (Int32 × Int32 × Int32 × Int32 × (Nat → Int32) × (Nat → Int32) × (Nat → Int32)) :=
  some (o_tick, o_every, o_round, o_inside, va_cpy o_up s_up (0 : Int32).toNatClampNeg (0 : Int32).toNatClampNeg (6 : Int32).toNatClampNeg, va_cpy o_due s_due (0 : Int32).toNatClampNeg (0 : Int32).toNatClampNeg (6 : Int32).toNatClampNeg, va_cpy o_wind s_wind (0 : Int32).toNatClampNeg (0 : Int32).toNatClampNeg (6 : Int32).toNatClampNeg)
set_option maxHeartbeats 4000000 in
set_option maxRecDepth 100000 in
theorem c_X8_become (l : Launch) (D : va_G) (cI cZ cS cJ : ClassId) (s_a : Nat) (s_a_up : Nat) (s_a_due : Nat) (s_a_wind : Nat) (o_a : Nat) (o_a_up : Nat) (o_a_due : Nat) (o_a_wind : Nat) (s_tick : Int32) (s_every : Int32) (s_round : Int32) (s_inside : Int32) (s_up : Nat → Int32) (s_due : Nat → Int32) (s_wind : Nat → Int32) (o_tick : Int32) (o_every : Int32) (o_round : Int32) (o_inside : Int32) (o_up : Nat → Int32) (o_due : Nat → Int32) (o_wind : Nat → Int32) {s_tick_o : Int32} {s_every_o : Int32} {s_round_o : Int32} {s_inside_o : Int32} {s_up_o : Nat → Int32} {s_due_o : Nat → Int32} {s_wind_o : Nat → Int32} (hF : F_X8_become s_up s_due s_wind o_tick o_every o_round o_inside o_up o_due o_wind = some (s_tick_o, s_every_o, s_round_o, s_inside_o, s_up_o, s_due_o, s_wind_o)) : zMv l yX8_become (zwl yX8_become cX8_become 2 none) { frames := 1, cells := 0, slots := 0, locals := 40 } D (TYS cI cZ cS cJ) [.ref s_a, .ref o_a] [(s_a, .inr (8, [.int s_tick, .int s_every, .int s_round, .int s_inside, .ref s_a_up, .ref s_a_due, .ref s_a_wind])), (s_a_up, .inl (cI, 6, .inl s_up)), (s_a_due, .inl (cI, 6, .inl s_due)), (s_a_wind, .inl (cI, 6, .inl s_wind)), (o_a, .inr (8, [.int o_tick, .int o_every, .int o_round, .int o_inside, .ref o_a_up, .ref o_a_due, .ref o_a_wind])), (o_a_up, .inl (cI, 6, .inl o_up)), (o_a_due, .inl (cI, 6, .inl o_due)), (o_a_wind, .inl (cI, 6, .inl o_wind))] [(s_a, .inr (8, [.int s_tick_o, .int s_every_o, .int s_round_o, .int s_inside_o, .ref s_a_up, .ref s_a_due, .ref s_a_wind])), (s_a_up, .inl (cI, 6, .inl s_up_o)), (s_a_due, .inl (cI, 6, .inl s_due_o)), (s_a_wind, .inl (cI, 6, .inl s_wind_o)), (o_a, .inr (8, [.int o_tick, .int o_every, .int o_round, .int o_inside, .ref o_a_up, .ref o_a_due, .ref o_a_wind])), (o_a_up, .inl (cI, 6, .inl o_up)), (o_a_due, .inl (cI, 6, .inl o_due)), (o_a_wind, .inl (cI, 6, .inl o_wind))] := by
  refine zent_v (own := RX8) (by decide) rfl (Nat.le_of_ble_eq_true rfl) ?_
  intro p e s m below meth c A ls S hr hlocks hK hP hD hA hl
  have hx := S.1
  have hb := S.2.1
  have hml := S.2.2.1
  have hown := S.2.2.2.1
  have hT : ∀ w ∈ zt, w ∈ zwl yX8_become cX8_become 2 none := fun _ h => List.mem_cons_of_mem _ h
  have ht : ∀ w ∈ zt, w.before [.ref s_a, .ref o_a].toArray s = true := fun w h => S.2.2.2.2 w (hT w h)
  have hl : lv_has ls 2 [(0, .ref s_a), (1, .ref o_a)] := hl
  have hS : va_S A s.heap s.heap [] := va_S.rf
  unfold F_X8_become at hF
  refine lv_aload_n hx hb dX8_become_0 rfl (lv_at hl 0 rfl) ?_
  refine lv_aload_n hx hb dX8_become_1 rfl (lv_at hl 1 rfl) ?_
  refine va_get (D := D) (ci := 8) (v := .int o_tick) (C := RX8) (T := TX8) (N := 7) hx hb ht iyX8 hown hK hP 4 rfl rfl 0 (by decide) (ht _ wf_X8_21) (fun _ h9 => h9) rfl dX8_become_2 ?_
  refine va_put (D := D) (ci := 8) (v := .int o_tick) (ty := .int) (C := RX8) (T := TX8) (N := 7) hx hb ht iyX8 tyX8 tyX8_ok nmX8 hown hK hP hD hS 0 rfl rfl 0 (by decide) (ht _ wf_X8_21) (fun _ h9 => h9) rfl (by decide +kernel) rfl rfl (Nat.le_of_ble_eq_true rfl) dX8_become_5 (fun H locs hP hD hS => ?_)
  have hP : va_P D classes [(s_a, .inr (8, [.int o_tick, .int s_every, .int s_round, .int s_inside, .ref s_a_up, .ref s_a_due, .ref s_a_wind])), (s_a_up, .inl (cI, 6, .inl s_up)), (s_a_due, .inl (cI, 6, .inl s_due)), (s_a_wind, .inl (cI, 6, .inl s_wind)), (o_a, .inr (8, [.int o_tick, .int o_every, .int o_round, .int o_inside, .ref o_a_up, .ref o_a_due, .ref o_a_wind])), (o_a_up, .inl (cI, 6, .inl o_up)), (o_a_due, .inl (cI, 6, .inl o_due)), (o_a_wind, .inl (cI, 6, .inl o_wind))] H := hP
  have hD : va_D A [(s_a, .inr (8, [.int o_tick, .int s_every, .int s_round, .int s_inside, .ref s_a_up, .ref s_a_due, .ref s_a_wind])), (s_a_up, .inl (cI, 6, .inl s_up)), (s_a_due, .inl (cI, 6, .inl s_due)), (s_a_wind, .inl (cI, 6, .inl s_wind)), (o_a, .inr (8, [.int o_tick, .int o_every, .int o_round, .int o_inside, .ref o_a_up, .ref o_a_due, .ref o_a_wind])), (o_a_up, .inl (cI, 6, .inl o_up)), (o_a_due, .inl (cI, 6, .inl o_due)), (o_a_wind, .inl (cI, 6, .inl o_wind))] := hD
  refine lv_aload_n hx hb dX8_become_8 rfl (lv_at hl 0 rfl) ?_
  refine lv_aload_n hx hb dX8_become_9 rfl (lv_at hl 1 rfl) ?_
  refine va_get (D := D) (ci := 8) (v := .int o_every) (C := RX8) (T := TX8) (N := 7) hx hb ht iyX8 hown hK hP 4 rfl rfl 1 (by decide) (ht _ wf_X8_30) (fun _ h9 => h9) rfl dX8_become_10 ?_
  refine va_put (D := D) (ci := 8) (v := .int o_every) (ty := .int) (C := RX8) (T := TX8) (N := 7) hx hb ht iyX8 tyX8 tyX8_ok nmX8 hown hK hP hD hS 0 rfl rfl 1 (by decide) (ht _ wf_X8_30) (fun _ h9 => h9) rfl (by decide +kernel) rfl rfl (Nat.le_of_ble_eq_true rfl) dX8_become_13 (fun H locs hP hD hS => ?_)
  have hP : va_P D classes [(s_a, .inr (8, [.int o_tick, .int o_every, .int s_round, .int s_inside, .ref s_a_up, .ref s_a_due, .ref s_a_wind])), (s_a_up, .inl (cI, 6, .inl s_up)), (s_a_due, .inl (cI, 6, .inl s_due)), (s_a_wind, .inl (cI, 6, .inl s_wind)), (o_a, .inr (8, [.int o_tick, .int o_every, .int o_round, .int o_inside, .ref o_a_up, .ref o_a_due, .ref o_a_wind])), (o_a_up, .inl (cI, 6, .inl o_up)), (o_a_due, .inl (cI, 6, .inl o_due)), (o_a_wind, .inl (cI, 6, .inl o_wind))] H := hP
  have hD : va_D A [(s_a, .inr (8, [.int o_tick, .int o_every, .int s_round, .int s_inside, .ref s_a_up, .ref s_a_due, .ref s_a_wind])), (s_a_up, .inl (cI, 6, .inl s_up)), (s_a_due, .inl (cI, 6, .inl s_due)), (s_a_wind, .inl (cI, 6, .inl s_wind)), (o_a, .inr (8, [.int o_tick, .int o_every, .int o_round, .int o_inside, .ref o_a_up, .ref o_a_due, .ref o_a_wind])), (o_a_up, .inl (cI, 6, .inl o_up)), (o_a_due, .inl (cI, 6, .inl o_due)), (o_a_wind, .inl (cI, 6, .inl o_wind))] := hD
  refine lv_aload_n hx hb dX8_become_16 rfl (lv_at hl 0 rfl) ?_
  refine lv_aload_n hx hb dX8_become_17 rfl (lv_at hl 1 rfl) ?_
  refine va_get (D := D) (ci := 8) (v := .int o_round) (C := RX8) (T := TX8) (N := 7) hx hb ht iyX8 hown hK hP 4 rfl rfl 2 (by decide) (ht _ wf_X8_31) (fun _ h9 => h9) rfl dX8_become_18 ?_
  refine va_put (D := D) (ci := 8) (v := .int o_round) (ty := .int) (C := RX8) (T := TX8) (N := 7) hx hb ht iyX8 tyX8 tyX8_ok nmX8 hown hK hP hD hS 0 rfl rfl 2 (by decide) (ht _ wf_X8_31) (fun _ h9 => h9) rfl (by decide +kernel) rfl rfl (Nat.le_of_ble_eq_true rfl) dX8_become_21 (fun H locs hP hD hS => ?_)
  have hP : va_P D classes [(s_a, .inr (8, [.int o_tick, .int o_every, .int o_round, .int s_inside, .ref s_a_up, .ref s_a_due, .ref s_a_wind])), (s_a_up, .inl (cI, 6, .inl s_up)), (s_a_due, .inl (cI, 6, .inl s_due)), (s_a_wind, .inl (cI, 6, .inl s_wind)), (o_a, .inr (8, [.int o_tick, .int o_every, .int o_round, .int o_inside, .ref o_a_up, .ref o_a_due, .ref o_a_wind])), (o_a_up, .inl (cI, 6, .inl o_up)), (o_a_due, .inl (cI, 6, .inl o_due)), (o_a_wind, .inl (cI, 6, .inl o_wind))] H := hP
  have hD : va_D A [(s_a, .inr (8, [.int o_tick, .int o_every, .int o_round, .int s_inside, .ref s_a_up, .ref s_a_due, .ref s_a_wind])), (s_a_up, .inl (cI, 6, .inl s_up)), (s_a_due, .inl (cI, 6, .inl s_due)), (s_a_wind, .inl (cI, 6, .inl s_wind)), (o_a, .inr (8, [.int o_tick, .int o_every, .int o_round, .int o_inside, .ref o_a_up, .ref o_a_due, .ref o_a_wind])), (o_a_up, .inl (cI, 6, .inl o_up)), (o_a_due, .inl (cI, 6, .inl o_due)), (o_a_wind, .inl (cI, 6, .inl o_wind))] := hD
  refine lv_aload_n hx hb dX8_become_24 rfl (lv_at hl 0 rfl) ?_
  refine lv_aload_n hx hb dX8_become_25 rfl (lv_at hl 1 rfl) ?_
  refine va_get (D := D) (ci := 8) (v := .int o_inside) (C := RX8) (T := TX8) (N := 7) hx hb ht iyX8 hown hK hP 4 rfl rfl 3 (by decide) (ht _ wf_X8_37) (fun _ h9 => h9) rfl dX8_become_26 ?_
  refine va_put (D := D) (ci := 8) (v := .int o_inside) (ty := .int) (C := RX8) (T := TX8) (N := 7) hx hb ht iyX8 tyX8 tyX8_ok nmX8 hown hK hP hD hS 0 rfl rfl 3 (by decide) (ht _ wf_X8_37) (fun _ h9 => h9) rfl (by decide +kernel) rfl rfl (Nat.le_of_ble_eq_true rfl) dX8_become_29 (fun H locs hP hD hS => ?_)
  have hP : va_P D classes [(s_a, .inr (8, [.int o_tick, .int o_every, .int o_round, .int o_inside, .ref s_a_up, .ref s_a_due, .ref s_a_wind])), (s_a_up, .inl (cI, 6, .inl s_up)), (s_a_due, .inl (cI, 6, .inl s_due)), (s_a_wind, .inl (cI, 6, .inl s_wind)), (o_a, .inr (8, [.int o_tick, .int o_every, .int o_round, .int o_inside, .ref o_a_up, .ref o_a_due, .ref o_a_wind])), (o_a_up, .inl (cI, 6, .inl o_up)), (o_a_due, .inl (cI, 6, .inl o_due)), (o_a_wind, .inl (cI, 6, .inl o_wind))] H := hP
  have hD : va_D A [(s_a, .inr (8, [.int o_tick, .int o_every, .int o_round, .int o_inside, .ref s_a_up, .ref s_a_due, .ref s_a_wind])), (s_a_up, .inl (cI, 6, .inl s_up)), (s_a_due, .inl (cI, 6, .inl s_due)), (s_a_wind, .inl (cI, 6, .inl s_wind)), (o_a, .inr (8, [.int o_tick, .int o_every, .int o_round, .int o_inside, .ref o_a_up, .ref o_a_due, .ref o_a_wind])), (o_a_up, .inl (cI, 6, .inl o_up)), (o_a_due, .inl (cI, 6, .inl o_due)), (o_a_wind, .inl (cI, 6, .inl o_wind))] := hD
  refine lv_aload_n hx hb dX8_become_32 rfl (lv_at hl 1 rfl) ?_
  refine va_get (D := D) (ci := 8) (v := .ref o_a_up) (C := RX8) (T := TX8) (N := 7) hx hb ht iyX8 hown hK hP 4 rfl rfl 4 (by decide) (ht _ wf_X8_9) (fun _ h9 => h9) rfl dX8_become_33 ?_
  refine lv_iconst (v := 0) hx hb dX8_become_36 (by decide) ?_
  refine lv_aload_n hx hb dX8_become_37 rfl (lv_at hl 0 rfl) ?_
  refine va_get (D := D) (ci := 8) (v := .ref s_a_up) (C := RX8) (T := TX8) (N := 7) hx hb ht iyX8 hown hK hP 0 rfl rfl 4 (by decide) (ht _ wf_X8_9) (fun _ h9 => h9) rfl dX8_become_38 ?_
  refine lv_iconst (v := 0) hx hb dX8_become_41 (by decide) ?_
  refine lv_bipush (v := 6) hx hb dX8_become_42 (by decide) ?_
  refine va_copyi (ty := .int) (sp := 0) (dp := 0) (n := 6) hx hb (hml.trans hl.1.symm) hown (ht _ wm_X8_44) (ht _ wt_java_lang_Systemarraycopy) (ht _ ws_java_lang_Systemarraycopy) (ht _ wi_J10) hK hP hD hS 5 1 0 0 rfl rfl rfl rfl rfl (by decide) (by decide) (by decide) (by decide) (by decide) (fun _ _ => rfl) (Nat.le_of_ble_eq_true rfl) (Nat.le_of_ble_eq_true rfl) dX8_become_44 (fun H locs hP hD hS => ?_)
  have hP : va_P D classes [(s_a, .inr (8, [.int o_tick, .int o_every, .int o_round, .int o_inside, .ref s_a_up, .ref s_a_due, .ref s_a_wind])), (s_a_up, .inl (cI, 6, .inl (va_cpy o_up s_up (0 : Int32).toNatClampNeg (0 : Int32).toNatClampNeg (6 : Int32).toNatClampNeg))), (s_a_due, .inl (cI, 6, .inl s_due)), (s_a_wind, .inl (cI, 6, .inl s_wind)), (o_a, .inr (8, [.int o_tick, .int o_every, .int o_round, .int o_inside, .ref o_a_up, .ref o_a_due, .ref o_a_wind])), (o_a_up, .inl (cI, 6, .inl o_up)), (o_a_due, .inl (cI, 6, .inl o_due)), (o_a_wind, .inl (cI, 6, .inl o_wind))] H := hP
  have hD : va_D A [(s_a, .inr (8, [.int o_tick, .int o_every, .int o_round, .int o_inside, .ref s_a_up, .ref s_a_due, .ref s_a_wind])), (s_a_up, .inl (cI, 6, .inl (va_cpy o_up s_up (0 : Int32).toNatClampNeg (0 : Int32).toNatClampNeg (6 : Int32).toNatClampNeg))), (s_a_due, .inl (cI, 6, .inl s_due)), (s_a_wind, .inl (cI, 6, .inl s_wind)), (o_a, .inr (8, [.int o_tick, .int o_every, .int o_round, .int o_inside, .ref o_a_up, .ref o_a_due, .ref o_a_wind])), (o_a_up, .inl (cI, 6, .inl o_up)), (o_a_due, .inl (cI, 6, .inl o_due)), (o_a_wind, .inl (cI, 6, .inl o_wind))] := hD
  refine lv_aload_n hx hb dX8_become_47 rfl (lv_at hl 1 rfl) ?_
  refine va_get (D := D) (ci := 8) (v := .ref o_a_due) (C := RX8) (T := TX8) (N := 7) hx hb ht iyX8 hown hK hP 4 rfl rfl 5 (by decide) (ht _ wf_X8_15) (fun _ h9 => h9) rfl dX8_become_48 ?_
  refine lv_iconst (v := 0) hx hb dX8_become_51 (by decide) ?_
  refine lv_aload_n hx hb dX8_become_52 rfl (lv_at hl 0 rfl) ?_
  refine va_get (D := D) (ci := 8) (v := .ref s_a_due) (C := RX8) (T := TX8) (N := 7) hx hb ht iyX8 hown hK hP 0 rfl rfl 5 (by decide) (ht _ wf_X8_15) (fun _ h9 => h9) rfl dX8_become_53 ?_
  refine lv_iconst (v := 0) hx hb dX8_become_56 (by decide) ?_
  refine lv_bipush (v := 6) hx hb dX8_become_57 (by decide) ?_
  refine va_copyi (ty := .int) (sp := 0) (dp := 0) (n := 6) hx hb (hml.trans hl.1.symm) hown (ht _ wm_X8_44) (ht _ wt_java_lang_Systemarraycopy) (ht _ ws_java_lang_Systemarraycopy) (ht _ wi_J10) hK hP hD hS 6 2 0 0 rfl rfl rfl rfl rfl (by decide) (by decide) (by decide) (by decide) (by decide) (fun _ _ => rfl) (Nat.le_of_ble_eq_true rfl) (Nat.le_of_ble_eq_true rfl) dX8_become_59 (fun H locs hP hD hS => ?_)
  have hP : va_P D classes [(s_a, .inr (8, [.int o_tick, .int o_every, .int o_round, .int o_inside, .ref s_a_up, .ref s_a_due, .ref s_a_wind])), (s_a_up, .inl (cI, 6, .inl (va_cpy o_up s_up (0 : Int32).toNatClampNeg (0 : Int32).toNatClampNeg (6 : Int32).toNatClampNeg))), (s_a_due, .inl (cI, 6, .inl (va_cpy o_due s_due (0 : Int32).toNatClampNeg (0 : Int32).toNatClampNeg (6 : Int32).toNatClampNeg))), (s_a_wind, .inl (cI, 6, .inl s_wind)), (o_a, .inr (8, [.int o_tick, .int o_every, .int o_round, .int o_inside, .ref o_a_up, .ref o_a_due, .ref o_a_wind])), (o_a_up, .inl (cI, 6, .inl o_up)), (o_a_due, .inl (cI, 6, .inl o_due)), (o_a_wind, .inl (cI, 6, .inl o_wind))] H := hP
  have hD : va_D A [(s_a, .inr (8, [.int o_tick, .int o_every, .int o_round, .int o_inside, .ref s_a_up, .ref s_a_due, .ref s_a_wind])), (s_a_up, .inl (cI, 6, .inl (va_cpy o_up s_up (0 : Int32).toNatClampNeg (0 : Int32).toNatClampNeg (6 : Int32).toNatClampNeg))), (s_a_due, .inl (cI, 6, .inl (va_cpy o_due s_due (0 : Int32).toNatClampNeg (0 : Int32).toNatClampNeg (6 : Int32).toNatClampNeg))), (s_a_wind, .inl (cI, 6, .inl s_wind)), (o_a, .inr (8, [.int o_tick, .int o_every, .int o_round, .int o_inside, .ref o_a_up, .ref o_a_due, .ref o_a_wind])), (o_a_up, .inl (cI, 6, .inl o_up)), (o_a_due, .inl (cI, 6, .inl o_due)), (o_a_wind, .inl (cI, 6, .inl o_wind))] := hD
  refine lv_aload_n hx hb dX8_become_62 rfl (lv_at hl 1 rfl) ?_
  refine va_get (D := D) (ci := 8) (v := .ref o_a_wind) (C := RX8) (T := TX8) (N := 7) hx hb ht iyX8 hown hK hP 4 rfl rfl 6 (by decide) (ht _ wf_X8_18) (fun _ h9 => h9) rfl dX8_become_63 ?_
  refine lv_iconst (v := 0) hx hb dX8_become_66 (by decide) ?_
  refine lv_aload_n hx hb dX8_become_67 rfl (lv_at hl 0 rfl) ?_
  refine va_get (D := D) (ci := 8) (v := .ref s_a_wind) (C := RX8) (T := TX8) (N := 7) hx hb ht iyX8 hown hK hP 0 rfl rfl 6 (by decide) (ht _ wf_X8_18) (fun _ h9 => h9) rfl dX8_become_68 ?_
  refine lv_iconst (v := 0) hx hb dX8_become_71 (by decide) ?_
  refine lv_bipush (v := 6) hx hb dX8_become_72 (by decide) ?_
  refine va_copyi (ty := .int) (sp := 0) (dp := 0) (n := 6) hx hb (hml.trans hl.1.symm) hown (ht _ wm_X8_44) (ht _ wt_java_lang_Systemarraycopy) (ht _ ws_java_lang_Systemarraycopy) (ht _ wi_J10) hK hP hD hS 7 3 0 0 rfl rfl rfl rfl rfl (by decide) (by decide) (by decide) (by decide) (by decide) (fun _ _ => rfl) (Nat.le_of_ble_eq_true rfl) (Nat.le_of_ble_eq_true rfl) dX8_become_74 (fun H locs hP hD hS => ?_)
  have hP : va_P D classes [(s_a, .inr (8, [.int o_tick, .int o_every, .int o_round, .int o_inside, .ref s_a_up, .ref s_a_due, .ref s_a_wind])), (s_a_up, .inl (cI, 6, .inl (va_cpy o_up s_up (0 : Int32).toNatClampNeg (0 : Int32).toNatClampNeg (6 : Int32).toNatClampNeg))), (s_a_due, .inl (cI, 6, .inl (va_cpy o_due s_due (0 : Int32).toNatClampNeg (0 : Int32).toNatClampNeg (6 : Int32).toNatClampNeg))), (s_a_wind, .inl (cI, 6, .inl (va_cpy o_wind s_wind (0 : Int32).toNatClampNeg (0 : Int32).toNatClampNeg (6 : Int32).toNatClampNeg))), (o_a, .inr (8, [.int o_tick, .int o_every, .int o_round, .int o_inside, .ref o_a_up, .ref o_a_due, .ref o_a_wind])), (o_a_up, .inl (cI, 6, .inl o_up)), (o_a_due, .inl (cI, 6, .inl o_due)), (o_a_wind, .inl (cI, 6, .inl o_wind))] H := hP
  have hD : va_D A [(s_a, .inr (8, [.int o_tick, .int o_every, .int o_round, .int o_inside, .ref s_a_up, .ref s_a_due, .ref s_a_wind])), (s_a_up, .inl (cI, 6, .inl (va_cpy o_up s_up (0 : Int32).toNatClampNeg (0 : Int32).toNatClampNeg (6 : Int32).toNatClampNeg))), (s_a_due, .inl (cI, 6, .inl (va_cpy o_due s_due (0 : Int32).toNatClampNeg (0 : Int32).toNatClampNeg (6 : Int32).toNatClampNeg))), (s_a_wind, .inl (cI, 6, .inl (va_cpy o_wind s_wind (0 : Int32).toNatClampNeg (0 : Int32).toNatClampNeg (6 : Int32).toNatClampNeg))), (o_a, .inr (8, [.int o_tick, .int o_every, .int o_round, .int o_inside, .ref o_a_up, .ref o_a_due, .ref o_a_wind])), (o_a_up, .inl (cI, 6, .inl o_up)), (o_a_due, .inl (cI, 6, .inl o_due)), (o_a_wind, .inl (cI, 6, .inl o_wind))] := hD
  obtain ⟨e_0, e_1, e_2, e_3, e_4, e_5, e_6⟩ := zo7 hF
  subst e_0
  subst e_1
  subst e_2
  subst e_3
  subst e_4
  subst e_5
  subst e_6
  exact zret_v S hr hlocks hK hP hD hS dX8_become_77

def F_X8_holds (s_inside : Int32) (p1 : Int32) : Option (Int32) :=
  (if (s_inside &&& ((1 : Int32) <<< (p1 &&& 31))) = 0 then some (0) else some (1))
set_option maxHeartbeats 4000000 in
set_option maxRecDepth 100000 in
theorem c_X8_holds (l : Launch) (D : va_G) (cI cZ cS cJ : ClassId) (s_a : Nat) (s_a_up : Nat) (s_a_due : Nat) (s_a_wind : Nat) (s_tick : Int32) (s_every : Int32) (s_round : Int32) (s_inside : Int32) (p1 : Int32) {r_o : Int32} (hF : F_X8_holds s_inside p1 = some (r_o)) : zMi l yX8_holds (zwl yX8_holds cX8_holds 2 (some .boolean)) { frames := 0, cells := 0, slots := 0, locals := 0 } D (TYS cI cZ cS cJ) [.ref s_a, .int p1] [(s_a, .inr (8, [.int s_tick, .int s_every, .int s_round, .int s_inside, .ref s_a_up, .ref s_a_due, .ref s_a_wind]))] [(s_a, .inr (8, [.int s_tick, .int s_every, .int s_round, .int s_inside, .ref s_a_up, .ref s_a_due, .ref s_a_wind]))] r_o := by
  refine zent_i (own := RX8) (by decide) rfl (Nat.le_of_ble_eq_true rfl) ?_
  intro p e s m below meth c A ls S hr hlocks hK hP hD hA hl
  have hx := S.1
  have hb := S.2.1
  have hml := S.2.2.1
  have hown := S.2.2.2.1
  have hT : ∀ w ∈ zt, w ∈ zwl yX8_holds cX8_holds 2 (some .boolean) := fun _ h => List.mem_cons_of_mem _ h
  have ht : ∀ w ∈ zt, w.before [.ref s_a, .int p1].toArray s = true := fun w h => S.2.2.2.2 w (hT w h)
  have hl : lv_has ls 2 [(0, .ref s_a), (1, .int p1)] := hl
  have hS : va_S A s.heap s.heap [] := va_S.rf
  unfold F_X8_holds at hF
  refine lv_aload_n hx hb dX8_holds_0 rfl (lv_at hl 0 rfl) ?_
  refine va_get (D := D) (ci := 8) (v := .int s_inside) (C := RX8) (T := TX8) (N := 7) hx hb ht iyX8 hown hK hP 0 rfl rfl 3 (by decide) (ht _ wf_X8_37) (fun _ h9 => h9) rfl dX8_holds_1 ?_
  refine lv_iconst (v := 1) hx hb dX8_holds_4 (by decide) ?_
  refine lv_iload_n hx hb dX8_holds_5 rfl (lv_at hl 1 rfl) ?_
  refine lv_ishl hx hb dX8_holds_6 ?_
  refine lv_iand hx hb dX8_holds_7 ?_
  refine lv_if_eq (tgt := 15) hx hb dX8_holds_8 (by decide) (fun c_1 => ?_) (fun c_1 => ?_)
  · have hF := zi_pos c_1 hF
    refine lv_iconst (v := 0) hx hb dX8_holds_15 (by decide) ?_
    have e_0 := zo1 hF
    subst e_0
    exact zret_z (by decide) S hr hlocks hK hP hD hS dX8_holds_16
  · have hF := zi_neg c_1 hF
    refine lv_iconst (v := 1) hx hb dX8_holds_11 (by decide) ?_
    refine lv_goto (tgt := 16) hx hb dX8_holds_12 (by decide) ?_
    have e_0 := zo1 hF
    subst e_0
    exact zret_z (by decide) S hr hlocks hK hP hD hS dX8_holds_16

theorem lk_X8_61 : zLk RX8 61 yX8_holds cX8_holds 2 (some .boolean) 1 := ⟨⟨wm_X8_61, wo_X8_holds, we_X8_X8_holds, wi_X8, wd_X8_holds⟩, by decide, by decide, by decide +kernel⟩
def L_X8_jumpAll_2 (s_inside : Int32) (c_size : Int32) (c_period : Nat → Int32) (c_hang : Nat → Int32) : Nat → (Nat → Int32) → (Nat → Int32) → (Nat → Int32) → Int32 → Option ((Nat → Int32) × (Nat → Int32) × (Nat → Int32) × Int32)
  | 0 => fun _ _ _ _ => none
  | n + 1 => fun s_up s_due s_wind v2 => (if c_size ≤ v2 then some (s_up, s_due, s_wind, v2) else (zb1 (F_X8_holds s_inside v2) (fun r_9 => (if r_9 = 0 then (L_X8_jumpAll_2 s_inside c_size c_period c_hang n s_up s_due s_wind (v2 + 1)) else (if (v2 < 0 ∨ 6 ≤ v2.toNatClampNeg) then none else (if 0 < (s_due v2.toNatClampNeg) then (L_X8_jumpAll_2 s_inside c_size c_period c_hang n s_up s_due s_wind (v2 + 1)) else (if (s_wind v2.toNatClampNeg) ≤ 0 then (L_X8_jumpAll_2 s_inside c_size c_period c_hang n s_up (upd s_due v2.toNatClampNeg (c_period v2.toNatClampNeg)) s_wind (v2 + 1)) else (L_X8_jumpAll_2 s_inside c_size c_period c_hang n (upd s_up v2.toNatClampNeg (c_hang v2.toNatClampNeg)) (upd s_due v2.toNatClampNeg (c_period v2.toNatClampNeg)) (upd s_wind v2.toNatClampNeg ((s_wind v2.toNatClampNeg) - 1)) (v2 + 1)))))))))
theorem L_X8_jumpAll_2_z (s_inside : Int32) (c_size : Int32) (c_period : Nat → Int32) (c_hang : Nat → Int32) (s_up : Nat → Int32) (s_due : Nat → Int32) (s_wind : Nat → Int32) (v2 : Int32) : L_X8_jumpAll_2 s_inside c_size c_period c_hang 0 s_up s_due s_wind v2 = none := rfl
theorem L_X8_jumpAll_2_s (s_inside : Int32) (c_size : Int32) (c_period : Nat → Int32) (c_hang : Nat → Int32) (n : Nat) (s_up : Nat → Int32) (s_due : Nat → Int32) (s_wind : Nat → Int32) (v2 : Int32) : L_X8_jumpAll_2 s_inside c_size c_period c_hang (n + 1) s_up s_due s_wind v2 = (if c_size ≤ v2 then some (s_up, s_due, s_wind, v2) else (zb1 (F_X8_holds s_inside v2) (fun r_9 => (if r_9 = 0 then (L_X8_jumpAll_2 s_inside c_size c_period c_hang n s_up s_due s_wind (v2 + 1)) else (if (v2 < 0 ∨ 6 ≤ v2.toNatClampNeg) then none else (if 0 < (s_due v2.toNatClampNeg) then (L_X8_jumpAll_2 s_inside c_size c_period c_hang n s_up s_due s_wind (v2 + 1)) else (if (s_wind v2.toNatClampNeg) ≤ 0 then (L_X8_jumpAll_2 s_inside c_size c_period c_hang n s_up (upd s_due v2.toNatClampNeg (c_period v2.toNatClampNeg)) s_wind (v2 + 1)) else (L_X8_jumpAll_2 s_inside c_size c_period c_hang n (upd s_up v2.toNatClampNeg (c_hang v2.toNatClampNeg)) (upd s_due v2.toNatClampNeg (c_period v2.toNatClampNeg)) (upd s_wind v2.toNatClampNeg ((s_wind v2.toNatClampNeg) - 1)) (v2 + 1))))))))) := rfl
def F_X8_jumpAll (s_inside : Int32) (s_up : Nat → Int32) (s_due : Nat → Int32) (s_wind : Nat → Int32) (c_size : Int32) (c_period : Nat → Int32) (c_hang : Nat → Int32) : Option ((Nat → Int32) × (Nat → Int32) × (Nat → Int32)) :=
  (zb4 (L_X8_jumpAll_2 s_inside c_size c_period c_hang 300 s_up s_due s_wind 0) (fun s_up_15 s_due_16 s_wind_17 v2_18 => some (s_up_15, s_due_16, s_wind_17)))
set_option maxHeartbeats 4000000 in
set_option maxRecDepth 100000 in
theorem c_X8_jumpAll (l : Launch) (D : va_G) (cI cZ cS cJ : ClassId) (s_a : Nat) (s_a_up : Nat) (s_a_due : Nat) (s_a_wind : Nat) (c_a : Nat) (c_a_period : Nat) (c_a_hang : Nat) (c_a_start : Nat) (c_a_wind : Nat) (s_tick : Int32) (s_every : Int32) (s_round : Int32) (s_inside : Int32) (s_up : Nat → Int32) (s_due : Nat → Int32) (s_wind : Nat → Int32) (c_every : Int32) (c_size : Int32) (c_period : Nat → Int32) (c_hang : Nat → Int32) {s_up_o : Nat → Int32} {s_due_o : Nat → Int32} {s_wind_o : Nat → Int32} (hF : F_X8_jumpAll s_inside s_up s_due s_wind c_size c_period c_hang = some (s_up_o, s_due_o, s_wind_o)) : zMv l yX8_jumpAll (zwl yX8_jumpAll cX8_jumpAll 3 none) { frames := 1, cells := 0, slots := 0, locals := 21 } D (TYS cI cZ cS cJ) [.ref s_a, .ref c_a] [(s_a, .inr (8, [.int s_tick, .int s_every, .int s_round, .int s_inside, .ref s_a_up, .ref s_a_due, .ref s_a_wind])), (s_a_up, .inl (cI, 6, .inl s_up)), (s_a_due, .inl (cI, 6, .inl s_due)), (s_a_wind, .inl (cI, 6, .inl s_wind)), (c_a, .inr (1, [.int c_every, .int c_size, .ref c_a_period, .ref c_a_hang, .ref c_a_start, .ref c_a_wind])), (c_a_period, .inl (cI, 6, .inl c_period)), (c_a_hang, .inl (cI, 6, .inl c_hang))] [(s_a, .inr (8, [.int s_tick, .int s_every, .int s_round, .int s_inside, .ref s_a_up, .ref s_a_due, .ref s_a_wind])), (s_a_up, .inl (cI, 6, .inl s_up_o)), (s_a_due, .inl (cI, 6, .inl s_due_o)), (s_a_wind, .inl (cI, 6, .inl s_wind_o)), (c_a, .inr (1, [.int c_every, .int c_size, .ref c_a_period, .ref c_a_hang, .ref c_a_start, .ref c_a_wind])), (c_a_period, .inl (cI, 6, .inl c_period)), (c_a_hang, .inl (cI, 6, .inl c_hang))] := by
  refine zent_v (own := RX8) (by decide) rfl (Nat.le_of_ble_eq_true rfl) ?_
  intro p e s m below meth c A ls S hr hlocks hK hP hD hA hl
  have hx := S.1
  have hb := S.2.1
  have hml := S.2.2.1
  have hown := S.2.2.2.1
  have hT : ∀ w ∈ zt, w ∈ zwl yX8_jumpAll cX8_jumpAll 3 none := fun _ h => List.mem_cons_of_mem _ h
  have ht : ∀ w ∈ zt, w.before [.ref s_a, .ref c_a].toArray s = true := fun w h => S.2.2.2.2 w (hT w h)
  have hl : lv_has ls 3 [(0, .ref s_a), (1, .ref c_a)] := hl
  have hS : va_S A s.heap s.heap [] := va_S.rf
  unfold F_X8_jumpAll at hF
  have hloop_2 : ∀ (n : Nat) (s_tick : Int32) (s_every : Int32) (s_round : Int32) (s_inside : Int32) (s_up : Nat → Int32) (s_due : Nat → Int32) (s_wind : Nat → Int32) (c_every : Int32) (c_size : Int32) (c_period : Nat → Int32) (c_hang : Nat → Int32) (v2 : Int32) (s_up' : Nat → Int32) (s_due' : Nat → Int32) (s_wind' : Nat → Int32) (v2' : Int32), L_X8_jumpAll_2 s_inside c_size c_period c_hang n s_up s_due s_wind v2 = some (s_up', s_due', s_wind', v2') → ∀ (H : Heap) (locs : List Loc) (ls : Array Slot), va_P D classes [(s_a, .inr (8, [.int s_tick, .int s_every, .int s_round, .int s_inside, .ref s_a_up, .ref s_a_due, .ref s_a_wind])), (s_a_up, .inl (cI, 6, .inl s_up)), (s_a_due, .inl (cI, 6, .inl s_due)), (s_a_wind, .inl (cI, 6, .inl s_wind)), (c_a, .inr (1, [.int c_every, .int c_size, .ref c_a_period, .ref c_a_hang, .ref c_a_start, .ref c_a_wind])), (c_a_period, .inl (cI, 6, .inl c_period)), (c_a_hang, .inl (cI, 6, .inl c_hang))] H → va_D A [(s_a, .inr (8, [.int s_tick, .int s_every, .int s_round, .int s_inside, .ref s_a_up, .ref s_a_due, .ref s_a_wind])), (s_a_up, .inl (cI, 6, .inl s_up)), (s_a_due, .inl (cI, 6, .inl s_due)), (s_a_wind, .inl (cI, 6, .inl s_wind)), (c_a, .inr (1, [.int c_every, .int c_size, .ref c_a_period, .ref c_a_hang, .ref c_a_start, .ref c_a_wind])), (c_a_period, .inl (cI, 6, .inl c_period)), (c_a_hang, .inl (cI, 6, .inl c_hang))] → va_S A s.heap H locs → lv_has ls 3 [(0, .ref s_a), (1, .ref c_a), (2, .int v2)] → (∀ (H : Heap) (locs : List Loc) (ls : Array Slot), va_P D classes [(s_a, .inr (8, [.int s_tick, .int s_every, .int s_round, .int s_inside, .ref s_a_up, .ref s_a_due, .ref s_a_wind])), (s_a_up, .inl (cI, 6, .inl s_up')), (s_a_due, .inl (cI, 6, .inl s_due')), (s_a_wind, .inl (cI, 6, .inl s_wind')), (c_a, .inr (1, [.int c_every, .int c_size, .ref c_a_period, .ref c_a_hang, .ref c_a_start, .ref c_a_wind])), (c_a_period, .inl (cI, 6, .inl c_period)), (c_a_hang, .inl (cI, 6, .inl c_hang))] H → va_D A [(s_a, .inr (8, [.int s_tick, .int s_every, .int s_round, .int s_inside, .ref s_a_up, .ref s_a_due, .ref s_a_wind])), (s_a_up, .inl (cI, 6, .inl s_up')), (s_a_due, .inl (cI, 6, .inl s_due')), (s_a_wind, .inl (cI, 6, .inl s_wind')), (c_a, .inr (1, [.int c_every, .int c_size, .ref c_a_period, .ref c_a_hang, .ref c_a_start, .ref c_a_wind])), (c_a_period, .inl (cI, 6, .inl c_period)), (c_a_hang, .inl (cI, 6, .inl c_hang))] → va_S A s.heap H locs → lv_has ls 3 [(0, .ref s_a), (1, .ref c_a), (2, .int v2')] → W p l e { frames := 1, cells := 0, slots := 0, locals := 21 } s m [.ref s_a, .ref c_a].toArray below meth c H locs 0 0 (zFv below [.ref s_a, .ref c_a] s A D (TYS cI cZ cS cJ) [(s_a, .inr (8, [.int s_tick, .int s_every, .int s_round, .int s_inside, .ref s_a_up, .ref s_a_due, .ref s_a_wind])), (s_a_up, .inl (cI, 6, .inl s_up_o)), (s_a_due, .inl (cI, 6, .inl s_due_o)), (s_a_wind, .inl (cI, 6, .inl s_wind_o)), (c_a, .inr (1, [.int c_every, .int c_size, .ref c_a_period, .ref c_a_hang, .ref c_a_start, .ref c_a_wind])), (c_a_period, .inl (cI, 6, .inl c_period)), (c_a_hang, .inl (cI, 6, .inl c_hang))]) (F0 m 76 ls [])) → W p l e { frames := 1, cells := 0, slots := 0, locals := 21 } s m [.ref s_a, .ref c_a].toArray below meth c H locs 0 0 (zFv below [.ref s_a, .ref c_a] s A D (TYS cI cZ cS cJ) [(s_a, .inr (8, [.int s_tick, .int s_every, .int s_round, .int s_inside, .ref s_a_up, .ref s_a_due, .ref s_a_wind])), (s_a_up, .inl (cI, 6, .inl s_up_o)), (s_a_due, .inl (cI, 6, .inl s_due_o)), (s_a_wind, .inl (cI, 6, .inl s_wind_o)), (c_a, .inr (1, [.int c_every, .int c_size, .ref c_a_period, .ref c_a_hang, .ref c_a_start, .ref c_a_wind])), (c_a_period, .inl (cI, 6, .inl c_period)), (c_a_hang, .inl (cI, 6, .inl c_hang))]) (F0 m 2 ls []) := by
    intro n
    induction n with
    | zero =>
      intro s_tick s_every s_round s_inside s_up s_due s_wind c_every c_size c_period c_hang v2 s_up' s_due' s_wind' v2' hF
      rw [L_X8_jumpAll_2_z] at hF
      cases hF
    | succ n ih_2 =>
      intro s_tick s_every s_round s_inside s_up s_due s_wind c_every c_size c_period c_hang v2 s_up' s_due' s_wind' v2' hF H locs ls hP hD hS hl hexit_2
      rw [L_X8_jumpAll_2_s] at hF
      refine lv_iload_n hx hb dX8_jumpAll_2 rfl (lv_at hl 2 rfl) ?_
      refine lv_aload_n hx hb dX8_jumpAll_3 rfl (lv_at hl 1 rfl) ?_
      refine va_get (D := D) (ci := 1) (v := .int c_size) (C := RX1) (T := TX1) (N := 6) hx hb ht iyX1 hown hK hP 4 rfl rfl 1 (by decide) (ht _ wf_X8_34) (fun _ h9 => h9) rfl dX8_jumpAll_4 ?_
      refine lv_icmp_ge (tgt := 76) hx hb dX8_jumpAll_7 (by decide) (fun c_8 => ?_) (fun c_8 => ?_)
      · have hF := zi_pos c_8 hF
        obtain ⟨e_0, e_1, e_2, e_3⟩ := zo4 hF
        subst e_0
        subst e_1
        subst e_2
        subst e_3
        exact hexit_2 _ _ _ hP hD hS (lv_sub hl [0, 1, 2] rfl)
      · have hF := zi_neg c_8 hF
        refine lv_aload_n hx hb dX8_jumpAll_10 rfl (lv_at hl 0 rfl) ?_
        refine lv_iload_n hx hb dX8_jumpAll_11 rfl (lv_at hl 2 rfl) ?_
        obtain ⟨r_9, hc_10, hF⟩ := zb1_s hF
        refine zcv_i (ws1 := [(s_a, .inr (8, [.int s_tick, .int s_every, .int s_round, .int s_inside, .ref s_a_up, .ref s_a_due, .ref s_a_wind])), (s_a_up, .inl (cI, 6, .inl s_up)), (s_a_due, .inl (cI, 6, .inl s_due)), (s_a_wind, .inl (cI, 6, .inl s_wind)), (c_a, .inr (1, [.int c_every, .int c_size, .ref c_a_period, .ref c_a_hang, .ref c_a_start, .ref c_a_wind])), (c_a_period, .inl (cI, 6, .inl c_period)), (c_a_hang, .inl (cI, 6, .inl c_hang))]) S hT lk_X8_61 (c_X8_holds l D cI cZ cS cJ s_a s_a_up s_a_due s_a_wind s_tick s_every s_round s_inside v2 hc_10) ⟨rfl, rfl, Nat.le_of_ble_eq_true rfl, Nat.le_of_ble_eq_true rfl⟩ hK hP hD hS hA [0] [1, 2, 3, 4, 5, 6] [6, 0, 1, 2, 3, 4, 5] rfl rfl rfl rfl rfl rfl rfl rfl rfl rfl rfl hl.1 rfl (Nat.le_of_ble_eq_true rfl) dX8_jumpAll_12 ⟨Nat.zero_le _, Nat.zero_le _⟩ (fun H locs hP hD hS => ?_)
        refine lv_if_eq (tgt := 70) hx hb dX8_jumpAll_15 (by decide) (fun c_11 => ?_) (fun c_11 => ?_)
        · have hF := zi_pos c_11 hF
          refine lv_iinc (v := v2 + 1) (lv' := [(2, .int (v2 + 1)), (0, .ref s_a), (1, .ref c_a)]) hx hb dX8_jumpAll_70 hl (k := 2) rfl (by rfl) (by decide) rfl (fun ls hl => ?_)
          refine lv_goto (tgt := 2) hx hb dX8_jumpAll_73 (by decide) ?_
          exact ih_2 s_tick s_every s_round s_inside s_up s_due s_wind c_every c_size c_period c_hang (v2 + 1) _ _ _ _ hF _ _ _ hP hD hS (lv_sub hl [1, 2, 0] rfl) hexit_2
        · have hF := zi_neg c_11 hF
          refine lv_aload_n hx hb dX8_jumpAll_18 rfl (lv_at hl 0 rfl) ?_
          refine va_get (D := D) (ci := 8) (v := .ref s_a_due) (C := RX8) (T := TX8) (N := 7) hx hb ht iyX8 hown hK hP 0 rfl rfl 5 (by decide) (ht _ wf_X8_15) (fun _ h9 => h9) rfl dX8_jumpAll_19 ?_
          refine lv_iload_n hx hb dX8_jumpAll_22 rfl (lv_at hl 2 rfl) ?_
          obtain ⟨h_12, hF⟩ := zi_chk hF
          refine va_iald hx hb hK hP 2 0 rfl rfl h_12 dX8_jumpAll_23 ?_
          refine lv_if_gt (tgt := 70) hx hb dX8_jumpAll_24 (by decide) (fun c_13 => ?_) (fun c_13 => ?_)
          · have hF := zi_pos c_13 hF
            refine lv_iinc (v := v2 + 1) (lv' := [(2, .int (v2 + 1)), (0, .ref s_a), (1, .ref c_a)]) hx hb dX8_jumpAll_70 hl (k := 2) rfl (by rfl) (by decide) rfl (fun ls hl => ?_)
            refine lv_goto (tgt := 2) hx hb dX8_jumpAll_73 (by decide) ?_
            exact ih_2 s_tick s_every s_round s_inside s_up s_due s_wind c_every c_size c_period c_hang (v2 + 1) _ _ _ _ hF _ _ _ hP hD hS (lv_sub hl [1, 2, 0] rfl) hexit_2
          · have hF := zi_neg c_13 hF
            refine lv_aload_n hx hb dX8_jumpAll_27 rfl (lv_at hl 0 rfl) ?_
            refine va_get (D := D) (ci := 8) (v := .ref s_a_due) (C := RX8) (T := TX8) (N := 7) hx hb ht iyX8 hown hK hP 0 rfl rfl 5 (by decide) (ht _ wf_X8_15) (fun _ h9 => h9) rfl dX8_jumpAll_28 ?_
            refine lv_iload_n hx hb dX8_jumpAll_31 rfl (lv_at hl 2 rfl) ?_
            refine lv_aload_n hx hb dX8_jumpAll_32 rfl (lv_at hl 1 rfl) ?_
            refine va_get (D := D) (ci := 1) (v := .ref c_a_period) (C := RX1) (T := TX1) (N := 6) hx hb ht iyX1 hown hK hP 4 rfl rfl 2 (by decide) (ht _ wf_X8_65) (fun _ h9 => h9) rfl dX8_jumpAll_33 ?_
            refine lv_iload_n hx hb dX8_jumpAll_36 rfl (lv_at hl 2 rfl) ?_
            refine va_iald hx hb hK hP 5 0 rfl rfl h_12 dX8_jumpAll_37 ?_
            refine va_iast hx hb hK hP hD hS 2 0 rfl rfl h_12 dX8_jumpAll_38 (fun H locs hP hD hS => ?_)
            have hP : va_P D classes [(s_a, .inr (8, [.int s_tick, .int s_every, .int s_round, .int s_inside, .ref s_a_up, .ref s_a_due, .ref s_a_wind])), (s_a_up, .inl (cI, 6, .inl s_up)), (s_a_due, .inl (cI, 6, .inl (upd s_due v2.toNatClampNeg (c_period v2.toNatClampNeg)))), (s_a_wind, .inl (cI, 6, .inl s_wind)), (c_a, .inr (1, [.int c_every, .int c_size, .ref c_a_period, .ref c_a_hang, .ref c_a_start, .ref c_a_wind])), (c_a_period, .inl (cI, 6, .inl c_period)), (c_a_hang, .inl (cI, 6, .inl c_hang))] H := hP
            have hD : va_D A [(s_a, .inr (8, [.int s_tick, .int s_every, .int s_round, .int s_inside, .ref s_a_up, .ref s_a_due, .ref s_a_wind])), (s_a_up, .inl (cI, 6, .inl s_up)), (s_a_due, .inl (cI, 6, .inl (upd s_due v2.toNatClampNeg (c_period v2.toNatClampNeg)))), (s_a_wind, .inl (cI, 6, .inl s_wind)), (c_a, .inr (1, [.int c_every, .int c_size, .ref c_a_period, .ref c_a_hang, .ref c_a_start, .ref c_a_wind])), (c_a_period, .inl (cI, 6, .inl c_period)), (c_a_hang, .inl (cI, 6, .inl c_hang))] := hD
            refine lv_aload_n hx hb dX8_jumpAll_39 rfl (lv_at hl 0 rfl) ?_
            refine va_get (D := D) (ci := 8) (v := .ref s_a_wind) (C := RX8) (T := TX8) (N := 7) hx hb ht iyX8 hown hK hP 0 rfl rfl 6 (by decide) (ht _ wf_X8_18) (fun _ h9 => h9) rfl dX8_jumpAll_40 ?_
            refine lv_iload_n hx hb dX8_jumpAll_43 rfl (lv_at hl 2 rfl) ?_
            refine va_iald hx hb hK hP 3 0 rfl rfl h_12 dX8_jumpAll_44 ?_
            refine lv_if_le (tgt := 70) hx hb dX8_jumpAll_45 (by decide) (fun c_14 => ?_) (fun c_14 => ?_)
            · have hF := zi_pos c_14 hF
              refine lv_iinc (v := v2 + 1) (lv' := [(2, .int (v2 + 1)), (0, .ref s_a), (1, .ref c_a)]) hx hb dX8_jumpAll_70 hl (k := 2) rfl (by rfl) (by decide) rfl (fun ls hl => ?_)
              refine lv_goto (tgt := 2) hx hb dX8_jumpAll_73 (by decide) ?_
              exact ih_2 s_tick s_every s_round s_inside s_up (upd s_due v2.toNatClampNeg (c_period v2.toNatClampNeg)) s_wind c_every c_size c_period c_hang (v2 + 1) _ _ _ _ hF _ _ _ hP hD hS (lv_sub hl [1, 2, 0] rfl) hexit_2
            · have hF := zi_neg c_14 hF
              refine lv_aload_n hx hb dX8_jumpAll_48 rfl (lv_at hl 0 rfl) ?_
              refine va_get (D := D) (ci := 8) (v := .ref s_a_wind) (C := RX8) (T := TX8) (N := 7) hx hb ht iyX8 hown hK hP 0 rfl rfl 6 (by decide) (ht _ wf_X8_18) (fun _ h9 => h9) rfl dX8_jumpAll_49 ?_
              refine lv_iload_n hx hb dX8_jumpAll_52 rfl (lv_at hl 2 rfl) ?_
              refine lv_dup2_11 hx hb dX8_jumpAll_53 rfl rfl ?_
              refine va_iald hx hb hK hP 3 0 rfl rfl h_12 dX8_jumpAll_54 ?_
              refine lv_iconst (v := 1) hx hb dX8_jumpAll_55 (by decide) ?_
              refine lv_isub hx hb dX8_jumpAll_56 ?_
              refine va_iast hx hb hK hP hD hS 3 0 rfl rfl h_12 dX8_jumpAll_57 (fun H locs hP hD hS => ?_)
              have hP : va_P D classes [(s_a, .inr (8, [.int s_tick, .int s_every, .int s_round, .int s_inside, .ref s_a_up, .ref s_a_due, .ref s_a_wind])), (s_a_up, .inl (cI, 6, .inl s_up)), (s_a_due, .inl (cI, 6, .inl (upd s_due v2.toNatClampNeg (c_period v2.toNatClampNeg)))), (s_a_wind, .inl (cI, 6, .inl (upd s_wind v2.toNatClampNeg ((s_wind v2.toNatClampNeg) - 1)))), (c_a, .inr (1, [.int c_every, .int c_size, .ref c_a_period, .ref c_a_hang, .ref c_a_start, .ref c_a_wind])), (c_a_period, .inl (cI, 6, .inl c_period)), (c_a_hang, .inl (cI, 6, .inl c_hang))] H := hP
              have hD : va_D A [(s_a, .inr (8, [.int s_tick, .int s_every, .int s_round, .int s_inside, .ref s_a_up, .ref s_a_due, .ref s_a_wind])), (s_a_up, .inl (cI, 6, .inl s_up)), (s_a_due, .inl (cI, 6, .inl (upd s_due v2.toNatClampNeg (c_period v2.toNatClampNeg)))), (s_a_wind, .inl (cI, 6, .inl (upd s_wind v2.toNatClampNeg ((s_wind v2.toNatClampNeg) - 1)))), (c_a, .inr (1, [.int c_every, .int c_size, .ref c_a_period, .ref c_a_hang, .ref c_a_start, .ref c_a_wind])), (c_a_period, .inl (cI, 6, .inl c_period)), (c_a_hang, .inl (cI, 6, .inl c_hang))] := hD
              refine lv_aload_n hx hb dX8_jumpAll_58 rfl (lv_at hl 0 rfl) ?_
              refine va_get (D := D) (ci := 8) (v := .ref s_a_up) (C := RX8) (T := TX8) (N := 7) hx hb ht iyX8 hown hK hP 0 rfl rfl 4 (by decide) (ht _ wf_X8_9) (fun _ h9 => h9) rfl dX8_jumpAll_59 ?_
              refine lv_iload_n hx hb dX8_jumpAll_62 rfl (lv_at hl 2 rfl) ?_
              refine lv_aload_n hx hb dX8_jumpAll_63 rfl (lv_at hl 1 rfl) ?_
              refine va_get (D := D) (ci := 1) (v := .ref c_a_hang) (C := RX1) (T := TX1) (N := 6) hx hb ht iyX1 hown hK hP 4 rfl rfl 3 (by decide) (ht _ wf_X8_68) (fun _ h9 => h9) rfl dX8_jumpAll_64 ?_
              refine lv_iload_n hx hb dX8_jumpAll_67 rfl (lv_at hl 2 rfl) ?_
              refine va_iald hx hb hK hP 6 0 rfl rfl h_12 dX8_jumpAll_68 ?_
              refine va_iast hx hb hK hP hD hS 1 0 rfl rfl h_12 dX8_jumpAll_69 (fun H locs hP hD hS => ?_)
              have hP : va_P D classes [(s_a, .inr (8, [.int s_tick, .int s_every, .int s_round, .int s_inside, .ref s_a_up, .ref s_a_due, .ref s_a_wind])), (s_a_up, .inl (cI, 6, .inl (upd s_up v2.toNatClampNeg (c_hang v2.toNatClampNeg)))), (s_a_due, .inl (cI, 6, .inl (upd s_due v2.toNatClampNeg (c_period v2.toNatClampNeg)))), (s_a_wind, .inl (cI, 6, .inl (upd s_wind v2.toNatClampNeg ((s_wind v2.toNatClampNeg) - 1)))), (c_a, .inr (1, [.int c_every, .int c_size, .ref c_a_period, .ref c_a_hang, .ref c_a_start, .ref c_a_wind])), (c_a_period, .inl (cI, 6, .inl c_period)), (c_a_hang, .inl (cI, 6, .inl c_hang))] H := hP
              have hD : va_D A [(s_a, .inr (8, [.int s_tick, .int s_every, .int s_round, .int s_inside, .ref s_a_up, .ref s_a_due, .ref s_a_wind])), (s_a_up, .inl (cI, 6, .inl (upd s_up v2.toNatClampNeg (c_hang v2.toNatClampNeg)))), (s_a_due, .inl (cI, 6, .inl (upd s_due v2.toNatClampNeg (c_period v2.toNatClampNeg)))), (s_a_wind, .inl (cI, 6, .inl (upd s_wind v2.toNatClampNeg ((s_wind v2.toNatClampNeg) - 1)))), (c_a, .inr (1, [.int c_every, .int c_size, .ref c_a_period, .ref c_a_hang, .ref c_a_start, .ref c_a_wind])), (c_a_period, .inl (cI, 6, .inl c_period)), (c_a_hang, .inl (cI, 6, .inl c_hang))] := hD
              refine lv_iinc (v := v2 + 1) (lv' := [(2, .int (v2 + 1)), (0, .ref s_a), (1, .ref c_a)]) hx hb dX8_jumpAll_70 hl (k := 2) rfl (by rfl) (by decide) rfl (fun ls hl => ?_)
              refine lv_goto (tgt := 2) hx hb dX8_jumpAll_73 (by decide) ?_
              exact ih_2 s_tick s_every s_round s_inside (upd s_up v2.toNatClampNeg (c_hang v2.toNatClampNeg)) (upd s_due v2.toNatClampNeg (c_period v2.toNatClampNeg)) (upd s_wind v2.toNatClampNeg ((s_wind v2.toNatClampNeg) - 1)) c_every c_size c_period c_hang (v2 + 1) _ _ _ _ hF _ _ _ hP hD hS (lv_sub hl [1, 2, 0] rfl) hexit_2
  refine lv_iconst (v := 0) hx hb dX8_jumpAll_0 (by decide) ?_
  refine lv_istore_n (lv' := [(2, .int 0), (0, .ref s_a), (1, .ref c_a)]) hx hb dX8_jumpAll_1 rfl hl (by decide) rfl (fun ls hl => ?_)
  obtain ⟨s_up_15, s_due_16, s_wind_17, v2_18, hL_19, hF⟩ := zb4_s hF
  refine hloop_2 300 s_tick s_every s_round s_inside s_up s_due s_wind c_every c_size c_period c_hang 0 s_up_15 s_due_16 s_wind_17 v2_18 hL_19 _ _ _ hP hD hS (lv_sub hl [1, 2, 0] rfl) (fun H locs ls hP hD hS hl => ?_)
  obtain ⟨e_0, e_1, e_2⟩ := zo3 hF
  subst e_0
  subst e_1
  subst e_2
  exact zret_v S hr hlocks hK hP hD hS dX8_jumpAll_76

def L_X8_airborne_4 (s_up : Nat → Int32) : Nat → Int32 → Int32 → Option (Int32 × Int32)
  | 0 => fun _ _ => none
  | n + 1 => fun v1 v2 => (if 6 ≤ v2 then some (v1, v2) else (if (v2 < 0 ∨ 6 ≤ v2.toNatClampNeg) then none else (if (s_up v2.toNatClampNeg) ≤ 0 then (L_X8_airborne_4 s_up n v1 (v2 + 1)) else (L_X8_airborne_4 s_up n (v1 ||| ((1 : Int32) <<< (v2 &&& 31))) (v2 + 1)))))
theorem L_X8_airborne_4_z (s_up : Nat → Int32) (v1 : Int32) (v2 : Int32) : L_X8_airborne_4 s_up 0 v1 v2 = none := rfl
theorem L_X8_airborne_4_s (s_up : Nat → Int32) (n : Nat) (v1 : Int32) (v2 : Int32) : L_X8_airborne_4 s_up (n + 1) v1 v2 = (if 6 ≤ v2 then some (v1, v2) else (if (v2 < 0 ∨ 6 ≤ v2.toNatClampNeg) then none else (if (s_up v2.toNatClampNeg) ≤ 0 then (L_X8_airborne_4 s_up n v1 (v2 + 1)) else (L_X8_airborne_4 s_up n (v1 ||| ((1 : Int32) <<< (v2 &&& 31))) (v2 + 1))))) := rfl
def F_X8_airborne (s_up : Nat → Int32) : Option (Int32) :=
  (zb2 (L_X8_airborne_4 s_up 300 0 0) (fun v1_7 v2_8 => some (v1_7)))
set_option maxHeartbeats 4000000 in
set_option maxRecDepth 100000 in
theorem c_X8_airborne (l : Launch) (D : va_G) (cI cZ cS cJ : ClassId) (s_a : Nat) (s_a_up : Nat) (s_a_due : Nat) (s_a_wind : Nat) (s_tick : Int32) (s_every : Int32) (s_round : Int32) (s_inside : Int32) (s_up : Nat → Int32) {r_o : Int32} (hF : F_X8_airborne s_up = some (r_o)) : zMi l yX8_airborne (zwl yX8_airborne cX8_airborne 3 (some .int)) { frames := 0, cells := 0, slots := 0, locals := 0 } D (TYS cI cZ cS cJ) [.ref s_a] [(s_a, .inr (8, [.int s_tick, .int s_every, .int s_round, .int s_inside, .ref s_a_up, .ref s_a_due, .ref s_a_wind])), (s_a_up, .inl (cI, 6, .inl s_up))] [(s_a, .inr (8, [.int s_tick, .int s_every, .int s_round, .int s_inside, .ref s_a_up, .ref s_a_due, .ref s_a_wind])), (s_a_up, .inl (cI, 6, .inl s_up))] r_o := by
  refine zent_i (own := RX8) (by decide) rfl (Nat.le_of_ble_eq_true rfl) ?_
  intro p e s m below meth c A ls S hr hlocks hK hP hD hA hl
  have hx := S.1
  have hb := S.2.1
  have hml := S.2.2.1
  have hown := S.2.2.2.1
  have hT : ∀ w ∈ zt, w ∈ zwl yX8_airborne cX8_airborne 3 (some .int) := fun _ h => List.mem_cons_of_mem _ h
  have ht : ∀ w ∈ zt, w.before [.ref s_a].toArray s = true := fun w h => S.2.2.2.2 w (hT w h)
  have hl : lv_has ls 3 [(0, .ref s_a)] := hl
  have hS : va_S A s.heap s.heap [] := va_S.rf
  unfold F_X8_airborne at hF
  have hloop_4 : ∀ (n : Nat) (s_tick : Int32) (s_every : Int32) (s_round : Int32) (s_inside : Int32) (s_up : Nat → Int32) (v1 : Int32) (v2 : Int32) (v1' : Int32) (v2' : Int32), L_X8_airborne_4 s_up n v1 v2 = some (v1', v2') → ∀ (H : Heap) (locs : List Loc) (ls : Array Slot), va_P D classes [(s_a, .inr (8, [.int s_tick, .int s_every, .int s_round, .int s_inside, .ref s_a_up, .ref s_a_due, .ref s_a_wind])), (s_a_up, .inl (cI, 6, .inl s_up))] H → va_D A [(s_a, .inr (8, [.int s_tick, .int s_every, .int s_round, .int s_inside, .ref s_a_up, .ref s_a_due, .ref s_a_wind])), (s_a_up, .inl (cI, 6, .inl s_up))] → va_S A s.heap H locs → lv_has ls 3 [(0, .ref s_a), (1, .int v1), (2, .int v2)] → (∀ (H : Heap) (locs : List Loc) (ls : Array Slot), va_P D classes [(s_a, .inr (8, [.int s_tick, .int s_every, .int s_round, .int s_inside, .ref s_a_up, .ref s_a_due, .ref s_a_wind])), (s_a_up, .inl (cI, 6, .inl s_up))] H → va_D A [(s_a, .inr (8, [.int s_tick, .int s_every, .int s_round, .int s_inside, .ref s_a_up, .ref s_a_due, .ref s_a_wind])), (s_a_up, .inl (cI, 6, .inl s_up))] → va_S A s.heap H locs → lv_has ls 3 [(0, .ref s_a), (1, .int v1'), (2, .int v2')] → W p l e { frames := 0, cells := 0, slots := 0, locals := 0 } s m [.ref s_a].toArray below meth c H locs 0 0 (zFi below [.ref s_a] s A D (TYS cI cZ cS cJ) [(s_a, .inr (8, [.int s_tick, .int s_every, .int s_round, .int s_inside, .ref s_a_up, .ref s_a_due, .ref s_a_wind])), (s_a_up, .inl (cI, 6, .inl s_up))] r_o) (F0 m 31 ls [])) → W p l e { frames := 0, cells := 0, slots := 0, locals := 0 } s m [.ref s_a].toArray below meth c H locs 0 0 (zFi below [.ref s_a] s A D (TYS cI cZ cS cJ) [(s_a, .inr (8, [.int s_tick, .int s_every, .int s_round, .int s_inside, .ref s_a_up, .ref s_a_due, .ref s_a_wind])), (s_a_up, .inl (cI, 6, .inl s_up))] r_o) (F0 m 4 ls []) := by
    intro n
    induction n with
    | zero =>
      intro s_tick s_every s_round s_inside s_up v1 v2 v1' v2' hF
      rw [L_X8_airborne_4_z] at hF
      cases hF
    | succ n ih_4 =>
      intro s_tick s_every s_round s_inside s_up v1 v2 v1' v2' hF H locs ls hP hD hS hl hexit_4
      rw [L_X8_airborne_4_s] at hF
      refine lv_iload_n hx hb dX8_airborne_4 rfl (lv_at hl 2 rfl) ?_
      refine lv_bipush (v := 6) hx hb dX8_airborne_5 (by decide) ?_
      refine lv_icmp_ge (tgt := 31) hx hb dX8_airborne_7 (by decide) (fun c_4 => ?_) (fun c_4 => ?_)
      · have hF := zi_pos c_4 hF
        obtain ⟨e_0, e_1⟩ := zo2 hF
        subst e_0
        subst e_1
        exact hexit_4 _ _ _ hP hD hS (lv_sub hl [0, 1, 2] rfl)
      · have hF := zi_neg c_4 hF
        refine lv_aload_n hx hb dX8_airborne_10 rfl (lv_at hl 0 rfl) ?_
        refine va_get (D := D) (ci := 8) (v := .ref s_a_up) (C := RX8) (T := TX8) (N := 7) hx hb ht iyX8 hown hK hP 0 rfl rfl 4 (by decide) (ht _ wf_X8_9) (fun _ h9 => h9) rfl dX8_airborne_11 ?_
        refine lv_iload_n hx hb dX8_airborne_14 rfl (lv_at hl 2 rfl) ?_
        obtain ⟨h_5, hF⟩ := zi_chk hF
        refine va_iald hx hb hK hP 1 0 rfl rfl h_5 dX8_airborne_15 ?_
        refine lv_if_le (tgt := 25) hx hb dX8_airborne_16 (by decide) (fun c_6 => ?_) (fun c_6 => ?_)
        · have hF := zi_pos c_6 hF
          refine lv_iinc (v := v2 + 1) (lv' := [(2, .int (v2 + 1)), (0, .ref s_a), (1, .int v1)]) hx hb dX8_airborne_25 hl (k := 2) rfl (by rfl) (by decide) rfl (fun ls hl => ?_)
          refine lv_goto (tgt := 4) hx hb dX8_airborne_28 (by decide) ?_
          exact ih_4 s_tick s_every s_round s_inside s_up v1 (v2 + 1) _ _ hF _ _ _ hP hD hS (lv_sub hl [1, 2, 0] rfl) hexit_4
        · have hF := zi_neg c_6 hF
          refine lv_iload_n hx hb dX8_airborne_19 rfl (lv_at hl 1 rfl) ?_
          refine lv_iconst (v := 1) hx hb dX8_airborne_20 (by decide) ?_
          refine lv_iload_n hx hb dX8_airborne_21 rfl (lv_at hl 2 rfl) ?_
          refine lv_ishl hx hb dX8_airborne_22 ?_
          refine lv_ior hx hb dX8_airborne_23 ?_
          refine lv_istore_n (lv' := [(1, .int (v1 ||| ((1 : Int32) <<< (v2 &&& 31)))), (0, .ref s_a), (2, .int v2)]) hx hb dX8_airborne_24 rfl hl (by decide) rfl (fun ls hl => ?_)
          refine lv_iinc (v := v2 + 1) (lv' := [(2, .int (v2 + 1)), (1, .int (v1 ||| ((1 : Int32) <<< (v2 &&& 31)))), (0, .ref s_a)]) hx hb dX8_airborne_25 hl (k := 2) rfl (by rfl) (by decide) rfl (fun ls hl => ?_)
          refine lv_goto (tgt := 4) hx hb dX8_airborne_28 (by decide) ?_
          exact ih_4 s_tick s_every s_round s_inside s_up (v1 ||| ((1 : Int32) <<< (v2 &&& 31))) (v2 + 1) _ _ hF _ _ _ hP hD hS (lv_sub hl [2, 1, 0] rfl) hexit_4
  refine lv_iconst (v := 0) hx hb dX8_airborne_0 (by decide) ?_
  refine lv_istore_n (lv' := [(1, .int 0), (0, .ref s_a)]) hx hb dX8_airborne_1 rfl hl (by decide) rfl (fun ls hl => ?_)
  refine lv_iconst (v := 0) hx hb dX8_airborne_2 (by decide) ?_
  refine lv_istore_n (lv' := [(2, .int 0), (1, .int 0), (0, .ref s_a)]) hx hb dX8_airborne_3 rfl hl (by decide) rfl (fun ls hl => ?_)
  obtain ⟨v1_7, v2_8, hL_9, hF⟩ := zb2_s hF
  refine hloop_4 300 s_tick s_every s_round s_inside s_up 0 0 v1_7 v2_8 hL_9 _ _ _ hP hD hS (lv_sub hl [2, 1, 0] rfl) (fun H locs ls hP hD hS hl => ?_)
  refine lv_iload_n hx hb dX8_airborne_31 rfl (lv_at hl 1 rfl) ?_
  have e_0 := zo1 hF
  subst e_0
  exact zret_i S hr hlocks hK hP hD hS dX8_airborne_32

def L_X8_pass_12 : Nat → (Nat → Int32) → (Nat → Int32) → Int32 → Option ((Nat → Int32) × (Nat → Int32) × Int32)
  | 0 => fun _ _ _ => none
  | n + 1 => fun s_up s_due v1 => (if 6 ≤ v1 then some (s_up, s_due, v1) else (if (v1 < 0 ∨ 6 ≤ v1.toNatClampNeg) then none else (if (s_up v1.toNatClampNeg) ≤ 0 then (if (s_due v1.toNatClampNeg) ≤ 0 then (L_X8_pass_12 n s_up s_due (v1 + 1)) else (L_X8_pass_12 n s_up (upd s_due v1.toNatClampNeg ((s_due v1.toNatClampNeg) - 1)) (v1 + 1))) else (if (s_due v1.toNatClampNeg) ≤ 0 then (L_X8_pass_12 n (upd s_up v1.toNatClampNeg ((s_up v1.toNatClampNeg) - 1)) s_due (v1 + 1)) else (L_X8_pass_12 n (upd s_up v1.toNatClampNeg ((s_up v1.toNatClampNeg) - 1)) (upd s_due v1.toNatClampNeg ((s_due v1.toNatClampNeg) - 1)) (v1 + 1))))))
theorem L_X8_pass_12_z (s_up : Nat → Int32) (s_due : Nat → Int32) (v1 : Int32) : L_X8_pass_12 0 s_up s_due v1 = none := rfl
theorem L_X8_pass_12_s (n : Nat) (s_up : Nat → Int32) (s_due : Nat → Int32) (v1 : Int32) : L_X8_pass_12 (n + 1) s_up s_due v1 = (if 6 ≤ v1 then some (s_up, s_due, v1) else (if (v1 < 0 ∨ 6 ≤ v1.toNatClampNeg) then none else (if (s_up v1.toNatClampNeg) ≤ 0 then (if (s_due v1.toNatClampNeg) ≤ 0 then (L_X8_pass_12 n s_up s_due (v1 + 1)) else (L_X8_pass_12 n s_up (upd s_due v1.toNatClampNeg ((s_due v1.toNatClampNeg) - 1)) (v1 + 1))) else (if (s_due v1.toNatClampNeg) ≤ 0 then (L_X8_pass_12 n (upd s_up v1.toNatClampNeg ((s_up v1.toNatClampNeg) - 1)) s_due (v1 + 1)) else (L_X8_pass_12 n (upd s_up v1.toNatClampNeg ((s_up v1.toNatClampNeg) - 1)) (upd s_due v1.toNatClampNeg ((s_due v1.toNatClampNeg) - 1)) (v1 + 1)))))) := rfl
def F_X8_pass (s_tick : Int32) (s_up : Nat → Int32) (s_due : Nat → Int32) : Option (Int32 × (Nat → Int32) × (Nat → Int32)) :=
  (zb3 (L_X8_pass_12 300 s_up s_due 0) (fun s_up_11 s_due_12 v1_13 => some (s_tick + 1, s_up_11, s_due_12)))
set_option maxHeartbeats 4000000 in
set_option maxRecDepth 100000 in
theorem c_X8_pass (l : Launch) (D : va_G) (cI cZ cS cJ : ClassId) (s_a : Nat) (s_a_up : Nat) (s_a_due : Nat) (s_a_wind : Nat) (s_tick : Int32) (s_every : Int32) (s_round : Int32) (s_inside : Int32) (s_up : Nat → Int32) (s_due : Nat → Int32) {s_tick_o : Int32} {s_up_o : Nat → Int32} {s_due_o : Nat → Int32} (hF : F_X8_pass s_tick s_up s_due = some (s_tick_o, s_up_o, s_due_o)) : zMv l yX8_pass (zwl yX8_pass cX8_pass 2 none) { frames := 0, cells := 0, slots := 0, locals := 0 } D (TYS cI cZ cS cJ) [.ref s_a] [(s_a, .inr (8, [.int s_tick, .int s_every, .int s_round, .int s_inside, .ref s_a_up, .ref s_a_due, .ref s_a_wind])), (s_a_up, .inl (cI, 6, .inl s_up)), (s_a_due, .inl (cI, 6, .inl s_due))] [(s_a, .inr (8, [.int s_tick_o, .int s_every, .int s_round, .int s_inside, .ref s_a_up, .ref s_a_due, .ref s_a_wind])), (s_a_up, .inl (cI, 6, .inl s_up_o)), (s_a_due, .inl (cI, 6, .inl s_due_o))] := by
  refine zent_v (own := RX8) (by decide) rfl (Nat.le_of_ble_eq_true rfl) ?_
  intro p e s m below meth c A ls S hr hlocks hK hP hD hA hl
  have hx := S.1
  have hb := S.2.1
  have hml := S.2.2.1
  have hown := S.2.2.2.1
  have hT : ∀ w ∈ zt, w ∈ zwl yX8_pass cX8_pass 2 none := fun _ h => List.mem_cons_of_mem _ h
  have ht : ∀ w ∈ zt, w.before [.ref s_a].toArray s = true := fun w h => S.2.2.2.2 w (hT w h)
  have hl : lv_has ls 2 [(0, .ref s_a)] := hl
  have hS : va_S A s.heap s.heap [] := va_S.rf
  unfold F_X8_pass at hF
  have hloop_12 : ∀ (n : Nat) (s_tick : Int32) (s_every : Int32) (s_round : Int32) (s_inside : Int32) (s_up : Nat → Int32) (s_due : Nat → Int32) (v1 : Int32) (s_up' : Nat → Int32) (s_due' : Nat → Int32) (v1' : Int32), L_X8_pass_12 n s_up s_due v1 = some (s_up', s_due', v1') → ∀ (H : Heap) (locs : List Loc) (ls : Array Slot), va_P D classes [(s_a, .inr (8, [.int s_tick, .int s_every, .int s_round, .int s_inside, .ref s_a_up, .ref s_a_due, .ref s_a_wind])), (s_a_up, .inl (cI, 6, .inl s_up)), (s_a_due, .inl (cI, 6, .inl s_due))] H → va_D A [(s_a, .inr (8, [.int s_tick, .int s_every, .int s_round, .int s_inside, .ref s_a_up, .ref s_a_due, .ref s_a_wind])), (s_a_up, .inl (cI, 6, .inl s_up)), (s_a_due, .inl (cI, 6, .inl s_due))] → va_S A s.heap H locs → lv_has ls 2 [(0, .ref s_a), (1, .int v1)] → (∀ (H : Heap) (locs : List Loc) (ls : Array Slot), va_P D classes [(s_a, .inr (8, [.int s_tick, .int s_every, .int s_round, .int s_inside, .ref s_a_up, .ref s_a_due, .ref s_a_wind])), (s_a_up, .inl (cI, 6, .inl s_up')), (s_a_due, .inl (cI, 6, .inl s_due'))] H → va_D A [(s_a, .inr (8, [.int s_tick, .int s_every, .int s_round, .int s_inside, .ref s_a_up, .ref s_a_due, .ref s_a_wind])), (s_a_up, .inl (cI, 6, .inl s_up')), (s_a_due, .inl (cI, 6, .inl s_due'))] → va_S A s.heap H locs → lv_has ls 2 [(0, .ref s_a), (1, .int v1')] → W p l e { frames := 0, cells := 0, slots := 0, locals := 0 } s m [.ref s_a].toArray below meth c H locs 0 0 (zFv below [.ref s_a] s A D (TYS cI cZ cS cJ) [(s_a, .inr (8, [.int s_tick_o, .int s_every, .int s_round, .int s_inside, .ref s_a_up, .ref s_a_due, .ref s_a_wind])), (s_a_up, .inl (cI, 6, .inl s_up_o)), (s_a_due, .inl (cI, 6, .inl s_due_o))]) (F0 m 62 ls [])) → W p l e { frames := 0, cells := 0, slots := 0, locals := 0 } s m [.ref s_a].toArray below meth c H locs 0 0 (zFv below [.ref s_a] s A D (TYS cI cZ cS cJ) [(s_a, .inr (8, [.int s_tick_o, .int s_every, .int s_round, .int s_inside, .ref s_a_up, .ref s_a_due, .ref s_a_wind])), (s_a_up, .inl (cI, 6, .inl s_up_o)), (s_a_due, .inl (cI, 6, .inl s_due_o))]) (F0 m 12 ls []) := by
    intro n
    induction n with
    | zero =>
      intro s_tick s_every s_round s_inside s_up s_due v1 s_up' s_due' v1' hF
      rw [L_X8_pass_12_z] at hF
      cases hF
    | succ n ih_12 =>
      intro s_tick s_every s_round s_inside s_up s_due v1 s_up' s_due' v1' hF H locs ls hP hD hS hl hexit_12
      rw [L_X8_pass_12_s] at hF
      refine lv_iload_n hx hb dX8_pass_12 rfl (lv_at hl 1 rfl) ?_
      refine lv_bipush (v := 6) hx hb dX8_pass_13 (by decide) ?_
      refine lv_icmp_ge (tgt := 62) hx hb dX8_pass_15 (by decide) (fun c_6 => ?_) (fun c_6 => ?_)
      · have hF := zi_pos c_6 hF
        obtain ⟨e_0, e_1, e_2⟩ := zo3 hF
        subst e_0
        subst e_1
        subst e_2
        exact hexit_12 _ _ _ hP hD hS (lv_sub hl [0, 1] rfl)
      · have hF := zi_neg c_6 hF
        refine lv_aload_n hx hb dX8_pass_18 rfl (lv_at hl 0 rfl) ?_
        refine va_get (D := D) (ci := 8) (v := .ref s_a_up) (C := RX8) (T := TX8) (N := 7) hx hb ht iyX8 hown hK hP 0 rfl rfl 4 (by decide) (ht _ wf_X8_9) (fun _ h9 => h9) rfl dX8_pass_19 ?_
        refine lv_iload_n hx hb dX8_pass_22 rfl (lv_at hl 1 rfl) ?_
        obtain ⟨h_7, hF⟩ := zi_chk hF
        refine va_iald hx hb hK hP 1 0 rfl rfl h_7 dX8_pass_23 ?_
        refine lv_if_le (tgt := 37) hx hb dX8_pass_24 (by decide) (fun c_8 => ?_) (fun c_8 => ?_)
        · have hF := zi_pos c_8 hF
          refine lv_aload_n hx hb dX8_pass_37 rfl (lv_at hl 0 rfl) ?_
          refine va_get (D := D) (ci := 8) (v := .ref s_a_due) (C := RX8) (T := TX8) (N := 7) hx hb ht iyX8 hown hK hP 0 rfl rfl 5 (by decide) (ht _ wf_X8_15) (fun _ h9 => h9) rfl dX8_pass_38 ?_
          refine lv_iload_n hx hb dX8_pass_41 rfl (lv_at hl 1 rfl) ?_
          refine va_iald hx hb hK hP 2 0 rfl rfl h_7 dX8_pass_42 ?_
          refine lv_if_le (tgt := 56) hx hb dX8_pass_43 (by decide) (fun c_9 => ?_) (fun c_9 => ?_)
          · have hF := zi_pos c_9 hF
            refine lv_iinc (v := v1 + 1) (lv' := [(1, .int (v1 + 1)), (0, .ref s_a)]) hx hb dX8_pass_56 hl (k := 1) rfl (by rfl) (by decide) rfl (fun ls hl => ?_)
            refine lv_goto (tgt := 12) hx hb dX8_pass_59 (by decide) ?_
            exact ih_12 s_tick s_every s_round s_inside s_up s_due (v1 + 1) _ _ _ hF _ _ _ hP hD hS (lv_sub hl [1, 0] rfl) hexit_12
          · have hF := zi_neg c_9 hF
            refine lv_aload_n hx hb dX8_pass_46 rfl (lv_at hl 0 rfl) ?_
            refine va_get (D := D) (ci := 8) (v := .ref s_a_due) (C := RX8) (T := TX8) (N := 7) hx hb ht iyX8 hown hK hP 0 rfl rfl 5 (by decide) (ht _ wf_X8_15) (fun _ h9 => h9) rfl dX8_pass_47 ?_
            refine lv_iload_n hx hb dX8_pass_50 rfl (lv_at hl 1 rfl) ?_
            refine lv_dup2_11 hx hb dX8_pass_51 rfl rfl ?_
            refine va_iald hx hb hK hP 2 0 rfl rfl h_7 dX8_pass_52 ?_
            refine lv_iconst (v := 1) hx hb dX8_pass_53 (by decide) ?_
            refine lv_isub hx hb dX8_pass_54 ?_
            refine va_iast hx hb hK hP hD hS 2 0 rfl rfl h_7 dX8_pass_55 (fun H locs hP hD hS => ?_)
            have hP : va_P D classes [(s_a, .inr (8, [.int s_tick, .int s_every, .int s_round, .int s_inside, .ref s_a_up, .ref s_a_due, .ref s_a_wind])), (s_a_up, .inl (cI, 6, .inl s_up)), (s_a_due, .inl (cI, 6, .inl (upd s_due v1.toNatClampNeg ((s_due v1.toNatClampNeg) - 1))))] H := hP
            have hD : va_D A [(s_a, .inr (8, [.int s_tick, .int s_every, .int s_round, .int s_inside, .ref s_a_up, .ref s_a_due, .ref s_a_wind])), (s_a_up, .inl (cI, 6, .inl s_up)), (s_a_due, .inl (cI, 6, .inl (upd s_due v1.toNatClampNeg ((s_due v1.toNatClampNeg) - 1))))] := hD
            refine lv_iinc (v := v1 + 1) (lv' := [(1, .int (v1 + 1)), (0, .ref s_a)]) hx hb dX8_pass_56 hl (k := 1) rfl (by rfl) (by decide) rfl (fun ls hl => ?_)
            refine lv_goto (tgt := 12) hx hb dX8_pass_59 (by decide) ?_
            exact ih_12 s_tick s_every s_round s_inside s_up (upd s_due v1.toNatClampNeg ((s_due v1.toNatClampNeg) - 1)) (v1 + 1) _ _ _ hF _ _ _ hP hD hS (lv_sub hl [1, 0] rfl) hexit_12
        · have hF := zi_neg c_8 hF
          refine lv_aload_n hx hb dX8_pass_27 rfl (lv_at hl 0 rfl) ?_
          refine va_get (D := D) (ci := 8) (v := .ref s_a_up) (C := RX8) (T := TX8) (N := 7) hx hb ht iyX8 hown hK hP 0 rfl rfl 4 (by decide) (ht _ wf_X8_9) (fun _ h9 => h9) rfl dX8_pass_28 ?_
          refine lv_iload_n hx hb dX8_pass_31 rfl (lv_at hl 1 rfl) ?_
          refine lv_dup2_11 hx hb dX8_pass_32 rfl rfl ?_
          refine va_iald hx hb hK hP 1 0 rfl rfl h_7 dX8_pass_33 ?_
          refine lv_iconst (v := 1) hx hb dX8_pass_34 (by decide) ?_
          refine lv_isub hx hb dX8_pass_35 ?_
          refine va_iast hx hb hK hP hD hS 1 0 rfl rfl h_7 dX8_pass_36 (fun H locs hP hD hS => ?_)
          have hP : va_P D classes [(s_a, .inr (8, [.int s_tick, .int s_every, .int s_round, .int s_inside, .ref s_a_up, .ref s_a_due, .ref s_a_wind])), (s_a_up, .inl (cI, 6, .inl (upd s_up v1.toNatClampNeg ((s_up v1.toNatClampNeg) - 1)))), (s_a_due, .inl (cI, 6, .inl s_due))] H := hP
          have hD : va_D A [(s_a, .inr (8, [.int s_tick, .int s_every, .int s_round, .int s_inside, .ref s_a_up, .ref s_a_due, .ref s_a_wind])), (s_a_up, .inl (cI, 6, .inl (upd s_up v1.toNatClampNeg ((s_up v1.toNatClampNeg) - 1)))), (s_a_due, .inl (cI, 6, .inl s_due))] := hD
          refine lv_aload_n hx hb dX8_pass_37 rfl (lv_at hl 0 rfl) ?_
          refine va_get (D := D) (ci := 8) (v := .ref s_a_due) (C := RX8) (T := TX8) (N := 7) hx hb ht iyX8 hown hK hP 0 rfl rfl 5 (by decide) (ht _ wf_X8_15) (fun _ h9 => h9) rfl dX8_pass_38 ?_
          refine lv_iload_n hx hb dX8_pass_41 rfl (lv_at hl 1 rfl) ?_
          refine va_iald hx hb hK hP 2 0 rfl rfl h_7 dX8_pass_42 ?_
          refine lv_if_le (tgt := 56) hx hb dX8_pass_43 (by decide) (fun c_10 => ?_) (fun c_10 => ?_)
          · have hF := zi_pos c_10 hF
            refine lv_iinc (v := v1 + 1) (lv' := [(1, .int (v1 + 1)), (0, .ref s_a)]) hx hb dX8_pass_56 hl (k := 1) rfl (by rfl) (by decide) rfl (fun ls hl => ?_)
            refine lv_goto (tgt := 12) hx hb dX8_pass_59 (by decide) ?_
            exact ih_12 s_tick s_every s_round s_inside (upd s_up v1.toNatClampNeg ((s_up v1.toNatClampNeg) - 1)) s_due (v1 + 1) _ _ _ hF _ _ _ hP hD hS (lv_sub hl [1, 0] rfl) hexit_12
          · have hF := zi_neg c_10 hF
            refine lv_aload_n hx hb dX8_pass_46 rfl (lv_at hl 0 rfl) ?_
            refine va_get (D := D) (ci := 8) (v := .ref s_a_due) (C := RX8) (T := TX8) (N := 7) hx hb ht iyX8 hown hK hP 0 rfl rfl 5 (by decide) (ht _ wf_X8_15) (fun _ h9 => h9) rfl dX8_pass_47 ?_
            refine lv_iload_n hx hb dX8_pass_50 rfl (lv_at hl 1 rfl) ?_
            refine lv_dup2_11 hx hb dX8_pass_51 rfl rfl ?_
            refine va_iald hx hb hK hP 2 0 rfl rfl h_7 dX8_pass_52 ?_
            refine lv_iconst (v := 1) hx hb dX8_pass_53 (by decide) ?_
            refine lv_isub hx hb dX8_pass_54 ?_
            refine va_iast hx hb hK hP hD hS 2 0 rfl rfl h_7 dX8_pass_55 (fun H locs hP hD hS => ?_)
            have hP : va_P D classes [(s_a, .inr (8, [.int s_tick, .int s_every, .int s_round, .int s_inside, .ref s_a_up, .ref s_a_due, .ref s_a_wind])), (s_a_up, .inl (cI, 6, .inl (upd s_up v1.toNatClampNeg ((s_up v1.toNatClampNeg) - 1)))), (s_a_due, .inl (cI, 6, .inl (upd s_due v1.toNatClampNeg ((s_due v1.toNatClampNeg) - 1))))] H := hP
            have hD : va_D A [(s_a, .inr (8, [.int s_tick, .int s_every, .int s_round, .int s_inside, .ref s_a_up, .ref s_a_due, .ref s_a_wind])), (s_a_up, .inl (cI, 6, .inl (upd s_up v1.toNatClampNeg ((s_up v1.toNatClampNeg) - 1)))), (s_a_due, .inl (cI, 6, .inl (upd s_due v1.toNatClampNeg ((s_due v1.toNatClampNeg) - 1))))] := hD
            refine lv_iinc (v := v1 + 1) (lv' := [(1, .int (v1 + 1)), (0, .ref s_a)]) hx hb dX8_pass_56 hl (k := 1) rfl (by rfl) (by decide) rfl (fun ls hl => ?_)
            refine lv_goto (tgt := 12) hx hb dX8_pass_59 (by decide) ?_
            exact ih_12 s_tick s_every s_round s_inside (upd s_up v1.toNatClampNeg ((s_up v1.toNatClampNeg) - 1)) (upd s_due v1.toNatClampNeg ((s_due v1.toNatClampNeg) - 1)) (v1 + 1) _ _ _ hF _ _ _ hP hD hS (lv_sub hl [1, 0] rfl) hexit_12
  refine lv_aload_n hx hb dX8_pass_0 rfl (lv_at hl 0 rfl) ?_
  refine lv_dup hx hb dX8_pass_1 rfl ?_
  refine va_get (D := D) (ci := 8) (v := .int s_tick) (C := RX8) (T := TX8) (N := 7) hx hb ht iyX8 hown hK hP 0 rfl rfl 0 (by decide) (ht _ wf_X8_21) (fun _ h9 => h9) rfl dX8_pass_2 ?_
  refine lv_iconst (v := 1) hx hb dX8_pass_5 (by decide) ?_
  refine lv_iadd hx hb dX8_pass_6 ?_
  refine va_put (D := D) (ci := 8) (v := .int (s_tick + 1)) (ty := .int) (C := RX8) (T := TX8) (N := 7) hx hb ht iyX8 tyX8 tyX8_ok nmX8 hown hK hP hD hS 0 rfl rfl 0 (by decide) (ht _ wf_X8_21) (fun _ h9 => h9) rfl (by decide +kernel) rfl rfl (Nat.le_of_ble_eq_true rfl) dX8_pass_7 (fun H locs hP hD hS => ?_)
  have hP : va_P D classes [(s_a, .inr (8, [.int (s_tick + 1), .int s_every, .int s_round, .int s_inside, .ref s_a_up, .ref s_a_due, .ref s_a_wind])), (s_a_up, .inl (cI, 6, .inl s_up)), (s_a_due, .inl (cI, 6, .inl s_due))] H := hP
  have hD : va_D A [(s_a, .inr (8, [.int (s_tick + 1), .int s_every, .int s_round, .int s_inside, .ref s_a_up, .ref s_a_due, .ref s_a_wind])), (s_a_up, .inl (cI, 6, .inl s_up)), (s_a_due, .inl (cI, 6, .inl s_due))] := hD
  refine lv_iconst (v := 0) hx hb dX8_pass_10 (by decide) ?_
  refine lv_istore_n (lv' := [(1, .int 0), (0, .ref s_a)]) hx hb dX8_pass_11 rfl hl (by decide) rfl (fun ls hl => ?_)
  obtain ⟨s_up_11, s_due_12, v1_13, hL_14, hF⟩ := zb3_s hF
  refine hloop_12 300 (s_tick + 1) s_every s_round s_inside s_up s_due 0 s_up_11 s_due_12 v1_13 hL_14 _ _ _ hP hD hS (lv_sub hl [1, 0] rfl) (fun H locs ls hP hD hS hl => ?_)
  obtain ⟨e_0, e_1, e_2⟩ := zo3 hF
  subst e_0
  subst e_1
  subst e_2
  exact zret_v S hr hlocks hK hP hD hS dX8_pass_62

theorem lk_X8_50 : zLk RX8 50 yX8_jumpAll cX8_jumpAll 3 none 1 := ⟨⟨wm_X8_50, wo_X8_jumpAll, we_X8_X8_jumpAll, wi_X8, wd_X8_jumpAll⟩, by decide, by decide, by decide +kernel⟩
theorem lk_X8_58 : zLk RX8 58 yX8_pass cX8_pass 2 none 0 := ⟨⟨wm_X8_58, wo_X8_pass, we_X8_X8_pass, wi_X8, wd_X8_pass⟩, by decide, by decide, by decide +kernel⟩
theorem lk_X8_54 : zLk RX8 54 yX8_airborne cX8_airborne 3 (some .int) 0 := ⟨⟨wm_X8_54, wo_X8_airborne, we_X8_X8_airborne, wi_X8, wd_X8_airborne⟩, by decide, by decide, by decide +kernel⟩
def F_X8_step (s_tick : Int32) (s_every : Int32) (s_round : Int32) (s_inside : Int32) (s_up : Nat → Int32) (s_due : Nat → Int32) (s_wind : Nat → Int32) (c_size : Int32) (c_period : Nat → Int32) (c_hang : Nat → Int32) : Option (Int32 × Int32 × Int32 × Int32 × (Nat → Int32) × (Nat → Int32) × (Nat → Int32)) :=
  (zb3 (F_X8_jumpAll s_inside s_up s_due s_wind c_size c_period c_hang) (fun s_up_1 s_due_2 s_wind_3 => (if 0 < (s_round - 1) then (zb3 (F_X8_pass s_tick s_up_1 s_due_2) (fun s_tick_6 s_up_7 s_due_8 => some (0, s_tick_6, s_round - 1, s_inside, s_up_7, s_due_8, s_wind_3))) else (zb1 (F_X8_airborne s_up_1) (fun r_10 => (if (s_inside &&& (r_10 ^^^ (-1))) = 0 then (zb3 (F_X8_pass s_tick s_up_1 s_due_2) (fun s_tick_17 s_up_18 s_due_19 => some (s_inside &&& (r_10 ^^^ (-1)), s_tick_17, s_every, s_inside &&& ((s_inside &&& (r_10 ^^^ (-1))) ^^^ (-1)), s_up_18, s_due_19, s_wind_3))) else (zb3 (F_X8_pass s_tick s_up_1 s_due_2) (fun s_tick_13 s_up_14 s_due_15 => some (s_inside &&& (r_10 ^^^ (-1)), s_tick_13, s_every + 1, s_inside &&& ((s_inside &&& (r_10 ^^^ (-1))) ^^^ (-1)), s_up_14, s_due_15, s_wind_3)))))))))
set_option maxHeartbeats 4000000 in
set_option maxRecDepth 100000 in
theorem c_X8_step (l : Launch) (D : va_G) (cI cZ cS cJ : ClassId) (s_a : Nat) (s_a_up : Nat) (s_a_due : Nat) (s_a_wind : Nat) (c_a : Nat) (c_a_period : Nat) (c_a_hang : Nat) (c_a_start : Nat) (c_a_wind : Nat) (s_tick : Int32) (s_every : Int32) (s_round : Int32) (s_inside : Int32) (s_up : Nat → Int32) (s_due : Nat → Int32) (s_wind : Nat → Int32) (c_every : Int32) (c_size : Int32) (c_period : Nat → Int32) (c_hang : Nat → Int32) {r_o : Int32} {s_tick_o : Int32} {s_round_o : Int32} {s_inside_o : Int32} {s_up_o : Nat → Int32} {s_due_o : Nat → Int32} {s_wind_o : Nat → Int32} (hF : F_X8_step s_tick s_every s_round s_inside s_up s_due s_wind c_size c_period c_hang = some (r_o, s_tick_o, s_round_o, s_inside_o, s_up_o, s_due_o, s_wind_o)) : zMi l yX8_step (zwl yX8_step cX8_step 3 (some .int)) { frames := 2, cells := 0, slots := 0, locals := 43 } D (TYS cI cZ cS cJ) [.ref s_a, .ref c_a] [(s_a, .inr (8, [.int s_tick, .int s_every, .int s_round, .int s_inside, .ref s_a_up, .ref s_a_due, .ref s_a_wind])), (s_a_up, .inl (cI, 6, .inl s_up)), (s_a_due, .inl (cI, 6, .inl s_due)), (s_a_wind, .inl (cI, 6, .inl s_wind)), (c_a, .inr (1, [.int c_every, .int c_size, .ref c_a_period, .ref c_a_hang, .ref c_a_start, .ref c_a_wind])), (c_a_period, .inl (cI, 6, .inl c_period)), (c_a_hang, .inl (cI, 6, .inl c_hang))] [(s_a, .inr (8, [.int s_tick_o, .int s_every, .int s_round_o, .int s_inside_o, .ref s_a_up, .ref s_a_due, .ref s_a_wind])), (s_a_up, .inl (cI, 6, .inl s_up_o)), (s_a_due, .inl (cI, 6, .inl s_due_o)), (s_a_wind, .inl (cI, 6, .inl s_wind_o)), (c_a, .inr (1, [.int c_every, .int c_size, .ref c_a_period, .ref c_a_hang, .ref c_a_start, .ref c_a_wind])), (c_a_period, .inl (cI, 6, .inl c_period)), (c_a_hang, .inl (cI, 6, .inl c_hang))] r_o := by
  refine zent_i (own := RX8) (by decide) rfl (Nat.le_of_ble_eq_true rfl) ?_
  intro p e s m below meth c A ls S hr hlocks hK hP hD hA hl
  have hx := S.1
  have hb := S.2.1
  have hml := S.2.2.1
  have hown := S.2.2.2.1
  have hT : ∀ w ∈ zt, w ∈ zwl yX8_step cX8_step 3 (some .int) := fun _ h => List.mem_cons_of_mem _ h
  have ht : ∀ w ∈ zt, w.before [.ref s_a, .ref c_a].toArray s = true := fun w h => S.2.2.2.2 w (hT w h)
  have hl : lv_has ls 3 [(0, .ref s_a), (1, .ref c_a)] := hl
  have hS : va_S A s.heap s.heap [] := va_S.rf
  unfold F_X8_step at hF
  refine lv_aload_n hx hb dX8_step_0 rfl (lv_at hl 0 rfl) ?_
  refine lv_aload_n hx hb dX8_step_1 rfl (lv_at hl 1 rfl) ?_
  obtain ⟨s_up_1, s_due_2, s_wind_3, hc_4, hF⟩ := zb3_s hF
  refine zcv_v (ws1 := [(s_a, .inr (8, [.int s_tick, .int s_every, .int s_round, .int s_inside, .ref s_a_up, .ref s_a_due, .ref s_a_wind])), (s_a_up, .inl (cI, 6, .inl s_up_1)), (s_a_due, .inl (cI, 6, .inl s_due_2)), (s_a_wind, .inl (cI, 6, .inl s_wind_3)), (c_a, .inr (1, [.int c_every, .int c_size, .ref c_a_period, .ref c_a_hang, .ref c_a_start, .ref c_a_wind])), (c_a_period, .inl (cI, 6, .inl c_period)), (c_a_hang, .inl (cI, 6, .inl c_hang))]) S hT lk_X8_50 (c_X8_jumpAll l D cI cZ cS cJ s_a s_a_up s_a_due s_a_wind c_a c_a_period c_a_hang c_a_start c_a_wind s_tick s_every s_round s_inside s_up s_due s_wind c_every c_size c_period c_hang hc_4) ⟨rfl, rfl, Nat.le_of_ble_eq_true rfl, Nat.le_of_ble_eq_true rfl⟩ hK hP hD hS hA [0, 1, 2, 3, 4, 5, 6] [] [0, 1, 2, 3, 4, 5, 6] rfl rfl rfl rfl rfl rfl rfl rfl rfl rfl rfl hl.1 rfl (Nat.le_of_ble_eq_true rfl) dX8_step_2 ⟨Nat.zero_le _, Nat.zero_le _⟩ (fun H locs hP hD hS => ?_)
  refine lv_iconst (v := 0) hx hb dX8_step_5 (by decide) ?_
  refine lv_istore_n (lv' := [(2, .int 0), (0, .ref s_a), (1, .ref c_a)]) hx hb dX8_step_6 rfl hl (by decide) rfl (fun ls hl => ?_)
  refine lv_aload_n hx hb dX8_step_7 rfl (lv_at hl 1 rfl) ?_
  refine lv_dup hx hb dX8_step_8 rfl ?_
  refine va_get (D := D) (ci := 8) (v := .int s_round) (C := RX8) (T := TX8) (N := 7) hx hb ht iyX8 hown hK hP 0 rfl rfl 2 (by decide) (ht _ wf_X8_31) (fun _ h9 => h9) rfl dX8_step_9 ?_
  refine lv_iconst (v := 1) hx hb dX8_step_12 (by decide) ?_
  refine lv_isub hx hb dX8_step_13 ?_
  refine va_put (D := D) (ci := 8) (v := .int (s_round - 1)) (ty := .int) (C := RX8) (T := TX8) (N := 7) hx hb ht iyX8 tyX8 tyX8_ok nmX8 hown hK hP hD hS 0 rfl rfl 2 (by decide) (ht _ wf_X8_31) (fun _ h9 => h9) rfl (by decide +kernel) rfl rfl (Nat.le_of_ble_eq_true rfl) dX8_step_14 (fun H locs hP hD hS => ?_)
  have hP : va_P D classes [(s_a, .inr (8, [.int s_tick, .int s_every, .int (s_round - 1), .int s_inside, .ref s_a_up, .ref s_a_due, .ref s_a_wind])), (s_a_up, .inl (cI, 6, .inl s_up_1)), (s_a_due, .inl (cI, 6, .inl s_due_2)), (s_a_wind, .inl (cI, 6, .inl s_wind_3)), (c_a, .inr (1, [.int c_every, .int c_size, .ref c_a_period, .ref c_a_hang, .ref c_a_start, .ref c_a_wind])), (c_a_period, .inl (cI, 6, .inl c_period)), (c_a_hang, .inl (cI, 6, .inl c_hang))] H := hP
  have hD : va_D A [(s_a, .inr (8, [.int s_tick, .int s_every, .int (s_round - 1), .int s_inside, .ref s_a_up, .ref s_a_due, .ref s_a_wind])), (s_a_up, .inl (cI, 6, .inl s_up_1)), (s_a_due, .inl (cI, 6, .inl s_due_2)), (s_a_wind, .inl (cI, 6, .inl s_wind_3)), (c_a, .inr (1, [.int c_every, .int c_size, .ref c_a_period, .ref c_a_hang, .ref c_a_start, .ref c_a_wind])), (c_a_period, .inl (cI, 6, .inl c_period)), (c_a_hang, .inl (cI, 6, .inl c_hang))] := hD
  refine lv_aload_n hx hb dX8_step_17 rfl (lv_at hl 1 rfl) ?_
  refine va_get (D := D) (ci := 8) (v := .int (s_round - 1)) (C := RX8) (T := TX8) (N := 7) hx hb ht iyX8 hown hK hP 0 rfl rfl 2 (by decide) (ht _ wf_X8_31) (fun _ h9 => h9) rfl dX8_step_18 ?_
  refine lv_if_gt (tgt := 69) hx hb dX8_step_21 (by decide) (fun c_5 => ?_) (fun c_5 => ?_)
  · have hF := zi_pos c_5 hF
    refine lv_aload_n hx hb dX8_step_69 rfl (lv_at hl 1 rfl) ?_
    obtain ⟨s_tick_6, s_up_7, s_due_8, hc_9, hF⟩ := zb3_s hF
    refine zcv_v (ws1 := [(s_a, .inr (8, [.int s_tick_6, .int s_every, .int (s_round - 1), .int s_inside, .ref s_a_up, .ref s_a_due, .ref s_a_wind])), (s_a_up, .inl (cI, 6, .inl s_up_7)), (s_a_due, .inl (cI, 6, .inl s_due_8)), (s_a_wind, .inl (cI, 6, .inl s_wind_3)), (c_a, .inr (1, [.int c_every, .int c_size, .ref c_a_period, .ref c_a_hang, .ref c_a_start, .ref c_a_wind])), (c_a_period, .inl (cI, 6, .inl c_period)), (c_a_hang, .inl (cI, 6, .inl c_hang))]) S hT lk_X8_58 (c_X8_pass l D cI cZ cS cJ s_a s_a_up s_a_due s_a_wind s_tick s_every (s_round - 1) s_inside s_up_1 s_due_2 hc_9) ⟨rfl, rfl, Nat.le_of_ble_eq_true rfl, Nat.le_of_ble_eq_true rfl⟩ hK hP hD hS hA [0, 1, 2] [3, 4, 5, 6] [4, 5, 6, 0, 1, 2, 3] rfl rfl rfl rfl rfl rfl rfl rfl rfl rfl rfl hl.1 rfl (Nat.le_of_ble_eq_true rfl) dX8_step_70 ⟨Nat.zero_le _, Nat.zero_le _⟩ (fun H locs hP hD hS => ?_)
    refine lv_iload_n hx hb dX8_step_73 rfl (lv_at hl 0 rfl) ?_
    obtain ⟨e_0, e_1, e_2, e_3, e_4, e_5, e_6⟩ := zo7 hF
    subst e_0
    subst e_1
    subst e_2
    subst e_3
    subst e_4
    subst e_5
    subst e_6
    exact zret_i S hr hlocks hK hP hD hS dX8_step_74
  · have hF := zi_neg c_5 hF
    refine lv_aload_n hx hb dX8_step_24 rfl (lv_at hl 1 rfl) ?_
    refine va_get (D := D) (ci := 8) (v := .int s_inside) (C := RX8) (T := TX8) (N := 7) hx hb ht iyX8 hown hK hP 0 rfl rfl 3 (by decide) (ht _ wf_X8_37) (fun _ h9 => h9) rfl dX8_step_25 ?_
    refine lv_aload_n hx hb dX8_step_28 rfl (lv_at hl 1 rfl) ?_
    obtain ⟨r_10, hc_11, hF⟩ := zb1_s hF
    refine zcv_i (ws1 := [(s_a, .inr (8, [.int s_tick, .int s_every, .int (s_round - 1), .int s_inside, .ref s_a_up, .ref s_a_due, .ref s_a_wind])), (s_a_up, .inl (cI, 6, .inl s_up_1)), (s_a_due, .inl (cI, 6, .inl s_due_2)), (s_a_wind, .inl (cI, 6, .inl s_wind_3)), (c_a, .inr (1, [.int c_every, .int c_size, .ref c_a_period, .ref c_a_hang, .ref c_a_start, .ref c_a_wind])), (c_a_period, .inl (cI, 6, .inl c_period)), (c_a_hang, .inl (cI, 6, .inl c_hang))]) S hT lk_X8_54 (c_X8_airborne l D cI cZ cS cJ s_a s_a_up s_a_due s_a_wind s_tick s_every (s_round - 1) s_inside s_up_1 hc_11) ⟨rfl, rfl, Nat.le_of_ble_eq_true rfl, Nat.le_of_ble_eq_true rfl⟩ hK hP hD hS hA [0, 1] [2, 3, 4, 5, 6] [5, 6, 0, 1, 2, 3, 4] rfl rfl rfl rfl rfl rfl rfl rfl rfl rfl rfl hl.1 rfl (Nat.le_of_ble_eq_true rfl) dX8_step_29 ⟨Nat.zero_le _, Nat.zero_le _⟩ (fun H locs hP hD hS => ?_)
    refine lv_iconst (v := (-1)) hx hb dX8_step_32 (by decide) ?_
    refine lv_ixor hx hb dX8_step_33 ?_
    refine lv_iand hx hb dX8_step_34 ?_
    refine lv_istore_n (lv' := [(2, .int (s_inside &&& (r_10 ^^^ (-1)))), (0, .ref s_a), (1, .ref c_a)]) hx hb dX8_step_35 rfl hl (by decide) rfl (fun ls hl => ?_)
    refine lv_aload_n hx hb dX8_step_36 rfl (lv_at hl 1 rfl) ?_
    refine lv_dup hx hb dX8_step_37 rfl ?_
    refine va_get (D := D) (ci := 8) (v := .int s_inside) (C := RX8) (T := TX8) (N := 7) hx hb ht iyX8 hown hK hP 0 rfl rfl 3 (by decide) (ht _ wf_X8_37) (fun _ h9 => h9) rfl dX8_step_38 ?_
    refine lv_iload_n hx hb dX8_step_41 rfl (lv_at hl 0 rfl) ?_
    refine lv_iconst (v := (-1)) hx hb dX8_step_42 (by decide) ?_
    refine lv_ixor hx hb dX8_step_43 ?_
    refine lv_iand hx hb dX8_step_44 ?_
    refine va_put (D := D) (ci := 8) (v := .int (s_inside &&& ((s_inside &&& (r_10 ^^^ (-1))) ^^^ (-1)))) (ty := .int) (C := RX8) (T := TX8) (N := 7) hx hb ht iyX8 tyX8 tyX8_ok nmX8 hown hK hP hD hS 0 rfl rfl 3 (by decide) (ht _ wf_X8_37) (fun _ h9 => h9) rfl (by decide +kernel) rfl rfl (Nat.le_of_ble_eq_true rfl) dX8_step_45 (fun H locs hP hD hS => ?_)
    have hP : va_P D classes [(s_a, .inr (8, [.int s_tick, .int s_every, .int (s_round - 1), .int (s_inside &&& ((s_inside &&& (r_10 ^^^ (-1))) ^^^ (-1))), .ref s_a_up, .ref s_a_due, .ref s_a_wind])), (s_a_up, .inl (cI, 6, .inl s_up_1)), (s_a_due, .inl (cI, 6, .inl s_due_2)), (s_a_wind, .inl (cI, 6, .inl s_wind_3)), (c_a, .inr (1, [.int c_every, .int c_size, .ref c_a_period, .ref c_a_hang, .ref c_a_start, .ref c_a_wind])), (c_a_period, .inl (cI, 6, .inl c_period)), (c_a_hang, .inl (cI, 6, .inl c_hang))] H := hP
    have hD : va_D A [(s_a, .inr (8, [.int s_tick, .int s_every, .int (s_round - 1), .int (s_inside &&& ((s_inside &&& (r_10 ^^^ (-1))) ^^^ (-1))), .ref s_a_up, .ref s_a_due, .ref s_a_wind])), (s_a_up, .inl (cI, 6, .inl s_up_1)), (s_a_due, .inl (cI, 6, .inl s_due_2)), (s_a_wind, .inl (cI, 6, .inl s_wind_3)), (c_a, .inr (1, [.int c_every, .int c_size, .ref c_a_period, .ref c_a_hang, .ref c_a_start, .ref c_a_wind])), (c_a_period, .inl (cI, 6, .inl c_period)), (c_a_hang, .inl (cI, 6, .inl c_hang))] := hD
    refine lv_aload_n hx hb dX8_step_48 rfl (lv_at hl 1 rfl) ?_
    refine lv_iload_n hx hb dX8_step_49 rfl (lv_at hl 0 rfl) ?_
    refine lv_if_ne (tgt := 60) hx hb dX8_step_50 (by decide) (fun c_12 => ?_) (fun c_12 => ?_)
    · have hF := zi_neg c_12 hF
      refine lv_aload_n hx hb dX8_step_60 rfl (lv_at hl 1 rfl) ?_
      refine va_get (D := D) (ci := 8) (v := .int s_every) (C := RX8) (T := TX8) (N := 7) hx hb ht iyX8 hown hK hP 0 rfl rfl 1 (by decide) (ht _ wf_X8_30) (fun _ h9 => h9) rfl dX8_step_61 ?_
      refine lv_iconst (v := 1) hx hb dX8_step_64 (by decide) ?_
      refine lv_iadd hx hb dX8_step_65 ?_
      refine va_put (D := D) (ci := 8) (v := .int (s_every + 1)) (ty := .int) (C := RX8) (T := TX8) (N := 7) hx hb ht iyX8 tyX8 tyX8_ok nmX8 hown hK hP hD hS 0 rfl rfl 2 (by decide) (ht _ wf_X8_31) (fun _ h9 => h9) rfl (by decide +kernel) rfl rfl (Nat.le_of_ble_eq_true rfl) dX8_step_66 (fun H locs hP hD hS => ?_)
      have hP : va_P D classes [(s_a, .inr (8, [.int s_tick, .int s_every, .int (s_every + 1), .int (s_inside &&& ((s_inside &&& (r_10 ^^^ (-1))) ^^^ (-1))), .ref s_a_up, .ref s_a_due, .ref s_a_wind])), (s_a_up, .inl (cI, 6, .inl s_up_1)), (s_a_due, .inl (cI, 6, .inl s_due_2)), (s_a_wind, .inl (cI, 6, .inl s_wind_3)), (c_a, .inr (1, [.int c_every, .int c_size, .ref c_a_period, .ref c_a_hang, .ref c_a_start, .ref c_a_wind])), (c_a_period, .inl (cI, 6, .inl c_period)), (c_a_hang, .inl (cI, 6, .inl c_hang))] H := hP
      have hD : va_D A [(s_a, .inr (8, [.int s_tick, .int s_every, .int (s_every + 1), .int (s_inside &&& ((s_inside &&& (r_10 ^^^ (-1))) ^^^ (-1))), .ref s_a_up, .ref s_a_due, .ref s_a_wind])), (s_a_up, .inl (cI, 6, .inl s_up_1)), (s_a_due, .inl (cI, 6, .inl s_due_2)), (s_a_wind, .inl (cI, 6, .inl s_wind_3)), (c_a, .inr (1, [.int c_every, .int c_size, .ref c_a_period, .ref c_a_hang, .ref c_a_start, .ref c_a_wind])), (c_a_period, .inl (cI, 6, .inl c_period)), (c_a_hang, .inl (cI, 6, .inl c_hang))] := hD
      refine lv_aload_n hx hb dX8_step_69 rfl (lv_at hl 1 rfl) ?_
      obtain ⟨s_tick_13, s_up_14, s_due_15, hc_16, hF⟩ := zb3_s hF
      refine zcv_v (ws1 := [(s_a, .inr (8, [.int s_tick_13, .int s_every, .int (s_every + 1), .int (s_inside &&& ((s_inside &&& (r_10 ^^^ (-1))) ^^^ (-1))), .ref s_a_up, .ref s_a_due, .ref s_a_wind])), (s_a_up, .inl (cI, 6, .inl s_up_14)), (s_a_due, .inl (cI, 6, .inl s_due_15)), (s_a_wind, .inl (cI, 6, .inl s_wind_3)), (c_a, .inr (1, [.int c_every, .int c_size, .ref c_a_period, .ref c_a_hang, .ref c_a_start, .ref c_a_wind])), (c_a_period, .inl (cI, 6, .inl c_period)), (c_a_hang, .inl (cI, 6, .inl c_hang))]) S hT lk_X8_58 (c_X8_pass l D cI cZ cS cJ s_a s_a_up s_a_due s_a_wind s_tick s_every (s_every + 1) (s_inside &&& ((s_inside &&& (r_10 ^^^ (-1))) ^^^ (-1))) s_up_1 s_due_2 hc_16) ⟨rfl, rfl, Nat.le_of_ble_eq_true rfl, Nat.le_of_ble_eq_true rfl⟩ hK hP hD hS hA [0, 1, 2] [3, 4, 5, 6] [4, 5, 6, 0, 1, 2, 3] rfl rfl rfl rfl rfl rfl rfl rfl rfl rfl rfl hl.1 rfl (Nat.le_of_ble_eq_true rfl) dX8_step_70 ⟨Nat.zero_le _, Nat.zero_le _⟩ (fun H locs hP hD hS => ?_)
      refine lv_iload_n hx hb dX8_step_73 rfl (lv_at hl 0 rfl) ?_
      obtain ⟨e_0, e_1, e_2, e_3, e_4, e_5, e_6⟩ := zo7 hF
      subst e_0
      subst e_1
      subst e_2
      subst e_3
      subst e_4
      subst e_5
      subst e_6
      exact zret_i S hr hlocks hK hP hD hS dX8_step_74
    · have hF := zi_pos c_12 hF
      refine lv_aload_n hx hb dX8_step_53 rfl (lv_at hl 1 rfl) ?_
      refine va_get (D := D) (ci := 8) (v := .int s_every) (C := RX8) (T := TX8) (N := 7) hx hb ht iyX8 hown hK hP 0 rfl rfl 1 (by decide) (ht _ wf_X8_30) (fun _ h9 => h9) rfl dX8_step_54 ?_
      refine lv_goto (tgt := 66) hx hb dX8_step_57 (by decide) ?_
      refine va_put (D := D) (ci := 8) (v := .int s_every) (ty := .int) (C := RX8) (T := TX8) (N := 7) hx hb ht iyX8 tyX8 tyX8_ok nmX8 hown hK hP hD hS 0 rfl rfl 2 (by decide) (ht _ wf_X8_31) (fun _ h9 => h9) rfl (by decide +kernel) rfl rfl (Nat.le_of_ble_eq_true rfl) dX8_step_66 (fun H locs hP hD hS => ?_)
      have hP : va_P D classes [(s_a, .inr (8, [.int s_tick, .int s_every, .int s_every, .int (s_inside &&& ((s_inside &&& (r_10 ^^^ (-1))) ^^^ (-1))), .ref s_a_up, .ref s_a_due, .ref s_a_wind])), (s_a_up, .inl (cI, 6, .inl s_up_1)), (s_a_due, .inl (cI, 6, .inl s_due_2)), (s_a_wind, .inl (cI, 6, .inl s_wind_3)), (c_a, .inr (1, [.int c_every, .int c_size, .ref c_a_period, .ref c_a_hang, .ref c_a_start, .ref c_a_wind])), (c_a_period, .inl (cI, 6, .inl c_period)), (c_a_hang, .inl (cI, 6, .inl c_hang))] H := hP
      have hD : va_D A [(s_a, .inr (8, [.int s_tick, .int s_every, .int s_every, .int (s_inside &&& ((s_inside &&& (r_10 ^^^ (-1))) ^^^ (-1))), .ref s_a_up, .ref s_a_due, .ref s_a_wind])), (s_a_up, .inl (cI, 6, .inl s_up_1)), (s_a_due, .inl (cI, 6, .inl s_due_2)), (s_a_wind, .inl (cI, 6, .inl s_wind_3)), (c_a, .inr (1, [.int c_every, .int c_size, .ref c_a_period, .ref c_a_hang, .ref c_a_start, .ref c_a_wind])), (c_a_period, .inl (cI, 6, .inl c_period)), (c_a_hang, .inl (cI, 6, .inl c_hang))] := hD
      refine lv_aload_n hx hb dX8_step_69 rfl (lv_at hl 1 rfl) ?_
      obtain ⟨s_tick_17, s_up_18, s_due_19, hc_20, hF⟩ := zb3_s hF
      refine zcv_v (ws1 := [(s_a, .inr (8, [.int s_tick_17, .int s_every, .int s_every, .int (s_inside &&& ((s_inside &&& (r_10 ^^^ (-1))) ^^^ (-1))), .ref s_a_up, .ref s_a_due, .ref s_a_wind])), (s_a_up, .inl (cI, 6, .inl s_up_18)), (s_a_due, .inl (cI, 6, .inl s_due_19)), (s_a_wind, .inl (cI, 6, .inl s_wind_3)), (c_a, .inr (1, [.int c_every, .int c_size, .ref c_a_period, .ref c_a_hang, .ref c_a_start, .ref c_a_wind])), (c_a_period, .inl (cI, 6, .inl c_period)), (c_a_hang, .inl (cI, 6, .inl c_hang))]) S hT lk_X8_58 (c_X8_pass l D cI cZ cS cJ s_a s_a_up s_a_due s_a_wind s_tick s_every s_every (s_inside &&& ((s_inside &&& (r_10 ^^^ (-1))) ^^^ (-1))) s_up_1 s_due_2 hc_20) ⟨rfl, rfl, Nat.le_of_ble_eq_true rfl, Nat.le_of_ble_eq_true rfl⟩ hK hP hD hS hA [0, 1, 2] [3, 4, 5, 6] [4, 5, 6, 0, 1, 2, 3] rfl rfl rfl rfl rfl rfl rfl rfl rfl rfl rfl hl.1 rfl (Nat.le_of_ble_eq_true rfl) dX8_step_70 ⟨Nat.zero_le _, Nat.zero_le _⟩ (fun H locs hP hD hS => ?_)
      refine lv_iload_n hx hb dX8_step_73 rfl (lv_at hl 0 rfl) ?_
      obtain ⟨e_0, e_1, e_2, e_3, e_4, e_5, e_6⟩ := zo7 hF
      subst e_0
      subst e_1
      subst e_2
      subst e_3
      subst e_4
      subst e_5
      subst e_6
      exact zret_i S hr hlocks hK hP hD hS dX8_step_74

def F_X8_turn (s_every : Int32) (s_round : Int32) (p1 : Int32) : Option (Int32 × Int32) :=
  (if p1 = s_every then some (s_every, s_round) else some (p1, if p1 < s_round then p1 else s_round))
set_option maxHeartbeats 4000000 in
set_option maxRecDepth 100000 in
theorem c_X8_turn (l : Launch) (D : va_G) (cI cZ cS cJ : ClassId) (s_a : Nat) (s_a_up : Nat) (s_a_due : Nat) (s_a_wind : Nat) (s_tick : Int32) (s_every : Int32) (s_round : Int32) (s_inside : Int32) (p1 : Int32) {s_every_o : Int32} {s_round_o : Int32} (hF : F_X8_turn s_every s_round p1 = some (s_every_o, s_round_o)) : zMv l yX8_turn (zwl yX8_turn cX8_turn 2 none) { frames := 1, cells := 0, slots := 0, locals := 14 } D (TYS cI cZ cS cJ) [.ref s_a, .int p1] [(s_a, .inr (8, [.int s_tick, .int s_every, .int s_round, .int s_inside, .ref s_a_up, .ref s_a_due, .ref s_a_wind]))] [(s_a, .inr (8, [.int s_tick, .int s_every_o, .int s_round_o, .int s_inside, .ref s_a_up, .ref s_a_due, .ref s_a_wind]))] := by
  refine zent_v (own := RX8) (by decide) rfl (Nat.le_of_ble_eq_true rfl) ?_
  intro p e s m below meth c A ls S hr hlocks hK hP hD hA hl
  have hx := S.1
  have hb := S.2.1
  have hml := S.2.2.1
  have hown := S.2.2.2.1
  have hT : ∀ w ∈ zt, w ∈ zwl yX8_turn cX8_turn 2 none := fun _ h => List.mem_cons_of_mem _ h
  have ht : ∀ w ∈ zt, w.before [.ref s_a, .int p1].toArray s = true := fun w h => S.2.2.2.2 w (hT w h)
  have hl : lv_has ls 2 [(0, .ref s_a), (1, .int p1)] := hl
  have hS : va_S A s.heap s.heap [] := va_S.rf
  unfold F_X8_turn at hF
  refine lv_iload_n hx hb dX8_turn_0 rfl (lv_at hl 1 rfl) ?_
  refine lv_aload_n hx hb dX8_turn_1 rfl (lv_at hl 0 rfl) ?_
  refine va_get (D := D) (ci := 8) (v := .int s_every) (C := RX8) (T := TX8) (N := 7) hx hb ht iyX8 hown hK hP 0 rfl rfl 1 (by decide) (ht _ wf_X8_30) (fun _ h9 => h9) rfl dX8_turn_2 ?_
  refine lv_icmp_ne (tgt := 9) hx hb dX8_turn_5 (by decide) (fun c_1 => ?_) (fun c_1 => ?_)
  · have hF := zi_neg c_1 hF
    refine lv_aload_n hx hb dX8_turn_9 rfl (lv_at hl 0 rfl) ?_
    refine lv_iload_n hx hb dX8_turn_10 rfl (lv_at hl 1 rfl) ?_
    refine va_put (D := D) (ci := 8) (v := .int p1) (ty := .int) (C := RX8) (T := TX8) (N := 7) hx hb ht iyX8 tyX8 tyX8_ok nmX8 hown hK hP hD hS 0 rfl rfl 1 (by decide) (ht _ wf_X8_30) (fun _ h9 => h9) rfl (by decide +kernel) rfl rfl (Nat.le_of_ble_eq_true rfl) dX8_turn_11 (fun H locs hP hD hS => ?_)
    have hP : va_P D classes [(s_a, .inr (8, [.int s_tick, .int p1, .int s_round, .int s_inside, .ref s_a_up, .ref s_a_due, .ref s_a_wind]))] H := hP
    have hD : va_D A [(s_a, .inr (8, [.int s_tick, .int p1, .int s_round, .int s_inside, .ref s_a_up, .ref s_a_due, .ref s_a_wind]))] := hD
    refine lv_aload_n hx hb dX8_turn_14 rfl (lv_at hl 0 rfl) ?_
    refine lv_aload_n hx hb dX8_turn_15 rfl (lv_at hl 0 rfl) ?_
    refine va_get (D := D) (ci := 8) (v := .int s_round) (C := RX8) (T := TX8) (N := 7) hx hb ht iyX8 hown hK hP 0 rfl rfl 2 (by decide) (ht _ wf_X8_31) (fun _ h9 => h9) rfl dX8_turn_16 ?_
    refine lv_iload_n hx hb dX8_turn_19 rfl (lv_at hl 1 rfl) ?_
    refine va_mmin hx hb (hml.trans hl.1.symm) hown (ht _ wm_X8_71) (ht _ ws_J9_min_7cf53) (ht _ wi_J9) (ht _ wd_J9_min_7cf53) (Nat.le_of_ble_eq_true rfl) (Nat.le_of_ble_eq_true rfl) (Nat.zero_le _) (Nat.zero_le _) dX8_turn_20 ?_
    refine va_put (D := D) (ci := 8) (v := .int (if p1 < s_round then p1 else s_round)) (ty := .int) (C := RX8) (T := TX8) (N := 7) hx hb ht iyX8 tyX8 tyX8_ok nmX8 hown hK hP hD hS 0 rfl rfl 2 (by decide) (ht _ wf_X8_31) (fun _ h9 => h9) rfl (by decide +kernel) rfl rfl (Nat.le_of_ble_eq_true rfl) dX8_turn_23 (fun H locs hP hD hS => ?_)
    have hP : va_P D classes [(s_a, .inr (8, [.int s_tick, .int p1, .int (if p1 < s_round then p1 else s_round), .int s_inside, .ref s_a_up, .ref s_a_due, .ref s_a_wind]))] H := hP
    have hD : va_D A [(s_a, .inr (8, [.int s_tick, .int p1, .int (if p1 < s_round then p1 else s_round), .int s_inside, .ref s_a_up, .ref s_a_due, .ref s_a_wind]))] := hD
    obtain ⟨e_0, e_1⟩ := zo2 hF
    subst e_0
    subst e_1
    exact zret_v S hr hlocks hK hP hD hS dX8_turn_26
  · have hF := zi_pos c_1 hF
    obtain ⟨e_0, e_1⟩ := zo2 hF
    subst e_0
    subst e_1
    exact zret_v S hr hlocks hK hP hD hS dX8_turn_8

def F_X8_leave (s_inside : Int32) (p1 : Int32) : Option (Int32) :=
  some (s_inside &&& (((1 : Int32) <<< (p1 &&& 31)) ^^^ (-1)))
set_option maxHeartbeats 4000000 in
set_option maxRecDepth 100000 in
theorem c_X8_leave (l : Launch) (D : va_G) (cI cZ cS cJ : ClassId) (s_a : Nat) (s_a_up : Nat) (s_a_due : Nat) (s_a_wind : Nat) (s_tick : Int32) (s_every : Int32) (s_round : Int32) (s_inside : Int32) (p1 : Int32) {s_inside_o : Int32} (hF : F_X8_leave s_inside p1 = some (s_inside_o)) : zMv l yX8_leave (zwl yX8_leave cX8_leave 2 none) { frames := 0, cells := 0, slots := 0, locals := 0 } D (TYS cI cZ cS cJ) [.ref s_a, .int p1] [(s_a, .inr (8, [.int s_tick, .int s_every, .int s_round, .int s_inside, .ref s_a_up, .ref s_a_due, .ref s_a_wind]))] [(s_a, .inr (8, [.int s_tick, .int s_every, .int s_round, .int s_inside_o, .ref s_a_up, .ref s_a_due, .ref s_a_wind]))] := by
  refine zent_v (own := RX8) (by decide) rfl (Nat.le_of_ble_eq_true rfl) ?_
  intro p e s m below meth c A ls S hr hlocks hK hP hD hA hl
  have hx := S.1
  have hb := S.2.1
  have hml := S.2.2.1
  have hown := S.2.2.2.1
  have hT : ∀ w ∈ zt, w ∈ zwl yX8_leave cX8_leave 2 none := fun _ h => List.mem_cons_of_mem _ h
  have ht : ∀ w ∈ zt, w.before [.ref s_a, .int p1].toArray s = true := fun w h => S.2.2.2.2 w (hT w h)
  have hl : lv_has ls 2 [(0, .ref s_a), (1, .int p1)] := hl
  have hS : va_S A s.heap s.heap [] := va_S.rf
  unfold F_X8_leave at hF
  refine lv_aload_n hx hb dX8_leave_0 rfl (lv_at hl 0 rfl) ?_
  refine lv_dup hx hb dX8_leave_1 rfl ?_
  refine va_get (D := D) (ci := 8) (v := .int s_inside) (C := RX8) (T := TX8) (N := 7) hx hb ht iyX8 hown hK hP 0 rfl rfl 3 (by decide) (ht _ wf_X8_37) (fun _ h9 => h9) rfl dX8_leave_2 ?_
  refine lv_iconst (v := 1) hx hb dX8_leave_5 (by decide) ?_
  refine lv_iload_n hx hb dX8_leave_6 rfl (lv_at hl 1 rfl) ?_
  refine lv_ishl hx hb dX8_leave_7 ?_
  refine lv_iconst (v := (-1)) hx hb dX8_leave_8 (by decide) ?_
  refine lv_ixor hx hb dX8_leave_9 ?_
  refine lv_iand hx hb dX8_leave_10 ?_
  refine va_put (D := D) (ci := 8) (v := .int (s_inside &&& (((1 : Int32) <<< (p1 &&& 31)) ^^^ (-1)))) (ty := .int) (C := RX8) (T := TX8) (N := 7) hx hb ht iyX8 tyX8 tyX8_ok nmX8 hown hK hP hD hS 0 rfl rfl 3 (by decide) (ht _ wf_X8_37) (fun _ h9 => h9) rfl (by decide +kernel) rfl rfl (Nat.le_of_ble_eq_true rfl) dX8_leave_11 (fun H locs hP hD hS => ?_)
  have hP : va_P D classes [(s_a, .inr (8, [.int s_tick, .int s_every, .int s_round, .int (s_inside &&& (((1 : Int32) <<< (p1 &&& 31)) ^^^ (-1))), .ref s_a_up, .ref s_a_due, .ref s_a_wind]))] H := hP
  have hD : va_D A [(s_a, .inr (8, [.int s_tick, .int s_every, .int s_round, .int (s_inside &&& (((1 : Int32) <<< (p1 &&& 31)) ^^^ (-1))), .ref s_a_up, .ref s_a_due, .ref s_a_wind]))] := hD
  have e_0 := zo1 hF
  subst e_0
  exact zret_v S hr hlocks hK hP hD hS dX8_leave_14

def F_X8_enter (s_inside : Int32) (s_up : Nat → Int32) (s_due : Nat → Int32) (p1 : Int32) (p2 : Int32) : Option (Int32 × (Nat → Int32) × (Nat → Int32)) :=
  (if (p1 < 0 ∨ 6 ≤ p1.toNatClampNeg) then none else some (s_inside ||| ((1 : Int32) <<< (p1 &&& 31)), upd s_up p1.toNatClampNeg 0, upd s_due p1.toNatClampNeg p2))
set_option maxHeartbeats 4000000 in
set_option maxRecDepth 100000 in
theorem c_X8_enter (l : Launch) (D : va_G) (cI cZ cS cJ : ClassId) (s_a : Nat) (s_a_up : Nat) (s_a_due : Nat) (s_a_wind : Nat) (s_tick : Int32) (s_every : Int32) (s_round : Int32) (s_inside : Int32) (s_up : Nat → Int32) (s_due : Nat → Int32) (p1 : Int32) (p2 : Int32) {s_inside_o : Int32} {s_up_o : Nat → Int32} {s_due_o : Nat → Int32} (hF : F_X8_enter s_inside s_up s_due p1 p2 = some (s_inside_o, s_up_o, s_due_o)) : zMv l yX8_enter (zwl yX8_enter cX8_enter 3 none) { frames := 0, cells := 0, slots := 0, locals := 0 } D (TYS cI cZ cS cJ) [.ref s_a, .int p1, .int p2] [(s_a, .inr (8, [.int s_tick, .int s_every, .int s_round, .int s_inside, .ref s_a_up, .ref s_a_due, .ref s_a_wind])), (s_a_up, .inl (cI, 6, .inl s_up)), (s_a_due, .inl (cI, 6, .inl s_due))] [(s_a, .inr (8, [.int s_tick, .int s_every, .int s_round, .int s_inside_o, .ref s_a_up, .ref s_a_due, .ref s_a_wind])), (s_a_up, .inl (cI, 6, .inl s_up_o)), (s_a_due, .inl (cI, 6, .inl s_due_o))] := by
  refine zent_v (own := RX8) (by decide) rfl (Nat.le_of_ble_eq_true rfl) ?_
  intro p e s m below meth c A ls S hr hlocks hK hP hD hA hl
  have hx := S.1
  have hb := S.2.1
  have hml := S.2.2.1
  have hown := S.2.2.2.1
  have hT : ∀ w ∈ zt, w ∈ zwl yX8_enter cX8_enter 3 none := fun _ h => List.mem_cons_of_mem _ h
  have ht : ∀ w ∈ zt, w.before [.ref s_a, .int p1, .int p2].toArray s = true := fun w h => S.2.2.2.2 w (hT w h)
  have hl : lv_has ls 3 [(0, .ref s_a), (1, .int p1), (2, .int p2)] := hl
  have hS : va_S A s.heap s.heap [] := va_S.rf
  unfold F_X8_enter at hF
  refine lv_aload_n hx hb dX8_enter_0 rfl (lv_at hl 0 rfl) ?_
  refine lv_dup hx hb dX8_enter_1 rfl ?_
  refine va_get (D := D) (ci := 8) (v := .int s_inside) (C := RX8) (T := TX8) (N := 7) hx hb ht iyX8 hown hK hP 0 rfl rfl 3 (by decide) (ht _ wf_X8_37) (fun _ h9 => h9) rfl dX8_enter_2 ?_
  refine lv_iconst (v := 1) hx hb dX8_enter_5 (by decide) ?_
  refine lv_iload_n hx hb dX8_enter_6 rfl (lv_at hl 1 rfl) ?_
  refine lv_ishl hx hb dX8_enter_7 ?_
  refine lv_ior hx hb dX8_enter_8 ?_
  refine va_put (D := D) (ci := 8) (v := .int (s_inside ||| ((1 : Int32) <<< (p1 &&& 31)))) (ty := .int) (C := RX8) (T := TX8) (N := 7) hx hb ht iyX8 tyX8 tyX8_ok nmX8 hown hK hP hD hS 0 rfl rfl 3 (by decide) (ht _ wf_X8_37) (fun _ h9 => h9) rfl (by decide +kernel) rfl rfl (Nat.le_of_ble_eq_true rfl) dX8_enter_9 (fun H locs hP hD hS => ?_)
  have hP : va_P D classes [(s_a, .inr (8, [.int s_tick, .int s_every, .int s_round, .int (s_inside ||| ((1 : Int32) <<< (p1 &&& 31))), .ref s_a_up, .ref s_a_due, .ref s_a_wind])), (s_a_up, .inl (cI, 6, .inl s_up)), (s_a_due, .inl (cI, 6, .inl s_due))] H := hP
  have hD : va_D A [(s_a, .inr (8, [.int s_tick, .int s_every, .int s_round, .int (s_inside ||| ((1 : Int32) <<< (p1 &&& 31))), .ref s_a_up, .ref s_a_due, .ref s_a_wind])), (s_a_up, .inl (cI, 6, .inl s_up)), (s_a_due, .inl (cI, 6, .inl s_due))] := hD
  refine lv_aload_n hx hb dX8_enter_12 rfl (lv_at hl 0 rfl) ?_
  refine va_get (D := D) (ci := 8) (v := .ref s_a_up) (C := RX8) (T := TX8) (N := 7) hx hb ht iyX8 hown hK hP 0 rfl rfl 4 (by decide) (ht _ wf_X8_9) (fun _ h9 => h9) rfl dX8_enter_13 ?_
  refine lv_iload_n hx hb dX8_enter_16 rfl (lv_at hl 1 rfl) ?_
  refine lv_iconst (v := 0) hx hb dX8_enter_17 (by decide) ?_
  obtain ⟨h_1, hF⟩ := zi_chk hF
  refine va_iast hx hb hK hP hD hS 1 0 rfl rfl h_1 dX8_enter_18 (fun H locs hP hD hS => ?_)
  have hP : va_P D classes [(s_a, .inr (8, [.int s_tick, .int s_every, .int s_round, .int (s_inside ||| ((1 : Int32) <<< (p1 &&& 31))), .ref s_a_up, .ref s_a_due, .ref s_a_wind])), (s_a_up, .inl (cI, 6, .inl (upd s_up p1.toNatClampNeg 0))), (s_a_due, .inl (cI, 6, .inl s_due))] H := hP
  have hD : va_D A [(s_a, .inr (8, [.int s_tick, .int s_every, .int s_round, .int (s_inside ||| ((1 : Int32) <<< (p1 &&& 31))), .ref s_a_up, .ref s_a_due, .ref s_a_wind])), (s_a_up, .inl (cI, 6, .inl (upd s_up p1.toNatClampNeg 0))), (s_a_due, .inl (cI, 6, .inl s_due))] := hD
  refine lv_aload_n hx hb dX8_enter_19 rfl (lv_at hl 0 rfl) ?_
  refine va_get (D := D) (ci := 8) (v := .ref s_a_due) (C := RX8) (T := TX8) (N := 7) hx hb ht iyX8 hown hK hP 0 rfl rfl 5 (by decide) (ht _ wf_X8_15) (fun _ h9 => h9) rfl dX8_enter_20 ?_
  refine lv_iload_n hx hb dX8_enter_23 rfl (lv_at hl 1 rfl) ?_
  refine lv_iload_n hx hb dX8_enter_24 rfl (lv_at hl 2 rfl) ?_
  refine va_iast hx hb hK hP hD hS 2 0 rfl rfl h_1 dX8_enter_25 (fun H locs hP hD hS => ?_)
  have hP : va_P D classes [(s_a, .inr (8, [.int s_tick, .int s_every, .int s_round, .int (s_inside ||| ((1 : Int32) <<< (p1 &&& 31))), .ref s_a_up, .ref s_a_due, .ref s_a_wind])), (s_a_up, .inl (cI, 6, .inl (upd s_up p1.toNatClampNeg 0))), (s_a_due, .inl (cI, 6, .inl (upd s_due p1.toNatClampNeg p2)))] H := hP
  have hD : va_D A [(s_a, .inr (8, [.int s_tick, .int s_every, .int s_round, .int (s_inside ||| ((1 : Int32) <<< (p1 &&& 31))), .ref s_a_up, .ref s_a_due, .ref s_a_wind])), (s_a_up, .inl (cI, 6, .inl (upd s_up p1.toNatClampNeg 0))), (s_a_due, .inl (cI, 6, .inl (upd s_due p1.toNatClampNeg p2)))] := hD
  obtain ⟨e_0, e_1, e_2⟩ := zo3 hF
  subst e_0
  subst e_1
  subst e_2
  exact zret_v S hr hlocks hK hP hD hS dX8_enter_26
