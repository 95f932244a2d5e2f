def F_X5_worth (x_asked : Int64) (s_wind : Nat → Int32) (p2 : Int32) : Option (Int32 × Int64) :=
  (if (p2 < 0 ∨ 6 ≤ p2.toNatClampNeg) then none else some (s_wind p2.toNatClampNeg, x_asked + 1))
set_option maxHeartbeats 4000000 in
set_option maxRecDepth 100000 in
theorem c_X5_worth (l : Launch) (D : va_G) (cI cZ cS cJ : ClassId) (x_a : Nat) (t_a : Nat) (c_a : Nat) (d_a : Nat) (s_a : Nat) (u_a : Nat) (q_a : Nat) (i_a : Nat) (k_a : Nat) (w_a : Nat) (n_a : Nat) (s_a_up : Nat) (s_a_due : Nat) (s_a_wind : Nat) (b_a : Nat) (x_asked : Int64) (s_tick : Int32) (s_every : Int32) (s_round : Int32) (s_inside : Int32) (s_wind : Nat → Int32) (p2 : Int32) {r_o : Int32} {x_asked_o : Int64} (hF : F_X5_worth x_asked s_wind p2 = some (r_o, x_asked_o)) : zMni l yX5_worth (zwl yX5_worth cX5_worth 3 (some .int)) { frames := 0, cells := 0, slots := 0, locals := 0 } D (TYS cI cZ cS cJ) [.ref b_a, .ref x_a, .int p2] [(x_a, .inr (11, [.ref t_a, .ref c_a, .ref d_a, .ref s_a, .ref u_a, .ref q_a, .ref i_a, .ref k_a, .ref w_a, .ref n_a, .long x_asked])), (s_a, .inr (8, [.int s_tick, .int s_every, .int s_round, .int s_inside, .ref s_a_up, .ref s_a_due, .ref s_a_wind])), (s_a_wind, .inl (cI, 6, .inl s_wind))] [(x_a, .inr (11, [.ref t_a, .ref c_a, .ref d_a, .ref s_a, .ref u_a, .ref q_a, .ref i_a, .ref k_a, .ref w_a, .ref n_a, .long x_asked_o])), (s_a, .inr (8, [.int s_tick, .int s_every, .int s_round, .int s_inside, .ref s_a_up, .ref s_a_due, .ref s_a_wind])), (s_a_wind, .inl (cI, 6, .inl s_wind))] r_o := by
  refine zent_ni (own := RX5) (by decide) rfl (Nat.le_of_ble_eq_true rfl) ?_
  intro p e s m below meth c A ls S hr hlocks hK hP hD hA hl hN
  have hx := S.1
  have hb := S.2.1
  have hml := S.2.2.1
  have hown := S.2.2.2.1
  have hT : ∀ w ∈ zt, w ∈ zwl yX5_worth cX5_worth 3 (some .int) := fun _ h => List.mem_cons_of_mem _ h
  have ht : ∀ w ∈ zt, w.before [.ref b_a, .ref x_a, .int p2].toArray s = true := fun w h => S.2.2.2.2 w (hT w h)
  have hl : lv_has ls 3 [(0, .ref b_a), (1, .ref x_a), (2, .int p2)] := hl
  have hS : va_S A s.heap s.heap [] := va_S.rf
  unfold F_X5_worth at hF
  refine lv_aload_n hx hb dX5_worth_0 rfl (lv_at hl 1 rfl) ?_
  refine lv_dup hx hb dX5_worth_1 rfl ?_
  refine va_getN (D := D) (ci := 11) (v := .long x_asked) (C := RX11) (T := TX11) (N := 11) hx hb ht iyX11 hown hK hP 0 rfl rfl 10 (by decide) (va_Nw.use rfl (hN _ (List.mem_filter.mpr ⟨wf_X5_7, rfl⟩))) (fun _ h9 => h9) rfl dX5_worth_2 ?_
  refine lv_lconst (v := 1) hx hb dX5_worth_5 (by decide) ?_
  refine lv_ladd hx hb dX5_worth_6 ?_
  refine va_putN (D := D) (ci := 11) (v := .long (x_asked + 1)) (ty := .long) (C := RX11) (T := TX11) (N := 11) hx hb ht iyX11 tyX11 tyX11_ok nmX11 hown hK hP hD hS 0 rfl rfl 10 (by decide) (va_Nw.use rfl (hN _ (List.mem_filter.mpr ⟨wf_X5_7, rfl⟩))) (fun _ h9 => h9) rfl (by decide +kernel) rfl rfl (Nat.le_of_ble_eq_true rfl) dX5_worth_7 (fun H locs hP hD hS => ?_)
  have hP : va_P D classes [(x_a, .inr (11, [.ref t_a, .ref c_a, .ref d_a, .ref s_a, .ref u_a, .ref q_a, .ref i_a, .ref k_a, .ref w_a, .ref n_a, .long (x_asked + 1)])), (s_a, .inr (8, [.int s_tick, .int s_every, .int s_round, .int s_inside, .ref s_a_up, .ref s_a_due, .ref s_a_wind])), (s_a_wind, .inl (cI, 6, .inl s_wind))] H := hP
  have hD : va_D A [(x_a, .inr (11, [.ref t_a, .ref c_a, .ref d_a, .ref s_a, .ref u_a, .ref q_a, .ref i_a, .ref k_a, .ref w_a, .ref n_a, .long (x_asked + 1)])), (s_a, .inr (8, [.int s_tick, .int s_every, .int s_round, .int s_inside, .ref s_a_up, .ref s_a_due, .ref s_a_wind])), (s_a_wind, .inl (cI, 6, .inl s_wind))] := hD
  refine lv_aload_n hx hb dX5_worth_10 rfl (lv_at hl 1 rfl) ?_
  refine va_getN (D := D) (ci := 11) (v := .ref s_a) (C := RX11) (T := TX11) (N := 11) hx hb ht iyX11 hown hK hP 0 rfl rfl 3 (by decide) (va_Nw.use rfl (hN _ (List.mem_filter.mpr ⟨wf_X5_13, rfl⟩))) (fun _ h9 => h9) rfl dX5_worth_11 ?_
  refine va_get (D := D) (ci := 8) (v := .ref s_a_wind) (C := RX8) (T := TX8) (N := 7) hx hb ht iyX8 hown hK hP 1 rfl rfl 6 (by decide) (ht _ wf_X5_17) (fun _ h9 => h9) rfl dX5_worth_14 ?_
  refine lv_iload_n hx hb dX5_worth_17 rfl (lv_at hl 2 rfl) ?_
  obtain ⟨h_1, hF⟩ := zi_chk hF
  refine va_iald hx hb hK hP 2 0 rfl rfl h_1 dX5_worth_18 ?_
  obtain ⟨e_0, e_1⟩ := zo2 hF
  subst e_0
  subst e_1
  exact zret_i S hr hlocks hK hP hD hS dX5_worth_19

theorem lu_X0_15 : zLu RX0 15 yX5_worth cX5_worth 3 (some .int) 2 := ⟨⟨wm_X0_15, wS_X5, wu_X0, wo_X5_worth, wi_X5, wd_X5_worth⟩, by decide, by decide +kernel⟩
def F_X0_worth (x_asked : Int64) (s_wind : Nat → Int32) (c_hang : Nat → Int32) (p2 : Int32) : Option (Int32 × Int64) :=
  (zb2 (F_X5_worth (x_asked + 10) s_wind p2) (fun r_1 x_asked_2 => (if (p2 < 0 ∨ 6 ≤ p2.toNatClampNeg) then none else some (r_1 + (c_hang p2.toNatClampNeg), x_asked_2))))
set_option maxHeartbeats 4000000 in
set_option maxRecDepth 100000 in
theorem c_X0_worth (l : Launch) (D : va_G) (cI cZ cS cJ : ClassId) (b_a : Nat) (x_a : Nat) (t_a : Nat) (c_a : Nat) (d_a : Nat) (s_a : Nat) (u_a : Nat) (q_a : Nat) (i_a : Nat) (k_a : Nat) (w_a : Nat) (n_a : Nat) (s_a_up : Nat) (s_a_due : Nat) (s_a_wind : Nat) (c_a_period : Nat) (c_a_hang : Nat) (c_a_start : Nat) (c_a_wind : Nat) (x_asked : Int64) (s_tick : Int32) (s_every : Int32) (s_round : Int32) (s_inside : Int32) (s_wind : Nat → Int32) (c_every : Int32) (c_size : Int32) (c_hang : Nat → Int32) (p2 : Int32) {r_o : Int32} {x_asked_o : Int64} (hF : F_X0_worth x_asked s_wind c_hang p2 = some (r_o, x_asked_o)) : zMni l yX0_worth (zwl yX0_worth cX0_worth 3 (some .int)) { frames := 1, cells := 0, slots := 0, locals := 22 } D (TYS cI cZ cS cJ) [.ref b_a, .ref x_a, .int p2] [(b_a, .inr (0, [])), (x_a, .inr (11, [.ref t_a, .ref c_a, .ref d_a, .ref s_a, .ref u_a, .ref q_a, .ref i_a, .ref k_a, .ref w_a, .ref n_a, .long x_asked])), (s_a, .inr (8, [.int s_tick, .int s_every, .int s_round, .int s_inside, .ref s_a_up, .ref s_a_due, .ref s_a_wind])), (s_a_wind, .inl (cI, 6, .inl s_wind)), (c_a, .inr (1, [.int c_every, .int c_size, .ref c_a_period, .ref c_a_hang, .ref c_a_start, .ref c_a_wind])), (c_a_hang, .inl (cI, 6, .inl c_hang))] [(b_a, .inr (0, [])), (x_a, .inr (11, [.ref t_a, .ref c_a, .ref d_a, .ref s_a, .ref u_a, .ref q_a, .ref i_a, .ref k_a, .ref w_a, .ref n_a, .long x_asked_o])), (s_a, .inr (8, [.int s_tick, .int s_every, .int s_round, .int s_inside, .ref s_a_up, .ref s_a_due, .ref s_a_wind])), (s_a_wind, .inl (cI, 6, .inl s_wind)), (c_a, .inr (1, [.int c_every, .int c_size, .ref c_a_period, .ref c_a_hang, .ref c_a_start, .ref c_a_wind])), (c_a_hang, .inl (cI, 6, .inl c_hang))] r_o := by
  refine zent_ni (own := RX0) (by decide) rfl (Nat.le_of_ble_eq_true rfl) ?_
  intro p e s m below meth c A ls S hr hlocks hK hP hD hA hl hN
  have hx := S.1
  have hb := S.2.1
  have hml := S.2.2.1
  have hown := S.2.2.2.1
  have hT : ∀ w ∈ zt, w ∈ zwl yX0_worth cX0_worth 3 (some .int) := fun _ h => List.mem_cons_of_mem _ h
  have ht : ∀ w ∈ zt, w.before [.ref b_a, .ref x_a, .int p2].toArray s = true := fun w h => S.2.2.2.2 w (hT w h)
  have hl : lv_has ls 3 [(0, .ref b_a), (1, .ref x_a), (2, .int p2)] := hl
  have hS : va_S A s.heap s.heap [] := va_S.rf
  unfold F_X0_worth at hF
  refine lv_aload_n hx hb dX0_worth_0 rfl (lv_at hl 1 rfl) ?_
  refine lv_dup hx hb dX0_worth_1 rfl ?_
  refine va_getN (D := D) (ci := 11) (v := .long x_asked) (C := RX11) (T := TX11) (N := 11) hx hb ht iyX11 hown hK hP 1 rfl rfl 10 (by decide) (va_Nw.use rfl (hN _ (List.mem_filter.mpr ⟨wf_X0_7, rfl⟩))) (fun _ h9 => h9) rfl dX0_worth_2 ?_
  refine lv_ldc2 (v := 10) hx hb hown (ht _ wc_X0_13) dX0_worth_5 ?_
  refine lv_ladd hx hb dX0_worth_8 ?_
  refine va_putN (D := D) (ci := 11) (v := .long (x_asked + 10)) (ty := .long) (C := RX11) (T := TX11) (N := 11) hx hb ht iyX11 tyX11 tyX11_ok nmX11 hown hK hP hD hS 1 rfl rfl 10 (by decide) (va_Nw.use rfl (hN _ (List.mem_filter.mpr ⟨wf_X0_7, rfl⟩))) (fun _ h9 => h9) rfl (by decide +kernel) rfl rfl (Nat.le_of_ble_eq_true rfl) dX0_worth_9 (fun H locs hP hD hS => ?_)
  have hP : va_P D classes [(b_a, .inr (0, [])), (x_a, .inr (11, [.ref t_a, .ref c_a, .ref d_a, .ref s_a, .ref u_a, .ref q_a, .ref i_a, .ref k_a, .ref w_a, .ref n_a, .long (x_asked + 10)])), (s_a, .inr (8, [.int s_tick, .int s_every, .int s_round, .int s_inside, .ref s_a_up, .ref s_a_due, .ref s_a_wind])), (s_a_wind, .inl (cI, 6, .inl s_wind)), (c_a, .inr (1, [.int c_every, .int c_size, .ref c_a_period, .ref c_a_hang, .ref c_a_start, .ref c_a_wind])), (c_a_hang, .inl (cI, 6, .inl c_hang))] H := hP
  have hD : va_D A [(b_a, .inr (0, [])), (x_a, .inr (11, [.ref t_a, .ref c_a, .ref d_a, .ref s_a, .ref u_a, .ref q_a, .ref i_a, .ref k_a, .ref w_a, .ref n_a, .long (x_asked + 10)])), (s_a, .inr (8, [.int s_tick, .int s_every, .int s_round, .int s_inside, .ref s_a_up, .ref s_a_due, .ref s_a_wind])), (s_a_wind, .inl (cI, 6, .inl s_wind)), (c_a, .inr (1, [.int c_every, .int c_size, .ref c_a_period, .ref c_a_hang, .ref c_a_start, .ref c_a_wind])), (c_a_hang, .inl (cI, 6, .inl c_hang))] := hD
  refine lv_aload_n hx hb dX0_worth_12 rfl (lv_at hl 0 rfl) ?_
  refine lv_aload_n hx hb dX0_worth_13 rfl (lv_at hl 1 rfl) ?_
  refine lv_iload_n hx hb dX0_worth_14 rfl (lv_at hl 2 rfl) ?_
  obtain ⟨r_1, x_asked_2, hc_3, hF⟩ := zb2_s hF
  refine zcu_ni (ws1 := [(b_a, .inr (0, [])), (x_a, .inr (11, [.ref t_a, .ref c_a, .ref d_a, .ref s_a, .ref u_a, .ref q_a, .ref i_a, .ref k_a, .ref w_a, .ref n_a, .long x_asked_2])), (s_a, .inr (8, [.int s_tick, .int s_every, .int s_round, .int s_inside, .ref s_a_up, .ref s_a_due, .ref s_a_wind])), (s_a_wind, .inl (cI, 6, .inl s_wind)), (c_a, .inr (1, [.int c_every, .int c_size, .ref c_a_period, .ref c_a_hang, .ref c_a_start, .ref c_a_wind])), (c_a_hang, .inl (cI, 6, .inl c_hang))]) S hT lu_X0_15 (c_X5_worth l D cI cZ cS cJ x_a t_a c_a d_a s_a u_a q_a i_a k_a w_a n_a s_a_up s_a_due s_a_wind b_a (x_asked + 10) s_tick s_every s_round s_inside s_wind p2 hc_3) ⟨rfl, rfl, Nat.le_of_ble_eq_true rfl, Nat.le_of_ble_eq_true rfl⟩ hN hK hP hD hS hA 0 [1, 2, 3] [0, 4, 5] [0, 3, 4, 5, 1, 2] rfl rfl rfl rfl rfl rfl rfl rfl rfl rfl hl.1 rfl (Nat.le_of_ble_eq_true rfl) dX0_worth_15 ⟨Nat.zero_le _, Nat.zero_le _⟩ (fun H locs hP hD hS => ?_)
  refine lv_aload_n hx hb dX0_worth_18 rfl (lv_at hl 1 rfl) ?_
  refine va_getN (D := D) (ci := 11) (v := .ref c_a) (C := RX11) (T := TX11) (N := 11) hx hb ht iyX11 hown hK hP 1 rfl rfl 1 (by decide) (va_Nw.use rfl (hN _ (List.mem_filter.mpr ⟨wf_X0_19, rfl⟩))) (fun _ h9 => h9) rfl dX0_worth_19 ?_
  refine va_get (D := D) (ci := 1) (v := .ref c_a_hang) (C := RX1) (T := TX1) (N := 6) hx hb ht iyX1 hown hK hP 4 rfl rfl 3 (by decide) (ht _ wf_X0_23) (fun _ h9 => h9) rfl dX0_worth_22 ?_
  refine lv_iload_n hx hb dX0_worth_25 rfl (lv_at hl 2 rfl) ?_
  obtain ⟨h_4, hF⟩ := zi_chk hF
  refine va_iald hx hb hK hP 5 0 rfl rfl h_4 dX0_worth_26 ?_
  refine lv_iadd hx hb dX0_worth_27 ?_
  obtain ⟨e_0, e_1⟩ := zo2 hF
  subst e_0
  subst e_1
  exact zret_i S hr hlocks hK hP hD hS dX0_worth_28

def F_X0_worth_r2 (x_asked : Int64) (s_wind : Nat → Int32) (c_hang : Nat → Int32) (p2 : Int32) : Option (Int32 × Int64) :=
  (zb2 (F_X5_worth (x_asked + 10) s_wind p2) (fun r_1 x_asked_2 => (if (p2 < 0 ∨ 6 ≤ p2.toNatClampNeg) then none else some (r_1 + (c_hang p2.toNatClampNeg), x_asked_2))))
set_option maxHeartbeats 4000000 in
set_option maxRecDepth 100000 in
theorem c_X0_worth_r2 (l : Launch) (D : va_G) (cI cZ cS cJ : ClassId) (b_a : Nat) (x_a : Nat) (t_a : Nat) (c_a : Nat) (d_a : Nat) (s_a : Nat) (u_a : Nat) (q_a : Nat) (i_a : Nat) (k_a : Nat) (w_a : Nat) (n_a : Nat) (s_a_up : Nat) (s_a_due : Nat) (s_a_wind : Nat) (c_a_period : Nat) (c_a_hang : Nat) (c_a_start : Nat) (c_a_wind : Nat) (x_asked : Int64) (s_tick : Int32) (s_every : Int32) (s_round : Int32) (s_inside : Int32) (s_wind : Nat → Int32) (c_every : Int32) (c_size : Int32) (c_hang : Nat → Int32) (p2 : Int32) {r_o : Int32} {x_asked_o : Int64} (hF : F_X0_worth_r2 x_asked s_wind c_hang p2 = some (r_o, x_asked_o)) : zMni l yX0_worth (zwl yX0_worth cX0_worth 3 (some .int)) { frames := 1, cells := 0, slots := 0, locals := 22 } D (TYS cI cZ cS cJ) [.ref b_a, .ref x_a, .int p2] [(b_a, .inr (2, [])), (x_a, .inr (11, [.ref t_a, .ref c_a, .ref d_a, .ref s_a, .ref u_a, .ref q_a, .ref i_a, .ref k_a, .ref w_a, .ref n_a, .long x_asked])), (s_a, .inr (8, [.int s_tick, .int s_every, .int s_round, .int s_inside, .ref s_a_up, .ref s_a_due, .ref s_a_wind])), (s_a_wind, .inl (cI, 6, .inl s_wind)), (c_a, .inr (1, [.int c_every, .int c_size, .ref c_a_period, .ref c_a_hang, .ref c_a_start, .ref c_a_wind])), (c_a_hang, .inl (cI, 6, .inl c_hang))] [(b_a, .inr (2, [])), (x_a, .inr (11, [.ref t_a, .ref c_a, .ref d_a, .ref s_a, .ref u_a, .ref q_a, .ref i_a, .ref k_a, .ref w_a, .ref n_a, .long x_asked_o])), (s_a, .inr (8, [.int s_tick, .int s_every, .int s_round, .int s_inside, .ref s_a_up, .ref s_a_due, .ref s_a_wind])), (s_a_wind, .inl (cI, 6, .inl s_wind)), (c_a, .inr (1, [.int c_every, .int c_size, .ref c_a_period, .ref c_a_hang, .ref c_a_start, .ref c_a_wind])), (c_a_hang, .inl (cI, 6, .inl c_hang))] r_o := by
  refine zent_ni (own := RX0) (by decide) rfl (Nat.le_of_ble_eq_true rfl) ?_
  intro p e s m below meth c A ls S hr hlocks hK hP hD hA hl hN
  have hx := S.1
  have hb := S.2.1
  have hml := S.2.2.1
  have hown := S.2.2.2.1
  have hT : ∀ w ∈ zt, w ∈ zwl yX0_worth cX0_worth 3 (some .int) := fun _ h => List.mem_cons_of_mem _ h
  have ht : ∀ w ∈ zt, w.before [.ref b_a, .ref x_a, .int p2].toArray s = true := fun w h => S.2.2.2.2 w (hT w h)
  have hl : lv_has ls 3 [(0, .ref b_a), (1, .ref x_a), (2, .int p2)] := hl
  have hS : va_S A s.heap s.heap [] := va_S.rf
  unfold F_X0_worth_r2 at hF
  refine lv_aload_n hx hb dX0_worth_0 rfl (lv_at hl 1 rfl) ?_
  refine lv_dup hx hb dX0_worth_1 rfl ?_
  refine va_getN (D := D) (ci := 11) (v := .long x_asked) (C := RX11) (T := TX11) (N := 11) hx hb ht iyX11 hown hK hP 1 rfl rfl 10 (by decide) (va_Nw.use rfl (hN _ (List.mem_filter.mpr ⟨wf_X0_7, rfl⟩))) (fun _ h9 => h9) rfl dX0_worth_2 ?_
  refine lv_ldc2 (v := 10) hx hb hown (ht _ wc_X0_13) dX0_worth_5 ?_
  refine lv_ladd hx hb dX0_worth_8 ?_
  refine va_putN (D := D) (ci := 11) (v := .long (x_asked + 10)) (ty := .long) (C := RX11) (T := TX11) (N := 11) hx hb ht iyX11 tyX11 tyX11_ok nmX11 hown hK hP hD hS 1 rfl rfl 10 (by decide) (va_Nw.use rfl (hN _ (List.mem_filter.mpr ⟨wf_X0_7, rfl⟩))) (fun _ h9 => h9) rfl (by decide +kernel) rfl rfl (Nat.le_of_ble_eq_true rfl) dX0_worth_9 (fun H locs hP hD hS => ?_)
  have hP : va_P D classes [(b_a, .inr (2, [])), (x_a, .inr (11, [.ref t_a, .ref c_a, .ref d_a, .ref s_a, .ref u_a, .ref q_a, .ref i_a, .ref k_a, .ref w_a, .ref n_a, .long (x_asked + 10)])), (s_a, .inr (8, [.int s_tick, .int s_every, .int s_round, .int s_inside, .ref s_a_up, .ref s_a_due, .ref s_a_wind])), (s_a_wind, .inl (cI, 6, .inl s_wind)), (c_a, .inr (1, [.int c_every, .int c_size, .ref c_a_period, .ref c_a_hang, .ref c_a_start, .ref c_a_wind])), (c_a_hang, .inl (cI, 6, .inl c_hang))] H := hP
  have hD : va_D A [(b_a, .inr (2, [])), (x_a, .inr (11, [.ref t_a, .ref c_a, .ref d_a, .ref s_a, .ref u_a, .ref q_a, .ref i_a, .ref k_a, .ref w_a, .ref n_a, .long (x_asked + 10)])), (s_a, .inr (8, [.int s_tick, .int s_every, .int s_round, .int s_inside, .ref s_a_up, .ref s_a_due, .ref s_a_wind])), (s_a_wind, .inl (cI, 6, .inl s_wind)), (c_a, .inr (1, [.int c_every, .int c_size, .ref c_a_period, .ref c_a_hang, .ref c_a_start, .ref c_a_wind])), (c_a_hang, .inl (cI, 6, .inl c_hang))] := hD
  refine lv_aload_n hx hb dX0_worth_12 rfl (lv_at hl 0 rfl) ?_
  refine lv_aload_n hx hb dX0_worth_13 rfl (lv_at hl 1 rfl) ?_
  refine lv_iload_n hx hb dX0_worth_14 rfl (lv_at hl 2 rfl) ?_
  obtain ⟨r_1, x_asked_2, hc_3, hF⟩ := zb2_s hF
  refine zcu_ni (ws1 := [(b_a, .inr (2, [])), (x_a, .inr (11, [.ref t_a, .ref c_a, .ref d_a, .ref s_a, .ref u_a, .ref q_a, .ref i_a, .ref k_a, .ref w_a, .ref n_a, .long x_asked_2])), (s_a, .inr (8, [.int s_tick, .int s_every, .int s_round, .int s_inside, .ref s_a_up, .ref s_a_due, .ref s_a_wind])), (s_a_wind, .inl (cI, 6, .inl s_wind)), (c_a, .inr (1, [.int c_every, .int c_size, .ref c_a_period, .ref c_a_hang, .ref c_a_start, .ref c_a_wind])), (c_a_hang, .inl (cI, 6, .inl c_hang))]) S hT lu_X0_15 (c_X5_worth l D cI cZ cS cJ x_a t_a c_a d_a s_a u_a q_a i_a k_a w_a n_a s_a_up s_a_due s_a_wind b_a (x_asked + 10) s_tick s_every s_round s_inside s_wind p2 hc_3) ⟨rfl, rfl, Nat.le_of_ble_eq_true rfl, Nat.le_of_ble_eq_true rfl⟩ hN hK hP hD hS hA 0 [1, 2, 3] [0, 4, 5] [0, 3, 4, 5, 1, 2] rfl rfl rfl rfl rfl rfl rfl rfl rfl rfl hl.1 rfl (Nat.le_of_ble_eq_true rfl) dX0_worth_15 ⟨Nat.zero_le _, Nat.zero_le _⟩ (fun H locs hP hD hS => ?_)
  refine lv_aload_n hx hb dX0_worth_18 rfl (lv_at hl 1 rfl) ?_
  refine va_getN (D := D) (ci := 11) (v := .ref c_a) (C := RX11) (T := TX11) (N := 11) hx hb ht iyX11 hown hK hP 1 rfl rfl 1 (by decide) (va_Nw.use rfl (hN _ (List.mem_filter.mpr ⟨wf_X0_19, rfl⟩))) (fun _ h9 => h9) rfl dX0_worth_19 ?_
  refine va_get (D := D) (ci := 1) (v := .ref c_a_hang) (C := RX1) (T := TX1) (N := 6) hx hb ht iyX1 hown hK hP 4 rfl rfl 3 (by decide) (ht _ wf_X0_23) (fun _ h9 => h9) rfl dX0_worth_22 ?_
  refine lv_iload_n hx hb dX0_worth_25 rfl (lv_at hl 2 rfl) ?_
  obtain ⟨h_4, hF⟩ := zi_chk hF
  refine va_iald hx hb hK hP 5 0 rfl rfl h_4 dX0_worth_26 ?_
  refine lv_iadd hx hb dX0_worth_27 ?_
  obtain ⟨e_0, e_1⟩ := zo2 hF
  subst e_0
  subst e_1
  exact zret_i S hr hlocks hK hP hD hS dX0_worth_28

theorem lu_X4_15 : zLu RX4 15 yX5_worth cX5_worth 3 (some .int) 2 := ⟨⟨wm_X4_15, wS_X5, wu_X4, wo_X5_worth, wi_X5, wd_X5_worth⟩, by decide, by decide +kernel⟩
def F_X4_worth (x_asked : Int64) (s_round : Int32) (s_wind : Nat → Int32) (p2 : Int32) : Option (Int32 × Int64) :=
  (zb2 (F_X5_worth (x_asked + 100) s_wind p2) (fun r_1 x_asked_2 => some (r_1 - s_round, x_asked_2)))
set_option maxHeartbeats 4000000 in
set_option maxRecDepth 100000 in
theorem c_X4_worth (l : Launch) (D : va_G) (cI cZ cS cJ : ClassId) (b_a : Nat) (x_a : Nat) (t_a : Nat) (c_a : Nat) (d_a : Nat) (s_a : Nat) (u_a : Nat) (q_a : Nat) (i_a : Nat) (k_a : Nat) (w_a : Nat) (n_a : Nat) (s_a_up : Nat) (s_a_due : Nat) (s_a_wind : Nat) (x_asked : Int64) (s_tick : Int32) (s_every : Int32) (s_round : Int32) (s_inside : Int32) (s_wind : Nat → Int32) (p2 : Int32) {r_o : Int32} {x_asked_o : Int64} (hF : F_X4_worth x_asked s_round s_wind p2 = some (r_o, x_asked_o)) : zMni l yX4_worth (zwl yX4_worth cX4_worth 3 (some .int)) { frames := 1, cells := 0, slots := 0, locals := 22 } D (TYS cI cZ cS cJ) [.ref b_a, .ref x_a, .int p2] [(b_a, .inr (4, [])), (x_a, .inr (11, [.ref t_a, .ref c_a, .ref d_a, .ref s_a, .ref u_a, .ref q_a, .ref i_a, .ref k_a, .ref w_a, .ref n_a, .long x_asked])), (s_a, .inr (8, [.int s_tick, .int s_every, .int s_round, .int s_inside, .ref s_a_up, .ref s_a_due, .ref s_a_wind])), (s_a_wind, .inl (cI, 6, .inl s_wind))] [(b_a, .inr (4, [])), (x_a, .inr (11, [.ref t_a, .ref c_a, .ref d_a, .ref s_a, .ref u_a, .ref q_a, .ref i_a, .ref k_a, .ref w_a, .ref n_a, .long x_asked_o])), (s_a, .inr (8, [.int s_tick, .int s_every, .int s_round, .int s_inside, .ref s_a_up, .ref s_a_due, .ref s_a_wind])), (s_a_wind, .inl (cI, 6, .inl s_wind))] r_o := by
  refine zent_ni (own := RX4) (by decide) rfl (Nat.le_of_ble_eq_true rfl) ?_
  intro p e s m below meth c A ls S hr hlocks hK hP hD hA hl hN
  have hx := S.1
  have hb := S.2.1
  have hml := S.2.2.1
  have hown := S.2.2.2.1
  have hT : ∀ w ∈ zt, w ∈ zwl yX4_worth cX4_worth 3 (some .int) := fun _ h => List.mem_cons_of_mem _ h
  have ht : ∀ w ∈ zt, w.before [.ref b_a, .ref x_a, .int p2].toArray s = true := fun w h => S.2.2.2.2 w (hT w h)
  have hl : lv_has ls 3 [(0, .ref b_a), (1, .ref x_a), (2, .int p2)] := hl
  have hS : va_S A s.heap s.heap [] := va_S.rf
  unfold F_X4_worth at hF
  refine lv_aload_n hx hb dX4_worth_0 rfl (lv_at hl 1 rfl) ?_
  refine lv_dup hx hb dX4_worth_1 rfl ?_
  refine va_getN (D := D) (ci := 11) (v := .long x_asked) (C := RX11) (T := TX11) (N := 11) hx hb ht iyX11 hown hK hP 1 rfl rfl 10 (by decide) (va_Nw.use rfl (hN _ (List.mem_filter.mpr ⟨wf_X4_7, rfl⟩))) (fun _ h9 => h9) rfl dX4_worth_2 ?_
  refine lv_ldc2 (v := 100) hx hb hown (ht _ wc_X4_13) dX4_worth_5 ?_
  refine lv_ladd hx hb dX4_worth_8 ?_
  refine va_putN (D := D) (ci := 11) (v := .long (x_asked + 100)) (ty := .long) (C := RX11) (T := TX11) (N := 11) hx hb ht iyX11 tyX11 tyX11_ok nmX11 hown hK hP hD hS 1 rfl rfl 10 (by decide) (va_Nw.use rfl (hN _ (List.mem_filter.mpr ⟨wf_X4_7, rfl⟩))) (fun _ h9 => h9) rfl (by decide +kernel) rfl rfl (Nat.le_of_ble_eq_true rfl) dX4_worth_9 (fun H locs hP hD hS => ?_)
  have hP : va_P D classes [(b_a, .inr (4, [])), (x_a, .inr (11, [.ref t_a, .ref c_a, .ref d_a, .ref s_a, .ref u_a, .ref q_a, .ref i_a, .ref k_a, .ref w_a, .ref n_a, .long (x_asked + 100)])), (s_a, .inr (8, [.int s_tick, .int s_every, .int s_round, .int s_inside, .ref s_a_up, .ref s_a_due, .ref s_a_wind])), (s_a_wind, .inl (cI, 6, .inl s_wind))] H := hP
  have hD : va_D A [(b_a, .inr (4, [])), (x_a, .inr (11, [.ref t_a, .ref c_a, .ref d_a, .ref s_a, .ref u_a, .ref q_a, .ref i_a, .ref k_a, .ref w_a, .ref n_a, .long (x_asked + 100)])), (s_a, .inr (8, [.int s_tick, .int s_every, .int s_round, .int s_inside, .ref s_a_up, .ref s_a_due, .ref s_a_wind])), (s_a_wind, .inl (cI, 6, .inl s_wind))] := hD
  refine lv_aload_n hx hb dX4_worth_12 rfl (lv_at hl 0 rfl) ?_
  refine lv_aload_n hx hb dX4_worth_13 rfl (lv_at hl 1 rfl) ?_
  refine lv_iload_n hx hb dX4_worth_14 rfl (lv_at hl 2 rfl) ?_
  obtain ⟨r_1, x_asked_2, hc_3, hF⟩ := zb2_s hF
  refine zcu_ni (ws1 := [(b_a, .inr (4, [])), (x_a, .inr (11, [.ref t_a, .ref c_a, .ref d_a, .ref s_a, .ref u_a, .ref q_a, .ref i_a, .ref k_a, .ref w_a, .ref n_a, .long x_asked_2])), (s_a, .inr (8, [.int s_tick, .int s_every, .int s_round, .int s_inside, .ref s_a_up, .ref s_a_due, .ref s_a_wind])), (s_a_wind, .inl (cI, 6, .inl s_wind))]) S hT lu_X4_15 (c_X5_worth l D cI cZ cS cJ x_a t_a c_a d_a s_a u_a q_a i_a k_a w_a n_a s_a_up s_a_due s_a_wind b_a (x_asked + 100) s_tick s_every s_round s_inside s_wind p2 hc_3) ⟨rfl, rfl, Nat.le_of_ble_eq_true rfl, Nat.le_of_ble_eq_true rfl⟩ hN hK hP hD hS hA 0 [1, 2, 3] [0] [0, 1, 2, 3] rfl rfl rfl rfl rfl rfl rfl rfl rfl rfl hl.1 rfl (Nat.le_of_ble_eq_true rfl) dX4_worth_15 ⟨Nat.zero_le _, Nat.zero_le _⟩ (fun H locs hP hD hS => ?_)
  refine lv_aload_n hx hb dX4_worth_18 rfl (lv_at hl 1 rfl) ?_
  refine va_getN (D := D) (ci := 11) (v := .ref s_a) (C := RX11) (T := TX11) (N := 11) hx hb ht iyX11 hown hK hP 1 rfl rfl 3 (by decide) (va_Nw.use rfl (hN _ (List.mem_filter.mpr ⟨wf_X4_19, rfl⟩))) (fun _ h9 => h9) rfl dX4_worth_19 ?_
  refine va_get (D := D) (ci := 8) (v := .int s_round) (C := RX8) (T := TX8) (N := 7) hx hb ht iyX8 hown hK hP 2 rfl rfl 2 (by decide) (ht _ wf_X4_23) (fun _ h9 => h9) rfl dX4_worth_22 ?_
  refine lv_isub hx hb dX4_worth_25 ?_
  obtain ⟨e_0, e_1⟩ := zo2 hF
  subst e_0
  subst e_1
  exact zret_i S hr hlocks hK hP hD hS dX4_worth_26

def F_X4_worth_r7 (x_asked : Int64) (s_round : Int32) (s_wind : Nat → Int32) (p2 : Int32) : Option (Int32 × Int64) :=
  (zb2 (F_X5_worth (x_asked + 100) s_wind p2) (fun r_1 x_asked_2 => some (r_1 - s_round, x_asked_2)))
set_option maxHeartbeats 4000000 in
set_option maxRecDepth 100000 in
theorem c_X4_worth_r7 (l : Launch) (D : va_G) (cI cZ cS cJ : ClassId) (b_a : Nat) (x_a : Nat) (t_a : Nat) (c_a : Nat) (d_a : Nat) (s_a : Nat) (u_a : Nat) (q_a : Nat) (i_a : Nat) (k_a : Nat) (w_a : Nat) (n_a : Nat) (s_a_up : Nat) (s_a_due : Nat) (s_a_wind : Nat) (x_asked : Int64) (s_tick : Int32) (s_every : Int32) (s_round : Int32) (s_inside : Int32) (s_wind : Nat → Int32) (p2 : Int32) {r_o : Int32} {x_asked_o : Int64} (hF : F_X4_worth_r7 x_asked s_round s_wind p2 = some (r_o, x_asked_o)) : zMni l yX4_worth (zwl yX4_worth cX4_worth 3 (some .int)) { frames := 1, cells := 0, slots := 0, locals := 22 } D (TYS cI cZ cS cJ) [.ref b_a, .ref x_a, .int p2] [(b_a, .inr (7, [])), (x_a, .inr (11, [.ref t_a, .ref c_a, .ref d_a, .ref s_a, .ref u_a, .ref q_a, .ref i_a, .ref k_a, .ref w_a, .ref n_a, .long x_asked])), (s_a, .inr (8, [.int s_tick, .int s_every, .int s_round, .int s_inside, .ref s_a_up, .ref s_a_due, .ref s_a_wind])), (s_a_wind, .inl (cI, 6, .inl s_wind))] [(b_a, .inr (7, [])), (x_a, .inr (11, [.ref t_a, .ref c_a, .ref d_a, .ref s_a, .ref u_a, .ref q_a, .ref i_a, .ref k_a, .ref w_a, .ref n_a, .long x_asked_o])), (s_a, .inr (8, [.int s_tick, .int s_every, .int s_round, .int s_inside, .ref s_a_up, .ref s_a_due, .ref s_a_wind])), (s_a_wind, .inl (cI, 6, .inl s_wind))] r_o := by
  refine zent_ni (own := RX4) (by decide) rfl (Nat.le_of_ble_eq_true rfl) ?_
  intro p e s m below meth c A ls S hr hlocks hK hP hD hA hl hN
  have hx := S.1
  have hb := S.2.1
  have hml := S.2.2.1
  have hown := S.2.2.2.1
  have hT : ∀ w ∈ zt, w ∈ zwl yX4_worth cX4_worth 3 (some .int) := fun _ h => List.mem_cons_of_mem _ h
  have ht : ∀ w ∈ zt, w.before [.ref b_a, .ref x_a, .int p2].toArray s = true := fun w h => S.2.2.2.2 w (hT w h)
  have hl : lv_has ls 3 [(0, .ref b_a), (1, .ref x_a), (2, .int p2)] := hl
  have hS : va_S A s.heap s.heap [] := va_S.rf
  unfold F_X4_worth_r7 at hF
  refine lv_aload_n hx hb dX4_worth_0 rfl (lv_at hl 1 rfl) ?_
  refine lv_dup hx hb dX4_worth_1 rfl ?_
  refine va_getN (D := D) (ci := 11) (v := .long x_asked) (C := RX11) (T := TX11) (N := 11) hx hb ht iyX11 hown hK hP 1 rfl rfl 10 (by decide) (va_Nw.use rfl (hN _ (List.mem_filter.mpr ⟨wf_X4_7, rfl⟩))) (fun _ h9 => h9) rfl dX4_worth_2 ?_
  refine lv_ldc2 (v := 100) hx hb hown (ht _ wc_X4_13) dX4_worth_5 ?_
  refine lv_ladd hx hb dX4_worth_8 ?_
  refine va_putN (D := D) (ci := 11) (v := .long (x_asked + 100)) (ty := .long) (C := RX11) (T := TX11) (N := 11) hx hb ht iyX11 tyX11 tyX11_ok nmX11 hown hK hP hD hS 1 rfl rfl 10 (by decide) (va_Nw.use rfl (hN _ (List.mem_filter.mpr ⟨wf_X4_7, rfl⟩))) (fun _ h9 => h9) rfl (by decide +kernel) rfl rfl (Nat.le_of_ble_eq_true rfl) dX4_worth_9 (fun H locs hP hD hS => ?_)
  have hP : va_P D classes [(b_a, .inr (7, [])), (x_a, .inr (11, [.ref t_a, .ref c_a, .ref d_a, .ref s_a, .ref u_a, .ref q_a, .ref i_a, .ref k_a, .ref w_a, .ref n_a, .long (x_asked + 100)])), (s_a, .inr (8, [.int s_tick, .int s_every, .int s_round, .int s_inside, .ref s_a_up, .ref s_a_due, .ref s_a_wind])), (s_a_wind, .inl (cI, 6, .inl s_wind))] H := hP
  have hD : va_D A [(b_a, .inr (7, [])), (x_a, .inr (11, [.ref t_a, .ref c_a, .ref d_a, .ref s_a, .ref u_a, .ref q_a, .ref i_a, .ref k_a, .ref w_a, .ref n_a, .long (x_asked + 100)])), (s_a, .inr (8, [.int s_tick, .int s_every, .int s_round, .int s_inside, .ref s_a_up, .ref s_a_due, .ref s_a_wind])), (s_a_wind, .inl (cI, 6, .inl s_wind))] := hD
  refine lv_aload_n hx hb dX4_worth_12 rfl (lv_at hl 0 rfl) ?_
  refine lv_aload_n hx hb dX4_worth_13 rfl (lv_at hl 1 rfl) ?_
  refine lv_iload_n hx hb dX4_worth_14 rfl (lv_at hl 2 rfl) ?_
  obtain ⟨r_1, x_asked_2, hc_3, hF⟩ := zb2_s hF
  refine zcu_ni (ws1 := [(b_a, .inr (7, [])), (x_a, .inr (11, [.ref t_a, .ref c_a, .ref d_a, .ref s_a, .ref u_a, .ref q_a, .ref i_a, .ref k_a, .ref w_a, .ref n_a, .long x_asked_2])), (s_a, .inr (8, [.int s_tick, .int s_every, .int s_round, .int s_inside, .ref s_a_up, .ref s_a_due, .ref s_a_wind])), (s_a_wind, .inl (cI, 6, .inl s_wind))]) S hT lu_X4_15 (c_X5_worth l D cI cZ cS cJ x_a t_a c_a d_a s_a u_a q_a i_a k_a w_a n_a s_a_up s_a_due s_a_wind b_a (x_asked + 100) s_tick s_every s_round s_inside s_wind p2 hc_3) ⟨rfl, rfl, Nat.le_of_ble_eq_true rfl, Nat.le_of_ble_eq_true rfl⟩ hN hK hP hD hS hA 0 [1, 2, 3] [0] [0, 1, 2, 3] rfl rfl rfl rfl rfl rfl rfl rfl rfl rfl hl.1 rfl (Nat.le_of_ble_eq_true rfl) dX4_worth_15 ⟨Nat.zero_le _, Nat.zero_le _⟩ (fun H locs hP hD hS => ?_)
  refine lv_aload_n hx hb dX4_worth_18 rfl (lv_at hl 1 rfl) ?_
  refine va_getN (D := D) (ci := 11) (v := .ref s_a) (C := RX11) (T := TX11) (N := 11) hx hb ht iyX11 hown hK hP 1 rfl rfl 3 (by decide) (va_Nw.use rfl (hN _ (List.mem_filter.mpr ⟨wf_X4_19, rfl⟩))) (fun _ h9 => h9) rfl dX4_worth_19 ?_
  refine va_get (D := D) (ci := 8) (v := .int s_round) (C := RX8) (T := TX8) (N := 7) hx hb ht iyX8 hown hK hP 2 rfl rfl 2 (by decide) (ht _ wf_X4_23) (fun _ h9 => h9) rfl dX4_worth_22 ?_
  refine lv_isub hx hb dX4_worth_25 ?_
  obtain ⟨e_0, e_1⟩ := zo2 hF
  subst e_0
  subst e_1
  exact zret_i S hr hlocks hK hP hD hS dX4_worth_26

theorem lu_X3_15 : zLu RX3 15 yX5_worth cX5_worth 3 (some .int) 2 := ⟨⟨wm_X3_15, wS_X5, wu_X3, wo_X5_worth, wi_X5, wd_X5_worth⟩, by decide, by decide +kernel⟩
def F_X3_worth (x_asked : Int64) (s_tick : Int32) (s_wind : Nat → Int32) (p2 : Int32) : Option (Int32 × Int64) :=
  (zb2 (F_X5_worth (x_asked + 100000) s_wind p2) (fun r_1 x_asked_2 => some (r_1 + s_tick, x_asked_2)))
set_option maxHeartbeats 4000000 in
set_option maxRecDepth 100000 in
theorem c_X3_worth (l : Launch) (D : va_G) (cI cZ cS cJ : ClassId) (b_a : Nat) (x_a : Nat) (t_a : Nat) (c_a : Nat) (d_a : Nat) (s_a : Nat) (u_a : Nat) (q_a : Nat) (i_a : Nat) (k_a : Nat) (w_a : Nat) (n_a : Nat) (s_a_up : Nat) (s_a_due : Nat) (s_a_wind : Nat) (x_asked : Int64) (s_tick : Int32) (s_every : Int32) (s_round : Int32) (s_inside : Int32) (s_wind : Nat → Int32) (p2 : Int32) {r_o : Int32} {x_asked_o : Int64} (hF : F_X3_worth x_asked s_tick s_wind p2 = some (r_o, x_asked_o)) : zMni l yX3_worth (zwl yX3_worth cX3_worth 3 (some .int)) { frames := 1, cells := 0, slots := 0, locals := 22 } D (TYS cI cZ cS cJ) [.ref b_a, .ref x_a, .int p2] [(b_a, .inr (3, [])), (x_a, .inr (11, [.ref t_a, .ref c_a, .ref d_a, .ref s_a, .ref u_a, .ref q_a, .ref i_a, .ref k_a, .ref w_a, .ref n_a, .long x_asked])), (s_a, .inr (8, [.int s_tick, .int s_every, .int s_round, .int s_inside, .ref s_a_up, .ref s_a_due, .ref s_a_wind])), (s_a_wind, .inl (cI, 6, .inl s_wind))] [(b_a, .inr (3, [])), (x_a, .inr (11, [.ref t_a, .ref c_a, .ref d_a, .ref s_a, .ref u_a, .ref q_a, .ref i_a, .ref k_a, .ref w_a, .ref n_a, .long x_asked_o])), (s_a, .inr (8, [.int s_tick, .int s_every, .int s_round, .int s_inside, .ref s_a_up, .ref s_a_due, .ref s_a_wind])), (s_a_wind, .inl (cI, 6, .inl s_wind))] r_o := by
  refine zent_ni (own := RX3) (by decide) rfl (Nat.le_of_ble_eq_true rfl) ?_
  intro p e s m below meth c A ls S hr hlocks hK hP hD hA hl hN
  have hx := S.1
  have hb := S.2.1
  have hml := S.2.2.1
  have hown := S.2.2.2.1
  have hT : ∀ w ∈ zt, w ∈ zwl yX3_worth cX3_worth 3 (some .int) := fun _ h => List.mem_cons_of_mem _ h
  have ht : ∀ w ∈ zt, w.before [.ref b_a, .ref x_a, .int p2].toArray s = true := fun w h => S.2.2.2.2 w (hT w h)
  have hl : lv_has ls 3 [(0, .ref b_a), (1, .ref x_a), (2, .int p2)] := hl
  have hS : va_S A s.heap s.heap [] := va_S.rf
  unfold F_X3_worth at hF
  refine lv_aload_n hx hb dX3_worth_0 rfl (lv_at hl 1 rfl) ?_
  refine lv_dup hx hb dX3_worth_1 rfl ?_
  refine va_getN (D := D) (ci := 11) (v := .long x_asked) (C := RX11) (T := TX11) (N := 11) hx hb ht iyX11 hown hK hP 1 rfl rfl 10 (by decide) (va_Nw.use rfl (hN _ (List.mem_filter.mpr ⟨wf_X3_7, rfl⟩))) (fun _ h9 => h9) rfl dX3_worth_2 ?_
  refine lv_ldc2 (v := 100000) hx hb hown (ht _ wc_X3_13) dX3_worth_5 ?_
  refine lv_ladd hx hb dX3_worth_8 ?_
  refine va_putN (D := D) (ci := 11) (v := .long (x_asked + 100000)) (ty := .long) (C := RX11) (T := TX11) (N := 11) hx hb ht iyX11 tyX11 tyX11_ok nmX11 hown hK hP hD hS 1 rfl rfl 10 (by decide) (va_Nw.use rfl (hN _ (List.mem_filter.mpr ⟨wf_X3_7, rfl⟩))) (fun _ h9 => h9) rfl (by decide +kernel) rfl rfl (Nat.le_of_ble_eq_true rfl) dX3_worth_9 (fun H locs hP hD hS => ?_)
  have hP : va_P D classes [(b_a, .inr (3, [])), (x_a, .inr (11, [.ref t_a, .ref c_a, .ref d_a, .ref s_a, .ref u_a, .ref q_a, .ref i_a, .ref k_a, .ref w_a, .ref n_a, .long (x_asked + 100000)])), (s_a, .inr (8, [.int s_tick, .int s_every, .int s_round, .int s_inside, .ref s_a_up, .ref s_a_due, .ref s_a_wind])), (s_a_wind, .inl (cI, 6, .inl s_wind))] H := hP
  have hD : va_D A [(b_a, .inr (3, [])), (x_a, .inr (11, [.ref t_a, .ref c_a, .ref d_a, .ref s_a, .ref u_a, .ref q_a, .ref i_a, .ref k_a, .ref w_a, .ref n_a, .long (x_asked + 100000)])), (s_a, .inr (8, [.int s_tick, .int s_every, .int s_round, .int s_inside, .ref s_a_up, .ref s_a_due, .ref s_a_wind])), (s_a_wind, .inl (cI, 6, .inl s_wind))] := hD
  refine lv_aload_n hx hb dX3_worth_12 rfl (lv_at hl 0 rfl) ?_
  refine lv_aload_n hx hb dX3_worth_13 rfl (lv_at hl 1 rfl) ?_
  refine lv_iload_n hx hb dX3_worth_14 rfl (lv_at hl 2 rfl) ?_
  obtain ⟨r_1, x_asked_2, hc_3, hF⟩ := zb2_s hF
  refine zcu_ni (ws1 := [(b_a, .inr (3, [])), (x_a, .inr (11, [.ref t_a, .ref c_a, .ref d_a, .ref s_a, .ref u_a, .ref q_a, .ref i_a, .ref k_a, .ref w_a, .ref n_a, .long x_asked_2])), (s_a, .inr (8, [.int s_tick, .int s_every, .int s_round, .int s_inside, .ref s_a_up, .ref s_a_due, .ref s_a_wind])), (s_a_wind, .inl (cI, 6, .inl s_wind))]) S hT lu_X3_15 (c_X5_worth l D cI cZ cS cJ x_a t_a c_a d_a s_a u_a q_a i_a k_a w_a n_a s_a_up s_a_due s_a_wind b_a (x_asked + 100000) s_tick s_every s_round s_inside s_wind p2 hc_3) ⟨rfl, rfl, Nat.le_of_ble_eq_true rfl, Nat.le_of_ble_eq_true rfl⟩ hN hK hP hD hS hA 0 [1, 2, 3] [0] [0, 1, 2, 3] rfl rfl rfl rfl rfl rfl rfl rfl rfl rfl hl.1 rfl (Nat.le_of_ble_eq_true rfl) dX3_worth_15 ⟨Nat.zero_le _, Nat.zero_le _⟩ (fun H locs hP hD hS => ?_)
  refine lv_aload_n hx hb dX3_worth_18 rfl (lv_at hl 1 rfl) ?_
  refine va_getN (D := D) (ci := 11) (v := .ref s_a) (C := RX11) (T := TX11) (N := 11) hx hb ht iyX11 hown hK hP 1 rfl rfl 3 (by decide) (va_Nw.use rfl (hN _ (List.mem_filter.mpr ⟨wf_X3_19, rfl⟩))) (fun _ h9 => h9) rfl dX3_worth_19 ?_
  refine va_get (D := D) (ci := 8) (v := .int s_tick) (C := RX8) (T := TX8) (N := 7) hx hb ht iyX8 hown hK hP 2 rfl rfl 0 (by decide) (ht _ wf_X3_23) (fun _ h9 => h9) rfl dX3_worth_22 ?_
  refine lv_iadd hx hb dX3_worth_25 ?_
  obtain ⟨e_0, e_1⟩ := zo2 hF
  subst e_0
  subst e_1
  exact zret_i S hr hlocks hK hP hD hS dX3_worth_26

theorem lu_X2_15 : zLu RX2 15 yX0_worth cX0_worth 3 (some .int) 2 := ⟨⟨wm_X2_15, wS_X0, wu_X2, wo_X0_worth, wi_X0, wd_X0_worth⟩, by decide, by decide +kernel⟩
def F_X2_worth (x_asked : Int64) (s_wind : Nat → Int32) (c_hang : Nat → Int32) (p2 : Int32) : Option (Int32 × Int64) :=
  (zb2 (F_X0_worth_r2 (x_asked + 1000) s_wind c_hang p2) (fun r_1 x_asked_2 => some (2 * r_1, x_asked_2)))
set_option maxHeartbeats 4000000 in
set_option maxRecDepth 100000 in
theorem c_X2_worth (l : Launch) (D : va_G) (cI cZ cS cJ : ClassId) (b_a : Nat) (x_a : Nat) (t_a : Nat) (c_a : Nat) (d_a : Nat) (s_a : Nat) (u_a : Nat) (q_a : Nat) (i_a : Nat) (k_a : Nat) (w_a : Nat) (n_a : Nat) (s_a_up : Nat) (s_a_due : Nat) (s_a_wind : Nat) (c_a_period : Nat) (c_a_hang : Nat) (c_a_start : Nat) (c_a_wind : Nat) (x_asked : Int64) (s_tick : Int32) (s_every : Int32) (s_round : Int32) (s_inside : Int32) (s_wind : Nat → Int32) (c_every : Int32) (c_size : Int32) (c_hang : Nat → Int32) (p2 : Int32) {r_o : Int32} {x_asked_o : Int64} (hF : F_X2_worth x_asked s_wind c_hang p2 = some (r_o, x_asked_o)) : zMni l yX2_worth (zwl yX2_worth cX2_worth 3 (some .int)) { frames := 2, cells := 0, slots := 0, locals := 44 } D (TYS cI cZ cS cJ) [.ref b_a, .ref x_a, .int p2] [(b_a, .inr (2, [])), (x_a, .inr (11, [.ref t_a, .ref c_a, .ref d_a, .ref s_a, .ref u_a, .ref q_a, .ref i_a, .ref k_a, .ref w_a, .ref n_a, .long x_asked])), (s_a, .inr (8, [.int s_tick, .int s_every, .int s_round, .int s_inside, .ref s_a_up, .ref s_a_due, .ref s_a_wind])), (s_a_wind, .inl (cI, 6, .inl s_wind)), (c_a, .inr (1, [.int c_every, .int c_size, .ref c_a_period, .ref c_a_hang, .ref c_a_start, .ref c_a_wind])), (c_a_hang, .inl (cI, 6, .inl c_hang))] [(b_a, .inr (2, [])), (x_a, .inr (11, [.ref t_a, .ref c_a, .ref d_a, .ref s_a, .ref u_a, .ref q_a, .ref i_a, .ref k_a, .ref w_a, .ref n_a, .long x_asked_o])), (s_a, .inr (8, [.int s_tick, .int s_every, .int s_round, .int s_inside, .ref s_a_up, .ref s_a_due, .ref s_a_wind])), (s_a_wind, .inl (cI, 6, .inl s_wind)), (c_a, .inr (1, [.int c_every, .int c_size, .ref c_a_period, .ref c_a_hang, .ref c_a_start, .ref c_a_wind])), (c_a_hang, .inl (cI, 6, .inl c_hang))] r_o := by
  refine zent_ni (own := RX2) (by decide) rfl (Nat.le_of_ble_eq_true rfl) ?_
  intro p e s m below meth c A ls S hr hlocks hK hP hD hA hl hN
  have hx := S.1
  have hb := S.2.1
  have hml := S.2.2.1
  have hown := S.2.2.2.1
  have hT : ∀ w ∈ zt, w ∈ zwl yX2_worth cX2_worth 3 (some .int) := fun _ h => List.mem_cons_of_mem _ h
  have ht : ∀ w ∈ zt, w.before [.ref b_a, .ref x_a, .int p2].toArray s = true := fun w h => S.2.2.2.2 w (hT w h)
  have hl : lv_has ls 3 [(0, .ref b_a), (1, .ref x_a), (2, .int p2)] := hl
  have hS : va_S A s.heap s.heap [] := va_S.rf
  unfold F_X2_worth at hF
  refine lv_aload_n hx hb dX2_worth_0 rfl (lv_at hl 1 rfl) ?_
  refine lv_dup hx hb dX2_worth_1 rfl ?_
  refine va_getN (D := D) (ci := 11) (v := .long x_asked) (C := RX11) (T := TX11) (N := 11) hx hb ht iyX11 hown hK hP 1 rfl rfl 10 (by decide) (va_Nw.use rfl (hN _ (List.mem_filter.mpr ⟨wf_X2_7, rfl⟩))) (fun _ h9 => h9) rfl dX2_worth_2 ?_
  refine lv_ldc2 (v := 1000) hx hb hown (ht _ wc_X2_13) dX2_worth_5 ?_
  refine lv_ladd hx hb dX2_worth_8 ?_
  refine va_putN (D := D) (ci := 11) (v := .long (x_asked + 1000)) (ty := .long) (C := RX11) (T := TX11) (N := 11) hx hb ht iyX11 tyX11 tyX11_ok nmX11 hown hK hP hD hS 1 rfl rfl 10 (by decide) (va_Nw.use rfl (hN _ (List.mem_filter.mpr ⟨wf_X2_7, rfl⟩))) (fun _ h9 => h9) rfl (by decide +kernel) rfl rfl (Nat.le_of_ble_eq_true rfl) dX2_worth_9 (fun H locs hP hD hS => ?_)
  have hP : va_P D classes [(b_a, .inr (2, [])), (x_a, .inr (11, [.ref t_a, .ref c_a, .ref d_a, .ref s_a, .ref u_a, .ref q_a, .ref i_a, .ref k_a, .ref w_a, .ref n_a, .long (x_asked + 1000)])), (s_a, .inr (8, [.int s_tick, .int s_every, .int s_round, .int s_inside, .ref s_a_up, .ref s_a_due, .ref s_a_wind])), (s_a_wind, .inl (cI, 6, .inl s_wind)), (c_a, .inr (1, [.int c_every, .int c_size, .ref c_a_period, .ref c_a_hang, .ref c_a_start, .ref c_a_wind])), (c_a_hang, .inl (cI, 6, .inl c_hang))] H := hP
  have hD : va_D A [(b_a, .inr (2, [])), (x_a, .inr (11, [.ref t_a, .ref c_a, .ref d_a, .ref s_a, .ref u_a, .ref q_a, .ref i_a, .ref k_a, .ref w_a, .ref n_a, .long (x_asked + 1000)])), (s_a, .inr (8, [.int s_tick, .int s_every, .int s_round, .int s_inside, .ref s_a_up, .ref s_a_due, .ref s_a_wind])), (s_a_wind, .inl (cI, 6, .inl s_wind)), (c_a, .inr (1, [.int c_every, .int c_size, .ref c_a_period, .ref c_a_hang, .ref c_a_start, .ref c_a_wind])), (c_a_hang, .inl (cI, 6, .inl c_hang))] := hD
  refine lv_iconst (v := 2) hx hb dX2_worth_12 (by decide) ?_
  refine lv_aload_n hx hb dX2_worth_13 rfl (lv_at hl 0 rfl) ?_
  refine lv_aload_n hx hb dX2_worth_14 rfl (lv_at hl 1 rfl) ?_
  refine lv_iload_n hx hb dX2_worth_15 rfl (lv_at hl 2 rfl) ?_
  obtain ⟨r_1, x_asked_2, hc_3, hF⟩ := zb2_s hF
  refine zcu_ni (ws1 := [(b_a, .inr (2, [])), (x_a, .inr (11, [.ref t_a, .ref c_a, .ref d_a, .ref s_a, .ref u_a, .ref q_a, .ref i_a, .ref k_a, .ref w_a, .ref n_a, .long x_asked_2])), (s_a, .inr (8, [.int s_tick, .int s_every, .int s_round, .int s_inside, .ref s_a_up, .ref s_a_due, .ref s_a_wind])), (s_a_wind, .inl (cI, 6, .inl s_wind)), (c_a, .inr (1, [.int c_every, .int c_size, .ref c_a_period, .ref c_a_hang, .ref c_a_start, .ref c_a_wind])), (c_a_hang, .inl (cI, 6, .inl c_hang))]) S hT lu_X2_15 (c_X0_worth_r2 l D cI cZ cS cJ b_a x_a t_a c_a d_a s_a u_a q_a i_a k_a w_a n_a s_a_up s_a_due s_a_wind c_a_period c_a_hang c_a_start c_a_wind (x_asked + 1000) s_tick s_every s_round s_inside s_wind c_every c_size c_hang p2 hc_3) ⟨rfl, rfl, Nat.le_of_ble_eq_true rfl, Nat.le_of_ble_eq_true rfl⟩ hN hK hP hD hS hA 0 [0, 1, 2, 3, 4, 5] [] [0, 1, 2, 3, 4, 5] rfl rfl rfl rfl rfl rfl rfl rfl rfl rfl hl.1 rfl (Nat.le_of_ble_eq_true rfl) dX2_worth_16 ⟨Nat.zero_le _, Nat.zero_le _⟩ (fun H locs hP hD hS => ?_)
  refine lv_imul hx hb dX2_worth_19 ?_
  obtain ⟨e_0, e_1⟩ := zo2 hF
  subst e_0
  subst e_1
  exact zret_i S hr hlocks hK hP hD hS dX2_worth_20

theorem lu_X7_15 : zLu RX7 15 yX4_worth cX4_worth 3 (some .int) 2 := ⟨⟨wm_X7_15, wS_X4, wu_X7, wo_X4_worth, wi_X4, wd_X4_worth⟩, by decide, by decide +kernel⟩
def F_X7_worth (x_asked : Int64) (s_round : Int32) (s_wind : Nat → Int32) (p2 : Int32) : Option (Int32 × Int64) :=
  (zb2 (F_X4_worth_r7 (x_asked + 10000) s_round s_wind p2) (fun r_1 x_asked_2 => some (r_1 + p2, x_asked_2)))
set_option maxHeartbeats 4000000 in
set_option maxRecDepth 100000 in
theorem c_X7_worth (l : Launch) (D : va_G) (cI cZ cS cJ : ClassId) (b_a : Nat) (x_a : Nat) (t_a : Nat) (c_a : Nat) (d_a : Nat) (s_a : Nat) (u_a : Nat) (q_a : Nat) (i_a : Nat) (k_a : Nat) (w_a : Nat) (n_a : Nat) (s_a_up : Nat) (s_a_due : Nat) (s_a_wind : Nat) (x_asked : Int64) (s_tick : Int32) (s_every : Int32) (s_round : Int32) (s_inside : Int32) (s_wind : Nat → Int32) (p2 : Int32) {r_o : Int32} {x_asked_o : Int64} (hF : F_X7_worth x_asked s_round s_wind p2 = some (r_o, x_asked_o)) : zMni l yX7_worth (zwl yX7_worth cX7_worth 3 (some .int)) { frames := 2, cells := 0, slots := 0, locals := 44 } D (TYS cI cZ cS cJ) [.ref b_a, .ref x_a, .int p2] [(b_a, .inr (7, [])), (x_a, .inr (11, [.ref t_a, .ref c_a, .ref d_a, .ref s_a, .ref u_a, .ref q_a, .ref i_a, .ref k_a, .ref w_a, .ref n_a, .long x_asked])), (s_a, .inr (8, [.int s_tick, .int s_every, .int s_round, .int s_inside, .ref s_a_up, .ref s_a_due, .ref s_a_wind])), (s_a_wind, .inl (cI, 6, .inl s_wind))] [(b_a, .inr (7, [])), (x_a, .inr (11, [.ref t_a, .ref c_a, .ref d_a, .ref s_a, .ref u_a, .ref q_a, .ref i_a, .ref k_a, .ref w_a, .ref n_a, .long x_asked_o])), (s_a, .inr (8, [.int s_tick, .int s_every, .int s_round, .int s_inside, .ref s_a_up, .ref s_a_due, .ref s_a_wind])), (s_a_wind, .inl (cI, 6, .inl s_wind))] r_o := by
  refine zent_ni (own := RX7) (by decide) rfl (Nat.le_of_ble_eq_true rfl) ?_
  intro p e s m below meth c A ls S hr hlocks hK hP hD hA hl hN
  have hx := S.1
  have hb := S.2.1
  have hml := S.2.2.1
  have hown := S.2.2.2.1
  have hT : ∀ w ∈ zt, w ∈ zwl yX7_worth cX7_worth 3 (some .int) := fun _ h => List.mem_cons_of_mem _ h
  have ht : ∀ w ∈ zt, w.before [.ref b_a, .ref x_a, .int p2].toArray s = true := fun w h => S.2.2.2.2 w (hT w h)
  have hl : lv_has ls 3 [(0, .ref b_a), (1, .ref x_a), (2, .int p2)] := hl
  have hS : va_S A s.heap s.heap [] := va_S.rf
  unfold F_X7_worth at hF
  refine lv_aload_n hx hb dX7_worth_0 rfl (lv_at hl 1 rfl) ?_
  refine lv_dup hx hb dX7_worth_1 rfl ?_
  refine va_getN (D := D) (ci := 11) (v := .long x_asked) (C := RX11) (T := TX11) (N := 11) hx hb ht iyX11 hown hK hP 1 rfl rfl 10 (by decide) (va_Nw.use rfl (hN _ (List.mem_filter.mpr ⟨wf_X7_7, rfl⟩))) (fun _ h9 => h9) rfl dX7_worth_2 ?_
  refine lv_ldc2 (v := 10000) hx hb hown (ht _ wc_X7_13) dX7_worth_5 ?_
  refine lv_ladd hx hb dX7_worth_8 ?_
  refine va_putN (D := D) (ci := 11) (v := .long (x_asked + 10000)) (ty := .long) (C := RX11) (T := TX11) (N := 11) hx hb ht iyX11 tyX11 tyX11_ok nmX11 hown hK hP hD hS 1 rfl rfl 10 (by decide) (va_Nw.use rfl (hN _ (List.mem_filter.mpr ⟨wf_X7_7, rfl⟩))) (fun _ h9 => h9) rfl (by decide +kernel) rfl rfl (Nat.le_of_ble_eq_true rfl) dX7_worth_9 (fun H locs hP hD hS => ?_)
  have hP : va_P D classes [(b_a, .inr (7, [])), (x_a, .inr (11, [.ref t_a, .ref c_a, .ref d_a, .ref s_a, .ref u_a, .ref q_a, .ref i_a, .ref k_a, .ref w_a, .ref n_a, .long (x_asked + 10000)])), (s_a, .inr (8, [.int s_tick, .int s_every, .int s_round, .int s_inside, .ref s_a_up, .ref s_a_due, .ref s_a_wind])), (s_a_wind, .inl (cI, 6, .inl s_wind))] H := hP
  have hD : va_D A [(b_a, .inr (7, [])), (x_a, .inr (11, [.ref t_a, .ref c_a, .ref d_a, .ref s_a, .ref u_a, .ref q_a, .ref i_a, .ref k_a, .ref w_a, .ref n_a, .long (x_asked + 10000)])), (s_a, .inr (8, [.int s_tick, .int s_every, .int s_round, .int s_inside, .ref s_a_up, .ref s_a_due, .ref s_a_wind])), (s_a_wind, .inl (cI, 6, .inl s_wind))] := hD
  refine lv_aload_n hx hb dX7_worth_12 rfl (lv_at hl 0 rfl) ?_
  refine lv_aload_n hx hb dX7_worth_13 rfl (lv_at hl 1 rfl) ?_
  refine lv_iload_n hx hb dX7_worth_14 rfl (lv_at hl 2 rfl) ?_
  obtain ⟨r_1, x_asked_2, hc_3, hF⟩ := zb2_s hF
  refine zcu_ni (ws1 := [(b_a, .inr (7, [])), (x_a, .inr (11, [.ref t_a, .ref c_a, .ref d_a, .ref s_a, .ref u_a, .ref q_a, .ref i_a, .ref k_a, .ref w_a, .ref n_a, .long x_asked_2])), (s_a, .inr (8, [.int s_tick, .int s_every, .int s_round, .int s_inside, .ref s_a_up, .ref s_a_due, .ref s_a_wind])), (s_a_wind, .inl (cI, 6, .inl s_wind))]) S hT lu_X7_15 (c_X4_worth_r7 l D cI cZ cS cJ b_a x_a t_a c_a d_a s_a u_a q_a i_a k_a w_a n_a s_a_up s_a_due s_a_wind (x_asked + 10000) s_tick s_every s_round s_inside s_wind p2 hc_3) ⟨rfl, rfl, Nat.le_of_ble_eq_true rfl, Nat.le_of_ble_eq_true rfl⟩ hN hK hP hD hS hA 0 [0, 1, 2, 3] [] [0, 1, 2, 3] rfl rfl rfl rfl rfl rfl rfl rfl rfl rfl hl.1 rfl (Nat.le_of_ble_eq_true rfl) dX7_worth_15 ⟨Nat.zero_le _, Nat.zero_le _⟩ (fun H locs hP hD hS => ?_)
  refine lv_iload_n hx hb dX7_worth_18 rfl (lv_at hl 2 rfl) ?_
  refine lv_iadd hx hb dX7_worth_19 ?_
  obtain ⟨e_0, e_1⟩ := zo2 hF
  subst e_0
  subst e_1
  exact zret_i S hr hlocks hK hP hD hS dX7_worth_20

theorem lo_X11_215_X5 : zLo RX11 215 RX5 yX5_worth yX5_worth cX5_worth 3 (some .int) 2 := ⟨⟨wm_X11_215, wS_X5, wo_X5_worth, we_X5_X5_worth, wo_X5_worth, wi_X5, wd_X5_worth, _, _, _, wd_X5_worth⟩, by decide, by decide, by decide +kernel⟩
theorem lo_X11_215_X0 : zLo RX11 215 RX0 yX5_worth yX0_worth cX0_worth 3 (some .int) 2 := ⟨⟨wm_X11_215, wS_X5, wo_X5_worth, wE_X0_X0_worth, wo_X0_worth, wi_X0, wd_X0_worth, _, _, _, wd_X5_worth⟩, by decide, by decide, by decide +kernel⟩
theorem lo_X11_215_X4 : zLo RX11 215 RX4 yX5_worth yX4_worth cX4_worth 3 (some .int) 2 := ⟨⟨wm_X11_215, wS_X5, wo_X5_worth, wE_X4_X4_worth, wo_X4_worth, wi_X4, wd_X4_worth, _, _, _, wd_X5_worth⟩, by decide, by decide, by decide +kernel⟩
theorem lo_X11_215_X2 : zLo RX11 215 RX2 yX5_worth yX2_worth cX2_worth 3 (some .int) 2 := ⟨⟨wm_X11_215, wS_X5, wo_X5_worth, wE_X2_X2_worth, wo_X2_worth, wi_X2, wd_X2_worth, _, _, _, wd_X5_worth⟩, by decide, by decide, by decide +kernel⟩
theorem lo_X11_215_X7 : zLo RX11 215 RX7 yX5_worth yX7_worth cX7_worth 3 (some .int) 2 := ⟨⟨wm_X11_215, wS_X5, wo_X5_worth, wE_X7_X7_worth, wo_X7_worth, wi_X7, wd_X7_worth, _, _, _, wd_X5_worth⟩, by decide, by decide, by decide +kernel⟩
theorem lo_X11_215_X3 : zLo RX11 215 RX3 yX5_worth yX3_worth cX3_worth 3 (some .int) 2 := ⟨⟨wm_X11_215, wS_X5, wo_X5_worth, wE_X3_X3_worth, wo_X3_worth, wi_X3, wd_X3_worth, _, _, _, wd_X5_worth⟩, by decide, by decide, by decide +kernel⟩
def F_X11_rate (x_asked : Int64) (s_tick : Int32) (s_round : Int32) (s_wind : Nat → Int32) (c_size : Int32) (c_hang : Nat → Int32) (p1 : Int32) (p2 : Int32) : Option (Int32 × Int64) :=
  (if p1 < 0 then some ((-1000000), x_asked) else (if 6 ≤ p1 then some ((-1000000), x_asked) else (zb1 (F_X11_isNobody c_size p2) (fun r_3 => (if r_3 = 0 then (if p1 = 0 then (zb2 (F_X5_worth x_asked s_wind p2) (fun r_7 x_asked_8 => some (r_7, x_asked_8))) else (if p1 = 1 then (zb2 (F_X0_worth x_asked s_wind c_hang p2) (fun r_11 x_asked_12 => some (r_11, x_asked_12))) else (if p1 = 2 then (zb2 (F_X4_worth x_asked s_round s_wind p2) (fun r_15 x_asked_16 => some (r_15, x_asked_16))) else (if p1 = 3 then (zb2 (F_X2_worth x_asked s_wind c_hang p2) (fun r_19 x_asked_20 => some (r_19, x_asked_20))) else (if p1 = 4 then (zb2 (F_X7_worth x_asked s_round s_wind p2) (fun r_23 x_asked_24 => some (r_23, x_asked_24))) else (if p1 = 5 then (zb2 (F_X3_worth x_asked s_tick s_wind p2) (fun r_27 x_asked_28 => some (r_27, x_asked_28))) else none)))))) else some ((-1000000), x_asked))))))
set_option maxHeartbeats 4000000 in
set_option maxRecDepth 100000 in
theorem c_X11_rate (l : Launch) (D : va_G) (cI cZ cS cJ : ClassId) (x_a : Nat) (t_a : Nat) (c_a : Nat) (d_a : Nat) (s_a : Nat) (u_a : Nat) (q_a : Nat) (i_a : Nat) (k_a : Nat) (w_a : Nat) (n_a : Nat) (n0_a : Nat) (n1_a : Nat) (n2_a : Nat) (n3_a : Nat) (n4_a : Nat) (n5_a : Nat) (s_a_up : Nat) (s_a_due : Nat) (s_a_wind : Nat) (c_a_period : Nat) (c_a_hang : Nat) (c_a_start : Nat) (c_a_wind : Nat) (x_asked : Int64) (s_tick : Int32) (s_every : Int32) (s_round : Int32) (s_inside : Int32) (s_wind : Nat → Int32) (c_every : Int32) (c_size : Int32) (c_hang : Nat → Int32) (p1 : Int32) (p2 : Int32) {r_o : Int32} {x_asked_o : Int64} (hF : F_X11_rate x_asked s_tick s_round s_wind c_size c_hang p1 p2 = some (r_o, x_asked_o)) : zMni l yX11_rate (zwl yX11_rate cX11_rate 4 (some .int)) { frames := 3, cells := 0, slots := 0, locals := 66 } D (TYS cI cZ cS cJ) [.ref x_a, .int p1, .int p2] [(x_a, .inr (11, [.ref t_a, .ref c_a, .ref d_a, .ref s_a, .ref u_a, .ref q_a, .ref i_a, .ref k_a, .ref w_a, .ref n_a, .long x_asked])), (n_a, .inl (cJ, 6, .inr (.inr (.inr (.inr (fun j => ([n0_a, n1_a, n2_a, n3_a, n4_a, n5_a] : List Nat)[j]?)))))), (n0_a, .inr (5, [])), (n1_a, .inr (0, [])), (n2_a, .inr (4, [])), (n3_a, .inr (2, [])), (n4_a, .inr (7, [])), (n5_a, .inr (3, [])), (s_a, .inr (8, [.int s_tick, .int s_every, .int s_round, .int s_inside, .ref s_a_up, .ref s_a_due, .ref s_a_wind])), (s_a_wind, .inl (cI, 6, .inl s_wind)), (c_a, .inr (1, [.int c_every, .int c_size, .ref c_a_period, .ref c_a_hang, .ref c_a_start, .ref c_a_wind])), (c_a_hang, .inl (cI, 6, .inl c_hang))] [(x_a, .inr (11, [.ref t_a, .ref c_a, .ref d_a, .ref s_a, .ref u_a, .ref q_a, .ref i_a, .ref k_a, .ref w_a, .ref n_a, .long x_asked_o])), (n_a, .inl (cJ, 6, .inr (.inr (.inr (.inr (fun j => ([n0_a, n1_a, n2_a, n3_a, n4_a, n5_a] : List Nat)[j]?)))))), (n0_a, .inr (5, [])), (n1_a, .inr (0, [])), (n2_a, .inr (4, [])), (n3_a, .inr (2, [])), (n4_a, .inr (7, [])), (n5_a, .inr (3, [])), (s_a, .inr (8, [.int s_tick, .int s_every, .int s_round, .int s_inside, .ref s_a_up, .ref s_a_due, .ref s_a_wind])), (s_a_wind, .inl (cI, 6, .inl s_wind)), (c_a, .inr (1, [.int c_every, .int c_size, .ref c_a_period, .ref c_a_hang, .ref c_a_start, .ref c_a_wind])), (c_a_hang, .inl (cI, 6, .inl c_hang))] r_o := by
  refine zent_ni (own := RX11) (by decide) rfl (Nat.le_of_ble_eq_true rfl) ?_
  intro p e s m below meth c A ls S hr hlocks hK hP hD hA hl hN
  have hx := S.1
  have hb := S.2.1
  have hml := S.2.2.1
  have hown := S.2.2.2.1
  have hT : ∀ w ∈ zt, w ∈ zwl yX11_rate cX11_rate 4 (some .int) := fun _ h => List.mem_cons_of_mem _ h
  have ht : ∀ w ∈ zt, w.before [.ref x_a, .int p1, .int p2].toArray s = true := fun w h => S.2.2.2.2 w (hT w h)
  have hl : lv_has ls 4 [(0, .ref x_a), (1, .int p1), (2, .int p2)] := hl
  have hS : va_S A s.heap s.heap [] := va_S.rf
  unfold F_X11_rate at hF
  refine lv_iload_n hx hb dX11_rate_0 rfl (lv_at hl 1 rfl) ?_
  refine lv_if_lt (tgt := 21) hx hb dX11_rate_1 (by decide) (fun c_1 => ?_) (fun c_1 => ?_)
  · have hF := zi_pos c_1 hF
    refine lv_ldc (v := (-1000000)) hx hb hown (ht _ wc_X11_214) dX11_rate_21 ?_
    obtain ⟨e_0, e_1⟩ := zo2 hF
    subst e_0
    subst e_1
    exact zret_i S hr hlocks hK hP hD hS dX11_rate_23
  · have hF := zi_neg c_1 hF
    refine lv_iload_n hx hb dX11_rate_4 rfl (lv_at hl 1 rfl) ?_
    refine lv_aload_n hx hb dX11_rate_5 rfl (lv_at hl 0 rfl) ?_
    refine va_get (D := D) (ci := 11) (v := .ref n_a) (C := RX11) (T := TX11) (N := 11) hx hb ht iyX11 hown hK hP 0 rfl rfl 9 (by decide) (ht _ wf_X11_76) (fun _ h9 => h9) rfl dX11_rate_6 ?_
    refine va_alen (v := 6) hx hb hK hP 1 3 rfl rfl rfl dX11_rate_9 ?_
    refine lv_icmp_ge (tgt := 21) hx hb dX11_rate_10 (by decide) (fun c_2 => ?_) (fun c_2 => ?_)
    · have hF := zi_pos c_2 hF
      refine lv_ldc (v := (-1000000)) hx hb hown (ht _ wc_X11_214) dX11_rate_21 ?_
      obtain ⟨e_0, e_1⟩ := zo2 hF
      subst e_0
      subst e_1
      exact zret_i S hr hlocks hK hP hD hS dX11_rate_23
    · have hF := zi_neg c_2 hF
      refine lv_aload_n hx hb dX11_rate_13 rfl (lv_at hl 0 rfl) ?_
      refine lv_iload_n hx hb dX11_rate_14 rfl (lv_at hl 2 rfl) ?_
      obtain ⟨r_3, hc_4, hF⟩ := zb1_s hF
      refine zcv_i (ws1 := [(x_a, .inr (11, [.ref t_a, .ref c_a, .ref d_a, .ref s_a, .ref u_a, .ref q_a, .ref i_a, .ref k_a, .ref w_a, .ref n_a, .long x_asked])), (n_a, .inl (cJ, 6, .inr (.inr (.inr (.inr (fun j => ([n0_a, n1_a, n2_a, n3_a, n4_a, n5_a] : List Nat)[j]?)))))), (n0_a, .inr (5, [])), (n1_a, .inr (0, [])), (n2_a, .inr (4, [])), (n3_a, .inr (2, [])), (n4_a, .inr (7, [])), (n5_a, .inr (3, [])), (s_a, .inr (8, [.int s_tick, .int s_every, .int s_round, .int s_inside, .ref s_a_up, .ref s_a_due, .ref s_a_wind])), (s_a_wind, .inl (cI, 6, .inl s_wind)), (c_a, .inr (1, [.int c_every, .int c_size, .ref c_a_period, .ref c_a_hang, .ref c_a_start, .ref c_a_wind])), (c_a_hang, .inl (cI, 6, .inl c_hang))]) S hT lk_X11_103 (c_X11_isNobody l D cI cZ cS cJ x_a t_a c_a d_a s_a u_a q_a i_a k_a w_a n_a c_a_period c_a_hang c_a_start c_a_wind x_asked c_every c_size p2 hc_4) ⟨rfl, rfl, Nat.le_of_ble_eq_true rfl, Nat.le_of_ble_eq_true rfl⟩ hK hP hD hS hA [0, 10] [1, 2, 3, 4, 5, 6, 7, 8, 9, 11] [10, 0, 1, 2, 3, 4, 5, 6, 7, 8, 11, 9] rfl rfl rfl rfl rfl rfl rfl rfl rfl rfl rfl hl.1 rfl (Nat.le_of_ble_eq_true rfl) dX11_rate_15 ⟨Nat.zero_le _, Nat.zero_le _⟩ (fun H locs hP hD hS => ?_)
      refine lv_if_eq (tgt := 24) hx hb dX11_rate_18 (by decide) (fun c_5 => ?_) (fun c_5 => ?_)
      · have hF := zi_pos c_5 hF
        refine lv_aload_n hx hb dX11_rate_24 rfl (lv_at hl 0 rfl) ?_
        refine va_get (D := D) (ci := 11) (v := .ref n_a) (C := RX11) (T := TX11) (N := 11) hx hb ht iyX11 hown hK hP 0 rfl rfl 9 (by decide) (ht _ wf_X11_76) (fun _ h9 => h9) rfl dX11_rate_25 ?_
        refine lv_iload_n hx hb dX11_rate_28 rfl (lv_at hl 1 rfl) ?_
        by_cases c_6 : p1 = 0
        · have hF := zi_pos c_6 hF
          refine va_aldq hx hb hK hP 1 3 rfl rfl (show ¬ (p1 < 0 ∨ 6 ≤ p1.toNatClampNeg) by rw [c_6]; decide) dX11_rate_29 ?_
          refine W.eq (g2 := F0 m 30 ls [.ref n0_a]) (by rw [c_6]; rfl) ?_
          refine lv_astore_n (lv' := [(3, .ref n0_a), (0, .ref x_a), (1, .int p1), (2, .int p2)]) hx hb dX11_rate_30 rfl hl (by decide) rfl (fun ls hl => ?_)
          refine lv_aload_n hx hb dX11_rate_31 rfl (lv_at hl 0 rfl) ?_
          refine lv_ifnonnull (tgt := 40) hx hb dX11_rate_32 (by decide) ?_
          refine lv_aload_n hx hb dX11_rate_40 rfl (lv_at hl 0 rfl) ?_
          refine lv_aload_n hx hb dX11_rate_41 rfl (lv_at hl 1 rfl) ?_
          refine lv_iload_n hx hb dX11_rate_42 rfl (lv_at hl 3 rfl) ?_
          obtain ⟨r_7, x_asked_8, hc_9, hF⟩ := zb2_s hF
          refine zco_ni (ws1 := [(x_a, .inr (11, [.ref t_a, .ref c_a, .ref d_a, .ref s_a, .ref u_a, .ref q_a, .ref i_a, .ref k_a, .ref w_a, .ref n_a, .long x_asked_8])), (n_a, .inl (cJ, 6, .inr (.inr (.inr (.inr (fun j => ([n0_a, n1_a, n2_a, n3_a, n4_a, n5_a] : List Nat)[j]?)))))), (n0_a, .inr (5, [])), (n1_a, .inr (0, [])), (n2_a, .inr (4, [])), (n3_a, .inr (2, [])), (n4_a, .inr (7, [])), (n5_a, .inr (3, [])), (s_a, .inr (8, [.int s_tick, .int s_every, .int s_round, .int s_inside, .ref s_a_up, .ref s_a_due, .ref s_a_wind])), (s_a_wind, .inl (cI, 6, .inl s_wind)), (c_a, .inr (1, [.int c_every, .int c_size, .ref c_a_period, .ref c_a_hang, .ref c_a_start, .ref c_a_wind])), (c_a_hang, .inl (cI, 6, .inl c_hang))]) S hT lo_X11_215_X5 (c_X5_worth l D cI cZ cS cJ x_a t_a c_a d_a s_a u_a q_a i_a k_a w_a n_a s_a_up s_a_due s_a_wind n0_a x_asked s_tick s_every s_round s_inside s_wind p2 hc_9) ⟨rfl, rfl, Nat.le_of_ble_eq_true rfl, Nat.le_of_ble_eq_true rfl⟩ hN hK hP hD hS hA 2 [0, 8, 9] [1, 2, 3, 4, 5, 6, 7, 10, 11] [9, 0, 1, 2, 3, 4, 5, 6, 10, 11, 7, 8] rfl rfl rfl rfl rfl rfl rfl rfl rfl rfl rfl hl.1 rfl (Nat.le_of_ble_eq_true rfl) dX11_rate_43 ⟨Nat.zero_le _, Nat.zero_le _⟩ (fun H locs hP hD hS => ?_)
          obtain ⟨e_0, e_1⟩ := zo2 hF
          subst e_0
          subst e_1
          exact zret_i S hr hlocks hK hP hD hS dX11_rate_46
        have hF := zi_neg c_6 hF
        by_cases c_10 : p1 = 1
        · have hF := zi_pos c_10 hF
          refine va_aldq hx hb hK hP 1 3 rfl rfl (show ¬ (p1 < 0 ∨ 6 ≤ p1.toNatClampNeg) by rw [c_10]; decide) dX11_rate_29 ?_
          refine W.eq (g2 := F0 m 30 ls [.ref n1_a]) (by rw [c_10]; rfl) ?_
          refine lv_astore_n (lv' := [(3, .ref n1_a), (0, .ref x_a), (1, .int p1), (2, .int p2)]) hx hb dX11_rate_30 rfl hl (by decide) rfl (fun ls hl => ?_)
          refine lv_aload_n hx hb dX11_rate_31 rfl (lv_at hl 0 rfl) ?_
          refine lv_ifnonnull (tgt := 40) hx hb dX11_rate_32 (by decide) ?_
          refine lv_aload_n hx hb dX11_rate_40 rfl (lv_at hl 0 rfl) ?_
          refine lv_aload_n hx hb dX11_rate_41 rfl (lv_at hl 1 rfl) ?_
          refine lv_iload_n hx hb dX11_rate_42 rfl (lv_at hl 3 rfl) ?_
          obtain ⟨r_11, x_asked_12, hc_13, hF⟩ := zb2_s hF
          refine zco_ni (ws1 := [(x_a, .inr (11, [.ref t_a, .ref c_a, .ref d_a, .ref s_a, .ref u_a, .ref q_a, .ref i_a, .ref k_a, .ref w_a, .ref n_a, .long x_asked_12])), (n_a, .inl (cJ, 6, .inr (.inr (.inr (.inr (fun j => ([n0_a, n1_a, n2_a, n3_a, n4_a, n5_a] : List Nat)[j]?)))))), (n0_a, .inr (5, [])), (n1_a, .inr (0, [])), (n2_a, .inr (4, [])), (n3_a, .inr (2, [])), (n4_a, .inr (7, [])), (n5_a, .inr (3, [])), (s_a, .inr (8, [.int s_tick, .int s_every, .int s_round, .int s_inside, .ref s_a_up, .ref s_a_due, .ref s_a_wind])), (s_a_wind, .inl (cI, 6, .inl s_wind)), (c_a, .inr (1, [.int c_every, .int c_size, .ref c_a_period, .ref c_a_hang, .ref c_a_start, .ref c_a_wind])), (c_a_hang, .inl (cI, 6, .inl c_hang))]) S hT lo_X11_215_X0 (c_X0_worth l D cI cZ cS cJ n1_a x_a t_a c_a d_a s_a u_a q_a i_a k_a w_a n_a s_a_up s_a_due s_a_wind c_a_period c_a_hang c_a_start c_a_wind x_asked s_tick s_every s_round s_inside s_wind c_every c_size c_hang p2 hc_13) ⟨rfl, rfl, Nat.le_of_ble_eq_true rfl, Nat.le_of_ble_eq_true rfl⟩ hN hK hP hD hS hA 3 [3, 0, 8, 9, 10, 11] [1, 2, 4, 5, 6, 7] [7, 0, 1, 6, 2, 3, 4, 5, 8, 9, 10, 11] rfl rfl rfl rfl rfl rfl rfl rfl rfl rfl rfl hl.1 rfl (Nat.le_of_ble_eq_true rfl) dX11_rate_43 ⟨Nat.zero_le _, Nat.zero_le _⟩ (fun H locs hP hD hS => ?_)
          obtain ⟨e_0, e_1⟩ := zo2 hF
          subst e_0
          subst e_1
          exact zret_i S hr hlocks hK hP hD hS dX11_rate_46
        have hF := zi_neg c_10 hF
        by_cases c_14 : p1 = 2
        · have hF := zi_pos c_14 hF
          refine va_aldq hx hb hK hP 1 3 rfl rfl (show ¬ (p1 < 0 ∨ 6 ≤ p1.toNatClampNeg) by rw [c_14]; decide) dX11_rate_29 ?_
          refine W.eq (g2 := F0 m 30 ls [.ref n2_a]) (by rw [c_14]; rfl) ?_
          refine lv_astore_n (lv' := [(3, .ref n2_a), (0, .ref x_a), (1, .int p1), (2, .int p2)]) hx hb dX11_rate_30 rfl hl (by decide) rfl (fun ls hl => ?_)
          refine lv_aload_n hx hb dX11_rate_31 rfl (lv_at hl 0 rfl) ?_
          refine lv_ifnonnull (tgt := 40) hx hb dX11_rate_32 (by decide) ?_
          refine lv_aload_n hx hb dX11_rate_40 rfl (lv_at hl 0 rfl) ?_
          refine lv_aload_n hx hb dX11_rate_41 rfl (lv_at hl 1 rfl) ?_
          refine lv_iload_n hx hb dX11_rate_42 rfl (lv_at hl 3 rfl) ?_
          obtain ⟨r_15, x_asked_16, hc_17, hF⟩ := zb2_s hF
          refine zco_ni (ws1 := [(x_a, .inr (11, [.ref t_a, .ref c_a, .ref d_a, .ref s_a, .ref u_a, .ref q_a, .ref i_a, .ref k_a, .ref w_a, .ref n_a, .long x_asked_16])), (n_a, .inl (cJ, 6, .inr (.inr (.inr (.inr (fun j => ([n0_a, n1_a, n2_a, n3_a, n4_a, n5_a] : List Nat)[j]?)))))), (n0_a, .inr (5, [])), (n1_a, .inr (0, [])), (n2_a, .inr (4, [])), (n3_a, .inr (2, [])), (n4_a, .inr (7, [])), (n5_a, .inr (3, [])), (s_a, .inr (8, [.int s_tick, .int s_every, .int s_round, .int s_inside, .ref s_a_up, .ref s_a_due, .ref s_a_wind])), (s_a_wind, .inl (cI, 6, .inl s_wind)), (c_a, .inr (1, [.int c_every, .int c_size, .ref c_a_period, .ref c_a_hang, .ref c_a_start, .ref c_a_wind])), (c_a_hang, .inl (cI, 6, .inl c_hang))]) S hT lo_X11_215_X4 (c_X4_worth l D cI cZ cS cJ n2_a x_a t_a c_a d_a s_a u_a q_a i_a k_a w_a n_a s_a_up s_a_due s_a_wind x_asked s_tick s_every s_round s_inside s_wind p2 hc_17) ⟨rfl, rfl, Nat.le_of_ble_eq_true rfl, Nat.le_of_ble_eq_true rfl⟩ hN hK hP hD hS hA 4 [4, 0, 8, 9] [1, 2, 3, 5, 6, 7, 10, 11] [9, 0, 1, 2, 8, 3, 4, 5, 10, 11, 6, 7] rfl rfl rfl rfl rfl rfl rfl rfl rfl rfl rfl hl.1 rfl (Nat.le_of_ble_eq_true rfl) dX11_rate_43 ⟨Nat.zero_le _, Nat.zero_le _⟩ (fun H locs hP hD hS => ?_)
          obtain ⟨e_0, e_1⟩ := zo2 hF
          subst e_0
          subst e_1
          exact zret_i S hr hlocks hK hP hD hS dX11_rate_46
        have hF := zi_neg c_14 hF
        by_cases c_18 : p1 = 3
        · have hF := zi_pos c_18 hF
          refine va_aldq hx hb hK hP 1 3 rfl rfl (show ¬ (p1 < 0 ∨ 6 ≤ p1.toNatClampNeg) by rw [c_18]; decide) dX11_rate_29 ?_
          refine W.eq (g2 := F0 m 30 ls [.ref n3_a]) (by rw [c_18]; rfl) ?_
          refine lv_astore_n (lv' := [(3, .ref n3_a), (0, .ref x_a), (1, .int p1), (2, .int p2)]) hx hb dX11_rate_30 rfl hl (by decide) rfl (fun ls hl => ?_)
          refine lv_aload_n hx hb dX11_rate_31 rfl (lv_at hl 0 rfl) ?_
          refine lv_ifnonnull (tgt := 40) hx hb dX11_rate_32 (by decide) ?_
          refine lv_aload_n hx hb dX11_rate_40 rfl (lv_at hl 0 rfl) ?_
          refine lv_aload_n hx hb dX11_rate_41 rfl (lv_at hl 1 rfl) ?_
          refine lv_iload_n hx hb dX11_rate_42 rfl (lv_at hl 3 rfl) ?_
          obtain ⟨r_19, x_asked_20, hc_21, hF⟩ := zb2_s hF
          refine zco_ni (ws1 := [(x_a, .inr (11, [.ref t_a, .ref c_a, .ref d_a, .ref s_a, .ref u_a, .ref q_a, .ref i_a, .ref k_a, .ref w_a, .ref n_a, .long x_asked_20])), (n_a, .inl (cJ, 6, .inr (.inr (.inr (.inr (fun j => ([n0_a, n1_a, n2_a, n3_a, n4_a, n5_a] : List Nat)[j]?)))))), (n0_a, .inr (5, [])), (n1_a, .inr (0, [])), (n2_a, .inr (4, [])), (n3_a, .inr (2, [])), (n4_a, .inr (7, [])), (n5_a, .inr (3, [])), (s_a, .inr (8, [.int s_tick, .int s_every, .int s_round, .int s_inside, .ref s_a_up, .ref s_a_due, .ref s_a_wind])), (s_a_wind, .inl (cI, 6, .inl s_wind)), (c_a, .inr (1, [.int c_every, .int c_size, .ref c_a_period, .ref c_a_hang, .ref c_a_start, .ref c_a_wind])), (c_a_hang, .inl (cI, 6, .inl c_hang))]) S hT lo_X11_215_X2 (c_X2_worth l D cI cZ cS cJ n3_a x_a t_a c_a d_a s_a u_a q_a i_a k_a w_a n_a s_a_up s_a_due s_a_wind c_a_period c_a_hang c_a_start c_a_wind x_asked s_tick s_every s_round s_inside s_wind c_every c_size c_hang p2 hc_21) ⟨rfl, rfl, Nat.le_of_ble_eq_true rfl, Nat.le_of_ble_eq_true rfl⟩ hN hK hP hD hS hA 5 [5, 0, 8, 9, 10, 11] [1, 2, 3, 4, 6, 7] [7, 0, 1, 2, 3, 6, 4, 5, 8, 9, 10, 11] rfl rfl rfl rfl rfl rfl rfl rfl rfl rfl rfl hl.1 rfl (Nat.le_of_ble_eq_true rfl) dX11_rate_43 ⟨Nat.zero_le _, Nat.zero_le _⟩ (fun H locs hP hD hS => ?_)
          obtain ⟨e_0, e_1⟩ := zo2 hF
          subst e_0
          subst e_1
          exact zret_i S hr hlocks hK hP hD hS dX11_rate_46
        have hF := zi_neg c_18 hF
        by_cases c_22 : p1 = 4
        · have hF := zi_pos c_22 hF
          refine va_aldq hx hb hK hP 1 3 rfl rfl (show ¬ (p1 < 0 ∨ 6 ≤ p1.toNatClampNeg) by rw [c_22]; decide) dX11_rate_29 ?_
          refine W.eq (g2 := F0 m 30 ls [.ref n4_a]) (by rw [c_22]; rfl) ?_
          refine lv_astore_n (lv' := [(3, .ref n4_a), (0, .ref x_a), (1, .int p1), (2, .int p2)]) hx hb dX11_rate_30 rfl hl (by decide) rfl (fun ls hl => ?_)
          refine lv_aload_n hx hb dX11_rate_31 rfl (lv_at hl 0 rfl) ?_
          refine lv_ifnonnull (tgt := 40) hx hb dX11_rate_32 (by decide) ?_
          refine lv_aload_n hx hb dX11_rate_40 rfl (lv_at hl 0 rfl) ?_
          refine lv_aload_n hx hb dX11_rate_41 rfl (lv_at hl 1 rfl) ?_
          refine lv_iload_n hx hb dX11_rate_42 rfl (lv_at hl 3 rfl) ?_
          obtain ⟨r_23, x_asked_24, hc_25, hF⟩ := zb2_s hF
          refine zco_ni (ws1 := [(x_a, .inr (11, [.ref t_a, .ref c_a, .ref d_a, .ref s_a, .ref u_a, .ref q_a, .ref i_a, .ref k_a, .ref w_a, .ref n_a, .long x_asked_24])), (n_a, .inl (cJ, 6, .inr (.inr (.inr (.inr (fun j => ([n0_a, n1_a, n2_a, n3_a, n4_a, n5_a] : List Nat)[j]?)))))), (n0_a, .inr (5, [])), (n1_a, .inr (0, [])), (n2_a, .inr (4, [])), (n3_a, .inr (2, [])), (n4_a, .inr (7, [])), (n5_a, .inr (3, [])), (s_a, .inr (8, [.int s_tick, .int s_every, .int s_round, .int s_inside, .ref s_a_up, .ref s_a_due, .ref s_a_wind])), (s_a_wind, .inl (cI, 6, .inl s_wind)), (c_a, .inr (1, [.int c_every, .int c_size, .ref c_a_period, .ref c_a_hang, .ref c_a_start, .ref c_a_wind])), (c_a_hang, .inl (cI, 6, .inl c_hang))]) S hT lo_X11_215_X7 (c_X7_worth l D cI cZ cS cJ n4_a x_a t_a c_a d_a s_a u_a q_a i_a k_a w_a n_a s_a_up s_a_due s_a_wind x_asked s_tick s_every s_round s_inside s_wind p2 hc_25) ⟨rfl, rfl, Nat.le_of_ble_eq_true rfl, Nat.le_of_ble_eq_true rfl⟩ hN hK hP hD hS hA 6 [6, 0, 8, 9] [1, 2, 3, 4, 5, 7, 10, 11] [9, 0, 1, 2, 3, 4, 8, 5, 10, 11, 6, 7] rfl rfl rfl rfl rfl rfl rfl rfl rfl rfl rfl hl.1 rfl (Nat.le_of_ble_eq_true rfl) dX11_rate_43 ⟨Nat.zero_le _, Nat.zero_le _⟩ (fun H locs hP hD hS => ?_)
          obtain ⟨e_0, e_1⟩ := zo2 hF
          subst e_0
          subst e_1
          exact zret_i S hr hlocks hK hP hD hS dX11_rate_46
        have hF := zi_neg c_22 hF
        by_cases c_26 : p1 = 5
        · have hF := zi_pos c_26 hF
          refine va_aldq hx hb hK hP 1 3 rfl rfl (show ¬ (p1 < 0 ∨ 6 ≤ p1.toNatClampNeg) by rw [c_26]; decide) dX11_rate_29 ?_
          refine W.eq (g2 := F0 m 30 ls [.ref n5_a]) (by rw [c_26]; rfl) ?_
          refine lv_astore_n (lv' := [(3, .ref n5_a), (0, .ref x_a), (1, .int p1), (2, .int p2)]) hx hb dX11_rate_30 rfl hl (by decide) rfl (fun ls hl => ?_)
          refine lv_aload_n hx hb dX11_rate_31 rfl (lv_at hl 0 rfl) ?_
          refine lv_ifnonnull (tgt := 40) hx hb dX11_rate_32 (by decide) ?_
          refine lv_aload_n hx hb dX11_rate_40 rfl (lv_at hl 0 rfl) ?_
          refine lv_aload_n hx hb dX11_rate_41 rfl (lv_at hl 1 rfl) ?_
          refine lv_iload_n hx hb dX11_rate_42 rfl (lv_at hl 3 rfl) ?_
          obtain ⟨r_27, x_asked_28, hc_29, hF⟩ := zb2_s hF
          refine zco_ni (ws1 := [(x_a, .inr (11, [.ref t_a, .ref c_a, .ref d_a, .ref s_a, .ref u_a, .ref q_a, .ref i_a, .ref k_a, .ref w_a, .ref n_a, .long x_asked_28])), (n_a, .inl (cJ, 6, .inr (.inr (.inr (.inr (fun j => ([n0_a, n1_a, n2_a, n3_a, n4_a, n5_a] : List Nat)[j]?)))))), (n0_a, .inr (5, [])), (n1_a, .inr (0, [])), (n2_a, .inr (4, [])), (n3_a, .inr (2, [])), (n4_a, .inr (7, [])), (n5_a, .inr (3, [])), (s_a, .inr (8, [.int s_tick, .int s_every, .int s_round, .int s_inside, .ref s_a_up, .ref s_a_due, .ref s_a_wind])), (s_a_wind, .inl (cI, 6, .inl s_wind)), (c_a, .inr (1, [.int c_every, .int c_size, .ref c_a_period, .ref c_a_hang, .ref c_a_start, .ref c_a_wind])), (c_a_hang, .inl (cI, 6, .inl c_hang))]) S hT lo_X11_215_X3 (c_X3_worth l D cI cZ cS cJ n5_a x_a t_a c_a d_a s_a u_a q_a i_a k_a w_a n_a s_a_up s_a_due s_a_wind x_asked s_tick s_every s_round s_inside s_wind p2 hc_29) ⟨rfl, rfl, Nat.le_of_ble_eq_true rfl, Nat.le_of_ble_eq_true rfl⟩ hN hK hP hD hS hA 7 [7, 0, 8, 9] [1, 2, 3, 4, 5, 6, 10, 11] [9, 0, 1, 2, 3, 4, 5, 8, 10, 11, 6, 7] rfl rfl rfl rfl rfl rfl rfl rfl rfl rfl rfl hl.1 rfl (Nat.le_of_ble_eq_true rfl) dX11_rate_43 ⟨Nat.zero_le _, Nat.zero_le _⟩ (fun H locs hP hD hS => ?_)
          obtain ⟨e_0, e_1⟩ := zo2 hF
          subst e_0
          subst e_1
          exact zret_i S hr hlocks hK hP hD hS dX11_rate_46
        have hF := zi_neg c_26 hF
        cases hF
      · have hF := zi_neg c_5 hF
        refine lv_ldc (v := (-1000000)) hx hb hown (ht _ wc_X11_214) dX11_rate_21 ?_
        obtain ⟨e_0, e_1⟩ := zo2 hF
        subst e_0
        subst e_1
        exact zret_i S hr hlocks hK hP hD hS dX11_rate_23
