theorem lk_X11_155 : zLk RX11 155 yX8_turn cX8_turn 2 none 1 := ⟨⟨wm_X11_155, wo_X8_turn, we_X8_X8_turn, wi_X8, wd_X8_turn⟩, by decide, by decide, by decide +kernel⟩
theorem lk_X11_162 : zLs RX11 162 yJ6_bitCount_0f7a4 cJ6_bitCount_0f7a4 1 (some .int) 1 := ⟨⟨wm_X11_162, ws_J6_bitCount_0f7a4, wi_J6, wd_J6_bitCount_0f7a4⟩, by decide, by decide, by decide +kernel⟩
def L_X11_pace_19 (s_tick : Int32) (s_every : Int32) (s_round : Int32) (s_inside : Int32) (s_up : Nat → Int32) (s_due : Nat → Int32) (s_wind : Nat → Int32) (c_size : Int32) (c_period : Nat → Int32) (c_hang : Nat → Int32) (v1 : Int32) : Nat → Int32 → Int32 → Int32 → Int32 → (Nat → Int32) → (Nat → Int32) → (Nat → Int32) → Int32 → Int32 → Int32 → Option (Int32 × Int32 × Int32 × Int32 × (Nat → Int32) × (Nat → Int32) × (Nat → Int32) × Int32 × Int32 × Int32)
  | 0 => fun _ _ _ _ _ _ _ _ _ _ => none
  | n + 1 => fun u_tick u_every u_round u_inside u_up u_due u_wind v2 v3 v4 => (if 9 < v4 then some (u_tick, u_every, u_round, u_inside, u_up, u_due, u_wind, v2, v3, v4) else (zb7 (F_X8_become u_up u_due u_wind s_tick s_every s_round s_inside s_up s_due s_wind) (fun u_tick_26 u_every_27 u_round_28 u_inside_29 u_up_30 u_due_31 u_wind_32 => (zb2 (F_X8_turn u_every_27 u_round_28 v4) (fun u_every_34 u_round_35 => (zb6 (F_X11_playOn u_tick_26 u_every_34 u_round_35 u_inside_29 u_up_30 u_due_31 u_wind_32 c_size c_period c_hang v1) (fun u_tick_37 u_round_38 u_inside_39 u_up_40 u_due_41 u_wind_42 => (zb1 (F_J6_bitCount_0f7a4 u_inside_39) (fun r_44 => (if r_44 ≤ v3 then (L_X11_pace_19 s_tick s_every s_round s_inside s_up s_due s_wind c_size c_period c_hang v1 n u_tick_37 u_every_34 u_round_38 u_inside_39 u_up_40 u_due_41 u_wind_42 v2 v3 (v4 + 1)) else (L_X11_pace_19 s_tick s_every s_round s_inside s_up s_due s_wind c_size c_period c_hang v1 n u_tick_37 u_every_34 u_round_38 u_inside_39 u_up_40 u_due_41 u_wind_42 v4 r_44 (v4 + 1))))))))))))
theorem L_X11_pace_19_z (s_tick : Int32) (s_every : Int32) (s_round : Int32) (s_inside : Int32) (s_up : Nat → Int32) (s_due : Nat → Int32) (s_wind : Nat → Int32) (c_size : Int32) (c_period : Nat → Int32) (c_hang : Nat → Int32) (v1 : Int32) (u_tick : Int32) (u_every : Int32) (u_round : Int32) (u_inside : Int32) (u_up : Nat → Int32) (u_due : Nat → Int32) (u_wind : Nat → Int32) (v2 : Int32) (v3 : Int32) (v4 : Int32) : L_X11_pace_19 s_tick s_every s_round s_inside s_up s_due s_wind c_size c_period c_hang v1 0 u_tick u_every u_round u_inside u_up u_due u_wind v2 v3 v4 = none := rfl
theorem L_X11_pace_19_s (s_tick : Int32) (s_every : Int32) (s_round : Int32) (s_inside : Int32) (s_up : Nat → Int32) (s_due : Nat → Int32) (s_wind : Nat → Int32) (c_size : Int32) (c_period : Nat → Int32) (c_hang : Nat → Int32) (v1 : Int32) (n : Nat) (u_tick : Int32) (u_every : Int32) (u_round : Int32) (u_inside : Int32) (u_up : Nat → Int32) (u_due : Nat → Int32) (u_wind : Nat → Int32) (v2 : Int32) (v3 : Int32) (v4 : Int32) : L_X11_pace_19 s_tick s_every s_round s_inside s_up s_due s_wind c_size c_period c_hang v1 (n + 1) u_tick u_every u_round u_inside u_up u_due u_wind v2 v3 v4 = (if 9 < v4 then some (u_tick, u_every, u_round, u_inside, u_up, u_due, u_wind, v2, v3, v4) else (zb7 (F_X8_become u_up u_due u_wind s_tick s_every s_round s_inside s_up s_due s_wind) (fun u_tick_26 u_every_27 u_round_28 u_inside_29 u_up_30 u_due_31 u_wind_32 => (zb2 (F_X8_turn u_every_27 u_round_28 v4) (fun u_every_34 u_round_35 => (zb6 (F_X11_playOn u_tick_26 u_every_34 u_round_35 u_inside_29 u_up_30 u_due_31 u_wind_32 c_size c_period c_hang v1) (fun u_tick_37 u_round_38 u_inside_39 u_up_40 u_due_41 u_wind_42 => (zb1 (F_J6_bitCount_0f7a4 u_inside_39) (fun r_44 => (if r_44 ≤ v3 then (L_X11_pace_19 s_tick s_every s_round s_inside s_up s_due s_wind c_size c_period c_hang v1 n u_tick_37 u_every_34 u_round_38 u_inside_39 u_up_40 u_due_41 u_wind_42 v2 v3 (v4 + 1)) else (L_X11_pace_19 s_tick s_every s_round s_inside s_up s_due s_wind c_size c_period c_hang v1 n u_tick_37 u_every_34 u_round_38 u_inside_39 u_up_40 u_due_41 u_wind_42 v4 r_44 (v4 + 1)))))))))))) := rfl
def F_X11_pace (s_tick : Int32) (s_every : Int32) (s_round : Int32) (s_inside : Int32) (s_up : Nat → Int32) (s_due : Nat → Int32) (s_wind : Nat → Int32) (u_tick : Int32) (u_every : Int32) (u_round : Int32) (u_inside : Int32) (u_up : Nat → Int32) (u_due : Nat → Int32) (u_wind : Nat → Int32) (c_size : Int32) (c_period : Nat → Int32) (c_hang : Nat → Int32) (p1 : Int32) : Option (Int32 × Int32 × Int32 × Int32 × Int32 × (Nat → Int32) × (Nat → Int32) × (Nat → Int32)) :=
  (if p1 < 0 then some ((-1), u_tick, u_every, u_round, u_inside, u_up, u_due, u_wind) else (if p1 ≤ 120 then (zb10 (L_X11_pace_19 s_tick s_every s_round s_inside s_up s_due s_wind c_size c_period c_hang p1 300 u_tick u_every u_round u_inside u_up u_due u_wind 2 (-1) 2) (fun u_tick_47 u_every_48 u_round_49 u_inside_50 u_up_51 u_due_52 u_wind_53 v2_54 v3_55 v4_56 => some (v2_54, u_tick_47, u_every_48, u_round_49, u_inside_50, u_up_51, u_due_52, u_wind_53))) else some ((-1), u_tick, u_every, u_round, u_inside, u_up, u_due, u_wind)))
set_option maxHeartbeats 4000000 in
set_option maxRecDepth 100000 in
theorem c_X11_pace (l : Launch) (D : va_G) (cI cZ cS cJ : ClassId) (x_a : Nat) (t_a : Nat) (c_a : Nat) (d_a : Nat) (s_a : Nat) (u_a : Nat) (q_a : Nat) (i_a : Nat) (k_a : Nat) (w_a : Nat) (n_a : Nat) (s_a_up : Nat) (s_a_due : Nat) (s_a_wind : Nat) (u_a_up : Nat) (u_a_due : Nat) (u_a_wind : Nat) (c_a_period : Nat) (c_a_hang : Nat) (c_a_start : Nat) (c_a_wind : Nat) (x_asked : Int64) (s_tick : Int32) (s_every : Int32) (s_round : Int32) (s_inside : Int32) (s_up : Nat → Int32) (s_due : Nat → Int32) (s_wind : Nat → Int32) (u_tick : Int32) (u_every : Int32) (u_round : Int32) (u_inside : Int32) (u_up : Nat → Int32) (u_due : Nat → Int32) (u_wind : Nat → Int32) (c_every : Int32) (c_size : Int32) (c_period : Nat → Int32) (c_hang : Nat → Int32) (p1 : Int32) {r_o : Int32} {u_tick_o : Int32} {u_every_o : Int32} {u_round_o : Int32} {u_inside_o : Int32} {u_up_o : Nat → Int32} {u_due_o : Nat → Int32} {u_wind_o : Nat → Int32} (hF : F_X11_pace s_tick s_every s_round s_inside s_up s_due s_wind u_tick u_every u_round u_inside u_up u_due u_wind c_size c_period c_hang p1 = some (r_o, u_tick_o, u_every_o, u_round_o, u_inside_o, u_up_o, u_due_o, u_wind_o)) : zMi l yX11_pace (zwl yX11_pace cX11_pace 6 (some .int)) { frames := 4, cells := 0, slots := 0, locals := 87 } D (TYS cI cZ cS cJ) [.ref x_a, .int p1] [(x_a, .inr (11, [.ref t_a, .ref c_a, .ref d_a, .ref s_a, .ref u_a, .ref q_a, .ref i_a, .ref k_a, .ref w_a, .ref n_a, .long x_asked])), (s_a, .inr (8, [.int s_tick, .int s_every, .int s_round, .int s_inside, .ref s_a_up, .ref s_a_due, .ref s_a_wind])), (s_a_up, .inl (cI, 6, .inl s_up)), (s_a_due, .inl (cI, 6, .inl s_due)), (s_a_wind, .inl (cI, 6, .inl s_wind)), (u_a, .inr (8, [.int u_tick, .int u_every, .int u_round, .int u_inside, .ref u_a_up, .ref u_a_due, .ref u_a_wind])), (u_a_up, .inl (cI, 6, .inl u_up)), (u_a_due, .inl (cI, 6, .inl u_due)), (u_a_wind, .inl (cI, 6, .inl u_wind)), (c_a, .inr (1, [.int c_every, .int c_size, .ref c_a_period, .ref c_a_hang, .ref c_a_start, .ref c_a_wind])), (c_a_period, .inl (cI, 6, .inl c_period)), (c_a_hang, .inl (cI, 6, .inl c_hang))] [(x_a, .inr (11, [.ref t_a, .ref c_a, .ref d_a, .ref s_a, .ref u_a, .ref q_a, .ref i_a, .ref k_a, .ref w_a, .ref n_a, .long x_asked])), (s_a, .inr (8, [.int s_tick, .int s_every, .int s_round, .int s_inside, .ref s_a_up, .ref s_a_due, .ref s_a_wind])), (s_a_up, .inl (cI, 6, .inl s_up)), (s_a_due, .inl (cI, 6, .inl s_due)), (s_a_wind, .inl (cI, 6, .inl s_wind)), (u_a, .inr (8, [.int u_tick_o, .int u_every_o, .int u_round_o, .int u_inside_o, .ref u_a_up, .ref u_a_due, .ref u_a_wind])), (u_a_up, .inl (cI, 6, .inl u_up_o)), (u_a_due, .inl (cI, 6, .inl u_due_o)), (u_a_wind, .inl (cI, 6, .inl u_wind_o)), (c_a, .inr (1, [.int c_every, .int c_size, .ref c_a_period, .ref c_a_hang, .ref c_a_start, .ref c_a_wind])), (c_a_period, .inl (cI, 6, .inl c_period)), (c_a_hang, .inl (cI, 6, .inl c_hang))] r_o := by
  refine zent_i (own := RX11) (by decide) rfl (Nat.le_of_ble_eq_true rfl) ?_
  intro p e s m below meth c A ls S hr hlocks hK hP hD hA hl
  have hx := S.1
  have hb := S.2.1
  have hml := S.2.2.1
  have hown := S.2.2.2.1
  have hT : ∀ w ∈ zt, w ∈ zwl yX11_pace cX11_pace 6 (some .int) := fun _ h => List.mem_cons_of_mem _ h
  have ht : ∀ w ∈ zt, w.before [.ref x_a, .int p1].toArray s = true := fun w h => S.2.2.2.2 w (hT w h)
  have hl : lv_has ls 6 [(0, .ref x_a), (1, .int p1)] := hl
  have hS : va_S A s.heap s.heap [] := va_S.rf
  unfold F_X11_pace at hF
  have hloop_19 : ∀ (n : Nat) (x_asked : Int64) (s_tick : Int32) (s_every : Int32) (s_round : Int32) (s_inside : Int32) (s_up : Nat → Int32) (s_due : Nat → Int32) (s_wind : Nat → Int32) (u_tick : Int32) (u_every : Int32) (u_round : Int32) (u_inside : Int32) (u_up : Nat → Int32) (u_due : Nat → Int32) (u_wind : Nat → Int32) (c_every : Int32) (c_size : Int32) (c_period : Nat → Int32) (c_hang : Nat → Int32) (v1 : Int32) (v2 : Int32) (v3 : Int32) (v4 : Int32) (u_tick' : Int32) (u_every' : Int32) (u_round' : Int32) (u_inside' : Int32) (u_up' : Nat → Int32) (u_due' : Nat → Int32) (u_wind' : Nat → Int32) (v2' : Int32) (v3' : Int32) (v4' : Int32), L_X11_pace_19 s_tick s_every s_round s_inside s_up s_due s_wind c_size c_period c_hang v1 n u_tick u_every u_round u_inside u_up u_due u_wind v2 v3 v4 = some (u_tick', u_every', u_round', u_inside', u_up', u_due', u_wind', v2', v3', v4') → ∀ (H : Heap) (locs : List Loc) (ls : Array Slot), va_P D classes [(x_a, .inr (11, [.ref t_a, .ref c_a, .ref d_a, .ref s_a, .ref u_a, .ref q_a, .ref i_a, .ref k_a, .ref w_a, .ref n_a, .long x_asked])), (s_a, .inr (8, [.int s_tick, .int s_every, .int s_round, .int s_inside, .ref s_a_up, .ref s_a_due, .ref s_a_wind])), (s_a_up, .inl (cI, 6, .inl s_up)), (s_a_due, .inl (cI, 6, .inl s_due)), (s_a_wind, .inl (cI, 6, .inl s_wind)), (u_a, .inr (8, [.int u_tick, .int u_every, .int u_round, .int u_inside, .ref u_a_up, .ref u_a_due, .ref u_a_wind])), (u_a_up, .inl (cI, 6, .inl u_up)), (u_a_due, .inl (cI, 6, .inl u_due)), (u_a_wind, .inl (cI, 6, .inl u_wind)), (c_a, .inr (1, [.int c_every, .int c_size, .ref c_a_period, .ref c_a_hang, .ref c_a_start, .ref c_a_wind])), (c_a_period, .inl (cI, 6, .inl c_period)), (c_a_hang, .inl (cI, 6, .inl c_hang))] H → va_D A [(x_a, .inr (11, [.ref t_a, .ref c_a, .ref d_a, .ref s_a, .ref u_a, .ref q_a, .ref i_a, .ref k_a, .ref w_a, .ref n_a, .long x_asked])), (s_a, .inr (8, [.int s_tick, .int s_every, .int s_round, .int s_inside, .ref s_a_up, .ref s_a_due, .ref s_a_wind])), (s_a_up, .inl (cI, 6, .inl s_up)), (s_a_due, .inl (cI, 6, .inl s_due)), (s_a_wind, .inl (cI, 6, .inl s_wind)), (u_a, .inr (8, [.int u_tick, .int u_every, .int u_round, .int u_inside, .ref u_a_up, .ref u_a_due, .ref u_a_wind])), (u_a_up, .inl (cI, 6, .inl u_up)), (u_a_due, .inl (cI, 6, .inl u_due)), (u_a_wind, .inl (cI, 6, .inl u_wind)), (c_a, .inr (1, [.int c_every, .int c_size, .ref c_a_period, .ref c_a_hang, .ref c_a_start, .ref c_a_wind])), (c_a_period, .inl (cI, 6, .inl c_period)), (c_a_hang, .inl (cI, 6, .inl c_hang))] → va_S A s.heap H locs → lv_has ls 6 [(0, .ref x_a), (1, .int v1), (2, .int v2), (3, .int v3), (4, .int v4)] → (∀ (H : Heap) (locs : List Loc) (ls : Array Slot), va_P D classes [(x_a, .inr (11, [.ref t_a, .ref c_a, .ref d_a, .ref s_a, .ref u_a, .ref q_a, .ref i_a, .ref k_a, .ref w_a, .ref n_a, .long x_asked])), (s_a, .inr (8, [.int s_tick, .int s_every, .int s_round, .int s_inside, .ref s_a_up, .ref s_a_due, .ref s_a_wind])), (s_a_up, .inl (cI, 6, .inl s_up)), (s_a_due, .inl (cI, 6, .inl s_due)), (s_a_wind, .inl (cI, 6, .inl s_wind)), (u_a, .inr (8, [.int u_tick', .int u_every', .int u_round', .int u_inside', .ref u_a_up, .ref u_a_due, .ref u_a_wind])), (u_a_up, .inl (cI, 6, .inl u_up')), (u_a_due, .inl (cI, 6, .inl u_due')), (u_a_wind, .inl (cI, 6, .inl u_wind')), (c_a, .inr (1, [.int c_every, .int c_size, .ref c_a_period, .ref c_a_hang, .ref c_a_start, .ref c_a_wind])), (c_a_period, .inl (cI, 6, .inl c_period)), (c_a_hang, .inl (cI, 6, .inl c_hang))] H → va_D A [(x_a, .inr (11, [.ref t_a, .ref c_a, .ref d_a, .ref s_a, .ref u_a, .ref q_a, .ref i_a, .ref k_a, .ref w_a, .ref n_a, .long x_asked])), (s_a, .inr (8, [.int s_tick, .int s_every, .int s_round, .int s_inside, .ref s_a_up, .ref s_a_due, .ref s_a_wind])), (s_a_up, .inl (cI, 6, .inl s_up)), (s_a_due, .inl (cI, 6, .inl s_due)), (s_a_wind, .inl (cI, 6, .inl s_wind)), (u_a, .inr (8, [.int u_tick', .int u_every', .int u_round', .int u_inside', .ref u_a_up, .ref u_a_due, .ref u_a_wind])), (u_a_up, .inl (cI, 6, .inl u_up')), (u_a_due, .inl (cI, 6, .inl u_due')), (u_a_wind, .inl (cI, 6, .inl u_wind')), (c_a, .inr (1, [.int c_every, .int c_size, .ref c_a_period, .ref c_a_hang, .ref c_a_start, .ref c_a_wind])), (c_a_period, .inl (cI, 6, .inl c_period)), (c_a_hang, .inl (cI, 6, .inl c_hang))] → va_S A s.heap H locs → lv_has ls 6 [(0, .ref x_a), (1, .int v1), (2, .int v2'), (3, .int v3'), (4, .int v4')] → W p l e { frames := 4, cells := 0, slots := 0, locals := 87 } s m [.ref x_a, .int p1].toArray below meth c H locs 0 0 (zFi below [.ref x_a, .int p1] s A D (TYS cI cZ cS cJ) [(x_a, .inr (11, [.ref t_a, .ref c_a, .ref d_a, .ref s_a, .ref u_a, .ref q_a, .ref i_a, .ref k_a, .ref w_a, .ref n_a, .long x_asked])), (s_a, .inr (8, [.int s_tick, .int s_every, .int s_round, .int s_inside, .ref s_a_up, .ref s_a_due, .ref s_a_wind])), (s_a_up, .inl (cI, 6, .inl s_up)), (s_a_due, .inl (cI, 6, .inl s_due)), (s_a_wind, .inl (cI, 6, .inl s_wind)), (u_a, .inr (8, [.int u_tick_o, .int u_every_o, .int u_round_o, .int u_inside_o, .ref u_a_up, .ref u_a_due, .ref u_a_wind])), (u_a_up, .inl (cI, 6, .inl u_up_o)), (u_a_due, .inl (cI, 6, .inl u_due_o)), (u_a_wind, .inl (cI, 6, .inl u_wind_o)), (c_a, .inr (1, [.int c_every, .int c_size, .ref c_a_period, .ref c_a_hang, .ref c_a_start, .ref c_a_wind])), (c_a_period, .inl (cI, 6, .inl c_period)), (c_a_hang, .inl (cI, 6, .inl c_hang))] r_o) (F0 m 81 ls [])) → W p l e { frames := 4, cells := 0, slots := 0, locals := 87 } s m [.ref x_a, .int p1].toArray below meth c H locs 0 0 (zFi below [.ref x_a, .int p1] s A D (TYS cI cZ cS cJ) [(x_a, .inr (11, [.ref t_a, .ref c_a, .ref d_a, .ref s_a, .ref u_a, .ref q_a, .ref i_a, .ref k_a, .ref w_a, .ref n_a, .long x_asked])), (s_a, .inr (8, [.int s_tick, .int s_every, .int s_round, .int s_inside, .ref s_a_up, .ref s_a_due, .ref s_a_wind])), (s_a_up, .inl (cI, 6, .inl s_up)), (s_a_due, .inl (cI, 6, .inl s_due)), (s_a_wind, .inl (cI, 6, .inl s_wind)), (u_a, .inr (8, [.int u_tick_o, .int u_every_o, .int u_round_o, .int u_inside_o, .ref u_a_up, .ref u_a_due, .ref u_a_wind])), (u_a_up, .inl (cI, 6, .inl u_up_o)), (u_a_due, .inl (cI, 6, .inl u_due_o)), (u_a_wind, .inl (cI, 6, .inl u_wind_o)), (c_a, .inr (1, [.int c_every, .int c_size, .ref c_a_period, .ref c_a_hang, .ref c_a_start, .ref c_a_wind])), (c_a_period, .inl (cI, 6, .inl c_period)), (c_a_hang, .inl (cI, 6, .inl c_hang))] r_o) (F0 m 19 ls []) := by
    intro n
    induction n with
    | zero =>
      intro x_asked s_tick s_every s_round s_inside s_up s_due s_wind u_tick u_every u_round u_inside u_up u_due u_wind c_every c_size c_period c_hang v1 v2 v3 v4 u_tick' u_every' u_round' u_inside' u_up' u_due' u_wind' v2' v3' v4' hF
      rw [L_X11_pace_19_z] at hF
      cases hF
    | succ n ih_19 =>
      intro x_asked s_tick s_every s_round s_inside s_up s_due s_wind u_tick u_every u_round u_inside u_up u_due u_wind c_every c_size c_period c_hang v1 v2 v3 v4 u_tick' u_every' u_round' u_inside' u_up' u_due' u_wind' v2' v3' v4' hF H locs ls hP hD hS hl hexit_19
      rw [L_X11_pace_19_s] at hF
      refine lv_iload hx hb dX11_pace_19 (lv_at hl 4 rfl) ?_
      refine lv_bipush (v := 9) hx hb dX11_pace_21 (by decide) ?_
      refine lv_icmp_gt (tgt := 81) hx hb dX11_pace_23 (by decide) (fun c_25 => ?_) (fun c_25 => ?_)
      · have hF := zi_pos c_25 hF
        obtain ⟨e_0, e_1, e_2, e_3, e_4, e_5, e_6, e_7, e_8, e_9⟩ := zo10 hF
        subst e_0
        subst e_1
        subst e_2
        subst e_3
        subst e_4
        subst e_5
        subst e_6
        subst e_7
        subst e_8
        subst e_9
        exact hexit_19 _ _ _ hP hD hS (lv_sub hl [0, 1, 2, 3, 4] rfl)
      · have hF := zi_neg c_25 hF
        refine lv_aload_n hx hb dX11_pace_26 rfl (lv_at hl 0 rfl) ?_
        refine va_get (D := D) (ci := 11) (v := .ref u_a) (C := RX11) (T := TX11) (N := 11) hx hb ht iyX11 hown hK hP 0 rfl rfl 4 (by decide) (ht _ wf_X11_33) (fun _ h9 => h9) rfl dX11_pace_27 ?_
        refine lv_aload_n hx hb dX11_pace_30 rfl (lv_at hl 0 rfl) ?_
        refine va_get (D := D) (ci := 11) (v := .ref s_a) (C := RX11) (T := TX11) (N := 11) hx hb ht iyX11 hown hK hP 0 rfl rfl 3 (by decide) (ht _ wf_X11_29) (fun _ h9 => h9) rfl dX11_pace_31 ?_
        obtain ⟨u_tick_26, u_every_27, u_round_28, u_inside_29, u_up_30, u_due_31, u_wind_32, hc_33, hF⟩ := zb7_s hF
        refine zcv_v (ws1 := [(x_a, .inr (11, [.ref t_a, .ref c_a, .ref d_a, .ref s_a, .ref u_a, .ref q_a, .ref i_a, .ref k_a, .ref w_a, .ref n_a, .long x_asked])), (s_a, .inr (8, [.int s_tick, .int s_every, .int s_round, .int s_inside, .ref s_a_up, .ref s_a_due, .ref s_a_wind])), (s_a_up, .inl (cI, 6, .inl s_up)), (s_a_due, .inl (cI, 6, .inl s_due)), (s_a_wind, .inl (cI, 6, .inl s_wind)), (u_a, .inr (8, [.int u_tick_26, .int u_every_27, .int u_round_28, .int u_inside_29, .ref u_a_up, .ref u_a_due, .ref u_a_wind])), (u_a_up, .inl (cI, 6, .inl u_up_30)), (u_a_due, .inl (cI, 6, .inl u_due_31)), (u_a_wind, .inl (cI, 6, .inl u_wind_32)), (c_a, .inr (1, [.int c_every, .int c_size, .ref c_a_period, .ref c_a_hang, .ref c_a_start, .ref c_a_wind])), (c_a_period, .inl (cI, 6, .inl c_period)), (c_a_hang, .inl (cI, 6, .inl c_hang))]) S hT lk_X11_174 (c_X8_become l D cI cZ cS cJ u_a u_a_up u_a_due u_a_wind s_a s_a_up s_a_due s_a_wind u_tick u_every u_round u_inside u_up u_due u_wind s_tick s_every s_round s_inside s_up s_due s_wind hc_33) ⟨rfl, rfl, Nat.le_of_ble_eq_true rfl, Nat.le_of_ble_eq_true rfl⟩ hK hP hD hS hA [5, 6, 7, 8, 1, 2, 3, 4] [0, 9, 10, 11] [0, 8, 9, 10, 11, 4, 5, 6, 7, 1, 2, 3] rfl rfl rfl rfl rfl rfl rfl rfl rfl rfl rfl hl.1 rfl (Nat.le_of_ble_eq_true rfl) dX11_pace_34 ⟨Nat.zero_le _, Nat.zero_le _⟩ (fun H locs hP hD hS => ?_)
        refine lv_aload_n hx hb dX11_pace_37 rfl (lv_at hl 0 rfl) ?_
        refine va_get (D := D) (ci := 11) (v := .ref u_a) (C := RX11) (T := TX11) (N := 11) hx hb ht iyX11 hown hK hP 0 rfl rfl 4 (by decide) (ht _ wf_X11_33) (fun _ h9 => h9) rfl dX11_pace_38 ?_
        refine lv_iload hx hb dX11_pace_41 (lv_at hl 4 rfl) ?_
        obtain ⟨u_every_34, u_round_35, hc_36, hF⟩ := zb2_s hF
        refine zcv_v (ws1 := [(x_a, .inr (11, [.ref t_a, .ref c_a, .ref d_a, .ref s_a, .ref u_a, .ref q_a, .ref i_a, .ref k_a, .ref w_a, .ref n_a, .long x_asked])), (s_a, .inr (8, [.int s_tick, .int s_every, .int s_round, .int s_inside, .ref s_a_up, .ref s_a_due, .ref s_a_wind])), (s_a_up, .inl (cI, 6, .inl s_up)), (s_a_due, .inl (cI, 6, .inl s_due)), (s_a_wind, .inl (cI, 6, .inl s_wind)), (u_a, .inr (8, [.int u_tick_26, .int u_every_34, .int u_round_35, .int u_inside_29, .ref u_a_up, .ref u_a_due, .ref u_a_wind])), (u_a_up, .inl (cI, 6, .inl u_up_30)), (u_a_due, .inl (cI, 6, .inl u_due_31)), (u_a_wind, .inl (cI, 6, .inl u_wind_32)), (c_a, .inr (1, [.int c_every, .int c_size, .ref c_a_period, .ref c_a_hang, .ref c_a_start, .ref c_a_wind])), (c_a_period, .inl (cI, 6, .inl c_period)), (c_a_hang, .inl (cI, 6, .inl c_hang))]) S hT lk_X11_155 (c_X8_turn l D cI cZ cS cJ u_a u_a_up u_a_due u_a_wind u_tick_26 u_every_27 u_round_28 u_inside_29 v4 hc_36) ⟨rfl, rfl, Nat.le_of_ble_eq_true rfl, Nat.le_of_ble_eq_true rfl⟩ hK hP hD hS hA [5] [0, 1, 2, 3, 4, 6, 7, 8, 9, 10, 11] [0, 1, 2, 3, 4, 11, 5, 6, 7, 8, 9, 10] rfl rfl rfl rfl rfl rfl rfl rfl rfl rfl rfl hl.1 rfl (Nat.le_of_ble_eq_true rfl) dX11_pace_43 ⟨Nat.zero_le _, Nat.zero_le _⟩ (fun H locs hP hD hS => ?_)
        refine lv_aload_n hx hb dX11_pace_46 rfl (lv_at hl 0 rfl) ?_
        refine lv_iload_n hx hb dX11_pace_47 rfl (lv_at hl 1 rfl) ?_
        obtain ⟨u_tick_37, u_round_38, u_inside_39, u_up_40, u_due_41, u_wind_42, hc_43, hF⟩ := zb6_s hF
        refine zcv_v (ws1 := [(x_a, .inr (11, [.ref t_a, .ref c_a, .ref d_a, .ref s_a, .ref u_a, .ref q_a, .ref i_a, .ref k_a, .ref w_a, .ref n_a, .long x_asked])), (s_a, .inr (8, [.int s_tick, .int s_every, .int s_round, .int s_inside, .ref s_a_up, .ref s_a_due, .ref s_a_wind])), (s_a_up, .inl (cI, 6, .inl s_up)), (s_a_due, .inl (cI, 6, .inl s_due)), (s_a_wind, .inl (cI, 6, .inl s_wind)), (u_a, .inr (8, [.int u_tick_37, .int u_every_34, .int u_round_38, .int u_inside_39, .ref u_a_up, .ref u_a_due, .ref u_a_wind])), (u_a_up, .inl (cI, 6, .inl u_up_40)), (u_a_due, .inl (cI, 6, .inl u_due_41)), (u_a_wind, .inl (cI, 6, .inl u_wind_42)), (c_a, .inr (1, [.int c_every, .int c_size, .ref c_a_period, .ref c_a_hang, .ref c_a_start, .ref c_a_wind])), (c_a_period, .inl (cI, 6, .inl c_period)), (c_a_hang, .inl (cI, 6, .inl c_hang))]) S hT lk_X11_177 (c_X11_playOn l D cI cZ cS cJ x_a t_a c_a d_a s_a u_a q_a i_a k_a w_a n_a u_a_up u_a_due u_a_wind c_a_period c_a_hang c_a_start c_a_wind x_asked u_tick_26 u_every_34 u_round_35 u_inside_29 u_up_30 u_due_31 u_wind_32 c_every c_size c_period c_hang v1 hc_43) ⟨rfl, rfl, Nat.le_of_ble_eq_true rfl, Nat.le_of_ble_eq_true rfl⟩ hK hP hD hS hA [0, 5, 6, 7, 8, 9, 10, 11] [1, 2, 3, 4] [4, 0, 1, 2, 3, 5, 6, 7, 8, 9, 10, 11] rfl rfl rfl rfl rfl rfl rfl rfl rfl rfl rfl hl.1 rfl (Nat.le_of_ble_eq_true rfl) dX11_pace_48 ⟨Nat.zero_le _, Nat.zero_le _⟩ (fun H locs hP hD hS => ?_)
        refine lv_aload_n hx hb dX11_pace_51 rfl (lv_at hl 0 rfl) ?_
        refine va_get (D := D) (ci := 11) (v := .ref u_a) (C := RX11) (T := TX11) (N := 11) hx hb ht iyX11 hown hK hP 0 rfl rfl 4 (by decide) (ht _ wf_X11_33) (fun _ h9 => h9) rfl dX11_pace_52 ?_
        refine va_get (D := D) (ci := 8) (v := .int u_inside_39) (C := RX8) (T := TX8) (N := 7) hx hb ht iyX8 hown hK hP 5 rfl rfl 3 (by decide) (ht _ wf_X11_138) (fun _ h9 => h9) rfl dX11_pace_55 ?_
        obtain ⟨r_44, hc_45, hF⟩ := zb1_s hF
        refine zcs_i (ws1 := [(x_a, .inr (11, [.ref t_a, .ref c_a, .ref d_a, .ref s_a, .ref u_a, .ref q_a, .ref i_a, .ref k_a, .ref w_a, .ref n_a, .long x_asked])), (s_a, .inr (8, [.int s_tick, .int s_every, .int s_round, .int s_inside, .ref s_a_up, .ref s_a_due, .ref s_a_wind])), (s_a_up, .inl (cI, 6, .inl s_up)), (s_a_due, .inl (cI, 6, .inl s_due)), (s_a_wind, .inl (cI, 6, .inl s_wind)), (u_a, .inr (8, [.int u_tick_37, .int u_every_34, .int u_round_38, .int u_inside_39, .ref u_a_up, .ref u_a_due, .ref u_a_wind])), (u_a_up, .inl (cI, 6, .inl u_up_40)), (u_a_due, .inl (cI, 6, .inl u_due_41)), (u_a_wind, .inl (cI, 6, .inl u_wind_42)), (c_a, .inr (1, [.int c_every, .int c_size, .ref c_a_period, .ref c_a_hang, .ref c_a_start, .ref c_a_wind])), (c_a_period, .inl (cI, 6, .inl c_period)), (c_a_hang, .inl (cI, 6, .inl c_hang))]) S hT lk_X11_162 (c_J6_bitCount_0f7a4 l D cI cZ cS cJ u_inside_39 hc_45) ⟨rfl, rfl, Nat.le_of_ble_eq_true rfl, Nat.le_of_ble_eq_true rfl⟩ hK hP hD hS hA [] [0, 1, 2, 3, 4, 5, 6, 7, 8, 9, 10, 11] [0, 1, 2, 3, 4, 5, 6, 7, 8, 9, 10, 11] rfl rfl rfl rfl rfl rfl rfl rfl hl.1 rfl (Nat.le_of_ble_eq_true rfl) dX11_pace_58 ⟨Nat.zero_le _, Nat.zero_le _⟩ (fun H locs hP hD hS => ?_)
        refine lv_istore (lv' := [(5, .int r_44), (0, .ref x_a), (1, .int v1), (2, .int v2), (3, .int v3), (4, .int v4)]) hx hb dX11_pace_61 hl (by decide) rfl (fun ls hl => ?_)
        refine lv_iload hx hb dX11_pace_63 (lv_at hl 0 rfl) ?_
        refine lv_iload_n hx hb dX11_pace_65 rfl (lv_at hl 4 rfl) ?_
        refine lv_icmp_le (tgt := 75) hx hb dX11_pace_66 (by decide) (fun c_46 => ?_) (fun c_46 => ?_)
        · have hF := zi_pos c_46 hF
          refine lv_iinc (v := v4 + 1) (lv' := [(4, .int (v4 + 1)), (5, .int r_44), (0, .ref x_a), (1, .int v1), (2, .int v2), (3, .int v3)]) hx hb dX11_pace_75 hl (k := 5) rfl (by rfl) (by decide) rfl (fun ls hl => ?_)
          refine lv_goto (tgt := 19) hx hb dX11_pace_78 (by decide) ?_
          exact ih_19 x_asked s_tick s_every s_round s_inside s_up s_due s_wind u_tick_37 u_every_34 u_round_38 u_inside_39 u_up_40 u_due_41 u_wind_42 c_every c_size c_period c_hang v1 v2 v3 (v4 + 1) _ _ _ _ _ _ _ _ _ _ hF _ _ _ hP hD hS (lv_sub hl [2, 3, 4, 5, 0] rfl) hexit_19
        · have hF := zi_neg c_46 hF
          refine lv_iload hx hb dX11_pace_69 (lv_at hl 0 rfl) ?_
          refine lv_istore_n (lv' := [(3, .int r_44), (5, .int r_44), (0, .ref x_a), (1, .int v1), (2, .int v2), (4, .int v4)]) hx hb dX11_pace_71 rfl hl (by decide) rfl (fun ls hl => ?_)
          refine lv_iload hx hb dX11_pace_72 (lv_at hl 5 rfl) ?_
          refine lv_istore_n (lv' := [(2, .int v4), (3, .int r_44), (5, .int r_44), (0, .ref x_a), (1, .int v1), (4, .int v4)]) hx hb dX11_pace_74 rfl hl (by decide) rfl (fun ls hl => ?_)
          refine lv_iinc (v := v4 + 1) (lv' := [(4, .int (v4 + 1)), (2, .int v4), (3, .int r_44), (5, .int r_44), (0, .ref x_a), (1, .int v1)]) hx hb dX11_pace_75 hl (k := 5) rfl (by rfl) (by decide) rfl (fun ls hl => ?_)
          refine lv_goto (tgt := 19) hx hb dX11_pace_78 (by decide) ?_
          exact ih_19 x_asked s_tick s_every s_round s_inside s_up s_due s_wind u_tick_37 u_every_34 u_round_38 u_inside_39 u_up_40 u_due_41 u_wind_42 c_every c_size c_period c_hang v1 v4 r_44 (v4 + 1) _ _ _ _ _ _ _ _ _ _ hF _ _ _ hP hD hS (lv_sub hl [4, 5, 1, 2, 0] rfl) hexit_19
  refine lv_iload_n hx hb dX11_pace_0 rfl (lv_at hl 1 rfl) ?_
  refine lv_if_lt (tgt := 10) hx hb dX11_pace_1 (by decide) (fun c_1 => ?_) (fun c_1 => ?_)
  · have hF := zi_pos c_1 hF
    refine lv_iconst (v := (-1)) hx hb dX11_pace_10 (by decide) ?_
    obtain ⟨e_0, e_1, e_2, e_3, e_4, e_5, e_6, e_7⟩ := zo8 hF
    subst e_0
    subst e_1
    subst e_2
    subst e_3
    subst e_4
    subst e_5
    subst e_6
    subst e_7
    exact zret_i S hr hlocks hK hP hD hS dX11_pace_11
  · have hF := zi_neg c_1 hF
    refine lv_iload_n hx hb dX11_pace_4 rfl (lv_at hl 1 rfl) ?_
    refine lv_bipush (v := 120) hx hb dX11_pace_5 (by decide) ?_
    refine lv_icmp_le (tgt := 12) hx hb dX11_pace_7 (by decide) (fun c_2 => ?_) (fun c_2 => ?_)
    · have hF := zi_pos c_2 hF
      refine lv_iconst (v := 2) hx hb dX11_pace_12 (by decide) ?_
      refine lv_istore_n (lv' := [(2, .int 2), (0, .ref x_a), (1, .int p1)]) hx hb dX11_pace_13 rfl hl (by decide) rfl (fun ls hl => ?_)
      refine lv_iconst (v := (-1)) hx hb dX11_pace_14 (by decide) ?_
      refine lv_istore_n (lv' := [(3, .int (-1)), (2, .int 2), (0, .ref x_a), (1, .int p1)]) hx hb dX11_pace_15 rfl hl (by decide) rfl (fun ls hl => ?_)
      refine lv_iconst (v := 2) hx hb dX11_pace_16 (by decide) ?_
      refine lv_istore (lv' := [(4, .int 2), (3, .int (-1)), (2, .int 2), (0, .ref x_a), (1, .int p1)]) hx hb dX11_pace_17 hl (by decide) rfl (fun ls hl => ?_)
      obtain ⟨u_tick_47, u_every_48, u_round_49, u_inside_50, u_up_51, u_due_52, u_wind_53, v2_54, v3_55, v4_56, hL_57, hF⟩ := zb10_s hF
      refine hloop_19 300 x_asked s_tick s_every s_round s_inside s_up s_due s_wind u_tick u_every u_round u_inside u_up u_due u_wind c_every c_size c_period c_hang p1 2 (-1) 2 u_tick_47 u_every_48 u_round_49 u_inside_50 u_up_51 u_due_52 u_wind_53 v2_54 v3_55 v4_56 hL_57 _ _ _ hP hD hS (lv_sub hl [3, 4, 2, 1, 0] rfl) (fun H locs ls hP hD hS hl => ?_)
      refine lv_iload_n hx hb dX11_pace_81 rfl (lv_at hl 2 rfl) ?_
      obtain ⟨e_0, e_1, e_2, e_3, e_4, e_5, e_6, e_7⟩ := zo8 hF
      subst e_0
      subst e_1
      subst e_2
      subst e_3
      subst e_4
      subst e_5
      subst e_6
      subst e_7
      exact zret_i S hr hlocks hK hP hD hS dX11_pace_82
    · have hF := zi_neg c_2 hF
      refine lv_iconst (v := (-1)) hx hb dX11_pace_10 (by decide) ?_
      obtain ⟨e_0, e_1, e_2, e_3, e_4, e_5, e_6, e_7⟩ := zo8 hF
      subst e_0
      subst e_1
      subst e_2
      subst e_3
      subst e_4
      subst e_5
      subst e_6
      subst e_7
      exact zret_i S hr hlocks hK hP hD hS dX11_pace_11

theorem lk_X11_167 : zLk RX11 167 yX8_enter cX8_enter 3 none 2 := ⟨⟨wm_X11_167, wo_X8_enter, we_X8_X8_enter, wi_X8, wd_X8_enter⟩, by decide, by decide, by decide +kernel⟩
def L_X11_entry_31 (s_tick : Int32) (s_every : Int32) (s_round : Int32) (s_inside : Int32) (s_up : Nat → Int32) (s_due : Nat → Int32) (s_wind : Nat → Int32) (c_size : Int32) (c_period : Nat → Int32) (c_hang : Nat → Int32) (v1 : Int32) : Nat → Int32 → Int32 → Int32 → Int32 → (Nat → Int32) → (Nat → Int32) → (Nat → Int32) → Int32 → Int32 → Int32 → Option (Int32 × Int32 × Int32 × Int32 × (Nat → Int32) × (Nat → Int32) × (Nat → Int32) × Int32 × Int32 × Int32)
  | 0 => fun _ _ _ _ _ _ _ _ _ _ => none
  | n + 1 => fun u_tick u_every u_round u_inside u_up u_due u_wind v2 v3 v4 => (if 11 < v4 then some (u_tick, u_every, u_round, u_inside, u_up, u_due, u_wind, v2, v3, v4) else (zb7 (F_X8_become u_up u_due u_wind s_tick s_every s_round s_inside s_up s_due s_wind) (fun u_tick_32 u_every_33 u_round_34 u_inside_35 u_up_36 u_due_37 u_wind_38 => (zb3 (F_X8_enter u_inside_35 u_up_36 u_due_37 v1 v4) (fun u_inside_40 u_up_41 u_due_42 => (zb7 (F_X11_playTillOut u_tick_32 u_every_33 u_round_34 u_inside_40 u_up_41 u_due_42 u_wind_38 c_size c_period c_hang v1) (fun r_44 u_tick_45 u_round_46 u_inside_47 u_up_48 u_due_49 u_wind_50 => (if r_44 = (-9) then (if 121 ≤ v3 then (L_X11_entry_31 s_tick s_every s_round s_inside s_up s_due s_wind c_size c_period c_hang v1 n u_tick_45 u_every_33 u_round_46 u_inside_47 u_up_48 u_due_49 u_wind_50 v2 v3 (v4 + 1)) else (L_X11_entry_31 s_tick s_every s_round s_inside s_up s_due s_wind c_size c_period c_hang v1 n u_tick_45 u_every_33 u_round_46 u_inside_47 u_up_48 u_due_49 u_wind_50 v4 121 (v4 + 1))) else (if r_44 ≤ v3 then (L_X11_entry_31 s_tick s_every s_round s_inside s_up s_due s_wind c_size c_period c_hang v1 n u_tick_45 u_every_33 u_round_46 u_inside_47 u_up_48 u_due_49 u_wind_50 v2 v3 (v4 + 1)) else (L_X11_entry_31 s_tick s_every s_round s_inside s_up s_due s_wind c_size c_period c_hang v1 n u_tick_45 u_every_33 u_round_46 u_inside_47 u_up_48 u_due_49 u_wind_50 v4 r_44 (v4 + 1)))))))))))
theorem L_X11_entry_31_z (s_tick : Int32) (s_every : Int32) (s_round : Int32) (s_inside : Int32) (s_up : Nat → Int32) (s_due : Nat → Int32) (s_wind : Nat → Int32) (c_size : Int32) (c_period : Nat → Int32) (c_hang : Nat → Int32) (v1 : Int32) (u_tick : Int32) (u_every : Int32) (u_round : Int32) (u_inside : Int32) (u_up : Nat → Int32) (u_due : Nat → Int32) (u_wind : Nat → Int32) (v2 : Int32) (v3 : Int32) (v4 : Int32) : L_X11_entry_31 s_tick s_every s_round s_inside s_up s_due s_wind c_size c_period c_hang v1 0 u_tick u_every u_round u_inside u_up u_due u_wind v2 v3 v4 = none := rfl
theorem L_X11_entry_31_s (s_tick : Int32) (s_every : Int32) (s_round : Int32) (s_inside : Int32) (s_up : Nat → Int32) (s_due : Nat → Int32) (s_wind : Nat → Int32) (c_size : Int32) (c_period : Nat → Int32) (c_hang : Nat → Int32) (v1 : Int32) (n : Nat) (u_tick : Int32) (u_every : Int32) (u_round : Int32) (u_inside : Int32) (u_up : Nat → Int32) (u_due : Nat → Int32) (u_wind : Nat → Int32) (v2 : Int32) (v3 : Int32) (v4 : Int32) : L_X11_entry_31 s_tick s_every s_round s_inside s_up s_due s_wind c_size c_period c_hang v1 (n + 1) u_tick u_every u_round u_inside u_up u_due u_wind v2 v3 v4 = (if 11 < v4 then some (u_tick, u_every, u_round, u_inside, u_up, u_due, u_wind, v2, v3, v4) else (zb7 (F_X8_become u_up u_due u_wind s_tick s_every s_round s_inside s_up s_due s_wind) (fun u_tick_32 u_every_33 u_round_34 u_inside_35 u_up_36 u_due_37 u_wind_38 => (zb3 (F_X8_enter u_inside_35 u_up_36 u_due_37 v1 v4) (fun u_inside_40 u_up_41 u_due_42 => (zb7 (F_X11_playTillOut u_tick_32 u_every_33 u_round_34 u_inside_40 u_up_41 u_due_42 u_wind_38 c_size c_period c_hang v1) (fun r_44 u_tick_45 u_round_46 u_inside_47 u_up_48 u_due_49 u_wind_50 => (if r_44 = (-9) then (if 121 ≤ v3 then (L_X11_entry_31 s_tick s_every s_round s_inside s_up s_due s_wind c_size c_period c_hang v1 n u_tick_45 u_every_33 u_round_46 u_inside_47 u_up_48 u_due_49 u_wind_50 v2 v3 (v4 + 1)) else (L_X11_entry_31 s_tick s_every s_round s_inside s_up s_due s_wind c_size c_period c_hang v1 n u_tick_45 u_every_33 u_round_46 u_inside_47 u_up_48 u_due_49 u_wind_50 v4 121 (v4 + 1))) else (if r_44 ≤ v3 then (L_X11_entry_31 s_tick s_every s_round s_inside s_up s_due s_wind c_size c_period c_hang v1 n u_tick_45 u_every_33 u_round_46 u_inside_47 u_up_48 u_due_49 u_wind_50 v2 v3 (v4 + 1)) else (L_X11_entry_31 s_tick s_every s_round s_inside s_up s_due s_wind c_size c_period c_hang v1 n u_tick_45 u_every_33 u_round_46 u_inside_47 u_up_48 u_due_49 u_wind_50 v4 r_44 (v4 + 1))))))))))) := rfl
def F_X11_entry (s_tick : Int32) (s_every : Int32) (s_round : Int32) (s_inside : Int32) (s_up : Nat → Int32) (s_due : Nat → Int32) (s_wind : Nat → Int32) (u_tick : Int32) (u_every : Int32) (u_round : Int32) (u_inside : Int32) (u_up : Nat → Int32) (u_due : Nat → Int32) (u_wind : Nat → Int32) (c_size : Int32) (c_period : Nat → Int32) (c_hang : Nat → Int32) (p1 : Int32) : Option (Int32 × Int32 × Int32 × Int32 × Int32 × (Nat → Int32) × (Nat → Int32) × (Nat → Int32)) :=
  (zb1 (F_X11_isNobody c_size p1) (fun r_1 => (if r_1 = 0 then (zb1 (F_X8_holds s_inside p1) (fun r_4 => (if r_4 = 0 then (zb10 (L_X11_entry_31 s_tick s_every s_round s_inside s_up s_due s_wind c_size c_period c_hang p1 300 u_tick u_every u_round u_inside u_up u_due u_wind 0 0 0) (fun u_tick_55 u_every_56 u_round_57 u_inside_58 u_up_59 u_due_60 u_wind_61 v2_62 v3_63 v4_64 => some (v2_62, u_tick_55, u_every_56, u_round_57, u_inside_58, u_up_59, u_due_60, u_wind_61))) else some ((-2), u_tick, u_every, u_round, u_inside, u_up, u_due, u_wind)))) else some ((-1), u_tick, u_every, u_round, u_inside, u_up, u_due, u_wind))))
set_option maxHeartbeats 4000000 in
set_option maxRecDepth 100000 in
theorem c_X11_entry (l : Launch) (D : va_G) (cI cZ cS cJ : ClassId) (x_a : Nat) (t_a : Nat) (c_a : Nat) (d_a : Nat) (s_a : Nat) (u_a : Nat) (q_a : Nat) (i_a : Nat) (k_a : Nat) (w_a : Nat) (n_a : Nat) (s_a_up : Nat) (s_a_due : Nat) (s_a_wind : Nat) (u_a_up : Nat) (u_a_due : Nat) (u_a_wind : Nat) (c_a_period : Nat) (c_a_hang : Nat) (c_a_start : Nat) (c_a_wind : Nat) (x_asked : Int64) (s_tick : Int32) (s_every : Int32) (s_round : Int32) (s_inside : Int32) (s_up : Nat → Int32) (s_due : Nat → Int32) (s_wind : Nat → Int32) (u_tick : Int32) (u_every : Int32) (u_round : Int32) (u_inside : Int32) (u_up : Nat → Int32) (u_due : Nat → Int32) (u_wind : Nat → Int32) (c_every : Int32) (c_size : Int32) (c_period : Nat → Int32) (c_hang : Nat → Int32) (p1 : Int32) {r_o : Int32} {u_tick_o : Int32} {u_every_o : Int32} {u_round_o : Int32} {u_inside_o : Int32} {u_up_o : Nat → Int32} {u_due_o : Nat → Int32} {u_wind_o : Nat → Int32} (hF : F_X11_entry s_tick s_every s_round s_inside s_up s_due s_wind u_tick u_every u_round u_inside u_up u_due u_wind c_size c_period c_hang p1 = some (r_o, u_tick_o, u_every_o, u_round_o, u_inside_o, u_up_o, u_due_o, u_wind_o)) : zMi l yX11_entry (zwl yX11_entry cX11_entry 7 (some .int)) { frames := 4, cells := 0, slots := 0, locals := 87 } D (TYS cI cZ cS cJ) [.ref x_a, .int p1] [(x_a, .inr (11, [.ref t_a, .ref c_a, .ref d_a, .ref s_a, .ref u_a, .ref q_a, .ref i_a, .ref k_a, .ref w_a, .ref n_a, .long x_asked])), (s_a, .inr (8, [.int s_tick, .int s_every, .int s_round, .int s_inside, .ref s_a_up, .ref s_a_due, .ref s_a_wind])), (s_a_up, .inl (cI, 6, .inl s_up)), (s_a_due, .inl (cI, 6, .inl s_due)), (s_a_wind, .inl (cI, 6, .inl s_wind)), (u_a, .inr (8, [.int u_tick, .int u_every, .int u_round, .int u_inside, .ref u_a_up, .ref u_a_due, .ref u_a_wind])), (u_a_up, .inl (cI, 6, .inl u_up)), (u_a_due, .inl (cI, 6, .inl u_due)), (u_a_wind, .inl (cI, 6, .inl u_wind)), (c_a, .inr (1, [.int c_every, .int c_size, .ref c_a_period, .ref c_a_hang, .ref c_a_start, .ref c_a_wind])), (c_a_period, .inl (cI, 6, .inl c_period)), (c_a_hang, .inl (cI, 6, .inl c_hang))] [(x_a, .inr (11, [.ref t_a, .ref c_a, .ref d_a, .ref s_a, .ref u_a, .ref q_a, .ref i_a, .ref k_a, .ref w_a, .ref n_a, .long x_asked])), (s_a, .inr (8, [.int s_tick, .int s_every, .int s_round, .int s_inside, .ref s_a_up, .ref s_a_due, .ref s_a_wind])), (s_a_up, .inl (cI, 6, .inl s_up)), (s_a_due, .inl (cI, 6, .inl s_due)), (s_a_wind, .inl (cI, 6, .inl s_wind)), (u_a, .inr (8, [.int u_tick_o, .int u_every_o, .int u_round_o, .int u_inside_o, .ref u_a_up, .ref u_a_due, .ref u_a_wind])), (u_a_up, .inl (cI, 6, .inl u_up_o)), (u_a_due, .inl (cI, 6, .inl u_due_o)), (u_a_wind, .inl (cI, 6, .inl u_wind_o)), (c_a, .inr (1, [.int c_every, .int c_size, .ref c_a_period, .ref c_a_hang, .ref c_a_start, .ref c_a_wind])), (c_a_period, .inl (cI, 6, .inl c_period)), (c_a_hang, .inl (cI, 6, .inl c_hang))] r_o := by
  refine zent_i (own := RX11) (by decide) rfl (Nat.le_of_ble_eq_true rfl) ?_
  intro p e s m below meth c A ls S hr hlocks hK hP hD hA hl
  have hx := S.1
  have hb := S.2.1
  have hml := S.2.2.1
  have hown := S.2.2.2.1
  have hT : ∀ w ∈ zt, w ∈ zwl yX11_entry cX11_entry 7 (some .int) := fun _ h => List.mem_cons_of_mem _ h
  have ht : ∀ w ∈ zt, w.before [.ref x_a, .int p1].toArray s = true := fun w h => S.2.2.2.2 w (hT w h)
  have hl : lv_has ls 7 [(0, .ref x_a), (1, .int p1)] := hl
  have hS : va_S A s.heap s.heap [] := va_S.rf
  unfold F_X11_entry at hF
  have hloop_31 : ∀ (n : Nat) (x_asked : Int64) (s_tick : Int32) (s_every : Int32) (s_round : Int32) (s_inside : Int32) (s_up : Nat → Int32) (s_due : Nat → Int32) (s_wind : Nat → Int32) (u_tick : Int32) (u_every : Int32) (u_round : Int32) (u_inside : Int32) (u_up : Nat → Int32) (u_due : Nat → Int32) (u_wind : Nat → Int32) (c_every : Int32) (c_size : Int32) (c_period : Nat → Int32) (c_hang : Nat → Int32) (v1 : Int32) (v2 : Int32) (v3 : Int32) (v4 : Int32) (u_tick' : Int32) (u_every' : Int32) (u_round' : Int32) (u_inside' : Int32) (u_up' : Nat → Int32) (u_due' : Nat → Int32) (u_wind' : Nat → Int32) (v2' : Int32) (v3' : Int32) (v4' : Int32), L_X11_entry_31 s_tick s_every s_round s_inside s_up s_due s_wind c_size c_period c_hang v1 n u_tick u_every u_round u_inside u_up u_due u_wind v2 v3 v4 = some (u_tick', u_every', u_round', u_inside', u_up', u_due', u_wind', v2', v3', v4') → ∀ (H : Heap) (locs : List Loc) (ls : Array Slot), va_P D classes [(x_a, .inr (11, [.ref t_a, .ref c_a, .ref d_a, .ref s_a, .ref u_a, .ref q_a, .ref i_a, .ref k_a, .ref w_a, .ref n_a, .long x_asked])), (s_a, .inr (8, [.int s_tick, .int s_every, .int s_round, .int s_inside, .ref s_a_up, .ref s_a_due, .ref s_a_wind])), (s_a_up, .inl (cI, 6, .inl s_up)), (s_a_due, .inl (cI, 6, .inl s_due)), (s_a_wind, .inl (cI, 6, .inl s_wind)), (u_a, .inr (8, [.int u_tick, .int u_every, .int u_round, .int u_inside, .ref u_a_up, .ref u_a_due, .ref u_a_wind])), (u_a_up, .inl (cI, 6, .inl u_up)), (u_a_due, .inl (cI, 6, .inl u_due)), (u_a_wind, .inl (cI, 6, .inl u_wind)), (c_a, .inr (1, [.int c_every, .int c_size, .ref c_a_period, .ref c_a_hang, .ref c_a_start, .ref c_a_wind])), (c_a_period, .inl (cI, 6, .inl c_period)), (c_a_hang, .inl (cI, 6, .inl c_hang))] H → va_D A [(x_a, .inr (11, [.ref t_a, .ref c_a, .ref d_a, .ref s_a, .ref u_a, .ref q_a, .ref i_a, .ref k_a, .ref w_a, .ref n_a, .long x_asked])), (s_a, .inr (8, [.int s_tick, .int s_every, .int s_round, .int s_inside, .ref s_a_up, .ref s_a_due, .ref s_a_wind])), (s_a_up, .inl (cI, 6, .inl s_up)), (s_a_due, .inl (cI, 6, .inl s_due)), (s_a_wind, .inl (cI, 6, .inl s_wind)), (u_a, .inr (8, [.int u_tick, .int u_every, .int u_round, .int u_inside, .ref u_a_up, .ref u_a_due, .ref u_a_wind])), (u_a_up, .inl (cI, 6, .inl u_up)), (u_a_due, .inl (cI, 6, .inl u_due)), (u_a_wind, .inl (cI, 6, .inl u_wind)), (c_a, .inr (1, [.int c_every, .int c_size, .ref c_a_period, .ref c_a_hang, .ref c_a_start, .ref c_a_wind])), (c_a_period, .inl (cI, 6, .inl c_period)), (c_a_hang, .inl (cI, 6, .inl c_hang))] → va_S A s.heap H locs → lv_has ls 7 [(0, .ref x_a), (1, .int v1), (2, .int v2), (3, .int v3), (4, .int v4)] → (∀ (H : Heap) (locs : List Loc) (ls : Array Slot), va_P D classes [(x_a, .inr (11, [.ref t_a, .ref c_a, .ref d_a, .ref s_a, .ref u_a, .ref q_a, .ref i_a, .ref k_a, .ref w_a, .ref n_a, .long x_asked])), (s_a, .inr (8, [.int s_tick, .int s_every, .int s_round, .int s_inside, .ref s_a_up, .ref s_a_due, .ref s_a_wind])), (s_a_up, .inl (cI, 6, .inl s_up)), (s_a_due, .inl (cI, 6, .inl s_due)), (s_a_wind, .inl (cI, 6, .inl s_wind)), (u_a, .inr (8, [.int u_tick', .int u_every', .int u_round', .int u_inside', .ref u_a_up, .ref u_a_due, .ref u_a_wind])), (u_a_up, .inl (cI, 6, .inl u_up')), (u_a_due, .inl (cI, 6, .inl u_due')), (u_a_wind, .inl (cI, 6, .inl u_wind')), (c_a, .inr (1, [.int c_every, .int c_size, .ref c_a_period, .ref c_a_hang, .ref c_a_start, .ref c_a_wind])), (c_a_period, .inl (cI, 6, .inl c_period)), (c_a_hang, .inl (cI, 6, .inl c_hang))] H → va_D A [(x_a, .inr (11, [.ref t_a, .ref c_a, .ref d_a, .ref s_a, .ref u_a, .ref q_a, .ref i_a, .ref k_a, .ref w_a, .ref n_a, .long x_asked])), (s_a, .inr (8, [.int s_tick, .int s_every, .int s_round, .int s_inside, .ref s_a_up, .ref s_a_due, .ref s_a_wind])), (s_a_up, .inl (cI, 6, .inl s_up)), (s_a_due, .inl (cI, 6, .inl s_due)), (s_a_wind, .inl (cI, 6, .inl s_wind)), (u_a, .inr (8, [.int u_tick', .int u_every', .int u_round', .int u_inside', .ref u_a_up, .ref u_a_due, .ref u_a_wind])), (u_a_up, .inl (cI, 6, .inl u_up')), (u_a_due, .inl (cI, 6, .inl u_due')), (u_a_wind, .inl (cI, 6, .inl u_wind')), (c_a, .inr (1, [.int c_every, .int c_size, .ref c_a_period, .ref c_a_hang, .ref c_a_start, .ref c_a_wind])), (c_a_period, .inl (cI, 6, .inl c_period)), (c_a_hang, .inl (cI, 6, .inl c_hang))] → va_S A s.heap H locs → lv_has ls 7 [(0, .ref x_a), (1, .int v1), (2, .int v2'), (3, .int v3'), (4, .int v4')] → W p l e { frames := 4, cells := 0, slots := 0, locals := 87 } s m [.ref x_a, .int p1].toArray below meth c H locs 0 0 (zFi below [.ref x_a, .int p1] s A D (TYS cI cZ cS cJ) [(x_a, .inr (11, [.ref t_a, .ref c_a, .ref d_a, .ref s_a, .ref u_a, .ref q_a, .ref i_a, .ref k_a, .ref w_a, .ref n_a, .long x_asked])), (s_a, .inr (8, [.int s_tick, .int s_every, .int s_round, .int s_inside, .ref s_a_up, .ref s_a_due, .ref s_a_wind])), (s_a_up, .inl (cI, 6, .inl s_up)), (s_a_due, .inl (cI, 6, .inl s_due)), (s_a_wind, .inl (cI, 6, .inl s_wind)), (u_a, .inr (8, [.int u_tick_o, .int u_every_o, .int u_round_o, .int u_inside_o, .ref u_a_up, .ref u_a_due, .ref u_a_wind])), (u_a_up, .inl (cI, 6, .inl u_up_o)), (u_a_due, .inl (cI, 6, .inl u_due_o)), (u_a_wind, .inl (cI, 6, .inl u_wind_o)), (c_a, .inr (1, [.int c_every, .int c_size, .ref c_a_period, .ref c_a_hang, .ref c_a_start, .ref c_a_wind])), (c_a_period, .inl (cI, 6, .inl c_period)), (c_a_hang, .inl (cI, 6, .inl c_hang))] r_o) (F0 m 100 ls [])) → W p l e { frames := 4, cells := 0, slots := 0, locals := 87 } s m [.ref x_a, .int p1].toArray below meth c H locs 0 0 (zFi below [.ref x_a, .int p1] s A D (TYS cI cZ cS cJ) [(x_a, .inr (11, [.ref t_a, .ref c_a, .ref d_a, .ref s_a, .ref u_a, .ref q_a, .ref i_a, .ref k_a, .ref w_a, .ref n_a, .long x_asked])), (s_a, .inr (8, [.int s_tick, .int s_every, .int s_round, .int s_inside, .ref s_a_up, .ref s_a_due, .ref s_a_wind])), (s_a_up, .inl (cI, 6, .inl s_up)), (s_a_due, .inl (cI, 6, .inl s_due)), (s_a_wind, .inl (cI, 6, .inl s_wind)), (u_a, .inr (8, [.int u_tick_o, .int u_every_o, .int u_round_o, .int u_inside_o, .ref u_a_up, .ref u_a_due, .ref u_a_wind])), (u_a_up, .inl (cI, 6, .inl u_up_o)), (u_a_due, .inl (cI, 6, .inl u_due_o)), (u_a_wind, .inl (cI, 6, .inl u_wind_o)), (c_a, .inr (1, [.int c_every, .int c_size, .ref c_a_period, .ref c_a_hang, .ref c_a_start, .ref c_a_wind])), (c_a_period, .inl (cI, 6, .inl c_period)), (c_a_hang, .inl (cI, 6, .inl c_hang))] r_o) (F0 m 31 ls []) := by
    intro n
    induction n with
    | zero =>
      intro x_asked s_tick s_every s_round s_inside s_up s_due s_wind u_tick u_every u_round u_inside u_up u_due u_wind c_every c_size c_period c_hang v1 v2 v3 v4 u_tick' u_every' u_round' u_inside' u_up' u_due' u_wind' v2' v3' v4' hF
      rw [L_X11_entry_31_z] at hF
      cases hF
    | succ n ih_31 =>
      intro x_asked s_tick s_every s_round s_inside s_up s_due s_wind u_tick u_every u_round u_inside u_up u_due u_wind c_every c_size c_period c_hang v1 v2 v3 v4 u_tick' u_every' u_round' u_inside' u_up' u_due' u_wind' v2' v3' v4' hF H locs ls hP hD hS hl hexit_31
      rw [L_X11_entry_31_s] at hF
      refine lv_iload hx hb dX11_entry_31 (lv_at hl 4 rfl) ?_
      refine lv_bipush (v := 11) hx hb dX11_entry_33 (by decide) ?_
      refine lv_icmp_gt (tgt := 100) hx hb dX11_entry_35 (by decide) (fun c_31 => ?_) (fun c_31 => ?_)
      · have hF := zi_pos c_31 hF
        obtain ⟨e_0, e_1, e_2, e_3, e_4, e_5, e_6, e_7, e_8, e_9⟩ := zo10 hF
        subst e_0
        subst e_1
        subst e_2
        subst e_3
        subst e_4
        subst e_5
        subst e_6
        subst e_7
        subst e_8
        subst e_9
        exact hexit_31 _ _ _ hP hD hS (lv_sub hl [0, 1, 2, 3, 4] rfl)
      · have hF := zi_neg c_31 hF
        refine lv_aload_n hx hb dX11_entry_38 rfl (lv_at hl 0 rfl) ?_
        refine va_get (D := D) (ci := 11) (v := .ref u_a) (C := RX11) (T := TX11) (N := 11) hx hb ht iyX11 hown hK hP 0 rfl rfl 4 (by decide) (ht _ wf_X11_33) (fun _ h9 => h9) rfl dX11_entry_39 ?_
        refine lv_aload_n hx hb dX11_entry_42 rfl (lv_at hl 0 rfl) ?_
        refine va_get (D := D) (ci := 11) (v := .ref s_a) (C := RX11) (T := TX11) (N := 11) hx hb ht iyX11 hown hK hP 0 rfl rfl 3 (by decide) (ht _ wf_X11_29) (fun _ h9 => h9) rfl dX11_entry_43 ?_
        obtain ⟨u_tick_32, u_every_33, u_round_34, u_inside_35, u_up_36, u_due_37, u_wind_38, hc_39, hF⟩ := zb7_s hF
        refine zcv_v (ws1 := [(x_a, .inr (11, [.ref t_a, .ref c_a, .ref d_a, .ref s_a, .ref u_a, .ref q_a, .ref i_a, .ref k_a, .ref w_a, .ref n_a, .long x_asked])), (s_a, .inr (8, [.int s_tick, .int s_every, .int s_round, .int s_inside, .ref s_a_up, .ref s_a_due, .ref s_a_wind])), (s_a_up, .inl (cI, 6, .inl s_up)), (s_a_due, .inl (cI, 6, .inl s_due)), (s_a_wind, .inl (cI, 6, .inl s_wind)), (u_a, .inr (8, [.int u_tick_32, .int u_every_33, .int u_round_34, .int u_inside_35, .ref u_a_up, .ref u_a_due, .ref u_a_wind])), (u_a_up, .inl (cI, 6, .inl u_up_36)), (u_a_due, .inl (cI, 6, .inl u_due_37)), (u_a_wind, .inl (cI, 6, .inl u_wind_38)), (c_a, .inr (1, [.int c_every, .int c_size, .ref c_a_period, .ref c_a_hang, .ref c_a_start, .ref c_a_wind])), (c_a_period, .inl (cI, 6, .inl c_period)), (c_a_hang, .inl (cI, 6, .inl c_hang))]) S hT lk_X11_174 (c_X8_become l D cI cZ cS cJ u_a u_a_up u_a_due u_a_wind s_a s_a_up s_a_due s_a_wind u_tick u_every u_round u_inside u_up u_due u_wind s_tick s_every s_round s_inside s_up s_due s_wind hc_39) ⟨rfl, rfl, Nat.le_of_ble_eq_true rfl, Nat.le_of_ble_eq_true rfl⟩ hK hP hD hS hA [5, 6, 7, 8, 1, 2, 3, 4] [0, 9, 10, 11] [0, 8, 9, 10, 11, 4, 5, 6, 7, 1, 2, 3] rfl rfl rfl rfl rfl rfl rfl rfl rfl rfl rfl hl.1 rfl (Nat.le_of_ble_eq_true rfl) dX11_entry_46 ⟨Nat.zero_le _, Nat.zero_le _⟩ (fun H locs hP hD hS => ?_)
        refine lv_aload_n hx hb dX11_entry_49 rfl (lv_at hl 0 rfl) ?_
        refine va_get (D := D) (ci := 11) (v := .ref u_a) (C := RX11) (T := TX11) (N := 11) hx hb ht iyX11 hown hK hP 0 rfl rfl 4 (by decide) (ht _ wf_X11_33) (fun _ h9 => h9) rfl dX11_entry_50 ?_
        refine lv_iload_n hx hb dX11_entry_53 rfl (lv_at hl 1 rfl) ?_
        refine lv_iload hx hb dX11_entry_54 (lv_at hl 4 rfl) ?_
        obtain ⟨u_inside_40, u_up_41, u_due_42, hc_43, hF⟩ := zb3_s hF
        refine zcv_v (ws1 := [(x_a, .inr (11, [.ref t_a, .ref c_a, .ref d_a, .ref s_a, .ref u_a, .ref q_a, .ref i_a, .ref k_a, .ref w_a, .ref n_a, .long x_asked])), (s_a, .inr (8, [.int s_tick, .int s_every, .int s_round, .int s_inside, .ref s_a_up, .ref s_a_due, .ref s_a_wind])), (s_a_up, .inl (cI, 6, .inl s_up)), (s_a_due, .inl (cI, 6, .inl s_due)), (s_a_wind, .inl (cI, 6, .inl s_wind)), (u_a, .inr (8, [.int u_tick_32, .int u_every_33, .int u_round_34, .int u_inside_40, .ref u_a_up, .ref u_a_due, .ref u_a_wind])), (u_a_up, .inl (cI, 6, .inl u_up_41)), (u_a_due, .inl (cI, 6, .inl u_due_42)), (u_a_wind, .inl (cI, 6, .inl u_wind_38)), (c_a, .inr (1, [.int c_every, .int c_size, .ref c_a_period, .ref c_a_hang, .ref c_a_start, .ref c_a_wind])), (c_a_period, .inl (cI, 6, .inl c_period)), (c_a_hang, .inl (cI, 6, .inl c_hang))]) S hT lk_X11_167 (c_X8_enter l D cI cZ cS cJ u_a u_a_up u_a_due u_a_wind u_tick_32 u_every_33 u_round_34 u_inside_35 u_up_36 u_due_37 v1 v4 hc_43) ⟨rfl, rfl, Nat.le_of_ble_eq_true rfl, Nat.le_of_ble_eq_true rfl⟩ hK hP hD hS hA [5, 6, 7] [0, 1, 2, 3, 4, 8, 9, 10, 11] [0, 1, 2, 3, 4, 9, 10, 11, 5, 6, 7, 8] rfl rfl rfl rfl rfl rfl rfl rfl rfl rfl rfl hl.1 rfl (Nat.le_of_ble_eq_true rfl) dX11_entry_56 ⟨Nat.zero_le _, Nat.zero_le _⟩ (fun H locs hP hD hS => ?_)
        refine lv_aload_n hx hb dX11_entry_59 rfl (lv_at hl 0 rfl) ?_
        refine lv_iload_n hx hb dX11_entry_60 rfl (lv_at hl 1 rfl) ?_
        obtain ⟨r_44, u_tick_45, u_round_46, u_inside_47, u_up_48, u_due_49, u_wind_50, hc_51, hF⟩ := zb7_s hF
        refine zcv_i (ws1 := [(x_a, .inr (11, [.ref t_a, .ref c_a, .ref d_a, .ref s_a, .ref u_a, .ref q_a, .ref i_a, .ref k_a, .ref w_a, .ref n_a, .long x_asked])), (s_a, .inr (8, [.int s_tick, .int s_every, .int s_round, .int s_inside, .ref s_a_up, .ref s_a_due, .ref s_a_wind])), (s_a_up, .inl (cI, 6, .inl s_up)), (s_a_due, .inl (cI, 6, .inl s_due)), (s_a_wind, .inl (cI, 6, .inl s_wind)), (u_a, .inr (8, [.int u_tick_45, .int u_every_33, .int u_round_46, .int u_inside_47, .ref u_a_up, .ref u_a_due, .ref u_a_wind])), (u_a_up, .inl (cI, 6, .inl u_up_48)), (u_a_due, .inl (cI, 6, .inl u_due_49)), (u_a_wind, .inl (cI, 6, .inl u_wind_50)), (c_a, .inr (1, [.int c_every, .int c_size, .ref c_a_period, .ref c_a_hang, .ref c_a_start, .ref c_a_wind])), (c_a_period, .inl (cI, 6, .inl c_period)), (c_a_hang, .inl (cI, 6, .inl c_hang))]) S hT lk_X11_180 (c_X11_playTillOut l D cI cZ cS cJ x_a t_a c_a d_a s_a u_a q_a i_a k_a w_a n_a u_a_up u_a_due u_a_wind c_a_period c_a_hang c_a_start c_a_wind x_asked u_tick_32 u_every_33 u_round_34 u_inside_40 u_up_41 u_due_42 u_wind_38 c_every c_size c_period c_hang v1 hc_51) ⟨rfl, rfl, Nat.le_of_ble_eq_true rfl, Nat.le_of_ble_eq_true rfl⟩ hK hP hD hS hA [0, 5, 6, 7, 8, 9, 10, 11] [1, 2, 3, 4] [4, 0, 1, 2, 3, 5, 6, 7, 8, 9, 10, 11] rfl rfl rfl rfl rfl rfl rfl rfl rfl rfl rfl hl.1 rfl (Nat.le_of_ble_eq_true rfl) dX11_entry_61 ⟨Nat.zero_le _, Nat.zero_le _⟩ (fun H locs hP hD hS => ?_)
        refine lv_istore (lv' := [(5, .int r_44), (0, .ref x_a), (1, .int v1), (2, .int v2), (3, .int v3), (4, .int v4)]) hx hb dX11_entry_64 hl (by decide) rfl (fun ls hl => ?_)
        refine lv_iload hx hb dX11_entry_66 (lv_at hl 0 rfl) ?_
        refine lv_bipush (v := (-9)) hx hb dX11_entry_68 (by decide) ?_
        refine lv_icmp_ne (tgt := 78) hx hb dX11_entry_70 (by decide) (fun c_52 => ?_) (fun c_52 => ?_)
        · have hF := zi_neg c_52 hF
          refine lv_iload hx hb dX11_entry_78 (lv_at hl 0 rfl) ?_
          refine lv_istore (lv' := [(6, .int r_44), (5, .int r_44), (0, .ref x_a), (1, .int v1), (2, .int v2), (3, .int v3), (4, .int v4)]) hx hb dX11_entry_80 hl (by decide) rfl (fun ls hl => ?_)
          refine lv_iload hx hb dX11_entry_82 (lv_at hl 0 rfl) ?_
          refine lv_iload_n hx hb dX11_entry_84 rfl (lv_at hl 5 rfl) ?_
          refine lv_icmp_le (tgt := 94) hx hb dX11_entry_85 (by decide) (fun c_53 => ?_) (fun c_53 => ?_)
          · have hF := zi_pos c_53 hF
            refine lv_iinc (v := v4 + 1) (lv' := [(4, .int (v4 + 1)), (6, .int r_44), (5, .int r_44), (0, .ref x_a), (1, .int v1), (2, .int v2), (3, .int v3)]) hx hb dX11_entry_94 hl (k := 6) rfl (by rfl) (by decide) rfl (fun ls hl => ?_)
            refine lv_goto (tgt := 31) hx hb dX11_entry_97 (by decide) ?_
            exact ih_31 x_asked s_tick s_every s_round s_inside s_up s_due s_wind u_tick_45 u_every_33 u_round_46 u_inside_47 u_up_48 u_due_49 u_wind_50 c_every c_size c_period c_hang v1 v2 v3 (v4 + 1) _ _ _ _ _ _ _ _ _ _ hF _ _ _ hP hD hS (lv_sub hl [3, 4, 5, 6, 0] rfl) hexit_31
          · have hF := zi_neg c_53 hF
            refine lv_iload hx hb dX11_entry_88 (lv_at hl 0 rfl) ?_
            refine lv_istore_n (lv' := [(3, .int r_44), (6, .int r_44), (5, .int r_44), (0, .ref x_a), (1, .int v1), (2, .int v2), (4, .int v4)]) hx hb dX11_entry_90 rfl hl (by decide) rfl (fun ls hl => ?_)
            refine lv_iload hx hb dX11_entry_91 (lv_at hl 6 rfl) ?_
            refine lv_istore_n (lv' := [(2, .int v4), (3, .int r_44), (6, .int r_44), (5, .int r_44), (0, .ref x_a), (1, .int v1), (4, .int v4)]) hx hb dX11_entry_93 rfl hl (by decide) rfl (fun ls hl => ?_)
            refine lv_iinc (v := v4 + 1) (lv' := [(4, .int (v4 + 1)), (2, .int v4), (3, .int r_44), (6, .int r_44), (5, .int r_44), (0, .ref x_a), (1, .int v1)]) hx hb dX11_entry_94 hl (k := 6) rfl (by rfl) (by decide) rfl (fun ls hl => ?_)
            refine lv_goto (tgt := 31) hx hb dX11_entry_97 (by decide) ?_
            exact ih_31 x_asked s_tick s_every s_round s_inside s_up s_due s_wind u_tick_45 u_every_33 u_round_46 u_inside_47 u_up_48 u_due_49 u_wind_50 c_every c_size c_period c_hang v1 v4 r_44 (v4 + 1) _ _ _ _ _ _ _ _ _ _ hF _ _ _ hP hD hS (lv_sub hl [5, 6, 1, 2, 0] rfl) hexit_31
        · have hF := zi_pos c_52 hF
          refine lv_bipush (v := 121) hx hb dX11_entry_73 (by decide) ?_
          refine lv_goto (tgt := 80) hx hb dX11_entry_75 (by decide) ?_
          refine lv_istore (lv' := [(6, .int 121), (5, .int r_44), (0, .ref x_a), (1, .int v1), (2, .int v2), (3, .int v3), (4, .int v4)]) hx hb dX11_entry_80 hl (by decide) rfl (fun ls hl => ?_)
          refine lv_iload hx hb dX11_entry_82 (lv_at hl 0 rfl) ?_
          refine lv_iload_n hx hb dX11_entry_84 rfl (lv_at hl 5 rfl) ?_
          refine lv_icmp_le (tgt := 94) hx hb dX11_entry_85 (by decide) (fun c_54 => ?_) (fun c_54 => ?_)
          · have hF := zi_pos c_54 hF
            refine lv_iinc (v := v4 + 1) (lv' := [(4, .int (v4 + 1)), (6, .int 121), (5, .int r_44), (0, .ref x_a), (1, .int v1), (2, .int v2), (3, .int v3)]) hx hb dX11_entry_94 hl (k := 6) rfl (by rfl) (by decide) rfl (fun ls hl => ?_)
            refine lv_goto (tgt := 31) hx hb dX11_entry_97 (by decide) ?_
            exact ih_31 x_asked s_tick s_every s_round s_inside s_up s_due s_wind u_tick_45 u_every_33 u_round_46 u_inside_47 u_up_48 u_due_49 u_wind_50 c_every c_size c_period c_hang v1 v2 v3 (v4 + 1) _ _ _ _ _ _ _ _ _ _ hF _ _ _ hP hD hS (lv_sub hl [3, 4, 5, 6, 0] rfl) hexit_31
          · have hF := zi_neg c_54 hF
            refine lv_iload hx hb dX11_entry_88 (lv_at hl 0 rfl) ?_
            refine lv_istore_n (lv' := [(3, .int 121), (6, .int 121), (5, .int r_44), (0, .ref x_a), (1, .int v1), (2, .int v2), (4, .int v4)]) hx hb dX11_entry_90 rfl hl (by decide) rfl (fun ls hl => ?_)
            refine lv_iload hx hb dX11_entry_91 (lv_at hl 6 rfl) ?_
            refine lv_istore_n (lv' := [(2, .int v4), (3, .int 121), (6, .int 121), (5, .int r_44), (0, .ref x_a), (1, .int v1), (4, .int v4)]) hx hb dX11_entry_93 rfl hl (by decide) rfl (fun ls hl => ?_)
            refine lv_iinc (v := v4 + 1) (lv' := [(4, .int (v4 + 1)), (2, .int v4), (3, .int 121), (6, .int 121), (5, .int r_44), (0, .ref x_a), (1, .int v1)]) hx hb dX11_entry_94 hl (k := 6) rfl (by rfl) (by decide) rfl (fun ls hl => ?_)
            refine lv_goto (tgt := 31) hx hb dX11_entry_97 (by decide) ?_
            exact ih_31 x_asked s_tick s_every s_round s_inside s_up s_due s_wind u_tick_45 u_every_33 u_round_46 u_inside_47 u_up_48 u_due_49 u_wind_50 c_every c_size c_period c_hang v1 v4 121 (v4 + 1) _ _ _ _ _ _ _ _ _ _ hF _ _ _ hP hD hS (lv_sub hl [5, 6, 1, 2, 0] rfl) hexit_31
  refine lv_aload_n hx hb dX11_entry_0 rfl (lv_at hl 0 rfl) ?_
  refine lv_iload_n hx hb dX11_entry_1 rfl (lv_at hl 1 rfl) ?_
  obtain ⟨r_1, hc_2, hF⟩ := zb1_s hF
  refine zcv_i (ws1 := [(x_a, .inr (11, [.ref t_a, .ref c_a, .ref d_a, .ref s_a, .ref u_a, .ref q_a, .ref i_a, .ref k_a, .ref w_a, .ref n_a, .long x_asked])), (s_a, .inr (8, [.int s_tick, .int s_every, .int s_round, .int s_inside, .ref s_a_up, .ref s_a_due, .ref s_a_wind])), (s_a_up, .inl (cI, 6, .inl s_up)), (s_a_due, .inl (cI, 6, .inl s_due)), (s_a_wind, .inl (cI, 6, .inl s_wind)), (u_a, .inr (8, [.int u_tick, .int u_every, .int u_round, .int u_inside, .ref u_a_up, .ref u_a_due, .ref u_a_wind])), (u_a_up, .inl (cI, 6, .inl u_up)), (u_a_due, .inl (cI, 6, .inl u_due)), (u_a_wind, .inl (cI, 6, .inl u_wind)), (c_a, .inr (1, [.int c_every, .int c_size, .ref c_a_period, .ref c_a_hang, .ref c_a_start, .ref c_a_wind])), (c_a_period, .inl (cI, 6, .inl c_period)), (c_a_hang, .inl (cI, 6, .inl c_hang))]) S hT lk_X11_103 (c_X11_isNobody l D cI cZ cS cJ x_a t_a c_a d_a s_a u_a q_a i_a k_a w_a n_a c_a_period c_a_hang c_a_start c_a_wind x_asked c_every c_size p1 hc_2) ⟨rfl, rfl, Nat.le_of_ble_eq_true rfl, Nat.le_of_ble_eq_true rfl⟩ hK hP hD hS hA [0, 9] [1, 2, 3, 4, 5, 6, 7, 8, 10, 11] [10, 0, 1, 2, 3, 4, 5, 6, 7, 11, 8, 9] rfl rfl rfl rfl rfl rfl rfl rfl rfl rfl rfl hl.1 rfl (Nat.le_of_ble_eq_true rfl) dX11_entry_2 ⟨Nat.zero_le _, Nat.zero_le _⟩ (fun H locs hP hD hS => ?_)
  refine lv_if_eq (tgt := 10) hx hb dX11_entry_5 (by decide) (fun c_3 => ?_) (fun c_3 => ?_)
  · have hF := zi_pos c_3 hF
    refine lv_aload_n hx hb dX11_entry_10 rfl (lv_at hl 0 rfl) ?_
    refine va_get (D := D) (ci := 11) (v := .ref s_a) (C := RX11) (T := TX11) (N := 11) hx hb ht iyX11 hown hK hP 0 rfl rfl 3 (by decide) (ht _ wf_X11_29) (fun _ h9 => h9) rfl dX11_entry_11 ?_
    refine lv_iload_n hx hb dX11_entry_14 rfl (lv_at hl 1 rfl) ?_
    obtain ⟨r_4, hc_5, hF⟩ := zb1_s hF
    refine zcv_i (ws1 := [(x_a, .inr (11, [.ref t_a, .ref c_a, .ref d_a, .ref s_a, .ref u_a, .ref q_a, .ref i_a, .ref k_a, .ref w_a, .ref n_a, .long x_asked])), (s_a, .inr (8, [.int s_tick, .int s_every, .int s_round, .int s_inside, .ref s_a_up, .ref s_a_due, .ref s_a_wind])), (s_a_up, .inl (cI, 6, .inl s_up)), (s_a_due, .inl (cI, 6, .inl s_due)), (s_a_wind, .inl (cI, 6, .inl s_wind)), (u_a, .inr (8, [.int u_tick, .int u_every, .int u_round, .int u_inside, .ref u_a_up, .ref u_a_due, .ref u_a_wind])), (u_a_up, .inl (cI, 6, .inl u_up)), (u_a_due, .inl (cI, 6, .inl u_due)), (u_a_wind, .inl (cI, 6, .inl u_wind)), (c_a, .inr (1, [.int c_every, .int c_size, .ref c_a_period, .ref c_a_hang, .ref c_a_start, .ref c_a_wind])), (c_a_period, .inl (cI, 6, .inl c_period)), (c_a_hang, .inl (cI, 6, .inl c_hang))]) S hT lk_X11_116 (c_X8_holds l D cI cZ cS cJ s_a s_a_up s_a_due s_a_wind s_tick s_every s_round s_inside p1 hc_5) ⟨rfl, rfl, Nat.le_of_ble_eq_true rfl, Nat.le_of_ble_eq_true rfl⟩ hK hP hD hS hA [1] [0, 2, 3, 4, 5, 6, 7, 8, 9, 10, 11] [0, 11, 1, 2, 3, 4, 5, 6, 7, 8, 9, 10] rfl rfl rfl rfl rfl rfl rfl rfl rfl rfl rfl hl.1 rfl (Nat.le_of_ble_eq_true rfl) dX11_entry_15 ⟨Nat.zero_le _, Nat.zero_le _⟩ (fun H locs hP hD hS => ?_)
    refine lv_if_eq (tgt := 24) hx hb dX11_entry_18 (by decide) (fun c_6 => ?_) (fun c_6 => ?_)
    · have hF := zi_pos c_6 hF
      refine lv_iconst (v := 0) hx hb dX11_entry_24 (by decide) ?_
      refine lv_istore_n (lv' := [(2, .int 0), (0, .ref x_a), (1, .int p1)]) hx hb dX11_entry_25 rfl hl (by decide) rfl (fun ls hl => ?_)
      refine lv_iconst (v := 0) hx hb dX11_entry_26 (by decide) ?_
      refine lv_istore_n (lv' := [(3, .int 0), (2, .int 0), (0, .ref x_a), (1, .int p1)]) hx hb dX11_entry_27 rfl hl (by decide) rfl (fun ls hl => ?_)
      refine lv_iconst (v := 0) hx hb dX11_entry_28 (by decide) ?_
      refine lv_istore (lv' := [(4, .int 0), (3, .int 0), (2, .int 0), (0, .ref x_a), (1, .int p1)]) hx hb dX11_entry_29 hl (by decide) rfl (fun ls hl => ?_)
      obtain ⟨u_tick_55, u_every_56, u_round_57, u_inside_58, u_up_59, u_due_60, u_wind_61, v2_62, v3_63, v4_64, hL_65, hF⟩ := zb10_s hF
      refine hloop_31 300 x_asked s_tick s_every s_round s_inside s_up s_due s_wind u_tick u_every u_round u_inside u_up u_due u_wind c_every c_size c_period c_hang p1 0 0 0 u_tick_55 u_every_56 u_round_57 u_inside_58 u_up_59 u_due_60 u_wind_61 v2_62 v3_63 v4_64 hL_65 _ _ _ hP hD hS (lv_sub hl [3, 4, 2, 1, 0] rfl) (fun H locs ls hP hD hS hl => ?_)
      refine lv_iload_n hx hb dX11_entry_100 rfl (lv_at hl 2 rfl) ?_
      obtain ⟨e_0, e_1, e_2, e_3, e_4, e_5, e_6, e_7⟩ := zo8 hF
      subst e_0
      subst e_1
      subst e_2
      subst e_3
      subst e_4
      subst e_5
      subst e_6
      subst e_7
      exact zret_i S hr hlocks hK hP hD hS dX11_entry_101
    · have hF := zi_neg c_6 hF
      refine lv_bipush (v := (-2)) hx hb dX11_entry_21 (by decide) ?_
      obtain ⟨e_0, e_1, e_2, e_3, e_4, e_5, e_6, e_7⟩ := zo8 hF
      subst e_0
      subst e_1
      subst e_2
      subst e_3
      subst e_4
      subst e_5
      subst e_6
      subst e_7
      exact zret_i S hr hlocks hK hP hD hS dX11_entry_23
  · have hF := zi_neg c_3 hF
    refine lv_iconst (v := (-1)) hx hb dX11_entry_8 (by decide) ?_
    obtain ⟨e_0, e_1, e_2, e_3, e_4, e_5, e_6, e_7⟩ := zo8 hF
    subst e_0
    subst e_1
    subst e_2
    subst e_3
    subst e_4
    subst e_5
    subst e_6
    subst e_7
    exact zret_i S hr hlocks hK hP hD hS dX11_entry_9

def F_X11_staysAlone (s_tick : Int32) (s_every : Int32) (s_round : Int32) (s_inside : Int32) (s_up : Nat → Int32) (s_due : Nat → Int32) (s_wind : Nat → Int32) (u_up : Nat → Int32) (u_due : Nat → Int32) (u_wind : Nat → Int32) (c_size : Int32) (c_period : Nat → Int32) (c_hang : Nat → Int32) (p1 : Int32) (p2 : Int32) (p3 : Int32) : Option (Int32 × Int32 × Int32 × Int32 × Int32 × (Nat → Int32) × (Nat → Int32) × (Nat → Int32)) :=
  (zb7 (F_X8_become u_up u_due u_wind s_tick s_every s_round s_inside s_up s_due s_wind) (fun u_tick_1 u_every_2 u_round_3 u_inside_4 u_up_5 u_due_6 u_wind_7 => (if (p1 < 0 ∨ 6 ≤ p1.toNatClampNeg) then none else (zb6 (F_X11_playOn u_tick_1 u_every_2 u_round_3 ((1 : Int32) <<< (p1 &&& 31)) u_up_5 (upd u_due_6 p1.toNatClampNeg ((u_due_6 p1.toNatClampNeg) + p2)) u_wind_7 c_size c_period c_hang p3) (fun u_tick_10 u_round_11 u_inside_12 u_up_13 u_due_14 u_wind_15 => (zb1 (F_X8_holds u_inside_12 p1) (fun r_17 => (if ¬ (r_17 = 0 ∨ r_17 = 1) then none else some (r_17, u_tick_10, u_every_2, u_round_11, u_inside_12, u_up_13, u_due_14, u_wind_15)))))))))
set_option maxHeartbeats 4000000 in
set_option maxRecDepth 100000 in
theorem c_X11_staysAlone (l : Launch) (D : va_G) (cI cZ cS cJ : ClassId) (x_a : Nat) (t_a : Nat) (c_a : Nat) (d_a : Nat) (s_a : Nat) (u_a : Nat) (q_a : Nat) (i_a : Nat) (k_a : Nat) (w_a : Nat) (n_a : Nat) (s_a_up : Nat) (s_a_due : Nat) (s_a_wind : Nat) (u_a_up : Nat) (u_a_due : Nat) (u_a_wind : Nat) (c_a_period : Nat) (c_a_hang : Nat) (c_a_start : Nat) (c_a_wind : Nat) (x_asked : Int64) (s_tick : Int32) (s_every : Int32) (s_round : Int32) (s_inside : Int32) (s_up : Nat → Int32) (s_due : Nat → Int32) (s_wind : Nat → Int32) (u_tick : Int32) (u_every : Int32) (u_round : Int32) (u_inside : Int32) (u_up : Nat → Int32) (u_due : Nat → Int32) (u_wind : Nat → Int32) (c_every : Int32) (c_size : Int32) (c_period : Nat → Int32) (c_hang : Nat → Int32) (p1 : Int32) (p2 : Int32) (p3 : Int32) {r_o : Int32} {u_tick_o : Int32} {u_every_o : Int32} {u_round_o : Int32} {u_inside_o : Int32} {u_up_o : Nat → Int32} {u_due_o : Nat → Int32} {u_wind_o : Nat → Int32} (hF : F_X11_staysAlone s_tick s_every s_round s_inside s_up s_due s_wind u_up u_due u_wind c_size c_period c_hang p1 p2 p3 = some (r_o, u_tick_o, u_every_o, u_round_o, u_inside_o, u_up_o, u_due_o, u_wind_o)) : zMi l yX11_staysAlone (zwl yX11_staysAlone cX11_staysAlone 4 (some .boolean)) { frames := 4, cells := 0, slots := 0, locals := 87 } D (TYS cI cZ cS cJ) [.ref x_a, .int p1, .int p2, .int p3] [(x_a, .inr (11, [.ref t_a, .ref c_a, .ref d_a, .ref s_a, .ref u_a, .ref q_a, .ref i_a, .ref k_a, .ref w_a, .ref n_a, .long x_asked])), (s_a, .inr (8, [.int s_tick, .int s_every, .int s_round, .int s_inside, .ref s_a_up, .ref s_a_due, .ref s_a_wind])), (s_a_up, .inl (cI, 6, .inl s_up)), (s_a_due, .inl (cI, 6, .inl s_due)), (s_a_wind, .inl (cI, 6, .inl s_wind)), (u_a, .inr (8, [.int u_tick, .int u_every, .int u_round, .int u_inside, .ref u_a_up, .ref u_a_due, .ref u_a_wind])), (u_a_up, .inl (cI, 6, .inl u_up)), (u_a_due, .inl (cI, 6, .inl u_due)), (u_a_wind, .inl (cI, 6, .inl u_wind)), (c_a, .inr (1, [.int c_every, .int c_size, .ref c_a_period, .ref c_a_hang, .ref c_a_start, .ref c_a_wind])), (c_a_period, .inl (cI, 6, .inl c_period)), (c_a_hang, .inl (cI, 6, .inl c_hang))] [(x_a, .inr (11, [.ref t_a, .ref c_a, .ref d_a, .ref s_a, .ref u_a, .ref q_a, .ref i_a, .ref k_a, .ref w_a, .ref n_a, .long x_asked])), (s_a, .inr (8, [.int s_tick, .int s_every, .int s_round, .int s_inside, .ref s_a_up, .ref s_a_due, .ref s_a_wind])), (s_a_up, .inl (cI, 6, .inl s_up)), (s_a_due, .inl (cI, 6, .inl s_due)), (s_a_wind, .inl (cI, 6, .inl s_wind)), (u_a, .inr (8, [.int u_tick_o, .int u_every_o, .int u_round_o, .int u_inside_o, .ref u_a_up, .ref u_a_due, .ref u_a_wind])), (u_a_up, .inl (cI, 6, .inl u_up_o)), (u_a_due, .inl (cI, 6, .inl u_due_o)), (u_a_wind, .inl (cI, 6, .inl u_wind_o)), (c_a, .inr (1, [.int c_every, .int c_size, .ref c_a_period, .ref c_a_hang, .ref c_a_start, .ref c_a_wind])), (c_a_period, .inl (cI, 6, .inl c_period)), (c_a_hang, .inl (cI, 6, .inl c_hang))] r_o := by
  refine zent_i (own := RX11) (by decide) rfl (Nat.le_of_ble_eq_true rfl) ?_
  intro p e s m below meth c A ls S hr hlocks hK hP hD hA hl
  have hx := S.1
  have hb := S.2.1
  have hml := S.2.2.1
  have hown := S.2.2.2.1
  have hT : ∀ w ∈ zt, w ∈ zwl yX11_staysAlone cX11_staysAlone 4 (some .boolean) := fun _ h => List.mem_cons_of_mem _ h
  have ht : ∀ w ∈ zt, w.before [.ref x_a, .int p1, .int p2, .int p3].toArray s = true := fun w h => S.2.2.2.2 w (hT w h)
  have hl : lv_has ls 4 [(0, .ref x_a), (1, .int p1), (2, .int p2), (3, .int p3)] := hl
  have hS : va_S A s.heap s.heap [] := va_S.rf
  unfold F_X11_staysAlone at hF
  refine lv_aload_n hx hb dX11_staysAlone_0 rfl (lv_at hl 0 rfl) ?_
  refine va_get (D := D) (ci := 11) (v := .ref u_a) (C := RX11) (T := TX11) (N := 11) hx hb ht iyX11 hown hK hP 0 rfl rfl 4 (by decide) (ht _ wf_X11_33) (fun _ h9 => h9) rfl dX11_staysAlone_1 ?_
  refine lv_aload_n hx hb dX11_staysAlone_4 rfl (lv_at hl 0 rfl) ?_
  refine va_get (D := D) (ci := 11) (v := .ref s_a) (C := RX11) (T := TX11) (N := 11) hx hb ht iyX11 hown hK hP 0 rfl rfl 3 (by decide) (ht _ wf_X11_29) (fun _ h9 => h9) rfl dX11_staysAlone_5 ?_
  obtain ⟨u_tick_1, u_every_2, u_round_3, u_inside_4, u_up_5, u_due_6, u_wind_7, hc_8, hF⟩ := zb7_s hF
  refine zcv_v (ws1 := [(x_a, .inr (11, [.ref t_a, .ref c_a, .ref d_a, .ref s_a, .ref u_a, .ref q_a, .ref i_a, .ref k_a, .ref w_a, .ref n_a, .long x_asked])), (s_a, .inr (8, [.int s_tick, .int s_every, .int s_round, .int s_inside, .ref s_a_up, .ref s_a_due, .ref s_a_wind])), (s_a_up, .inl (cI, 6, .inl s_up)), (s_a_due, .inl (cI, 6, .inl s_due)), (s_a_wind, .inl (cI, 6, .inl s_wind)), (u_a, .inr (8, [.int u_tick_1, .int u_every_2, .int u_round_3, .int u_inside_4, .ref u_a_up, .ref u_a_due, .ref u_a_wind])), (u_a_up, .inl (cI, 6, .inl u_up_5)), (u_a_due, .inl (cI, 6, .inl u_due_6)), (u_a_wind, .inl (cI, 6, .inl u_wind_7)), (c_a, .inr (1, [.int c_every, .int c_size, .ref c_a_period, .ref c_a_hang, .ref c_a_start, .ref c_a_wind])), (c_a_period, .inl (cI, 6, .inl c_period)), (c_a_hang, .inl (cI, 6, .inl c_hang))]) S hT lk_X11_174 (c_X8_become l D cI cZ cS cJ u_a u_a_up u_a_due u_a_wind s_a s_a_up s_a_due s_a_wind u_tick u_every u_round u_inside u_up u_due u_wind s_tick s_every s_round s_inside s_up s_due s_wind hc_8) ⟨rfl, rfl, Nat.le_of_ble_eq_true rfl, Nat.le_of_ble_eq_true rfl⟩ hK hP hD hS hA [5, 6, 7, 8, 1, 2, 3, 4] [0, 9, 10, 11] [0, 8, 9, 10, 11, 4, 5, 6, 7, 1, 2, 3] rfl rfl rfl rfl rfl rfl rfl rfl rfl rfl rfl hl.1 rfl (Nat.le_of_ble_eq_true rfl) dX11_staysAlone_8 ⟨Nat.zero_le _, Nat.zero_le _⟩ (fun H locs hP hD hS => ?_)
  refine lv_aload_n hx hb dX11_staysAlone_11 rfl (lv_at hl 0 rfl) ?_
  refine va_get (D := D) (ci := 11) (v := .ref u_a) (C := RX11) (T := TX11) (N := 11) hx hb ht iyX11 hown hK hP 0 rfl rfl 4 (by decide) (ht _ wf_X11_33) (fun _ h9 => h9) rfl dX11_staysAlone_12 ?_
  refine lv_iconst (v := 1) hx hb dX11_staysAlone_15 (by decide) ?_
  refine lv_iload_n hx hb dX11_staysAlone_16 rfl (lv_at hl 1 rfl) ?_
  refine lv_ishl hx hb dX11_staysAlone_17 ?_
  refine va_put (D := D) (ci := 8) (v := .int ((1 : Int32) <<< (p1 &&& 31))) (ty := .int) (C := RX8) (T := TX8) (N := 7) hx hb ht iyX8 tyX8 tyX8_ok nmX8 hown hK hP hD hS 5 rfl rfl 3 (by decide) (ht _ wf_X11_138) (fun _ h9 => h9) rfl (by decide +kernel) rfl rfl (Nat.le_of_ble_eq_true rfl) dX11_staysAlone_18 (fun H locs hP hD hS => ?_)
  have hP : va_P D classes [(x_a, .inr (11, [.ref t_a, .ref c_a, .ref d_a, .ref s_a, .ref u_a, .ref q_a, .ref i_a, .ref k_a, .ref w_a, .ref n_a, .long x_asked])), (s_a, .inr (8, [.int s_tick, .int s_every, .int s_round, .int s_inside, .ref s_a_up, .ref s_a_due, .ref s_a_wind])), (s_a_up, .inl (cI, 6, .inl s_up)), (s_a_due, .inl (cI, 6, .inl s_due)), (s_a_wind, .inl (cI, 6, .inl s_wind)), (u_a, .inr (8, [.int u_tick_1, .int u_every_2, .int u_round_3, .int ((1 : Int32) <<< (p1 &&& 31)), .ref u_a_up, .ref u_a_due, .ref u_a_wind])), (u_a_up, .inl (cI, 6, .inl u_up_5)), (u_a_due, .inl (cI, 6, .inl u_due_6)), (u_a_wind, .inl (cI, 6, .inl u_wind_7)), (c_a, .inr (1, [.int c_every, .int c_size, .ref c_a_period, .ref c_a_hang, .ref c_a_start, .ref c_a_wind])), (c_a_period, .inl (cI, 6, .inl c_period)), (c_a_hang, .inl (cI, 6, .inl c_hang))] H := hP
  have hD : va_D A [(x_a, .inr (11, [.ref t_a, .ref c_a, .ref d_a, .ref s_a, .ref u_a, .ref q_a, .ref i_a, .ref k_a, .ref w_a, .ref n_a, .long x_asked])), (s_a, .inr (8, [.int s_tick, .int s_every, .int s_round, .int s_inside, .ref s_a_up, .ref s_a_due, .ref s_a_wind])), (s_a_up, .inl (cI, 6, .inl s_up)), (s_a_due, .inl (cI, 6, .inl s_due)), (s_a_wind, .inl (cI, 6, .inl s_wind)), (u_a, .inr (8, [.int u_tick_1, .int u_every_2, .int u_round_3, .int ((1 : Int32) <<< (p1 &&& 31)), .ref u_a_up, .ref u_a_due, .ref u_a_wind])), (u_a_up, .inl (cI, 6, .inl u_up_5)), (u_a_due, .inl (cI, 6, .inl u_due_6)), (u_a_wind, .inl (cI, 6, .inl u_wind_7)), (c_a, .inr (1, [.int c_every, .int c_size, .ref c_a_period, .ref c_a_hang, .ref c_a_start, .ref c_a_wind])), (c_a_period, .inl (cI, 6, .inl c_period)), (c_a_hang, .inl (cI, 6, .inl c_hang))] := hD
  refine lv_aload_n hx hb dX11_staysAlone_21 rfl (lv_at hl 0 rfl) ?_
  refine va_get (D := D) (ci := 11) (v := .ref u_a) (C := RX11) (T := TX11) (N := 11) hx hb ht iyX11 hown hK hP 0 rfl rfl 4 (by decide) (ht _ wf_X11_33) (fun _ h9 => h9) rfl dX11_staysAlone_22 ?_
  refine va_get (D := D) (ci := 8) (v := .ref u_a_due) (C := RX8) (T := TX8) (N := 7) hx hb ht iyX8 hown hK hP 5 rfl rfl 5 (by decide) (ht _ wf_X11_122) (fun _ h9 => h9) rfl dX11_staysAlone_25 ?_
  refine lv_iload_n hx hb dX11_staysAlone_28 rfl (lv_at hl 1 rfl) ?_
  refine lv_dup2_11 hx hb dX11_staysAlone_29 rfl rfl ?_
  obtain ⟨h_9, hF⟩ := zi_chk hF
  refine va_iald hx hb hK hP 7 0 rfl rfl h_9 dX11_staysAlone_30 ?_
  refine lv_iload_n hx hb dX11_staysAlone_31 rfl (lv_at hl 2 rfl) ?_
  refine lv_iadd hx hb dX11_staysAlone_32 ?_
  refine va_iast hx hb hK hP hD hS 7 0 rfl rfl h_9 dX11_staysAlone_33 (fun H locs hP hD hS => ?_)
  have hP : va_P D classes [(x_a, .inr (11, [.ref t_a, .ref c_a, .ref d_a, .ref s_a, .ref u_a, .ref q_a, .ref i_a, .ref k_a, .ref w_a, .ref n_a, .long x_asked])), (s_a, .inr (8, [.int s_tick, .int s_every, .int s_round, .int s_inside, .ref s_a_up, .ref s_a_due, .ref s_a_wind])), (s_a_up, .inl (cI, 6, .inl s_up)), (s_a_due, .inl (cI, 6, .inl s_due)), (s_a_wind, .inl (cI, 6, .inl s_wind)), (u_a, .inr (8, [.int u_tick_1, .int u_every_2, .int u_round_3, .int ((1 : Int32) <<< (p1 &&& 31)), .ref u_a_up, .ref u_a_due, .ref u_a_wind])), (u_a_up, .inl (cI, 6, .inl u_up_5)), (u_a_due, .inl (cI, 6, .inl (upd u_due_6 p1.toNatClampNeg ((u_due_6 p1.toNatClampNeg) + p2)))), (u_a_wind, .inl (cI, 6, .inl u_wind_7)), (c_a, .inr (1, [.int c_every, .int c_size, .ref c_a_period, .ref c_a_hang, .ref c_a_start, .ref c_a_wind])), (c_a_period, .inl (cI, 6, .inl c_period)), (c_a_hang, .inl (cI, 6, .inl c_hang))] H := hP
  have hD : va_D A [(x_a, .inr (11, [.ref t_a, .ref c_a, .ref d_a, .ref s_a, .ref u_a, .ref q_a, .ref i_a, .ref k_a, .ref w_a, .ref n_a, .long x_asked])), (s_a, .inr (8, [.int s_tick, .int s_every, .int s_round, .int s_inside, .ref s_a_up, .ref s_a_due, .ref s_a_wind])), (s_a_up, .inl (cI, 6, .inl s_up)), (s_a_due, .inl (cI, 6, .inl s_due)), (s_a_wind, .inl (cI, 6, .inl s_wind)), (u_a, .inr (8, [.int u_tick_1, .int u_every_2, .int u_round_3, .int ((1 : Int32) <<< (p1 &&& 31)), .ref u_a_up, .ref u_a_due, .ref u_a_wind])), (u_a_up, .inl (cI, 6, .inl u_up_5)), (u_a_due, .inl (cI, 6, .inl (upd u_due_6 p1.toNatClampNeg ((u_due_6 p1.toNatClampNeg) + p2)))), (u_a_wind, .inl (cI, 6, .inl u_wind_7)), (c_a, .inr (1, [.int c_every, .int c_size, .ref c_a_period, .ref c_a_hang, .ref c_a_start, .ref c_a_wind])), (c_a_period, .inl (cI, 6, .inl c_period)), (c_a_hang, .inl (cI, 6, .inl c_hang))] := hD
  refine lv_aload_n hx hb dX11_staysAlone_34 rfl (lv_at hl 0 rfl) ?_
  refine lv_iload_n hx hb dX11_staysAlone_35 rfl (lv_at hl 3 rfl) ?_
  obtain ⟨u_tick_10, u_round_11, u_inside_12, u_up_13, u_due_14, u_wind_15, hc_16, hF⟩ := zb6_s hF
  refine zcv_v (ws1 := [(x_a, .inr (11, [.ref t_a, .ref c_a, .ref d_a, .ref s_a, .ref u_a, .ref q_a, .ref i_a, .ref k_a, .ref w_a, .ref n_a, .long x_asked])), (s_a, .inr (8, [.int s_tick, .int s_every, .int s_round, .int s_inside, .ref s_a_up, .ref s_a_due, .ref s_a_wind])), (s_a_up, .inl (cI, 6, .inl s_up)), (s_a_due, .inl (cI, 6, .inl s_due)), (s_a_wind, .inl (cI, 6, .inl s_wind)), (u_a, .inr (8, [.int u_tick_10, .int u_every_2, .int u_round_11, .int u_inside_12, .ref u_a_up, .ref u_a_due, .ref u_a_wind])), (u_a_up, .inl (cI, 6, .inl u_up_13)), (u_a_due, .inl (cI, 6, .inl u_due_14)), (u_a_wind, .inl (cI, 6, .inl u_wind_15)), (c_a, .inr (1, [.int c_every, .int c_size, .ref c_a_period, .ref c_a_hang, .ref c_a_start, .ref c_a_wind])), (c_a_period, .inl (cI, 6, .inl c_period)), (c_a_hang, .inl (cI, 6, .inl c_hang))]) S hT lk_X11_177 (c_X11_playOn l D cI cZ cS cJ x_a t_a c_a d_a s_a u_a q_a i_a k_a w_a n_a u_a_up u_a_due u_a_wind c_a_period c_a_hang c_a_start c_a_wind x_asked u_tick_1 u_every_2 u_round_3 ((1 : Int32) <<< (p1 &&& 31)) u_up_5 (upd u_due_6 p1.toNatClampNeg ((u_due_6 p1.toNatClampNeg) + p2)) u_wind_7 c_every c_size c_period c_hang p3 hc_16) ⟨rfl, rfl, Nat.le_of_ble_eq_true rfl, Nat.le_of_ble_eq_true rfl⟩ hK hP hD hS hA [0, 5, 6, 7, 8, 9, 10, 11] [1, 2, 3, 4] [4, 0, 1, 2, 3, 5, 6, 7, 8, 9, 10, 11] rfl rfl rfl rfl rfl rfl rfl rfl rfl rfl rfl hl.1 rfl (Nat.le_of_ble_eq_true rfl) dX11_staysAlone_36 ⟨Nat.zero_le _, Nat.zero_le _⟩ (fun H locs hP hD hS => ?_)
  refine lv_aload_n hx hb dX11_staysAlone_39 rfl (lv_at hl 0 rfl) ?_
  refine va_get (D := D) (ci := 11) (v := .ref u_a) (C := RX11) (T := TX11) (N := 11) hx hb ht iyX11 hown hK hP 0 rfl rfl 4 (by decide) (ht _ wf_X11_33) (fun _ h9 => h9) rfl dX11_staysAlone_40 ?_
  refine lv_iload_n hx hb dX11_staysAlone_43 rfl (lv_at hl 1 rfl) ?_
  obtain ⟨r_17, hc_18, hF⟩ := zb1_s hF
  refine zcv_i (ws1 := [(x_a, .inr (11, [.ref t_a, .ref c_a, .ref d_a, .ref s_a, .ref u_a, .ref q_a, .ref i_a, .ref k_a, .ref w_a, .ref n_a, .long x_asked])), (s_a, .inr (8, [.int s_tick, .int s_every, .int s_round, .int s_inside, .ref s_a_up, .ref s_a_due, .ref s_a_wind])), (s_a_up, .inl (cI, 6, .inl s_up)), (s_a_due, .inl (cI, 6, .inl s_due)), (s_a_wind, .inl (cI, 6, .inl s_wind)), (u_a, .inr (8, [.int u_tick_10, .int u_every_2, .int u_round_11, .int u_inside_12, .ref u_a_up, .ref u_a_due, .ref u_a_wind])), (u_a_up, .inl (cI, 6, .inl u_up_13)), (u_a_due, .inl (cI, 6, .inl u_due_14)), (u_a_wind, .inl (cI, 6, .inl u_wind_15)), (c_a, .inr (1, [.int c_every, .int c_size, .ref c_a_period, .ref c_a_hang, .ref c_a_start, .ref c_a_wind])), (c_a_period, .inl (cI, 6, .inl c_period)), (c_a_hang, .inl (cI, 6, .inl c_hang))]) S hT lk_X11_116 (c_X8_holds l D cI cZ cS cJ u_a u_a_up u_a_due u_a_wind u_tick_10 u_every_2 u_round_11 u_inside_12 p1 hc_18) ⟨rfl, rfl, Nat.le_of_ble_eq_true rfl, Nat.le_of_ble_eq_true rfl⟩ hK hP hD hS hA [5] [0, 1, 2, 3, 4, 6, 7, 8, 9, 10, 11] [0, 1, 2, 3, 4, 11, 5, 6, 7, 8, 9, 10] rfl rfl rfl rfl rfl rfl rfl rfl rfl rfl rfl hl.1 rfl (Nat.le_of_ble_eq_true rfl) dX11_staysAlone_44 ⟨Nat.zero_le _, Nat.zero_le _⟩ (fun H locs hP hD hS => ?_)
  obtain ⟨h_19, hF⟩ := zi_chk hF
  obtain ⟨e_0, e_1, e_2, e_3, e_4, e_5, e_6, e_7⟩ := zo8 hF
  subst e_0
  subst e_1
  subst e_2
  subst e_3
  subst e_4
  subst e_5
  subst e_6
  subst e_7
  exact zret_z (Decidable.not_not.mp h_19) S hr hlocks hK hP hD hS dX11_staysAlone_47

theorem lk_X11_226 : zLk RX11 226 yX11_staysAlone cX11_staysAlone 4 (some .boolean) 3 := ⟨⟨wm_X11_226, wo_X11_staysAlone, we_X11_X11_staysAlone, wi_X11, wd_X11_staysAlone⟩, by decide, by decide, by decide +kernel⟩
def F_X11_tenthsThatStay (s_tick : Int32) (s_every : Int32) (s_round : Int32) (s_inside : Int32) (s_up : Nat → Int32) (s_due : Nat → Int32) (s_wind : Nat → Int32) (u_up : Nat → Int32) (u_due : Nat → Int32) (u_wind : Nat → Int32) (c_size : Int32) (c_period : Nat → Int32) (c_hang : Nat → Int32) (p1 : Int32) (p2 : Int32) (p3 : Int32) : Option (Int32 × Int32 × Int32 × Int32 × Int32 × (Nat → Int32) × (Nat → Int32) × (Nat → Int32)) :=
  (zb8 (F_X11_staysAlone s_tick s_every s_round s_inside s_up s_due s_wind u_up u_due u_wind c_size c_period c_hang p1 0 p3) (fun r_1 u_tick_2 u_every_3 u_round_4 u_inside_5 u_up_6 u_due_7 u_wind_8 => (if r_1 = 0 then (if (p1 < 0 ∨ 6 ≤ p1.toNatClampNeg) then none else (zb8 (F_X11_staysAlone s_tick s_every s_round s_inside s_up s_due s_wind u_up_6 u_due_7 u_wind_8 c_size c_period c_hang p1 (c_period p1.toNatClampNeg) p3) (fun r_12 u_tick_13 u_every_14 u_round_15 u_inside_16 u_up_17 u_due_18 u_wind_19 => (if r_12 = 0 then some (0, u_tick_13, u_every_14, u_round_15, u_inside_16, u_up_17, u_due_18, u_wind_19) else some (0 + p2, u_tick_13, u_every_14, u_round_15, u_inside_16, u_up_17, u_due_18, u_wind_19))))) else (if (p1 < 0 ∨ 6 ≤ p1.toNatClampNeg) then none else (zb8 (F_X11_staysAlone s_tick s_every s_round s_inside s_up s_due s_wind u_up_6 u_due_7 u_wind_8 c_size c_period c_hang p1 (c_period p1.toNatClampNeg) p3) (fun r_23 u_tick_24 u_every_25 u_round_26 u_inside_27 u_up_28 u_due_29 u_wind_30 => (if r_23 = 0 then some (0 + (10 - p2), u_tick_24, u_every_25, u_round_26, u_inside_27, u_up_28, u_due_29, u_wind_30) else some ((0 + (10 - p2)) + p2, u_tick_24, u_every_25, u_round_26, u_inside_27, u_up_28, u_due_29, u_wind_30))))))))
set_option maxHeartbeats 4000000 in
set_option maxRecDepth 100000 in
theorem c_X11_tenthsThatStay (l : Launch) (D : va_G) (cI cZ cS cJ : ClassId) (x_a : Nat) (t_a : Nat) (c_a : Nat) (d_a : Nat) (s_a : Nat) (u_a : Nat) (q_a : Nat) (i_a : Nat) (k_a : Nat) (w_a : Nat) (n_a : Nat) (s_a_up : Nat) (s_a_due : Nat) (s_a_wind : Nat) (u_a_up : Nat) (u_a_due : Nat) (u_a_wind : Nat) (c_a_period : Nat) (c_a_hang : Nat) (c_a_start : Nat) (c_a_wind : Nat) (x_asked : Int64) (s_tick : Int32) (s_every : Int32) (s_round : Int32) (s_inside : Int32) (s_up : Nat → Int32) (s_due : Nat → Int32) (s_wind : Nat → Int32) (u_tick : Int32) (u_every : Int32) (u_round : Int32) (u_inside : Int32) (u_up : Nat → Int32) (u_due : Nat → Int32) (u_wind : Nat → Int32) (c_every : Int32) (c_size : Int32) (c_period : Nat → Int32) (c_hang : Nat → Int32) (p1 : Int32) (p2 : Int32) (p3 : Int32) {r_o : Int32} {u_tick_o : Int32} {u_every_o : Int32} {u_round_o : Int32} {u_inside_o : Int32} {u_up_o : Nat → Int32} {u_due_o : Nat → Int32} {u_wind_o : Nat → Int32} (hF : F_X11_tenthsThatStay s_tick s_every s_round s_inside s_up s_due s_wind u_up u_due u_wind c_size c_period c_hang p1 p2 p3 = some (r_o, u_tick_o, u_every_o, u_round_o, u_inside_o, u_up_o, u_due_o, u_wind_o)) : zMi l yX11_tenthsThatStay (zwl yX11_tenthsThatStay cX11_tenthsThatStay 5 (some .int)) { frames := 5, cells := 0, slots := 0, locals := 110 } D (TYS cI cZ cS cJ) [.ref x_a, .int p1, .int p2, .int p3] [(x_a, .inr (11, [.ref t_a, .ref c_a, .ref d_a, .ref s_a, .ref u_a, .ref q_a, .ref i_a, .ref k_a, .ref w_a, .ref n_a, .long x_asked])), (s_a, .inr (8, [.int s_tick, .int s_every, .int s_round, .int s_inside, .ref s_a_up, .ref s_a_due, .ref s_a_wind])), (s_a_up, .inl (cI, 6, .inl s_up)), (s_a_due, .inl (cI, 6, .inl s_due)), (s_a_wind, .inl (cI, 6, .inl s_wind)), (u_a, .inr (8, [.int u_tick, .int u_every, .int u_round, .int u_inside, .ref u_a_up, .ref u_a_due, .ref u_a_wind])), (u_a_up, .inl (cI, 6, .inl u_up)), (u_a_due, .inl (cI, 6, .inl u_due)), (u_a_wind, .inl (cI, 6, .inl u_wind)), (c_a, .inr (1, [.int c_every, .int c_size, .ref c_a_period, .ref c_a_hang, .ref c_a_start, .ref c_a_wind])), (c_a_period, .inl (cI, 6, .inl c_period)), (c_a_hang, .inl (cI, 6, .inl c_hang))] [(x_a, .inr (11, [.ref t_a, .ref c_a, .ref d_a, .ref s_a, .ref u_a, .ref q_a, .ref i_a, .ref k_a, .ref w_a, .ref n_a, .long x_asked])), (s_a, .inr (8, [.int s_tick, .int s_every, .int s_round, .int s_inside, .ref s_a_up, .ref s_a_due, .ref s_a_wind])), (s_a_up, .inl (cI, 6, .inl s_up)), (s_a_due, .inl (cI, 6, .inl s_due)), (s_a_wind, .inl (cI, 6, .inl s_wind)), (u_a, .inr (8, [.int u_tick_o, .int u_every_o, .int u_round_o, .int u_inside_o, .ref u_a_up, .ref u_a_due, .ref u_a_wind])), (u_a_up, .inl (cI, 6, .inl u_up_o)), (u_a_due, .inl (cI, 6, .inl u_due_o)), (u_a_wind, .inl (cI, 6, .inl u_wind_o)), (c_a, .inr (1, [.int c_every, .int c_size, .ref c_a_period, .ref c_a_hang, .ref c_a_start, .ref c_a_wind])), (c_a_period, .inl (cI, 6, .inl c_period)), (c_a_hang, .inl (cI, 6, .inl c_hang))] r_o := by
  refine zent_i (own := RX11) (by decide) rfl (Nat.le_of_ble_eq_true rfl) ?_
  intro p e s m below meth c A ls S hr hlocks hK hP hD hA hl
  have hx := S.1
  have hb := S.2.1
  have hml := S.2.2.1
  have hown := S.2.2.2.1
  have hT : ∀ w ∈ zt, w ∈ zwl yX11_tenthsThatStay cX11_tenthsThatStay 5 (some .int) := fun _ h => List.mem_cons_of_mem _ h
  have ht : ∀ w ∈ zt, w.before [.ref x_a, .int p1, .int p2, .int p3].toArray s = true := fun w h => S.2.2.2.2 w (hT w h)
  have hl : lv_has ls 5 [(0, .ref x_a), (1, .int p1), (2, .int p2), (3, .int p3)] := hl
  have hS : va_S A s.heap s.heap [] := va_S.rf
  unfold F_X11_tenthsThatStay at hF
  refine lv_iconst (v := 0) hx hb dX11_tenthsThatStay_0 (by decide) ?_
  refine lv_istore (lv' := [(4, .int 0), (0, .ref x_a), (1, .int p1), (2, .int p2), (3, .int p3)]) hx hb dX11_tenthsThatStay_1 hl (by decide) rfl (fun ls hl => ?_)
  refine lv_aload_n hx hb dX11_tenthsThatStay_3 rfl (lv_at hl 1 rfl) ?_
  refine lv_iload_n hx hb dX11_tenthsThatStay_4 rfl (lv_at hl 2 rfl) ?_
  refine lv_iconst (v := 0) hx hb dX11_tenthsThatStay_5 (by decide) ?_
  refine lv_iload_n hx hb dX11_tenthsThatStay_6 rfl (lv_at hl 4 rfl) ?_
  obtain ⟨r_1, u_tick_2, u_every_3, u_round_4, u_inside_5, u_up_6, u_due_7, u_wind_8, hc_9, hF⟩ := zb8_s hF
  refine zcv_i (ws1 := [(x_a, .inr (11, [.ref t_a, .ref c_a, .ref d_a, .ref s_a, .ref u_a, .ref q_a, .ref i_a, .ref k_a, .ref w_a, .ref n_a, .long x_asked])), (s_a, .inr (8, [.int s_tick, .int s_every, .int s_round, .int s_inside, .ref s_a_up, .ref s_a_due, .ref s_a_wind])), (s_a_up, .inl (cI, 6, .inl s_up)), (s_a_due, .inl (cI, 6, .inl s_due)), (s_a_wind, .inl (cI, 6, .inl s_wind)), (u_a, .inr (8, [.int u_tick_2, .int u_every_3, .int u_round_4, .int u_inside_5, .ref u_a_up, .ref u_a_due, .ref u_a_wind])), (u_a_up, .inl (cI, 6, .inl u_up_6)), (u_a_due, .inl (cI, 6, .inl u_due_7)), (u_a_wind, .inl (cI, 6, .inl u_wind_8)), (c_a, .inr (1, [.int c_every, .int c_size, .ref c_a_period, .ref c_a_hang, .ref c_a_start, .ref c_a_wind])), (c_a_period, .inl (cI, 6, .inl c_period)), (c_a_hang, .inl (cI, 6, .inl c_hang))]) S hT lk_X11_226 (c_X11_staysAlone l D cI cZ cS cJ x_a t_a c_a d_a s_a u_a q_a i_a k_a w_a n_a s_a_up s_a_due s_a_wind u_a_up u_a_due u_a_wind c_a_period c_a_hang c_a_start c_a_wind x_asked s_tick s_every s_round s_inside s_up s_due s_wind u_tick u_every u_round u_inside u_up u_due u_wind c_every c_size c_period c_hang p1 0 p3 hc_9) ⟨rfl, rfl, Nat.le_of_ble_eq_true rfl, Nat.le_of_ble_eq_true rfl⟩ hK hP hD hS hA [0, 1, 2, 3, 4, 5, 6, 7, 8, 9, 10, 11] [] [0, 1, 2, 3, 4, 5, 6, 7, 8, 9, 10, 11] rfl rfl rfl rfl rfl rfl rfl rfl rfl rfl rfl hl.1 rfl (Nat.le_of_ble_eq_true rfl) dX11_tenthsThatStay_7 ⟨Nat.zero_le _, Nat.zero_le _⟩ (fun H locs hP hD hS => ?_)
  refine lv_if_eq (tgt := 22) hx hb dX11_tenthsThatStay_10 (by decide) (fun c_10 => ?_) (fun c_10 => ?_)
  · have hF := zi_pos c_10 hF
    refine lv_aload_n hx hb dX11_tenthsThatStay_22 rfl (lv_at hl 1 rfl) ?_
    refine lv_iload_n hx hb dX11_tenthsThatStay_23 rfl (lv_at hl 2 rfl) ?_
    refine lv_aload_n hx hb dX11_tenthsThatStay_24 rfl (lv_at hl 1 rfl) ?_
    refine va_get (D := D) (ci := 11) (v := .ref c_a) (C := RX11) (T := TX11) (N := 11) hx hb ht iyX11 hown hK hP 0 rfl rfl 1 (by decide) (ht _ wf_X11_19) (fun _ h9 => h9) rfl dX11_tenthsThatStay_25 ?_
    refine va_get (D := D) (ci := 1) (v := .ref c_a_period) (C := RX1) (T := TX1) (N := 6) hx hb ht iyX1 hown hK hP 9 rfl rfl 2 (by decide) (ht _ wf_X11_107) (fun _ h9 => h9) rfl dX11_tenthsThatStay_28 ?_
    refine lv_iload_n hx hb dX11_tenthsThatStay_31 rfl (lv_at hl 2 rfl) ?_
    obtain ⟨h_11, hF⟩ := zi_chk hF
    refine va_iald hx hb hK hP 10 0 rfl rfl h_11 dX11_tenthsThatStay_32 ?_
    refine lv_iload_n hx hb dX11_tenthsThatStay_33 rfl (lv_at hl 4 rfl) ?_
    obtain ⟨r_12, u_tick_13, u_every_14, u_round_15, u_inside_16, u_up_17, u_due_18, u_wind_19, hc_20, hF⟩ := zb8_s hF
    refine zcv_i (ws1 := [(x_a, .inr (11, [.ref t_a, .ref c_a, .ref d_a, .ref s_a, .ref u_a, .ref q_a, .ref i_a, .ref k_a, .ref w_a, .ref n_a, .long x_asked])), (s_a, .inr (8, [.int s_tick, .int s_every, .int s_round, .int s_inside, .ref s_a_up, .ref s_a_due, .ref s_a_wind])), (s_a_up, .inl (cI, 6, .inl s_up)), (s_a_due, .inl (cI, 6, .inl s_due)), (s_a_wind, .inl (cI, 6, .inl s_wind)), (u_a, .inr (8, [.int u_tick_13, .int u_every_14, .int u_round_15, .int u_inside_16, .ref u_a_up, .ref u_a_due, .ref u_a_wind])), (u_a_up, .inl (cI, 6, .inl u_up_17)), (u_a_due, .inl (cI, 6, .inl u_due_18)), (u_a_wind, .inl (cI, 6, .inl u_wind_19)), (c_a, .inr (1, [.int c_every, .int c_size, .ref c_a_period, .ref c_a_hang, .ref c_a_start, .ref c_a_wind])), (c_a_period, .inl (cI, 6, .inl c_period)), (c_a_hang, .inl (cI, 6, .inl c_hang))]) S hT lk_X11_226 (c_X11_staysAlone l D cI cZ cS cJ x_a t_a c_a d_a s_a u_a q_a i_a k_a w_a n_a s_a_up s_a_due s_a_wind u_a_up u_a_due u_a_wind c_a_period c_a_hang c_a_start c_a_wind x_asked s_tick s_every s_round s_inside s_up s_due s_wind u_tick_2 u_every_3 u_round_4 u_inside_5 u_up_6 u_due_7 u_wind_8 c_every c_size c_period c_hang p1 (c_period p1.toNatClampNeg) p3 hc_20) ⟨rfl, rfl, Nat.le_of_ble_eq_true rfl, Nat.le_of_ble_eq_true rfl⟩ hK hP hD hS hA [0, 1, 2, 3, 4, 5, 6, 7, 8, 9, 10, 11] [] [0, 1, 2, 3, 4, 5, 6, 7, 8, 9, 10, 11] rfl rfl rfl rfl rfl rfl rfl rfl rfl rfl rfl hl.1 rfl (Nat.le_of_ble_eq_true rfl) dX11_tenthsThatStay_34 ⟨Nat.zero_le _, Nat.zero_le _⟩ (fun H locs hP hD hS => ?_)
    refine lv_if_eq (tgt := 46) hx hb dX11_tenthsThatStay_37 (by decide) (fun c_21 => ?_) (fun c_21 => ?_)
    · have hF := zi_pos c_21 hF
      refine lv_iload hx hb dX11_tenthsThatStay_46 (lv_at hl 0 rfl) ?_
      obtain ⟨e_0, e_1, e_2, e_3, e_4, e_5, e_6, e_7⟩ := zo8 hF
      subst e_0
      subst e_1
      subst e_2
      subst e_3
      subst e_4
      subst e_5
      subst e_6
      subst e_7
      exact zret_i S hr hlocks hK hP hD hS dX11_tenthsThatStay_48
    · have hF := zi_neg c_21 hF
      refine lv_iload hx hb dX11_tenthsThatStay_40 (lv_at hl 0 rfl) ?_
      refine lv_iload_n hx hb dX11_tenthsThatStay_42 rfl (lv_at hl 3 rfl) ?_
      refine lv_iadd hx hb dX11_tenthsThatStay_43 ?_
      refine lv_istore (lv' := [(4, .int (0 + p2)), (0, .ref x_a), (1, .int p1), (2, .int p2), (3, .int p3)]) hx hb dX11_tenthsThatStay_44 hl (by decide) rfl (fun ls hl => ?_)
      refine lv_iload hx hb dX11_tenthsThatStay_46 (lv_at hl 0 rfl) ?_
      obtain ⟨e_0, e_1, e_2, e_3, e_4, e_5, e_6, e_7⟩ := zo8 hF
      subst e_0
      subst e_1
      subst e_2
      subst e_3
      subst e_4
      subst e_5
      subst e_6
      subst e_7
      exact zret_i S hr hlocks hK hP hD hS dX11_tenthsThatStay_48
  · have hF := zi_neg c_10 hF
    refine lv_iload hx hb dX11_tenthsThatStay_13 (lv_at hl 0 rfl) ?_
    refine lv_bipush (v := 10) hx hb dX11_tenthsThatStay_15 (by decide) ?_
    refine lv_iload_n hx hb dX11_tenthsThatStay_17 rfl (lv_at hl 3 rfl) ?_
    refine lv_isub hx hb dX11_tenthsThatStay_18 ?_
    refine lv_iadd hx hb dX11_tenthsThatStay_19 ?_
    refine lv_istore (lv' := [(4, .int (0 + (10 - p2))), (0, .ref x_a), (1, .int p1), (2, .int p2), (3, .int p3)]) hx hb dX11_tenthsThatStay_20 hl (by decide) rfl (fun ls hl => ?_)
    refine lv_aload_n hx hb dX11_tenthsThatStay_22 rfl (lv_at hl 1 rfl) ?_
    refine lv_iload_n hx hb dX11_tenthsThatStay_23 rfl (lv_at hl 2 rfl) ?_
    refine lv_aload_n hx hb dX11_tenthsThatStay_24 rfl (lv_at hl 1 rfl) ?_
    refine va_get (D := D) (ci := 11) (v := .ref c_a) (C := RX11) (T := TX11) (N := 11) hx hb ht iyX11 hown hK hP 0 rfl rfl 1 (by decide) (ht _ wf_X11_19) (fun _ h9 => h9) rfl dX11_tenthsThatStay_25 ?_
    refine va_get (D := D) (ci := 1) (v := .ref c_a_period) (C := RX1) (T := TX1) (N := 6) hx hb ht iyX1 hown hK hP 9 rfl rfl 2 (by decide) (ht _ wf_X11_107) (fun _ h9 => h9) rfl dX11_tenthsThatStay_28 ?_
    refine lv_iload_n hx hb dX11_tenthsThatStay_31 rfl (lv_at hl 2 rfl) ?_
    obtain ⟨h_22, hF⟩ := zi_chk hF
    refine va_iald hx hb hK hP 10 0 rfl rfl h_22 dX11_tenthsThatStay_32 ?_
    refine lv_iload_n hx hb dX11_tenthsThatStay_33 rfl (lv_at hl 4 rfl) ?_
    obtain ⟨r_23, u_tick_24, u_every_25, u_round_26, u_inside_27, u_up_28, u_due_29, u_wind_30, hc_31, hF⟩ := zb8_s hF
    refine zcv_i (ws1 := [(x_a, .inr (11, [.ref t_a, .ref c_a, .ref d_a, .ref s_a, .ref u_a, .ref q_a, .ref i_a, .ref k_a, .ref w_a, .ref n_a, .long x_asked])), (s_a, .inr (8, [.int s_tick, .int s_every, .int s_round, .int s_inside, .ref s_a_up, .ref s_a_due, .ref s_a_wind])), (s_a_up, .inl (cI, 6, .inl s_up)), (s_a_due, .inl (cI, 6, .inl s_due)), (s_a_wind, .inl (cI, 6, .inl s_wind)), (u_a, .inr (8, [.int u_tick_24, .int u_every_25, .int u_round_26, .int u_inside_27, .ref u_a_up, .ref u_a_due, .ref u_a_wind])), (u_a_up, .inl (cI, 6, .inl u_up_28)), (u_a_due, .inl (cI, 6, .inl u_due_29)), (u_a_wind, .inl (cI, 6, .inl u_wind_30)), (c_a, .inr (1, [.int c_every, .int c_size, .ref c_a_period, .ref c_a_hang, .ref c_a_start, .ref c_a_wind])), (c_a_period, .inl (cI, 6, .inl c_period)), (c_a_hang, .inl (cI, 6, .inl c_hang))]) S hT lk_X11_226 (c_X11_staysAlone l D cI cZ cS cJ x_a t_a c_a d_a s_a u_a q_a i_a k_a w_a n_a s_a_up s_a_due s_a_wind u_a_up u_a_due u_a_wind c_a_period c_a_hang c_a_start c_a_wind x_asked s_tick s_every s_round s_inside s_up s_due s_wind u_tick_2 u_every_3 u_round_4 u_inside_5 u_up_6 u_due_7 u_wind_8 c_every c_size c_period c_hang p1 (c_period p1.toNatClampNeg) p3 hc_31) ⟨rfl, rfl, Nat.le_of_ble_eq_true rfl, Nat.le_of_ble_eq_true rfl⟩ hK hP hD hS hA [0, 1, 2, 3, 4, 5, 6, 7, 8, 9, 10, 11] [] [0, 1, 2, 3, 4, 5, 6, 7, 8, 9, 10, 11] rfl rfl rfl rfl rfl rfl rfl rfl rfl rfl rfl hl.1 rfl (Nat.le_of_ble_eq_true rfl) dX11_tenthsThatStay_34 ⟨Nat.zero_le _, Nat.zero_le _⟩ (fun H locs hP hD hS => ?_)
    refine lv_if_eq (tgt := 46) hx hb dX11_tenthsThatStay_37 (by decide) (fun c_32 => ?_) (fun c_32 => ?_)
    · have hF := zi_pos c_32 hF
      refine lv_iload hx hb dX11_tenthsThatStay_46 (lv_at hl 0 rfl) ?_
      obtain ⟨e_0, e_1, e_2, e_3, e_4, e_5, e_6, e_7⟩ := zo8 hF
      subst e_0
      subst e_1
      subst e_2
      subst e_3
      subst e_4
      subst e_5
      subst e_6
      subst e_7
      exact zret_i S hr hlocks hK hP hD hS dX11_tenthsThatStay_48
    · have hF := zi_neg c_32 hF
      refine lv_iload hx hb dX11_tenthsThatStay_40 (lv_at hl 0 rfl) ?_
      refine lv_iload_n hx hb dX11_tenthsThatStay_42 rfl (lv_at hl 3 rfl) ?_
      refine lv_iadd hx hb dX11_tenthsThatStay_43 ?_
      refine lv_istore (lv' := [(4, .int ((0 + (10 - p2)) + p2)), (0, .ref x_a), (1, .int p1), (2, .int p2), (3, .int p3)]) hx hb dX11_tenthsThatStay_44 hl (by decide) rfl (fun ls hl => ?_)
      refine lv_iload hx hb dX11_tenthsThatStay_46 (lv_at hl 0 rfl) ?_
      obtain ⟨e_0, e_1, e_2, e_3, e_4, e_5, e_6, e_7⟩ := zo8 hF
      subst e_0
      subst e_1
      subst e_2
      subst e_3
      subst e_4
      subst e_5
      subst e_6
      subst e_7
      exact zret_i S hr hlocks hK hP hD hS dX11_tenthsThatStay_48

theorem lk_X11_184 : zLk RX11 184 yX11_tenthsThatStay cX11_tenthsThatStay 5 (some .int) 3 := ⟨⟨wm_X11_184, wo_X11_tenthsThatStay, we_X11_X11_tenthsThatStay, wi_X11, wd_X11_tenthsThatStay⟩, by decide, by decide, by decide +kernel⟩
theorem lk_X11_188 : zLs RX11 188 yX11_commonDivisor cX11_commonDivisor 6 (some .int) 2 := ⟨⟨wm_X11_188, ws_X11_commonDivisor, wi_X11, wd_X11_commonDivisor⟩, by decide, by decide, by decide +kernel⟩
def L_X11_odds_40 (s_tick : Int32) (s_every : Int32) (s_round : Int32) (s_inside : Int32) (s_up : Nat → Int32) (s_due : Nat → Int32) (s_wind : Nat → Int32) (c_size : Int32) (c_period : Nat → Int32) (c_hang : Nat → Int32) (v1 : Int32) (v2 : Int32) : Nat → Int32 → Int32 → Int32 → Int32 → (Nat → Int32) → (Nat → Int32) → (Nat → Int32) → Int32 → Int32 → Int32 → Option (Int32 × Int32 × Int32 × Int32 × (Nat → Int32) × (Nat → Int32) × (Nat → Int32) × Int32 × Int32 × Int32)
  | 0 => fun _ _ _ _ _ _ _ _ _ _ => none
  | n + 1 => fun u_tick u_every u_round u_inside u_up u_due u_wind v4 v5 v6 => (if c_size ≤ v6 then some (u_tick, u_every, u_round, u_inside, u_up, u_due, u_wind, v4, v5, v6) else (zb1 (F_X8_holds s_inside v6) (fun r_21 => (if r_21 = 0 then (L_X11_odds_40 s_tick s_every s_round s_inside s_up s_due s_wind c_size c_period c_hang v1 v2 n u_tick u_every u_round u_inside u_up u_due u_wind v4 v5 (v6 + 1)) else (zb8 (F_X11_tenthsThatStay s_tick s_every s_round s_inside s_up s_due s_wind u_up u_due u_wind c_size c_period c_hang v6 v1 v2) (fun r_24 u_tick_25 u_every_26 u_round_27 u_inside_28 u_up_29 u_due_30 u_wind_31 => (L_X11_odds_40 s_tick s_every s_round s_inside s_up s_due s_wind c_size c_period c_hang v1 v2 n u_tick_25 u_every_26 u_round_27 u_inside_28 u_up_29 u_due_30 u_wind_31 (v4 * r_24) (v5 * 10) (v6 + 1))))))))
theorem L_X11_odds_40_z (s_tick : Int32) (s_every : Int32) (s_round : Int32) (s_inside : Int32) (s_up : Nat → Int32) (s_due : Nat → Int32) (s_wind : Nat → Int32) (c_size : Int32) (c_period : Nat → Int32) (c_hang : Nat → Int32) (v1 : Int32) (v2 : Int32) (u_tick : Int32) (u_every : Int32) (u_round : Int32) (u_inside : Int32) (u_up : Nat → Int32) (u_due : Nat → Int32) (u_wind : Nat → Int32) (v4 : Int32) (v5 : Int32) (v6 : Int32) : L_X11_odds_40 s_tick s_every s_round s_inside s_up s_due s_wind c_size c_period c_hang v1 v2 0 u_tick u_every u_round u_inside u_up u_due u_wind v4 v5 v6 = none := rfl
theorem L_X11_odds_40_s (s_tick : Int32) (s_every : Int32) (s_round : Int32) (s_inside : Int32) (s_up : Nat → Int32) (s_due : Nat → Int32) (s_wind : Nat → Int32) (c_size : Int32) (c_period : Nat → Int32) (c_hang : Nat → Int32) (v1 : Int32) (v2 : Int32) (n : Nat) (u_tick : Int32) (u_every : Int32) (u_round : Int32) (u_inside : Int32) (u_up : Nat → Int32) (u_due : Nat → Int32) (u_wind : Nat → Int32) (v4 : Int32) (v5 : Int32) (v6 : Int32) : L_X11_odds_40 s_tick s_every s_round s_inside s_up s_due s_wind c_size c_period c_hang v1 v2 (n + 1) u_tick u_every u_round u_inside u_up u_due u_wind v4 v5 v6 = (if c_size ≤ v6 then some (u_tick, u_every, u_round, u_inside, u_up, u_due, u_wind, v4, v5, v6) else (zb1 (F_X8_holds s_inside v6) (fun r_21 => (if r_21 = 0 then (L_X11_odds_40 s_tick s_every s_round s_inside s_up s_due s_wind c_size c_period c_hang v1 v2 n u_tick u_every u_round u_inside u_up u_due u_wind v4 v5 (v6 + 1)) else (zb8 (F_X11_tenthsThatStay s_tick s_every s_round s_inside s_up s_due s_wind u_up u_due u_wind c_size c_period c_hang v6 v1 v2) (fun r_24 u_tick_25 u_every_26 u_round_27 u_inside_28 u_up_29 u_due_30 u_wind_31 => (L_X11_odds_40 s_tick s_every s_round s_inside s_up s_due s_wind c_size c_period c_hang v1 v2 n u_tick_25 u_every_26 u_round_27 u_inside_28 u_up_29 u_due_30 u_wind_31 (v4 * r_24) (v5 * 10) (v6 + 1)))))))) := rfl
def F_X11_odds (s_tick : Int32) (s_every : Int32) (s_round : Int32) (s_inside : Int32) (s_up : Nat → Int32) (s_due : Nat → Int32) (s_wind : Nat → Int32) (u_tick : Int32) (u_every : Int32) (u_round : Int32) (u_inside : Int32) (u_up : Nat → Int32) (u_due : Nat → Int32) (u_wind : Nat → Int32) (c_size : Int32) (c_period : Nat → Int32) (c_hang : Nat → Int32) (p1 : Int32) (p2 : Int32) (p3 : Int32) : Option (Int32 × Int32 × Int32 × Int32 × Int32 × (Nat → Int32) × (Nat → Int32) × (Nat → Int32)) :=
  (if p1 < 0 then some ((-1), u_tick, u_every, u_round, u_inside, u_up, u_due, u_wind) else (if 10 < p1 then some ((-1), u_tick, u_every, u_round, u_inside, u_up, u_due, u_wind) else (if p2 < 0 then some ((-1), u_tick, u_every, u_round, u_inside, u_up, u_due, u_wind) else (if 60 < p2 then some ((-1), u_tick, u_every, u_round, u_inside, u_up, u_due, u_wind) else (if p3 < 0 then some ((-1), u_tick, u_every, u_round, u_inside, u_up, u_due, u_wind) else (if p3 ≤ 1 then (zb10 (L_X11_odds_40 s_tick s_every s_round s_inside s_up s_due s_wind c_size c_period c_hang p1 p2 300 u_tick u_every u_round u_inside u_up u_due u_wind 1 1 0) (fun u_tick_33 u_every_34 u_round_35 u_inside_36 u_up_37 u_due_38 u_wind_39 v4_40 v5_41 v6_42 => (zb1 (F_X11_commonDivisor v4_40 v5_41) (fun r_44 => (if 0 < r_44 then (if p3 = 0 then (if r_44 = 0 then none else some (v4_40 / r_44, u_tick_33, u_every_34, u_round_35, u_inside_36, u_up_37, u_due_38, u_wind_39)) else (if r_44 = 0 then none else some (v5_41 / r_44, u_tick_33, u_every_34, u_round_35, u_inside_36, u_up_37, u_due_38, u_wind_39))) else some ((-1), u_tick_33, u_every_34, u_round_35, u_inside_36, u_up_37, u_due_38, u_wind_39)))))) else some ((-1), u_tick, u_every, u_round, u_inside, u_up, u_due, u_wind)))))))
set_option maxHeartbeats 4000000 in
set_option maxRecDepth 100000 in
theorem c_X11_odds (l : Launch) (D : va_G) (cI cZ cS cJ : ClassId) (x_a : Nat) (t_a : Nat) (c_a : Nat) (d_a : Nat) (s_a : Nat) (u_a : Nat) (q_a : Nat) (i_a : Nat) (k_a : Nat) (w_a : Nat) (n_a : Nat) (s_a_up : Nat) (s_a_due : Nat) (s_a_wind : Nat) (u_a_up : Nat) (u_a_due : Nat) (u_a_wind : Nat) (c_a_period : Nat) (c_a_hang : Nat) (c_a_start : Nat) (c_a_wind : Nat) (x_asked : Int64) (s_tick : Int32) (s_every : Int32) (s_round : Int32) (s_inside : Int32) (s_up : Nat → Int32) (s_due : Nat → Int32) (s_wind : Nat → Int32) (u_tick : Int32) (u_every : Int32) (u_round : Int32) (u_inside : Int32) (u_up : Nat → Int32) (u_due : Nat → Int32) (u_wind : Nat → Int32) (c_every : Int32) (c_size : Int32) (c_period : Nat → Int32) (c_hang : Nat → Int32) (p1 : Int32) (p2 : Int32) (p3 : Int32) {r_o : Int32} {u_tick_o : Int32} {u_every_o : Int32} {u_round_o : Int32} {u_inside_o : Int32} {u_up_o : Nat → Int32} {u_due_o : Nat → Int32} {u_wind_o : Nat → Int32} (hF : F_X11_odds s_tick s_every s_round s_inside s_up s_due s_wind u_tick u_every u_round u_inside u_up u_due u_wind c_size c_period c_hang p1 p2 p3 = some (r_o, u_tick_o, u_every_o, u_round_o, u_inside_o, u_up_o, u_due_o, u_wind_o)) : zMi l yX11_odds (zwl yX11_odds cX11_odds 7 (some .int)) { frames := 6, cells := 0, slots := 0, locals := 134 } D (TYS cI cZ cS cJ) [.ref x_a, .int p1, .int p2, .int p3] [(x_a, .inr (11, [.ref t_a, .ref c_a, .ref d_a, .ref s_a, .ref u_a, .ref q_a, .ref i_a, .ref k_a, .ref w_a, .ref n_a, .long x_asked])), (s_a, .inr (8, [.int s_tick, .int s_every, .int s_round, .int s_inside, .ref s_a_up, .ref s_a_due, .ref s_a_wind])), (s_a_up, .inl (cI, 6, .inl s_up)), (s_a_due, .inl (cI, 6, .inl s_due)), (s_a_wind, .inl (cI, 6, .inl s_wind)), (u_a, .inr (8, [.int u_tick, .int u_every, .int u_round, .int u_inside, .ref u_a_up, .ref u_a_due, .ref u_a_wind])), (u_a_up, .inl (cI, 6, .inl u_up)), (u_a_due, .inl (cI, 6, .inl u_due)), (u_a_wind, .inl (cI, 6, .inl u_wind)), (c_a, .inr (1, [.int c_every, .int c_size, .ref c_a_period, .ref c_a_hang, .ref c_a_start, .ref c_a_wind])), (c_a_period, .inl (cI, 6, .inl c_period)), (c_a_hang, .inl (cI, 6, .inl c_hang))] [(x_a, .inr (11, [.ref t_a, .ref c_a, .ref d_a, .ref s_a, .ref u_a, .ref q_a, .ref i_a, .ref k_a, .ref w_a, .ref n_a, .long x_asked])), (s_a, .inr (8, [.int s_tick, .int s_every, .int s_round, .int s_inside, .ref s_a_up, .ref s_a_due, .ref s_a_wind])), (s_a_up, .inl (cI, 6, .inl s_up)), (s_a_due, .inl (cI, 6, .inl s_due)), (s_a_wind, .inl (cI, 6, .inl s_wind)), (u_a, .inr (8, [.int u_tick_o, .int u_every_o, .int u_round_o, .int u_inside_o, .ref u_a_up, .ref u_a_due, .ref u_a_wind])), (u_a_up, .inl (cI, 6, .inl u_up_o)), (u_a_due, .inl (cI, 6, .inl u_due_o)), (u_a_wind, .inl (cI, 6, .inl u_wind_o)), (c_a, .inr (1, [.int c_every, .int c_size, .ref c_a_period, .ref c_a_hang, .ref c_a_start, .ref c_a_wind])), (c_a_period, .inl (cI, 6, .inl c_period)), (c_a_hang, .inl (cI, 6, .inl c_hang))] r_o := by
  refine zent_i (own := RX11) (by decide) rfl (Nat.le_of_ble_eq_true rfl) ?_
  intro p e s m below meth c A ls S hr hlocks hK hP hD hA hl
  have hx := S.1
  have hb := S.2.1
  have hml := S.2.2.1
  have hown := S.2.2.2.1
  have hT : ∀ w ∈ zt, w ∈ zwl yX11_odds cX11_odds 7 (some .int) := fun _ h => List.mem_cons_of_mem _ h
  have ht : ∀ w ∈ zt, w.before [.ref x_a, .int p1, .int p2, .int p3].toArray s = true := fun w h => S.2.2.2.2 w (hT w h)
  have hl : lv_has ls 7 [(0, .ref x_a), (1, .int p1), (2, .int p2), (3, .int p3)] := hl
  have hS : va_S A s.heap s.heap [] := va_S.rf
  unfold F_X11_odds at hF
  have hloop_40 : ∀ (n : Nat) (x_asked : Int64) (s_tick : Int32) (s_every : Int32) (s_round : Int32) (s_inside : Int32) (s_up : Nat → Int32) (s_due : Nat → Int32) (s_wind : Nat → Int32) (u_tick : Int32) (u_every : Int32) (u_round : Int32) (u_inside : Int32) (u_up : Nat → Int32) (u_due : Nat → Int32) (u_wind : Nat → Int32) (c_every : Int32) (c_size : Int32) (c_period : Nat → Int32) (c_hang : Nat → Int32) (v1 : Int32) (v2 : Int32) (v3 : Int32) (v4 : Int32) (v5 : Int32) (v6 : Int32) (u_tick' : Int32) (u_every' : Int32) (u_round' : Int32) (u_inside' : Int32) (u_up' : Nat → Int32) (u_due' : Nat → Int32) (u_wind' : Nat → Int32) (v4' : Int32) (v5' : Int32) (v6' : Int32), L_X11_odds_40 s_tick s_every s_round s_inside s_up s_due s_wind c_size c_period c_hang v1 v2 n u_tick u_every u_round u_inside u_up u_due u_wind v4 v5 v6 = some (u_tick', u_every', u_round', u_inside', u_up', u_due', u_wind', v4', v5', v6') → ∀ (H : Heap) (locs : List Loc) (ls : Array Slot), va_P D classes [(x_a, .inr (11, [.ref t_a, .ref c_a, .ref d_a, .ref s_a, .ref u_a, .ref q_a, .ref i_a, .ref k_a, .ref w_a, .ref n_a, .long x_asked])), (s_a, .inr (8, [.int s_tick, .int s_every, .int s_round, .int s_inside, .ref s_a_up, .ref s_a_due, .ref s_a_wind])), (s_a_up, .inl (cI, 6, .inl s_up)), (s_a_due, .inl (cI, 6, .inl s_due)), (s_a_wind, .inl (cI, 6, .inl s_wind)), (u_a, .inr (8, [.int u_tick, .int u_every, .int u_round, .int u_inside, .ref u_a_up, .ref u_a_due, .ref u_a_wind])), (u_a_up, .inl (cI, 6, .inl u_up)), (u_a_due, .inl (cI, 6, .inl u_due)), (u_a_wind, .inl (cI, 6, .inl u_wind)), (c_a, .inr (1, [.int c_every, .int c_size, .ref c_a_period, .ref c_a_hang, .ref c_a_start, .ref c_a_wind])), (c_a_period, .inl (cI, 6, .inl c_period)), (c_a_hang, .inl (cI, 6, .inl c_hang))] H → va_D A [(x_a, .inr (11, [.ref t_a, .ref c_a, .ref d_a, .ref s_a, .ref u_a, .ref q_a, .ref i_a, .ref k_a, .ref w_a, .ref n_a, .long x_asked])), (s_a, .inr (8, [.int s_tick, .int s_every, .int s_round, .int s_inside, .ref s_a_up, .ref s_a_due, .ref s_a_wind])), (s_a_up, .inl (cI, 6, .inl s_up)), (s_a_due, .inl (cI, 6, .inl s_due)), (s_a_wind, .inl (cI, 6, .inl s_wind)), (u_a, .inr (8, [.int u_tick, .int u_every, .int u_round, .int u_inside, .ref u_a_up, .ref u_a_due, .ref u_a_wind])), (u_a_up, .inl (cI, 6, .inl u_up)), (u_a_due, .inl (cI, 6, .inl u_due)), (u_a_wind, .inl (cI, 6, .inl u_wind)), (c_a, .inr (1, [.int c_every, .int c_size, .ref c_a_period, .ref c_a_hang, .ref c_a_start, .ref c_a_wind])), (c_a_period, .inl (cI, 6, .inl c_period)), (c_a_hang, .inl (cI, 6, .inl c_hang))] → va_S A s.heap H locs → lv_has ls 7 [(0, .ref x_a), (1, .int v1), (2, .int v2), (3, .int v3), (4, .int v4), (5, .int v5), (6, .int v6)] → (∀ (H : Heap) (locs : List Loc) (ls : Array Slot), va_P D classes [(x_a, .inr (11, [.ref t_a, .ref c_a, .ref d_a, .ref s_a, .ref u_a, .ref q_a, .ref i_a, .ref k_a, .ref w_a, .ref n_a, .long x_asked])), (s_a, .inr (8, [.int s_tick, .int s_every, .int s_round, .int s_inside, .ref s_a_up, .ref s_a_due, .ref s_a_wind])), (s_a_up, .inl (cI, 6, .inl s_up)), (s_a_due, .inl (cI, 6, .inl s_due)), (s_a_wind, .inl (cI, 6, .inl s_wind)), (u_a, .inr (8, [.int u_tick', .int u_every', .int u_round', .int u_inside', .ref u_a_up, .ref u_a_due, .ref u_a_wind])), (u_a_up, .inl (cI, 6, .inl u_up')), (u_a_due, .inl (cI, 6, .inl u_due')), (u_a_wind, .inl (cI, 6, .inl u_wind')), (c_a, .inr (1, [.int c_every, .int c_size, .ref c_a_period, .ref c_a_hang, .ref c_a_start, .ref c_a_wind])), (c_a_period, .inl (cI, 6, .inl c_period)), (c_a_hang, .inl (cI, 6, .inl c_hang))] H → va_D A [(x_a, .inr (11, [.ref t_a, .ref c_a, .ref d_a, .ref s_a, .ref u_a, .ref q_a, .ref i_a, .ref k_a, .ref w_a, .ref n_a, .long x_asked])), (s_a, .inr (8, [.int s_tick, .int s_every, .int s_round, .int s_inside, .ref s_a_up, .ref s_a_due, .ref s_a_wind])), (s_a_up, .inl (cI, 6, .inl s_up)), (s_a_due, .inl (cI, 6, .inl s_due)), (s_a_wind, .inl (cI, 6, .inl s_wind)), (u_a, .inr (8, [.int u_tick', .int u_every', .int u_round', .int u_inside', .ref u_a_up, .ref u_a_due, .ref u_a_wind])), (u_a_up, .inl (cI, 6, .inl u_up')), (u_a_due, .inl (cI, 6, .inl u_due')), (u_a_wind, .inl (cI, 6, .inl u_wind')), (c_a, .inr (1, [.int c_every, .int c_size, .ref c_a_period, .ref c_a_hang, .ref c_a_start, .ref c_a_wind])), (c_a_period, .inl (cI, 6, .inl c_period)), (c_a_hang, .inl (cI, 6, .inl c_hang))] → va_S A s.heap H locs → lv_has ls 7 [(0, .ref x_a), (1, .int v1), (2, .int v2), (3, .int v3), (4, .int v4'), (5, .int v5'), (6, .int v6')] → W p l e { frames := 6, cells := 0, slots := 0, locals := 134 } s m [.ref x_a, .int p1, .int p2, .int p3].toArray below meth c H locs 0 0 (zFi below [.ref x_a, .int p1, .int p2, .int p3] s A D (TYS cI cZ cS cJ) [(x_a, .inr (11, [.ref t_a, .ref c_a, .ref d_a, .ref s_a, .ref u_a, .ref q_a, .ref i_a, .ref k_a, .ref w_a, .ref n_a, .long x_asked])), (s_a, .inr (8, [.int s_tick, .int s_every, .int s_round, .int s_inside, .ref s_a_up, .ref s_a_due, .ref s_a_wind])), (s_a_up, .inl (cI, 6, .inl s_up)), (s_a_due, .inl (cI, 6, .inl s_due)), (s_a_wind, .inl (cI, 6, .inl s_wind)), (u_a, .inr (8, [.int u_tick_o, .int u_every_o, .int u_round_o, .int u_inside_o, .ref u_a_up, .ref u_a_due, .ref u_a_wind])), (u_a_up, .inl (cI, 6, .inl u_up_o)), (u_a_due, .inl (cI, 6, .inl u_due_o)), (u_a_wind, .inl (cI, 6, .inl u_wind_o)), (c_a, .inr (1, [.int c_every, .int c_size, .ref c_a_period, .ref c_a_hang, .ref c_a_start, .ref c_a_wind])), (c_a_period, .inl (cI, 6, .inl c_period)), (c_a_hang, .inl (cI, 6, .inl c_hang))] r_o) (F0 m 90 ls [])) → W p l e { frames := 6, cells := 0, slots := 0, locals := 134 } s m [.ref x_a, .int p1, .int p2, .int p3].toArray below meth c H locs 0 0 (zFi below [.ref x_a, .int p1, .int p2, .int p3] s A D (TYS cI cZ cS cJ) [(x_a, .inr (11, [.ref t_a, .ref c_a, .ref d_a, .ref s_a, .ref u_a, .ref q_a, .ref i_a, .ref k_a, .ref w_a, .ref n_a, .long x_asked])), (s_a, .inr (8, [.int s_tick, .int s_every, .int s_round, .int s_inside, .ref s_a_up, .ref s_a_due, .ref s_a_wind])), (s_a_up, .inl (cI, 6, .inl s_up)), (s_a_due, .inl (cI, 6, .inl s_due)), (s_a_wind, .inl (cI, 6, .inl s_wind)), (u_a, .inr (8, [.int u_tick_o, .int u_every_o, .int u_round_o, .int u_inside_o, .ref u_a_up, .ref u_a_due, .ref u_a_wind])), (u_a_up, .inl (cI, 6, .inl u_up_o)), (u_a_due, .inl (cI, 6, .inl u_due_o)), (u_a_wind, .inl (cI, 6, .inl u_wind_o)), (c_a, .inr (1, [.int c_every, .int c_size, .ref c_a_period, .ref c_a_hang, .ref c_a_start, .ref c_a_wind])), (c_a_period, .inl (cI, 6, .inl c_period)), (c_a_hang, .inl (cI, 6, .inl c_hang))] r_o) (F0 m 40 ls []) := by
    intro n
    induction n with
    | zero =>
      intro x_asked s_tick s_every s_round s_inside s_up s_due s_wind u_tick u_every u_round u_inside u_up u_due u_wind c_every c_size c_period c_hang v1 v2 v3 v4 v5 v6 u_tick' u_every' u_round' u_inside' u_up' u_due' u_wind' v4' v5' v6' hF
      rw [L_X11_odds_40_z] at hF
      cases hF
    | succ n ih_40 =>
      intro x_asked s_tick s_every s_round s_inside s_up s_due s_wind u_tick u_every u_round u_inside u_up u_due u_wind c_every c_size c_period c_hang v1 v2 v3 v4 v5 v6 u_tick' u_every' u_round' u_inside' u_up' u_due' u_wind' v4' v5' v6' hF H locs ls hP hD hS hl hexit_40
      rw [L_X11_odds_40_s] at hF
      refine lv_iload hx hb dX11_odds_40 (lv_at hl 6 rfl) ?_
      refine lv_aload_n hx hb dX11_odds_42 rfl (lv_at hl 0 rfl) ?_
      refine va_get (D := D) (ci := 11) (v := .ref c_a) (C := RX11) (T := TX11) (N := 11) hx hb ht iyX11 hown hK hP 0 rfl rfl 1 (by decide) (ht _ wf_X11_19) (fun _ h9 => h9) rfl dX11_odds_43 ?_
      refine va_get (D := D) (ci := 1) (v := .int c_size) (C := RX1) (T := TX1) (N := 6) hx hb ht iyX1 hown hK hP 9 rfl rfl 1 (by decide) (ht _ wf_X11_183) (fun _ h9 => h9) rfl dX11_odds_46 ?_
      refine lv_icmp_ge (tgt := 90) hx hb dX11_odds_49 (by decide) (fun c_20 => ?_) (fun c_20 => ?_)
      · have hF := zi_pos c_20 hF
        obtain ⟨e_0, e_1, e_2, e_3, e_4, e_5, e_6, e_7, e_8, e_9⟩ := zo10 hF
        subst e_0
        subst e_1
        subst e_2
        subst e_3
        subst e_4
        subst e_5
        subst e_6
        subst e_7
        subst e_8
        subst e_9
        exact hexit_40 _ _ _ hP hD hS (lv_sub hl [0, 1, 2, 3, 4, 5, 6] rfl)
      · have hF := zi_neg c_20 hF
        refine lv_aload_n hx hb dX11_odds_52 rfl (lv_at hl 0 rfl) ?_
        refine va_get (D := D) (ci := 11) (v := .ref s_a) (C := RX11) (T := TX11) (N := 11) hx hb ht iyX11 hown hK hP 0 rfl rfl 3 (by decide) (ht _ wf_X11_29) (fun _ h9 => h9) rfl dX11_odds_53 ?_
        refine lv_iload hx hb dX11_odds_56 (lv_at hl 6 rfl) ?_
        obtain ⟨r_21, hc_22, hF⟩ := zb1_s hF
        refine zcv_i (ws1 := [(x_a, .inr (11, [.ref t_a, .ref c_a, .ref d_a, .ref s_a, .ref u_a, .ref q_a, .ref i_a, .ref k_a, .ref w_a, .ref n_a, .long x_asked])), (s_a, .inr (8, [.int s_tick, .int s_every, .int s_round, .int s_inside, .ref s_a_up, .ref s_a_due, .ref s_a_wind])), (s_a_up, .inl (cI, 6, .inl s_up)), (s_a_due, .inl (cI, 6, .inl s_due)), (s_a_wind, .inl (cI, 6, .inl s_wind)), (u_a, .inr (8, [.int u_tick, .int u_every, .int u_round, .int u_inside, .ref u_a_up, .ref u_a_due, .ref u_a_wind])), (u_a_up, .inl (cI, 6, .inl u_up)), (u_a_due, .inl (cI, 6, .inl u_due)), (u_a_wind, .inl (cI, 6, .inl u_wind)), (c_a, .inr (1, [.int c_every, .int c_size, .ref c_a_period, .ref c_a_hang, .ref c_a_start, .ref c_a_wind])), (c_a_period, .inl (cI, 6, .inl c_period)), (c_a_hang, .inl (cI, 6, .inl c_hang))]) S hT lk_X11_116 (c_X8_holds l D cI cZ cS cJ s_a s_a_up s_a_due s_a_wind s_tick s_every s_round s_inside v6 hc_22) ⟨rfl, rfl, Nat.le_of_ble_eq_true rfl, Nat.le_of_ble_eq_true rfl⟩ hK hP hD hS hA [1] [0, 2, 3, 4, 5, 6, 7, 8, 9, 10, 11] [0, 11, 1, 2, 3, 4, 5, 6, 7, 8, 9, 10] rfl rfl rfl rfl rfl rfl rfl rfl rfl rfl rfl hl.1 rfl (Nat.le_of_ble_eq_true rfl) dX11_odds_58 ⟨Nat.zero_le _, Nat.zero_le _⟩ (fun H locs hP hD hS => ?_)
        refine lv_if_eq (tgt := 84) hx hb dX11_odds_61 (by decide) (fun c_23 => ?_) (fun c_23 => ?_)
        · have hF := zi_pos c_23 hF
          refine lv_iinc (v := v6 + 1) (lv' := [(6, .int (v6 + 1)), (0, .ref x_a), (1, .int v1), (2, .int v2), (3, .int v3), (4, .int v4), (5, .int v5)]) hx hb dX11_odds_84 hl (k := 6) rfl (by rfl) (by decide) rfl (fun ls hl => ?_)
          refine lv_goto (tgt := 40) hx hb dX11_odds_87 (by decide) ?_
          exact ih_40 x_asked s_tick s_every s_round s_inside s_up s_due s_wind u_tick u_every u_round u_inside u_up u_due u_wind c_every c_size c_period c_hang v1 v2 v3 v4 v5 (v6 + 1) _ _ _ _ _ _ _ _ _ _ hF _ _ _ hP hD hS (lv_sub hl [1, 2, 3, 4, 5, 6, 0] rfl) hexit_40
        · have hF := zi_neg c_23 hF
          refine lv_iload hx hb dX11_odds_64 (lv_at hl 4 rfl) ?_
          refine lv_aload_n hx hb dX11_odds_66 rfl (lv_at hl 0 rfl) ?_
          refine lv_iload hx hb dX11_odds_67 (lv_at hl 6 rfl) ?_
          refine lv_iload_n hx hb dX11_odds_69 rfl (lv_at hl 1 rfl) ?_
          refine lv_iload_n hx hb dX11_odds_70 rfl (lv_at hl 2 rfl) ?_
          obtain ⟨r_24, u_tick_25, u_every_26, u_round_27, u_inside_28, u_up_29, u_due_30, u_wind_31, hc_32, hF⟩ := zb8_s hF
          refine zcv_i (ws1 := [(x_a, .inr (11, [.ref t_a, .ref c_a, .ref d_a, .ref s_a, .ref u_a, .ref q_a, .ref i_a, .ref k_a, .ref w_a, .ref n_a, .long x_asked])), (s_a, .inr (8, [.int s_tick, .int s_every, .int s_round, .int s_inside, .ref s_a_up, .ref s_a_due, .ref s_a_wind])), (s_a_up, .inl (cI, 6, .inl s_up)), (s_a_due, .inl (cI, 6, .inl s_due)), (s_a_wind, .inl (cI, 6, .inl s_wind)), (u_a, .inr (8, [.int u_tick_25, .int u_every_26, .int u_round_27, .int u_inside_28, .ref u_a_up, .ref u_a_due, .ref u_a_wind])), (u_a_up, .inl (cI, 6, .inl u_up_29)), (u_a_due, .inl (cI, 6, .inl u_due_30)), (u_a_wind, .inl (cI, 6, .inl u_wind_31)), (c_a, .inr (1, [.int c_every, .int c_size, .ref c_a_period, .ref c_a_hang, .ref c_a_start, .ref c_a_wind])), (c_a_period, .inl (cI, 6, .inl c_period)), (c_a_hang, .inl (cI, 6, .inl c_hang))]) S hT lk_X11_184 (c_X11_tenthsThatStay l D cI cZ cS cJ x_a t_a c_a d_a s_a u_a q_a i_a k_a w_a n_a s_a_up s_a_due s_a_wind u_a_up u_a_due u_a_wind c_a_period c_a_hang c_a_start c_a_wind x_asked s_tick s_every s_round s_inside s_up s_due s_wind u_tick u_every u_round u_inside u_up u_due u_wind c_every c_size c_period c_hang v6 v1 v2 hc_32) ⟨rfl, rfl, Nat.le_of_ble_eq_true rfl, Nat.le_of_ble_eq_true rfl⟩ hK hP hD hS hA [0, 1, 2, 3, 4, 5, 6, 7, 8, 9, 10, 11] [] [0, 1, 2, 3, 4, 5, 6, 7, 8, 9, 10, 11] rfl rfl rfl rfl rfl rfl rfl rfl rfl rfl rfl hl.1 rfl (Nat.le_of_ble_eq_true rfl) dX11_odds_71 ⟨Nat.zero_le _, Nat.zero_le _⟩ (fun H locs hP hD hS => ?_)
          refine lv_imul hx hb dX11_odds_74 ?_
          refine lv_istore (lv' := [(4, .int (v4 * r_24)), (0, .ref x_a), (1, .int v1), (2, .int v2), (3, .int v3), (5, .int v5), (6, .int v6)]) hx hb dX11_odds_75 hl (by decide) rfl (fun ls hl => ?_)
          refine lv_iload hx hb dX11_odds_77 (lv_at hl 5 rfl) ?_
          refine lv_bipush (v := 10) hx hb dX11_odds_79 (by decide) ?_
          refine lv_imul hx hb dX11_odds_81 ?_
          refine lv_istore (lv' := [(5, .int (v5 * 10)), (4, .int (v4 * r_24)), (0, .ref x_a), (1, .int v1), (2, .int v2), (3, .int v3), (6, .int v6)]) hx hb dX11_odds_82 hl (by decide) rfl (fun ls hl => ?_)
          refine lv_iinc (v := v6 + 1) (lv' := [(6, .int (v6 + 1)), (5, .int (v5 * 10)), (4, .int (v4 * r_24)), (0, .ref x_a), (1, .int v1), (2, .int v2), (3, .int v3)]) hx hb dX11_odds_84 hl (k := 6) rfl (by rfl) (by decide) rfl (fun ls hl => ?_)
          refine lv_goto (tgt := 40) hx hb dX11_odds_87 (by decide) ?_
          exact ih_40 x_asked s_tick s_every s_round s_inside s_up s_due s_wind u_tick_25 u_every_26 u_round_27 u_inside_28 u_up_29 u_due_30 u_wind_31 c_every c_size c_period c_hang v1 v2 v3 (v4 * r_24) (v5 * 10) (v6 + 1) _ _ _ _ _ _ _ _ _ _ hF _ _ _ hP hD hS (lv_sub hl [3, 4, 5, 6, 2, 1, 0] rfl) hexit_40
  refine lv_iload_n hx hb dX11_odds_0 rfl (lv_at hl 1 rfl) ?_
  refine lv_if_lt (tgt := 29) hx hb dX11_odds_1 (by decide) (fun c_1 => ?_) (fun c_1 => ?_)
  · have hF := zi_pos c_1 hF
    refine lv_iconst (v := (-1)) hx hb dX11_odds_29 (by decide) ?_
    obtain ⟨e_0, e_1, e_2, e_3, e_4, e_5, e_6, e_7⟩ := zo8 hF
    subst e_0
    subst e_1
    subst e_2
    subst e_3
    subst e_4
    subst e_5
    subst e_6
    subst e_7
    exact zret_i S hr hlocks hK hP hD hS dX11_odds_30
  · have hF := zi_neg c_1 hF
    refine lv_iload_n hx hb dX11_odds_4 rfl (lv_at hl 1 rfl) ?_
    refine lv_bipush (v := 10) hx hb dX11_odds_5 (by decide) ?_
    refine lv_icmp_gt (tgt := 29) hx hb dX11_odds_7 (by decide) (fun c_2 => ?_) (fun c_2 => ?_)
    · have hF := zi_pos c_2 hF
      refine lv_iconst (v := (-1)) hx hb dX11_odds_29 (by decide) ?_
      obtain ⟨e_0, e_1, e_2, e_3, e_4, e_5, e_6, e_7⟩ := zo8 hF
      subst e_0
      subst e_1
      subst e_2
      subst e_3
      subst e_4
      subst e_5
      subst e_6
      subst e_7
      exact zret_i S hr hlocks hK hP hD hS dX11_odds_30
    · have hF := zi_neg c_2 hF
      refine lv_iload_n hx hb dX11_odds_10 rfl (lv_at hl 2 rfl) ?_
      refine lv_if_lt (tgt := 29) hx hb dX11_odds_11 (by decide) (fun c_3 => ?_) (fun c_3 => ?_)
      · have hF := zi_pos c_3 hF
        refine lv_iconst (v := (-1)) hx hb dX11_odds_29 (by decide) ?_
        obtain ⟨e_0, e_1, e_2, e_3, e_4, e_5, e_6, e_7⟩ := zo8 hF
        subst e_0
        subst e_1
        subst e_2
        subst e_3
        subst e_4
        subst e_5
        subst e_6
        subst e_7
        exact zret_i S hr hlocks hK hP hD hS dX11_odds_30
      · have hF := zi_neg c_3 hF
        refine lv_iload_n hx hb dX11_odds_14 rfl (lv_at hl 2 rfl) ?_
        refine lv_bipush (v := 60) hx hb dX11_odds_15 (by decide) ?_
        refine lv_icmp_gt (tgt := 29) hx hb dX11_odds_17 (by decide) (fun c_4 => ?_) (fun c_4 => ?_)
        · have hF := zi_pos c_4 hF
          refine lv_iconst (v := (-1)) hx hb dX11_odds_29 (by decide) ?_
          obtain ⟨e_0, e_1, e_2, e_3, e_4, e_5, e_6, e_7⟩ := zo8 hF
          subst e_0
          subst e_1
          subst e_2
          subst e_3
          subst e_4
          subst e_5
          subst e_6
          subst e_7
          exact zret_i S hr hlocks hK hP hD hS dX11_odds_30
        · have hF := zi_neg c_4 hF
          refine lv_iload_n hx hb dX11_odds_20 rfl (lv_at hl 3 rfl) ?_
          refine lv_if_lt (tgt := 29) hx hb dX11_odds_21 (by decide) (fun c_5 => ?_) (fun c_5 => ?_)
          · have hF := zi_pos c_5 hF
            refine lv_iconst (v := (-1)) hx hb dX11_odds_29 (by decide) ?_
            obtain ⟨e_0, e_1, e_2, e_3, e_4, e_5, e_6, e_7⟩ := zo8 hF
            subst e_0
            subst e_1
            subst e_2
            subst e_3
            subst e_4
            subst e_5
            subst e_6
            subst e_7
            exact zret_i S hr hlocks hK hP hD hS dX11_odds_30
          · have hF := zi_neg c_5 hF
            refine lv_iload_n hx hb dX11_odds_24 rfl (lv_at hl 3 rfl) ?_
            refine lv_iconst (v := 1) hx hb dX11_odds_25 (by decide) ?_
            refine lv_icmp_le (tgt := 31) hx hb dX11_odds_26 (by decide) (fun c_6 => ?_) (fun c_6 => ?_)
            · have hF := zi_pos c_6 hF
              refine lv_iconst (v := 1) hx hb dX11_odds_31 (by decide) ?_
              refine lv_istore (lv' := [(4, .int 1), (0, .ref x_a), (1, .int p1), (2, .int p2), (3, .int p3)]) hx hb dX11_odds_32 hl (by decide) rfl (fun ls hl => ?_)
              refine lv_iconst (v := 1) hx hb dX11_odds_34 (by decide) ?_
              refine lv_istore (lv' := [(5, .int 1), (4, .int 1), (0, .ref x_a), (1, .int p1), (2, .int p2), (3, .int p3)]) hx hb dX11_odds_35 hl (by decide) rfl (fun ls hl => ?_)
              refine lv_iconst (v := 0) hx hb dX11_odds_37 (by decide) ?_
              refine lv_istore (lv' := [(6, .int 0), (5, .int 1), (4, .int 1), (0, .ref x_a), (1, .int p1), (2, .int p2), (3, .int p3)]) hx hb dX11_odds_38 hl (by decide) rfl (fun ls hl => ?_)
              obtain ⟨u_tick_33, u_every_34, u_round_35, u_inside_36, u_up_37, u_due_38, u_wind_39, v4_40, v5_41, v6_42, hL_43, hF⟩ := zb10_s hF
              refine hloop_40 300 x_asked s_tick s_every s_round s_inside s_up s_due s_wind u_tick u_every u_round u_inside u_up u_due u_wind c_every c_size c_period c_hang p1 p2 p3 1 1 0 u_tick_33 u_every_34 u_round_35 u_inside_36 u_up_37 u_due_38 u_wind_39 v4_40 v5_41 v6_42 hL_43 _ _ _ hP hD hS (lv_sub hl [3, 4, 5, 6, 2, 1, 0] rfl) (fun H locs ls hP hD hS hl => ?_)
              refine lv_iload hx hb dX11_odds_90 (lv_at hl 4 rfl) ?_
              refine lv_iload hx hb dX11_odds_92 (lv_at hl 5 rfl) ?_
              obtain ⟨r_44, hc_45, hF⟩ := zb1_s hF
              refine zcs_i (ws1 := [(x_a, .inr (11, [.ref t_a, .ref c_a, .ref d_a, .ref s_a, .ref u_a, .ref q_a, .ref i_a, .ref k_a, .ref w_a, .ref n_a, .long x_asked])), (s_a, .inr (8, [.int s_tick, .int s_every, .int s_round, .int s_inside, .ref s_a_up, .ref s_a_due, .ref s_a_wind])), (s_a_up, .inl (cI, 6, .inl s_up)), (s_a_due, .inl (cI, 6, .inl s_due)), (s_a_wind, .inl (cI, 6, .inl s_wind)), (u_a, .inr (8, [.int u_tick_33, .int u_every_34, .int u_round_35, .int u_inside_36, .ref u_a_up, .ref u_a_due, .ref u_a_wind])), (u_a_up, .inl (cI, 6, .inl u_up_37)), (u_a_due, .inl (cI, 6, .inl u_due_38)), (u_a_wind, .inl (cI, 6, .inl u_wind_39)), (c_a, .inr (1, [.int c_every, .int c_size, .ref c_a_period, .ref c_a_hang, .ref c_a_start, .ref c_a_wind])), (c_a_period, .inl (cI, 6, .inl c_period)), (c_a_hang, .inl (cI, 6, .inl c_hang))]) S hT lk_X11_188 (c_X11_commonDivisor l D cI cZ cS cJ v4_40 v5_41 hc_45) ⟨rfl, rfl, Nat.le_of_ble_eq_true rfl, Nat.le_of_ble_eq_true rfl⟩ hK hP hD hS hA [] [0, 1, 2, 3, 4, 5, 6, 7, 8, 9, 10, 11] [0, 1, 2, 3, 4, 5, 6, 7, 8, 9, 10, 11] rfl rfl rfl rfl rfl rfl rfl rfl hl.1 rfl (Nat.le_of_ble_eq_true rfl) dX11_odds_94 ⟨Nat.zero_le _, Nat.zero_le _⟩ (fun H locs hP hD hS => ?_)
              refine lv_istore (lv' := [(6, .int r_44), (0, .ref x_a), (1, .int p1), (2, .int p2), (3, .int p3), (4, .int v4_40), (5, .int v5_41)]) hx hb dX11_odds_97 hl (by decide) rfl (fun ls hl => ?_)
              refine lv_iload hx hb dX11_odds_99 (lv_at hl 0 rfl) ?_
              refine lv_if_gt (tgt := 106) hx hb dX11_odds_101 (by decide) (fun c_46 => ?_) (fun c_46 => ?_)
              · have hF := zi_pos c_46 hF
                refine lv_iload_n hx hb dX11_odds_106 rfl (lv_at hl 4 rfl) ?_
                refine lv_if_ne (tgt := 118) hx hb dX11_odds_107 (by decide) (fun c_47 => ?_) (fun c_47 => ?_)
                · have hF := zi_neg c_47 hF
                  refine lv_iload hx hb dX11_odds_118 (lv_at hl 6 rfl) ?_
                  refine lv_iload hx hb dX11_odds_120 (lv_at hl 0 rfl) ?_
                  obtain ⟨h_48, hF⟩ := zi_chk hF
                  refine lv_idiv hx hb dX11_odds_122 h_48 ?_
                  obtain ⟨e_0, e_1, e_2, e_3, e_4, e_5, e_6, e_7⟩ := zo8 hF
                  subst e_0
                  subst e_1
                  subst e_2
                  subst e_3
                  subst e_4
                  subst e_5
                  subst e_6
                  subst e_7
                  exact zret_i S hr hlocks hK hP hD hS dX11_odds_123
                · have hF := zi_pos c_47 hF
                  refine lv_iload hx hb dX11_odds_110 (lv_at hl 5 rfl) ?_
                  refine lv_iload hx hb dX11_odds_112 (lv_at hl 0 rfl) ?_
                  obtain ⟨h_49, hF⟩ := zi_chk hF
                  refine lv_idiv hx hb dX11_odds_114 h_49 ?_
                  refine lv_goto (tgt := 123) hx hb dX11_odds_115 (by decide) ?_
                  obtain ⟨e_0, e_1, e_2, e_3, e_4, e_5, e_6, e_7⟩ := zo8 hF
                  subst e_0
                  subst e_1
                  subst e_2
                  subst e_3
                  subst e_4
                  subst e_5
                  subst e_6
                  subst e_7
                  exact zret_i S hr hlocks hK hP hD hS dX11_odds_123
              · have hF := zi_neg c_46 hF
                refine lv_iconst (v := (-1)) hx hb dX11_odds_104 (by decide) ?_
                obtain ⟨e_0, e_1, e_2, e_3, e_4, e_5, e_6, e_7⟩ := zo8 hF
                subst e_0
                subst e_1
                subst e_2
                subst e_3
                subst e_4
                subst e_5
                subst e_6
                subst e_7
                exact zret_i S hr hlocks hK hP hD hS dX11_odds_105
            · have hF := zi_neg c_6 hF
              refine lv_iconst (v := (-1)) hx hb dX11_odds_29 (by decide) ?_
              obtain ⟨e_0, e_1, e_2, e_3, e_4, e_5, e_6, e_7⟩ := zo8 hF
              subst e_0
              subst e_1
              subst e_2
              subst e_3
              subst e_4
              subst e_5
              subst e_6
              subst e_7
              exact zret_i S hr hlocks hK hP hD hS dX11_odds_30

theorem lk_X11_192 : zLs RX11 192 yX11_isNoHang cX11_isNoHang 1 (some .boolean) 1 := ⟨⟨wm_X11_192, ws_X11_isNoHang, wi_X11, wd_X11_isNoHang⟩, by decide, by decide, by decide +kernel⟩
theorem lk_X11_195 : zLk RX11 195 yX9_add cX9_add 4 none 3 := ⟨⟨wm_X11_195, wo_X9_add, we_X9_X9_add, wi_X9, wd_X9_add⟩, by decide, by decide, by decide +kernel⟩
def F_X11_sees (w_size : Int32) (w_hangs : Nat → Int32) (w_ticksSeen : Nat → Int32) (w_ups : Nat → Int32) (p1 : Int32) (p2 : Int32) (p3 : Int32) : Option (Int32 × Int32 × (Nat → Int32) × (Nat → Int32) × (Nat → Int32)) :=
  (zb1 (F_X11_isNoHang p1) (fun r_1 => (if r_1 = 0 then (if p2 < 0 then some ((-1), w_size, w_hangs, w_ticksSeen, w_ups) else (if 40 < p2 then some ((-1), w_size, w_hangs, w_ticksSeen, w_ups) else (if p3 < 0 then some ((-1), w_size, w_hangs, w_ticksSeen, w_ups) else (if p3 ≤ 1 then (if w_size < 6 then (if p3 = 1 then (zb4 (F_X9_add w_size w_hangs w_ticksSeen w_ups p1 p2 1) (fun w_size_15 w_hangs_16 w_ticksSeen_17 w_ups_18 => some (w_size_15, w_size_15, w_hangs_16, w_ticksSeen_17, w_ups_18))) else (zb4 (F_X9_add w_size w_hangs w_ticksSeen w_ups p1 p2 0) (fun w_size_10 w_hangs_11 w_ticksSeen_12 w_ups_13 => some (w_size_10, w_size_10, w_hangs_11, w_ticksSeen_12, w_ups_13)))) else some ((-3), w_size, w_hangs, w_ticksSeen, w_ups)) else some ((-1), w_size, w_hangs, w_ticksSeen, w_ups))))) else some ((-1), w_size, w_hangs, w_ticksSeen, w_ups))))
set_option maxHeartbeats 4000000 in
set_option maxRecDepth 100000 in
theorem c_X11_sees (l : Launch) (D : va_G) (cI cZ cS cJ : ClassId) (x_a : Nat) (t_a : Nat) (c_a : Nat) (d_a : Nat) (s_a : Nat) (u_a : Nat) (q_a : Nat) (i_a : Nat) (k_a : Nat) (w_a : Nat) (n_a : Nat) (w_a_hangs : Nat) (w_a_ticksSeen : Nat) (w_a_ups : Nat) (w_a_periods : Nat) (w_a_starts : Nat) (x_asked : Int64) (w_size : Int32) (w_found : Int32) (w_hangs : Nat → Int32) (w_ticksSeen : Nat → Int32) (w_ups : Nat → Int32) (p1 : Int32) (p2 : Int32) (p3 : Int32) {r_o : Int32} {w_size_o : Int32} {w_hangs_o : Nat → Int32} {w_ticksSeen_o : Nat → Int32} {w_ups_o : Nat → Int32} (hF : F_X11_sees w_size w_hangs w_ticksSeen w_ups p1 p2 p3 = some (r_o, w_size_o, w_hangs_o, w_ticksSeen_o, w_ups_o)) : zMi l yX11_sees (zwl yX11_sees cX11_sees 4 (some .int)) { frames := 1, cells := 0, slots := 0, locals := 23 } D (TYS cI cZ cS cJ) [.ref x_a, .int p1, .int p2, .int p3] [(x_a, .inr (11, [.ref t_a, .ref c_a, .ref d_a, .ref s_a, .ref u_a, .ref q_a, .ref i_a, .ref k_a, .ref w_a, .ref n_a, .long x_asked])), (w_a, .inr (9, [.int w_size, .ref w_a_hangs, .ref w_a_ticksSeen, .ref w_a_ups, .int w_found, .ref w_a_periods, .ref w_a_starts])), (w_a_hangs, .inl (cI, 6, .inl w_hangs)), (w_a_ticksSeen, .inl (cI, 6, .inl w_ticksSeen)), (w_a_ups, .inl (cZ, 6, .inl w_ups))] [(x_a, .inr (11, [.ref t_a, .ref c_a, .ref d_a, .ref s_a, .ref u_a, .ref q_a, .ref i_a, .ref k_a, .ref w_a, .ref n_a, .long x_asked])), (w_a, .inr (9, [.int w_size_o, .ref w_a_hangs, .ref w_a_ticksSeen, .ref w_a_ups, .int w_found, .ref w_a_periods, .ref w_a_starts])), (w_a_hangs, .inl (cI, 6, .inl w_hangs_o)), (w_a_ticksSeen, .inl (cI, 6, .inl w_ticksSeen_o)), (w_a_ups, .inl (cZ, 6, .inl w_ups_o))] r_o := by
  refine zent_i (own := RX11) (by decide) rfl (Nat.le_of_ble_eq_true rfl) ?_
  intro p e s m below meth c A ls S hr hlocks hK hP hD hA hl
  have hx := S.1
  have hb := S.2.1
  have hml := S.2.2.1
  have hown := S.2.2.2.1
  have hT : ∀ w ∈ zt, w ∈ zwl yX11_sees cX11_sees 4 (some .int) := fun _ h => List.mem_cons_of_mem _ h
  have ht : ∀ w ∈ zt, w.before [.ref x_a, .int p1, .int p2, .int p3].toArray s = true := fun w h => S.2.2.2.2 w (hT w h)
  have hl : lv_has ls 4 [(0, .ref x_a), (1, .int p1), (2, .int p2), (3, .int p3)] := hl
  have hS : va_S A s.heap s.heap [] := va_S.rf
  unfold F_X11_sees at hF
  refine lv_iload_n hx hb dX11_sees_0 rfl (lv_at hl 1 rfl) ?_
  obtain ⟨r_1, hc_2, hF⟩ := zb1_s hF
  refine zcs_i (ws1 := [(x_a, .inr (11, [.ref t_a, .ref c_a, .ref d_a, .ref s_a, .ref u_a, .ref q_a, .ref i_a, .ref k_a, .ref w_a, .ref n_a, .long x_asked])), (w_a, .inr (9, [.int w_size, .ref w_a_hangs, .ref w_a_ticksSeen, .ref w_a_ups, .int w_found, .ref w_a_periods, .ref w_a_starts])), (w_a_hangs, .inl (cI, 6, .inl w_hangs)), (w_a_ticksSeen, .inl (cI, 6, .inl w_ticksSeen)), (w_a_ups, .inl (cZ, 6, .inl w_ups))]) S hT lk_X11_192 (c_X11_isNoHang l D cI cZ cS cJ p1 hc_2) ⟨rfl, rfl, Nat.le_of_ble_eq_true rfl, Nat.le_of_ble_eq_true rfl⟩ hK hP hD hS hA [] [0, 1, 2, 3, 4] [0, 1, 2, 3, 4] rfl rfl rfl rfl rfl rfl rfl rfl hl.1 rfl (Nat.le_of_ble_eq_true rfl) dX11_sees_1 ⟨Nat.zero_le _, Nat.zero_le _⟩ (fun H locs hP hD hS => ?_)
  refine lv_if_ne (tgt := 26) hx hb dX11_sees_4 (by decide) (fun c_3 => ?_) (fun c_3 => ?_)
  · have hF := zi_neg c_3 hF
    refine lv_iconst (v := (-1)) hx hb dX11_sees_26 (by decide) ?_
    obtain ⟨e_0, e_1, e_2, e_3, e_4⟩ := zo5 hF
    subst e_0
    subst e_1
    subst e_2
    subst e_3
    subst e_4
    exact zret_i S hr hlocks hK hP hD hS dX11_sees_27
  · have hF := zi_pos c_3 hF
    refine lv_iload_n hx hb dX11_sees_7 rfl (lv_at hl 2 rfl) ?_
    refine lv_if_lt (tgt := 26) hx hb dX11_sees_8 (by decide) (fun c_4 => ?_) (fun c_4 => ?_)
    · have hF := zi_pos c_4 hF
      refine lv_iconst (v := (-1)) hx hb dX11_sees_26 (by decide) ?_
      obtain ⟨e_0, e_1, e_2, e_3, e_4⟩ := zo5 hF
      subst e_0
      subst e_1
      subst e_2
      subst e_3
      subst e_4
      exact zret_i S hr hlocks hK hP hD hS dX11_sees_27
    · have hF := zi_neg c_4 hF
      refine lv_iload_n hx hb dX11_sees_11 rfl (lv_at hl 2 rfl) ?_
      refine lv_bipush (v := 40) hx hb dX11_sees_12 (by decide) ?_
      refine lv_icmp_gt (tgt := 26) hx hb dX11_sees_14 (by decide) (fun c_5 => ?_) (fun c_5 => ?_)
      · have hF := zi_pos c_5 hF
        refine lv_iconst (v := (-1)) hx hb dX11_sees_26 (by decide) ?_
        obtain ⟨e_0, e_1, e_2, e_3, e_4⟩ := zo5 hF
        subst e_0
        subst e_1
        subst e_2
        subst e_3
        subst e_4
        exact zret_i S hr hlocks hK hP hD hS dX11_sees_27
      · have hF := zi_neg c_5 hF
        refine lv_iload_n hx hb dX11_sees_17 rfl (lv_at hl 3 rfl) ?_
        refine lv_if_lt (tgt := 26) hx hb dX11_sees_18 (by decide) (fun c_6 => ?_) (fun c_6 => ?_)
        · have hF := zi_pos c_6 hF
          refine lv_iconst (v := (-1)) hx hb dX11_sees_26 (by decide) ?_
          obtain ⟨e_0, e_1, e_2, e_3, e_4⟩ := zo5 hF
          subst e_0
          subst e_1
          subst e_2
          subst e_3
          subst e_4
          exact zret_i S hr hlocks hK hP hD hS dX11_sees_27
        · have hF := zi_neg c_6 hF
          refine lv_iload_n hx hb dX11_sees_21 rfl (lv_at hl 3 rfl) ?_
          refine lv_iconst (v := 1) hx hb dX11_sees_22 (by decide) ?_
          refine lv_icmp_le (tgt := 28) hx hb dX11_sees_23 (by decide) (fun c_7 => ?_) (fun c_7 => ?_)
          · have hF := zi_pos c_7 hF
            refine lv_aload_n hx hb dX11_sees_28 rfl (lv_at hl 0 rfl) ?_
            refine va_get (D := D) (ci := 11) (v := .ref w_a) (C := RX11) (T := TX11) (N := 11) hx hb ht iyX11 hown hK hP 0 rfl rfl 8 (by decide) (ht _ wf_X11_54) (fun _ h9 => h9) rfl dX11_sees_29 ?_
            refine va_get (D := D) (ci := 9) (v := .int w_size) (C := RX9) (T := TX9) (N := 7) hx hb ht iyX9 hown hK hP 1 rfl rfl 0 (by decide) (ht _ wf_X11_99) (fun _ h9 => h9) rfl dX11_sees_32 ?_
            refine lv_bipush (v := 6) hx hb dX11_sees_35 (by decide) ?_
            refine lv_icmp_lt (tgt := 43) hx hb dX11_sees_37 (by decide) (fun c_8 => ?_) (fun c_8 => ?_)
            · have hF := zi_pos c_8 hF
              refine lv_aload_n hx hb dX11_sees_43 rfl (lv_at hl 0 rfl) ?_
              refine va_get (D := D) (ci := 11) (v := .ref w_a) (C := RX11) (T := TX11) (N := 11) hx hb ht iyX11 hown hK hP 0 rfl rfl 8 (by decide) (ht _ wf_X11_54) (fun _ h9 => h9) rfl dX11_sees_44 ?_
              refine lv_iload_n hx hb dX11_sees_47 rfl (lv_at hl 1 rfl) ?_
              refine lv_iload_n hx hb dX11_sees_48 rfl (lv_at hl 2 rfl) ?_
              refine lv_iload_n hx hb dX11_sees_49 rfl (lv_at hl 3 rfl) ?_
              refine lv_iconst (v := 1) hx hb dX11_sees_50 (by decide) ?_
              refine lv_icmp_ne (tgt := 58) hx hb dX11_sees_51 (by decide) (fun c_9 => ?_) (fun c_9 => ?_)
              · have hF := zi_neg c_9 hF
                refine lv_iconst (v := 0) hx hb dX11_sees_58 (by decide) ?_
                obtain ⟨w_size_10, w_hangs_11, w_ticksSeen_12, w_ups_13, hc_14, hF⟩ := zb4_s hF
                refine zcv_v (ws1 := [(x_a, .inr (11, [.ref t_a, .ref c_a, .ref d_a, .ref s_a, .ref u_a, .ref q_a, .ref i_a, .ref k_a, .ref w_a, .ref n_a, .long x_asked])), (w_a, .inr (9, [.int w_size_10, .ref w_a_hangs, .ref w_a_ticksSeen, .ref w_a_ups, .int w_found, .ref w_a_periods, .ref w_a_starts])), (w_a_hangs, .inl (cI, 6, .inl w_hangs_11)), (w_a_ticksSeen, .inl (cI, 6, .inl w_ticksSeen_12)), (w_a_ups, .inl (cZ, 6, .inl w_ups_13))]) S hT lk_X11_195 (c_X9_add l D cI cZ cS cJ w_a w_a_hangs w_a_ticksSeen w_a_ups w_a_periods w_a_starts w_size w_found w_hangs w_ticksSeen w_ups p1 p2 0 hc_14) ⟨rfl, rfl, Nat.le_of_ble_eq_true rfl, Nat.le_of_ble_eq_true rfl⟩ hK hP hD hS hA [1, 2, 3, 4] [0] [0, 1, 2, 3, 4] rfl rfl rfl rfl rfl rfl rfl rfl rfl rfl rfl hl.1 rfl (Nat.le_of_ble_eq_true rfl) dX11_sees_59 ⟨Nat.zero_le _, Nat.zero_le _⟩ (fun H locs hP hD hS => ?_)
                refine lv_aload_n hx hb dX11_sees_62 rfl (lv_at hl 0 rfl) ?_
                refine va_get (D := D) (ci := 11) (v := .ref w_a) (C := RX11) (T := TX11) (N := 11) hx hb ht iyX11 hown hK hP 0 rfl rfl 8 (by decide) (ht _ wf_X11_54) (fun _ h9 => h9) rfl dX11_sees_63 ?_
                refine va_get (D := D) (ci := 9) (v := .int w_size_10) (C := RX9) (T := TX9) (N := 7) hx hb ht iyX9 hown hK hP 1 rfl rfl 0 (by decide) (ht _ wf_X11_99) (fun _ h9 => h9) rfl dX11_sees_66 ?_
                obtain ⟨e_0, e_1, e_2, e_3, e_4⟩ := zo5 hF
                subst e_0
                subst e_1
                subst e_2
                subst e_3
                subst e_4
                exact zret_i S hr hlocks hK hP hD hS dX11_sees_69
              · have hF := zi_pos c_9 hF
                refine lv_iconst (v := 1) hx hb dX11_sees_54 (by decide) ?_
                refine lv_goto (tgt := 59) hx hb dX11_sees_55 (by decide) ?_
                obtain ⟨w_size_15, w_hangs_16, w_ticksSeen_17, w_ups_18, hc_19, hF⟩ := zb4_s hF
                refine zcv_v (ws1 := [(x_a, .inr (11, [.ref t_a, .ref c_a, .ref d_a, .ref s_a, .ref u_a, .ref q_a, .ref i_a, .ref k_a, .ref w_a, .ref n_a, .long x_asked])), (w_a, .inr (9, [.int w_size_15, .ref w_a_hangs, .ref w_a_ticksSeen, .ref w_a_ups, .int w_found, .ref w_a_periods, .ref w_a_starts])), (w_a_hangs, .inl (cI, 6, .inl w_hangs_16)), (w_a_ticksSeen, .inl (cI, 6, .inl w_ticksSeen_17)), (w_a_ups, .inl (cZ, 6, .inl w_ups_18))]) S hT lk_X11_195 (c_X9_add l D cI cZ cS cJ w_a w_a_hangs w_a_ticksSeen w_a_ups w_a_periods w_a_starts w_size w_found w_hangs w_ticksSeen w_ups p1 p2 1 hc_19) ⟨rfl, rfl, Nat.le_of_ble_eq_true rfl, Nat.le_of_ble_eq_true rfl⟩ hK hP hD hS hA [1, 2, 3, 4] [0] [0, 1, 2, 3, 4] rfl rfl rfl rfl rfl rfl rfl rfl rfl rfl rfl hl.1 rfl (Nat.le_of_ble_eq_true rfl) dX11_sees_59 ⟨Nat.zero_le _, Nat.zero_le _⟩ (fun H locs hP hD hS => ?_)
                refine lv_aload_n hx hb dX11_sees_62 rfl (lv_at hl 0 rfl) ?_
                refine va_get (D := D) (ci := 11) (v := .ref w_a) (C := RX11) (T := TX11) (N := 11) hx hb ht iyX11 hown hK hP 0 rfl rfl 8 (by decide) (ht _ wf_X11_54) (fun _ h9 => h9) rfl dX11_sees_63 ?_
                refine va_get (D := D) (ci := 9) (v := .int w_size_15) (C := RX9) (T := TX9) (N := 7) hx hb ht iyX9 hown hK hP 1 rfl rfl 0 (by decide) (ht _ wf_X11_99) (fun _ h9 => h9) rfl dX11_sees_66 ?_
                obtain ⟨e_0, e_1, e_2, e_3, e_4⟩ := zo5 hF
                subst e_0
                subst e_1
                subst e_2
                subst e_3
                subst e_4
                exact zret_i S hr hlocks hK hP hD hS dX11_sees_69
            · have hF := zi_neg c_8 hF
              refine lv_bipush (v := (-3)) hx hb dX11_sees_40 (by decide) ?_
              obtain ⟨e_0, e_1, e_2, e_3, e_4⟩ := zo5 hF
              subst e_0
              subst e_1
              subst e_2
              subst e_3
              subst e_4
              exact zret_i S hr hlocks hK hP hD hS dX11_sees_42
          · have hF := zi_neg c_7 hF
            refine lv_iconst (v := (-1)) hx hb dX11_sees_26 (by decide) ?_
            obtain ⟨e_0, e_1, e_2, e_3, e_4⟩ := zo5 hF
            subst e_0
            subst e_1
            subst e_2
            subst e_3
            subst e_4
            exact zret_i S hr hlocks hK hP hD hS dX11_sees_27

def F_X11_forget (w_size : Int32) : Option (Int32 × Int32) :=
  some (w_size, 0)
set_option maxHeartbeats 4000000 in
set_option maxRecDepth 100000 in
theorem c_X11_forget (l : Launch) (D : va_G) (cI cZ cS cJ : ClassId) (x_a : Nat) (t_a : Nat) (c_a : Nat) (d_a : Nat) (s_a : Nat) (u_a : Nat) (q_a : Nat) (i_a : Nat) (k_a : Nat) (w_a : Nat) (n_a : Nat) (w_a_hangs : Nat) (w_a_ticksSeen : Nat) (w_a_ups : Nat) (w_a_periods : Nat) (w_a_starts : Nat) (x_asked : Int64) (w_size : Int32) (w_found : Int32) {r_o : Int32} {w_size_o : Int32} (hF : F_X11_forget w_size = some (r_o, w_size_o)) : zMi l yX11_forget (zwl yX11_forget cX11_forget 2 (some .int)) { frames := 0, cells := 0, slots := 0, locals := 0 } D (TYS cI cZ cS cJ) [.ref x_a] [(x_a, .inr (11, [.ref t_a, .ref c_a, .ref d_a, .ref s_a, .ref u_a, .ref q_a, .ref i_a, .ref k_a, .ref w_a, .ref n_a, .long x_asked])), (w_a, .inr (9, [.int w_size, .ref w_a_hangs, .ref w_a_ticksSeen, .ref w_a_ups, .int w_found, .ref w_a_periods, .ref w_a_starts]))] [(x_a, .inr (11, [.ref t_a, .ref c_a, .ref d_a, .ref s_a, .ref u_a, .ref q_a, .ref i_a, .ref k_a, .ref w_a, .ref n_a, .long x_asked])), (w_a, .inr (9, [.int w_size_o, .ref w_a_hangs, .ref w_a_ticksSeen, .ref w_a_ups, .int w_found, .ref w_a_periods, .ref w_a_starts]))] r_o := by
  refine zent_i (own := RX11) (by decide) rfl (Nat.le_of_ble_eq_true rfl) ?_
  intro p e s m below meth c A ls S hr hlocks hK hP hD hA hl
  have hx := S.1
  have hb := S.2.1
  have hml := S.2.2.1
  have hown := S.2.2.2.1
  have hT : ∀ w ∈ zt, w ∈ zwl yX11_forget cX11_forget 2 (some .int) := fun _ h => List.mem_cons_of_mem _ h
  have ht : ∀ w ∈ zt, w.before [.ref x_a].toArray s = true := fun w h => S.2.2.2.2 w (hT w h)
  have hl : lv_has ls 2 [(0, .ref x_a)] := hl
  have hS : va_S A s.heap s.heap [] := va_S.rf
  unfold F_X11_forget at hF
  refine lv_aload_n hx hb dX11_forget_0 rfl (lv_at hl 0 rfl) ?_
  refine va_get (D := D) (ci := 11) (v := .ref w_a) (C := RX11) (T := TX11) (N := 11) hx hb ht iyX11 hown hK hP 0 rfl rfl 8 (by decide) (ht _ wf_X11_54) (fun _ h9 => h9) rfl dX11_forget_1 ?_
  refine va_get (D := D) (ci := 9) (v := .int w_size) (C := RX9) (T := TX9) (N := 7) hx hb ht iyX9 hown hK hP 1 rfl rfl 0 (by decide) (ht _ wf_X11_99) (fun _ h9 => h9) rfl dX11_forget_4 ?_
  refine lv_istore_n (lv' := [(1, .int w_size), (0, .ref x_a)]) hx hb dX11_forget_7 rfl hl (by decide) rfl (fun ls hl => ?_)
  refine lv_aload_n hx hb dX11_forget_8 rfl (lv_at hl 1 rfl) ?_
  refine va_get (D := D) (ci := 11) (v := .ref w_a) (C := RX11) (T := TX11) (N := 11) hx hb ht iyX11 hown hK hP 0 rfl rfl 8 (by decide) (ht _ wf_X11_54) (fun _ h9 => h9) rfl dX11_forget_9 ?_
  refine lv_iconst (v := 0) hx hb dX11_forget_12 (by decide) ?_
  refine va_put (D := D) (ci := 9) (v := .int 0) (ty := .int) (C := RX9) (T := TX9) (N := 7) hx hb ht iyX9 tyX9 tyX9_ok nmX9 hown hK hP hD hS 1 rfl rfl 0 (by decide) (ht _ wf_X11_99) (fun _ h9 => h9) rfl (by decide +kernel) rfl rfl (Nat.le_of_ble_eq_true rfl) dX11_forget_13 (fun H locs hP hD hS => ?_)
  have hP : va_P D classes [(x_a, .inr (11, [.ref t_a, .ref c_a, .ref d_a, .ref s_a, .ref u_a, .ref q_a, .ref i_a, .ref k_a, .ref w_a, .ref n_a, .long x_asked])), (w_a, .inr (9, [.int 0, .ref w_a_hangs, .ref w_a_ticksSeen, .ref w_a_ups, .int w_found, .ref w_a_periods, .ref w_a_starts]))] H := hP
  have hD : va_D A [(x_a, .inr (11, [.ref t_a, .ref c_a, .ref d_a, .ref s_a, .ref u_a, .ref q_a, .ref i_a, .ref k_a, .ref w_a, .ref n_a, .long x_asked])), (w_a, .inr (9, [.int 0, .ref w_a_hangs, .ref w_a_ticksSeen, .ref w_a_ups, .int w_found, .ref w_a_periods, .ref w_a_starts]))] := hD
  refine lv_iload_n hx hb dX11_forget_16 rfl (lv_at hl 0 rfl) ?_
  obtain ⟨e_0, e_1⟩ := zo2 hF
  subst e_0
  subst e_1
  exact zret_i S hr hlocks hK hP hD hS dX11_forget_17

theorem lk_X11_199 : zLk RX11 199 yX9_gather cX9_gather 3 none 0 := ⟨⟨wm_X11_199, wo_X9_gather, we_X9_X9_gather, wi_X9, wd_X9_gather⟩, by decide, by decide, by decide +kernel⟩
def F_X11_ways (w_size : Int32) (w_found : Int32) (w_hangs : Nat → Int32) (w_ticksSeen : Nat → Int32) (w_ups : Nat → Int32) (w_periods : Nat → Int32) (w_starts : Nat → Int32) (p1 : Int32) : Option (Int32 × Int32 × (Nat → Int32) × (Nat → Int32)) :=
  (if p1 < 0 then some ((-1), w_found, w_periods, w_starts) else (if p1 ≤ 1 then (zb3 (F_X9_gather w_size w_hangs w_ticksSeen w_ups w_periods w_starts) (fun w_found_3 w_periods_4 w_starts_5 => (if p1 = 0 then some (w_found_3, w_found_3, w_periods_4, w_starts_5) else (if w_found_3 = 0 then some ((-9), w_found_3, w_periods_4, w_starts_5) else some ((100 * (w_periods_4 (0 : Int32).toNatClampNeg)) + (w_starts_5 (0 : Int32).toNatClampNeg), w_found_3, w_periods_4, w_starts_5))))) else some ((-1), w_found, w_periods, w_starts)))
set_option maxHeartbeats 4000000 in
set_option maxRecDepth 100000 in
theorem c_X11_ways (l : Launch) (D : va_G) (cI cZ cS cJ : ClassId) (x_a : Nat) (t_a : Nat) (c_a : Nat) (d_a : Nat) (s_a : Nat) (u_a : Nat) (q_a : Nat) (i_a : Nat) (k_a : Nat) (w_a : Nat) (n_a : Nat) (w_a_hangs : Nat) (w_a_ticksSeen : Nat) (w_a_ups : Nat) (w_a_periods : Nat) (w_a_starts : Nat) (x_asked : Int64) (w_size : Int32) (w_found : Int32) (w_hangs : Nat → Int32) (w_ticksSeen : Nat → Int32) (w_ups : Nat → Int32) (w_periods : Nat → Int32) (w_starts : Nat → Int32) (p1 : Int32) {r_o : Int32} {w_found_o : Int32} {w_periods_o : Nat → Int32} {w_starts_o : Nat → Int32} (hF : F_X11_ways w_size w_found w_hangs w_ticksSeen w_ups w_periods w_starts p1 = some (r_o, w_found_o, w_periods_o, w_starts_o)) : zMi l yX11_ways (zwl yX11_ways cX11_ways 2 (some .int)) { frames := 3, cells := 0, slots := 0, locals := 68 } D (TYS cI cZ cS cJ) [.ref x_a, .int p1] [(x_a, .inr (11, [.ref t_a, .ref c_a, .ref d_a, .ref s_a, .ref u_a, .ref q_a, .ref i_a, .ref k_a, .ref w_a, .ref n_a, .long x_asked])), (w_a, .inr (9, [.int w_size, .ref w_a_hangs, .ref w_a_ticksSeen, .ref w_a_ups, .int w_found, .ref w_a_periods, .ref w_a_starts])), (w_a_hangs, .inl (cI, 6, .inl w_hangs)), (w_a_ticksSeen, .inl (cI, 6, .inl w_ticksSeen)), (w_a_ups, .inl (cZ, 6, .inl w_ups)), (w_a_periods, .inl (cI, 132, .inl w_periods)), (w_a_starts, .inl (cI, 132, .inl w_starts))] [(x_a, .inr (11, [.ref t_a, .ref c_a, .ref d_a, .ref s_a, .ref u_a, .ref q_a, .ref i_a, .ref k_a, .ref w_a, .ref n_a, .long x_asked])), (w_a, .inr (9, [.int w_size, .ref w_a_hangs, .ref w_a_ticksSeen, .ref w_a_ups, .int w_found_o, .ref w_a_periods, .ref w_a_starts])), (w_a_hangs, .inl (cI, 6, .inl w_hangs)), (w_a_ticksSeen, .inl (cI, 6, .inl w_ticksSeen)), (w_a_ups, .inl (cZ, 6, .inl w_ups)), (w_a_periods, .inl (cI, 132, .inl w_periods_o)), (w_a_starts, .inl (cI, 132, .inl w_starts_o))] r_o := by
  refine zent_i (own := RX11) (by decide) rfl (Nat.le_of_ble_eq_true rfl) ?_
  intro p e s m below meth c A ls S hr hlocks hK hP hD hA hl
  have hx := S.1
  have hb := S.2.1
  have hml := S.2.2.1
  have hown := S.2.2.2.1
  have hT : ∀ w ∈ zt, w ∈ zwl yX11_ways cX11_ways 2 (some .int) := fun _ h => List.mem_cons_of_mem _ h
  have ht : ∀ w ∈ zt, w.before [.ref x_a, .int p1].toArray s = true := fun w h => S.2.2.2.2 w (hT w h)
  have hl : lv_has ls 2 [(0, .ref x_a), (1, .int p1)] := hl
  have hS : va_S A s.heap s.heap [] := va_S.rf
  unfold F_X11_ways at hF
  refine lv_iload_n hx hb dX11_ways_0 rfl (lv_at hl 1 rfl) ?_
  refine lv_if_lt (tgt := 9) hx hb dX11_ways_1 (by decide) (fun c_1 => ?_) (fun c_1 => ?_)
  · have hF := zi_pos c_1 hF
    refine lv_iconst (v := (-1)) hx hb dX11_ways_9 (by decide) ?_
    obtain ⟨e_0, e_1, e_2, e_3⟩ := zo4 hF
    subst e_0
    subst e_1
    subst e_2
    subst e_3
    exact zret_i S hr hlocks hK hP hD hS dX11_ways_10
  · have hF := zi_neg c_1 hF
    refine lv_iload_n hx hb dX11_ways_4 rfl (lv_at hl 1 rfl) ?_
    refine lv_iconst (v := 1) hx hb dX11_ways_5 (by decide) ?_
    refine lv_icmp_le (tgt := 11) hx hb dX11_ways_6 (by decide) (fun c_2 => ?_) (fun c_2 => ?_)
    · have hF := zi_pos c_2 hF
      refine lv_aload_n hx hb dX11_ways_11 rfl (lv_at hl 0 rfl) ?_
      refine va_get (D := D) (ci := 11) (v := .ref w_a) (C := RX11) (T := TX11) (N := 11) hx hb ht iyX11 hown hK hP 0 rfl rfl 8 (by decide) (ht _ wf_X11_54) (fun _ h9 => h9) rfl dX11_ways_12 ?_
      obtain ⟨w_found_3, w_periods_4, w_starts_5, hc_6, hF⟩ := zb3_s hF
      refine zcv_v (ws1 := [(x_a, .inr (11, [.ref t_a, .ref c_a, .ref d_a, .ref s_a, .ref u_a, .ref q_a, .ref i_a, .ref k_a, .ref w_a, .ref n_a, .long x_asked])), (w_a, .inr (9, [.int w_size, .ref w_a_hangs, .ref w_a_ticksSeen, .ref w_a_ups, .int w_found_3, .ref w_a_periods, .ref w_a_starts])), (w_a_hangs, .inl (cI, 6, .inl w_hangs)), (w_a_ticksSeen, .inl (cI, 6, .inl w_ticksSeen)), (w_a_ups, .inl (cZ, 6, .inl w_ups)), (w_a_periods, .inl (cI, 132, .inl w_periods_4)), (w_a_starts, .inl (cI, 132, .inl w_starts_5))]) S hT lk_X11_199 (c_X9_gather l D cI cZ cS cJ w_a w_a_hangs w_a_ticksSeen w_a_ups w_a_periods w_a_starts w_size w_found w_hangs w_ticksSeen w_ups w_periods w_starts hc_6) ⟨rfl, rfl, Nat.le_of_ble_eq_true rfl, Nat.le_of_ble_eq_true rfl⟩ hK hP hD hS hA [1, 2, 3, 4, 5, 6] [0] [0, 1, 2, 3, 4, 5, 6] rfl rfl rfl rfl rfl rfl rfl rfl rfl rfl rfl hl.1 rfl (Nat.le_of_ble_eq_true rfl) dX11_ways_15 ⟨Nat.zero_le _, Nat.zero_le _⟩ (fun H locs hP hD hS => ?_)
      refine lv_iload_n hx hb dX11_ways_18 rfl (lv_at hl 1 rfl) ?_
      refine lv_if_ne (tgt := 30) hx hb dX11_ways_19 (by decide) (fun c_7 => ?_) (fun c_7 => ?_)
      · have hF := zi_neg c_7 hF
        refine lv_aload_n hx hb dX11_ways_30 rfl (lv_at hl 0 rfl) ?_
        refine va_get (D := D) (ci := 11) (v := .ref w_a) (C := RX11) (T := TX11) (N := 11) hx hb ht iyX11 hown hK hP 0 rfl rfl 8 (by decide) (ht _ wf_X11_54) (fun _ h9 => h9) rfl dX11_ways_31 ?_
        refine va_get (D := D) (ci := 9) (v := .int w_found_3) (C := RX9) (T := TX9) (N := 7) hx hb ht iyX9 hown hK hP 1 rfl rfl 4 (by decide) (ht _ wf_X11_202) (fun _ h9 => h9) rfl dX11_ways_34 ?_
        refine lv_if_ne (tgt := 45) hx hb dX11_ways_37 (by decide) (fun c_8 => ?_) (fun c_8 => ?_)
        · have hF := zi_neg c_8 hF
          refine lv_bipush (v := 100) hx hb dX11_ways_45 (by decide) ?_
          refine lv_aload_n hx hb dX11_ways_47 rfl (lv_at hl 0 rfl) ?_
          refine va_get (D := D) (ci := 11) (v := .ref w_a) (C := RX11) (T := TX11) (N := 11) hx hb ht iyX11 hown hK hP 0 rfl rfl 8 (by decide) (ht _ wf_X11_54) (fun _ h9 => h9) rfl dX11_ways_48 ?_
          refine va_get (D := D) (ci := 9) (v := .ref w_a_periods) (C := RX9) (T := TX9) (N := 7) hx hb ht iyX9 hown hK hP 1 rfl rfl 5 (by decide) (ht _ wf_X11_205) (fun _ h9 => h9) rfl dX11_ways_51 ?_
          refine lv_iconst (v := 0) hx hb dX11_ways_54 (by decide) ?_
          refine va_iald hx hb hK hP 5 0 rfl rfl (show ¬ ((0 : Int32) < 0 ∨ 132 ≤ (0 : Int32).toNatClampNeg) by decide) dX11_ways_55 ?_
          refine lv_imul hx hb dX11_ways_56 ?_
          refine lv_aload_n hx hb dX11_ways_57 rfl (lv_at hl 0 rfl) ?_
          refine va_get (D := D) (ci := 11) (v := .ref w_a) (C := RX11) (T := TX11) (N := 11) hx hb ht iyX11 hown hK hP 0 rfl rfl 8 (by decide) (ht _ wf_X11_54) (fun _ h9 => h9) rfl dX11_ways_58 ?_
          refine va_get (D := D) (ci := 9) (v := .ref w_a_starts) (C := RX9) (T := TX9) (N := 7) hx hb ht iyX9 hown hK hP 1 rfl rfl 6 (by decide) (ht _ wf_X11_208) (fun _ h9 => h9) rfl dX11_ways_61 ?_
          refine lv_iconst (v := 0) hx hb dX11_ways_64 (by decide) ?_
          refine va_iald hx hb hK hP 6 0 rfl rfl (show ¬ ((0 : Int32) < 0 ∨ 132 ≤ (0 : Int32).toNatClampNeg) by decide) dX11_ways_65 ?_
          refine lv_iadd hx hb dX11_ways_66 ?_
          obtain ⟨e_0, e_1, e_2, e_3⟩ := zo4 hF
          subst e_0
          subst e_1
          subst e_2
          subst e_3
          exact zret_i S hr hlocks hK hP hD hS dX11_ways_67
        · have hF := zi_pos c_8 hF
          refine lv_bipush (v := (-9)) hx hb dX11_ways_40 (by decide) ?_
          refine lv_goto (tgt := 67) hx hb dX11_ways_42 (by decide) ?_
          obtain ⟨e_0, e_1, e_2, e_3⟩ := zo4 hF
          subst e_0
          subst e_1
          subst e_2
          subst e_3
          exact zret_i S hr hlocks hK hP hD hS dX11_ways_67
      · have hF := zi_pos c_7 hF
        refine lv_aload_n hx hb dX11_ways_22 rfl (lv_at hl 0 rfl) ?_
        refine va_get (D := D) (ci := 11) (v := .ref w_a) (C := RX11) (T := TX11) (N := 11) hx hb ht iyX11 hown hK hP 0 rfl rfl 8 (by decide) (ht _ wf_X11_54) (fun _ h9 => h9) rfl dX11_ways_23 ?_
        refine va_get (D := D) (ci := 9) (v := .int w_found_3) (C := RX9) (T := TX9) (N := 7) hx hb ht iyX9 hown hK hP 1 rfl rfl 4 (by decide) (ht _ wf_X11_202) (fun _ h9 => h9) rfl dX11_ways_26 ?_
        obtain ⟨e_0, e_1, e_2, e_3⟩ := zo4 hF
        subst e_0
        subst e_1
        subst e_2
        subst e_3
        exact zret_i S hr hlocks hK hP hD hS dX11_ways_29
    · have hF := zi_neg c_2 hF
      refine lv_iconst (v := (-1)) hx hb dX11_ways_9 (by decide) ?_
      obtain ⟨e_0, e_1, e_2, e_3⟩ := zo4 hF
      subst e_0
      subst e_1
      subst e_2
      subst e_3
      exact zret_i S hr hlocks hK hP hD hS dX11_ways_10

theorem lk_X11_211 : zLk RX11 211 yX9_bestTick cX9_bestTick 7 (some .int) 1 := ⟨⟨wm_X11_211, wo_X9_bestTick, we_X9_X9_bestTick, wi_X9, wd_X9_bestTick⟩, by decide, by decide, by decide +kernel⟩
def F_X11_look (w_size : Int32) (w_found : Int32) (w_hangs : Nat → Int32) (w_ticksSeen : Nat → Int32) (w_ups : Nat → Int32) (w_periods : Nat → Int32) (w_starts : Nat → Int32) (p1 : Int32) : Option (Int32 × Int32 × (Nat → Int32) × (Nat → Int32)) :=
  (zb1 (F_X11_isNoHang p1) (fun r_1 => (if r_1 = 0 then (zb3 (F_X9_gather w_size w_hangs w_ticksSeen w_ups w_periods w_starts) (fun w_found_4 w_periods_5 w_starts_6 => (if 1 < w_found_4 then (zb1 (F_X9_bestTick w_found_4 w_periods_5 w_starts_6 p1) (fun r_9 => some (r_9, w_found_4, w_periods_5, w_starts_6))) else some ((-9), w_found_4, w_periods_5, w_starts_6)))) else some ((-1), w_found, w_periods, w_starts))))
set_option maxHeartbeats 4000000 in
set_option maxRecDepth 100000 in
theorem c_X11_look (l : Launch) (D : va_G) (cI cZ cS cJ : ClassId) (x_a : Nat) (t_a : Nat) (c_a : Nat) (d_a : Nat) (s_a : Nat) (u_a : Nat) (q_a : Nat) (i_a : Nat) (k_a : Nat) (w_a : Nat) (n_a : Nat) (w_a_hangs : Nat) (w_a_ticksSeen : Nat) (w_a_ups : Nat) (w_a_periods : Nat) (w_a_starts : Nat) (x_asked : Int64) (w_size : Int32) (w_found : Int32) (w_hangs : Nat → Int32) (w_ticksSeen : Nat → Int32) (w_ups : Nat → Int32) (w_periods : Nat → Int32) (w_starts : Nat → Int32) (p1 : Int32) {r_o : Int32} {w_found_o : Int32} {w_periods_o : Nat → Int32} {w_starts_o : Nat → Int32} (hF : F_X11_look w_size w_found w_hangs w_ticksSeen w_ups w_periods w_starts p1 = some (r_o, w_found_o, w_periods_o, w_starts_o)) : zMi l yX11_look (zwl yX11_look cX11_look 2 (some .int)) { frames := 3, cells := 0, slots := 0, locals := 68 } D (TYS cI cZ cS cJ) [.ref x_a, .int p1] [(x_a, .inr (11, [.ref t_a, .ref c_a, .ref d_a, .ref s_a, .ref u_a, .ref q_a, .ref i_a, .ref k_a, .ref w_a, .ref n_a, .long x_asked])), (w_a, .inr (9, [.int w_size, .ref w_a_hangs, .ref w_a_ticksSeen, .ref w_a_ups, .int w_found, .ref w_a_periods, .ref w_a_starts])), (w_a_hangs, .inl (cI, 6, .inl w_hangs)), (w_a_ticksSeen, .inl (cI, 6, .inl w_ticksSeen)), (w_a_ups, .inl (cZ, 6, .inl w_ups)), (w_a_periods, .inl (cI, 132, .inl w_periods)), (w_a_starts, .inl (cI, 132, .inl w_starts))] [(x_a, .inr (11, [.ref t_a, .ref c_a, .ref d_a, .ref s_a, .ref u_a, .ref q_a, .ref i_a, .ref k_a, .ref w_a, .ref n_a, .long x_asked])), (w_a, .inr (9, [.int w_size, .ref w_a_hangs, .ref w_a_ticksSeen, .ref w_a_ups, .int w_found_o, .ref w_a_periods, .ref w_a_starts])), (w_a_hangs, .inl (cI, 6, .inl w_hangs)), (w_a_ticksSeen, .inl (cI, 6, .inl w_ticksSeen)), (w_a_ups, .inl (cZ, 6, .inl w_ups)), (w_a_periods, .inl (cI, 132, .inl w_periods_o)), (w_a_starts, .inl (cI, 132, .inl w_starts_o))] r_o := by
  refine zent_i (own := RX11) (by decide) rfl (Nat.le_of_ble_eq_true rfl) ?_
  intro p e s m below meth c A ls S hr hlocks hK hP hD hA hl
  have hx := S.1
  have hb := S.2.1
  have hml := S.2.2.1
  have hown := S.2.2.2.1
  have hT : ∀ w ∈ zt, w ∈ zwl yX11_look cX11_look 2 (some .int) := fun _ h => List.mem_cons_of_mem _ h
  have ht : ∀ w ∈ zt, w.before [.ref x_a, .int p1].toArray s = true := fun w h => S.2.2.2.2 w (hT w h)
  have hl : lv_has ls 2 [(0, .ref x_a), (1, .int p1)] := hl
  have hS : va_S A s.heap s.heap [] := va_S.rf
  unfold F_X11_look at hF
  refine lv_iload_n hx hb dX11_look_0 rfl (lv_at hl 1 rfl) ?_
  obtain ⟨r_1, hc_2, hF⟩ := zb1_s hF
  refine zcs_i (ws1 := [(x_a, .inr (11, [.ref t_a, .ref c_a, .ref d_a, .ref s_a, .ref u_a, .ref q_a, .ref i_a, .ref k_a, .ref w_a, .ref n_a, .long x_asked])), (w_a, .inr (9, [.int w_size, .ref w_a_hangs, .ref w_a_ticksSeen, .ref w_a_ups, .int w_found, .ref w_a_periods, .ref w_a_starts])), (w_a_hangs, .inl (cI, 6, .inl w_hangs)), (w_a_ticksSeen, .inl (cI, 6, .inl w_ticksSeen)), (w_a_ups, .inl (cZ, 6, .inl w_ups)), (w_a_periods, .inl (cI, 132, .inl w_periods)), (w_a_starts, .inl (cI, 132, .inl w_starts))]) S hT lk_X11_192 (c_X11_isNoHang l D cI cZ cS cJ p1 hc_2) ⟨rfl, rfl, Nat.le_of_ble_eq_true rfl, Nat.le_of_ble_eq_true rfl⟩ hK hP hD hS hA [] [0, 1, 2, 3, 4, 5, 6] [0, 1, 2, 3, 4, 5, 6] rfl rfl rfl rfl rfl rfl rfl rfl hl.1 rfl (Nat.le_of_ble_eq_true rfl) dX11_look_1 ⟨Nat.zero_le _, Nat.zero_le _⟩ (fun H locs hP hD hS => ?_)
  refine lv_if_eq (tgt := 9) hx hb dX11_look_4 (by decide) (fun c_3 => ?_) (fun c_3 => ?_)
  · have hF := zi_pos c_3 hF
    refine lv_aload_n hx hb dX11_look_9 rfl (lv_at hl 0 rfl) ?_
    refine va_get (D := D) (ci := 11) (v := .ref w_a) (C := RX11) (T := TX11) (N := 11) hx hb ht iyX11 hown hK hP 0 rfl rfl 8 (by decide) (ht _ wf_X11_54) (fun _ h9 => h9) rfl dX11_look_10 ?_
    obtain ⟨w_found_4, w_periods_5, w_starts_6, hc_7, hF⟩ := zb3_s hF
    refine zcv_v (ws1 := [(x_a, .inr (11, [.ref t_a, .ref c_a, .ref d_a, .ref s_a, .ref u_a, .ref q_a, .ref i_a, .ref k_a, .ref w_a, .ref n_a, .long x_asked])), (w_a, .inr (9, [.int w_size, .ref w_a_hangs, .ref w_a_ticksSeen, .ref w_a_ups, .int w_found_4, .ref w_a_periods, .ref w_a_starts])), (w_a_hangs, .inl (cI, 6, .inl w_hangs)), (w_a_ticksSeen, .inl (cI, 6, .inl w_ticksSeen)), (w_a_ups, .inl (cZ, 6, .inl w_ups)), (w_a_periods, .inl (cI, 132, .inl w_periods_5)), (w_a_starts, .inl (cI, 132, .inl w_starts_6))]) S hT lk_X11_199 (c_X9_gather l D cI cZ cS cJ w_a w_a_hangs w_a_ticksSeen w_a_ups w_a_periods w_a_starts w_size w_found w_hangs w_ticksSeen w_ups w_periods w_starts hc_7) ⟨rfl, rfl, Nat.le_of_ble_eq_true rfl, Nat.le_of_ble_eq_true rfl⟩ hK hP hD hS hA [1, 2, 3, 4, 5, 6] [0] [0, 1, 2, 3, 4, 5, 6] rfl rfl rfl rfl rfl rfl rfl rfl rfl rfl rfl hl.1 rfl (Nat.le_of_ble_eq_true rfl) dX11_look_13 ⟨Nat.zero_le _, Nat.zero_le _⟩ (fun H locs hP hD hS => ?_)
    refine lv_aload_n hx hb dX11_look_16 rfl (lv_at hl 0 rfl) ?_
    refine va_get (D := D) (ci := 11) (v := .ref w_a) (C := RX11) (T := TX11) (N := 11) hx hb ht iyX11 hown hK hP 0 rfl rfl 8 (by decide) (ht _ wf_X11_54) (fun _ h9 => h9) rfl dX11_look_17 ?_
    refine va_get (D := D) (ci := 9) (v := .int w_found_4) (C := RX9) (T := TX9) (N := 7) hx hb ht iyX9 hown hK hP 1 rfl rfl 4 (by decide) (ht _ wf_X11_202) (fun _ h9 => h9) rfl dX11_look_20 ?_
    refine lv_iconst (v := 1) hx hb dX11_look_23 (by decide) ?_
    refine lv_icmp_gt (tgt := 32) hx hb dX11_look_24 (by decide) (fun c_8 => ?_) (fun c_8 => ?_)
    · have hF := zi_pos c_8 hF
      refine lv_aload_n hx hb dX11_look_32 rfl (lv_at hl 0 rfl) ?_
      refine va_get (D := D) (ci := 11) (v := .ref w_a) (C := RX11) (T := TX11) (N := 11) hx hb ht iyX11 hown hK hP 0 rfl rfl 8 (by decide) (ht _ wf_X11_54) (fun _ h9 => h9) rfl dX11_look_33 ?_
      refine lv_iload_n hx hb dX11_look_36 rfl (lv_at hl 1 rfl) ?_
      obtain ⟨r_9, hc_10, hF⟩ := zb1_s hF
      refine zcv_i (ws1 := [(x_a, .inr (11, [.ref t_a, .ref c_a, .ref d_a, .ref s_a, .ref u_a, .ref q_a, .ref i_a, .ref k_a, .ref w_a, .ref n_a, .long x_asked])), (w_a, .inr (9, [.int w_size, .ref w_a_hangs, .ref w_a_ticksSeen, .ref w_a_ups, .int w_found_4, .ref w_a_periods, .ref w_a_starts])), (w_a_hangs, .inl (cI, 6, .inl w_hangs)), (w_a_ticksSeen, .inl (cI, 6, .inl w_ticksSeen)), (w_a_ups, .inl (cZ, 6, .inl w_ups)), (w_a_periods, .inl (cI, 132, .inl w_periods_5)), (w_a_starts, .inl (cI, 132, .inl w_starts_6))]) S hT lk_X11_211 (c_X9_bestTick l D cI cZ cS cJ w_a w_a_hangs w_a_ticksSeen w_a_ups w_a_periods w_a_starts w_size w_found_4 w_periods_5 w_starts_6 p1 hc_10) ⟨rfl, rfl, Nat.le_of_ble_eq_true rfl, Nat.le_of_ble_eq_true rfl⟩ hK hP hD hS hA [1, 5, 6] [0, 2, 3, 4] [0, 4, 1, 2, 3, 5, 6] rfl rfl rfl rfl rfl rfl rfl rfl rfl rfl rfl hl.1 rfl (Nat.le_of_ble_eq_true rfl) dX11_look_37 ⟨Nat.zero_le _, Nat.zero_le _⟩ (fun H locs hP hD hS => ?_)
      obtain ⟨e_0, e_1, e_2, e_3⟩ := zo4 hF
      subst e_0
      subst e_1
      subst e_2
      subst e_3
      exact zret_i S hr hlocks hK hP hD hS dX11_look_40
    · have hF := zi_neg c_8 hF
      refine lv_bipush (v := (-9)) hx hb dX11_look_27 (by decide) ?_
      refine lv_goto (tgt := 40) hx hb dX11_look_29 (by decide) ?_
      obtain ⟨e_0, e_1, e_2, e_3⟩ := zo4 hF
      subst e_0
      subst e_1
      subst e_2
      subst e_3
      exact zret_i S hr hlocks hK hP hD hS dX11_look_40
  · have hF := zi_neg c_3 hF
    refine lv_iconst (v := (-1)) hx hb dX11_look_7 (by decide) ?_
    obtain ⟨e_0, e_1, e_2, e_3⟩ := zo4 hF
    subst e_0
    subst e_1
    subst e_2
    subst e_3
    exact zret_i S hr hlocks hK hP hD hS dX11_look_8

def F_X11_count (t_length : Int32) (c_size : Int32) (w_size : Int32) (p1 : Int32) : Option (Int32) :=
  (if p1 = 0 then some (c_size) else (if p1 = 1 then some (w_size) else (if p1 = 2 then some (t_length) else some ((-1)))))
set_option maxHeartbeats 4000000 in
set_option maxRecDepth 100000 in
theorem c_X11_count (l : Launch) (D : va_G) (cI cZ cS cJ : ClassId) (x_a : Nat) (t_a : Nat) (c_a : Nat) (d_a : Nat) (s_a : Nat) (u_a : Nat) (q_a : Nat) (i_a : Nat) (k_a : Nat) (w_a : Nat) (n_a : Nat) (t_a_letters : Nat) (t_a_parts : Nat) (c_a_period : Nat) (c_a_hang : Nat) (c_a_start : Nat) (c_a_wind : Nat) (w_a_hangs : Nat) (w_a_ticksSeen : Nat) (w_a_ups : Nat) (w_a_periods : Nat) (w_a_starts : Nat) (x_asked : Int64) (t_length : Int32) (t_items : Int32) (t_place : Int32) (t_start : Int32) (t_token : Int32) (t_value : Int32) (c_every : Int32) (c_size : Int32) (w_size : Int32) (w_found : Int32) (p1 : Int32) {r_o : Int32} (hF : F_X11_count t_length c_size w_size p1 = some (r_o)) : zMi l yX11_count (zwl yX11_count cX11_count 2 (some .int)) { frames := 0, cells := 0, slots := 0, locals := 0 } D (TYS cI cZ cS cJ) [.ref x_a, .int p1] [(x_a, .inr (11, [.ref t_a, .ref c_a, .ref d_a, .ref s_a, .ref u_a, .ref q_a, .ref i_a, .ref k_a, .ref w_a, .ref n_a, .long x_asked])), (t_a, .inr (10, [.ref t_a_letters, .ref t_a_parts, .int t_length, .int t_items, .int t_place, .int t_start, .int t_token, .int t_value])), (c_a, .inr (1, [.int c_every, .int c_size, .ref c_a_period, .ref c_a_hang, .ref c_a_start, .ref c_a_wind])), (w_a, .inr (9, [.int w_size, .ref w_a_hangs, .ref w_a_ticksSeen, .ref w_a_ups, .int w_found, .ref w_a_periods, .ref w_a_starts]))] [(x_a, .inr (11, [.ref t_a, .ref c_a, .ref d_a, .ref s_a, .ref u_a, .ref q_a, .ref i_a, .ref k_a, .ref w_a, .ref n_a, .long x_asked])), (t_a, .inr (10, [.ref t_a_letters, .ref t_a_parts, .int t_length, .int t_items, .int t_place, .int t_start, .int t_token, .int t_value])), (c_a, .inr (1, [.int c_every, .int c_size, .ref c_a_period, .ref c_a_hang, .ref c_a_start, .ref c_a_wind])), (w_a, .inr (9, [.int w_size, .ref w_a_hangs, .ref w_a_ticksSeen, .ref w_a_ups, .int w_found, .ref w_a_periods, .ref w_a_starts]))] r_o := by
  refine zent_i (own := RX11) (by decide) rfl (Nat.le_of_ble_eq_true rfl) ?_
  intro p e s m below meth c A ls S hr hlocks hK hP hD hA hl
  have hx := S.1
  have hb := S.2.1
  have hml := S.2.2.1
  have hown := S.2.2.2.1
  have hT : ∀ w ∈ zt, w ∈ zwl yX11_count cX11_count 2 (some .int) := fun _ h => List.mem_cons_of_mem _ h
  have ht : ∀ w ∈ zt, w.before [.ref x_a, .int p1].toArray s = true := fun w h => S.2.2.2.2 w (hT w h)
  have hl : lv_has ls 2 [(0, .ref x_a), (1, .int p1)] := hl
  have hS : va_S A s.heap s.heap [] := va_S.rf
  unfold F_X11_count at hF
  refine lv_iload_n hx hb dX11_count_0 rfl (lv_at hl 1 rfl) ?_
  by_cases c_1 : p1 = 0
  · have hF := zi_pos c_1 hF
    refine lv_tableIn (tgt := 28) hx hb dX11_count_1 (by rw [c_1]; decide) (by rw [c_1]; decide) (by rw [c_1]; rfl) (by decide) ?_
    refine lv_aload_n hx hb dX11_count_28 rfl (lv_at hl 0 rfl) ?_
    refine va_get (D := D) (ci := 11) (v := .ref c_a) (C := RX11) (T := TX11) (N := 11) hx hb ht iyX11 hown hK hP 0 rfl rfl 1 (by decide) (ht _ wf_X11_19) (fun _ h9 => h9) rfl dX11_count_29 ?_
    refine va_get (D := D) (ci := 1) (v := .int c_size) (C := RX1) (T := TX1) (N := 6) hx hb ht iyX1 hown hK hP 2 rfl rfl 1 (by decide) (ht _ wf_X11_183) (fun _ h9 => h9) rfl dX11_count_32 ?_
    have e_0 := zo1 hF
    subst e_0
    exact zret_i S hr hlocks hK hP hD hS dX11_count_35
  have hF := zi_neg c_1 hF
  by_cases c_2 : p1 = 1
  · have hF := zi_pos c_2 hF
    refine lv_tableIn (tgt := 36) hx hb dX11_count_1 (by rw [c_2]; decide) (by rw [c_2]; decide) (by rw [c_2]; rfl) (by decide) ?_
    refine lv_aload_n hx hb dX11_count_36 rfl (lv_at hl 0 rfl) ?_
    refine va_get (D := D) (ci := 11) (v := .ref w_a) (C := RX11) (T := TX11) (N := 11) hx hb ht iyX11 hown hK hP 0 rfl rfl 8 (by decide) (ht _ wf_X11_54) (fun _ h9 => h9) rfl dX11_count_37 ?_
    refine va_get (D := D) (ci := 9) (v := .int w_size) (C := RX9) (T := TX9) (N := 7) hx hb ht iyX9 hown hK hP 3 rfl rfl 0 (by decide) (ht _ wf_X11_99) (fun _ h9 => h9) rfl dX11_count_40 ?_
    have e_0 := zo1 hF
    subst e_0
    exact zret_i S hr hlocks hK hP hD hS dX11_count_43
  have hF := zi_neg c_2 hF
  by_cases c_3 : p1 = 2
  · have hF := zi_pos c_3 hF
    refine lv_tableIn (tgt := 44) hx hb dX11_count_1 (by rw [c_3]; decide) (by rw [c_3]; decide) (by rw [c_3]; rfl) (by decide) ?_
    refine lv_aload_n hx hb dX11_count_44 rfl (lv_at hl 0 rfl) ?_
    refine va_get (D := D) (ci := 11) (v := .ref t_a) (C := RX11) (T := TX11) (N := 11) hx hb ht iyX11 hown hK hP 0 rfl rfl 0 (by decide) (ht _ wf_X11_10) (fun _ h9 => h9) rfl dX11_count_45 ?_
    refine va_get (D := D) (ci := 10) (v := .int t_length) (C := RX10) (T := TX10) (N := 8) hx hb ht iyX10 hown hK hP 1 rfl rfl 2 (by decide) (ht _ wf_X11_84) (fun _ h9 => h9) rfl dX11_count_48 ?_
    have e_0 := zo1 hF
    subst e_0
    exact zret_i S hr hlocks hK hP hD hS dX11_count_51
  have hF := zi_neg c_3 hF
  have hto : p1.toInt < 0 ∨ 2 < p1.toInt := by
    have zc_1 := lv_neT c_1 (a := 0) (by decide)
    have zc_2 := lv_neT c_2 (a := 1) (by decide)
    have zc_3 := lv_neT c_3 (a := 2) (by decide)
    omega
  refine lv_tableOut (tgt := 52) hx hb dX11_count_1 hto (by decide) ?_
  refine lv_iconst (v := (-1)) hx hb dX11_count_52 (by decide) ?_
  have e_0 := zo1 hF
  subst e_0
  exact zret_i S hr hlocks hK hP hD hS dX11_count_53

def F_X11_trace (x_asked : Int64) : Option (Int64) :=
  some (x_asked)
set_option maxHeartbeats 4000000 in
set_option maxRecDepth 100000 in
theorem c_X11_trace (l : Launch) (D : va_G) (cI cZ cS cJ : ClassId) (x_a : Nat) (t_a : Nat) (c_a : Nat) (d_a : Nat) (s_a : Nat) (u_a : Nat) (q_a : Nat) (i_a : Nat) (k_a : Nat) (w_a : Nat) (n_a : Nat) (x_asked : Int64) {r_o : Int64} (hF : F_X11_trace x_asked = some (r_o)) : zMl l yX11_trace (zwl yX11_trace cX11_trace 1 (some .long)) { frames := 0, cells := 0, slots := 0, locals := 0 } D (TYS cI cZ cS cJ) [.ref x_a] [(x_a, .inr (11, [.ref t_a, .ref c_a, .ref d_a, .ref s_a, .ref u_a, .ref q_a, .ref i_a, .ref k_a, .ref w_a, .ref n_a, .long x_asked]))] [(x_a, .inr (11, [.ref t_a, .ref c_a, .ref d_a, .ref s_a, .ref u_a, .ref q_a, .ref i_a, .ref k_a, .ref w_a, .ref n_a, .long x_asked]))] r_o := by
  refine zent_l (own := RX11) (by decide) rfl (Nat.le_of_ble_eq_true rfl) ?_
  intro p e s m below meth c A ls S hr hlocks hK hP hD hA hl
  have hx := S.1
  have hb := S.2.1
  have hml := S.2.2.1
  have hown := S.2.2.2.1
  have hT : ∀ w ∈ zt, w ∈ zwl yX11_trace cX11_trace 1 (some .long) := fun _ h => List.mem_cons_of_mem _ h
  have ht : ∀ w ∈ zt, w.before [.ref x_a].toArray s = true := fun w h => S.2.2.2.2 w (hT w h)
  have hl : lv_has ls 1 [(0, .ref x_a)] := hl
  have hS : va_S A s.heap s.heap [] := va_S.rf
  unfold F_X11_trace at hF
  refine lv_aload_n hx hb dX11_trace_0 rfl (lv_at hl 0 rfl) ?_
  refine va_get (D := D) (ci := 11) (v := .long x_asked) (C := RX11) (T := TX11) (N := 11) hx hb ht iyX11 hown hK hP 0 rfl rfl 10 (by decide) (ht _ wf_X11_222) (fun _ h9 => h9) rfl dX11_trace_1 ?_
  have e_0 := zo1 hF
  subst e_0
  exact zret_l S hr hlocks hK hP hD hS dX11_trace_4
