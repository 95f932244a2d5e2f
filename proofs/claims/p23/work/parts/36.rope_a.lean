def F_X11_isNoHang (p0 : Int32) : Option (Int32) :=
  (if p0 < 1 then some (1) else (if p0 ≤ 4 then some (0) else some (1)))
set_option maxHeartbeats 4000000 in
set_option maxRecDepth 100000 in
theorem c_X11_isNoHang (l : Launch) (D : va_G) (cI cZ cS cJ : ClassId) (p0 : Int32) {r_o : Int32} (hF : F_X11_isNoHang p0 = some (r_o)) : zMi l yX11_isNoHang (zwl yX11_isNoHang cX11_isNoHang 1 (some .boolean)) { frames := 0, cells := 0, slots := 0, locals := 0 } D (TYS cI cZ cS cJ) [.int p0] [] [] r_o := by
  refine zent_i (own := RX11) (by decide) rfl (Nat.le_of_ble_eq_true rfl) ?_
  intro p e s m below meth c A ls S hr hlocks hK hP hD hA hl
  have hx := S.1
  have hb := S.2.1
  have hml := S.2.2.1
  have hown := S.2.2.2.1
  have hT : ∀ w ∈ zt, w ∈ zwl yX11_isNoHang cX11_isNoHang 1 (some .boolean) := fun _ h => List.mem_cons_of_mem _ h
  have ht : ∀ w ∈ zt, w.before [.int p0].toArray s = true := fun w h => S.2.2.2.2 w (hT w h)
  have hl : lv_has ls 1 [(0, .int p0)] := hl
  have hS : va_S A s.heap s.heap [] := va_S.rf
  unfold F_X11_isNoHang at hF
  refine lv_iload_n hx hb dX11_isNoHang_0 rfl (lv_at hl 0 rfl) ?_
  refine lv_iconst (v := 1) hx hb dX11_isNoHang_1 (by decide) ?_
  refine lv_icmp_lt (tgt := 10) hx hb dX11_isNoHang_2 (by decide) (fun c_1 => ?_) (fun c_1 => ?_)
  · have hF := zi_pos c_1 hF
    refine lv_iconst (v := 1) hx hb dX11_isNoHang_10 (by decide) ?_
    refine lv_goto (tgt := 15) hx hb dX11_isNoHang_11 (by decide) ?_
    have e_0 := zo1 hF
    subst e_0
    exact zret_z (by decide) S hr hlocks hK hP hD hS dX11_isNoHang_15
  · have hF := zi_neg c_1 hF
    refine lv_iload_n hx hb dX11_isNoHang_5 rfl (lv_at hl 0 rfl) ?_
    refine lv_iconst (v := 4) hx hb dX11_isNoHang_6 (by decide) ?_
    refine lv_icmp_le (tgt := 14) hx hb dX11_isNoHang_7 (by decide) (fun c_2 => ?_) (fun c_2 => ?_)
    · have hF := zi_pos c_2 hF
      refine lv_iconst (v := 0) hx hb dX11_isNoHang_14 (by decide) ?_
      have e_0 := zo1 hF
      subst e_0
      exact zret_z (by decide) S hr hlocks hK hP hD hS dX11_isNoHang_15
    · have hF := zi_neg c_2 hF
      refine lv_iconst (v := 1) hx hb dX11_isNoHang_10 (by decide) ?_
      refine lv_goto (tgt := 15) hx hb dX11_isNoHang_11 (by decide) ?_
      have e_0 := zo1 hF
      subst e_0
      exact zret_z (by decide) S hr hlocks hK hP hD hS dX11_isNoHang_15

def L_X11_commonDivisor_7 : Nat → Int32 → Int32 → Int32 → Option (Int32 × Int32 × Int32)
  | 0 => fun _ _ _ => none
  | n + 1 => fun v2 v3 v4 => (if 64 ≤ v4 then some (v2, v3, v4) else (if v3 = 0 then some (v2, v3, v4) else (if v3 = 0 then none else (L_X11_commonDivisor_7 n v3 (v2 - v2 / v3 * v3) (v4 + 1)))))
theorem L_X11_commonDivisor_7_z (v2 : Int32) (v3 : Int32) (v4 : Int32) : L_X11_commonDivisor_7 0 v2 v3 v4 = none := rfl
theorem L_X11_commonDivisor_7_s (n : Nat) (v2 : Int32) (v3 : Int32) (v4 : Int32) : L_X11_commonDivisor_7 (n + 1) v2 v3 v4 = (if 64 ≤ v4 then some (v2, v3, v4) else (if v3 = 0 then some (v2, v3, v4) else (if v3 = 0 then none else (L_X11_commonDivisor_7 n v3 (v2 - v2 / v3 * v3) (v4 + 1))))) := rfl
def F_X11_commonDivisor (p0 : Int32) (p1 : Int32) : Option (Int32) :=
  (zb3 (L_X11_commonDivisor_7 300 p0 p1 0) (fun v2_7 v3_8 v4_9 => some (v2_7)))
set_option maxHeartbeats 4000000 in
set_option maxRecDepth 100000 in
theorem c_X11_commonDivisor (l : Launch) (D : va_G) (cI cZ cS cJ : ClassId) (p0 : Int32) (p1 : Int32) {r_o : Int32} (hF : F_X11_commonDivisor p0 p1 = some (r_o)) : zMi l yX11_commonDivisor (zwl yX11_commonDivisor cX11_commonDivisor 6 (some .int)) { frames := 0, cells := 0, slots := 0, locals := 0 } D (TYS cI cZ cS cJ) [.int p0, .int p1] [] [] r_o := by
  refine zent_i (own := RX11) (by decide) rfl (Nat.le_of_ble_eq_true rfl) ?_
  intro p e s m below meth c A ls S hr hlocks hK hP hD hA hl
  have hx := S.1
  have hb := S.2.1
  have hml := S.2.2.1
  have hown := S.2.2.2.1
  have hT : ∀ w ∈ zt, w ∈ zwl yX11_commonDivisor cX11_commonDivisor 6 (some .int) := fun _ h => List.mem_cons_of_mem _ h
  have ht : ∀ w ∈ zt, w.before [.int p0, .int p1].toArray s = true := fun w h => S.2.2.2.2 w (hT w h)
  have hl : lv_has ls 6 [(0, .int p0), (1, .int p1)] := hl
  have hS : va_S A s.heap s.heap [] := va_S.rf
  unfold F_X11_commonDivisor at hF
  have hloop_7 : ∀ (n : Nat) (v0 : Int32) (v1 : Int32) (v2 : Int32) (v3 : Int32) (v4 : Int32) (v2' : Int32) (v3' : Int32) (v4' : Int32), L_X11_commonDivisor_7 n v2 v3 v4 = some (v2', v3', v4') → ∀ (H : Heap) (locs : List Loc) (ls : Array Slot), va_P D classes [] H → va_D A [] → va_S A s.heap H locs → lv_has ls 6 [(0, .int v0), (1, .int v1), (2, .int v2), (3, .int v3), (4, .int v4)] → (∀ (H : Heap) (locs : List Loc) (ls : Array Slot), va_P D classes [] H → va_D A [] → va_S A s.heap H locs → lv_has ls 6 [(0, .int v0), (1, .int v1), (2, .int v2'), (3, .int v3'), (4, .int v4')] → W p l e { frames := 0, cells := 0, slots := 0, locals := 0 } s m [.int p0, .int p1].toArray below meth c H locs 0 0 (zFi below [.int p0, .int p1] s A D (TYS cI cZ cS cJ) [] r_o) (F0 m 34 ls [])) → W p l e { frames := 0, cells := 0, slots := 0, locals := 0 } s m [.int p0, .int p1].toArray below meth c H locs 0 0 (zFi below [.int p0, .int p1] s A D (TYS cI cZ cS cJ) [] r_o) (F0 m 7 ls []) := by
    intro n
    induction n with
    | zero =>
      intro v0 v1 v2 v3 v4 v2' v3' v4' hF
      rw [L_X11_commonDivisor_7_z] at hF
      cases hF
    | succ n ih_7 =>
      intro v0 v1 v2 v3 v4 v2' v3' v4' hF H locs ls hP hD hS hl hexit_7
      rw [L_X11_commonDivisor_7_s] at hF
      refine lv_iload hx hb dX11_commonDivisor_7 (lv_at hl 4 rfl) ?_
      refine lv_bipush (v := 64) hx hb dX11_commonDivisor_9 (by decide) ?_
      refine lv_icmp_ge (tgt := 34) hx hb dX11_commonDivisor_11 (by decide) (fun c_4 => ?_) (fun c_4 => ?_)
      · have hF := zi_pos c_4 hF
        obtain ⟨e_0, e_1, e_2⟩ := zo3 hF
        subst e_0
        subst e_1
        subst e_2
        exact hexit_7 _ _ _ hP hD hS (lv_sub hl [0, 1, 2, 3, 4] rfl)
      · have hF := zi_neg c_4 hF
        refine lv_iload_n hx hb dX11_commonDivisor_14 rfl (lv_at hl 3 rfl) ?_
        refine lv_if_eq (tgt := 34) hx hb dX11_commonDivisor_15 (by decide) (fun c_5 => ?_) (fun c_5 => ?_)
        · have hF := zi_pos c_5 hF
          obtain ⟨e_0, e_1, e_2⟩ := zo3 hF
          subst e_0
          subst e_1
          subst e_2
          exact hexit_7 _ _ _ hP hD hS (lv_sub hl [0, 1, 2, 3, 4] rfl)
        · have hF := zi_neg c_5 hF
          refine lv_iload_n hx hb dX11_commonDivisor_18 rfl (lv_at hl 2 rfl) ?_
          refine lv_iload_n hx hb dX11_commonDivisor_19 rfl (lv_at hl 3 rfl) ?_
          obtain ⟨h_6, hF⟩ := zi_chk hF
          refine lv_irem hx hb dX11_commonDivisor_20 h_6 ?_
          refine lv_istore (lv' := [(5, .int (v2 - v2 / v3 * v3)), (0, .int v0), (1, .int v1), (2, .int v2), (3, .int v3), (4, .int v4)]) hx hb dX11_commonDivisor_21 hl (by decide) rfl (fun ls hl => ?_)
          refine lv_iload_n hx hb dX11_commonDivisor_23 rfl (lv_at hl 4 rfl) ?_
          refine lv_istore_n (lv' := [(2, .int v3), (5, .int (v2 - v2 / v3 * v3)), (0, .int v0), (1, .int v1), (3, .int v3), (4, .int v4)]) hx hb dX11_commonDivisor_24 rfl hl (by decide) rfl (fun ls hl => ?_)
          refine lv_iload hx hb dX11_commonDivisor_25 (lv_at hl 1 rfl) ?_
          refine lv_istore_n (lv' := [(3, .int (v2 - v2 / v3 * v3)), (2, .int v3), (5, .int (v2 - v2 / v3 * v3)), (0, .int v0), (1, .int v1), (4, .int v4)]) hx hb dX11_commonDivisor_27 rfl hl (by decide) rfl (fun ls hl => ?_)
          refine lv_iinc (v := v4 + 1) (lv' := [(4, .int (v4 + 1)), (3, .int (v2 - v2 / v3 * v3)), (2, .int v3), (5, .int (v2 - v2 / v3 * v3)), (0, .int v0), (1, .int v1)]) hx hb dX11_commonDivisor_28 hl (k := 5) rfl (by rfl) (by decide) rfl (fun ls hl => ?_)
          refine lv_goto (tgt := 7) hx hb dX11_commonDivisor_31 (by decide) ?_
          exact ih_7 v0 v1 v3 (v2 - v2 / v3 * v3) (v4 + 1) _ _ _ hF _ _ _ hP hD hS (lv_sub hl [4, 5, 2, 1, 0] rfl) hexit_7
  refine lv_iload_n hx hb dX11_commonDivisor_0 rfl (lv_at hl 0 rfl) ?_
  refine lv_istore_n (lv' := [(2, .int p0), (0, .int p0), (1, .int p1)]) hx hb dX11_commonDivisor_1 rfl hl (by decide) rfl (fun ls hl => ?_)
  refine lv_iload_n hx hb dX11_commonDivisor_2 rfl (lv_at hl 2 rfl) ?_
  refine lv_istore_n (lv' := [(3, .int p1), (2, .int p0), (0, .int p0), (1, .int p1)]) hx hb dX11_commonDivisor_3 rfl hl (by decide) rfl (fun ls hl => ?_)
  refine lv_iconst (v := 0) hx hb dX11_commonDivisor_4 (by decide) ?_
  refine lv_istore (lv' := [(4, .int 0), (3, .int p1), (2, .int p0), (0, .int p0), (1, .int p1)]) hx hb dX11_commonDivisor_5 hl (by decide) rfl (fun ls hl => ?_)
  obtain ⟨v2_7, v3_8, v4_9, hL_10, hF⟩ := zb3_s hF
  refine hloop_7 300 p0 p1 p0 p1 0 v2_7 v3_8 v4_9 hL_10 _ _ _ hP hD hS (lv_sub hl [3, 4, 2, 1, 0] rfl) (fun H locs ls hP hD hS hl => ?_)
  refine lv_iload_n hx hb dX11_commonDivisor_34 rfl (lv_at hl 2 rfl) ?_
  have e_0 := zo1 hF
  subst e_0
  exact zret_i S hr hlocks hK hP hD hS dX11_commonDivisor_35

def F_X11_type (t_length : Int32) (t_letters : Nat → Int32) (p1 : Int32) : Option (Int32 × Int32 × (Nat → Int32)) :=
  (if p1 < 0 then some ((-1), t_length, t_letters) else (if p1 ≤ 255 then (if t_length < 120 then (if (t_length < 0 ∨ 120 ≤ t_length.toNatClampNeg) then none else some (t_length + 1, t_length + 1, upd t_letters t_length.toNatClampNeg p1)) else some ((-3), t_length, t_letters)) else some ((-1), t_length, t_letters)))
set_option maxHeartbeats 4000000 in
set_option maxRecDepth 100000 in
theorem c_X11_type (l : Launch) (D : va_G) (cI cZ cS cJ : ClassId) (x_a : Nat) (t_a : Nat) (c_a : Nat) (d_a : Nat) (s_a : Nat) (u_a : Nat) (q_a : Nat) (i_a : Nat) (k_a : Nat) (w_a : Nat) (n_a : Nat) (t_a_letters : Nat) (t_a_parts : Nat) (x_asked : Int64) (t_length : Int32) (t_items : Int32) (t_place : Int32) (t_start : Int32) (t_token : Int32) (t_value : Int32) (t_letters : Nat → Int32) (p1 : Int32) {r_o : Int32} {t_length_o : Int32} {t_letters_o : Nat → Int32} (hF : F_X11_type t_length t_letters p1 = some (r_o, t_length_o, t_letters_o)) : zMi l yX11_type (zwl yX11_type cX11_type 2 (some .int)) { frames := 0, cells := 0, slots := 0, locals := 0 } D (TYS cI cZ cS cJ) [.ref x_a, .int p1] [(x_a, .inr (11, [.ref t_a, .ref c_a, .ref d_a, .ref s_a, .ref u_a, .ref q_a, .ref i_a, .ref k_a, .ref w_a, .ref n_a, .long x_asked])), (t_a, .inr (10, [.ref t_a_letters, .ref t_a_parts, .int t_length, .int t_items, .int t_place, .int t_start, .int t_token, .int t_value])), (t_a_letters, .inl (cI, 120, .inl t_letters))] [(x_a, .inr (11, [.ref t_a, .ref c_a, .ref d_a, .ref s_a, .ref u_a, .ref q_a, .ref i_a, .ref k_a, .ref w_a, .ref n_a, .long x_asked])), (t_a, .inr (10, [.ref t_a_letters, .ref t_a_parts, .int t_length_o, .int t_items, .int t_place, .int t_start, .int t_token, .int t_value])), (t_a_letters, .inl (cI, 120, .inl t_letters_o))] r_o := by
  refine zent_i (own := RX11) (by decide) rfl (Nat.le_of_ble_eq_true rfl) ?_
  intro p e s m below meth c A ls S hr hlocks hK hP hD hA hl
  have hx := S.1
  have hb := S.2.1
  have hml := S.2.2.1
  have hown := S.2.2.2.1
  have hT : ∀ w ∈ zt, w ∈ zwl yX11_type cX11_type 2 (some .int) := fun _ h => List.mem_cons_of_mem _ h
  have ht : ∀ w ∈ zt, w.before [.ref x_a, .int p1].toArray s = true := fun w h => S.2.2.2.2 w (hT w h)
  have hl : lv_has ls 2 [(0, .ref x_a), (1, .int p1)] := hl
  have hS : va_S A s.heap s.heap [] := va_S.rf
  unfold F_X11_type at hF
  refine lv_iload_n hx hb dX11_type_0 rfl (lv_at hl 1 rfl) ?_
  refine lv_if_lt (tgt := 11) hx hb dX11_type_1 (by decide) (fun c_1 => ?_) (fun c_1 => ?_)
  · have hF := zi_pos c_1 hF
    refine lv_iconst (v := (-1)) hx hb dX11_type_11 (by decide) ?_
    obtain ⟨e_0, e_1, e_2⟩ := zo3 hF
    subst e_0
    subst e_1
    subst e_2
    exact zret_i S hr hlocks hK hP hD hS dX11_type_12
  · have hF := zi_neg c_1 hF
    refine lv_iload_n hx hb dX11_type_4 rfl (lv_at hl 1 rfl) ?_
    refine lv_sipush (v := 255) hx hb dX11_type_5 (by decide) ?_
    refine lv_icmp_le (tgt := 13) hx hb dX11_type_8 (by decide) (fun c_2 => ?_) (fun c_2 => ?_)
    · have hF := zi_pos c_2 hF
      refine lv_aload_n hx hb dX11_type_13 rfl (lv_at hl 0 rfl) ?_
      refine va_get (D := D) (ci := 11) (v := .ref t_a) (C := RX11) (T := TX11) (N := 11) hx hb ht iyX11 hown hK hP 0 rfl rfl 0 (by decide) (ht _ wf_X11_10) (fun _ h9 => h9) rfl dX11_type_14 ?_
      refine va_get (D := D) (ci := 10) (v := .int t_length) (C := RX10) (T := TX10) (N := 8) hx hb ht iyX10 hown hK hP 1 rfl rfl 2 (by decide) (ht _ wf_X11_84) (fun _ h9 => h9) rfl dX11_type_17 ?_
      refine lv_bipush (v := 120) hx hb dX11_type_20 (by decide) ?_
      refine lv_icmp_lt (tgt := 28) hx hb dX11_type_22 (by decide) (fun c_3 => ?_) (fun c_3 => ?_)
      · have hF := zi_pos c_3 hF
        refine lv_aload_n hx hb dX11_type_28 rfl (lv_at hl 0 rfl) ?_
        refine va_get (D := D) (ci := 11) (v := .ref t_a) (C := RX11) (T := TX11) (N := 11) hx hb ht iyX11 hown hK hP 0 rfl rfl 0 (by decide) (ht _ wf_X11_10) (fun _ h9 => h9) rfl dX11_type_29 ?_
        refine va_get (D := D) (ci := 10) (v := .ref t_a_letters) (C := RX10) (T := TX10) (N := 8) hx hb ht iyX10 hown hK hP 1 rfl rfl 0 (by decide) (ht _ wf_X11_88) (fun _ h9 => h9) rfl dX11_type_32 ?_
        refine lv_aload_n hx hb dX11_type_35 rfl (lv_at hl 0 rfl) ?_
        refine va_get (D := D) (ci := 11) (v := .ref t_a) (C := RX11) (T := TX11) (N := 11) hx hb ht iyX11 hown hK hP 0 rfl rfl 0 (by decide) (ht _ wf_X11_10) (fun _ h9 => h9) rfl dX11_type_36 ?_
        refine va_get (D := D) (ci := 10) (v := .int t_length) (C := RX10) (T := TX10) (N := 8) hx hb ht iyX10 hown hK hP 1 rfl rfl 2 (by decide) (ht _ wf_X11_84) (fun _ h9 => h9) rfl dX11_type_39 ?_
        refine lv_iload_n hx hb dX11_type_42 rfl (lv_at hl 1 rfl) ?_
        obtain ⟨h_4, hF⟩ := zi_chk hF
        refine va_iast hx hb hK hP hD hS 2 0 rfl rfl h_4 dX11_type_43 (fun H locs hP hD hS => ?_)
        have hP : va_P D classes [(x_a, .inr (11, [.ref t_a, .ref c_a, .ref d_a, .ref s_a, .ref u_a, .ref q_a, .ref i_a, .ref k_a, .ref w_a, .ref n_a, .long x_asked])), (t_a, .inr (10, [.ref t_a_letters, .ref t_a_parts, .int t_length, .int t_items, .int t_place, .int t_start, .int t_token, .int t_value])), (t_a_letters, .inl (cI, 120, .inl (upd t_letters t_length.toNatClampNeg p1)))] H := hP
        have hD : va_D A [(x_a, .inr (11, [.ref t_a, .ref c_a, .ref d_a, .ref s_a, .ref u_a, .ref q_a, .ref i_a, .ref k_a, .ref w_a, .ref n_a, .long x_asked])), (t_a, .inr (10, [.ref t_a_letters, .ref t_a_parts, .int t_length, .int t_items, .int t_place, .int t_start, .int t_token, .int t_value])), (t_a_letters, .inl (cI, 120, .inl (upd t_letters t_length.toNatClampNeg p1)))] := hD
        refine lv_aload_n hx hb dX11_type_44 rfl (lv_at hl 0 rfl) ?_
        refine va_get (D := D) (ci := 11) (v := .ref t_a) (C := RX11) (T := TX11) (N := 11) hx hb ht iyX11 hown hK hP 0 rfl rfl 0 (by decide) (ht _ wf_X11_10) (fun _ h9 => h9) rfl dX11_type_45 ?_
        refine lv_dup hx hb dX11_type_48 rfl ?_
        refine va_get (D := D) (ci := 10) (v := .int t_length) (C := RX10) (T := TX10) (N := 8) hx hb ht iyX10 hown hK hP 1 rfl rfl 2 (by decide) (ht _ wf_X11_84) (fun _ h9 => h9) rfl dX11_type_49 ?_
        refine lv_iconst (v := 1) hx hb dX11_type_52 (by decide) ?_
        refine lv_iadd hx hb dX11_type_53 ?_
        refine va_put (D := D) (ci := 10) (v := .int (t_length + 1)) (ty := .int) (C := RX10) (T := TX10) (N := 8) hx hb ht iyX10 tyX10 tyX10_ok nmX10 hown hK hP hD hS 1 rfl rfl 2 (by decide) (ht _ wf_X11_84) (fun _ h9 => h9) rfl (by decide +kernel) rfl rfl (Nat.le_of_ble_eq_true rfl) dX11_type_54 (fun H locs hP hD hS => ?_)
        have hP : va_P D classes [(x_a, .inr (11, [.ref t_a, .ref c_a, .ref d_a, .ref s_a, .ref u_a, .ref q_a, .ref i_a, .ref k_a, .ref w_a, .ref n_a, .long x_asked])), (t_a, .inr (10, [.ref t_a_letters, .ref t_a_parts, .int (t_length + 1), .int t_items, .int t_place, .int t_start, .int t_token, .int t_value])), (t_a_letters, .inl (cI, 120, .inl (upd t_letters t_length.toNatClampNeg p1)))] H := hP
        have hD : va_D A [(x_a, .inr (11, [.ref t_a, .ref c_a, .ref d_a, .ref s_a, .ref u_a, .ref q_a, .ref i_a, .ref k_a, .ref w_a, .ref n_a, .long x_asked])), (t_a, .inr (10, [.ref t_a_letters, .ref t_a_parts, .int (t_length + 1), .int t_items, .int t_place, .int t_start, .int t_token, .int t_value])), (t_a_letters, .inl (cI, 120, .inl (upd t_letters t_length.toNatClampNeg p1)))] := hD
        refine lv_aload_n hx hb dX11_type_57 rfl (lv_at hl 0 rfl) ?_
        refine va_get (D := D) (ci := 11) (v := .ref t_a) (C := RX11) (T := TX11) (N := 11) hx hb ht iyX11 hown hK hP 0 rfl rfl 0 (by decide) (ht _ wf_X11_10) (fun _ h9 => h9) rfl dX11_type_58 ?_
        refine va_get (D := D) (ci := 10) (v := .int (t_length + 1)) (C := RX10) (T := TX10) (N := 8) hx hb ht iyX10 hown hK hP 1 rfl rfl 2 (by decide) (ht _ wf_X11_84) (fun _ h9 => h9) rfl dX11_type_61 ?_
        obtain ⟨e_0, e_1, e_2⟩ := zo3 hF
        subst e_0
        subst e_1
        subst e_2
        exact zret_i S hr hlocks hK hP hD hS dX11_type_64
      · have hF := zi_neg c_3 hF
        refine lv_bipush (v := (-3)) hx hb dX11_type_25 (by decide) ?_
        obtain ⟨e_0, e_1, e_2⟩ := zo3 hF
        subst e_0
        subst e_1
        subst e_2
        exact zret_i S hr hlocks hK hP hD hS dX11_type_27
    · have hF := zi_neg c_2 hF
      refine lv_iconst (v := (-1)) hx hb dX11_type_11 (by decide) ?_
      obtain ⟨e_0, e_1, e_2⟩ := zo3 hF
      subst e_0
      subst e_1
      subst e_2
      exact zret_i S hr hlocks hK hP hD hS dX11_type_12

def F_X11_clear (t_length : Int32) : Option (Int32 × Int32) :=
  some (t_length, 0)
set_option maxHeartbeats 4000000 in
set_option maxRecDepth 100000 in
theorem c_X11_clear (l : Launch) (D : va_G) (cI cZ cS cJ : ClassId) (x_a : Nat) (t_a : Nat) (c_a : Nat) (d_a : Nat) (s_a : Nat) (u_a : Nat) (q_a : Nat) (i_a : Nat) (k_a : Nat) (w_a : Nat) (n_a : Nat) (t_a_letters : Nat) (t_a_parts : Nat) (x_asked : Int64) (t_length : Int32) (t_items : Int32) (t_place : Int32) (t_start : Int32) (t_token : Int32) (t_value : Int32) {r_o : Int32} {t_length_o : Int32} (hF : F_X11_clear t_length = some (r_o, t_length_o)) : zMi l yX11_clear (zwl yX11_clear cX11_clear 2 (some .int)) { frames := 0, cells := 0, slots := 0, locals := 0 } D (TYS cI cZ cS cJ) [.ref x_a] [(x_a, .inr (11, [.ref t_a, .ref c_a, .ref d_a, .ref s_a, .ref u_a, .ref q_a, .ref i_a, .ref k_a, .ref w_a, .ref n_a, .long x_asked])), (t_a, .inr (10, [.ref t_a_letters, .ref t_a_parts, .int t_length, .int t_items, .int t_place, .int t_start, .int t_token, .int t_value]))] [(x_a, .inr (11, [.ref t_a, .ref c_a, .ref d_a, .ref s_a, .ref u_a, .ref q_a, .ref i_a, .ref k_a, .ref w_a, .ref n_a, .long x_asked])), (t_a, .inr (10, [.ref t_a_letters, .ref t_a_parts, .int t_length_o, .int t_items, .int t_place, .int t_start, .int t_token, .int t_value]))] r_o := by
  refine zent_i (own := RX11) (by decide) rfl (Nat.le_of_ble_eq_true rfl) ?_
  intro p e s m below meth c A ls S hr hlocks hK hP hD hA hl
  have hx := S.1
  have hb := S.2.1
  have hml := S.2.2.1
  have hown := S.2.2.2.1
  have hT : ∀ w ∈ zt, w ∈ zwl yX11_clear cX11_clear 2 (some .int) := fun _ h => List.mem_cons_of_mem _ h
  have ht : ∀ w ∈ zt, w.before [.ref x_a].toArray s = true := fun w h => S.2.2.2.2 w (hT w h)
  have hl : lv_has ls 2 [(0, .ref x_a)] := hl
  have hS : va_S A s.heap s.heap [] := va_S.rf
  unfold F_X11_clear at hF
  refine lv_aload_n hx hb dX11_clear_0 rfl (lv_at hl 0 rfl) ?_
  refine va_get (D := D) (ci := 11) (v := .ref t_a) (C := RX11) (T := TX11) (N := 11) hx hb ht iyX11 hown hK hP 0 rfl rfl 0 (by decide) (ht _ wf_X11_10) (fun _ h9 => h9) rfl dX11_clear_1 ?_
  refine va_get (D := D) (ci := 10) (v := .int t_length) (C := RX10) (T := TX10) (N := 8) hx hb ht iyX10 hown hK hP 1 rfl rfl 2 (by decide) (ht _ wf_X11_84) (fun _ h9 => h9) rfl dX11_clear_4 ?_
  refine lv_istore_n (lv' := [(1, .int t_length), (0, .ref x_a)]) hx hb dX11_clear_7 rfl hl (by decide) rfl (fun ls hl => ?_)
  refine lv_aload_n hx hb dX11_clear_8 rfl (lv_at hl 1 rfl) ?_
  refine va_get (D := D) (ci := 11) (v := .ref t_a) (C := RX11) (T := TX11) (N := 11) hx hb ht iyX11 hown hK hP 0 rfl rfl 0 (by decide) (ht _ wf_X11_10) (fun _ h9 => h9) rfl dX11_clear_9 ?_
  refine lv_iconst (v := 0) hx hb dX11_clear_12 (by decide) ?_
  refine va_put (D := D) (ci := 10) (v := .int 0) (ty := .int) (C := RX10) (T := TX10) (N := 8) hx hb ht iyX10 tyX10 tyX10_ok nmX10 hown hK hP hD hS 1 rfl rfl 2 (by decide) (ht _ wf_X11_84) (fun _ h9 => h9) rfl (by decide +kernel) rfl rfl (Nat.le_of_ble_eq_true rfl) dX11_clear_13 (fun H locs hP hD hS => ?_)
  have hP : va_P D classes [(x_a, .inr (11, [.ref t_a, .ref c_a, .ref d_a, .ref s_a, .ref u_a, .ref q_a, .ref i_a, .ref k_a, .ref w_a, .ref n_a, .long x_asked])), (t_a, .inr (10, [.ref t_a_letters, .ref t_a_parts, .int 0, .int t_items, .int t_place, .int t_start, .int t_token, .int t_value]))] H := hP
  have hD : va_D A [(x_a, .inr (11, [.ref t_a, .ref c_a, .ref d_a, .ref s_a, .ref u_a, .ref q_a, .ref i_a, .ref k_a, .ref w_a, .ref n_a, .long x_asked])), (t_a, .inr (10, [.ref t_a_letters, .ref t_a_parts, .int 0, .int t_items, .int t_place, .int t_start, .int t_token, .int t_value]))] := hD
  refine lv_iload_n hx hb dX11_clear_16 rfl (lv_at hl 0 rfl) ?_
  obtain ⟨e_0, e_1⟩ := zo2 hF
  subst e_0
  subst e_1
  exact zret_i S hr hlocks hK hP hD hS dX11_clear_17

def F_X11_isNobody (c_size : Int32) (p1 : Int32) : Option (Int32) :=
  (if p1 < 0 then some (1) else (if p1 < c_size then some (0) else some (1)))
set_option maxHeartbeats 4000000 in
set_option maxRecDepth 100000 in
theorem c_X11_isNobody (l : Launch) (D : va_G) (cI cZ cS cJ : ClassId) (x_a : Nat) (t_a : Nat) (c_a : Nat) (d_a : Nat) (s_a : Nat) (u_a : Nat) (q_a : Nat) (i_a : Nat) (k_a : Nat) (w_a : Nat) (n_a : Nat) (c_a_period : Nat) (c_a_hang : Nat) (c_a_start : Nat) (c_a_wind : Nat) (x_asked : Int64) (c_every : Int32) (c_size : Int32) (p1 : Int32) {r_o : Int32} (hF : F_X11_isNobody c_size p1 = some (r_o)) : zMi l yX11_isNobody (zwl yX11_isNobody cX11_isNobody 2 (some .boolean)) { frames := 0, cells := 0, slots := 0, locals := 0 } D (TYS cI cZ cS cJ) [.ref x_a, .int p1] [(x_a, .inr (11, [.ref t_a, .ref c_a, .ref d_a, .ref s_a, .ref u_a, .ref q_a, .ref i_a, .ref k_a, .ref w_a, .ref n_a, .long x_asked])), (c_a, .inr (1, [.int c_every, .int c_size, .ref c_a_period, .ref c_a_hang, .ref c_a_start, .ref c_a_wind]))] [(x_a, .inr (11, [.ref t_a, .ref c_a, .ref d_a, .ref s_a, .ref u_a, .ref q_a, .ref i_a, .ref k_a, .ref w_a, .ref n_a, .long x_asked])), (c_a, .inr (1, [.int c_every, .int c_size, .ref c_a_period, .ref c_a_hang, .ref c_a_start, .ref c_a_wind]))] r_o := by
  refine zent_i (own := RX11) (by decide) rfl (Nat.le_of_ble_eq_true rfl) ?_
  intro p e s m below meth c A ls S hr hlocks hK hP hD hA hl
  have hx := S.1
  have hb := S.2.1
  have hml := S.2.2.1
  have hown := S.2.2.2.1
  have hT : ∀ w ∈ zt, w ∈ zwl yX11_isNobody cX11_isNobody 2 (some .boolean) := fun _ h => List.mem_cons_of_mem _ h
  have ht : ∀ w ∈ zt, w.before [.ref x_a, .int p1].toArray s = true := fun w h => S.2.2.2.2 w (hT w h)
  have hl : lv_has ls 2 [(0, .ref x_a), (1, .int p1)] := hl
  have hS : va_S A s.heap s.heap [] := va_S.rf
  unfold F_X11_isNobody at hF
  refine lv_iload_n hx hb dX11_isNobody_0 rfl (lv_at hl 1 rfl) ?_
  refine lv_if_lt (tgt := 15) hx hb dX11_isNobody_1 (by decide) (fun c_1 => ?_) (fun c_1 => ?_)
  · have hF := zi_pos c_1 hF
    refine lv_iconst (v := 1) hx hb dX11_isNobody_15 (by decide) ?_
    refine lv_goto (tgt := 20) hx hb dX11_isNobody_16 (by decide) ?_
    have e_0 := zo1 hF
    subst e_0
    exact zret_z (by decide) S hr hlocks hK hP hD hS dX11_isNobody_20
  · have hF := zi_neg c_1 hF
    refine lv_iload_n hx hb dX11_isNobody_4 rfl (lv_at hl 1 rfl) ?_
    refine lv_aload_n hx hb dX11_isNobody_5 rfl (lv_at hl 0 rfl) ?_
    refine va_get (D := D) (ci := 11) (v := .ref c_a) (C := RX11) (T := TX11) (N := 11) hx hb ht iyX11 hown hK hP 0 rfl rfl 1 (by decide) (ht _ wf_X11_19) (fun _ h9 => h9) rfl dX11_isNobody_6 ?_
    refine va_get (D := D) (ci := 1) (v := .int c_size) (C := RX1) (T := TX1) (N := 6) hx hb ht iyX1 hown hK hP 1 rfl rfl 1 (by decide) (ht _ wf_X11_183) (fun _ h9 => h9) rfl dX11_isNobody_9 ?_
    refine lv_icmp_lt (tgt := 19) hx hb dX11_isNobody_12 (by decide) (fun c_2 => ?_) (fun c_2 => ?_)
    · have hF := zi_pos c_2 hF
      refine lv_iconst (v := 0) hx hb dX11_isNobody_19 (by decide) ?_
      have e_0 := zo1 hF
      subst e_0
      exact zret_z (by decide) S hr hlocks hK hP hD hS dX11_isNobody_20
    · have hF := zi_neg c_2 hF
      refine lv_iconst (v := 1) hx hb dX11_isNobody_15 (by decide) ?_
      refine lv_goto (tgt := 20) hx hb dX11_isNobody_16 (by decide) ?_
      have e_0 := zo1 hF
      subst e_0
      exact zret_z (by decide) S hr hlocks hK hP hD hS dX11_isNobody_20

theorem lk_X11_152 : zLk RX11 152 yX8_step cX8_step 3 (some .int) 1 := ⟨⟨wm_X11_152, wo_X8_step, we_X8_X8_step, wi_X8, wd_X8_step⟩, by decide, by decide, by decide +kernel⟩
def L_X11_playOn_2 (u_every : Int32) (c_size : Int32) (c_period : Nat → Int32) (c_hang : Nat → Int32) (v1 : Int32) : Nat → Int32 → Int32 → Int32 → (Nat → Int32) → (Nat → Int32) → (Nat → Int32) → Int32 → Option (Int32 × Int32 × Int32 × (Nat → Int32) × (Nat → Int32) × (Nat → Int32) × Int32)
  | 0 => fun _ _ _ _ _ _ _ => none
  | n + 1 => fun u_tick u_round u_inside u_up u_due u_wind v2 => (if v1 ≤ v2 then some (u_tick, u_round, u_inside, u_up, u_due, u_wind, v2) else (zb7 (F_X8_step u_tick u_every u_round u_inside u_up u_due u_wind c_size c_period c_hang) (fun r_11 u_tick_12 u_round_13 u_inside_14 u_up_15 u_due_16 u_wind_17 => (L_X11_playOn_2 u_every c_size c_period c_hang v1 n u_tick_12 u_round_13 u_inside_14 u_up_15 u_due_16 u_wind_17 (v2 + 1)))))
theorem L_X11_playOn_2_z (u_every : Int32) (c_size : Int32) (c_period : Nat → Int32) (c_hang : Nat → Int32) (v1 : Int32) (u_tick : Int32) (u_round : Int32) (u_inside : Int32) (u_up : Nat → Int32) (u_due : Nat → Int32) (u_wind : Nat → Int32) (v2 : Int32) : L_X11_playOn_2 u_every c_size c_period c_hang v1 0 u_tick u_round u_inside u_up u_due u_wind v2 = none := rfl
theorem L_X11_playOn_2_s (u_every : Int32) (c_size : Int32) (c_period : Nat → Int32) (c_hang : Nat → Int32) (v1 : Int32) (n : Nat) (u_tick : Int32) (u_round : Int32) (u_inside : Int32) (u_up : Nat → Int32) (u_due : Nat → Int32) (u_wind : Nat → Int32) (v2 : Int32) : L_X11_playOn_2 u_every c_size c_period c_hang v1 (n + 1) u_tick u_round u_inside u_up u_due u_wind v2 = (if v1 ≤ v2 then some (u_tick, u_round, u_inside, u_up, u_due, u_wind, v2) else (zb7 (F_X8_step u_tick u_every u_round u_inside u_up u_due u_wind c_size c_period c_hang) (fun r_11 u_tick_12 u_round_13 u_inside_14 u_up_15 u_due_16 u_wind_17 => (L_X11_playOn_2 u_every c_size c_period c_hang v1 n u_tick_12 u_round_13 u_inside_14 u_up_15 u_due_16 u_wind_17 (v2 + 1))))) := rfl
def F_X11_playOn (u_tick : Int32) (u_every : Int32) (u_round : Int32) (u_inside : Int32) (u_up : Nat → Int32) (u_due : Nat → Int32) (u_wind : Nat → Int32) (c_size : Int32) (c_period : Nat → Int32) (c_hang : Nat → Int32) (p1 : Int32) : Option (Int32 × Int32 × Int32 × (Nat → Int32) × (Nat → Int32) × (Nat → Int32)) :=
  (zb7 (L_X11_playOn_2 u_every c_size c_period c_hang p1 300 u_tick u_round u_inside u_up u_due u_wind 0) (fun u_tick_19 u_round_20 u_inside_21 u_up_22 u_due_23 u_wind_24 v2_25 => some (u_tick_19, u_round_20, u_inside_21, u_up_22, u_due_23, u_wind_24)))
set_option maxHeartbeats 4000000 in
set_option maxRecDepth 100000 in
theorem c_X11_playOn (l : Launch) (D : va_G) (cI cZ cS cJ : ClassId) (x_a : Nat) (t_a : Nat) (c_a : Nat) (d_a : Nat) (s_a : Nat) (u_a : Nat) (q_a : Nat) (i_a : Nat) (k_a : Nat) (w_a : Nat) (n_a : Nat) (u_a_up : Nat) (u_a_due : Nat) (u_a_wind : Nat) (c_a_period : Nat) (c_a_hang : Nat) (c_a_start : Nat) (c_a_wind : Nat) (x_asked : Int64) (u_tick : Int32) (u_every : Int32) (u_round : Int32) (u_inside : Int32) (u_up : Nat → Int32) (u_due : Nat → Int32) (u_wind : Nat → Int32) (c_every : Int32) (c_size : Int32) (c_period : Nat → Int32) (c_hang : Nat → Int32) (p1 : Int32) {u_tick_o : Int32} {u_round_o : Int32} {u_inside_o : Int32} {u_up_o : Nat → Int32} {u_due_o : Nat → Int32} {u_wind_o : Nat → Int32} (hF : F_X11_playOn u_tick u_every u_round u_inside u_up u_due u_wind c_size c_period c_hang p1 = some (u_tick_o, u_round_o, u_inside_o, u_up_o, u_due_o, u_wind_o)) : zMv l yX11_playOn (zwl yX11_playOn cX11_playOn 3 none) { frames := 3, cells := 0, slots := 0, locals := 65 } D (TYS cI cZ cS cJ) [.ref x_a, .int p1] [(x_a, .inr (11, [.ref t_a, .ref c_a, .ref d_a, .ref s_a, .ref u_a, .ref q_a, .ref i_a, .ref k_a, .ref w_a, .ref n_a, .long x_asked])), (u_a, .inr (8, [.int u_tick, .int u_every, .int u_round, .int u_inside, .ref u_a_up, .ref u_a_due, .ref u_a_wind])), (u_a_up, .inl (cI, 6, .inl u_up)), (u_a_due, .inl (cI, 6, .inl u_due)), (u_a_wind, .inl (cI, 6, .inl u_wind)), (c_a, .inr (1, [.int c_every, .int c_size, .ref c_a_period, .ref c_a_hang, .ref c_a_start, .ref c_a_wind])), (c_a_period, .inl (cI, 6, .inl c_period)), (c_a_hang, .inl (cI, 6, .inl c_hang))] [(x_a, .inr (11, [.ref t_a, .ref c_a, .ref d_a, .ref s_a, .ref u_a, .ref q_a, .ref i_a, .ref k_a, .ref w_a, .ref n_a, .long x_asked])), (u_a, .inr (8, [.int u_tick_o, .int u_every, .int u_round_o, .int u_inside_o, .ref u_a_up, .ref u_a_due, .ref u_a_wind])), (u_a_up, .inl (cI, 6, .inl u_up_o)), (u_a_due, .inl (cI, 6, .inl u_due_o)), (u_a_wind, .inl (cI, 6, .inl u_wind_o)), (c_a, .inr (1, [.int c_every, .int c_size, .ref c_a_period, .ref c_a_hang, .ref c_a_start, .ref c_a_wind])), (c_a_period, .inl (cI, 6, .inl c_period)), (c_a_hang, .inl (cI, 6, .inl c_hang))] := by
  refine zent_v (own := RX11) (by decide) rfl (Nat.le_of_ble_eq_true rfl) ?_
  intro p e s m below meth c A ls S hr hlocks hK hP hD hA hl
  have hx := S.1
  have hb := S.2.1
  have hml := S.2.2.1
  have hown := S.2.2.2.1
  have hT : ∀ w ∈ zt, w ∈ zwl yX11_playOn cX11_playOn 3 none := fun _ h => List.mem_cons_of_mem _ h
  have ht : ∀ w ∈ zt, w.before [.ref x_a, .int p1].toArray s = true := fun w h => S.2.2.2.2 w (hT w h)
  have hl : lv_has ls 3 [(0, .ref x_a), (1, .int p1)] := hl
  have hS : va_S A s.heap s.heap [] := va_S.rf
  unfold F_X11_playOn at hF
  have hloop_2 : ∀ (n : Nat) (x_asked : Int64) (u_tick : Int32) (u_every : Int32) (u_round : Int32) (u_inside : Int32) (u_up : Nat → Int32) (u_due : Nat → Int32) (u_wind : Nat → Int32) (c_every : Int32) (c_size : Int32) (c_period : Nat → Int32) (c_hang : Nat → Int32) (v1 : Int32) (v2 : Int32) (u_tick' : Int32) (u_round' : Int32) (u_inside' : Int32) (u_up' : Nat → Int32) (u_due' : Nat → Int32) (u_wind' : Nat → Int32) (v2' : Int32), L_X11_playOn_2 u_every c_size c_period c_hang v1 n u_tick u_round u_inside u_up u_due u_wind v2 = some (u_tick', u_round', u_inside', u_up', u_due', u_wind', v2') → ∀ (H : Heap) (locs : List Loc) (ls : Array Slot), va_P D classes [(x_a, .inr (11, [.ref t_a, .ref c_a, .ref d_a, .ref s_a, .ref u_a, .ref q_a, .ref i_a, .ref k_a, .ref w_a, .ref n_a, .long x_asked])), (u_a, .inr (8, [.int u_tick, .int u_every, .int u_round, .int u_inside, .ref u_a_up, .ref u_a_due, .ref u_a_wind])), (u_a_up, .inl (cI, 6, .inl u_up)), (u_a_due, .inl (cI, 6, .inl u_due)), (u_a_wind, .inl (cI, 6, .inl u_wind)), (c_a, .inr (1, [.int c_every, .int c_size, .ref c_a_period, .ref c_a_hang, .ref c_a_start, .ref c_a_wind])), (c_a_period, .inl (cI, 6, .inl c_period)), (c_a_hang, .inl (cI, 6, .inl c_hang))] H → va_D A [(x_a, .inr (11, [.ref t_a, .ref c_a, .ref d_a, .ref s_a, .ref u_a, .ref q_a, .ref i_a, .ref k_a, .ref w_a, .ref n_a, .long x_asked])), (u_a, .inr (8, [.int u_tick, .int u_every, .int u_round, .int u_inside, .ref u_a_up, .ref u_a_due, .ref u_a_wind])), (u_a_up, .inl (cI, 6, .inl u_up)), (u_a_due, .inl (cI, 6, .inl u_due)), (u_a_wind, .inl (cI, 6, .inl u_wind)), (c_a, .inr (1, [.int c_every, .int c_size, .ref c_a_period, .ref c_a_hang, .ref c_a_start, .ref c_a_wind])), (c_a_period, .inl (cI, 6, .inl c_period)), (c_a_hang, .inl (cI, 6, .inl c_hang))] → va_S A s.heap H locs → lv_has ls 3 [(0, .ref x_a), (1, .int v1), (2, .int v2)] → (∀ (H : Heap) (locs : List Loc) (ls : Array Slot), va_P D classes [(x_a, .inr (11, [.ref t_a, .ref c_a, .ref d_a, .ref s_a, .ref u_a, .ref q_a, .ref i_a, .ref k_a, .ref w_a, .ref n_a, .long x_asked])), (u_a, .inr (8, [.int u_tick', .int u_every, .int u_round', .int u_inside', .ref u_a_up, .ref u_a_due, .ref u_a_wind])), (u_a_up, .inl (cI, 6, .inl u_up')), (u_a_due, .inl (cI, 6, .inl u_due')), (u_a_wind, .inl (cI, 6, .inl u_wind')), (c_a, .inr (1, [.int c_every, .int c_size, .ref c_a_period, .ref c_a_hang, .ref c_a_start, .ref c_a_wind])), (c_a_period, .inl (cI, 6, .inl c_period)), (c_a_hang, .inl (cI, 6, .inl c_hang))] H → va_D A [(x_a, .inr (11, [.ref t_a, .ref c_a, .ref d_a, .ref s_a, .ref u_a, .ref q_a, .ref i_a, .ref k_a, .ref w_a, .ref n_a, .long x_asked])), (u_a, .inr (8, [.int u_tick', .int u_every, .int u_round', .int u_inside', .ref u_a_up, .ref u_a_due, .ref u_a_wind])), (u_a_up, .inl (cI, 6, .inl u_up')), (u_a_due, .inl (cI, 6, .inl u_due')), (u_a_wind, .inl (cI, 6, .inl u_wind')), (c_a, .inr (1, [.int c_every, .int c_size, .ref c_a_period, .ref c_a_hang, .ref c_a_start, .ref c_a_wind])), (c_a_period, .inl (cI, 6, .inl c_period)), (c_a_hang, .inl (cI, 6, .inl c_hang))] → va_S A s.heap H locs → lv_has ls 3 [(0, .ref x_a), (1, .int v1), (2, .int v2')] → W p l e { frames := 3, cells := 0, slots := 0, locals := 65 } s m [.ref x_a, .int p1].toArray below meth c H locs 0 0 (zFv below [.ref x_a, .int p1] s A D (TYS cI cZ cS cJ) [(x_a, .inr (11, [.ref t_a, .ref c_a, .ref d_a, .ref s_a, .ref u_a, .ref q_a, .ref i_a, .ref k_a, .ref w_a, .ref n_a, .long x_asked])), (u_a, .inr (8, [.int u_tick_o, .int u_every, .int u_round_o, .int u_inside_o, .ref u_a_up, .ref u_a_due, .ref u_a_wind])), (u_a_up, .inl (cI, 6, .inl u_up_o)), (u_a_due, .inl (cI, 6, .inl u_due_o)), (u_a_wind, .inl (cI, 6, .inl u_wind_o)), (c_a, .inr (1, [.int c_every, .int c_size, .ref c_a_period, .ref c_a_hang, .ref c_a_start, .ref c_a_wind])), (c_a_period, .inl (cI, 6, .inl c_period)), (c_a_hang, .inl (cI, 6, .inl c_hang))]) (F0 m 25 ls [])) → W p l e { frames := 3, cells := 0, slots := 0, locals := 65 } s m [.ref x_a, .int p1].toArray below meth c H locs 0 0 (zFv below [.ref x_a, .int p1] s A D (TYS cI cZ cS cJ) [(x_a, .inr (11, [.ref t_a, .ref c_a, .ref d_a, .ref s_a, .ref u_a, .ref q_a, .ref i_a, .ref k_a, .ref w_a, .ref n_a, .long x_asked])), (u_a, .inr (8, [.int u_tick_o, .int u_every, .int u_round_o, .int u_inside_o, .ref u_a_up, .ref u_a_due, .ref u_a_wind])), (u_a_up, .inl (cI, 6, .inl u_up_o)), (u_a_due, .inl (cI, 6, .inl u_due_o)), (u_a_wind, .inl (cI, 6, .inl u_wind_o)), (c_a, .inr (1, [.int c_every, .int c_size, .ref c_a_period, .ref c_a_hang, .ref c_a_start, .ref c_a_wind])), (c_a_period, .inl (cI, 6, .inl c_period)), (c_a_hang, .inl (cI, 6, .inl c_hang))]) (F0 m 2 ls []) := by
    intro n
    induction n with
    | zero =>
      intro x_asked u_tick u_every u_round u_inside u_up u_due u_wind c_every c_size c_period c_hang v1 v2 u_tick' u_round' u_inside' u_up' u_due' u_wind' v2' hF
      rw [L_X11_playOn_2_z] at hF
      cases hF
    | succ n ih_2 =>
      intro x_asked u_tick u_every u_round u_inside u_up u_due u_wind c_every c_size c_period c_hang v1 v2 u_tick' u_round' u_inside' u_up' u_due' u_wind' v2' hF H locs ls hP hD hS hl hexit_2
      rw [L_X11_playOn_2_s] at hF
      refine lv_iload_n hx hb dX11_playOn_2 rfl (lv_at hl 2 rfl) ?_
      refine lv_iload_n hx hb dX11_playOn_3 rfl (lv_at hl 1 rfl) ?_
      refine lv_icmp_ge (tgt := 25) hx hb dX11_playOn_4 (by decide) (fun c_10 => ?_) (fun c_10 => ?_)
      · have hF := zi_pos c_10 hF
        obtain ⟨e_0, e_1, e_2, e_3, e_4, e_5, e_6⟩ := zo7 hF
        subst e_0
        subst e_1
        subst e_2
        subst e_3
        subst e_4
        subst e_5
        subst e_6
        exact hexit_2 _ _ _ hP hD hS (lv_sub hl [0, 1, 2] rfl)
      · have hF := zi_neg c_10 hF
        refine lv_aload_n hx hb dX11_playOn_7 rfl (lv_at hl 0 rfl) ?_
        refine va_get (D := D) (ci := 11) (v := .ref u_a) (C := RX11) (T := TX11) (N := 11) hx hb ht iyX11 hown hK hP 0 rfl rfl 4 (by decide) (ht _ wf_X11_33) (fun _ h9 => h9) rfl dX11_playOn_8 ?_
        refine lv_aload_n hx hb dX11_playOn_11 rfl (lv_at hl 0 rfl) ?_
        refine va_get (D := D) (ci := 11) (v := .ref c_a) (C := RX11) (T := TX11) (N := 11) hx hb ht iyX11 hown hK hP 0 rfl rfl 1 (by decide) (ht _ wf_X11_19) (fun _ h9 => h9) rfl dX11_playOn_12 ?_
        obtain ⟨r_11, u_tick_12, u_round_13, u_inside_14, u_up_15, u_due_16, u_wind_17, hc_18, hF⟩ := zb7_s hF
        refine zcv_i (ws1 := [(x_a, .inr (11, [.ref t_a, .ref c_a, .ref d_a, .ref s_a, .ref u_a, .ref q_a, .ref i_a, .ref k_a, .ref w_a, .ref n_a, .long x_asked])), (u_a, .inr (8, [.int u_tick_12, .int u_every, .int u_round_13, .int u_inside_14, .ref u_a_up, .ref u_a_due, .ref u_a_wind])), (u_a_up, .inl (cI, 6, .inl u_up_15)), (u_a_due, .inl (cI, 6, .inl u_due_16)), (u_a_wind, .inl (cI, 6, .inl u_wind_17)), (c_a, .inr (1, [.int c_every, .int c_size, .ref c_a_period, .ref c_a_hang, .ref c_a_start, .ref c_a_wind])), (c_a_period, .inl (cI, 6, .inl c_period)), (c_a_hang, .inl (cI, 6, .inl c_hang))]) S hT lk_X11_152 (c_X8_step l D cI cZ cS cJ u_a u_a_up u_a_due u_a_wind c_a c_a_period c_a_hang c_a_start c_a_wind u_tick u_every u_round u_inside u_up u_due u_wind c_every c_size c_period c_hang hc_18) ⟨rfl, rfl, Nat.le_of_ble_eq_true rfl, Nat.le_of_ble_eq_true rfl⟩ hK hP hD hS hA [1, 2, 3, 4, 5, 6, 7] [0] [0, 1, 2, 3, 4, 5, 6, 7] rfl rfl rfl rfl rfl rfl rfl rfl rfl rfl rfl hl.1 rfl (Nat.le_of_ble_eq_true rfl) dX11_playOn_15 ⟨Nat.zero_le _, Nat.zero_le _⟩ (fun H locs hP hD hS => ?_)
        refine lv_pop hx hb dX11_playOn_18 rfl ?_
        refine lv_iinc (v := v2 + 1) (lv' := [(2, .int (v2 + 1)), (0, .ref x_a), (1, .int v1)]) hx hb dX11_playOn_19 hl (k := 2) rfl (by rfl) (by decide) rfl (fun ls hl => ?_)
        refine lv_goto (tgt := 2) hx hb dX11_playOn_22 (by decide) ?_
        exact ih_2 x_asked u_tick_12 u_every u_round_13 u_inside_14 u_up_15 u_due_16 u_wind_17 c_every c_size c_period c_hang v1 (v2 + 1) _ _ _ _ _ _ _ hF _ _ _ hP hD hS (lv_sub hl [1, 2, 0] rfl) hexit_2
  refine lv_iconst (v := 0) hx hb dX11_playOn_0 (by decide) ?_
  refine lv_istore_n (lv' := [(2, .int 0), (0, .ref x_a), (1, .int p1)]) hx hb dX11_playOn_1 rfl hl (by decide) rfl (fun ls hl => ?_)
  obtain ⟨u_tick_19, u_round_20, u_inside_21, u_up_22, u_due_23, u_wind_24, v2_25, hL_26, hF⟩ := zb7_s hF
  refine hloop_2 300 x_asked u_tick u_every u_round u_inside u_up u_due u_wind c_every c_size c_period c_hang p1 0 u_tick_19 u_round_20 u_inside_21 u_up_22 u_due_23 u_wind_24 v2_25 hL_26 _ _ _ hP hD hS (lv_sub hl [1, 2, 0] rfl) (fun H locs ls hP hD hS hl => ?_)
  obtain ⟨e_0, e_1, e_2, e_3, e_4, e_5⟩ := zo6 hF
  subst e_0
  subst e_1
  subst e_2
  subst e_3
  subst e_4
  subst e_5
  exact zret_v S hr hlocks hK hP hD hS dX11_playOn_25

theorem lk_X11_116 : zLk RX11 116 yX8_holds cX8_holds 2 (some .boolean) 1 := ⟨⟨wm_X11_116, wo_X8_holds, we_X8_X8_holds, wi_X8, wd_X8_holds⟩, by decide, by decide, by decide +kernel⟩
def L_X11_playTillOut_2 (u_every : Int32) (c_size : Int32) (c_period : Nat → Int32) (c_hang : Nat → Int32) (v1 : Int32) : Nat → Int32 → Int32 → Int32 → (Nat → Int32) → (Nat → Int32) → (Nat → Int32) → Int32 → Option ((Int32 × Int32 × Int32 × (Nat → Int32) × (Nat → Int32) × (Nat → Int32) × Int32) ⊕ (Int32 × Int32 × Int32 × Int32 × (Nat → Int32) × (Nat → Int32) × (Nat → Int32)))
  | 0 => fun _ _ _ _ _ _ _ => none
  | n + 1 => fun u_tick u_round u_inside u_up u_due u_wind v2 => (if 120 < v2 then some (.inl (u_tick, u_round, u_inside, u_up, u_due, u_wind, v2)) else (zb7 (F_X8_step u_tick u_every u_round u_inside u_up u_due u_wind c_size c_period c_hang) (fun r_14 u_tick_15 u_round_16 u_inside_17 u_up_18 u_due_19 u_wind_20 => (zb1 (F_X8_holds u_inside_17 v1) (fun r_22 => (if r_22 = 0 then some (.inr (v2, u_tick_15, u_round_16, u_inside_17, u_up_18, u_due_19, u_wind_20)) else (L_X11_playTillOut_2 u_every c_size c_period c_hang v1 n u_tick_15 u_round_16 u_inside_17 u_up_18 u_due_19 u_wind_20 (v2 + 1))))))))
theorem L_X11_playTillOut_2_z (u_every : Int32) (c_size : Int32) (c_period : Nat → Int32) (c_hang : Nat → Int32) (v1 : Int32) (u_tick : Int32) (u_round : Int32) (u_inside : Int32) (u_up : Nat → Int32) (u_due : Nat → Int32) (u_wind : Nat → Int32) (v2 : Int32) : L_X11_playTillOut_2 u_every c_size c_period c_hang v1 0 u_tick u_round u_inside u_up u_due u_wind v2 = none := rfl
theorem L_X11_playTillOut_2_s (u_every : Int32) (c_size : Int32) (c_period : Nat → Int32) (c_hang : Nat → Int32) (v1 : Int32) (n : Nat) (u_tick : Int32) (u_round : Int32) (u_inside : Int32) (u_up : Nat → Int32) (u_due : Nat → Int32) (u_wind : Nat → Int32) (v2 : Int32) : L_X11_playTillOut_2 u_every c_size c_period c_hang v1 (n + 1) u_tick u_round u_inside u_up u_due u_wind v2 = (if 120 < v2 then some (.inl (u_tick, u_round, u_inside, u_up, u_due, u_wind, v2)) else (zb7 (F_X8_step u_tick u_every u_round u_inside u_up u_due u_wind c_size c_period c_hang) (fun r_14 u_tick_15 u_round_16 u_inside_17 u_up_18 u_due_19 u_wind_20 => (zb1 (F_X8_holds u_inside_17 v1) (fun r_22 => (if r_22 = 0 then some (.inr (v2, u_tick_15, u_round_16, u_inside_17, u_up_18, u_due_19, u_wind_20)) else (L_X11_playTillOut_2 u_every c_size c_period c_hang v1 n u_tick_15 u_round_16 u_inside_17 u_up_18 u_due_19 u_wind_20 (v2 + 1)))))))) := rfl
def F_X11_playTillOut (u_tick : Int32) (u_every : Int32) (u_round : Int32) (u_inside : Int32) (u_up : Nat → Int32) (u_due : Nat → Int32) (u_wind : Nat → Int32) (c_size : Int32) (c_period : Nat → Int32) (c_hang : Nat → Int32) (p1 : Int32) : Option (Int32 × Int32 × Int32 × Int32 × (Nat → Int32) × (Nat → Int32) × (Nat → Int32)) :=
  (zs7 (L_X11_playTillOut_2 u_every c_size c_period c_hang p1 300 u_tick u_round u_inside u_up u_due u_wind 1) (fun u_tick_25 u_round_26 u_inside_27 u_up_28 u_due_29 u_wind_30 v2_31 => some ((-9), u_tick_25, u_round_26, u_inside_27, u_up_28, u_due_29, u_wind_30)))
set_option maxHeartbeats 4000000 in
set_option maxRecDepth 100000 in
theorem c_X11_playTillOut (l : Launch) (D : va_G) (cI cZ cS cJ : ClassId) (x_a : Nat) (t_a : Nat) (c_a : Nat) (d_a : Nat) (s_a : Nat) (u_a : Nat) (q_a : Nat) (i_a : Nat) (k_a : Nat) (w_a : Nat) (n_a : Nat) (u_a_up : Nat) (u_a_due : Nat) (u_a_wind : Nat) (c_a_period : Nat) (c_a_hang : Nat) (c_a_start : Nat) (c_a_wind : Nat) (x_asked : Int64) (u_tick : Int32) (u_every : Int32) (u_round : Int32) (u_inside : Int32) (u_up : Nat → Int32) (u_due : Nat → Int32) (u_wind : Nat → Int32) (c_every : Int32) (c_size : Int32) (c_period : Nat → Int32) (c_hang : Nat → Int32) (p1 : Int32) {r_o : Int32} {u_tick_o : Int32} {u_round_o : Int32} {u_inside_o : Int32} {u_up_o : Nat → Int32} {u_due_o : Nat → Int32} {u_wind_o : Nat → Int32} (hF : F_X11_playTillOut u_tick u_every u_round u_inside u_up u_due u_wind c_size c_period c_hang p1 = some (r_o, u_tick_o, u_round_o, u_inside_o, u_up_o, u_due_o, u_wind_o)) : zMi l yX11_playTillOut (zwl yX11_playTillOut cX11_playTillOut 3 (some .int)) { frames := 3, cells := 0, slots := 0, locals := 65 } D (TYS cI cZ cS cJ) [.ref x_a, .int p1] [(x_a, .inr (11, [.ref t_a, .ref c_a, .ref d_a, .ref s_a, .ref u_a, .ref q_a, .ref i_a, .ref k_a, .ref w_a, .ref n_a, .long x_asked])), (u_a, .inr (8, [.int u_tick, .int u_every, .int u_round, .int u_inside, .ref u_a_up, .ref u_a_due, .ref u_a_wind])), (u_a_up, .inl (cI, 6, .inl u_up)), (u_a_due, .inl (cI, 6, .inl u_due)), (u_a_wind, .inl (cI, 6, .inl u_wind)), (c_a, .inr (1, [.int c_every, .int c_size, .ref c_a_period, .ref c_a_hang, .ref c_a_start, .ref c_a_wind])), (c_a_period, .inl (cI, 6, .inl c_period)), (c_a_hang, .inl (cI, 6, .inl c_hang))] [(x_a, .inr (11, [.ref t_a, .ref c_a, .ref d_a, .ref s_a, .ref u_a, .ref q_a, .ref i_a, .ref k_a, .ref w_a, .ref n_a, .long x_asked])), (u_a, .inr (8, [.int u_tick_o, .int u_every, .int u_round_o, .int u_inside_o, .ref u_a_up, .ref u_a_due, .ref u_a_wind])), (u_a_up, .inl (cI, 6, .inl u_up_o)), (u_a_due, .inl (cI, 6, .inl u_due_o)), (u_a_wind, .inl (cI, 6, .inl u_wind_o)), (c_a, .inr (1, [.int c_every, .int c_size, .ref c_a_period, .ref c_a_hang, .ref c_a_start, .ref c_a_wind])), (c_a_period, .inl (cI, 6, .inl c_period)), (c_a_hang, .inl (cI, 6, .inl c_hang))] r_o := by
  refine zent_i (own := RX11) (by decide) rfl (Nat.le_of_ble_eq_true rfl) ?_
  intro p e s m below meth c A ls S hr hlocks hK hP hD hA hl
  have hx := S.1
  have hb := S.2.1
  have hml := S.2.2.1
  have hown := S.2.2.2.1
  have hT : ∀ w ∈ zt, w ∈ zwl yX11_playTillOut cX11_playTillOut 3 (some .int) := fun _ h => List.mem_cons_of_mem _ h
  have ht : ∀ w ∈ zt, w.before [.ref x_a, .int p1].toArray s = true := fun w h => S.2.2.2.2 w (hT w h)
  have hl : lv_has ls 3 [(0, .ref x_a), (1, .int p1)] := hl
  have hS : va_S A s.heap s.heap [] := va_S.rf
  unfold F_X11_playTillOut at hF
  have hloop_2 : ∀ (n : Nat) (x_asked : Int64) (u_tick : Int32) (u_every : Int32) (u_round : Int32) (u_inside : Int32) (u_up : Nat → Int32) (u_due : Nat → Int32) (u_wind : Nat → Int32) (c_every : Int32) (c_size : Int32) (c_period : Nat → Int32) (c_hang : Nat → Int32) (v1 : Int32) (v2 : Int32) (res : (Int32 × Int32 × Int32 × (Nat → Int32) × (Nat → Int32) × (Nat → Int32) × Int32) ⊕ (Int32 × Int32 × Int32 × Int32 × (Nat → Int32) × (Nat → Int32) × (Nat → Int32))), L_X11_playTillOut_2 u_every c_size c_period c_hang v1 n u_tick u_round u_inside u_up u_due u_wind v2 = some res → (∀ o, res = .inr o → o = (r_o, u_tick_o, u_round_o, u_inside_o, u_up_o, u_due_o, u_wind_o)) → ∀ (H : Heap) (locs : List Loc) (ls : Array Slot), va_P D classes [(x_a, .inr (11, [.ref t_a, .ref c_a, .ref d_a, .ref s_a, .ref u_a, .ref q_a, .ref i_a, .ref k_a, .ref w_a, .ref n_a, .long x_asked])), (u_a, .inr (8, [.int u_tick, .int u_every, .int u_round, .int u_inside, .ref u_a_up, .ref u_a_due, .ref u_a_wind])), (u_a_up, .inl (cI, 6, .inl u_up)), (u_a_due, .inl (cI, 6, .inl u_due)), (u_a_wind, .inl (cI, 6, .inl u_wind)), (c_a, .inr (1, [.int c_every, .int c_size, .ref c_a_period, .ref c_a_hang, .ref c_a_start, .ref c_a_wind])), (c_a_period, .inl (cI, 6, .inl c_period)), (c_a_hang, .inl (cI, 6, .inl c_hang))] H → va_D A [(x_a, .inr (11, [.ref t_a, .ref c_a, .ref d_a, .ref s_a, .ref u_a, .ref q_a, .ref i_a, .ref k_a, .ref w_a, .ref n_a, .long x_asked])), (u_a, .inr (8, [.int u_tick, .int u_every, .int u_round, .int u_inside, .ref u_a_up, .ref u_a_due, .ref u_a_wind])), (u_a_up, .inl (cI, 6, .inl u_up)), (u_a_due, .inl (cI, 6, .inl u_due)), (u_a_wind, .inl (cI, 6, .inl u_wind)), (c_a, .inr (1, [.int c_every, .int c_size, .ref c_a_period, .ref c_a_hang, .ref c_a_start, .ref c_a_wind])), (c_a_period, .inl (cI, 6, .inl c_period)), (c_a_hang, .inl (cI, 6, .inl c_hang))] → va_S A s.heap H locs → lv_has ls 3 [(0, .ref x_a), (1, .int v1), (2, .int v2)] → (∀ (u_tick' : Int32) (u_round' : Int32) (u_inside' : Int32) (u_up' : Nat → Int32) (u_due' : Nat → Int32) (u_wind' : Nat → Int32) (v2' : Int32), res = .inl (u_tick', u_round', u_inside', u_up', u_due', u_wind', v2') → ∀ (H : Heap) (locs : List Loc) (ls : Array Slot), va_P D classes [(x_a, .inr (11, [.ref t_a, .ref c_a, .ref d_a, .ref s_a, .ref u_a, .ref q_a, .ref i_a, .ref k_a, .ref w_a, .ref n_a, .long x_asked])), (u_a, .inr (8, [.int u_tick', .int u_every, .int u_round', .int u_inside', .ref u_a_up, .ref u_a_due, .ref u_a_wind])), (u_a_up, .inl (cI, 6, .inl u_up')), (u_a_due, .inl (cI, 6, .inl u_due')), (u_a_wind, .inl (cI, 6, .inl u_wind')), (c_a, .inr (1, [.int c_every, .int c_size, .ref c_a_period, .ref c_a_hang, .ref c_a_start, .ref c_a_wind])), (c_a_period, .inl (cI, 6, .inl c_period)), (c_a_hang, .inl (cI, 6, .inl c_hang))] H → va_D A [(x_a, .inr (11, [.ref t_a, .ref c_a, .ref d_a, .ref s_a, .ref u_a, .ref q_a, .ref i_a, .ref k_a, .ref w_a, .ref n_a, .long x_asked])), (u_a, .inr (8, [.int u_tick', .int u_every, .int u_round', .int u_inside', .ref u_a_up, .ref u_a_due, .ref u_a_wind])), (u_a_up, .inl (cI, 6, .inl u_up')), (u_a_due, .inl (cI, 6, .inl u_due')), (u_a_wind, .inl (cI, 6, .inl u_wind')), (c_a, .inr (1, [.int c_every, .int c_size, .ref c_a_period, .ref c_a_hang, .ref c_a_start, .ref c_a_wind])), (c_a_period, .inl (cI, 6, .inl c_period)), (c_a_hang, .inl (cI, 6, .inl c_hang))] → va_S A s.heap H locs → lv_has ls 3 [(0, .ref x_a), (1, .int v1), (2, .int v2')] → W p l e { frames := 3, cells := 0, slots := 0, locals := 65 } s m [.ref x_a, .int p1].toArray below meth c H locs 0 0 (zFi below [.ref x_a, .int p1] s A D (TYS cI cZ cS cJ) [(x_a, .inr (11, [.ref t_a, .ref c_a, .ref d_a, .ref s_a, .ref u_a, .ref q_a, .ref i_a, .ref k_a, .ref w_a, .ref n_a, .long x_asked])), (u_a, .inr (8, [.int u_tick_o, .int u_every, .int u_round_o, .int u_inside_o, .ref u_a_up, .ref u_a_due, .ref u_a_wind])), (u_a_up, .inl (cI, 6, .inl u_up_o)), (u_a_due, .inl (cI, 6, .inl u_due_o)), (u_a_wind, .inl (cI, 6, .inl u_wind_o)), (c_a, .inr (1, [.int c_every, .int c_size, .ref c_a_period, .ref c_a_hang, .ref c_a_start, .ref c_a_wind])), (c_a_period, .inl (cI, 6, .inl c_period)), (c_a_hang, .inl (cI, 6, .inl c_hang))] r_o) (F0 m 39 ls [])) → W p l e { frames := 3, cells := 0, slots := 0, locals := 65 } s m [.ref x_a, .int p1].toArray below meth c H locs 0 0 (zFi below [.ref x_a, .int p1] s A D (TYS cI cZ cS cJ) [(x_a, .inr (11, [.ref t_a, .ref c_a, .ref d_a, .ref s_a, .ref u_a, .ref q_a, .ref i_a, .ref k_a, .ref w_a, .ref n_a, .long x_asked])), (u_a, .inr (8, [.int u_tick_o, .int u_every, .int u_round_o, .int u_inside_o, .ref u_a_up, .ref u_a_due, .ref u_a_wind])), (u_a_up, .inl (cI, 6, .inl u_up_o)), (u_a_due, .inl (cI, 6, .inl u_due_o)), (u_a_wind, .inl (cI, 6, .inl u_wind_o)), (c_a, .inr (1, [.int c_every, .int c_size, .ref c_a_period, .ref c_a_hang, .ref c_a_start, .ref c_a_wind])), (c_a_period, .inl (cI, 6, .inl c_period)), (c_a_hang, .inl (cI, 6, .inl c_hang))] r_o) (F0 m 2 ls []) := by
    intro n
    induction n with
    | zero =>
      intro x_asked u_tick u_every u_round u_inside u_up u_due u_wind c_every c_size c_period c_hang v1 v2 res hF
      rw [L_X11_playTillOut_2_z] at hF
      cases hF
    | succ n ih_2 =>
      intro x_asked u_tick u_every u_round u_inside u_up u_due u_wind c_every c_size c_period c_hang v1 v2 res hF hret H locs ls hP hD hS hl hexit_2
      rw [L_X11_playTillOut_2_s] at hF
      refine lv_iload_n hx hb dX11_playTillOut_2 rfl (lv_at hl 2 rfl) ?_
      refine lv_bipush (v := 120) hx hb dX11_playTillOut_3 (by decide) ?_
      refine lv_icmp_gt (tgt := 39) hx hb dX11_playTillOut_5 (by decide) (fun c_13 => ?_) (fun c_13 => ?_)
      · have hF := zi_pos c_13 hF
        have e_0 := zo1 hF
        subst e_0
        exact hexit_2 _ _ _ _ _ _ _ rfl _ _ _ hP hD hS (lv_sub hl [0, 1, 2] rfl)
      · have hF := zi_neg c_13 hF
        refine lv_aload_n hx hb dX11_playTillOut_8 rfl (lv_at hl 0 rfl) ?_
        refine va_get (D := D) (ci := 11) (v := .ref u_a) (C := RX11) (T := TX11) (N := 11) hx hb ht iyX11 hown hK hP 0 rfl rfl 4 (by decide) (ht _ wf_X11_33) (fun _ h9 => h9) rfl dX11_playTillOut_9 ?_
        refine lv_aload_n hx hb dX11_playTillOut_12 rfl (lv_at hl 0 rfl) ?_
        refine va_get (D := D) (ci := 11) (v := .ref c_a) (C := RX11) (T := TX11) (N := 11) hx hb ht iyX11 hown hK hP 0 rfl rfl 1 (by decide) (ht _ wf_X11_19) (fun _ h9 => h9) rfl dX11_playTillOut_13 ?_
        obtain ⟨r_14, u_tick_15, u_round_16, u_inside_17, u_up_18, u_due_19, u_wind_20, hc_21, hF⟩ := zb7_s hF
        refine zcv_i (ws1 := [(x_a, .inr (11, [.ref t_a, .ref c_a, .ref d_a, .ref s_a, .ref u_a, .ref q_a, .ref i_a, .ref k_a, .ref w_a, .ref n_a, .long x_asked])), (u_a, .inr (8, [.int u_tick_15, .int u_every, .int u_round_16, .int u_inside_17, .ref u_a_up, .ref u_a_due, .ref u_a_wind])), (u_a_up, .inl (cI, 6, .inl u_up_18)), (u_a_due, .inl (cI, 6, .inl u_due_19)), (u_a_wind, .inl (cI, 6, .inl u_wind_20)), (c_a, .inr (1, [.int c_every, .int c_size, .ref c_a_period, .ref c_a_hang, .ref c_a_start, .ref c_a_wind])), (c_a_period, .inl (cI, 6, .inl c_period)), (c_a_hang, .inl (cI, 6, .inl c_hang))]) S hT lk_X11_152 (c_X8_step l D cI cZ cS cJ u_a u_a_up u_a_due u_a_wind c_a c_a_period c_a_hang c_a_start c_a_wind u_tick u_every u_round u_inside u_up u_due u_wind c_every c_size c_period c_hang hc_21) ⟨rfl, rfl, Nat.le_of_ble_eq_true rfl, Nat.le_of_ble_eq_true rfl⟩ hK hP hD hS hA [1, 2, 3, 4, 5, 6, 7] [0] [0, 1, 2, 3, 4, 5, 6, 7] rfl rfl rfl rfl rfl rfl rfl rfl rfl rfl rfl hl.1 rfl (Nat.le_of_ble_eq_true rfl) dX11_playTillOut_16 ⟨Nat.zero_le _, Nat.zero_le _⟩ (fun H locs hP hD hS => ?_)
        refine lv_pop hx hb dX11_playTillOut_19 rfl ?_
        refine lv_aload_n hx hb dX11_playTillOut_20 rfl (lv_at hl 0 rfl) ?_
        refine va_get (D := D) (ci := 11) (v := .ref u_a) (C := RX11) (T := TX11) (N := 11) hx hb ht iyX11 hown hK hP 0 rfl rfl 4 (by decide) (ht _ wf_X11_33) (fun _ h9 => h9) rfl dX11_playTillOut_21 ?_
        refine lv_iload_n hx hb dX11_playTillOut_24 rfl (lv_at hl 1 rfl) ?_
        obtain ⟨r_22, hc_23, hF⟩ := zb1_s hF
        refine zcv_i (ws1 := [(x_a, .inr (11, [.ref t_a, .ref c_a, .ref d_a, .ref s_a, .ref u_a, .ref q_a, .ref i_a, .ref k_a, .ref w_a, .ref n_a, .long x_asked])), (u_a, .inr (8, [.int u_tick_15, .int u_every, .int u_round_16, .int u_inside_17, .ref u_a_up, .ref u_a_due, .ref u_a_wind])), (u_a_up, .inl (cI, 6, .inl u_up_18)), (u_a_due, .inl (cI, 6, .inl u_due_19)), (u_a_wind, .inl (cI, 6, .inl u_wind_20)), (c_a, .inr (1, [.int c_every, .int c_size, .ref c_a_period, .ref c_a_hang, .ref c_a_start, .ref c_a_wind])), (c_a_period, .inl (cI, 6, .inl c_period)), (c_a_hang, .inl (cI, 6, .inl c_hang))]) S hT lk_X11_116 (c_X8_holds l D cI cZ cS cJ u_a u_a_up u_a_due u_a_wind u_tick_15 u_every u_round_16 u_inside_17 v1 hc_23) ⟨rfl, rfl, Nat.le_of_ble_eq_true rfl, Nat.le_of_ble_eq_true rfl⟩ hK hP hD hS hA [1] [0, 2, 3, 4, 5, 6, 7] [0, 7, 1, 2, 3, 4, 5, 6] rfl rfl rfl rfl rfl rfl rfl rfl rfl rfl rfl hl.1 rfl (Nat.le_of_ble_eq_true rfl) dX11_playTillOut_25 ⟨Nat.zero_le _, Nat.zero_le _⟩ (fun H locs hP hD hS => ?_)
        refine lv_if_ne (tgt := 33) hx hb dX11_playTillOut_28 (by decide) (fun c_24 => ?_) (fun c_24 => ?_)
        · have hF := zi_neg c_24 hF
          refine lv_iinc (v := v2 + 1) (lv' := [(2, .int (v2 + 1)), (0, .ref x_a), (1, .int v1)]) hx hb dX11_playTillOut_33 hl (k := 2) rfl (by rfl) (by decide) rfl (fun ls hl => ?_)
          refine lv_goto (tgt := 2) hx hb dX11_playTillOut_36 (by decide) ?_
          exact ih_2 x_asked u_tick_15 u_every u_round_16 u_inside_17 u_up_18 u_due_19 u_wind_20 c_every c_size c_period c_hang v1 (v2 + 1) _ hF hret _ _ _ hP hD hS (lv_sub hl [1, 2, 0] rfl) hexit_2
        · have hF := zi_pos c_24 hF
          refine lv_iload_n hx hb dX11_playTillOut_31 rfl (lv_at hl 2 rfl) ?_
          obtain ⟨e_0, e_1, e_2, e_3, e_4, e_5, e_6⟩ := zo7 (congrArg some (hret _ (Option.some.inj hF).symm))
          subst e_0
          subst e_1
          subst e_2
          subst e_3
          subst e_4
          subst e_5
          subst e_6
          exact zret_i S hr hlocks hK hP hD hS dX11_playTillOut_32
  refine lv_iconst (v := 1) hx hb dX11_playTillOut_0 (by decide) ?_
  refine lv_istore_n (lv' := [(2, .int 1), (0, .ref x_a), (1, .int p1)]) hx hb dX11_playTillOut_1 rfl hl (by decide) rfl (fun ls hl => ?_)
  rcases zs7_s hF with ⟨u_tick_25, u_round_26, u_inside_27, u_up_28, u_due_29, u_wind_30, v2_31, hL_32, hF⟩ | hL_32
  rotate_left
  · exact hloop_2 300 x_asked u_tick u_every u_round u_inside u_up u_due u_wind c_every c_size c_period c_hang p1 1 _ hL_32 (fun o ho => (Sum.inr.inj ho).symm) _ _ _ hP hD hS (lv_sub hl [1, 2, 0] rfl) (fun u_tick_25 u_round_26 u_inside_27 u_up_28 u_due_29 u_wind_30 v2_31 ho => nomatch ho)
  refine hloop_2 300 x_asked u_tick u_every u_round u_inside u_up u_due u_wind c_every c_size c_period c_hang p1 1 _ hL_32 (fun o ho => nomatch ho) _ _ _ hP hD hS (lv_sub hl [1, 2, 0] rfl) (fun u_tick_25' u_round_26' u_inside_27' u_up_28' u_due_29' u_wind_30' v2_31' ho H locs ls hP hD hS hl => ?_)
  obtain ⟨rfl, rfl, rfl, rfl, rfl, rfl, rfl⟩ : u_tick_25 = u_tick_25' ∧ u_round_26 = u_round_26' ∧ u_inside_27 = u_inside_27' ∧ u_up_28 = u_up_28' ∧ u_due_29 = u_due_29' ∧ u_wind_30 = u_wind_30' ∧ v2_31 = v2_31' := by cases ho; exact ⟨rfl, rfl, rfl, rfl, rfl, rfl, rfl⟩
  refine lv_bipush (v := (-9)) hx hb dX11_playTillOut_39 (by decide) ?_
  obtain ⟨e_0, e_1, e_2, e_3, e_4, e_5, e_6⟩ := zo7 hF
  subst e_0
  subst e_1
  subst e_2
  subst e_3
  subst e_4
  subst e_5
  subst e_6
  exact zret_i S hr hlocks hK hP hD hS dX11_playTillOut_41

theorem lk_X11_174 : zLk RX11 174 yX8_become cX8_become 2 none 1 := ⟨⟨wm_X11_174, wo_X8_become, we_X8_X8_become, wi_X8, wd_X8_become⟩, by decide, by decide, by decide +kernel⟩
theorem lk_X11_180 : zLk RX11 180 yX11_playTillOut cX11_playTillOut 3 (some .int) 1 := ⟨⟨wm_X11_180, wo_X11_playTillOut, we_X11_X11_playTillOut, wi_X11, wd_X11_playTillOut⟩, by decide, by decide, by decide +kernel⟩
def F_X11_tripNow (s_tick : Int32) (s_every : Int32) (s_round : Int32) (s_inside : Int32) (s_up : Nat → Int32) (s_due : Nat → Int32) (s_wind : Nat → Int32) (u_tick : Int32) (u_every : Int32) (u_round : Int32) (u_inside : Int32) (u_up : Nat → Int32) (u_due : Nat → Int32) (u_wind : Nat → Int32) (c_size : Int32) (c_period : Nat → Int32) (c_hang : Nat → Int32) (p1 : Int32) : Option (Int32 × Int32 × Int32 × Int32 × Int32 × (Nat → Int32) × (Nat → Int32) × (Nat → Int32)) :=
  (zb1 (F_X8_holds s_inside p1) (fun r_1 => (if r_1 = 0 then some ((-9), u_tick, u_every, u_round, u_inside, u_up, u_due, u_wind) else (zb7 (F_X8_become u_up u_due u_wind s_tick s_every s_round s_inside s_up s_due s_wind) (fun u_tick_4 u_every_5 u_round_6 u_inside_7 u_up_8 u_due_9 u_wind_10 => (zb7 (F_X11_playTillOut u_tick_4 u_every_5 u_round_6 u_inside_7 u_up_8 u_due_9 u_wind_10 c_size c_period c_hang p1) (fun r_12 u_tick_13 u_round_14 u_inside_15 u_up_16 u_due_17 u_wind_18 => some (r_12, u_tick_13, u_every_5, u_round_14, u_inside_15, u_up_16, u_due_17, u_wind_18))))))))
set_option maxHeartbeats 4000000 in
set_option maxRecDepth 100000 in
theorem c_X11_tripNow (l : Launch) (D : va_G) (cI cZ cS cJ : ClassId) (x_a : Nat) (t_a : Nat) (c_a : Nat) (d_a : Nat) (s_a : Nat) (u_a : Nat) (q_a : Nat) (i_a : Nat) (k_a : Nat) (w_a : Nat) (n_a : Nat) (s_a_up : Nat) (s_a_due : Nat) (s_a_wind : Nat) (u_a_up : Nat) (u_a_due : Nat) (u_a_wind : Nat) (c_a_period : Nat) (c_a_hang : Nat) (c_a_start : Nat) (c_a_wind : Nat) (x_asked : Int64) (s_tick : Int32) (s_every : Int32) (s_round : Int32) (s_inside : Int32) (s_up : Nat → Int32) (s_due : Nat → Int32) (s_wind : Nat → Int32) (u_tick : Int32) (u_every : Int32) (u_round : Int32) (u_inside : Int32) (u_up : Nat → Int32) (u_due : Nat → Int32) (u_wind : Nat → Int32) (c_every : Int32) (c_size : Int32) (c_period : Nat → Int32) (c_hang : Nat → Int32) (p1 : Int32) {r_o : Int32} {u_tick_o : Int32} {u_every_o : Int32} {u_round_o : Int32} {u_inside_o : Int32} {u_up_o : Nat → Int32} {u_due_o : Nat → Int32} {u_wind_o : Nat → Int32} (hF : F_X11_tripNow s_tick s_every s_round s_inside s_up s_due s_wind u_tick u_every u_round u_inside u_up u_due u_wind c_size c_period c_hang p1 = some (r_o, u_tick_o, u_every_o, u_round_o, u_inside_o, u_up_o, u_due_o, u_wind_o)) : zMi l yX11_tripNow (zwl yX11_tripNow cX11_tripNow 2 (some .int)) { frames := 4, cells := 0, slots := 0, locals := 87 } D (TYS cI cZ cS cJ) [.ref x_a, .int p1] [(x_a, .inr (11, [.ref t_a, .ref c_a, .ref d_a, .ref s_a, .ref u_a, .ref q_a, .ref i_a, .ref k_a, .ref w_a, .ref n_a, .long x_asked])), (s_a, .inr (8, [.int s_tick, .int s_every, .int s_round, .int s_inside, .ref s_a_up, .ref s_a_due, .ref s_a_wind])), (s_a_up, .inl (cI, 6, .inl s_up)), (s_a_due, .inl (cI, 6, .inl s_due)), (s_a_wind, .inl (cI, 6, .inl s_wind)), (u_a, .inr (8, [.int u_tick, .int u_every, .int u_round, .int u_inside, .ref u_a_up, .ref u_a_due, .ref u_a_wind])), (u_a_up, .inl (cI, 6, .inl u_up)), (u_a_due, .inl (cI, 6, .inl u_due)), (u_a_wind, .inl (cI, 6, .inl u_wind)), (c_a, .inr (1, [.int c_every, .int c_size, .ref c_a_period, .ref c_a_hang, .ref c_a_start, .ref c_a_wind])), (c_a_period, .inl (cI, 6, .inl c_period)), (c_a_hang, .inl (cI, 6, .inl c_hang))] [(x_a, .inr (11, [.ref t_a, .ref c_a, .ref d_a, .ref s_a, .ref u_a, .ref q_a, .ref i_a, .ref k_a, .ref w_a, .ref n_a, .long x_asked])), (s_a, .inr (8, [.int s_tick, .int s_every, .int s_round, .int s_inside, .ref s_a_up, .ref s_a_due, .ref s_a_wind])), (s_a_up, .inl (cI, 6, .inl s_up)), (s_a_due, .inl (cI, 6, .inl s_due)), (s_a_wind, .inl (cI, 6, .inl s_wind)), (u_a, .inr (8, [.int u_tick_o, .int u_every_o, .int u_round_o, .int u_inside_o, .ref u_a_up, .ref u_a_due, .ref u_a_wind])), (u_a_up, .inl (cI, 6, .inl u_up_o)), (u_a_due, .inl (cI, 6, .inl u_due_o)), (u_a_wind, .inl (cI, 6, .inl u_wind_o)), (c_a, .inr (1, [.int c_every, .int c_size, .ref c_a_period, .ref c_a_hang, .ref c_a_start, .ref c_a_wind])), (c_a_period, .inl (cI, 6, .inl c_period)), (c_a_hang, .inl (cI, 6, .inl c_hang))] r_o := by
  refine zent_i (own := RX11) (by decide) rfl (Nat.le_of_ble_eq_true rfl) ?_
  intro p e s m below meth c A ls S hr hlocks hK hP hD hA hl
  have hx := S.1
  have hb := S.2.1
  have hml := S.2.2.1
  have hown := S.2.2.2.1
  have hT : ∀ w ∈ zt, w ∈ zwl yX11_tripNow cX11_tripNow 2 (some .int) := fun _ h => List.mem_cons_of_mem _ h
  have ht : ∀ w ∈ zt, w.before [.ref x_a, .int p1].toArray s = true := fun w h => S.2.2.2.2 w (hT w h)
  have hl : lv_has ls 2 [(0, .ref x_a), (1, .int p1)] := hl
  have hS : va_S A s.heap s.heap [] := va_S.rf
  unfold F_X11_tripNow at hF
  refine lv_aload_n hx hb dX11_tripNow_0 rfl (lv_at hl 0 rfl) ?_
  refine va_get (D := D) (ci := 11) (v := .ref s_a) (C := RX11) (T := TX11) (N := 11) hx hb ht iyX11 hown hK hP 0 rfl rfl 3 (by decide) (ht _ wf_X11_29) (fun _ h9 => h9) rfl dX11_tripNow_1 ?_
  refine lv_iload_n hx hb dX11_tripNow_4 rfl (lv_at hl 1 rfl) ?_
  obtain ⟨r_1, hc_2, hF⟩ := zb1_s hF
  refine zcv_i (ws1 := [(x_a, .inr (11, [.ref t_a, .ref c_a, .ref d_a, .ref s_a, .ref u_a, .ref q_a, .ref i_a, .ref k_a, .ref w_a, .ref n_a, .long x_asked])), (s_a, .inr (8, [.int s_tick, .int s_every, .int s_round, .int s_inside, .ref s_a_up, .ref s_a_due, .ref s_a_wind])), (s_a_up, .inl (cI, 6, .inl s_up)), (s_a_due, .inl (cI, 6, .inl s_due)), (s_a_wind, .inl (cI, 6, .inl s_wind)), (u_a, .inr (8, [.int u_tick, .int u_every, .int u_round, .int u_inside, .ref u_a_up, .ref u_a_due, .ref u_a_wind])), (u_a_up, .inl (cI, 6, .inl u_up)), (u_a_due, .inl (cI, 6, .inl u_due)), (u_a_wind, .inl (cI, 6, .inl u_wind)), (c_a, .inr (1, [.int c_every, .int c_size, .ref c_a_period, .ref c_a_hang, .ref c_a_start, .ref c_a_wind])), (c_a_period, .inl (cI, 6, .inl c_period)), (c_a_hang, .inl (cI, 6, .inl c_hang))]) S hT lk_X11_116 (c_X8_holds l D cI cZ cS cJ s_a s_a_up s_a_due s_a_wind s_tick s_every s_round s_inside p1 hc_2) ⟨rfl, rfl, Nat.le_of_ble_eq_true rfl, Nat.le_of_ble_eq_true rfl⟩ hK hP hD hS hA [1] [0, 2, 3, 4, 5, 6, 7, 8, 9, 10, 11] [0, 11, 1, 2, 3, 4, 5, 6, 7, 8, 9, 10] rfl rfl rfl rfl rfl rfl rfl rfl rfl rfl rfl hl.1 rfl (Nat.le_of_ble_eq_true rfl) dX11_tripNow_5 ⟨Nat.zero_le _, Nat.zero_le _⟩ (fun H locs hP hD hS => ?_)
  refine lv_if_ne (tgt := 14) hx hb dX11_tripNow_8 (by decide) (fun c_3 => ?_) (fun c_3 => ?_)
  · have hF := zi_neg c_3 hF
    refine lv_aload_n hx hb dX11_tripNow_14 rfl (lv_at hl 0 rfl) ?_
    refine va_get (D := D) (ci := 11) (v := .ref u_a) (C := RX11) (T := TX11) (N := 11) hx hb ht iyX11 hown hK hP 0 rfl rfl 4 (by decide) (ht _ wf_X11_33) (fun _ h9 => h9) rfl dX11_tripNow_15 ?_
    refine lv_aload_n hx hb dX11_tripNow_18 rfl (lv_at hl 0 rfl) ?_
    refine va_get (D := D) (ci := 11) (v := .ref s_a) (C := RX11) (T := TX11) (N := 11) hx hb ht iyX11 hown hK hP 0 rfl rfl 3 (by decide) (ht _ wf_X11_29) (fun _ h9 => h9) rfl dX11_tripNow_19 ?_
    obtain ⟨u_tick_4, u_every_5, u_round_6, u_inside_7, u_up_8, u_due_9, u_wind_10, hc_11, hF⟩ := zb7_s hF
    refine zcv_v (ws1 := [(x_a, .inr (11, [.ref t_a, .ref c_a, .ref d_a, .ref s_a, .ref u_a, .ref q_a, .ref i_a, .ref k_a, .ref w_a, .ref n_a, .long x_asked])), (s_a, .inr (8, [.int s_tick, .int s_every, .int s_round, .int s_inside, .ref s_a_up, .ref s_a_due, .ref s_a_wind])), (s_a_up, .inl (cI, 6, .inl s_up)), (s_a_due, .inl (cI, 6, .inl s_due)), (s_a_wind, .inl (cI, 6, .inl s_wind)), (u_a, .inr (8, [.int u_tick_4, .int u_every_5, .int u_round_6, .int u_inside_7, .ref u_a_up, .ref u_a_due, .ref u_a_wind])), (u_a_up, .inl (cI, 6, .inl u_up_8)), (u_a_due, .inl (cI, 6, .inl u_due_9)), (u_a_wind, .inl (cI, 6, .inl u_wind_10)), (c_a, .inr (1, [.int c_every, .int c_size, .ref c_a_period, .ref c_a_hang, .ref c_a_start, .ref c_a_wind])), (c_a_period, .inl (cI, 6, .inl c_period)), (c_a_hang, .inl (cI, 6, .inl c_hang))]) S hT lk_X11_174 (c_X8_become l D cI cZ cS cJ u_a u_a_up u_a_due u_a_wind s_a s_a_up s_a_due s_a_wind u_tick u_every u_round u_inside u_up u_due u_wind s_tick s_every s_round s_inside s_up s_due s_wind hc_11) ⟨rfl, rfl, Nat.le_of_ble_eq_true rfl, Nat.le_of_ble_eq_true rfl⟩ hK hP hD hS hA [5, 6, 7, 8, 1, 2, 3, 4] [0, 9, 10, 11] [0, 8, 9, 10, 11, 4, 5, 6, 7, 1, 2, 3] rfl rfl rfl rfl rfl rfl rfl rfl rfl rfl rfl hl.1 rfl (Nat.le_of_ble_eq_true rfl) dX11_tripNow_22 ⟨Nat.zero_le _, Nat.zero_le _⟩ (fun H locs hP hD hS => ?_)
    refine lv_aload_n hx hb dX11_tripNow_25 rfl (lv_at hl 0 rfl) ?_
    refine lv_iload_n hx hb dX11_tripNow_26 rfl (lv_at hl 1 rfl) ?_
    obtain ⟨r_12, u_tick_13, u_round_14, u_inside_15, u_up_16, u_due_17, u_wind_18, hc_19, hF⟩ := zb7_s hF
    refine zcv_i (ws1 := [(x_a, .inr (11, [.ref t_a, .ref c_a, .ref d_a, .ref s_a, .ref u_a, .ref q_a, .ref i_a, .ref k_a, .ref w_a, .ref n_a, .long x_asked])), (s_a, .inr (8, [.int s_tick, .int s_every, .int s_round, .int s_inside, .ref s_a_up, .ref s_a_due, .ref s_a_wind])), (s_a_up, .inl (cI, 6, .inl s_up)), (s_a_due, .inl (cI, 6, .inl s_due)), (s_a_wind, .inl (cI, 6, .inl s_wind)), (u_a, .inr (8, [.int u_tick_13, .int u_every_5, .int u_round_14, .int u_inside_15, .ref u_a_up, .ref u_a_due, .ref u_a_wind])), (u_a_up, .inl (cI, 6, .inl u_up_16)), (u_a_due, .inl (cI, 6, .inl u_due_17)), (u_a_wind, .inl (cI, 6, .inl u_wind_18)), (c_a, .inr (1, [.int c_every, .int c_size, .ref c_a_period, .ref c_a_hang, .ref c_a_start, .ref c_a_wind])), (c_a_period, .inl (cI, 6, .inl c_period)), (c_a_hang, .inl (cI, 6, .inl c_hang))]) S hT lk_X11_180 (c_X11_playTillOut l D cI cZ cS cJ x_a t_a c_a d_a s_a u_a q_a i_a k_a w_a n_a u_a_up u_a_due u_a_wind c_a_period c_a_hang c_a_start c_a_wind x_asked u_tick_4 u_every_5 u_round_6 u_inside_7 u_up_8 u_due_9 u_wind_10 c_every c_size c_period c_hang p1 hc_19) ⟨rfl, rfl, Nat.le_of_ble_eq_true rfl, Nat.le_of_ble_eq_true rfl⟩ hK hP hD hS hA [0, 5, 6, 7, 8, 9, 10, 11] [1, 2, 3, 4] [4, 0, 1, 2, 3, 5, 6, 7, 8, 9, 10, 11] rfl rfl rfl rfl rfl rfl rfl rfl rfl rfl rfl hl.1 rfl (Nat.le_of_ble_eq_true rfl) dX11_tripNow_27 ⟨Nat.zero_le _, Nat.zero_le _⟩ (fun H locs hP hD hS => ?_)
    obtain ⟨e_0, e_1, e_2, e_3, e_4, e_5, e_6, e_7⟩ := zo8 hF
    subst e_0
    subst e_1
    subst e_2
    subst e_3
    subst e_4
    subst e_5
    subst e_6
    subst e_7
    exact zret_i S hr hlocks hK hP hD hS dX11_tripNow_30
  · have hF := zi_pos c_3 hF
    refine lv_bipush (v := (-9)) hx hb dX11_tripNow_11 (by decide) ?_
    obtain ⟨e_0, e_1, e_2, e_3, e_4, e_5, e_6, e_7⟩ := zo8 hF
    subst e_0
    subst e_1
    subst e_2
    subst e_3
    subst e_4
    subst e_5
    subst e_6
    subst e_7
    exact zret_i S hr hlocks hK hP hD hS dX11_tripNow_13

theorem lk_X11_103 : zLk RX11 103 yX11_isNobody cX11_isNobody 2 (some .boolean) 1 := ⟨⟨wm_X11_103, wo_X11_isNobody, we_X11_X11_isNobody, wi_X11, wd_X11_isNobody⟩, by decide, by decide, by decide +kernel⟩
theorem lk_X11_125 : zLk RX11 125 yX11_tripNow cX11_tripNow 2 (some .int) 1 := ⟨⟨wm_X11_125, wo_X11_tripNow, we_X11_X11_tripNow, wi_X11, wd_X11_tripNow⟩, by decide, by decide, by decide +kernel⟩
def F_X11_jumper (s_tick : Int32) (s_every : Int32) (s_round : Int32) (s_inside : Int32) (s_up : Nat → Int32) (s_due : Nat → Int32) (s_wind : Nat → Int32) (u_tick : Int32) (u_every : Int32) (u_round : Int32) (u_inside : Int32) (u_up : Nat → Int32) (u_due : Nat → Int32) (u_wind : Nat → Int32) (c_size : Int32) (c_period : Nat → Int32) (c_hang : Nat → Int32) (p1 : Int32) (p2 : Int32) : Option (Int32 × Int32 × Int32 × Int32 × Int32 × (Nat → Int32) × (Nat → Int32) × (Nat → Int32)) :=
  (zb1 (F_X11_isNobody c_size p1) (fun r_1 => (if r_1 = 0 then (if p2 = 0 then (if (p1 < 0 ∨ 6 ≤ p1.toNatClampNeg) then none else some (c_period p1.toNatClampNeg, u_tick, u_every, u_round, u_inside, u_up, u_due, u_wind)) else (if p2 = 1 then (if (p1 < 0 ∨ 6 ≤ p1.toNatClampNeg) then none else some (c_hang p1.toNatClampNeg, u_tick, u_every, u_round, u_inside, u_up, u_due, u_wind)) else (if p2 = 2 then (if (p1 < 0 ∨ 6 ≤ p1.toNatClampNeg) then none else some (s_wind p1.toNatClampNeg, u_tick, u_every, u_round, u_inside, u_up, u_due, u_wind)) else (if p2 = 3 then (zb1 (F_X8_holds s_inside p1) (fun r_11 => (if r_11 = 0 then some (0, u_tick, u_every, u_round, u_inside, u_up, u_due, u_wind) else some (1, u_tick, u_every, u_round, u_inside, u_up, u_due, u_wind)))) else (if p2 = 4 then (if (p1 < 0 ∨ 6 ≤ p1.toNatClampNeg) then none else some (s_up p1.toNatClampNeg, u_tick, u_every, u_round, u_inside, u_up, u_due, u_wind)) else (if p2 = 5 then (zb1 (F_X8_holds s_inside p1) (fun r_17 => (if r_17 = 0 then some ((-9), u_tick, u_every, u_round, u_inside, u_up, u_due, u_wind) else (if (p1 < 0 ∨ 6 ≤ p1.toNatClampNeg) then none else some (s_due p1.toNatClampNeg, u_tick, u_every, u_round, u_inside, u_up, u_due, u_wind))))) else (if p2 = 6 then (zb8 (F_X11_tripNow s_tick s_every s_round s_inside s_up s_due s_wind u_tick u_every u_round u_inside u_up u_due u_wind c_size c_period c_hang p1) (fun r_22 u_tick_23 u_every_24 u_round_25 u_inside_26 u_up_27 u_due_28 u_wind_29 => some (r_22, u_tick_23, u_every_24, u_round_25, u_inside_26, u_up_27, u_due_28, u_wind_29))) else some ((-1), u_tick, u_every, u_round, u_inside, u_up, u_due, u_wind)))))))) else some ((-1), u_tick, u_every, u_round, u_inside, u_up, u_due, u_wind))))
set_option maxHeartbeats 4000000 in
set_option maxRecDepth 100000 in
theorem c_X11_jumper (l : Launch) (D : va_G) (cI cZ cS cJ : ClassId) (x_a : Nat) (t_a : Nat) (c_a : Nat) (d_a : Nat) (s_a : Nat) (u_a : Nat) (q_a : Nat) (i_a : Nat) (k_a : Nat) (w_a : Nat) (n_a : Nat) (s_a_up : Nat) (s_a_due : Nat) (s_a_wind : Nat) (u_a_up : Nat) (u_a_due : Nat) (u_a_wind : Nat) (c_a_period : Nat) (c_a_hang : Nat) (c_a_start : Nat) (c_a_wind : Nat) (x_asked : Int64) (s_tick : Int32) (s_every : Int32) (s_round : Int32) (s_inside : Int32) (s_up : Nat → Int32) (s_due : Nat → Int32) (s_wind : Nat → Int32) (u_tick : Int32) (u_every : Int32) (u_round : Int32) (u_inside : Int32) (u_up : Nat → Int32) (u_due : Nat → Int32) (u_wind : Nat → Int32) (c_every : Int32) (c_size : Int32) (c_period : Nat → Int32) (c_hang : Nat → Int32) (p1 : Int32) (p2 : Int32) {r_o : Int32} {u_tick_o : Int32} {u_every_o : Int32} {u_round_o : Int32} {u_inside_o : Int32} {u_up_o : Nat → Int32} {u_due_o : Nat → Int32} {u_wind_o : Nat → Int32} (hF : F_X11_jumper s_tick s_every s_round s_inside s_up s_due s_wind u_tick u_every u_round u_inside u_up u_due u_wind c_size c_period c_hang p1 p2 = some (r_o, u_tick_o, u_every_o, u_round_o, u_inside_o, u_up_o, u_due_o, u_wind_o)) : zMi l yX11_jumper (zwl yX11_jumper cX11_jumper 3 (some .int)) { frames := 5, cells := 0, slots := 0, locals := 108 } D (TYS cI cZ cS cJ) [.ref x_a, .int p1, .int p2] [(x_a, .inr (11, [.ref t_a, .ref c_a, .ref d_a, .ref s_a, .ref u_a, .ref q_a, .ref i_a, .ref k_a, .ref w_a, .ref n_a, .long x_asked])), (s_a, .inr (8, [.int s_tick, .int s_every, .int s_round, .int s_inside, .ref s_a_up, .ref s_a_due, .ref s_a_wind])), (s_a_up, .inl (cI, 6, .inl s_up)), (s_a_due, .inl (cI, 6, .inl s_due)), (s_a_wind, .inl (cI, 6, .inl s_wind)), (u_a, .inr (8, [.int u_tick, .int u_every, .int u_round, .int u_inside, .ref u_a_up, .ref u_a_due, .ref u_a_wind])), (u_a_up, .inl (cI, 6, .inl u_up)), (u_a_due, .inl (cI, 6, .inl u_due)), (u_a_wind, .inl (cI, 6, .inl u_wind)), (c_a, .inr (1, [.int c_every, .int c_size, .ref c_a_period, .ref c_a_hang, .ref c_a_start, .ref c_a_wind])), (c_a_period, .inl (cI, 6, .inl c_period)), (c_a_hang, .inl (cI, 6, .inl c_hang))] [(x_a, .inr (11, [.ref t_a, .ref c_a, .ref d_a, .ref s_a, .ref u_a, .ref q_a, .ref i_a, .ref k_a, .ref w_a, .ref n_a, .long x_asked])), (s_a, .inr (8, [.int s_tick, .int s_every, .int s_round, .int s_inside, .ref s_a_up, .ref s_a_due, .ref s_a_wind])), (s_a_up, .inl (cI, 6, .inl s_up)), (s_a_due, .inl (cI, 6, .inl s_due)), (s_a_wind, .inl (cI, 6, .inl s_wind)), (u_a, .inr (8, [.int u_tick_o, .int u_every_o, .int u_round_o, .int u_inside_o, .ref u_a_up, .ref u_a_due, .ref u_a_wind])), (u_a_up, .inl (cI, 6, .inl u_up_o)), (u_a_due, .inl (cI, 6, .inl u_due_o)), (u_a_wind, .inl (cI, 6, .inl u_wind_o)), (c_a, .inr (1, [.int c_every, .int c_size, .ref c_a_period, .ref c_a_hang, .ref c_a_start, .ref c_a_wind])), (c_a_period, .inl (cI, 6, .inl c_period)), (c_a_hang, .inl (cI, 6, .inl c_hang))] r_o := by
  refine zent_i (own := RX11) (by decide) rfl (Nat.le_of_ble_eq_true rfl) ?_
  intro p e s m below meth c A ls S hr hlocks hK hP hD hA hl
  have hx := S.1
  have hb := S.2.1
  have hml := S.2.2.1
  have hown := S.2.2.2.1
  have hT : ∀ w ∈ zt, w ∈ zwl yX11_jumper cX11_jumper 3 (some .int) := fun _ h => List.mem_cons_of_mem _ h
  have ht : ∀ w ∈ zt, w.before [.ref x_a, .int p1, .int p2].toArray s = true := fun w h => S.2.2.2.2 w (hT w h)
  have hl : lv_has ls 3 [(0, .ref x_a), (1, .int p1), (2, .int p2)] := hl
  have hS : va_S A s.heap s.heap [] := va_S.rf
  unfold F_X11_jumper at hF
  refine lv_aload_n hx hb dX11_jumper_0 rfl (lv_at hl 0 rfl) ?_
  refine lv_iload_n hx hb dX11_jumper_1 rfl (lv_at hl 1 rfl) ?_
  obtain ⟨r_1, hc_2, hF⟩ := zb1_s hF
  refine zcv_i (ws1 := [(x_a, .inr (11, [.ref t_a, .ref c_a, .ref d_a, .ref s_a, .ref u_a, .ref q_a, .ref i_a, .ref k_a, .ref w_a, .ref n_a, .long x_asked])), (s_a, .inr (8, [.int s_tick, .int s_every, .int s_round, .int s_inside, .ref s_a_up, .ref s_a_due, .ref s_a_wind])), (s_a_up, .inl (cI, 6, .inl s_up)), (s_a_due, .inl (cI, 6, .inl s_due)), (s_a_wind, .inl (cI, 6, .inl s_wind)), (u_a, .inr (8, [.int u_tick, .int u_every, .int u_round, .int u_inside, .ref u_a_up, .ref u_a_due, .ref u_a_wind])), (u_a_up, .inl (cI, 6, .inl u_up)), (u_a_due, .inl (cI, 6, .inl u_due)), (u_a_wind, .inl (cI, 6, .inl u_wind)), (c_a, .inr (1, [.int c_every, .int c_size, .ref c_a_period, .ref c_a_hang, .ref c_a_start, .ref c_a_wind])), (c_a_period, .inl (cI, 6, .inl c_period)), (c_a_hang, .inl (cI, 6, .inl c_hang))]) S hT lk_X11_103 (c_X11_isNobody l D cI cZ cS cJ x_a t_a c_a d_a s_a u_a q_a i_a k_a w_a n_a c_a_period c_a_hang c_a_start c_a_wind x_asked c_every c_size p1 hc_2) ⟨rfl, rfl, Nat.le_of_ble_eq_true rfl, Nat.le_of_ble_eq_true rfl⟩ hK hP hD hS hA [0, 9] [1, 2, 3, 4, 5, 6, 7, 8, 10, 11] [10, 0, 1, 2, 3, 4, 5, 6, 7, 11, 8, 9] rfl rfl rfl rfl rfl rfl rfl rfl rfl rfl rfl hl.1 rfl (Nat.le_of_ble_eq_true rfl) dX11_jumper_2 ⟨Nat.zero_le _, Nat.zero_le _⟩ (fun H locs hP hD hS => ?_)
  refine lv_if_eq (tgt := 10) hx hb dX11_jumper_5 (by decide) (fun c_3 => ?_) (fun c_3 => ?_)
  · have hF := zi_pos c_3 hF
    refine lv_iload_n hx hb dX11_jumper_10 rfl (lv_at hl 2 rfl) ?_
    by_cases c_4 : p2 = 0
    · have hF := zi_pos c_4 hF
      refine lv_tableIn (tgt := 52) hx hb dX11_jumper_11 (by rw [c_4]; decide) (by rw [c_4]; decide) (by rw [c_4]; rfl) (by decide) ?_
      refine lv_aload_n hx hb dX11_jumper_52 rfl (lv_at hl 0 rfl) ?_
      refine va_get (D := D) (ci := 11) (v := .ref c_a) (C := RX11) (T := TX11) (N := 11) hx hb ht iyX11 hown hK hP 0 rfl rfl 1 (by decide) (ht _ wf_X11_19) (fun _ h9 => h9) rfl dX11_jumper_53 ?_
      refine va_get (D := D) (ci := 1) (v := .ref c_a_period) (C := RX1) (T := TX1) (N := 6) hx hb ht iyX1 hown hK hP 9 rfl rfl 2 (by decide) (ht _ wf_X11_107) (fun _ h9 => h9) rfl dX11_jumper_56 ?_
      refine lv_iload_n hx hb dX11_jumper_59 rfl (lv_at hl 1 rfl) ?_
      obtain ⟨h_5, hF⟩ := zi_chk hF
      refine va_iald hx hb hK hP 10 0 rfl rfl h_5 dX11_jumper_60 ?_
      obtain ⟨e_0, e_1, e_2, e_3, e_4, e_5, e_6, e_7⟩ := zo8 hF
      subst e_0
      subst e_1
      subst e_2
      subst e_3
      subst e_4
      subst e_5
      subst e_6
      subst e_7
      exact zret_i S hr hlocks hK hP hD hS dX11_jumper_61
    have hF := zi_neg c_4 hF
    by_cases c_6 : p2 = 1
    · have hF := zi_pos c_6 hF
      refine lv_tableIn (tgt := 62) hx hb dX11_jumper_11 (by rw [c_6]; decide) (by rw [c_6]; decide) (by rw [c_6]; rfl) (by decide) ?_
      refine lv_aload_n hx hb dX11_jumper_62 rfl (lv_at hl 0 rfl) ?_
      refine va_get (D := D) (ci := 11) (v := .ref c_a) (C := RX11) (T := TX11) (N := 11) hx hb ht iyX11 hown hK hP 0 rfl rfl 1 (by decide) (ht _ wf_X11_19) (fun _ h9 => h9) rfl dX11_jumper_63 ?_
      refine va_get (D := D) (ci := 1) (v := .ref c_a_hang) (C := RX1) (T := TX1) (N := 6) hx hb ht iyX1 hown hK hP 9 rfl rfl 3 (by decide) (ht _ wf_X11_110) (fun _ h9 => h9) rfl dX11_jumper_66 ?_
      refine lv_iload_n hx hb dX11_jumper_69 rfl (lv_at hl 1 rfl) ?_
      obtain ⟨h_7, hF⟩ := zi_chk hF
      refine va_iald hx hb hK hP 11 0 rfl rfl h_7 dX11_jumper_70 ?_
      obtain ⟨e_0, e_1, e_2, e_3, e_4, e_5, e_6, e_7⟩ := zo8 hF
      subst e_0
      subst e_1
      subst e_2
      subst e_3
      subst e_4
      subst e_5
      subst e_6
      subst e_7
      exact zret_i S hr hlocks hK hP hD hS dX11_jumper_71
    have hF := zi_neg c_6 hF
    by_cases c_8 : p2 = 2
    · have hF := zi_pos c_8 hF
      refine lv_tableIn (tgt := 72) hx hb dX11_jumper_11 (by rw [c_8]; decide) (by rw [c_8]; decide) (by rw [c_8]; rfl) (by decide) ?_
      refine lv_aload_n hx hb dX11_jumper_72 rfl (lv_at hl 0 rfl) ?_
      refine va_get (D := D) (ci := 11) (v := .ref s_a) (C := RX11) (T := TX11) (N := 11) hx hb ht iyX11 hown hK hP 0 rfl rfl 3 (by decide) (ht _ wf_X11_29) (fun _ h9 => h9) rfl dX11_jumper_73 ?_
      refine va_get (D := D) (ci := 8) (v := .ref s_a_wind) (C := RX8) (T := TX8) (N := 7) hx hb ht iyX8 hown hK hP 1 rfl rfl 6 (by decide) (ht _ wf_X11_113) (fun _ h9 => h9) rfl dX11_jumper_76 ?_
      refine lv_iload_n hx hb dX11_jumper_79 rfl (lv_at hl 1 rfl) ?_
      obtain ⟨h_9, hF⟩ := zi_chk hF
      refine va_iald hx hb hK hP 4 0 rfl rfl h_9 dX11_jumper_80 ?_
      obtain ⟨e_0, e_1, e_2, e_3, e_4, e_5, e_6, e_7⟩ := zo8 hF
      subst e_0
      subst e_1
      subst e_2
      subst e_3
      subst e_4
      subst e_5
      subst e_6
      subst e_7
      exact zret_i S hr hlocks hK hP hD hS dX11_jumper_81
    have hF := zi_neg c_8 hF
    by_cases c_10 : p2 = 3
    · have hF := zi_pos c_10 hF
      refine lv_tableIn (tgt := 82) hx hb dX11_jumper_11 (by rw [c_10]; decide) (by rw [c_10]; decide) (by rw [c_10]; rfl) (by decide) ?_
      refine lv_aload_n hx hb dX11_jumper_82 rfl (lv_at hl 0 rfl) ?_
      refine va_get (D := D) (ci := 11) (v := .ref s_a) (C := RX11) (T := TX11) (N := 11) hx hb ht iyX11 hown hK hP 0 rfl rfl 3 (by decide) (ht _ wf_X11_29) (fun _ h9 => h9) rfl dX11_jumper_83 ?_
      refine lv_iload_n hx hb dX11_jumper_86 rfl (lv_at hl 1 rfl) ?_
      obtain ⟨r_11, hc_12, hF⟩ := zb1_s hF
      refine zcv_i (ws1 := [(x_a, .inr (11, [.ref t_a, .ref c_a, .ref d_a, .ref s_a, .ref u_a, .ref q_a, .ref i_a, .ref k_a, .ref w_a, .ref n_a, .long x_asked])), (s_a, .inr (8, [.int s_tick, .int s_every, .int s_round, .int s_inside, .ref s_a_up, .ref s_a_due, .ref s_a_wind])), (s_a_up, .inl (cI, 6, .inl s_up)), (s_a_due, .inl (cI, 6, .inl s_due)), (s_a_wind, .inl (cI, 6, .inl s_wind)), (u_a, .inr (8, [.int u_tick, .int u_every, .int u_round, .int u_inside, .ref u_a_up, .ref u_a_due, .ref u_a_wind])), (u_a_up, .inl (cI, 6, .inl u_up)), (u_a_due, .inl (cI, 6, .inl u_due)), (u_a_wind, .inl (cI, 6, .inl u_wind)), (c_a, .inr (1, [.int c_every, .int c_size, .ref c_a_period, .ref c_a_hang, .ref c_a_start, .ref c_a_wind])), (c_a_period, .inl (cI, 6, .inl c_period)), (c_a_hang, .inl (cI, 6, .inl c_hang))]) S hT lk_X11_116 (c_X8_holds l D cI cZ cS cJ s_a s_a_up s_a_due s_a_wind s_tick s_every s_round s_inside p1 hc_12) ⟨rfl, rfl, Nat.le_of_ble_eq_true rfl, Nat.le_of_ble_eq_true rfl⟩ hK hP hD hS hA [1] [0, 2, 3, 4, 5, 6, 7, 8, 9, 10, 11] [0, 11, 1, 2, 3, 4, 5, 6, 7, 8, 9, 10] rfl rfl rfl rfl rfl rfl rfl rfl rfl rfl rfl hl.1 rfl (Nat.le_of_ble_eq_true rfl) dX11_jumper_87 ⟨Nat.zero_le _, Nat.zero_le _⟩ (fun H locs hP hD hS => ?_)
      refine lv_if_eq (tgt := 97) hx hb dX11_jumper_90 (by decide) (fun c_13 => ?_) (fun c_13 => ?_)
      · have hF := zi_pos c_13 hF
        refine lv_iconst (v := 0) hx hb dX11_jumper_97 (by decide) ?_
        obtain ⟨e_0, e_1, e_2, e_3, e_4, e_5, e_6, e_7⟩ := zo8 hF
        subst e_0
        subst e_1
        subst e_2
        subst e_3
        subst e_4
        subst e_5
        subst e_6
        subst e_7
        exact zret_i S hr hlocks hK hP hD hS dX11_jumper_98
      · have hF := zi_neg c_13 hF
        refine lv_iconst (v := 1) hx hb dX11_jumper_93 (by decide) ?_
        refine lv_goto (tgt := 98) hx hb dX11_jumper_94 (by decide) ?_
        obtain ⟨e_0, e_1, e_2, e_3, e_4, e_5, e_6, e_7⟩ := zo8 hF
        subst e_0
        subst e_1
        subst e_2
        subst e_3
        subst e_4
        subst e_5
        subst e_6
        subst e_7
        exact zret_i S hr hlocks hK hP hD hS dX11_jumper_98
    have hF := zi_neg c_10 hF
    by_cases c_14 : p2 = 4
    · have hF := zi_pos c_14 hF
      refine lv_tableIn (tgt := 99) hx hb dX11_jumper_11 (by rw [c_14]; decide) (by rw [c_14]; decide) (by rw [c_14]; rfl) (by decide) ?_
      refine lv_aload_n hx hb dX11_jumper_99 rfl (lv_at hl 0 rfl) ?_
      refine va_get (D := D) (ci := 11) (v := .ref s_a) (C := RX11) (T := TX11) (N := 11) hx hb ht iyX11 hown hK hP 0 rfl rfl 3 (by decide) (ht _ wf_X11_29) (fun _ h9 => h9) rfl dX11_jumper_100 ?_
      refine va_get (D := D) (ci := 8) (v := .ref s_a_up) (C := RX8) (T := TX8) (N := 7) hx hb ht iyX8 hown hK hP 1 rfl rfl 4 (by decide) (ht _ wf_X11_119) (fun _ h9 => h9) rfl dX11_jumper_103 ?_
      refine lv_iload_n hx hb dX11_jumper_106 rfl (lv_at hl 1 rfl) ?_
      obtain ⟨h_15, hF⟩ := zi_chk hF
      refine va_iald hx hb hK hP 2 0 rfl rfl h_15 dX11_jumper_107 ?_
      obtain ⟨e_0, e_1, e_2, e_3, e_4, e_5, e_6, e_7⟩ := zo8 hF
      subst e_0
      subst e_1
      subst e_2
      subst e_3
      subst e_4
      subst e_5
      subst e_6
      subst e_7
      exact zret_i S hr hlocks hK hP hD hS dX11_jumper_108
    have hF := zi_neg c_14 hF
    by_cases c_16 : p2 = 5
    · have hF := zi_pos c_16 hF
      refine lv_tableIn (tgt := 109) hx hb dX11_jumper_11 (by rw [c_16]; decide) (by rw [c_16]; decide) (by rw [c_16]; rfl) (by decide) ?_
      refine lv_aload_n hx hb dX11_jumper_109 rfl (lv_at hl 0 rfl) ?_
      refine va_get (D := D) (ci := 11) (v := .ref s_a) (C := RX11) (T := TX11) (N := 11) hx hb ht iyX11 hown hK hP 0 rfl rfl 3 (by decide) (ht _ wf_X11_29) (fun _ h9 => h9) rfl dX11_jumper_110 ?_
      refine lv_iload_n hx hb dX11_jumper_113 rfl (lv_at hl 1 rfl) ?_
      obtain ⟨r_17, hc_18, hF⟩ := zb1_s hF
      refine zcv_i (ws1 := [(x_a, .inr (11, [.ref t_a, .ref c_a, .ref d_a, .ref s_a, .ref u_a, .ref q_a, .ref i_a, .ref k_a, .ref w_a, .ref n_a, .long x_asked])), (s_a, .inr (8, [.int s_tick, .int s_every, .int s_round, .int s_inside, .ref s_a_up, .ref s_a_due, .ref s_a_wind])), (s_a_up, .inl (cI, 6, .inl s_up)), (s_a_due, .inl (cI, 6, .inl s_due)), (s_a_wind, .inl (cI, 6, .inl s_wind)), (u_a, .inr (8, [.int u_tick, .int u_every, .int u_round, .int u_inside, .ref u_a_up, .ref u_a_due, .ref u_a_wind])), (u_a_up, .inl (cI, 6, .inl u_up)), (u_a_due, .inl (cI, 6, .inl u_due)), (u_a_wind, .inl (cI, 6, .inl u_wind)), (c_a, .inr (1, [.int c_every, .int c_size, .ref c_a_period, .ref c_a_hang, .ref c_a_start, .ref c_a_wind])), (c_a_period, .inl (cI, 6, .inl c_period)), (c_a_hang, .inl (cI, 6, .inl c_hang))]) S hT lk_X11_116 (c_X8_holds l D cI cZ cS cJ s_a s_a_up s_a_due s_a_wind s_tick s_every s_round s_inside p1 hc_18) ⟨rfl, rfl, Nat.le_of_ble_eq_true rfl, Nat.le_of_ble_eq_true rfl⟩ hK hP hD hS hA [1] [0, 2, 3, 4, 5, 6, 7, 8, 9, 10, 11] [0, 11, 1, 2, 3, 4, 5, 6, 7, 8, 9, 10] rfl rfl rfl rfl rfl rfl rfl rfl rfl rfl rfl hl.1 rfl (Nat.le_of_ble_eq_true rfl) dX11_jumper_114 ⟨Nat.zero_le _, Nat.zero_le _⟩ (fun H locs hP hD hS => ?_)
      refine lv_if_eq (tgt := 132) hx hb dX11_jumper_117 (by decide) (fun c_19 => ?_) (fun c_19 => ?_)
      · have hF := zi_pos c_19 hF
        refine lv_bipush (v := (-9)) hx hb dX11_jumper_132 (by decide) ?_
        obtain ⟨e_0, e_1, e_2, e_3, e_4, e_5, e_6, e_7⟩ := zo8 hF
        subst e_0
        subst e_1
        subst e_2
        subst e_3
        subst e_4
        subst e_5
        subst e_6
        subst e_7
        exact zret_i S hr hlocks hK hP hD hS dX11_jumper_134
      · have hF := zi_neg c_19 hF
        refine lv_aload_n hx hb dX11_jumper_120 rfl (lv_at hl 0 rfl) ?_
        refine va_get (D := D) (ci := 11) (v := .ref s_a) (C := RX11) (T := TX11) (N := 11) hx hb ht iyX11 hown hK hP 0 rfl rfl 3 (by decide) (ht _ wf_X11_29) (fun _ h9 => h9) rfl dX11_jumper_121 ?_
        refine va_get (D := D) (ci := 8) (v := .ref s_a_due) (C := RX8) (T := TX8) (N := 7) hx hb ht iyX8 hown hK hP 1 rfl rfl 5 (by decide) (ht _ wf_X11_122) (fun _ h9 => h9) rfl dX11_jumper_124 ?_
        refine lv_iload_n hx hb dX11_jumper_127 rfl (lv_at hl 1 rfl) ?_
        obtain ⟨h_20, hF⟩ := zi_chk hF
        refine va_iald hx hb hK hP 3 0 rfl rfl h_20 dX11_jumper_128 ?_
        refine lv_goto (tgt := 134) hx hb dX11_jumper_129 (by decide) ?_
        obtain ⟨e_0, e_1, e_2, e_3, e_4, e_5, e_6, e_7⟩ := zo8 hF
        subst e_0
        subst e_1
        subst e_2
        subst e_3
        subst e_4
        subst e_5
        subst e_6
        subst e_7
        exact zret_i S hr hlocks hK hP hD hS dX11_jumper_134
    have hF := zi_neg c_16 hF
    by_cases c_21 : p2 = 6
    · have hF := zi_pos c_21 hF
      refine lv_tableIn (tgt := 135) hx hb dX11_jumper_11 (by rw [c_21]; decide) (by rw [c_21]; decide) (by rw [c_21]; rfl) (by decide) ?_
      refine lv_aload_n hx hb dX11_jumper_135 rfl (lv_at hl 0 rfl) ?_
      refine lv_iload_n hx hb dX11_jumper_136 rfl (lv_at hl 1 rfl) ?_
      obtain ⟨r_22, u_tick_23, u_every_24, u_round_25, u_inside_26, u_up_27, u_due_28, u_wind_29, hc_30, hF⟩ := zb8_s hF
      refine zcv_i (ws1 := [(x_a, .inr (11, [.ref t_a, .ref c_a, .ref d_a, .ref s_a, .ref u_a, .ref q_a, .ref i_a, .ref k_a, .ref w_a, .ref n_a, .long x_asked])), (s_a, .inr (8, [.int s_tick, .int s_every, .int s_round, .int s_inside, .ref s_a_up, .ref s_a_due, .ref s_a_wind])), (s_a_up, .inl (cI, 6, .inl s_up)), (s_a_due, .inl (cI, 6, .inl s_due)), (s_a_wind, .inl (cI, 6, .inl s_wind)), (u_a, .inr (8, [.int u_tick_23, .int u_every_24, .int u_round_25, .int u_inside_26, .ref u_a_up, .ref u_a_due, .ref u_a_wind])), (u_a_up, .inl (cI, 6, .inl u_up_27)), (u_a_due, .inl (cI, 6, .inl u_due_28)), (u_a_wind, .inl (cI, 6, .inl u_wind_29)), (c_a, .inr (1, [.int c_every, .int c_size, .ref c_a_period, .ref c_a_hang, .ref c_a_start, .ref c_a_wind])), (c_a_period, .inl (cI, 6, .inl c_period)), (c_a_hang, .inl (cI, 6, .inl c_hang))]) S hT lk_X11_125 (c_X11_tripNow l D cI cZ cS cJ x_a t_a c_a d_a s_a u_a q_a i_a k_a w_a n_a s_a_up s_a_due s_a_wind u_a_up u_a_due u_a_wind c_a_period c_a_hang c_a_start c_a_wind x_asked s_tick s_every s_round s_inside s_up s_due s_wind u_tick u_every u_round u_inside u_up u_due u_wind c_every c_size c_period c_hang p1 hc_30) ⟨rfl, rfl, Nat.le_of_ble_eq_true rfl, Nat.le_of_ble_eq_true rfl⟩ hK hP hD hS hA [0, 1, 2, 3, 4, 5, 6, 7, 8, 9, 10, 11] [] [0, 1, 2, 3, 4, 5, 6, 7, 8, 9, 10, 11] rfl rfl rfl rfl rfl rfl rfl rfl rfl rfl rfl hl.1 rfl (Nat.le_of_ble_eq_true rfl) dX11_jumper_137 ⟨Nat.zero_le _, Nat.zero_le _⟩ (fun H locs hP hD hS => ?_)
      obtain ⟨e_0, e_1, e_2, e_3, e_4, e_5, e_6, e_7⟩ := zo8 hF
      subst e_0
      subst e_1
      subst e_2
      subst e_3
      subst e_4
      subst e_5
      subst e_6
      subst e_7
      exact zret_i S hr hlocks hK hP hD hS dX11_jumper_140
    have hF := zi_neg c_21 hF
    have hto : p2.toInt < 0 ∨ 6 < p2.toInt := by
      have zc_4 := lv_neT c_4 (a := 0) (by decide)
      have zc_6 := lv_neT c_6 (a := 1) (by decide)
      have zc_8 := lv_neT c_8 (a := 2) (by decide)
      have zc_10 := lv_neT c_10 (a := 3) (by decide)
      have zc_14 := lv_neT c_14 (a := 4) (by decide)
      have zc_16 := lv_neT c_16 (a := 5) (by decide)
      have zc_21 := lv_neT c_21 (a := 6) (by decide)
      omega
    refine lv_tableOut (tgt := 141) hx hb dX11_jumper_11 hto (by decide) ?_
    refine lv_iconst (v := (-1)) hx hb dX11_jumper_141 (by decide) ?_
    obtain ⟨e_0, e_1, e_2, e_3, e_4, e_5, e_6, e_7⟩ := zo8 hF
    subst e_0
    subst e_1
    subst e_2
    subst e_3
    subst e_4
    subst e_5
    subst e_6
    subst e_7
    exact zret_i S hr hlocks hK hP hD hS dX11_jumper_142
  · have hF := zi_neg c_3 hF
    refine lv_iconst (v := (-1)) hx hb dX11_jumper_8 (by decide) ?_
    obtain ⟨e_0, e_1, e_2, e_3, e_4, e_5, e_6, e_7⟩ := zo8 hF
    subst e_0
    subst e_1
    subst e_2
    subst e_3
    subst e_4
    subst e_5
    subst e_6
    subst e_7
    exact zret_i S hr hlocks hK hP hD hS dX11_jumper_9

def L_X11_playTillFirst_13 (u_every : Int32) (c_size : Int32) (c_period : Nat → Int32) (c_hang : Nat → Int32) : Nat → Int32 → Int32 → Int32 → (Nat → Int32) → (Nat → Int32) → (Nat → Int32) → Int32 → Option ((Int32 × Int32 × Int32 × (Nat → Int32) × (Nat → Int32) × (Nat → Int32) × Int32) ⊕ (Int32 × Int32 × Int32 × Int32 × Int32 × (Nat → Int32) × (Nat → Int32) × (Nat → Int32)))
  | 0 => fun _ _ _ _ _ _ _ => none
  | n + 1 => fun u_tick u_round u_inside u_up u_due u_wind v1 => (if 120 < v1 then some (.inl (u_tick, u_round, u_inside, u_up, u_due, u_wind, v1)) else (zb7 (F_X8_step u_tick u_every u_round u_inside u_up u_due u_wind c_size c_period c_hang) (fun r_20 u_tick_21 u_round_22 u_inside_23 u_up_24 u_due_25 u_wind_26 => (if r_20 = 0 then (L_X11_playTillFirst_13 u_every c_size c_period c_hang n u_tick_21 u_round_22 u_inside_23 u_up_24 u_due_25 u_wind_26 (v1 + 1)) else some (.inr (v1, u_tick_21, u_every, u_round_22, u_inside_23, u_up_24, u_due_25, u_wind_26))))))
theorem L_X11_playTillFirst_13_z (u_every : Int32) (c_size : Int32) (c_period : Nat → Int32) (c_hang : Nat → Int32) (u_tick : Int32) (u_round : Int32) (u_inside : Int32) (u_up : Nat → Int32) (u_due : Nat → Int32) (u_wind : Nat → Int32) (v1 : Int32) : L_X11_playTillFirst_13 u_every c_size c_period c_hang 0 u_tick u_round u_inside u_up u_due u_wind v1 = none := rfl
theorem L_X11_playTillFirst_13_s (u_every : Int32) (c_size : Int32) (c_period : Nat → Int32) (c_hang : Nat → Int32) (n : Nat) (u_tick : Int32) (u_round : Int32) (u_inside : Int32) (u_up : Nat → Int32) (u_due : Nat → Int32) (u_wind : Nat → Int32) (v1 : Int32) : L_X11_playTillFirst_13 u_every c_size c_period c_hang (n + 1) u_tick u_round u_inside u_up u_due u_wind v1 = (if 120 < v1 then some (.inl (u_tick, u_round, u_inside, u_up, u_due, u_wind, v1)) else (zb7 (F_X8_step u_tick u_every u_round u_inside u_up u_due u_wind c_size c_period c_hang) (fun r_20 u_tick_21 u_round_22 u_inside_23 u_up_24 u_due_25 u_wind_26 => (if r_20 = 0 then (L_X11_playTillFirst_13 u_every c_size c_period c_hang n u_tick_21 u_round_22 u_inside_23 u_up_24 u_due_25 u_wind_26 (v1 + 1)) else some (.inr (v1, u_tick_21, u_every, u_round_22, u_inside_23, u_up_24, u_due_25, u_wind_26)))))) := rfl
def F_X11_playTillFirst (s_tick : Int32) (s_every : Int32) (s_round : Int32) (s_inside : Int32) (s_up : Nat → Int32) (s_due : Nat → Int32) (s_wind : Nat → Int32) (u_up : Nat → Int32) (u_due : Nat → Int32) (u_wind : Nat → Int32) (c_size : Int32) (c_period : Nat → Int32) (c_hang : Nat → Int32) : Option (Int32 × Int32 × Int32 × Int32 × Int32 × (Nat → Int32) × (Nat → Int32) × (Nat → Int32)) :=
  (zb7 (F_X8_become u_up u_due u_wind s_tick s_every s_round s_inside s_up s_due s_wind) (fun u_tick_1 u_every_2 u_round_3 u_inside_4 u_up_5 u_due_6 u_wind_7 => (zs7 (L_X11_playTillFirst_13 u_every_2 c_size c_period c_hang 300 u_tick_1 u_round_3 u_inside_4 u_up_5 u_due_6 u_wind_7 1) (fun u_tick_29 u_round_30 u_inside_31 u_up_32 u_due_33 u_wind_34 v1_35 => some ((-9), u_tick_29, u_every_2, u_round_30, u_inside_31, u_up_32, u_due_33, u_wind_34)))))
set_option maxHeartbeats 4000000 in
set_option maxRecDepth 100000 in
theorem c_X11_playTillFirst (l : Launch) (D : va_G) (cI cZ cS cJ : ClassId) (x_a : Nat) (t_a : Nat) (c_a : Nat) (d_a : Nat) (s_a : Nat) (u_a : Nat) (q_a : Nat) (i_a : Nat) (k_a : Nat) (w_a : Nat) (n_a : Nat) (s_a_up : Nat) (s_a_due : Nat) (s_a_wind : Nat) (u_a_up : Nat) (u_a_due : Nat) (u_a_wind : Nat) (c_a_period : Nat) (c_a_hang : Nat) (c_a_start : Nat) (c_a_wind : Nat) (x_asked : Int64) (s_tick : Int32) (s_every : Int32) (s_round : Int32) (s_inside : Int32) (s_up : Nat → Int32) (s_due : Nat → Int32) (s_wind : Nat → Int32) (u_tick : Int32) (u_every : Int32) (u_round : Int32) (u_inside : Int32) (u_up : Nat → Int32) (u_due : Nat → Int32) (u_wind : Nat → Int32) (c_every : Int32) (c_size : Int32) (c_period : Nat → Int32) (c_hang : Nat → Int32) {r_o : Int32} {u_tick_o : Int32} {u_every_o : Int32} {u_round_o : Int32} {u_inside_o : Int32} {u_up_o : Nat → Int32} {u_due_o : Nat → Int32} {u_wind_o : Nat → Int32} (hF : F_X11_playTillFirst s_tick s_every s_round s_inside s_up s_due s_wind u_up u_due u_wind c_size c_period c_hang = some (r_o, u_tick_o, u_every_o, u_round_o, u_inside_o, u_up_o, u_due_o, u_wind_o)) : zMi l yX11_playTillFirst (zwl yX11_playTillFirst cX11_playTillFirst 2 (some .int)) { frames := 3, cells := 0, slots := 0, locals := 65 } D (TYS cI cZ cS cJ) [.ref x_a] [(x_a, .inr (11, [.ref t_a, .ref c_a, .ref d_a, .ref s_a, .ref u_a, .ref q_a, .ref i_a, .ref k_a, .ref w_a, .ref n_a, .long x_asked])), (s_a, .inr (8, [.int s_tick, .int s_every, .int s_round, .int s_inside, .ref s_a_up, .ref s_a_due, .ref s_a_wind])), (s_a_up, .inl (cI, 6, .inl s_up)), (s_a_due, .inl (cI, 6, .inl s_due)), (s_a_wind, .inl (cI, 6, .inl s_wind)), (u_a, .inr (8, [.int u_tick, .int u_every, .int u_round, .int u_inside, .ref u_a_up, .ref u_a_due, .ref u_a_wind])), (u_a_up, .inl (cI, 6, .inl u_up)), (u_a_due, .inl (cI, 6, .inl u_due)), (u_a_wind, .inl (cI, 6, .inl u_wind)), (c_a, .inr (1, [.int c_every, .int c_size, .ref c_a_period, .ref c_a_hang, .ref c_a_start, .ref c_a_wind])), (c_a_period, .inl (cI, 6, .inl c_period)), (c_a_hang, .inl (cI, 6, .inl c_hang))] [(x_a, .inr (11, [.ref t_a, .ref c_a, .ref d_a, .ref s_a, .ref u_a, .ref q_a, .ref i_a, .ref k_a, .ref w_a, .ref n_a, .long x_asked])), (s_a, .inr (8, [.int s_tick, .int s_every, .int s_round, .int s_inside, .ref s_a_up, .ref s_a_due, .ref s_a_wind])), (s_a_up, .inl (cI, 6, .inl s_up)), (s_a_due, .inl (cI, 6, .inl s_due)), (s_a_wind, .inl (cI, 6, .inl s_wind)), (u_a, .inr (8, [.int u_tick_o, .int u_every_o, .int u_round_o, .int u_inside_o, .ref u_a_up, .ref u_a_due, .ref u_a_wind])), (u_a_up, .inl (cI, 6, .inl u_up_o)), (u_a_due, .inl (cI, 6, .inl u_due_o)), (u_a_wind, .inl (cI, 6, .inl u_wind_o)), (c_a, .inr (1, [.int c_every, .int c_size, .ref c_a_period, .ref c_a_hang, .ref c_a_start, .ref c_a_wind])), (c_a_period, .inl (cI, 6, .inl c_period)), (c_a_hang, .inl (cI, 6, .inl c_hang))] r_o := by
  refine zent_i (own := RX11) (by decide) rfl (Nat.le_of_ble_eq_true rfl) ?_
  intro p e s m below meth c A ls S hr hlocks hK hP hD hA hl
  have hx := S.1
  have hb := S.2.1
  have hml := S.2.2.1
  have hown := S.2.2.2.1
  have hT : ∀ w ∈ zt, w ∈ zwl yX11_playTillFirst cX11_playTillFirst 2 (some .int) := fun _ h => List.mem_cons_of_mem _ h
  have ht : ∀ w ∈ zt, w.before [.ref x_a].toArray s = true := fun w h => S.2.2.2.2 w (hT w h)
  have hl : lv_has ls 2 [(0, .ref x_a)] := hl
  have hS : va_S A s.heap s.heap [] := va_S.rf
  unfold F_X11_playTillFirst at hF
  have hloop_13 : ∀ (n : Nat) (x_asked : Int64) (s_tick : Int32) (s_every : Int32) (s_round : Int32) (s_inside : Int32) (s_up : Nat → Int32) (s_due : Nat → Int32) (s_wind : Nat → Int32) (u_tick : Int32) (u_every : Int32) (u_round : Int32) (u_inside : Int32) (u_up : Nat → Int32) (u_due : Nat → Int32) (u_wind : Nat → Int32) (c_every : Int32) (c_size : Int32) (c_period : Nat → Int32) (c_hang : Nat → Int32) (v1 : Int32) (res : (Int32 × Int32 × Int32 × (Nat → Int32) × (Nat → Int32) × (Nat → Int32) × Int32) ⊕ (Int32 × Int32 × Int32 × Int32 × Int32 × (Nat → Int32) × (Nat → Int32) × (Nat → Int32))), L_X11_playTillFirst_13 u_every c_size c_period c_hang n u_tick u_round u_inside u_up u_due u_wind v1 = some res → (∀ o, res = .inr o → o = (r_o, u_tick_o, u_every_o, u_round_o, u_inside_o, u_up_o, u_due_o, u_wind_o)) → ∀ (H : Heap) (locs : List Loc) (ls : Array Slot), va_P D classes [(x_a, .inr (11, [.ref t_a, .ref c_a, .ref d_a, .ref s_a, .ref u_a, .ref q_a, .ref i_a, .ref k_a, .ref w_a, .ref n_a, .long x_asked])), (s_a, .inr (8, [.int s_tick, .int s_every, .int s_round, .int s_inside, .ref s_a_up, .ref s_a_due, .ref s_a_wind])), (s_a_up, .inl (cI, 6, .inl s_up)), (s_a_due, .inl (cI, 6, .inl s_due)), (s_a_wind, .inl (cI, 6, .inl s_wind)), (u_a, .inr (8, [.int u_tick, .int u_every, .int u_round, .int u_inside, .ref u_a_up, .ref u_a_due, .ref u_a_wind])), (u_a_up, .inl (cI, 6, .inl u_up)), (u_a_due, .inl (cI, 6, .inl u_due)), (u_a_wind, .inl (cI, 6, .inl u_wind)), (c_a, .inr (1, [.int c_every, .int c_size, .ref c_a_period, .ref c_a_hang, .ref c_a_start, .ref c_a_wind])), (c_a_period, .inl (cI, 6, .inl c_period)), (c_a_hang, .inl (cI, 6, .inl c_hang))] H → va_D A [(x_a, .inr (11, [.ref t_a, .ref c_a, .ref d_a, .ref s_a, .ref u_a, .ref q_a, .ref i_a, .ref k_a, .ref w_a, .ref n_a, .long x_asked])), (s_a, .inr (8, [.int s_tick, .int s_every, .int s_round, .int s_inside, .ref s_a_up, .ref s_a_due, .ref s_a_wind])), (s_a_up, .inl (cI, 6, .inl s_up)), (s_a_due, .inl (cI, 6, .inl s_due)), (s_a_wind, .inl (cI, 6, .inl s_wind)), (u_a, .inr (8, [.int u_tick, .int u_every, .int u_round, .int u_inside, .ref u_a_up, .ref u_a_due, .ref u_a_wind])), (u_a_up, .inl (cI, 6, .inl u_up)), (u_a_due, .inl (cI, 6, .inl u_due)), (u_a_wind, .inl (cI, 6, .inl u_wind)), (c_a, .inr (1, [.int c_every, .int c_size, .ref c_a_period, .ref c_a_hang, .ref c_a_start, .ref c_a_wind])), (c_a_period, .inl (cI, 6, .inl c_period)), (c_a_hang, .inl (cI, 6, .inl c_hang))] → va_S A s.heap H locs → lv_has ls 2 [(0, .ref x_a), (1, .int v1)] → (∀ (u_tick' : Int32) (u_round' : Int32) (u_inside' : Int32) (u_up' : Nat → Int32) (u_due' : Nat → Int32) (u_wind' : Nat → Int32) (v1' : Int32), res = .inl (u_tick', u_round', u_inside', u_up', u_due', u_wind', v1') → ∀ (H : Heap) (locs : List Loc) (ls : Array Slot), va_P D classes [(x_a, .inr (11, [.ref t_a, .ref c_a, .ref d_a, .ref s_a, .ref u_a, .ref q_a, .ref i_a, .ref k_a, .ref w_a, .ref n_a, .long x_asked])), (s_a, .inr (8, [.int s_tick, .int s_every, .int s_round, .int s_inside, .ref s_a_up, .ref s_a_due, .ref s_a_wind])), (s_a_up, .inl (cI, 6, .inl s_up)), (s_a_due, .inl (cI, 6, .inl s_due)), (s_a_wind, .inl (cI, 6, .inl s_wind)), (u_a, .inr (8, [.int u_tick', .int u_every, .int u_round', .int u_inside', .ref u_a_up, .ref u_a_due, .ref u_a_wind])), (u_a_up, .inl (cI, 6, .inl u_up')), (u_a_due, .inl (cI, 6, .inl u_due')), (u_a_wind, .inl (cI, 6, .inl u_wind')), (c_a, .inr (1, [.int c_every, .int c_size, .ref c_a_period, .ref c_a_hang, .ref c_a_start, .ref c_a_wind])), (c_a_period, .inl (cI, 6, .inl c_period)), (c_a_hang, .inl (cI, 6, .inl c_hang))] H → va_D A [(x_a, .inr (11, [.ref t_a, .ref c_a, .ref d_a, .ref s_a, .ref u_a, .ref q_a, .ref i_a, .ref k_a, .ref w_a, .ref n_a, .long x_asked])), (s_a, .inr (8, [.int s_tick, .int s_every, .int s_round, .int s_inside, .ref s_a_up, .ref s_a_due, .ref s_a_wind])), (s_a_up, .inl (cI, 6, .inl s_up)), (s_a_due, .inl (cI, 6, .inl s_due)), (s_a_wind, .inl (cI, 6, .inl s_wind)), (u_a, .inr (8, [.int u_tick', .int u_every, .int u_round', .int u_inside', .ref u_a_up, .ref u_a_due, .ref u_a_wind])), (u_a_up, .inl (cI, 6, .inl u_up')), (u_a_due, .inl (cI, 6, .inl u_due')), (u_a_wind, .inl (cI, 6, .inl u_wind')), (c_a, .inr (1, [.int c_every, .int c_size, .ref c_a_period, .ref c_a_hang, .ref c_a_start, .ref c_a_wind])), (c_a_period, .inl (cI, 6, .inl c_period)), (c_a_hang, .inl (cI, 6, .inl c_hang))] → va_S A s.heap H locs → lv_has ls 2 [(0, .ref x_a), (1, .int v1')] → W p l e { frames := 3, cells := 0, slots := 0, locals := 65 } s m [.ref x_a].toArray below meth c H locs 0 0 (zFi below [.ref x_a] s A D (TYS cI cZ cS cJ) [(x_a, .inr (11, [.ref t_a, .ref c_a, .ref d_a, .ref s_a, .ref u_a, .ref q_a, .ref i_a, .ref k_a, .ref w_a, .ref n_a, .long x_asked])), (s_a, .inr (8, [.int s_tick, .int s_every, .int s_round, .int s_inside, .ref s_a_up, .ref s_a_due, .ref s_a_wind])), (s_a_up, .inl (cI, 6, .inl s_up)), (s_a_due, .inl (cI, 6, .inl s_due)), (s_a_wind, .inl (cI, 6, .inl s_wind)), (u_a, .inr (8, [.int u_tick_o, .int u_every_o, .int u_round_o, .int u_inside_o, .ref u_a_up, .ref u_a_due, .ref u_a_wind])), (u_a_up, .inl (cI, 6, .inl u_up_o)), (u_a_due, .inl (cI, 6, .inl u_due_o)), (u_a_wind, .inl (cI, 6, .inl u_wind_o)), (c_a, .inr (1, [.int c_every, .int c_size, .ref c_a_period, .ref c_a_hang, .ref c_a_start, .ref c_a_wind])), (c_a_period, .inl (cI, 6, .inl c_period)), (c_a_hang, .inl (cI, 6, .inl c_hang))] r_o) (F0 m 41 ls [])) → W p l e { frames := 3, cells := 0, slots := 0, locals := 65 } s m [.ref x_a].toArray below meth c H locs 0 0 (zFi below [.ref x_a] s A D (TYS cI cZ cS cJ) [(x_a, .inr (11, [.ref t_a, .ref c_a, .ref d_a, .ref s_a, .ref u_a, .ref q_a, .ref i_a, .ref k_a, .ref w_a, .ref n_a, .long x_asked])), (s_a, .inr (8, [.int s_tick, .int s_every, .int s_round, .int s_inside, .ref s_a_up, .ref s_a_due, .ref s_a_wind])), (s_a_up, .inl (cI, 6, .inl s_up)), (s_a_due, .inl (cI, 6, .inl s_due)), (s_a_wind, .inl (cI, 6, .inl s_wind)), (u_a, .inr (8, [.int u_tick_o, .int u_every_o, .int u_round_o, .int u_inside_o, .ref u_a_up, .ref u_a_due, .ref u_a_wind])), (u_a_up, .inl (cI, 6, .inl u_up_o)), (u_a_due, .inl (cI, 6, .inl u_due_o)), (u_a_wind, .inl (cI, 6, .inl u_wind_o)), (c_a, .inr (1, [.int c_every, .int c_size, .ref c_a_period, .ref c_a_hang, .ref c_a_start, .ref c_a_wind])), (c_a_period, .inl (cI, 6, .inl c_period)), (c_a_hang, .inl (cI, 6, .inl c_hang))] r_o) (F0 m 13 ls []) := by
    intro n
    induction n with
    | zero =>
      intro x_asked s_tick s_every s_round s_inside s_up s_due s_wind u_tick u_every u_round u_inside u_up u_due u_wind c_every c_size c_period c_hang v1 res hF
      rw [L_X11_playTillFirst_13_z] at hF
      cases hF
    | succ n ih_13 =>
      intro x_asked s_tick s_every s_round s_inside s_up s_due s_wind u_tick u_every u_round u_inside u_up u_due u_wind c_every c_size c_period c_hang v1 res hF hret H locs ls hP hD hS hl hexit_13
      rw [L_X11_playTillFirst_13_s] at hF
      refine lv_iload_n hx hb dX11_playTillFirst_13 rfl (lv_at hl 1 rfl) ?_
      refine lv_bipush (v := 120) hx hb dX11_playTillFirst_14 (by decide) ?_
      refine lv_icmp_gt (tgt := 41) hx hb dX11_playTillFirst_16 (by decide) (fun c_19 => ?_) (fun c_19 => ?_)
      · have hF := zi_pos c_19 hF
        have e_0 := zo1 hF
        subst e_0
        exact hexit_13 _ _ _ _ _ _ _ rfl _ _ _ hP hD hS (lv_sub hl [0, 1] rfl)
      · have hF := zi_neg c_19 hF
        refine lv_aload_n hx hb dX11_playTillFirst_19 rfl (lv_at hl 0 rfl) ?_
        refine va_get (D := D) (ci := 11) (v := .ref u_a) (C := RX11) (T := TX11) (N := 11) hx hb ht iyX11 hown hK hP 0 rfl rfl 4 (by decide) (ht _ wf_X11_33) (fun _ h9 => h9) rfl dX11_playTillFirst_20 ?_
        refine lv_aload_n hx hb dX11_playTillFirst_23 rfl (lv_at hl 0 rfl) ?_
        refine va_get (D := D) (ci := 11) (v := .ref c_a) (C := RX11) (T := TX11) (N := 11) hx hb ht iyX11 hown hK hP 0 rfl rfl 1 (by decide) (ht _ wf_X11_19) (fun _ h9 => h9) rfl dX11_playTillFirst_24 ?_
        obtain ⟨r_20, u_tick_21, u_round_22, u_inside_23, u_up_24, u_due_25, u_wind_26, hc_27, hF⟩ := zb7_s hF
        refine zcv_i (ws1 := [(x_a, .inr (11, [.ref t_a, .ref c_a, .ref d_a, .ref s_a, .ref u_a, .ref q_a, .ref i_a, .ref k_a, .ref w_a, .ref n_a, .long x_asked])), (s_a, .inr (8, [.int s_tick, .int s_every, .int s_round, .int s_inside, .ref s_a_up, .ref s_a_due, .ref s_a_wind])), (s_a_up, .inl (cI, 6, .inl s_up)), (s_a_due, .inl (cI, 6, .inl s_due)), (s_a_wind, .inl (cI, 6, .inl s_wind)), (u_a, .inr (8, [.int u_tick_21, .int u_every, .int u_round_22, .int u_inside_23, .ref u_a_up, .ref u_a_due, .ref u_a_wind])), (u_a_up, .inl (cI, 6, .inl u_up_24)), (u_a_due, .inl (cI, 6, .inl u_due_25)), (u_a_wind, .inl (cI, 6, .inl u_wind_26)), (c_a, .inr (1, [.int c_every, .int c_size, .ref c_a_period, .ref c_a_hang, .ref c_a_start, .ref c_a_wind])), (c_a_period, .inl (cI, 6, .inl c_period)), (c_a_hang, .inl (cI, 6, .inl c_hang))]) S hT lk_X11_152 (c_X8_step l D cI cZ cS cJ u_a u_a_up u_a_due u_a_wind c_a c_a_period c_a_hang c_a_start c_a_wind u_tick u_every u_round u_inside u_up u_due u_wind c_every c_size c_period c_hang hc_27) ⟨rfl, rfl, Nat.le_of_ble_eq_true rfl, Nat.le_of_ble_eq_true rfl⟩ hK hP hD hS hA [5, 6, 7, 8, 9, 10, 11] [0, 1, 2, 3, 4] [0, 1, 2, 3, 4, 5, 6, 7, 8, 9, 10, 11] rfl rfl rfl rfl rfl rfl rfl rfl rfl rfl rfl hl.1 rfl (Nat.le_of_ble_eq_true rfl) dX11_playTillFirst_27 ⟨Nat.zero_le _, Nat.zero_le _⟩ (fun H locs hP hD hS => ?_)
        refine lv_if_eq (tgt := 35) hx hb dX11_playTillFirst_30 (by decide) (fun c_28 => ?_) (fun c_28 => ?_)
        · have hF := zi_pos c_28 hF
          refine lv_iinc (v := v1 + 1) (lv' := [(1, .int (v1 + 1)), (0, .ref x_a)]) hx hb dX11_playTillFirst_35 hl (k := 1) rfl (by rfl) (by decide) rfl (fun ls hl => ?_)
          refine lv_goto (tgt := 13) hx hb dX11_playTillFirst_38 (by decide) ?_
          exact ih_13 x_asked s_tick s_every s_round s_inside s_up s_due s_wind u_tick_21 u_every u_round_22 u_inside_23 u_up_24 u_due_25 u_wind_26 c_every c_size c_period c_hang (v1 + 1) _ hF hret _ _ _ hP hD hS (lv_sub hl [1, 0] rfl) hexit_13
        · have hF := zi_neg c_28 hF
          refine lv_iload_n hx hb dX11_playTillFirst_33 rfl (lv_at hl 1 rfl) ?_
          obtain ⟨e_0, e_1, e_2, e_3, e_4, e_5, e_6, e_7⟩ := zo8 (congrArg some (hret _ (Option.some.inj hF).symm))
          subst e_0
          subst e_1
          subst e_2
          subst e_3
          subst e_4
          subst e_5
          subst e_6
          subst e_7
          exact zret_i S hr hlocks hK hP hD hS dX11_playTillFirst_34
  refine lv_aload_n hx hb dX11_playTillFirst_0 rfl (lv_at hl 0 rfl) ?_
  refine va_get (D := D) (ci := 11) (v := .ref u_a) (C := RX11) (T := TX11) (N := 11) hx hb ht iyX11 hown hK hP 0 rfl rfl 4 (by decide) (ht _ wf_X11_33) (fun _ h9 => h9) rfl dX11_playTillFirst_1 ?_
  refine lv_aload_n hx hb dX11_playTillFirst_4 rfl (lv_at hl 0 rfl) ?_
  refine va_get (D := D) (ci := 11) (v := .ref s_a) (C := RX11) (T := TX11) (N := 11) hx hb ht iyX11 hown hK hP 0 rfl rfl 3 (by decide) (ht _ wf_X11_29) (fun _ h9 => h9) rfl dX11_playTillFirst_5 ?_
  obtain ⟨u_tick_1, u_every_2, u_round_3, u_inside_4, u_up_5, u_due_6, u_wind_7, hc_8, hF⟩ := zb7_s hF
  refine zcv_v (ws1 := [(x_a, .inr (11, [.ref t_a, .ref c_a, .ref d_a, .ref s_a, .ref u_a, .ref q_a, .ref i_a, .ref k_a, .ref w_a, .ref n_a, .long x_asked])), (s_a, .inr (8, [.int s_tick, .int s_every, .int s_round, .int s_inside, .ref s_a_up, .ref s_a_due, .ref s_a_wind])), (s_a_up, .inl (cI, 6, .inl s_up)), (s_a_due, .inl (cI, 6, .inl s_due)), (s_a_wind, .inl (cI, 6, .inl s_wind)), (u_a, .inr (8, [.int u_tick_1, .int u_every_2, .int u_round_3, .int u_inside_4, .ref u_a_up, .ref u_a_due, .ref u_a_wind])), (u_a_up, .inl (cI, 6, .inl u_up_5)), (u_a_due, .inl (cI, 6, .inl u_due_6)), (u_a_wind, .inl (cI, 6, .inl u_wind_7)), (c_a, .inr (1, [.int c_every, .int c_size, .ref c_a_period, .ref c_a_hang, .ref c_a_start, .ref c_a_wind])), (c_a_period, .inl (cI, 6, .inl c_period)), (c_a_hang, .inl (cI, 6, .inl c_hang))]) S hT lk_X11_174 (c_X8_become l D cI cZ cS cJ u_a u_a_up u_a_due u_a_wind s_a s_a_up s_a_due s_a_wind u_tick u_every u_round u_inside u_up u_due u_wind s_tick s_every s_round s_inside s_up s_due s_wind hc_8) ⟨rfl, rfl, Nat.le_of_ble_eq_true rfl, Nat.le_of_ble_eq_true rfl⟩ hK hP hD hS hA [5, 6, 7, 8, 1, 2, 3, 4] [0, 9, 10, 11] [0, 8, 9, 10, 11, 4, 5, 6, 7, 1, 2, 3] rfl rfl rfl rfl rfl rfl rfl rfl rfl rfl rfl hl.1 rfl (Nat.le_of_ble_eq_true rfl) dX11_playTillFirst_8 ⟨Nat.zero_le _, Nat.zero_le _⟩ (fun H locs hP hD hS => ?_)
  refine lv_iconst (v := 1) hx hb dX11_playTillFirst_11 (by decide) ?_
  refine lv_istore_n (lv' := [(1, .int 1), (0, .ref x_a)]) hx hb dX11_playTillFirst_12 rfl hl (by decide) rfl (fun ls hl => ?_)
  rcases zs7_s hF with ⟨u_tick_29, u_round_30, u_inside_31, u_up_32, u_due_33, u_wind_34, v1_35, hL_36, hF⟩ | hL_36
  rotate_left
  · exact hloop_13 300 x_asked s_tick s_every s_round s_inside s_up s_due s_wind u_tick_1 u_every_2 u_round_3 u_inside_4 u_up_5 u_due_6 u_wind_7 c_every c_size c_period c_hang 1 _ hL_36 (fun o ho => (Sum.inr.inj ho).symm) _ _ _ hP hD hS (lv_sub hl [1, 0] rfl) (fun u_tick_29 u_round_30 u_inside_31 u_up_32 u_due_33 u_wind_34 v1_35 ho => nomatch ho)
  refine hloop_13 300 x_asked s_tick s_every s_round s_inside s_up s_due s_wind u_tick_1 u_every_2 u_round_3 u_inside_4 u_up_5 u_due_6 u_wind_7 c_every c_size c_period c_hang 1 _ hL_36 (fun o ho => nomatch ho) _ _ _ hP hD hS (lv_sub hl [1, 0] rfl) (fun u_tick_29' u_round_30' u_inside_31' u_up_32' u_due_33' u_wind_34' v1_35' ho H locs ls hP hD hS hl => ?_)
  obtain ⟨rfl, rfl, rfl, rfl, rfl, rfl, rfl⟩ : u_tick_29 = u_tick_29' ∧ u_round_30 = u_round_30' ∧ u_inside_31 = u_inside_31' ∧ u_up_32 = u_up_32' ∧ u_due_33 = u_due_33' ∧ u_wind_34 = u_wind_34' ∧ v1_35 = v1_35' := by cases ho; exact ⟨rfl, rfl, rfl, rfl, rfl, rfl, rfl⟩
  refine lv_bipush (v := (-9)) hx hb dX11_playTillFirst_41 (by decide) ?_
  obtain ⟨e_0, e_1, e_2, e_3, e_4, e_5, e_6, e_7⟩ := zo8 hF
  subst e_0
  subst e_1
  subst e_2
  subst e_3
  subst e_4
  subst e_5
  subst e_6
  subst e_7
  exact zret_i S hr hlocks hK hP hD hS dX11_playTillFirst_43

theorem lk_X11_141 : zLk RX11 141 yX11_playTillFirst cX11_playTillFirst 2 (some .int) 0 := ⟨⟨wm_X11_141, wo_X11_playTillFirst, we_X11_X11_playTillFirst, wi_X11, wd_X11_playTillFirst⟩, by decide, by decide, by decide +kernel⟩
def F_X11_firstOnes (s_tick : Int32) (s_every : Int32) (s_round : Int32) (s_inside : Int32) (s_up : Nat → Int32) (s_due : Nat → Int32) (s_wind : Nat → Int32) (u_up : Nat → Int32) (u_due : Nat → Int32) (u_wind : Nat → Int32) (c_size : Int32) (c_period : Nat → Int32) (c_hang : Nat → Int32) : Option (Int32 × Int32 × Int32 × Int32 × Int32 × (Nat → Int32) × (Nat → Int32) × (Nat → Int32)) :=
  (zb8 (F_X11_playTillFirst s_tick s_every s_round s_inside s_up s_due s_wind u_up u_due u_wind c_size c_period c_hang) (fun r_1 u_tick_2 u_every_3 u_round_4 u_inside_5 u_up_6 u_due_7 u_wind_8 => some (s_inside &&& (u_inside_5 ^^^ (-1)), u_tick_2, u_every_3, u_round_4, u_inside_5, u_up_6, u_due_7, u_wind_8)))
set_option maxHeartbeats 4000000 in
set_option maxRecDepth 100000 in
theorem c_X11_firstOnes (l : Launch) (D : va_G) (cI cZ cS cJ : ClassId) (x_a : Nat) (t_a : Nat) (c_a : Nat) (d_a : Nat) (s_a : Nat) (u_a : Nat) (q_a : Nat) (i_a : Nat) (k_a : Nat) (w_a : Nat) (n_a : Nat) (s_a_up : Nat) (s_a_due : Nat) (s_a_wind : Nat) (u_a_up : Nat) (u_a_due : Nat) (u_a_wind : Nat) (c_a_period : Nat) (c_a_hang : Nat) (c_a_start : Nat) (c_a_wind : Nat) (x_asked : Int64) (s_tick : Int32) (s_every : Int32) (s_round : Int32) (s_inside : Int32) (s_up : Nat → Int32) (s_due : Nat → Int32) (s_wind : Nat → Int32) (u_tick : Int32) (u_every : Int32) (u_round : Int32) (u_inside : Int32) (u_up : Nat → Int32) (u_due : Nat → Int32) (u_wind : Nat → Int32) (c_every : Int32) (c_size : Int32) (c_period : Nat → Int32) (c_hang : Nat → Int32) {r_o : Int32} {u_tick_o : Int32} {u_every_o : Int32} {u_round_o : Int32} {u_inside_o : Int32} {u_up_o : Nat → Int32} {u_due_o : Nat → Int32} {u_wind_o : Nat → Int32} (hF : F_X11_firstOnes s_tick s_every s_round s_inside s_up s_due s_wind u_up u_due u_wind c_size c_period c_hang = some (r_o, u_tick_o, u_every_o, u_round_o, u_inside_o, u_up_o, u_due_o, u_wind_o)) : zMi l yX11_firstOnes (zwl yX11_firstOnes cX11_firstOnes 1 (some .int)) { frames := 4, cells := 0, slots := 0, locals := 86 } D (TYS cI cZ cS cJ) [.ref x_a] [(x_a, .inr (11, [.ref t_a, .ref c_a, .ref d_a, .ref s_a, .ref u_a, .ref q_a, .ref i_a, .ref k_a, .ref w_a, .ref n_a, .long x_asked])), (s_a, .inr (8, [.int s_tick, .int s_every, .int s_round, .int s_inside, .ref s_a_up, .ref s_a_due, .ref s_a_wind])), (s_a_up, .inl (cI, 6, .inl s_up)), (s_a_due, .inl (cI, 6, .inl s_due)), (s_a_wind, .inl (cI, 6, .inl s_wind)), (u_a, .inr (8, [.int u_tick, .int u_every, .int u_round, .int u_inside, .ref u_a_up, .ref u_a_due, .ref u_a_wind])), (u_a_up, .inl (cI, 6, .inl u_up)), (u_a_due, .inl (cI, 6, .inl u_due)), (u_a_wind, .inl (cI, 6, .inl u_wind)), (c_a, .inr (1, [.int c_every, .int c_size, .ref c_a_period, .ref c_a_hang, .ref c_a_start, .ref c_a_wind])), (c_a_period, .inl (cI, 6, .inl c_period)), (c_a_hang, .inl (cI, 6, .inl c_hang))] [(x_a, .inr (11, [.ref t_a, .ref c_a, .ref d_a, .ref s_a, .ref u_a, .ref q_a, .ref i_a, .ref k_a, .ref w_a, .ref n_a, .long x_asked])), (s_a, .inr (8, [.int s_tick, .int s_every, .int s_round, .int s_inside, .ref s_a_up, .ref s_a_due, .ref s_a_wind])), (s_a_up, .inl (cI, 6, .inl s_up)), (s_a_due, .inl (cI, 6, .inl s_due)), (s_a_wind, .inl (cI, 6, .inl s_wind)), (u_a, .inr (8, [.int u_tick_o, .int u_every_o, .int u_round_o, .int u_inside_o, .ref u_a_up, .ref u_a_due, .ref u_a_wind])), (u_a_up, .inl (cI, 6, .inl u_up_o)), (u_a_due, .inl (cI, 6, .inl u_due_o)), (u_a_wind, .inl (cI, 6, .inl u_wind_o)), (c_a, .inr (1, [.int c_every, .int c_size, .ref c_a_period, .ref c_a_hang, .ref c_a_start, .ref c_a_wind])), (c_a_period, .inl (cI, 6, .inl c_period)), (c_a_hang, .inl (cI, 6, .inl c_hang))] r_o := by
  refine zent_i (own := RX11) (by decide) rfl (Nat.le_of_ble_eq_true rfl) ?_
  intro p e s m below meth c A ls S hr hlocks hK hP hD hA hl
  have hx := S.1
  have hb := S.2.1
  have hml := S.2.2.1
  have hown := S.2.2.2.1
  have hT : ∀ w ∈ zt, w ∈ zwl yX11_firstOnes cX11_firstOnes 1 (some .int) := fun _ h => List.mem_cons_of_mem _ h
  have ht : ∀ w ∈ zt, w.before [.ref x_a].toArray s = true := fun w h => S.2.2.2.2 w (hT w h)
  have hl : lv_has ls 1 [(0, .ref x_a)] := hl
  have hS : va_S A s.heap s.heap [] := va_S.rf
  unfold F_X11_firstOnes at hF
  refine lv_aload_n hx hb dX11_firstOnes_0 rfl (lv_at hl 0 rfl) ?_
  obtain ⟨r_1, u_tick_2, u_every_3, u_round_4, u_inside_5, u_up_6, u_due_7, u_wind_8, hc_9, hF⟩ := zb8_s hF
  refine zcv_i (ws1 := [(x_a, .inr (11, [.ref t_a, .ref c_a, .ref d_a, .ref s_a, .ref u_a, .ref q_a, .ref i_a, .ref k_a, .ref w_a, .ref n_a, .long x_asked])), (s_a, .inr (8, [.int s_tick, .int s_every, .int s_round, .int s_inside, .ref s_a_up, .ref s_a_due, .ref s_a_wind])), (s_a_up, .inl (cI, 6, .inl s_up)), (s_a_due, .inl (cI, 6, .inl s_due)), (s_a_wind, .inl (cI, 6, .inl s_wind)), (u_a, .inr (8, [.int u_tick_2, .int u_every_3, .int u_round_4, .int u_inside_5, .ref u_a_up, .ref u_a_due, .ref u_a_wind])), (u_a_up, .inl (cI, 6, .inl u_up_6)), (u_a_due, .inl (cI, 6, .inl u_due_7)), (u_a_wind, .inl (cI, 6, .inl u_wind_8)), (c_a, .inr (1, [.int c_every, .int c_size, .ref c_a_period, .ref c_a_hang, .ref c_a_start, .ref c_a_wind])), (c_a_period, .inl (cI, 6, .inl c_period)), (c_a_hang, .inl (cI, 6, .inl c_hang))]) S hT lk_X11_141 (c_X11_playTillFirst l D cI cZ cS cJ x_a t_a c_a d_a s_a u_a q_a i_a k_a w_a n_a s_a_up s_a_due s_a_wind u_a_up u_a_due u_a_wind c_a_period c_a_hang c_a_start c_a_wind x_asked s_tick s_every s_round s_inside s_up s_due s_wind u_tick u_every u_round u_inside u_up u_due u_wind c_every c_size c_period c_hang hc_9) ⟨rfl, rfl, Nat.le_of_ble_eq_true rfl, Nat.le_of_ble_eq_true rfl⟩ hK hP hD hS hA [0, 1, 2, 3, 4, 5, 6, 7, 8, 9, 10, 11] [] [0, 1, 2, 3, 4, 5, 6, 7, 8, 9, 10, 11] rfl rfl rfl rfl rfl rfl rfl rfl rfl rfl rfl hl.1 rfl (Nat.le_of_ble_eq_true rfl) dX11_firstOnes_1 ⟨Nat.zero_le _, Nat.zero_le _⟩ (fun H locs hP hD hS => ?_)
  refine lv_pop hx hb dX11_firstOnes_4 rfl ?_
  refine lv_aload_n hx hb dX11_firstOnes_5 rfl (lv_at hl 0 rfl) ?_
  refine va_get (D := D) (ci := 11) (v := .ref s_a) (C := RX11) (T := TX11) (N := 11) hx hb ht iyX11 hown hK hP 0 rfl rfl 3 (by decide) (ht _ wf_X11_29) (fun _ h9 => h9) rfl dX11_firstOnes_6 ?_
  refine va_get (D := D) (ci := 8) (v := .int s_inside) (C := RX8) (T := TX8) (N := 7) hx hb ht iyX8 hown hK hP 1 rfl rfl 3 (by decide) (ht _ wf_X11_138) (fun _ h9 => h9) rfl dX11_firstOnes_9 ?_
  refine lv_aload_n hx hb dX11_firstOnes_12 rfl (lv_at hl 0 rfl) ?_
  refine va_get (D := D) (ci := 11) (v := .ref u_a) (C := RX11) (T := TX11) (N := 11) hx hb ht iyX11 hown hK hP 0 rfl rfl 4 (by decide) (ht _ wf_X11_33) (fun _ h9 => h9) rfl dX11_firstOnes_13 ?_
  refine va_get (D := D) (ci := 8) (v := .int u_inside_5) (C := RX8) (T := TX8) (N := 7) hx hb ht iyX8 hown hK hP 5 rfl rfl 3 (by decide) (ht _ wf_X11_138) (fun _ h9 => h9) rfl dX11_firstOnes_16 ?_
  refine lv_iconst (v := (-1)) hx hb dX11_firstOnes_19 (by decide) ?_
  refine lv_ixor hx hb dX11_firstOnes_20 ?_
  refine lv_iand hx hb dX11_firstOnes_21 ?_
  obtain ⟨e_0, e_1, e_2, e_3, e_4, e_5, e_6, e_7⟩ := zo8 hF
  subst e_0
  subst e_1
  subst e_2
  subst e_3
  subst e_4
  subst e_5
  subst e_6
  subst e_7
  exact zret_i S hr hlocks hK hP hD hS dX11_firstOnes_22

theorem lk_X11_145 : zLk RX11 145 yX11_firstOnes cX11_firstOnes 1 (some .int) 0 := ⟨⟨wm_X11_145, wo_X11_firstOnes, we_X11_X11_firstOnes, wi_X11, wd_X11_firstOnes⟩, by decide, by decide, by decide +kernel⟩
def F_X11_now (s_tick : Int32) (s_every : Int32) (s_round : Int32) (s_inside : Int32) (s_up : Nat → Int32) (s_due : Nat → Int32) (s_wind : Nat → Int32) (u_tick : Int32) (u_every : Int32) (u_round : Int32) (u_inside : Int32) (u_up : Nat → Int32) (u_due : Nat → Int32) (u_wind : Nat → Int32) (c_size : Int32) (c_period : Nat → Int32) (c_hang : Nat → Int32) (q_size : Int32) (p1 : Int32) : Option (Int32 × Int32 × Int32 × Int32 × Int32 × (Nat → Int32) × (Nat → Int32) × (Nat → Int32)) :=
  (if p1 = 0 then some (s_tick, u_tick, u_every, u_round, u_inside, u_up, u_due, u_wind) else (if p1 = 1 then some (s_every, u_tick, u_every, u_round, u_inside, u_up, u_due, u_wind) else (if p1 = 2 then some (s_round, u_tick, u_every, u_round, u_inside, u_up, u_due, u_wind) else (if p1 = 3 then some (s_inside, u_tick, u_every, u_round, u_inside, u_up, u_due, u_wind) else (if p1 = 4 then (zb8 (F_X11_playTillFirst s_tick s_every s_round s_inside s_up s_due s_wind u_up u_due u_wind c_size c_period c_hang) (fun r_6 u_tick_7 u_every_8 u_round_9 u_inside_10 u_up_11 u_due_12 u_wind_13 => some (r_6, u_tick_7, u_every_8, u_round_9, u_inside_10, u_up_11, u_due_12, u_wind_13))) else (if p1 = 5 then (zb8 (F_X11_firstOnes s_tick s_every s_round s_inside s_up s_due s_wind u_up u_due u_wind c_size c_period c_hang) (fun r_16 u_tick_17 u_every_18 u_round_19 u_inside_20 u_up_21 u_due_22 u_wind_23 => some (r_16, u_tick_17, u_every_18, u_round_19, u_inside_20, u_up_21, u_due_22, u_wind_23))) else (if p1 = 6 then some (q_size, u_tick, u_every, u_round, u_inside, u_up, u_due, u_wind) else some ((-1), u_tick, u_every, u_round, u_inside, u_up, u_due, u_wind))))))))
set_option maxHeartbeats 4000000 in
set_option maxRecDepth 100000 in
theorem c_X11_now (l : Launch) (D : va_G) (cI cZ cS cJ : ClassId) (x_a : Nat) (t_a : Nat) (c_a : Nat) (d_a : Nat) (s_a : Nat) (u_a : Nat) (q_a : Nat) (i_a : Nat) (k_a : Nat) (w_a : Nat) (n_a : Nat) (s_a_up : Nat) (s_a_due : Nat) (s_a_wind : Nat) (u_a_up : Nat) (u_a_due : Nat) (u_a_wind : Nat) (c_a_period : Nat) (c_a_hang : Nat) (c_a_start : Nat) (c_a_wind : Nat) (q_a_ring : Nat) (x_asked : Int64) (s_tick : Int32) (s_every : Int32) (s_round : Int32) (s_inside : Int32) (s_up : Nat → Int32) (s_due : Nat → Int32) (s_wind : Nat → Int32) (u_tick : Int32) (u_every : Int32) (u_round : Int32) (u_inside : Int32) (u_up : Nat → Int32) (u_due : Nat → Int32) (u_wind : Nat → Int32) (c_every : Int32) (c_size : Int32) (c_period : Nat → Int32) (c_hang : Nat → Int32) (q_next : Int32) (q_size : Int32) (p1 : Int32) {r_o : Int32} {u_tick_o : Int32} {u_every_o : Int32} {u_round_o : Int32} {u_inside_o : Int32} {u_up_o : Nat → Int32} {u_due_o : Nat → Int32} {u_wind_o : Nat → Int32} (hF : F_X11_now s_tick s_every s_round s_inside s_up s_due s_wind u_tick u_every u_round u_inside u_up u_due u_wind c_size c_period c_hang q_size p1 = some (r_o, u_tick_o, u_every_o, u_round_o, u_inside_o, u_up_o, u_due_o, u_wind_o)) : zMi l yX11_now (zwl yX11_now cX11_now 2 (some .int)) { frames := 5, cells := 0, slots := 0, locals := 106 } D (TYS cI cZ cS cJ) [.ref x_a, .int p1] [(x_a, .inr (11, [.ref t_a, .ref c_a, .ref d_a, .ref s_a, .ref u_a, .ref q_a, .ref i_a, .ref k_a, .ref w_a, .ref n_a, .long x_asked])), (s_a, .inr (8, [.int s_tick, .int s_every, .int s_round, .int s_inside, .ref s_a_up, .ref s_a_due, .ref s_a_wind])), (s_a_up, .inl (cI, 6, .inl s_up)), (s_a_due, .inl (cI, 6, .inl s_due)), (s_a_wind, .inl (cI, 6, .inl s_wind)), (u_a, .inr (8, [.int u_tick, .int u_every, .int u_round, .int u_inside, .ref u_a_up, .ref u_a_due, .ref u_a_wind])), (u_a_up, .inl (cI, 6, .inl u_up)), (u_a_due, .inl (cI, 6, .inl u_due)), (u_a_wind, .inl (cI, 6, .inl u_wind)), (c_a, .inr (1, [.int c_every, .int c_size, .ref c_a_period, .ref c_a_hang, .ref c_a_start, .ref c_a_wind])), (c_a_period, .inl (cI, 6, .inl c_period)), (c_a_hang, .inl (cI, 6, .inl c_hang)), (q_a, .inr (6, [.ref q_a_ring, .int q_next, .int q_size]))] [(x_a, .inr (11, [.ref t_a, .ref c_a, .ref d_a, .ref s_a, .ref u_a, .ref q_a, .ref i_a, .ref k_a, .ref w_a, .ref n_a, .long x_asked])), (s_a, .inr (8, [.int s_tick, .int s_every, .int s_round, .int s_inside, .ref s_a_up, .ref s_a_due, .ref s_a_wind])), (s_a_up, .inl (cI, 6, .inl s_up)), (s_a_due, .inl (cI, 6, .inl s_due)), (s_a_wind, .inl (cI, 6, .inl s_wind)), (u_a, .inr (8, [.int u_tick_o, .int u_every_o, .int u_round_o, .int u_inside_o, .ref u_a_up, .ref u_a_due, .ref u_a_wind])), (u_a_up, .inl (cI, 6, .inl u_up_o)), (u_a_due, .inl (cI, 6, .inl u_due_o)), (u_a_wind, .inl (cI, 6, .inl u_wind_o)), (c_a, .inr (1, [.int c_every, .int c_size, .ref c_a_period, .ref c_a_hang, .ref c_a_start, .ref c_a_wind])), (c_a_period, .inl (cI, 6, .inl c_period)), (c_a_hang, .inl (cI, 6, .inl c_hang)), (q_a, .inr (6, [.ref q_a_ring, .int q_next, .int q_size]))] r_o := by
  refine zent_i (own := RX11) (by decide) rfl (Nat.le_of_ble_eq_true rfl) ?_
  intro p e s m below meth c A ls S hr hlocks hK hP hD hA hl
  have hx := S.1
  have hb := S.2.1
  have hml := S.2.2.1
  have hown := S.2.2.2.1
  have hT : ∀ w ∈ zt, w ∈ zwl yX11_now cX11_now 2 (some .int) := fun _ h => List.mem_cons_of_mem _ h
  have ht : ∀ w ∈ zt, w.before [.ref x_a, .int p1].toArray s = true := fun w h => S.2.2.2.2 w (hT w h)
  have hl : lv_has ls 2 [(0, .ref x_a), (1, .int p1)] := hl
  have hS : va_S A s.heap s.heap [] := va_S.rf
  unfold F_X11_now at hF
  refine lv_iload_n hx hb dX11_now_0 rfl (lv_at hl 1 rfl) ?_
  by_cases c_1 : p1 = 0
  · have hF := zi_pos c_1 hF
    refine lv_tableIn (tgt := 44) hx hb dX11_now_1 (by rw [c_1]; decide) (by rw [c_1]; decide) (by rw [c_1]; rfl) (by decide) ?_
    refine lv_aload_n hx hb dX11_now_44 rfl (lv_at hl 0 rfl) ?_
    refine va_get (D := D) (ci := 11) (v := .ref s_a) (C := RX11) (T := TX11) (N := 11) hx hb ht iyX11 hown hK hP 0 rfl rfl 3 (by decide) (ht _ wf_X11_29) (fun _ h9 => h9) rfl dX11_now_45 ?_
    refine va_get (D := D) (ci := 8) (v := .int s_tick) (C := RX8) (T := TX8) (N := 7) hx hb ht iyX8 hown hK hP 1 rfl rfl 0 (by decide) (ht _ wf_X11_129) (fun _ h9 => h9) rfl dX11_now_48 ?_
    obtain ⟨e_0, e_1, e_2, e_3, e_4, e_5, e_6, e_7⟩ := zo8 hF
    subst e_0
    subst e_1
    subst e_2
    subst e_3
    subst e_4
    subst e_5
    subst e_6
    subst e_7
    exact zret_i S hr hlocks hK hP hD hS dX11_now_51
  have hF := zi_neg c_1 hF
  by_cases c_2 : p1 = 1
  · have hF := zi_pos c_2 hF
    refine lv_tableIn (tgt := 52) hx hb dX11_now_1 (by rw [c_2]; decide) (by rw [c_2]; decide) (by rw [c_2]; rfl) (by decide) ?_
    refine lv_aload_n hx hb dX11_now_52 rfl (lv_at hl 0 rfl) ?_
    refine va_get (D := D) (ci := 11) (v := .ref s_a) (C := RX11) (T := TX11) (N := 11) hx hb ht iyX11 hown hK hP 0 rfl rfl 3 (by decide) (ht _ wf_X11_29) (fun _ h9 => h9) rfl dX11_now_53 ?_
    refine va_get (D := D) (ci := 8) (v := .int s_every) (C := RX8) (T := TX8) (N := 7) hx hb ht iyX8 hown hK hP 1 rfl rfl 1 (by decide) (ht _ wf_X11_132) (fun _ h9 => h9) rfl dX11_now_56 ?_
    obtain ⟨e_0, e_1, e_2, e_3, e_4, e_5, e_6, e_7⟩ := zo8 hF
    subst e_0
    subst e_1
    subst e_2
    subst e_3
    subst e_4
    subst e_5
    subst e_6
    subst e_7
    exact zret_i S hr hlocks hK hP hD hS dX11_now_59
  have hF := zi_neg c_2 hF
  by_cases c_3 : p1 = 2
  · have hF := zi_pos c_3 hF
    refine lv_tableIn (tgt := 60) hx hb dX11_now_1 (by rw [c_3]; decide) (by rw [c_3]; decide) (by rw [c_3]; rfl) (by decide) ?_
    refine lv_aload_n hx hb dX11_now_60 rfl (lv_at hl 0 rfl) ?_
    refine va_get (D := D) (ci := 11) (v := .ref s_a) (C := RX11) (T := TX11) (N := 11) hx hb ht iyX11 hown hK hP 0 rfl rfl 3 (by decide) (ht _ wf_X11_29) (fun _ h9 => h9) rfl dX11_now_61 ?_
    refine va_get (D := D) (ci := 8) (v := .int s_round) (C := RX8) (T := TX8) (N := 7) hx hb ht iyX8 hown hK hP 1 rfl rfl 2 (by decide) (ht _ wf_X11_135) (fun _ h9 => h9) rfl dX11_now_64 ?_
    obtain ⟨e_0, e_1, e_2, e_3, e_4, e_5, e_6, e_7⟩ := zo8 hF
    subst e_0
    subst e_1
    subst e_2
    subst e_3
    subst e_4
    subst e_5
    subst e_6
    subst e_7
    exact zret_i S hr hlocks hK hP hD hS dX11_now_67
  have hF := zi_neg c_3 hF
  by_cases c_4 : p1 = 3
  · have hF := zi_pos c_4 hF
    refine lv_tableIn (tgt := 68) hx hb dX11_now_1 (by rw [c_4]; decide) (by rw [c_4]; decide) (by rw [c_4]; rfl) (by decide) ?_
    refine lv_aload_n hx hb dX11_now_68 rfl (lv_at hl 0 rfl) ?_
    refine va_get (D := D) (ci := 11) (v := .ref s_a) (C := RX11) (T := TX11) (N := 11) hx hb ht iyX11 hown hK hP 0 rfl rfl 3 (by decide) (ht _ wf_X11_29) (fun _ h9 => h9) rfl dX11_now_69 ?_
    refine va_get (D := D) (ci := 8) (v := .int s_inside) (C := RX8) (T := TX8) (N := 7) hx hb ht iyX8 hown hK hP 1 rfl rfl 3 (by decide) (ht _ wf_X11_138) (fun _ h9 => h9) rfl dX11_now_72 ?_
    obtain ⟨e_0, e_1, e_2, e_3, e_4, e_5, e_6, e_7⟩ := zo8 hF
    subst e_0
    subst e_1
    subst e_2
    subst e_3
    subst e_4
    subst e_5
    subst e_6
    subst e_7
    exact zret_i S hr hlocks hK hP hD hS dX11_now_75
  have hF := zi_neg c_4 hF
  by_cases c_5 : p1 = 4
  · have hF := zi_pos c_5 hF
    refine lv_tableIn (tgt := 76) hx hb dX11_now_1 (by rw [c_5]; decide) (by rw [c_5]; decide) (by rw [c_5]; rfl) (by decide) ?_
    refine lv_aload_n hx hb dX11_now_76 rfl (lv_at hl 0 rfl) ?_
    obtain ⟨r_6, u_tick_7, u_every_8, u_round_9, u_inside_10, u_up_11, u_due_12, u_wind_13, hc_14, hF⟩ := zb8_s hF
    refine zcv_i (ws1 := [(x_a, .inr (11, [.ref t_a, .ref c_a, .ref d_a, .ref s_a, .ref u_a, .ref q_a, .ref i_a, .ref k_a, .ref w_a, .ref n_a, .long x_asked])), (s_a, .inr (8, [.int s_tick, .int s_every, .int s_round, .int s_inside, .ref s_a_up, .ref s_a_due, .ref s_a_wind])), (s_a_up, .inl (cI, 6, .inl s_up)), (s_a_due, .inl (cI, 6, .inl s_due)), (s_a_wind, .inl (cI, 6, .inl s_wind)), (u_a, .inr (8, [.int u_tick_7, .int u_every_8, .int u_round_9, .int u_inside_10, .ref u_a_up, .ref u_a_due, .ref u_a_wind])), (u_a_up, .inl (cI, 6, .inl u_up_11)), (u_a_due, .inl (cI, 6, .inl u_due_12)), (u_a_wind, .inl (cI, 6, .inl u_wind_13)), (c_a, .inr (1, [.int c_every, .int c_size, .ref c_a_period, .ref c_a_hang, .ref c_a_start, .ref c_a_wind])), (c_a_period, .inl (cI, 6, .inl c_period)), (c_a_hang, .inl (cI, 6, .inl c_hang)), (q_a, .inr (6, [.ref q_a_ring, .int q_next, .int q_size]))]) S hT lk_X11_141 (c_X11_playTillFirst l D cI cZ cS cJ x_a t_a c_a d_a s_a u_a q_a i_a k_a w_a n_a s_a_up s_a_due s_a_wind u_a_up u_a_due u_a_wind c_a_period c_a_hang c_a_start c_a_wind x_asked s_tick s_every s_round s_inside s_up s_due s_wind u_tick u_every u_round u_inside u_up u_due u_wind c_every c_size c_period c_hang hc_14) ⟨rfl, rfl, Nat.le_of_ble_eq_true rfl, Nat.le_of_ble_eq_true rfl⟩ hK hP hD hS hA [0, 1, 2, 3, 4, 5, 6, 7, 8, 9, 10, 11] [12] [1, 2, 3, 4, 5, 6, 7, 8, 9, 10, 11, 12, 0] rfl rfl rfl rfl rfl rfl rfl rfl rfl rfl rfl hl.1 rfl (Nat.le_of_ble_eq_true rfl) dX11_now_77 ⟨Nat.zero_le _, Nat.zero_le _⟩ (fun H locs hP hD hS => ?_)
    obtain ⟨e_0, e_1, e_2, e_3, e_4, e_5, e_6, e_7⟩ := zo8 hF
    subst e_0
    subst e_1
    subst e_2
    subst e_3
    subst e_4
    subst e_5
    subst e_6
    subst e_7
    exact zret_i S hr hlocks hK hP hD hS dX11_now_80
  have hF := zi_neg c_5 hF
  by_cases c_15 : p1 = 5
  · have hF := zi_pos c_15 hF
    refine lv_tableIn (tgt := 81) hx hb dX11_now_1 (by rw [c_15]; decide) (by rw [c_15]; decide) (by rw [c_15]; rfl) (by decide) ?_
    refine lv_aload_n hx hb dX11_now_81 rfl (lv_at hl 0 rfl) ?_
    obtain ⟨r_16, u_tick_17, u_every_18, u_round_19, u_inside_20, u_up_21, u_due_22, u_wind_23, hc_24, hF⟩ := zb8_s hF
    refine zcv_i (ws1 := [(x_a, .inr (11, [.ref t_a, .ref c_a, .ref d_a, .ref s_a, .ref u_a, .ref q_a, .ref i_a, .ref k_a, .ref w_a, .ref n_a, .long x_asked])), (s_a, .inr (8, [.int s_tick, .int s_every, .int s_round, .int s_inside, .ref s_a_up, .ref s_a_due, .ref s_a_wind])), (s_a_up, .inl (cI, 6, .inl s_up)), (s_a_due, .inl (cI, 6, .inl s_due)), (s_a_wind, .inl (cI, 6, .inl s_wind)), (u_a, .inr (8, [.int u_tick_17, .int u_every_18, .int u_round_19, .int u_inside_20, .ref u_a_up, .ref u_a_due, .ref u_a_wind])), (u_a_up, .inl (cI, 6, .inl u_up_21)), (u_a_due, .inl (cI, 6, .inl u_due_22)), (u_a_wind, .inl (cI, 6, .inl u_wind_23)), (c_a, .inr (1, [.int c_every, .int c_size, .ref c_a_period, .ref c_a_hang, .ref c_a_start, .ref c_a_wind])), (c_a_period, .inl (cI, 6, .inl c_period)), (c_a_hang, .inl (cI, 6, .inl c_hang)), (q_a, .inr (6, [.ref q_a_ring, .int q_next, .int q_size]))]) S hT lk_X11_145 (c_X11_firstOnes l D cI cZ cS cJ x_a t_a c_a d_a s_a u_a q_a i_a k_a w_a n_a s_a_up s_a_due s_a_wind u_a_up u_a_due u_a_wind c_a_period c_a_hang c_a_start c_a_wind x_asked s_tick s_every s_round s_inside s_up s_due s_wind u_tick u_every u_round u_inside u_up u_due u_wind c_every c_size c_period c_hang hc_24) ⟨rfl, rfl, Nat.le_of_ble_eq_true rfl, Nat.le_of_ble_eq_true rfl⟩ hK hP hD hS hA [0, 1, 2, 3, 4, 5, 6, 7, 8, 9, 10, 11] [12] [1, 2, 3, 4, 5, 6, 7, 8, 9, 10, 11, 12, 0] rfl rfl rfl rfl rfl rfl rfl rfl rfl rfl rfl hl.1 rfl (Nat.le_of_ble_eq_true rfl) dX11_now_82 ⟨Nat.zero_le _, Nat.zero_le _⟩ (fun H locs hP hD hS => ?_)
    obtain ⟨e_0, e_1, e_2, e_3, e_4, e_5, e_6, e_7⟩ := zo8 hF
    subst e_0
    subst e_1
    subst e_2
    subst e_3
    subst e_4
    subst e_5
    subst e_6
    subst e_7
    exact zret_i S hr hlocks hK hP hD hS dX11_now_85
  have hF := zi_neg c_15 hF
  by_cases c_25 : p1 = 6
  · have hF := zi_pos c_25 hF
    refine lv_tableIn (tgt := 86) hx hb dX11_now_1 (by rw [c_25]; decide) (by rw [c_25]; decide) (by rw [c_25]; rfl) (by decide) ?_
    refine lv_aload_n hx hb dX11_now_86 rfl (lv_at hl 0 rfl) ?_
    refine va_get (D := D) (ci := 11) (v := .ref q_a) (C := RX11) (T := TX11) (N := 11) hx hb ht iyX11 hown hK hP 0 rfl rfl 5 (by decide) (ht _ wf_X11_39) (fun _ h9 => h9) rfl dX11_now_87 ?_
    refine va_get (D := D) (ci := 6) (v := .int q_size) (C := RX6) (T := TX6) (N := 3) hx hb ht iyX6 hown hK hP 12 rfl rfl 2 (by decide) (ht _ wf_X11_96) (fun _ h9 => h9) rfl dX11_now_90 ?_
    obtain ⟨e_0, e_1, e_2, e_3, e_4, e_5, e_6, e_7⟩ := zo8 hF
    subst e_0
    subst e_1
    subst e_2
    subst e_3
    subst e_4
    subst e_5
    subst e_6
    subst e_7
    exact zret_i S hr hlocks hK hP hD hS dX11_now_93
  have hF := zi_neg c_25 hF
  have hto : p1.toInt < 0 ∨ 6 < p1.toInt := by
    have zc_1 := lv_neT c_1 (a := 0) (by decide)
    have zc_2 := lv_neT c_2 (a := 1) (by decide)
    have zc_3 := lv_neT c_3 (a := 2) (by decide)
    have zc_4 := lv_neT c_4 (a := 3) (by decide)
    have zc_5 := lv_neT c_5 (a := 4) (by decide)
    have zc_15 := lv_neT c_15 (a := 5) (by decide)
    have zc_25 := lv_neT c_25 (a := 6) (by decide)
    omega
  refine lv_tableOut (tgt := 94) hx hb dX11_now_1 hto (by decide) ?_
  refine lv_iconst (v := (-1)) hx hb dX11_now_94 (by decide) ?_
  obtain ⟨e_0, e_1, e_2, e_3, e_4, e_5, e_6, e_7⟩ := zo8 hF
  subst e_0
  subst e_1
  subst e_2
  subst e_3
  subst e_4
  subst e_5
  subst e_6
  subst e_7
  exact zret_i S hr hlocks hK hP hD hS dX11_now_95

theorem lk_X11_177 : zLk RX11 177 yX11_playOn cX11_playOn 3 none 1 := ⟨⟨wm_X11_177, wo_X11_playOn, we_X11_X11_playOn, wi_X11, wd_X11_playOn⟩, by decide, by decide, by decide +kernel⟩
def F_X11_stay (s_tick : Int32) (s_every : Int32) (s_round : Int32) (s_inside : Int32) (s_up : Nat → Int32) (s_due : Nat → Int32) (s_wind : Nat → Int32) (u_tick : Int32) (u_every : Int32) (u_round : Int32) (u_inside : Int32) (u_up : Nat → Int32) (u_due : Nat → Int32) (u_wind : Nat → Int32) (c_size : Int32) (c_period : Nat → Int32) (c_hang : Nat → Int32) (p1 : Int32) : Option (Int32 × Int32 × Int32 × Int32 × Int32 × (Nat → Int32) × (Nat → Int32) × (Nat → Int32)) :=
  (if p1 < 0 then some ((-1), u_tick, u_every, u_round, u_inside, u_up, u_due, u_wind) else (if p1 ≤ 120 then (zb7 (F_X8_become u_up u_due u_wind s_tick s_every s_round s_inside s_up s_due s_wind) (fun u_tick_3 u_every_4 u_round_5 u_inside_6 u_up_7 u_due_8 u_wind_9 => (zb6 (F_X11_playOn u_tick_3 u_every_4 u_round_5 u_inside_6 u_up_7 u_due_8 u_wind_9 c_size c_period c_hang p1) (fun u_tick_11 u_round_12 u_inside_13 u_up_14 u_due_15 u_wind_16 => some (u_inside_13, u_tick_11, u_every_4, u_round_12, u_inside_13, u_up_14, u_due_15, u_wind_16))))) else some ((-1), u_tick, u_every, u_round, u_inside, u_up, u_due, u_wind)))
set_option maxHeartbeats 4000000 in
set_option maxRecDepth 100000 in
theorem c_X11_stay (l : Launch) (D : va_G) (cI cZ cS cJ : ClassId) (x_a : Nat) (t_a : Nat) (c_a : Nat) (d_a : Nat) (s_a : Nat) (u_a : Nat) (q_a : Nat) (i_a : Nat) (k_a : Nat) (w_a : Nat) (n_a : Nat) (s_a_up : Nat) (s_a_due : Nat) (s_a_wind : Nat) (u_a_up : Nat) (u_a_due : Nat) (u_a_wind : Nat) (c_a_period : Nat) (c_a_hang : Nat) (c_a_start : Nat) (c_a_wind : Nat) (x_asked : Int64) (s_tick : Int32) (s_every : Int32) (s_round : Int32) (s_inside : Int32) (s_up : Nat → Int32) (s_due : Nat → Int32) (s_wind : Nat → Int32) (u_tick : Int32) (u_every : Int32) (u_round : Int32) (u_inside : Int32) (u_up : Nat → Int32) (u_due : Nat → Int32) (u_wind : Nat → Int32) (c_every : Int32) (c_size : Int32) (c_period : Nat → Int32) (c_hang : Nat → Int32) (p1 : Int32) {r_o : Int32} {u_tick_o : Int32} {u_every_o : Int32} {u_round_o : Int32} {u_inside_o : Int32} {u_up_o : Nat → Int32} {u_due_o : Nat → Int32} {u_wind_o : Nat → Int32} (hF : F_X11_stay s_tick s_every s_round s_inside s_up s_due s_wind u_tick u_every u_round u_inside u_up u_due u_wind c_size c_period c_hang p1 = some (r_o, u_tick_o, u_every_o, u_round_o, u_inside_o, u_up_o, u_due_o, u_wind_o)) : zMi l yX11_stay (zwl yX11_stay cX11_stay 2 (some .int)) { frames := 4, cells := 0, slots := 0, locals := 87 } D (TYS cI cZ cS cJ) [.ref x_a, .int p1] [(x_a, .inr (11, [.ref t_a, .ref c_a, .ref d_a, .ref s_a, .ref u_a, .ref q_a, .ref i_a, .ref k_a, .ref w_a, .ref n_a, .long x_asked])), (s_a, .inr (8, [.int s_tick, .int s_every, .int s_round, .int s_inside, .ref s_a_up, .ref s_a_due, .ref s_a_wind])), (s_a_up, .inl (cI, 6, .inl s_up)), (s_a_due, .inl (cI, 6, .inl s_due)), (s_a_wind, .inl (cI, 6, .inl s_wind)), (u_a, .inr (8, [.int u_tick, .int u_every, .int u_round, .int u_inside, .ref u_a_up, .ref u_a_due, .ref u_a_wind])), (u_a_up, .inl (cI, 6, .inl u_up)), (u_a_due, .inl (cI, 6, .inl u_due)), (u_a_wind, .inl (cI, 6, .inl u_wind)), (c_a, .inr (1, [.int c_every, .int c_size, .ref c_a_period, .ref c_a_hang, .ref c_a_start, .ref c_a_wind])), (c_a_period, .inl (cI, 6, .inl c_period)), (c_a_hang, .inl (cI, 6, .inl c_hang))] [(x_a, .inr (11, [.ref t_a, .ref c_a, .ref d_a, .ref s_a, .ref u_a, .ref q_a, .ref i_a, .ref k_a, .ref w_a, .ref n_a, .long x_asked])), (s_a, .inr (8, [.int s_tick, .int s_every, .int s_round, .int s_inside, .ref s_a_up, .ref s_a_due, .ref s_a_wind])), (s_a_up, .inl (cI, 6, .inl s_up)), (s_a_due, .inl (cI, 6, .inl s_due)), (s_a_wind, .inl (cI, 6, .inl s_wind)), (u_a, .inr (8, [.int u_tick_o, .int u_every_o, .int u_round_o, .int u_inside_o, .ref u_a_up, .ref u_a_due, .ref u_a_wind])), (u_a_up, .inl (cI, 6, .inl u_up_o)), (u_a_due, .inl (cI, 6, .inl u_due_o)), (u_a_wind, .inl (cI, 6, .inl u_wind_o)), (c_a, .inr (1, [.int c_every, .int c_size, .ref c_a_period, .ref c_a_hang, .ref c_a_start, .ref c_a_wind])), (c_a_period, .inl (cI, 6, .inl c_period)), (c_a_hang, .inl (cI, 6, .inl c_hang))] r_o := by
  refine zent_i (own := RX11) (by decide) rfl (Nat.le_of_ble_eq_true rfl) ?_
  intro p e s m below meth c A ls S hr hlocks hK hP hD hA hl
  have hx := S.1
  have hb := S.2.1
  have hml := S.2.2.1
  have hown := S.2.2.2.1
  have hT : ∀ w ∈ zt, w ∈ zwl yX11_stay cX11_stay 2 (some .int) := fun _ h => List.mem_cons_of_mem _ h
  have ht : ∀ w ∈ zt, w.before [.ref x_a, .int p1].toArray s = true := fun w h => S.2.2.2.2 w (hT w h)
  have hl : lv_has ls 2 [(0, .ref x_a), (1, .int p1)] := hl
  have hS : va_S A s.heap s.heap [] := va_S.rf
  unfold F_X11_stay at hF
  refine lv_iload_n hx hb dX11_stay_0 rfl (lv_at hl 1 rfl) ?_
  refine lv_if_lt (tgt := 10) hx hb dX11_stay_1 (by decide) (fun c_1 => ?_) (fun c_1 => ?_)
  · have hF := zi_pos c_1 hF
    refine lv_iconst (v := (-1)) hx hb dX11_stay_10 (by decide) ?_
    obtain ⟨e_0, e_1, e_2, e_3, e_4, e_5, e_6, e_7⟩ := zo8 hF
    subst e_0
    subst e_1
    subst e_2
    subst e_3
    subst e_4
    subst e_5
    subst e_6
    subst e_7
    exact zret_i S hr hlocks hK hP hD hS dX11_stay_11
  · have hF := zi_neg c_1 hF
    refine lv_iload_n hx hb dX11_stay_4 rfl (lv_at hl 1 rfl) ?_
    refine lv_bipush (v := 120) hx hb dX11_stay_5 (by decide) ?_
    refine lv_icmp_le (tgt := 12) hx hb dX11_stay_7 (by decide) (fun c_2 => ?_) (fun c_2 => ?_)
    · have hF := zi_pos c_2 hF
      refine lv_aload_n hx hb dX11_stay_12 rfl (lv_at hl 0 rfl) ?_
      refine va_get (D := D) (ci := 11) (v := .ref u_a) (C := RX11) (T := TX11) (N := 11) hx hb ht iyX11 hown hK hP 0 rfl rfl 4 (by decide) (ht _ wf_X11_33) (fun _ h9 => h9) rfl dX11_stay_13 ?_
      refine lv_aload_n hx hb dX11_stay_16 rfl (lv_at hl 0 rfl) ?_
      refine va_get (D := D) (ci := 11) (v := .ref s_a) (C := RX11) (T := TX11) (N := 11) hx hb ht iyX11 hown hK hP 0 rfl rfl 3 (by decide) (ht _ wf_X11_29) (fun _ h9 => h9) rfl dX11_stay_17 ?_
      obtain ⟨u_tick_3, u_every_4, u_round_5, u_inside_6, u_up_7, u_due_8, u_wind_9, hc_10, hF⟩ := zb7_s hF
      refine zcv_v (ws1 := [(x_a, .inr (11, [.ref t_a, .ref c_a, .ref d_a, .ref s_a, .ref u_a, .ref q_a, .ref i_a, .ref k_a, .ref w_a, .ref n_a, .long x_asked])), (s_a, .inr (8, [.int s_tick, .int s_every, .int s_round, .int s_inside, .ref s_a_up, .ref s_a_due, .ref s_a_wind])), (s_a_up, .inl (cI, 6, .inl s_up)), (s_a_due, .inl (cI, 6, .inl s_due)), (s_a_wind, .inl (cI, 6, .inl s_wind)), (u_a, .inr (8, [.int u_tick_3, .int u_every_4, .int u_round_5, .int u_inside_6, .ref u_a_up, .ref u_a_due, .ref u_a_wind])), (u_a_up, .inl (cI, 6, .inl u_up_7)), (u_a_due, .inl (cI, 6, .inl u_due_8)), (u_a_wind, .inl (cI, 6, .inl u_wind_9)), (c_a, .inr (1, [.int c_every, .int c_size, .ref c_a_period, .ref c_a_hang, .ref c_a_start, .ref c_a_wind])), (c_a_period, .inl (cI, 6, .inl c_period)), (c_a_hang, .inl (cI, 6, .inl c_hang))]) S hT lk_X11_174 (c_X8_become l D cI cZ cS cJ u_a u_a_up u_a_due u_a_wind s_a s_a_up s_a_due s_a_wind u_tick u_every u_round u_inside u_up u_due u_wind s_tick s_every s_round s_inside s_up s_due s_wind hc_10) ⟨rfl, rfl, Nat.le_of_ble_eq_true rfl, Nat.le_of_ble_eq_true rfl⟩ hK hP hD hS hA [5, 6, 7, 8, 1, 2, 3, 4] [0, 9, 10, 11] [0, 8, 9, 10, 11, 4, 5, 6, 7, 1, 2, 3] rfl rfl rfl rfl rfl rfl rfl rfl rfl rfl rfl hl.1 rfl (Nat.le_of_ble_eq_true rfl) dX11_stay_20 ⟨Nat.zero_le _, Nat.zero_le _⟩ (fun H locs hP hD hS => ?_)
      refine lv_aload_n hx hb dX11_stay_23 rfl (lv_at hl 0 rfl) ?_
      refine lv_iload_n hx hb dX11_stay_24 rfl (lv_at hl 1 rfl) ?_
      obtain ⟨u_tick_11, u_round_12, u_inside_13, u_up_14, u_due_15, u_wind_16, hc_17, hF⟩ := zb6_s hF
      refine zcv_v (ws1 := [(x_a, .inr (11, [.ref t_a, .ref c_a, .ref d_a, .ref s_a, .ref u_a, .ref q_a, .ref i_a, .ref k_a, .ref w_a, .ref n_a, .long x_asked])), (s_a, .inr (8, [.int s_tick, .int s_every, .int s_round, .int s_inside, .ref s_a_up, .ref s_a_due, .ref s_a_wind])), (s_a_up, .inl (cI, 6, .inl s_up)), (s_a_due, .inl (cI, 6, .inl s_due)), (s_a_wind, .inl (cI, 6, .inl s_wind)), (u_a, .inr (8, [.int u_tick_11, .int u_every_4, .int u_round_12, .int u_inside_13, .ref u_a_up, .ref u_a_due, .ref u_a_wind])), (u_a_up, .inl (cI, 6, .inl u_up_14)), (u_a_due, .inl (cI, 6, .inl u_due_15)), (u_a_wind, .inl (cI, 6, .inl u_wind_16)), (c_a, .inr (1, [.int c_every, .int c_size, .ref c_a_period, .ref c_a_hang, .ref c_a_start, .ref c_a_wind])), (c_a_period, .inl (cI, 6, .inl c_period)), (c_a_hang, .inl (cI, 6, .inl c_hang))]) S hT lk_X11_177 (c_X11_playOn l D cI cZ cS cJ x_a t_a c_a d_a s_a u_a q_a i_a k_a w_a n_a u_a_up u_a_due u_a_wind c_a_period c_a_hang c_a_start c_a_wind x_asked u_tick_3 u_every_4 u_round_5 u_inside_6 u_up_7 u_due_8 u_wind_9 c_every c_size c_period c_hang p1 hc_17) ⟨rfl, rfl, Nat.le_of_ble_eq_true rfl, Nat.le_of_ble_eq_true rfl⟩ hK hP hD hS hA [0, 5, 6, 7, 8, 9, 10, 11] [1, 2, 3, 4] [4, 0, 1, 2, 3, 5, 6, 7, 8, 9, 10, 11] rfl rfl rfl rfl rfl rfl rfl rfl rfl rfl rfl hl.1 rfl (Nat.le_of_ble_eq_true rfl) dX11_stay_25 ⟨Nat.zero_le _, Nat.zero_le _⟩ (fun H locs hP hD hS => ?_)
      refine lv_aload_n hx hb dX11_stay_28 rfl (lv_at hl 0 rfl) ?_
      refine va_get (D := D) (ci := 11) (v := .ref u_a) (C := RX11) (T := TX11) (N := 11) hx hb ht iyX11 hown hK hP 0 rfl rfl 4 (by decide) (ht _ wf_X11_33) (fun _ h9 => h9) rfl dX11_stay_29 ?_
      refine va_get (D := D) (ci := 8) (v := .int u_inside_13) (C := RX8) (T := TX8) (N := 7) hx hb ht iyX8 hown hK hP 5 rfl rfl 3 (by decide) (ht _ wf_X11_138) (fun _ h9 => h9) rfl dX11_stay_32 ?_
      obtain ⟨e_0, e_1, e_2, e_3, e_4, e_5, e_6, e_7⟩ := zo8 hF
      subst e_0
      subst e_1
      subst e_2
      subst e_3
      subst e_4
      subst e_5
      subst e_6
      subst e_7
      exact zret_i S hr hlocks hK hP hD hS dX11_stay_35
    · have hF := zi_neg c_2 hF
      refine lv_iconst (v := (-1)) hx hb dX11_stay_10 (by decide) ?_
      obtain ⟨e_0, e_1, e_2, e_3, e_4, e_5, e_6, e_7⟩ := zo8 hF
      subst e_0
      subst e_1
      subst e_2
      subst e_3
      subst e_4
      subst e_5
      subst e_6
      subst e_7
      exact zret_i S hr hlocks hK hP hD hS dX11_stay_11
