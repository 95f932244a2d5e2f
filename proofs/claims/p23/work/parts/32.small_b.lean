def F_X9_isUp (p0 : Int32) (p1 : Int32) (p2 : Int32) (p3 : Int32) : Option (Int32) :=
  (if p0 ≤ 0 then some (0) else (if p3 < p1 then some (0) else (if p0 = 0 then none else (if p2 ≤ ((p3 - p1) - (p3 - p1) / p0 * p0) then some (0) else some (1)))))
set_option maxHeartbeats 4000000 in
set_option maxRecDepth 100000 in
theorem c_X9_isUp (l : Launch) (D : va_G) (cI cZ cS cJ : ClassId) (p0 : Int32) (p1 : Int32) (p2 : Int32) (p3 : Int32) {r_o : Int32} (hF : F_X9_isUp p0 p1 p2 p3 = some (r_o)) : zMi l yX9_isUp (zwl yX9_isUp cX9_isUp 4 (some .boolean)) { frames := 0, cells := 0, slots := 0, locals := 0 } D (TYS cI cZ cS cJ) [.int p0, .int p1, .int p2, .int p3] [] [] r_o := by
  refine zent_i (own := RX9) (by decide) rfl (Nat.le_of_ble_eq_true rfl) ?_
  intro p e s m below meth c A ls S hr hlocks hK hP hD hA hl
  have hx := S.1
  have hb := S.2.1
  have hml := S.2.2.1
  have hown := S.2.2.2.1
  have hT : ∀ w ∈ zt, w ∈ zwl yX9_isUp cX9_isUp 4 (some .boolean) := fun _ h => List.mem_cons_of_mem _ h
  have ht : ∀ w ∈ zt, w.before [.int p0, .int p1, .int p2, .int p3].toArray s = true := fun w h => S.2.2.2.2 w (hT w h)
  have hl : lv_has ls 4 [(0, .int p0), (1, .int p1), (2, .int p2), (3, .int p3)] := hl
  have hS : va_S A s.heap s.heap [] := va_S.rf
  unfold F_X9_isUp at hF
  refine lv_iload_n hx hb dX9_isUp_0 rfl (lv_at hl 0 rfl) ?_
  refine lv_if_le (tgt := 22) hx hb dX9_isUp_1 (by decide) (fun c_1 => ?_) (fun c_1 => ?_)
  · have hF := zi_pos c_1 hF
    refine lv_iconst (v := 0) hx hb dX9_isUp_22 (by decide) ?_
    have e_0 := zo1 hF
    subst e_0
    exact zret_z (by decide) S hr hlocks hK hP hD hS dX9_isUp_23
  · have hF := zi_neg c_1 hF
    refine lv_iload_n hx hb dX9_isUp_4 rfl (lv_at hl 3 rfl) ?_
    refine lv_iload_n hx hb dX9_isUp_5 rfl (lv_at hl 1 rfl) ?_
    refine lv_icmp_lt (tgt := 22) hx hb dX9_isUp_6 (by decide) (fun c_2 => ?_) (fun c_2 => ?_)
    · have hF := zi_pos c_2 hF
      refine lv_iconst (v := 0) hx hb dX9_isUp_22 (by decide) ?_
      have e_0 := zo1 hF
      subst e_0
      exact zret_z (by decide) S hr hlocks hK hP hD hS dX9_isUp_23
    · have hF := zi_neg c_2 hF
      refine lv_iload_n hx hb dX9_isUp_9 rfl (lv_at hl 3 rfl) ?_
      refine lv_iload_n hx hb dX9_isUp_10 rfl (lv_at hl 1 rfl) ?_
      refine lv_isub hx hb dX9_isUp_11 ?_
      refine lv_iload_n hx hb dX9_isUp_12 rfl (lv_at hl 0 rfl) ?_
      obtain ⟨h_3, hF⟩ := zi_chk hF
      refine lv_irem hx hb dX9_isUp_13 h_3 ?_
      refine lv_iload_n hx hb dX9_isUp_14 rfl (lv_at hl 2 rfl) ?_
      refine lv_icmp_ge (tgt := 22) hx hb dX9_isUp_15 (by decide) (fun c_4 => ?_) (fun c_4 => ?_)
      · have hF := zi_pos c_4 hF
        refine lv_iconst (v := 0) hx hb dX9_isUp_22 (by decide) ?_
        have e_0 := zo1 hF
        subst e_0
        exact zret_z (by decide) S hr hlocks hK hP hD hS dX9_isUp_23
      · have hF := zi_neg c_4 hF
        refine lv_iconst (v := 1) hx hb dX9_isUp_18 (by decide) ?_
        refine lv_goto (tgt := 23) hx hb dX9_isUp_19 (by decide) ?_
        have e_0 := zo1 hF
        subst e_0
        exact zret_z (by decide) S hr hlocks hK hP hD hS dX9_isUp_23

def F_X9_add (w_size : Int32) (w_hangs : Nat → Int32) (w_ticksSeen : Nat → Int32) (w_ups : Nat → Int32) (p1 : Int32) (p2 : Int32) (p3 : Int32) : Option (Int32 × (Nat → Int32) × (Nat → Int32) × (Nat → Int32)) :=
  (if w_size < 6 then (if (w_size < 0 ∨ 6 ≤ w_size.toNatClampNeg) then none else some (w_size + 1, upd w_hangs w_size.toNatClampNeg p1, upd w_ticksSeen w_size.toNatClampNeg p2, upd w_ups w_size.toNatClampNeg (vp_nar .boolean p3))) else some (w_size, w_hangs, w_ticksSeen, w_ups))
set_option maxHeartbeats 4000000 in
set_option maxRecDepth 100000 in
theorem c_X9_add (l : Launch) (D : va_G) (cI cZ cS cJ : ClassId) (w_a : Nat) (w_a_hangs : Nat) (w_a_ticksSeen : Nat) (w_a_ups : Nat) (w_a_periods : Nat) (w_a_starts : Nat) (w_size : Int32) (w_found : Int32) (w_hangs : Nat → Int32) (w_ticksSeen : Nat → Int32) (w_ups : Nat → Int32) (p1 : Int32) (p2 : Int32) (p3 : Int32) {w_size_o : Int32} {w_hangs_o : Nat → Int32} {w_ticksSeen_o : Nat → Int32} {w_ups_o : Nat → Int32} (hF : F_X9_add w_size w_hangs w_ticksSeen w_ups p1 p2 p3 = some (w_size_o, w_hangs_o, w_ticksSeen_o, w_ups_o)) : zMv l yX9_add (zwl yX9_add cX9_add 4 none) { frames := 0, cells := 0, slots := 0, locals := 0 } D (TYS cI cZ cS cJ) [.ref w_a, .int p1, .int p2, .int p3] [(w_a, .inr (9, [.int w_size, .ref w_a_hangs, .ref w_a_ticksSeen, .ref w_a_ups, .int w_found, .ref w_a_periods, .ref w_a_starts])), (w_a_hangs, .inl (cI, 6, .inl w_hangs)), (w_a_ticksSeen, .inl (cI, 6, .inl w_ticksSeen)), (w_a_ups, .inl (cZ, 6, .inl w_ups))] [(w_a, .inr (9, [.int w_size_o, .ref w_a_hangs, .ref w_a_ticksSeen, .ref w_a_ups, .int w_found, .ref w_a_periods, .ref w_a_starts])), (w_a_hangs, .inl (cI, 6, .inl w_hangs_o)), (w_a_ticksSeen, .inl (cI, 6, .inl w_ticksSeen_o)), (w_a_ups, .inl (cZ, 6, .inl w_ups_o))] := by
  refine zent_v (own := RX9) (by decide) rfl (Nat.le_of_ble_eq_true rfl) ?_
  intro p e s m below meth c A ls S hr hlocks hK hP hD hA hl
  have hx := S.1
  have hb := S.2.1
  have hml := S.2.2.1
  have hown := S.2.2.2.1
  have hT : ∀ w ∈ zt, w ∈ zwl yX9_add cX9_add 4 none := fun _ h => List.mem_cons_of_mem _ h
  have ht : ∀ w ∈ zt, w.before [.ref w_a, .int p1, .int p2, .int p3].toArray s = true := fun w h => S.2.2.2.2 w (hT w h)
  have hl : lv_has ls 4 [(0, .ref w_a), (1, .int p1), (2, .int p2), (3, .int p3)] := hl
  have hS : va_S A s.heap s.heap [] := va_S.rf
  unfold F_X9_add at hF
  refine lv_aload_n hx hb dX9_add_0 rfl (lv_at hl 0 rfl) ?_
  refine va_get (D := D) (ci := 9) (v := .int w_size) (C := RX9) (T := TX9) (N := 7) hx hb ht iyX9 hown hK hP 0 rfl rfl 0 (by decide) (ht _ wf_X9_28) (fun _ h9 => h9) rfl dX9_add_1 ?_
  refine lv_bipush (v := 6) hx hb dX9_add_4 (by decide) ?_
  refine lv_icmp_lt (tgt := 10) hx hb dX9_add_6 (by decide) (fun c_1 => ?_) (fun c_1 => ?_)
  · have hF := zi_pos c_1 hF
    refine lv_aload_n hx hb dX9_add_10 rfl (lv_at hl 0 rfl) ?_
    refine va_get (D := D) (ci := 9) (v := .ref w_a_hangs) (C := RX9) (T := TX9) (N := 7) hx hb ht iyX9 hown hK hP 0 rfl rfl 1 (by decide) (ht _ wf_X9_9) (fun _ h9 => h9) rfl dX9_add_11 ?_
    refine lv_aload_n hx hb dX9_add_14 rfl (lv_at hl 0 rfl) ?_
    refine va_get (D := D) (ci := 9) (v := .int w_size) (C := RX9) (T := TX9) (N := 7) hx hb ht iyX9 hown hK hP 0 rfl rfl 0 (by decide) (ht _ wf_X9_28) (fun _ h9 => h9) rfl dX9_add_15 ?_
    refine lv_iload_n hx hb dX9_add_18 rfl (lv_at hl 1 rfl) ?_
    obtain ⟨h_2, hF⟩ := zi_chk hF
    refine va_iast hx hb hK hP hD hS 1 0 rfl rfl h_2 dX9_add_19 (fun H locs hP hD hS => ?_)
    have hP : va_P D classes [(w_a, .inr (9, [.int w_size, .ref w_a_hangs, .ref w_a_ticksSeen, .ref w_a_ups, .int w_found, .ref w_a_periods, .ref w_a_starts])), (w_a_hangs, .inl (cI, 6, .inl (upd w_hangs w_size.toNatClampNeg p1))), (w_a_ticksSeen, .inl (cI, 6, .inl w_ticksSeen)), (w_a_ups, .inl (cZ, 6, .inl w_ups))] H := hP
    have hD : va_D A [(w_a, .inr (9, [.int w_size, .ref w_a_hangs, .ref w_a_ticksSeen, .ref w_a_ups, .int w_found, .ref w_a_periods, .ref w_a_starts])), (w_a_hangs, .inl (cI, 6, .inl (upd w_hangs w_size.toNatClampNeg p1))), (w_a_ticksSeen, .inl (cI, 6, .inl w_ticksSeen)), (w_a_ups, .inl (cZ, 6, .inl w_ups))] := hD
    refine lv_aload_n hx hb dX9_add_20 rfl (lv_at hl 0 rfl) ?_
    refine va_get (D := D) (ci := 9) (v := .ref w_a_ticksSeen) (C := RX9) (T := TX9) (N := 7) hx hb ht iyX9 hown hK hP 0 rfl rfl 2 (by decide) (ht _ wf_X9_15) (fun _ h9 => h9) rfl dX9_add_21 ?_
    refine lv_aload_n hx hb dX9_add_24 rfl (lv_at hl 0 rfl) ?_
    refine va_get (D := D) (ci := 9) (v := .int w_size) (C := RX9) (T := TX9) (N := 7) hx hb ht iyX9 hown hK hP 0 rfl rfl 0 (by decide) (ht _ wf_X9_28) (fun _ h9 => h9) rfl dX9_add_25 ?_
    refine lv_iload_n hx hb dX9_add_28 rfl (lv_at hl 2 rfl) ?_
    refine va_iast hx hb hK hP hD hS 2 0 rfl rfl h_2 dX9_add_29 (fun H locs hP hD hS => ?_)
    have hP : va_P D classes [(w_a, .inr (9, [.int w_size, .ref w_a_hangs, .ref w_a_ticksSeen, .ref w_a_ups, .int w_found, .ref w_a_periods, .ref w_a_starts])), (w_a_hangs, .inl (cI, 6, .inl (upd w_hangs w_size.toNatClampNeg p1))), (w_a_ticksSeen, .inl (cI, 6, .inl (upd w_ticksSeen w_size.toNatClampNeg p2))), (w_a_ups, .inl (cZ, 6, .inl w_ups))] H := hP
    have hD : va_D A [(w_a, .inr (9, [.int w_size, .ref w_a_hangs, .ref w_a_ticksSeen, .ref w_a_ups, .int w_found, .ref w_a_periods, .ref w_a_starts])), (w_a_hangs, .inl (cI, 6, .inl (upd w_hangs w_size.toNatClampNeg p1))), (w_a_ticksSeen, .inl (cI, 6, .inl (upd w_ticksSeen w_size.toNatClampNeg p2))), (w_a_ups, .inl (cZ, 6, .inl w_ups))] := hD
    refine lv_aload_n hx hb dX9_add_30 rfl (lv_at hl 0 rfl) ?_
    refine va_get (D := D) (ci := 9) (v := .ref w_a_ups) (C := RX9) (T := TX9) (N := 7) hx hb ht iyX9 hown hK hP 0 rfl rfl 3 (by decide) (ht _ wf_X9_18) (fun _ h9 => h9) rfl dX9_add_31 ?_
    refine lv_aload_n hx hb dX9_add_34 rfl (lv_at hl 0 rfl) ?_
    refine va_get (D := D) (ci := 9) (v := .int w_size) (C := RX9) (T := TX9) (N := 7) hx hb ht iyX9 hown hK hP 0 rfl rfl 0 (by decide) (ht _ wf_X9_28) (fun _ h9 => h9) rfl dX9_add_35 ?_
    refine lv_iload_n hx hb dX9_add_38 rfl (lv_at hl 3 rfl) ?_
    refine va_zast hx hb hK hP hD hS 3 1 rfl rfl h_2 dX9_add_39 (fun H locs hP hD hS => ?_)
    have hP : va_P D classes [(w_a, .inr (9, [.int w_size, .ref w_a_hangs, .ref w_a_ticksSeen, .ref w_a_ups, .int w_found, .ref w_a_periods, .ref w_a_starts])), (w_a_hangs, .inl (cI, 6, .inl (upd w_hangs w_size.toNatClampNeg p1))), (w_a_ticksSeen, .inl (cI, 6, .inl (upd w_ticksSeen w_size.toNatClampNeg p2))), (w_a_ups, .inl (cZ, 6, .inl (upd w_ups w_size.toNatClampNeg (vp_nar .boolean p3))))] H := hP
    have hD : va_D A [(w_a, .inr (9, [.int w_size, .ref w_a_hangs, .ref w_a_ticksSeen, .ref w_a_ups, .int w_found, .ref w_a_periods, .ref w_a_starts])), (w_a_hangs, .inl (cI, 6, .inl (upd w_hangs w_size.toNatClampNeg p1))), (w_a_ticksSeen, .inl (cI, 6, .inl (upd w_ticksSeen w_size.toNatClampNeg p2))), (w_a_ups, .inl (cZ, 6, .inl (upd w_ups w_size.toNatClampNeg (vp_nar .boolean p3))))] := hD
    refine lv_aload_n hx hb dX9_add_40 rfl (lv_at hl 0 rfl) ?_
    refine lv_dup hx hb dX9_add_41 rfl ?_
    refine va_get (D := D) (ci := 9) (v := .int w_size) (C := RX9) (T := TX9) (N := 7) hx hb ht iyX9 hown hK hP 0 rfl rfl 0 (by decide) (ht _ wf_X9_28) (fun _ h9 => h9) rfl dX9_add_42 ?_
    refine lv_iconst (v := 1) hx hb dX9_add_45 (by decide) ?_
    refine lv_iadd hx hb dX9_add_46 ?_
    refine va_put (D := D) (ci := 9) (v := .int (w_size + 1)) (ty := .int) (C := RX9) (T := TX9) (N := 7) hx hb ht iyX9 tyX9 tyX9_ok nmX9 hown hK hP hD hS 0 rfl rfl 0 (by decide) (ht _ wf_X9_28) (fun _ h9 => h9) rfl (by decide +kernel) rfl rfl (Nat.le_of_ble_eq_true rfl) dX9_add_47 (fun H locs hP hD hS => ?_)
    have hP : va_P D classes [(w_a, .inr (9, [.int (w_size + 1), .ref w_a_hangs, .ref w_a_ticksSeen, .ref w_a_ups, .int w_found, .ref w_a_periods, .ref w_a_starts])), (w_a_hangs, .inl (cI, 6, .inl (upd w_hangs w_size.toNatClampNeg p1))), (w_a_ticksSeen, .inl (cI, 6, .inl (upd w_ticksSeen w_size.toNatClampNeg p2))), (w_a_ups, .inl (cZ, 6, .inl (upd w_ups w_size.toNatClampNeg (vp_nar .boolean p3))))] H := hP
    have hD : va_D A [(w_a, .inr (9, [.int (w_size + 1), .ref w_a_hangs, .ref w_a_ticksSeen, .ref w_a_ups, .int w_found, .ref w_a_periods, .ref w_a_starts])), (w_a_hangs, .inl (cI, 6, .inl (upd w_hangs w_size.toNatClampNeg p1))), (w_a_ticksSeen, .inl (cI, 6, .inl (upd w_ticksSeen w_size.toNatClampNeg p2))), (w_a_ups, .inl (cZ, 6, .inl (upd w_ups w_size.toNatClampNeg (vp_nar .boolean p3))))] := hD
    obtain ⟨e_0, e_1, e_2, e_3⟩ := zo4 hF
    subst e_0
    subst e_1
    subst e_2
    subst e_3
    exact zret_v S hr hlocks hK hP hD hS dX9_add_50
  · have hF := zi_neg c_1 hF
    obtain ⟨e_0, e_1, e_2, e_3⟩ := zo4 hF
    subst e_0
    subst e_1
    subst e_2
    subst e_3
    exact zret_v S hr hlocks hK hP hD hS dX9_add_9

theorem lk_X9_39 : zLs RX9 39 yX9_isUp cX9_isUp 4 (some .boolean) 4 := ⟨⟨wm_X9_39, ws_X9_isUp, wi_X9, wd_X9_isUp⟩, by decide, by decide, by decide +kernel⟩
def L_X9_agrees_2 (w_size : Int32) (w_hangs : Nat → Int32) (w_ticksSeen : Nat → Int32) (w_ups : Nat → Int32) (v1 : Int32) (v2 : Int32) : Nat → Int32 → Option ((Int32) ⊕ (Int32))
  | 0 => fun _ => none
  | n + 1 => fun v3 => (if w_size ≤ v3 then some (.inl (v3)) else (if (v3 < 0 ∨ 6 ≤ v3.toNatClampNeg) then none else (zb1 (F_X9_isUp v1 v2 (w_hangs v3.toNatClampNeg) (w_ticksSeen v3.toNatClampNeg)) (fun r_8 => (if r_8 = (w_ups v3.toNatClampNeg) then (L_X9_agrees_2 w_size w_hangs w_ticksSeen w_ups v1 v2 n (v3 + 1)) else some (.inr (0)))))))
theorem L_X9_agrees_2_z (w_size : Int32) (w_hangs : Nat → Int32) (w_ticksSeen : Nat → Int32) (w_ups : Nat → Int32) (v1 : Int32) (v2 : Int32) (v3 : Int32) : L_X9_agrees_2 w_size w_hangs w_ticksSeen w_ups v1 v2 0 v3 = none := rfl
theorem L_X9_agrees_2_s (w_size : Int32) (w_hangs : Nat → Int32) (w_ticksSeen : Nat → Int32) (w_ups : Nat → Int32) (v1 : Int32) (v2 : Int32) (n : Nat) (v3 : Int32) : L_X9_agrees_2 w_size w_hangs w_ticksSeen w_ups v1 v2 (n + 1) v3 = (if w_size ≤ v3 then some (.inl (v3)) else (if (v3 < 0 ∨ 6 ≤ v3.toNatClampNeg) then none else (zb1 (F_X9_isUp v1 v2 (w_hangs v3.toNatClampNeg) (w_ticksSeen v3.toNatClampNeg)) (fun r_8 => (if r_8 = (w_ups v3.toNatClampNeg) then (L_X9_agrees_2 w_size w_hangs w_ticksSeen w_ups v1 v2 n (v3 + 1)) else some (.inr (0))))))) := rfl
def F_X9_agrees (w_size : Int32) (w_hangs : Nat → Int32) (w_ticksSeen : Nat → Int32) (w_ups : Nat → Int32) (p1 : Int32) (p2 : Int32) : Option (Int32) :=
  (zs1 (L_X9_agrees_2 w_size w_hangs w_ticksSeen w_ups p1 p2 300 0) (fun v3_11 => some (1)))
set_option maxHeartbeats 4000000 in
set_option maxRecDepth 100000 in
theorem c_X9_agrees (l : Launch) (D : va_G) (cI cZ cS cJ : ClassId) (w_a : Nat) (w_a_hangs : Nat) (w_a_ticksSeen : Nat) (w_a_ups : Nat) (w_a_periods : Nat) (w_a_starts : Nat) (w_size : Int32) (w_found : Int32) (w_hangs : Nat → Int32) (w_ticksSeen : Nat → Int32) (w_ups : Nat → Int32) (p1 : Int32) (p2 : Int32) {r_o : Int32} (hF : F_X9_agrees w_size w_hangs w_ticksSeen w_ups p1 p2 = some (r_o)) : zMi l yX9_agrees (zwl yX9_agrees cX9_agrees 4 (some .boolean)) { frames := 1, cells := 0, slots := 0, locals := 23 } D (TYS cI cZ cS cJ) [.ref w_a, .int p1, .int p2] [(w_a, .inr (9, [.int w_size, .ref w_a_hangs, .ref w_a_ticksSeen, .ref w_a_ups, .int w_found, .ref w_a_periods, .ref w_a_starts])), (w_a_hangs, .inl (cI, 6, .inl w_hangs)), (w_a_ticksSeen, .inl (cI, 6, .inl w_ticksSeen)), (w_a_ups, .inl (cZ, 6, .inl w_ups))] [(w_a, .inr (9, [.int w_size, .ref w_a_hangs, .ref w_a_ticksSeen, .ref w_a_ups, .int w_found, .ref w_a_periods, .ref w_a_starts])), (w_a_hangs, .inl (cI, 6, .inl w_hangs)), (w_a_ticksSeen, .inl (cI, 6, .inl w_ticksSeen)), (w_a_ups, .inl (cZ, 6, .inl w_ups))] r_o := by
  refine zent_i (own := RX9) (by decide) rfl (Nat.le_of_ble_eq_true rfl) ?_
  intro p e s m below meth c A ls S hr hlocks hK hP hD hA hl
  have hx := S.1
  have hb := S.2.1
  have hml := S.2.2.1
  have hown := S.2.2.2.1
  have hT : ∀ w ∈ zt, w ∈ zwl yX9_agrees cX9_agrees 4 (some .boolean) := fun _ h => List.mem_cons_of_mem _ h
  have ht : ∀ w ∈ zt, w.before [.ref w_a, .int p1, .int p2].toArray s = true := fun w h => S.2.2.2.2 w (hT w h)
  have hl : lv_has ls 4 [(0, .ref w_a), (1, .int p1), (2, .int p2)] := hl
  have hS : va_S A s.heap s.heap [] := va_S.rf
  unfold F_X9_agrees at hF
  have hloop_2 : ∀ (n : Nat) (w_size : Int32) (w_found : Int32) (w_hangs : Nat → Int32) (w_ticksSeen : Nat → Int32) (w_ups : Nat → Int32) (v1 : Int32) (v2 : Int32) (v3 : Int32) (res : (Int32) ⊕ (Int32)), L_X9_agrees_2 w_size w_hangs w_ticksSeen w_ups v1 v2 n v3 = some res → (∀ o, res = .inr o → o = (r_o)) → ∀ (H : Heap) (locs : List Loc) (ls : Array Slot), va_P D classes [(w_a, .inr (9, [.int w_size, .ref w_a_hangs, .ref w_a_ticksSeen, .ref w_a_ups, .int w_found, .ref w_a_periods, .ref w_a_starts])), (w_a_hangs, .inl (cI, 6, .inl w_hangs)), (w_a_ticksSeen, .inl (cI, 6, .inl w_ticksSeen)), (w_a_ups, .inl (cZ, 6, .inl w_ups))] H → va_D A [(w_a, .inr (9, [.int w_size, .ref w_a_hangs, .ref w_a_ticksSeen, .ref w_a_ups, .int w_found, .ref w_a_periods, .ref w_a_starts])), (w_a_hangs, .inl (cI, 6, .inl w_hangs)), (w_a_ticksSeen, .inl (cI, 6, .inl w_ticksSeen)), (w_a_ups, .inl (cZ, 6, .inl w_ups))] → va_S A s.heap H locs → lv_has ls 4 [(0, .ref w_a), (1, .int v1), (2, .int v2), (3, .int v3)] → (∀ (v3' : Int32), res = .inl (v3') → ∀ (H : Heap) (locs : List Loc) (ls : Array Slot), va_P D classes [(w_a, .inr (9, [.int w_size, .ref w_a_hangs, .ref w_a_ticksSeen, .ref w_a_ups, .int w_found, .ref w_a_periods, .ref w_a_starts])), (w_a_hangs, .inl (cI, 6, .inl w_hangs)), (w_a_ticksSeen, .inl (cI, 6, .inl w_ticksSeen)), (w_a_ups, .inl (cZ, 6, .inl w_ups))] H → va_D A [(w_a, .inr (9, [.int w_size, .ref w_a_hangs, .ref w_a_ticksSeen, .ref w_a_ups, .int w_found, .ref w_a_periods, .ref w_a_starts])), (w_a_hangs, .inl (cI, 6, .inl w_hangs)), (w_a_ticksSeen, .inl (cI, 6, .inl w_ticksSeen)), (w_a_ups, .inl (cZ, 6, .inl w_ups))] → va_S A s.heap H locs → lv_has ls 4 [(0, .ref w_a), (1, .int v1), (2, .int v2), (3, .int v3')] → W p l e { frames := 1, cells := 0, slots := 0, locals := 23 } s m [.ref w_a, .int p1, .int p2].toArray below meth c H locs 0 0 (zFi below [.ref w_a, .int p1, .int p2] s A D (TYS cI cZ cS cJ) [(w_a, .inr (9, [.int w_size, .ref w_a_hangs, .ref w_a_ticksSeen, .ref w_a_ups, .int w_found, .ref w_a_periods, .ref w_a_starts])), (w_a_hangs, .inl (cI, 6, .inl w_hangs)), (w_a_ticksSeen, .inl (cI, 6, .inl w_ticksSeen)), (w_a_ups, .inl (cZ, 6, .inl w_ups))] r_o) (F0 m 44 ls [])) → W p l e { frames := 1, cells := 0, slots := 0, locals := 23 } s m [.ref w_a, .int p1, .int p2].toArray below meth c H locs 0 0 (zFi below [.ref w_a, .int p1, .int p2] s A D (TYS cI cZ cS cJ) [(w_a, .inr (9, [.int w_size, .ref w_a_hangs, .ref w_a_ticksSeen, .ref w_a_ups, .int w_found, .ref w_a_periods, .ref w_a_starts])), (w_a_hangs, .inl (cI, 6, .inl w_hangs)), (w_a_ticksSeen, .inl (cI, 6, .inl w_ticksSeen)), (w_a_ups, .inl (cZ, 6, .inl w_ups))] r_o) (F0 m 2 ls []) := by
    intro n
    induction n with
    | zero =>
      intro w_size w_found w_hangs w_ticksSeen w_ups v1 v2 v3 res hF
      rw [L_X9_agrees_2_z] at hF
      cases hF
    | succ n ih_2 =>
      intro w_size w_found w_hangs w_ticksSeen w_ups v1 v2 v3 res hF hret H locs ls hP hD hS hl hexit_2
      rw [L_X9_agrees_2_s] at hF
      refine lv_iload_n hx hb dX9_agrees_2 rfl (lv_at hl 3 rfl) ?_
      refine lv_aload_n hx hb dX9_agrees_3 rfl (lv_at hl 0 rfl) ?_
      refine va_get (D := D) (ci := 9) (v := .int w_size) (C := RX9) (T := TX9) (N := 7) hx hb ht iyX9 hown hK hP 0 rfl rfl 0 (by decide) (ht _ wf_X9_28) (fun _ h9 => h9) rfl dX9_agrees_4 ?_
      refine lv_icmp_ge (tgt := 44) hx hb dX9_agrees_7 (by decide) (fun c_6 => ?_) (fun c_6 => ?_)
      · have hF := zi_pos c_6 hF
        have e_0 := zo1 hF
        subst e_0
        exact hexit_2 _ rfl _ _ _ hP hD hS (lv_sub hl [0, 1, 2, 3] rfl)
      · have hF := zi_neg c_6 hF
        refine lv_iload_n hx hb dX9_agrees_10 rfl (lv_at hl 1 rfl) ?_
        refine lv_iload_n hx hb dX9_agrees_11 rfl (lv_at hl 2 rfl) ?_
        refine lv_aload_n hx hb dX9_agrees_12 rfl (lv_at hl 0 rfl) ?_
        refine va_get (D := D) (ci := 9) (v := .ref w_a_hangs) (C := RX9) (T := TX9) (N := 7) hx hb ht iyX9 hown hK hP 0 rfl rfl 1 (by decide) (ht _ wf_X9_9) (fun _ h9 => h9) rfl dX9_agrees_13 ?_
        refine lv_iload_n hx hb dX9_agrees_16 rfl (lv_at hl 3 rfl) ?_
        obtain ⟨h_7, hF⟩ := zi_chk hF
        refine va_iald hx hb hK hP 1 0 rfl rfl h_7 dX9_agrees_17 ?_
        refine lv_aload_n hx hb dX9_agrees_18 rfl (lv_at hl 0 rfl) ?_
        refine va_get (D := D) (ci := 9) (v := .ref w_a_ticksSeen) (C := RX9) (T := TX9) (N := 7) hx hb ht iyX9 hown hK hP 0 rfl rfl 2 (by decide) (ht _ wf_X9_15) (fun _ h9 => h9) rfl dX9_agrees_19 ?_
        refine lv_iload_n hx hb dX9_agrees_22 rfl (lv_at hl 3 rfl) ?_
        refine va_iald hx hb hK hP 2 0 rfl rfl h_7 dX9_agrees_23 ?_
        obtain ⟨r_8, hc_9, hF⟩ := zb1_s hF
        refine zcs_i (ws1 := [(w_a, .inr (9, [.int w_size, .ref w_a_hangs, .ref w_a_ticksSeen, .ref w_a_ups, .int w_found, .ref w_a_periods, .ref w_a_starts])), (w_a_hangs, .inl (cI, 6, .inl w_hangs)), (w_a_ticksSeen, .inl (cI, 6, .inl w_ticksSeen)), (w_a_ups, .inl (cZ, 6, .inl w_ups))]) S hT lk_X9_39 (c_X9_isUp l D cI cZ cS cJ v1 v2 (w_hangs v3.toNatClampNeg) (w_ticksSeen v3.toNatClampNeg) hc_9) ⟨rfl, rfl, Nat.le_of_ble_eq_true rfl, Nat.le_of_ble_eq_true rfl⟩ hK hP hD hS hA [] [0, 1, 2, 3] [0, 1, 2, 3] rfl rfl rfl rfl rfl rfl rfl rfl hl.1 rfl (Nat.le_of_ble_eq_true rfl) dX9_agrees_24 ⟨Nat.zero_le _, Nat.zero_le _⟩ (fun H locs hP hD hS => ?_)
        refine lv_aload_n hx hb dX9_agrees_27 rfl (lv_at hl 0 rfl) ?_
        refine va_get (D := D) (ci := 9) (v := .ref w_a_ups) (C := RX9) (T := TX9) (N := 7) hx hb ht iyX9 hown hK hP 0 rfl rfl 3 (by decide) (ht _ wf_X9_18) (fun _ h9 => h9) rfl dX9_agrees_28 ?_
        refine lv_iload_n hx hb dX9_agrees_31 rfl (lv_at hl 3 rfl) ?_
        refine va_zald hx hb hK hP 3 1 rfl rfl h_7 dX9_agrees_32 ?_
        refine lv_icmp_eq (tgt := 38) hx hb dX9_agrees_33 (by decide) (fun c_10 => ?_) (fun c_10 => ?_)
        · have hF := zi_pos c_10 hF
          refine lv_iinc (v := v3 + 1) (lv' := [(3, .int (v3 + 1)), (0, .ref w_a), (1, .int v1), (2, .int v2)]) hx hb dX9_agrees_38 hl (k := 3) rfl (by rfl) (by decide) rfl (fun ls hl => ?_)
          refine lv_goto (tgt := 2) hx hb dX9_agrees_41 (by decide) ?_
          exact ih_2 w_size w_found w_hangs w_ticksSeen w_ups v1 v2 (v3 + 1) _ hF hret _ _ _ hP hD hS (lv_sub hl [1, 2, 3, 0] rfl) hexit_2
        · have hF := zi_neg c_10 hF
          refine lv_iconst (v := 0) hx hb dX9_agrees_36 (by decide) ?_
          have e_0 := zo1 (congrArg some (hret _ (Option.some.inj hF).symm))
          subst e_0
          exact zret_z (by decide) S hr hlocks hK hP hD hS dX9_agrees_37
  refine lv_iconst (v := 0) hx hb dX9_agrees_0 (by decide) ?_
  refine lv_istore_n (lv' := [(3, .int 0), (0, .ref w_a), (1, .int p1), (2, .int p2)]) hx hb dX9_agrees_1 rfl hl (by decide) rfl (fun ls hl => ?_)
  rcases zs1_s hF with ⟨v3_11, hL_12, hF⟩ | hL_12
  rotate_left
  · exact hloop_2 300 w_size w_found w_hangs w_ticksSeen w_ups p1 p2 0 _ hL_12 (fun o ho => (Sum.inr.inj ho).symm) _ _ _ hP hD hS (lv_sub hl [1, 2, 3, 0] rfl) (fun v3_11 ho => nomatch ho)
  refine hloop_2 300 w_size w_found w_hangs w_ticksSeen w_ups p1 p2 0 _ hL_12 (fun o ho => nomatch ho) _ _ _ hP hD hS (lv_sub hl [1, 2, 3, 0] rfl) (fun v3_11' ho H locs ls hP hD hS hl => ?_)
  obtain rfl : v3_11 = v3_11' := by cases ho; exact rfl
  refine lv_iconst (v := 1) hx hb dX9_agrees_44 (by decide) ?_
  have e_0 := zo1 hF
  subst e_0
  exact zret_z (by decide) S hr hlocks hK hP hD hS dX9_agrees_45

theorem lk_X9_35 : zLk RX9 35 yX9_agrees cX9_agrees 4 (some .boolean) 2 := ⟨⟨wm_X9_35, wo_X9_agrees, we_X9_X9_agrees, wi_X9, wd_X9_agrees⟩, by decide, by decide, by decide +kernel⟩
def L_X9_gather_15 (w_size : Int32) (w_hangs : Nat → Int32) (w_ticksSeen : Nat → Int32) (w_ups : Nat → Int32) (v1 : Int32) : Nat → Int32 → (Nat → Int32) → (Nat → Int32) → Int32 → Option (Int32 × (Nat → Int32) × (Nat → Int32) × Int32)
  | 0 => fun _ _ _ _ => none
  | n + 1 => fun w_found w_periods w_starts v2 => (if 11 < v2 then some (w_found, w_periods, w_starts, v2) else (if 132 ≤ w_found then (L_X9_gather_15 w_size w_hangs w_ticksSeen w_ups v1 n w_found w_periods w_starts (v2 + 1)) else (zb1 (F_X9_agrees w_size w_hangs w_ticksSeen w_ups v1 v2) (fun r_10 => (if r_10 = 0 then (L_X9_gather_15 w_size w_hangs w_ticksSeen w_ups v1 n w_found w_periods w_starts (v2 + 1)) else (if (w_found < 0 ∨ 132 ≤ w_found.toNatClampNeg) then none else (L_X9_gather_15 w_size w_hangs w_ticksSeen w_ups v1 n (w_found + 1) (upd w_periods w_found.toNatClampNeg v1) (upd w_starts w_found.toNatClampNeg v2) (v2 + 1))))))))
theorem L_X9_gather_15_z (w_size : Int32) (w_hangs : Nat → Int32) (w_ticksSeen : Nat → Int32) (w_ups : Nat → Int32) (v1 : Int32) (w_found : Int32) (w_periods : Nat → Int32) (w_starts : Nat → Int32) (v2 : Int32) : L_X9_gather_15 w_size w_hangs w_ticksSeen w_ups v1 0 w_found w_periods w_starts v2 = none := rfl
theorem L_X9_gather_15_s (w_size : Int32) (w_hangs : Nat → Int32) (w_ticksSeen : Nat → Int32) (w_ups : Nat → Int32) (v1 : Int32) (n : Nat) (w_found : Int32) (w_periods : Nat → Int32) (w_starts : Nat → Int32) (v2 : Int32) : L_X9_gather_15 w_size w_hangs w_ticksSeen w_ups v1 (n + 1) w_found w_periods w_starts v2 = (if 11 < v2 then some (w_found, w_periods, w_starts, v2) else (if 132 ≤ w_found then (L_X9_gather_15 w_size w_hangs w_ticksSeen w_ups v1 n w_found w_periods w_starts (v2 + 1)) else (zb1 (F_X9_agrees w_size w_hangs w_ticksSeen w_ups v1 v2) (fun r_10 => (if r_10 = 0 then (L_X9_gather_15 w_size w_hangs w_ticksSeen w_ups v1 n w_found w_periods w_starts (v2 + 1)) else (if (w_found < 0 ∨ 132 ≤ w_found.toNatClampNeg) then none else (L_X9_gather_15 w_size w_hangs w_ticksSeen w_ups v1 n (w_found + 1) (upd w_periods w_found.toNatClampNeg v1) (upd w_starts w_found.toNatClampNeg v2) (v2 + 1)))))))) := rfl
def L_X9_gather_7 (w_size : Int32) (w_hangs : Nat → Int32) (w_ticksSeen : Nat → Int32) (w_ups : Nat → Int32) : Nat → Int32 → (Nat → Int32) → (Nat → Int32) → Int32 → Option (Int32 × (Nat → Int32) × (Nat → Int32) × Int32)
  | 0 => fun _ _ _ _ => none
  | n + 1 => fun w_found w_periods w_starts v1 => (if 12 < v1 then some (w_found, w_periods, w_starts, v1) else (zb4 (L_X9_gather_15 w_size w_hangs w_ticksSeen w_ups v1 300 w_found w_periods w_starts 0) (fun w_found_20 w_periods_21 w_starts_22 v2_23 => (L_X9_gather_7 w_size w_hangs w_ticksSeen w_ups n w_found_20 w_periods_21 w_starts_22 (v1 + 1)))))
theorem L_X9_gather_7_z (w_size : Int32) (w_hangs : Nat → Int32) (w_ticksSeen : Nat → Int32) (w_ups : Nat → Int32) (w_found : Int32) (w_periods : Nat → Int32) (w_starts : Nat → Int32) (v1 : Int32) : L_X9_gather_7 w_size w_hangs w_ticksSeen w_ups 0 w_found w_periods w_starts v1 = none := rfl
theorem L_X9_gather_7_s (w_size : Int32) (w_hangs : Nat → Int32) (w_ticksSeen : Nat → Int32) (w_ups : Nat → Int32) (n : Nat) (w_found : Int32) (w_periods : Nat → Int32) (w_starts : Nat → Int32) (v1 : Int32) : L_X9_gather_7 w_size w_hangs w_ticksSeen w_ups (n + 1) w_found w_periods w_starts v1 = (if 12 < v1 then some (w_found, w_periods, w_starts, v1) else (zb4 (L_X9_gather_15 w_size w_hangs w_ticksSeen w_ups v1 300 w_found w_periods w_starts 0) (fun w_found_20 w_periods_21 w_starts_22 v2_23 => (L_X9_gather_7 w_size w_hangs w_ticksSeen w_ups n w_found_20 w_periods_21 w_starts_22 (v1 + 1))))) := rfl
def F_X9_gather (w_size : Int32) (w_hangs : Nat → Int32) (w_ticksSeen : Nat → Int32) (w_ups : Nat → Int32) (w_periods : Nat → Int32) (w_starts : Nat → Int32) : Option (Int32 × (Nat → Int32) × (Nat → Int32)) :=
  (zb4 (L_X9_gather_7 w_size w_hangs w_ticksSeen w_ups 300 0 w_periods w_starts 2) (fun w_found_25 w_periods_26 w_starts_27 v1_28 => some (w_found_25, w_periods_26, w_starts_27)))
set_option maxHeartbeats 4000000 in
set_option maxRecDepth 100000 in
theorem c_X9_gather (l : Launch) (D : va_G) (cI cZ cS cJ : ClassId) (w_a : Nat) (w_a_hangs : Nat) (w_a_ticksSeen : Nat) (w_a_ups : Nat) (w_a_periods : Nat) (w_a_starts : Nat) (w_size : Int32) (w_found : Int32) (w_hangs : Nat → Int32) (w_ticksSeen : Nat → Int32) (w_ups : Nat → Int32) (w_periods : Nat → Int32) (w_starts : Nat → Int32) {w_found_o : Int32} {w_periods_o : Nat → Int32} {w_starts_o : Nat → Int32} (hF : F_X9_gather w_size w_hangs w_ticksSeen w_ups w_periods w_starts = some (w_found_o, w_periods_o, w_starts_o)) : zMv l yX9_gather (zwl yX9_gather cX9_gather 3 none) { frames := 2, cells := 0, slots := 0, locals := 46 } D (TYS cI cZ cS cJ) [.ref w_a] [(w_a, .inr (9, [.int w_size, .ref w_a_hangs, .ref w_a_ticksSeen, .ref w_a_ups, .int w_found, .ref w_a_periods, .ref w_a_starts])), (w_a_hangs, .inl (cI, 6, .inl w_hangs)), (w_a_ticksSeen, .inl (cI, 6, .inl w_ticksSeen)), (w_a_ups, .inl (cZ, 6, .inl w_ups)), (w_a_periods, .inl (cI, 132, .inl w_periods)), (w_a_starts, .inl (cI, 132, .inl w_starts))] [(w_a, .inr (9, [.int w_size, .ref w_a_hangs, .ref w_a_ticksSeen, .ref w_a_ups, .int w_found_o, .ref w_a_periods, .ref w_a_starts])), (w_a_hangs, .inl (cI, 6, .inl w_hangs)), (w_a_ticksSeen, .inl (cI, 6, .inl w_ticksSeen)), (w_a_ups, .inl (cZ, 6, .inl w_ups)), (w_a_periods, .inl (cI, 132, .inl w_periods_o)), (w_a_starts, .inl (cI, 132, .inl w_starts_o))] := by
  refine zent_v (own := RX9) (by decide) rfl (Nat.le_of_ble_eq_true rfl) ?_
  intro p e s m below meth c A ls S hr hlocks hK hP hD hA hl
  have hx := S.1
  have hb := S.2.1
  have hml := S.2.2.1
  have hown := S.2.2.2.1
  have hT : ∀ w ∈ zt, w ∈ zwl yX9_gather cX9_gather 3 none := fun _ h => List.mem_cons_of_mem _ h
  have ht : ∀ w ∈ zt, w.before [.ref w_a].toArray s = true := fun w h => S.2.2.2.2 w (hT w h)
  have hl : lv_has ls 3 [(0, .ref w_a)] := hl
  have hS : va_S A s.heap s.heap [] := va_S.rf
  unfold F_X9_gather at hF
  have hloop_15 : ∀ (n : Nat) (w_size : Int32) (w_found : Int32) (w_hangs : Nat → Int32) (w_ticksSeen : Nat → Int32) (w_ups : Nat → Int32) (w_periods : Nat → Int32) (w_starts : Nat → Int32) (v1 : Int32) (v2 : Int32) (w_found' : Int32) (w_periods' : Nat → Int32) (w_starts' : Nat → Int32) (v2' : Int32), L_X9_gather_15 w_size w_hangs w_ticksSeen w_ups v1 n w_found w_periods w_starts v2 = some (w_found', w_periods', w_starts', v2') → ∀ (H : Heap) (locs : List Loc) (ls : Array Slot), va_P D classes [(w_a, .inr (9, [.int w_size, .ref w_a_hangs, .ref w_a_ticksSeen, .ref w_a_ups, .int w_found, .ref w_a_periods, .ref w_a_starts])), (w_a_hangs, .inl (cI, 6, .inl w_hangs)), (w_a_ticksSeen, .inl (cI, 6, .inl w_ticksSeen)), (w_a_ups, .inl (cZ, 6, .inl w_ups)), (w_a_periods, .inl (cI, 132, .inl w_periods)), (w_a_starts, .inl (cI, 132, .inl w_starts))] H → va_D A [(w_a, .inr (9, [.int w_size, .ref w_a_hangs, .ref w_a_ticksSeen, .ref w_a_ups, .int w_found, .ref w_a_periods, .ref w_a_starts])), (w_a_hangs, .inl (cI, 6, .inl w_hangs)), (w_a_ticksSeen, .inl (cI, 6, .inl w_ticksSeen)), (w_a_ups, .inl (cZ, 6, .inl w_ups)), (w_a_periods, .inl (cI, 132, .inl w_periods)), (w_a_starts, .inl (cI, 132, .inl w_starts))] → va_S A s.heap H locs → lv_has ls 3 [(0, .ref w_a), (1, .int v1), (2, .int v2)] → (∀ (H : Heap) (locs : List Loc) (ls : Array Slot), va_P D classes [(w_a, .inr (9, [.int w_size, .ref w_a_hangs, .ref w_a_ticksSeen, .ref w_a_ups, .int w_found', .ref w_a_periods, .ref w_a_starts])), (w_a_hangs, .inl (cI, 6, .inl w_hangs)), (w_a_ticksSeen, .inl (cI, 6, .inl w_ticksSeen)), (w_a_ups, .inl (cZ, 6, .inl w_ups)), (w_a_periods, .inl (cI, 132, .inl w_periods')), (w_a_starts, .inl (cI, 132, .inl w_starts'))] H → va_D A [(w_a, .inr (9, [.int w_size, .ref w_a_hangs, .ref w_a_ticksSeen, .ref w_a_ups, .int w_found', .ref w_a_periods, .ref w_a_starts])), (w_a_hangs, .inl (cI, 6, .inl w_hangs)), (w_a_ticksSeen, .inl (cI, 6, .inl w_ticksSeen)), (w_a_ups, .inl (cZ, 6, .inl w_ups)), (w_a_periods, .inl (cI, 132, .inl w_periods')), (w_a_starts, .inl (cI, 132, .inl w_starts'))] → va_S A s.heap H locs → lv_has ls 3 [(0, .ref w_a), (1, .int v1), (2, .int v2')] → W p l e { frames := 2, cells := 0, slots := 0, locals := 46 } s m [.ref w_a].toArray below meth c H locs 0 0 (zFv below [.ref w_a] s A D (TYS cI cZ cS cJ) [(w_a, .inr (9, [.int w_size, .ref w_a_hangs, .ref w_a_ticksSeen, .ref w_a_ups, .int w_found_o, .ref w_a_periods, .ref w_a_starts])), (w_a_hangs, .inl (cI, 6, .inl w_hangs)), (w_a_ticksSeen, .inl (cI, 6, .inl w_ticksSeen)), (w_a_ups, .inl (cZ, 6, .inl w_ups)), (w_a_periods, .inl (cI, 132, .inl w_periods_o)), (w_a_starts, .inl (cI, 132, .inl w_starts_o))]) (F0 m 76 ls [])) → W p l e { frames := 2, cells := 0, slots := 0, locals := 46 } s m [.ref w_a].toArray below meth c H locs 0 0 (zFv below [.ref w_a] s A D (TYS cI cZ cS cJ) [(w_a, .inr (9, [.int w_size, .ref w_a_hangs, .ref w_a_ticksSeen, .ref w_a_ups, .int w_found_o, .ref w_a_periods, .ref w_a_starts])), (w_a_hangs, .inl (cI, 6, .inl w_hangs)), (w_a_ticksSeen, .inl (cI, 6, .inl w_ticksSeen)), (w_a_ups, .inl (cZ, 6, .inl w_ups)), (w_a_periods, .inl (cI, 132, .inl w_periods_o)), (w_a_starts, .inl (cI, 132, .inl w_starts_o))]) (F0 m 15 ls []) := by
    intro n
    induction n with
    | zero =>
      intro w_size w_found w_hangs w_ticksSeen w_ups w_periods w_starts v1 v2 w_found' w_periods' w_starts' v2' hF
      rw [L_X9_gather_15_z] at hF
      cases hF
    | succ n ih_15 =>
      intro w_size w_found w_hangs w_ticksSeen w_ups w_periods w_starts v1 v2 w_found' w_periods' w_starts' v2' hF H locs ls hP hD hS hl hexit_15
      rw [L_X9_gather_15_s] at hF
      refine lv_iload_n hx hb dX9_gather_15 rfl (lv_at hl 2 rfl) ?_
      refine lv_bipush (v := 11) hx hb dX9_gather_16 (by decide) ?_
      refine lv_icmp_gt (tgt := 76) hx hb dX9_gather_18 (by decide) (fun c_8 => ?_) (fun c_8 => ?_)
      · have hF := zi_pos c_8 hF
        obtain ⟨e_0, e_1, e_2, e_3⟩ := zo4 hF
        subst e_0
        subst e_1
        subst e_2
        subst e_3
        exact hexit_15 _ _ _ hP hD hS (lv_sub hl [0, 1, 2] rfl)
      · have hF := zi_neg c_8 hF
        refine lv_aload_n hx hb dX9_gather_21 rfl (lv_at hl 0 rfl) ?_
        refine va_get (D := D) (ci := 9) (v := .int w_found) (C := RX9) (T := TX9) (N := 7) hx hb ht iyX9 hown hK hP 0 rfl rfl 4 (by decide) (ht _ wf_X9_32) (fun _ h9 => h9) rfl dX9_gather_22 ?_
        refine lv_sipush (v := 132) hx hb dX9_gather_25 (by decide) ?_
        refine lv_icmp_ge (tgt := 70) hx hb dX9_gather_28 (by decide) (fun c_9 => ?_) (fun c_9 => ?_)
        · have hF := zi_pos c_9 hF
          refine lv_iinc (v := v2 + 1) (lv' := [(2, .int (v2 + 1)), (0, .ref w_a), (1, .int v1)]) hx hb dX9_gather_70 hl (k := 2) rfl (by rfl) (by decide) rfl (fun ls hl => ?_)
          refine lv_goto (tgt := 15) hx hb dX9_gather_73 (by decide) ?_
          exact ih_15 w_size w_found w_hangs w_ticksSeen w_ups w_periods w_starts v1 (v2 + 1) _ _ _ _ hF _ _ _ hP hD hS (lv_sub hl [1, 2, 0] rfl) hexit_15
        · have hF := zi_neg c_9 hF
          refine lv_aload_n hx hb dX9_gather_31 rfl (lv_at hl 0 rfl) ?_
          refine lv_iload_n hx hb dX9_gather_32 rfl (lv_at hl 1 rfl) ?_
          refine lv_iload_n hx hb dX9_gather_33 rfl (lv_at hl 2 rfl) ?_
          obtain ⟨r_10, hc_11, hF⟩ := zb1_s hF
          refine zcv_i (ws1 := [(w_a, .inr (9, [.int w_size, .ref w_a_hangs, .ref w_a_ticksSeen, .ref w_a_ups, .int w_found, .ref w_a_periods, .ref w_a_starts])), (w_a_hangs, .inl (cI, 6, .inl w_hangs)), (w_a_ticksSeen, .inl (cI, 6, .inl w_ticksSeen)), (w_a_ups, .inl (cZ, 6, .inl w_ups)), (w_a_periods, .inl (cI, 132, .inl w_periods)), (w_a_starts, .inl (cI, 132, .inl w_starts))]) S hT lk_X9_35 (c_X9_agrees l D cI cZ cS cJ w_a w_a_hangs w_a_ticksSeen w_a_ups w_a_periods w_a_starts w_size w_found w_hangs w_ticksSeen w_ups v1 v2 hc_11) ⟨rfl, rfl, Nat.le_of_ble_eq_true rfl, Nat.le_of_ble_eq_true rfl⟩ hK hP hD hS hA [0, 1, 2, 3] [4, 5] [2, 3, 4, 5, 0, 1] rfl rfl rfl rfl rfl rfl rfl rfl rfl rfl rfl hl.1 rfl (Nat.le_of_ble_eq_true rfl) dX9_gather_34 ⟨Nat.zero_le _, Nat.zero_le _⟩ (fun H locs hP hD hS => ?_)
          refine lv_if_eq (tgt := 70) hx hb dX9_gather_37 (by decide) (fun c_12 => ?_) (fun c_12 => ?_)
          · have hF := zi_pos c_12 hF
            refine lv_iinc (v := v2 + 1) (lv' := [(2, .int (v2 + 1)), (0, .ref w_a), (1, .int v1)]) hx hb dX9_gather_70 hl (k := 2) rfl (by rfl) (by decide) rfl (fun ls hl => ?_)
            refine lv_goto (tgt := 15) hx hb dX9_gather_73 (by decide) ?_
            exact ih_15 w_size w_found w_hangs w_ticksSeen w_ups w_periods w_starts v1 (v2 + 1) _ _ _ _ hF _ _ _ hP hD hS (lv_sub hl [1, 2, 0] rfl) hexit_15
          · have hF := zi_neg c_12 hF
            refine lv_aload_n hx hb dX9_gather_40 rfl (lv_at hl 0 rfl) ?_
            refine va_get (D := D) (ci := 9) (v := .ref w_a_periods) (C := RX9) (T := TX9) (N := 7) hx hb ht iyX9 hown hK hP 0 rfl rfl 5 (by decide) (ht _ wf_X9_22) (fun _ h9 => h9) rfl dX9_gather_41 ?_
            refine lv_aload_n hx hb dX9_gather_44 rfl (lv_at hl 0 rfl) ?_
            refine va_get (D := D) (ci := 9) (v := .int w_found) (C := RX9) (T := TX9) (N := 7) hx hb ht iyX9 hown hK hP 0 rfl rfl 4 (by decide) (ht _ wf_X9_32) (fun _ h9 => h9) rfl dX9_gather_45 ?_
            refine lv_iload_n hx hb dX9_gather_48 rfl (lv_at hl 1 rfl) ?_
            obtain ⟨h_13, hF⟩ := zi_chk hF
            refine va_iast hx hb hK hP hD hS 4 0 rfl rfl h_13 dX9_gather_49 (fun H locs hP hD hS => ?_)
            have hP : va_P D classes [(w_a, .inr (9, [.int w_size, .ref w_a_hangs, .ref w_a_ticksSeen, .ref w_a_ups, .int w_found, .ref w_a_periods, .ref w_a_starts])), (w_a_hangs, .inl (cI, 6, .inl w_hangs)), (w_a_ticksSeen, .inl (cI, 6, .inl w_ticksSeen)), (w_a_ups, .inl (cZ, 6, .inl w_ups)), (w_a_periods, .inl (cI, 132, .inl (upd w_periods w_found.toNatClampNeg v1))), (w_a_starts, .inl (cI, 132, .inl w_starts))] H := hP
            have hD : va_D A [(w_a, .inr (9, [.int w_size, .ref w_a_hangs, .ref w_a_ticksSeen, .ref w_a_ups, .int w_found, .ref w_a_periods, .ref w_a_starts])), (w_a_hangs, .inl (cI, 6, .inl w_hangs)), (w_a_ticksSeen, .inl (cI, 6, .inl w_ticksSeen)), (w_a_ups, .inl (cZ, 6, .inl w_ups)), (w_a_periods, .inl (cI, 132, .inl (upd w_periods w_found.toNatClampNeg v1))), (w_a_starts, .inl (cI, 132, .inl w_starts))] := hD
            refine lv_aload_n hx hb dX9_gather_50 rfl (lv_at hl 0 rfl) ?_
            refine va_get (D := D) (ci := 9) (v := .ref w_a_starts) (C := RX9) (T := TX9) (N := 7) hx hb ht iyX9 hown hK hP 0 rfl rfl 6 (by decide) (ht _ wf_X9_25) (fun _ h9 => h9) rfl dX9_gather_51 ?_
            refine lv_aload_n hx hb dX9_gather_54 rfl (lv_at hl 0 rfl) ?_
            refine va_get (D := D) (ci := 9) (v := .int w_found) (C := RX9) (T := TX9) (N := 7) hx hb ht iyX9 hown hK hP 0 rfl rfl 4 (by decide) (ht _ wf_X9_32) (fun _ h9 => h9) rfl dX9_gather_55 ?_
            refine lv_iload_n hx hb dX9_gather_58 rfl (lv_at hl 2 rfl) ?_
            refine va_iast hx hb hK hP hD hS 5 0 rfl rfl h_13 dX9_gather_59 (fun H locs hP hD hS => ?_)
            have hP : va_P D classes [(w_a, .inr (9, [.int w_size, .ref w_a_hangs, .ref w_a_ticksSeen, .ref w_a_ups, .int w_found, .ref w_a_periods, .ref w_a_starts])), (w_a_hangs, .inl (cI, 6, .inl w_hangs)), (w_a_ticksSeen, .inl (cI, 6, .inl w_ticksSeen)), (w_a_ups, .inl (cZ, 6, .inl w_ups)), (w_a_periods, .inl (cI, 132, .inl (upd w_periods w_found.toNatClampNeg v1))), (w_a_starts, .inl (cI, 132, .inl (upd w_starts w_found.toNatClampNeg v2)))] H := hP
            have hD : va_D A [(w_a, .inr (9, [.int w_size, .ref w_a_hangs, .ref w_a_ticksSeen, .ref w_a_ups, .int w_found, .ref w_a_periods, .ref w_a_starts])), (w_a_hangs, .inl (cI, 6, .inl w_hangs)), (w_a_ticksSeen, .inl (cI, 6, .inl w_ticksSeen)), (w_a_ups, .inl (cZ, 6, .inl w_ups)), (w_a_periods, .inl (cI, 132, .inl (upd w_periods w_found.toNatClampNeg v1))), (w_a_starts, .inl (cI, 132, .inl (upd w_starts w_found.toNatClampNeg v2)))] := hD
            refine lv_aload_n hx hb dX9_gather_60 rfl (lv_at hl 0 rfl) ?_
            refine lv_dup hx hb dX9_gather_61 rfl ?_
            refine va_get (D := D) (ci := 9) (v := .int w_found) (C := RX9) (T := TX9) (N := 7) hx hb ht iyX9 hown hK hP 0 rfl rfl 4 (by decide) (ht _ wf_X9_32) (fun _ h9 => h9) rfl dX9_gather_62 ?_
            refine lv_iconst (v := 1) hx hb dX9_gather_65 (by decide) ?_
            refine lv_iadd hx hb dX9_gather_66 ?_
            refine va_put (D := D) (ci := 9) (v := .int (w_found + 1)) (ty := .int) (C := RX9) (T := TX9) (N := 7) hx hb ht iyX9 tyX9 tyX9_ok nmX9 hown hK hP hD hS 0 rfl rfl 4 (by decide) (ht _ wf_X9_32) (fun _ h9 => h9) rfl (by decide +kernel) rfl rfl (Nat.le_of_ble_eq_true rfl) dX9_gather_67 (fun H locs hP hD hS => ?_)
            have hP : va_P D classes [(w_a, .inr (9, [.int w_size, .ref w_a_hangs, .ref w_a_ticksSeen, .ref w_a_ups, .int (w_found + 1), .ref w_a_periods, .ref w_a_starts])), (w_a_hangs, .inl (cI, 6, .inl w_hangs)), (w_a_ticksSeen, .inl (cI, 6, .inl w_ticksSeen)), (w_a_ups, .inl (cZ, 6, .inl w_ups)), (w_a_periods, .inl (cI, 132, .inl (upd w_periods w_found.toNatClampNeg v1))), (w_a_starts, .inl (cI, 132, .inl (upd w_starts w_found.toNatClampNeg v2)))] H := hP
            have hD : va_D A [(w_a, .inr (9, [.int w_size, .ref w_a_hangs, .ref w_a_ticksSeen, .ref w_a_ups, .int (w_found + 1), .ref w_a_periods, .ref w_a_starts])), (w_a_hangs, .inl (cI, 6, .inl w_hangs)), (w_a_ticksSeen, .inl (cI, 6, .inl w_ticksSeen)), (w_a_ups, .inl (cZ, 6, .inl w_ups)), (w_a_periods, .inl (cI, 132, .inl (upd w_periods w_found.toNatClampNeg v1))), (w_a_starts, .inl (cI, 132, .inl (upd w_starts w_found.toNatClampNeg v2)))] := hD
            refine lv_iinc (v := v2 + 1) (lv' := [(2, .int (v2 + 1)), (0, .ref w_a), (1, .int v1)]) hx hb dX9_gather_70 hl (k := 2) rfl (by rfl) (by decide) rfl (fun ls hl => ?_)
            refine lv_goto (tgt := 15) hx hb dX9_gather_73 (by decide) ?_
            exact ih_15 w_size (w_found + 1) w_hangs w_ticksSeen w_ups (upd w_periods w_found.toNatClampNeg v1) (upd w_starts w_found.toNatClampNeg v2) v1 (v2 + 1) _ _ _ _ hF _ _ _ hP hD hS (lv_sub hl [1, 2, 0] rfl) hexit_15
  have hloop_7 : ∀ (n : Nat) (w_size : Int32) (w_found : Int32) (w_hangs : Nat → Int32) (w_ticksSeen : Nat → Int32) (w_ups : Nat → Int32) (w_periods : Nat → Int32) (w_starts : Nat → Int32) (v1 : Int32) (w_found' : Int32) (w_periods' : Nat → Int32) (w_starts' : Nat → Int32) (v1' : Int32), L_X9_gather_7 w_size w_hangs w_ticksSeen w_ups n w_found w_periods w_starts v1 = some (w_found', w_periods', w_starts', v1') → ∀ (H : Heap) (locs : List Loc) (ls : Array Slot), va_P D classes [(w_a, .inr (9, [.int w_size, .ref w_a_hangs, .ref w_a_ticksSeen, .ref w_a_ups, .int w_found, .ref w_a_periods, .ref w_a_starts])), (w_a_hangs, .inl (cI, 6, .inl w_hangs)), (w_a_ticksSeen, .inl (cI, 6, .inl w_ticksSeen)), (w_a_ups, .inl (cZ, 6, .inl w_ups)), (w_a_periods, .inl (cI, 132, .inl w_periods)), (w_a_starts, .inl (cI, 132, .inl w_starts))] H → va_D A [(w_a, .inr (9, [.int w_size, .ref w_a_hangs, .ref w_a_ticksSeen, .ref w_a_ups, .int w_found, .ref w_a_periods, .ref w_a_starts])), (w_a_hangs, .inl (cI, 6, .inl w_hangs)), (w_a_ticksSeen, .inl (cI, 6, .inl w_ticksSeen)), (w_a_ups, .inl (cZ, 6, .inl w_ups)), (w_a_periods, .inl (cI, 132, .inl w_periods)), (w_a_starts, .inl (cI, 132, .inl w_starts))] → va_S A s.heap H locs → lv_has ls 3 [(0, .ref w_a), (1, .int v1)] → (∀ (H : Heap) (locs : List Loc) (ls : Array Slot), va_P D classes [(w_a, .inr (9, [.int w_size, .ref w_a_hangs, .ref w_a_ticksSeen, .ref w_a_ups, .int w_found', .ref w_a_periods, .ref w_a_starts])), (w_a_hangs, .inl (cI, 6, .inl w_hangs)), (w_a_ticksSeen, .inl (cI, 6, .inl w_ticksSeen)), (w_a_ups, .inl (cZ, 6, .inl w_ups)), (w_a_periods, .inl (cI, 132, .inl w_periods')), (w_a_starts, .inl (cI, 132, .inl w_starts'))] H → va_D A [(w_a, .inr (9, [.int w_size, .ref w_a_hangs, .ref w_a_ticksSeen, .ref w_a_ups, .int w_found', .ref w_a_periods, .ref w_a_starts])), (w_a_hangs, .inl (cI, 6, .inl w_hangs)), (w_a_ticksSeen, .inl (cI, 6, .inl w_ticksSeen)), (w_a_ups, .inl (cZ, 6, .inl w_ups)), (w_a_periods, .inl (cI, 132, .inl w_periods')), (w_a_starts, .inl (cI, 132, .inl w_starts'))] → va_S A s.heap H locs → lv_has ls 3 [(0, .ref w_a), (1, .int v1')] → W p l e { frames := 2, cells := 0, slots := 0, locals := 46 } s m [.ref w_a].toArray below meth c H locs 0 0 (zFv below [.ref w_a] s A D (TYS cI cZ cS cJ) [(w_a, .inr (9, [.int w_size, .ref w_a_hangs, .ref w_a_ticksSeen, .ref w_a_ups, .int w_found_o, .ref w_a_periods, .ref w_a_starts])), (w_a_hangs, .inl (cI, 6, .inl w_hangs)), (w_a_ticksSeen, .inl (cI, 6, .inl w_ticksSeen)), (w_a_ups, .inl (cZ, 6, .inl w_ups)), (w_a_periods, .inl (cI, 132, .inl w_periods_o)), (w_a_starts, .inl (cI, 132, .inl w_starts_o))]) (F0 m 82 ls [])) → W p l e { frames := 2, cells := 0, slots := 0, locals := 46 } s m [.ref w_a].toArray below meth c H locs 0 0 (zFv below [.ref w_a] s A D (TYS cI cZ cS cJ) [(w_a, .inr (9, [.int w_size, .ref w_a_hangs, .ref w_a_ticksSeen, .ref w_a_ups, .int w_found_o, .ref w_a_periods, .ref w_a_starts])), (w_a_hangs, .inl (cI, 6, .inl w_hangs)), (w_a_ticksSeen, .inl (cI, 6, .inl w_ticksSeen)), (w_a_ups, .inl (cZ, 6, .inl w_ups)), (w_a_periods, .inl (cI, 132, .inl w_periods_o)), (w_a_starts, .inl (cI, 132, .inl w_starts_o))]) (F0 m 7 ls []) := by
    intro n
    induction n with
    | zero =>
      intro w_size w_found w_hangs w_ticksSeen w_ups w_periods w_starts v1 w_found' w_periods' w_starts' v1' hF
      rw [L_X9_gather_7_z] at hF
      cases hF
    | succ n ih_7 =>
      intro w_size w_found w_hangs w_ticksSeen w_ups w_periods w_starts v1 w_found' w_periods' w_starts' v1' hF H locs ls hP hD hS hl hexit_7
      rw [L_X9_gather_7_s] at hF
      refine lv_iload_n hx hb dX9_gather_7 rfl (lv_at hl 1 rfl) ?_
      refine lv_bipush (v := 12) hx hb dX9_gather_8 (by decide) ?_
      refine lv_icmp_gt (tgt := 82) hx hb dX9_gather_10 (by decide) (fun c_19 => ?_) (fun c_19 => ?_)
      · have hF := zi_pos c_19 hF
        obtain ⟨e_0, e_1, e_2, e_3⟩ := zo4 hF
        subst e_0
        subst e_1
        subst e_2
        subst e_3
        exact hexit_7 _ _ _ hP hD hS (lv_sub hl [0, 1] rfl)
      · have hF := zi_neg c_19 hF
        refine lv_iconst (v := 0) hx hb dX9_gather_13 (by decide) ?_
        refine lv_istore_n (lv' := [(2, .int 0), (0, .ref w_a), (1, .int v1)]) hx hb dX9_gather_14 rfl hl (by decide) rfl (fun ls hl => ?_)
        obtain ⟨w_found_20, w_periods_21, w_starts_22, v2_23, hL_24, hF⟩ := zb4_s hF
        refine hloop_15 300 w_size w_found w_hangs w_ticksSeen w_ups w_periods w_starts v1 0 w_found_20 w_periods_21 w_starts_22 v2_23 hL_24 _ _ _ hP hD hS (lv_sub hl [1, 2, 0] rfl) (fun H locs ls hP hD hS hl => ?_)
        refine lv_iinc (v := v1 + 1) (lv' := [(1, .int (v1 + 1)), (0, .ref w_a), (2, .int v2_23)]) hx hb dX9_gather_76 hl (k := 1) rfl (by rfl) (by decide) rfl (fun ls hl => ?_)
        refine lv_goto (tgt := 7) hx hb dX9_gather_79 (by decide) ?_
        exact ih_7 w_size w_found_20 w_hangs w_ticksSeen w_ups w_periods_21 w_starts_22 (v1 + 1) _ _ _ _ hF _ _ _ hP hD hS (lv_sub hl [1, 0] rfl) hexit_7
  refine lv_aload_n hx hb dX9_gather_0 rfl (lv_at hl 0 rfl) ?_
  refine lv_iconst (v := 0) hx hb dX9_gather_1 (by decide) ?_
  refine va_put (D := D) (ci := 9) (v := .int 0) (ty := .int) (C := RX9) (T := TX9) (N := 7) hx hb ht iyX9 tyX9 tyX9_ok nmX9 hown hK hP hD hS 0 rfl rfl 4 (by decide) (ht _ wf_X9_32) (fun _ h9 => h9) rfl (by decide +kernel) rfl rfl (Nat.le_of_ble_eq_true rfl) dX9_gather_2 (fun H locs hP hD hS => ?_)
  have hP : va_P D classes [(w_a, .inr (9, [.int w_size, .ref w_a_hangs, .ref w_a_ticksSeen, .ref w_a_ups, .int 0, .ref w_a_periods, .ref w_a_starts])), (w_a_hangs, .inl (cI, 6, .inl w_hangs)), (w_a_ticksSeen, .inl (cI, 6, .inl w_ticksSeen)), (w_a_ups, .inl (cZ, 6, .inl w_ups)), (w_a_periods, .inl (cI, 132, .inl w_periods)), (w_a_starts, .inl (cI, 132, .inl w_starts))] H := hP
  have hD : va_D A [(w_a, .inr (9, [.int w_size, .ref w_a_hangs, .ref w_a_ticksSeen, .ref w_a_ups, .int 0, .ref w_a_periods, .ref w_a_starts])), (w_a_hangs, .inl (cI, 6, .inl w_hangs)), (w_a_ticksSeen, .inl (cI, 6, .inl w_ticksSeen)), (w_a_ups, .inl (cZ, 6, .inl w_ups)), (w_a_periods, .inl (cI, 132, .inl w_periods)), (w_a_starts, .inl (cI, 132, .inl w_starts))] := hD
  refine lv_iconst (v := 2) hx hb dX9_gather_5 (by decide) ?_
  refine lv_istore_n (lv' := [(1, .int 2), (0, .ref w_a)]) hx hb dX9_gather_6 rfl hl (by decide) rfl (fun ls hl => ?_)
  obtain ⟨w_found_25, w_periods_26, w_starts_27, v1_28, hL_29, hF⟩ := zb4_s hF
  refine hloop_7 300 w_size 0 w_hangs w_ticksSeen w_ups w_periods w_starts 2 w_found_25 w_periods_26 w_starts_27 v1_28 hL_29 _ _ _ hP hD hS (lv_sub hl [1, 0] rfl) (fun H locs ls hP hD hS hl => ?_)
  obtain ⟨e_0, e_1, e_2⟩ := zo3 hF
  subst e_0
  subst e_1
  subst e_2
  exact zret_v S hr hlocks hK hP hD hS dX9_gather_82

def L_X9_bestTick_25 (w_found : Int32) (w_periods : Nat → Int32) (w_starts : Nat → Int32) (v1 : Int32) (v4 : Int32) : Nat → Int32 → Int32 → Option (Int32 × Int32)
  | 0 => fun _ _ => none
  | n + 1 => fun v5 v6 => (if w_found ≤ v6 then some (v5, v6) else (if (v6 < 0 ∨ 132 ≤ v6.toNatClampNeg) then none else (zb1 (F_X9_isUp (w_periods v6.toNatClampNeg) (w_starts v6.toNatClampNeg) v1 v4) (fun r_9 => (if r_9 = 0 then (L_X9_bestTick_25 w_found w_periods w_starts v1 v4 n v5 (v6 + 1)) else (L_X9_bestTick_25 w_found w_periods w_starts v1 v4 n (v5 + 1) (v6 + 1)))))))
theorem L_X9_bestTick_25_z (w_found : Int32) (w_periods : Nat → Int32) (w_starts : Nat → Int32) (v1 : Int32) (v4 : Int32) (v5 : Int32) (v6 : Int32) : L_X9_bestTick_25 w_found w_periods w_starts v1 v4 0 v5 v6 = none := rfl
theorem L_X9_bestTick_25_s (w_found : Int32) (w_periods : Nat → Int32) (w_starts : Nat → Int32) (v1 : Int32) (v4 : Int32) (n : Nat) (v5 : Int32) (v6 : Int32) : L_X9_bestTick_25 w_found w_periods w_starts v1 v4 (n + 1) v5 v6 = (if w_found ≤ v6 then some (v5, v6) else (if (v6 < 0 ∨ 132 ≤ v6.toNatClampNeg) then none else (zb1 (F_X9_isUp (w_periods v6.toNatClampNeg) (w_starts v6.toNatClampNeg) v1 v4) (fun r_9 => (if r_9 = 0 then (L_X9_bestTick_25 w_found w_periods w_starts v1 v4 n v5 (v6 + 1)) else (L_X9_bestTick_25 w_found w_periods w_starts v1 v4 n (v5 + 1) (v6 + 1))))))) := rfl
def L_X9_bestTick_12 (w_found : Int32) (w_periods : Nat → Int32) (w_starts : Nat → Int32) (v1 : Int32) : Nat → Int32 → Int32 → Int32 → Option (Int32 × Int32 × Int32)
  | 0 => fun _ _ _ => none
  | n + 1 => fun v2 v3 v4 => (if 40 < v4 then some (v2, v3, v4) else (zb2 (L_X9_bestTick_25 w_found w_periods w_starts v1 v4 300 0 0) (fun v5_17 v6_18 => (if v3 ≤ (if v5_17 < (w_found - v5_17) then (w_found - v5_17) else v5_17) then (L_X9_bestTick_12 w_found w_periods w_starts v1 n v2 v3 (v4 + 1)) else (L_X9_bestTick_12 w_found w_periods w_starts v1 n v4 (if v5_17 < (w_found - v5_17) then (w_found - v5_17) else v5_17) (v4 + 1))))))
theorem L_X9_bestTick_12_z (w_found : Int32) (w_periods : Nat → Int32) (w_starts : Nat → Int32) (v1 : Int32) (v2 : Int32) (v3 : Int32) (v4 : Int32) : L_X9_bestTick_12 w_found w_periods w_starts v1 0 v2 v3 v4 = none := rfl
theorem L_X9_bestTick_12_s (w_found : Int32) (w_periods : Nat → Int32) (w_starts : Nat → Int32) (v1 : Int32) (n : Nat) (v2 : Int32) (v3 : Int32) (v4 : Int32) : L_X9_bestTick_12 w_found w_periods w_starts v1 (n + 1) v2 v3 v4 = (if 40 < v4 then some (v2, v3, v4) else (zb2 (L_X9_bestTick_25 w_found w_periods w_starts v1 v4 300 0 0) (fun v5_17 v6_18 => (if v3 ≤ (if v5_17 < (w_found - v5_17) then (w_found - v5_17) else v5_17) then (L_X9_bestTick_12 w_found w_periods w_starts v1 n v2 v3 (v4 + 1)) else (L_X9_bestTick_12 w_found w_periods w_starts v1 n v4 (if v5_17 < (w_found - v5_17) then (w_found - v5_17) else v5_17) (v4 + 1)))))) := rfl
def F_X9_bestTick (w_found : Int32) (w_periods : Nat → Int32) (w_starts : Nat → Int32) (p1 : Int32) : Option (Int32) :=
  (zb3 (L_X9_bestTick_12 w_found w_periods w_starts p1 300 0 (w_found + 1) 0) (fun v2_21 v3_22 v4_23 => some (v2_21)))
set_option maxHeartbeats 4000000 in
set_option maxRecDepth 100000 in
theorem c_X9_bestTick (l : Launch) (D : va_G) (cI cZ cS cJ : ClassId) (w_a : Nat) (w_a_hangs : Nat) (w_a_ticksSeen : Nat) (w_a_ups : Nat) (w_a_periods : Nat) (w_a_starts : Nat) (w_size : Int32) (w_found : Int32) (w_periods : Nat → Int32) (w_starts : Nat → Int32) (p1 : Int32) {r_o : Int32} (hF : F_X9_bestTick w_found w_periods w_starts p1 = some (r_o)) : zMi l yX9_bestTick (zwl yX9_bestTick cX9_bestTick 7 (some .int)) { frames := 1, cells := 0, slots := 0, locals := 23 } D (TYS cI cZ cS cJ) [.ref w_a, .int p1] [(w_a, .inr (9, [.int w_size, .ref w_a_hangs, .ref w_a_ticksSeen, .ref w_a_ups, .int w_found, .ref w_a_periods, .ref w_a_starts])), (w_a_periods, .inl (cI, 132, .inl w_periods)), (w_a_starts, .inl (cI, 132, .inl w_starts))] [(w_a, .inr (9, [.int w_size, .ref w_a_hangs, .ref w_a_ticksSeen, .ref w_a_ups, .int w_found, .ref w_a_periods, .ref w_a_starts])), (w_a_periods, .inl (cI, 132, .inl w_periods)), (w_a_starts, .inl (cI, 132, .inl w_starts))] r_o := by
  refine zent_i (own := RX9) (by decide) rfl (Nat.le_of_ble_eq_true rfl) ?_
  intro p e s m below meth c A ls S hr hlocks hK hP hD hA hl
  have hx := S.1
  have hb := S.2.1
  have hml := S.2.2.1
  have hown := S.2.2.2.1
  have hT : ∀ w ∈ zt, w ∈ zwl yX9_bestTick cX9_bestTick 7 (some .int) := fun _ h => List.mem_cons_of_mem _ h
  have ht : ∀ w ∈ zt, w.before [.ref w_a, .int p1].toArray s = true := fun w h => S.2.2.2.2 w (hT w h)
  have hl : lv_has ls 7 [(0, .ref w_a), (1, .int p1)] := hl
  have hS : va_S A s.heap s.heap [] := va_S.rf
  unfold F_X9_bestTick at hF
  have hloop_25 : ∀ (n : Nat) (w_size : Int32) (w_found : Int32) (w_periods : Nat → Int32) (w_starts : Nat → Int32) (v1 : Int32) (v2 : Int32) (v3 : Int32) (v4 : Int32) (v5 : Int32) (v6 : Int32) (v5' : Int32) (v6' : Int32), L_X9_bestTick_25 w_found w_periods w_starts v1 v4 n v5 v6 = some (v5', v6') → ∀ (H : Heap) (locs : List Loc) (ls : Array Slot), va_P D classes [(w_a, .inr (9, [.int w_size, .ref w_a_hangs, .ref w_a_ticksSeen, .ref w_a_ups, .int w_found, .ref w_a_periods, .ref w_a_starts])), (w_a_periods, .inl (cI, 132, .inl w_periods)), (w_a_starts, .inl (cI, 132, .inl w_starts))] H → va_D A [(w_a, .inr (9, [.int w_size, .ref w_a_hangs, .ref w_a_ticksSeen, .ref w_a_ups, .int w_found, .ref w_a_periods, .ref w_a_starts])), (w_a_periods, .inl (cI, 132, .inl w_periods)), (w_a_starts, .inl (cI, 132, .inl w_starts))] → va_S A s.heap H locs → lv_has ls 7 [(0, .ref w_a), (1, .int v1), (2, .int v2), (3, .int v3), (4, .int v4), (5, .int v5), (6, .int v6)] → (∀ (H : Heap) (locs : List Loc) (ls : Array Slot), va_P D classes [(w_a, .inr (9, [.int w_size, .ref w_a_hangs, .ref w_a_ticksSeen, .ref w_a_ups, .int w_found, .ref w_a_periods, .ref w_a_starts])), (w_a_periods, .inl (cI, 132, .inl w_periods)), (w_a_starts, .inl (cI, 132, .inl w_starts))] H → va_D A [(w_a, .inr (9, [.int w_size, .ref w_a_hangs, .ref w_a_ticksSeen, .ref w_a_ups, .int w_found, .ref w_a_periods, .ref w_a_starts])), (w_a_periods, .inl (cI, 132, .inl w_periods)), (w_a_starts, .inl (cI, 132, .inl w_starts))] → va_S A s.heap H locs → lv_has ls 7 [(0, .ref w_a), (1, .int v1), (2, .int v2), (3, .int v3), (4, .int v4), (5, .int v5'), (6, .int v6')] → W p l e { frames := 1, cells := 0, slots := 0, locals := 23 } s m [.ref w_a, .int p1].toArray below meth c H locs 0 0 (zFi below [.ref w_a, .int p1] s A D (TYS cI cZ cS cJ) [(w_a, .inr (9, [.int w_size, .ref w_a_hangs, .ref w_a_ticksSeen, .ref w_a_ups, .int w_found, .ref w_a_periods, .ref w_a_starts])), (w_a_periods, .inl (cI, 132, .inl w_periods)), (w_a_starts, .inl (cI, 132, .inl w_starts))] r_o) (F0 m 66 ls [])) → W p l e { frames := 1, cells := 0, slots := 0, locals := 23 } s m [.ref w_a, .int p1].toArray below meth c H locs 0 0 (zFi below [.ref w_a, .int p1] s A D (TYS cI cZ cS cJ) [(w_a, .inr (9, [.int w_size, .ref w_a_hangs, .ref w_a_ticksSeen, .ref w_a_ups, .int w_found, .ref w_a_periods, .ref w_a_starts])), (w_a_periods, .inl (cI, 132, .inl w_periods)), (w_a_starts, .inl (cI, 132, .inl w_starts))] r_o) (F0 m 25 ls []) := by
    intro n
    induction n with
    | zero =>
      intro w_size w_found w_periods w_starts v1 v2 v3 v4 v5 v6 v5' v6' hF
      rw [L_X9_bestTick_25_z] at hF
      cases hF
    | succ n ih_25 =>
      intro w_size w_found w_periods w_starts v1 v2 v3 v4 v5 v6 v5' v6' hF H locs ls hP hD hS hl hexit_25
      rw [L_X9_bestTick_25_s] at hF
      refine lv_iload hx hb dX9_bestTick_25 (lv_at hl 6 rfl) ?_
      refine lv_aload_n hx hb dX9_bestTick_27 rfl (lv_at hl 0 rfl) ?_
      refine va_get (D := D) (ci := 9) (v := .int w_found) (C := RX9) (T := TX9) (N := 7) hx hb ht iyX9 hown hK hP 0 rfl rfl 4 (by decide) (ht _ wf_X9_32) (fun _ h9 => h9) rfl dX9_bestTick_28 ?_
      refine lv_icmp_ge (tgt := 66) hx hb dX9_bestTick_31 (by decide) (fun c_7 => ?_) (fun c_7 => ?_)
      · have hF := zi_pos c_7 hF
        obtain ⟨e_0, e_1⟩ := zo2 hF
        subst e_0
        subst e_1
        exact hexit_25 _ _ _ hP hD hS (lv_sub hl [0, 1, 2, 3, 4, 5, 6] rfl)
      · have hF := zi_neg c_7 hF
        refine lv_aload_n hx hb dX9_bestTick_34 rfl (lv_at hl 0 rfl) ?_
        refine va_get (D := D) (ci := 9) (v := .ref w_a_periods) (C := RX9) (T := TX9) (N := 7) hx hb ht iyX9 hown hK hP 0 rfl rfl 5 (by decide) (ht _ wf_X9_22) (fun _ h9 => h9) rfl dX9_bestTick_35 ?_
        refine lv_iload hx hb dX9_bestTick_38 (lv_at hl 6 rfl) ?_
        obtain ⟨h_8, hF⟩ := zi_chk hF
        refine va_iald hx hb hK hP 1 0 rfl rfl h_8 dX9_bestTick_40 ?_
        refine lv_aload_n hx hb dX9_bestTick_41 rfl (lv_at hl 0 rfl) ?_
        refine va_get (D := D) (ci := 9) (v := .ref w_a_starts) (C := RX9) (T := TX9) (N := 7) hx hb ht iyX9 hown hK hP 0 rfl rfl 6 (by decide) (ht _ wf_X9_25) (fun _ h9 => h9) rfl dX9_bestTick_42 ?_
        refine lv_iload hx hb dX9_bestTick_45 (lv_at hl 6 rfl) ?_
        refine va_iald hx hb hK hP 2 0 rfl rfl h_8 dX9_bestTick_47 ?_
        refine lv_iload_n hx hb dX9_bestTick_48 rfl (lv_at hl 1 rfl) ?_
        refine lv_iload hx hb dX9_bestTick_49 (lv_at hl 4 rfl) ?_
        obtain ⟨r_9, hc_10, hF⟩ := zb1_s hF
        refine zcs_i (ws1 := [(w_a, .inr (9, [.int w_size, .ref w_a_hangs, .ref w_a_ticksSeen, .ref w_a_ups, .int w_found, .ref w_a_periods, .ref w_a_starts])), (w_a_periods, .inl (cI, 132, .inl w_periods)), (w_a_starts, .inl (cI, 132, .inl w_starts))]) S hT lk_X9_39 (c_X9_isUp l D cI cZ cS cJ (w_periods v6.toNatClampNeg) (w_starts v6.toNatClampNeg) v1 v4 hc_10) ⟨rfl, rfl, Nat.le_of_ble_eq_true rfl, Nat.le_of_ble_eq_true rfl⟩ hK hP hD hS hA [] [0, 1, 2] [0, 1, 2] rfl rfl rfl rfl rfl rfl rfl rfl hl.1 rfl (Nat.le_of_ble_eq_true rfl) dX9_bestTick_51 ⟨Nat.zero_le _, Nat.zero_le _⟩ (fun H locs hP hD hS => ?_)
        refine lv_if_eq (tgt := 60) hx hb dX9_bestTick_54 (by decide) (fun c_11 => ?_) (fun c_11 => ?_)
        · have hF := zi_pos c_11 hF
          refine lv_iinc (v := v6 + 1) (lv' := [(6, .int (v6 + 1)), (0, .ref w_a), (1, .int v1), (2, .int v2), (3, .int v3), (4, .int v4), (5, .int v5)]) hx hb dX9_bestTick_60 hl (k := 6) rfl (by rfl) (by decide) rfl (fun ls hl => ?_)
          refine lv_goto (tgt := 25) hx hb dX9_bestTick_63 (by decide) ?_
          exact ih_25 w_size w_found w_periods w_starts v1 v2 v3 v4 v5 (v6 + 1) _ _ hF _ _ _ hP hD hS (lv_sub hl [1, 2, 3, 4, 5, 6, 0] rfl) hexit_25
        · have hF := zi_neg c_11 hF
          refine lv_iinc (v := v5 + 1) (lv' := [(5, .int (v5 + 1)), (0, .ref w_a), (1, .int v1), (2, .int v2), (3, .int v3), (4, .int v4), (6, .int v6)]) hx hb dX9_bestTick_57 hl (k := 5) rfl (by rfl) (by decide) rfl (fun ls hl => ?_)
          refine lv_iinc (v := v6 + 1) (lv' := [(6, .int (v6 + 1)), (5, .int (v5 + 1)), (0, .ref w_a), (1, .int v1), (2, .int v2), (3, .int v3), (4, .int v4)]) hx hb dX9_bestTick_60 hl (k := 6) rfl (by rfl) (by decide) rfl (fun ls hl => ?_)
          refine lv_goto (tgt := 25) hx hb dX9_bestTick_63 (by decide) ?_
          exact ih_25 w_size w_found w_periods w_starts v1 v2 v3 v4 (v5 + 1) (v6 + 1) _ _ hF _ _ _ hP hD hS (lv_sub hl [2, 3, 4, 5, 6, 1, 0] rfl) hexit_25
  have hloop_12 : ∀ (n : Nat) (w_size : Int32) (w_found : Int32) (w_periods : Nat → Int32) (w_starts : Nat → Int32) (v1 : Int32) (v2 : Int32) (v3 : Int32) (v4 : Int32) (v2' : Int32) (v3' : Int32) (v4' : Int32), L_X9_bestTick_12 w_found w_periods w_starts v1 n v2 v3 v4 = some (v2', v3', v4') → ∀ (H : Heap) (locs : List Loc) (ls : Array Slot), va_P D classes [(w_a, .inr (9, [.int w_size, .ref w_a_hangs, .ref w_a_ticksSeen, .ref w_a_ups, .int w_found, .ref w_a_periods, .ref w_a_starts])), (w_a_periods, .inl (cI, 132, .inl w_periods)), (w_a_starts, .inl (cI, 132, .inl w_starts))] H → va_D A [(w_a, .inr (9, [.int w_size, .ref w_a_hangs, .ref w_a_ticksSeen, .ref w_a_ups, .int w_found, .ref w_a_periods, .ref w_a_starts])), (w_a_periods, .inl (cI, 132, .inl w_periods)), (w_a_starts, .inl (cI, 132, .inl w_starts))] → va_S A s.heap H locs → lv_has ls 7 [(0, .ref w_a), (1, .int v1), (2, .int v2), (3, .int v3), (4, .int v4)] → (∀ (H : Heap) (locs : List Loc) (ls : Array Slot), va_P D classes [(w_a, .inr (9, [.int w_size, .ref w_a_hangs, .ref w_a_ticksSeen, .ref w_a_ups, .int w_found, .ref w_a_periods, .ref w_a_starts])), (w_a_periods, .inl (cI, 132, .inl w_periods)), (w_a_starts, .inl (cI, 132, .inl w_starts))] H → va_D A [(w_a, .inr (9, [.int w_size, .ref w_a_hangs, .ref w_a_ticksSeen, .ref w_a_ups, .int w_found, .ref w_a_periods, .ref w_a_starts])), (w_a_periods, .inl (cI, 132, .inl w_periods)), (w_a_starts, .inl (cI, 132, .inl w_starts))] → va_S A s.heap H locs → lv_has ls 7 [(0, .ref w_a), (1, .int v1), (2, .int v2'), (3, .int v3'), (4, .int v4')] → W p l e { frames := 1, cells := 0, slots := 0, locals := 23 } s m [.ref w_a, .int p1].toArray below meth c H locs 0 0 (zFi below [.ref w_a, .int p1] s A D (TYS cI cZ cS cJ) [(w_a, .inr (9, [.int w_size, .ref w_a_hangs, .ref w_a_ticksSeen, .ref w_a_ups, .int w_found, .ref w_a_periods, .ref w_a_starts])), (w_a_periods, .inl (cI, 132, .inl w_periods)), (w_a_starts, .inl (cI, 132, .inl w_starts))] r_o) (F0 m 98 ls [])) → W p l e { frames := 1, cells := 0, slots := 0, locals := 23 } s m [.ref w_a, .int p1].toArray below meth c H locs 0 0 (zFi below [.ref w_a, .int p1] s A D (TYS cI cZ cS cJ) [(w_a, .inr (9, [.int w_size, .ref w_a_hangs, .ref w_a_ticksSeen, .ref w_a_ups, .int w_found, .ref w_a_periods, .ref w_a_starts])), (w_a_periods, .inl (cI, 132, .inl w_periods)), (w_a_starts, .inl (cI, 132, .inl w_starts))] r_o) (F0 m 12 ls []) := by
    intro n
    induction n with
    | zero =>
      intro w_size w_found w_periods w_starts v1 v2 v3 v4 v2' v3' v4' hF
      rw [L_X9_bestTick_12_z] at hF
      cases hF
    | succ n ih_12 =>
      intro w_size w_found w_periods w_starts v1 v2 v3 v4 v2' v3' v4' hF H locs ls hP hD hS hl hexit_12
      rw [L_X9_bestTick_12_s] at hF
      refine lv_iload hx hb dX9_bestTick_12 (lv_at hl 4 rfl) ?_
      refine lv_bipush (v := 40) hx hb dX9_bestTick_14 (by decide) ?_
      refine lv_icmp_gt (tgt := 98) hx hb dX9_bestTick_16 (by decide) (fun c_16 => ?_) (fun c_16 => ?_)
      · have hF := zi_pos c_16 hF
        obtain ⟨e_0, e_1, e_2⟩ := zo3 hF
        subst e_0
        subst e_1
        subst e_2
        exact hexit_12 _ _ _ hP hD hS (lv_sub hl [0, 1, 2, 3, 4] rfl)
      · have hF := zi_neg c_16 hF
        refine lv_iconst (v := 0) hx hb dX9_bestTick_19 (by decide) ?_
        refine lv_istore (lv' := [(5, .int 0), (0, .ref w_a), (1, .int v1), (2, .int v2), (3, .int v3), (4, .int v4)]) hx hb dX9_bestTick_20 hl (by decide) rfl (fun ls hl => ?_)
        refine lv_iconst (v := 0) hx hb dX9_bestTick_22 (by decide) ?_
        refine lv_istore (lv' := [(6, .int 0), (5, .int 0), (0, .ref w_a), (1, .int v1), (2, .int v2), (3, .int v3), (4, .int v4)]) hx hb dX9_bestTick_23 hl (by decide) rfl (fun ls hl => ?_)
        obtain ⟨v5_17, v6_18, hL_19, hF⟩ := zb2_s hF
        refine hloop_25 300 w_size w_found w_periods w_starts v1 v2 v3 v4 0 0 v5_17 v6_18 hL_19 _ _ _ hP hD hS (lv_sub hl [2, 3, 4, 5, 6, 1, 0] rfl) (fun H locs ls hP hD hS hl => ?_)
        refine lv_iload hx hb dX9_bestTick_66 (lv_at hl 5 rfl) ?_
        refine lv_aload_n hx hb dX9_bestTick_68 rfl (lv_at hl 0 rfl) ?_
        refine va_get (D := D) (ci := 9) (v := .int w_found) (C := RX9) (T := TX9) (N := 7) hx hb ht iyX9 hown hK hP 0 rfl rfl 4 (by decide) (ht _ wf_X9_32) (fun _ h9 => h9) rfl dX9_bestTick_69 ?_
        refine lv_iload hx hb dX9_bestTick_72 (lv_at hl 5 rfl) ?_
        refine lv_isub hx hb dX9_bestTick_74 ?_
        refine va_mmax hx hb (hml.trans hl.1.symm) hown (ht _ wm_X9_43) (ht _ ws_J9_max_7cf53) (ht _ wi_J9) (ht _ wd_J9_max_7cf53) (Nat.le_of_ble_eq_true rfl) (Nat.le_of_ble_eq_true rfl) (Nat.zero_le _) (Nat.zero_le _) dX9_bestTick_75 ?_
        refine lv_istore (lv' := [(6, .int (if v5_17 < (w_found - v5_17) then (w_found - v5_17) else v5_17)), (0, .ref w_a), (1, .int v1), (2, .int v2), (3, .int v3), (4, .int v4), (5, .int v5_17)]) hx hb dX9_bestTick_78 hl (by decide) rfl (fun ls hl => ?_)
        refine lv_iload hx hb dX9_bestTick_80 (lv_at hl 0 rfl) ?_
        refine lv_iload_n hx hb dX9_bestTick_82 rfl (lv_at hl 4 rfl) ?_
        refine lv_icmp_ge (tgt := 92) hx hb dX9_bestTick_83 (by decide) (fun c_20 => ?_) (fun c_20 => ?_)
        · have hF := zi_pos c_20 hF
          refine lv_iinc (v := v4 + 1) (lv' := [(4, .int (v4 + 1)), (6, .int (if v5_17 < (w_found - v5_17) then (w_found - v5_17) else v5_17)), (0, .ref w_a), (1, .int v1), (2, .int v2), (3, .int v3), (5, .int v5_17)]) hx hb dX9_bestTick_92 hl (k := 5) rfl (by rfl) (by decide) rfl (fun ls hl => ?_)
          refine lv_goto (tgt := 12) hx hb dX9_bestTick_95 (by decide) ?_
          exact ih_12 w_size w_found w_periods w_starts v1 v2 v3 (v4 + 1) _ _ _ hF _ _ _ hP hD hS (lv_sub hl [2, 3, 4, 5, 0] rfl) hexit_12
        · have hF := zi_neg c_20 hF
          refine lv_iload hx hb dX9_bestTick_86 (lv_at hl 0 rfl) ?_
          refine lv_istore_n (lv' := [(3, .int (if v5_17 < (w_found - v5_17) then (w_found - v5_17) else v5_17)), (6, .int (if v5_17 < (w_found - v5_17) then (w_found - v5_17) else v5_17)), (0, .ref w_a), (1, .int v1), (2, .int v2), (4, .int v4), (5, .int v5_17)]) hx hb dX9_bestTick_88 rfl hl (by decide) rfl (fun ls hl => ?_)
          refine lv_iload hx hb dX9_bestTick_89 (lv_at hl 5 rfl) ?_
          refine lv_istore_n (lv' := [(2, .int v4), (3, .int (if v5_17 < (w_found - v5_17) then (w_found - v5_17) else v5_17)), (6, .int (if v5_17 < (w_found - v5_17) then (w_found - v5_17) else v5_17)), (0, .ref w_a), (1, .int v1), (4, .int v4), (5, .int v5_17)]) hx hb dX9_bestTick_91 rfl hl (by decide) rfl (fun ls hl => ?_)
          refine lv_iinc (v := v4 + 1) (lv' := [(4, .int (v4 + 1)), (2, .int v4), (3, .int (if v5_17 < (w_found - v5_17) then (w_found - v5_17) else v5_17)), (6, .int (if v5_17 < (w_found - v5_17) then (w_found - v5_17) else v5_17)), (0, .ref w_a), (1, .int v1), (5, .int v5_17)]) hx hb dX9_bestTick_92 hl (k := 5) rfl (by rfl) (by decide) rfl (fun ls hl => ?_)
          refine lv_goto (tgt := 12) hx hb dX9_bestTick_95 (by decide) ?_
          exact ih_12 w_size w_found w_periods w_starts v1 v4 (if v5_17 < (w_found - v5_17) then (w_found - v5_17) else v5_17) (v4 + 1) _ _ _ hF _ _ _ hP hD hS (lv_sub hl [4, 5, 1, 2, 0] rfl) hexit_12
  refine lv_iconst (v := 0) hx hb dX9_bestTick_0 (by decide) ?_
  refine lv_istore_n (lv' := [(2, .int 0), (0, .ref w_a), (1, .int p1)]) hx hb dX9_bestTick_1 rfl hl (by decide) rfl (fun ls hl => ?_)
  refine lv_aload_n hx hb dX9_bestTick_2 rfl (lv_at hl 1 rfl) ?_
  refine va_get (D := D) (ci := 9) (v := .int w_found) (C := RX9) (T := TX9) (N := 7) hx hb ht iyX9 hown hK hP 0 rfl rfl 4 (by decide) (ht _ wf_X9_32) (fun _ h9 => h9) rfl dX9_bestTick_3 ?_
  refine lv_iconst (v := 1) hx hb dX9_bestTick_6 (by decide) ?_
  refine lv_iadd hx hb dX9_bestTick_7 ?_
  refine lv_istore_n (lv' := [(3, .int (w_found + 1)), (2, .int 0), (0, .ref w_a), (1, .int p1)]) hx hb dX9_bestTick_8 rfl hl (by decide) rfl (fun ls hl => ?_)
  refine lv_iconst (v := 0) hx hb dX9_bestTick_9 (by decide) ?_
  refine lv_istore (lv' := [(4, .int 0), (3, .int (w_found + 1)), (2, .int 0), (0, .ref w_a), (1, .int p1)]) hx hb dX9_bestTick_10 hl (by decide) rfl (fun ls hl => ?_)
  obtain ⟨v2_21, v3_22, v4_23, hL_24, hF⟩ := zb3_s hF
  refine hloop_12 300 w_size w_found w_periods w_starts p1 0 (w_found + 1) 0 v2_21 v3_22 v4_23 hL_24 _ _ _ hP hD hS (lv_sub hl [3, 4, 2, 1, 0] rfl) (fun H locs ls hP hD hS hl => ?_)
  refine lv_iload_n hx hb dX9_bestTick_98 rfl (lv_at hl 2 rfl) ?_
  have e_0 := zo1 hF
  subst e_0
  exact zret_i S hr hlocks hK hP hD hS dX9_bestTick_99
