def F_X12_in (p0 : Int32) (p1 : Int32) (p2 : Int32) : Option (Int32) :=
  (if p0 < p1 then some (0) else (if p2 < p0 then some (0) else some (1)))
set_option maxHeartbeats 4000000 in
set_option maxRecDepth 100000 in
theorem c_X12_in (l : Launch) (D : va_G) (cI cZ cS cJ : ClassId) (p0 : Int32) (p1 : Int32) (p2 : Int32) {r_o : Int32} (hF : F_X12_in p0 p1 p2 = some (r_o)) : zMi l yX12_in (zwl yX12_in cX12_in 3 (some .boolean)) { frames := 0, cells := 0, slots := 0, locals := 0 } D (TYS cI cZ cS cJ) [.int p0, .int p1, .int p2] [] [] r_o := by
  refine zent_i (own := RX12) (by decide) rfl (Nat.le_of_ble_eq_true rfl) ?_
  intro p e s m below meth c A ls S hr hlocks hK hP hD hA hl
  have hx := S.1
  have hb := S.2.1
  have hml := S.2.2.1
  have hown := S.2.2.2.1
  have hT : ∀ w ∈ zt, w ∈ zwl yX12_in cX12_in 3 (some .boolean) := fun _ h => List.mem_cons_of_mem _ h
  have ht : ∀ w ∈ zt, w.before [.int p0, .int p1, .int p2].toArray s = true := fun w h => S.2.2.2.2 w (hT w h)
  have hl : lv_has ls 3 [(0, .int p0), (1, .int p1), (2, .int p2)] := hl
  have hS : va_S A s.heap s.heap [] := va_S.rf
  unfold F_X12_in at hF
  refine lv_iload_n hx hb dX12_in_0 rfl (lv_at hl 0 rfl) ?_
  refine lv_iload_n hx hb dX12_in_1 rfl (lv_at hl 1 rfl) ?_
  refine lv_icmp_lt (tgt := 14) hx hb dX12_in_2 (by decide) (fun c_1 => ?_) (fun c_1 => ?_)
  · have hF := zi_pos c_1 hF
    refine lv_iconst (v := 0) hx hb dX12_in_14 (by decide) ?_
    have e_0 := zo1 hF
    subst e_0
    exact zret_z (by decide) S hr hlocks hK hP hD hS dX12_in_15
  · have hF := zi_neg c_1 hF
    refine lv_iload_n hx hb dX12_in_5 rfl (lv_at hl 0 rfl) ?_
    refine lv_iload_n hx hb dX12_in_6 rfl (lv_at hl 2 rfl) ?_
    refine lv_icmp_gt (tgt := 14) hx hb dX12_in_7 (by decide) (fun c_2 => ?_) (fun c_2 => ?_)
    · have hF := zi_pos c_2 hF
      refine lv_iconst (v := 0) hx hb dX12_in_14 (by decide) ?_
      have e_0 := zo1 hF
      subst e_0
      exact zret_z (by decide) S hr hlocks hK hP hD hS dX12_in_15
    · have hF := zi_neg c_2 hF
      refine lv_iconst (v := 1) hx hb dX12_in_10 (by decide) ?_
      refine lv_goto (tgt := 15) hx hb dX12_in_11 (by decide) ?_
      have e_0 := zo1 hF
      subst e_0
      exact zret_z (by decide) S hr hlocks hK hP hD hS dX12_in_15

def F_X12_has (p0 : Int32) (p1 : Int32) : Option (Int32) :=
  (if ((p0 >>> (p1 &&& 31)) &&& 1) = 1 then some (1) else some (0))
set_option maxHeartbeats 4000000 in
set_option maxRecDepth 100000 in
theorem c_X12_has (l : Launch) (D : va_G) (cI cZ cS cJ : ClassId) (p0 : Int32) (p1 : Int32) {r_o : Int32} (hF : F_X12_has p0 p1 = some (r_o)) : zMi l yX12_has (zwl yX12_has cX12_has 2 (some .boolean)) { frames := 0, cells := 0, slots := 0, locals := 0 } D (TYS cI cZ cS cJ) [.int p0, .int p1] [] [] r_o := by
  refine zent_i (own := RX12) (by decide) rfl (Nat.le_of_ble_eq_true rfl) ?_
  intro p e s m below meth c A ls S hr hlocks hK hP hD hA hl
  have hx := S.1
  have hb := S.2.1
  have hml := S.2.2.1
  have hown := S.2.2.2.1
  have hT : ∀ w ∈ zt, w ∈ zwl yX12_has cX12_has 2 (some .boolean) := fun _ h => List.mem_cons_of_mem _ h
  have ht : ∀ w ∈ zt, w.before [.int p0, .int p1].toArray s = true := fun w h => S.2.2.2.2 w (hT w h)
  have hl : lv_has ls 2 [(0, .int p0), (1, .int p1)] := hl
  have hS : va_S A s.heap s.heap [] := va_S.rf
  unfold F_X12_has at hF
  refine lv_iload_n hx hb dX12_has_0 rfl (lv_at hl 0 rfl) ?_
  refine lv_iload_n hx hb dX12_has_1 rfl (lv_at hl 1 rfl) ?_
  refine lv_ishr hx hb dX12_has_2 ?_
  refine lv_iconst (v := 1) hx hb dX12_has_3 (by decide) ?_
  refine lv_iand hx hb dX12_has_4 ?_
  refine lv_iconst (v := 1) hx hb dX12_has_5 (by decide) ?_
  refine lv_icmp_ne (tgt := 13) hx hb dX12_has_6 (by decide) (fun c_1 => ?_) (fun c_1 => ?_)
  · have hF := zi_neg c_1 hF
    refine lv_iconst (v := 0) hx hb dX12_has_13 (by decide) ?_
    have e_0 := zo1 hF
    subst e_0
    exact zret_z (by decide) S hr hlocks hK hP hD hS dX12_has_14
  · have hF := zi_pos c_1 hF
    refine lv_iconst (v := 1) hx hb dX12_has_9 (by decide) ?_
    refine lv_goto (tgt := 14) hx hb dX12_has_10 (by decide) ?_
    have e_0 := zo1 hF
    subst e_0
    exact zret_z (by decide) S hr hlocks hK hP hD hS dX12_has_14

def L_X12_bits_4 (v0 : Int32) : Nat → Int32 → Int32 → Option (Int32 × Int32)
  | 0 => fun _ _ => none
  | n + 1 => fun v1 v2 => (if 6 ≤ v2 then some (v1, v2) else (L_X12_bits_4 v0 n (v1 + ((v0 >>> (v2 &&& 31)) &&& 1)) (v2 + 1)))
theorem L_X12_bits_4_z (v0 : Int32) (v1 : Int32) (v2 : Int32) : L_X12_bits_4 v0 0 v1 v2 = none := rfl
theorem L_X12_bits_4_s (v0 : Int32) (n : Nat) (v1 : Int32) (v2 : Int32) : L_X12_bits_4 v0 (n + 1) v1 v2 = (if 6 ≤ v2 then some (v1, v2) else (L_X12_bits_4 v0 n (v1 + ((v0 >>> (v2 &&& 31)) &&& 1)) (v2 + 1))) := rfl
def F_X12_bits (p0 : Int32) : Option (Int32) :=
  (zb2 (L_X12_bits_4 p0 300 0 0) (fun v1_3 v2_4 => some (v1_3)))
set_option maxHeartbeats 4000000 in
set_option maxRecDepth 100000 in
theorem c_X12_bits (l : Launch) (D : va_G) (cI cZ cS cJ : ClassId) (p0 : Int32) {r_o : Int32} (hF : F_X12_bits p0 = some (r_o)) : zMi l yX12_bits (zwl yX12_bits cX12_bits 3 (some .int)) { frames := 0, cells := 0, slots := 0, locals := 0 } D (TYS cI cZ cS cJ) [.int p0] [] [] r_o := by
  refine zent_i (own := RX12) (by decide) rfl (Nat.le_of_ble_eq_true rfl) ?_
  intro p e s m below meth c A ls S hr hlocks hK hP hD hA hl
  have hx := S.1
  have hb := S.2.1
  have hml := S.2.2.1
  have hown := S.2.2.2.1
  have hT : ∀ w ∈ zt, w ∈ zwl yX12_bits cX12_bits 3 (some .int) := fun _ h => List.mem_cons_of_mem _ h
  have ht : ∀ w ∈ zt, w.before [.int p0].toArray s = true := fun w h => S.2.2.2.2 w (hT w h)
  have hl : lv_has ls 3 [(0, .int p0)] := hl
  have hS : va_S A s.heap s.heap [] := va_S.rf
  unfold F_X12_bits at hF
  have hloop_4 : ∀ (n : Nat) (v0 : Int32) (v1 : Int32) (v2 : Int32) (v1' : Int32) (v2' : Int32), L_X12_bits_4 v0 n v1 v2 = some (v1', v2') → ∀ (H : Heap) (locs : List Loc) (ls : Array Slot), va_P D classes [] H → va_D A [] → va_S A s.heap H locs → lv_has ls 3 [(0, .int v0), (1, .int v1), (2, .int v2)] → (∀ (H : Heap) (locs : List Loc) (ls : Array Slot), va_P D classes [] H → va_D A [] → va_S A s.heap H locs → lv_has ls 3 [(0, .int v0), (1, .int v1'), (2, .int v2')] → W p l e { frames := 0, cells := 0, slots := 0, locals := 0 } s m [.int p0].toArray below meth c H locs 0 0 (zFi below [.int p0] s A D (TYS cI cZ cS cJ) [] r_o) (F0 m 24 ls [])) → W p l e { frames := 0, cells := 0, slots := 0, locals := 0 } s m [.int p0].toArray below meth c H locs 0 0 (zFi below [.int p0] s A D (TYS cI cZ cS cJ) [] r_o) (F0 m 4 ls []) := by
    intro n
    induction n with
    | zero =>
      intro v0 v1 v2 v1' v2' hF
      rw [L_X12_bits_4_z] at hF
      cases hF
    | succ n ih_4 =>
      intro v0 v1 v2 v1' v2' hF H locs ls hP hD hS hl hexit_4
      rw [L_X12_bits_4_s] at hF
      refine lv_iload_n hx hb dX12_bits_4 rfl (lv_at hl 2 rfl) ?_
      refine lv_bipush (v := 6) hx hb dX12_bits_5 (by decide) ?_
      refine lv_icmp_ge (tgt := 24) hx hb dX12_bits_7 (by decide) (fun c_2 => ?_) (fun c_2 => ?_)
      · have hF := zi_pos c_2 hF
        obtain ⟨e_0, e_1⟩ := zo2 hF
        subst e_0
        subst e_1
        exact hexit_4 _ _ _ hP hD hS (lv_sub hl [0, 1, 2] rfl)
      · have hF := zi_neg c_2 hF
        refine lv_iload_n hx hb dX12_bits_10 rfl (lv_at hl 1 rfl) ?_
        refine lv_iload_n hx hb dX12_bits_11 rfl (lv_at hl 0 rfl) ?_
        refine lv_iload_n hx hb dX12_bits_12 rfl (lv_at hl 2 rfl) ?_
        refine lv_ishr hx hb dX12_bits_13 ?_
        refine lv_iconst (v := 1) hx hb dX12_bits_14 (by decide) ?_
        refine lv_iand hx hb dX12_bits_15 ?_
        refine lv_iadd hx hb dX12_bits_16 ?_
        refine lv_istore_n (lv' := [(1, .int (v1 + ((v0 >>> (v2 &&& 31)) &&& 1))), (0, .int v0), (2, .int v2)]) hx hb dX12_bits_17 rfl hl (by decide) rfl (fun ls hl => ?_)
        refine lv_iinc (v := v2 + 1) (lv' := [(2, .int (v2 + 1)), (1, .int (v1 + ((v0 >>> (v2 &&& 31)) &&& 1))), (0, .int v0)]) hx hb dX12_bits_18 hl (k := 2) rfl (by rfl) (by decide) rfl (fun ls hl => ?_)
        refine lv_goto (tgt := 4) hx hb dX12_bits_21 (by decide) ?_
        exact ih_4 v0 (v1 + ((v0 >>> (v2 &&& 31)) &&& 1)) (v2 + 1) _ _ hF _ _ _ hP hD hS (lv_sub hl [2, 1, 0] rfl) hexit_4
  refine lv_iconst (v := 0) hx hb dX12_bits_0 (by decide) ?_
  refine lv_istore_n (lv' := [(1, .int 0), (0, .int p0)]) hx hb dX12_bits_1 rfl hl (by decide) rfl (fun ls hl => ?_)
  refine lv_iconst (v := 0) hx hb dX12_bits_2 (by decide) ?_
  refine lv_istore_n (lv' := [(2, .int 0), (1, .int 0), (0, .int p0)]) hx hb dX12_bits_3 rfl hl (by decide) rfl (fun ls hl => ?_)
  obtain ⟨v1_3, v2_4, hL_5, hF⟩ := zb2_s hF
  refine hloop_4 300 p0 0 0 v1_3 v2_4 hL_5 _ _ _ hP hD hS (lv_sub hl [2, 1, 0] rfl) (fun H locs ls hP hD hS hl => ?_)
  refine lv_iload_n hx hb dX12_bits_24 rfl (lv_at hl 1 rfl) ?_
  have e_0 := zo1 hF
  subst e_0
  exact zret_i S hr hlocks hK hP hD hS dX12_bits_25

theorem lk_X12_51 : zLs RX12 51 yX12_in cX12_in 3 (some .boolean) 3 := ⟨⟨wm_X12_51, ws_X12_in, wi_X12, wd_X12_in⟩, by decide, by decide, by decide +kernel⟩
def F_X12_isFigure (p0 : Int32) : Option (Int32) :=
  (zb1 (F_X12_in p0 48 57) (fun r_1 => (if ¬ (r_1 = 0 ∨ r_1 = 1) then none else some (r_1))))
set_option maxHeartbeats 4000000 in
set_option maxRecDepth 100000 in
theorem c_X12_isFigure (l : Launch) (D : va_G) (cI cZ cS cJ : ClassId) (p0 : Int32) {r_o : Int32} (hF : F_X12_isFigure p0 = some (r_o)) : zMi l yX12_isFigure (zwl yX12_isFigure cX12_isFigure 1 (some .boolean)) { frames := 1, cells := 0, slots := 0, locals := 22 } D (TYS cI cZ cS cJ) [.int p0] [] [] r_o := by
  refine zent_i (own := RX12) (by decide) rfl (Nat.le_of_ble_eq_true rfl) ?_
  intro p e s m below meth c A ls S hr hlocks hK hP hD hA hl
  have hx := S.1
  have hb := S.2.1
  have hml := S.2.2.1
  have hown := S.2.2.2.1
  have hT : ∀ w ∈ zt, w ∈ zwl yX12_isFigure cX12_isFigure 1 (some .boolean) := fun _ h => List.mem_cons_of_mem _ h
  have ht : ∀ w ∈ zt, w.before [.int p0].toArray s = true := fun w h => S.2.2.2.2 w (hT w h)
  have hl : lv_has ls 1 [(0, .int p0)] := hl
  have hS : va_S A s.heap s.heap [] := va_S.rf
  unfold F_X12_isFigure at hF
  refine lv_iload_n hx hb dX12_isFigure_0 rfl (lv_at hl 0 rfl) ?_
  refine lv_bipush (v := 48) hx hb dX12_isFigure_1 (by decide) ?_
  refine lv_bipush (v := 57) hx hb dX12_isFigure_3 (by decide) ?_
  obtain ⟨r_1, hc_2, hF⟩ := zb1_s hF
  refine zcs_i (ws1 := []) S hT lk_X12_51 (c_X12_in l D cI cZ cS cJ p0 48 57 hc_2) ⟨rfl, rfl, Nat.le_of_ble_eq_true rfl, Nat.le_of_ble_eq_true rfl⟩ hK hP hD hS hA [] [] [] rfl rfl rfl rfl rfl rfl rfl rfl hl.1 rfl (Nat.le_of_ble_eq_true rfl) dX12_isFigure_5 ⟨Nat.zero_le _, Nat.zero_le _⟩ (fun H locs hP hD hS => ?_)
  obtain ⟨h_3, hF⟩ := zi_chk hF
  have e_0 := zo1 hF
  subst e_0
  exact zret_z (Decidable.not_not.mp h_3) S hr hlocks hK hP hD hS dX12_isFigure_8

def L_X12_divisor_4 : Nat → Int32 → Int32 → Option (Int32 × Int32)
  | 0 => fun _ _ => none
  | n + 1 => fun v2 v3 => (if v3 ≤ 0 then some (v2, v3) else (if v3 = 0 then none else (L_X12_divisor_4 n v3 (v2 - v2 / v3 * v3))))
theorem L_X12_divisor_4_z (v2 : Int32) (v3 : Int32) : L_X12_divisor_4 0 v2 v3 = none := rfl
theorem L_X12_divisor_4_s (n : Nat) (v2 : Int32) (v3 : Int32) : L_X12_divisor_4 (n + 1) v2 v3 = (if v3 ≤ 0 then some (v2, v3) else (if v3 = 0 then none else (L_X12_divisor_4 n v3 (v2 - v2 / v3 * v3)))) := rfl
def F_X12_divisor (p0 : Int32) (p1 : Int32) : Option (Int32) :=
  (zb2 (L_X12_divisor_4 300 p0 p1) (fun v2_5 v3_6 => some (v2_5)))
set_option maxHeartbeats 4000000 in
set_option maxRecDepth 100000 in
theorem c_X12_divisor (l : Launch) (D : va_G) (cI cZ cS cJ : ClassId) (p0 : Int32) (p1 : Int32) {r_o : Int32} (hF : F_X12_divisor p0 p1 = some (r_o)) : zMi l yX12_divisor (zwl yX12_divisor cX12_divisor 5 (some .int)) { frames := 0, cells := 0, slots := 0, locals := 0 } D (TYS cI cZ cS cJ) [.int p0, .int p1] [] [] r_o := by
  refine zent_i (own := RX12) (by decide) rfl (Nat.le_of_ble_eq_true rfl) ?_
  intro p e s m below meth c A ls S hr hlocks hK hP hD hA hl
  have hx := S.1
  have hb := S.2.1
  have hml := S.2.2.1
  have hown := S.2.2.2.1
  have hT : ∀ w ∈ zt, w ∈ zwl yX12_divisor cX12_divisor 5 (some .int) := fun _ h => List.mem_cons_of_mem _ h
  have ht : ∀ w ∈ zt, w.before [.int p0, .int p1].toArray s = true := fun w h => S.2.2.2.2 w (hT w h)
  have hl : lv_has ls 5 [(0, .int p0), (1, .int p1)] := hl
  have hS : va_S A s.heap s.heap [] := va_S.rf
  unfold F_X12_divisor at hF
  have hloop_4 : ∀ (n : Nat) (v0 : Int32) (v1 : Int32) (v2 : Int32) (v3 : Int32) (v2' : Int32) (v3' : Int32), L_X12_divisor_4 n v2 v3 = some (v2', v3') → ∀ (H : Heap) (locs : List Loc) (ls : Array Slot), va_P D classes [] H → va_D A [] → va_S A s.heap H locs → lv_has ls 5 [(0, .int v0), (1, .int v1), (2, .int v2), (3, .int v3)] → (∀ (H : Heap) (locs : List Loc) (ls : Array Slot), va_P D classes [] H → va_D A [] → va_S A s.heap H locs → lv_has ls 5 [(0, .int v0), (1, .int v1), (2, .int v2'), (3, .int v3')] → W p l e { frames := 0, cells := 0, slots := 0, locals := 0 } s m [.int p0, .int p1].toArray below meth c H locs 0 0 (zFi below [.int p0, .int p1] s A D (TYS cI cZ cS cJ) [] r_o) (F0 m 21 ls [])) → W p l e { frames := 0, cells := 0, slots := 0, locals := 0 } s m [.int p0, .int p1].toArray below meth c H locs 0 0 (zFi below [.int p0, .int p1] s A D (TYS cI cZ cS cJ) [] r_o) (F0 m 4 ls []) := by
    intro n
    induction n with
    | zero =>
      intro v0 v1 v2 v3 v2' v3' hF
      rw [L_X12_divisor_4_z] at hF
      cases hF
    | succ n ih_4 =>
      intro v0 v1 v2 v3 v2' v3' hF H locs ls hP hD hS hl hexit_4
      rw [L_X12_divisor_4_s] at hF
      refine lv_iload_n hx hb dX12_divisor_4 rfl (lv_at hl 3 rfl) ?_
      refine lv_if_le (tgt := 21) hx hb dX12_divisor_5 (by decide) (fun c_3 => ?_) (fun c_3 => ?_)
      · have hF := zi_pos c_3 hF
        obtain ⟨e_0, e_1⟩ := zo2 hF
        subst e_0
        subst e_1
        exact hexit_4 _ _ _ hP hD hS (lv_sub hl [0, 1, 2, 3] rfl)
      · have hF := zi_neg c_3 hF
        refine lv_iload_n hx hb dX12_divisor_8 rfl (lv_at hl 2 rfl) ?_
        refine lv_iload_n hx hb dX12_divisor_9 rfl (lv_at hl 3 rfl) ?_
        obtain ⟨h_4, hF⟩ := zi_chk hF
        refine lv_irem hx hb dX12_divisor_10 h_4 ?_
        refine lv_istore (lv' := [(4, .int (v2 - v2 / v3 * v3)), (0, .int v0), (1, .int v1), (2, .int v2), (3, .int v3)]) hx hb dX12_divisor_11 hl (by decide) rfl (fun ls hl => ?_)
        refine lv_iload_n hx hb dX12_divisor_13 rfl (lv_at hl 4 rfl) ?_
        refine lv_istore_n (lv' := [(2, .int v3), (4, .int (v2 - v2 / v3 * v3)), (0, .int v0), (1, .int v1), (3, .int v3)]) hx hb dX12_divisor_14 rfl hl (by decide) rfl (fun ls hl => ?_)
        refine lv_iload hx hb dX12_divisor_15 (lv_at hl 1 rfl) ?_
        refine lv_istore_n (lv' := [(3, .int (v2 - v2 / v3 * v3)), (2, .int v3), (4, .int (v2 - v2 / v3 * v3)), (0, .int v0), (1, .int v1)]) hx hb dX12_divisor_17 rfl hl (by decide) rfl (fun ls hl => ?_)
        refine lv_goto (tgt := 4) hx hb dX12_divisor_18 (by decide) ?_
        exact ih_4 v0 v1 v3 (v2 - v2 / v3 * v3) _ _ hF _ _ _ hP hD hS (lv_sub hl [3, 4, 1, 0] rfl) hexit_4
  refine lv_iload_n hx hb dX12_divisor_0 rfl (lv_at hl 0 rfl) ?_
  refine lv_istore_n (lv' := [(2, .int p0), (0, .int p0), (1, .int p1)]) hx hb dX12_divisor_1 rfl hl (by decide) rfl (fun ls hl => ?_)
  refine lv_iload_n hx hb dX12_divisor_2 rfl (lv_at hl 2 rfl) ?_
  refine lv_istore_n (lv' := [(3, .int p1), (2, .int p0), (0, .int p0), (1, .int p1)]) hx hb dX12_divisor_3 rfl hl (by decide) rfl (fun ls hl => ?_)
  obtain ⟨v2_5, v3_6, hL_7, hF⟩ := zb2_s hF
  refine hloop_4 300 p0 p1 p0 p1 v2_5 v3_6 hL_7 _ _ _ hP hD hS (lv_sub hl [2, 3, 1, 0] rfl) (fun H locs ls hP hD hS hl => ?_)
  refine lv_iload_n hx hb dX12_divisor_21 rfl (lv_at hl 2 rfl) ?_
  have e_0 := zo1 hF
  subst e_0
  exact zret_i S hr hlocks hK hP hD hS dX12_divisor_22

def F_X12_isUp (p0 : Int32) (p1 : Int32) (p2 : Int32) (p3 : Int32) : Option (Int32) :=
  (if p3 < p1 then some (0) else (if p0 = 0 then none else (if p2 ≤ ((p3 - p1) - (p3 - p1) / p0 * p0) then some (0) else some (1))))
set_option maxHeartbeats 4000000 in
set_option maxRecDepth 100000 in
theorem c_X12_isUp (l : Launch) (D : va_G) (cI cZ cS cJ : ClassId) (p0 : Int32) (p1 : Int32) (p2 : Int32) (p3 : Int32) {r_o : Int32} (hF : F_X12_isUp p0 p1 p2 p3 = some (r_o)) : zMi l yX12_isUp (zwl yX12_isUp cX12_isUp 4 (some .boolean)) { frames := 0, cells := 0, slots := 0, locals := 0 } D (TYS cI cZ cS cJ) [.int p0, .int p1, .int p2, .int p3] [] [] r_o := by
  refine zent_i (own := RX12) (by decide) rfl (Nat.le_of_ble_eq_true rfl) ?_
  intro p e s m below meth c A ls S hr hlocks hK hP hD hA hl
  have hx := S.1
  have hb := S.2.1
  have hml := S.2.2.1
  have hown := S.2.2.2.1
  have hT : ∀ w ∈ zt, w ∈ zwl yX12_isUp cX12_isUp 4 (some .boolean) := fun _ h => List.mem_cons_of_mem _ h
  have ht : ∀ w ∈ zt, w.before [.int p0, .int p1, .int p2, .int p3].toArray s = true := fun w h => S.2.2.2.2 w (hT w h)
  have hl : lv_has ls 4 [(0, .int p0), (1, .int p1), (2, .int p2), (3, .int p3)] := hl
  have hS : va_S A s.heap s.heap [] := va_S.rf
  unfold F_X12_isUp at hF
  refine lv_iload_n hx hb dX12_isUp_0 rfl (lv_at hl 3 rfl) ?_
  refine lv_iload_n hx hb dX12_isUp_1 rfl (lv_at hl 1 rfl) ?_
  refine lv_icmp_lt (tgt := 18) hx hb dX12_isUp_2 (by decide) (fun c_1 => ?_) (fun c_1 => ?_)
  · have hF := zi_pos c_1 hF
    refine lv_iconst (v := 0) hx hb dX12_isUp_18 (by decide) ?_
    have e_0 := zo1 hF
    subst e_0
    exact zret_z (by decide) S hr hlocks hK hP hD hS dX12_isUp_19
  · have hF := zi_neg c_1 hF
    refine lv_iload_n hx hb dX12_isUp_5 rfl (lv_at hl 3 rfl) ?_
    refine lv_iload_n hx hb dX12_isUp_6 rfl (lv_at hl 1 rfl) ?_
    refine lv_isub hx hb dX12_isUp_7 ?_
    refine lv_iload_n hx hb dX12_isUp_8 rfl (lv_at hl 0 rfl) ?_
    obtain ⟨h_2, hF⟩ := zi_chk hF
    refine lv_irem hx hb dX12_isUp_9 h_2 ?_
    refine lv_iload_n hx hb dX12_isUp_10 rfl (lv_at hl 2 rfl) ?_
    refine lv_icmp_ge (tgt := 18) hx hb dX12_isUp_11 (by decide) (fun c_3 => ?_) (fun c_3 => ?_)
    · have hF := zi_pos c_3 hF
      refine lv_iconst (v := 0) hx hb dX12_isUp_18 (by decide) ?_
      have e_0 := zo1 hF
      subst e_0
      exact zret_z (by decide) S hr hlocks hK hP hD hS dX12_isUp_19
    · have hF := zi_neg c_3 hF
      refine lv_iconst (v := 1) hx hb dX12_isUp_14 (by decide) ?_
      refine lv_goto (tgt := 19) hx hb dX12_isUp_15 (by decide) ?_
      have e_0 := zo1 hF
      subst e_0
      exact zret_z (by decide) S hr hlocks hK hP hD hS dX12_isUp_19

def L_X12_bring_3 (fn : Nat) (f : Nat → Int32) (tn : Nat) (v1 : Int32) (v3 : Int32) (v4 : Int32) : Nat → (Nat → Int32) → Int32 → Option ((Nat → Int32) × Int32)
  | 0 => fun _ _ => none
  | n + 1 => fun t v5 => (if v4 ≤ v5 then some (t, v5) else (if ((v1 + v5) < 0 ∨ fn ≤ (v1 + v5).toNatClampNeg) then none else (if ((v3 + v5) < 0 ∨ tn ≤ (v3 + v5).toNatClampNeg) then none else (L_X12_bring_3 fn f tn v1 v3 v4 n (upd t (v3 + v5).toNatClampNeg (f (v1 + v5).toNatClampNeg)) (v5 + 1)))))
theorem L_X12_bring_3_z (fn : Nat) (f : Nat → Int32) (tn : Nat) (v1 : Int32) (v3 : Int32) (v4 : Int32) (t : Nat → Int32) (v5 : Int32) : L_X12_bring_3 fn f tn v1 v3 v4 0 t v5 = none := rfl
theorem L_X12_bring_3_s (fn : Nat) (f : Nat → Int32) (tn : Nat) (v1 : Int32) (v3 : Int32) (v4 : Int32) (n : Nat) (t : Nat → Int32) (v5 : Int32) : L_X12_bring_3 fn f tn v1 v3 v4 (n + 1) t v5 = (if v4 ≤ v5 then some (t, v5) else (if ((v1 + v5) < 0 ∨ fn ≤ (v1 + v5).toNatClampNeg) then none else (if ((v3 + v5) < 0 ∨ tn ≤ (v3 + v5).toNatClampNeg) then none else (L_X12_bring_3 fn f tn v1 v3 v4 n (upd t (v3 + v5).toNatClampNeg (f (v1 + v5).toNatClampNeg)) (v5 + 1))))) := rfl
def F_X12_bring (fn : Nat) (f : Nat → Int32) (tn : Nat) (t : Nat → Int32) (p1 : Int32) (p3 : Int32) (p4 : Int32) : Option ((Nat → Int32)) :=
  (zb2 (L_X12_bring_3 fn f tn p1 p3 p4 300 t 0) (fun t_7 v5_8 => some (t_7)))
set_option maxHeartbeats 4000000 in
set_option maxRecDepth 100000 in
theorem c_X12_bring (l : Launch) (D : va_G) (cI cZ cS cJ : ClassId) (fa : Nat) (ta : Nat) (fn : Nat) (f : Nat → Int32) (tn : Nat) (t : Nat → Int32) (p1 : Int32) (p3 : Int32) (p4 : Int32) {t_o : Nat → Int32} (hF : F_X12_bring fn f tn t p1 p3 p4 = some (t_o)) : zMv l yX12_bring (zwl yX12_bring cX12_bring 6 none) { frames := 0, cells := 0, slots := 0, locals := 0 } D (TYS cI cZ cS cJ) [.ref fa, .int p1, .ref ta, .int p3, .int p4] [(fa, .inl (cI, fn, .inl f)), (ta, .inl (cI, tn, .inl t))] [(fa, .inl (cI, fn, .inl f)), (ta, .inl (cI, tn, .inl t_o))] := by
  refine zent_v (own := RX12) (by decide) rfl (Nat.le_of_ble_eq_true rfl) ?_
  intro p e s m below meth c A ls S hr hlocks hK hP hD hA hl
  have hx := S.1
  have hb := S.2.1
  have hml := S.2.2.1
  have hown := S.2.2.2.1
  have hT : ∀ w ∈ zt, w ∈ zwl yX12_bring cX12_bring 6 none := fun _ h => List.mem_cons_of_mem _ h
  have ht : ∀ w ∈ zt, w.before [.ref fa, .int p1, .ref ta, .int p3, .int p4].toArray s = true := fun w h => S.2.2.2.2 w (hT w h)
  have hl : lv_has ls 6 [(0, .ref fa), (1, .int p1), (2, .ref ta), (3, .int p3), (4, .int p4)] := hl
  have hS : va_S A s.heap s.heap [] := va_S.rf
  unfold F_X12_bring at hF
  have hloop_3 : ∀ (n : Nat) (fn : Nat) (f : Nat → Int32) (tn : Nat) (t : Nat → Int32) (v1 : Int32) (v3 : Int32) (v4 : Int32) (v5 : Int32) (t' : Nat → Int32) (v5' : Int32), L_X12_bring_3 fn f tn v1 v3 v4 n t v5 = some (t', v5') → ∀ (H : Heap) (locs : List Loc) (ls : Array Slot), va_P D classes [(fa, .inl (cI, fn, .inl f)), (ta, .inl (cI, tn, .inl t))] H → va_D A [(fa, .inl (cI, fn, .inl f)), (ta, .inl (cI, tn, .inl t))] → va_S A s.heap H locs → lv_has ls 6 [(0, .ref fa), (1, .int v1), (2, .ref ta), (3, .int v3), (4, .int v4), (5, .int v5)] → (∀ (H : Heap) (locs : List Loc) (ls : Array Slot), va_P D classes [(fa, .inl (cI, fn, .inl f)), (ta, .inl (cI, tn, .inl t'))] H → va_D A [(fa, .inl (cI, fn, .inl f)), (ta, .inl (cI, tn, .inl t'))] → va_S A s.heap H locs → lv_has ls 6 [(0, .ref fa), (1, .int v1), (2, .ref ta), (3, .int v3), (4, .int v4), (5, .int v5')] → W p l e { frames := 0, cells := 0, slots := 0, locals := 0 } s m [.ref fa, .int p1, .ref ta, .int p3, .int p4].toArray below meth c H locs 0 0 (zFv below [.ref fa, .int p1, .ref ta, .int p3, .int p4] s A D (TYS cI cZ cS cJ) [(fa, .inl (cI, fn, .inl f)), (ta, .inl (cI, tn, .inl t_o))]) (F0 m 28 ls [])) → W p l e { frames := 0, cells := 0, slots := 0, locals := 0 } s m [.ref fa, .int p1, .ref ta, .int p3, .int p4].toArray below meth c H locs 0 0 (zFv below [.ref fa, .int p1, .ref ta, .int p3, .int p4] s A D (TYS cI cZ cS cJ) [(fa, .inl (cI, fn, .inl f)), (ta, .inl (cI, tn, .inl t_o))]) (F0 m 3 ls []) := by
    intro n
    induction n with
    | zero =>
      intro fn f tn t v1 v3 v4 v5 t' v5' hF
      rw [L_X12_bring_3_z] at hF
      cases hF
    | succ n ih_3 =>
      intro fn f tn t v1 v3 v4 v5 t' v5' hF H locs ls hP hD hS hl hexit_3
      rw [L_X12_bring_3_s] at hF
      refine lv_iload hx hb dX12_bring_3 (lv_at hl 5 rfl) ?_
      refine lv_iload hx hb dX12_bring_5 (lv_at hl 4 rfl) ?_
      refine lv_icmp_ge (tgt := 28) hx hb dX12_bring_7 (by decide) (fun c_4 => ?_) (fun c_4 => ?_)
      · have hF := zi_pos c_4 hF
        obtain ⟨e_0, e_1⟩ := zo2 hF
        subst e_0
        subst e_1
        exact hexit_3 _ _ _ hP hD hS (lv_sub hl [0, 1, 2, 3, 4, 5] rfl)
      · have hF := zi_neg c_4 hF
        refine lv_aload_n hx hb dX12_bring_10 rfl (lv_at hl 2 rfl) ?_
        refine lv_iload_n hx hb dX12_bring_11 rfl (lv_at hl 3 rfl) ?_
        refine lv_iload hx hb dX12_bring_12 (lv_at hl 5 rfl) ?_
        refine lv_iadd hx hb dX12_bring_14 ?_
        refine lv_aload_n hx hb dX12_bring_15 rfl (lv_at hl 0 rfl) ?_
        refine lv_iload_n hx hb dX12_bring_16 rfl (lv_at hl 1 rfl) ?_
        refine lv_iload hx hb dX12_bring_17 (lv_at hl 5 rfl) ?_
        refine lv_iadd hx hb dX12_bring_19 ?_
        obtain ⟨h_5, hF⟩ := zi_chk hF
        refine va_iald hx hb hK hP 0 0 rfl rfl h_5 dX12_bring_20 ?_
        obtain ⟨h_6, hF⟩ := zi_chk hF
        refine va_iast hx hb hK hP hD hS 1 0 rfl rfl h_6 dX12_bring_21 (fun H locs hP hD hS => ?_)
        have hP : va_P D classes [(fa, .inl (cI, fn, .inl f)), (ta, .inl (cI, tn, .inl (upd t (v3 + v5).toNatClampNeg (f (v1 + v5).toNatClampNeg))))] H := hP
        have hD : va_D A [(fa, .inl (cI, fn, .inl f)), (ta, .inl (cI, tn, .inl (upd t (v3 + v5).toNatClampNeg (f (v1 + v5).toNatClampNeg))))] := hD
        refine lv_iinc (v := v5 + 1) (lv' := [(5, .int (v5 + 1)), (0, .ref fa), (1, .int v1), (2, .ref ta), (3, .int v3), (4, .int v4)]) hx hb dX12_bring_22 hl (k := 5) rfl (by rfl) (by decide) rfl (fun ls hl => ?_)
        refine lv_goto (tgt := 3) hx hb dX12_bring_25 (by decide) ?_
        exact ih_3 fn f tn (upd t (v3 + v5).toNatClampNeg (f (v1 + v5).toNatClampNeg)) v1 v3 v4 (v5 + 1) _ _ hF _ _ _ hP hD hS (lv_sub hl [1, 2, 3, 4, 5, 0] rfl) hexit_3
  refine lv_iconst (v := 0) hx hb dX12_bring_0 (by decide) ?_
  refine lv_istore (lv' := [(5, .int 0), (0, .ref fa), (1, .int p1), (2, .ref ta), (3, .int p3), (4, .int p4)]) hx hb dX12_bring_1 hl (by decide) rfl (fun ls hl => ?_)
  obtain ⟨t_7, v5_8, hL_9, hF⟩ := zb2_s hF
  refine hloop_3 300 fn f tn t p1 p3 p4 0 t_7 v5_8 hL_9 _ _ _ hP hD hS (lv_sub hl [1, 2, 3, 4, 5, 0] rfl) (fun H locs ls hP hD hS hl => ?_)
  have e_0 := zo1 hF
  subst e_0
  exact zret_v S hr hlocks hK hP hD hS dX12_bring_28

def L_X12_bring_same_3 (fn : Nat) (v1 : Int32) (v3 : Int32) (v4 : Int32) : Nat → (Nat → Int32) → Int32 → Option ((Nat → Int32) × Int32)
  | 0 => fun _ _ => none
  | n + 1 => fun f v5 => (if v4 ≤ v5 then some (f, v5) else (if ((v1 + v5) < 0 ∨ fn ≤ (v1 + v5).toNatClampNeg) then none else (if ((v3 + v5) < 0 ∨ fn ≤ (v3 + v5).toNatClampNeg) then none else (L_X12_bring_same_3 fn v1 v3 v4 n (upd f (v3 + v5).toNatClampNeg (f (v1 + v5).toNatClampNeg)) (v5 + 1)))))
theorem L_X12_bring_same_3_z (fn : Nat) (v1 : Int32) (v3 : Int32) (v4 : Int32) (f : Nat → Int32) (v5 : Int32) : L_X12_bring_same_3 fn v1 v3 v4 0 f v5 = none := rfl
theorem L_X12_bring_same_3_s (fn : Nat) (v1 : Int32) (v3 : Int32) (v4 : Int32) (n : Nat) (f : Nat → Int32) (v5 : Int32) : L_X12_bring_same_3 fn v1 v3 v4 (n + 1) f v5 = (if v4 ≤ v5 then some (f, v5) else (if ((v1 + v5) < 0 ∨ fn ≤ (v1 + v5).toNatClampNeg) then none else (if ((v3 + v5) < 0 ∨ fn ≤ (v3 + v5).toNatClampNeg) then none else (L_X12_bring_same_3 fn v1 v3 v4 n (upd f (v3 + v5).toNatClampNeg (f (v1 + v5).toNatClampNeg)) (v5 + 1))))) := rfl
def F_X12_bring_same (fn : Nat) (f : Nat → Int32) (p1 : Int32) (p3 : Int32) (p4 : Int32) : Option ((Nat → Int32)) :=
  (zb2 (L_X12_bring_same_3 fn p1 p3 p4 300 f 0) (fun f_7 v5_8 => some (f_7)))
set_option maxHeartbeats 4000000 in
set_option maxRecDepth 100000 in
theorem c_X12_bring_same (l : Launch) (D : va_G) (cI cZ cS cJ : ClassId) (fa : Nat) (fn : Nat) (f : Nat → Int32) (p1 : Int32) (p3 : Int32) (p4 : Int32) {f_o : Nat → Int32} (hF : F_X12_bring_same fn f p1 p3 p4 = some (f_o)) : zMv l yX12_bring (zwl yX12_bring cX12_bring 6 none) { frames := 0, cells := 0, slots := 0, locals := 0 } D (TYS cI cZ cS cJ) [.ref fa, .int p1, .ref fa, .int p3, .int p4] [(fa, .inl (cI, fn, .inl f))] [(fa, .inl (cI, fn, .inl f_o))] := by
  refine zent_v (own := RX12) (by decide) rfl (Nat.le_of_ble_eq_true rfl) ?_
  intro p e s m below meth c A ls S hr hlocks hK hP hD hA hl
  have hx := S.1
  have hb := S.2.1
  have hml := S.2.2.1
  have hown := S.2.2.2.1
  have hT : ∀ w ∈ zt, w ∈ zwl yX12_bring cX12_bring 6 none := fun _ h => List.mem_cons_of_mem _ h
  have ht : ∀ w ∈ zt, w.before [.ref fa, .int p1, .ref fa, .int p3, .int p4].toArray s = true := fun w h => S.2.2.2.2 w (hT w h)
  have hl : lv_has ls 6 [(0, .ref fa), (1, .int p1), (2, .ref fa), (3, .int p3), (4, .int p4)] := hl
  have hS : va_S A s.heap s.heap [] := va_S.rf
  unfold F_X12_bring_same at hF
  have hloop_3 : ∀ (n : Nat) (fn : Nat) (f : Nat → Int32) (v1 : Int32) (v3 : Int32) (v4 : Int32) (v5 : Int32) (f' : Nat → Int32) (v5' : Int32), L_X12_bring_same_3 fn v1 v3 v4 n f v5 = some (f', v5') → ∀ (H : Heap) (locs : List Loc) (ls : Array Slot), va_P D classes [(fa, .inl (cI, fn, .inl f))] H → va_D A [(fa, .inl (cI, fn, .inl f))] → va_S A s.heap H locs → lv_has ls 6 [(0, .ref fa), (1, .int v1), (2, .ref fa), (3, .int v3), (4, .int v4), (5, .int v5)] → (∀ (H : Heap) (locs : List Loc) (ls : Array Slot), va_P D classes [(fa, .inl (cI, fn, .inl f'))] H → va_D A [(fa, .inl (cI, fn, .inl f'))] → va_S A s.heap H locs → lv_has ls 6 [(0, .ref fa), (1, .int v1), (2, .ref fa), (3, .int v3), (4, .int v4), (5, .int v5')] → W p l e { frames := 0, cells := 0, slots := 0, locals := 0 } s m [.ref fa, .int p1, .ref fa, .int p3, .int p4].toArray below meth c H locs 0 0 (zFv below [.ref fa, .int p1, .ref fa, .int p3, .int p4] s A D (TYS cI cZ cS cJ) [(fa, .inl (cI, fn, .inl f_o))]) (F0 m 28 ls [])) → W p l e { frames := 0, cells := 0, slots := 0, locals := 0 } s m [.ref fa, .int p1, .ref fa, .int p3, .int p4].toArray below meth c H locs 0 0 (zFv below [.ref fa, .int p1, .ref fa, .int p3, .int p4] s A D (TYS cI cZ cS cJ) [(fa, .inl (cI, fn, .inl f_o))]) (F0 m 3 ls []) := by
    intro n
    induction n with
    | zero =>
      intro fn f v1 v3 v4 v5 f' v5' hF
      rw [L_X12_bring_same_3_z] at hF
      cases hF
    | succ n ih_3 =>
      intro fn f v1 v3 v4 v5 f' v5' hF H locs ls hP hD hS hl hexit_3
      rw [L_X12_bring_same_3_s] at hF
      refine lv_iload hx hb dX12_bring_3 (lv_at hl 5 rfl) ?_
      refine lv_iload hx hb dX12_bring_5 (lv_at hl 4 rfl) ?_
      refine lv_icmp_ge (tgt := 28) hx hb dX12_bring_7 (by decide) (fun c_4 => ?_) (fun c_4 => ?_)
      · have hF := zi_pos c_4 hF
        obtain ⟨e_0, e_1⟩ := zo2 hF
        subst e_0
        subst e_1
        exact hexit_3 _ _ _ hP hD hS (lv_sub hl [0, 1, 2, 3, 4, 5] rfl)
      · have hF := zi_neg c_4 hF
        refine lv_aload_n hx hb dX12_bring_10 rfl (lv_at hl 2 rfl) ?_
        refine lv_iload_n hx hb dX12_bring_11 rfl (lv_at hl 3 rfl) ?_
        refine lv_iload hx hb dX12_bring_12 (lv_at hl 5 rfl) ?_
        refine lv_iadd hx hb dX12_bring_14 ?_
        refine lv_aload_n hx hb dX12_bring_15 rfl (lv_at hl 0 rfl) ?_
        refine lv_iload_n hx hb dX12_bring_16 rfl (lv_at hl 1 rfl) ?_
        refine lv_iload hx hb dX12_bring_17 (lv_at hl 5 rfl) ?_
        refine lv_iadd hx hb dX12_bring_19 ?_
        obtain ⟨h_5, hF⟩ := zi_chk hF
        refine va_iald hx hb hK hP 0 0 rfl rfl h_5 dX12_bring_20 ?_
        obtain ⟨h_6, hF⟩ := zi_chk hF
        refine va_iast hx hb hK hP hD hS 0 0 rfl rfl h_6 dX12_bring_21 (fun H locs hP hD hS => ?_)
        have hP : va_P D classes [(fa, .inl (cI, fn, .inl (upd f (v3 + v5).toNatClampNeg (f (v1 + v5).toNatClampNeg))))] H := hP
        have hD : va_D A [(fa, .inl (cI, fn, .inl (upd f (v3 + v5).toNatClampNeg (f (v1 + v5).toNatClampNeg))))] := hD
        refine lv_iinc (v := v5 + 1) (lv' := [(5, .int (v5 + 1)), (0, .ref fa), (1, .int v1), (2, .ref fa), (3, .int v3), (4, .int v4)]) hx hb dX12_bring_22 hl (k := 5) rfl (by rfl) (by decide) rfl (fun ls hl => ?_)
        refine lv_goto (tgt := 3) hx hb dX12_bring_25 (by decide) ?_
        exact ih_3 fn (upd f (v3 + v5).toNatClampNeg (f (v1 + v5).toNatClampNeg)) v1 v3 v4 (v5 + 1) _ _ hF _ _ _ hP hD hS (lv_sub hl [1, 2, 3, 4, 5, 0] rfl) hexit_3
  refine lv_iconst (v := 0) hx hb dX12_bring_0 (by decide) ?_
  refine lv_istore (lv' := [(5, .int 0), (0, .ref fa), (1, .int p1), (2, .ref fa), (3, .int p3), (4, .int p4)]) hx hb dX12_bring_1 hl (by decide) rfl (fun ls hl => ?_)
  obtain ⟨f_7, v5_8, hL_9, hF⟩ := zb2_s hF
  refine hloop_3 300 fn f p1 p3 p4 0 f_7 v5_8 hL_9 _ _ _ hP hD hS (lv_sub hl [1, 2, 3, 4, 5, 0] rfl) (fun H locs ls hP hD hS hl => ?_)
  have e_0 := zo1 hF
  subst e_0
  exact zret_v S hr hlocks hK hP hD hS dX12_bring_28

def F_X12_isJumper (m_jumpers : Int32) (p1 : Int32) : Option (Int32) :=
  (zb1 (F_X12_in p1 0 (m_jumpers - 1)) (fun r_1 => (if ¬ (r_1 = 0 ∨ r_1 = 1) then none else some (r_1))))
set_option maxHeartbeats 4000000 in
set_option maxRecDepth 100000 in
theorem c_X12_isJumper (l : Launch) (D : va_G) (cI cZ cS cJ : ClassId) (m_a : Nat) (m_a_letters : Nat) (m_a_period : Nat) (m_a_hang : Nat) (m_a_st : Nat) (m_a_now : Nat) (m_a_book : Nat) (m_a_images : Nat) (m_a_isKept : Nat) (m_a_seenHang : Nat) (m_a_seenTick : Nat) (m_a_seenUp : Nat) (m_a_readOne : Nat) (m_length : Int32) (m_jumpers : Int32) (m_undos : Int32) (m_seen : Int32) (m_trail : Int64) (m_place : Int32) (m_wrong : Int32) (m_items : Int32) (m_saidEvery : Int32) (m_readEvery : Int32) (m_readJumpers : Int32) (p1 : Int32) {r_o : Int32} (hF : F_X12_isJumper m_jumpers p1 = some (r_o)) : zMi l yX12_isJumper (zwl yX12_isJumper cX12_isJumper 2 (some .boolean)) { frames := 1, cells := 0, slots := 0, locals := 22 } D (TYS cI cZ cS cJ) [.ref m_a, .int p1] [(m_a, .inr (12, [.ref m_a_letters, .int m_length, .int m_jumpers, .ref m_a_period, .ref m_a_hang, .ref m_a_st, .ref m_a_now, .ref m_a_book, .int m_undos, .ref m_a_images, .ref m_a_isKept, .int m_seen, .ref m_a_seenHang, .ref m_a_seenTick, .ref m_a_seenUp, .long m_trail, .int m_place, .int m_wrong, .int m_items, .int m_saidEvery, .int m_readEvery, .int m_readJumpers, .ref m_a_readOne]))] [(m_a, .inr (12, [.ref m_a_letters, .int m_length, .int m_jumpers, .ref m_a_period, .ref m_a_hang, .ref m_a_st, .ref m_a_now, .ref m_a_book, .int m_undos, .ref m_a_images, .ref m_a_isKept, .int m_seen, .ref m_a_seenHang, .ref m_a_seenTick, .ref m_a_seenUp, .long m_trail, .int m_place, .int m_wrong, .int m_items, .int m_saidEvery, .int m_readEvery, .int m_readJumpers, .ref m_a_readOne]))] r_o := by
  refine zent_i (own := RX12) (by decide) rfl (Nat.le_of_ble_eq_true rfl) ?_
  intro p e s m below meth c A ls S hr hlocks hK hP hD hA hl
  have hx := S.1
  have hb := S.2.1
  have hml := S.2.2.1
  have hown := S.2.2.2.1
  have hT : ∀ w ∈ zt, w ∈ zwl yX12_isJumper cX12_isJumper 2 (some .boolean) := fun _ h => List.mem_cons_of_mem _ h
  have ht : ∀ w ∈ zt, w.before [.ref m_a, .int p1].toArray s = true := fun w h => S.2.2.2.2 w (hT w h)
  have hl : lv_has ls 2 [(0, .ref m_a), (1, .int p1)] := hl
  have hS : va_S A s.heap s.heap [] := va_S.rf
  unfold F_X12_isJumper at hF
  refine lv_iload_n hx hb dX12_isJumper_0 rfl (lv_at hl 1 rfl) ?_
  refine lv_iconst (v := 0) hx hb dX12_isJumper_1 (by decide) ?_
  refine lv_aload_n hx hb dX12_isJumper_2 rfl (lv_at hl 0 rfl) ?_
  refine va_get (D := D) (ci := 12) (v := .int m_jumpers) (C := RX12) (T := TX12) (N := 23) hx hb ht iyX12 hown hK hP 0 rfl rfl 2 (by decide) (ht _ wf_X12_47) (fun _ h9 => h9) rfl dX12_isJumper_3 ?_
  refine lv_iconst (v := 1) hx hb dX12_isJumper_6 (by decide) ?_
  refine lv_isub hx hb dX12_isJumper_7 ?_
  obtain ⟨r_1, hc_2, hF⟩ := zb1_s hF
  refine zcs_i (ws1 := [(m_a, .inr (12, [.ref m_a_letters, .int m_length, .int m_jumpers, .ref m_a_period, .ref m_a_hang, .ref m_a_st, .ref m_a_now, .ref m_a_book, .int m_undos, .ref m_a_images, .ref m_a_isKept, .int m_seen, .ref m_a_seenHang, .ref m_a_seenTick, .ref m_a_seenUp, .long m_trail, .int m_place, .int m_wrong, .int m_items, .int m_saidEvery, .int m_readEvery, .int m_readJumpers, .ref m_a_readOne]))]) S hT lk_X12_51 (c_X12_in l D cI cZ cS cJ p1 0 (m_jumpers - 1) hc_2) ⟨rfl, rfl, Nat.le_of_ble_eq_true rfl, Nat.le_of_ble_eq_true rfl⟩ hK hP hD hS hA [] [0] [0] rfl rfl rfl rfl rfl rfl rfl rfl hl.1 rfl (Nat.le_of_ble_eq_true rfl) dX12_isJumper_8 ⟨Nat.zero_le _, Nat.zero_le _⟩ (fun H locs hP hD hS => ?_)
  obtain ⟨h_3, hF⟩ := zi_chk hF
  have e_0 := zo1 hF
  subst e_0
  exact zret_z (Decidable.not_not.mp h_3) S hr hlocks hK hP hD hS dX12_isJumper_11

def F_X12_type (m_length : Int32) (m_letters : Nat → Int32) (p1 : Int32) : Option (Int32 × Int32 × (Nat → Int32)) :=
  (zb1 (F_X12_in p1 0 255) (fun r_1 => (if r_1 = 0 then some ((-1), m_length, m_letters) else (if m_length = 120 then some ((-3), m_length, m_letters) else (if (m_length < 0 ∨ 120 ≤ m_length.toNatClampNeg) then none else some (m_length + 1, m_length + 1, upd m_letters m_length.toNatClampNeg p1))))))
set_option maxHeartbeats 4000000 in
set_option maxRecDepth 100000 in
theorem c_X12_type (l : Launch) (D : va_G) (cI cZ cS cJ : ClassId) (m_a : Nat) (m_a_letters : Nat) (m_a_period : Nat) (m_a_hang : Nat) (m_a_st : Nat) (m_a_now : Nat) (m_a_book : Nat) (m_a_images : Nat) (m_a_isKept : Nat) (m_a_seenHang : Nat) (m_a_seenTick : Nat) (m_a_seenUp : Nat) (m_a_readOne : Nat) (m_length : Int32) (m_jumpers : Int32) (m_undos : Int32) (m_seen : Int32) (m_trail : Int64) (m_place : Int32) (m_wrong : Int32) (m_items : Int32) (m_saidEvery : Int32) (m_readEvery : Int32) (m_readJumpers : Int32) (m_letters : Nat → Int32) (p1 : Int32) {r_o : Int32} {m_length_o : Int32} {m_letters_o : Nat → Int32} (hF : F_X12_type m_length m_letters p1 = some (r_o, m_length_o, m_letters_o)) : zMi l yX12_type (zwl yX12_type cX12_type 2 (some .int)) { frames := 1, cells := 0, slots := 0, locals := 22 } D (TYS cI cZ cS cJ) [.ref m_a, .int p1] [(m_a, .inr (12, [.ref m_a_letters, .int m_length, .int m_jumpers, .ref m_a_period, .ref m_a_hang, .ref m_a_st, .ref m_a_now, .ref m_a_book, .int m_undos, .ref m_a_images, .ref m_a_isKept, .int m_seen, .ref m_a_seenHang, .ref m_a_seenTick, .ref m_a_seenUp, .long m_trail, .int m_place, .int m_wrong, .int m_items, .int m_saidEvery, .int m_readEvery, .int m_readJumpers, .ref m_a_readOne])), (m_a_letters, .inl (cI, 120, .inl m_letters))] [(m_a, .inr (12, [.ref m_a_letters, .int m_length_o, .int m_jumpers, .ref m_a_period, .ref m_a_hang, .ref m_a_st, .ref m_a_now, .ref m_a_book, .int m_undos, .ref m_a_images, .ref m_a_isKept, .int m_seen, .ref m_a_seenHang, .ref m_a_seenTick, .ref m_a_seenUp, .long m_trail, .int m_place, .int m_wrong, .int m_items, .int m_saidEvery, .int m_readEvery, .int m_readJumpers, .ref m_a_readOne])), (m_a_letters, .inl (cI, 120, .inl m_letters_o))] r_o := by
  refine zent_i (own := RX12) (by decide) rfl (Nat.le_of_ble_eq_true rfl) ?_
  intro p e s m below meth c A ls S hr hlocks hK hP hD hA hl
  have hx := S.1
  have hb := S.2.1
  have hml := S.2.2.1
  have hown := S.2.2.2.1
  have hT : ∀ w ∈ zt, w ∈ zwl yX12_type cX12_type 2 (some .int) := fun _ h => List.mem_cons_of_mem _ h
  have ht : ∀ w ∈ zt, w.before [.ref m_a, .int p1].toArray s = true := fun w h => S.2.2.2.2 w (hT w h)
  have hl : lv_has ls 2 [(0, .ref m_a), (1, .int p1)] := hl
  have hS : va_S A s.heap s.heap [] := va_S.rf
  unfold F_X12_type at hF
  refine lv_iload_n hx hb dX12_type_0 rfl (lv_at hl 1 rfl) ?_
  refine lv_iconst (v := 0) hx hb dX12_type_1 (by decide) ?_
  refine lv_sipush (v := 255) hx hb dX12_type_2 (by decide) ?_
  obtain ⟨r_1, hc_2, hF⟩ := zb1_s hF
  refine zcs_i (ws1 := [(m_a, .inr (12, [.ref m_a_letters, .int m_length, .int m_jumpers, .ref m_a_period, .ref m_a_hang, .ref m_a_st, .ref m_a_now, .ref m_a_book, .int m_undos, .ref m_a_images, .ref m_a_isKept, .int m_seen, .ref m_a_seenHang, .ref m_a_seenTick, .ref m_a_seenUp, .long m_trail, .int m_place, .int m_wrong, .int m_items, .int m_saidEvery, .int m_readEvery, .int m_readJumpers, .ref m_a_readOne])), (m_a_letters, .inl (cI, 120, .inl m_letters))]) S hT lk_X12_51 (c_X12_in l D cI cZ cS cJ p1 0 255 hc_2) ⟨rfl, rfl, Nat.le_of_ble_eq_true rfl, Nat.le_of_ble_eq_true rfl⟩ hK hP hD hS hA [] [0, 1] [0, 1] rfl rfl rfl rfl rfl rfl rfl rfl hl.1 rfl (Nat.le_of_ble_eq_true rfl) dX12_type_5 ⟨Nat.zero_le _, Nat.zero_le _⟩ (fun H locs hP hD hS => ?_)
  refine lv_if_ne (tgt := 13) hx hb dX12_type_8 (by decide) (fun c_3 => ?_) (fun c_3 => ?_)
  · have hF := zi_neg c_3 hF
    refine lv_aload_n hx hb dX12_type_13 rfl (lv_at hl 0 rfl) ?_
    refine va_get (D := D) (ci := 12) (v := .int m_length) (C := RX12) (T := TX12) (N := 23) hx hb ht iyX12 hown hK hP 0 rfl rfl 1 (by decide) (ht _ wf_X12_55) (fun _ h9 => h9) rfl dX12_type_14 ?_
    refine lv_bipush (v := 120) hx hb dX12_type_17 (by decide) ?_
    refine lv_icmp_ne (tgt := 25) hx hb dX12_type_19 (by decide) (fun c_4 => ?_) (fun c_4 => ?_)
    · have hF := zi_neg c_4 hF
      refine lv_aload_n hx hb dX12_type_25 rfl (lv_at hl 0 rfl) ?_
      refine va_get (D := D) (ci := 12) (v := .ref m_a_letters) (C := RX12) (T := TX12) (N := 23) hx hb ht iyX12 hown hK hP 0 rfl rfl 0 (by decide) (ht _ wf_X12_7) (fun _ h9 => h9) rfl dX12_type_26 ?_
      refine lv_aload_n hx hb dX12_type_29 rfl (lv_at hl 0 rfl) ?_
      refine va_get (D := D) (ci := 12) (v := .int m_length) (C := RX12) (T := TX12) (N := 23) hx hb ht iyX12 hown hK hP 0 rfl rfl 1 (by decide) (ht _ wf_X12_55) (fun _ h9 => h9) rfl dX12_type_30 ?_
      refine lv_iload_n hx hb dX12_type_33 rfl (lv_at hl 1 rfl) ?_
      obtain ⟨h_5, hF⟩ := zi_chk hF
      refine va_iast hx hb hK hP hD hS 1 0 rfl rfl h_5 dX12_type_34 (fun H locs hP hD hS => ?_)
      have hP : va_P D classes [(m_a, .inr (12, [.ref m_a_letters, .int m_length, .int m_jumpers, .ref m_a_period, .ref m_a_hang, .ref m_a_st, .ref m_a_now, .ref m_a_book, .int m_undos, .ref m_a_images, .ref m_a_isKept, .int m_seen, .ref m_a_seenHang, .ref m_a_seenTick, .ref m_a_seenUp, .long m_trail, .int m_place, .int m_wrong, .int m_items, .int m_saidEvery, .int m_readEvery, .int m_readJumpers, .ref m_a_readOne])), (m_a_letters, .inl (cI, 120, .inl (upd m_letters m_length.toNatClampNeg p1)))] H := hP
      have hD : va_D A [(m_a, .inr (12, [.ref m_a_letters, .int m_length, .int m_jumpers, .ref m_a_period, .ref m_a_hang, .ref m_a_st, .ref m_a_now, .ref m_a_book, .int m_undos, .ref m_a_images, .ref m_a_isKept, .int m_seen, .ref m_a_seenHang, .ref m_a_seenTick, .ref m_a_seenUp, .long m_trail, .int m_place, .int m_wrong, .int m_items, .int m_saidEvery, .int m_readEvery, .int m_readJumpers, .ref m_a_readOne])), (m_a_letters, .inl (cI, 120, .inl (upd m_letters m_length.toNatClampNeg p1)))] := hD
      refine lv_aload_n hx hb dX12_type_35 rfl (lv_at hl 0 rfl) ?_
      refine lv_dup hx hb dX12_type_36 rfl ?_
      refine va_get (D := D) (ci := 12) (v := .int m_length) (C := RX12) (T := TX12) (N := 23) hx hb ht iyX12 hown hK hP 0 rfl rfl 1 (by decide) (ht _ wf_X12_55) (fun _ h9 => h9) rfl dX12_type_37 ?_
      refine lv_iconst (v := 1) hx hb dX12_type_40 (by decide) ?_
      refine lv_iadd hx hb dX12_type_41 ?_
      refine va_put (D := D) (ci := 12) (v := .int (m_length + 1)) (ty := .int) (C := RX12) (T := TX12) (N := 23) hx hb ht iyX12 tyX12 tyX12_ok nmX12 hown hK hP hD hS 0 rfl rfl 1 (by decide) (ht _ wf_X12_55) (fun _ h9 => h9) rfl (by decide +kernel) rfl rfl (Nat.le_of_ble_eq_true rfl) dX12_type_42 (fun H locs hP hD hS => ?_)
      have hP : va_P D classes [(m_a, .inr (12, [.ref m_a_letters, .int (m_length + 1), .int m_jumpers, .ref m_a_period, .ref m_a_hang, .ref m_a_st, .ref m_a_now, .ref m_a_book, .int m_undos, .ref m_a_images, .ref m_a_isKept, .int m_seen, .ref m_a_seenHang, .ref m_a_seenTick, .ref m_a_seenUp, .long m_trail, .int m_place, .int m_wrong, .int m_items, .int m_saidEvery, .int m_readEvery, .int m_readJumpers, .ref m_a_readOne])), (m_a_letters, .inl (cI, 120, .inl (upd m_letters m_length.toNatClampNeg p1)))] H := hP
      have hD : va_D A [(m_a, .inr (12, [.ref m_a_letters, .int (m_length + 1), .int m_jumpers, .ref m_a_period, .ref m_a_hang, .ref m_a_st, .ref m_a_now, .ref m_a_book, .int m_undos, .ref m_a_images, .ref m_a_isKept, .int m_seen, .ref m_a_seenHang, .ref m_a_seenTick, .ref m_a_seenUp, .long m_trail, .int m_place, .int m_wrong, .int m_items, .int m_saidEvery, .int m_readEvery, .int m_readJumpers, .ref m_a_readOne])), (m_a_letters, .inl (cI, 120, .inl (upd m_letters m_length.toNatClampNeg p1)))] := hD
      refine lv_aload_n hx hb dX12_type_45 rfl (lv_at hl 0 rfl) ?_
      refine va_get (D := D) (ci := 12) (v := .int (m_length + 1)) (C := RX12) (T := TX12) (N := 23) hx hb ht iyX12 hown hK hP 0 rfl rfl 1 (by decide) (ht _ wf_X12_55) (fun _ h9 => h9) rfl dX12_type_46 ?_
      obtain ⟨e_0, e_1, e_2⟩ := zo3 hF
      subst e_0
      subst e_1
      subst e_2
      exact zret_i S hr hlocks hK hP hD hS dX12_type_49
    · have hF := zi_pos c_4 hF
      refine lv_bipush (v := (-3)) hx hb dX12_type_22 (by decide) ?_
      obtain ⟨e_0, e_1, e_2⟩ := zo3 hF
      subst e_0
      subst e_1
      subst e_2
      exact zret_i S hr hlocks hK hP hD hS dX12_type_24
  · have hF := zi_pos c_3 hF
    refine lv_iconst (v := (-1)) hx hb dX12_type_11 (by decide) ?_
    obtain ⟨e_0, e_1, e_2⟩ := zo3 hF
    subst e_0
    subst e_1
    subst e_2
    exact zret_i S hr hlocks hK hP hD hS dX12_type_12

def F_X12_clear (m_length : Int32) : Option (Int32 × Int32) :=
  some (m_length, 0)
set_option maxHeartbeats 4000000 in
set_option maxRecDepth 100000 in
theorem c_X12_clear (l : Launch) (D : va_G) (cI cZ cS cJ : ClassId) (m_a : Nat) (m_a_letters : Nat) (m_a_period : Nat) (m_a_hang : Nat) (m_a_st : Nat) (m_a_now : Nat) (m_a_book : Nat) (m_a_images : Nat) (m_a_isKept : Nat) (m_a_seenHang : Nat) (m_a_seenTick : Nat) (m_a_seenUp : Nat) (m_a_readOne : Nat) (m_length : Int32) (m_jumpers : Int32) (m_undos : Int32) (m_seen : Int32) (m_trail : Int64) (m_place : Int32) (m_wrong : Int32) (m_items : Int32) (m_saidEvery : Int32) (m_readEvery : Int32) (m_readJumpers : Int32) {r_o : Int32} {m_length_o : Int32} (hF : F_X12_clear m_length = some (r_o, m_length_o)) : zMi l yX12_clear (zwl yX12_clear cX12_clear 2 (some .int)) { frames := 0, cells := 0, slots := 0, locals := 0 } D (TYS cI cZ cS cJ) [.ref m_a] [(m_a, .inr (12, [.ref m_a_letters, .int m_length, .int m_jumpers, .ref m_a_period, .ref m_a_hang, .ref m_a_st, .ref m_a_now, .ref m_a_book, .int m_undos, .ref m_a_images, .ref m_a_isKept, .int m_seen, .ref m_a_seenHang, .ref m_a_seenTick, .ref m_a_seenUp, .long m_trail, .int m_place, .int m_wrong, .int m_items, .int m_saidEvery, .int m_readEvery, .int m_readJumpers, .ref m_a_readOne]))] [(m_a, .inr (12, [.ref m_a_letters, .int m_length_o, .int m_jumpers, .ref m_a_period, .ref m_a_hang, .ref m_a_st, .ref m_a_now, .ref m_a_book, .int m_undos, .ref m_a_images, .ref m_a_isKept, .int m_seen, .ref m_a_seenHang, .ref m_a_seenTick, .ref m_a_seenUp, .long m_trail, .int m_place, .int m_wrong, .int m_items, .int m_saidEvery, .int m_readEvery, .int m_readJumpers, .ref m_a_readOne]))] r_o := by
  refine zent_i (own := RX12) (by decide) rfl (Nat.le_of_ble_eq_true rfl) ?_
  intro p e s m below meth c A ls S hr hlocks hK hP hD hA hl
  have hx := S.1
  have hb := S.2.1
  have hml := S.2.2.1
  have hown := S.2.2.2.1
  have hT : ∀ w ∈ zt, w ∈ zwl yX12_clear cX12_clear 2 (some .int) := fun _ h => List.mem_cons_of_mem _ h
  have ht : ∀ w ∈ zt, w.before [.ref m_a].toArray s = true := fun w h => S.2.2.2.2 w (hT w h)
  have hl : lv_has ls 2 [(0, .ref m_a)] := hl
  have hS : va_S A s.heap s.heap [] := va_S.rf
  unfold F_X12_clear at hF
  refine lv_aload_n hx hb dX12_clear_0 rfl (lv_at hl 0 rfl) ?_
  refine va_get (D := D) (ci := 12) (v := .int m_length) (C := RX12) (T := TX12) (N := 23) hx hb ht iyX12 hown hK hP 0 rfl rfl 1 (by decide) (ht _ wf_X12_55) (fun _ h9 => h9) rfl dX12_clear_1 ?_
  refine lv_istore_n (lv' := [(1, .int m_length), (0, .ref m_a)]) hx hb dX12_clear_4 rfl hl (by decide) rfl (fun ls hl => ?_)
  refine lv_aload_n hx hb dX12_clear_5 rfl (lv_at hl 1 rfl) ?_
  refine lv_iconst (v := 0) hx hb dX12_clear_6 (by decide) ?_
  refine va_put (D := D) (ci := 12) (v := .int 0) (ty := .int) (C := RX12) (T := TX12) (N := 23) hx hb ht iyX12 tyX12 tyX12_ok nmX12 hown hK hP hD hS 0 rfl rfl 1 (by decide) (ht _ wf_X12_55) (fun _ h9 => h9) rfl (by decide +kernel) rfl rfl (Nat.le_of_ble_eq_true rfl) dX12_clear_7 (fun H locs hP hD hS => ?_)
  have hP : va_P D classes [(m_a, .inr (12, [.ref m_a_letters, .int 0, .int m_jumpers, .ref m_a_period, .ref m_a_hang, .ref m_a_st, .ref m_a_now, .ref m_a_book, .int m_undos, .ref m_a_images, .ref m_a_isKept, .int m_seen, .ref m_a_seenHang, .ref m_a_seenTick, .ref m_a_seenUp, .long m_trail, .int m_place, .int m_wrong, .int m_items, .int m_saidEvery, .int m_readEvery, .int m_readJumpers, .ref m_a_readOne]))] H := hP
  have hD : va_D A [(m_a, .inr (12, [.ref m_a_letters, .int 0, .int m_jumpers, .ref m_a_period, .ref m_a_hang, .ref m_a_st, .ref m_a_now, .ref m_a_book, .int m_undos, .ref m_a_images, .ref m_a_isKept, .int m_seen, .ref m_a_seenHang, .ref m_a_seenTick, .ref m_a_seenUp, .long m_trail, .int m_place, .int m_wrong, .int m_items, .int m_saidEvery, .int m_readEvery, .int m_readJumpers, .ref m_a_readOne]))] := hD
  refine lv_iload_n hx hb dX12_clear_10 rfl (lv_at hl 0 rfl) ?_
  obtain ⟨e_0, e_1⟩ := zo2 hF
  subst e_0
  subst e_1
  exact zret_i S hr hlocks hK hP hD hS dX12_clear_11

def F_X12_here (m_length : Int32) (m_place : Int32) (m_letters : Nat → Int32) : Option (Int32) :=
  (if m_length ≤ m_place then some ((-1)) else (if (m_place < 0 ∨ 120 ≤ m_place.toNatClampNeg) then none else some (m_letters m_place.toNatClampNeg)))
set_option maxHeartbeats 4000000 in
set_option maxRecDepth 100000 in
theorem c_X12_here (l : Launch) (D : va_G) (cI cZ cS cJ : ClassId) (m_a : Nat) (m_a_letters : Nat) (m_a_period : Nat) (m_a_hang : Nat) (m_a_st : Nat) (m_a_now : Nat) (m_a_book : Nat) (m_a_images : Nat) (m_a_isKept : Nat) (m_a_seenHang : Nat) (m_a_seenTick : Nat) (m_a_seenUp : Nat) (m_a_readOne : Nat) (m_length : Int32) (m_jumpers : Int32) (m_undos : Int32) (m_seen : Int32) (m_trail : Int64) (m_place : Int32) (m_wrong : Int32) (m_items : Int32) (m_saidEvery : Int32) (m_readEvery : Int32) (m_readJumpers : Int32) (m_letters : Nat → Int32) {r_o : Int32} (hF : F_X12_here m_length m_place m_letters = some (r_o)) : zMi l yX12_here (zwl yX12_here cX12_here 1 (some .int)) { frames := 0, cells := 0, slots := 0, locals := 0 } D (TYS cI cZ cS cJ) [.ref m_a] [(m_a, .inr (12, [.ref m_a_letters, .int m_length, .int m_jumpers, .ref m_a_period, .ref m_a_hang, .ref m_a_st, .ref m_a_now, .ref m_a_book, .int m_undos, .ref m_a_images, .ref m_a_isKept, .int m_seen, .ref m_a_seenHang, .ref m_a_seenTick, .ref m_a_seenUp, .long m_trail, .int m_place, .int m_wrong, .int m_items, .int m_saidEvery, .int m_readEvery, .int m_readJumpers, .ref m_a_readOne])), (m_a_letters, .inl (cI, 120, .inl m_letters))] [(m_a, .inr (12, [.ref m_a_letters, .int m_length, .int m_jumpers, .ref m_a_period, .ref m_a_hang, .ref m_a_st, .ref m_a_now, .ref m_a_book, .int m_undos, .ref m_a_images, .ref m_a_isKept, .int m_seen, .ref m_a_seenHang, .ref m_a_seenTick, .ref m_a_seenUp, .long m_trail, .int m_place, .int m_wrong, .int m_items, .int m_saidEvery, .int m_readEvery, .int m_readJumpers, .ref m_a_readOne])), (m_a_letters, .inl (cI, 120, .inl m_letters))] r_o := by
  refine zent_i (own := RX12) (by decide) rfl (Nat.le_of_ble_eq_true rfl) ?_
  intro p e s m below meth c A ls S hr hlocks hK hP hD hA hl
  have hx := S.1
  have hb := S.2.1
  have hml := S.2.2.1
  have hown := S.2.2.2.1
  have hT : ∀ w ∈ zt, w ∈ zwl yX12_here cX12_here 1 (some .int) := fun _ h => List.mem_cons_of_mem _ h
  have ht : ∀ w ∈ zt, w.before [.ref m_a].toArray s = true := fun w h => S.2.2.2.2 w (hT w h)
  have hl : lv_has ls 1 [(0, .ref m_a)] := hl
  have hS : va_S A s.heap s.heap [] := va_S.rf
  unfold F_X12_here at hF
  refine lv_aload_n hx hb dX12_here_0 rfl (lv_at hl 0 rfl) ?_
  refine va_get (D := D) (ci := 12) (v := .int m_place) (C := RX12) (T := TX12) (N := 23) hx hb ht iyX12 hown hK hP 0 rfl rfl 16 (by decide) (ht _ wf_X12_58) (fun _ h9 => h9) rfl dX12_here_1 ?_
  refine lv_aload_n hx hb dX12_here_4 rfl (lv_at hl 0 rfl) ?_
  refine va_get (D := D) (ci := 12) (v := .int m_length) (C := RX12) (T := TX12) (N := 23) hx hb ht iyX12 hown hK hP 0 rfl rfl 1 (by decide) (ht _ wf_X12_55) (fun _ h9 => h9) rfl dX12_here_5 ?_
  refine lv_icmp_ge (tgt := 23) hx hb dX12_here_8 (by decide) (fun c_1 => ?_) (fun c_1 => ?_)
  · have hF := zi_pos c_1 hF
    refine lv_iconst (v := (-1)) hx hb dX12_here_23 (by decide) ?_
    have e_0 := zo1 hF
    subst e_0
    exact zret_i S hr hlocks hK hP hD hS dX12_here_24
  · have hF := zi_neg c_1 hF
    refine lv_aload_n hx hb dX12_here_11 rfl (lv_at hl 0 rfl) ?_
    refine va_get (D := D) (ci := 12) (v := .ref m_a_letters) (C := RX12) (T := TX12) (N := 23) hx hb ht iyX12 hown hK hP 0 rfl rfl 0 (by decide) (ht _ wf_X12_7) (fun _ h9 => h9) rfl dX12_here_12 ?_
    refine lv_aload_n hx hb dX12_here_15 rfl (lv_at hl 0 rfl) ?_
    refine va_get (D := D) (ci := 12) (v := .int m_place) (C := RX12) (T := TX12) (N := 23) hx hb ht iyX12 hown hK hP 0 rfl rfl 16 (by decide) (ht _ wf_X12_58) (fun _ h9 => h9) rfl dX12_here_16 ?_
    obtain ⟨h_2, hF⟩ := zi_chk hF
    refine va_iald hx hb hK hP 1 0 rfl rfl h_2 dX12_here_19 ?_
    refine lv_goto (tgt := 24) hx hb dX12_here_20 (by decide) ?_
    have e_0 := zo1 hF
    subst e_0
    exact zret_i S hr hlocks hK hP hD hS dX12_here_24

theorem lk_X12_61 : zLk RX12 61 yX12_here cX12_here 1 (some .int) 0 := ⟨⟨wm_X12_61, wo_X12_here, we_X12_X12_here, wi_X12, wd_X12_here⟩, by decide, by decide, by decide +kernel⟩
def L_X12_skips_0 (m_length : Int32) (m_letters : Nat → Int32) : Nat → Int32 → Option (Int32)
  | 0 => fun _ => none
  | n + 1 => fun m_place => (zb1 (F_X12_here m_length m_place m_letters) (fun r_4 => (if r_4 = 32 then (L_X12_skips_0 m_length m_letters n (m_place + 1)) else some (m_place))))
theorem L_X12_skips_0_z (m_length : Int32) (m_letters : Nat → Int32) (m_place : Int32) : L_X12_skips_0 m_length m_letters 0 m_place = none := rfl
theorem L_X12_skips_0_s (m_length : Int32) (m_letters : Nat → Int32) (n : Nat) (m_place : Int32) : L_X12_skips_0 m_length m_letters (n + 1) m_place = (zb1 (F_X12_here m_length m_place m_letters) (fun r_4 => (if r_4 = 32 then (L_X12_skips_0 m_length m_letters n (m_place + 1)) else some (m_place)))) := rfl
def F_X12_skips (m_length : Int32) (m_place : Int32) (m_letters : Nat → Int32) : Option (Int32) :=
  (zb1 (L_X12_skips_0 m_length m_letters 300 m_place) (fun m_place_7 => some (m_place_7)))
set_option maxHeartbeats 4000000 in
set_option maxRecDepth 100000 in
theorem c_X12_skips (l : Launch) (D : va_G) (cI cZ cS cJ : ClassId) (m_a : Nat) (m_a_letters : Nat) (m_a_period : Nat) (m_a_hang : Nat) (m_a_st : Nat) (m_a_now : Nat) (m_a_book : Nat) (m_a_images : Nat) (m_a_isKept : Nat) (m_a_seenHang : Nat) (m_a_seenTick : Nat) (m_a_seenUp : Nat) (m_a_readOne : Nat) (m_length : Int32) (m_jumpers : Int32) (m_undos : Int32) (m_seen : Int32) (m_trail : Int64) (m_place : Int32) (m_wrong : Int32) (m_items : Int32) (m_saidEvery : Int32) (m_readEvery : Int32) (m_readJumpers : Int32) (m_letters : Nat → Int32) {m_place_o : Int32} (hF : F_X12_skips m_length m_place m_letters = some (m_place_o)) : zMv l yX12_skips (zwl yX12_skips cX12_skips 1 none) { frames := 1, cells := 0, slots := 0, locals := 20 } D (TYS cI cZ cS cJ) [.ref m_a] [(m_a, .inr (12, [.ref m_a_letters, .int m_length, .int m_jumpers, .ref m_a_period, .ref m_a_hang, .ref m_a_st, .ref m_a_now, .ref m_a_book, .int m_undos, .ref m_a_images, .ref m_a_isKept, .int m_seen, .ref m_a_seenHang, .ref m_a_seenTick, .ref m_a_seenUp, .long m_trail, .int m_place, .int m_wrong, .int m_items, .int m_saidEvery, .int m_readEvery, .int m_readJumpers, .ref m_a_readOne])), (m_a_letters, .inl (cI, 120, .inl m_letters))] [(m_a, .inr (12, [.ref m_a_letters, .int m_length, .int m_jumpers, .ref m_a_period, .ref m_a_hang, .ref m_a_st, .ref m_a_now, .ref m_a_book, .int m_undos, .ref m_a_images, .ref m_a_isKept, .int m_seen, .ref m_a_seenHang, .ref m_a_seenTick, .ref m_a_seenUp, .long m_trail, .int m_place_o, .int m_wrong, .int m_items, .int m_saidEvery, .int m_readEvery, .int m_readJumpers, .ref m_a_readOne])), (m_a_letters, .inl (cI, 120, .inl m_letters))] := by
  refine zent_v (own := RX12) (by decide) rfl (Nat.le_of_ble_eq_true rfl) ?_
  intro p e s m below meth c A ls S hr hlocks hK hP hD hA hl
  have hx := S.1
  have hb := S.2.1
  have hml := S.2.2.1
  have hown := S.2.2.2.1
  have hT : ∀ w ∈ zt, w ∈ zwl yX12_skips cX12_skips 1 none := fun _ h => List.mem_cons_of_mem _ h
  have ht : ∀ w ∈ zt, w.before [.ref m_a].toArray s = true := fun w h => S.2.2.2.2 w (hT w h)
  have hl : lv_has ls 1 [(0, .ref m_a)] := hl
  have hS : va_S A s.heap s.heap [] := va_S.rf
  unfold F_X12_skips at hF
  have hloop_0 : ∀ (n : Nat) (m_length : Int32) (m_jumpers : Int32) (m_undos : Int32) (m_seen : Int32) (m_trail : Int64) (m_place : Int32) (m_wrong : Int32) (m_items : Int32) (m_saidEvery : Int32) (m_readEvery : Int32) (m_readJumpers : Int32) (m_letters : Nat → Int32) (m_place' : Int32), L_X12_skips_0 m_length m_letters n m_place = some (m_place') → ∀ (H : Heap) (locs : List Loc) (ls : Array Slot), va_P D classes [(m_a, .inr (12, [.ref m_a_letters, .int m_length, .int m_jumpers, .ref m_a_period, .ref m_a_hang, .ref m_a_st, .ref m_a_now, .ref m_a_book, .int m_undos, .ref m_a_images, .ref m_a_isKept, .int m_seen, .ref m_a_seenHang, .ref m_a_seenTick, .ref m_a_seenUp, .long m_trail, .int m_place, .int m_wrong, .int m_items, .int m_saidEvery, .int m_readEvery, .int m_readJumpers, .ref m_a_readOne])), (m_a_letters, .inl (cI, 120, .inl m_letters))] H → va_D A [(m_a, .inr (12, [.ref m_a_letters, .int m_length, .int m_jumpers, .ref m_a_period, .ref m_a_hang, .ref m_a_st, .ref m_a_now, .ref m_a_book, .int m_undos, .ref m_a_images, .ref m_a_isKept, .int m_seen, .ref m_a_seenHang, .ref m_a_seenTick, .ref m_a_seenUp, .long m_trail, .int m_place, .int m_wrong, .int m_items, .int m_saidEvery, .int m_readEvery, .int m_readJumpers, .ref m_a_readOne])), (m_a_letters, .inl (cI, 120, .inl m_letters))] → va_S A s.heap H locs → lv_has ls 1 [(0, .ref m_a)] → (∀ (H : Heap) (locs : List Loc) (ls : Array Slot), va_P D classes [(m_a, .inr (12, [.ref m_a_letters, .int m_length, .int m_jumpers, .ref m_a_period, .ref m_a_hang, .ref m_a_st, .ref m_a_now, .ref m_a_book, .int m_undos, .ref m_a_images, .ref m_a_isKept, .int m_seen, .ref m_a_seenHang, .ref m_a_seenTick, .ref m_a_seenUp, .long m_trail, .int m_place', .int m_wrong, .int m_items, .int m_saidEvery, .int m_readEvery, .int m_readJumpers, .ref m_a_readOne])), (m_a_letters, .inl (cI, 120, .inl m_letters))] H → va_D A [(m_a, .inr (12, [.ref m_a_letters, .int m_length, .int m_jumpers, .ref m_a_period, .ref m_a_hang, .ref m_a_st, .ref m_a_now, .ref m_a_book, .int m_undos, .ref m_a_images, .ref m_a_isKept, .int m_seen, .ref m_a_seenHang, .ref m_a_seenTick, .ref m_a_seenUp, .long m_trail, .int m_place', .int m_wrong, .int m_items, .int m_saidEvery, .int m_readEvery, .int m_readJumpers, .ref m_a_readOne])), (m_a_letters, .inl (cI, 120, .inl m_letters))] → va_S A s.heap H locs → lv_has ls 1 [(0, .ref m_a)] → W p l e { frames := 1, cells := 0, slots := 0, locals := 20 } s m [.ref m_a].toArray below meth c H locs 0 0 (zFv below [.ref m_a] s A D (TYS cI cZ cS cJ) [(m_a, .inr (12, [.ref m_a_letters, .int m_length, .int m_jumpers, .ref m_a_period, .ref m_a_hang, .ref m_a_st, .ref m_a_now, .ref m_a_book, .int m_undos, .ref m_a_images, .ref m_a_isKept, .int m_seen, .ref m_a_seenHang, .ref m_a_seenTick, .ref m_a_seenUp, .long m_trail, .int m_place_o, .int m_wrong, .int m_items, .int m_saidEvery, .int m_readEvery, .int m_readJumpers, .ref m_a_readOne])), (m_a_letters, .inl (cI, 120, .inl m_letters))]) (F0 m 22 ls [])) → W p l e { frames := 1, cells := 0, slots := 0, locals := 20 } s m [.ref m_a].toArray below meth c H locs 0 0 (zFv below [.ref m_a] s A D (TYS cI cZ cS cJ) [(m_a, .inr (12, [.ref m_a_letters, .int m_length, .int m_jumpers, .ref m_a_period, .ref m_a_hang, .ref m_a_st, .ref m_a_now, .ref m_a_book, .int m_undos, .ref m_a_images, .ref m_a_isKept, .int m_seen, .ref m_a_seenHang, .ref m_a_seenTick, .ref m_a_seenUp, .long m_trail, .int m_place_o, .int m_wrong, .int m_items, .int m_saidEvery, .int m_readEvery, .int m_readJumpers, .ref m_a_readOne])), (m_a_letters, .inl (cI, 120, .inl m_letters))]) (F0 m 0 ls []) := by
    intro n
    induction n with
    | zero =>
      intro m_length m_jumpers m_undos m_seen m_trail m_place m_wrong m_items m_saidEvery m_readEvery m_readJumpers m_letters m_place' hF
      rw [L_X12_skips_0_z] at hF
      cases hF
    | succ n ih_0 =>
      intro m_length m_jumpers m_undos m_seen m_trail m_place m_wrong m_items m_saidEvery m_readEvery m_readJumpers m_letters m_place' hF H locs ls hP hD hS hl hexit_0
      rw [L_X12_skips_0_s] at hF
      refine lv_aload_n hx hb dX12_skips_0 rfl (lv_at hl 0 rfl) ?_
      obtain ⟨r_4, hc_5, hF⟩ := zb1_s hF
      refine zcv_i (ws1 := [(m_a, .inr (12, [.ref m_a_letters, .int m_length, .int m_jumpers, .ref m_a_period, .ref m_a_hang, .ref m_a_st, .ref m_a_now, .ref m_a_book, .int m_undos, .ref m_a_images, .ref m_a_isKept, .int m_seen, .ref m_a_seenHang, .ref m_a_seenTick, .ref m_a_seenUp, .long m_trail, .int m_place, .int m_wrong, .int m_items, .int m_saidEvery, .int m_readEvery, .int m_readJumpers, .ref m_a_readOne])), (m_a_letters, .inl (cI, 120, .inl m_letters))]) S hT lk_X12_61 (c_X12_here l D cI cZ cS cJ m_a m_a_letters m_a_period m_a_hang m_a_st m_a_now m_a_book m_a_images m_a_isKept m_a_seenHang m_a_seenTick m_a_seenUp m_a_readOne m_length m_jumpers m_undos m_seen m_trail m_place m_wrong m_items m_saidEvery m_readEvery m_readJumpers m_letters hc_5) ⟨rfl, rfl, Nat.le_of_ble_eq_true rfl, Nat.le_of_ble_eq_true rfl⟩ hK hP hD hS hA [0, 1] [] [0, 1] rfl rfl rfl rfl rfl rfl rfl rfl rfl rfl rfl hl.1 rfl (Nat.le_of_ble_eq_true rfl) dX12_skips_1 ⟨Nat.zero_le _, Nat.zero_le _⟩ (fun H locs hP hD hS => ?_)
      refine lv_bipush (v := 32) hx hb dX12_skips_4 (by decide) ?_
      refine lv_icmp_ne (tgt := 22) hx hb dX12_skips_6 (by decide) (fun c_6 => ?_) (fun c_6 => ?_)
      · have hF := zi_neg c_6 hF
        have e_0 := zo1 hF
        subst e_0
        exact hexit_0 _ _ _ hP hD hS (lv_sub hl [0] rfl)
      · have hF := zi_pos c_6 hF
        refine lv_aload_n hx hb dX12_skips_9 rfl (lv_at hl 0 rfl) ?_
        refine lv_dup hx hb dX12_skips_10 rfl ?_
        refine va_get (D := D) (ci := 12) (v := .int m_place) (C := RX12) (T := TX12) (N := 23) hx hb ht iyX12 hown hK hP 0 rfl rfl 16 (by decide) (ht _ wf_X12_58) (fun _ h9 => h9) rfl dX12_skips_11 ?_
        refine lv_iconst (v := 1) hx hb dX12_skips_14 (by decide) ?_
        refine lv_iadd hx hb dX12_skips_15 ?_
        refine va_put (D := D) (ci := 12) (v := .int (m_place + 1)) (ty := .int) (C := RX12) (T := TX12) (N := 23) hx hb ht iyX12 tyX12 tyX12_ok nmX12 hown hK hP hD hS 0 rfl rfl 16 (by decide) (ht _ wf_X12_58) (fun _ h9 => h9) rfl (by decide +kernel) rfl rfl (Nat.le_of_ble_eq_true rfl) dX12_skips_16 (fun H locs hP hD hS => ?_)
        have hP : va_P D classes [(m_a, .inr (12, [.ref m_a_letters, .int m_length, .int m_jumpers, .ref m_a_period, .ref m_a_hang, .ref m_a_st, .ref m_a_now, .ref m_a_book, .int m_undos, .ref m_a_images, .ref m_a_isKept, .int m_seen, .ref m_a_seenHang, .ref m_a_seenTick, .ref m_a_seenUp, .long m_trail, .int (m_place + 1), .int m_wrong, .int m_items, .int m_saidEvery, .int m_readEvery, .int m_readJumpers, .ref m_a_readOne])), (m_a_letters, .inl (cI, 120, .inl m_letters))] H := hP
        have hD : va_D A [(m_a, .inr (12, [.ref m_a_letters, .int m_length, .int m_jumpers, .ref m_a_period, .ref m_a_hang, .ref m_a_st, .ref m_a_now, .ref m_a_book, .int m_undos, .ref m_a_images, .ref m_a_isKept, .int m_seen, .ref m_a_seenHang, .ref m_a_seenTick, .ref m_a_seenUp, .long m_trail, .int (m_place + 1), .int m_wrong, .int m_items, .int m_saidEvery, .int m_readEvery, .int m_readJumpers, .ref m_a_readOne])), (m_a_letters, .inl (cI, 120, .inl m_letters))] := hD
        refine lv_goto (tgt := 0) hx hb dX12_skips_19 (by decide) ?_
        exact ih_0 m_length m_jumpers m_undos m_seen m_trail (m_place + 1) m_wrong m_items m_saidEvery m_readEvery m_readJumpers m_letters _ hF _ _ _ hP hD hS (lv_sub hl [0] rfl) hexit_0
  obtain ⟨m_place_7, hL_8, hF⟩ := zb1_s hF
  refine hloop_0 300 m_length m_jumpers m_undos m_seen m_trail m_place m_wrong m_items m_saidEvery m_readEvery m_readJumpers m_letters m_place_7 hL_8 _ _ _ hP hD hS (lv_sub hl [0] rfl) (fun H locs ls hP hD hS hl => ?_)
  have e_0 := zo1 hF
  subst e_0
  exact zret_v S hr hlocks hK hP hD hS dX12_skips_22
