def L_X12_pace_19 (m_jumpers : Int32) (m_period : Nat → Int32) (m_hang : Nat → Int32) (m_st : Nat → Int32) (v1 : Int32) : Nat → (Nat → Int32) → Int32 → Int32 → Int32 → Option ((Nat → Int32) × Int32 × Int32 × Int32)
  | 0 => fun _ _ _ _ => none
  | n + 1 => fun m_now v2 v3 v4 => (if 10 ≤ v4 then some (m_now, v2, v3, v4) else (zb1 (F_X12_asItIs m_st m_now) (fun m_now_25 => (if v4 = (m_st (1 : Int32).toNatClampNeg) then (zb1 (F_X12_goesOn m_jumpers m_period m_hang m_now_25 v1) (fun m_now_28 => (zb1 (F_X12_bits (m_now_28 (3 : Int32).toNatClampNeg)) (fun r_30 => (if r_30 ≤ v3 then (L_X12_pace_19 m_jumpers m_period m_hang m_st v1 n m_now_28 v2 v3 (v4 + 1)) else (L_X12_pace_19 m_jumpers m_period m_hang m_st v1 n m_now_28 v4 r_30 (v4 + 1))))))) else (zb1 (F_X12_turns m_now_25 v4) (fun m_now_35 => (zb1 (F_X12_goesOn m_jumpers m_period m_hang m_now_35 v1) (fun m_now_37 => (zb1 (F_X12_bits (m_now_37 (3 : Int32).toNatClampNeg)) (fun r_39 => (if r_39 ≤ v3 then (L_X12_pace_19 m_jumpers m_period m_hang m_st v1 n m_now_37 v2 v3 (v4 + 1)) else (L_X12_pace_19 m_jumpers m_period m_hang m_st v1 n m_now_37 v4 r_39 (v4 + 1)))))))))))))
theorem L_X12_pace_19_z (m_jumpers : Int32) (m_period : Nat → Int32) (m_hang : Nat → Int32) (m_st : Nat → Int32) (v1 : Int32) (m_now : Nat → Int32) (v2 : Int32) (v3 : Int32) (v4 : Int32) : L_X12_pace_19 m_jumpers m_period m_hang m_st v1 0 m_now v2 v3 v4 = none := rfl
theorem L_X12_pace_19_s (m_jumpers : Int32) (m_period : Nat → Int32) (m_hang : Nat → Int32) (m_st : Nat → Int32) (v1 : Int32) (n : Nat) (m_now : Nat → Int32) (v2 : Int32) (v3 : Int32) (v4 : Int32) : L_X12_pace_19 m_jumpers m_period m_hang m_st v1 (n + 1) m_now v2 v3 v4 = (if 10 ≤ v4 then some (m_now, v2, v3, v4) else (zb1 (F_X12_asItIs m_st m_now) (fun m_now_25 => (if v4 = (m_st (1 : Int32).toNatClampNeg) then (zb1 (F_X12_goesOn m_jumpers m_period m_hang m_now_25 v1) (fun m_now_28 => (zb1 (F_X12_bits (m_now_28 (3 : Int32).toNatClampNeg)) (fun r_30 => (if r_30 ≤ v3 then (L_X12_pace_19 m_jumpers m_period m_hang m_st v1 n m_now_28 v2 v3 (v4 + 1)) else (L_X12_pace_19 m_jumpers m_period m_hang m_st v1 n m_now_28 v4 r_30 (v4 + 1))))))) else (zb1 (F_X12_turns m_now_25 v4) (fun m_now_35 => (zb1 (F_X12_goesOn m_jumpers m_period m_hang m_now_35 v1) (fun m_now_37 => (zb1 (F_X12_bits (m_now_37 (3 : Int32).toNatClampNeg)) (fun r_39 => (if r_39 ≤ v3 then (L_X12_pace_19 m_jumpers m_period m_hang m_st v1 n m_now_37 v2 v3 (v4 + 1)) else (L_X12_pace_19 m_jumpers m_period m_hang m_st v1 n m_now_37 v4 r_39 (v4 + 1))))))))))))) := rfl
def F_X12_pace (m_jumpers : Int32) (m_period : Nat → Int32) (m_hang : Nat → Int32) (m_st : Nat → Int32) (m_now : Nat → Int32) (p1 : Int32) : Option (Int32 × (Nat → Int32)) :=
  (zb1 (F_X12_in p1 0 120) (fun r_1 => (if r_1 = 0 then some ((-1), m_now) else (zb4 (L_X12_pace_19 m_jumpers m_period m_hang m_st p1 300 m_now 0 (-1) 2) (fun m_now_44 v2_45 v3_46 v4_47 => some (v2_45, m_now_44))))))
set_option maxHeartbeats 4000000 in
set_option maxRecDepth 100000 in
theorem c_X12_pace (l : Launch) (D : va_G) (cI cZ cS cJ : ClassId) (m_a : Nat) (m_a_letters : Nat) (m_a_period : Nat) (m_a_hang : Nat) (m_a_st : Nat) (m_a_now : Nat) (m_a_book : Nat) (m_a_images : Nat) (m_a_isKept : Nat) (m_a_seenHang : Nat) (m_a_seenTick : Nat) (m_a_seenUp : Nat) (m_a_readOne : Nat) (m_length : Int32) (m_jumpers : Int32) (m_undos : Int32) (m_seen : Int32) (m_trail : Int64) (m_place : Int32) (m_wrong : Int32) (m_items : Int32) (m_saidEvery : Int32) (m_readEvery : Int32) (m_readJumpers : Int32) (m_period : Nat → Int32) (m_hang : Nat → Int32) (m_st : Nat → Int32) (m_now : Nat → Int32) (p1 : Int32) {r_o : Int32} {m_now_o : Nat → Int32} (hF : F_X12_pace m_jumpers m_period m_hang m_st m_now p1 = some (r_o, m_now_o)) : zMi l yX12_pace (zwl yX12_pace cX12_pace 6 (some .int)) { frames := 3, cells := 0, slots := 0, locals := 69 } D (TYS cI cZ cS cJ) [.ref m_a, .int p1] [(m_a, .inr (12, [.ref m_a_letters, .int m_length, .int m_jumpers, .ref m_a_period, .ref m_a_hang, .ref m_a_st, .ref m_a_now, .ref m_a_book, .int m_undos, .ref m_a_images, .ref m_a_isKept, .int m_seen, .ref m_a_seenHang, .ref m_a_seenTick, .ref m_a_seenUp, .long m_trail, .int m_place, .int m_wrong, .int m_items, .int m_saidEvery, .int m_readEvery, .int m_readJumpers, .ref m_a_readOne])), (m_a_period, .inl (cI, 6, .inl m_period)), (m_a_hang, .inl (cI, 6, .inl m_hang)), (m_a_st, .inl (cI, 22, .inl m_st)), (m_a_now, .inl (cI, 22, .inl m_now))] [(m_a, .inr (12, [.ref m_a_letters, .int m_length, .int m_jumpers, .ref m_a_period, .ref m_a_hang, .ref m_a_st, .ref m_a_now, .ref m_a_book, .int m_undos, .ref m_a_images, .ref m_a_isKept, .int m_seen, .ref m_a_seenHang, .ref m_a_seenTick, .ref m_a_seenUp, .long m_trail, .int m_place, .int m_wrong, .int m_items, .int m_saidEvery, .int m_readEvery, .int m_readJumpers, .ref m_a_readOne])), (m_a_period, .inl (cI, 6, .inl m_period)), (m_a_hang, .inl (cI, 6, .inl m_hang)), (m_a_st, .inl (cI, 22, .inl m_st)), (m_a_now, .inl (cI, 22, .inl m_now_o))] r_o := by
  refine zent_i (own := RX12) (by decide) rfl (Nat.le_of_ble_eq_true rfl) ?_
  intro p e s m below meth c A ls S hr hlocks hK hP hD hA hl
  have hx := S.1
  have hb := S.2.1
  have hml := S.2.2.1
  have hown := S.2.2.2.1
  have hT : ∀ w ∈ zt, w ∈ zwl yX12_pace cX12_pace 6 (some .int) := fun _ h => List.mem_cons_of_mem _ h
  have ht : ∀ w ∈ zt, w.before [.ref m_a, .int p1].toArray s = true := fun w h => S.2.2.2.2 w (hT w h)
  have hl : lv_has ls 6 [(0, .ref m_a), (1, .int p1)] := hl
  have hS : va_S A s.heap s.heap [] := va_S.rf
  unfold F_X12_pace at hF
  have hloop_19 : ∀ (n : Nat) (m_length : Int32) (m_jumpers : Int32) (m_undos : Int32) (m_seen : Int32) (m_trail : Int64) (m_place : Int32) (m_wrong : Int32) (m_items : Int32) (m_saidEvery : Int32) (m_readEvery : Int32) (m_readJumpers : Int32) (m_period : Nat → Int32) (m_hang : Nat → Int32) (m_st : Nat → Int32) (m_now : Nat → Int32) (v1 : Int32) (v2 : Int32) (v3 : Int32) (v4 : Int32) (m_now' : Nat → Int32) (v2' : Int32) (v3' : Int32) (v4' : Int32), L_X12_pace_19 m_jumpers m_period m_hang m_st v1 n m_now v2 v3 v4 = some (m_now', v2', v3', v4') → ∀ (H : Heap) (locs : List Loc) (ls : Array Slot), va_P D classes [(m_a, .inr (12, [.ref m_a_letters, .int m_length, .int m_jumpers, .ref m_a_period, .ref m_a_hang, .ref m_a_st, .ref m_a_now, .ref m_a_book, .int m_undos, .ref m_a_images, .ref m_a_isKept, .int m_seen, .ref m_a_seenHang, .ref m_a_seenTick, .ref m_a_seenUp, .long m_trail, .int m_place, .int m_wrong, .int m_items, .int m_saidEvery, .int m_readEvery, .int m_readJumpers, .ref m_a_readOne])), (m_a_period, .inl (cI, 6, .inl m_period)), (m_a_hang, .inl (cI, 6, .inl m_hang)), (m_a_st, .inl (cI, 22, .inl m_st)), (m_a_now, .inl (cI, 22, .inl m_now))] H → va_D A [(m_a, .inr (12, [.ref m_a_letters, .int m_length, .int m_jumpers, .ref m_a_period, .ref m_a_hang, .ref m_a_st, .ref m_a_now, .ref m_a_book, .int m_undos, .ref m_a_images, .ref m_a_isKept, .int m_seen, .ref m_a_seenHang, .ref m_a_seenTick, .ref m_a_seenUp, .long m_trail, .int m_place, .int m_wrong, .int m_items, .int m_saidEvery, .int m_readEvery, .int m_readJumpers, .ref m_a_readOne])), (m_a_period, .inl (cI, 6, .inl m_period)), (m_a_hang, .inl (cI, 6, .inl m_hang)), (m_a_st, .inl (cI, 22, .inl m_st)), (m_a_now, .inl (cI, 22, .inl m_now))] → va_S A s.heap H locs → lv_has ls 6 [(0, .ref m_a), (1, .int v1), (2, .int v2), (3, .int v3), (4, .int v4)] → (∀ (H : Heap) (locs : List Loc) (ls : Array Slot), va_P D classes [(m_a, .inr (12, [.ref m_a_letters, .int m_length, .int m_jumpers, .ref m_a_period, .ref m_a_hang, .ref m_a_st, .ref m_a_now, .ref m_a_book, .int m_undos, .ref m_a_images, .ref m_a_isKept, .int m_seen, .ref m_a_seenHang, .ref m_a_seenTick, .ref m_a_seenUp, .long m_trail, .int m_place, .int m_wrong, .int m_items, .int m_saidEvery, .int m_readEvery, .int m_readJumpers, .ref m_a_readOne])), (m_a_period, .inl (cI, 6, .inl m_period)), (m_a_hang, .inl (cI, 6, .inl m_hang)), (m_a_st, .inl (cI, 22, .inl m_st)), (m_a_now, .inl (cI, 22, .inl m_now'))] H → va_D A [(m_a, .inr (12, [.ref m_a_letters, .int m_length, .int m_jumpers, .ref m_a_period, .ref m_a_hang, .ref m_a_st, .ref m_a_now, .ref m_a_book, .int m_undos, .ref m_a_images, .ref m_a_isKept, .int m_seen, .ref m_a_seenHang, .ref m_a_seenTick, .ref m_a_seenUp, .long m_trail, .int m_place, .int m_wrong, .int m_items, .int m_saidEvery, .int m_readEvery, .int m_readJumpers, .ref m_a_readOne])), (m_a_period, .inl (cI, 6, .inl m_period)), (m_a_hang, .inl (cI, 6, .inl m_hang)), (m_a_st, .inl (cI, 22, .inl m_st)), (m_a_now, .inl (cI, 22, .inl m_now'))] → va_S A s.heap H locs → lv_has ls 6 [(0, .ref m_a), (1, .int v1), (2, .int v2'), (3, .int v3'), (4, .int v4')] → W p l e { frames := 3, cells := 0, slots := 0, locals := 69 } s m [.ref m_a, .int p1].toArray below meth c H locs 0 0 (zFi below [.ref m_a, .int p1] s A D (TYS cI cZ cS cJ) [(m_a, .inr (12, [.ref m_a_letters, .int m_length, .int m_jumpers, .ref m_a_period, .ref m_a_hang, .ref m_a_st, .ref m_a_now, .ref m_a_book, .int m_undos, .ref m_a_images, .ref m_a_isKept, .int m_seen, .ref m_a_seenHang, .ref m_a_seenTick, .ref m_a_seenUp, .long m_trail, .int m_place, .int m_wrong, .int m_items, .int m_saidEvery, .int m_readEvery, .int m_readJumpers, .ref m_a_readOne])), (m_a_period, .inl (cI, 6, .inl m_period)), (m_a_hang, .inl (cI, 6, .inl m_hang)), (m_a_st, .inl (cI, 22, .inl m_st)), (m_a_now, .inl (cI, 22, .inl m_now_o))] r_o) (F0 m 98 ls [])) → W p l e { frames := 3, cells := 0, slots := 0, locals := 69 } s m [.ref m_a, .int p1].toArray below meth c H locs 0 0 (zFi below [.ref m_a, .int p1] s A D (TYS cI cZ cS cJ) [(m_a, .inr (12, [.ref m_a_letters, .int m_length, .int m_jumpers, .ref m_a_period, .ref m_a_hang, .ref m_a_st, .ref m_a_now, .ref m_a_book, .int m_undos, .ref m_a_images, .ref m_a_isKept, .int m_seen, .ref m_a_seenHang, .ref m_a_seenTick, .ref m_a_seenUp, .long m_trail, .int m_place, .int m_wrong, .int m_items, .int m_saidEvery, .int m_readEvery, .int m_readJumpers, .ref m_a_readOne])), (m_a_period, .inl (cI, 6, .inl m_period)), (m_a_hang, .inl (cI, 6, .inl m_hang)), (m_a_st, .inl (cI, 22, .inl m_st)), (m_a_now, .inl (cI, 22, .inl m_now_o))] r_o) (F0 m 19 ls []) := by
    intro n
    induction n with
    | zero =>
      intro m_length m_jumpers m_undos m_seen m_trail m_place m_wrong m_items m_saidEvery m_readEvery m_readJumpers m_period m_hang m_st m_now v1 v2 v3 v4 m_now' v2' v3' v4' hF
      rw [L_X12_pace_19_z] at hF
      cases hF
    | succ n ih_19 =>
      intro m_length m_jumpers m_undos m_seen m_trail m_place m_wrong m_items m_saidEvery m_readEvery m_readJumpers m_period m_hang m_st m_now v1 v2 v3 v4 m_now' v2' v3' v4' hF H locs ls hP hD hS hl hexit_19
      rw [L_X12_pace_19_s] at hF
      refine lv_iload hx hb dX12_pace_19 (lv_at hl 4 rfl) ?_
      refine lv_bipush (v := 10) hx hb dX12_pace_21 (by decide) ?_
      refine lv_icmp_ge (tgt := 98) hx hb dX12_pace_23 (by decide) (fun c_24 => ?_) (fun c_24 => ?_)
      · have hF := zi_pos c_24 hF
        obtain ⟨e_0, e_1, e_2, e_3⟩ := zo4 hF
        subst e_0
        subst e_1
        subst e_2
        subst e_3
        exact hexit_19 _ _ _ hP hD hS (lv_sub hl [0, 1, 2, 3, 4] rfl)
      · have hF := zi_neg c_24 hF
        refine lv_aload_n hx hb dX12_pace_26 rfl (lv_at hl 0 rfl) ?_
        obtain ⟨m_now_25, hc_26, hF⟩ := zb1_s hF
        refine zcv_v (ws1 := [(m_a, .inr (12, [.ref m_a_letters, .int m_length, .int m_jumpers, .ref m_a_period, .ref m_a_hang, .ref m_a_st, .ref m_a_now, .ref m_a_book, .int m_undos, .ref m_a_images, .ref m_a_isKept, .int m_seen, .ref m_a_seenHang, .ref m_a_seenTick, .ref m_a_seenUp, .long m_trail, .int m_place, .int m_wrong, .int m_items, .int m_saidEvery, .int m_readEvery, .int m_readJumpers, .ref m_a_readOne])), (m_a_period, .inl (cI, 6, .inl m_period)), (m_a_hang, .inl (cI, 6, .inl m_hang)), (m_a_st, .inl (cI, 22, .inl m_st)), (m_a_now, .inl (cI, 22, .inl m_now_25))]) S hT lk_X12_130 (c_X12_asItIs l D cI cZ cS cJ m_a m_a_letters m_a_period m_a_hang m_a_st m_a_now m_a_book m_a_images m_a_isKept m_a_seenHang m_a_seenTick m_a_seenUp m_a_readOne m_length m_jumpers m_undos m_seen m_trail m_place m_wrong m_items m_saidEvery m_readEvery m_readJumpers m_st m_now hc_26) ⟨rfl, rfl, Nat.le_of_ble_eq_true rfl, Nat.le_of_ble_eq_true rfl⟩ hK hP hD hS hA [0, 3, 4] [1, 2] [2, 0, 1, 3, 4] rfl rfl rfl rfl rfl rfl rfl rfl rfl rfl rfl hl.1 rfl (Nat.le_of_ble_eq_true rfl) dX12_pace_27 ⟨Nat.zero_le _, Nat.zero_le _⟩ (fun H locs hP hD hS => ?_)
        refine lv_iload hx hb dX12_pace_30 (lv_at hl 4 rfl) ?_
        refine lv_aload_n hx hb dX12_pace_32 rfl (lv_at hl 0 rfl) ?_
        refine va_get (D := D) (ci := 12) (v := .ref m_a_st) (C := RX12) (T := TX12) (N := 23) hx hb ht iyX12 hown hK hP 0 rfl rfl 5 (by decide) (ht _ wf_X12_19) (fun _ h9 => h9) rfl dX12_pace_33 ?_
        refine lv_iconst (v := 1) hx hb dX12_pace_36 (by decide) ?_
        refine va_iald hx hb hK hP 3 0 rfl rfl (show ¬ ((1 : Int32) < 0 ∨ 22 ≤ (1 : Int32).toNatClampNeg) by decide) dX12_pace_37 ?_
        refine lv_icmp_eq (tgt := 50) hx hb dX12_pace_38 (by decide) (fun c_27 => ?_) (fun c_27 => ?_)
        · have hF := zi_pos c_27 hF
          refine lv_aload_n hx hb dX12_pace_50 rfl (lv_at hl 0 rfl) ?_
          refine lv_iload_n hx hb dX12_pace_51 rfl (lv_at hl 1 rfl) ?_
          obtain ⟨m_now_28, hc_29, hF⟩ := zb1_s hF
          refine zcv_v (ws1 := [(m_a, .inr (12, [.ref m_a_letters, .int m_length, .int m_jumpers, .ref m_a_period, .ref m_a_hang, .ref m_a_st, .ref m_a_now, .ref m_a_book, .int m_undos, .ref m_a_images, .ref m_a_isKept, .int m_seen, .ref m_a_seenHang, .ref m_a_seenTick, .ref m_a_seenUp, .long m_trail, .int m_place, .int m_wrong, .int m_items, .int m_saidEvery, .int m_readEvery, .int m_readJumpers, .ref m_a_readOne])), (m_a_period, .inl (cI, 6, .inl m_period)), (m_a_hang, .inl (cI, 6, .inl m_hang)), (m_a_st, .inl (cI, 22, .inl m_st)), (m_a_now, .inl (cI, 22, .inl m_now_28))]) S hT lk_X12_153 (c_X12_goesOn l D cI cZ cS cJ m_a m_a_letters m_a_period m_a_hang m_a_st m_a_now m_a_book m_a_images m_a_isKept m_a_seenHang m_a_seenTick m_a_seenUp m_a_readOne m_length m_jumpers m_undos m_seen m_trail m_place m_wrong m_items m_saidEvery m_readEvery m_readJumpers m_period m_hang m_now_25 v1 hc_29) ⟨rfl, rfl, Nat.le_of_ble_eq_true rfl, Nat.le_of_ble_eq_true rfl⟩ hK hP hD hS hA [0, 1, 2, 4] [3] [1, 2, 3, 0, 4] rfl rfl rfl rfl rfl rfl rfl rfl rfl rfl rfl hl.1 rfl (Nat.le_of_ble_eq_true rfl) dX12_pace_52 ⟨Nat.zero_le _, Nat.zero_le _⟩ (fun H locs hP hD hS => ?_)
          refine lv_aload_n hx hb dX12_pace_55 rfl (lv_at hl 0 rfl) ?_
          refine va_get (D := D) (ci := 12) (v := .ref m_a_now) (C := RX12) (T := TX12) (N := 23) hx hb ht iyX12 hown hK hP 0 rfl rfl 6 (by decide) (ht _ wf_X12_22) (fun _ h9 => h9) rfl dX12_pace_56 ?_
          refine lv_iconst (v := 3) hx hb dX12_pace_59 (by decide) ?_
          refine va_iald hx hb hK hP 4 0 rfl rfl (show ¬ ((3 : Int32) < 0 ∨ 22 ≤ (3 : Int32).toNatClampNeg) by decide) dX12_pace_60 ?_
          obtain ⟨r_30, hc_31, hF⟩ := zb1_s hF
          refine zcs_i (ws1 := [(m_a, .inr (12, [.ref m_a_letters, .int m_length, .int m_jumpers, .ref m_a_period, .ref m_a_hang, .ref m_a_st, .ref m_a_now, .ref m_a_book, .int m_undos, .ref m_a_images, .ref m_a_isKept, .int m_seen, .ref m_a_seenHang, .ref m_a_seenTick, .ref m_a_seenUp, .long m_trail, .int m_place, .int m_wrong, .int m_items, .int m_saidEvery, .int m_readEvery, .int m_readJumpers, .ref m_a_readOne])), (m_a_period, .inl (cI, 6, .inl m_period)), (m_a_hang, .inl (cI, 6, .inl m_hang)), (m_a_st, .inl (cI, 22, .inl m_st)), (m_a_now, .inl (cI, 22, .inl m_now_28))]) S hT lk_X12_146 (c_X12_bits l D cI cZ cS cJ (m_now_28 (3 : Int32).toNatClampNeg) hc_31) ⟨rfl, rfl, Nat.le_of_ble_eq_true rfl, Nat.le_of_ble_eq_true rfl⟩ hK hP hD hS hA [] [0, 1, 2, 3, 4] [0, 1, 2, 3, 4] rfl rfl rfl rfl rfl rfl rfl rfl hl.1 rfl (Nat.le_of_ble_eq_true rfl) dX12_pace_61 ⟨Nat.zero_le _, Nat.zero_le _⟩ (fun H locs hP hD hS => ?_)
          refine lv_istore (lv' := [(5, .int r_30), (0, .ref m_a), (1, .int v1), (2, .int v2), (3, .int v3), (4, .int v4)]) hx hb dX12_pace_64 hl (by decide) rfl (fun ls hl => ?_)
          refine lv_iload hx hb dX12_pace_66 (lv_at hl 0 rfl) ?_
          refine lv_iload_n hx hb dX12_pace_68 rfl (lv_at hl 4 rfl) ?_
          refine lv_icmp_le (tgt := 77) hx hb dX12_pace_69 (by decide) (fun c_32 => ?_) (fun c_32 => ?_)
          · have hF := zi_pos c_32 hF
            refine lv_iload_n hx hb dX12_pace_77 rfl (lv_at hl 3 rfl) ?_
            refine lv_istore_n (lv' := [(2, .int v2), (5, .int r_30), (0, .ref m_a), (1, .int v1), (3, .int v3), (4, .int v4)]) hx hb dX12_pace_78 rfl hl (by decide) rfl (fun ls hl => ?_)
            refine lv_iload hx hb dX12_pace_79 (lv_at hl 1 rfl) ?_
            refine lv_iload_n hx hb dX12_pace_81 rfl (lv_at hl 4 rfl) ?_
            refine lv_icmp_le (tgt := 90) hx hb dX12_pace_82 (by decide) (fun c_33 => ?_) (fun c_33 => ?_)
            rotate_left
            · exact absurd c_32 c_33
            refine lv_iload_n hx hb dX12_pace_90 rfl (lv_at hl 4 rfl) ?_
            refine lv_istore_n (lv' := [(3, .int v3), (2, .int v2), (5, .int r_30), (0, .ref m_a), (1, .int v1), (4, .int v4)]) hx hb dX12_pace_91 rfl hl (by decide) rfl (fun ls hl => ?_)
            refine lv_iinc (v := v4 + 1) (lv' := [(4, .int (v4 + 1)), (3, .int v3), (2, .int v2), (5, .int r_30), (0, .ref m_a), (1, .int v1)]) hx hb dX12_pace_92 hl (k := 5) rfl (by rfl) (by decide) rfl (fun ls hl => ?_)
            refine lv_goto (tgt := 19) hx hb dX12_pace_95 (by decide) ?_
            exact ih_19 m_length m_jumpers m_undos m_seen m_trail m_place m_wrong m_items m_saidEvery m_readEvery m_readJumpers m_period m_hang m_st m_now_28 v1 v2 v3 (v4 + 1) _ _ _ _ hF _ _ _ hP hD hS (lv_sub hl [4, 5, 2, 1, 0] rfl) hexit_19
          · have hF := zi_neg c_32 hF
            refine lv_iload hx hb dX12_pace_72 (lv_at hl 5 rfl) ?_
            refine lv_goto (tgt := 78) hx hb dX12_pace_74 (by decide) ?_
            refine lv_istore_n (lv' := [(2, .int v4), (5, .int r_30), (0, .ref m_a), (1, .int v1), (3, .int v3), (4, .int v4)]) hx hb dX12_pace_78 rfl hl (by decide) rfl (fun ls hl => ?_)
            refine lv_iload hx hb dX12_pace_79 (lv_at hl 1 rfl) ?_
            refine lv_iload_n hx hb dX12_pace_81 rfl (lv_at hl 4 rfl) ?_
            refine lv_icmp_le (tgt := 90) hx hb dX12_pace_82 (by decide) (fun c_34 => ?_) (fun c_34 => ?_)
            · exact absurd c_34 c_32
            refine lv_iload hx hb dX12_pace_85 (lv_at hl 1 rfl) ?_
            refine lv_goto (tgt := 91) hx hb dX12_pace_87 (by decide) ?_
            refine lv_istore_n (lv' := [(3, .int r_30), (2, .int v4), (5, .int r_30), (0, .ref m_a), (1, .int v1), (4, .int v4)]) hx hb dX12_pace_91 rfl hl (by decide) rfl (fun ls hl => ?_)
            refine lv_iinc (v := v4 + 1) (lv' := [(4, .int (v4 + 1)), (3, .int r_30), (2, .int v4), (5, .int r_30), (0, .ref m_a), (1, .int v1)]) hx hb dX12_pace_92 hl (k := 5) rfl (by rfl) (by decide) rfl (fun ls hl => ?_)
            refine lv_goto (tgt := 19) hx hb dX12_pace_95 (by decide) ?_
            exact ih_19 m_length m_jumpers m_undos m_seen m_trail m_place m_wrong m_items m_saidEvery m_readEvery m_readJumpers m_period m_hang m_st m_now_28 v1 v4 r_30 (v4 + 1) _ _ _ _ hF _ _ _ hP hD hS (lv_sub hl [4, 5, 2, 1, 0] rfl) hexit_19
        · have hF := zi_neg c_27 hF
          refine lv_aload_n hx hb dX12_pace_41 rfl (lv_at hl 0 rfl) ?_
          refine va_get (D := D) (ci := 12) (v := .ref m_a_now) (C := RX12) (T := TX12) (N := 23) hx hb ht iyX12 hown hK hP 0 rfl rfl 6 (by decide) (ht _ wf_X12_22) (fun _ h9 => h9) rfl dX12_pace_42 ?_
          refine lv_iload hx hb dX12_pace_45 (lv_at hl 4 rfl) ?_
          obtain ⟨m_now_35, hc_36, hF⟩ := zb1_s hF
          refine zcs_v (ws1 := [(m_a, .inr (12, [.ref m_a_letters, .int m_length, .int m_jumpers, .ref m_a_period, .ref m_a_hang, .ref m_a_st, .ref m_a_now, .ref m_a_book, .int m_undos, .ref m_a_images, .ref m_a_isKept, .int m_seen, .ref m_a_seenHang, .ref m_a_seenTick, .ref m_a_seenUp, .long m_trail, .int m_place, .int m_wrong, .int m_items, .int m_saidEvery, .int m_readEvery, .int m_readJumpers, .ref m_a_readOne])), (m_a_period, .inl (cI, 6, .inl m_period)), (m_a_hang, .inl (cI, 6, .inl m_hang)), (m_a_st, .inl (cI, 22, .inl m_st)), (m_a_now, .inl (cI, 22, .inl m_now_35))]) S hT lk_X12_143 (c_X12_turns l D cI cZ cS cJ m_a_now m_now_25 v4 hc_36) ⟨rfl, rfl, Nat.le_of_ble_eq_true rfl, Nat.le_of_ble_eq_true rfl⟩ hK hP hD hS hA [4] [0, 1, 2, 3] [0, 1, 2, 3, 4] rfl rfl rfl rfl rfl rfl rfl rfl hl.1 rfl (Nat.le_of_ble_eq_true rfl) dX12_pace_47 ⟨Nat.zero_le _, Nat.zero_le _⟩ (fun H locs hP hD hS => ?_)
          refine lv_aload_n hx hb dX12_pace_50 rfl (lv_at hl 0 rfl) ?_
          refine lv_iload_n hx hb dX12_pace_51 rfl (lv_at hl 1 rfl) ?_
          obtain ⟨m_now_37, hc_38, hF⟩ := zb1_s hF
          refine zcv_v (ws1 := [(m_a, .inr (12, [.ref m_a_letters, .int m_length, .int m_jumpers, .ref m_a_period, .ref m_a_hang, .ref m_a_st, .ref m_a_now, .ref m_a_book, .int m_undos, .ref m_a_images, .ref m_a_isKept, .int m_seen, .ref m_a_seenHang, .ref m_a_seenTick, .ref m_a_seenUp, .long m_trail, .int m_place, .int m_wrong, .int m_items, .int m_saidEvery, .int m_readEvery, .int m_readJumpers, .ref m_a_readOne])), (m_a_period, .inl (cI, 6, .inl m_period)), (m_a_hang, .inl (cI, 6, .inl m_hang)), (m_a_st, .inl (cI, 22, .inl m_st)), (m_a_now, .inl (cI, 22, .inl m_now_37))]) S hT lk_X12_153 (c_X12_goesOn l D cI cZ cS cJ m_a m_a_letters m_a_period m_a_hang m_a_st m_a_now m_a_book m_a_images m_a_isKept m_a_seenHang m_a_seenTick m_a_seenUp m_a_readOne m_length m_jumpers m_undos m_seen m_trail m_place m_wrong m_items m_saidEvery m_readEvery m_readJumpers m_period m_hang m_now_35 v1 hc_38) ⟨rfl, rfl, Nat.le_of_ble_eq_true rfl, Nat.le_of_ble_eq_true rfl⟩ hK hP hD hS hA [0, 1, 2, 4] [3] [1, 2, 3, 0, 4] rfl rfl rfl rfl rfl rfl rfl rfl rfl rfl rfl hl.1 rfl (Nat.le_of_ble_eq_true rfl) dX12_pace_52 ⟨Nat.zero_le _, Nat.zero_le _⟩ (fun H locs hP hD hS => ?_)
          refine lv_aload_n hx hb dX12_pace_55 rfl (lv_at hl 0 rfl) ?_
          refine va_get (D := D) (ci := 12) (v := .ref m_a_now) (C := RX12) (T := TX12) (N := 23) hx hb ht iyX12 hown hK hP 0 rfl rfl 6 (by decide) (ht _ wf_X12_22) (fun _ h9 => h9) rfl dX12_pace_56 ?_
          refine lv_iconst (v := 3) hx hb dX12_pace_59 (by decide) ?_
          refine va_iald hx hb hK hP 4 0 rfl rfl (show ¬ ((3 : Int32) < 0 ∨ 22 ≤ (3 : Int32).toNatClampNeg) by decide) dX12_pace_60 ?_
          obtain ⟨r_39, hc_40, hF⟩ := zb1_s hF
          refine zcs_i (ws1 := [(m_a, .inr (12, [.ref m_a_letters, .int m_length, .int m_jumpers, .ref m_a_period, .ref m_a_hang, .ref m_a_st, .ref m_a_now, .ref m_a_book, .int m_undos, .ref m_a_images, .ref m_a_isKept, .int m_seen, .ref m_a_seenHang, .ref m_a_seenTick, .ref m_a_seenUp, .long m_trail, .int m_place, .int m_wrong, .int m_items, .int m_saidEvery, .int m_readEvery, .int m_readJumpers, .ref m_a_readOne])), (m_a_period, .inl (cI, 6, .inl m_period)), (m_a_hang, .inl (cI, 6, .inl m_hang)), (m_a_st, .inl (cI, 22, .inl m_st)), (m_a_now, .inl (cI, 22, .inl m_now_37))]) S hT lk_X12_146 (c_X12_bits l D cI cZ cS cJ (m_now_37 (3 : Int32).toNatClampNeg) hc_40) ⟨rfl, rfl, Nat.le_of_ble_eq_true rfl, Nat.le_of_ble_eq_true rfl⟩ hK hP hD hS hA [] [0, 1, 2, 3, 4] [0, 1, 2, 3, 4] rfl rfl rfl rfl rfl rfl rfl rfl hl.1 rfl (Nat.le_of_ble_eq_true rfl) dX12_pace_61 ⟨Nat.zero_le _, Nat.zero_le _⟩ (fun H locs hP hD hS => ?_)
          refine lv_istore (lv' := [(5, .int r_39), (0, .ref m_a), (1, .int v1), (2, .int v2), (3, .int v3), (4, .int v4)]) hx hb dX12_pace_64 hl (by decide) rfl (fun ls hl => ?_)
          refine lv_iload hx hb dX12_pace_66 (lv_at hl 0 rfl) ?_
          refine lv_iload_n hx hb dX12_pace_68 rfl (lv_at hl 4 rfl) ?_
          refine lv_icmp_le (tgt := 77) hx hb dX12_pace_69 (by decide) (fun c_41 => ?_) (fun c_41 => ?_)
          · have hF := zi_pos c_41 hF
            refine lv_iload_n hx hb dX12_pace_77 rfl (lv_at hl 3 rfl) ?_
            refine lv_istore_n (lv' := [(2, .int v2), (5, .int r_39), (0, .ref m_a), (1, .int v1), (3, .int v3), (4, .int v4)]) hx hb dX12_pace_78 rfl hl (by decide) rfl (fun ls hl => ?_)
            refine lv_iload hx hb dX12_pace_79 (lv_at hl 1 rfl) ?_
            refine lv_iload_n hx hb dX12_pace_81 rfl (lv_at hl 4 rfl) ?_
            refine lv_icmp_le (tgt := 90) hx hb dX12_pace_82 (by decide) (fun c_42 => ?_) (fun c_42 => ?_)
            rotate_left
            · exact absurd c_41 c_42
            refine lv_iload_n hx hb dX12_pace_90 rfl (lv_at hl 4 rfl) ?_
            refine lv_istore_n (lv' := [(3, .int v3), (2, .int v2), (5, .int r_39), (0, .ref m_a), (1, .int v1), (4, .int v4)]) hx hb dX12_pace_91 rfl hl (by decide) rfl (fun ls hl => ?_)
            refine lv_iinc (v := v4 + 1) (lv' := [(4, .int (v4 + 1)), (3, .int v3), (2, .int v2), (5, .int r_39), (0, .ref m_a), (1, .int v1)]) hx hb dX12_pace_92 hl (k := 5) rfl (by rfl) (by decide) rfl (fun ls hl => ?_)
            refine lv_goto (tgt := 19) hx hb dX12_pace_95 (by decide) ?_
            exact ih_19 m_length m_jumpers m_undos m_seen m_trail m_place m_wrong m_items m_saidEvery m_readEvery m_readJumpers m_period m_hang m_st m_now_37 v1 v2 v3 (v4 + 1) _ _ _ _ hF _ _ _ hP hD hS (lv_sub hl [4, 5, 2, 1, 0] rfl) hexit_19
          · have hF := zi_neg c_41 hF
            refine lv_iload hx hb dX12_pace_72 (lv_at hl 5 rfl) ?_
            refine lv_goto (tgt := 78) hx hb dX12_pace_74 (by decide) ?_
            refine lv_istore_n (lv' := [(2, .int v4), (5, .int r_39), (0, .ref m_a), (1, .int v1), (3, .int v3), (4, .int v4)]) hx hb dX12_pace_78 rfl hl (by decide) rfl (fun ls hl => ?_)
            refine lv_iload hx hb dX12_pace_79 (lv_at hl 1 rfl) ?_
            refine lv_iload_n hx hb dX12_pace_81 rfl (lv_at hl 4 rfl) ?_
            refine lv_icmp_le (tgt := 90) hx hb dX12_pace_82 (by decide) (fun c_43 => ?_) (fun c_43 => ?_)
            · exact absurd c_43 c_41
            refine lv_iload hx hb dX12_pace_85 (lv_at hl 1 rfl) ?_
            refine lv_goto (tgt := 91) hx hb dX12_pace_87 (by decide) ?_
            refine lv_istore_n (lv' := [(3, .int r_39), (2, .int v4), (5, .int r_39), (0, .ref m_a), (1, .int v1), (4, .int v4)]) hx hb dX12_pace_91 rfl hl (by decide) rfl (fun ls hl => ?_)
            refine lv_iinc (v := v4 + 1) (lv' := [(4, .int (v4 + 1)), (3, .int r_39), (2, .int v4), (5, .int r_39), (0, .ref m_a), (1, .int v1)]) hx hb dX12_pace_92 hl (k := 5) rfl (by rfl) (by decide) rfl (fun ls hl => ?_)
            refine lv_goto (tgt := 19) hx hb dX12_pace_95 (by decide) ?_
            exact ih_19 m_length m_jumpers m_undos m_seen m_trail m_place m_wrong m_items m_saidEvery m_readEvery m_readJumpers m_period m_hang m_st m_now_37 v1 v4 r_39 (v4 + 1) _ _ _ _ hF _ _ _ hP hD hS (lv_sub hl [4, 5, 2, 1, 0] rfl) hexit_19
  refine lv_iload_n hx hb dX12_pace_0 rfl (lv_at hl 1 rfl) ?_
  refine lv_iconst (v := 0) hx hb dX12_pace_1 (by decide) ?_
  refine lv_bipush (v := 120) hx hb dX12_pace_2 (by decide) ?_
  obtain ⟨r_1, hc_2, hF⟩ := zb1_s hF
  refine zcs_i (ws1 := [(m_a, .inr (12, [.ref m_a_letters, .int m_length, .int m_jumpers, .ref m_a_period, .ref m_a_hang, .ref m_a_st, .ref m_a_now, .ref m_a_book, .int m_undos, .ref m_a_images, .ref m_a_isKept, .int m_seen, .ref m_a_seenHang, .ref m_a_seenTick, .ref m_a_seenUp, .long m_trail, .int m_place, .int m_wrong, .int m_items, .int m_saidEvery, .int m_readEvery, .int m_readJumpers, .ref m_a_readOne])), (m_a_period, .inl (cI, 6, .inl m_period)), (m_a_hang, .inl (cI, 6, .inl m_hang)), (m_a_st, .inl (cI, 22, .inl m_st)), (m_a_now, .inl (cI, 22, .inl m_now))]) S hT lk_X12_51 (c_X12_in l D cI cZ cS cJ p1 0 120 hc_2) ⟨rfl, rfl, Nat.le_of_ble_eq_true rfl, Nat.le_of_ble_eq_true rfl⟩ hK hP hD hS hA [] [0, 1, 2, 3, 4] [0, 1, 2, 3, 4] rfl rfl rfl rfl rfl rfl rfl rfl hl.1 rfl (Nat.le_of_ble_eq_true rfl) dX12_pace_4 ⟨Nat.zero_le _, Nat.zero_le _⟩ (fun H locs hP hD hS => ?_)
  refine lv_if_ne (tgt := 12) hx hb dX12_pace_7 (by decide) (fun c_3 => ?_) (fun c_3 => ?_)
  · have hF := zi_neg c_3 hF
    refine lv_iconst (v := 0) hx hb dX12_pace_12 (by decide) ?_
    refine lv_istore_n (lv' := [(2, .int 0), (0, .ref m_a), (1, .int p1)]) hx hb dX12_pace_13 rfl hl (by decide) rfl (fun ls hl => ?_)
    refine lv_iconst (v := (-1)) hx hb dX12_pace_14 (by decide) ?_
    refine lv_istore_n (lv' := [(3, .int (-1)), (2, .int 0), (0, .ref m_a), (1, .int p1)]) hx hb dX12_pace_15 rfl hl (by decide) rfl (fun ls hl => ?_)
    refine lv_iconst (v := 2) hx hb dX12_pace_16 (by decide) ?_
    refine lv_istore (lv' := [(4, .int 2), (3, .int (-1)), (2, .int 0), (0, .ref m_a), (1, .int p1)]) hx hb dX12_pace_17 hl (by decide) rfl (fun ls hl => ?_)
    obtain ⟨m_now_44, v2_45, v3_46, v4_47, hL_48, hF⟩ := zb4_s hF
    refine hloop_19 300 m_length m_jumpers m_undos m_seen m_trail m_place m_wrong m_items m_saidEvery m_readEvery m_readJumpers m_period m_hang m_st m_now p1 0 (-1) 2 m_now_44 v2_45 v3_46 v4_47 hL_48 _ _ _ hP hD hS (lv_sub hl [3, 4, 2, 1, 0] rfl) (fun H locs ls hP hD hS hl => ?_)
    refine lv_iload_n hx hb dX12_pace_98 rfl (lv_at hl 2 rfl) ?_
    obtain ⟨e_0, e_1⟩ := zo2 hF
    subst e_0
    subst e_1
    exact zret_i S hr hlocks hK hP hD hS dX12_pace_99
  · have hF := zi_pos c_3 hF
    refine lv_iconst (v := (-1)) hx hb dX12_pace_10 (by decide) ?_
    obtain ⟨e_0, e_1⟩ := zo2 hF
    subst e_0
    subst e_1
    exact zret_i S hr hlocks hK hP hD hS dX12_pace_11

def L_X12_entry_33 (m_jumpers : Int32) (m_period : Nat → Int32) (m_hang : Nat → Int32) (m_st : Nat → Int32) (v1 : Int32) : Nat → (Nat → Int32) → Int32 → Int32 → Int32 → Option ((Nat → Int32) × Int32 × Int32 × Int32)
  | 0 => fun _ _ _ _ => none
  | n + 1 => fun m_now v2 v3 v4 => (if 12 ≤ v4 then some (m_now, v2, v3, v4) else (zb1 (F_X12_asItIs m_st m_now) (fun m_now_23 => (zb1 (F_X12_enters m_now_23 v1 v4) (fun m_now_25 => (zb2 (F_X12_tripOf m_jumpers m_period m_hang m_now_25 v1) (fun r_27 m_now_28 => (if r_27 = (-9) then (if 121 ≤ v3 then (L_X12_entry_33 m_jumpers m_period m_hang m_st v1 n m_now_28 v2 v3 (v4 + 1)) else (L_X12_entry_33 m_jumpers m_period m_hang m_st v1 n m_now_28 v4 121 (v4 + 1))) else (if r_27 ≤ v3 then (L_X12_entry_33 m_jumpers m_period m_hang m_st v1 n m_now_28 v2 v3 (v4 + 1)) else (L_X12_entry_33 m_jumpers m_period m_hang m_st v1 n m_now_28 v4 r_27 (v4 + 1)))))))))))
theorem L_X12_entry_33_z (m_jumpers : Int32) (m_period : Nat → Int32) (m_hang : Nat → Int32) (m_st : Nat → Int32) (v1 : Int32) (m_now : Nat → Int32) (v2 : Int32) (v3 : Int32) (v4 : Int32) : L_X12_entry_33 m_jumpers m_period m_hang m_st v1 0 m_now v2 v3 v4 = none := rfl
theorem L_X12_entry_33_s (m_jumpers : Int32) (m_period : Nat → Int32) (m_hang : Nat → Int32) (m_st : Nat → Int32) (v1 : Int32) (n : Nat) (m_now : Nat → Int32) (v2 : Int32) (v3 : Int32) (v4 : Int32) : L_X12_entry_33 m_jumpers m_period m_hang m_st v1 (n + 1) m_now v2 v3 v4 = (if 12 ≤ v4 then some (m_now, v2, v3, v4) else (zb1 (F_X12_asItIs m_st m_now) (fun m_now_23 => (zb1 (F_X12_enters m_now_23 v1 v4) (fun m_now_25 => (zb2 (F_X12_tripOf m_jumpers m_period m_hang m_now_25 v1) (fun r_27 m_now_28 => (if r_27 = (-9) then (if 121 ≤ v3 then (L_X12_entry_33 m_jumpers m_period m_hang m_st v1 n m_now_28 v2 v3 (v4 + 1)) else (L_X12_entry_33 m_jumpers m_period m_hang m_st v1 n m_now_28 v4 121 (v4 + 1))) else (if r_27 ≤ v3 then (L_X12_entry_33 m_jumpers m_period m_hang m_st v1 n m_now_28 v2 v3 (v4 + 1)) else (L_X12_entry_33 m_jumpers m_period m_hang m_st v1 n m_now_28 v4 r_27 (v4 + 1))))))))))) := rfl
def F_X12_entry (m_jumpers : Int32) (m_period : Nat → Int32) (m_hang : Nat → Int32) (m_st : Nat → Int32) (m_now : Nat → Int32) (p1 : Int32) : Option (Int32 × (Nat → Int32)) :=
  (zb1 (F_X12_isJumper m_jumpers p1) (fun r_1 => (if r_1 = 0 then some ((-1), m_now) else (zb1 (F_X12_has (m_st (3 : Int32).toNatClampNeg) p1) (fun r_4 => (if r_4 = 0 then (zb4 (L_X12_entry_33 m_jumpers m_period m_hang m_st p1 300 m_now 0 (-1) 0) (fun m_now_37 v2_38 v3_39 v4_40 => some (v2_38, m_now_37))) else some ((-2), m_now)))))))
set_option maxHeartbeats 4000000 in
set_option maxRecDepth 100000 in
theorem c_X12_entry (l : Launch) (D : va_G) (cI cZ cS cJ : ClassId) (m_a : Nat) (m_a_letters : Nat) (m_a_period : Nat) (m_a_hang : Nat) (m_a_st : Nat) (m_a_now : Nat) (m_a_book : Nat) (m_a_images : Nat) (m_a_isKept : Nat) (m_a_seenHang : Nat) (m_a_seenTick : Nat) (m_a_seenUp : Nat) (m_a_readOne : Nat) (m_length : Int32) (m_jumpers : Int32) (m_undos : Int32) (m_seen : Int32) (m_trail : Int64) (m_place : Int32) (m_wrong : Int32) (m_items : Int32) (m_saidEvery : Int32) (m_readEvery : Int32) (m_readJumpers : Int32) (m_period : Nat → Int32) (m_hang : Nat → Int32) (m_st : Nat → Int32) (m_now : Nat → Int32) (p1 : Int32) {r_o : Int32} {m_now_o : Nat → Int32} (hF : F_X12_entry m_jumpers m_period m_hang m_st m_now p1 = some (r_o, m_now_o)) : zMi l yX12_entry (zwl yX12_entry cX12_entry 7 (some .int)) { frames := 3, cells := 0, slots := 0, locals := 69 } D (TYS cI cZ cS cJ) [.ref m_a, .int p1] [(m_a, .inr (12, [.ref m_a_letters, .int m_length, .int m_jumpers, .ref m_a_period, .ref m_a_hang, .ref m_a_st, .ref m_a_now, .ref m_a_book, .int m_undos, .ref m_a_images, .ref m_a_isKept, .int m_seen, .ref m_a_seenHang, .ref m_a_seenTick, .ref m_a_seenUp, .long m_trail, .int m_place, .int m_wrong, .int m_items, .int m_saidEvery, .int m_readEvery, .int m_readJumpers, .ref m_a_readOne])), (m_a_period, .inl (cI, 6, .inl m_period)), (m_a_hang, .inl (cI, 6, .inl m_hang)), (m_a_st, .inl (cI, 22, .inl m_st)), (m_a_now, .inl (cI, 22, .inl m_now))] [(m_a, .inr (12, [.ref m_a_letters, .int m_length, .int m_jumpers, .ref m_a_period, .ref m_a_hang, .ref m_a_st, .ref m_a_now, .ref m_a_book, .int m_undos, .ref m_a_images, .ref m_a_isKept, .int m_seen, .ref m_a_seenHang, .ref m_a_seenTick, .ref m_a_seenUp, .long m_trail, .int m_place, .int m_wrong, .int m_items, .int m_saidEvery, .int m_readEvery, .int m_readJumpers, .ref m_a_readOne])), (m_a_period, .inl (cI, 6, .inl m_period)), (m_a_hang, .inl (cI, 6, .inl m_hang)), (m_a_st, .inl (cI, 22, .inl m_st)), (m_a_now, .inl (cI, 22, .inl m_now_o))] r_o := by
  refine zent_i (own := RX12) (by decide) rfl (Nat.le_of_ble_eq_true rfl) ?_
  intro p e s m below meth c A ls S hr hlocks hK hP hD hA hl
  have hx := S.1
  have hb := S.2.1
  have hml := S.2.2.1
  have hown := S.2.2.2.1
  have hT : ∀ w ∈ zt, w ∈ zwl yX12_entry cX12_entry 7 (some .int) := fun _ h => List.mem_cons_of_mem _ h
  have ht : ∀ w ∈ zt, w.before [.ref m_a, .int p1].toArray s = true := fun w h => S.2.2.2.2 w (hT w h)
  have hl : lv_has ls 7 [(0, .ref m_a), (1, .int p1)] := hl
  have hS : va_S A s.heap s.heap [] := va_S.rf
  unfold F_X12_entry at hF
  have hloop_33 : ∀ (n : Nat) (m_length : Int32) (m_jumpers : Int32) (m_undos : Int32) (m_seen : Int32) (m_trail : Int64) (m_place : Int32) (m_wrong : Int32) (m_items : Int32) (m_saidEvery : Int32) (m_readEvery : Int32) (m_readJumpers : Int32) (m_period : Nat → Int32) (m_hang : Nat → Int32) (m_st : Nat → Int32) (m_now : Nat → Int32) (v1 : Int32) (v2 : Int32) (v3 : Int32) (v4 : Int32) (m_now' : Nat → Int32) (v2' : Int32) (v3' : Int32) (v4' : Int32), L_X12_entry_33 m_jumpers m_period m_hang m_st v1 n m_now v2 v3 v4 = some (m_now', v2', v3', v4') → ∀ (H : Heap) (locs : List Loc) (ls : Array Slot), va_P D classes [(m_a, .inr (12, [.ref m_a_letters, .int m_length, .int m_jumpers, .ref m_a_period, .ref m_a_hang, .ref m_a_st, .ref m_a_now, .ref m_a_book, .int m_undos, .ref m_a_images, .ref m_a_isKept, .int m_seen, .ref m_a_seenHang, .ref m_a_seenTick, .ref m_a_seenUp, .long m_trail, .int m_place, .int m_wrong, .int m_items, .int m_saidEvery, .int m_readEvery, .int m_readJumpers, .ref m_a_readOne])), (m_a_period, .inl (cI, 6, .inl m_period)), (m_a_hang, .inl (cI, 6, .inl m_hang)), (m_a_st, .inl (cI, 22, .inl m_st)), (m_a_now, .inl (cI, 22, .inl m_now))] H → va_D A [(m_a, .inr (12, [.ref m_a_letters, .int m_length, .int m_jumpers, .ref m_a_period, .ref m_a_hang, .ref m_a_st, .ref m_a_now, .ref m_a_book, .int m_undos, .ref m_a_images, .ref m_a_isKept, .int m_seen, .ref m_a_seenHang, .ref m_a_seenTick, .ref m_a_seenUp, .long m_trail, .int m_place, .int m_wrong, .int m_items, .int m_saidEvery, .int m_readEvery, .int m_readJumpers, .ref m_a_readOne])), (m_a_period, .inl (cI, 6, .inl m_period)), (m_a_hang, .inl (cI, 6, .inl m_hang)), (m_a_st, .inl (cI, 22, .inl m_st)), (m_a_now, .inl (cI, 22, .inl m_now))] → va_S A s.heap H locs → lv_has ls 7 [(0, .ref m_a), (1, .int v1), (2, .int v2), (3, .int v3), (4, .int v4)] → (∀ (H : Heap) (locs : List Loc) (ls : Array Slot), va_P D classes [(m_a, .inr (12, [.ref m_a_letters, .int m_length, .int m_jumpers, .ref m_a_period, .ref m_a_hang, .ref m_a_st, .ref m_a_now, .ref m_a_book, .int m_undos, .ref m_a_images, .ref m_a_isKept, .int m_seen, .ref m_a_seenHang, .ref m_a_seenTick, .ref m_a_seenUp, .long m_trail, .int m_place, .int m_wrong, .int m_items, .int m_saidEvery, .int m_readEvery, .int m_readJumpers, .ref m_a_readOne])), (m_a_period, .inl (cI, 6, .inl m_period)), (m_a_hang, .inl (cI, 6, .inl m_hang)), (m_a_st, .inl (cI, 22, .inl m_st)), (m_a_now, .inl (cI, 22, .inl m_now'))] H → va_D A [(m_a, .inr (12, [.ref m_a_letters, .int m_length, .int m_jumpers, .ref m_a_period, .ref m_a_hang, .ref m_a_st, .ref m_a_now, .ref m_a_book, .int m_undos, .ref m_a_images, .ref m_a_isKept, .int m_seen, .ref m_a_seenHang, .ref m_a_seenTick, .ref m_a_seenUp, .long m_trail, .int m_place, .int m_wrong, .int m_items, .int m_saidEvery, .int m_readEvery, .int m_readJumpers, .ref m_a_readOne])), (m_a_period, .inl (cI, 6, .inl m_period)), (m_a_hang, .inl (cI, 6, .inl m_hang)), (m_a_st, .inl (cI, 22, .inl m_st)), (m_a_now, .inl (cI, 22, .inl m_now'))] → va_S A s.heap H locs → lv_has ls 7 [(0, .ref m_a), (1, .int v1), (2, .int v2'), (3, .int v3'), (4, .int v4')] → W p l e { frames := 3, cells := 0, slots := 0, locals := 69 } s m [.ref m_a, .int p1].toArray below meth c H locs 0 0 (zFi below [.ref m_a, .int p1] s A D (TYS cI cZ cS cJ) [(m_a, .inr (12, [.ref m_a_letters, .int m_length, .int m_jumpers, .ref m_a_period, .ref m_a_hang, .ref m_a_st, .ref m_a_now, .ref m_a_book, .int m_undos, .ref m_a_images, .ref m_a_isKept, .int m_seen, .ref m_a_seenHang, .ref m_a_seenTick, .ref m_a_seenUp, .long m_trail, .int m_place, .int m_wrong, .int m_items, .int m_saidEvery, .int m_readEvery, .int m_readJumpers, .ref m_a_readOne])), (m_a_period, .inl (cI, 6, .inl m_period)), (m_a_hang, .inl (cI, 6, .inl m_hang)), (m_a_st, .inl (cI, 22, .inl m_st)), (m_a_now, .inl (cI, 22, .inl m_now_o))] r_o) (F0 m 109 ls [])) → W p l e { frames := 3, cells := 0, slots := 0, locals := 69 } s m [.ref m_a, .int p1].toArray below meth c H locs 0 0 (zFi below [.ref m_a, .int p1] s A D (TYS cI cZ cS cJ) [(m_a, .inr (12, [.ref m_a_letters, .int m_length, .int m_jumpers, .ref m_a_period, .ref m_a_hang, .ref m_a_st, .ref m_a_now, .ref m_a_book, .int m_undos, .ref m_a_images, .ref m_a_isKept, .int m_seen, .ref m_a_seenHang, .ref m_a_seenTick, .ref m_a_seenUp, .long m_trail, .int m_place, .int m_wrong, .int m_items, .int m_saidEvery, .int m_readEvery, .int m_readJumpers, .ref m_a_readOne])), (m_a_period, .inl (cI, 6, .inl m_period)), (m_a_hang, .inl (cI, 6, .inl m_hang)), (m_a_st, .inl (cI, 22, .inl m_st)), (m_a_now, .inl (cI, 22, .inl m_now_o))] r_o) (F0 m 33 ls []) := by
    intro n
    induction n with
    | zero =>
      intro m_length m_jumpers m_undos m_seen m_trail m_place m_wrong m_items m_saidEvery m_readEvery m_readJumpers m_period m_hang m_st m_now v1 v2 v3 v4 m_now' v2' v3' v4' hF
      rw [L_X12_entry_33_z] at hF
      cases hF
    | succ n ih_33 =>
      intro m_length m_jumpers m_undos m_seen m_trail m_place m_wrong m_items m_saidEvery m_readEvery m_readJumpers m_period m_hang m_st m_now v1 v2 v3 v4 m_now' v2' v3' v4' hF H locs ls hP hD hS hl hexit_33
      rw [L_X12_entry_33_s] at hF
      refine lv_iload hx hb dX12_entry_33 (lv_at hl 4 rfl) ?_
      refine lv_bipush (v := 12) hx hb dX12_entry_35 (by decide) ?_
      refine lv_icmp_ge (tgt := 109) hx hb dX12_entry_37 (by decide) (fun c_22 => ?_) (fun c_22 => ?_)
      · have hF := zi_pos c_22 hF
        obtain ⟨e_0, e_1, e_2, e_3⟩ := zo4 hF
        subst e_0
        subst e_1
        subst e_2
        subst e_3
        exact hexit_33 _ _ _ hP hD hS (lv_sub hl [0, 1, 2, 3, 4] rfl)
      · have hF := zi_neg c_22 hF
        refine lv_aload_n hx hb dX12_entry_40 rfl (lv_at hl 0 rfl) ?_
        obtain ⟨m_now_23, hc_24, hF⟩ := zb1_s hF
        refine zcv_v (ws1 := [(m_a, .inr (12, [.ref m_a_letters, .int m_length, .int m_jumpers, .ref m_a_period, .ref m_a_hang, .ref m_a_st, .ref m_a_now, .ref m_a_book, .int m_undos, .ref m_a_images, .ref m_a_isKept, .int m_seen, .ref m_a_seenHang, .ref m_a_seenTick, .ref m_a_seenUp, .long m_trail, .int m_place, .int m_wrong, .int m_items, .int m_saidEvery, .int m_readEvery, .int m_readJumpers, .ref m_a_readOne])), (m_a_period, .inl (cI, 6, .inl m_period)), (m_a_hang, .inl (cI, 6, .inl m_hang)), (m_a_st, .inl (cI, 22, .inl m_st)), (m_a_now, .inl (cI, 22, .inl m_now_23))]) S hT lk_X12_130 (c_X12_asItIs l D cI cZ cS cJ m_a m_a_letters m_a_period m_a_hang m_a_st m_a_now m_a_book m_a_images m_a_isKept m_a_seenHang m_a_seenTick m_a_seenUp m_a_readOne m_length m_jumpers m_undos m_seen m_trail m_place m_wrong m_items m_saidEvery m_readEvery m_readJumpers m_st m_now hc_24) ⟨rfl, rfl, Nat.le_of_ble_eq_true rfl, Nat.le_of_ble_eq_true rfl⟩ hK hP hD hS hA [0, 3, 4] [1, 2] [2, 0, 1, 3, 4] rfl rfl rfl rfl rfl rfl rfl rfl rfl rfl rfl hl.1 rfl (Nat.le_of_ble_eq_true rfl) dX12_entry_41 ⟨Nat.zero_le _, Nat.zero_le _⟩ (fun H locs hP hD hS => ?_)
        refine lv_aload_n hx hb dX12_entry_44 rfl (lv_at hl 0 rfl) ?_
        refine va_get (D := D) (ci := 12) (v := .ref m_a_now) (C := RX12) (T := TX12) (N := 23) hx hb ht iyX12 hown hK hP 0 rfl rfl 6 (by decide) (ht _ wf_X12_22) (fun _ h9 => h9) rfl dX12_entry_45 ?_
        refine lv_iload_n hx hb dX12_entry_48 rfl (lv_at hl 1 rfl) ?_
        refine lv_iload hx hb dX12_entry_49 (lv_at hl 4 rfl) ?_
        obtain ⟨m_now_25, hc_26, hF⟩ := zb1_s hF
        refine zcs_v (ws1 := [(m_a, .inr (12, [.ref m_a_letters, .int m_length, .int m_jumpers, .ref m_a_period, .ref m_a_hang, .ref m_a_st, .ref m_a_now, .ref m_a_book, .int m_undos, .ref m_a_images, .ref m_a_isKept, .int m_seen, .ref m_a_seenHang, .ref m_a_seenTick, .ref m_a_seenUp, .long m_trail, .int m_place, .int m_wrong, .int m_items, .int m_saidEvery, .int m_readEvery, .int m_readJumpers, .ref m_a_readOne])), (m_a_period, .inl (cI, 6, .inl m_period)), (m_a_hang, .inl (cI, 6, .inl m_hang)), (m_a_st, .inl (cI, 22, .inl m_st)), (m_a_now, .inl (cI, 22, .inl m_now_25))]) S hT lk_X12_149 (c_X12_enters l D cI cZ cS cJ m_a_now m_now_23 v1 v4 hc_26) ⟨rfl, rfl, Nat.le_of_ble_eq_true rfl, Nat.le_of_ble_eq_true rfl⟩ hK hP hD hS hA [4] [0, 1, 2, 3] [0, 1, 2, 3, 4] rfl rfl rfl rfl rfl rfl rfl rfl hl.1 rfl (Nat.le_of_ble_eq_true rfl) dX12_entry_51 ⟨Nat.zero_le _, Nat.zero_le _⟩ (fun H locs hP hD hS => ?_)
        refine lv_aload_n hx hb dX12_entry_54 rfl (lv_at hl 0 rfl) ?_
        refine lv_iload_n hx hb dX12_entry_55 rfl (lv_at hl 1 rfl) ?_
        obtain ⟨r_27, m_now_28, hc_29, hF⟩ := zb2_s hF
        refine zcv_i (ws1 := [(m_a, .inr (12, [.ref m_a_letters, .int m_length, .int m_jumpers, .ref m_a_period, .ref m_a_hang, .ref m_a_st, .ref m_a_now, .ref m_a_book, .int m_undos, .ref m_a_images, .ref m_a_isKept, .int m_seen, .ref m_a_seenHang, .ref m_a_seenTick, .ref m_a_seenUp, .long m_trail, .int m_place, .int m_wrong, .int m_items, .int m_saidEvery, .int m_readEvery, .int m_readJumpers, .ref m_a_readOne])), (m_a_period, .inl (cI, 6, .inl m_period)), (m_a_hang, .inl (cI, 6, .inl m_hang)), (m_a_st, .inl (cI, 22, .inl m_st)), (m_a_now, .inl (cI, 22, .inl m_now_28))]) S hT lk_X12_133 (c_X12_tripOf l D cI cZ cS cJ m_a m_a_letters m_a_period m_a_hang m_a_st m_a_now m_a_book m_a_images m_a_isKept m_a_seenHang m_a_seenTick m_a_seenUp m_a_readOne m_length m_jumpers m_undos m_seen m_trail m_place m_wrong m_items m_saidEvery m_readEvery m_readJumpers m_period m_hang m_now_25 v1 hc_29) ⟨rfl, rfl, Nat.le_of_ble_eq_true rfl, Nat.le_of_ble_eq_true rfl⟩ hK hP hD hS hA [0, 1, 2, 4] [3] [1, 2, 3, 0, 4] rfl rfl rfl rfl rfl rfl rfl rfl rfl rfl rfl hl.1 rfl (Nat.le_of_ble_eq_true rfl) dX12_entry_56 ⟨Nat.zero_le _, Nat.zero_le _⟩ (fun H locs hP hD hS => ?_)
        refine lv_istore (lv' := [(5, .int r_27), (0, .ref m_a), (1, .int v1), (2, .int v2), (3, .int v3), (4, .int v4)]) hx hb dX12_entry_59 hl (by decide) rfl (fun ls hl => ?_)
        refine lv_iload hx hb dX12_entry_61 (lv_at hl 0 rfl) ?_
        refine lv_bipush (v := (-9)) hx hb dX12_entry_63 (by decide) ?_
        refine lv_icmp_ne (tgt := 73) hx hb dX12_entry_65 (by decide) (fun c_30 => ?_) (fun c_30 => ?_)
        · have hF := zi_neg c_30 hF
          refine lv_iload hx hb dX12_entry_73 (lv_at hl 0 rfl) ?_
          refine lv_istore (lv' := [(6, .int r_27), (5, .int r_27), (0, .ref m_a), (1, .int v1), (2, .int v2), (3, .int v3), (4, .int v4)]) hx hb dX12_entry_75 hl (by decide) rfl (fun ls hl => ?_)
          refine lv_iload hx hb dX12_entry_77 (lv_at hl 0 rfl) ?_
          refine lv_iload_n hx hb dX12_entry_79 rfl (lv_at hl 5 rfl) ?_
          refine lv_icmp_le (tgt := 88) hx hb dX12_entry_80 (by decide) (fun c_31 => ?_) (fun c_31 => ?_)
          · have hF := zi_pos c_31 hF
            refine lv_iload_n hx hb dX12_entry_88 rfl (lv_at hl 4 rfl) ?_
            refine lv_istore_n (lv' := [(2, .int v2), (6, .int r_27), (5, .int r_27), (0, .ref m_a), (1, .int v1), (3, .int v3), (4, .int v4)]) hx hb dX12_entry_89 rfl hl (by decide) rfl (fun ls hl => ?_)
            refine lv_iload hx hb dX12_entry_90 (lv_at hl 1 rfl) ?_
            refine lv_iload_n hx hb dX12_entry_92 rfl (lv_at hl 5 rfl) ?_
            refine lv_icmp_le (tgt := 101) hx hb dX12_entry_93 (by decide) (fun c_32 => ?_) (fun c_32 => ?_)
            rotate_left
            · exact absurd c_31 c_32
            refine lv_iload_n hx hb dX12_entry_101 rfl (lv_at hl 5 rfl) ?_
            refine lv_istore_n (lv' := [(3, .int v3), (2, .int v2), (6, .int r_27), (5, .int r_27), (0, .ref m_a), (1, .int v1), (4, .int v4)]) hx hb dX12_entry_102 rfl hl (by decide) rfl (fun ls hl => ?_)
            refine lv_iinc (v := v4 + 1) (lv' := [(4, .int (v4 + 1)), (3, .int v3), (2, .int v2), (6, .int r_27), (5, .int r_27), (0, .ref m_a), (1, .int v1)]) hx hb dX12_entry_103 hl (k := 6) rfl (by rfl) (by decide) rfl (fun ls hl => ?_)
            refine lv_goto (tgt := 33) hx hb dX12_entry_106 (by decide) ?_
            exact ih_33 m_length m_jumpers m_undos m_seen m_trail m_place m_wrong m_items m_saidEvery m_readEvery m_readJumpers m_period m_hang m_st m_now_28 v1 v2 v3 (v4 + 1) _ _ _ _ hF _ _ _ hP hD hS (lv_sub hl [5, 6, 2, 1, 0] rfl) hexit_33
          · have hF := zi_neg c_31 hF
            refine lv_iload hx hb dX12_entry_83 (lv_at hl 6 rfl) ?_
            refine lv_goto (tgt := 89) hx hb dX12_entry_85 (by decide) ?_
            refine lv_istore_n (lv' := [(2, .int v4), (6, .int r_27), (5, .int r_27), (0, .ref m_a), (1, .int v1), (3, .int v3), (4, .int v4)]) hx hb dX12_entry_89 rfl hl (by decide) rfl (fun ls hl => ?_)
            refine lv_iload hx hb dX12_entry_90 (lv_at hl 1 rfl) ?_
            refine lv_iload_n hx hb dX12_entry_92 rfl (lv_at hl 5 rfl) ?_
            refine lv_icmp_le (tgt := 101) hx hb dX12_entry_93 (by decide) (fun c_33 => ?_) (fun c_33 => ?_)
            · exact absurd c_33 c_31
            refine lv_iload hx hb dX12_entry_96 (lv_at hl 1 rfl) ?_
            refine lv_goto (tgt := 102) hx hb dX12_entry_98 (by decide) ?_
            refine lv_istore_n (lv' := [(3, .int r_27), (2, .int v4), (6, .int r_27), (5, .int r_27), (0, .ref m_a), (1, .int v1), (4, .int v4)]) hx hb dX12_entry_102 rfl hl (by decide) rfl (fun ls hl => ?_)
            refine lv_iinc (v := v4 + 1) (lv' := [(4, .int (v4 + 1)), (3, .int r_27), (2, .int v4), (6, .int r_27), (5, .int r_27), (0, .ref m_a), (1, .int v1)]) hx hb dX12_entry_103 hl (k := 6) rfl (by rfl) (by decide) rfl (fun ls hl => ?_)
            refine lv_goto (tgt := 33) hx hb dX12_entry_106 (by decide) ?_
            exact ih_33 m_length m_jumpers m_undos m_seen m_trail m_place m_wrong m_items m_saidEvery m_readEvery m_readJumpers m_period m_hang m_st m_now_28 v1 v4 r_27 (v4 + 1) _ _ _ _ hF _ _ _ hP hD hS (lv_sub hl [5, 6, 2, 1, 0] rfl) hexit_33
        · have hF := zi_pos c_30 hF
          refine lv_bipush (v := 121) hx hb dX12_entry_68 (by decide) ?_
          refine lv_goto (tgt := 75) hx hb dX12_entry_70 (by decide) ?_
          refine lv_istore (lv' := [(6, .int 121), (5, .int r_27), (0, .ref m_a), (1, .int v1), (2, .int v2), (3, .int v3), (4, .int v4)]) hx hb dX12_entry_75 hl (by decide) rfl (fun ls hl => ?_)
          refine lv_iload hx hb dX12_entry_77 (lv_at hl 0 rfl) ?_
          refine lv_iload_n hx hb dX12_entry_79 rfl (lv_at hl 5 rfl) ?_
          refine lv_icmp_le (tgt := 88) hx hb dX12_entry_80 (by decide) (fun c_34 => ?_) (fun c_34 => ?_)
          · have hF := zi_pos c_34 hF
            refine lv_iload_n hx hb dX12_entry_88 rfl (lv_at hl 4 rfl) ?_
            refine lv_istore_n (lv' := [(2, .int v2), (6, .int 121), (5, .int r_27), (0, .ref m_a), (1, .int v1), (3, .int v3), (4, .int v4)]) hx hb dX12_entry_89 rfl hl (by decide) rfl (fun ls hl => ?_)
            refine lv_iload hx hb dX12_entry_90 (lv_at hl 1 rfl) ?_
            refine lv_iload_n hx hb dX12_entry_92 rfl (lv_at hl 5 rfl) ?_
            refine lv_icmp_le (tgt := 101) hx hb dX12_entry_93 (by decide) (fun c_35 => ?_) (fun c_35 => ?_)
            rotate_left
            · exact absurd c_34 c_35
            refine lv_iload_n hx hb dX12_entry_101 rfl (lv_at hl 5 rfl) ?_
            refine lv_istore_n (lv' := [(3, .int v3), (2, .int v2), (6, .int 121), (5, .int r_27), (0, .ref m_a), (1, .int v1), (4, .int v4)]) hx hb dX12_entry_102 rfl hl (by decide) rfl (fun ls hl => ?_)
            refine lv_iinc (v := v4 + 1) (lv' := [(4, .int (v4 + 1)), (3, .int v3), (2, .int v2), (6, .int 121), (5, .int r_27), (0, .ref m_a), (1, .int v1)]) hx hb dX12_entry_103 hl (k := 6) rfl (by rfl) (by decide) rfl (fun ls hl => ?_)
            refine lv_goto (tgt := 33) hx hb dX12_entry_106 (by decide) ?_
            exact ih_33 m_length m_jumpers m_undos m_seen m_trail m_place m_wrong m_items m_saidEvery m_readEvery m_readJumpers m_period m_hang m_st m_now_28 v1 v2 v3 (v4 + 1) _ _ _ _ hF _ _ _ hP hD hS (lv_sub hl [5, 6, 2, 1, 0] rfl) hexit_33
          · have hF := zi_neg c_34 hF
            refine lv_iload hx hb dX12_entry_83 (lv_at hl 6 rfl) ?_
            refine lv_goto (tgt := 89) hx hb dX12_entry_85 (by decide) ?_
            refine lv_istore_n (lv' := [(2, .int v4), (6, .int 121), (5, .int r_27), (0, .ref m_a), (1, .int v1), (3, .int v3), (4, .int v4)]) hx hb dX12_entry_89 rfl hl (by decide) rfl (fun ls hl => ?_)
            refine lv_iload hx hb dX12_entry_90 (lv_at hl 1 rfl) ?_
            refine lv_iload_n hx hb dX12_entry_92 rfl (lv_at hl 5 rfl) ?_
            refine lv_icmp_le (tgt := 101) hx hb dX12_entry_93 (by decide) (fun c_36 => ?_) (fun c_36 => ?_)
            · exact absurd c_36 c_34
            refine lv_iload hx hb dX12_entry_96 (lv_at hl 1 rfl) ?_
            refine lv_goto (tgt := 102) hx hb dX12_entry_98 (by decide) ?_
            refine lv_istore_n (lv' := [(3, .int 121), (2, .int v4), (6, .int 121), (5, .int r_27), (0, .ref m_a), (1, .int v1), (4, .int v4)]) hx hb dX12_entry_102 rfl hl (by decide) rfl (fun ls hl => ?_)
            refine lv_iinc (v := v4 + 1) (lv' := [(4, .int (v4 + 1)), (3, .int 121), (2, .int v4), (6, .int 121), (5, .int r_27), (0, .ref m_a), (1, .int v1)]) hx hb dX12_entry_103 hl (k := 6) rfl (by rfl) (by decide) rfl (fun ls hl => ?_)
            refine lv_goto (tgt := 33) hx hb dX12_entry_106 (by decide) ?_
            exact ih_33 m_length m_jumpers m_undos m_seen m_trail m_place m_wrong m_items m_saidEvery m_readEvery m_readJumpers m_period m_hang m_st m_now_28 v1 v4 121 (v4 + 1) _ _ _ _ hF _ _ _ hP hD hS (lv_sub hl [5, 6, 2, 1, 0] rfl) hexit_33
  refine lv_aload_n hx hb dX12_entry_0 rfl (lv_at hl 0 rfl) ?_
  refine lv_iload_n hx hb dX12_entry_1 rfl (lv_at hl 1 rfl) ?_
  obtain ⟨r_1, hc_2, hF⟩ := zb1_s hF
  refine zcv_i (ws1 := [(m_a, .inr (12, [.ref m_a_letters, .int m_length, .int m_jumpers, .ref m_a_period, .ref m_a_hang, .ref m_a_st, .ref m_a_now, .ref m_a_book, .int m_undos, .ref m_a_images, .ref m_a_isKept, .int m_seen, .ref m_a_seenHang, .ref m_a_seenTick, .ref m_a_seenUp, .long m_trail, .int m_place, .int m_wrong, .int m_items, .int m_saidEvery, .int m_readEvery, .int m_readJumpers, .ref m_a_readOne])), (m_a_period, .inl (cI, 6, .inl m_period)), (m_a_hang, .inl (cI, 6, .inl m_hang)), (m_a_st, .inl (cI, 22, .inl m_st)), (m_a_now, .inl (cI, 22, .inl m_now))]) S hT lk_X12_127 (c_X12_isJumper l D cI cZ cS cJ m_a m_a_letters m_a_period m_a_hang m_a_st m_a_now m_a_book m_a_images m_a_isKept m_a_seenHang m_a_seenTick m_a_seenUp m_a_readOne m_length m_jumpers m_undos m_seen m_trail m_place m_wrong m_items m_saidEvery m_readEvery m_readJumpers p1 hc_2) ⟨rfl, rfl, Nat.le_of_ble_eq_true rfl, Nat.le_of_ble_eq_true rfl⟩ hK hP hD hS hA [0] [1, 2, 3, 4] [4, 0, 1, 2, 3] rfl rfl rfl rfl rfl rfl rfl rfl rfl rfl rfl hl.1 rfl (Nat.le_of_ble_eq_true rfl) dX12_entry_2 ⟨Nat.zero_le _, Nat.zero_le _⟩ (fun H locs hP hD hS => ?_)
  refine lv_if_ne (tgt := 10) hx hb dX12_entry_5 (by decide) (fun c_3 => ?_) (fun c_3 => ?_)
  · have hF := zi_neg c_3 hF
    refine lv_aload_n hx hb dX12_entry_10 rfl (lv_at hl 0 rfl) ?_
    refine va_get (D := D) (ci := 12) (v := .ref m_a_st) (C := RX12) (T := TX12) (N := 23) hx hb ht iyX12 hown hK hP 0 rfl rfl 5 (by decide) (ht _ wf_X12_19) (fun _ h9 => h9) rfl dX12_entry_11 ?_
    refine lv_iconst (v := 3) hx hb dX12_entry_14 (by decide) ?_
    refine va_iald hx hb hK hP 3 0 rfl rfl (show ¬ ((3 : Int32) < 0 ∨ 22 ≤ (3 : Int32).toNatClampNeg) by decide) dX12_entry_15 ?_
    refine lv_iload_n hx hb dX12_entry_16 rfl (lv_at hl 1 rfl) ?_
    obtain ⟨r_4, hc_5, hF⟩ := zb1_s hF
    refine zcs_i (ws1 := [(m_a, .inr (12, [.ref m_a_letters, .int m_length, .int m_jumpers, .ref m_a_period, .ref m_a_hang, .ref m_a_st, .ref m_a_now, .ref m_a_book, .int m_undos, .ref m_a_images, .ref m_a_isKept, .int m_seen, .ref m_a_seenHang, .ref m_a_seenTick, .ref m_a_seenUp, .long m_trail, .int m_place, .int m_wrong, .int m_items, .int m_saidEvery, .int m_readEvery, .int m_readJumpers, .ref m_a_readOne])), (m_a_period, .inl (cI, 6, .inl m_period)), (m_a_hang, .inl (cI, 6, .inl m_hang)), (m_a_st, .inl (cI, 22, .inl m_st)), (m_a_now, .inl (cI, 22, .inl m_now))]) S hT lk_X12_107 (c_X12_has l D cI cZ cS cJ (m_st (3 : Int32).toNatClampNeg) p1 hc_5) ⟨rfl, rfl, Nat.le_of_ble_eq_true rfl, Nat.le_of_ble_eq_true rfl⟩ hK hP hD hS hA [] [0, 1, 2, 3, 4] [0, 1, 2, 3, 4] rfl rfl rfl rfl rfl rfl rfl rfl hl.1 rfl (Nat.le_of_ble_eq_true rfl) dX12_entry_17 ⟨Nat.zero_le _, Nat.zero_le _⟩ (fun H locs hP hD hS => ?_)
    refine lv_if_eq (tgt := 26) hx hb dX12_entry_20 (by decide) (fun c_6 => ?_) (fun c_6 => ?_)
    · have hF := zi_pos c_6 hF
      refine lv_iconst (v := 0) hx hb dX12_entry_26 (by decide) ?_
      refine lv_istore_n (lv' := [(2, .int 0), (0, .ref m_a), (1, .int p1)]) hx hb dX12_entry_27 rfl hl (by decide) rfl (fun ls hl => ?_)
      refine lv_iconst (v := (-1)) hx hb dX12_entry_28 (by decide) ?_
      refine lv_istore_n (lv' := [(3, .int (-1)), (2, .int 0), (0, .ref m_a), (1, .int p1)]) hx hb dX12_entry_29 rfl hl (by decide) rfl (fun ls hl => ?_)
      refine lv_iconst (v := 0) hx hb dX12_entry_30 (by decide) ?_
      refine lv_istore (lv' := [(4, .int 0), (3, .int (-1)), (2, .int 0), (0, .ref m_a), (1, .int p1)]) hx hb dX12_entry_31 hl (by decide) rfl (fun ls hl => ?_)
      obtain ⟨m_now_37, v2_38, v3_39, v4_40, hL_41, hF⟩ := zb4_s hF
      refine hloop_33 300 m_length m_jumpers m_undos m_seen m_trail m_place m_wrong m_items m_saidEvery m_readEvery m_readJumpers m_period m_hang m_st m_now p1 0 (-1) 0 m_now_37 v2_38 v3_39 v4_40 hL_41 _ _ _ hP hD hS (lv_sub hl [3, 4, 2, 1, 0] rfl) (fun H locs ls hP hD hS hl => ?_)
      refine lv_iload_n hx hb dX12_entry_109 rfl (lv_at hl 2 rfl) ?_
      obtain ⟨e_0, e_1⟩ := zo2 hF
      subst e_0
      subst e_1
      exact zret_i S hr hlocks hK hP hD hS dX12_entry_110
    · have hF := zi_neg c_6 hF
      refine lv_bipush (v := (-2)) hx hb dX12_entry_23 (by decide) ?_
      obtain ⟨e_0, e_1⟩ := zo2 hF
      subst e_0
      subst e_1
      exact zret_i S hr hlocks hK hP hD hS dX12_entry_25
  · have hF := zi_pos c_3 hF
    refine lv_iconst (v := (-1)) hx hb dX12_entry_8 (by decide) ?_
    obtain ⟨e_0, e_1⟩ := zo2 hF
    subst e_0
    subst e_1
    exact zret_i S hr hlocks hK hP hD hS dX12_entry_9

def L_X12_allStay_21 (m_jumpers : Int32) (m_now : Nat → Int32) : Nat → Int32 → Int32 → Option (Int32 × Int32)
  | 0 => fun _ _ => none
  | n + 1 => fun v5 v6 => (if m_jumpers ≤ v6 then some (v5, v6) else (zb1 (F_X12_has (m_now (3 : Int32).toNatClampNeg) v6) (fun r_11 => (if r_11 = 0 then (L_X12_allStay_21 m_jumpers m_now n (v5 ||| 0) (v6 + 1)) else (if ((10 + v6) < 0 ∨ 22 ≤ (10 + v6).toNatClampNeg) then none else (if (m_now (10 + v6).toNatClampNeg) = 0 then (L_X12_allStay_21 m_jumpers m_now n (v5 ||| ((1 : Int32) <<< (v6 &&& 31))) (v6 + 1)) else (L_X12_allStay_21 m_jumpers m_now n (v5 ||| 0) (v6 + 1))))))))
theorem L_X12_allStay_21_z (m_jumpers : Int32) (m_now : Nat → Int32) (v5 : Int32) (v6 : Int32) : L_X12_allStay_21 m_jumpers m_now 0 v5 v6 = none := rfl
theorem L_X12_allStay_21_s (m_jumpers : Int32) (m_now : Nat → Int32) (n : Nat) (v5 : Int32) (v6 : Int32) : L_X12_allStay_21 m_jumpers m_now (n + 1) v5 v6 = (if m_jumpers ≤ v6 then some (v5, v6) else (zb1 (F_X12_has (m_now (3 : Int32).toNatClampNeg) v6) (fun r_11 => (if r_11 = 0 then (L_X12_allStay_21 m_jumpers m_now n (v5 ||| 0) (v6 + 1)) else (if ((10 + v6) < 0 ∨ 22 ≤ (10 + v6).toNatClampNeg) then none else (if (m_now (10 + v6).toNatClampNeg) = 0 then (L_X12_allStay_21 m_jumpers m_now n (v5 ||| ((1 : Int32) <<< (v6 &&& 31))) (v6 + 1)) else (L_X12_allStay_21 m_jumpers m_now n (v5 ||| 0) (v6 + 1)))))))) := rfl
def L_X12_allStay_9 (m_jumpers : Int32) (m_period : Nat → Int32) (m_hang : Nat → Int32) (v2 : Int32) : Nat → (Nat → Int32) → Int32 → Int32 → Option ((Nat → Int32) × Int32 × Int32)
  | 0 => fun _ _ _ => none
  | n + 1 => fun m_now v3 v4 => (if v2 ≤ v4 then some (m_now, v3, v4) else (zb2 (L_X12_allStay_21 m_jumpers m_now 300 0 0) (fun v5_23 v6_24 => (zb2 (F_X12_tickOn m_jumpers m_period m_hang m_now v3) (fun r_26 m_now_27 => (L_X12_allStay_9 m_jumpers m_period m_hang v2 n m_now_27 (v3 &&& (v5_23 ^^^ (-1))) (v4 + 1)))))))
theorem L_X12_allStay_9_z (m_jumpers : Int32) (m_period : Nat → Int32) (m_hang : Nat → Int32) (v2 : Int32) (m_now : Nat → Int32) (v3 : Int32) (v4 : Int32) : L_X12_allStay_9 m_jumpers m_period m_hang v2 0 m_now v3 v4 = none := rfl
theorem L_X12_allStay_9_s (m_jumpers : Int32) (m_period : Nat → Int32) (m_hang : Nat → Int32) (v2 : Int32) (n : Nat) (m_now : Nat → Int32) (v3 : Int32) (v4 : Int32) : L_X12_allStay_9 m_jumpers m_period m_hang v2 (n + 1) m_now v3 v4 = (if v2 ≤ v4 then some (m_now, v3, v4) else (zb2 (L_X12_allStay_21 m_jumpers m_now 300 0 0) (fun v5_23 v6_24 => (zb2 (F_X12_tickOn m_jumpers m_period m_hang m_now v3) (fun r_26 m_now_27 => (L_X12_allStay_9 m_jumpers m_period m_hang v2 n m_now_27 (v3 &&& (v5_23 ^^^ (-1))) (v4 + 1))))))) := rfl
def F_X12_allStay (m_jumpers : Int32) (m_period : Nat → Int32) (m_hang : Nat → Int32) (m_st : Nat → Int32) (m_now : Nat → Int32) (p1 : Int32) (p2 : Int32) : Option (Int32 × (Nat → Int32)) :=
  (zb1 (F_X12_asItIs m_st m_now) (fun m_now_1 => (zb3 (L_X12_allStay_9 m_jumpers m_period m_hang p2 300 m_now_1 p1 0) (fun m_now_29 v3_30 v4_31 => (if (m_now_29 (3 : Int32).toNatClampNeg) = (m_st (3 : Int32).toNatClampNeg) then some (1, m_now_29) else some (0, m_now_29))))))
set_option maxHeartbeats 4000000 in
set_option maxRecDepth 100000 in
theorem c_X12_allStay (l : Launch) (D : va_G) (cI cZ cS cJ : ClassId) (m_a : Nat) (m_a_letters : Nat) (m_a_period : Nat) (m_a_hang : Nat) (m_a_st : Nat) (m_a_now : Nat) (m_a_book : Nat) (m_a_images : Nat) (m_a_isKept : Nat) (m_a_seenHang : Nat) (m_a_seenTick : Nat) (m_a_seenUp : Nat) (m_a_readOne : Nat) (m_length : Int32) (m_jumpers : Int32) (m_undos : Int32) (m_seen : Int32) (m_trail : Int64) (m_place : Int32) (m_wrong : Int32) (m_items : Int32) (m_saidEvery : Int32) (m_readEvery : Int32) (m_readJumpers : Int32) (m_period : Nat → Int32) (m_hang : Nat → Int32) (m_st : Nat → Int32) (m_now : Nat → Int32) (p1 : Int32) (p2 : Int32) {r_o : Int32} {m_now_o : Nat → Int32} (hF : F_X12_allStay m_jumpers m_period m_hang m_st m_now p1 p2 = some (r_o, m_now_o)) : zMi l yX12_allStay (zwl yX12_allStay cX12_allStay 7 (some .boolean)) { frames := 2, cells := 0, slots := 0, locals := 47 } D (TYS cI cZ cS cJ) [.ref m_a, .int p1, .int p2] [(m_a, .inr (12, [.ref m_a_letters, .int m_length, .int m_jumpers, .ref m_a_period, .ref m_a_hang, .ref m_a_st, .ref m_a_now, .ref m_a_book, .int m_undos, .ref m_a_images, .ref m_a_isKept, .int m_seen, .ref m_a_seenHang, .ref m_a_seenTick, .ref m_a_seenUp, .long m_trail, .int m_place, .int m_wrong, .int m_items, .int m_saidEvery, .int m_readEvery, .int m_readJumpers, .ref m_a_readOne])), (m_a_period, .inl (cI, 6, .inl m_period)), (m_a_hang, .inl (cI, 6, .inl m_hang)), (m_a_st, .inl (cI, 22, .inl m_st)), (m_a_now, .inl (cI, 22, .inl m_now))] [(m_a, .inr (12, [.ref m_a_letters, .int m_length, .int m_jumpers, .ref m_a_period, .ref m_a_hang, .ref m_a_st, .ref m_a_now, .ref m_a_book, .int m_undos, .ref m_a_images, .ref m_a_isKept, .int m_seen, .ref m_a_seenHang, .ref m_a_seenTick, .ref m_a_seenUp, .long m_trail, .int m_place, .int m_wrong, .int m_items, .int m_saidEvery, .int m_readEvery, .int m_readJumpers, .ref m_a_readOne])), (m_a_period, .inl (cI, 6, .inl m_period)), (m_a_hang, .inl (cI, 6, .inl m_hang)), (m_a_st, .inl (cI, 22, .inl m_st)), (m_a_now, .inl (cI, 22, .inl m_now_o))] r_o := by
  refine zent_i (own := RX12) (by decide) rfl (Nat.le_of_ble_eq_true rfl) ?_
  intro p e s m below meth c A ls S hr hlocks hK hP hD hA hl
  have hx := S.1
  have hb := S.2.1
  have hml := S.2.2.1
  have hown := S.2.2.2.1
  have hT : ∀ w ∈ zt, w ∈ zwl yX12_allStay cX12_allStay 7 (some .boolean) := fun _ h => List.mem_cons_of_mem _ h
  have ht : ∀ w ∈ zt, w.before [.ref m_a, .int p1, .int p2].toArray s = true := fun w h => S.2.2.2.2 w (hT w h)
  have hl : lv_has ls 7 [(0, .ref m_a), (1, .int p1), (2, .int p2)] := hl
  have hS : va_S A s.heap s.heap [] := va_S.rf
  unfold F_X12_allStay at hF
  have hloop_21 : ∀ (n : Nat) (m_length : Int32) (m_jumpers : Int32) (m_undos : Int32) (m_seen : Int32) (m_trail : Int64) (m_place : Int32) (m_wrong : Int32) (m_items : Int32) (m_saidEvery : Int32) (m_readEvery : Int32) (m_readJumpers : Int32) (m_period : Nat → Int32) (m_hang : Nat → Int32) (m_st : Nat → Int32) (m_now : Nat → Int32) (v1 : Int32) (v2 : Int32) (v3 : Int32) (v4 : Int32) (v5 : Int32) (v6 : Int32) (v5' : Int32) (v6' : Int32), L_X12_allStay_21 m_jumpers m_now n v5 v6 = some (v5', v6') → ∀ (H : Heap) (locs : List Loc) (ls : Array Slot), va_P D classes [(m_a, .inr (12, [.ref m_a_letters, .int m_length, .int m_jumpers, .ref m_a_period, .ref m_a_hang, .ref m_a_st, .ref m_a_now, .ref m_a_book, .int m_undos, .ref m_a_images, .ref m_a_isKept, .int m_seen, .ref m_a_seenHang, .ref m_a_seenTick, .ref m_a_seenUp, .long m_trail, .int m_place, .int m_wrong, .int m_items, .int m_saidEvery, .int m_readEvery, .int m_readJumpers, .ref m_a_readOne])), (m_a_period, .inl (cI, 6, .inl m_period)), (m_a_hang, .inl (cI, 6, .inl m_hang)), (m_a_st, .inl (cI, 22, .inl m_st)), (m_a_now, .inl (cI, 22, .inl m_now))] H → va_D A [(m_a, .inr (12, [.ref m_a_letters, .int m_length, .int m_jumpers, .ref m_a_period, .ref m_a_hang, .ref m_a_st, .ref m_a_now, .ref m_a_book, .int m_undos, .ref m_a_images, .ref m_a_isKept, .int m_seen, .ref m_a_seenHang, .ref m_a_seenTick, .ref m_a_seenUp, .long m_trail, .int m_place, .int m_wrong, .int m_items, .int m_saidEvery, .int m_readEvery, .int m_readJumpers, .ref m_a_readOne])), (m_a_period, .inl (cI, 6, .inl m_period)), (m_a_hang, .inl (cI, 6, .inl m_hang)), (m_a_st, .inl (cI, 22, .inl m_st)), (m_a_now, .inl (cI, 22, .inl m_now))] → va_S A s.heap H locs → lv_has ls 7 [(0, .ref m_a), (1, .int v1), (2, .int v2), (3, .int v3), (4, .int v4), (5, .int v5), (6, .int v6)] → (∀ (H : Heap) (locs : List Loc) (ls : Array Slot), va_P D classes [(m_a, .inr (12, [.ref m_a_letters, .int m_length, .int m_jumpers, .ref m_a_period, .ref m_a_hang, .ref m_a_st, .ref m_a_now, .ref m_a_book, .int m_undos, .ref m_a_images, .ref m_a_isKept, .int m_seen, .ref m_a_seenHang, .ref m_a_seenTick, .ref m_a_seenUp, .long m_trail, .int m_place, .int m_wrong, .int m_items, .int m_saidEvery, .int m_readEvery, .int m_readJumpers, .ref m_a_readOne])), (m_a_period, .inl (cI, 6, .inl m_period)), (m_a_hang, .inl (cI, 6, .inl m_hang)), (m_a_st, .inl (cI, 22, .inl m_st)), (m_a_now, .inl (cI, 22, .inl m_now))] H → va_D A [(m_a, .inr (12, [.ref m_a_letters, .int m_length, .int m_jumpers, .ref m_a_period, .ref m_a_hang, .ref m_a_st, .ref m_a_now, .ref m_a_book, .int m_undos, .ref m_a_images, .ref m_a_isKept, .int m_seen, .ref m_a_seenHang, .ref m_a_seenTick, .ref m_a_seenUp, .long m_trail, .int m_place, .int m_wrong, .int m_items, .int m_saidEvery, .int m_readEvery, .int m_readJumpers, .ref m_a_readOne])), (m_a_period, .inl (cI, 6, .inl m_period)), (m_a_hang, .inl (cI, 6, .inl m_hang)), (m_a_st, .inl (cI, 22, .inl m_st)), (m_a_now, .inl (cI, 22, .inl m_now))] → va_S A s.heap H locs → lv_has ls 7 [(0, .ref m_a), (1, .int v1), (2, .int v2), (3, .int v3), (4, .int v4), (5, .int v5'), (6, .int v6')] → W p l e { frames := 2, cells := 0, slots := 0, locals := 47 } s m [.ref m_a, .int p1, .int p2].toArray below meth c H locs 0 0 (zFi below [.ref m_a, .int p1, .int p2] s A D (TYS cI cZ cS cJ) [(m_a, .inr (12, [.ref m_a_letters, .int m_length, .int m_jumpers, .ref m_a_period, .ref m_a_hang, .ref m_a_st, .ref m_a_now, .ref m_a_book, .int m_undos, .ref m_a_images, .ref m_a_isKept, .int m_seen, .ref m_a_seenHang, .ref m_a_seenTick, .ref m_a_seenUp, .long m_trail, .int m_place, .int m_wrong, .int m_items, .int m_saidEvery, .int m_readEvery, .int m_readJumpers, .ref m_a_readOne])), (m_a_period, .inl (cI, 6, .inl m_period)), (m_a_hang, .inl (cI, 6, .inl m_hang)), (m_a_st, .inl (cI, 22, .inl m_st)), (m_a_now, .inl (cI, 22, .inl m_now_o))] r_o) (F0 m 76 ls [])) → W p l e { frames := 2, cells := 0, slots := 0, locals := 47 } s m [.ref m_a, .int p1, .int p2].toArray below meth c H locs 0 0 (zFi below [.ref m_a, .int p1, .int p2] s A D (TYS cI cZ cS cJ) [(m_a, .inr (12, [.ref m_a_letters, .int m_length, .int m_jumpers, .ref m_a_period, .ref m_a_hang, .ref m_a_st, .ref m_a_now, .ref m_a_book, .int m_undos, .ref m_a_images, .ref m_a_isKept, .int m_seen, .ref m_a_seenHang, .ref m_a_seenTick, .ref m_a_seenUp, .long m_trail, .int m_place, .int m_wrong, .int m_items, .int m_saidEvery, .int m_readEvery, .int m_readJumpers, .ref m_a_readOne])), (m_a_period, .inl (cI, 6, .inl m_period)), (m_a_hang, .inl (cI, 6, .inl m_hang)), (m_a_st, .inl (cI, 22, .inl m_st)), (m_a_now, .inl (cI, 22, .inl m_now_o))] r_o) (F0 m 21 ls []) := by
    intro n
    induction n with
    | zero =>
      intro m_length m_jumpers m_undos m_seen m_trail m_place m_wrong m_items m_saidEvery m_readEvery m_readJumpers m_period m_hang m_st m_now v1 v2 v3 v4 v5 v6 v5' v6' hF
      rw [L_X12_allStay_21_z] at hF
      cases hF
    | succ n ih_21 =>
      intro m_length m_jumpers m_undos m_seen m_trail m_place m_wrong m_items m_saidEvery m_readEvery m_readJumpers m_period m_hang m_st m_now v1 v2 v3 v4 v5 v6 v5' v6' hF H locs ls hP hD hS hl hexit_21
      rw [L_X12_allStay_21_s] at hF
      refine lv_iload hx hb dX12_allStay_21 (lv_at hl 6 rfl) ?_
      refine lv_aload_n hx hb dX12_allStay_23 rfl (lv_at hl 0 rfl) ?_
      refine va_get (D := D) (ci := 12) (v := .int m_jumpers) (C := RX12) (T := TX12) (N := 23) hx hb ht iyX12 hown hK hP 0 rfl rfl 2 (by decide) (ht _ wf_X12_47) (fun _ h9 => h9) rfl dX12_allStay_24 ?_
      refine lv_icmp_ge (tgt := 76) hx hb dX12_allStay_27 (by decide) (fun c_10 => ?_) (fun c_10 => ?_)
      · have hF := zi_pos c_10 hF
        obtain ⟨e_0, e_1⟩ := zo2 hF
        subst e_0
        subst e_1
        exact hexit_21 _ _ _ hP hD hS (lv_sub hl [0, 1, 2, 3, 4, 5, 6] rfl)
      · have hF := zi_neg c_10 hF
        refine lv_iload hx hb dX12_allStay_30 (lv_at hl 5 rfl) ?_
        refine lv_aload_n hx hb dX12_allStay_32 rfl (lv_at hl 0 rfl) ?_
        refine va_get (D := D) (ci := 12) (v := .ref m_a_now) (C := RX12) (T := TX12) (N := 23) hx hb ht iyX12 hown hK hP 0 rfl rfl 6 (by decide) (ht _ wf_X12_22) (fun _ h9 => h9) rfl dX12_allStay_33 ?_
        refine lv_iconst (v := 3) hx hb dX12_allStay_36 (by decide) ?_
        refine va_iald hx hb hK hP 4 0 rfl rfl (show ¬ ((3 : Int32) < 0 ∨ 22 ≤ (3 : Int32).toNatClampNeg) by decide) dX12_allStay_37 ?_
        refine lv_iload hx hb dX12_allStay_38 (lv_at hl 6 rfl) ?_
        obtain ⟨r_11, hc_12, hF⟩ := zb1_s hF
        refine zcs_i (ws1 := [(m_a, .inr (12, [.ref m_a_letters, .int m_length, .int m_jumpers, .ref m_a_period, .ref m_a_hang, .ref m_a_st, .ref m_a_now, .ref m_a_book, .int m_undos, .ref m_a_images, .ref m_a_isKept, .int m_seen, .ref m_a_seenHang, .ref m_a_seenTick, .ref m_a_seenUp, .long m_trail, .int m_place, .int m_wrong, .int m_items, .int m_saidEvery, .int m_readEvery, .int m_readJumpers, .ref m_a_readOne])), (m_a_period, .inl (cI, 6, .inl m_period)), (m_a_hang, .inl (cI, 6, .inl m_hang)), (m_a_st, .inl (cI, 22, .inl m_st)), (m_a_now, .inl (cI, 22, .inl m_now))]) S hT lk_X12_107 (c_X12_has l D cI cZ cS cJ (m_now (3 : Int32).toNatClampNeg) v6 hc_12) ⟨rfl, rfl, Nat.le_of_ble_eq_true rfl, Nat.le_of_ble_eq_true rfl⟩ hK hP hD hS hA [] [0, 1, 2, 3, 4] [0, 1, 2, 3, 4] rfl rfl rfl rfl rfl rfl rfl rfl hl.1 rfl (Nat.le_of_ble_eq_true rfl) dX12_allStay_40 ⟨Nat.zero_le _, Nat.zero_le _⟩ (fun H locs hP hD hS => ?_)
        refine lv_if_eq (tgt := 66) hx hb dX12_allStay_43 (by decide) (fun c_13 => ?_) (fun c_13 => ?_)
        · have hF := zi_pos c_13 hF
          refine lv_iconst (v := 0) hx hb dX12_allStay_66 (by decide) ?_
          refine lv_ior hx hb dX12_allStay_67 ?_
          refine lv_istore (lv' := [(5, .int (v5 ||| 0)), (0, .ref m_a), (1, .int v1), (2, .int v2), (3, .int v3), (4, .int v4), (6, .int v6)]) hx hb dX12_allStay_68 hl (by decide) rfl (fun ls hl => ?_)
          refine lv_iinc (v := v6 + 1) (lv' := [(6, .int (v6 + 1)), (5, .int (v5 ||| 0)), (0, .ref m_a), (1, .int v1), (2, .int v2), (3, .int v3), (4, .int v4)]) hx hb dX12_allStay_70 hl (k := 6) rfl (by rfl) (by decide) rfl (fun ls hl => ?_)
          refine lv_goto (tgt := 21) hx hb dX12_allStay_73 (by decide) ?_
          exact ih_21 m_length m_jumpers m_undos m_seen m_trail m_place m_wrong m_items m_saidEvery m_readEvery m_readJumpers m_period m_hang m_st m_now v1 v2 v3 v4 (v5 ||| 0) (v6 + 1) _ _ hF _ _ _ hP hD hS (lv_sub hl [2, 3, 4, 5, 6, 1, 0] rfl) hexit_21
        · have hF := zi_neg c_13 hF
          refine lv_aload_n hx hb dX12_allStay_46 rfl (lv_at hl 0 rfl) ?_
          refine va_get (D := D) (ci := 12) (v := .ref m_a_now) (C := RX12) (T := TX12) (N := 23) hx hb ht iyX12 hown hK hP 0 rfl rfl 6 (by decide) (ht _ wf_X12_22) (fun _ h9 => h9) rfl dX12_allStay_47 ?_
          refine lv_bipush (v := 10) hx hb dX12_allStay_50 (by decide) ?_
          refine lv_iload hx hb dX12_allStay_52 (lv_at hl 6 rfl) ?_
          refine lv_iadd hx hb dX12_allStay_54 ?_
          obtain ⟨h_14, hF⟩ := zi_chk hF
          refine va_iald hx hb hK hP 4 0 rfl rfl h_14 dX12_allStay_55 ?_
          refine lv_if_ne (tgt := 66) hx hb dX12_allStay_56 (by decide) (fun c_15 => ?_) (fun c_15 => ?_)
          · have hF := zi_neg c_15 hF
            refine lv_iconst (v := 0) hx hb dX12_allStay_66 (by decide) ?_
            refine lv_ior hx hb dX12_allStay_67 ?_
            refine lv_istore (lv' := [(5, .int (v5 ||| 0)), (0, .ref m_a), (1, .int v1), (2, .int v2), (3, .int v3), (4, .int v4), (6, .int v6)]) hx hb dX12_allStay_68 hl (by decide) rfl (fun ls hl => ?_)
            refine lv_iinc (v := v6 + 1) (lv' := [(6, .int (v6 + 1)), (5, .int (v5 ||| 0)), (0, .ref m_a), (1, .int v1), (2, .int v2), (3, .int v3), (4, .int v4)]) hx hb dX12_allStay_70 hl (k := 6) rfl (by rfl) (by decide) rfl (fun ls hl => ?_)
            refine lv_goto (tgt := 21) hx hb dX12_allStay_73 (by decide) ?_
            exact ih_21 m_length m_jumpers m_undos m_seen m_trail m_place m_wrong m_items m_saidEvery m_readEvery m_readJumpers m_period m_hang m_st m_now v1 v2 v3 v4 (v5 ||| 0) (v6 + 1) _ _ hF _ _ _ hP hD hS (lv_sub hl [2, 3, 4, 5, 6, 1, 0] rfl) hexit_21
          · have hF := zi_pos c_15 hF
            refine lv_iconst (v := 1) hx hb dX12_allStay_59 (by decide) ?_
            refine lv_iload hx hb dX12_allStay_60 (lv_at hl 6 rfl) ?_
            refine lv_ishl hx hb dX12_allStay_62 ?_
            refine lv_goto (tgt := 67) hx hb dX12_allStay_63 (by decide) ?_
            refine lv_ior hx hb dX12_allStay_67 ?_
            refine lv_istore (lv' := [(5, .int (v5 ||| ((1 : Int32) <<< (v6 &&& 31)))), (0, .ref m_a), (1, .int v1), (2, .int v2), (3, .int v3), (4, .int v4), (6, .int v6)]) hx hb dX12_allStay_68 hl (by decide) rfl (fun ls hl => ?_)
            refine lv_iinc (v := v6 + 1) (lv' := [(6, .int (v6 + 1)), (5, .int (v5 ||| ((1 : Int32) <<< (v6 &&& 31)))), (0, .ref m_a), (1, .int v1), (2, .int v2), (3, .int v3), (4, .int v4)]) hx hb dX12_allStay_70 hl (k := 6) rfl (by rfl) (by decide) rfl (fun ls hl => ?_)
            refine lv_goto (tgt := 21) hx hb dX12_allStay_73 (by decide) ?_
            exact ih_21 m_length m_jumpers m_undos m_seen m_trail m_place m_wrong m_items m_saidEvery m_readEvery m_readJumpers m_period m_hang m_st m_now v1 v2 v3 v4 (v5 ||| ((1 : Int32) <<< (v6 &&& 31))) (v6 + 1) _ _ hF _ _ _ hP hD hS (lv_sub hl [2, 3, 4, 5, 6, 1, 0] rfl) hexit_21
  have hloop_9 : ∀ (n : Nat) (m_length : Int32) (m_jumpers : Int32) (m_undos : Int32) (m_seen : Int32) (m_trail : Int64) (m_place : Int32) (m_wrong : Int32) (m_items : Int32) (m_saidEvery : Int32) (m_readEvery : Int32) (m_readJumpers : Int32) (m_period : Nat → Int32) (m_hang : Nat → Int32) (m_st : Nat → Int32) (m_now : Nat → Int32) (v1 : Int32) (v2 : Int32) (v3 : Int32) (v4 : Int32) (m_now' : Nat → Int32) (v3' : Int32) (v4' : Int32), L_X12_allStay_9 m_jumpers m_period m_hang v2 n m_now v3 v4 = some (m_now', v3', v4') → ∀ (H : Heap) (locs : List Loc) (ls : Array Slot), va_P D classes [(m_a, .inr (12, [.ref m_a_letters, .int m_length, .int m_jumpers, .ref m_a_period, .ref m_a_hang, .ref m_a_st, .ref m_a_now, .ref m_a_book, .int m_undos, .ref m_a_images, .ref m_a_isKept, .int m_seen, .ref m_a_seenHang, .ref m_a_seenTick, .ref m_a_seenUp, .long m_trail, .int m_place, .int m_wrong, .int m_items, .int m_saidEvery, .int m_readEvery, .int m_readJumpers, .ref m_a_readOne])), (m_a_period, .inl (cI, 6, .inl m_period)), (m_a_hang, .inl (cI, 6, .inl m_hang)), (m_a_st, .inl (cI, 22, .inl m_st)), (m_a_now, .inl (cI, 22, .inl m_now))] H → va_D A [(m_a, .inr (12, [.ref m_a_letters, .int m_length, .int m_jumpers, .ref m_a_period, .ref m_a_hang, .ref m_a_st, .ref m_a_now, .ref m_a_book, .int m_undos, .ref m_a_images, .ref m_a_isKept, .int m_seen, .ref m_a_seenHang, .ref m_a_seenTick, .ref m_a_seenUp, .long m_trail, .int m_place, .int m_wrong, .int m_items, .int m_saidEvery, .int m_readEvery, .int m_readJumpers, .ref m_a_readOne])), (m_a_period, .inl (cI, 6, .inl m_period)), (m_a_hang, .inl (cI, 6, .inl m_hang)), (m_a_st, .inl (cI, 22, .inl m_st)), (m_a_now, .inl (cI, 22, .inl m_now))] → va_S A s.heap H locs → lv_has ls 7 [(0, .ref m_a), (1, .int v1), (2, .int v2), (3, .int v3), (4, .int v4)] → (∀ (H : Heap) (locs : List Loc) (ls : Array Slot), va_P D classes [(m_a, .inr (12, [.ref m_a_letters, .int m_length, .int m_jumpers, .ref m_a_period, .ref m_a_hang, .ref m_a_st, .ref m_a_now, .ref m_a_book, .int m_undos, .ref m_a_images, .ref m_a_isKept, .int m_seen, .ref m_a_seenHang, .ref m_a_seenTick, .ref m_a_seenUp, .long m_trail, .int m_place, .int m_wrong, .int m_items, .int m_saidEvery, .int m_readEvery, .int m_readJumpers, .ref m_a_readOne])), (m_a_period, .inl (cI, 6, .inl m_period)), (m_a_hang, .inl (cI, 6, .inl m_hang)), (m_a_st, .inl (cI, 22, .inl m_st)), (m_a_now, .inl (cI, 22, .inl m_now'))] H → va_D A [(m_a, .inr (12, [.ref m_a_letters, .int m_length, .int m_jumpers, .ref m_a_period, .ref m_a_hang, .ref m_a_st, .ref m_a_now, .ref m_a_book, .int m_undos, .ref m_a_images, .ref m_a_isKept, .int m_seen, .ref m_a_seenHang, .ref m_a_seenTick, .ref m_a_seenUp, .long m_trail, .int m_place, .int m_wrong, .int m_items, .int m_saidEvery, .int m_readEvery, .int m_readJumpers, .ref m_a_readOne])), (m_a_period, .inl (cI, 6, .inl m_period)), (m_a_hang, .inl (cI, 6, .inl m_hang)), (m_a_st, .inl (cI, 22, .inl m_st)), (m_a_now, .inl (cI, 22, .inl m_now'))] → va_S A s.heap H locs → lv_has ls 7 [(0, .ref m_a), (1, .int v1), (2, .int v2), (3, .int v3'), (4, .int v4')] → W p l e { frames := 2, cells := 0, slots := 0, locals := 47 } s m [.ref m_a, .int p1, .int p2].toArray below meth c H locs 0 0 (zFi below [.ref m_a, .int p1, .int p2] s A D (TYS cI cZ cS cJ) [(m_a, .inr (12, [.ref m_a_letters, .int m_length, .int m_jumpers, .ref m_a_period, .ref m_a_hang, .ref m_a_st, .ref m_a_now, .ref m_a_book, .int m_undos, .ref m_a_images, .ref m_a_isKept, .int m_seen, .ref m_a_seenHang, .ref m_a_seenTick, .ref m_a_seenUp, .long m_trail, .int m_place, .int m_wrong, .int m_items, .int m_saidEvery, .int m_readEvery, .int m_readJumpers, .ref m_a_readOne])), (m_a_period, .inl (cI, 6, .inl m_period)), (m_a_hang, .inl (cI, 6, .inl m_hang)), (m_a_st, .inl (cI, 22, .inl m_st)), (m_a_now, .inl (cI, 22, .inl m_now_o))] r_o) (F0 m 99 ls [])) → W p l e { frames := 2, cells := 0, slots := 0, locals := 47 } s m [.ref m_a, .int p1, .int p2].toArray below meth c H locs 0 0 (zFi below [.ref m_a, .int p1, .int p2] s A D (TYS cI cZ cS cJ) [(m_a, .inr (12, [.ref m_a_letters, .int m_length, .int m_jumpers, .ref m_a_period, .ref m_a_hang, .ref m_a_st, .ref m_a_now, .ref m_a_book, .int m_undos, .ref m_a_images, .ref m_a_isKept, .int m_seen, .ref m_a_seenHang, .ref m_a_seenTick, .ref m_a_seenUp, .long m_trail, .int m_place, .int m_wrong, .int m_items, .int m_saidEvery, .int m_readEvery, .int m_readJumpers, .ref m_a_readOne])), (m_a_period, .inl (cI, 6, .inl m_period)), (m_a_hang, .inl (cI, 6, .inl m_hang)), (m_a_st, .inl (cI, 22, .inl m_st)), (m_a_now, .inl (cI, 22, .inl m_now_o))] r_o) (F0 m 9 ls []) := by
    intro n
    induction n with
    | zero =>
      intro m_length m_jumpers m_undos m_seen m_trail m_place m_wrong m_items m_saidEvery m_readEvery m_readJumpers m_period m_hang m_st m_now v1 v2 v3 v4 m_now' v3' v4' hF
      rw [L_X12_allStay_9_z] at hF
      cases hF
    | succ n ih_9 =>
      intro m_length m_jumpers m_undos m_seen m_trail m_place m_wrong m_items m_saidEvery m_readEvery m_readJumpers m_period m_hang m_st m_now v1 v2 v3 v4 m_now' v3' v4' hF H locs ls hP hD hS hl hexit_9
      rw [L_X12_allStay_9_s] at hF
      refine lv_iload hx hb dX12_allStay_9 (lv_at hl 4 rfl) ?_
      refine lv_iload_n hx hb dX12_allStay_11 rfl (lv_at hl 2 rfl) ?_
      refine lv_icmp_ge (tgt := 99) hx hb dX12_allStay_12 (by decide) (fun c_22 => ?_) (fun c_22 => ?_)
      · have hF := zi_pos c_22 hF
        obtain ⟨e_0, e_1, e_2⟩ := zo3 hF
        subst e_0
        subst e_1
        subst e_2
        exact hexit_9 _ _ _ hP hD hS (lv_sub hl [0, 1, 2, 3, 4] rfl)
      · have hF := zi_neg c_22 hF
        refine lv_iconst (v := 0) hx hb dX12_allStay_15 (by decide) ?_
        refine lv_istore (lv' := [(5, .int 0), (0, .ref m_a), (1, .int v1), (2, .int v2), (3, .int v3), (4, .int v4)]) hx hb dX12_allStay_16 hl (by decide) rfl (fun ls hl => ?_)
        refine lv_iconst (v := 0) hx hb dX12_allStay_18 (by decide) ?_
        refine lv_istore (lv' := [(6, .int 0), (5, .int 0), (0, .ref m_a), (1, .int v1), (2, .int v2), (3, .int v3), (4, .int v4)]) hx hb dX12_allStay_19 hl (by decide) rfl (fun ls hl => ?_)
        obtain ⟨v5_23, v6_24, hL_25, hF⟩ := zb2_s hF
        refine hloop_21 300 m_length m_jumpers m_undos m_seen m_trail m_place m_wrong m_items m_saidEvery m_readEvery m_readJumpers m_period m_hang m_st m_now v1 v2 v3 v4 0 0 v5_23 v6_24 hL_25 _ _ _ hP hD hS (lv_sub hl [2, 3, 4, 5, 6, 1, 0] rfl) (fun H locs ls hP hD hS hl => ?_)
        refine lv_aload_n hx hb dX12_allStay_76 rfl (lv_at hl 0 rfl) ?_
        refine lv_aload_n hx hb dX12_allStay_77 rfl (lv_at hl 0 rfl) ?_
        refine va_get (D := D) (ci := 12) (v := .ref m_a_now) (C := RX12) (T := TX12) (N := 23) hx hb ht iyX12 hown hK hP 0 rfl rfl 6 (by decide) (ht _ wf_X12_22) (fun _ h9 => h9) rfl dX12_allStay_78 ?_
        refine lv_iload_n hx hb dX12_allStay_81 rfl (lv_at hl 3 rfl) ?_
        obtain ⟨r_26, m_now_27, hc_28, hF⟩ := zb2_s hF
        refine zcv_i (ws1 := [(m_a, .inr (12, [.ref m_a_letters, .int m_length, .int m_jumpers, .ref m_a_period, .ref m_a_hang, .ref m_a_st, .ref m_a_now, .ref m_a_book, .int m_undos, .ref m_a_images, .ref m_a_isKept, .int m_seen, .ref m_a_seenHang, .ref m_a_seenTick, .ref m_a_seenUp, .long m_trail, .int m_place, .int m_wrong, .int m_items, .int m_saidEvery, .int m_readEvery, .int m_readJumpers, .ref m_a_readOne])), (m_a_period, .inl (cI, 6, .inl m_period)), (m_a_hang, .inl (cI, 6, .inl m_hang)), (m_a_st, .inl (cI, 22, .inl m_st)), (m_a_now, .inl (cI, 22, .inl m_now_27))]) S hT lk_X12_123 (c_X12_tickOn l D cI cZ cS cJ m_a m_a_letters m_a_period m_a_hang m_a_st m_a_now m_a_book m_a_images m_a_isKept m_a_seenHang m_a_seenTick m_a_seenUp m_a_readOne m_a_now m_length m_jumpers m_undos m_seen m_trail m_place m_wrong m_items m_saidEvery m_readEvery m_readJumpers m_period m_hang m_now v3 hc_28) ⟨rfl, rfl, Nat.le_of_ble_eq_true rfl, Nat.le_of_ble_eq_true rfl⟩ hK hP hD hS hA [0, 1, 2, 4] [3] [1, 2, 3, 0, 4] rfl rfl rfl rfl rfl rfl rfl rfl rfl rfl rfl hl.1 rfl (Nat.le_of_ble_eq_true rfl) dX12_allStay_82 ⟨Nat.zero_le _, Nat.zero_le _⟩ (fun H locs hP hD hS => ?_)
        refine lv_pop hx hb dX12_allStay_85 rfl ?_
        refine lv_iload_n hx hb dX12_allStay_86 rfl (lv_at hl 3 rfl) ?_
        refine lv_iload hx hb dX12_allStay_87 (lv_at hl 5 rfl) ?_
        refine lv_iconst (v := (-1)) hx hb dX12_allStay_89 (by decide) ?_
        refine lv_ixor hx hb dX12_allStay_90 ?_
        refine lv_iand hx hb dX12_allStay_91 ?_
        refine lv_istore_n (lv' := [(3, .int (v3 &&& (v5_23 ^^^ (-1)))), (0, .ref m_a), (1, .int v1), (2, .int v2), (4, .int v4), (5, .int v5_23), (6, .int v6_24)]) hx hb dX12_allStay_92 rfl hl (by decide) rfl (fun ls hl => ?_)
        refine lv_iinc (v := v4 + 1) (lv' := [(4, .int (v4 + 1)), (3, .int (v3 &&& (v5_23 ^^^ (-1)))), (0, .ref m_a), (1, .int v1), (2, .int v2), (5, .int v5_23), (6, .int v6_24)]) hx hb dX12_allStay_93 hl (k := 4) rfl (by rfl) (by decide) rfl (fun ls hl => ?_)
        refine lv_goto (tgt := 9) hx hb dX12_allStay_96 (by decide) ?_
        exact ih_9 m_length m_jumpers m_undos m_seen m_trail m_place m_wrong m_items m_saidEvery m_readEvery m_readJumpers m_period m_hang m_st m_now_27 v1 v2 (v3 &&& (v5_23 ^^^ (-1))) (v4 + 1) _ _ _ hF _ _ _ hP hD hS (lv_sub hl [2, 3, 4, 1, 0] rfl) hexit_9
  refine lv_iload_n hx hb dX12_allStay_0 rfl (lv_at hl 1 rfl) ?_
  refine lv_istore_n (lv' := [(3, .int p1), (0, .ref m_a), (1, .int p1), (2, .int p2)]) hx hb dX12_allStay_1 rfl hl (by decide) rfl (fun ls hl => ?_)
  refine lv_aload_n hx hb dX12_allStay_2 rfl (lv_at hl 1 rfl) ?_
  obtain ⟨m_now_1, hc_2, hF⟩ := zb1_s hF
  refine zcv_v (ws1 := [(m_a, .inr (12, [.ref m_a_letters, .int m_length, .int m_jumpers, .ref m_a_period, .ref m_a_hang, .ref m_a_st, .ref m_a_now, .ref m_a_book, .int m_undos, .ref m_a_images, .ref m_a_isKept, .int m_seen, .ref m_a_seenHang, .ref m_a_seenTick, .ref m_a_seenUp, .long m_trail, .int m_place, .int m_wrong, .int m_items, .int m_saidEvery, .int m_readEvery, .int m_readJumpers, .ref m_a_readOne])), (m_a_period, .inl (cI, 6, .inl m_period)), (m_a_hang, .inl (cI, 6, .inl m_hang)), (m_a_st, .inl (cI, 22, .inl m_st)), (m_a_now, .inl (cI, 22, .inl m_now_1))]) S hT lk_X12_130 (c_X12_asItIs l D cI cZ cS cJ m_a m_a_letters m_a_period m_a_hang m_a_st m_a_now m_a_book m_a_images m_a_isKept m_a_seenHang m_a_seenTick m_a_seenUp m_a_readOne m_length m_jumpers m_undos m_seen m_trail m_place m_wrong m_items m_saidEvery m_readEvery m_readJumpers m_st m_now hc_2) ⟨rfl, rfl, Nat.le_of_ble_eq_true rfl, Nat.le_of_ble_eq_true rfl⟩ hK hP hD hS hA [0, 3, 4] [1, 2] [2, 0, 1, 3, 4] rfl rfl rfl rfl rfl rfl rfl rfl rfl rfl rfl hl.1 rfl (Nat.le_of_ble_eq_true rfl) dX12_allStay_3 ⟨Nat.zero_le _, Nat.zero_le _⟩ (fun H locs hP hD hS => ?_)
  refine lv_iconst (v := 0) hx hb dX12_allStay_6 (by decide) ?_
  refine lv_istore (lv' := [(4, .int 0), (3, .int p1), (0, .ref m_a), (1, .int p1), (2, .int p2)]) hx hb dX12_allStay_7 hl (by decide) rfl (fun ls hl => ?_)
  obtain ⟨m_now_29, v3_30, v4_31, hL_32, hF⟩ := zb3_s hF
  refine hloop_9 300 m_length m_jumpers m_undos m_seen m_trail m_place m_wrong m_items m_saidEvery m_readEvery m_readJumpers m_period m_hang m_st m_now_1 p1 p2 p1 0 m_now_29 v3_30 v4_31 hL_32 _ _ _ hP hD hS (lv_sub hl [2, 3, 4, 1, 0] rfl) (fun H locs ls hP hD hS hl => ?_)
  refine lv_aload_n hx hb dX12_allStay_99 rfl (lv_at hl 0 rfl) ?_
  refine va_get (D := D) (ci := 12) (v := .ref m_a_now) (C := RX12) (T := TX12) (N := 23) hx hb ht iyX12 hown hK hP 0 rfl rfl 6 (by decide) (ht _ wf_X12_22) (fun _ h9 => h9) rfl dX12_allStay_100 ?_
  refine lv_iconst (v := 3) hx hb dX12_allStay_103 (by decide) ?_
  refine va_iald hx hb hK hP 4 0 rfl rfl (show ¬ ((3 : Int32) < 0 ∨ 22 ≤ (3 : Int32).toNatClampNeg) by decide) dX12_allStay_104 ?_
  refine lv_aload_n hx hb dX12_allStay_105 rfl (lv_at hl 0 rfl) ?_
  refine va_get (D := D) (ci := 12) (v := .ref m_a_st) (C := RX12) (T := TX12) (N := 23) hx hb ht iyX12 hown hK hP 0 rfl rfl 5 (by decide) (ht _ wf_X12_19) (fun _ h9 => h9) rfl dX12_allStay_106 ?_
  refine lv_iconst (v := 3) hx hb dX12_allStay_109 (by decide) ?_
  refine va_iald hx hb hK hP 3 0 rfl rfl (show ¬ ((3 : Int32) < 0 ∨ 22 ≤ (3 : Int32).toNatClampNeg) by decide) dX12_allStay_110 ?_
  refine lv_icmp_ne (tgt := 118) hx hb dX12_allStay_111 (by decide) (fun c_33 => ?_) (fun c_33 => ?_)
  · have hF := zi_neg c_33 hF
    refine lv_iconst (v := 0) hx hb dX12_allStay_118 (by decide) ?_
    obtain ⟨e_0, e_1⟩ := zo2 hF
    subst e_0
    subst e_1
    exact zret_z (by decide) S hr hlocks hK hP hD hS dX12_allStay_119
  · have hF := zi_pos c_33 hF
    refine lv_iconst (v := 1) hx hb dX12_allStay_114 (by decide) ?_
    refine lv_goto (tgt := 119) hx hb dX12_allStay_115 (by decide) ?_
    obtain ⟨e_0, e_1⟩ := zo2 hF
    subst e_0
    subst e_1
    exact zret_z (by decide) S hr hlocks hK hP hD hS dX12_allStay_119
