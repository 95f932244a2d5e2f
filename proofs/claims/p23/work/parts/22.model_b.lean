theorem lk_X12_68 : zLk RX12 68 yX12_skips cX12_skips 1 none 0 := ⟨⟨wm_X12_68, wo_X12_skips, we_X12_X12_skips, wi_X12, wd_X12_skips⟩, by decide, by decide, by decide +kernel⟩
theorem lk_X12_71 : zLs RX12 71 yX12_isFigure cX12_isFigure 1 (some .boolean) 1 := ⟨⟨wm_X12_71, ws_X12_isFigure, wi_X12, wd_X12_isFigure⟩, by decide, by decide, by decide +kernel⟩
def L_X12_number_18 (m_length : Int32) (m_place : Int32) (m_letters : Nat → Int32) : Nat → Int32 → Int32 → Option (Int32 × Int32)
  | 0 => fun _ _ => none
  | n + 1 => fun v3 v4 => (if m_length ≤ (m_place + v3) then some (v3, v4) else (if ((m_place + v3) < 0 ∨ 120 ≤ (m_place + v3).toNatClampNeg) then none else (zb1 (F_X12_isFigure (m_letters (m_place + v3).toNatClampNeg)) (fun r_12 => (if r_12 = 0 then some (v3, v4) else (if 3 ≤ v3 then (L_X12_number_18 m_length m_place m_letters n (v3 + 1) v4) else (L_X12_number_18 m_length m_place m_letters n (v3 + 1) (((10 * v4) + (m_letters (m_place + v3).toNatClampNeg)) - 48))))))))
theorem L_X12_number_18_z (m_length : Int32) (m_place : Int32) (m_letters : Nat → Int32) (v3 : Int32) (v4 : Int32) : L_X12_number_18 m_length m_place m_letters 0 v3 v4 = none := rfl
theorem L_X12_number_18_s (m_length : Int32) (m_place : Int32) (m_letters : Nat → Int32) (n : Nat) (v3 : Int32) (v4 : Int32) : L_X12_number_18 m_length m_place m_letters (n + 1) v3 v4 = (if m_length ≤ (m_place + v3) then some (v3, v4) else (if ((m_place + v3) < 0 ∨ 120 ≤ (m_place + v3).toNatClampNeg) then none else (zb1 (F_X12_isFigure (m_letters (m_place + v3).toNatClampNeg)) (fun r_12 => (if r_12 = 0 then some (v3, v4) else (if 3 ≤ v3 then (L_X12_number_18 m_length m_place m_letters n (v3 + 1) v4) else (L_X12_number_18 m_length m_place m_letters n (v3 + 1) (((10 * v4) + (m_letters (m_place + v3).toNatClampNeg)) - 48)))))))) := rfl
def F_X12_number (m_length : Int32) (m_place : Int32) (m_wrong : Int32) (m_letters : Nat → Int32) (p1 : Int32) (p2 : Int32) : Option (Int32 × Int32 × Int32) :=
  (if m_wrong < 0 then (zb1 (F_X12_skips m_length m_place m_letters) (fun m_place_2 => (zb2 (L_X12_number_18 m_length m_place_2 m_letters 300 0 0) (fun v3_16 v4_17 => (if v3_16 = 1 then (zb1 (F_X12_in v4_17 p1 p2) (fun r_21 => (if r_21 = 0 then some (0, m_place_2, m_place_2) else some (v4_17, m_place_2 + v3_16, m_wrong)))) else (if v3_16 = 2 then (zb1 (F_X12_here m_length m_place_2 m_letters) (fun r_26 => (if r_26 = 48 then some (0, m_place_2, m_place_2) else (zb1 (F_X12_in v4_17 p1 p2) (fun r_31 => (if r_31 = 0 then some (0, m_place_2, m_place_2) else some (v4_17, m_place_2 + v3_16, m_wrong))))))) else some (0, m_place_2, m_place_2))))))) else some (0, m_place, m_wrong))
set_option maxHeartbeats 4000000 in
set_option maxRecDepth 100000 in
theorem c_X12_number (l : Launch) (D : va_G) (cI cZ cS cJ : ClassId) (m_a : Nat) (m_a_letters : Nat) (m_a_period : Nat) (m_a_hang : Nat) (m_a_st : Nat) (m_a_now : Nat) (m_a_book : Nat) (m_a_images : Nat) (m_a_isKept : Nat) (m_a_seenHang : Nat) (m_a_seenTick : Nat) (m_a_seenUp : Nat) (m_a_readOne : Nat) (m_length : Int32) (m_jumpers : Int32) (m_undos : Int32) (m_seen : Int32) (m_trail : Int64) (m_place : Int32) (m_wrong : Int32) (m_items : Int32) (m_saidEvery : Int32) (m_readEvery : Int32) (m_readJumpers : Int32) (m_letters : Nat → Int32) (p1 : Int32) (p2 : Int32) {r_o : Int32} {m_place_o : Int32} {m_wrong_o : Int32} (hF : F_X12_number m_length m_place m_wrong m_letters p1 p2 = some (r_o, m_place_o, m_wrong_o)) : zMi l yX12_number (zwl yX12_number cX12_number 6 (some .int)) { frames := 2, cells := 0, slots := 0, locals := 42 } D (TYS cI cZ cS cJ) [.ref m_a, .int p1, .int p2] [(m_a, .inr (12, [.ref m_a_letters, .int m_length, .int m_jumpers, .ref m_a_period, .ref m_a_hang, .ref m_a_st, .ref m_a_now, .ref m_a_book, .int m_undos, .ref m_a_images, .ref m_a_isKept, .int m_seen, .ref m_a_seenHang, .ref m_a_seenTick, .ref m_a_seenUp, .long m_trail, .int m_place, .int m_wrong, .int m_items, .int m_saidEvery, .int m_readEvery, .int m_readJumpers, .ref m_a_readOne])), (m_a_letters, .inl (cI, 120, .inl m_letters))] [(m_a, .inr (12, [.ref m_a_letters, .int m_length, .int m_jumpers, .ref m_a_period, .ref m_a_hang, .ref m_a_st, .ref m_a_now, .ref m_a_book, .int m_undos, .ref m_a_images, .ref m_a_isKept, .int m_seen, .ref m_a_seenHang, .ref m_a_seenTick, .ref m_a_seenUp, .long m_trail, .int m_place_o, .int m_wrong_o, .int m_items, .int m_saidEvery, .int m_readEvery, .int m_readJumpers, .ref m_a_readOne])), (m_a_letters, .inl (cI, 120, .inl m_letters))] r_o := by
  refine zent_i (own := RX12) (by decide) rfl (Nat.le_of_ble_eq_true rfl) ?_
  intro p e s m below meth c A ls S hr hlocks hK hP hD hA hl
  have hx := S.1
  have hb := S.2.1
  have hml := S.2.2.1
  have hown := S.2.2.2.1
  have hT : ∀ w ∈ zt, w ∈ zwl yX12_number cX12_number 6 (some .int) := fun _ h => List.mem_cons_of_mem _ h
  have ht : ∀ w ∈ zt, w.before [.ref m_a, .int p1, .int p2].toArray s = true := fun w h => S.2.2.2.2 w (hT w h)
  have hl : lv_has ls 6 [(0, .ref m_a), (1, .int p1), (2, .int p2)] := hl
  have hS : va_S A s.heap s.heap [] := va_S.rf
  unfold F_X12_number at hF
  have hloop_18 : ∀ (n : Nat) (m_length : Int32) (m_jumpers : Int32) (m_undos : Int32) (m_seen : Int32) (m_trail : Int64) (m_place : Int32) (m_wrong : Int32) (m_items : Int32) (m_saidEvery : Int32) (m_readEvery : Int32) (m_readJumpers : Int32) (m_letters : Nat → Int32) (v1 : Int32) (v2 : Int32) (v3 : Int32) (v4 : Int32) (v3' : Int32) (v4' : Int32), L_X12_number_18 m_length m_place m_letters n v3 v4 = some (v3', v4') → ∀ (H : Heap) (locs : List Loc) (ls : Array Slot), va_P D classes [(m_a, .inr (12, [.ref m_a_letters, .int m_length, .int m_jumpers, .ref m_a_period, .ref m_a_hang, .ref m_a_st, .ref m_a_now, .ref m_a_book, .int m_undos, .ref m_a_images, .ref m_a_isKept, .int m_seen, .ref m_a_seenHang, .ref m_a_seenTick, .ref m_a_seenUp, .long m_trail, .int m_place, .int m_wrong, .int m_items, .int m_saidEvery, .int m_readEvery, .int m_readJumpers, .ref m_a_readOne])), (m_a_letters, .inl (cI, 120, .inl m_letters))] H → va_D A [(m_a, .inr (12, [.ref m_a_letters, .int m_length, .int m_jumpers, .ref m_a_period, .ref m_a_hang, .ref m_a_st, .ref m_a_now, .ref m_a_book, .int m_undos, .ref m_a_images, .ref m_a_isKept, .int m_seen, .ref m_a_seenHang, .ref m_a_seenTick, .ref m_a_seenUp, .long m_trail, .int m_place, .int m_wrong, .int m_items, .int m_saidEvery, .int m_readEvery, .int m_readJumpers, .ref m_a_readOne])), (m_a_letters, .inl (cI, 120, .inl m_letters))] → va_S A s.heap H locs → lv_has ls 6 [(0, .ref m_a), (1, .int v1), (2, .int v2), (3, .int v3), (4, .int v4)] → (∀ (H : Heap) (locs : List Loc) (ls : Array Slot), va_P D classes [(m_a, .inr (12, [.ref m_a_letters, .int m_length, .int m_jumpers, .ref m_a_period, .ref m_a_hang, .ref m_a_st, .ref m_a_now, .ref m_a_book, .int m_undos, .ref m_a_images, .ref m_a_isKept, .int m_seen, .ref m_a_seenHang, .ref m_a_seenTick, .ref m_a_seenUp, .long m_trail, .int m_place, .int m_wrong, .int m_items, .int m_saidEvery, .int m_readEvery, .int m_readJumpers, .ref m_a_readOne])), (m_a_letters, .inl (cI, 120, .inl m_letters))] H → va_D A [(m_a, .inr (12, [.ref m_a_letters, .int m_length, .int m_jumpers, .ref m_a_period, .ref m_a_hang, .ref m_a_st, .ref m_a_now, .ref m_a_book, .int m_undos, .ref m_a_images, .ref m_a_isKept, .int m_seen, .ref m_a_seenHang, .ref m_a_seenTick, .ref m_a_seenUp, .long m_trail, .int m_place, .int m_wrong, .int m_items, .int m_saidEvery, .int m_readEvery, .int m_readJumpers, .ref m_a_readOne])), (m_a_letters, .inl (cI, 120, .inl m_letters))] → va_S A s.heap H locs → lv_has ls 6 [(0, .ref m_a), (1, .int v1), (2, .int v2), (3, .int v3'), (4, .int v4')] → W p l e { frames := 2, cells := 0, slots := 0, locals := 42 } s m [.ref m_a, .int p1, .int p2].toArray below meth c H locs 0 0 (zFi below [.ref m_a, .int p1, .int p2] s A D (TYS cI cZ cS cJ) [(m_a, .inr (12, [.ref m_a_letters, .int m_length, .int m_jumpers, .ref m_a_period, .ref m_a_hang, .ref m_a_st, .ref m_a_now, .ref m_a_book, .int m_undos, .ref m_a_images, .ref m_a_isKept, .int m_seen, .ref m_a_seenHang, .ref m_a_seenTick, .ref m_a_seenUp, .long m_trail, .int m_place_o, .int m_wrong_o, .int m_items, .int m_saidEvery, .int m_readEvery, .int m_readJumpers, .ref m_a_readOne])), (m_a_letters, .inl (cI, 120, .inl m_letters))] r_o) (F0 m 86 ls [])) → W p l e { frames := 2, cells := 0, slots := 0, locals := 42 } s m [.ref m_a, .int p1, .int p2].toArray below meth c H locs 0 0 (zFi below [.ref m_a, .int p1, .int p2] s A D (TYS cI cZ cS cJ) [(m_a, .inr (12, [.ref m_a_letters, .int m_length, .int m_jumpers, .ref m_a_period, .ref m_a_hang, .ref m_a_st, .ref m_a_now, .ref m_a_book, .int m_undos, .ref m_a_images, .ref m_a_isKept, .int m_seen, .ref m_a_seenHang, .ref m_a_seenTick, .ref m_a_seenUp, .long m_trail, .int m_place_o, .int m_wrong_o, .int m_items, .int m_saidEvery, .int m_readEvery, .int m_readJumpers, .ref m_a_readOne])), (m_a_letters, .inl (cI, 120, .inl m_letters))] r_o) (F0 m 18 ls []) := by
    intro n
    induction n with
    | zero =>
      intro m_length m_jumpers m_undos m_seen m_trail m_place m_wrong m_items m_saidEvery m_readEvery m_readJumpers m_letters v1 v2 v3 v4 v3' v4' hF
      rw [L_X12_number_18_z] at hF
      cases hF
    | succ n ih_18 =>
      intro m_length m_jumpers m_undos m_seen m_trail m_place m_wrong m_items m_saidEvery m_readEvery m_readJumpers m_letters v1 v2 v3 v4 v3' v4' hF H locs ls hP hD hS hl hexit_18
      rw [L_X12_number_18_s] at hF
      refine lv_aload_n hx hb dX12_number_18 rfl (lv_at hl 0 rfl) ?_
      refine va_get (D := D) (ci := 12) (v := .int m_place) (C := RX12) (T := TX12) (N := 23) hx hb ht iyX12 hown hK hP 0 rfl rfl 16 (by decide) (ht _ wf_X12_58) (fun _ h9 => h9) rfl dX12_number_19 ?_
      refine lv_iload_n hx hb dX12_number_22 rfl (lv_at hl 3 rfl) ?_
      refine lv_iadd hx hb dX12_number_23 ?_
      refine lv_aload_n hx hb dX12_number_24 rfl (lv_at hl 0 rfl) ?_
      refine va_get (D := D) (ci := 12) (v := .int m_length) (C := RX12) (T := TX12) (N := 23) hx hb ht iyX12 hown hK hP 0 rfl rfl 1 (by decide) (ht _ wf_X12_55) (fun _ h9 => h9) rfl dX12_number_25 ?_
      refine lv_icmp_ge (tgt := 86) hx hb dX12_number_28 (by decide) (fun c_10 => ?_) (fun c_10 => ?_)
      · have hF := zi_pos c_10 hF
        obtain ⟨e_0, e_1⟩ := zo2 hF
        subst e_0
        subst e_1
        exact hexit_18 _ _ _ hP hD hS (lv_sub hl [0, 1, 2, 3, 4] rfl)
      · have hF := zi_neg c_10 hF
        refine lv_aload_n hx hb dX12_number_31 rfl (lv_at hl 0 rfl) ?_
        refine va_get (D := D) (ci := 12) (v := .ref m_a_letters) (C := RX12) (T := TX12) (N := 23) hx hb ht iyX12 hown hK hP 0 rfl rfl 0 (by decide) (ht _ wf_X12_7) (fun _ h9 => h9) rfl dX12_number_32 ?_
        refine lv_aload_n hx hb dX12_number_35 rfl (lv_at hl 0 rfl) ?_
        refine va_get (D := D) (ci := 12) (v := .int m_place) (C := RX12) (T := TX12) (N := 23) hx hb ht iyX12 hown hK hP 0 rfl rfl 16 (by decide) (ht _ wf_X12_58) (fun _ h9 => h9) rfl dX12_number_36 ?_
        refine lv_iload_n hx hb dX12_number_39 rfl (lv_at hl 3 rfl) ?_
        refine lv_iadd hx hb dX12_number_40 ?_
        obtain ⟨h_11, hF⟩ := zi_chk hF
        refine va_iald hx hb hK hP 1 0 rfl rfl h_11 dX12_number_41 ?_
        obtain ⟨r_12, hc_13, hF⟩ := zb1_s hF
        refine zcs_i (ws1 := [(m_a, .inr (12, [.ref m_a_letters, .int m_length, .int m_jumpers, .ref m_a_period, .ref m_a_hang, .ref m_a_st, .ref m_a_now, .ref m_a_book, .int m_undos, .ref m_a_images, .ref m_a_isKept, .int m_seen, .ref m_a_seenHang, .ref m_a_seenTick, .ref m_a_seenUp, .long m_trail, .int m_place, .int m_wrong, .int m_items, .int m_saidEvery, .int m_readEvery, .int m_readJumpers, .ref m_a_readOne])), (m_a_letters, .inl (cI, 120, .inl m_letters))]) S hT lk_X12_71 (c_X12_isFigure l D cI cZ cS cJ (m_letters (m_place + v3).toNatClampNeg) hc_13) ⟨rfl, rfl, Nat.le_of_ble_eq_true rfl, Nat.le_of_ble_eq_true rfl⟩ hK hP hD hS hA [] [0, 1] [0, 1] rfl rfl rfl rfl rfl rfl rfl rfl hl.1 rfl (Nat.le_of_ble_eq_true rfl) dX12_number_42 ⟨Nat.zero_le _, Nat.zero_le _⟩ (fun H locs hP hD hS => ?_)
        refine lv_if_eq (tgt := 86) hx hb dX12_number_45 (by decide) (fun c_14 => ?_) (fun c_14 => ?_)
        · have hF := zi_pos c_14 hF
          obtain ⟨e_0, e_1⟩ := zo2 hF
          subst e_0
          subst e_1
          exact hexit_18 _ _ _ hP hD hS (lv_sub hl [0, 1, 2, 3, 4] rfl)
        · have hF := zi_neg c_14 hF
          refine lv_iload_n hx hb dX12_number_48 rfl (lv_at hl 3 rfl) ?_
          refine lv_iconst (v := 3) hx hb dX12_number_49 (by decide) ?_
          refine lv_icmp_ge (tgt := 76) hx hb dX12_number_50 (by decide) (fun c_15 => ?_) (fun c_15 => ?_)
          · have hF := zi_pos c_15 hF
            refine lv_iload hx hb dX12_number_76 (lv_at hl 4 rfl) ?_
            refine lv_istore (lv' := [(4, .int v4), (0, .ref m_a), (1, .int v1), (2, .int v2), (3, .int v3)]) hx hb dX12_number_78 hl (by decide) rfl (fun ls hl => ?_)
            refine lv_iinc (v := v3 + 1) (lv' := [(3, .int (v3 + 1)), (4, .int v4), (0, .ref m_a), (1, .int v1), (2, .int v2)]) hx hb dX12_number_80 hl (k := 4) rfl (by rfl) (by decide) rfl (fun ls hl => ?_)
            refine lv_goto (tgt := 18) hx hb dX12_number_83 (by decide) ?_
            exact ih_18 m_length m_jumpers m_undos m_seen m_trail m_place m_wrong m_items m_saidEvery m_readEvery m_readJumpers m_letters v1 v2 (v3 + 1) v4 _ _ hF _ _ _ hP hD hS (lv_sub hl [2, 3, 4, 0, 1] rfl) hexit_18
          · have hF := zi_neg c_15 hF
            refine lv_bipush (v := 10) hx hb dX12_number_53 (by decide) ?_
            refine lv_iload hx hb dX12_number_55 (lv_at hl 4 rfl) ?_
            refine lv_imul hx hb dX12_number_57 ?_
            refine lv_aload_n hx hb dX12_number_58 rfl (lv_at hl 0 rfl) ?_
            refine va_get (D := D) (ci := 12) (v := .ref m_a_letters) (C := RX12) (T := TX12) (N := 23) hx hb ht iyX12 hown hK hP 0 rfl rfl 0 (by decide) (ht _ wf_X12_7) (fun _ h9 => h9) rfl dX12_number_59 ?_
            refine lv_aload_n hx hb dX12_number_62 rfl (lv_at hl 0 rfl) ?_
            refine va_get (D := D) (ci := 12) (v := .int m_place) (C := RX12) (T := TX12) (N := 23) hx hb ht iyX12 hown hK hP 0 rfl rfl 16 (by decide) (ht _ wf_X12_58) (fun _ h9 => h9) rfl dX12_number_63 ?_
            refine lv_iload_n hx hb dX12_number_66 rfl (lv_at hl 3 rfl) ?_
            refine lv_iadd hx hb dX12_number_67 ?_
            refine va_iald hx hb hK hP 1 0 rfl rfl h_11 dX12_number_68 ?_
            refine lv_iadd hx hb dX12_number_69 ?_
            refine lv_bipush (v := 48) hx hb dX12_number_70 (by decide) ?_
            refine lv_isub hx hb dX12_number_72 ?_
            refine lv_goto (tgt := 78) hx hb dX12_number_73 (by decide) ?_
            refine lv_istore (lv' := [(4, .int (((10 * v4) + (m_letters (m_place + v3).toNatClampNeg)) - 48)), (0, .ref m_a), (1, .int v1), (2, .int v2), (3, .int v3)]) hx hb dX12_number_78 hl (by decide) rfl (fun ls hl => ?_)
            refine lv_iinc (v := v3 + 1) (lv' := [(3, .int (v3 + 1)), (4, .int (((10 * v4) + (m_letters (m_place + v3).toNatClampNeg)) - 48)), (0, .ref m_a), (1, .int v1), (2, .int v2)]) hx hb dX12_number_80 hl (k := 4) rfl (by rfl) (by decide) rfl (fun ls hl => ?_)
            refine lv_goto (tgt := 18) hx hb dX12_number_83 (by decide) ?_
            exact ih_18 m_length m_jumpers m_undos m_seen m_trail m_place m_wrong m_items m_saidEvery m_readEvery m_readJumpers m_letters v1 v2 (v3 + 1) (((10 * v4) + (m_letters (m_place + v3).toNatClampNeg)) - 48) _ _ hF _ _ _ hP hD hS (lv_sub hl [2, 3, 4, 0, 1] rfl) hexit_18
  refine lv_aload_n hx hb dX12_number_0 rfl (lv_at hl 0 rfl) ?_
  refine va_get (D := D) (ci := 12) (v := .int m_wrong) (C := RX12) (T := TX12) (N := 23) hx hb ht iyX12 hown hK hP 0 rfl rfl 17 (by decide) (ht _ wf_X12_65) (fun _ h9 => h9) rfl dX12_number_1 ?_
  refine lv_if_lt (tgt := 9) hx hb dX12_number_4 (by decide) (fun c_1 => ?_) (fun c_1 => ?_)
  · have hF := zi_pos c_1 hF
    refine lv_aload_n hx hb dX12_number_9 rfl (lv_at hl 0 rfl) ?_
    obtain ⟨m_place_2, hc_3, hF⟩ := zb1_s hF
    refine zcv_v (ws1 := [(m_a, .inr (12, [.ref m_a_letters, .int m_length, .int m_jumpers, .ref m_a_period, .ref m_a_hang, .ref m_a_st, .ref m_a_now, .ref m_a_book, .int m_undos, .ref m_a_images, .ref m_a_isKept, .int m_seen, .ref m_a_seenHang, .ref m_a_seenTick, .ref m_a_seenUp, .long m_trail, .int m_place_2, .int m_wrong, .int m_items, .int m_saidEvery, .int m_readEvery, .int m_readJumpers, .ref m_a_readOne])), (m_a_letters, .inl (cI, 120, .inl m_letters))]) S hT lk_X12_68 (c_X12_skips l D cI cZ cS cJ m_a m_a_letters m_a_period m_a_hang m_a_st m_a_now m_a_book m_a_images m_a_isKept m_a_seenHang m_a_seenTick m_a_seenUp m_a_readOne m_length m_jumpers m_undos m_seen m_trail m_place m_wrong m_items m_saidEvery m_readEvery m_readJumpers m_letters hc_3) ⟨rfl, rfl, Nat.le_of_ble_eq_true rfl, Nat.le_of_ble_eq_true rfl⟩ hK hP hD hS hA [0, 1] [] [0, 1] rfl rfl rfl rfl rfl rfl rfl rfl rfl rfl rfl hl.1 rfl (Nat.le_of_ble_eq_true rfl) dX12_number_10 ⟨Nat.zero_le _, Nat.zero_le _⟩ (fun H locs hP hD hS => ?_)
    refine lv_iconst (v := 0) hx hb dX12_number_13 (by decide) ?_
    refine lv_istore_n (lv' := [(3, .int 0), (0, .ref m_a), (1, .int p1), (2, .int p2)]) hx hb dX12_number_14 rfl hl (by decide) rfl (fun ls hl => ?_)
    refine lv_iconst (v := 0) hx hb dX12_number_15 (by decide) ?_
    refine lv_istore (lv' := [(4, .int 0), (3, .int 0), (0, .ref m_a), (1, .int p1), (2, .int p2)]) hx hb dX12_number_16 hl (by decide) rfl (fun ls hl => ?_)
    obtain ⟨v3_16, v4_17, hL_18, hF⟩ := zb2_s hF
    refine hloop_18 300 m_length m_jumpers m_undos m_seen m_trail m_place_2 m_wrong m_items m_saidEvery m_readEvery m_readJumpers m_letters p1 p2 0 0 v3_16 v4_17 hL_18 _ _ _ hP hD hS (lv_sub hl [2, 3, 4, 1, 0] rfl) (fun H locs ls hP hD hS hl => ?_)
    refine lv_iload_n hx hb dX12_number_86 rfl (lv_at hl 3 rfl) ?_
    refine lv_iconst (v := 1) hx hb dX12_number_87 (by decide) ?_
    refine lv_icmp_eq (tgt := 105) hx hb dX12_number_88 (by decide) (fun c_19 => ?_) (fun c_19 => ?_)
    · have hF := zi_pos c_19 hF
      refine lv_iconst (v := 1) hx hb dX12_number_105 (by decide) ?_
      refine lv_goto (tgt := 110) hx hb dX12_number_106 (by decide) ?_
      refine lv_istore (lv' := [(5, .int 1), (0, .ref m_a), (1, .int p1), (2, .int p2), (3, .int v3_16), (4, .int v4_17)]) hx hb dX12_number_110 hl (by decide) rfl (fun ls hl => ?_)
      refine lv_iload hx hb dX12_number_112 (lv_at hl 0 rfl) ?_
      refine lv_if_eq (tgt := 127) hx hb dX12_number_114 (by decide) (fun c_20 => ?_) (fun c_20 => ?_)
      · exact absurd c_20 (by decide)
      refine lv_iload hx hb dX12_number_117 (lv_at hl 5 rfl) ?_
      refine lv_iload_n hx hb dX12_number_119 rfl (lv_at hl 2 rfl) ?_
      refine lv_iload_n hx hb dX12_number_120 rfl (lv_at hl 3 rfl) ?_
      obtain ⟨r_21, hc_22, hF⟩ := zb1_s hF
      refine zcs_i (ws1 := [(m_a, .inr (12, [.ref m_a_letters, .int m_length, .int m_jumpers, .ref m_a_period, .ref m_a_hang, .ref m_a_st, .ref m_a_now, .ref m_a_book, .int m_undos, .ref m_a_images, .ref m_a_isKept, .int m_seen, .ref m_a_seenHang, .ref m_a_seenTick, .ref m_a_seenUp, .long m_trail, .int m_place_2, .int m_wrong, .int m_items, .int m_saidEvery, .int m_readEvery, .int m_readJumpers, .ref m_a_readOne])), (m_a_letters, .inl (cI, 120, .inl m_letters))]) S hT lk_X12_51 (c_X12_in l D cI cZ cS cJ v4_17 p1 p2 hc_22) ⟨rfl, rfl, Nat.le_of_ble_eq_true rfl, Nat.le_of_ble_eq_true rfl⟩ hK hP hD hS hA [] [0, 1] [0, 1] rfl rfl rfl rfl rfl rfl rfl rfl hl.1 rfl (Nat.le_of_ble_eq_true rfl) dX12_number_121 ⟨Nat.zero_le _, Nat.zero_le _⟩ (fun H locs hP hD hS => ?_)
      refine lv_if_ne (tgt := 137) hx hb dX12_number_124 (by decide) (fun c_23 => ?_) (fun c_23 => ?_)
      · have hF := zi_neg c_23 hF
        refine lv_aload_n hx hb dX12_number_137 rfl (lv_at hl 1 rfl) ?_
        refine lv_dup hx hb dX12_number_138 rfl ?_
        refine va_get (D := D) (ci := 12) (v := .int m_place_2) (C := RX12) (T := TX12) (N := 23) hx hb ht iyX12 hown hK hP 0 rfl rfl 16 (by decide) (ht _ wf_X12_58) (fun _ h9 => h9) rfl dX12_number_139 ?_
        refine lv_iload_n hx hb dX12_number_142 rfl (lv_at hl 4 rfl) ?_
        refine lv_iadd hx hb dX12_number_143 ?_
        refine va_put (D := D) (ci := 12) (v := .int (m_place_2 + v3_16)) (ty := .int) (C := RX12) (T := TX12) (N := 23) hx hb ht iyX12 tyX12 tyX12_ok nmX12 hown hK hP hD hS 0 rfl rfl 16 (by decide) (ht _ wf_X12_58) (fun _ h9 => h9) rfl (by decide +kernel) rfl rfl (Nat.le_of_ble_eq_true rfl) dX12_number_144 (fun H locs hP hD hS => ?_)
        have hP : va_P D classes [(m_a, .inr (12, [.ref m_a_letters, .int m_length, .int m_jumpers, .ref m_a_period, .ref m_a_hang, .ref m_a_st, .ref m_a_now, .ref m_a_book, .int m_undos, .ref m_a_images, .ref m_a_isKept, .int m_seen, .ref m_a_seenHang, .ref m_a_seenTick, .ref m_a_seenUp, .long m_trail, .int (m_place_2 + v3_16), .int m_wrong, .int m_items, .int m_saidEvery, .int m_readEvery, .int m_readJumpers, .ref m_a_readOne])), (m_a_letters, .inl (cI, 120, .inl m_letters))] H := hP
        have hD : va_D A [(m_a, .inr (12, [.ref m_a_letters, .int m_length, .int m_jumpers, .ref m_a_period, .ref m_a_hang, .ref m_a_st, .ref m_a_now, .ref m_a_book, .int m_undos, .ref m_a_images, .ref m_a_isKept, .int m_seen, .ref m_a_seenHang, .ref m_a_seenTick, .ref m_a_seenUp, .long m_trail, .int (m_place_2 + v3_16), .int m_wrong, .int m_items, .int m_saidEvery, .int m_readEvery, .int m_readJumpers, .ref m_a_readOne])), (m_a_letters, .inl (cI, 120, .inl m_letters))] := hD
        refine lv_iload hx hb dX12_number_147 (lv_at hl 5 rfl) ?_
        obtain ⟨e_0, e_1, e_2⟩ := zo3 hF
        subst e_0
        subst e_1
        subst e_2
        exact zret_i S hr hlocks hK hP hD hS dX12_number_149
      · have hF := zi_pos c_23 hF
        refine lv_aload_n hx hb dX12_number_127 rfl (lv_at hl 1 rfl) ?_
        refine lv_aload_n hx hb dX12_number_128 rfl (lv_at hl 1 rfl) ?_
        refine va_get (D := D) (ci := 12) (v := .int m_place_2) (C := RX12) (T := TX12) (N := 23) hx hb ht iyX12 hown hK hP 0 rfl rfl 16 (by decide) (ht _ wf_X12_58) (fun _ h9 => h9) rfl dX12_number_129 ?_
        refine va_put (D := D) (ci := 12) (v := .int m_place_2) (ty := .int) (C := RX12) (T := TX12) (N := 23) hx hb ht iyX12 tyX12 tyX12_ok nmX12 hown hK hP hD hS 0 rfl rfl 17 (by decide) (ht _ wf_X12_65) (fun _ h9 => h9) rfl (by decide +kernel) rfl rfl (Nat.le_of_ble_eq_true rfl) dX12_number_132 (fun H locs hP hD hS => ?_)
        have hP : va_P D classes [(m_a, .inr (12, [.ref m_a_letters, .int m_length, .int m_jumpers, .ref m_a_period, .ref m_a_hang, .ref m_a_st, .ref m_a_now, .ref m_a_book, .int m_undos, .ref m_a_images, .ref m_a_isKept, .int m_seen, .ref m_a_seenHang, .ref m_a_seenTick, .ref m_a_seenUp, .long m_trail, .int m_place_2, .int m_place_2, .int m_items, .int m_saidEvery, .int m_readEvery, .int m_readJumpers, .ref m_a_readOne])), (m_a_letters, .inl (cI, 120, .inl m_letters))] H := hP
        have hD : va_D A [(m_a, .inr (12, [.ref m_a_letters, .int m_length, .int m_jumpers, .ref m_a_period, .ref m_a_hang, .ref m_a_st, .ref m_a_now, .ref m_a_book, .int m_undos, .ref m_a_images, .ref m_a_isKept, .int m_seen, .ref m_a_seenHang, .ref m_a_seenTick, .ref m_a_seenUp, .long m_trail, .int m_place_2, .int m_place_2, .int m_items, .int m_saidEvery, .int m_readEvery, .int m_readJumpers, .ref m_a_readOne])), (m_a_letters, .inl (cI, 120, .inl m_letters))] := hD
        refine lv_iconst (v := 0) hx hb dX12_number_135 (by decide) ?_
        obtain ⟨e_0, e_1, e_2⟩ := zo3 hF
        subst e_0
        subst e_1
        subst e_2
        exact zret_i S hr hlocks hK hP hD hS dX12_number_136
    · have hF := zi_neg c_19 hF
      refine lv_iload_n hx hb dX12_number_91 rfl (lv_at hl 3 rfl) ?_
      refine lv_iconst (v := 2) hx hb dX12_number_92 (by decide) ?_
      refine lv_icmp_ne (tgt := 109) hx hb dX12_number_93 (by decide) (fun c_24 => ?_) (fun c_24 => ?_)
      · have hF := zi_neg c_24 hF
        refine lv_iconst (v := 0) hx hb dX12_number_109 (by decide) ?_
        refine lv_istore (lv' := [(5, .int 0), (0, .ref m_a), (1, .int p1), (2, .int p2), (3, .int v3_16), (4, .int v4_17)]) hx hb dX12_number_110 hl (by decide) rfl (fun ls hl => ?_)
        refine lv_iload hx hb dX12_number_112 (lv_at hl 0 rfl) ?_
        refine lv_if_eq (tgt := 127) hx hb dX12_number_114 (by decide) (fun c_25 => ?_) (fun c_25 => ?_)
        rotate_left
        · exact absurd c_25 (by decide)
        refine lv_aload_n hx hb dX12_number_127 rfl (lv_at hl 1 rfl) ?_
        refine lv_aload_n hx hb dX12_number_128 rfl (lv_at hl 1 rfl) ?_
        refine va_get (D := D) (ci := 12) (v := .int m_place_2) (C := RX12) (T := TX12) (N := 23) hx hb ht iyX12 hown hK hP 0 rfl rfl 16 (by decide) (ht _ wf_X12_58) (fun _ h9 => h9) rfl dX12_number_129 ?_
        refine va_put (D := D) (ci := 12) (v := .int m_place_2) (ty := .int) (C := RX12) (T := TX12) (N := 23) hx hb ht iyX12 tyX12 tyX12_ok nmX12 hown hK hP hD hS 0 rfl rfl 17 (by decide) (ht _ wf_X12_65) (fun _ h9 => h9) rfl (by decide +kernel) rfl rfl (Nat.le_of_ble_eq_true rfl) dX12_number_132 (fun H locs hP hD hS => ?_)
        have hP : va_P D classes [(m_a, .inr (12, [.ref m_a_letters, .int m_length, .int m_jumpers, .ref m_a_period, .ref m_a_hang, .ref m_a_st, .ref m_a_now, .ref m_a_book, .int m_undos, .ref m_a_images, .ref m_a_isKept, .int m_seen, .ref m_a_seenHang, .ref m_a_seenTick, .ref m_a_seenUp, .long m_trail, .int m_place_2, .int m_place_2, .int m_items, .int m_saidEvery, .int m_readEvery, .int m_readJumpers, .ref m_a_readOne])), (m_a_letters, .inl (cI, 120, .inl m_letters))] H := hP
        have hD : va_D A [(m_a, .inr (12, [.ref m_a_letters, .int m_length, .int m_jumpers, .ref m_a_period, .ref m_a_hang, .ref m_a_st, .ref m_a_now, .ref m_a_book, .int m_undos, .ref m_a_images, .ref m_a_isKept, .int m_seen, .ref m_a_seenHang, .ref m_a_seenTick, .ref m_a_seenUp, .long m_trail, .int m_place_2, .int m_place_2, .int m_items, .int m_saidEvery, .int m_readEvery, .int m_readJumpers, .ref m_a_readOne])), (m_a_letters, .inl (cI, 120, .inl m_letters))] := hD
        refine lv_iconst (v := 0) hx hb dX12_number_135 (by decide) ?_
        obtain ⟨e_0, e_1, e_2⟩ := zo3 hF
        subst e_0
        subst e_1
        subst e_2
        exact zret_i S hr hlocks hK hP hD hS dX12_number_136
      · have hF := zi_pos c_24 hF
        refine lv_aload_n hx hb dX12_number_96 rfl (lv_at hl 0 rfl) ?_
        obtain ⟨r_26, hc_27, hF⟩ := zb1_s hF
        refine zcv_i (ws1 := [(m_a, .inr (12, [.ref m_a_letters, .int m_length, .int m_jumpers, .ref m_a_period, .ref m_a_hang, .ref m_a_st, .ref m_a_now, .ref m_a_book, .int m_undos, .ref m_a_images, .ref m_a_isKept, .int m_seen, .ref m_a_seenHang, .ref m_a_seenTick, .ref m_a_seenUp, .long m_trail, .int m_place_2, .int m_wrong, .int m_items, .int m_saidEvery, .int m_readEvery, .int m_readJumpers, .ref m_a_readOne])), (m_a_letters, .inl (cI, 120, .inl m_letters))]) S hT lk_X12_61 (c_X12_here l D cI cZ cS cJ m_a m_a_letters m_a_period m_a_hang m_a_st m_a_now m_a_book m_a_images m_a_isKept m_a_seenHang m_a_seenTick m_a_seenUp m_a_readOne m_length m_jumpers m_undos m_seen m_trail m_place_2 m_wrong m_items m_saidEvery m_readEvery m_readJumpers m_letters hc_27) ⟨rfl, rfl, Nat.le_of_ble_eq_true rfl, Nat.le_of_ble_eq_true rfl⟩ hK hP hD hS hA [0, 1] [] [0, 1] rfl rfl rfl rfl rfl rfl rfl rfl rfl rfl rfl hl.1 rfl (Nat.le_of_ble_eq_true rfl) dX12_number_97 ⟨Nat.zero_le _, Nat.zero_le _⟩ (fun H locs hP hD hS => ?_)
        refine lv_bipush (v := 48) hx hb dX12_number_100 (by decide) ?_
        refine lv_icmp_eq (tgt := 109) hx hb dX12_number_102 (by decide) (fun c_28 => ?_) (fun c_28 => ?_)
        · have hF := zi_pos c_28 hF
          refine lv_iconst (v := 0) hx hb dX12_number_109 (by decide) ?_
          refine lv_istore (lv' := [(5, .int 0), (0, .ref m_a), (1, .int p1), (2, .int p2), (3, .int v3_16), (4, .int v4_17)]) hx hb dX12_number_110 hl (by decide) rfl (fun ls hl => ?_)
          refine lv_iload hx hb dX12_number_112 (lv_at hl 0 rfl) ?_
          refine lv_if_eq (tgt := 127) hx hb dX12_number_114 (by decide) (fun c_29 => ?_) (fun c_29 => ?_)
          rotate_left
          · exact absurd c_29 (by decide)
          refine lv_aload_n hx hb dX12_number_127 rfl (lv_at hl 1 rfl) ?_
          refine lv_aload_n hx hb dX12_number_128 rfl (lv_at hl 1 rfl) ?_
          refine va_get (D := D) (ci := 12) (v := .int m_place_2) (C := RX12) (T := TX12) (N := 23) hx hb ht iyX12 hown hK hP 0 rfl rfl 16 (by decide) (ht _ wf_X12_58) (fun _ h9 => h9) rfl dX12_number_129 ?_
          refine va_put (D := D) (ci := 12) (v := .int m_place_2) (ty := .int) (C := RX12) (T := TX12) (N := 23) hx hb ht iyX12 tyX12 tyX12_ok nmX12 hown hK hP hD hS 0 rfl rfl 17 (by decide) (ht _ wf_X12_65) (fun _ h9 => h9) rfl (by decide +kernel) rfl rfl (Nat.le_of_ble_eq_true rfl) dX12_number_132 (fun H locs hP hD hS => ?_)
          have hP : va_P D classes [(m_a, .inr (12, [.ref m_a_letters, .int m_length, .int m_jumpers, .ref m_a_period, .ref m_a_hang, .ref m_a_st, .ref m_a_now, .ref m_a_book, .int m_undos, .ref m_a_images, .ref m_a_isKept, .int m_seen, .ref m_a_seenHang, .ref m_a_seenTick, .ref m_a_seenUp, .long m_trail, .int m_place_2, .int m_place_2, .int m_items, .int m_saidEvery, .int m_readEvery, .int m_readJumpers, .ref m_a_readOne])), (m_a_letters, .inl (cI, 120, .inl m_letters))] H := hP
          have hD : va_D A [(m_a, .inr (12, [.ref m_a_letters, .int m_length, .int m_jumpers, .ref m_a_period, .ref m_a_hang, .ref m_a_st, .ref m_a_now, .ref m_a_book, .int m_undos, .ref m_a_images, .ref m_a_isKept, .int m_seen, .ref m_a_seenHang, .ref m_a_seenTick, .ref m_a_seenUp, .long m_trail, .int m_place_2, .int m_place_2, .int m_items, .int m_saidEvery, .int m_readEvery, .int m_readJumpers, .ref m_a_readOne])), (m_a_letters, .inl (cI, 120, .inl m_letters))] := hD
          refine lv_iconst (v := 0) hx hb dX12_number_135 (by decide) ?_
          obtain ⟨e_0, e_1, e_2⟩ := zo3 hF
          subst e_0
          subst e_1
          subst e_2
          exact zret_i S hr hlocks hK hP hD hS dX12_number_136
        · have hF := zi_neg c_28 hF
          refine lv_iconst (v := 1) hx hb dX12_number_105 (by decide) ?_
          refine lv_goto (tgt := 110) hx hb dX12_number_106 (by decide) ?_
          refine lv_istore (lv' := [(5, .int 1), (0, .ref m_a), (1, .int p1), (2, .int p2), (3, .int v3_16), (4, .int v4_17)]) hx hb dX12_number_110 hl (by decide) rfl (fun ls hl => ?_)
          refine lv_iload hx hb dX12_number_112 (lv_at hl 0 rfl) ?_
          refine lv_if_eq (tgt := 127) hx hb dX12_number_114 (by decide) (fun c_30 => ?_) (fun c_30 => ?_)
          · exact absurd c_30 (by decide)
          refine lv_iload hx hb dX12_number_117 (lv_at hl 5 rfl) ?_
          refine lv_iload_n hx hb dX12_number_119 rfl (lv_at hl 2 rfl) ?_
          refine lv_iload_n hx hb dX12_number_120 rfl (lv_at hl 3 rfl) ?_
          obtain ⟨r_31, hc_32, hF⟩ := zb1_s hF
          refine zcs_i (ws1 := [(m_a, .inr (12, [.ref m_a_letters, .int m_length, .int m_jumpers, .ref m_a_period, .ref m_a_hang, .ref m_a_st, .ref m_a_now, .ref m_a_book, .int m_undos, .ref m_a_images, .ref m_a_isKept, .int m_seen, .ref m_a_seenHang, .ref m_a_seenTick, .ref m_a_seenUp, .long m_trail, .int m_place_2, .int m_wrong, .int m_items, .int m_saidEvery, .int m_readEvery, .int m_readJumpers, .ref m_a_readOne])), (m_a_letters, .inl (cI, 120, .inl m_letters))]) S hT lk_X12_51 (c_X12_in l D cI cZ cS cJ v4_17 p1 p2 hc_32) ⟨rfl, rfl, Nat.le_of_ble_eq_true rfl, Nat.le_of_ble_eq_true rfl⟩ hK hP hD hS hA [] [0, 1] [0, 1] rfl rfl rfl rfl rfl rfl rfl rfl hl.1 rfl (Nat.le_of_ble_eq_true rfl) dX12_number_121 ⟨Nat.zero_le _, Nat.zero_le _⟩ (fun H locs hP hD hS => ?_)
          refine lv_if_ne (tgt := 137) hx hb dX12_number_124 (by decide) (fun c_33 => ?_) (fun c_33 => ?_)
          · have hF := zi_neg c_33 hF
            refine lv_aload_n hx hb dX12_number_137 rfl (lv_at hl 1 rfl) ?_
            refine lv_dup hx hb dX12_number_138 rfl ?_
            refine va_get (D := D) (ci := 12) (v := .int m_place_2) (C := RX12) (T := TX12) (N := 23) hx hb ht iyX12 hown hK hP 0 rfl rfl 16 (by decide) (ht _ wf_X12_58) (fun _ h9 => h9) rfl dX12_number_139 ?_
            refine lv_iload_n hx hb dX12_number_142 rfl (lv_at hl 4 rfl) ?_
            refine lv_iadd hx hb dX12_number_143 ?_
            refine va_put (D := D) (ci := 12) (v := .int (m_place_2 + v3_16)) (ty := .int) (C := RX12) (T := TX12) (N := 23) hx hb ht iyX12 tyX12 tyX12_ok nmX12 hown hK hP hD hS 0 rfl rfl 16 (by decide) (ht _ wf_X12_58) (fun _ h9 => h9) rfl (by decide +kernel) rfl rfl (Nat.le_of_ble_eq_true rfl) dX12_number_144 (fun H locs hP hD hS => ?_)
            have hP : va_P D classes [(m_a, .inr (12, [.ref m_a_letters, .int m_length, .int m_jumpers, .ref m_a_period, .ref m_a_hang, .ref m_a_st, .ref m_a_now, .ref m_a_book, .int m_undos, .ref m_a_images, .ref m_a_isKept, .int m_seen, .ref m_a_seenHang, .ref m_a_seenTick, .ref m_a_seenUp, .long m_trail, .int (m_place_2 + v3_16), .int m_wrong, .int m_items, .int m_saidEvery, .int m_readEvery, .int m_readJumpers, .ref m_a_readOne])), (m_a_letters, .inl (cI, 120, .inl m_letters))] H := hP
            have hD : va_D A [(m_a, .inr (12, [.ref m_a_letters, .int m_length, .int m_jumpers, .ref m_a_period, .ref m_a_hang, .ref m_a_st, .ref m_a_now, .ref m_a_book, .int m_undos, .ref m_a_images, .ref m_a_isKept, .int m_seen, .ref m_a_seenHang, .ref m_a_seenTick, .ref m_a_seenUp, .long m_trail, .int (m_place_2 + v3_16), .int m_wrong, .int m_items, .int m_saidEvery, .int m_readEvery, .int m_readJumpers, .ref m_a_readOne])), (m_a_letters, .inl (cI, 120, .inl m_letters))] := hD
            refine lv_iload hx hb dX12_number_147 (lv_at hl 5 rfl) ?_
            obtain ⟨e_0, e_1, e_2⟩ := zo3 hF
            subst e_0
            subst e_1
            subst e_2
            exact zret_i S hr hlocks hK hP hD hS dX12_number_149
          · have hF := zi_pos c_33 hF
            refine lv_aload_n hx hb dX12_number_127 rfl (lv_at hl 1 rfl) ?_
            refine lv_aload_n hx hb dX12_number_128 rfl (lv_at hl 1 rfl) ?_
            refine va_get (D := D) (ci := 12) (v := .int m_place_2) (C := RX12) (T := TX12) (N := 23) hx hb ht iyX12 hown hK hP 0 rfl rfl 16 (by decide) (ht _ wf_X12_58) (fun _ h9 => h9) rfl dX12_number_129 ?_
            refine va_put (D := D) (ci := 12) (v := .int m_place_2) (ty := .int) (C := RX12) (T := TX12) (N := 23) hx hb ht iyX12 tyX12 tyX12_ok nmX12 hown hK hP hD hS 0 rfl rfl 17 (by decide) (ht _ wf_X12_65) (fun _ h9 => h9) rfl (by decide +kernel) rfl rfl (Nat.le_of_ble_eq_true rfl) dX12_number_132 (fun H locs hP hD hS => ?_)
            have hP : va_P D classes [(m_a, .inr (12, [.ref m_a_letters, .int m_length, .int m_jumpers, .ref m_a_period, .ref m_a_hang, .ref m_a_st, .ref m_a_now, .ref m_a_book, .int m_undos, .ref m_a_images, .ref m_a_isKept, .int m_seen, .ref m_a_seenHang, .ref m_a_seenTick, .ref m_a_seenUp, .long m_trail, .int m_place_2, .int m_place_2, .int m_items, .int m_saidEvery, .int m_readEvery, .int m_readJumpers, .ref m_a_readOne])), (m_a_letters, .inl (cI, 120, .inl m_letters))] H := hP
            have hD : va_D A [(m_a, .inr (12, [.ref m_a_letters, .int m_length, .int m_jumpers, .ref m_a_period, .ref m_a_hang, .ref m_a_st, .ref m_a_now, .ref m_a_book, .int m_undos, .ref m_a_images, .ref m_a_isKept, .int m_seen, .ref m_a_seenHang, .ref m_a_seenTick, .ref m_a_seenUp, .long m_trail, .int m_place_2, .int m_place_2, .int m_items, .int m_saidEvery, .int m_readEvery, .int m_readJumpers, .ref m_a_readOne])), (m_a_letters, .inl (cI, 120, .inl m_letters))] := hD
            refine lv_iconst (v := 0) hx hb dX12_number_135 (by decide) ?_
            obtain ⟨e_0, e_1, e_2⟩ := zo3 hF
            subst e_0
            subst e_1
            subst e_2
            exact zret_i S hr hlocks hK hP hD hS dX12_number_136
  · have hF := zi_neg c_1 hF
    refine lv_iconst (v := 0) hx hb dX12_number_7 (by decide) ?_
    obtain ⟨e_0, e_1, e_2⟩ := zo3 hF
    subst e_0
    subst e_1
    subst e_2
    exact zret_i S hr hlocks hK hP hD hS dX12_number_8

def F_X12_ends (m_length : Int32) (m_place : Int32) (m_wrong : Int32) (m_items : Int32) (m_letters : Nat → Int32) : Option (Int32 × Int32 × Int32) :=
  (if m_wrong < 0 then (zb1 (F_X12_skips m_length m_place m_letters) (fun m_place_2 => (zb1 (F_X12_here m_length m_place_2 m_letters) (fun r_4 => (if r_4 = 59 then some (m_place_2 + 1, m_wrong, m_items + 1) else some (m_place_2, m_place_2, m_items)))))) else some (m_place, m_wrong, m_items))
set_option maxHeartbeats 4000000 in
set_option maxRecDepth 100000 in
theorem c_X12_ends (l : Launch) (D : va_G) (cI cZ cS cJ : ClassId) (m_a : Nat) (m_a_letters : Nat) (m_a_period : Nat) (m_a_hang : Nat) (m_a_st : Nat) (m_a_now : Nat) (m_a_book : Nat) (m_a_images : Nat) (m_a_isKept : Nat) (m_a_seenHang : Nat) (m_a_seenTick : Nat) (m_a_seenUp : Nat) (m_a_readOne : Nat) (m_length : Int32) (m_jumpers : Int32) (m_undos : Int32) (m_seen : Int32) (m_trail : Int64) (m_place : Int32) (m_wrong : Int32) (m_items : Int32) (m_saidEvery : Int32) (m_readEvery : Int32) (m_readJumpers : Int32) (m_letters : Nat → Int32) {m_place_o : Int32} {m_wrong_o : Int32} {m_items_o : Int32} (hF : F_X12_ends m_length m_place m_wrong m_items m_letters = some (m_place_o, m_wrong_o, m_items_o)) : zMv l yX12_ends (zwl yX12_ends cX12_ends 1 none) { frames := 2, cells := 0, slots := 0, locals := 40 } D (TYS cI cZ cS cJ) [.ref m_a] [(m_a, .inr (12, [.ref m_a_letters, .int m_length, .int m_jumpers, .ref m_a_period, .ref m_a_hang, .ref m_a_st, .ref m_a_now, .ref m_a_book, .int m_undos, .ref m_a_images, .ref m_a_isKept, .int m_seen, .ref m_a_seenHang, .ref m_a_seenTick, .ref m_a_seenUp, .long m_trail, .int m_place, .int m_wrong, .int m_items, .int m_saidEvery, .int m_readEvery, .int m_readJumpers, .ref m_a_readOne])), (m_a_letters, .inl (cI, 120, .inl m_letters))] [(m_a, .inr (12, [.ref m_a_letters, .int m_length, .int m_jumpers, .ref m_a_period, .ref m_a_hang, .ref m_a_st, .ref m_a_now, .ref m_a_book, .int m_undos, .ref m_a_images, .ref m_a_isKept, .int m_seen, .ref m_a_seenHang, .ref m_a_seenTick, .ref m_a_seenUp, .long m_trail, .int m_place_o, .int m_wrong_o, .int m_items_o, .int m_saidEvery, .int m_readEvery, .int m_readJumpers, .ref m_a_readOne])), (m_a_letters, .inl (cI, 120, .inl m_letters))] := by
  refine zent_v (own := RX12) (by decide) rfl (Nat.le_of_ble_eq_true rfl) ?_
  intro p e s m below meth c A ls S hr hlocks hK hP hD hA hl
  have hx := S.1
  have hb := S.2.1
  have hml := S.2.2.1
  have hown := S.2.2.2.1
  have hT : ∀ w ∈ zt, w ∈ zwl yX12_ends cX12_ends 1 none := fun _ h => List.mem_cons_of_mem _ h
  have ht : ∀ w ∈ zt, w.before [.ref m_a].toArray s = true := fun w h => S.2.2.2.2 w (hT w h)
  have hl : lv_has ls 1 [(0, .ref m_a)] := hl
  have hS : va_S A s.heap s.heap [] := va_S.rf
  unfold F_X12_ends at hF
  refine lv_aload_n hx hb dX12_ends_0 rfl (lv_at hl 0 rfl) ?_
  refine va_get (D := D) (ci := 12) (v := .int m_wrong) (C := RX12) (T := TX12) (N := 23) hx hb ht iyX12 hown hK hP 0 rfl rfl 17 (by decide) (ht _ wf_X12_65) (fun _ h9 => h9) rfl dX12_ends_1 ?_
  refine lv_if_lt (tgt := 8) hx hb dX12_ends_4 (by decide) (fun c_1 => ?_) (fun c_1 => ?_)
  · have hF := zi_pos c_1 hF
    refine lv_aload_n hx hb dX12_ends_8 rfl (lv_at hl 0 rfl) ?_
    obtain ⟨m_place_2, hc_3, hF⟩ := zb1_s hF
    refine zcv_v (ws1 := [(m_a, .inr (12, [.ref m_a_letters, .int m_length, .int m_jumpers, .ref m_a_period, .ref m_a_hang, .ref m_a_st, .ref m_a_now, .ref m_a_book, .int m_undos, .ref m_a_images, .ref m_a_isKept, .int m_seen, .ref m_a_seenHang, .ref m_a_seenTick, .ref m_a_seenUp, .long m_trail, .int m_place_2, .int m_wrong, .int m_items, .int m_saidEvery, .int m_readEvery, .int m_readJumpers, .ref m_a_readOne])), (m_a_letters, .inl (cI, 120, .inl m_letters))]) S hT lk_X12_68 (c_X12_skips l D cI cZ cS cJ m_a m_a_letters m_a_period m_a_hang m_a_st m_a_now m_a_book m_a_images m_a_isKept m_a_seenHang m_a_seenTick m_a_seenUp m_a_readOne m_length m_jumpers m_undos m_seen m_trail m_place m_wrong m_items m_saidEvery m_readEvery m_readJumpers m_letters hc_3) ⟨rfl, rfl, Nat.le_of_ble_eq_true rfl, Nat.le_of_ble_eq_true rfl⟩ hK hP hD hS hA [0, 1] [] [0, 1] rfl rfl rfl rfl rfl rfl rfl rfl rfl rfl rfl hl.1 rfl (Nat.le_of_ble_eq_true rfl) dX12_ends_9 ⟨Nat.zero_le _, Nat.zero_le _⟩ (fun H locs hP hD hS => ?_)
    refine lv_aload_n hx hb dX12_ends_12 rfl (lv_at hl 0 rfl) ?_
    obtain ⟨r_4, hc_5, hF⟩ := zb1_s hF
    refine zcv_i (ws1 := [(m_a, .inr (12, [.ref m_a_letters, .int m_length, .int m_jumpers, .ref m_a_period, .ref m_a_hang, .ref m_a_st, .ref m_a_now, .ref m_a_book, .int m_undos, .ref m_a_images, .ref m_a_isKept, .int m_seen, .ref m_a_seenHang, .ref m_a_seenTick, .ref m_a_seenUp, .long m_trail, .int m_place_2, .int m_wrong, .int m_items, .int m_saidEvery, .int m_readEvery, .int m_readJumpers, .ref m_a_readOne])), (m_a_letters, .inl (cI, 120, .inl m_letters))]) S hT lk_X12_61 (c_X12_here l D cI cZ cS cJ m_a m_a_letters m_a_period m_a_hang m_a_st m_a_now m_a_book m_a_images m_a_isKept m_a_seenHang m_a_seenTick m_a_seenUp m_a_readOne m_length m_jumpers m_undos m_seen m_trail m_place_2 m_wrong m_items m_saidEvery m_readEvery m_readJumpers m_letters hc_5) ⟨rfl, rfl, Nat.le_of_ble_eq_true rfl, Nat.le_of_ble_eq_true rfl⟩ hK hP hD hS hA [0, 1] [] [0, 1] rfl rfl rfl rfl rfl rfl rfl rfl rfl rfl rfl hl.1 rfl (Nat.le_of_ble_eq_true rfl) dX12_ends_13 ⟨Nat.zero_le _, Nat.zero_le _⟩ (fun H locs hP hD hS => ?_)
    refine lv_bipush (v := 59) hx hb dX12_ends_16 (by decide) ?_
    refine lv_icmp_ne (tgt := 44) hx hb dX12_ends_18 (by decide) (fun c_6 => ?_) (fun c_6 => ?_)
    · have hF := zi_neg c_6 hF
      refine lv_aload_n hx hb dX12_ends_44 rfl (lv_at hl 0 rfl) ?_
      refine lv_aload_n hx hb dX12_ends_45 rfl (lv_at hl 0 rfl) ?_
      refine va_get (D := D) (ci := 12) (v := .int m_place_2) (C := RX12) (T := TX12) (N := 23) hx hb ht iyX12 hown hK hP 0 rfl rfl 16 (by decide) (ht _ wf_X12_58) (fun _ h9 => h9) rfl dX12_ends_46 ?_
      refine va_put (D := D) (ci := 12) (v := .int m_place_2) (ty := .int) (C := RX12) (T := TX12) (N := 23) hx hb ht iyX12 tyX12 tyX12_ok nmX12 hown hK hP hD hS 0 rfl rfl 17 (by decide) (ht _ wf_X12_65) (fun _ h9 => h9) rfl (by decide +kernel) rfl rfl (Nat.le_of_ble_eq_true rfl) dX12_ends_49 (fun H locs hP hD hS => ?_)
      have hP : va_P D classes [(m_a, .inr (12, [.ref m_a_letters, .int m_length, .int m_jumpers, .ref m_a_period, .ref m_a_hang, .ref m_a_st, .ref m_a_now, .ref m_a_book, .int m_undos, .ref m_a_images, .ref m_a_isKept, .int m_seen, .ref m_a_seenHang, .ref m_a_seenTick, .ref m_a_seenUp, .long m_trail, .int m_place_2, .int m_place_2, .int m_items, .int m_saidEvery, .int m_readEvery, .int m_readJumpers, .ref m_a_readOne])), (m_a_letters, .inl (cI, 120, .inl m_letters))] H := hP
      have hD : va_D A [(m_a, .inr (12, [.ref m_a_letters, .int m_length, .int m_jumpers, .ref m_a_period, .ref m_a_hang, .ref m_a_st, .ref m_a_now, .ref m_a_book, .int m_undos, .ref m_a_images, .ref m_a_isKept, .int m_seen, .ref m_a_seenHang, .ref m_a_seenTick, .ref m_a_seenUp, .long m_trail, .int m_place_2, .int m_place_2, .int m_items, .int m_saidEvery, .int m_readEvery, .int m_readJumpers, .ref m_a_readOne])), (m_a_letters, .inl (cI, 120, .inl m_letters))] := hD
      obtain ⟨e_0, e_1, e_2⟩ := zo3 hF
      subst e_0
      subst e_1
      subst e_2
      exact zret_v S hr hlocks hK hP hD hS dX12_ends_52
    · have hF := zi_pos c_6 hF
      refine lv_aload_n hx hb dX12_ends_21 rfl (lv_at hl 0 rfl) ?_
      refine lv_dup hx hb dX12_ends_22 rfl ?_
      refine va_get (D := D) (ci := 12) (v := .int m_place_2) (C := RX12) (T := TX12) (N := 23) hx hb ht iyX12 hown hK hP 0 rfl rfl 16 (by decide) (ht _ wf_X12_58) (fun _ h9 => h9) rfl dX12_ends_23 ?_
      refine lv_iconst (v := 1) hx hb dX12_ends_26 (by decide) ?_
      refine lv_iadd hx hb dX12_ends_27 ?_
      refine va_put (D := D) (ci := 12) (v := .int (m_place_2 + 1)) (ty := .int) (C := RX12) (T := TX12) (N := 23) hx hb ht iyX12 tyX12 tyX12_ok nmX12 hown hK hP hD hS 0 rfl rfl 16 (by decide) (ht _ wf_X12_58) (fun _ h9 => h9) rfl (by decide +kernel) rfl rfl (Nat.le_of_ble_eq_true rfl) dX12_ends_28 (fun H locs hP hD hS => ?_)
      have hP : va_P D classes [(m_a, .inr (12, [.ref m_a_letters, .int m_length, .int m_jumpers, .ref m_a_period, .ref m_a_hang, .ref m_a_st, .ref m_a_now, .ref m_a_book, .int m_undos, .ref m_a_images, .ref m_a_isKept, .int m_seen, .ref m_a_seenHang, .ref m_a_seenTick, .ref m_a_seenUp, .long m_trail, .int (m_place_2 + 1), .int m_wrong, .int m_items, .int m_saidEvery, .int m_readEvery, .int m_readJumpers, .ref m_a_readOne])), (m_a_letters, .inl (cI, 120, .inl m_letters))] H := hP
      have hD : va_D A [(m_a, .inr (12, [.ref m_a_letters, .int m_length, .int m_jumpers, .ref m_a_period, .ref m_a_hang, .ref m_a_st, .ref m_a_now, .ref m_a_book, .int m_undos, .ref m_a_images, .ref m_a_isKept, .int m_seen, .ref m_a_seenHang, .ref m_a_seenTick, .ref m_a_seenUp, .long m_trail, .int (m_place_2 + 1), .int m_wrong, .int m_items, .int m_saidEvery, .int m_readEvery, .int m_readJumpers, .ref m_a_readOne])), (m_a_letters, .inl (cI, 120, .inl m_letters))] := hD
      refine lv_aload_n hx hb dX12_ends_31 rfl (lv_at hl 0 rfl) ?_
      refine lv_dup hx hb dX12_ends_32 rfl ?_
      refine va_get (D := D) (ci := 12) (v := .int m_items) (C := RX12) (T := TX12) (N := 23) hx hb ht iyX12 hown hK hP 0 rfl rfl 18 (by decide) (ht _ wf_X12_75) (fun _ h9 => h9) rfl dX12_ends_33 ?_
      refine lv_iconst (v := 1) hx hb dX12_ends_36 (by decide) ?_
      refine lv_iadd hx hb dX12_ends_37 ?_
      refine va_put (D := D) (ci := 12) (v := .int (m_items + 1)) (ty := .int) (C := RX12) (T := TX12) (N := 23) hx hb ht iyX12 tyX12 tyX12_ok nmX12 hown hK hP hD hS 0 rfl rfl 18 (by decide) (ht _ wf_X12_75) (fun _ h9 => h9) rfl (by decide +kernel) rfl rfl (Nat.le_of_ble_eq_true rfl) dX12_ends_38 (fun H locs hP hD hS => ?_)
      have hP : va_P D classes [(m_a, .inr (12, [.ref m_a_letters, .int m_length, .int m_jumpers, .ref m_a_period, .ref m_a_hang, .ref m_a_st, .ref m_a_now, .ref m_a_book, .int m_undos, .ref m_a_images, .ref m_a_isKept, .int m_seen, .ref m_a_seenHang, .ref m_a_seenTick, .ref m_a_seenUp, .long m_trail, .int (m_place_2 + 1), .int m_wrong, .int (m_items + 1), .int m_saidEvery, .int m_readEvery, .int m_readJumpers, .ref m_a_readOne])), (m_a_letters, .inl (cI, 120, .inl m_letters))] H := hP
      have hD : va_D A [(m_a, .inr (12, [.ref m_a_letters, .int m_length, .int m_jumpers, .ref m_a_period, .ref m_a_hang, .ref m_a_st, .ref m_a_now, .ref m_a_book, .int m_undos, .ref m_a_images, .ref m_a_isKept, .int m_seen, .ref m_a_seenHang, .ref m_a_seenTick, .ref m_a_seenUp, .long m_trail, .int (m_place_2 + 1), .int m_wrong, .int (m_items + 1), .int m_saidEvery, .int m_readEvery, .int m_readJumpers, .ref m_a_readOne])), (m_a_letters, .inl (cI, 120, .inl m_letters))] := hD
      refine lv_goto (tgt := 52) hx hb dX12_ends_41 (by decide) ?_
      obtain ⟨e_0, e_1, e_2⟩ := zo3 hF
      subst e_0
      subst e_1
      subst e_2
      exact zret_v S hr hlocks hK hP hD hS dX12_ends_52
  · have hF := zi_neg c_1 hF
    obtain ⟨e_0, e_1, e_2⟩ := zo3 hF
    subst e_0
    subst e_1
    subst e_2
    exact zret_v S hr hlocks hK hP hD hS dX12_ends_7

theorem lk_X12_85 : zLk RX12 85 yX12_number cX12_number 6 (some .int) 2 := ⟨⟨wm_X12_85, wo_X12_number, we_X12_X12_number, wi_X12, wd_X12_number⟩, by decide, by decide, by decide +kernel⟩
theorem lk_X12_92 : zLk RX12 92 yX12_ends cX12_ends 1 none 0 := ⟨⟨wm_X12_92, wo_X12_ends, we_X12_X12_ends, wi_X12, wd_X12_ends⟩, by decide, by decide, by decide +kernel⟩
def F_X12_readItem (m_length : Int32) (m_place : Int32) (m_wrong : Int32) (m_items : Int32) (m_saidEvery : Int32) (m_readEvery : Int32) (m_readJumpers : Int32) (m_letters : Nat → Int32) (m_readOne : Nat → Int32) : Option (Int32 × Int32 × Int32 × Int32 × Int32 × Int32 × (Nat → Int32)) :=
  (zb1 (F_X12_here m_length m_place m_letters) (fun r_1 => (if r_1 = 101 then (if m_saidEvery = 0 then (zb3 (F_X12_number m_length (m_place + 1) m_wrong m_letters 2 9) (fun r_61 m_place_62 m_wrong_63 => (zb3 (F_X12_ends m_length m_place_62 m_wrong_63 m_items m_letters) (fun m_place_65 m_wrong_66 m_items_67 => some (m_place_65, m_wrong_66, m_items_67, 1, r_61, m_readJumpers, m_readOne))))) else (zb1 (F_X12_here m_length m_place m_letters) (fun r_33 => (if r_33 = 106 then (if 6 ≤ m_readJumpers then some (m_place, m_place, m_items, m_saidEvery, m_readEvery, m_readJumpers, m_readOne) else (zb3 (F_X12_number m_length (m_place + 1) m_wrong m_letters 2 12) (fun r_37 m_place_38 m_wrong_39 => (if ((4 * m_readJumpers) < 0 ∨ 24 ≤ (4 * m_readJumpers).toNatClampNeg) then none else (zb3 (F_X12_number m_length m_place_38 m_wrong_39 m_letters 1 4) (fun r_42 m_place_43 m_wrong_44 => (if (((4 * m_readJumpers) + 1) < 0 ∨ 24 ≤ ((4 * m_readJumpers) + 1).toNatClampNeg) then none else (zb3 (F_X12_number m_length m_place_43 m_wrong_44 m_letters 0 11) (fun r_47 m_place_48 m_wrong_49 => (if (((4 * m_readJumpers) + 2) < 0 ∨ 24 ≤ ((4 * m_readJumpers) + 2).toNatClampNeg) then none else (zb3 (F_X12_number m_length m_place_48 m_wrong_49 m_letters 1 60) (fun r_52 m_place_53 m_wrong_54 => (if (((4 * m_readJumpers) + 3) < 0 ∨ 24 ≤ ((4 * m_readJumpers) + 3).toNatClampNeg) then none else (zb3 (F_X12_ends m_length m_place_53 m_wrong_54 m_items m_letters) (fun m_place_57 m_wrong_58 m_items_59 => some (m_place_57, m_wrong_58, m_items_59, m_saidEvery, m_readEvery, m_readJumpers + 1, upd (upd (upd (upd m_readOne (4 * m_readJumpers).toNatClampNeg r_37) ((4 * m_readJumpers) + 1).toNatClampNeg r_42) ((4 * m_readJumpers) + 2).toNatClampNeg r_47) ((4 * m_readJumpers) + 3).toNatClampNeg r_52)))))))))))))))) else some (m_place, m_place, m_items, m_saidEvery, m_readEvery, m_readJumpers, m_readOne))))) else (zb1 (F_X12_here m_length m_place m_letters) (fun r_4 => (if r_4 = 106 then (if 6 ≤ m_readJumpers then some (m_place, m_place, m_items, m_saidEvery, m_readEvery, m_readJumpers, m_readOne) else (zb3 (F_X12_number m_length (m_place + 1) m_wrong m_letters 2 12) (fun r_8 m_place_9 m_wrong_10 => (if ((4 * m_readJumpers) < 0 ∨ 24 ≤ (4 * m_readJumpers).toNatClampNeg) then none else (zb3 (F_X12_number m_length m_place_9 m_wrong_10 m_letters 1 4) (fun r_13 m_place_14 m_wrong_15 => (if (((4 * m_readJumpers) + 1) < 0 ∨ 24 ≤ ((4 * m_readJumpers) + 1).toNatClampNeg) then none else (zb3 (F_X12_number m_length m_place_14 m_wrong_15 m_letters 0 11) (fun r_18 m_place_19 m_wrong_20 => (if (((4 * m_readJumpers) + 2) < 0 ∨ 24 ≤ ((4 * m_readJumpers) + 2).toNatClampNeg) then none else (zb3 (F_X12_number m_length m_place_19 m_wrong_20 m_letters 1 60) (fun r_23 m_place_24 m_wrong_25 => (if (((4 * m_readJumpers) + 3) < 0 ∨ 24 ≤ ((4 * m_readJumpers) + 3).toNatClampNeg) then none else (zb3 (F_X12_ends m_length m_place_24 m_wrong_25 m_items m_letters) (fun m_place_28 m_wrong_29 m_items_30 => some (m_place_28, m_wrong_29, m_items_30, m_saidEvery, m_readEvery, m_readJumpers + 1, upd (upd (upd (upd m_readOne (4 * m_readJumpers).toNatClampNeg r_8) ((4 * m_readJumpers) + 1).toNatClampNeg r_13) ((4 * m_readJumpers) + 2).toNatClampNeg r_18) ((4 * m_readJumpers) + 3).toNatClampNeg r_23)))))))))))))))) else some (m_place, m_place, m_items, m_saidEvery, m_readEvery, m_readJumpers, m_readOne)))))))
set_option maxHeartbeats 4000000 in
set_option maxRecDepth 100000 in
theorem c_X12_readItem (l : Launch) (D : va_G) (cI cZ cS cJ : ClassId) (m_a : Nat) (m_a_letters : Nat) (m_a_period : Nat) (m_a_hang : Nat) (m_a_st : Nat) (m_a_now : Nat) (m_a_book : Nat) (m_a_images : Nat) (m_a_isKept : Nat) (m_a_seenHang : Nat) (m_a_seenTick : Nat) (m_a_seenUp : Nat) (m_a_readOne : Nat) (m_length : Int32) (m_jumpers : Int32) (m_undos : Int32) (m_seen : Int32) (m_trail : Int64) (m_place : Int32) (m_wrong : Int32) (m_items : Int32) (m_saidEvery : Int32) (m_readEvery : Int32) (m_readJumpers : Int32) (m_letters : Nat → Int32) (m_readOne : Nat → Int32) {m_place_o : Int32} {m_wrong_o : Int32} {m_items_o : Int32} {m_saidEvery_o : Int32} {m_readEvery_o : Int32} {m_readJumpers_o : Int32} {m_readOne_o : Nat → Int32} (hF : F_X12_readItem m_length m_place m_wrong m_items m_saidEvery m_readEvery m_readJumpers m_letters m_readOne = some (m_place_o, m_wrong_o, m_items_o, m_saidEvery_o, m_readEvery_o, m_readJumpers_o, m_readOne_o)) : zMv l yX12_readItem (zwl yX12_readItem cX12_readItem 2 none) { frames := 3, cells := 0, slots := 0, locals := 67 } D (TYS cI cZ cS cJ) [.ref m_a] [(m_a, .inr (12, [.ref m_a_letters, .int m_length, .int m_jumpers, .ref m_a_period, .ref m_a_hang, .ref m_a_st, .ref m_a_now, .ref m_a_book, .int m_undos, .ref m_a_images, .ref m_a_isKept, .int m_seen, .ref m_a_seenHang, .ref m_a_seenTick, .ref m_a_seenUp, .long m_trail, .int m_place, .int m_wrong, .int m_items, .int m_saidEvery, .int m_readEvery, .int m_readJumpers, .ref m_a_readOne])), (m_a_letters, .inl (cI, 120, .inl m_letters)), (m_a_readOne, .inl (cI, 24, .inl m_readOne))] [(m_a, .inr (12, [.ref m_a_letters, .int m_length, .int m_jumpers, .ref m_a_period, .ref m_a_hang, .ref m_a_st, .ref m_a_now, .ref m_a_book, .int m_undos, .ref m_a_images, .ref m_a_isKept, .int m_seen, .ref m_a_seenHang, .ref m_a_seenTick, .ref m_a_seenUp, .long m_trail, .int m_place_o, .int m_wrong_o, .int m_items_o, .int m_saidEvery_o, .int m_readEvery_o, .int m_readJumpers_o, .ref m_a_readOne])), (m_a_letters, .inl (cI, 120, .inl m_letters)), (m_a_readOne, .inl (cI, 24, .inl m_readOne_o))] := by
  refine zent_v (own := RX12) (by decide) rfl (Nat.le_of_ble_eq_true rfl) ?_
  intro p e s m below meth c A ls S hr hlocks hK hP hD hA hl
  have hx := S.1
  have hb := S.2.1
  have hml := S.2.2.1
  have hown := S.2.2.2.1
  have hT : ∀ w ∈ zt, w ∈ zwl yX12_readItem cX12_readItem 2 none := fun _ h => List.mem_cons_of_mem _ h
  have ht : ∀ w ∈ zt, w.before [.ref m_a].toArray s = true := fun w h => S.2.2.2.2 w (hT w h)
  have hl : lv_has ls 2 [(0, .ref m_a)] := hl
  have hS : va_S A s.heap s.heap [] := va_S.rf
  unfold F_X12_readItem at hF
  refine lv_iconst (v := 4) hx hb dX12_readItem_0 (by decide) ?_
  refine lv_aload_n hx hb dX12_readItem_1 rfl (lv_at hl 0 rfl) ?_
  refine va_get (D := D) (ci := 12) (v := .int m_readJumpers) (C := RX12) (T := TX12) (N := 23) hx hb ht iyX12 hown hK hP 0 rfl rfl 21 (by decide) (ht _ wf_X12_78) (fun _ h9 => h9) rfl dX12_readItem_2 ?_
  refine lv_imul hx hb dX12_readItem_5 ?_
  refine lv_istore_n (lv' := [(1, .int (4 * m_readJumpers)), (0, .ref m_a)]) hx hb dX12_readItem_6 rfl hl (by decide) rfl (fun ls hl => ?_)
  refine lv_aload_n hx hb dX12_readItem_7 rfl (lv_at hl 1 rfl) ?_
  obtain ⟨r_1, hc_2, hF⟩ := zb1_s hF
  refine zcv_i (ws1 := [(m_a, .inr (12, [.ref m_a_letters, .int m_length, .int m_jumpers, .ref m_a_period, .ref m_a_hang, .ref m_a_st, .ref m_a_now, .ref m_a_book, .int m_undos, .ref m_a_images, .ref m_a_isKept, .int m_seen, .ref m_a_seenHang, .ref m_a_seenTick, .ref m_a_seenUp, .long m_trail, .int m_place, .int m_wrong, .int m_items, .int m_saidEvery, .int m_readEvery, .int m_readJumpers, .ref m_a_readOne])), (m_a_letters, .inl (cI, 120, .inl m_letters)), (m_a_readOne, .inl (cI, 24, .inl m_readOne))]) S hT lk_X12_61 (c_X12_here l D cI cZ cS cJ m_a m_a_letters m_a_period m_a_hang m_a_st m_a_now m_a_book m_a_images m_a_isKept m_a_seenHang m_a_seenTick m_a_seenUp m_a_readOne m_length m_jumpers m_undos m_seen m_trail m_place m_wrong m_items m_saidEvery m_readEvery m_readJumpers m_letters hc_2) ⟨rfl, rfl, Nat.le_of_ble_eq_true rfl, Nat.le_of_ble_eq_true rfl⟩ hK hP hD hS hA [0, 1] [2] [1, 2, 0] rfl rfl rfl rfl rfl rfl rfl rfl rfl rfl rfl hl.1 rfl (Nat.le_of_ble_eq_true rfl) dX12_readItem_8 ⟨Nat.zero_le _, Nat.zero_le _⟩ (fun H locs hP hD hS => ?_)
  refine lv_bipush (v := 101) hx hb dX12_readItem_11 (by decide) ?_
  refine lv_icmp_ne (tgt := 56) hx hb dX12_readItem_13 (by decide) (fun c_3 => ?_) (fun c_3 => ?_)
  · have hF := zi_neg c_3 hF
    refine lv_aload_n hx hb dX12_readItem_56 rfl (lv_at hl 1 rfl) ?_
    obtain ⟨r_4, hc_5, hF⟩ := zb1_s hF
    refine zcv_i (ws1 := [(m_a, .inr (12, [.ref m_a_letters, .int m_length, .int m_jumpers, .ref m_a_period, .ref m_a_hang, .ref m_a_st, .ref m_a_now, .ref m_a_book, .int m_undos, .ref m_a_images, .ref m_a_isKept, .int m_seen, .ref m_a_seenHang, .ref m_a_seenTick, .ref m_a_seenUp, .long m_trail, .int m_place, .int m_wrong, .int m_items, .int m_saidEvery, .int m_readEvery, .int m_readJumpers, .ref m_a_readOne])), (m_a_letters, .inl (cI, 120, .inl m_letters)), (m_a_readOne, .inl (cI, 24, .inl m_readOne))]) S hT lk_X12_61 (c_X12_here l D cI cZ cS cJ m_a m_a_letters m_a_period m_a_hang m_a_st m_a_now m_a_book m_a_images m_a_isKept m_a_seenHang m_a_seenTick m_a_seenUp m_a_readOne m_length m_jumpers m_undos m_seen m_trail m_place m_wrong m_items m_saidEvery m_readEvery m_readJumpers m_letters hc_5) ⟨rfl, rfl, Nat.le_of_ble_eq_true rfl, Nat.le_of_ble_eq_true rfl⟩ hK hP hD hS hA [0, 1] [2] [1, 2, 0] rfl rfl rfl rfl rfl rfl rfl rfl rfl rfl rfl hl.1 rfl (Nat.le_of_ble_eq_true rfl) dX12_readItem_57 ⟨Nat.zero_le _, Nat.zero_le _⟩ (fun H locs hP hD hS => ?_)
    refine lv_bipush (v := 106) hx hb dX12_readItem_60 (by decide) ?_
    refine lv_icmp_ne (tgt := 158) hx hb dX12_readItem_62 (by decide) (fun c_6 => ?_) (fun c_6 => ?_)
    · have hF := zi_neg c_6 hF
      refine lv_aload_n hx hb dX12_readItem_158 rfl (lv_at hl 1 rfl) ?_
      refine lv_aload_n hx hb dX12_readItem_159 rfl (lv_at hl 1 rfl) ?_
      refine va_get (D := D) (ci := 12) (v := .int m_place) (C := RX12) (T := TX12) (N := 23) hx hb ht iyX12 hown hK hP 0 rfl rfl 16 (by decide) (ht _ wf_X12_58) (fun _ h9 => h9) rfl dX12_readItem_160 ?_
      refine va_put (D := D) (ci := 12) (v := .int m_place) (ty := .int) (C := RX12) (T := TX12) (N := 23) hx hb ht iyX12 tyX12 tyX12_ok nmX12 hown hK hP hD hS 0 rfl rfl 17 (by decide) (ht _ wf_X12_65) (fun _ h9 => h9) rfl (by decide +kernel) rfl rfl (Nat.le_of_ble_eq_true rfl) dX12_readItem_163 (fun H locs hP hD hS => ?_)
      have hP : va_P D classes [(m_a, .inr (12, [.ref m_a_letters, .int m_length, .int m_jumpers, .ref m_a_period, .ref m_a_hang, .ref m_a_st, .ref m_a_now, .ref m_a_book, .int m_undos, .ref m_a_images, .ref m_a_isKept, .int m_seen, .ref m_a_seenHang, .ref m_a_seenTick, .ref m_a_seenUp, .long m_trail, .int m_place, .int m_place, .int m_items, .int m_saidEvery, .int m_readEvery, .int m_readJumpers, .ref m_a_readOne])), (m_a_letters, .inl (cI, 120, .inl m_letters)), (m_a_readOne, .inl (cI, 24, .inl m_readOne))] H := hP
      have hD : va_D A [(m_a, .inr (12, [.ref m_a_letters, .int m_length, .int m_jumpers, .ref m_a_period, .ref m_a_hang, .ref m_a_st, .ref m_a_now, .ref m_a_book, .int m_undos, .ref m_a_images, .ref m_a_isKept, .int m_seen, .ref m_a_seenHang, .ref m_a_seenTick, .ref m_a_seenUp, .long m_trail, .int m_place, .int m_place, .int m_items, .int m_saidEvery, .int m_readEvery, .int m_readJumpers, .ref m_a_readOne])), (m_a_letters, .inl (cI, 120, .inl m_letters)), (m_a_readOne, .inl (cI, 24, .inl m_readOne))] := hD
      obtain ⟨e_0, e_1, e_2, e_3, e_4, e_5, e_6⟩ := zo7 hF
      subst e_0
      subst e_1
      subst e_2
      subst e_3
      subst e_4
      subst e_5
      subst e_6
      exact zret_v S hr hlocks hK hP hD hS dX12_readItem_166
    · have hF := zi_pos c_6 hF
      refine lv_aload_n hx hb dX12_readItem_65 rfl (lv_at hl 1 rfl) ?_
      refine va_get (D := D) (ci := 12) (v := .int m_readJumpers) (C := RX12) (T := TX12) (N := 23) hx hb ht iyX12 hown hK hP 0 rfl rfl 21 (by decide) (ht _ wf_X12_78) (fun _ h9 => h9) rfl dX12_readItem_66 ?_
      refine lv_bipush (v := 6) hx hb dX12_readItem_69 (by decide) ?_
      refine lv_icmp_ge (tgt := 158) hx hb dX12_readItem_71 (by decide) (fun c_7 => ?_) (fun c_7 => ?_)
      · have hF := zi_pos c_7 hF
        refine lv_aload_n hx hb dX12_readItem_158 rfl (lv_at hl 1 rfl) ?_
        refine lv_aload_n hx hb dX12_readItem_159 rfl (lv_at hl 1 rfl) ?_
        refine va_get (D := D) (ci := 12) (v := .int m_place) (C := RX12) (T := TX12) (N := 23) hx hb ht iyX12 hown hK hP 0 rfl rfl 16 (by decide) (ht _ wf_X12_58) (fun _ h9 => h9) rfl dX12_readItem_160 ?_
        refine va_put (D := D) (ci := 12) (v := .int m_place) (ty := .int) (C := RX12) (T := TX12) (N := 23) hx hb ht iyX12 tyX12 tyX12_ok nmX12 hown hK hP hD hS 0 rfl rfl 17 (by decide) (ht _ wf_X12_65) (fun _ h9 => h9) rfl (by decide +kernel) rfl rfl (Nat.le_of_ble_eq_true rfl) dX12_readItem_163 (fun H locs hP hD hS => ?_)
        have hP : va_P D classes [(m_a, .inr (12, [.ref m_a_letters, .int m_length, .int m_jumpers, .ref m_a_period, .ref m_a_hang, .ref m_a_st, .ref m_a_now, .ref m_a_book, .int m_undos, .ref m_a_images, .ref m_a_isKept, .int m_seen, .ref m_a_seenHang, .ref m_a_seenTick, .ref m_a_seenUp, .long m_trail, .int m_place, .int m_place, .int m_items, .int m_saidEvery, .int m_readEvery, .int m_readJumpers, .ref m_a_readOne])), (m_a_letters, .inl (cI, 120, .inl m_letters)), (m_a_readOne, .inl (cI, 24, .inl m_readOne))] H := hP
        have hD : va_D A [(m_a, .inr (12, [.ref m_a_letters, .int m_length, .int m_jumpers, .ref m_a_period, .ref m_a_hang, .ref m_a_st, .ref m_a_now, .ref m_a_book, .int m_undos, .ref m_a_images, .ref m_a_isKept, .int m_seen, .ref m_a_seenHang, .ref m_a_seenTick, .ref m_a_seenUp, .long m_trail, .int m_place, .int m_place, .int m_items, .int m_saidEvery, .int m_readEvery, .int m_readJumpers, .ref m_a_readOne])), (m_a_letters, .inl (cI, 120, .inl m_letters)), (m_a_readOne, .inl (cI, 24, .inl m_readOne))] := hD
        obtain ⟨e_0, e_1, e_2, e_3, e_4, e_5, e_6⟩ := zo7 hF
        subst e_0
        subst e_1
        subst e_2
        subst e_3
        subst e_4
        subst e_5
        subst e_6
        exact zret_v S hr hlocks hK hP hD hS dX12_readItem_166
      · have hF := zi_neg c_7 hF
        refine lv_aload_n hx hb dX12_readItem_74 rfl (lv_at hl 1 rfl) ?_
        refine lv_dup hx hb dX12_readItem_75 rfl ?_
        refine va_get (D := D) (ci := 12) (v := .int m_place) (C := RX12) (T := TX12) (N := 23) hx hb ht iyX12 hown hK hP 0 rfl rfl 16 (by decide) (ht _ wf_X12_58) (fun _ h9 => h9) rfl dX12_readItem_76 ?_
        refine lv_iconst (v := 1) hx hb dX12_readItem_79 (by decide) ?_
        refine lv_iadd hx hb dX12_readItem_80 ?_
        refine va_put (D := D) (ci := 12) (v := .int (m_place + 1)) (ty := .int) (C := RX12) (T := TX12) (N := 23) hx hb ht iyX12 tyX12 tyX12_ok nmX12 hown hK hP hD hS 0 rfl rfl 16 (by decide) (ht _ wf_X12_58) (fun _ h9 => h9) rfl (by decide +kernel) rfl rfl (Nat.le_of_ble_eq_true rfl) dX12_readItem_81 (fun H locs hP hD hS => ?_)
        have hP : va_P D classes [(m_a, .inr (12, [.ref m_a_letters, .int m_length, .int m_jumpers, .ref m_a_period, .ref m_a_hang, .ref m_a_st, .ref m_a_now, .ref m_a_book, .int m_undos, .ref m_a_images, .ref m_a_isKept, .int m_seen, .ref m_a_seenHang, .ref m_a_seenTick, .ref m_a_seenUp, .long m_trail, .int (m_place + 1), .int m_wrong, .int m_items, .int m_saidEvery, .int m_readEvery, .int m_readJumpers, .ref m_a_readOne])), (m_a_letters, .inl (cI, 120, .inl m_letters)), (m_a_readOne, .inl (cI, 24, .inl m_readOne))] H := hP
        have hD : va_D A [(m_a, .inr (12, [.ref m_a_letters, .int m_length, .int m_jumpers, .ref m_a_period, .ref m_a_hang, .ref m_a_st, .ref m_a_now, .ref m_a_book, .int m_undos, .ref m_a_images, .ref m_a_isKept, .int m_seen, .ref m_a_seenHang, .ref m_a_seenTick, .ref m_a_seenUp, .long m_trail, .int (m_place + 1), .int m_wrong, .int m_items, .int m_saidEvery, .int m_readEvery, .int m_readJumpers, .ref m_a_readOne])), (m_a_letters, .inl (cI, 120, .inl m_letters)), (m_a_readOne, .inl (cI, 24, .inl m_readOne))] := hD
        refine lv_aload_n hx hb dX12_readItem_84 rfl (lv_at hl 1 rfl) ?_
        refine va_get (D := D) (ci := 12) (v := .ref m_a_readOne) (C := RX12) (T := TX12) (N := 23) hx hb ht iyX12 hown hK hP 0 rfl rfl 22 (by decide) (ht _ wf_X12_44) (fun _ h9 => h9) rfl dX12_readItem_85 ?_
        refine lv_iload_n hx hb dX12_readItem_88 rfl (lv_at hl 0 rfl) ?_
        refine lv_aload_n hx hb dX12_readItem_89 rfl (lv_at hl 1 rfl) ?_
        refine lv_iconst (v := 2) hx hb dX12_readItem_90 (by decide) ?_
        refine lv_bipush (v := 12) hx hb dX12_readItem_91 (by decide) ?_
        obtain ⟨r_8, m_place_9, m_wrong_10, hc_11, hF⟩ := zb3_s hF
        refine zcv_i (ws1 := [(m_a, .inr (12, [.ref m_a_letters, .int m_length, .int m_jumpers, .ref m_a_period, .ref m_a_hang, .ref m_a_st, .ref m_a_now, .ref m_a_book, .int m_undos, .ref m_a_images, .ref m_a_isKept, .int m_seen, .ref m_a_seenHang, .ref m_a_seenTick, .ref m_a_seenUp, .long m_trail, .int m_place_9, .int m_wrong_10, .int m_items, .int m_saidEvery, .int m_readEvery, .int m_readJumpers, .ref m_a_readOne])), (m_a_letters, .inl (cI, 120, .inl m_letters)), (m_a_readOne, .inl (cI, 24, .inl m_readOne))]) S hT lk_X12_85 (c_X12_number l D cI cZ cS cJ m_a m_a_letters m_a_period m_a_hang m_a_st m_a_now m_a_book m_a_images m_a_isKept m_a_seenHang m_a_seenTick m_a_seenUp m_a_readOne m_length m_jumpers m_undos m_seen m_trail (m_place + 1) m_wrong m_items m_saidEvery m_readEvery m_readJumpers m_letters 2 12 hc_11) ⟨rfl, rfl, Nat.le_of_ble_eq_true rfl, Nat.le_of_ble_eq_true rfl⟩ hK hP hD hS hA [0, 1] [2] [1, 2, 0] rfl rfl rfl rfl rfl rfl rfl rfl rfl rfl rfl hl.1 rfl (Nat.le_of_ble_eq_true rfl) dX12_readItem_93 ⟨Nat.zero_le _, Nat.zero_le _⟩ (fun H locs hP hD hS => ?_)
        obtain ⟨h_12, hF⟩ := zi_chk hF
        refine va_iast hx hb hK hP hD hS 2 0 rfl rfl h_12 dX12_readItem_96 (fun H locs hP hD hS => ?_)
        have hP : va_P D classes [(m_a, .inr (12, [.ref m_a_letters, .int m_length, .int m_jumpers, .ref m_a_period, .ref m_a_hang, .ref m_a_st, .ref m_a_now, .ref m_a_book, .int m_undos, .ref m_a_images, .ref m_a_isKept, .int m_seen, .ref m_a_seenHang, .ref m_a_seenTick, .ref m_a_seenUp, .long m_trail, .int m_place_9, .int m_wrong_10, .int m_items, .int m_saidEvery, .int m_readEvery, .int m_readJumpers, .ref m_a_readOne])), (m_a_letters, .inl (cI, 120, .inl m_letters)), (m_a_readOne, .inl (cI, 24, .inl (upd m_readOne (4 * m_readJumpers).toNatClampNeg r_8)))] H := hP
        have hD : va_D A [(m_a, .inr (12, [.ref m_a_letters, .int m_length, .int m_jumpers, .ref m_a_period, .ref m_a_hang, .ref m_a_st, .ref m_a_now, .ref m_a_book, .int m_undos, .ref m_a_images, .ref m_a_isKept, .int m_seen, .ref m_a_seenHang, .ref m_a_seenTick, .ref m_a_seenUp, .long m_trail, .int m_place_9, .int m_wrong_10, .int m_items, .int m_saidEvery, .int m_readEvery, .int m_readJumpers, .ref m_a_readOne])), (m_a_letters, .inl (cI, 120, .inl m_letters)), (m_a_readOne, .inl (cI, 24, .inl (upd m_readOne (4 * m_readJumpers).toNatClampNeg r_8)))] := hD
        refine lv_aload_n hx hb dX12_readItem_97 rfl (lv_at hl 1 rfl) ?_
        refine va_get (D := D) (ci := 12) (v := .ref m_a_readOne) (C := RX12) (T := TX12) (N := 23) hx hb ht iyX12 hown hK hP 0 rfl rfl 22 (by decide) (ht _ wf_X12_44) (fun _ h9 => h9) rfl dX12_readItem_98 ?_
        refine lv_iload_n hx hb dX12_readItem_101 rfl (lv_at hl 0 rfl) ?_
        refine lv_iconst (v := 1) hx hb dX12_readItem_102 (by decide) ?_
        refine lv_iadd hx hb dX12_readItem_103 ?_
        refine lv_aload_n hx hb dX12_readItem_104 rfl (lv_at hl 1 rfl) ?_
        refine lv_iconst (v := 1) hx hb dX12_readItem_105 (by decide) ?_
        refine lv_iconst (v := 4) hx hb dX12_readItem_106 (by decide) ?_
        obtain ⟨r_13, m_place_14, m_wrong_15, hc_16, hF⟩ := zb3_s hF
        refine zcv_i (ws1 := [(m_a, .inr (12, [.ref m_a_letters, .int m_length, .int m_jumpers, .ref m_a_period, .ref m_a_hang, .ref m_a_st, .ref m_a_now, .ref m_a_book, .int m_undos, .ref m_a_images, .ref m_a_isKept, .int m_seen, .ref m_a_seenHang, .ref m_a_seenTick, .ref m_a_seenUp, .long m_trail, .int m_place_14, .int m_wrong_15, .int m_items, .int m_saidEvery, .int m_readEvery, .int m_readJumpers, .ref m_a_readOne])), (m_a_letters, .inl (cI, 120, .inl m_letters)), (m_a_readOne, .inl (cI, 24, .inl (upd m_readOne (4 * m_readJumpers).toNatClampNeg r_8)))]) S hT lk_X12_85 (c_X12_number l D cI cZ cS cJ m_a m_a_letters m_a_period m_a_hang m_a_st m_a_now m_a_book m_a_images m_a_isKept m_a_seenHang m_a_seenTick m_a_seenUp m_a_readOne m_length m_jumpers m_undos m_seen m_trail m_place_9 m_wrong_10 m_items m_saidEvery m_readEvery m_readJumpers m_letters 1 4 hc_16) ⟨rfl, rfl, Nat.le_of_ble_eq_true rfl, Nat.le_of_ble_eq_true rfl⟩ hK hP hD hS hA [0, 1] [2] [1, 2, 0] rfl rfl rfl rfl rfl rfl rfl rfl rfl rfl rfl hl.1 rfl (Nat.le_of_ble_eq_true rfl) dX12_readItem_107 ⟨Nat.zero_le _, Nat.zero_le _⟩ (fun H locs hP hD hS => ?_)
        obtain ⟨h_17, hF⟩ := zi_chk hF
        refine va_iast hx hb hK hP hD hS 2 0 rfl rfl h_17 dX12_readItem_110 (fun H locs hP hD hS => ?_)
        have hP : va_P D classes [(m_a, .inr (12, [.ref m_a_letters, .int m_length, .int m_jumpers, .ref m_a_period, .ref m_a_hang, .ref m_a_st, .ref m_a_now, .ref m_a_book, .int m_undos, .ref m_a_images, .ref m_a_isKept, .int m_seen, .ref m_a_seenHang, .ref m_a_seenTick, .ref m_a_seenUp, .long m_trail, .int m_place_14, .int m_wrong_15, .int m_items, .int m_saidEvery, .int m_readEvery, .int m_readJumpers, .ref m_a_readOne])), (m_a_letters, .inl (cI, 120, .inl m_letters)), (m_a_readOne, .inl (cI, 24, .inl (upd (upd m_readOne (4 * m_readJumpers).toNatClampNeg r_8) ((4 * m_readJumpers) + 1).toNatClampNeg r_13)))] H := hP
        have hD : va_D A [(m_a, .inr (12, [.ref m_a_letters, .int m_length, .int m_jumpers, .ref m_a_period, .ref m_a_hang, .ref m_a_st, .ref m_a_now, .ref m_a_book, .int m_undos, .ref m_a_images, .ref m_a_isKept, .int m_seen, .ref m_a_seenHang, .ref m_a_seenTick, .ref m_a_seenUp, .long m_trail, .int m_place_14, .int m_wrong_15, .int m_items, .int m_saidEvery, .int m_readEvery, .int m_readJumpers, .ref m_a_readOne])), (m_a_letters, .inl (cI, 120, .inl m_letters)), (m_a_readOne, .inl (cI, 24, .inl (upd (upd m_readOne (4 * m_readJumpers).toNatClampNeg r_8) ((4 * m_readJumpers) + 1).toNatClampNeg r_13)))] := hD
        refine lv_aload_n hx hb dX12_readItem_111 rfl (lv_at hl 1 rfl) ?_
        refine va_get (D := D) (ci := 12) (v := .ref m_a_readOne) (C := RX12) (T := TX12) (N := 23) hx hb ht iyX12 hown hK hP 0 rfl rfl 22 (by decide) (ht _ wf_X12_44) (fun _ h9 => h9) rfl dX12_readItem_112 ?_
        refine lv_iload_n hx hb dX12_readItem_115 rfl (lv_at hl 0 rfl) ?_
        refine lv_iconst (v := 2) hx hb dX12_readItem_116 (by decide) ?_
        refine lv_iadd hx hb dX12_readItem_117 ?_
        refine lv_aload_n hx hb dX12_readItem_118 rfl (lv_at hl 1 rfl) ?_
        refine lv_iconst (v := 0) hx hb dX12_readItem_119 (by decide) ?_
        refine lv_bipush (v := 11) hx hb dX12_readItem_120 (by decide) ?_
        obtain ⟨r_18, m_place_19, m_wrong_20, hc_21, hF⟩ := zb3_s hF
        refine zcv_i (ws1 := [(m_a, .inr (12, [.ref m_a_letters, .int m_length, .int m_jumpers, .ref m_a_period, .ref m_a_hang, .ref m_a_st, .ref m_a_now, .ref m_a_book, .int m_undos, .ref m_a_images, .ref m_a_isKept, .int m_seen, .ref m_a_seenHang, .ref m_a_seenTick, .ref m_a_seenUp, .long m_trail, .int m_place_19, .int m_wrong_20, .int m_items, .int m_saidEvery, .int m_readEvery, .int m_readJumpers, .ref m_a_readOne])), (m_a_letters, .inl (cI, 120, .inl m_letters)), (m_a_readOne, .inl (cI, 24, .inl (upd (upd m_readOne (4 * m_readJumpers).toNatClampNeg r_8) ((4 * m_readJumpers) + 1).toNatClampNeg r_13)))]) S hT lk_X12_85 (c_X12_number l D cI cZ cS cJ m_a m_a_letters m_a_period m_a_hang m_a_st m_a_now m_a_book m_a_images m_a_isKept m_a_seenHang m_a_seenTick m_a_seenUp m_a_readOne m_length m_jumpers m_undos m_seen m_trail m_place_14 m_wrong_15 m_items m_saidEvery m_readEvery m_readJumpers m_letters 0 11 hc_21) ⟨rfl, rfl, Nat.le_of_ble_eq_true rfl, Nat.le_of_ble_eq_true rfl⟩ hK hP hD hS hA [0, 1] [2] [1, 2, 0] rfl rfl rfl rfl rfl rfl rfl rfl rfl rfl rfl hl.1 rfl (Nat.le_of_ble_eq_true rfl) dX12_readItem_122 ⟨Nat.zero_le _, Nat.zero_le _⟩ (fun H locs hP hD hS => ?_)
        obtain ⟨h_22, hF⟩ := zi_chk hF
        refine va_iast hx hb hK hP hD hS 2 0 rfl rfl h_22 dX12_readItem_125 (fun H locs hP hD hS => ?_)
        have hP : va_P D classes [(m_a, .inr (12, [.ref m_a_letters, .int m_length, .int m_jumpers, .ref m_a_period, .ref m_a_hang, .ref m_a_st, .ref m_a_now, .ref m_a_book, .int m_undos, .ref m_a_images, .ref m_a_isKept, .int m_seen, .ref m_a_seenHang, .ref m_a_seenTick, .ref m_a_seenUp, .long m_trail, .int m_place_19, .int m_wrong_20, .int m_items, .int m_saidEvery, .int m_readEvery, .int m_readJumpers, .ref m_a_readOne])), (m_a_letters, .inl (cI, 120, .inl m_letters)), (m_a_readOne, .inl (cI, 24, .inl (upd (upd (upd m_readOne (4 * m_readJumpers).toNatClampNeg r_8) ((4 * m_readJumpers) + 1).toNatClampNeg r_13) ((4 * m_readJumpers) + 2).toNatClampNeg r_18)))] H := hP
        have hD : va_D A [(m_a, .inr (12, [.ref m_a_letters, .int m_length, .int m_jumpers, .ref m_a_period, .ref m_a_hang, .ref m_a_st, .ref m_a_now, .ref m_a_book, .int m_undos, .ref m_a_images, .ref m_a_isKept, .int m_seen, .ref m_a_seenHang, .ref m_a_seenTick, .ref m_a_seenUp, .long m_trail, .int m_place_19, .int m_wrong_20, .int m_items, .int m_saidEvery, .int m_readEvery, .int m_readJumpers, .ref m_a_readOne])), (m_a_letters, .inl (cI, 120, .inl m_letters)), (m_a_readOne, .inl (cI, 24, .inl (upd (upd (upd m_readOne (4 * m_readJumpers).toNatClampNeg r_8) ((4 * m_readJumpers) + 1).toNatClampNeg r_13) ((4 * m_readJumpers) + 2).toNatClampNeg r_18)))] := hD
        refine lv_aload_n hx hb dX12_readItem_126 rfl (lv_at hl 1 rfl) ?_
        refine va_get (D := D) (ci := 12) (v := .ref m_a_readOne) (C := RX12) (T := TX12) (N := 23) hx hb ht iyX12 hown hK hP 0 rfl rfl 22 (by decide) (ht _ wf_X12_44) (fun _ h9 => h9) rfl dX12_readItem_127 ?_
        refine lv_iload_n hx hb dX12_readItem_130 rfl (lv_at hl 0 rfl) ?_
        refine lv_iconst (v := 3) hx hb dX12_readItem_131 (by decide) ?_
        refine lv_iadd hx hb dX12_readItem_132 ?_
        refine lv_aload_n hx hb dX12_readItem_133 rfl (lv_at hl 1 rfl) ?_
        refine lv_iconst (v := 1) hx hb dX12_readItem_134 (by decide) ?_
        refine lv_bipush (v := 60) hx hb dX12_readItem_135 (by decide) ?_
        obtain ⟨r_23, m_place_24, m_wrong_25, hc_26, hF⟩ := zb3_s hF
        refine zcv_i (ws1 := [(m_a, .inr (12, [.ref m_a_letters, .int m_length, .int m_jumpers, .ref m_a_period, .ref m_a_hang, .ref m_a_st, .ref m_a_now, .ref m_a_book, .int m_undos, .ref m_a_images, .ref m_a_isKept, .int m_seen, .ref m_a_seenHang, .ref m_a_seenTick, .ref m_a_seenUp, .long m_trail, .int m_place_24, .int m_wrong_25, .int m_items, .int m_saidEvery, .int m_readEvery, .int m_readJumpers, .ref m_a_readOne])), (m_a_letters, .inl (cI, 120, .inl m_letters)), (m_a_readOne, .inl (cI, 24, .inl (upd (upd (upd m_readOne (4 * m_readJumpers).toNatClampNeg r_8) ((4 * m_readJumpers) + 1).toNatClampNeg r_13) ((4 * m_readJumpers) + 2).toNatClampNeg r_18)))]) S hT lk_X12_85 (c_X12_number l D cI cZ cS cJ m_a m_a_letters m_a_period m_a_hang m_a_st m_a_now m_a_book m_a_images m_a_isKept m_a_seenHang m_a_seenTick m_a_seenUp m_a_readOne m_length m_jumpers m_undos m_seen m_trail m_place_19 m_wrong_20 m_items m_saidEvery m_readEvery m_readJumpers m_letters 1 60 hc_26) ⟨rfl, rfl, Nat.le_of_ble_eq_true rfl, Nat.le_of_ble_eq_true rfl⟩ hK hP hD hS hA [0, 1] [2] [1, 2, 0] rfl rfl rfl rfl rfl rfl rfl rfl rfl rfl rfl hl.1 rfl (Nat.le_of_ble_eq_true rfl) dX12_readItem_137 ⟨Nat.zero_le _, Nat.zero_le _⟩ (fun H locs hP hD hS => ?_)
        obtain ⟨h_27, hF⟩ := zi_chk hF
        refine va_iast hx hb hK hP hD hS 2 0 rfl rfl h_27 dX12_readItem_140 (fun H locs hP hD hS => ?_)
        have hP : va_P D classes [(m_a, .inr (12, [.ref m_a_letters, .int m_length, .int m_jumpers, .ref m_a_period, .ref m_a_hang, .ref m_a_st, .ref m_a_now, .ref m_a_book, .int m_undos, .ref m_a_images, .ref m_a_isKept, .int m_seen, .ref m_a_seenHang, .ref m_a_seenTick, .ref m_a_seenUp, .long m_trail, .int m_place_24, .int m_wrong_25, .int m_items, .int m_saidEvery, .int m_readEvery, .int m_readJumpers, .ref m_a_readOne])), (m_a_letters, .inl (cI, 120, .inl m_letters)), (m_a_readOne, .inl (cI, 24, .inl (upd (upd (upd (upd m_readOne (4 * m_readJumpers).toNatClampNeg r_8) ((4 * m_readJumpers) + 1).toNatClampNeg r_13) ((4 * m_readJumpers) + 2).toNatClampNeg r_18) ((4 * m_readJumpers) + 3).toNatClampNeg r_23)))] H := hP
        have hD : va_D A [(m_a, .inr (12, [.ref m_a_letters, .int m_length, .int m_jumpers, .ref m_a_period, .ref m_a_hang, .ref m_a_st, .ref m_a_now, .ref m_a_book, .int m_undos, .ref m_a_images, .ref m_a_isKept, .int m_seen, .ref m_a_seenHang, .ref m_a_seenTick, .ref m_a_seenUp, .long m_trail, .int m_place_24, .int m_wrong_25, .int m_items, .int m_saidEvery, .int m_readEvery, .int m_readJumpers, .ref m_a_readOne])), (m_a_letters, .inl (cI, 120, .inl m_letters)), (m_a_readOne, .inl (cI, 24, .inl (upd (upd (upd (upd m_readOne (4 * m_readJumpers).toNatClampNeg r_8) ((4 * m_readJumpers) + 1).toNatClampNeg r_13) ((4 * m_readJumpers) + 2).toNatClampNeg r_18) ((4 * m_readJumpers) + 3).toNatClampNeg r_23)))] := hD
        refine lv_aload_n hx hb dX12_readItem_141 rfl (lv_at hl 1 rfl) ?_
        refine lv_dup hx hb dX12_readItem_142 rfl ?_
        refine va_get (D := D) (ci := 12) (v := .int m_readJumpers) (C := RX12) (T := TX12) (N := 23) hx hb ht iyX12 hown hK hP 0 rfl rfl 21 (by decide) (ht _ wf_X12_78) (fun _ h9 => h9) rfl dX12_readItem_143 ?_
        refine lv_iconst (v := 1) hx hb dX12_readItem_146 (by decide) ?_
        refine lv_iadd hx hb dX12_readItem_147 ?_
        refine va_put (D := D) (ci := 12) (v := .int (m_readJumpers + 1)) (ty := .int) (C := RX12) (T := TX12) (N := 23) hx hb ht iyX12 tyX12 tyX12_ok nmX12 hown hK hP hD hS 0 rfl rfl 21 (by decide) (ht _ wf_X12_78) (fun _ h9 => h9) rfl (by decide +kernel) rfl rfl (Nat.le_of_ble_eq_true rfl) dX12_readItem_148 (fun H locs hP hD hS => ?_)
        have hP : va_P D classes [(m_a, .inr (12, [.ref m_a_letters, .int m_length, .int m_jumpers, .ref m_a_period, .ref m_a_hang, .ref m_a_st, .ref m_a_now, .ref m_a_book, .int m_undos, .ref m_a_images, .ref m_a_isKept, .int m_seen, .ref m_a_seenHang, .ref m_a_seenTick, .ref m_a_seenUp, .long m_trail, .int m_place_24, .int m_wrong_25, .int m_items, .int m_saidEvery, .int m_readEvery, .int (m_readJumpers + 1), .ref m_a_readOne])), (m_a_letters, .inl (cI, 120, .inl m_letters)), (m_a_readOne, .inl (cI, 24, .inl (upd (upd (upd (upd m_readOne (4 * m_readJumpers).toNatClampNeg r_8) ((4 * m_readJumpers) + 1).toNatClampNeg r_13) ((4 * m_readJumpers) + 2).toNatClampNeg r_18) ((4 * m_readJumpers) + 3).toNatClampNeg r_23)))] H := hP
        have hD : va_D A [(m_a, .inr (12, [.ref m_a_letters, .int m_length, .int m_jumpers, .ref m_a_period, .ref m_a_hang, .ref m_a_st, .ref m_a_now, .ref m_a_book, .int m_undos, .ref m_a_images, .ref m_a_isKept, .int m_seen, .ref m_a_seenHang, .ref m_a_seenTick, .ref m_a_seenUp, .long m_trail, .int m_place_24, .int m_wrong_25, .int m_items, .int m_saidEvery, .int m_readEvery, .int (m_readJumpers + 1), .ref m_a_readOne])), (m_a_letters, .inl (cI, 120, .inl m_letters)), (m_a_readOne, .inl (cI, 24, .inl (upd (upd (upd (upd m_readOne (4 * m_readJumpers).toNatClampNeg r_8) ((4 * m_readJumpers) + 1).toNatClampNeg r_13) ((4 * m_readJumpers) + 2).toNatClampNeg r_18) ((4 * m_readJumpers) + 3).toNatClampNeg r_23)))] := hD
        refine lv_aload_n hx hb dX12_readItem_151 rfl (lv_at hl 1 rfl) ?_
        obtain ⟨m_place_28, m_wrong_29, m_items_30, hc_31, hF⟩ := zb3_s hF
        refine zcv_v (ws1 := [(m_a, .inr (12, [.ref m_a_letters, .int m_length, .int m_jumpers, .ref m_a_period, .ref m_a_hang, .ref m_a_st, .ref m_a_now, .ref m_a_book, .int m_undos, .ref m_a_images, .ref m_a_isKept, .int m_seen, .ref m_a_seenHang, .ref m_a_seenTick, .ref m_a_seenUp, .long m_trail, .int m_place_28, .int m_wrong_29, .int m_items_30, .int m_saidEvery, .int m_readEvery, .int (m_readJumpers + 1), .ref m_a_readOne])), (m_a_letters, .inl (cI, 120, .inl m_letters)), (m_a_readOne, .inl (cI, 24, .inl (upd (upd (upd (upd m_readOne (4 * m_readJumpers).toNatClampNeg r_8) ((4 * m_readJumpers) + 1).toNatClampNeg r_13) ((4 * m_readJumpers) + 2).toNatClampNeg r_18) ((4 * m_readJumpers) + 3).toNatClampNeg r_23)))]) S hT lk_X12_92 (c_X12_ends l D cI cZ cS cJ m_a m_a_letters m_a_period m_a_hang m_a_st m_a_now m_a_book m_a_images m_a_isKept m_a_seenHang m_a_seenTick m_a_seenUp m_a_readOne m_length m_jumpers m_undos m_seen m_trail m_place_24 m_wrong_25 m_items m_saidEvery m_readEvery (m_readJumpers + 1) m_letters hc_31) ⟨rfl, rfl, Nat.le_of_ble_eq_true rfl, Nat.le_of_ble_eq_true rfl⟩ hK hP hD hS hA [0, 1] [2] [1, 2, 0] rfl rfl rfl rfl rfl rfl rfl rfl rfl rfl rfl hl.1 rfl (Nat.le_of_ble_eq_true rfl) dX12_readItem_152 ⟨Nat.zero_le _, Nat.zero_le _⟩ (fun H locs hP hD hS => ?_)
        refine lv_goto (tgt := 166) hx hb dX12_readItem_155 (by decide) ?_
        obtain ⟨e_0, e_1, e_2, e_3, e_4, e_5, e_6⟩ := zo7 hF
        subst e_0
        subst e_1
        subst e_2
        subst e_3
        subst e_4
        subst e_5
        subst e_6
        exact zret_v S hr hlocks hK hP hD hS dX12_readItem_166
  · have hF := zi_pos c_3 hF
    refine lv_aload_n hx hb dX12_readItem_16 rfl (lv_at hl 1 rfl) ?_
    refine va_get (D := D) (ci := 12) (v := .int m_saidEvery) (C := RX12) (T := TX12) (N := 23) hx hb ht iyX12 hown hK hP 0 rfl rfl 19 (by decide) (ht _ wf_X12_81) (fun _ h9 => h9) rfl dX12_readItem_17 ?_
    refine lv_if_ne (tgt := 56) hx hb dX12_readItem_20 (by decide) (fun c_32 => ?_) (fun c_32 => ?_)
    · have hF := zi_neg c_32 hF
      refine lv_aload_n hx hb dX12_readItem_56 rfl (lv_at hl 1 rfl) ?_
      obtain ⟨r_33, hc_34, hF⟩ := zb1_s hF
      refine zcv_i (ws1 := [(m_a, .inr (12, [.ref m_a_letters, .int m_length, .int m_jumpers, .ref m_a_period, .ref m_a_hang, .ref m_a_st, .ref m_a_now, .ref m_a_book, .int m_undos, .ref m_a_images, .ref m_a_isKept, .int m_seen, .ref m_a_seenHang, .ref m_a_seenTick, .ref m_a_seenUp, .long m_trail, .int m_place, .int m_wrong, .int m_items, .int m_saidEvery, .int m_readEvery, .int m_readJumpers, .ref m_a_readOne])), (m_a_letters, .inl (cI, 120, .inl m_letters)), (m_a_readOne, .inl (cI, 24, .inl m_readOne))]) S hT lk_X12_61 (c_X12_here l D cI cZ cS cJ m_a m_a_letters m_a_period m_a_hang m_a_st m_a_now m_a_book m_a_images m_a_isKept m_a_seenHang m_a_seenTick m_a_seenUp m_a_readOne m_length m_jumpers m_undos m_seen m_trail m_place m_wrong m_items m_saidEvery m_readEvery m_readJumpers m_letters hc_34) ⟨rfl, rfl, Nat.le_of_ble_eq_true rfl, Nat.le_of_ble_eq_true rfl⟩ hK hP hD hS hA [0, 1] [2] [1, 2, 0] rfl rfl rfl rfl rfl rfl rfl rfl rfl rfl rfl hl.1 rfl (Nat.le_of_ble_eq_true rfl) dX12_readItem_57 ⟨Nat.zero_le _, Nat.zero_le _⟩ (fun H locs hP hD hS => ?_)
      refine lv_bipush (v := 106) hx hb dX12_readItem_60 (by decide) ?_
      refine lv_icmp_ne (tgt := 158) hx hb dX12_readItem_62 (by decide) (fun c_35 => ?_) (fun c_35 => ?_)
      · have hF := zi_neg c_35 hF
        refine lv_aload_n hx hb dX12_readItem_158 rfl (lv_at hl 1 rfl) ?_
        refine lv_aload_n hx hb dX12_readItem_159 rfl (lv_at hl 1 rfl) ?_
        refine va_get (D := D) (ci := 12) (v := .int m_place) (C := RX12) (T := TX12) (N := 23) hx hb ht iyX12 hown hK hP 0 rfl rfl 16 (by decide) (ht _ wf_X12_58) (fun _ h9 => h9) rfl dX12_readItem_160 ?_
        refine va_put (D := D) (ci := 12) (v := .int m_place) (ty := .int) (C := RX12) (T := TX12) (N := 23) hx hb ht iyX12 tyX12 tyX12_ok nmX12 hown hK hP hD hS 0 rfl rfl 17 (by decide) (ht _ wf_X12_65) (fun _ h9 => h9) rfl (by decide +kernel) rfl rfl (Nat.le_of_ble_eq_true rfl) dX12_readItem_163 (fun H locs hP hD hS => ?_)
        have hP : va_P D classes [(m_a, .inr (12, [.ref m_a_letters, .int m_length, .int m_jumpers, .ref m_a_period, .ref m_a_hang, .ref m_a_st, .ref m_a_now, .ref m_a_book, .int m_undos, .ref m_a_images, .ref m_a_isKept, .int m_seen, .ref m_a_seenHang, .ref m_a_seenTick, .ref m_a_seenUp, .long m_trail, .int m_place, .int m_place, .int m_items, .int m_saidEvery, .int m_readEvery, .int m_readJumpers, .ref m_a_readOne])), (m_a_letters, .inl (cI, 120, .inl m_letters)), (m_a_readOne, .inl (cI, 24, .inl m_readOne))] H := hP
        have hD : va_D A [(m_a, .inr (12, [.ref m_a_letters, .int m_length, .int m_jumpers, .ref m_a_period, .ref m_a_hang, .ref m_a_st, .ref m_a_now, .ref m_a_book, .int m_undos, .ref m_a_images, .ref m_a_isKept, .int m_seen, .ref m_a_seenHang, .ref m_a_seenTick, .ref m_a_seenUp, .long m_trail, .int m_place, .int m_place, .int m_items, .int m_saidEvery, .int m_readEvery, .int m_readJumpers, .ref m_a_readOne])), (m_a_letters, .inl (cI, 120, .inl m_letters)), (m_a_readOne, .inl (cI, 24, .inl m_readOne))] := hD
        obtain ⟨e_0, e_1, e_2, e_3, e_4, e_5, e_6⟩ := zo7 hF
        subst e_0
        subst e_1
        subst e_2
        subst e_3
        subst e_4
        subst e_5
        subst e_6
        exact zret_v S hr hlocks hK hP hD hS dX12_readItem_166
      · have hF := zi_pos c_35 hF
        refine lv_aload_n hx hb dX12_readItem_65 rfl (lv_at hl 1 rfl) ?_
        refine va_get (D := D) (ci := 12) (v := .int m_readJumpers) (C := RX12) (T := TX12) (N := 23) hx hb ht iyX12 hown hK hP 0 rfl rfl 21 (by decide) (ht _ wf_X12_78) (fun _ h9 => h9) rfl dX12_readItem_66 ?_
        refine lv_bipush (v := 6) hx hb dX12_readItem_69 (by decide) ?_
        refine lv_icmp_ge (tgt := 158) hx hb dX12_readItem_71 (by decide) (fun c_36 => ?_) (fun c_36 => ?_)
        · have hF := zi_pos c_36 hF
          refine lv_aload_n hx hb dX12_readItem_158 rfl (lv_at hl 1 rfl) ?_
          refine lv_aload_n hx hb dX12_readItem_159 rfl (lv_at hl 1 rfl) ?_
          refine va_get (D := D) (ci := 12) (v := .int m_place) (C := RX12) (T := TX12) (N := 23) hx hb ht iyX12 hown hK hP 0 rfl rfl 16 (by decide) (ht _ wf_X12_58) (fun _ h9 => h9) rfl dX12_readItem_160 ?_
          refine va_put (D := D) (ci := 12) (v := .int m_place) (ty := .int) (C := RX12) (T := TX12) (N := 23) hx hb ht iyX12 tyX12 tyX12_ok nmX12 hown hK hP hD hS 0 rfl rfl 17 (by decide) (ht _ wf_X12_65) (fun _ h9 => h9) rfl (by decide +kernel) rfl rfl (Nat.le_of_ble_eq_true rfl) dX12_readItem_163 (fun H locs hP hD hS => ?_)
          have hP : va_P D classes [(m_a, .inr (12, [.ref m_a_letters, .int m_length, .int m_jumpers, .ref m_a_period, .ref m_a_hang, .ref m_a_st, .ref m_a_now, .ref m_a_book, .int m_undos, .ref m_a_images, .ref m_a_isKept, .int m_seen, .ref m_a_seenHang, .ref m_a_seenTick, .ref m_a_seenUp, .long m_trail, .int m_place, .int m_place, .int m_items, .int m_saidEvery, .int m_readEvery, .int m_readJumpers, .ref m_a_readOne])), (m_a_letters, .inl (cI, 120, .inl m_letters)), (m_a_readOne, .inl (cI, 24, .inl m_readOne))] H := hP
          have hD : va_D A [(m_a, .inr (12, [.ref m_a_letters, .int m_length, .int m_jumpers, .ref m_a_period, .ref m_a_hang, .ref m_a_st, .ref m_a_now, .ref m_a_book, .int m_undos, .ref m_a_images, .ref m_a_isKept, .int m_seen, .ref m_a_seenHang, .ref m_a_seenTick, .ref m_a_seenUp, .long m_trail, .int m_place, .int m_place, .int m_items, .int m_saidEvery, .int m_readEvery, .int m_readJumpers, .ref m_a_readOne])), (m_a_letters, .inl (cI, 120, .inl m_letters)), (m_a_readOne, .inl (cI, 24, .inl m_readOne))] := hD
          obtain ⟨e_0, e_1, e_2, e_3, e_4, e_5, e_6⟩ := zo7 hF
          subst e_0
          subst e_1
          subst e_2
          subst e_3
          subst e_4
          subst e_5
          subst e_6
          exact zret_v S hr hlocks hK hP hD hS dX12_readItem_166
        · have hF := zi_neg c_36 hF
          refine lv_aload_n hx hb dX12_readItem_74 rfl (lv_at hl 1 rfl) ?_
          refine lv_dup hx hb dX12_readItem_75 rfl ?_
          refine va_get (D := D) (ci := 12) (v := .int m_place) (C := RX12) (T := TX12) (N := 23) hx hb ht iyX12 hown hK hP 0 rfl rfl 16 (by decide) (ht _ wf_X12_58) (fun _ h9 => h9) rfl dX12_readItem_76 ?_
          refine lv_iconst (v := 1) hx hb dX12_readItem_79 (by decide) ?_
          refine lv_iadd hx hb dX12_readItem_80 ?_
          refine va_put (D := D) (ci := 12) (v := .int (m_place + 1)) (ty := .int) (C := RX12) (T := TX12) (N := 23) hx hb ht iyX12 tyX12 tyX12_ok nmX12 hown hK hP hD hS 0 rfl rfl 16 (by decide) (ht _ wf_X12_58) (fun _ h9 => h9) rfl (by decide +kernel) rfl rfl (Nat.le_of_ble_eq_true rfl) dX12_readItem_81 (fun H locs hP hD hS => ?_)
          have hP : va_P D classes [(m_a, .inr (12, [.ref m_a_letters, .int m_length, .int m_jumpers, .ref m_a_period, .ref m_a_hang, .ref m_a_st, .ref m_a_now, .ref m_a_book, .int m_undos, .ref m_a_images, .ref m_a_isKept, .int m_seen, .ref m_a_seenHang, .ref m_a_seenTick, .ref m_a_seenUp, .long m_trail, .int (m_place + 1), .int m_wrong, .int m_items, .int m_saidEvery, .int m_readEvery, .int m_readJumpers, .ref m_a_readOne])), (m_a_letters, .inl (cI, 120, .inl m_letters)), (m_a_readOne, .inl (cI, 24, .inl m_readOne))] H := hP
          have hD : va_D A [(m_a, .inr (12, [.ref m_a_letters, .int m_length, .int m_jumpers, .ref m_a_period, .ref m_a_hang, .ref m_a_st, .ref m_a_now, .ref m_a_book, .int m_undos, .ref m_a_images, .ref m_a_isKept, .int m_seen, .ref m_a_seenHang, .ref m_a_seenTick, .ref m_a_seenUp, .long m_trail, .int (m_place + 1), .int m_wrong, .int m_items, .int m_saidEvery, .int m_readEvery, .int m_readJumpers, .ref m_a_readOne])), (m_a_letters, .inl (cI, 120, .inl m_letters)), (m_a_readOne, .inl (cI, 24, .inl m_readOne))] := hD
          refine lv_aload_n hx hb dX12_readItem_84 rfl (lv_at hl 1 rfl) ?_
          refine va_get (D := D) (ci := 12) (v := .ref m_a_readOne) (C := RX12) (T := TX12) (N := 23) hx hb ht iyX12 hown hK hP 0 rfl rfl 22 (by decide) (ht _ wf_X12_44) (fun _ h9 => h9) rfl dX12_readItem_85 ?_
          refine lv_iload_n hx hb dX12_readItem_88 rfl (lv_at hl 0 rfl) ?_
          refine lv_aload_n hx hb dX12_readItem_89 rfl (lv_at hl 1 rfl) ?_
          refine lv_iconst (v := 2) hx hb dX12_readItem_90 (by decide) ?_
          refine lv_bipush (v := 12) hx hb dX12_readItem_91 (by decide) ?_
          obtain ⟨r_37, m_place_38, m_wrong_39, hc_40, hF⟩ := zb3_s hF
          refine zcv_i (ws1 := [(m_a, .inr (12, [.ref m_a_letters, .int m_length, .int m_jumpers, .ref m_a_period, .ref m_a_hang, .ref m_a_st, .ref m_a_now, .ref m_a_book, .int m_undos, .ref m_a_images, .ref m_a_isKept, .int m_seen, .ref m_a_seenHang, .ref m_a_seenTick, .ref m_a_seenUp, .long m_trail, .int m_place_38, .int m_wrong_39, .int m_items, .int m_saidEvery, .int m_readEvery, .int m_readJumpers, .ref m_a_readOne])), (m_a_letters, .inl (cI, 120, .inl m_letters)), (m_a_readOne, .inl (cI, 24, .inl m_readOne))]) S hT lk_X12_85 (c_X12_number l D cI cZ cS cJ m_a m_a_letters m_a_period m_a_hang m_a_st m_a_now m_a_book m_a_images m_a_isKept m_a_seenHang m_a_seenTick m_a_seenUp m_a_readOne m_length m_jumpers m_undos m_seen m_trail (m_place + 1) m_wrong m_items m_saidEvery m_readEvery m_readJumpers m_letters 2 12 hc_40) ⟨rfl, rfl, Nat.le_of_ble_eq_true rfl, Nat.le_of_ble_eq_true rfl⟩ hK hP hD hS hA [0, 1] [2] [1, 2, 0] rfl rfl rfl rfl rfl rfl rfl rfl rfl rfl rfl hl.1 rfl (Nat.le_of_ble_eq_true rfl) dX12_readItem_93 ⟨Nat.zero_le _, Nat.zero_le _⟩ (fun H locs hP hD hS => ?_)
          obtain ⟨h_41, hF⟩ := zi_chk hF
          refine va_iast hx hb hK hP hD hS 2 0 rfl rfl h_41 dX12_readItem_96 (fun H locs hP hD hS => ?_)
          have hP : va_P D classes [(m_a, .inr (12, [.ref m_a_letters, .int m_length, .int m_jumpers, .ref m_a_period, .ref m_a_hang, .ref m_a_st, .ref m_a_now, .ref m_a_book, .int m_undos, .ref m_a_images, .ref m_a_isKept, .int m_seen, .ref m_a_seenHang, .ref m_a_seenTick, .ref m_a_seenUp, .long m_trail, .int m_place_38, .int m_wrong_39, .int m_items, .int m_saidEvery, .int m_readEvery, .int m_readJumpers, .ref m_a_readOne])), (m_a_letters, .inl (cI, 120, .inl m_letters)), (m_a_readOne, .inl (cI, 24, .inl (upd m_readOne (4 * m_readJumpers).toNatClampNeg r_37)))] H := hP
          have hD : va_D A [(m_a, .inr (12, [.ref m_a_letters, .int m_length, .int m_jumpers, .ref m_a_period, .ref m_a_hang, .ref m_a_st, .ref m_a_now, .ref m_a_book, .int m_undos, .ref m_a_images, .ref m_a_isKept, .int m_seen, .ref m_a_seenHang, .ref m_a_seenTick, .ref m_a_seenUp, .long m_trail, .int m_place_38, .int m_wrong_39, .int m_items, .int m_saidEvery, .int m_readEvery, .int m_readJumpers, .ref m_a_readOne])), (m_a_letters, .inl (cI, 120, .inl m_letters)), (m_a_readOne, .inl (cI, 24, .inl (upd m_readOne (4 * m_readJumpers).toNatClampNeg r_37)))] := hD
          refine lv_aload_n hx hb dX12_readItem_97 rfl (lv_at hl 1 rfl) ?_
          refine va_get (D := D) (ci := 12) (v := .ref m_a_readOne) (C := RX12) (T := TX12) (N := 23) hx hb ht iyX12 hown hK hP 0 rfl rfl 22 (by decide) (ht _ wf_X12_44) (fun _ h9 => h9) rfl dX12_readItem_98 ?_
          refine lv_iload_n hx hb dX12_readItem_101 rfl (lv_at hl 0 rfl) ?_
          refine lv_iconst (v := 1) hx hb dX12_readItem_102 (by decide) ?_
          refine lv_iadd hx hb dX12_readItem_103 ?_
          refine lv_aload_n hx hb dX12_readItem_104 rfl (lv_at hl 1 rfl) ?_
          refine lv_iconst (v := 1) hx hb dX12_readItem_105 (by decide) ?_
          refine lv_iconst (v := 4) hx hb dX12_readItem_106 (by decide) ?_
          obtain ⟨r_42, m_place_43, m_wrong_44, hc_45, hF⟩ := zb3_s hF
          refine zcv_i (ws1 := [(m_a, .inr (12, [.ref m_a_letters, .int m_length, .int m_jumpers, .ref m_a_period, .ref m_a_hang, .ref m_a_st, .ref m_a_now, .ref m_a_book, .int m_undos, .ref m_a_images, .ref m_a_isKept, .int m_seen, .ref m_a_seenHang, .ref m_a_seenTick, .ref m_a_seenUp, .long m_trail, .int m_place_43, .int m_wrong_44, .int m_items, .int m_saidEvery, .int m_readEvery, .int m_readJumpers, .ref m_a_readOne])), (m_a_letters, .inl (cI, 120, .inl m_letters)), (m_a_readOne, .inl (cI, 24, .inl (upd m_readOne (4 * m_readJumpers).toNatClampNeg r_37)))]) S hT lk_X12_85 (c_X12_number l D cI cZ cS cJ m_a m_a_letters m_a_period m_a_hang m_a_st m_a_now m_a_book m_a_images m_a_isKept m_a_seenHang m_a_seenTick m_a_seenUp m_a_readOne m_length m_jumpers m_undos m_seen m_trail m_place_38 m_wrong_39 m_items m_saidEvery m_readEvery m_readJumpers m_letters 1 4 hc_45) ⟨rfl, rfl, Nat.le_of_ble_eq_true rfl, Nat.le_of_ble_eq_true rfl⟩ hK hP hD hS hA [0, 1] [2] [1, 2, 0] rfl rfl rfl rfl rfl rfl rfl rfl rfl rfl rfl hl.1 rfl (Nat.le_of_ble_eq_true rfl) dX12_readItem_107 ⟨Nat.zero_le _, Nat.zero_le _⟩ (fun H locs hP hD hS => ?_)
          obtain ⟨h_46, hF⟩ := zi_chk hF
          refine va_iast hx hb hK hP hD hS 2 0 rfl rfl h_46 dX12_readItem_110 (fun H locs hP hD hS => ?_)
          have hP : va_P D classes [(m_a, .inr (12, [.ref m_a_letters, .int m_length, .int m_jumpers, .ref m_a_period, .ref m_a_hang, .ref m_a_st, .ref m_a_now, .ref m_a_book, .int m_undos, .ref m_a_images, .ref m_a_isKept, .int m_seen, .ref m_a_seenHang, .ref m_a_seenTick, .ref m_a_seenUp, .long m_trail, .int m_place_43, .int m_wrong_44, .int m_items, .int m_saidEvery, .int m_readEvery, .int m_readJumpers, .ref m_a_readOne])), (m_a_letters, .inl (cI, 120, .inl m_letters)), (m_a_readOne, .inl (cI, 24, .inl (upd (upd m_readOne (4 * m_readJumpers).toNatClampNeg r_37) ((4 * m_readJumpers) + 1).toNatClampNeg r_42)))] H := hP
          have hD : va_D A [(m_a, .inr (12, [.ref m_a_letters, .int m_length, .int m_jumpers, .ref m_a_period, .ref m_a_hang, .ref m_a_st, .ref m_a_now, .ref m_a_book, .int m_undos, .ref m_a_images, .ref m_a_isKept, .int m_seen, .ref m_a_seenHang, .ref m_a_seenTick, .ref m_a_seenUp, .long m_trail, .int m_place_43, .int m_wrong_44, .int m_items, .int m_saidEvery, .int m_readEvery, .int m_readJumpers, .ref m_a_readOne])), (m_a_letters, .inl (cI, 120, .inl m_letters)), (m_a_readOne, .inl (cI, 24, .inl (upd (upd m_readOne (4 * m_readJumpers).toNatClampNeg r_37) ((4 * m_readJumpers) + 1).toNatClampNeg r_42)))] := hD
          refine lv_aload_n hx hb dX12_readItem_111 rfl (lv_at hl 1 rfl) ?_
          refine va_get (D := D) (ci := 12) (v := .ref m_a_readOne) (C := RX12) (T := TX12) (N := 23) hx hb ht iyX12 hown hK hP 0 rfl rfl 22 (by decide) (ht _ wf_X12_44) (fun _ h9 => h9) rfl dX12_readItem_112 ?_
          refine lv_iload_n hx hb dX12_readItem_115 rfl (lv_at hl 0 rfl) ?_
          refine lv_iconst (v := 2) hx hb dX12_readItem_116 (by decide) ?_
          refine lv_iadd hx hb dX12_readItem_117 ?_
          refine lv_aload_n hx hb dX12_readItem_118 rfl (lv_at hl 1 rfl) ?_
          refine lv_iconst (v := 0) hx hb dX12_readItem_119 (by decide) ?_
          refine lv_bipush (v := 11) hx hb dX12_readItem_120 (by decide) ?_
          obtain ⟨r_47, m_place_48, m_wrong_49, hc_50, hF⟩ := zb3_s hF
          refine zcv_i (ws1 := [(m_a, .inr (12, [.ref m_a_letters, .int m_length, .int m_jumpers, .ref m_a_period, .ref m_a_hang, .ref m_a_st, .ref m_a_now, .ref m_a_book, .int m_undos, .ref m_a_images, .ref m_a_isKept, .int m_seen, .ref m_a_seenHang, .ref m_a_seenTick, .ref m_a_seenUp, .long m_trail, .int m_place_48, .int m_wrong_49, .int m_items, .int m_saidEvery, .int m_readEvery, .int m_readJumpers, .ref m_a_readOne])), (m_a_letters, .inl (cI, 120, .inl m_letters)), (m_a_readOne, .inl (cI, 24, .inl (upd (upd m_readOne (4 * m_readJumpers).toNatClampNeg r_37) ((4 * m_readJumpers) + 1).toNatClampNeg r_42)))]) S hT lk_X12_85 (c_X12_number l D cI cZ cS cJ m_a m_a_letters m_a_period m_a_hang m_a_st m_a_now m_a_book m_a_images m_a_isKept m_a_seenHang m_a_seenTick m_a_seenUp m_a_readOne m_length m_jumpers m_undos m_seen m_trail m_place_43 m_wrong_44 m_items m_saidEvery m_readEvery m_readJumpers m_letters 0 11 hc_50) ⟨rfl, rfl, Nat.le_of_ble_eq_true rfl, Nat.le_of_ble_eq_true rfl⟩ hK hP hD hS hA [0, 1] [2] [1, 2, 0] rfl rfl rfl rfl rfl rfl rfl rfl rfl rfl rfl hl.1 rfl (Nat.le_of_ble_eq_true rfl) dX12_readItem_122 ⟨Nat.zero_le _, Nat.zero_le _⟩ (fun H locs hP hD hS => ?_)
          obtain ⟨h_51, hF⟩ := zi_chk hF
          refine va_iast hx hb hK hP hD hS 2 0 rfl rfl h_51 dX12_readItem_125 (fun H locs hP hD hS => ?_)
          have hP : va_P D classes [(m_a, .inr (12, [.ref m_a_letters, .int m_length, .int m_jumpers, .ref m_a_period, .ref m_a_hang, .ref m_a_st, .ref m_a_now, .ref m_a_book, .int m_undos, .ref m_a_images, .ref m_a_isKept, .int m_seen, .ref m_a_seenHang, .ref m_a_seenTick, .ref m_a_seenUp, .long m_trail, .int m_place_48, .int m_wrong_49, .int m_items, .int m_saidEvery, .int m_readEvery, .int m_readJumpers, .ref m_a_readOne])), (m_a_letters, .inl (cI, 120, .inl m_letters)), (m_a_readOne, .inl (cI, 24, .inl (upd (upd (upd m_readOne (4 * m_readJumpers).toNatClampNeg r_37) ((4 * m_readJumpers) + 1).toNatClampNeg r_42) ((4 * m_readJumpers) + 2).toNatClampNeg r_47)))] H := hP
          have hD : va_D A [(m_a, .inr (12, [.ref m_a_letters, .int m_length, .int m_jumpers, .ref m_a_period, .ref m_a_hang, .ref m_a_st, .ref m_a_now, .ref m_a_book, .int m_undos, .ref m_a_images, .ref m_a_isKept, .int m_seen, .ref m_a_seenHang, .ref m_a_seenTick, .ref m_a_seenUp, .long m_trail, .int m_place_48, .int m_wrong_49, .int m_items, .int m_saidEvery, .int m_readEvery, .int m_readJumpers, .ref m_a_readOne])), (m_a_letters, .inl (cI, 120, .inl m_letters)), (m_a_readOne, .inl (cI, 24, .inl (upd (upd (upd m_readOne (4 * m_readJumpers).toNatClampNeg r_37) ((4 * m_readJumpers) + 1).toNatClampNeg r_42) ((4 * m_readJumpers) + 2).toNatClampNeg r_47)))] := hD
          refine lv_aload_n hx hb dX12_readItem_126 rfl (lv_at hl 1 rfl) ?_
          refine va_get (D := D) (ci := 12) (v := .ref m_a_readOne) (C := RX12) (T := TX12) (N := 23) hx hb ht iyX12 hown hK hP 0 rfl rfl 22 (by decide) (ht _ wf_X12_44) (fun _ h9 => h9) rfl dX12_readItem_127 ?_
          refine lv_iload_n hx hb dX12_readItem_130 rfl (lv_at hl 0 rfl) ?_
          refine lv_iconst (v := 3) hx hb dX12_readItem_131 (by decide) ?_
          refine lv_iadd hx hb dX12_readItem_132 ?_
          refine lv_aload_n hx hb dX12_readItem_133 rfl (lv_at hl 1 rfl) ?_
          refine lv_iconst (v := 1) hx hb dX12_readItem_134 (by decide) ?_
          refine lv_bipush (v := 60) hx hb dX12_readItem_135 (by decide) ?_
          obtain ⟨r_52, m_place_53, m_wrong_54, hc_55, hF⟩ := zb3_s hF
          refine zcv_i (ws1 := [(m_a, .inr (12, [.ref m_a_letters, .int m_length, .int m_jumpers, .ref m_a_period, .ref m_a_hang, .ref m_a_st, .ref m_a_now, .ref m_a_book, .int m_undos, .ref m_a_images, .ref m_a_isKept, .int m_seen, .ref m_a_seenHang, .ref m_a_seenTick, .ref m_a_seenUp, .long m_trail, .int m_place_53, .int m_wrong_54, .int m_items, .int m_saidEvery, .int m_readEvery, .int m_readJumpers, .ref m_a_readOne])), (m_a_letters, .inl (cI, 120, .inl m_letters)), (m_a_readOne, .inl (cI, 24, .inl (upd (upd (upd m_readOne (4 * m_readJumpers).toNatClampNeg r_37) ((4 * m_readJumpers) + 1).toNatClampNeg r_42) ((4 * m_readJumpers) + 2).toNatClampNeg r_47)))]) S hT lk_X12_85 (c_X12_number l D cI cZ cS cJ m_a m_a_letters m_a_period m_a_hang m_a_st m_a_now m_a_book m_a_images m_a_isKept m_a_seenHang m_a_seenTick m_a_seenUp m_a_readOne m_length m_jumpers m_undos m_seen m_trail m_place_48 m_wrong_49 m_items m_saidEvery m_readEvery m_readJumpers m_letters 1 60 hc_55) ⟨rfl, rfl, Nat.le_of_ble_eq_true rfl, Nat.le_of_ble_eq_true rfl⟩ hK hP hD hS hA [0, 1] [2] [1, 2, 0] rfl rfl rfl rfl rfl rfl rfl rfl rfl rfl rfl hl.1 rfl (Nat.le_of_ble_eq_true rfl) dX12_readItem_137 ⟨Nat.zero_le _, Nat.zero_le _⟩ (fun H locs hP hD hS => ?_)
          obtain ⟨h_56, hF⟩ := zi_chk hF
          refine va_iast hx hb hK hP hD hS 2 0 rfl rfl h_56 dX12_readItem_140 (fun H locs hP hD hS => ?_)
          have hP : va_P D classes [(m_a, .inr (12, [.ref m_a_letters, .int m_length, .int m_jumpers, .ref m_a_period, .ref m_a_hang, .ref m_a_st, .ref m_a_now, .ref m_a_book, .int m_undos, .ref m_a_images, .ref m_a_isKept, .int m_seen, .ref m_a_seenHang, .ref m_a_seenTick, .ref m_a_seenUp, .long m_trail, .int m_place_53, .int m_wrong_54, .int m_items, .int m_saidEvery, .int m_readEvery, .int m_readJumpers, .ref m_a_readOne])), (m_a_letters, .inl (cI, 120, .inl m_letters)), (m_a_readOne, .inl (cI, 24, .inl (upd (upd (upd (upd m_readOne (4 * m_readJumpers).toNatClampNeg r_37) ((4 * m_readJumpers) + 1).toNatClampNeg r_42) ((4 * m_readJumpers) + 2).toNatClampNeg r_47) ((4 * m_readJumpers) + 3).toNatClampNeg r_52)))] H := hP
          have hD : va_D A [(m_a, .inr (12, [.ref m_a_letters, .int m_length, .int m_jumpers, .ref m_a_period, .ref m_a_hang, .ref m_a_st, .ref m_a_now, .ref m_a_book, .int m_undos, .ref m_a_images, .ref m_a_isKept, .int m_seen, .ref m_a_seenHang, .ref m_a_seenTick, .ref m_a_seenUp, .long m_trail, .int m_place_53, .int m_wrong_54, .int m_items, .int m_saidEvery, .int m_readEvery, .int m_readJumpers, .ref m_a_readOne])), (m_a_letters, .inl (cI, 120, .inl m_letters)), (m_a_readOne, .inl (cI, 24, .inl (upd (upd (upd (upd m_readOne (4 * m_readJumpers).toNatClampNeg r_37) ((4 * m_readJumpers) + 1).toNatClampNeg r_42) ((4 * m_readJumpers) + 2).toNatClampNeg r_47) ((4 * m_readJumpers) + 3).toNatClampNeg r_52)))] := hD
          refine lv_aload_n hx hb dX12_readItem_141 rfl (lv_at hl 1 rfl) ?_
          refine lv_dup hx hb dX12_readItem_142 rfl ?_
          refine va_get (D := D) (ci := 12) (v := .int m_readJumpers) (C := RX12) (T := TX12) (N := 23) hx hb ht iyX12 hown hK hP 0 rfl rfl 21 (by decide) (ht _ wf_X12_78) (fun _ h9 => h9) rfl dX12_readItem_143 ?_
          refine lv_iconst (v := 1) hx hb dX12_readItem_146 (by decide) ?_
          refine lv_iadd hx hb dX12_readItem_147 ?_
          refine va_put (D := D) (ci := 12) (v := .int (m_readJumpers + 1)) (ty := .int) (C := RX12) (T := TX12) (N := 23) hx hb ht iyX12 tyX12 tyX12_ok nmX12 hown hK hP hD hS 0 rfl rfl 21 (by decide) (ht _ wf_X12_78) (fun _ h9 => h9) rfl (by decide +kernel) rfl rfl (Nat.le_of_ble_eq_true rfl) dX12_readItem_148 (fun H locs hP hD hS => ?_)
          have hP : va_P D classes [(m_a, .inr (12, [.ref m_a_letters, .int m_length, .int m_jumpers, .ref m_a_period, .ref m_a_hang, .ref m_a_st, .ref m_a_now, .ref m_a_book, .int m_undos, .ref m_a_images, .ref m_a_isKept, .int m_seen, .ref m_a_seenHang, .ref m_a_seenTick, .ref m_a_seenUp, .long m_trail, .int m_place_53, .int m_wrong_54, .int m_items, .int m_saidEvery, .int m_readEvery, .int (m_readJumpers + 1), .ref m_a_readOne])), (m_a_letters, .inl (cI, 120, .inl m_letters)), (m_a_readOne, .inl (cI, 24, .inl (upd (upd (upd (upd m_readOne (4 * m_readJumpers).toNatClampNeg r_37) ((4 * m_readJumpers) + 1).toNatClampNeg r_42) ((4 * m_readJumpers) + 2).toNatClampNeg r_47) ((4 * m_readJumpers) + 3).toNatClampNeg r_52)))] H := hP
          have hD : va_D A [(m_a, .inr (12, [.ref m_a_letters, .int m_length, .int m_jumpers, .ref m_a_period, .ref m_a_hang, .ref m_a_st, .ref m_a_now, .ref m_a_book, .int m_undos, .ref m_a_images, .ref m_a_isKept, .int m_seen, .ref m_a_seenHang, .ref m_a_seenTick, .ref m_a_seenUp, .long m_trail, .int m_place_53, .int m_wrong_54, .int m_items, .int m_saidEvery, .int m_readEvery, .int (m_readJumpers + 1), .ref m_a_readOne])), (m_a_letters, .inl (cI, 120, .inl m_letters)), (m_a_readOne, .inl (cI, 24, .inl (upd (upd (upd (upd m_readOne (4 * m_readJumpers).toNatClampNeg r_37) ((4 * m_readJumpers) + 1).toNatClampNeg r_42) ((4 * m_readJumpers) + 2).toNatClampNeg r_47) ((4 * m_readJumpers) + 3).toNatClampNeg r_52)))] := hD
          refine lv_aload_n hx hb dX12_readItem_151 rfl (lv_at hl 1 rfl) ?_
          obtain ⟨m_place_57, m_wrong_58, m_items_59, hc_60, hF⟩ := zb3_s hF
          refine zcv_v (ws1 := [(m_a, .inr (12, [.ref m_a_letters, .int m_length, .int m_jumpers, .ref m_a_period, .ref m_a_hang, .ref m_a_st, .ref m_a_now, .ref m_a_book, .int m_undos, .ref m_a_images, .ref m_a_isKept, .int m_seen, .ref m_a_seenHang, .ref m_a_seenTick, .ref m_a_seenUp, .long m_trail, .int m_place_57, .int m_wrong_58, .int m_items_59, .int m_saidEvery, .int m_readEvery, .int (m_readJumpers + 1), .ref m_a_readOne])), (m_a_letters, .inl (cI, 120, .inl m_letters)), (m_a_readOne, .inl (cI, 24, .inl (upd (upd (upd (upd m_readOne (4 * m_readJumpers).toNatClampNeg r_37) ((4 * m_readJumpers) + 1).toNatClampNeg r_42) ((4 * m_readJumpers) + 2).toNatClampNeg r_47) ((4 * m_readJumpers) + 3).toNatClampNeg r_52)))]) S hT lk_X12_92 (c_X12_ends l D cI cZ cS cJ m_a m_a_letters m_a_period m_a_hang m_a_st m_a_now m_a_book m_a_images m_a_isKept m_a_seenHang m_a_seenTick m_a_seenUp m_a_readOne m_length m_jumpers m_undos m_seen m_trail m_place_53 m_wrong_54 m_items m_saidEvery m_readEvery (m_readJumpers + 1) m_letters hc_60) ⟨rfl, rfl, Nat.le_of_ble_eq_true rfl, Nat.le_of_ble_eq_true rfl⟩ hK hP hD hS hA [0, 1] [2] [1, 2, 0] rfl rfl rfl rfl rfl rfl rfl rfl rfl rfl rfl hl.1 rfl (Nat.le_of_ble_eq_true rfl) dX12_readItem_152 ⟨Nat.zero_le _, Nat.zero_le _⟩ (fun H locs hP hD hS => ?_)
          refine lv_goto (tgt := 166) hx hb dX12_readItem_155 (by decide) ?_
          obtain ⟨e_0, e_1, e_2, e_3, e_4, e_5, e_6⟩ := zo7 hF
          subst e_0
          subst e_1
          subst e_2
          subst e_3
          subst e_4
          subst e_5
          subst e_6
          exact zret_v S hr hlocks hK hP hD hS dX12_readItem_166
    · have hF := zi_pos c_32 hF
      refine lv_aload_n hx hb dX12_readItem_23 rfl (lv_at hl 1 rfl) ?_
      refine lv_dup hx hb dX12_readItem_24 rfl ?_
      refine va_get (D := D) (ci := 12) (v := .int m_place) (C := RX12) (T := TX12) (N := 23) hx hb ht iyX12 hown hK hP 0 rfl rfl 16 (by decide) (ht _ wf_X12_58) (fun _ h9 => h9) rfl dX12_readItem_25 ?_
      refine lv_iconst (v := 1) hx hb dX12_readItem_28 (by decide) ?_
      refine lv_iadd hx hb dX12_readItem_29 ?_
      refine va_put (D := D) (ci := 12) (v := .int (m_place + 1)) (ty := .int) (C := RX12) (T := TX12) (N := 23) hx hb ht iyX12 tyX12 tyX12_ok nmX12 hown hK hP hD hS 0 rfl rfl 16 (by decide) (ht _ wf_X12_58) (fun _ h9 => h9) rfl (by decide +kernel) rfl rfl (Nat.le_of_ble_eq_true rfl) dX12_readItem_30 (fun H locs hP hD hS => ?_)
      have hP : va_P D classes [(m_a, .inr (12, [.ref m_a_letters, .int m_length, .int m_jumpers, .ref m_a_period, .ref m_a_hang, .ref m_a_st, .ref m_a_now, .ref m_a_book, .int m_undos, .ref m_a_images, .ref m_a_isKept, .int m_seen, .ref m_a_seenHang, .ref m_a_seenTick, .ref m_a_seenUp, .long m_trail, .int (m_place + 1), .int m_wrong, .int m_items, .int m_saidEvery, .int m_readEvery, .int m_readJumpers, .ref m_a_readOne])), (m_a_letters, .inl (cI, 120, .inl m_letters)), (m_a_readOne, .inl (cI, 24, .inl m_readOne))] H := hP
      have hD : va_D A [(m_a, .inr (12, [.ref m_a_letters, .int m_length, .int m_jumpers, .ref m_a_period, .ref m_a_hang, .ref m_a_st, .ref m_a_now, .ref m_a_book, .int m_undos, .ref m_a_images, .ref m_a_isKept, .int m_seen, .ref m_a_seenHang, .ref m_a_seenTick, .ref m_a_seenUp, .long m_trail, .int (m_place + 1), .int m_wrong, .int m_items, .int m_saidEvery, .int m_readEvery, .int m_readJumpers, .ref m_a_readOne])), (m_a_letters, .inl (cI, 120, .inl m_letters)), (m_a_readOne, .inl (cI, 24, .inl m_readOne))] := hD
      refine lv_aload_n hx hb dX12_readItem_33 rfl (lv_at hl 1 rfl) ?_
      refine lv_iconst (v := 1) hx hb dX12_readItem_34 (by decide) ?_
      refine va_put (D := D) (ci := 12) (v := .int 1) (ty := .boolean) (C := RX12) (T := TX12) (N := 23) hx hb ht iyX12 tyX12 tyX12_ok nmX12 hown hK hP hD hS 0 rfl rfl 19 (by decide) (ht _ wf_X12_81) (fun _ h9 => h9) rfl (by decide +kernel) rfl rfl (Nat.le_of_ble_eq_true rfl) dX12_readItem_35 (fun H locs hP hD hS => ?_)
      have hP : va_P D classes [(m_a, .inr (12, [.ref m_a_letters, .int m_length, .int m_jumpers, .ref m_a_period, .ref m_a_hang, .ref m_a_st, .ref m_a_now, .ref m_a_book, .int m_undos, .ref m_a_images, .ref m_a_isKept, .int m_seen, .ref m_a_seenHang, .ref m_a_seenTick, .ref m_a_seenUp, .long m_trail, .int (m_place + 1), .int m_wrong, .int m_items, .int 1, .int m_readEvery, .int m_readJumpers, .ref m_a_readOne])), (m_a_letters, .inl (cI, 120, .inl m_letters)), (m_a_readOne, .inl (cI, 24, .inl m_readOne))] H := hP
      have hD : va_D A [(m_a, .inr (12, [.ref m_a_letters, .int m_length, .int m_jumpers, .ref m_a_period, .ref m_a_hang, .ref m_a_st, .ref m_a_now, .ref m_a_book, .int m_undos, .ref m_a_images, .ref m_a_isKept, .int m_seen, .ref m_a_seenHang, .ref m_a_seenTick, .ref m_a_seenUp, .long m_trail, .int (m_place + 1), .int m_wrong, .int m_items, .int 1, .int m_readEvery, .int m_readJumpers, .ref m_a_readOne])), (m_a_letters, .inl (cI, 120, .inl m_letters)), (m_a_readOne, .inl (cI, 24, .inl m_readOne))] := hD
      refine lv_aload_n hx hb dX12_readItem_38 rfl (lv_at hl 1 rfl) ?_
      refine lv_aload_n hx hb dX12_readItem_39 rfl (lv_at hl 1 rfl) ?_
      refine lv_iconst (v := 2) hx hb dX12_readItem_40 (by decide) ?_
      refine lv_bipush (v := 9) hx hb dX12_readItem_41 (by decide) ?_
      obtain ⟨r_61, m_place_62, m_wrong_63, hc_64, hF⟩ := zb3_s hF
      refine zcv_i (ws1 := [(m_a, .inr (12, [.ref m_a_letters, .int m_length, .int m_jumpers, .ref m_a_period, .ref m_a_hang, .ref m_a_st, .ref m_a_now, .ref m_a_book, .int m_undos, .ref m_a_images, .ref m_a_isKept, .int m_seen, .ref m_a_seenHang, .ref m_a_seenTick, .ref m_a_seenUp, .long m_trail, .int m_place_62, .int m_wrong_63, .int m_items, .int 1, .int m_readEvery, .int m_readJumpers, .ref m_a_readOne])), (m_a_letters, .inl (cI, 120, .inl m_letters)), (m_a_readOne, .inl (cI, 24, .inl m_readOne))]) S hT lk_X12_85 (c_X12_number l D cI cZ cS cJ m_a m_a_letters m_a_period m_a_hang m_a_st m_a_now m_a_book m_a_images m_a_isKept m_a_seenHang m_a_seenTick m_a_seenUp m_a_readOne m_length m_jumpers m_undos m_seen m_trail (m_place + 1) m_wrong m_items 1 m_readEvery m_readJumpers m_letters 2 9 hc_64) ⟨rfl, rfl, Nat.le_of_ble_eq_true rfl, Nat.le_of_ble_eq_true rfl⟩ hK hP hD hS hA [0, 1] [2] [1, 2, 0] rfl rfl rfl rfl rfl rfl rfl rfl rfl rfl rfl hl.1 rfl (Nat.le_of_ble_eq_true rfl) dX12_readItem_43 ⟨Nat.zero_le _, Nat.zero_le _⟩ (fun H locs hP hD hS => ?_)
      refine va_put (D := D) (ci := 12) (v := .int r_61) (ty := .int) (C := RX12) (T := TX12) (N := 23) hx hb ht iyX12 tyX12 tyX12_ok nmX12 hown hK hP hD hS 0 rfl rfl 20 (by decide) (ht _ wf_X12_89) (fun _ h9 => h9) rfl (by decide +kernel) rfl rfl (Nat.le_of_ble_eq_true rfl) dX12_readItem_46 (fun H locs hP hD hS => ?_)
      have hP : va_P D classes [(m_a, .inr (12, [.ref m_a_letters, .int m_length, .int m_jumpers, .ref m_a_period, .ref m_a_hang, .ref m_a_st, .ref m_a_now, .ref m_a_book, .int m_undos, .ref m_a_images, .ref m_a_isKept, .int m_seen, .ref m_a_seenHang, .ref m_a_seenTick, .ref m_a_seenUp, .long m_trail, .int m_place_62, .int m_wrong_63, .int m_items, .int 1, .int r_61, .int m_readJumpers, .ref m_a_readOne])), (m_a_letters, .inl (cI, 120, .inl m_letters)), (m_a_readOne, .inl (cI, 24, .inl m_readOne))] H := hP
      have hD : va_D A [(m_a, .inr (12, [.ref m_a_letters, .int m_length, .int m_jumpers, .ref m_a_period, .ref m_a_hang, .ref m_a_st, .ref m_a_now, .ref m_a_book, .int m_undos, .ref m_a_images, .ref m_a_isKept, .int m_seen, .ref m_a_seenHang, .ref m_a_seenTick, .ref m_a_seenUp, .long m_trail, .int m_place_62, .int m_wrong_63, .int m_items, .int 1, .int r_61, .int m_readJumpers, .ref m_a_readOne])), (m_a_letters, .inl (cI, 120, .inl m_letters)), (m_a_readOne, .inl (cI, 24, .inl m_readOne))] := hD
      refine lv_aload_n hx hb dX12_readItem_49 rfl (lv_at hl 1 rfl) ?_
      obtain ⟨m_place_65, m_wrong_66, m_items_67, hc_68, hF⟩ := zb3_s hF
      refine zcv_v (ws1 := [(m_a, .inr (12, [.ref m_a_letters, .int m_length, .int m_jumpers, .ref m_a_period, .ref m_a_hang, .ref m_a_st, .ref m_a_now, .ref m_a_book, .int m_undos, .ref m_a_images, .ref m_a_isKept, .int m_seen, .ref m_a_seenHang, .ref m_a_seenTick, .ref m_a_seenUp, .long m_trail, .int m_place_65, .int m_wrong_66, .int m_items_67, .int 1, .int r_61, .int m_readJumpers, .ref m_a_readOne])), (m_a_letters, .inl (cI, 120, .inl m_letters)), (m_a_readOne, .inl (cI, 24, .inl m_readOne))]) S hT lk_X12_92 (c_X12_ends l D cI cZ cS cJ m_a m_a_letters m_a_period m_a_hang m_a_st m_a_now m_a_book m_a_images m_a_isKept m_a_seenHang m_a_seenTick m_a_seenUp m_a_readOne m_length m_jumpers m_undos m_seen m_trail m_place_62 m_wrong_63 m_items 1 r_61 m_readJumpers m_letters hc_68) ⟨rfl, rfl, Nat.le_of_ble_eq_true rfl, Nat.le_of_ble_eq_true rfl⟩ hK hP hD hS hA [0, 1] [2] [1, 2, 0] rfl rfl rfl rfl rfl rfl rfl rfl rfl rfl rfl hl.1 rfl (Nat.le_of_ble_eq_true rfl) dX12_readItem_50 ⟨Nat.zero_le _, Nat.zero_le _⟩ (fun H locs hP hD hS => ?_)
      refine lv_goto (tgt := 166) hx hb dX12_readItem_53 (by decide) ?_
      obtain ⟨e_0, e_1, e_2, e_3, e_4, e_5, e_6⟩ := zo7 hF
      subst e_0
      subst e_1
      subst e_2
      subst e_3
      subst e_4
      subst e_5
      subst e_6
      exact zret_v S hr hlocks hK hP hD hS dX12_readItem_166

theorem lk_X12_95 : zLk RX12 95 yX12_readItem cX12_readItem 2 none 0 := ⟨⟨wm_X12_95, wo_X12_readItem, we_X12_X12_readItem, wi_X12, wd_X12_readItem⟩, by decide, by decide, by decide +kernel⟩
def L_X12_readYard_34 (m_length : Int32) (m_letters : Nat → Int32) : Nat → Int32 → Int32 → Int32 → Int32 → Int32 → Int32 → (Nat → Int32) → Option (Int32 × Int32 × Int32 × Int32 × Int32 × Int32 × (Nat → Int32))
  | 0 => fun _ _ _ _ _ _ _ => none
  | n + 1 => fun m_place m_wrong m_items m_saidEvery m_readEvery m_readJumpers m_readOne => (if 0 ≤ m_wrong then some (m_place, m_wrong, m_items, m_saidEvery, m_readEvery, m_readJumpers, m_readOne) else (if m_length ≤ m_place then some (m_place, m_wrong, m_items, m_saidEvery, m_readEvery, m_readJumpers, m_readOne) else (zb7 (F_X12_readItem m_length m_place m_wrong m_items m_saidEvery m_readEvery m_readJumpers m_letters m_readOne) (fun m_place_18 m_wrong_19 m_items_20 m_saidEvery_21 m_readEvery_22 m_readJumpers_23 m_readOne_24 => (if 0 ≤ m_wrong_19 then (L_X12_readYard_34 m_length m_letters n m_place_18 m_wrong_19 m_items_20 m_saidEvery_21 m_readEvery_22 m_readJumpers_23 m_readOne_24) else (zb1 (F_X12_skips m_length m_place_18 m_letters) (fun m_place_27 => (L_X12_readYard_34 m_length m_letters n m_place_27 m_wrong_19 m_items_20 m_saidEvery_21 m_readEvery_22 m_readJumpers_23 m_readOne_24))))))))
theorem L_X12_readYard_34_z (m_length : Int32) (m_letters : Nat → Int32) (m_place : Int32) (m_wrong : Int32) (m_items : Int32) (m_saidEvery : Int32) (m_readEvery : Int32) (m_readJumpers : Int32) (m_readOne : Nat → Int32) : L_X12_readYard_34 m_length m_letters 0 m_place m_wrong m_items m_saidEvery m_readEvery m_readJumpers m_readOne = none := rfl
theorem L_X12_readYard_34_s (m_length : Int32) (m_letters : Nat → Int32) (n : Nat) (m_place : Int32) (m_wrong : Int32) (m_items : Int32) (m_saidEvery : Int32) (m_readEvery : Int32) (m_readJumpers : Int32) (m_readOne : Nat → Int32) : L_X12_readYard_34 m_length m_letters (n + 1) m_place m_wrong m_items m_saidEvery m_readEvery m_readJumpers m_readOne = (if 0 ≤ m_wrong then some (m_place, m_wrong, m_items, m_saidEvery, m_readEvery, m_readJumpers, m_readOne) else (if m_length ≤ m_place then some (m_place, m_wrong, m_items, m_saidEvery, m_readEvery, m_readJumpers, m_readOne) else (zb7 (F_X12_readItem m_length m_place m_wrong m_items m_saidEvery m_readEvery m_readJumpers m_letters m_readOne) (fun m_place_18 m_wrong_19 m_items_20 m_saidEvery_21 m_readEvery_22 m_readJumpers_23 m_readOne_24 => (if 0 ≤ m_wrong_19 then (L_X12_readYard_34 m_length m_letters n m_place_18 m_wrong_19 m_items_20 m_saidEvery_21 m_readEvery_22 m_readJumpers_23 m_readOne_24) else (zb1 (F_X12_skips m_length m_place_18 m_letters) (fun m_place_27 => (L_X12_readYard_34 m_length m_letters n m_place_27 m_wrong_19 m_items_20 m_saidEvery_21 m_readEvery_22 m_readJumpers_23 m_readOne_24)))))))) := rfl
def F_X12_readYard (m_length : Int32) (m_letters : Nat → Int32) (m_readOne : Nat → Int32) : Option (Int32 × Int32 × Int32 × Int32 × Int32 × Int32 × (Nat → Int32)) :=
  (zb1 (F_X12_skips m_length 0 m_letters) (fun m_place_1 => (zb7 (L_X12_readYard_34 m_length m_letters 300 m_place_1 (-1) 0 0 4 0 m_readOne) (fun m_place_29 m_wrong_30 m_items_31 m_saidEvery_32 m_readEvery_33 m_readJumpers_34 m_readOne_35 => some (m_place_29, m_wrong_30, m_items_31, m_saidEvery_32, m_readEvery_33, m_readJumpers_34, m_readOne_35)))))
set_option maxHeartbeats 4000000 in
set_option maxRecDepth 100000 in
theorem c_X12_readYard (l : Launch) (D : va_G) (cI cZ cS cJ : ClassId) (m_a : Nat) (m_a_letters : Nat) (m_a_period : Nat) (m_a_hang : Nat) (m_a_st : Nat) (m_a_now : Nat) (m_a_book : Nat) (m_a_images : Nat) (m_a_isKept : Nat) (m_a_seenHang : Nat) (m_a_seenTick : Nat) (m_a_seenUp : Nat) (m_a_readOne : Nat) (m_length : Int32) (m_jumpers : Int32) (m_undos : Int32) (m_seen : Int32) (m_trail : Int64) (m_place : Int32) (m_wrong : Int32) (m_items : Int32) (m_saidEvery : Int32) (m_readEvery : Int32) (m_readJumpers : Int32) (m_letters : Nat → Int32) (m_readOne : Nat → Int32) {m_place_o : Int32} {m_wrong_o : Int32} {m_items_o : Int32} {m_saidEvery_o : Int32} {m_readEvery_o : Int32} {m_readJumpers_o : Int32} {m_readOne_o : Nat → Int32} (hF : F_X12_readYard m_length m_letters m_readOne = some (m_place_o, m_wrong_o, m_items_o, m_saidEvery_o, m_readEvery_o, m_readJumpers_o, m_readOne_o)) : zMv l yX12_readYard (zwl yX12_readYard cX12_readYard 1 none) { frames := 4, cells := 0, slots := 0, locals := 88 } D (TYS cI cZ cS cJ) [.ref m_a] [(m_a, .inr (12, [.ref m_a_letters, .int m_length, .int m_jumpers, .ref m_a_period, .ref m_a_hang, .ref m_a_st, .ref m_a_now, .ref m_a_book, .int m_undos, .ref m_a_images, .ref m_a_isKept, .int m_seen, .ref m_a_seenHang, .ref m_a_seenTick, .ref m_a_seenUp, .long m_trail, .int m_place, .int m_wrong, .int m_items, .int m_saidEvery, .int m_readEvery, .int m_readJumpers, .ref m_a_readOne])), (m_a_letters, .inl (cI, 120, .inl m_letters)), (m_a_readOne, .inl (cI, 24, .inl m_readOne))] [(m_a, .inr (12, [.ref m_a_letters, .int m_length, .int m_jumpers, .ref m_a_period, .ref m_a_hang, .ref m_a_st, .ref m_a_now, .ref m_a_book, .int m_undos, .ref m_a_images, .ref m_a_isKept, .int m_seen, .ref m_a_seenHang, .ref m_a_seenTick, .ref m_a_seenUp, .long m_trail, .int m_place_o, .int m_wrong_o, .int m_items_o, .int m_saidEvery_o, .int m_readEvery_o, .int m_readJumpers_o, .ref m_a_readOne])), (m_a_letters, .inl (cI, 120, .inl m_letters)), (m_a_readOne, .inl (cI, 24, .inl m_readOne_o))] := by
  refine zent_v (own := RX12) (by decide) rfl (Nat.le_of_ble_eq_true rfl) ?_
  intro p e s m below meth c A ls S hr hlocks hK hP hD hA hl
  have hx := S.1
  have hb := S.2.1
  have hml := S.2.2.1
  have hown := S.2.2.2.1
  have hT : ∀ w ∈ zt, w ∈ zwl yX12_readYard cX12_readYard 1 none := fun _ h => List.mem_cons_of_mem _ h
  have ht : ∀ w ∈ zt, w.before [.ref m_a].toArray s = true := fun w h => S.2.2.2.2 w (hT w h)
  have hl : lv_has ls 1 [(0, .ref m_a)] := hl
  have hS : va_S A s.heap s.heap [] := va_S.rf
  unfold F_X12_readYard at hF
  have hloop_34 : ∀ (n : Nat) (m_length : Int32) (m_jumpers : Int32) (m_undos : Int32) (m_seen : Int32) (m_trail : Int64) (m_place : Int32) (m_wrong : Int32) (m_items : Int32) (m_saidEvery : Int32) (m_readEvery : Int32) (m_readJumpers : Int32) (m_letters : Nat → Int32) (m_readOne : Nat → Int32) (m_place' : Int32) (m_wrong' : Int32) (m_items' : Int32) (m_saidEvery' : Int32) (m_readEvery' : Int32) (m_readJumpers' : Int32) (m_readOne' : Nat → Int32), L_X12_readYard_34 m_length m_letters n m_place m_wrong m_items m_saidEvery m_readEvery m_readJumpers m_readOne = some (m_place', m_wrong', m_items', m_saidEvery', m_readEvery', m_readJumpers', m_readOne') → ∀ (H : Heap) (locs : List Loc) (ls : Array Slot), va_P D classes [(m_a, .inr (12, [.ref m_a_letters, .int m_length, .int m_jumpers, .ref m_a_period, .ref m_a_hang, .ref m_a_st, .ref m_a_now, .ref m_a_book, .int m_undos, .ref m_a_images, .ref m_a_isKept, .int m_seen, .ref m_a_seenHang, .ref m_a_seenTick, .ref m_a_seenUp, .long m_trail, .int m_place, .int m_wrong, .int m_items, .int m_saidEvery, .int m_readEvery, .int m_readJumpers, .ref m_a_readOne])), (m_a_letters, .inl (cI, 120, .inl m_letters)), (m_a_readOne, .inl (cI, 24, .inl m_readOne))] H → va_D A [(m_a, .inr (12, [.ref m_a_letters, .int m_length, .int m_jumpers, .ref m_a_period, .ref m_a_hang, .ref m_a_st, .ref m_a_now, .ref m_a_book, .int m_undos, .ref m_a_images, .ref m_a_isKept, .int m_seen, .ref m_a_seenHang, .ref m_a_seenTick, .ref m_a_seenUp, .long m_trail, .int m_place, .int m_wrong, .int m_items, .int m_saidEvery, .int m_readEvery, .int m_readJumpers, .ref m_a_readOne])), (m_a_letters, .inl (cI, 120, .inl m_letters)), (m_a_readOne, .inl (cI, 24, .inl m_readOne))] → va_S A s.heap H locs → lv_has ls 1 [(0, .ref m_a)] → (∀ (H : Heap) (locs : List Loc) (ls : Array Slot), va_P D classes [(m_a, .inr (12, [.ref m_a_letters, .int m_length, .int m_jumpers, .ref m_a_period, .ref m_a_hang, .ref m_a_st, .ref m_a_now, .ref m_a_book, .int m_undos, .ref m_a_images, .ref m_a_isKept, .int m_seen, .ref m_a_seenHang, .ref m_a_seenTick, .ref m_a_seenUp, .long m_trail, .int m_place', .int m_wrong', .int m_items', .int m_saidEvery', .int m_readEvery', .int m_readJumpers', .ref m_a_readOne])), (m_a_letters, .inl (cI, 120, .inl m_letters)), (m_a_readOne, .inl (cI, 24, .inl m_readOne'))] H → va_D A [(m_a, .inr (12, [.ref m_a_letters, .int m_length, .int m_jumpers, .ref m_a_period, .ref m_a_hang, .ref m_a_st, .ref m_a_now, .ref m_a_book, .int m_undos, .ref m_a_images, .ref m_a_isKept, .int m_seen, .ref m_a_seenHang, .ref m_a_seenTick, .ref m_a_seenUp, .long m_trail, .int m_place', .int m_wrong', .int m_items', .int m_saidEvery', .int m_readEvery', .int m_readJumpers', .ref m_a_readOne])), (m_a_letters, .inl (cI, 120, .inl m_letters)), (m_a_readOne, .inl (cI, 24, .inl m_readOne'))] → va_S A s.heap H locs → lv_has ls 1 [(0, .ref m_a)] → W p l e { frames := 4, cells := 0, slots := 0, locals := 88 } s m [.ref m_a].toArray below meth c H locs 0 0 (zFv below [.ref m_a] s A D (TYS cI cZ cS cJ) [(m_a, .inr (12, [.ref m_a_letters, .int m_length, .int m_jumpers, .ref m_a_period, .ref m_a_hang, .ref m_a_st, .ref m_a_now, .ref m_a_book, .int m_undos, .ref m_a_images, .ref m_a_isKept, .int m_seen, .ref m_a_seenHang, .ref m_a_seenTick, .ref m_a_seenUp, .long m_trail, .int m_place_o, .int m_wrong_o, .int m_items_o, .int m_saidEvery_o, .int m_readEvery_o, .int m_readJumpers_o, .ref m_a_readOne])), (m_a_letters, .inl (cI, 120, .inl m_letters)), (m_a_readOne, .inl (cI, 24, .inl m_readOne_o))]) (F0 m 70 ls [])) → W p l e { frames := 4, cells := 0, slots := 0, locals := 88 } s m [.ref m_a].toArray below meth c H locs 0 0 (zFv below [.ref m_a] s A D (TYS cI cZ cS cJ) [(m_a, .inr (12, [.ref m_a_letters, .int m_length, .int m_jumpers, .ref m_a_period, .ref m_a_hang, .ref m_a_st, .ref m_a_now, .ref m_a_book, .int m_undos, .ref m_a_images, .ref m_a_isKept, .int m_seen, .ref m_a_seenHang, .ref m_a_seenTick, .ref m_a_seenUp, .long m_trail, .int m_place_o, .int m_wrong_o, .int m_items_o, .int m_saidEvery_o, .int m_readEvery_o, .int m_readJumpers_o, .ref m_a_readOne])), (m_a_letters, .inl (cI, 120, .inl m_letters)), (m_a_readOne, .inl (cI, 24, .inl m_readOne_o))]) (F0 m 34 ls []) := by
    intro n
    induction n with
    | zero =>
      intro m_length m_jumpers m_undos m_seen m_trail m_place m_wrong m_items m_saidEvery m_readEvery m_readJumpers m_letters m_readOne m_place' m_wrong' m_items' m_saidEvery' m_readEvery' m_readJumpers' m_readOne' hF
      rw [L_X12_readYard_34_z] at hF
      cases hF
    | succ n ih_34 =>
      intro m_length m_jumpers m_undos m_seen m_trail m_place m_wrong m_items m_saidEvery m_readEvery m_readJumpers m_letters m_readOne m_place' m_wrong' m_items' m_saidEvery' m_readEvery' m_readJumpers' m_readOne' hF H locs ls hP hD hS hl hexit_34
      rw [L_X12_readYard_34_s] at hF
      refine lv_aload_n hx hb dX12_readYard_34 rfl (lv_at hl 0 rfl) ?_
      refine va_get (D := D) (ci := 12) (v := .int m_wrong) (C := RX12) (T := TX12) (N := 23) hx hb ht iyX12 hown hK hP 0 rfl rfl 17 (by decide) (ht _ wf_X12_65) (fun _ h9 => h9) rfl dX12_readYard_35 ?_
      refine lv_if_ge (tgt := 70) hx hb dX12_readYard_38 (by decide) (fun c_16 => ?_) (fun c_16 => ?_)
      · have hF := zi_pos c_16 hF
        obtain ⟨e_0, e_1, e_2, e_3, e_4, e_5, e_6⟩ := zo7 hF
        subst e_0
        subst e_1
        subst e_2
        subst e_3
        subst e_4
        subst e_5
        subst e_6
        exact hexit_34 _ _ _ hP hD hS (lv_sub hl [0] rfl)
      · have hF := zi_neg c_16 hF
        refine lv_aload_n hx hb dX12_readYard_41 rfl (lv_at hl 0 rfl) ?_
        refine va_get (D := D) (ci := 12) (v := .int m_place) (C := RX12) (T := TX12) (N := 23) hx hb ht iyX12 hown hK hP 0 rfl rfl 16 (by decide) (ht _ wf_X12_58) (fun _ h9 => h9) rfl dX12_readYard_42 ?_
        refine lv_aload_n hx hb dX12_readYard_45 rfl (lv_at hl 0 rfl) ?_
        refine va_get (D := D) (ci := 12) (v := .int m_length) (C := RX12) (T := TX12) (N := 23) hx hb ht iyX12 hown hK hP 0 rfl rfl 1 (by decide) (ht _ wf_X12_55) (fun _ h9 => h9) rfl dX12_readYard_46 ?_
        refine lv_icmp_ge (tgt := 70) hx hb dX12_readYard_49 (by decide) (fun c_17 => ?_) (fun c_17 => ?_)
        · have hF := zi_pos c_17 hF
          obtain ⟨e_0, e_1, e_2, e_3, e_4, e_5, e_6⟩ := zo7 hF
          subst e_0
          subst e_1
          subst e_2
          subst e_3
          subst e_4
          subst e_5
          subst e_6
          exact hexit_34 _ _ _ hP hD hS (lv_sub hl [0] rfl)
        · have hF := zi_neg c_17 hF
          refine lv_aload_n hx hb dX12_readYard_52 rfl (lv_at hl 0 rfl) ?_
          obtain ⟨m_place_18, m_wrong_19, m_items_20, m_saidEvery_21, m_readEvery_22, m_readJumpers_23, m_readOne_24, hc_25, hF⟩ := zb7_s hF
          refine zcv_v (ws1 := [(m_a, .inr (12, [.ref m_a_letters, .int m_length, .int m_jumpers, .ref m_a_period, .ref m_a_hang, .ref m_a_st, .ref m_a_now, .ref m_a_book, .int m_undos, .ref m_a_images, .ref m_a_isKept, .int m_seen, .ref m_a_seenHang, .ref m_a_seenTick, .ref m_a_seenUp, .long m_trail, .int m_place_18, .int m_wrong_19, .int m_items_20, .int m_saidEvery_21, .int m_readEvery_22, .int m_readJumpers_23, .ref m_a_readOne])), (m_a_letters, .inl (cI, 120, .inl m_letters)), (m_a_readOne, .inl (cI, 24, .inl m_readOne_24))]) S hT lk_X12_95 (c_X12_readItem l D cI cZ cS cJ m_a m_a_letters m_a_period m_a_hang m_a_st m_a_now m_a_book m_a_images m_a_isKept m_a_seenHang m_a_seenTick m_a_seenUp m_a_readOne m_length m_jumpers m_undos m_seen m_trail m_place m_wrong m_items m_saidEvery m_readEvery m_readJumpers m_letters m_readOne hc_25) ⟨rfl, rfl, Nat.le_of_ble_eq_true rfl, Nat.le_of_ble_eq_true rfl⟩ hK hP hD hS hA [0, 1, 2] [] [0, 1, 2] rfl rfl rfl rfl rfl rfl rfl rfl rfl rfl rfl hl.1 rfl (Nat.le_of_ble_eq_true rfl) dX12_readYard_53 ⟨Nat.zero_le _, Nat.zero_le _⟩ (fun H locs hP hD hS => ?_)
          refine lv_aload_n hx hb dX12_readYard_56 rfl (lv_at hl 0 rfl) ?_
          refine va_get (D := D) (ci := 12) (v := .int m_wrong_19) (C := RX12) (T := TX12) (N := 23) hx hb ht iyX12 hown hK hP 0 rfl rfl 17 (by decide) (ht _ wf_X12_65) (fun _ h9 => h9) rfl dX12_readYard_57 ?_
          refine lv_if_ge (tgt := 34) hx hb dX12_readYard_60 (by decide) (fun c_26 => ?_) (fun c_26 => ?_)
          · have hF := zi_pos c_26 hF
            exact ih_34 m_length m_jumpers m_undos m_seen m_trail m_place_18 m_wrong_19 m_items_20 m_saidEvery_21 m_readEvery_22 m_readJumpers_23 m_letters m_readOne_24 _ _ _ _ _ _ _ hF _ _ _ hP hD hS (lv_sub hl [0] rfl) hexit_34
          · have hF := zi_neg c_26 hF
            refine lv_aload_n hx hb dX12_readYard_63 rfl (lv_at hl 0 rfl) ?_
            obtain ⟨m_place_27, hc_28, hF⟩ := zb1_s hF
            refine zcv_v (ws1 := [(m_a, .inr (12, [.ref m_a_letters, .int m_length, .int m_jumpers, .ref m_a_period, .ref m_a_hang, .ref m_a_st, .ref m_a_now, .ref m_a_book, .int m_undos, .ref m_a_images, .ref m_a_isKept, .int m_seen, .ref m_a_seenHang, .ref m_a_seenTick, .ref m_a_seenUp, .long m_trail, .int m_place_27, .int m_wrong_19, .int m_items_20, .int m_saidEvery_21, .int m_readEvery_22, .int m_readJumpers_23, .ref m_a_readOne])), (m_a_letters, .inl (cI, 120, .inl m_letters)), (m_a_readOne, .inl (cI, 24, .inl m_readOne_24))]) S hT lk_X12_68 (c_X12_skips l D cI cZ cS cJ m_a m_a_letters m_a_period m_a_hang m_a_st m_a_now m_a_book m_a_images m_a_isKept m_a_seenHang m_a_seenTick m_a_seenUp m_a_readOne m_length m_jumpers m_undos m_seen m_trail m_place_18 m_wrong_19 m_items_20 m_saidEvery_21 m_readEvery_22 m_readJumpers_23 m_letters hc_28) ⟨rfl, rfl, Nat.le_of_ble_eq_true rfl, Nat.le_of_ble_eq_true rfl⟩ hK hP hD hS hA [0, 1] [2] [1, 2, 0] rfl rfl rfl rfl rfl rfl rfl rfl rfl rfl rfl hl.1 rfl (Nat.le_of_ble_eq_true rfl) dX12_readYard_64 ⟨Nat.zero_le _, Nat.zero_le _⟩ (fun H locs hP hD hS => ?_)
            refine lv_goto (tgt := 34) hx hb dX12_readYard_67 (by decide) ?_
            exact ih_34 m_length m_jumpers m_undos m_seen m_trail m_place_27 m_wrong_19 m_items_20 m_saidEvery_21 m_readEvery_22 m_readJumpers_23 m_letters m_readOne_24 _ _ _ _ _ _ _ hF _ _ _ hP hD hS (lv_sub hl [0] rfl) hexit_34
  refine lv_aload_n hx hb dX12_readYard_0 rfl (lv_at hl 0 rfl) ?_
  refine lv_iconst (v := 0) hx hb dX12_readYard_1 (by decide) ?_
  refine va_put (D := D) (ci := 12) (v := .int 0) (ty := .int) (C := RX12) (T := TX12) (N := 23) hx hb ht iyX12 tyX12 tyX12_ok nmX12 hown hK hP hD hS 0 rfl rfl 16 (by decide) (ht _ wf_X12_58) (fun _ h9 => h9) rfl (by decide +kernel) rfl rfl (Nat.le_of_ble_eq_true rfl) dX12_readYard_2 (fun H locs hP hD hS => ?_)
  have hP : va_P D classes [(m_a, .inr (12, [.ref m_a_letters, .int m_length, .int m_jumpers, .ref m_a_period, .ref m_a_hang, .ref m_a_st, .ref m_a_now, .ref m_a_book, .int m_undos, .ref m_a_images, .ref m_a_isKept, .int m_seen, .ref m_a_seenHang, .ref m_a_seenTick, .ref m_a_seenUp, .long m_trail, .int 0, .int m_wrong, .int m_items, .int m_saidEvery, .int m_readEvery, .int m_readJumpers, .ref m_a_readOne])), (m_a_letters, .inl (cI, 120, .inl m_letters)), (m_a_readOne, .inl (cI, 24, .inl m_readOne))] H := hP
  have hD : va_D A [(m_a, .inr (12, [.ref m_a_letters, .int m_length, .int m_jumpers, .ref m_a_period, .ref m_a_hang, .ref m_a_st, .ref m_a_now, .ref m_a_book, .int m_undos, .ref m_a_images, .ref m_a_isKept, .int m_seen, .ref m_a_seenHang, .ref m_a_seenTick, .ref m_a_seenUp, .long m_trail, .int 0, .int m_wrong, .int m_items, .int m_saidEvery, .int m_readEvery, .int m_readJumpers, .ref m_a_readOne])), (m_a_letters, .inl (cI, 120, .inl m_letters)), (m_a_readOne, .inl (cI, 24, .inl m_readOne))] := hD
  refine lv_aload_n hx hb dX12_readYard_5 rfl (lv_at hl 0 rfl) ?_
  refine lv_iconst (v := (-1)) hx hb dX12_readYard_6 (by decide) ?_
  refine va_put (D := D) (ci := 12) (v := .int (-1)) (ty := .int) (C := RX12) (T := TX12) (N := 23) hx hb ht iyX12 tyX12 tyX12_ok nmX12 hown hK hP hD hS 0 rfl rfl 17 (by decide) (ht _ wf_X12_65) (fun _ h9 => h9) rfl (by decide +kernel) rfl rfl (Nat.le_of_ble_eq_true rfl) dX12_readYard_7 (fun H locs hP hD hS => ?_)
  have hP : va_P D classes [(m_a, .inr (12, [.ref m_a_letters, .int m_length, .int m_jumpers, .ref m_a_period, .ref m_a_hang, .ref m_a_st, .ref m_a_now, .ref m_a_book, .int m_undos, .ref m_a_images, .ref m_a_isKept, .int m_seen, .ref m_a_seenHang, .ref m_a_seenTick, .ref m_a_seenUp, .long m_trail, .int 0, .int (-1), .int m_items, .int m_saidEvery, .int m_readEvery, .int m_readJumpers, .ref m_a_readOne])), (m_a_letters, .inl (cI, 120, .inl m_letters)), (m_a_readOne, .inl (cI, 24, .inl m_readOne))] H := hP
  have hD : va_D A [(m_a, .inr (12, [.ref m_a_letters, .int m_length, .int m_jumpers, .ref m_a_period, .ref m_a_hang, .ref m_a_st, .ref m_a_now, .ref m_a_book, .int m_undos, .ref m_a_images, .ref m_a_isKept, .int m_seen, .ref m_a_seenHang, .ref m_a_seenTick, .ref m_a_seenUp, .long m_trail, .int 0, .int (-1), .int m_items, .int m_saidEvery, .int m_readEvery, .int m_readJumpers, .ref m_a_readOne])), (m_a_letters, .inl (cI, 120, .inl m_letters)), (m_a_readOne, .inl (cI, 24, .inl m_readOne))] := hD
  refine lv_aload_n hx hb dX12_readYard_10 rfl (lv_at hl 0 rfl) ?_
  refine lv_iconst (v := 0) hx hb dX12_readYard_11 (by decide) ?_
  refine va_put (D := D) (ci := 12) (v := .int 0) (ty := .int) (C := RX12) (T := TX12) (N := 23) hx hb ht iyX12 tyX12 tyX12_ok nmX12 hown hK hP hD hS 0 rfl rfl 18 (by decide) (ht _ wf_X12_75) (fun _ h9 => h9) rfl (by decide +kernel) rfl rfl (Nat.le_of_ble_eq_true rfl) dX12_readYard_12 (fun H locs hP hD hS => ?_)
  have hP : va_P D classes [(m_a, .inr (12, [.ref m_a_letters, .int m_length, .int m_jumpers, .ref m_a_period, .ref m_a_hang, .ref m_a_st, .ref m_a_now, .ref m_a_book, .int m_undos, .ref m_a_images, .ref m_a_isKept, .int m_seen, .ref m_a_seenHang, .ref m_a_seenTick, .ref m_a_seenUp, .long m_trail, .int 0, .int (-1), .int 0, .int m_saidEvery, .int m_readEvery, .int m_readJumpers, .ref m_a_readOne])), (m_a_letters, .inl (cI, 120, .inl m_letters)), (m_a_readOne, .inl (cI, 24, .inl m_readOne))] H := hP
  have hD : va_D A [(m_a, .inr (12, [.ref m_a_letters, .int m_length, .int m_jumpers, .ref m_a_period, .ref m_a_hang, .ref m_a_st, .ref m_a_now, .ref m_a_book, .int m_undos, .ref m_a_images, .ref m_a_isKept, .int m_seen, .ref m_a_seenHang, .ref m_a_seenTick, .ref m_a_seenUp, .long m_trail, .int 0, .int (-1), .int 0, .int m_saidEvery, .int m_readEvery, .int m_readJumpers, .ref m_a_readOne])), (m_a_letters, .inl (cI, 120, .inl m_letters)), (m_a_readOne, .inl (cI, 24, .inl m_readOne))] := hD
  refine lv_aload_n hx hb dX12_readYard_15 rfl (lv_at hl 0 rfl) ?_
  refine lv_iconst (v := 0) hx hb dX12_readYard_16 (by decide) ?_
  refine va_put (D := D) (ci := 12) (v := .int 0) (ty := .boolean) (C := RX12) (T := TX12) (N := 23) hx hb ht iyX12 tyX12 tyX12_ok nmX12 hown hK hP hD hS 0 rfl rfl 19 (by decide) (ht _ wf_X12_81) (fun _ h9 => h9) rfl (by decide +kernel) rfl rfl (Nat.le_of_ble_eq_true rfl) dX12_readYard_17 (fun H locs hP hD hS => ?_)
  have hP : va_P D classes [(m_a, .inr (12, [.ref m_a_letters, .int m_length, .int m_jumpers, .ref m_a_period, .ref m_a_hang, .ref m_a_st, .ref m_a_now, .ref m_a_book, .int m_undos, .ref m_a_images, .ref m_a_isKept, .int m_seen, .ref m_a_seenHang, .ref m_a_seenTick, .ref m_a_seenUp, .long m_trail, .int 0, .int (-1), .int 0, .int 0, .int m_readEvery, .int m_readJumpers, .ref m_a_readOne])), (m_a_letters, .inl (cI, 120, .inl m_letters)), (m_a_readOne, .inl (cI, 24, .inl m_readOne))] H := hP
  have hD : va_D A [(m_a, .inr (12, [.ref m_a_letters, .int m_length, .int m_jumpers, .ref m_a_period, .ref m_a_hang, .ref m_a_st, .ref m_a_now, .ref m_a_book, .int m_undos, .ref m_a_images, .ref m_a_isKept, .int m_seen, .ref m_a_seenHang, .ref m_a_seenTick, .ref m_a_seenUp, .long m_trail, .int 0, .int (-1), .int 0, .int 0, .int m_readEvery, .int m_readJumpers, .ref m_a_readOne])), (m_a_letters, .inl (cI, 120, .inl m_letters)), (m_a_readOne, .inl (cI, 24, .inl m_readOne))] := hD
  refine lv_aload_n hx hb dX12_readYard_20 rfl (lv_at hl 0 rfl) ?_
  refine lv_iconst (v := 4) hx hb dX12_readYard_21 (by decide) ?_
  refine va_put (D := D) (ci := 12) (v := .int 4) (ty := .int) (C := RX12) (T := TX12) (N := 23) hx hb ht iyX12 tyX12 tyX12_ok nmX12 hown hK hP hD hS 0 rfl rfl 20 (by decide) (ht _ wf_X12_89) (fun _ h9 => h9) rfl (by decide +kernel) rfl rfl (Nat.le_of_ble_eq_true rfl) dX12_readYard_22 (fun H locs hP hD hS => ?_)
  have hP : va_P D classes [(m_a, .inr (12, [.ref m_a_letters, .int m_length, .int m_jumpers, .ref m_a_period, .ref m_a_hang, .ref m_a_st, .ref m_a_now, .ref m_a_book, .int m_undos, .ref m_a_images, .ref m_a_isKept, .int m_seen, .ref m_a_seenHang, .ref m_a_seenTick, .ref m_a_seenUp, .long m_trail, .int 0, .int (-1), .int 0, .int 0, .int 4, .int m_readJumpers, .ref m_a_readOne])), (m_a_letters, .inl (cI, 120, .inl m_letters)), (m_a_readOne, .inl (cI, 24, .inl m_readOne))] H := hP
  have hD : va_D A [(m_a, .inr (12, [.ref m_a_letters, .int m_length, .int m_jumpers, .ref m_a_period, .ref m_a_hang, .ref m_a_st, .ref m_a_now, .ref m_a_book, .int m_undos, .ref m_a_images, .ref m_a_isKept, .int m_seen, .ref m_a_seenHang, .ref m_a_seenTick, .ref m_a_seenUp, .long m_trail, .int 0, .int (-1), .int 0, .int 0, .int 4, .int m_readJumpers, .ref m_a_readOne])), (m_a_letters, .inl (cI, 120, .inl m_letters)), (m_a_readOne, .inl (cI, 24, .inl m_readOne))] := hD
  refine lv_aload_n hx hb dX12_readYard_25 rfl (lv_at hl 0 rfl) ?_
  refine lv_iconst (v := 0) hx hb dX12_readYard_26 (by decide) ?_
  refine va_put (D := D) (ci := 12) (v := .int 0) (ty := .int) (C := RX12) (T := TX12) (N := 23) hx hb ht iyX12 tyX12 tyX12_ok nmX12 hown hK hP hD hS 0 rfl rfl 21 (by decide) (ht _ wf_X12_78) (fun _ h9 => h9) rfl (by decide +kernel) rfl rfl (Nat.le_of_ble_eq_true rfl) dX12_readYard_27 (fun H locs hP hD hS => ?_)
  have hP : va_P D classes [(m_a, .inr (12, [.ref m_a_letters, .int m_length, .int m_jumpers, .ref m_a_period, .ref m_a_hang, .ref m_a_st, .ref m_a_now, .ref m_a_book, .int m_undos, .ref m_a_images, .ref m_a_isKept, .int m_seen, .ref m_a_seenHang, .ref m_a_seenTick, .ref m_a_seenUp, .long m_trail, .int 0, .int (-1), .int 0, .int 0, .int 4, .int 0, .ref m_a_readOne])), (m_a_letters, .inl (cI, 120, .inl m_letters)), (m_a_readOne, .inl (cI, 24, .inl m_readOne))] H := hP
  have hD : va_D A [(m_a, .inr (12, [.ref m_a_letters, .int m_length, .int m_jumpers, .ref m_a_period, .ref m_a_hang, .ref m_a_st, .ref m_a_now, .ref m_a_book, .int m_undos, .ref m_a_images, .ref m_a_isKept, .int m_seen, .ref m_a_seenHang, .ref m_a_seenTick, .ref m_a_seenUp, .long m_trail, .int 0, .int (-1), .int 0, .int 0, .int 4, .int 0, .ref m_a_readOne])), (m_a_letters, .inl (cI, 120, .inl m_letters)), (m_a_readOne, .inl (cI, 24, .inl m_readOne))] := hD
  refine lv_aload_n hx hb dX12_readYard_30 rfl (lv_at hl 0 rfl) ?_
  obtain ⟨m_place_1, hc_2, hF⟩ := zb1_s hF
  refine zcv_v (ws1 := [(m_a, .inr (12, [.ref m_a_letters, .int m_length, .int m_jumpers, .ref m_a_period, .ref m_a_hang, .ref m_a_st, .ref m_a_now, .ref m_a_book, .int m_undos, .ref m_a_images, .ref m_a_isKept, .int m_seen, .ref m_a_seenHang, .ref m_a_seenTick, .ref m_a_seenUp, .long m_trail, .int m_place_1, .int (-1), .int 0, .int 0, .int 4, .int 0, .ref m_a_readOne])), (m_a_letters, .inl (cI, 120, .inl m_letters)), (m_a_readOne, .inl (cI, 24, .inl m_readOne))]) S hT lk_X12_68 (c_X12_skips l D cI cZ cS cJ m_a m_a_letters m_a_period m_a_hang m_a_st m_a_now m_a_book m_a_images m_a_isKept m_a_seenHang m_a_seenTick m_a_seenUp m_a_readOne m_length m_jumpers m_undos m_seen m_trail 0 (-1) 0 0 4 0 m_letters hc_2) ⟨rfl, rfl, Nat.le_of_ble_eq_true rfl, Nat.le_of_ble_eq_true rfl⟩ hK hP hD hS hA [0, 1] [2] [1, 2, 0] rfl rfl rfl rfl rfl rfl rfl rfl rfl rfl rfl hl.1 rfl (Nat.le_of_ble_eq_true rfl) dX12_readYard_31 ⟨Nat.zero_le _, Nat.zero_le _⟩ (fun H locs hP hD hS => ?_)
  obtain ⟨m_place_29, m_wrong_30, m_items_31, m_saidEvery_32, m_readEvery_33, m_readJumpers_34, m_readOne_35, hL_36, hF⟩ := zb7_s hF
  refine hloop_34 300 m_length m_jumpers m_undos m_seen m_trail m_place_1 (-1) 0 0 4 0 m_letters m_readOne m_place_29 m_wrong_30 m_items_31 m_saidEvery_32 m_readEvery_33 m_readJumpers_34 m_readOne_35 hL_36 _ _ _ hP hD hS (lv_sub hl [0] rfl) (fun H locs ls hP hD hS hl => ?_)
  obtain ⟨e_0, e_1, e_2, e_3, e_4, e_5, e_6⟩ := zo7 hF
  subst e_0
  subst e_1
  subst e_2
  subst e_3
  subst e_4
  subst e_5
  subst e_6
  exact zret_v S hr hlocks hK hP hD hS dX12_readYard_70
