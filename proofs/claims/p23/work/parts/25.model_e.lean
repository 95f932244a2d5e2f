theorem lk_X12_119 : zLs RX12 119 yX12_bring cX12_bring 6 none 5 := ⟨⟨wm_X12_119, ws_X12_bring, wi_X12, wd_X12_bring⟩, by decide, by decide, by decide +kernel⟩
def F_X12_asItIs (m_st : Nat → Int32) (m_now : Nat → Int32) : Option ((Nat → Int32)) :=
  (zb1 (F_X12_bring 22 m_st 22 m_now 0 0 22) (fun m_now_1 => some (m_now_1)))
set_option maxHeartbeats 4000000 in
set_option maxRecDepth 100000 in
theorem c_X12_asItIs (l : Launch) (D : va_G) (cI cZ cS cJ : ClassId) (m_a : Nat) (m_a_letters : Nat) (m_a_period : Nat) (m_a_hang : Nat) (m_a_st : Nat) (m_a_now : Nat) (m_a_book : Nat) (m_a_images : Nat) (m_a_isKept : Nat) (m_a_seenHang : Nat) (m_a_seenTick : Nat) (m_a_seenUp : Nat) (m_a_readOne : Nat) (m_length : Int32) (m_jumpers : Int32) (m_undos : Int32) (m_seen : Int32) (m_trail : Int64) (m_place : Int32) (m_wrong : Int32) (m_items : Int32) (m_saidEvery : Int32) (m_readEvery : Int32) (m_readJumpers : Int32) (m_st : Nat → Int32) (m_now : Nat → Int32) {m_now_o : Nat → Int32} (hF : F_X12_asItIs m_st m_now = some (m_now_o)) : zMv l yX12_asItIs (zwl yX12_asItIs cX12_asItIs 1 none) { frames := 1, cells := 0, slots := 0, locals := 25 } D (TYS cI cZ cS cJ) [.ref m_a] [(m_a, .inr (12, [.ref m_a_letters, .int m_length, .int m_jumpers, .ref m_a_period, .ref m_a_hang, .ref m_a_st, .ref m_a_now, .ref m_a_book, .int m_undos, .ref m_a_images, .ref m_a_isKept, .int m_seen, .ref m_a_seenHang, .ref m_a_seenTick, .ref m_a_seenUp, .long m_trail, .int m_place, .int m_wrong, .int m_items, .int m_saidEvery, .int m_readEvery, .int m_readJumpers, .ref m_a_readOne])), (m_a_st, .inl (cI, 22, .inl m_st)), (m_a_now, .inl (cI, 22, .inl m_now))] [(m_a, .inr (12, [.ref m_a_letters, .int m_length, .int m_jumpers, .ref m_a_period, .ref m_a_hang, .ref m_a_st, .ref m_a_now, .ref m_a_book, .int m_undos, .ref m_a_images, .ref m_a_isKept, .int m_seen, .ref m_a_seenHang, .ref m_a_seenTick, .ref m_a_seenUp, .long m_trail, .int m_place, .int m_wrong, .int m_items, .int m_saidEvery, .int m_readEvery, .int m_readJumpers, .ref m_a_readOne])), (m_a_st, .inl (cI, 22, .inl m_st)), (m_a_now, .inl (cI, 22, .inl m_now_o))] := by
  refine zent_v (own := RX12) (by decide) rfl (Nat.le_of_ble_eq_true rfl) ?_
  intro p e s m below meth c A ls S hr hlocks hK hP hD hA hl
  have hx := S.1
  have hb := S.2.1
  have hml := S.2.2.1
  have hown := S.2.2.2.1
  have hT : ∀ w ∈ zt, w ∈ zwl yX12_asItIs cX12_asItIs 1 none := fun _ h => List.mem_cons_of_mem _ h
  have ht : ∀ w ∈ zt, w.before [.ref m_a].toArray s = true := fun w h => S.2.2.2.2 w (hT w h)
  have hl : lv_has ls 1 [(0, .ref m_a)] := hl
  have hS : va_S A s.heap s.heap [] := va_S.rf
  unfold F_X12_asItIs at hF
  refine lv_aload_n hx hb dX12_asItIs_0 rfl (lv_at hl 0 rfl) ?_
  refine va_get (D := D) (ci := 12) (v := .ref m_a_st) (C := RX12) (T := TX12) (N := 23) hx hb ht iyX12 hown hK hP 0 rfl rfl 5 (by decide) (ht _ wf_X12_19) (fun _ h9 => h9) rfl dX12_asItIs_1 ?_
  refine lv_iconst (v := 0) hx hb dX12_asItIs_4 (by decide) ?_
  refine lv_aload_n hx hb dX12_asItIs_5 rfl (lv_at hl 0 rfl) ?_
  refine va_get (D := D) (ci := 12) (v := .ref m_a_now) (C := RX12) (T := TX12) (N := 23) hx hb ht iyX12 hown hK hP 0 rfl rfl 6 (by decide) (ht _ wf_X12_22) (fun _ h9 => h9) rfl dX12_asItIs_6 ?_
  refine lv_iconst (v := 0) hx hb dX12_asItIs_9 (by decide) ?_
  refine lv_bipush (v := 22) hx hb dX12_asItIs_10 (by decide) ?_
  obtain ⟨m_now_1, hc_2, hF⟩ := zb1_s hF
  refine zcs_v (ws1 := [(m_a, .inr (12, [.ref m_a_letters, .int m_length, .int m_jumpers, .ref m_a_period, .ref m_a_hang, .ref m_a_st, .ref m_a_now, .ref m_a_book, .int m_undos, .ref m_a_images, .ref m_a_isKept, .int m_seen, .ref m_a_seenHang, .ref m_a_seenTick, .ref m_a_seenUp, .long m_trail, .int m_place, .int m_wrong, .int m_items, .int m_saidEvery, .int m_readEvery, .int m_readJumpers, .ref m_a_readOne])), (m_a_st, .inl (cI, 22, .inl m_st)), (m_a_now, .inl (cI, 22, .inl m_now_1))]) S hT lk_X12_119 (c_X12_bring l D cI cZ cS cJ m_a_st m_a_now 22 m_st 22 m_now 0 0 22 hc_2) ⟨rfl, rfl, Nat.le_of_ble_eq_true rfl, Nat.le_of_ble_eq_true rfl⟩ hK hP hD hS hA [1, 2] [0] [0, 1, 2] rfl rfl rfl rfl rfl rfl rfl rfl hl.1 rfl (Nat.le_of_ble_eq_true rfl) dX12_asItIs_12 ⟨Nat.zero_le _, Nat.zero_le _⟩ (fun H locs hP hD hS => ?_)
  have e_0 := zo1 hF
  subst e_0
  exact zret_v S hr hlocks hK hP hD hS dX12_asItIs_15

theorem lk_X12_123 : zLk RX12 123 yX12_tickOn cX12_tickOn 5 (some .int) 2 := ⟨⟨wm_X12_123, wo_X12_tickOn, we_X12_X12_tickOn, wi_X12, wd_X12_tickOn⟩, by decide, by decide, by decide +kernel⟩
def L_X12_tripOf_2 (m_jumpers : Int32) (m_period : Nat → Int32) (m_hang : Nat → Int32) (v1 : Int32) : Nat → (Nat → Int32) → Int32 → Option (((Nat → Int32) × Int32) ⊕ (Int32 × (Nat → Int32)))
  | 0 => fun _ _ => none
  | n + 1 => fun m_now v2 => (if 120 < v2 then some (.inl (m_now, v2)) else (zb2 (F_X12_tickOn m_jumpers m_period m_hang m_now 0) (fun r_9 m_now_10 => (zb1 (F_X12_has (m_now_10 (3 : Int32).toNatClampNeg) v1) (fun r_12 => (if r_12 = 0 then some (.inr (v2, m_now_10)) else (L_X12_tripOf_2 m_jumpers m_period m_hang v1 n m_now_10 (v2 + 1))))))))
theorem L_X12_tripOf_2_z (m_jumpers : Int32) (m_period : Nat → Int32) (m_hang : Nat → Int32) (v1 : Int32) (m_now : Nat → Int32) (v2 : Int32) : L_X12_tripOf_2 m_jumpers m_period m_hang v1 0 m_now v2 = none := rfl
theorem L_X12_tripOf_2_s (m_jumpers : Int32) (m_period : Nat → Int32) (m_hang : Nat → Int32) (v1 : Int32) (n : Nat) (m_now : Nat → Int32) (v2 : Int32) : L_X12_tripOf_2 m_jumpers m_period m_hang v1 (n + 1) m_now v2 = (if 120 < v2 then some (.inl (m_now, v2)) else (zb2 (F_X12_tickOn m_jumpers m_period m_hang m_now 0) (fun r_9 m_now_10 => (zb1 (F_X12_has (m_now_10 (3 : Int32).toNatClampNeg) v1) (fun r_12 => (if r_12 = 0 then some (.inr (v2, m_now_10)) else (L_X12_tripOf_2 m_jumpers m_period m_hang v1 n m_now_10 (v2 + 1)))))))) := rfl
def F_X12_tripOf (m_jumpers : Int32) (m_period : Nat → Int32) (m_hang : Nat → Int32) (m_now : Nat → Int32) (p1 : Int32) : Option (Int32 × (Nat → Int32)) :=
  (zs2 (L_X12_tripOf_2 m_jumpers m_period m_hang p1 300 m_now 1) (fun m_now_15 v2_16 => some ((-9), m_now_15)))
set_option maxHeartbeats 4000000 in
set_option maxRecDepth 100000 in
theorem c_X12_tripOf (l : Launch) (D : va_G) (cI cZ cS cJ : ClassId) (m_a : Nat) (m_a_letters : Nat) (m_a_period : Nat) (m_a_hang : Nat) (m_a_st : Nat) (m_a_now : Nat) (m_a_book : Nat) (m_a_images : Nat) (m_a_isKept : Nat) (m_a_seenHang : Nat) (m_a_seenTick : Nat) (m_a_seenUp : Nat) (m_a_readOne : Nat) (m_length : Int32) (m_jumpers : Int32) (m_undos : Int32) (m_seen : Int32) (m_trail : Int64) (m_place : Int32) (m_wrong : Int32) (m_items : Int32) (m_saidEvery : Int32) (m_readEvery : Int32) (m_readJumpers : Int32) (m_period : Nat → Int32) (m_hang : Nat → Int32) (m_now : Nat → Int32) (p1 : Int32) {r_o : Int32} {m_now_o : Nat → Int32} (hF : F_X12_tripOf m_jumpers m_period m_hang m_now p1 = some (r_o, m_now_o)) : zMi l yX12_tripOf (zwl yX12_tripOf cX12_tripOf 3 (some .int)) { frames := 2, cells := 0, slots := 0, locals := 47 } D (TYS cI cZ cS cJ) [.ref m_a, .int p1] [(m_a, .inr (12, [.ref m_a_letters, .int m_length, .int m_jumpers, .ref m_a_period, .ref m_a_hang, .ref m_a_st, .ref m_a_now, .ref m_a_book, .int m_undos, .ref m_a_images, .ref m_a_isKept, .int m_seen, .ref m_a_seenHang, .ref m_a_seenTick, .ref m_a_seenUp, .long m_trail, .int m_place, .int m_wrong, .int m_items, .int m_saidEvery, .int m_readEvery, .int m_readJumpers, .ref m_a_readOne])), (m_a_period, .inl (cI, 6, .inl m_period)), (m_a_hang, .inl (cI, 6, .inl m_hang)), (m_a_now, .inl (cI, 22, .inl m_now))] [(m_a, .inr (12, [.ref m_a_letters, .int m_length, .int m_jumpers, .ref m_a_period, .ref m_a_hang, .ref m_a_st, .ref m_a_now, .ref m_a_book, .int m_undos, .ref m_a_images, .ref m_a_isKept, .int m_seen, .ref m_a_seenHang, .ref m_a_seenTick, .ref m_a_seenUp, .long m_trail, .int m_place, .int m_wrong, .int m_items, .int m_saidEvery, .int m_readEvery, .int m_readJumpers, .ref m_a_readOne])), (m_a_period, .inl (cI, 6, .inl m_period)), (m_a_hang, .inl (cI, 6, .inl m_hang)), (m_a_now, .inl (cI, 22, .inl m_now_o))] r_o := by
  refine zent_i (own := RX12) (by decide) rfl (Nat.le_of_ble_eq_true rfl) ?_
  intro p e s m below meth c A ls S hr hlocks hK hP hD hA hl
  have hx := S.1
  have hb := S.2.1
  have hml := S.2.2.1
  have hown := S.2.2.2.1
  have hT : ∀ w ∈ zt, w ∈ zwl yX12_tripOf cX12_tripOf 3 (some .int) := fun _ h => List.mem_cons_of_mem _ h
  have ht : ∀ w ∈ zt, w.before [.ref m_a, .int p1].toArray s = true := fun w h => S.2.2.2.2 w (hT w h)
  have hl : lv_has ls 3 [(0, .ref m_a), (1, .int p1)] := hl
  have hS : va_S A s.heap s.heap [] := va_S.rf
  unfold F_X12_tripOf at hF
  have hloop_2 : ∀ (n : Nat) (m_length : Int32) (m_jumpers : Int32) (m_undos : Int32) (m_seen : Int32) (m_trail : Int64) (m_place : Int32) (m_wrong : Int32) (m_items : Int32) (m_saidEvery : Int32) (m_readEvery : Int32) (m_readJumpers : Int32) (m_period : Nat → Int32) (m_hang : Nat → Int32) (m_now : Nat → Int32) (v1 : Int32) (v2 : Int32) (res : ((Nat → Int32) × Int32) ⊕ (Int32 × (Nat → Int32))), L_X12_tripOf_2 m_jumpers m_period m_hang v1 n m_now v2 = some res → (∀ o, res = .inr o → o = (r_o, m_now_o)) → ∀ (H : Heap) (locs : List Loc) (ls : Array Slot), va_P D classes [(m_a, .inr (12, [.ref m_a_letters, .int m_length, .int m_jumpers, .ref m_a_period, .ref m_a_hang, .ref m_a_st, .ref m_a_now, .ref m_a_book, .int m_undos, .ref m_a_images, .ref m_a_isKept, .int m_seen, .ref m_a_seenHang, .ref m_a_seenTick, .ref m_a_seenUp, .long m_trail, .int m_place, .int m_wrong, .int m_items, .int m_saidEvery, .int m_readEvery, .int m_readJumpers, .ref m_a_readOne])), (m_a_period, .inl (cI, 6, .inl m_period)), (m_a_hang, .inl (cI, 6, .inl m_hang)), (m_a_now, .inl (cI, 22, .inl m_now))] H → va_D A [(m_a, .inr (12, [.ref m_a_letters, .int m_length, .int m_jumpers, .ref m_a_period, .ref m_a_hang, .ref m_a_st, .ref m_a_now, .ref m_a_book, .int m_undos, .ref m_a_images, .ref m_a_isKept, .int m_seen, .ref m_a_seenHang, .ref m_a_seenTick, .ref m_a_seenUp, .long m_trail, .int m_place, .int m_wrong, .int m_items, .int m_saidEvery, .int m_readEvery, .int m_readJumpers, .ref m_a_readOne])), (m_a_period, .inl (cI, 6, .inl m_period)), (m_a_hang, .inl (cI, 6, .inl m_hang)), (m_a_now, .inl (cI, 22, .inl m_now))] → va_S A s.heap H locs → lv_has ls 3 [(0, .ref m_a), (1, .int v1), (2, .int v2)] → (∀ (m_now' : Nat → Int32) (v2' : Int32), res = .inl (m_now', v2') → ∀ (H : Heap) (locs : List Loc) (ls : Array Slot), va_P D classes [(m_a, .inr (12, [.ref m_a_letters, .int m_length, .int m_jumpers, .ref m_a_period, .ref m_a_hang, .ref m_a_st, .ref m_a_now, .ref m_a_book, .int m_undos, .ref m_a_images, .ref m_a_isKept, .int m_seen, .ref m_a_seenHang, .ref m_a_seenTick, .ref m_a_seenUp, .long m_trail, .int m_place, .int m_wrong, .int m_items, .int m_saidEvery, .int m_readEvery, .int m_readJumpers, .ref m_a_readOne])), (m_a_period, .inl (cI, 6, .inl m_period)), (m_a_hang, .inl (cI, 6, .inl m_hang)), (m_a_now, .inl (cI, 22, .inl m_now'))] H → va_D A [(m_a, .inr (12, [.ref m_a_letters, .int m_length, .int m_jumpers, .ref m_a_period, .ref m_a_hang, .ref m_a_st, .ref m_a_now, .ref m_a_book, .int m_undos, .ref m_a_images, .ref m_a_isKept, .int m_seen, .ref m_a_seenHang, .ref m_a_seenTick, .ref m_a_seenUp, .long m_trail, .int m_place, .int m_wrong, .int m_items, .int m_saidEvery, .int m_readEvery, .int m_readJumpers, .ref m_a_readOne])), (m_a_period, .inl (cI, 6, .inl m_period)), (m_a_hang, .inl (cI, 6, .inl m_hang)), (m_a_now, .inl (cI, 22, .inl m_now'))] → va_S A s.heap H locs → lv_has ls 3 [(0, .ref m_a), (1, .int v1), (2, .int v2')] → W p l e { frames := 2, cells := 0, slots := 0, locals := 47 } s m [.ref m_a, .int p1].toArray below meth c H locs 0 0 (zFi below [.ref m_a, .int p1] s A D (TYS cI cZ cS cJ) [(m_a, .inr (12, [.ref m_a_letters, .int m_length, .int m_jumpers, .ref m_a_period, .ref m_a_hang, .ref m_a_st, .ref m_a_now, .ref m_a_book, .int m_undos, .ref m_a_images, .ref m_a_isKept, .int m_seen, .ref m_a_seenHang, .ref m_a_seenTick, .ref m_a_seenUp, .long m_trail, .int m_place, .int m_wrong, .int m_items, .int m_saidEvery, .int m_readEvery, .int m_readJumpers, .ref m_a_readOne])), (m_a_period, .inl (cI, 6, .inl m_period)), (m_a_hang, .inl (cI, 6, .inl m_hang)), (m_a_now, .inl (cI, 22, .inl m_now_o))] r_o) (F0 m 39 ls [])) → W p l e { frames := 2, cells := 0, slots := 0, locals := 47 } s m [.ref m_a, .int p1].toArray below meth c H locs 0 0 (zFi below [.ref m_a, .int p1] s A D (TYS cI cZ cS cJ) [(m_a, .inr (12, [.ref m_a_letters, .int m_length, .int m_jumpers, .ref m_a_period, .ref m_a_hang, .ref m_a_st, .ref m_a_now, .ref m_a_book, .int m_undos, .ref m_a_images, .ref m_a_isKept, .int m_seen, .ref m_a_seenHang, .ref m_a_seenTick, .ref m_a_seenUp, .long m_trail, .int m_place, .int m_wrong, .int m_items, .int m_saidEvery, .int m_readEvery, .int m_readJumpers, .ref m_a_readOne])), (m_a_period, .inl (cI, 6, .inl m_period)), (m_a_hang, .inl (cI, 6, .inl m_hang)), (m_a_now, .inl (cI, 22, .inl m_now_o))] r_o) (F0 m 2 ls []) := by
    intro n
    induction n with
    | zero =>
      intro m_length m_jumpers m_undos m_seen m_trail m_place m_wrong m_items m_saidEvery m_readEvery m_readJumpers m_period m_hang m_now v1 v2 res hF
      rw [L_X12_tripOf_2_z] at hF
      cases hF
    | succ n ih_2 =>
      intro m_length m_jumpers m_undos m_seen m_trail m_place m_wrong m_items m_saidEvery m_readEvery m_readJumpers m_period m_hang m_now v1 v2 res hF hret H locs ls hP hD hS hl hexit_2
      rw [L_X12_tripOf_2_s] at hF
      refine lv_iload_n hx hb dX12_tripOf_2 rfl (lv_at hl 2 rfl) ?_
      refine lv_bipush (v := 120) hx hb dX12_tripOf_3 (by decide) ?_
      refine lv_icmp_gt (tgt := 39) hx hb dX12_tripOf_5 (by decide) (fun c_8 => ?_) (fun c_8 => ?_)
      · have hF := zi_pos c_8 hF
        have e_0 := zo1 hF
        subst e_0
        exact hexit_2 _ _ rfl _ _ _ hP hD hS (lv_sub hl [0, 1, 2] rfl)
      · have hF := zi_neg c_8 hF
        refine lv_aload_n hx hb dX12_tripOf_8 rfl (lv_at hl 0 rfl) ?_
        refine lv_aload_n hx hb dX12_tripOf_9 rfl (lv_at hl 0 rfl) ?_
        refine va_get (D := D) (ci := 12) (v := .ref m_a_now) (C := RX12) (T := TX12) (N := 23) hx hb ht iyX12 hown hK hP 0 rfl rfl 6 (by decide) (ht _ wf_X12_22) (fun _ h9 => h9) rfl dX12_tripOf_10 ?_
        refine lv_iconst (v := 0) hx hb dX12_tripOf_13 (by decide) ?_
        obtain ⟨r_9, m_now_10, hc_11, hF⟩ := zb2_s hF
        refine zcv_i (ws1 := [(m_a, .inr (12, [.ref m_a_letters, .int m_length, .int m_jumpers, .ref m_a_period, .ref m_a_hang, .ref m_a_st, .ref m_a_now, .ref m_a_book, .int m_undos, .ref m_a_images, .ref m_a_isKept, .int m_seen, .ref m_a_seenHang, .ref m_a_seenTick, .ref m_a_seenUp, .long m_trail, .int m_place, .int m_wrong, .int m_items, .int m_saidEvery, .int m_readEvery, .int m_readJumpers, .ref m_a_readOne])), (m_a_period, .inl (cI, 6, .inl m_period)), (m_a_hang, .inl (cI, 6, .inl m_hang)), (m_a_now, .inl (cI, 22, .inl m_now_10))]) S hT lk_X12_123 (c_X12_tickOn l D cI cZ cS cJ m_a m_a_letters m_a_period m_a_hang m_a_st m_a_now m_a_book m_a_images m_a_isKept m_a_seenHang m_a_seenTick m_a_seenUp m_a_readOne m_a_now m_length m_jumpers m_undos m_seen m_trail m_place m_wrong m_items m_saidEvery m_readEvery m_readJumpers m_period m_hang m_now 0 hc_11) ⟨rfl, rfl, Nat.le_of_ble_eq_true rfl, Nat.le_of_ble_eq_true rfl⟩ hK hP hD hS hA [0, 1, 2, 3] [] [0, 1, 2, 3] rfl rfl rfl rfl rfl rfl rfl rfl rfl rfl rfl hl.1 rfl (Nat.le_of_ble_eq_true rfl) dX12_tripOf_14 ⟨Nat.zero_le _, Nat.zero_le _⟩ (fun H locs hP hD hS => ?_)
        refine lv_pop hx hb dX12_tripOf_17 rfl ?_
        refine lv_aload_n hx hb dX12_tripOf_18 rfl (lv_at hl 0 rfl) ?_
        refine va_get (D := D) (ci := 12) (v := .ref m_a_now) (C := RX12) (T := TX12) (N := 23) hx hb ht iyX12 hown hK hP 0 rfl rfl 6 (by decide) (ht _ wf_X12_22) (fun _ h9 => h9) rfl dX12_tripOf_19 ?_
        refine lv_iconst (v := 3) hx hb dX12_tripOf_22 (by decide) ?_
        refine va_iald hx hb hK hP 3 0 rfl rfl (show ¬ ((3 : Int32) < 0 ∨ 22 ≤ (3 : Int32).toNatClampNeg) by decide) dX12_tripOf_23 ?_
        refine lv_iload_n hx hb dX12_tripOf_24 rfl (lv_at hl 1 rfl) ?_
        obtain ⟨r_12, hc_13, hF⟩ := zb1_s hF
        refine zcs_i (ws1 := [(m_a, .inr (12, [.ref m_a_letters, .int m_length, .int m_jumpers, .ref m_a_period, .ref m_a_hang, .ref m_a_st, .ref m_a_now, .ref m_a_book, .int m_undos, .ref m_a_images, .ref m_a_isKept, .int m_seen, .ref m_a_seenHang, .ref m_a_seenTick, .ref m_a_seenUp, .long m_trail, .int m_place, .int m_wrong, .int m_items, .int m_saidEvery, .int m_readEvery, .int m_readJumpers, .ref m_a_readOne])), (m_a_period, .inl (cI, 6, .inl m_period)), (m_a_hang, .inl (cI, 6, .inl m_hang)), (m_a_now, .inl (cI, 22, .inl m_now_10))]) S hT lk_X12_107 (c_X12_has l D cI cZ cS cJ (m_now_10 (3 : Int32).toNatClampNeg) v1 hc_13) ⟨rfl, rfl, Nat.le_of_ble_eq_true rfl, Nat.le_of_ble_eq_true rfl⟩ hK hP hD hS hA [] [0, 1, 2, 3] [0, 1, 2, 3] rfl rfl rfl rfl rfl rfl rfl rfl hl.1 rfl (Nat.le_of_ble_eq_true rfl) dX12_tripOf_25 ⟨Nat.zero_le _, Nat.zero_le _⟩ (fun H locs hP hD hS => ?_)
        refine lv_if_ne (tgt := 33) hx hb dX12_tripOf_28 (by decide) (fun c_14 => ?_) (fun c_14 => ?_)
        · have hF := zi_neg c_14 hF
          refine lv_iinc (v := v2 + 1) (lv' := [(2, .int (v2 + 1)), (0, .ref m_a), (1, .int v1)]) hx hb dX12_tripOf_33 hl (k := 2) rfl (by rfl) (by decide) rfl (fun ls hl => ?_)
          refine lv_goto (tgt := 2) hx hb dX12_tripOf_36 (by decide) ?_
          exact ih_2 m_length m_jumpers m_undos m_seen m_trail m_place m_wrong m_items m_saidEvery m_readEvery m_readJumpers m_period m_hang m_now_10 v1 (v2 + 1) _ hF hret _ _ _ hP hD hS (lv_sub hl [1, 2, 0] rfl) hexit_2
        · have hF := zi_pos c_14 hF
          refine lv_iload_n hx hb dX12_tripOf_31 rfl (lv_at hl 2 rfl) ?_
          obtain ⟨e_0, e_1⟩ := zo2 (congrArg some (hret _ (Option.some.inj hF).symm))
          subst e_0
          subst e_1
          exact zret_i S hr hlocks hK hP hD hS dX12_tripOf_32
  refine lv_iconst (v := 1) hx hb dX12_tripOf_0 (by decide) ?_
  refine lv_istore_n (lv' := [(2, .int 1), (0, .ref m_a), (1, .int p1)]) hx hb dX12_tripOf_1 rfl hl (by decide) rfl (fun ls hl => ?_)
  rcases zs2_s hF with ⟨m_now_15, v2_16, hL_17, hF⟩ | hL_17
  rotate_left
  · exact hloop_2 300 m_length m_jumpers m_undos m_seen m_trail m_place m_wrong m_items m_saidEvery m_readEvery m_readJumpers m_period m_hang m_now p1 1 _ hL_17 (fun o ho => (Sum.inr.inj ho).symm) _ _ _ hP hD hS (lv_sub hl [1, 2, 0] rfl) (fun m_now_15 v2_16 ho => nomatch ho)
  refine hloop_2 300 m_length m_jumpers m_undos m_seen m_trail m_place m_wrong m_items m_saidEvery m_readEvery m_readJumpers m_period m_hang m_now p1 1 _ hL_17 (fun o ho => nomatch ho) _ _ _ hP hD hS (lv_sub hl [1, 2, 0] rfl) (fun m_now_15' v2_16' ho H locs ls hP hD hS hl => ?_)
  obtain ⟨rfl, rfl⟩ : m_now_15 = m_now_15' ∧ v2_16 = v2_16' := by cases ho; exact ⟨rfl, rfl⟩
  refine lv_bipush (v := (-9)) hx hb dX12_tripOf_39 (by decide) ?_
  obtain ⟨e_0, e_1⟩ := zo2 hF
  subst e_0
  subst e_1
  exact zret_i S hr hlocks hK hP hD hS dX12_tripOf_41

theorem lk_X12_127 : zLk RX12 127 yX12_isJumper cX12_isJumper 2 (some .boolean) 1 := ⟨⟨wm_X12_127, wo_X12_isJumper, we_X12_X12_isJumper, wi_X12, wd_X12_isJumper⟩, by decide, by decide, by decide +kernel⟩
theorem lk_X12_130 : zLk RX12 130 yX12_asItIs cX12_asItIs 1 none 0 := ⟨⟨wm_X12_130, wo_X12_asItIs, we_X12_X12_asItIs, wi_X12, wd_X12_asItIs⟩, by decide, by decide, by decide +kernel⟩
theorem lk_X12_133 : zLk RX12 133 yX12_tripOf cX12_tripOf 3 (some .int) 1 := ⟨⟨wm_X12_133, wo_X12_tripOf, we_X12_X12_tripOf, wi_X12, wd_X12_tripOf⟩, by decide, by decide, by decide +kernel⟩
def F_X12_jumper (m_jumpers : Int32) (m_period : Nat → Int32) (m_hang : Nat → Int32) (m_st : Nat → Int32) (m_now : Nat → Int32) (p1 : Int32) (p2 : Int32) : Option (Int32 × (Nat → Int32)) :=
  (zb1 (F_X12_isJumper m_jumpers p1) (fun r_1 => (if r_1 = 0 then some ((-1), m_now) else (zb1 (F_X12_has (m_st (3 : Int32).toNatClampNeg) p1) (fun r_4 => (if p2 = 0 then (if (p1 < 0 ∨ 6 ≤ p1.toNatClampNeg) then none else some (m_period p1.toNatClampNeg, m_now)) else (if p2 = 1 then (if (p1 < 0 ∨ 6 ≤ p1.toNatClampNeg) then none else some (m_hang p1.toNatClampNeg, m_now)) else (if p2 = 2 then (if ((16 + p1) < 0 ∨ 22 ≤ (16 + p1).toNatClampNeg) then none else some (m_st (16 + p1).toNatClampNeg, m_now)) else (if p2 = 3 then (if r_4 = 0 then some (0, m_now) else some (1, m_now)) else (if p2 = 4 then (if ((4 + p1) < 0 ∨ 22 ≤ (4 + p1).toNatClampNeg) then none else some (m_st (4 + p1).toNatClampNeg, m_now)) else (if p2 = 5 then (if r_4 = 0 then some ((-9), m_now) else (if ((10 + p1) < 0 ∨ 22 ≤ (10 + p1).toNatClampNeg) then none else some (m_st (10 + p1).toNatClampNeg, m_now))) else (if p2 = 6 then (zb1 (F_X12_asItIs m_st m_now) (fun m_now_20 => (if r_4 = 0 then some ((-9), m_now_20) else (zb2 (F_X12_tripOf m_jumpers m_period m_hang m_now_20 p1) (fun r_23 m_now_24 => some (r_23, m_now_24)))))) else some ((-1), m_now)))))))))))))
set_option maxHeartbeats 4000000 in
set_option maxRecDepth 100000 in
theorem c_X12_jumper (l : Launch) (D : va_G) (cI cZ cS cJ : ClassId) (m_a : Nat) (m_a_letters : Nat) (m_a_period : Nat) (m_a_hang : Nat) (m_a_st : Nat) (m_a_now : Nat) (m_a_book : Nat) (m_a_images : Nat) (m_a_isKept : Nat) (m_a_seenHang : Nat) (m_a_seenTick : Nat) (m_a_seenUp : Nat) (m_a_readOne : Nat) (m_length : Int32) (m_jumpers : Int32) (m_undos : Int32) (m_seen : Int32) (m_trail : Int64) (m_place : Int32) (m_wrong : Int32) (m_items : Int32) (m_saidEvery : Int32) (m_readEvery : Int32) (m_readJumpers : Int32) (m_period : Nat → Int32) (m_hang : Nat → Int32) (m_st : Nat → Int32) (m_now : Nat → Int32) (p1 : Int32) (p2 : Int32) {r_o : Int32} {m_now_o : Nat → Int32} (hF : F_X12_jumper m_jumpers m_period m_hang m_st m_now p1 p2 = some (r_o, m_now_o)) : zMi l yX12_jumper (zwl yX12_jumper cX12_jumper 4 (some .int)) { frames := 3, cells := 0, slots := 0, locals := 69 } D (TYS cI cZ cS cJ) [.ref m_a, .int p1, .int p2] [(m_a, .inr (12, [.ref m_a_letters, .int m_length, .int m_jumpers, .ref m_a_period, .ref m_a_hang, .ref m_a_st, .ref m_a_now, .ref m_a_book, .int m_undos, .ref m_a_images, .ref m_a_isKept, .int m_seen, .ref m_a_seenHang, .ref m_a_seenTick, .ref m_a_seenUp, .long m_trail, .int m_place, .int m_wrong, .int m_items, .int m_saidEvery, .int m_readEvery, .int m_readJumpers, .ref m_a_readOne])), (m_a_period, .inl (cI, 6, .inl m_period)), (m_a_hang, .inl (cI, 6, .inl m_hang)), (m_a_st, .inl (cI, 22, .inl m_st)), (m_a_now, .inl (cI, 22, .inl m_now))] [(m_a, .inr (12, [.ref m_a_letters, .int m_length, .int m_jumpers, .ref m_a_period, .ref m_a_hang, .ref m_a_st, .ref m_a_now, .ref m_a_book, .int m_undos, .ref m_a_images, .ref m_a_isKept, .int m_seen, .ref m_a_seenHang, .ref m_a_seenTick, .ref m_a_seenUp, .long m_trail, .int m_place, .int m_wrong, .int m_items, .int m_saidEvery, .int m_readEvery, .int m_readJumpers, .ref m_a_readOne])), (m_a_period, .inl (cI, 6, .inl m_period)), (m_a_hang, .inl (cI, 6, .inl m_hang)), (m_a_st, .inl (cI, 22, .inl m_st)), (m_a_now, .inl (cI, 22, .inl m_now_o))] r_o := by
  refine zent_i (own := RX12) (by decide) rfl (Nat.le_of_ble_eq_true rfl) ?_
  intro p e s m below meth c A ls S hr hlocks hK hP hD hA hl
  have hx := S.1
  have hb := S.2.1
  have hml := S.2.2.1
  have hown := S.2.2.2.1
  have hT : ∀ w ∈ zt, w ∈ zwl yX12_jumper cX12_jumper 4 (some .int) := fun _ h => List.mem_cons_of_mem _ h
  have ht : ∀ w ∈ zt, w.before [.ref m_a, .int p1, .int p2].toArray s = true := fun w h => S.2.2.2.2 w (hT w h)
  have hl : lv_has ls 4 [(0, .ref m_a), (1, .int p1), (2, .int p2)] := hl
  have hS : va_S A s.heap s.heap [] := va_S.rf
  unfold F_X12_jumper at hF
  refine lv_aload_n hx hb dX12_jumper_0 rfl (lv_at hl 0 rfl) ?_
  refine lv_iload_n hx hb dX12_jumper_1 rfl (lv_at hl 1 rfl) ?_
  obtain ⟨r_1, hc_2, hF⟩ := zb1_s hF
  refine zcv_i (ws1 := [(m_a, .inr (12, [.ref m_a_letters, .int m_length, .int m_jumpers, .ref m_a_period, .ref m_a_hang, .ref m_a_st, .ref m_a_now, .ref m_a_book, .int m_undos, .ref m_a_images, .ref m_a_isKept, .int m_seen, .ref m_a_seenHang, .ref m_a_seenTick, .ref m_a_seenUp, .long m_trail, .int m_place, .int m_wrong, .int m_items, .int m_saidEvery, .int m_readEvery, .int m_readJumpers, .ref m_a_readOne])), (m_a_period, .inl (cI, 6, .inl m_period)), (m_a_hang, .inl (cI, 6, .inl m_hang)), (m_a_st, .inl (cI, 22, .inl m_st)), (m_a_now, .inl (cI, 22, .inl m_now))]) S hT lk_X12_127 (c_X12_isJumper l D cI cZ cS cJ m_a m_a_letters m_a_period m_a_hang m_a_st m_a_now m_a_book m_a_images m_a_isKept m_a_seenHang m_a_seenTick m_a_seenUp m_a_readOne m_length m_jumpers m_undos m_seen m_trail m_place m_wrong m_items m_saidEvery m_readEvery m_readJumpers p1 hc_2) ⟨rfl, rfl, Nat.le_of_ble_eq_true rfl, Nat.le_of_ble_eq_true rfl⟩ hK hP hD hS hA [0] [1, 2, 3, 4] [4, 0, 1, 2, 3] rfl rfl rfl rfl rfl rfl rfl rfl rfl rfl rfl hl.1 rfl (Nat.le_of_ble_eq_true rfl) dX12_jumper_2 ⟨Nat.zero_le _, Nat.zero_le _⟩ (fun H locs hP hD hS => ?_)
  refine lv_if_ne (tgt := 10) hx hb dX12_jumper_5 (by decide) (fun c_3 => ?_) (fun c_3 => ?_)
  · have hF := zi_neg c_3 hF
    refine lv_aload_n hx hb dX12_jumper_10 rfl (lv_at hl 0 rfl) ?_
    refine va_get (D := D) (ci := 12) (v := .ref m_a_st) (C := RX12) (T := TX12) (N := 23) hx hb ht iyX12 hown hK hP 0 rfl rfl 5 (by decide) (ht _ wf_X12_19) (fun _ h9 => h9) rfl dX12_jumper_11 ?_
    refine lv_iconst (v := 3) hx hb dX12_jumper_14 (by decide) ?_
    refine va_iald hx hb hK hP 3 0 rfl rfl (show ¬ ((3 : Int32) < 0 ∨ 22 ≤ (3 : Int32).toNatClampNeg) by decide) dX12_jumper_15 ?_
    refine lv_iload_n hx hb dX12_jumper_16 rfl (lv_at hl 1 rfl) ?_
    obtain ⟨r_4, hc_5, hF⟩ := zb1_s hF
    refine zcs_i (ws1 := [(m_a, .inr (12, [.ref m_a_letters, .int m_length, .int m_jumpers, .ref m_a_period, .ref m_a_hang, .ref m_a_st, .ref m_a_now, .ref m_a_book, .int m_undos, .ref m_a_images, .ref m_a_isKept, .int m_seen, .ref m_a_seenHang, .ref m_a_seenTick, .ref m_a_seenUp, .long m_trail, .int m_place, .int m_wrong, .int m_items, .int m_saidEvery, .int m_readEvery, .int m_readJumpers, .ref m_a_readOne])), (m_a_period, .inl (cI, 6, .inl m_period)), (m_a_hang, .inl (cI, 6, .inl m_hang)), (m_a_st, .inl (cI, 22, .inl m_st)), (m_a_now, .inl (cI, 22, .inl m_now))]) S hT lk_X12_107 (c_X12_has l D cI cZ cS cJ (m_st (3 : Int32).toNatClampNeg) p1 hc_5) ⟨rfl, rfl, Nat.le_of_ble_eq_true rfl, Nat.le_of_ble_eq_true rfl⟩ hK hP hD hS hA [] [0, 1, 2, 3, 4] [0, 1, 2, 3, 4] rfl rfl rfl rfl rfl rfl rfl rfl hl.1 rfl (Nat.le_of_ble_eq_true rfl) dX12_jumper_17 ⟨Nat.zero_le _, Nat.zero_le _⟩ (fun H locs hP hD hS => ?_)
    refine lv_istore_n (lv' := [(3, .int r_4), (0, .ref m_a), (1, .int p1), (2, .int p2)]) hx hb dX12_jumper_20 rfl hl (by decide) rfl (fun ls hl => ?_)
    refine lv_iload_n hx hb dX12_jumper_21 rfl (lv_at hl 3 rfl) ?_
    by_cases c_6 : p2 = 0
    · have hF := zi_pos c_6 hF
      refine lv_tableIn (tgt := 64) hx hb dX12_jumper_22 (by rw [c_6]; decide) (by rw [c_6]; decide) (by rw [c_6]; rfl) (by decide) ?_
      refine lv_aload_n hx hb dX12_jumper_64 rfl (lv_at hl 1 rfl) ?_
      refine va_get (D := D) (ci := 12) (v := .ref m_a_period) (C := RX12) (T := TX12) (N := 23) hx hb ht iyX12 hown hK hP 0 rfl rfl 3 (by decide) (ht _ wf_X12_13) (fun _ h9 => h9) rfl dX12_jumper_65 ?_
      refine lv_iload_n hx hb dX12_jumper_68 rfl (lv_at hl 2 rfl) ?_
      obtain ⟨h_7, hF⟩ := zi_chk hF
      refine va_iald hx hb hK hP 1 0 rfl rfl h_7 dX12_jumper_69 ?_
      obtain ⟨e_0, e_1⟩ := zo2 hF
      subst e_0
      subst e_1
      exact zret_i S hr hlocks hK hP hD hS dX12_jumper_70
    have hF := zi_neg c_6 hF
    by_cases c_8 : p2 = 1
    · have hF := zi_pos c_8 hF
      refine lv_tableIn (tgt := 71) hx hb dX12_jumper_22 (by rw [c_8]; decide) (by rw [c_8]; decide) (by rw [c_8]; rfl) (by decide) ?_
      refine lv_aload_n hx hb dX12_jumper_71 rfl (lv_at hl 1 rfl) ?_
      refine va_get (D := D) (ci := 12) (v := .ref m_a_hang) (C := RX12) (T := TX12) (N := 23) hx hb ht iyX12 hown hK hP 0 rfl rfl 4 (by decide) (ht _ wf_X12_16) (fun _ h9 => h9) rfl dX12_jumper_72 ?_
      refine lv_iload_n hx hb dX12_jumper_75 rfl (lv_at hl 2 rfl) ?_
      obtain ⟨h_9, hF⟩ := zi_chk hF
      refine va_iald hx hb hK hP 2 0 rfl rfl h_9 dX12_jumper_76 ?_
      obtain ⟨e_0, e_1⟩ := zo2 hF
      subst e_0
      subst e_1
      exact zret_i S hr hlocks hK hP hD hS dX12_jumper_77
    have hF := zi_neg c_8 hF
    by_cases c_10 : p2 = 2
    · have hF := zi_pos c_10 hF
      refine lv_tableIn (tgt := 78) hx hb dX12_jumper_22 (by rw [c_10]; decide) (by rw [c_10]; decide) (by rw [c_10]; rfl) (by decide) ?_
      refine lv_aload_n hx hb dX12_jumper_78 rfl (lv_at hl 1 rfl) ?_
      refine va_get (D := D) (ci := 12) (v := .ref m_a_st) (C := RX12) (T := TX12) (N := 23) hx hb ht iyX12 hown hK hP 0 rfl rfl 5 (by decide) (ht _ wf_X12_19) (fun _ h9 => h9) rfl dX12_jumper_79 ?_
      refine lv_bipush (v := 16) hx hb dX12_jumper_82 (by decide) ?_
      refine lv_iload_n hx hb dX12_jumper_84 rfl (lv_at hl 2 rfl) ?_
      refine lv_iadd hx hb dX12_jumper_85 ?_
      obtain ⟨h_11, hF⟩ := zi_chk hF
      refine va_iald hx hb hK hP 3 0 rfl rfl h_11 dX12_jumper_86 ?_
      obtain ⟨e_0, e_1⟩ := zo2 hF
      subst e_0
      subst e_1
      exact zret_i S hr hlocks hK hP hD hS dX12_jumper_87
    have hF := zi_neg c_10 hF
    by_cases c_12 : p2 = 3
    · have hF := zi_pos c_12 hF
      refine lv_tableIn (tgt := 88) hx hb dX12_jumper_22 (by rw [c_12]; decide) (by rw [c_12]; decide) (by rw [c_12]; rfl) (by decide) ?_
      refine lv_iload_n hx hb dX12_jumper_88 rfl (lv_at hl 0 rfl) ?_
      refine lv_if_eq (tgt := 96) hx hb dX12_jumper_89 (by decide) (fun c_13 => ?_) (fun c_13 => ?_)
      · have hF := zi_pos c_13 hF
        refine lv_iconst (v := 0) hx hb dX12_jumper_96 (by decide) ?_
        obtain ⟨e_0, e_1⟩ := zo2 hF
        subst e_0
        subst e_1
        exact zret_i S hr hlocks hK hP hD hS dX12_jumper_97
      · have hF := zi_neg c_13 hF
        refine lv_iconst (v := 1) hx hb dX12_jumper_92 (by decide) ?_
        refine lv_goto (tgt := 97) hx hb dX12_jumper_93 (by decide) ?_
        obtain ⟨e_0, e_1⟩ := zo2 hF
        subst e_0
        subst e_1
        exact zret_i S hr hlocks hK hP hD hS dX12_jumper_97
    have hF := zi_neg c_12 hF
    by_cases c_14 : p2 = 4
    · have hF := zi_pos c_14 hF
      refine lv_tableIn (tgt := 98) hx hb dX12_jumper_22 (by rw [c_14]; decide) (by rw [c_14]; decide) (by rw [c_14]; rfl) (by decide) ?_
      refine lv_aload_n hx hb dX12_jumper_98 rfl (lv_at hl 1 rfl) ?_
      refine va_get (D := D) (ci := 12) (v := .ref m_a_st) (C := RX12) (T := TX12) (N := 23) hx hb ht iyX12 hown hK hP 0 rfl rfl 5 (by decide) (ht _ wf_X12_19) (fun _ h9 => h9) rfl dX12_jumper_99 ?_
      refine lv_iconst (v := 4) hx hb dX12_jumper_102 (by decide) ?_
      refine lv_iload_n hx hb dX12_jumper_103 rfl (lv_at hl 2 rfl) ?_
      refine lv_iadd hx hb dX12_jumper_104 ?_
      obtain ⟨h_15, hF⟩ := zi_chk hF
      refine va_iald hx hb hK hP 3 0 rfl rfl h_15 dX12_jumper_105 ?_
      obtain ⟨e_0, e_1⟩ := zo2 hF
      subst e_0
      subst e_1
      exact zret_i S hr hlocks hK hP hD hS dX12_jumper_106
    have hF := zi_neg c_14 hF
    by_cases c_16 : p2 = 5
    · have hF := zi_pos c_16 hF
      refine lv_tableIn (tgt := 107) hx hb dX12_jumper_22 (by rw [c_16]; decide) (by rw [c_16]; decide) (by rw [c_16]; rfl) (by decide) ?_
      refine lv_iload_n hx hb dX12_jumper_107 rfl (lv_at hl 0 rfl) ?_
      refine lv_if_eq (tgt := 123) hx hb dX12_jumper_108 (by decide) (fun c_17 => ?_) (fun c_17 => ?_)
      · have hF := zi_pos c_17 hF
        refine lv_bipush (v := (-9)) hx hb dX12_jumper_123 (by decide) ?_
        obtain ⟨e_0, e_1⟩ := zo2 hF
        subst e_0
        subst e_1
        exact zret_i S hr hlocks hK hP hD hS dX12_jumper_125
      · have hF := zi_neg c_17 hF
        refine lv_aload_n hx hb dX12_jumper_111 rfl (lv_at hl 1 rfl) ?_
        refine va_get (D := D) (ci := 12) (v := .ref m_a_st) (C := RX12) (T := TX12) (N := 23) hx hb ht iyX12 hown hK hP 0 rfl rfl 5 (by decide) (ht _ wf_X12_19) (fun _ h9 => h9) rfl dX12_jumper_112 ?_
        refine lv_bipush (v := 10) hx hb dX12_jumper_115 (by decide) ?_
        refine lv_iload_n hx hb dX12_jumper_117 rfl (lv_at hl 2 rfl) ?_
        refine lv_iadd hx hb dX12_jumper_118 ?_
        obtain ⟨h_18, hF⟩ := zi_chk hF
        refine va_iald hx hb hK hP 3 0 rfl rfl h_18 dX12_jumper_119 ?_
        refine lv_goto (tgt := 125) hx hb dX12_jumper_120 (by decide) ?_
        obtain ⟨e_0, e_1⟩ := zo2 hF
        subst e_0
        subst e_1
        exact zret_i S hr hlocks hK hP hD hS dX12_jumper_125
    have hF := zi_neg c_16 hF
    by_cases c_19 : p2 = 6
    · have hF := zi_pos c_19 hF
      refine lv_tableIn (tgt := 126) hx hb dX12_jumper_22 (by rw [c_19]; decide) (by rw [c_19]; decide) (by rw [c_19]; rfl) (by decide) ?_
      refine lv_aload_n hx hb dX12_jumper_126 rfl (lv_at hl 1 rfl) ?_
      obtain ⟨m_now_20, hc_21, hF⟩ := zb1_s hF
      refine zcv_v (ws1 := [(m_a, .inr (12, [.ref m_a_letters, .int m_length, .int m_jumpers, .ref m_a_period, .ref m_a_hang, .ref m_a_st, .ref m_a_now, .ref m_a_book, .int m_undos, .ref m_a_images, .ref m_a_isKept, .int m_seen, .ref m_a_seenHang, .ref m_a_seenTick, .ref m_a_seenUp, .long m_trail, .int m_place, .int m_wrong, .int m_items, .int m_saidEvery, .int m_readEvery, .int m_readJumpers, .ref m_a_readOne])), (m_a_period, .inl (cI, 6, .inl m_period)), (m_a_hang, .inl (cI, 6, .inl m_hang)), (m_a_st, .inl (cI, 22, .inl m_st)), (m_a_now, .inl (cI, 22, .inl m_now_20))]) S hT lk_X12_130 (c_X12_asItIs l D cI cZ cS cJ m_a m_a_letters m_a_period m_a_hang m_a_st m_a_now m_a_book m_a_images m_a_isKept m_a_seenHang m_a_seenTick m_a_seenUp m_a_readOne m_length m_jumpers m_undos m_seen m_trail m_place m_wrong m_items m_saidEvery m_readEvery m_readJumpers m_st m_now hc_21) ⟨rfl, rfl, Nat.le_of_ble_eq_true rfl, Nat.le_of_ble_eq_true rfl⟩ hK hP hD hS hA [0, 3, 4] [1, 2] [2, 0, 1, 3, 4] rfl rfl rfl rfl rfl rfl rfl rfl rfl rfl rfl hl.1 rfl (Nat.le_of_ble_eq_true rfl) dX12_jumper_127 ⟨Nat.zero_le _, Nat.zero_le _⟩ (fun H locs hP hD hS => ?_)
      refine lv_iload_n hx hb dX12_jumper_130 rfl (lv_at hl 0 rfl) ?_
      refine lv_if_eq (tgt := 142) hx hb dX12_jumper_131 (by decide) (fun c_22 => ?_) (fun c_22 => ?_)
      · have hF := zi_pos c_22 hF
        refine lv_bipush (v := (-9)) hx hb dX12_jumper_142 (by decide) ?_
        obtain ⟨e_0, e_1⟩ := zo2 hF
        subst e_0
        subst e_1
        exact zret_i S hr hlocks hK hP hD hS dX12_jumper_144
      · have hF := zi_neg c_22 hF
        refine lv_aload_n hx hb dX12_jumper_134 rfl (lv_at hl 1 rfl) ?_
        refine lv_iload_n hx hb dX12_jumper_135 rfl (lv_at hl 2 rfl) ?_
        obtain ⟨r_23, m_now_24, hc_25, hF⟩ := zb2_s hF
        refine zcv_i (ws1 := [(m_a, .inr (12, [.ref m_a_letters, .int m_length, .int m_jumpers, .ref m_a_period, .ref m_a_hang, .ref m_a_st, .ref m_a_now, .ref m_a_book, .int m_undos, .ref m_a_images, .ref m_a_isKept, .int m_seen, .ref m_a_seenHang, .ref m_a_seenTick, .ref m_a_seenUp, .long m_trail, .int m_place, .int m_wrong, .int m_items, .int m_saidEvery, .int m_readEvery, .int m_readJumpers, .ref m_a_readOne])), (m_a_period, .inl (cI, 6, .inl m_period)), (m_a_hang, .inl (cI, 6, .inl m_hang)), (m_a_st, .inl (cI, 22, .inl m_st)), (m_a_now, .inl (cI, 22, .inl m_now_24))]) S hT lk_X12_133 (c_X12_tripOf l D cI cZ cS cJ m_a m_a_letters m_a_period m_a_hang m_a_st m_a_now m_a_book m_a_images m_a_isKept m_a_seenHang m_a_seenTick m_a_seenUp m_a_readOne m_length m_jumpers m_undos m_seen m_trail m_place m_wrong m_items m_saidEvery m_readEvery m_readJumpers m_period m_hang m_now_20 p1 hc_25) ⟨rfl, rfl, Nat.le_of_ble_eq_true rfl, Nat.le_of_ble_eq_true rfl⟩ hK hP hD hS hA [0, 1, 2, 4] [3] [1, 2, 3, 0, 4] rfl rfl rfl rfl rfl rfl rfl rfl rfl rfl rfl hl.1 rfl (Nat.le_of_ble_eq_true rfl) dX12_jumper_136 ⟨Nat.zero_le _, Nat.zero_le _⟩ (fun H locs hP hD hS => ?_)
        refine lv_goto (tgt := 144) hx hb dX12_jumper_139 (by decide) ?_
        obtain ⟨e_0, e_1⟩ := zo2 hF
        subst e_0
        subst e_1
        exact zret_i S hr hlocks hK hP hD hS dX12_jumper_144
    have hF := zi_neg c_19 hF
    have hto : p2.toInt < 0 ∨ 6 < p2.toInt := by
      have zc_6 := lv_neT c_6 (a := 0) (by decide)
      have zc_8 := lv_neT c_8 (a := 1) (by decide)
      have zc_10 := lv_neT c_10 (a := 2) (by decide)
      have zc_12 := lv_neT c_12 (a := 3) (by decide)
      have zc_14 := lv_neT c_14 (a := 4) (by decide)
      have zc_16 := lv_neT c_16 (a := 5) (by decide)
      have zc_19 := lv_neT c_19 (a := 6) (by decide)
      omega
    refine lv_tableOut (tgt := 145) hx hb dX12_jumper_22 hto (by decide) ?_
    refine lv_iconst (v := (-1)) hx hb dX12_jumper_145 (by decide) ?_
    obtain ⟨e_0, e_1⟩ := zo2 hF
    subst e_0
    subst e_1
    exact zret_i S hr hlocks hK hP hD hS dX12_jumper_146
  · have hF := zi_pos c_3 hF
    refine lv_iconst (v := (-1)) hx hb dX12_jumper_8 (by decide) ?_
    obtain ⟨e_0, e_1⟩ := zo2 hF
    subst e_0
    subst e_1
    exact zret_i S hr hlocks hK hP hD hS dX12_jumper_9

def L_X12_firstOf_6 (m_jumpers : Int32) (m_period : Nat → Int32) (m_hang : Nat → Int32) (v1 : Int32) : Nat → (Nat → Int32) → Int32 → Option (((Nat → Int32) × Int32) ⊕ (Int32 × (Nat → Int32)))
  | 0 => fun _ _ => none
  | n + 1 => fun m_now v2 => (if 120 < v2 then some (.inl (m_now, v2)) else (zb2 (F_X12_tickOn m_jumpers m_period m_hang m_now 0) (fun r_10 m_now_11 => (if r_10 = 0 then (L_X12_firstOf_6 m_jumpers m_period m_hang v1 n m_now_11 (v2 + 1)) else (if v1 = 4 then some (.inr (v2, m_now_11)) else some (.inr (r_10, m_now_11)))))))
theorem L_X12_firstOf_6_z (m_jumpers : Int32) (m_period : Nat → Int32) (m_hang : Nat → Int32) (v1 : Int32) (m_now : Nat → Int32) (v2 : Int32) : L_X12_firstOf_6 m_jumpers m_period m_hang v1 0 m_now v2 = none := rfl
theorem L_X12_firstOf_6_s (m_jumpers : Int32) (m_period : Nat → Int32) (m_hang : Nat → Int32) (v1 : Int32) (n : Nat) (m_now : Nat → Int32) (v2 : Int32) : L_X12_firstOf_6 m_jumpers m_period m_hang v1 (n + 1) m_now v2 = (if 120 < v2 then some (.inl (m_now, v2)) else (zb2 (F_X12_tickOn m_jumpers m_period m_hang m_now 0) (fun r_10 m_now_11 => (if r_10 = 0 then (L_X12_firstOf_6 m_jumpers m_period m_hang v1 n m_now_11 (v2 + 1)) else (if v1 = 4 then some (.inr (v2, m_now_11)) else some (.inr (r_10, m_now_11))))))) := rfl
def F_X12_firstOf (m_jumpers : Int32) (m_period : Nat → Int32) (m_hang : Nat → Int32) (m_st : Nat → Int32) (m_now : Nat → Int32) (p1 : Int32) : Option (Int32 × (Nat → Int32)) :=
  (zb1 (F_X12_asItIs m_st m_now) (fun m_now_1 => (zs2 (L_X12_firstOf_6 m_jumpers m_period m_hang p1 300 m_now_1 1) (fun m_now_15 v2_16 => (if p1 = 4 then some ((-9), m_now_15) else some (0, m_now_15))))))
set_option maxHeartbeats 4000000 in
set_option maxRecDepth 100000 in
theorem c_X12_firstOf (l : Launch) (D : va_G) (cI cZ cS cJ : ClassId) (m_a : Nat) (m_a_letters : Nat) (m_a_period : Nat) (m_a_hang : Nat) (m_a_st : Nat) (m_a_now : Nat) (m_a_book : Nat) (m_a_images : Nat) (m_a_isKept : Nat) (m_a_seenHang : Nat) (m_a_seenTick : Nat) (m_a_seenUp : Nat) (m_a_readOne : Nat) (m_length : Int32) (m_jumpers : Int32) (m_undos : Int32) (m_seen : Int32) (m_trail : Int64) (m_place : Int32) (m_wrong : Int32) (m_items : Int32) (m_saidEvery : Int32) (m_readEvery : Int32) (m_readJumpers : Int32) (m_period : Nat → Int32) (m_hang : Nat → Int32) (m_st : Nat → Int32) (m_now : Nat → Int32) (p1 : Int32) {r_o : Int32} {m_now_o : Nat → Int32} (hF : F_X12_firstOf m_jumpers m_period m_hang m_st m_now p1 = some (r_o, m_now_o)) : zMi l yX12_firstOf (zwl yX12_firstOf cX12_firstOf 4 (some .int)) { frames := 2, cells := 0, slots := 0, locals := 47 } D (TYS cI cZ cS cJ) [.ref m_a, .int p1] [(m_a, .inr (12, [.ref m_a_letters, .int m_length, .int m_jumpers, .ref m_a_period, .ref m_a_hang, .ref m_a_st, .ref m_a_now, .ref m_a_book, .int m_undos, .ref m_a_images, .ref m_a_isKept, .int m_seen, .ref m_a_seenHang, .ref m_a_seenTick, .ref m_a_seenUp, .long m_trail, .int m_place, .int m_wrong, .int m_items, .int m_saidEvery, .int m_readEvery, .int m_readJumpers, .ref m_a_readOne])), (m_a_period, .inl (cI, 6, .inl m_period)), (m_a_hang, .inl (cI, 6, .inl m_hang)), (m_a_st, .inl (cI, 22, .inl m_st)), (m_a_now, .inl (cI, 22, .inl m_now))] [(m_a, .inr (12, [.ref m_a_letters, .int m_length, .int m_jumpers, .ref m_a_period, .ref m_a_hang, .ref m_a_st, .ref m_a_now, .ref m_a_book, .int m_undos, .ref m_a_images, .ref m_a_isKept, .int m_seen, .ref m_a_seenHang, .ref m_a_seenTick, .ref m_a_seenUp, .long m_trail, .int m_place, .int m_wrong, .int m_items, .int m_saidEvery, .int m_readEvery, .int m_readJumpers, .ref m_a_readOne])), (m_a_period, .inl (cI, 6, .inl m_period)), (m_a_hang, .inl (cI, 6, .inl m_hang)), (m_a_st, .inl (cI, 22, .inl m_st)), (m_a_now, .inl (cI, 22, .inl m_now_o))] r_o := by
  refine zent_i (own := RX12) (by decide) rfl (Nat.le_of_ble_eq_true rfl) ?_
  intro p e s m below meth c A ls S hr hlocks hK hP hD hA hl
  have hx := S.1
  have hb := S.2.1
  have hml := S.2.2.1
  have hown := S.2.2.2.1
  have hT : ∀ w ∈ zt, w ∈ zwl yX12_firstOf cX12_firstOf 4 (some .int) := fun _ h => List.mem_cons_of_mem _ h
  have ht : ∀ w ∈ zt, w.before [.ref m_a, .int p1].toArray s = true := fun w h => S.2.2.2.2 w (hT w h)
  have hl : lv_has ls 4 [(0, .ref m_a), (1, .int p1)] := hl
  have hS : va_S A s.heap s.heap [] := va_S.rf
  unfold F_X12_firstOf at hF
  have hloop_6 : ∀ (n : Nat) (m_length : Int32) (m_jumpers : Int32) (m_undos : Int32) (m_seen : Int32) (m_trail : Int64) (m_place : Int32) (m_wrong : Int32) (m_items : Int32) (m_saidEvery : Int32) (m_readEvery : Int32) (m_readJumpers : Int32) (m_period : Nat → Int32) (m_hang : Nat → Int32) (m_st : Nat → Int32) (m_now : Nat → Int32) (v1 : Int32) (v2 : Int32) (res : ((Nat → Int32) × Int32) ⊕ (Int32 × (Nat → Int32))), L_X12_firstOf_6 m_jumpers m_period m_hang v1 n m_now v2 = some res → (∀ o, res = .inr o → o = (r_o, m_now_o)) → ∀ (H : Heap) (locs : List Loc) (ls : Array Slot), va_P D classes [(m_a, .inr (12, [.ref m_a_letters, .int m_length, .int m_jumpers, .ref m_a_period, .ref m_a_hang, .ref m_a_st, .ref m_a_now, .ref m_a_book, .int m_undos, .ref m_a_images, .ref m_a_isKept, .int m_seen, .ref m_a_seenHang, .ref m_a_seenTick, .ref m_a_seenUp, .long m_trail, .int m_place, .int m_wrong, .int m_items, .int m_saidEvery, .int m_readEvery, .int m_readJumpers, .ref m_a_readOne])), (m_a_period, .inl (cI, 6, .inl m_period)), (m_a_hang, .inl (cI, 6, .inl m_hang)), (m_a_st, .inl (cI, 22, .inl m_st)), (m_a_now, .inl (cI, 22, .inl m_now))] H → va_D A [(m_a, .inr (12, [.ref m_a_letters, .int m_length, .int m_jumpers, .ref m_a_period, .ref m_a_hang, .ref m_a_st, .ref m_a_now, .ref m_a_book, .int m_undos, .ref m_a_images, .ref m_a_isKept, .int m_seen, .ref m_a_seenHang, .ref m_a_seenTick, .ref m_a_seenUp, .long m_trail, .int m_place, .int m_wrong, .int m_items, .int m_saidEvery, .int m_readEvery, .int m_readJumpers, .ref m_a_readOne])), (m_a_period, .inl (cI, 6, .inl m_period)), (m_a_hang, .inl (cI, 6, .inl m_hang)), (m_a_st, .inl (cI, 22, .inl m_st)), (m_a_now, .inl (cI, 22, .inl m_now))] → va_S A s.heap H locs → lv_has ls 4 [(0, .ref m_a), (1, .int v1), (2, .int v2)] → (∀ (m_now' : Nat → Int32) (v2' : Int32), res = .inl (m_now', v2') → ∀ (H : Heap) (locs : List Loc) (ls : Array Slot), va_P D classes [(m_a, .inr (12, [.ref m_a_letters, .int m_length, .int m_jumpers, .ref m_a_period, .ref m_a_hang, .ref m_a_st, .ref m_a_now, .ref m_a_book, .int m_undos, .ref m_a_images, .ref m_a_isKept, .int m_seen, .ref m_a_seenHang, .ref m_a_seenTick, .ref m_a_seenUp, .long m_trail, .int m_place, .int m_wrong, .int m_items, .int m_saidEvery, .int m_readEvery, .int m_readJumpers, .ref m_a_readOne])), (m_a_period, .inl (cI, 6, .inl m_period)), (m_a_hang, .inl (cI, 6, .inl m_hang)), (m_a_st, .inl (cI, 22, .inl m_st)), (m_a_now, .inl (cI, 22, .inl m_now'))] H → va_D A [(m_a, .inr (12, [.ref m_a_letters, .int m_length, .int m_jumpers, .ref m_a_period, .ref m_a_hang, .ref m_a_st, .ref m_a_now, .ref m_a_book, .int m_undos, .ref m_a_images, .ref m_a_isKept, .int m_seen, .ref m_a_seenHang, .ref m_a_seenTick, .ref m_a_seenUp, .long m_trail, .int m_place, .int m_wrong, .int m_items, .int m_saidEvery, .int m_readEvery, .int m_readJumpers, .ref m_a_readOne])), (m_a_period, .inl (cI, 6, .inl m_period)), (m_a_hang, .inl (cI, 6, .inl m_hang)), (m_a_st, .inl (cI, 22, .inl m_st)), (m_a_now, .inl (cI, 22, .inl m_now'))] → va_S A s.heap H locs → lv_has ls 4 [(0, .ref m_a), (1, .int v1), (2, .int v2')] → W p l e { frames := 2, cells := 0, slots := 0, locals := 47 } s m [.ref m_a, .int p1].toArray below meth c H locs 0 0 (zFi below [.ref m_a, .int p1] s A D (TYS cI cZ cS cJ) [(m_a, .inr (12, [.ref m_a_letters, .int m_length, .int m_jumpers, .ref m_a_period, .ref m_a_hang, .ref m_a_st, .ref m_a_now, .ref m_a_book, .int m_undos, .ref m_a_images, .ref m_a_isKept, .int m_seen, .ref m_a_seenHang, .ref m_a_seenTick, .ref m_a_seenUp, .long m_trail, .int m_place, .int m_wrong, .int m_items, .int m_saidEvery, .int m_readEvery, .int m_readJumpers, .ref m_a_readOne])), (m_a_period, .inl (cI, 6, .inl m_period)), (m_a_hang, .inl (cI, 6, .inl m_hang)), (m_a_st, .inl (cI, 22, .inl m_st)), (m_a_now, .inl (cI, 22, .inl m_now_o))] r_o) (F0 m 43 ls [])) → W p l e { frames := 2, cells := 0, slots := 0, locals := 47 } s m [.ref m_a, .int p1].toArray below meth c H locs 0 0 (zFi below [.ref m_a, .int p1] s A D (TYS cI cZ cS cJ) [(m_a, .inr (12, [.ref m_a_letters, .int m_length, .int m_jumpers, .ref m_a_period, .ref m_a_hang, .ref m_a_st, .ref m_a_now, .ref m_a_book, .int m_undos, .ref m_a_images, .ref m_a_isKept, .int m_seen, .ref m_a_seenHang, .ref m_a_seenTick, .ref m_a_seenUp, .long m_trail, .int m_place, .int m_wrong, .int m_items, .int m_saidEvery, .int m_readEvery, .int m_readJumpers, .ref m_a_readOne])), (m_a_period, .inl (cI, 6, .inl m_period)), (m_a_hang, .inl (cI, 6, .inl m_hang)), (m_a_st, .inl (cI, 22, .inl m_st)), (m_a_now, .inl (cI, 22, .inl m_now_o))] r_o) (F0 m 6 ls []) := by
    intro n
    induction n with
    | zero =>
      intro m_length m_jumpers m_undos m_seen m_trail m_place m_wrong m_items m_saidEvery m_readEvery m_readJumpers m_period m_hang m_st m_now v1 v2 res hF
      rw [L_X12_firstOf_6_z] at hF
      cases hF
    | succ n ih_6 =>
      intro m_length m_jumpers m_undos m_seen m_trail m_place m_wrong m_items m_saidEvery m_readEvery m_readJumpers m_period m_hang m_st m_now v1 v2 res hF hret H locs ls hP hD hS hl hexit_6
      rw [L_X12_firstOf_6_s] at hF
      refine lv_iload_n hx hb dX12_firstOf_6 rfl (lv_at hl 2 rfl) ?_
      refine lv_bipush (v := 120) hx hb dX12_firstOf_7 (by decide) ?_
      refine lv_icmp_gt (tgt := 43) hx hb dX12_firstOf_9 (by decide) (fun c_9 => ?_) (fun c_9 => ?_)
      · have hF := zi_pos c_9 hF
        have e_0 := zo1 hF
        subst e_0
        exact hexit_6 _ _ rfl _ _ _ hP hD hS (lv_sub hl [0, 1, 2] rfl)
      · have hF := zi_neg c_9 hF
        refine lv_aload_n hx hb dX12_firstOf_12 rfl (lv_at hl 0 rfl) ?_
        refine lv_aload_n hx hb dX12_firstOf_13 rfl (lv_at hl 0 rfl) ?_
        refine va_get (D := D) (ci := 12) (v := .ref m_a_now) (C := RX12) (T := TX12) (N := 23) hx hb ht iyX12 hown hK hP 0 rfl rfl 6 (by decide) (ht _ wf_X12_22) (fun _ h9 => h9) rfl dX12_firstOf_14 ?_
        refine lv_iconst (v := 0) hx hb dX12_firstOf_17 (by decide) ?_
        obtain ⟨r_10, m_now_11, hc_12, hF⟩ := zb2_s hF
        refine zcv_i (ws1 := [(m_a, .inr (12, [.ref m_a_letters, .int m_length, .int m_jumpers, .ref m_a_period, .ref m_a_hang, .ref m_a_st, .ref m_a_now, .ref m_a_book, .int m_undos, .ref m_a_images, .ref m_a_isKept, .int m_seen, .ref m_a_seenHang, .ref m_a_seenTick, .ref m_a_seenUp, .long m_trail, .int m_place, .int m_wrong, .int m_items, .int m_saidEvery, .int m_readEvery, .int m_readJumpers, .ref m_a_readOne])), (m_a_period, .inl (cI, 6, .inl m_period)), (m_a_hang, .inl (cI, 6, .inl m_hang)), (m_a_st, .inl (cI, 22, .inl m_st)), (m_a_now, .inl (cI, 22, .inl m_now_11))]) S hT lk_X12_123 (c_X12_tickOn l D cI cZ cS cJ m_a m_a_letters m_a_period m_a_hang m_a_st m_a_now m_a_book m_a_images m_a_isKept m_a_seenHang m_a_seenTick m_a_seenUp m_a_readOne m_a_now m_length m_jumpers m_undos m_seen m_trail m_place m_wrong m_items m_saidEvery m_readEvery m_readJumpers m_period m_hang m_now 0 hc_12) ⟨rfl, rfl, Nat.le_of_ble_eq_true rfl, Nat.le_of_ble_eq_true rfl⟩ hK hP hD hS hA [0, 1, 2, 4] [3] [1, 2, 3, 0, 4] rfl rfl rfl rfl rfl rfl rfl rfl rfl rfl rfl hl.1 rfl (Nat.le_of_ble_eq_true rfl) dX12_firstOf_18 ⟨Nat.zero_le _, Nat.zero_le _⟩ (fun H locs hP hD hS => ?_)
        refine lv_istore_n (lv' := [(3, .int r_10), (0, .ref m_a), (1, .int v1), (2, .int v2)]) hx hb dX12_firstOf_21 rfl hl (by decide) rfl (fun ls hl => ?_)
        refine lv_iload_n hx hb dX12_firstOf_22 rfl (lv_at hl 0 rfl) ?_
        refine lv_if_eq (tgt := 37) hx hb dX12_firstOf_23 (by decide) (fun c_13 => ?_) (fun c_13 => ?_)
        · have hF := zi_pos c_13 hF
          refine lv_iinc (v := v2 + 1) (lv' := [(2, .int (v2 + 1)), (3, .int r_10), (0, .ref m_a), (1, .int v1)]) hx hb dX12_firstOf_37 hl (k := 3) rfl (by rfl) (by decide) rfl (fun ls hl => ?_)
          refine lv_goto (tgt := 6) hx hb dX12_firstOf_40 (by decide) ?_
          exact ih_6 m_length m_jumpers m_undos m_seen m_trail m_place m_wrong m_items m_saidEvery m_readEvery m_readJumpers m_period m_hang m_st m_now_11 v1 (v2 + 1) _ hF hret _ _ _ hP hD hS (lv_sub hl [2, 3, 0] rfl) hexit_6
        · have hF := zi_neg c_13 hF
          refine lv_iload_n hx hb dX12_firstOf_26 rfl (lv_at hl 2 rfl) ?_
          refine lv_iconst (v := 4) hx hb dX12_firstOf_27 (by decide) ?_
          refine lv_icmp_ne (tgt := 35) hx hb dX12_firstOf_28 (by decide) (fun c_14 => ?_) (fun c_14 => ?_)
          · have hF := zi_neg c_14 hF
            refine lv_iload_n hx hb dX12_firstOf_35 rfl (lv_at hl 0 rfl) ?_
            obtain ⟨e_0, e_1⟩ := zo2 (congrArg some (hret _ (Option.some.inj hF).symm))
            subst e_0
            subst e_1
            exact zret_i S hr hlocks hK hP hD hS dX12_firstOf_36
          · have hF := zi_pos c_14 hF
            refine lv_iload_n hx hb dX12_firstOf_31 rfl (lv_at hl 3 rfl) ?_
            refine lv_goto (tgt := 36) hx hb dX12_firstOf_32 (by decide) ?_
            obtain ⟨e_0, e_1⟩ := zo2 (congrArg some (hret _ (Option.some.inj hF).symm))
            subst e_0
            subst e_1
            exact zret_i S hr hlocks hK hP hD hS dX12_firstOf_36
  refine lv_aload_n hx hb dX12_firstOf_0 rfl (lv_at hl 0 rfl) ?_
  obtain ⟨m_now_1, hc_2, hF⟩ := zb1_s hF
  refine zcv_v (ws1 := [(m_a, .inr (12, [.ref m_a_letters, .int m_length, .int m_jumpers, .ref m_a_period, .ref m_a_hang, .ref m_a_st, .ref m_a_now, .ref m_a_book, .int m_undos, .ref m_a_images, .ref m_a_isKept, .int m_seen, .ref m_a_seenHang, .ref m_a_seenTick, .ref m_a_seenUp, .long m_trail, .int m_place, .int m_wrong, .int m_items, .int m_saidEvery, .int m_readEvery, .int m_readJumpers, .ref m_a_readOne])), (m_a_period, .inl (cI, 6, .inl m_period)), (m_a_hang, .inl (cI, 6, .inl m_hang)), (m_a_st, .inl (cI, 22, .inl m_st)), (m_a_now, .inl (cI, 22, .inl m_now_1))]) S hT lk_X12_130 (c_X12_asItIs l D cI cZ cS cJ m_a m_a_letters m_a_period m_a_hang m_a_st m_a_now m_a_book m_a_images m_a_isKept m_a_seenHang m_a_seenTick m_a_seenUp m_a_readOne m_length m_jumpers m_undos m_seen m_trail m_place m_wrong m_items m_saidEvery m_readEvery m_readJumpers m_st m_now hc_2) ⟨rfl, rfl, Nat.le_of_ble_eq_true rfl, Nat.le_of_ble_eq_true rfl⟩ hK hP hD hS hA [0, 3, 4] [1, 2] [2, 0, 1, 3, 4] rfl rfl rfl rfl rfl rfl rfl rfl rfl rfl rfl hl.1 rfl (Nat.le_of_ble_eq_true rfl) dX12_firstOf_1 ⟨Nat.zero_le _, Nat.zero_le _⟩ (fun H locs hP hD hS => ?_)
  refine lv_iconst (v := 1) hx hb dX12_firstOf_4 (by decide) ?_
  refine lv_istore_n (lv' := [(2, .int 1), (0, .ref m_a), (1, .int p1)]) hx hb dX12_firstOf_5 rfl hl (by decide) rfl (fun ls hl => ?_)
  rcases zs2_s hF with ⟨m_now_15, v2_16, hL_17, hF⟩ | hL_17
  rotate_left
  · exact hloop_6 300 m_length m_jumpers m_undos m_seen m_trail m_place m_wrong m_items m_saidEvery m_readEvery m_readJumpers m_period m_hang m_st m_now_1 p1 1 _ hL_17 (fun o ho => (Sum.inr.inj ho).symm) _ _ _ hP hD hS (lv_sub hl [1, 2, 0] rfl) (fun m_now_15 v2_16 ho => nomatch ho)
  refine hloop_6 300 m_length m_jumpers m_undos m_seen m_trail m_place m_wrong m_items m_saidEvery m_readEvery m_readJumpers m_period m_hang m_st m_now_1 p1 1 _ hL_17 (fun o ho => nomatch ho) _ _ _ hP hD hS (lv_sub hl [1, 2, 0] rfl) (fun m_now_15' v2_16' ho H locs ls hP hD hS hl => ?_)
  obtain ⟨rfl, rfl⟩ : m_now_15 = m_now_15' ∧ v2_16 = v2_16' := by cases ho; exact ⟨rfl, rfl⟩
  refine lv_iload_n hx hb dX12_firstOf_43 rfl (lv_at hl 1 rfl) ?_
  refine lv_iconst (v := 4) hx hb dX12_firstOf_44 (by decide) ?_
  refine lv_icmp_ne (tgt := 53) hx hb dX12_firstOf_45 (by decide) (fun c_18 => ?_) (fun c_18 => ?_)
  · have hF := zi_neg c_18 hF
    refine lv_iconst (v := 0) hx hb dX12_firstOf_53 (by decide) ?_
    obtain ⟨e_0, e_1⟩ := zo2 hF
    subst e_0
    subst e_1
    exact zret_i S hr hlocks hK hP hD hS dX12_firstOf_54
  · have hF := zi_pos c_18 hF
    refine lv_bipush (v := (-9)) hx hb dX12_firstOf_48 (by decide) ?_
    refine lv_goto (tgt := 54) hx hb dX12_firstOf_50 (by decide) ?_
    obtain ⟨e_0, e_1⟩ := zo2 hF
    subst e_0
    subst e_1
    exact zret_i S hr hlocks hK hP hD hS dX12_firstOf_54

theorem lk_X12_137 : zLk RX12 137 yX12_firstOf cX12_firstOf 4 (some .int) 1 := ⟨⟨wm_X12_137, wo_X12_firstOf, we_X12_X12_firstOf, wi_X12, wd_X12_firstOf⟩, by decide, by decide, by decide +kernel⟩
def F_X12_now (m_jumpers : Int32) (m_undos : Int32) (m_period : Nat → Int32) (m_hang : Nat → Int32) (m_st : Nat → Int32) (m_now : Nat → Int32) (p1 : Int32) : Option (Int32 × (Nat → Int32)) :=
  (if p1 = 0 then some (m_st (0 : Int32).toNatClampNeg, m_now) else (if p1 = 1 then some (m_st (1 : Int32).toNatClampNeg, m_now) else (if p1 = 2 then some (m_st (2 : Int32).toNatClampNeg, m_now) else (if p1 = 3 then some (m_st (3 : Int32).toNatClampNeg, m_now) else (if p1 = 4 then (zb2 (F_X12_firstOf m_jumpers m_period m_hang m_st m_now p1) (fun r_6 m_now_7 => some (r_6, m_now_7))) else (if p1 = 5 then (zb2 (F_X12_firstOf m_jumpers m_period m_hang m_st m_now p1) (fun r_10 m_now_11 => some (r_10, m_now_11))) else (if p1 = 6 then some (m_undos, m_now) else some ((-1), m_now))))))))
set_option maxHeartbeats 4000000 in
set_option maxRecDepth 100000 in
theorem c_X12_now (l : Launch) (D : va_G) (cI cZ cS cJ : ClassId) (m_a : Nat) (m_a_letters : Nat) (m_a_period : Nat) (m_a_hang : Nat) (m_a_st : Nat) (m_a_now : Nat) (m_a_book : Nat) (m_a_images : Nat) (m_a_isKept : Nat) (m_a_seenHang : Nat) (m_a_seenTick : Nat) (m_a_seenUp : Nat) (m_a_readOne : Nat) (m_length : Int32) (m_jumpers : Int32) (m_undos : Int32) (m_seen : Int32) (m_trail : Int64) (m_place : Int32) (m_wrong : Int32) (m_items : Int32) (m_saidEvery : Int32) (m_readEvery : Int32) (m_readJumpers : Int32) (m_period : Nat → Int32) (m_hang : Nat → Int32) (m_st : Nat → Int32) (m_now : Nat → Int32) (p1 : Int32) {r_o : Int32} {m_now_o : Nat → Int32} (hF : F_X12_now m_jumpers m_undos m_period m_hang m_st m_now p1 = some (r_o, m_now_o)) : zMi l yX12_now (zwl yX12_now cX12_now 2 (some .int)) { frames := 3, cells := 0, slots := 0, locals := 70 } D (TYS cI cZ cS cJ) [.ref m_a, .int p1] [(m_a, .inr (12, [.ref m_a_letters, .int m_length, .int m_jumpers, .ref m_a_period, .ref m_a_hang, .ref m_a_st, .ref m_a_now, .ref m_a_book, .int m_undos, .ref m_a_images, .ref m_a_isKept, .int m_seen, .ref m_a_seenHang, .ref m_a_seenTick, .ref m_a_seenUp, .long m_trail, .int m_place, .int m_wrong, .int m_items, .int m_saidEvery, .int m_readEvery, .int m_readJumpers, .ref m_a_readOne])), (m_a_period, .inl (cI, 6, .inl m_period)), (m_a_hang, .inl (cI, 6, .inl m_hang)), (m_a_st, .inl (cI, 22, .inl m_st)), (m_a_now, .inl (cI, 22, .inl m_now))] [(m_a, .inr (12, [.ref m_a_letters, .int m_length, .int m_jumpers, .ref m_a_period, .ref m_a_hang, .ref m_a_st, .ref m_a_now, .ref m_a_book, .int m_undos, .ref m_a_images, .ref m_a_isKept, .int m_seen, .ref m_a_seenHang, .ref m_a_seenTick, .ref m_a_seenUp, .long m_trail, .int m_place, .int m_wrong, .int m_items, .int m_saidEvery, .int m_readEvery, .int m_readJumpers, .ref m_a_readOne])), (m_a_period, .inl (cI, 6, .inl m_period)), (m_a_hang, .inl (cI, 6, .inl m_hang)), (m_a_st, .inl (cI, 22, .inl m_st)), (m_a_now, .inl (cI, 22, .inl m_now_o))] r_o := by
  refine zent_i (own := RX12) (by decide) rfl (Nat.le_of_ble_eq_true rfl) ?_
  intro p e s m below meth c A ls S hr hlocks hK hP hD hA hl
  have hx := S.1
  have hb := S.2.1
  have hml := S.2.2.1
  have hown := S.2.2.2.1
  have hT : ∀ w ∈ zt, w ∈ zwl yX12_now cX12_now 2 (some .int) := fun _ h => List.mem_cons_of_mem _ h
  have ht : ∀ w ∈ zt, w.before [.ref m_a, .int p1].toArray s = true := fun w h => S.2.2.2.2 w (hT w h)
  have hl : lv_has ls 2 [(0, .ref m_a), (1, .int p1)] := hl
  have hS : va_S A s.heap s.heap [] := va_S.rf
  unfold F_X12_now at hF
  refine lv_iload_n hx hb dX12_now_0 rfl (lv_at hl 1 rfl) ?_
  by_cases c_1 : p1 = 0
  · have hF := zi_pos c_1 hF
    refine lv_tableIn (tgt := 44) hx hb dX12_now_1 (by rw [c_1]; decide) (by rw [c_1]; decide) (by rw [c_1]; rfl) (by decide) ?_
    refine lv_aload_n hx hb dX12_now_44 rfl (lv_at hl 0 rfl) ?_
    refine va_get (D := D) (ci := 12) (v := .ref m_a_st) (C := RX12) (T := TX12) (N := 23) hx hb ht iyX12 hown hK hP 0 rfl rfl 5 (by decide) (ht _ wf_X12_19) (fun _ h9 => h9) rfl dX12_now_45 ?_
    refine lv_iconst (v := 0) hx hb dX12_now_48 (by decide) ?_
    refine va_iald hx hb hK hP 3 0 rfl rfl (show ¬ ((0 : Int32) < 0 ∨ 22 ≤ (0 : Int32).toNatClampNeg) by decide) dX12_now_49 ?_
    obtain ⟨e_0, e_1⟩ := zo2 hF
    subst e_0
    subst e_1
    exact zret_i S hr hlocks hK hP hD hS dX12_now_50
  have hF := zi_neg c_1 hF
  by_cases c_2 : p1 = 1
  · have hF := zi_pos c_2 hF
    refine lv_tableIn (tgt := 51) hx hb dX12_now_1 (by rw [c_2]; decide) (by rw [c_2]; decide) (by rw [c_2]; rfl) (by decide) ?_
    refine lv_aload_n hx hb dX12_now_51 rfl (lv_at hl 0 rfl) ?_
    refine va_get (D := D) (ci := 12) (v := .ref m_a_st) (C := RX12) (T := TX12) (N := 23) hx hb ht iyX12 hown hK hP 0 rfl rfl 5 (by decide) (ht _ wf_X12_19) (fun _ h9 => h9) rfl dX12_now_52 ?_
    refine lv_iconst (v := 1) hx hb dX12_now_55 (by decide) ?_
    refine va_iald hx hb hK hP 3 0 rfl rfl (show ¬ ((1 : Int32) < 0 ∨ 22 ≤ (1 : Int32).toNatClampNeg) by decide) dX12_now_56 ?_
    obtain ⟨e_0, e_1⟩ := zo2 hF
    subst e_0
    subst e_1
    exact zret_i S hr hlocks hK hP hD hS dX12_now_57
  have hF := zi_neg c_2 hF
  by_cases c_3 : p1 = 2
  · have hF := zi_pos c_3 hF
    refine lv_tableIn (tgt := 58) hx hb dX12_now_1 (by rw [c_3]; decide) (by rw [c_3]; decide) (by rw [c_3]; rfl) (by decide) ?_
    refine lv_aload_n hx hb dX12_now_58 rfl (lv_at hl 0 rfl) ?_
    refine va_get (D := D) (ci := 12) (v := .ref m_a_st) (C := RX12) (T := TX12) (N := 23) hx hb ht iyX12 hown hK hP 0 rfl rfl 5 (by decide) (ht _ wf_X12_19) (fun _ h9 => h9) rfl dX12_now_59 ?_
    refine lv_iconst (v := 2) hx hb dX12_now_62 (by decide) ?_
    refine va_iald hx hb hK hP 3 0 rfl rfl (show ¬ ((2 : Int32) < 0 ∨ 22 ≤ (2 : Int32).toNatClampNeg) by decide) dX12_now_63 ?_
    obtain ⟨e_0, e_1⟩ := zo2 hF
    subst e_0
    subst e_1
    exact zret_i S hr hlocks hK hP hD hS dX12_now_64
  have hF := zi_neg c_3 hF
  by_cases c_4 : p1 = 3
  · have hF := zi_pos c_4 hF
    refine lv_tableIn (tgt := 65) hx hb dX12_now_1 (by rw [c_4]; decide) (by rw [c_4]; decide) (by rw [c_4]; rfl) (by decide) ?_
    refine lv_aload_n hx hb dX12_now_65 rfl (lv_at hl 0 rfl) ?_
    refine va_get (D := D) (ci := 12) (v := .ref m_a_st) (C := RX12) (T := TX12) (N := 23) hx hb ht iyX12 hown hK hP 0 rfl rfl 5 (by decide) (ht _ wf_X12_19) (fun _ h9 => h9) rfl dX12_now_66 ?_
    refine lv_iconst (v := 3) hx hb dX12_now_69 (by decide) ?_
    refine va_iald hx hb hK hP 3 0 rfl rfl (show ¬ ((3 : Int32) < 0 ∨ 22 ≤ (3 : Int32).toNatClampNeg) by decide) dX12_now_70 ?_
    obtain ⟨e_0, e_1⟩ := zo2 hF
    subst e_0
    subst e_1
    exact zret_i S hr hlocks hK hP hD hS dX12_now_71
  have hF := zi_neg c_4 hF
  by_cases c_5 : p1 = 4
  · have hF := zi_pos c_5 hF
    refine lv_tableIn (tgt := 72) hx hb dX12_now_1 (by rw [c_5]; decide) (by rw [c_5]; decide) (by rw [c_5]; rfl) (by decide) ?_
    refine lv_aload_n hx hb dX12_now_72 rfl (lv_at hl 0 rfl) ?_
    refine lv_iload_n hx hb dX12_now_73 rfl (lv_at hl 1 rfl) ?_
    obtain ⟨r_6, m_now_7, hc_8, hF⟩ := zb2_s hF
    refine zcv_i (ws1 := [(m_a, .inr (12, [.ref m_a_letters, .int m_length, .int m_jumpers, .ref m_a_period, .ref m_a_hang, .ref m_a_st, .ref m_a_now, .ref m_a_book, .int m_undos, .ref m_a_images, .ref m_a_isKept, .int m_seen, .ref m_a_seenHang, .ref m_a_seenTick, .ref m_a_seenUp, .long m_trail, .int m_place, .int m_wrong, .int m_items, .int m_saidEvery, .int m_readEvery, .int m_readJumpers, .ref m_a_readOne])), (m_a_period, .inl (cI, 6, .inl m_period)), (m_a_hang, .inl (cI, 6, .inl m_hang)), (m_a_st, .inl (cI, 22, .inl m_st)), (m_a_now, .inl (cI, 22, .inl m_now_7))]) S hT lk_X12_137 (c_X12_firstOf l D cI cZ cS cJ m_a m_a_letters m_a_period m_a_hang m_a_st m_a_now m_a_book m_a_images m_a_isKept m_a_seenHang m_a_seenTick m_a_seenUp m_a_readOne m_length m_jumpers m_undos m_seen m_trail m_place m_wrong m_items m_saidEvery m_readEvery m_readJumpers m_period m_hang m_st m_now p1 hc_8) ⟨rfl, rfl, Nat.le_of_ble_eq_true rfl, Nat.le_of_ble_eq_true rfl⟩ hK hP hD hS hA [0, 1, 2, 3, 4] [] [0, 1, 2, 3, 4] rfl rfl rfl rfl rfl rfl rfl rfl rfl rfl rfl hl.1 rfl (Nat.le_of_ble_eq_true rfl) dX12_now_74 ⟨Nat.zero_le _, Nat.zero_le _⟩ (fun H locs hP hD hS => ?_)
    obtain ⟨e_0, e_1⟩ := zo2 hF
    subst e_0
    subst e_1
    exact zret_i S hr hlocks hK hP hD hS dX12_now_77
  have hF := zi_neg c_5 hF
  by_cases c_9 : p1 = 5
  · have hF := zi_pos c_9 hF
    refine lv_tableIn (tgt := 72) hx hb dX12_now_1 (by rw [c_9]; decide) (by rw [c_9]; decide) (by rw [c_9]; rfl) (by decide) ?_
    refine lv_aload_n hx hb dX12_now_72 rfl (lv_at hl 0 rfl) ?_
    refine lv_iload_n hx hb dX12_now_73 rfl (lv_at hl 1 rfl) ?_
    obtain ⟨r_10, m_now_11, hc_12, hF⟩ := zb2_s hF
    refine zcv_i (ws1 := [(m_a, .inr (12, [.ref m_a_letters, .int m_length, .int m_jumpers, .ref m_a_period, .ref m_a_hang, .ref m_a_st, .ref m_a_now, .ref m_a_book, .int m_undos, .ref m_a_images, .ref m_a_isKept, .int m_seen, .ref m_a_seenHang, .ref m_a_seenTick, .ref m_a_seenUp, .long m_trail, .int m_place, .int m_wrong, .int m_items, .int m_saidEvery, .int m_readEvery, .int m_readJumpers, .ref m_a_readOne])), (m_a_period, .inl (cI, 6, .inl m_period)), (m_a_hang, .inl (cI, 6, .inl m_hang)), (m_a_st, .inl (cI, 22, .inl m_st)), (m_a_now, .inl (cI, 22, .inl m_now_11))]) S hT lk_X12_137 (c_X12_firstOf l D cI cZ cS cJ m_a m_a_letters m_a_period m_a_hang m_a_st m_a_now m_a_book m_a_images m_a_isKept m_a_seenHang m_a_seenTick m_a_seenUp m_a_readOne m_length m_jumpers m_undos m_seen m_trail m_place m_wrong m_items m_saidEvery m_readEvery m_readJumpers m_period m_hang m_st m_now p1 hc_12) ⟨rfl, rfl, Nat.le_of_ble_eq_true rfl, Nat.le_of_ble_eq_true rfl⟩ hK hP hD hS hA [0, 1, 2, 3, 4] [] [0, 1, 2, 3, 4] rfl rfl rfl rfl rfl rfl rfl rfl rfl rfl rfl hl.1 rfl (Nat.le_of_ble_eq_true rfl) dX12_now_74 ⟨Nat.zero_le _, Nat.zero_le _⟩ (fun H locs hP hD hS => ?_)
    obtain ⟨e_0, e_1⟩ := zo2 hF
    subst e_0
    subst e_1
    exact zret_i S hr hlocks hK hP hD hS dX12_now_77
  have hF := zi_neg c_9 hF
  by_cases c_13 : p1 = 6
  · have hF := zi_pos c_13 hF
    refine lv_tableIn (tgt := 78) hx hb dX12_now_1 (by rw [c_13]; decide) (by rw [c_13]; decide) (by rw [c_13]; rfl) (by decide) ?_
    refine lv_aload_n hx hb dX12_now_78 rfl (lv_at hl 0 rfl) ?_
    refine va_get (D := D) (ci := 12) (v := .int m_undos) (C := RX12) (T := TX12) (N := 23) hx hb ht iyX12 hown hK hP 0 rfl rfl 8 (by decide) (ht _ wf_X12_101) (fun _ h9 => h9) rfl dX12_now_79 ?_
    obtain ⟨e_0, e_1⟩ := zo2 hF
    subst e_0
    subst e_1
    exact zret_i S hr hlocks hK hP hD hS dX12_now_82
  have hF := zi_neg c_13 hF
  have hto : p1.toInt < 0 ∨ 6 < p1.toInt := by
    have zc_1 := lv_neT c_1 (a := 0) (by decide)
    have zc_2 := lv_neT c_2 (a := 1) (by decide)
    have zc_3 := lv_neT c_3 (a := 2) (by decide)
    have zc_4 := lv_neT c_4 (a := 3) (by decide)
    have zc_5 := lv_neT c_5 (a := 4) (by decide)
    have zc_9 := lv_neT c_9 (a := 5) (by decide)
    have zc_13 := lv_neT c_13 (a := 6) (by decide)
    omega
  refine lv_tableOut (tgt := 83) hx hb dX12_now_1 hto (by decide) ?_
  refine lv_iconst (v := (-1)) hx hb dX12_now_83 (by decide) ?_
  obtain ⟨e_0, e_1⟩ := zo2 hF
  subst e_0
  subst e_1
  exact zret_i S hr hlocks hK hP hD hS dX12_now_84

def F_X12_notes (m_undos : Int32) (m_st : Nat → Int32) (m_book : Nat → Int32) : Option (Int32 × (Nat → Int32)) :=
  (if m_undos = 10 then (zb1 (F_X12_bring_same 220 m_book 22 0 198) (fun m_book_4 => (zb1 (F_X12_bring 22 m_st 220 m_book_4 0 (22 * (m_undos - 1)) 22) (fun m_book_6 => some ((m_undos - 1) + 1, m_book_6))))) else (zb1 (F_X12_bring 22 m_st 220 m_book 0 (22 * m_undos) 22) (fun m_book_2 => some (m_undos + 1, m_book_2))))
set_option maxHeartbeats 4000000 in
set_option maxRecDepth 100000 in
theorem c_X12_notes (l : Launch) (D : va_G) (cI cZ cS cJ : ClassId) (m_a : Nat) (m_a_letters : Nat) (m_a_period : Nat) (m_a_hang : Nat) (m_a_st : Nat) (m_a_now : Nat) (m_a_book : Nat) (m_a_images : Nat) (m_a_isKept : Nat) (m_a_seenHang : Nat) (m_a_seenTick : Nat) (m_a_seenUp : Nat) (m_a_readOne : Nat) (m_length : Int32) (m_jumpers : Int32) (m_undos : Int32) (m_seen : Int32) (m_trail : Int64) (m_place : Int32) (m_wrong : Int32) (m_items : Int32) (m_saidEvery : Int32) (m_readEvery : Int32) (m_readJumpers : Int32) (m_st : Nat → Int32) (m_book : Nat → Int32) {m_undos_o : Int32} {m_book_o : Nat → Int32} (hF : F_X12_notes m_undos m_st m_book = some (m_undos_o, m_book_o)) : zMv l yX12_notes (zwl yX12_notes cX12_notes 1 none) { frames := 1, cells := 0, slots := 0, locals := 25 } D (TYS cI cZ cS cJ) [.ref m_a] [(m_a, .inr (12, [.ref m_a_letters, .int m_length, .int m_jumpers, .ref m_a_period, .ref m_a_hang, .ref m_a_st, .ref m_a_now, .ref m_a_book, .int m_undos, .ref m_a_images, .ref m_a_isKept, .int m_seen, .ref m_a_seenHang, .ref m_a_seenTick, .ref m_a_seenUp, .long m_trail, .int m_place, .int m_wrong, .int m_items, .int m_saidEvery, .int m_readEvery, .int m_readJumpers, .ref m_a_readOne])), (m_a_st, .inl (cI, 22, .inl m_st)), (m_a_book, .inl (cI, 220, .inl m_book))] [(m_a, .inr (12, [.ref m_a_letters, .int m_length, .int m_jumpers, .ref m_a_period, .ref m_a_hang, .ref m_a_st, .ref m_a_now, .ref m_a_book, .int m_undos_o, .ref m_a_images, .ref m_a_isKept, .int m_seen, .ref m_a_seenHang, .ref m_a_seenTick, .ref m_a_seenUp, .long m_trail, .int m_place, .int m_wrong, .int m_items, .int m_saidEvery, .int m_readEvery, .int m_readJumpers, .ref m_a_readOne])), (m_a_st, .inl (cI, 22, .inl m_st)), (m_a_book, .inl (cI, 220, .inl m_book_o))] := by
  refine zent_v (own := RX12) (by decide) rfl (Nat.le_of_ble_eq_true rfl) ?_
  intro p e s m below meth c A ls S hr hlocks hK hP hD hA hl
  have hx := S.1
  have hb := S.2.1
  have hml := S.2.2.1
  have hown := S.2.2.2.1
  have hT : ∀ w ∈ zt, w ∈ zwl yX12_notes cX12_notes 1 none := fun _ h => List.mem_cons_of_mem _ h
  have ht : ∀ w ∈ zt, w.before [.ref m_a].toArray s = true := fun w h => S.2.2.2.2 w (hT w h)
  have hl : lv_has ls 1 [(0, .ref m_a)] := hl
  have hS : va_S A s.heap s.heap [] := va_S.rf
  unfold F_X12_notes at hF
  refine lv_aload_n hx hb dX12_notes_0 rfl (lv_at hl 0 rfl) ?_
  refine va_get (D := D) (ci := 12) (v := .int m_undos) (C := RX12) (T := TX12) (N := 23) hx hb ht iyX12 hown hK hP 0 rfl rfl 8 (by decide) (ht _ wf_X12_101) (fun _ h9 => h9) rfl dX12_notes_1 ?_
  refine lv_bipush (v := 10) hx hb dX12_notes_4 (by decide) ?_
  refine lv_icmp_ne (tgt := 36) hx hb dX12_notes_6 (by decide) (fun c_1 => ?_) (fun c_1 => ?_)
  · have hF := zi_neg c_1 hF
    refine lv_aload_n hx hb dX12_notes_36 rfl (lv_at hl 0 rfl) ?_
    refine va_get (D := D) (ci := 12) (v := .ref m_a_st) (C := RX12) (T := TX12) (N := 23) hx hb ht iyX12 hown hK hP 0 rfl rfl 5 (by decide) (ht _ wf_X12_19) (fun _ h9 => h9) rfl dX12_notes_37 ?_
    refine lv_iconst (v := 0) hx hb dX12_notes_40 (by decide) ?_
    refine lv_aload_n hx hb dX12_notes_41 rfl (lv_at hl 0 rfl) ?_
    refine va_get (D := D) (ci := 12) (v := .ref m_a_book) (C := RX12) (T := TX12) (N := 23) hx hb ht iyX12 hown hK hP 0 rfl rfl 7 (by decide) (ht _ wf_X12_25) (fun _ h9 => h9) rfl dX12_notes_42 ?_
    refine lv_bipush (v := 22) hx hb dX12_notes_45 (by decide) ?_
    refine lv_aload_n hx hb dX12_notes_47 rfl (lv_at hl 0 rfl) ?_
    refine va_get (D := D) (ci := 12) (v := .int m_undos) (C := RX12) (T := TX12) (N := 23) hx hb ht iyX12 hown hK hP 0 rfl rfl 8 (by decide) (ht _ wf_X12_101) (fun _ h9 => h9) rfl dX12_notes_48 ?_
    refine lv_imul hx hb dX12_notes_51 ?_
    refine lv_bipush (v := 22) hx hb dX12_notes_52 (by decide) ?_
    obtain ⟨m_book_2, hc_3, hF⟩ := zb1_s hF
    refine zcs_v (ws1 := [(m_a, .inr (12, [.ref m_a_letters, .int m_length, .int m_jumpers, .ref m_a_period, .ref m_a_hang, .ref m_a_st, .ref m_a_now, .ref m_a_book, .int m_undos, .ref m_a_images, .ref m_a_isKept, .int m_seen, .ref m_a_seenHang, .ref m_a_seenTick, .ref m_a_seenUp, .long m_trail, .int m_place, .int m_wrong, .int m_items, .int m_saidEvery, .int m_readEvery, .int m_readJumpers, .ref m_a_readOne])), (m_a_st, .inl (cI, 22, .inl m_st)), (m_a_book, .inl (cI, 220, .inl m_book_2))]) S hT lk_X12_119 (c_X12_bring l D cI cZ cS cJ m_a_st m_a_book 22 m_st 220 m_book 0 (22 * m_undos) 22 hc_3) ⟨rfl, rfl, Nat.le_of_ble_eq_true rfl, Nat.le_of_ble_eq_true rfl⟩ hK hP hD hS hA [1, 2] [0] [0, 1, 2] rfl rfl rfl rfl rfl rfl rfl rfl hl.1 rfl (Nat.le_of_ble_eq_true rfl) dX12_notes_54 ⟨Nat.zero_le _, Nat.zero_le _⟩ (fun H locs hP hD hS => ?_)
    refine lv_aload_n hx hb dX12_notes_57 rfl (lv_at hl 0 rfl) ?_
    refine lv_dup hx hb dX12_notes_58 rfl ?_
    refine va_get (D := D) (ci := 12) (v := .int m_undos) (C := RX12) (T := TX12) (N := 23) hx hb ht iyX12 hown hK hP 0 rfl rfl 8 (by decide) (ht _ wf_X12_101) (fun _ h9 => h9) rfl dX12_notes_59 ?_
    refine lv_iconst (v := 1) hx hb dX12_notes_62 (by decide) ?_
    refine lv_iadd hx hb dX12_notes_63 ?_
    refine va_put (D := D) (ci := 12) (v := .int (m_undos + 1)) (ty := .int) (C := RX12) (T := TX12) (N := 23) hx hb ht iyX12 tyX12 tyX12_ok nmX12 hown hK hP hD hS 0 rfl rfl 8 (by decide) (ht _ wf_X12_101) (fun _ h9 => h9) rfl (by decide +kernel) rfl rfl (Nat.le_of_ble_eq_true rfl) dX12_notes_64 (fun H locs hP hD hS => ?_)
    have hP : va_P D classes [(m_a, .inr (12, [.ref m_a_letters, .int m_length, .int m_jumpers, .ref m_a_period, .ref m_a_hang, .ref m_a_st, .ref m_a_now, .ref m_a_book, .int (m_undos + 1), .ref m_a_images, .ref m_a_isKept, .int m_seen, .ref m_a_seenHang, .ref m_a_seenTick, .ref m_a_seenUp, .long m_trail, .int m_place, .int m_wrong, .int m_items, .int m_saidEvery, .int m_readEvery, .int m_readJumpers, .ref m_a_readOne])), (m_a_st, .inl (cI, 22, .inl m_st)), (m_a_book, .inl (cI, 220, .inl m_book_2))] H := hP
    have hD : va_D A [(m_a, .inr (12, [.ref m_a_letters, .int m_length, .int m_jumpers, .ref m_a_period, .ref m_a_hang, .ref m_a_st, .ref m_a_now, .ref m_a_book, .int (m_undos + 1), .ref m_a_images, .ref m_a_isKept, .int m_seen, .ref m_a_seenHang, .ref m_a_seenTick, .ref m_a_seenUp, .long m_trail, .int m_place, .int m_wrong, .int m_items, .int m_saidEvery, .int m_readEvery, .int m_readJumpers, .ref m_a_readOne])), (m_a_st, .inl (cI, 22, .inl m_st)), (m_a_book, .inl (cI, 220, .inl m_book_2))] := hD
    obtain ⟨e_0, e_1⟩ := zo2 hF
    subst e_0
    subst e_1
    exact zret_v S hr hlocks hK hP hD hS dX12_notes_67
  · have hF := zi_pos c_1 hF
    refine lv_aload_n hx hb dX12_notes_9 rfl (lv_at hl 0 rfl) ?_
    refine va_get (D := D) (ci := 12) (v := .ref m_a_book) (C := RX12) (T := TX12) (N := 23) hx hb ht iyX12 hown hK hP 0 rfl rfl 7 (by decide) (ht _ wf_X12_25) (fun _ h9 => h9) rfl dX12_notes_10 ?_
    refine lv_bipush (v := 22) hx hb dX12_notes_13 (by decide) ?_
    refine lv_aload_n hx hb dX12_notes_15 rfl (lv_at hl 0 rfl) ?_
    refine va_get (D := D) (ci := 12) (v := .ref m_a_book) (C := RX12) (T := TX12) (N := 23) hx hb ht iyX12 hown hK hP 0 rfl rfl 7 (by decide) (ht _ wf_X12_25) (fun _ h9 => h9) rfl dX12_notes_16 ?_
    refine lv_iconst (v := 0) hx hb dX12_notes_19 (by decide) ?_
    refine lv_sipush (v := 198) hx hb dX12_notes_20 (by decide) ?_
    obtain ⟨m_book_4, hc_5, hF⟩ := zb1_s hF
    refine zcs_v (ws1 := [(m_a, .inr (12, [.ref m_a_letters, .int m_length, .int m_jumpers, .ref m_a_period, .ref m_a_hang, .ref m_a_st, .ref m_a_now, .ref m_a_book, .int m_undos, .ref m_a_images, .ref m_a_isKept, .int m_seen, .ref m_a_seenHang, .ref m_a_seenTick, .ref m_a_seenUp, .long m_trail, .int m_place, .int m_wrong, .int m_items, .int m_saidEvery, .int m_readEvery, .int m_readJumpers, .ref m_a_readOne])), (m_a_st, .inl (cI, 22, .inl m_st)), (m_a_book, .inl (cI, 220, .inl m_book_4))]) S hT lk_X12_119 (c_X12_bring_same l D cI cZ cS cJ m_a_book 220 m_book 22 0 198 hc_5) ⟨rfl, rfl, Nat.le_of_ble_eq_true rfl, Nat.le_of_ble_eq_true rfl⟩ hK hP hD hS hA [2] [0, 1] [0, 1, 2] rfl rfl rfl rfl rfl rfl rfl rfl hl.1 rfl (Nat.le_of_ble_eq_true rfl) dX12_notes_23 ⟨Nat.zero_le _, Nat.zero_le _⟩ (fun H locs hP hD hS => ?_)
    refine lv_aload_n hx hb dX12_notes_26 rfl (lv_at hl 0 rfl) ?_
    refine lv_dup hx hb dX12_notes_27 rfl ?_
    refine va_get (D := D) (ci := 12) (v := .int m_undos) (C := RX12) (T := TX12) (N := 23) hx hb ht iyX12 hown hK hP 0 rfl rfl 8 (by decide) (ht _ wf_X12_101) (fun _ h9 => h9) rfl dX12_notes_28 ?_
    refine lv_iconst (v := 1) hx hb dX12_notes_31 (by decide) ?_
    refine lv_isub hx hb dX12_notes_32 ?_
    refine va_put (D := D) (ci := 12) (v := .int (m_undos - 1)) (ty := .int) (C := RX12) (T := TX12) (N := 23) hx hb ht iyX12 tyX12 tyX12_ok nmX12 hown hK hP hD hS 0 rfl rfl 8 (by decide) (ht _ wf_X12_101) (fun _ h9 => h9) rfl (by decide +kernel) rfl rfl (Nat.le_of_ble_eq_true rfl) dX12_notes_33 (fun H locs hP hD hS => ?_)
    have hP : va_P D classes [(m_a, .inr (12, [.ref m_a_letters, .int m_length, .int m_jumpers, .ref m_a_period, .ref m_a_hang, .ref m_a_st, .ref m_a_now, .ref m_a_book, .int (m_undos - 1), .ref m_a_images, .ref m_a_isKept, .int m_seen, .ref m_a_seenHang, .ref m_a_seenTick, .ref m_a_seenUp, .long m_trail, .int m_place, .int m_wrong, .int m_items, .int m_saidEvery, .int m_readEvery, .int m_readJumpers, .ref m_a_readOne])), (m_a_st, .inl (cI, 22, .inl m_st)), (m_a_book, .inl (cI, 220, .inl m_book_4))] H := hP
    have hD : va_D A [(m_a, .inr (12, [.ref m_a_letters, .int m_length, .int m_jumpers, .ref m_a_period, .ref m_a_hang, .ref m_a_st, .ref m_a_now, .ref m_a_book, .int (m_undos - 1), .ref m_a_images, .ref m_a_isKept, .int m_seen, .ref m_a_seenHang, .ref m_a_seenTick, .ref m_a_seenUp, .long m_trail, .int m_place, .int m_wrong, .int m_items, .int m_saidEvery, .int m_readEvery, .int m_readJumpers, .ref m_a_readOne])), (m_a_st, .inl (cI, 22, .inl m_st)), (m_a_book, .inl (cI, 220, .inl m_book_4))] := hD
    refine lv_aload_n hx hb dX12_notes_36 rfl (lv_at hl 0 rfl) ?_
    refine va_get (D := D) (ci := 12) (v := .ref m_a_st) (C := RX12) (T := TX12) (N := 23) hx hb ht iyX12 hown hK hP 0 rfl rfl 5 (by decide) (ht _ wf_X12_19) (fun _ h9 => h9) rfl dX12_notes_37 ?_
    refine lv_iconst (v := 0) hx hb dX12_notes_40 (by decide) ?_
    refine lv_aload_n hx hb dX12_notes_41 rfl (lv_at hl 0 rfl) ?_
    refine va_get (D := D) (ci := 12) (v := .ref m_a_book) (C := RX12) (T := TX12) (N := 23) hx hb ht iyX12 hown hK hP 0 rfl rfl 7 (by decide) (ht _ wf_X12_25) (fun _ h9 => h9) rfl dX12_notes_42 ?_
    refine lv_bipush (v := 22) hx hb dX12_notes_45 (by decide) ?_
    refine lv_aload_n hx hb dX12_notes_47 rfl (lv_at hl 0 rfl) ?_
    refine va_get (D := D) (ci := 12) (v := .int (m_undos - 1)) (C := RX12) (T := TX12) (N := 23) hx hb ht iyX12 hown hK hP 0 rfl rfl 8 (by decide) (ht _ wf_X12_101) (fun _ h9 => h9) rfl dX12_notes_48 ?_
    refine lv_imul hx hb dX12_notes_51 ?_
    refine lv_bipush (v := 22) hx hb dX12_notes_52 (by decide) ?_
    obtain ⟨m_book_6, hc_7, hF⟩ := zb1_s hF
    refine zcs_v (ws1 := [(m_a, .inr (12, [.ref m_a_letters, .int m_length, .int m_jumpers, .ref m_a_period, .ref m_a_hang, .ref m_a_st, .ref m_a_now, .ref m_a_book, .int (m_undos - 1), .ref m_a_images, .ref m_a_isKept, .int m_seen, .ref m_a_seenHang, .ref m_a_seenTick, .ref m_a_seenUp, .long m_trail, .int m_place, .int m_wrong, .int m_items, .int m_saidEvery, .int m_readEvery, .int m_readJumpers, .ref m_a_readOne])), (m_a_st, .inl (cI, 22, .inl m_st)), (m_a_book, .inl (cI, 220, .inl m_book_6))]) S hT lk_X12_119 (c_X12_bring l D cI cZ cS cJ m_a_st m_a_book 22 m_st 220 m_book_4 0 (22 * (m_undos - 1)) 22 hc_7) ⟨rfl, rfl, Nat.le_of_ble_eq_true rfl, Nat.le_of_ble_eq_true rfl⟩ hK hP hD hS hA [1, 2] [0] [0, 1, 2] rfl rfl rfl rfl rfl rfl rfl rfl hl.1 rfl (Nat.le_of_ble_eq_true rfl) dX12_notes_54 ⟨Nat.zero_le _, Nat.zero_le _⟩ (fun H locs hP hD hS => ?_)
    refine lv_aload_n hx hb dX12_notes_57 rfl (lv_at hl 0 rfl) ?_
    refine lv_dup hx hb dX12_notes_58 rfl ?_
    refine va_get (D := D) (ci := 12) (v := .int (m_undos - 1)) (C := RX12) (T := TX12) (N := 23) hx hb ht iyX12 hown hK hP 0 rfl rfl 8 (by decide) (ht _ wf_X12_101) (fun _ h9 => h9) rfl dX12_notes_59 ?_
    refine lv_iconst (v := 1) hx hb dX12_notes_62 (by decide) ?_
    refine lv_iadd hx hb dX12_notes_63 ?_
    refine va_put (D := D) (ci := 12) (v := .int ((m_undos - 1) + 1)) (ty := .int) (C := RX12) (T := TX12) (N := 23) hx hb ht iyX12 tyX12 tyX12_ok nmX12 hown hK hP hD hS 0 rfl rfl 8 (by decide) (ht _ wf_X12_101) (fun _ h9 => h9) rfl (by decide +kernel) rfl rfl (Nat.le_of_ble_eq_true rfl) dX12_notes_64 (fun H locs hP hD hS => ?_)
    have hP : va_P D classes [(m_a, .inr (12, [.ref m_a_letters, .int m_length, .int m_jumpers, .ref m_a_period, .ref m_a_hang, .ref m_a_st, .ref m_a_now, .ref m_a_book, .int ((m_undos - 1) + 1), .ref m_a_images, .ref m_a_isKept, .int m_seen, .ref m_a_seenHang, .ref m_a_seenTick, .ref m_a_seenUp, .long m_trail, .int m_place, .int m_wrong, .int m_items, .int m_saidEvery, .int m_readEvery, .int m_readJumpers, .ref m_a_readOne])), (m_a_st, .inl (cI, 22, .inl m_st)), (m_a_book, .inl (cI, 220, .inl m_book_6))] H := hP
    have hD : va_D A [(m_a, .inr (12, [.ref m_a_letters, .int m_length, .int m_jumpers, .ref m_a_period, .ref m_a_hang, .ref m_a_st, .ref m_a_now, .ref m_a_book, .int ((m_undos - 1) + 1), .ref m_a_images, .ref m_a_isKept, .int m_seen, .ref m_a_seenHang, .ref m_a_seenTick, .ref m_a_seenUp, .long m_trail, .int m_place, .int m_wrong, .int m_items, .int m_saidEvery, .int m_readEvery, .int m_readJumpers, .ref m_a_readOne])), (m_a_st, .inl (cI, 22, .inl m_st)), (m_a_book, .inl (cI, 220, .inl m_book_6))] := hD
    obtain ⟨e_0, e_1⟩ := zo2 hF
    subst e_0
    subst e_1
    exact zret_v S hr hlocks hK hP hD hS dX12_notes_67

theorem lk_X12_140 : zLk RX12 140 yX12_notes cX12_notes 1 none 0 := ⟨⟨wm_X12_140, wo_X12_notes, we_X12_X12_notes, wi_X12, wd_X12_notes⟩, by decide, by decide, by decide +kernel⟩
def F_X12_ticks (m_jumpers : Int32) (m_undos : Int32) (m_period : Nat → Int32) (m_hang : Nat → Int32) (m_st : Nat → Int32) (m_book : Nat → Int32) : Option (Int32 × Int32 × (Nat → Int32) × (Nat → Int32)) :=
  (if (m_st (0 : Int32).toNatClampNeg) = 999 then some ((-2), m_undos, m_st, m_book) else (zb2 (F_X12_notes m_undos m_st m_book) (fun m_undos_2 m_book_3 => (zb2 (F_X12_tickOn m_jumpers m_period m_hang m_st 0) (fun r_5 m_st_6 => some (r_5, m_undos_2, m_st_6, m_book_3))))))
set_option maxHeartbeats 4000000 in
set_option maxRecDepth 100000 in
theorem c_X12_ticks (l : Launch) (D : va_G) (cI cZ cS cJ : ClassId) (m_a : Nat) (m_a_letters : Nat) (m_a_period : Nat) (m_a_hang : Nat) (m_a_st : Nat) (m_a_now : Nat) (m_a_book : Nat) (m_a_images : Nat) (m_a_isKept : Nat) (m_a_seenHang : Nat) (m_a_seenTick : Nat) (m_a_seenUp : Nat) (m_a_readOne : Nat) (m_length : Int32) (m_jumpers : Int32) (m_undos : Int32) (m_seen : Int32) (m_trail : Int64) (m_place : Int32) (m_wrong : Int32) (m_items : Int32) (m_saidEvery : Int32) (m_readEvery : Int32) (m_readJumpers : Int32) (m_period : Nat → Int32) (m_hang : Nat → Int32) (m_st : Nat → Int32) (m_book : Nat → Int32) {r_o : Int32} {m_undos_o : Int32} {m_st_o : Nat → Int32} {m_book_o : Nat → Int32} (hF : F_X12_ticks m_jumpers m_undos m_period m_hang m_st m_book = some (r_o, m_undos_o, m_st_o, m_book_o)) : zMi l yX12_ticks (zwl yX12_ticks cX12_ticks 1 (some .int)) { frames := 2, cells := 0, slots := 0, locals := 47 } D (TYS cI cZ cS cJ) [.ref m_a] [(m_a, .inr (12, [.ref m_a_letters, .int m_length, .int m_jumpers, .ref m_a_period, .ref m_a_hang, .ref m_a_st, .ref m_a_now, .ref m_a_book, .int m_undos, .ref m_a_images, .ref m_a_isKept, .int m_seen, .ref m_a_seenHang, .ref m_a_seenTick, .ref m_a_seenUp, .long m_trail, .int m_place, .int m_wrong, .int m_items, .int m_saidEvery, .int m_readEvery, .int m_readJumpers, .ref m_a_readOne])), (m_a_period, .inl (cI, 6, .inl m_period)), (m_a_hang, .inl (cI, 6, .inl m_hang)), (m_a_st, .inl (cI, 22, .inl m_st)), (m_a_book, .inl (cI, 220, .inl m_book))] [(m_a, .inr (12, [.ref m_a_letters, .int m_length, .int m_jumpers, .ref m_a_period, .ref m_a_hang, .ref m_a_st, .ref m_a_now, .ref m_a_book, .int m_undos_o, .ref m_a_images, .ref m_a_isKept, .int m_seen, .ref m_a_seenHang, .ref m_a_seenTick, .ref m_a_seenUp, .long m_trail, .int m_place, .int m_wrong, .int m_items, .int m_saidEvery, .int m_readEvery, .int m_readJumpers, .ref m_a_readOne])), (m_a_period, .inl (cI, 6, .inl m_period)), (m_a_hang, .inl (cI, 6, .inl m_hang)), (m_a_st, .inl (cI, 22, .inl m_st_o)), (m_a_book, .inl (cI, 220, .inl m_book_o))] r_o := by
  refine zent_i (own := RX12) (by decide) rfl (Nat.le_of_ble_eq_true rfl) ?_
  intro p e s m below meth c A ls S hr hlocks hK hP hD hA hl
  have hx := S.1
  have hb := S.2.1
  have hml := S.2.2.1
  have hown := S.2.2.2.1
  have hT : ∀ w ∈ zt, w ∈ zwl yX12_ticks cX12_ticks 1 (some .int) := fun _ h => List.mem_cons_of_mem _ h
  have ht : ∀ w ∈ zt, w.before [.ref m_a].toArray s = true := fun w h => S.2.2.2.2 w (hT w h)
  have hl : lv_has ls 1 [(0, .ref m_a)] := hl
  have hS : va_S A s.heap s.heap [] := va_S.rf
  unfold F_X12_ticks at hF
  refine lv_aload_n hx hb dX12_ticks_0 rfl (lv_at hl 0 rfl) ?_
  refine va_get (D := D) (ci := 12) (v := .ref m_a_st) (C := RX12) (T := TX12) (N := 23) hx hb ht iyX12 hown hK hP 0 rfl rfl 5 (by decide) (ht _ wf_X12_19) (fun _ h9 => h9) rfl dX12_ticks_1 ?_
  refine lv_iconst (v := 0) hx hb dX12_ticks_4 (by decide) ?_
  refine va_iald hx hb hK hP 3 0 rfl rfl (show ¬ ((0 : Int32) < 0 ∨ 22 ≤ (0 : Int32).toNatClampNeg) by decide) dX12_ticks_5 ?_
  refine lv_sipush (v := 999) hx hb dX12_ticks_6 (by decide) ?_
  refine lv_icmp_ne (tgt := 15) hx hb dX12_ticks_9 (by decide) (fun c_1 => ?_) (fun c_1 => ?_)
  · have hF := zi_neg c_1 hF
    refine lv_aload_n hx hb dX12_ticks_15 rfl (lv_at hl 0 rfl) ?_
    obtain ⟨m_undos_2, m_book_3, hc_4, hF⟩ := zb2_s hF
    refine zcv_v (ws1 := [(m_a, .inr (12, [.ref m_a_letters, .int m_length, .int m_jumpers, .ref m_a_period, .ref m_a_hang, .ref m_a_st, .ref m_a_now, .ref m_a_book, .int m_undos_2, .ref m_a_images, .ref m_a_isKept, .int m_seen, .ref m_a_seenHang, .ref m_a_seenTick, .ref m_a_seenUp, .long m_trail, .int m_place, .int m_wrong, .int m_items, .int m_saidEvery, .int m_readEvery, .int m_readJumpers, .ref m_a_readOne])), (m_a_period, .inl (cI, 6, .inl m_period)), (m_a_hang, .inl (cI, 6, .inl m_hang)), (m_a_st, .inl (cI, 22, .inl m_st)), (m_a_book, .inl (cI, 220, .inl m_book_3))]) S hT lk_X12_140 (c_X12_notes l D cI cZ cS cJ m_a m_a_letters m_a_period m_a_hang m_a_st m_a_now m_a_book m_a_images m_a_isKept m_a_seenHang m_a_seenTick m_a_seenUp m_a_readOne m_length m_jumpers m_undos m_seen m_trail m_place m_wrong m_items m_saidEvery m_readEvery m_readJumpers m_st m_book hc_4) ⟨rfl, rfl, Nat.le_of_ble_eq_true rfl, Nat.le_of_ble_eq_true rfl⟩ hK hP hD hS hA [0, 3, 4] [1, 2] [2, 0, 1, 3, 4] rfl rfl rfl rfl rfl rfl rfl rfl rfl rfl rfl hl.1 rfl (Nat.le_of_ble_eq_true rfl) dX12_ticks_16 ⟨Nat.zero_le _, Nat.zero_le _⟩ (fun H locs hP hD hS => ?_)
    refine lv_aload_n hx hb dX12_ticks_19 rfl (lv_at hl 0 rfl) ?_
    refine lv_aload_n hx hb dX12_ticks_20 rfl (lv_at hl 0 rfl) ?_
    refine va_get (D := D) (ci := 12) (v := .ref m_a_st) (C := RX12) (T := TX12) (N := 23) hx hb ht iyX12 hown hK hP 0 rfl rfl 5 (by decide) (ht _ wf_X12_19) (fun _ h9 => h9) rfl dX12_ticks_21 ?_
    refine lv_iconst (v := 0) hx hb dX12_ticks_24 (by decide) ?_
    obtain ⟨r_5, m_st_6, hc_7, hF⟩ := zb2_s hF
    refine zcv_i (ws1 := [(m_a, .inr (12, [.ref m_a_letters, .int m_length, .int m_jumpers, .ref m_a_period, .ref m_a_hang, .ref m_a_st, .ref m_a_now, .ref m_a_book, .int m_undos_2, .ref m_a_images, .ref m_a_isKept, .int m_seen, .ref m_a_seenHang, .ref m_a_seenTick, .ref m_a_seenUp, .long m_trail, .int m_place, .int m_wrong, .int m_items, .int m_saidEvery, .int m_readEvery, .int m_readJumpers, .ref m_a_readOne])), (m_a_period, .inl (cI, 6, .inl m_period)), (m_a_hang, .inl (cI, 6, .inl m_hang)), (m_a_st, .inl (cI, 22, .inl m_st_6)), (m_a_book, .inl (cI, 220, .inl m_book_3))]) S hT lk_X12_123 (c_X12_tickOn l D cI cZ cS cJ m_a m_a_letters m_a_period m_a_hang m_a_st m_a_now m_a_book m_a_images m_a_isKept m_a_seenHang m_a_seenTick m_a_seenUp m_a_readOne m_a_st m_length m_jumpers m_undos_2 m_seen m_trail m_place m_wrong m_items m_saidEvery m_readEvery m_readJumpers m_period m_hang m_st 0 hc_7) ⟨rfl, rfl, Nat.le_of_ble_eq_true rfl, Nat.le_of_ble_eq_true rfl⟩ hK hP hD hS hA [0, 1, 2, 3] [4] [1, 2, 3, 4, 0] rfl rfl rfl rfl rfl rfl rfl rfl rfl rfl rfl hl.1 rfl (Nat.le_of_ble_eq_true rfl) dX12_ticks_25 ⟨Nat.zero_le _, Nat.zero_le _⟩ (fun H locs hP hD hS => ?_)
    obtain ⟨e_0, e_1, e_2, e_3⟩ := zo4 hF
    subst e_0
    subst e_1
    subst e_2
    subst e_3
    exact zret_i S hr hlocks hK hP hD hS dX12_ticks_28
  · have hF := zi_pos c_1 hF
    refine lv_bipush (v := (-2)) hx hb dX12_ticks_12 (by decide) ?_
    obtain ⟨e_0, e_1, e_2, e_3⟩ := zo4 hF
    subst e_0
    subst e_1
    subst e_2
    subst e_3
    exact zret_i S hr hlocks hK hP hD hS dX12_ticks_14

def F_X12_turns (z : Nat → Int32) (p1 : Int32) : Option ((Nat → Int32)) :=
  (if ((upd z (1 : Int32).toNatClampNeg p1) (2 : Int32).toNatClampNeg) ≤ p1 then some (upd (upd z (1 : Int32).toNatClampNeg p1) (2 : Int32).toNatClampNeg ((upd z (1 : Int32).toNatClampNeg p1) (2 : Int32).toNatClampNeg)) else some (upd (upd z (1 : Int32).toNatClampNeg p1) (2 : Int32).toNatClampNeg p1))
set_option maxHeartbeats 4000000 in
set_option maxRecDepth 100000 in
theorem c_X12_turns (l : Launch) (D : va_G) (cI cZ cS cJ : ClassId) (za : Nat) (z : Nat → Int32) (p1 : Int32) {z_o : Nat → Int32} (hF : F_X12_turns z p1 = some (z_o)) : zMv l yX12_turns (zwl yX12_turns cX12_turns 2 none) { frames := 0, cells := 0, slots := 0, locals := 0 } D (TYS cI cZ cS cJ) [.ref za, .int p1] [(za, .inl (cI, 22, .inl z))] [(za, .inl (cI, 22, .inl z_o))] := by
  refine zent_v (own := RX12) (by decide) rfl (Nat.le_of_ble_eq_true rfl) ?_
  intro p e s m below meth c A ls S hr hlocks hK hP hD hA hl
  have hx := S.1
  have hb := S.2.1
  have hml := S.2.2.1
  have hown := S.2.2.2.1
  have hT : ∀ w ∈ zt, w ∈ zwl yX12_turns cX12_turns 2 none := fun _ h => List.mem_cons_of_mem _ h
  have ht : ∀ w ∈ zt, w.before [.ref za, .int p1].toArray s = true := fun w h => S.2.2.2.2 w (hT w h)
  have hl : lv_has ls 2 [(0, .ref za), (1, .int p1)] := hl
  have hS : va_S A s.heap s.heap [] := va_S.rf
  unfold F_X12_turns at hF
  refine lv_aload_n hx hb dX12_turns_0 rfl (lv_at hl 0 rfl) ?_
  refine lv_iconst (v := 1) hx hb dX12_turns_1 (by decide) ?_
  refine lv_iload_n hx hb dX12_turns_2 rfl (lv_at hl 1 rfl) ?_
  refine va_iast hx hb hK hP hD hS 0 0 rfl rfl (show ¬ ((1 : Int32) < 0 ∨ 22 ≤ (1 : Int32).toNatClampNeg) by decide) dX12_turns_3 (fun H locs hP hD hS => ?_)
  have hP : va_P D classes [(za, .inl (cI, 22, .inl (upd z (1 : Int32).toNatClampNeg p1)))] H := hP
  have hD : va_D A [(za, .inl (cI, 22, .inl (upd z (1 : Int32).toNatClampNeg p1)))] := hD
  refine lv_aload_n hx hb dX12_turns_4 rfl (lv_at hl 0 rfl) ?_
  refine lv_iconst (v := 2) hx hb dX12_turns_5 (by decide) ?_
  refine lv_aload_n hx hb dX12_turns_6 rfl (lv_at hl 0 rfl) ?_
  refine lv_iconst (v := 2) hx hb dX12_turns_7 (by decide) ?_
  refine va_iald hx hb hK hP 0 0 rfl rfl (show ¬ ((2 : Int32) < 0 ∨ 22 ≤ (2 : Int32).toNatClampNeg) by decide) dX12_turns_8 ?_
  refine lv_iload_n hx hb dX12_turns_9 rfl (lv_at hl 1 rfl) ?_
  refine lv_icmp_le (tgt := 17) hx hb dX12_turns_10 (by decide) (fun c_1 => ?_) (fun c_1 => ?_)
  · have hF := zi_pos c_1 hF
    refine lv_aload_n hx hb dX12_turns_17 rfl (lv_at hl 0 rfl) ?_
    refine lv_iconst (v := 2) hx hb dX12_turns_18 (by decide) ?_
    refine va_iald hx hb hK hP 0 0 rfl rfl (show ¬ ((2 : Int32) < 0 ∨ 22 ≤ (2 : Int32).toNatClampNeg) by decide) dX12_turns_19 ?_
    refine va_iast hx hb hK hP hD hS 0 0 rfl rfl (show ¬ ((2 : Int32) < 0 ∨ 22 ≤ (2 : Int32).toNatClampNeg) by decide) dX12_turns_20 (fun H locs hP hD hS => ?_)
    have hP : va_P D classes [(za, .inl (cI, 22, .inl (upd (upd z (1 : Int32).toNatClampNeg p1) (2 : Int32).toNatClampNeg ((upd z (1 : Int32).toNatClampNeg p1) (2 : Int32).toNatClampNeg))))] H := hP
    have hD : va_D A [(za, .inl (cI, 22, .inl (upd (upd z (1 : Int32).toNatClampNeg p1) (2 : Int32).toNatClampNeg ((upd z (1 : Int32).toNatClampNeg p1) (2 : Int32).toNatClampNeg))))] := hD
    have e_0 := zo1 hF
    subst e_0
    exact zret_v S hr hlocks hK hP hD hS dX12_turns_21
  · have hF := zi_neg c_1 hF
    refine lv_iload_n hx hb dX12_turns_13 rfl (lv_at hl 1 rfl) ?_
    refine lv_goto (tgt := 20) hx hb dX12_turns_14 (by decide) ?_
    refine va_iast hx hb hK hP hD hS 0 0 rfl rfl (show ¬ ((2 : Int32) < 0 ∨ 22 ≤ (2 : Int32).toNatClampNeg) by decide) dX12_turns_20 (fun H locs hP hD hS => ?_)
    have hP : va_P D classes [(za, .inl (cI, 22, .inl (upd (upd z (1 : Int32).toNatClampNeg p1) (2 : Int32).toNatClampNeg p1)))] H := hP
    have hD : va_D A [(za, .inl (cI, 22, .inl (upd (upd z (1 : Int32).toNatClampNeg p1) (2 : Int32).toNatClampNeg p1)))] := hD
    have e_0 := zo1 hF
    subst e_0
    exact zret_v S hr hlocks hK hP hD hS dX12_turns_21

theorem lk_X12_143 : zLs RX12 143 yX12_turns cX12_turns 2 none 2 := ⟨⟨wm_X12_143, ws_X12_turns, wi_X12, wd_X12_turns⟩, by decide, by decide, by decide +kernel⟩
def F_X12_speeds (m_undos : Int32) (m_st : Nat → Int32) (m_book : Nat → Int32) (p1 : Int32) : Option (Int32 × Int32 × (Nat → Int32) × (Nat → Int32)) :=
  (zb1 (F_X12_in p1 2 9) (fun r_1 => (if r_1 = 0 then some ((-1), m_undos, m_st, m_book) else (if (m_st (1 : Int32).toNatClampNeg) = p1 then some ((-2), m_undos, m_st, m_book) else (zb2 (F_X12_notes m_undos m_st m_book) (fun m_undos_5 m_book_6 => (zb1 (F_X12_turns m_st p1) (fun m_st_8 => some (m_st (1 : Int32).toNatClampNeg, m_undos_5, m_st_8, m_book_6)))))))))
set_option maxHeartbeats 4000000 in
set_option maxRecDepth 100000 in
theorem c_X12_speeds (l : Launch) (D : va_G) (cI cZ cS cJ : ClassId) (m_a : Nat) (m_a_letters : Nat) (m_a_period : Nat) (m_a_hang : Nat) (m_a_st : Nat) (m_a_now : Nat) (m_a_book : Nat) (m_a_images : Nat) (m_a_isKept : Nat) (m_a_seenHang : Nat) (m_a_seenTick : Nat) (m_a_seenUp : Nat) (m_a_readOne : Nat) (m_length : Int32) (m_jumpers : Int32) (m_undos : Int32) (m_seen : Int32) (m_trail : Int64) (m_place : Int32) (m_wrong : Int32) (m_items : Int32) (m_saidEvery : Int32) (m_readEvery : Int32) (m_readJumpers : Int32) (m_st : Nat → Int32) (m_book : Nat → Int32) (p1 : Int32) {r_o : Int32} {m_undos_o : Int32} {m_st_o : Nat → Int32} {m_book_o : Nat → Int32} (hF : F_X12_speeds m_undos m_st m_book p1 = some (r_o, m_undos_o, m_st_o, m_book_o)) : zMi l yX12_speeds (zwl yX12_speeds cX12_speeds 3 (some .int)) { frames := 2, cells := 0, slots := 0, locals := 45 } D (TYS cI cZ cS cJ) [.ref m_a, .int p1] [(m_a, .inr (12, [.ref m_a_letters, .int m_length, .int m_jumpers, .ref m_a_period, .ref m_a_hang, .ref m_a_st, .ref m_a_now, .ref m_a_book, .int m_undos, .ref m_a_images, .ref m_a_isKept, .int m_seen, .ref m_a_seenHang, .ref m_a_seenTick, .ref m_a_seenUp, .long m_trail, .int m_place, .int m_wrong, .int m_items, .int m_saidEvery, .int m_readEvery, .int m_readJumpers, .ref m_a_readOne])), (m_a_st, .inl (cI, 22, .inl m_st)), (m_a_book, .inl (cI, 220, .inl m_book))] [(m_a, .inr (12, [.ref m_a_letters, .int m_length, .int m_jumpers, .ref m_a_period, .ref m_a_hang, .ref m_a_st, .ref m_a_now, .ref m_a_book, .int m_undos_o, .ref m_a_images, .ref m_a_isKept, .int m_seen, .ref m_a_seenHang, .ref m_a_seenTick, .ref m_a_seenUp, .long m_trail, .int m_place, .int m_wrong, .int m_items, .int m_saidEvery, .int m_readEvery, .int m_readJumpers, .ref m_a_readOne])), (m_a_st, .inl (cI, 22, .inl m_st_o)), (m_a_book, .inl (cI, 220, .inl m_book_o))] r_o := by
  refine zent_i (own := RX12) (by decide) rfl (Nat.le_of_ble_eq_true rfl) ?_
  intro p e s m below meth c A ls S hr hlocks hK hP hD hA hl
  have hx := S.1
  have hb := S.2.1
  have hml := S.2.2.1
  have hown := S.2.2.2.1
  have hT : ∀ w ∈ zt, w ∈ zwl yX12_speeds cX12_speeds 3 (some .int) := fun _ h => List.mem_cons_of_mem _ h
  have ht : ∀ w ∈ zt, w.before [.ref m_a, .int p1].toArray s = true := fun w h => S.2.2.2.2 w (hT w h)
  have hl : lv_has ls 3 [(0, .ref m_a), (1, .int p1)] := hl
  have hS : va_S A s.heap s.heap [] := va_S.rf
  unfold F_X12_speeds at hF
  refine lv_iload_n hx hb dX12_speeds_0 rfl (lv_at hl 1 rfl) ?_
  refine lv_iconst (v := 2) hx hb dX12_speeds_1 (by decide) ?_
  refine lv_bipush (v := 9) hx hb dX12_speeds_2 (by decide) ?_
  obtain ⟨r_1, hc_2, hF⟩ := zb1_s hF
  refine zcs_i (ws1 := [(m_a, .inr (12, [.ref m_a_letters, .int m_length, .int m_jumpers, .ref m_a_period, .ref m_a_hang, .ref m_a_st, .ref m_a_now, .ref m_a_book, .int m_undos, .ref m_a_images, .ref m_a_isKept, .int m_seen, .ref m_a_seenHang, .ref m_a_seenTick, .ref m_a_seenUp, .long m_trail, .int m_place, .int m_wrong, .int m_items, .int m_saidEvery, .int m_readEvery, .int m_readJumpers, .ref m_a_readOne])), (m_a_st, .inl (cI, 22, .inl m_st)), (m_a_book, .inl (cI, 220, .inl m_book))]) S hT lk_X12_51 (c_X12_in l D cI cZ cS cJ p1 2 9 hc_2) ⟨rfl, rfl, Nat.le_of_ble_eq_true rfl, Nat.le_of_ble_eq_true rfl⟩ hK hP hD hS hA [] [0, 1, 2] [0, 1, 2] rfl rfl rfl rfl rfl rfl rfl rfl hl.1 rfl (Nat.le_of_ble_eq_true rfl) dX12_speeds_4 ⟨Nat.zero_le _, Nat.zero_le _⟩ (fun H locs hP hD hS => ?_)
  refine lv_if_ne (tgt := 12) hx hb dX12_speeds_7 (by decide) (fun c_3 => ?_) (fun c_3 => ?_)
  · have hF := zi_neg c_3 hF
    refine lv_aload_n hx hb dX12_speeds_12 rfl (lv_at hl 0 rfl) ?_
    refine va_get (D := D) (ci := 12) (v := .ref m_a_st) (C := RX12) (T := TX12) (N := 23) hx hb ht iyX12 hown hK hP 0 rfl rfl 5 (by decide) (ht _ wf_X12_19) (fun _ h9 => h9) rfl dX12_speeds_13 ?_
    refine lv_iconst (v := 1) hx hb dX12_speeds_16 (by decide) ?_
    refine va_iald hx hb hK hP 1 0 rfl rfl (show ¬ ((1 : Int32) < 0 ∨ 22 ≤ (1 : Int32).toNatClampNeg) by decide) dX12_speeds_17 ?_
    refine lv_iload_n hx hb dX12_speeds_18 rfl (lv_at hl 1 rfl) ?_
    refine lv_icmp_ne (tgt := 25) hx hb dX12_speeds_19 (by decide) (fun c_4 => ?_) (fun c_4 => ?_)
    · have hF := zi_neg c_4 hF
      refine lv_aload_n hx hb dX12_speeds_25 rfl (lv_at hl 0 rfl) ?_
      refine va_get (D := D) (ci := 12) (v := .ref m_a_st) (C := RX12) (T := TX12) (N := 23) hx hb ht iyX12 hown hK hP 0 rfl rfl 5 (by decide) (ht _ wf_X12_19) (fun _ h9 => h9) rfl dX12_speeds_26 ?_
      refine lv_iconst (v := 1) hx hb dX12_speeds_29 (by decide) ?_
      refine va_iald hx hb hK hP 1 0 rfl rfl (show ¬ ((1 : Int32) < 0 ∨ 22 ≤ (1 : Int32).toNatClampNeg) by decide) dX12_speeds_30 ?_
      refine lv_istore_n (lv' := [(2, .int (m_st (1 : Int32).toNatClampNeg)), (0, .ref m_a), (1, .int p1)]) hx hb dX12_speeds_31 rfl hl (by decide) rfl (fun ls hl => ?_)
      refine lv_aload_n hx hb dX12_speeds_32 rfl (lv_at hl 1 rfl) ?_
      obtain ⟨m_undos_5, m_book_6, hc_7, hF⟩ := zb2_s hF
      refine zcv_v (ws1 := [(m_a, .inr (12, [.ref m_a_letters, .int m_length, .int m_jumpers, .ref m_a_period, .ref m_a_hang, .ref m_a_st, .ref m_a_now, .ref m_a_book, .int m_undos_5, .ref m_a_images, .ref m_a_isKept, .int m_seen, .ref m_a_seenHang, .ref m_a_seenTick, .ref m_a_seenUp, .long m_trail, .int m_place, .int m_wrong, .int m_items, .int m_saidEvery, .int m_readEvery, .int m_readJumpers, .ref m_a_readOne])), (m_a_st, .inl (cI, 22, .inl m_st)), (m_a_book, .inl (cI, 220, .inl m_book_6))]) S hT lk_X12_140 (c_X12_notes l D cI cZ cS cJ m_a m_a_letters m_a_period m_a_hang m_a_st m_a_now m_a_book m_a_images m_a_isKept m_a_seenHang m_a_seenTick m_a_seenUp m_a_readOne m_length m_jumpers m_undos m_seen m_trail m_place m_wrong m_items m_saidEvery m_readEvery m_readJumpers m_st m_book hc_7) ⟨rfl, rfl, Nat.le_of_ble_eq_true rfl, Nat.le_of_ble_eq_true rfl⟩ hK hP hD hS hA [0, 1, 2] [] [0, 1, 2] rfl rfl rfl rfl rfl rfl rfl rfl rfl rfl rfl hl.1 rfl (Nat.le_of_ble_eq_true rfl) dX12_speeds_33 ⟨Nat.zero_le _, Nat.zero_le _⟩ (fun H locs hP hD hS => ?_)
      refine lv_aload_n hx hb dX12_speeds_36 rfl (lv_at hl 1 rfl) ?_
      refine va_get (D := D) (ci := 12) (v := .ref m_a_st) (C := RX12) (T := TX12) (N := 23) hx hb ht iyX12 hown hK hP 0 rfl rfl 5 (by decide) (ht _ wf_X12_19) (fun _ h9 => h9) rfl dX12_speeds_37 ?_
      refine lv_iload_n hx hb dX12_speeds_40 rfl (lv_at hl 2 rfl) ?_
      obtain ⟨m_st_8, hc_9, hF⟩ := zb1_s hF
      refine zcs_v (ws1 := [(m_a, .inr (12, [.ref m_a_letters, .int m_length, .int m_jumpers, .ref m_a_period, .ref m_a_hang, .ref m_a_st, .ref m_a_now, .ref m_a_book, .int m_undos_5, .ref m_a_images, .ref m_a_isKept, .int m_seen, .ref m_a_seenHang, .ref m_a_seenTick, .ref m_a_seenUp, .long m_trail, .int m_place, .int m_wrong, .int m_items, .int m_saidEvery, .int m_readEvery, .int m_readJumpers, .ref m_a_readOne])), (m_a_st, .inl (cI, 22, .inl m_st_8)), (m_a_book, .inl (cI, 220, .inl m_book_6))]) S hT lk_X12_143 (c_X12_turns l D cI cZ cS cJ m_a_st m_st p1 hc_9) ⟨rfl, rfl, Nat.le_of_ble_eq_true rfl, Nat.le_of_ble_eq_true rfl⟩ hK hP hD hS hA [1] [0, 2] [0, 2, 1] rfl rfl rfl rfl rfl rfl rfl rfl hl.1 rfl (Nat.le_of_ble_eq_true rfl) dX12_speeds_41 ⟨Nat.zero_le _, Nat.zero_le _⟩ (fun H locs hP hD hS => ?_)
      refine lv_iload_n hx hb dX12_speeds_44 rfl (lv_at hl 0 rfl) ?_
      obtain ⟨e_0, e_1, e_2, e_3⟩ := zo4 hF
      subst e_0
      subst e_1
      subst e_2
      subst e_3
      exact zret_i S hr hlocks hK hP hD hS dX12_speeds_45
    · have hF := zi_pos c_4 hF
      refine lv_bipush (v := (-2)) hx hb dX12_speeds_22 (by decide) ?_
      obtain ⟨e_0, e_1, e_2, e_3⟩ := zo4 hF
      subst e_0
      subst e_1
      subst e_2
      subst e_3
      exact zret_i S hr hlocks hK hP hD hS dX12_speeds_24
  · have hF := zi_pos c_3 hF
    refine lv_iconst (v := (-1)) hx hb dX12_speeds_10 (by decide) ?_
    obtain ⟨e_0, e_1, e_2, e_3⟩ := zo4 hF
    subst e_0
    subst e_1
    subst e_2
    subst e_3
    exact zret_i S hr hlocks hK hP hD hS dX12_speeds_11

theorem lk_X12_146 : zLs RX12 146 yX12_bits cX12_bits 3 (some .int) 1 := ⟨⟨wm_X12_146, ws_X12_bits, wi_X12, wd_X12_bits⟩, by decide, by decide, by decide +kernel⟩
def F_X12_goes (m_jumpers : Int32) (m_undos : Int32) (m_st : Nat → Int32) (m_book : Nat → Int32) (p1 : Int32) : Option (Int32 × Int32 × (Nat → Int32) × (Nat → Int32)) :=
  (zb1 (F_X12_isJumper m_jumpers p1) (fun r_1 => (if r_1 = 0 then some ((-1), m_undos, m_st, m_book) else (zb1 (F_X12_has (m_st (3 : Int32).toNatClampNeg) p1) (fun r_4 => (if r_4 = 0 then some ((-2), m_undos, m_st, m_book) else (zb2 (F_X12_notes m_undos m_st m_book) (fun m_undos_7 m_book_8 => (zb1 (F_X12_outs m_st p1) (fun m_st_10 => (zb1 (F_X12_bits (m_st_10 (3 : Int32).toNatClampNeg)) (fun r_12 => some (r_12, m_undos_7, m_st_10, m_book_8)))))))))))))
set_option maxHeartbeats 4000000 in
set_option maxRecDepth 100000 in
theorem c_X12_goes (l : Launch) (D : va_G) (cI cZ cS cJ : ClassId) (m_a : Nat) (m_a_letters : Nat) (m_a_period : Nat) (m_a_hang : Nat) (m_a_st : Nat) (m_a_now : Nat) (m_a_book : Nat) (m_a_images : Nat) (m_a_isKept : Nat) (m_a_seenHang : Nat) (m_a_seenTick : Nat) (m_a_seenUp : Nat) (m_a_readOne : Nat) (m_length : Int32) (m_jumpers : Int32) (m_undos : Int32) (m_seen : Int32) (m_trail : Int64) (m_place : Int32) (m_wrong : Int32) (m_items : Int32) (m_saidEvery : Int32) (m_readEvery : Int32) (m_readJumpers : Int32) (m_st : Nat → Int32) (m_book : Nat → Int32) (p1 : Int32) {r_o : Int32} {m_undos_o : Int32} {m_st_o : Nat → Int32} {m_book_o : Nat → Int32} (hF : F_X12_goes m_jumpers m_undos m_st m_book p1 = some (r_o, m_undos_o, m_st_o, m_book_o)) : zMi l yX12_goes (zwl yX12_goes cX12_goes 2 (some .int)) { frames := 2, cells := 0, slots := 0, locals := 45 } D (TYS cI cZ cS cJ) [.ref m_a, .int p1] [(m_a, .inr (12, [.ref m_a_letters, .int m_length, .int m_jumpers, .ref m_a_period, .ref m_a_hang, .ref m_a_st, .ref m_a_now, .ref m_a_book, .int m_undos, .ref m_a_images, .ref m_a_isKept, .int m_seen, .ref m_a_seenHang, .ref m_a_seenTick, .ref m_a_seenUp, .long m_trail, .int m_place, .int m_wrong, .int m_items, .int m_saidEvery, .int m_readEvery, .int m_readJumpers, .ref m_a_readOne])), (m_a_st, .inl (cI, 22, .inl m_st)), (m_a_book, .inl (cI, 220, .inl m_book))] [(m_a, .inr (12, [.ref m_a_letters, .int m_length, .int m_jumpers, .ref m_a_period, .ref m_a_hang, .ref m_a_st, .ref m_a_now, .ref m_a_book, .int m_undos_o, .ref m_a_images, .ref m_a_isKept, .int m_seen, .ref m_a_seenHang, .ref m_a_seenTick, .ref m_a_seenUp, .long m_trail, .int m_place, .int m_wrong, .int m_items, .int m_saidEvery, .int m_readEvery, .int m_readJumpers, .ref m_a_readOne])), (m_a_st, .inl (cI, 22, .inl m_st_o)), (m_a_book, .inl (cI, 220, .inl m_book_o))] r_o := by
  refine zent_i (own := RX12) (by decide) rfl (Nat.le_of_ble_eq_true rfl) ?_
  intro p e s m below meth c A ls S hr hlocks hK hP hD hA hl
  have hx := S.1
  have hb := S.2.1
  have hml := S.2.2.1
  have hown := S.2.2.2.1
  have hT : ∀ w ∈ zt, w ∈ zwl yX12_goes cX12_goes 2 (some .int) := fun _ h => List.mem_cons_of_mem _ h
  have ht : ∀ w ∈ zt, w.before [.ref m_a, .int p1].toArray s = true := fun w h => S.2.2.2.2 w (hT w h)
  have hl : lv_has ls 2 [(0, .ref m_a), (1, .int p1)] := hl
  have hS : va_S A s.heap s.heap [] := va_S.rf
  unfold F_X12_goes at hF
  refine lv_aload_n hx hb dX12_goes_0 rfl (lv_at hl 0 rfl) ?_
  refine lv_iload_n hx hb dX12_goes_1 rfl (lv_at hl 1 rfl) ?_
  obtain ⟨r_1, hc_2, hF⟩ := zb1_s hF
  refine zcv_i (ws1 := [(m_a, .inr (12, [.ref m_a_letters, .int m_length, .int m_jumpers, .ref m_a_period, .ref m_a_hang, .ref m_a_st, .ref m_a_now, .ref m_a_book, .int m_undos, .ref m_a_images, .ref m_a_isKept, .int m_seen, .ref m_a_seenHang, .ref m_a_seenTick, .ref m_a_seenUp, .long m_trail, .int m_place, .int m_wrong, .int m_items, .int m_saidEvery, .int m_readEvery, .int m_readJumpers, .ref m_a_readOne])), (m_a_st, .inl (cI, 22, .inl m_st)), (m_a_book, .inl (cI, 220, .inl m_book))]) S hT lk_X12_127 (c_X12_isJumper l D cI cZ cS cJ m_a m_a_letters m_a_period m_a_hang m_a_st m_a_now m_a_book m_a_images m_a_isKept m_a_seenHang m_a_seenTick m_a_seenUp m_a_readOne m_length m_jumpers m_undos m_seen m_trail m_place m_wrong m_items m_saidEvery m_readEvery m_readJumpers p1 hc_2) ⟨rfl, rfl, Nat.le_of_ble_eq_true rfl, Nat.le_of_ble_eq_true rfl⟩ hK hP hD hS hA [0] [1, 2] [2, 0, 1] rfl rfl rfl rfl rfl rfl rfl rfl rfl rfl rfl hl.1 rfl (Nat.le_of_ble_eq_true rfl) dX12_goes_2 ⟨Nat.zero_le _, Nat.zero_le _⟩ (fun H locs hP hD hS => ?_)
  refine lv_if_ne (tgt := 10) hx hb dX12_goes_5 (by decide) (fun c_3 => ?_) (fun c_3 => ?_)
  · have hF := zi_neg c_3 hF
    refine lv_aload_n hx hb dX12_goes_10 rfl (lv_at hl 0 rfl) ?_
    refine va_get (D := D) (ci := 12) (v := .ref m_a_st) (C := RX12) (T := TX12) (N := 23) hx hb ht iyX12 hown hK hP 0 rfl rfl 5 (by decide) (ht _ wf_X12_19) (fun _ h9 => h9) rfl dX12_goes_11 ?_
    refine lv_iconst (v := 3) hx hb dX12_goes_14 (by decide) ?_
    refine va_iald hx hb hK hP 1 0 rfl rfl (show ¬ ((3 : Int32) < 0 ∨ 22 ≤ (3 : Int32).toNatClampNeg) by decide) dX12_goes_15 ?_
    refine lv_iload_n hx hb dX12_goes_16 rfl (lv_at hl 1 rfl) ?_
    obtain ⟨r_4, hc_5, hF⟩ := zb1_s hF
    refine zcs_i (ws1 := [(m_a, .inr (12, [.ref m_a_letters, .int m_length, .int m_jumpers, .ref m_a_period, .ref m_a_hang, .ref m_a_st, .ref m_a_now, .ref m_a_book, .int m_undos, .ref m_a_images, .ref m_a_isKept, .int m_seen, .ref m_a_seenHang, .ref m_a_seenTick, .ref m_a_seenUp, .long m_trail, .int m_place, .int m_wrong, .int m_items, .int m_saidEvery, .int m_readEvery, .int m_readJumpers, .ref m_a_readOne])), (m_a_st, .inl (cI, 22, .inl m_st)), (m_a_book, .inl (cI, 220, .inl m_book))]) S hT lk_X12_107 (c_X12_has l D cI cZ cS cJ (m_st (3 : Int32).toNatClampNeg) p1 hc_5) ⟨rfl, rfl, Nat.le_of_ble_eq_true rfl, Nat.le_of_ble_eq_true rfl⟩ hK hP hD hS hA [] [0, 1, 2] [0, 1, 2] rfl rfl rfl rfl rfl rfl rfl rfl hl.1 rfl (Nat.le_of_ble_eq_true rfl) dX12_goes_17 ⟨Nat.zero_le _, Nat.zero_le _⟩ (fun H locs hP hD hS => ?_)
    refine lv_if_ne (tgt := 26) hx hb dX12_goes_20 (by decide) (fun c_6 => ?_) (fun c_6 => ?_)
    · have hF := zi_neg c_6 hF
      refine lv_aload_n hx hb dX12_goes_26 rfl (lv_at hl 0 rfl) ?_
      obtain ⟨m_undos_7, m_book_8, hc_9, hF⟩ := zb2_s hF
      refine zcv_v (ws1 := [(m_a, .inr (12, [.ref m_a_letters, .int m_length, .int m_jumpers, .ref m_a_period, .ref m_a_hang, .ref m_a_st, .ref m_a_now, .ref m_a_book, .int m_undos_7, .ref m_a_images, .ref m_a_isKept, .int m_seen, .ref m_a_seenHang, .ref m_a_seenTick, .ref m_a_seenUp, .long m_trail, .int m_place, .int m_wrong, .int m_items, .int m_saidEvery, .int m_readEvery, .int m_readJumpers, .ref m_a_readOne])), (m_a_st, .inl (cI, 22, .inl m_st)), (m_a_book, .inl (cI, 220, .inl m_book_8))]) S hT lk_X12_140 (c_X12_notes l D cI cZ cS cJ m_a m_a_letters m_a_period m_a_hang m_a_st m_a_now m_a_book m_a_images m_a_isKept m_a_seenHang m_a_seenTick m_a_seenUp m_a_readOne m_length m_jumpers m_undos m_seen m_trail m_place m_wrong m_items m_saidEvery m_readEvery m_readJumpers m_st m_book hc_9) ⟨rfl, rfl, Nat.le_of_ble_eq_true rfl, Nat.le_of_ble_eq_true rfl⟩ hK hP hD hS hA [0, 1, 2] [] [0, 1, 2] rfl rfl rfl rfl rfl rfl rfl rfl rfl rfl rfl hl.1 rfl (Nat.le_of_ble_eq_true rfl) dX12_goes_27 ⟨Nat.zero_le _, Nat.zero_le _⟩ (fun H locs hP hD hS => ?_)
      refine lv_aload_n hx hb dX12_goes_30 rfl (lv_at hl 0 rfl) ?_
      refine lv_aload_n hx hb dX12_goes_31 rfl (lv_at hl 0 rfl) ?_
      refine va_get (D := D) (ci := 12) (v := .ref m_a_st) (C := RX12) (T := TX12) (N := 23) hx hb ht iyX12 hown hK hP 0 rfl rfl 5 (by decide) (ht _ wf_X12_19) (fun _ h9 => h9) rfl dX12_goes_32 ?_
      refine lv_iload_n hx hb dX12_goes_35 rfl (lv_at hl 1 rfl) ?_
      obtain ⟨m_st_10, hc_11, hF⟩ := zb1_s hF
      refine zcv_v (ws1 := [(m_a, .inr (12, [.ref m_a_letters, .int m_length, .int m_jumpers, .ref m_a_period, .ref m_a_hang, .ref m_a_st, .ref m_a_now, .ref m_a_book, .int m_undos_7, .ref m_a_images, .ref m_a_isKept, .int m_seen, .ref m_a_seenHang, .ref m_a_seenTick, .ref m_a_seenUp, .long m_trail, .int m_place, .int m_wrong, .int m_items, .int m_saidEvery, .int m_readEvery, .int m_readJumpers, .ref m_a_readOne])), (m_a_st, .inl (cI, 22, .inl m_st_10)), (m_a_book, .inl (cI, 220, .inl m_book_8))]) S hT lk_X12_115 (c_X12_outs l D cI cZ cS cJ m_a m_a_letters m_a_period m_a_hang m_a_st m_a_now m_a_book m_a_images m_a_isKept m_a_seenHang m_a_seenTick m_a_seenUp m_a_readOne m_a_st m_length m_jumpers m_undos_7 m_seen m_trail m_place m_wrong m_items m_saidEvery m_readEvery m_readJumpers m_st p1 hc_11) ⟨rfl, rfl, Nat.le_of_ble_eq_true rfl, Nat.le_of_ble_eq_true rfl⟩ hK hP hD hS hA [0, 1] [2] [1, 2, 0] rfl rfl rfl rfl rfl rfl rfl rfl rfl rfl rfl hl.1 rfl (Nat.le_of_ble_eq_true rfl) dX12_goes_36 ⟨Nat.zero_le _, Nat.zero_le _⟩ (fun H locs hP hD hS => ?_)
      refine lv_aload_n hx hb dX12_goes_39 rfl (lv_at hl 0 rfl) ?_
      refine va_get (D := D) (ci := 12) (v := .ref m_a_st) (C := RX12) (T := TX12) (N := 23) hx hb ht iyX12 hown hK hP 0 rfl rfl 5 (by decide) (ht _ wf_X12_19) (fun _ h9 => h9) rfl dX12_goes_40 ?_
      refine lv_iconst (v := 3) hx hb dX12_goes_43 (by decide) ?_
      refine va_iald hx hb hK hP 1 0 rfl rfl (show ¬ ((3 : Int32) < 0 ∨ 22 ≤ (3 : Int32).toNatClampNeg) by decide) dX12_goes_44 ?_
      obtain ⟨r_12, hc_13, hF⟩ := zb1_s hF
      refine zcs_i (ws1 := [(m_a, .inr (12, [.ref m_a_letters, .int m_length, .int m_jumpers, .ref m_a_period, .ref m_a_hang, .ref m_a_st, .ref m_a_now, .ref m_a_book, .int m_undos_7, .ref m_a_images, .ref m_a_isKept, .int m_seen, .ref m_a_seenHang, .ref m_a_seenTick, .ref m_a_seenUp, .long m_trail, .int m_place, .int m_wrong, .int m_items, .int m_saidEvery, .int m_readEvery, .int m_readJumpers, .ref m_a_readOne])), (m_a_st, .inl (cI, 22, .inl m_st_10)), (m_a_book, .inl (cI, 220, .inl m_book_8))]) S hT lk_X12_146 (c_X12_bits l D cI cZ cS cJ (m_st_10 (3 : Int32).toNatClampNeg) hc_13) ⟨rfl, rfl, Nat.le_of_ble_eq_true rfl, Nat.le_of_ble_eq_true rfl⟩ hK hP hD hS hA [] [0, 1, 2] [0, 1, 2] rfl rfl rfl rfl rfl rfl rfl rfl hl.1 rfl (Nat.le_of_ble_eq_true rfl) dX12_goes_45 ⟨Nat.zero_le _, Nat.zero_le _⟩ (fun H locs hP hD hS => ?_)
      obtain ⟨e_0, e_1, e_2, e_3⟩ := zo4 hF
      subst e_0
      subst e_1
      subst e_2
      subst e_3
      exact zret_i S hr hlocks hK hP hD hS dX12_goes_48
    · have hF := zi_pos c_6 hF
      refine lv_bipush (v := (-2)) hx hb dX12_goes_23 (by decide) ?_
      obtain ⟨e_0, e_1, e_2, e_3⟩ := zo4 hF
      subst e_0
      subst e_1
      subst e_2
      subst e_3
      exact zret_i S hr hlocks hK hP hD hS dX12_goes_25
  · have hF := zi_pos c_3 hF
    refine lv_iconst (v := (-1)) hx hb dX12_goes_8 (by decide) ?_
    obtain ⟨e_0, e_1, e_2, e_3⟩ := zo4 hF
    subst e_0
    subst e_1
    subst e_2
    subst e_3
    exact zret_i S hr hlocks hK hP hD hS dX12_goes_9

def F_X12_enters (z : Nat → Int32) (p1 : Int32) (p2 : Int32) : Option ((Nat → Int32)) :=
  (if ((4 + p1) < 0 ∨ 22 ≤ (4 + p1).toNatClampNeg) then none else (if ((10 + p1) < 0 ∨ 22 ≤ (10 + p1).toNatClampNeg) then none else some (upd (upd (upd z (3 : Int32).toNatClampNeg ((z (3 : Int32).toNatClampNeg) ||| ((1 : Int32) <<< (p1 &&& 31)))) (4 + p1).toNatClampNeg 0) (10 + p1).toNatClampNeg p2)))
set_option maxHeartbeats 4000000 in
set_option maxRecDepth 100000 in
theorem c_X12_enters (l : Launch) (D : va_G) (cI cZ cS cJ : ClassId) (za : Nat) (z : Nat → Int32) (p1 : Int32) (p2 : Int32) {z_o : Nat → Int32} (hF : F_X12_enters z p1 p2 = some (z_o)) : zMv l yX12_enters (zwl yX12_enters cX12_enters 3 none) { frames := 0, cells := 0, slots := 0, locals := 0 } D (TYS cI cZ cS cJ) [.ref za, .int p1, .int p2] [(za, .inl (cI, 22, .inl z))] [(za, .inl (cI, 22, .inl z_o))] := by
  refine zent_v (own := RX12) (by decide) rfl (Nat.le_of_ble_eq_true rfl) ?_
  intro p e s m below meth c A ls S hr hlocks hK hP hD hA hl
  have hx := S.1
  have hb := S.2.1
  have hml := S.2.2.1
  have hown := S.2.2.2.1
  have hT : ∀ w ∈ zt, w ∈ zwl yX12_enters cX12_enters 3 none := fun _ h => List.mem_cons_of_mem _ h
  have ht : ∀ w ∈ zt, w.before [.ref za, .int p1, .int p2].toArray s = true := fun w h => S.2.2.2.2 w (hT w h)
  have hl : lv_has ls 3 [(0, .ref za), (1, .int p1), (2, .int p2)] := hl
  have hS : va_S A s.heap s.heap [] := va_S.rf
  unfold F_X12_enters at hF
  refine lv_aload_n hx hb dX12_enters_0 rfl (lv_at hl 0 rfl) ?_
  refine lv_iconst (v := 3) hx hb dX12_enters_1 (by decide) ?_
  refine lv_dup2_11 hx hb dX12_enters_2 rfl rfl ?_
  refine va_iald hx hb hK hP 0 0 rfl rfl (show ¬ ((3 : Int32) < 0 ∨ 22 ≤ (3 : Int32).toNatClampNeg) by decide) dX12_enters_3 ?_
  refine lv_iconst (v := 1) hx hb dX12_enters_4 (by decide) ?_
  refine lv_iload_n hx hb dX12_enters_5 rfl (lv_at hl 1 rfl) ?_
  refine lv_ishl hx hb dX12_enters_6 ?_
  refine lv_ior hx hb dX12_enters_7 ?_
  refine va_iast hx hb hK hP hD hS 0 0 rfl rfl (show ¬ ((3 : Int32) < 0 ∨ 22 ≤ (3 : Int32).toNatClampNeg) by decide) dX12_enters_8 (fun H locs hP hD hS => ?_)
  have hP : va_P D classes [(za, .inl (cI, 22, .inl (upd z (3 : Int32).toNatClampNeg ((z (3 : Int32).toNatClampNeg) ||| ((1 : Int32) <<< (p1 &&& 31))))))] H := hP
  have hD : va_D A [(za, .inl (cI, 22, .inl (upd z (3 : Int32).toNatClampNeg ((z (3 : Int32).toNatClampNeg) ||| ((1 : Int32) <<< (p1 &&& 31))))))] := hD
  refine lv_aload_n hx hb dX12_enters_9 rfl (lv_at hl 0 rfl) ?_
  refine lv_iconst (v := 4) hx hb dX12_enters_10 (by decide) ?_
  refine lv_iload_n hx hb dX12_enters_11 rfl (lv_at hl 1 rfl) ?_
  refine lv_iadd hx hb dX12_enters_12 ?_
  refine lv_iconst (v := 0) hx hb dX12_enters_13 (by decide) ?_
  obtain ⟨h_1, hF⟩ := zi_chk hF
  refine va_iast hx hb hK hP hD hS 0 0 rfl rfl h_1 dX12_enters_14 (fun H locs hP hD hS => ?_)
  have hP : va_P D classes [(za, .inl (cI, 22, .inl (upd (upd z (3 : Int32).toNatClampNeg ((z (3 : Int32).toNatClampNeg) ||| ((1 : Int32) <<< (p1 &&& 31)))) (4 + p1).toNatClampNeg 0)))] H := hP
  have hD : va_D A [(za, .inl (cI, 22, .inl (upd (upd z (3 : Int32).toNatClampNeg ((z (3 : Int32).toNatClampNeg) ||| ((1 : Int32) <<< (p1 &&& 31)))) (4 + p1).toNatClampNeg 0)))] := hD
  refine lv_aload_n hx hb dX12_enters_15 rfl (lv_at hl 0 rfl) ?_
  refine lv_bipush (v := 10) hx hb dX12_enters_16 (by decide) ?_
  refine lv_iload_n hx hb dX12_enters_18 rfl (lv_at hl 1 rfl) ?_
  refine lv_iadd hx hb dX12_enters_19 ?_
  refine lv_iload_n hx hb dX12_enters_20 rfl (lv_at hl 2 rfl) ?_
  obtain ⟨h_2, hF⟩ := zi_chk hF
  refine va_iast hx hb hK hP hD hS 0 0 rfl rfl h_2 dX12_enters_21 (fun H locs hP hD hS => ?_)
  have hP : va_P D classes [(za, .inl (cI, 22, .inl (upd (upd (upd z (3 : Int32).toNatClampNeg ((z (3 : Int32).toNatClampNeg) ||| ((1 : Int32) <<< (p1 &&& 31)))) (4 + p1).toNatClampNeg 0) (10 + p1).toNatClampNeg p2)))] H := hP
  have hD : va_D A [(za, .inl (cI, 22, .inl (upd (upd (upd z (3 : Int32).toNatClampNeg ((z (3 : Int32).toNatClampNeg) ||| ((1 : Int32) <<< (p1 &&& 31)))) (4 + p1).toNatClampNeg 0) (10 + p1).toNatClampNeg p2)))] := hD
  have e_0 := zo1 hF
  subst e_0
  exact zret_v S hr hlocks hK hP hD hS dX12_enters_22

theorem lk_X12_149 : zLs RX12 149 yX12_enters cX12_enters 3 none 3 := ⟨⟨wm_X12_149, ws_X12_enters, wi_X12, wd_X12_enters⟩, by decide, by decide, by decide +kernel⟩
def F_X12_comes (m_jumpers : Int32) (m_undos : Int32) (m_st : Nat → Int32) (m_book : Nat → Int32) (p1 : Int32) (p2 : Int32) : Option (Int32 × Int32 × (Nat → Int32) × (Nat → Int32)) :=
  (zb1 (F_X12_isJumper m_jumpers p1) (fun r_1 => (if r_1 = 0 then some ((-1), m_undos, m_st, m_book) else (zb1 (F_X12_in p2 0 11) (fun r_4 => (if r_4 = 0 then some ((-1), m_undos, m_st, m_book) else (zb1 (F_X12_has (m_st (3 : Int32).toNatClampNeg) p1) (fun r_7 => (if r_7 = 0 then (zb2 (F_X12_notes m_undos m_st m_book) (fun m_undos_10 m_book_11 => (zb1 (F_X12_enters m_st p1 p2) (fun m_st_13 => (zb1 (F_X12_bits (m_st_13 (3 : Int32).toNatClampNeg)) (fun r_15 => some (r_15, m_undos_10, m_st_13, m_book_11))))))) else some ((-2), m_undos, m_st, m_book))))))))))
set_option maxHeartbeats 4000000 in
set_option maxRecDepth 100000 in
theorem c_X12_comes (l : Launch) (D : va_G) (cI cZ cS cJ : ClassId) (m_a : Nat) (m_a_letters : Nat) (m_a_period : Nat) (m_a_hang : Nat) (m_a_st : Nat) (m_a_now : Nat) (m_a_book : Nat) (m_a_images : Nat) (m_a_isKept : Nat) (m_a_seenHang : Nat) (m_a_seenTick : Nat) (m_a_seenUp : Nat) (m_a_readOne : Nat) (m_length : Int32) (m_jumpers : Int32) (m_undos : Int32) (m_seen : Int32) (m_trail : Int64) (m_place : Int32) (m_wrong : Int32) (m_items : Int32) (m_saidEvery : Int32) (m_readEvery : Int32) (m_readJumpers : Int32) (m_st : Nat → Int32) (m_book : Nat → Int32) (p1 : Int32) (p2 : Int32) {r_o : Int32} {m_undos_o : Int32} {m_st_o : Nat → Int32} {m_book_o : Nat → Int32} (hF : F_X12_comes m_jumpers m_undos m_st m_book p1 p2 = some (r_o, m_undos_o, m_st_o, m_book_o)) : zMi l yX12_comes (zwl yX12_comes cX12_comes 3 (some .int)) { frames := 2, cells := 0, slots := 0, locals := 45 } D (TYS cI cZ cS cJ) [.ref m_a, .int p1, .int p2] [(m_a, .inr (12, [.ref m_a_letters, .int m_length, .int m_jumpers, .ref m_a_period, .ref m_a_hang, .ref m_a_st, .ref m_a_now, .ref m_a_book, .int m_undos, .ref m_a_images, .ref m_a_isKept, .int m_seen, .ref m_a_seenHang, .ref m_a_seenTick, .ref m_a_seenUp, .long m_trail, .int m_place, .int m_wrong, .int m_items, .int m_saidEvery, .int m_readEvery, .int m_readJumpers, .ref m_a_readOne])), (m_a_st, .inl (cI, 22, .inl m_st)), (m_a_book, .inl (cI, 220, .inl m_book))] [(m_a, .inr (12, [.ref m_a_letters, .int m_length, .int m_jumpers, .ref m_a_period, .ref m_a_hang, .ref m_a_st, .ref m_a_now, .ref m_a_book, .int m_undos_o, .ref m_a_images, .ref m_a_isKept, .int m_seen, .ref m_a_seenHang, .ref m_a_seenTick, .ref m_a_seenUp, .long m_trail, .int m_place, .int m_wrong, .int m_items, .int m_saidEvery, .int m_readEvery, .int m_readJumpers, .ref m_a_readOne])), (m_a_st, .inl (cI, 22, .inl m_st_o)), (m_a_book, .inl (cI, 220, .inl m_book_o))] r_o := by
  refine zent_i (own := RX12) (by decide) rfl (Nat.le_of_ble_eq_true rfl) ?_
  intro p e s m below meth c A ls S hr hlocks hK hP hD hA hl
  have hx := S.1
  have hb := S.2.1
  have hml := S.2.2.1
  have hown := S.2.2.2.1
  have hT : ∀ w ∈ zt, w ∈ zwl yX12_comes cX12_comes 3 (some .int) := fun _ h => List.mem_cons_of_mem _ h
  have ht : ∀ w ∈ zt, w.before [.ref m_a, .int p1, .int p2].toArray s = true := fun w h => S.2.2.2.2 w (hT w h)
  have hl : lv_has ls 3 [(0, .ref m_a), (1, .int p1), (2, .int p2)] := hl
  have hS : va_S A s.heap s.heap [] := va_S.rf
  unfold F_X12_comes at hF
  refine lv_aload_n hx hb dX12_comes_0 rfl (lv_at hl 0 rfl) ?_
  refine lv_iload_n hx hb dX12_comes_1 rfl (lv_at hl 1 rfl) ?_
  obtain ⟨r_1, hc_2, hF⟩ := zb1_s hF
  refine zcv_i (ws1 := [(m_a, .inr (12, [.ref m_a_letters, .int m_length, .int m_jumpers, .ref m_a_period, .ref m_a_hang, .ref m_a_st, .ref m_a_now, .ref m_a_book, .int m_undos, .ref m_a_images, .ref m_a_isKept, .int m_seen, .ref m_a_seenHang, .ref m_a_seenTick, .ref m_a_seenUp, .long m_trail, .int m_place, .int m_wrong, .int m_items, .int m_saidEvery, .int m_readEvery, .int m_readJumpers, .ref m_a_readOne])), (m_a_st, .inl (cI, 22, .inl m_st)), (m_a_book, .inl (cI, 220, .inl m_book))]) S hT lk_X12_127 (c_X12_isJumper l D cI cZ cS cJ m_a m_a_letters m_a_period m_a_hang m_a_st m_a_now m_a_book m_a_images m_a_isKept m_a_seenHang m_a_seenTick m_a_seenUp m_a_readOne m_length m_jumpers m_undos m_seen m_trail m_place m_wrong m_items m_saidEvery m_readEvery m_readJumpers p1 hc_2) ⟨rfl, rfl, Nat.le_of_ble_eq_true rfl, Nat.le_of_ble_eq_true rfl⟩ hK hP hD hS hA [0] [1, 2] [2, 0, 1] rfl rfl rfl rfl rfl rfl rfl rfl rfl rfl rfl hl.1 rfl (Nat.le_of_ble_eq_true rfl) dX12_comes_2 ⟨Nat.zero_le _, Nat.zero_le _⟩ (fun H locs hP hD hS => ?_)
  refine lv_if_eq (tgt := 18) hx hb dX12_comes_5 (by decide) (fun c_3 => ?_) (fun c_3 => ?_)
  · have hF := zi_pos c_3 hF
    refine lv_iconst (v := (-1)) hx hb dX12_comes_18 (by decide) ?_
    obtain ⟨e_0, e_1, e_2, e_3⟩ := zo4 hF
    subst e_0
    subst e_1
    subst e_2
    subst e_3
    exact zret_i S hr hlocks hK hP hD hS dX12_comes_19
  · have hF := zi_neg c_3 hF
    refine lv_iload_n hx hb dX12_comes_8 rfl (lv_at hl 2 rfl) ?_
    refine lv_iconst (v := 0) hx hb dX12_comes_9 (by decide) ?_
    refine lv_bipush (v := 11) hx hb dX12_comes_10 (by decide) ?_
    obtain ⟨r_4, hc_5, hF⟩ := zb1_s hF
    refine zcs_i (ws1 := [(m_a, .inr (12, [.ref m_a_letters, .int m_length, .int m_jumpers, .ref m_a_period, .ref m_a_hang, .ref m_a_st, .ref m_a_now, .ref m_a_book, .int m_undos, .ref m_a_images, .ref m_a_isKept, .int m_seen, .ref m_a_seenHang, .ref m_a_seenTick, .ref m_a_seenUp, .long m_trail, .int m_place, .int m_wrong, .int m_items, .int m_saidEvery, .int m_readEvery, .int m_readJumpers, .ref m_a_readOne])), (m_a_st, .inl (cI, 22, .inl m_st)), (m_a_book, .inl (cI, 220, .inl m_book))]) S hT lk_X12_51 (c_X12_in l D cI cZ cS cJ p2 0 11 hc_5) ⟨rfl, rfl, Nat.le_of_ble_eq_true rfl, Nat.le_of_ble_eq_true rfl⟩ hK hP hD hS hA [] [0, 1, 2] [0, 1, 2] rfl rfl rfl rfl rfl rfl rfl rfl hl.1 rfl (Nat.le_of_ble_eq_true rfl) dX12_comes_12 ⟨Nat.zero_le _, Nat.zero_le _⟩ (fun H locs hP hD hS => ?_)
    refine lv_if_ne (tgt := 20) hx hb dX12_comes_15 (by decide) (fun c_6 => ?_) (fun c_6 => ?_)
    · have hF := zi_neg c_6 hF
      refine lv_aload_n hx hb dX12_comes_20 rfl (lv_at hl 0 rfl) ?_
      refine va_get (D := D) (ci := 12) (v := .ref m_a_st) (C := RX12) (T := TX12) (N := 23) hx hb ht iyX12 hown hK hP 0 rfl rfl 5 (by decide) (ht _ wf_X12_19) (fun _ h9 => h9) rfl dX12_comes_21 ?_
      refine lv_iconst (v := 3) hx hb dX12_comes_24 (by decide) ?_
      refine va_iald hx hb hK hP 1 0 rfl rfl (show ¬ ((3 : Int32) < 0 ∨ 22 ≤ (3 : Int32).toNatClampNeg) by decide) dX12_comes_25 ?_
      refine lv_iload_n hx hb dX12_comes_26 rfl (lv_at hl 1 rfl) ?_
      obtain ⟨r_7, hc_8, hF⟩ := zb1_s hF
      refine zcs_i (ws1 := [(m_a, .inr (12, [.ref m_a_letters, .int m_length, .int m_jumpers, .ref m_a_period, .ref m_a_hang, .ref m_a_st, .ref m_a_now, .ref m_a_book, .int m_undos, .ref m_a_images, .ref m_a_isKept, .int m_seen, .ref m_a_seenHang, .ref m_a_seenTick, .ref m_a_seenUp, .long m_trail, .int m_place, .int m_wrong, .int m_items, .int m_saidEvery, .int m_readEvery, .int m_readJumpers, .ref m_a_readOne])), (m_a_st, .inl (cI, 22, .inl m_st)), (m_a_book, .inl (cI, 220, .inl m_book))]) S hT lk_X12_107 (c_X12_has l D cI cZ cS cJ (m_st (3 : Int32).toNatClampNeg) p1 hc_8) ⟨rfl, rfl, Nat.le_of_ble_eq_true rfl, Nat.le_of_ble_eq_true rfl⟩ hK hP hD hS hA [] [0, 1, 2] [0, 1, 2] rfl rfl rfl rfl rfl rfl rfl rfl hl.1 rfl (Nat.le_of_ble_eq_true rfl) dX12_comes_27 ⟨Nat.zero_le _, Nat.zero_le _⟩ (fun H locs hP hD hS => ?_)
      refine lv_if_eq (tgt := 36) hx hb dX12_comes_30 (by decide) (fun c_9 => ?_) (fun c_9 => ?_)
      · have hF := zi_pos c_9 hF
        refine lv_aload_n hx hb dX12_comes_36 rfl (lv_at hl 0 rfl) ?_
        obtain ⟨m_undos_10, m_book_11, hc_12, hF⟩ := zb2_s hF
        refine zcv_v (ws1 := [(m_a, .inr (12, [.ref m_a_letters, .int m_length, .int m_jumpers, .ref m_a_period, .ref m_a_hang, .ref m_a_st, .ref m_a_now, .ref m_a_book, .int m_undos_10, .ref m_a_images, .ref m_a_isKept, .int m_seen, .ref m_a_seenHang, .ref m_a_seenTick, .ref m_a_seenUp, .long m_trail, .int m_place, .int m_wrong, .int m_items, .int m_saidEvery, .int m_readEvery, .int m_readJumpers, .ref m_a_readOne])), (m_a_st, .inl (cI, 22, .inl m_st)), (m_a_book, .inl (cI, 220, .inl m_book_11))]) S hT lk_X12_140 (c_X12_notes l D cI cZ cS cJ m_a m_a_letters m_a_period m_a_hang m_a_st m_a_now m_a_book m_a_images m_a_isKept m_a_seenHang m_a_seenTick m_a_seenUp m_a_readOne m_length m_jumpers m_undos m_seen m_trail m_place m_wrong m_items m_saidEvery m_readEvery m_readJumpers m_st m_book hc_12) ⟨rfl, rfl, Nat.le_of_ble_eq_true rfl, Nat.le_of_ble_eq_true rfl⟩ hK hP hD hS hA [0, 1, 2] [] [0, 1, 2] rfl rfl rfl rfl rfl rfl rfl rfl rfl rfl rfl hl.1 rfl (Nat.le_of_ble_eq_true rfl) dX12_comes_37 ⟨Nat.zero_le _, Nat.zero_le _⟩ (fun H locs hP hD hS => ?_)
        refine lv_aload_n hx hb dX12_comes_40 rfl (lv_at hl 0 rfl) ?_
        refine va_get (D := D) (ci := 12) (v := .ref m_a_st) (C := RX12) (T := TX12) (N := 23) hx hb ht iyX12 hown hK hP 0 rfl rfl 5 (by decide) (ht _ wf_X12_19) (fun _ h9 => h9) rfl dX12_comes_41 ?_
        refine lv_iload_n hx hb dX12_comes_44 rfl (lv_at hl 1 rfl) ?_
        refine lv_iload_n hx hb dX12_comes_45 rfl (lv_at hl 2 rfl) ?_
        obtain ⟨m_st_13, hc_14, hF⟩ := zb1_s hF
        refine zcs_v (ws1 := [(m_a, .inr (12, [.ref m_a_letters, .int m_length, .int m_jumpers, .ref m_a_period, .ref m_a_hang, .ref m_a_st, .ref m_a_now, .ref m_a_book, .int m_undos_10, .ref m_a_images, .ref m_a_isKept, .int m_seen, .ref m_a_seenHang, .ref m_a_seenTick, .ref m_a_seenUp, .long m_trail, .int m_place, .int m_wrong, .int m_items, .int m_saidEvery, .int m_readEvery, .int m_readJumpers, .ref m_a_readOne])), (m_a_st, .inl (cI, 22, .inl m_st_13)), (m_a_book, .inl (cI, 220, .inl m_book_11))]) S hT lk_X12_149 (c_X12_enters l D cI cZ cS cJ m_a_st m_st p1 p2 hc_14) ⟨rfl, rfl, Nat.le_of_ble_eq_true rfl, Nat.le_of_ble_eq_true rfl⟩ hK hP hD hS hA [1] [0, 2] [0, 2, 1] rfl rfl rfl rfl rfl rfl rfl rfl hl.1 rfl (Nat.le_of_ble_eq_true rfl) dX12_comes_46 ⟨Nat.zero_le _, Nat.zero_le _⟩ (fun H locs hP hD hS => ?_)
        refine lv_aload_n hx hb dX12_comes_49 rfl (lv_at hl 0 rfl) ?_
        refine va_get (D := D) (ci := 12) (v := .ref m_a_st) (C := RX12) (T := TX12) (N := 23) hx hb ht iyX12 hown hK hP 0 rfl rfl 5 (by decide) (ht _ wf_X12_19) (fun _ h9 => h9) rfl dX12_comes_50 ?_
        refine lv_iconst (v := 3) hx hb dX12_comes_53 (by decide) ?_
        refine va_iald hx hb hK hP 1 0 rfl rfl (show ¬ ((3 : Int32) < 0 ∨ 22 ≤ (3 : Int32).toNatClampNeg) by decide) dX12_comes_54 ?_
        obtain ⟨r_15, hc_16, hF⟩ := zb1_s hF
        refine zcs_i (ws1 := [(m_a, .inr (12, [.ref m_a_letters, .int m_length, .int m_jumpers, .ref m_a_period, .ref m_a_hang, .ref m_a_st, .ref m_a_now, .ref m_a_book, .int m_undos_10, .ref m_a_images, .ref m_a_isKept, .int m_seen, .ref m_a_seenHang, .ref m_a_seenTick, .ref m_a_seenUp, .long m_trail, .int m_place, .int m_wrong, .int m_items, .int m_saidEvery, .int m_readEvery, .int m_readJumpers, .ref m_a_readOne])), (m_a_st, .inl (cI, 22, .inl m_st_13)), (m_a_book, .inl (cI, 220, .inl m_book_11))]) S hT lk_X12_146 (c_X12_bits l D cI cZ cS cJ (m_st_13 (3 : Int32).toNatClampNeg) hc_16) ⟨rfl, rfl, Nat.le_of_ble_eq_true rfl, Nat.le_of_ble_eq_true rfl⟩ hK hP hD hS hA [] [0, 1, 2] [0, 1, 2] rfl rfl rfl rfl rfl rfl rfl rfl hl.1 rfl (Nat.le_of_ble_eq_true rfl) dX12_comes_55 ⟨Nat.zero_le _, Nat.zero_le _⟩ (fun H locs hP hD hS => ?_)
        obtain ⟨e_0, e_1, e_2, e_3⟩ := zo4 hF
        subst e_0
        subst e_1
        subst e_2
        subst e_3
        exact zret_i S hr hlocks hK hP hD hS dX12_comes_58
      · have hF := zi_neg c_9 hF
        refine lv_bipush (v := (-2)) hx hb dX12_comes_33 (by decide) ?_
        obtain ⟨e_0, e_1, e_2, e_3⟩ := zo4 hF
        subst e_0
        subst e_1
        subst e_2
        subst e_3
        exact zret_i S hr hlocks hK hP hD hS dX12_comes_35
    · have hF := zi_pos c_6 hF
      refine lv_iconst (v := (-1)) hx hb dX12_comes_18 (by decide) ?_
      obtain ⟨e_0, e_1, e_2, e_3⟩ := zo4 hF
      subst e_0
      subst e_1
      subst e_2
      subst e_3
      exact zret_i S hr hlocks hK hP hD hS dX12_comes_19

def F_X12_undo (m_undos : Int32) (m_st : Nat → Int32) (m_book : Nat → Int32) : Option (Int32 × Int32 × (Nat → Int32)) :=
  (if m_undos = 0 then some ((-2), m_undos, m_st) else (zb1 (F_X12_bring 220 m_book 22 m_st (22 * (m_undos - 1)) 0 22) (fun m_st_2 => some (m_undos - 1, m_undos - 1, m_st_2))))
set_option maxHeartbeats 4000000 in
set_option maxRecDepth 100000 in
theorem c_X12_undo (l : Launch) (D : va_G) (cI cZ cS cJ : ClassId) (m_a : Nat) (m_a_letters : Nat) (m_a_period : Nat) (m_a_hang : Nat) (m_a_st : Nat) (m_a_now : Nat) (m_a_book : Nat) (m_a_images : Nat) (m_a_isKept : Nat) (m_a_seenHang : Nat) (m_a_seenTick : Nat) (m_a_seenUp : Nat) (m_a_readOne : Nat) (m_length : Int32) (m_jumpers : Int32) (m_undos : Int32) (m_seen : Int32) (m_trail : Int64) (m_place : Int32) (m_wrong : Int32) (m_items : Int32) (m_saidEvery : Int32) (m_readEvery : Int32) (m_readJumpers : Int32) (m_st : Nat → Int32) (m_book : Nat → Int32) {r_o : Int32} {m_undos_o : Int32} {m_st_o : Nat → Int32} (hF : F_X12_undo m_undos m_st m_book = some (r_o, m_undos_o, m_st_o)) : zMi l yX12_undo (zwl yX12_undo cX12_undo 1 (some .int)) { frames := 1, cells := 0, slots := 0, locals := 25 } D (TYS cI cZ cS cJ) [.ref m_a] [(m_a, .inr (12, [.ref m_a_letters, .int m_length, .int m_jumpers, .ref m_a_period, .ref m_a_hang, .ref m_a_st, .ref m_a_now, .ref m_a_book, .int m_undos, .ref m_a_images, .ref m_a_isKept, .int m_seen, .ref m_a_seenHang, .ref m_a_seenTick, .ref m_a_seenUp, .long m_trail, .int m_place, .int m_wrong, .int m_items, .int m_saidEvery, .int m_readEvery, .int m_readJumpers, .ref m_a_readOne])), (m_a_st, .inl (cI, 22, .inl m_st)), (m_a_book, .inl (cI, 220, .inl m_book))] [(m_a, .inr (12, [.ref m_a_letters, .int m_length, .int m_jumpers, .ref m_a_period, .ref m_a_hang, .ref m_a_st, .ref m_a_now, .ref m_a_book, .int m_undos_o, .ref m_a_images, .ref m_a_isKept, .int m_seen, .ref m_a_seenHang, .ref m_a_seenTick, .ref m_a_seenUp, .long m_trail, .int m_place, .int m_wrong, .int m_items, .int m_saidEvery, .int m_readEvery, .int m_readJumpers, .ref m_a_readOne])), (m_a_st, .inl (cI, 22, .inl m_st_o)), (m_a_book, .inl (cI, 220, .inl m_book))] r_o := by
  refine zent_i (own := RX12) (by decide) rfl (Nat.le_of_ble_eq_true rfl) ?_
  intro p e s m below meth c A ls S hr hlocks hK hP hD hA hl
  have hx := S.1
  have hb := S.2.1
  have hml := S.2.2.1
  have hown := S.2.2.2.1
  have hT : ∀ w ∈ zt, w ∈ zwl yX12_undo cX12_undo 1 (some .int) := fun _ h => List.mem_cons_of_mem _ h
  have ht : ∀ w ∈ zt, w.before [.ref m_a].toArray s = true := fun w h => S.2.2.2.2 w (hT w h)
  have hl : lv_has ls 1 [(0, .ref m_a)] := hl
  have hS : va_S A s.heap s.heap [] := va_S.rf
  unfold F_X12_undo at hF
  refine lv_aload_n hx hb dX12_undo_0 rfl (lv_at hl 0 rfl) ?_
  refine va_get (D := D) (ci := 12) (v := .int m_undos) (C := RX12) (T := TX12) (N := 23) hx hb ht iyX12 hown hK hP 0 rfl rfl 8 (by decide) (ht _ wf_X12_101) (fun _ h9 => h9) rfl dX12_undo_1 ?_
  refine lv_if_ne (tgt := 10) hx hb dX12_undo_4 (by decide) (fun c_1 => ?_) (fun c_1 => ?_)
  · have hF := zi_neg c_1 hF
    refine lv_aload_n hx hb dX12_undo_10 rfl (lv_at hl 0 rfl) ?_
    refine lv_dup hx hb dX12_undo_11 rfl ?_
    refine va_get (D := D) (ci := 12) (v := .int m_undos) (C := RX12) (T := TX12) (N := 23) hx hb ht iyX12 hown hK hP 0 rfl rfl 8 (by decide) (ht _ wf_X12_101) (fun _ h9 => h9) rfl dX12_undo_12 ?_
    refine lv_iconst (v := 1) hx hb dX12_undo_15 (by decide) ?_
    refine lv_isub hx hb dX12_undo_16 ?_
    refine va_put (D := D) (ci := 12) (v := .int (m_undos - 1)) (ty := .int) (C := RX12) (T := TX12) (N := 23) hx hb ht iyX12 tyX12 tyX12_ok nmX12 hown hK hP hD hS 0 rfl rfl 8 (by decide) (ht _ wf_X12_101) (fun _ h9 => h9) rfl (by decide +kernel) rfl rfl (Nat.le_of_ble_eq_true rfl) dX12_undo_17 (fun H locs hP hD hS => ?_)
    have hP : va_P D classes [(m_a, .inr (12, [.ref m_a_letters, .int m_length, .int m_jumpers, .ref m_a_period, .ref m_a_hang, .ref m_a_st, .ref m_a_now, .ref m_a_book, .int (m_undos - 1), .ref m_a_images, .ref m_a_isKept, .int m_seen, .ref m_a_seenHang, .ref m_a_seenTick, .ref m_a_seenUp, .long m_trail, .int m_place, .int m_wrong, .int m_items, .int m_saidEvery, .int m_readEvery, .int m_readJumpers, .ref m_a_readOne])), (m_a_st, .inl (cI, 22, .inl m_st)), (m_a_book, .inl (cI, 220, .inl m_book))] H := hP
    have hD : va_D A [(m_a, .inr (12, [.ref m_a_letters, .int m_length, .int m_jumpers, .ref m_a_period, .ref m_a_hang, .ref m_a_st, .ref m_a_now, .ref m_a_book, .int (m_undos - 1), .ref m_a_images, .ref m_a_isKept, .int m_seen, .ref m_a_seenHang, .ref m_a_seenTick, .ref m_a_seenUp, .long m_trail, .int m_place, .int m_wrong, .int m_items, .int m_saidEvery, .int m_readEvery, .int m_readJumpers, .ref m_a_readOne])), (m_a_st, .inl (cI, 22, .inl m_st)), (m_a_book, .inl (cI, 220, .inl m_book))] := hD
    refine lv_aload_n hx hb dX12_undo_20 rfl (lv_at hl 0 rfl) ?_
    refine va_get (D := D) (ci := 12) (v := .ref m_a_book) (C := RX12) (T := TX12) (N := 23) hx hb ht iyX12 hown hK hP 0 rfl rfl 7 (by decide) (ht _ wf_X12_25) (fun _ h9 => h9) rfl dX12_undo_21 ?_
    refine lv_bipush (v := 22) hx hb dX12_undo_24 (by decide) ?_
    refine lv_aload_n hx hb dX12_undo_26 rfl (lv_at hl 0 rfl) ?_
    refine va_get (D := D) (ci := 12) (v := .int (m_undos - 1)) (C := RX12) (T := TX12) (N := 23) hx hb ht iyX12 hown hK hP 0 rfl rfl 8 (by decide) (ht _ wf_X12_101) (fun _ h9 => h9) rfl dX12_undo_27 ?_
    refine lv_imul hx hb dX12_undo_30 ?_
    refine lv_aload_n hx hb dX12_undo_31 rfl (lv_at hl 0 rfl) ?_
    refine va_get (D := D) (ci := 12) (v := .ref m_a_st) (C := RX12) (T := TX12) (N := 23) hx hb ht iyX12 hown hK hP 0 rfl rfl 5 (by decide) (ht _ wf_X12_19) (fun _ h9 => h9) rfl dX12_undo_32 ?_
    refine lv_iconst (v := 0) hx hb dX12_undo_35 (by decide) ?_
    refine lv_bipush (v := 22) hx hb dX12_undo_36 (by decide) ?_
    obtain ⟨m_st_2, hc_3, hF⟩ := zb1_s hF
    refine zcs_v (ws1 := [(m_a, .inr (12, [.ref m_a_letters, .int m_length, .int m_jumpers, .ref m_a_period, .ref m_a_hang, .ref m_a_st, .ref m_a_now, .ref m_a_book, .int (m_undos - 1), .ref m_a_images, .ref m_a_isKept, .int m_seen, .ref m_a_seenHang, .ref m_a_seenTick, .ref m_a_seenUp, .long m_trail, .int m_place, .int m_wrong, .int m_items, .int m_saidEvery, .int m_readEvery, .int m_readJumpers, .ref m_a_readOne])), (m_a_st, .inl (cI, 22, .inl m_st_2)), (m_a_book, .inl (cI, 220, .inl m_book))]) S hT lk_X12_119 (c_X12_bring l D cI cZ cS cJ m_a_book m_a_st 220 m_book 22 m_st (22 * (m_undos - 1)) 0 22 hc_3) ⟨rfl, rfl, Nat.le_of_ble_eq_true rfl, Nat.le_of_ble_eq_true rfl⟩ hK hP hD hS hA [2, 1] [0] [0, 2, 1] rfl rfl rfl rfl rfl rfl rfl rfl hl.1 rfl (Nat.le_of_ble_eq_true rfl) dX12_undo_38 ⟨Nat.zero_le _, Nat.zero_le _⟩ (fun H locs hP hD hS => ?_)
    refine lv_aload_n hx hb dX12_undo_41 rfl (lv_at hl 0 rfl) ?_
    refine va_get (D := D) (ci := 12) (v := .int (m_undos - 1)) (C := RX12) (T := TX12) (N := 23) hx hb ht iyX12 hown hK hP 0 rfl rfl 8 (by decide) (ht _ wf_X12_101) (fun _ h9 => h9) rfl dX12_undo_42 ?_
    obtain ⟨e_0, e_1, e_2⟩ := zo3 hF
    subst e_0
    subst e_1
    subst e_2
    exact zret_i S hr hlocks hK hP hD hS dX12_undo_45
  · have hF := zi_pos c_1 hF
    refine lv_bipush (v := (-2)) hx hb dX12_undo_7 (by decide) ?_
    obtain ⟨e_0, e_1, e_2⟩ := zo3 hF
    subst e_0
    subst e_1
    subst e_2
    exact zret_i S hr hlocks hK hP hD hS dX12_undo_9

def L_X12_goesOn_2 (m_jumpers : Int32) (m_period : Nat → Int32) (m_hang : Nat → Int32) (v1 : Int32) : Nat → (Nat → Int32) → Int32 → Option ((Nat → Int32) × Int32)
  | 0 => fun _ _ => none
  | n + 1 => fun m_now v2 => (if v1 ≤ v2 then some (m_now, v2) else (zb2 (F_X12_tickOn m_jumpers m_period m_hang m_now 0) (fun r_6 m_now_7 => (L_X12_goesOn_2 m_jumpers m_period m_hang v1 n m_now_7 (v2 + 1)))))
theorem L_X12_goesOn_2_z (m_jumpers : Int32) (m_period : Nat → Int32) (m_hang : Nat → Int32) (v1 : Int32) (m_now : Nat → Int32) (v2 : Int32) : L_X12_goesOn_2 m_jumpers m_period m_hang v1 0 m_now v2 = none := rfl
theorem L_X12_goesOn_2_s (m_jumpers : Int32) (m_period : Nat → Int32) (m_hang : Nat → Int32) (v1 : Int32) (n : Nat) (m_now : Nat → Int32) (v2 : Int32) : L_X12_goesOn_2 m_jumpers m_period m_hang v1 (n + 1) m_now v2 = (if v1 ≤ v2 then some (m_now, v2) else (zb2 (F_X12_tickOn m_jumpers m_period m_hang m_now 0) (fun r_6 m_now_7 => (L_X12_goesOn_2 m_jumpers m_period m_hang v1 n m_now_7 (v2 + 1))))) := rfl
def F_X12_goesOn (m_jumpers : Int32) (m_period : Nat → Int32) (m_hang : Nat → Int32) (m_now : Nat → Int32) (p1 : Int32) : Option ((Nat → Int32)) :=
  (zb2 (L_X12_goesOn_2 m_jumpers m_period m_hang p1 300 m_now 0) (fun m_now_9 v2_10 => some (m_now_9)))
set_option maxHeartbeats 4000000 in
set_option maxRecDepth 100000 in
theorem c_X12_goesOn (l : Launch) (D : va_G) (cI cZ cS cJ : ClassId) (m_a : Nat) (m_a_letters : Nat) (m_a_period : Nat) (m_a_hang : Nat) (m_a_st : Nat) (m_a_now : Nat) (m_a_book : Nat) (m_a_images : Nat) (m_a_isKept : Nat) (m_a_seenHang : Nat) (m_a_seenTick : Nat) (m_a_seenUp : Nat) (m_a_readOne : Nat) (m_length : Int32) (m_jumpers : Int32) (m_undos : Int32) (m_seen : Int32) (m_trail : Int64) (m_place : Int32) (m_wrong : Int32) (m_items : Int32) (m_saidEvery : Int32) (m_readEvery : Int32) (m_readJumpers : Int32) (m_period : Nat → Int32) (m_hang : Nat → Int32) (m_now : Nat → Int32) (p1 : Int32) {m_now_o : Nat → Int32} (hF : F_X12_goesOn m_jumpers m_period m_hang m_now p1 = some (m_now_o)) : zMv l yX12_goesOn (zwl yX12_goesOn cX12_goesOn 3 none) { frames := 2, cells := 0, slots := 0, locals := 47 } D (TYS cI cZ cS cJ) [.ref m_a, .int p1] [(m_a, .inr (12, [.ref m_a_letters, .int m_length, .int m_jumpers, .ref m_a_period, .ref m_a_hang, .ref m_a_st, .ref m_a_now, .ref m_a_book, .int m_undos, .ref m_a_images, .ref m_a_isKept, .int m_seen, .ref m_a_seenHang, .ref m_a_seenTick, .ref m_a_seenUp, .long m_trail, .int m_place, .int m_wrong, .int m_items, .int m_saidEvery, .int m_readEvery, .int m_readJumpers, .ref m_a_readOne])), (m_a_period, .inl (cI, 6, .inl m_period)), (m_a_hang, .inl (cI, 6, .inl m_hang)), (m_a_now, .inl (cI, 22, .inl m_now))] [(m_a, .inr (12, [.ref m_a_letters, .int m_length, .int m_jumpers, .ref m_a_period, .ref m_a_hang, .ref m_a_st, .ref m_a_now, .ref m_a_book, .int m_undos, .ref m_a_images, .ref m_a_isKept, .int m_seen, .ref m_a_seenHang, .ref m_a_seenTick, .ref m_a_seenUp, .long m_trail, .int m_place, .int m_wrong, .int m_items, .int m_saidEvery, .int m_readEvery, .int m_readJumpers, .ref m_a_readOne])), (m_a_period, .inl (cI, 6, .inl m_period)), (m_a_hang, .inl (cI, 6, .inl m_hang)), (m_a_now, .inl (cI, 22, .inl m_now_o))] := by
  refine zent_v (own := RX12) (by decide) rfl (Nat.le_of_ble_eq_true rfl) ?_
  intro p e s m below meth c A ls S hr hlocks hK hP hD hA hl
  have hx := S.1
  have hb := S.2.1
  have hml := S.2.2.1
  have hown := S.2.2.2.1
  have hT : ∀ w ∈ zt, w ∈ zwl yX12_goesOn cX12_goesOn 3 none := fun _ h => List.mem_cons_of_mem _ h
  have ht : ∀ w ∈ zt, w.before [.ref m_a, .int p1].toArray s = true := fun w h => S.2.2.2.2 w (hT w h)
  have hl : lv_has ls 3 [(0, .ref m_a), (1, .int p1)] := hl
  have hS : va_S A s.heap s.heap [] := va_S.rf
  unfold F_X12_goesOn at hF
  have hloop_2 : ∀ (n : Nat) (m_length : Int32) (m_jumpers : Int32) (m_undos : Int32) (m_seen : Int32) (m_trail : Int64) (m_place : Int32) (m_wrong : Int32) (m_items : Int32) (m_saidEvery : Int32) (m_readEvery : Int32) (m_readJumpers : Int32) (m_period : Nat → Int32) (m_hang : Nat → Int32) (m_now : Nat → Int32) (v1 : Int32) (v2 : Int32) (m_now' : Nat → Int32) (v2' : Int32), L_X12_goesOn_2 m_jumpers m_period m_hang v1 n m_now v2 = some (m_now', v2') → ∀ (H : Heap) (locs : List Loc) (ls : Array Slot), va_P D classes [(m_a, .inr (12, [.ref m_a_letters, .int m_length, .int m_jumpers, .ref m_a_period, .ref m_a_hang, .ref m_a_st, .ref m_a_now, .ref m_a_book, .int m_undos, .ref m_a_images, .ref m_a_isKept, .int m_seen, .ref m_a_seenHang, .ref m_a_seenTick, .ref m_a_seenUp, .long m_trail, .int m_place, .int m_wrong, .int m_items, .int m_saidEvery, .int m_readEvery, .int m_readJumpers, .ref m_a_readOne])), (m_a_period, .inl (cI, 6, .inl m_period)), (m_a_hang, .inl (cI, 6, .inl m_hang)), (m_a_now, .inl (cI, 22, .inl m_now))] H → va_D A [(m_a, .inr (12, [.ref m_a_letters, .int m_length, .int m_jumpers, .ref m_a_period, .ref m_a_hang, .ref m_a_st, .ref m_a_now, .ref m_a_book, .int m_undos, .ref m_a_images, .ref m_a_isKept, .int m_seen, .ref m_a_seenHang, .ref m_a_seenTick, .ref m_a_seenUp, .long m_trail, .int m_place, .int m_wrong, .int m_items, .int m_saidEvery, .int m_readEvery, .int m_readJumpers, .ref m_a_readOne])), (m_a_period, .inl (cI, 6, .inl m_period)), (m_a_hang, .inl (cI, 6, .inl m_hang)), (m_a_now, .inl (cI, 22, .inl m_now))] → va_S A s.heap H locs → lv_has ls 3 [(0, .ref m_a), (1, .int v1), (2, .int v2)] → (∀ (H : Heap) (locs : List Loc) (ls : Array Slot), va_P D classes [(m_a, .inr (12, [.ref m_a_letters, .int m_length, .int m_jumpers, .ref m_a_period, .ref m_a_hang, .ref m_a_st, .ref m_a_now, .ref m_a_book, .int m_undos, .ref m_a_images, .ref m_a_isKept, .int m_seen, .ref m_a_seenHang, .ref m_a_seenTick, .ref m_a_seenUp, .long m_trail, .int m_place, .int m_wrong, .int m_items, .int m_saidEvery, .int m_readEvery, .int m_readJumpers, .ref m_a_readOne])), (m_a_period, .inl (cI, 6, .inl m_period)), (m_a_hang, .inl (cI, 6, .inl m_hang)), (m_a_now, .inl (cI, 22, .inl m_now'))] H → va_D A [(m_a, .inr (12, [.ref m_a_letters, .int m_length, .int m_jumpers, .ref m_a_period, .ref m_a_hang, .ref m_a_st, .ref m_a_now, .ref m_a_book, .int m_undos, .ref m_a_images, .ref m_a_isKept, .int m_seen, .ref m_a_seenHang, .ref m_a_seenTick, .ref m_a_seenUp, .long m_trail, .int m_place, .int m_wrong, .int m_items, .int m_saidEvery, .int m_readEvery, .int m_readJumpers, .ref m_a_readOne])), (m_a_period, .inl (cI, 6, .inl m_period)), (m_a_hang, .inl (cI, 6, .inl m_hang)), (m_a_now, .inl (cI, 22, .inl m_now'))] → va_S A s.heap H locs → lv_has ls 3 [(0, .ref m_a), (1, .int v1), (2, .int v2')] → W p l e { frames := 2, cells := 0, slots := 0, locals := 47 } s m [.ref m_a, .int p1].toArray below meth c H locs 0 0 (zFv below [.ref m_a, .int p1] s A D (TYS cI cZ cS cJ) [(m_a, .inr (12, [.ref m_a_letters, .int m_length, .int m_jumpers, .ref m_a_period, .ref m_a_hang, .ref m_a_st, .ref m_a_now, .ref m_a_book, .int m_undos, .ref m_a_images, .ref m_a_isKept, .int m_seen, .ref m_a_seenHang, .ref m_a_seenTick, .ref m_a_seenUp, .long m_trail, .int m_place, .int m_wrong, .int m_items, .int m_saidEvery, .int m_readEvery, .int m_readJumpers, .ref m_a_readOne])), (m_a_period, .inl (cI, 6, .inl m_period)), (m_a_hang, .inl (cI, 6, .inl m_hang)), (m_a_now, .inl (cI, 22, .inl m_now_o))]) (F0 m 23 ls [])) → W p l e { frames := 2, cells := 0, slots := 0, locals := 47 } s m [.ref m_a, .int p1].toArray below meth c H locs 0 0 (zFv below [.ref m_a, .int p1] s A D (TYS cI cZ cS cJ) [(m_a, .inr (12, [.ref m_a_letters, .int m_length, .int m_jumpers, .ref m_a_period, .ref m_a_hang, .ref m_a_st, .ref m_a_now, .ref m_a_book, .int m_undos, .ref m_a_images, .ref m_a_isKept, .int m_seen, .ref m_a_seenHang, .ref m_a_seenTick, .ref m_a_seenUp, .long m_trail, .int m_place, .int m_wrong, .int m_items, .int m_saidEvery, .int m_readEvery, .int m_readJumpers, .ref m_a_readOne])), (m_a_period, .inl (cI, 6, .inl m_period)), (m_a_hang, .inl (cI, 6, .inl m_hang)), (m_a_now, .inl (cI, 22, .inl m_now_o))]) (F0 m 2 ls []) := by
    intro n
    induction n with
    | zero =>
      intro m_length m_jumpers m_undos m_seen m_trail m_place m_wrong m_items m_saidEvery m_readEvery m_readJumpers m_period m_hang m_now v1 v2 m_now' v2' hF
      rw [L_X12_goesOn_2_z] at hF
      cases hF
    | succ n ih_2 =>
      intro m_length m_jumpers m_undos m_seen m_trail m_place m_wrong m_items m_saidEvery m_readEvery m_readJumpers m_period m_hang m_now v1 v2 m_now' v2' hF H locs ls hP hD hS hl hexit_2
      rw [L_X12_goesOn_2_s] at hF
      refine lv_iload_n hx hb dX12_goesOn_2 rfl (lv_at hl 2 rfl) ?_
      refine lv_iload_n hx hb dX12_goesOn_3 rfl (lv_at hl 1 rfl) ?_
      refine lv_icmp_ge (tgt := 23) hx hb dX12_goesOn_4 (by decide) (fun c_5 => ?_) (fun c_5 => ?_)
      · have hF := zi_pos c_5 hF
        obtain ⟨e_0, e_1⟩ := zo2 hF
        subst e_0
        subst e_1
        exact hexit_2 _ _ _ hP hD hS (lv_sub hl [0, 1, 2] rfl)
      · have hF := zi_neg c_5 hF
        refine lv_aload_n hx hb dX12_goesOn_7 rfl (lv_at hl 0 rfl) ?_
        refine lv_aload_n hx hb dX12_goesOn_8 rfl (lv_at hl 0 rfl) ?_
        refine va_get (D := D) (ci := 12) (v := .ref m_a_now) (C := RX12) (T := TX12) (N := 23) hx hb ht iyX12 hown hK hP 0 rfl rfl 6 (by decide) (ht _ wf_X12_22) (fun _ h9 => h9) rfl dX12_goesOn_9 ?_
        refine lv_iconst (v := 0) hx hb dX12_goesOn_12 (by decide) ?_
        obtain ⟨r_6, m_now_7, hc_8, hF⟩ := zb2_s hF
        refine zcv_i (ws1 := [(m_a, .inr (12, [.ref m_a_letters, .int m_length, .int m_jumpers, .ref m_a_period, .ref m_a_hang, .ref m_a_st, .ref m_a_now, .ref m_a_book, .int m_undos, .ref m_a_images, .ref m_a_isKept, .int m_seen, .ref m_a_seenHang, .ref m_a_seenTick, .ref m_a_seenUp, .long m_trail, .int m_place, .int m_wrong, .int m_items, .int m_saidEvery, .int m_readEvery, .int m_readJumpers, .ref m_a_readOne])), (m_a_period, .inl (cI, 6, .inl m_period)), (m_a_hang, .inl (cI, 6, .inl m_hang)), (m_a_now, .inl (cI, 22, .inl m_now_7))]) S hT lk_X12_123 (c_X12_tickOn l D cI cZ cS cJ m_a m_a_letters m_a_period m_a_hang m_a_st m_a_now m_a_book m_a_images m_a_isKept m_a_seenHang m_a_seenTick m_a_seenUp m_a_readOne m_a_now m_length m_jumpers m_undos m_seen m_trail m_place m_wrong m_items m_saidEvery m_readEvery m_readJumpers m_period m_hang m_now 0 hc_8) ⟨rfl, rfl, Nat.le_of_ble_eq_true rfl, Nat.le_of_ble_eq_true rfl⟩ hK hP hD hS hA [0, 1, 2, 3] [] [0, 1, 2, 3] rfl rfl rfl rfl rfl rfl rfl rfl rfl rfl rfl hl.1 rfl (Nat.le_of_ble_eq_true rfl) dX12_goesOn_13 ⟨Nat.zero_le _, Nat.zero_le _⟩ (fun H locs hP hD hS => ?_)
        refine lv_pop hx hb dX12_goesOn_16 rfl ?_
        refine lv_iinc (v := v2 + 1) (lv' := [(2, .int (v2 + 1)), (0, .ref m_a), (1, .int v1)]) hx hb dX12_goesOn_17 hl (k := 2) rfl (by rfl) (by decide) rfl (fun ls hl => ?_)
        refine lv_goto (tgt := 2) hx hb dX12_goesOn_20 (by decide) ?_
        exact ih_2 m_length m_jumpers m_undos m_seen m_trail m_place m_wrong m_items m_saidEvery m_readEvery m_readJumpers m_period m_hang m_now_7 v1 (v2 + 1) _ _ hF _ _ _ hP hD hS (lv_sub hl [1, 2, 0] rfl) hexit_2
  refine lv_iconst (v := 0) hx hb dX12_goesOn_0 (by decide) ?_
  refine lv_istore_n (lv' := [(2, .int 0), (0, .ref m_a), (1, .int p1)]) hx hb dX12_goesOn_1 rfl hl (by decide) rfl (fun ls hl => ?_)
  obtain ⟨m_now_9, v2_10, hL_11, hF⟩ := zb2_s hF
  refine hloop_2 300 m_length m_jumpers m_undos m_seen m_trail m_place m_wrong m_items m_saidEvery m_readEvery m_readJumpers m_period m_hang m_now p1 0 m_now_9 v2_10 hL_11 _ _ _ hP hD hS (lv_sub hl [1, 2, 0] rfl) (fun H locs ls hP hD hS hl => ?_)
  have e_0 := zo1 hF
  subst e_0
  exact zret_v S hr hlocks hK hP hD hS dX12_goesOn_23

theorem lk_X12_153 : zLk RX12 153 yX12_goesOn cX12_goesOn 3 none 1 := ⟨⟨wm_X12_153, wo_X12_goesOn, we_X12_X12_goesOn, wi_X12, wd_X12_goesOn⟩, by decide, by decide, by decide +kernel⟩
def F_X12_stay (m_jumpers : Int32) (m_period : Nat → Int32) (m_hang : Nat → Int32) (m_st : Nat → Int32) (m_now : Nat → Int32) (p1 : Int32) : Option (Int32 × (Nat → Int32)) :=
  (zb1 (F_X12_in p1 0 120) (fun r_1 => (if r_1 = 0 then some ((-1), m_now) else (zb1 (F_X12_asItIs m_st m_now) (fun m_now_4 => (zb1 (F_X12_goesOn m_jumpers m_period m_hang m_now_4 p1) (fun m_now_6 => some (m_now_6 (3 : Int32).toNatClampNeg, m_now_6))))))))
set_option maxHeartbeats 4000000 in
set_option maxRecDepth 100000 in
theorem c_X12_stay (l : Launch) (D : va_G) (cI cZ cS cJ : ClassId) (m_a : Nat) (m_a_letters : Nat) (m_a_period : Nat) (m_a_hang : Nat) (m_a_st : Nat) (m_a_now : Nat) (m_a_book : Nat) (m_a_images : Nat) (m_a_isKept : Nat) (m_a_seenHang : Nat) (m_a_seenTick : Nat) (m_a_seenUp : Nat) (m_a_readOne : Nat) (m_length : Int32) (m_jumpers : Int32) (m_undos : Int32) (m_seen : Int32) (m_trail : Int64) (m_place : Int32) (m_wrong : Int32) (m_items : Int32) (m_saidEvery : Int32) (m_readEvery : Int32) (m_readJumpers : Int32) (m_period : Nat → Int32) (m_hang : Nat → Int32) (m_st : Nat → Int32) (m_now : Nat → Int32) (p1 : Int32) {r_o : Int32} {m_now_o : Nat → Int32} (hF : F_X12_stay m_jumpers m_period m_hang m_st m_now p1 = some (r_o, m_now_o)) : zMi l yX12_stay (zwl yX12_stay cX12_stay 2 (some .int)) { frames := 3, cells := 0, slots := 0, locals := 69 } D (TYS cI cZ cS cJ) [.ref m_a, .int p1] [(m_a, .inr (12, [.ref m_a_letters, .int m_length, .int m_jumpers, .ref m_a_period, .ref m_a_hang, .ref m_a_st, .ref m_a_now, .ref m_a_book, .int m_undos, .ref m_a_images, .ref m_a_isKept, .int m_seen, .ref m_a_seenHang, .ref m_a_seenTick, .ref m_a_seenUp, .long m_trail, .int m_place, .int m_wrong, .int m_items, .int m_saidEvery, .int m_readEvery, .int m_readJumpers, .ref m_a_readOne])), (m_a_period, .inl (cI, 6, .inl m_period)), (m_a_hang, .inl (cI, 6, .inl m_hang)), (m_a_st, .inl (cI, 22, .inl m_st)), (m_a_now, .inl (cI, 22, .inl m_now))] [(m_a, .inr (12, [.ref m_a_letters, .int m_length, .int m_jumpers, .ref m_a_period, .ref m_a_hang, .ref m_a_st, .ref m_a_now, .ref m_a_book, .int m_undos, .ref m_a_images, .ref m_a_isKept, .int m_seen, .ref m_a_seenHang, .ref m_a_seenTick, .ref m_a_seenUp, .long m_trail, .int m_place, .int m_wrong, .int m_items, .int m_saidEvery, .int m_readEvery, .int m_readJumpers, .ref m_a_readOne])), (m_a_period, .inl (cI, 6, .inl m_period)), (m_a_hang, .inl (cI, 6, .inl m_hang)), (m_a_st, .inl (cI, 22, .inl m_st)), (m_a_now, .inl (cI, 22, .inl m_now_o))] r_o := by
  refine zent_i (own := RX12) (by decide) rfl (Nat.le_of_ble_eq_true rfl) ?_
  intro p e s m below meth c A ls S hr hlocks hK hP hD hA hl
  have hx := S.1
  have hb := S.2.1
  have hml := S.2.2.1
  have hown := S.2.2.2.1
  have hT : ∀ w ∈ zt, w ∈ zwl yX12_stay cX12_stay 2 (some .int) := fun _ h => List.mem_cons_of_mem _ h
  have ht : ∀ w ∈ zt, w.before [.ref m_a, .int p1].toArray s = true := fun w h => S.2.2.2.2 w (hT w h)
  have hl : lv_has ls 2 [(0, .ref m_a), (1, .int p1)] := hl
  have hS : va_S A s.heap s.heap [] := va_S.rf
  unfold F_X12_stay at hF
  refine lv_iload_n hx hb dX12_stay_0 rfl (lv_at hl 1 rfl) ?_
  refine lv_iconst (v := 0) hx hb dX12_stay_1 (by decide) ?_
  refine lv_bipush (v := 120) hx hb dX12_stay_2 (by decide) ?_
  obtain ⟨r_1, hc_2, hF⟩ := zb1_s hF
  refine zcs_i (ws1 := [(m_a, .inr (12, [.ref m_a_letters, .int m_length, .int m_jumpers, .ref m_a_period, .ref m_a_hang, .ref m_a_st, .ref m_a_now, .ref m_a_book, .int m_undos, .ref m_a_images, .ref m_a_isKept, .int m_seen, .ref m_a_seenHang, .ref m_a_seenTick, .ref m_a_seenUp, .long m_trail, .int m_place, .int m_wrong, .int m_items, .int m_saidEvery, .int m_readEvery, .int m_readJumpers, .ref m_a_readOne])), (m_a_period, .inl (cI, 6, .inl m_period)), (m_a_hang, .inl (cI, 6, .inl m_hang)), (m_a_st, .inl (cI, 22, .inl m_st)), (m_a_now, .inl (cI, 22, .inl m_now))]) S hT lk_X12_51 (c_X12_in l D cI cZ cS cJ p1 0 120 hc_2) ⟨rfl, rfl, Nat.le_of_ble_eq_true rfl, Nat.le_of_ble_eq_true rfl⟩ hK hP hD hS hA [] [0, 1, 2, 3, 4] [0, 1, 2, 3, 4] rfl rfl rfl rfl rfl rfl rfl rfl hl.1 rfl (Nat.le_of_ble_eq_true rfl) dX12_stay_4 ⟨Nat.zero_le _, Nat.zero_le _⟩ (fun H locs hP hD hS => ?_)
  refine lv_if_ne (tgt := 12) hx hb dX12_stay_7 (by decide) (fun c_3 => ?_) (fun c_3 => ?_)
  · have hF := zi_neg c_3 hF
    refine lv_aload_n hx hb dX12_stay_12 rfl (lv_at hl 0 rfl) ?_
    obtain ⟨m_now_4, hc_5, hF⟩ := zb1_s hF
    refine zcv_v (ws1 := [(m_a, .inr (12, [.ref m_a_letters, .int m_length, .int m_jumpers, .ref m_a_period, .ref m_a_hang, .ref m_a_st, .ref m_a_now, .ref m_a_book, .int m_undos, .ref m_a_images, .ref m_a_isKept, .int m_seen, .ref m_a_seenHang, .ref m_a_seenTick, .ref m_a_seenUp, .long m_trail, .int m_place, .int m_wrong, .int m_items, .int m_saidEvery, .int m_readEvery, .int m_readJumpers, .ref m_a_readOne])), (m_a_period, .inl (cI, 6, .inl m_period)), (m_a_hang, .inl (cI, 6, .inl m_hang)), (m_a_st, .inl (cI, 22, .inl m_st)), (m_a_now, .inl (cI, 22, .inl m_now_4))]) S hT lk_X12_130 (c_X12_asItIs l D cI cZ cS cJ m_a m_a_letters m_a_period m_a_hang m_a_st m_a_now m_a_book m_a_images m_a_isKept m_a_seenHang m_a_seenTick m_a_seenUp m_a_readOne m_length m_jumpers m_undos m_seen m_trail m_place m_wrong m_items m_saidEvery m_readEvery m_readJumpers m_st m_now hc_5) ⟨rfl, rfl, Nat.le_of_ble_eq_true rfl, Nat.le_of_ble_eq_true rfl⟩ hK hP hD hS hA [0, 3, 4] [1, 2] [2, 0, 1, 3, 4] rfl rfl rfl rfl rfl rfl rfl rfl rfl rfl rfl hl.1 rfl (Nat.le_of_ble_eq_true rfl) dX12_stay_13 ⟨Nat.zero_le _, Nat.zero_le _⟩ (fun H locs hP hD hS => ?_)
    refine lv_aload_n hx hb dX12_stay_16 rfl (lv_at hl 0 rfl) ?_
    refine lv_iload_n hx hb dX12_stay_17 rfl (lv_at hl 1 rfl) ?_
    obtain ⟨m_now_6, hc_7, hF⟩ := zb1_s hF
    refine zcv_v (ws1 := [(m_a, .inr (12, [.ref m_a_letters, .int m_length, .int m_jumpers, .ref m_a_period, .ref m_a_hang, .ref m_a_st, .ref m_a_now, .ref m_a_book, .int m_undos, .ref m_a_images, .ref m_a_isKept, .int m_seen, .ref m_a_seenHang, .ref m_a_seenTick, .ref m_a_seenUp, .long m_trail, .int m_place, .int m_wrong, .int m_items, .int m_saidEvery, .int m_readEvery, .int m_readJumpers, .ref m_a_readOne])), (m_a_period, .inl (cI, 6, .inl m_period)), (m_a_hang, .inl (cI, 6, .inl m_hang)), (m_a_st, .inl (cI, 22, .inl m_st)), (m_a_now, .inl (cI, 22, .inl m_now_6))]) S hT lk_X12_153 (c_X12_goesOn l D cI cZ cS cJ m_a m_a_letters m_a_period m_a_hang m_a_st m_a_now m_a_book m_a_images m_a_isKept m_a_seenHang m_a_seenTick m_a_seenUp m_a_readOne m_length m_jumpers m_undos m_seen m_trail m_place m_wrong m_items m_saidEvery m_readEvery m_readJumpers m_period m_hang m_now_4 p1 hc_7) ⟨rfl, rfl, Nat.le_of_ble_eq_true rfl, Nat.le_of_ble_eq_true rfl⟩ hK hP hD hS hA [0, 1, 2, 4] [3] [1, 2, 3, 0, 4] rfl rfl rfl rfl rfl rfl rfl rfl rfl rfl rfl hl.1 rfl (Nat.le_of_ble_eq_true rfl) dX12_stay_18 ⟨Nat.zero_le _, Nat.zero_le _⟩ (fun H locs hP hD hS => ?_)
    refine lv_aload_n hx hb dX12_stay_21 rfl (lv_at hl 0 rfl) ?_
    refine va_get (D := D) (ci := 12) (v := .ref m_a_now) (C := RX12) (T := TX12) (N := 23) hx hb ht iyX12 hown hK hP 0 rfl rfl 6 (by decide) (ht _ wf_X12_22) (fun _ h9 => h9) rfl dX12_stay_22 ?_
    refine lv_iconst (v := 3) hx hb dX12_stay_25 (by decide) ?_
    refine va_iald hx hb hK hP 4 0 rfl rfl (show ¬ ((3 : Int32) < 0 ∨ 22 ≤ (3 : Int32).toNatClampNeg) by decide) dX12_stay_26 ?_
    obtain ⟨e_0, e_1⟩ := zo2 hF
    subst e_0
    subst e_1
    exact zret_i S hr hlocks hK hP hD hS dX12_stay_27
  · have hF := zi_pos c_3 hF
    refine lv_iconst (v := (-1)) hx hb dX12_stay_10 (by decide) ?_
    obtain ⟨e_0, e_1⟩ := zo2 hF
    subst e_0
    subst e_1
    exact zret_i S hr hlocks hK hP hD hS dX12_stay_11
