theorem lk_X12_157 : zLk RX12 157 yX12_allStay cX12_allStay 7 (some .boolean) 2 := ⟨⟨wm_X12_157, wo_X12_allStay, we_X12_X12_allStay, wi_X12, wd_X12_allStay⟩, by decide, by decide, by decide +kernel⟩
theorem lk_X12_160 : zLs RX12 160 yX12_divisor cX12_divisor 5 (some .int) 2 := ⟨⟨wm_X12_160, ws_X12_divisor, wi_X12, wd_X12_divisor⟩, by decide, by decide, by decide +kernel⟩
def L_X12_odds_71 (m_jumpers : Int32) (m_st : Nat → Int32) (v1 : Int32) (v6 : Int32) : Nat → Int32 → Int32 → Option (Int32 × Int32)
  | 0 => fun _ _ => none
  | n + 1 => fun v7 v8 => (if m_jumpers ≤ v8 then some (v7, v8) else (zb1 (F_X12_has v6 v8) (fun r_20 => (if r_20 = 0 then (zb1 (F_X12_has (m_st (3 : Int32).toNatClampNeg) v8) (fun r_23 => (if r_23 = 0 then (L_X12_odds_71 m_jumpers m_st v1 v6 n (v7 * 1) (v8 + 1)) else (L_X12_odds_71 m_jumpers m_st v1 v6 n (v7 * (10 - v1)) (v8 + 1))))) else (L_X12_odds_71 m_jumpers m_st v1 v6 n (v7 * v1) (v8 + 1))))))
theorem L_X12_odds_71_z (m_jumpers : Int32) (m_st : Nat → Int32) (v1 : Int32) (v6 : Int32) (v7 : Int32) (v8 : Int32) : L_X12_odds_71 m_jumpers m_st v1 v6 0 v7 v8 = none := rfl
theorem L_X12_odds_71_s (m_jumpers : Int32) (m_st : Nat → Int32) (v1 : Int32) (v6 : Int32) (n : Nat) (v7 : Int32) (v8 : Int32) : L_X12_odds_71 m_jumpers m_st v1 v6 (n + 1) v7 v8 = (if m_jumpers ≤ v8 then some (v7, v8) else (zb1 (F_X12_has v6 v8) (fun r_20 => (if r_20 = 0 then (zb1 (F_X12_has (m_st (3 : Int32).toNatClampNeg) v8) (fun r_23 => (if r_23 = 0 then (L_X12_odds_71 m_jumpers m_st v1 v6 n (v7 * 1) (v8 + 1)) else (L_X12_odds_71 m_jumpers m_st v1 v6 n (v7 * (10 - v1)) (v8 + 1))))) else (L_X12_odds_71 m_jumpers m_st v1 v6 n (v7 * v1) (v8 + 1)))))) := rfl
def L_X12_odds_40 (m_jumpers : Int32) (m_period : Nat → Int32) (m_hang : Nat → Int32) (m_st : Nat → Int32) (v1 : Int32) (v2 : Int32) : Nat → (Nat → Int32) → Int32 → Int32 → Int32 → Option ((Nat → Int32) × Int32 × Int32 × Int32)
  | 0 => fun _ _ _ _ => none
  | n + 1 => fun m_now v4 v5 v6 => (if ((1 : Int32) <<< (m_jumpers &&& 31)) ≤ v6 then some (m_now, v4, v5, v6) else (if (v6 &&& ((m_st (3 : Int32).toNatClampNeg) ^^^ (-1))) = 0 then (zb2 (L_X12_odds_71 m_jumpers m_st v1 v6 300 1 0) (fun v7_36 v8_37 => (if v7_36 ≤ 0 then (L_X12_odds_40 m_jumpers m_period m_hang m_st v1 v2 n m_now (v4 + 0) (v5 + v7_36) (v6 + 1)) else (zb2 (F_X12_allStay m_jumpers m_period m_hang m_st m_now v6 v2) (fun r_40 m_now_41 => (if r_40 = 0 then (L_X12_odds_40 m_jumpers m_period m_hang m_st v1 v2 n m_now_41 (v4 + 0) (v5 + v7_36) (v6 + 1)) else (L_X12_odds_40 m_jumpers m_period m_hang m_st v1 v2 n m_now_41 (v4 + v7_36) (v5 + v7_36) (v6 + 1)))))))) else (L_X12_odds_40 m_jumpers m_period m_hang m_st v1 v2 n m_now v4 v5 (v6 + 1))))
theorem L_X12_odds_40_z (m_jumpers : Int32) (m_period : Nat → Int32) (m_hang : Nat → Int32) (m_st : Nat → Int32) (v1 : Int32) (v2 : Int32) (m_now : Nat → Int32) (v4 : Int32) (v5 : Int32) (v6 : Int32) : L_X12_odds_40 m_jumpers m_period m_hang m_st v1 v2 0 m_now v4 v5 v6 = none := rfl
theorem L_X12_odds_40_s (m_jumpers : Int32) (m_period : Nat → Int32) (m_hang : Nat → Int32) (m_st : Nat → Int32) (v1 : Int32) (v2 : Int32) (n : Nat) (m_now : Nat → Int32) (v4 : Int32) (v5 : Int32) (v6 : Int32) : L_X12_odds_40 m_jumpers m_period m_hang m_st v1 v2 (n + 1) m_now v4 v5 v6 = (if ((1 : Int32) <<< (m_jumpers &&& 31)) ≤ v6 then some (m_now, v4, v5, v6) else (if (v6 &&& ((m_st (3 : Int32).toNatClampNeg) ^^^ (-1))) = 0 then (zb2 (L_X12_odds_71 m_jumpers m_st v1 v6 300 1 0) (fun v7_36 v8_37 => (if v7_36 ≤ 0 then (L_X12_odds_40 m_jumpers m_period m_hang m_st v1 v2 n m_now (v4 + 0) (v5 + v7_36) (v6 + 1)) else (zb2 (F_X12_allStay m_jumpers m_period m_hang m_st m_now v6 v2) (fun r_40 m_now_41 => (if r_40 = 0 then (L_X12_odds_40 m_jumpers m_period m_hang m_st v1 v2 n m_now_41 (v4 + 0) (v5 + v7_36) (v6 + 1)) else (L_X12_odds_40 m_jumpers m_period m_hang m_st v1 v2 n m_now_41 (v4 + v7_36) (v5 + v7_36) (v6 + 1)))))))) else (L_X12_odds_40 m_jumpers m_period m_hang m_st v1 v2 n m_now v4 v5 (v6 + 1)))) := rfl
def F_X12_odds (m_jumpers : Int32) (m_period : Nat → Int32) (m_hang : Nat → Int32) (m_st : Nat → Int32) (m_now : Nat → Int32) (p1 : Int32) (p2 : Int32) (p3 : Int32) : Option (Int32 × (Nat → Int32)) :=
  (zb1 (F_X12_in p1 0 10) (fun r_1 => (if r_1 = 0 then some ((-1), m_now) else (zb1 (F_X12_in p2 0 60) (fun r_4 => (if r_4 = 0 then some ((-1), m_now) else (zb1 (F_X12_in p3 0 1) (fun r_7 => (if r_7 = 0 then some ((-1), m_now) else (zb4 (L_X12_odds_40 m_jumpers m_period m_hang m_st p1 p2 300 m_now 0 0 0) (fun m_now_44 v4_45 v5_46 v6_47 => (zb1 (F_X12_divisor v4_45 v5_46) (fun r_49 => (if p3 = 0 then (if r_49 = 0 then none else some (v4_45 / r_49, m_now_44)) else (if r_49 = 0 then none else some (v5_46 / r_49, m_now_44))))))))))))))))
set_option maxHeartbeats 4000000 in
set_option maxRecDepth 100000 in
theorem c_X12_odds (l : Launch) (D : va_G) (cI cZ cS cJ : ClassId) (m_a : Nat) (m_a_letters : Nat) (m_a_period : Nat) (m_a_hang : Nat) (m_a_st : Nat) (m_a_now : Nat) (m_a_book : Nat) (m_a_images : Nat) (m_a_isKept : Nat) (m_a_seenHang : Nat) (m_a_seenTick : Nat) (m_a_seenUp : Nat) (m_a_readOne : Nat) (m_length : Int32) (m_jumpers : Int32) (m_undos : Int32) (m_seen : Int32) (m_trail : Int64) (m_place : Int32) (m_wrong : Int32) (m_items : Int32) (m_saidEvery : Int32) (m_readEvery : Int32) (m_readJumpers : Int32) (m_period : Nat → Int32) (m_hang : Nat → Int32) (m_st : Nat → Int32) (m_now : Nat → Int32) (p1 : Int32) (p2 : Int32) (p3 : Int32) {r_o : Int32} {m_now_o : Nat → Int32} (hF : F_X12_odds m_jumpers m_period m_hang m_st m_now p1 p2 p3 = some (r_o, m_now_o)) : zMi l yX12_odds (zwl yX12_odds cX12_odds 9 (some .int)) { frames := 3, cells := 0, slots := 0, locals := 73 } D (TYS cI cZ cS cJ) [.ref m_a, .int p1, .int p2, .int p3] [(m_a, .inr (12, [.ref m_a_letters, .int m_length, .int m_jumpers, .ref m_a_period, .ref m_a_hang, .ref m_a_st, .ref m_a_now, .ref m_a_book, .int m_undos, .ref m_a_images, .ref m_a_isKept, .int m_seen, .ref m_a_seenHang, .ref m_a_seenTick, .ref m_a_seenUp, .long m_trail, .int m_place, .int m_wrong, .int m_items, .int m_saidEvery, .int m_readEvery, .int m_readJumpers, .ref m_a_readOne])), (m_a_period, .inl (cI, 6, .inl m_period)), (m_a_hang, .inl (cI, 6, .inl m_hang)), (m_a_st, .inl (cI, 22, .inl m_st)), (m_a_now, .inl (cI, 22, .inl m_now))] [(m_a, .inr (12, [.ref m_a_letters, .int m_length, .int m_jumpers, .ref m_a_period, .ref m_a_hang, .ref m_a_st, .ref m_a_now, .ref m_a_book, .int m_undos, .ref m_a_images, .ref m_a_isKept, .int m_seen, .ref m_a_seenHang, .ref m_a_seenTick, .ref m_a_seenUp, .long m_trail, .int m_place, .int m_wrong, .int m_items, .int m_saidEvery, .int m_readEvery, .int m_readJumpers, .ref m_a_readOne])), (m_a_period, .inl (cI, 6, .inl m_period)), (m_a_hang, .inl (cI, 6, .inl m_hang)), (m_a_st, .inl (cI, 22, .inl m_st)), (m_a_now, .inl (cI, 22, .inl m_now_o))] r_o := by
  refine zent_i (own := RX12) (by decide) rfl (Nat.le_of_ble_eq_true rfl) ?_
  intro p e s m below meth c A ls S hr hlocks hK hP hD hA hl
  have hx := S.1
  have hb := S.2.1
  have hml := S.2.2.1
  have hown := S.2.2.2.1
  have hT : ∀ w ∈ zt, w ∈ zwl yX12_odds cX12_odds 9 (some .int) := fun _ h => List.mem_cons_of_mem _ h
  have ht : ∀ w ∈ zt, w.before [.ref m_a, .int p1, .int p2, .int p3].toArray s = true := fun w h => S.2.2.2.2 w (hT w h)
  have hl : lv_has ls 9 [(0, .ref m_a), (1, .int p1), (2, .int p2), (3, .int p3)] := hl
  have hS : va_S A s.heap s.heap [] := va_S.rf
  unfold F_X12_odds at hF
  have hloop_71 : ∀ (n : Nat) (m_length : Int32) (m_jumpers : Int32) (m_undos : Int32) (m_seen : Int32) (m_trail : Int64) (m_place : Int32) (m_wrong : Int32) (m_items : Int32) (m_saidEvery : Int32) (m_readEvery : Int32) (m_readJumpers : Int32) (m_period : Nat → Int32) (m_hang : Nat → Int32) (m_st : Nat → Int32) (m_now : Nat → Int32) (v1 : Int32) (v2 : Int32) (v3 : Int32) (v4 : Int32) (v5 : Int32) (v6 : Int32) (v7 : Int32) (v8 : Int32) (v7' : Int32) (v8' : Int32), L_X12_odds_71 m_jumpers m_st v1 v6 n v7 v8 = some (v7', v8') → ∀ (H : Heap) (locs : List Loc) (ls : Array Slot), va_P D classes [(m_a, .inr (12, [.ref m_a_letters, .int m_length, .int m_jumpers, .ref m_a_period, .ref m_a_hang, .ref m_a_st, .ref m_a_now, .ref m_a_book, .int m_undos, .ref m_a_images, .ref m_a_isKept, .int m_seen, .ref m_a_seenHang, .ref m_a_seenTick, .ref m_a_seenUp, .long m_trail, .int m_place, .int m_wrong, .int m_items, .int m_saidEvery, .int m_readEvery, .int m_readJumpers, .ref m_a_readOne])), (m_a_period, .inl (cI, 6, .inl m_period)), (m_a_hang, .inl (cI, 6, .inl m_hang)), (m_a_st, .inl (cI, 22, .inl m_st)), (m_a_now, .inl (cI, 22, .inl m_now))] H → va_D A [(m_a, .inr (12, [.ref m_a_letters, .int m_length, .int m_jumpers, .ref m_a_period, .ref m_a_hang, .ref m_a_st, .ref m_a_now, .ref m_a_book, .int m_undos, .ref m_a_images, .ref m_a_isKept, .int m_seen, .ref m_a_seenHang, .ref m_a_seenTick, .ref m_a_seenUp, .long m_trail, .int m_place, .int m_wrong, .int m_items, .int m_saidEvery, .int m_readEvery, .int m_readJumpers, .ref m_a_readOne])), (m_a_period, .inl (cI, 6, .inl m_period)), (m_a_hang, .inl (cI, 6, .inl m_hang)), (m_a_st, .inl (cI, 22, .inl m_st)), (m_a_now, .inl (cI, 22, .inl m_now))] → va_S A s.heap H locs → lv_has ls 9 [(0, .ref m_a), (1, .int v1), (2, .int v2), (3, .int v3), (4, .int v4), (5, .int v5), (6, .int v6), (7, .int v7), (8, .int v8)] → (∀ (H : Heap) (locs : List Loc) (ls : Array Slot), va_P D classes [(m_a, .inr (12, [.ref m_a_letters, .int m_length, .int m_jumpers, .ref m_a_period, .ref m_a_hang, .ref m_a_st, .ref m_a_now, .ref m_a_book, .int m_undos, .ref m_a_images, .ref m_a_isKept, .int m_seen, .ref m_a_seenHang, .ref m_a_seenTick, .ref m_a_seenUp, .long m_trail, .int m_place, .int m_wrong, .int m_items, .int m_saidEvery, .int m_readEvery, .int m_readJumpers, .ref m_a_readOne])), (m_a_period, .inl (cI, 6, .inl m_period)), (m_a_hang, .inl (cI, 6, .inl m_hang)), (m_a_st, .inl (cI, 22, .inl m_st)), (m_a_now, .inl (cI, 22, .inl m_now))] H → va_D A [(m_a, .inr (12, [.ref m_a_letters, .int m_length, .int m_jumpers, .ref m_a_period, .ref m_a_hang, .ref m_a_st, .ref m_a_now, .ref m_a_book, .int m_undos, .ref m_a_images, .ref m_a_isKept, .int m_seen, .ref m_a_seenHang, .ref m_a_seenTick, .ref m_a_seenUp, .long m_trail, .int m_place, .int m_wrong, .int m_items, .int m_saidEvery, .int m_readEvery, .int m_readJumpers, .ref m_a_readOne])), (m_a_period, .inl (cI, 6, .inl m_period)), (m_a_hang, .inl (cI, 6, .inl m_hang)), (m_a_st, .inl (cI, 22, .inl m_st)), (m_a_now, .inl (cI, 22, .inl m_now))] → va_S A s.heap H locs → lv_has ls 9 [(0, .ref m_a), (1, .int v1), (2, .int v2), (3, .int v3), (4, .int v4), (5, .int v5), (6, .int v6), (7, .int v7'), (8, .int v8')] → W p l e { frames := 3, cells := 0, slots := 0, locals := 73 } s m [.ref m_a, .int p1, .int p2, .int p3].toArray below meth c H locs 0 0 (zFi below [.ref m_a, .int p1, .int p2, .int p3] s A D (TYS cI cZ cS cJ) [(m_a, .inr (12, [.ref m_a_letters, .int m_length, .int m_jumpers, .ref m_a_period, .ref m_a_hang, .ref m_a_st, .ref m_a_now, .ref m_a_book, .int m_undos, .ref m_a_images, .ref m_a_isKept, .int m_seen, .ref m_a_seenHang, .ref m_a_seenTick, .ref m_a_seenUp, .long m_trail, .int m_place, .int m_wrong, .int m_items, .int m_saidEvery, .int m_readEvery, .int m_readJumpers, .ref m_a_readOne])), (m_a_period, .inl (cI, 6, .inl m_period)), (m_a_hang, .inl (cI, 6, .inl m_hang)), (m_a_st, .inl (cI, 22, .inl m_st)), (m_a_now, .inl (cI, 22, .inl m_now_o))] r_o) (F0 m 127 ls [])) → W p l e { frames := 3, cells := 0, slots := 0, locals := 73 } s m [.ref m_a, .int p1, .int p2, .int p3].toArray below meth c H locs 0 0 (zFi below [.ref m_a, .int p1, .int p2, .int p3] s A D (TYS cI cZ cS cJ) [(m_a, .inr (12, [.ref m_a_letters, .int m_length, .int m_jumpers, .ref m_a_period, .ref m_a_hang, .ref m_a_st, .ref m_a_now, .ref m_a_book, .int m_undos, .ref m_a_images, .ref m_a_isKept, .int m_seen, .ref m_a_seenHang, .ref m_a_seenTick, .ref m_a_seenUp, .long m_trail, .int m_place, .int m_wrong, .int m_items, .int m_saidEvery, .int m_readEvery, .int m_readJumpers, .ref m_a_readOne])), (m_a_period, .inl (cI, 6, .inl m_period)), (m_a_hang, .inl (cI, 6, .inl m_hang)), (m_a_st, .inl (cI, 22, .inl m_st)), (m_a_now, .inl (cI, 22, .inl m_now_o))] r_o) (F0 m 71 ls []) := by
    intro n
    induction n with
    | zero =>
      intro m_length m_jumpers m_undos m_seen m_trail m_place m_wrong m_items m_saidEvery m_readEvery m_readJumpers m_period m_hang m_st m_now v1 v2 v3 v4 v5 v6 v7 v8 v7' v8' hF
      rw [L_X12_odds_71_z] at hF
      cases hF
    | succ n ih_71 =>
      intro m_length m_jumpers m_undos m_seen m_trail m_place m_wrong m_items m_saidEvery m_readEvery m_readJumpers m_period m_hang m_st m_now v1 v2 v3 v4 v5 v6 v7 v8 v7' v8' hF H locs ls hP hD hS hl hexit_71
      rw [L_X12_odds_71_s] at hF
      refine lv_iload hx hb dX12_odds_71 (lv_at hl 8 rfl) ?_
      refine lv_aload_n hx hb dX12_odds_73 rfl (lv_at hl 0 rfl) ?_
      refine va_get (D := D) (ci := 12) (v := .int m_jumpers) (C := RX12) (T := TX12) (N := 23) hx hb ht iyX12 hown hK hP 0 rfl rfl 2 (by decide) (ht _ wf_X12_47) (fun _ h9 => h9) rfl dX12_odds_74 ?_
      refine lv_icmp_ge (tgt := 127) hx hb dX12_odds_77 (by decide) (fun c_19 => ?_) (fun c_19 => ?_)
      · have hF := zi_pos c_19 hF
        obtain ⟨e_0, e_1⟩ := zo2 hF
        subst e_0
        subst e_1
        exact hexit_71 _ _ _ hP hD hS (lv_sub hl [0, 1, 2, 3, 4, 5, 6, 7, 8] rfl)
      · have hF := zi_neg c_19 hF
        refine lv_iload hx hb dX12_odds_80 (lv_at hl 7 rfl) ?_
        refine lv_iload hx hb dX12_odds_82 (lv_at hl 6 rfl) ?_
        refine lv_iload hx hb dX12_odds_84 (lv_at hl 8 rfl) ?_
        obtain ⟨r_20, hc_21, hF⟩ := zb1_s hF
        refine zcs_i (ws1 := [(m_a, .inr (12, [.ref m_a_letters, .int m_length, .int m_jumpers, .ref m_a_period, .ref m_a_hang, .ref m_a_st, .ref m_a_now, .ref m_a_book, .int m_undos, .ref m_a_images, .ref m_a_isKept, .int m_seen, .ref m_a_seenHang, .ref m_a_seenTick, .ref m_a_seenUp, .long m_trail, .int m_place, .int m_wrong, .int m_items, .int m_saidEvery, .int m_readEvery, .int m_readJumpers, .ref m_a_readOne])), (m_a_period, .inl (cI, 6, .inl m_period)), (m_a_hang, .inl (cI, 6, .inl m_hang)), (m_a_st, .inl (cI, 22, .inl m_st)), (m_a_now, .inl (cI, 22, .inl m_now))]) S hT lk_X12_107 (c_X12_has l D cI cZ cS cJ v6 v8 hc_21) ⟨rfl, rfl, Nat.le_of_ble_eq_true rfl, Nat.le_of_ble_eq_true rfl⟩ hK hP hD hS hA [] [0, 1, 2, 3, 4] [0, 1, 2, 3, 4] rfl rfl rfl rfl rfl rfl rfl rfl hl.1 rfl (Nat.le_of_ble_eq_true rfl) dX12_odds_86 ⟨Nat.zero_le _, Nat.zero_le _⟩ (fun H locs hP hD hS => ?_)
        refine lv_if_eq (tgt := 96) hx hb dX12_odds_89 (by decide) (fun c_22 => ?_) (fun c_22 => ?_)
        · have hF := zi_pos c_22 hF
          refine lv_aload_n hx hb dX12_odds_96 rfl (lv_at hl 0 rfl) ?_
          refine va_get (D := D) (ci := 12) (v := .ref m_a_st) (C := RX12) (T := TX12) (N := 23) hx hb ht iyX12 hown hK hP 0 rfl rfl 5 (by decide) (ht _ wf_X12_19) (fun _ h9 => h9) rfl dX12_odds_97 ?_
          refine lv_iconst (v := 3) hx hb dX12_odds_100 (by decide) ?_
          refine va_iald hx hb hK hP 3 0 rfl rfl (show ¬ ((3 : Int32) < 0 ∨ 22 ≤ (3 : Int32).toNatClampNeg) by decide) dX12_odds_101 ?_
          refine lv_iload hx hb dX12_odds_102 (lv_at hl 8 rfl) ?_
          obtain ⟨r_23, hc_24, hF⟩ := zb1_s hF
          refine zcs_i (ws1 := [(m_a, .inr (12, [.ref m_a_letters, .int m_length, .int m_jumpers, .ref m_a_period, .ref m_a_hang, .ref m_a_st, .ref m_a_now, .ref m_a_book, .int m_undos, .ref m_a_images, .ref m_a_isKept, .int m_seen, .ref m_a_seenHang, .ref m_a_seenTick, .ref m_a_seenUp, .long m_trail, .int m_place, .int m_wrong, .int m_items, .int m_saidEvery, .int m_readEvery, .int m_readJumpers, .ref m_a_readOne])), (m_a_period, .inl (cI, 6, .inl m_period)), (m_a_hang, .inl (cI, 6, .inl m_hang)), (m_a_st, .inl (cI, 22, .inl m_st)), (m_a_now, .inl (cI, 22, .inl m_now))]) S hT lk_X12_107 (c_X12_has l D cI cZ cS cJ (m_st (3 : Int32).toNatClampNeg) v8 hc_24) ⟨rfl, rfl, Nat.le_of_ble_eq_true rfl, Nat.le_of_ble_eq_true rfl⟩ hK hP hD hS hA [] [0, 1, 2, 3, 4] [0, 1, 2, 3, 4] rfl rfl rfl rfl rfl rfl rfl rfl hl.1 rfl (Nat.le_of_ble_eq_true rfl) dX12_odds_104 ⟨Nat.zero_le _, Nat.zero_le _⟩ (fun H locs hP hD hS => ?_)
          refine lv_if_eq (tgt := 117) hx hb dX12_odds_107 (by decide) (fun c_25 => ?_) (fun c_25 => ?_)
          · have hF := zi_pos c_25 hF
            refine lv_iconst (v := 1) hx hb dX12_odds_117 (by decide) ?_
            refine lv_imul hx hb dX12_odds_118 ?_
            refine lv_istore (lv' := [(7, .int (v7 * 1)), (0, .ref m_a), (1, .int v1), (2, .int v2), (3, .int v3), (4, .int v4), (5, .int v5), (6, .int v6), (8, .int v8)]) hx hb dX12_odds_119 hl (by decide) rfl (fun ls hl => ?_)
            refine lv_iinc (v := v8 + 1) (lv' := [(8, .int (v8 + 1)), (7, .int (v7 * 1)), (0, .ref m_a), (1, .int v1), (2, .int v2), (3, .int v3), (4, .int v4), (5, .int v5), (6, .int v6)]) hx hb dX12_odds_121 hl (k := 8) rfl (by rfl) (by decide) rfl (fun ls hl => ?_)
            refine lv_goto (tgt := 71) hx hb dX12_odds_124 (by decide) ?_
            exact ih_71 m_length m_jumpers m_undos m_seen m_trail m_place m_wrong m_items m_saidEvery m_readEvery m_readJumpers m_period m_hang m_st m_now v1 v2 v3 v4 v5 v6 (v7 * 1) (v8 + 1) _ _ hF _ _ _ hP hD hS (lv_sub hl [2, 3, 4, 5, 6, 7, 8, 1, 0] rfl) hexit_71
          · have hF := zi_neg c_25 hF
            refine lv_bipush (v := 10) hx hb dX12_odds_110 (by decide) ?_
            refine lv_iload_n hx hb dX12_odds_112 rfl (lv_at hl 1 rfl) ?_
            refine lv_isub hx hb dX12_odds_113 ?_
            refine lv_goto (tgt := 118) hx hb dX12_odds_114 (by decide) ?_
            refine lv_imul hx hb dX12_odds_118 ?_
            refine lv_istore (lv' := [(7, .int (v7 * (10 - v1))), (0, .ref m_a), (1, .int v1), (2, .int v2), (3, .int v3), (4, .int v4), (5, .int v5), (6, .int v6), (8, .int v8)]) hx hb dX12_odds_119 hl (by decide) rfl (fun ls hl => ?_)
            refine lv_iinc (v := v8 + 1) (lv' := [(8, .int (v8 + 1)), (7, .int (v7 * (10 - v1))), (0, .ref m_a), (1, .int v1), (2, .int v2), (3, .int v3), (4, .int v4), (5, .int v5), (6, .int v6)]) hx hb dX12_odds_121 hl (k := 8) rfl (by rfl) (by decide) rfl (fun ls hl => ?_)
            refine lv_goto (tgt := 71) hx hb dX12_odds_124 (by decide) ?_
            exact ih_71 m_length m_jumpers m_undos m_seen m_trail m_place m_wrong m_items m_saidEvery m_readEvery m_readJumpers m_period m_hang m_st m_now v1 v2 v3 v4 v5 v6 (v7 * (10 - v1)) (v8 + 1) _ _ hF _ _ _ hP hD hS (lv_sub hl [2, 3, 4, 5, 6, 7, 8, 1, 0] rfl) hexit_71
        · have hF := zi_neg c_22 hF
          refine lv_iload_n hx hb dX12_odds_92 rfl (lv_at hl 1 rfl) ?_
          refine lv_goto (tgt := 118) hx hb dX12_odds_93 (by decide) ?_
          refine lv_imul hx hb dX12_odds_118 ?_
          refine lv_istore (lv' := [(7, .int (v7 * v1)), (0, .ref m_a), (1, .int v1), (2, .int v2), (3, .int v3), (4, .int v4), (5, .int v5), (6, .int v6), (8, .int v8)]) hx hb dX12_odds_119 hl (by decide) rfl (fun ls hl => ?_)
          refine lv_iinc (v := v8 + 1) (lv' := [(8, .int (v8 + 1)), (7, .int (v7 * v1)), (0, .ref m_a), (1, .int v1), (2, .int v2), (3, .int v3), (4, .int v4), (5, .int v5), (6, .int v6)]) hx hb dX12_odds_121 hl (k := 8) rfl (by rfl) (by decide) rfl (fun ls hl => ?_)
          refine lv_goto (tgt := 71) hx hb dX12_odds_124 (by decide) ?_
          exact ih_71 m_length m_jumpers m_undos m_seen m_trail m_place m_wrong m_items m_saidEvery m_readEvery m_readJumpers m_period m_hang m_st m_now v1 v2 v3 v4 v5 v6 (v7 * v1) (v8 + 1) _ _ hF _ _ _ hP hD hS (lv_sub hl [2, 3, 4, 5, 6, 7, 8, 1, 0] rfl) hexit_71
  have hloop_40 : ∀ (n : Nat) (m_length : Int32) (m_jumpers : Int32) (m_undos : Int32) (m_seen : Int32) (m_trail : Int64) (m_place : Int32) (m_wrong : Int32) (m_items : Int32) (m_saidEvery : Int32) (m_readEvery : Int32) (m_readJumpers : Int32) (m_period : Nat → Int32) (m_hang : Nat → Int32) (m_st : Nat → Int32) (m_now : Nat → Int32) (v1 : Int32) (v2 : Int32) (v3 : Int32) (v4 : Int32) (v5 : Int32) (v6 : Int32) (m_now' : Nat → Int32) (v4' : Int32) (v5' : Int32) (v6' : Int32), L_X12_odds_40 m_jumpers m_period m_hang m_st v1 v2 n m_now v4 v5 v6 = some (m_now', v4', v5', v6') → ∀ (H : Heap) (locs : List Loc) (ls : Array Slot), va_P D classes [(m_a, .inr (12, [.ref m_a_letters, .int m_length, .int m_jumpers, .ref m_a_period, .ref m_a_hang, .ref m_a_st, .ref m_a_now, .ref m_a_book, .int m_undos, .ref m_a_images, .ref m_a_isKept, .int m_seen, .ref m_a_seenHang, .ref m_a_seenTick, .ref m_a_seenUp, .long m_trail, .int m_place, .int m_wrong, .int m_items, .int m_saidEvery, .int m_readEvery, .int m_readJumpers, .ref m_a_readOne])), (m_a_period, .inl (cI, 6, .inl m_period)), (m_a_hang, .inl (cI, 6, .inl m_hang)), (m_a_st, .inl (cI, 22, .inl m_st)), (m_a_now, .inl (cI, 22, .inl m_now))] H → va_D A [(m_a, .inr (12, [.ref m_a_letters, .int m_length, .int m_jumpers, .ref m_a_period, .ref m_a_hang, .ref m_a_st, .ref m_a_now, .ref m_a_book, .int m_undos, .ref m_a_images, .ref m_a_isKept, .int m_seen, .ref m_a_seenHang, .ref m_a_seenTick, .ref m_a_seenUp, .long m_trail, .int m_place, .int m_wrong, .int m_items, .int m_saidEvery, .int m_readEvery, .int m_readJumpers, .ref m_a_readOne])), (m_a_period, .inl (cI, 6, .inl m_period)), (m_a_hang, .inl (cI, 6, .inl m_hang)), (m_a_st, .inl (cI, 22, .inl m_st)), (m_a_now, .inl (cI, 22, .inl m_now))] → va_S A s.heap H locs → lv_has ls 9 [(0, .ref m_a), (1, .int v1), (2, .int v2), (3, .int v3), (4, .int v4), (5, .int v5), (6, .int v6)] → (∀ (H : Heap) (locs : List Loc) (ls : Array Slot), va_P D classes [(m_a, .inr (12, [.ref m_a_letters, .int m_length, .int m_jumpers, .ref m_a_period, .ref m_a_hang, .ref m_a_st, .ref m_a_now, .ref m_a_book, .int m_undos, .ref m_a_images, .ref m_a_isKept, .int m_seen, .ref m_a_seenHang, .ref m_a_seenTick, .ref m_a_seenUp, .long m_trail, .int m_place, .int m_wrong, .int m_items, .int m_saidEvery, .int m_readEvery, .int m_readJumpers, .ref m_a_readOne])), (m_a_period, .inl (cI, 6, .inl m_period)), (m_a_hang, .inl (cI, 6, .inl m_hang)), (m_a_st, .inl (cI, 22, .inl m_st)), (m_a_now, .inl (cI, 22, .inl m_now'))] H → va_D A [(m_a, .inr (12, [.ref m_a_letters, .int m_length, .int m_jumpers, .ref m_a_period, .ref m_a_hang, .ref m_a_st, .ref m_a_now, .ref m_a_book, .int m_undos, .ref m_a_images, .ref m_a_isKept, .int m_seen, .ref m_a_seenHang, .ref m_a_seenTick, .ref m_a_seenUp, .long m_trail, .int m_place, .int m_wrong, .int m_items, .int m_saidEvery, .int m_readEvery, .int m_readJumpers, .ref m_a_readOne])), (m_a_period, .inl (cI, 6, .inl m_period)), (m_a_hang, .inl (cI, 6, .inl m_hang)), (m_a_st, .inl (cI, 22, .inl m_st)), (m_a_now, .inl (cI, 22, .inl m_now'))] → va_S A s.heap H locs → lv_has ls 9 [(0, .ref m_a), (1, .int v1), (2, .int v2), (3, .int v3), (4, .int v4'), (5, .int v5'), (6, .int v6')] → W p l e { frames := 3, cells := 0, slots := 0, locals := 73 } s m [.ref m_a, .int p1, .int p2, .int p3].toArray below meth c H locs 0 0 (zFi below [.ref m_a, .int p1, .int p2, .int p3] s A D (TYS cI cZ cS cJ) [(m_a, .inr (12, [.ref m_a_letters, .int m_length, .int m_jumpers, .ref m_a_period, .ref m_a_hang, .ref m_a_st, .ref m_a_now, .ref m_a_book, .int m_undos, .ref m_a_images, .ref m_a_isKept, .int m_seen, .ref m_a_seenHang, .ref m_a_seenTick, .ref m_a_seenUp, .long m_trail, .int m_place, .int m_wrong, .int m_items, .int m_saidEvery, .int m_readEvery, .int m_readJumpers, .ref m_a_readOne])), (m_a_period, .inl (cI, 6, .inl m_period)), (m_a_hang, .inl (cI, 6, .inl m_hang)), (m_a_st, .inl (cI, 22, .inl m_st)), (m_a_now, .inl (cI, 22, .inl m_now_o))] r_o) (F0 m 166 ls [])) → W p l e { frames := 3, cells := 0, slots := 0, locals := 73 } s m [.ref m_a, .int p1, .int p2, .int p3].toArray below meth c H locs 0 0 (zFi below [.ref m_a, .int p1, .int p2, .int p3] s A D (TYS cI cZ cS cJ) [(m_a, .inr (12, [.ref m_a_letters, .int m_length, .int m_jumpers, .ref m_a_period, .ref m_a_hang, .ref m_a_st, .ref m_a_now, .ref m_a_book, .int m_undos, .ref m_a_images, .ref m_a_isKept, .int m_seen, .ref m_a_seenHang, .ref m_a_seenTick, .ref m_a_seenUp, .long m_trail, .int m_place, .int m_wrong, .int m_items, .int m_saidEvery, .int m_readEvery, .int m_readJumpers, .ref m_a_readOne])), (m_a_period, .inl (cI, 6, .inl m_period)), (m_a_hang, .inl (cI, 6, .inl m_hang)), (m_a_st, .inl (cI, 22, .inl m_st)), (m_a_now, .inl (cI, 22, .inl m_now_o))] r_o) (F0 m 40 ls []) := by
    intro n
    induction n with
    | zero =>
      intro m_length m_jumpers m_undos m_seen m_trail m_place m_wrong m_items m_saidEvery m_readEvery m_readJumpers m_period m_hang m_st m_now v1 v2 v3 v4 v5 v6 m_now' v4' v5' v6' hF
      rw [L_X12_odds_40_z] at hF
      cases hF
    | succ n ih_40 =>
      intro m_length m_jumpers m_undos m_seen m_trail m_place m_wrong m_items m_saidEvery m_readEvery m_readJumpers m_period m_hang m_st m_now v1 v2 v3 v4 v5 v6 m_now' v4' v5' v6' hF H locs ls hP hD hS hl hexit_40
      rw [L_X12_odds_40_s] at hF
      refine lv_iload hx hb dX12_odds_40 (lv_at hl 6 rfl) ?_
      refine lv_iconst (v := 1) hx hb dX12_odds_42 (by decide) ?_
      refine lv_aload_n hx hb dX12_odds_43 rfl (lv_at hl 0 rfl) ?_
      refine va_get (D := D) (ci := 12) (v := .int m_jumpers) (C := RX12) (T := TX12) (N := 23) hx hb ht iyX12 hown hK hP 0 rfl rfl 2 (by decide) (ht _ wf_X12_47) (fun _ h9 => h9) rfl dX12_odds_44 ?_
      refine lv_ishl hx hb dX12_odds_47 ?_
      refine lv_icmp_ge (tgt := 166) hx hb dX12_odds_48 (by decide) (fun c_34 => ?_) (fun c_34 => ?_)
      · have hF := zi_pos c_34 hF
        obtain ⟨e_0, e_1, e_2, e_3⟩ := zo4 hF
        subst e_0
        subst e_1
        subst e_2
        subst e_3
        exact hexit_40 _ _ _ hP hD hS (lv_sub hl [0, 1, 2, 3, 4, 5, 6] rfl)
      · have hF := zi_neg c_34 hF
        refine lv_iload hx hb dX12_odds_51 (lv_at hl 6 rfl) ?_
        refine lv_aload_n hx hb dX12_odds_53 rfl (lv_at hl 0 rfl) ?_
        refine va_get (D := D) (ci := 12) (v := .ref m_a_st) (C := RX12) (T := TX12) (N := 23) hx hb ht iyX12 hown hK hP 0 rfl rfl 5 (by decide) (ht _ wf_X12_19) (fun _ h9 => h9) rfl dX12_odds_54 ?_
        refine lv_iconst (v := 3) hx hb dX12_odds_57 (by decide) ?_
        refine va_iald hx hb hK hP 3 0 rfl rfl (show ¬ ((3 : Int32) < 0 ∨ 22 ≤ (3 : Int32).toNatClampNeg) by decide) dX12_odds_58 ?_
        refine lv_iconst (v := (-1)) hx hb dX12_odds_59 (by decide) ?_
        refine lv_ixor hx hb dX12_odds_60 ?_
        refine lv_iand hx hb dX12_odds_61 ?_
        refine lv_if_ne (tgt := 160) hx hb dX12_odds_62 (by decide) (fun c_35 => ?_) (fun c_35 => ?_)
        · have hF := zi_neg c_35 hF
          refine lv_iinc (v := v6 + 1) (lv' := [(6, .int (v6 + 1)), (0, .ref m_a), (1, .int v1), (2, .int v2), (3, .int v3), (4, .int v4), (5, .int v5)]) hx hb dX12_odds_160 hl (k := 6) rfl (by rfl) (by decide) rfl (fun ls hl => ?_)
          refine lv_goto (tgt := 40) hx hb dX12_odds_163 (by decide) ?_
          exact ih_40 m_length m_jumpers m_undos m_seen m_trail m_place m_wrong m_items m_saidEvery m_readEvery m_readJumpers m_period m_hang m_st m_now v1 v2 v3 v4 v5 (v6 + 1) _ _ _ _ hF _ _ _ hP hD hS (lv_sub hl [1, 2, 3, 4, 5, 6, 0] rfl) hexit_40
        · have hF := zi_pos c_35 hF
          refine lv_iconst (v := 1) hx hb dX12_odds_65 (by decide) ?_
          refine lv_istore (lv' := [(7, .int 1), (0, .ref m_a), (1, .int v1), (2, .int v2), (3, .int v3), (4, .int v4), (5, .int v5), (6, .int v6)]) hx hb dX12_odds_66 hl (by decide) rfl (fun ls hl => ?_)
          refine lv_iconst (v := 0) hx hb dX12_odds_68 (by decide) ?_
          refine lv_istore (lv' := [(8, .int 0), (7, .int 1), (0, .ref m_a), (1, .int v1), (2, .int v2), (3, .int v3), (4, .int v4), (5, .int v5), (6, .int v6)]) hx hb dX12_odds_69 hl (by decide) rfl (fun ls hl => ?_)
          obtain ⟨v7_36, v8_37, hL_38, hF⟩ := zb2_s hF
          refine hloop_71 300 m_length m_jumpers m_undos m_seen m_trail m_place m_wrong m_items m_saidEvery m_readEvery m_readJumpers m_period m_hang m_st m_now v1 v2 v3 v4 v5 v6 1 0 v7_36 v8_37 hL_38 _ _ _ hP hD hS (lv_sub hl [2, 3, 4, 5, 6, 7, 8, 1, 0] rfl) (fun H locs ls hP hD hS hl => ?_)
          refine lv_iload hx hb dX12_odds_127 (lv_at hl 4 rfl) ?_
          refine lv_iload hx hb dX12_odds_129 (lv_at hl 7 rfl) ?_
          refine lv_if_le (tgt := 149) hx hb dX12_odds_131 (by decide) (fun c_39 => ?_) (fun c_39 => ?_)
          · have hF := zi_pos c_39 hF
            refine lv_iconst (v := 0) hx hb dX12_odds_149 (by decide) ?_
            refine lv_iadd hx hb dX12_odds_150 ?_
            refine lv_istore (lv' := [(4, .int (v4 + 0)), (0, .ref m_a), (1, .int v1), (2, .int v2), (3, .int v3), (5, .int v5), (6, .int v6), (7, .int v7_36), (8, .int v8_37)]) hx hb dX12_odds_151 hl (by decide) rfl (fun ls hl => ?_)
            refine lv_iload hx hb dX12_odds_153 (lv_at hl 5 rfl) ?_
            refine lv_iload hx hb dX12_odds_155 (lv_at hl 7 rfl) ?_
            refine lv_iadd hx hb dX12_odds_157 ?_
            refine lv_istore (lv' := [(5, .int (v5 + v7_36)), (4, .int (v4 + 0)), (0, .ref m_a), (1, .int v1), (2, .int v2), (3, .int v3), (6, .int v6), (7, .int v7_36), (8, .int v8_37)]) hx hb dX12_odds_158 hl (by decide) rfl (fun ls hl => ?_)
            refine lv_iinc (v := v6 + 1) (lv' := [(6, .int (v6 + 1)), (5, .int (v5 + v7_36)), (4, .int (v4 + 0)), (0, .ref m_a), (1, .int v1), (2, .int v2), (3, .int v3), (7, .int v7_36), (8, .int v8_37)]) hx hb dX12_odds_160 hl (k := 6) rfl (by rfl) (by decide) rfl (fun ls hl => ?_)
            refine lv_goto (tgt := 40) hx hb dX12_odds_163 (by decide) ?_
            exact ih_40 m_length m_jumpers m_undos m_seen m_trail m_place m_wrong m_items m_saidEvery m_readEvery m_readJumpers m_period m_hang m_st m_now v1 v2 v3 (v4 + 0) (v5 + v7_36) (v6 + 1) _ _ _ _ hF _ _ _ hP hD hS (lv_sub hl [3, 4, 5, 6, 2, 1, 0] rfl) hexit_40
          · have hF := zi_neg c_39 hF
            refine lv_aload_n hx hb dX12_odds_134 rfl (lv_at hl 0 rfl) ?_
            refine lv_iload hx hb dX12_odds_135 (lv_at hl 6 rfl) ?_
            refine lv_iload_n hx hb dX12_odds_137 rfl (lv_at hl 2 rfl) ?_
            obtain ⟨r_40, m_now_41, hc_42, hF⟩ := zb2_s hF
            refine zcv_i (ws1 := [(m_a, .inr (12, [.ref m_a_letters, .int m_length, .int m_jumpers, .ref m_a_period, .ref m_a_hang, .ref m_a_st, .ref m_a_now, .ref m_a_book, .int m_undos, .ref m_a_images, .ref m_a_isKept, .int m_seen, .ref m_a_seenHang, .ref m_a_seenTick, .ref m_a_seenUp, .long m_trail, .int m_place, .int m_wrong, .int m_items, .int m_saidEvery, .int m_readEvery, .int m_readJumpers, .ref m_a_readOne])), (m_a_period, .inl (cI, 6, .inl m_period)), (m_a_hang, .inl (cI, 6, .inl m_hang)), (m_a_st, .inl (cI, 22, .inl m_st)), (m_a_now, .inl (cI, 22, .inl m_now_41))]) S hT lk_X12_157 (c_X12_allStay l D cI cZ cS cJ m_a m_a_letters m_a_period m_a_hang m_a_st m_a_now m_a_book m_a_images m_a_isKept m_a_seenHang m_a_seenTick m_a_seenUp m_a_readOne m_length m_jumpers m_undos m_seen m_trail m_place m_wrong m_items m_saidEvery m_readEvery m_readJumpers m_period m_hang m_st m_now v6 v2 hc_42) ⟨rfl, rfl, Nat.le_of_ble_eq_true rfl, Nat.le_of_ble_eq_true rfl⟩ hK hP hD hS hA [0, 1, 2, 3, 4] [] [0, 1, 2, 3, 4] rfl rfl rfl rfl rfl rfl rfl rfl rfl rfl rfl hl.1 rfl (Nat.le_of_ble_eq_true rfl) dX12_odds_138 ⟨Nat.zero_le _, Nat.zero_le _⟩ (fun H locs hP hD hS => ?_)
            refine lv_if_eq (tgt := 149) hx hb dX12_odds_141 (by decide) (fun c_43 => ?_) (fun c_43 => ?_)
            · have hF := zi_pos c_43 hF
              refine lv_iconst (v := 0) hx hb dX12_odds_149 (by decide) ?_
              refine lv_iadd hx hb dX12_odds_150 ?_
              refine lv_istore (lv' := [(4, .int (v4 + 0)), (0, .ref m_a), (1, .int v1), (2, .int v2), (3, .int v3), (5, .int v5), (6, .int v6), (7, .int v7_36), (8, .int v8_37)]) hx hb dX12_odds_151 hl (by decide) rfl (fun ls hl => ?_)
              refine lv_iload hx hb dX12_odds_153 (lv_at hl 5 rfl) ?_
              refine lv_iload hx hb dX12_odds_155 (lv_at hl 7 rfl) ?_
              refine lv_iadd hx hb dX12_odds_157 ?_
              refine lv_istore (lv' := [(5, .int (v5 + v7_36)), (4, .int (v4 + 0)), (0, .ref m_a), (1, .int v1), (2, .int v2), (3, .int v3), (6, .int v6), (7, .int v7_36), (8, .int v8_37)]) hx hb dX12_odds_158 hl (by decide) rfl (fun ls hl => ?_)
              refine lv_iinc (v := v6 + 1) (lv' := [(6, .int (v6 + 1)), (5, .int (v5 + v7_36)), (4, .int (v4 + 0)), (0, .ref m_a), (1, .int v1), (2, .int v2), (3, .int v3), (7, .int v7_36), (8, .int v8_37)]) hx hb dX12_odds_160 hl (k := 6) rfl (by rfl) (by decide) rfl (fun ls hl => ?_)
              refine lv_goto (tgt := 40) hx hb dX12_odds_163 (by decide) ?_
              exact ih_40 m_length m_jumpers m_undos m_seen m_trail m_place m_wrong m_items m_saidEvery m_readEvery m_readJumpers m_period m_hang m_st m_now_41 v1 v2 v3 (v4 + 0) (v5 + v7_36) (v6 + 1) _ _ _ _ hF _ _ _ hP hD hS (lv_sub hl [3, 4, 5, 6, 2, 1, 0] rfl) hexit_40
            · have hF := zi_neg c_43 hF
              refine lv_iload hx hb dX12_odds_144 (lv_at hl 7 rfl) ?_
              refine lv_goto (tgt := 150) hx hb dX12_odds_146 (by decide) ?_
              refine lv_iadd hx hb dX12_odds_150 ?_
              refine lv_istore (lv' := [(4, .int (v4 + v7_36)), (0, .ref m_a), (1, .int v1), (2, .int v2), (3, .int v3), (5, .int v5), (6, .int v6), (7, .int v7_36), (8, .int v8_37)]) hx hb dX12_odds_151 hl (by decide) rfl (fun ls hl => ?_)
              refine lv_iload hx hb dX12_odds_153 (lv_at hl 5 rfl) ?_
              refine lv_iload hx hb dX12_odds_155 (lv_at hl 7 rfl) ?_
              refine lv_iadd hx hb dX12_odds_157 ?_
              refine lv_istore (lv' := [(5, .int (v5 + v7_36)), (4, .int (v4 + v7_36)), (0, .ref m_a), (1, .int v1), (2, .int v2), (3, .int v3), (6, .int v6), (7, .int v7_36), (8, .int v8_37)]) hx hb dX12_odds_158 hl (by decide) rfl (fun ls hl => ?_)
              refine lv_iinc (v := v6 + 1) (lv' := [(6, .int (v6 + 1)), (5, .int (v5 + v7_36)), (4, .int (v4 + v7_36)), (0, .ref m_a), (1, .int v1), (2, .int v2), (3, .int v3), (7, .int v7_36), (8, .int v8_37)]) hx hb dX12_odds_160 hl (k := 6) rfl (by rfl) (by decide) rfl (fun ls hl => ?_)
              refine lv_goto (tgt := 40) hx hb dX12_odds_163 (by decide) ?_
              exact ih_40 m_length m_jumpers m_undos m_seen m_trail m_place m_wrong m_items m_saidEvery m_readEvery m_readJumpers m_period m_hang m_st m_now_41 v1 v2 v3 (v4 + v7_36) (v5 + v7_36) (v6 + 1) _ _ _ _ hF _ _ _ hP hD hS (lv_sub hl [3, 4, 5, 6, 2, 1, 0] rfl) hexit_40
  refine lv_iload_n hx hb dX12_odds_0 rfl (lv_at hl 1 rfl) ?_
  refine lv_iconst (v := 0) hx hb dX12_odds_1 (by decide) ?_
  refine lv_bipush (v := 10) hx hb dX12_odds_2 (by decide) ?_
  obtain ⟨r_1, hc_2, hF⟩ := zb1_s hF
  refine zcs_i (ws1 := [(m_a, .inr (12, [.ref m_a_letters, .int m_length, .int m_jumpers, .ref m_a_period, .ref m_a_hang, .ref m_a_st, .ref m_a_now, .ref m_a_book, .int m_undos, .ref m_a_images, .ref m_a_isKept, .int m_seen, .ref m_a_seenHang, .ref m_a_seenTick, .ref m_a_seenUp, .long m_trail, .int m_place, .int m_wrong, .int m_items, .int m_saidEvery, .int m_readEvery, .int m_readJumpers, .ref m_a_readOne])), (m_a_period, .inl (cI, 6, .inl m_period)), (m_a_hang, .inl (cI, 6, .inl m_hang)), (m_a_st, .inl (cI, 22, .inl m_st)), (m_a_now, .inl (cI, 22, .inl m_now))]) S hT lk_X12_51 (c_X12_in l D cI cZ cS cJ p1 0 10 hc_2) ⟨rfl, rfl, Nat.le_of_ble_eq_true rfl, Nat.le_of_ble_eq_true rfl⟩ hK hP hD hS hA [] [0, 1, 2, 3, 4] [0, 1, 2, 3, 4] rfl rfl rfl rfl rfl rfl rfl rfl hl.1 rfl (Nat.le_of_ble_eq_true rfl) dX12_odds_4 ⟨Nat.zero_le _, Nat.zero_le _⟩ (fun H locs hP hD hS => ?_)
  refine lv_if_eq (tgt := 29) hx hb dX12_odds_7 (by decide) (fun c_3 => ?_) (fun c_3 => ?_)
  · have hF := zi_pos c_3 hF
    refine lv_iconst (v := (-1)) hx hb dX12_odds_29 (by decide) ?_
    obtain ⟨e_0, e_1⟩ := zo2 hF
    subst e_0
    subst e_1
    exact zret_i S hr hlocks hK hP hD hS dX12_odds_30
  · have hF := zi_neg c_3 hF
    refine lv_iload_n hx hb dX12_odds_10 rfl (lv_at hl 2 rfl) ?_
    refine lv_iconst (v := 0) hx hb dX12_odds_11 (by decide) ?_
    refine lv_bipush (v := 60) hx hb dX12_odds_12 (by decide) ?_
    obtain ⟨r_4, hc_5, hF⟩ := zb1_s hF
    refine zcs_i (ws1 := [(m_a, .inr (12, [.ref m_a_letters, .int m_length, .int m_jumpers, .ref m_a_period, .ref m_a_hang, .ref m_a_st, .ref m_a_now, .ref m_a_book, .int m_undos, .ref m_a_images, .ref m_a_isKept, .int m_seen, .ref m_a_seenHang, .ref m_a_seenTick, .ref m_a_seenUp, .long m_trail, .int m_place, .int m_wrong, .int m_items, .int m_saidEvery, .int m_readEvery, .int m_readJumpers, .ref m_a_readOne])), (m_a_period, .inl (cI, 6, .inl m_period)), (m_a_hang, .inl (cI, 6, .inl m_hang)), (m_a_st, .inl (cI, 22, .inl m_st)), (m_a_now, .inl (cI, 22, .inl m_now))]) S hT lk_X12_51 (c_X12_in l D cI cZ cS cJ p2 0 60 hc_5) ⟨rfl, rfl, Nat.le_of_ble_eq_true rfl, Nat.le_of_ble_eq_true rfl⟩ hK hP hD hS hA [] [0, 1, 2, 3, 4] [0, 1, 2, 3, 4] rfl rfl rfl rfl rfl rfl rfl rfl hl.1 rfl (Nat.le_of_ble_eq_true rfl) dX12_odds_14 ⟨Nat.zero_le _, Nat.zero_le _⟩ (fun H locs hP hD hS => ?_)
    refine lv_if_eq (tgt := 29) hx hb dX12_odds_17 (by decide) (fun c_6 => ?_) (fun c_6 => ?_)
    · have hF := zi_pos c_6 hF
      refine lv_iconst (v := (-1)) hx hb dX12_odds_29 (by decide) ?_
      obtain ⟨e_0, e_1⟩ := zo2 hF
      subst e_0
      subst e_1
      exact zret_i S hr hlocks hK hP hD hS dX12_odds_30
    · have hF := zi_neg c_6 hF
      refine lv_iload_n hx hb dX12_odds_20 rfl (lv_at hl 3 rfl) ?_
      refine lv_iconst (v := 0) hx hb dX12_odds_21 (by decide) ?_
      refine lv_iconst (v := 1) hx hb dX12_odds_22 (by decide) ?_
      obtain ⟨r_7, hc_8, hF⟩ := zb1_s hF
      refine zcs_i (ws1 := [(m_a, .inr (12, [.ref m_a_letters, .int m_length, .int m_jumpers, .ref m_a_period, .ref m_a_hang, .ref m_a_st, .ref m_a_now, .ref m_a_book, .int m_undos, .ref m_a_images, .ref m_a_isKept, .int m_seen, .ref m_a_seenHang, .ref m_a_seenTick, .ref m_a_seenUp, .long m_trail, .int m_place, .int m_wrong, .int m_items, .int m_saidEvery, .int m_readEvery, .int m_readJumpers, .ref m_a_readOne])), (m_a_period, .inl (cI, 6, .inl m_period)), (m_a_hang, .inl (cI, 6, .inl m_hang)), (m_a_st, .inl (cI, 22, .inl m_st)), (m_a_now, .inl (cI, 22, .inl m_now))]) S hT lk_X12_51 (c_X12_in l D cI cZ cS cJ p3 0 1 hc_8) ⟨rfl, rfl, Nat.le_of_ble_eq_true rfl, Nat.le_of_ble_eq_true rfl⟩ hK hP hD hS hA [] [0, 1, 2, 3, 4] [0, 1, 2, 3, 4] rfl rfl rfl rfl rfl rfl rfl rfl hl.1 rfl (Nat.le_of_ble_eq_true rfl) dX12_odds_23 ⟨Nat.zero_le _, Nat.zero_le _⟩ (fun H locs hP hD hS => ?_)
      refine lv_if_ne (tgt := 31) hx hb dX12_odds_26 (by decide) (fun c_9 => ?_) (fun c_9 => ?_)
      · have hF := zi_neg c_9 hF
        refine lv_iconst (v := 0) hx hb dX12_odds_31 (by decide) ?_
        refine lv_istore (lv' := [(4, .int 0), (0, .ref m_a), (1, .int p1), (2, .int p2), (3, .int p3)]) hx hb dX12_odds_32 hl (by decide) rfl (fun ls hl => ?_)
        refine lv_iconst (v := 0) hx hb dX12_odds_34 (by decide) ?_
        refine lv_istore (lv' := [(5, .int 0), (4, .int 0), (0, .ref m_a), (1, .int p1), (2, .int p2), (3, .int p3)]) hx hb dX12_odds_35 hl (by decide) rfl (fun ls hl => ?_)
        refine lv_iconst (v := 0) hx hb dX12_odds_37 (by decide) ?_
        refine lv_istore (lv' := [(6, .int 0), (5, .int 0), (4, .int 0), (0, .ref m_a), (1, .int p1), (2, .int p2), (3, .int p3)]) hx hb dX12_odds_38 hl (by decide) rfl (fun ls hl => ?_)
        obtain ⟨m_now_44, v4_45, v5_46, v6_47, hL_48, hF⟩ := zb4_s hF
        refine hloop_40 300 m_length m_jumpers m_undos m_seen m_trail m_place m_wrong m_items m_saidEvery m_readEvery m_readJumpers m_period m_hang m_st m_now p1 p2 p3 0 0 0 m_now_44 v4_45 v5_46 v6_47 hL_48 _ _ _ hP hD hS (lv_sub hl [3, 4, 5, 6, 2, 1, 0] rfl) (fun H locs ls hP hD hS hl => ?_)
        refine lv_iload hx hb dX12_odds_166 (lv_at hl 4 rfl) ?_
        refine lv_iload hx hb dX12_odds_168 (lv_at hl 5 rfl) ?_
        obtain ⟨r_49, hc_50, hF⟩ := zb1_s hF
        refine zcs_i (ws1 := [(m_a, .inr (12, [.ref m_a_letters, .int m_length, .int m_jumpers, .ref m_a_period, .ref m_a_hang, .ref m_a_st, .ref m_a_now, .ref m_a_book, .int m_undos, .ref m_a_images, .ref m_a_isKept, .int m_seen, .ref m_a_seenHang, .ref m_a_seenTick, .ref m_a_seenUp, .long m_trail, .int m_place, .int m_wrong, .int m_items, .int m_saidEvery, .int m_readEvery, .int m_readJumpers, .ref m_a_readOne])), (m_a_period, .inl (cI, 6, .inl m_period)), (m_a_hang, .inl (cI, 6, .inl m_hang)), (m_a_st, .inl (cI, 22, .inl m_st)), (m_a_now, .inl (cI, 22, .inl m_now_44))]) S hT lk_X12_160 (c_X12_divisor l D cI cZ cS cJ v4_45 v5_46 hc_50) ⟨rfl, rfl, Nat.le_of_ble_eq_true rfl, Nat.le_of_ble_eq_true rfl⟩ hK hP hD hS hA [] [0, 1, 2, 3, 4] [0, 1, 2, 3, 4] rfl rfl rfl rfl rfl rfl rfl rfl hl.1 rfl (Nat.le_of_ble_eq_true rfl) dX12_odds_170 ⟨Nat.zero_le _, Nat.zero_le _⟩ (fun H locs hP hD hS => ?_)
        refine lv_istore (lv' := [(6, .int r_49), (0, .ref m_a), (1, .int p1), (2, .int p2), (3, .int p3), (4, .int v4_45), (5, .int v5_46)]) hx hb dX12_odds_173 hl (by decide) rfl (fun ls hl => ?_)
        refine lv_iload_n hx hb dX12_odds_175 rfl (lv_at hl 4 rfl) ?_
        refine lv_if_ne (tgt := 187) hx hb dX12_odds_176 (by decide) (fun c_51 => ?_) (fun c_51 => ?_)
        · have hF := zi_neg c_51 hF
          refine lv_iload hx hb dX12_odds_187 (lv_at hl 6 rfl) ?_
          refine lv_iload hx hb dX12_odds_189 (lv_at hl 0 rfl) ?_
          obtain ⟨h_52, hF⟩ := zi_chk hF
          refine lv_idiv hx hb dX12_odds_191 h_52 ?_
          obtain ⟨e_0, e_1⟩ := zo2 hF
          subst e_0
          subst e_1
          exact zret_i S hr hlocks hK hP hD hS dX12_odds_192
        · have hF := zi_pos c_51 hF
          refine lv_iload hx hb dX12_odds_179 (lv_at hl 5 rfl) ?_
          refine lv_iload hx hb dX12_odds_181 (lv_at hl 0 rfl) ?_
          obtain ⟨h_53, hF⟩ := zi_chk hF
          refine lv_idiv hx hb dX12_odds_183 h_53 ?_
          refine lv_goto (tgt := 192) hx hb dX12_odds_184 (by decide) ?_
          obtain ⟨e_0, e_1⟩ := zo2 hF
          subst e_0
          subst e_1
          exact zret_i S hr hlocks hK hP hD hS dX12_odds_192
      · have hF := zi_pos c_9 hF
        refine lv_iconst (v := (-1)) hx hb dX12_odds_29 (by decide) ?_
        obtain ⟨e_0, e_1⟩ := zo2 hF
        subst e_0
        subst e_1
        exact zret_i S hr hlocks hK hP hD hS dX12_odds_30

def F_X12_sees (m_seen : Int32) (m_seenHang : Nat → Int32) (m_seenTick : Nat → Int32) (m_seenUp : Nat → Int32) (p1 : Int32) (p2 : Int32) (p3 : Int32) : Option (Int32 × Int32 × (Nat → Int32) × (Nat → Int32) × (Nat → Int32)) :=
  (zb1 (F_X12_in p1 1 4) (fun r_1 => (if r_1 = 0 then some ((-1), m_seen, m_seenHang, m_seenTick, m_seenUp) else (zb1 (F_X12_in p2 0 40) (fun r_4 => (if r_4 = 0 then some ((-1), m_seen, m_seenHang, m_seenTick, m_seenUp) else (zb1 (F_X12_in p3 0 1) (fun r_7 => (if r_7 = 0 then some ((-1), m_seen, m_seenHang, m_seenTick, m_seenUp) else (if m_seen = 6 then some ((-3), m_seen, m_seenHang, m_seenTick, m_seenUp) else (if (m_seen < 0 ∨ 6 ≤ m_seen.toNatClampNeg) then none else some (m_seen + 1, m_seen + 1, upd m_seenHang m_seen.toNatClampNeg p1, upd m_seenTick m_seen.toNatClampNeg p2, upd m_seenUp m_seen.toNatClampNeg p3))))))))))))
set_option maxHeartbeats 4000000 in
set_option maxRecDepth 100000 in
theorem c_X12_sees (l : Launch) (D : va_G) (cI cZ cS cJ : ClassId) (m_a : Nat) (m_a_letters : Nat) (m_a_period : Nat) (m_a_hang : Nat) (m_a_st : Nat) (m_a_now : Nat) (m_a_book : Nat) (m_a_images : Nat) (m_a_isKept : Nat) (m_a_seenHang : Nat) (m_a_seenTick : Nat) (m_a_seenUp : Nat) (m_a_readOne : Nat) (m_length : Int32) (m_jumpers : Int32) (m_undos : Int32) (m_seen : Int32) (m_trail : Int64) (m_place : Int32) (m_wrong : Int32) (m_items : Int32) (m_saidEvery : Int32) (m_readEvery : Int32) (m_readJumpers : Int32) (m_seenHang : Nat → Int32) (m_seenTick : Nat → Int32) (m_seenUp : Nat → Int32) (p1 : Int32) (p2 : Int32) (p3 : Int32) {r_o : Int32} {m_seen_o : Int32} {m_seenHang_o : Nat → Int32} {m_seenTick_o : Nat → Int32} {m_seenUp_o : Nat → Int32} (hF : F_X12_sees m_seen m_seenHang m_seenTick m_seenUp p1 p2 p3 = some (r_o, m_seen_o, m_seenHang_o, m_seenTick_o, m_seenUp_o)) : zMi l yX12_sees (zwl yX12_sees cX12_sees 4 (some .int)) { frames := 1, cells := 0, slots := 0, locals := 22 } D (TYS cI cZ cS cJ) [.ref m_a, .int p1, .int p2, .int p3] [(m_a, .inr (12, [.ref m_a_letters, .int m_length, .int m_jumpers, .ref m_a_period, .ref m_a_hang, .ref m_a_st, .ref m_a_now, .ref m_a_book, .int m_undos, .ref m_a_images, .ref m_a_isKept, .int m_seen, .ref m_a_seenHang, .ref m_a_seenTick, .ref m_a_seenUp, .long m_trail, .int m_place, .int m_wrong, .int m_items, .int m_saidEvery, .int m_readEvery, .int m_readJumpers, .ref m_a_readOne])), (m_a_seenHang, .inl (cI, 6, .inl m_seenHang)), (m_a_seenTick, .inl (cI, 6, .inl m_seenTick)), (m_a_seenUp, .inl (cI, 6, .inl m_seenUp))] [(m_a, .inr (12, [.ref m_a_letters, .int m_length, .int m_jumpers, .ref m_a_period, .ref m_a_hang, .ref m_a_st, .ref m_a_now, .ref m_a_book, .int m_undos, .ref m_a_images, .ref m_a_isKept, .int m_seen_o, .ref m_a_seenHang, .ref m_a_seenTick, .ref m_a_seenUp, .long m_trail, .int m_place, .int m_wrong, .int m_items, .int m_saidEvery, .int m_readEvery, .int m_readJumpers, .ref m_a_readOne])), (m_a_seenHang, .inl (cI, 6, .inl m_seenHang_o)), (m_a_seenTick, .inl (cI, 6, .inl m_seenTick_o)), (m_a_seenUp, .inl (cI, 6, .inl m_seenUp_o))] r_o := by
  refine zent_i (own := RX12) (by decide) rfl (Nat.le_of_ble_eq_true rfl) ?_
  intro p e s m below meth c A ls S hr hlocks hK hP hD hA hl
  have hx := S.1
  have hb := S.2.1
  have hml := S.2.2.1
  have hown := S.2.2.2.1
  have hT : ∀ w ∈ zt, w ∈ zwl yX12_sees cX12_sees 4 (some .int) := fun _ h => List.mem_cons_of_mem _ h
  have ht : ∀ w ∈ zt, w.before [.ref m_a, .int p1, .int p2, .int p3].toArray s = true := fun w h => S.2.2.2.2 w (hT w h)
  have hl : lv_has ls 4 [(0, .ref m_a), (1, .int p1), (2, .int p2), (3, .int p3)] := hl
  have hS : va_S A s.heap s.heap [] := va_S.rf
  unfold F_X12_sees at hF
  refine lv_iload_n hx hb dX12_sees_0 rfl (lv_at hl 1 rfl) ?_
  refine lv_iconst (v := 1) hx hb dX12_sees_1 (by decide) ?_
  refine lv_iconst (v := 4) hx hb dX12_sees_2 (by decide) ?_
  obtain ⟨r_1, hc_2, hF⟩ := zb1_s hF
  refine zcs_i (ws1 := [(m_a, .inr (12, [.ref m_a_letters, .int m_length, .int m_jumpers, .ref m_a_period, .ref m_a_hang, .ref m_a_st, .ref m_a_now, .ref m_a_book, .int m_undos, .ref m_a_images, .ref m_a_isKept, .int m_seen, .ref m_a_seenHang, .ref m_a_seenTick, .ref m_a_seenUp, .long m_trail, .int m_place, .int m_wrong, .int m_items, .int m_saidEvery, .int m_readEvery, .int m_readJumpers, .ref m_a_readOne])), (m_a_seenHang, .inl (cI, 6, .inl m_seenHang)), (m_a_seenTick, .inl (cI, 6, .inl m_seenTick)), (m_a_seenUp, .inl (cI, 6, .inl m_seenUp))]) S hT lk_X12_51 (c_X12_in l D cI cZ cS cJ p1 1 4 hc_2) ⟨rfl, rfl, Nat.le_of_ble_eq_true rfl, Nat.le_of_ble_eq_true rfl⟩ hK hP hD hS hA [] [0, 1, 2, 3] [0, 1, 2, 3] rfl rfl rfl rfl rfl rfl rfl rfl hl.1 rfl (Nat.le_of_ble_eq_true rfl) dX12_sees_3 ⟨Nat.zero_le _, Nat.zero_le _⟩ (fun H locs hP hD hS => ?_)
  refine lv_if_eq (tgt := 28) hx hb dX12_sees_6 (by decide) (fun c_3 => ?_) (fun c_3 => ?_)
  · have hF := zi_pos c_3 hF
    refine lv_iconst (v := (-1)) hx hb dX12_sees_28 (by decide) ?_
    obtain ⟨e_0, e_1, e_2, e_3, e_4⟩ := zo5 hF
    subst e_0
    subst e_1
    subst e_2
    subst e_3
    subst e_4
    exact zret_i S hr hlocks hK hP hD hS dX12_sees_29
  · have hF := zi_neg c_3 hF
    refine lv_iload_n hx hb dX12_sees_9 rfl (lv_at hl 2 rfl) ?_
    refine lv_iconst (v := 0) hx hb dX12_sees_10 (by decide) ?_
    refine lv_bipush (v := 40) hx hb dX12_sees_11 (by decide) ?_
    obtain ⟨r_4, hc_5, hF⟩ := zb1_s hF
    refine zcs_i (ws1 := [(m_a, .inr (12, [.ref m_a_letters, .int m_length, .int m_jumpers, .ref m_a_period, .ref m_a_hang, .ref m_a_st, .ref m_a_now, .ref m_a_book, .int m_undos, .ref m_a_images, .ref m_a_isKept, .int m_seen, .ref m_a_seenHang, .ref m_a_seenTick, .ref m_a_seenUp, .long m_trail, .int m_place, .int m_wrong, .int m_items, .int m_saidEvery, .int m_readEvery, .int m_readJumpers, .ref m_a_readOne])), (m_a_seenHang, .inl (cI, 6, .inl m_seenHang)), (m_a_seenTick, .inl (cI, 6, .inl m_seenTick)), (m_a_seenUp, .inl (cI, 6, .inl m_seenUp))]) S hT lk_X12_51 (c_X12_in l D cI cZ cS cJ p2 0 40 hc_5) ⟨rfl, rfl, Nat.le_of_ble_eq_true rfl, Nat.le_of_ble_eq_true rfl⟩ hK hP hD hS hA [] [0, 1, 2, 3] [0, 1, 2, 3] rfl rfl rfl rfl rfl rfl rfl rfl hl.1 rfl (Nat.le_of_ble_eq_true rfl) dX12_sees_13 ⟨Nat.zero_le _, Nat.zero_le _⟩ (fun H locs hP hD hS => ?_)
    refine lv_if_eq (tgt := 28) hx hb dX12_sees_16 (by decide) (fun c_6 => ?_) (fun c_6 => ?_)
    · have hF := zi_pos c_6 hF
      refine lv_iconst (v := (-1)) hx hb dX12_sees_28 (by decide) ?_
      obtain ⟨e_0, e_1, e_2, e_3, e_4⟩ := zo5 hF
      subst e_0
      subst e_1
      subst e_2
      subst e_3
      subst e_4
      exact zret_i S hr hlocks hK hP hD hS dX12_sees_29
    · have hF := zi_neg c_6 hF
      refine lv_iload_n hx hb dX12_sees_19 rfl (lv_at hl 3 rfl) ?_
      refine lv_iconst (v := 0) hx hb dX12_sees_20 (by decide) ?_
      refine lv_iconst (v := 1) hx hb dX12_sees_21 (by decide) ?_
      obtain ⟨r_7, hc_8, hF⟩ := zb1_s hF
      refine zcs_i (ws1 := [(m_a, .inr (12, [.ref m_a_letters, .int m_length, .int m_jumpers, .ref m_a_period, .ref m_a_hang, .ref m_a_st, .ref m_a_now, .ref m_a_book, .int m_undos, .ref m_a_images, .ref m_a_isKept, .int m_seen, .ref m_a_seenHang, .ref m_a_seenTick, .ref m_a_seenUp, .long m_trail, .int m_place, .int m_wrong, .int m_items, .int m_saidEvery, .int m_readEvery, .int m_readJumpers, .ref m_a_readOne])), (m_a_seenHang, .inl (cI, 6, .inl m_seenHang)), (m_a_seenTick, .inl (cI, 6, .inl m_seenTick)), (m_a_seenUp, .inl (cI, 6, .inl m_seenUp))]) S hT lk_X12_51 (c_X12_in l D cI cZ cS cJ p3 0 1 hc_8) ⟨rfl, rfl, Nat.le_of_ble_eq_true rfl, Nat.le_of_ble_eq_true rfl⟩ hK hP hD hS hA [] [0, 1, 2, 3] [0, 1, 2, 3] rfl rfl rfl rfl rfl rfl rfl rfl hl.1 rfl (Nat.le_of_ble_eq_true rfl) dX12_sees_22 ⟨Nat.zero_le _, Nat.zero_le _⟩ (fun H locs hP hD hS => ?_)
      refine lv_if_ne (tgt := 30) hx hb dX12_sees_25 (by decide) (fun c_9 => ?_) (fun c_9 => ?_)
      · have hF := zi_neg c_9 hF
        refine lv_aload_n hx hb dX12_sees_30 rfl (lv_at hl 0 rfl) ?_
        refine va_get (D := D) (ci := 12) (v := .int m_seen) (C := RX12) (T := TX12) (N := 23) hx hb ht iyX12 hown hK hP 0 rfl rfl 11 (by decide) (ht _ wf_X12_104) (fun _ h9 => h9) rfl dX12_sees_31 ?_
        refine lv_bipush (v := 6) hx hb dX12_sees_34 (by decide) ?_
        refine lv_icmp_ne (tgt := 42) hx hb dX12_sees_36 (by decide) (fun c_10 => ?_) (fun c_10 => ?_)
        · have hF := zi_neg c_10 hF
          refine lv_aload_n hx hb dX12_sees_42 rfl (lv_at hl 0 rfl) ?_
          refine va_get (D := D) (ci := 12) (v := .ref m_a_seenHang) (C := RX12) (T := TX12) (N := 23) hx hb ht iyX12 hown hK hP 0 rfl rfl 12 (by decide) (ht _ wf_X12_35) (fun _ h9 => h9) rfl dX12_sees_43 ?_
          refine lv_aload_n hx hb dX12_sees_46 rfl (lv_at hl 0 rfl) ?_
          refine va_get (D := D) (ci := 12) (v := .int m_seen) (C := RX12) (T := TX12) (N := 23) hx hb ht iyX12 hown hK hP 0 rfl rfl 11 (by decide) (ht _ wf_X12_104) (fun _ h9 => h9) rfl dX12_sees_47 ?_
          refine lv_iload_n hx hb dX12_sees_50 rfl (lv_at hl 1 rfl) ?_
          obtain ⟨h_11, hF⟩ := zi_chk hF
          refine va_iast hx hb hK hP hD hS 1 0 rfl rfl h_11 dX12_sees_51 (fun H locs hP hD hS => ?_)
          have hP : va_P D classes [(m_a, .inr (12, [.ref m_a_letters, .int m_length, .int m_jumpers, .ref m_a_period, .ref m_a_hang, .ref m_a_st, .ref m_a_now, .ref m_a_book, .int m_undos, .ref m_a_images, .ref m_a_isKept, .int m_seen, .ref m_a_seenHang, .ref m_a_seenTick, .ref m_a_seenUp, .long m_trail, .int m_place, .int m_wrong, .int m_items, .int m_saidEvery, .int m_readEvery, .int m_readJumpers, .ref m_a_readOne])), (m_a_seenHang, .inl (cI, 6, .inl (upd m_seenHang m_seen.toNatClampNeg p1))), (m_a_seenTick, .inl (cI, 6, .inl m_seenTick)), (m_a_seenUp, .inl (cI, 6, .inl m_seenUp))] H := hP
          have hD : va_D A [(m_a, .inr (12, [.ref m_a_letters, .int m_length, .int m_jumpers, .ref m_a_period, .ref m_a_hang, .ref m_a_st, .ref m_a_now, .ref m_a_book, .int m_undos, .ref m_a_images, .ref m_a_isKept, .int m_seen, .ref m_a_seenHang, .ref m_a_seenTick, .ref m_a_seenUp, .long m_trail, .int m_place, .int m_wrong, .int m_items, .int m_saidEvery, .int m_readEvery, .int m_readJumpers, .ref m_a_readOne])), (m_a_seenHang, .inl (cI, 6, .inl (upd m_seenHang m_seen.toNatClampNeg p1))), (m_a_seenTick, .inl (cI, 6, .inl m_seenTick)), (m_a_seenUp, .inl (cI, 6, .inl m_seenUp))] := hD
          refine lv_aload_n hx hb dX12_sees_52 rfl (lv_at hl 0 rfl) ?_
          refine va_get (D := D) (ci := 12) (v := .ref m_a_seenTick) (C := RX12) (T := TX12) (N := 23) hx hb ht iyX12 hown hK hP 0 rfl rfl 13 (by decide) (ht _ wf_X12_38) (fun _ h9 => h9) rfl dX12_sees_53 ?_
          refine lv_aload_n hx hb dX12_sees_56 rfl (lv_at hl 0 rfl) ?_
          refine va_get (D := D) (ci := 12) (v := .int m_seen) (C := RX12) (T := TX12) (N := 23) hx hb ht iyX12 hown hK hP 0 rfl rfl 11 (by decide) (ht _ wf_X12_104) (fun _ h9 => h9) rfl dX12_sees_57 ?_
          refine lv_iload_n hx hb dX12_sees_60 rfl (lv_at hl 2 rfl) ?_
          refine va_iast hx hb hK hP hD hS 2 0 rfl rfl h_11 dX12_sees_61 (fun H locs hP hD hS => ?_)
          have hP : va_P D classes [(m_a, .inr (12, [.ref m_a_letters, .int m_length, .int m_jumpers, .ref m_a_period, .ref m_a_hang, .ref m_a_st, .ref m_a_now, .ref m_a_book, .int m_undos, .ref m_a_images, .ref m_a_isKept, .int m_seen, .ref m_a_seenHang, .ref m_a_seenTick, .ref m_a_seenUp, .long m_trail, .int m_place, .int m_wrong, .int m_items, .int m_saidEvery, .int m_readEvery, .int m_readJumpers, .ref m_a_readOne])), (m_a_seenHang, .inl (cI, 6, .inl (upd m_seenHang m_seen.toNatClampNeg p1))), (m_a_seenTick, .inl (cI, 6, .inl (upd m_seenTick m_seen.toNatClampNeg p2))), (m_a_seenUp, .inl (cI, 6, .inl m_seenUp))] H := hP
          have hD : va_D A [(m_a, .inr (12, [.ref m_a_letters, .int m_length, .int m_jumpers, .ref m_a_period, .ref m_a_hang, .ref m_a_st, .ref m_a_now, .ref m_a_book, .int m_undos, .ref m_a_images, .ref m_a_isKept, .int m_seen, .ref m_a_seenHang, .ref m_a_seenTick, .ref m_a_seenUp, .long m_trail, .int m_place, .int m_wrong, .int m_items, .int m_saidEvery, .int m_readEvery, .int m_readJumpers, .ref m_a_readOne])), (m_a_seenHang, .inl (cI, 6, .inl (upd m_seenHang m_seen.toNatClampNeg p1))), (m_a_seenTick, .inl (cI, 6, .inl (upd m_seenTick m_seen.toNatClampNeg p2))), (m_a_seenUp, .inl (cI, 6, .inl m_seenUp))] := hD
          refine lv_aload_n hx hb dX12_sees_62 rfl (lv_at hl 0 rfl) ?_
          refine va_get (D := D) (ci := 12) (v := .ref m_a_seenUp) (C := RX12) (T := TX12) (N := 23) hx hb ht iyX12 hown hK hP 0 rfl rfl 14 (by decide) (ht _ wf_X12_41) (fun _ h9 => h9) rfl dX12_sees_63 ?_
          refine lv_aload_n hx hb dX12_sees_66 rfl (lv_at hl 0 rfl) ?_
          refine va_get (D := D) (ci := 12) (v := .int m_seen) (C := RX12) (T := TX12) (N := 23) hx hb ht iyX12 hown hK hP 0 rfl rfl 11 (by decide) (ht _ wf_X12_104) (fun _ h9 => h9) rfl dX12_sees_67 ?_
          refine lv_iload_n hx hb dX12_sees_70 rfl (lv_at hl 3 rfl) ?_
          refine va_iast hx hb hK hP hD hS 3 0 rfl rfl h_11 dX12_sees_71 (fun H locs hP hD hS => ?_)
          have hP : va_P D classes [(m_a, .inr (12, [.ref m_a_letters, .int m_length, .int m_jumpers, .ref m_a_period, .ref m_a_hang, .ref m_a_st, .ref m_a_now, .ref m_a_book, .int m_undos, .ref m_a_images, .ref m_a_isKept, .int m_seen, .ref m_a_seenHang, .ref m_a_seenTick, .ref m_a_seenUp, .long m_trail, .int m_place, .int m_wrong, .int m_items, .int m_saidEvery, .int m_readEvery, .int m_readJumpers, .ref m_a_readOne])), (m_a_seenHang, .inl (cI, 6, .inl (upd m_seenHang m_seen.toNatClampNeg p1))), (m_a_seenTick, .inl (cI, 6, .inl (upd m_seenTick m_seen.toNatClampNeg p2))), (m_a_seenUp, .inl (cI, 6, .inl (upd m_seenUp m_seen.toNatClampNeg p3)))] H := hP
          have hD : va_D A [(m_a, .inr (12, [.ref m_a_letters, .int m_length, .int m_jumpers, .ref m_a_period, .ref m_a_hang, .ref m_a_st, .ref m_a_now, .ref m_a_book, .int m_undos, .ref m_a_images, .ref m_a_isKept, .int m_seen, .ref m_a_seenHang, .ref m_a_seenTick, .ref m_a_seenUp, .long m_trail, .int m_place, .int m_wrong, .int m_items, .int m_saidEvery, .int m_readEvery, .int m_readJumpers, .ref m_a_readOne])), (m_a_seenHang, .inl (cI, 6, .inl (upd m_seenHang m_seen.toNatClampNeg p1))), (m_a_seenTick, .inl (cI, 6, .inl (upd m_seenTick m_seen.toNatClampNeg p2))), (m_a_seenUp, .inl (cI, 6, .inl (upd m_seenUp m_seen.toNatClampNeg p3)))] := hD
          refine lv_aload_n hx hb dX12_sees_72 rfl (lv_at hl 0 rfl) ?_
          refine lv_dup hx hb dX12_sees_73 rfl ?_
          refine va_get (D := D) (ci := 12) (v := .int m_seen) (C := RX12) (T := TX12) (N := 23) hx hb ht iyX12 hown hK hP 0 rfl rfl 11 (by decide) (ht _ wf_X12_104) (fun _ h9 => h9) rfl dX12_sees_74 ?_
          refine lv_iconst (v := 1) hx hb dX12_sees_77 (by decide) ?_
          refine lv_iadd hx hb dX12_sees_78 ?_
          refine va_put (D := D) (ci := 12) (v := .int (m_seen + 1)) (ty := .int) (C := RX12) (T := TX12) (N := 23) hx hb ht iyX12 tyX12 tyX12_ok nmX12 hown hK hP hD hS 0 rfl rfl 11 (by decide) (ht _ wf_X12_104) (fun _ h9 => h9) rfl (by decide +kernel) rfl rfl (Nat.le_of_ble_eq_true rfl) dX12_sees_79 (fun H locs hP hD hS => ?_)
          have hP : va_P D classes [(m_a, .inr (12, [.ref m_a_letters, .int m_length, .int m_jumpers, .ref m_a_period, .ref m_a_hang, .ref m_a_st, .ref m_a_now, .ref m_a_book, .int m_undos, .ref m_a_images, .ref m_a_isKept, .int (m_seen + 1), .ref m_a_seenHang, .ref m_a_seenTick, .ref m_a_seenUp, .long m_trail, .int m_place, .int m_wrong, .int m_items, .int m_saidEvery, .int m_readEvery, .int m_readJumpers, .ref m_a_readOne])), (m_a_seenHang, .inl (cI, 6, .inl (upd m_seenHang m_seen.toNatClampNeg p1))), (m_a_seenTick, .inl (cI, 6, .inl (upd m_seenTick m_seen.toNatClampNeg p2))), (m_a_seenUp, .inl (cI, 6, .inl (upd m_seenUp m_seen.toNatClampNeg p3)))] H := hP
          have hD : va_D A [(m_a, .inr (12, [.ref m_a_letters, .int m_length, .int m_jumpers, .ref m_a_period, .ref m_a_hang, .ref m_a_st, .ref m_a_now, .ref m_a_book, .int m_undos, .ref m_a_images, .ref m_a_isKept, .int (m_seen + 1), .ref m_a_seenHang, .ref m_a_seenTick, .ref m_a_seenUp, .long m_trail, .int m_place, .int m_wrong, .int m_items, .int m_saidEvery, .int m_readEvery, .int m_readJumpers, .ref m_a_readOne])), (m_a_seenHang, .inl (cI, 6, .inl (upd m_seenHang m_seen.toNatClampNeg p1))), (m_a_seenTick, .inl (cI, 6, .inl (upd m_seenTick m_seen.toNatClampNeg p2))), (m_a_seenUp, .inl (cI, 6, .inl (upd m_seenUp m_seen.toNatClampNeg p3)))] := hD
          refine lv_aload_n hx hb dX12_sees_82 rfl (lv_at hl 0 rfl) ?_
          refine va_get (D := D) (ci := 12) (v := .int (m_seen + 1)) (C := RX12) (T := TX12) (N := 23) hx hb ht iyX12 hown hK hP 0 rfl rfl 11 (by decide) (ht _ wf_X12_104) (fun _ h9 => h9) rfl dX12_sees_83 ?_
          obtain ⟨e_0, e_1, e_2, e_3, e_4⟩ := zo5 hF
          subst e_0
          subst e_1
          subst e_2
          subst e_3
          subst e_4
          exact zret_i S hr hlocks hK hP hD hS dX12_sees_86
        · have hF := zi_pos c_10 hF
          refine lv_bipush (v := (-3)) hx hb dX12_sees_39 (by decide) ?_
          obtain ⟨e_0, e_1, e_2, e_3, e_4⟩ := zo5 hF
          subst e_0
          subst e_1
          subst e_2
          subst e_3
          subst e_4
          exact zret_i S hr hlocks hK hP hD hS dX12_sees_41
      · have hF := zi_pos c_9 hF
        refine lv_iconst (v := (-1)) hx hb dX12_sees_28 (by decide) ?_
        obtain ⟨e_0, e_1, e_2, e_3, e_4⟩ := zo5 hF
        subst e_0
        subst e_1
        subst e_2
        subst e_3
        subst e_4
        exact zret_i S hr hlocks hK hP hD hS dX12_sees_29

def F_X12_forget (m_seen : Int32) : Option (Int32 × Int32) :=
  some (m_seen, 0)
set_option maxHeartbeats 4000000 in
set_option maxRecDepth 100000 in
theorem c_X12_forget (l : Launch) (D : va_G) (cI cZ cS cJ : ClassId) (m_a : Nat) (m_a_letters : Nat) (m_a_period : Nat) (m_a_hang : Nat) (m_a_st : Nat) (m_a_now : Nat) (m_a_book : Nat) (m_a_images : Nat) (m_a_isKept : Nat) (m_a_seenHang : Nat) (m_a_seenTick : Nat) (m_a_seenUp : Nat) (m_a_readOne : Nat) (m_length : Int32) (m_jumpers : Int32) (m_undos : Int32) (m_seen : Int32) (m_trail : Int64) (m_place : Int32) (m_wrong : Int32) (m_items : Int32) (m_saidEvery : Int32) (m_readEvery : Int32) (m_readJumpers : Int32) {r_o : Int32} {m_seen_o : Int32} (hF : F_X12_forget m_seen = some (r_o, m_seen_o)) : zMi l yX12_forget (zwl yX12_forget cX12_forget 2 (some .int)) { frames := 0, cells := 0, slots := 0, locals := 0 } D (TYS cI cZ cS cJ) [.ref m_a] [(m_a, .inr (12, [.ref m_a_letters, .int m_length, .int m_jumpers, .ref m_a_period, .ref m_a_hang, .ref m_a_st, .ref m_a_now, .ref m_a_book, .int m_undos, .ref m_a_images, .ref m_a_isKept, .int m_seen, .ref m_a_seenHang, .ref m_a_seenTick, .ref m_a_seenUp, .long m_trail, .int m_place, .int m_wrong, .int m_items, .int m_saidEvery, .int m_readEvery, .int m_readJumpers, .ref m_a_readOne]))] [(m_a, .inr (12, [.ref m_a_letters, .int m_length, .int m_jumpers, .ref m_a_period, .ref m_a_hang, .ref m_a_st, .ref m_a_now, .ref m_a_book, .int m_undos, .ref m_a_images, .ref m_a_isKept, .int m_seen_o, .ref m_a_seenHang, .ref m_a_seenTick, .ref m_a_seenUp, .long m_trail, .int m_place, .int m_wrong, .int m_items, .int m_saidEvery, .int m_readEvery, .int m_readJumpers, .ref m_a_readOne]))] r_o := by
  refine zent_i (own := RX12) (by decide) rfl (Nat.le_of_ble_eq_true rfl) ?_
  intro p e s m below meth c A ls S hr hlocks hK hP hD hA hl
  have hx := S.1
  have hb := S.2.1
  have hml := S.2.2.1
  have hown := S.2.2.2.1
  have hT : ∀ w ∈ zt, w ∈ zwl yX12_forget cX12_forget 2 (some .int) := fun _ h => List.mem_cons_of_mem _ h
  have ht : ∀ w ∈ zt, w.before [.ref m_a].toArray s = true := fun w h => S.2.2.2.2 w (hT w h)
  have hl : lv_has ls 2 [(0, .ref m_a)] := hl
  have hS : va_S A s.heap s.heap [] := va_S.rf
  unfold F_X12_forget at hF
  refine lv_aload_n hx hb dX12_forget_0 rfl (lv_at hl 0 rfl) ?_
  refine va_get (D := D) (ci := 12) (v := .int m_seen) (C := RX12) (T := TX12) (N := 23) hx hb ht iyX12 hown hK hP 0 rfl rfl 11 (by decide) (ht _ wf_X12_104) (fun _ h9 => h9) rfl dX12_forget_1 ?_
  refine lv_istore_n (lv' := [(1, .int m_seen), (0, .ref m_a)]) hx hb dX12_forget_4 rfl hl (by decide) rfl (fun ls hl => ?_)
  refine lv_aload_n hx hb dX12_forget_5 rfl (lv_at hl 1 rfl) ?_
  refine lv_iconst (v := 0) hx hb dX12_forget_6 (by decide) ?_
  refine va_put (D := D) (ci := 12) (v := .int 0) (ty := .int) (C := RX12) (T := TX12) (N := 23) hx hb ht iyX12 tyX12 tyX12_ok nmX12 hown hK hP hD hS 0 rfl rfl 11 (by decide) (ht _ wf_X12_104) (fun _ h9 => h9) rfl (by decide +kernel) rfl rfl (Nat.le_of_ble_eq_true rfl) dX12_forget_7 (fun H locs hP hD hS => ?_)
  have hP : va_P D classes [(m_a, .inr (12, [.ref m_a_letters, .int m_length, .int m_jumpers, .ref m_a_period, .ref m_a_hang, .ref m_a_st, .ref m_a_now, .ref m_a_book, .int m_undos, .ref m_a_images, .ref m_a_isKept, .int 0, .ref m_a_seenHang, .ref m_a_seenTick, .ref m_a_seenUp, .long m_trail, .int m_place, .int m_wrong, .int m_items, .int m_saidEvery, .int m_readEvery, .int m_readJumpers, .ref m_a_readOne]))] H := hP
  have hD : va_D A [(m_a, .inr (12, [.ref m_a_letters, .int m_length, .int m_jumpers, .ref m_a_period, .ref m_a_hang, .ref m_a_st, .ref m_a_now, .ref m_a_book, .int m_undos, .ref m_a_images, .ref m_a_isKept, .int 0, .ref m_a_seenHang, .ref m_a_seenTick, .ref m_a_seenUp, .long m_trail, .int m_place, .int m_wrong, .int m_items, .int m_saidEvery, .int m_readEvery, .int m_readJumpers, .ref m_a_readOne]))] := hD
  refine lv_iload_n hx hb dX12_forget_10 rfl (lv_at hl 0 rfl) ?_
  obtain ⟨e_0, e_1⟩ := zo2 hF
  subst e_0
  subst e_1
  exact zret_i S hr hlocks hK hP hD hS dX12_forget_11

theorem lk_X12_163 : zLs RX12 163 yX12_isUp cX12_isUp 4 (some .boolean) 4 := ⟨⟨wm_X12_163, ws_X12_isUp, wi_X12, wd_X12_isUp⟩, by decide, by decide, by decide +kernel⟩
def L_X12_fits_5 (m_seen : Int32) (m_seenHang : Nat → Int32) (m_seenTick : Nat → Int32) (m_seenUp : Nat → Int32) (v1 : Int32) (v2 : Int32) : Nat → Int32 → Int32 → Option (Int32 × Int32)
  | 0 => fun _ _ => none
  | n + 1 => fun v3 v4 => (if m_seen ≤ v4 then some (v3, v4) else (if v3 = 0 then (L_X12_fits_5 m_seen m_seenHang m_seenTick m_seenUp v1 v2 n 0 (v4 + 1)) else (if (v4 < 0 ∨ 6 ≤ v4.toNatClampNeg) then none else (zb1 (F_X12_isUp v1 v2 (m_seenHang v4.toNatClampNeg) (m_seenTick v4.toNatClampNeg)) (fun r_12 => (if (m_seenUp v4.toNatClampNeg) = 1 then (if r_12 = 1 then (L_X12_fits_5 m_seen m_seenHang m_seenTick m_seenUp v1 v2 n 1 (v4 + 1)) else (L_X12_fits_5 m_seen m_seenHang m_seenTick m_seenUp v1 v2 n 0 (v4 + 1))) else (if r_12 = 0 then (L_X12_fits_5 m_seen m_seenHang m_seenTick m_seenUp v1 v2 n 1 (v4 + 1)) else (L_X12_fits_5 m_seen m_seenHang m_seenTick m_seenUp v1 v2 n 0 (v4 + 1)))))))))
theorem L_X12_fits_5_z (m_seen : Int32) (m_seenHang : Nat → Int32) (m_seenTick : Nat → Int32) (m_seenUp : Nat → Int32) (v1 : Int32) (v2 : Int32) (v3 : Int32) (v4 : Int32) : L_X12_fits_5 m_seen m_seenHang m_seenTick m_seenUp v1 v2 0 v3 v4 = none := rfl
theorem L_X12_fits_5_s (m_seen : Int32) (m_seenHang : Nat → Int32) (m_seenTick : Nat → Int32) (m_seenUp : Nat → Int32) (v1 : Int32) (v2 : Int32) (n : Nat) (v3 : Int32) (v4 : Int32) : L_X12_fits_5 m_seen m_seenHang m_seenTick m_seenUp v1 v2 (n + 1) v3 v4 = (if m_seen ≤ v4 then some (v3, v4) else (if v3 = 0 then (L_X12_fits_5 m_seen m_seenHang m_seenTick m_seenUp v1 v2 n 0 (v4 + 1)) else (if (v4 < 0 ∨ 6 ≤ v4.toNatClampNeg) then none else (zb1 (F_X12_isUp v1 v2 (m_seenHang v4.toNatClampNeg) (m_seenTick v4.toNatClampNeg)) (fun r_12 => (if (m_seenUp v4.toNatClampNeg) = 1 then (if r_12 = 1 then (L_X12_fits_5 m_seen m_seenHang m_seenTick m_seenUp v1 v2 n 1 (v4 + 1)) else (L_X12_fits_5 m_seen m_seenHang m_seenTick m_seenUp v1 v2 n 0 (v4 + 1))) else (if r_12 = 0 then (L_X12_fits_5 m_seen m_seenHang m_seenTick m_seenUp v1 v2 n 1 (v4 + 1)) else (L_X12_fits_5 m_seen m_seenHang m_seenTick m_seenUp v1 v2 n 0 (v4 + 1))))))))) := rfl
def F_X12_fits (m_seen : Int32) (m_seenHang : Nat → Int32) (m_seenTick : Nat → Int32) (m_seenUp : Nat → Int32) (p1 : Int32) (p2 : Int32) : Option (Int32) :=
  (zb2 (L_X12_fits_5 m_seen m_seenHang m_seenTick m_seenUp p1 p2 300 1 0) (fun v3_17 v4_18 => (if ¬ (v3_17 = 0 ∨ v3_17 = 1) then none else some (v3_17))))
set_option maxHeartbeats 4000000 in
set_option maxRecDepth 100000 in
theorem c_X12_fits (l : Launch) (D : va_G) (cI cZ cS cJ : ClassId) (m_a : Nat) (m_a_letters : Nat) (m_a_period : Nat) (m_a_hang : Nat) (m_a_st : Nat) (m_a_now : Nat) (m_a_book : Nat) (m_a_images : Nat) (m_a_isKept : Nat) (m_a_seenHang : Nat) (m_a_seenTick : Nat) (m_a_seenUp : Nat) (m_a_readOne : Nat) (m_length : Int32) (m_jumpers : Int32) (m_undos : Int32) (m_seen : Int32) (m_trail : Int64) (m_place : Int32) (m_wrong : Int32) (m_items : Int32) (m_saidEvery : Int32) (m_readEvery : Int32) (m_readJumpers : Int32) (m_seenHang : Nat → Int32) (m_seenTick : Nat → Int32) (m_seenUp : Nat → Int32) (p1 : Int32) (p2 : Int32) {r_o : Int32} (hF : F_X12_fits m_seen m_seenHang m_seenTick m_seenUp p1 p2 = some (r_o)) : zMi l yX12_fits (zwl yX12_fits cX12_fits 5 (some .boolean)) { frames := 1, cells := 0, slots := 0, locals := 23 } D (TYS cI cZ cS cJ) [.ref m_a, .int p1, .int p2] [(m_a, .inr (12, [.ref m_a_letters, .int m_length, .int m_jumpers, .ref m_a_period, .ref m_a_hang, .ref m_a_st, .ref m_a_now, .ref m_a_book, .int m_undos, .ref m_a_images, .ref m_a_isKept, .int m_seen, .ref m_a_seenHang, .ref m_a_seenTick, .ref m_a_seenUp, .long m_trail, .int m_place, .int m_wrong, .int m_items, .int m_saidEvery, .int m_readEvery, .int m_readJumpers, .ref m_a_readOne])), (m_a_seenHang, .inl (cI, 6, .inl m_seenHang)), (m_a_seenTick, .inl (cI, 6, .inl m_seenTick)), (m_a_seenUp, .inl (cI, 6, .inl m_seenUp))] [(m_a, .inr (12, [.ref m_a_letters, .int m_length, .int m_jumpers, .ref m_a_period, .ref m_a_hang, .ref m_a_st, .ref m_a_now, .ref m_a_book, .int m_undos, .ref m_a_images, .ref m_a_isKept, .int m_seen, .ref m_a_seenHang, .ref m_a_seenTick, .ref m_a_seenUp, .long m_trail, .int m_place, .int m_wrong, .int m_items, .int m_saidEvery, .int m_readEvery, .int m_readJumpers, .ref m_a_readOne])), (m_a_seenHang, .inl (cI, 6, .inl m_seenHang)), (m_a_seenTick, .inl (cI, 6, .inl m_seenTick)), (m_a_seenUp, .inl (cI, 6, .inl m_seenUp))] r_o := by
  refine zent_i (own := RX12) (by decide) rfl (Nat.le_of_ble_eq_true rfl) ?_
  intro p e s m below meth c A ls S hr hlocks hK hP hD hA hl
  have hx := S.1
  have hb := S.2.1
  have hml := S.2.2.1
  have hown := S.2.2.2.1
  have hT : ∀ w ∈ zt, w ∈ zwl yX12_fits cX12_fits 5 (some .boolean) := fun _ h => List.mem_cons_of_mem _ h
  have ht : ∀ w ∈ zt, w.before [.ref m_a, .int p1, .int p2].toArray s = true := fun w h => S.2.2.2.2 w (hT w h)
  have hl : lv_has ls 5 [(0, .ref m_a), (1, .int p1), (2, .int p2)] := hl
  have hS : va_S A s.heap s.heap [] := va_S.rf
  unfold F_X12_fits at hF
  have hloop_5 : ∀ (n : Nat) (m_length : Int32) (m_jumpers : Int32) (m_undos : Int32) (m_seen : Int32) (m_trail : Int64) (m_place : Int32) (m_wrong : Int32) (m_items : Int32) (m_saidEvery : Int32) (m_readEvery : Int32) (m_readJumpers : Int32) (m_seenHang : Nat → Int32) (m_seenTick : Nat → Int32) (m_seenUp : Nat → Int32) (v1 : Int32) (v2 : Int32) (v3 : Int32) (v4 : Int32) (v3' : Int32) (v4' : Int32), L_X12_fits_5 m_seen m_seenHang m_seenTick m_seenUp v1 v2 n v3 v4 = some (v3', v4') → ∀ (H : Heap) (locs : List Loc) (ls : Array Slot), va_P D classes [(m_a, .inr (12, [.ref m_a_letters, .int m_length, .int m_jumpers, .ref m_a_period, .ref m_a_hang, .ref m_a_st, .ref m_a_now, .ref m_a_book, .int m_undos, .ref m_a_images, .ref m_a_isKept, .int m_seen, .ref m_a_seenHang, .ref m_a_seenTick, .ref m_a_seenUp, .long m_trail, .int m_place, .int m_wrong, .int m_items, .int m_saidEvery, .int m_readEvery, .int m_readJumpers, .ref m_a_readOne])), (m_a_seenHang, .inl (cI, 6, .inl m_seenHang)), (m_a_seenTick, .inl (cI, 6, .inl m_seenTick)), (m_a_seenUp, .inl (cI, 6, .inl m_seenUp))] H → va_D A [(m_a, .inr (12, [.ref m_a_letters, .int m_length, .int m_jumpers, .ref m_a_period, .ref m_a_hang, .ref m_a_st, .ref m_a_now, .ref m_a_book, .int m_undos, .ref m_a_images, .ref m_a_isKept, .int m_seen, .ref m_a_seenHang, .ref m_a_seenTick, .ref m_a_seenUp, .long m_trail, .int m_place, .int m_wrong, .int m_items, .int m_saidEvery, .int m_readEvery, .int m_readJumpers, .ref m_a_readOne])), (m_a_seenHang, .inl (cI, 6, .inl m_seenHang)), (m_a_seenTick, .inl (cI, 6, .inl m_seenTick)), (m_a_seenUp, .inl (cI, 6, .inl m_seenUp))] → va_S A s.heap H locs → lv_has ls 5 [(0, .ref m_a), (1, .int v1), (2, .int v2), (3, .int v3), (4, .int v4)] → (∀ (H : Heap) (locs : List Loc) (ls : Array Slot), va_P D classes [(m_a, .inr (12, [.ref m_a_letters, .int m_length, .int m_jumpers, .ref m_a_period, .ref m_a_hang, .ref m_a_st, .ref m_a_now, .ref m_a_book, .int m_undos, .ref m_a_images, .ref m_a_isKept, .int m_seen, .ref m_a_seenHang, .ref m_a_seenTick, .ref m_a_seenUp, .long m_trail, .int m_place, .int m_wrong, .int m_items, .int m_saidEvery, .int m_readEvery, .int m_readJumpers, .ref m_a_readOne])), (m_a_seenHang, .inl (cI, 6, .inl m_seenHang)), (m_a_seenTick, .inl (cI, 6, .inl m_seenTick)), (m_a_seenUp, .inl (cI, 6, .inl m_seenUp))] H → va_D A [(m_a, .inr (12, [.ref m_a_letters, .int m_length, .int m_jumpers, .ref m_a_period, .ref m_a_hang, .ref m_a_st, .ref m_a_now, .ref m_a_book, .int m_undos, .ref m_a_images, .ref m_a_isKept, .int m_seen, .ref m_a_seenHang, .ref m_a_seenTick, .ref m_a_seenUp, .long m_trail, .int m_place, .int m_wrong, .int m_items, .int m_saidEvery, .int m_readEvery, .int m_readJumpers, .ref m_a_readOne])), (m_a_seenHang, .inl (cI, 6, .inl m_seenHang)), (m_a_seenTick, .inl (cI, 6, .inl m_seenTick)), (m_a_seenUp, .inl (cI, 6, .inl m_seenUp))] → va_S A s.heap H locs → lv_has ls 5 [(0, .ref m_a), (1, .int v1), (2, .int v2), (3, .int v3'), (4, .int v4')] → W p l e { frames := 1, cells := 0, slots := 0, locals := 23 } s m [.ref m_a, .int p1, .int p2].toArray below meth c H locs 0 0 (zFi below [.ref m_a, .int p1, .int p2] s A D (TYS cI cZ cS cJ) [(m_a, .inr (12, [.ref m_a_letters, .int m_length, .int m_jumpers, .ref m_a_period, .ref m_a_hang, .ref m_a_st, .ref m_a_now, .ref m_a_book, .int m_undos, .ref m_a_images, .ref m_a_isKept, .int m_seen, .ref m_a_seenHang, .ref m_a_seenTick, .ref m_a_seenUp, .long m_trail, .int m_place, .int m_wrong, .int m_items, .int m_saidEvery, .int m_readEvery, .int m_readJumpers, .ref m_a_readOne])), (m_a_seenHang, .inl (cI, 6, .inl m_seenHang)), (m_a_seenTick, .inl (cI, 6, .inl m_seenTick)), (m_a_seenUp, .inl (cI, 6, .inl m_seenUp))] r_o) (F0 m 68 ls [])) → W p l e { frames := 1, cells := 0, slots := 0, locals := 23 } s m [.ref m_a, .int p1, .int p2].toArray below meth c H locs 0 0 (zFi below [.ref m_a, .int p1, .int p2] s A D (TYS cI cZ cS cJ) [(m_a, .inr (12, [.ref m_a_letters, .int m_length, .int m_jumpers, .ref m_a_period, .ref m_a_hang, .ref m_a_st, .ref m_a_now, .ref m_a_book, .int m_undos, .ref m_a_images, .ref m_a_isKept, .int m_seen, .ref m_a_seenHang, .ref m_a_seenTick, .ref m_a_seenUp, .long m_trail, .int m_place, .int m_wrong, .int m_items, .int m_saidEvery, .int m_readEvery, .int m_readJumpers, .ref m_a_readOne])), (m_a_seenHang, .inl (cI, 6, .inl m_seenHang)), (m_a_seenTick, .inl (cI, 6, .inl m_seenTick)), (m_a_seenUp, .inl (cI, 6, .inl m_seenUp))] r_o) (F0 m 5 ls []) := by
    intro n
    induction n with
    | zero =>
      intro m_length m_jumpers m_undos m_seen m_trail m_place m_wrong m_items m_saidEvery m_readEvery m_readJumpers m_seenHang m_seenTick m_seenUp v1 v2 v3 v4 v3' v4' hF
      rw [L_X12_fits_5_z] at hF
      cases hF
    | succ n ih_5 =>
      intro m_length m_jumpers m_undos m_seen m_trail m_place m_wrong m_items m_saidEvery m_readEvery m_readJumpers m_seenHang m_seenTick m_seenUp v1 v2 v3 v4 v3' v4' hF H locs ls hP hD hS hl hexit_5
      rw [L_X12_fits_5_s] at hF
      refine lv_iload hx hb dX12_fits_5 (lv_at hl 4 rfl) ?_
      refine lv_aload_n hx hb dX12_fits_7 rfl (lv_at hl 0 rfl) ?_
      refine va_get (D := D) (ci := 12) (v := .int m_seen) (C := RX12) (T := TX12) (N := 23) hx hb ht iyX12 hown hK hP 0 rfl rfl 11 (by decide) (ht _ wf_X12_104) (fun _ h9 => h9) rfl dX12_fits_8 ?_
      refine lv_icmp_ge (tgt := 68) hx hb dX12_fits_11 (by decide) (fun c_9 => ?_) (fun c_9 => ?_)
      · have hF := zi_pos c_9 hF
        obtain ⟨e_0, e_1⟩ := zo2 hF
        subst e_0
        subst e_1
        exact hexit_5 _ _ _ hP hD hS (lv_sub hl [0, 1, 2, 3, 4] rfl)
      · have hF := zi_neg c_9 hF
        refine lv_iload_n hx hb dX12_fits_14 rfl (lv_at hl 3 rfl) ?_
        refine lv_if_eq (tgt := 60) hx hb dX12_fits_15 (by decide) (fun c_10 => ?_) (fun c_10 => ?_)
        · have hF := zi_pos c_10 hF
          refine lv_iconst (v := 0) hx hb dX12_fits_60 (by decide) ?_
          refine lv_istore_n (lv' := [(3, .int 0), (0, .ref m_a), (1, .int v1), (2, .int v2), (4, .int v4)]) hx hb dX12_fits_61 rfl hl (by decide) rfl (fun ls hl => ?_)
          refine lv_iinc (v := v4 + 1) (lv' := [(4, .int (v4 + 1)), (3, .int 0), (0, .ref m_a), (1, .int v1), (2, .int v2)]) hx hb dX12_fits_62 hl (k := 4) rfl (by rfl) (by decide) rfl (fun ls hl => ?_)
          refine lv_goto (tgt := 5) hx hb dX12_fits_65 (by decide) ?_
          exact ih_5 m_length m_jumpers m_undos m_seen m_trail m_place m_wrong m_items m_saidEvery m_readEvery m_readJumpers m_seenHang m_seenTick m_seenUp v1 v2 0 (v4 + 1) _ _ hF _ _ _ hP hD hS (lv_sub hl [2, 3, 4, 1, 0] rfl) hexit_5
        · have hF := zi_neg c_10 hF
          refine lv_iload_n hx hb dX12_fits_18 rfl (lv_at hl 1 rfl) ?_
          refine lv_iload_n hx hb dX12_fits_19 rfl (lv_at hl 2 rfl) ?_
          refine lv_aload_n hx hb dX12_fits_20 rfl (lv_at hl 0 rfl) ?_
          refine va_get (D := D) (ci := 12) (v := .ref m_a_seenHang) (C := RX12) (T := TX12) (N := 23) hx hb ht iyX12 hown hK hP 0 rfl rfl 12 (by decide) (ht _ wf_X12_35) (fun _ h9 => h9) rfl dX12_fits_21 ?_
          refine lv_iload hx hb dX12_fits_24 (lv_at hl 4 rfl) ?_
          obtain ⟨h_11, hF⟩ := zi_chk hF
          refine va_iald hx hb hK hP 1 0 rfl rfl h_11 dX12_fits_26 ?_
          refine lv_aload_n hx hb dX12_fits_27 rfl (lv_at hl 0 rfl) ?_
          refine va_get (D := D) (ci := 12) (v := .ref m_a_seenTick) (C := RX12) (T := TX12) (N := 23) hx hb ht iyX12 hown hK hP 0 rfl rfl 13 (by decide) (ht _ wf_X12_38) (fun _ h9 => h9) rfl dX12_fits_28 ?_
          refine lv_iload hx hb dX12_fits_31 (lv_at hl 4 rfl) ?_
          refine va_iald hx hb hK hP 2 0 rfl rfl h_11 dX12_fits_33 ?_
          obtain ⟨r_12, hc_13, hF⟩ := zb1_s hF
          refine zcs_i (ws1 := [(m_a, .inr (12, [.ref m_a_letters, .int m_length, .int m_jumpers, .ref m_a_period, .ref m_a_hang, .ref m_a_st, .ref m_a_now, .ref m_a_book, .int m_undos, .ref m_a_images, .ref m_a_isKept, .int m_seen, .ref m_a_seenHang, .ref m_a_seenTick, .ref m_a_seenUp, .long m_trail, .int m_place, .int m_wrong, .int m_items, .int m_saidEvery, .int m_readEvery, .int m_readJumpers, .ref m_a_readOne])), (m_a_seenHang, .inl (cI, 6, .inl m_seenHang)), (m_a_seenTick, .inl (cI, 6, .inl m_seenTick)), (m_a_seenUp, .inl (cI, 6, .inl m_seenUp))]) S hT lk_X12_163 (c_X12_isUp l D cI cZ cS cJ v1 v2 (m_seenHang v4.toNatClampNeg) (m_seenTick v4.toNatClampNeg) hc_13) ⟨rfl, rfl, Nat.le_of_ble_eq_true rfl, Nat.le_of_ble_eq_true rfl⟩ hK hP hD hS hA [] [0, 1, 2, 3] [0, 1, 2, 3] rfl rfl rfl rfl rfl rfl rfl rfl hl.1 rfl (Nat.le_of_ble_eq_true rfl) dX12_fits_34 ⟨Nat.zero_le _, Nat.zero_le _⟩ (fun H locs hP hD hS => ?_)
          refine lv_aload_n hx hb dX12_fits_37 rfl (lv_at hl 0 rfl) ?_
          refine va_get (D := D) (ci := 12) (v := .ref m_a_seenUp) (C := RX12) (T := TX12) (N := 23) hx hb ht iyX12 hown hK hP 0 rfl rfl 14 (by decide) (ht _ wf_X12_41) (fun _ h9 => h9) rfl dX12_fits_38 ?_
          refine lv_iload hx hb dX12_fits_41 (lv_at hl 4 rfl) ?_
          refine va_iald hx hb hK hP 3 0 rfl rfl h_11 dX12_fits_43 ?_
          refine lv_iconst (v := 1) hx hb dX12_fits_44 (by decide) ?_
          refine lv_icmp_ne (tgt := 52) hx hb dX12_fits_45 (by decide) (fun c_14 => ?_) (fun c_14 => ?_)
          · have hF := zi_neg c_14 hF
            refine lv_iconst (v := 0) hx hb dX12_fits_52 (by decide) ?_
            refine lv_icmp_ne (tgt := 60) hx hb dX12_fits_53 (by decide) (fun c_15 => ?_) (fun c_15 => ?_)
            · have hF := zi_neg c_15 hF
              refine lv_iconst (v := 0) hx hb dX12_fits_60 (by decide) ?_
              refine lv_istore_n (lv' := [(3, .int 0), (0, .ref m_a), (1, .int v1), (2, .int v2), (4, .int v4)]) hx hb dX12_fits_61 rfl hl (by decide) rfl (fun ls hl => ?_)
              refine lv_iinc (v := v4 + 1) (lv' := [(4, .int (v4 + 1)), (3, .int 0), (0, .ref m_a), (1, .int v1), (2, .int v2)]) hx hb dX12_fits_62 hl (k := 4) rfl (by rfl) (by decide) rfl (fun ls hl => ?_)
              refine lv_goto (tgt := 5) hx hb dX12_fits_65 (by decide) ?_
              exact ih_5 m_length m_jumpers m_undos m_seen m_trail m_place m_wrong m_items m_saidEvery m_readEvery m_readJumpers m_seenHang m_seenTick m_seenUp v1 v2 0 (v4 + 1) _ _ hF _ _ _ hP hD hS (lv_sub hl [2, 3, 4, 1, 0] rfl) hexit_5
            · have hF := zi_pos c_15 hF
              refine lv_iconst (v := 1) hx hb dX12_fits_56 (by decide) ?_
              refine lv_goto (tgt := 61) hx hb dX12_fits_57 (by decide) ?_
              refine lv_istore_n (lv' := [(3, .int 1), (0, .ref m_a), (1, .int v1), (2, .int v2), (4, .int v4)]) hx hb dX12_fits_61 rfl hl (by decide) rfl (fun ls hl => ?_)
              refine lv_iinc (v := v4 + 1) (lv' := [(4, .int (v4 + 1)), (3, .int 1), (0, .ref m_a), (1, .int v1), (2, .int v2)]) hx hb dX12_fits_62 hl (k := 4) rfl (by rfl) (by decide) rfl (fun ls hl => ?_)
              refine lv_goto (tgt := 5) hx hb dX12_fits_65 (by decide) ?_
              exact ih_5 m_length m_jumpers m_undos m_seen m_trail m_place m_wrong m_items m_saidEvery m_readEvery m_readJumpers m_seenHang m_seenTick m_seenUp v1 v2 1 (v4 + 1) _ _ hF _ _ _ hP hD hS (lv_sub hl [2, 3, 4, 1, 0] rfl) hexit_5
          · have hF := zi_pos c_14 hF
            refine lv_iconst (v := 1) hx hb dX12_fits_48 (by decide) ?_
            refine lv_goto (tgt := 53) hx hb dX12_fits_49 (by decide) ?_
            refine lv_icmp_ne (tgt := 60) hx hb dX12_fits_53 (by decide) (fun c_16 => ?_) (fun c_16 => ?_)
            · have hF := zi_neg c_16 hF
              refine lv_iconst (v := 0) hx hb dX12_fits_60 (by decide) ?_
              refine lv_istore_n (lv' := [(3, .int 0), (0, .ref m_a), (1, .int v1), (2, .int v2), (4, .int v4)]) hx hb dX12_fits_61 rfl hl (by decide) rfl (fun ls hl => ?_)
              refine lv_iinc (v := v4 + 1) (lv' := [(4, .int (v4 + 1)), (3, .int 0), (0, .ref m_a), (1, .int v1), (2, .int v2)]) hx hb dX12_fits_62 hl (k := 4) rfl (by rfl) (by decide) rfl (fun ls hl => ?_)
              refine lv_goto (tgt := 5) hx hb dX12_fits_65 (by decide) ?_
              exact ih_5 m_length m_jumpers m_undos m_seen m_trail m_place m_wrong m_items m_saidEvery m_readEvery m_readJumpers m_seenHang m_seenTick m_seenUp v1 v2 0 (v4 + 1) _ _ hF _ _ _ hP hD hS (lv_sub hl [2, 3, 4, 1, 0] rfl) hexit_5
            · have hF := zi_pos c_16 hF
              refine lv_iconst (v := 1) hx hb dX12_fits_56 (by decide) ?_
              refine lv_goto (tgt := 61) hx hb dX12_fits_57 (by decide) ?_
              refine lv_istore_n (lv' := [(3, .int 1), (0, .ref m_a), (1, .int v1), (2, .int v2), (4, .int v4)]) hx hb dX12_fits_61 rfl hl (by decide) rfl (fun ls hl => ?_)
              refine lv_iinc (v := v4 + 1) (lv' := [(4, .int (v4 + 1)), (3, .int 1), (0, .ref m_a), (1, .int v1), (2, .int v2)]) hx hb dX12_fits_62 hl (k := 4) rfl (by rfl) (by decide) rfl (fun ls hl => ?_)
              refine lv_goto (tgt := 5) hx hb dX12_fits_65 (by decide) ?_
              exact ih_5 m_length m_jumpers m_undos m_seen m_trail m_place m_wrong m_items m_saidEvery m_readEvery m_readJumpers m_seenHang m_seenTick m_seenUp v1 v2 1 (v4 + 1) _ _ hF _ _ _ hP hD hS (lv_sub hl [2, 3, 4, 1, 0] rfl) hexit_5
  refine lv_iconst (v := 1) hx hb dX12_fits_0 (by decide) ?_
  refine lv_istore_n (lv' := [(3, .int 1), (0, .ref m_a), (1, .int p1), (2, .int p2)]) hx hb dX12_fits_1 rfl hl (by decide) rfl (fun ls hl => ?_)
  refine lv_iconst (v := 0) hx hb dX12_fits_2 (by decide) ?_
  refine lv_istore (lv' := [(4, .int 0), (3, .int 1), (0, .ref m_a), (1, .int p1), (2, .int p2)]) hx hb dX12_fits_3 hl (by decide) rfl (fun ls hl => ?_)
  obtain ⟨v3_17, v4_18, hL_19, hF⟩ := zb2_s hF
  refine hloop_5 300 m_length m_jumpers m_undos m_seen m_trail m_place m_wrong m_items m_saidEvery m_readEvery m_readJumpers m_seenHang m_seenTick m_seenUp p1 p2 1 0 v3_17 v4_18 hL_19 _ _ _ hP hD hS (lv_sub hl [2, 3, 4, 1, 0] rfl) (fun H locs ls hP hD hS hl => ?_)
  refine lv_iload_n hx hb dX12_fits_68 rfl (lv_at hl 3 rfl) ?_
  obtain ⟨h_20, hF⟩ := zi_chk hF
  have e_0 := zo1 hF
  subst e_0
  exact zret_z (Decidable.not_not.mp h_20) S hr hlocks hK hP hD hS dX12_fits_69

theorem lk_X12_167 : zLk RX12 167 yX12_fits cX12_fits 5 (some .boolean) 2 := ⟨⟨wm_X12_167, wo_X12_fits, we_X12_X12_fits, wi_X12, wd_X12_fits⟩, by decide, by decide, by decide +kernel⟩
def L_X12_ways_30 (m_seen : Int32) (m_seenHang : Nat → Int32) (m_seenTick : Nat → Int32) (m_seenUp : Nat → Int32) (v4 : Int32) : Nat → Int32 → Int32 → Int32 → Option (Int32 × Int32 × Int32)
  | 0 => fun _ _ _ => none
  | n + 1 => fun v2 v3 v5 => (if v5 < 0 then some (v2, v3, v5) else (zb1 (F_X12_fits m_seen m_seenHang m_seenTick m_seenUp v4 v5) (fun r_10 => (if r_10 = 0 then (L_X12_ways_30 m_seen m_seenHang m_seenTick m_seenUp v4 n v2 v3 (v5 + (-1))) else (L_X12_ways_30 m_seen m_seenHang m_seenTick m_seenUp v4 n (v2 + 1) ((100 * v4) + v5) (v5 + (-1)))))))
theorem L_X12_ways_30_z (m_seen : Int32) (m_seenHang : Nat → Int32) (m_seenTick : Nat → Int32) (m_seenUp : Nat → Int32) (v4 : Int32) (v2 : Int32) (v3 : Int32) (v5 : Int32) : L_X12_ways_30 m_seen m_seenHang m_seenTick m_seenUp v4 0 v2 v3 v5 = none := rfl
theorem L_X12_ways_30_s (m_seen : Int32) (m_seenHang : Nat → Int32) (m_seenTick : Nat → Int32) (m_seenUp : Nat → Int32) (v4 : Int32) (n : Nat) (v2 : Int32) (v3 : Int32) (v5 : Int32) : L_X12_ways_30 m_seen m_seenHang m_seenTick m_seenUp v4 (n + 1) v2 v3 v5 = (if v5 < 0 then some (v2, v3, v5) else (zb1 (F_X12_fits m_seen m_seenHang m_seenTick m_seenUp v4 v5) (fun r_10 => (if r_10 = 0 then (L_X12_ways_30 m_seen m_seenHang m_seenTick m_seenUp v4 n v2 v3 (v5 + (-1))) else (L_X12_ways_30 m_seen m_seenHang m_seenTick m_seenUp v4 n (v2 + 1) ((100 * v4) + v5) (v5 + (-1))))))) := rfl
def L_X12_ways_20 (m_seen : Int32) (m_seenHang : Nat → Int32) (m_seenTick : Nat → Int32) (m_seenUp : Nat → Int32) : Nat → Int32 → Int32 → Int32 → Option (Int32 × Int32 × Int32)
  | 0 => fun _ _ _ => none
  | n + 1 => fun v2 v3 v4 => (if v4 ≤ 1 then some (v2, v3, v4) else (zb3 (L_X12_ways_30 m_seen m_seenHang m_seenTick m_seenUp v4 300 v2 v3 11) (fun v2_18 v3_19 v5_20 => (L_X12_ways_20 m_seen m_seenHang m_seenTick m_seenUp n v2_18 v3_19 (v4 + (-1))))))
theorem L_X12_ways_20_z (m_seen : Int32) (m_seenHang : Nat → Int32) (m_seenTick : Nat → Int32) (m_seenUp : Nat → Int32) (v2 : Int32) (v3 : Int32) (v4 : Int32) : L_X12_ways_20 m_seen m_seenHang m_seenTick m_seenUp 0 v2 v3 v4 = none := rfl
theorem L_X12_ways_20_s (m_seen : Int32) (m_seenHang : Nat → Int32) (m_seenTick : Nat → Int32) (m_seenUp : Nat → Int32) (n : Nat) (v2 : Int32) (v3 : Int32) (v4 : Int32) : L_X12_ways_20 m_seen m_seenHang m_seenTick m_seenUp (n + 1) v2 v3 v4 = (if v4 ≤ 1 then some (v2, v3, v4) else (zb3 (L_X12_ways_30 m_seen m_seenHang m_seenTick m_seenUp v4 300 v2 v3 11) (fun v2_18 v3_19 v5_20 => (L_X12_ways_20 m_seen m_seenHang m_seenTick m_seenUp n v2_18 v3_19 (v4 + (-1)))))) := rfl
def F_X12_ways (m_seen : Int32) (m_seenHang : Nat → Int32) (m_seenTick : Nat → Int32) (m_seenUp : Nat → Int32) (p1 : Int32) : Option (Int32) :=
  (zb1 (F_X12_in p1 0 1) (fun r_1 => (if r_1 = 0 then some ((-1)) else (zb3 (L_X12_ways_20 m_seen m_seenHang m_seenTick m_seenUp 300 0 (-9) 12) (fun v2_22 v3_23 v4_24 => (if p1 = 0 then some (v2_22) else some (v3_23)))))))
set_option maxHeartbeats 4000000 in
set_option maxRecDepth 100000 in
theorem c_X12_ways (l : Launch) (D : va_G) (cI cZ cS cJ : ClassId) (m_a : Nat) (m_a_letters : Nat) (m_a_period : Nat) (m_a_hang : Nat) (m_a_st : Nat) (m_a_now : Nat) (m_a_book : Nat) (m_a_images : Nat) (m_a_isKept : Nat) (m_a_seenHang : Nat) (m_a_seenTick : Nat) (m_a_seenUp : Nat) (m_a_readOne : Nat) (m_length : Int32) (m_jumpers : Int32) (m_undos : Int32) (m_seen : Int32) (m_trail : Int64) (m_place : Int32) (m_wrong : Int32) (m_items : Int32) (m_saidEvery : Int32) (m_readEvery : Int32) (m_readJumpers : Int32) (m_seenHang : Nat → Int32) (m_seenTick : Nat → Int32) (m_seenUp : Nat → Int32) (p1 : Int32) {r_o : Int32} (hF : F_X12_ways m_seen m_seenHang m_seenTick m_seenUp p1 = some (r_o)) : zMi l yX12_ways (zwl yX12_ways cX12_ways 6 (some .int)) { frames := 2, cells := 0, slots := 0, locals := 47 } D (TYS cI cZ cS cJ) [.ref m_a, .int p1] [(m_a, .inr (12, [.ref m_a_letters, .int m_length, .int m_jumpers, .ref m_a_period, .ref m_a_hang, .ref m_a_st, .ref m_a_now, .ref m_a_book, .int m_undos, .ref m_a_images, .ref m_a_isKept, .int m_seen, .ref m_a_seenHang, .ref m_a_seenTick, .ref m_a_seenUp, .long m_trail, .int m_place, .int m_wrong, .int m_items, .int m_saidEvery, .int m_readEvery, .int m_readJumpers, .ref m_a_readOne])), (m_a_seenHang, .inl (cI, 6, .inl m_seenHang)), (m_a_seenTick, .inl (cI, 6, .inl m_seenTick)), (m_a_seenUp, .inl (cI, 6, .inl m_seenUp))] [(m_a, .inr (12, [.ref m_a_letters, .int m_length, .int m_jumpers, .ref m_a_period, .ref m_a_hang, .ref m_a_st, .ref m_a_now, .ref m_a_book, .int m_undos, .ref m_a_images, .ref m_a_isKept, .int m_seen, .ref m_a_seenHang, .ref m_a_seenTick, .ref m_a_seenUp, .long m_trail, .int m_place, .int m_wrong, .int m_items, .int m_saidEvery, .int m_readEvery, .int m_readJumpers, .ref m_a_readOne])), (m_a_seenHang, .inl (cI, 6, .inl m_seenHang)), (m_a_seenTick, .inl (cI, 6, .inl m_seenTick)), (m_a_seenUp, .inl (cI, 6, .inl m_seenUp))] r_o := by
  refine zent_i (own := RX12) (by decide) rfl (Nat.le_of_ble_eq_true rfl) ?_
  intro p e s m below meth c A ls S hr hlocks hK hP hD hA hl
  have hx := S.1
  have hb := S.2.1
  have hml := S.2.2.1
  have hown := S.2.2.2.1
  have hT : ∀ w ∈ zt, w ∈ zwl yX12_ways cX12_ways 6 (some .int) := fun _ h => List.mem_cons_of_mem _ h
  have ht : ∀ w ∈ zt, w.before [.ref m_a, .int p1].toArray s = true := fun w h => S.2.2.2.2 w (hT w h)
  have hl : lv_has ls 6 [(0, .ref m_a), (1, .int p1)] := hl
  have hS : va_S A s.heap s.heap [] := va_S.rf
  unfold F_X12_ways at hF
  have hloop_30 : ∀ (n : Nat) (m_length : Int32) (m_jumpers : Int32) (m_undos : Int32) (m_seen : Int32) (m_trail : Int64) (m_place : Int32) (m_wrong : Int32) (m_items : Int32) (m_saidEvery : Int32) (m_readEvery : Int32) (m_readJumpers : Int32) (m_seenHang : Nat → Int32) (m_seenTick : Nat → Int32) (m_seenUp : Nat → Int32) (v1 : Int32) (v2 : Int32) (v3 : Int32) (v4 : Int32) (v5 : Int32) (v2' : Int32) (v3' : Int32) (v5' : Int32), L_X12_ways_30 m_seen m_seenHang m_seenTick m_seenUp v4 n v2 v3 v5 = some (v2', v3', v5') → ∀ (H : Heap) (locs : List Loc) (ls : Array Slot), va_P D classes [(m_a, .inr (12, [.ref m_a_letters, .int m_length, .int m_jumpers, .ref m_a_period, .ref m_a_hang, .ref m_a_st, .ref m_a_now, .ref m_a_book, .int m_undos, .ref m_a_images, .ref m_a_isKept, .int m_seen, .ref m_a_seenHang, .ref m_a_seenTick, .ref m_a_seenUp, .long m_trail, .int m_place, .int m_wrong, .int m_items, .int m_saidEvery, .int m_readEvery, .int m_readJumpers, .ref m_a_readOne])), (m_a_seenHang, .inl (cI, 6, .inl m_seenHang)), (m_a_seenTick, .inl (cI, 6, .inl m_seenTick)), (m_a_seenUp, .inl (cI, 6, .inl m_seenUp))] H → va_D A [(m_a, .inr (12, [.ref m_a_letters, .int m_length, .int m_jumpers, .ref m_a_period, .ref m_a_hang, .ref m_a_st, .ref m_a_now, .ref m_a_book, .int m_undos, .ref m_a_images, .ref m_a_isKept, .int m_seen, .ref m_a_seenHang, .ref m_a_seenTick, .ref m_a_seenUp, .long m_trail, .int m_place, .int m_wrong, .int m_items, .int m_saidEvery, .int m_readEvery, .int m_readJumpers, .ref m_a_readOne])), (m_a_seenHang, .inl (cI, 6, .inl m_seenHang)), (m_a_seenTick, .inl (cI, 6, .inl m_seenTick)), (m_a_seenUp, .inl (cI, 6, .inl m_seenUp))] → va_S A s.heap H locs → lv_has ls 6 [(0, .ref m_a), (1, .int v1), (2, .int v2), (3, .int v3), (4, .int v4), (5, .int v5)] → (∀ (H : Heap) (locs : List Loc) (ls : Array Slot), va_P D classes [(m_a, .inr (12, [.ref m_a_letters, .int m_length, .int m_jumpers, .ref m_a_period, .ref m_a_hang, .ref m_a_st, .ref m_a_now, .ref m_a_book, .int m_undos, .ref m_a_images, .ref m_a_isKept, .int m_seen, .ref m_a_seenHang, .ref m_a_seenTick, .ref m_a_seenUp, .long m_trail, .int m_place, .int m_wrong, .int m_items, .int m_saidEvery, .int m_readEvery, .int m_readJumpers, .ref m_a_readOne])), (m_a_seenHang, .inl (cI, 6, .inl m_seenHang)), (m_a_seenTick, .inl (cI, 6, .inl m_seenTick)), (m_a_seenUp, .inl (cI, 6, .inl m_seenUp))] H → va_D A [(m_a, .inr (12, [.ref m_a_letters, .int m_length, .int m_jumpers, .ref m_a_period, .ref m_a_hang, .ref m_a_st, .ref m_a_now, .ref m_a_book, .int m_undos, .ref m_a_images, .ref m_a_isKept, .int m_seen, .ref m_a_seenHang, .ref m_a_seenTick, .ref m_a_seenUp, .long m_trail, .int m_place, .int m_wrong, .int m_items, .int m_saidEvery, .int m_readEvery, .int m_readJumpers, .ref m_a_readOne])), (m_a_seenHang, .inl (cI, 6, .inl m_seenHang)), (m_a_seenTick, .inl (cI, 6, .inl m_seenTick)), (m_a_seenUp, .inl (cI, 6, .inl m_seenUp))] → va_S A s.heap H locs → lv_has ls 6 [(0, .ref m_a), (1, .int v1), (2, .int v2'), (3, .int v3'), (4, .int v4), (5, .int v5')] → W p l e { frames := 2, cells := 0, slots := 0, locals := 47 } s m [.ref m_a, .int p1].toArray below meth c H locs 0 0 (zFi below [.ref m_a, .int p1] s A D (TYS cI cZ cS cJ) [(m_a, .inr (12, [.ref m_a_letters, .int m_length, .int m_jumpers, .ref m_a_period, .ref m_a_hang, .ref m_a_st, .ref m_a_now, .ref m_a_book, .int m_undos, .ref m_a_images, .ref m_a_isKept, .int m_seen, .ref m_a_seenHang, .ref m_a_seenTick, .ref m_a_seenUp, .long m_trail, .int m_place, .int m_wrong, .int m_items, .int m_saidEvery, .int m_readEvery, .int m_readJumpers, .ref m_a_readOne])), (m_a_seenHang, .inl (cI, 6, .inl m_seenHang)), (m_a_seenTick, .inl (cI, 6, .inl m_seenTick)), (m_a_seenUp, .inl (cI, 6, .inl m_seenUp))] r_o) (F0 m 64 ls [])) → W p l e { frames := 2, cells := 0, slots := 0, locals := 47 } s m [.ref m_a, .int p1].toArray below meth c H locs 0 0 (zFi below [.ref m_a, .int p1] s A D (TYS cI cZ cS cJ) [(m_a, .inr (12, [.ref m_a_letters, .int m_length, .int m_jumpers, .ref m_a_period, .ref m_a_hang, .ref m_a_st, .ref m_a_now, .ref m_a_book, .int m_undos, .ref m_a_images, .ref m_a_isKept, .int m_seen, .ref m_a_seenHang, .ref m_a_seenTick, .ref m_a_seenUp, .long m_trail, .int m_place, .int m_wrong, .int m_items, .int m_saidEvery, .int m_readEvery, .int m_readJumpers, .ref m_a_readOne])), (m_a_seenHang, .inl (cI, 6, .inl m_seenHang)), (m_a_seenTick, .inl (cI, 6, .inl m_seenTick)), (m_a_seenUp, .inl (cI, 6, .inl m_seenUp))] r_o) (F0 m 30 ls []) := by
    intro n
    induction n with
    | zero =>
      intro m_length m_jumpers m_undos m_seen m_trail m_place m_wrong m_items m_saidEvery m_readEvery m_readJumpers m_seenHang m_seenTick m_seenUp v1 v2 v3 v4 v5 v2' v3' v5' hF
      rw [L_X12_ways_30_z] at hF
      cases hF
    | succ n ih_30 =>
      intro m_length m_jumpers m_undos m_seen m_trail m_place m_wrong m_items m_saidEvery m_readEvery m_readJumpers m_seenHang m_seenTick m_seenUp v1 v2 v3 v4 v5 v2' v3' v5' hF H locs ls hP hD hS hl hexit_30
      rw [L_X12_ways_30_s] at hF
      refine lv_iload hx hb dX12_ways_30 (lv_at hl 5 rfl) ?_
      refine lv_if_lt (tgt := 64) hx hb dX12_ways_32 (by decide) (fun c_9 => ?_) (fun c_9 => ?_)
      · have hF := zi_pos c_9 hF
        obtain ⟨e_0, e_1, e_2⟩ := zo3 hF
        subst e_0
        subst e_1
        subst e_2
        exact hexit_30 _ _ _ hP hD hS (lv_sub hl [0, 1, 2, 3, 4, 5] rfl)
      · have hF := zi_neg c_9 hF
        refine lv_aload_n hx hb dX12_ways_35 rfl (lv_at hl 0 rfl) ?_
        refine lv_iload hx hb dX12_ways_36 (lv_at hl 4 rfl) ?_
        refine lv_iload hx hb dX12_ways_38 (lv_at hl 5 rfl) ?_
        obtain ⟨r_10, hc_11, hF⟩ := zb1_s hF
        refine zcv_i (ws1 := [(m_a, .inr (12, [.ref m_a_letters, .int m_length, .int m_jumpers, .ref m_a_period, .ref m_a_hang, .ref m_a_st, .ref m_a_now, .ref m_a_book, .int m_undos, .ref m_a_images, .ref m_a_isKept, .int m_seen, .ref m_a_seenHang, .ref m_a_seenTick, .ref m_a_seenUp, .long m_trail, .int m_place, .int m_wrong, .int m_items, .int m_saidEvery, .int m_readEvery, .int m_readJumpers, .ref m_a_readOne])), (m_a_seenHang, .inl (cI, 6, .inl m_seenHang)), (m_a_seenTick, .inl (cI, 6, .inl m_seenTick)), (m_a_seenUp, .inl (cI, 6, .inl m_seenUp))]) S hT lk_X12_167 (c_X12_fits l D cI cZ cS cJ m_a m_a_letters m_a_period m_a_hang m_a_st m_a_now m_a_book m_a_images m_a_isKept m_a_seenHang m_a_seenTick m_a_seenUp m_a_readOne m_length m_jumpers m_undos m_seen m_trail m_place m_wrong m_items m_saidEvery m_readEvery m_readJumpers m_seenHang m_seenTick m_seenUp v4 v5 hc_11) ⟨rfl, rfl, Nat.le_of_ble_eq_true rfl, Nat.le_of_ble_eq_true rfl⟩ hK hP hD hS hA [0, 1, 2, 3] [] [0, 1, 2, 3] rfl rfl rfl rfl rfl rfl rfl rfl rfl rfl rfl hl.1 rfl (Nat.le_of_ble_eq_true rfl) dX12_ways_40 ⟨Nat.zero_le _, Nat.zero_le _⟩ (fun H locs hP hD hS => ?_)
        refine lv_if_eq (tgt := 58) hx hb dX12_ways_43 (by decide) (fun c_12 => ?_) (fun c_12 => ?_)
        · have hF := zi_pos c_12 hF
          refine lv_iinc (v := v5 + (-1)) (lv' := [(5, .int (v5 + (-1))), (0, .ref m_a), (1, .int v1), (2, .int v2), (3, .int v3), (4, .int v4)]) hx hb dX12_ways_58 hl (k := 5) rfl (by rfl) (by decide) rfl (fun ls hl => ?_)
          refine lv_goto (tgt := 30) hx hb dX12_ways_61 (by decide) ?_
          exact ih_30 m_length m_jumpers m_undos m_seen m_trail m_place m_wrong m_items m_saidEvery m_readEvery m_readJumpers m_seenHang m_seenTick m_seenUp v1 v2 v3 v4 (v5 + (-1)) _ _ _ hF _ _ _ hP hD hS (lv_sub hl [1, 2, 3, 4, 5, 0] rfl) hexit_30
        · have hF := zi_neg c_12 hF
          refine lv_iinc (v := v2 + 1) (lv' := [(2, .int (v2 + 1)), (0, .ref m_a), (1, .int v1), (3, .int v3), (4, .int v4), (5, .int v5)]) hx hb dX12_ways_46 hl (k := 2) rfl (by rfl) (by decide) rfl (fun ls hl => ?_)
          refine lv_bipush (v := 100) hx hb dX12_ways_49 (by decide) ?_
          refine lv_iload hx hb dX12_ways_51 (lv_at hl 4 rfl) ?_
          refine lv_imul hx hb dX12_ways_53 ?_
          refine lv_iload hx hb dX12_ways_54 (lv_at hl 5 rfl) ?_
          refine lv_iadd hx hb dX12_ways_56 ?_
          refine lv_istore_n (lv' := [(3, .int ((100 * v4) + v5)), (2, .int (v2 + 1)), (0, .ref m_a), (1, .int v1), (4, .int v4), (5, .int v5)]) hx hb dX12_ways_57 rfl hl (by decide) rfl (fun ls hl => ?_)
          refine lv_iinc (v := v5 + (-1)) (lv' := [(5, .int (v5 + (-1))), (3, .int ((100 * v4) + v5)), (2, .int (v2 + 1)), (0, .ref m_a), (1, .int v1), (4, .int v4)]) hx hb dX12_ways_58 hl (k := 5) rfl (by rfl) (by decide) rfl (fun ls hl => ?_)
          refine lv_goto (tgt := 30) hx hb dX12_ways_61 (by decide) ?_
          exact ih_30 m_length m_jumpers m_undos m_seen m_trail m_place m_wrong m_items m_saidEvery m_readEvery m_readJumpers m_seenHang m_seenTick m_seenUp v1 (v2 + 1) ((100 * v4) + v5) v4 (v5 + (-1)) _ _ _ hF _ _ _ hP hD hS (lv_sub hl [3, 4, 2, 1, 5, 0] rfl) hexit_30
  have hloop_20 : ∀ (n : Nat) (m_length : Int32) (m_jumpers : Int32) (m_undos : Int32) (m_seen : Int32) (m_trail : Int64) (m_place : Int32) (m_wrong : Int32) (m_items : Int32) (m_saidEvery : Int32) (m_readEvery : Int32) (m_readJumpers : Int32) (m_seenHang : Nat → Int32) (m_seenTick : Nat → Int32) (m_seenUp : Nat → Int32) (v1 : Int32) (v2 : Int32) (v3 : Int32) (v4 : Int32) (v2' : Int32) (v3' : Int32) (v4' : Int32), L_X12_ways_20 m_seen m_seenHang m_seenTick m_seenUp n v2 v3 v4 = some (v2', v3', v4') → ∀ (H : Heap) (locs : List Loc) (ls : Array Slot), va_P D classes [(m_a, .inr (12, [.ref m_a_letters, .int m_length, .int m_jumpers, .ref m_a_period, .ref m_a_hang, .ref m_a_st, .ref m_a_now, .ref m_a_book, .int m_undos, .ref m_a_images, .ref m_a_isKept, .int m_seen, .ref m_a_seenHang, .ref m_a_seenTick, .ref m_a_seenUp, .long m_trail, .int m_place, .int m_wrong, .int m_items, .int m_saidEvery, .int m_readEvery, .int m_readJumpers, .ref m_a_readOne])), (m_a_seenHang, .inl (cI, 6, .inl m_seenHang)), (m_a_seenTick, .inl (cI, 6, .inl m_seenTick)), (m_a_seenUp, .inl (cI, 6, .inl m_seenUp))] H → va_D A [(m_a, .inr (12, [.ref m_a_letters, .int m_length, .int m_jumpers, .ref m_a_period, .ref m_a_hang, .ref m_a_st, .ref m_a_now, .ref m_a_book, .int m_undos, .ref m_a_images, .ref m_a_isKept, .int m_seen, .ref m_a_seenHang, .ref m_a_seenTick, .ref m_a_seenUp, .long m_trail, .int m_place, .int m_wrong, .int m_items, .int m_saidEvery, .int m_readEvery, .int m_readJumpers, .ref m_a_readOne])), (m_a_seenHang, .inl (cI, 6, .inl m_seenHang)), (m_a_seenTick, .inl (cI, 6, .inl m_seenTick)), (m_a_seenUp, .inl (cI, 6, .inl m_seenUp))] → va_S A s.heap H locs → lv_has ls 6 [(0, .ref m_a), (1, .int v1), (2, .int v2), (3, .int v3), (4, .int v4)] → (∀ (H : Heap) (locs : List Loc) (ls : Array Slot), va_P D classes [(m_a, .inr (12, [.ref m_a_letters, .int m_length, .int m_jumpers, .ref m_a_period, .ref m_a_hang, .ref m_a_st, .ref m_a_now, .ref m_a_book, .int m_undos, .ref m_a_images, .ref m_a_isKept, .int m_seen, .ref m_a_seenHang, .ref m_a_seenTick, .ref m_a_seenUp, .long m_trail, .int m_place, .int m_wrong, .int m_items, .int m_saidEvery, .int m_readEvery, .int m_readJumpers, .ref m_a_readOne])), (m_a_seenHang, .inl (cI, 6, .inl m_seenHang)), (m_a_seenTick, .inl (cI, 6, .inl m_seenTick)), (m_a_seenUp, .inl (cI, 6, .inl m_seenUp))] H → va_D A [(m_a, .inr (12, [.ref m_a_letters, .int m_length, .int m_jumpers, .ref m_a_period, .ref m_a_hang, .ref m_a_st, .ref m_a_now, .ref m_a_book, .int m_undos, .ref m_a_images, .ref m_a_isKept, .int m_seen, .ref m_a_seenHang, .ref m_a_seenTick, .ref m_a_seenUp, .long m_trail, .int m_place, .int m_wrong, .int m_items, .int m_saidEvery, .int m_readEvery, .int m_readJumpers, .ref m_a_readOne])), (m_a_seenHang, .inl (cI, 6, .inl m_seenHang)), (m_a_seenTick, .inl (cI, 6, .inl m_seenTick)), (m_a_seenUp, .inl (cI, 6, .inl m_seenUp))] → va_S A s.heap H locs → lv_has ls 6 [(0, .ref m_a), (1, .int v1), (2, .int v2'), (3, .int v3'), (4, .int v4')] → W p l e { frames := 2, cells := 0, slots := 0, locals := 47 } s m [.ref m_a, .int p1].toArray below meth c H locs 0 0 (zFi below [.ref m_a, .int p1] s A D (TYS cI cZ cS cJ) [(m_a, .inr (12, [.ref m_a_letters, .int m_length, .int m_jumpers, .ref m_a_period, .ref m_a_hang, .ref m_a_st, .ref m_a_now, .ref m_a_book, .int m_undos, .ref m_a_images, .ref m_a_isKept, .int m_seen, .ref m_a_seenHang, .ref m_a_seenTick, .ref m_a_seenUp, .long m_trail, .int m_place, .int m_wrong, .int m_items, .int m_saidEvery, .int m_readEvery, .int m_readJumpers, .ref m_a_readOne])), (m_a_seenHang, .inl (cI, 6, .inl m_seenHang)), (m_a_seenTick, .inl (cI, 6, .inl m_seenTick)), (m_a_seenUp, .inl (cI, 6, .inl m_seenUp))] r_o) (F0 m 70 ls [])) → W p l e { frames := 2, cells := 0, slots := 0, locals := 47 } s m [.ref m_a, .int p1].toArray below meth c H locs 0 0 (zFi below [.ref m_a, .int p1] s A D (TYS cI cZ cS cJ) [(m_a, .inr (12, [.ref m_a_letters, .int m_length, .int m_jumpers, .ref m_a_period, .ref m_a_hang, .ref m_a_st, .ref m_a_now, .ref m_a_book, .int m_undos, .ref m_a_images, .ref m_a_isKept, .int m_seen, .ref m_a_seenHang, .ref m_a_seenTick, .ref m_a_seenUp, .long m_trail, .int m_place, .int m_wrong, .int m_items, .int m_saidEvery, .int m_readEvery, .int m_readJumpers, .ref m_a_readOne])), (m_a_seenHang, .inl (cI, 6, .inl m_seenHang)), (m_a_seenTick, .inl (cI, 6, .inl m_seenTick)), (m_a_seenUp, .inl (cI, 6, .inl m_seenUp))] r_o) (F0 m 20 ls []) := by
    intro n
    induction n with
    | zero =>
      intro m_length m_jumpers m_undos m_seen m_trail m_place m_wrong m_items m_saidEvery m_readEvery m_readJumpers m_seenHang m_seenTick m_seenUp v1 v2 v3 v4 v2' v3' v4' hF
      rw [L_X12_ways_20_z] at hF
      cases hF
    | succ n ih_20 =>
      intro m_length m_jumpers m_undos m_seen m_trail m_place m_wrong m_items m_saidEvery m_readEvery m_readJumpers m_seenHang m_seenTick m_seenUp v1 v2 v3 v4 v2' v3' v4' hF H locs ls hP hD hS hl hexit_20
      rw [L_X12_ways_20_s] at hF
      refine lv_iload hx hb dX12_ways_20 (lv_at hl 4 rfl) ?_
      refine lv_iconst (v := 1) hx hb dX12_ways_22 (by decide) ?_
      refine lv_icmp_le (tgt := 70) hx hb dX12_ways_23 (by decide) (fun c_17 => ?_) (fun c_17 => ?_)
      · have hF := zi_pos c_17 hF
        obtain ⟨e_0, e_1, e_2⟩ := zo3 hF
        subst e_0
        subst e_1
        subst e_2
        exact hexit_20 _ _ _ hP hD hS (lv_sub hl [0, 1, 2, 3, 4] rfl)
      · have hF := zi_neg c_17 hF
        refine lv_bipush (v := 11) hx hb dX12_ways_26 (by decide) ?_
        refine lv_istore (lv' := [(5, .int 11), (0, .ref m_a), (1, .int v1), (2, .int v2), (3, .int v3), (4, .int v4)]) hx hb dX12_ways_28 hl (by decide) rfl (fun ls hl => ?_)
        obtain ⟨v2_18, v3_19, v5_20, hL_21, hF⟩ := zb3_s hF
        refine hloop_30 300 m_length m_jumpers m_undos m_seen m_trail m_place m_wrong m_items m_saidEvery m_readEvery m_readJumpers m_seenHang m_seenTick m_seenUp v1 v2 v3 v4 11 v2_18 v3_19 v5_20 hL_21 _ _ _ hP hD hS (lv_sub hl [1, 2, 3, 4, 5, 0] rfl) (fun H locs ls hP hD hS hl => ?_)
        refine lv_iinc (v := v4 + (-1)) (lv' := [(4, .int (v4 + (-1))), (0, .ref m_a), (1, .int v1), (2, .int v2_18), (3, .int v3_19), (5, .int v5_20)]) hx hb dX12_ways_64 hl (k := 4) rfl (by rfl) (by decide) rfl (fun ls hl => ?_)
        refine lv_goto (tgt := 20) hx hb dX12_ways_67 (by decide) ?_
        exact ih_20 m_length m_jumpers m_undos m_seen m_trail m_place m_wrong m_items m_saidEvery m_readEvery m_readJumpers m_seenHang m_seenTick m_seenUp v1 v2_18 v3_19 (v4 + (-1)) _ _ _ hF _ _ _ hP hD hS (lv_sub hl [1, 2, 3, 4, 0] rfl) hexit_20
  refine lv_iload_n hx hb dX12_ways_0 rfl (lv_at hl 1 rfl) ?_
  refine lv_iconst (v := 0) hx hb dX12_ways_1 (by decide) ?_
  refine lv_iconst (v := 1) hx hb dX12_ways_2 (by decide) ?_
  obtain ⟨r_1, hc_2, hF⟩ := zb1_s hF
  refine zcs_i (ws1 := [(m_a, .inr (12, [.ref m_a_letters, .int m_length, .int m_jumpers, .ref m_a_period, .ref m_a_hang, .ref m_a_st, .ref m_a_now, .ref m_a_book, .int m_undos, .ref m_a_images, .ref m_a_isKept, .int m_seen, .ref m_a_seenHang, .ref m_a_seenTick, .ref m_a_seenUp, .long m_trail, .int m_place, .int m_wrong, .int m_items, .int m_saidEvery, .int m_readEvery, .int m_readJumpers, .ref m_a_readOne])), (m_a_seenHang, .inl (cI, 6, .inl m_seenHang)), (m_a_seenTick, .inl (cI, 6, .inl m_seenTick)), (m_a_seenUp, .inl (cI, 6, .inl m_seenUp))]) S hT lk_X12_51 (c_X12_in l D cI cZ cS cJ p1 0 1 hc_2) ⟨rfl, rfl, Nat.le_of_ble_eq_true rfl, Nat.le_of_ble_eq_true rfl⟩ hK hP hD hS hA [] [0, 1, 2, 3] [0, 1, 2, 3] rfl rfl rfl rfl rfl rfl rfl rfl hl.1 rfl (Nat.le_of_ble_eq_true rfl) dX12_ways_3 ⟨Nat.zero_le _, Nat.zero_le _⟩ (fun H locs hP hD hS => ?_)
  refine lv_if_ne (tgt := 11) hx hb dX12_ways_6 (by decide) (fun c_3 => ?_) (fun c_3 => ?_)
  · have hF := zi_neg c_3 hF
    refine lv_iconst (v := 0) hx hb dX12_ways_11 (by decide) ?_
    refine lv_istore_n (lv' := [(2, .int 0), (0, .ref m_a), (1, .int p1)]) hx hb dX12_ways_12 rfl hl (by decide) rfl (fun ls hl => ?_)
    refine lv_bipush (v := (-9)) hx hb dX12_ways_13 (by decide) ?_
    refine lv_istore_n (lv' := [(3, .int (-9)), (2, .int 0), (0, .ref m_a), (1, .int p1)]) hx hb dX12_ways_15 rfl hl (by decide) rfl (fun ls hl => ?_)
    refine lv_bipush (v := 12) hx hb dX12_ways_16 (by decide) ?_
    refine lv_istore (lv' := [(4, .int 12), (3, .int (-9)), (2, .int 0), (0, .ref m_a), (1, .int p1)]) hx hb dX12_ways_18 hl (by decide) rfl (fun ls hl => ?_)
    obtain ⟨v2_22, v3_23, v4_24, hL_25, hF⟩ := zb3_s hF
    refine hloop_20 300 m_length m_jumpers m_undos m_seen m_trail m_place m_wrong m_items m_saidEvery m_readEvery m_readJumpers m_seenHang m_seenTick m_seenUp p1 0 (-9) 12 v2_22 v3_23 v4_24 hL_25 _ _ _ hP hD hS (lv_sub hl [3, 4, 2, 1, 0] rfl) (fun H locs ls hP hD hS hl => ?_)
    refine lv_iload_n hx hb dX12_ways_70 rfl (lv_at hl 1 rfl) ?_
    refine lv_if_ne (tgt := 78) hx hb dX12_ways_71 (by decide) (fun c_26 => ?_) (fun c_26 => ?_)
    · have hF := zi_neg c_26 hF
      refine lv_iload_n hx hb dX12_ways_78 rfl (lv_at hl 3 rfl) ?_
      have e_0 := zo1 hF
      subst e_0
      exact zret_i S hr hlocks hK hP hD hS dX12_ways_79
    · have hF := zi_pos c_26 hF
      refine lv_iload_n hx hb dX12_ways_74 rfl (lv_at hl 2 rfl) ?_
      refine lv_goto (tgt := 79) hx hb dX12_ways_75 (by decide) ?_
      have e_0 := zo1 hF
      subst e_0
      exact zret_i S hr hlocks hK hP hD hS dX12_ways_79
  · have hF := zi_pos c_3 hF
    refine lv_iconst (v := (-1)) hx hb dX12_ways_9 (by decide) ?_
    have e_0 := zo1 hF
    subst e_0
    exact zret_i S hr hlocks hK hP hD hS dX12_ways_10
