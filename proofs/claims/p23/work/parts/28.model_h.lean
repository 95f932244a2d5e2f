theorem lk_X12_170 : zLk RX12 170 yX12_ways cX12_ways 6 (some .int) 1 := ⟨⟨wm_X12_170, wo_X12_ways, we_X12_X12_ways, wi_X12, wd_X12_ways⟩, by decide, by decide, by decide +kernel⟩
def L_X12_look_54 (m_seen : Int32) (m_seenHang : Nat → Int32) (m_seenTick : Nat → Int32) (m_seenUp : Nat → Int32) (v1 : Int32) (v5 : Int32) (v7 : Int32) : Nat → Int32 → Int32 → Option (Int32 × Int32)
  | 0 => fun _ _ => none
  | n + 1 => fun v6 v8 => (if 12 ≤ v8 then some (v6, v8) else (zb1 (F_X12_fits m_seen m_seenHang m_seenTick m_seenUp v7 v8) (fun r_17 => (if r_17 = 0 then (L_X12_look_54 m_seen m_seenHang m_seenTick m_seenUp v1 v5 v7 n (v6 + 0) (v8 + 1)) else (zb1 (F_X12_isUp v7 v8 v1 v5) (fun r_20 => (if r_20 = 0 then (L_X12_look_54 m_seen m_seenHang m_seenTick m_seenUp v1 v5 v7 n (v6 + 0) (v8 + 1)) else (L_X12_look_54 m_seen m_seenHang m_seenTick m_seenUp v1 v5 v7 n (v6 + 1) (v8 + 1)))))))))
theorem L_X12_look_54_z (m_seen : Int32) (m_seenHang : Nat → Int32) (m_seenTick : Nat → Int32) (m_seenUp : Nat → Int32) (v1 : Int32) (v5 : Int32) (v7 : Int32) (v6 : Int32) (v8 : Int32) : L_X12_look_54 m_seen m_seenHang m_seenTick m_seenUp v1 v5 v7 0 v6 v8 = none := rfl
theorem L_X12_look_54_s (m_seen : Int32) (m_seenHang : Nat → Int32) (m_seenTick : Nat → Int32) (m_seenUp : Nat → Int32) (v1 : Int32) (v5 : Int32) (v7 : Int32) (n : Nat) (v6 : Int32) (v8 : Int32) : L_X12_look_54 m_seen m_seenHang m_seenTick m_seenUp v1 v5 v7 (n + 1) v6 v8 = (if 12 ≤ v8 then some (v6, v8) else (zb1 (F_X12_fits m_seen m_seenHang m_seenTick m_seenUp v7 v8) (fun r_17 => (if r_17 = 0 then (L_X12_look_54 m_seen m_seenHang m_seenTick m_seenUp v1 v5 v7 n (v6 + 0) (v8 + 1)) else (zb1 (F_X12_isUp v7 v8 v1 v5) (fun r_20 => (if r_20 = 0 then (L_X12_look_54 m_seen m_seenHang m_seenTick m_seenUp v1 v5 v7 n (v6 + 0) (v8 + 1)) else (L_X12_look_54 m_seen m_seenHang m_seenTick m_seenUp v1 v5 v7 n (v6 + 1) (v8 + 1))))))))) := rfl
def L_X12_look_44 (m_seen : Int32) (m_seenHang : Nat → Int32) (m_seenTick : Nat → Int32) (m_seenUp : Nat → Int32) (v1 : Int32) (v5 : Int32) : Nat → Int32 → Int32 → Option (Int32 × Int32)
  | 0 => fun _ _ => none
  | n + 1 => fun v6 v7 => (if 13 ≤ v7 then some (v6, v7) else (zb2 (L_X12_look_54 m_seen m_seenHang m_seenTick m_seenUp v1 v5 v7 300 v6 0) (fun v6_27 v8_28 => (L_X12_look_44 m_seen m_seenHang m_seenTick m_seenUp v1 v5 n v6_27 (v7 + 1)))))
theorem L_X12_look_44_z (m_seen : Int32) (m_seenHang : Nat → Int32) (m_seenTick : Nat → Int32) (m_seenUp : Nat → Int32) (v1 : Int32) (v5 : Int32) (v6 : Int32) (v7 : Int32) : L_X12_look_44 m_seen m_seenHang m_seenTick m_seenUp v1 v5 0 v6 v7 = none := rfl
theorem L_X12_look_44_s (m_seen : Int32) (m_seenHang : Nat → Int32) (m_seenTick : Nat → Int32) (m_seenUp : Nat → Int32) (v1 : Int32) (v5 : Int32) (n : Nat) (v6 : Int32) (v7 : Int32) : L_X12_look_44 m_seen m_seenHang m_seenTick m_seenUp v1 v5 (n + 1) v6 v7 = (if 13 ≤ v7 then some (v6, v7) else (zb2 (L_X12_look_54 m_seen m_seenHang m_seenTick m_seenUp v1 v5 v7 300 v6 0) (fun v6_27 v8_28 => (L_X12_look_44 m_seen m_seenHang m_seenTick m_seenUp v1 v5 n v6_27 (v7 + 1))))) := rfl
def L_X12_look_26 (m_seen : Int32) (m_seenHang : Nat → Int32) (m_seenTick : Nat → Int32) (m_seenUp : Nat → Int32) (v1 : Int32) (v2 : Int32) : Nat → Int32 → Int32 → Int32 → Option (Int32 × Int32 × Int32)
  | 0 => fun _ _ _ => none
  | n + 1 => fun v3 v4 v5 => (if 40 < v5 then some (v3, v4, v5) else (if v2 ≤ 1 then some (v3, v4, v5) else (zb2 (L_X12_look_44 m_seen m_seenHang m_seenTick m_seenUp v1 v5 300 0 2) (fun v6_52 v7_53 => (if v6_52 ≤ (v2 - v6_52) then (if v3 = (-9) then (L_X12_look_26 m_seen m_seenHang m_seenTick m_seenUp v1 v2 n v5 (v2 - v6_52) (v5 + 1)) else (if v4 ≤ (v2 - v6_52) then (L_X12_look_26 m_seen m_seenHang m_seenTick m_seenUp v1 v2 n v3 v4 (v5 + 1)) else (L_X12_look_26 m_seen m_seenHang m_seenTick m_seenUp v1 v2 n v5 (v2 - v6_52) (v5 + 1)))) else (if v3 = (-9) then (L_X12_look_26 m_seen m_seenHang m_seenTick m_seenUp v1 v2 n v5 v6_52 (v5 + 1)) else (if v4 ≤ v6_52 then (L_X12_look_26 m_seen m_seenHang m_seenTick m_seenUp v1 v2 n v3 v4 (v5 + 1)) else (L_X12_look_26 m_seen m_seenHang m_seenTick m_seenUp v1 v2 n v5 v6_52 (v5 + 1)))))))))
theorem L_X12_look_26_z (m_seen : Int32) (m_seenHang : Nat → Int32) (m_seenTick : Nat → Int32) (m_seenUp : Nat → Int32) (v1 : Int32) (v2 : Int32) (v3 : Int32) (v4 : Int32) (v5 : Int32) : L_X12_look_26 m_seen m_seenHang m_seenTick m_seenUp v1 v2 0 v3 v4 v5 = none := rfl
theorem L_X12_look_26_s (m_seen : Int32) (m_seenHang : Nat → Int32) (m_seenTick : Nat → Int32) (m_seenUp : Nat → Int32) (v1 : Int32) (v2 : Int32) (n : Nat) (v3 : Int32) (v4 : Int32) (v5 : Int32) : L_X12_look_26 m_seen m_seenHang m_seenTick m_seenUp v1 v2 (n + 1) v3 v4 v5 = (if 40 < v5 then some (v3, v4, v5) else (if v2 ≤ 1 then some (v3, v4, v5) else (zb2 (L_X12_look_44 m_seen m_seenHang m_seenTick m_seenUp v1 v5 300 0 2) (fun v6_52 v7_53 => (if v6_52 ≤ (v2 - v6_52) then (if v3 = (-9) then (L_X12_look_26 m_seen m_seenHang m_seenTick m_seenUp v1 v2 n v5 (v2 - v6_52) (v5 + 1)) else (if v4 ≤ (v2 - v6_52) then (L_X12_look_26 m_seen m_seenHang m_seenTick m_seenUp v1 v2 n v3 v4 (v5 + 1)) else (L_X12_look_26 m_seen m_seenHang m_seenTick m_seenUp v1 v2 n v5 (v2 - v6_52) (v5 + 1)))) else (if v3 = (-9) then (L_X12_look_26 m_seen m_seenHang m_seenTick m_seenUp v1 v2 n v5 v6_52 (v5 + 1)) else (if v4 ≤ v6_52 then (L_X12_look_26 m_seen m_seenHang m_seenTick m_seenUp v1 v2 n v3 v4 (v5 + 1)) else (L_X12_look_26 m_seen m_seenHang m_seenTick m_seenUp v1 v2 n v5 v6_52 (v5 + 1))))))))) := rfl
def F_X12_look (m_seen : Int32) (m_seenHang : Nat → Int32) (m_seenTick : Nat → Int32) (m_seenUp : Nat → Int32) (p1 : Int32) : Option (Int32) :=
  (zb1 (F_X12_in p1 1 4) (fun r_1 => (if r_1 = 0 then some ((-1)) else (zb1 (F_X12_ways m_seen m_seenHang m_seenTick m_seenUp 0) (fun r_4 => (zb3 (L_X12_look_26 m_seen m_seenHang m_seenTick m_seenUp p1 r_4 300 (-9) 0 0) (fun v3_72 v4_73 v5_74 => some (v3_72))))))))
set_option maxHeartbeats 4000000 in
set_option maxRecDepth 100000 in
theorem c_X12_look (l : Launch) (D : va_G) (cI cZ cS cJ : ClassId) (m_a : Nat) (m_a_letters : Nat) (m_a_period : Nat) (m_a_hang : Nat) (m_a_st : Nat) (m_a_now : Nat) (m_a_book : Nat) (m_a_images : Nat) (m_a_isKept : Nat) (m_a_seenHang : Nat) (m_a_seenTick : Nat) (m_a_seenUp : Nat) (m_a_readOne : Nat) (m_length : Int32) (m_jumpers : Int32) (m_undos : Int32) (m_seen : Int32) (m_trail : Int64) (m_place : Int32) (m_wrong : Int32) (m_items : Int32) (m_saidEvery : Int32) (m_readEvery : Int32) (m_readJumpers : Int32) (m_seenHang : Nat → Int32) (m_seenTick : Nat → Int32) (m_seenUp : Nat → Int32) (p1 : Int32) {r_o : Int32} (hF : F_X12_look m_seen m_seenHang m_seenTick m_seenUp p1 = some (r_o)) : zMi l yX12_look (zwl yX12_look cX12_look 9 (some .int)) { frames := 3, cells := 0, slots := 0, locals := 72 } D (TYS cI cZ cS cJ) [.ref m_a, .int p1] [(m_a, .inr (12, [.ref m_a_letters, .int m_length, .int m_jumpers, .ref m_a_period, .ref m_a_hang, .ref m_a_st, .ref m_a_now, .ref m_a_book, .int m_undos, .ref m_a_images, .ref m_a_isKept, .int m_seen, .ref m_a_seenHang, .ref m_a_seenTick, .ref m_a_seenUp, .long m_trail, .int m_place, .int m_wrong, .int m_items, .int m_saidEvery, .int m_readEvery, .int m_readJumpers, .ref m_a_readOne])), (m_a_seenHang, .inl (cI, 6, .inl m_seenHang)), (m_a_seenTick, .inl (cI, 6, .inl m_seenTick)), (m_a_seenUp, .inl (cI, 6, .inl m_seenUp))] [(m_a, .inr (12, [.ref m_a_letters, .int m_length, .int m_jumpers, .ref m_a_period, .ref m_a_hang, .ref m_a_st, .ref m_a_now, .ref m_a_book, .int m_undos, .ref m_a_images, .ref m_a_isKept, .int m_seen, .ref m_a_seenHang, .ref m_a_seenTick, .ref m_a_seenUp, .long m_trail, .int m_place, .int m_wrong, .int m_items, .int m_saidEvery, .int m_readEvery, .int m_readJumpers, .ref m_a_readOne])), (m_a_seenHang, .inl (cI, 6, .inl m_seenHang)), (m_a_seenTick, .inl (cI, 6, .inl m_seenTick)), (m_a_seenUp, .inl (cI, 6, .inl m_seenUp))] r_o := by
  refine zent_i (own := RX12) (by decide) rfl (Nat.le_of_ble_eq_true rfl) ?_
  intro p e s m below meth c A ls S hr hlocks hK hP hD hA hl
  have hx := S.1
  have hb := S.2.1
  have hml := S.2.2.1
  have hown := S.2.2.2.1
  have hT : ∀ w ∈ zt, w ∈ zwl yX12_look cX12_look 9 (some .int) := fun _ h => List.mem_cons_of_mem _ h
  have ht : ∀ w ∈ zt, w.before [.ref m_a, .int p1].toArray s = true := fun w h => S.2.2.2.2 w (hT w h)
  have hl : lv_has ls 9 [(0, .ref m_a), (1, .int p1)] := hl
  have hS : va_S A s.heap s.heap [] := va_S.rf
  unfold F_X12_look at hF
  have hloop_54 : ∀ (n : Nat) (m_length : Int32) (m_jumpers : Int32) (m_undos : Int32) (m_seen : Int32) (m_trail : Int64) (m_place : Int32) (m_wrong : Int32) (m_items : Int32) (m_saidEvery : Int32) (m_readEvery : Int32) (m_readJumpers : Int32) (m_seenHang : Nat → Int32) (m_seenTick : Nat → Int32) (m_seenUp : Nat → Int32) (v1 : Int32) (v2 : Int32) (v3 : Int32) (v4 : Int32) (v5 : Int32) (v6 : Int32) (v7 : Int32) (v8 : Int32) (v6' : Int32) (v8' : Int32), L_X12_look_54 m_seen m_seenHang m_seenTick m_seenUp v1 v5 v7 n v6 v8 = some (v6', v8') → ∀ (H : Heap) (locs : List Loc) (ls : Array Slot), va_P D classes [(m_a, .inr (12, [.ref m_a_letters, .int m_length, .int m_jumpers, .ref m_a_period, .ref m_a_hang, .ref m_a_st, .ref m_a_now, .ref m_a_book, .int m_undos, .ref m_a_images, .ref m_a_isKept, .int m_seen, .ref m_a_seenHang, .ref m_a_seenTick, .ref m_a_seenUp, .long m_trail, .int m_place, .int m_wrong, .int m_items, .int m_saidEvery, .int m_readEvery, .int m_readJumpers, .ref m_a_readOne])), (m_a_seenHang, .inl (cI, 6, .inl m_seenHang)), (m_a_seenTick, .inl (cI, 6, .inl m_seenTick)), (m_a_seenUp, .inl (cI, 6, .inl m_seenUp))] H → va_D A [(m_a, .inr (12, [.ref m_a_letters, .int m_length, .int m_jumpers, .ref m_a_period, .ref m_a_hang, .ref m_a_st, .ref m_a_now, .ref m_a_book, .int m_undos, .ref m_a_images, .ref m_a_isKept, .int m_seen, .ref m_a_seenHang, .ref m_a_seenTick, .ref m_a_seenUp, .long m_trail, .int m_place, .int m_wrong, .int m_items, .int m_saidEvery, .int m_readEvery, .int m_readJumpers, .ref m_a_readOne])), (m_a_seenHang, .inl (cI, 6, .inl m_seenHang)), (m_a_seenTick, .inl (cI, 6, .inl m_seenTick)), (m_a_seenUp, .inl (cI, 6, .inl m_seenUp))] → va_S A s.heap H locs → lv_has ls 9 [(0, .ref m_a), (1, .int v1), (2, .int v2), (3, .int v3), (4, .int v4), (5, .int v5), (6, .int v6), (7, .int v7), (8, .int v8)] → (∀ (H : Heap) (locs : List Loc) (ls : Array Slot), va_P D classes [(m_a, .inr (12, [.ref m_a_letters, .int m_length, .int m_jumpers, .ref m_a_period, .ref m_a_hang, .ref m_a_st, .ref m_a_now, .ref m_a_book, .int m_undos, .ref m_a_images, .ref m_a_isKept, .int m_seen, .ref m_a_seenHang, .ref m_a_seenTick, .ref m_a_seenUp, .long m_trail, .int m_place, .int m_wrong, .int m_items, .int m_saidEvery, .int m_readEvery, .int m_readJumpers, .ref m_a_readOne])), (m_a_seenHang, .inl (cI, 6, .inl m_seenHang)), (m_a_seenTick, .inl (cI, 6, .inl m_seenTick)), (m_a_seenUp, .inl (cI, 6, .inl m_seenUp))] H → va_D A [(m_a, .inr (12, [.ref m_a_letters, .int m_length, .int m_jumpers, .ref m_a_period, .ref m_a_hang, .ref m_a_st, .ref m_a_now, .ref m_a_book, .int m_undos, .ref m_a_images, .ref m_a_isKept, .int m_seen, .ref m_a_seenHang, .ref m_a_seenTick, .ref m_a_seenUp, .long m_trail, .int m_place, .int m_wrong, .int m_items, .int m_saidEvery, .int m_readEvery, .int m_readJumpers, .ref m_a_readOne])), (m_a_seenHang, .inl (cI, 6, .inl m_seenHang)), (m_a_seenTick, .inl (cI, 6, .inl m_seenTick)), (m_a_seenUp, .inl (cI, 6, .inl m_seenUp))] → va_S A s.heap H locs → lv_has ls 9 [(0, .ref m_a), (1, .int v1), (2, .int v2), (3, .int v3), (4, .int v4), (5, .int v5), (6, .int v6'), (7, .int v7), (8, .int v8')] → W p l e { frames := 3, cells := 0, slots := 0, locals := 72 } s m [.ref m_a, .int p1].toArray below meth c H locs 0 0 (zFi below [.ref m_a, .int p1] s A D (TYS cI cZ cS cJ) [(m_a, .inr (12, [.ref m_a_letters, .int m_length, .int m_jumpers, .ref m_a_period, .ref m_a_hang, .ref m_a_st, .ref m_a_now, .ref m_a_book, .int m_undos, .ref m_a_images, .ref m_a_isKept, .int m_seen, .ref m_a_seenHang, .ref m_a_seenTick, .ref m_a_seenUp, .long m_trail, .int m_place, .int m_wrong, .int m_items, .int m_saidEvery, .int m_readEvery, .int m_readJumpers, .ref m_a_readOne])), (m_a_seenHang, .inl (cI, 6, .inl m_seenHang)), (m_a_seenTick, .inl (cI, 6, .inl m_seenTick)), (m_a_seenUp, .inl (cI, 6, .inl m_seenUp))] r_o) (F0 m 101 ls [])) → W p l e { frames := 3, cells := 0, slots := 0, locals := 72 } s m [.ref m_a, .int p1].toArray below meth c H locs 0 0 (zFi below [.ref m_a, .int p1] s A D (TYS cI cZ cS cJ) [(m_a, .inr (12, [.ref m_a_letters, .int m_length, .int m_jumpers, .ref m_a_period, .ref m_a_hang, .ref m_a_st, .ref m_a_now, .ref m_a_book, .int m_undos, .ref m_a_images, .ref m_a_isKept, .int m_seen, .ref m_a_seenHang, .ref m_a_seenTick, .ref m_a_seenUp, .long m_trail, .int m_place, .int m_wrong, .int m_items, .int m_saidEvery, .int m_readEvery, .int m_readJumpers, .ref m_a_readOne])), (m_a_seenHang, .inl (cI, 6, .inl m_seenHang)), (m_a_seenTick, .inl (cI, 6, .inl m_seenTick)), (m_a_seenUp, .inl (cI, 6, .inl m_seenUp))] r_o) (F0 m 54 ls []) := by
    intro n
    induction n with
    | zero =>
      intro m_length m_jumpers m_undos m_seen m_trail m_place m_wrong m_items m_saidEvery m_readEvery m_readJumpers m_seenHang m_seenTick m_seenUp v1 v2 v3 v4 v5 v6 v7 v8 v6' v8' hF
      rw [L_X12_look_54_z] at hF
      cases hF
    | succ n ih_54 =>
      intro m_length m_jumpers m_undos m_seen m_trail m_place m_wrong m_items m_saidEvery m_readEvery m_readJumpers m_seenHang m_seenTick m_seenUp v1 v2 v3 v4 v5 v6 v7 v8 v6' v8' hF H locs ls hP hD hS hl hexit_54
      rw [L_X12_look_54_s] at hF
      refine lv_iload hx hb dX12_look_54 (lv_at hl 8 rfl) ?_
      refine lv_bipush (v := 12) hx hb dX12_look_56 (by decide) ?_
      refine lv_icmp_ge (tgt := 101) hx hb dX12_look_58 (by decide) (fun c_16 => ?_) (fun c_16 => ?_)
      · have hF := zi_pos c_16 hF
        obtain ⟨e_0, e_1⟩ := zo2 hF
        subst e_0
        subst e_1
        exact hexit_54 _ _ _ hP hD hS (lv_sub hl [0, 1, 2, 3, 4, 5, 6, 7, 8] rfl)
      · have hF := zi_neg c_16 hF
        refine lv_iload hx hb dX12_look_61 (lv_at hl 6 rfl) ?_
        refine lv_aload_n hx hb dX12_look_63 rfl (lv_at hl 0 rfl) ?_
        refine lv_iload hx hb dX12_look_64 (lv_at hl 7 rfl) ?_
        refine lv_iload hx hb dX12_look_66 (lv_at hl 8 rfl) ?_
        obtain ⟨r_17, hc_18, hF⟩ := zb1_s hF
        refine zcv_i (ws1 := [(m_a, .inr (12, [.ref m_a_letters, .int m_length, .int m_jumpers, .ref m_a_period, .ref m_a_hang, .ref m_a_st, .ref m_a_now, .ref m_a_book, .int m_undos, .ref m_a_images, .ref m_a_isKept, .int m_seen, .ref m_a_seenHang, .ref m_a_seenTick, .ref m_a_seenUp, .long m_trail, .int m_place, .int m_wrong, .int m_items, .int m_saidEvery, .int m_readEvery, .int m_readJumpers, .ref m_a_readOne])), (m_a_seenHang, .inl (cI, 6, .inl m_seenHang)), (m_a_seenTick, .inl (cI, 6, .inl m_seenTick)), (m_a_seenUp, .inl (cI, 6, .inl m_seenUp))]) S hT lk_X12_167 (c_X12_fits l D cI cZ cS cJ m_a m_a_letters m_a_period m_a_hang m_a_st m_a_now m_a_book m_a_images m_a_isKept m_a_seenHang m_a_seenTick m_a_seenUp m_a_readOne m_length m_jumpers m_undos m_seen m_trail m_place m_wrong m_items m_saidEvery m_readEvery m_readJumpers m_seenHang m_seenTick m_seenUp v7 v8 hc_18) ⟨rfl, rfl, Nat.le_of_ble_eq_true rfl, Nat.le_of_ble_eq_true rfl⟩ hK hP hD hS hA [0, 1, 2, 3] [] [0, 1, 2, 3] rfl rfl rfl rfl rfl rfl rfl rfl rfl rfl rfl hl.1 rfl (Nat.le_of_ble_eq_true rfl) dX12_look_68 ⟨Nat.zero_le _, Nat.zero_le _⟩ (fun H locs hP hD hS => ?_)
        refine lv_if_eq (tgt := 91) hx hb dX12_look_71 (by decide) (fun c_19 => ?_) (fun c_19 => ?_)
        · have hF := zi_pos c_19 hF
          refine lv_iconst (v := 0) hx hb dX12_look_91 (by decide) ?_
          refine lv_iadd hx hb dX12_look_92 ?_
          refine lv_istore (lv' := [(6, .int (v6 + 0)), (0, .ref m_a), (1, .int v1), (2, .int v2), (3, .int v3), (4, .int v4), (5, .int v5), (7, .int v7), (8, .int v8)]) hx hb dX12_look_93 hl (by decide) rfl (fun ls hl => ?_)
          refine lv_iinc (v := v8 + 1) (lv' := [(8, .int (v8 + 1)), (6, .int (v6 + 0)), (0, .ref m_a), (1, .int v1), (2, .int v2), (3, .int v3), (4, .int v4), (5, .int v5), (7, .int v7)]) hx hb dX12_look_95 hl (k := 8) rfl (by rfl) (by decide) rfl (fun ls hl => ?_)
          refine lv_goto (tgt := 54) hx hb dX12_look_98 (by decide) ?_
          exact ih_54 m_length m_jumpers m_undos m_seen m_trail m_place m_wrong m_items m_saidEvery m_readEvery m_readJumpers m_seenHang m_seenTick m_seenUp v1 v2 v3 v4 v5 (v6 + 0) v7 (v8 + 1) _ _ hF _ _ _ hP hD hS (lv_sub hl [2, 3, 4, 5, 6, 7, 1, 8, 0] rfl) hexit_54
        · have hF := zi_neg c_19 hF
          refine lv_iload hx hb dX12_look_74 (lv_at hl 7 rfl) ?_
          refine lv_iload hx hb dX12_look_76 (lv_at hl 8 rfl) ?_
          refine lv_iload_n hx hb dX12_look_78 rfl (lv_at hl 1 rfl) ?_
          refine lv_iload hx hb dX12_look_79 (lv_at hl 5 rfl) ?_
          obtain ⟨r_20, hc_21, hF⟩ := zb1_s hF
          refine zcs_i (ws1 := [(m_a, .inr (12, [.ref m_a_letters, .int m_length, .int m_jumpers, .ref m_a_period, .ref m_a_hang, .ref m_a_st, .ref m_a_now, .ref m_a_book, .int m_undos, .ref m_a_images, .ref m_a_isKept, .int m_seen, .ref m_a_seenHang, .ref m_a_seenTick, .ref m_a_seenUp, .long m_trail, .int m_place, .int m_wrong, .int m_items, .int m_saidEvery, .int m_readEvery, .int m_readJumpers, .ref m_a_readOne])), (m_a_seenHang, .inl (cI, 6, .inl m_seenHang)), (m_a_seenTick, .inl (cI, 6, .inl m_seenTick)), (m_a_seenUp, .inl (cI, 6, .inl m_seenUp))]) S hT lk_X12_163 (c_X12_isUp l D cI cZ cS cJ v7 v8 v1 v5 hc_21) ⟨rfl, rfl, Nat.le_of_ble_eq_true rfl, Nat.le_of_ble_eq_true rfl⟩ hK hP hD hS hA [] [0, 1, 2, 3] [0, 1, 2, 3] rfl rfl rfl rfl rfl rfl rfl rfl hl.1 rfl (Nat.le_of_ble_eq_true rfl) dX12_look_81 ⟨Nat.zero_le _, Nat.zero_le _⟩ (fun H locs hP hD hS => ?_)
          refine lv_if_eq (tgt := 91) hx hb dX12_look_84 (by decide) (fun c_22 => ?_) (fun c_22 => ?_)
          · have hF := zi_pos c_22 hF
            refine lv_iconst (v := 0) hx hb dX12_look_91 (by decide) ?_
            refine lv_iadd hx hb dX12_look_92 ?_
            refine lv_istore (lv' := [(6, .int (v6 + 0)), (0, .ref m_a), (1, .int v1), (2, .int v2), (3, .int v3), (4, .int v4), (5, .int v5), (7, .int v7), (8, .int v8)]) hx hb dX12_look_93 hl (by decide) rfl (fun ls hl => ?_)
            refine lv_iinc (v := v8 + 1) (lv' := [(8, .int (v8 + 1)), (6, .int (v6 + 0)), (0, .ref m_a), (1, .int v1), (2, .int v2), (3, .int v3), (4, .int v4), (5, .int v5), (7, .int v7)]) hx hb dX12_look_95 hl (k := 8) rfl (by rfl) (by decide) rfl (fun ls hl => ?_)
            refine lv_goto (tgt := 54) hx hb dX12_look_98 (by decide) ?_
            exact ih_54 m_length m_jumpers m_undos m_seen m_trail m_place m_wrong m_items m_saidEvery m_readEvery m_readJumpers m_seenHang m_seenTick m_seenUp v1 v2 v3 v4 v5 (v6 + 0) v7 (v8 + 1) _ _ hF _ _ _ hP hD hS (lv_sub hl [2, 3, 4, 5, 6, 7, 1, 8, 0] rfl) hexit_54
          · have hF := zi_neg c_22 hF
            refine lv_iconst (v := 1) hx hb dX12_look_87 (by decide) ?_
            refine lv_goto (tgt := 92) hx hb dX12_look_88 (by decide) ?_
            refine lv_iadd hx hb dX12_look_92 ?_
            refine lv_istore (lv' := [(6, .int (v6 + 1)), (0, .ref m_a), (1, .int v1), (2, .int v2), (3, .int v3), (4, .int v4), (5, .int v5), (7, .int v7), (8, .int v8)]) hx hb dX12_look_93 hl (by decide) rfl (fun ls hl => ?_)
            refine lv_iinc (v := v8 + 1) (lv' := [(8, .int (v8 + 1)), (6, .int (v6 + 1)), (0, .ref m_a), (1, .int v1), (2, .int v2), (3, .int v3), (4, .int v4), (5, .int v5), (7, .int v7)]) hx hb dX12_look_95 hl (k := 8) rfl (by rfl) (by decide) rfl (fun ls hl => ?_)
            refine lv_goto (tgt := 54) hx hb dX12_look_98 (by decide) ?_
            exact ih_54 m_length m_jumpers m_undos m_seen m_trail m_place m_wrong m_items m_saidEvery m_readEvery m_readJumpers m_seenHang m_seenTick m_seenUp v1 v2 v3 v4 v5 (v6 + 1) v7 (v8 + 1) _ _ hF _ _ _ hP hD hS (lv_sub hl [2, 3, 4, 5, 6, 7, 1, 8, 0] rfl) hexit_54
  have hloop_44 : ∀ (n : Nat) (m_length : Int32) (m_jumpers : Int32) (m_undos : Int32) (m_seen : Int32) (m_trail : Int64) (m_place : Int32) (m_wrong : Int32) (m_items : Int32) (m_saidEvery : Int32) (m_readEvery : Int32) (m_readJumpers : Int32) (m_seenHang : Nat → Int32) (m_seenTick : Nat → Int32) (m_seenUp : Nat → Int32) (v1 : Int32) (v2 : Int32) (v3 : Int32) (v4 : Int32) (v5 : Int32) (v6 : Int32) (v7 : Int32) (v6' : Int32) (v7' : Int32), L_X12_look_44 m_seen m_seenHang m_seenTick m_seenUp v1 v5 n v6 v7 = some (v6', v7') → ∀ (H : Heap) (locs : List Loc) (ls : Array Slot), va_P D classes [(m_a, .inr (12, [.ref m_a_letters, .int m_length, .int m_jumpers, .ref m_a_period, .ref m_a_hang, .ref m_a_st, .ref m_a_now, .ref m_a_book, .int m_undos, .ref m_a_images, .ref m_a_isKept, .int m_seen, .ref m_a_seenHang, .ref m_a_seenTick, .ref m_a_seenUp, .long m_trail, .int m_place, .int m_wrong, .int m_items, .int m_saidEvery, .int m_readEvery, .int m_readJumpers, .ref m_a_readOne])), (m_a_seenHang, .inl (cI, 6, .inl m_seenHang)), (m_a_seenTick, .inl (cI, 6, .inl m_seenTick)), (m_a_seenUp, .inl (cI, 6, .inl m_seenUp))] H → va_D A [(m_a, .inr (12, [.ref m_a_letters, .int m_length, .int m_jumpers, .ref m_a_period, .ref m_a_hang, .ref m_a_st, .ref m_a_now, .ref m_a_book, .int m_undos, .ref m_a_images, .ref m_a_isKept, .int m_seen, .ref m_a_seenHang, .ref m_a_seenTick, .ref m_a_seenUp, .long m_trail, .int m_place, .int m_wrong, .int m_items, .int m_saidEvery, .int m_readEvery, .int m_readJumpers, .ref m_a_readOne])), (m_a_seenHang, .inl (cI, 6, .inl m_seenHang)), (m_a_seenTick, .inl (cI, 6, .inl m_seenTick)), (m_a_seenUp, .inl (cI, 6, .inl m_seenUp))] → va_S A s.heap H locs → lv_has ls 9 [(0, .ref m_a), (1, .int v1), (2, .int v2), (3, .int v3), (4, .int v4), (5, .int v5), (6, .int v6), (7, .int v7)] → (∀ (H : Heap) (locs : List Loc) (ls : Array Slot), va_P D classes [(m_a, .inr (12, [.ref m_a_letters, .int m_length, .int m_jumpers, .ref m_a_period, .ref m_a_hang, .ref m_a_st, .ref m_a_now, .ref m_a_book, .int m_undos, .ref m_a_images, .ref m_a_isKept, .int m_seen, .ref m_a_seenHang, .ref m_a_seenTick, .ref m_a_seenUp, .long m_trail, .int m_place, .int m_wrong, .int m_items, .int m_saidEvery, .int m_readEvery, .int m_readJumpers, .ref m_a_readOne])), (m_a_seenHang, .inl (cI, 6, .inl m_seenHang)), (m_a_seenTick, .inl (cI, 6, .inl m_seenTick)), (m_a_seenUp, .inl (cI, 6, .inl m_seenUp))] H → va_D A [(m_a, .inr (12, [.ref m_a_letters, .int m_length, .int m_jumpers, .ref m_a_period, .ref m_a_hang, .ref m_a_st, .ref m_a_now, .ref m_a_book, .int m_undos, .ref m_a_images, .ref m_a_isKept, .int m_seen, .ref m_a_seenHang, .ref m_a_seenTick, .ref m_a_seenUp, .long m_trail, .int m_place, .int m_wrong, .int m_items, .int m_saidEvery, .int m_readEvery, .int m_readJumpers, .ref m_a_readOne])), (m_a_seenHang, .inl (cI, 6, .inl m_seenHang)), (m_a_seenTick, .inl (cI, 6, .inl m_seenTick)), (m_a_seenUp, .inl (cI, 6, .inl m_seenUp))] → va_S A s.heap H locs → lv_has ls 9 [(0, .ref m_a), (1, .int v1), (2, .int v2), (3, .int v3), (4, .int v4), (5, .int v5), (6, .int v6'), (7, .int v7')] → W p l e { frames := 3, cells := 0, slots := 0, locals := 72 } s m [.ref m_a, .int p1].toArray below meth c H locs 0 0 (zFi below [.ref m_a, .int p1] s A D (TYS cI cZ cS cJ) [(m_a, .inr (12, [.ref m_a_letters, .int m_length, .int m_jumpers, .ref m_a_period, .ref m_a_hang, .ref m_a_st, .ref m_a_now, .ref m_a_book, .int m_undos, .ref m_a_images, .ref m_a_isKept, .int m_seen, .ref m_a_seenHang, .ref m_a_seenTick, .ref m_a_seenUp, .long m_trail, .int m_place, .int m_wrong, .int m_items, .int m_saidEvery, .int m_readEvery, .int m_readJumpers, .ref m_a_readOne])), (m_a_seenHang, .inl (cI, 6, .inl m_seenHang)), (m_a_seenTick, .inl (cI, 6, .inl m_seenTick)), (m_a_seenUp, .inl (cI, 6, .inl m_seenUp))] r_o) (F0 m 107 ls [])) → W p l e { frames := 3, cells := 0, slots := 0, locals := 72 } s m [.ref m_a, .int p1].toArray below meth c H locs 0 0 (zFi below [.ref m_a, .int p1] s A D (TYS cI cZ cS cJ) [(m_a, .inr (12, [.ref m_a_letters, .int m_length, .int m_jumpers, .ref m_a_period, .ref m_a_hang, .ref m_a_st, .ref m_a_now, .ref m_a_book, .int m_undos, .ref m_a_images, .ref m_a_isKept, .int m_seen, .ref m_a_seenHang, .ref m_a_seenTick, .ref m_a_seenUp, .long m_trail, .int m_place, .int m_wrong, .int m_items, .int m_saidEvery, .int m_readEvery, .int m_readJumpers, .ref m_a_readOne])), (m_a_seenHang, .inl (cI, 6, .inl m_seenHang)), (m_a_seenTick, .inl (cI, 6, .inl m_seenTick)), (m_a_seenUp, .inl (cI, 6, .inl m_seenUp))] r_o) (F0 m 44 ls []) := by
    intro n
    induction n with
    | zero =>
      intro m_length m_jumpers m_undos m_seen m_trail m_place m_wrong m_items m_saidEvery m_readEvery m_readJumpers m_seenHang m_seenTick m_seenUp v1 v2 v3 v4 v5 v6 v7 v6' v7' hF
      rw [L_X12_look_44_z] at hF
      cases hF
    | succ n ih_44 =>
      intro m_length m_jumpers m_undos m_seen m_trail m_place m_wrong m_items m_saidEvery m_readEvery m_readJumpers m_seenHang m_seenTick m_seenUp v1 v2 v3 v4 v5 v6 v7 v6' v7' hF H locs ls hP hD hS hl hexit_44
      rw [L_X12_look_44_s] at hF
      refine lv_iload hx hb dX12_look_44 (lv_at hl 7 rfl) ?_
      refine lv_bipush (v := 13) hx hb dX12_look_46 (by decide) ?_
      refine lv_icmp_ge (tgt := 107) hx hb dX12_look_48 (by decide) (fun c_26 => ?_) (fun c_26 => ?_)
      · have hF := zi_pos c_26 hF
        obtain ⟨e_0, e_1⟩ := zo2 hF
        subst e_0
        subst e_1
        exact hexit_44 _ _ _ hP hD hS (lv_sub hl [0, 1, 2, 3, 4, 5, 6, 7] rfl)
      · have hF := zi_neg c_26 hF
        refine lv_iconst (v := 0) hx hb dX12_look_51 (by decide) ?_
        refine lv_istore (lv' := [(8, .int 0), (0, .ref m_a), (1, .int v1), (2, .int v2), (3, .int v3), (4, .int v4), (5, .int v5), (6, .int v6), (7, .int v7)]) hx hb dX12_look_52 hl (by decide) rfl (fun ls hl => ?_)
        obtain ⟨v6_27, v8_28, hL_29, hF⟩ := zb2_s hF
        refine hloop_54 300 m_length m_jumpers m_undos m_seen m_trail m_place m_wrong m_items m_saidEvery m_readEvery m_readJumpers m_seenHang m_seenTick m_seenUp v1 v2 v3 v4 v5 v6 v7 0 v6_27 v8_28 hL_29 _ _ _ hP hD hS (lv_sub hl [1, 2, 3, 4, 5, 6, 7, 8, 0] rfl) (fun H locs ls hP hD hS hl => ?_)
        refine lv_iinc (v := v7 + 1) (lv' := [(7, .int (v7 + 1)), (0, .ref m_a), (1, .int v1), (2, .int v2), (3, .int v3), (4, .int v4), (5, .int v5), (6, .int v6_27), (8, .int v8_28)]) hx hb dX12_look_101 hl (k := 7) rfl (by rfl) (by decide) rfl (fun ls hl => ?_)
        refine lv_goto (tgt := 44) hx hb dX12_look_104 (by decide) ?_
        exact ih_44 m_length m_jumpers m_undos m_seen m_trail m_place m_wrong m_items m_saidEvery m_readEvery m_readJumpers m_seenHang m_seenTick m_seenUp v1 v2 v3 v4 v5 v6_27 (v7 + 1) _ _ hF _ _ _ hP hD hS (lv_sub hl [1, 2, 3, 4, 5, 6, 7, 0] rfl) hexit_44
  have hloop_26 : ∀ (n : Nat) (m_length : Int32) (m_jumpers : Int32) (m_undos : Int32) (m_seen : Int32) (m_trail : Int64) (m_place : Int32) (m_wrong : Int32) (m_items : Int32) (m_saidEvery : Int32) (m_readEvery : Int32) (m_readJumpers : Int32) (m_seenHang : Nat → Int32) (m_seenTick : Nat → Int32) (m_seenUp : Nat → Int32) (v1 : Int32) (v2 : Int32) (v3 : Int32) (v4 : Int32) (v5 : Int32) (v3' : Int32) (v4' : Int32) (v5' : Int32), L_X12_look_26 m_seen m_seenHang m_seenTick m_seenUp v1 v2 n v3 v4 v5 = some (v3', v4', v5') → ∀ (H : Heap) (locs : List Loc) (ls : Array Slot), va_P D classes [(m_a, .inr (12, [.ref m_a_letters, .int m_length, .int m_jumpers, .ref m_a_period, .ref m_a_hang, .ref m_a_st, .ref m_a_now, .ref m_a_book, .int m_undos, .ref m_a_images, .ref m_a_isKept, .int m_seen, .ref m_a_seenHang, .ref m_a_seenTick, .ref m_a_seenUp, .long m_trail, .int m_place, .int m_wrong, .int m_items, .int m_saidEvery, .int m_readEvery, .int m_readJumpers, .ref m_a_readOne])), (m_a_seenHang, .inl (cI, 6, .inl m_seenHang)), (m_a_seenTick, .inl (cI, 6, .inl m_seenTick)), (m_a_seenUp, .inl (cI, 6, .inl m_seenUp))] H → va_D A [(m_a, .inr (12, [.ref m_a_letters, .int m_length, .int m_jumpers, .ref m_a_period, .ref m_a_hang, .ref m_a_st, .ref m_a_now, .ref m_a_book, .int m_undos, .ref m_a_images, .ref m_a_isKept, .int m_seen, .ref m_a_seenHang, .ref m_a_seenTick, .ref m_a_seenUp, .long m_trail, .int m_place, .int m_wrong, .int m_items, .int m_saidEvery, .int m_readEvery, .int m_readJumpers, .ref m_a_readOne])), (m_a_seenHang, .inl (cI, 6, .inl m_seenHang)), (m_a_seenTick, .inl (cI, 6, .inl m_seenTick)), (m_a_seenUp, .inl (cI, 6, .inl m_seenUp))] → va_S A s.heap H locs → lv_has ls 9 [(0, .ref m_a), (1, .int v1), (2, .int v2), (3, .int v3), (4, .int v4), (5, .int v5)] → (∀ (H : Heap) (locs : List Loc) (ls : Array Slot), va_P D classes [(m_a, .inr (12, [.ref m_a_letters, .int m_length, .int m_jumpers, .ref m_a_period, .ref m_a_hang, .ref m_a_st, .ref m_a_now, .ref m_a_book, .int m_undos, .ref m_a_images, .ref m_a_isKept, .int m_seen, .ref m_a_seenHang, .ref m_a_seenTick, .ref m_a_seenUp, .long m_trail, .int m_place, .int m_wrong, .int m_items, .int m_saidEvery, .int m_readEvery, .int m_readJumpers, .ref m_a_readOne])), (m_a_seenHang, .inl (cI, 6, .inl m_seenHang)), (m_a_seenTick, .inl (cI, 6, .inl m_seenTick)), (m_a_seenUp, .inl (cI, 6, .inl m_seenUp))] H → va_D A [(m_a, .inr (12, [.ref m_a_letters, .int m_length, .int m_jumpers, .ref m_a_period, .ref m_a_hang, .ref m_a_st, .ref m_a_now, .ref m_a_book, .int m_undos, .ref m_a_images, .ref m_a_isKept, .int m_seen, .ref m_a_seenHang, .ref m_a_seenTick, .ref m_a_seenUp, .long m_trail, .int m_place, .int m_wrong, .int m_items, .int m_saidEvery, .int m_readEvery, .int m_readJumpers, .ref m_a_readOne])), (m_a_seenHang, .inl (cI, 6, .inl m_seenHang)), (m_a_seenTick, .inl (cI, 6, .inl m_seenTick)), (m_a_seenUp, .inl (cI, 6, .inl m_seenUp))] → va_S A s.heap H locs → lv_has ls 9 [(0, .ref m_a), (1, .int v1), (2, .int v2), (3, .int v3'), (4, .int v4'), (5, .int v5')] → W p l e { frames := 3, cells := 0, slots := 0, locals := 72 } s m [.ref m_a, .int p1].toArray below meth c H locs 0 0 (zFi below [.ref m_a, .int p1] s A D (TYS cI cZ cS cJ) [(m_a, .inr (12, [.ref m_a_letters, .int m_length, .int m_jumpers, .ref m_a_period, .ref m_a_hang, .ref m_a_st, .ref m_a_now, .ref m_a_book, .int m_undos, .ref m_a_images, .ref m_a_isKept, .int m_seen, .ref m_a_seenHang, .ref m_a_seenTick, .ref m_a_seenUp, .long m_trail, .int m_place, .int m_wrong, .int m_items, .int m_saidEvery, .int m_readEvery, .int m_readJumpers, .ref m_a_readOne])), (m_a_seenHang, .inl (cI, 6, .inl m_seenHang)), (m_a_seenTick, .inl (cI, 6, .inl m_seenTick)), (m_a_seenUp, .inl (cI, 6, .inl m_seenUp))] r_o) (F0 m 179 ls [])) → W p l e { frames := 3, cells := 0, slots := 0, locals := 72 } s m [.ref m_a, .int p1].toArray below meth c H locs 0 0 (zFi below [.ref m_a, .int p1] s A D (TYS cI cZ cS cJ) [(m_a, .inr (12, [.ref m_a_letters, .int m_length, .int m_jumpers, .ref m_a_period, .ref m_a_hang, .ref m_a_st, .ref m_a_now, .ref m_a_book, .int m_undos, .ref m_a_images, .ref m_a_isKept, .int m_seen, .ref m_a_seenHang, .ref m_a_seenTick, .ref m_a_seenUp, .long m_trail, .int m_place, .int m_wrong, .int m_items, .int m_saidEvery, .int m_readEvery, .int m_readJumpers, .ref m_a_readOne])), (m_a_seenHang, .inl (cI, 6, .inl m_seenHang)), (m_a_seenTick, .inl (cI, 6, .inl m_seenTick)), (m_a_seenUp, .inl (cI, 6, .inl m_seenUp))] r_o) (F0 m 26 ls []) := by
    intro n
    induction n with
    | zero =>
      intro m_length m_jumpers m_undos m_seen m_trail m_place m_wrong m_items m_saidEvery m_readEvery m_readJumpers m_seenHang m_seenTick m_seenUp v1 v2 v3 v4 v5 v3' v4' v5' hF
      rw [L_X12_look_26_z] at hF
      cases hF
    | succ n ih_26 =>
      intro m_length m_jumpers m_undos m_seen m_trail m_place m_wrong m_items m_saidEvery m_readEvery m_readJumpers m_seenHang m_seenTick m_seenUp v1 v2 v3 v4 v5 v3' v4' v5' hF H locs ls hP hD hS hl hexit_26
      rw [L_X12_look_26_s] at hF
      refine lv_iload hx hb dX12_look_26 (lv_at hl 5 rfl) ?_
      refine lv_bipush (v := 40) hx hb dX12_look_28 (by decide) ?_
      refine lv_icmp_gt (tgt := 179) hx hb dX12_look_30 (by decide) (fun c_50 => ?_) (fun c_50 => ?_)
      · have hF := zi_pos c_50 hF
        obtain ⟨e_0, e_1, e_2⟩ := zo3 hF
        subst e_0
        subst e_1
        subst e_2
        exact hexit_26 _ _ _ hP hD hS (lv_sub hl [0, 1, 2, 3, 4, 5] rfl)
      · have hF := zi_neg c_50 hF
        refine lv_iload_n hx hb dX12_look_33 rfl (lv_at hl 2 rfl) ?_
        refine lv_iconst (v := 1) hx hb dX12_look_34 (by decide) ?_
        refine lv_icmp_le (tgt := 179) hx hb dX12_look_35 (by decide) (fun c_51 => ?_) (fun c_51 => ?_)
        · have hF := zi_pos c_51 hF
          obtain ⟨e_0, e_1, e_2⟩ := zo3 hF
          subst e_0
          subst e_1
          subst e_2
          exact hexit_26 _ _ _ hP hD hS (lv_sub hl [0, 1, 2, 3, 4, 5] rfl)
        · have hF := zi_neg c_51 hF
          refine lv_iconst (v := 0) hx hb dX12_look_38 (by decide) ?_
          refine lv_istore (lv' := [(6, .int 0), (0, .ref m_a), (1, .int v1), (2, .int v2), (3, .int v3), (4, .int v4), (5, .int v5)]) hx hb dX12_look_39 hl (by decide) rfl (fun ls hl => ?_)
          refine lv_iconst (v := 2) hx hb dX12_look_41 (by decide) ?_
          refine lv_istore (lv' := [(7, .int 2), (6, .int 0), (0, .ref m_a), (1, .int v1), (2, .int v2), (3, .int v3), (4, .int v4), (5, .int v5)]) hx hb dX12_look_42 hl (by decide) rfl (fun ls hl => ?_)
          obtain ⟨v6_52, v7_53, hL_54, hF⟩ := zb2_s hF
          refine hloop_44 300 m_length m_jumpers m_undos m_seen m_trail m_place m_wrong m_items m_saidEvery m_readEvery m_readJumpers m_seenHang m_seenTick m_seenUp v1 v2 v3 v4 v5 0 2 v6_52 v7_53 hL_54 _ _ _ hP hD hS (lv_sub hl [2, 3, 4, 5, 6, 7, 1, 0] rfl) (fun H locs ls hP hD hS hl => ?_)
          refine lv_iload hx hb dX12_look_107 (lv_at hl 6 rfl) ?_
          refine lv_iload_n hx hb dX12_look_109 rfl (lv_at hl 2 rfl) ?_
          refine lv_iload hx hb dX12_look_110 (lv_at hl 6 rfl) ?_
          refine lv_isub hx hb dX12_look_112 ?_
          refine lv_icmp_le (tgt := 121) hx hb dX12_look_113 (by decide) (fun c_55 => ?_) (fun c_55 => ?_)
          · have hF := zi_pos c_55 hF
            refine lv_iload_n hx hb dX12_look_121 rfl (lv_at hl 2 rfl) ?_
            refine lv_iload hx hb dX12_look_122 (lv_at hl 6 rfl) ?_
            refine lv_isub hx hb dX12_look_124 ?_
            refine lv_istore (lv' := [(7, .int (v2 - v6_52)), (0, .ref m_a), (1, .int v1), (2, .int v2), (3, .int v3), (4, .int v4), (5, .int v5), (6, .int v6_52)]) hx hb dX12_look_125 hl (by decide) rfl (fun ls hl => ?_)
            refine lv_iload_n hx hb dX12_look_127 rfl (lv_at hl 4 rfl) ?_
            refine lv_bipush (v := (-9)) hx hb dX12_look_128 (by decide) ?_
            refine lv_icmp_eq (tgt := 140) hx hb dX12_look_130 (by decide) (fun c_56 => ?_) (fun c_56 => ?_)
            · have hF := zi_pos c_56 hF
              refine lv_iconst (v := 1) hx hb dX12_look_140 (by decide) ?_
              refine lv_goto (tgt := 145) hx hb dX12_look_141 (by decide) ?_
              refine lv_istore (lv' := [(8, .int 1), (7, .int (v2 - v6_52)), (0, .ref m_a), (1, .int v1), (2, .int v2), (3, .int v3), (4, .int v4), (5, .int v5), (6, .int v6_52)]) hx hb dX12_look_145 hl (by decide) rfl (fun ls hl => ?_)
              refine lv_iload hx hb dX12_look_147 (lv_at hl 0 rfl) ?_
              refine lv_if_eq (tgt := 157) hx hb dX12_look_149 (by decide) (fun c_57 => ?_) (fun c_57 => ?_)
              · exact absurd c_57 (by decide)
              refine lv_iload hx hb dX12_look_152 (lv_at hl 7 rfl) ?_
              refine lv_goto (tgt := 158) hx hb dX12_look_154 (by decide) ?_
              refine lv_istore_n (lv' := [(3, .int v5), (8, .int 1), (7, .int (v2 - v6_52)), (0, .ref m_a), (1, .int v1), (2, .int v2), (4, .int v4), (5, .int v5), (6, .int v6_52)]) hx hb dX12_look_158 rfl hl (by decide) rfl (fun ls hl => ?_)
              refine lv_iload hx hb dX12_look_159 (lv_at hl 1 rfl) ?_
              refine lv_if_eq (tgt := 169) hx hb dX12_look_161 (by decide) (fun c_58 => ?_) (fun c_58 => ?_)
              · exact absurd c_58 (by decide)
              refine lv_iload hx hb dX12_look_164 (lv_at hl 2 rfl) ?_
              refine lv_goto (tgt := 171) hx hb dX12_look_166 (by decide) ?_
              refine lv_istore (lv' := [(4, .int (v2 - v6_52)), (3, .int v5), (8, .int 1), (7, .int (v2 - v6_52)), (0, .ref m_a), (1, .int v1), (2, .int v2), (5, .int v5), (6, .int v6_52)]) hx hb dX12_look_171 hl (by decide) rfl (fun ls hl => ?_)
              refine lv_iinc (v := v5 + 1) (lv' := [(5, .int (v5 + 1)), (4, .int (v2 - v6_52)), (3, .int v5), (8, .int 1), (7, .int (v2 - v6_52)), (0, .ref m_a), (1, .int v1), (2, .int v2), (6, .int v6_52)]) hx hb dX12_look_173 hl (k := 7) rfl (by rfl) (by decide) rfl (fun ls hl => ?_)
              refine lv_goto (tgt := 26) hx hb dX12_look_176 (by decide) ?_
              exact ih_26 m_length m_jumpers m_undos m_seen m_trail m_place m_wrong m_items m_saidEvery m_readEvery m_readJumpers m_seenHang m_seenTick m_seenUp v1 v2 v5 (v2 - v6_52) (v5 + 1) _ _ _ hF _ _ _ hP hD hS (lv_sub hl [5, 6, 7, 2, 1, 0] rfl) hexit_26
            · have hF := zi_neg c_56 hF
              refine lv_iload hx hb dX12_look_133 (lv_at hl 0 rfl) ?_
              refine lv_iload hx hb dX12_look_135 (lv_at hl 5 rfl) ?_
              refine lv_icmp_ge (tgt := 144) hx hb dX12_look_137 (by decide) (fun c_59 => ?_) (fun c_59 => ?_)
              · have hF := zi_pos c_59 hF
                refine lv_iconst (v := 0) hx hb dX12_look_144 (by decide) ?_
                refine lv_istore (lv' := [(8, .int 0), (7, .int (v2 - v6_52)), (0, .ref m_a), (1, .int v1), (2, .int v2), (3, .int v3), (4, .int v4), (5, .int v5), (6, .int v6_52)]) hx hb dX12_look_145 hl (by decide) rfl (fun ls hl => ?_)
                refine lv_iload hx hb dX12_look_147 (lv_at hl 0 rfl) ?_
                refine lv_if_eq (tgt := 157) hx hb dX12_look_149 (by decide) (fun c_60 => ?_) (fun c_60 => ?_)
                rotate_left
                · exact absurd c_60 (by decide)
                refine lv_iload_n hx hb dX12_look_157 rfl (lv_at hl 5 rfl) ?_
                refine lv_istore_n (lv' := [(3, .int v3), (8, .int 0), (7, .int (v2 - v6_52)), (0, .ref m_a), (1, .int v1), (2, .int v2), (4, .int v4), (5, .int v5), (6, .int v6_52)]) hx hb dX12_look_158 rfl hl (by decide) rfl (fun ls hl => ?_)
                refine lv_iload hx hb dX12_look_159 (lv_at hl 1 rfl) ?_
                refine lv_if_eq (tgt := 169) hx hb dX12_look_161 (by decide) (fun c_61 => ?_) (fun c_61 => ?_)
                rotate_left
                · exact absurd c_61 (by decide)
                refine lv_iload hx hb dX12_look_169 (lv_at hl 6 rfl) ?_
                refine lv_istore (lv' := [(4, .int v4), (3, .int v3), (8, .int 0), (7, .int (v2 - v6_52)), (0, .ref m_a), (1, .int v1), (2, .int v2), (5, .int v5), (6, .int v6_52)]) hx hb dX12_look_171 hl (by decide) rfl (fun ls hl => ?_)
                refine lv_iinc (v := v5 + 1) (lv' := [(5, .int (v5 + 1)), (4, .int v4), (3, .int v3), (8, .int 0), (7, .int (v2 - v6_52)), (0, .ref m_a), (1, .int v1), (2, .int v2), (6, .int v6_52)]) hx hb dX12_look_173 hl (k := 7) rfl (by rfl) (by decide) rfl (fun ls hl => ?_)
                refine lv_goto (tgt := 26) hx hb dX12_look_176 (by decide) ?_
                exact ih_26 m_length m_jumpers m_undos m_seen m_trail m_place m_wrong m_items m_saidEvery m_readEvery m_readJumpers m_seenHang m_seenTick m_seenUp v1 v2 v3 v4 (v5 + 1) _ _ _ hF _ _ _ hP hD hS (lv_sub hl [5, 6, 7, 2, 1, 0] rfl) hexit_26
              · have hF := zi_neg c_59 hF
                refine lv_iconst (v := 1) hx hb dX12_look_140 (by decide) ?_
                refine lv_goto (tgt := 145) hx hb dX12_look_141 (by decide) ?_
                refine lv_istore (lv' := [(8, .int 1), (7, .int (v2 - v6_52)), (0, .ref m_a), (1, .int v1), (2, .int v2), (3, .int v3), (4, .int v4), (5, .int v5), (6, .int v6_52)]) hx hb dX12_look_145 hl (by decide) rfl (fun ls hl => ?_)
                refine lv_iload hx hb dX12_look_147 (lv_at hl 0 rfl) ?_
                refine lv_if_eq (tgt := 157) hx hb dX12_look_149 (by decide) (fun c_62 => ?_) (fun c_62 => ?_)
                · exact absurd c_62 (by decide)
                refine lv_iload hx hb dX12_look_152 (lv_at hl 7 rfl) ?_
                refine lv_goto (tgt := 158) hx hb dX12_look_154 (by decide) ?_
                refine lv_istore_n (lv' := [(3, .int v5), (8, .int 1), (7, .int (v2 - v6_52)), (0, .ref m_a), (1, .int v1), (2, .int v2), (4, .int v4), (5, .int v5), (6, .int v6_52)]) hx hb dX12_look_158 rfl hl (by decide) rfl (fun ls hl => ?_)
                refine lv_iload hx hb dX12_look_159 (lv_at hl 1 rfl) ?_
                refine lv_if_eq (tgt := 169) hx hb dX12_look_161 (by decide) (fun c_63 => ?_) (fun c_63 => ?_)
                · exact absurd c_63 (by decide)
                refine lv_iload hx hb dX12_look_164 (lv_at hl 2 rfl) ?_
                refine lv_goto (tgt := 171) hx hb dX12_look_166 (by decide) ?_
                refine lv_istore (lv' := [(4, .int (v2 - v6_52)), (3, .int v5), (8, .int 1), (7, .int (v2 - v6_52)), (0, .ref m_a), (1, .int v1), (2, .int v2), (5, .int v5), (6, .int v6_52)]) hx hb dX12_look_171 hl (by decide) rfl (fun ls hl => ?_)
                refine lv_iinc (v := v5 + 1) (lv' := [(5, .int (v5 + 1)), (4, .int (v2 - v6_52)), (3, .int v5), (8, .int 1), (7, .int (v2 - v6_52)), (0, .ref m_a), (1, .int v1), (2, .int v2), (6, .int v6_52)]) hx hb dX12_look_173 hl (k := 7) rfl (by rfl) (by decide) rfl (fun ls hl => ?_)
                refine lv_goto (tgt := 26) hx hb dX12_look_176 (by decide) ?_
                exact ih_26 m_length m_jumpers m_undos m_seen m_trail m_place m_wrong m_items m_saidEvery m_readEvery m_readJumpers m_seenHang m_seenTick m_seenUp v1 v2 v5 (v2 - v6_52) (v5 + 1) _ _ _ hF _ _ _ hP hD hS (lv_sub hl [5, 6, 7, 2, 1, 0] rfl) hexit_26
          · have hF := zi_neg c_55 hF
            refine lv_iload hx hb dX12_look_116 (lv_at hl 6 rfl) ?_
            refine lv_goto (tgt := 125) hx hb dX12_look_118 (by decide) ?_
            refine lv_istore (lv' := [(7, .int v6_52), (0, .ref m_a), (1, .int v1), (2, .int v2), (3, .int v3), (4, .int v4), (5, .int v5), (6, .int v6_52)]) hx hb dX12_look_125 hl (by decide) rfl (fun ls hl => ?_)
            refine lv_iload_n hx hb dX12_look_127 rfl (lv_at hl 4 rfl) ?_
            refine lv_bipush (v := (-9)) hx hb dX12_look_128 (by decide) ?_
            refine lv_icmp_eq (tgt := 140) hx hb dX12_look_130 (by decide) (fun c_64 => ?_) (fun c_64 => ?_)
            · have hF := zi_pos c_64 hF
              refine lv_iconst (v := 1) hx hb dX12_look_140 (by decide) ?_
              refine lv_goto (tgt := 145) hx hb dX12_look_141 (by decide) ?_
              refine lv_istore (lv' := [(8, .int 1), (7, .int v6_52), (0, .ref m_a), (1, .int v1), (2, .int v2), (3, .int v3), (4, .int v4), (5, .int v5), (6, .int v6_52)]) hx hb dX12_look_145 hl (by decide) rfl (fun ls hl => ?_)
              refine lv_iload hx hb dX12_look_147 (lv_at hl 0 rfl) ?_
              refine lv_if_eq (tgt := 157) hx hb dX12_look_149 (by decide) (fun c_65 => ?_) (fun c_65 => ?_)
              · exact absurd c_65 (by decide)
              refine lv_iload hx hb dX12_look_152 (lv_at hl 7 rfl) ?_
              refine lv_goto (tgt := 158) hx hb dX12_look_154 (by decide) ?_
              refine lv_istore_n (lv' := [(3, .int v5), (8, .int 1), (7, .int v6_52), (0, .ref m_a), (1, .int v1), (2, .int v2), (4, .int v4), (5, .int v5), (6, .int v6_52)]) hx hb dX12_look_158 rfl hl (by decide) rfl (fun ls hl => ?_)
              refine lv_iload hx hb dX12_look_159 (lv_at hl 1 rfl) ?_
              refine lv_if_eq (tgt := 169) hx hb dX12_look_161 (by decide) (fun c_66 => ?_) (fun c_66 => ?_)
              · exact absurd c_66 (by decide)
              refine lv_iload hx hb dX12_look_164 (lv_at hl 2 rfl) ?_
              refine lv_goto (tgt := 171) hx hb dX12_look_166 (by decide) ?_
              refine lv_istore (lv' := [(4, .int v6_52), (3, .int v5), (8, .int 1), (7, .int v6_52), (0, .ref m_a), (1, .int v1), (2, .int v2), (5, .int v5), (6, .int v6_52)]) hx hb dX12_look_171 hl (by decide) rfl (fun ls hl => ?_)
              refine lv_iinc (v := v5 + 1) (lv' := [(5, .int (v5 + 1)), (4, .int v6_52), (3, .int v5), (8, .int 1), (7, .int v6_52), (0, .ref m_a), (1, .int v1), (2, .int v2), (6, .int v6_52)]) hx hb dX12_look_173 hl (k := 7) rfl (by rfl) (by decide) rfl (fun ls hl => ?_)
              refine lv_goto (tgt := 26) hx hb dX12_look_176 (by decide) ?_
              exact ih_26 m_length m_jumpers m_undos m_seen m_trail m_place m_wrong m_items m_saidEvery m_readEvery m_readJumpers m_seenHang m_seenTick m_seenUp v1 v2 v5 v6_52 (v5 + 1) _ _ _ hF _ _ _ hP hD hS (lv_sub hl [5, 6, 7, 2, 1, 0] rfl) hexit_26
            · have hF := zi_neg c_64 hF
              refine lv_iload hx hb dX12_look_133 (lv_at hl 0 rfl) ?_
              refine lv_iload hx hb dX12_look_135 (lv_at hl 5 rfl) ?_
              refine lv_icmp_ge (tgt := 144) hx hb dX12_look_137 (by decide) (fun c_67 => ?_) (fun c_67 => ?_)
              · have hF := zi_pos c_67 hF
                refine lv_iconst (v := 0) hx hb dX12_look_144 (by decide) ?_
                refine lv_istore (lv' := [(8, .int 0), (7, .int v6_52), (0, .ref m_a), (1, .int v1), (2, .int v2), (3, .int v3), (4, .int v4), (5, .int v5), (6, .int v6_52)]) hx hb dX12_look_145 hl (by decide) rfl (fun ls hl => ?_)
                refine lv_iload hx hb dX12_look_147 (lv_at hl 0 rfl) ?_
                refine lv_if_eq (tgt := 157) hx hb dX12_look_149 (by decide) (fun c_68 => ?_) (fun c_68 => ?_)
                rotate_left
                · exact absurd c_68 (by decide)
                refine lv_iload_n hx hb dX12_look_157 rfl (lv_at hl 5 rfl) ?_
                refine lv_istore_n (lv' := [(3, .int v3), (8, .int 0), (7, .int v6_52), (0, .ref m_a), (1, .int v1), (2, .int v2), (4, .int v4), (5, .int v5), (6, .int v6_52)]) hx hb dX12_look_158 rfl hl (by decide) rfl (fun ls hl => ?_)
                refine lv_iload hx hb dX12_look_159 (lv_at hl 1 rfl) ?_
                refine lv_if_eq (tgt := 169) hx hb dX12_look_161 (by decide) (fun c_69 => ?_) (fun c_69 => ?_)
                rotate_left
                · exact absurd c_69 (by decide)
                refine lv_iload hx hb dX12_look_169 (lv_at hl 6 rfl) ?_
                refine lv_istore (lv' := [(4, .int v4), (3, .int v3), (8, .int 0), (7, .int v6_52), (0, .ref m_a), (1, .int v1), (2, .int v2), (5, .int v5), (6, .int v6_52)]) hx hb dX12_look_171 hl (by decide) rfl (fun ls hl => ?_)
                refine lv_iinc (v := v5 + 1) (lv' := [(5, .int (v5 + 1)), (4, .int v4), (3, .int v3), (8, .int 0), (7, .int v6_52), (0, .ref m_a), (1, .int v1), (2, .int v2), (6, .int v6_52)]) hx hb dX12_look_173 hl (k := 7) rfl (by rfl) (by decide) rfl (fun ls hl => ?_)
                refine lv_goto (tgt := 26) hx hb dX12_look_176 (by decide) ?_
                exact ih_26 m_length m_jumpers m_undos m_seen m_trail m_place m_wrong m_items m_saidEvery m_readEvery m_readJumpers m_seenHang m_seenTick m_seenUp v1 v2 v3 v4 (v5 + 1) _ _ _ hF _ _ _ hP hD hS (lv_sub hl [5, 6, 7, 2, 1, 0] rfl) hexit_26
              · have hF := zi_neg c_67 hF
                refine lv_iconst (v := 1) hx hb dX12_look_140 (by decide) ?_
                refine lv_goto (tgt := 145) hx hb dX12_look_141 (by decide) ?_
                refine lv_istore (lv' := [(8, .int 1), (7, .int v6_52), (0, .ref m_a), (1, .int v1), (2, .int v2), (3, .int v3), (4, .int v4), (5, .int v5), (6, .int v6_52)]) hx hb dX12_look_145 hl (by decide) rfl (fun ls hl => ?_)
                refine lv_iload hx hb dX12_look_147 (lv_at hl 0 rfl) ?_
                refine lv_if_eq (tgt := 157) hx hb dX12_look_149 (by decide) (fun c_70 => ?_) (fun c_70 => ?_)
                · exact absurd c_70 (by decide)
                refine lv_iload hx hb dX12_look_152 (lv_at hl 7 rfl) ?_
                refine lv_goto (tgt := 158) hx hb dX12_look_154 (by decide) ?_
                refine lv_istore_n (lv' := [(3, .int v5), (8, .int 1), (7, .int v6_52), (0, .ref m_a), (1, .int v1), (2, .int v2), (4, .int v4), (5, .int v5), (6, .int v6_52)]) hx hb dX12_look_158 rfl hl (by decide) rfl (fun ls hl => ?_)
                refine lv_iload hx hb dX12_look_159 (lv_at hl 1 rfl) ?_
                refine lv_if_eq (tgt := 169) hx hb dX12_look_161 (by decide) (fun c_71 => ?_) (fun c_71 => ?_)
                · exact absurd c_71 (by decide)
                refine lv_iload hx hb dX12_look_164 (lv_at hl 2 rfl) ?_
                refine lv_goto (tgt := 171) hx hb dX12_look_166 (by decide) ?_
                refine lv_istore (lv' := [(4, .int v6_52), (3, .int v5), (8, .int 1), (7, .int v6_52), (0, .ref m_a), (1, .int v1), (2, .int v2), (5, .int v5), (6, .int v6_52)]) hx hb dX12_look_171 hl (by decide) rfl (fun ls hl => ?_)
                refine lv_iinc (v := v5 + 1) (lv' := [(5, .int (v5 + 1)), (4, .int v6_52), (3, .int v5), (8, .int 1), (7, .int v6_52), (0, .ref m_a), (1, .int v1), (2, .int v2), (6, .int v6_52)]) hx hb dX12_look_173 hl (k := 7) rfl (by rfl) (by decide) rfl (fun ls hl => ?_)
                refine lv_goto (tgt := 26) hx hb dX12_look_176 (by decide) ?_
                exact ih_26 m_length m_jumpers m_undos m_seen m_trail m_place m_wrong m_items m_saidEvery m_readEvery m_readJumpers m_seenHang m_seenTick m_seenUp v1 v2 v5 v6_52 (v5 + 1) _ _ _ hF _ _ _ hP hD hS (lv_sub hl [5, 6, 7, 2, 1, 0] rfl) hexit_26
  refine lv_iload_n hx hb dX12_look_0 rfl (lv_at hl 1 rfl) ?_
  refine lv_iconst (v := 1) hx hb dX12_look_1 (by decide) ?_
  refine lv_iconst (v := 4) hx hb dX12_look_2 (by decide) ?_
  obtain ⟨r_1, hc_2, hF⟩ := zb1_s hF
  refine zcs_i (ws1 := [(m_a, .inr (12, [.ref m_a_letters, .int m_length, .int m_jumpers, .ref m_a_period, .ref m_a_hang, .ref m_a_st, .ref m_a_now, .ref m_a_book, .int m_undos, .ref m_a_images, .ref m_a_isKept, .int m_seen, .ref m_a_seenHang, .ref m_a_seenTick, .ref m_a_seenUp, .long m_trail, .int m_place, .int m_wrong, .int m_items, .int m_saidEvery, .int m_readEvery, .int m_readJumpers, .ref m_a_readOne])), (m_a_seenHang, .inl (cI, 6, .inl m_seenHang)), (m_a_seenTick, .inl (cI, 6, .inl m_seenTick)), (m_a_seenUp, .inl (cI, 6, .inl m_seenUp))]) S hT lk_X12_51 (c_X12_in l D cI cZ cS cJ p1 1 4 hc_2) ⟨rfl, rfl, Nat.le_of_ble_eq_true rfl, Nat.le_of_ble_eq_true rfl⟩ hK hP hD hS hA [] [0, 1, 2, 3] [0, 1, 2, 3] rfl rfl rfl rfl rfl rfl rfl rfl hl.1 rfl (Nat.le_of_ble_eq_true rfl) dX12_look_3 ⟨Nat.zero_le _, Nat.zero_le _⟩ (fun H locs hP hD hS => ?_)
  refine lv_if_ne (tgt := 11) hx hb dX12_look_6 (by decide) (fun c_3 => ?_) (fun c_3 => ?_)
  · have hF := zi_neg c_3 hF
    refine lv_aload_n hx hb dX12_look_11 rfl (lv_at hl 0 rfl) ?_
    refine lv_iconst (v := 0) hx hb dX12_look_12 (by decide) ?_
    obtain ⟨r_4, hc_5, hF⟩ := zb1_s hF
    refine zcv_i (ws1 := [(m_a, .inr (12, [.ref m_a_letters, .int m_length, .int m_jumpers, .ref m_a_period, .ref m_a_hang, .ref m_a_st, .ref m_a_now, .ref m_a_book, .int m_undos, .ref m_a_images, .ref m_a_isKept, .int m_seen, .ref m_a_seenHang, .ref m_a_seenTick, .ref m_a_seenUp, .long m_trail, .int m_place, .int m_wrong, .int m_items, .int m_saidEvery, .int m_readEvery, .int m_readJumpers, .ref m_a_readOne])), (m_a_seenHang, .inl (cI, 6, .inl m_seenHang)), (m_a_seenTick, .inl (cI, 6, .inl m_seenTick)), (m_a_seenUp, .inl (cI, 6, .inl m_seenUp))]) S hT lk_X12_170 (c_X12_ways l D cI cZ cS cJ m_a m_a_letters m_a_period m_a_hang m_a_st m_a_now m_a_book m_a_images m_a_isKept m_a_seenHang m_a_seenTick m_a_seenUp m_a_readOne m_length m_jumpers m_undos m_seen m_trail m_place m_wrong m_items m_saidEvery m_readEvery m_readJumpers m_seenHang m_seenTick m_seenUp 0 hc_5) ⟨rfl, rfl, Nat.le_of_ble_eq_true rfl, Nat.le_of_ble_eq_true rfl⟩ hK hP hD hS hA [0, 1, 2, 3] [] [0, 1, 2, 3] rfl rfl rfl rfl rfl rfl rfl rfl rfl rfl rfl hl.1 rfl (Nat.le_of_ble_eq_true rfl) dX12_look_13 ⟨Nat.zero_le _, Nat.zero_le _⟩ (fun H locs hP hD hS => ?_)
    refine lv_istore_n (lv' := [(2, .int r_4), (0, .ref m_a), (1, .int p1)]) hx hb dX12_look_16 rfl hl (by decide) rfl (fun ls hl => ?_)
    refine lv_bipush (v := (-9)) hx hb dX12_look_17 (by decide) ?_
    refine lv_istore_n (lv' := [(3, .int (-9)), (2, .int r_4), (0, .ref m_a), (1, .int p1)]) hx hb dX12_look_19 rfl hl (by decide) rfl (fun ls hl => ?_)
    refine lv_iconst (v := 0) hx hb dX12_look_20 (by decide) ?_
    refine lv_istore (lv' := [(4, .int 0), (3, .int (-9)), (2, .int r_4), (0, .ref m_a), (1, .int p1)]) hx hb dX12_look_21 hl (by decide) rfl (fun ls hl => ?_)
    refine lv_iconst (v := 0) hx hb dX12_look_23 (by decide) ?_
    refine lv_istore (lv' := [(5, .int 0), (4, .int 0), (3, .int (-9)), (2, .int r_4), (0, .ref m_a), (1, .int p1)]) hx hb dX12_look_24 hl (by decide) rfl (fun ls hl => ?_)
    obtain ⟨v3_72, v4_73, v5_74, hL_75, hF⟩ := zb3_s hF
    refine hloop_26 300 m_length m_jumpers m_undos m_seen m_trail m_place m_wrong m_items m_saidEvery m_readEvery m_readJumpers m_seenHang m_seenTick m_seenUp p1 r_4 (-9) 0 0 v3_72 v4_73 v5_74 hL_75 _ _ _ hP hD hS (lv_sub hl [4, 5, 3, 2, 1, 0] rfl) (fun H locs ls hP hD hS hl => ?_)
    refine lv_iload_n hx hb dX12_look_179 rfl (lv_at hl 3 rfl) ?_
    have e_0 := zo1 hF
    subst e_0
    exact zret_i S hr hlocks hK hP hD hS dX12_look_180
  · have hF := zi_pos c_3 hF
    refine lv_iconst (v := (-1)) hx hb dX12_look_9 (by decide) ?_
    have e_0 := zo1 hF
    subst e_0
    exact zret_i S hr hlocks hK hP hD hS dX12_look_10

def F_X12_rate (m_jumpers : Int32) (m_trail : Int64) (m_hang : Nat → Int32) (m_st : Nat → Int32) (p1 : Int32) (p2 : Int32) : Option (Int32 × Int64) :=
  (zb1 (F_X12_in p1 0 5) (fun r_1 => (if r_1 = 0 then some ((-1000000), m_trail) else (zb1 (F_X12_isJumper m_jumpers p2) (fun r_4 => (if r_4 = 0 then some ((-1000000), m_trail) else (if ((16 + p2) < 0 ∨ 22 ≤ (16 + p2).toNatClampNeg) then none else (if p1 = 1 then (if (p2 < 0 ∨ 6 ≤ p2.toNatClampNeg) then none else some ((m_st (16 + p2).toNatClampNeg) + (m_hang p2.toNatClampNeg), (m_trail + 1) + 10)) else (if p1 = 2 then some ((m_st (16 + p2).toNatClampNeg) - (m_st (2 : Int32).toNatClampNeg), (m_trail + 1) + 100) else (if p1 = 3 then (if (p2 < 0 ∨ 6 ≤ p2.toNatClampNeg) then none else some (2 * ((m_st (16 + p2).toNatClampNeg) + (m_hang p2.toNatClampNeg)), (m_trail + 1) + 1010)) else (if p1 = 4 then some (((m_st (16 + p2).toNatClampNeg) - (m_st (2 : Int32).toNatClampNeg)) + p2, (m_trail + 1) + 10100) else (if p1 = 5 then some ((m_st (16 + p2).toNatClampNeg) + (m_st (0 : Int32).toNatClampNeg), (m_trail + 1) + 100000) else some (m_st (16 + p2).toNatClampNeg, m_trail + 1)))))))))))))
set_option maxHeartbeats 4000000 in
set_option maxRecDepth 100000 in
theorem c_X12_rate (l : Launch) (D : va_G) (cI cZ cS cJ : ClassId) (m_a : Nat) (m_a_letters : Nat) (m_a_period : Nat) (m_a_hang : Nat) (m_a_st : Nat) (m_a_now : Nat) (m_a_book : Nat) (m_a_images : Nat) (m_a_isKept : Nat) (m_a_seenHang : Nat) (m_a_seenTick : Nat) (m_a_seenUp : Nat) (m_a_readOne : Nat) (m_length : Int32) (m_jumpers : Int32) (m_undos : Int32) (m_seen : Int32) (m_trail : Int64) (m_place : Int32) (m_wrong : Int32) (m_items : Int32) (m_saidEvery : Int32) (m_readEvery : Int32) (m_readJumpers : Int32) (m_hang : Nat → Int32) (m_st : Nat → Int32) (p1 : Int32) (p2 : Int32) {r_o : Int32} {m_trail_o : Int64} (hF : F_X12_rate m_jumpers m_trail m_hang m_st p1 p2 = some (r_o, m_trail_o)) : zMi l yX12_rate (zwl yX12_rate cX12_rate 4 (some .int)) { frames := 2, cells := 0, slots := 0, locals := 43 } D (TYS cI cZ cS cJ) [.ref m_a, .int p1, .int p2] [(m_a, .inr (12, [.ref m_a_letters, .int m_length, .int m_jumpers, .ref m_a_period, .ref m_a_hang, .ref m_a_st, .ref m_a_now, .ref m_a_book, .int m_undos, .ref m_a_images, .ref m_a_isKept, .int m_seen, .ref m_a_seenHang, .ref m_a_seenTick, .ref m_a_seenUp, .long m_trail, .int m_place, .int m_wrong, .int m_items, .int m_saidEvery, .int m_readEvery, .int m_readJumpers, .ref m_a_readOne])), (m_a_hang, .inl (cI, 6, .inl m_hang)), (m_a_st, .inl (cI, 22, .inl m_st))] [(m_a, .inr (12, [.ref m_a_letters, .int m_length, .int m_jumpers, .ref m_a_period, .ref m_a_hang, .ref m_a_st, .ref m_a_now, .ref m_a_book, .int m_undos, .ref m_a_images, .ref m_a_isKept, .int m_seen, .ref m_a_seenHang, .ref m_a_seenTick, .ref m_a_seenUp, .long m_trail_o, .int m_place, .int m_wrong, .int m_items, .int m_saidEvery, .int m_readEvery, .int m_readJumpers, .ref m_a_readOne])), (m_a_hang, .inl (cI, 6, .inl m_hang)), (m_a_st, .inl (cI, 22, .inl m_st))] r_o := by
  refine zent_i (own := RX12) (by decide) rfl (Nat.le_of_ble_eq_true rfl) ?_
  intro p e s m below meth c A ls S hr hlocks hK hP hD hA hl
  have hx := S.1
  have hb := S.2.1
  have hml := S.2.2.1
  have hown := S.2.2.2.1
  have hT : ∀ w ∈ zt, w ∈ zwl yX12_rate cX12_rate 4 (some .int) := fun _ h => List.mem_cons_of_mem _ h
  have ht : ∀ w ∈ zt, w.before [.ref m_a, .int p1, .int p2].toArray s = true := fun w h => S.2.2.2.2 w (hT w h)
  have hl : lv_has ls 4 [(0, .ref m_a), (1, .int p1), (2, .int p2)] := hl
  have hS : va_S A s.heap s.heap [] := va_S.rf
  unfold F_X12_rate at hF
  refine lv_iload_n hx hb dX12_rate_0 rfl (lv_at hl 1 rfl) ?_
  refine lv_iconst (v := 0) hx hb dX12_rate_1 (by decide) ?_
  refine lv_iconst (v := 5) hx hb dX12_rate_2 (by decide) ?_
  obtain ⟨r_1, hc_2, hF⟩ := zb1_s hF
  refine zcs_i (ws1 := [(m_a, .inr (12, [.ref m_a_letters, .int m_length, .int m_jumpers, .ref m_a_period, .ref m_a_hang, .ref m_a_st, .ref m_a_now, .ref m_a_book, .int m_undos, .ref m_a_images, .ref m_a_isKept, .int m_seen, .ref m_a_seenHang, .ref m_a_seenTick, .ref m_a_seenUp, .long m_trail, .int m_place, .int m_wrong, .int m_items, .int m_saidEvery, .int m_readEvery, .int m_readJumpers, .ref m_a_readOne])), (m_a_hang, .inl (cI, 6, .inl m_hang)), (m_a_st, .inl (cI, 22, .inl m_st))]) S hT lk_X12_51 (c_X12_in l D cI cZ cS cJ p1 0 5 hc_2) ⟨rfl, rfl, Nat.le_of_ble_eq_true rfl, Nat.le_of_ble_eq_true rfl⟩ hK hP hD hS hA [] [0, 1, 2] [0, 1, 2] rfl rfl rfl rfl rfl rfl rfl rfl hl.1 rfl (Nat.le_of_ble_eq_true rfl) dX12_rate_3 ⟨Nat.zero_le _, Nat.zero_le _⟩ (fun H locs hP hD hS => ?_)
  refine lv_if_eq (tgt := 17) hx hb dX12_rate_6 (by decide) (fun c_3 => ?_) (fun c_3 => ?_)
  · have hF := zi_pos c_3 hF
    refine lv_ldc (v := (-1000000)) hx hb hown (ht _ wc_X12_173) dX12_rate_17 ?_
    obtain ⟨e_0, e_1⟩ := zo2 hF
    subst e_0
    subst e_1
    exact zret_i S hr hlocks hK hP hD hS dX12_rate_19
  · have hF := zi_neg c_3 hF
    refine lv_aload_n hx hb dX12_rate_9 rfl (lv_at hl 0 rfl) ?_
    refine lv_iload_n hx hb dX12_rate_10 rfl (lv_at hl 2 rfl) ?_
    obtain ⟨r_4, hc_5, hF⟩ := zb1_s hF
    refine zcv_i (ws1 := [(m_a, .inr (12, [.ref m_a_letters, .int m_length, .int m_jumpers, .ref m_a_period, .ref m_a_hang, .ref m_a_st, .ref m_a_now, .ref m_a_book, .int m_undos, .ref m_a_images, .ref m_a_isKept, .int m_seen, .ref m_a_seenHang, .ref m_a_seenTick, .ref m_a_seenUp, .long m_trail, .int m_place, .int m_wrong, .int m_items, .int m_saidEvery, .int m_readEvery, .int m_readJumpers, .ref m_a_readOne])), (m_a_hang, .inl (cI, 6, .inl m_hang)), (m_a_st, .inl (cI, 22, .inl m_st))]) S hT lk_X12_127 (c_X12_isJumper l D cI cZ cS cJ m_a m_a_letters m_a_period m_a_hang m_a_st m_a_now m_a_book m_a_images m_a_isKept m_a_seenHang m_a_seenTick m_a_seenUp m_a_readOne m_length m_jumpers m_undos m_seen m_trail m_place m_wrong m_items m_saidEvery m_readEvery m_readJumpers p2 hc_5) ⟨rfl, rfl, Nat.le_of_ble_eq_true rfl, Nat.le_of_ble_eq_true rfl⟩ hK hP hD hS hA [0] [1, 2] [2, 0, 1] rfl rfl rfl rfl rfl rfl rfl rfl rfl rfl rfl hl.1 rfl (Nat.le_of_ble_eq_true rfl) dX12_rate_11 ⟨Nat.zero_le _, Nat.zero_le _⟩ (fun H locs hP hD hS => ?_)
    refine lv_if_ne (tgt := 20) hx hb dX12_rate_14 (by decide) (fun c_6 => ?_) (fun c_6 => ?_)
    · have hF := zi_neg c_6 hF
      refine lv_aload_n hx hb dX12_rate_20 rfl (lv_at hl 0 rfl) ?_
      refine va_get (D := D) (ci := 12) (v := .ref m_a_st) (C := RX12) (T := TX12) (N := 23) hx hb ht iyX12 hown hK hP 0 rfl rfl 5 (by decide) (ht _ wf_X12_19) (fun _ h9 => h9) rfl dX12_rate_21 ?_
      refine lv_bipush (v := 16) hx hb dX12_rate_24 (by decide) ?_
      refine lv_iload_n hx hb dX12_rate_26 rfl (lv_at hl 2 rfl) ?_
      refine lv_iadd hx hb dX12_rate_27 ?_
      obtain ⟨h_7, hF⟩ := zi_chk hF
      refine va_iald hx hb hK hP 2 0 rfl rfl h_7 dX12_rate_28 ?_
      refine lv_istore_n (lv' := [(3, .int (m_st (16 + p2).toNatClampNeg)), (0, .ref m_a), (1, .int p1), (2, .int p2)]) hx hb dX12_rate_29 rfl hl (by decide) rfl (fun ls hl => ?_)
      refine lv_aload_n hx hb dX12_rate_30 rfl (lv_at hl 1 rfl) ?_
      refine lv_dup hx hb dX12_rate_31 rfl ?_
      refine va_get (D := D) (ci := 12) (v := .long m_trail) (C := RX12) (T := TX12) (N := 23) hx hb ht iyX12 hown hK hP 0 rfl rfl 15 (by decide) (ht _ wf_X12_174) (fun _ h9 => h9) rfl dX12_rate_32 ?_
      refine lv_lconst (v := 1) hx hb dX12_rate_35 (by decide) ?_
      refine lv_ladd hx hb dX12_rate_36 ?_
      refine va_put (D := D) (ci := 12) (v := .long (m_trail + 1)) (ty := .long) (C := RX12) (T := TX12) (N := 23) hx hb ht iyX12 tyX12 tyX12_ok nmX12 hown hK hP hD hS 0 rfl rfl 15 (by decide) (ht _ wf_X12_174) (fun _ h9 => h9) rfl (by decide +kernel) rfl rfl (Nat.le_of_ble_eq_true rfl) dX12_rate_37 (fun H locs hP hD hS => ?_)
      have hP : va_P D classes [(m_a, .inr (12, [.ref m_a_letters, .int m_length, .int m_jumpers, .ref m_a_period, .ref m_a_hang, .ref m_a_st, .ref m_a_now, .ref m_a_book, .int m_undos, .ref m_a_images, .ref m_a_isKept, .int m_seen, .ref m_a_seenHang, .ref m_a_seenTick, .ref m_a_seenUp, .long (m_trail + 1), .int m_place, .int m_wrong, .int m_items, .int m_saidEvery, .int m_readEvery, .int m_readJumpers, .ref m_a_readOne])), (m_a_hang, .inl (cI, 6, .inl m_hang)), (m_a_st, .inl (cI, 22, .inl m_st))] H := hP
      have hD : va_D A [(m_a, .inr (12, [.ref m_a_letters, .int m_length, .int m_jumpers, .ref m_a_period, .ref m_a_hang, .ref m_a_st, .ref m_a_now, .ref m_a_book, .int m_undos, .ref m_a_images, .ref m_a_isKept, .int m_seen, .ref m_a_seenHang, .ref m_a_seenTick, .ref m_a_seenUp, .long (m_trail + 1), .int m_place, .int m_wrong, .int m_items, .int m_saidEvery, .int m_readEvery, .int m_readJumpers, .ref m_a_readOne])), (m_a_hang, .inl (cI, 6, .inl m_hang)), (m_a_st, .inl (cI, 22, .inl m_st))] := hD
      refine lv_iload_n hx hb dX12_rate_40 rfl (lv_at hl 2 rfl) ?_
      by_cases c_8 : p1 = 1
      · have hF := zi_pos c_8 hF
        refine lv_tableIn (tgt := 76) hx hb dX12_rate_41 (by rw [c_8]; decide) (by rw [c_8]; decide) (by rw [c_8]; rfl) (by decide) ?_
        refine lv_aload_n hx hb dX12_rate_76 rfl (lv_at hl 1 rfl) ?_
        refine lv_dup hx hb dX12_rate_77 rfl ?_
        refine va_get (D := D) (ci := 12) (v := .long (m_trail + 1)) (C := RX12) (T := TX12) (N := 23) hx hb ht iyX12 hown hK hP 0 rfl rfl 15 (by decide) (ht _ wf_X12_174) (fun _ h9 => h9) rfl dX12_rate_78 ?_
        refine lv_ldc2 (v := 10) hx hb hown (ht _ wc_X12_178) dX12_rate_81 ?_
        refine lv_ladd hx hb dX12_rate_84 ?_
        refine va_put (D := D) (ci := 12) (v := .long ((m_trail + 1) + 10)) (ty := .long) (C := RX12) (T := TX12) (N := 23) hx hb ht iyX12 tyX12 tyX12_ok nmX12 hown hK hP hD hS 0 rfl rfl 15 (by decide) (ht _ wf_X12_174) (fun _ h9 => h9) rfl (by decide +kernel) rfl rfl (Nat.le_of_ble_eq_true rfl) dX12_rate_85 (fun H locs hP hD hS => ?_)
        have hP : va_P D classes [(m_a, .inr (12, [.ref m_a_letters, .int m_length, .int m_jumpers, .ref m_a_period, .ref m_a_hang, .ref m_a_st, .ref m_a_now, .ref m_a_book, .int m_undos, .ref m_a_images, .ref m_a_isKept, .int m_seen, .ref m_a_seenHang, .ref m_a_seenTick, .ref m_a_seenUp, .long ((m_trail + 1) + 10), .int m_place, .int m_wrong, .int m_items, .int m_saidEvery, .int m_readEvery, .int m_readJumpers, .ref m_a_readOne])), (m_a_hang, .inl (cI, 6, .inl m_hang)), (m_a_st, .inl (cI, 22, .inl m_st))] H := hP
        have hD : va_D A [(m_a, .inr (12, [.ref m_a_letters, .int m_length, .int m_jumpers, .ref m_a_period, .ref m_a_hang, .ref m_a_st, .ref m_a_now, .ref m_a_book, .int m_undos, .ref m_a_images, .ref m_a_isKept, .int m_seen, .ref m_a_seenHang, .ref m_a_seenTick, .ref m_a_seenUp, .long ((m_trail + 1) + 10), .int m_place, .int m_wrong, .int m_items, .int m_saidEvery, .int m_readEvery, .int m_readJumpers, .ref m_a_readOne])), (m_a_hang, .inl (cI, 6, .inl m_hang)), (m_a_st, .inl (cI, 22, .inl m_st))] := hD
        refine lv_iload_n hx hb dX12_rate_88 rfl (lv_at hl 0 rfl) ?_
        refine lv_aload_n hx hb dX12_rate_89 rfl (lv_at hl 1 rfl) ?_
        refine va_get (D := D) (ci := 12) (v := .ref m_a_hang) (C := RX12) (T := TX12) (N := 23) hx hb ht iyX12 hown hK hP 0 rfl rfl 4 (by decide) (ht _ wf_X12_16) (fun _ h9 => h9) rfl dX12_rate_90 ?_
        refine lv_iload_n hx hb dX12_rate_93 rfl (lv_at hl 3 rfl) ?_
        obtain ⟨h_9, hF⟩ := zi_chk hF
        refine va_iald hx hb hK hP 1 0 rfl rfl h_9 dX12_rate_94 ?_
        refine lv_iadd hx hb dX12_rate_95 ?_
        obtain ⟨e_0, e_1⟩ := zo2 hF
        subst e_0
        subst e_1
        exact zret_i S hr hlocks hK hP hD hS dX12_rate_96
      have hF := zi_neg c_8 hF
      by_cases c_10 : p1 = 2
      · have hF := zi_pos c_10 hF
        refine lv_tableIn (tgt := 97) hx hb dX12_rate_41 (by rw [c_10]; decide) (by rw [c_10]; decide) (by rw [c_10]; rfl) (by decide) ?_
        refine lv_aload_n hx hb dX12_rate_97 rfl (lv_at hl 1 rfl) ?_
        refine lv_dup hx hb dX12_rate_98 rfl ?_
        refine va_get (D := D) (ci := 12) (v := .long (m_trail + 1)) (C := RX12) (T := TX12) (N := 23) hx hb ht iyX12 hown hK hP 0 rfl rfl 15 (by decide) (ht _ wf_X12_174) (fun _ h9 => h9) rfl dX12_rate_99 ?_
        refine lv_ldc2 (v := 100) hx hb hown (ht _ wc_X12_180) dX12_rate_102 ?_
        refine lv_ladd hx hb dX12_rate_105 ?_
        refine va_put (D := D) (ci := 12) (v := .long ((m_trail + 1) + 100)) (ty := .long) (C := RX12) (T := TX12) (N := 23) hx hb ht iyX12 tyX12 tyX12_ok nmX12 hown hK hP hD hS 0 rfl rfl 15 (by decide) (ht _ wf_X12_174) (fun _ h9 => h9) rfl (by decide +kernel) rfl rfl (Nat.le_of_ble_eq_true rfl) dX12_rate_106 (fun H locs hP hD hS => ?_)
        have hP : va_P D classes [(m_a, .inr (12, [.ref m_a_letters, .int m_length, .int m_jumpers, .ref m_a_period, .ref m_a_hang, .ref m_a_st, .ref m_a_now, .ref m_a_book, .int m_undos, .ref m_a_images, .ref m_a_isKept, .int m_seen, .ref m_a_seenHang, .ref m_a_seenTick, .ref m_a_seenUp, .long ((m_trail + 1) + 100), .int m_place, .int m_wrong, .int m_items, .int m_saidEvery, .int m_readEvery, .int m_readJumpers, .ref m_a_readOne])), (m_a_hang, .inl (cI, 6, .inl m_hang)), (m_a_st, .inl (cI, 22, .inl m_st))] H := hP
        have hD : va_D A [(m_a, .inr (12, [.ref m_a_letters, .int m_length, .int m_jumpers, .ref m_a_period, .ref m_a_hang, .ref m_a_st, .ref m_a_now, .ref m_a_book, .int m_undos, .ref m_a_images, .ref m_a_isKept, .int m_seen, .ref m_a_seenHang, .ref m_a_seenTick, .ref m_a_seenUp, .long ((m_trail + 1) + 100), .int m_place, .int m_wrong, .int m_items, .int m_saidEvery, .int m_readEvery, .int m_readJumpers, .ref m_a_readOne])), (m_a_hang, .inl (cI, 6, .inl m_hang)), (m_a_st, .inl (cI, 22, .inl m_st))] := hD
        refine lv_iload_n hx hb dX12_rate_109 rfl (lv_at hl 0 rfl) ?_
        refine lv_aload_n hx hb dX12_rate_110 rfl (lv_at hl 1 rfl) ?_
        refine va_get (D := D) (ci := 12) (v := .ref m_a_st) (C := RX12) (T := TX12) (N := 23) hx hb ht iyX12 hown hK hP 0 rfl rfl 5 (by decide) (ht _ wf_X12_19) (fun _ h9 => h9) rfl dX12_rate_111 ?_
        refine lv_iconst (v := 2) hx hb dX12_rate_114 (by decide) ?_
        refine va_iald hx hb hK hP 2 0 rfl rfl (show ¬ ((2 : Int32) < 0 ∨ 22 ≤ (2 : Int32).toNatClampNeg) by decide) dX12_rate_115 ?_
        refine lv_isub hx hb dX12_rate_116 ?_
        obtain ⟨e_0, e_1⟩ := zo2 hF
        subst e_0
        subst e_1
        exact zret_i S hr hlocks hK hP hD hS dX12_rate_117
      have hF := zi_neg c_10 hF
      by_cases c_11 : p1 = 3
      · have hF := zi_pos c_11 hF
        refine lv_tableIn (tgt := 118) hx hb dX12_rate_41 (by rw [c_11]; decide) (by rw [c_11]; decide) (by rw [c_11]; rfl) (by decide) ?_
        refine lv_aload_n hx hb dX12_rate_118 rfl (lv_at hl 1 rfl) ?_
        refine lv_dup hx hb dX12_rate_119 rfl ?_
        refine va_get (D := D) (ci := 12) (v := .long (m_trail + 1)) (C := RX12) (T := TX12) (N := 23) hx hb ht iyX12 hown hK hP 0 rfl rfl 15 (by decide) (ht _ wf_X12_174) (fun _ h9 => h9) rfl dX12_rate_120 ?_
        refine lv_ldc2 (v := 1010) hx hb hown (ht _ wc_X12_182) dX12_rate_123 ?_
        refine lv_ladd hx hb dX12_rate_126 ?_
        refine va_put (D := D) (ci := 12) (v := .long ((m_trail + 1) + 1010)) (ty := .long) (C := RX12) (T := TX12) (N := 23) hx hb ht iyX12 tyX12 tyX12_ok nmX12 hown hK hP hD hS 0 rfl rfl 15 (by decide) (ht _ wf_X12_174) (fun _ h9 => h9) rfl (by decide +kernel) rfl rfl (Nat.le_of_ble_eq_true rfl) dX12_rate_127 (fun H locs hP hD hS => ?_)
        have hP : va_P D classes [(m_a, .inr (12, [.ref m_a_letters, .int m_length, .int m_jumpers, .ref m_a_period, .ref m_a_hang, .ref m_a_st, .ref m_a_now, .ref m_a_book, .int m_undos, .ref m_a_images, .ref m_a_isKept, .int m_seen, .ref m_a_seenHang, .ref m_a_seenTick, .ref m_a_seenUp, .long ((m_trail + 1) + 1010), .int m_place, .int m_wrong, .int m_items, .int m_saidEvery, .int m_readEvery, .int m_readJumpers, .ref m_a_readOne])), (m_a_hang, .inl (cI, 6, .inl m_hang)), (m_a_st, .inl (cI, 22, .inl m_st))] H := hP
        have hD : va_D A [(m_a, .inr (12, [.ref m_a_letters, .int m_length, .int m_jumpers, .ref m_a_period, .ref m_a_hang, .ref m_a_st, .ref m_a_now, .ref m_a_book, .int m_undos, .ref m_a_images, .ref m_a_isKept, .int m_seen, .ref m_a_seenHang, .ref m_a_seenTick, .ref m_a_seenUp, .long ((m_trail + 1) + 1010), .int m_place, .int m_wrong, .int m_items, .int m_saidEvery, .int m_readEvery, .int m_readJumpers, .ref m_a_readOne])), (m_a_hang, .inl (cI, 6, .inl m_hang)), (m_a_st, .inl (cI, 22, .inl m_st))] := hD
        refine lv_iconst (v := 2) hx hb dX12_rate_130 (by decide) ?_
        refine lv_iload_n hx hb dX12_rate_131 rfl (lv_at hl 0 rfl) ?_
        refine lv_aload_n hx hb dX12_rate_132 rfl (lv_at hl 1 rfl) ?_
        refine va_get (D := D) (ci := 12) (v := .ref m_a_hang) (C := RX12) (T := TX12) (N := 23) hx hb ht iyX12 hown hK hP 0 rfl rfl 4 (by decide) (ht _ wf_X12_16) (fun _ h9 => h9) rfl dX12_rate_133 ?_
        refine lv_iload_n hx hb dX12_rate_136 rfl (lv_at hl 3 rfl) ?_
        obtain ⟨h_12, hF⟩ := zi_chk hF
        refine va_iald hx hb hK hP 1 0 rfl rfl h_12 dX12_rate_137 ?_
        refine lv_iadd hx hb dX12_rate_138 ?_
        refine lv_imul hx hb dX12_rate_139 ?_
        obtain ⟨e_0, e_1⟩ := zo2 hF
        subst e_0
        subst e_1
        exact zret_i S hr hlocks hK hP hD hS dX12_rate_140
      have hF := zi_neg c_11 hF
      by_cases c_13 : p1 = 4
      · have hF := zi_pos c_13 hF
        refine lv_tableIn (tgt := 141) hx hb dX12_rate_41 (by rw [c_13]; decide) (by rw [c_13]; decide) (by rw [c_13]; rfl) (by decide) ?_
        refine lv_aload_n hx hb dX12_rate_141 rfl (lv_at hl 1 rfl) ?_
        refine lv_dup hx hb dX12_rate_142 rfl ?_
        refine va_get (D := D) (ci := 12) (v := .long (m_trail + 1)) (C := RX12) (T := TX12) (N := 23) hx hb ht iyX12 hown hK hP 0 rfl rfl 15 (by decide) (ht _ wf_X12_174) (fun _ h9 => h9) rfl dX12_rate_143 ?_
        refine lv_ldc2 (v := 10100) hx hb hown (ht _ wc_X12_184) dX12_rate_146 ?_
        refine lv_ladd hx hb dX12_rate_149 ?_
        refine va_put (D := D) (ci := 12) (v := .long ((m_trail + 1) + 10100)) (ty := .long) (C := RX12) (T := TX12) (N := 23) hx hb ht iyX12 tyX12 tyX12_ok nmX12 hown hK hP hD hS 0 rfl rfl 15 (by decide) (ht _ wf_X12_174) (fun _ h9 => h9) rfl (by decide +kernel) rfl rfl (Nat.le_of_ble_eq_true rfl) dX12_rate_150 (fun H locs hP hD hS => ?_)
        have hP : va_P D classes [(m_a, .inr (12, [.ref m_a_letters, .int m_length, .int m_jumpers, .ref m_a_period, .ref m_a_hang, .ref m_a_st, .ref m_a_now, .ref m_a_book, .int m_undos, .ref m_a_images, .ref m_a_isKept, .int m_seen, .ref m_a_seenHang, .ref m_a_seenTick, .ref m_a_seenUp, .long ((m_trail + 1) + 10100), .int m_place, .int m_wrong, .int m_items, .int m_saidEvery, .int m_readEvery, .int m_readJumpers, .ref m_a_readOne])), (m_a_hang, .inl (cI, 6, .inl m_hang)), (m_a_st, .inl (cI, 22, .inl m_st))] H := hP
        have hD : va_D A [(m_a, .inr (12, [.ref m_a_letters, .int m_length, .int m_jumpers, .ref m_a_period, .ref m_a_hang, .ref m_a_st, .ref m_a_now, .ref m_a_book, .int m_undos, .ref m_a_images, .ref m_a_isKept, .int m_seen, .ref m_a_seenHang, .ref m_a_seenTick, .ref m_a_seenUp, .long ((m_trail + 1) + 10100), .int m_place, .int m_wrong, .int m_items, .int m_saidEvery, .int m_readEvery, .int m_readJumpers, .ref m_a_readOne])), (m_a_hang, .inl (cI, 6, .inl m_hang)), (m_a_st, .inl (cI, 22, .inl m_st))] := hD
        refine lv_iload_n hx hb dX12_rate_153 rfl (lv_at hl 0 rfl) ?_
        refine lv_aload_n hx hb dX12_rate_154 rfl (lv_at hl 1 rfl) ?_
        refine va_get (D := D) (ci := 12) (v := .ref m_a_st) (C := RX12) (T := TX12) (N := 23) hx hb ht iyX12 hown hK hP 0 rfl rfl 5 (by decide) (ht _ wf_X12_19) (fun _ h9 => h9) rfl dX12_rate_155 ?_
        refine lv_iconst (v := 2) hx hb dX12_rate_158 (by decide) ?_
        refine va_iald hx hb hK hP 2 0 rfl rfl (show ¬ ((2 : Int32) < 0 ∨ 22 ≤ (2 : Int32).toNatClampNeg) by decide) dX12_rate_159 ?_
        refine lv_isub hx hb dX12_rate_160 ?_
        refine lv_iload_n hx hb dX12_rate_161 rfl (lv_at hl 3 rfl) ?_
        refine lv_iadd hx hb dX12_rate_162 ?_
        obtain ⟨e_0, e_1⟩ := zo2 hF
        subst e_0
        subst e_1
        exact zret_i S hr hlocks hK hP hD hS dX12_rate_163
      have hF := zi_neg c_13 hF
      by_cases c_14 : p1 = 5
      · have hF := zi_pos c_14 hF
        refine lv_tableIn (tgt := 164) hx hb dX12_rate_41 (by rw [c_14]; decide) (by rw [c_14]; decide) (by rw [c_14]; rfl) (by decide) ?_
        refine lv_aload_n hx hb dX12_rate_164 rfl (lv_at hl 1 rfl) ?_
        refine lv_dup hx hb dX12_rate_165 rfl ?_
        refine va_get (D := D) (ci := 12) (v := .long (m_trail + 1)) (C := RX12) (T := TX12) (N := 23) hx hb ht iyX12 hown hK hP 0 rfl rfl 15 (by decide) (ht _ wf_X12_174) (fun _ h9 => h9) rfl dX12_rate_166 ?_
        refine lv_ldc2 (v := 100000) hx hb hown (ht _ wc_X12_186) dX12_rate_169 ?_
        refine lv_ladd hx hb dX12_rate_172 ?_
        refine va_put (D := D) (ci := 12) (v := .long ((m_trail + 1) + 100000)) (ty := .long) (C := RX12) (T := TX12) (N := 23) hx hb ht iyX12 tyX12 tyX12_ok nmX12 hown hK hP hD hS 0 rfl rfl 15 (by decide) (ht _ wf_X12_174) (fun _ h9 => h9) rfl (by decide +kernel) rfl rfl (Nat.le_of_ble_eq_true rfl) dX12_rate_173 (fun H locs hP hD hS => ?_)
        have hP : va_P D classes [(m_a, .inr (12, [.ref m_a_letters, .int m_length, .int m_jumpers, .ref m_a_period, .ref m_a_hang, .ref m_a_st, .ref m_a_now, .ref m_a_book, .int m_undos, .ref m_a_images, .ref m_a_isKept, .int m_seen, .ref m_a_seenHang, .ref m_a_seenTick, .ref m_a_seenUp, .long ((m_trail + 1) + 100000), .int m_place, .int m_wrong, .int m_items, .int m_saidEvery, .int m_readEvery, .int m_readJumpers, .ref m_a_readOne])), (m_a_hang, .inl (cI, 6, .inl m_hang)), (m_a_st, .inl (cI, 22, .inl m_st))] H := hP
        have hD : va_D A [(m_a, .inr (12, [.ref m_a_letters, .int m_length, .int m_jumpers, .ref m_a_period, .ref m_a_hang, .ref m_a_st, .ref m_a_now, .ref m_a_book, .int m_undos, .ref m_a_images, .ref m_a_isKept, .int m_seen, .ref m_a_seenHang, .ref m_a_seenTick, .ref m_a_seenUp, .long ((m_trail + 1) + 100000), .int m_place, .int m_wrong, .int m_items, .int m_saidEvery, .int m_readEvery, .int m_readJumpers, .ref m_a_readOne])), (m_a_hang, .inl (cI, 6, .inl m_hang)), (m_a_st, .inl (cI, 22, .inl m_st))] := hD
        refine lv_iload_n hx hb dX12_rate_176 rfl (lv_at hl 0 rfl) ?_
        refine lv_aload_n hx hb dX12_rate_177 rfl (lv_at hl 1 rfl) ?_
        refine va_get (D := D) (ci := 12) (v := .ref m_a_st) (C := RX12) (T := TX12) (N := 23) hx hb ht iyX12 hown hK hP 0 rfl rfl 5 (by decide) (ht _ wf_X12_19) (fun _ h9 => h9) rfl dX12_rate_178 ?_
        refine lv_iconst (v := 0) hx hb dX12_rate_181 (by decide) ?_
        refine va_iald hx hb hK hP 2 0 rfl rfl (show ¬ ((0 : Int32) < 0 ∨ 22 ≤ (0 : Int32).toNatClampNeg) by decide) dX12_rate_182 ?_
        refine lv_iadd hx hb dX12_rate_183 ?_
        obtain ⟨e_0, e_1⟩ := zo2 hF
        subst e_0
        subst e_1
        exact zret_i S hr hlocks hK hP hD hS dX12_rate_184
      have hF := zi_neg c_14 hF
      have hto : p1.toInt < 1 ∨ 5 < p1.toInt := by
        have zc_8 := lv_neT c_8 (a := 1) (by decide)
        have zc_10 := lv_neT c_10 (a := 2) (by decide)
        have zc_11 := lv_neT c_11 (a := 3) (by decide)
        have zc_13 := lv_neT c_13 (a := 4) (by decide)
        have zc_14 := lv_neT c_14 (a := 5) (by decide)
        omega
      refine lv_tableOut (tgt := 185) hx hb dX12_rate_41 hto (by decide) ?_
      refine lv_iload_n hx hb dX12_rate_185 rfl (lv_at hl 0 rfl) ?_
      obtain ⟨e_0, e_1⟩ := zo2 hF
      subst e_0
      subst e_1
      exact zret_i S hr hlocks hK hP hD hS dX12_rate_186
    · have hF := zi_pos c_6 hF
      refine lv_ldc (v := (-1000000)) hx hb hown (ht _ wc_X12_173) dX12_rate_17 ?_
      obtain ⟨e_0, e_1⟩ := zo2 hF
      subst e_0
      subst e_1
      exact zret_i S hr hlocks hK hP hD hS dX12_rate_19

def F_X12_keep (m_st : Nat → Int32) (m_images : Nat → Int32) (m_isKept : Nat → Int32) (p1 : Int32) : Option (Int32 × (Nat → Int32) × (Nat → Int32)) :=
  (zb1 (F_X12_in p1 0 1) (fun r_1 => (if r_1 = 0 then some ((-1), m_images, m_isKept) else (if (p1 < 0 ∨ 2 ≤ p1.toNatClampNeg) then none else (zb1 (F_X12_bring 22 m_st 44 m_images 0 (22 * p1) 22) (fun m_images_5 => some (m_st (0 : Int32).toNatClampNeg, m_images_5, upd m_isKept p1.toNatClampNeg (vp_nar .boolean 1))))))))
set_option maxHeartbeats 4000000 in
set_option maxRecDepth 100000 in
theorem c_X12_keep (l : Launch) (D : va_G) (cI cZ cS cJ : ClassId) (m_a : Nat) (m_a_letters : Nat) (m_a_period : Nat) (m_a_hang : Nat) (m_a_st : Nat) (m_a_now : Nat) (m_a_book : Nat) (m_a_images : Nat) (m_a_isKept : Nat) (m_a_seenHang : Nat) (m_a_seenTick : Nat) (m_a_seenUp : Nat) (m_a_readOne : Nat) (m_length : Int32) (m_jumpers : Int32) (m_undos : Int32) (m_seen : Int32) (m_trail : Int64) (m_place : Int32) (m_wrong : Int32) (m_items : Int32) (m_saidEvery : Int32) (m_readEvery : Int32) (m_readJumpers : Int32) (m_st : Nat → Int32) (m_images : Nat → Int32) (m_isKept : Nat → Int32) (p1 : Int32) {r_o : Int32} {m_images_o : Nat → Int32} {m_isKept_o : Nat → Int32} (hF : F_X12_keep m_st m_images m_isKept p1 = some (r_o, m_images_o, m_isKept_o)) : zMi l yX12_keep (zwl yX12_keep cX12_keep 2 (some .int)) { frames := 1, cells := 0, slots := 0, locals := 25 } D (TYS cI cZ cS cJ) [.ref m_a, .int p1] [(m_a, .inr (12, [.ref m_a_letters, .int m_length, .int m_jumpers, .ref m_a_period, .ref m_a_hang, .ref m_a_st, .ref m_a_now, .ref m_a_book, .int m_undos, .ref m_a_images, .ref m_a_isKept, .int m_seen, .ref m_a_seenHang, .ref m_a_seenTick, .ref m_a_seenUp, .long m_trail, .int m_place, .int m_wrong, .int m_items, .int m_saidEvery, .int m_readEvery, .int m_readJumpers, .ref m_a_readOne])), (m_a_st, .inl (cI, 22, .inl m_st)), (m_a_images, .inl (cI, 44, .inl m_images)), (m_a_isKept, .inl (cZ, 2, .inl m_isKept))] [(m_a, .inr (12, [.ref m_a_letters, .int m_length, .int m_jumpers, .ref m_a_period, .ref m_a_hang, .ref m_a_st, .ref m_a_now, .ref m_a_book, .int m_undos, .ref m_a_images, .ref m_a_isKept, .int m_seen, .ref m_a_seenHang, .ref m_a_seenTick, .ref m_a_seenUp, .long m_trail, .int m_place, .int m_wrong, .int m_items, .int m_saidEvery, .int m_readEvery, .int m_readJumpers, .ref m_a_readOne])), (m_a_st, .inl (cI, 22, .inl m_st)), (m_a_images, .inl (cI, 44, .inl m_images_o)), (m_a_isKept, .inl (cZ, 2, .inl m_isKept_o))] r_o := by
  refine zent_i (own := RX12) (by decide) rfl (Nat.le_of_ble_eq_true rfl) ?_
  intro p e s m below meth c A ls S hr hlocks hK hP hD hA hl
  have hx := S.1
  have hb := S.2.1
  have hml := S.2.2.1
  have hown := S.2.2.2.1
  have hT : ∀ w ∈ zt, w ∈ zwl yX12_keep cX12_keep 2 (some .int) := fun _ h => List.mem_cons_of_mem _ h
  have ht : ∀ w ∈ zt, w.before [.ref m_a, .int p1].toArray s = true := fun w h => S.2.2.2.2 w (hT w h)
  have hl : lv_has ls 2 [(0, .ref m_a), (1, .int p1)] := hl
  have hS : va_S A s.heap s.heap [] := va_S.rf
  unfold F_X12_keep at hF
  refine lv_iload_n hx hb dX12_keep_0 rfl (lv_at hl 1 rfl) ?_
  refine lv_iconst (v := 0) hx hb dX12_keep_1 (by decide) ?_
  refine lv_iconst (v := 1) hx hb dX12_keep_2 (by decide) ?_
  obtain ⟨r_1, hc_2, hF⟩ := zb1_s hF
  refine zcs_i (ws1 := [(m_a, .inr (12, [.ref m_a_letters, .int m_length, .int m_jumpers, .ref m_a_period, .ref m_a_hang, .ref m_a_st, .ref m_a_now, .ref m_a_book, .int m_undos, .ref m_a_images, .ref m_a_isKept, .int m_seen, .ref m_a_seenHang, .ref m_a_seenTick, .ref m_a_seenUp, .long m_trail, .int m_place, .int m_wrong, .int m_items, .int m_saidEvery, .int m_readEvery, .int m_readJumpers, .ref m_a_readOne])), (m_a_st, .inl (cI, 22, .inl m_st)), (m_a_images, .inl (cI, 44, .inl m_images)), (m_a_isKept, .inl (cZ, 2, .inl m_isKept))]) S hT lk_X12_51 (c_X12_in l D cI cZ cS cJ p1 0 1 hc_2) ⟨rfl, rfl, Nat.le_of_ble_eq_true rfl, Nat.le_of_ble_eq_true rfl⟩ hK hP hD hS hA [] [0, 1, 2, 3] [0, 1, 2, 3] rfl rfl rfl rfl rfl rfl rfl rfl hl.1 rfl (Nat.le_of_ble_eq_true rfl) dX12_keep_3 ⟨Nat.zero_le _, Nat.zero_le _⟩ (fun H locs hP hD hS => ?_)
  refine lv_if_ne (tgt := 11) hx hb dX12_keep_6 (by decide) (fun c_3 => ?_) (fun c_3 => ?_)
  · have hF := zi_neg c_3 hF
    refine lv_aload_n hx hb dX12_keep_11 rfl (lv_at hl 0 rfl) ?_
    refine va_get (D := D) (ci := 12) (v := .ref m_a_isKept) (C := RX12) (T := TX12) (N := 23) hx hb ht iyX12 hown hK hP 0 rfl rfl 10 (by decide) (ht _ wf_X12_31) (fun _ h9 => h9) rfl dX12_keep_12 ?_
    refine lv_iload_n hx hb dX12_keep_15 rfl (lv_at hl 1 rfl) ?_
    refine lv_iconst (v := 1) hx hb dX12_keep_16 (by decide) ?_
    obtain ⟨h_4, hF⟩ := zi_chk hF
    refine va_zast hx hb hK hP hD hS 3 1 rfl rfl h_4 dX12_keep_17 (fun H locs hP hD hS => ?_)
    have hP : va_P D classes [(m_a, .inr (12, [.ref m_a_letters, .int m_length, .int m_jumpers, .ref m_a_period, .ref m_a_hang, .ref m_a_st, .ref m_a_now, .ref m_a_book, .int m_undos, .ref m_a_images, .ref m_a_isKept, .int m_seen, .ref m_a_seenHang, .ref m_a_seenTick, .ref m_a_seenUp, .long m_trail, .int m_place, .int m_wrong, .int m_items, .int m_saidEvery, .int m_readEvery, .int m_readJumpers, .ref m_a_readOne])), (m_a_st, .inl (cI, 22, .inl m_st)), (m_a_images, .inl (cI, 44, .inl m_images)), (m_a_isKept, .inl (cZ, 2, .inl (upd m_isKept p1.toNatClampNeg (vp_nar .boolean 1))))] H := hP
    have hD : va_D A [(m_a, .inr (12, [.ref m_a_letters, .int m_length, .int m_jumpers, .ref m_a_period, .ref m_a_hang, .ref m_a_st, .ref m_a_now, .ref m_a_book, .int m_undos, .ref m_a_images, .ref m_a_isKept, .int m_seen, .ref m_a_seenHang, .ref m_a_seenTick, .ref m_a_seenUp, .long m_trail, .int m_place, .int m_wrong, .int m_items, .int m_saidEvery, .int m_readEvery, .int m_readJumpers, .ref m_a_readOne])), (m_a_st, .inl (cI, 22, .inl m_st)), (m_a_images, .inl (cI, 44, .inl m_images)), (m_a_isKept, .inl (cZ, 2, .inl (upd m_isKept p1.toNatClampNeg (vp_nar .boolean 1))))] := hD
    refine lv_aload_n hx hb dX12_keep_18 rfl (lv_at hl 0 rfl) ?_
    refine va_get (D := D) (ci := 12) (v := .ref m_a_st) (C := RX12) (T := TX12) (N := 23) hx hb ht iyX12 hown hK hP 0 rfl rfl 5 (by decide) (ht _ wf_X12_19) (fun _ h9 => h9) rfl dX12_keep_19 ?_
    refine lv_iconst (v := 0) hx hb dX12_keep_22 (by decide) ?_
    refine lv_aload_n hx hb dX12_keep_23 rfl (lv_at hl 0 rfl) ?_
    refine va_get (D := D) (ci := 12) (v := .ref m_a_images) (C := RX12) (T := TX12) (N := 23) hx hb ht iyX12 hown hK hP 0 rfl rfl 9 (by decide) (ht _ wf_X12_28) (fun _ h9 => h9) rfl dX12_keep_24 ?_
    refine lv_bipush (v := 22) hx hb dX12_keep_27 (by decide) ?_
    refine lv_iload_n hx hb dX12_keep_29 rfl (lv_at hl 1 rfl) ?_
    refine lv_imul hx hb dX12_keep_30 ?_
    refine lv_bipush (v := 22) hx hb dX12_keep_31 (by decide) ?_
    obtain ⟨m_images_5, hc_6, hF⟩ := zb1_s hF
    refine zcs_v (ws1 := [(m_a, .inr (12, [.ref m_a_letters, .int m_length, .int m_jumpers, .ref m_a_period, .ref m_a_hang, .ref m_a_st, .ref m_a_now, .ref m_a_book, .int m_undos, .ref m_a_images, .ref m_a_isKept, .int m_seen, .ref m_a_seenHang, .ref m_a_seenTick, .ref m_a_seenUp, .long m_trail, .int m_place, .int m_wrong, .int m_items, .int m_saidEvery, .int m_readEvery, .int m_readJumpers, .ref m_a_readOne])), (m_a_st, .inl (cI, 22, .inl m_st)), (m_a_images, .inl (cI, 44, .inl m_images_5)), (m_a_isKept, .inl (cZ, 2, .inl (upd m_isKept p1.toNatClampNeg (vp_nar .boolean 1))))]) S hT lk_X12_119 (c_X12_bring l D cI cZ cS cJ m_a_st m_a_images 22 m_st 44 m_images 0 (22 * p1) 22 hc_6) ⟨rfl, rfl, Nat.le_of_ble_eq_true rfl, Nat.le_of_ble_eq_true rfl⟩ hK hP hD hS hA [1, 2] [0, 3] [0, 2, 3, 1] rfl rfl rfl rfl rfl rfl rfl rfl hl.1 rfl (Nat.le_of_ble_eq_true rfl) dX12_keep_33 ⟨Nat.zero_le _, Nat.zero_le _⟩ (fun H locs hP hD hS => ?_)
    refine lv_aload_n hx hb dX12_keep_36 rfl (lv_at hl 0 rfl) ?_
    refine va_get (D := D) (ci := 12) (v := .ref m_a_st) (C := RX12) (T := TX12) (N := 23) hx hb ht iyX12 hown hK hP 0 rfl rfl 5 (by decide) (ht _ wf_X12_19) (fun _ h9 => h9) rfl dX12_keep_37 ?_
    refine lv_iconst (v := 0) hx hb dX12_keep_40 (by decide) ?_
    refine va_iald hx hb hK hP 1 0 rfl rfl (show ¬ ((0 : Int32) < 0 ∨ 22 ≤ (0 : Int32).toNatClampNeg) by decide) dX12_keep_41 ?_
    obtain ⟨e_0, e_1, e_2⟩ := zo3 hF
    subst e_0
    subst e_1
    subst e_2
    exact zret_i S hr hlocks hK hP hD hS dX12_keep_42
  · have hF := zi_pos c_3 hF
    refine lv_iconst (v := (-1)) hx hb dX12_keep_9 (by decide) ?_
    obtain ⟨e_0, e_1, e_2⟩ := zo3 hF
    subst e_0
    subst e_1
    subst e_2
    exact zret_i S hr hlocks hK hP hD hS dX12_keep_10

def F_X12_back (m_undos : Int32) (m_st : Nat → Int32) (m_images : Nat → Int32) (m_isKept : Nat → Int32) (p1 : Int32) : Option (Int32 × Int32 × (Nat → Int32)) :=
  (zb1 (F_X12_in p1 0 1) (fun r_1 => (if r_1 = 0 then some ((-1), m_undos, m_st) else (if (p1 < 0 ∨ 2 ≤ p1.toNatClampNeg) then none else (if (m_isKept p1.toNatClampNeg) = 0 then some ((-2), m_undos, m_st) else (zb1 (F_X12_bring 44 m_images 22 m_st (22 * p1) 0 22) (fun m_st_6 => some (m_st_6 (0 : Int32).toNatClampNeg, 0, m_st_6))))))))
set_option maxHeartbeats 4000000 in
set_option maxRecDepth 100000 in
theorem c_X12_back (l : Launch) (D : va_G) (cI cZ cS cJ : ClassId) (m_a : Nat) (m_a_letters : Nat) (m_a_period : Nat) (m_a_hang : Nat) (m_a_st : Nat) (m_a_now : Nat) (m_a_book : Nat) (m_a_images : Nat) (m_a_isKept : Nat) (m_a_seenHang : Nat) (m_a_seenTick : Nat) (m_a_seenUp : Nat) (m_a_readOne : Nat) (m_length : Int32) (m_jumpers : Int32) (m_undos : Int32) (m_seen : Int32) (m_trail : Int64) (m_place : Int32) (m_wrong : Int32) (m_items : Int32) (m_saidEvery : Int32) (m_readEvery : Int32) (m_readJumpers : Int32) (m_st : Nat → Int32) (m_images : Nat → Int32) (m_isKept : Nat → Int32) (p1 : Int32) {r_o : Int32} {m_undos_o : Int32} {m_st_o : Nat → Int32} (hF : F_X12_back m_undos m_st m_images m_isKept p1 = some (r_o, m_undos_o, m_st_o)) : zMi l yX12_back (zwl yX12_back cX12_back 2 (some .int)) { frames := 1, cells := 0, slots := 0, locals := 25 } D (TYS cI cZ cS cJ) [.ref m_a, .int p1] [(m_a, .inr (12, [.ref m_a_letters, .int m_length, .int m_jumpers, .ref m_a_period, .ref m_a_hang, .ref m_a_st, .ref m_a_now, .ref m_a_book, .int m_undos, .ref m_a_images, .ref m_a_isKept, .int m_seen, .ref m_a_seenHang, .ref m_a_seenTick, .ref m_a_seenUp, .long m_trail, .int m_place, .int m_wrong, .int m_items, .int m_saidEvery, .int m_readEvery, .int m_readJumpers, .ref m_a_readOne])), (m_a_st, .inl (cI, 22, .inl m_st)), (m_a_images, .inl (cI, 44, .inl m_images)), (m_a_isKept, .inl (cZ, 2, .inl m_isKept))] [(m_a, .inr (12, [.ref m_a_letters, .int m_length, .int m_jumpers, .ref m_a_period, .ref m_a_hang, .ref m_a_st, .ref m_a_now, .ref m_a_book, .int m_undos_o, .ref m_a_images, .ref m_a_isKept, .int m_seen, .ref m_a_seenHang, .ref m_a_seenTick, .ref m_a_seenUp, .long m_trail, .int m_place, .int m_wrong, .int m_items, .int m_saidEvery, .int m_readEvery, .int m_readJumpers, .ref m_a_readOne])), (m_a_st, .inl (cI, 22, .inl m_st_o)), (m_a_images, .inl (cI, 44, .inl m_images)), (m_a_isKept, .inl (cZ, 2, .inl m_isKept))] r_o := by
  refine zent_i (own := RX12) (by decide) rfl (Nat.le_of_ble_eq_true rfl) ?_
  intro p e s m below meth c A ls S hr hlocks hK hP hD hA hl
  have hx := S.1
  have hb := S.2.1
  have hml := S.2.2.1
  have hown := S.2.2.2.1
  have hT : ∀ w ∈ zt, w ∈ zwl yX12_back cX12_back 2 (some .int) := fun _ h => List.mem_cons_of_mem _ h
  have ht : ∀ w ∈ zt, w.before [.ref m_a, .int p1].toArray s = true := fun w h => S.2.2.2.2 w (hT w h)
  have hl : lv_has ls 2 [(0, .ref m_a), (1, .int p1)] := hl
  have hS : va_S A s.heap s.heap [] := va_S.rf
  unfold F_X12_back at hF
  refine lv_iload_n hx hb dX12_back_0 rfl (lv_at hl 1 rfl) ?_
  refine lv_iconst (v := 0) hx hb dX12_back_1 (by decide) ?_
  refine lv_iconst (v := 1) hx hb dX12_back_2 (by decide) ?_
  obtain ⟨r_1, hc_2, hF⟩ := zb1_s hF
  refine zcs_i (ws1 := [(m_a, .inr (12, [.ref m_a_letters, .int m_length, .int m_jumpers, .ref m_a_period, .ref m_a_hang, .ref m_a_st, .ref m_a_now, .ref m_a_book, .int m_undos, .ref m_a_images, .ref m_a_isKept, .int m_seen, .ref m_a_seenHang, .ref m_a_seenTick, .ref m_a_seenUp, .long m_trail, .int m_place, .int m_wrong, .int m_items, .int m_saidEvery, .int m_readEvery, .int m_readJumpers, .ref m_a_readOne])), (m_a_st, .inl (cI, 22, .inl m_st)), (m_a_images, .inl (cI, 44, .inl m_images)), (m_a_isKept, .inl (cZ, 2, .inl m_isKept))]) S hT lk_X12_51 (c_X12_in l D cI cZ cS cJ p1 0 1 hc_2) ⟨rfl, rfl, Nat.le_of_ble_eq_true rfl, Nat.le_of_ble_eq_true rfl⟩ hK hP hD hS hA [] [0, 1, 2, 3] [0, 1, 2, 3] rfl rfl rfl rfl rfl rfl rfl rfl hl.1 rfl (Nat.le_of_ble_eq_true rfl) dX12_back_3 ⟨Nat.zero_le _, Nat.zero_le _⟩ (fun H locs hP hD hS => ?_)
  refine lv_if_ne (tgt := 11) hx hb dX12_back_6 (by decide) (fun c_3 => ?_) (fun c_3 => ?_)
  · have hF := zi_neg c_3 hF
    refine lv_aload_n hx hb dX12_back_11 rfl (lv_at hl 0 rfl) ?_
    refine va_get (D := D) (ci := 12) (v := .ref m_a_isKept) (C := RX12) (T := TX12) (N := 23) hx hb ht iyX12 hown hK hP 0 rfl rfl 10 (by decide) (ht _ wf_X12_31) (fun _ h9 => h9) rfl dX12_back_12 ?_
    refine lv_iload_n hx hb dX12_back_15 rfl (lv_at hl 1 rfl) ?_
    obtain ⟨h_4, hF⟩ := zi_chk hF
    refine va_zald hx hb hK hP 3 1 rfl rfl h_4 dX12_back_16 ?_
    refine lv_if_ne (tgt := 23) hx hb dX12_back_17 (by decide) (fun c_5 => ?_) (fun c_5 => ?_)
    · have hF := zi_neg c_5 hF
      refine lv_aload_n hx hb dX12_back_23 rfl (lv_at hl 0 rfl) ?_
      refine va_get (D := D) (ci := 12) (v := .ref m_a_images) (C := RX12) (T := TX12) (N := 23) hx hb ht iyX12 hown hK hP 0 rfl rfl 9 (by decide) (ht _ wf_X12_28) (fun _ h9 => h9) rfl dX12_back_24 ?_
      refine lv_bipush (v := 22) hx hb dX12_back_27 (by decide) ?_
      refine lv_iload_n hx hb dX12_back_29 rfl (lv_at hl 1 rfl) ?_
      refine lv_imul hx hb dX12_back_30 ?_
      refine lv_aload_n hx hb dX12_back_31 rfl (lv_at hl 0 rfl) ?_
      refine va_get (D := D) (ci := 12) (v := .ref m_a_st) (C := RX12) (T := TX12) (N := 23) hx hb ht iyX12 hown hK hP 0 rfl rfl 5 (by decide) (ht _ wf_X12_19) (fun _ h9 => h9) rfl dX12_back_32 ?_
      refine lv_iconst (v := 0) hx hb dX12_back_35 (by decide) ?_
      refine lv_bipush (v := 22) hx hb dX12_back_36 (by decide) ?_
      obtain ⟨m_st_6, hc_7, hF⟩ := zb1_s hF
      refine zcs_v (ws1 := [(m_a, .inr (12, [.ref m_a_letters, .int m_length, .int m_jumpers, .ref m_a_period, .ref m_a_hang, .ref m_a_st, .ref m_a_now, .ref m_a_book, .int m_undos, .ref m_a_images, .ref m_a_isKept, .int m_seen, .ref m_a_seenHang, .ref m_a_seenTick, .ref m_a_seenUp, .long m_trail, .int m_place, .int m_wrong, .int m_items, .int m_saidEvery, .int m_readEvery, .int m_readJumpers, .ref m_a_readOne])), (m_a_st, .inl (cI, 22, .inl m_st_6)), (m_a_images, .inl (cI, 44, .inl m_images)), (m_a_isKept, .inl (cZ, 2, .inl m_isKept))]) S hT lk_X12_119 (c_X12_bring l D cI cZ cS cJ m_a_images m_a_st 44 m_images 22 m_st (22 * p1) 0 22 hc_7) ⟨rfl, rfl, Nat.le_of_ble_eq_true rfl, Nat.le_of_ble_eq_true rfl⟩ hK hP hD hS hA [2, 1] [0, 3] [0, 3, 2, 1] rfl rfl rfl rfl rfl rfl rfl rfl hl.1 rfl (Nat.le_of_ble_eq_true rfl) dX12_back_38 ⟨Nat.zero_le _, Nat.zero_le _⟩ (fun H locs hP hD hS => ?_)
      refine lv_aload_n hx hb dX12_back_41 rfl (lv_at hl 0 rfl) ?_
      refine lv_iconst (v := 0) hx hb dX12_back_42 (by decide) ?_
      refine va_put (D := D) (ci := 12) (v := .int 0) (ty := .int) (C := RX12) (T := TX12) (N := 23) hx hb ht iyX12 tyX12 tyX12_ok nmX12 hown hK hP hD hS 0 rfl rfl 8 (by decide) (ht _ wf_X12_101) (fun _ h9 => h9) rfl (by decide +kernel) rfl rfl (Nat.le_of_ble_eq_true rfl) dX12_back_43 (fun H locs hP hD hS => ?_)
      have hP : va_P D classes [(m_a, .inr (12, [.ref m_a_letters, .int m_length, .int m_jumpers, .ref m_a_period, .ref m_a_hang, .ref m_a_st, .ref m_a_now, .ref m_a_book, .int 0, .ref m_a_images, .ref m_a_isKept, .int m_seen, .ref m_a_seenHang, .ref m_a_seenTick, .ref m_a_seenUp, .long m_trail, .int m_place, .int m_wrong, .int m_items, .int m_saidEvery, .int m_readEvery, .int m_readJumpers, .ref m_a_readOne])), (m_a_st, .inl (cI, 22, .inl m_st_6)), (m_a_images, .inl (cI, 44, .inl m_images)), (m_a_isKept, .inl (cZ, 2, .inl m_isKept))] H := hP
      have hD : va_D A [(m_a, .inr (12, [.ref m_a_letters, .int m_length, .int m_jumpers, .ref m_a_period, .ref m_a_hang, .ref m_a_st, .ref m_a_now, .ref m_a_book, .int 0, .ref m_a_images, .ref m_a_isKept, .int m_seen, .ref m_a_seenHang, .ref m_a_seenTick, .ref m_a_seenUp, .long m_trail, .int m_place, .int m_wrong, .int m_items, .int m_saidEvery, .int m_readEvery, .int m_readJumpers, .ref m_a_readOne])), (m_a_st, .inl (cI, 22, .inl m_st_6)), (m_a_images, .inl (cI, 44, .inl m_images)), (m_a_isKept, .inl (cZ, 2, .inl m_isKept))] := hD
      refine lv_aload_n hx hb dX12_back_46 rfl (lv_at hl 0 rfl) ?_
      refine va_get (D := D) (ci := 12) (v := .ref m_a_st) (C := RX12) (T := TX12) (N := 23) hx hb ht iyX12 hown hK hP 0 rfl rfl 5 (by decide) (ht _ wf_X12_19) (fun _ h9 => h9) rfl dX12_back_47 ?_
      refine lv_iconst (v := 0) hx hb dX12_back_50 (by decide) ?_
      refine va_iald hx hb hK hP 1 0 rfl rfl (show ¬ ((0 : Int32) < 0 ∨ 22 ≤ (0 : Int32).toNatClampNeg) by decide) dX12_back_51 ?_
      obtain ⟨e_0, e_1, e_2⟩ := zo3 hF
      subst e_0
      subst e_1
      subst e_2
      exact zret_i S hr hlocks hK hP hD hS dX12_back_52
    · have hF := zi_pos c_5 hF
      refine lv_bipush (v := (-2)) hx hb dX12_back_20 (by decide) ?_
      obtain ⟨e_0, e_1, e_2⟩ := zo3 hF
      subst e_0
      subst e_1
      subst e_2
      exact zret_i S hr hlocks hK hP hD hS dX12_back_22
  · have hF := zi_pos c_3 hF
    refine lv_iconst (v := (-1)) hx hb dX12_back_9 (by decide) ?_
    obtain ⟨e_0, e_1, e_2⟩ := zo3 hF
    subst e_0
    subst e_1
    subst e_2
    exact zret_i S hr hlocks hK hP hD hS dX12_back_10

def F_X12_count (m_length : Int32) (m_jumpers : Int32) (m_seen : Int32) (p1 : Int32) : Option (Int32) :=
  (if p1 = 0 then some (m_jumpers) else (if p1 = 1 then some (m_seen) else (if p1 = 2 then some (m_length) else some ((-1)))))
set_option maxHeartbeats 4000000 in
set_option maxRecDepth 100000 in
theorem c_X12_count (l : Launch) (D : va_G) (cI cZ cS cJ : ClassId) (m_a : Nat) (m_a_letters : Nat) (m_a_period : Nat) (m_a_hang : Nat) (m_a_st : Nat) (m_a_now : Nat) (m_a_book : Nat) (m_a_images : Nat) (m_a_isKept : Nat) (m_a_seenHang : Nat) (m_a_seenTick : Nat) (m_a_seenUp : Nat) (m_a_readOne : Nat) (m_length : Int32) (m_jumpers : Int32) (m_undos : Int32) (m_seen : Int32) (m_trail : Int64) (m_place : Int32) (m_wrong : Int32) (m_items : Int32) (m_saidEvery : Int32) (m_readEvery : Int32) (m_readJumpers : Int32) (p1 : Int32) {r_o : Int32} (hF : F_X12_count m_length m_jumpers m_seen p1 = some (r_o)) : zMi l yX12_count (zwl yX12_count cX12_count 2 (some .int)) { frames := 0, cells := 0, slots := 0, locals := 0 } D (TYS cI cZ cS cJ) [.ref m_a, .int p1] [(m_a, .inr (12, [.ref m_a_letters, .int m_length, .int m_jumpers, .ref m_a_period, .ref m_a_hang, .ref m_a_st, .ref m_a_now, .ref m_a_book, .int m_undos, .ref m_a_images, .ref m_a_isKept, .int m_seen, .ref m_a_seenHang, .ref m_a_seenTick, .ref m_a_seenUp, .long m_trail, .int m_place, .int m_wrong, .int m_items, .int m_saidEvery, .int m_readEvery, .int m_readJumpers, .ref m_a_readOne]))] [(m_a, .inr (12, [.ref m_a_letters, .int m_length, .int m_jumpers, .ref m_a_period, .ref m_a_hang, .ref m_a_st, .ref m_a_now, .ref m_a_book, .int m_undos, .ref m_a_images, .ref m_a_isKept, .int m_seen, .ref m_a_seenHang, .ref m_a_seenTick, .ref m_a_seenUp, .long m_trail, .int m_place, .int m_wrong, .int m_items, .int m_saidEvery, .int m_readEvery, .int m_readJumpers, .ref m_a_readOne]))] r_o := by
  refine zent_i (own := RX12) (by decide) rfl (Nat.le_of_ble_eq_true rfl) ?_
  intro p e s m below meth c A ls S hr hlocks hK hP hD hA hl
  have hx := S.1
  have hb := S.2.1
  have hml := S.2.2.1
  have hown := S.2.2.2.1
  have hT : ∀ w ∈ zt, w ∈ zwl yX12_count cX12_count 2 (some .int) := fun _ h => List.mem_cons_of_mem _ h
  have ht : ∀ w ∈ zt, w.before [.ref m_a, .int p1].toArray s = true := fun w h => S.2.2.2.2 w (hT w h)
  have hl : lv_has ls 2 [(0, .ref m_a), (1, .int p1)] := hl
  have hS : va_S A s.heap s.heap [] := va_S.rf
  unfold F_X12_count at hF
  refine lv_iload_n hx hb dX12_count_0 rfl (lv_at hl 1 rfl) ?_
  refine lv_if_ne (tgt := 11) hx hb dX12_count_1 (by decide) (fun c_1 => ?_) (fun c_1 => ?_)
  · have hF := zi_neg c_1 hF
    refine lv_iload_n hx hb dX12_count_11 rfl (lv_at hl 1 rfl) ?_
    refine lv_iconst (v := 1) hx hb dX12_count_12 (by decide) ?_
    refine lv_icmp_ne (tgt := 23) hx hb dX12_count_13 (by decide) (fun c_2 => ?_) (fun c_2 => ?_)
    · have hF := zi_neg c_2 hF
      refine lv_iload_n hx hb dX12_count_23 rfl (lv_at hl 1 rfl) ?_
      refine lv_iconst (v := 2) hx hb dX12_count_24 (by decide) ?_
      refine lv_icmp_ne (tgt := 35) hx hb dX12_count_25 (by decide) (fun c_3 => ?_) (fun c_3 => ?_)
      · have hF := zi_neg c_3 hF
        refine lv_iconst (v := (-1)) hx hb dX12_count_35 (by decide) ?_
        have e_0 := zo1 hF
        subst e_0
        exact zret_i S hr hlocks hK hP hD hS dX12_count_36
      · have hF := zi_pos c_3 hF
        refine lv_aload_n hx hb dX12_count_28 rfl (lv_at hl 0 rfl) ?_
        refine va_get (D := D) (ci := 12) (v := .int m_length) (C := RX12) (T := TX12) (N := 23) hx hb ht iyX12 hown hK hP 0 rfl rfl 1 (by decide) (ht _ wf_X12_55) (fun _ h9 => h9) rfl dX12_count_29 ?_
        refine lv_goto (tgt := 36) hx hb dX12_count_32 (by decide) ?_
        have e_0 := zo1 hF
        subst e_0
        exact zret_i S hr hlocks hK hP hD hS dX12_count_36
    · have hF := zi_pos c_2 hF
      refine lv_aload_n hx hb dX12_count_16 rfl (lv_at hl 0 rfl) ?_
      refine va_get (D := D) (ci := 12) (v := .int m_seen) (C := RX12) (T := TX12) (N := 23) hx hb ht iyX12 hown hK hP 0 rfl rfl 11 (by decide) (ht _ wf_X12_104) (fun _ h9 => h9) rfl dX12_count_17 ?_
      refine lv_goto (tgt := 36) hx hb dX12_count_20 (by decide) ?_
      have e_0 := zo1 hF
      subst e_0
      exact zret_i S hr hlocks hK hP hD hS dX12_count_36
  · have hF := zi_pos c_1 hF
    refine lv_aload_n hx hb dX12_count_4 rfl (lv_at hl 0 rfl) ?_
    refine va_get (D := D) (ci := 12) (v := .int m_jumpers) (C := RX12) (T := TX12) (N := 23) hx hb ht iyX12 hown hK hP 0 rfl rfl 2 (by decide) (ht _ wf_X12_47) (fun _ h9 => h9) rfl dX12_count_5 ?_
    refine lv_goto (tgt := 36) hx hb dX12_count_8 (by decide) ?_
    have e_0 := zo1 hF
    subst e_0
    exact zret_i S hr hlocks hK hP hD hS dX12_count_36

def F_X12_trace (m_trail : Int64) : Option (Int64) :=
  some (m_trail)
set_option maxHeartbeats 4000000 in
set_option maxRecDepth 100000 in
theorem c_X12_trace (l : Launch) (D : va_G) (cI cZ cS cJ : ClassId) (m_a : Nat) (m_a_letters : Nat) (m_a_period : Nat) (m_a_hang : Nat) (m_a_st : Nat) (m_a_now : Nat) (m_a_book : Nat) (m_a_images : Nat) (m_a_isKept : Nat) (m_a_seenHang : Nat) (m_a_seenTick : Nat) (m_a_seenUp : Nat) (m_a_readOne : Nat) (m_length : Int32) (m_jumpers : Int32) (m_undos : Int32) (m_seen : Int32) (m_trail : Int64) (m_place : Int32) (m_wrong : Int32) (m_items : Int32) (m_saidEvery : Int32) (m_readEvery : Int32) (m_readJumpers : Int32) {r_o : Int64} (hF : F_X12_trace m_trail = some (r_o)) : zMl l yX12_trace (zwl yX12_trace cX12_trace 1 (some .long)) { frames := 0, cells := 0, slots := 0, locals := 0 } D (TYS cI cZ cS cJ) [.ref m_a] [(m_a, .inr (12, [.ref m_a_letters, .int m_length, .int m_jumpers, .ref m_a_period, .ref m_a_hang, .ref m_a_st, .ref m_a_now, .ref m_a_book, .int m_undos, .ref m_a_images, .ref m_a_isKept, .int m_seen, .ref m_a_seenHang, .ref m_a_seenTick, .ref m_a_seenUp, .long m_trail, .int m_place, .int m_wrong, .int m_items, .int m_saidEvery, .int m_readEvery, .int m_readJumpers, .ref m_a_readOne]))] [(m_a, .inr (12, [.ref m_a_letters, .int m_length, .int m_jumpers, .ref m_a_period, .ref m_a_hang, .ref m_a_st, .ref m_a_now, .ref m_a_book, .int m_undos, .ref m_a_images, .ref m_a_isKept, .int m_seen, .ref m_a_seenHang, .ref m_a_seenTick, .ref m_a_seenUp, .long m_trail, .int m_place, .int m_wrong, .int m_items, .int m_saidEvery, .int m_readEvery, .int m_readJumpers, .ref m_a_readOne]))] r_o := by
  refine zent_l (own := RX12) (by decide) rfl (Nat.le_of_ble_eq_true rfl) ?_
  intro p e s m below meth c A ls S hr hlocks hK hP hD hA hl
  have hx := S.1
  have hb := S.2.1
  have hml := S.2.2.1
  have hown := S.2.2.2.1
  have hT : ∀ w ∈ zt, w ∈ zwl yX12_trace cX12_trace 1 (some .long) := fun _ h => List.mem_cons_of_mem _ h
  have ht : ∀ w ∈ zt, w.before [.ref m_a].toArray s = true := fun w h => S.2.2.2.2 w (hT w h)
  have hl : lv_has ls 1 [(0, .ref m_a)] := hl
  have hS : va_S A s.heap s.heap [] := va_S.rf
  unfold F_X12_trace at hF
  refine lv_aload_n hx hb dX12_trace_0 rfl (lv_at hl 0 rfl) ?_
  refine va_get (D := D) (ci := 12) (v := .long m_trail) (C := RX12) (T := TX12) (N := 23) hx hb ht iyX12 hown hK hP 0 rfl rfl 15 (by decide) (ht _ wf_X12_174) (fun _ h9 => h9) rfl dX12_trace_1 ?_
  have e_0 := zo1 hF
  subst e_0
  exact zret_l S hr hlocks hK hP hD hS dX12_trace_4
