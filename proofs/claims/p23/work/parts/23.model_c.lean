theorem lk_X12_98 : zLk RX12 98 yX12_readYard cX12_readYard 1 none 0 := ⟨⟨wm_X12_98, wo_X12_readYard, we_X12_X12_readYard, wi_X12, wd_X12_readYard⟩, by decide, by decide, by decide +kernel⟩
def L_X12_yard_34 : Nat → (Nat → Int32) → Int32 → Option ((Nat → Int32) × Int32)
  | 0 => fun _ _ => none
  | n + 1 => fun m_st v1 => (if 22 ≤ v1 then some (m_st, v1) else (if (v1 < 0 ∨ 22 ≤ v1.toNatClampNeg) then none else (L_X12_yard_34 n (upd m_st v1.toNatClampNeg 0) (v1 + 1))))
theorem L_X12_yard_34_z (m_st : Nat → Int32) (v1 : Int32) : L_X12_yard_34 0 m_st v1 = none := rfl
theorem L_X12_yard_34_s (n : Nat) (m_st : Nat → Int32) (v1 : Int32) : L_X12_yard_34 (n + 1) m_st v1 = (if 22 ≤ v1 then some (m_st, v1) else (if (v1 < 0 ∨ 22 ≤ v1.toNatClampNeg) then none else (L_X12_yard_34 n (upd m_st v1.toNatClampNeg 0) (v1 + 1)))) := rfl
def L_X12_yard_89 (m_jumpers : Int32) (m_readOne : Nat → Int32) : Nat → (Nat → Int32) → (Nat → Int32) → (Nat → Int32) → Int32 → Option ((Nat → Int32) × (Nat → Int32) × (Nat → Int32) × Int32)
  | 0 => fun _ _ _ _ => none
  | n + 1 => fun m_period m_hang m_st v1 => (if m_jumpers ≤ v1 then some (m_period, m_hang, m_st, v1) else (if ((4 * v1) < 0 ∨ 24 ≤ (4 * v1).toNatClampNeg) then none else (if (v1 < 0 ∨ 6 ≤ v1.toNatClampNeg) then none else (if (((4 * v1) + 1) < 0 ∨ 24 ≤ ((4 * v1) + 1).toNatClampNeg) then none else (if (((4 * v1) + 2) < 0 ∨ 24 ≤ ((4 * v1) + 2).toNatClampNeg) then none else (if ((10 + v1) < 0 ∨ 22 ≤ (10 + v1).toNatClampNeg) then none else (if (((4 * v1) + 3) < 0 ∨ 24 ≤ ((4 * v1) + 3).toNatClampNeg) then none else (if ((16 + v1) < 0 ∨ 22 ≤ (16 + v1).toNatClampNeg) then none else (L_X12_yard_89 m_jumpers m_readOne n (upd m_period v1.toNatClampNeg (m_readOne (4 * v1).toNatClampNeg)) (upd m_hang v1.toNatClampNeg (m_readOne ((4 * v1) + 1).toNatClampNeg)) (upd (upd m_st (10 + v1).toNatClampNeg (m_readOne ((4 * v1) + 2).toNatClampNeg)) (16 + v1).toNatClampNeg (m_readOne ((4 * v1) + 3).toNatClampNeg)) (v1 + 1))))))))))
theorem L_X12_yard_89_z (m_jumpers : Int32) (m_readOne : Nat → Int32) (m_period : Nat → Int32) (m_hang : Nat → Int32) (m_st : Nat → Int32) (v1 : Int32) : L_X12_yard_89 m_jumpers m_readOne 0 m_period m_hang m_st v1 = none := rfl
theorem L_X12_yard_89_s (m_jumpers : Int32) (m_readOne : Nat → Int32) (n : Nat) (m_period : Nat → Int32) (m_hang : Nat → Int32) (m_st : Nat → Int32) (v1 : Int32) : L_X12_yard_89 m_jumpers m_readOne (n + 1) m_period m_hang m_st v1 = (if m_jumpers ≤ v1 then some (m_period, m_hang, m_st, v1) else (if ((4 * v1) < 0 ∨ 24 ≤ (4 * v1).toNatClampNeg) then none else (if (v1 < 0 ∨ 6 ≤ v1.toNatClampNeg) then none else (if (((4 * v1) + 1) < 0 ∨ 24 ≤ ((4 * v1) + 1).toNatClampNeg) then none else (if (((4 * v1) + 2) < 0 ∨ 24 ≤ ((4 * v1) + 2).toNatClampNeg) then none else (if ((10 + v1) < 0 ∨ 22 ≤ (10 + v1).toNatClampNeg) then none else (if (((4 * v1) + 3) < 0 ∨ 24 ≤ ((4 * v1) + 3).toNatClampNeg) then none else (if ((16 + v1) < 0 ∨ 22 ≤ (16 + v1).toNatClampNeg) then none else (L_X12_yard_89 m_jumpers m_readOne n (upd m_period v1.toNatClampNeg (m_readOne (4 * v1).toNatClampNeg)) (upd m_hang v1.toNatClampNeg (m_readOne ((4 * v1) + 1).toNatClampNeg)) (upd (upd m_st (10 + v1).toNatClampNeg (m_readOne ((4 * v1) + 2).toNatClampNeg)) (16 + v1).toNatClampNeg (m_readOne ((4 * v1) + 3).toNatClampNeg)) (v1 + 1)))))))))) := rfl
def F_X12_yard (m_length : Int32) (m_jumpers : Int32) (m_undos : Int32) (m_seen : Int32) (m_letters : Nat → Int32) (m_period : Nat → Int32) (m_hang : Nat → Int32) (m_st : Nat → Int32) (m_isKept : Nat → Int32) (m_readOne : Nat → Int32) : Option (Int32 × Int32 × Int32 × Int32 × Int32 × Int32 × Int32 × Int32 × Int32 × Int32 × Int32 × (Nat → Int32) × (Nat → Int32) × (Nat → Int32) × (Nat → Int32) × (Nat → Int32)) :=
  (zb7 (F_X12_readYard m_length m_letters m_readOne) (fun m_place_1 m_wrong_2 m_items_3 m_saidEvery_4 m_readEvery_5 m_readJumpers_6 m_readOne_7 => (if m_wrong_2 < 0 then (zb2 (L_X12_yard_34 300 m_st 0) (fun m_st_14 v1_15 => (zb4 (L_X12_yard_89 m_readJumpers_6 m_readOne_7 300 m_period m_hang (upd (upd (upd m_st_14 (1 : Int32).toNatClampNeg m_readEvery_5) (2 : Int32).toNatClampNeg m_readEvery_5) (3 : Int32).toNatClampNeg (((1 : Int32) <<< (m_readJumpers_6 &&& 31)) - 1)) 0) (fun m_period_33 m_hang_34 m_st_35 v1_36 => some (m_items_3, 0, m_readJumpers_6, 0, 0, m_place_1, m_wrong_2, m_items_3, m_saidEvery_4, m_readEvery_5, m_readJumpers_6, m_period_33, m_hang_34, m_st_35, upd (upd m_isKept (0 : Int32).toNatClampNeg (vp_nar .boolean 0)) (1 : Int32).toNatClampNeg (vp_nar .boolean 0), m_readOne_7))))) else some ((-10) - m_wrong_2, m_length, m_jumpers, m_undos, m_seen, m_place_1, m_wrong_2, m_items_3, m_saidEvery_4, m_readEvery_5, m_readJumpers_6, m_period, m_hang, m_st, m_isKept, m_readOne_7))))
set_option maxHeartbeats 4000000 in
set_option maxRecDepth 100000 in
theorem c_X12_yard (l : Launch) (D : va_G) (cI cZ cS cJ : ClassId) (m_a : Nat) (m_a_letters : Nat) (m_a_period : Nat) (m_a_hang : Nat) (m_a_st : Nat) (m_a_now : Nat) (m_a_book : Nat) (m_a_images : Nat) (m_a_isKept : Nat) (m_a_seenHang : Nat) (m_a_seenTick : Nat) (m_a_seenUp : Nat) (m_a_readOne : Nat) (m_length : Int32) (m_jumpers : Int32) (m_undos : Int32) (m_seen : Int32) (m_trail : Int64) (m_place : Int32) (m_wrong : Int32) (m_items : Int32) (m_saidEvery : Int32) (m_readEvery : Int32) (m_readJumpers : Int32) (m_letters : Nat → Int32) (m_period : Nat → Int32) (m_hang : Nat → Int32) (m_st : Nat → Int32) (m_isKept : Nat → Int32) (m_readOne : Nat → Int32) {r_o : Int32} {m_length_o : Int32} {m_jumpers_o : Int32} {m_undos_o : Int32} {m_seen_o : Int32} {m_place_o : Int32} {m_wrong_o : Int32} {m_items_o : Int32} {m_saidEvery_o : Int32} {m_readEvery_o : Int32} {m_readJumpers_o : Int32} {m_period_o : Nat → Int32} {m_hang_o : Nat → Int32} {m_st_o : Nat → Int32} {m_isKept_o : Nat → Int32} {m_readOne_o : Nat → Int32} (hF : F_X12_yard m_length m_jumpers m_undos m_seen m_letters m_period m_hang m_st m_isKept m_readOne = some (r_o, m_length_o, m_jumpers_o, m_undos_o, m_seen_o, m_place_o, m_wrong_o, m_items_o, m_saidEvery_o, m_readEvery_o, m_readJumpers_o, m_period_o, m_hang_o, m_st_o, m_isKept_o, m_readOne_o)) : zMi l yX12_yard (zwl yX12_yard cX12_yard 2 (some .int)) { frames := 5, cells := 0, slots := 0, locals := 108 } D (TYS cI cZ cS cJ) [.ref m_a] [(m_a, .inr (12, [.ref m_a_letters, .int m_length, .int m_jumpers, .ref m_a_period, .ref m_a_hang, .ref m_a_st, .ref m_a_now, .ref m_a_book, .int m_undos, .ref m_a_images, .ref m_a_isKept, .int m_seen, .ref m_a_seenHang, .ref m_a_seenTick, .ref m_a_seenUp, .long m_trail, .int m_place, .int m_wrong, .int m_items, .int m_saidEvery, .int m_readEvery, .int m_readJumpers, .ref m_a_readOne])), (m_a_letters, .inl (cI, 120, .inl m_letters)), (m_a_period, .inl (cI, 6, .inl m_period)), (m_a_hang, .inl (cI, 6, .inl m_hang)), (m_a_st, .inl (cI, 22, .inl m_st)), (m_a_isKept, .inl (cZ, 2, .inl m_isKept)), (m_a_readOne, .inl (cI, 24, .inl m_readOne))] [(m_a, .inr (12, [.ref m_a_letters, .int m_length_o, .int m_jumpers_o, .ref m_a_period, .ref m_a_hang, .ref m_a_st, .ref m_a_now, .ref m_a_book, .int m_undos_o, .ref m_a_images, .ref m_a_isKept, .int m_seen_o, .ref m_a_seenHang, .ref m_a_seenTick, .ref m_a_seenUp, .long m_trail, .int m_place_o, .int m_wrong_o, .int m_items_o, .int m_saidEvery_o, .int m_readEvery_o, .int m_readJumpers_o, .ref m_a_readOne])), (m_a_letters, .inl (cI, 120, .inl m_letters)), (m_a_period, .inl (cI, 6, .inl m_period_o)), (m_a_hang, .inl (cI, 6, .inl m_hang_o)), (m_a_st, .inl (cI, 22, .inl m_st_o)), (m_a_isKept, .inl (cZ, 2, .inl m_isKept_o)), (m_a_readOne, .inl (cI, 24, .inl m_readOne_o))] r_o := by
  refine zent_i (own := RX12) (by decide) rfl (Nat.le_of_ble_eq_true rfl) ?_
  intro p e s m below meth c A ls S hr hlocks hK hP hD hA hl
  have hx := S.1
  have hb := S.2.1
  have hml := S.2.2.1
  have hown := S.2.2.2.1
  have hT : ∀ w ∈ zt, w ∈ zwl yX12_yard cX12_yard 2 (some .int) := fun _ h => List.mem_cons_of_mem _ h
  have ht : ∀ w ∈ zt, w.before [.ref m_a].toArray s = true := fun w h => S.2.2.2.2 w (hT w h)
  have hl : lv_has ls 2 [(0, .ref m_a)] := hl
  have hS : va_S A s.heap s.heap [] := va_S.rf
  unfold F_X12_yard at hF
  have hloop_34 : ∀ (n : Nat) (m_length : Int32) (m_jumpers : Int32) (m_undos : Int32) (m_seen : Int32) (m_trail : Int64) (m_place : Int32) (m_wrong : Int32) (m_items : Int32) (m_saidEvery : Int32) (m_readEvery : Int32) (m_readJumpers : Int32) (m_letters : Nat → Int32) (m_period : Nat → Int32) (m_hang : Nat → Int32) (m_st : Nat → Int32) (m_isKept : Nat → Int32) (m_readOne : Nat → Int32) (v1 : Int32) (m_st' : Nat → Int32) (v1' : Int32), L_X12_yard_34 n m_st v1 = some (m_st', v1') → ∀ (H : Heap) (locs : List Loc) (ls : Array Slot), va_P D classes [(m_a, .inr (12, [.ref m_a_letters, .int m_length, .int m_jumpers, .ref m_a_period, .ref m_a_hang, .ref m_a_st, .ref m_a_now, .ref m_a_book, .int m_undos, .ref m_a_images, .ref m_a_isKept, .int m_seen, .ref m_a_seenHang, .ref m_a_seenTick, .ref m_a_seenUp, .long m_trail, .int m_place, .int m_wrong, .int m_items, .int m_saidEvery, .int m_readEvery, .int m_readJumpers, .ref m_a_readOne])), (m_a_letters, .inl (cI, 120, .inl m_letters)), (m_a_period, .inl (cI, 6, .inl m_period)), (m_a_hang, .inl (cI, 6, .inl m_hang)), (m_a_st, .inl (cI, 22, .inl m_st)), (m_a_isKept, .inl (cZ, 2, .inl m_isKept)), (m_a_readOne, .inl (cI, 24, .inl m_readOne))] H → va_D A [(m_a, .inr (12, [.ref m_a_letters, .int m_length, .int m_jumpers, .ref m_a_period, .ref m_a_hang, .ref m_a_st, .ref m_a_now, .ref m_a_book, .int m_undos, .ref m_a_images, .ref m_a_isKept, .int m_seen, .ref m_a_seenHang, .ref m_a_seenTick, .ref m_a_seenUp, .long m_trail, .int m_place, .int m_wrong, .int m_items, .int m_saidEvery, .int m_readEvery, .int m_readJumpers, .ref m_a_readOne])), (m_a_letters, .inl (cI, 120, .inl m_letters)), (m_a_period, .inl (cI, 6, .inl m_period)), (m_a_hang, .inl (cI, 6, .inl m_hang)), (m_a_st, .inl (cI, 22, .inl m_st)), (m_a_isKept, .inl (cZ, 2, .inl m_isKept)), (m_a_readOne, .inl (cI, 24, .inl m_readOne))] → va_S A s.heap H locs → lv_has ls 2 [(0, .ref m_a), (1, .int v1)] → (∀ (H : Heap) (locs : List Loc) (ls : Array Slot), va_P D classes [(m_a, .inr (12, [.ref m_a_letters, .int m_length, .int m_jumpers, .ref m_a_period, .ref m_a_hang, .ref m_a_st, .ref m_a_now, .ref m_a_book, .int m_undos, .ref m_a_images, .ref m_a_isKept, .int m_seen, .ref m_a_seenHang, .ref m_a_seenTick, .ref m_a_seenUp, .long m_trail, .int m_place, .int m_wrong, .int m_items, .int m_saidEvery, .int m_readEvery, .int m_readJumpers, .ref m_a_readOne])), (m_a_letters, .inl (cI, 120, .inl m_letters)), (m_a_period, .inl (cI, 6, .inl m_period)), (m_a_hang, .inl (cI, 6, .inl m_hang)), (m_a_st, .inl (cI, 22, .inl m_st')), (m_a_isKept, .inl (cZ, 2, .inl m_isKept)), (m_a_readOne, .inl (cI, 24, .inl m_readOne))] H → va_D A [(m_a, .inr (12, [.ref m_a_letters, .int m_length, .int m_jumpers, .ref m_a_period, .ref m_a_hang, .ref m_a_st, .ref m_a_now, .ref m_a_book, .int m_undos, .ref m_a_images, .ref m_a_isKept, .int m_seen, .ref m_a_seenHang, .ref m_a_seenTick, .ref m_a_seenUp, .long m_trail, .int m_place, .int m_wrong, .int m_items, .int m_saidEvery, .int m_readEvery, .int m_readJumpers, .ref m_a_readOne])), (m_a_letters, .inl (cI, 120, .inl m_letters)), (m_a_period, .inl (cI, 6, .inl m_period)), (m_a_hang, .inl (cI, 6, .inl m_hang)), (m_a_st, .inl (cI, 22, .inl m_st')), (m_a_isKept, .inl (cZ, 2, .inl m_isKept)), (m_a_readOne, .inl (cI, 24, .inl m_readOne))] → va_S A s.heap H locs → lv_has ls 2 [(0, .ref m_a), (1, .int v1')] → W p l e { frames := 5, cells := 0, slots := 0, locals := 108 } s m [.ref m_a].toArray below meth c H locs 0 0 (zFi below [.ref m_a] s A D (TYS cI cZ cS cJ) [(m_a, .inr (12, [.ref m_a_letters, .int m_length_o, .int m_jumpers_o, .ref m_a_period, .ref m_a_hang, .ref m_a_st, .ref m_a_now, .ref m_a_book, .int m_undos_o, .ref m_a_images, .ref m_a_isKept, .int m_seen_o, .ref m_a_seenHang, .ref m_a_seenTick, .ref m_a_seenUp, .long m_trail, .int m_place_o, .int m_wrong_o, .int m_items_o, .int m_saidEvery_o, .int m_readEvery_o, .int m_readJumpers_o, .ref m_a_readOne])), (m_a_letters, .inl (cI, 120, .inl m_letters)), (m_a_period, .inl (cI, 6, .inl m_period_o)), (m_a_hang, .inl (cI, 6, .inl m_hang_o)), (m_a_st, .inl (cI, 22, .inl m_st_o)), (m_a_isKept, .inl (cZ, 2, .inl m_isKept_o)), (m_a_readOne, .inl (cI, 24, .inl m_readOne_o))] r_o) (F0 m 53 ls [])) → W p l e { frames := 5, cells := 0, slots := 0, locals := 108 } s m [.ref m_a].toArray below meth c H locs 0 0 (zFi below [.ref m_a] s A D (TYS cI cZ cS cJ) [(m_a, .inr (12, [.ref m_a_letters, .int m_length_o, .int m_jumpers_o, .ref m_a_period, .ref m_a_hang, .ref m_a_st, .ref m_a_now, .ref m_a_book, .int m_undos_o, .ref m_a_images, .ref m_a_isKept, .int m_seen_o, .ref m_a_seenHang, .ref m_a_seenTick, .ref m_a_seenUp, .long m_trail, .int m_place_o, .int m_wrong_o, .int m_items_o, .int m_saidEvery_o, .int m_readEvery_o, .int m_readJumpers_o, .ref m_a_readOne])), (m_a_letters, .inl (cI, 120, .inl m_letters)), (m_a_period, .inl (cI, 6, .inl m_period_o)), (m_a_hang, .inl (cI, 6, .inl m_hang_o)), (m_a_st, .inl (cI, 22, .inl m_st_o)), (m_a_isKept, .inl (cZ, 2, .inl m_isKept_o)), (m_a_readOne, .inl (cI, 24, .inl m_readOne_o))] r_o) (F0 m 34 ls []) := by
    intro n
    induction n with
    | zero =>
      intro m_length m_jumpers m_undos m_seen m_trail m_place m_wrong m_items m_saidEvery m_readEvery m_readJumpers m_letters m_period m_hang m_st m_isKept m_readOne v1 m_st' v1' hF
      rw [L_X12_yard_34_z] at hF
      cases hF
    | succ n ih_34 =>
      intro m_length m_jumpers m_undos m_seen m_trail m_place m_wrong m_items m_saidEvery m_readEvery m_readJumpers m_letters m_period m_hang m_st m_isKept m_readOne v1 m_st' v1' hF H locs ls hP hD hS hl hexit_34
      rw [L_X12_yard_34_s] at hF
      refine lv_iload_n hx hb dX12_yard_34 rfl (lv_at hl 1 rfl) ?_
      refine lv_bipush (v := 22) hx hb dX12_yard_35 (by decide) ?_
      refine lv_icmp_ge (tgt := 53) hx hb dX12_yard_37 (by decide) (fun c_12 => ?_) (fun c_12 => ?_)
      · have hF := zi_pos c_12 hF
        obtain ⟨e_0, e_1⟩ := zo2 hF
        subst e_0
        subst e_1
        exact hexit_34 _ _ _ hP hD hS (lv_sub hl [0, 1] rfl)
      · have hF := zi_neg c_12 hF
        refine lv_aload_n hx hb dX12_yard_40 rfl (lv_at hl 0 rfl) ?_
        refine va_get (D := D) (ci := 12) (v := .ref m_a_st) (C := RX12) (T := TX12) (N := 23) hx hb ht iyX12 hown hK hP 0 rfl rfl 5 (by decide) (ht _ wf_X12_19) (fun _ h9 => h9) rfl dX12_yard_41 ?_
        refine lv_iload_n hx hb dX12_yard_44 rfl (lv_at hl 1 rfl) ?_
        refine lv_iconst (v := 0) hx hb dX12_yard_45 (by decide) ?_
        obtain ⟨h_13, hF⟩ := zi_chk hF
        refine va_iast hx hb hK hP hD hS 4 0 rfl rfl h_13 dX12_yard_46 (fun H locs hP hD hS => ?_)
        have hP : va_P D classes [(m_a, .inr (12, [.ref m_a_letters, .int m_length, .int m_jumpers, .ref m_a_period, .ref m_a_hang, .ref m_a_st, .ref m_a_now, .ref m_a_book, .int m_undos, .ref m_a_images, .ref m_a_isKept, .int m_seen, .ref m_a_seenHang, .ref m_a_seenTick, .ref m_a_seenUp, .long m_trail, .int m_place, .int m_wrong, .int m_items, .int m_saidEvery, .int m_readEvery, .int m_readJumpers, .ref m_a_readOne])), (m_a_letters, .inl (cI, 120, .inl m_letters)), (m_a_period, .inl (cI, 6, .inl m_period)), (m_a_hang, .inl (cI, 6, .inl m_hang)), (m_a_st, .inl (cI, 22, .inl (upd m_st v1.toNatClampNeg 0))), (m_a_isKept, .inl (cZ, 2, .inl m_isKept)), (m_a_readOne, .inl (cI, 24, .inl m_readOne))] H := hP
        have hD : va_D A [(m_a, .inr (12, [.ref m_a_letters, .int m_length, .int m_jumpers, .ref m_a_period, .ref m_a_hang, .ref m_a_st, .ref m_a_now, .ref m_a_book, .int m_undos, .ref m_a_images, .ref m_a_isKept, .int m_seen, .ref m_a_seenHang, .ref m_a_seenTick, .ref m_a_seenUp, .long m_trail, .int m_place, .int m_wrong, .int m_items, .int m_saidEvery, .int m_readEvery, .int m_readJumpers, .ref m_a_readOne])), (m_a_letters, .inl (cI, 120, .inl m_letters)), (m_a_period, .inl (cI, 6, .inl m_period)), (m_a_hang, .inl (cI, 6, .inl m_hang)), (m_a_st, .inl (cI, 22, .inl (upd m_st v1.toNatClampNeg 0))), (m_a_isKept, .inl (cZ, 2, .inl m_isKept)), (m_a_readOne, .inl (cI, 24, .inl m_readOne))] := hD
        refine lv_iinc (v := v1 + 1) (lv' := [(1, .int (v1 + 1)), (0, .ref m_a)]) hx hb dX12_yard_47 hl (k := 1) rfl (by rfl) (by decide) rfl (fun ls hl => ?_)
        refine lv_goto (tgt := 34) hx hb dX12_yard_50 (by decide) ?_
        exact ih_34 m_length m_jumpers m_undos m_seen m_trail m_place m_wrong m_items m_saidEvery m_readEvery m_readJumpers m_letters m_period m_hang (upd m_st v1.toNatClampNeg 0) m_isKept m_readOne (v1 + 1) _ _ hF _ _ _ hP hD hS (lv_sub hl [1, 0] rfl) hexit_34
  have hloop_89 : ∀ (n : Nat) (m_length : Int32) (m_jumpers : Int32) (m_undos : Int32) (m_seen : Int32) (m_trail : Int64) (m_place : Int32) (m_wrong : Int32) (m_items : Int32) (m_saidEvery : Int32) (m_readEvery : Int32) (m_readJumpers : Int32) (m_letters : Nat → Int32) (m_period : Nat → Int32) (m_hang : Nat → Int32) (m_st : Nat → Int32) (m_isKept : Nat → Int32) (m_readOne : Nat → Int32) (v1 : Int32) (m_period' : Nat → Int32) (m_hang' : Nat → Int32) (m_st' : Nat → Int32) (v1' : Int32), L_X12_yard_89 m_jumpers m_readOne n m_period m_hang m_st v1 = some (m_period', m_hang', m_st', v1') → ∀ (H : Heap) (locs : List Loc) (ls : Array Slot), va_P D classes [(m_a, .inr (12, [.ref m_a_letters, .int m_length, .int m_jumpers, .ref m_a_period, .ref m_a_hang, .ref m_a_st, .ref m_a_now, .ref m_a_book, .int m_undos, .ref m_a_images, .ref m_a_isKept, .int m_seen, .ref m_a_seenHang, .ref m_a_seenTick, .ref m_a_seenUp, .long m_trail, .int m_place, .int m_wrong, .int m_items, .int m_saidEvery, .int m_readEvery, .int m_readJumpers, .ref m_a_readOne])), (m_a_letters, .inl (cI, 120, .inl m_letters)), (m_a_period, .inl (cI, 6, .inl m_period)), (m_a_hang, .inl (cI, 6, .inl m_hang)), (m_a_st, .inl (cI, 22, .inl m_st)), (m_a_isKept, .inl (cZ, 2, .inl m_isKept)), (m_a_readOne, .inl (cI, 24, .inl m_readOne))] H → va_D A [(m_a, .inr (12, [.ref m_a_letters, .int m_length, .int m_jumpers, .ref m_a_period, .ref m_a_hang, .ref m_a_st, .ref m_a_now, .ref m_a_book, .int m_undos, .ref m_a_images, .ref m_a_isKept, .int m_seen, .ref m_a_seenHang, .ref m_a_seenTick, .ref m_a_seenUp, .long m_trail, .int m_place, .int m_wrong, .int m_items, .int m_saidEvery, .int m_readEvery, .int m_readJumpers, .ref m_a_readOne])), (m_a_letters, .inl (cI, 120, .inl m_letters)), (m_a_period, .inl (cI, 6, .inl m_period)), (m_a_hang, .inl (cI, 6, .inl m_hang)), (m_a_st, .inl (cI, 22, .inl m_st)), (m_a_isKept, .inl (cZ, 2, .inl m_isKept)), (m_a_readOne, .inl (cI, 24, .inl m_readOne))] → va_S A s.heap H locs → lv_has ls 2 [(0, .ref m_a), (1, .int v1)] → (∀ (H : Heap) (locs : List Loc) (ls : Array Slot), va_P D classes [(m_a, .inr (12, [.ref m_a_letters, .int m_length, .int m_jumpers, .ref m_a_period, .ref m_a_hang, .ref m_a_st, .ref m_a_now, .ref m_a_book, .int m_undos, .ref m_a_images, .ref m_a_isKept, .int m_seen, .ref m_a_seenHang, .ref m_a_seenTick, .ref m_a_seenUp, .long m_trail, .int m_place, .int m_wrong, .int m_items, .int m_saidEvery, .int m_readEvery, .int m_readJumpers, .ref m_a_readOne])), (m_a_letters, .inl (cI, 120, .inl m_letters)), (m_a_period, .inl (cI, 6, .inl m_period')), (m_a_hang, .inl (cI, 6, .inl m_hang')), (m_a_st, .inl (cI, 22, .inl m_st')), (m_a_isKept, .inl (cZ, 2, .inl m_isKept)), (m_a_readOne, .inl (cI, 24, .inl m_readOne))] H → va_D A [(m_a, .inr (12, [.ref m_a_letters, .int m_length, .int m_jumpers, .ref m_a_period, .ref m_a_hang, .ref m_a_st, .ref m_a_now, .ref m_a_book, .int m_undos, .ref m_a_images, .ref m_a_isKept, .int m_seen, .ref m_a_seenHang, .ref m_a_seenTick, .ref m_a_seenUp, .long m_trail, .int m_place, .int m_wrong, .int m_items, .int m_saidEvery, .int m_readEvery, .int m_readJumpers, .ref m_a_readOne])), (m_a_letters, .inl (cI, 120, .inl m_letters)), (m_a_period, .inl (cI, 6, .inl m_period')), (m_a_hang, .inl (cI, 6, .inl m_hang')), (m_a_st, .inl (cI, 22, .inl m_st')), (m_a_isKept, .inl (cZ, 2, .inl m_isKept)), (m_a_readOne, .inl (cI, 24, .inl m_readOne))] → va_S A s.heap H locs → lv_has ls 2 [(0, .ref m_a), (1, .int v1')] → W p l e { frames := 5, cells := 0, slots := 0, locals := 108 } s m [.ref m_a].toArray below meth c H locs 0 0 (zFi below [.ref m_a] s A D (TYS cI cZ cS cJ) [(m_a, .inr (12, [.ref m_a_letters, .int m_length_o, .int m_jumpers_o, .ref m_a_period, .ref m_a_hang, .ref m_a_st, .ref m_a_now, .ref m_a_book, .int m_undos_o, .ref m_a_images, .ref m_a_isKept, .int m_seen_o, .ref m_a_seenHang, .ref m_a_seenTick, .ref m_a_seenUp, .long m_trail, .int m_place_o, .int m_wrong_o, .int m_items_o, .int m_saidEvery_o, .int m_readEvery_o, .int m_readJumpers_o, .ref m_a_readOne])), (m_a_letters, .inl (cI, 120, .inl m_letters)), (m_a_period, .inl (cI, 6, .inl m_period_o)), (m_a_hang, .inl (cI, 6, .inl m_hang_o)), (m_a_st, .inl (cI, 22, .inl m_st_o)), (m_a_isKept, .inl (cZ, 2, .inl m_isKept_o)), (m_a_readOne, .inl (cI, 24, .inl m_readOne_o))] r_o) (F0 m 171 ls [])) → W p l e { frames := 5, cells := 0, slots := 0, locals := 108 } s m [.ref m_a].toArray below meth c H locs 0 0 (zFi below [.ref m_a] s A D (TYS cI cZ cS cJ) [(m_a, .inr (12, [.ref m_a_letters, .int m_length_o, .int m_jumpers_o, .ref m_a_period, .ref m_a_hang, .ref m_a_st, .ref m_a_now, .ref m_a_book, .int m_undos_o, .ref m_a_images, .ref m_a_isKept, .int m_seen_o, .ref m_a_seenHang, .ref m_a_seenTick, .ref m_a_seenUp, .long m_trail, .int m_place_o, .int m_wrong_o, .int m_items_o, .int m_saidEvery_o, .int m_readEvery_o, .int m_readJumpers_o, .ref m_a_readOne])), (m_a_letters, .inl (cI, 120, .inl m_letters)), (m_a_period, .inl (cI, 6, .inl m_period_o)), (m_a_hang, .inl (cI, 6, .inl m_hang_o)), (m_a_st, .inl (cI, 22, .inl m_st_o)), (m_a_isKept, .inl (cZ, 2, .inl m_isKept_o)), (m_a_readOne, .inl (cI, 24, .inl m_readOne_o))] r_o) (F0 m 89 ls []) := by
    intro n
    induction n with
    | zero =>
      intro m_length m_jumpers m_undos m_seen m_trail m_place m_wrong m_items m_saidEvery m_readEvery m_readJumpers m_letters m_period m_hang m_st m_isKept m_readOne v1 m_period' m_hang' m_st' v1' hF
      rw [L_X12_yard_89_z] at hF
      cases hF
    | succ n ih_89 =>
      intro m_length m_jumpers m_undos m_seen m_trail m_place m_wrong m_items m_saidEvery m_readEvery m_readJumpers m_letters m_period m_hang m_st m_isKept m_readOne v1 m_period' m_hang' m_st' v1' hF H locs ls hP hD hS hl hexit_89
      rw [L_X12_yard_89_s] at hF
      refine lv_iload_n hx hb dX12_yard_89 rfl (lv_at hl 1 rfl) ?_
      refine lv_aload_n hx hb dX12_yard_90 rfl (lv_at hl 0 rfl) ?_
      refine va_get (D := D) (ci := 12) (v := .int m_jumpers) (C := RX12) (T := TX12) (N := 23) hx hb ht iyX12 hown hK hP 0 rfl rfl 2 (by decide) (ht _ wf_X12_47) (fun _ h9 => h9) rfl dX12_yard_91 ?_
      refine lv_icmp_ge (tgt := 171) hx hb dX12_yard_94 (by decide) (fun c_25 => ?_) (fun c_25 => ?_)
      · have hF := zi_pos c_25 hF
        obtain ⟨e_0, e_1, e_2, e_3⟩ := zo4 hF
        subst e_0
        subst e_1
        subst e_2
        subst e_3
        exact hexit_89 _ _ _ hP hD hS (lv_sub hl [0, 1] rfl)
      · have hF := zi_neg c_25 hF
        refine lv_aload_n hx hb dX12_yard_97 rfl (lv_at hl 0 rfl) ?_
        refine va_get (D := D) (ci := 12) (v := .ref m_a_period) (C := RX12) (T := TX12) (N := 23) hx hb ht iyX12 hown hK hP 0 rfl rfl 3 (by decide) (ht _ wf_X12_13) (fun _ h9 => h9) rfl dX12_yard_98 ?_
        refine lv_iload_n hx hb dX12_yard_101 rfl (lv_at hl 1 rfl) ?_
        refine lv_aload_n hx hb dX12_yard_102 rfl (lv_at hl 0 rfl) ?_
        refine va_get (D := D) (ci := 12) (v := .ref m_a_readOne) (C := RX12) (T := TX12) (N := 23) hx hb ht iyX12 hown hK hP 0 rfl rfl 22 (by decide) (ht _ wf_X12_44) (fun _ h9 => h9) rfl dX12_yard_103 ?_
        refine lv_iconst (v := 4) hx hb dX12_yard_106 (by decide) ?_
        refine lv_iload_n hx hb dX12_yard_107 rfl (lv_at hl 1 rfl) ?_
        refine lv_imul hx hb dX12_yard_108 ?_
        obtain ⟨h_26, hF⟩ := zi_chk hF
        refine va_iald hx hb hK hP 6 0 rfl rfl h_26 dX12_yard_109 ?_
        obtain ⟨h_27, hF⟩ := zi_chk hF
        refine va_iast hx hb hK hP hD hS 2 0 rfl rfl h_27 dX12_yard_110 (fun H locs hP hD hS => ?_)
        have hP : va_P D classes [(m_a, .inr (12, [.ref m_a_letters, .int m_length, .int m_jumpers, .ref m_a_period, .ref m_a_hang, .ref m_a_st, .ref m_a_now, .ref m_a_book, .int m_undos, .ref m_a_images, .ref m_a_isKept, .int m_seen, .ref m_a_seenHang, .ref m_a_seenTick, .ref m_a_seenUp, .long m_trail, .int m_place, .int m_wrong, .int m_items, .int m_saidEvery, .int m_readEvery, .int m_readJumpers, .ref m_a_readOne])), (m_a_letters, .inl (cI, 120, .inl m_letters)), (m_a_period, .inl (cI, 6, .inl (upd m_period v1.toNatClampNeg (m_readOne (4 * v1).toNatClampNeg)))), (m_a_hang, .inl (cI, 6, .inl m_hang)), (m_a_st, .inl (cI, 22, .inl m_st)), (m_a_isKept, .inl (cZ, 2, .inl m_isKept)), (m_a_readOne, .inl (cI, 24, .inl m_readOne))] H := hP
        have hD : va_D A [(m_a, .inr (12, [.ref m_a_letters, .int m_length, .int m_jumpers, .ref m_a_period, .ref m_a_hang, .ref m_a_st, .ref m_a_now, .ref m_a_book, .int m_undos, .ref m_a_images, .ref m_a_isKept, .int m_seen, .ref m_a_seenHang, .ref m_a_seenTick, .ref m_a_seenUp, .long m_trail, .int m_place, .int m_wrong, .int m_items, .int m_saidEvery, .int m_readEvery, .int m_readJumpers, .ref m_a_readOne])), (m_a_letters, .inl (cI, 120, .inl m_letters)), (m_a_period, .inl (cI, 6, .inl (upd m_period v1.toNatClampNeg (m_readOne (4 * v1).toNatClampNeg)))), (m_a_hang, .inl (cI, 6, .inl m_hang)), (m_a_st, .inl (cI, 22, .inl m_st)), (m_a_isKept, .inl (cZ, 2, .inl m_isKept)), (m_a_readOne, .inl (cI, 24, .inl m_readOne))] := hD
        refine lv_aload_n hx hb dX12_yard_111 rfl (lv_at hl 0 rfl) ?_
        refine va_get (D := D) (ci := 12) (v := .ref m_a_hang) (C := RX12) (T := TX12) (N := 23) hx hb ht iyX12 hown hK hP 0 rfl rfl 4 (by decide) (ht _ wf_X12_16) (fun _ h9 => h9) rfl dX12_yard_112 ?_
        refine lv_iload_n hx hb dX12_yard_115 rfl (lv_at hl 1 rfl) ?_
        refine lv_aload_n hx hb dX12_yard_116 rfl (lv_at hl 0 rfl) ?_
        refine va_get (D := D) (ci := 12) (v := .ref m_a_readOne) (C := RX12) (T := TX12) (N := 23) hx hb ht iyX12 hown hK hP 0 rfl rfl 22 (by decide) (ht _ wf_X12_44) (fun _ h9 => h9) rfl dX12_yard_117 ?_
        refine lv_iconst (v := 4) hx hb dX12_yard_120 (by decide) ?_
        refine lv_iload_n hx hb dX12_yard_121 rfl (lv_at hl 1 rfl) ?_
        refine lv_imul hx hb dX12_yard_122 ?_
        refine lv_iconst (v := 1) hx hb dX12_yard_123 (by decide) ?_
        refine lv_iadd hx hb dX12_yard_124 ?_
        obtain ⟨h_28, hF⟩ := zi_chk hF
        refine va_iald hx hb hK hP 6 0 rfl rfl h_28 dX12_yard_125 ?_
        refine va_iast hx hb hK hP hD hS 3 0 rfl rfl h_27 dX12_yard_126 (fun H locs hP hD hS => ?_)
        have hP : va_P D classes [(m_a, .inr (12, [.ref m_a_letters, .int m_length, .int m_jumpers, .ref m_a_period, .ref m_a_hang, .ref m_a_st, .ref m_a_now, .ref m_a_book, .int m_undos, .ref m_a_images, .ref m_a_isKept, .int m_seen, .ref m_a_seenHang, .ref m_a_seenTick, .ref m_a_seenUp, .long m_trail, .int m_place, .int m_wrong, .int m_items, .int m_saidEvery, .int m_readEvery, .int m_readJumpers, .ref m_a_readOne])), (m_a_letters, .inl (cI, 120, .inl m_letters)), (m_a_period, .inl (cI, 6, .inl (upd m_period v1.toNatClampNeg (m_readOne (4 * v1).toNatClampNeg)))), (m_a_hang, .inl (cI, 6, .inl (upd m_hang v1.toNatClampNeg (m_readOne ((4 * v1) + 1).toNatClampNeg)))), (m_a_st, .inl (cI, 22, .inl m_st)), (m_a_isKept, .inl (cZ, 2, .inl m_isKept)), (m_a_readOne, .inl (cI, 24, .inl m_readOne))] H := hP
        have hD : va_D A [(m_a, .inr (12, [.ref m_a_letters, .int m_length, .int m_jumpers, .ref m_a_period, .ref m_a_hang, .ref m_a_st, .ref m_a_now, .ref m_a_book, .int m_undos, .ref m_a_images, .ref m_a_isKept, .int m_seen, .ref m_a_seenHang, .ref m_a_seenTick, .ref m_a_seenUp, .long m_trail, .int m_place, .int m_wrong, .int m_items, .int m_saidEvery, .int m_readEvery, .int m_readJumpers, .ref m_a_readOne])), (m_a_letters, .inl (cI, 120, .inl m_letters)), (m_a_period, .inl (cI, 6, .inl (upd m_period v1.toNatClampNeg (m_readOne (4 * v1).toNatClampNeg)))), (m_a_hang, .inl (cI, 6, .inl (upd m_hang v1.toNatClampNeg (m_readOne ((4 * v1) + 1).toNatClampNeg)))), (m_a_st, .inl (cI, 22, .inl m_st)), (m_a_isKept, .inl (cZ, 2, .inl m_isKept)), (m_a_readOne, .inl (cI, 24, .inl m_readOne))] := hD
        refine lv_aload_n hx hb dX12_yard_127 rfl (lv_at hl 0 rfl) ?_
        refine va_get (D := D) (ci := 12) (v := .ref m_a_st) (C := RX12) (T := TX12) (N := 23) hx hb ht iyX12 hown hK hP 0 rfl rfl 5 (by decide) (ht _ wf_X12_19) (fun _ h9 => h9) rfl dX12_yard_128 ?_
        refine lv_bipush (v := 10) hx hb dX12_yard_131 (by decide) ?_
        refine lv_iload_n hx hb dX12_yard_133 rfl (lv_at hl 1 rfl) ?_
        refine lv_iadd hx hb dX12_yard_134 ?_
        refine lv_aload_n hx hb dX12_yard_135 rfl (lv_at hl 0 rfl) ?_
        refine va_get (D := D) (ci := 12) (v := .ref m_a_readOne) (C := RX12) (T := TX12) (N := 23) hx hb ht iyX12 hown hK hP 0 rfl rfl 22 (by decide) (ht _ wf_X12_44) (fun _ h9 => h9) rfl dX12_yard_136 ?_
        refine lv_iconst (v := 4) hx hb dX12_yard_139 (by decide) ?_
        refine lv_iload_n hx hb dX12_yard_140 rfl (lv_at hl 1 rfl) ?_
        refine lv_imul hx hb dX12_yard_141 ?_
        refine lv_iconst (v := 2) hx hb dX12_yard_142 (by decide) ?_
        refine lv_iadd hx hb dX12_yard_143 ?_
        obtain ⟨h_29, hF⟩ := zi_chk hF
        refine va_iald hx hb hK hP 6 0 rfl rfl h_29 dX12_yard_144 ?_
        obtain ⟨h_30, hF⟩ := zi_chk hF
        refine va_iast hx hb hK hP hD hS 4 0 rfl rfl h_30 dX12_yard_145 (fun H locs hP hD hS => ?_)
        have hP : va_P D classes [(m_a, .inr (12, [.ref m_a_letters, .int m_length, .int m_jumpers, .ref m_a_period, .ref m_a_hang, .ref m_a_st, .ref m_a_now, .ref m_a_book, .int m_undos, .ref m_a_images, .ref m_a_isKept, .int m_seen, .ref m_a_seenHang, .ref m_a_seenTick, .ref m_a_seenUp, .long m_trail, .int m_place, .int m_wrong, .int m_items, .int m_saidEvery, .int m_readEvery, .int m_readJumpers, .ref m_a_readOne])), (m_a_letters, .inl (cI, 120, .inl m_letters)), (m_a_period, .inl (cI, 6, .inl (upd m_period v1.toNatClampNeg (m_readOne (4 * v1).toNatClampNeg)))), (m_a_hang, .inl (cI, 6, .inl (upd m_hang v1.toNatClampNeg (m_readOne ((4 * v1) + 1).toNatClampNeg)))), (m_a_st, .inl (cI, 22, .inl (upd m_st (10 + v1).toNatClampNeg (m_readOne ((4 * v1) + 2).toNatClampNeg)))), (m_a_isKept, .inl (cZ, 2, .inl m_isKept)), (m_a_readOne, .inl (cI, 24, .inl m_readOne))] H := hP
        have hD : va_D A [(m_a, .inr (12, [.ref m_a_letters, .int m_length, .int m_jumpers, .ref m_a_period, .ref m_a_hang, .ref m_a_st, .ref m_a_now, .ref m_a_book, .int m_undos, .ref m_a_images, .ref m_a_isKept, .int m_seen, .ref m_a_seenHang, .ref m_a_seenTick, .ref m_a_seenUp, .long m_trail, .int m_place, .int m_wrong, .int m_items, .int m_saidEvery, .int m_readEvery, .int m_readJumpers, .ref m_a_readOne])), (m_a_letters, .inl (cI, 120, .inl m_letters)), (m_a_period, .inl (cI, 6, .inl (upd m_period v1.toNatClampNeg (m_readOne (4 * v1).toNatClampNeg)))), (m_a_hang, .inl (cI, 6, .inl (upd m_hang v1.toNatClampNeg (m_readOne ((4 * v1) + 1).toNatClampNeg)))), (m_a_st, .inl (cI, 22, .inl (upd m_st (10 + v1).toNatClampNeg (m_readOne ((4 * v1) + 2).toNatClampNeg)))), (m_a_isKept, .inl (cZ, 2, .inl m_isKept)), (m_a_readOne, .inl (cI, 24, .inl m_readOne))] := hD
        refine lv_aload_n hx hb dX12_yard_146 rfl (lv_at hl 0 rfl) ?_
        refine va_get (D := D) (ci := 12) (v := .ref m_a_st) (C := RX12) (T := TX12) (N := 23) hx hb ht iyX12 hown hK hP 0 rfl rfl 5 (by decide) (ht _ wf_X12_19) (fun _ h9 => h9) rfl dX12_yard_147 ?_
        refine lv_bipush (v := 16) hx hb dX12_yard_150 (by decide) ?_
        refine lv_iload_n hx hb dX12_yard_152 rfl (lv_at hl 1 rfl) ?_
        refine lv_iadd hx hb dX12_yard_153 ?_
        refine lv_aload_n hx hb dX12_yard_154 rfl (lv_at hl 0 rfl) ?_
        refine va_get (D := D) (ci := 12) (v := .ref m_a_readOne) (C := RX12) (T := TX12) (N := 23) hx hb ht iyX12 hown hK hP 0 rfl rfl 22 (by decide) (ht _ wf_X12_44) (fun _ h9 => h9) rfl dX12_yard_155 ?_
        refine lv_iconst (v := 4) hx hb dX12_yard_158 (by decide) ?_
        refine lv_iload_n hx hb dX12_yard_159 rfl (lv_at hl 1 rfl) ?_
        refine lv_imul hx hb dX12_yard_160 ?_
        refine lv_iconst (v := 3) hx hb dX12_yard_161 (by decide) ?_
        refine lv_iadd hx hb dX12_yard_162 ?_
        obtain ⟨h_31, hF⟩ := zi_chk hF
        refine va_iald hx hb hK hP 6 0 rfl rfl h_31 dX12_yard_163 ?_
        obtain ⟨h_32, hF⟩ := zi_chk hF
        refine va_iast hx hb hK hP hD hS 4 0 rfl rfl h_32 dX12_yard_164 (fun H locs hP hD hS => ?_)
        have hP : va_P D classes [(m_a, .inr (12, [.ref m_a_letters, .int m_length, .int m_jumpers, .ref m_a_period, .ref m_a_hang, .ref m_a_st, .ref m_a_now, .ref m_a_book, .int m_undos, .ref m_a_images, .ref m_a_isKept, .int m_seen, .ref m_a_seenHang, .ref m_a_seenTick, .ref m_a_seenUp, .long m_trail, .int m_place, .int m_wrong, .int m_items, .int m_saidEvery, .int m_readEvery, .int m_readJumpers, .ref m_a_readOne])), (m_a_letters, .inl (cI, 120, .inl m_letters)), (m_a_period, .inl (cI, 6, .inl (upd m_period v1.toNatClampNeg (m_readOne (4 * v1).toNatClampNeg)))), (m_a_hang, .inl (cI, 6, .inl (upd m_hang v1.toNatClampNeg (m_readOne ((4 * v1) + 1).toNatClampNeg)))), (m_a_st, .inl (cI, 22, .inl (upd (upd m_st (10 + v1).toNatClampNeg (m_readOne ((4 * v1) + 2).toNatClampNeg)) (16 + v1).toNatClampNeg (m_readOne ((4 * v1) + 3).toNatClampNeg)))), (m_a_isKept, .inl (cZ, 2, .inl m_isKept)), (m_a_readOne, .inl (cI, 24, .inl m_readOne))] H := hP
        have hD : va_D A [(m_a, .inr (12, [.ref m_a_letters, .int m_length, .int m_jumpers, .ref m_a_period, .ref m_a_hang, .ref m_a_st, .ref m_a_now, .ref m_a_book, .int m_undos, .ref m_a_images, .ref m_a_isKept, .int m_seen, .ref m_a_seenHang, .ref m_a_seenTick, .ref m_a_seenUp, .long m_trail, .int m_place, .int m_wrong, .int m_items, .int m_saidEvery, .int m_readEvery, .int m_readJumpers, .ref m_a_readOne])), (m_a_letters, .inl (cI, 120, .inl m_letters)), (m_a_period, .inl (cI, 6, .inl (upd m_period v1.toNatClampNeg (m_readOne (4 * v1).toNatClampNeg)))), (m_a_hang, .inl (cI, 6, .inl (upd m_hang v1.toNatClampNeg (m_readOne ((4 * v1) + 1).toNatClampNeg)))), (m_a_st, .inl (cI, 22, .inl (upd (upd m_st (10 + v1).toNatClampNeg (m_readOne ((4 * v1) + 2).toNatClampNeg)) (16 + v1).toNatClampNeg (m_readOne ((4 * v1) + 3).toNatClampNeg)))), (m_a_isKept, .inl (cZ, 2, .inl m_isKept)), (m_a_readOne, .inl (cI, 24, .inl m_readOne))] := hD
        refine lv_iinc (v := v1 + 1) (lv' := [(1, .int (v1 + 1)), (0, .ref m_a)]) hx hb dX12_yard_165 hl (k := 1) rfl (by rfl) (by decide) rfl (fun ls hl => ?_)
        refine lv_goto (tgt := 89) hx hb dX12_yard_168 (by decide) ?_
        exact ih_89 m_length m_jumpers m_undos m_seen m_trail m_place m_wrong m_items m_saidEvery m_readEvery m_readJumpers m_letters (upd m_period v1.toNatClampNeg (m_readOne (4 * v1).toNatClampNeg)) (upd m_hang v1.toNatClampNeg (m_readOne ((4 * v1) + 1).toNatClampNeg)) (upd (upd m_st (10 + v1).toNatClampNeg (m_readOne ((4 * v1) + 2).toNatClampNeg)) (16 + v1).toNatClampNeg (m_readOne ((4 * v1) + 3).toNatClampNeg)) m_isKept m_readOne (v1 + 1) _ _ _ _ hF _ _ _ hP hD hS (lv_sub hl [1, 0] rfl) hexit_89
  refine lv_aload_n hx hb dX12_yard_0 rfl (lv_at hl 0 rfl) ?_
  obtain ⟨m_place_1, m_wrong_2, m_items_3, m_saidEvery_4, m_readEvery_5, m_readJumpers_6, m_readOne_7, hc_8, hF⟩ := zb7_s hF
  refine zcv_v (ws1 := [(m_a, .inr (12, [.ref m_a_letters, .int m_length, .int m_jumpers, .ref m_a_period, .ref m_a_hang, .ref m_a_st, .ref m_a_now, .ref m_a_book, .int m_undos, .ref m_a_images, .ref m_a_isKept, .int m_seen, .ref m_a_seenHang, .ref m_a_seenTick, .ref m_a_seenUp, .long m_trail, .int m_place_1, .int m_wrong_2, .int m_items_3, .int m_saidEvery_4, .int m_readEvery_5, .int m_readJumpers_6, .ref m_a_readOne])), (m_a_letters, .inl (cI, 120, .inl m_letters)), (m_a_period, .inl (cI, 6, .inl m_period)), (m_a_hang, .inl (cI, 6, .inl m_hang)), (m_a_st, .inl (cI, 22, .inl m_st)), (m_a_isKept, .inl (cZ, 2, .inl m_isKept)), (m_a_readOne, .inl (cI, 24, .inl m_readOne_7))]) S hT lk_X12_98 (c_X12_readYard l D cI cZ cS cJ m_a m_a_letters m_a_period m_a_hang m_a_st m_a_now m_a_book m_a_images m_a_isKept m_a_seenHang m_a_seenTick m_a_seenUp m_a_readOne m_length m_jumpers m_undos m_seen m_trail m_place m_wrong m_items m_saidEvery m_readEvery m_readJumpers m_letters m_readOne hc_8) ⟨rfl, rfl, Nat.le_of_ble_eq_true rfl, Nat.le_of_ble_eq_true rfl⟩ hK hP hD hS hA [0, 1, 6] [2, 3, 4, 5] [4, 5, 0, 1, 2, 3, 6] rfl rfl rfl rfl rfl rfl rfl rfl rfl rfl rfl hl.1 rfl (Nat.le_of_ble_eq_true rfl) dX12_yard_1 ⟨Nat.zero_le _, Nat.zero_le _⟩ (fun H locs hP hD hS => ?_)
  refine lv_aload_n hx hb dX12_yard_4 rfl (lv_at hl 0 rfl) ?_
  refine va_get (D := D) (ci := 12) (v := .int m_wrong_2) (C := RX12) (T := TX12) (N := 23) hx hb ht iyX12 hown hK hP 0 rfl rfl 17 (by decide) (ht _ wf_X12_65) (fun _ h9 => h9) rfl dX12_yard_5 ?_
  refine lv_if_lt (tgt := 19) hx hb dX12_yard_8 (by decide) (fun c_9 => ?_) (fun c_9 => ?_)
  · have hF := zi_pos c_9 hF
    refine lv_aload_n hx hb dX12_yard_19 rfl (lv_at hl 0 rfl) ?_
    refine lv_iconst (v := 0) hx hb dX12_yard_20 (by decide) ?_
    refine va_put (D := D) (ci := 12) (v := .int 0) (ty := .int) (C := RX12) (T := TX12) (N := 23) hx hb ht iyX12 tyX12 tyX12_ok nmX12 hown hK hP hD hS 0 rfl rfl 1 (by decide) (ht _ wf_X12_55) (fun _ h9 => h9) rfl (by decide +kernel) rfl rfl (Nat.le_of_ble_eq_true rfl) dX12_yard_21 (fun H locs hP hD hS => ?_)
    have hP : va_P D classes [(m_a, .inr (12, [.ref m_a_letters, .int 0, .int m_jumpers, .ref m_a_period, .ref m_a_hang, .ref m_a_st, .ref m_a_now, .ref m_a_book, .int m_undos, .ref m_a_images, .ref m_a_isKept, .int m_seen, .ref m_a_seenHang, .ref m_a_seenTick, .ref m_a_seenUp, .long m_trail, .int m_place_1, .int m_wrong_2, .int m_items_3, .int m_saidEvery_4, .int m_readEvery_5, .int m_readJumpers_6, .ref m_a_readOne])), (m_a_letters, .inl (cI, 120, .inl m_letters)), (m_a_period, .inl (cI, 6, .inl m_period)), (m_a_hang, .inl (cI, 6, .inl m_hang)), (m_a_st, .inl (cI, 22, .inl m_st)), (m_a_isKept, .inl (cZ, 2, .inl m_isKept)), (m_a_readOne, .inl (cI, 24, .inl m_readOne_7))] H := hP
    have hD : va_D A [(m_a, .inr (12, [.ref m_a_letters, .int 0, .int m_jumpers, .ref m_a_period, .ref m_a_hang, .ref m_a_st, .ref m_a_now, .ref m_a_book, .int m_undos, .ref m_a_images, .ref m_a_isKept, .int m_seen, .ref m_a_seenHang, .ref m_a_seenTick, .ref m_a_seenUp, .long m_trail, .int m_place_1, .int m_wrong_2, .int m_items_3, .int m_saidEvery_4, .int m_readEvery_5, .int m_readJumpers_6, .ref m_a_readOne])), (m_a_letters, .inl (cI, 120, .inl m_letters)), (m_a_period, .inl (cI, 6, .inl m_period)), (m_a_hang, .inl (cI, 6, .inl m_hang)), (m_a_st, .inl (cI, 22, .inl m_st)), (m_a_isKept, .inl (cZ, 2, .inl m_isKept)), (m_a_readOne, .inl (cI, 24, .inl m_readOne_7))] := hD
    refine lv_aload_n hx hb dX12_yard_24 rfl (lv_at hl 0 rfl) ?_
    refine lv_aload_n hx hb dX12_yard_25 rfl (lv_at hl 0 rfl) ?_
    refine va_get (D := D) (ci := 12) (v := .int m_readJumpers_6) (C := RX12) (T := TX12) (N := 23) hx hb ht iyX12 hown hK hP 0 rfl rfl 21 (by decide) (ht _ wf_X12_78) (fun _ h9 => h9) rfl dX12_yard_26 ?_
    refine va_put (D := D) (ci := 12) (v := .int m_readJumpers_6) (ty := .int) (C := RX12) (T := TX12) (N := 23) hx hb ht iyX12 tyX12 tyX12_ok nmX12 hown hK hP hD hS 0 rfl rfl 2 (by decide) (ht _ wf_X12_47) (fun _ h9 => h9) rfl (by decide +kernel) rfl rfl (Nat.le_of_ble_eq_true rfl) dX12_yard_29 (fun H locs hP hD hS => ?_)
    have hP : va_P D classes [(m_a, .inr (12, [.ref m_a_letters, .int 0, .int m_readJumpers_6, .ref m_a_period, .ref m_a_hang, .ref m_a_st, .ref m_a_now, .ref m_a_book, .int m_undos, .ref m_a_images, .ref m_a_isKept, .int m_seen, .ref m_a_seenHang, .ref m_a_seenTick, .ref m_a_seenUp, .long m_trail, .int m_place_1, .int m_wrong_2, .int m_items_3, .int m_saidEvery_4, .int m_readEvery_5, .int m_readJumpers_6, .ref m_a_readOne])), (m_a_letters, .inl (cI, 120, .inl m_letters)), (m_a_period, .inl (cI, 6, .inl m_period)), (m_a_hang, .inl (cI, 6, .inl m_hang)), (m_a_st, .inl (cI, 22, .inl m_st)), (m_a_isKept, .inl (cZ, 2, .inl m_isKept)), (m_a_readOne, .inl (cI, 24, .inl m_readOne_7))] H := hP
    have hD : va_D A [(m_a, .inr (12, [.ref m_a_letters, .int 0, .int m_readJumpers_6, .ref m_a_period, .ref m_a_hang, .ref m_a_st, .ref m_a_now, .ref m_a_book, .int m_undos, .ref m_a_images, .ref m_a_isKept, .int m_seen, .ref m_a_seenHang, .ref m_a_seenTick, .ref m_a_seenUp, .long m_trail, .int m_place_1, .int m_wrong_2, .int m_items_3, .int m_saidEvery_4, .int m_readEvery_5, .int m_readJumpers_6, .ref m_a_readOne])), (m_a_letters, .inl (cI, 120, .inl m_letters)), (m_a_period, .inl (cI, 6, .inl m_period)), (m_a_hang, .inl (cI, 6, .inl m_hang)), (m_a_st, .inl (cI, 22, .inl m_st)), (m_a_isKept, .inl (cZ, 2, .inl m_isKept)), (m_a_readOne, .inl (cI, 24, .inl m_readOne_7))] := hD
    refine lv_iconst (v := 0) hx hb dX12_yard_32 (by decide) ?_
    refine lv_istore_n (lv' := [(1, .int 0), (0, .ref m_a)]) hx hb dX12_yard_33 rfl hl (by decide) rfl (fun ls hl => ?_)
    obtain ⟨m_st_14, v1_15, hL_16, hF⟩ := zb2_s hF
    refine hloop_34 300 0 m_readJumpers_6 m_undos m_seen m_trail m_place_1 m_wrong_2 m_items_3 m_saidEvery_4 m_readEvery_5 m_readJumpers_6 m_letters m_period m_hang m_st m_isKept m_readOne_7 0 m_st_14 v1_15 hL_16 _ _ _ hP hD hS (lv_sub hl [1, 0] rfl) (fun H locs ls hP hD hS hl => ?_)
    refine lv_aload_n hx hb dX12_yard_53 rfl (lv_at hl 0 rfl) ?_
    refine va_get (D := D) (ci := 12) (v := .ref m_a_st) (C := RX12) (T := TX12) (N := 23) hx hb ht iyX12 hown hK hP 0 rfl rfl 5 (by decide) (ht _ wf_X12_19) (fun _ h9 => h9) rfl dX12_yard_54 ?_
    refine lv_iconst (v := 1) hx hb dX12_yard_57 (by decide) ?_
    refine lv_aload_n hx hb dX12_yard_58 rfl (lv_at hl 0 rfl) ?_
    refine va_get (D := D) (ci := 12) (v := .int m_readEvery_5) (C := RX12) (T := TX12) (N := 23) hx hb ht iyX12 hown hK hP 0 rfl rfl 20 (by decide) (ht _ wf_X12_89) (fun _ h9 => h9) rfl dX12_yard_59 ?_
    refine va_iast hx hb hK hP hD hS 4 0 rfl rfl (show ¬ ((1 : Int32) < 0 ∨ 22 ≤ (1 : Int32).toNatClampNeg) by decide) dX12_yard_62 (fun H locs hP hD hS => ?_)
    have hP : va_P D classes [(m_a, .inr (12, [.ref m_a_letters, .int 0, .int m_readJumpers_6, .ref m_a_period, .ref m_a_hang, .ref m_a_st, .ref m_a_now, .ref m_a_book, .int m_undos, .ref m_a_images, .ref m_a_isKept, .int m_seen, .ref m_a_seenHang, .ref m_a_seenTick, .ref m_a_seenUp, .long m_trail, .int m_place_1, .int m_wrong_2, .int m_items_3, .int m_saidEvery_4, .int m_readEvery_5, .int m_readJumpers_6, .ref m_a_readOne])), (m_a_letters, .inl (cI, 120, .inl m_letters)), (m_a_period, .inl (cI, 6, .inl m_period)), (m_a_hang, .inl (cI, 6, .inl m_hang)), (m_a_st, .inl (cI, 22, .inl (upd m_st_14 (1 : Int32).toNatClampNeg m_readEvery_5))), (m_a_isKept, .inl (cZ, 2, .inl m_isKept)), (m_a_readOne, .inl (cI, 24, .inl m_readOne_7))] H := hP
    have hD : va_D A [(m_a, .inr (12, [.ref m_a_letters, .int 0, .int m_readJumpers_6, .ref m_a_period, .ref m_a_hang, .ref m_a_st, .ref m_a_now, .ref m_a_book, .int m_undos, .ref m_a_images, .ref m_a_isKept, .int m_seen, .ref m_a_seenHang, .ref m_a_seenTick, .ref m_a_seenUp, .long m_trail, .int m_place_1, .int m_wrong_2, .int m_items_3, .int m_saidEvery_4, .int m_readEvery_5, .int m_readJumpers_6, .ref m_a_readOne])), (m_a_letters, .inl (cI, 120, .inl m_letters)), (m_a_period, .inl (cI, 6, .inl m_period)), (m_a_hang, .inl (cI, 6, .inl m_hang)), (m_a_st, .inl (cI, 22, .inl (upd m_st_14 (1 : Int32).toNatClampNeg m_readEvery_5))), (m_a_isKept, .inl (cZ, 2, .inl m_isKept)), (m_a_readOne, .inl (cI, 24, .inl m_readOne_7))] := hD
    refine lv_aload_n hx hb dX12_yard_63 rfl (lv_at hl 0 rfl) ?_
    refine va_get (D := D) (ci := 12) (v := .ref m_a_st) (C := RX12) (T := TX12) (N := 23) hx hb ht iyX12 hown hK hP 0 rfl rfl 5 (by decide) (ht _ wf_X12_19) (fun _ h9 => h9) rfl dX12_yard_64 ?_
    refine lv_iconst (v := 2) hx hb dX12_yard_67 (by decide) ?_
    refine lv_aload_n hx hb dX12_yard_68 rfl (lv_at hl 0 rfl) ?_
    refine va_get (D := D) (ci := 12) (v := .int m_readEvery_5) (C := RX12) (T := TX12) (N := 23) hx hb ht iyX12 hown hK hP 0 rfl rfl 20 (by decide) (ht _ wf_X12_89) (fun _ h9 => h9) rfl dX12_yard_69 ?_
    refine va_iast hx hb hK hP hD hS 4 0 rfl rfl (show ¬ ((2 : Int32) < 0 ∨ 22 ≤ (2 : Int32).toNatClampNeg) by decide) dX12_yard_72 (fun H locs hP hD hS => ?_)
    have hP : va_P D classes [(m_a, .inr (12, [.ref m_a_letters, .int 0, .int m_readJumpers_6, .ref m_a_period, .ref m_a_hang, .ref m_a_st, .ref m_a_now, .ref m_a_book, .int m_undos, .ref m_a_images, .ref m_a_isKept, .int m_seen, .ref m_a_seenHang, .ref m_a_seenTick, .ref m_a_seenUp, .long m_trail, .int m_place_1, .int m_wrong_2, .int m_items_3, .int m_saidEvery_4, .int m_readEvery_5, .int m_readJumpers_6, .ref m_a_readOne])), (m_a_letters, .inl (cI, 120, .inl m_letters)), (m_a_period, .inl (cI, 6, .inl m_period)), (m_a_hang, .inl (cI, 6, .inl m_hang)), (m_a_st, .inl (cI, 22, .inl (upd (upd m_st_14 (1 : Int32).toNatClampNeg m_readEvery_5) (2 : Int32).toNatClampNeg m_readEvery_5))), (m_a_isKept, .inl (cZ, 2, .inl m_isKept)), (m_a_readOne, .inl (cI, 24, .inl m_readOne_7))] H := hP
    have hD : va_D A [(m_a, .inr (12, [.ref m_a_letters, .int 0, .int m_readJumpers_6, .ref m_a_period, .ref m_a_hang, .ref m_a_st, .ref m_a_now, .ref m_a_book, .int m_undos, .ref m_a_images, .ref m_a_isKept, .int m_seen, .ref m_a_seenHang, .ref m_a_seenTick, .ref m_a_seenUp, .long m_trail, .int m_place_1, .int m_wrong_2, .int m_items_3, .int m_saidEvery_4, .int m_readEvery_5, .int m_readJumpers_6, .ref m_a_readOne])), (m_a_letters, .inl (cI, 120, .inl m_letters)), (m_a_period, .inl (cI, 6, .inl m_period)), (m_a_hang, .inl (cI, 6, .inl m_hang)), (m_a_st, .inl (cI, 22, .inl (upd (upd m_st_14 (1 : Int32).toNatClampNeg m_readEvery_5) (2 : Int32).toNatClampNeg m_readEvery_5))), (m_a_isKept, .inl (cZ, 2, .inl m_isKept)), (m_a_readOne, .inl (cI, 24, .inl m_readOne_7))] := hD
    refine lv_aload_n hx hb dX12_yard_73 rfl (lv_at hl 0 rfl) ?_
    refine va_get (D := D) (ci := 12) (v := .ref m_a_st) (C := RX12) (T := TX12) (N := 23) hx hb ht iyX12 hown hK hP 0 rfl rfl 5 (by decide) (ht _ wf_X12_19) (fun _ h9 => h9) rfl dX12_yard_74 ?_
    refine lv_iconst (v := 3) hx hb dX12_yard_77 (by decide) ?_
    refine lv_iconst (v := 1) hx hb dX12_yard_78 (by decide) ?_
    refine lv_aload_n hx hb dX12_yard_79 rfl (lv_at hl 0 rfl) ?_
    refine va_get (D := D) (ci := 12) (v := .int m_readJumpers_6) (C := RX12) (T := TX12) (N := 23) hx hb ht iyX12 hown hK hP 0 rfl rfl 2 (by decide) (ht _ wf_X12_47) (fun _ h9 => h9) rfl dX12_yard_80 ?_
    refine lv_ishl hx hb dX12_yard_83 ?_
    refine lv_iconst (v := 1) hx hb dX12_yard_84 (by decide) ?_
    refine lv_isub hx hb dX12_yard_85 ?_
    refine va_iast hx hb hK hP hD hS 4 0 rfl rfl (show ¬ ((3 : Int32) < 0 ∨ 22 ≤ (3 : Int32).toNatClampNeg) by decide) dX12_yard_86 (fun H locs hP hD hS => ?_)
    have hP : va_P D classes [(m_a, .inr (12, [.ref m_a_letters, .int 0, .int m_readJumpers_6, .ref m_a_period, .ref m_a_hang, .ref m_a_st, .ref m_a_now, .ref m_a_book, .int m_undos, .ref m_a_images, .ref m_a_isKept, .int m_seen, .ref m_a_seenHang, .ref m_a_seenTick, .ref m_a_seenUp, .long m_trail, .int m_place_1, .int m_wrong_2, .int m_items_3, .int m_saidEvery_4, .int m_readEvery_5, .int m_readJumpers_6, .ref m_a_readOne])), (m_a_letters, .inl (cI, 120, .inl m_letters)), (m_a_period, .inl (cI, 6, .inl m_period)), (m_a_hang, .inl (cI, 6, .inl m_hang)), (m_a_st, .inl (cI, 22, .inl (upd (upd (upd m_st_14 (1 : Int32).toNatClampNeg m_readEvery_5) (2 : Int32).toNatClampNeg m_readEvery_5) (3 : Int32).toNatClampNeg (((1 : Int32) <<< (m_readJumpers_6 &&& 31)) - 1)))), (m_a_isKept, .inl (cZ, 2, .inl m_isKept)), (m_a_readOne, .inl (cI, 24, .inl m_readOne_7))] H := hP
    have hD : va_D A [(m_a, .inr (12, [.ref m_a_letters, .int 0, .int m_readJumpers_6, .ref m_a_period, .ref m_a_hang, .ref m_a_st, .ref m_a_now, .ref m_a_book, .int m_undos, .ref m_a_images, .ref m_a_isKept, .int m_seen, .ref m_a_seenHang, .ref m_a_seenTick, .ref m_a_seenUp, .long m_trail, .int m_place_1, .int m_wrong_2, .int m_items_3, .int m_saidEvery_4, .int m_readEvery_5, .int m_readJumpers_6, .ref m_a_readOne])), (m_a_letters, .inl (cI, 120, .inl m_letters)), (m_a_period, .inl (cI, 6, .inl m_period)), (m_a_hang, .inl (cI, 6, .inl m_hang)), (m_a_st, .inl (cI, 22, .inl (upd (upd (upd m_st_14 (1 : Int32).toNatClampNeg m_readEvery_5) (2 : Int32).toNatClampNeg m_readEvery_5) (3 : Int32).toNatClampNeg (((1 : Int32) <<< (m_readJumpers_6 &&& 31)) - 1)))), (m_a_isKept, .inl (cZ, 2, .inl m_isKept)), (m_a_readOne, .inl (cI, 24, .inl m_readOne_7))] := hD
    refine lv_iconst (v := 0) hx hb dX12_yard_87 (by decide) ?_
    refine lv_istore_n (lv' := [(1, .int 0), (0, .ref m_a)]) hx hb dX12_yard_88 rfl hl (by decide) rfl (fun ls hl => ?_)
    obtain ⟨m_period_33, m_hang_34, m_st_35, v1_36, hL_37, hF⟩ := zb4_s hF
    refine hloop_89 300 0 m_readJumpers_6 m_undos m_seen m_trail m_place_1 m_wrong_2 m_items_3 m_saidEvery_4 m_readEvery_5 m_readJumpers_6 m_letters m_period m_hang (upd (upd (upd m_st_14 (1 : Int32).toNatClampNeg m_readEvery_5) (2 : Int32).toNatClampNeg m_readEvery_5) (3 : Int32).toNatClampNeg (((1 : Int32) <<< (m_readJumpers_6 &&& 31)) - 1)) m_isKept m_readOne_7 0 m_period_33 m_hang_34 m_st_35 v1_36 hL_37 _ _ _ hP hD hS (lv_sub hl [1, 0] rfl) (fun H locs ls hP hD hS hl => ?_)
    refine lv_aload_n hx hb dX12_yard_171 rfl (lv_at hl 0 rfl) ?_
    refine lv_iconst (v := 0) hx hb dX12_yard_172 (by decide) ?_
    refine va_put (D := D) (ci := 12) (v := .int 0) (ty := .int) (C := RX12) (T := TX12) (N := 23) hx hb ht iyX12 tyX12 tyX12_ok nmX12 hown hK hP hD hS 0 rfl rfl 8 (by decide) (ht _ wf_X12_101) (fun _ h9 => h9) rfl (by decide +kernel) rfl rfl (Nat.le_of_ble_eq_true rfl) dX12_yard_173 (fun H locs hP hD hS => ?_)
    have hP : va_P D classes [(m_a, .inr (12, [.ref m_a_letters, .int 0, .int m_readJumpers_6, .ref m_a_period, .ref m_a_hang, .ref m_a_st, .ref m_a_now, .ref m_a_book, .int 0, .ref m_a_images, .ref m_a_isKept, .int m_seen, .ref m_a_seenHang, .ref m_a_seenTick, .ref m_a_seenUp, .long m_trail, .int m_place_1, .int m_wrong_2, .int m_items_3, .int m_saidEvery_4, .int m_readEvery_5, .int m_readJumpers_6, .ref m_a_readOne])), (m_a_letters, .inl (cI, 120, .inl m_letters)), (m_a_period, .inl (cI, 6, .inl m_period_33)), (m_a_hang, .inl (cI, 6, .inl m_hang_34)), (m_a_st, .inl (cI, 22, .inl m_st_35)), (m_a_isKept, .inl (cZ, 2, .inl m_isKept)), (m_a_readOne, .inl (cI, 24, .inl m_readOne_7))] H := hP
    have hD : va_D A [(m_a, .inr (12, [.ref m_a_letters, .int 0, .int m_readJumpers_6, .ref m_a_period, .ref m_a_hang, .ref m_a_st, .ref m_a_now, .ref m_a_book, .int 0, .ref m_a_images, .ref m_a_isKept, .int m_seen, .ref m_a_seenHang, .ref m_a_seenTick, .ref m_a_seenUp, .long m_trail, .int m_place_1, .int m_wrong_2, .int m_items_3, .int m_saidEvery_4, .int m_readEvery_5, .int m_readJumpers_6, .ref m_a_readOne])), (m_a_letters, .inl (cI, 120, .inl m_letters)), (m_a_period, .inl (cI, 6, .inl m_period_33)), (m_a_hang, .inl (cI, 6, .inl m_hang_34)), (m_a_st, .inl (cI, 22, .inl m_st_35)), (m_a_isKept, .inl (cZ, 2, .inl m_isKept)), (m_a_readOne, .inl (cI, 24, .inl m_readOne_7))] := hD
    refine lv_aload_n hx hb dX12_yard_176 rfl (lv_at hl 0 rfl) ?_
    refine lv_iconst (v := 0) hx hb dX12_yard_177 (by decide) ?_
    refine va_put (D := D) (ci := 12) (v := .int 0) (ty := .int) (C := RX12) (T := TX12) (N := 23) hx hb ht iyX12 tyX12 tyX12_ok nmX12 hown hK hP hD hS 0 rfl rfl 11 (by decide) (ht _ wf_X12_104) (fun _ h9 => h9) rfl (by decide +kernel) rfl rfl (Nat.le_of_ble_eq_true rfl) dX12_yard_178 (fun H locs hP hD hS => ?_)
    have hP : va_P D classes [(m_a, .inr (12, [.ref m_a_letters, .int 0, .int m_readJumpers_6, .ref m_a_period, .ref m_a_hang, .ref m_a_st, .ref m_a_now, .ref m_a_book, .int 0, .ref m_a_images, .ref m_a_isKept, .int 0, .ref m_a_seenHang, .ref m_a_seenTick, .ref m_a_seenUp, .long m_trail, .int m_place_1, .int m_wrong_2, .int m_items_3, .int m_saidEvery_4, .int m_readEvery_5, .int m_readJumpers_6, .ref m_a_readOne])), (m_a_letters, .inl (cI, 120, .inl m_letters)), (m_a_period, .inl (cI, 6, .inl m_period_33)), (m_a_hang, .inl (cI, 6, .inl m_hang_34)), (m_a_st, .inl (cI, 22, .inl m_st_35)), (m_a_isKept, .inl (cZ, 2, .inl m_isKept)), (m_a_readOne, .inl (cI, 24, .inl m_readOne_7))] H := hP
    have hD : va_D A [(m_a, .inr (12, [.ref m_a_letters, .int 0, .int m_readJumpers_6, .ref m_a_period, .ref m_a_hang, .ref m_a_st, .ref m_a_now, .ref m_a_book, .int 0, .ref m_a_images, .ref m_a_isKept, .int 0, .ref m_a_seenHang, .ref m_a_seenTick, .ref m_a_seenUp, .long m_trail, .int m_place_1, .int m_wrong_2, .int m_items_3, .int m_saidEvery_4, .int m_readEvery_5, .int m_readJumpers_6, .ref m_a_readOne])), (m_a_letters, .inl (cI, 120, .inl m_letters)), (m_a_period, .inl (cI, 6, .inl m_period_33)), (m_a_hang, .inl (cI, 6, .inl m_hang_34)), (m_a_st, .inl (cI, 22, .inl m_st_35)), (m_a_isKept, .inl (cZ, 2, .inl m_isKept)), (m_a_readOne, .inl (cI, 24, .inl m_readOne_7))] := hD
    refine lv_aload_n hx hb dX12_yard_181 rfl (lv_at hl 0 rfl) ?_
    refine va_get (D := D) (ci := 12) (v := .ref m_a_isKept) (C := RX12) (T := TX12) (N := 23) hx hb ht iyX12 hown hK hP 0 rfl rfl 10 (by decide) (ht _ wf_X12_31) (fun _ h9 => h9) rfl dX12_yard_182 ?_
    refine lv_iconst (v := 0) hx hb dX12_yard_185 (by decide) ?_
    refine lv_iconst (v := 0) hx hb dX12_yard_186 (by decide) ?_
    refine va_zast hx hb hK hP hD hS 5 1 rfl rfl (show ¬ ((0 : Int32) < 0 ∨ 2 ≤ (0 : Int32).toNatClampNeg) by decide) dX12_yard_187 (fun H locs hP hD hS => ?_)
    have hP : va_P D classes [(m_a, .inr (12, [.ref m_a_letters, .int 0, .int m_readJumpers_6, .ref m_a_period, .ref m_a_hang, .ref m_a_st, .ref m_a_now, .ref m_a_book, .int 0, .ref m_a_images, .ref m_a_isKept, .int 0, .ref m_a_seenHang, .ref m_a_seenTick, .ref m_a_seenUp, .long m_trail, .int m_place_1, .int m_wrong_2, .int m_items_3, .int m_saidEvery_4, .int m_readEvery_5, .int m_readJumpers_6, .ref m_a_readOne])), (m_a_letters, .inl (cI, 120, .inl m_letters)), (m_a_period, .inl (cI, 6, .inl m_period_33)), (m_a_hang, .inl (cI, 6, .inl m_hang_34)), (m_a_st, .inl (cI, 22, .inl m_st_35)), (m_a_isKept, .inl (cZ, 2, .inl (upd m_isKept (0 : Int32).toNatClampNeg (vp_nar .boolean 0)))), (m_a_readOne, .inl (cI, 24, .inl m_readOne_7))] H := hP
    have hD : va_D A [(m_a, .inr (12, [.ref m_a_letters, .int 0, .int m_readJumpers_6, .ref m_a_period, .ref m_a_hang, .ref m_a_st, .ref m_a_now, .ref m_a_book, .int 0, .ref m_a_images, .ref m_a_isKept, .int 0, .ref m_a_seenHang, .ref m_a_seenTick, .ref m_a_seenUp, .long m_trail, .int m_place_1, .int m_wrong_2, .int m_items_3, .int m_saidEvery_4, .int m_readEvery_5, .int m_readJumpers_6, .ref m_a_readOne])), (m_a_letters, .inl (cI, 120, .inl m_letters)), (m_a_period, .inl (cI, 6, .inl m_period_33)), (m_a_hang, .inl (cI, 6, .inl m_hang_34)), (m_a_st, .inl (cI, 22, .inl m_st_35)), (m_a_isKept, .inl (cZ, 2, .inl (upd m_isKept (0 : Int32).toNatClampNeg (vp_nar .boolean 0)))), (m_a_readOne, .inl (cI, 24, .inl m_readOne_7))] := hD
    refine lv_aload_n hx hb dX12_yard_188 rfl (lv_at hl 0 rfl) ?_
    refine va_get (D := D) (ci := 12) (v := .ref m_a_isKept) (C := RX12) (T := TX12) (N := 23) hx hb ht iyX12 hown hK hP 0 rfl rfl 10 (by decide) (ht _ wf_X12_31) (fun _ h9 => h9) rfl dX12_yard_189 ?_
    refine lv_iconst (v := 1) hx hb dX12_yard_192 (by decide) ?_
    refine lv_iconst (v := 0) hx hb dX12_yard_193 (by decide) ?_
    refine va_zast hx hb hK hP hD hS 5 1 rfl rfl (show ¬ ((1 : Int32) < 0 ∨ 2 ≤ (1 : Int32).toNatClampNeg) by decide) dX12_yard_194 (fun H locs hP hD hS => ?_)
    have hP : va_P D classes [(m_a, .inr (12, [.ref m_a_letters, .int 0, .int m_readJumpers_6, .ref m_a_period, .ref m_a_hang, .ref m_a_st, .ref m_a_now, .ref m_a_book, .int 0, .ref m_a_images, .ref m_a_isKept, .int 0, .ref m_a_seenHang, .ref m_a_seenTick, .ref m_a_seenUp, .long m_trail, .int m_place_1, .int m_wrong_2, .int m_items_3, .int m_saidEvery_4, .int m_readEvery_5, .int m_readJumpers_6, .ref m_a_readOne])), (m_a_letters, .inl (cI, 120, .inl m_letters)), (m_a_period, .inl (cI, 6, .inl m_period_33)), (m_a_hang, .inl (cI, 6, .inl m_hang_34)), (m_a_st, .inl (cI, 22, .inl m_st_35)), (m_a_isKept, .inl (cZ, 2, .inl (upd (upd m_isKept (0 : Int32).toNatClampNeg (vp_nar .boolean 0)) (1 : Int32).toNatClampNeg (vp_nar .boolean 0)))), (m_a_readOne, .inl (cI, 24, .inl m_readOne_7))] H := hP
    have hD : va_D A [(m_a, .inr (12, [.ref m_a_letters, .int 0, .int m_readJumpers_6, .ref m_a_period, .ref m_a_hang, .ref m_a_st, .ref m_a_now, .ref m_a_book, .int 0, .ref m_a_images, .ref m_a_isKept, .int 0, .ref m_a_seenHang, .ref m_a_seenTick, .ref m_a_seenUp, .long m_trail, .int m_place_1, .int m_wrong_2, .int m_items_3, .int m_saidEvery_4, .int m_readEvery_5, .int m_readJumpers_6, .ref m_a_readOne])), (m_a_letters, .inl (cI, 120, .inl m_letters)), (m_a_period, .inl (cI, 6, .inl m_period_33)), (m_a_hang, .inl (cI, 6, .inl m_hang_34)), (m_a_st, .inl (cI, 22, .inl m_st_35)), (m_a_isKept, .inl (cZ, 2, .inl (upd (upd m_isKept (0 : Int32).toNatClampNeg (vp_nar .boolean 0)) (1 : Int32).toNatClampNeg (vp_nar .boolean 0)))), (m_a_readOne, .inl (cI, 24, .inl m_readOne_7))] := hD
    refine lv_aload_n hx hb dX12_yard_195 rfl (lv_at hl 0 rfl) ?_
    refine va_get (D := D) (ci := 12) (v := .int m_items_3) (C := RX12) (T := TX12) (N := 23) hx hb ht iyX12 hown hK hP 0 rfl rfl 18 (by decide) (ht _ wf_X12_75) (fun _ h9 => h9) rfl dX12_yard_196 ?_
    obtain ⟨e_0, e_1, e_2, e_3, e_4, e_5, e_6, e_7, e_8, e_9, e_10, e_11, e_12, e_13, e_14, e_15⟩ := zo16 hF
    subst e_0
    subst e_1
    subst e_2
    subst e_3
    subst e_4
    subst e_5
    subst e_6
    subst e_7
    subst e_8
    subst e_9
    subst e_10
    subst e_11
    subst e_12
    subst e_13
    subst e_14
    subst e_15
    exact zret_i S hr hlocks hK hP hD hS dX12_yard_199
  · have hF := zi_neg c_9 hF
    refine lv_bipush (v := (-10)) hx hb dX12_yard_11 (by decide) ?_
    refine lv_aload_n hx hb dX12_yard_13 rfl (lv_at hl 0 rfl) ?_
    refine va_get (D := D) (ci := 12) (v := .int m_wrong_2) (C := RX12) (T := TX12) (N := 23) hx hb ht iyX12 hown hK hP 0 rfl rfl 17 (by decide) (ht _ wf_X12_65) (fun _ h9 => h9) rfl dX12_yard_14 ?_
    refine lv_isub hx hb dX12_yard_17 ?_
    obtain ⟨e_0, e_1, e_2, e_3, e_4, e_5, e_6, e_7, e_8, e_9, e_10, e_11, e_12, e_13, e_14, e_15⟩ := zo16 hF
    subst e_0
    subst e_1
    subst e_2
    subst e_3
    subst e_4
    subst e_5
    subst e_6
    subst e_7
    subst e_8
    subst e_9
    subst e_10
    subst e_11
    subst e_12
    subst e_13
    subst e_14
    subst e_15
    exact zret_i S hr hlocks hK hP hD hS dX12_yard_18

def F_X12_jumps (m_period : Nat → Int32) (m_hang : Nat → Int32) (z : Nat → Int32) (p2 : Int32) (p3 : Int32) : Option ((Nat → Int32)) :=
  (if ((10 + p2) < 0 ∨ 22 ≤ (10 + p2).toNatClampNeg) then none else (if (z (10 + p2).toNatClampNeg) = 0 then (if ((16 + p2) < 0 ∨ 22 ≤ (16 + p2).toNatClampNeg) then none else (if (z (16 + p2).toNatClampNeg) ≤ 0 then (if (p2 < 0 ∨ 6 ≤ p2.toNatClampNeg) then none else some (upd z (10 + p2).toNatClampNeg (m_period p2.toNatClampNeg))) else (if p3 = 0 then (if (p2 < 0 ∨ 6 ≤ p2.toNatClampNeg) then none else (if ((4 + p2) < 0 ∨ 22 ≤ (4 + p2).toNatClampNeg) then none else some (upd (upd (upd z (16 + p2).toNatClampNeg ((z (16 + p2).toNatClampNeg) - 1)) (4 + p2).toNatClampNeg (m_hang p2.toNatClampNeg)) (10 + p2).toNatClampNeg (m_period p2.toNatClampNeg)))) else (if (p2 < 0 ∨ 6 ≤ p2.toNatClampNeg) then none else some (upd z (10 + p2).toNatClampNeg (m_period p2.toNatClampNeg)))))) else some (z)))
set_option maxHeartbeats 4000000 in
set_option maxRecDepth 100000 in
theorem c_X12_jumps (l : Launch) (D : va_G) (cI cZ cS cJ : ClassId) (m_a : Nat) (m_a_letters : Nat) (m_a_period : Nat) (m_a_hang : Nat) (m_a_st : Nat) (m_a_now : Nat) (m_a_book : Nat) (m_a_images : Nat) (m_a_isKept : Nat) (m_a_seenHang : Nat) (m_a_seenTick : Nat) (m_a_seenUp : Nat) (m_a_readOne : Nat) (za : Nat) (m_length : Int32) (m_jumpers : Int32) (m_undos : Int32) (m_seen : Int32) (m_trail : Int64) (m_place : Int32) (m_wrong : Int32) (m_items : Int32) (m_saidEvery : Int32) (m_readEvery : Int32) (m_readJumpers : Int32) (m_period : Nat → Int32) (m_hang : Nat → Int32) (z : Nat → Int32) (p2 : Int32) (p3 : Int32) {z_o : Nat → Int32} (hF : F_X12_jumps m_period m_hang z p2 p3 = some (z_o)) : zMv l yX12_jumps (zwl yX12_jumps cX12_jumps 4 none) { frames := 0, cells := 0, slots := 0, locals := 0 } D (TYS cI cZ cS cJ) [.ref m_a, .ref za, .int p2, .int p3] [(m_a, .inr (12, [.ref m_a_letters, .int m_length, .int m_jumpers, .ref m_a_period, .ref m_a_hang, .ref m_a_st, .ref m_a_now, .ref m_a_book, .int m_undos, .ref m_a_images, .ref m_a_isKept, .int m_seen, .ref m_a_seenHang, .ref m_a_seenTick, .ref m_a_seenUp, .long m_trail, .int m_place, .int m_wrong, .int m_items, .int m_saidEvery, .int m_readEvery, .int m_readJumpers, .ref m_a_readOne])), (m_a_period, .inl (cI, 6, .inl m_period)), (m_a_hang, .inl (cI, 6, .inl m_hang)), (za, .inl (cI, 22, .inl z))] [(m_a, .inr (12, [.ref m_a_letters, .int m_length, .int m_jumpers, .ref m_a_period, .ref m_a_hang, .ref m_a_st, .ref m_a_now, .ref m_a_book, .int m_undos, .ref m_a_images, .ref m_a_isKept, .int m_seen, .ref m_a_seenHang, .ref m_a_seenTick, .ref m_a_seenUp, .long m_trail, .int m_place, .int m_wrong, .int m_items, .int m_saidEvery, .int m_readEvery, .int m_readJumpers, .ref m_a_readOne])), (m_a_period, .inl (cI, 6, .inl m_period)), (m_a_hang, .inl (cI, 6, .inl m_hang)), (za, .inl (cI, 22, .inl z_o))] := by
  refine zent_v (own := RX12) (by decide) rfl (Nat.le_of_ble_eq_true rfl) ?_
  intro p e s m below meth c A ls S hr hlocks hK hP hD hA hl
  have hx := S.1
  have hb := S.2.1
  have hml := S.2.2.1
  have hown := S.2.2.2.1
  have hT : ∀ w ∈ zt, w ∈ zwl yX12_jumps cX12_jumps 4 none := fun _ h => List.mem_cons_of_mem _ h
  have ht : ∀ w ∈ zt, w.before [.ref m_a, .ref za, .int p2, .int p3].toArray s = true := fun w h => S.2.2.2.2 w (hT w h)
  have hl : lv_has ls 4 [(0, .ref m_a), (1, .ref za), (2, .int p2), (3, .int p3)] := hl
  have hS : va_S A s.heap s.heap [] := va_S.rf
  unfold F_X12_jumps at hF
  refine lv_aload_n hx hb dX12_jumps_0 rfl (lv_at hl 1 rfl) ?_
  refine lv_bipush (v := 10) hx hb dX12_jumps_1 (by decide) ?_
  refine lv_iload_n hx hb dX12_jumps_3 rfl (lv_at hl 2 rfl) ?_
  refine lv_iadd hx hb dX12_jumps_4 ?_
  obtain ⟨h_1, hF⟩ := zi_chk hF
  refine va_iald hx hb hK hP 3 0 rfl rfl h_1 dX12_jumps_5 ?_
  refine lv_if_ne (tgt := 55) hx hb dX12_jumps_6 (by decide) (fun c_2 => ?_) (fun c_2 => ?_)
  · have hF := zi_neg c_2 hF
    have e_0 := zo1 hF
    subst e_0
    exact zret_v S hr hlocks hK hP hD hS dX12_jumps_55
  · have hF := zi_pos c_2 hF
    refine lv_aload_n hx hb dX12_jumps_9 rfl (lv_at hl 1 rfl) ?_
    refine lv_bipush (v := 16) hx hb dX12_jumps_10 (by decide) ?_
    refine lv_iload_n hx hb dX12_jumps_12 rfl (lv_at hl 2 rfl) ?_
    refine lv_iadd hx hb dX12_jumps_13 ?_
    obtain ⟨h_3, hF⟩ := zi_chk hF
    refine va_iald hx hb hK hP 3 0 rfl rfl h_3 dX12_jumps_14 ?_
    refine lv_if_le (tgt := 43) hx hb dX12_jumps_15 (by decide) (fun c_4 => ?_) (fun c_4 => ?_)
    · have hF := zi_pos c_4 hF
      refine lv_aload_n hx hb dX12_jumps_43 rfl (lv_at hl 1 rfl) ?_
      refine lv_bipush (v := 10) hx hb dX12_jumps_44 (by decide) ?_
      refine lv_iload_n hx hb dX12_jumps_46 rfl (lv_at hl 2 rfl) ?_
      refine lv_iadd hx hb dX12_jumps_47 ?_
      refine lv_aload_n hx hb dX12_jumps_48 rfl (lv_at hl 0 rfl) ?_
      refine va_get (D := D) (ci := 12) (v := .ref m_a_period) (C := RX12) (T := TX12) (N := 23) hx hb ht iyX12 hown hK hP 0 rfl rfl 3 (by decide) (ht _ wf_X12_13) (fun _ h9 => h9) rfl dX12_jumps_49 ?_
      refine lv_iload_n hx hb dX12_jumps_52 rfl (lv_at hl 2 rfl) ?_
      obtain ⟨h_5, hF⟩ := zi_chk hF
      refine va_iald hx hb hK hP 1 0 rfl rfl h_5 dX12_jumps_53 ?_
      refine va_iast hx hb hK hP hD hS 3 0 rfl rfl h_1 dX12_jumps_54 (fun H locs hP hD hS => ?_)
      have hP : va_P D classes [(m_a, .inr (12, [.ref m_a_letters, .int m_length, .int m_jumpers, .ref m_a_period, .ref m_a_hang, .ref m_a_st, .ref m_a_now, .ref m_a_book, .int m_undos, .ref m_a_images, .ref m_a_isKept, .int m_seen, .ref m_a_seenHang, .ref m_a_seenTick, .ref m_a_seenUp, .long m_trail, .int m_place, .int m_wrong, .int m_items, .int m_saidEvery, .int m_readEvery, .int m_readJumpers, .ref m_a_readOne])), (m_a_period, .inl (cI, 6, .inl m_period)), (m_a_hang, .inl (cI, 6, .inl m_hang)), (za, .inl (cI, 22, .inl (upd z (10 + p2).toNatClampNeg (m_period p2.toNatClampNeg))))] H := hP
      have hD : va_D A [(m_a, .inr (12, [.ref m_a_letters, .int m_length, .int m_jumpers, .ref m_a_period, .ref m_a_hang, .ref m_a_st, .ref m_a_now, .ref m_a_book, .int m_undos, .ref m_a_images, .ref m_a_isKept, .int m_seen, .ref m_a_seenHang, .ref m_a_seenTick, .ref m_a_seenUp, .long m_trail, .int m_place, .int m_wrong, .int m_items, .int m_saidEvery, .int m_readEvery, .int m_readJumpers, .ref m_a_readOne])), (m_a_period, .inl (cI, 6, .inl m_period)), (m_a_hang, .inl (cI, 6, .inl m_hang)), (za, .inl (cI, 22, .inl (upd z (10 + p2).toNatClampNeg (m_period p2.toNatClampNeg))))] := hD
      have e_0 := zo1 hF
      subst e_0
      exact zret_v S hr hlocks hK hP hD hS dX12_jumps_55
    · have hF := zi_neg c_4 hF
      refine lv_iload_n hx hb dX12_jumps_18 rfl (lv_at hl 3 rfl) ?_
      refine lv_if_ne (tgt := 43) hx hb dX12_jumps_19 (by decide) (fun c_6 => ?_) (fun c_6 => ?_)
      · have hF := zi_neg c_6 hF
        refine lv_aload_n hx hb dX12_jumps_43 rfl (lv_at hl 1 rfl) ?_
        refine lv_bipush (v := 10) hx hb dX12_jumps_44 (by decide) ?_
        refine lv_iload_n hx hb dX12_jumps_46 rfl (lv_at hl 2 rfl) ?_
        refine lv_iadd hx hb dX12_jumps_47 ?_
        refine lv_aload_n hx hb dX12_jumps_48 rfl (lv_at hl 0 rfl) ?_
        refine va_get (D := D) (ci := 12) (v := .ref m_a_period) (C := RX12) (T := TX12) (N := 23) hx hb ht iyX12 hown hK hP 0 rfl rfl 3 (by decide) (ht _ wf_X12_13) (fun _ h9 => h9) rfl dX12_jumps_49 ?_
        refine lv_iload_n hx hb dX12_jumps_52 rfl (lv_at hl 2 rfl) ?_
        obtain ⟨h_7, hF⟩ := zi_chk hF
        refine va_iald hx hb hK hP 1 0 rfl rfl h_7 dX12_jumps_53 ?_
        refine va_iast hx hb hK hP hD hS 3 0 rfl rfl h_1 dX12_jumps_54 (fun H locs hP hD hS => ?_)
        have hP : va_P D classes [(m_a, .inr (12, [.ref m_a_letters, .int m_length, .int m_jumpers, .ref m_a_period, .ref m_a_hang, .ref m_a_st, .ref m_a_now, .ref m_a_book, .int m_undos, .ref m_a_images, .ref m_a_isKept, .int m_seen, .ref m_a_seenHang, .ref m_a_seenTick, .ref m_a_seenUp, .long m_trail, .int m_place, .int m_wrong, .int m_items, .int m_saidEvery, .int m_readEvery, .int m_readJumpers, .ref m_a_readOne])), (m_a_period, .inl (cI, 6, .inl m_period)), (m_a_hang, .inl (cI, 6, .inl m_hang)), (za, .inl (cI, 22, .inl (upd z (10 + p2).toNatClampNeg (m_period p2.toNatClampNeg))))] H := hP
        have hD : va_D A [(m_a, .inr (12, [.ref m_a_letters, .int m_length, .int m_jumpers, .ref m_a_period, .ref m_a_hang, .ref m_a_st, .ref m_a_now, .ref m_a_book, .int m_undos, .ref m_a_images, .ref m_a_isKept, .int m_seen, .ref m_a_seenHang, .ref m_a_seenTick, .ref m_a_seenUp, .long m_trail, .int m_place, .int m_wrong, .int m_items, .int m_saidEvery, .int m_readEvery, .int m_readJumpers, .ref m_a_readOne])), (m_a_period, .inl (cI, 6, .inl m_period)), (m_a_hang, .inl (cI, 6, .inl m_hang)), (za, .inl (cI, 22, .inl (upd z (10 + p2).toNatClampNeg (m_period p2.toNatClampNeg))))] := hD
        have e_0 := zo1 hF
        subst e_0
        exact zret_v S hr hlocks hK hP hD hS dX12_jumps_55
      · have hF := zi_pos c_6 hF
        refine lv_aload_n hx hb dX12_jumps_22 rfl (lv_at hl 1 rfl) ?_
        refine lv_bipush (v := 16) hx hb dX12_jumps_23 (by decide) ?_
        refine lv_iload_n hx hb dX12_jumps_25 rfl (lv_at hl 2 rfl) ?_
        refine lv_iadd hx hb dX12_jumps_26 ?_
        refine lv_dup2_11 hx hb dX12_jumps_27 rfl rfl ?_
        refine va_iald hx hb hK hP 3 0 rfl rfl h_3 dX12_jumps_28 ?_
        refine lv_iconst (v := 1) hx hb dX12_jumps_29 (by decide) ?_
        refine lv_isub hx hb dX12_jumps_30 ?_
        refine va_iast hx hb hK hP hD hS 3 0 rfl rfl h_3 dX12_jumps_31 (fun H locs hP hD hS => ?_)
        have hP : va_P D classes [(m_a, .inr (12, [.ref m_a_letters, .int m_length, .int m_jumpers, .ref m_a_period, .ref m_a_hang, .ref m_a_st, .ref m_a_now, .ref m_a_book, .int m_undos, .ref m_a_images, .ref m_a_isKept, .int m_seen, .ref m_a_seenHang, .ref m_a_seenTick, .ref m_a_seenUp, .long m_trail, .int m_place, .int m_wrong, .int m_items, .int m_saidEvery, .int m_readEvery, .int m_readJumpers, .ref m_a_readOne])), (m_a_period, .inl (cI, 6, .inl m_period)), (m_a_hang, .inl (cI, 6, .inl m_hang)), (za, .inl (cI, 22, .inl (upd z (16 + p2).toNatClampNeg ((z (16 + p2).toNatClampNeg) - 1))))] H := hP
        have hD : va_D A [(m_a, .inr (12, [.ref m_a_letters, .int m_length, .int m_jumpers, .ref m_a_period, .ref m_a_hang, .ref m_a_st, .ref m_a_now, .ref m_a_book, .int m_undos, .ref m_a_images, .ref m_a_isKept, .int m_seen, .ref m_a_seenHang, .ref m_a_seenTick, .ref m_a_seenUp, .long m_trail, .int m_place, .int m_wrong, .int m_items, .int m_saidEvery, .int m_readEvery, .int m_readJumpers, .ref m_a_readOne])), (m_a_period, .inl (cI, 6, .inl m_period)), (m_a_hang, .inl (cI, 6, .inl m_hang)), (za, .inl (cI, 22, .inl (upd z (16 + p2).toNatClampNeg ((z (16 + p2).toNatClampNeg) - 1))))] := hD
        refine lv_aload_n hx hb dX12_jumps_32 rfl (lv_at hl 1 rfl) ?_
        refine lv_iconst (v := 4) hx hb dX12_jumps_33 (by decide) ?_
        refine lv_iload_n hx hb dX12_jumps_34 rfl (lv_at hl 2 rfl) ?_
        refine lv_iadd hx hb dX12_jumps_35 ?_
        refine lv_aload_n hx hb dX12_jumps_36 rfl (lv_at hl 0 rfl) ?_
        refine va_get (D := D) (ci := 12) (v := .ref m_a_hang) (C := RX12) (T := TX12) (N := 23) hx hb ht iyX12 hown hK hP 0 rfl rfl 4 (by decide) (ht _ wf_X12_16) (fun _ h9 => h9) rfl dX12_jumps_37 ?_
        refine lv_iload_n hx hb dX12_jumps_40 rfl (lv_at hl 2 rfl) ?_
        obtain ⟨h_8, hF⟩ := zi_chk hF
        refine va_iald hx hb hK hP 2 0 rfl rfl h_8 dX12_jumps_41 ?_
        obtain ⟨h_9, hF⟩ := zi_chk hF
        refine va_iast hx hb hK hP hD hS 3 0 rfl rfl h_9 dX12_jumps_42 (fun H locs hP hD hS => ?_)
        have hP : va_P D classes [(m_a, .inr (12, [.ref m_a_letters, .int m_length, .int m_jumpers, .ref m_a_period, .ref m_a_hang, .ref m_a_st, .ref m_a_now, .ref m_a_book, .int m_undos, .ref m_a_images, .ref m_a_isKept, .int m_seen, .ref m_a_seenHang, .ref m_a_seenTick, .ref m_a_seenUp, .long m_trail, .int m_place, .int m_wrong, .int m_items, .int m_saidEvery, .int m_readEvery, .int m_readJumpers, .ref m_a_readOne])), (m_a_period, .inl (cI, 6, .inl m_period)), (m_a_hang, .inl (cI, 6, .inl m_hang)), (za, .inl (cI, 22, .inl (upd (upd z (16 + p2).toNatClampNeg ((z (16 + p2).toNatClampNeg) - 1)) (4 + p2).toNatClampNeg (m_hang p2.toNatClampNeg))))] H := hP
        have hD : va_D A [(m_a, .inr (12, [.ref m_a_letters, .int m_length, .int m_jumpers, .ref m_a_period, .ref m_a_hang, .ref m_a_st, .ref m_a_now, .ref m_a_book, .int m_undos, .ref m_a_images, .ref m_a_isKept, .int m_seen, .ref m_a_seenHang, .ref m_a_seenTick, .ref m_a_seenUp, .long m_trail, .int m_place, .int m_wrong, .int m_items, .int m_saidEvery, .int m_readEvery, .int m_readJumpers, .ref m_a_readOne])), (m_a_period, .inl (cI, 6, .inl m_period)), (m_a_hang, .inl (cI, 6, .inl m_hang)), (za, .inl (cI, 22, .inl (upd (upd z (16 + p2).toNatClampNeg ((z (16 + p2).toNatClampNeg) - 1)) (4 + p2).toNatClampNeg (m_hang p2.toNatClampNeg))))] := hD
        refine lv_aload_n hx hb dX12_jumps_43 rfl (lv_at hl 1 rfl) ?_
        refine lv_bipush (v := 10) hx hb dX12_jumps_44 (by decide) ?_
        refine lv_iload_n hx hb dX12_jumps_46 rfl (lv_at hl 2 rfl) ?_
        refine lv_iadd hx hb dX12_jumps_47 ?_
        refine lv_aload_n hx hb dX12_jumps_48 rfl (lv_at hl 0 rfl) ?_
        refine va_get (D := D) (ci := 12) (v := .ref m_a_period) (C := RX12) (T := TX12) (N := 23) hx hb ht iyX12 hown hK hP 0 rfl rfl 3 (by decide) (ht _ wf_X12_13) (fun _ h9 => h9) rfl dX12_jumps_49 ?_
        refine lv_iload_n hx hb dX12_jumps_52 rfl (lv_at hl 2 rfl) ?_
        refine va_iald hx hb hK hP 1 0 rfl rfl h_8 dX12_jumps_53 ?_
        refine va_iast hx hb hK hP hD hS 3 0 rfl rfl h_1 dX12_jumps_54 (fun H locs hP hD hS => ?_)
        have hP : va_P D classes [(m_a, .inr (12, [.ref m_a_letters, .int m_length, .int m_jumpers, .ref m_a_period, .ref m_a_hang, .ref m_a_st, .ref m_a_now, .ref m_a_book, .int m_undos, .ref m_a_images, .ref m_a_isKept, .int m_seen, .ref m_a_seenHang, .ref m_a_seenTick, .ref m_a_seenUp, .long m_trail, .int m_place, .int m_wrong, .int m_items, .int m_saidEvery, .int m_readEvery, .int m_readJumpers, .ref m_a_readOne])), (m_a_period, .inl (cI, 6, .inl m_period)), (m_a_hang, .inl (cI, 6, .inl m_hang)), (za, .inl (cI, 22, .inl (upd (upd (upd z (16 + p2).toNatClampNeg ((z (16 + p2).toNatClampNeg) - 1)) (4 + p2).toNatClampNeg (m_hang p2.toNatClampNeg)) (10 + p2).toNatClampNeg (m_period p2.toNatClampNeg))))] H := hP
        have hD : va_D A [(m_a, .inr (12, [.ref m_a_letters, .int m_length, .int m_jumpers, .ref m_a_period, .ref m_a_hang, .ref m_a_st, .ref m_a_now, .ref m_a_book, .int m_undos, .ref m_a_images, .ref m_a_isKept, .int m_seen, .ref m_a_seenHang, .ref m_a_seenTick, .ref m_a_seenUp, .long m_trail, .int m_place, .int m_wrong, .int m_items, .int m_saidEvery, .int m_readEvery, .int m_readJumpers, .ref m_a_readOne])), (m_a_period, .inl (cI, 6, .inl m_period)), (m_a_hang, .inl (cI, 6, .inl m_hang)), (za, .inl (cI, 22, .inl (upd (upd (upd z (16 + p2).toNatClampNeg ((z (16 + p2).toNatClampNeg) - 1)) (4 + p2).toNatClampNeg (m_hang p2.toNatClampNeg)) (10 + p2).toNatClampNeg (m_period p2.toNatClampNeg))))] := hD
        have e_0 := zo1 hF
        subst e_0
        exact zret_v S hr hlocks hK hP hD hS dX12_jumps_55

def F_X12_outs (z : Nat → Int32) (p2 : Int32) : Option ((Nat → Int32)) :=
  (if ((4 + p2) < 0 ∨ 22 ≤ (4 + p2).toNatClampNeg) then none else (if ((10 + p2) < 0 ∨ 22 ≤ (10 + p2).toNatClampNeg) then none else some (upd (upd (upd z (3 : Int32).toNatClampNeg ((z (3 : Int32).toNatClampNeg) &&& (((1 : Int32) <<< (p2 &&& 31)) ^^^ (-1)))) (4 + p2).toNatClampNeg 0) (10 + p2).toNatClampNeg 0)))
set_option maxHeartbeats 4000000 in
set_option maxRecDepth 100000 in
theorem c_X12_outs (l : Launch) (D : va_G) (cI cZ cS cJ : ClassId) (m_a : Nat) (m_a_letters : Nat) (m_a_period : Nat) (m_a_hang : Nat) (m_a_st : Nat) (m_a_now : Nat) (m_a_book : Nat) (m_a_images : Nat) (m_a_isKept : Nat) (m_a_seenHang : Nat) (m_a_seenTick : Nat) (m_a_seenUp : Nat) (m_a_readOne : Nat) (za : Nat) (m_length : Int32) (m_jumpers : Int32) (m_undos : Int32) (m_seen : Int32) (m_trail : Int64) (m_place : Int32) (m_wrong : Int32) (m_items : Int32) (m_saidEvery : Int32) (m_readEvery : Int32) (m_readJumpers : Int32) (z : Nat → Int32) (p2 : Int32) {z_o : Nat → Int32} (hF : F_X12_outs z p2 = some (z_o)) : zMv l yX12_outs (zwl yX12_outs cX12_outs 3 none) { frames := 0, cells := 0, slots := 0, locals := 0 } D (TYS cI cZ cS cJ) [.ref m_a, .ref za, .int p2] [(m_a, .inr (12, [.ref m_a_letters, .int m_length, .int m_jumpers, .ref m_a_period, .ref m_a_hang, .ref m_a_st, .ref m_a_now, .ref m_a_book, .int m_undos, .ref m_a_images, .ref m_a_isKept, .int m_seen, .ref m_a_seenHang, .ref m_a_seenTick, .ref m_a_seenUp, .long m_trail, .int m_place, .int m_wrong, .int m_items, .int m_saidEvery, .int m_readEvery, .int m_readJumpers, .ref m_a_readOne])), (za, .inl (cI, 22, .inl z))] [(m_a, .inr (12, [.ref m_a_letters, .int m_length, .int m_jumpers, .ref m_a_period, .ref m_a_hang, .ref m_a_st, .ref m_a_now, .ref m_a_book, .int m_undos, .ref m_a_images, .ref m_a_isKept, .int m_seen, .ref m_a_seenHang, .ref m_a_seenTick, .ref m_a_seenUp, .long m_trail, .int m_place, .int m_wrong, .int m_items, .int m_saidEvery, .int m_readEvery, .int m_readJumpers, .ref m_a_readOne])), (za, .inl (cI, 22, .inl z_o))] := by
  refine zent_v (own := RX12) (by decide) rfl (Nat.le_of_ble_eq_true rfl) ?_
  intro p e s m below meth c A ls S hr hlocks hK hP hD hA hl
  have hx := S.1
  have hb := S.2.1
  have hml := S.2.2.1
  have hown := S.2.2.2.1
  have hT : ∀ w ∈ zt, w ∈ zwl yX12_outs cX12_outs 3 none := fun _ h => List.mem_cons_of_mem _ h
  have ht : ∀ w ∈ zt, w.before [.ref m_a, .ref za, .int p2].toArray s = true := fun w h => S.2.2.2.2 w (hT w h)
  have hl : lv_has ls 3 [(0, .ref m_a), (1, .ref za), (2, .int p2)] := hl
  have hS : va_S A s.heap s.heap [] := va_S.rf
  unfold F_X12_outs at hF
  refine lv_aload_n hx hb dX12_outs_0 rfl (lv_at hl 1 rfl) ?_
  refine lv_iconst (v := 3) hx hb dX12_outs_1 (by decide) ?_
  refine lv_dup2_11 hx hb dX12_outs_2 rfl rfl ?_
  refine va_iald hx hb hK hP 1 0 rfl rfl (show ¬ ((3 : Int32) < 0 ∨ 22 ≤ (3 : Int32).toNatClampNeg) by decide) dX12_outs_3 ?_
  refine lv_iconst (v := 1) hx hb dX12_outs_4 (by decide) ?_
  refine lv_iload_n hx hb dX12_outs_5 rfl (lv_at hl 2 rfl) ?_
  refine lv_ishl hx hb dX12_outs_6 ?_
  refine lv_iconst (v := (-1)) hx hb dX12_outs_7 (by decide) ?_
  refine lv_ixor hx hb dX12_outs_8 ?_
  refine lv_iand hx hb dX12_outs_9 ?_
  refine va_iast hx hb hK hP hD hS 1 0 rfl rfl (show ¬ ((3 : Int32) < 0 ∨ 22 ≤ (3 : Int32).toNatClampNeg) by decide) dX12_outs_10 (fun H locs hP hD hS => ?_)
  have hP : va_P D classes [(m_a, .inr (12, [.ref m_a_letters, .int m_length, .int m_jumpers, .ref m_a_period, .ref m_a_hang, .ref m_a_st, .ref m_a_now, .ref m_a_book, .int m_undos, .ref m_a_images, .ref m_a_isKept, .int m_seen, .ref m_a_seenHang, .ref m_a_seenTick, .ref m_a_seenUp, .long m_trail, .int m_place, .int m_wrong, .int m_items, .int m_saidEvery, .int m_readEvery, .int m_readJumpers, .ref m_a_readOne])), (za, .inl (cI, 22, .inl (upd z (3 : Int32).toNatClampNeg ((z (3 : Int32).toNatClampNeg) &&& (((1 : Int32) <<< (p2 &&& 31)) ^^^ (-1))))))] H := hP
  have hD : va_D A [(m_a, .inr (12, [.ref m_a_letters, .int m_length, .int m_jumpers, .ref m_a_period, .ref m_a_hang, .ref m_a_st, .ref m_a_now, .ref m_a_book, .int m_undos, .ref m_a_images, .ref m_a_isKept, .int m_seen, .ref m_a_seenHang, .ref m_a_seenTick, .ref m_a_seenUp, .long m_trail, .int m_place, .int m_wrong, .int m_items, .int m_saidEvery, .int m_readEvery, .int m_readJumpers, .ref m_a_readOne])), (za, .inl (cI, 22, .inl (upd z (3 : Int32).toNatClampNeg ((z (3 : Int32).toNatClampNeg) &&& (((1 : Int32) <<< (p2 &&& 31)) ^^^ (-1))))))] := hD
  refine lv_aload_n hx hb dX12_outs_11 rfl (lv_at hl 1 rfl) ?_
  refine lv_iconst (v := 4) hx hb dX12_outs_12 (by decide) ?_
  refine lv_iload_n hx hb dX12_outs_13 rfl (lv_at hl 2 rfl) ?_
  refine lv_iadd hx hb dX12_outs_14 ?_
  refine lv_iconst (v := 0) hx hb dX12_outs_15 (by decide) ?_
  obtain ⟨h_1, hF⟩ := zi_chk hF
  refine va_iast hx hb hK hP hD hS 1 0 rfl rfl h_1 dX12_outs_16 (fun H locs hP hD hS => ?_)
  have hP : va_P D classes [(m_a, .inr (12, [.ref m_a_letters, .int m_length, .int m_jumpers, .ref m_a_period, .ref m_a_hang, .ref m_a_st, .ref m_a_now, .ref m_a_book, .int m_undos, .ref m_a_images, .ref m_a_isKept, .int m_seen, .ref m_a_seenHang, .ref m_a_seenTick, .ref m_a_seenUp, .long m_trail, .int m_place, .int m_wrong, .int m_items, .int m_saidEvery, .int m_readEvery, .int m_readJumpers, .ref m_a_readOne])), (za, .inl (cI, 22, .inl (upd (upd z (3 : Int32).toNatClampNeg ((z (3 : Int32).toNatClampNeg) &&& (((1 : Int32) <<< (p2 &&& 31)) ^^^ (-1)))) (4 + p2).toNatClampNeg 0)))] H := hP
  have hD : va_D A [(m_a, .inr (12, [.ref m_a_letters, .int m_length, .int m_jumpers, .ref m_a_period, .ref m_a_hang, .ref m_a_st, .ref m_a_now, .ref m_a_book, .int m_undos, .ref m_a_images, .ref m_a_isKept, .int m_seen, .ref m_a_seenHang, .ref m_a_seenTick, .ref m_a_seenUp, .long m_trail, .int m_place, .int m_wrong, .int m_items, .int m_saidEvery, .int m_readEvery, .int m_readJumpers, .ref m_a_readOne])), (za, .inl (cI, 22, .inl (upd (upd z (3 : Int32).toNatClampNeg ((z (3 : Int32).toNatClampNeg) &&& (((1 : Int32) <<< (p2 &&& 31)) ^^^ (-1)))) (4 + p2).toNatClampNeg 0)))] := hD
  refine lv_aload_n hx hb dX12_outs_17 rfl (lv_at hl 1 rfl) ?_
  refine lv_bipush (v := 10) hx hb dX12_outs_18 (by decide) ?_
  refine lv_iload_n hx hb dX12_outs_20 rfl (lv_at hl 2 rfl) ?_
  refine lv_iadd hx hb dX12_outs_21 ?_
  refine lv_iconst (v := 0) hx hb dX12_outs_22 (by decide) ?_
  obtain ⟨h_2, hF⟩ := zi_chk hF
  refine va_iast hx hb hK hP hD hS 1 0 rfl rfl h_2 dX12_outs_23 (fun H locs hP hD hS => ?_)
  have hP : va_P D classes [(m_a, .inr (12, [.ref m_a_letters, .int m_length, .int m_jumpers, .ref m_a_period, .ref m_a_hang, .ref m_a_st, .ref m_a_now, .ref m_a_book, .int m_undos, .ref m_a_images, .ref m_a_isKept, .int m_seen, .ref m_a_seenHang, .ref m_a_seenTick, .ref m_a_seenUp, .long m_trail, .int m_place, .int m_wrong, .int m_items, .int m_saidEvery, .int m_readEvery, .int m_readJumpers, .ref m_a_readOne])), (za, .inl (cI, 22, .inl (upd (upd (upd z (3 : Int32).toNatClampNeg ((z (3 : Int32).toNatClampNeg) &&& (((1 : Int32) <<< (p2 &&& 31)) ^^^ (-1)))) (4 + p2).toNatClampNeg 0) (10 + p2).toNatClampNeg 0)))] H := hP
  have hD : va_D A [(m_a, .inr (12, [.ref m_a_letters, .int m_length, .int m_jumpers, .ref m_a_period, .ref m_a_hang, .ref m_a_st, .ref m_a_now, .ref m_a_book, .int m_undos, .ref m_a_images, .ref m_a_isKept, .int m_seen, .ref m_a_seenHang, .ref m_a_seenTick, .ref m_a_seenUp, .long m_trail, .int m_place, .int m_wrong, .int m_items, .int m_saidEvery, .int m_readEvery, .int m_readJumpers, .ref m_a_readOne])), (za, .inl (cI, 22, .inl (upd (upd (upd z (3 : Int32).toNatClampNeg ((z (3 : Int32).toNatClampNeg) &&& (((1 : Int32) <<< (p2 &&& 31)) ^^^ (-1)))) (4 + p2).toNatClampNeg 0) (10 + p2).toNatClampNeg 0)))] := hD
  have e_0 := zo1 hF
  subst e_0
  exact zret_v S hr hlocks hK hP hD hS dX12_outs_24
