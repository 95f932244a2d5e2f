theorem lk_X12_107 : zLs RX12 107 yX12_has cX12_has 2 (some .boolean) 2 := ⟨⟨wm_X12_107, ws_X12_has, wi_X12, wd_X12_has⟩, by decide, by decide, by decide +kernel⟩
theorem lk_X12_111 : zLk RX12 111 yX12_jumps cX12_jumps 4 none 3 := ⟨⟨wm_X12_111, wo_X12_jumps, we_X12_X12_jumps, wi_X12, wd_X12_jumps⟩, by decide, by decide, by decide +kernel⟩
theorem lk_X12_115 : zLk RX12 115 yX12_outs cX12_outs 3 none 2 := ⟨⟨wm_X12_115, wo_X12_outs, we_X12_X12_outs, wi_X12, wd_X12_outs⟩, by decide, by decide, by decide +kernel⟩
def L_X12_tickOn_5 (m_jumpers : Int32) (m_period : Nat → Int32) (m_hang : Nat → Int32) (v2 : Int32) : Nat → (Nat → Int32) → Int32 → Option ((Nat → Int32) × Int32)
  | 0 => fun _ _ => none
  | n + 1 => fun z v4 => (if m_jumpers ≤ v4 then some (z, v4) else (zb1 (F_X12_has (z (3 : Int32).toNatClampNeg) v4) (fun r_10 => (if r_10 = 0 then (L_X12_tickOn_5 m_jumpers m_period m_hang v2 n z (v4 + 1)) else (zb1 (F_X12_has v2 v4) (fun r_13 => (zb1 (F_X12_jumps m_period m_hang z v4 r_13) (fun z_15 => (L_X12_tickOn_5 m_jumpers m_period m_hang v2 n z_15 (v4 + 1))))))))))
theorem L_X12_tickOn_5_z (m_jumpers : Int32) (m_period : Nat → Int32) (m_hang : Nat → Int32) (v2 : Int32) (z : Nat → Int32) (v4 : Int32) : L_X12_tickOn_5 m_jumpers m_period m_hang v2 0 z v4 = none := rfl
theorem L_X12_tickOn_5_s (m_jumpers : Int32) (m_period : Nat → Int32) (m_hang : Nat → Int32) (v2 : Int32) (n : Nat) (z : Nat → Int32) (v4 : Int32) : L_X12_tickOn_5 m_jumpers m_period m_hang v2 (n + 1) z v4 = (if m_jumpers ≤ v4 then some (z, v4) else (zb1 (F_X12_has (z (3 : Int32).toNatClampNeg) v4) (fun r_10 => (if r_10 = 0 then (L_X12_tickOn_5 m_jumpers m_period m_hang v2 n z (v4 + 1)) else (zb1 (F_X12_has v2 v4) (fun r_13 => (zb1 (F_X12_jumps m_period m_hang z v4 r_13) (fun z_15 => (L_X12_tickOn_5 m_jumpers m_period m_hang v2 n z_15 (v4 + 1)))))))))) := rfl
def L_X12_tickOn_125 (m_jumpers : Int32) (v3 : Int32) : Nat → (Nat → Int32) → Int32 → Option ((Nat → Int32) × Int32)
  | 0 => fun _ _ => none
  | n + 1 => fun z v4 => (if m_jumpers ≤ v4 then some (z, v4) else (zb1 (F_X12_has v3 v4) (fun r_34 => (if r_34 = 0 then (zb1 (F_X12_has (z (3 : Int32).toNatClampNeg) v4) (fun r_37 => (if r_37 = 0 then (L_X12_tickOn_125 m_jumpers v3 n z (v4 + 1)) else (if ((10 + v4) < 0 ∨ 22 ≤ (10 + v4).toNatClampNeg) then none else (if ((4 + v4) < 0 ∨ 22 ≤ (4 + v4).toNatClampNeg) then none else (if ((upd z (10 + v4).toNatClampNeg ((z (10 + v4).toNatClampNeg) - 1)) (4 + v4).toNatClampNeg) ≤ 0 then (L_X12_tickOn_125 m_jumpers v3 n (upd (upd z (10 + v4).toNatClampNeg ((z (10 + v4).toNatClampNeg) - 1)) (4 + v4).toNatClampNeg (((upd z (10 + v4).toNatClampNeg ((z (10 + v4).toNatClampNeg) - 1)) (4 + v4).toNatClampNeg) - 0)) (v4 + 1)) else (L_X12_tickOn_125 m_jumpers v3 n (upd (upd z (10 + v4).toNatClampNeg ((z (10 + v4).toNatClampNeg) - 1)) (4 + v4).toNatClampNeg (((upd z (10 + v4).toNatClampNeg ((z (10 + v4).toNatClampNeg) - 1)) (4 + v4).toNatClampNeg) - 1)) (v4 + 1)))))))) else (zb1 (F_X12_outs z v4) (fun z_43 => (L_X12_tickOn_125 m_jumpers v3 n z_43 (v4 + 1))))))))
theorem L_X12_tickOn_125_z (m_jumpers : Int32) (v3 : Int32) (z : Nat → Int32) (v4 : Int32) : L_X12_tickOn_125 m_jumpers v3 0 z v4 = none := rfl
theorem L_X12_tickOn_125_s (m_jumpers : Int32) (v3 : Int32) (n : Nat) (z : Nat → Int32) (v4 : Int32) : L_X12_tickOn_125 m_jumpers v3 (n + 1) z v4 = (if m_jumpers ≤ v4 then some (z, v4) else (zb1 (F_X12_has v3 v4) (fun r_34 => (if r_34 = 0 then (zb1 (F_X12_has (z (3 : Int32).toNatClampNeg) v4) (fun r_37 => (if r_37 = 0 then (L_X12_tickOn_125 m_jumpers v3 n z (v4 + 1)) else (if ((10 + v4) < 0 ∨ 22 ≤ (10 + v4).toNatClampNeg) then none else (if ((4 + v4) < 0 ∨ 22 ≤ (4 + v4).toNatClampNeg) then none else (if ((upd z (10 + v4).toNatClampNeg ((z (10 + v4).toNatClampNeg) - 1)) (4 + v4).toNatClampNeg) ≤ 0 then (L_X12_tickOn_125 m_jumpers v3 n (upd (upd z (10 + v4).toNatClampNeg ((z (10 + v4).toNatClampNeg) - 1)) (4 + v4).toNatClampNeg (((upd z (10 + v4).toNatClampNeg ((z (10 + v4).toNatClampNeg) - 1)) (4 + v4).toNatClampNeg) - 0)) (v4 + 1)) else (L_X12_tickOn_125 m_jumpers v3 n (upd (upd z (10 + v4).toNatClampNeg ((z (10 + v4).toNatClampNeg) - 1)) (4 + v4).toNatClampNeg (((upd z (10 + v4).toNatClampNeg ((z (10 + v4).toNatClampNeg) - 1)) (4 + v4).toNatClampNeg) - 1)) (v4 + 1)))))))) else (zb1 (F_X12_outs z v4) (fun z_43 => (L_X12_tickOn_125 m_jumpers v3 n z_43 (v4 + 1)))))))) := rfl
def L_X12_tickOn_60 (m_jumpers : Int32) (z : Nat → Int32) : Nat → Int32 → Int32 → Option (Int32 × Int32)
  | 0 => fun _ _ => none
  | n + 1 => fun v3 v4 => (if m_jumpers ≤ v4 then some (v3, v4) else (zb1 (F_X12_has (z (3 : Int32).toNatClampNeg) v4) (fun r_55 => (if r_55 = 0 then (L_X12_tickOn_60 m_jumpers z n (v3 ||| 0) (v4 + 1)) else (if ((4 + v4) < 0 ∨ 22 ≤ (4 + v4).toNatClampNeg) then none else (if (z (4 + v4).toNatClampNeg) = 0 then (L_X12_tickOn_60 m_jumpers z n (v3 ||| ((1 : Int32) <<< (v4 &&& 31))) (v4 + 1)) else (L_X12_tickOn_60 m_jumpers z n (v3 ||| 0) (v4 + 1))))))))
theorem L_X12_tickOn_60_z (m_jumpers : Int32) (z : Nat → Int32) (v3 : Int32) (v4 : Int32) : L_X12_tickOn_60 m_jumpers z 0 v3 v4 = none := rfl
theorem L_X12_tickOn_60_s (m_jumpers : Int32) (z : Nat → Int32) (n : Nat) (v3 : Int32) (v4 : Int32) : L_X12_tickOn_60 m_jumpers z (n + 1) v3 v4 = (if m_jumpers ≤ v4 then some (v3, v4) else (zb1 (F_X12_has (z (3 : Int32).toNatClampNeg) v4) (fun r_55 => (if r_55 = 0 then (L_X12_tickOn_60 m_jumpers z n (v3 ||| 0) (v4 + 1)) else (if ((4 + v4) < 0 ∨ 22 ≤ (4 + v4).toNatClampNeg) then none else (if (z (4 + v4).toNatClampNeg) = 0 then (L_X12_tickOn_60 m_jumpers z n (v3 ||| ((1 : Int32) <<< (v4 &&& 31))) (v4 + 1)) else (L_X12_tickOn_60 m_jumpers z n (v3 ||| 0) (v4 + 1)))))))) := rfl
def F_X12_tickOn (m_jumpers : Int32) (m_period : Nat → Int32) (m_hang : Nat → Int32) (z : Nat → Int32) (p2 : Int32) : Option (Int32 × (Nat → Int32)) :=
  (zb2 (L_X12_tickOn_5 m_jumpers m_period m_hang p2 300 z 0) (fun z_17 v4_18 => (if ((upd z_17 (2 : Int32).toNatClampNeg ((z_17 (2 : Int32).toNatClampNeg) - 1)) (2 : Int32).toNatClampNeg) = 0 then (zb2 (L_X12_tickOn_60 m_jumpers (upd z_17 (2 : Int32).toNatClampNeg ((z_17 (2 : Int32).toNatClampNeg) - 1)) 300 0 0) (fun v3_60 v4_61 => (if v3_60 = 0 then (zb2 (L_X12_tickOn_125 m_jumpers v3_60 300 (upd (upd z_17 (2 : Int32).toNatClampNeg ((z_17 (2 : Int32).toNatClampNeg) - 1)) (2 : Int32).toNatClampNeg (((upd z_17 (2 : Int32).toNatClampNeg ((z_17 (2 : Int32).toNatClampNeg) - 1)) (1 : Int32).toNatClampNeg) + 0)) 0) (fun z_67 v4_68 => some (v3_60, upd z_67 (0 : Int32).toNatClampNeg ((z_67 (0 : Int32).toNatClampNeg) + 1)))) else (zb2 (L_X12_tickOn_125 m_jumpers v3_60 300 (upd (upd z_17 (2 : Int32).toNatClampNeg ((z_17 (2 : Int32).toNatClampNeg) - 1)) (2 : Int32).toNatClampNeg (((upd z_17 (2 : Int32).toNatClampNeg ((z_17 (2 : Int32).toNatClampNeg) - 1)) (1 : Int32).toNatClampNeg) + 1)) 0) (fun z_64 v4_65 => some (v3_60, upd z_64 (0 : Int32).toNatClampNeg ((z_64 (0 : Int32).toNatClampNeg) + 1))))))) else (zb2 (L_X12_tickOn_125 m_jumpers 0 300 (upd z_17 (2 : Int32).toNatClampNeg ((z_17 (2 : Int32).toNatClampNeg) - 1)) 0) (fun z_45 v4_46 => some (0, upd z_45 (0 : Int32).toNatClampNeg ((z_45 (0 : Int32).toNatClampNeg) + 1)))))))
set_option maxHeartbeats 4000000 in
set_option maxRecDepth 100000 in
theorem c_X12_tickOn (l : Launch) (D : va_G) (cI cZ cS cJ : ClassId) (m_a : Nat) (m_a_letters : Nat) (m_a_period : Nat) (m_a_hang : Nat) (m_a_st : Nat) (m_a_now : Nat) (m_a_book : Nat) (m_a_images : Nat) (m_a_isKept : Nat) (m_a_seenHang : Nat) (m_a_seenTick : Nat) (m_a_seenUp : Nat) (m_a_readOne : Nat) (za : Nat) (m_length : Int32) (m_jumpers : Int32) (m_undos : Int32) (m_seen : Int32) (m_trail : Int64) (m_place : Int32) (m_wrong : Int32) (m_items : Int32) (m_saidEvery : Int32) (m_readEvery : Int32) (m_readJumpers : Int32) (m_period : Nat → Int32) (m_hang : Nat → Int32) (z : Nat → Int32) (p2 : Int32) {r_o : Int32} {z_o : Nat → Int32} (hF : F_X12_tickOn m_jumpers m_period m_hang z p2 = some (r_o, z_o)) : zMi l yX12_tickOn (zwl yX12_tickOn cX12_tickOn 5 (some .int)) { frames := 1, cells := 0, slots := 0, locals := 23 } D (TYS cI cZ cS cJ) [.ref m_a, .ref za, .int p2] [(m_a, .inr (12, [.ref m_a_letters, .int m_length, .int m_jumpers, .ref m_a_period, .ref m_a_hang, .ref m_a_st, .ref m_a_now, .ref m_a_book, .int m_undos, .ref m_a_images, .ref m_a_isKept, .int m_seen, .ref m_a_seenHang, .ref m_a_seenTick, .ref m_a_seenUp, .long m_trail, .int m_place, .int m_wrong, .int m_items, .int m_saidEvery, .int m_readEvery, .int m_readJumpers, .ref m_a_readOne])), (m_a_period, .inl (cI, 6, .inl m_period)), (m_a_hang, .inl (cI, 6, .inl m_hang)), (za, .inl (cI, 22, .inl z))] [(m_a, .inr (12, [.ref m_a_letters, .int m_length, .int m_jumpers, .ref m_a_period, .ref m_a_hang, .ref m_a_st, .ref m_a_now, .ref m_a_book, .int m_undos, .ref m_a_images, .ref m_a_isKept, .int m_seen, .ref m_a_seenHang, .ref m_a_seenTick, .ref m_a_seenUp, .long m_trail, .int m_place, .int m_wrong, .int m_items, .int m_saidEvery, .int m_readEvery, .int m_readJumpers, .ref m_a_readOne])), (m_a_period, .inl (cI, 6, .inl m_period)), (m_a_hang, .inl (cI, 6, .inl m_hang)), (za, .inl (cI, 22, .inl z_o))] r_o := by
  refine zent_i (own := RX12) (by decide) rfl (Nat.le_of_ble_eq_true rfl) ?_
  intro p e s m below meth c A ls S hr hlocks hK hP hD hA hl
  have hx := S.1
  have hb := S.2.1
  have hml := S.2.2.1
  have hown := S.2.2.2.1
  have hT : ∀ w ∈ zt, w ∈ zwl yX12_tickOn cX12_tickOn 5 (some .int) := fun _ h => List.mem_cons_of_mem _ h
  have ht : ∀ w ∈ zt, w.before [.ref m_a, .ref za, .int p2].toArray s = true := fun w h => S.2.2.2.2 w (hT w h)
  have hl : lv_has ls 5 [(0, .ref m_a), (1, .ref za), (2, .int p2)] := hl
  have hS : va_S A s.heap s.heap [] := va_S.rf
  unfold F_X12_tickOn at hF
  have hloop_5 : ∀ (n : Nat) (m_length : Int32) (m_jumpers : Int32) (m_undos : Int32) (m_seen : Int32) (m_trail : Int64) (m_place : Int32) (m_wrong : Int32) (m_items : Int32) (m_saidEvery : Int32) (m_readEvery : Int32) (m_readJumpers : Int32) (m_period : Nat → Int32) (m_hang : Nat → Int32) (z : Nat → Int32) (v2 : Int32) (v3 : Int32) (v4 : Int32) (z' : Nat → Int32) (v4' : Int32), L_X12_tickOn_5 m_jumpers m_period m_hang v2 n z v4 = some (z', v4') → ∀ (H : Heap) (locs : List Loc) (ls : Array Slot), va_P D classes [(m_a, .inr (12, [.ref m_a_letters, .int m_length, .int m_jumpers, .ref m_a_period, .ref m_a_hang, .ref m_a_st, .ref m_a_now, .ref m_a_book, .int m_undos, .ref m_a_images, .ref m_a_isKept, .int m_seen, .ref m_a_seenHang, .ref m_a_seenTick, .ref m_a_seenUp, .long m_trail, .int m_place, .int m_wrong, .int m_items, .int m_saidEvery, .int m_readEvery, .int m_readJumpers, .ref m_a_readOne])), (m_a_period, .inl (cI, 6, .inl m_period)), (m_a_hang, .inl (cI, 6, .inl m_hang)), (za, .inl (cI, 22, .inl z))] H → va_D A [(m_a, .inr (12, [.ref m_a_letters, .int m_length, .int m_jumpers, .ref m_a_period, .ref m_a_hang, .ref m_a_st, .ref m_a_now, .ref m_a_book, .int m_undos, .ref m_a_images, .ref m_a_isKept, .int m_seen, .ref m_a_seenHang, .ref m_a_seenTick, .ref m_a_seenUp, .long m_trail, .int m_place, .int m_wrong, .int m_items, .int m_saidEvery, .int m_readEvery, .int m_readJumpers, .ref m_a_readOne])), (m_a_period, .inl (cI, 6, .inl m_period)), (m_a_hang, .inl (cI, 6, .inl m_hang)), (za, .inl (cI, 22, .inl z))] → va_S A s.heap H locs → lv_has ls 5 [(0, .ref m_a), (1, .ref za), (2, .int v2), (3, .int v3), (4, .int v4)] → (∀ (H : Heap) (locs : List Loc) (ls : Array Slot), va_P D classes [(m_a, .inr (12, [.ref m_a_letters, .int m_length, .int m_jumpers, .ref m_a_period, .ref m_a_hang, .ref m_a_st, .ref m_a_now, .ref m_a_book, .int m_undos, .ref m_a_images, .ref m_a_isKept, .int m_seen, .ref m_a_seenHang, .ref m_a_seenTick, .ref m_a_seenUp, .long m_trail, .int m_place, .int m_wrong, .int m_items, .int m_saidEvery, .int m_readEvery, .int m_readJumpers, .ref m_a_readOne])), (m_a_period, .inl (cI, 6, .inl m_period)), (m_a_hang, .inl (cI, 6, .inl m_hang)), (za, .inl (cI, 22, .inl z'))] H → va_D A [(m_a, .inr (12, [.ref m_a_letters, .int m_length, .int m_jumpers, .ref m_a_period, .ref m_a_hang, .ref m_a_st, .ref m_a_now, .ref m_a_book, .int m_undos, .ref m_a_images, .ref m_a_isKept, .int m_seen, .ref m_a_seenHang, .ref m_a_seenTick, .ref m_a_seenUp, .long m_trail, .int m_place, .int m_wrong, .int m_items, .int m_saidEvery, .int m_readEvery, .int m_readJumpers, .ref m_a_readOne])), (m_a_period, .inl (cI, 6, .inl m_period)), (m_a_hang, .inl (cI, 6, .inl m_hang)), (za, .inl (cI, 22, .inl z'))] → va_S A s.heap H locs → lv_has ls 5 [(0, .ref m_a), (1, .ref za), (2, .int v2), (3, .int v3), (4, .int v4')] → W p l e { frames := 1, cells := 0, slots := 0, locals := 23 } s m [.ref m_a, .ref za, .int p2].toArray below meth c H locs 0 0 (zFi below [.ref m_a, .ref za, .int p2] s A D (TYS cI cZ cS cJ) [(m_a, .inr (12, [.ref m_a_letters, .int m_length, .int m_jumpers, .ref m_a_period, .ref m_a_hang, .ref m_a_st, .ref m_a_now, .ref m_a_book, .int m_undos, .ref m_a_images, .ref m_a_isKept, .int m_seen, .ref m_a_seenHang, .ref m_a_seenTick, .ref m_a_seenUp, .long m_trail, .int m_place, .int m_wrong, .int m_items, .int m_saidEvery, .int m_readEvery, .int m_readJumpers, .ref m_a_readOne])), (m_a_period, .inl (cI, 6, .inl m_period)), (m_a_hang, .inl (cI, 6, .inl m_hang)), (za, .inl (cI, 22, .inl z_o))] r_o) (F0 m 44 ls [])) → W p l e { frames := 1, cells := 0, slots := 0, locals := 23 } s m [.ref m_a, .ref za, .int p2].toArray below meth c H locs 0 0 (zFi below [.ref m_a, .ref za, .int p2] s A D (TYS cI cZ cS cJ) [(m_a, .inr (12, [.ref m_a_letters, .int m_length, .int m_jumpers, .ref m_a_period, .ref m_a_hang, .ref m_a_st, .ref m_a_now, .ref m_a_book, .int m_undos, .ref m_a_images, .ref m_a_isKept, .int m_seen, .ref m_a_seenHang, .ref m_a_seenTick, .ref m_a_seenUp, .long m_trail, .int m_place, .int m_wrong, .int m_items, .int m_saidEvery, .int m_readEvery, .int m_readJumpers, .ref m_a_readOne])), (m_a_period, .inl (cI, 6, .inl m_period)), (m_a_hang, .inl (cI, 6, .inl m_hang)), (za, .inl (cI, 22, .inl z_o))] r_o) (F0 m 5 ls []) := by
    intro n
    induction n with
    | zero =>
      intro m_length m_jumpers m_undos m_seen m_trail m_place m_wrong m_items m_saidEvery m_readEvery m_readJumpers m_period m_hang z v2 v3 v4 z' v4' hF
      rw [L_X12_tickOn_5_z] at hF
      cases hF
    | succ n ih_5 =>
      intro m_length m_jumpers m_undos m_seen m_trail m_place m_wrong m_items m_saidEvery m_readEvery m_readJumpers m_period m_hang z v2 v3 v4 z' v4' hF H locs ls hP hD hS hl hexit_5
      rw [L_X12_tickOn_5_s] at hF
      refine lv_iload hx hb dX12_tickOn_5 (lv_at hl 4 rfl) ?_
      refine lv_aload_n hx hb dX12_tickOn_7 rfl (lv_at hl 0 rfl) ?_
      refine va_get (D := D) (ci := 12) (v := .int m_jumpers) (C := RX12) (T := TX12) (N := 23) hx hb ht iyX12 hown hK hP 0 rfl rfl 2 (by decide) (ht _ wf_X12_47) (fun _ h9 => h9) rfl dX12_tickOn_8 ?_
      refine lv_icmp_ge (tgt := 44) hx hb dX12_tickOn_11 (by decide) (fun c_9 => ?_) (fun c_9 => ?_)
      · have hF := zi_pos c_9 hF
        obtain ⟨e_0, e_1⟩ := zo2 hF
        subst e_0
        subst e_1
        exact hexit_5 _ _ _ hP hD hS (lv_sub hl [0, 1, 2, 3, 4] rfl)
      · have hF := zi_neg c_9 hF
        refine lv_aload_n hx hb dX12_tickOn_14 rfl (lv_at hl 1 rfl) ?_
        refine lv_iconst (v := 3) hx hb dX12_tickOn_15 (by decide) ?_
        refine va_iald hx hb hK hP 3 0 rfl rfl (show ¬ ((3 : Int32) < 0 ∨ 22 ≤ (3 : Int32).toNatClampNeg) by decide) dX12_tickOn_16 ?_
        refine lv_iload hx hb dX12_tickOn_17 (lv_at hl 4 rfl) ?_
        obtain ⟨r_10, hc_11, hF⟩ := zb1_s hF
        refine zcs_i (ws1 := [(m_a, .inr (12, [.ref m_a_letters, .int m_length, .int m_jumpers, .ref m_a_period, .ref m_a_hang, .ref m_a_st, .ref m_a_now, .ref m_a_book, .int m_undos, .ref m_a_images, .ref m_a_isKept, .int m_seen, .ref m_a_seenHang, .ref m_a_seenTick, .ref m_a_seenUp, .long m_trail, .int m_place, .int m_wrong, .int m_items, .int m_saidEvery, .int m_readEvery, .int m_readJumpers, .ref m_a_readOne])), (m_a_period, .inl (cI, 6, .inl m_period)), (m_a_hang, .inl (cI, 6, .inl m_hang)), (za, .inl (cI, 22, .inl z))]) S hT lk_X12_107 (c_X12_has l D cI cZ cS cJ (z (3 : Int32).toNatClampNeg) v4 hc_11) ⟨rfl, rfl, Nat.le_of_ble_eq_true rfl, Nat.le_of_ble_eq_true rfl⟩ hK hP hD hS hA [] [0, 1, 2, 3] [0, 1, 2, 3] rfl rfl rfl rfl rfl rfl rfl rfl hl.1 rfl (Nat.le_of_ble_eq_true rfl) dX12_tickOn_19 ⟨Nat.zero_le _, Nat.zero_le _⟩ (fun H locs hP hD hS => ?_)
        refine lv_if_eq (tgt := 38) hx hb dX12_tickOn_22 (by decide) (fun c_12 => ?_) (fun c_12 => ?_)
        · have hF := zi_pos c_12 hF
          refine lv_iinc (v := v4 + 1) (lv' := [(4, .int (v4 + 1)), (0, .ref m_a), (1, .ref za), (2, .int v2), (3, .int v3)]) hx hb dX12_tickOn_38 hl (k := 4) rfl (by rfl) (by decide) rfl (fun ls hl => ?_)
          refine lv_goto (tgt := 5) hx hb dX12_tickOn_41 (by decide) ?_
          exact ih_5 m_length m_jumpers m_undos m_seen m_trail m_place m_wrong m_items m_saidEvery m_readEvery m_readJumpers m_period m_hang z v2 v3 (v4 + 1) _ _ hF _ _ _ hP hD hS (lv_sub hl [1, 2, 3, 4, 0] rfl) hexit_5
        · have hF := zi_neg c_12 hF
          refine lv_aload_n hx hb dX12_tickOn_25 rfl (lv_at hl 0 rfl) ?_
          refine lv_aload_n hx hb dX12_tickOn_26 rfl (lv_at hl 1 rfl) ?_
          refine lv_iload hx hb dX12_tickOn_27 (lv_at hl 4 rfl) ?_
          refine lv_iload_n hx hb dX12_tickOn_29 rfl (lv_at hl 2 rfl) ?_
          refine lv_iload hx hb dX12_tickOn_30 (lv_at hl 4 rfl) ?_
          obtain ⟨r_13, hc_14, hF⟩ := zb1_s hF
          refine zcs_i (ws1 := [(m_a, .inr (12, [.ref m_a_letters, .int m_length, .int m_jumpers, .ref m_a_period, .ref m_a_hang, .ref m_a_st, .ref m_a_now, .ref m_a_book, .int m_undos, .ref m_a_images, .ref m_a_isKept, .int m_seen, .ref m_a_seenHang, .ref m_a_seenTick, .ref m_a_seenUp, .long m_trail, .int m_place, .int m_wrong, .int m_items, .int m_saidEvery, .int m_readEvery, .int m_readJumpers, .ref m_a_readOne])), (m_a_period, .inl (cI, 6, .inl m_period)), (m_a_hang, .inl (cI, 6, .inl m_hang)), (za, .inl (cI, 22, .inl z))]) S hT lk_X12_107 (c_X12_has l D cI cZ cS cJ v2 v4 hc_14) ⟨rfl, rfl, Nat.le_of_ble_eq_true rfl, Nat.le_of_ble_eq_true rfl⟩ hK hP hD hS hA [] [0, 1, 2, 3] [0, 1, 2, 3] rfl rfl rfl rfl rfl rfl rfl rfl hl.1 rfl (Nat.le_of_ble_eq_true rfl) dX12_tickOn_32 ⟨Nat.zero_le _, Nat.zero_le _⟩ (fun H locs hP hD hS => ?_)
          obtain ⟨z_15, hc_16, hF⟩ := zb1_s hF
          refine zcv_v (ws1 := [(m_a, .inr (12, [.ref m_a_letters, .int m_length, .int m_jumpers, .ref m_a_period, .ref m_a_hang, .ref m_a_st, .ref m_a_now, .ref m_a_book, .int m_undos, .ref m_a_images, .ref m_a_isKept, .int m_seen, .ref m_a_seenHang, .ref m_a_seenTick, .ref m_a_seenUp, .long m_trail, .int m_place, .int m_wrong, .int m_items, .int m_saidEvery, .int m_readEvery, .int m_readJumpers, .ref m_a_readOne])), (m_a_period, .inl (cI, 6, .inl m_period)), (m_a_hang, .inl (cI, 6, .inl m_hang)), (za, .inl (cI, 22, .inl z_15))]) S hT lk_X12_111 (c_X12_jumps l D cI cZ cS cJ m_a m_a_letters m_a_period m_a_hang m_a_st m_a_now m_a_book m_a_images m_a_isKept m_a_seenHang m_a_seenTick m_a_seenUp m_a_readOne za m_length m_jumpers m_undos m_seen m_trail m_place m_wrong m_items m_saidEvery m_readEvery m_readJumpers m_period m_hang z v4 r_13 hc_16) ⟨rfl, rfl, Nat.le_of_ble_eq_true rfl, Nat.le_of_ble_eq_true rfl⟩ hK hP hD hS hA [0, 1, 2, 3] [] [0, 1, 2, 3] rfl rfl rfl rfl rfl rfl rfl rfl rfl rfl rfl hl.1 rfl (Nat.le_of_ble_eq_true rfl) dX12_tickOn_35 ⟨Nat.zero_le _, Nat.zero_le _⟩ (fun H locs hP hD hS => ?_)
          refine lv_iinc (v := v4 + 1) (lv' := [(4, .int (v4 + 1)), (0, .ref m_a), (1, .ref za), (2, .int v2), (3, .int v3)]) hx hb dX12_tickOn_38 hl (k := 4) rfl (by rfl) (by decide) rfl (fun ls hl => ?_)
          refine lv_goto (tgt := 5) hx hb dX12_tickOn_41 (by decide) ?_
          exact ih_5 m_length m_jumpers m_undos m_seen m_trail m_place m_wrong m_items m_saidEvery m_readEvery m_readJumpers m_period m_hang z_15 v2 v3 (v4 + 1) _ _ hF _ _ _ hP hD hS (lv_sub hl [1, 2, 3, 4, 0] rfl) hexit_5
  have hloop_125 : ∀ (n : Nat) (m_length : Int32) (m_jumpers : Int32) (m_undos : Int32) (m_seen : Int32) (m_trail : Int64) (m_place : Int32) (m_wrong : Int32) (m_items : Int32) (m_saidEvery : Int32) (m_readEvery : Int32) (m_readJumpers : Int32) (m_period : Nat → Int32) (m_hang : Nat → Int32) (z : Nat → Int32) (v2 : Int32) (v3 : Int32) (v4 : Int32) (z' : Nat → Int32) (v4' : Int32), L_X12_tickOn_125 m_jumpers v3 n z v4 = some (z', v4') → ∀ (H : Heap) (locs : List Loc) (ls : Array Slot), va_P D classes [(m_a, .inr (12, [.ref m_a_letters, .int m_length, .int m_jumpers, .ref m_a_period, .ref m_a_hang, .ref m_a_st, .ref m_a_now, .ref m_a_book, .int m_undos, .ref m_a_images, .ref m_a_isKept, .int m_seen, .ref m_a_seenHang, .ref m_a_seenTick, .ref m_a_seenUp, .long m_trail, .int m_place, .int m_wrong, .int m_items, .int m_saidEvery, .int m_readEvery, .int m_readJumpers, .ref m_a_readOne])), (m_a_period, .inl (cI, 6, .inl m_period)), (m_a_hang, .inl (cI, 6, .inl m_hang)), (za, .inl (cI, 22, .inl z))] H → va_D A [(m_a, .inr (12, [.ref m_a_letters, .int m_length, .int m_jumpers, .ref m_a_period, .ref m_a_hang, .ref m_a_st, .ref m_a_now, .ref m_a_book, .int m_undos, .ref m_a_images, .ref m_a_isKept, .int m_seen, .ref m_a_seenHang, .ref m_a_seenTick, .ref m_a_seenUp, .long m_trail, .int m_place, .int m_wrong, .int m_items, .int m_saidEvery, .int m_readEvery, .int m_readJumpers, .ref m_a_readOne])), (m_a_period, .inl (cI, 6, .inl m_period)), (m_a_hang, .inl (cI, 6, .inl m_hang)), (za, .inl (cI, 22, .inl z))] → va_S A s.heap H locs → lv_has ls 5 [(0, .ref m_a), (1, .ref za), (2, .int v2), (3, .int v3), (4, .int v4)] → (∀ (H : Heap) (locs : List Loc) (ls : Array Slot), va_P D classes [(m_a, .inr (12, [.ref m_a_letters, .int m_length, .int m_jumpers, .ref m_a_period, .ref m_a_hang, .ref m_a_st, .ref m_a_now, .ref m_a_book, .int m_undos, .ref m_a_images, .ref m_a_isKept, .int m_seen, .ref m_a_seenHang, .ref m_a_seenTick, .ref m_a_seenUp, .long m_trail, .int m_place, .int m_wrong, .int m_items, .int m_saidEvery, .int m_readEvery, .int m_readJumpers, .ref m_a_readOne])), (m_a_period, .inl (cI, 6, .inl m_period)), (m_a_hang, .inl (cI, 6, .inl m_hang)), (za, .inl (cI, 22, .inl z'))] H → va_D A [(m_a, .inr (12, [.ref m_a_letters, .int m_length, .int m_jumpers, .ref m_a_period, .ref m_a_hang, .ref m_a_st, .ref m_a_now, .ref m_a_book, .int m_undos, .ref m_a_images, .ref m_a_isKept, .int m_seen, .ref m_a_seenHang, .ref m_a_seenTick, .ref m_a_seenUp, .long m_trail, .int m_place, .int m_wrong, .int m_items, .int m_saidEvery, .int m_readEvery, .int m_readJumpers, .ref m_a_readOne])), (m_a_period, .inl (cI, 6, .inl m_period)), (m_a_hang, .inl (cI, 6, .inl m_hang)), (za, .inl (cI, 22, .inl z'))] → va_S A s.heap H locs → lv_has ls 5 [(0, .ref m_a), (1, .ref za), (2, .int v2), (3, .int v3), (4, .int v4')] → W p l e { frames := 1, cells := 0, slots := 0, locals := 23 } s m [.ref m_a, .ref za, .int p2].toArray below meth c H locs 0 0 (zFi below [.ref m_a, .ref za, .int p2] s A D (TYS cI cZ cS cJ) [(m_a, .inr (12, [.ref m_a_letters, .int m_length, .int m_jumpers, .ref m_a_period, .ref m_a_hang, .ref m_a_st, .ref m_a_now, .ref m_a_book, .int m_undos, .ref m_a_images, .ref m_a_isKept, .int m_seen, .ref m_a_seenHang, .ref m_a_seenTick, .ref m_a_seenUp, .long m_trail, .int m_place, .int m_wrong, .int m_items, .int m_saidEvery, .int m_readEvery, .int m_readJumpers, .ref m_a_readOne])), (m_a_period, .inl (cI, 6, .inl m_period)), (m_a_hang, .inl (cI, 6, .inl m_hang)), (za, .inl (cI, 22, .inl z_o))] r_o) (F0 m 204 ls [])) → W p l e { frames := 1, cells := 0, slots := 0, locals := 23 } s m [.ref m_a, .ref za, .int p2].toArray below meth c H locs 0 0 (zFi below [.ref m_a, .ref za, .int p2] s A D (TYS cI cZ cS cJ) [(m_a, .inr (12, [.ref m_a_letters, .int m_length, .int m_jumpers, .ref m_a_period, .ref m_a_hang, .ref m_a_st, .ref m_a_now, .ref m_a_book, .int m_undos, .ref m_a_images, .ref m_a_isKept, .int m_seen, .ref m_a_seenHang, .ref m_a_seenTick, .ref m_a_seenUp, .long m_trail, .int m_place, .int m_wrong, .int m_items, .int m_saidEvery, .int m_readEvery, .int m_readJumpers, .ref m_a_readOne])), (m_a_period, .inl (cI, 6, .inl m_period)), (m_a_hang, .inl (cI, 6, .inl m_hang)), (za, .inl (cI, 22, .inl z_o))] r_o) (F0 m 125 ls []) := by
    intro n
    induction n with
    | zero =>
      intro m_length m_jumpers m_undos m_seen m_trail m_place m_wrong m_items m_saidEvery m_readEvery m_readJumpers m_period m_hang z v2 v3 v4 z' v4' hF
      rw [L_X12_tickOn_125_z] at hF
      cases hF
    | succ n ih_125 =>
      intro m_length m_jumpers m_undos m_seen m_trail m_place m_wrong m_items m_saidEvery m_readEvery m_readJumpers m_period m_hang z v2 v3 v4 z' v4' hF H locs ls hP hD hS hl hexit_125
      rw [L_X12_tickOn_125_s] at hF
      refine lv_iload hx hb dX12_tickOn_125 (lv_at hl 4 rfl) ?_
      refine lv_aload_n hx hb dX12_tickOn_127 rfl (lv_at hl 0 rfl) ?_
      refine va_get (D := D) (ci := 12) (v := .int m_jumpers) (C := RX12) (T := TX12) (N := 23) hx hb ht iyX12 hown hK hP 0 rfl rfl 2 (by decide) (ht _ wf_X12_47) (fun _ h9 => h9) rfl dX12_tickOn_128 ?_
      refine lv_icmp_ge (tgt := 204) hx hb dX12_tickOn_131 (by decide) (fun c_33 => ?_) (fun c_33 => ?_)
      · have hF := zi_pos c_33 hF
        obtain ⟨e_0, e_1⟩ := zo2 hF
        subst e_0
        subst e_1
        exact hexit_125 _ _ _ hP hD hS (lv_sub hl [0, 1, 2, 3, 4] rfl)
      · have hF := zi_neg c_33 hF
        refine lv_iload_n hx hb dX12_tickOn_134 rfl (lv_at hl 3 rfl) ?_
        refine lv_iload hx hb dX12_tickOn_135 (lv_at hl 4 rfl) ?_
        obtain ⟨r_34, hc_35, hF⟩ := zb1_s hF
        refine zcs_i (ws1 := [(m_a, .inr (12, [.ref m_a_letters, .int m_length, .int m_jumpers, .ref m_a_period, .ref m_a_hang, .ref m_a_st, .ref m_a_now, .ref m_a_book, .int m_undos, .ref m_a_images, .ref m_a_isKept, .int m_seen, .ref m_a_seenHang, .ref m_a_seenTick, .ref m_a_seenUp, .long m_trail, .int m_place, .int m_wrong, .int m_items, .int m_saidEvery, .int m_readEvery, .int m_readJumpers, .ref m_a_readOne])), (m_a_period, .inl (cI, 6, .inl m_period)), (m_a_hang, .inl (cI, 6, .inl m_hang)), (za, .inl (cI, 22, .inl z))]) S hT lk_X12_107 (c_X12_has l D cI cZ cS cJ v3 v4 hc_35) ⟨rfl, rfl, Nat.le_of_ble_eq_true rfl, Nat.le_of_ble_eq_true rfl⟩ hK hP hD hS hA [] [0, 1, 2, 3] [0, 1, 2, 3] rfl rfl rfl rfl rfl rfl rfl rfl hl.1 rfl (Nat.le_of_ble_eq_true rfl) dX12_tickOn_137 ⟨Nat.zero_le _, Nat.zero_le _⟩ (fun H locs hP hD hS => ?_)
        refine lv_if_eq (tgt := 153) hx hb dX12_tickOn_140 (by decide) (fun c_36 => ?_) (fun c_36 => ?_)
        · have hF := zi_pos c_36 hF
          refine lv_aload_n hx hb dX12_tickOn_153 rfl (lv_at hl 1 rfl) ?_
          refine lv_iconst (v := 3) hx hb dX12_tickOn_154 (by decide) ?_
          refine va_iald hx hb hK hP 3 0 rfl rfl (show ¬ ((3 : Int32) < 0 ∨ 22 ≤ (3 : Int32).toNatClampNeg) by decide) dX12_tickOn_155 ?_
          refine lv_iload hx hb dX12_tickOn_156 (lv_at hl 4 rfl) ?_
          obtain ⟨r_37, hc_38, hF⟩ := zb1_s hF
          refine zcs_i (ws1 := [(m_a, .inr (12, [.ref m_a_letters, .int m_length, .int m_jumpers, .ref m_a_period, .ref m_a_hang, .ref m_a_st, .ref m_a_now, .ref m_a_book, .int m_undos, .ref m_a_images, .ref m_a_isKept, .int m_seen, .ref m_a_seenHang, .ref m_a_seenTick, .ref m_a_seenUp, .long m_trail, .int m_place, .int m_wrong, .int m_items, .int m_saidEvery, .int m_readEvery, .int m_readJumpers, .ref m_a_readOne])), (m_a_period, .inl (cI, 6, .inl m_period)), (m_a_hang, .inl (cI, 6, .inl m_hang)), (za, .inl (cI, 22, .inl z))]) S hT lk_X12_107 (c_X12_has l D cI cZ cS cJ (z (3 : Int32).toNatClampNeg) v4 hc_38) ⟨rfl, rfl, Nat.le_of_ble_eq_true rfl, Nat.le_of_ble_eq_true rfl⟩ hK hP hD hS hA [] [0, 1, 2, 3] [0, 1, 2, 3] rfl rfl rfl rfl rfl rfl rfl rfl hl.1 rfl (Nat.le_of_ble_eq_true rfl) dX12_tickOn_158 ⟨Nat.zero_le _, Nat.zero_le _⟩ (fun H locs hP hD hS => ?_)
          refine lv_if_eq (tgt := 198) hx hb dX12_tickOn_161 (by decide) (fun c_39 => ?_) (fun c_39 => ?_)
          · have hF := zi_pos c_39 hF
            refine lv_iinc (v := v4 + 1) (lv' := [(4, .int (v4 + 1)), (0, .ref m_a), (1, .ref za), (2, .int v2), (3, .int v3)]) hx hb dX12_tickOn_198 hl (k := 4) rfl (by rfl) (by decide) rfl (fun ls hl => ?_)
            refine lv_goto (tgt := 125) hx hb dX12_tickOn_201 (by decide) ?_
            exact ih_125 m_length m_jumpers m_undos m_seen m_trail m_place m_wrong m_items m_saidEvery m_readEvery m_readJumpers m_period m_hang z v2 v3 (v4 + 1) _ _ hF _ _ _ hP hD hS (lv_sub hl [1, 2, 3, 4, 0] rfl) hexit_125
          · have hF := zi_neg c_39 hF
            refine lv_aload_n hx hb dX12_tickOn_164 rfl (lv_at hl 1 rfl) ?_
            refine lv_bipush (v := 10) hx hb dX12_tickOn_165 (by decide) ?_
            refine lv_iload hx hb dX12_tickOn_167 (lv_at hl 4 rfl) ?_
            refine lv_iadd hx hb dX12_tickOn_169 ?_
            refine lv_dup2_11 hx hb dX12_tickOn_170 rfl rfl ?_
            obtain ⟨h_40, hF⟩ := zi_chk hF
            refine va_iald hx hb hK hP 3 0 rfl rfl h_40 dX12_tickOn_171 ?_
            refine lv_iconst (v := 1) hx hb dX12_tickOn_172 (by decide) ?_
            refine lv_isub hx hb dX12_tickOn_173 ?_
            refine va_iast hx hb hK hP hD hS 3 0 rfl rfl h_40 dX12_tickOn_174 (fun H locs hP hD hS => ?_)
            have hP : va_P D classes [(m_a, .inr (12, [.ref m_a_letters, .int m_length, .int m_jumpers, .ref m_a_period, .ref m_a_hang, .ref m_a_st, .ref m_a_now, .ref m_a_book, .int m_undos, .ref m_a_images, .ref m_a_isKept, .int m_seen, .ref m_a_seenHang, .ref m_a_seenTick, .ref m_a_seenUp, .long m_trail, .int m_place, .int m_wrong, .int m_items, .int m_saidEvery, .int m_readEvery, .int m_readJumpers, .ref m_a_readOne])), (m_a_period, .inl (cI, 6, .inl m_period)), (m_a_hang, .inl (cI, 6, .inl m_hang)), (za, .inl (cI, 22, .inl (upd z (10 + v4).toNatClampNeg ((z (10 + v4).toNatClampNeg) - 1))))] H := hP
            have hD : va_D A [(m_a, .inr (12, [.ref m_a_letters, .int m_length, .int m_jumpers, .ref m_a_period, .ref m_a_hang, .ref m_a_st, .ref m_a_now, .ref m_a_book, .int m_undos, .ref m_a_images, .ref m_a_isKept, .int m_seen, .ref m_a_seenHang, .ref m_a_seenTick, .ref m_a_seenUp, .long m_trail, .int m_place, .int m_wrong, .int m_items, .int m_saidEvery, .int m_readEvery, .int m_readJumpers, .ref m_a_readOne])), (m_a_period, .inl (cI, 6, .inl m_period)), (m_a_hang, .inl (cI, 6, .inl m_hang)), (za, .inl (cI, 22, .inl (upd z (10 + v4).toNatClampNeg ((z (10 + v4).toNatClampNeg) - 1))))] := hD
            refine lv_aload_n hx hb dX12_tickOn_175 rfl (lv_at hl 1 rfl) ?_
            refine lv_iconst (v := 4) hx hb dX12_tickOn_176 (by decide) ?_
            refine lv_iload hx hb dX12_tickOn_177 (lv_at hl 4 rfl) ?_
            refine lv_iadd hx hb dX12_tickOn_179 ?_
            refine lv_dup2_11 hx hb dX12_tickOn_180 rfl rfl ?_
            obtain ⟨h_41, hF⟩ := zi_chk hF
            refine va_iald hx hb hK hP 3 0 rfl rfl h_41 dX12_tickOn_181 ?_
            refine lv_aload_n hx hb dX12_tickOn_182 rfl (lv_at hl 1 rfl) ?_
            refine lv_iconst (v := 4) hx hb dX12_tickOn_183 (by decide) ?_
            refine lv_iload hx hb dX12_tickOn_184 (lv_at hl 4 rfl) ?_
            refine lv_iadd hx hb dX12_tickOn_186 ?_
            refine va_iald hx hb hK hP 3 0 rfl rfl h_41 dX12_tickOn_187 ?_
            refine lv_if_le (tgt := 195) hx hb dX12_tickOn_188 (by decide) (fun c_42 => ?_) (fun c_42 => ?_)
            · have hF := zi_pos c_42 hF
              refine lv_iconst (v := 0) hx hb dX12_tickOn_195 (by decide) ?_
              refine lv_isub hx hb dX12_tickOn_196 ?_
              refine va_iast hx hb hK hP hD hS 3 0 rfl rfl h_41 dX12_tickOn_197 (fun H locs hP hD hS => ?_)
              have hP : va_P D classes [(m_a, .inr (12, [.ref m_a_letters, .int m_length, .int m_jumpers, .ref m_a_period, .ref m_a_hang, .ref m_a_st, .ref m_a_now, .ref m_a_book, .int m_undos, .ref m_a_images, .ref m_a_isKept, .int m_seen, .ref m_a_seenHang, .ref m_a_seenTick, .ref m_a_seenUp, .long m_trail, .int m_place, .int m_wrong, .int m_items, .int m_saidEvery, .int m_readEvery, .int m_readJumpers, .ref m_a_readOne])), (m_a_period, .inl (cI, 6, .inl m_period)), (m_a_hang, .inl (cI, 6, .inl m_hang)), (za, .inl (cI, 22, .inl (upd (upd z (10 + v4).toNatClampNeg ((z (10 + v4).toNatClampNeg) - 1)) (4 + v4).toNatClampNeg (((upd z (10 + v4).toNatClampNeg ((z (10 + v4).toNatClampNeg) - 1)) (4 + v4).toNatClampNeg) - 0))))] H := hP
              have hD : va_D A [(m_a, .inr (12, [.ref m_a_letters, .int m_length, .int m_jumpers, .ref m_a_period, .ref m_a_hang, .ref m_a_st, .ref m_a_now, .ref m_a_book, .int m_undos, .ref m_a_images, .ref m_a_isKept, .int m_seen, .ref m_a_seenHang, .ref m_a_seenTick, .ref m_a_seenUp, .long m_trail, .int m_place, .int m_wrong, .int m_items, .int m_saidEvery, .int m_readEvery, .int m_readJumpers, .ref m_a_readOne])), (m_a_period, .inl (cI, 6, .inl m_period)), (m_a_hang, .inl (cI, 6, .inl m_hang)), (za, .inl (cI, 22, .inl (upd (upd z (10 + v4).toNatClampNeg ((z (10 + v4).toNatClampNeg) - 1)) (4 + v4).toNatClampNeg (((upd z (10 + v4).toNatClampNeg ((z (10 + v4).toNatClampNeg) - 1)) (4 + v4).toNatClampNeg) - 0))))] := hD
              refine lv_iinc (v := v4 + 1) (lv' := [(4, .int (v4 + 1)), (0, .ref m_a), (1, .ref za), (2, .int v2), (3, .int v3)]) hx hb dX12_tickOn_198 hl (k := 4) rfl (by rfl) (by decide) rfl (fun ls hl => ?_)
              refine lv_goto (tgt := 125) hx hb dX12_tickOn_201 (by decide) ?_
              exact ih_125 m_length m_jumpers m_undos m_seen m_trail m_place m_wrong m_items m_saidEvery m_readEvery m_readJumpers m_period m_hang (upd (upd z (10 + v4).toNatClampNeg ((z (10 + v4).toNatClampNeg) - 1)) (4 + v4).toNatClampNeg (((upd z (10 + v4).toNatClampNeg ((z (10 + v4).toNatClampNeg) - 1)) (4 + v4).toNatClampNeg) - 0)) v2 v3 (v4 + 1) _ _ hF _ _ _ hP hD hS (lv_sub hl [1, 2, 3, 4, 0] rfl) hexit_125
            · have hF := zi_neg c_42 hF
              refine lv_iconst (v := 1) hx hb dX12_tickOn_191 (by decide) ?_
              refine lv_goto (tgt := 196) hx hb dX12_tickOn_192 (by decide) ?_
              refine lv_isub hx hb dX12_tickOn_196 ?_
              refine va_iast hx hb hK hP hD hS 3 0 rfl rfl h_41 dX12_tickOn_197 (fun H locs hP hD hS => ?_)
              have hP : va_P D classes [(m_a, .inr (12, [.ref m_a_letters, .int m_length, .int m_jumpers, .ref m_a_period, .ref m_a_hang, .ref m_a_st, .ref m_a_now, .ref m_a_book, .int m_undos, .ref m_a_images, .ref m_a_isKept, .int m_seen, .ref m_a_seenHang, .ref m_a_seenTick, .ref m_a_seenUp, .long m_trail, .int m_place, .int m_wrong, .int m_items, .int m_saidEvery, .int m_readEvery, .int m_readJumpers, .ref m_a_readOne])), (m_a_period, .inl (cI, 6, .inl m_period)), (m_a_hang, .inl (cI, 6, .inl m_hang)), (za, .inl (cI, 22, .inl (upd (upd z (10 + v4).toNatClampNeg ((z (10 + v4).toNatClampNeg) - 1)) (4 + v4).toNatClampNeg (((upd z (10 + v4).toNatClampNeg ((z (10 + v4).toNatClampNeg) - 1)) (4 + v4).toNatClampNeg) - 1))))] H := hP
              have hD : va_D A [(m_a, .inr (12, [.ref m_a_letters, .int m_length, .int m_jumpers, .ref m_a_period, .ref m_a_hang, .ref m_a_st, .ref m_a_now, .ref m_a_book, .int m_undos, .ref m_a_images, .ref m_a_isKept, .int m_seen, .ref m_a_seenHang, .ref m_a_seenTick, .ref m_a_seenUp, .long m_trail, .int m_place, .int m_wrong, .int m_items, .int m_saidEvery, .int m_readEvery, .int m_readJumpers, .ref m_a_readOne])), (m_a_period, .inl (cI, 6, .inl m_period)), (m_a_hang, .inl (cI, 6, .inl m_hang)), (za, .inl (cI, 22, .inl (upd (upd z (10 + v4).toNatClampNeg ((z (10 + v4).toNatClampNeg) - 1)) (4 + v4).toNatClampNeg (((upd z (10 + v4).toNatClampNeg ((z (10 + v4).toNatClampNeg) - 1)) (4 + v4).toNatClampNeg) - 1))))] := hD
              refine lv_iinc (v := v4 + 1) (lv' := [(4, .int (v4 + 1)), (0, .ref m_a), (1, .ref za), (2, .int v2), (3, .int v3)]) hx hb dX12_tickOn_198 hl (k := 4) rfl (by rfl) (by decide) rfl (fun ls hl => ?_)
              refine lv_goto (tgt := 125) hx hb dX12_tickOn_201 (by decide) ?_
              exact ih_125 m_length m_jumpers m_undos m_seen m_trail m_place m_wrong m_items m_saidEvery m_readEvery m_readJumpers m_period m_hang (upd (upd z (10 + v4).toNatClampNeg ((z (10 + v4).toNatClampNeg) - 1)) (4 + v4).toNatClampNeg (((upd z (10 + v4).toNatClampNeg ((z (10 + v4).toNatClampNeg) - 1)) (4 + v4).toNatClampNeg) - 1)) v2 v3 (v4 + 1) _ _ hF _ _ _ hP hD hS (lv_sub hl [1, 2, 3, 4, 0] rfl) hexit_125
        · have hF := zi_neg c_36 hF
          refine lv_aload_n hx hb dX12_tickOn_143 rfl (lv_at hl 0 rfl) ?_
          refine lv_aload_n hx hb dX12_tickOn_144 rfl (lv_at hl 1 rfl) ?_
          refine lv_iload hx hb dX12_tickOn_145 (lv_at hl 4 rfl) ?_
          obtain ⟨z_43, hc_44, hF⟩ := zb1_s hF
          refine zcv_v (ws1 := [(m_a, .inr (12, [.ref m_a_letters, .int m_length, .int m_jumpers, .ref m_a_period, .ref m_a_hang, .ref m_a_st, .ref m_a_now, .ref m_a_book, .int m_undos, .ref m_a_images, .ref m_a_isKept, .int m_seen, .ref m_a_seenHang, .ref m_a_seenTick, .ref m_a_seenUp, .long m_trail, .int m_place, .int m_wrong, .int m_items, .int m_saidEvery, .int m_readEvery, .int m_readJumpers, .ref m_a_readOne])), (m_a_period, .inl (cI, 6, .inl m_period)), (m_a_hang, .inl (cI, 6, .inl m_hang)), (za, .inl (cI, 22, .inl z_43))]) S hT lk_X12_115 (c_X12_outs l D cI cZ cS cJ m_a m_a_letters m_a_period m_a_hang m_a_st m_a_now m_a_book m_a_images m_a_isKept m_a_seenHang m_a_seenTick m_a_seenUp m_a_readOne za m_length m_jumpers m_undos m_seen m_trail m_place m_wrong m_items m_saidEvery m_readEvery m_readJumpers z v4 hc_44) ⟨rfl, rfl, Nat.le_of_ble_eq_true rfl, Nat.le_of_ble_eq_true rfl⟩ hK hP hD hS hA [0, 3] [1, 2] [2, 0, 1, 3] rfl rfl rfl rfl rfl rfl rfl rfl rfl rfl rfl hl.1 rfl (Nat.le_of_ble_eq_true rfl) dX12_tickOn_147 ⟨Nat.zero_le _, Nat.zero_le _⟩ (fun H locs hP hD hS => ?_)
          refine lv_goto (tgt := 198) hx hb dX12_tickOn_150 (by decide) ?_
          refine lv_iinc (v := v4 + 1) (lv' := [(4, .int (v4 + 1)), (0, .ref m_a), (1, .ref za), (2, .int v2), (3, .int v3)]) hx hb dX12_tickOn_198 hl (k := 4) rfl (by rfl) (by decide) rfl (fun ls hl => ?_)
          refine lv_goto (tgt := 125) hx hb dX12_tickOn_201 (by decide) ?_
          exact ih_125 m_length m_jumpers m_undos m_seen m_trail m_place m_wrong m_items m_saidEvery m_readEvery m_readJumpers m_period m_hang z_43 v2 v3 (v4 + 1) _ _ hF _ _ _ hP hD hS (lv_sub hl [1, 2, 3, 4, 0] rfl) hexit_125
  have hloop_60 : ∀ (n : Nat) (m_length : Int32) (m_jumpers : Int32) (m_undos : Int32) (m_seen : Int32) (m_trail : Int64) (m_place : Int32) (m_wrong : Int32) (m_items : Int32) (m_saidEvery : Int32) (m_readEvery : Int32) (m_readJumpers : Int32) (m_period : Nat → Int32) (m_hang : Nat → Int32) (z : Nat → Int32) (v2 : Int32) (v3 : Int32) (v4 : Int32) (v3' : Int32) (v4' : Int32), L_X12_tickOn_60 m_jumpers z n v3 v4 = some (v3', v4') → ∀ (H : Heap) (locs : List Loc) (ls : Array Slot), va_P D classes [(m_a, .inr (12, [.ref m_a_letters, .int m_length, .int m_jumpers, .ref m_a_period, .ref m_a_hang, .ref m_a_st, .ref m_a_now, .ref m_a_book, .int m_undos, .ref m_a_images, .ref m_a_isKept, .int m_seen, .ref m_a_seenHang, .ref m_a_seenTick, .ref m_a_seenUp, .long m_trail, .int m_place, .int m_wrong, .int m_items, .int m_saidEvery, .int m_readEvery, .int m_readJumpers, .ref m_a_readOne])), (m_a_period, .inl (cI, 6, .inl m_period)), (m_a_hang, .inl (cI, 6, .inl m_hang)), (za, .inl (cI, 22, .inl z))] H → va_D A [(m_a, .inr (12, [.ref m_a_letters, .int m_length, .int m_jumpers, .ref m_a_period, .ref m_a_hang, .ref m_a_st, .ref m_a_now, .ref m_a_book, .int m_undos, .ref m_a_images, .ref m_a_isKept, .int m_seen, .ref m_a_seenHang, .ref m_a_seenTick, .ref m_a_seenUp, .long m_trail, .int m_place, .int m_wrong, .int m_items, .int m_saidEvery, .int m_readEvery, .int m_readJumpers, .ref m_a_readOne])), (m_a_period, .inl (cI, 6, .inl m_period)), (m_a_hang, .inl (cI, 6, .inl m_hang)), (za, .inl (cI, 22, .inl z))] → va_S A s.heap H locs → lv_has ls 5 [(0, .ref m_a), (1, .ref za), (2, .int v2), (3, .int v3), (4, .int v4)] → (∀ (H : Heap) (locs : List Loc) (ls : Array Slot), va_P D classes [(m_a, .inr (12, [.ref m_a_letters, .int m_length, .int m_jumpers, .ref m_a_period, .ref m_a_hang, .ref m_a_st, .ref m_a_now, .ref m_a_book, .int m_undos, .ref m_a_images, .ref m_a_isKept, .int m_seen, .ref m_a_seenHang, .ref m_a_seenTick, .ref m_a_seenUp, .long m_trail, .int m_place, .int m_wrong, .int m_items, .int m_saidEvery, .int m_readEvery, .int m_readJumpers, .ref m_a_readOne])), (m_a_period, .inl (cI, 6, .inl m_period)), (m_a_hang, .inl (cI, 6, .inl m_hang)), (za, .inl (cI, 22, .inl z))] H → va_D A [(m_a, .inr (12, [.ref m_a_letters, .int m_length, .int m_jumpers, .ref m_a_period, .ref m_a_hang, .ref m_a_st, .ref m_a_now, .ref m_a_book, .int m_undos, .ref m_a_images, .ref m_a_isKept, .int m_seen, .ref m_a_seenHang, .ref m_a_seenTick, .ref m_a_seenUp, .long m_trail, .int m_place, .int m_wrong, .int m_items, .int m_saidEvery, .int m_readEvery, .int m_readJumpers, .ref m_a_readOne])), (m_a_period, .inl (cI, 6, .inl m_period)), (m_a_hang, .inl (cI, 6, .inl m_hang)), (za, .inl (cI, 22, .inl z))] → va_S A s.heap H locs → lv_has ls 5 [(0, .ref m_a), (1, .ref za), (2, .int v2), (3, .int v3'), (4, .int v4')] → W p l e { frames := 1, cells := 0, slots := 0, locals := 23 } s m [.ref m_a, .ref za, .int p2].toArray below meth c H locs 0 0 (zFi below [.ref m_a, .ref za, .int p2] s A D (TYS cI cZ cS cJ) [(m_a, .inr (12, [.ref m_a_letters, .int m_length, .int m_jumpers, .ref m_a_period, .ref m_a_hang, .ref m_a_st, .ref m_a_now, .ref m_a_book, .int m_undos, .ref m_a_images, .ref m_a_isKept, .int m_seen, .ref m_a_seenHang, .ref m_a_seenTick, .ref m_a_seenUp, .long m_trail, .int m_place, .int m_wrong, .int m_items, .int m_saidEvery, .int m_readEvery, .int m_readJumpers, .ref m_a_readOne])), (m_a_period, .inl (cI, 6, .inl m_period)), (m_a_hang, .inl (cI, 6, .inl m_hang)), (za, .inl (cI, 22, .inl z_o))] r_o) (F0 m 106 ls [])) → W p l e { frames := 1, cells := 0, slots := 0, locals := 23 } s m [.ref m_a, .ref za, .int p2].toArray below meth c H locs 0 0 (zFi below [.ref m_a, .ref za, .int p2] s A D (TYS cI cZ cS cJ) [(m_a, .inr (12, [.ref m_a_letters, .int m_length, .int m_jumpers, .ref m_a_period, .ref m_a_hang, .ref m_a_st, .ref m_a_now, .ref m_a_book, .int m_undos, .ref m_a_images, .ref m_a_isKept, .int m_seen, .ref m_a_seenHang, .ref m_a_seenTick, .ref m_a_seenUp, .long m_trail, .int m_place, .int m_wrong, .int m_items, .int m_saidEvery, .int m_readEvery, .int m_readJumpers, .ref m_a_readOne])), (m_a_period, .inl (cI, 6, .inl m_period)), (m_a_hang, .inl (cI, 6, .inl m_hang)), (za, .inl (cI, 22, .inl z_o))] r_o) (F0 m 60 ls []) := by
    intro n
    induction n with
    | zero =>
      intro m_length m_jumpers m_undos m_seen m_trail m_place m_wrong m_items m_saidEvery m_readEvery m_readJumpers m_period m_hang z v2 v3 v4 v3' v4' hF
      rw [L_X12_tickOn_60_z] at hF
      cases hF
    | succ n ih_60 =>
      intro m_length m_jumpers m_undos m_seen m_trail m_place m_wrong m_items m_saidEvery m_readEvery m_readJumpers m_period m_hang z v2 v3 v4 v3' v4' hF H locs ls hP hD hS hl hexit_60
      rw [L_X12_tickOn_60_s] at hF
      refine lv_iload hx hb dX12_tickOn_60 (lv_at hl 4 rfl) ?_
      refine lv_aload_n hx hb dX12_tickOn_62 rfl (lv_at hl 0 rfl) ?_
      refine va_get (D := D) (ci := 12) (v := .int m_jumpers) (C := RX12) (T := TX12) (N := 23) hx hb ht iyX12 hown hK hP 0 rfl rfl 2 (by decide) (ht _ wf_X12_47) (fun _ h9 => h9) rfl dX12_tickOn_63 ?_
      refine lv_icmp_ge (tgt := 106) hx hb dX12_tickOn_66 (by decide) (fun c_54 => ?_) (fun c_54 => ?_)
      · have hF := zi_pos c_54 hF
        obtain ⟨e_0, e_1⟩ := zo2 hF
        subst e_0
        subst e_1
        exact hexit_60 _ _ _ hP hD hS (lv_sub hl [0, 1, 2, 3, 4] rfl)
      · have hF := zi_neg c_54 hF
        refine lv_iload_n hx hb dX12_tickOn_69 rfl (lv_at hl 3 rfl) ?_
        refine lv_aload_n hx hb dX12_tickOn_70 rfl (lv_at hl 1 rfl) ?_
        refine lv_iconst (v := 3) hx hb dX12_tickOn_71 (by decide) ?_
        refine va_iald hx hb hK hP 3 0 rfl rfl (show ¬ ((3 : Int32) < 0 ∨ 22 ≤ (3 : Int32).toNatClampNeg) by decide) dX12_tickOn_72 ?_
        refine lv_iload hx hb dX12_tickOn_73 (lv_at hl 4 rfl) ?_
        obtain ⟨r_55, hc_56, hF⟩ := zb1_s hF
        refine zcs_i (ws1 := [(m_a, .inr (12, [.ref m_a_letters, .int m_length, .int m_jumpers, .ref m_a_period, .ref m_a_hang, .ref m_a_st, .ref m_a_now, .ref m_a_book, .int m_undos, .ref m_a_images, .ref m_a_isKept, .int m_seen, .ref m_a_seenHang, .ref m_a_seenTick, .ref m_a_seenUp, .long m_trail, .int m_place, .int m_wrong, .int m_items, .int m_saidEvery, .int m_readEvery, .int m_readJumpers, .ref m_a_readOne])), (m_a_period, .inl (cI, 6, .inl m_period)), (m_a_hang, .inl (cI, 6, .inl m_hang)), (za, .inl (cI, 22, .inl z))]) S hT lk_X12_107 (c_X12_has l D cI cZ cS cJ (z (3 : Int32).toNatClampNeg) v4 hc_56) ⟨rfl, rfl, Nat.le_of_ble_eq_true rfl, Nat.le_of_ble_eq_true rfl⟩ hK hP hD hS hA [] [0, 1, 2, 3] [0, 1, 2, 3] rfl rfl rfl rfl rfl rfl rfl rfl hl.1 rfl (Nat.le_of_ble_eq_true rfl) dX12_tickOn_75 ⟨Nat.zero_le _, Nat.zero_le _⟩ (fun H locs hP hD hS => ?_)
        refine lv_if_eq (tgt := 97) hx hb dX12_tickOn_78 (by decide) (fun c_57 => ?_) (fun c_57 => ?_)
        · have hF := zi_pos c_57 hF
          refine lv_iconst (v := 0) hx hb dX12_tickOn_97 (by decide) ?_
          refine lv_ior hx hb dX12_tickOn_98 ?_
          refine lv_istore_n (lv' := [(3, .int (v3 ||| 0)), (0, .ref m_a), (1, .ref za), (2, .int v2), (4, .int v4)]) hx hb dX12_tickOn_99 rfl hl (by decide) rfl (fun ls hl => ?_)
          refine lv_iinc (v := v4 + 1) (lv' := [(4, .int (v4 + 1)), (3, .int (v3 ||| 0)), (0, .ref m_a), (1, .ref za), (2, .int v2)]) hx hb dX12_tickOn_100 hl (k := 4) rfl (by rfl) (by decide) rfl (fun ls hl => ?_)
          refine lv_goto (tgt := 60) hx hb dX12_tickOn_103 (by decide) ?_
          exact ih_60 m_length m_jumpers m_undos m_seen m_trail m_place m_wrong m_items m_saidEvery m_readEvery m_readJumpers m_period m_hang z v2 (v3 ||| 0) (v4 + 1) _ _ hF _ _ _ hP hD hS (lv_sub hl [2, 3, 4, 1, 0] rfl) hexit_60
        · have hF := zi_neg c_57 hF
          refine lv_aload_n hx hb dX12_tickOn_81 rfl (lv_at hl 1 rfl) ?_
          refine lv_iconst (v := 4) hx hb dX12_tickOn_82 (by decide) ?_
          refine lv_iload hx hb dX12_tickOn_83 (lv_at hl 4 rfl) ?_
          refine lv_iadd hx hb dX12_tickOn_85 ?_
          obtain ⟨h_58, hF⟩ := zi_chk hF
          refine va_iald hx hb hK hP 3 0 rfl rfl h_58 dX12_tickOn_86 ?_
          refine lv_if_ne (tgt := 97) hx hb dX12_tickOn_87 (by decide) (fun c_59 => ?_) (fun c_59 => ?_)
          · have hF := zi_neg c_59 hF
            refine lv_iconst (v := 0) hx hb dX12_tickOn_97 (by decide) ?_
            refine lv_ior hx hb dX12_tickOn_98 ?_
            refine lv_istore_n (lv' := [(3, .int (v3 ||| 0)), (0, .ref m_a), (1, .ref za), (2, .int v2), (4, .int v4)]) hx hb dX12_tickOn_99 rfl hl (by decide) rfl (fun ls hl => ?_)
            refine lv_iinc (v := v4 + 1) (lv' := [(4, .int (v4 + 1)), (3, .int (v3 ||| 0)), (0, .ref m_a), (1, .ref za), (2, .int v2)]) hx hb dX12_tickOn_100 hl (k := 4) rfl (by rfl) (by decide) rfl (fun ls hl => ?_)
            refine lv_goto (tgt := 60) hx hb dX12_tickOn_103 (by decide) ?_
            exact ih_60 m_length m_jumpers m_undos m_seen m_trail m_place m_wrong m_items m_saidEvery m_readEvery m_readJumpers m_period m_hang z v2 (v3 ||| 0) (v4 + 1) _ _ hF _ _ _ hP hD hS (lv_sub hl [2, 3, 4, 1, 0] rfl) hexit_60
          · have hF := zi_pos c_59 hF
            refine lv_iconst (v := 1) hx hb dX12_tickOn_90 (by decide) ?_
            refine lv_iload hx hb dX12_tickOn_91 (lv_at hl 4 rfl) ?_
            refine lv_ishl hx hb dX12_tickOn_93 ?_
            refine lv_goto (tgt := 98) hx hb dX12_tickOn_94 (by decide) ?_
            refine lv_ior hx hb dX12_tickOn_98 ?_
            refine lv_istore_n (lv' := [(3, .int (v3 ||| ((1 : Int32) <<< (v4 &&& 31)))), (0, .ref m_a), (1, .ref za), (2, .int v2), (4, .int v4)]) hx hb dX12_tickOn_99 rfl hl (by decide) rfl (fun ls hl => ?_)
            refine lv_iinc (v := v4 + 1) (lv' := [(4, .int (v4 + 1)), (3, .int (v3 ||| ((1 : Int32) <<< (v4 &&& 31)))), (0, .ref m_a), (1, .ref za), (2, .int v2)]) hx hb dX12_tickOn_100 hl (k := 4) rfl (by rfl) (by decide) rfl (fun ls hl => ?_)
            refine lv_goto (tgt := 60) hx hb dX12_tickOn_103 (by decide) ?_
            exact ih_60 m_length m_jumpers m_undos m_seen m_trail m_place m_wrong m_items m_saidEvery m_readEvery m_readJumpers m_period m_hang z v2 (v3 ||| ((1 : Int32) <<< (v4 &&& 31))) (v4 + 1) _ _ hF _ _ _ hP hD hS (lv_sub hl [2, 3, 4, 1, 0] rfl) hexit_60
  refine lv_iconst (v := 0) hx hb dX12_tickOn_0 (by decide) ?_
  refine lv_istore_n (lv' := [(3, .int 0), (0, .ref m_a), (1, .ref za), (2, .int p2)]) hx hb dX12_tickOn_1 rfl hl (by decide) rfl (fun ls hl => ?_)
  refine lv_iconst (v := 0) hx hb dX12_tickOn_2 (by decide) ?_
  refine lv_istore (lv' := [(4, .int 0), (3, .int 0), (0, .ref m_a), (1, .ref za), (2, .int p2)]) hx hb dX12_tickOn_3 hl (by decide) rfl (fun ls hl => ?_)
  obtain ⟨z_17, v4_18, hL_19, hF⟩ := zb2_s hF
  refine hloop_5 300 m_length m_jumpers m_undos m_seen m_trail m_place m_wrong m_items m_saidEvery m_readEvery m_readJumpers m_period m_hang z p2 0 0 z_17 v4_18 hL_19 _ _ _ hP hD hS (lv_sub hl [2, 3, 4, 1, 0] rfl) (fun H locs ls hP hD hS hl => ?_)
  refine lv_aload_n hx hb dX12_tickOn_44 rfl (lv_at hl 1 rfl) ?_
  refine lv_iconst (v := 2) hx hb dX12_tickOn_45 (by decide) ?_
  refine lv_dup2_11 hx hb dX12_tickOn_46 rfl rfl ?_
  refine va_iald hx hb hK hP 3 0 rfl rfl (show ¬ ((2 : Int32) < 0 ∨ 22 ≤ (2 : Int32).toNatClampNeg) by decide) dX12_tickOn_47 ?_
  refine lv_iconst (v := 1) hx hb dX12_tickOn_48 (by decide) ?_
  refine lv_isub hx hb dX12_tickOn_49 ?_
  refine va_iast hx hb hK hP hD hS 3 0 rfl rfl (show ¬ ((2 : Int32) < 0 ∨ 22 ≤ (2 : Int32).toNatClampNeg) by decide) dX12_tickOn_50 (fun H locs hP hD hS => ?_)
  have hP : va_P D classes [(m_a, .inr (12, [.ref m_a_letters, .int m_length, .int m_jumpers, .ref m_a_period, .ref m_a_hang, .ref m_a_st, .ref m_a_now, .ref m_a_book, .int m_undos, .ref m_a_images, .ref m_a_isKept, .int m_seen, .ref m_a_seenHang, .ref m_a_seenTick, .ref m_a_seenUp, .long m_trail, .int m_place, .int m_wrong, .int m_items, .int m_saidEvery, .int m_readEvery, .int m_readJumpers, .ref m_a_readOne])), (m_a_period, .inl (cI, 6, .inl m_period)), (m_a_hang, .inl (cI, 6, .inl m_hang)), (za, .inl (cI, 22, .inl (upd z_17 (2 : Int32).toNatClampNeg ((z_17 (2 : Int32).toNatClampNeg) - 1))))] H := hP
  have hD : va_D A [(m_a, .inr (12, [.ref m_a_letters, .int m_length, .int m_jumpers, .ref m_a_period, .ref m_a_hang, .ref m_a_st, .ref m_a_now, .ref m_a_book, .int m_undos, .ref m_a_images, .ref m_a_isKept, .int m_seen, .ref m_a_seenHang, .ref m_a_seenTick, .ref m_a_seenUp, .long m_trail, .int m_place, .int m_wrong, .int m_items, .int m_saidEvery, .int m_readEvery, .int m_readJumpers, .ref m_a_readOne])), (m_a_period, .inl (cI, 6, .inl m_period)), (m_a_hang, .inl (cI, 6, .inl m_hang)), (za, .inl (cI, 22, .inl (upd z_17 (2 : Int32).toNatClampNeg ((z_17 (2 : Int32).toNatClampNeg) - 1))))] := hD
  refine lv_aload_n hx hb dX12_tickOn_51 rfl (lv_at hl 1 rfl) ?_
  refine lv_iconst (v := 2) hx hb dX12_tickOn_52 (by decide) ?_
  refine va_iald hx hb hK hP 3 0 rfl rfl (show ¬ ((2 : Int32) < 0 ∨ 22 ≤ (2 : Int32).toNatClampNeg) by decide) dX12_tickOn_53 ?_
  refine lv_if_ne (tgt := 122) hx hb dX12_tickOn_54 (by decide) (fun c_20 => ?_) (fun c_20 => ?_)
  · have hF := zi_neg c_20 hF
    refine lv_iconst (v := 0) hx hb dX12_tickOn_122 (by decide) ?_
    refine lv_istore (lv' := [(4, .int 0), (0, .ref m_a), (1, .ref za), (2, .int p2), (3, .int 0)]) hx hb dX12_tickOn_123 hl (by decide) rfl (fun ls hl => ?_)
    obtain ⟨z_45, v4_46, hL_47, hF⟩ := zb2_s hF
    refine hloop_125 300 m_length m_jumpers m_undos m_seen m_trail m_place m_wrong m_items m_saidEvery m_readEvery m_readJumpers m_period m_hang (upd z_17 (2 : Int32).toNatClampNeg ((z_17 (2 : Int32).toNatClampNeg) - 1)) p2 0 0 z_45 v4_46 hL_47 _ _ _ hP hD hS (lv_sub hl [1, 2, 3, 4, 0] rfl) (fun H locs ls hP hD hS hl => ?_)
    refine lv_aload_n hx hb dX12_tickOn_204 rfl (lv_at hl 1 rfl) ?_
    refine lv_iconst (v := 0) hx hb dX12_tickOn_205 (by decide) ?_
    refine lv_dup2_11 hx hb dX12_tickOn_206 rfl rfl ?_
    refine va_iald hx hb hK hP 3 0 rfl rfl (show ¬ ((0 : Int32) < 0 ∨ 22 ≤ (0 : Int32).toNatClampNeg) by decide) dX12_tickOn_207 ?_
    refine lv_iconst (v := 1) hx hb dX12_tickOn_208 (by decide) ?_
    refine lv_iadd hx hb dX12_tickOn_209 ?_
    refine va_iast hx hb hK hP hD hS 3 0 rfl rfl (show ¬ ((0 : Int32) < 0 ∨ 22 ≤ (0 : Int32).toNatClampNeg) by decide) dX12_tickOn_210 (fun H locs hP hD hS => ?_)
    have hP : va_P D classes [(m_a, .inr (12, [.ref m_a_letters, .int m_length, .int m_jumpers, .ref m_a_period, .ref m_a_hang, .ref m_a_st, .ref m_a_now, .ref m_a_book, .int m_undos, .ref m_a_images, .ref m_a_isKept, .int m_seen, .ref m_a_seenHang, .ref m_a_seenTick, .ref m_a_seenUp, .long m_trail, .int m_place, .int m_wrong, .int m_items, .int m_saidEvery, .int m_readEvery, .int m_readJumpers, .ref m_a_readOne])), (m_a_period, .inl (cI, 6, .inl m_period)), (m_a_hang, .inl (cI, 6, .inl m_hang)), (za, .inl (cI, 22, .inl (upd z_45 (0 : Int32).toNatClampNeg ((z_45 (0 : Int32).toNatClampNeg) + 1))))] H := hP
    have hD : va_D A [(m_a, .inr (12, [.ref m_a_letters, .int m_length, .int m_jumpers, .ref m_a_period, .ref m_a_hang, .ref m_a_st, .ref m_a_now, .ref m_a_book, .int m_undos, .ref m_a_images, .ref m_a_isKept, .int m_seen, .ref m_a_seenHang, .ref m_a_seenTick, .ref m_a_seenUp, .long m_trail, .int m_place, .int m_wrong, .int m_items, .int m_saidEvery, .int m_readEvery, .int m_readJumpers, .ref m_a_readOne])), (m_a_period, .inl (cI, 6, .inl m_period)), (m_a_hang, .inl (cI, 6, .inl m_hang)), (za, .inl (cI, 22, .inl (upd z_45 (0 : Int32).toNatClampNeg ((z_45 (0 : Int32).toNatClampNeg) + 1))))] := hD
    refine lv_iload_n hx hb dX12_tickOn_211 rfl (lv_at hl 3 rfl) ?_
    obtain ⟨e_0, e_1⟩ := zo2 hF
    subst e_0
    subst e_1
    exact zret_i S hr hlocks hK hP hD hS dX12_tickOn_212
  · have hF := zi_pos c_20 hF
    refine lv_iconst (v := 0) hx hb dX12_tickOn_57 (by decide) ?_
    refine lv_istore (lv' := [(4, .int 0), (0, .ref m_a), (1, .ref za), (2, .int p2), (3, .int 0)]) hx hb dX12_tickOn_58 hl (by decide) rfl (fun ls hl => ?_)
    obtain ⟨v3_60, v4_61, hL_62, hF⟩ := zb2_s hF
    refine hloop_60 300 m_length m_jumpers m_undos m_seen m_trail m_place m_wrong m_items m_saidEvery m_readEvery m_readJumpers m_period m_hang (upd z_17 (2 : Int32).toNatClampNeg ((z_17 (2 : Int32).toNatClampNeg) - 1)) p2 0 0 v3_60 v4_61 hL_62 _ _ _ hP hD hS (lv_sub hl [1, 2, 3, 4, 0] rfl) (fun H locs ls hP hD hS hl => ?_)
    refine lv_aload_n hx hb dX12_tickOn_106 rfl (lv_at hl 1 rfl) ?_
    refine lv_iconst (v := 2) hx hb dX12_tickOn_107 (by decide) ?_
    refine lv_aload_n hx hb dX12_tickOn_108 rfl (lv_at hl 1 rfl) ?_
    refine lv_iconst (v := 1) hx hb dX12_tickOn_109 (by decide) ?_
    refine va_iald hx hb hK hP 3 0 rfl rfl (show ¬ ((1 : Int32) < 0 ∨ 22 ≤ (1 : Int32).toNatClampNeg) by decide) dX12_tickOn_110 ?_
    refine lv_iload_n hx hb dX12_tickOn_111 rfl (lv_at hl 3 rfl) ?_
    refine lv_if_ne (tgt := 119) hx hb dX12_tickOn_112 (by decide) (fun c_63 => ?_) (fun c_63 => ?_)
    · have hF := zi_neg c_63 hF
      refine lv_iconst (v := 1) hx hb dX12_tickOn_119 (by decide) ?_
      refine lv_iadd hx hb dX12_tickOn_120 ?_
      refine va_iast hx hb hK hP hD hS 3 0 rfl rfl (show ¬ ((2 : Int32) < 0 ∨ 22 ≤ (2 : Int32).toNatClampNeg) by decide) dX12_tickOn_121 (fun H locs hP hD hS => ?_)
      have hP : va_P D classes [(m_a, .inr (12, [.ref m_a_letters, .int m_length, .int m_jumpers, .ref m_a_period, .ref m_a_hang, .ref m_a_st, .ref m_a_now, .ref m_a_book, .int m_undos, .ref m_a_images, .ref m_a_isKept, .int m_seen, .ref m_a_seenHang, .ref m_a_seenTick, .ref m_a_seenUp, .long m_trail, .int m_place, .int m_wrong, .int m_items, .int m_saidEvery, .int m_readEvery, .int m_readJumpers, .ref m_a_readOne])), (m_a_period, .inl (cI, 6, .inl m_period)), (m_a_hang, .inl (cI, 6, .inl m_hang)), (za, .inl (cI, 22, .inl (upd (upd z_17 (2 : Int32).toNatClampNeg ((z_17 (2 : Int32).toNatClampNeg) - 1)) (2 : Int32).toNatClampNeg (((upd z_17 (2 : Int32).toNatClampNeg ((z_17 (2 : Int32).toNatClampNeg) - 1)) (1 : Int32).toNatClampNeg) + 1))))] H := hP
      have hD : va_D A [(m_a, .inr (12, [.ref m_a_letters, .int m_length, .int m_jumpers, .ref m_a_period, .ref m_a_hang, .ref m_a_st, .ref m_a_now, .ref m_a_book, .int m_undos, .ref m_a_images, .ref m_a_isKept, .int m_seen, .ref m_a_seenHang, .ref m_a_seenTick, .ref m_a_seenUp, .long m_trail, .int m_place, .int m_wrong, .int m_items, .int m_saidEvery, .int m_readEvery, .int m_readJumpers, .ref m_a_readOne])), (m_a_period, .inl (cI, 6, .inl m_period)), (m_a_hang, .inl (cI, 6, .inl m_hang)), (za, .inl (cI, 22, .inl (upd (upd z_17 (2 : Int32).toNatClampNeg ((z_17 (2 : Int32).toNatClampNeg) - 1)) (2 : Int32).toNatClampNeg (((upd z_17 (2 : Int32).toNatClampNeg ((z_17 (2 : Int32).toNatClampNeg) - 1)) (1 : Int32).toNatClampNeg) + 1))))] := hD
      refine lv_iconst (v := 0) hx hb dX12_tickOn_122 (by decide) ?_
      refine lv_istore (lv' := [(4, .int 0), (0, .ref m_a), (1, .ref za), (2, .int p2), (3, .int v3_60)]) hx hb dX12_tickOn_123 hl (by decide) rfl (fun ls hl => ?_)
      obtain ⟨z_64, v4_65, hL_66, hF⟩ := zb2_s hF
      refine hloop_125 300 m_length m_jumpers m_undos m_seen m_trail m_place m_wrong m_items m_saidEvery m_readEvery m_readJumpers m_period m_hang (upd (upd z_17 (2 : Int32).toNatClampNeg ((z_17 (2 : Int32).toNatClampNeg) - 1)) (2 : Int32).toNatClampNeg (((upd z_17 (2 : Int32).toNatClampNeg ((z_17 (2 : Int32).toNatClampNeg) - 1)) (1 : Int32).toNatClampNeg) + 1)) p2 v3_60 0 z_64 v4_65 hL_66 _ _ _ hP hD hS (lv_sub hl [1, 2, 3, 4, 0] rfl) (fun H locs ls hP hD hS hl => ?_)
      refine lv_aload_n hx hb dX12_tickOn_204 rfl (lv_at hl 1 rfl) ?_
      refine lv_iconst (v := 0) hx hb dX12_tickOn_205 (by decide) ?_
      refine lv_dup2_11 hx hb dX12_tickOn_206 rfl rfl ?_
      refine va_iald hx hb hK hP 3 0 rfl rfl (show ¬ ((0 : Int32) < 0 ∨ 22 ≤ (0 : Int32).toNatClampNeg) by decide) dX12_tickOn_207 ?_
      refine lv_iconst (v := 1) hx hb dX12_tickOn_208 (by decide) ?_
      refine lv_iadd hx hb dX12_tickOn_209 ?_
      refine va_iast hx hb hK hP hD hS 3 0 rfl rfl (show ¬ ((0 : Int32) < 0 ∨ 22 ≤ (0 : Int32).toNatClampNeg) by decide) dX12_tickOn_210 (fun H locs hP hD hS => ?_)
      have hP : va_P D classes [(m_a, .inr (12, [.ref m_a_letters, .int m_length, .int m_jumpers, .ref m_a_period, .ref m_a_hang, .ref m_a_st, .ref m_a_now, .ref m_a_book, .int m_undos, .ref m_a_images, .ref m_a_isKept, .int m_seen, .ref m_a_seenHang, .ref m_a_seenTick, .ref m_a_seenUp, .long m_trail, .int m_place, .int m_wrong, .int m_items, .int m_saidEvery, .int m_readEvery, .int m_readJumpers, .ref m_a_readOne])), (m_a_period, .inl (cI, 6, .inl m_period)), (m_a_hang, .inl (cI, 6, .inl m_hang)), (za, .inl (cI, 22, .inl (upd z_64 (0 : Int32).toNatClampNeg ((z_64 (0 : Int32).toNatClampNeg) + 1))))] H := hP
      have hD : va_D A [(m_a, .inr (12, [.ref m_a_letters, .int m_length, .int m_jumpers, .ref m_a_period, .ref m_a_hang, .ref m_a_st, .ref m_a_now, .ref m_a_book, .int m_undos, .ref m_a_images, .ref m_a_isKept, .int m_seen, .ref m_a_seenHang, .ref m_a_seenTick, .ref m_a_seenUp, .long m_trail, .int m_place, .int m_wrong, .int m_items, .int m_saidEvery, .int m_readEvery, .int m_readJumpers, .ref m_a_readOne])), (m_a_period, .inl (cI, 6, .inl m_period)), (m_a_hang, .inl (cI, 6, .inl m_hang)), (za, .inl (cI, 22, .inl (upd z_64 (0 : Int32).toNatClampNeg ((z_64 (0 : Int32).toNatClampNeg) + 1))))] := hD
      refine lv_iload_n hx hb dX12_tickOn_211 rfl (lv_at hl 3 rfl) ?_
      obtain ⟨e_0, e_1⟩ := zo2 hF
      subst e_0
      subst e_1
      exact zret_i S hr hlocks hK hP hD hS dX12_tickOn_212
    · have hF := zi_pos c_63 hF
      refine lv_iconst (v := 0) hx hb dX12_tickOn_115 (by decide) ?_
      refine lv_goto (tgt := 120) hx hb dX12_tickOn_116 (by decide) ?_
      refine lv_iadd hx hb dX12_tickOn_120 ?_
      refine va_iast hx hb hK hP hD hS 3 0 rfl rfl (show ¬ ((2 : Int32) < 0 ∨ 22 ≤ (2 : Int32).toNatClampNeg) by decide) dX12_tickOn_121 (fun H locs hP hD hS => ?_)
      have hP : va_P D classes [(m_a, .inr (12, [.ref m_a_letters, .int m_length, .int m_jumpers, .ref m_a_period, .ref m_a_hang, .ref m_a_st, .ref m_a_now, .ref m_a_book, .int m_undos, .ref m_a_images, .ref m_a_isKept, .int m_seen, .ref m_a_seenHang, .ref m_a_seenTick, .ref m_a_seenUp, .long m_trail, .int m_place, .int m_wrong, .int m_items, .int m_saidEvery, .int m_readEvery, .int m_readJumpers, .ref m_a_readOne])), (m_a_period, .inl (cI, 6, .inl m_period)), (m_a_hang, .inl (cI, 6, .inl m_hang)), (za, .inl (cI, 22, .inl (upd (upd z_17 (2 : Int32).toNatClampNeg ((z_17 (2 : Int32).toNatClampNeg) - 1)) (2 : Int32).toNatClampNeg (((upd z_17 (2 : Int32).toNatClampNeg ((z_17 (2 : Int32).toNatClampNeg) - 1)) (1 : Int32).toNatClampNeg) + 0))))] H := hP
      have hD : va_D A [(m_a, .inr (12, [.ref m_a_letters, .int m_length, .int m_jumpers, .ref m_a_period, .ref m_a_hang, .ref m_a_st, .ref m_a_now, .ref m_a_book, .int m_undos, .ref m_a_images, .ref m_a_isKept, .int m_seen, .ref m_a_seenHang, .ref m_a_seenTick, .ref m_a_seenUp, .long m_trail, .int m_place, .int m_wrong, .int m_items, .int m_saidEvery, .int m_readEvery, .int m_readJumpers, .ref m_a_readOne])), (m_a_period, .inl (cI, 6, .inl m_period)), (m_a_hang, .inl (cI, 6, .inl m_hang)), (za, .inl (cI, 22, .inl (upd (upd z_17 (2 : Int32).toNatClampNeg ((z_17 (2 : Int32).toNatClampNeg) - 1)) (2 : Int32).toNatClampNeg (((upd z_17 (2 : Int32).toNatClampNeg ((z_17 (2 : Int32).toNatClampNeg) - 1)) (1 : Int32).toNatClampNeg) + 0))))] := hD
      refine lv_iconst (v := 0) hx hb dX12_tickOn_122 (by decide) ?_
      refine lv_istore (lv' := [(4, .int 0), (0, .ref m_a), (1, .ref za), (2, .int p2), (3, .int v3_60)]) hx hb dX12_tickOn_123 hl (by decide) rfl (fun ls hl => ?_)
      obtain ⟨z_67, v4_68, hL_69, hF⟩ := zb2_s hF
      refine hloop_125 300 m_length m_jumpers m_undos m_seen m_trail m_place m_wrong m_items m_saidEvery m_readEvery m_readJumpers m_period m_hang (upd (upd z_17 (2 : Int32).toNatClampNeg ((z_17 (2 : Int32).toNatClampNeg) - 1)) (2 : Int32).toNatClampNeg (((upd z_17 (2 : Int32).toNatClampNeg ((z_17 (2 : Int32).toNatClampNeg) - 1)) (1 : Int32).toNatClampNeg) + 0)) p2 v3_60 0 z_67 v4_68 hL_69 _ _ _ hP hD hS (lv_sub hl [1, 2, 3, 4, 0] rfl) (fun H locs ls hP hD hS hl => ?_)
      refine lv_aload_n hx hb dX12_tickOn_204 rfl (lv_at hl 1 rfl) ?_
      refine lv_iconst (v := 0) hx hb dX12_tickOn_205 (by decide) ?_
      refine lv_dup2_11 hx hb dX12_tickOn_206 rfl rfl ?_
      refine va_iald hx hb hK hP 3 0 rfl rfl (show ¬ ((0 : Int32) < 0 ∨ 22 ≤ (0 : Int32).toNatClampNeg) by decide) dX12_tickOn_207 ?_
      refine lv_iconst (v := 1) hx hb dX12_tickOn_208 (by decide) ?_
      refine lv_iadd hx hb dX12_tickOn_209 ?_
      refine va_iast hx hb hK hP hD hS 3 0 rfl rfl (show ¬ ((0 : Int32) < 0 ∨ 22 ≤ (0 : Int32).toNatClampNeg) by decide) dX12_tickOn_210 (fun H locs hP hD hS => ?_)
      have hP : va_P D classes [(m_a, .inr (12, [.ref m_a_letters, .int m_length, .int m_jumpers, .ref m_a_period, .ref m_a_hang, .ref m_a_st, .ref m_a_now, .ref m_a_book, .int m_undos, .ref m_a_images, .ref m_a_isKept, .int m_seen, .ref m_a_seenHang, .ref m_a_seenTick, .ref m_a_seenUp, .long m_trail, .int m_place, .int m_wrong, .int m_items, .int m_saidEvery, .int m_readEvery, .int m_readJumpers, .ref m_a_readOne])), (m_a_period, .inl (cI, 6, .inl m_period)), (m_a_hang, .inl (cI, 6, .inl m_hang)), (za, .inl (cI, 22, .inl (upd z_67 (0 : Int32).toNatClampNeg ((z_67 (0 : Int32).toNatClampNeg) + 1))))] H := hP
      have hD : va_D A [(m_a, .inr (12, [.ref m_a_letters, .int m_length, .int m_jumpers, .ref m_a_period, .ref m_a_hang, .ref m_a_st, .ref m_a_now, .ref m_a_book, .int m_undos, .ref m_a_images, .ref m_a_isKept, .int m_seen, .ref m_a_seenHang, .ref m_a_seenTick, .ref m_a_seenUp, .long m_trail, .int m_place, .int m_wrong, .int m_items, .int m_saidEvery, .int m_readEvery, .int m_readJumpers, .ref m_a_readOne])), (m_a_period, .inl (cI, 6, .inl m_period)), (m_a_hang, .inl (cI, 6, .inl m_hang)), (za, .inl (cI, 22, .inl (upd z_67 (0 : Int32).toNatClampNeg ((z_67 (0 : Int32).toNatClampNeg) + 1))))] := hD
      refine lv_iload_n hx hb dX12_tickOn_211 rfl (lv_at hl 3 rfl) ?_
      obtain ⟨e_0, e_1⟩ := zo2 hF
      subst e_0
      subst e_1
      exact zret_i S hr hlocks hK hP hD hS dX12_tickOn_212
