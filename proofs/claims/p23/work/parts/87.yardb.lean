/-! the yard: the text tells all anew, both sides -/
theorem r29 {f : Nat} (h : f ≤ 120) : ¬ nI f = -9 := by
  intro z
  have h1 : (-9 : Int32) < 0 := by decide
  rw [← z] at h1
  exact nI_pos (by omega) h1
theorem yard_s {n : Nat} (hn : n ≤ 120) (l : Nat → Int32) (st tok val : Int32) (parts dp dh ds dw : Nat → Int32) (t e r i : Int32) (up due w : Nat → Int32) (us ws : Int32) (kp : Nat → Int32) (ca da : Nat) (mj mu ms : Int32) (mp mh mst mk ro : Nat → Int32) :
    (∃ v it pl st' tok' val' parts' de' dz' dp' dh' ds' dw' pl' wr' it' sd' re' rj' ro', F_X11_yard (nI n) st tok val l parts dp dh ds dw t e r i up due w us ws kp ca da = some (v, nI n, it, pl, st', tok', val', parts', de', dz', dp', dh', ds', dw', t, e, r, i, up, due, w, us, ws, kp, ca, da) ∧ F_X12_yard (nI n) mj mu ms l mp mh mst mk ro = some (v, nI n, mj, mu, ms, pl', wr', it', sd', re', rj', mp, mh, mst, mk, ro')) ∨
    ∃ k v it pl st' tok' val' parts' de' dp' dh' ds' dw' t' e' r' i' up' due' w' kp' pl' wr' it' sd' re' rj' mp' mh' mst' mk' ro', k ≤ 6 ∧ F_X11_yard (nI n) st tok val l parts dp dh ds dw t e r i up due w us ws kp ca da = some (v, 0, it, pl, st', tok', val', parts', de', nI k, dp', dh', ds', dw', t', e', r', i', up', due', w', 0, 0, kp', da, ca) ∧ F_X12_yard (nI n) mj mu ms l mp mh mst mk ro = some (v, 0, nI k, 0, 0, pl', wr', it', sd', re', rj', mp', mh', mst', mk', ro') ∧ CR k dp' dh' mp' mh' ∧ SQ k t' e' r' i' up' due' w' mst' ∧ ∀ j, j < 2 → kp' j = 0 ∧ mk' j = 0 := by
  have hp := parse_sim (l := l) hn (n + 1) 0 0 0 300 300 0 st tok val 4 0 parts dp dh ds dw ro (by omega) (by omega) (by omega) (by omega) (by omega) (by omega) (Or.inl rfl) jrel_0 (by decide) (by decide)
  unfold F_X11_yard F_X12_yard F_X10_readInto F_X12_readYard F_X1_reset
  rw [show F_X12_skips (nI n) 0 l = some (nI (nq l n 0)) from skips_sp l n 0 hn (by omega)]
  rcases hp with ⟨f, hf, ⟨⟨o1, o2, o3, o4, o5, o6, o7, o8, o9, o10, o11, o12⟩, hC⟩, pl, ⟨m1, m2, m3, m4, m5⟩, hM⟩ | ⟨it, k, ce, cp, ch, ct, cw, ro', hk, ⟨a, b, d, e', g, hC⟩, ⟨pl, sd, hM⟩, hj, hc1, hc2⟩
  · left
    simp only [zb2, zb1, Option.bind_some]
    rw [show L_X10_readInto_18 (nI n) l 300 0 0 st tok val parts 4 0 dp dh ds dw 0 0 = _ from hC, show L_X12_readYard_34 (nI n) l 300 (nI (nq l n 0)) (-1) 0 0 4 0 ro = _ from hM]
    simp only [zs14, zb13, zb7, Option.bind_some]
    rw [if_neg (r29 (by omega)), if_neg (nI_pos (show f < 2 ^ 31 by omega))]
    exact ⟨_, _, _, _, _, _, _, _, _, _, _, _, _, _, _, _, _, _, _, _, rfl, rfl⟩
  · right
    simp only [zb2, zb1, Option.bind_some]
    rw [show L_X10_readInto_18 (nI n) l 300 0 0 st tok val parts 4 0 dp dh ds dw 0 0 = _ from hC, show L_X12_readYard_34 (nI n) l 300 (nI (nq l n 0)) (-1) 0 0 4 0 ro = _ from hM]
    simp only [zs14, zb13, zb7, Option.bind_some, if_true]
    rw [if_pos (show (-1 : Int32) < 0 by decide)]
    obtain ⟨up', due', w', O1, O2, O3⟩ := op_l ct cw 300 0 up due w (by omega) (by omega)
    obtain ⟨kp', K1, K2⟩ := y78 kp
    obtain ⟨z1, Y1, Y2, Y3⟩ := y34_l 300 0 mst (by omega) (by omega)
    obtain ⟨mp', mh', z2, W1, W2, W3, W4⟩ := y89_l k hk ro' 300 0 mp mh (upd (upd (upd z1 1 ce) 2 ce) 3 (nI (2 ^ k - 1))) (by omega) (by omega)
    have hal : ((1 : Int32) <<< (nI k &&& 31)) - 1 = nI (2 ^ k - 1) := bm_all k (by omega)
    unfold F_X8_open
    rw [show L_X8_open_35 ct cw 300 up due w 0 = _ from O1, K1, show L_X12_yard_34 300 mst 0 = _ from Y1, hal]
    simp only [zb4, zb2, Option.bind_some]
    rw [show L_X12_yard_89 (nI k) ro' 300 mp mh (upd (upd (upd z1 (1 : Int32).toNatClampNeg ce) (2 : Int32).toNatClampNeg ce) (3 : Int32).toNatClampNeg (nI (2 ^ k - 1))) 0 = _ from W1]
    simp only [Option.bind_some]
    refine ⟨k, _, _, _, _, _, _, _, _, _, _, _, _, _, _, _, _, _, _, _, _, _, _, _, _, _, _, _, _, _, _, _, hk, rfl, rfl, ?_, ?_, ?_⟩
    · intro j hjk
      obtain ⟨a1, a2, a3, a4, a5, a6, a7, a8⟩ := hj j hjk
      obtain ⟨b1, b2, b3, b4⟩ := W2 j (by omega) hjk
      refine ⟨by rw [a1, b1], by rw [a2, b2], ?_, ?_⟩
      · exact rng (a := 2) (b := 12) (by omega) (by omega) a5.1 a5.2
      · exact rng (a := 1) (b := 4) (by omega) (by omega) a6.1 a6.2
    · obtain ⟨cv, c1, c2, rfl⟩ := rng (a := 2) (b := 9) (by omega) (by omega) hc1 hc2
      have hlt : 2 ^ k - 1 < 2 ^ k := by
        have := Nat.two_pow_pos k
        omega
      refine ⟨2 ^ k - 1, rfl, ⟨0, by omega, rfl⟩, hlt, ?_, ?_, ?_, ?_, ⟨cv, c1, c2, rfl⟩, ⟨cv, by omega, by omega, rfl⟩, fun j hjk => ?_, fun j hj6 tb => ?_⟩
      · rw [W4 3 (by omega), pk_us]
      · rw [W4 0 (by omega), pk_un (by omega), pk_un (by omega), pk_un (by omega), Y2 0 (by omega) (by omega)]
      · rw [W4 1 (by omega), pk_un (by omega), pk_un (by omega), pk_us]
      · rw [W4 2 (by omega), pk_un (by omega), pk_us]
      · obtain ⟨a1, a2, a3, a4, a5, a6, a7, a8⟩ := hj j hjk
        rw [(O2 j (by omega) (by omega)).2.2, (W2 j (by omega) hjk).2.2.2, a4]
      · have hjk := tb_lt hlt tb
        obtain ⟨a1, a2, a3, a4, a5, a6, a7, a8⟩ := hj j hjk
        obtain ⟨b1, b2, b3⟩ := O2 j (by omega) hj6
        rw [b1, b2, W4 (4 + j) (by omega), pk_un (by omega), pk_un (by omega), pk_un (by omega), Y2 (4 + j) (by omega) (by omega), (W2 j (by omega) hjk).2.2.1, a3]
        refine ⟨rfl, rfl, ⟨0, by omega, rfl⟩, ?_⟩
        obtain ⟨v, v1, v2, v3⟩ := rng (a := 0) (b := 11) (by omega) (by omega) a7.1 a7.2
        exact ⟨v, by omega, by rw [← a3]; exact v3⟩
    · intro j hj2
      refine ⟨K2 j hj2, ?_⟩
      rcases (show j = 0 ∨ j = 1 by omega) with rfl | rfl
      · show upd (upd mk 0 (vp_nar .boolean 0)) 1 (vp_nar .boolean 0) 0 = 0
        rw [pk_un (by decide), pk_us, nar0]
      · show upd (upd mk 0 (vp_nar .boolean 0)) 1 (vp_nar .boolean 0) 1 = 0
        rw [pk_us, nar0]
