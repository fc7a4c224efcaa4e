/-! THE CLASS ALONE: plain queries -/
section Q1
variable {d mc ms : Nat} {Γ : am_G} {I : am_I} {L : am_L} {w : Nat → Int32} {h : Nat → Nat → Int32} {s : Nat}
theorem qX_questionCount (hF : wF Γ) (R : CS I L w h s)  : am_E m_X8_questionCount (d + 20) 0 0 [.ref 0] Γ I L (.inl (some (.int (w 0)))) I L := by
  obtain ⟨⟨o, f0, f1, f2, f3, f4, f5, f6, f7⟩, so, st, dr, ⟨ro, rr0, rr5, rr6, ra⟩, hi, sv, ⟨oo, or0, or2, oa, oa2⟩, hm, am, am2⟩ := id hF
  obtain ⟨ob, s4, s5, s6, s7, s8, s9, s10, b1, b2, b3, b4, b5, b6, o7, hg⟩ := id st
  obtain ⟨⟨n0, n1, n2, n3⟩, ⟨w0, w1, w2⟩, q6, t8, g4, q0, t0, g0⟩ := R.nums
  refine am_ofE rfl rfl rfl (Nat.le_of_ble_eq_true rfl) ?_
  refine bX8_questionCount_0 (by assumption) (by assumption) (by assumption) ?_
  exact am_R_e (n0.trans w0.symm) rfl rfl
theorem qX_typeCount (hF : wF Γ) (R : CS I L w h s)  : am_E m_X8_typeCount (d + 20) 0 0 [.ref 0] Γ I L (.inl (some (.int (w 1)))) I L := by
  obtain ⟨⟨o, f0, f1, f2, f3, f4, f5, f6, f7⟩, so, st, dr, ⟨ro, rr0, rr5, rr6, ra⟩, hi, sv, ⟨oo, or0, or2, oa, oa2⟩, hm, am, am2⟩ := id hF
  obtain ⟨ob, s4, s5, s6, s7, s8, s9, s10, b1, b2, b3, b4, b5, b6, o7, hg⟩ := id st
  obtain ⟨⟨n0, n1, n2, n3⟩, ⟨w0, w1, w2⟩, q6, t8, g4, q0, t0, g0⟩ := R.nums
  refine am_ofE rfl rfl rfl (Nat.le_of_ble_eq_true rfl) ?_
  refine bX8_typeCount_0 (by assumption) (by assumption) (by assumption) ?_
  exact am_R_e (n1.trans w1.symm) rfl rfl
theorem qX_gateCount (hF : wF Γ) (R : CS I L w h s)  : am_E m_X8_gateCount (d + 20) 0 0 [.ref 0] Γ I L (.inl (some (.int (w 2)))) I L := by
  obtain ⟨⟨o, f0, f1, f2, f3, f4, f5, f6, f7⟩, so, st, dr, ⟨ro, rr0, rr5, rr6, ra⟩, hi, sv, ⟨oo, or0, or2, oa, oa2⟩, hm, am, am2⟩ := id hF
  obtain ⟨ob, s4, s5, s6, s7, s8, s9, s10, b1, b2, b3, b4, b5, b6, o7, hg⟩ := id st
  obtain ⟨⟨n0, n1, n2, n3⟩, ⟨w0, w1, w2⟩, q6, t8, g4, q0, t0, g0⟩ := R.nums
  refine am_ofE rfl rfl rfl (Nat.le_of_ble_eq_true rfl) ?_
  refine bX8_gateCount_0 (by assumption) (by assumption) (by assumption) ?_
  exact am_R_e (n2.trans w2.symm) rfl rfl
theorem qX_clock (hF : wF Γ) (R : CS I L w h s)  : am_E m_X8_clock (d + 20) 0 0 [.ref 0] Γ I L (.inl (some (.int (w 3)))) I L := by
  obtain ⟨⟨o, f0, f1, f2, f3, f4, f5, f6, f7⟩, so, st, dr, ⟨ro, rr0, rr5, rr6, ra⟩, hi, sv, ⟨oo, or0, or2, oa, oa2⟩, hm, am, am2⟩ := id hF
  obtain ⟨ob, s4, s5, s6, s7, s8, s9, s10, b1, b2, b3, b4, b5, b6, o7, hg⟩ := id st
  obtain ⟨⟨n0, n1, n2, n3⟩, ⟨w0, w1, w2⟩, q6, t8, g4, q0, t0, g0⟩ := R.nums
  refine am_ofE rfl rfl rfl (Nat.le_of_ble_eq_true rfl) ?_
  refine bX8_clock_0 (by assumption) (by assumption) (by assumption) ?_
  exact am_R_e n3 rfl rfl
theorem qX_cartsPassed (hF : wF Γ) (R : CS I L w h s)  : am_E m_X8_cartsPassed (d + 20) 0 0 [.ref 0] Γ I L (.inl (some (.int (w 4)))) I L := by
  obtain ⟨⟨o, f0, f1, f2, f3, f4, f5, f6, f7⟩, so, st, dr, ⟨ro, rr0, rr5, rr6, ra⟩, hi, sv, ⟨oo, or0, or2, oa, oa2⟩, hm, am, am2⟩ := id hF
  obtain ⟨ob, s4, s5, s6, s7, s8, s9, s10, b1, b2, b3, b4, b5, b6, o7, hg⟩ := id st
  obtain ⟨⟨n0, n1, n2, n3⟩, ⟨w0, w1, w2⟩, q6, t8, g4, q0, t0, g0⟩ := R.nums
  refine am_ofE rfl rfl rfl (Nat.le_of_ble_eq_true rfl) ?_
  refine bX8_cartsPassed_0 (by assumption) (by assumption) (by assumption) (by assumption) (by assumption) ?_
  exact am_R_e (R.2.1.2.2.2.1 0 (by decide)) rfl rfl
theorem qX_costAsked (hF : wF Γ) (R : CS I L w h s)  : am_E m_X8_costAsked (d + 20) 0 0 [.ref 0] Γ I L (.inl (some (.int (w 5)))) I L := by
  obtain ⟨⟨o, f0, f1, f2, f3, f4, f5, f6, f7⟩, so, st, dr, ⟨ro, rr0, rr5, rr6, ra⟩, hi, sv, ⟨oo, or0, or2, oa, oa2⟩, hm, am, am2⟩ := id hF
  obtain ⟨ob, s4, s5, s6, s7, s8, s9, s10, b1, b2, b3, b4, b5, b6, o7, hg⟩ := id st
  obtain ⟨⟨n0, n1, n2, n3⟩, ⟨w0, w1, w2⟩, q6, t8, g4, q0, t0, g0⟩ := R.nums
  refine am_ofE rfl rfl rfl (Nat.le_of_ble_eq_true rfl) ?_
  refine bX8_costAsked_0 (by assumption) (by assumption) (by assumption) (by assumption) (by assumption) ?_
  exact am_R_e (R.2.1.2.2.2.1 1 (by decide)) rfl rfl
theorem qX_tollsPaid (hF : wF Γ) (R : CS I L w h s)  : am_E m_X8_tollsPaid (d + 20) 0 0 [.ref 0] Γ I L (.inl (some (.int (w 6)))) I L := by
  obtain ⟨⟨o, f0, f1, f2, f3, f4, f5, f6, f7⟩, so, st, dr, ⟨ro, rr0, rr5, rr6, ra⟩, hi, sv, ⟨oo, or0, or2, oa, oa2⟩, hm, am, am2⟩ := id hF
  obtain ⟨ob, s4, s5, s6, s7, s8, s9, s10, b1, b2, b3, b4, b5, b6, o7, hg⟩ := id st
  obtain ⟨⟨n0, n1, n2, n3⟩, ⟨w0, w1, w2⟩, q6, t8, g4, q0, t0, g0⟩ := R.nums
  refine am_ofE rfl rfl rfl (Nat.le_of_ble_eq_true rfl) ?_
  refine bX8_tollsPaid_0 (by assumption) (by assumption) (by assumption) (by assumption) (by assumption) ?_
  exact am_R_e (R.2.1.2.2.2.1 2 (by decide)) rfl rfl
theorem qX_tollsDue (hF : wF Γ) (R : CS I L w h s)  : am_E m_X8_tollsDue (d + 20) 0 0 [.ref 0] Γ I L (.inl (some (.int (w 7)))) I L := by
  obtain ⟨⟨o, f0, f1, f2, f3, f4, f5, f6, f7⟩, so, st, dr, ⟨ro, rr0, rr5, rr6, ra⟩, hi, sv, ⟨oo, or0, or2, oa, oa2⟩, hm, am, am2⟩ := id hF
  obtain ⟨ob, s4, s5, s6, s7, s8, s9, s10, b1, b2, b3, b4, b5, b6, o7, hg⟩ := id st
  obtain ⟨⟨n0, n1, n2, n3⟩, ⟨w0, w1, w2⟩, q6, t8, g4, q0, t0, g0⟩ := R.nums
  refine am_ofE rfl rfl rfl (Nat.le_of_ble_eq_true rfl) ?_
  refine bX8_tollsDue_0 (by assumption) (by assumption) (by assumption) (by assumption) (by assumption) ?_
  exact am_R_e (R.2.1.2.2.2.1 3 (by decide)) rfl rfl
theorem qX_cartsOvercharged (hF : wF Γ) (R : CS I L w h s)  : am_E m_X8_cartsOvercharged (d + 20) 0 0 [.ref 0] Γ I L (.inl (some (.int (w 8)))) I L := by
  obtain ⟨⟨o, f0, f1, f2, f3, f4, f5, f6, f7⟩, so, st, dr, ⟨ro, rr0, rr5, rr6, ra⟩, hi, sv, ⟨oo, or0, or2, oa, oa2⟩, hm, am, am2⟩ := id hF
  obtain ⟨ob, s4, s5, s6, s7, s8, s9, s10, b1, b2, b3, b4, b5, b6, o7, hg⟩ := id st
  obtain ⟨⟨n0, n1, n2, n3⟩, ⟨w0, w1, w2⟩, q6, t8, g4, q0, t0, g0⟩ := R.nums
  refine am_ofE rfl rfl rfl (Nat.le_of_ble_eq_true rfl) ?_
  refine bX8_cartsOvercharged_0 (by assumption) (by assumption) (by assumption) (by assumption) (by assumption) ?_
  exact am_R_e (R.2.1.2.2.2.1 4 (by decide)) rfl rfl
theorem qX_cartsUndercharged (hF : wF Γ) (R : CS I L w h s)  : am_E m_X8_cartsUndercharged (d + 20) 0 0 [.ref 0] Γ I L (.inl (some (.int (w 9)))) I L := by
  obtain ⟨⟨o, f0, f1, f2, f3, f4, f5, f6, f7⟩, so, st, dr, ⟨ro, rr0, rr5, rr6, ra⟩, hi, sv, ⟨oo, or0, or2, oa, oa2⟩, hm, am, am2⟩ := id hF
  obtain ⟨ob, s4, s5, s6, s7, s8, s9, s10, b1, b2, b3, b4, b5, b6, o7, hg⟩ := id st
  obtain ⟨⟨n0, n1, n2, n3⟩, ⟨w0, w1, w2⟩, q6, t8, g4, q0, t0, g0⟩ := R.nums
  refine am_ofE rfl rfl rfl (Nat.le_of_ble_eq_true rfl) ?_
  refine bX8_cartsUndercharged_0 (by assumption) (by assumption) (by assumption) (by assumption) (by assumption) ?_
  exact am_R_e (R.2.1.2.2.2.1 5 (by decide)) rfl rfl
theorem qX_overcharge (hF : wF Γ) (R : CS I L w h s)  : am_E m_X8_overcharge (d + 20) 0 0 [.ref 0] Γ I L (.inl (some (.int (w 10)))) I L := by
  obtain ⟨⟨o, f0, f1, f2, f3, f4, f5, f6, f7⟩, so, st, dr, ⟨ro, rr0, rr5, rr6, ra⟩, hi, sv, ⟨oo, or0, or2, oa, oa2⟩, hm, am, am2⟩ := id hF
  obtain ⟨ob, s4, s5, s6, s7, s8, s9, s10, b1, b2, b3, b4, b5, b6, o7, hg⟩ := id st
  obtain ⟨⟨n0, n1, n2, n3⟩, ⟨w0, w1, w2⟩, q6, t8, g4, q0, t0, g0⟩ := R.nums
  refine am_ofE rfl rfl rfl (Nat.le_of_ble_eq_true rfl) ?_
  refine bX8_overcharge_0 (by assumption) (by assumption) (by assumption) (by assumption) (by assumption) ?_
  exact am_R_e (R.2.1.2.2.2.1 6 (by decide)) rfl rfl
theorem qX_undercharge (hF : wF Γ) (R : CS I L w h s)  : am_E m_X8_undercharge (d + 20) 0 0 [.ref 0] Γ I L (.inl (some (.int (w 11)))) I L := by
  obtain ⟨⟨o, f0, f1, f2, f3, f4, f5, f6, f7⟩, so, st, dr, ⟨ro, rr0, rr5, rr6, ra⟩, hi, sv, ⟨oo, or0, or2, oa, oa2⟩, hm, am, am2⟩ := id hF
  obtain ⟨ob, s4, s5, s6, s7, s8, s9, s10, b1, b2, b3, b4, b5, b6, o7, hg⟩ := id st
  obtain ⟨⟨n0, n1, n2, n3⟩, ⟨w0, w1, w2⟩, q6, t8, g4, q0, t0, g0⟩ := R.nums
  refine am_ofE rfl rfl rfl (Nat.le_of_ble_eq_true rfl) ?_
  refine bX8_undercharge_0 (by assumption) (by assumption) (by assumption) (by assumption) (by assumption) ?_
  exact am_R_e (R.2.1.2.2.2.1 7 (by decide)) rfl rfl
theorem qX_questionCost (hF : wF Γ) (R : CS I L w h s) {q : Nat} (hq : q < vQ w) : am_E m_X8_questionCost (d + 20) 0 0 [.ref 0, .int (nn q)] Γ I L (.inl (some (.int ((w (12 + q * 8)))))) I L := by
  obtain ⟨⟨o, f0, f1, f2, f3, f4, f5, f6, f7⟩, so, st, dr, ⟨ro, rr0, rr5, rr6, ra⟩, hi, sv, ⟨oo, or0, or2, oa, oa2⟩, hm, am, am2⟩ := id hF
  obtain ⟨ob, s4, s5, s6, s7, s8, s9, s10, b1, b2, b3, b4, b5, b6, o7, hg⟩ := id st
  obtain ⟨⟨n0, n1, n2, n3⟩, ⟨w0, w1, w2⟩, q6, t8, g4, q0, t0, g0⟩ := R.nums
  refine am_ofE rfl rfl rfl (Nat.le_of_ble_eq_true rfl) ?_
  refine bX8_questionCost_0 (by assumption) (Nat.zero_le _) (Nat.zero_le _) (eX8_requireQuestion_t (mc := 0) (ms := 0) hF n0 (by assumption) (by omega)) ?_
  refine bX8_questionCost_5 (by assumption) (by assumption) (by assumption) (by assumption) (by assumption) (nn_in (by omega) (by omega)) ?_
  exact am_R_e (by rw [nn_nat (by omega)]; exact (R.2.1.2.1 q hq).2.1) rfl rfl
theorem qX_toll (hF : wF Γ) (R : CS I L w h s) {t : Nat} (ht : t < vT w) : am_E m_X8_toll (d + 20) 0 0 [.ref 0, .int (nn t)] Γ I L (.inl (some (.int ((w (60 + t * 9 + 0)))))) I L := by
  obtain ⟨⟨o, f0, f1, f2, f3, f4, f5, f6, f7⟩, so, st, dr, ⟨ro, rr0, rr5, rr6, ra⟩, hi, sv, ⟨oo, or0, or2, oa, oa2⟩, hm, am, am2⟩ := id hF
  obtain ⟨ob, s4, s5, s6, s7, s8, s9, s10, b1, b2, b3, b4, b5, b6, o7, hg⟩ := id st
  obtain ⟨⟨n0, n1, n2, n3⟩, ⟨w0, w1, w2⟩, q6, t8, g4, q0, t0, g0⟩ := R.nums
  refine am_ofE rfl rfl rfl (Nat.le_of_ble_eq_true rfl) ?_
  refine bX8_toll_0 (by assumption) (Nat.zero_le _) (Nat.zero_le _) (eX8_requireType_t (mc := 0) (ms := 0) hF n1 (by assumption) (by omega)) ?_
  refine bX8_toll_5 (by assumption) (by assumption) (by assumption) (by assumption) (by assumption) (nn_in (by omega) (by omega)) ?_
  exact am_R_e (by rw [nn_nat (by omega)]; exact (R.2.1.2.2.1 t ht).2) rfl rfl
theorem qX_hasTrait (hF : wF Γ) (R : CS I L w h s) {t : Nat} (ht : t < vT w) {q : Nat} (hq : q < vQ w) : am_E m_X8_hasTrait (d + 20) 0 0 [.ref 0, .int (nn t), .int (nn q)] Γ I L (.inl (some (.int ((bi ((tyW w t).testBit q)))))) I L := by
  obtain ⟨⟨o, f0, f1, f2, f3, f4, f5, f6, f7⟩, so, st, dr, ⟨ro, rr0, rr5, rr6, ra⟩, hi, sv, ⟨oo, or0, or2, oa, oa2⟩, hm, am, am2⟩ := id hF
  obtain ⟨ob, s4, s5, s6, s7, s8, s9, s10, b1, b2, b3, b4, b5, b6, o7, hg⟩ := id st
  obtain ⟨⟨n0, n1, n2, n3⟩, ⟨w0, w1, w2⟩, q6, t8, g4, q0, t0, g0⟩ := R.nums
  refine am_ofE rfl rfl rfl (Nat.le_of_ble_eq_true rfl) ?_
  refine bX8_hasTrait_0 (by assumption) (Nat.zero_le _) (Nat.zero_le _) (eX8_requireType_t (mc := 0) (ms := 0) hF n1 (by assumption) (by omega)) ?_
  refine bX8_hasTrait_5 (by assumption) (Nat.zero_le _) (Nat.zero_le _) (eX8_requireQuestion_t (mc := 0) (ms := 0) hF n0 (by assumption) (by omega)) ?_
  refine bX8_hasTrait_10 (by assumption) (by assumption) (by assumption) (by assumption) (by assumption) (nn_in (by omega) (by omega)) (Nat.zero_le _) (Nat.zero_le _) (eX8_holds _ _) ?_
  refine bX8_hasTrait_23 (by first | exact bi_hz _ | rfl) ?_
  exact am_R_e (by rw [nn_nat (by omega), (R.2.1.2.1 q hq).2.2, ib_nn (by have := yse_lt (vT w) (tyW w) q; have := two_le8 t8; omega) (by omega), yse_bit ht]) rfl rfl
theorem qX_countAt (hF : wF Γ) (R : CS I L w h s) {g : Nat} (hg0 : g < vG w) {t : Nat} (ht : t < vT w) : am_E m_X8_countAt (d + 20) 0 0 [.ref 0, .int (nn g), .int (nn t)] Γ I L (.inl (some (.int ((w (132 + g * 94 + (10 + t))))))) I L := by
  obtain ⟨⟨o, f0, f1, f2, f3, f4, f5, f6, f7⟩, so, st, dr, ⟨ro, rr0, rr5, rr6, ra⟩, hi, sv, ⟨oo, or0, or2, oa, oa2⟩, hm, am, am2⟩ := id hF
  obtain ⟨ob, s4, s5, s6, s7, s8, s9, s10, b1, b2, b3, b4, b5, b6, o7, hg⟩ := id st
  obtain ⟨⟨n0, n1, n2, n3⟩, ⟨w0, w1, w2⟩, q6, t8, g4, q0, t0, g0⟩ := R.nums
  have hg' := hg0
  obtain ⟨hg1, hgg⟩ := hg g (by omega)
  obtain ⟨og, gg4, gg5, ga, tr⟩ := id hgg
  obtain ⟨ot, tr1, tr2, tr3, tr4, ta1, ta2, ta3, ta4⟩ := id tr
  obtain ⟨y0, y1, y2, y3, y4, y5, y6⟩ := R.2.1.2.2.2.2 g hg'
  obtain ⟨e, e15, e0, ee, ew, ec, tw, h6, tok, sets⟩ := R.gate hg'
  have md : mda w g (vQ w) (vT w) (qcW w) (tyW w) (tlW w) (ctW w g) := R.1.1.mda t0 hg'
  have gE : gc 9 g = 9 + (8 + 7 * g) := rfl
  refine am_ofE rfl rfl rfl (Nat.le_of_ble_eq_true rfl) ?_
  refine bX8_countAt_0 (by assumption) (Nat.zero_le _) (Nat.zero_le _) (eX8_requireGate_t (mc := 0) (ms := 0) hF n2 (by assumption) (by omega)) ?_
  refine bX8_countAt_5 (by assumption) (Nat.zero_le _) (Nat.zero_le _) (eX8_requireType_t (mc := 0) (ms := 0) hF n1 (by assumption) (by omega)) ?_
  refine bX8_countAt_10 (by assumption) (by first | assumption | (rw [nn_nat (by omega)]; exact hg1)) (by assumption) (by first | assumption | (rw [nn_nat (by omega)]; exact hg1)) (by assumption) (nn_in (by omega) (by omega)) (by first | assumption | (rw [nn_nat (by omega)]; exact hg1)) (by assumption) (by first | assumption | (rw [nn_nat (by omega)]; exact hg1)) (by assumption) (nn_in (by omega) (by omega)) ?_
  exact am_R_e (by rw [nn_nat (by omega)]; exact y4 t ht) rfl rfl
theorem qX_costLimit (hF : wF Γ) (R : CS I L w h s) {g : Nat} (hg0 : g < vG w) : am_E m_X8_costLimit (d + 20) 0 0 [.ref 0, .int (nn g)] Γ I L (.inl (some (.int ((w (132 + g * 94 + 2)))))) I L := by
  obtain ⟨⟨o, f0, f1, f2, f3, f4, f5, f6, f7⟩, so, st, dr, ⟨ro, rr0, rr5, rr6, ra⟩, hi, sv, ⟨oo, or0, or2, oa, oa2⟩, hm, am, am2⟩ := id hF
  obtain ⟨ob, s4, s5, s6, s7, s8, s9, s10, b1, b2, b3, b4, b5, b6, o7, hg⟩ := id st
  obtain ⟨⟨n0, n1, n2, n3⟩, ⟨w0, w1, w2⟩, q6, t8, g4, q0, t0, g0⟩ := R.nums
  have hg' := hg0
  obtain ⟨hg1, hgg⟩ := hg g (by omega)
  obtain ⟨og, gg4, gg5, ga, tr⟩ := id hgg
  obtain ⟨ot, tr1, tr2, tr3, tr4, ta1, ta2, ta3, ta4⟩ := id tr
  obtain ⟨y0, y1, y2, y3, y4, y5, y6⟩ := R.2.1.2.2.2.2 g hg'
  obtain ⟨e, e15, e0, ee, ew, ec, tw, h6, tok, sets⟩ := R.gate hg'
  have md : mda w g (vQ w) (vT w) (qcW w) (tyW w) (tlW w) (ctW w g) := R.1.1.mda t0 hg'
  have gE : gc 9 g = 9 + (8 + 7 * g) := rfl
  refine am_ofE rfl rfl rfl (Nat.le_of_ble_eq_true rfl) ?_
  refine bX8_costLimit_0 (by assumption) (Nat.zero_le _) (Nat.zero_le _) (eX8_requireGate_t (mc := 0) (ms := 0) hF n2 (by assumption) (by omega)) ?_
  refine bX8_costLimit_5 (by assumption) (by first | assumption | (rw [nn_nat (by omega)]; exact hg1)) (by assumption) (by first | assumption | (rw [nn_nat (by omega)]; exact hg1)) (by assumption) (nn_in (by omega) (by omega)) (by first | assumption | (rw [nn_nat (by omega)]; exact hg1)) (by assumption) ?_
  exact am_R_e y3 rfl rfl
theorem qX_isOpen (hF : wF Γ) (R : CS I L w h s) {g : Nat} (hg0 : g < vG w) : am_E m_X8_isOpen (d + 20) 0 0 [.ref 0, .int (nn g)] Γ I L (.inl (some (.int ((bi (opens (w (132 + g * 94 + 0)) (w (132 + g * 94 + 1)) (w 3 - w 3 / 24 * 24))))))) I L := by
  obtain ⟨⟨o, f0, f1, f2, f3, f4, f5, f6, f7⟩, so, st, dr, ⟨ro, rr0, rr5, rr6, ra⟩, hi, sv, ⟨oo, or0, or2, oa, oa2⟩, hm, am, am2⟩ := id hF
  obtain ⟨ob, s4, s5, s6, s7, s8, s9, s10, b1, b2, b3, b4, b5, b6, o7, hg⟩ := id st
  obtain ⟨⟨n0, n1, n2, n3⟩, ⟨w0, w1, w2⟩, q6, t8, g4, q0, t0, g0⟩ := R.nums
  have hg' := hg0
  obtain ⟨hg1, hgg⟩ := hg g (by omega)
  obtain ⟨og, gg4, gg5, ga, tr⟩ := id hgg
  obtain ⟨ot, tr1, tr2, tr3, tr4, ta1, ta2, ta3, ta4⟩ := id tr
  obtain ⟨y0, y1, y2, y3, y4, y5, y6⟩ := R.2.1.2.2.2.2 g hg'
  obtain ⟨e, e15, e0, ee, ew, ec, tw, h6, tok, sets⟩ := R.gate hg'
  have md : mda w g (vQ w) (vT w) (qcW w) (tyW w) (tlW w) (ctW w g) := R.1.1.mda t0 hg'
  have gE : gc 9 g = 9 + (8 + 7 * g) := rfl
  refine am_ofE rfl rfl rfl (Nat.le_of_ble_eq_true rfl) ?_
  refine bX8_isOpen_0 (by assumption) (Nat.zero_le _) (Nat.zero_le _) (eX8_requireGate_t (mc := 0) (ms := 0) hF n2 (by assumption) (by omega)) ?_
  refine bX8_isOpen_5 (by assumption) (by first | assumption | (rw [nn_nat (by omega)]; exact hg1)) (by assumption) (by first | assumption | (rw [nn_nat (by omega)]; exact hg1)) (by assumption) (nn_in (by omega) (by omega)) (by first | assumption | (rw [nn_nat (by omega)]; exact hg1)) (Nat.zero_le _) (Nat.zero_le _) (eX5_hourOfDay st) ?_
  refine bX8_isOpen_21 (by assumption) (Nat.zero_le _) (Nat.zero_le _) (eX0_opensAt hgg _) ?_
  refine bX8_isOpen_24 (by first | exact bi_hz _ | rfl) ?_
  exact am_R_e (by rw [y1, y2, n3]) rfl rfl
theorem qX_nodeQuestion (hF : wF Γ) (R : CS I L w h s) {g : Nat} (hg0 : g < vG w) {n : Nat} (hn : n < teW w g) : am_E m_X8_nodeQuestion (d + 20) 0 0 [.ref 0, .int (nn g), .int (nn n)] Γ I L (.inl (some (.int (rw5 w g 0 n)))) I L := by
  obtain ⟨⟨o, f0, f1, f2, f3, f4, f5, f6, f7⟩, so, st, dr, ⟨ro, rr0, rr5, rr6, ra⟩, hi, sv, ⟨oo, or0, or2, oa, oa2⟩, hm, am, am2⟩ := id hF
  obtain ⟨ob, s4, s5, s6, s7, s8, s9, s10, b1, b2, b3, b4, b5, b6, o7, hg⟩ := id st
  obtain ⟨⟨n0, n1, n2, n3⟩, ⟨w0, w1, w2⟩, q6, t8, g4, q0, t0, g0⟩ := R.nums
  have hg' := hg0
  obtain ⟨hg1, hgg⟩ := hg g (by omega)
  obtain ⟨og, gg4, gg5, ga, tr⟩ := id hgg
  obtain ⟨ot, tr1, tr2, tr3, tr4, ta1, ta2, ta3, ta4⟩ := id tr
  obtain ⟨y0, y1, y2, y3, y4, y5, y6⟩ := R.2.1.2.2.2.2 g hg'
  obtain ⟨e, e15, e0, ee, ew, ec, tw, h6, tok, sets⟩ := R.gate hg'
  have md : mda w g (vQ w) (vT w) (qcW w) (tyW w) (tlW w) (ctW w g) := R.1.1.mda t0 hg'
  have gE : gc 9 g = 9 + (8 + 7 * g) := rfl
  rw [← ee] at hn
  refine am_ofE rfl rfl rfl (Nat.le_of_ble_eq_true rfl) ?_
  refine bX8_nodeQuestion_0 (by assumption) (Nat.zero_le _) (Nat.zero_le _) (eX8_requireNode_t (mc := 0) (ms := 0) hF n2 hg0 (by omega) ec hn e15) ?_
  refine bX8_nodeQuestion_6 (by assumption) (by first | assumption | (rw [nn_nat (by omega)]; exact hg1)) (by assumption) (by first | assumption | (rw [nn_nat (by omega)]; exact hg1)) (by assumption) (nn_in (by omega) (by omega)) (by first | assumption | (rw [nn_nat (by omega)]; exact hg1)) (by assumption) (by first | assumption | (rw [nn_nat (by omega)]; exact hg1)) (by assumption) (by first | assumption | (rw [nn_nat (by omega)]; exact hg1)) (by assumption) (nn_in (by omega) (by omega)) ?_
  exact am_R_e (by rw [nn_nat (by omega)]; exact (h6 n hn).1) rfl rfl
theorem qX_leafToll (hF : wF Γ) (R : CS I L w h s) {g : Nat} (hg0 : g < vG w) {n : Nat} (hn : n < teW w g) : am_E m_X8_leafToll (d + 20) 0 0 [.ref 0, .int (nn g), .int (nn n)] Γ I L (.inl (some (.int (rw5 w g 1 n)))) I L := by
  obtain ⟨⟨o, f0, f1, f2, f3, f4, f5, f6, f7⟩, so, st, dr, ⟨ro, rr0, rr5, rr6, ra⟩, hi, sv, ⟨oo, or0, or2, oa, oa2⟩, hm, am, am2⟩ := id hF
  obtain ⟨ob, s4, s5, s6, s7, s8, s9, s10, b1, b2, b3, b4, b5, b6, o7, hg⟩ := id st
  obtain ⟨⟨n0, n1, n2, n3⟩, ⟨w0, w1, w2⟩, q6, t8, g4, q0, t0, g0⟩ := R.nums
  have hg' := hg0
  obtain ⟨hg1, hgg⟩ := hg g (by omega)
  obtain ⟨og, gg4, gg5, ga, tr⟩ := id hgg
  obtain ⟨ot, tr1, tr2, tr3, tr4, ta1, ta2, ta3, ta4⟩ := id tr
  obtain ⟨y0, y1, y2, y3, y4, y5, y6⟩ := R.2.1.2.2.2.2 g hg'
  obtain ⟨e, e15, e0, ee, ew, ec, tw, h6, tok, sets⟩ := R.gate hg'
  have md : mda w g (vQ w) (vT w) (qcW w) (tyW w) (tlW w) (ctW w g) := R.1.1.mda t0 hg'
  have gE : gc 9 g = 9 + (8 + 7 * g) := rfl
  rw [← ee] at hn
  refine am_ofE rfl rfl rfl (Nat.le_of_ble_eq_true rfl) ?_
  refine bX8_leafToll_0 (by assumption) (Nat.zero_le _) (Nat.zero_le _) (eX8_requireNode_t (mc := 0) (ms := 0) hF n2 hg0 (by omega) ec hn e15) ?_
  refine bX8_leafToll_6 (by assumption) (by first | assumption | (rw [nn_nat (by omega)]; exact hg1)) (by assumption) (by first | assumption | (rw [nn_nat (by omega)]; exact hg1)) (by assumption) (nn_in (by omega) (by omega)) (by first | assumption | (rw [nn_nat (by omega)]; exact hg1)) (by assumption) (by first | assumption | (rw [nn_nat (by omega)]; exact hg1)) (by assumption) (by first | assumption | (rw [nn_nat (by omega)]; exact hg1)) (by assumption) (nn_in (by omega) (by omega)) ?_
  exact am_R_e (by rw [nn_nat (by omega)]; exact (h6 n hn).2.1) rfl rfl
theorem qX_noChild (hF : wF Γ) (R : CS I L w h s) {g : Nat} (hg0 : g < vG w) {n : Nat} (hn : n < teW w g) : am_E m_X8_noChild (d + 20) 0 0 [.ref 0, .int (nn g), .int (nn n)] Γ I L (.inl (some (.int (rw5 w g 3 n)))) I L := by
  obtain ⟨⟨o, f0, f1, f2, f3, f4, f5, f6, f7⟩, so, st, dr, ⟨ro, rr0, rr5, rr6, ra⟩, hi, sv, ⟨oo, or0, or2, oa, oa2⟩, hm, am, am2⟩ := id hF
  obtain ⟨ob, s4, s5, s6, s7, s8, s9, s10, b1, b2, b3, b4, b5, b6, o7, hg⟩ := id st
  obtain ⟨⟨n0, n1, n2, n3⟩, ⟨w0, w1, w2⟩, q6, t8, g4, q0, t0, g0⟩ := R.nums
  have hg' := hg0
  obtain ⟨hg1, hgg⟩ := hg g (by omega)
  obtain ⟨og, gg4, gg5, ga, tr⟩ := id hgg
  obtain ⟨ot, tr1, tr2, tr3, tr4, ta1, ta2, ta3, ta4⟩ := id tr
  obtain ⟨y0, y1, y2, y3, y4, y5, y6⟩ := R.2.1.2.2.2.2 g hg'
  obtain ⟨e, e15, e0, ee, ew, ec, tw, h6, tok, sets⟩ := R.gate hg'
  have md : mda w g (vQ w) (vT w) (qcW w) (tyW w) (tlW w) (ctW w g) := R.1.1.mda t0 hg'
  have gE : gc 9 g = 9 + (8 + 7 * g) := rfl
  rw [← ee] at hn
  refine am_ofE rfl rfl rfl (Nat.le_of_ble_eq_true rfl) ?_
  refine bX8_noChild_0 (by assumption) (Nat.zero_le _) (Nat.zero_le _) (eX8_requireNode_t (mc := 0) (ms := 0) hF n2 hg0 (by omega) ec hn e15) ?_
  refine bX8_noChild_6 (by assumption) (by first | assumption | (rw [nn_nat (by omega)]; exact hg1)) (by assumption) (by first | assumption | (rw [nn_nat (by omega)]; exact hg1)) (by assumption) (nn_in (by omega) (by omega)) (by first | assumption | (rw [nn_nat (by omega)]; exact hg1)) (by assumption) (by first | assumption | (rw [nn_nat (by omega)]; exact hg1)) (by assumption) (by first | assumption | (rw [nn_nat (by omega)]; exact hg1)) (by assumption) (nn_in (by omega) (by omega)) ?_
  exact am_R_e (by rw [nn_nat (by omega)]; exact (h6 n hn).2.2.1) rfl rfl
theorem qX_typesAt (hF : wF Γ) (R : CS I L w h s) {g : Nat} (hg0 : g < vG w) {n : Nat} (hn : n < teW w g) : am_E m_X8_typesAt (d + 20) 0 0 [.ref 0, .int (nn g), .int (nn n)] Γ I L (.inl (some (.int (rw5 w g 4 n)))) I L := by
  obtain ⟨⟨o, f0, f1, f2, f3, f4, f5, f6, f7⟩, so, st, dr, ⟨ro, rr0, rr5, rr6, ra⟩, hi, sv, ⟨oo, or0, or2, oa, oa2⟩, hm, am, am2⟩ := id hF
  obtain ⟨ob, s4, s5, s6, s7, s8, s9, s10, b1, b2, b3, b4, b5, b6, o7, hg⟩ := id st
  obtain ⟨⟨n0, n1, n2, n3⟩, ⟨w0, w1, w2⟩, q6, t8, g4, q0, t0, g0⟩ := R.nums
  have hg' := hg0
  obtain ⟨hg1, hgg⟩ := hg g (by omega)
  obtain ⟨og, gg4, gg5, ga, tr⟩ := id hgg
  obtain ⟨ot, tr1, tr2, tr3, tr4, ta1, ta2, ta3, ta4⟩ := id tr
  obtain ⟨y0, y1, y2, y3, y4, y5, y6⟩ := R.2.1.2.2.2.2 g hg'
  obtain ⟨e, e15, e0, ee, ew, ec, tw, h6, tok, sets⟩ := R.gate hg'
  have md : mda w g (vQ w) (vT w) (qcW w) (tyW w) (tlW w) (ctW w g) := R.1.1.mda t0 hg'
  have gE : gc 9 g = 9 + (8 + 7 * g) := rfl
  rw [← ee] at hn
  refine am_ofE rfl rfl rfl (Nat.le_of_ble_eq_true rfl) ?_
  refine bX8_typesAt_0 (by assumption) (Nat.zero_le _) (Nat.zero_le _) (eX8_requireNode_t (mc := 0) (ms := 0) hF n2 hg0 (by omega) ec hn e15) ?_
  refine bX8_typesAt_6 (by assumption) (by first | assumption | (rw [nn_nat (by omega)]; exact hg1)) (by assumption) (by first | assumption | (rw [nn_nat (by omega)]; exact hg1)) (by assumption) (nn_in (by omega) (by omega)) (by first | assumption | (rw [nn_nat (by omega)]; exact hg1)) (by assumption) (by first | assumption | (rw [nn_nat (by omega)]; exact hg1)) (by assumption) (by first | assumption | (rw [nn_nat (by omega)]; exact hg1)) (by assumption) (nn_in (by omega) (by omega)) ?_
  exact am_R_e (by rw [nn_nat (by omega)]; exact (h6 n hn).2.2.2) rfl rfl
theorem qX_yesChild (hF : wF Γ) (R : CS I L w h s) {g : Nat} (hg0 : g < vG w) {n : Nat} (hn : n < teW w g) : am_E m_X8_yesChild (d + 20) 0 0 [.ref 0, .int (nn g), .int (nn n)] Γ I L (.inl (some (.int (rw5 w g 2 n)))) I L := by
  obtain ⟨⟨o, f0, f1, f2, f3, f4, f5, f6, f7⟩, so, st, dr, ⟨ro, rr0, rr5, rr6, ra⟩, hi, sv, ⟨oo, or0, or2, oa, oa2⟩, hm, am, am2⟩ := id hF
  obtain ⟨ob, s4, s5, s6, s7, s8, s9, s10, b1, b2, b3, b4, b5, b6, o7, hg⟩ := id st
  obtain ⟨⟨n0, n1, n2, n3⟩, ⟨w0, w1, w2⟩, q6, t8, g4, q0, t0, g0⟩ := R.nums
  have hg' := hg0
  obtain ⟨hg1, hgg⟩ := hg g (by omega)
  obtain ⟨og, gg4, gg5, ga, tr⟩ := id hgg
  obtain ⟨ot, tr1, tr2, tr3, tr4, ta1, ta2, ta3, ta4⟩ := id tr
  obtain ⟨y0, y1, y2, y3, y4, y5, y6⟩ := R.2.1.2.2.2.2 g hg'
  obtain ⟨e, e15, e0, ee, ew, ec, tw, h6, tok, sets⟩ := R.gate hg'
  have md : mda w g (vQ w) (vT w) (qcW w) (tyW w) (tlW w) (ctW w g) := R.1.1.mda t0 hg'
  have gE : gc 9 g = 9 + (8 + 7 * g) := rfl
  rw [← ee] at hn
  refine am_ofE rfl rfl rfl (Nat.le_of_ble_eq_true rfl) ?_
  refine bX8_yesChild_0 (by assumption) (Nat.zero_le _) (Nat.zero_le _) (eX8_requireNode_t (mc := 0) (ms := 0) hF n2 hg0 (by omega) ec hn e15) ?_
  refine bX8_yesChild_6 (by assumption) (by first | assumption | (rw [nn_nat (by omega)]; exact hg1)) (by assumption) (by first | assumption | (rw [nn_nat (by omega)]; exact hg1)) (by assumption) (nn_in (by omega) (by omega)) (by first | assumption | (rw [nn_nat (by omega)]; exact hg1)) (by assumption) (by first | assumption | (rw [nn_nat (by omega)]; exact hg1)) (by assumption) (Nat.zero_le _) (Nat.zero_le _) (eX7_firstChild tr (by omega)) ?_
  refine bX8_yesChild_22 ?_
  exact am_R_e (by obtain ⟨S', s1, s2, s3, s4, s5⟩ := sets n hn; rw [(h6 n hn).1, s5]) rfl rfl
theorem qX_leafOf (hF : wF Γ) (R : CS I L w h s) {g : Nat} (hg0 : g < vG w) {t : Nat} (ht : t < vT w) : am_E m_X8_leafOf (d + 20) 0 0 [.ref 0, .int (nn g), .int (nn t)] Γ I L (.inl (some (.int ((nn (lfA (rw5 w g 0) (rw5 w g 4) (nn t) (teW w g))))))) I L := by
  obtain ⟨⟨o, f0, f1, f2, f3, f4, f5, f6, f7⟩, so, st, dr, ⟨ro, rr0, rr5, rr6, ra⟩, hi, sv, ⟨oo, or0, or2, oa, oa2⟩, hm, am, am2⟩ := id hF
  obtain ⟨ob, s4, s5, s6, s7, s8, s9, s10, b1, b2, b3, b4, b5, b6, o7, hg⟩ := id st
  obtain ⟨⟨n0, n1, n2, n3⟩, ⟨w0, w1, w2⟩, q6, t8, g4, q0, t0, g0⟩ := R.nums
  have hg' := hg0
  obtain ⟨hg1, hgg⟩ := hg g (by omega)
  obtain ⟨og, gg4, gg5, ga, tr⟩ := id hgg
  obtain ⟨ot, tr1, tr2, tr3, tr4, ta1, ta2, ta3, ta4⟩ := id tr
  obtain ⟨y0, y1, y2, y3, y4, y5, y6⟩ := R.2.1.2.2.2.2 g hg'
  obtain ⟨e, e15, e0, ee, ew, ec, tw, h6, tok, sets⟩ := R.gate hg'
  have md : mda w g (vQ w) (vT w) (qcW w) (tyW w) (tlW w) (ctW w g) := R.1.1.mda t0 hg'
  have gE : gc 9 g = 9 + (8 + 7 * g) := rfl
  rw [← ee]
  refine am_ofE rfl rfl rfl (Nat.le_of_ble_eq_true rfl) ?_
  refine bX8_leafOf_0 (by assumption) (Nat.zero_le _) (Nat.zero_le _) (eX8_requireGate_t (mc := 0) (ms := 0) hF n2 (by assumption) (by omega)) ?_
  refine bX8_leafOf_5 (by assumption) (Nat.zero_le _) (Nat.zero_le _) (eX8_requireType_t (mc := 0) (ms := 0) hF n1 (by assumption) (by omega)) ?_
  refine bX8_leafOf_10 (by assumption) (by first | assumption | (rw [nn_nat (by omega)]; exact hg1)) (by assumption) (by first | assumption | (rw [nn_nat (by omega)]; exact hg1)) (by assumption) (nn_in (by omega) (by omega)) (by first | assumption | (rw [nn_nat (by omega)]; exact hg1)) (by assumption) (by first | assumption | (rw [nn_nat (by omega)]; exact hg1)) (by assumption) (Nat.zero_le _) (Nat.zero_le _) (eX7_leafHolding tr e15 ec _) ?_
  refine bX8_leafOf_26 ?_
  exact am_R_e (by rw [R.lf h6]) rfl rfl
theorem qX_chargedToll (hF : wF Γ) (R : CS I L w h s) {g : Nat} (hg0 : g < vG w) {t : Nat} (ht : t < vT w) : am_E m_X8_chargedToll (d + 20) 0 0 [.ref 0, .int (nn g), .int (nn t)] Γ I L (.inl (some (.int ((rw5 w g 1 (lfA (rw5 w g 0) (rw5 w g 4) (nn t) (teW w g))))))) I L := by
  obtain ⟨⟨o, f0, f1, f2, f3, f4, f5, f6, f7⟩, so, st, dr, ⟨ro, rr0, rr5, rr6, ra⟩, hi, sv, ⟨oo, or0, or2, oa, oa2⟩, hm, am, am2⟩ := id hF
  obtain ⟨ob, s4, s5, s6, s7, s8, s9, s10, b1, b2, b3, b4, b5, b6, o7, hg⟩ := id st
  obtain ⟨⟨n0, n1, n2, n3⟩, ⟨w0, w1, w2⟩, q6, t8, g4, q0, t0, g0⟩ := R.nums
  have hg' := hg0
  obtain ⟨hg1, hgg⟩ := hg g (by omega)
  obtain ⟨og, gg4, gg5, ga, tr⟩ := id hgg
  obtain ⟨ot, tr1, tr2, tr3, tr4, ta1, ta2, ta3, ta4⟩ := id tr
  obtain ⟨y0, y1, y2, y3, y4, y5, y6⟩ := R.2.1.2.2.2.2 g hg'
  obtain ⟨e, e15, e0, ee, ew, ec, tw, h6, tok, sets⟩ := R.gate hg'
  have md : mda w g (vQ w) (vT w) (qcW w) (tyW w) (tlW w) (ctW w g) := R.1.1.mda t0 hg'
  have gE : gc 9 g = 9 + (8 + 7 * g) := rfl
  obtain ⟨k1, k2, k3, k4⟩ := lfA_sp q6 (show t < 32 by omega) tw.2.2.2 (by have := two_le8 t8; omega) (all_bit ht)
  rw [← ee]
  refine am_ofE rfl rfl rfl (Nat.le_of_ble_eq_true rfl) ?_
  refine bX8_chargedToll_0 (by assumption) (Nat.zero_le _) (Nat.zero_le _) (eX8_requireGate_t (mc := 0) (ms := 0) hF n2 (by assumption) (by omega)) ?_
  refine bX8_chargedToll_5 (by assumption) (Nat.zero_le _) (Nat.zero_le _) (eX8_requireType_t (mc := 0) (ms := 0) hF n1 (by assumption) (by omega)) ?_
  refine bX8_chargedToll_10 (by assumption) (by first | assumption | (rw [nn_nat (by omega)]; exact hg1)) (by assumption) (by first | assumption | (rw [nn_nat (by omega)]; exact hg1)) (by assumption) (nn_in (by omega) (by omega)) (by first | assumption | (rw [nn_nat (by omega)]; exact hg1)) (by assumption) (by first | assumption | (rw [nn_nat (by omega)]; exact hg1)) (by assumption) (Nat.zero_le _) (Nat.zero_le _) (eX7_tollFor tr e15 e0 ec _) ?_
  refine bX8_chargedToll_26 ?_
  exact am_R_e (by rw [R.lf h6]; exact (h6 _ k1).2.1) rfl rfl
theorem qX_pathCost (hF : wF Γ) (R : CS I L w h s) {g : Nat} (hg0 : g < vG w) {t : Nat} (ht : t < vT w) : am_E m_X8_pathCost (d + 20) 0 0 [.ref 0, .int (nn g), .int (nn t)] Γ I L (.inl (some (.int ((wcA (rw5 w g 0) (rw5 w g 4) (csW w) (nn t) (teW w g)))))) I L := by
  obtain ⟨⟨o, f0, f1, f2, f3, f4, f5, f6, f7⟩, so, st, dr, ⟨ro, rr0, rr5, rr6, ra⟩, hi, sv, ⟨oo, or0, or2, oa, oa2⟩, hm, am, am2⟩ := id hF
  obtain ⟨ob, s4, s5, s6, s7, s8, s9, s10, b1, b2, b3, b4, b5, b6, o7, hg⟩ := id st
  obtain ⟨⟨n0, n1, n2, n3⟩, ⟨w0, w1, w2⟩, q6, t8, g4, q0, t0, g0⟩ := R.nums
  have hg' := hg0
  obtain ⟨hg1, hgg⟩ := hg g (by omega)
  obtain ⟨og, gg4, gg5, ga, tr⟩ := id hgg
  obtain ⟨ot, tr1, tr2, tr3, tr4, ta1, ta2, ta3, ta4⟩ := id tr
  obtain ⟨y0, y1, y2, y3, y4, y5, y6⟩ := R.2.1.2.2.2.2 g hg'
  obtain ⟨e, e15, e0, ee, ew, ec, tw, h6, tok, sets⟩ := R.gate hg'
  have md : mda w g (vQ w) (vT w) (qcW w) (tyW w) (tlW w) (ctW w g) := R.1.1.mda t0 hg'
  have gE : gc 9 g = 9 + (8 + 7 * g) := rfl
  rw [← ee]
  refine am_ofE rfl rfl rfl (Nat.le_of_ble_eq_true rfl) ?_
  refine bX8_pathCost_0 (by assumption) (Nat.zero_le _) (Nat.zero_le _) (eX8_requireGate_t (mc := 0) (ms := 0) hF n2 (by assumption) (by omega)) ?_
  refine bX8_pathCost_5 (by assumption) (Nat.zero_le _) (Nat.zero_le _) (eX8_requireType_t (mc := 0) (ms := 0) hF n1 (by assumption) (by omega)) ?_
  refine bX8_pathCost_10 (by assumption) (by first | assumption | (rw [nn_nat (by omega)]; exact hg1)) (by assumption) (Nat.zero_le _) (Nat.zero_le _) (eX5_costOfPath st (by omega) e15 ec tok _) ?_
  refine bX8_pathCost_19 ?_
  exact am_R_e (R.wc hg' ee h6 _) rfl rfl
theorem qX_errors (hF : wF Γ) (R : CS I L w h s) {g : Nat} (hg0 : g < vG w) : am_E m_X8_errors (d + 20) 0 0 [.ref 0, .int (nn g)] Γ I L (.inl (some (.int ((mErr w g (teW w g) (vT w)))))) I L := by
  obtain ⟨⟨o, f0, f1, f2, f3, f4, f5, f6, f7⟩, so, st, dr, ⟨ro, rr0, rr5, rr6, ra⟩, hi, sv, ⟨oo, or0, or2, oa, oa2⟩, hm, am, am2⟩ := id hF
  obtain ⟨ob, s4, s5, s6, s7, s8, s9, s10, b1, b2, b3, b4, b5, b6, o7, hg⟩ := id st
  obtain ⟨⟨n0, n1, n2, n3⟩, ⟨w0, w1, w2⟩, q6, t8, g4, q0, t0, g0⟩ := R.nums
  have hg' := hg0
  obtain ⟨hg1, hgg⟩ := hg g (by omega)
  obtain ⟨og, gg4, gg5, ga, tr⟩ := id hgg
  obtain ⟨ot, tr1, tr2, tr3, tr4, ta1, ta2, ta3, ta4⟩ := id tr
  obtain ⟨y0, y1, y2, y3, y4, y5, y6⟩ := R.2.1.2.2.2.2 g hg'
  obtain ⟨e, e15, e0, ee, ew, ec, tw, h6, tok, sets⟩ := R.gate hg'
  have md : mda w g (vQ w) (vT w) (qcW w) (tyW w) (tlW w) (ctW w g) := R.1.1.mda t0 hg'
  have gE : gc 9 g = 9 + (8 + 7 * g) := rfl
  rw [← ee]
  refine am_ofE rfl rfl rfl (Nat.le_of_ble_eq_true rfl) ?_
  refine bX8_errors_0 (by assumption) (Nat.zero_le _) (Nat.zero_le _) (eX8_requireGate_t (mc := 0) (ms := 0) hF n2 (by assumption) (by omega)) ?_
  refine bX8_errors_5 (by assumption) (by first | assumption | (rw [nn_nat (by omega)]; exact hg1)) (by assumption) (Nat.zero_le _) (Nat.zero_le _) (eX5_errorsNow st (by omega) e15 e0 ec n1 t8) ?_
  refine bX8_errors_13 ?_
  exact am_R_e (R.err hg' ee h6) rfl rfl
theorem qX_work (hF : wF Γ) (R : CS I L w h s) {g : Nat} (hg0 : g < vG w) : am_E m_X8_work (d + 20) 0 0 [.ref 0, .int (nn g)] Γ I L (.inl (some (.int ((mWrk w g (vT w) (teW w g)))))) I L := by
  obtain ⟨⟨o, f0, f1, f2, f3, f4, f5, f6, f7⟩, so, st, dr, ⟨ro, rr0, rr5, rr6, ra⟩, hi, sv, ⟨oo, or0, or2, oa, oa2⟩, hm, am, am2⟩ := id hF
  obtain ⟨ob, s4, s5, s6, s7, s8, s9, s10, b1, b2, b3, b4, b5, b6, o7, hg⟩ := id st
  obtain ⟨⟨n0, n1, n2, n3⟩, ⟨w0, w1, w2⟩, q6, t8, g4, q0, t0, g0⟩ := R.nums
  have hg' := hg0
  obtain ⟨hg1, hgg⟩ := hg g (by omega)
  obtain ⟨og, gg4, gg5, ga, tr⟩ := id hgg
  obtain ⟨ot, tr1, tr2, tr3, tr4, ta1, ta2, ta3, ta4⟩ := id tr
  obtain ⟨y0, y1, y2, y3, y4, y5, y6⟩ := R.2.1.2.2.2.2 g hg'
  obtain ⟨e, e15, e0, ee, ew, ec, tw, h6, tok, sets⟩ := R.gate hg'
  have md : mda w g (vQ w) (vT w) (qcW w) (tyW w) (tlW w) (ctW w g) := R.1.1.mda t0 hg'
  have gE : gc 9 g = 9 + (8 + 7 * g) := rfl
  rw [← ee]
  refine am_ofE rfl rfl rfl (Nat.le_of_ble_eq_true rfl) ?_
  refine bX8_work_0 (by assumption) (Nat.zero_le _) (Nat.zero_le _) (eX8_requireGate_t (mc := 0) (ms := 0) hF n2 (by assumption) (by omega)) ?_
  refine bX8_work_5 (by assumption) (by first | assumption | (rw [nn_nat (by omega)]; exact hg1)) (by assumption) (Nat.zero_le _) (Nat.zero_le _) (eX5_workNow st (by omega) e15 ec tok) ?_
  refine bX8_work_13 ?_
  exact am_R_e (R.wrk hg' ee h6) rfl rfl
theorem qX_nodeCount (hF : wF Γ) (R : CS I L w h s) {g : Nat} (hg0 : g < vG w) : am_E m_X8_nodeCount (d + 20) 0 0 [.ref 0, .int (nn g)] Γ I L (.inl (some (.int ((w (132 + g * 94 + 18)))))) I L := by
  obtain ⟨⟨o, f0, f1, f2, f3, f4, f5, f6, f7⟩, so, st, dr, ⟨ro, rr0, rr5, rr6, ra⟩, hi, sv, ⟨oo, or0, or2, oa, oa2⟩, hm, am, am2⟩ := id hF
  obtain ⟨ob, s4, s5, s6, s7, s8, s9, s10, b1, b2, b3, b4, b5, b6, o7, hg⟩ := id st
  obtain ⟨⟨n0, n1, n2, n3⟩, ⟨w0, w1, w2⟩, q6, t8, g4, q0, t0, g0⟩ := R.nums
  have hg' := hg0
  obtain ⟨hg1, hgg⟩ := hg g (by omega)
  obtain ⟨og, gg4, gg5, ga, tr⟩ := id hgg
  obtain ⟨ot, tr1, tr2, tr3, tr4, ta1, ta2, ta3, ta4⟩ := id tr
  obtain ⟨y0, y1, y2, y3, y4, y5, y6⟩ := R.2.1.2.2.2.2 g hg'
  obtain ⟨e, e15, e0, ee, ew, ec, tw, h6, tok, sets⟩ := R.gate hg'
  have md : mda w g (vQ w) (vT w) (qcW w) (tyW w) (tlW w) (ctW w g) := R.1.1.mda t0 hg'
  have gE : gc 9 g = 9 + (8 + 7 * g) := rfl
  refine am_ofE rfl rfl rfl (Nat.le_of_ble_eq_true rfl) ?_
  refine bX8_nodeCount_0 (by assumption) (Nat.zero_le _) (Nat.zero_le _) (eX8_requireGate_t (mc := 0) (ms := 0) hF n2 (by assumption) (by omega)) ?_
  refine bX8_nodeCount_5 o f1 ob s9 b6 (nn_in (by omega) (by omega)) (by rw [nn_nat (by omega)]; exact hg1) og gg5 ot ?_
  exact am_R_e y5 rfl rfl
end Q1
