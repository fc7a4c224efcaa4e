/-! CLASS AND MODEL SIDE BY SIDE: changes -/
theorem inR_ex {p : Int32} {lo hi : Nat} (hh : hi < 1000) (hl : lo ≤ hi) (h : inR p (nn lo) (nn hi) = true) : ∃ k, lo ≤ k ∧ k ≤ hi ∧ p = nn k := by
  unfold inR at h
  rw [Bool.and_eq_true, decide_eq_true_eq, decide_eq_true_eq] at h
  obtain ⟨h0, h1⟩ := h
  have h2 : (0 : Int32) ≤ p := Int32.le_trans (nn_neg_le (by omega)) h0
  have e : p = nn p.toNatClampNeg := (Int32.ofNat_toNatClampNeg p h2).symm
  have hv := Int32.toNatClampNeg_lt p
  rw [e] at h0 h1
  exact ⟨_, (nn_le (by omega) (by omega)).mp h0, (nn_le (by omega) (by omega)).mp h1, e⟩
theorem ix_t (t : Nat) : (60 + nn t * 9 + 0 : Int32) = nn (60 + t * 9) := by
  show nn 60 + nn t * nn 9 + nn 0 = _
  rw [nn_mul, nn_add, nn_add, Nat.add_zero]
theorem ix_g2 (g : Nat) : (132 + nn g * 94 + 2 : Int32) = nn (132 + g * 94 + 2) := by
  show nn 132 + nn g * nn 94 + nn 2 = _
  rw [nn_mul, nn_add, nn_add]
theorem nOpen_m {I : am_I} {L : am_L} {b : Nat} {w : Nat → Int32} (h : stR I L b w) : nOpen I b (I b 3 - I b 3 / 24 * 24) (vG w) = mOpen w (vG w) := by
  refine fsum_congr _ (fun g hg => ?_)
  obtain ⟨-, y1, y2, -⟩ := h.2.2.2.2 g hg
  rw [y1, y2, h.1.2.2.2]
section F5
variable {d mc ms : Nat} {Γ : am_G} {I : am_I} {L : am_L} {m : Nat}
theorem eX8_requireRange_y {v lo hi : Int32} (h : inR v lo hi = true) : am_E m_X8_requireRange d mc ms [.int v, .int lo, .int hi] Γ I L (.inl none) I L := by
  unfold inR at h
  rw [Bool.and_eq_true, decide_eq_true_eq, decide_eq_true_eq] at h
  exact eX8_requireRange_t (Int32.not_lt.mpr h.1) h.2
theorem eX9_isIn_t {v lo hi : Int32} (h : inR v lo hi = true) : am_E m_X9_isIn d 0 0 [.int v, .int lo, .int hi] Γ I L (.inl (some (.int 1))) I L := am_E_e (eX9_isIn v lo hi) (by rw [h]; rfl) rfl
theorem eX9_isIn_f {v lo hi : Int32} (h : inR v lo hi = false) : am_E m_X9_isIn d 0 0 [.int v, .int lo, .int hi] Γ I L (.inl (some (.int 0))) I L := am_E_e (eX9_isIn v lo hi) (by rw [h]; rfl) rfl

theorem fX_setToll (hF : wF Γ) (R : REL I L) (p0 p1 : Int32) : gX Γ I L m_X8_setToll m_X9_setToll [.int p0, .int p1] ["java/lang/IndexOutOfBoundsException", "java/lang/IllegalArgumentException"] := by
  obtain ⟨⟨o, f0, f1, f2, f3, f4, f5, f6, f7⟩, so, st, dr, ⟨ro, rr0, rr5, rr6, ra⟩, hi, sv, ⟨oo, or0, or2, oa, oa2⟩, hm, am, am2⟩ := id hF
  obtain ⟨ob, s4, s5, s6, s7, s8, s9, s10, b1, b2, b3, b4, b5, b6, o7, hg⟩ := id st
  obtain ⟨mo, r0, r1, r2, r3, r4, r7, r8, r13, r14, r15, r16, r17, a1, a2, a3, a4, a5, a6, a7, a8, a9, a10, a11, a12⟩ := id hm
  obtain ⟨⟨n0, n1, n2, n3⟩, ⟨w0, w1, w2⟩, q6, t8, g4, q0, t0, g0⟩ := R.nums
  obtain ⟨ho83, hi1, hi2, hi3⟩ := id hi
  by_cases c0 : ∃ t, t < vT (I 451) ∧ p0 = nn t
  case neg =>
    refine ⟨I, L, am_u I 450 6 1, .inr "java/lang/IndexOutOfBoundsException", 0, am_ofE rfl rfl rfl (Nat.le_of_ble_eq_true rfl) ?_, am_ofE rfl rfl rfl (Nat.le_of_ble_eq_true rfl) ?_, R.thr 1, Or.inr ⟨0, _, rfl, rfl, by rw [am_u_at, if_pos ⟨rfl, rfl⟩]; rfl⟩⟩
    · refine bX8_setToll_0x (by assumption) (by decide) (by decide) (eX8_requireType_f hF n1 c0 (by omega)) ?_
      exact ⟨rfl, rfl, rfl⟩
    · refine bX9_setToll_0 (by assumption) (Nat.zero_le _) (Nat.zero_le _) (eX9_noType_f hm w1 c0 (by omega)) ?_
      refine bX9_setToll_6 (Nat.zero_le _) (Nat.zero_le _) (eX9_isIn p1 0 99) ?_
      refine bX9_setToll_13 (fun h13 => ?_) (fun h13 => ?_)
      · refine bX9_setToll_20 ?_
        refine bX9_setToll_21 (by assumption) (Nat.zero_le _) (Nat.zero_le _) (eX9_fails hm true false false) ?_
        refine bX9_setToll_25 (fun h => absurd h (by decide)) (fun _ => ?_)
        refine bX9_setToll_28 ?_
        exact ⟨rfl, rfl, rfl⟩
      · refine bX9_setToll_16 ?_
        refine bX9_setToll_21 (by assumption) (Nat.zero_le _) (Nat.zero_le _) (eX9_fails hm true true false) ?_
        refine bX9_setToll_25 (fun h => absurd h (by decide)) (fun _ => ?_)
        refine bX9_setToll_28 ?_
        exact ⟨rfl, rfl, rfl⟩
  obtain ⟨t, ht, rfl⟩ := c0
  cases hin : inR p1 0 99
  case false =>
    refine ⟨I, L, am_u I 450 6 2, .inr "java/lang/IllegalArgumentException", 0, am_ofE rfl rfl rfl (Nat.le_of_ble_eq_true rfl) ?_, am_ofE rfl rfl rfl (Nat.le_of_ble_eq_true rfl) ?_, R.thr 2, Or.inr ⟨1, _, rfl, rfl, by rw [am_u_at, if_pos ⟨rfl, rfl⟩]; rfl⟩⟩
    · refine bX8_setToll_0 (by assumption) (Nat.zero_le _) (Nat.zero_le _) (eX8_requireType_t (mc := 0) (ms := 0) hF n1 ht (by omega)) ?_
      refine bX8_setToll_5x (by decide) (by decide) (eX8_requireRange_f hin) ?_
      exact ⟨rfl, rfl, rfl⟩
    · refine bX9_setToll_0 (by assumption) (Nat.zero_le _) (Nat.zero_le _) (eX9_noType_t hm w1 ht (by omega)) ?_
      refine bX9_setToll_6 (Nat.zero_le _) (Nat.zero_le _) (eX9_isIn_f hin) ?_
      refine bX9_setToll_13 (fun h => absurd (by decide) h) (fun _ => ?_)
      refine bX9_setToll_16 ?_
      refine bX9_setToll_21 (by assumption) (Nat.zero_le _) (Nat.zero_le _) (eX9_fails hm false true false) ?_
      refine bX9_setToll_25 (fun h => absurd h (by decide)) (fun _ => ?_)
      refine bX9_setToll_28 ?_
      exact ⟨rfl, rfl, rfl⟩
  case true =>
  obtain ⟨v, -, hv, rfl⟩ := inR_ex (lo := 0) (hi := 99) (by decide) (by decide) hin
  obtain ⟨I1, L1, hE, fI, fL, rest⟩ := R.rem (d := 266) (d2 := 278) hF
  have st1 : stR I1 L1 9 (I 451) := R.2.1.fr g4 (fun c x y => fI c (by omega)) (fun c x y => fL c (by omega))
  have f9 : ∀ c, c < 83 → I1 c = I c := fun c x => fI c (Or.inl x)
  obtain ⟨Ir, hR, k1, k2, k3⟩ := rest (am_u I1 14 t (nn v)) L1 0 (fun c x y z => am_u_ne (by omega)) (fun _ _ _ _ => rfl) ⟨by rw [am_u_ne (by decide), f9 81 (by decide)], by rw [am_u_ne (by decide), f9 81 (by decide)], by rw [am_u_ne (by decide), f9 81 (by decide)]⟩ (by rw [am_u_ne (by decide), f9 82 (by decide)])
  have c451 : (am_u I1 14 t (nn v)) 451 = I 451 := by rw [am_u_ne (by decide), fI 451 (Or.inr (by decide))]
  have e451 : Ir 451 = I 451 := (k1 451 (by decide) (by decide)).trans c451
  have w1c := (congrFun c451 1).trans w1
  have w2c := (congrFun c451 2).trans w2
  have hRel := k3 (am_u Ir 451 (60 + t * 9) (nn v)) (by rw [am_u_up, e451]; exact wfs_toll R.1 ht hv) (by rw [am_u_up, e451]; exact stR_toll (b := 9) st1 R.1.1 ht _) (fun a a1 a2 a3 a4 a5 => am_u_ne a1)
  refine ⟨am_u I1 14 t (nn v), L1, am_u Ir 451 (60 + t * 9) (nn v), .inl (some (.int (I 451 (60 + t * 9)))), I 451 (60 + t * 9), am_ofE rfl rfl rfl (Nat.le_of_ble_eq_true rfl) ?_, am_ofE rfl rfl rfl (Nat.le_of_ble_eq_true rfl) ?_, hRel, Or.inl ⟨rfl, by rw [am_u_ne (by decide)]; exact k2⟩⟩
  · refine bX8_setToll_0 (by assumption) (Nat.zero_le _) (Nat.zero_le _) (eX8_requireType_t (mc := 0) (ms := 0) hF n1 ht (by omega)) ?_
    refine bX8_setToll_5 (Nat.zero_le _) (Nat.zero_le _) (eX8_requireRange_y (mc := 0) (ms := 0) hin) ?_
    refine bX8_setToll_12 (by assumption) (by assumption) (by assumption) (by assumption) (Nat.zero_le _) (Nat.zero_le _) (hE) ?_
    refine bX8_setToll_23 (by assumption) (by assumption) (by assumption) (by assumption) (by assumption) (nn_in (by omega) (by omega)) ?_
    rw [nn_nat (by omega)]
    exact am_R_e (by rw [f9 14 (by decide)]; exact (R.2.1.2.2.1 t ht).2) rfl rfl
  · refine bX9_setToll_0 (by assumption) (Nat.zero_le _) (Nat.zero_le _) (eX9_noType_t hm w1c ht (by omega)) ?_
    refine bX9_setToll_6 (Nat.zero_le _) (Nat.zero_le _) (eX9_isIn_t hin) ?_
    refine bX9_setToll_13 (fun _ => ?_) (fun h => absurd h (by decide))
    refine bX9_setToll_20 ?_
    refine bX9_setToll_21 (by assumption) (Nat.zero_le _) (Nat.zero_le _) (eX9_fails0 hm) ?_
    refine bX9_setToll_25 (fun _ => ?_) (fun h => absurd (by decide) h)
    refine bX9_setToll_30 (by assumption) (by assumption) (Nat.zero_le _) (Nat.zero_le _) (hR) ?_
    refine bX9_setToll_38 (by assumption) (Nat.zero_le _) (Nat.zero_le _) (by rw [ix_t]; exact eX9_puts hm (by omega) _) ?_
    refine bX9_setToll_52 ?_
    exact am_R_e (by show Ir 451 _ = _; rw [e451]) rfl rfl
theorem fX_setCostLimit (hF : wF Γ) (R : REL I L) (p0 p1 : Int32) : gX Γ I L m_X8_setCostLimit m_X9_setCostLimit [.int p0, .int p1] ["java/lang/IndexOutOfBoundsException", "java/lang/IllegalArgumentException"] := by
  obtain ⟨⟨o, f0, f1, f2, f3, f4, f5, f6, f7⟩, so, st, dr, ⟨ro, rr0, rr5, rr6, ra⟩, hi, sv, ⟨oo, or0, or2, oa, oa2⟩, hm, am, am2⟩ := id hF
  obtain ⟨ob, s4, s5, s6, s7, s8, s9, s10, b1, b2, b3, b4, b5, b6, o7, hg⟩ := id st
  obtain ⟨mo, r0, r1, r2, r3, r4, r7, r8, r13, r14, r15, r16, r17, a1, a2, a3, a4, a5, a6, a7, a8, a9, a10, a11, a12⟩ := id hm
  obtain ⟨⟨n0, n1, n2, n3⟩, ⟨w0, w1, w2⟩, q6, t8, g4, q0, t0, g0⟩ := R.nums
  obtain ⟨ho83, hi1, hi2, hi3⟩ := id hi
  by_cases c0 : ∃ t, t < vG (I 451) ∧ p0 = nn t
  case neg =>
    obtain ⟨b, hb⟩ := eX9_noLimit_x (d := 278) (Γ := Γ) (I := I) (L := L) p1
    refine ⟨I, L, am_u I 450 6 1, .inr "java/lang/IndexOutOfBoundsException", 0, am_ofE rfl rfl rfl (Nat.le_of_ble_eq_true rfl) ?_, am_ofE rfl rfl rfl (Nat.le_of_ble_eq_true rfl) ?_, R.thr 1, Or.inr ⟨0, _, rfl, rfl, by rw [am_u_at, if_pos ⟨rfl, rfl⟩]; rfl⟩⟩
    · refine bX8_setCostLimit_0x (by assumption) (by decide) (by decide) (eX8_requireGate_f hF n2 c0 (by omega)) ?_
      exact ⟨rfl, rfl, rfl⟩
    · refine bX9_setCostLimit_0 (by assumption) (Nat.zero_le _) (Nat.zero_le _) (eX9_noGate_f hm w2 c0 (by omega)) ?_
      refine bX9_setCostLimit_6 (Nat.zero_le _) (Nat.zero_le _) (hb) ?_
      refine bX9_setCostLimit_10 (by assumption) (Nat.zero_le _) (Nat.zero_le _) (eX9_fails hm true b false) ?_
      refine bX9_setCostLimit_14 (fun h => absurd h (by cases b <;> decide)) (fun _ => ?_)
      refine bX9_setCostLimit_17 ?_
      exact ⟨rfl, rfl, rfl⟩
  obtain ⟨g, hgv, rfl⟩ := c0
  cases hin : inR p1 0 30
  case false =>
    refine ⟨I, L, am_u I 450 6 2, .inr "java/lang/IllegalArgumentException", 0, am_ofE rfl rfl rfl (Nat.le_of_ble_eq_true rfl) ?_, am_ofE rfl rfl rfl (Nat.le_of_ble_eq_true rfl) ?_, R.thr 2, Or.inr ⟨1, _, rfl, rfl, by rw [am_u_at, if_pos ⟨rfl, rfl⟩]; rfl⟩⟩
    · refine bX8_setCostLimit_0 (by assumption) (Nat.zero_le _) (Nat.zero_le _) (eX8_requireGate_t (mc := 0) (ms := 0) hF n2 hgv (by omega)) ?_
      refine bX8_setCostLimit_5x (by decide) (by decide) (eX8_requireRange_f hin) ?_
      exact ⟨rfl, rfl, rfl⟩
    · refine bX9_setCostLimit_0 (by assumption) (Nat.zero_le _) (Nat.zero_le _) (eX9_noGate_t hm w2 hgv (by omega)) ?_
      refine bX9_setCostLimit_6 (Nat.zero_le _) (Nat.zero_le _) (eX9_noLimit_f hin) ?_
      refine bX9_setCostLimit_10 (by assumption) (Nat.zero_le _) (Nat.zero_le _) (eX9_fails hm false true false) ?_
      refine bX9_setCostLimit_14 (fun h => absurd h (by decide)) (fun _ => ?_)
      refine bX9_setCostLimit_17 ?_
      exact ⟨rfl, rfl, rfl⟩
  case true =>
  obtain ⟨v, -, hv, rfl⟩ := inR_ex (lo := 0) (hi := 30) (by decide) (by decide) hin
  obtain ⟨hg1, og, g4x, g5, gr, tr⟩ := hg g (by omega)
  have ge : gc 9 g = 9 + (8 + 7 * g) := rfl
  obtain ⟨I1, L1, hE, fI, fL, rest⟩ := R.rem (d := 266) (d2 := 278) hF
  have st1 : stR I1 L1 9 (I 451) := R.2.1.fr g4 (fun c x y => fI c (by omega)) (fun c x y => fL c (by omega))
  have f9 : ∀ c, c < 83 → I1 c = I c := fun c x => fI c (Or.inl x)
  obtain ⟨Ir, hR, k1, k2, k3⟩ := rest (am_u I1 (gc 9 g) 3 (nn v)) L1 0 (fun c x y z => am_u_ne (by omega)) (fun _ _ _ _ => rfl) ⟨by rw [am_u_ne (by omega), f9 81 (by decide)], by rw [am_u_ne (by omega), f9 81 (by decide)], by rw [am_u_ne (by omega), f9 81 (by decide)]⟩ (by rw [am_u_ne (by omega), f9 82 (by decide)])
  have c451 : (am_u I1 (gc 9 g) 3 (nn v)) 451 = I 451 := by rw [am_u_ne (by omega), fI 451 (Or.inr (by decide))]
  have e451 : Ir 451 = I 451 := (k1 451 (by decide) (by decide)).trans c451
  have w1c := (congrFun c451 1).trans w1
  have w2c := (congrFun c451 2).trans w2
  have hRel := k3 (am_u Ir 451 (132 + g * 94 + 2) (nn v)) (by rw [am_u_up, e451]; exact wfs_lim R.1 hgv hv) (by rw [am_u_up, e451]; exact stR_lim (b := 9) st1 R.1.1 hgv _) (fun a a1 a2 a3 a4 a5 => am_u_ne a1)
  refine ⟨am_u I1 (gc 9 g) 3 (nn v), L1, am_u Ir 451 (132 + g * 94 + 2) (nn v), .inl (some (.int (I 451 (132 + g * 94 + 2)))), I 451 (132 + g * 94 + 2), am_ofE rfl rfl rfl (Nat.le_of_ble_eq_true rfl) ?_, am_ofE rfl rfl rfl (Nat.le_of_ble_eq_true rfl) ?_, hRel, Or.inl ⟨rfl, by rw [am_u_ne (by decide)]; exact k2⟩⟩
  · refine bX8_setCostLimit_0 (by assumption) (Nat.zero_le _) (Nat.zero_le _) (eX8_requireGate_t (mc := 0) (ms := 0) hF n2 hgv (by omega)) ?_
    refine bX8_setCostLimit_5 (Nat.zero_le _) (Nat.zero_le _) (eX8_requireRange_y (mc := 0) (ms := 0) hin) ?_
    refine bX8_setCostLimit_12 (by assumption) (by assumption) (by assumption) (by assumption) (Nat.zero_le _) (Nat.zero_le _) (hE) ?_
    refine bX8_setCostLimit_23 (by assumption) (by first | assumption | (rw [nn_nat (by omega)]; exact hg1)) (by assumption) (by first | assumption | (rw [nn_nat (by omega)]; exact hg1)) (by assumption) (nn_in (by omega) (by omega)) (by first | assumption | (rw [nn_nat (by omega)]; exact hg1)) (by assumption) ?_
    exact am_R_e (by rw [f9 _ (by omega)]; exact (R.2.1.2.2.2.2 g hgv).2.2.2.1) rfl rfl
  · refine bX9_setCostLimit_0 (by assumption) (Nat.zero_le _) (Nat.zero_le _) (eX9_noGate_t hm w2c hgv (by omega)) ?_
    refine bX9_setCostLimit_6 (Nat.zero_le _) (Nat.zero_le _) (eX9_noLimit_t hv) ?_
    refine bX9_setCostLimit_10 (by assumption) (Nat.zero_le _) (Nat.zero_le _) (eX9_fails0 hm) ?_
    refine bX9_setCostLimit_14 (fun _ => ?_) (fun h => absurd (by decide) h)
    refine bX9_setCostLimit_19 (by assumption) (by assumption) (Nat.zero_le _) (Nat.zero_le _) (hR) ?_
    refine bX9_setCostLimit_27 (by assumption) (Nat.zero_le _) (Nat.zero_le _) (by rw [ix_g2]; exact eX9_puts hm (by omega) _) ?_
    refine bX9_setCostLimit_42 ?_
    exact am_R_e (by show Ir 451 _ = _; rw [e451]) rfl rfl
theorem fX_advanceClock (hF : wF Γ) (R : REL I L) (p0 : Int32) : gX Γ I L m_X8_advanceClock m_X9_advanceClock [.int p0] ["java/lang/IllegalArgumentException", "java/lang/IllegalStateException"] := by
  obtain ⟨⟨o, f0, f1, f2, f3, f4, f5, f6, f7⟩, so, st, dr, ⟨ro, rr0, rr5, rr6, ra⟩, hi, sv, ⟨oo, or0, or2, oa, oa2⟩, hm, am, am2⟩ := id hF
  obtain ⟨ob, s4, s5, s6, s7, s8, s9, s10, b1, b2, b3, b4, b5, b6, o7, hg⟩ := id st
  obtain ⟨mo, r0, r1, r2, r3, r4, r7, r8, r13, r14, r15, r16, r17, a1, a2, a3, a4, a5, a6, a7, a8, a9, a10, a11, a12⟩ := id hm
  obtain ⟨⟨n0, n1, n2, n3⟩, ⟨w0, w1, w2⟩, q6, t8, g4, q0, t0, g0⟩ := R.nums
  obtain ⟨ho83, hi1, hi2, hi3⟩ := id hi
  cases hin : inR p0 1 100
  case false =>
    refine ⟨I, L, am_u I 450 6 1, .inr "java/lang/IllegalArgumentException", 0, am_ofE rfl rfl rfl (Nat.le_of_ble_eq_true rfl) ?_, am_ofE rfl rfl rfl (Nat.le_of_ble_eq_true rfl) ?_, R.thr 1, Or.inr ⟨0, _, rfl, rfl, by rw [am_u_at, if_pos ⟨rfl, rfl⟩]; rfl⟩⟩
    · refine bX8_advanceClock_0x (by decide) (by decide) (eX8_requireRange_f hin) ?_
      exact ⟨rfl, rfl, rfl⟩
    · refine bX9_advanceClock_0 (Nat.zero_le _) (Nat.zero_le _) (eX9_isIn_f hin) ?_
      refine bX9_advanceClock_7 (fun h => absurd (by decide) h) (fun _ => ?_)
      refine bX9_advanceClock_10 ?_
      refine bX9_advanceClock_15 (fun _ => ?_) (fun h => absurd h (by decide))
      refine bX9_advanceClock_40 ?_
      refine bX9_advanceClock_41 (by assumption) (Nat.zero_le _) (Nat.zero_le _) (eX9_fails1 hm) ?_
      refine bX9_advanceClock_45 (fun h => absurd h (by decide)) (fun _ => ?_)
      refine bX9_advanceClock_48 ?_
      exact ⟨rfl, rfl, rfl⟩
  case true =>
  obtain ⟨v, hv1, hv, rfl⟩ := inR_ex (lo := 1) (hi := 100) (by decide) (by decide) hin
  obtain ⟨x3, c9⟩ := R.1.1.2.2.2.1
  have e3 : I 9 3 = nn (vC (I 451)) := n3.trans x3
  by_cases hc : vC (I 451) + v ≤ 9999
  case neg =>
    have hc' : ¬ nn (vC (I 451)) + nn v ≤ 9999 := by rw [nn_add, nl_9999, nn_le (by omega) (by omega)]; exact hc
    refine ⟨I, L, am_u I 450 6 2, .inr "java/lang/IllegalStateException", 0, am_ofE rfl rfl rfl (Nat.le_of_ble_eq_true rfl) ?_, am_ofE rfl rfl rfl (Nat.le_of_ble_eq_true rfl) ?_, R.thr 2, Or.inr ⟨1, _, rfl, rfl, by rw [am_u_at, if_pos ⟨rfl, rfl⟩]; rfl⟩⟩
    · refine bX8_advanceClock_0 (Nat.zero_le _) (Nat.zero_le _) (eX8_requireRange_y (mc := 0) (ms := 0) hin) ?_
      refine bX8_advanceClock_7 (by assumption) (by assumption) (by assumption) (fun h => absurd (by rw [e3] at h; exact h) hc') (fun h7 => ?_)
      refine bX8_advanceClock_22 (by decide) (by decide) ?_
      exact ⟨rfl, rfl, rfl⟩
    · refine bX9_advanceClock_0 (Nat.zero_le _) (Nat.zero_le _) (eX9_isIn_t hin) ?_
      refine bX9_advanceClock_7 (fun _ => ?_) (fun h => absurd h (by decide))
      refine bX9_advanceClock_14 ?_
      refine bX9_advanceClock_15 (fun h => absurd (by decide) h) (fun _ => ?_)
      refine bX9_advanceClock_22 (by assumption) (by assumption) (by assumption) (nn_in (k := 3) (by decide) (by decide)) (fun h => absurd (by rw [show I 451 (3 : Int32).toNatClampNeg = _ from x3] at h; exact h) hc') (fun h22 => ?_)
      refine bX9_advanceClock_36 ?_
      refine bX9_advanceClock_41 (by assumption) (Nat.zero_le _) (Nat.zero_le _) (eX9_fails hm false true false) ?_
      refine bX9_advanceClock_45 (fun h => absurd h (by decide)) (fun _ => ?_)
      refine bX9_advanceClock_48 ?_
      exact ⟨rfl, rfl, rfl⟩
  have hc' : nn (vC (I 451)) + nn v ≤ 9999 := by rw [nn_add, nl_9999, nn_le (by omega) (by omega)]; exact hc
  obtain ⟨I1, L1, hE, fI, fL, rest⟩ := R.rem (d := 266) (d2 := 278) hF
  have st1 : stR I1 L1 9 (I 451) := R.2.1.fr g4 (fun c x y => fI c (by omega)) (fun c x y => fL c (by omega))
  have f9 : ∀ c, c < 83 → I1 c = I c := fun c x => fI c (Or.inl x)
  have es : I1 9 3 + nn v = nn (vC (I 451) + v) := by rw [f9 9 (by decide), e3, nn_add]
  obtain ⟨Ir, hR, k1, k2, k3⟩ := rest (am_u I1 9 3 (nn (vC (I 451) + v))) L1 0 (fun c x y z => am_u_ne (by omega)) (fun _ _ _ _ => rfl) ⟨by rw [am_u_ne (by decide), f9 81 (by decide)], by rw [am_u_ne (by decide), f9 81 (by decide)], by rw [am_u_ne (by decide), f9 81 (by decide)]⟩ (by rw [am_u_ne (by decide), f9 82 (by decide)])
  have c451 : (am_u I1 9 3 (nn (vC (I 451) + v))) 451 = I 451 := by rw [am_u_ne (by decide), fI 451 (Or.inr (by decide))]
  have e451 : Ir 451 = I 451 := (k1 451 (by decide) (by decide)).trans c451
  have w1c := (congrFun c451 1).trans w1
  have w2c := (congrFun c451 2).trans w2
  have sR := stR_clock (b := 9) st1 R.1.1 (nn (vC (I 451) + v))
  have eG : vG (up (I 451) 3 (nn (vC (I 451) + v))) = vG (I 451) := rfl
  have hRel := k3 (am_u Ir 451 3 (nn (vC (I 451) + v))) (by rw [am_u_up, e451]; exact wfs_clock R.1 hc) (by rw [am_u_up, e451]; exact sR) (fun a a1 a2 a3 a4 a5 => am_u_ne a1)
  refine ⟨am_u I1 9 3 (nn (vC (I 451) + v)), L1, am_u Ir 451 3 (nn (vC (I 451) + v)), .inl (some (.int (mOpen (up (I 451) 3 (nn (vC (I 451) + v))) (vG (I 451))))), mOpen (up (I 451) 3 (nn (vC (I 451) + v))) (vG (I 451)), am_ofE rfl rfl rfl (Nat.le_of_ble_eq_true rfl) ?_, am_ofE rfl rfl rfl (Nat.le_of_ble_eq_true rfl) ?_, hRel, Or.inl ⟨rfl, by rw [am_u_ne (by decide)]; exact k2⟩⟩
  · refine bX8_advanceClock_0 (Nat.zero_le _) (Nat.zero_le _) (eX8_requireRange_y (mc := 0) (ms := 0) hin) ?_
    refine bX8_advanceClock_7 (by assumption) (by assumption) (by assumption) (fun h7 => ?_) (fun h => absurd (by rw [e3]; exact hc') h)
    refine bX8_advanceClock_30 (by assumption) (by assumption) (by assumption) (by assumption) (Nat.zero_le _) (Nat.zero_le _) (hE) ?_
    refine bX8_advanceClock_41 (by assumption) (by assumption) (by assumption) (Nat.zero_le _) (Nat.zero_le _) (by rw [es]; exact eX5_openGates st (by rw [am_u_at, if_neg (by decide), f9 9 (by decide)]; exact n2) g4) ?_
    refine bX8_advanceClock_61 ?_
    exact am_R_e ((congrArg (nOpen _ 9 _) eG.symm).trans ((nOpen_m sR).trans (by rw [eG]))) rfl rfl
  · refine bX9_advanceClock_0 (Nat.zero_le _) (Nat.zero_le _) (eX9_isIn_t hin) ?_
    refine bX9_advanceClock_7 (fun _ => ?_) (fun h => absurd h (by decide))
    refine bX9_advanceClock_14 ?_
    refine bX9_advanceClock_15 (fun h => absurd (by decide) h) (fun _ => ?_)
    refine bX9_advanceClock_22 (by assumption) (by assumption) (by assumption) (nn_in (k := 3) (by decide) (by decide)) (fun h22 => ?_) (fun h => absurd (by rw [show am_u I1 9 3 (nn (vC (I 451) + v)) 451 (3 : Int32).toNatClampNeg = I 451 3 from by rw [am_u_ne (by decide), fI 451 (Or.inr (by decide))]; rfl, x3]; exact hc') h)
    refine bX9_advanceClock_40 ?_
    refine bX9_advanceClock_41 (by assumption) (Nat.zero_le _) (Nat.zero_le _) (eX9_fails0 hm) ?_
    refine bX9_advanceClock_45 (fun _ => ?_) (fun h => absurd (by decide) h)
    refine bX9_advanceClock_50 (by assumption) (by assumption) (Nat.zero_le _) (Nat.zero_le _) (hR) ?_
    refine bX9_advanceClock_58 (by assumption) (Nat.zero_le _) (Nat.zero_le _) (eX9_advances hm (N := vG (I 451)) (by rw [e451]; exact w2) g4 _) ?_
    refine bX9_advanceClock_63 ?_
    have e3' : Ir 451 3 + nn v = nn (vC (I 451) + v) := by rw [e451, x3, nn_add]
    exact am_R_e (by show mOpen (up (Ir 451) 3 (Ir 451 3 + nn v)) _ = _; rw [e3', e451]) (by show am_u Ir 451 3 (Ir 451 3 + nn v) = _; rw [e3']) rfl
end F5
