/-! CLASS AND MODEL SIDE BY SIDE: carts pass, counts halved, a tree built -/
section F6
variable {d mc ms : Nat} {Γ : am_G} {I : am_I} {L : am_L} {m : Nat}
theorem eX0_opensAt_b {g : Nat} {h : Int32} {b : Bool} (hg : gaF Γ g) (hb : opens (I g 1) (I g 2) h = b) : am_E m_X0_opensAt d 0 0 [.ref g, .int h] Γ I L (.inl (some (.int (bi b)))) I L := am_E_e (eX0_opensAt hg h) (by rw [hb]) rfl
theorem eX9_isOpenNow_b (hm : mdF Γ m) {g : Nat} {b : Bool} (hg : g < 4) (hb : opens (I (m + 1) (132 + g * 94 + 0)) (I (m + 1) (132 + g * 94 + 1)) (I (m + 1) 3 - I (m + 1) 3 / 24 * 24) = b) : am_E m_X9_isOpenNow (d + 2) 0 0 [.ref m, .int (nn g)] Γ I L (.inl (some (.int (bi b)))) I L := am_E_e (eX9_isOpenNow hm hg) (by rw [hb]) rfl

theorem fX_passCarts (hF : wF Γ) (R : REL I L) (p0 p1 p2 : Int32) : gX Γ I L m_X8_passCarts m_X9_passCarts [.int p0, .int p1, .int p2] ["java/lang/IndexOutOfBoundsException", "java/lang/IllegalArgumentException", "java/lang/IllegalStateException"] := by
  obtain ⟨⟨o, f0, f1, f2, f3, f4, f5, f6, f7⟩, so, st, dr, ⟨ro, rr0, rr5, rr6, ra⟩, hi, sv, ⟨oo, or0, or2, oa, oa2⟩, hm, am, am2⟩ := id hF
  obtain ⟨ob, s4, s5, s6, s7, s8, s9, s10, b1, b2, b3, b4, b5, b6, o7, hg⟩ := id st
  obtain ⟨mo, r0, r1, r2, r3, r4, r7, r8, r13, r14, r15, r16, r17, a1, a2, a3, a4, a5, a6, a7, a8, a9, a10, a11, a12⟩ := id hm
  obtain ⟨⟨n0, n1, n2, n3⟩, ⟨w0, w1, w2⟩, q6, t8, g4, q0, t0, g0⟩ := R.nums
  obtain ⟨ho83, hi1, hi2, hi3⟩ := id hi
  by_cases c0 : ∃ t, t < vG (I 451) ∧ p0 = nn t
  case neg =>
    refine ⟨I, L, am_u I 450 6 1, .inr "java/lang/IndexOutOfBoundsException", 0, am_ofE rfl rfl rfl (Nat.le_of_ble_eq_true rfl) ?_, am_ofE rfl rfl rfl (Nat.le_of_ble_eq_true rfl) ?_, R.thr 1, Or.inr ⟨0, _, rfl, rfl, by rw [am_u_at, if_pos ⟨rfl, rfl⟩]; rfl⟩⟩
    · refine bX8_passCarts_0x (by assumption) (by decide) (by decide) (eX8_requireGate_f hF n2 c0 (by omega)) ?_
      exact ⟨rfl, rfl, rfl⟩
    · refine bX9_passCarts_0 (by assumption) (Nat.zero_le _) (Nat.zero_le _) (eX9_noGate_f hm w2 c0 (by omega)) ?_
      refine bX9_passCarts_5 (fun _ => ?_) (fun h => absurd h (by decide))
      refine bX9_passCarts_16 ?_
      refine bX9_passCarts_21 (Nat.zero_le _) (Nat.zero_le _) (eX9_isIn p2 1 999) ?_
      refine bX9_passCarts_34 (fun h34 => ?_) (fun h34 => ?_)
      · refine bX9_passCarts_41 ?_
        refine bX9_passCarts_42 (fun h42 => ?_) (fun h => absurd h (by decide))
        refine bX9_passCarts_59 ?_
        refine bX9_passCarts_60 (by assumption) (Nat.zero_le _) (Nat.zero_le _) (eX9_fails hm true false false) ?_
        refine bX9_passCarts_63 (fun h => absurd h (by decide)) (fun _ => ?_)
        refine bX9_passCarts_66 ?_
        exact ⟨rfl, rfl, rfl⟩
      · refine bX9_passCarts_37 ?_
        refine bX9_passCarts_42 (fun h42 => ?_) (fun h => absurd h (by decide))
        refine bX9_passCarts_59 ?_
        refine bX9_passCarts_60 (by assumption) (Nat.zero_le _) (Nat.zero_le _) (eX9_fails hm true true false) ?_
        refine bX9_passCarts_63 (fun h => absurd h (by decide)) (fun _ => ?_)
        refine bX9_passCarts_66 ?_
        exact ⟨rfl, rfl, rfl⟩
  obtain ⟨g, hgv, rfl⟩ := c0
  have hgx : g < 4 := by omega
  obtain ⟨hg1, hgg⟩ := hg g hgx
  obtain ⟨y0, y1, y2, y3, y4, y5, y6⟩ := R.2.1.2.2.2.2 g hgv
  by_cases c1 : ∃ t, t < vT (I 451) ∧ p1 = nn t
  case neg =>
    refine ⟨I, L, am_u I 450 6 1, .inr "java/lang/IndexOutOfBoundsException", 0, am_ofE rfl rfl rfl (Nat.le_of_ble_eq_true rfl) ?_, am_ofE rfl rfl rfl (Nat.le_of_ble_eq_true rfl) ?_, R.thr 1, Or.inr ⟨0, _, rfl, rfl, by rw [am_u_at, if_pos ⟨rfl, rfl⟩]; rfl⟩⟩
    · refine bX8_passCarts_0 (by assumption) (Nat.zero_le _) (Nat.zero_le _) (eX8_requireGate_t (mc := 0) (ms := 0) hF n2 hgv (by omega)) ?_
      refine bX8_passCarts_5x (by assumption) (by decide) (by decide) (eX8_requireType_f hF n1 c1 (by omega)) ?_
      exact ⟨rfl, rfl, rfl⟩
    · refine bX9_passCarts_0 (by assumption) (Nat.zero_le _) (Nat.zero_le _) (eX9_noGate_t hm w2 hgv (by omega)) ?_
      refine bX9_passCarts_5 (fun h => absurd (by decide) h) (fun _ => ?_)
      refine bX9_passCarts_8 (by assumption) (Nat.zero_le _) (Nat.zero_le _) (eX9_noType_f hm w1 c1 (by omega)) ?_
      refine bX9_passCarts_13 (fun h => absurd h (by decide)) (fun _ => ?_)
      refine bX9_passCarts_16 ?_
      refine bX9_passCarts_21 (Nat.zero_le _) (Nat.zero_le _) (eX9_isIn p2 1 999) ?_
      refine bX9_passCarts_34 (fun h34 => ?_) (fun h34 => ?_)
      · refine bX9_passCarts_41 ?_
        refine bX9_passCarts_42 (fun h42 => ?_) (fun h => absurd h (by decide))
        refine bX9_passCarts_59 ?_
        refine bX9_passCarts_60 (by assumption) (Nat.zero_le _) (Nat.zero_le _) (eX9_fails hm true false false) ?_
        refine bX9_passCarts_63 (fun h => absurd h (by decide)) (fun _ => ?_)
        refine bX9_passCarts_66 ?_
        exact ⟨rfl, rfl, rfl⟩
      · refine bX9_passCarts_37 ?_
        refine bX9_passCarts_42 (fun h42 => ?_) (fun h => absurd h (by decide))
        refine bX9_passCarts_59 ?_
        refine bX9_passCarts_60 (by assumption) (Nat.zero_le _) (Nat.zero_le _) (eX9_fails hm true true false) ?_
        refine bX9_passCarts_63 (fun h => absurd h (by decide)) (fun _ => ?_)
        refine bX9_passCarts_66 ?_
        exact ⟨rfl, rfl, rfl⟩
  obtain ⟨t, ht, rfl⟩ := c1
  cases hin : inR p2 1 999
  case false =>
    refine ⟨I, L, am_u I 450 6 2, .inr "java/lang/IllegalArgumentException", 0, am_ofE rfl rfl rfl (Nat.le_of_ble_eq_true rfl) ?_, am_ofE rfl rfl rfl (Nat.le_of_ble_eq_true rfl) ?_, R.thr 2, Or.inr ⟨1, _, rfl, rfl, by rw [am_u_at, if_pos ⟨rfl, rfl⟩]; rfl⟩⟩
    · refine bX8_passCarts_0 (by assumption) (Nat.zero_le _) (Nat.zero_le _) (eX8_requireGate_t (mc := 0) (ms := 0) hF n2 hgv (by omega)) ?_
      refine bX8_passCarts_5 (by assumption) (Nat.zero_le _) (Nat.zero_le _) (eX8_requireType_t (mc := 0) (ms := 0) hF n1 ht (by omega)) ?_
      refine bX8_passCarts_10x (by decide) (by decide) (eX8_requireRange_f hin) ?_
      exact ⟨rfl, rfl, rfl⟩
    · refine bX9_passCarts_0 (by assumption) (Nat.zero_le _) (Nat.zero_le _) (eX9_noGate_t hm w2 hgv (by omega)) ?_
      refine bX9_passCarts_5 (fun h => absurd (by decide) h) (fun _ => ?_)
      refine bX9_passCarts_8 (by assumption) (Nat.zero_le _) (Nat.zero_le _) (eX9_noType_t hm w1 ht (by omega)) ?_
      refine bX9_passCarts_13 (fun _ => ?_) (fun h => absurd (by decide) h)
      refine bX9_passCarts_20 ?_
      refine bX9_passCarts_21 (Nat.zero_le _) (Nat.zero_le _) (eX9_isIn_f hin) ?_
      refine bX9_passCarts_34 (fun h => absurd (by decide) h) (fun _ => ?_)
      refine bX9_passCarts_37 ?_
      refine bX9_passCarts_42 (fun h => absurd rfl h) (fun h42 => ?_)
      refine bX9_passCarts_47 (by assumption) (Nat.zero_le _) (Nat.zero_le _) (eX9_isOpenNow hm hgx) ?_
      refine bX9_passCarts_52 (fun h52 => ?_) (fun h52 => ?_)
      · refine bX9_passCarts_59 ?_
        refine bX9_passCarts_60 (by assumption) (Nat.zero_le _) (Nat.zero_le _) (eX9_fails hm false true false) ?_
        refine bX9_passCarts_63 (fun h => absurd h (by decide)) (fun _ => ?_)
        refine bX9_passCarts_66 ?_
        exact ⟨rfl, rfl, rfl⟩
      · refine bX9_passCarts_55 ?_
        refine bX9_passCarts_60 (by assumption) (Nat.zero_le _) (Nat.zero_le _) (eX9_fails hm false true true) ?_
        refine bX9_passCarts_63 (fun h => absurd h (by decide)) (fun _ => ?_)
        refine bX9_passCarts_66 ?_
        exact ⟨rfl, rfl, rfl⟩
  case true =>
  obtain ⟨k, hk1, hk, rfl⟩ := inR_ex (lo := 1) (hi := 999) (by decide) (by decide) hin
  cases hop : opens (I 451 (132 + g * 94 + 0)) (I 451 (132 + g * 94 + 1)) (I 451 3 - I 451 3 / 24 * 24)
  case false =>
    have hop' : opens (I (gc 9 g) 1) (I (gc 9 g) 2) (I 9 3 - I 9 3 / 24 * 24) = false := by rw [y1, y2, n3]; exact hop
    refine ⟨I, L, am_u I 450 6 3, .inr "java/lang/IllegalStateException", 0, am_ofE rfl rfl rfl (Nat.le_of_ble_eq_true rfl) ?_, am_ofE rfl rfl rfl (Nat.le_of_ble_eq_true rfl) ?_, R.thr 3, Or.inr ⟨2, _, rfl, rfl, by rw [am_u_at, if_pos ⟨rfl, rfl⟩]; rfl⟩⟩
    · refine bX8_passCarts_0 (by assumption) (Nat.zero_le _) (Nat.zero_le _) (eX8_requireGate_t (mc := 0) (ms := 0) hF n2 hgv (by omega)) ?_
      refine bX8_passCarts_5 (by assumption) (Nat.zero_le _) (Nat.zero_le _) (eX8_requireType_t (mc := 0) (ms := 0) hF n1 ht (by omega)) ?_
      refine bX8_passCarts_10 (Nat.zero_le _) (Nat.zero_le _) (eX8_requireRange_y (mc := 0) (ms := 0) hin) ?_
      refine bX8_passCarts_18 (by assumption) (by first | assumption | (rw [nn_nat (by omega)]; exact hg1)) (by assumption) (by first | assumption | (rw [nn_nat (by omega)]; exact hg1)) (by assumption) (nn_in (by omega) (by omega)) (by first | assumption | (rw [nn_nat (by omega)]; exact hg1)) (Nat.zero_le _) (Nat.zero_le _) (eX5_hourOfDay st) ?_
      refine bX8_passCarts_34 hgg.1 (Nat.zero_le _) (Nat.zero_le _) (eX0_opensAt_b hgg hop') ?_
      refine bX8_passCarts_37 (fun h => absurd (by decide) h) (fun _ => ?_)
      refine bX8_passCarts_40 (by decide) (by decide) ?_
      exact ⟨rfl, rfl, rfl⟩
    · refine bX9_passCarts_0 (by assumption) (Nat.zero_le _) (Nat.zero_le _) (eX9_noGate_t hm w2 hgv (by omega)) ?_
      refine bX9_passCarts_5 (fun h => absurd (by decide) h) (fun _ => ?_)
      refine bX9_passCarts_8 (by assumption) (Nat.zero_le _) (Nat.zero_le _) (eX9_noType_t hm w1 ht (by omega)) ?_
      refine bX9_passCarts_13 (fun _ => ?_) (fun h => absurd (by decide) h)
      refine bX9_passCarts_20 ?_
      refine bX9_passCarts_21 (Nat.zero_le _) (Nat.zero_le _) (eX9_isIn_t hin) ?_
      refine bX9_passCarts_34 (fun _ => ?_) (fun h => absurd h (by decide))
      refine bX9_passCarts_41 ?_
      refine bX9_passCarts_42 (fun h => absurd rfl h) (fun h42 => ?_)
      refine bX9_passCarts_47 (by assumption) (Nat.zero_le _) (Nat.zero_le _) (eX9_isOpenNow_b hm hgx hop) ?_
      refine bX9_passCarts_52 (fun h => absurd (by decide) h) (fun _ => ?_)
      refine bX9_passCarts_55 ?_
      refine bX9_passCarts_60 (by assumption) (Nat.zero_le _) (Nat.zero_le _) (eX9_fails hm false false true) ?_
      refine bX9_passCarts_63 (fun h => absurd h (by decide)) (fun _ => ?_)
      refine bX9_passCarts_66 ?_
      exact ⟨rfl, rfl, rfl⟩
  case true =>
  have hop' : opens (I (gc 9 g) 1) (I (gc 9 g) 2) (I 9 3 - I 9 3 / 24 * 24) = true := by rw [y1, y2, n3]; exact hop
  obtain ⟨e, e15, e0, ee, ew, ec, tw, h6, tok, sets⟩ := R.gate hgv
  have md : mda (I 451) g (vQ (I 451)) (vT (I 451)) (qcW (I 451)) (tyW (I 451)) (tlW (I 451)) (ctW (I 451) g) := R.1.1.mda t0 hgv
  have gE : gc 9 g = 9 + (8 + 7 * g) := rfl
  obtain ⟨I1, L1, hE, fI, fL, rest⟩ := R.rem (d := 266) (d2 := 278) hF
  have st1 : stR I1 L1 9 (I 451) := R.2.1.fr g4 (fun c x y => fI c (by omega)) (fun c x y => fL c (by omega))
  have f9 : ∀ c, c < 83 → I1 c = I c := fun c x => fI c (Or.inl x)
  have tok1 : tOK I1 (gc 9 g + 2) e := by unfold tOK; rw [f9 (gc 9 g + 2 + 1) (by omega)]; exact tok
  have eC : pCost I1 9 (gc 9 g + 2) (nn t) e = wcA (rw5 (I 451) g 0) (rw5 (I 451) g 4) (csW (I 451)) (nn t) e := by rw [← R.wc hgv ee h6]; unfold pCost; rw [f9 (gc 9 g + 2 + 1) (by omega), f9 (gc 9 g + 2 + 4) (by omega), f9 (9 + 2) (by omega)]
  obtain ⟨l1, l2, l3, l4⟩ := lfA_sp q6 (show t < 32 by omega) tw.2.2.2 (by have := two_le8 t8; omega) (all_bit ht)
  have eP : I1 (gc 9 g + 2 + 2) (tLh I1 (gc 9 g + 2) (nn t) e) = rw5 (I 451) g 1 (lfA (rw5 (I 451) g 0) (rw5 (I 451) g 4) (nn t) e) := by rw [show tLh I1 (gc 9 g + 2) (nn t) e = tLh I (gc 9 g + 2) (nn t) e from by unfold tLh tLf; rw [f9 (gc 9 g + 2 + 1) (by omega), f9 (gc 9 g + 2 + 4) (by omega)], R.lf h6, f9 (gc 9 g + 2 + 2) (by omega)]; exact (h6 _ l1).2.1
  have eT : I1 (9 + 5) t = I 451 (60 + t * 9) := by rw [f9 (9 + 5) (by omega)]; exact (R.2.1.2.2.1 t ht).2
  obtain ⟨Ip, hP, c7, cc, co⟩ := eX5_letPass (d := 267) (I := I1) (L := L1) (g := g) (t := t) (N := e) st hgx (by omega) e15 e0 (by rw [f9 (gc 9 g + 2) (by omega)]; exact ec) tok1 (nn k)
  rw [eP] at hP
  rw [eC, eP, eT] at c7
  have fp : ∀ c, 45 ≤ c → Ip c = I1 c := fun c x => co c (by omega) (by omega)
  obtain ⟨Ir, hR, k1, k2, k3⟩ := rest (Ip) L1 0 (fun c x y z => fp c z) (fun _ _ _ _ => rfl) ⟨by rw [fp 81 (by decide), f9 81 (by decide)], by rw [fp 81 (by decide), f9 81 (by decide)], by rw [fp 81 (by decide), f9 81 (by decide)]⟩ (by rw [fp 82 (by decide), f9 82 (by decide)])
  have c451 : Ip 451 = I 451 := by rw [fp 451 (by decide), fI 451 (Or.inr (by decide))]
  have e451 : Ir (450 + 1) = I 451 := (k1 451 (by decide) (by decide)).trans c451
  have w1c := (congrFun c451 1).trans w1
  have w2c := (congrFun c451 2).trans w2
  have hopc : opens (Ip (450 + 1) (132 + g * 94 + 0)) (Ip (450 + 1) (132 + g * 94 + 1)) (Ip (450 + 1) 3 - Ip (450 + 1) 3 / 24 * 24) = true := by rw [show Ip (450 + 1) = I 451 from c451]; exact hop
  obtain ⟨Im, hM, m1, m2⟩ := eX9_passes (d := 275) (I := Ir) (L := L1) hm hgx (by rw [e451]; exact md) (by rw [e451]; exact tw) ht hk
  rw [e451] at hM m1
  have hRel := k3 Im (by rw [show Im 451 = _ from m1]; exact wfs_pas R.1 hgv ht hk _ _ _) (by rw [show Im 451 = _ from m1]; exact stR_pas (b := 9) st1 R.1.1 hgv ht c7 cc co) (fun a a1 a2 a3 a4 a5 => m2 a a1)
  refine ⟨Ip, L1, Im, .inl (some (.int (rw5 (I 451) g 1 (lfA (rw5 (I 451) g 0) (rw5 (I 451) g 4) (nn t) e)))), rw5 (I 451) g 1 (lfA (rw5 (I 451) g 0) (rw5 (I 451) g 4) (nn t) e), am_ofE rfl rfl rfl (Nat.le_of_ble_eq_true rfl) ?_, am_ofE rfl rfl rfl (Nat.le_of_ble_eq_true rfl) ?_, hRel, Or.inl ⟨rfl, by rw [m2 450 (by decide)]; exact k2⟩⟩
  · refine bX8_passCarts_0 (by assumption) (Nat.zero_le _) (Nat.zero_le _) (eX8_requireGate_t (mc := 0) (ms := 0) hF n2 hgv (by omega)) ?_
    refine bX8_passCarts_5 (by assumption) (Nat.zero_le _) (Nat.zero_le _) (eX8_requireType_t (mc := 0) (ms := 0) hF n1 ht (by omega)) ?_
    refine bX8_passCarts_10 (Nat.zero_le _) (Nat.zero_le _) (eX8_requireRange_y (mc := 0) (ms := 0) hin) ?_
    refine bX8_passCarts_18 (by assumption) (by first | assumption | (rw [nn_nat (by omega)]; exact hg1)) (by assumption) (by first | assumption | (rw [nn_nat (by omega)]; exact hg1)) (by assumption) (nn_in (by omega) (by omega)) (by first | assumption | (rw [nn_nat (by omega)]; exact hg1)) (Nat.zero_le _) (Nat.zero_le _) (eX5_hourOfDay st) ?_
    refine bX8_passCarts_34 hgg.1 (Nat.zero_le _) (Nat.zero_le _) (eX0_opensAt_b hgg hop') ?_
    refine bX8_passCarts_37 (fun _ => ?_) (fun h => absurd h (by decide))
    refine bX8_passCarts_48 (by assumption) (by assumption) (by assumption) (by assumption) (Nat.zero_le _) (Nat.zero_le _) (hE) ?_
    refine bX8_passCarts_59 (by assumption) (by assumption) (by assumption) (Nat.zero_le _) (Nat.zero_le _) (hP) ?_
    refine bX8_passCarts_69 ?_
    exact ⟨rfl, rfl, rfl⟩
  · refine bX9_passCarts_0 (by assumption) (Nat.zero_le _) (Nat.zero_le _) (eX9_noGate_t hm w2c hgv (by omega)) ?_
    refine bX9_passCarts_5 (fun h => absurd (by decide) h) (fun _ => ?_)
    refine bX9_passCarts_8 (by assumption) (Nat.zero_le _) (Nat.zero_le _) (eX9_noType_t hm w1c ht (by omega)) ?_
    refine bX9_passCarts_13 (fun _ => ?_) (fun h => absurd (by decide) h)
    refine bX9_passCarts_20 ?_
    refine bX9_passCarts_21 (Nat.zero_le _) (Nat.zero_le _) (eX9_isIn_t hin) ?_
    refine bX9_passCarts_34 (fun _ => ?_) (fun h => absurd h (by decide))
    refine bX9_passCarts_41 ?_
    refine bX9_passCarts_42 (fun h => absurd rfl h) (fun h42 => ?_)
    refine bX9_passCarts_47 (by assumption) (Nat.zero_le _) (Nat.zero_le _) (eX9_isOpenNow_b hm hgx hopc) ?_
    refine bX9_passCarts_52 (fun _ => ?_) (fun h => absurd h (by decide))
    refine bX9_passCarts_59 ?_
    refine bX9_passCarts_60 (by assumption) (Nat.zero_le _) (Nat.zero_le _) (eX9_fails0 hm) ?_
    refine bX9_passCarts_63 (fun _ => ?_) (fun h => absurd (by decide) h)
    refine bX9_passCarts_68 (by assumption) (by assumption) (Nat.zero_le _) (Nat.zero_le _) (hR) ?_
    refine bX9_passCarts_76 (by assumption) (Nat.zero_le _) (Nat.zero_le _) (hM) ?_
    refine bX9_passCarts_83 ?_
    exact ⟨rfl, rfl, rfl⟩
theorem fX_halveCounts (hF : wF Γ) (R : REL I L) (p0 : Int32) : gX Γ I L m_X8_halveCounts m_X9_halveCounts [.int p0] ["java/lang/IndexOutOfBoundsException"] := by
  obtain ⟨⟨o, f0, f1, f2, f3, f4, f5, f6, f7⟩, so, st, dr, ⟨ro, rr0, rr5, rr6, ra⟩, hi, sv, ⟨oo, or0, or2, oa, oa2⟩, hm, am, am2⟩ := id hF
  obtain ⟨ob, s4, s5, s6, s7, s8, s9, s10, b1, b2, b3, b4, b5, b6, o7, hg⟩ := id st
  obtain ⟨mo, r0, r1, r2, r3, r4, r7, r8, r13, r14, r15, r16, r17, a1, a2, a3, a4, a5, a6, a7, a8, a9, a10, a11, a12⟩ := id hm
  obtain ⟨⟨n0, n1, n2, n3⟩, ⟨w0, w1, w2⟩, q6, t8, g4, q0, t0, g0⟩ := R.nums
  obtain ⟨ho83, hi1, hi2, hi3⟩ := id hi
  by_cases c0 : ∃ t, t < vG (I 451) ∧ p0 = nn t
  case neg =>
    refine ⟨I, L, am_u I 450 6 1, .inr "java/lang/IndexOutOfBoundsException", 0, am_ofE rfl rfl rfl (Nat.le_of_ble_eq_true rfl) ?_, am_ofE rfl rfl rfl (Nat.le_of_ble_eq_true rfl) ?_, R.thr 1, Or.inr ⟨0, _, rfl, rfl, by rw [am_u_at, if_pos ⟨rfl, rfl⟩]; rfl⟩⟩
    · refine bX8_halveCounts_0x (by assumption) (by decide) (by decide) (eX8_requireGate_f hF n2 c0 (by omega)) ?_
      exact ⟨rfl, rfl, rfl⟩
    · refine bX9_halveCounts_0 (by assumption) (Nat.zero_le _) (Nat.zero_le _) (eX9_noGate_f hm w2 c0 (by omega)) ?_
      refine bX9_halveCounts_6 (by assumption) (Nat.zero_le _) (Nat.zero_le _) (eX9_fails1 hm) ?_
      refine bX9_halveCounts_11 (fun h => absurd h (by decide)) (fun _ => ?_)
      refine bX9_halveCounts_14 ?_
      exact ⟨rfl, rfl, rfl⟩
  obtain ⟨g, hgv, rfl⟩ := c0
  have hgx : g < 4 := by omega
  obtain ⟨hg1, hgg⟩ := hg g hgx
  obtain ⟨og, gg4, gg5, ga, tr⟩ := id hgg
  have gE : gc 9 g = 9 + (8 + 7 * g) := rfl
  obtain ⟨I1, L1, hE, fI, fL, rest⟩ := R.rem (d := 266) (d2 := 278) hF
  have st1 : stR I1 L1 9 (I 451) := R.2.1.fr g4 (fun c x y => fI c (by omega)) (fun c x y => fL c (by omega))
  have f9 : ∀ c, c < 83 → I1 c = I c := fun c x => fI c (Or.inl x)
  generalize hIh : am_mI I1 (gc 9 g + 1) (fun t => I1 (gc 9 g + 1) t / 2) 8 = Ih
  have co : ∀ k, k ≠ gc 9 g + 1 → Ih k = I1 k := fun k hk => by rw [← hIh]; funext j; rw [am_mI_at, if_neg (fun z => hk z.1)]
  have hH : am_E m_X0_halve 269 0 0 [.ref (gc 9 g)] Γ I1 L1 (.inl none) Ih L1 := by rw [← hIh]; exact eX0_halve hgg
  have cc : ∀ j, j < 8 → Ih (gc 9 g + 1) j = I1 (gc 9 g + 1) j / 2 := fun j hj => by rw [← hIh, am_mI_at, if_pos ⟨rfl, hj⟩]
  have fp : ∀ c, 45 ≤ c → Ih c = I1 c := fun c x => co c (by omega)
  obtain ⟨Ir, hR, k1, k2, k3⟩ := rest (Ih) L1 0 (fun c x y z => fp c z) (fun _ _ _ _ => rfl) ⟨by rw [fp 81 (by decide), f9 81 (by decide)], by rw [fp 81 (by decide), f9 81 (by decide)], by rw [fp 81 (by decide), f9 81 (by decide)]⟩ (by rw [fp 82 (by decide), f9 82 (by decide)])
  have c451 : Ih 451 = I 451 := by rw [fp 451 (by decide), fI 451 (Or.inr (by decide))]
  have e451 : Ir (450 + 1) = I 451 := (k1 451 (by decide) (by decide)).trans c451
  have w2c := (congrFun c451 2).trans w2
  have sH := stR_hl (b := 9) st1 R.1.1 hgv cc co
  have eT : vT (hlW (I 451) g) = vT (I 451) := by unfold vT; rw [show hlW (I 451) g 1 = I 451 1 from by unfold hlW; rw [if_neg (by omega)]]
  obtain ⟨Im, hM, m1, m2⟩ := eX9_halves (d := 276) (I := Ir) (L := L1) (T := vT (I 451)) hm hgx (by rw [e451]; exact w1) t8
  rw [e451] at hM m1
  have m1' : Im 451 = hlW (I 451) g := m1
  have hRel := k3 Im (by rw [m1']; exact wfs_hl R.1 hgv) (by rw [m1']; exact sH) (fun a a1 a2 a3 a4 a5 => m2 a a1)
  have yH := (sH.2.2.2.2 g ((show vG (hlW (I 451) g) = vG (I 451) from by unfold vG; rw [show hlW (I 451) g 2 = I 451 2 from by unfold hlW; rw [if_neg (by omega)]]) ▸ hgv)).2.2.2.2.1
  rw [eT] at yH
  have p8 := two_le8 t8
  have p0 : 0 < 2 ^ vT (I 451) := Nat.pow_pos (by decide)
  refine ⟨Ih, L1, Im, .inl (some (.int (mCnt (hlk (I 451) g (vT (I 451))) g (vT (I 451))))), mCnt (hlk (I 451) g (vT (I 451))) g (vT (I 451)), am_ofE rfl rfl rfl (Nat.le_of_ble_eq_true rfl) ?_, am_ofE rfl rfl rfl (Nat.le_of_ble_eq_true rfl) ?_, hRel, Or.inl ⟨rfl, by rw [m2 450 (by decide)]; exact k2⟩⟩
  · refine bX8_halveCounts_0 (by assumption) (Nat.zero_le _) (Nat.zero_le _) (eX8_requireGate_t (mc := 0) (ms := 0) hF n2 hgv (by omega)) ?_
    refine bX8_halveCounts_5 (by assumption) (by assumption) (by assumption) (by assumption) (Nat.zero_le _) (Nat.zero_le _) (hE) ?_
    refine bX8_halveCounts_16 (by assumption) (by first | assumption | (rw [nn_nat (by omega)]; exact hg1)) (by assumption) (by first | assumption | (rw [nn_nat (by omega)]; exact hg1)) (by assumption) (nn_in (by omega) (by omega)) (by first | assumption | (rw [nn_nat (by omega)]; exact hg1)) (by assumption) (Nat.zero_le _) (Nat.zero_le _) (hH) ?_
    refine bX8_halveCounts_28 (by assumption) (by first | assumption | (rw [nn_nat (by omega)]; exact hg1)) (by assumption) (by first | assumption | (rw [nn_nat (by omega)]; exact hg1)) (by assumption) (nn_in (by omega) (by omega)) (by first | assumption | (rw [nn_nat (by omega)]; exact hg1)) (Nat.zero_le _) (Nat.zero_le _) (eX5_allTypes st (by rw [co 9 (by omega), f9 9 (by decide)]; exact n1) t8) ?_
    refine bX8_halveCounts_44 (by assumption) (Nat.zero_le _) (Nat.zero_le _) (eX0_weight hgg _) ?_
    refine bX8_halveCounts_47 ?_
    exact am_R_e (by rw [wgt_m (g := g) (w := hlW (I 451) g) t8 (by omega) yH, mWgt_all t8]; rfl) rfl rfl
  · refine bX9_halveCounts_0 (by assumption) (Nat.zero_le _) (Nat.zero_le _) (eX9_noGate_t hm w2c hgv (by omega)) ?_
    refine bX9_halveCounts_6 (by assumption) (Nat.zero_le _) (Nat.zero_le _) (eX9_fails0 hm) ?_
    refine bX9_halveCounts_11 (fun _ => ?_) (fun h => absurd (by decide) h)
    refine bX9_halveCounts_16 (by assumption) (by assumption) (Nat.zero_le _) (Nat.zero_le _) (hR) ?_
    refine bX9_halveCounts_24 (by assumption) (Nat.zero_le _) (Nat.zero_le _) (hM) ?_
    refine bX9_halveCounts_29 ?_
    exact ⟨rfl, rfl, rfl⟩
theorem fX_buildTree (hF : wF Γ) (R : REL I L) (p0 : Int32) : gX Γ I L m_X8_buildTree m_X9_buildTree [.int p0] ["java/lang/IndexOutOfBoundsException"] := by
  obtain ⟨⟨o, f0, f1, f2, f3, f4, f5, f6, f7⟩, so, st, dr, ⟨ro, rr0, rr5, rr6, ra⟩, hi, sv, ⟨oo, or0, or2, oa, oa2⟩, hm, am, am2⟩ := id hF
  obtain ⟨ob, s4, s5, s6, s7, s8, s9, s10, b1, b2, b3, b4, b5, b6, o7, hg⟩ := id st
  obtain ⟨mo, r0, r1, r2, r3, r4, r7, r8, r13, r14, r15, r16, r17, a1, a2, a3, a4, a5, a6, a7, a8, a9, a10, a11, a12⟩ := id hm
  obtain ⟨⟨n0, n1, n2, n3⟩, ⟨w0, w1, w2⟩, q6, t8, g4, q0, t0, g0⟩ := R.nums
  obtain ⟨ho83, hi1, hi2, hi3⟩ := id hi
  by_cases c0 : ∃ t, t < vG (I 451) ∧ p0 = nn t
  case neg =>
    refine ⟨I, L, am_u I 450 6 1, .inr "java/lang/IndexOutOfBoundsException", 0, am_ofE rfl rfl rfl (Nat.le_of_ble_eq_true rfl) ?_, am_ofE rfl rfl rfl (Nat.le_of_ble_eq_true rfl) ?_, R.thr 1, Or.inr ⟨0, _, rfl, rfl, by rw [am_u_at, if_pos ⟨rfl, rfl⟩]; rfl⟩⟩
    · refine bX8_buildTree_0x (by assumption) (by decide) (by decide) (eX8_requireGate_f hF n2 c0 (by omega)) ?_
      exact ⟨rfl, rfl, rfl⟩
    · refine bX9_buildTree_0 (by assumption) (Nat.zero_le _) (Nat.zero_le _) (eX9_noGate_f hm w2 c0 (by omega)) ?_
      refine bX9_buildTree_6 (by assumption) (Nat.zero_le _) (Nat.zero_le _) (eX9_fails1 hm) ?_
      refine bX9_buildTree_11 (fun h => absurd h (by decide)) (fun _ => ?_)
      refine bX9_buildTree_14 ?_
      exact ⟨rfl, rfl, rfl⟩
  obtain ⟨g, hgv, rfl⟩ := c0
  have hgx : g < 4 := by omega
  obtain ⟨hg1, hgg⟩ := hg g hgx
  obtain ⟨og, gg4, gg5, ga, tr⟩ := id hgg
  have gE : gc 9 g = 9 + (8 + 7 * g) := rfl
  obtain ⟨I1, L1, hE, fI, fL, rest⟩ := R.rem (d := 266) (d2 := 278) hF
  have st1 : stR I1 L1 9 (I 451) := R.2.1.fr g4 (fun c x y => fI c (by omega)) (fun c x y => fL c (by omega))
  have f9 : ∀ c, c < 83 → I1 c = I c := fun c x => fI c (Or.inl x)
  obtain ⟨ol, lim, l30⟩ := (⟨(R.2.1.2.2.2.2 g hgv).2.2.2.1, (R.1.1.2.2.2.2.2.2 g hgv).2.2.1.1, (R.1.1.2.2.2.2.2.2 g hgv).2.2.1.2⟩ : I (gc 9 g) 3 = I 451 (132 + g * 94 + 2) ∧ I 451 (132 + g * 94 + 2) = nn (lmW (I 451) g) ∧ lmW (I 451) g ≤ 30)
  obtain ⟨Ib, Lb, hP, ⟨e, e0, e15, es, etv⟩, bI, bL⟩ := eX4_plant (d := 267) (I := I1) (L := L1) (k := 1) (b := 9) so st hgx (Or.inr (by decide)) (st1.sda R.1.1 t0 hgv) (by rw [f9 (gc 9 g) (by omega), ol]; exact lim) l30
  have fp : ∀ c, 45 ≤ c → Ib c = I1 c := fun c x => bI c (Or.inr (by omega)) (Or.inr (by omega))
  obtain ⟨Ir, hR, k1, k2, k3⟩ := rest (Ib) Lb 0 (fun c x y z => fp c z) (fun c x _ _ => bL c (by omega)) ⟨by rw [fp 81 (by decide), f9 81 (by decide)], by rw [fp 81 (by decide), f9 81 (by decide)], by rw [fp 81 (by decide), f9 81 (by decide)]⟩ (by rw [fp 82 (by decide), f9 82 (by decide)])
  have c451 : Ib 451 = I 451 := by rw [fp 451 (by decide), fI 451 (Or.inr (by decide))]
  have e451 : Ir (450 + 1) = I 451 := (k1 451 (by decide) (by decide)).trans c451
  have w2c := (congrFun c451 2).trans w2
  have md : mda (I 451) g (vQ (I 451)) (vT (I 451)) (qcW (I 451)) (tyW (I 451)) (tlW (I 451)) (ctW (I 451) g) := R.1.1.mda t0 hgv
  obtain ⟨Im, e', hM, m1, m2, m3, m4, m5, m6⟩ := eX9_builds (d := 18) (I := Ir) (L := Lb) hm hgx (by rw [e451]; exact md) l30 (by rw [e451]; exact lim)
  rw [e451] at m6
  have hb : bldR (I 451) g (Im 451) := ⟨e', m1, m2, m3, m4, m6⟩
  have eu : e' = e := (tvb_uq etv m4).1
  have hRel := k3 Im (wfs_bld R.1 hgv hb) (stR_bld (b := 9) st1 R.1.1 hgv hb es e0 e15 etv (fun k x y z => bI k (Or.inr (by omega)) z) (fun k x y => bL k (by omega))) (fun a a1 a2 a3 a4 a5 => m5 a a1 a2 a3 a4 a5)
  refine ⟨Ib, Lb, Im, .inl (some (.int (nn e))), nn e, am_ofE rfl rfl rfl (Nat.le_of_ble_eq_true rfl) ?_, am_ofE rfl rfl rfl (Nat.le_of_ble_eq_true rfl) ?_, hRel, Or.inl ⟨rfl, by rw [m5 450 (by decide) (by decide) (by decide) (by decide) (by decide)]; exact k2⟩⟩
  · refine bX8_buildTree_0 (by assumption) (Nat.zero_le _) (Nat.zero_le _) (eX8_requireGate_t (mc := 0) (ms := 0) hF n2 hgv (by omega)) ?_
    refine bX8_buildTree_5 (by assumption) (by assumption) (by assumption) (by assumption) (Nat.zero_le _) (Nat.zero_le _) (hE) ?_
    refine bX8_buildTree_16 (by first | assumption | exact so.1) (by first | assumption | (rw [nn_nat (by omega)]; exact hg1)) (by first | assumption | (rw [nn_nat (by omega)]; exact hg1)) (by first | assumption | exact so.1) (by first | assumption | (rw [nn_nat (by omega)]; exact hg1)) (by assumption) (nn_in (by omega) (by omega)) (by first | assumption | (rw [nn_nat (by omega)]; exact hg1)) (by first | assumption | exact so.1) (Nat.zero_le _) (Nat.zero_le _) (hP) ?_
    refine bX8_buildTree_36 (by first | assumption | exact tr.1) (by first | assumption | (rw [nn_nat (by omega)]; exact hg1)) (by first | assumption | exact tr.1) (by first | assumption | (rw [nn_nat (by omega)]; exact hg1)) (by assumption) (nn_in (by omega) (by omega)) (by first | assumption | (rw [nn_nat (by omega)]; exact hg1)) (by first | assumption | exact tr.1) (by first | assumption | (rw [nn_nat (by omega)]; exact hg1)) (by first | assumption | exact tr.1) ?_
    exact am_R_e es rfl rfl
  · refine bX9_buildTree_0 (by assumption) (Nat.zero_le _) (Nat.zero_le _) (eX9_noGate_t hm w2c hgv (by omega)) ?_
    refine bX9_buildTree_6 (by assumption) (Nat.zero_le _) (Nat.zero_le _) (eX9_fails0 hm) ?_
    refine bX9_buildTree_11 (fun _ => ?_) (fun h => absurd (by decide) h)
    refine bX9_buildTree_16 (by assumption) (by assumption) (Nat.zero_le _) (Nat.zero_le _) (hR) ?_
    refine bX9_buildTree_24 (by assumption) (Nat.zero_le _) (Nat.zero_le _) (hM) ?_
    refine bX9_buildTree_29 ?_
    exact am_R_e (by rw [eu]) rfl rfl
end F6
