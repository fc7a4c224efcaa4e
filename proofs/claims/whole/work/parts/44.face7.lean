/-! CLASS AND MODEL SIDE BY SIDE: undo, save, restore -/
section F7
variable {d mc ms : Nat} {Γ : am_G} {I I' : am_I} {L L' : am_L} {m : Nat}
theorem REL.tail (R : REL I L) (e : ∀ c, c = 81 ∨ c = 82 ∨ c = 447 ∨ c = 448 ∨ c = 456 ∨ c = 457 → I' c = I c) (em : ∀ j, j ≠ 5 → j ≠ 6 → I' 450 j = I 450 j) : rdR I' ∧ (I' 81 2 = I' 450 11 ∧ I' 81 3 = I' 450 12) ∧ otR I' := by
  obtain ⟨-, -, -, -, h5, h6, h7⟩ := R
  refine ⟨?_, ?_, ?_⟩
  · obtain ⟨n, n1, n2, n3, n4⟩ := h5
    refine ⟨n, n1, by rw [e 81 (by decide)]; exact n2, by rw [em 9 (by decide) (by decide)]; exact n3, fun j hj => ?_⟩
    rw [e 456 (by decide), e 82 (by decide)]
    exact n4 j hj
  · rw [e 81 (by decide), em 11 (by decide) (by decide), em 12 (by decide) (by decide)]
    exact h6
  · obtain ⟨n, n1, n2, n3, n4⟩ := h7
    refine ⟨n, n1, by rw [e 447 (by decide)]; exact n2, by rw [em 10 (by decide) (by decide)]; exact n3, fun j hj => ?_⟩
    rw [e 448 (by decide), e 457 (by decide)]
    exact n4 j hj
theorem wF.sv (hF : wF Γ) {z : Nat} (hz : z < 2) : Γ.2.2 373 z = some (374 + 36 * z) ∧ stF Γ (374 + 36 * z) := by
  obtain ⟨-, -, -, -, -, -, ⟨s1, s2, s3, s4, s5, s6⟩, -⟩ := hF
  rcases (show z = 0 ∨ z = 1 by omega) with h | h <;> subst h
  · exact ⟨s2, s4⟩
  · exact ⟨s3, s5⟩
theorem nar1 : vp_nar .boolean 1 = (1 : Int32) := rfl
theorem ix_508 (z : Nat) : (nn z * 508 : Int32) = nn (z * 508) := nn_mul z 508

theorem fX_save (hF : wF Γ) (R : REL I L) (p0 : Int32) : gX Γ I L m_X8_save m_X9_save [.int p0] ["java/lang/IllegalArgumentException"] := by
  obtain ⟨⟨o, f0, f1, f2, f3, f4, f5, f6, f7⟩, so, st, dr, ⟨ro, rr0, rr5, rr6, ra⟩, hi, sv, ⟨oo, or0, or2, oa, oa2⟩, hm, am, am2⟩ := id hF
  obtain ⟨ob, s4, s5, s6, s7, s8, s9, s10, b1, b2, b3, b4, b5, b6, o7, hg⟩ := id st
  obtain ⟨mo, r0, r1, r2, r3, r4, r7, r8, r13, r14, r15, r16, r17, a1, a2, a3, a4, a5, a6, a7, a8, a9, a10, a11, a12⟩ := id hm
  obtain ⟨⟨n0, n1, n2, n3⟩, ⟨w0, w1, w2⟩, q6, t8, g4, q0, t0, g0⟩ := R.nums
  obtain ⟨ho83, hi1, hi2, hi3⟩ := id hi
  obtain ⟨sv1, sv2, sv3, sv4, sv5, sv6⟩ := id sv
  cases hin : inR p0 0 1
  case false =>
    refine ⟨I, L, am_u I 450 6 1, .inr "java/lang/IllegalArgumentException", 0, am_ofE rfl rfl rfl (Nat.le_of_ble_eq_true rfl) ?_, am_ofE rfl rfl rfl (Nat.le_of_ble_eq_true rfl) ?_, R.thr 1, Or.inr ⟨0, _, rfl, rfl, by rw [am_u_at, if_pos ⟨rfl, rfl⟩]; rfl⟩⟩
    · refine bX8_save_0x (by decide) (by decide) (eX8_requireRange_f hin) ?_
      exact ⟨rfl, rfl, rfl⟩
    · refine bX9_save_0 (Nat.zero_le _) (Nat.zero_le _) (eX9_isIn_f hin) ?_
      refine bX9_save_7 (fun h => absurd (by decide) h) (fun _ => ?_)
      refine bX9_save_10 ?_
      refine bX9_save_15 (by assumption) (Nat.zero_le _) (Nat.zero_le _) (eX9_fails1 hm) ?_
      refine bX9_save_20 (fun h => absurd h (by decide)) (fun _ => ?_)
      refine bX9_save_23 ?_
      exact ⟨rfl, rfl, rfl⟩
  case true =>
  obtain ⟨z, -, hz, rfl⟩ := inR_ex (lo := 0) (hi := 1) (by decide) (by decide) hin
  obtain ⟨zl, zs⟩ := wF.sv hF (show z < 2 by omega)
  obtain ⟨R1, R2, R3, R4, R5, R6, R7⟩ := id R
  obtain ⟨I1, L1, hP, sE, fI, fL⟩ := eX5_copyFrom (d := 267) (I := I) (L := L) (a := 374 + 36 * z) (b := 9) zs st (Or.inr (by omega)) n2 g4
  have e1 : ∀ c, c < 374 ∨ 446 ≤ c → I1 c = I c := fun c hc => fI c (by omega)
  have e2 : ∀ c, c < 374 ∨ 446 ≤ c → L1 c = L c := fun c hc => fL c (by omega)
  generalize hJ : am_u I1 446 z 1 = J
  have j446 : ∀ j, J 446 j = if j = z then 1 else I 446 j := fun j => by rw [← hJ, at1, e1 446 (by decide)]
  have jn : ∀ c, c ≠ 446 → J c = I1 c := fun c hc => by rw [← hJ, am_u_ne hc]
  have c451 : am_u J 450 6 0 451 = I 451 := by rw [am_u_ne (by decide), jn 451 (by decide), e1 451 (by decide)]
  have w1c : J (450 + 1) 1 = _ := (congrFun (show J 451 = I 451 by rw [jn 451 (by decide), e1 451 (by decide)]) 1).trans w1
  generalize hM : am_u (am_cI (am_u J 450 6 0) 451 453 0 (z * 508) 508) 455 z 1 = M
  have m453 : ∀ j, M 453 j = if z * 508 ≤ j ∧ j < z * 508 + 508 then I 451 (j - z * 508) else I 453 j := fun j => by
    rw [← hM, am_u_ne (by decide), am_cI_at]
    by_cases h : z * 508 ≤ j ∧ j < z * 508 + 508
    · rw [if_pos ⟨rfl, h.1, h.2⟩, if_pos h, c451, Nat.zero_add]
    · rw [if_neg (fun x => h x.2), if_neg h, am_u_ne (by decide), jn 453 (by decide), e1 453 (by decide)]
  have mn : ∀ c, c ≠ 453 → c ≠ 455 → c ≠ 450 → M c = J c := fun c h1 h2 h3 => by
    rw [← hM, am_u_ne h2]
    funext j
    rw [am_cI_at, if_neg (fun x => h1 x.1), am_u_ne h3]
  have m455 : ∀ j, M 455 j = if j = z then 1 else I 455 j := fun j => by
    rw [← hM, at1]
    by_cases hj : j = z
    · rw [if_pos hj, if_pos hj]
    · rw [if_neg hj, if_neg hj, am_cI_at, if_neg (fun x => absurd x.1 (by decide)), am_u_ne (by decide), jn 455 (by decide), e1 455 (by decide)]
  have m450 : ∀ j, M 450 j = if j = 6 then 0 else I 450 j := fun j => by
    rw [← hM, am_u_ne (by decide), am_cI_at, if_neg (fun x => absurd x.1 (by decide)), at1, jn 450 (by decide), e1 450 (by decide)]
  have mI : ∀ c, c < 374 ∨ 447 ≤ c → c ≠ 450 → c ≠ 453 → c ≠ 455 → M c = I c := fun c h1 h2 h3 h4 => by rw [mn c h3 h4 h2, jn c (by omega), e1 c (by omega)]
  have hRel : REL M L1 := by
    have e451 := mI 451 (by decide) (by decide) (by decide) (by decide)
    refine ⟨by rw [e451]; exact R1, by rw [e451]; exact R2.fr g4 (fun c x y => mI c (by omega) (by omega) (by omega) (by omega)) (fun c x y => e2 c (by omega)), R3.fr (fun c x y => mI c (by omega) (by omega) (by omega) (by omega)) (by rw [m450]; rfl) (mI 452 (by decide) (by decide) (by decide) (by decide)) (fun c x y => e2 c (by omega)), fun z' hz' => ?_, R.tail (fun c hc => mI c (by omega) (by omega) (by omega) (by omega)) (fun j j5 j6 => by rw [m450, if_neg j6])⟩
    rw [mn 446 (by decide) (by decide) (by decide), j446, m455]
    obtain ⟨v1, v2⟩ := R4 z' hz'
    by_cases hzz : z' = z
    · subst hzz
      rw [if_pos rfl, if_pos rfl]
      have ek : ∀ j, j < 508 → sR M z' j = I 451 j := fun j hj => by
        show M 453 (508 * z' + j) = _
        rw [m453, if_pos (by omega)]
        exact congrArg (I 451) (by omega)
      refine ⟨rfl, Or.inr ⟨rfl, R1.cg ek, ?_⟩⟩
      refine (((R2.cp R1.1 sE).fr g4 (fun c x y => ?_) (fun _ _ _ => rfl))).cg R1.1 ek
      rw [mn c (by omega) (by omega) (by omega), jn c (by omega)]
    · rw [if_neg hzz, if_neg hzz]
      refine ⟨v1, v2.imp id (fun h => ?_)⟩
      obtain ⟨h1, h2, h3⟩ := h
      have ek : sR M z' = fun j => M 453 (508 * z' + j) := rfl
      have eq : ∀ j, j < 508 → sR M z' j = sR I z' j := fun j hj => by
        show M 453 (508 * z' + j) = I 453 (508 * z' + j)
        rw [m453, if_neg (by omega)]
      refine ⟨h1, h2.cg eq, ((h3.fr h2.1.2.2.1.2 (fun c x y => ?_) (fun c x y => fL c (by omega)))).cg h2.1 eq⟩
      rw [mn c (by omega) (by omega) (by omega), jn c (by omega), fI c (by omega)]
  refine ⟨J, L1, M, .inl (some (.int (I 451 3))), I 451 3, am_ofE rfl rfl rfl (Nat.le_of_ble_eq_true rfl) ?_, am_ofE rfl rfl rfl (Nat.le_of_ble_eq_true rfl) ?_, hRel, Or.inl ⟨rfl, by rw [m450]; rfl⟩⟩
  · refine bX8_save_0 (Nat.zero_le _) (Nat.zero_le _) (eX8_requireRange_y (mc := 0) (ms := 0) hin) ?_
    refine bX8_save_6 (by first | assumption | exact zs.1) (by first | assumption | (rw [nn_nat (by omega)]; exact zl)) (by assumption) (nn_in (by omega) (by omega)) (by first | assumption | (rw [nn_nat (by omega)]; exact zl)) (by first | assumption | (rw [nn_nat (by omega)]; exact zl)) (by first | assumption | exact zs.1) (Nat.zero_le _) (Nat.zero_le _) (hP) ?_
    refine bX8_save_19 (by assumption) (by assumption) (by assumption) (nn_in (by omega) (by omega)) (by assumption) (by assumption) ?_
    rw [nn_nat (by omega), nar1, hJ]
    exact am_R_e (by rw [jn 9 (by decide), e1 9 (by decide)]; exact n3) rfl rfl
  · refine bX9_save_0 (Nat.zero_le _) (Nat.zero_le _) (eX9_isIn_t hin) ?_
    refine bX9_save_7 (fun _ => ?_) (fun h => absurd h (by decide))
    refine bX9_save_14 ?_
    refine bX9_save_15 (by assumption) (Nat.zero_le _) (Nat.zero_le _) (eX9_fails0 hm) ?_
    refine bX9_save_20 (fun _ => ?_) (fun h => absurd (by decide) h)
    refine bX9_save_25 (by assumption) (by assumption) (by assumption) (Nat.zero_le _) (Nat.zero_le _) (by rw [ix_508]; exact eX9_copy (s := 0) (e := z * 508) a1 a3 (by decide) (by omega) (by decide) (by decide)) ?_
    refine bX9_save_42 (by assumption) (by assumption) (by assumption) (nn_in (by omega) (by omega)) (by assumption) (by assumption) (nn_in (k := 3) (by decide) (by decide)) ?_
    rw [nn_nat (by omega), nar1, hM]
    exact am_R_e (by show M 451 3 = _; rw [mI 451 (by decide) (by decide) (by decide) (by decide)]) rfl rfl
theorem fX_restore (hF : wF Γ) (R : REL I L) (p0 : Int32) : gX Γ I L m_X8_restore m_X9_restore [.int p0] ["java/lang/IllegalArgumentException", "java/lang/IllegalStateException"] := by
  obtain ⟨⟨o, f0, f1, f2, f3, f4, f5, f6, f7⟩, so, st, dr, ⟨ro, rr0, rr5, rr6, ra⟩, hi, sv, ⟨oo, or0, or2, oa, oa2⟩, hm, am, am2⟩ := id hF
  obtain ⟨ob, s4, s5, s6, s7, s8, s9, s10, b1, b2, b3, b4, b5, b6, o7, hg⟩ := id st
  obtain ⟨mo, r0, r1, r2, r3, r4, r7, r8, r13, r14, r15, r16, r17, a1, a2, a3, a4, a5, a6, a7, a8, a9, a10, a11, a12⟩ := id hm
  obtain ⟨⟨n0, n1, n2, n3⟩, ⟨w0, w1, w2⟩, q6, t8, g4, q0, t0, g0⟩ := R.nums
  obtain ⟨ho83, hi1, hi2, hi3⟩ := id hi
  obtain ⟨sv1, sv2, sv3, sv4, sv5, sv6⟩ := id sv
  cases hin : inR p0 0 1
  case false =>
    refine ⟨I, L, am_u I 450 6 1, .inr "java/lang/IllegalArgumentException", 0, am_ofE rfl rfl rfl (Nat.le_of_ble_eq_true rfl) ?_, am_ofE rfl rfl rfl (Nat.le_of_ble_eq_true rfl) ?_, R.thr 1, Or.inr ⟨0, _, rfl, rfl, by rw [am_u_at, if_pos ⟨rfl, rfl⟩]; rfl⟩⟩
    · refine bX8_restore_0x (by decide) (by decide) (eX8_requireRange_f hin) ?_
      exact ⟨rfl, rfl, rfl⟩
    · refine bX9_restore_0 (Nat.zero_le _) (Nat.zero_le _) (eX9_isIn_f hin) ?_
      refine bX9_restore_6 (fun h => absurd (by decide) h) (fun _ => ?_)
      refine bX9_restore_9 ?_
      refine bX9_restore_14 (fun _ => ?_) (fun h => absurd h (by decide))
      refine bX9_restore_34 ?_
      refine bX9_restore_35 (by assumption) (Nat.zero_le _) (Nat.zero_le _) (eX9_fails1 hm) ?_
      refine bX9_restore_39 (fun h => absurd h (by decide)) (fun _ => ?_)
      refine bX9_restore_42 ?_
      exact ⟨rfl, rfl, rfl⟩
  case true =>
  obtain ⟨z, -, hz, rfl⟩ := inR_ex (lo := 0) (hi := 1) (by decide) (by decide) hin
  obtain ⟨zl, zs⟩ := wF.sv hF (show z < 2 by omega)
  obtain ⟨v1, v2⟩ := R.2.2.2.1 z (by omega)
  by_cases hs0 : I 455 z = 0
  case pos =>
    refine ⟨I, L, am_u I 450 6 2, .inr "java/lang/IllegalStateException", 0, am_ofE rfl rfl rfl (Nat.le_of_ble_eq_true rfl) ?_, am_ofE rfl rfl rfl (Nat.le_of_ble_eq_true rfl) ?_, R.thr 2, Or.inr ⟨1, _, rfl, rfl, by rw [am_u_at, if_pos ⟨rfl, rfl⟩]; rfl⟩⟩
    · refine bX8_restore_0 (Nat.zero_le _) (Nat.zero_le _) (eX8_requireRange_y (mc := 0) (ms := 0) hin) ?_
      refine bX8_restore_6 (by assumption) (by assumption) (by assumption) (nn_in (by omega) (by omega)) (fun h => absurd (by rw [nn_nat (by omega), v1]; exact hs0) h) (fun h6 => ?_)
      refine bX8_restore_15 (by decide) (by decide) ?_
      exact ⟨rfl, rfl, rfl⟩
    · refine bX9_restore_0 (Nat.zero_le _) (Nat.zero_le _) (eX9_isIn_t hin) ?_
      refine bX9_restore_6 (fun _ => ?_) (fun h => absurd h (by decide))
      refine bX9_restore_13 ?_
      refine bX9_restore_14 (fun h => absurd (by decide) h) (fun _ => ?_)
      refine bX9_restore_21 (by assumption) (by assumption) (by assumption) (nn_in (by omega) (by omega)) (fun h => absurd (by rw [nn_nat (by omega)]; exact hs0) h) (fun h21 => ?_)
      refine bX9_restore_30 ?_
      refine bX9_restore_35 (by assumption) (Nat.zero_le _) (Nat.zero_le _) (eX9_fails hm false true false) ?_
      refine bX9_restore_39 (fun h => absurd h (by decide)) (fun _ => ?_)
      refine bX9_restore_42 ?_
      exact ⟨rfl, rfl, rfl⟩
  case neg =>
  obtain ⟨u1, u2, u3⟩ := v2.resolve_left hs0
  obtain ⟨I1, L1, hE, fI, fL, rest⟩ := R.rem (d := 266) (d2 := 278) hF
  have s1 : stR I1 L1 (374 + 36 * z) (sR I z) := u3.fr u2.1.2.2.1.2 (fun c x y => fI c (by omega)) (fun c x y => fL c (by omega))
  have f9 : ∀ c, c < 83 → I1 c = I c := fun c x => fI c (Or.inl x)
  obtain ⟨Ic, Lc, hP, sE, gI, gL⟩ := eX5_copyFrom (d := 267) (I := I1) (L := L1) (a := 9) (b := 374 + 36 * z) st zs (Or.inl (by omega)) (s1.1.2.2.1.trans u2.1.2.2.1.1) u2.1.2.2.1.2
  have fp : ∀ c, 45 ≤ c → Ic c = I1 c := fun c x => gI c (by omega)
  obtain ⟨Ir, hR, k1, k2, k3⟩ := rest Ic Lc 0 (fun c x y z => fp c z) (fun c x _ _ => gL c (by omega)) ⟨by rw [fp 81 (by decide), f9 81 (by decide)], by rw [fp 81 (by decide), f9 81 (by decide)], by rw [fp 81 (by decide), f9 81 (by decide)]⟩ (by rw [fp 82 (by decide), f9 82 (by decide)])
  have c455 : Ic 455 = I 455 := by rw [fp 455 (by decide), fI 455 (Or.inr (by decide))]
  have e453 : Ir 453 = I 453 := by rw [k1 453 (by decide) (by decide), fp 453 (by decide), fI 453 (Or.inr (by decide))]
  have ek : ∀ j, j < 508 → am_cI Ir 453 451 (z * 508) 0 508 451 j = sR I z j := fun j hj => by
    rw [am_cI_at, if_pos ⟨rfl, by omega, by omega⟩, e453]
    exact congrArg (I 453) (by omega)
  have hRel := k3 (am_cI Ir 453 451 (z * 508) 0 508) (u2.cg ek) ((s1.cp u2.1 sE).cg u2.1 ek) (fun a b1 b2 b3 b4 b5 => funext fun j => by rw [am_cI_at, if_neg (fun x => b1 x.1)])
  have e3 : Ic 9 3 = sR I z 3 := (s1.cp u2.1 sE).1.2.2.2
  refine ⟨Ic, Lc, am_cI Ir 453 451 (z * 508) 0 508, .inl (some (.int (sR I z 3))), sR I z 3, am_ofE rfl rfl rfl (Nat.le_of_ble_eq_true rfl) ?_, am_ofE rfl rfl rfl (Nat.le_of_ble_eq_true rfl) ?_, hRel, Or.inl ⟨rfl, by rw [am_cI_at, if_neg (fun x => absurd x.1 (by decide))]; exact k2⟩⟩
  · refine bX8_restore_0 (Nat.zero_le _) (Nat.zero_le _) (eX8_requireRange_y (mc := 0) (ms := 0) hin) ?_
    refine bX8_restore_6 (by assumption) (by assumption) (by assumption) (nn_in (by omega) (by omega)) (fun h6 => ?_) (fun h => absurd (by rw [nn_nat (by omega), v1] at h; exact h) hs0)
    refine bX8_restore_23 (by assumption) (by assumption) (by assumption) (by assumption) (Nat.zero_le _) (Nat.zero_le _) (hE) ?_
    refine bX8_restore_34 (by first | assumption | exact zs.1) (by first | assumption | (rw [nn_nat (by omega)]; exact zl)) (by first | assumption | (rw [nn_nat (by omega)]; exact zl)) (by assumption) (nn_in (by omega) (by omega)) (by first | assumption | (rw [nn_nat (by omega)]; exact zl)) (by first | assumption | exact zs.1) (Nat.zero_le _) (Nat.zero_le _) (hP) ?_
    refine bX8_restore_47 (by assumption) (by assumption) (by assumption) ?_
    exact am_R_e e3 rfl rfl
  · refine bX9_restore_0 (Nat.zero_le _) (Nat.zero_le _) (eX9_isIn_t hin) ?_
    refine bX9_restore_6 (fun _ => ?_) (fun h => absurd h (by decide))
    refine bX9_restore_13 ?_
    refine bX9_restore_14 (fun h => absurd (by decide) h) (fun _ => ?_)
    refine bX9_restore_21 (by assumption) (by assumption) (by assumption) (nn_in (by omega) (by omega)) (fun h21 => ?_) (fun h => absurd (by rw [nn_nat (by omega), c455] at h; exact h) hs0)
    refine bX9_restore_34 ?_
    refine bX9_restore_35 (by assumption) (Nat.zero_le _) (Nat.zero_le _) (eX9_fails0 hm) ?_
    refine bX9_restore_39 (fun _ => ?_) (fun h => absurd (by decide) h)
    refine bX9_restore_44 (by assumption) (by assumption) (Nat.zero_le _) (Nat.zero_le _) (hR) ?_
    refine bX9_restore_52 (by assumption) (by assumption) (by assumption) (Nat.zero_le _) (Nat.zero_le _) (by rw [ix_508]; exact eX9_copy (s := z * 508) (e := 0) a3 a1 (by omega) (by decide) (by decide) (by decide)) ?_
    refine bX9_restore_69 (by assumption) (by assumption) (by assumption) (nn_in (k := 3) (by decide) (by decide)) ?_
    exact am_R_e (ek 3 (by decide)) rfl rfl
theorem fX_undo (hF : wF Γ) (R : REL I L) : gX Γ I L m_X8_undo m_X9_undo [] ["java/lang/IllegalStateException"] := by
  obtain ⟨⟨o, f0, f1, f2, f3, f4, f5, f6, f7⟩, so, st, dr, ⟨ro, rr0, rr5, rr6, ra⟩, hi, sv, ⟨oo, or0, or2, oa, oa2⟩, hm, am, am2⟩ := id hF
  obtain ⟨ob, s4, s5, s6, s7, s8, s9, s10, b1, b2, b3, b4, b5, b6, o7, hg⟩ := id st
  obtain ⟨mo, r0, r1, r2, r3, r4, r7, r8, r13, r14, r15, r16, r17, a1, a2, a3, a4, a5, a6, a7, a8, a9, a10, a11, a12⟩ := id hm
  obtain ⟨⟨n0, n1, n2, n3⟩, ⟨w0, w1, w2⟩, q6, t8, g4, q0, t0, g0⟩ := R.nums
  obtain ⟨ho83, hi1, hi2, hi3⟩ := id hi
  obtain ⟨o1, s, h1, h2, ho, hs8, h5, h6⟩ := R.2.2.1
  by_cases hs0 : s = 0
  case pos =>
    subst hs0
    refine ⟨I, L, am_u I 450 6 1, .inr "java/lang/IllegalStateException", 0, am_ofE rfl rfl rfl (Nat.le_of_ble_eq_true rfl) ?_, am_ofE rfl rfl rfl (Nat.le_of_ble_eq_true rfl) ?_, R.thr 1, Or.inr ⟨0, _, rfl, rfl, by rw [am_u_at, if_pos ⟨rfl, rfl⟩]; rfl⟩⟩
    · refine bX8_undo_0 (by assumption) (by assumption) (by assumption) (fun h => absurd h2 h) (fun h0 => ?_)
      refine bX8_undo_10 (by decide) (by decide) ?_
      exact ⟨rfl, rfl, rfl⟩
    · refine bX9_undo_0 (by assumption) (fun h => absurd h5 h) (fun h0 => ?_)
      refine bX9_undo_8 ?_
      refine bX9_undo_13 (by assumption) (Nat.zero_le _) (Nat.zero_le _) (eX9_fails1 hm) ?_
      refine bX9_undo_18 (fun h => absurd h (by decide)) (fun _ => ?_)
      refine bX9_undo_21 ?_
      exact ⟨rfl, rfl, rfl⟩
  case neg =>
  obtain ⟨k, rfl⟩ : ∃ k, s = k + 1 := ⟨s - 1, by omega⟩
  obtain ⟨u2, u3⟩ := h6 k (by omega)
  have hE2 : ∀ i, hs 83 i = 83 + (2 + 36 * i) := fun _ => rfl
  have him : (o1 + k) % 8 < 8 := Nat.mod_lt _ (by decide)
  have hh := hE2 ((o1 + k) % 8)
  obtain ⟨Ic, Lc, hP, p1, p2, sE, gI, gL⟩ := eX1_recallInto (d := 266) (I := I) (L := L) (h := 83) (b := 9) hi st (Or.inl (by decide)) h1 h2 ho (by omega) (u3.1.2.2.1.trans u2.1.2.2.1.1) u2.1.2.2.1.2
  have fp : ∀ c, c < 9 ∨ 45 ≤ c → c ≠ 83 → Ic c = I c := fun c x y => gI c y (by omega)
  have lp : ∀ c, c < 9 ∨ 45 ≤ c → Lc c = L c := fun c x => gL c (by omega)
  have j5 : Ic 450 5 = nn (k + 1) := by rw [fp 450 (by decide) (by decide)]; exact h5
  have e5 : am_u (am_u Ic 450 6 0) 450 5 (am_u Ic 450 6 0 450 5 - 1) 450 5 = nn k := by
    rw [at1, if_pos rfl, at1, if_neg (by decide), j5, nl_1, nn_sub (by omega), Nat.add_sub_cancel]
  generalize hJ : am_u (am_u Ic 450 6 0) 450 5 (am_u Ic 450 6 0 450 5 - 1) = J at *
  have jn : ∀ c, c ≠ 450 → J c = Ic c := fun c hc => by rw [← hJ, am_u_ne hc, am_u_ne hc]
  have j450 : ∀ j, j ≠ 5 → J 450 j = if j = 6 then 0 else I 450 j := fun j hj => by rw [← hJ, at1, if_neg hj, at1, fp 450 (by decide) (by decide)]
  have e452 : J 452 = I 452 := by rw [jn 452 (by decide), fp 452 (by decide) (by decide)]
  have ek : ∀ j, j < 508 → am_cI J 452 451 (k * 508) 0 508 451 j = kR I k j := fun j hj => by
    rw [am_cI_at, if_pos ⟨rfl, by omega, by omega⟩, e452]
    exact congrArg (I 452) (by omega)
  have mn : ∀ c, c ≠ 451 → am_cI J 452 451 (k * 508) 0 508 c = J c := fun c hc => funext fun j => by rw [am_cI_at, if_neg (fun x => hc x.1)]
  generalize hM : am_cI J 452 451 (k * 508) 0 508 = M at *
  have mI : ∀ c, 45 ≤ c → c ≠ 83 → c ≠ 450 → c ≠ 451 → M c = I c := fun c x y z u => by rw [mn c u, jn c z, fp c (Or.inr x) y]
  have mC : ∀ c, c < 450 → M c = Ic c := fun c x => by rw [mn c (by omega), jn c (by omega)]
  have hRel : REL M Lc := by
    refine ⟨u2.cg ek, (((u3.cp u2.1 sE).fr u2.1.2.2.1.2 (fun c x y => mC c (by omega)) (fun _ _ _ => rfl))).cg u2.1 ek, ?_, R.2.2.2.1.fr (fun c x y => mI c (by omega) (by omega) (by omega) (by omega)) (mI 455 (by decide) (by decide) (by decide) (by decide)) (mI 453 (by decide) (by decide) (by decide) (by decide)) (fun c x y => lp c (by omega)), R.tail (fun c hc => mI c (by omega) (by omega) (by omega) (by omega)) (fun j b5 b6 => by rw [mn 450 (by decide), j450 j b5, if_neg b6])⟩
    refine ⟨o1, k, by rw [mC 83 (by decide)]; exact p1, by rw [mC 83 (by decide)]; exact p2, ho, by omega, by rw [mn 450 (by decide)]; exact e5, fun i hik => ?_⟩
    have ekr : kR M i = kR I i := by unfold kR; rw [mI 452 (by decide) (by decide) (by decide) (by decide)]
    rw [ekr]
    obtain ⟨x1, x2⟩ := h6 i (by omega)
    have hl : (o1 + i) % 8 < 8 := Nat.mod_lt _ (by decide)
    have hE3 := hE2 ((o1 + i) % 8)
    exact ⟨x1, x2.fr x1.1.2.2.1.2 (fun c x y => mI c (by omega) (by omega) (by omega) (by omega)) (fun c x y => lp c (by omega))⟩
  refine ⟨Ic, Lc, M, .inl (some (.int (nn k))), nn k, am_ofE rfl rfl rfl (Nat.le_of_ble_eq_true rfl) ?_, am_ofE rfl rfl rfl (Nat.le_of_ble_eq_true rfl) ?_, hRel, Or.inl ⟨rfl, by rw [mn 450 (by decide), j450 6 (by decide)]; rfl⟩⟩
  · refine bX8_undo_0 (by assumption) (by assumption) (by assumption) (fun h0 => ?_) (fun h => absurd h (show I 83 2 ≠ 0 by rw [h2, nl_0]; exact fun q => by rw [nn_eq (by omega) (by omega)] at q; omega))
    refine bX8_undo_18 (by assumption) (by assumption) (by assumption) (by assumption) (Nat.zero_le _) (Nat.zero_le _) (hP) ?_
    refine bX8_undo_29 (by assumption) (by assumption) (by assumption) ?_
    exact am_R_e p2 rfl rfl
  · refine bX9_undo_0 (by assumption) (fun h0 => ?_) (fun h => absurd h (show Ic 450 5 ≠ 0 by rw [j5, nl_0]; exact fun q => by rw [nn_eq (by omega) (by omega)] at q; omega))
    refine bX9_undo_12 ?_
    refine bX9_undo_13 (by assumption) (Nat.zero_le _) (Nat.zero_le _) (eX9_fails0 hm) ?_
    refine bX9_undo_18 (fun _ => ?_) (fun h => absurd (by decide) h)
    refine bX9_undo_23 (by assumption) (by assumption) (by assumption) (Nat.zero_le _) (Nat.zero_le _) (by rw [hJ, e5, ix_508]; exact eX9_copy (s := k * 508) (e := 0) a2 a1 (by omega) (by decide) (by decide) (by decide)) ?_
    refine bX9_undo_53 (by assumption) ?_
    rw [hM]
    exact am_R_e (by rw [mn 450 (by decide)]; exact e5) rfl rfl
end F7
