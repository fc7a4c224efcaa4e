/-! CLASS AND MODEL SIDE BY SIDE: gates and trees -/
section F2
variable {d mc ms : Nat} {Γ : am_G} {I : am_I} {L : am_L} {m : Nat}
theorem ffs_lf (tq ts : Nat → Int32) (k : Int32) (N : Nat) (I : am_I) (t : Nat) (h : ∀ n, n < N → I (t + 1) n = tq n ∧ I (t + 4) n = ts n) : tLh I t k N = lfA tq ts k N := by
  have e : ffs (fun n => I (t + 1) n == -1 && ib (I (t + 4) n) k) N = ffs (fun n => tq n == -1 && ib (ts n) k) N := ffs_congr N (fun n hn => by rw [(h n hn).1, (h n hn).2])
  unfold tLh tLf lfA
  rw [e]
theorem pc_wc (tq ts cs : Nat → Int32) (k : Int32) (N : Nat) (I : am_I) (b t : Nat) (h : ∀ n, n < N → I (t + 1) n = tq n ∧ I (t + 4) n = ts n) (hc : ∀ n, n < N → tq n ≠ -1 → I (b + 2) (tq n).toNatClampNeg = cs (tq n).toNatClampNeg) : pCost I b t k N = wcA tq ts cs k N := by
  refine fsum_congr N (fun n hn => ?_)
  rw [(h n hn).1, (h n hn).2]
  by_cases hz : tq n ≠ -1 ∧ ib (ts n) k = true
  · rw [if_pos hz, if_pos hz, hc n hn hz.1]
  · rw [if_neg hz, if_neg hz]
theorem ib_ge {S t T : Nat} (hS : S < 2 ^ T) (hT : T ≤ 8) (ht : T ≤ t) (h8 : t < 32) : ib (nn S) (nn t) = false := by
  have := two_le8 hT
  rw [ib_nn (by omega) h8]
  exact Nat.testBit_lt_two_pow (Nat.lt_of_lt_of_le hS (Nat.pow_le_pow_right (by decide) ht))
/-- what a gate's face needs -/
theorem REL.gate (R : REL I L) {g : Nat} (hg : g < vG (I 451)) : ∃ e, e ≤ 15 ∧ 0 < e ∧ e = teW (I 451) g ∧ I 451 (132 + g * 94 + 18) = nn e ∧ I (gc 9 g + 2) 0 = nn e ∧ trW (I 451) g (vQ (I 451)) (vT (I 451)) (tyW (I 451)) e ∧
    (∀ n, n < e → I (gc 9 g + 2 + 1) n = rw5 (I 451) g 0 n ∧ I (gc 9 g + 2 + 2) n = rw5 (I 451) g 1 n ∧ I (gc 9 g + 2 + 3) n = rw5 (I 451) g 3 n ∧ I (gc 9 g + 2 + 4) n = rw5 (I 451) g 4 n) ∧ tOK I (gc 9 g + 2) e ∧
    (∀ n, n < e → ∃ S', S' ≠ 0 ∧ S' < 2 ^ vT (I 451) ∧ rw5 (I 451) g 4 n = nn S' ∧ (rw5 (I 451) g 0 n ≠ -1 → ∃ q, q < vQ (I 451) ∧ rw5 (I 451) g 0 n = nn q) ∧ rw5 (I 451) g 2 n = if rw5 (I 451) g 0 n = -1 then -1 else nn (n + 1)) := by
  obtain ⟨⟨n0, n1, n2, n3⟩, ⟨w0, w1, w2⟩, q6, t8, g4, q0, t0, g0⟩ := R.nums
  have tw := R.1.1.tr hg
  obtain ⟨y0, y1, y2, y3, y4, y5, y6⟩ := R.2.1.2.2.2.2 g hg
  have p2 : 2 ^ 1 ≤ 2 ^ vT (I 451) := Nat.pow_le_pow_right (n := 2) (by decide) t0
  have p8 := two_le8 t8
  have sets : ∀ n, n < teW (I 451) g → ∃ S', S' ≠ 0 ∧ S' < 2 ^ vT (I 451) ∧ rw5 (I 451) g 4 n = nn S' ∧ (rw5 (I 451) g 0 n ≠ -1 → ∃ q, q < vQ (I 451) ∧ rw5 (I 451) g 0 n = nn q) ∧ rw5 (I 451) g 2 n = if rw5 (I 451) g 0 n = -1 then -1 else nn (n + 1) := fun n hn => by
    obtain ⟨S', s1, s2, s3, s4, s5, s6⟩ := tva_set q6 tw.2.2.2 (by omega) n (Nat.zero_le _) hn
    exact ⟨S', s1, by omega, s3, s5, s6⟩
  refine ⟨teW (I 451) g, tw.2.2.1, tw.2.1, rfl, tw.1, y5.trans tw.1, tw, y6, fun n hn hq => ?_, sets⟩
  rw [(y6 n hn).1] at hq ⊢
  obtain ⟨S', s1, s2, s3, s4, s5⟩ := sets n hn
  obtain ⟨q, q1, q2⟩ := s4 hq
  rw [q2]
  exact nn_in (by omega) (by omega)
theorem REL.lf (R : REL I L) {g e : Nat} (h6 : ∀ n, n < e → I (gc 9 g + 2 + 1) n = rw5 (I 451) g 0 n ∧ I (gc 9 g + 2 + 2) n = rw5 (I 451) g 1 n ∧ I (gc 9 g + 2 + 3) n = rw5 (I 451) g 3 n ∧ I (gc 9 g + 2 + 4) n = rw5 (I 451) g 4 n) (k : Int32) : tLh I (gc 9 g + 2) k e = lfA (rw5 (I 451) g 0) (rw5 (I 451) g 4) k e :=
  ffs_lf _ _ _ _ _ _ (fun n hn => ⟨(h6 n hn).1, (h6 n hn).2.2.2⟩)
theorem REL.wc (R : REL I L) {g e : Nat} (hg : g < vG (I 451)) (he : e = teW (I 451) g) (h6 : ∀ n, n < e → I (gc 9 g + 2 + 1) n = rw5 (I 451) g 0 n ∧ I (gc 9 g + 2 + 2) n = rw5 (I 451) g 1 n ∧ I (gc 9 g + 2 + 3) n = rw5 (I 451) g 3 n ∧ I (gc 9 g + 2 + 4) n = rw5 (I 451) g 4 n) (k : Int32) : pCost I 9 (gc 9 g + 2) k e = wcA (rw5 (I 451) g 0) (rw5 (I 451) g 4) (csW (I 451)) k e := by
  refine pc_wc _ _ _ _ _ _ _ _ (fun n hn => ⟨(h6 n hn).1, (h6 n hn).2.2.2⟩) (fun n hn hq => ?_)
  obtain ⟨e', -, -, he', -, -, -, -, -, h⟩ := R.gate hg
  obtain ⟨S', s1, s2, s3, s4, s5⟩ := h n (by omega)
  obtain ⟨q, q1, q2⟩ := s4 hq
  have q6 := R.1.1.1.2
  rw [q2, nn_nat (by omega)]
  exact (R.2.1.2.1 q q1).2.1
theorem REL.err (R : REL I L) {g e : Nat} (hg : g < vG (I 451)) (he : e = teW (I 451) g) (h6 : ∀ n, n < e → I (gc 9 g + 2 + 1) n = rw5 (I 451) g 0 n ∧ I (gc 9 g + 2 + 2) n = rw5 (I 451) g 1 n ∧ I (gc 9 g + 2 + 3) n = rw5 (I 451) g 3 n ∧ I (gc 9 g + 2 + 4) n = rw5 (I 451) g 4 n) : errN I 9 g e (vT (I 451)) = mErr (I 451) g e (vT (I 451)) := by
  have t8 := R.1.1.2.1.2
  refine fsum_congr _ (fun t ht => ?_)
  obtain ⟨k1, -⟩ := lfA_sp R.1.1.1.2 (show t < 32 by omega) (R.1.1.tr hg).2.2.2 (by have := two_le8 t8; omega) (all_bit ht)
  rw [← he] at k1
  rw [R.lf h6, (h6 _ k1).2.1, (R.2.1.2.2.1 t ht).2, ((R.2.1.2.2.2.2 g hg).2.2.2.2.1 t ht)]
  rfl
theorem wgt_m {I : am_I} {c g S T : Nat} {w : Nat → Int32} (hT : T ≤ 8) (hS : S < 2 ^ T) (h : ∀ t, t < T → I c t = w (132 + g * 94 + (10 + t))) : wgt I c (nn S) 8 = mWgt w g (nn S) T := by
  unfold wgt mWgt
  rw [fsum_z (n := T) hT (fun j j1 j2 => by rw [ib_ge hS hT j1 (by omega)]; rfl)]
  exact fsum_congr _ (fun t ht => by rw [h t ht])
theorem REL.wrk (R : REL I L) {g e : Nat} (hg : g < vG (I 451)) (he : e = teW (I 451) g) (h6 : ∀ n, n < e → I (gc 9 g + 2 + 1) n = rw5 (I 451) g 0 n ∧ I (gc 9 g + 2 + 2) n = rw5 (I 451) g 1 n ∧ I (gc 9 g + 2 + 3) n = rw5 (I 451) g 3 n ∧ I (gc 9 g + 2 + 4) n = rw5 (I 451) g 4 n) : wrkN I 9 g e = mWrk (I 451) g (vT (I 451)) e := by
  obtain ⟨e', -, -, he', -, -, -, -, -, h⟩ := R.gate hg
  have q6 := R.1.1.1.2
  refine fsum_congr _ (fun n hn => ?_)
  obtain ⟨S', s1, s2, s3, s4, s5⟩ := h n (by omega)
  rw [(h6 n hn).1, (h6 n hn).2.2.2]
  by_cases hq : rw5 (I 451) g 0 n = -1
  · rw [if_pos hq, if_pos hq]
  · rw [if_neg hq, if_neg hq]
    obtain ⟨q, q1, q2⟩ := s4 hq
    rw [q2, nn_nat (by omega), s3, wgt_m R.1.1.2.1.2 s2 (R.2.1.2.2.2.2 g hg).2.2.2.2.1, (R.2.1.2.1 q q1).2.1]

theorem fX_hasTrait (hF : wF Γ) (R : REL I L) (p0 p1 : Int32) : gX Γ I L m_X8_hasTrait m_X9_hasTrait [.int p0, .int p1] ["java/lang/IndexOutOfBoundsException"] := by
  obtain ⟨⟨o, f0, f1, f2, f3, f4, f5, f6, f7⟩, so, st, dr, ⟨ro, rr0, rr5, rr6, ra⟩, hi, sv, ⟨oo, or0, or2, oa, oa2⟩, hm, am, am2⟩ := id hF
  obtain ⟨ob, s4, s5, s6, s7, s8, s9, s10, b1, b2, b3, b4, b5, b6, o7, hg⟩ := id st
  obtain ⟨mo, r0, r1, r2, r3, r4, r7, r8, r13, r14, r15, r16, r17, a1, a2, a3, a4, a5, a6, a7, a8, a9, a10, a11, a12⟩ := id hm
  obtain ⟨⟨n0, n1, n2, n3⟩, ⟨w0, w1, w2⟩, q6, t8, g4, q0, t0, g0⟩ := R.nums
  have hJ : ∀ v : Int32, am_u I 450 6 v 451 = I 451 := fun v => am_u_ne (by decide)
  by_cases c0 : ∃ g, g < vT (I 451) ∧ p0 = nn g
  case neg =>
    refine ⟨I, L, am_u I 450 6 1, .inr "java/lang/IndexOutOfBoundsException", 0, am_ofE rfl rfl rfl (Nat.le_of_ble_eq_true rfl) ?_, am_ofE rfl rfl rfl (Nat.le_of_ble_eq_true rfl) ?_, R.thr 1, Or.inr ⟨0, _, rfl, rfl, by rw [am_u_at, if_pos ⟨rfl, rfl⟩]; rfl⟩⟩
    · refine bX8_hasTrait_0x (by assumption) (by decide) (by decide) (eX8_requireType_f hF n1 c0 (by omega)) ?_
      exact ⟨rfl, rfl, rfl⟩
    · refine bX9_hasTrait_0 (by assumption) (Nat.zero_le _) (Nat.zero_le _) (eX9_noType_f hm w1 c0 (by omega)) ?_
      refine bX9_hasTrait_6 (fun _ => ?_) (fun h => absurd h (by decide))
      refine bX9_hasTrait_17 ?_
      refine bX9_hasTrait_22 (by assumption) (Nat.zero_le _) (Nat.zero_le _) (eX9_fails1 hm) ?_
      refine bX9_hasTrait_27 (fun _ => ?_) (fun h => absurd h (by decide))
      refine bX9_hasTrait_43 ?_
      refine bX9_hasTrait_44 (by first | exact bi_hz _ | rfl) ?_
      exact ⟨rfl, rfl, rfl⟩
  obtain ⟨t, ht, rfl⟩ := c0
  by_cases c1 : ∃ g, g < vQ (I 451) ∧ p1 = nn g
  case neg =>
    refine ⟨I, L, am_u I 450 6 1, .inr "java/lang/IndexOutOfBoundsException", 0, am_ofE rfl rfl rfl (Nat.le_of_ble_eq_true rfl) ?_, am_ofE rfl rfl rfl (Nat.le_of_ble_eq_true rfl) ?_, R.thr 1, Or.inr ⟨0, _, rfl, rfl, by rw [am_u_at, if_pos ⟨rfl, rfl⟩]; rfl⟩⟩
    · refine bX8_hasTrait_0 (by assumption) (Nat.zero_le _) (Nat.zero_le _) (eX8_requireType_t (mc := 0) (ms := 0) hF n1 (by assumption) (by omega)) ?_
      refine bX8_hasTrait_5x (by assumption) (by decide) (by decide) (eX8_requireQuestion_f hF n0 c1 (by omega)) ?_
      exact ⟨rfl, rfl, rfl⟩
    · refine bX9_hasTrait_0 (by assumption) (Nat.zero_le _) (Nat.zero_le _) (eX9_noType_t hm w1 (by assumption) (by omega)) ?_
      refine bX9_hasTrait_6 (fun h => absurd (by decide) h) (fun _ => ?_)
      refine bX9_hasTrait_9 (by assumption) (Nat.zero_le _) (Nat.zero_le _) (eX9_noQuestion_f hm w0 c1 (by omega)) ?_
      refine bX9_hasTrait_14 (fun h => absurd h (by decide)) (fun _ => ?_)
      refine bX9_hasTrait_17 ?_
      refine bX9_hasTrait_22 (by assumption) (Nat.zero_le _) (Nat.zero_le _) (eX9_fails1 hm) ?_
      refine bX9_hasTrait_27 (fun _ => ?_) (fun h => absurd h (by decide))
      refine bX9_hasTrait_43 ?_
      refine bX9_hasTrait_44 (by first | exact bi_hz _ | rfl) ?_
      exact ⟨rfl, rfl, rfl⟩
  obtain ⟨q, hq, rfl⟩ := c1
  refine ⟨I, L, am_u I 450 6 0, .inl (some (.int (bi ((tyW (I 451) t).testBit q)))), (bi ((tyW (I 451) t).testBit q)), am_ofE rfl rfl rfl (Nat.le_of_ble_eq_true rfl) ?_, am_ofE rfl rfl rfl (Nat.le_of_ble_eq_true rfl) ?_, R.thr 0, Or.inl ⟨rfl, by rw [am_u_at, if_pos ⟨rfl, rfl⟩]⟩⟩
  · refine bX8_hasTrait_0 (by assumption) (Nat.zero_le _) (Nat.zero_le _) (eX8_requireType_t (mc := 0) (ms := 0) hF n1 (by assumption) (by omega)) ?_
    refine bX8_hasTrait_5 (by assumption) (Nat.zero_le _) (Nat.zero_le _) (eX8_requireQuestion_t (mc := 0) (ms := 0) hF n0 (by assumption) (by omega)) ?_
    refine bX8_hasTrait_10 (by assumption) (by assumption) (by assumption) (by assumption) (by assumption) (nn_in (by omega) (by omega)) (Nat.zero_le _) (Nat.zero_le _) (eX8_holds _ _) ?_
    refine bX8_hasTrait_23 (by first | exact bi_hz _ | rfl) ?_
    exact am_R_e (by rw [nn_nat (by omega), (R.2.1.2.1 q hq).2.2, ib_nn (by have := yse_lt (vT (I 451)) (tyW (I 451)) q; have := two_le8 t8; omega) (by omega), yse_bit ht]) rfl rfl
  · refine bX9_hasTrait_0 (by assumption) (Nat.zero_le _) (Nat.zero_le _) (eX9_noType_t hm w1 (by assumption) (by omega)) ?_
    refine bX9_hasTrait_6 (fun h => absurd (by decide) h) (fun _ => ?_)
    refine bX9_hasTrait_9 (by assumption) (Nat.zero_le _) (Nat.zero_le _) (eX9_noQuestion_t hm w0 (by assumption) (by omega)) ?_
    refine bX9_hasTrait_14 (fun _ => ?_) (fun h => absurd (by decide) h)
    refine bX9_hasTrait_21 ?_
    refine bX9_hasTrait_22 (by assumption) (Nat.zero_le _) (Nat.zero_le _) (eX9_fails0 hm) ?_
    refine bX9_hasTrait_27 (fun h => absurd (by decide) h) (fun _ => ?_)
    refine bX9_hasTrait_30 (by assumption) (Nat.zero_le _) (Nat.zero_le _) (eX9_saysYes (y := tyW (I 451) t) hm (by omega) (by omega) (by rw [hJ]; exact (R.1.1.2.2.2.2.2.1 t ht).2.2.1) (by have := R.1.1.ty ht; omega)) ?_
    refine bX9_hasTrait_36 (fun h36 => ?_) (fun h36 => ?_)
    · refine bX9_hasTrait_43 ?_
      refine bX9_hasTrait_44 (by first | exact bi_hz _ | rfl) ?_
      exact am_R_e (by rw [bi_z.mp h36]; rfl) rfl rfl
    · refine bX9_hasTrait_39 ?_
      refine bX9_hasTrait_44 (by first | exact bi_hz _ | rfl) ?_
      exact am_R_e (by rw [bi_nz.mp h36]; rfl) rfl rfl

theorem fX_countAt (hF : wF Γ) (R : REL I L) (p0 p1 : Int32) : gX Γ I L m_X8_countAt m_X9_countAt [.int p0, .int p1] ["java/lang/IndexOutOfBoundsException"] := by
  obtain ⟨⟨o, f0, f1, f2, f3, f4, f5, f6, f7⟩, so, st, dr, ⟨ro, rr0, rr5, rr6, ra⟩, hi, sv, ⟨oo, or0, or2, oa, oa2⟩, hm, am, am2⟩ := id hF
  obtain ⟨ob, s4, s5, s6, s7, s8, s9, s10, b1, b2, b3, b4, b5, b6, o7, hg⟩ := id st
  obtain ⟨mo, r0, r1, r2, r3, r4, r7, r8, r13, r14, r15, r16, r17, a1, a2, a3, a4, a5, a6, a7, a8, a9, a10, a11, a12⟩ := id hm
  obtain ⟨⟨n0, n1, n2, n3⟩, ⟨w0, w1, w2⟩, q6, t8, g4, q0, t0, g0⟩ := R.nums
  have hJ : ∀ v : Int32, am_u I 450 6 v 451 = I 451 := fun v => am_u_ne (by decide)
  by_cases c0 : ∃ g, g < vG (I 451) ∧ p0 = nn g
  case neg =>
    refine ⟨I, L, am_u I 450 6 1, .inr "java/lang/IndexOutOfBoundsException", 0, am_ofE rfl rfl rfl (Nat.le_of_ble_eq_true rfl) ?_, am_ofE rfl rfl rfl (Nat.le_of_ble_eq_true rfl) ?_, R.thr 1, Or.inr ⟨0, _, rfl, rfl, by rw [am_u_at, if_pos ⟨rfl, rfl⟩]; rfl⟩⟩
    · refine bX8_countAt_0x (by assumption) (by decide) (by decide) (eX8_requireGate_f hF n2 c0 (by omega)) ?_
      exact ⟨rfl, rfl, rfl⟩
    · refine bX9_countAt_0 (by assumption) (Nat.zero_le _) (Nat.zero_le _) (eX9_noGate_f hm w2 c0 (by omega)) ?_
      refine bX9_countAt_6 (fun _ => ?_) (fun h => absurd h (by decide))
      refine bX9_countAt_17 ?_
      refine bX9_countAt_22 (by assumption) (Nat.zero_le _) (Nat.zero_le _) (eX9_fails1 hm) ?_
      refine bX9_countAt_27 (fun h => absurd h (by decide)) (fun _ => ?_)
      refine bX9_countAt_30 ?_
      refine bX9_countAt_40 ?_
      exact ⟨rfl, rfl, rfl⟩
  obtain ⟨g, hg0, rfl⟩ := c0
  by_cases c1 : ∃ g, g < vT (I 451) ∧ p1 = nn g
  case neg =>
    refine ⟨I, L, am_u I 450 6 1, .inr "java/lang/IndexOutOfBoundsException", 0, am_ofE rfl rfl rfl (Nat.le_of_ble_eq_true rfl) ?_, am_ofE rfl rfl rfl (Nat.le_of_ble_eq_true rfl) ?_, R.thr 1, Or.inr ⟨0, _, rfl, rfl, by rw [am_u_at, if_pos ⟨rfl, rfl⟩]; rfl⟩⟩
    · refine bX8_countAt_0 (by assumption) (Nat.zero_le _) (Nat.zero_le _) (eX8_requireGate_t (mc := 0) (ms := 0) hF n2 (by assumption) (by omega)) ?_
      refine bX8_countAt_5x (by assumption) (by decide) (by decide) (eX8_requireType_f hF n1 c1 (by omega)) ?_
      exact ⟨rfl, rfl, rfl⟩
    · refine bX9_countAt_0 (by assumption) (Nat.zero_le _) (Nat.zero_le _) (eX9_noGate_t hm w2 (by assumption) (by omega)) ?_
      refine bX9_countAt_6 (fun h => absurd (by decide) h) (fun _ => ?_)
      refine bX9_countAt_9 (by assumption) (Nat.zero_le _) (Nat.zero_le _) (eX9_noType_f hm w1 c1 (by omega)) ?_
      refine bX9_countAt_14 (fun h => absurd h (by decide)) (fun _ => ?_)
      refine bX9_countAt_17 ?_
      refine bX9_countAt_22 (by assumption) (Nat.zero_le _) (Nat.zero_le _) (eX9_fails1 hm) ?_
      refine bX9_countAt_27 (fun h => absurd h (by decide)) (fun _ => ?_)
      refine bX9_countAt_30 ?_
      refine bX9_countAt_40 ?_
      exact ⟨rfl, rfl, rfl⟩
  obtain ⟨t, ht, rfl⟩ := c1
  have hg' := hg0
  obtain ⟨hg1, hgg⟩ := hg g (by omega)
  obtain ⟨og, gg4, gg5, ga, tr⟩ := id hgg
  obtain ⟨ot, tr1, tr2, tr3, tr4, ta1, ta2, ta3, ta4⟩ := id tr
  obtain ⟨y0, y1, y2, y3, y4, y5, y6⟩ := R.2.1.2.2.2.2 g hg'
  obtain ⟨e, e15, e0, ee, ew, ec, tw, h6, tok, sets⟩ := R.gate hg'
  have md : mda (I 451) g (vQ (I 451)) (vT (I 451)) (qcW (I 451)) (tyW (I 451)) (tlW (I 451)) (ctW (I 451) g) := R.1.1.mda t0 hg'
  have gE : gc 9 g = 9 + (8 + 7 * g) := rfl
  refine ⟨I, L, am_u I 450 6 0, .inl (some (.int (I 451 (132 + g * 94 + (10 + t))))), (I 451 (132 + g * 94 + (10 + t))), am_ofE rfl rfl rfl (Nat.le_of_ble_eq_true rfl) ?_, am_ofE rfl rfl rfl (Nat.le_of_ble_eq_true rfl) ?_, R.thr 0, Or.inl ⟨rfl, by rw [am_u_at, if_pos ⟨rfl, rfl⟩]⟩⟩
  · refine bX8_countAt_0 (by assumption) (Nat.zero_le _) (Nat.zero_le _) (eX8_requireGate_t (mc := 0) (ms := 0) hF n2 (by assumption) (by omega)) ?_
    refine bX8_countAt_5 (by assumption) (Nat.zero_le _) (Nat.zero_le _) (eX8_requireType_t (mc := 0) (ms := 0) hF n1 (by assumption) (by omega)) ?_
    refine bX8_countAt_10 (by assumption) (by first | assumption | (rw [nn_nat (by omega)]; exact hg1)) (by assumption) (by first | assumption | (rw [nn_nat (by omega)]; exact hg1)) (by assumption) (nn_in (by omega) (by omega)) (by first | assumption | (rw [nn_nat (by omega)]; exact hg1)) (by assumption) (by first | assumption | (rw [nn_nat (by omega)]; exact hg1)) (by assumption) (nn_in (by omega) (by omega)) ?_
    exact am_R_e (by rw [nn_nat (by omega)]; exact y4 t ht) rfl rfl
  · refine bX9_countAt_0 (by assumption) (Nat.zero_le _) (Nat.zero_le _) (eX9_noGate_t hm w2 (by assumption) (by omega)) ?_
    refine bX9_countAt_6 (fun h => absurd (by decide) h) (fun _ => ?_)
    refine bX9_countAt_9 (by assumption) (Nat.zero_le _) (Nat.zero_le _) (eX9_noType_t hm w1 (by assumption) (by omega)) ?_
    refine bX9_countAt_14 (fun _ => ?_) (fun h => absurd (by decide) h)
    refine bX9_countAt_21 ?_
    refine bX9_countAt_22 (by assumption) (Nat.zero_le _) (Nat.zero_le _) (eX9_fails0 hm) ?_
    refine bX9_countAt_27 (fun _ => ?_) (fun h => absurd (by decide) h)
    refine bX9_countAt_34 (by assumption) (Nat.zero_le _) (Nat.zero_le _) (eX9_count hm (by omega) (by omega)) ?_
    refine bX9_countAt_40 ?_
    exact am_R_e (by rw [hJ]) rfl rfl

theorem fX_costLimit (hF : wF Γ) (R : REL I L) (p0 : Int32) : gX Γ I L m_X8_costLimit m_X9_costLimit [.int p0] ["java/lang/IndexOutOfBoundsException"] := by
  obtain ⟨⟨o, f0, f1, f2, f3, f4, f5, f6, f7⟩, so, st, dr, ⟨ro, rr0, rr5, rr6, ra⟩, hi, sv, ⟨oo, or0, or2, oa, oa2⟩, hm, am, am2⟩ := id hF
  obtain ⟨ob, s4, s5, s6, s7, s8, s9, s10, b1, b2, b3, b4, b5, b6, o7, hg⟩ := id st
  obtain ⟨mo, r0, r1, r2, r3, r4, r7, r8, r13, r14, r15, r16, r17, a1, a2, a3, a4, a5, a6, a7, a8, a9, a10, a11, a12⟩ := id hm
  obtain ⟨⟨n0, n1, n2, n3⟩, ⟨w0, w1, w2⟩, q6, t8, g4, q0, t0, g0⟩ := R.nums
  have hJ : ∀ v : Int32, am_u I 450 6 v 451 = I 451 := fun v => am_u_ne (by decide)
  by_cases c0 : ∃ g, g < vG (I 451) ∧ p0 = nn g
  case neg =>
    refine ⟨I, L, am_u I 450 6 1, .inr "java/lang/IndexOutOfBoundsException", 0, am_ofE rfl rfl rfl (Nat.le_of_ble_eq_true rfl) ?_, am_ofE rfl rfl rfl (Nat.le_of_ble_eq_true rfl) ?_, R.thr 1, Or.inr ⟨0, _, rfl, rfl, by rw [am_u_at, if_pos ⟨rfl, rfl⟩]; rfl⟩⟩
    · refine bX8_costLimit_0x (by assumption) (by decide) (by decide) (eX8_requireGate_f hF n2 c0 (by omega)) ?_
      exact ⟨rfl, rfl, rfl⟩
    · refine bX9_costLimit_0 (by assumption) (Nat.zero_le _) (Nat.zero_le _) (eX9_noGate_f hm w2 c0 (by omega)) ?_
      refine bX9_costLimit_6 (by assumption) (Nat.zero_le _) (Nat.zero_le _) (eX9_fails1 hm) ?_
      refine bX9_costLimit_11 (fun h => absurd h (by decide)) (fun _ => ?_)
      refine bX9_costLimit_14 ?_
      refine bX9_costLimit_24 ?_
      exact ⟨rfl, rfl, rfl⟩
  obtain ⟨g, hg0, rfl⟩ := c0
  have hg' := hg0
  obtain ⟨hg1, hgg⟩ := hg g (by omega)
  obtain ⟨og, gg4, gg5, ga, tr⟩ := id hgg
  obtain ⟨ot, tr1, tr2, tr3, tr4, ta1, ta2, ta3, ta4⟩ := id tr
  obtain ⟨y0, y1, y2, y3, y4, y5, y6⟩ := R.2.1.2.2.2.2 g hg'
  obtain ⟨e, e15, e0, ee, ew, ec, tw, h6, tok, sets⟩ := R.gate hg'
  have md : mda (I 451) g (vQ (I 451)) (vT (I 451)) (qcW (I 451)) (tyW (I 451)) (tlW (I 451)) (ctW (I 451) g) := R.1.1.mda t0 hg'
  have gE : gc 9 g = 9 + (8 + 7 * g) := rfl
  refine ⟨I, L, am_u I 450 6 0, .inl (some (.int (I 451 (132 + g * 94 + 2)))), (I 451 (132 + g * 94 + 2)), am_ofE rfl rfl rfl (Nat.le_of_ble_eq_true rfl) ?_, am_ofE rfl rfl rfl (Nat.le_of_ble_eq_true rfl) ?_, R.thr 0, Or.inl ⟨rfl, by rw [am_u_at, if_pos ⟨rfl, rfl⟩]⟩⟩
  · refine bX8_costLimit_0 (by assumption) (Nat.zero_le _) (Nat.zero_le _) (eX8_requireGate_t (mc := 0) (ms := 0) hF n2 (by assumption) (by omega)) ?_
    refine bX8_costLimit_5 (by assumption) (by first | assumption | (rw [nn_nat (by omega)]; exact hg1)) (by assumption) (by first | assumption | (rw [nn_nat (by omega)]; exact hg1)) (by assumption) (nn_in (by omega) (by omega)) (by first | assumption | (rw [nn_nat (by omega)]; exact hg1)) (by assumption) ?_
    exact am_R_e y3 rfl rfl
  · refine bX9_costLimit_0 (by assumption) (Nat.zero_le _) (Nat.zero_le _) (eX9_noGate_t hm w2 (by assumption) (by omega)) ?_
    refine bX9_costLimit_6 (by assumption) (Nat.zero_le _) (Nat.zero_le _) (eX9_fails0 hm) ?_
    refine bX9_costLimit_11 (fun _ => ?_) (fun h => absurd (by decide) h)
    refine bX9_costLimit_18 (by assumption) (Nat.zero_le _) (Nat.zero_le _) (eX9_ofGate (k := 2) hm (by omega) (by decide)) ?_
    refine bX9_costLimit_24 ?_
    exact am_R_e (by rw [hJ]) rfl rfl

theorem fX_isOpen (hF : wF Γ) (R : REL I L) (p0 : Int32) : gX Γ I L m_X8_isOpen m_X9_isOpen [.int p0] ["java/lang/IndexOutOfBoundsException"] := by
  obtain ⟨⟨o, f0, f1, f2, f3, f4, f5, f6, f7⟩, so, st, dr, ⟨ro, rr0, rr5, rr6, ra⟩, hi, sv, ⟨oo, or0, or2, oa, oa2⟩, hm, am, am2⟩ := id hF
  obtain ⟨ob, s4, s5, s6, s7, s8, s9, s10, b1, b2, b3, b4, b5, b6, o7, hg⟩ := id st
  obtain ⟨mo, r0, r1, r2, r3, r4, r7, r8, r13, r14, r15, r16, r17, a1, a2, a3, a4, a5, a6, a7, a8, a9, a10, a11, a12⟩ := id hm
  obtain ⟨⟨n0, n1, n2, n3⟩, ⟨w0, w1, w2⟩, q6, t8, g4, q0, t0, g0⟩ := R.nums
  have hJ : ∀ v : Int32, am_u I 450 6 v 451 = I 451 := fun v => am_u_ne (by decide)
  by_cases c0 : ∃ g, g < vG (I 451) ∧ p0 = nn g
  case neg =>
    refine ⟨I, L, am_u I 450 6 1, .inr "java/lang/IndexOutOfBoundsException", 0, am_ofE rfl rfl rfl (Nat.le_of_ble_eq_true rfl) ?_, am_ofE rfl rfl rfl (Nat.le_of_ble_eq_true rfl) ?_, R.thr 1, Or.inr ⟨0, _, rfl, rfl, by rw [am_u_at, if_pos ⟨rfl, rfl⟩]; rfl⟩⟩
    · refine bX8_isOpen_0x (by assumption) (by decide) (by decide) (eX8_requireGate_f hF n2 c0 (by omega)) ?_
      exact ⟨rfl, rfl, rfl⟩
    · refine bX9_isOpen_0 (by assumption) (Nat.zero_le _) (Nat.zero_le _) (eX9_noGate_f hm w2 c0 (by omega)) ?_
      refine bX9_isOpen_6 (by assumption) (Nat.zero_le _) (Nat.zero_le _) (eX9_fails1 hm) ?_
      refine bX9_isOpen_11 (fun _ => ?_) (fun h => absurd h (by decide))
      refine bX9_isOpen_26 ?_
      refine bX9_isOpen_27 (by first | exact bi_hz _ | rfl) ?_
      exact ⟨rfl, rfl, rfl⟩
  obtain ⟨g, hg0, rfl⟩ := c0
  have hg' := hg0
  obtain ⟨hg1, hgg⟩ := hg g (by omega)
  obtain ⟨og, gg4, gg5, ga, tr⟩ := id hgg
  obtain ⟨ot, tr1, tr2, tr3, tr4, ta1, ta2, ta3, ta4⟩ := id tr
  obtain ⟨y0, y1, y2, y3, y4, y5, y6⟩ := R.2.1.2.2.2.2 g hg'
  obtain ⟨e, e15, e0, ee, ew, ec, tw, h6, tok, sets⟩ := R.gate hg'
  have md : mda (I 451) g (vQ (I 451)) (vT (I 451)) (qcW (I 451)) (tyW (I 451)) (tlW (I 451)) (ctW (I 451) g) := R.1.1.mda t0 hg'
  have gE : gc 9 g = 9 + (8 + 7 * g) := rfl
  refine ⟨I, L, am_u I 450 6 0, .inl (some (.int (bi (opens (I 451 (132 + g * 94 + 0)) (I 451 (132 + g * 94 + 1)) (I 451 3 - I 451 3 / 24 * 24))))), (bi (opens (I 451 (132 + g * 94 + 0)) (I 451 (132 + g * 94 + 1)) (I 451 3 - I 451 3 / 24 * 24))), am_ofE rfl rfl rfl (Nat.le_of_ble_eq_true rfl) ?_, am_ofE rfl rfl rfl (Nat.le_of_ble_eq_true rfl) ?_, R.thr 0, Or.inl ⟨rfl, by rw [am_u_at, if_pos ⟨rfl, rfl⟩]⟩⟩
  · refine bX8_isOpen_0 (by assumption) (Nat.zero_le _) (Nat.zero_le _) (eX8_requireGate_t (mc := 0) (ms := 0) hF n2 (by assumption) (by omega)) ?_
    refine bX8_isOpen_5 (by assumption) (by first | assumption | (rw [nn_nat (by omega)]; exact hg1)) (by assumption) (by first | assumption | (rw [nn_nat (by omega)]; exact hg1)) (by assumption) (nn_in (by omega) (by omega)) (by first | assumption | (rw [nn_nat (by omega)]; exact hg1)) (Nat.zero_le _) (Nat.zero_le _) (eX5_hourOfDay st) ?_
    refine bX8_isOpen_21 (by assumption) (Nat.zero_le _) (Nat.zero_le _) (eX0_opensAt hgg _) ?_
    refine bX8_isOpen_24 (by first | exact bi_hz _ | rfl) ?_
    exact am_R_e (by rw [y1, y2, n3]) rfl rfl
  · refine bX9_isOpen_0 (by assumption) (Nat.zero_le _) (Nat.zero_le _) (eX9_noGate_t hm w2 (by assumption) (by omega)) ?_
    refine bX9_isOpen_6 (by assumption) (Nat.zero_le _) (Nat.zero_le _) (eX9_fails0 hm) ?_
    refine bX9_isOpen_11 (fun h => absurd (by decide) h) (fun _ => ?_)
    refine bX9_isOpen_14 (by assumption) (Nat.zero_le _) (Nat.zero_le _) (eX9_isOpenNow hm (by omega)) ?_
    refine bX9_isOpen_19 (fun h19 => ?_) (fun h19 => ?_)
    · refine bX9_isOpen_26 ?_
      refine bX9_isOpen_27 (by first | exact bi_hz _ | rfl) ?_
      exact am_R_e (by rw [hJ] at h19; rw [bi_z.mp h19]; rfl) rfl rfl
    · refine bX9_isOpen_22 ?_
      refine bX9_isOpen_27 (by first | exact bi_hz _ | rfl) ?_
      exact am_R_e (by rw [hJ] at h19; rw [bi_nz.mp h19]; rfl) rfl rfl

theorem fX_nodeQuestion (hF : wF Γ) (R : REL I L) (p0 p1 : Int32) : gX Γ I L m_X8_nodeQuestion m_X9_nodeQuestion [.int p0, .int p1] ["java/lang/IndexOutOfBoundsException"] := by
  obtain ⟨⟨o, f0, f1, f2, f3, f4, f5, f6, f7⟩, so, st, dr, ⟨ro, rr0, rr5, rr6, ra⟩, hi, sv, ⟨oo, or0, or2, oa, oa2⟩, hm, am, am2⟩ := id hF
  obtain ⟨ob, s4, s5, s6, s7, s8, s9, s10, b1, b2, b3, b4, b5, b6, o7, hg⟩ := id st
  obtain ⟨mo, r0, r1, r2, r3, r4, r7, r8, r13, r14, r15, r16, r17, a1, a2, a3, a4, a5, a6, a7, a8, a9, a10, a11, a12⟩ := id hm
  obtain ⟨⟨n0, n1, n2, n3⟩, ⟨w0, w1, w2⟩, q6, t8, g4, q0, t0, g0⟩ := R.nums
  have hJ : ∀ v : Int32, am_u I 450 6 v 451 = I 451 := fun v => am_u_ne (by decide)
  have bad : am_E m_X8_nodeQuestion 270 1 6 [.ref 0, .int p0, .int p1] Γ I L (.inr "java/lang/IndexOutOfBoundsException") I L → am_E m_X9_noNode 278 0 0 [.ref 450, .int p0, .int p1] Γ I L (.inl (some (.int 1))) I L → gX Γ I L m_X8_nodeQuestion m_X9_nodeQuestion [.int p0, .int p1] ["java/lang/IndexOutOfBoundsException"] := fun h h2 =>
    ⟨I, L, am_u I 450 6 1, .inr "java/lang/IndexOutOfBoundsException", 0, h, am_ofE rfl rfl rfl (Nat.le_of_ble_eq_true rfl) (by
      refine bX9_nodeQuestion_0 mo (Nat.zero_le _) (Nat.zero_le _) (am_ofE (mc := 0) (ms := 0) rfl rfl rfl (Nat.le_of_ble_eq_true rfl) (by
        refine bX9_toldNode_0 mo (Nat.zero_le _) (Nat.zero_le _) h2 ?_
        refine bX9_toldNode_7 mo (Nat.zero_le _) (Nat.zero_le _) (eX9_fails1 hm) ?_
        refine bX9_toldNode_12 (fun h => absurd h (by decide)) (fun _ => ?_)
        refine bX9_toldNode_15 ?_
        refine bX9_toldNode_26 ?_
        exact ⟨rfl, rfl, rfl⟩)) ?_
      refine bX9_nodeQuestion_7 ?_
      exact ⟨rfl, rfl, rfl⟩), R.thr 1, Or.inr ⟨0, _, rfl, rfl, by rw [am_u_at, if_pos ⟨rfl, rfl⟩]; rfl⟩⟩
  by_cases c0 : ∃ g, g < vG (I 451) ∧ p0 = nn g
  case neg =>
    exact bad (am_ofE rfl rfl rfl (Nat.le_of_ble_eq_true rfl) (bX8_nodeQuestion_0x o (by decide) (by decide) (eX8_requireNode_x hF n2 c0 (by omega)) ⟨rfl, rfl, rfl⟩)) (eX9_noNode_x hm w2 c0 (by omega))
  obtain ⟨g, hg0, rfl⟩ := c0
  have hg' := hg0
  obtain ⟨hg1, hgg⟩ := hg g (by omega)
  obtain ⟨og, gg4, gg5, ga, tr⟩ := id hgg
  obtain ⟨ot, tr1, tr2, tr3, tr4, ta1, ta2, ta3, ta4⟩ := id tr
  obtain ⟨y0, y1, y2, y3, y4, y5, y6⟩ := R.2.1.2.2.2.2 g hg'
  obtain ⟨e, e15, e0, ee, ew, ec, tw, h6, tok, sets⟩ := R.gate hg'
  have md : mda (I 451) g (vQ (I 451)) (vT (I 451)) (qcW (I 451)) (tyW (I 451)) (tlW (I 451)) (ctW (I 451) g) := R.1.1.mda t0 hg'
  have gE : gc 9 g = 9 + (8 + 7 * g) := rfl
  by_cases c1 : ∃ n, n < e ∧ p1 = nn n
  case neg =>
    exact bad (am_ofE rfl rfl rfl (Nat.le_of_ble_eq_true rfl) (bX8_nodeQuestion_0x o (by decide) (by decide) (eX8_requireNode_f hF n2 hg0 (by omega) ec c1 e15) ⟨rfl, rfl, rfl⟩)) (eX9_noNode_f hm w2 hg0 (by omega) ew c1 e15)
  obtain ⟨n, hn, rfl⟩ := c1
  refine ⟨I, L, am_u I 450 6 0, .inl (some (.int (rw5 (I 451) g 0 n))), rw5 (I 451) g 0 n, am_ofE rfl rfl rfl (Nat.le_of_ble_eq_true rfl) ?_, am_ofE rfl rfl rfl (Nat.le_of_ble_eq_true rfl) ?_, R.thr 0, Or.inl ⟨rfl, by rw [am_u_at, if_pos ⟨rfl, rfl⟩]⟩⟩
  · refine bX8_nodeQuestion_0 (by assumption) (Nat.zero_le _) (Nat.zero_le _) (eX8_requireNode_t (mc := 0) (ms := 0) hF n2 hg0 (by omega) ec hn e15) ?_
    refine bX8_nodeQuestion_6 (by assumption) (by first | assumption | (rw [nn_nat (by omega)]; exact hg1)) (by assumption) (by first | assumption | (rw [nn_nat (by omega)]; exact hg1)) (by assumption) (nn_in (by omega) (by omega)) (by first | assumption | (rw [nn_nat (by omega)]; exact hg1)) (by assumption) (by first | assumption | (rw [nn_nat (by omega)]; exact hg1)) (by assumption) (by first | assumption | (rw [nn_nat (by omega)]; exact hg1)) (by assumption) (nn_in (by omega) (by omega)) ?_
    exact am_R_e (by rw [nn_nat (by omega)]; exact (h6 n hn).1) rfl rfl
  · refine bX9_nodeQuestion_0 mo (Nat.zero_le _) (Nat.zero_le _) (am_ofE (mc := 0) (ms := 0) rfl rfl rfl (Nat.le_of_ble_eq_true rfl) (by
      refine bX9_toldNode_0 mo (Nat.zero_le _) (Nat.zero_le _) (eX9_noNode_t hm w2 hg0 (by omega) ew hn e15) ?_
      refine bX9_toldNode_7 mo (Nat.zero_le _) (Nat.zero_le _) (eX9_fails0 hm) ?_
      refine bX9_toldNode_12 (fun _ => ?_) (fun h => absurd (by decide) h)
      refine bX9_toldNode_19 mo (Nat.zero_le _) (Nat.zero_le _) (eX9_ofNode (k := 0) hm (by omega) (by omega) (by decide)) ?_
      refine bX9_toldNode_26 ?_
      exact am_R_e (w := rw5 (I 451) g 0 n) (by rw [hJ]; rfl) rfl rfl)) ?_
    refine bX9_nodeQuestion_7 ?_
    exact ⟨rfl, rfl, rfl⟩

theorem fX_leafToll (hF : wF Γ) (R : REL I L) (p0 p1 : Int32) : gX Γ I L m_X8_leafToll m_X9_leafToll [.int p0, .int p1] ["java/lang/IndexOutOfBoundsException"] := by
  obtain ⟨⟨o, f0, f1, f2, f3, f4, f5, f6, f7⟩, so, st, dr, ⟨ro, rr0, rr5, rr6, ra⟩, hi, sv, ⟨oo, or0, or2, oa, oa2⟩, hm, am, am2⟩ := id hF
  obtain ⟨ob, s4, s5, s6, s7, s8, s9, s10, b1, b2, b3, b4, b5, b6, o7, hg⟩ := id st
  obtain ⟨mo, r0, r1, r2, r3, r4, r7, r8, r13, r14, r15, r16, r17, a1, a2, a3, a4, a5, a6, a7, a8, a9, a10, a11, a12⟩ := id hm
  obtain ⟨⟨n0, n1, n2, n3⟩, ⟨w0, w1, w2⟩, q6, t8, g4, q0, t0, g0⟩ := R.nums
  have hJ : ∀ v : Int32, am_u I 450 6 v 451 = I 451 := fun v => am_u_ne (by decide)
  have bad : am_E m_X8_leafToll 270 1 6 [.ref 0, .int p0, .int p1] Γ I L (.inr "java/lang/IndexOutOfBoundsException") I L → am_E m_X9_noNode 278 0 0 [.ref 450, .int p0, .int p1] Γ I L (.inl (some (.int 1))) I L → gX Γ I L m_X8_leafToll m_X9_leafToll [.int p0, .int p1] ["java/lang/IndexOutOfBoundsException"] := fun h h2 =>
    ⟨I, L, am_u I 450 6 1, .inr "java/lang/IndexOutOfBoundsException", 0, h, am_ofE rfl rfl rfl (Nat.le_of_ble_eq_true rfl) (by
      refine bX9_leafToll_0 mo (Nat.zero_le _) (Nat.zero_le _) (am_ofE (mc := 0) (ms := 0) rfl rfl rfl (Nat.le_of_ble_eq_true rfl) (by
        refine bX9_toldNode_0 mo (Nat.zero_le _) (Nat.zero_le _) h2 ?_
        refine bX9_toldNode_7 mo (Nat.zero_le _) (Nat.zero_le _) (eX9_fails1 hm) ?_
        refine bX9_toldNode_12 (fun h => absurd h (by decide)) (fun _ => ?_)
        refine bX9_toldNode_15 ?_
        refine bX9_toldNode_26 ?_
        exact ⟨rfl, rfl, rfl⟩)) ?_
      refine bX9_leafToll_7 ?_
      exact ⟨rfl, rfl, rfl⟩), R.thr 1, Or.inr ⟨0, _, rfl, rfl, by rw [am_u_at, if_pos ⟨rfl, rfl⟩]; rfl⟩⟩
  by_cases c0 : ∃ g, g < vG (I 451) ∧ p0 = nn g
  case neg =>
    exact bad (am_ofE rfl rfl rfl (Nat.le_of_ble_eq_true rfl) (bX8_leafToll_0x o (by decide) (by decide) (eX8_requireNode_x hF n2 c0 (by omega)) ⟨rfl, rfl, rfl⟩)) (eX9_noNode_x hm w2 c0 (by omega))
  obtain ⟨g, hg0, rfl⟩ := c0
  have hg' := hg0
  obtain ⟨hg1, hgg⟩ := hg g (by omega)
  obtain ⟨og, gg4, gg5, ga, tr⟩ := id hgg
  obtain ⟨ot, tr1, tr2, tr3, tr4, ta1, ta2, ta3, ta4⟩ := id tr
  obtain ⟨y0, y1, y2, y3, y4, y5, y6⟩ := R.2.1.2.2.2.2 g hg'
  obtain ⟨e, e15, e0, ee, ew, ec, tw, h6, tok, sets⟩ := R.gate hg'
  have md : mda (I 451) g (vQ (I 451)) (vT (I 451)) (qcW (I 451)) (tyW (I 451)) (tlW (I 451)) (ctW (I 451) g) := R.1.1.mda t0 hg'
  have gE : gc 9 g = 9 + (8 + 7 * g) := rfl
  by_cases c1 : ∃ n, n < e ∧ p1 = nn n
  case neg =>
    exact bad (am_ofE rfl rfl rfl (Nat.le_of_ble_eq_true rfl) (bX8_leafToll_0x o (by decide) (by decide) (eX8_requireNode_f hF n2 hg0 (by omega) ec c1 e15) ⟨rfl, rfl, rfl⟩)) (eX9_noNode_f hm w2 hg0 (by omega) ew c1 e15)
  obtain ⟨n, hn, rfl⟩ := c1
  refine ⟨I, L, am_u I 450 6 0, .inl (some (.int (rw5 (I 451) g 1 n))), rw5 (I 451) g 1 n, am_ofE rfl rfl rfl (Nat.le_of_ble_eq_true rfl) ?_, am_ofE rfl rfl rfl (Nat.le_of_ble_eq_true rfl) ?_, R.thr 0, Or.inl ⟨rfl, by rw [am_u_at, if_pos ⟨rfl, rfl⟩]⟩⟩
  · refine bX8_leafToll_0 (by assumption) (Nat.zero_le _) (Nat.zero_le _) (eX8_requireNode_t (mc := 0) (ms := 0) hF n2 hg0 (by omega) ec hn e15) ?_
    refine bX8_leafToll_6 (by assumption) (by first | assumption | (rw [nn_nat (by omega)]; exact hg1)) (by assumption) (by first | assumption | (rw [nn_nat (by omega)]; exact hg1)) (by assumption) (nn_in (by omega) (by omega)) (by first | assumption | (rw [nn_nat (by omega)]; exact hg1)) (by assumption) (by first | assumption | (rw [nn_nat (by omega)]; exact hg1)) (by assumption) (by first | assumption | (rw [nn_nat (by omega)]; exact hg1)) (by assumption) (nn_in (by omega) (by omega)) ?_
    exact am_R_e (by rw [nn_nat (by omega)]; exact (h6 n hn).2.1) rfl rfl
  · refine bX9_leafToll_0 mo (Nat.zero_le _) (Nat.zero_le _) (am_ofE (mc := 0) (ms := 0) rfl rfl rfl (Nat.le_of_ble_eq_true rfl) (by
      refine bX9_toldNode_0 mo (Nat.zero_le _) (Nat.zero_le _) (eX9_noNode_t hm w2 hg0 (by omega) ew hn e15) ?_
      refine bX9_toldNode_7 mo (Nat.zero_le _) (Nat.zero_le _) (eX9_fails0 hm) ?_
      refine bX9_toldNode_12 (fun _ => ?_) (fun h => absurd (by decide) h)
      refine bX9_toldNode_19 mo (Nat.zero_le _) (Nat.zero_le _) (eX9_ofNode (k := 1) hm (by omega) (by omega) (by decide)) ?_
      refine bX9_toldNode_26 ?_
      exact am_R_e (w := rw5 (I 451) g 1 n) (by rw [hJ]; rfl) rfl rfl)) ?_
    refine bX9_leafToll_7 ?_
    exact ⟨rfl, rfl, rfl⟩

theorem fX_noChild (hF : wF Γ) (R : REL I L) (p0 p1 : Int32) : gX Γ I L m_X8_noChild m_X9_noChild [.int p0, .int p1] ["java/lang/IndexOutOfBoundsException"] := by
  obtain ⟨⟨o, f0, f1, f2, f3, f4, f5, f6, f7⟩, so, st, dr, ⟨ro, rr0, rr5, rr6, ra⟩, hi, sv, ⟨oo, or0, or2, oa, oa2⟩, hm, am, am2⟩ := id hF
  obtain ⟨ob, s4, s5, s6, s7, s8, s9, s10, b1, b2, b3, b4, b5, b6, o7, hg⟩ := id st
  obtain ⟨mo, r0, r1, r2, r3, r4, r7, r8, r13, r14, r15, r16, r17, a1, a2, a3, a4, a5, a6, a7, a8, a9, a10, a11, a12⟩ := id hm
  obtain ⟨⟨n0, n1, n2, n3⟩, ⟨w0, w1, w2⟩, q6, t8, g4, q0, t0, g0⟩ := R.nums
  have hJ : ∀ v : Int32, am_u I 450 6 v 451 = I 451 := fun v => am_u_ne (by decide)
  have bad : am_E m_X8_noChild 270 1 6 [.ref 0, .int p0, .int p1] Γ I L (.inr "java/lang/IndexOutOfBoundsException") I L → am_E m_X9_noNode 278 0 0 [.ref 450, .int p0, .int p1] Γ I L (.inl (some (.int 1))) I L → gX Γ I L m_X8_noChild m_X9_noChild [.int p0, .int p1] ["java/lang/IndexOutOfBoundsException"] := fun h h2 =>
    ⟨I, L, am_u I 450 6 1, .inr "java/lang/IndexOutOfBoundsException", 0, h, am_ofE rfl rfl rfl (Nat.le_of_ble_eq_true rfl) (by
      refine bX9_noChild_0 mo (Nat.zero_le _) (Nat.zero_le _) (am_ofE (mc := 0) (ms := 0) rfl rfl rfl (Nat.le_of_ble_eq_true rfl) (by
        refine bX9_toldNode_0 mo (Nat.zero_le _) (Nat.zero_le _) h2 ?_
        refine bX9_toldNode_7 mo (Nat.zero_le _) (Nat.zero_le _) (eX9_fails1 hm) ?_
        refine bX9_toldNode_12 (fun h => absurd h (by decide)) (fun _ => ?_)
        refine bX9_toldNode_15 ?_
        refine bX9_toldNode_26 ?_
        exact ⟨rfl, rfl, rfl⟩)) ?_
      refine bX9_noChild_7 ?_
      exact ⟨rfl, rfl, rfl⟩), R.thr 1, Or.inr ⟨0, _, rfl, rfl, by rw [am_u_at, if_pos ⟨rfl, rfl⟩]; rfl⟩⟩
  by_cases c0 : ∃ g, g < vG (I 451) ∧ p0 = nn g
  case neg =>
    exact bad (am_ofE rfl rfl rfl (Nat.le_of_ble_eq_true rfl) (bX8_noChild_0x o (by decide) (by decide) (eX8_requireNode_x hF n2 c0 (by omega)) ⟨rfl, rfl, rfl⟩)) (eX9_noNode_x hm w2 c0 (by omega))
  obtain ⟨g, hg0, rfl⟩ := c0
  have hg' := hg0
  obtain ⟨hg1, hgg⟩ := hg g (by omega)
  obtain ⟨og, gg4, gg5, ga, tr⟩ := id hgg
  obtain ⟨ot, tr1, tr2, tr3, tr4, ta1, ta2, ta3, ta4⟩ := id tr
  obtain ⟨y0, y1, y2, y3, y4, y5, y6⟩ := R.2.1.2.2.2.2 g hg'
  obtain ⟨e, e15, e0, ee, ew, ec, tw, h6, tok, sets⟩ := R.gate hg'
  have md : mda (I 451) g (vQ (I 451)) (vT (I 451)) (qcW (I 451)) (tyW (I 451)) (tlW (I 451)) (ctW (I 451) g) := R.1.1.mda t0 hg'
  have gE : gc 9 g = 9 + (8 + 7 * g) := rfl
  by_cases c1 : ∃ n, n < e ∧ p1 = nn n
  case neg =>
    exact bad (am_ofE rfl rfl rfl (Nat.le_of_ble_eq_true rfl) (bX8_noChild_0x o (by decide) (by decide) (eX8_requireNode_f hF n2 hg0 (by omega) ec c1 e15) ⟨rfl, rfl, rfl⟩)) (eX9_noNode_f hm w2 hg0 (by omega) ew c1 e15)
  obtain ⟨n, hn, rfl⟩ := c1
  refine ⟨I, L, am_u I 450 6 0, .inl (some (.int (rw5 (I 451) g 3 n))), rw5 (I 451) g 3 n, am_ofE rfl rfl rfl (Nat.le_of_ble_eq_true rfl) ?_, am_ofE rfl rfl rfl (Nat.le_of_ble_eq_true rfl) ?_, R.thr 0, Or.inl ⟨rfl, by rw [am_u_at, if_pos ⟨rfl, rfl⟩]⟩⟩
  · refine bX8_noChild_0 (by assumption) (Nat.zero_le _) (Nat.zero_le _) (eX8_requireNode_t (mc := 0) (ms := 0) hF n2 hg0 (by omega) ec hn e15) ?_
    refine bX8_noChild_6 (by assumption) (by first | assumption | (rw [nn_nat (by omega)]; exact hg1)) (by assumption) (by first | assumption | (rw [nn_nat (by omega)]; exact hg1)) (by assumption) (nn_in (by omega) (by omega)) (by first | assumption | (rw [nn_nat (by omega)]; exact hg1)) (by assumption) (by first | assumption | (rw [nn_nat (by omega)]; exact hg1)) (by assumption) (by first | assumption | (rw [nn_nat (by omega)]; exact hg1)) (by assumption) (nn_in (by omega) (by omega)) ?_
    exact am_R_e (by rw [nn_nat (by omega)]; exact (h6 n hn).2.2.1) rfl rfl
  · refine bX9_noChild_0 mo (Nat.zero_le _) (Nat.zero_le _) (am_ofE (mc := 0) (ms := 0) rfl rfl rfl (Nat.le_of_ble_eq_true rfl) (by
      refine bX9_toldNode_0 mo (Nat.zero_le _) (Nat.zero_le _) (eX9_noNode_t hm w2 hg0 (by omega) ew hn e15) ?_
      refine bX9_toldNode_7 mo (Nat.zero_le _) (Nat.zero_le _) (eX9_fails0 hm) ?_
      refine bX9_toldNode_12 (fun _ => ?_) (fun h => absurd (by decide) h)
      refine bX9_toldNode_19 mo (Nat.zero_le _) (Nat.zero_le _) (eX9_ofNode (k := 3) hm (by omega) (by omega) (by decide)) ?_
      refine bX9_toldNode_26 ?_
      exact am_R_e (w := rw5 (I 451) g 3 n) (by rw [hJ]; rfl) rfl rfl)) ?_
    refine bX9_noChild_7 ?_
    exact ⟨rfl, rfl, rfl⟩

theorem fX_typesAt (hF : wF Γ) (R : REL I L) (p0 p1 : Int32) : gX Γ I L m_X8_typesAt m_X9_typesAt [.int p0, .int p1] ["java/lang/IndexOutOfBoundsException"] := by
  obtain ⟨⟨o, f0, f1, f2, f3, f4, f5, f6, f7⟩, so, st, dr, ⟨ro, rr0, rr5, rr6, ra⟩, hi, sv, ⟨oo, or0, or2, oa, oa2⟩, hm, am, am2⟩ := id hF
  obtain ⟨ob, s4, s5, s6, s7, s8, s9, s10, b1, b2, b3, b4, b5, b6, o7, hg⟩ := id st
  obtain ⟨mo, r0, r1, r2, r3, r4, r7, r8, r13, r14, r15, r16, r17, a1, a2, a3, a4, a5, a6, a7, a8, a9, a10, a11, a12⟩ := id hm
  obtain ⟨⟨n0, n1, n2, n3⟩, ⟨w0, w1, w2⟩, q6, t8, g4, q0, t0, g0⟩ := R.nums
  have hJ : ∀ v : Int32, am_u I 450 6 v 451 = I 451 := fun v => am_u_ne (by decide)
  have bad : am_E m_X8_typesAt 270 1 6 [.ref 0, .int p0, .int p1] Γ I L (.inr "java/lang/IndexOutOfBoundsException") I L → am_E m_X9_noNode 278 0 0 [.ref 450, .int p0, .int p1] Γ I L (.inl (some (.int 1))) I L → gX Γ I L m_X8_typesAt m_X9_typesAt [.int p0, .int p1] ["java/lang/IndexOutOfBoundsException"] := fun h h2 =>
    ⟨I, L, am_u I 450 6 1, .inr "java/lang/IndexOutOfBoundsException", 0, h, am_ofE rfl rfl rfl (Nat.le_of_ble_eq_true rfl) (by
      refine bX9_typesAt_0 mo (Nat.zero_le _) (Nat.zero_le _) (am_ofE (mc := 0) (ms := 0) rfl rfl rfl (Nat.le_of_ble_eq_true rfl) (by
        refine bX9_toldNode_0 mo (Nat.zero_le _) (Nat.zero_le _) h2 ?_
        refine bX9_toldNode_7 mo (Nat.zero_le _) (Nat.zero_le _) (eX9_fails1 hm) ?_
        refine bX9_toldNode_12 (fun h => absurd h (by decide)) (fun _ => ?_)
        refine bX9_toldNode_15 ?_
        refine bX9_toldNode_26 ?_
        exact ⟨rfl, rfl, rfl⟩)) ?_
      refine bX9_typesAt_7 ?_
      exact ⟨rfl, rfl, rfl⟩), R.thr 1, Or.inr ⟨0, _, rfl, rfl, by rw [am_u_at, if_pos ⟨rfl, rfl⟩]; rfl⟩⟩
  by_cases c0 : ∃ g, g < vG (I 451) ∧ p0 = nn g
  case neg =>
    exact bad (am_ofE rfl rfl rfl (Nat.le_of_ble_eq_true rfl) (bX8_typesAt_0x o (by decide) (by decide) (eX8_requireNode_x hF n2 c0 (by omega)) ⟨rfl, rfl, rfl⟩)) (eX9_noNode_x hm w2 c0 (by omega))
  obtain ⟨g, hg0, rfl⟩ := c0
  have hg' := hg0
  obtain ⟨hg1, hgg⟩ := hg g (by omega)
  obtain ⟨og, gg4, gg5, ga, tr⟩ := id hgg
  obtain ⟨ot, tr1, tr2, tr3, tr4, ta1, ta2, ta3, ta4⟩ := id tr
  obtain ⟨y0, y1, y2, y3, y4, y5, y6⟩ := R.2.1.2.2.2.2 g hg'
  obtain ⟨e, e15, e0, ee, ew, ec, tw, h6, tok, sets⟩ := R.gate hg'
  have md : mda (I 451) g (vQ (I 451)) (vT (I 451)) (qcW (I 451)) (tyW (I 451)) (tlW (I 451)) (ctW (I 451) g) := R.1.1.mda t0 hg'
  have gE : gc 9 g = 9 + (8 + 7 * g) := rfl
  by_cases c1 : ∃ n, n < e ∧ p1 = nn n
  case neg =>
    exact bad (am_ofE rfl rfl rfl (Nat.le_of_ble_eq_true rfl) (bX8_typesAt_0x o (by decide) (by decide) (eX8_requireNode_f hF n2 hg0 (by omega) ec c1 e15) ⟨rfl, rfl, rfl⟩)) (eX9_noNode_f hm w2 hg0 (by omega) ew c1 e15)
  obtain ⟨n, hn, rfl⟩ := c1
  refine ⟨I, L, am_u I 450 6 0, .inl (some (.int (rw5 (I 451) g 4 n))), rw5 (I 451) g 4 n, am_ofE rfl rfl rfl (Nat.le_of_ble_eq_true rfl) ?_, am_ofE rfl rfl rfl (Nat.le_of_ble_eq_true rfl) ?_, R.thr 0, Or.inl ⟨rfl, by rw [am_u_at, if_pos ⟨rfl, rfl⟩]⟩⟩
  · refine bX8_typesAt_0 (by assumption) (Nat.zero_le _) (Nat.zero_le _) (eX8_requireNode_t (mc := 0) (ms := 0) hF n2 hg0 (by omega) ec hn e15) ?_
    refine bX8_typesAt_6 (by assumption) (by first | assumption | (rw [nn_nat (by omega)]; exact hg1)) (by assumption) (by first | assumption | (rw [nn_nat (by omega)]; exact hg1)) (by assumption) (nn_in (by omega) (by omega)) (by first | assumption | (rw [nn_nat (by omega)]; exact hg1)) (by assumption) (by first | assumption | (rw [nn_nat (by omega)]; exact hg1)) (by assumption) (by first | assumption | (rw [nn_nat (by omega)]; exact hg1)) (by assumption) (nn_in (by omega) (by omega)) ?_
    exact am_R_e (by rw [nn_nat (by omega)]; exact (h6 n hn).2.2.2) rfl rfl
  · refine bX9_typesAt_0 mo (Nat.zero_le _) (Nat.zero_le _) (am_ofE (mc := 0) (ms := 0) rfl rfl rfl (Nat.le_of_ble_eq_true rfl) (by
      refine bX9_toldNode_0 mo (Nat.zero_le _) (Nat.zero_le _) (eX9_noNode_t hm w2 hg0 (by omega) ew hn e15) ?_
      refine bX9_toldNode_7 mo (Nat.zero_le _) (Nat.zero_le _) (eX9_fails0 hm) ?_
      refine bX9_toldNode_12 (fun _ => ?_) (fun h => absurd (by decide) h)
      refine bX9_toldNode_19 mo (Nat.zero_le _) (Nat.zero_le _) (eX9_ofNode (k := 4) hm (by omega) (by omega) (by decide)) ?_
      refine bX9_toldNode_26 ?_
      exact am_R_e (w := rw5 (I 451) g 4 n) (by rw [hJ]; rfl) rfl rfl)) ?_
    refine bX9_typesAt_7 ?_
    exact ⟨rfl, rfl, rfl⟩

theorem fX_yesChild (hF : wF Γ) (R : REL I L) (p0 p1 : Int32) : gX Γ I L m_X8_yesChild m_X9_yesChild [.int p0, .int p1] ["java/lang/IndexOutOfBoundsException"] := by
  obtain ⟨⟨o, f0, f1, f2, f3, f4, f5, f6, f7⟩, so, st, dr, ⟨ro, rr0, rr5, rr6, ra⟩, hi, sv, ⟨oo, or0, or2, oa, oa2⟩, hm, am, am2⟩ := id hF
  obtain ⟨ob, s4, s5, s6, s7, s8, s9, s10, b1, b2, b3, b4, b5, b6, o7, hg⟩ := id st
  obtain ⟨mo, r0, r1, r2, r3, r4, r7, r8, r13, r14, r15, r16, r17, a1, a2, a3, a4, a5, a6, a7, a8, a9, a10, a11, a12⟩ := id hm
  obtain ⟨⟨n0, n1, n2, n3⟩, ⟨w0, w1, w2⟩, q6, t8, g4, q0, t0, g0⟩ := R.nums
  have hJ : ∀ v : Int32, am_u I 450 6 v 451 = I 451 := fun v => am_u_ne (by decide)
  have bad : am_E m_X8_yesChild 270 1 6 [.ref 0, .int p0, .int p1] Γ I L (.inr "java/lang/IndexOutOfBoundsException") I L → am_E m_X9_noNode 278 0 0 [.ref 450, .int p0, .int p1] Γ I L (.inl (some (.int 1))) I L → gX Γ I L m_X8_yesChild m_X9_yesChild [.int p0, .int p1] ["java/lang/IndexOutOfBoundsException"] := fun h h2 =>
    ⟨I, L, am_u I 450 6 1, .inr "java/lang/IndexOutOfBoundsException", 0, h, am_ofE rfl rfl rfl (Nat.le_of_ble_eq_true rfl) (by
      refine bX9_yesChild_0 mo (Nat.zero_le _) (Nat.zero_le _) (am_ofE (mc := 0) (ms := 0) rfl rfl rfl (Nat.le_of_ble_eq_true rfl) (by
        refine bX9_toldNode_0 mo (Nat.zero_le _) (Nat.zero_le _) h2 ?_
        refine bX9_toldNode_7 mo (Nat.zero_le _) (Nat.zero_le _) (eX9_fails1 hm) ?_
        refine bX9_toldNode_12 (fun h => absurd h (by decide)) (fun _ => ?_)
        refine bX9_toldNode_15 ?_
        refine bX9_toldNode_26 ?_
        exact ⟨rfl, rfl, rfl⟩)) ?_
      refine bX9_yesChild_7 ?_
      exact ⟨rfl, rfl, rfl⟩), R.thr 1, Or.inr ⟨0, _, rfl, rfl, by rw [am_u_at, if_pos ⟨rfl, rfl⟩]; rfl⟩⟩
  by_cases c0 : ∃ g, g < vG (I 451) ∧ p0 = nn g
  case neg =>
    exact bad (am_ofE rfl rfl rfl (Nat.le_of_ble_eq_true rfl) (bX8_yesChild_0x o (by decide) (by decide) (eX8_requireNode_x hF n2 c0 (by omega)) ⟨rfl, rfl, rfl⟩)) (eX9_noNode_x hm w2 c0 (by omega))
  obtain ⟨g, hg0, rfl⟩ := c0
  have hg' := hg0
  obtain ⟨hg1, hgg⟩ := hg g (by omega)
  obtain ⟨og, gg4, gg5, ga, tr⟩ := id hgg
  obtain ⟨ot, tr1, tr2, tr3, tr4, ta1, ta2, ta3, ta4⟩ := id tr
  obtain ⟨y0, y1, y2, y3, y4, y5, y6⟩ := R.2.1.2.2.2.2 g hg'
  obtain ⟨e, e15, e0, ee, ew, ec, tw, h6, tok, sets⟩ := R.gate hg'
  have md : mda (I 451) g (vQ (I 451)) (vT (I 451)) (qcW (I 451)) (tyW (I 451)) (tlW (I 451)) (ctW (I 451) g) := R.1.1.mda t0 hg'
  have gE : gc 9 g = 9 + (8 + 7 * g) := rfl
  by_cases c1 : ∃ n, n < e ∧ p1 = nn n
  case neg =>
    exact bad (am_ofE rfl rfl rfl (Nat.le_of_ble_eq_true rfl) (bX8_yesChild_0x o (by decide) (by decide) (eX8_requireNode_f hF n2 hg0 (by omega) ec c1 e15) ⟨rfl, rfl, rfl⟩)) (eX9_noNode_f hm w2 hg0 (by omega) ew c1 e15)
  obtain ⟨n, hn, rfl⟩ := c1
  refine ⟨I, L, am_u I 450 6 0, .inl (some (.int (rw5 (I 451) g 2 n))), rw5 (I 451) g 2 n, am_ofE rfl rfl rfl (Nat.le_of_ble_eq_true rfl) ?_, am_ofE rfl rfl rfl (Nat.le_of_ble_eq_true rfl) ?_, R.thr 0, Or.inl ⟨rfl, by rw [am_u_at, if_pos ⟨rfl, rfl⟩]⟩⟩
  · refine bX8_yesChild_0 (by assumption) (Nat.zero_le _) (Nat.zero_le _) (eX8_requireNode_t (mc := 0) (ms := 0) hF n2 hg0 (by omega) ec hn e15) ?_
    refine bX8_yesChild_6 (by assumption) (by first | assumption | (rw [nn_nat (by omega)]; exact hg1)) (by assumption) (by first | assumption | (rw [nn_nat (by omega)]; exact hg1)) (by assumption) (nn_in (by omega) (by omega)) (by first | assumption | (rw [nn_nat (by omega)]; exact hg1)) (by assumption) (by first | assumption | (rw [nn_nat (by omega)]; exact hg1)) (by assumption) (Nat.zero_le _) (Nat.zero_le _) (eX7_firstChild tr (by omega)) ?_
    refine bX8_yesChild_22 ?_
    exact am_R_e (by obtain ⟨S', s1, s2, s3, s4, s5⟩ := sets n hn; rw [(h6 n hn).1, s5]) rfl rfl
  · refine bX9_yesChild_0 mo (Nat.zero_le _) (Nat.zero_le _) (am_ofE (mc := 0) (ms := 0) rfl rfl rfl (Nat.le_of_ble_eq_true rfl) (by
      refine bX9_toldNode_0 mo (Nat.zero_le _) (Nat.zero_le _) (eX9_noNode_t hm w2 hg0 (by omega) ew hn e15) ?_
      refine bX9_toldNode_7 mo (Nat.zero_le _) (Nat.zero_le _) (eX9_fails0 hm) ?_
      refine bX9_toldNode_12 (fun _ => ?_) (fun h => absurd (by decide) h)
      refine bX9_toldNode_19 mo (Nat.zero_le _) (Nat.zero_le _) (eX9_ofNode (k := 2) hm (by omega) (by omega) (by decide)) ?_
      refine bX9_toldNode_26 ?_
      exact am_R_e (w := rw5 (I 451) g 2 n) (by rw [hJ]; rfl) rfl rfl)) ?_
    refine bX9_yesChild_7 ?_
    exact ⟨rfl, rfl, rfl⟩

theorem fX_leafOf (hF : wF Γ) (R : REL I L) (p0 p1 : Int32) : gX Γ I L m_X8_leafOf m_X9_leafOf [.int p0, .int p1] ["java/lang/IndexOutOfBoundsException"] := by
  obtain ⟨⟨o, f0, f1, f2, f3, f4, f5, f6, f7⟩, so, st, dr, ⟨ro, rr0, rr5, rr6, ra⟩, hi, sv, ⟨oo, or0, or2, oa, oa2⟩, hm, am, am2⟩ := id hF
  obtain ⟨ob, s4, s5, s6, s7, s8, s9, s10, b1, b2, b3, b4, b5, b6, o7, hg⟩ := id st
  obtain ⟨mo, r0, r1, r2, r3, r4, r7, r8, r13, r14, r15, r16, r17, a1, a2, a3, a4, a5, a6, a7, a8, a9, a10, a11, a12⟩ := id hm
  obtain ⟨⟨n0, n1, n2, n3⟩, ⟨w0, w1, w2⟩, q6, t8, g4, q0, t0, g0⟩ := R.nums
  have hJ : ∀ v : Int32, am_u I 450 6 v 451 = I 451 := fun v => am_u_ne (by decide)
  by_cases c0 : ∃ g, g < vG (I 451) ∧ p0 = nn g
  case neg =>
    refine ⟨I, L, am_u I 450 6 1, .inr "java/lang/IndexOutOfBoundsException", 0, am_ofE rfl rfl rfl (Nat.le_of_ble_eq_true rfl) ?_, am_ofE rfl rfl rfl (Nat.le_of_ble_eq_true rfl) ?_, R.thr 1, Or.inr ⟨0, _, rfl, rfl, by rw [am_u_at, if_pos ⟨rfl, rfl⟩]; rfl⟩⟩
    · refine bX8_leafOf_0x (by assumption) (by decide) (by decide) (eX8_requireGate_f hF n2 c0 (by omega)) ?_
      exact ⟨rfl, rfl, rfl⟩
    · refine bX9_leafOf_0 (by assumption) (Nat.zero_le _) (Nat.zero_le _) (eX9_noGate_f hm w2 c0 (by omega)) ?_
      refine bX9_leafOf_6 (fun _ => ?_) (fun h => absurd h (by decide))
      refine bX9_leafOf_17 ?_
      refine bX9_leafOf_22 (by assumption) (Nat.zero_le _) (Nat.zero_le _) (eX9_fails1 hm) ?_
      refine bX9_leafOf_27 (fun h => absurd h (by decide)) (fun _ => ?_)
      refine bX9_leafOf_30 ?_
      refine bX9_leafOf_40 ?_
      exact ⟨rfl, rfl, rfl⟩
  obtain ⟨g, hg0, rfl⟩ := c0
  by_cases c1 : ∃ g, g < vT (I 451) ∧ p1 = nn g
  case neg =>
    refine ⟨I, L, am_u I 450 6 1, .inr "java/lang/IndexOutOfBoundsException", 0, am_ofE rfl rfl rfl (Nat.le_of_ble_eq_true rfl) ?_, am_ofE rfl rfl rfl (Nat.le_of_ble_eq_true rfl) ?_, R.thr 1, Or.inr ⟨0, _, rfl, rfl, by rw [am_u_at, if_pos ⟨rfl, rfl⟩]; rfl⟩⟩
    · refine bX8_leafOf_0 (by assumption) (Nat.zero_le _) (Nat.zero_le _) (eX8_requireGate_t (mc := 0) (ms := 0) hF n2 (by assumption) (by omega)) ?_
      refine bX8_leafOf_5x (by assumption) (by decide) (by decide) (eX8_requireType_f hF n1 c1 (by omega)) ?_
      exact ⟨rfl, rfl, rfl⟩
    · refine bX9_leafOf_0 (by assumption) (Nat.zero_le _) (Nat.zero_le _) (eX9_noGate_t hm w2 (by assumption) (by omega)) ?_
      refine bX9_leafOf_6 (fun h => absurd (by decide) h) (fun _ => ?_)
      refine bX9_leafOf_9 (by assumption) (Nat.zero_le _) (Nat.zero_le _) (eX9_noType_f hm w1 c1 (by omega)) ?_
      refine bX9_leafOf_14 (fun h => absurd h (by decide)) (fun _ => ?_)
      refine bX9_leafOf_17 ?_
      refine bX9_leafOf_22 (by assumption) (Nat.zero_le _) (Nat.zero_le _) (eX9_fails1 hm) ?_
      refine bX9_leafOf_27 (fun h => absurd h (by decide)) (fun _ => ?_)
      refine bX9_leafOf_30 ?_
      refine bX9_leafOf_40 ?_
      exact ⟨rfl, rfl, rfl⟩
  obtain ⟨t, ht, rfl⟩ := c1
  have hg' := hg0
  obtain ⟨hg1, hgg⟩ := hg g (by omega)
  obtain ⟨og, gg4, gg5, ga, tr⟩ := id hgg
  obtain ⟨ot, tr1, tr2, tr3, tr4, ta1, ta2, ta3, ta4⟩ := id tr
  obtain ⟨y0, y1, y2, y3, y4, y5, y6⟩ := R.2.1.2.2.2.2 g hg'
  obtain ⟨e, e15, e0, ee, ew, ec, tw, h6, tok, sets⟩ := R.gate hg'
  have md : mda (I 451) g (vQ (I 451)) (vT (I 451)) (qcW (I 451)) (tyW (I 451)) (tlW (I 451)) (ctW (I 451) g) := R.1.1.mda t0 hg'
  have gE : gc 9 g = 9 + (8 + 7 * g) := rfl
  refine ⟨I, L, am_u I 450 6 0, .inl (some (.int (nn (lfA (rw5 (I 451) g 0) (rw5 (I 451) g 4) (nn t) e)))), (nn (lfA (rw5 (I 451) g 0) (rw5 (I 451) g 4) (nn t) e)), am_ofE rfl rfl rfl (Nat.le_of_ble_eq_true rfl) ?_, am_ofE rfl rfl rfl (Nat.le_of_ble_eq_true rfl) ?_, R.thr 0, Or.inl ⟨rfl, by rw [am_u_at, if_pos ⟨rfl, rfl⟩]⟩⟩
  · refine bX8_leafOf_0 (by assumption) (Nat.zero_le _) (Nat.zero_le _) (eX8_requireGate_t (mc := 0) (ms := 0) hF n2 (by assumption) (by omega)) ?_
    refine bX8_leafOf_5 (by assumption) (Nat.zero_le _) (Nat.zero_le _) (eX8_requireType_t (mc := 0) (ms := 0) hF n1 (by assumption) (by omega)) ?_
    refine bX8_leafOf_10 (by assumption) (by first | assumption | (rw [nn_nat (by omega)]; exact hg1)) (by assumption) (by first | assumption | (rw [nn_nat (by omega)]; exact hg1)) (by assumption) (nn_in (by omega) (by omega)) (by first | assumption | (rw [nn_nat (by omega)]; exact hg1)) (by assumption) (by first | assumption | (rw [nn_nat (by omega)]; exact hg1)) (by assumption) (Nat.zero_le _) (Nat.zero_le _) (eX7_leafHolding tr e15 ec _) ?_
    refine bX8_leafOf_26 ?_
    exact am_R_e (by rw [R.lf h6]) rfl rfl
  · refine bX9_leafOf_0 (by assumption) (Nat.zero_le _) (Nat.zero_le _) (eX9_noGate_t hm w2 (by assumption) (by omega)) ?_
    refine bX9_leafOf_6 (fun h => absurd (by decide) h) (fun _ => ?_)
    refine bX9_leafOf_9 (by assumption) (Nat.zero_le _) (Nat.zero_le _) (eX9_noType_t hm w1 (by assumption) (by omega)) ?_
    refine bX9_leafOf_14 (fun _ => ?_) (fun h => absurd (by decide) h)
    refine bX9_leafOf_21 ?_
    refine bX9_leafOf_22 (by assumption) (Nat.zero_le _) (Nat.zero_le _) (eX9_fails0 hm) ?_
    refine bX9_leafOf_27 (fun _ => ?_) (fun h => absurd (by decide) h)
    refine bX9_leafOf_34 (by assumption) (Nat.zero_le _) (Nat.zero_le _) (eX9_leafFor hm (by omega) (by rw [hJ]; exact md) (by rw [hJ]; exact tw) ht) ?_
    refine bX9_leafOf_40 ?_
    exact am_R_e (by rw [hJ]) rfl rfl

theorem fX_chargedToll (hF : wF Γ) (R : REL I L) (p0 p1 : Int32) : gX Γ I L m_X8_chargedToll m_X9_chargedToll [.int p0, .int p1] ["java/lang/IndexOutOfBoundsException"] := by
  obtain ⟨⟨o, f0, f1, f2, f3, f4, f5, f6, f7⟩, so, st, dr, ⟨ro, rr0, rr5, rr6, ra⟩, hi, sv, ⟨oo, or0, or2, oa, oa2⟩, hm, am, am2⟩ := id hF
  obtain ⟨ob, s4, s5, s6, s7, s8, s9, s10, b1, b2, b3, b4, b5, b6, o7, hg⟩ := id st
  obtain ⟨mo, r0, r1, r2, r3, r4, r7, r8, r13, r14, r15, r16, r17, a1, a2, a3, a4, a5, a6, a7, a8, a9, a10, a11, a12⟩ := id hm
  obtain ⟨⟨n0, n1, n2, n3⟩, ⟨w0, w1, w2⟩, q6, t8, g4, q0, t0, g0⟩ := R.nums
  have hJ : ∀ v : Int32, am_u I 450 6 v 451 = I 451 := fun v => am_u_ne (by decide)
  by_cases c0 : ∃ g, g < vG (I 451) ∧ p0 = nn g
  case neg =>
    refine ⟨I, L, am_u I 450 6 1, .inr "java/lang/IndexOutOfBoundsException", 0, am_ofE rfl rfl rfl (Nat.le_of_ble_eq_true rfl) ?_, am_ofE rfl rfl rfl (Nat.le_of_ble_eq_true rfl) ?_, R.thr 1, Or.inr ⟨0, _, rfl, rfl, by rw [am_u_at, if_pos ⟨rfl, rfl⟩]; rfl⟩⟩
    · refine bX8_chargedToll_0x (by assumption) (by decide) (by decide) (eX8_requireGate_f hF n2 c0 (by omega)) ?_
      exact ⟨rfl, rfl, rfl⟩
    · refine bX9_chargedToll_0 (by assumption) (Nat.zero_le _) (Nat.zero_le _) (eX9_noGate_f hm w2 c0 (by omega)) ?_
      refine bX9_chargedToll_6 (fun _ => ?_) (fun h => absurd h (by decide))
      refine bX9_chargedToll_17 ?_
      refine bX9_chargedToll_22 (by assumption) (Nat.zero_le _) (Nat.zero_le _) (eX9_fails1 hm) ?_
      refine bX9_chargedToll_27 (fun h => absurd h (by decide)) (fun _ => ?_)
      refine bX9_chargedToll_30 ?_
      refine bX9_chargedToll_40 ?_
      exact ⟨rfl, rfl, rfl⟩
  obtain ⟨g, hg0, rfl⟩ := c0
  by_cases c1 : ∃ g, g < vT (I 451) ∧ p1 = nn g
  case neg =>
    refine ⟨I, L, am_u I 450 6 1, .inr "java/lang/IndexOutOfBoundsException", 0, am_ofE rfl rfl rfl (Nat.le_of_ble_eq_true rfl) ?_, am_ofE rfl rfl rfl (Nat.le_of_ble_eq_true rfl) ?_, R.thr 1, Or.inr ⟨0, _, rfl, rfl, by rw [am_u_at, if_pos ⟨rfl, rfl⟩]; rfl⟩⟩
    · refine bX8_chargedToll_0 (by assumption) (Nat.zero_le _) (Nat.zero_le _) (eX8_requireGate_t (mc := 0) (ms := 0) hF n2 (by assumption) (by omega)) ?_
      refine bX8_chargedToll_5x (by assumption) (by decide) (by decide) (eX8_requireType_f hF n1 c1 (by omega)) ?_
      exact ⟨rfl, rfl, rfl⟩
    · refine bX9_chargedToll_0 (by assumption) (Nat.zero_le _) (Nat.zero_le _) (eX9_noGate_t hm w2 (by assumption) (by omega)) ?_
      refine bX9_chargedToll_6 (fun h => absurd (by decide) h) (fun _ => ?_)
      refine bX9_chargedToll_9 (by assumption) (Nat.zero_le _) (Nat.zero_le _) (eX9_noType_f hm w1 c1 (by omega)) ?_
      refine bX9_chargedToll_14 (fun h => absurd h (by decide)) (fun _ => ?_)
      refine bX9_chargedToll_17 ?_
      refine bX9_chargedToll_22 (by assumption) (Nat.zero_le _) (Nat.zero_le _) (eX9_fails1 hm) ?_
      refine bX9_chargedToll_27 (fun h => absurd h (by decide)) (fun _ => ?_)
      refine bX9_chargedToll_30 ?_
      refine bX9_chargedToll_40 ?_
      exact ⟨rfl, rfl, rfl⟩
  obtain ⟨t, ht, rfl⟩ := c1
  have hg' := hg0
  obtain ⟨hg1, hgg⟩ := hg g (by omega)
  obtain ⟨og, gg4, gg5, ga, tr⟩ := id hgg
  obtain ⟨ot, tr1, tr2, tr3, tr4, ta1, ta2, ta3, ta4⟩ := id tr
  obtain ⟨y0, y1, y2, y3, y4, y5, y6⟩ := R.2.1.2.2.2.2 g hg'
  obtain ⟨e, e15, e0, ee, ew, ec, tw, h6, tok, sets⟩ := R.gate hg'
  have md : mda (I 451) g (vQ (I 451)) (vT (I 451)) (qcW (I 451)) (tyW (I 451)) (tlW (I 451)) (ctW (I 451) g) := R.1.1.mda t0 hg'
  have gE : gc 9 g = 9 + (8 + 7 * g) := rfl
  obtain ⟨k1, k2, k3, k4⟩ := lfA_sp q6 (show t < 32 by omega) tw.2.2.2 (by have := two_le8 t8; omega) (all_bit ht)
  refine ⟨I, L, am_u I 450 6 0, .inl (some (.int (rw5 (I 451) g 1 (lfA (rw5 (I 451) g 0) (rw5 (I 451) g 4) (nn t) e)))), (rw5 (I 451) g 1 (lfA (rw5 (I 451) g 0) (rw5 (I 451) g 4) (nn t) e)), am_ofE rfl rfl rfl (Nat.le_of_ble_eq_true rfl) ?_, am_ofE rfl rfl rfl (Nat.le_of_ble_eq_true rfl) ?_, R.thr 0, Or.inl ⟨rfl, by rw [am_u_at, if_pos ⟨rfl, rfl⟩]⟩⟩
  · refine bX8_chargedToll_0 (by assumption) (Nat.zero_le _) (Nat.zero_le _) (eX8_requireGate_t (mc := 0) (ms := 0) hF n2 (by assumption) (by omega)) ?_
    refine bX8_chargedToll_5 (by assumption) (Nat.zero_le _) (Nat.zero_le _) (eX8_requireType_t (mc := 0) (ms := 0) hF n1 (by assumption) (by omega)) ?_
    refine bX8_chargedToll_10 (by assumption) (by first | assumption | (rw [nn_nat (by omega)]; exact hg1)) (by assumption) (by first | assumption | (rw [nn_nat (by omega)]; exact hg1)) (by assumption) (nn_in (by omega) (by omega)) (by first | assumption | (rw [nn_nat (by omega)]; exact hg1)) (by assumption) (by first | assumption | (rw [nn_nat (by omega)]; exact hg1)) (by assumption) (Nat.zero_le _) (Nat.zero_le _) (eX7_tollFor tr e15 e0 ec _) ?_
    refine bX8_chargedToll_26 ?_
    exact am_R_e (by rw [R.lf h6]; exact (h6 _ k1).2.1) rfl rfl
  · refine bX9_chargedToll_0 (by assumption) (Nat.zero_le _) (Nat.zero_le _) (eX9_noGate_t hm w2 (by assumption) (by omega)) ?_
    refine bX9_chargedToll_6 (fun h => absurd (by decide) h) (fun _ => ?_)
    refine bX9_chargedToll_9 (by assumption) (Nat.zero_le _) (Nat.zero_le _) (eX9_noType_t hm w1 (by assumption) (by omega)) ?_
    refine bX9_chargedToll_14 (fun _ => ?_) (fun h => absurd (by decide) h)
    refine bX9_chargedToll_21 ?_
    refine bX9_chargedToll_22 (by assumption) (Nat.zero_le _) (Nat.zero_le _) (eX9_fails0 hm) ?_
    refine bX9_chargedToll_27 (fun _ => ?_) (fun h => absurd (by decide) h)
    refine bX9_chargedToll_34 (by assumption) (Nat.zero_le _) (Nat.zero_le _) (eX9_charged hm (by omega) (by rw [hJ]; exact md) (by rw [hJ]; exact tw) ht) ?_
    refine bX9_chargedToll_40 ?_
    exact am_R_e (by rw [hJ]) rfl rfl

theorem fX_pathCost (hF : wF Γ) (R : REL I L) (p0 p1 : Int32) : gX Γ I L m_X8_pathCost m_X9_pathCost [.int p0, .int p1] ["java/lang/IndexOutOfBoundsException"] := by
  obtain ⟨⟨o, f0, f1, f2, f3, f4, f5, f6, f7⟩, so, st, dr, ⟨ro, rr0, rr5, rr6, ra⟩, hi, sv, ⟨oo, or0, or2, oa, oa2⟩, hm, am, am2⟩ := id hF
  obtain ⟨ob, s4, s5, s6, s7, s8, s9, s10, b1, b2, b3, b4, b5, b6, o7, hg⟩ := id st
  obtain ⟨mo, r0, r1, r2, r3, r4, r7, r8, r13, r14, r15, r16, r17, a1, a2, a3, a4, a5, a6, a7, a8, a9, a10, a11, a12⟩ := id hm
  obtain ⟨⟨n0, n1, n2, n3⟩, ⟨w0, w1, w2⟩, q6, t8, g4, q0, t0, g0⟩ := R.nums
  have hJ : ∀ v : Int32, am_u I 450 6 v 451 = I 451 := fun v => am_u_ne (by decide)
  by_cases c0 : ∃ g, g < vG (I 451) ∧ p0 = nn g
  case neg =>
    refine ⟨I, L, am_u I 450 6 1, .inr "java/lang/IndexOutOfBoundsException", 0, am_ofE rfl rfl rfl (Nat.le_of_ble_eq_true rfl) ?_, am_ofE rfl rfl rfl (Nat.le_of_ble_eq_true rfl) ?_, R.thr 1, Or.inr ⟨0, _, rfl, rfl, by rw [am_u_at, if_pos ⟨rfl, rfl⟩]; rfl⟩⟩
    · refine bX8_pathCost_0x (by assumption) (by decide) (by decide) (eX8_requireGate_f hF n2 c0 (by omega)) ?_
      exact ⟨rfl, rfl, rfl⟩
    · refine bX9_pathCost_0 (by assumption) (Nat.zero_le _) (Nat.zero_le _) (eX9_noGate_f hm w2 c0 (by omega)) ?_
      refine bX9_pathCost_6 (fun _ => ?_) (fun h => absurd h (by decide))
      refine bX9_pathCost_17 ?_
      refine bX9_pathCost_22 (by assumption) (Nat.zero_le _) (Nat.zero_le _) (eX9_fails1 hm) ?_
      refine bX9_pathCost_27 (fun h => absurd h (by decide)) (fun _ => ?_)
      refine bX9_pathCost_30 ?_
      refine bX9_pathCost_40 ?_
      exact ⟨rfl, rfl, rfl⟩
  obtain ⟨g, hg0, rfl⟩ := c0
  by_cases c1 : ∃ g, g < vT (I 451) ∧ p1 = nn g
  case neg =>
    refine ⟨I, L, am_u I 450 6 1, .inr "java/lang/IndexOutOfBoundsException", 0, am_ofE rfl rfl rfl (Nat.le_of_ble_eq_true rfl) ?_, am_ofE rfl rfl rfl (Nat.le_of_ble_eq_true rfl) ?_, R.thr 1, Or.inr ⟨0, _, rfl, rfl, by rw [am_u_at, if_pos ⟨rfl, rfl⟩]; rfl⟩⟩
    · refine bX8_pathCost_0 (by assumption) (Nat.zero_le _) (Nat.zero_le _) (eX8_requireGate_t (mc := 0) (ms := 0) hF n2 (by assumption) (by omega)) ?_
      refine bX8_pathCost_5x (by assumption) (by decide) (by decide) (eX8_requireType_f hF n1 c1 (by omega)) ?_
      exact ⟨rfl, rfl, rfl⟩
    · refine bX9_pathCost_0 (by assumption) (Nat.zero_le _) (Nat.zero_le _) (eX9_noGate_t hm w2 (by assumption) (by omega)) ?_
      refine bX9_pathCost_6 (fun h => absurd (by decide) h) (fun _ => ?_)
      refine bX9_pathCost_9 (by assumption) (Nat.zero_le _) (Nat.zero_le _) (eX9_noType_f hm w1 c1 (by omega)) ?_
      refine bX9_pathCost_14 (fun h => absurd h (by decide)) (fun _ => ?_)
      refine bX9_pathCost_17 ?_
      refine bX9_pathCost_22 (by assumption) (Nat.zero_le _) (Nat.zero_le _) (eX9_fails1 hm) ?_
      refine bX9_pathCost_27 (fun h => absurd h (by decide)) (fun _ => ?_)
      refine bX9_pathCost_30 ?_
      refine bX9_pathCost_40 ?_
      exact ⟨rfl, rfl, rfl⟩
  obtain ⟨t, ht, rfl⟩ := c1
  have hg' := hg0
  obtain ⟨hg1, hgg⟩ := hg g (by omega)
  obtain ⟨og, gg4, gg5, ga, tr⟩ := id hgg
  obtain ⟨ot, tr1, tr2, tr3, tr4, ta1, ta2, ta3, ta4⟩ := id tr
  obtain ⟨y0, y1, y2, y3, y4, y5, y6⟩ := R.2.1.2.2.2.2 g hg'
  obtain ⟨e, e15, e0, ee, ew, ec, tw, h6, tok, sets⟩ := R.gate hg'
  have md : mda (I 451) g (vQ (I 451)) (vT (I 451)) (qcW (I 451)) (tyW (I 451)) (tlW (I 451)) (ctW (I 451) g) := R.1.1.mda t0 hg'
  have gE : gc 9 g = 9 + (8 + 7 * g) := rfl
  refine ⟨I, L, am_u I 450 6 0, .inl (some (.int (wcA (rw5 (I 451) g 0) (rw5 (I 451) g 4) (csW (I 451)) (nn t) e))), (wcA (rw5 (I 451) g 0) (rw5 (I 451) g 4) (csW (I 451)) (nn t) e), am_ofE rfl rfl rfl (Nat.le_of_ble_eq_true rfl) ?_, am_ofE rfl rfl rfl (Nat.le_of_ble_eq_true rfl) ?_, R.thr 0, Or.inl ⟨rfl, by rw [am_u_at, if_pos ⟨rfl, rfl⟩]⟩⟩
  · refine bX8_pathCost_0 (by assumption) (Nat.zero_le _) (Nat.zero_le _) (eX8_requireGate_t (mc := 0) (ms := 0) hF n2 (by assumption) (by omega)) ?_
    refine bX8_pathCost_5 (by assumption) (Nat.zero_le _) (Nat.zero_le _) (eX8_requireType_t (mc := 0) (ms := 0) hF n1 (by assumption) (by omega)) ?_
    refine bX8_pathCost_10 (by assumption) (by first | assumption | (rw [nn_nat (by omega)]; exact hg1)) (by assumption) (Nat.zero_le _) (Nat.zero_le _) (eX5_costOfPath st (by omega) e15 ec tok _) ?_
    refine bX8_pathCost_19 ?_
    exact am_R_e (R.wc hg' ee h6 _) rfl rfl
  · refine bX9_pathCost_0 (by assumption) (Nat.zero_le _) (Nat.zero_le _) (eX9_noGate_t hm w2 (by assumption) (by omega)) ?_
    refine bX9_pathCost_6 (fun h => absurd (by decide) h) (fun _ => ?_)
    refine bX9_pathCost_9 (by assumption) (Nat.zero_le _) (Nat.zero_le _) (eX9_noType_t hm w1 (by assumption) (by omega)) ?_
    refine bX9_pathCost_14 (fun _ => ?_) (fun h => absurd (by decide) h)
    refine bX9_pathCost_21 ?_
    refine bX9_pathCost_22 (by assumption) (Nat.zero_le _) (Nat.zero_le _) (eX9_fails0 hm) ?_
    refine bX9_pathCost_27 (fun _ => ?_) (fun h => absurd (by decide) h)
    refine bX9_pathCost_34 (by assumption) (Nat.zero_le _) (Nat.zero_le _) (eX9_wayCost hm (by omega) (by rw [hJ]; exact md) (by rw [hJ]; exact tw) ht) ?_
    refine bX9_pathCost_40 ?_
    exact am_R_e (by rw [hJ]) rfl rfl

theorem fX_errors (hF : wF Γ) (R : REL I L) (p0 : Int32) : gX Γ I L m_X8_errors m_X9_errors [.int p0] ["java/lang/IndexOutOfBoundsException"] := by
  obtain ⟨⟨o, f0, f1, f2, f3, f4, f5, f6, f7⟩, so, st, dr, ⟨ro, rr0, rr5, rr6, ra⟩, hi, sv, ⟨oo, or0, or2, oa, oa2⟩, hm, am, am2⟩ := id hF
  obtain ⟨ob, s4, s5, s6, s7, s8, s9, s10, b1, b2, b3, b4, b5, b6, o7, hg⟩ := id st
  obtain ⟨mo, r0, r1, r2, r3, r4, r7, r8, r13, r14, r15, r16, r17, a1, a2, a3, a4, a5, a6, a7, a8, a9, a10, a11, a12⟩ := id hm
  obtain ⟨⟨n0, n1, n2, n3⟩, ⟨w0, w1, w2⟩, q6, t8, g4, q0, t0, g0⟩ := R.nums
  have hJ : ∀ v : Int32, am_u I 450 6 v 451 = I 451 := fun v => am_u_ne (by decide)
  by_cases c0 : ∃ g, g < vG (I 451) ∧ p0 = nn g
  case neg =>
    refine ⟨I, L, am_u I 450 6 1, .inr "java/lang/IndexOutOfBoundsException", 0, am_ofE rfl rfl rfl (Nat.le_of_ble_eq_true rfl) ?_, am_ofE rfl rfl rfl (Nat.le_of_ble_eq_true rfl) ?_, R.thr 1, Or.inr ⟨0, _, rfl, rfl, by rw [am_u_at, if_pos ⟨rfl, rfl⟩]; rfl⟩⟩
    · refine bX8_errors_0x (by assumption) (by decide) (by decide) (eX8_requireGate_f hF n2 c0 (by omega)) ?_
      exact ⟨rfl, rfl, rfl⟩
    · refine bX9_errors_0 (by assumption) (Nat.zero_le _) (Nat.zero_le _) (eX9_noGate_f hm w2 c0 (by omega)) ?_
      refine bX9_errors_6 (by assumption) (Nat.zero_le _) (Nat.zero_le _) (eX9_fails1 hm) ?_
      refine bX9_errors_11 (fun h => absurd h (by decide)) (fun _ => ?_)
      refine bX9_errors_14 ?_
      refine bX9_errors_23 ?_
      exact ⟨rfl, rfl, rfl⟩
  obtain ⟨g, hg0, rfl⟩ := c0
  have hg' := hg0
  obtain ⟨hg1, hgg⟩ := hg g (by omega)
  obtain ⟨og, gg4, gg5, ga, tr⟩ := id hgg
  obtain ⟨ot, tr1, tr2, tr3, tr4, ta1, ta2, ta3, ta4⟩ := id tr
  obtain ⟨y0, y1, y2, y3, y4, y5, y6⟩ := R.2.1.2.2.2.2 g hg'
  obtain ⟨e, e15, e0, ee, ew, ec, tw, h6, tok, sets⟩ := R.gate hg'
  have md : mda (I 451) g (vQ (I 451)) (vT (I 451)) (qcW (I 451)) (tyW (I 451)) (tlW (I 451)) (ctW (I 451) g) := R.1.1.mda t0 hg'
  have gE : gc 9 g = 9 + (8 + 7 * g) := rfl
  refine ⟨I, L, am_u I 450 6 0, .inl (some (.int (mErr (I 451) g e (vT (I 451))))), (mErr (I 451) g e (vT (I 451))), am_ofE rfl rfl rfl (Nat.le_of_ble_eq_true rfl) ?_, am_ofE rfl rfl rfl (Nat.le_of_ble_eq_true rfl) ?_, R.thr 0, Or.inl ⟨rfl, by rw [am_u_at, if_pos ⟨rfl, rfl⟩]⟩⟩
  · refine bX8_errors_0 (by assumption) (Nat.zero_le _) (Nat.zero_le _) (eX8_requireGate_t (mc := 0) (ms := 0) hF n2 (by assumption) (by omega)) ?_
    refine bX8_errors_5 (by assumption) (by first | assumption | (rw [nn_nat (by omega)]; exact hg1)) (by assumption) (Nat.zero_le _) (Nat.zero_le _) (eX5_errorsNow st (by omega) e15 e0 ec n1 t8) ?_
    refine bX8_errors_13 ?_
    exact am_R_e (R.err hg' ee h6) rfl rfl
  · refine bX9_errors_0 (by assumption) (Nat.zero_le _) (Nat.zero_le _) (eX9_noGate_t hm w2 (by assumption) (by omega)) ?_
    refine bX9_errors_6 (by assumption) (Nat.zero_le _) (Nat.zero_le _) (eX9_fails0 hm) ?_
    refine bX9_errors_11 (fun _ => ?_) (fun h => absurd (by decide) h)
    refine bX9_errors_18 (by assumption) (Nat.zero_le _) (Nat.zero_le _) (eX9_errorsOf hm (by omega) (by rw [hJ]; exact md) (by rw [hJ]; exact tw)) ?_
    refine bX9_errors_23 ?_
    exact am_R_e (by rw [hJ]) rfl rfl

theorem fX_work (hF : wF Γ) (R : REL I L) (p0 : Int32) : gX Γ I L m_X8_work m_X9_work [.int p0] ["java/lang/IndexOutOfBoundsException"] := by
  obtain ⟨⟨o, f0, f1, f2, f3, f4, f5, f6, f7⟩, so, st, dr, ⟨ro, rr0, rr5, rr6, ra⟩, hi, sv, ⟨oo, or0, or2, oa, oa2⟩, hm, am, am2⟩ := id hF
  obtain ⟨ob, s4, s5, s6, s7, s8, s9, s10, b1, b2, b3, b4, b5, b6, o7, hg⟩ := id st
  obtain ⟨mo, r0, r1, r2, r3, r4, r7, r8, r13, r14, r15, r16, r17, a1, a2, a3, a4, a5, a6, a7, a8, a9, a10, a11, a12⟩ := id hm
  obtain ⟨⟨n0, n1, n2, n3⟩, ⟨w0, w1, w2⟩, q6, t8, g4, q0, t0, g0⟩ := R.nums
  have hJ : ∀ v : Int32, am_u I 450 6 v 451 = I 451 := fun v => am_u_ne (by decide)
  by_cases c0 : ∃ g, g < vG (I 451) ∧ p0 = nn g
  case neg =>
    refine ⟨I, L, am_u I 450 6 1, .inr "java/lang/IndexOutOfBoundsException", 0, am_ofE rfl rfl rfl (Nat.le_of_ble_eq_true rfl) ?_, am_ofE rfl rfl rfl (Nat.le_of_ble_eq_true rfl) ?_, R.thr 1, Or.inr ⟨0, _, rfl, rfl, by rw [am_u_at, if_pos ⟨rfl, rfl⟩]; rfl⟩⟩
    · refine bX8_work_0x (by assumption) (by decide) (by decide) (eX8_requireGate_f hF n2 c0 (by omega)) ?_
      exact ⟨rfl, rfl, rfl⟩
    · refine bX9_work_0 (by assumption) (Nat.zero_le _) (Nat.zero_le _) (eX9_noGate_f hm w2 c0 (by omega)) ?_
      refine bX9_work_6 (by assumption) (Nat.zero_le _) (Nat.zero_le _) (eX9_fails1 hm) ?_
      refine bX9_work_11 (fun h => absurd h (by decide)) (fun _ => ?_)
      refine bX9_work_14 ?_
      refine bX9_work_23 ?_
      exact ⟨rfl, rfl, rfl⟩
  obtain ⟨g, hg0, rfl⟩ := c0
  have hg' := hg0
  obtain ⟨hg1, hgg⟩ := hg g (by omega)
  obtain ⟨og, gg4, gg5, ga, tr⟩ := id hgg
  obtain ⟨ot, tr1, tr2, tr3, tr4, ta1, ta2, ta3, ta4⟩ := id tr
  obtain ⟨y0, y1, y2, y3, y4, y5, y6⟩ := R.2.1.2.2.2.2 g hg'
  obtain ⟨e, e15, e0, ee, ew, ec, tw, h6, tok, sets⟩ := R.gate hg'
  have md : mda (I 451) g (vQ (I 451)) (vT (I 451)) (qcW (I 451)) (tyW (I 451)) (tlW (I 451)) (ctW (I 451) g) := R.1.1.mda t0 hg'
  have gE : gc 9 g = 9 + (8 + 7 * g) := rfl
  refine ⟨I, L, am_u I 450 6 0, .inl (some (.int (mWrk (I 451) g (vT (I 451)) e))), (mWrk (I 451) g (vT (I 451)) e), am_ofE rfl rfl rfl (Nat.le_of_ble_eq_true rfl) ?_, am_ofE rfl rfl rfl (Nat.le_of_ble_eq_true rfl) ?_, R.thr 0, Or.inl ⟨rfl, by rw [am_u_at, if_pos ⟨rfl, rfl⟩]⟩⟩
  · refine bX8_work_0 (by assumption) (Nat.zero_le _) (Nat.zero_le _) (eX8_requireGate_t (mc := 0) (ms := 0) hF n2 (by assumption) (by omega)) ?_
    refine bX8_work_5 (by assumption) (by first | assumption | (rw [nn_nat (by omega)]; exact hg1)) (by assumption) (Nat.zero_le _) (Nat.zero_le _) (eX5_workNow st (by omega) e15 ec tok) ?_
    refine bX8_work_13 ?_
    exact am_R_e (R.wrk hg' ee h6) rfl rfl
  · refine bX9_work_0 (by assumption) (Nat.zero_le _) (Nat.zero_le _) (eX9_noGate_t hm w2 (by assumption) (by omega)) ?_
    refine bX9_work_6 (by assumption) (Nat.zero_le _) (Nat.zero_le _) (eX9_fails0 hm) ?_
    refine bX9_work_11 (fun _ => ?_) (fun h => absurd (by decide) h)
    refine bX9_work_18 (by assumption) (Nat.zero_le _) (Nat.zero_le _) (eX9_workOf hm (by omega) (by rw [hJ]; exact md) (by rw [hJ]; exact tw)) ?_
    refine bX9_work_23 ?_
    exact am_R_e (by rw [hJ]) rfl rfl

end F2