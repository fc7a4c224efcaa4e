/-! CLASS AND MODEL SIDE BY SIDE: names, hours, best trees -/
theorem dig_lt {d : Nat → Nat} : ∀ n, (∀ i, i < n → d i < 256) → nsum (fun i => d i * 256 ^ i) n < 256 ^ n
  | 0, _ => by show 0 < 256 ^ 0; decide
  | n + 1, h => by
    have := dig_lt n (fun i hi => h i (by omega))
    have h2 := h n (by omega)
    show nsum _ n + d n * 256 ^ n < 256 ^ (n + 1)
    have h3 : d n * 256 ^ n ≤ 255 * 256 ^ n := Nat.mul_le_mul_right _ (by omega)
    rw [Nat.pow_succ]
    omega
theorem dig_at {d : Nat → Nat} {k : Nat} : ∀ n, (∀ i, i < n → d i < 256) → nsum (fun i => d i * 256 ^ i) n / 256 ^ k % 256 = if k < n then d k else 0
  | 0, _ => by
    show 0 / 256 ^ k % 256 = _
    rw [Nat.zero_div]
    rfl
  | n + 1, h => by
    have ih := dig_at (k := k) n (fun i hi => h i (by omega))
    have hl := dig_lt n (fun i hi => h i (by omega))
    have h2 := h n (by omega)
    show (nsum _ n + d n * 256 ^ n) / 256 ^ k % 256 = _
    by_cases hk : k < n
    · rw [if_pos (by omega)]
      rw [if_pos hk] at ih
      have e : d n * 256 ^ n = d n * 256 ^ (n - k - 1) * 256 * 256 ^ k := by
        rw [Nat.mul_assoc, Nat.mul_assoc, ← Nat.pow_succ', ← Nat.pow_add]
        congr 2
        omega
      rw [e, Nat.add_mul_div_right _ _ (Nat.pow_pos (by decide)), Nat.add_mul_mod_self_right]
      exact ih
    · by_cases he : k = n
      · subst he
        rw [if_pos (by omega), Nat.add_mul_div_right _ _ (Nat.pow_pos (by decide)), Nat.div_eq_of_lt hl, Nat.zero_add]
        exact Nat.mod_eq_of_lt h2
      · rw [if_neg (by omega)]
        have h3 := dig_lt (n + 1) h
        have h4 : 256 ^ (n + 1) ≤ 256 ^ k := Nat.pow_le_pow_right (by decide) (by omega)
        show nsum (fun i => d i * 256 ^ i) (n + 1) / 256 ^ k % 256 = 0
        rw [Nat.div_eq_of_lt (Nat.lt_of_lt_of_le h3 h4)]
theorem pnm_lt {w : Nat → Int32} {a : Nat} (h : nmO w a) : nsum (fun i => ltW w a i * 256 ^ i) (lnW w a) < 281474976710656 := by
  have h1 := dig_lt (d := ltW w a) (lnW w a) (fun i hi => by have := (h.2.2.2 i hi).2.2; omega)
  have h2 : 256 ^ lnW w a ≤ 256 ^ 6 := Nat.pow_le_pow_right (by decide) h.2.2.1
  omega
section F3
variable {d mc ms : Nat} {Γ : am_G} {I : am_I} {L : am_L} {m : Nat}
theorem eX8_byteOfName_t {w : Nat → Int32} {a i : Nat} (h : nmO w a) (hi : i < lnW w a) : am_E m_X8_byteOfName d mc ms [.long (pnm w a), .int (nn i)] Γ I L (.inl (some (.int (w (a + 1 + i))))) I L := by
  obtain ⟨h1, h2, h3, h4⟩ := id h
  obtain ⟨e1, e2, e3⟩ := h4 i hi
  have hp := pnm_lt h
  have ed : ((ll (nsum (fun i => ltW w a i * 256 ^ i) (lnW w a)) >>> ((8 * nn i).toInt64 &&& 63) : Int64).toInt32 &&& 255) = nn (ltW w a i) := by
    rw [nl_8, nn_mul, ll_shr (by omega) (by omega), ll_to, nl_255, nn_and, Nat.and_two_pow_sub_one_eq_mod _ 8, Nat.pow_mul]
    congr 1
    have := dig_at (d := ltW w a) (k := i) (lnW w a) (fun i hi => by have := (h4 i hi).2.2; omega)
    rw [if_pos hi] at this
    exact this
  refine am_ofE rfl rfl rfl (Nat.le_of_ble_eq_true rfl) ?_
  refine bX8_byteOfName_0 (fun z => absurd z (nn_neg_lt (by omega))) (fun _ => ?_)
  refine bX8_byteOfName_4 (fun _ => ?_) (fun z => absurd ((nn_lt (by omega) (by omega)).mpr (by omega : i < 6)) z)
  unfold pnm
  refine bX8_byteOfName_12 (fun _ => ?_) (fun z => absurd z (by rw [ed, nl_0, nn_eq (by omega) (by decide)]; omega))
  rw [ed]
  refine bX8_byteOfName_32 ?_
  refine bX8_byteOfName_33 ?_
  exact am_R_e e1.symm rfl rfl
theorem eX8_byteOfName_f {w : Nat → Int32} {a : Nat} {p : Int32} (h : nmO w a) (hi : ¬ ∃ i, i < lnW w a ∧ p = nn i) : am_E m_X8_byteOfName d mc ms [.long (pnm w a), .int p] Γ I L (.inl (some (.int (-1)))) I L := by
  obtain ⟨h1, h2, h3, h4⟩ := id h
  have hp := pnm_lt h
  refine am_ofE rfl rfl rfl (Nat.le_of_ble_eq_true rfl) ?_
  refine bX8_byteOfName_0 (fun _ => ?_) (fun z => ?_)
  · refine bX8_byteOfName_10 ?_
    exact ⟨rfl, rfl, rfl⟩
  · refine bX8_byteOfName_4 (fun z2 => ?_) (fun _ => ?_)
    · have h0 : 0 ≤ p := Int32.not_lt.mp z
      have e : p = nn p.toNatClampNeg := (Int32.ofNat_toNatClampNeg p h0).symm
      have hv := Int32.toNatClampNeg_lt p
      generalize p.toNatClampNeg = k at e hv
      subst e
      rw [nl_6, nn_lt (by omega) (by omega)] at z2
      have ed : ((ll (nsum (fun i => ltW w a i * 256 ^ i) (lnW w a)) >>> ((8 * nn k).toInt64 &&& 63) : Int64).toInt32 &&& 255) = 0 := by
        rw [nl_8, nn_mul, ll_shr (by omega) (by omega), ll_to, nl_255, nn_and, Nat.and_two_pow_sub_one_eq_mod _ 8, Nat.pow_mul, nl_0]
        congr 1
        have := dig_at (d := ltW w a) (k := k) (lnW w a) (fun i hi => by have := (h4 i hi).2.2; omega)
        rw [if_neg (fun z => hi ⟨k, z, rfl⟩)] at this
        exact this
      unfold pnm
      refine bX8_byteOfName_12 (fun z3 => absurd ed z3) (fun _ => ?_)
      refine bX8_byteOfName_28 ?_
      refine bX8_byteOfName_33 ?_
      exact ⟨rfl, rfl, rfl⟩
    · refine bX8_byteOfName_10 ?_
      exact ⟨rfl, rfl, rfl⟩
theorem eX9_nameByte_t (hm : mdF Γ m) {a i : Nat} (ha : a + 7 < 508) (h : nmO (I (m + 1)) a) (hi : i < lnW (I (m + 1)) a) : am_E m_X9_nameByte (d + 1) 0 0 [.ref m, .int (nn a), .int (nn i)] Γ I L (.inl (some (.int (I (m + 1) (a + 1 + i))))) I L := by
  obtain ⟨mo, r0, r1, r2, r3, r4, r7, r8, r13, r14, r15, r16, r17, a1, -⟩ := hm
  obtain ⟨h1, h2, h3, h4⟩ := id h
  refine am_ofE rfl rfl rfl (Nat.le_of_ble_eq_true rfl) ?_
  refine bX9_nameByte_0 mo r0 a1 (nn_in (by omega) (by omega)) (Nat.zero_le _) (Nat.zero_le _) (eX9_isIn _ _ _) ?_
  rw [nn_nat (by omega), h1, inR_t hi (by omega)]
  refine bX9_nameByte_13 (fun z => absurd z (by decide)) (fun _ => ?_)
  have e : nn a + 1 + nn i = nn (a + 1 + i) := by rw [nn_s1, nn_add]
  refine bX9_nameByte_16 mo r0 a1 (by rw [e]; exact nn_in (by omega) (by omega)) ?_
  refine bX9_nameByte_30 ?_
  exact am_R_e (by rw [e, nn_nat (by omega)]) rfl rfl
theorem eX9_nameByte_f (hm : mdF Γ m) {a : Nat} {p : Int32} (ha : a + 7 < 508) (h : nmO (I (m + 1)) a) (hi : ¬ ∃ i, i < lnW (I (m + 1)) a ∧ p = nn i) : am_E m_X9_nameByte (d + 1) 0 0 [.ref m, .int (nn a), .int p] Γ I L (.inl (some (.int (-1)))) I L := by
  obtain ⟨mo, r0, r1, r2, r3, r4, r7, r8, r13, r14, r15, r16, r17, a1, -⟩ := hm
  obtain ⟨h1, h2, h3, h4⟩ := id h
  refine am_ofE rfl rfl rfl (Nat.le_of_ble_eq_true rfl) ?_
  refine bX9_nameByte_0 mo r0 a1 (nn_in (by omega) (by omega)) (Nat.zero_le _) (Nat.zero_le _) (eX9_isIn _ _ _) ?_
  rw [nn_nat (by omega), h1, inR_f (by omega) hi]
  refine bX9_nameByte_13 (fun _ => ?_) (fun z => absurd (by decide) z)
  refine bX9_nameByte_29 ?_
  refine bX9_nameByte_30 ?_
  exact ⟨rfl, rfl, rfl⟩

theorem fX_questionNameByte (hF : wF Γ) (R : REL I L) (p0 p1 : Int32) : gX Γ I L m_X8_questionNameByte m_X9_questionNameByte [.int p0, .int p1] ["java/lang/IndexOutOfBoundsException"] := by
  obtain ⟨⟨o, f0, f1, f2, f3, f4, f5, f6, f7⟩, so, st, dr, ⟨ro, rr0, rr5, rr6, ra⟩, hi, sv, ⟨oo, or0, or2, oa, oa2⟩, hm, am, am2⟩ := id hF
  obtain ⟨ob, s4, s5, s6, s7, s8, s9, s10, b1, b2, b3, b4, b5, b6, o7, hg⟩ := id st
  obtain ⟨mo, r0, r1, r2, r3, r4, r7, r8, r13, r14, r15, r16, r17, a1, a2, a3, a4, a5, a6, a7, a8, a9, a10, a11, a12⟩ := id hm
  obtain ⟨⟨n0, n1, n2, n3⟩, ⟨w0, w1, w2⟩, q6, t8, g4, q0, t0, g0⟩ := R.nums
  have hJ : ∀ v : Int32, am_u I 450 6 v 451 = I 451 := fun v => am_u_ne (by decide)
  by_cases c0 : ∃ g, g < vQ (I 451) ∧ p0 = nn g
  case neg =>
    refine ⟨I, L, am_u I 450 6 1, .inr "java/lang/IndexOutOfBoundsException", 0, am_ofE rfl rfl rfl (Nat.le_of_ble_eq_true rfl) ?_, am_ofE rfl rfl rfl (Nat.le_of_ble_eq_true rfl) ?_, R.thr 1, Or.inr ⟨0, _, rfl, rfl, by rw [am_u_at, if_pos ⟨rfl, rfl⟩]; rfl⟩⟩
    · refine bX8_questionNameByte_0x (by assumption) (by decide) (by decide) (eX8_requireQuestion_f hF n0 c0 (by omega)) ?_
      exact ⟨rfl, rfl, rfl⟩
    · refine bX9_questionNameByte_0 (by assumption) (Nat.zero_le _) (Nat.zero_le _) (eX9_noQuestion_f hm w0 c0 (by omega)) ?_
      refine bX9_questionNameByte_6 (by assumption) (Nat.zero_le _) (Nat.zero_le _) (eX9_fails1 hm) ?_
      refine bX9_questionNameByte_11 (fun h => absurd h (by decide)) (fun _ => ?_)
      refine bX9_questionNameByte_14 ?_
      refine bX9_questionNameByte_32 ?_
      exact ⟨rfl, rfl, rfl⟩
  obtain ⟨q, hq, rfl⟩ := c0
  have nb : nmO (I 451) (12 + q * 8 + 1) := (R.1.1.2.2.2.2.1 q hq).2.2.2
  have ei : 12 + nn q * 8 + 1 = nn (12 + q * 8 + 1) := by simp (disch := omega) only [nl_1, nl_2, nl_3, nl_8, nl_9, nl_12, nl_60, nl_94, nl_132, nn_add, nn_mul]
  by_cases c1 : ∃ i, i < lnW (I 451) (12 + q * 8 + 1) ∧ p1 = nn i
  case pos =>
    obtain ⟨i, hi2, rfl⟩ := c1
    refine ⟨I, L, am_u I 450 6 0, .inl (some (.int (I 451 (12 + q * 8 + 1 + 1 + i)))), (I 451 (12 + q * 8 + 1 + 1 + i)), am_ofE rfl rfl rfl (Nat.le_of_ble_eq_true rfl) ?_, am_ofE rfl rfl rfl (Nat.le_of_ble_eq_true rfl) ?_, R.thr 0, Or.inl ⟨rfl, by rw [am_u_at, if_pos ⟨rfl, rfl⟩]⟩⟩
    · refine bX8_questionNameByte_0 (by assumption) (Nat.zero_le _) (Nat.zero_le _) (eX8_requireQuestion_t (mc := 0) (ms := 0) hF n0 (by assumption) (by omega)) ?_
      refine bX8_questionNameByte_5 (by assumption) (by first | assumption | (rw [nn_nat (by omega)]; exact hg1)) (by assumption) (by first | assumption | (rw [nn_nat (by omega)]; exact hg1)) (by assumption) (nn_in (by omega) (by omega)) (Nat.zero_le _) (Nat.zero_le _) (by rw [nn_nat (by omega), (R.2.1.2.1 q hq).1]; exact eX8_byteOfName_t (mc := 0) (ms := 0) nb hi2) ?_
      refine bX8_questionNameByte_18 ?_
      exact ⟨rfl, rfl, rfl⟩
    · refine bX9_questionNameByte_0 (by assumption) (Nat.zero_le _) (Nat.zero_le _) (eX9_noQuestion_t hm w0 (by assumption) (by omega)) ?_
      refine bX9_questionNameByte_6 (by assumption) (Nat.zero_le _) (Nat.zero_le _) (eX9_fails0 hm) ?_
      refine bX9_questionNameByte_11 (fun _ => ?_) (fun h => absurd (by decide) h)
      refine bX9_questionNameByte_18 (by assumption) (Nat.zero_le _) (Nat.zero_le _) (by rw [ei]; exact eX9_nameByte_t hm (by omega) (by rw [hJ]; exact nb) (by rw [hJ]; exact hi2)) ?_
      refine bX9_questionNameByte_32 ?_
      exact am_R_e (by rw [hJ]) rfl rfl
  case neg =>
    refine ⟨I, L, am_u I 450 6 0, .inl (some (.int (-1))), (-1), am_ofE rfl rfl rfl (Nat.le_of_ble_eq_true rfl) ?_, am_ofE rfl rfl rfl (Nat.le_of_ble_eq_true rfl) ?_, R.thr 0, Or.inl ⟨rfl, by rw [am_u_at, if_pos ⟨rfl, rfl⟩]⟩⟩
    · refine bX8_questionNameByte_0 (by assumption) (Nat.zero_le _) (Nat.zero_le _) (eX8_requireQuestion_t (mc := 0) (ms := 0) hF n0 (by assumption) (by omega)) ?_
      refine bX8_questionNameByte_5 (by assumption) (by first | assumption | (rw [nn_nat (by omega)]; exact hg1)) (by assumption) (by first | assumption | (rw [nn_nat (by omega)]; exact hg1)) (by assumption) (nn_in (by omega) (by omega)) (Nat.zero_le _) (Nat.zero_le _) (by rw [nn_nat (by omega), (R.2.1.2.1 q hq).1]; exact eX8_byteOfName_f (mc := 0) (ms := 0) nb c1) ?_
      refine bX8_questionNameByte_18 ?_
      exact ⟨rfl, rfl, rfl⟩
    · refine bX9_questionNameByte_0 (by assumption) (Nat.zero_le _) (Nat.zero_le _) (eX9_noQuestion_t hm w0 (by assumption) (by omega)) ?_
      refine bX9_questionNameByte_6 (by assumption) (Nat.zero_le _) (Nat.zero_le _) (eX9_fails0 hm) ?_
      refine bX9_questionNameByte_11 (fun _ => ?_) (fun h => absurd (by decide) h)
      refine bX9_questionNameByte_18 (by assumption) (Nat.zero_le _) (Nat.zero_le _) (by rw [ei]; exact eX9_nameByte_f hm (by omega) (by rw [hJ]; exact nb) (by rw [hJ]; exact c1)) ?_
      refine bX9_questionNameByte_32 ?_
      exact ⟨rfl, rfl, rfl⟩

theorem fX_typeNameByte (hF : wF Γ) (R : REL I L) (p0 p1 : Int32) : gX Γ I L m_X8_typeNameByte m_X9_typeNameByte [.int p0, .int p1] ["java/lang/IndexOutOfBoundsException"] := by
  obtain ⟨⟨o, f0, f1, f2, f3, f4, f5, f6, f7⟩, so, st, dr, ⟨ro, rr0, rr5, rr6, ra⟩, hi, sv, ⟨oo, or0, or2, oa, oa2⟩, hm, am, am2⟩ := id hF
  obtain ⟨ob, s4, s5, s6, s7, s8, s9, s10, b1, b2, b3, b4, b5, b6, o7, hg⟩ := id st
  obtain ⟨mo, r0, r1, r2, r3, r4, r7, r8, r13, r14, r15, r16, r17, a1, a2, a3, a4, a5, a6, a7, a8, a9, a10, a11, a12⟩ := id hm
  obtain ⟨⟨n0, n1, n2, n3⟩, ⟨w0, w1, w2⟩, q6, t8, g4, q0, t0, g0⟩ := R.nums
  have hJ : ∀ v : Int32, am_u I 450 6 v 451 = I 451 := fun v => am_u_ne (by decide)
  by_cases c0 : ∃ g, g < vT (I 451) ∧ p0 = nn g
  case neg =>
    refine ⟨I, L, am_u I 450 6 1, .inr "java/lang/IndexOutOfBoundsException", 0, am_ofE rfl rfl rfl (Nat.le_of_ble_eq_true rfl) ?_, am_ofE rfl rfl rfl (Nat.le_of_ble_eq_true rfl) ?_, R.thr 1, Or.inr ⟨0, _, rfl, rfl, by rw [am_u_at, if_pos ⟨rfl, rfl⟩]; rfl⟩⟩
    · refine bX8_typeNameByte_0x (by assumption) (by decide) (by decide) (eX8_requireType_f hF n1 c0 (by omega)) ?_
      exact ⟨rfl, rfl, rfl⟩
    · refine bX9_typeNameByte_0 (by assumption) (Nat.zero_le _) (Nat.zero_le _) (eX9_noType_f hm w1 c0 (by omega)) ?_
      refine bX9_typeNameByte_6 (by assumption) (Nat.zero_le _) (Nat.zero_le _) (eX9_fails1 hm) ?_
      refine bX9_typeNameByte_11 (fun h => absurd h (by decide)) (fun _ => ?_)
      refine bX9_typeNameByte_14 ?_
      refine bX9_typeNameByte_32 ?_
      exact ⟨rfl, rfl, rfl⟩
  obtain ⟨t, ht, rfl⟩ := c0
  have nb : nmO (I 451) (60 + t * 9 + 2) := (R.1.1.2.2.2.2.2.1 t ht).2.2.2.2
  have ei : 60 + nn t * 9 + 2 = nn (60 + t * 9 + 2) := by simp (disch := omega) only [nl_1, nl_2, nl_3, nl_8, nl_9, nl_12, nl_60, nl_94, nl_132, nn_add, nn_mul]
  by_cases c1 : ∃ i, i < lnW (I 451) (60 + t * 9 + 2) ∧ p1 = nn i
  case pos =>
    obtain ⟨i, hi2, rfl⟩ := c1
    refine ⟨I, L, am_u I 450 6 0, .inl (some (.int (I 451 (60 + t * 9 + 2 + 1 + i)))), (I 451 (60 + t * 9 + 2 + 1 + i)), am_ofE rfl rfl rfl (Nat.le_of_ble_eq_true rfl) ?_, am_ofE rfl rfl rfl (Nat.le_of_ble_eq_true rfl) ?_, R.thr 0, Or.inl ⟨rfl, by rw [am_u_at, if_pos ⟨rfl, rfl⟩]⟩⟩
    · refine bX8_typeNameByte_0 (by assumption) (Nat.zero_le _) (Nat.zero_le _) (eX8_requireType_t (mc := 0) (ms := 0) hF n1 (by assumption) (by omega)) ?_
      refine bX8_typeNameByte_5 (by assumption) (by first | assumption | (rw [nn_nat (by omega)]; exact hg1)) (by assumption) (by first | assumption | (rw [nn_nat (by omega)]; exact hg1)) (by assumption) (nn_in (by omega) (by omega)) (Nat.zero_le _) (Nat.zero_le _) (by rw [nn_nat (by omega), (R.2.1.2.2.1 t ht).1]; exact eX8_byteOfName_t (mc := 0) (ms := 0) nb hi2) ?_
      refine bX8_typeNameByte_18 ?_
      exact ⟨rfl, rfl, rfl⟩
    · refine bX9_typeNameByte_0 (by assumption) (Nat.zero_le _) (Nat.zero_le _) (eX9_noType_t hm w1 (by assumption) (by omega)) ?_
      refine bX9_typeNameByte_6 (by assumption) (Nat.zero_le _) (Nat.zero_le _) (eX9_fails0 hm) ?_
      refine bX9_typeNameByte_11 (fun _ => ?_) (fun h => absurd (by decide) h)
      refine bX9_typeNameByte_18 (by assumption) (Nat.zero_le _) (Nat.zero_le _) (by rw [ei]; exact eX9_nameByte_t hm (by omega) (by rw [hJ]; exact nb) (by rw [hJ]; exact hi2)) ?_
      refine bX9_typeNameByte_32 ?_
      exact am_R_e (by rw [hJ]) rfl rfl
  case neg =>
    refine ⟨I, L, am_u I 450 6 0, .inl (some (.int (-1))), (-1), am_ofE rfl rfl rfl (Nat.le_of_ble_eq_true rfl) ?_, am_ofE rfl rfl rfl (Nat.le_of_ble_eq_true rfl) ?_, R.thr 0, Or.inl ⟨rfl, by rw [am_u_at, if_pos ⟨rfl, rfl⟩]⟩⟩
    · refine bX8_typeNameByte_0 (by assumption) (Nat.zero_le _) (Nat.zero_le _) (eX8_requireType_t (mc := 0) (ms := 0) hF n1 (by assumption) (by omega)) ?_
      refine bX8_typeNameByte_5 (by assumption) (by first | assumption | (rw [nn_nat (by omega)]; exact hg1)) (by assumption) (by first | assumption | (rw [nn_nat (by omega)]; exact hg1)) (by assumption) (nn_in (by omega) (by omega)) (Nat.zero_le _) (Nat.zero_le _) (by rw [nn_nat (by omega), (R.2.1.2.2.1 t ht).1]; exact eX8_byteOfName_f (mc := 0) (ms := 0) nb c1) ?_
      refine bX8_typeNameByte_18 ?_
      exact ⟨rfl, rfl, rfl⟩
    · refine bX9_typeNameByte_0 (by assumption) (Nat.zero_le _) (Nat.zero_le _) (eX9_noType_t hm w1 (by assumption) (by omega)) ?_
      refine bX9_typeNameByte_6 (by assumption) (Nat.zero_le _) (Nat.zero_le _) (eX9_fails0 hm) ?_
      refine bX9_typeNameByte_11 (fun _ => ?_) (fun h => absurd (by decide) h)
      refine bX9_typeNameByte_18 (by assumption) (Nat.zero_le _) (Nat.zero_le _) (by rw [ei]; exact eX9_nameByte_f hm (by omega) (by rw [hJ]; exact nb) (by rw [hJ]; exact c1)) ?_
      refine bX9_typeNameByte_32 ?_
      exact ⟨rfl, rfl, rfl⟩

theorem fX_gateNameByte (hF : wF Γ) (R : REL I L) (p0 p1 : Int32) : gX Γ I L m_X8_gateNameByte m_X9_gateNameByte [.int p0, .int p1] ["java/lang/IndexOutOfBoundsException"] := by
  obtain ⟨⟨o, f0, f1, f2, f3, f4, f5, f6, f7⟩, so, st, dr, ⟨ro, rr0, rr5, rr6, ra⟩, hi, sv, ⟨oo, or0, or2, oa, oa2⟩, hm, am, am2⟩ := id hF
  obtain ⟨ob, s4, s5, s6, s7, s8, s9, s10, b1, b2, b3, b4, b5, b6, o7, hg⟩ := id st
  obtain ⟨mo, r0, r1, r2, r3, r4, r7, r8, r13, r14, r15, r16, r17, a1, a2, a3, a4, a5, a6, a7, a8, a9, a10, a11, a12⟩ := id hm
  obtain ⟨⟨n0, n1, n2, n3⟩, ⟨w0, w1, w2⟩, q6, t8, g4, q0, t0, g0⟩ := R.nums
  have hJ : ∀ v : Int32, am_u I 450 6 v 451 = I 451 := fun v => am_u_ne (by decide)
  by_cases c0 : ∃ g, g < vG (I 451) ∧ p0 = nn g
  case neg =>
    refine ⟨I, L, am_u I 450 6 1, .inr "java/lang/IndexOutOfBoundsException", 0, am_ofE rfl rfl rfl (Nat.le_of_ble_eq_true rfl) ?_, am_ofE rfl rfl rfl (Nat.le_of_ble_eq_true rfl) ?_, R.thr 1, Or.inr ⟨0, _, rfl, rfl, by rw [am_u_at, if_pos ⟨rfl, rfl⟩]; rfl⟩⟩
    · refine bX8_gateNameByte_0x (by assumption) (by decide) (by decide) (eX8_requireGate_f hF n2 c0 (by omega)) ?_
      exact ⟨rfl, rfl, rfl⟩
    · refine bX9_gateNameByte_0 (by assumption) (Nat.zero_le _) (Nat.zero_le _) (eX9_noGate_f hm w2 c0 (by omega)) ?_
      refine bX9_gateNameByte_6 (by assumption) (Nat.zero_le _) (Nat.zero_le _) (eX9_fails1 hm) ?_
      refine bX9_gateNameByte_11 (fun h => absurd h (by decide)) (fun _ => ?_)
      refine bX9_gateNameByte_14 ?_
      refine bX9_gateNameByte_33 ?_
      exact ⟨rfl, rfl, rfl⟩
  obtain ⟨g, hg0, rfl⟩ := c0
  have hg' := hg0
  obtain ⟨hg1, hgg⟩ := hg g (by omega)
  obtain ⟨og, gg4, gg5, ga, tr⟩ := id hgg
  obtain ⟨ot, tr1, tr2, tr3, tr4, ta1, ta2, ta3, ta4⟩ := id tr
  obtain ⟨y0, y1, y2, y3, y4, y5, y6⟩ := R.2.1.2.2.2.2 g hg'
  obtain ⟨e, e15, e0, ee, ew, ec, tw, h6, tok, sets⟩ := R.gate hg'
  have md : mda (I 451) g (vQ (I 451)) (vT (I 451)) (qcW (I 451)) (tyW (I 451)) (tlW (I 451)) (ctW (I 451) g) := R.1.1.mda t0 hg'
  have gE : gc 9 g = 9 + (8 + 7 * g) := rfl
  have nb : nmO (I 451) (132 + g * 94 + 3) := (R.1.1.2.2.2.2.2.2 g hg0).2.2.2.1
  have ei : 132 + nn g * 94 + 3 = nn (132 + g * 94 + 3) := by simp (disch := omega) only [nl_1, nl_2, nl_3, nl_8, nl_9, nl_12, nl_60, nl_94, nl_132, nn_add, nn_mul]
  by_cases c1 : ∃ i, i < lnW (I 451) (132 + g * 94 + 3) ∧ p1 = nn i
  case pos =>
    obtain ⟨i, hi2, rfl⟩ := c1
    refine ⟨I, L, am_u I 450 6 0, .inl (some (.int (I 451 (132 + g * 94 + 3 + 1 + i)))), (I 451 (132 + g * 94 + 3 + 1 + i)), am_ofE rfl rfl rfl (Nat.le_of_ble_eq_true rfl) ?_, am_ofE rfl rfl rfl (Nat.le_of_ble_eq_true rfl) ?_, R.thr 0, Or.inl ⟨rfl, by rw [am_u_at, if_pos ⟨rfl, rfl⟩]⟩⟩
    · refine bX8_gateNameByte_0 (by assumption) (Nat.zero_le _) (Nat.zero_le _) (eX8_requireGate_t (mc := 0) (ms := 0) hF n2 (by assumption) (by omega)) ?_
      refine bX8_gateNameByte_5 (by assumption) (by first | assumption | (rw [nn_nat (by omega)]; exact hg1)) (by assumption) (by first | assumption | (rw [nn_nat (by omega)]; exact hg1)) (by assumption) (nn_in (by omega) (by omega)) (by first | assumption | (rw [nn_nat (by omega)]; exact hg1)) (by assumption) (Nat.zero_le _) (Nat.zero_le _) (by rw [y0]; exact eX8_byteOfName_t (mc := 0) (ms := 0) nb hi2) ?_
      refine bX8_gateNameByte_21 ?_
      exact ⟨rfl, rfl, rfl⟩
    · refine bX9_gateNameByte_0 (by assumption) (Nat.zero_le _) (Nat.zero_le _) (eX9_noGate_t hm w2 (by assumption) (by omega)) ?_
      refine bX9_gateNameByte_6 (by assumption) (Nat.zero_le _) (Nat.zero_le _) (eX9_fails0 hm) ?_
      refine bX9_gateNameByte_11 (fun _ => ?_) (fun h => absurd (by decide) h)
      refine bX9_gateNameByte_18 (by assumption) (Nat.zero_le _) (Nat.zero_le _) (by rw [ei]; exact eX9_nameByte_t hm (by omega) (by rw [hJ]; exact nb) (by rw [hJ]; exact hi2)) ?_
      refine bX9_gateNameByte_33 ?_
      exact am_R_e (by rw [hJ]) rfl rfl
  case neg =>
    refine ⟨I, L, am_u I 450 6 0, .inl (some (.int (-1))), (-1), am_ofE rfl rfl rfl (Nat.le_of_ble_eq_true rfl) ?_, am_ofE rfl rfl rfl (Nat.le_of_ble_eq_true rfl) ?_, R.thr 0, Or.inl ⟨rfl, by rw [am_u_at, if_pos ⟨rfl, rfl⟩]⟩⟩
    · refine bX8_gateNameByte_0 (by assumption) (Nat.zero_le _) (Nat.zero_le _) (eX8_requireGate_t (mc := 0) (ms := 0) hF n2 (by assumption) (by omega)) ?_
      refine bX8_gateNameByte_5 (by assumption) (by first | assumption | (rw [nn_nat (by omega)]; exact hg1)) (by assumption) (by first | assumption | (rw [nn_nat (by omega)]; exact hg1)) (by assumption) (nn_in (by omega) (by omega)) (by first | assumption | (rw [nn_nat (by omega)]; exact hg1)) (by assumption) (Nat.zero_le _) (Nat.zero_le _) (by rw [y0]; exact eX8_byteOfName_f (mc := 0) (ms := 0) nb c1) ?_
      refine bX8_gateNameByte_21 ?_
      exact ⟨rfl, rfl, rfl⟩
    · refine bX9_gateNameByte_0 (by assumption) (Nat.zero_le _) (Nat.zero_le _) (eX9_noGate_t hm w2 (by assumption) (by omega)) ?_
      refine bX9_gateNameByte_6 (by assumption) (Nat.zero_le _) (Nat.zero_le _) (eX9_fails0 hm) ?_
      refine bX9_gateNameByte_11 (fun _ => ?_) (fun h => absurd (by decide) h)
      refine bX9_gateNameByte_18 (by assumption) (Nat.zero_le _) (Nat.zero_le _) (by rw [ei]; exact eX9_nameByte_f hm (by omega) (by rw [hJ]; exact nb) (by rw [hJ]; exact c1)) ?_
      refine bX9_gateNameByte_33 ?_
      exact ⟨rfl, rfl, rfl⟩

theorem opn {a b h : Nat} (ha : a < 100) (hb : b < 100) (hh : h < 100) : opens (nn a) (nn b) (nn h) = if b < a then decide (a ≤ h) || decide (h ≤ b) else decide (a ≤ h) && decide (h ≤ b) := by
  unfold opens
  simp only [nn_lt (show b < 2147483648 by omega) (show a < 2147483648 by omega), nn_le (show a < 2147483648 by omega) (show h < 2147483648 by omega), nn_le (show h < 2147483648 by omega) (show b < 2147483648 by omega)]
def hou (a b h : Nat) : Nat := if (if b < a then decide (a ≤ h) || decide (h ≤ b) else decide (a ≤ h) && decide (h ≤ b)) = true then 0 else (a + 24 - h) % 24
theorem hou_sp {a b c : Nat} (ha : a ≤ 23) (hb : b ≤ 23) : hou a b (c % 24) < 24 ∧ (if b < a then decide (a ≤ (c + hou a b (c % 24)) % 24) || decide ((c + hou a b (c % 24)) % 24 ≤ b) else decide (a ≤ (c + hou a b (c % 24)) % 24) && decide ((c + hou a b (c % 24)) % 24 ≤ b)) = true ∧
    ∀ j, j < hou a b (c % 24) → (if b < a then decide (a ≤ (c + j) % 24) || decide ((c + j) % 24 ≤ b) else decide (a ≤ (c + j) % 24) && decide ((c + j) % 24 ≤ b)) = false := by
  unfold hou
  by_cases hab : b < a
  · simp only [hab, if_true, Bool.or_eq_true, decide_eq_true_eq, Bool.or_eq_false_iff, decide_eq_false_iff_not]
    by_cases ho : a ≤ c % 24 ∨ c % 24 ≤ b
    · rw [if_pos ho]
      exact ⟨by decide, by rw [Nat.add_zero]; exact ho, fun j hj => absurd hj (Nat.not_lt_zero _)⟩
    · rw [if_neg ho]
      exact ⟨by omega, by omega, fun j hj => by omega⟩
  · simp only [hab, if_false, Bool.and_eq_true, decide_eq_true_eq, Bool.and_eq_false_iff, decide_eq_false_iff_not]
    by_cases ho : a ≤ c % 24 ∧ c % 24 ≤ b
    · rw [if_pos ho]
      exact ⟨by decide, by rw [Nat.add_zero]; exact ho, fun j hj => absurd hj (Nat.not_lt_zero _)⟩
    · rw [if_neg ho]
      exact ⟨by omega, by omega, fun j hj => by omega⟩
theorem eX9_hoursUntilOpen_t (hm : mdF Γ m) {g a b c : Nat} (hg : g < 4) (hin : am_E m_X9_noGate (d + 2) 0 0 [.ref m, .int (nn g)] Γ I L (.inl (some (.int 0))) I L) (ha : I (m + 1) (132 + g * 94 + 0) = nn a) (hb : I (m + 1) (132 + g * 94 + 1) = nn b) (hc : I (m + 1) 3 = nn c) (a23 : a ≤ 23) (b23 : b ≤ 23) (c9 : c ≤ 9999) : am_E m_X9_hoursUntilOpen (d + 3) 0 0 [.ref m, .int (nn g)] Γ I L (.inl (some (.int (nn (hou a b (c % 24)))))) (am_u I m 6 0) L := by
  have hJ : am_u I m 6 0 (m + 1) = I (m + 1) := am_u_ne (by omega)
  obtain ⟨mo, r0, r1, r2, r3, r4, r7, r8, r13, r14, r15, r16, r17, a1, -⟩ := id hm
  obtain ⟨k1, k2, k3⟩ := hou_sp (c := c) a23 b23
  have ask : ∀ n : Nat, n < 100 → am_E m_X9_opensAt (d + 2) 0 0 [.ref m, .int (nn g), .int ((am_u I m 6 0 (m + 1) (3 : Int32).toNatClampNeg + nn n) - (am_u I m 6 0 (m + 1) (3 : Int32).toNatClampNeg + nn n) / 24 * 24)] Γ (am_u I m 6 0) L (.inl (some (.int (bi (if b < a then decide (a ≤ (c + n) % 24) || decide ((c + n) % 24 ≤ b) else decide (a ≤ (c + n) % 24) && decide ((c + n) % 24 ≤ b)))))) (am_u I m 6 0) L := fun n hn => by
    have e : (am_u I m 6 0 (m + 1) (3 : Int32).toNatClampNeg + nn n) - (am_u I m 6 0 (m + 1) (3 : Int32).toNatClampNeg + nn n) / 24 * 24 = nn ((c + n) % 24) := by
      show (am_u I m 6 0 (m + 1) 3 + nn n) - (am_u I m 6 0 (m + 1) 3 + nn n) / 24 * 24 = _
      rw [hJ, hc, nn_add, nl_24, nn_rem (by omega) (by decide)]
    rw [e]
    exact am_E_e (eX9_opensAt hm hg _) (by rw [hJ, ha, hb, opn (by omega) (by omega) (by omega)]) rfl
  refine am_ofE rfl rfl rfl (Nat.le_of_ble_eq_true rfl) ?_
  refine bX9_hoursUntilOpen_0 mo (Nat.zero_le _) (Nat.zero_le _) hin ?_
  refine bX9_hoursUntilOpen_6 mo (Nat.zero_le _) (Nat.zero_le _) (eX9_fails0 hm) ?_
  refine bX9_hoursUntilOpen_11 (fun _ => ?_) (fun h => absurd (by decide) h)
  refine bX9_hoursUntilOpen_16 ?_
  refine nn_loop (fun n => am_W m_X9_hoursUntilOpen (d + 3) 0 0 false 0 0 18 [(0, .ref m), (1, .int (nn g)), (2, .int (nn n))] [] Γ (am_u I m 6 0) L (am_R (.inl (some (.int (nn (hou a b (c % 24)))))) (am_u I m 6 0) L)) (hou a b (c % 24)) ?_ (fun n hn ih => ?_)
  · refine bX9_hoursUntilOpen_18 mo r0 a1 (nn_in (k := 3) (by decide) (by decide)) (Nat.zero_le _) (Nat.zero_le _) (ask _ (by omega)) ?_
    refine bX9_hoursUntilOpen_34 (fun _ => ?_) (fun h => absurd h (by rw [k2]; decide))
    refine bX9_hoursUntilOpen_43 ?_
    exact ⟨rfl, rfl, rfl⟩
  · refine bX9_hoursUntilOpen_18 mo r0 a1 (nn_in (k := 3) (by decide) (by decide)) (Nat.zero_le _) (Nat.zero_le _) (ask _ (by omega)) ?_
    refine bX9_hoursUntilOpen_34 (fun h => absurd (by rw [k3 n hn]; rfl) h) (fun _ => ?_)
    refine bX9_hoursUntilOpen_37 ?_
    rw [nn_s1]
    exact ih
theorem wait_hou {a b h : Nat} (ha : a ≤ 23) (hb : b ≤ 23) (hh : h ≤ 23) : (if opens (nn a) (nn b) (nn h) = true then (0 : Int32) else (nn a - nn h + 24) - (nn a - nn h + 24) / 24 * 24) = nn (hou a b h) := by
  rw [opn (by omega) (by omega) (by omega)]
  unfold hou
  cases ho : (if b < a then decide (a ≤ h) || decide (h ≤ b) else decide (a ≤ h) && decide (h ≤ b))
  case true => rfl
  case false =>
    rw [if_neg (by decide), if_neg (by decide)]
    have e : nn a - nn h + 24 = nn (a + 24 - h) := by
      have h1 := nn_sub (a := a + 24) (b := h) (by omega)
      rw [← h1, ← nn_add, nl_24, Int32.sub_eq_add_neg, Int32.sub_eq_add_neg, Int32.add_assoc, Int32.add_comm (-nn h), Int32.add_assoc]
    rw [e, nl_24, nn_rem (by omega) (by decide)]

theorem fX_hoursUntilOpen (hF : wF Γ) (R : REL I L) (p0 : Int32) : gX Γ I L m_X8_hoursUntilOpen m_X9_hoursUntilOpen [.int p0] ["java/lang/IndexOutOfBoundsException"] := by
  obtain ⟨⟨o, f0, f1, f2, f3, f4, f5, f6, f7⟩, so, st, dr, ⟨ro, rr0, rr5, rr6, ra⟩, hi, sv, ⟨oo, or0, or2, oa, oa2⟩, hm, am, am2⟩ := id hF
  obtain ⟨ob, s4, s5, s6, s7, s8, s9, s10, b1, b2, b3, b4, b5, b6, o7, hg⟩ := id st
  obtain ⟨mo, r0, r1, r2, r3, r4, r7, r8, r13, r14, r15, r16, r17, a1, a2, a3, a4, a5, a6, a7, a8, a9, a10, a11, a12⟩ := id hm
  obtain ⟨⟨n0, n1, n2, n3⟩, ⟨w0, w1, w2⟩, q6, t8, g4, q0, t0, g0⟩ := R.nums
  have hJ : ∀ v : Int32, am_u I 450 6 v 451 = I 451 := fun v => am_u_ne (by decide)
  by_cases c0 : ∃ g, g < vG (I 451) ∧ p0 = nn g
  case neg =>
    refine ⟨I, L, am_u I 450 6 1, .inr "java/lang/IndexOutOfBoundsException", 0, am_ofE rfl rfl rfl (Nat.le_of_ble_eq_true rfl) ?_, am_ofE rfl rfl rfl (Nat.le_of_ble_eq_true rfl) ?_, R.thr 1, Or.inr ⟨0, _, rfl, rfl, by rw [am_u_at, if_pos ⟨rfl, rfl⟩]; rfl⟩⟩
    · refine bX8_hoursUntilOpen_0x (by assumption) (by decide) (by decide) (eX8_requireGate_f hF n2 c0 (by omega)) ?_
      exact ⟨rfl, rfl, rfl⟩
    · refine bX9_hoursUntilOpen_0 mo (Nat.zero_le _) (Nat.zero_le _) (eX9_noGate_f hm w2 c0 (by omega)) ?_
      refine bX9_hoursUntilOpen_6 mo (Nat.zero_le _) (Nat.zero_le _) (eX9_fails1 hm) ?_
      refine bX9_hoursUntilOpen_11 (fun h => absurd h (by decide)) (fun _ => ?_)
      refine bX9_hoursUntilOpen_14 ?_
      exact ⟨rfl, rfl, rfl⟩
  obtain ⟨g, hg0, rfl⟩ := c0
  have hg' := hg0
  obtain ⟨hg1, hgg⟩ := hg g (by omega)
  obtain ⟨og, gg4, gg5, ga, tr⟩ := id hgg
  obtain ⟨ot, tr1, tr2, tr3, tr4, ta1, ta2, ta3, ta4⟩ := id tr
  obtain ⟨y0, y1, y2, y3, y4, y5, y6⟩ := R.2.1.2.2.2.2 g hg'
  obtain ⟨e, e15, e0, ee, ew, ec, tw, h6, tok, sets⟩ := R.gate hg'
  have md : mda (I 451) g (vQ (I 451)) (vT (I 451)) (qcW (I 451)) (tyW (I 451)) (tlW (I 451)) (ctW (I 451) g) := R.1.1.mda t0 hg'
  have gE : gc 9 g = 9 + (8 + 7 * g) := rfl
  obtain ⟨⟨x1, x2⟩, ⟨x3, x4⟩, -⟩ := R.1.1.2.2.2.2.2.2 g hg0
  obtain ⟨x5, x6⟩ := R.1.1.2.2.2.1
  refine ⟨I, L, am_u I 450 6 0, .inl (some (.int (nn (hou (opW (I 451) g) (clW (I 451) g) (vC (I 451) % 24))))), nn (hou (opW (I 451) g) (clW (I 451) g) (vC (I 451) % 24)), am_ofE rfl rfl rfl (Nat.le_of_ble_eq_true rfl) ?_, eX9_hoursUntilOpen_t hm (by omega) (eX9_noGate_t hm w2 hg0 (by omega)) x1 x3 x5 x2 x4 x6, R.thr 0, Or.inl ⟨rfl, by rw [am_u_at, if_pos ⟨rfl, rfl⟩]⟩⟩
  refine bX8_hoursUntilOpen_0 (by assumption) (Nat.zero_le _) (Nat.zero_le _) (eX8_requireGate_t (mc := 0) (ms := 0) hF n2 hg0 (by omega)) ?_
  refine bX8_hoursUntilOpen_5 (by assumption) (by first | assumption | (rw [nn_nat (by omega)]; exact hg1)) (by assumption) (by first | assumption | (rw [nn_nat (by omega)]; exact hg1)) (by assumption) (nn_in (by omega) (by omega)) (by first | assumption | (rw [nn_nat (by omega)]; exact hg1)) (Nat.zero_le _) (Nat.zero_le _) (eX5_hourOfDay st) ?_
  refine bX8_hoursUntilOpen_21 (by assumption) (Nat.zero_le _) (Nat.zero_le _) (eX0_waitFrom hgg _) ?_
  refine bX8_hoursUntilOpen_24 ?_
  exact am_R_e (by rw [n3, x5, nl_24, nn_rem (by omega) (by decide), y1, y2, x1, x3]; exact wait_hou x2 x4 (by omega)) rfl rfl

end F3