/-! CLASS AND MODEL SIDE BY SIDE: the text's cells, the output's cells -/
theorem i32_nn (x : Int32) : x = nn x.toBitVec.toNat := by
  refine Int32.toBitVec_inj.mp ?_
  show x.toBitVec = BitVec.ofNat 32 x.toBitVec.toNat
  rw [BitVec.ofNat_toNat, BitVec.setWidth_eq]
theorem by_m (x : Int32) : ∃ c, c < 256 ∧ x &&& 255 = nn c ∧ x.toInt8 = (nn c).toInt8 := by
  refine ⟨x.toBitVec.toNat &&& 255, Nat.lt_of_le_of_lt Nat.and_le_right (by decide), ?_, ?_⟩
  · show x &&& nn 255 = _
    rw [← nn_and, ← i32_nn]
  · rw [← nn_and, ← i32_nn, Int32.toInt8_and, show (nn 255).toInt8 = -1 from rfl, Int8.and_neg_one]
theorem by_c (x : Int32) : vp_nar .byte (x.toInt8.toInt32) = x.toInt8.toInt32 := by
  rw [vp_nar_byte, Int8.toInt8_toInt32]
/-- the numbers xs written from n on, and counted -/
def wrx (a o f : Nat) : am_I → Nat → List Int32 → am_I
  | I, _, [] => I
  | I, n, x :: xs => wrx a o f (am_u (am_u I a n x) o f (nn (n + 1))) (n + 1) xs
theorem wrx_app (a o f : Nat) : ∀ (xs ys : List Int32) (I : am_I) (n : Nat), wrx a o f I n (xs ++ ys) = wrx a o f (wrx a o f I n xs) (n + xs.length) ys
  | [], _, _, _ => rfl
  | x :: xs, ys, I, n => by
    show wrx a o f _ (n + 1) (xs ++ ys) = _
    rw [wrx_app a o f xs ys, show n + 1 + xs.length = n + (x :: xs).length from by rw [List.length_cons]; omega]
    rfl
theorem wrx_ne (a o f : Nat) : ∀ (xs : List Int32) (I : am_I) (n c : Nat), c ≠ a → c ≠ o → wrx a o f I n xs c = I c
  | [], _, _, _, _, _ => rfl
  | x :: xs, I, n, c, h1, h2 => by
    show wrx a o f _ (n + 1) xs c = _
    rw [wrx_ne a o f xs _ _ c h1 h2, am_u_ne h2, am_u_ne h1]
theorem wrx_o (a o f : Nat) (h : a ≠ o) : ∀ (xs : List Int32) (I : am_I) (n : Nat), I o f = nn n → wrx a o f I n xs o f = nn (n + xs.length) ∧ ∀ j, j ≠ f → wrx a o f I n xs o j = I o j
  | [], _, _, e => ⟨e, fun _ _ => rfl⟩
  | x :: xs, I, n, e => by
    obtain ⟨h1, h2⟩ := wrx_o a o f h xs (am_u (am_u I a n x) o f (nn (n + 1))) (n + 1) (by rw [am_u_at, if_pos ⟨rfl, rfl⟩])
    refine ⟨h1.trans (by rw [List.length_cons]; exact congrArg nn (by omega)), fun j hj => (h2 j hj).trans ?_⟩
    rw [am_u_at, if_neg (fun z => hj z.2), am_u_ne (fun z => h z.symm)]
theorem wrx_a (a o f : Nat) (h : a ≠ o) : ∀ (xs : List Int32) (I : am_I) (n j : Nat), wrx a o f I n xs a j = if n ≤ j ∧ j < n + xs.length then xs.getD (j - n) 0 else I a j
  | [], I, n, j => by
    rw [if_neg (fun z => by have := z.1; have := z.2; simp at *; omega)]
    rfl
  | x :: xs, I, n, j => by
    show wrx a o f _ (n + 1) xs a j = _
    rw [wrx_a a o f h xs, List.length_cons]
    by_cases h1 : n + 1 ≤ j ∧ j < n + 1 + xs.length
    · rw [if_pos h1, if_pos (by omega), show j - n = (j - (n + 1)) + 1 by omega]
      rfl
    · rw [if_neg h1, am_u_ne h, am_u_at]
      by_cases h2 : j = n
      · subst h2
        rw [if_pos ⟨rfl, rfl⟩, if_pos (by omega), Nat.sub_self]
        rfl
      · rw [if_neg (fun z => h2 z.2), if_neg (by omega)]
def w4c (x : Int32) : List Int32 := [(x >>> (24 &&& 31)).toInt8.toInt32, (x >>> (16 &&& 31)).toInt8.toInt32, (x >>> (8 &&& 31)).toInt8.toInt32, (x >>> (0 &&& 31)).toInt8.toInt32]
def w4m (x : Int32) : List Int32 := [(x >>> (24 &&& 31)) &&& 255, (x >>> (16 &&& 31)) &&& 255, (x >>> (8 &&& 31)) &&& 255, (x >>> (0 &&& 31)) &&& 255]
def byR (xs ys : List Int32) : Prop := xs.length = ys.length ∧ ∀ j, j < xs.length → ∃ c, c < 256 ∧ ys.getD j 0 = nn c ∧ xs.getD j 0 = (nn c).toInt8.toInt32
theorem byR_nil : byR [] [] := ⟨rfl, fun j hj => absurd hj (Nat.not_lt_zero j)⟩
theorem byR_cons (x : Int32) {xs ys : List Int32} (h : byR xs ys) : byR (x.toInt8.toInt32 :: xs) ((x &&& 255) :: ys) := by
  refine ⟨by rw [List.length_cons, List.length_cons, h.1], fun j hj => ?_⟩
  cases j with
  | zero =>
    obtain ⟨c, c1, c2, c3⟩ := by_m x
    exact ⟨c, c1, c2, congrArg Int8.toInt32 c3⟩
  | succ k =>
    rw [List.length_cons] at hj
    exact h.2 k (by omega)
theorem byR_4 (x : Int32) {xs ys : List Int32} (h : byR xs ys) : byR (w4c x ++ xs) (w4m x ++ ys) := byR_cons _ (byR_cons _ (byR_cons _ (byR_cons _ h)))
section F12
variable {d mc ms : Nat} {Γ : am_G} {I : am_I} {L : am_L} {m b : Nat}
theorem eX3_putByte (ob : am_ob Γ b 3) (g0 : Γ.2.2 b 0 = some (b + 1)) (ha : am_ar Γ (b + 1) 2 700 0) {n : Nat} (hn : I b 1 = nn n) (h7 : n < 700) (x : Int32) : am_E m_X3_putByte d 0 0 [.ref b, .int x] Γ I L (.inl none) (am_u (am_u I (b + 1) n x.toInt8.toInt32) b 1 (nn (n + 1))) L := by
  refine am_ofE rfl rfl rfl (Nat.le_of_ble_eq_true rfl) ?_
  refine bX3_putByte_0 ob (fun h => absurd h (by rw [hn]; show ¬ nn 700 ≤ nn n; rw [nn_le (by decide) (by omega)]; omega)) (fun _ => ?_)
  refine bX3_putByte_10 ob g0 ha (by rw [hn]; exact nn_in (by omega) h7) ?_
  refine bX3_putByte_31 ?_
  rw [am_u_ne (by omega), hn, nn_s1, nn_nat (by omega), by_c]
  exact ⟨rfl, rfl, rfl⟩
theorem eX3_putInt (ob : am_ob Γ b 3) (g0 : Γ.2.2 b 0 = some (b + 1)) (ha : am_ar Γ (b + 1) 2 700 0) {n : Nat} (hn : I b 1 = nn n) (h7 : n + 4 ≤ 700) (x : Int32) : am_E m_X3_putInt (d + 1) 0 0 [.ref b, .int x] Γ I L (.inl none) (wrx (b + 1) b 1 I n (w4c x)) L := by
  have at1 : ∀ (J : am_I) (k : Nat) (v : Int32), am_u (am_u J (b + 1) k v) b 1 (nn (k + 1)) b 1 = nn (k + 1) := fun J k v => by rw [am_u_at, if_pos ⟨rfl, rfl⟩]
  refine am_ofE rfl rfl rfl (Nat.le_of_ble_eq_true rfl) ?_
  refine bX3_putInt_0 ?_
  refine bX3_putInt_3 (fun h => absurd h (by decide)) (fun _ => ?_)
  refine bX3_putInt_7 ob (Nat.zero_le _) (Nat.zero_le _) (eX3_putByte ob g0 ha hn (by omega) _) ?_
  refine bX3_putInt_14 ?_
  refine bX3_putInt_3 (fun h => absurd h (by decide)) (fun _ => ?_)
  refine bX3_putInt_7 ob (Nat.zero_le _) (Nat.zero_le _) (eX3_putByte ob g0 ha (at1 _ _ _) (by omega) _) ?_
  refine bX3_putInt_14 ?_
  refine bX3_putInt_3 (fun h => absurd h (by decide)) (fun _ => ?_)
  refine bX3_putInt_7 ob (Nat.zero_le _) (Nat.zero_le _) (eX3_putByte ob g0 ha (at1 _ _ _) (by omega) _) ?_
  refine bX3_putInt_14 ?_
  refine bX3_putInt_3 (fun h => absurd h (by decide)) (fun _ => ?_)
  refine bX3_putInt_7 ob (Nat.zero_le _) (Nat.zero_le _) (eX3_putByte ob g0 ha (at1 _ _ _) (by omega) _) ?_
  refine bX3_putInt_14 ?_
  refine bX3_putInt_3 (fun _ => ?_) (fun h => absurd (by decide) h)
  refine bX3_putInt_20 ?_
  exact ⟨rfl, rfl, rfl⟩
theorem eX9_four (hm : mdF Γ m) {n : Nat} (hn : I m 9 = nn n) (h7 : n + 4 ≤ 700) (x : Int32) : am_E m_X9_four d 0 0 [.ref m, .int x] Γ I L (.inl none) (wrx (m + 6) m 9 I n (w4m x)) L := by
  obtain ⟨mo, r0, r1, r2, r3, r4, r7, r8, r13, r14, r15, r16, r17, a1, a2, a3, a4, a5, a6, a7, a8, a9, a10, a11, a12⟩ := id hm
  have step : ∀ (J : am_I) (k : Nat) (v s : Int32), J m 9 = nn k → k < 700 → am_W m_X9_four d 0 0 false 0 0 3 [(0, .ref m), (1, .int x), (2, .int (s + (-8)))] [] Γ (am_u (am_u J (m + 6) k ((x >>> (s &&& 31)) &&& 255)) m 9 (nn (k + 1))) L (am_R (.inl none) (wrx (m + 6) m 9 I n (w4m x)) L) → am_W m_X9_four d 0 0 false 0 0 7 [(0, .ref m), (1, .int x), (2, .int s)] [] Γ J L (am_R (.inl none) (wrx (m + 6) m 9 I n (w4m x)) L) := by
    intro J k v s hk h7 h
    refine bX9_four_7 mo (by assumption) (by assumption) (by rw [hk]; exact nn_in (by omega) h7) ?_
    rw [am_u_ne (show m ≠ m + 6 by omega), hk, nn_s1, nn_nat (by omega)]
    exact h
  have at1 : ∀ (J : am_I) (k : Nat) (v : Int32), am_u (am_u J (m + 6) k v) m 9 (nn (k + 1)) m 9 = nn (k + 1) := fun J k v => by rw [am_u_at, if_pos ⟨rfl, rfl⟩]
  refine am_ofE rfl rfl rfl (Nat.le_of_ble_eq_true rfl) ?_
  refine bX9_four_0 ?_
  refine bX9_four_3 (fun h => absurd h (by decide)) (fun _ => ?_)
  refine step _ n 0 _ hn (by omega) ?_
  refine bX9_four_3 (fun h => absurd h (by decide)) (fun _ => ?_)
  refine step _ (n + 1) 0 _ (at1 _ _ _) (by omega) ?_
  refine bX9_four_3 (fun h => absurd h (by decide)) (fun _ => ?_)
  refine step _ (n + 1 + 1) 0 _ (at1 _ _ _) (by omega) ?_
  refine bX9_four_3 (fun h => absurd h (by decide)) (fun _ => ?_)
  refine step _ (n + 1 + 1 + 1) 0 _ (at1 _ _ _) (by omega) ?_
  refine bX9_four_3 (fun _ => ?_) (fun h => absurd (by decide) h)
  refine bX9_four_39 ?_
  exact ⟨rfl, rfl, rfl⟩
theorem REL.rd (R : REL I L) {I' : am_I} (e : ∀ c, 9 ≤ c → c < 458 → c ≠ 81 → c ≠ 82 → c ≠ 450 → c ≠ 456 → I' c = I c) (e81 : I' 81 2 = I 81 2 ∧ I' 81 3 = I 81 3) (em : I' 450 5 = I 450 5 ∧ I' 450 10 = I 450 10 ∧ I' 450 11 = I 450 11 ∧ I' 450 12 = I 450 12) (h5 : rdR I') : REL I' L := by
  obtain ⟨h1, h2, h3, h4, -, h6, h7⟩ := R
  have e451 : I' 451 = I 451 := e _ (by decide) (by decide) (by decide) (by decide) (by decide) (by decide)
  refine ⟨by rw [e451]; exact h1, by rw [e451]; exact h2.fr h1.1.2.2.1.2 (fun c c1 c2 => e c (by omega) (by omega) (by omega) (by omega) (by omega) (by omega)) (fun _ _ _ => rfl), h3.fr (fun c c1 c2 => e c (by omega) (by omega) (by omega) (by omega) (by omega) (by omega)) em.1 (e _ (by decide) (by decide) (by decide) (by decide) (by decide) (by decide)) (fun _ _ _ => rfl), h4.fr (fun c c1 c2 => e c (by omega) (by omega) (by omega) (by omega) (by omega) (by omega)) (e _ (by decide) (by decide) (by decide) (by decide) (by decide) (by decide)) (e _ (by decide) (by decide) (by decide) (by decide) (by decide) (by decide)) (fun _ _ _ => rfl), h5, by rw [e81.1, e81.2, em.2.2.1, em.2.2.2]; exact h6, ?_⟩
  obtain ⟨n, n1, n2, n3, n4⟩ := h7
  refine ⟨n, n1, by rw [e 447 (by decide) (by decide) (by decide) (by decide) (by decide) (by decide)]; exact n2, em.2.1.trans n3, fun j hj => ?_⟩
  rw [e 448 (by decide) (by decide) (by decide) (by decide) (by decide) (by decide), e 457 (by decide) (by decide) (by decide) (by decide) (by decide) (by decide)]
  exact n4 j hj
theorem fX_errorCode (hF : wF Γ) (R : REL I L) : gX Γ I L m_X8_errorCode m_X9_errorCode [] [] := by
  obtain ⟨⟨o, f0, f1, f2, f3, f4, f5, f6, f7⟩, so, st, dr, ⟨ro, rr0, rr5, rr6, ra⟩, hi, sv, ⟨oo, or0, or2, oa, oa2⟩, hm, am, am2⟩ := id hF
  obtain ⟨mo, r0, r1, r2, r3, r4, r7, r8, r13, r14, r15, r16, r17, a1, a2, a3, a4, a5, a6, a7, a8, a9, a10, a11, a12⟩ := id hm
  refine ⟨I, L, am_u I 450 6 0, .inl (some (.int (I 81 2))), I 81 2, am_ofE rfl rfl rfl (Nat.le_of_ble_eq_true rfl) ?_, am_ofE rfl rfl rfl (Nat.le_of_ble_eq_true rfl) ?_, R.thr 0, Or.inl ⟨rfl, by rw [am_u_at, if_pos ⟨rfl, rfl⟩]⟩⟩
  · refine bX8_errorCode_0 o f3 ro ?_
    exact ⟨rfl, rfl, rfl⟩
  · refine bX9_errorCode_0 mo ?_
    exact am_R_e (by rw [am_u_at, if_neg (by decide)]; exact R.2.2.2.2.2.1.1.symm) rfl rfl
theorem fX_errorOffset (hF : wF Γ) (R : REL I L) : gX Γ I L m_X8_errorOffset m_X9_errorOffset [] [] := by
  obtain ⟨⟨o, f0, f1, f2, f3, f4, f5, f6, f7⟩, so, st, dr, ⟨ro, rr0, rr5, rr6, ra⟩, hi, sv, ⟨oo, or0, or2, oa, oa2⟩, hm, am, am2⟩ := id hF
  obtain ⟨mo, r0, r1, r2, r3, r4, r7, r8, r13, r14, r15, r16, r17, a1, a2, a3, a4, a5, a6, a7, a8, a9, a10, a11, a12⟩ := id hm
  refine ⟨I, L, am_u I 450 6 0, .inl (some (.int (I 81 3))), I 81 3, am_ofE rfl rfl rfl (Nat.le_of_ble_eq_true rfl) ?_, am_ofE rfl rfl rfl (Nat.le_of_ble_eq_true rfl) ?_, R.thr 0, Or.inl ⟨rfl, by rw [am_u_at, if_pos ⟨rfl, rfl⟩]⟩⟩
  · refine bX8_errorOffset_0 o f3 ro ?_
    exact ⟨rfl, rfl, rfl⟩
  · refine bX9_errorOffset_0 mo ?_
    exact am_R_e (by rw [am_u_at, if_neg (by decide)]; exact R.2.2.2.2.2.1.2.symm) rfl rfl
theorem fX_outputByte (hF : wF Γ) (R : REL I L) (p0 : Int32) : gX Γ I L m_X8_outputByte m_X9_outputByte [.int p0] [] := by
  obtain ⟨⟨o, f0, f1, f2, f3, f4, f5, f6, f7⟩, so, st, dr, ⟨ro, rr0, rr5, rr6, ra⟩, hi, sv, ⟨oo, or0, or2, oa, oa2⟩, hm, am, am2⟩ := id hF
  obtain ⟨mo, r0, r1, r2, r3, r4, r7, r8, r13, r14, r15, r16, r17, a1, a2, a3, a4, a5, a6, a7, a8, a9, a10, a11, a12⟩ := id hm
  obtain ⟨n, hn87, hn1, hn2, hn3⟩ := R.2.2.2.2.2.2
  have e10 : am_u I 450 6 0 450 10 = nn n := by rw [am_u_at, if_neg (by decide)]; exact hn2
  by_cases c0 : ∃ j, j < n ∧ p0 = nn j
  · obtain ⟨j, hj, rfl⟩ := c0
    refine ⟨I, L, am_u I 450 6 0, .inl (some (.int (I 448 j))), I 448 j, am_ofE rfl rfl rfl (Nat.le_of_ble_eq_true rfl) ?_, am_ofE rfl rfl rfl (Nat.le_of_ble_eq_true rfl) ?_, R.thr 0, Or.inl ⟨rfl, by rw [am_u_at, if_pos ⟨rfl, rfl⟩]⟩⟩
    · refine bX8_outputByte_0 (fun h => absurd h (nn_neg_lt (by omega))) (fun _ => ?_)
      refine bX8_outputByte_4 o f7 oo (fun _ => ?_) (fun h => absurd ((nn_lt (by omega) (by omega)).mpr hj) (by rw [← hn1]; exact h))
      refine bX8_outputByte_17 o f7 oo or0 oa (nn_in (by omega) (by omega)) ?_
      exact am_R_e (by rw [nn_nat (by omega)]) rfl rfl
    · refine bX9_outputByte_0 mo (Nat.zero_le _) (Nat.zero_le _) (by rw [e10]; exact eX9_isIn_t (inR_t hj (by omega))) ?_
      refine bX9_outputByte_16 (fun h => absurd h (by decide)) (fun _ => ?_)
      refine bX9_outputByte_19 mo (by assumption) (by assumption) (nn_in (by omega) (by omega)) ?_
      refine bX9_outputByte_29 ?_
      exact am_R_e (by rw [nn_nat (by omega), am_u_ne (by decide)]; exact (hn3 j hj).symm) rfl rfl
  · refine ⟨I, L, am_u I 450 6 0, .inl (some (.int (-1))), -1, am_ofE rfl rfl rfl (Nat.le_of_ble_eq_true rfl) ?_, am_ofE rfl rfl rfl (Nat.le_of_ble_eq_true rfl) ?_, R.thr 0, Or.inl ⟨rfl, by rw [am_u_at, if_pos ⟨rfl, rfl⟩]⟩⟩
    · have hr := rg_f (G := n) (by omega) c0
      refine bX8_outputByte_0 (fun _ => ?_) (fun z => ?_)
      · refine bX8_outputByte_15 ?_
        exact ⟨rfl, rfl, rfl⟩
      · refine bX8_outputByte_4 o f7 oo (fun h => absurd h (by rw [hn1]; exact hr.resolve_left z)) (fun _ => ?_)
        refine bX8_outputByte_15 ?_
        exact ⟨rfl, rfl, rfl⟩
    · refine bX9_outputByte_0 mo (Nat.zero_le _) (Nat.zero_le _) (by rw [e10]; exact eX9_isIn_f (inR_f (by omega) c0)) ?_
      refine bX9_outputByte_16 (fun _ => ?_) (fun h => absurd rfl h)
      refine bX9_outputByte_28 ?_
      refine bX9_outputByte_29 ?_
      exact ⟨rfl, rfl, rfl⟩
theorem fX_truncateInput (hF : wF Γ) (R : REL I L) (p0 : Int32) : gX Γ I L m_X8_truncateInput m_X9_truncateInput [.int p0] ["java/lang/IllegalArgumentException"] := by
  obtain ⟨⟨o, f0, f1, f2, f3, f4, f5, f6, f7⟩, so, st, dr, ⟨ro, rr0, rr5, rr6, ra⟩, hi, sv, ⟨oo, or0, or2, oa, oa2⟩, hm, am, am2⟩ := id hF
  obtain ⟨mo, r0, r1, r2, r3, r4, r7, r8, r13, r14, r15, r16, r17, a1, a2, a3, a4, a5, a6, a7, a8, a9, a10, a11, a12⟩ := id hm
  obtain ⟨n, hn7, hn1, hn2, hn3⟩ := R.2.2.2.2.1
  cases hin : inR p0 0 (nn n)
  case false =>
    have hReqF : am_E m_X8_requireRange 269 1 6 [.int p0, .int 0, .int (I 81 1)] Γ I L (.inr "java/lang/IllegalArgumentException") I L := by rw [hn1]; exact eX8_requireRange_f hin
    refine ⟨I, L, am_u I 450 6 1, .inr "java/lang/IllegalArgumentException", 0, am_ofE rfl rfl rfl (Nat.le_of_ble_eq_true rfl) ?_, am_ofE rfl rfl rfl (Nat.le_of_ble_eq_true rfl) ?_, R.thr 1, Or.inr ⟨0, _, rfl, rfl, by rw [am_u_at, if_pos ⟨rfl, rfl⟩]; rfl⟩⟩
    · refine bX8_truncateInput_0x (by assumption) (by assumption) (by assumption) (by decide) (by decide) (hReqF) ?_
      exact ⟨rfl, rfl, rfl⟩
    · refine bX9_truncateInput_0 (by assumption) (Nat.zero_le _) (Nat.zero_le _) (by rw [hn2]; exact eX9_isIn_f hin) ?_
      refine bX9_truncateInput_10 (fun h => absurd (by decide) h) (fun _ => ?_)
      refine bX9_truncateInput_13 ?_
      refine bX9_truncateInput_18 (by assumption) (Nat.zero_le _) (Nat.zero_le _) (eX9_fails1 hm) ?_
      refine bX9_truncateInput_23 (fun h => absurd h (by decide)) (fun _ => ?_)
      refine bX9_truncateInput_26 ?_
      exact ⟨rfl, rfl, rfl⟩
  case true =>
  have hReqT : am_E m_X8_requireRange 269 0 0 [.int p0, .int 0, .int (I 81 1)] Γ I L (.inl none) I L := by rw [hn1]; exact eX8_requireRange_y hin
  obtain ⟨k, -, hk, rfl⟩ := inR_ex (lo := 0) (hi := n) (by omega) (by omega) hin
  have hRel : REL (am_u (am_u (am_u I 81 1 (nn k)) 450 6 0) 450 9 (nn k)) L := by
    refine R.rd (fun c a b c1 c2 c3 c4 => by rw [am_u_ne c3, am_u_ne c3, am_u_ne c1]) ⟨by rw [am_u_ne (by decide), am_u_ne (by decide), am_u_at, if_neg (by decide)], by rw [am_u_ne (by decide), am_u_ne (by decide), am_u_at, if_neg (by decide)]⟩ ⟨by rw [am_u_at, if_neg (by decide), am_u_at, if_neg (by decide), am_u_ne (by decide)], by rw [am_u_at, if_neg (by decide), am_u_at, if_neg (by decide), am_u_ne (by decide)], by rw [am_u_at, if_neg (by decide), am_u_at, if_neg (by decide), am_u_ne (by decide)], by rw [am_u_at, if_neg (by decide), am_u_at, if_neg (by decide), am_u_ne (by decide)]⟩ ⟨k, by omega, by rw [am_u_ne (by decide), am_u_ne (by decide), am_u_at, if_pos ⟨rfl, rfl⟩], by rw [am_u_at, if_pos ⟨rfl, rfl⟩], fun j hj => ?_⟩
    rw [am_u_ne (show (456 : Nat) ≠ 450 by decide), am_u_ne (show (456 : Nat) ≠ 450 by decide), am_u_ne (show (456 : Nat) ≠ 81 by decide), am_u_ne (show (82 : Nat) ≠ 450 by decide), am_u_ne (show (82 : Nat) ≠ 450 by decide), am_u_ne (show (82 : Nat) ≠ 81 by decide)]
    exact hn3 j (by omega)
  refine ⟨am_u I 81 1 (nn k), L, _, .inl (some (.int (nn k))), nn k, am_ofE rfl rfl rfl (Nat.le_of_ble_eq_true rfl) ?_, am_ofE rfl rfl rfl (Nat.le_of_ble_eq_true rfl) ?_, hRel, Or.inl ⟨rfl, by rw [am_u_at, if_neg (by decide), am_u_at, if_pos ⟨rfl, rfl⟩]⟩⟩
  · refine bX8_truncateInput_0 (by assumption) (by assumption) (by assumption) (Nat.zero_le _) (Nat.zero_le _) (hReqT) ?_
    refine bX8_truncateInput_12 (by assumption) (by assumption) (by assumption) ?_
    exact ⟨rfl, rfl, rfl⟩
  · refine bX9_truncateInput_0 (by assumption) (Nat.zero_le _) (Nat.zero_le _) (by rw [show am_u I 81 1 (nn k) 450 9 = nn n from by rw [am_u_ne (by decide)]; exact hn2]; exact eX9_isIn_t hin) ?_
    refine bX9_truncateInput_10 (fun _ => ?_) (fun h => absurd h (by decide))
    refine bX9_truncateInput_17 ?_
    refine bX9_truncateInput_18 (by assumption) (Nat.zero_le _) (Nat.zero_le _) (eX9_fails0 hm) ?_
    refine bX9_truncateInput_23 (fun _ => ?_) (fun h => absurd (by decide) h)
    refine bX9_truncateInput_28 (by assumption) ?_
    exact ⟨rfl, rfl, rfl⟩
theorem fX_append (hF : wF Γ) (R : REL I L) (p0 p1 p2 p3 p4 : Int32) : gX Γ I L m_X8_append m_X9_append [.int p0, .int p1, .int p2, .int p3, .int p4] [] := by
  obtain ⟨⟨o, f0, f1, f2, f3, f4, f5, f6, f7⟩, so, st, dr, ⟨ro, rr0, rr5, rr6, ra⟩, hi, sv, ⟨oo, or0, or2, oa, oa2⟩, hm, am, am2⟩ := id hF
  obtain ⟨mo, r0, r1, r2, r3, r4, r7, r8, r13, r14, r15, r16, r17, a1, a2, a3, a4, a5, a6, a7, a8, a9, a10, a11, a12⟩ := id hm
  obtain ⟨n, hn7, hn1, hn2, hn3⟩ := R.2.2.2.2.1
  have h20 : (nn n + 20 ≤ 700) ↔ n + 20 ≤ 700 := by
    show (nn n + nn 20 ≤ nn 700) ↔ _
    rw [nn_add, nn_le (by omega) (by decide)]
  by_cases hc : n + 20 ≤ 700
  · have x20 : ∀ (xs ys zs us vs : Int32), (w4c xs ++ (w4c ys ++ (w4c zs ++ (w4c us ++ (w4c vs ++ []))))).length = 20 := fun _ _ _ _ _ => rfl
    have hB := byR_4 p0 (byR_4 p1 (byR_4 p2 (byR_4 p3 (byR_4 p4 byR_nil))))
    have l4 : ∀ x, (w4c x).length = 4 := fun _ => rfl
    have m4 : ∀ x, (w4m x).length = 4 := fun _ => rfl
    have cA : ∀ (J : am_I) (k : Nat) (x : Int32), J 81 1 = nn k → wrx 82 81 1 J k (w4c x) 81 1 = nn (k + 4) := fun J k x h => (wrx_o 82 81 1 (by decide) (w4c x) J k h).1
    have mA : ∀ (J : am_I) (k : Nat) (x : Int32), J 450 9 = nn k → wrx 456 450 9 J k (w4m x) 450 9 = nn (k + 4) := fun J k x h => (wrx_o 456 450 9 (by decide) (w4m x) J k h).1
    obtain ⟨I1, hI1⟩ : ∃ I1, I1 = wrx 82 81 1 (wrx 82 81 1 (wrx 82 81 1 (wrx 82 81 1 (wrx 82 81 1 I n (w4c p0)) (n + 4) (w4c p1)) (n + 4 + 4) (w4c p2)) (n + 4 + 4 + 4) (w4c p3)) (n + 4 + 4 + 4 + 4) (w4c p4) := ⟨_, rfl⟩
    have eI1 : I1 = wrx 82 81 1 I n (w4c p0 ++ (w4c p1 ++ (w4c p2 ++ (w4c p3 ++ (w4c p4 ++ []))))) := by
      rw [hI1, List.append_nil, wrx_app, wrx_app, wrx_app, wrx_app, l4, l4, l4, l4]
    obtain ⟨I2, hI2⟩ : ∃ I2, I2 = wrx 456 450 9 (wrx 456 450 9 (wrx 456 450 9 (wrx 456 450 9 (wrx 456 450 9 (am_u I1 450 6 0) n (w4m p0)) (n + 4) (w4m p1)) (n + 4 + 4) (w4m p2)) (n + 4 + 4 + 4) (w4m p3)) (n + 4 + 4 + 4 + 4) (w4m p4) := ⟨_, rfl⟩
    have eI2 : I2 = wrx 456 450 9 (am_u I1 450 6 0) n (w4m p0 ++ (w4m p1 ++ (w4m p2 ++ (w4m p3 ++ (w4m p4 ++ []))))) := by
      rw [hI2, List.append_nil, wrx_app, wrx_app, wrx_app, wrx_app, m4, m4, m4, m4]
    have hx20 := x20 p0 p1 p2 p3 p4
    generalize w4c p0 ++ (w4c p1 ++ (w4c p2 ++ (w4c p3 ++ (w4c p4 ++ [])))) = xs at eI1 hB hx20
    generalize w4m p0 ++ (w4m p1 ++ (w4m p2 ++ (w4m p3 ++ (w4m p4 ++ [])))) = ys at eI2 hB
    have hy20 : ys.length = 20 := by rw [← hB.1]; exact hx20
    have o1 := wrx_o 82 81 1 (by decide) xs I n hn1
    rw [← eI1, hx20] at o1
    have b450 : I1 450 = I 450 := by rw [eI1, wrx_ne _ _ _ _ _ _ _ (by decide) (by decide)]
    have o2 := wrx_o 456 450 9 (by decide) ys (am_u I1 450 6 0) n (by rw [am_u_at, if_neg (by decide), b450]; exact hn2)
    rw [← eI2, hy20] at o2
    have n1 : ∀ c, c ≠ 82 → c ≠ 81 → I1 c = I c := fun c a b => by rw [eI1, wrx_ne _ _ _ _ _ _ _ a b]
    have n2 : ∀ c, c ≠ 456 → c ≠ 450 → I2 c = I1 c := fun c a b => by rw [eI2, wrx_ne _ _ _ _ _ _ _ a b, am_u_ne b]
    have m6 : I2 450 6 = 0 := by rw [o2.2 6 (by decide), am_u_at, if_pos ⟨rfl, rfl⟩]
    have mj : ∀ j, j ≠ 9 → j ≠ 6 → I2 450 j = I 450 j := fun j a b => by rw [o2.2 j a, am_u_at, if_neg (fun z => b z.2), b450]
    have hRel : REL I2 L := by
      refine R.rd (fun c a b c1 c2 c3 c4 => by rw [n2 c c4 c3, n1 c c2 c1]) ⟨by rw [n2 81 (by decide) (by decide), o1.2 2 (by decide)], by rw [n2 81 (by decide) (by decide), o1.2 3 (by decide)]⟩ ⟨mj 5 (by decide) (by decide), mj 10 (by decide) (by decide), mj 11 (by decide) (by decide), mj 12 (by decide) (by decide)⟩ ⟨n + 20, hc, by rw [n2 81 (by decide) (by decide)]; exact o1.1, o2.1, fun j hj => ?_⟩
      rw [n2 82 (by decide) (by decide), eI2, eI1, wrx_a _ _ _ (by decide), wrx_a _ _ _ (by decide), hx20, hy20]
      by_cases hj2 : n ≤ j
      · rw [if_pos ⟨hj2, hj⟩, if_pos ⟨hj2, hj⟩]
        exact hB.2 (j - n) (by omega)
      · rw [if_neg (fun z => hj2 z.1), if_neg (fun z => hj2 z.1), am_u_ne (by decide), wrx_ne _ _ _ _ _ _ _ (by decide) (by decide)]
        exact hn3 j (by omega)
    refine ⟨I1, L, I2, .inl (some (.int (nn (n + 20)))), nn (n + 20), am_ofE rfl rfl rfl (Nat.le_of_ble_eq_true rfl) ?_, am_ofE rfl rfl rfl (Nat.le_of_ble_eq_true rfl) ?_, hRel, Or.inl ⟨rfl, m6⟩⟩
    · refine bX8_append_0 o f3 ro (fun _ => ?_) (fun h => absurd (by rw [hn1]; exact h20.mpr hc) h)
      refine bX8_append_18 o f3 ro (Nat.zero_le _) (Nat.zero_le _) (eX3_putInt ro rr0 ra hn1 (by omega) _) ?_
      refine bX8_append_26 o f3 ro (Nat.zero_le _) (Nat.zero_le _) (eX3_putInt ro rr0 ra (cA _ _ _ hn1) (by omega) _) ?_
      refine bX8_append_34 o f3 ro (Nat.zero_le _) (Nat.zero_le _) (eX3_putInt ro rr0 ra (cA _ _ _ (cA _ _ _ hn1)) (by omega) _) ?_
      refine bX8_append_42 o f3 ro (Nat.zero_le _) (Nat.zero_le _) (eX3_putInt ro rr0 ra (cA _ _ _ (cA _ _ _ (cA _ _ _ hn1))) (by omega) _) ?_
      refine bX8_append_51 o f3 ro (Nat.zero_le _) (Nat.zero_le _) (eX3_putInt ro rr0 ra (cA _ _ _ (cA _ _ _ (cA _ _ _ (cA _ _ _ hn1)))) (by omega) _) ?_
      refine bX8_append_60 o f3 ro ?_
      rw [show wrx (81 + 1) 81 1 _ (n + 4 + 4 + 4 + 4) (w4c p4) = I1 from hI1.symm]
      exact am_R_e o1.1 rfl rfl
    · have e9 : am_u I1 450 6 0 450 9 = nn n := by rw [am_u_at, if_neg (by decide), b450]; exact hn2
      refine bX9_append_0 mo (fun _ => ?_) (fun h => absurd (by rw [e9]; exact h20.mpr hc) h)
      refine bX9_append_20 mo (Nat.zero_le _) (Nat.zero_le _) (eX9_four hm e9 (by omega) _) ?_
      refine bX9_append_25 mo (Nat.zero_le _) (Nat.zero_le _) (eX9_four hm (mA _ _ _ e9) (by omega) _) ?_
      refine bX9_append_30 mo (Nat.zero_le _) (Nat.zero_le _) (eX9_four hm (mA _ _ _ (mA _ _ _ e9)) (by omega) _) ?_
      refine bX9_append_35 mo (Nat.zero_le _) (Nat.zero_le _) (eX9_four hm (mA _ _ _ (mA _ _ _ (mA _ _ _ e9))) (by omega) _) ?_
      refine bX9_append_41 mo (Nat.zero_le _) (Nat.zero_le _) (eX9_four hm (mA _ _ _ (mA _ _ _ (mA _ _ _ (mA _ _ _ e9)))) (by omega) _) ?_
      refine bX9_append_47 mo ?_
      rw [show wrx (450 + 6) 450 9 _ (n + 4 + 4 + 4 + 4) (w4m p4) = I2 from hI2.symm]
      exact am_R_e o2.1 rfl rfl
  · refine ⟨I, L, am_u I 450 6 0, .inl (some (.int (-1))), -1, am_ofE rfl rfl rfl (Nat.le_of_ble_eq_true rfl) ?_, am_ofE rfl rfl rfl (Nat.le_of_ble_eq_true rfl) ?_, R.thr 0, Or.inl ⟨rfl, by rw [am_u_at, if_pos ⟨rfl, rfl⟩]⟩⟩
    · refine bX8_append_0 o f3 ro (fun h => absurd (h20.mp (by rw [← hn1]; exact h)) hc) (fun _ => ?_)
      refine bX8_append_16 ?_
      exact ⟨rfl, rfl, rfl⟩
    · have e9 : am_u I 450 6 0 450 9 = nn n := by rw [am_u_at, if_neg (by decide)]; exact hn2
      refine bX9_append_0 mo (fun h => absurd (h20.mp (by rw [← e9]; exact h)) hc) (fun _ => ?_)
      refine bX9_append_18 ?_
      exact ⟨rfl, rfl, rfl⟩
end F12

