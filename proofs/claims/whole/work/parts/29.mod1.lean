/-! CONTRACTS OF THE MODEL: rows, gates, types, sets -/
def thr (a b c : Bool) : Int32 := if a then 1 else if b then 2 else if c then 3 else 0
def inR (v lo hi : Int32) : Bool := decide (lo ≤ v) && decide (v ≤ hi)
/-- the numbers of a row that best trees are made of -/
def mda (w : Nat → Int32) (g Q T : Nat) (qc ty tl ct : Nat → Nat) : Prop :=
  w 0 = nn Q ∧ w 1 = nn T ∧ Q ≤ 6 ∧ 0 < T ∧ T ≤ 8 ∧ (∀ q, q < Q → w (12 + q * 8) = nn (qc q) ∧ 1 ≤ qc q ∧ qc q ≤ 9) ∧ ∀ t, t < T → w (60 + t * 9) = nn (tl t) ∧ tl t ≤ 99 ∧ w (60 + t * 9 + 1) = nn (ty t) ∧ ty t < 64 ∧ w (132 + g * 94 + (10 + t)) = nn (ct t) ∧ ct t ≤ 9999
/-- the types that say yes to question q -/
def yse (T : Nat) (ty : Nat → Nat) (q : Nat) : Nat := msk (fun t => (ty t).testBit q) T
theorem msk_and (p : Nat → Bool) (S T : Nat) : msk (fun t => S.testBit t && p t) T = S &&& msk p T := by
  refine Nat.eq_of_testBit_eq (fun i => ?_)
  rw [Nat.testBit_and, msk_bit, msk_bit]
  cases decide (i < T) <;> cases S.testBit i <;> rfl
theorem bi_not (b : Bool) : bi (!b) = if bi b = 0 then 1 else 0 := by cases b <;> rfl
theorem nn_inj {a b : Nat} (ha : a < 2147483648) (hb : b < 2147483648) (h : nn a = nn b) : a = b := (nn_eq ha hb).mp h
section M1
variable {d : Nat} {Γ : am_G} {I : am_I} {L : am_L} {m : Nat}
theorem eX9_thrown (hm : mdF Γ m) : am_E m_X9_thrown d 0 0 [.ref m] Γ I L (.inl (some (.int (I m 6)))) I L := by
  obtain ⟨o, -⟩ := hm
  refine am_ofE rfl rfl rfl (Nat.le_of_ble_eq_true rfl) ?_
  refine bX9_thrown_0 o ?_
  exact ⟨rfl, rfl, rfl⟩
theorem eX9_fails (hm : mdF Γ m) (a b c : Bool) : am_E m_X9_fails d 0 0 [.ref m, .int (bi a), .int (bi b), .int (bi c)] Γ I L (.inl (some (.int (bi (a || b || c))))) (am_u I m 6 (thr a b c)) L := by
  obtain ⟨o, -⟩ := hm
  refine am_ofE rfl rfl rfl (Nat.le_of_ble_eq_true rfl) ?_
  have z : ∀ v : Int32, am_u I m 6 v m 6 = v := fun v => by rw [am_u_at, if_pos ⟨rfl, rfl⟩]
  cases a
  · refine bX9_fails_0 (fun _ => ?_) (fun h => absurd rfl h)
    cases b
    · refine bX9_fails_9 (fun _ => ?_) (fun h => absurd rfl h)
      cases c
      · refine bX9_fails_17 (fun _ => ?_) (fun h => absurd rfl h)
        refine bX9_fails_25 ?_
        refine bX9_fails_26 o o (fun _ => ?_) (fun h => absurd (by rw [z]; decide) h)
        refine bX9_fails_40 ?_
        refine bX9_fails_41 rfl ?_
        exact ⟨rfl, rfl, rfl⟩
      · refine bX9_fails_17 (fun h => absurd h (by decide)) (fun _ => ?_)
        refine bX9_fails_21 ?_
        refine bX9_fails_26 o o (fun h => absurd h (by rw [z]; decide)) (fun _ => ?_)
        refine bX9_fails_36 ?_
        refine bX9_fails_41 rfl ?_
        exact ⟨rfl, rfl, rfl⟩
    · refine bX9_fails_9 (fun h => absurd h (by decide)) (fun _ => ?_)
      refine bX9_fails_13 ?_
      refine bX9_fails_26 o o (fun h => absurd h (by rw [z]; decide)) (fun _ => ?_)
      refine bX9_fails_36 ?_
      refine bX9_fails_41 rfl ?_
      exact ⟨rfl, rfl, rfl⟩
  · refine bX9_fails_0 (fun h => absurd h (by decide)) (fun _ => ?_)
    refine bX9_fails_5 ?_
    refine bX9_fails_26 o o (fun h => absurd h (by rw [z]; decide)) (fun _ => ?_)
    refine bX9_fails_36 ?_
    refine bX9_fails_41 rfl ?_
    exact ⟨rfl, rfl, rfl⟩
theorem eX9_copy {a c s e na nc : Nat} (ha : am_ar Γ a 1 na 0) (hc : am_ar Γ c 1 nc 0) (h1 : s + 508 ≤ na) (h2 : e + 508 ≤ nc) (h3 : na < 100000) (h4 : nc < 100000) : am_E m_X9_copy d 0 0 [.ref a, .int (nn s), .ref c, .int (nn e)] Γ I L (.inl none) (am_cI I a c s e 508) L := by
  refine am_ofE rfl rfl rfl (Nat.le_of_ble_eq_true rfl) ?_
  refine bX9_copy_0 ha hc (nn_neg_lt (by omega)) (nn_neg_lt (by omega)) (by rw [nn_nat (by omega), c508]; exact h1) (by rw [nn_nat (by omega), c508]; exact h2) ?_
  rw [nn_nat (by omega), nn_nat (by omega), c508]
  exact ⟨rfl, rfl, rfl⟩

theorem eX9_isIn (v lo hi : Int32) : am_E m_X9_isIn d 0 0 [.int v, .int lo, .int hi] Γ I L (.inl (some (.int (bi (inR v lo hi))))) I L := by
  refine am_ofE rfl rfl rfl (Nat.le_of_ble_eq_true rfl) ?_
  refine bX9_isIn_0 (fun h0 => ?_) (fun h0 => ?_)
  · refine bX9_isIn_14 ?_
    refine bX9_isIn_15 (by first | exact bi_hz _ | rfl) ?_
    exact am_R_e (by simp [inR, bi, Int32.not_le.mpr h0]) rfl rfl
  · refine bX9_isIn_5 (fun h5 => ?_) (fun h5 => ?_)
    · refine bX9_isIn_14 ?_
      refine bX9_isIn_15 (by first | exact bi_hz _ | rfl) ?_
      exact am_R_e (by simp [inR, bi, Int32.not_le.mpr h5]) rfl rfl
    · refine bX9_isIn_10 ?_
      refine bX9_isIn_15 (by first | exact bi_hz _ | rfl) ?_
      exact am_R_e (by simp [inR, bi, Int32.not_lt.mp h0, Int32.not_lt.mp h5]) rfl rfl

theorem eX9_cost (hm : mdF Γ m) {q : Nat} (hq : q < 6) : am_E m_X9_cost d 0 0 [.ref m, .int (nn q)] Γ I L (.inl (some (.int (I (m + 1) (12 + q * 8))))) I L := by
  obtain ⟨o, r0, r1, r2, r3, r4, r7, r8, r13, r14, r15, r16, r17, a1, a2, a3, a4, a5, a6, a7, a8, a9, a10, a11, a12⟩ := id hm
  have e : 12 + nn q * 8 + 0 = nn (12 + q * 8) := by simp (disch := omega) only [nl_0, nl_8, nl_9, nl_12, nl_60, nl_132, nl_94, nn_add, nn_mul, Nat.add_zero]
  refine am_ofE rfl rfl rfl (Nat.le_of_ble_eq_true rfl) ?_
  refine bX9_cost_0 o r0 a1 (by rw [e]; exact nn_in (by omega) (by omega)) ?_
  rw [e, nn_nat (by omega)]
  exact ⟨rfl, rfl, rfl⟩

theorem eX9_ofType (hm : mdF Γ m) {t k : Nat} (ht : t < 8) (hk : k < 9) : am_E m_X9_ofType d 0 0 [.ref m, .int (nn t), .int (nn k)] Γ I L (.inl (some (.int (I (m + 1) (60 + t * 9 + k))))) I L := by
  obtain ⟨o, r0, r1, r2, r3, r4, r7, r8, r13, r14, r15, r16, r17, a1, a2, a3, a4, a5, a6, a7, a8, a9, a10, a11, a12⟩ := id hm
  have e : 60 + nn t * 9 + nn k = nn (60 + t * 9 + k) := by simp (disch := omega) only [nl_0, nl_8, nl_9, nl_12, nl_60, nl_132, nl_94, nn_add, nn_mul, Nat.add_zero]
  refine am_ofE rfl rfl rfl (Nat.le_of_ble_eq_true rfl) ?_
  refine bX9_ofType_0 o r0 a1 (by rw [e]; exact nn_in (by omega) (by omega)) ?_
  rw [e, nn_nat (by omega)]
  exact ⟨rfl, rfl, rfl⟩

theorem eX9_ofGate (hm : mdF Γ m) {g k : Nat} (hg : g < 4) (hk : k < 94) : am_E m_X9_ofGate d 0 0 [.ref m, .int (nn g), .int (nn k)] Γ I L (.inl (some (.int (I (m + 1) (132 + g * 94 + k))))) I L := by
  obtain ⟨o, r0, r1, r2, r3, r4, r7, r8, r13, r14, r15, r16, r17, a1, a2, a3, a4, a5, a6, a7, a8, a9, a10, a11, a12⟩ := id hm
  have e : 132 + nn g * 94 + nn k = nn (132 + g * 94 + k) := by simp (disch := omega) only [nl_0, nl_8, nl_9, nl_12, nl_60, nl_132, nl_94, nn_add, nn_mul, Nat.add_zero]
  refine am_ofE rfl rfl rfl (Nat.le_of_ble_eq_true rfl) ?_
  refine bX9_ofGate_0 o r0 a1 (by rw [e]; exact nn_in (by omega) (by omega)) ?_
  rw [e, nn_nat (by omega)]
  exact ⟨rfl, rfl, rfl⟩

theorem eX9_putGate (hm : mdF Γ m) {g k : Nat} (hg : g < 4) (hk : k < 94) (v : Int32) : am_E m_X9_putGate d 0 0 [.ref m, .int (nn g), .int (nn k), .int v] Γ I L (.inl none) (am_u I (m + 1) (132 + g * 94 + k) v) L := by
  obtain ⟨o, r0, r1, r2, r3, r4, r7, r8, r13, r14, r15, r16, r17, a1, a2, a3, a4, a5, a6, a7, a8, a9, a10, a11, a12⟩ := id hm
  have e : 132 + nn g * 94 + nn k = nn (132 + g * 94 + k) := by simp (disch := omega) only [nl_132, nl_94, nn_add, nn_mul]
  refine am_ofE rfl rfl rfl (Nat.le_of_ble_eq_true rfl) ?_
  refine bX9_putGate_0 o r0 a1 (by rw [e]; exact nn_in (by omega) (by omega)) ?_
  rw [e, nn_nat (by omega)]
  exact ⟨rfl, rfl, rfl⟩

theorem eX9_ofNode (hm : mdF Γ m) {g n k : Nat} (hg : g < 4) (hn : n < 15) (hk : k < 5) : am_E m_X9_ofNode (d + 1) 0 0 [.ref m, .int (nn g), .int (nn n), .int (nn k)] Γ I L (.inl (some (.int (I (m + 1) (132 + g * 94 + (19 + n * 5 + k)))))) I L := by
  have e : 19 + nn n * 5 + nn k = nn (19 + n * 5 + k) := by simp (disch := omega) only [nl_19, nl_5, nn_add, nn_mul]
  refine am_ofE rfl rfl rfl (Nat.le_of_ble_eq_true rfl) ?_
  refine bX9_ofNode_0 hm.1 (Nat.zero_le _) (Nat.zero_le _) (by rw [e]; exact eX9_ofGate hm hg (by omega)) ?_
  refine bX9_ofNode_13 ?_
  exact ⟨rfl, rfl, rfl⟩

theorem eX9_noQuestion (hm : mdF Γ m) (v : Int32) : am_E m_X9_noQuestion (d + 1) 0 0 [.ref m, .int v] Γ I L (.inl (some (.int (bi (!inR v 0 (I (m + 1) 0 - 1)))))) I L := by
  obtain ⟨o, r0, r1, r2, r3, r4, r7, r8, r13, r14, r15, r16, r17, a1, a2, a3, a4, a5, a6, a7, a8, a9, a10, a11, a12⟩ := id hm
  refine am_ofE rfl rfl rfl (Nat.le_of_ble_eq_true rfl) ?_
  refine bX9_noQuestion_0 (by assumption) (by assumption) (by assumption) (nn_in (k := 0) (by decide) (by decide)) (Nat.zero_le _) (Nat.zero_le _) (eX9_isIn v 0 (I (m + 1) 0 - 1)) ?_
  refine bX9_noQuestion_13 (fun h13 => ?_) (fun h13 => ?_)
  · refine bX9_noQuestion_20 ?_
    refine bX9_noQuestion_21 (by first | exact bi_hz _ | rfl) ?_
    exact am_R_e (by rw [bi_not]; rw [if_neg h13]) rfl rfl
  · refine bX9_noQuestion_16 ?_
    refine bX9_noQuestion_21 (by first | exact bi_hz _ | rfl) ?_
    exact am_R_e (by rw [bi_not]; rw [if_pos h13]) rfl rfl

theorem eX9_noType (hm : mdF Γ m) (v : Int32) : am_E m_X9_noType (d + 1) 0 0 [.ref m, .int v] Γ I L (.inl (some (.int (bi (!inR v 0 (I (m + 1) 1 - 1)))))) I L := by
  obtain ⟨o, r0, r1, r2, r3, r4, r7, r8, r13, r14, r15, r16, r17, a1, a2, a3, a4, a5, a6, a7, a8, a9, a10, a11, a12⟩ := id hm
  refine am_ofE rfl rfl rfl (Nat.le_of_ble_eq_true rfl) ?_
  refine bX9_noType_0 (by assumption) (by assumption) (by assumption) (nn_in (k := 1) (by decide) (by decide)) (Nat.zero_le _) (Nat.zero_le _) (eX9_isIn v 0 (I (m + 1) 1 - 1)) ?_
  refine bX9_noType_13 (fun h13 => ?_) (fun h13 => ?_)
  · refine bX9_noType_20 ?_
    refine bX9_noType_21 (by first | exact bi_hz _ | rfl) ?_
    exact am_R_e (by rw [bi_not]; rw [if_neg h13]) rfl rfl
  · refine bX9_noType_16 ?_
    refine bX9_noType_21 (by first | exact bi_hz _ | rfl) ?_
    exact am_R_e (by rw [bi_not]; rw [if_pos h13]) rfl rfl

theorem eX9_noGate (hm : mdF Γ m) (v : Int32) : am_E m_X9_noGate (d + 1) 0 0 [.ref m, .int v] Γ I L (.inl (some (.int (bi (!inR v 0 (I (m + 1) 2 - 1)))))) I L := by
  obtain ⟨o, r0, r1, r2, r3, r4, r7, r8, r13, r14, r15, r16, r17, a1, a2, a3, a4, a5, a6, a7, a8, a9, a10, a11, a12⟩ := id hm
  refine am_ofE rfl rfl rfl (Nat.le_of_ble_eq_true rfl) ?_
  refine bX9_noGate_0 (by assumption) (by assumption) (by assumption) (nn_in (k := 2) (by decide) (by decide)) (Nat.zero_le _) (Nat.zero_le _) (eX9_isIn v 0 (I (m + 1) 2 - 1)) ?_
  refine bX9_noGate_13 (fun h13 => ?_) (fun h13 => ?_)
  · refine bX9_noGate_20 ?_
    refine bX9_noGate_21 (by first | exact bi_hz _ | rfl) ?_
    exact am_R_e (by rw [bi_not]; rw [if_neg h13]) rfl rfl
  · refine bX9_noGate_16 ?_
    refine bX9_noGate_21 (by first | exact bi_hz _ | rfl) ?_
    exact am_R_e (by rw [bi_not]; rw [if_pos h13]) rfl rfl

theorem eX9_noNode (hm : mdF Γ m) {g : Nat} (hg : g < 4) (hin : inR (nn g) 0 (I (m + 1) 2 - 1) = true) (v : Int32) : am_E m_X9_noNode (d + 2) 0 0 [.ref m, .int (nn g), .int v] Γ I L (.inl (some (.int (bi (!inR v 0 (I (m + 1) (132 + g * 94 + 18) - 1)))))) I L := by
  obtain ⟨o, r0, r1, r2, r3, r4, r7, r8, r13, r14, r15, r16, r17, a1, a2, a3, a4, a5, a6, a7, a8, a9, a10, a11, a12⟩ := id hm
  refine am_ofE rfl rfl rfl (Nat.le_of_ble_eq_true rfl) ?_
  refine bX9_noNode_0 (by assumption) (Nat.zero_le _) (Nat.zero_le _) (eX9_noGate hm _) ?_
  refine bX9_noNode_5 (fun h => absurd (by rw [hin]; rfl) h) (fun h5 => ?_)
  refine bX9_noNode_8 (by assumption) (Nat.zero_le _) (Nat.zero_le _) (eX9_ofGate (k := 18) hm hg (by decide)) ?_
  refine bX9_noNode_17 (Nat.zero_le _) (Nat.zero_le _) (eX9_isIn _ _ _) ?_
  refine bX9_noNode_22 (fun h22 => ?_) (fun h22 => ?_)
  · refine bX9_noNode_29 ?_
    refine bX9_noNode_30 (by first | exact bi_hz _ | rfl) ?_
    exact am_R_e (by rw [bi_not]; rw [if_neg h22]) rfl rfl
  · refine bX9_noNode_25 ?_
    refine bX9_noNode_30 (by first | exact bi_hz _ | rfl) ?_
    exact am_R_e (by rw [bi_not]; rw [if_pos h22]) rfl rfl

theorem eX9_noNodeX (hm : mdF Γ m) {u : Int32} (hin : inR u 0 (I (m + 1) 2 - 1) = false) (v : Int32) : am_E m_X9_noNode (d + 2) 0 0 [.ref m, .int u, .int v] Γ I L (.inl (some (.int (bi true)))) I L := by
  obtain ⟨o, r0, r1, r2, r3, r4, r7, r8, r13, r14, r15, r16, r17, a1, a2, a3, a4, a5, a6, a7, a8, a9, a10, a11, a12⟩ := id hm
  refine am_ofE rfl rfl rfl (Nat.le_of_ble_eq_true rfl) ?_
  refine bX9_noNode_0 (by assumption) (Nat.zero_le _) (Nat.zero_le _) (eX9_noGate hm _) ?_
  refine bX9_noNode_5 (fun h5 => ?_) (fun h => absurd h (by rw [hin]; decide))
  refine bX9_noNode_25 ?_
  refine bX9_noNode_30 (by first | exact bi_hz _ | rfl) ?_
  exact ⟨rfl, rfl, rfl⟩

theorem eX9_has {S t : Nat} (hS : S < 2147483648) (ht : t < 32) : am_E m_X9_has d 0 0 [.int (nn S), .int (nn t)] Γ I L (.inl (some (.int (bi (S.testBit t))))) I L := by
  refine am_ofE rfl rfl rfl (Nat.le_of_ble_eq_true rfl) ?_
  refine bX9_has_0 (fun h0 => ?_) (fun h0 => ?_)
  · refine bX9_has_13 ?_
    refine bX9_has_14 (by first | exact bi_hz _ | rfl) ?_
    exact am_R_e (by rw [nn_bit hS ht] at h0; cases h : S.testBit t; rfl; exact absurd (by rw [nb_1.mpr h]; rfl) h0) rfl rfl
  · refine bX9_has_9 ?_
    refine bX9_has_14 (by first | exact bi_hz _ | rfl) ?_
    exact am_R_e (by rw [nn_bit hS ht] at h0; cases h : S.testBit t; rw [nb_z.mpr h] at h0; exact absurd h0 (by decide); rfl) rfl rfl

theorem eX9_saysYes (hm : mdF Γ m) {t q y : Nat} (ht : t < 8) (hq : q < 32) (hy : I (m + 1) (60 + t * 9 + 1) = nn y) (hl : y < 2147483648) : am_E m_X9_saysYes (d + 1) 0 0 [.ref m, .int (nn t), .int (nn q)] Γ I L (.inl (some (.int (bi (y.testBit q))))) I L := by
  obtain ⟨o, r0, r1, r2, r3, r4, r7, r8, r13, r14, r15, r16, r17, a1, a2, a3, a4, a5, a6, a7, a8, a9, a10, a11, a12⟩ := id hm
  refine am_ofE rfl rfl rfl (Nat.le_of_ble_eq_true rfl) ?_
  refine bX9_saysYes_0 (by assumption) (Nat.zero_le _) (Nat.zero_le _) (eX9_ofType (k := 1) hm ht (by decide)) ?_
  refine bX9_saysYes_6 (Nat.zero_le _) (Nat.zero_le _) (by rw [hy]; exact eX9_has hl hq) ?_
  refine bX9_saysYes_10 (by first | exact bi_hz _ | rfl) ?_
  exact ⟨rfl, rfl, rfl⟩

theorem eX9_count (hm : mdF Γ m) {g t : Nat} (hg : g < 4) (ht : t < 8) : am_E m_X9_count (d + 1) 0 0 [.ref m, .int (nn g), .int (nn t)] Γ I L (.inl (some (.int (I (m + 1) (132 + g * 94 + (10 + t)))))) I L := by
  obtain ⟨o, r0, r1, r2, r3, r4, r7, r8, r13, r14, r15, r16, r17, a1, a2, a3, a4, a5, a6, a7, a8, a9, a10, a11, a12⟩ := id hm
  refine am_ofE rfl rfl rfl (Nat.le_of_ble_eq_true rfl) ?_
  refine bX9_count_0 (by assumption) (Nat.zero_le _) (Nat.zero_le _) (by rw [nl_10, nn_add]; exact eX9_ofGate hm hg (by omega)) ?_
  refine bX9_count_9 ?_
  exact ⟨rfl, rfl, rfl⟩

theorem eX9_opensAt (hm : mdF Γ m) {g : Nat} (hg : g < 4) (h : Int32) : am_E m_X9_opensAt (d + 1) 0 0 [.ref m, .int (nn g), .int h] Γ I L (.inl (some (.int (bi (opens (I (m + 1) (132 + g * 94 + 0)) (I (m + 1) (132 + g * 94 + 1)) h))))) I L := by
  obtain ⟨o, r0, r1, r2, r3, r4, r7, r8, r13, r14, r15, r16, r17, a1, a2, a3, a4, a5, a6, a7, a8, a9, a10, a11, a12⟩ := id hm
  refine am_ofE rfl rfl rfl (Nat.le_of_ble_eq_true rfl) ?_
  refine bX9_opensAt_0 (by assumption) (Nat.zero_le _) (Nat.zero_le _) (eX9_ofGate (k := 0) hm hg (by decide)) ?_
  refine bX9_opensAt_6 (by assumption) (Nat.zero_le _) (Nat.zero_le _) (eX9_ofGate (k := 1) hm hg (by decide)) ?_
  refine bX9_opensAt_13 (fun h13 => ?_) (fun h13 => ?_)
  · refine bX9_opensAt_31 (fun h31 => ?_) (fun h31 => ?_)
    · refine bX9_opensAt_42 ?_
      refine bX9_opensAt_47 (by first | exact bi_hz _ | rfl) ?_
      exact am_R_e (by unfold opens; rw [if_pos h13, decide_eq_true h31]; rfl) rfl rfl
    · refine bX9_opensAt_36 (fun h36 => ?_) (fun h36 => ?_)
      · refine bX9_opensAt_46 ?_
        refine bX9_opensAt_47 (by first | exact bi_hz _ | rfl) ?_
        exact am_R_e (by unfold opens; rw [if_pos h13, decide_eq_false h31, decide_eq_false (Int32.not_le.mpr h36)]; rfl) rfl rfl
      · refine bX9_opensAt_42 ?_
        refine bX9_opensAt_47 (by first | exact bi_hz _ | rfl) ?_
        exact am_R_e (by unfold opens; rw [if_pos h13, decide_eq_true (Int32.not_lt.mp h36), Bool.or_true]; rfl) rfl rfl
  · refine bX9_opensAt_21 (Nat.zero_le _) (Nat.zero_le _) (eX9_isIn _ _ _) ?_
    refine bX9_opensAt_28 ?_
    refine bX9_opensAt_47 (by first | exact bi_hz _ | rfl) ?_
    exact am_R_e (by unfold opens inR; rw [if_neg h13]) rfl rfl

theorem eX9_isOpenNow (hm : mdF Γ m) {g : Nat} (hg : g < 4) : am_E m_X9_isOpenNow (d + 2) 0 0 [.ref m, .int (nn g)] Γ I L (.inl (some (.int (bi (opens (I (m + 1) (132 + g * 94 + 0)) (I (m + 1) (132 + g * 94 + 1)) (I (m + 1) 3 - I (m + 1) 3 / 24 * 24)))))) I L := by
  obtain ⟨o, r0, r1, r2, r3, r4, r7, r8, r13, r14, r15, r16, r17, a1, a2, a3, a4, a5, a6, a7, a8, a9, a10, a11, a12⟩ := id hm
  refine am_ofE rfl rfl rfl (Nat.le_of_ble_eq_true rfl) ?_
  refine bX9_isOpenNow_0 (by assumption) (by assumption) (by assumption) (nn_in (k := 3) (by decide) (by decide)) (Nat.zero_le _) (Nat.zero_le _) (eX9_opensAt hm hg _) ?_
  refine bX9_isOpenNow_14 (by first | exact bi_hz _ | rfl) ?_
  exact ⟨rfl, rfl, rfl⟩

def mOpen (w : Nat → Int32) : Nat → Int32 := fsum (fun g => bi (opens (w (132 + g * 94 + 0)) (w (132 + g * 94 + 1)) (w 3 - w 3 / 24 * 24)))
theorem eX9_openGates (hm : mdF Γ m) {N : Nat} (hG : I (m + 1) 2 = nn N) (h4 : N ≤ 4) : am_E m_X9_openGates (d + 3) 0 0 [.ref m] Γ I L (.inl (some (.int (mOpen (I (m + 1)) N)))) I L := by
  obtain ⟨o, r0, r1, r2, r3, r4, r7, r8, r13, r14, r15, r16, r17, a1, a2, a3, a4, a5, a6, a7, a8, a9, a10, a11, a12⟩ := id hm
  refine am_ofE rfl rfl rfl (Nat.le_of_ble_eq_true rfl) ?_
  refine bX9_openGates_0 ?_
  refine nn_loop (fun k => am_W m_X9_openGates (d + 3) 0 0 false 0 0 4 [(0, .ref m), (1, .int (mOpen (I (m + 1)) k)), (2, .int (nn k))] [] Γ I L (am_R (.inl (some (.int (mOpen (I (m + 1)) N)))) I L)) N ?_ (fun k hk ih => ?_)
  · refine bX9_openGates_4 o r0 a1 (nn_in (k := 2) (by decide) (by decide)) (fun _ => ?_) (fun h => absurd (Int32.le_of_eq (show I (m + 1) 2 = nn N from hG)) h)
    refine bX9_openGates_31 ?_
    exact ⟨rfl, rfl, rfl⟩
  · have e : ∀ v, mOpen (I (m + 1)) (k + 1) = v ↔ mOpen (I (m + 1)) k + bi (opens (I (m + 1) (132 + k * 94 + 0)) (I (m + 1) (132 + k * 94 + 1)) (I (m + 1) 3 - I (m + 1) 3 / 24 * 24)) = v := fun v => Iff.rfl
    refine bX9_openGates_4 o r0 a1 (nn_in (k := 2) (by decide) (by decide)) (fun h => absurd h (by show ¬ I (m + 1) 2 ≤ nn k; rw [hG, nn_le (by omega) (by omega)]; omega)) (fun _ => ?_)
    refine bX9_openGates_14 o (Nat.zero_le _) (Nat.zero_le _) (eX9_isOpenNow hm (by omega)) ?_
    refine bX9_openGates_19 (fun h => ?_) (fun h => ?_)
    · refine bX9_openGates_25 ?_
      refine aw_els ih ?_
      rw [(e _).mpr rfl, h, nn_s1]
      simp
    · refine bX9_openGates_22 ?_
      refine bX9_openGates_25 ?_
      refine aw_els ih ?_
      rw [(e _).mpr rfl, bi_nz.mp h, nn_s1]
      rfl
theorem eX9_allTypes (hm : mdF Γ m) {T : Nat} (hT : I (m + 1) 1 = nn T) (h8 : T ≤ 8) : am_E m_X9_allTypes d 0 0 [.ref m] Γ I L (.inl (some (.int (nn (2 ^ T - 1))))) I L := by
  obtain ⟨o, r0, r1, r2, r3, r4, r7, r8, r13, r14, r15, r16, r17, a1, a2, a3, a4, a5, a6, a7, a8, a9, a10, a11, a12⟩ := id hm
  refine am_ofE rfl rfl rfl (Nat.le_of_ble_eq_true rfl) ?_
  refine bX9_allTypes_0 o r0 a1 (nn_in (k := 1) (by decide) (by decide)) ?_
  refine am_R_e ?_ rfl rfl
  show (1 : Int32) <<< (I (m + 1) 1 &&& 31) - 1 = _
  rw [hT, nl_1, nn_shl (by omega), nn_sub (by rw [Nat.one_mul]; exact Nat.one_le_two_pow), Nat.one_mul]
theorem eX9_at {S l : Nat} (hS : S < 256) (hl : l ≤ 30) : am_E m_X9_at d 0 0 [.int (nn S), .int (nn l)] Γ I L (.inl (some (.int (nn (S * 31 + l))))) I L := by
  refine am_ofE rfl rfl rfl (Nat.le_of_ble_eq_true rfl) ?_
  refine bX9_at_0 ?_
  refine am_R_e ?_ rfl rfl
  rw [nl_31, nn_mul, nn_add, Nat.mul_comm]

variable {g Q T : Nat} {qc ty tl ct : Nat → Nat}
theorem eX9_yesOf (hm : mdF Γ m) (hd : mda (I (m + 1)) g Q T qc ty tl ct) {S q : Nat} (hS : S < 256) (hq : q < 6) : am_E m_X9_yesOf (d + 2) 0 0 [.ref m, .int (nn S), .int (nn q)] Γ I L (.inl (some (.int (nn (S &&& yse T ty q))))) I L := by
  obtain ⟨o, r0, r1, r2, r3, r4, r7, r8, r13, r14, r15, r16, r17, a1, a2, a3, a4, a5, a6, a7, a8, a9, a10, a11, a12⟩ := id hm
  obtain ⟨hQ, hT, hQ6, hT0, hT8, hqs, hts⟩ := id hd
  refine am_ofE rfl rfl rfl (Nat.le_of_ble_eq_true rfl) ?_
  refine bX9_yesOf_0 ?_
  unfold yse
  rw [← msk_and]
  refine nn_loop (fun j => am_W m_X9_yesOf (d + 2) 0 0 false 0 0 5 [(0, .ref m), (1, .int (nn S)), (2, .int (nn q)), (3, .int (nn (msk (fun t => S.testBit t && (ty t).testBit q) j))), (4, .int (nn j))] [] Γ I L (am_R (.inl (some (.int (nn (msk (fun t => S.testBit t && (ty t).testBit q) T))))) I L)) T ?_ (fun j hj ih => ?_)
  · refine bX9_yesOf_5 o r0 a1 (nn_in (k := 1) (by decide) (by decide)) (fun _ => ?_) (fun h => absurd (Int32.le_of_eq (show I (m + 1) 1 = nn T from hT)) h)
    refine bX9_yesOf_48 ?_
    exact ⟨rfl, rfl, rfl⟩
  · have ml := msk_lt (fun t => S.testBit t && (ty t).testBit q) j
    have p7 := two_le7 (t := j) (by omega)
    have e : msk (fun t => S.testBit t && (ty t).testBit q) (j + 1) = msk (fun t => S.testBit t && (ty t).testBit q) j + if (S.testBit j && (ty j).testBit q) = true then 2 ^ j else 0 := rfl
    obtain ⟨-, -, ety, lty, -, -⟩ := hts j hj
    have nx : ∀ b : Bool, (S.testBit j && (ty j).testBit q) = b → nn (msk (fun t => S.testBit t && (ty t).testBit q) (j + 1)) = if b then nn (msk (fun t => S.testBit t && (ty t).testBit q) j) ||| 1 <<< (nn j &&& 31) else nn (msk (fun t => S.testBit t && (ty t).testBit q) j) := by
      intro b hb
      rw [e, hb]
      cases b
      · simp
      · rw [if_pos rfl, if_pos rfl, nl_1, nn_shl (by omega), Nat.one_mul, nn_or, or_pow ml]
    refine bX9_yesOf_5 o r0 a1 (nn_in (k := 1) (by decide) (by decide)) (fun h => absurd h (by show ¬ I (m + 1) 1 ≤ nn j; rw [hT, nn_le (by omega) (by omega)]; omega)) (fun _ => ?_)
    refine bX9_yesOf_16 (Nat.zero_le _) (Nat.zero_le _) (eX9_has (by omega) (by omega)) ?_
    refine bX9_yesOf_22 (fun h => ?_) (fun h => ?_)
    · refine bX9_yesOf_42 ?_
      refine aw_els ih ?_
      rw [nx false (by rw [bi_z.mp h]; rfl), nn_s1]; rfl
    · refine bX9_yesOf_25 o (Nat.zero_le _) (Nat.zero_le _) (eX9_saysYes hm (by omega) (by omega) ety (by omega)) ?_
      refine bX9_yesOf_32 (fun h2 => ?_) (fun h2 => ?_)
      · refine bX9_yesOf_42 ?_
        refine aw_els ih ?_
        rw [nx false (by rw [bi_z.mp h2, Bool.and_false]), nn_s1]; rfl
      · refine bX9_yesOf_35 ?_
        refine bX9_yesOf_42 ?_
        refine aw_els ih ?_
        rw [nx true (by rw [bi_nz.mp h, bi_nz.mp h2]; rfl), nn_s1]; rfl
theorem eX9_withToll (hm : mdF Γ m) (hg : g < 4) (hd : mda (I (m + 1)) g Q T qc ty tl ct) {S v : Nat} (hS : S < 256) (hv : v ≤ 99) : am_E m_X9_withToll (d + 2) 0 0 [.ref m, .int (nn g), .int (nn S), .int (nn v)] Γ I L (.inl (some (.int (nn (wtl T tl ct S v))))) I L := by
  obtain ⟨o, r0, r1, r2, r3, r4, r7, r8, r13, r14, r15, r16, r17, a1, a2, a3, a4, a5, a6, a7, a8, a9, a10, a11, a12⟩ := id hm
  obtain ⟨hQ, hT, hQ6, hT0, hT8, hqs, hts⟩ := id hd
  refine am_ofE rfl rfl rfl (Nat.le_of_ble_eq_true rfl) ?_
  refine bX9_withToll_0 ?_
  unfold wtl
  refine nn_loop (fun j => am_W m_X9_withToll (d + 2) 0 0 false 0 0 6 [(0, .ref m), (1, .int (nn g)), (2, .int (nn S)), (3, .int (nn v)), (4, .int (nn (nsum (fun t => if (S.testBit t && decide (tl t = v)) = true then ct t else 0) j))), (5, .int (nn j))] [] Γ I L (am_R (.inl (some (.int (nn (nsum (fun t => if (S.testBit t && decide (tl t = v)) = true then ct t else 0) T))))) I L)) T ?_ (fun j hj ih => ?_)
  · refine bX9_withToll_6 o r0 a1 (nn_in (k := 1) (by decide) (by decide)) (fun _ => ?_) (fun h => absurd (Int32.le_of_eq (show I (m + 1) 1 = nn T from hT)) h)
    refine bX9_withToll_55 ?_
    exact ⟨rfl, rfl, rfl⟩
  · obtain ⟨etl, ltl, -, -, ect, lct⟩ := hts j hj
    have e : nsum (fun t => if (S.testBit t && decide (tl t = v)) = true then ct t else 0) (j + 1) = nsum (fun t => if (S.testBit t && decide (tl t = v)) = true then ct t else 0) j + if (S.testBit j && decide (tl j = v)) = true then ct j else 0 := rfl
    refine bX9_withToll_6 o r0 a1 (nn_in (k := 1) (by decide) (by decide)) (fun h => absurd h (by show ¬ I (m + 1) 1 ≤ nn j; rw [hT, nn_le (by omega) (by omega)]; omega)) (fun _ => ?_)
    refine bX9_withToll_17 (Nat.zero_le _) (Nat.zero_le _) (eX9_has (by omega) (by omega)) ?_
    refine bX9_withToll_23 (fun h => ?_) (fun h => ?_)
    · refine bX9_withToll_49 ?_
      refine aw_els ih ?_
      rw [e, bi_z.mp h, nn_s1]; rfl
    · refine bX9_withToll_26 o (Nat.zero_le _) (Nat.zero_le _) (eX9_ofType (k := 0) hm (by omega) (by decide)) ?_
      refine bX9_withToll_33 (fun h2 => ?_) (fun h2 => ?_)
      · rw [Nat.add_zero (60 + j * 9), etl, nn_eq (by omega) (by omega)] at h2
        refine bX9_withToll_49 ?_
        refine aw_els ih ?_
        rw [e, decide_eq_false h2, Bool.and_false, nn_s1]; rfl
      · rw [Nat.add_zero (60 + j * 9), etl, nn_eq (by omega) (by omega)] at h2
        refine bX9_withToll_37 o (Nat.zero_le _) (Nat.zero_le _) (eX9_count hm hg (by omega)) ?_
        refine bX9_withToll_46 ?_
        refine bX9_withToll_49 ?_
        refine aw_els ih ?_
        rw [e, decide_eq_true h2, bi_nz.mp h, nn_s1, ect, nn_add]; rfl
theorem eX9_bestToll (hm : mdF Γ m) (hg : g < 4) (hd : mda (I (m + 1)) g Q T qc ty tl ct) {S : Nat} (h0 : 0 < S) (hS : S < 2 ^ T) : am_E m_X9_bestToll (d + 3) 0 0 [.ref m, .int (nn g), .int (nn S)] Γ I L (.inl (some (.int (nn (bt T tl ct S))))) I L ∧ isBT T tl ct S (bt T tl ct S) := by
  obtain ⟨o, r0, r1, r2, r3, r4, r7, r8, r13, r14, r15, r16, r17, a1, a2, a3, a4, a5, a6, a7, a8, a9, a10, a11, a12⟩ := id hm
  obtain ⟨hQ, hT, hQ6, hT0, hT8, hqs, hts⟩ := id hd
  have p8 := two_le8 hT8
  have w8 := wt_le (T := T) (ct := ct) hT8 (fun t h => (hts t h).2.2.2.2.2)
  have wl : ∀ v, wtl T tl ct S v ≤ 79992 := fun v => Nat.le_trans (wtl_le S v) (w8 S)
  have loop := nn_loop (fun t => ∀ best : Int32, ((best = -1 ∧ ∀ u, u < t → S.testBit u = false) ∨ (∃ v, v ≤ 99 ∧ best = nn v ∧ (∃ u, u < T ∧ S.testBit u = true ∧ tl u = v) ∧ ∀ u, u < t → S.testBit u = true → wtl T tl ct S (tl u) < wtl T tl ct S v ∨ (wtl T tl ct S (tl u) = wtl T tl ct S v ∧ v ≤ tl u))) →
      ∃ v, isBT T tl ct S v ∧ am_W m_X9_bestToll (d + 3) 0 0 false 0 0 5 [(0, .ref m), (1, .int (nn g)), (2, .int (nn S)), (3, .int best), (4, .int (nn t))] [] Γ I L (am_R (.inl (some (.int (nn v)))) I L)) T ?_ (fun t htT ih => ?_)
  · obtain ⟨v, hv, hW⟩ := loop (-1) (Or.inl ⟨rfl, fun u h => absurd h (Nat.not_lt_zero _)⟩)
    rw [bt_eq hv]
    refine ⟨am_ofE rfl rfl rfl (Nat.le_of_ble_eq_true rfl) ?_, hv⟩
    exact bX9_bestToll_0 hW
  · intro best hst
    rcases hst with ⟨-, h⟩ | ⟨v, v99, rfl, hu, hv⟩
    · obtain ⟨i, hi⟩ := bit_ex (Nat.ne_of_gt h0)
      rw [h i (bit_dom hS hi)] at hi
      cases hi
    · refine ⟨v, ⟨hu, hv⟩, ?_⟩
      refine bX9_bestToll_5 o r0 a1 (nn_in (k := 1) (by decide) (by decide)) (fun _ => ?_) (fun h => absurd (Int32.le_of_eq (show I (m + 1) 1 = nn T from hT)) h)
      refine bX9_bestToll_93 ?_
      exact ⟨rfl, rfl, rfl⟩
  · intro best hst
    obtain ⟨etl, ltl, -, -, ect, lct⟩ := hts t htT
    have wl1 := wl (tl t)
    cases hbt : S.testBit t
    · obtain ⟨v, hv, hW⟩ := ih best (by
        rcases hst with ⟨e1, h⟩ | ⟨v, v99, e1, hu, hv⟩
        · refine Or.inl ⟨e1, fun u hu => ?_⟩
          by_cases he : u < t
          · exact h u he
          · obtain rfl : u = t := by omega
            exact hbt
        · refine Or.inr ⟨v, v99, e1, hu, fun u hu2 hb => ?_⟩
          by_cases he : u < t
          · exact hv u he hb
          · obtain rfl : u = t := by omega
            rw [hbt] at hb; cases hb)
      refine ⟨v, hv, ?_⟩
      refine bX9_bestToll_5 o r0 a1 (nn_in (k := 1) (by decide) (by decide)) (fun h => absurd h (by show ¬ I (m + 1) 1 ≤ nn t; rw [hT, nn_le (by omega) (by omega)]; omega)) (fun _ => ?_)
      refine bX9_bestToll_16 (Nat.zero_le _) (Nat.zero_le _) (eX9_has (by omega) (by omega)) ?_
      refine bX9_bestToll_22 (fun h => absurd (by rw [hbt]; rfl) h) (fun _ => ?_)
      refine bX9_bestToll_25 ?_
      refine bX9_bestToll_87 ?_
      rw [nn_s1]
      exact hW
    · have head : ∀ v : Nat, am_W m_X9_bestToll (d + 3) 0 0 false 0 0 35 [(0, .ref m), (1, .int (nn g)), (2, .int (nn S)), (3, .int best), (4, .int (nn t))] [.int (nn (tl t))] Γ I L (am_R (.inl (some (.int (nn v)))) I L) → am_W m_X9_bestToll (d + 3) 0 0 false 0 0 5 [(0, .ref m), (1, .int (nn g)), (2, .int (nn S)), (3, .int best), (4, .int (nn t))] [] Γ I L (am_R (.inl (some (.int (nn v)))) I L) := by
        intro v h
        refine bX9_bestToll_5 o r0 a1 (nn_in (k := 1) (by decide) (by decide)) (fun h => absurd h (by show ¬ I (m + 1) 1 ≤ nn t; rw [hT, nn_le (by omega) (by omega)]; omega)) (fun _ => ?_)
        refine bX9_bestToll_16 (Nat.zero_le _) (Nat.zero_le _) (eX9_has (by omega) (by omega)) ?_
        refine bX9_bestToll_22 (fun _ => ?_) (fun h => absurd h (by rw [hbt]; decide))
        refine bX9_bestToll_28 o (Nat.zero_le _) (Nat.zero_le _) (eX9_ofType (k := 0) hm (by omega) (by decide)) ?_
        rw [Nat.add_zero (60 + t * 9), etl]
        exact h
      have take : (∀ u, u < t → S.testBit u = true → wtl T tl ct S (tl u) < wtl T tl ct S (tl t) ∨ (wtl T tl ct S (tl u) = wtl T tl ct S (tl t) ∧ tl t ≤ tl u)) → ∃ v, isBT T tl ct S v ∧ am_W m_X9_bestToll (d + 3) 0 0 false 0 0 84 [(0, .ref m), (1, .int (nn g)), (2, .int (nn S)), (3, .int best), (4, .int (nn t)), (5, .int (nn (tl t)))] [] Γ I L (am_R (.inl (some (.int (nn v)))) I L) := by
        intro h
        obtain ⟨v, hv, hW⟩ := ih (nn (tl t)) (Or.inr ⟨tl t, ltl, rfl, ⟨t, htT, hbt, rfl⟩, fun u hu hb => by
          by_cases he : u < t
          · exact h u he hb
          · obtain rfl : u = t := by omega
            exact Or.inr ⟨rfl, Nat.le_refl _⟩⟩)
        refine ⟨v, hv, ?_⟩
        refine bX9_bestToll_84 ?_
        refine aw_take 5 ?_
        refine bX9_bestToll_87 ?_
        rw [nn_s1]
        exact hW
      rcases hst with ⟨e1, h⟩ | ⟨v0, v99, e1, hu, hv⟩
      · obtain ⟨v, hv, hW⟩ := take (fun u hu hb => by rw [h u hu] at hb; cases hb)
        refine ⟨v, hv, head v ?_⟩
        exact bX9_bestToll_35 (fun _ => hW) (fun h => absurd e1 h)
      · have wl0 := wl v0
        subst e1
        have two : ∀ v : Nat, (wtl T tl ct S v0 < wtl T tl ct S (tl t) → am_W m_X9_bestToll (d + 3) 0 0 false 0 0 84 [(0, .ref m), (1, .int (nn g)), (2, .int (nn S)), (3, .int (nn v0)), (4, .int (nn t)), (5, .int (nn (tl t)))] [] Γ I L (am_R (.inl (some (.int (nn v)))) I L)) → (¬ wtl T tl ct S v0 < wtl T tl ct S (tl t) → am_W m_X9_bestToll (d + 3) 0 0 false 0 0 60 [(0, .ref m), (1, .int (nn g)), (2, .int (nn S)), (3, .int (nn v0)), (4, .int (nn t)), (5, .int (nn (tl t)))] [] Γ I L (am_R (.inl (some (.int (nn v)))) I L)) → am_W m_X9_bestToll (d + 3) 0 0 false 0 0 35 [(0, .ref m), (1, .int (nn g)), (2, .int (nn S)), (3, .int (nn v0)), (4, .int (nn t))] [.int (nn (tl t))] Γ I L (am_R (.inl (some (.int (nn v)))) I L) := by
          intro v k1 k2
          refine bX9_bestToll_35 (fun h => absurd h (nn_none (by omega))) (fun _ => ?_)
          refine bX9_bestToll_42 o (Nat.zero_le _) (Nat.zero_le _) (eX9_withToll hm hg hd (by omega) ltl) ?_
          refine bX9_bestToll_50 o (Nat.zero_le _) (Nat.zero_le _) (eX9_withToll hm hg hd (by omega) v99) ?_
          refine bX9_bestToll_57 (fun h => k1 ?_) (fun h => k2 ?_)
          · rw [nn_lt (by omega) (by omega)] at h; exact h
          · rw [nn_lt (by omega) (by omega)] at h; exact h
        by_cases g1 : wtl T tl ct S v0 < wtl T tl ct S (tl t)
        · obtain ⟨v, hv, hW⟩ := take (fun u hu hne => by
            rcases hv u hu hne with z | z
            · exact Or.inl (by omega)
            · exact Or.inl (by omega))
          exact ⟨v, hv, head v (two v (fun _ => hW) (fun h => absurd g1 h))⟩
        · by_cases g2 : wtl T tl ct S (tl t) = wtl T tl ct S v0 ∧ tl t < v0
          · obtain ⟨v, hv, hW⟩ := take (fun u hu hne => by
              rcases hv u hu hne with z | z
              · exact Or.inl (by omega)
              · exact Or.inr (by omega))
            refine ⟨v, hv, head v (two v (fun h => absurd h g1) (fun _ => ?_))⟩
            refine bX9_bestToll_60 o (Nat.zero_le _) (Nat.zero_le _) (eX9_withToll hm hg hd (by omega) ltl) ?_
            refine bX9_bestToll_68 o (Nat.zero_le _) (Nat.zero_le _) (eX9_withToll hm hg hd (by omega) v99) ?_
            refine bX9_bestToll_75 (fun h => absurd (by rw [g2.1]) h) (fun _ => ?_)
            exact bX9_bestToll_78 (fun h => absurd h (by rw [nn_le (by omega) (by omega)]; omega)) (fun _ => hW)
          · obtain ⟨v, hv, hW⟩ := ih (nn v0) (Or.inr ⟨v0, v99, rfl, hu, fun u hu2 hne => by
              by_cases he : u < t
              · exact hv u he hne
              · obtain rfl : u = t := by omega
                omega⟩)
            have tail : am_W m_X9_bestToll (d + 3) 0 0 false 0 0 87 [(0, .ref m), (1, .int (nn g)), (2, .int (nn S)), (3, .int (nn v0)), (4, .int (nn t)), (5, .int (nn (tl t)))] [] Γ I L (am_R (.inl (some (.int (nn v)))) I L) := by
              refine aw_take 5 ?_
              refine bX9_bestToll_87 ?_
              rw [nn_s1]
              exact hW
            refine ⟨v, hv, head v (two v (fun h => absurd h g1) (fun _ => ?_))⟩
            refine bX9_bestToll_60 o (Nat.zero_le _) (Nat.zero_le _) (eX9_withToll hm hg hd (by omega) ltl) ?_
            refine bX9_bestToll_68 o (Nat.zero_le _) (Nat.zero_le _) (eX9_withToll hm hg hd (by omega) v99) ?_
            refine bX9_bestToll_75 (fun _ => tail) (fun h => ?_)
            refine bX9_bestToll_78 (fun _ => tail) (fun h2 => absurd ?_ g2)
            rw [nn_eq (by omega) (by omega)] at h
            rw [nn_le (by omega) (by omega)] at h2
            exact ⟨h, by omega⟩
end M1
