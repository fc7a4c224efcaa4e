/-! CLASS AND MODEL SIDE BY SIDE: the relation; what is asked -/
def rdF (Γ : am_G) : Prop := am_ob Γ 81 3 ∧ Γ.2.2 81 0 = some 82 ∧ Γ.2.2 81 5 = some 45 ∧ Γ.2.2 81 6 = some 1 ∧ am_ar Γ 82 2 700 0
def otF (Γ : am_G) : Prop := am_ob Γ 447 2 ∧ Γ.2.2 447 0 = some 448 ∧ Γ.2.2 447 2 = some 449 ∧ am_ar Γ 448 2 87 0 ∧ am_ar Γ 449 1 22 0
/-- the cells of the law's world -/
def wF (Γ : am_G) : Prop := (am_ob Γ 0 8 ∧ Γ.2.2 0 0 = some 1 ∧ Γ.2.2 0 1 = some 9 ∧ Γ.2.2 0 2 = some 45 ∧ Γ.2.2 0 3 = some 81 ∧ Γ.2.2 0 4 = some 83 ∧ Γ.2.2 0 5 = some 373 ∧ Γ.2.2 0 6 = some 446 ∧ Γ.2.2 0 7 = some 447) ∧
  soF Γ 1 ∧ stF Γ 9 ∧ stF Γ 45 ∧ rdF Γ ∧ hiF Γ 83 ∧ (am_ar Γ 373 6 2 5 ∧ Γ.2.2 373 0 = some 374 ∧ Γ.2.2 373 1 = some 410 ∧ stF Γ 374 ∧ stF Γ 410 ∧ am_ar Γ 446 3 2 0) ∧ otF Γ ∧ mdF Γ 450 ∧ True ∧ True
/-- the row of an undo, of a saved state -/
def kR (I : am_I) (i : Nat) : Nat → Int32 := fun j => I 452 (508 * i + j)
def sR (I : am_I) (z : Nat) : Nat → Int32 := fun j => I 453 (508 * z + j)
def hiR (I : am_I) (L : am_L) : Prop := ∃ o s, I 83 1 = nn o ∧ I 83 2 = nn s ∧ o < 8 ∧ s ≤ 8 ∧ I 450 5 = nn s ∧ ∀ i, i < s → wfs (kR I i) ∧ stR I L (hs 83 ((o + i) % 8)) (kR I i)
def svR (I : am_I) (L : am_L) : Prop := ∀ z, z < 2 → I 446 z = I 455 z ∧ (I 455 z = 0 ∨ (I 455 z = 1 ∧ wfs (sR I z) ∧ stR I L (374 + 36 * z) (sR I z)))
def rdR (I : am_I) : Prop := ∃ n, n ≤ 700 ∧ I 81 1 = nn n ∧ I 450 9 = nn n ∧ ∀ j, j < n → ∃ c, c < 256 ∧ I 456 j = nn c ∧ I 82 j = (nn c).toInt8.toInt32
def otR (I : am_I) : Prop := ∃ n, n ≤ 87 ∧ I 447 1 = nn n ∧ I 450 10 = nn n ∧ ∀ j, j < n → I 448 j = I 457 j
def REL (I : am_I) (L : am_L) : Prop := wfs (I 451) ∧ stR I L 9 (I 451) ∧ hiR I L ∧ svR I L ∧ rdR I ∧ (I 81 2 = I 450 11 ∧ I 81 3 = I 450 12) ∧ otR I
theorem hiR.fr {I I' : am_I} {L L' : am_L} (h : hiR I L) (e : ∀ c, 83 ≤ c → c < 373 → I' c = I c) (e2 : I' 450 5 = I 450 5) (e3 : I' 452 = I 452) (eL : ∀ c, 83 ≤ c → c < 373 → L' c = L c) : hiR I' L' := by
  obtain ⟨o, s, h1, h2, h3, h4, h5, h6⟩ := h
  refine ⟨o, s, by rw [e 83 (by decide) (by decide)]; exact h1, by rw [e 83 (by decide) (by decide)]; exact h2, h3, h4, e2.trans h5, fun i hi => ?_⟩
  have ek : kR I' i = kR I i := by unfold kR; rw [e3]
  rw [ek]
  obtain ⟨a, b⟩ := h6 i hi
  have hm : (o + i) % 8 < 8 := Nat.mod_lt _ (by decide)
  have he : hs 83 ((o + i) % 8) = 83 + (2 + 36 * ((o + i) % 8)) := rfl
  exact ⟨a, b.fr a.1.2.2.1.2 (fun c c1 c2 => e c (by omega) (by omega)) (fun c c1 c2 => eL c (by omega) (by omega))⟩
theorem svR.fr {I I' : am_I} {L L' : am_L} (h : svR I L) (e : ∀ c, 374 ≤ c → c < 447 → I' c = I c) (e2 : I' 455 = I 455) (e3 : I' 453 = I 453) (eL : ∀ c, 374 ≤ c → c < 447 → L' c = L c) : svR I' L' := by
  intro z hz
  obtain ⟨h1, h2⟩ := h z hz
  have ek : sR I' z = sR I z := by unfold sR; rw [e3]
  rw [ek, e 446 (by decide) (by decide), e2]
  refine ⟨h1, h2.imp id (fun ⟨a, b, c⟩ => ⟨a, b, c.fr b.1.2.2.1.2 (fun c c1 c2 => e c (by omega) (by omega)) (fun c c1 c2 => eL c (by omega) (by omega))⟩)⟩
/-- what the relation doesn't speak of may change -/
theorem REL.fr {I I' : am_I} {L L' : am_L} (h : REL I L) (e : ∀ c, 9 ≤ c → c < 457 → ¬ (45 ≤ c ∧ c < 82) → c ≠ 450 → c ≠ 454 → I' c = I c) (e7 : I' 457 = I 457) (e81 : I' 81 1 = I 81 1 ∧ I' 81 2 = I 81 2 ∧ I' 81 3 = I 81 3)
    (em : I' 450 5 = I 450 5 ∧ I' 450 9 = I 450 9 ∧ I' 450 10 = I 450 10 ∧ I' 450 11 = I 450 11 ∧ I' 450 12 = I 450 12) (eL : ∀ c, 9 ≤ c → c < 450 → ¬ (45 ≤ c ∧ c < 82) → L' c = L c) : REL I' L' := by
  obtain ⟨h1, h2, h3, h4, h5, h6, h7⟩ := h
  have e451 : I' 451 = I 451 := e _ (by decide) (by decide) (by decide) (by decide) (by decide)
  refine ⟨by rw [e451]; exact h1, by rw [e451]; exact h2.fr h1.1.2.2.1.2 (fun c c1 c2 => e c (by omega) (by omega) (by omega) (by omega) (by omega)) (fun c c1 c2 => eL c (by omega) (by omega) (by omega)), h3.fr (fun c c1 c2 => e c (by omega) (by omega) (by omega) (by omega) (by omega)) em.1 (e _ (by decide) (by decide) (by decide) (by decide) (by decide)) (fun c c1 c2 => eL c (by omega) (by omega) (by omega)), h4.fr (fun c c1 c2 => e c (by omega) (by omega) (by omega) (by omega) (by omega)) (e _ (by decide) (by decide) (by decide) (by decide) (by decide)) (e _ (by decide) (by decide) (by decide) (by decide) (by decide)) (fun c c1 c2 => eL c (by omega) (by omega) (by omega)), ?_, by rw [e81.2.1, e81.2.2, em.2.2.2.1, em.2.2.2.2]; exact h6, ?_⟩
  · obtain ⟨n, n1, n2, n3, n4⟩ := h5
    refine ⟨n, n1, e81.1.trans n2, em.2.1.trans n3, fun j hj => ?_⟩
    rw [e 456 (by decide) (by decide) (by decide) (by decide) (by decide), e 82 (by decide) (by decide) (by decide) (by decide) (by decide)]
    exact n4 j hj
  · obtain ⟨n, n1, n2, n3, n4⟩ := h7
    refine ⟨n, n1, by rw [e 447 (by decide) (by decide) (by decide) (by decide) (by decide)]; exact n2, em.2.2.1.trans n3, fun j hj => ?_⟩
    rw [e 448 (by decide) (by decide) (by decide) (by decide) (by decide), e7]
    exact n4 j hj
theorem REL.thr {I : am_I} {L : am_L} (h : REL I L) (v : Int32) : REL (am_u I 450 6 v) L :=
  h.fr (fun c _ _ _ c4 _ => am_u_ne c4) (am_u_ne (by decide)) ⟨rfl, rfl, rfl⟩ ⟨by rw [am_u_at, if_neg (by decide)], by rw [am_u_at, if_neg (by decide)], by rw [am_u_at, if_neg (by decide)], by rw [am_u_at, if_neg (by decide)], by rw [am_u_at, if_neg (by decide)]⟩ (fun _ _ _ _ => rfl)
/-- one call on either side: they answer alike, or the class throws what the model tells -/
def gX (Γ : am_G) (I : am_I) (L : am_L) (mC mM : am_M) (as : List Value) (exs : List String) : Prop := ∃ (I1 : am_I) (L1 : am_L) (I2 : am_I) (o : am_O) (v : Int32), am_E mC 270 1 6 (.ref 0 :: as) Γ I L o I1 L1 ∧ am_E mM 280 0 0 (.ref 450 :: as) Γ I1 L1 (.inl (some (.int v))) I2 L1 ∧ REL I2 L1 ∧
  ((o = .inl (some (.int v)) ∧ I2 450 6 = 0) ∨ ∃ i E, exs[i]? = some E ∧ o = .inr E ∧ I2 450 6 = nn (i + 1))
theorem inR_t {g G : Nat} (h : g < G) (hG : G < 2147483648) : inR (nn g) 0 (nn G - 1) = true := by
  unfold inR
  rw [nl_1, nn_sub (by omega), decide_eq_true (nn_neg_le (by omega)), decide_eq_true ((nn_le (by omega) (by omega)).mpr (by omega))]
  rfl
theorem inR_f {p : Int32} {G : Nat} (hG : G < 1000) (h : ¬ ∃ g, g < G ∧ p = nn g) : inR p 0 (nn G - 1) = false := by
  unfold inR
  cases h0 : decide (0 ≤ p)
  · rfl
  · cases h1 : decide (p ≤ nn G - 1)
    · rfl
    · rw [decide_eq_true_eq] at h0 h1
      refine absurd ?_ h
      have e : p = nn p.toNatClampNeg := (Int32.ofNat_toNatClampNeg p h0).symm
      have hv := Int32.toNatClampNeg_lt p
      by_cases hz : G = 0
      · subst hz
        have : (0 : Int32) ≤ nn 0 - 1 := Int32.le_trans h0 h1
        exact absurd this (by decide)
      · rw [e, nl_1, nn_sub (by omega), nn_le (by omega) (by omega)] at h1
        exact ⟨p.toNatClampNeg, by omega, e⟩
theorem rg_f {p : Int32} {G : Nat} (hG : G < 1000) (h : ¬ ∃ g, g < G ∧ p = nn g) : p < 0 ∨ ¬ p < nn G := by
  by_cases h0 : p < 0
  · exact Or.inl h0
  · refine Or.inr (fun h1 => h ?_)
    have h0' : 0 ≤ p := Int32.not_lt.mp h0
    have e : p = nn p.toNatClampNeg := (Int32.ofNat_toNatClampNeg p h0').symm
    have hv := Int32.toNatClampNeg_lt p
    rw [e, nn_lt (by omega) (by omega)] at h1
    exact ⟨_, h1, e⟩
section F1
variable {d mc ms : Nat} {Γ : am_G} {I : am_I} {L : am_L} {m : Nat}

theorem eX8_requireQuestion_t (hF : wF Γ) {g G : Nat} (hG : I 9 0 = nn G) (h : g < G) (h8 : G < 1000) : am_E m_X8_requireQuestion d mc ms [.ref 0, .int (nn g)] Γ I L (.inl none) I L := by
  obtain ⟨⟨o, f0, f1, -⟩, -, st, -⟩ := hF
  refine am_ofE rfl rfl rfl (Nat.le_of_ble_eq_true rfl) ?_
  refine bX8_requireQuestion_0 (fun z => absurd z (nn_neg_lt (by omega))) (fun _ => ?_)
  refine bX8_requireQuestion_4 o f1 st.1 (fun _ => ?_) (fun z => absurd ((nn_lt (by omega) (by omega)).mpr h) (by rw [← hG]; exact z))
  refine bX8_requireQuestion_23 ?_
  exact ⟨rfl, rfl, rfl⟩
theorem eX8_requireQuestion_f (hF : wF Γ) {p : Int32} {G : Nat} (hG : I 9 0 = nn G) (h : ¬ ∃ g, g < G ∧ p = nn g) (h8 : G < 1000) : am_E m_X8_requireQuestion d 1 6 [.ref 0, .int p] Γ I L (.inr "java/lang/IndexOutOfBoundsException") I L := by
  obtain ⟨⟨o, f0, f1, -⟩, -, st, -⟩ := hF
  refine am_ofE rfl rfl rfl (Nat.le_of_ble_eq_true rfl) ?_
  have hr := rg_f h8 h
  refine bX8_requireQuestion_0 (fun z => ?_) (fun z => ?_)
  · refine bX8_requireQuestion_15 (by decide) (by decide) ?_
    exact ⟨rfl, rfl, rfl⟩
  · refine bX8_requireQuestion_4 o f1 st.1 (fun z2 => absurd z2 (by rw [hG]; exact hr.resolve_left z)) (fun _ => ?_)
    refine bX8_requireQuestion_15 (by decide) (by decide) ?_
    exact ⟨rfl, rfl, rfl⟩
theorem eX9_noQuestion_t (hm : mdF Γ m) {g G : Nat} (hG : I (m + 1) 0 = nn G) (h : g < G) (h8 : G < 1000) : am_E m_X9_noQuestion (d + 1) 0 0 [.ref m, .int (nn g)] Γ I L (.inl (some (.int 0))) I L :=
  am_E_e (eX9_noQuestion hm (nn g)) (by rw [hG, inR_t h (by omega)]; rfl) rfl
theorem eX9_noQuestion_f (hm : mdF Γ m) {p : Int32} {G : Nat} (hG : I (m + 1) 0 = nn G) (h : ¬ ∃ g, g < G ∧ p = nn g) (h8 : G < 1000) : am_E m_X9_noQuestion (d + 1) 0 0 [.ref m, .int p] Γ I L (.inl (some (.int 1))) I L :=
  am_E_e (eX9_noQuestion hm p) (by rw [hG, inR_f h8 h]; rfl) rfl

theorem eX8_requireType_t (hF : wF Γ) {g G : Nat} (hG : I 9 1 = nn G) (h : g < G) (h8 : G < 1000) : am_E m_X8_requireType d mc ms [.ref 0, .int (nn g)] Γ I L (.inl none) I L := by
  obtain ⟨⟨o, f0, f1, -⟩, -, st, -⟩ := hF
  refine am_ofE rfl rfl rfl (Nat.le_of_ble_eq_true rfl) ?_
  refine bX8_requireType_0 (fun z => absurd z (nn_neg_lt (by omega))) (fun _ => ?_)
  refine bX8_requireType_4 o f1 st.1 (fun _ => ?_) (fun z => absurd ((nn_lt (by omega) (by omega)).mpr h) (by rw [← hG]; exact z))
  refine bX8_requireType_23 ?_
  exact ⟨rfl, rfl, rfl⟩
theorem eX8_requireType_f (hF : wF Γ) {p : Int32} {G : Nat} (hG : I 9 1 = nn G) (h : ¬ ∃ g, g < G ∧ p = nn g) (h8 : G < 1000) : am_E m_X8_requireType d 1 6 [.ref 0, .int p] Γ I L (.inr "java/lang/IndexOutOfBoundsException") I L := by
  obtain ⟨⟨o, f0, f1, -⟩, -, st, -⟩ := hF
  refine am_ofE rfl rfl rfl (Nat.le_of_ble_eq_true rfl) ?_
  have hr := rg_f h8 h
  refine bX8_requireType_0 (fun z => ?_) (fun z => ?_)
  · refine bX8_requireType_15 (by decide) (by decide) ?_
    exact ⟨rfl, rfl, rfl⟩
  · refine bX8_requireType_4 o f1 st.1 (fun z2 => absurd z2 (by rw [hG]; exact hr.resolve_left z)) (fun _ => ?_)
    refine bX8_requireType_15 (by decide) (by decide) ?_
    exact ⟨rfl, rfl, rfl⟩
theorem eX9_noType_t (hm : mdF Γ m) {g G : Nat} (hG : I (m + 1) 1 = nn G) (h : g < G) (h8 : G < 1000) : am_E m_X9_noType (d + 1) 0 0 [.ref m, .int (nn g)] Γ I L (.inl (some (.int 0))) I L :=
  am_E_e (eX9_noType hm (nn g)) (by rw [hG, inR_t h (by omega)]; rfl) rfl
theorem eX9_noType_f (hm : mdF Γ m) {p : Int32} {G : Nat} (hG : I (m + 1) 1 = nn G) (h : ¬ ∃ g, g < G ∧ p = nn g) (h8 : G < 1000) : am_E m_X9_noType (d + 1) 0 0 [.ref m, .int p] Γ I L (.inl (some (.int 1))) I L :=
  am_E_e (eX9_noType hm p) (by rw [hG, inR_f h8 h]; rfl) rfl

theorem eX8_requireGate_t (hF : wF Γ) {g G : Nat} (hG : I 9 2 = nn G) (h : g < G) (h8 : G < 1000) : am_E m_X8_requireGate d mc ms [.ref 0, .int (nn g)] Γ I L (.inl none) I L := by
  obtain ⟨⟨o, f0, f1, -⟩, -, st, -⟩ := hF
  refine am_ofE rfl rfl rfl (Nat.le_of_ble_eq_true rfl) ?_
  refine bX8_requireGate_0 (fun z => absurd z (nn_neg_lt (by omega))) (fun _ => ?_)
  refine bX8_requireGate_4 o f1 st.1 (fun _ => ?_) (fun z => absurd ((nn_lt (by omega) (by omega)).mpr h) (by rw [← hG]; exact z))
  refine bX8_requireGate_23 ?_
  exact ⟨rfl, rfl, rfl⟩
theorem eX8_requireGate_f (hF : wF Γ) {p : Int32} {G : Nat} (hG : I 9 2 = nn G) (h : ¬ ∃ g, g < G ∧ p = nn g) (h8 : G < 1000) : am_E m_X8_requireGate d 1 6 [.ref 0, .int p] Γ I L (.inr "java/lang/IndexOutOfBoundsException") I L := by
  obtain ⟨⟨o, f0, f1, -⟩, -, st, -⟩ := hF
  refine am_ofE rfl rfl rfl (Nat.le_of_ble_eq_true rfl) ?_
  have hr := rg_f h8 h
  refine bX8_requireGate_0 (fun z => ?_) (fun z => ?_)
  · refine bX8_requireGate_15 (by decide) (by decide) ?_
    exact ⟨rfl, rfl, rfl⟩
  · refine bX8_requireGate_4 o f1 st.1 (fun z2 => absurd z2 (by rw [hG]; exact hr.resolve_left z)) (fun _ => ?_)
    refine bX8_requireGate_15 (by decide) (by decide) ?_
    exact ⟨rfl, rfl, rfl⟩
theorem eX9_noGate_t (hm : mdF Γ m) {g G : Nat} (hG : I (m + 1) 2 = nn G) (h : g < G) (h8 : G < 1000) : am_E m_X9_noGate (d + 1) 0 0 [.ref m, .int (nn g)] Γ I L (.inl (some (.int 0))) I L :=
  am_E_e (eX9_noGate hm (nn g)) (by rw [hG, inR_t h (by omega)]; rfl) rfl
theorem eX9_noGate_f (hm : mdF Γ m) {p : Int32} {G : Nat} (hG : I (m + 1) 2 = nn G) (h : ¬ ∃ g, g < G ∧ p = nn g) (h8 : G < 1000) : am_E m_X9_noGate (d + 1) 0 0 [.ref m, .int p] Γ I L (.inl (some (.int 1))) I L :=
  am_E_e (eX9_noGate hm p) (by rw [hG, inR_f h8 h]; rfl) rfl

theorem eX9_fails0 (hm : mdF Γ m) : am_E m_X9_fails d 0 0 [.ref m, .int 0, .int 0, .int 0] Γ I L (.inl (some (.int 0))) (am_u I m 6 0) L := eX9_fails hm false false false
theorem eX9_fails1 (hm : mdF Γ m) : am_E m_X9_fails d 0 0 [.ref m, .int 1, .int 0, .int 0] Γ I L (.inl (some (.int 1))) (am_u I m 6 1) L := eX9_fails hm true false false
theorem eX8_requireNode_t (hF : wF Γ) {g G n N : Nat} (hG : I 9 2 = nn G) (h : g < G) (h4 : G ≤ 4) (hN : I (gc 9 g + 2) 0 = nn N) (hn : n < N) (h15 : N ≤ 15) : am_E m_X8_requireNode (d + 1) mc ms [.ref 0, .int (nn g), .int (nn n)] Γ I L (.inl none) I L := by
  obtain ⟨⟨o, f0, f1, -⟩, -, st, -⟩ := id hF
  obtain ⟨ob, s4, s5, s6, s7, s8, s9, s10, b1, b2, b3, b4, b5, b6, o7, hg⟩ := id st
  obtain ⟨hg1, og, g4, g5, gr, tr⟩ := hg g (by omega)
  refine am_ofE rfl rfl rfl (Nat.le_of_ble_eq_true rfl) ?_
  refine bX8_requireNode_0 o (Nat.zero_le _) (Nat.zero_le _) (eX8_requireGate_t (mc := 0) (ms := 0) hF hG h (by omega)) ?_
  refine bX8_requireNode_5 (fun z => absurd z (nn_neg_lt (by omega))) (fun _ => ?_)
  refine bX8_requireNode_9 o f1 ob s9 b6 (nn_in (by omega) (by omega)) (by rw [nn_nat (by omega)]; exact hg1) og g5 tr.1 (fun _ => ?_) (fun z => absurd ((nn_lt (by omega) (by omega)).mpr hn) (by rw [← hN]; exact z))
  refine bX8_requireNode_36 ?_
  exact ⟨rfl, rfl, rfl⟩
theorem eX8_requireNode_f (hF : wF Γ) {g G N : Nat} {p : Int32} (hG : I 9 2 = nn G) (h : g < G) (h4 : G ≤ 4) (hN : I (gc 9 g + 2) 0 = nn N) (hn : ¬ ∃ n, n < N ∧ p = nn n) (h15 : N ≤ 15) : am_E m_X8_requireNode (d + 1) 1 6 [.ref 0, .int (nn g), .int p] Γ I L (.inr "java/lang/IndexOutOfBoundsException") I L := by
  obtain ⟨⟨o, f0, f1, -⟩, -, st, -⟩ := id hF
  obtain ⟨ob, s4, s5, s6, s7, s8, s9, s10, b1, b2, b3, b4, b5, b6, o7, hg⟩ := id st
  obtain ⟨hg1, og, g4, g5, gr, tr⟩ := hg g (by omega)
  have hr := rg_f (by omega) hn
  refine am_ofE rfl rfl rfl (Nat.le_of_ble_eq_true rfl) ?_
  refine bX8_requireNode_0 o (Nat.zero_le _) (Nat.zero_le _) (eX8_requireGate_t (mc := 0) (ms := 0) hF hG h (by omega)) ?_
  refine bX8_requireNode_5 (fun z => ?_) (fun z => ?_)
  · refine bX8_requireNode_28 (by decide) (by decide) ?_
    exact ⟨rfl, rfl, rfl⟩
  · refine bX8_requireNode_9 o f1 ob s9 b6 (nn_in (by omega) (by omega)) (by rw [nn_nat (by omega)]; exact hg1) og g5 tr.1 (fun z2 => absurd z2 (by rw [hN]; exact hr.resolve_left z)) (fun _ => ?_)
    refine bX8_requireNode_28 (by decide) (by decide) ?_
    exact ⟨rfl, rfl, rfl⟩
theorem eX8_requireNode_x (hF : wF Γ) {G : Nat} {u p : Int32} (hG : I 9 2 = nn G) (h : ¬ ∃ g, g < G ∧ u = nn g) (h4 : G ≤ 4) : am_E m_X8_requireNode (d + 1) 1 6 [.ref 0, .int u, .int p] Γ I L (.inr "java/lang/IndexOutOfBoundsException") I L := by
  refine am_ofE rfl rfl rfl (Nat.le_of_ble_eq_true rfl) ?_
  refine bX8_requireNode_0x hF.1.1 (by decide) (by decide) (eX8_requireGate_f hF hG h (by omega)) ?_
  exact ⟨rfl, rfl, rfl⟩
theorem eX8_requireRange_t {v lo hi : Int32} (h1 : ¬ v < lo) (h2 : v ≤ hi) : am_E m_X8_requireRange d mc ms [.int v, .int lo, .int hi] Γ I L (.inl none) I L := by
  refine am_ofE rfl rfl rfl (Nat.le_of_ble_eq_true rfl) ?_
  refine bX8_requireRange_0 (fun z => absurd z h1) (fun _ => ?_)
  refine bX8_requireRange_5 (fun _ => ?_) (fun z => absurd h2 z)
  refine bX8_requireRange_18 ?_
  exact ⟨rfl, rfl, rfl⟩
theorem eX8_requireRange_f {v lo hi : Int32} (h : inR v lo hi = false) : am_E m_X8_requireRange d 1 6 [.int v, .int lo, .int hi] Γ I L (.inr "java/lang/IllegalArgumentException") I L := by
  refine am_ofE rfl rfl rfl (Nat.le_of_ble_eq_true rfl) ?_
  refine bX8_requireRange_0 (fun z => ?_) (fun z => ?_)
  · refine bX8_requireRange_10 (by decide) (by decide) ?_
    exact ⟨rfl, rfl, rfl⟩
  · refine bX8_requireRange_5 (fun z2 => ?_) (fun z2 => ?_)
    · unfold inR at h
      rw [decide_eq_true (Int32.not_lt.mp z), decide_eq_true z2] at h
      cases h
    · refine bX8_requireRange_10 (by decide) (by decide) ?_
      exact ⟨rfl, rfl, rfl⟩
theorem eX9_noNode_t (hm : mdF Γ m) {g G n N : Nat} (hG : I (m + 1) 2 = nn G) (h : g < G) (h4 : G ≤ 4) (hN : I (m + 1) (132 + g * 94 + 18) = nn N) (hn : n < N) (h15 : N ≤ 15) : am_E m_X9_noNode (d + 2) 0 0 [.ref m, .int (nn g), .int (nn n)] Γ I L (.inl (some (.int 0))) I L :=
  am_E_e (eX9_noNode hm (by omega) (by rw [hG]; exact inR_t h (by omega)) (nn n)) (by rw [hN, inR_t hn (by omega)]; rfl) rfl
theorem eX9_noNode_f (hm : mdF Γ m) {g G N : Nat} {p : Int32} (hG : I (m + 1) 2 = nn G) (h : g < G) (h4 : G ≤ 4) (hN : I (m + 1) (132 + g * 94 + 18) = nn N) (hn : ¬ ∃ n, n < N ∧ p = nn n) (h15 : N ≤ 15) : am_E m_X9_noNode (d + 2) 0 0 [.ref m, .int (nn g), .int p] Γ I L (.inl (some (.int 1))) I L :=
  am_E_e (eX9_noNode hm (by omega) (by rw [hG]; exact inR_t h (by omega)) p) (by rw [hN, inR_f (by omega) hn]; rfl) rfl
theorem eX9_noNode_x (hm : mdF Γ m) {G : Nat} {u p : Int32} (hG : I (m + 1) 2 = nn G) (h : ¬ ∃ g, g < G ∧ u = nn g) (h4 : G ≤ 4) : am_E m_X9_noNode (d + 2) 0 0 [.ref m, .int u, .int p] Γ I L (.inl (some (.int 1))) I L :=
  am_E_e (eX9_noNodeX hm (by rw [hG]; exact inR_f (by omega) h) p) rfl rfl

/-- what a face needs of the relation -/
theorem REL.nums (R : REL I L) : (I 9 0 = nn (vQ (I 451)) ∧ I 9 1 = nn (vT (I 451)) ∧ I 9 2 = nn (vG (I 451)) ∧ I 9 3 = I 451 3) ∧ (I 451 0 = nn (vQ (I 451)) ∧ I 451 1 = nn (vT (I 451)) ∧ I 451 2 = nn (vG (I 451))) ∧ vQ (I 451) ≤ 6 ∧ vT (I 451) ≤ 8 ∧ vG (I 451) ≤ 4 ∧ 0 < vQ (I 451) ∧ 0 < vT (I 451) ∧ 0 < vG (I 451) := by
  obtain ⟨⟨h1, h2, h3, h4⟩, ⟨⟨a0, a1, a2, a3⟩, -⟩, -⟩ := R
  obtain ⟨⟨q0, q6⟩, ⟨t0, t8⟩, ⟨g0, g4⟩, -⟩ := h1
  exact ⟨⟨a0.trans q0, a1.trans t0, a2.trans g0, a3⟩, ⟨q0, t0, g0⟩, q6, t8, g4, h2, h3, h4⟩

theorem eX9_told (hm : mdF Γ m) (v : Int32) : am_E m_X9_told d 0 0 [.ref m, .int v] Γ I L (.inl (some (.int v))) (am_u I m 6 0) L := by
  refine am_ofE rfl rfl rfl (Nat.le_of_ble_eq_true rfl) ?_
  refine bX9_told_0 hm.1 ?_
  exact ⟨rfl, rfl, rfl⟩

theorem fX_questionCount (hF : wF Γ) (R : REL I L) : gX Γ I L m_X8_questionCount m_X9_questionCount [] [] := by
  obtain ⟨⟨o, f0, f1, f2, f3, f4, f5, f6, f7⟩, so, st, dr, ⟨ro, rr0, rr5, rr6, ra⟩, hi, sv, ⟨oo, or0, or2, oa, oa2⟩, hm, am, am2⟩ := id hF
  obtain ⟨ob, s4, s5, s6, s7, s8, s9, s10, b1, b2, b3, b4, b5, b6, o7, hg⟩ := id st
  obtain ⟨mo, r0, r1, r2, r3, r4, r7, r8, r13, r14, r15, r16, r17, a1, a2, a3, a4, a5, a6, a7, a8, a9, a10, a11, a12⟩ := id hm
  obtain ⟨⟨n0, n1, n2, n3⟩, ⟨w0, w1, w2⟩, q6, t8, g4, q0, t0, g0⟩ := R.nums
  have hJ : ∀ v : Int32, am_u I 450 6 v 451 = I 451 := fun v => am_u_ne (by decide)
  refine ⟨I, L, am_u I 450 6 0, .inl (some (.int (I 451 0))), I 451 0, am_ofE rfl rfl rfl (Nat.le_of_ble_eq_true rfl) ?_, am_ofE rfl rfl rfl (Nat.le_of_ble_eq_true rfl) ?_, R.thr 0, Or.inl ⟨rfl, by rw [am_u_at, if_pos ⟨rfl, rfl⟩]⟩⟩
  · refine bX8_questionCount_0 (by assumption) (by assumption) (by assumption) ?_
    exact am_R_e (n0.trans w0.symm) rfl rfl
  · refine bX9_questionCount_0 (by assumption) (by assumption) (by assumption) (nn_in (k := 0) (by decide) (by decide)) (Nat.zero_le _) (Nat.zero_le _) (eX9_told hm _) ?_
    refine bX9_questionCount_10 ?_
    exact ⟨rfl, rfl, rfl⟩

theorem fX_typeCount (hF : wF Γ) (R : REL I L) : gX Γ I L m_X8_typeCount m_X9_typeCount [] [] := by
  obtain ⟨⟨o, f0, f1, f2, f3, f4, f5, f6, f7⟩, so, st, dr, ⟨ro, rr0, rr5, rr6, ra⟩, hi, sv, ⟨oo, or0, or2, oa, oa2⟩, hm, am, am2⟩ := id hF
  obtain ⟨ob, s4, s5, s6, s7, s8, s9, s10, b1, b2, b3, b4, b5, b6, o7, hg⟩ := id st
  obtain ⟨mo, r0, r1, r2, r3, r4, r7, r8, r13, r14, r15, r16, r17, a1, a2, a3, a4, a5, a6, a7, a8, a9, a10, a11, a12⟩ := id hm
  obtain ⟨⟨n0, n1, n2, n3⟩, ⟨w0, w1, w2⟩, q6, t8, g4, q0, t0, g0⟩ := R.nums
  have hJ : ∀ v : Int32, am_u I 450 6 v 451 = I 451 := fun v => am_u_ne (by decide)
  refine ⟨I, L, am_u I 450 6 0, .inl (some (.int (I 451 1))), I 451 1, am_ofE rfl rfl rfl (Nat.le_of_ble_eq_true rfl) ?_, am_ofE rfl rfl rfl (Nat.le_of_ble_eq_true rfl) ?_, R.thr 0, Or.inl ⟨rfl, by rw [am_u_at, if_pos ⟨rfl, rfl⟩]⟩⟩
  · refine bX8_typeCount_0 (by assumption) (by assumption) (by assumption) ?_
    exact am_R_e (n1.trans w1.symm) rfl rfl
  · refine bX9_typeCount_0 (by assumption) (by assumption) (by assumption) (nn_in (k := 1) (by decide) (by decide)) (Nat.zero_le _) (Nat.zero_le _) (eX9_told hm _) ?_
    refine bX9_typeCount_10 ?_
    exact ⟨rfl, rfl, rfl⟩

theorem fX_gateCount (hF : wF Γ) (R : REL I L) : gX Γ I L m_X8_gateCount m_X9_gateCount [] [] := by
  obtain ⟨⟨o, f0, f1, f2, f3, f4, f5, f6, f7⟩, so, st, dr, ⟨ro, rr0, rr5, rr6, ra⟩, hi, sv, ⟨oo, or0, or2, oa, oa2⟩, hm, am, am2⟩ := id hF
  obtain ⟨ob, s4, s5, s6, s7, s8, s9, s10, b1, b2, b3, b4, b5, b6, o7, hg⟩ := id st
  obtain ⟨mo, r0, r1, r2, r3, r4, r7, r8, r13, r14, r15, r16, r17, a1, a2, a3, a4, a5, a6, a7, a8, a9, a10, a11, a12⟩ := id hm
  obtain ⟨⟨n0, n1, n2, n3⟩, ⟨w0, w1, w2⟩, q6, t8, g4, q0, t0, g0⟩ := R.nums
  have hJ : ∀ v : Int32, am_u I 450 6 v 451 = I 451 := fun v => am_u_ne (by decide)
  refine ⟨I, L, am_u I 450 6 0, .inl (some (.int (I 451 2))), I 451 2, am_ofE rfl rfl rfl (Nat.le_of_ble_eq_true rfl) ?_, am_ofE rfl rfl rfl (Nat.le_of_ble_eq_true rfl) ?_, R.thr 0, Or.inl ⟨rfl, by rw [am_u_at, if_pos ⟨rfl, rfl⟩]⟩⟩
  · refine bX8_gateCount_0 (by assumption) (by assumption) (by assumption) ?_
    exact am_R_e (n2.trans w2.symm) rfl rfl
  · refine bX9_gateCount_0 (by assumption) (by assumption) (by assumption) (nn_in (k := 2) (by decide) (by decide)) (Nat.zero_le _) (Nat.zero_le _) (eX9_told hm _) ?_
    refine bX9_gateCount_10 ?_
    exact ⟨rfl, rfl, rfl⟩

theorem fX_clock (hF : wF Γ) (R : REL I L) : gX Γ I L m_X8_clock m_X9_clock [] [] := by
  obtain ⟨⟨o, f0, f1, f2, f3, f4, f5, f6, f7⟩, so, st, dr, ⟨ro, rr0, rr5, rr6, ra⟩, hi, sv, ⟨oo, or0, or2, oa, oa2⟩, hm, am, am2⟩ := id hF
  obtain ⟨ob, s4, s5, s6, s7, s8, s9, s10, b1, b2, b3, b4, b5, b6, o7, hg⟩ := id st
  obtain ⟨mo, r0, r1, r2, r3, r4, r7, r8, r13, r14, r15, r16, r17, a1, a2, a3, a4, a5, a6, a7, a8, a9, a10, a11, a12⟩ := id hm
  obtain ⟨⟨n0, n1, n2, n3⟩, ⟨w0, w1, w2⟩, q6, t8, g4, q0, t0, g0⟩ := R.nums
  have hJ : ∀ v : Int32, am_u I 450 6 v 451 = I 451 := fun v => am_u_ne (by decide)
  refine ⟨I, L, am_u I 450 6 0, .inl (some (.int (I 451 3))), I 451 3, am_ofE rfl rfl rfl (Nat.le_of_ble_eq_true rfl) ?_, am_ofE rfl rfl rfl (Nat.le_of_ble_eq_true rfl) ?_, R.thr 0, Or.inl ⟨rfl, by rw [am_u_at, if_pos ⟨rfl, rfl⟩]⟩⟩
  · refine bX8_clock_0 (by assumption) (by assumption) (by assumption) ?_
    exact am_R_e n3 rfl rfl
  · refine bX9_clock_0 (by assumption) (by assumption) (by assumption) (nn_in (k := 3) (by decide) (by decide)) (Nat.zero_le _) (Nat.zero_le _) (eX9_told hm _) ?_
    refine bX9_clock_10 ?_
    exact ⟨rfl, rfl, rfl⟩

theorem fX_undoableChanges (hF : wF Γ) (R : REL I L) : gX Γ I L m_X8_undoableChanges m_X9_undoableChanges [] [] := by
  obtain ⟨⟨o, f0, f1, f2, f3, f4, f5, f6, f7⟩, so, st, dr, ⟨ro, rr0, rr5, rr6, ra⟩, hi, sv, ⟨oo, or0, or2, oa, oa2⟩, hm, am, am2⟩ := id hF
  obtain ⟨ob, s4, s5, s6, s7, s8, s9, s10, b1, b2, b3, b4, b5, b6, o7, hg⟩ := id st
  obtain ⟨mo, r0, r1, r2, r3, r4, r7, r8, r13, r14, r15, r16, r17, a1, a2, a3, a4, a5, a6, a7, a8, a9, a10, a11, a12⟩ := id hm
  obtain ⟨⟨n0, n1, n2, n3⟩, ⟨w0, w1, w2⟩, q6, t8, g4, q0, t0, g0⟩ := R.nums
  have hJ : ∀ v : Int32, am_u I 450 6 v 451 = I 451 := fun v => am_u_ne (by decide)
  obtain ⟨o9, s9', h1, h2, h3, h4, h5, h6⟩ := R.2.2.1
  have oh := hi.1
  refine ⟨I, L, am_u I 450 6 0, .inl (some (.int (I 450 5))), I 450 5, am_ofE rfl rfl rfl (Nat.le_of_ble_eq_true rfl) ?_, am_ofE rfl rfl rfl (Nat.le_of_ble_eq_true rfl) ?_, R.thr 0, Or.inl ⟨rfl, by rw [am_u_at, if_pos ⟨rfl, rfl⟩]⟩⟩
  · refine bX8_undoableChanges_0 (by assumption) (by assumption) (by assumption) ?_
    exact am_R_e (h2.trans h5.symm) rfl rfl
  · refine bX9_undoableChanges_0 (by assumption) (Nat.zero_le _) (Nat.zero_le _) (eX9_told hm _) ?_
    refine bX9_undoableChanges_8 ?_
    exact ⟨rfl, rfl, rfl⟩

theorem fX_cartsPassed (hF : wF Γ) (R : REL I L) : gX Γ I L m_X8_cartsPassed m_X9_cartsPassed [] [] := by
  obtain ⟨⟨o, f0, f1, f2, f3, f4, f5, f6, f7⟩, so, st, dr, ⟨ro, rr0, rr5, rr6, ra⟩, hi, sv, ⟨oo, or0, or2, oa, oa2⟩, hm, am, am2⟩ := id hF
  obtain ⟨ob, s4, s5, s6, s7, s8, s9, s10, b1, b2, b3, b4, b5, b6, o7, hg⟩ := id st
  obtain ⟨mo, r0, r1, r2, r3, r4, r7, r8, r13, r14, r15, r16, r17, a1, a2, a3, a4, a5, a6, a7, a8, a9, a10, a11, a12⟩ := id hm
  obtain ⟨⟨n0, n1, n2, n3⟩, ⟨w0, w1, w2⟩, q6, t8, g4, q0, t0, g0⟩ := R.nums
  have hJ : ∀ v : Int32, am_u I 450 6 v 451 = I 451 := fun v => am_u_ne (by decide)
  refine ⟨I, L, am_u I 450 6 0, .inl (some (.int (I 451 4))), I 451 4, am_ofE rfl rfl rfl (Nat.le_of_ble_eq_true rfl) ?_, am_ofE rfl rfl rfl (Nat.le_of_ble_eq_true rfl) ?_, R.thr 0, Or.inl ⟨rfl, by rw [am_u_at, if_pos ⟨rfl, rfl⟩]⟩⟩
  · refine bX8_cartsPassed_0 (by assumption) (by assumption) (by assumption) (by assumption) (by assumption) ?_
    exact am_R_e (R.2.1.2.2.2.1 0 (by decide)) rfl rfl
  · refine bX9_cartsPassed_0 (by assumption) (by assumption) (by assumption) (nn_in (k := 4) (by decide) (by decide)) (Nat.zero_le _) (Nat.zero_le _) (eX9_told hm _) ?_
    refine bX9_cartsPassed_10 ?_
    exact ⟨rfl, rfl, rfl⟩

theorem fX_costAsked (hF : wF Γ) (R : REL I L) : gX Γ I L m_X8_costAsked m_X9_costAsked [] [] := by
  obtain ⟨⟨o, f0, f1, f2, f3, f4, f5, f6, f7⟩, so, st, dr, ⟨ro, rr0, rr5, rr6, ra⟩, hi, sv, ⟨oo, or0, or2, oa, oa2⟩, hm, am, am2⟩ := id hF
  obtain ⟨ob, s4, s5, s6, s7, s8, s9, s10, b1, b2, b3, b4, b5, b6, o7, hg⟩ := id st
  obtain ⟨mo, r0, r1, r2, r3, r4, r7, r8, r13, r14, r15, r16, r17, a1, a2, a3, a4, a5, a6, a7, a8, a9, a10, a11, a12⟩ := id hm
  obtain ⟨⟨n0, n1, n2, n3⟩, ⟨w0, w1, w2⟩, q6, t8, g4, q0, t0, g0⟩ := R.nums
  have hJ : ∀ v : Int32, am_u I 450 6 v 451 = I 451 := fun v => am_u_ne (by decide)
  refine ⟨I, L, am_u I 450 6 0, .inl (some (.int (I 451 5))), I 451 5, am_ofE rfl rfl rfl (Nat.le_of_ble_eq_true rfl) ?_, am_ofE rfl rfl rfl (Nat.le_of_ble_eq_true rfl) ?_, R.thr 0, Or.inl ⟨rfl, by rw [am_u_at, if_pos ⟨rfl, rfl⟩]⟩⟩
  · refine bX8_costAsked_0 (by assumption) (by assumption) (by assumption) (by assumption) (by assumption) ?_
    exact am_R_e (R.2.1.2.2.2.1 1 (by decide)) rfl rfl
  · refine bX9_costAsked_0 (by assumption) (by assumption) (by assumption) (nn_in (k := 5) (by decide) (by decide)) (Nat.zero_le _) (Nat.zero_le _) (eX9_told hm _) ?_
    refine bX9_costAsked_10 ?_
    exact ⟨rfl, rfl, rfl⟩

theorem fX_tollsPaid (hF : wF Γ) (R : REL I L) : gX Γ I L m_X8_tollsPaid m_X9_tollsPaid [] [] := by
  obtain ⟨⟨o, f0, f1, f2, f3, f4, f5, f6, f7⟩, so, st, dr, ⟨ro, rr0, rr5, rr6, ra⟩, hi, sv, ⟨oo, or0, or2, oa, oa2⟩, hm, am, am2⟩ := id hF
  obtain ⟨ob, s4, s5, s6, s7, s8, s9, s10, b1, b2, b3, b4, b5, b6, o7, hg⟩ := id st
  obtain ⟨mo, r0, r1, r2, r3, r4, r7, r8, r13, r14, r15, r16, r17, a1, a2, a3, a4, a5, a6, a7, a8, a9, a10, a11, a12⟩ := id hm
  obtain ⟨⟨n0, n1, n2, n3⟩, ⟨w0, w1, w2⟩, q6, t8, g4, q0, t0, g0⟩ := R.nums
  have hJ : ∀ v : Int32, am_u I 450 6 v 451 = I 451 := fun v => am_u_ne (by decide)
  refine ⟨I, L, am_u I 450 6 0, .inl (some (.int (I 451 6))), I 451 6, am_ofE rfl rfl rfl (Nat.le_of_ble_eq_true rfl) ?_, am_ofE rfl rfl rfl (Nat.le_of_ble_eq_true rfl) ?_, R.thr 0, Or.inl ⟨rfl, by rw [am_u_at, if_pos ⟨rfl, rfl⟩]⟩⟩
  · refine bX8_tollsPaid_0 (by assumption) (by assumption) (by assumption) (by assumption) (by assumption) ?_
    exact am_R_e (R.2.1.2.2.2.1 2 (by decide)) rfl rfl
  · refine bX9_tollsPaid_0 (by assumption) (by assumption) (by assumption) (nn_in (k := 6) (by decide) (by decide)) (Nat.zero_le _) (Nat.zero_le _) (eX9_told hm _) ?_
    refine bX9_tollsPaid_11 ?_
    exact ⟨rfl, rfl, rfl⟩

theorem fX_tollsDue (hF : wF Γ) (R : REL I L) : gX Γ I L m_X8_tollsDue m_X9_tollsDue [] [] := by
  obtain ⟨⟨o, f0, f1, f2, f3, f4, f5, f6, f7⟩, so, st, dr, ⟨ro, rr0, rr5, rr6, ra⟩, hi, sv, ⟨oo, or0, or2, oa, oa2⟩, hm, am, am2⟩ := id hF
  obtain ⟨ob, s4, s5, s6, s7, s8, s9, s10, b1, b2, b3, b4, b5, b6, o7, hg⟩ := id st
  obtain ⟨mo, r0, r1, r2, r3, r4, r7, r8, r13, r14, r15, r16, r17, a1, a2, a3, a4, a5, a6, a7, a8, a9, a10, a11, a12⟩ := id hm
  obtain ⟨⟨n0, n1, n2, n3⟩, ⟨w0, w1, w2⟩, q6, t8, g4, q0, t0, g0⟩ := R.nums
  have hJ : ∀ v : Int32, am_u I 450 6 v 451 = I 451 := fun v => am_u_ne (by decide)
  refine ⟨I, L, am_u I 450 6 0, .inl (some (.int (I 451 7))), I 451 7, am_ofE rfl rfl rfl (Nat.le_of_ble_eq_true rfl) ?_, am_ofE rfl rfl rfl (Nat.le_of_ble_eq_true rfl) ?_, R.thr 0, Or.inl ⟨rfl, by rw [am_u_at, if_pos ⟨rfl, rfl⟩]⟩⟩
  · refine bX8_tollsDue_0 (by assumption) (by assumption) (by assumption) (by assumption) (by assumption) ?_
    exact am_R_e (R.2.1.2.2.2.1 3 (by decide)) rfl rfl
  · refine bX9_tollsDue_0 (by assumption) (by assumption) (by assumption) (nn_in (k := 7) (by decide) (by decide)) (Nat.zero_le _) (Nat.zero_le _) (eX9_told hm _) ?_
    refine bX9_tollsDue_11 ?_
    exact ⟨rfl, rfl, rfl⟩

theorem fX_cartsOvercharged (hF : wF Γ) (R : REL I L) : gX Γ I L m_X8_cartsOvercharged m_X9_cartsOvercharged [] [] := by
  obtain ⟨⟨o, f0, f1, f2, f3, f4, f5, f6, f7⟩, so, st, dr, ⟨ro, rr0, rr5, rr6, ra⟩, hi, sv, ⟨oo, or0, or2, oa, oa2⟩, hm, am, am2⟩ := id hF
  obtain ⟨ob, s4, s5, s6, s7, s8, s9, s10, b1, b2, b3, b4, b5, b6, o7, hg⟩ := id st
  obtain ⟨mo, r0, r1, r2, r3, r4, r7, r8, r13, r14, r15, r16, r17, a1, a2, a3, a4, a5, a6, a7, a8, a9, a10, a11, a12⟩ := id hm
  obtain ⟨⟨n0, n1, n2, n3⟩, ⟨w0, w1, w2⟩, q6, t8, g4, q0, t0, g0⟩ := R.nums
  have hJ : ∀ v : Int32, am_u I 450 6 v 451 = I 451 := fun v => am_u_ne (by decide)
  refine ⟨I, L, am_u I 450 6 0, .inl (some (.int (I 451 8))), I 451 8, am_ofE rfl rfl rfl (Nat.le_of_ble_eq_true rfl) ?_, am_ofE rfl rfl rfl (Nat.le_of_ble_eq_true rfl) ?_, R.thr 0, Or.inl ⟨rfl, by rw [am_u_at, if_pos ⟨rfl, rfl⟩]⟩⟩
  · refine bX8_cartsOvercharged_0 (by assumption) (by assumption) (by assumption) (by assumption) (by assumption) ?_
    exact am_R_e (R.2.1.2.2.2.1 4 (by decide)) rfl rfl
  · refine bX9_cartsOvercharged_0 (by assumption) (by assumption) (by assumption) (nn_in (k := 8) (by decide) (by decide)) (Nat.zero_le _) (Nat.zero_le _) (eX9_told hm _) ?_
    refine bX9_cartsOvercharged_11 ?_
    exact ⟨rfl, rfl, rfl⟩

theorem fX_cartsUndercharged (hF : wF Γ) (R : REL I L) : gX Γ I L m_X8_cartsUndercharged m_X9_cartsUndercharged [] [] := by
  obtain ⟨⟨o, f0, f1, f2, f3, f4, f5, f6, f7⟩, so, st, dr, ⟨ro, rr0, rr5, rr6, ra⟩, hi, sv, ⟨oo, or0, or2, oa, oa2⟩, hm, am, am2⟩ := id hF
  obtain ⟨ob, s4, s5, s6, s7, s8, s9, s10, b1, b2, b3, b4, b5, b6, o7, hg⟩ := id st
  obtain ⟨mo, r0, r1, r2, r3, r4, r7, r8, r13, r14, r15, r16, r17, a1, a2, a3, a4, a5, a6, a7, a8, a9, a10, a11, a12⟩ := id hm
  obtain ⟨⟨n0, n1, n2, n3⟩, ⟨w0, w1, w2⟩, q6, t8, g4, q0, t0, g0⟩ := R.nums
  have hJ : ∀ v : Int32, am_u I 450 6 v 451 = I 451 := fun v => am_u_ne (by decide)
  refine ⟨I, L, am_u I 450 6 0, .inl (some (.int (I 451 9))), I 451 9, am_ofE rfl rfl rfl (Nat.le_of_ble_eq_true rfl) ?_, am_ofE rfl rfl rfl (Nat.le_of_ble_eq_true rfl) ?_, R.thr 0, Or.inl ⟨rfl, by rw [am_u_at, if_pos ⟨rfl, rfl⟩]⟩⟩
  · refine bX8_cartsUndercharged_0 (by assumption) (by assumption) (by assumption) (by assumption) (by assumption) ?_
    exact am_R_e (R.2.1.2.2.2.1 5 (by decide)) rfl rfl
  · refine bX9_cartsUndercharged_0 (by assumption) (by assumption) (by assumption) (nn_in (k := 9) (by decide) (by decide)) (Nat.zero_le _) (Nat.zero_le _) (eX9_told hm _) ?_
    refine bX9_cartsUndercharged_11 ?_
    exact ⟨rfl, rfl, rfl⟩

theorem fX_overcharge (hF : wF Γ) (R : REL I L) : gX Γ I L m_X8_overcharge m_X9_overcharge [] [] := by
  obtain ⟨⟨o, f0, f1, f2, f3, f4, f5, f6, f7⟩, so, st, dr, ⟨ro, rr0, rr5, rr6, ra⟩, hi, sv, ⟨oo, or0, or2, oa, oa2⟩, hm, am, am2⟩ := id hF
  obtain ⟨ob, s4, s5, s6, s7, s8, s9, s10, b1, b2, b3, b4, b5, b6, o7, hg⟩ := id st
  obtain ⟨mo, r0, r1, r2, r3, r4, r7, r8, r13, r14, r15, r16, r17, a1, a2, a3, a4, a5, a6, a7, a8, a9, a10, a11, a12⟩ := id hm
  obtain ⟨⟨n0, n1, n2, n3⟩, ⟨w0, w1, w2⟩, q6, t8, g4, q0, t0, g0⟩ := R.nums
  have hJ : ∀ v : Int32, am_u I 450 6 v 451 = I 451 := fun v => am_u_ne (by decide)
  refine ⟨I, L, am_u I 450 6 0, .inl (some (.int (I 451 10))), I 451 10, am_ofE rfl rfl rfl (Nat.le_of_ble_eq_true rfl) ?_, am_ofE rfl rfl rfl (Nat.le_of_ble_eq_true rfl) ?_, R.thr 0, Or.inl ⟨rfl, by rw [am_u_at, if_pos ⟨rfl, rfl⟩]⟩⟩
  · refine bX8_overcharge_0 (by assumption) (by assumption) (by assumption) (by assumption) (by assumption) ?_
    exact am_R_e (R.2.1.2.2.2.1 6 (by decide)) rfl rfl
  · refine bX9_overcharge_0 (by assumption) (by assumption) (by assumption) (nn_in (k := 10) (by decide) (by decide)) (Nat.zero_le _) (Nat.zero_le _) (eX9_told hm _) ?_
    refine bX9_overcharge_11 ?_
    exact ⟨rfl, rfl, rfl⟩

theorem fX_undercharge (hF : wF Γ) (R : REL I L) : gX Γ I L m_X8_undercharge m_X9_undercharge [] [] := by
  obtain ⟨⟨o, f0, f1, f2, f3, f4, f5, f6, f7⟩, so, st, dr, ⟨ro, rr0, rr5, rr6, ra⟩, hi, sv, ⟨oo, or0, or2, oa, oa2⟩, hm, am, am2⟩ := id hF
  obtain ⟨ob, s4, s5, s6, s7, s8, s9, s10, b1, b2, b3, b4, b5, b6, o7, hg⟩ := id st
  obtain ⟨mo, r0, r1, r2, r3, r4, r7, r8, r13, r14, r15, r16, r17, a1, a2, a3, a4, a5, a6, a7, a8, a9, a10, a11, a12⟩ := id hm
  obtain ⟨⟨n0, n1, n2, n3⟩, ⟨w0, w1, w2⟩, q6, t8, g4, q0, t0, g0⟩ := R.nums
  have hJ : ∀ v : Int32, am_u I 450 6 v 451 = I 451 := fun v => am_u_ne (by decide)
  refine ⟨I, L, am_u I 450 6 0, .inl (some (.int (I 451 11))), I 451 11, am_ofE rfl rfl rfl (Nat.le_of_ble_eq_true rfl) ?_, am_ofE rfl rfl rfl (Nat.le_of_ble_eq_true rfl) ?_, R.thr 0, Or.inl ⟨rfl, by rw [am_u_at, if_pos ⟨rfl, rfl⟩]⟩⟩
  · refine bX8_undercharge_0 (by assumption) (by assumption) (by assumption) (by assumption) (by assumption) ?_
    exact am_R_e (R.2.1.2.2.2.1 7 (by decide)) rfl rfl
  · refine bX9_undercharge_0 (by assumption) (by assumption) (by assumption) (nn_in (k := 11) (by decide) (by decide)) (Nat.zero_le _) (Nat.zero_le _) (eX9_told hm _) ?_
    refine bX9_undercharge_11 ?_
    exact ⟨rfl, rfl, rfl⟩

theorem fX_questionCost (hF : wF Γ) (R : REL I L) (p0 : Int32) : gX Γ I L m_X8_questionCost m_X9_questionCost [.int p0] ["java/lang/IndexOutOfBoundsException"] := by
  obtain ⟨⟨o, f0, f1, f2, f3, f4, f5, f6, f7⟩, so, st, dr, ⟨ro, rr0, rr5, rr6, ra⟩, hi, sv, ⟨oo, or0, or2, oa, oa2⟩, hm, am, am2⟩ := id hF
  obtain ⟨ob, s4, s5, s6, s7, s8, s9, s10, b1, b2, b3, b4, b5, b6, o7, hg⟩ := id st
  obtain ⟨mo, r0, r1, r2, r3, r4, r7, r8, r13, r14, r15, r16, r17, a1, a2, a3, a4, a5, a6, a7, a8, a9, a10, a11, a12⟩ := id hm
  obtain ⟨⟨n0, n1, n2, n3⟩, ⟨w0, w1, w2⟩, q6, t8, g4, q0, t0, g0⟩ := R.nums
  have hJ : ∀ v : Int32, am_u I 450 6 v 451 = I 451 := fun v => am_u_ne (by decide)
  by_cases c0 : ∃ g, g < vQ (I 451) ∧ p0 = nn g
  case neg =>
    refine ⟨I, L, am_u I 450 6 1, .inr "java/lang/IndexOutOfBoundsException", 0, am_ofE rfl rfl rfl (Nat.le_of_ble_eq_true rfl) ?_, am_ofE rfl rfl rfl (Nat.le_of_ble_eq_true rfl) ?_, R.thr 1, Or.inr ⟨0, _, rfl, rfl, by rw [am_u_at, if_pos ⟨rfl, rfl⟩]; rfl⟩⟩
    · refine bX8_questionCost_0x (by assumption) (by decide) (by decide) (eX8_requireQuestion_f hF n0 c0 (by omega)) ?_
      exact ⟨rfl, rfl, rfl⟩
    · refine bX9_questionCost_0 (by assumption) (Nat.zero_le _) (Nat.zero_le _) (eX9_noQuestion_f hm w0 c0 (by omega)) ?_
      refine bX9_questionCost_6 (by assumption) (Nat.zero_le _) (Nat.zero_le _) (eX9_fails1 hm) ?_
      refine bX9_questionCost_11 (fun h => absurd h (by decide)) (fun _ => ?_)
      refine bX9_questionCost_14 ?_
      refine bX9_questionCost_23 ?_
      exact ⟨rfl, rfl, rfl⟩
  obtain ⟨q, hq, rfl⟩ := c0
  refine ⟨I, L, am_u I 450 6 0, .inl (some (.int (I 451 (12 + q * 8)))), (I 451 (12 + q * 8)), am_ofE rfl rfl rfl (Nat.le_of_ble_eq_true rfl) ?_, am_ofE rfl rfl rfl (Nat.le_of_ble_eq_true rfl) ?_, R.thr 0, Or.inl ⟨rfl, by rw [am_u_at, if_pos ⟨rfl, rfl⟩]⟩⟩
  · refine bX8_questionCost_0 (by assumption) (Nat.zero_le _) (Nat.zero_le _) (eX8_requireQuestion_t (mc := 0) (ms := 0) hF n0 (by assumption) (by omega)) ?_
    refine bX8_questionCost_5 (by assumption) (by assumption) (by assumption) (by assumption) (by assumption) (nn_in (by omega) (by omega)) ?_
    exact am_R_e (by rw [nn_nat (by omega)]; exact (R.2.1.2.1 q hq).2.1) rfl rfl
  · refine bX9_questionCost_0 (by assumption) (Nat.zero_le _) (Nat.zero_le _) (eX9_noQuestion_t hm w0 (by assumption) (by omega)) ?_
    refine bX9_questionCost_6 (by assumption) (Nat.zero_le _) (Nat.zero_le _) (eX9_fails0 hm) ?_
    refine bX9_questionCost_11 (fun _ => ?_) (fun h => absurd (by decide) h)
    refine bX9_questionCost_18 (by assumption) (Nat.zero_le _) (Nat.zero_le _) (eX9_cost hm (by omega)) ?_
    refine bX9_questionCost_23 ?_
    exact am_R_e (by rw [hJ]) rfl rfl

theorem fX_toll (hF : wF Γ) (R : REL I L) (p0 : Int32) : gX Γ I L m_X8_toll m_X9_toll [.int p0] ["java/lang/IndexOutOfBoundsException"] := by
  obtain ⟨⟨o, f0, f1, f2, f3, f4, f5, f6, f7⟩, so, st, dr, ⟨ro, rr0, rr5, rr6, ra⟩, hi, sv, ⟨oo, or0, or2, oa, oa2⟩, hm, am, am2⟩ := id hF
  obtain ⟨ob, s4, s5, s6, s7, s8, s9, s10, b1, b2, b3, b4, b5, b6, o7, hg⟩ := id st
  obtain ⟨mo, r0, r1, r2, r3, r4, r7, r8, r13, r14, r15, r16, r17, a1, a2, a3, a4, a5, a6, a7, a8, a9, a10, a11, a12⟩ := id hm
  obtain ⟨⟨n0, n1, n2, n3⟩, ⟨w0, w1, w2⟩, q6, t8, g4, q0, t0, g0⟩ := R.nums
  have hJ : ∀ v : Int32, am_u I 450 6 v 451 = I 451 := fun v => am_u_ne (by decide)
  by_cases c0 : ∃ g, g < vT (I 451) ∧ p0 = nn g
  case neg =>
    refine ⟨I, L, am_u I 450 6 1, .inr "java/lang/IndexOutOfBoundsException", 0, am_ofE rfl rfl rfl (Nat.le_of_ble_eq_true rfl) ?_, am_ofE rfl rfl rfl (Nat.le_of_ble_eq_true rfl) ?_, R.thr 1, Or.inr ⟨0, _, rfl, rfl, by rw [am_u_at, if_pos ⟨rfl, rfl⟩]; rfl⟩⟩
    · refine bX8_toll_0x (by assumption) (by decide) (by decide) (eX8_requireType_f hF n1 c0 (by omega)) ?_
      exact ⟨rfl, rfl, rfl⟩
    · refine bX9_toll_0 (by assumption) (Nat.zero_le _) (Nat.zero_le _) (eX9_noType_f hm w1 c0 (by omega)) ?_
      refine bX9_toll_6 (by assumption) (Nat.zero_le _) (Nat.zero_le _) (eX9_fails1 hm) ?_
      refine bX9_toll_11 (fun h => absurd h (by decide)) (fun _ => ?_)
      refine bX9_toll_14 ?_
      refine bX9_toll_24 ?_
      exact ⟨rfl, rfl, rfl⟩
  obtain ⟨t, ht, rfl⟩ := c0
  refine ⟨I, L, am_u I 450 6 0, .inl (some (.int (I 451 (60 + t * 9 + 0)))), (I 451 (60 + t * 9 + 0)), am_ofE rfl rfl rfl (Nat.le_of_ble_eq_true rfl) ?_, am_ofE rfl rfl rfl (Nat.le_of_ble_eq_true rfl) ?_, R.thr 0, Or.inl ⟨rfl, by rw [am_u_at, if_pos ⟨rfl, rfl⟩]⟩⟩
  · refine bX8_toll_0 (by assumption) (Nat.zero_le _) (Nat.zero_le _) (eX8_requireType_t (mc := 0) (ms := 0) hF n1 (by assumption) (by omega)) ?_
    refine bX8_toll_5 (by assumption) (by assumption) (by assumption) (by assumption) (by assumption) (nn_in (by omega) (by omega)) ?_
    exact am_R_e (by rw [nn_nat (by omega)]; exact (R.2.1.2.2.1 t ht).2) rfl rfl
  · refine bX9_toll_0 (by assumption) (Nat.zero_le _) (Nat.zero_le _) (eX9_noType_t hm w1 (by assumption) (by omega)) ?_
    refine bX9_toll_6 (by assumption) (Nat.zero_le _) (Nat.zero_le _) (eX9_fails0 hm) ?_
    refine bX9_toll_11 (fun _ => ?_) (fun h => absurd (by decide) h)
    refine bX9_toll_18 (by assumption) (Nat.zero_le _) (Nat.zero_le _) (eX9_ofType (k := 0) hm (by omega) (by decide)) ?_
    refine bX9_toll_24 ?_
    exact am_R_e (by rw [hJ]) rfl rfl

end F1