/-! THE CLASS ALONE: its cells, its state -/
def rdF (Γ : am_G) : Prop := am_ob Γ 81 3 ∧ Γ.2.2 81 0 = some 82 ∧ Γ.2.2 81 5 = some 45 ∧ Γ.2.2 81 6 = some 1 ∧ am_ar Γ 82 2 700 0
def otF (Γ : am_G) : Prop := am_ob Γ 447 2 ∧ Γ.2.2 447 0 = some 448 ∧ Γ.2.2 447 2 = some 449 ∧ am_ar Γ 448 2 87 0 ∧ am_ar Γ 449 1 22 0
/-- the cells of the class (the same numbers as ever) -/
def wF (Γ : am_G) : Prop := (am_ob Γ 0 8 ∧ Γ.2.2 0 0 = some 1 ∧ Γ.2.2 0 1 = some 9 ∧ Γ.2.2 0 2 = some 45 ∧ Γ.2.2 0 3 = some 81 ∧ Γ.2.2 0 4 = some 83 ∧ Γ.2.2 0 5 = some 373 ∧ Γ.2.2 0 6 = some 446 ∧ Γ.2.2 0 7 = some 447) ∧
  soF Γ 1 ∧ stF Γ 9 ∧ stF Γ 45 ∧ rdF Γ ∧ hiF Γ 83 ∧ (am_ar Γ 373 6 2 5 ∧ Γ.2.2 373 0 = some 374 ∧ Γ.2.2 373 1 = some 410 ∧ stF Γ 374 ∧ stF Γ 410 ∧ am_ar Γ 446 3 2 0) ∧ otF Γ ∧ True ∧ True ∧ True
/-- the states that can come back: s of them, the i-th told by the row h i -/
def hiC (I : am_I) (L : am_L) (h : Nat → Nat → Int32) (s : Nat) : Prop := ∃ o, I 83 1 = nn o ∧ I 83 2 = nn s ∧ o < 8 ∧ s ≤ 8 ∧ ∀ i, i < s → wfs (h i) ∧ stR I L (hs 83 ((o + i) % 8)) (h i)
/-- the class's state: the row w, the history -/
def CS (I : am_I) (L : am_L) (w : Nat → Int32) (h : Nat → Nat → Int32) (s : Nat) : Prop := wfs w ∧ stR I L 9 w ∧ hiC I L h s
theorem hiC.fr {I I' : am_I} {L L' : am_L} {h : Nat → Nat → Int32} {s : Nat} (H : hiC I L h s) (e : ∀ c, 83 ≤ c → c < 373 → I' c = I c) (eL : ∀ c, 83 ≤ c → c < 373 → L' c = L c) : hiC I' L' h s := by
  obtain ⟨o, h1, h2, h3, h4, h6⟩ := H
  refine ⟨o, by rw [e 83 (by decide) (by decide)]; exact h1, by rw [e 83 (by decide) (by decide)]; exact h2, h3, h4, fun i hi => ?_⟩
  obtain ⟨a, b⟩ := h6 i hi
  have hm : (o + i) % 8 < 8 := Nat.mod_lt _ (by decide)
  have he : hs 83 ((o + i) % 8) = 83 + (2 + 36 * ((o + i) % 8)) := rfl
  exact ⟨a, b.fr a.1.2.2.1.2 (fun c c1 c2 => e c (by omega) (by omega)) (fun c c1 c2 => eL c (by omega) (by omega))⟩
/-- the solver, the draft, the reader may change -/
theorem CS.fr {I I' : am_I} {L L' : am_L} {w : Nat → Int32} {h : Nat → Nat → Int32} {s : Nat} (R : CS I L w h s) (e : ∀ c, 9 ≤ c → c < 373 → ¬ (45 ≤ c ∧ c < 83) → I' c = I c) (eL : ∀ c, 9 ≤ c → c < 373 → ¬ (45 ≤ c ∧ c < 83) → L' c = L c) : CS I' L' w h s :=
  ⟨R.1, R.2.1.fr R.1.1.2.2.1.2 (fun c c1 c2 => e c (by omega) (by omega) (by omega)) (fun c c1 c2 => eL c (by omega) (by omega) (by omega)), R.2.2.fr (fun c c1 c2 => e c (by omega) c2 (by omega)) (fun c c1 c2 => eL c (by omega) c2 (by omega))⟩
theorem inR_t {g G : Nat} (h : g < G) (hG : G < 2147483648) : inR (nn g) 0 (nn G - 1) = true := by
  unfold inR
  rw [nl_1, nn_sub (by omega), decide_eq_true (nn_neg_le (by omega)), decide_eq_true ((nn_le (by omega) (by omega)).mpr (by omega))]
  rfl
theorem inR_f {p : Int32} {G : Nat} (hG : G < 1000) (h : ¬ ∃ g, g < G ∧ p = nn g) : inR p 0 (nn G - 1) = false := by
  unfold inR
  cases h0 : decide (0 ≤ p)
  · rfl
  · cases h1 : decide (p ≤ nn G - 1)
    · rfl
    · rw [decide_eq_true_eq] at h0 h1
      refine absurd ?_ h
      have e : p = nn p.toNatClampNeg := (Int32.ofNat_toNatClampNeg p h0).symm
      have hv := Int32.toNatClampNeg_lt p
      by_cases hz : G = 0
      · subst hz
        have : (0 : Int32) ≤ nn 0 - 1 := Int32.le_trans h0 h1
        exact absurd this (by decide)
      · rw [e, nl_1, nn_sub (by omega), nn_le (by omega) (by omega)] at h1
        exact ⟨p.toNatClampNeg, by omega, e⟩
theorem rg_f {p : Int32} {G : Nat} (hG : G < 1000) (h : ¬ ∃ g, g < G ∧ p = nn g) : p < 0 ∨ ¬ p < nn G := by
  by_cases h0 : p < 0
  · exact Or.inl h0
  · refine Or.inr (fun h1 => h ?_)
    have h0' : 0 ≤ p := Int32.not_lt.mp h0
    have e : p = nn p.toNatClampNeg := (Int32.ofNat_toNatClampNeg p h0').symm
    have hv := Int32.toNatClampNeg_lt p
    rw [e, nn_lt (by omega) (by omega)] at h1
    exact ⟨_, h1, e⟩
section F1
variable {d mc ms : Nat} {Γ : am_G} {I : am_I} {L : am_L} {w : Nat → Int32} {h : Nat → Nat → Int32} {s : Nat}
theorem eX8_requireQuestion_t (hF : wF Γ) {g G : Nat} (hG : I 9 0 = nn G) (h : g < G) (h8 : G < 1000) : am_E m_X8_requireQuestion d mc ms [.ref 0, .int (nn g)] Γ I L (.inl none) I L := by
  obtain ⟨⟨o, f0, f1, -⟩, -, st, -⟩ := hF
  refine am_ofE rfl rfl rfl (Nat.le_of_ble_eq_true rfl) ?_
  refine bX8_requireQuestion_0 (fun z => absurd z (nn_neg_lt (by omega))) (fun _ => ?_)
  refine bX8_requireQuestion_4 o f1 st.1 (fun _ => ?_) (fun z => absurd ((nn_lt (by omega) (by omega)).mpr h) (by rw [← hG]; exact z))
  refine bX8_requireQuestion_23 ?_
  exact ⟨rfl, rfl, rfl⟩
theorem eX8_requireQuestion_f (hF : wF Γ) {p : Int32} {G : Nat} (hG : I 9 0 = nn G) (h : ¬ ∃ g, g < G ∧ p = nn g) (h8 : G < 1000) : am_E m_X8_requireQuestion d 1 6 [.ref 0, .int p] Γ I L (.inr "java/lang/IndexOutOfBoundsException") I L := by
  obtain ⟨⟨o, f0, f1, -⟩, -, st, -⟩ := hF
  refine am_ofE rfl rfl rfl (Nat.le_of_ble_eq_true rfl) ?_
  have hr := rg_f h8 h
  refine bX8_requireQuestion_0 (fun z => ?_) (fun z => ?_)
  · refine bX8_requireQuestion_15 (by decide) (by decide) ?_
    exact ⟨rfl, rfl, rfl⟩
  · refine bX8_requireQuestion_4 o f1 st.1 (fun z2 => absurd z2 (by rw [hG]; exact hr.resolve_left z)) (fun _ => ?_)
    refine bX8_requireQuestion_15 (by decide) (by decide) ?_
    exact ⟨rfl, rfl, rfl⟩
theorem eX8_requireType_t (hF : wF Γ) {g G : Nat} (hG : I 9 1 = nn G) (h : g < G) (h8 : G < 1000) : am_E m_X8_requireType d mc ms [.ref 0, .int (nn g)] Γ I L (.inl none) I L := by
  obtain ⟨⟨o, f0, f1, -⟩, -, st, -⟩ := hF
  refine am_ofE rfl rfl rfl (Nat.le_of_ble_eq_true rfl) ?_
  refine bX8_requireType_0 (fun z => absurd z (nn_neg_lt (by omega))) (fun _ => ?_)
  refine bX8_requireType_4 o f1 st.1 (fun _ => ?_) (fun z => absurd ((nn_lt (by omega) (by omega)).mpr h) (by rw [← hG]; exact z))
  refine bX8_requireType_23 ?_
  exact ⟨rfl, rfl, rfl⟩
theorem eX8_requireType_f (hF : wF Γ) {p : Int32} {G : Nat} (hG : I 9 1 = nn G) (h : ¬ ∃ g, g < G ∧ p = nn g) (h8 : G < 1000) : am_E m_X8_requireType d 1 6 [.ref 0, .int p] Γ I L (.inr "java/lang/IndexOutOfBoundsException") I L := by
  obtain ⟨⟨o, f0, f1, -⟩, -, st, -⟩ := hF
  refine am_ofE rfl rfl rfl (Nat.le_of_ble_eq_true rfl) ?_
  have hr := rg_f h8 h
  refine bX8_requireType_0 (fun z => ?_) (fun z => ?_)
  · refine bX8_requireType_15 (by decide) (by decide) ?_
    exact ⟨rfl, rfl, rfl⟩
  · refine bX8_requireType_4 o f1 st.1 (fun z2 => absurd z2 (by rw [hG]; exact hr.resolve_left z)) (fun _ => ?_)
    refine bX8_requireType_15 (by decide) (by decide) ?_
    exact ⟨rfl, rfl, rfl⟩
theorem eX8_requireGate_t (hF : wF Γ) {g G : Nat} (hG : I 9 2 = nn G) (h : g < G) (h8 : G < 1000) : am_E m_X8_requireGate d mc ms [.ref 0, .int (nn g)] Γ I L (.inl none) I L := by
  obtain ⟨⟨o, f0, f1, -⟩, -, st, -⟩ := hF
  refine am_ofE rfl rfl rfl (Nat.le_of_ble_eq_true rfl) ?_
  refine bX8_requireGate_0 (fun z => absurd z (nn_neg_lt (by omega))) (fun _ => ?_)
  refine bX8_requireGate_4 o f1 st.1 (fun _ => ?_) (fun z => absurd ((nn_lt (by omega) (by omega)).mpr h) (by rw [← hG]; exact z))
  refine bX8_requireGate_23 ?_
  exact ⟨rfl, rfl, rfl⟩
theorem eX8_requireGate_f (hF : wF Γ) {p : Int32} {G : Nat} (hG : I 9 2 = nn G) (h : ¬ ∃ g, g < G ∧ p = nn g) (h8 : G < 1000) : am_E m_X8_requireGate d 1 6 [.ref 0, .int p] Γ I L (.inr "java/lang/IndexOutOfBoundsException") I L := by
  obtain ⟨⟨o, f0, f1, -⟩, -, st, -⟩ := hF
  refine am_ofE rfl rfl rfl (Nat.le_of_ble_eq_true rfl) ?_
  have hr := rg_f h8 h
  refine bX8_requireGate_0 (fun z => ?_) (fun z => ?_)
  · refine bX8_requireGate_15 (by decide) (by decide) ?_
    exact ⟨rfl, rfl, rfl⟩
  · refine bX8_requireGate_4 o f1 st.1 (fun z2 => absurd z2 (by rw [hG]; exact hr.resolve_left z)) (fun _ => ?_)
    refine bX8_requireGate_15 (by decide) (by decide) ?_
    exact ⟨rfl, rfl, rfl⟩
theorem eX8_requireNode_t (hF : wF Γ) {g G n N : Nat} (hG : I 9 2 = nn G) (h : g < G) (h4 : G ≤ 4) (hN : I (gc 9 g + 2) 0 = nn N) (hn : n < N) (h15 : N ≤ 15) : am_E m_X8_requireNode (d + 1) mc ms [.ref 0, .int (nn g), .int (nn n)] Γ I L (.inl none) I L := by
  obtain ⟨⟨o, f0, f1, -⟩, -, st, -⟩ := id hF
  obtain ⟨ob, s4, s5, s6, s7, s8, s9, s10, b1, b2, b3, b4, b5, b6, o7, hg⟩ := id st
  obtain ⟨hg1, og, g4, g5, gr, tr⟩ := hg g (by omega)
  refine am_ofE rfl rfl rfl (Nat.le_of_ble_eq_true rfl) ?_
  refine bX8_requireNode_0 o (Nat.zero_le _) (Nat.zero_le _) (eX8_requireGate_t (mc := 0) (ms := 0) hF hG h (by omega)) ?_
  refine bX8_requireNode_5 (fun z => absurd z (nn_neg_lt (by omega))) (fun _ => ?_)
  refine bX8_requireNode_9 o f1 ob s9 b6 (nn_in (by omega) (by omega)) (by rw [nn_nat (by omega)]; exact hg1) og g5 tr.1 (fun _ => ?_) (fun z => absurd ((nn_lt (by omega) (by omega)).mpr hn) (by rw [← hN]; exact z))
  refine bX8_requireNode_36 ?_
  exact ⟨rfl, rfl, rfl⟩
theorem eX8_requireNode_f (hF : wF Γ) {g G N : Nat} {p : Int32} (hG : I 9 2 = nn G) (h : g < G) (h4 : G ≤ 4) (hN : I (gc 9 g + 2) 0 = nn N) (hn : ¬ ∃ n, n < N ∧ p = nn n) (h15 : N ≤ 15) : am_E m_X8_requireNode (d + 1) 1 6 [.ref 0, .int (nn g), .int p] Γ I L (.inr "java/lang/IndexOutOfBoundsException") I L := by
  obtain ⟨⟨o, f0, f1, -⟩, -, st, -⟩ := id hF
  obtain ⟨ob, s4, s5, s6, s7, s8, s9, s10, b1, b2, b3, b4, b5, b6, o7, hg⟩ := id st
  obtain ⟨hg1, og, g4, g5, gr, tr⟩ := hg g (by omega)
  have hr := rg_f (by omega) hn
  refine am_ofE rfl rfl rfl (Nat.le_of_ble_eq_true rfl) ?_
  refine bX8_requireNode_0 o (Nat.zero_le _) (Nat.zero_le _) (eX8_requireGate_t (mc := 0) (ms := 0) hF hG h (by omega)) ?_
  refine bX8_requireNode_5 (fun z => ?_) (fun z => ?_)
  · refine bX8_requireNode_28 (by decide) (by decide) ?_
    exact ⟨rfl, rfl, rfl⟩
  · refine bX8_requireNode_9 o f1 ob s9 b6 (nn_in (by omega) (by omega)) (by rw [nn_nat (by omega)]; exact hg1) og g5 tr.1 (fun z2 => absurd z2 (by rw [hN]; exact hr.resolve_left z)) (fun _ => ?_)
    refine bX8_requireNode_28 (by decide) (by decide) ?_
    exact ⟨rfl, rfl, rfl⟩
theorem eX8_requireNode_x (hF : wF Γ) {G : Nat} {u p : Int32} (hG : I 9 2 = nn G) (h : ¬ ∃ g, g < G ∧ u = nn g) (h4 : G ≤ 4) : am_E m_X8_requireNode (d + 1) 1 6 [.ref 0, .int u, .int p] Γ I L (.inr "java/lang/IndexOutOfBoundsException") I L := by
  refine am_ofE rfl rfl rfl (Nat.le_of_ble_eq_true rfl) ?_
  refine bX8_requireNode_0x hF.1.1 (by decide) (by decide) (eX8_requireGate_f hF hG h (by omega)) ?_
  exact ⟨rfl, rfl, rfl⟩
theorem eX8_requireRange_t {v lo hi : Int32} (h1 : ¬ v < lo) (h2 : v ≤ hi) : am_E m_X8_requireRange d mc ms [.int v, .int lo, .int hi] Γ I L (.inl none) I L := by
  refine am_ofE rfl rfl rfl (Nat.le_of_ble_eq_true rfl) ?_
  refine bX8_requireRange_0 (fun z => absurd z h1) (fun _ => ?_)
  refine bX8_requireRange_5 (fun _ => ?_) (fun z => absurd h2 z)
  refine bX8_requireRange_18 ?_
  exact ⟨rfl, rfl, rfl⟩
theorem eX8_requireRange_f {v lo hi : Int32} (h : inR v lo hi = false) : am_E m_X8_requireRange d 1 6 [.int v, .int lo, .int hi] Γ I L (.inr "java/lang/IllegalArgumentException") I L := by
  refine am_ofE rfl rfl rfl (Nat.le_of_ble_eq_true rfl) ?_
  refine bX8_requireRange_0 (fun z => ?_) (fun z => ?_)
  · refine bX8_requireRange_10 (by decide) (by decide) ?_
    exact ⟨rfl, rfl, rfl⟩
  · refine bX8_requireRange_5 (fun z2 => ?_) (fun z2 => ?_)
    · unfold inR at h
      rw [decide_eq_true (Int32.not_lt.mp z), decide_eq_true z2] at h
      cases h
    · refine bX8_requireRange_10 (by decide) (by decide) ?_
      exact ⟨rfl, rfl, rfl⟩
theorem CS.nums (R : CS I L w h s) : (I 9 0 = nn (vQ w) ∧ I 9 1 = nn (vT w) ∧ I 9 2 = nn (vG w) ∧ I 9 3 = w 3) ∧ (w 0 = nn (vQ w) ∧ w 1 = nn (vT w) ∧ w 2 = nn (vG w)) ∧ vQ w ≤ 6 ∧ vT w ≤ 8 ∧ vG w ≤ 4 ∧ 0 < vQ w ∧ 0 < vT w ∧ 0 < vG w := by
  obtain ⟨⟨h1, h2, h3, h4⟩, ⟨⟨a0, a1, a2, a3⟩, -⟩, -⟩ := R
  obtain ⟨⟨q0, q6⟩, ⟨t0, t8⟩, ⟨g0, g4⟩, -⟩ := h1
  exact ⟨⟨a0.trans q0, a1.trans t0, a2.trans g0, a3⟩, ⟨q0, t0, g0⟩, q6, t8, g4, h2, h3, h4⟩
theorem ffs_lf (tq ts : Nat → Int32) (k : Int32) (N : Nat) (I : am_I) (t : Nat) (h : ∀ n, n < N → I (t + 1) n = tq n ∧ I (t + 4) n = ts n) : tLh I t k N = lfA tq ts k N := by
  have e : ffs (fun n => I (t + 1) n == -1 && ib (I (t + 4) n) k) N = ffs (fun n => tq n == -1 && ib (ts n) k) N := ffs_congr N (fun n hn => by rw [(h n hn).1, (h n hn).2])
  unfold tLh tLf lfA
  rw [e]
theorem pc_wc (tq ts cs : Nat → Int32) (k : Int32) (N : Nat) (I : am_I) (b t : Nat) (h : ∀ n, n < N → I (t + 1) n = tq n ∧ I (t + 4) n = ts n) (hc : ∀ n, n < N → tq n ≠ -1 → I (b + 2) (tq n).toNatClampNeg = cs (tq n).toNatClampNeg) : pCost I b t k N = wcA tq ts cs k N := by
  refine fsum_congr N (fun n hn => ?_)
  rw [(h n hn).1, (h n hn).2]
  by_cases hz : tq n ≠ -1 ∧ ib (ts n) k = true
  · rw [if_pos hz, if_pos hz, hc n hn hz.1]
  · rw [if_neg hz, if_neg hz]
theorem ib_ge {S t T : Nat} (hS : S < 2 ^ T) (hT : T ≤ 8) (ht : T ≤ t) (h8 : t < 32) : ib (nn S) (nn t) = false := by
  have := two_le8 hT
  rw [ib_nn (by omega) h8]
  exact Nat.testBit_lt_two_pow (Nat.lt_of_lt_of_le hS (Nat.pow_le_pow_right (by decide) ht))
/-- what a gate's face needs -/
theorem CS.gate (R : CS I L w h s) {g : Nat} (hg : g < vG w) : ∃ e, e ≤ 15 ∧ 0 < e ∧ e = teW w g ∧ w (132 + g * 94 + 18) = nn e ∧ I (gc 9 g + 2) 0 = nn e ∧ trW w g (vQ w) (vT w) (tyW w) e ∧
    (∀ n, n < e → I (gc 9 g + 2 + 1) n = rw5 w g 0 n ∧ I (gc 9 g + 2 + 2) n = rw5 w g 1 n ∧ I (gc 9 g + 2 + 3) n = rw5 w g 3 n ∧ I (gc 9 g + 2 + 4) n = rw5 w g 4 n) ∧ tOK I (gc 9 g + 2) e ∧
    (∀ n, n < e → ∃ S', S' ≠ 0 ∧ S' < 2 ^ vT w ∧ rw5 w g 4 n = nn S' ∧ (rw5 w g 0 n ≠ -1 → ∃ q, q < vQ w ∧ rw5 w g 0 n = nn q) ∧ rw5 w g 2 n = if rw5 w g 0 n = -1 then -1 else nn (n + 1)) := by
  obtain ⟨⟨n0, n1, n2, n3⟩, ⟨w0, w1, w2⟩, q6, t8, g4, q0, t0, g0⟩ := R.nums
  have tw := R.1.1.tr hg
  obtain ⟨y0, y1, y2, y3, y4, y5, y6⟩ := R.2.1.2.2.2.2 g hg
  have p2 : 2 ^ 1 ≤ 2 ^ vT w := Nat.pow_le_pow_right (n := 2) (by decide) t0
  have p8 := two_le8 t8
  have sets : ∀ n, n < teW w g → ∃ S', S' ≠ 0 ∧ S' < 2 ^ vT w ∧ rw5 w g 4 n = nn S' ∧ (rw5 w g 0 n ≠ -1 → ∃ q, q < vQ w ∧ rw5 w g 0 n = nn q) ∧ rw5 w g 2 n = if rw5 w g 0 n = -1 then -1 else nn (n + 1) := fun n hn => by
    obtain ⟨S', s1, s2, s3, s4, s5, s6⟩ := tva_set q6 tw.2.2.2 (by omega) n (Nat.zero_le _) hn
    exact ⟨S', s1, by omega, s3, s5, s6⟩
  refine ⟨teW w g, tw.2.2.1, tw.2.1, rfl, tw.1, y5.trans tw.1, tw, y6, fun n hn hq => ?_, sets⟩
  rw [(y6 n hn).1] at hq ⊢
  obtain ⟨S', s1, s2, s3, s4, s5⟩ := sets n hn
  obtain ⟨q, q1, q2⟩ := s4 hq
  rw [q2]
  exact nn_in (by omega) (by omega)
theorem CS.lf (R : CS I L w h s) {g e : Nat} (h6 : ∀ n, n < e → I (gc 9 g + 2 + 1) n = rw5 w g 0 n ∧ I (gc 9 g + 2 + 2) n = rw5 w g 1 n ∧ I (gc 9 g + 2 + 3) n = rw5 w g 3 n ∧ I (gc 9 g + 2 + 4) n = rw5 w g 4 n) (k : Int32) : tLh I (gc 9 g + 2) k e = lfA (rw5 w g 0) (rw5 w g 4) k e :=
  ffs_lf _ _ _ _ _ _ (fun n hn => ⟨(h6 n hn).1, (h6 n hn).2.2.2⟩)
theorem CS.wc (R : CS I L w h s) {g e : Nat} (hg : g < vG w) (he : e = teW w g) (h6 : ∀ n, n < e → I (gc 9 g + 2 + 1) n = rw5 w g 0 n ∧ I (gc 9 g + 2 + 2) n = rw5 w g 1 n ∧ I (gc 9 g + 2 + 3) n = rw5 w g 3 n ∧ I (gc 9 g + 2 + 4) n = rw5 w g 4 n) (k : Int32) : pCost I 9 (gc 9 g + 2) k e = wcA (rw5 w g 0) (rw5 w g 4) (csW w) k e := by
  refine pc_wc _ _ _ _ _ _ _ _ (fun n hn => ⟨(h6 n hn).1, (h6 n hn).2.2.2⟩) (fun n hn hq => ?_)
  obtain ⟨e', -, -, he', -, -, -, -, -, h⟩ := R.gate hg
  obtain ⟨S', s1, s2, s3, s4, s5⟩ := h n (by omega)
  obtain ⟨q, q1, q2⟩ := s4 hq
  have q6 := R.1.1.1.2
  rw [q2, nn_nat (by omega)]
  exact (R.2.1.2.1 q q1).2.1
theorem CS.err (R : CS I L w h s) {g e : Nat} (hg : g < vG w) (he : e = teW w g) (h6 : ∀ n, n < e → I (gc 9 g + 2 + 1) n = rw5 w g 0 n ∧ I (gc 9 g + 2 + 2) n = rw5 w g 1 n ∧ I (gc 9 g + 2 + 3) n = rw5 w g 3 n ∧ I (gc 9 g + 2 + 4) n = rw5 w g 4 n) : errN I 9 g e (vT w) = mErr w g e (vT w) := by
  have t8 := R.1.1.2.1.2
  refine fsum_congr _ (fun t ht => ?_)
  obtain ⟨k1, -⟩ := lfA_sp R.1.1.1.2 (show t < 32 by omega) (R.1.1.tr hg).2.2.2 (by have := two_le8 t8; omega) (all_bit ht)
  rw [← he] at k1
  rw [R.lf h6, (h6 _ k1).2.1, (R.2.1.2.2.1 t ht).2, ((R.2.1.2.2.2.2 g hg).2.2.2.2.1 t ht)]
  rfl
theorem wgt_m {I : am_I} {c g S T : Nat} {w : Nat → Int32} (hT : T ≤ 8) (hS : S < 2 ^ T) (h : ∀ t, t < T → I c t = w (132 + g * 94 + (10 + t))) : wgt I c (nn S) 8 = mWgt w g (nn S) T := by
  unfold wgt mWgt
  rw [fsum_z (n := T) hT (fun j j1 j2 => by rw [ib_ge hS hT j1 (by omega)]; rfl)]
  exact fsum_congr _ (fun t ht => by rw [h t ht])
theorem CS.wrk (R : CS I L w h s) {g e : Nat} (hg : g < vG w) (he : e = teW w g) (h6 : ∀ n, n < e → I (gc 9 g + 2 + 1) n = rw5 w g 0 n ∧ I (gc 9 g + 2 + 2) n = rw5 w g 1 n ∧ I (gc 9 g + 2 + 3) n = rw5 w g 3 n ∧ I (gc 9 g + 2 + 4) n = rw5 w g 4 n) : wrkN I 9 g e = mWrk w g (vT w) e := by
  obtain ⟨e', -, -, he', -, -, -, -, -, h⟩ := R.gate hg
  have q6 := R.1.1.1.2
  refine fsum_congr _ (fun n hn => ?_)
  obtain ⟨S', s1, s2, s3, s4, s5⟩ := h n (by omega)
  rw [(h6 n hn).1, (h6 n hn).2.2.2]
  by_cases hq : rw5 w g 0 n = -1
  · rw [if_pos hq, if_pos hq]
  · rw [if_neg hq, if_neg hq]
    obtain ⟨q, q1, q2⟩ := s4 hq
    rw [q2, nn_nat (by omega), s3, wgt_m R.1.1.2.1.2 s2 (R.2.1.2.2.2.2 g hg).2.2.2.2.1, (R.2.1.2.1 q q1).2.1]

end F1
