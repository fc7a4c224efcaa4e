/-! THE TEXT'S TOKENS: what the model takes -/
/-- the model once something is wrong -/
def wrS (J : am_I) (m c s : Nat) : am_I := am_u (am_u (am_u J m 23 1) m 11 (nn c)) m 12 (nn s)
theorem wrS_at {J : am_I} {m c s : Nat} : wrS J m c s m 23 = 1 ∧ wrS J m c s m 11 = nn c ∧ wrS J m c s m 12 = nn s ∧ (∀ k, k ≠ m → wrS J m c s k = J k) ∧ ∀ j, j ≠ 23 → j ≠ 11 → j ≠ 12 → wrS J m c s m j = J m j := by
  unfold wrS
  exact ⟨by rw [at1, if_neg (by decide), at1, if_neg (by decide), at1, if_pos rfl], by rw [at1, if_neg (by decide), at1, if_pos rfl], by rw [at1, if_pos rfl], fun k hk => by rw [am_u_ne hk, am_u_ne hk, am_u_ne hk], fun j a b c' => by rw [at1, if_neg c', at1, if_neg b, at1, if_neg a]⟩
theorem rmB.frM {I I' : am_I} {m : Nat} {B : Nat → Nat} {n : Nat} (h : rmB I m B n) (f : frM I I' m) : rmB I' m B n :=
  ⟨h.1, (f.2 9 (by decide) (by decide) (by decide) (by decide)).trans h.2.1, fun j hj => ⟨(h.2.2 j hj).1, by rw [f.1 (m + 6) (by omega)]; exact (h.2.2 j hj).2⟩⟩
theorem kdM_le {k : Nat} : kdM k ≤ 4 := by
  unfold kdM
  split
  · omega
  · split
    · omega
    · split
      · omega
      · split <;> omega
theorem kdM_1 {k : Nat} (h : k ≤ 4) : kdM k = 1 ↔ k = 0 := by
  have : ∀ k, k < 5 → (kdM k = 1 ↔ k = 0) := by decide
  exact this k (by omega)
theorem kdM_2 {k : Nat} (h : k ≤ 4) : kdM k = 2 ↔ k = 1 := by
  have : ∀ k, k < 5 → (kdM k = 2 ↔ k = 1) := by decide
  exact this k (by omega)
theorem kdM_3 {k : Nat} (h : k ≤ 4) : kdM k = 3 ↔ k = 2 := by
  have : ∀ k, k < 5 → (kdM k = 3 ↔ k = 2) := by decide
  exact this k (by omega)
theorem kdM_0 {k : Nat} (h : k ≤ 4) : kdM k = 0 ↔ k = 3 := by
  have : ∀ k, k < 5 → (kdM k = 0 ↔ k = 3) := by decide
  exact this k (by omega)
section TK5
variable {d mc ms : Nat} {Γ : am_G} {I : am_I} {L : am_L} {B : Nat → Nat} {n s m : Nat}
theorem tkM.k19 (ht : tkM B n I m s) {k : Nat} (hk : k ≤ 4) : (I m 19 = nn k) ↔ kdM (kd B n s) = k := by
  have := kdM_le (k := kd B n s)
  rw [ht.2.2.1]
  exact nn_eq (by omega) (by omega)
theorem eX9_is (hm : mdF Γ m) (hB : rmB I m B n) (ht : tkM B n I m s) {i : Nat} (hi : i < am_sn) : am_E m_X9_is (d + 4) 0 0 [.ref m, .retAddr i] Γ I L (.inl (some (.int (bi (wd B n s i))))) I L := by
  obtain ⟨mo, r0, r1, r2, r3, r4, r7, r8, r13, r14, r15, r16, r17, a1, a2, a3, a4, a5, a6, a7, a8, a9, a10, a11, a12⟩ := id hm
  obtain ⟨h7, hn, hb⟩ := id hB
  obtain ⟨sn, t20, t19, t21, -⟩ := id ht
  have tl := tlen_lt i hi
  have el := en_le (B := B) sn
  have hk4 := kd_le B n s
  have hk1 : (I m 19 = 1) ↔ kd B n s = 0 := (ht.k19 (k := 1) (by decide)).trans (kdM_1 hk4)
  refine am_ofE rfl rfl rfl (Nat.le_of_ble_eq_true rfl) ?_
  refine bX9_is_0 mo (fun h => ?_) (fun h => ?_)
  · refine bX9_is_24 ?_
    exact am_R_e (by unfold wd; rw [decide_eq_false (fun z => h (hk1.mpr z.1)), Bool.false_and]; rfl) rfl rfl
  · have h := hk1.mp h
    obtain ⟨k1, k2, k3⟩ := kd0_in h
    have e98 : I m 21 - I m 20 = nn (en B n s - s) := by rw [t20, t21, nn_sub el.1]
    refine bX9_is_8 mo hi (Nat.zero_le _) (Nat.zero_le _) (eJ0_length hi) ?_
    rw [e98]
    refine bX9_is_21 (fun h2 => ?_) (fun h2 => ?_)
    · rw [nn_eq (by omega) (by omega)] at h2
      refine bX9_is_26 ?_
      have body : ∀ j, j < tlen i → I (m + 6) (nn (s + j)).toNatClampNeg = nn (B (s + j)) := by
        intro j hj
        rw [nn_nat (by omega)]
        exact (hb (s + j) (by omega)).2
      refine nn_loop (fun j => (∀ i', i' < j → nn (B (s + i')) = tbyte i i') → am_W m_X9_is (d + 4) 0 0 false 0 0 28 [(0, .ref m), (1, .retAddr i), (2, .int (nn j))] [] Γ I L (am_R (.inl (some (.int (bi (wd B n s i))))) I L)) (tlen i) (fun hall => ?_) (fun j hj ih h0 => ?_) (fun i' hi' => absurd hi' (Nat.not_lt_zero i'))
      · refine bX9_is_28 hi (Nat.zero_le _) (Nat.zero_le _) (eJ0_length hi) ?_
        refine bX9_is_33 (fun _ => ?_) (fun h => absurd (Int32.le_of_eq rfl) h)
        refine bX9_is_63 ?_
        refine am_R_e ?_ rfl rfl
        have : wd B n s i = true := by
          unfold wd
          rw [decide_eq_true ⟨h, h2⟩, Bool.true_and, List.all_eq_true]
          intro j hj
          exact decide_eq_true (hall j (List.mem_range.mp hj))
        rw [this]
        rfl
      · refine bX9_is_28 hi (Nat.zero_le _) (Nat.zero_le _) (eJ0_length hi) ?_
        refine bX9_is_33 (fun h => absurd h (by rw [nn_le (by omega) (by omega)]; omega)) (fun _ => ?_)
        have e8j : I m 20 + nn j = nn (s + j) := by rw [t20, nn_add]
        refine bX9_is_36 mo (by assumption) (by assumption) (by rw [e8j]; exact nn_in (by omega) (by omega)) hi (Nat.zero_le _) (Nat.zero_le _) (eJ0_charAt hi hj) ?_
        rw [e8j, body j hj]
        refine bX9_is_52 (fun h3 => ?_) (fun h3 => ?_)
        · refine bX9_is_57 ?_
          rw [nn_s1]
          refine ih (fun i' hi' => ?_)
          by_cases hc : i' < j
          · exact h0 i' hc
          · obtain rfl : i' = j := by omega
            exact h3
        · refine bX9_is_55 ?_
          refine am_R_e ?_ rfl rfl
          have : wd B n s i = false := by
            unfold wd
            cases hx : (List.range (tlen i)).all (fun j => decide (nn (B (s + j)) = tbyte i j))
            · rw [Bool.and_false]
            · rw [List.all_eq_true] at hx
              exact absurd (of_decide_eq_true (hx j (List.mem_range.mpr hj))) h3
          rw [this]
          rfl
    · rw [nn_eq (by omega) (by omega)] at h2
      refine bX9_is_24 ?_
      exact am_R_e (by unfold wd; rw [decide_eq_false (fun z => h2 z.2), Bool.false_and]; rfl) rfl rfl
theorem eX9_wrong_0 (hm : mdF Γ m) (c : Int32) : am_E m_X9_wrong d 0 0 [.ref m, .int 0, .int c] Γ I L (.inl none) I L := by
  have mo := hm.1
  refine am_ofE rfl rfl rfl (Nat.le_of_ble_eq_true rfl) ?_
  refine bX9_wrong_0 mo (fun _ => ?_) (fun _ => ?_)
  · refine bX9_wrong_11 ?_
    exact ⟨rfl, rfl, rfl⟩
  · refine bX9_wrong_7 (fun h => absurd rfl h) (fun _ => ?_)
    refine bX9_wrong_11 ?_
    exact ⟨rfl, rfl, rfl⟩
theorem eX9_wrong_x (hm : mdF Γ m) (h : I m 23 = 1) (a c : Int32) : am_E m_X9_wrong d 0 0 [.ref m, .int a, .int c] Γ I L (.inl none) I L := by
  have mo := hm.1
  refine am_ofE rfl rfl rfl (Nat.le_of_ble_eq_true rfl) ?_
  refine bX9_wrong_0 mo (fun _ => ?_) (fun z => absurd z (by rw [h]; decide))
  refine bX9_wrong_11 ?_
  exact ⟨rfl, rfl, rfl⟩
theorem eX9_wrong_1 (hm : mdF Γ m) (h : I m 23 = 0) (h20 : I m 20 = nn s) (c : Nat) : am_E m_X9_wrong d 0 0 [.ref m, .int 1, .int (nn c)] Γ I L (.inl none) (wrS I m c s) L := by
  have mo := hm.1
  refine am_ofE rfl rfl rfl (Nat.le_of_ble_eq_true rfl) ?_
  refine bX9_wrong_0 mo (fun z => absurd h z) (fun _ => ?_)
  refine bX9_wrong_7 (fun _ => ?_) (fun z => absurd z (by decide))
  refine bX9_wrong_12 mo ?_
  rw [show am_u (am_u I m 23 1) m 11 (nn c) m 20 = nn s from by rw [at1, if_neg (by decide), at1, if_neg (by decide)]; exact h20]
  exact ⟨rfl, rfl, rfl⟩
theorem eX9_go_x (hm : mdF Γ m) (h : I m 23 = 1) : am_E m_X9_go d 0 0 [.ref m] Γ I L (.inl none) I L := by
  have mo := hm.1
  refine am_ofE rfl rfl rfl (Nat.le_of_ble_eq_true rfl) ?_
  refine bX9_go_0 mo (fun _ => ?_) (fun z => absurd z (by rw [h]; decide))
  refine bX9_go_11 ?_
  exact ⟨rfl, rfl, rfl⟩
theorem eX9_go (hm : mdF Γ m) (hB : rmB I m B n) (ht : tkM B n I m s) (h : I m 23 = 0) : ∃ I', am_E m_X9_go (d + 3) 0 0 [.ref m] Γ I L (.inl none) I' L ∧ tkM B n I' m (nx B n s) ∧ frM I I' m := by
  have mo := hm.1
  obtain ⟨I', f1, f2, f3⟩ := eX9_next (d := d) (L := L) hm hB ht.2.2.2.1 (en_le ht.1).2
  refine ⟨I', am_ofE rfl rfl rfl (Nat.le_of_ble_eq_true rfl) ?_, f2, f3⟩
  refine bX9_go_0 mo (fun z => absurd h z) (fun _ => ?_)
  refine bX9_go_7 mo (Nat.zero_le _) (Nat.zero_le _) f1 ?_
  refine bX9_go_11 ?_
  exact ⟨rfl, rfl, rfl⟩
theorem eX9_here_x (hm : mdF Γ m) (h : I m 23 = 1) (lo hi : Int32) : am_E m_X9_here (d + 1) 0 0 [.ref m, .int lo, .int hi] Γ I L (.inl (some (.int lo))) I L := by
  have mo := hm.1
  have hz : ¬ I m 23 = 0 := by rw [h]; decide
  refine am_ofE rfl rfl rfl (Nat.le_of_ble_eq_true rfl) ?_
  have tail : am_W m_X9_here (d + 1) 0 0 false 0 0 18 [(0, .ref m), (1, .int lo), (2, .int hi)] [] Γ I L (am_R (.inl (some (.int lo))) I L) := by
    refine bX9_here_18 mo (fun _ => ?_) (fun z => absurd z hz)
    refine bX9_here_42 ?_
    refine bX9_here_43 mo (Nat.zero_le _) (Nat.zero_le _) (eX9_wrong_x hm h _ _) ?_
    refine bX9_here_47 mo (fun z => absurd z hz) (fun _ => ?_)
    refine bX9_here_54 ?_
    refine bX9_here_62 ?_
    exact ⟨rfl, rfl, rfl⟩
  refine bX9_here_0 mo (fun _ => ?_) (fun _ => ?_)
  · refine bX9_here_13 ?_
    refine bX9_here_14 mo (Nat.zero_le _) (Nat.zero_le _) (eX9_wrong_x hm h _ _) ?_
    exact tail
  · refine bX9_here_9 ?_
    refine bX9_here_14 mo (Nat.zero_le _) (Nat.zero_le _) (eX9_wrong_x hm h _ _) ?_
    exact tail
/-- a number here: its value, or the fault -/
theorem eX9_here (hm : mdF Γ m) (ht : tkM B n I m s) (h : I m 23 = 0) {lo hi : Nat} (hh : hi < 100000) (hl : lo < 100000) :
    (kd B n s = 1 ∧ lo ≤ vl B n s ∧ vl B n s ≤ hi → am_E m_X9_here (d + 1) 0 0 [.ref m, .int (nn lo), .int (nn hi)] Γ I L (.inl (some (.int (nn (vl B n s))))) I L) ∧
    (∀ c p, pNum B n lo hi s = .error (c, p) → am_E m_X9_here (d + 1) 0 0 [.ref m, .int (nn lo), .int (nn hi)] Γ I L (.inl (some (.int (nn lo)))) (wrS I m c p) L) := by
  have mo := hm.1
  have hk4 := kd_le B n s
  have hk2 : (I m 19 = 2) ↔ kd B n s = 1 := (ht.k19 (k := 2) (by decide)).trans (kdM_2 hk4)
  have inr : ∀ v, v ≤ 100000 → inR (nn v) (nn lo) (nn hi) = decide (lo ≤ v ∧ v ≤ hi) := fun v hv => by
    unfold inR
    rw [show decide (nn lo ≤ nn v) = decide (lo ≤ v) from decide_eq_decide.mpr (nn_le (by omega) (by omega)), show decide (nn v ≤ nn hi) = decide (v ≤ hi) from decide_eq_decide.mpr (nn_le (by omega) (by omega)), ← Bool.decide_and]
  refine ⟨fun ⟨b1, b2, b3⟩ => ?_, fun c p he => ?_⟩
  · obtain ⟨x, x1, x2⟩ := ht.2.2.2.2 b1
    have xx : x = vl B n s := by omega
    subst xx
    refine am_ofE rfl rfl rfl (Nat.le_of_ble_eq_true rfl) ?_
    refine bX9_here_0 mo (fun _ => ?_) (fun z => absurd (hk2.mpr b1) z)
    refine bX9_here_13 ?_
    refine bX9_here_14 mo (Nat.zero_le _) (Nat.zero_le _) (eX9_wrong_0 hm _) ?_
    refine bX9_here_18 mo (fun z => absurd h z) (fun _ => ?_)
    refine bX9_here_26 mo (Nat.zero_le _) (Nat.zero_le _) (eX9_isIn_t (by rw [x1, inr _ (by omega)]; exact decide_eq_true ⟨b2, b3⟩)) ?_
    refine bX9_here_35 (fun _ => ?_) (fun z => absurd z (by decide))
    refine bX9_here_42 ?_
    refine bX9_here_43 mo (Nat.zero_le _) (Nat.zero_le _) (eX9_wrong_0 hm _) ?_
    refine bX9_here_47 mo (fun _ => ?_) (fun z => absurd h z)
    refine bX9_here_58 mo ?_
    refine bX9_here_62 ?_
    exact am_R_e x1 rfl rfl
  · unfold pNum at he
    by_cases b1 : kd B n s = 1
    · rw [if_pos b1] at he
      by_cases b2 : lo ≤ vl B n s ∧ vl B n s ≤ hi
      · rw [if_pos b2] at he
        exact absurd he (by intro z; cases z)
      · rw [if_neg b2] at he
        cases he
        obtain ⟨x, x1, x2⟩ := ht.2.2.2.2 b1
        obtain ⟨e1, e2, e3, e4, e5⟩ := wrS_at (J := I) (m := m) (c := 2) (s := s)
        refine am_ofE rfl rfl rfl (Nat.le_of_ble_eq_true rfl) ?_
        refine bX9_here_0 mo (fun _ => ?_) (fun z => absurd (hk2.mpr b1) z)
        refine bX9_here_13 ?_
        refine bX9_here_14 mo (Nat.zero_le _) (Nat.zero_le _) (eX9_wrong_0 hm _) ?_
        refine bX9_here_18 mo (fun z => absurd h z) (fun _ => ?_)
        refine bX9_here_26 mo (Nat.zero_le _) (Nat.zero_le _) (eX9_isIn_f (by rw [x1, inr _ (by omega)]; exact decide_eq_false (fun z => b2 (by omega)))) ?_
        refine bX9_here_35 (fun z => absurd rfl z) (fun _ => ?_)
        refine bX9_here_38 ?_
        refine bX9_here_43 mo (Nat.zero_le _) (Nat.zero_le _) (eX9_wrong_1 hm h ht.2.1 2) ?_
        refine bX9_here_47 mo (fun z => absurd z (by rw [e1]; decide)) (fun _ => ?_)
        refine bX9_here_54 ?_
        refine bX9_here_62 ?_
        exact ⟨rfl, rfl, rfl⟩
    · rw [if_neg b1] at he
      cases he
      obtain ⟨e1, e2, e3, e4, e5⟩ := wrS_at (J := I) (m := m) (c := 1) (s := s)
      refine am_ofE rfl rfl rfl (Nat.le_of_ble_eq_true rfl) ?_
      refine bX9_here_0 mo (fun z => absurd (hk2.mp z) b1) (fun _ => ?_)
      refine bX9_here_9 ?_
      refine bX9_here_14 mo (Nat.zero_le _) (Nat.zero_le _) (eX9_wrong_1 hm h ht.2.1 1) ?_
      refine bX9_here_18 mo (fun _ => ?_) (fun z => absurd z (by rw [e1]; decide))
      refine bX9_here_42 ?_
      refine bX9_here_43 mo (Nat.zero_le _) (Nat.zero_le _) (eX9_wrong_x hm e1 _ _) ?_
      refine bX9_here_47 mo (fun z => absurd z (by rw [e1]; decide)) (fun _ => ?_)
      refine bX9_here_54 ?_
      refine bX9_here_62 ?_
      exact ⟨rfl, rfl, rfl⟩
theorem eX9_number_x (hm : mdF Γ m) (h : I m 23 = 1) (lo hi : Int32) : am_E m_X9_number (d + 2) 0 0 [.ref m, .int lo, .int hi] Γ I L (.inl (some (.int lo))) I L := by
  have mo := hm.1
  refine am_ofE rfl rfl rfl (Nat.le_of_ble_eq_true rfl) ?_
  refine bX9_number_0 mo (Nat.zero_le _) (Nat.zero_le _) (eX9_here_x hm h lo hi) ?_
  refine bX9_number_6 mo (Nat.zero_le _) (Nat.zero_le _) (eX9_go_x hm h) ?_
  refine bX9_number_11 ?_
  exact ⟨rfl, rfl, rfl⟩
theorem eX9_number (hm : mdF Γ m) (hB : rmB I m B n) (ht : tkM B n I m s) (h : I m 23 = 0) {lo hi : Nat} (hh : hi < 100000) (hl : lo < 100000) :
    (kd B n s = 1 ∧ lo ≤ vl B n s ∧ vl B n s ≤ hi → ∃ I', am_E m_X9_number (d + 4) 0 0 [.ref m, .int (nn lo), .int (nn hi)] Γ I L (.inl (some (.int (nn (vl B n s))))) I' L ∧ tkM B n I' m (nx B n s) ∧ frM I I' m) ∧
    (∀ c p, pNum B n lo hi s = .error (c, p) → am_E m_X9_number (d + 4) 0 0 [.ref m, .int (nn lo), .int (nn hi)] Γ I L (.inl (some (.int (nn lo)))) (wrS I m c p) L) := by
  have mo := hm.1
  obtain ⟨g1, g2⟩ := eX9_here (d := d + 2) (L := L) hm ht h hh hl
  refine ⟨fun hx => ?_, fun c p he => ?_⟩
  · obtain ⟨I', f1, f2, f3⟩ := eX9_go (d := d) (L := L) hm hB ht h
    refine ⟨I', am_ofE rfl rfl rfl (Nat.le_of_ble_eq_true rfl) ?_, f2, f3⟩
    refine bX9_number_0 mo (Nat.zero_le _) (Nat.zero_le _) (g1 hx) ?_
    refine bX9_number_6 mo (Nat.zero_le _) (Nat.zero_le _) f1 ?_
    refine bX9_number_11 ?_
    exact ⟨rfl, rfl, rfl⟩
  · refine am_ofE rfl rfl rfl (Nat.le_of_ble_eq_true rfl) ?_
    refine bX9_number_0 mo (Nat.zero_le _) (Nat.zero_le _) (g2 c p he) ?_
    refine bX9_number_6 mo (Nat.zero_le _) (Nat.zero_le _) (eX9_go_x hm wrS_at.1) ?_
    refine bX9_number_11 ?_
    exact ⟨rfl, rfl, rfl⟩
theorem eX9_semicolon_x (hm : mdF Γ m) (h : I m 23 = 1) : am_E m_X9_semicolon (d + 1) 0 0 [.ref m] Γ I L (.inl none) I L := by
  have mo := hm.1
  refine am_ofE rfl rfl rfl (Nat.le_of_ble_eq_true rfl) ?_
  have tail : ∀ a : Int32, am_W m_X9_semicolon (d + 1) 0 0 false 0 0 14 [(0, .ref m)] [.int a, .ref m] Γ I L (am_R (.inl none) I L) := fun a => by
    refine bX9_semicolon_14 mo (Nat.zero_le _) (Nat.zero_le _) (eX9_wrong_x hm h _ _) ?_
    refine bX9_semicolon_18 mo (Nat.zero_le _) (Nat.zero_le _) (eX9_go_x hm h) ?_
    refine bX9_semicolon_22 ?_
    exact ⟨rfl, rfl, rfl⟩
  refine bX9_semicolon_0 mo (fun _ => ?_) (fun _ => ?_)
  · refine bX9_semicolon_13 ?_
    exact tail _
  · refine bX9_semicolon_9 ?_
    exact tail _
theorem eX9_semicolon (hm : mdF Γ m) (hB : rmB I m B n) (ht : tkM B n I m s) (h : I m 23 = 0) :
    (kd B n s = 2 → ∃ I', am_E m_X9_semicolon (d + 4) 0 0 [.ref m] Γ I L (.inl none) I' L ∧ tkM B n I' m (nx B n s) ∧ frM I I' m) ∧ (¬ kd B n s = 2 → am_E m_X9_semicolon (d + 4) 0 0 [.ref m] Γ I L (.inl none) (wrS I m 1 s) L) := by
  have mo := hm.1
  have hk4 := kd_le B n s
  have hk2 : (I m 19 = 3) ↔ kd B n s = 2 := (ht.k19 (k := 3) (by decide)).trans (kdM_3 hk4)
  refine ⟨fun hx => ?_, fun hx => ?_⟩
  · obtain ⟨I', f1, f2, f3⟩ := eX9_go (d := d) (L := L) hm hB ht h
    refine ⟨I', am_ofE rfl rfl rfl (Nat.le_of_ble_eq_true rfl) ?_, f2, f3⟩
    refine bX9_semicolon_0 mo (fun _ => ?_) (fun z => absurd (hk2.mpr hx) z)
    refine bX9_semicolon_13 ?_
    refine bX9_semicolon_14 mo (Nat.zero_le _) (Nat.zero_le _) (eX9_wrong_0 hm _) ?_
    refine bX9_semicolon_18 mo (Nat.zero_le _) (Nat.zero_le _) f1 ?_
    refine bX9_semicolon_22 ?_
    exact ⟨rfl, rfl, rfl⟩
  · refine am_ofE rfl rfl rfl (Nat.le_of_ble_eq_true rfl) ?_
    refine bX9_semicolon_0 mo (fun z => absurd (hk2.mp z) hx) (fun _ => ?_)
    refine bX9_semicolon_9 ?_
    refine bX9_semicolon_14 mo (Nat.zero_le _) (Nat.zero_le _) (eX9_wrong_1 hm h ht.2.1 1) ?_
    refine bX9_semicolon_18 mo (Nat.zero_le _) (Nat.zero_le _) (eX9_go_x hm wrS_at.1) ?_
    refine bX9_semicolon_22 ?_
    exact ⟨rfl, rfl, rfl⟩
theorem eX9_known_x (hm : mdF Γ m) (h : I m 23 = 1) (v : Int32) : am_E m_X9_known (d + 1) 0 0 [.ref m, .int v] Γ I L (.inl (some (.int 0))) I L := by
  have mo := hm.1
  have hz : ¬ I m 23 = 0 := by rw [h]; decide
  refine am_ofE rfl rfl rfl (Nat.le_of_ble_eq_true rfl) ?_
  refine bX9_known_0 mo (fun _ => ?_) (fun z => absurd z hz)
  refine bX9_known_17 ?_
  refine bX9_known_18 mo (Nat.zero_le _) (Nat.zero_le _) (eX9_wrong_x hm h _ _) ?_
  refine bX9_known_22 mo (fun z => absurd z hz) (fun _ => ?_)
  refine bX9_known_29 ?_
  refine bX9_known_34 ?_
  exact ⟨rfl, rfl, rfl⟩
theorem eX9_known (hm : mdF Γ m) (h : I m 23 = 0) (h20 : I m 20 = nn s) (v : Int32) : (¬ v = -1 → am_E m_X9_known (d + 1) 0 0 [.ref m, .int v] Γ I L (.inl (some (.int v))) I L) ∧ am_E m_X9_known (d + 1) 0 0 [.ref m, .int (-1)] Γ I L (.inl (some (.int 0))) (wrS I m 3 s) L := by
  have mo := hm.1
  refine ⟨fun hv => ?_, ?_⟩
  · refine am_ofE rfl rfl rfl (Nat.le_of_ble_eq_true rfl) ?_
    refine bX9_known_0 mo (fun z => absurd h z) (fun _ => ?_)
    refine bX9_known_8 (fun _ => ?_) (fun z => absurd z hv)
    refine bX9_known_17 ?_
    refine bX9_known_18 mo (Nat.zero_le _) (Nat.zero_le _) (eX9_wrong_0 hm _) ?_
    refine bX9_known_22 mo (fun _ => ?_) (fun z => absurd h z)
    refine bX9_known_33 ?_
    refine bX9_known_34 ?_
    exact ⟨rfl, rfl, rfl⟩
  · refine am_ofE rfl rfl rfl (Nat.le_of_ble_eq_true rfl) ?_
    refine bX9_known_0 mo (fun z => absurd h z) (fun _ => ?_)
    refine bX9_known_8 (fun z => absurd rfl z) (fun _ => ?_)
    refine bX9_known_13 ?_
    refine bX9_known_18 mo (Nat.zero_le _) (Nat.zero_le _) (eX9_wrong_1 hm h h20 3) ?_
    refine bX9_known_22 mo (fun z => absurd z (by rw [wrS_at.1]; decide)) (fun _ => ?_)
    refine bX9_known_29 ?_
    refine bX9_known_34 ?_
    exact ⟨rfl, rfl, rfl⟩
end TK5
