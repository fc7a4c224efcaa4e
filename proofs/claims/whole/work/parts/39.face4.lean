/-! CLASS AND MODEL SIDE BY SIDE: best trees, not built -/
section BM
variable {Q T : Nat} {qc ys tl ct : Nat → Nat} {fb : Nat → Bool}
/-- a greater limit is no worse -/
theorem bB_mono (S : Nat) : S < 256 → ∀ l l', l ≤ l' → bB Q T qc ys tl ct fb S l' ≤ bB Q T qc ys tl ct fb S l := by
  induction S using Nat.strongRecOn with
  | ind S ih =>
    intro hS l l' hl
    rw [bB_eq Q T qc ys tl ct fb hS, bB_eq Q T qc ys tl ct fb hS]
    have key : ∀ k, bq T qc ys tl ct fb (bB Q T qc ys tl ct fb) S l' k ≤ bq T qc ys tl ct fb (bB Q T qc ys tl ct fb) S l k := by
      intro k
      induction k with
      | zero => exact Nat.le_refl _
      | succ k ihk =>
        rw [show bq T qc ys tl ct fb (bB Q T qc ys tl ct fb) S l (k + 1) = (if oks ys fb k S && decide (qc k ≤ l) then min (bq T qc ys tl ct fb (bB Q T qc ys tl ct fb) S l k) (cand T qc ys ct (bB Q T qc ys tl ct fb) k S l) else bq T qc ys tl ct fb (bB Q T qc ys tl ct fb) S l k) from rfl, show bq T qc ys tl ct fb (bB Q T qc ys tl ct fb) S l' (k + 1) = (if oks ys fb k S && decide (qc k ≤ l') then min (bq T qc ys tl ct fb (bB Q T qc ys tl ct fb) S l' k) (cand T qc ys ct (bB Q T qc ys tl ct fb) k S l') else bq T qc ys tl ct fb (bB Q T qc ys tl ct fb) S l' k) from rfl]
        by_cases ho : oks ys fb k S = true
        · obtain ⟨h1, h2, -, -⟩ := oks_lt ys fb ho
          rw [ho]
          by_cases hq : qc k ≤ l
          · rw [if_pos (show (true && decide (qc k ≤ l)) = true by rw [decide_eq_true hq]; rfl), if_pos (show (true && decide (qc k ≤ l')) = true by rw [decide_eq_true (by omega : qc k ≤ l')]; rfl)]
            have hc : cand T qc ys ct (bB Q T qc ys tl ct fb) k S l' ≤ cand T qc ys ct (bB Q T qc ys tl ct fb) k S l := by
              have a := ih _ h1 (by omega) (l - qc k) (l' - qc k) (by omega)
              have b := ih _ h2 (by omega) (l - qc k) (l' - qc k) (by omega)
              unfold cand
              omega
            omega
          · rw [if_neg (show ¬ (true && decide (qc k ≤ l)) = true by rw [decide_eq_false hq]; decide)]
            split
            · exact Nat.le_trans (Nat.min_le_left _ _) ihk
            · exact ihk
        · simp only [Bool.not_eq_true] at ho
          rw [ho]
          exact ihk
    exact key Q
end BM
section F4
variable {d mc ms : Nat} {Γ : am_G} {I : am_I} {L : am_L} {m : Nat}
theorem REL.sol (R : REL I L) {I1 I2 : am_I} {L1 : am_L} {v : Int32} (f1 : ∀ c, c ≠ 3 → c ≠ 4 → c ≠ 5 → I1 c = I c) (f2 : ∀ c, c ≠ 458 → c ≠ 459 → c ≠ 460 → c ≠ 461 → I2 c = am_u I1 450 6 v c) (fL : ∀ c, c ≠ 2 → L1 c = L c) : REL I2 L1 := by
  have e : ∀ j, j ≠ 6 → I2 450 j = I 450 j := fun j hj => by rw [f2 _ (by decide) (by decide) (by decide) (by decide), am_u_at, if_neg (fun z => hj z.2), f1 _ (by decide) (by decide) (by decide)]
  refine R.fr (fun c c1 c2 c3 c4 c5 => by rw [f2 c (by omega) (by omega) (by omega) (by omega), am_u_ne c4, f1 c (by omega) (by omega) (by omega)]) (by rw [f2 _ (by decide) (by decide) (by decide) (by decide), am_u_ne (by decide), f1 _ (by decide) (by decide) (by decide)]) ?_ ⟨e 5 (by decide), e 9 (by decide), e 10 (by decide), e 11 (by decide), e 12 (by decide)⟩ (fun c c1 c2 c3 => fL c (by omega))
  have : I2 81 = I 81 := by rw [f2 _ (by decide) (by decide) (by decide) (by decide), am_u_ne (by decide), f1 _ (by decide) (by decide) (by decide)]
  rw [this]
  exact ⟨rfl, rfl, rfl⟩
theorem REL.solC (hF : wF Γ) (R : REL I L) {g : Nat} (hg : g < vG (I 451)) (F : Int32) {lims : Nat} (hl : lims < 2147483648) : ∃ I1 L1, am_E m_X4_solve (d + 1) 0 0 [.ref 1, .ref 9, .ref (gc 9 g), .int (nn lims), .int F] Γ I L (.inl none) I1 L1 ∧ (∀ l, l ≤ 30 → lims.testBit l = true → L1 2 ((2 ^ vT (I 451) - 1) * 31 + l) = ll (bB (vQ (I 451)) (vT (I 451)) (qcW (I 451)) (yse (vT (I 451)) (tyW (I 451))) (tlW (I 451)) (ctW (I 451) g) (fbq F) (2 ^ vT (I 451) - 1) l)) ∧ (∀ c, c ≠ 3 → c ≠ 4 → c ≠ 5 → I1 c = I c) ∧ ∀ c, c ≠ 2 → L1 c = L c := by
  obtain ⟨-, so, st, -⟩ := id hF
  obtain ⟨-, -, q6, t8, g4, q0, t0, g0⟩ := R.nums
  have p2 : 2 ^ 1 ≤ 2 ^ vT (I 451) := Nat.pow_le_pow_right (n := 2) (by decide) t0
  have ge : gc 9 g = 9 + (8 + 7 * g) := rfl
  obtain ⟨I1, L1, h1, ⟨nd, h2, h3⟩, h4, h5⟩ := eX4_solve (d := d) (L := L) so st (st.2.2.2.2.2.2.2.2.2.2.2.2.2.2.2 g (by omega)).2 (Or.inr (by decide)) (by omega) (R.2.1.sda R.1.1 t0 hg) F hl
  exact ⟨I1, L1, h1, fun l a b => h3.2.1 _ (by omega) (by omega) l a (h2 l b), h4, h5⟩
theorem REL.rank_lt (R : REL I L) {g : Nat} (hg : g < vG (I 451)) (F : Int32) {l : Nat} (hl : l ≤ 30) : bB (vQ (I 451)) (vT (I 451)) (qcW (I 451)) (yse (vT (I 451)) (tyW (I 451))) (tlW (I 451)) (ctW (I 451) g) (fbq F) (2 ^ vT (I 451) - 1) l < 9223372036854775808 := by
  obtain ⟨-, -, q6, t8, g4, q0, t0, g0⟩ := R.nums
  have p8 := two_le8 t8
  have := bB_lt (qc := qcW (I 451)) (ys := yse (vT (I 451)) (tyW (I 451))) (tl := tlW (I 451)) (ct := ctW (I 451) g) (fb := fbq F) q6 t8 (fun t ht => ((R.1.1.2.2.2.2.2.2 g hg).2.2.2.2.1 t ht).2) (S := 2 ^ vT (I 451) - 1) (l := l) (by omega) hl
  omega
theorem REL.findM (hF : wF Γ) (R : REL I L) {I1 : am_I} {L1 : am_L} {v : Int32} (f1 : ∀ c, c ≠ 3 → c ≠ 4 → c ≠ 5 → I1 c = I c) {g : Nat} (hg : g < vG (I 451)) (F : Int32) : ∃ I2, am_E m_X9_findAll (d + 4) 0 0 [.ref 450, .int (nn g), .int F] Γ (am_u I1 450 6 v) L1 (.inl none) I2 L1 ∧ (∀ l, l ≤ 30 → rk I2 450 (2 ^ vT (I 451) - 1) l (bB (vQ (I 451)) (vT (I 451)) (qcW (I 451)) (yse (vT (I 451)) (tyW (I 451))) (tlW (I 451)) (ctW (I 451) g) (fbq F) (2 ^ vT (I 451) - 1) l)) ∧ ∀ c, c ≠ 458 → c ≠ 459 → c ≠ 460 → c ≠ 461 → I2 c = am_u I1 450 6 v c := by
  obtain ⟨-, -, q6, t8, g4, q0, t0, g0⟩ := R.nums
  obtain ⟨-, -, -, -, -, -, -, -, hm, -⟩ := hF
  have p2 : 2 ^ 1 ≤ 2 ^ vT (I 451) := Nat.pow_le_pow_right (n := 2) (by decide) t0
  have e : am_u I1 450 6 v (450 + 1) = I 451 := by rw [am_u_ne (by decide)]; exact f1 _ (by decide) (by decide) (by decide)
  obtain ⟨I2, h1, h2, h3, h4⟩ := eX9_findAll (d := d) (L := L1) (I := am_u I1 450 6 v) hm (show g < 4 by omega) (by rw [e]; exact R.1.1.mda t0 hg) F
  exact ⟨I2, h1, fun l hl => h2 _ (by omega) (by omega) l hl, h4⟩
/-- the rank that three questions ask for -/
theorem eX8_bestRank_t (hF : wF Γ) (R : REL I L) {g l : Nat} (hgv : g < vG (I 451)) (hl : l ≤ 30) : ∃ I1 L1, am_E m_X8_bestRank (d + 2) mc ms [.ref 0, .int (nn g), .int (nn l)] Γ I L (.inl (some (.long (ll (bB (vQ (I 451)) (vT (I 451)) (qcW (I 451)) (yse (vT (I 451)) (tyW (I 451))) (tlW (I 451)) (ctW (I 451) g) (fbq (-1)) (2 ^ vT (I 451) - 1) l))))) I1 L1 ∧ (∀ c, c ≠ 3 → c ≠ 4 → c ≠ 5 → I1 c = I c) ∧ ∀ c, c ≠ 2 → L1 c = L c := by
  obtain ⟨⟨o, f0, f1, f2, f3, f4, f5, f6, f7⟩, so, st, dr, ⟨ro, rr0, rr5, rr6, ra⟩, hi, sv, ⟨oo, or0, or2, oa, oa2⟩, hm, am, am2⟩ := id hF
  obtain ⟨ob, s4, s5, s6, s7, s8, s9, s10, b1, b2, b3, b4, b5, b6, o7, hg⟩ := id st
  obtain ⟨⟨n0, n1, n2, n3⟩, ⟨w0, w1, w2⟩, q6, t8, g4, q0, t0, g0⟩ := R.nums
  obtain ⟨hg1, hgg⟩ := hg g (by omega)
  have p8 := two_le8 t8
  have p30 : 2 ^ l ≤ 1073741824 := Nat.pow_le_pow_right (n := 2) (by decide) hl
  obtain ⟨I1, L1, h1, h2, h3, h4⟩ := R.solC (d := d) hF hgv (-1) (lims := 2 ^ l) (by omega)
  refine ⟨I1, L1, am_ofE rfl rfl rfl (Nat.le_of_ble_eq_true rfl) ?_, h3, h4⟩
  refine bX8_bestRank_0 o (Nat.zero_le _) (Nat.zero_le _) (eX8_requireGate_t (mc := 0) (ms := 0) hF n2 hgv (by omega)) ?_
  refine bX8_bestRank_5 (Nat.zero_le _) (Nat.zero_le _) (eX8_requireRange_t (mc := 0) (ms := 0) (nn_neg_lt (by omega)) (by rw [nl_30, nn_le (by omega) (by omega)]; exact hl)) ?_
  refine bX8_bestRank_12 o f0 f1 ob s9 b6 (nn_in (by omega) (by omega)) (by rw [nn_nat (by omega)]; exact hg1) so.1 (Nat.zero_le _) (Nat.zero_le _) (by rw [show (1 : Int32) <<< (nn l &&& 31) = nn (2 ^ l) from by rw [nl_1, nn_shl (by omega), Nat.one_mul]]; exact h1) ?_
  refine bX8_bestRank_36 o f0 f1 ob (Nat.zero_le _) (Nat.zero_le _) (eX5_allTypes st (by rw [h3 9 (by decide) (by decide) (by decide)]; exact n1) t8) ?_
  refine bX8_bestRank_47 so.1 (Nat.zero_le _) (Nat.zero_le _) (eX4_rankOf so (by omega) hl) ?_
  refine bX8_bestRank_51 ?_
  rw [h2 l hl (Nat.testBit_two_pow_self (n := l))]
  exact ⟨rfl, rfl, rfl⟩
theorem eX8_bestRank_g (hF : wF Γ) (R : REL I L) {p l : Int32} (hg : ¬ ∃ g, g < vG (I 451) ∧ p = nn g) : am_E m_X8_bestRank (d + 1) 1 6 [.ref 0, .int p, .int l] Γ I L (.inr "java/lang/IndexOutOfBoundsException") I L := by
  obtain ⟨⟨n0, n1, n2, n3⟩, -, q6, t8, g4, q0, t0, g0⟩ := R.nums
  refine am_ofE rfl rfl rfl (Nat.le_of_ble_eq_true rfl) ?_
  refine bX8_bestRank_0x hF.1.1 (by decide) (by decide) (eX8_requireGate_f hF n2 hg (by omega)) ?_
  exact ⟨rfl, rfl, rfl⟩
theorem eX8_bestRank_l (hF : wF Γ) (R : REL I L) {g : Nat} {l : Int32} (hg : g < vG (I 451)) (hl : inR l 0 30 = false) : am_E m_X8_bestRank (d + 1) 1 6 [.ref 0, .int (nn g), .int l] Γ I L (.inr "java/lang/IllegalArgumentException") I L := by
  obtain ⟨⟨n0, n1, n2, n3⟩, -, q6, t8, g4, q0, t0, g0⟩ := R.nums
  refine am_ofE rfl rfl rfl (Nat.le_of_ble_eq_true rfl) ?_
  refine bX8_bestRank_0 hF.1.1 (Nat.zero_le _) (Nat.zero_le _) (eX8_requireGate_t (mc := 0) (ms := 0) hF n2 hg (by omega)) ?_
  refine bX8_bestRank_5x (by decide) (by decide) (eX8_requireRange_f hl) ?_
  exact ⟨rfl, rfl, rfl⟩
theorem inR_30 (l : Int32) : (∃ k, k ≤ 30 ∧ l = nn k) ∨ inR l 0 30 = false := by
  cases h : inR l 0 30
  · exact Or.inr rfl
  · refine Or.inl ?_
    unfold inR at h
    rw [Bool.and_eq_true, decide_eq_true_eq, decide_eq_true_eq] at h
    obtain ⟨k, k1, k2⟩ := nn_ex2 (v := l) (n := 30) (Int32.not_lt.mpr h.1) (Int32.not_lt.mpr h.2) (by decide)
    exact ⟨k, k1, k2⟩
theorem eX9_noLimit_t {l : Nat} (hl : l ≤ 30) : am_E m_X9_noLimit (d + 1) 0 0 [.int (nn l)] Γ I L (.inl (some (.int 0))) I L := by
  refine am_ofE rfl rfl rfl (Nat.le_of_ble_eq_true rfl) ?_
  refine bX9_noLimit_0 (Nat.zero_le _) (Nat.zero_le _) (eX9_isIn _ _ _) ?_
  have e : inR (nn l) 0 30 = true := by
    unfold inR
    rw [decide_eq_true (nn_neg_le (by omega)), nl_30, decide_eq_true ((nn_le (by omega) (by omega)).mpr hl)]
    rfl
  rw [e]
  refine bX9_noLimit_7 (fun _ => ?_) (fun h => absurd h (by decide))
  refine bX9_noLimit_14 ?_
  refine bX9_noLimit_15 rfl ?_
  exact ⟨rfl, rfl, rfl⟩
theorem eX9_noLimit_f {l : Int32} (hl : inR l 0 30 = false) : am_E m_X9_noLimit (d + 1) 0 0 [.int l] Γ I L (.inl (some (.int 1))) I L := by
  refine am_ofE rfl rfl rfl (Nat.le_of_ble_eq_true rfl) ?_
  refine bX9_noLimit_0 (Nat.zero_le _) (Nat.zero_le _) (eX9_isIn _ _ _) ?_
  rw [hl]
  refine bX9_noLimit_7 (fun h => absurd (by decide) h) (fun _ => ?_)
  refine bX9_noLimit_10 ?_
  refine bX9_noLimit_15 rfl ?_
  exact ⟨rfl, rfl, rfl⟩
theorem eX9_noLimit_x (l : Int32) : ∃ b, am_E m_X9_noLimit (d + 1) 0 0 [.int l] Γ I L (.inl (some (.int (bi b)))) I L := by
  rcases inR_30 l with ⟨k, k1, rfl⟩ | h
  · exact ⟨false, eX9_noLimit_t k1⟩
  · exact ⟨true, eX9_noLimit_f h⟩
theorem gX_best (hF : wF Γ) (R : REL I L) (p0 p1 : Int32) {mC mM : am_M} {c : Nat} {f : Nat → Int32} (hc : c < 4 ∧ 0 < c)
    (hf : ∀ (I2 : am_I) (l R9 : Nat), R9 < 9223372036854775808 → rk I2 450 (2 ^ vT (I 451) - 1) l R9 → I2 (457 + c) ((2 ^ vT (I 451) - 1) * 31 + l) = f R9)
    (hC : ∀ {I1 : am_I} {L1 : am_L} {R9 : Nat} {as : List Value}, R9 < 9223372036854775808 → as = [.ref 0, .int p0, .int p1] → am_E m_X8_bestRank 269 0 0 as Γ I L (.inl (some (.long (ll R9)))) I1 L1 → am_E mC 270 1 6 as Γ I L (.inl (some (.int (f R9)))) I1 L1)
    (hX : ∀ {E : String}, am_E m_X8_bestRank 269 1 6 [.ref 0, .int p0, .int p1] Γ I L (.inr E) I L → am_E mC 270 1 6 [.ref 0, .int p0, .int p1] Γ I L (.inr E) I L)
    (hM : ∀ {I1 I2 : am_I} {L1 : am_L} {v : Int32}, am_E m_X9_best 279 0 0 [.ref 450, .ref (457 + c), .int p0, .int p1] Γ I1 L1 (.inl (some (.int v))) I2 L1 → am_E mM 280 0 0 [.ref 450, .int p0, .int p1] Γ I1 L1 (.inl (some (.int v))) I2 L1) :
    gX Γ I L mC mM [.int p0, .int p1] ["java/lang/IndexOutOfBoundsException", "java/lang/IllegalArgumentException"] := by
  obtain ⟨⟨o, f0, f1, f2, f3, f4, f5, f6, f7⟩, so, st, dr, ⟨ro, rr0, rr5, rr6, ra⟩, hi, sv, ⟨oo, or0, or2, oa, oa2⟩, hm, am, am2⟩ := id hF
  obtain ⟨mo, r0, r1, r2, r3, r4, r7, r8, r13, r14, r15, r16, r17, a1, a2, a3, a4, a5, a6, a7, a8, a9, a10, a11, a12⟩ := id hm
  obtain ⟨⟨n0, n1, n2, n3⟩, ⟨w0, w1, w2⟩, q6, t8, g4, q0, t0, g0⟩ := R.nums
  have p8 := two_le8 t8
  by_cases c0 : ∃ g, g < vG (I 451) ∧ p0 = nn g
  case neg =>
    obtain ⟨b, hb⟩ := eX9_noLimit_x (d := 277) (Γ := Γ) (I := I) (L := L) p1
    refine ⟨I, L, am_u I 450 6 1, _, 0, hX (eX8_bestRank_g hF R c0), hM (am_ofE rfl rfl rfl (Nat.le_of_ble_eq_true rfl) ?_), R.thr 1, Or.inr ⟨0, _, rfl, rfl, by rw [am_u_at, if_pos ⟨rfl, rfl⟩]; rfl⟩⟩
    refine bX9_best_0 mo (Nat.zero_le _) (Nat.zero_le _) (eX9_noGate_f hm w2 c0 (by omega)) ?_
    refine bX9_best_6 (Nat.zero_le _) (Nat.zero_le _) hb ?_
    refine bX9_best_10 mo (Nat.zero_le _) (Nat.zero_le _) (eX9_fails hm true b false) ?_
    refine bX9_best_14 (fun h => absurd h (by cases b <;> decide)) (fun _ => ?_)
    refine bX9_best_17 ?_
    exact ⟨rfl, by unfold thr; rfl, rfl⟩
  obtain ⟨g, hg, rfl⟩ := c0
  rcases inR_30 p1 with ⟨l, hl, rfl⟩ | h1
  case inr =>
    refine ⟨I, L, am_u I 450 6 2, _, 0, hX (eX8_bestRank_l hF R hg h1), hM (am_ofE rfl rfl rfl (Nat.le_of_ble_eq_true rfl) ?_), R.thr 2, Or.inr ⟨1, _, rfl, rfl, by rw [am_u_at, if_pos ⟨rfl, rfl⟩]; rfl⟩⟩
    refine bX9_best_0 mo (Nat.zero_le _) (Nat.zero_le _) (eX9_noGate_t hm w2 hg (by omega)) ?_
    refine bX9_best_6 (Nat.zero_le _) (Nat.zero_le _) (eX9_noLimit_f h1) ?_
    refine bX9_best_10 mo (Nat.zero_le _) (Nat.zero_le _) (eX9_fails hm false true false) ?_
    refine bX9_best_14 (fun h => absurd h (by decide)) (fun _ => ?_)
    refine bX9_best_17 ?_
    exact ⟨rfl, rfl, rfl⟩
  obtain ⟨I1, L1, h1, h2, h3⟩ := eX8_bestRank_t (d := 267) (mc := 0) (ms := 0) hF R hg hl
  obtain ⟨I2, h4, h5, h6⟩ := R.findM (d := 274) (L1 := L1) (v := 0) hF h2 hg (-1)
  have e451 : I1 451 = I 451 := h2 _ (by decide) (by decide) (by decide)
  have e2 : I2 451 = I 451 := by rw [h6 _ (by decide) (by decide) (by decide) (by decide), am_u_ne (by decide), e451]
  have hr := R.rank_lt hg (-1) hl
  refine ⟨I1, L1, I2, _, _, hC hr rfl h1, hM (v := f _) (am_ofE rfl rfl rfl (Nat.le_of_ble_eq_true rfl) ?_), R.sol h2 h6 h3, Or.inl ⟨rfl, by rw [h6 _ (by decide) (by decide) (by decide) (by decide), am_u_at, if_pos ⟨rfl, rfl⟩]⟩⟩
  refine bX9_best_0 mo (Nat.zero_le _) (Nat.zero_le _) (eX9_noGate_t hm (by rw [e451]; exact w2) hg (by omega)) ?_
  refine bX9_best_6 (Nat.zero_le _) (Nat.zero_le _) (eX9_noLimit_t hl) ?_
  refine bX9_best_10 mo (Nat.zero_le _) (Nat.zero_le _) (eX9_fails0 hm) ?_
  refine bX9_best_14 (fun _ => ?_) (fun h => absurd (by decide) h)
  refine bX9_best_19 mo (Nat.zero_le _) (Nat.zero_le _) h4 ?_
  refine bX9_best_25 mo (Nat.zero_le _) (Nat.zero_le _) (eX9_allTypes hm (T := vT (I 451)) (by rw [e2]; exact w1) t8) ?_
  refine bX9_best_30 (Nat.zero_le _) (Nat.zero_le _) (eX9_at (by omega) hl) ?_
  have ac : am_ar Γ (457 + c) 1 7936 0 := by
    have : c = 1 ∨ c = 2 ∨ c = 3 := by omega
    rcases this with z | z | z <;> subst z <;> assumption
  refine bX9_best_34 ac (nn_in (by omega) (by omega)) ?_
  exact am_R_e (by rw [nn_nat (by omega)]; exact hf I2 l _ hr (h5 l hl)) rfl rfl

theorem fX_bestErrors (hF : wF Γ) (R : REL I L) (p0 p1 : Int32) : gX Γ I L m_X8_bestErrors m_X9_bestErrors [.int p0, .int p1] ["java/lang/IndexOutOfBoundsException", "java/lang/IllegalArgumentException"] := by
  refine gX_best hF R p0 p1 (c := 1) (f := fun R9 => nn (R9 / 33554432)) (by decide) (fun I2 l R9 _ h => h.1) ?_ ?_ ?_
  · intro I1 L1 R9 as hR e h
    subst e
    refine am_ofE rfl rfl rfl (Nat.le_of_ble_eq_true rfl) ?_
    refine bX8_bestErrors_0 hF.1.1 (Nat.zero_le _) (Nat.zero_le _) h ?_
    refine bX8_bestErrors_6 (Nat.zero_le _) (Nat.zero_le _) (eX8_errorsOf hR) ?_
    refine bX8_bestErrors_9 ?_
    exact ⟨rfl, rfl, rfl⟩
  · intro E h
    refine am_ofE rfl rfl rfl (Nat.le_of_ble_eq_true rfl) ?_
    refine bX8_bestErrors_0x hF.1.1 (by decide) (by decide) h ?_
    exact ⟨rfl, rfl, rfl⟩
  · intro I1 I2 L1 v h
    obtain ⟨-, -, -, -, -, -, -, -, ⟨mo, r0, r1, r2, r3, r4, r7, r8, r13, r14, r15, -⟩, -⟩ := hF
    refine am_ofE rfl rfl rfl (Nat.le_of_ble_eq_true rfl) ?_
    refine bX9_bestErrors_0 mo r13 (Nat.zero_le _) (Nat.zero_le _) h ?_
    refine bX9_bestErrors_10 ?_
    exact ⟨rfl, rfl, rfl⟩

theorem fX_bestWork (hF : wF Γ) (R : REL I L) (p0 p1 : Int32) : gX Γ I L m_X8_bestWork m_X9_bestWork [.int p0, .int p1] ["java/lang/IndexOutOfBoundsException", "java/lang/IllegalArgumentException"] := by
  refine gX_best hF R p0 p1 (c := 2) (f := fun R9 => nn (R9 / 8 % 4194304)) (by decide) (fun I2 l R9 _ h => h.2.1) ?_ ?_ ?_
  · intro I1 L1 R9 as hR e h
    subst e
    refine am_ofE rfl rfl rfl (Nat.le_of_ble_eq_true rfl) ?_
    refine bX8_bestWork_0 hF.1.1 (Nat.zero_le _) (Nat.zero_le _) h ?_
    refine bX8_bestWork_6 (Nat.zero_le _) (Nat.zero_le _) (eX8_workOf hR) ?_
    refine bX8_bestWork_9 ?_
    exact ⟨rfl, rfl, rfl⟩
  · intro E h
    refine am_ofE rfl rfl rfl (Nat.le_of_ble_eq_true rfl) ?_
    refine bX8_bestWork_0x hF.1.1 (by decide) (by decide) h ?_
    exact ⟨rfl, rfl, rfl⟩
  · intro I1 I2 L1 v h
    obtain ⟨-, -, -, -, -, -, -, -, ⟨mo, r0, r1, r2, r3, r4, r7, r8, r13, r14, r15, -⟩, -⟩ := hF
    refine am_ofE rfl rfl rfl (Nat.le_of_ble_eq_true rfl) ?_
    refine bX9_bestWork_0 mo r14 (Nat.zero_le _) (Nat.zero_le _) h ?_
    refine bX9_bestWork_10 ?_
    exact ⟨rfl, rfl, rfl⟩

theorem fX_bestRootQuestion (hF : wF Γ) (R : REL I L) (p0 p1 : Int32) : gX Γ I L m_X8_bestRootQuestion m_X9_bestRootQuestion [.int p0, .int p1] ["java/lang/IndexOutOfBoundsException", "java/lang/IllegalArgumentException"] := by
  refine gX_best hF R p0 p1 (c := 3) (f := fun R9 => nn (R9 % 8) - 1) (by decide) (fun I2 l R9 _ h => h.2.2) ?_ ?_ ?_
  · intro I1 L1 R9 as hR e h
    subst e
    refine am_ofE rfl rfl rfl (Nat.le_of_ble_eq_true rfl) ?_
    refine bX8_bestRootQuestion_0 hF.1.1 (Nat.zero_le _) (Nat.zero_le _) h ?_
    refine bX8_bestRootQuestion_6 (Nat.zero_le _) (Nat.zero_le _) (eX8_rootOf _) ?_
    refine bX8_bestRootQuestion_9 ?_
    exact ⟨rfl, rfl, rfl⟩
  · intro E h
    refine am_ofE rfl rfl rfl (Nat.le_of_ble_eq_true rfl) ?_
    refine bX8_bestRootQuestion_0x hF.1.1 (by decide) (by decide) h ?_
    exact ⟨rfl, rfl, rfl⟩
  · intro I1 I2 L1 v h
    obtain ⟨-, -, -, -, -, -, -, -, ⟨mo, r0, r1, r2, r3, r4, r7, r8, r13, r14, r15, -⟩, -⟩ := hF
    refine am_ofE rfl rfl rfl (Nat.le_of_ble_eq_true rfl) ?_
    refine bX9_bestRootQuestion_0 mo r15 (Nat.zero_le _) (Nat.zero_le _) h ?_
    refine bX9_bestRootQuestion_10 ?_
    exact ⟨rfl, rfl, rfl⟩

theorem fX_errorsWithout (hF : wF Γ) (R : REL I L) (p0 p1 : Int32) : gX Γ I L m_X8_errorsWithout m_X9_errorsWithout [.int p0, .int p1] ["java/lang/IndexOutOfBoundsException"] := by
  obtain ⟨⟨o, f0, f1, f2, f3, f4, f5, f6, f7⟩, so, st, dr, ⟨ro, rr0, rr5, rr6, ra⟩, hi, sv, ⟨oo, or0, or2, oa, oa2⟩, hm, am, am2⟩ := id hF
  obtain ⟨ob, s4, s5, s6, s7, s8, s9, s10, b1, b2, b3, b4, b5, b6, o7, hg⟩ := id st
  obtain ⟨mo, r0, r1, r2, r3, r4, r7, r8, r13, r14, r15, r16, r17, a1, a2, a3, a4, a5, a6, a7, a8, a9, a10, a11, a12⟩ := id hm
  obtain ⟨⟨n0, n1, n2, n3⟩, ⟨w0, w1, w2⟩, q6, t8, g4, q0, t0, g0⟩ := R.nums
  have p8 := two_le8 t8
  by_cases c0 : ∃ g, g < vG (I 451) ∧ p0 = nn g
  case neg =>
    refine ⟨I, L, am_u I 450 6 1, .inr "java/lang/IndexOutOfBoundsException", 0, am_ofE rfl rfl rfl (Nat.le_of_ble_eq_true rfl) ?_, am_ofE rfl rfl rfl (Nat.le_of_ble_eq_true rfl) ?_, R.thr 1, Or.inr ⟨0, _, rfl, rfl, by rw [am_u_at, if_pos ⟨rfl, rfl⟩]; rfl⟩⟩
    · refine bX8_errorsWithout_0x (by assumption) (by decide) (by decide) (eX8_requireGate_f hF n2 c0 (by omega)) ?_
      exact ⟨rfl, rfl, rfl⟩
    · refine bX9_errorsWithout_0 (by assumption) (Nat.zero_le _) (Nat.zero_le _) (eX9_noGate_f hm w2 c0 (by omega)) ?_
      refine bX9_errorsWithout_6 (fun _ => ?_) (fun h => absurd h (by decide))
      refine bX9_errorsWithout_17 ?_
      refine bX9_errorsWithout_22 (by assumption) (Nat.zero_le _) (Nat.zero_le _) (eX9_fails1 hm) ?_
      refine bX9_errorsWithout_27 (fun h => absurd h (by decide)) (fun _ => ?_)
      refine bX9_errorsWithout_30 ?_
      exact ⟨rfl, rfl, rfl⟩
  obtain ⟨g, hgv, rfl⟩ := c0
  by_cases c1 : ∃ q, q < vQ (I 451) ∧ p1 = nn q
  case neg =>
    refine ⟨I, L, am_u I 450 6 1, .inr "java/lang/IndexOutOfBoundsException", 0, am_ofE rfl rfl rfl (Nat.le_of_ble_eq_true rfl) ?_, am_ofE rfl rfl rfl (Nat.le_of_ble_eq_true rfl) ?_, R.thr 1, Or.inr ⟨0, _, rfl, rfl, by rw [am_u_at, if_pos ⟨rfl, rfl⟩]; rfl⟩⟩
    · refine bX8_errorsWithout_0 (by assumption) (Nat.zero_le _) (Nat.zero_le _) (eX8_requireGate_t (mc := 0) (ms := 0) hF n2 hgv (by omega)) ?_
      refine bX8_errorsWithout_5x (by assumption) (by decide) (by decide) (eX8_requireQuestion_f hF n0 c1 (by omega)) ?_
      exact ⟨rfl, rfl, rfl⟩
    · refine bX9_errorsWithout_0 (by assumption) (Nat.zero_le _) (Nat.zero_le _) (eX9_noGate_t hm w2 hgv (by omega)) ?_
      refine bX9_errorsWithout_6 (fun h => absurd (by decide) h) (fun _ => ?_)
      refine bX9_errorsWithout_9 (by assumption) (Nat.zero_le _) (Nat.zero_le _) (eX9_noQuestion_f hm w0 c1 (by omega)) ?_
      refine bX9_errorsWithout_14 (fun h => absurd h (by decide)) (fun _ => ?_)
      refine bX9_errorsWithout_17 ?_
      refine bX9_errorsWithout_22 (by assumption) (Nat.zero_le _) (Nat.zero_le _) (eX9_fails1 hm) ?_
      refine bX9_errorsWithout_27 (fun h => absurd h (by decide)) (fun _ => ?_)
      refine bX9_errorsWithout_30 ?_
      exact ⟨rfl, rfl, rfl⟩
  obtain ⟨q, hq, rfl⟩ := c1
  obtain ⟨hg1, hgg⟩ := hg g (by omega)
  obtain ⟨x1, x2⟩ := (R.1.1.2.2.2.2.2.2 g hgv).2.2.1
  have y3 := (R.2.1.2.2.2.2 g hgv).2.2.2.1
  have lim : I (gc 9 g) 3 = nn (lmW (I 451) g) := y3.trans x1
  have p30 : 2 ^ lmW (I 451) g ≤ 1073741824 := Nat.pow_le_pow_right (n := 2) (by decide) x2
  obtain ⟨I1, L1, h1, h2, h3, h4⟩ := R.solC (d := 268) hF hgv (nn q) (lims := 2 ^ lmW (I 451) g) (by omega)
  obtain ⟨I2, k4, k5, k6⟩ := R.findM (d := 275) (L1 := L1) (v := 0) hF h3 hgv (nn q)
  have e451 : I1 451 = I 451 := h3 _ (by decide) (by decide) (by decide)
  have e2 : I2 451 = I 451 := by rw [k6 _ (by decide) (by decide) (by decide) (by decide), am_u_ne (by decide), e451]
  have hr := R.rank_lt hgv (nn q) x2
  refine ⟨I1, L1, I2, _, nn (bB (vQ (I 451)) (vT (I 451)) (qcW (I 451)) (yse (vT (I 451)) (tyW (I 451))) (tlW (I 451)) (ctW (I 451) g) (fbq (nn q)) (2 ^ vT (I 451) - 1) (lmW (I 451) g) / 33554432), am_ofE rfl rfl rfl (Nat.le_of_ble_eq_true rfl) ?_, am_ofE rfl rfl rfl (Nat.le_of_ble_eq_true rfl) ?_, R.sol h3 k6 h4, Or.inl ⟨rfl, by rw [k6 _ (by decide) (by decide) (by decide) (by decide), am_u_at, if_pos ⟨rfl, rfl⟩]⟩⟩
  · refine bX8_errorsWithout_0 o (Nat.zero_le _) (Nat.zero_le _) (eX8_requireGate_t (mc := 0) (ms := 0) hF n2 hgv (by omega)) ?_
    refine bX8_errorsWithout_5 o (Nat.zero_le _) (Nat.zero_le _) (eX8_requireQuestion_t (mc := 0) (ms := 0) hF n0 hq (by omega)) ?_
    refine bX8_errorsWithout_10 o f1 ob s9 b6 (nn_in (by omega) (by omega)) (by rw [nn_nat (by omega)]; exact hg1) hgg.1 f0 so.1 (Nat.zero_le _) (Nat.zero_le _) (by rw [lim, show (1 : Int32) <<< (nn (lmW (I 451) g) &&& 31) = nn (2 ^ lmW (I 451) g) from by rw [nl_1, nn_shl (by omega), Nat.one_mul]]; exact h1) ?_
    refine bX8_errorsWithout_47 o f0 f1 ob (Nat.zero_le _) (Nat.zero_le _) (eX5_allTypes st (by rw [h3 9 (by decide) (by decide) (by decide)]; exact n1) t8) ?_
    rw [lim]
    refine bX8_errorsWithout_58 so.1 (Nat.zero_le _) (Nat.zero_le _) (eX4_rankOf so (by omega) x2) ?_
    rw [h2 _ x2 (Nat.testBit_two_pow_self (n := lmW (I 451) g))]
    refine bX8_errorsWithout_62 (Nat.zero_le _) (Nat.zero_le _) (eX8_errorsOf hr) ?_
    refine bX8_errorsWithout_65 ?_
    exact ⟨rfl, rfl, rfl⟩
  · refine bX9_errorsWithout_0 mo (Nat.zero_le _) (Nat.zero_le _) (eX9_noGate_t hm (by rw [e451]; exact w2) hgv (by omega)) ?_
    refine bX9_errorsWithout_6 (fun h => absurd (by decide) h) (fun _ => ?_)
    refine bX9_errorsWithout_9 mo (Nat.zero_le _) (Nat.zero_le _) (eX9_noQuestion_t hm (by rw [e451]; exact w0) hq (by omega)) ?_
    refine bX9_errorsWithout_14 (fun _ => ?_) (fun h => absurd (by decide) h)
    refine bX9_errorsWithout_21 ?_
    refine bX9_errorsWithout_22 mo (Nat.zero_le _) (Nat.zero_le _) (eX9_fails0 hm) ?_
    refine bX9_errorsWithout_27 (fun _ => ?_) (fun h => absurd (by decide) h)
    refine bX9_errorsWithout_32 mo (Nat.zero_le _) (Nat.zero_le _) k4 ?_
    refine bX9_errorsWithout_38 mo r13 (Nat.zero_le _) (Nat.zero_le _) (eX9_allTypes hm (T := vT (I 451)) (by rw [e2]; exact w1) t8) ?_
    refine bX9_errorsWithout_46 mo (Nat.zero_le _) (Nat.zero_le _) (eX9_ofGate (k := 2) hm (by omega) (by decide)) ?_
    rw [e2, x1]
    refine bX9_errorsWithout_52 (Nat.zero_le _) (Nat.zero_le _) (eX9_at (by omega) x2) ?_
    refine bX9_errorsWithout_55 a8 (nn_in (by omega) (by omega)) ?_
    exact am_R_e (by rw [nn_nat (by omega)]; exact (k5 _ x2).1) rfl rfl
theorem fX_sufficientLimit (hF : wF Γ) (R : REL I L) (p0 : Int32) : gX Γ I L m_X8_sufficientLimit m_X9_sufficientLimit [.int p0] ["java/lang/IndexOutOfBoundsException"] := by
  obtain ⟨⟨o, f0, f1, f2, f3, f4, f5, f6, f7⟩, so, st, dr, ⟨ro, rr0, rr5, rr6, ra⟩, hi, sv, ⟨oo, or0, or2, oa, oa2⟩, hm, am, am2⟩ := id hF
  obtain ⟨ob, s4, s5, s6, s7, s8, s9, s10, b1, b2, b3, b4, b5, b6, o7, hg⟩ := id st
  obtain ⟨mo, r0, r1, r2, r3, r4, r7, r8, r13, r14, r15, r16, r17, a1, a2, a3, a4, a5, a6, a7, a8, a9, a10, a11, a12⟩ := id hm
  obtain ⟨⟨n0, n1, n2, n3⟩, ⟨w0, w1, w2⟩, q6, t8, g4, q0, t0, g0⟩ := R.nums
  have p8 := two_le8 t8
  by_cases c0 : ∃ g, g < vG (I 451) ∧ p0 = nn g
  case neg =>
    refine ⟨I, L, am_u I 450 6 1, .inr "java/lang/IndexOutOfBoundsException", 0, am_ofE rfl rfl rfl (Nat.le_of_ble_eq_true rfl) ?_, am_ofE rfl rfl rfl (Nat.le_of_ble_eq_true rfl) ?_, R.thr 1, Or.inr ⟨0, _, rfl, rfl, by rw [am_u_at, if_pos ⟨rfl, rfl⟩]; rfl⟩⟩
    · refine bX8_sufficientLimit_0x (by assumption) (by decide) (by decide) (eX8_requireGate_f hF n2 c0 (by omega)) ?_
      exact ⟨rfl, rfl, rfl⟩
    · refine bX9_sufficientLimit_0 (by assumption) (Nat.zero_le _) (Nat.zero_le _) (eX9_noGate_f hm w2 c0 (by omega)) ?_
      refine bX9_sufficientLimit_6 (by assumption) (Nat.zero_le _) (Nat.zero_le _) (eX9_fails1 hm) ?_
      refine bX9_sufficientLimit_11 (fun h => absurd h (by decide)) (fun _ => ?_)
      refine bX9_sufficientLimit_14 ?_
      exact ⟨rfl, rfl, rfl⟩
  obtain ⟨g, hgv, rfl⟩ := c0
  obtain ⟨hg1, hgg⟩ := hg g (by omega)
  obtain ⟨I1, L1, h1, h2, h3, h4⟩ := R.solC (d := 268) hF hgv (-1) (lims := 2147483647) (by decide)
  obtain ⟨I2, k4, k5, k6⟩ := R.findM (d := 275) (L1 := L1) (v := 0) hF h3 hgv (-1)
  have e451 : I1 451 = I 451 := h3 _ (by decide) (by decide) (by decide)
  have e2 : I2 451 = I 451 := by rw [k6 _ (by decide) (by decide) (by decide) (by decide), am_u_ne (by decide), e451]
  have hmono : ∀ l l', l ≤ l' → bB (vQ (I 451)) (vT (I 451)) (qcW (I 451)) (yse (vT (I 451)) (tyW (I 451))) (tlW (I 451)) (ctW (I 451) g) (fbq (-1)) (2 ^ vT (I 451) - 1) l' / 33554432 ≤ bB (vQ (I 451)) (vT (I 451)) (qcW (I 451)) (yse (vT (I 451)) (tyW (I 451))) (tlW (I 451)) (ctW (I 451) g) (fbq (-1)) (2 ^ vT (I 451) - 1) l / 33554432 := fun l l' h => Nat.div_le_div_right (bB_mono _ (by omega) l l' h)
  have hrl : ∀ l, l ≤ 30 → bB (vQ (I 451)) (vT (I 451)) (qcW (I 451)) (yse (vT (I 451)) (tyW (I 451))) (tlW (I 451)) (ctW (I 451) g) (fbq (-1)) (2 ^ vT (I 451) - 1) l < 9223372036854775808 := fun l hl => R.rank_lt hgv (-1) hl
  have hel : ∀ l, l ≤ 30 → bB (vQ (I 451)) (vT (I 451)) (qcW (I 451)) (yse (vT (I 451)) (tyW (I 451))) (tlW (I 451)) (ctW (I 451) g) (fbq (-1)) (2 ^ vT (I 451) - 1) l / 33554432 < 79993 := fun l hl => by
    have := bB_lt (qc := qcW (I 451)) (ys := yse (vT (I 451)) (tyW (I 451))) (tl := tlW (I 451)) (ct := ctW (I 451) g) (fb := fbq (-1)) q6 t8 (fun t ht => ((R.1.1.2.2.2.2.2.2 g hgv).2.2.2.2.1 t ht).2) (S := 2 ^ vT (I 451) - 1) (l := l) (by omega) hl
    omega
  have hb : ∀ l, l ≤ 30 → (2147483647 : Nat).testBit l = true := fun l hl => by
    have e : (2147483647 : Nat) = 2 ^ 31 - 1 := by decide
    rw [e, Nat.testBit_two_pow_sub_one]
    exact decide_eq_true (by omega)
  have hk : ∀ l, l ≤ 30 → I2 458 ((2 ^ vT (I 451) - 1) * 31 + l) = nn (bB (vQ (I 451)) (vT (I 451)) (qcW (I 451)) (yse (vT (I 451)) (tyW (I 451))) (tlW (I 451)) (ctW (I 451) g) (fbq (-1)) (2 ^ vT (I 451) - 1) l / 33554432) := fun l hl => (k5 l hl).1
  have hL := fun l (hl : l ≤ 30) => h2 l hl (hb l hl)
  generalize hE : bB (vQ (I 451)) (vT (I 451)) (qcW (I 451)) (yse (vT (I 451)) (tyW (I 451))) (tlW (I 451)) (ctW (I 451) g) (fbq (-1)) (2 ^ vT (I 451) - 1) = E at *
  generalize hA : 2 ^ vT (I 451) - 1 = A at *
  have hA2 : A < 256 := by omega
  have sp := ffs_sp (fun l => decide (E l / 33554432 = E 30 / 33554432)) 30
  have lle := ffs_le (fun l => decide (E l / 33554432 = E 30 / 33554432)) 30
  generalize hf : ffs (fun l => decide (E l / 33554432 = E 30 / 33554432)) 30 = r at sp lle
  have eqr : ∀ l, r ≤ l → l ≤ 30 → E l / 33554432 = E 30 / 33554432 := fun l a b => by
    have h30 := hmono l 30 b
    by_cases hr30 : r < 30
    · have := sp.2 hr30
      rw [decide_eq_true_eq] at this
      have := hmono r l a
      omega
    · obtain rfl : l = 30 := by omega
      rfl
  have ner : ∀ l, l < r → ¬ E l / 33554432 = E 30 / 33554432 := fun l a => by
    have := sp.1 l a
    rw [decide_eq_false_iff_not] at this
    exact this
  refine ⟨I1, L1, I2, _, nn r, am_ofE rfl rfl rfl (Nat.le_of_ble_eq_true rfl) ?_, am_ofE rfl rfl rfl (Nat.le_of_ble_eq_true rfl) ?_, R.sol h3 k6 h4, Or.inl ⟨rfl, by rw [k6 _ (by decide) (by decide) (by decide) (by decide), am_u_at, if_pos ⟨rfl, rfl⟩]⟩⟩
  · refine bX8_sufficientLimit_0 o (Nat.zero_le _) (Nat.zero_le _) (eX8_requireGate_t (mc := 0) (ms := 0) hF n2 hgv (by omega)) ?_
    refine bX8_sufficientLimit_5 o f0 f1 ob s9 b6 (nn_in (by omega) (by omega)) (by rw [nn_nat (by omega)]; exact hg1) so.1 (Nat.zero_le _) (Nat.zero_le _) h1 ?_
    refine bX8_sufficientLimit_29 o f1 ob (Nat.zero_le _) (Nat.zero_le _) (eX5_allTypes st (by rw [h3 9 (by decide) (by decide) (by decide)]; exact n1) t8) ?_
    rw [hA]
    refine bX8_sufficientLimit_36 o f0 so.1 (Nat.zero_le _) (Nat.zero_le _) (eX4_rankOf (l := 30) so hA2 (by decide)) ?_
    rw [hL 30 (by decide)]
    refine bX8_sufficientLimit_47 (Nat.zero_le _) (Nat.zero_le _) (eX8_errorsOf (hrl 30 (by decide))) ?_
    refine bX8_sufficientLimit_50 ?_
    refine nn_loop (fun l => am_W m_X8_sufficientLimit 270 1 6 false (1 - 0 - 0 - 0 - 0 - 0) (6 - 0 - 0 - 0 - 0 - 0) 54 [(0, .ref 0), (1, .int (nn g)), (2, .int (nn A)), (3, .int (nn (E 30 / 33554432))), (4, .int (nn l))] [] Γ I1 L1 (am_R (.inl (some (.int (nn r)))) I1 L1)) r ?_ (fun l hl ih => ?_)
    · by_cases hr30 : r < 30
      · refine bX8_sufficientLimit_54 (fun h => absurd h (by rw [nl_30, nn_le (by omega) (by omega)]; omega)) (fun _ => ?_)
        refine bX8_sufficientLimit_61 o f0 so.1 (Nat.zero_le _) (Nat.zero_le _) (eX4_rankOf so hA2 (by omega)) ?_
        rw [hL r (by omega)]
        refine bX8_sufficientLimit_71 (Nat.zero_le _) (Nat.zero_le _) (eX8_errorsOf (hrl r (by omega))) ?_
        refine bX8_sufficientLimit_74 (fun h => absurd (by rw [eqr r (Nat.le_refl _) (by omega)]) h) (fun _ => ?_)
        refine bX8_sufficientLimit_78 ?_
        exact ⟨rfl, rfl, rfl⟩
      · obtain rfl : r = 30 := by omega
        refine bX8_sufficientLimit_54 (fun _ => ?_) (fun h => absurd (by decide) h)
        refine bX8_sufficientLimit_87 ?_
        exact ⟨rfl, rfl, rfl⟩
    · refine bX8_sufficientLimit_54 (fun h => absurd h (by rw [nl_30, nn_le (by omega) (by omega)]; omega)) (fun _ => ?_)
      refine bX8_sufficientLimit_61 o f0 so.1 (Nat.zero_le _) (Nat.zero_le _) (eX4_rankOf so hA2 (by omega)) ?_
      rw [hL l (by omega)]
      refine bX8_sufficientLimit_71 (Nat.zero_le _) (Nat.zero_le _) (eX8_errorsOf (hrl l (by omega))) ?_
      have e1 := hel l (by omega)
      have e2 := hel 30 (by omega)
      refine bX8_sufficientLimit_74 (fun _ => ?_) (fun h => absurd ((nn_eq (by omega) (by omega)).mp h) (ner l hl))
      refine bX8_sufficientLimit_81 ?_
      rw [nn_s1]
      exact ih
  · refine bX9_sufficientLimit_0 mo (Nat.zero_le _) (Nat.zero_le _) (eX9_noGate_t hm (by rw [e451]; exact w2) hgv (by omega)) ?_
    refine bX9_sufficientLimit_6 mo (Nat.zero_le _) (Nat.zero_le _) (eX9_fails0 hm) ?_
    refine bX9_sufficientLimit_11 (fun _ => ?_) (fun h => absurd (by decide) h)
    refine bX9_sufficientLimit_16 mo (Nat.zero_le _) (Nat.zero_le _) k4 ?_
    refine bX9_sufficientLimit_22 ?_
    have eA : ∀ k, am_E m_X9_allTypes k 0 0 [.ref 450] Γ I2 L1 (.inl (some (.int (nn A)))) I2 L1 := fun k => am_E_e (eX9_allTypes hm (T := vT (I 451)) (by rw [e2]; exact w1) t8) (by rw [hA]) rfl
    have down : ∀ n l, l = r + n → l ≤ 30 → am_W m_X9_sufficientLimit 280 0 0 false (0 - 0 - 0 - 0) (0 - 0 - 0 - 0) 25 [(0, .ref 450), (1, .int (nn g)), (2, .int (nn l))] [] Γ I2 L1 (am_R (.inl (some (.int (nn r)))) I2 L1) := by
      intro n
      induction n with
      | zero =>
        intro l hl h30
        obtain rfl : l = r := by omega
        by_cases hz : l = 0
        · refine bX9_sufficientLimit_25 (fun _ => ?_) (fun h => absurd (by rw [hz]; decide) h)
          refine bX9_sufficientLimit_67 ?_
          exact ⟨rfl, rfl, rfl⟩
        · refine bX9_sufficientLimit_25 (fun h => absurd h (by rw [nl_0, nn_le (by omega) (by decide)]; omega)) (fun _ => ?_)
          refine bX9_sufficientLimit_29 mo r13 (Nat.zero_le _) (Nat.zero_le _) (eA _) ?_
          refine bX9_sufficientLimit_37 (Nat.zero_le _) (Nat.zero_le _) (by rw [nl_1, nn_sub (by omega)]; exact eX9_at hA2 (by omega)) ?_
          refine bX9_sufficientLimit_43 a8 (nn_in (by omega) (by omega)) mo r13 (Nat.zero_le _) (Nat.zero_le _) (eA _) ?_
          refine bX9_sufficientLimit_52 (Nat.zero_le _) (Nat.zero_le _) (eX9_at (l := 30) hA2 (by decide)) ?_
          have e1 := hel (l - 1) (by omega)
          have e3 := hel 30 (by omega)
          refine bX9_sufficientLimit_57 a8 (nn_in (by omega) (by omega)) (fun _ => ?_) (fun h => absurd h (by
            rw [nn_nat (by omega), nn_nat (by omega), hk _ (by omega), hk _ (by omega), nn_eq (by omega) (by omega)]
            exact ner _ (by omega)))
          refine bX9_sufficientLimit_67 ?_
          exact ⟨rfl, rfl, rfl⟩
      | succ n ihn =>
        intro l hl h30
        refine bX9_sufficientLimit_25 (fun h => absurd h (by rw [nl_0, nn_le (by omega) (by decide)]; omega)) (fun _ => ?_)
        refine bX9_sufficientLimit_29 mo r13 (Nat.zero_le _) (Nat.zero_le _) (eA _) ?_
        refine bX9_sufficientLimit_37 (Nat.zero_le _) (Nat.zero_le _) (by rw [nl_1, nn_sub (by omega)]; exact eX9_at hA2 (by omega)) ?_
        refine bX9_sufficientLimit_43 a8 (nn_in (by omega) (by omega)) mo r13 (Nat.zero_le _) (Nat.zero_le _) (eA _) ?_
        refine bX9_sufficientLimit_52 (Nat.zero_le _) (Nat.zero_le _) (eX9_at (l := 30) hA2 (by decide)) ?_
        refine bX9_sufficientLimit_57 a8 (nn_in (by omega) (by omega)) (fun h => absurd (by
          rw [nn_nat (by omega), nn_nat (by omega), hk _ (by omega), hk _ (by omega), eqr (l - 1) (by omega) (by omega)]) h) (fun _ => ?_)
        refine bX9_sufficientLimit_61 ?_
        have := ihn (l - 1) (by omega) (by omega)
        rw [show nn l + -1 = nn (l - 1) from by rw [← nn_sub (a := l) (b := 1) (by omega), Int32.sub_eq_add_neg]; rfl]
        exact this
    exact down (30 - r) 30 (by omega) (Nat.le_refl _)
end F4
