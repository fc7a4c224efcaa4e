/-! THE CLASS ALONE: best trees, not built; what is remembered -/
section BM
variable {Q T : Nat} {qc ys tl ct : Nat → Nat} {fb : Nat → Bool}
/-- a greater limit is no worse -/
theorem bB_mono (S : Nat) : S < 256 → ∀ l l', l ≤ l' → bB Q T qc ys tl ct fb S l' ≤ bB Q T qc ys tl ct fb S l := by
  induction S using Nat.strongRecOn with
  | ind S ih =>
    intro hS l l' hl
    rw [bB_eq Q T qc ys tl ct fb hS, bB_eq Q T qc ys tl ct fb hS]
    have key : ∀ k, bq T qc ys tl ct fb (bB Q T qc ys tl ct fb) S l' k ≤ bq T qc ys tl ct fb (bB Q T qc ys tl ct fb) S l k := by
      intro k
      induction k with
      | zero => exact Nat.le_refl _
      | succ k ihk =>
        rw [show bq T qc ys tl ct fb (bB Q T qc ys tl ct fb) S l (k + 1) = (if oks ys fb k S && decide (qc k ≤ l) then min (bq T qc ys tl ct fb (bB Q T qc ys tl ct fb) S l k) (cand T qc ys ct (bB Q T qc ys tl ct fb) k S l) else bq T qc ys tl ct fb (bB Q T qc ys tl ct fb) S l k) from rfl, show bq T qc ys tl ct fb (bB Q T qc ys tl ct fb) S l' (k + 1) = (if oks ys fb k S && decide (qc k ≤ l') then min (bq T qc ys tl ct fb (bB Q T qc ys tl ct fb) S l' k) (cand T qc ys ct (bB Q T qc ys tl ct fb) k S l') else bq T qc ys tl ct fb (bB Q T qc ys tl ct fb) S l' k) from rfl]
        by_cases ho : oks ys fb k S = true
        · obtain ⟨h1, h2, -, -⟩ := oks_lt ys fb ho
          rw [ho]
          by_cases hq : qc k ≤ l
          · rw [if_pos (show (true && decide (qc k ≤ l)) = true by rw [decide_eq_true hq]; rfl), if_pos (show (true && decide (qc k ≤ l')) = true by rw [decide_eq_true (by omega : qc k ≤ l')]; rfl)]
            have hc : cand T qc ys ct (bB Q T qc ys tl ct fb) k S l' ≤ cand T qc ys ct (bB Q T qc ys tl ct fb) k S l := by
              have a := ih _ h1 (by omega) (l - qc k) (l' - qc k) (by omega)
              have b := ih _ h2 (by omega) (l - qc k) (l' - qc k) (by omega)
              unfold cand
              omega
            omega
          · rw [if_neg (show ¬ (true && decide (qc k ≤ l)) = true by rw [decide_eq_false hq]; decide)]
            split
            · exact Nat.le_trans (Nat.min_le_left _ _) ihk
            · exact ihk
        · simp only [Bool.not_eq_true] at ho
          rw [ho]
          exact ihk
    exact key Q
end BM
section Q3
variable {d mc ms : Nat} {Γ : am_G} {I : am_I} {L : am_L} {w : Nat → Int32} {h : Nat → Nat → Int32} {s : Nat}
/-- only the solver's cells have changed -/
def slF (I I' : am_I) (L L' : am_L) : Prop := (∀ c, (c < 1 ∨ 9 ≤ c) → I' c = I c) ∧ ∀ c, (c < 1 ∨ 9 ≤ c) → L' c = L c
theorem CS.sol {I' : am_I} {L' : am_L} (R : CS I L w h s) (f : slF I I' L L') : CS I' L' w h s := R.fr (fun c c1 c2 c3 => f.1 c (Or.inr (by omega))) (fun c c1 c2 c3 => f.2 c (Or.inr (by omega)))
/-- the rank of the best tree of all types -/
def rkW (w : Nat → Int32) (g : Nat) (F : Int32) (l : Nat) : Nat := bB (vQ w) (vT w) (qcW w) (yse (vT w) (tyW w)) (tlW w) (ctW w g) (fbq F) (2 ^ vT w - 1) l
theorem CS.solC (hF : wF Γ) (R : CS I L w h s) {g : Nat} (hg : g < vG w) (F : Int32) {lims : Nat} (hl : lims < 2147483648) : ∃ I1 L1, am_E m_X4_solve (d + 1) 0 0 [.ref 1, .ref 9, .ref (gc 9 g), .int (nn lims), .int F] Γ I L (.inl none) I1 L1 ∧ (∀ l, l ≤ 30 → lims.testBit l = true → L1 2 ((2 ^ vT w - 1) * 31 + l) = ll (bB (vQ w) (vT w) (qcW w) (yse (vT w) (tyW w)) (tlW w) (ctW w g) (fbq F) (2 ^ vT w - 1) l)) ∧ (∀ c, c ≠ 3 → c ≠ 4 → c ≠ 5 → I1 c = I c) ∧ ∀ c, c ≠ 2 → L1 c = L c := by
  obtain ⟨-, so, st, -⟩ := id hF
  obtain ⟨-, -, q6, t8, g4, q0, t0, g0⟩ := R.nums
  have p2 : 2 ^ 1 ≤ 2 ^ vT w := Nat.pow_le_pow_right (n := 2) (by decide) t0
  have ge : gc 9 g = 9 + (8 + 7 * g) := rfl
  obtain ⟨I1, L1, h1, ⟨nd, h2, h3⟩, h4, h5⟩ := eX4_solve (d := d) (L := L) so st (st.2.2.2.2.2.2.2.2.2.2.2.2.2.2.2 g (by omega)).2 (Or.inr (by decide)) (by omega) (R.2.1.sda R.1.1 t0 hg) F hl
  exact ⟨I1, L1, h1, fun l a b => h3.2.1 _ (by omega) (by omega) l a (h2 l b), h4, h5⟩
theorem CS.rank_lt (R : CS I L w h s) {g : Nat} (hg : g < vG w) (F : Int32) {l : Nat} (hl : l ≤ 30) : bB (vQ w) (vT w) (qcW w) (yse (vT w) (tyW w)) (tlW w) (ctW w g) (fbq F) (2 ^ vT w - 1) l < 9223372036854775808 := by
  obtain ⟨-, -, q6, t8, g4, q0, t0, g0⟩ := R.nums
  have p8 := two_le8 t8
  have := bB_lt (qc := qcW w) (ys := yse (vT w) (tyW w)) (tl := tlW w) (ct := ctW w g) (fb := fbq F) q6 t8 (fun t ht => ((R.1.1.2.2.2.2.2.2 g hg).2.2.2.2.1 t ht).2) (S := 2 ^ vT w - 1) (l := l) (by omega) hl
  omega
/-- the rank that three questions ask for -/
theorem eX8_bestRank_t (hF : wF Γ) (R : CS I L w h s) {g l : Nat} (hgv : g < vG w) (hl : l ≤ 30) : ∃ I1 L1, am_E m_X8_bestRank (d + 2) mc ms [.ref 0, .int (nn g), .int (nn l)] Γ I L (.inl (some (.long (ll (bB (vQ w) (vT w) (qcW w) (yse (vT w) (tyW w)) (tlW w) (ctW w g) (fbq (-1)) (2 ^ vT w - 1) l))))) I1 L1 ∧ (∀ c, c ≠ 3 → c ≠ 4 → c ≠ 5 → I1 c = I c) ∧ ∀ c, c ≠ 2 → L1 c = L c := by
  obtain ⟨⟨o, f0, f1, f2, f3, f4, f5, f6, f7⟩, so, st, dr, ⟨ro, rr0, rr5, rr6, ra⟩, hi, sv, ⟨oo, or0, or2, oa, oa2⟩, hm, am, am2⟩ := id hF
  obtain ⟨ob, s4, s5, s6, s7, s8, s9, s10, b1, b2, b3, b4, b5, b6, o7, hg⟩ := id st
  obtain ⟨⟨n0, n1, n2, n3⟩, ⟨w0, w1, w2⟩, q6, t8, g4, q0, t0, g0⟩ := R.nums
  obtain ⟨hg1, hgg⟩ := hg g (by omega)
  have p8 := two_le8 t8
  have p30 : 2 ^ l ≤ 1073741824 := Nat.pow_le_pow_right (n := 2) (by decide) hl
  obtain ⟨I1, L1, h1, h2, h3, h4⟩ := R.solC (d := d) hF hgv (-1) (lims := 2 ^ l) (by omega)
  refine ⟨I1, L1, am_ofE rfl rfl rfl (Nat.le_of_ble_eq_true rfl) ?_, h3, h4⟩
  refine bX8_bestRank_0 o (Nat.zero_le _) (Nat.zero_le _) (eX8_requireGate_t (mc := 0) (ms := 0) hF n2 hgv (by omega)) ?_
  refine bX8_bestRank_5 (Nat.zero_le _) (Nat.zero_le _) (eX8_requireRange_t (mc := 0) (ms := 0) (nn_neg_lt (by omega)) (by rw [nl_30, nn_le (by omega) (by omega)]; exact hl)) ?_
  refine bX8_bestRank_12 o f0 f1 ob s9 b6 (nn_in (by omega) (by omega)) (by rw [nn_nat (by omega)]; exact hg1) so.1 (Nat.zero_le _) (Nat.zero_le _) (by rw [show (1 : Int32) <<< (nn l &&& 31) = nn (2 ^ l) from by rw [nl_1, nn_shl (by omega), Nat.one_mul]]; exact h1) ?_
  refine bX8_bestRank_36 o f0 f1 ob (Nat.zero_le _) (Nat.zero_le _) (eX5_allTypes st (by rw [h3 9 (by decide) (by decide) (by decide)]; exact n1) t8) ?_
  refine bX8_bestRank_47 so.1 (Nat.zero_le _) (Nat.zero_le _) (eX4_rankOf so (by omega) hl) ?_
  refine bX8_bestRank_51 ?_
  rw [h2 l hl (Nat.testBit_two_pow_self (n := l))]
  exact ⟨rfl, rfl, rfl⟩
theorem eX8_bestRank_g (hF : wF Γ) (R : CS I L w h s) {p l : Int32} (hg : ¬ ∃ g, g < vG w ∧ p = nn g) : am_E m_X8_bestRank (d + 1) 1 6 [.ref 0, .int p, .int l] Γ I L (.inr "java/lang/IndexOutOfBoundsException") I L := by
  obtain ⟨⟨n0, n1, n2, n3⟩, -, q6, t8, g4, q0, t0, g0⟩ := R.nums
  refine am_ofE rfl rfl rfl (Nat.le_of_ble_eq_true rfl) ?_
  refine bX8_bestRank_0x hF.1.1 (by decide) (by decide) (eX8_requireGate_f hF n2 hg (by omega)) ?_
  exact ⟨rfl, rfl, rfl⟩
theorem eX8_bestRank_l (hF : wF Γ) (R : CS I L w h s) {g : Nat} {l : Int32} (hg : g < vG w) (hl : inR l 0 30 = false) : am_E m_X8_bestRank (d + 1) 1 6 [.ref 0, .int (nn g), .int l] Γ I L (.inr "java/lang/IllegalArgumentException") I L := by
  obtain ⟨⟨n0, n1, n2, n3⟩, -, q6, t8, g4, q0, t0, g0⟩ := R.nums
  refine am_ofE rfl rfl rfl (Nat.le_of_ble_eq_true rfl) ?_
  refine bX8_bestRank_0 hF.1.1 (Nat.zero_le _) (Nat.zero_le _) (eX8_requireGate_t (mc := 0) (ms := 0) hF n2 hg (by omega)) ?_
  refine bX8_bestRank_5x (by decide) (by decide) (eX8_requireRange_f hl) ?_
  exact ⟨rfl, rfl, rfl⟩
theorem qX_bestErrors (hF : wF Γ) (R : CS I L w h s) {g : Nat} (hg : g < vG w) {l : Nat} (hl : l ≤ 30) : ∃ I' L', am_E m_X8_bestErrors (d + 20) 0 0 [.ref 0, .int (nn g), .int (nn l)] Γ I L (.inl (some (.int (nn (rkW w g (-1) l / 33554432))))) I' L' ∧ slF I I' L L' := by
  obtain ⟨I1, L1, h1, h2, h3⟩ := eX8_bestRank_t (d := d + 17) (mc := 0) (ms := 0) hF R hg hl
  have hr := R.rank_lt hg (-1) hl
  refine ⟨I1, L1, am_ofE rfl rfl rfl (Nat.le_of_ble_eq_true rfl) ?_, fun c hc => h2 c (by omega) (by omega) (by omega), fun c hc => h3 c (by omega)⟩
  refine bX8_bestErrors_0 hF.1.1 (Nat.zero_le _) (Nat.zero_le _) h1 ?_
  refine bX8_bestErrors_6 (Nat.zero_le _) (Nat.zero_le _) (eX8_errorsOf hr) ?_
  refine bX8_bestErrors_9 ?_
  exact ⟨rfl, rfl, rfl⟩
theorem qX_bestWork (hF : wF Γ) (R : CS I L w h s) {g : Nat} (hg : g < vG w) {l : Nat} (hl : l ≤ 30) : ∃ I' L', am_E m_X8_bestWork (d + 20) 0 0 [.ref 0, .int (nn g), .int (nn l)] Γ I L (.inl (some (.int (nn (rkW w g (-1) l / 8 % 4194304))))) I' L' ∧ slF I I' L L' := by
  obtain ⟨I1, L1, h1, h2, h3⟩ := eX8_bestRank_t (d := d + 17) (mc := 0) (ms := 0) hF R hg hl
  have hr := R.rank_lt hg (-1) hl
  refine ⟨I1, L1, am_ofE rfl rfl rfl (Nat.le_of_ble_eq_true rfl) ?_, fun c hc => h2 c (by omega) (by omega) (by omega), fun c hc => h3 c (by omega)⟩
  refine bX8_bestWork_0 hF.1.1 (Nat.zero_le _) (Nat.zero_le _) h1 ?_
  refine bX8_bestWork_6 (Nat.zero_le _) (Nat.zero_le _) (eX8_workOf hr) ?_
  refine bX8_bestWork_9 ?_
  exact ⟨rfl, rfl, rfl⟩
theorem qX_bestRootQuestion (hF : wF Γ) (R : CS I L w h s) {g : Nat} (hg : g < vG w) {l : Nat} (hl : l ≤ 30) : ∃ I' L', am_E m_X8_bestRootQuestion (d + 20) 0 0 [.ref 0, .int (nn g), .int (nn l)] Γ I L (.inl (some (.int (nn (rkW w g (-1) l % 8) - 1)))) I' L' ∧ slF I I' L L' := by
  obtain ⟨I1, L1, h1, h2, h3⟩ := eX8_bestRank_t (d := d + 17) (mc := 0) (ms := 0) hF R hg hl
  have hr := R.rank_lt hg (-1) hl
  refine ⟨I1, L1, am_ofE rfl rfl rfl (Nat.le_of_ble_eq_true rfl) ?_, fun c hc => h2 c (by omega) (by omega) (by omega), fun c hc => h3 c (by omega)⟩
  refine bX8_bestRootQuestion_0 hF.1.1 (Nat.zero_le _) (Nat.zero_le _) h1 ?_
  refine bX8_bestRootQuestion_6 (Nat.zero_le _) (Nat.zero_le _) (eX8_rootOf _) ?_
  refine bX8_bestRootQuestion_9 ?_
  exact ⟨rfl, rfl, rfl⟩
theorem qX_errorsWithout (hF : wF Γ) (R : CS I L w h s) {g : Nat} (hgv : g < vG w) {q : Nat} (hq : q < vQ w) : ∃ I' L', am_E m_X8_errorsWithout (d + 20) 0 0 [.ref 0, .int (nn g), .int (nn q)] Γ I L (.inl (some (.int (nn (rkW w g (nn q) (lmW w g) / 33554432))))) I' L' ∧ slF I I' L L' := by
  obtain ⟨⟨o, f0, f1, f2, f3, f4, f5, f6, f7⟩, so, st, dr, ⟨ro, rr0, rr5, rr6, ra⟩, hi, sv, ⟨oo, or0, or2, oa, oa2⟩, hm, am, am2⟩ := id hF
  obtain ⟨ob, s4, s5, s6, s7, s8, s9, s10, b1, b2, b3, b4, b5, b6, o7, hg⟩ := id st
  obtain ⟨⟨n0, n1, n2, n3⟩, ⟨w0, w1, w2⟩, q6, t8, g4, q0, t0, g0⟩ := R.nums
  have p8 := two_le8 t8
  obtain ⟨hg1, hgg⟩ := hg g (by omega)
  obtain ⟨x1, x2⟩ := (R.1.1.2.2.2.2.2.2 g hgv).2.2.1
  have y3 := (R.2.1.2.2.2.2 g hgv).2.2.2.1
  have lim : I (gc 9 g) 3 = nn (lmW w g) := y3.trans x1
  have p30 : 2 ^ lmW w g ≤ 1073741824 := Nat.pow_le_pow_right (n := 2) (by decide) x2
  obtain ⟨I1, L1, h1, h2, h3, h4⟩ := R.solC (d := d + 18) hF hgv (nn q) (lims := 2 ^ lmW w g) (by omega)
  have hr := R.rank_lt hgv (nn q) x2
  refine ⟨I1, L1, am_ofE rfl rfl rfl (Nat.le_of_ble_eq_true rfl) ?_, fun c hc => h3 c (by omega) (by omega) (by omega), fun c hc => h4 c (by omega)⟩
  refine bX8_errorsWithout_0 o (Nat.zero_le _) (Nat.zero_le _) (eX8_requireGate_t (mc := 0) (ms := 0) hF n2 hgv (by omega)) ?_
  refine bX8_errorsWithout_5 o (Nat.zero_le _) (Nat.zero_le _) (eX8_requireQuestion_t (mc := 0) (ms := 0) hF n0 hq (by omega)) ?_
  refine bX8_errorsWithout_10 o f1 ob s9 b6 (nn_in (by omega) (by omega)) (by rw [nn_nat (by omega)]; exact hg1) hgg.1 f0 so.1 (Nat.zero_le _) (Nat.zero_le _) (by rw [lim, show (1 : Int32) <<< (nn (lmW w g) &&& 31) = nn (2 ^ lmW w g) from by rw [nl_1, nn_shl (by omega), Nat.one_mul]]; exact h1) ?_
  refine bX8_errorsWithout_47 o f0 f1 ob (Nat.zero_le _) (Nat.zero_le _) (eX5_allTypes st (by rw [h3 9 (by decide) (by decide) (by decide)]; exact n1) t8) ?_
  rw [lim]
  refine bX8_errorsWithout_58 so.1 (Nat.zero_le _) (Nat.zero_le _) (eX4_rankOf so (by omega) x2) ?_
  rw [h2 _ x2 (Nat.testBit_two_pow_self (n := lmW w g))]
  refine bX8_errorsWithout_62 (Nat.zero_le _) (Nat.zero_le _) (eX8_errorsOf hr) ?_
  refine bX8_errorsWithout_65 ?_
  exact ⟨rfl, rfl, rfl⟩
/-- the least limit that suffices -/
def sufW (w : Nat → Int32) (g : Nat) : Nat := ffs (fun l => decide (rkW w g (-1) l / 33554432 = rkW w g (-1) 30 / 33554432)) 30
theorem qX_sufficientLimit (hF : wF Γ) (R : CS I L w h s) {g : Nat} (hgv : g < vG w) : ∃ I' L', am_E m_X8_sufficientLimit (d + 20) 0 0 [.ref 0, .int (nn g)] Γ I L (.inl (some (.int (nn (sufW w g))))) I' L' ∧ slF I I' L L' := by
  obtain ⟨⟨o, f0, f1, f2, f3, f4, f5, f6, f7⟩, so, st, dr, ⟨ro, rr0, rr5, rr6, ra⟩, hi, sv, ⟨oo, or0, or2, oa, oa2⟩, hm, am, am2⟩ := id hF
  obtain ⟨ob, s4, s5, s6, s7, s8, s9, s10, b1, b2, b3, b4, b5, b6, o7, hg⟩ := id st
  obtain ⟨⟨n0, n1, n2, n3⟩, ⟨w0, w1, w2⟩, q6, t8, g4, q0, t0, g0⟩ := R.nums
  have p8 := two_le8 t8
  obtain ⟨hg1, hgg⟩ := hg g (by omega)
  obtain ⟨I1, L1, h1, h2, h3, h4⟩ := R.solC (d := d + 18) hF hgv (-1) (lims := 2147483647) (by decide)
  have hmono : ∀ l l', l ≤ l' → bB (vQ w) (vT w) (qcW w) (yse (vT w) (tyW w)) (tlW w) (ctW w g) (fbq (-1)) (2 ^ vT w - 1) l' / 33554432 ≤ bB (vQ w) (vT w) (qcW w) (yse (vT w) (tyW w)) (tlW w) (ctW w g) (fbq (-1)) (2 ^ vT w - 1) l / 33554432 := fun l l' h => Nat.div_le_div_right (bB_mono _ (by omega) l l' h)
  have hrl : ∀ l, l ≤ 30 → bB (vQ w) (vT w) (qcW w) (yse (vT w) (tyW w)) (tlW w) (ctW w g) (fbq (-1)) (2 ^ vT w - 1) l < 9223372036854775808 := fun l hl => R.rank_lt hgv (-1) hl
  have hel : ∀ l, l ≤ 30 → bB (vQ w) (vT w) (qcW w) (yse (vT w) (tyW w)) (tlW w) (ctW w g) (fbq (-1)) (2 ^ vT w - 1) l / 33554432 < 79993 := fun l hl => by
    have := bB_lt (qc := qcW w) (ys := yse (vT w) (tyW w)) (tl := tlW w) (ct := ctW w g) (fb := fbq (-1)) q6 t8 (fun t ht => ((R.1.1.2.2.2.2.2.2 g hgv).2.2.2.2.1 t ht).2) (S := 2 ^ vT w - 1) (l := l) (by omega) hl
    omega
  have hb : ∀ l, l ≤ 30 → (2147483647 : Nat).testBit l = true := fun l hl => by
    have e : (2147483647 : Nat) = 2 ^ 31 - 1 := by decide
    rw [e, Nat.testBit_two_pow_sub_one]
    exact decide_eq_true (by omega)
  have hL := fun l (hl : l ≤ 30) => h2 l hl (hb l hl)
  have hS : sufW w g = ffs (fun l => decide (bB (vQ w) (vT w) (qcW w) (yse (vT w) (tyW w)) (tlW w) (ctW w g) (fbq (-1)) (2 ^ vT w - 1) l / 33554432 = bB (vQ w) (vT w) (qcW w) (yse (vT w) (tyW w)) (tlW w) (ctW w g) (fbq (-1)) (2 ^ vT w - 1) 30 / 33554432)) 30 := rfl
  rw [hS]
  clear hS
  generalize hE : bB (vQ w) (vT w) (qcW w) (yse (vT w) (tyW w)) (tlW w) (ctW w g) (fbq (-1)) (2 ^ vT w - 1) = E at *
  generalize hA : 2 ^ vT w - 1 = A at *
  have hA2 : A < 256 := by omega
  have sp := ffs_sp (fun l => decide (E l / 33554432 = E 30 / 33554432)) 30
  have lle := ffs_le (fun l => decide (E l / 33554432 = E 30 / 33554432)) 30
  generalize hf : ffs (fun l => decide (E l / 33554432 = E 30 / 33554432)) 30 = r at sp lle
  have eqr : ∀ l, r ≤ l → l ≤ 30 → E l / 33554432 = E 30 / 33554432 := fun l a b => by
    have h30 := hmono l 30 b
    by_cases hr30 : r < 30
    · have := sp.2 hr30
      rw [decide_eq_true_eq] at this
      have := hmono r l a
      omega
    · obtain rfl : l = 30 := by omega
      rfl
  have ner : ∀ l, l < r → ¬ E l / 33554432 = E 30 / 33554432 := fun l a => by
    have := sp.1 l a
    rw [decide_eq_false_iff_not] at this
    exact this
  refine ⟨I1, L1, am_ofE rfl rfl rfl (Nat.le_of_ble_eq_true rfl) ?_, fun c hc => h3 c (by omega) (by omega) (by omega), fun c hc => h4 c (by omega)⟩
  refine bX8_sufficientLimit_0 o (Nat.zero_le _) (Nat.zero_le _) (eX8_requireGate_t (mc := 0) (ms := 0) hF n2 hgv (by omega)) ?_
  refine bX8_sufficientLimit_5 o f0 f1 ob s9 b6 (nn_in (by omega) (by omega)) (by rw [nn_nat (by omega)]; exact hg1) so.1 (Nat.zero_le _) (Nat.zero_le _) h1 ?_
  refine bX8_sufficientLimit_29 o f1 ob (Nat.zero_le _) (Nat.zero_le _) (eX5_allTypes st (by rw [h3 9 (by decide) (by decide) (by decide)]; exact n1) t8) ?_
  rw [hA]
  refine bX8_sufficientLimit_36 o f0 so.1 (Nat.zero_le _) (Nat.zero_le _) (eX4_rankOf (l := 30) so hA2 (by decide)) ?_
  rw [hL 30 (by decide)]
  refine bX8_sufficientLimit_47 (Nat.zero_le _) (Nat.zero_le _) (eX8_errorsOf (hrl 30 (by decide))) ?_
  refine bX8_sufficientLimit_50 ?_
  refine nn_loop (fun l => am_W m_X8_sufficientLimit (d + 20) 0 0 false (0 - 0 - 0 - 0 - 0 - 0) (0 - 0 - 0 - 0 - 0 - 0) 54 [(0, .ref 0), (1, .int (nn g)), (2, .int (nn A)), (3, .int (nn (E 30 / 33554432))), (4, .int (nn l))] [] Γ I1 L1 (am_R (.inl (some (.int (nn r)))) I1 L1)) r ?_ (fun l hl ih => ?_)
  · by_cases hr30 : r < 30
    · refine bX8_sufficientLimit_54 (fun h => absurd h (by rw [nl_30, nn_le (by omega) (by omega)]; omega)) (fun _ => ?_)
      refine bX8_sufficientLimit_61 o f0 so.1 (Nat.zero_le _) (Nat.zero_le _) (eX4_rankOf so hA2 (by omega)) ?_
      rw [hL r (by omega)]
      refine bX8_sufficientLimit_71 (Nat.zero_le _) (Nat.zero_le _) (eX8_errorsOf (hrl r (by omega))) ?_
      refine bX8_sufficientLimit_74 (fun h => absurd (by rw [eqr r (Nat.le_refl _) (by omega)]) h) (fun _ => ?_)
      refine bX8_sufficientLimit_78 ?_
      exact ⟨rfl, rfl, rfl⟩
    · obtain rfl : r = 30 := by omega
      refine bX8_sufficientLimit_54 (fun _ => ?_) (fun h => absurd (by decide) h)
      refine bX8_sufficientLimit_87 ?_
      exact ⟨rfl, rfl, rfl⟩
  · refine bX8_sufficientLimit_54 (fun h => absurd h (by rw [nl_30, nn_le (by omega) (by omega)]; omega)) (fun _ => ?_)
    refine bX8_sufficientLimit_61 o f0 so.1 (Nat.zero_le _) (Nat.zero_le _) (eX4_rankOf so hA2 (by omega)) ?_
    rw [hL l (by omega)]
    refine bX8_sufficientLimit_71 (Nat.zero_le _) (Nat.zero_le _) (eX8_errorsOf (hrl l (by omega))) ?_
    have e1 := hel l (by omega)
    have e2 := hel 30 (by omega)
    refine bX8_sufficientLimit_74 (fun _ => ?_) (fun h => absurd ((nn_eq (by omega) (by omega)).mp h) (ner l hl))
    refine bX8_sufficientLimit_81 ?_
    rw [nn_s1]
    exact ih
/-- the history after one more state -/
def hpu (h : Nat → Nat → Int32) (s : Nat) (w : Nat → Int32) : Nat → Nat → Int32 := fun i => if s = 8 then (if i = 7 then w else h (i + 1)) else (if i = s then w else h i)
def spu (s : Nat) : Nat := if s = 8 then 8 else s + 1
theorem hpu_a (h : Nat → Nat → Int32) (w : Nat → Int32) : hpu h 8 w 7 = w := rfl
theorem hpu_b {h : Nat → Nat → Int32} {w : Nat → Int32} {i : Nat} (hi : i ≠ 7) : hpu h 8 w i = h (i + 1) := by
  show (if (8 : Nat) = 8 then (if i = 7 then w else h (i + 1)) else (if i = 8 then w else h i)) = _
  rw [if_pos rfl, if_neg hi]
theorem hpu_c {h : Nat → Nat → Int32} {w : Nat → Int32} {s : Nat} (hs : s ≠ 8) : hpu h s w s = w := by
  show (if s = 8 then (if s = 7 then w else h (s + 1)) else (if s = s then w else h s)) = _
  rw [if_neg hs, if_pos rfl]
theorem hpu_d {h : Nat → Nat → Int32} {w : Nat → Int32} {s i : Nat} (hs : s ≠ 8) (hi : i ≠ s) : hpu h s w i = h i := by
  show (if s = 8 then (if i = 7 then w else h (i + 1)) else (if i = s then w else h i)) = _
  rw [if_neg hs, if_neg hi]
theorem CS.rem (hF : wF Γ) (R : CS I L w h s) : ∃ I1 L1, am_E m_X1_remember (d + 3) 0 0 [.ref 83, .ref 9] Γ I L (.inl none) I1 L1 ∧ (∀ c, c < 83 ∨ 373 ≤ c → I1 c = I c) ∧ (∀ c, c < 83 ∨ 373 ≤ c → L1 c = L c) ∧ hiC I1 L1 (hpu h s w) (spu s) := by
  obtain ⟨-, so, st, -, -, hi, -⟩ := id hF
  obtain ⟨hw, hst, ⟨o, h1, h2, ho, hs8, h6⟩⟩ := R
  have g4 := hw.1.2.2.1.2
  obtain ⟨I1, L1, hE, p1, p2, p3, p4, p5⟩ := eX1_remember (d := d) (L := L) hi st (Or.inl (by decide)) h1 h2 ho hs8 (hst.1.2.2.1.trans hw.1.2.2.1.1) g4
  have hE2 : ∀ i, hs 83 i = 83 + (2 + 36 * i) := fun _ => rfl
  have hidx : (if s = 8 then o else o + s) % 8 < 8 := Nat.mod_lt _ (by decide)
  have hh := hE2 ((if s = 8 then o else o + s) % 8)
  refine ⟨I1, L1, hE, fun c hc => p4 c (by omega) (by omega), fun c hc => p5 c (by omega), ?_⟩
  unfold spu
  by_cases h8 : s = 8
  · subst h8
    simp only [if_true] at p1 p2 p3 p4 p5 hh ⊢
    refine ⟨(o + 1) % 8, p1, p2, Nat.mod_lt _ (by decide), Nat.le_refl _, fun i hi8 => ?_⟩
    by_cases h7 : i = 7
    · subst h7
      have ei : ((o + 1) % 8 + 7) % 8 = o % 8 := by omega
      rw [ei, hpu_a]
      exact ⟨hw, hst.cp hw.1 p3⟩
    · have ei : ((o + 1) % 8 + i) % 8 = (o + (i + 1)) % 8 := by omega
      rw [ei, hpu_b h7]
      obtain ⟨a, b⟩ := h6 (i + 1) (by omega)
      have hl : (o + (i + 1)) % 8 < 8 := Nat.mod_lt _ (by decide)
      have e1 := hE2 ((o + (i + 1)) % 8)
      exact ⟨a, b.fr a.1.2.2.1.2 (fun c x y => p4 c (by omega) (by omega)) (fun c x y => p5 c (by omega))⟩
  · simp only [if_neg h8] at p1 p2 p3 p4 p5 hh ⊢
    refine ⟨o, p1, p2, ho, by omega, fun i hi8 => ?_⟩
    by_cases his : i = s
    · subst his
      rw [hpu_c h8]
      exact ⟨hw, hst.cp hw.1 p3⟩
    · rw [hpu_d h8 his]
      obtain ⟨a, b⟩ := h6 i (by omega)
      have hl : (o + i) % 8 < 8 := Nat.mod_lt _ (by decide)
      have e1 := hE2 ((o + i) % 8)
      exact ⟨a, b.fr a.1.2.2.1.2 (fun c x y => p4 c (by omega) (by omega)) (fun c x y => p5 c (by omega))⟩
end Q3
