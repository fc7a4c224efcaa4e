/-! THE CLASS ALONE: changes -/
theorem inR_ex {p : Int32} {lo hi : Nat} (hh : hi < 1000) (hl : lo ≤ hi) (h : inR p (nn lo) (nn hi) = true) : ∃ k, lo ≤ k ∧ k ≤ hi ∧ p = nn k := by
  unfold inR at h
  rw [Bool.and_eq_true, decide_eq_true_eq, decide_eq_true_eq] at h
  obtain ⟨h0, h1⟩ := h
  have h2 : (0 : Int32) ≤ p := Int32.le_trans (nn_neg_le (by omega)) h0
  have e : p = nn p.toNatClampNeg := (Int32.ofNat_toNatClampNeg p h2).symm
  have hv := Int32.toNatClampNeg_lt p
  rw [e] at h0 h1
  exact ⟨_, (nn_le (by omega) (by omega)).mp h0, (nn_le (by omega) (by omega)).mp h1, e⟩
theorem nOpen_m {I : am_I} {L : am_L} {b : Nat} {w : Nat → Int32} (h : stR I L b w) : nOpen I b (I b 3 - I b 3 / 24 * 24) (vG w) = mOpen w (vG w) := by
  refine fsum_congr _ (fun g hg => ?_)
  obtain ⟨-, y1, y2, -⟩ := h.2.2.2.2 g hg
  rw [y1, y2, h.1.2.2.2]
theorem opn {a b h : Nat} (ha : a < 100) (hb : b < 100) (hh : h < 100) : opens (nn a) (nn b) (nn h) = if b < a then decide (a ≤ h) || decide (h ≤ b) else decide (a ≤ h) && decide (h ≤ b) := by
  unfold opens
  simp only [nn_lt (show b < 2147483648 by omega) (show a < 2147483648 by omega), nn_le (show a < 2147483648 by omega) (show h < 2147483648 by omega), nn_le (show h < 2147483648 by omega) (show b < 2147483648 by omega)]
def hou (a b h : Nat) : Nat := if (if b < a then decide (a ≤ h) || decide (h ≤ b) else decide (a ≤ h) && decide (h ≤ b)) = true then 0 else (a + 24 - h) % 24
theorem hou_sp {a b c : Nat} (ha : a ≤ 23) (hb : b ≤ 23) : hou a b (c % 24) < 24 ∧ (if b < a then decide (a ≤ (c + hou a b (c % 24)) % 24) || decide ((c + hou a b (c % 24)) % 24 ≤ b) else decide (a ≤ (c + hou a b (c % 24)) % 24) && decide ((c + hou a b (c % 24)) % 24 ≤ b)) = true ∧
    ∀ j, j < hou a b (c % 24) → (if b < a then decide (a ≤ (c + j) % 24) || decide ((c + j) % 24 ≤ b) else decide (a ≤ (c + j) % 24) && decide ((c + j) % 24 ≤ b)) = false := by
  unfold hou
  by_cases hab : b < a
  · simp only [hab, if_true, Bool.or_eq_true, decide_eq_true_eq, Bool.or_eq_false_iff, decide_eq_false_iff_not]
    by_cases ho : a ≤ c % 24 ∨ c % 24 ≤ b
    · rw [if_pos ho]
      exact ⟨by decide, by rw [Nat.add_zero]; exact ho, fun j hj => absurd hj (Nat.not_lt_zero _)⟩
    · rw [if_neg ho]
      exact ⟨by omega, by omega, fun j hj => by omega⟩
  · simp only [hab, if_false, Bool.and_eq_true, decide_eq_true_eq, Bool.and_eq_false_iff, decide_eq_false_iff_not]
    by_cases ho : a ≤ c % 24 ∧ c % 24 ≤ b
    · rw [if_pos ho]
      exact ⟨by decide, by rw [Nat.add_zero]; exact ho, fun j hj => absurd hj (Nat.not_lt_zero _)⟩
    · rw [if_neg ho]
      exact ⟨by omega, by omega, fun j hj => by omega⟩
theorem sub136 : ∀ a, a < 136 → ∀ b, b < 136 → (nn a - nn b < 0 ↔ a < b) ∧ (nn a - nn b = 0 ↔ a = b) := by decide +kernel
theorem wcA_le {tq ts cs : Nat → Int32} {k : Int32} : ∀ {N : Nat}, (∀ n, n < N → tq n ≠ -1 → ∃ v, v ≤ 9 ∧ cs (tq n).toNatClampNeg = nn v) → ∃ c, c ≤ 9 * N ∧ wcA tq ts cs k N = nn c
  | 0, _ => ⟨0, Nat.le_refl _, rfl⟩
  | N + 1, h => by
    obtain ⟨c, c1, c2⟩ := wcA_le (tq := tq) (ts := ts) (cs := cs) (k := k) (N := N) (fun n hn => h n (by omega))
    have e : wcA tq ts cs k (N + 1) = wcA tq ts cs k N + (if tq N ≠ -1 ∧ ib (ts N) k = true then cs (tq N).toNatClampNeg else 0) := rfl
    by_cases hz : tq N ≠ -1 ∧ ib (ts N) k = true
    · obtain ⟨v, v1, v2⟩ := h N (by omega) hz.1
      exact ⟨c + v, by omega, by rw [e, if_pos hz, v2, c2, nn_add]⟩
    · exact ⟨c, by omega, by rw [e, if_neg hz, c2]; exact Int32.add_zero _⟩
section Q4
variable {d mc ms : Nat} {Γ : am_G} {I : am_I} {L : am_L} {w : Nat → Int32} {h : Nat → Nat → Int32} {s : Nat}
/-- nothing but the class's own cells has changed -/
def fra (I I' : am_I) (L L' : am_L) : Prop := ∀ c, 373 ≤ c → I' c = I c ∧ L' c = L c
theorem slF.fra {I I' : am_I} {L L' : am_L} (h : slF I I' L L') : fra I I' L L' := fun c hc => ⟨h.1 c (Or.inr (by omega)), h.2 c (Or.inr (by omega))⟩
theorem fra.tr {I I' I'' : am_I} {L L' L'' : am_L} (h : fra I I' L L') (h' : fra I' I'' L' L'') : fra I I'' L L'' := fun c hc => ⟨(h' c hc).1.trans (h c hc).1, (h' c hc).2.trans (h c hc).2⟩
theorem fra.rf {I : am_I} {L : am_L} : fra I I L L := fun _ _ => ⟨rfl, rfl⟩
theorem eX0_opensAt_b {g : Nat} {h : Int32} {b : Bool} (hg : gaF Γ g) (hb : opens (I g 1) (I g 2) h = b) : am_E m_X0_opensAt d 0 0 [.ref g, .int h] Γ I L (.inl (some (.int (bi b)))) I L := am_E_e (eX0_opensAt hg h) (by rw [hb]) rfl
theorem eX8_requireRange_y {v lo hi : Int32} (h : inR v lo hi = true) : am_E m_X8_requireRange d mc ms [.int v, .int lo, .int hi] Γ I L (.inl none) I L := by
  unfold inR at h
  rw [Bool.and_eq_true, decide_eq_true_eq, decide_eq_true_eq] at h
  exact eX8_requireRange_t (Int32.not_lt.mpr h.1) h.2
theorem CS.way (R : CS I L w h s) {g : Nat} (hg : g < vG w) (k : Int32) : ∃ c, c < 136 ∧ wcA (rw5 w g 0) (rw5 w g 4) (csW w) k (teW w g) = nn c := by
  obtain ⟨e, e15, e0, ee, ew, ec, tw, h6, tok, sets⟩ := R.gate hg
  rw [← ee]
  obtain ⟨c, c1, c2⟩ := wcA_le (tq := rw5 w g 0) (ts := rw5 w g 4) (cs := csW w) (k := k) (N := e) (fun n hn hq => by
    obtain ⟨S', s1, s2, s3, s4, s5⟩ := sets n hn
    obtain ⟨q, q1, q2⟩ := s4 hq
    rw [q2]
    obtain ⟨x1, x2, x3, x4⟩ := R.1.1.2.2.2.2.1 q q1
    have := R.1.1.1.2
    refine ⟨qcW w q, x3, ?_⟩
    show w (12 + (nn q).toNatClampNeg * 8) = _
    rw [nn_nat (by omega)]
    exact x1)
  exact ⟨c, by omega, c2⟩

theorem qX_setToll (hF : wF Γ) (R : CS I L w h s) {t v : Nat} (ht : t < vT w) (hv : v ≤ 99) : ∃ I' L', am_E m_X8_setToll (d + 20) 0 0 [.ref 0, .int (nn t), .int (nn v)] Γ I L (.inl (some (.int (w (60 + t * 9))))) I' L' ∧ CS I' L' (up w (60 + t * 9) (nn v)) (hpu h s w) (spu s) ∧ fra I I' L L' := by
  obtain ⟨⟨o, f0, f1, f2, f3, f4, f5, f6, f7⟩, so, st, dr, ⟨ro, rr0, rr5, rr6, ra⟩, hi, sv, ⟨oo, or0, or2, oa, oa2⟩, hm, am, am2⟩ := id hF
  obtain ⟨ob, s4, s5, s6, s7, s8, s9, s10, b1, b2, b3, b4, b5, b6, o7, hg⟩ := id st
  obtain ⟨⟨n0, n1, n2, n3⟩, ⟨w0, w1, w2⟩, q6, t8, g4, q0, t0, g0⟩ := R.nums
  obtain ⟨ho83, hi1, hi2, hi3⟩ := id hi
  obtain ⟨I1, L1, hE, fI, fL, hh⟩ := R.rem (d := d + 16) hF
  have st1 : stR I1 L1 9 w := R.2.1.fr g4 (fun c x y => fI c (by omega)) (fun c x y => fL c (by omega))
  have f9 : ∀ c, c < 83 → I1 c = I c := fun c x => fI c (Or.inl x)
  refine ⟨am_u I1 14 t (nn v), L1, am_ofE rfl rfl rfl (Nat.le_of_ble_eq_true rfl) ?_, ⟨wfs_toll R.1 ht hv, stR_toll (b := 9) st1 R.1.1 ht _, hh.fr (fun c x y => am_u_ne (by omega)) (fun _ _ _ => rfl)⟩, fun c hc => ⟨by rw [am_u_ne (by omega)]; exact fI c (Or.inr hc), fL c (Or.inr hc)⟩⟩
  refine bX8_setToll_0 (by assumption) (Nat.zero_le _) (Nat.zero_le _) (eX8_requireType_t (mc := 0) (ms := 0) hF n1 ht (by omega)) ?_
  refine bX8_setToll_5 (Nat.zero_le _) (Nat.zero_le _) (eX8_requireRange_t (mc := 0) (ms := 0) (nn_neg_lt (by omega)) (by rw [show (99 : Int32) = nn 99 from rfl, nn_le (by omega) (by omega)]; omega)) ?_
  refine bX8_setToll_12 (by assumption) (by assumption) (by assumption) (by assumption) (Nat.zero_le _) (Nat.zero_le _) (hE) ?_
  refine bX8_setToll_23 (by assumption) (by assumption) (by assumption) (by assumption) (by assumption) (nn_in (by omega) (by omega)) ?_
  rw [nn_nat (by omega)]
  exact am_R_e (by rw [f9 14 (by decide)]; exact (R.2.1.2.2.1 t ht).2) rfl rfl
theorem qX_setToll_x (hF : wF Γ) (R : CS I L w h s) {t : Nat} {v : Int32} (ht : t < vT w) (hin : inR v 0 99 = false) : am_E m_X8_setToll (d + 20) 1 6 [.ref 0, .int (nn t), .int v] Γ I L (.inr "java/lang/IllegalArgumentException") I L := by
  obtain ⟨⟨o, f0, f1, f2, f3, f4, f5, f6, f7⟩, so, st, dr, ⟨ro, rr0, rr5, rr6, ra⟩, hi, sv, ⟨oo, or0, or2, oa, oa2⟩, hm, am, am2⟩ := id hF
  obtain ⟨ob, s4, s5, s6, s7, s8, s9, s10, b1, b2, b3, b4, b5, b6, o7, hg⟩ := id st
  obtain ⟨⟨n0, n1, n2, n3⟩, ⟨w0, w1, w2⟩, q6, t8, g4, q0, t0, g0⟩ := R.nums
  refine am_ofE rfl rfl rfl (Nat.le_of_ble_eq_true rfl) ?_
  refine bX8_setToll_0 (by assumption) (Nat.zero_le _) (Nat.zero_le _) (eX8_requireType_t (mc := 0) (ms := 0) hF n1 ht (by omega)) ?_
  refine bX8_setToll_5x (by decide) (by decide) (eX8_requireRange_f hin) ?_
  exact ⟨rfl, rfl, rfl⟩
theorem qX_setCostLimit (hF : wF Γ) (R : CS I L w h s) {g v : Nat} (hgv : g < vG w) (hv : v ≤ 30) : ∃ I' L', am_E m_X8_setCostLimit (d + 20) 0 0 [.ref 0, .int (nn g), .int (nn v)] Γ I L (.inl (some (.int (w (132 + g * 94 + 2))))) I' L' ∧ CS I' L' (up w (132 + g * 94 + 2) (nn v)) (hpu h s w) (spu s) ∧ fra I I' L L' := by
  obtain ⟨⟨o, f0, f1, f2, f3, f4, f5, f6, f7⟩, so, st, dr, ⟨ro, rr0, rr5, rr6, ra⟩, hi, sv, ⟨oo, or0, or2, oa, oa2⟩, hm, am, am2⟩ := id hF
  obtain ⟨ob, s4, s5, s6, s7, s8, s9, s10, b1, b2, b3, b4, b5, b6, o7, hg⟩ := id st
  obtain ⟨⟨n0, n1, n2, n3⟩, ⟨w0, w1, w2⟩, q6, t8, g4, q0, t0, g0⟩ := R.nums
  obtain ⟨hg1, og, g4x, g5, gr, tr⟩ := hg g (by omega)
  have ge : gc 9 g = 9 + (8 + 7 * g) := rfl
  obtain ⟨ho83, hi1, hi2, hi3⟩ := id hi
  obtain ⟨I1, L1, hE, fI, fL, hh⟩ := R.rem (d := d + 16) hF
  have st1 : stR I1 L1 9 w := R.2.1.fr g4 (fun c x y => fI c (by omega)) (fun c x y => fL c (by omega))
  have f9 : ∀ c, c < 83 → I1 c = I c := fun c x => fI c (Or.inl x)
  refine ⟨am_u I1 (gc 9 g) 3 (nn v), L1, am_ofE rfl rfl rfl (Nat.le_of_ble_eq_true rfl) ?_, ⟨wfs_lim R.1 hgv hv, stR_lim (b := 9) st1 R.1.1 hgv _, hh.fr (fun c x y => am_u_ne (by omega)) (fun _ _ _ => rfl)⟩, fun c hc => ⟨by rw [am_u_ne (by omega)]; exact fI c (Or.inr hc), fL c (Or.inr hc)⟩⟩
  refine bX8_setCostLimit_0 (by assumption) (Nat.zero_le _) (Nat.zero_le _) (eX8_requireGate_t (mc := 0) (ms := 0) hF n2 hgv (by omega)) ?_
  refine bX8_setCostLimit_5 (Nat.zero_le _) (Nat.zero_le _) (eX8_requireRange_t (mc := 0) (ms := 0) (nn_neg_lt (by omega)) (by rw [show (30 : Int32) = nn 30 from rfl, nn_le (by omega) (by omega)]; omega)) ?_
  refine bX8_setCostLimit_12 (by assumption) (by assumption) (by assumption) (by assumption) (Nat.zero_le _) (Nat.zero_le _) (hE) ?_
  refine bX8_setCostLimit_23 (by assumption) (by first | assumption | (rw [nn_nat (by omega)]; exact hg1)) (by assumption) (by first | assumption | (rw [nn_nat (by omega)]; exact hg1)) (by assumption) (nn_in (by omega) (by omega)) (by first | assumption | (rw [nn_nat (by omega)]; exact hg1)) (by assumption) ?_
  exact am_R_e (by rw [f9 _ (by omega)]; exact (R.2.1.2.2.2.2 g hgv).2.2.2.1) rfl rfl
theorem qX_advanceClock (hF : wF Γ) (R : CS I L w h s) {v : Nat} (hv1 : 1 ≤ v) (hv : v ≤ 100) (hc : vC w + v ≤ 9999) : ∃ I' L', am_E m_X8_advanceClock (d + 20) 0 0 [.ref 0, .int (nn v)] Γ I L (.inl (some (.int (mOpen (up w 3 (nn (vC w + v))) (vG w))))) I' L' ∧ CS I' L' (up w 3 (nn (vC w + v))) (hpu h s w) (spu s) ∧ fra I I' L L' := by
  obtain ⟨⟨o, f0, f1, f2, f3, f4, f5, f6, f7⟩, so, st, dr, ⟨ro, rr0, rr5, rr6, ra⟩, hi, sv, ⟨oo, or0, or2, oa, oa2⟩, hm, am, am2⟩ := id hF
  obtain ⟨ob, s4, s5, s6, s7, s8, s9, s10, b1, b2, b3, b4, b5, b6, o7, hg⟩ := id st
  obtain ⟨⟨n0, n1, n2, n3⟩, ⟨w0, w1, w2⟩, q6, t8, g4, q0, t0, g0⟩ := R.nums
  obtain ⟨x3, c9⟩ := R.1.1.2.2.2.1
  have e3 : I 9 3 = nn (vC w) := n3.trans x3
  have hc' : nn (vC w) + nn v ≤ 9999 := by rw [nn_add, nl_9999, nn_le (by omega) (by omega)]; exact hc
  obtain ⟨ho83, hi1, hi2, hi3⟩ := id hi
  obtain ⟨I1, L1, hE, fI, fL, hh⟩ := R.rem (d := d + 16) hF
  have st1 : stR I1 L1 9 w := R.2.1.fr g4 (fun c x y => fI c (by omega)) (fun c x y => fL c (by omega))
  have f9 : ∀ c, c < 83 → I1 c = I c := fun c x => fI c (Or.inl x)
  have es : I1 9 3 + nn v = nn (vC w + v) := by rw [f9 9 (by decide), e3, nn_add]
  have sR := stR_clock (b := 9) st1 R.1.1 (nn (vC w + v))
  have eG : vG (up w 3 (nn (vC w + v))) = vG w := rfl
  refine ⟨am_u I1 9 3 (nn (vC w + v)), L1, am_ofE rfl rfl rfl (Nat.le_of_ble_eq_true rfl) ?_, ⟨wfs_clock R.1 hc, sR, hh.fr (fun c x y => am_u_ne (by omega)) (fun _ _ _ => rfl)⟩, fun c hc => ⟨by rw [am_u_ne (by omega)]; exact fI c (Or.inr hc), fL c (Or.inr hc)⟩⟩
  refine bX8_advanceClock_0 (Nat.zero_le _) (Nat.zero_le _) (eX8_requireRange_t (mc := 0) (ms := 0) (by rw [nl_1, nn_lt (by omega) (by omega)]; omega) (by rw [show (100 : Int32) = nn 100 from rfl, nn_le (by omega) (by omega)]; omega)) ?_
  refine bX8_advanceClock_7 (by assumption) (by assumption) (by assumption) (fun h7 => ?_) (fun h => absurd (by rw [e3]; exact hc') h)
  refine bX8_advanceClock_30 (by assumption) (by assumption) (by assumption) (by assumption) (Nat.zero_le _) (Nat.zero_le _) (hE) ?_
  refine bX8_advanceClock_41 (by assumption) (by assumption) (by assumption) (Nat.zero_le _) (Nat.zero_le _) (by rw [es]; exact eX5_openGates st (by rw [am_u_at, if_neg (by decide), f9 9 (by decide)]; exact n2) g4) ?_
  refine bX8_advanceClock_61 ?_
  exact am_R_e ((congrArg (nOpen _ 9 _) eG.symm).trans ((nOpen_m sR).trans (by rw [eG]))) rfl rfl
/-- the gate is open now -/
def opW' (w : Nat → Int32) (g : Nat) : Bool := opens (w (132 + g * 94 + 0)) (w (132 + g * 94 + 1)) (w 3 - w 3 / 24 * 24)
/-- the toll that a type pays, the cost of its path -/
def ptW (w : Nat → Int32) (g t : Nat) : Int32 := rw5 w g 1 (lfA (rw5 w g 0) (rw5 w g 4) (nn t) (teW w g))
def pcW (w : Nat → Int32) (g t : Nat) : Int32 := wcA (rw5 w g 0) (rw5 w g 4) (csW w) (nn t) (teW w g)
theorem qX_passCarts (hF : wF Γ) (R : CS I L w h s) {g t k : Nat} (hgv : g < vG w) (ht : t < vT w) (hk1 : 1 ≤ k) (hk : k ≤ 999) (hop : opW' w g = true) : ∃ I' L', am_E m_X8_passCarts (d + 20) 0 0 [.ref 0, .int (nn g), .int (nn t), .int (nn k)] Γ I L (.inl (some (.int (ptW w g t)))) I' L' ∧ CS I' L' (pasW w g t (nn k) (pcW w g t) (ptW w g t) (w (60 + t * 9))) (hpu h s w) (spu s) ∧ fra I I' L L' := by
  obtain ⟨⟨o, f0, f1, f2, f3, f4, f5, f6, f7⟩, so, st, dr, ⟨ro, rr0, rr5, rr6, ra⟩, hi, sv, ⟨oo, or0, or2, oa, oa2⟩, hm, am, am2⟩ := id hF
  obtain ⟨ob, s4, s5, s6, s7, s8, s9, s10, b1, b2, b3, b4, b5, b6, o7, hg⟩ := id st
  obtain ⟨⟨n0, n1, n2, n3⟩, ⟨w0, w1, w2⟩, q6, t8, g4, q0, t0, g0⟩ := R.nums
  have hgx : g < 4 := by omega
  obtain ⟨hg1, hgg⟩ := hg g hgx
  obtain ⟨og, gg4, gg5, ga, tr⟩ := id hgg
  have gE : gc 9 g = 9 + (8 + 7 * g) := rfl
  obtain ⟨y0, y1, y2, y3, y4, y5, y6⟩ := R.2.1.2.2.2.2 g hgv
  have hop' : opens (I (gc 9 g) 1) (I (gc 9 g) 2) (I 9 3 - I 9 3 / 24 * 24) = true := by rw [y1, y2, n3]; exact hop
  obtain ⟨e, e15, e0, ee, ew, ec, tw, h6, tok, sets⟩ := R.gate hgv
  unfold ptW pcW
  rw [← ee]
  obtain ⟨ho83, hi1, hi2, hi3⟩ := id hi
  obtain ⟨I1, L1, hE, fI, fL, hh⟩ := R.rem (d := d + 16) hF
  have st1 : stR I1 L1 9 w := R.2.1.fr g4 (fun c x y => fI c (by omega)) (fun c x y => fL c (by omega))
  have f9 : ∀ c, c < 83 → I1 c = I c := fun c x => fI c (Or.inl x)
  have tok1 : tOK I1 (gc 9 g + 2) e := by unfold tOK; rw [f9 (gc 9 g + 2 + 1) (by omega)]; exact tok
  have eC : pCost I1 9 (gc 9 g + 2) (nn t) e = wcA (rw5 w g 0) (rw5 w g 4) (csW w) (nn t) e := by rw [← R.wc hgv ee h6]; unfold pCost; rw [f9 (gc 9 g + 2 + 1) (by omega), f9 (gc 9 g + 2 + 4) (by omega), f9 (9 + 2) (by omega)]
  obtain ⟨l1, l2, l3, l4⟩ := lfA_sp q6 (show t < 32 by omega) tw.2.2.2 (by have := two_le8 t8; omega) (all_bit ht)
  have eP : I1 (gc 9 g + 2 + 2) (tLh I1 (gc 9 g + 2) (nn t) e) = rw5 w g 1 (lfA (rw5 w g 0) (rw5 w g 4) (nn t) e) := by rw [show tLh I1 (gc 9 g + 2) (nn t) e = tLh I (gc 9 g + 2) (nn t) e from by unfold tLh tLf; rw [f9 (gc 9 g + 2 + 1) (by omega), f9 (gc 9 g + 2 + 4) (by omega)], R.lf h6, f9 (gc 9 g + 2 + 2) (by omega)]; exact (h6 _ l1).2.1
  have eT : I1 (9 + 5) t = w (60 + t * 9) := by rw [f9 (9 + 5) (by omega)]; exact (R.2.1.2.2.1 t ht).2
  obtain ⟨Ip, hP, c7, cc, co⟩ := eX5_letPass (d := d + 17) (I := I1) (L := L1) (g := g) (t := t) (N := e) st hgx (by omega) e15 e0 (by rw [f9 (gc 9 g + 2) (by omega)]; exact ec) tok1 (nn k)
  rw [eP] at hP
  rw [eC, eP, eT] at c7
  have fp : ∀ c, 45 ≤ c → Ip c = I1 c := fun c x => co c (by omega) (by omega)
  refine ⟨Ip, L1, am_ofE rfl rfl rfl (Nat.le_of_ble_eq_true rfl) ?_, ⟨wfs_pas R.1 hgv ht hk _ _ _, stR_pas (b := 9) st1 R.1.1 hgv ht c7 cc co, hh.fr (fun c x y => fp c (by omega)) (fun _ _ _ => rfl)⟩, fun c hc => ⟨(fp c (by omega)).trans (fI c (Or.inr hc)), fL c (Or.inr hc)⟩⟩
  refine bX8_passCarts_0 (by assumption) (Nat.zero_le _) (Nat.zero_le _) (eX8_requireGate_t (mc := 0) (ms := 0) hF n2 hgv (by omega)) ?_
  refine bX8_passCarts_5 (by assumption) (Nat.zero_le _) (Nat.zero_le _) (eX8_requireType_t (mc := 0) (ms := 0) hF n1 ht (by omega)) ?_
  refine bX8_passCarts_10 (Nat.zero_le _) (Nat.zero_le _) (eX8_requireRange_t (mc := 0) (ms := 0) (by rw [nl_1, nn_lt (by omega) (by omega)]; omega) (by rw [show (999 : Int32) = nn 999 from rfl, nn_le (by omega) (by omega)]; omega)) ?_
  refine bX8_passCarts_18 (by assumption) (by first | assumption | (rw [nn_nat (by omega)]; exact hg1)) (by assumption) (by first | assumption | (rw [nn_nat (by omega)]; exact hg1)) (by assumption) (nn_in (by omega) (by omega)) (by first | assumption | (rw [nn_nat (by omega)]; exact hg1)) (Nat.zero_le _) (Nat.zero_le _) (eX5_hourOfDay st) ?_
  refine bX8_passCarts_34 hgg.1 (Nat.zero_le _) (Nat.zero_le _) (eX0_opensAt_b hgg hop') ?_
  refine bX8_passCarts_37 (fun _ => ?_) (fun h => absurd h (by decide))
  refine bX8_passCarts_48 (by assumption) (by assumption) (by assumption) (by assumption) (Nat.zero_le _) (Nat.zero_le _) (hE) ?_
  refine bX8_passCarts_59 (by assumption) (by assumption) (by assumption) (Nat.zero_le _) (Nat.zero_le _) (hP) ?_
  refine bX8_passCarts_69 ?_
  exact ⟨rfl, rfl, rfl⟩
theorem qX_passCarts_x (hF : wF Γ) (R : CS I L w h s) {g t k : Nat} (hgv : g < vG w) (ht : t < vT w) (hk1 : 1 ≤ k) (hk : k ≤ 999) (hop : opW' w g = false) : am_E m_X8_passCarts (d + 20) 1 6 [.ref 0, .int (nn g), .int (nn t), .int (nn k)] Γ I L (.inr "java/lang/IllegalStateException") I L := by
  obtain ⟨⟨o, f0, f1, f2, f3, f4, f5, f6, f7⟩, so, st, dr, ⟨ro, rr0, rr5, rr6, ra⟩, hi, sv, ⟨oo, or0, or2, oa, oa2⟩, hm, am, am2⟩ := id hF
  obtain ⟨ob, s4, s5, s6, s7, s8, s9, s10, b1, b2, b3, b4, b5, b6, o7, hg⟩ := id st
  obtain ⟨⟨n0, n1, n2, n3⟩, ⟨w0, w1, w2⟩, q6, t8, g4, q0, t0, g0⟩ := R.nums
  have hgx : g < 4 := by omega
  obtain ⟨hg1, hgg⟩ := hg g hgx
  obtain ⟨og, gg4, gg5, ga, tr⟩ := id hgg
  have gE : gc 9 g = 9 + (8 + 7 * g) := rfl
  obtain ⟨y0, y1, y2, y3, y4, y5, y6⟩ := R.2.1.2.2.2.2 g hgv
  have hop' : opens (I (gc 9 g) 1) (I (gc 9 g) 2) (I 9 3 - I 9 3 / 24 * 24) = false := by rw [y1, y2, n3]; exact hop
  refine am_ofE rfl rfl rfl (Nat.le_of_ble_eq_true rfl) ?_
  refine bX8_passCarts_0 (by assumption) (Nat.zero_le _) (Nat.zero_le _) (eX8_requireGate_t (mc := 0) (ms := 0) hF n2 hgv (by omega)) ?_
  refine bX8_passCarts_5 (by assumption) (Nat.zero_le _) (Nat.zero_le _) (eX8_requireType_t (mc := 0) (ms := 0) hF n1 ht (by omega)) ?_
  refine bX8_passCarts_10 (Nat.zero_le _) (Nat.zero_le _) (eX8_requireRange_t (mc := 0) (ms := 0) (by rw [nl_1, nn_lt (by omega) (by omega)]; omega) (by rw [show (999 : Int32) = nn 999 from rfl, nn_le (by omega) (by omega)]; omega)) ?_
  refine bX8_passCarts_18 (by assumption) (by first | assumption | (rw [nn_nat (by omega)]; exact hg1)) (by assumption) (by first | assumption | (rw [nn_nat (by omega)]; exact hg1)) (by assumption) (nn_in (by omega) (by omega)) (by first | assumption | (rw [nn_nat (by omega)]; exact hg1)) (Nat.zero_le _) (Nat.zero_le _) (eX5_hourOfDay st) ?_
  refine bX8_passCarts_34 hgg.1 (Nat.zero_le _) (Nat.zero_le _) (eX0_opensAt_b hgg hop') ?_
  refine bX8_passCarts_37 (fun h => absurd (by decide) h) (fun _ => ?_)
  refine bX8_passCarts_40 (by decide) (by decide) ?_
  exact ⟨rfl, rfl, rfl⟩
theorem qX_halveCounts (hF : wF Γ) (R : CS I L w h s) {g : Nat} (hgv : g < vG w) : ∃ I' L', am_E m_X8_halveCounts (d + 20) 0 0 [.ref 0, .int (nn g)] Γ I L (.inl (some (.int (mCnt (hlk w g (vT w)) g (vT w))))) I' L' ∧ CS I' L' (hlW w g) (hpu h s w) (spu s) ∧ fra I I' L L' := by
  obtain ⟨⟨o, f0, f1, f2, f3, f4, f5, f6, f7⟩, so, st, dr, ⟨ro, rr0, rr5, rr6, ra⟩, hi, sv, ⟨oo, or0, or2, oa, oa2⟩, hm, am, am2⟩ := id hF
  obtain ⟨ob, s4, s5, s6, s7, s8, s9, s10, b1, b2, b3, b4, b5, b6, o7, hg⟩ := id st
  obtain ⟨⟨n0, n1, n2, n3⟩, ⟨w0, w1, w2⟩, q6, t8, g4, q0, t0, g0⟩ := R.nums
  have hgx : g < 4 := by omega
  obtain ⟨hg1, hgg⟩ := hg g hgx
  obtain ⟨og, gg4, gg5, ga, tr⟩ := id hgg
  have gE : gc 9 g = 9 + (8 + 7 * g) := rfl
  obtain ⟨ho83, hi1, hi2, hi3⟩ := id hi
  obtain ⟨I1, L1, hE, fI, fL, hh⟩ := R.rem (d := d + 16) hF
  have st1 : stR I1 L1 9 w := R.2.1.fr g4 (fun c x y => fI c (by omega)) (fun c x y => fL c (by omega))
  have f9 : ∀ c, c < 83 → I1 c = I c := fun c x => fI c (Or.inl x)
  generalize hIh : am_mI I1 (gc 9 g + 1) (fun t => I1 (gc 9 g + 1) t / 2) 8 = Ih
  have co : ∀ k, k ≠ gc 9 g + 1 → Ih k = I1 k := fun k hk => by rw [← hIh]; funext j; rw [am_mI_at, if_neg (fun z => hk z.1)]
  have hH : am_E m_X0_halve (d + 19) 0 0 [.ref (gc 9 g)] Γ I1 L1 (.inl none) Ih L1 := by rw [← hIh]; exact eX0_halve hgg
  have cc : ∀ j, j < 8 → Ih (gc 9 g + 1) j = I1 (gc 9 g + 1) j / 2 := fun j hj => by rw [← hIh, am_mI_at, if_pos ⟨rfl, hj⟩]
  have fp : ∀ c, 45 ≤ c → Ih c = I1 c := fun c x => co c (by omega)
  have sH := stR_hl (b := 9) st1 R.1.1 hgv cc co
  have eT : vT (hlW w g) = vT w := by unfold vT; rw [show hlW w g 1 = w 1 from by unfold hlW; rw [if_neg (by omega)]]
  have yH := (sH.2.2.2.2 g ((show vG (hlW w g) = vG w from by unfold vG; rw [show hlW w g 2 = w 2 from by unfold hlW; rw [if_neg (by omega)]]) ▸ hgv)).2.2.2.2.1
  rw [eT] at yH
  have p8 := two_le8 t8
  have p0 : 0 < 2 ^ vT w := Nat.pow_pos (by decide)
  refine ⟨Ih, L1, am_ofE rfl rfl rfl (Nat.le_of_ble_eq_true rfl) ?_, ⟨wfs_hl R.1 hgv, sH, hh.fr (fun c x y => fp c (by omega)) (fun _ _ _ => rfl)⟩, fun c hc => ⟨(fp c (by omega)).trans (fI c (Or.inr hc)), fL c (Or.inr hc)⟩⟩
  refine bX8_halveCounts_0 (by assumption) (Nat.zero_le _) (Nat.zero_le _) (eX8_requireGate_t (mc := 0) (ms := 0) hF n2 hgv (by omega)) ?_
  refine bX8_halveCounts_5 (by assumption) (by assumption) (by assumption) (by assumption) (Nat.zero_le _) (Nat.zero_le _) (hE) ?_
  refine bX8_halveCounts_16 (by assumption) (by first | assumption | (rw [nn_nat (by omega)]; exact hg1)) (by assumption) (by first | assumption | (rw [nn_nat (by omega)]; exact hg1)) (by assumption) (nn_in (by omega) (by omega)) (by first | assumption | (rw [nn_nat (by omega)]; exact hg1)) (by assumption) (Nat.zero_le _) (Nat.zero_le _) (hH) ?_
  refine bX8_halveCounts_28 (by assumption) (by first | assumption | (rw [nn_nat (by omega)]; exact hg1)) (by assumption) (by first | assumption | (rw [nn_nat (by omega)]; exact hg1)) (by assumption) (nn_in (by omega) (by omega)) (by first | assumption | (rw [nn_nat (by omega)]; exact hg1)) (Nat.zero_le _) (Nat.zero_le _) (eX5_allTypes st (by rw [co 9 (by omega), f9 9 (by decide)]; exact n1) t8) ?_
  refine bX8_halveCounts_44 (by assumption) (Nat.zero_le _) (Nat.zero_le _) (eX0_weight hgg _) ?_
  refine bX8_halveCounts_47 ?_
  exact am_R_e (by rw [wgt_m (g := g) (w := hlW w g) t8 (by omega) yH, mWgt_all t8]; rfl) rfl rfl
theorem qX_buildTree (hF : wF Γ) (R : CS I L w h s) {g : Nat} (hgv : g < vG w) : ∃ I' L' w', am_E m_X8_buildTree (d + 20) 0 0 [.ref 0, .int (nn g)] Γ I L (.inl (some (.int (nn (teW w' g))))) I' L' ∧ bldR w g w' ∧ CS I' L' w' (hpu h s w) (spu s) ∧ fra I I' L L' := by
  obtain ⟨⟨o, f0, f1, f2, f3, f4, f5, f6, f7⟩, so, st, dr, ⟨ro, rr0, rr5, rr6, ra⟩, hi, sv, ⟨oo, or0, or2, oa, oa2⟩, hm, am, am2⟩ := id hF
  obtain ⟨ob, s4, s5, s6, s7, s8, s9, s10, b1, b2, b3, b4, b5, b6, o7, hg⟩ := id st
  obtain ⟨⟨n0, n1, n2, n3⟩, ⟨w0, w1, w2⟩, q6, t8, g4, q0, t0, g0⟩ := R.nums
  have hgx : g < 4 := by omega
  obtain ⟨hg1, hgg⟩ := hg g hgx
  obtain ⟨og, gg4, gg5, ga, tr⟩ := id hgg
  have gE : gc 9 g = 9 + (8 + 7 * g) := rfl
  obtain ⟨ho83, hi1, hi2, hi3⟩ := id hi
  obtain ⟨I1, L1, hE, fI, fL, hh⟩ := R.rem (d := d + 16) hF
  have st1 : stR I1 L1 9 w := R.2.1.fr g4 (fun c x y => fI c (by omega)) (fun c x y => fL c (by omega))
  have f9 : ∀ c, c < 83 → I1 c = I c := fun c x => fI c (Or.inl x)
  obtain ⟨ol, lim, l30⟩ := (⟨(R.2.1.2.2.2.2 g hgv).2.2.2.1, (R.1.1.2.2.2.2.2.2 g hgv).2.2.1.1, (R.1.1.2.2.2.2.2.2 g hgv).2.2.1.2⟩ : I (gc 9 g) 3 = w (132 + g * 94 + 2) ∧ w (132 + g * 94 + 2) = nn (lmW w g) ∧ lmW w g ≤ 30)
  obtain ⟨Ib, Lb, hP, ⟨e, e0, e15, es, etv⟩, bI, bL⟩ := eX4_plant (d := d + 17) (I := I1) (L := L1) (k := 1) (b := 9) so st hgx (Or.inr (by decide)) (st1.sda R.1.1 t0 hgv) (by rw [f9 (gc 9 g) (by omega), ol]; exact lim) l30
  have hb := bld_ex R.1.1 t0 hgv
  have te : teW (bldW w g) g = e := by
    obtain ⟨e', q1, q2, q3, q4, q5⟩ := hb
    have := (tvb_uq etv q4).1
    unfold teW
    rw [q1, nn_nat (by omega), this]
  refine ⟨Ib, Lb, bldW w g, am_ofE rfl rfl rfl (Nat.le_of_ble_eq_true rfl) ?_, hb, ⟨wfs_bld R.1 hgv hb, stR_bld (b := 9) st1 R.1.1 hgv hb es e0 e15 etv (fun k x y z => bI k (Or.inr (by omega)) z) (fun k x y => bL k (by omega)), hh.fr (fun c x y => bI c (Or.inr (by omega)) (Or.inr (by omega))) (fun c x y => bL c (by omega))⟩, fun c hc => ⟨(bI c (Or.inr (by omega)) (Or.inr (by omega))).trans (fI c (Or.inr hc)), (bL c (by omega)).trans (fL c (Or.inr hc))⟩⟩
  rw [te]
  refine bX8_buildTree_0 (by assumption) (Nat.zero_le _) (Nat.zero_le _) (eX8_requireGate_t (mc := 0) (ms := 0) hF n2 hgv (by omega)) ?_
  refine bX8_buildTree_5 (by assumption) (by assumption) (by assumption) (by assumption) (Nat.zero_le _) (Nat.zero_le _) (hE) ?_
  refine bX8_buildTree_16 (by first | assumption | exact so.1) (by first | assumption | (rw [nn_nat (by omega)]; exact hg1)) (by first | assumption | (rw [nn_nat (by omega)]; exact hg1)) (by first | assumption | exact so.1) (by first | assumption | (rw [nn_nat (by omega)]; exact hg1)) (by assumption) (nn_in (by omega) (by omega)) (by first | assumption | (rw [nn_nat (by omega)]; exact hg1)) (by first | assumption | exact so.1) (Nat.zero_le _) (Nat.zero_le _) (hP) ?_
  refine bX8_buildTree_36 (by first | assumption | exact tr.1) (by first | assumption | (rw [nn_nat (by omega)]; exact hg1)) (by first | assumption | exact tr.1) (by first | assumption | (rw [nn_nat (by omega)]; exact hg1)) (by assumption) (nn_in (by omega) (by omega)) (by first | assumption | (rw [nn_nat (by omega)]; exact hg1)) (by first | assumption | exact tr.1) (by first | assumption | (rw [nn_nat (by omega)]; exact hg1)) (by first | assumption | exact tr.1) ?_
  exact am_R_e es rfl rfl
theorem qX_undo (hF : wF Γ) {k : Nat} (R : CS I L w h (k + 1)) : ∃ I' L', am_E m_X8_undo (d + 20) 0 0 [.ref 0] Γ I L (.inl (some (.int (nn k)))) I' L' ∧ CS I' L' (h k) h k ∧ fra I I' L L' := by
  obtain ⟨⟨o, f0, f1, f2, f3, f4, f5, f6, f7⟩, so, st, dr, ⟨ro, rr0, rr5, rr6, ra⟩, hi, sv, ⟨oo, or0, or2, oa, oa2⟩, hm, am, am2⟩ := id hF
  obtain ⟨ob, s4, s5, s6, s7, s8, s9, s10, b1, b2, b3, b4, b5, b6, o7, hg⟩ := id st
  obtain ⟨⟨n0, n1, n2, n3⟩, ⟨w0, w1, w2⟩, q6, t8, g4, q0, t0, g0⟩ := R.nums
  obtain ⟨ho83, hi1, hi2, hi3⟩ := id hi
  obtain ⟨o1, h1, h2, ho, hs8, h6⟩ := R.2.2
  obtain ⟨u2, u3⟩ := h6 k (by omega)
  have hE2 : ∀ i, hs 83 i = 83 + (2 + 36 * i) := fun _ => rfl
  have him : (o1 + k) % 8 < 8 := Nat.mod_lt _ (by decide)
  have hh := hE2 ((o1 + k) % 8)
  obtain ⟨Ic, Lc, hP, p1, p2, sE, gI, gL⟩ := eX1_recallInto (d := d + 16) (I := I) (L := L) (h := 83) (b := 9) hi st (Or.inl (by decide)) h1 h2 ho (by omega) (u3.1.2.2.1.trans u2.1.2.2.1.1) u2.1.2.2.1.2
  have fp : ∀ c, c < 9 ∨ 45 ≤ c → c ≠ 83 → Ic c = I c := fun c x y => gI c y (by omega)
  have lp : ∀ c, c < 9 ∨ 45 ≤ c → Lc c = L c := fun c x => gL c (by omega)
  have hRel : CS Ic Lc (h k) h k := by
    refine ⟨u2, u3.cp u2.1 sE, o1, p1, p2, ho, by omega, fun i hik => ?_⟩
    obtain ⟨x1, x2⟩ := h6 i (by omega)
    have hl : (o1 + i) % 8 < 8 := Nat.mod_lt _ (by decide)
    have hE3 := hE2 ((o1 + i) % 8)
    exact ⟨x1, x2.fr x1.1.2.2.1.2 (fun c x y => fp c (by omega) (by omega)) (fun c x y => lp c (by omega))⟩
  refine ⟨Ic, Lc, am_ofE rfl rfl rfl (Nat.le_of_ble_eq_true rfl) ?_, hRel, fun c hc => ⟨fp c (by omega) (by omega), lp c (by omega)⟩⟩
  refine bX8_undo_0 (by assumption) (by assumption) (by assumption) (fun h0 => ?_) (fun h => absurd h (show I 83 2 ≠ 0 by rw [h2, nl_0]; exact fun q => by rw [nn_eq (by omega) (by omega)] at q; omega))
  refine bX8_undo_18 (by assumption) (by assumption) (by assumption) (by assumption) (Nat.zero_le _) (Nat.zero_le _) (hP) ?_
  refine bX8_undo_29 (by assumption) (by assumption) (by assumption) ?_
  exact am_R_e p2 rfl rfl
theorem qX_undoableChanges (hF : wF Γ) (R : CS I L w h s) : am_E m_X8_undoableChanges (d + 20) 0 0 [.ref 0] Γ I L (.inl (some (.int (nn s)))) I L := by
  obtain ⟨⟨o, f0, f1, f2, f3, f4, f5, f6, f7⟩, so, st, dr, ⟨ro, rr0, rr5, rr6, ra⟩, hi, sv, ⟨oo, or0, or2, oa, oa2⟩, hm, am, am2⟩ := id hF
  obtain ⟨ob, s4, s5, s6, s7, s8, s9, s10, b1, b2, b3, b4, b5, b6, o7, hg⟩ := id st
  obtain ⟨⟨n0, n1, n2, n3⟩, ⟨w0, w1, w2⟩, q6, t8, g4, q0, t0, g0⟩ := R.nums
  obtain ⟨o9, h1, h2, h3, h4, h5⟩ := R.2.2
  have oh := hi.1
  refine am_ofE rfl rfl rfl (Nat.le_of_ble_eq_true rfl) ?_
  refine bX8_undoableChanges_0 (by assumption) (by assumption) (by assumption) ?_
  exact am_R_e h2 rfl rfl
theorem qX_nodeQuestion_x (hF : wF Γ) (R : CS I L w h s) {g : Nat} (hgv : g < vG w) {p : Int32} (hp : ¬ ∃ n, n < teW w g ∧ p = nn n) : am_E m_X8_nodeQuestion (d + 20) 1 6 [.ref 0, .int (nn g), .int p] Γ I L (.inr "java/lang/IndexOutOfBoundsException") I L := by
  obtain ⟨⟨o, f0, f1, f2, f3, f4, f5, f6, f7⟩, so, st, dr, ⟨ro, rr0, rr5, rr6, ra⟩, hi, sv, ⟨oo, or0, or2, oa, oa2⟩, hm, am, am2⟩ := id hF
  obtain ⟨ob, s4, s5, s6, s7, s8, s9, s10, b1, b2, b3, b4, b5, b6, o7, hg⟩ := id st
  obtain ⟨⟨n0, n1, n2, n3⟩, ⟨w0, w1, w2⟩, q6, t8, g4, q0, t0, g0⟩ := R.nums
  obtain ⟨e, e15, e0, ee, ew, ec, tw, h6, tok, sets⟩ := R.gate hgv
  rw [← ee] at hp
  refine am_ofE rfl rfl rfl (Nat.le_of_ble_eq_true rfl) ?_
  refine bX8_nodeQuestion_0x (by assumption) (by decide) (by decide) (eX8_requireNode_f hF n2 hgv (by omega) ec hp e15) ?_
  exact ⟨rfl, rfl, rfl⟩
theorem qX_mischargeReason (hF : wF Γ) (R : CS I L w h s) {g t : Nat} (hgv : g < vG w) (ht : t < vT w) : ∃ v : Int32, am_E m_X8_mischargeReason (d + 20) 0 0 [.ref 0, .int (nn g), .int (nn t)] Γ I L (.inl (some (.int v))) I L ∧ (v = 0 ↔ ptW w g t = w (60 + t * 9)) ∧ (v = 0 ∨ v = 1 ∨ v = 2 ∨ v = 3) := by
  obtain ⟨⟨o, f0, f1, f2, f3, f4, f5, f6, f7⟩, so, st, dr, ⟨ro, rr0, rr5, rr6, ra⟩, hi, sv, ⟨oo, or0, or2, oa, oa2⟩, hm, am, am2⟩ := id hF
  obtain ⟨ob, s4, s5, s6, s7, s8, s9, s10, b1, b2, b3, b4, b5, b6, o7, hg⟩ := id st
  obtain ⟨⟨n0, n1, n2, n3⟩, ⟨w0, w1, w2⟩, q6, t8, g4, q0, t0, g0⟩ := R.nums
  have hgx : g < 4 := by omega
  obtain ⟨hg1, hgg⟩ := hg g hgx
  obtain ⟨og, gg4, gg5, ga, tr⟩ := id hgg
  obtain ⟨ot, tr1, tr2, tr3, tr4, ta1, ta2, ta3, ta4⟩ := id tr
  obtain ⟨y0, y1, y2, y3, y4, y5, y6⟩ := R.2.1.2.2.2.2 g hgv
  obtain ⟨e, e15, e0, ee, ew, ec, tw, h6, tok, sets⟩ := R.gate hgv
  have md : mda w g (vQ w) (vT w) (qcW w) (tyW w) (tlW w) (ctW w g) := R.1.1.mda t0 hgv
  have gE : gc 9 g = 9 + (8 + 7 * g) := rfl
  have t31 : t < 32 := by omega
  have p8 := two_le8 t8
  obtain ⟨l1, l2, l3, l4⟩ := lfA_sp q6 t31 tw.2.2.2 (by omega) (all_bit ht)
  obtain ⟨S', s1, s2, s3, s4, s5⟩ := sets _ l1
  generalize hP : rw5 w g 1 (lfA (rw5 w g 0) (rw5 w g 4) (nn t) e) = P
  generalize hl : lfA (rw5 w g 0) (rw5 w g 4) (nn t) e = l at *
  have tol : ∀ u, u < vT w → I (9 + 5) u = w (60 + u * 9) := fun u hu => (R.2.1.2.2.1 u hu).2
  have yes : ∀ q, q < vQ w → I (9 + 3) q = nn (yse (vT w) (tyW w) q) := fun q hq => (R.2.1.2.1 q hq).2.2
  have ety : ∀ u, u < vT w → w (60 + u * 9 + 1) = nn (tyW w u) ∧ tyW w u < 2 ^ vQ w := fun u hu => ⟨(R.1.1.2.2.2.2.2.1 u hu).2.2.1, (R.1.1.2.2.2.2.2.1 u hu).2.2.2.1⟩
  have q64 : 2 ^ vQ w ≤ 2 ^ 6 := Nat.pow_le_pow_right (by decide) q6
  have hToll : am_E m_X7_tollFor (d + 19) 0 0 [.ref (gc 9 g + 2), .int (nn t)] Γ I L (.inl (some (.int P))) I L := am_E_e (eX7_tollFor tr e15 e0 ec (nn t)) (by rw [R.lf h6, hl, ← hP]; exact (h6 _ l1).2.1) rfl
  have etw : twin I 9 (vQ w) t P (vT w) = decide (ffs (twq w t P) (vT w) < vT w) := by
    have e : ffs (twP I 9 (vQ w) t P) (vT w) = ffs (twq w t P) (vT w) := ffs_congr _ (fun u hu => by
      have lt := two_le8 t8
      have b1 : 2 ^ t < 2 ^ vT w := Nat.pow_lt_pow_right (by decide) ht
      have b2 : 2 ^ u < 2 ^ vT w := Nat.pow_lt_pow_right (by decide) hu
      have b3 : 2 ^ t ||| 2 ^ u < 2 ^ vT w := Nat.or_lt_two_pow b1 b2
      unfold twP twq
      rw [split_nn (by omega) yes, spl_two ht hu (ety t ht).2 (ety u hu).2, Bool.not_not, tol u hu, (ety t ht).1, (ety u hu).1, ← Bool.decide_and]
      refine decide_eq_decide.mpr ?_
      rw [nn_eq (by have := (ety t ht).2; omega) (by have := (ety u hu).2; omega)]
      exact ⟨fun z => ⟨fun q => z.1.1 q.symm, z.2, z.1.2⟩, fun z => ⟨⟨fun q => z.1 q.symm, z.2.2⟩, z.2.1⟩⟩)
    unfold twin
    rw [e]
  have hTwin : am_E m_X5_hasTwinWithToll (d + 19) 0 0 [.ref 9, .int (nn t), .int P] Γ I L (.inl (some (.int (bi (decide (ffs (twq w t P) (vT w) < vT w)))))) I L := am_E_e (eX5_hasTwinWithToll st n0 q6 n1 t8 (by omega) P) (by rw [etw]) rfl
  have hLeaf : am_E m_X7_leafHolding (d + 19) 0 0 [.ref (gc 9 g + 2), .int (nn t)] Γ I L (.inl (some (.int (nn l)))) I L := am_E_e (eX7_leafHolding tr e15 ec (nn t)) (by rw [R.lf h6, hl]) rfl
  have hSpl : am_E m_X5_isSplittable (d + 19) 0 0 [.ref 9, .int (I (gc 9 g + 2 + 4) (nn l).toNatClampNeg)] Γ I L (.inl (some (.int (bi (spl (yse (vT w) (tyW w)) S' (vQ w)))))) I L := by
    rw [nn_nat (by omega), (h6 _ l1).2.2.2, s3]
    exact am_E_e (eX5_isSplittable st n0 q6 _) (by rw [split_nn (by omega) yes]) rfl
  have toW : I (9 + 5) (nn t).toNatClampNeg = w (60 + t * 9) := by rw [nn_nat (by omega)]; exact tol t ht
  obtain ⟨V, hV0, hV1, hV2, hV3⟩ : ∃ V : Int32, (P = w (60 + t * 9) → V = 0) ∧ (¬ P = w (60 + t * 9) → ffs (twq w t P) (vT w) < vT w → V = 1) ∧ (¬ P = w (60 + t * 9) → ¬ ffs (twq w t P) (vT w) < vT w → spl (yse (vT w) (tyW w)) S' (vQ w) = true → V = 2) ∧ (¬ P = w (60 + t * 9) → ¬ ffs (twq w t P) (vT w) < vT w → spl (yse (vT w) (tyW w)) S' (vQ w) = false → V = 3) :=
    ⟨if P = w (60 + t * 9) then 0 else if ffs (twq w t P) (vT w) < vT w then 1 else if spl (yse (vT w) (tyW w)) S' (vQ w) = true then 2 else 3, fun h => by rw [if_pos h], fun h h2 => by rw [if_neg h, if_pos h2], fun h h2 h3 => by rw [if_neg h, if_neg h2, if_pos h3], fun h h2 h3 => by rw [if_neg h, if_neg h2, if_neg (by rw [h3]; decide)]⟩
  refine ⟨V, am_ofE rfl rfl rfl (Nat.le_of_ble_eq_true rfl) ?_, ?_, ?_⟩
  case refine_2 =>
    have eP : ptW w g t = P := by unfold ptW; rw [← ee, hl]; exact hP
    rw [eP]
    by_cases z : P = w (60 + t * 9)
    · exact ⟨fun _ => z, fun _ => hV0 z⟩
    · refine ⟨fun y => absurd y ?_, fun y => absurd y z⟩
      by_cases z2 : ffs (twq w t P) (vT w) < vT w
      · rw [hV1 z z2]; decide
      · cases z3 : spl (yse (vT w) (tyW w)) S' (vQ w)
        · rw [hV3 z z2 z3]; decide
        · rw [hV2 z z2 z3]; decide
  case refine_3 =>
    by_cases z : P = w (60 + t * 9)
    · exact Or.inl (hV0 z)
    · by_cases z2 : ffs (twq w t P) (vT w) < vT w
      · exact Or.inr (Or.inl (hV1 z z2))
      · cases z3 : spl (yse (vT w) (tyW w)) S' (vQ w)
        · exact Or.inr (Or.inr (Or.inr (hV3 z z2 z3)))
        · exact Or.inr (Or.inr (Or.inl (hV2 z z2 z3)))
  refine bX8_mischargeReason_0 (by assumption) (Nat.zero_le _) (Nat.zero_le _) (eX8_requireGate_t (mc := 0) (ms := 0) hF n2 hgv (by omega)) ?_
  refine bX8_mischargeReason_5 (by assumption) (Nat.zero_le _) (Nat.zero_le _) (eX8_requireType_t (mc := 0) (ms := 0) hF n1 ht (by omega)) ?_
  refine bX8_mischargeReason_10 (by assumption) (by first | assumption | (rw [nn_nat (by omega)]; exact hg1)) (by assumption) (by first | assumption | (rw [nn_nat (by omega)]; exact hg1)) (by assumption) (nn_in (by omega) (by omega)) (by first | assumption | (rw [nn_nat (by omega)]; exact hg1)) (by assumption) (by first | assumption | (rw [nn_nat (by omega)]; exact hg1)) (by assumption) (Nat.zero_le _) (Nat.zero_le _) (hToll) ?_
  refine bX8_mischargeReason_28 (by assumption) (by assumption) (by assumption) (by assumption) (by assumption) (nn_in (by omega) (by omega)) (fun h28 => ?_) (fun h28 => ?_)
  · refine bX8_mischargeReason_46 (by assumption) (by assumption) (by assumption) (Nat.zero_le _) (Nat.zero_le _) (hTwin) ?_
    refine bX8_mischargeReason_56 (fun h56 => ?_) (fun h56 => ?_)
    · refine bX8_mischargeReason_61 (by assumption) (by assumption) (by assumption) (by assumption) (Nat.zero_le _) (Nat.zero_le _) (hLeaf) ?_
      refine bX8_mischargeReason_74 (by assumption) (nn_in (by omega) (by omega)) (by assumption) (Nat.zero_le _) (Nat.zero_le _) (hSpl) ?_
      refine bX8_mischargeReason_78 (fun h78 => ?_) (fun h78 => ?_)
      · refine bX8_mischargeReason_85 ?_
        refine bX8_mischargeReason_86 ?_
        exact am_R_e (hV3 (fun q => h28 (q.trans toW.symm)) (of_decide_eq_false (bi_z.mp h56)) (bi_z.mp h78)).symm rfl rfl
      · refine bX8_mischargeReason_81 ?_
        refine bX8_mischargeReason_86 ?_
        exact am_R_e (hV2 (fun q => h28 (q.trans toW.symm)) (of_decide_eq_false (bi_z.mp h56)) (bi_nz.mp h78)).symm rfl rfl
    · refine bX8_mischargeReason_59 ?_
      exact am_R_e (hV1 (fun q => h28 (q.trans toW.symm)) (of_decide_eq_true (bi_nz.mp h56))).symm rfl rfl
  · refine bX8_mischargeReason_44 ?_
    exact am_R_e (hV0 (h28.trans toW)).symm rfl rfl
theorem wait_hou {a b h : Nat} (ha : a ≤ 23) (hb : b ≤ 23) (hh : h ≤ 23) : (if opens (nn a) (nn b) (nn h) = true then (0 : Int32) else (nn a - nn h + 24) - (nn a - nn h + 24) / 24 * 24) = nn (hou a b h) := by
  rw [opn (by omega) (by omega) (by omega)]
  unfold hou
  cases ho : (if b < a then decide (a ≤ h) || decide (h ≤ b) else decide (a ≤ h) && decide (h ≤ b))
  case true => rfl
  case false =>
    rw [if_neg (by decide), if_neg (by decide)]
    have e : nn a - nn h + 24 = nn (a + 24 - h) := by
      have h1 := nn_sub (a := a + 24) (b := h) (by omega)
      rw [← h1, ← nn_add, nl_24, Int32.sub_eq_add_neg, Int32.sub_eq_add_neg, Int32.add_assoc, Int32.add_comm (-nn h), Int32.add_assoc]
    rw [e, nl_24, nn_rem (by omega) (by decide)]

theorem qX_hoursUntilOpen (hF : wF Γ) (R : CS I L w h s) {g : Nat} (hg0 : g < vG w) : am_E m_X8_hoursUntilOpen (d + 20) 0 0 [.ref 0, .int (nn g)] Γ I L (.inl (some (.int (nn (hou (opW w g) (clW w g) (vC w % 24)))))) I L := by
  obtain ⟨⟨o, f0, f1, f2, f3, f4, f5, f6, f7⟩, so, st, dr, ⟨ro, rr0, rr5, rr6, ra⟩, hi, sv, ⟨oo, or0, or2, oa, oa2⟩, hm, am, am2⟩ := id hF
  obtain ⟨ob, s4, s5, s6, s7, s8, s9, s10, b1, b2, b3, b4, b5, b6, o7, hg⟩ := id st
  obtain ⟨⟨n0, n1, n2, n3⟩, ⟨w0, w1, w2⟩, q6, t8, g4, q0, t0, g0⟩ := R.nums
  have hgx : g < 4 := by omega
  obtain ⟨hg1, hgg⟩ := hg g hgx
  obtain ⟨og, gg4, gg5, ga, tr⟩ := id hgg
  have gE : gc 9 g = 9 + (8 + 7 * g) := rfl
  obtain ⟨y0, y1, y2, y3, y4, y5, y6⟩ := R.2.1.2.2.2.2 g hg0
  obtain ⟨⟨x1, x2⟩, ⟨x3, x4⟩, -⟩ := R.1.1.2.2.2.2.2.2 g hg0
  obtain ⟨x5, x6⟩ := R.1.1.2.2.2.1
  refine am_ofE rfl rfl rfl (Nat.le_of_ble_eq_true rfl) ?_
  refine bX8_hoursUntilOpen_0 (by assumption) (Nat.zero_le _) (Nat.zero_le _) (eX8_requireGate_t (mc := 0) (ms := 0) hF n2 hg0 (by omega)) ?_
  refine bX8_hoursUntilOpen_5 (by assumption) (by first | assumption | (rw [nn_nat (by omega)]; exact hg1)) (by assumption) (by first | assumption | (rw [nn_nat (by omega)]; exact hg1)) (by assumption) (nn_in (by omega) (by omega)) (by first | assumption | (rw [nn_nat (by omega)]; exact hg1)) (Nat.zero_le _) (Nat.zero_le _) (eX5_hourOfDay st) ?_
  refine bX8_hoursUntilOpen_21 (by assumption) (Nat.zero_le _) (Nat.zero_le _) (eX0_waitFrom hgg _) ?_
  refine bX8_hoursUntilOpen_24 ?_
  exact am_R_e (by rw [n3, x5, nl_24, nn_rem (by omega) (by decide), y1, y2, x1, x3]; exact wait_hou x2 x4 (by omega)) rfl rfl
end Q4
