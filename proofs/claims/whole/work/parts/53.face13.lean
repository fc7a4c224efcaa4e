/-! CLASS AND MODEL SIDE BY SIDE: a tree written -/
section F13
variable {d mc ms : Nat} {Γ : am_G} {I : am_I} {L : am_L} {m : Nat}
theorem eX2_writeTreeOf (hF : wF Γ) {t g Q e S f : Nat} {ys : Nat → Nat} {w : Nat → Int32} (ht : trF Γ t) (t45 : 9 ≤ t ∧ t + 5 ≤ 45) (hQ : Q ≤ 6) (hn : ∀ q, q < Q → nmO w (12 + q * 8 + 1)) (hL : ∀ q, q < Q → L 10 q = pnm w (12 + q * 8 + 1)) (h : tva Q ys (rw5 w g 0) (rw5 w g 1) (rw5 w g 2) (rw5 w g 3) (rw5 w g 4) f 0 S e) (h15 : e ≤ 15) (htr : ∀ j, j < e → I (t + 1) j = rw5 w g 0 j ∧ I (t + 2) j = rw5 w g 1 j ∧ I (t + 3) j = rw5 w g 3 j) :
    ∃ If, am_E m_X2_writeTreeOf (d + 2) 0 0 [.ref 447, .ref 9, .ref t] Γ I L (.inl none) If L ∧ If 447 1 = nn (otx w g f 0).length ∧ (∀ j, j < (otx w g f 0).length → If 448 j = (otx w g f 0).getD j 0) ∧ ∀ k, k ≠ 447 → k ≠ 448 → k ≠ 449 → If k = I k := by
  obtain ⟨⟨o, f0, f1, f2, f3, f4, f5, f6, f7⟩, so, st, dr, ⟨ro, rr0, rr5, rr6, ra⟩, hi, sv, ⟨oo, or0, or2, oa, oa2⟩, hm, am, am2⟩ := id hF
  have ho : otF Γ := ⟨oo, or0, or2, oa, oa2⟩
  refine am_ofX1 rfl rfl rfl (Nat.le_of_ble_eq_true rfl) ?_
  obtain ⟨J, hJ⟩ : ∃ J, J = am_u (am_u (am_u (am_u I 447 1 0) 447 3 0) 449 0 0) 447 3 (nn (0 + 1)) := ⟨_, rfl⟩
  have jn : ∀ k, k ≠ 447 → k ≠ 449 → J k = I k := fun k a b => by rw [hJ, am_u_ne a, am_u_ne b, am_u_ne a, am_u_ne a]
  have j1 : J 447 1 = nn 0 := by rw [hJ, am_u_at, if_neg (by decide), am_u_ne (by decide), am_u_at, if_neg (by decide), am_u_at, if_pos ⟨rfl, rfl⟩]; rfl
  have j3 : J 447 3 = nn (0 + 1) := by rw [hJ, am_u_at, if_pos ⟨rfl, rfl⟩]
  have j0 : J 449 0 = nn 0 := by rw [hJ, am_u_ne (by decide), am_u_at, if_pos ⟨rfl, rfl⟩]; rfl
  have go := eX2_tree (d := d) (L := L) hF ht t45 hQ hn hL (Pr := fun If => If 447 1 = nn (otx w g f 0).length ∧ (∀ j, j < (otx w g f 0).length → If 448 j = (otx w g f 0).getD j 0) ∧ ∀ k, k ≠ 447 → k ≠ 448 → k ≠ 449 → If k = I k) h h15 (I := J) (c := 0) (b := 0) (k := 0) (ls := [(0, .ref 447), (1, .ref 9), (2, .ref t), (3, .int 0)]) (fun j hj => by rw [jn _ (by omega) (by omega), jn _ (by omega) (by omega), jn _ (by omega) (by omega)]; exact htr j hj) j1 j3 j0 (by omega) (by omega) (by omega) rfl (by
    intro I' ls' q c3 _ hls'
    obtain ⟨q1, q2, q3⟩ := q
    refine ⟨I', ?_, by rw [q1, Nat.zero_add], fun j hj => by rw [q2 j, if_pos ⟨Nat.zero_le _, by omega⟩]; rfl, fun k a b c => (q3 k a b c).trans (jn k a c)⟩
    refine aw_take 4 ?_
    rw [hls']
    refine bX2_writeTreeOf_17 (fun h => absurd h (by show ¬ nn 87 ≤ nn _; rw [nn_le (by decide) (by omega)]; omega)) (fun _ => ?_)
    refine bX2_writeTreeOf_23 oo (fun _ => ?_) (fun h => absurd (Int32.le_of_eq c3) h)
    refine bX2_writeTreeOf_169 ?_
    exact ⟨rfl, rfl, rfl⟩)
  obtain ⟨If, hW, hP⟩ := go
  refine ⟨If, ?_, hP⟩
  refine bX2_writeTreeOf_0 oo (Nat.zero_le _) (Nat.zero_le _) (eX2_await ho (k := 0) (by rw [am_u_at, if_pos ⟨rfl, rfl⟩]; rfl) (by decide) _) ?_
  rw [← hJ]
  refine bX2_writeTreeOf_15 ?_
  exact hW
theorem REL.ot (R : REL I L) {I' : am_I} (e : ∀ c, 9 ≤ c → c < 457 → c ≠ 447 → c ≠ 448 → c ≠ 449 → c ≠ 450 → I' c = I c) (em : I' 450 5 = I 450 5 ∧ I' 450 9 = I 450 9 ∧ I' 450 11 = I 450 11 ∧ I' 450 12 = I 450 12) (h7 : otR I') : REL I' L := by
  obtain ⟨h1, h2, h3, h4, h5, h6, -⟩ := R
  have e451 : I' 451 = I 451 := e _ (by decide) (by decide) (by decide) (by decide) (by decide) (by decide)
  refine ⟨by rw [e451]; exact h1, by rw [e451]; exact h2.fr h1.1.2.2.1.2 (fun c c1 c2 => e c (by omega) (by omega) (by omega) (by omega) (by omega) (by omega)) (fun _ _ _ => rfl), h3.fr (fun c c1 c2 => e c (by omega) (by omega) (by omega) (by omega) (by omega) (by omega)) em.1 (e _ (by decide) (by decide) (by decide) (by decide) (by decide) (by decide)) (fun _ _ _ => rfl), h4.fr (fun c c1 c2 => e c (by omega) (by omega) (by omega) (by omega) (by omega) (by omega)) (e _ (by decide) (by decide) (by decide) (by decide) (by decide) (by decide)) (e _ (by decide) (by decide) (by decide) (by decide) (by decide) (by decide)) (fun _ _ _ => rfl), ?_, ?_, h7⟩
  · obtain ⟨n, n1, n2, n3, n4⟩ := h5
    refine ⟨n, n1, by rw [e 81 (by decide) (by decide) (by decide) (by decide) (by decide) (by decide)]; exact n2, em.2.1.trans n3, fun j hj => ?_⟩
    rw [e 456 (by decide) (by decide) (by decide) (by decide) (by decide) (by decide), e 82 (by decide) (by decide) (by decide) (by decide) (by decide) (by decide)]
    exact n4 j hj
  · rw [e 81 (by decide) (by decide) (by decide) (by decide) (by decide) (by decide), em.2.2.1, em.2.2.2]
    exact h6
theorem fX_writeTree (hF : wF Γ) (R : REL I L) (p0 : Int32) : gX Γ I L m_X8_writeTree m_X9_writeTree [.int p0] ["java/lang/IndexOutOfBoundsException"] := by
  obtain ⟨⟨o, f0, f1, f2, f3, f4, f5, f6, f7⟩, so, st, dr, ⟨ro, rr0, rr5, rr6, ra⟩, hi, sv, ⟨oo, or0, or2, oa, oa2⟩, hm, am, am2⟩ := id hF
  obtain ⟨ob, s4, s5, s6, s7, s8, s9, s10, b1, b2, b3, b4, b5, b6, o7, hg⟩ := id st
  obtain ⟨mo, r0, r1, r2, r3, r4, r7, r8, r13, r14, r15, r16, r17, a1, a2, a3, a4, a5, a6, a7, a8, a9, a10, a11, a12⟩ := id hm
  obtain ⟨⟨n0, n1, n2, n3⟩, ⟨w0, w1, w2⟩, q6, t8, g4, q0, t0, g0⟩ := R.nums
  obtain ⟨ho83, hi1, hi2, hi3⟩ := id hi
  have hJ : ∀ v : Int32, am_u I 450 6 v (450 + 1) = I 451 := fun v => am_u_ne (by decide)
  by_cases c0 : ∃ t, t < vG (I 451) ∧ p0 = nn t
  case neg =>
    refine ⟨I, L, am_u I 450 6 1, .inr "java/lang/IndexOutOfBoundsException", 0, am_ofE rfl rfl rfl (Nat.le_of_ble_eq_true rfl) ?_, am_ofE rfl rfl rfl (Nat.le_of_ble_eq_true rfl) ?_, R.thr 1, Or.inr ⟨0, _, rfl, rfl, by rw [am_u_at, if_pos ⟨rfl, rfl⟩]; rfl⟩⟩
    · refine bX8_writeTree_0x (by assumption) (by decide) (by decide) (eX8_requireGate_f hF n2 c0 (by omega)) ?_
      exact ⟨rfl, rfl, rfl⟩
    · refine bX9_writeTree_0 (by assumption) (Nat.zero_le _) (Nat.zero_le _) (eX9_noGate_f hm w2 c0 (by omega)) ?_
      refine bX9_writeTree_6 (by assumption) (Nat.zero_le _) (Nat.zero_le _) (eX9_fails1 hm) ?_
      refine bX9_writeTree_11 (fun h => absurd h (by decide)) (fun _ => ?_)
      refine bX9_writeTree_14 ?_
      exact ⟨rfl, rfl, rfl⟩
  obtain ⟨g, hgv, rfl⟩ := c0
  have hgx : g < 4 := by omega
  obtain ⟨hg1, hgg⟩ := hg g hgx
  obtain ⟨og, gg4, gg5, ga, tr⟩ := id hgg
  obtain ⟨ot, tr1, tr2, tr3, tr4, ta1, ta2, ta3, ta4⟩ := id tr
  obtain ⟨y0, y1, y2, y3, y4, y5, y6⟩ := R.2.1.2.2.2.2 g hgv
  obtain ⟨e, e15, e0, ee, ew, ec, tw, h6, tok, sets⟩ := R.gate hgv
  have md : mda (I 451) g (vQ (I 451)) (vT (I 451)) (qcW (I 451)) (tyW (I 451)) (tlW (I 451)) (ctW (I 451) g) := R.1.1.mda t0 hgv
  have gE : gc 9 g = 9 + (8 + 7 * g) := rfl
  have nms : ∀ q, q < vQ (I 451) → nmO (I 451) (12 + q * 8 + 1) := fun q hq => (R.1.1.2.2.2.2.1 q hq).2.2.2
  obtain ⟨I1, hC, c1, c2, c3⟩ := eX2_writeTreeOf (d := 267) (I := I) (L := L) hF tr (by omega) q6 nms (fun q hq => (R.2.1.2.1 q hq).1) tw.2.2.2 e15 (fun j hj => ⟨(h6 j hj).1, (h6 j hj).2.1, (h6 j hj).2.2.1⟩)
  have ln := otx_len q6 (fun q hq => (nms q hq).2.2.1) tw.2.2.2 e15
  have q451 : I1 451 = I 451 := c3 451 (by decide) (by decide) (by decide)
  have q450 : I1 450 = I 450 := c3 450 (by decide) (by decide) (by decide)
  have hM := eX9_outNode (d := 22) (L := L) (I := am_u (am_u I1 450 6 0) 450 10 0) (c := 0) hm hgx q6 nms tw.2.2.2 e15 (by rw [am_u_ne (by decide), am_u_ne (by decide)]; exact q451) (by rw [am_u_at, if_pos ⟨rfl, rfl⟩]; rfl) (by omega)
  have oM := wrx_o 457 450 10 (by decide) (otx (I 451) g 256 0) (am_u (am_u I1 450 6 0) 450 10 0) 0 (by rw [am_u_at, if_pos ⟨rfl, rfl⟩]; rfl)
  have aM := wrx_a 457 450 10 (by decide) (otx (I 451) g 256 0) (am_u (am_u I1 450 6 0) 450 10 0) 0
  have nM := fun c h1 h2 => wrx_ne 457 450 10 (otx (I 451) g 256 0) (am_u (am_u I1 450 6 0) 450 10 0) 0 c h1 h2
  generalize hX : wrx 457 450 10 (am_u (am_u I1 450 6 0) 450 10 0) 0 (otx (I 451) g 256 0) = M at *
  have m450 : ∀ j, j ≠ 10 → j ≠ 6 → M 450 j = I 450 j := fun j a b => by rw [oM.2 j a, am_u_at, if_neg (fun z => a z.2), am_u_at, if_neg (fun z => b z.2), q450]
  have hRel : REL M L := R.ot (fun c a b x1 x2 x3 x4 => by rw [nM c (by omega) x4, am_u_ne x4, am_u_ne x4]; exact c3 c x1 x2 x3) ⟨m450 5 (by decide) (by decide), m450 9 (by decide) (by decide), m450 11 (by decide) (by decide), m450 12 (by decide) (by decide)⟩ ⟨(otx (I 451) g 256 0).length, by omega, by rw [nM 447 (by decide) (by decide), am_u_ne (by decide), am_u_ne (by decide)]; exact c1, by rw [oM.1, Nat.zero_add], fun j hj => by rw [nM 448 (by decide) (by decide), am_u_ne (by decide), am_u_ne (by decide), c2 j hj, aM j, if_pos ⟨Nat.zero_le _, by omega⟩]; rfl⟩
  refine ⟨I1, L, M, .inl (some (.int (nn (otx (I 451) g 256 0).length))), nn (otx (I 451) g 256 0).length, am_ofE rfl rfl rfl (Nat.le_of_ble_eq_true rfl) ?_, am_ofE rfl rfl rfl (Nat.le_of_ble_eq_true rfl) ?_, hRel, Or.inl ⟨rfl, by rw [oM.2 6 (by decide), am_u_at, if_neg (by decide), am_u_at, if_pos ⟨rfl, rfl⟩]⟩⟩
  · refine bX8_writeTree_0 (by assumption) (Nat.zero_le _) (Nat.zero_le _) (eX8_requireGate_t (mc := 0) (ms := 0) hF n2 hgv (by omega)) ?_
    refine bX8_writeTree_5 (by assumption) (by first | assumption | (rw [nn_nat (by omega)]; exact hg1)) (by first | assumption | (rw [nn_nat (by omega)]; exact hg1)) (by assumption) (by first | assumption | (rw [nn_nat (by omega)]; exact hg1)) (by assumption) (nn_in (by omega) (by omega)) (by first | assumption | (rw [nn_nat (by omega)]; exact hg1)) (by assumption) (by first | assumption | (rw [nn_nat (by omega)]; exact hg1)) (by assumption) (Nat.zero_le _) (Nat.zero_le _) (hC) ?_
    refine bX8_writeTree_28 (by assumption) (by assumption) (by assumption) ?_
    exact am_R_e c1 rfl rfl
  · refine bX9_writeTree_0 (by assumption) (Nat.zero_le _) (Nat.zero_le _) (eX9_noGate_t hm (show I1 (450 + 1) 2 = _ by rw [show I1 (450 + 1) = I 451 from q451]; exact w2) hgv (by omega)) ?_
    refine bX9_writeTree_6 (by assumption) (Nat.zero_le _) (Nat.zero_le _) (eX9_fails0 hm) ?_
    refine bX9_writeTree_11 (fun _ => ?_) (fun h => absurd (by decide) h)
    refine bX9_writeTree_16 (by assumption) (Nat.zero_le _) (Nat.zero_le _) (hM) ?_
    refine bX9_writeTree_27 (by assumption) ?_
    exact am_R_e (by rw [oM.1, Nat.zero_add]) rfl rfl
end F13
