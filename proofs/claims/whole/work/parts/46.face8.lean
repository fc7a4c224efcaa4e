/-! CLASS AND MODEL SIDE BY SIDE: why, the quickest -/
theorem sub136 : ∀ a, a < 136 → ∀ b, b < 136 → (nn a - nn b < 0 ↔ a < b) ∧ (nn a - nn b = 0 ↔ a = b) := by decide +kernel
theorem wcA_le {tq ts cs : Nat → Int32} {k : Int32} : ∀ {N : Nat}, (∀ n, n < N → tq n ≠ -1 → ∃ v, v ≤ 9 ∧ cs (tq n).toNatClampNeg = nn v) → ∃ c, c ≤ 9 * N ∧ wcA tq ts cs k N = nn c
  | 0, _ => ⟨0, Nat.le_refl _, rfl⟩
  | N + 1, h => by
    obtain ⟨c, c1, c2⟩ := wcA_le (tq := tq) (ts := ts) (cs := cs) (k := k) (N := N) (fun n hn => h n (by omega))
    have e : wcA tq ts cs k (N + 1) = wcA tq ts cs k N + (if tq N ≠ -1 ∧ ib (ts N) k = true then cs (tq N).toNatClampNeg else 0) := rfl
    by_cases hz : tq N ≠ -1 ∧ ib (ts N) k = true
    · obtain ⟨v, v1, v2⟩ := h N (by omega) hz.1
      exact ⟨c + v, by omega, by rw [e, if_pos hz, v2, c2, nn_add]⟩
    · exact ⟨c, by omega, by rw [e, if_neg hz, c2]; exact Int32.add_zero _⟩
section F8
variable {d mc ms : Nat} {Γ : am_G} {I : am_I} {L : am_L} {m : Nat}
theorem REL.way (R : REL I L) {g : Nat} (hg : g < vG (I 451)) (k : Int32) : ∃ c, c < 136 ∧ wcA (rw5 (I 451) g 0) (rw5 (I 451) g 4) (csW (I 451)) k (teW (I 451) g) = nn c := by
  obtain ⟨e, e15, e0, ee, ew, ec, tw, h6, tok, sets⟩ := R.gate hg
  rw [← ee]
  obtain ⟨c, c1, c2⟩ := wcA_le (tq := rw5 (I 451) g 0) (ts := rw5 (I 451) g 4) (cs := csW (I 451)) (k := k) (N := e) (fun n hn hq => by
    obtain ⟨S', s1, s2, s3, s4, s5⟩ := sets n hn
    obtain ⟨q, q1, q2⟩ := s4 hq
    rw [q2]
    obtain ⟨x1, x2, x3, x4⟩ := R.1.1.2.2.2.2.1 q q1
    have := R.1.1.1.2
    refine ⟨qcW (I 451) q, x3, ?_⟩
    show I 451 (12 + (nn q).toNatClampNeg * 8) = _
    rw [nn_nat (by omega)]
    exact x1)
  exact ⟨c, by omega, c2⟩

theorem fX_mischargeReason (hF : wF Γ) (R : REL I L) (p0 p1 : Int32) : gX Γ I L m_X8_mischargeReason m_X9_mischargeReason [.int p0, .int p1] ["java/lang/IndexOutOfBoundsException"] := by
  obtain ⟨⟨o, f0, f1, f2, f3, f4, f5, f6, f7⟩, so, st, dr, ⟨ro, rr0, rr5, rr6, ra⟩, hi, sv, ⟨oo, or0, or2, oa, oa2⟩, hm, am, am2⟩ := id hF
  obtain ⟨ob, s4, s5, s6, s7, s8, s9, s10, b1, b2, b3, b4, b5, b6, o7, hg⟩ := id st
  obtain ⟨mo, r0, r1, r2, r3, r4, r7, r8, r13, r14, r15, r16, r17, a1, a2, a3, a4, a5, a6, a7, a8, a9, a10, a11, a12⟩ := id hm
  obtain ⟨⟨n0, n1, n2, n3⟩, ⟨w0, w1, w2⟩, q6, t8, g4, q0, t0, g0⟩ := R.nums
  obtain ⟨ho83, hi1, hi2, hi3⟩ := id hi
  have hJ : ∀ v : Int32, am_u I 450 6 v 451 = I 451 := fun v => am_u_ne (by decide)
  by_cases c0 : ∃ t, t < vG (I 451) ∧ p0 = nn t
  case neg =>
    refine ⟨I, L, am_u I 450 6 1, .inr "java/lang/IndexOutOfBoundsException", 0, am_ofE rfl rfl rfl (Nat.le_of_ble_eq_true rfl) ?_, am_ofE rfl rfl rfl (Nat.le_of_ble_eq_true rfl) ?_, R.thr 1, Or.inr ⟨0, _, rfl, rfl, by rw [am_u_at, if_pos ⟨rfl, rfl⟩]; rfl⟩⟩
    · refine bX8_mischargeReason_0x (by assumption) (by decide) (by decide) (eX8_requireGate_f hF n2 c0 (by omega)) ?_
      exact ⟨rfl, rfl, rfl⟩
    · refine bX9_mischargeReason_0 (by assumption) (Nat.zero_le _) (Nat.zero_le _) (eX9_noGate_f hm w2 c0 (by omega)) ?_
      refine bX9_mischargeReason_6 (fun _ => ?_) (fun h => absurd h (by decide))
      refine bX9_mischargeReason_17 ?_
      refine bX9_mischargeReason_22 (by assumption) (Nat.zero_le _) (Nat.zero_le _) (eX9_fails1 hm) ?_
      refine bX9_mischargeReason_27 (fun h => absurd h (by decide)) (fun _ => ?_)
      refine bX9_mischargeReason_30 ?_
      exact ⟨rfl, rfl, rfl⟩
  obtain ⟨g, hgv, rfl⟩ := c0
  by_cases c1 : ∃ t, t < vT (I 451) ∧ p1 = nn t
  case neg =>
    refine ⟨I, L, am_u I 450 6 1, .inr "java/lang/IndexOutOfBoundsException", 0, am_ofE rfl rfl rfl (Nat.le_of_ble_eq_true rfl) ?_, am_ofE rfl rfl rfl (Nat.le_of_ble_eq_true rfl) ?_, R.thr 1, Or.inr ⟨0, _, rfl, rfl, by rw [am_u_at, if_pos ⟨rfl, rfl⟩]; rfl⟩⟩
    · refine bX8_mischargeReason_0 (by assumption) (Nat.zero_le _) (Nat.zero_le _) (eX8_requireGate_t (mc := 0) (ms := 0) hF n2 hgv (by omega)) ?_
      refine bX8_mischargeReason_5x (by assumption) (by decide) (by decide) (eX8_requireType_f hF n1 c1 (by omega)) ?_
      exact ⟨rfl, rfl, rfl⟩
    · refine bX9_mischargeReason_0 (by assumption) (Nat.zero_le _) (Nat.zero_le _) (eX9_noGate_t hm w2 hgv (by omega)) ?_
      refine bX9_mischargeReason_6 (fun h => absurd (by decide) h) (fun _ => ?_)
      refine bX9_mischargeReason_9 (by assumption) (Nat.zero_le _) (Nat.zero_le _) (eX9_noType_f hm w1 c1 (by omega)) ?_
      refine bX9_mischargeReason_14 (fun h => absurd h (by decide)) (fun _ => ?_)
      refine bX9_mischargeReason_17 ?_
      refine bX9_mischargeReason_22 (by assumption) (Nat.zero_le _) (Nat.zero_le _) (eX9_fails1 hm) ?_
      refine bX9_mischargeReason_27 (fun h => absurd h (by decide)) (fun _ => ?_)
      refine bX9_mischargeReason_30 ?_
      exact ⟨rfl, rfl, rfl⟩
  obtain ⟨t, ht, rfl⟩ := c1
  have hgx : g < 4 := by omega
  obtain ⟨hg1, hgg⟩ := hg g hgx
  obtain ⟨og, gg4, gg5, ga, tr⟩ := id hgg
  obtain ⟨ot, tr1, tr2, tr3, tr4, ta1, ta2, ta3, ta4⟩ := id tr
  obtain ⟨y0, y1, y2, y3, y4, y5, y6⟩ := R.2.1.2.2.2.2 g hgv
  obtain ⟨e, e15, e0, ee, ew, ec, tw, h6, tok, sets⟩ := R.gate hgv
  have md : mda (I 451) g (vQ (I 451)) (vT (I 451)) (qcW (I 451)) (tyW (I 451)) (tlW (I 451)) (ctW (I 451) g) := R.1.1.mda t0 hgv
  have gE : gc 9 g = 9 + (8 + 7 * g) := rfl
  have t31 : t < 32 := by omega
  have p8 := two_le8 t8
  obtain ⟨l1, l2, l3, l4⟩ := lfA_sp q6 t31 tw.2.2.2 (by omega) (all_bit ht)
  obtain ⟨S', s1, s2, s3, s4, s5⟩ := sets _ l1
  generalize hP : rw5 (I 451) g 1 (lfA (rw5 (I 451) g 0) (rw5 (I 451) g 4) (nn t) e) = P
  generalize hl : lfA (rw5 (I 451) g 0) (rw5 (I 451) g 4) (nn t) e = l at *
  have tol : ∀ u, u < vT (I 451) → I (9 + 5) u = I 451 (60 + u * 9) := fun u hu => (R.2.1.2.2.1 u hu).2
  have yes : ∀ q, q < vQ (I 451) → I (9 + 3) q = nn (yse (vT (I 451)) (tyW (I 451)) q) := fun q hq => (R.2.1.2.1 q hq).2.2
  have ety : ∀ u, u < vT (I 451) → I 451 (60 + u * 9 + 1) = nn (tyW (I 451) u) ∧ tyW (I 451) u < 2 ^ vQ (I 451) := fun u hu => ⟨(R.1.1.2.2.2.2.2.1 u hu).2.2.1, (R.1.1.2.2.2.2.2.1 u hu).2.2.2.1⟩
  have q64 : 2 ^ vQ (I 451) ≤ 2 ^ 6 := Nat.pow_le_pow_right (by decide) q6
  have hToll : am_E m_X7_tollFor 269 0 0 [.ref (gc 9 g + 2), .int (nn t)] Γ I L (.inl (some (.int P))) I L := am_E_e (eX7_tollFor tr e15 e0 ec (nn t)) (by rw [R.lf h6, hl, ← hP]; exact (h6 _ l1).2.1) rfl
  have etw : twin I 9 (vQ (I 451)) t P (vT (I 451)) = decide (ffs (twq (I 451) t P) (vT (I 451)) < vT (I 451)) := by
    have e : ffs (twP I 9 (vQ (I 451)) t P) (vT (I 451)) = ffs (twq (I 451) t P) (vT (I 451)) := ffs_congr _ (fun u hu => by
      have lt := two_le8 t8
      have b1 : 2 ^ t < 2 ^ vT (I 451) := Nat.pow_lt_pow_right (by decide) ht
      have b2 : 2 ^ u < 2 ^ vT (I 451) := Nat.pow_lt_pow_right (by decide) hu
      have b3 : 2 ^ t ||| 2 ^ u < 2 ^ vT (I 451) := Nat.or_lt_two_pow b1 b2
      unfold twP twq
      rw [split_nn (by omega) yes, spl_two ht hu (ety t ht).2 (ety u hu).2, Bool.not_not, tol u hu, (ety t ht).1, (ety u hu).1, ← Bool.decide_and]
      refine decide_eq_decide.mpr ?_
      rw [nn_eq (by have := (ety t ht).2; omega) (by have := (ety u hu).2; omega)]
      exact ⟨fun z => ⟨fun q => z.1.1 q.symm, z.2, z.1.2⟩, fun z => ⟨⟨fun q => z.1 q.symm, z.2.2⟩, z.2.1⟩⟩)
    unfold twin
    rw [e]
  have hTwin : am_E m_X5_hasTwinWithToll 269 0 0 [.ref 9, .int (nn t), .int P] Γ I L (.inl (some (.int (bi (decide (ffs (twq (I 451) t P) (vT (I 451)) < vT (I 451))))))) I L := am_E_e (eX5_hasTwinWithToll st n0 q6 n1 t8 (by omega) P) (by rw [etw]) rfl
  have hLeaf : am_E m_X7_leafHolding 269 0 0 [.ref (gc 9 g + 2), .int (nn t)] Γ I L (.inl (some (.int (nn l)))) I L := am_E_e (eX7_leafHolding tr e15 ec (nn t)) (by rw [R.lf h6, hl]) rfl
  have hSpl : am_E m_X5_isSplittable 269 0 0 [.ref 9, .int (I (gc 9 g + 2 + 4) (nn l).toNatClampNeg)] Γ I L (.inl (some (.int (bi (spl (yse (vT (I 451)) (tyW (I 451))) S' (vQ (I 451))))))) I L := by
    rw [nn_nat (by omega), (h6 _ l1).2.2.2, s3]
    exact am_E_e (eX5_isSplittable st n0 q6 _) (by rw [split_nn (by omega) yes]) rfl
  have toW : I (9 + 5) (nn t).toNatClampNeg = I 451 (60 + t * 9) := by rw [nn_nat (by omega)]; exact tol t ht
  have mdJ : mda (am_u I 450 6 0 (450 + 1)) g (vQ (I 451)) (vT (I 451)) (qcW (I 451)) (tyW (I 451)) (tlW (I 451)) (ctW (I 451) g) := by rw [show am_u I 450 6 0 (450 + 1) = I 451 from hJ 0]; exact md
  have twJ : trW (am_u I 450 6 0 (450 + 1)) g (vQ (I 451)) (vT (I 451)) (tyW (I 451)) e := by rw [show am_u I 450 6 0 (450 + 1) = I 451 from hJ 0]; exact tw
  have hCh : am_E m_X9_charged 279 0 0 [.ref 450, .int (nn g), .int (nn t)] Γ (am_u I 450 6 0) L (.inl (some (.int P))) (am_u I 450 6 0) L := am_E_e (eX9_charged hm hgx mdJ twJ ht) (by rw [show am_u I 450 6 0 (450 + 1) = I 451 from hJ 0, hl, hP]) rfl
  have hLf : am_E m_X9_leafFor 279 0 0 [.ref 450, .int (nn g), .int (nn t)] Γ (am_u I 450 6 0) L (.inl (some (.int (nn l)))) (am_u I 450 6 0) L := am_E_e (eX9_leafFor hm hgx mdJ twJ ht) (by rw [show am_u I 450 6 0 (450 + 1) = I 451 from hJ 0, hl]) rfl
  have hNd : am_E m_X9_ofNode 279 0 0 [.ref 450, .int (nn g), .int (nn l), .int 4] Γ (am_u I 450 6 0) L (.inl (some (.int (nn S')))) (am_u I 450 6 0) L := am_E_e (eX9_ofNode (k := 4) hm hgx (by omega) (by decide)) (by rw [show am_u I 450 6 0 (450 + 1) = I 451 from hJ 0]; exact s3) rfl
  obtain ⟨V, hV0, hV1, hV2, hV3⟩ : ∃ V : Int32, (P = I 451 (60 + t * 9) → V = 0) ∧ (¬ P = I 451 (60 + t * 9) → ffs (twq (I 451) t P) (vT (I 451)) < vT (I 451) → V = 1) ∧ (¬ P = I 451 (60 + t * 9) → ¬ ffs (twq (I 451) t P) (vT (I 451)) < vT (I 451) → spl (yse (vT (I 451)) (tyW (I 451))) S' (vQ (I 451)) = true → V = 2) ∧ (¬ P = I 451 (60 + t * 9) → ¬ ffs (twq (I 451) t P) (vT (I 451)) < vT (I 451) → spl (yse (vT (I 451)) (tyW (I 451))) S' (vQ (I 451)) = false → V = 3) :=
    ⟨if P = I 451 (60 + t * 9) then 0 else if ffs (twq (I 451) t P) (vT (I 451)) < vT (I 451) then 1 else if spl (yse (vT (I 451)) (tyW (I 451))) S' (vQ (I 451)) = true then 2 else 3, fun h => by rw [if_pos h], fun h h2 => by rw [if_neg h, if_pos h2], fun h h2 h3 => by rw [if_neg h, if_neg h2, if_pos h3], fun h h2 h3 => by rw [if_neg h, if_neg h2, if_neg (by rw [h3]; decide)]⟩
  refine ⟨I, L, am_u I 450 6 0, .inl (some (.int V)), V, am_ofE rfl rfl rfl (Nat.le_of_ble_eq_true rfl) ?_, am_ofE rfl rfl rfl (Nat.le_of_ble_eq_true rfl) ?_, R.thr 0, Or.inl ⟨rfl, by rw [am_u_at, if_pos ⟨rfl, rfl⟩]⟩⟩
  · refine bX8_mischargeReason_0 (by assumption) (Nat.zero_le _) (Nat.zero_le _) (eX8_requireGate_t (mc := 0) (ms := 0) hF n2 hgv (by omega)) ?_
    refine bX8_mischargeReason_5 (by assumption) (Nat.zero_le _) (Nat.zero_le _) (eX8_requireType_t (mc := 0) (ms := 0) hF n1 ht (by omega)) ?_
    refine bX8_mischargeReason_10 (by assumption) (by first | assumption | (rw [nn_nat (by omega)]; exact hg1)) (by assumption) (by first | assumption | (rw [nn_nat (by omega)]; exact hg1)) (by assumption) (nn_in (by omega) (by omega)) (by first | assumption | (rw [nn_nat (by omega)]; exact hg1)) (by assumption) (by first | assumption | (rw [nn_nat (by omega)]; exact hg1)) (by assumption) (Nat.zero_le _) (Nat.zero_le _) (hToll) ?_
    refine bX8_mischargeReason_28 (by assumption) (by assumption) (by assumption) (by assumption) (by assumption) (nn_in (by omega) (by omega)) (fun h28 => ?_) (fun h28 => ?_)
    · refine bX8_mischargeReason_46 (by assumption) (by assumption) (by assumption) (Nat.zero_le _) (Nat.zero_le _) (hTwin) ?_
      refine bX8_mischargeReason_56 (fun h56 => ?_) (fun h56 => ?_)
      · refine bX8_mischargeReason_61 (by assumption) (by assumption) (by assumption) (by assumption) (Nat.zero_le _) (Nat.zero_le _) (hLeaf) ?_
        refine bX8_mischargeReason_74 (by assumption) (nn_in (by omega) (by omega)) (by assumption) (Nat.zero_le _) (Nat.zero_le _) (hSpl) ?_
        refine bX8_mischargeReason_78 (fun h78 => ?_) (fun h78 => ?_)
        · refine bX8_mischargeReason_85 ?_
          refine bX8_mischargeReason_86 ?_
          exact am_R_e (hV3 (fun q => h28 (q.trans toW.symm)) (of_decide_eq_false (bi_z.mp h56)) (bi_z.mp h78)).symm rfl rfl
        · refine bX8_mischargeReason_81 ?_
          refine bX8_mischargeReason_86 ?_
          exact am_R_e (hV2 (fun q => h28 (q.trans toW.symm)) (of_decide_eq_false (bi_z.mp h56)) (bi_nz.mp h78)).symm rfl rfl
      · refine bX8_mischargeReason_59 ?_
        exact am_R_e (hV1 (fun q => h28 (q.trans toW.symm)) (of_decide_eq_true (bi_nz.mp h56))).symm rfl rfl
    · refine bX8_mischargeReason_44 ?_
      exact am_R_e (hV0 (h28.trans toW)).symm rfl rfl
  · refine bX9_mischargeReason_0 (by assumption) (Nat.zero_le _) (Nat.zero_le _) (eX9_noGate_t hm w2 hgv (by omega)) ?_
    refine bX9_mischargeReason_6 (fun h => absurd (by decide) h) (fun _ => ?_)
    refine bX9_mischargeReason_9 (by assumption) (Nat.zero_le _) (Nat.zero_le _) (eX9_noType_t hm w1 ht (by omega)) ?_
    refine bX9_mischargeReason_14 (fun _ => ?_) (fun h => absurd (by decide) h)
    refine bX9_mischargeReason_21 ?_
    refine bX9_mischargeReason_22 (by assumption) (Nat.zero_le _) (Nat.zero_le _) (eX9_fails0 hm) ?_
    refine bX9_mischargeReason_27 (fun _ => ?_) (fun h => absurd (by decide) h)
    refine bX9_mischargeReason_32 (by assumption) (Nat.zero_le _) (Nat.zero_le _) (hCh) ?_
    refine bX9_mischargeReason_38 (by assumption) (Nat.zero_le _) (Nat.zero_le _) (eX9_ofType (k := 0) hm (by omega) (by decide)) ?_
    refine bX9_mischargeReason_46 (fun h46 => ?_) (fun h46 => ?_)
    · have h46' : ¬ P = I 451 (60 + t * 9) := fun q => h46 (q.trans (by rw [show am_u I 450 6 0 (450 + 1) = I 451 from hJ 0]; rfl))
      refine bX9_mischargeReason_51 ?_
      refine nn_loop (fun k => (∀ i, i < k → twq (I 451) t P i = false) → am_W m_X9_mischargeReason 280 0 0 false 0 0 54 [(0, .ref 450), (1, .int (nn g)), (2, .int (nn t)), (3, .int P), (4, .int (nn k))] [] Γ (am_u I 450 6 0) L (am_R (.inl (some (.int V))) (am_u I 450 6 0) L)) (vT (I 451)) (fun hk => ?_) (fun k hk ih h0 => ?_) (fun i hi => absurd hi (Nat.not_lt_zero i))
      · refine bX9_mischargeReason_54 mo r0 a1 (nn_in (k := 1) (by decide) (by decide)) (fun _ => ?_) (fun h => absurd (Int32.le_of_eq (show am_u I 450 6 0 451 1 = nn (vT (I 451)) by rw [hJ 0]; exact w1)) h)
        have nt : ¬ ffs (twq (I 451) t P) (vT (I 451)) < vT (I 451) := by rw [ffs_none hk]; omega
        refine bX9_mischargeReason_84 (by assumption) (Nat.zero_le _) (Nat.zero_le _) (hLf) ?_
        refine bX9_mischargeReason_93 (by assumption) (Nat.zero_le _) (Nat.zero_le _) (hNd) ?_
        refine bX9_mischargeReason_97 (by assumption) (Nat.zero_le _) (Nat.zero_le _) (eX9_canSplit hm mdJ (by omega)) ?_
        refine bX9_mischargeReason_100 (fun h100 => ?_) (fun h100 => ?_)
        · refine bX9_mischargeReason_107 ?_
          refine bX9_mischargeReason_108 ?_
          exact am_R_e (hV3 h46' nt (bi_z.mp h100)).symm rfl rfl
        · refine bX9_mischargeReason_103 ?_
          refine bX9_mischargeReason_108 ?_
          exact am_R_e (hV2 h46' nt (bi_nz.mp h100)).symm rfl rfl
      · refine bX9_mischargeReason_54 mo r0 a1 (nn_in (k := 1) (by decide) (by decide)) (fun h => absurd h (by show ¬ am_u I 450 6 0 451 1 ≤ nn k; rw [hJ 0, w1, nn_le (by omega) (by omega)]; omega)) (fun _ => ?_)
        refine bX9_mischargeReason_65 mo (Nat.zero_le _) (Nat.zero_le _) (eX9_isTwin hm (by omega) (by omega) P) ?_
        rw [show am_u I 450 6 0 (450 + 1) = I 451 from hJ 0]
        refine bX9_mischargeReason_73 (fun h => ?_) (fun h => ?_)
        · refine bX9_mischargeReason_78 ?_
          rw [nn_s1]
          refine ih (fun i hi => ?_)
          by_cases hi2 : i < k
          · exact h0 i hi2
          · obtain rfl : i = k := by omega
            exact bi_z.mp h
        · refine bX9_mischargeReason_76 ?_
          exact am_R_e (hV1 h46' (ffs_lt ⟨k, hk, bi_nz.mp h⟩)).symm rfl rfl
    · refine bX9_mischargeReason_49 ?_
      exact am_R_e (hV0 (h46.trans (by rw [show am_u I 450 6 0 (450 + 1) = I 451 from hJ 0]; rfl))).symm rfl rfl
end F8
