/-! CLASS AND MODEL SIDE BY SIDE: what disagrees; shares and means -/
def ab32 (a : Int32) : Int32 := if 0 ≤ a then a else 0 - a
def icA (w : Nat → Int32) : Int32 := ab32 (w 6 - w 7 - w 10 + w 11)
def icF (w : Nat → Int32) (g : Nat) : Int32 := ab32 (mWrk w g (vT w) (teW w g) - wbM w g (teW w g) (vT w))
/-- one call on either side that answers a double -/
def gXd (Γ : am_G) (I : am_I) (L : am_L) (mC mM : am_M) (as : List Value) (exs : List String) : Prop := ∃ (I1 : am_I) (L1 : am_L) (I2 : am_I) (o : am_O) (v : UInt64), am_E mC 270 1 6 (.ref 0 :: as) Γ I L o I1 L1 ∧ am_E mM 280 0 0 (.ref 450 :: as) Γ I1 L1 (.inl (some (.double v))) I2 L1 ∧ REL I2 L1 ∧
  (v = FP.dconst0 ∨ ∃ a b : Int32, b ≠ 0 ∧ v = FP.ddiv (FP.i2d a) (FP.i2d b)) ∧
  ((o = .inl (some (.double v)) ∧ I2 450 6 = 0) ∨ ∃ i E, exs[i]? = some E ∧ o = .inr E ∧ I2 450 6 = nn (i + 1))
/-- one call on either side that answers a float -/
def gXf (Γ : am_G) (I : am_I) (L : am_L) (mC mM : am_M) (as : List Value) : Prop := ∃ (I2 : am_I) (v : UInt32), am_E mC 270 1 6 (.ref 0 :: as) Γ I L (.inl (some (.float v))) I L ∧ am_E mM 280 0 0 (.ref 450 :: as) Γ I L (.inl (some (.float v))) I2 L ∧ REL I2 L ∧
  (v = FP.fconst1 ∨ ∃ a b : Int32, b ≠ 0 ∧ v = FP.fdiv (FP.i2f a) (FP.i2f b)) ∧ I2 450 6 = 0
section F11
variable {d mc ms : Nat} {Γ : am_G} {I : am_I} {L : am_L} {m : Nat}
theorem fX_inconsistencies (hF : wF Γ) (R : REL I L) : gX Γ I L m_X8_inconsistencies m_X9_inconsistencies [] [] := by
  obtain ⟨⟨o, f0, f1, f2, f3, f4, f5, f6, f7⟩, so, st, dr, ⟨ro, rr0, rr5, rr6, ra⟩, hi, sv, ⟨oo, or0, or2, oa, oa2⟩, hm, am, am2⟩ := id hF
  obtain ⟨ob, s4, s5, s6, s7, s8, s9, s10, b1, b2, b3, b4, b5, b6, o7, hg⟩ := id st
  obtain ⟨mo, r0, r1, r2, r3, r4, r7, r8, r13, r14, r15, r16, r17, a1, a2, a3, a4, a5, a6, a7, a8, a9, a10, a11, a12⟩ := id hm
  obtain ⟨⟨n0, n1, n2, n3⟩, ⟨w0, w1, w2⟩, q6, t8, g4, q0, t0, g0⟩ := R.nums
  obtain ⟨ho83, hi1, hi2, hi3⟩ := id hi
  have hJ : ∀ v : Int32, am_u I 450 6 v (450 + 1) = I 451 := fun v => am_u_ne (by decide)
  have tot : ∀ j, j < 8 → I 16 j = I 451 (4 + j) := R.2.1.2.2.2.1
  have eA : ab32 (I 16 2 - I 16 3 - I 16 6 + I 16 7) = icA (I 451) := by unfold icA; rw [tot 2 (by decide), tot 3 (by decide), tot 6 (by decide), tot 7 (by decide)]
  refine ⟨I, L, am_u I 450 6 0, .inl (some (.int (iac (icA (I 451)) (icF (I 451)) (vG (I 451))))), iac (icA (I 451)) (icF (I 451)) (vG (I 451)), am_ofE rfl rfl rfl (Nat.le_of_ble_eq_true rfl) ?_, am_ofE rfl rfl rfl (Nat.le_of_ble_eq_true rfl) ?_, R.thr 0, Or.inl ⟨rfl, by rw [am_u_at, if_pos ⟨rfl, rfl⟩]⟩⟩
  · refine bX8_inconsistencies_0 o f1 ob (by assumption) o7 ?_
    have loop := nn_loop (fun g => am_W m_X8_inconsistencies 270 1 6 false 1 6 33 [(0, .ref 0), (1, .ref 16), (2, .int (iac (icA (I 451)) (icF (I 451)) g)), (3, .int (nn g))] [] Γ I L (am_R (.inl (some (.int (iac (icA (I 451)) (icF (I 451)) (vG (I 451)))))) I L)) (vG (I 451)) ?_ (fun g hgv ih => ?_)
    · refine aw_els loop ?_
      rw [← eA]
      rfl
    · refine bX8_inconsistencies_33 o f1 ob (fun _ => ?_) (fun h => absurd (Int32.le_of_eq n2) h)
      refine bX8_inconsistencies_91 ?_
      exact ⟨rfl, rfl, rfl⟩
    ·
      have hgx : g < 4 := by omega
      obtain ⟨hg1, hgg⟩ := hg g hgx
      obtain ⟨og, gg4, gg5, ga, tr⟩ := id hgg
      obtain ⟨ot, tr1, tr2, tr3, tr4, ta1, ta2, ta3, ta4⟩ := id tr
      obtain ⟨y0, y1, y2, y3, y4, y5, y6⟩ := R.2.1.2.2.2.2 g hgv
      obtain ⟨e, e15, e0, ee, ew, ec, tw, h6, tok, sets⟩ := R.gate hgv
      have md : mda (I 451) g (vQ (I 451)) (vT (I 451)) (qcW (I 451)) (tyW (I 451)) (tlW (I 451)) (ctW (I 451) g) := R.1.1.mda t0 hgv
      have gE : gc 9 g = 9 + (8 + 7 * g) := rfl
      have hWrk : am_E m_X5_workNow 269 0 0 [.ref 9, .int (nn g)] Γ I L (.inl (some (.int (mWrk (I 451) g (vT (I 451)) (teW (I 451) g))))) I L := am_E_e (eX5_workNow st hgx e15 ec tok) (by rw [R.wrk hgv ee h6, ee]) rfl
      have hWbt : am_E m_X5_workByTypes 269 0 0 [.ref 9, .int (nn g)] Γ I L (.inl (some (.int (wbM (I 451) g (teW (I 451) g) (vT (I 451)))))) I L := am_E_e (eX5_workByTypes st hgx e15 ec tok n1 t8) (fsum_congr _ (fun t ht => by rw [y4 t ht, R.wc hgv ee h6, ee])) rfl
      have hEm : am_E m_X7_emptyLeaves 269 0 0 [.ref (gc 9 g + 2)] Γ I L (.inl (some (.int 0))) I L := am_E_e (eX7_emptyLeaves tr e15 ec) (fsum_z (n := 0) (Nat.zero_le _) (fun n _ hn => by
        obtain ⟨S', s1, s2, s3, s4, s5⟩ := sets n hn
        have := two_le8 t8
        rw [(h6 n hn).2.2.2, s3]
        exact if_neg (fun z => s1 ((nn_eq (b := 0) (by omega) (by decide)).mp z.2)))) rfl
      refine bX8_inconsistencies_33 o f1 ob (fun h => absurd h (by rw [n2, nn_le (by omega) (by omega)]; omega)) (fun _ => ?_)
      refine bX8_inconsistencies_44 o f1 ob (Nat.zero_le _) (Nat.zero_le _) hWrk ?_
      refine bX8_inconsistencies_53 o f1 ob (Nat.zero_le _) (Nat.zero_le _) hWbt ?_
      refine bX8_inconsistencies_61 o f1 ob s9 b6 (nn_in (by omega) (by omega)) (by rw [nn_nat (by omega)]; exact hg1) og gg5 ot (Nat.zero_le _) (Nat.zero_le _) hEm ?_
      refine bX8_inconsistencies_83 ?_
      rw [nn_s1, Int32.add_zero]
      exact ih
  · refine bX9_inconsistencies_0 mo r0 a1 (nn_in (k := 6) (by decide) (by decide)) (nn_in (k := 7) (by decide) (by decide)) (nn_in (k := 10) (by decide) (by decide)) (nn_in (k := 11) (by decide) (by decide)) ?_
    have loop := nn_loop (fun g => am_W m_X9_inconsistencies 280 0 0 false 0 0 42 [(0, .ref 450), (1, .int (iac (icA (I 451)) (icF (I 451)) g)), (2, .int (nn g))] [] Γ (am_u I 450 6 0) L (am_R (.inl (some (.int (iac (icA (I 451)) (icF (I 451)) (vG (I 451)))))) (am_u I 450 6 0) L)) (vG (I 451)) ?_ (fun g hgv ih => ?_)
    · refine aw_els loop ?_
      rw [hJ]
      rfl
    · refine bX9_inconsistencies_42 mo r0 a1 (nn_in (k := 2) (by decide) (by decide)) (fun _ => ?_) (fun h => absurd (Int32.le_of_eq (show am_u I 450 6 0 (450 + 1) 2 = nn (vG (I 451)) by rw [hJ]; exact w2)) h)
      refine bX9_inconsistencies_117 ?_
      exact ⟨rfl, rfl, rfl⟩
    · have hgx : g < 4 := by omega
      have md3 : mda (am_u I 450 6 0 (450 + 1)) g (vQ (I 451)) (vT (I 451)) (qcW (I 451)) (tyW (I 451)) (tlW (I 451)) (ctW (I 451) g) := by rw [hJ]; exact R.1.1.mda t0 hgv
      have tw3 : trW (am_u I 450 6 0 (450 + 1)) g (vQ (I 451)) (vT (I 451)) (tyW (I 451)) (teW (I 451) g) := by rw [hJ]; exact R.1.1.tr hgv
      refine bX9_inconsistencies_42 mo r0 a1 (nn_in (k := 2) (by decide) (by decide)) (fun h => absurd h (by show ¬ am_u I 450 6 0 (450 + 1) 2 ≤ nn g; rw [hJ, w2, nn_le (by omega) (by omega)]; omega)) (fun _ => ?_)
      refine bX9_inconsistencies_52 ?_
      have inner := nn_loop (fun t => am_W m_X9_inconsistencies 280 0 0 false 0 0 57 [(0, .ref 450), (1, .int (iac (icA (I 451)) (icF (I 451)) g)), (2, .int (nn g)), (3, .int (wbM (I 451) g (teW (I 451) g) t)), (4, .int (nn t))] [] Γ (am_u I 450 6 0) L (am_R (.inl (some (.int (iac (icA (I 451)) (icF (I 451)) (vG (I 451)))))) (am_u I 450 6 0) L)) (vT (I 451)) ?_ (fun t ht iht => ?_)
      · exact inner
      · refine bX9_inconsistencies_57 mo r0 a1 (nn_in (k := 1) (by decide) (by decide)) (fun _ => ?_) (fun h => absurd (Int32.le_of_eq (show am_u I 450 6 0 (450 + 1) 1 = nn (vT (I 451)) by rw [hJ]; exact w1)) h)
        have hWrk : am_E m_X9_workOf 279 0 0 [.ref 450, .int (nn g)] Γ (am_u I 450 6 0) L (.inl (some (.int (mWrk (I 451) g (vT (I 451)) (teW (I 451) g))))) (am_u I 450 6 0) L := am_E_e (eX9_workOf hm hgx md3 tw3) (by rw [hJ]) rfl
        refine bX9_inconsistencies_92 mo (Nat.zero_le _) (Nat.zero_le _) hWrk ?_
        refine bX9_inconsistencies_98 mo (Nat.zero_le _) (Nat.zero_le _) (eX9_bareLeaves hm hgx md3 tw3) ?_
        refine bX9_inconsistencies_108 ?_
        refine aw_take 3 ?_
        rw [Int32.add_zero, nn_s1]
        exact ih
      · refine bX9_inconsistencies_57 mo r0 a1 (nn_in (k := 1) (by decide) (by decide)) (fun h => absurd h (by show ¬ am_u I 450 6 0 (450 + 1) 1 ≤ nn t; rw [hJ, w1, nn_le (by omega) (by omega)]; omega)) (fun _ => ?_)
        refine bX9_inconsistencies_68 mo (Nat.zero_le _) (Nat.zero_le _) (am_E_e (w := I 451 (132 + g * 94 + (10 + t))) (eX9_count hm hgx (by omega)) (by rw [hJ]) rfl) ?_
        refine bX9_inconsistencies_76 mo (Nat.zero_le _) (Nat.zero_le _) (am_E_e (w := wcA (rw5 (I 451) g 0) (rw5 (I 451) g 4) (csW (I 451)) (nn t) (teW (I 451) g)) (eX9_wayCost hm hgx md3 tw3 ht) (by rw [hJ]) rfl) ?_
        refine bX9_inconsistencies_83 ?_
        rw [nn_s1]
        exact iht
theorem fX_correctShare (hF : wF Γ) (R : REL I L) : gXf Γ I L m_X8_correctShare m_X9_correctShare [] := by
  obtain ⟨⟨o, f0, f1, f2, f3, f4, f5, f6, f7⟩, so, st, dr, ⟨ro, rr0, rr5, rr6, ra⟩, hi, sv, ⟨oo, or0, or2, oa, oa2⟩, hm, am, am2⟩ := id hF
  obtain ⟨ob, s4, s5, s6, s7, s8, s9, s10, b1, b2, b3, b4, b5, b6, o7, hg⟩ := id st
  obtain ⟨mo, r0, r1, r2, r3, r4, r7, r8, r13, r14, r15, r16, r17, a1, a2, a3, a4, a5, a6, a7, a8, a9, a10, a11, a12⟩ := id hm
  obtain ⟨⟨n0, n1, n2, n3⟩, ⟨w0, w1, w2⟩, q6, t8, g4, q0, t0, g0⟩ := R.nums
  obtain ⟨ho83, hi1, hi2, hi3⟩ := id hi
  have hJ : ∀ v : Int32, am_u I 450 6 v (450 + 1) = I 451 := fun v => am_u_ne (by decide)
  have tot : ∀ j, j < 8 → I 16 j = I 451 (4 + j) := R.2.1.2.2.2.1
  have e0 : am_u I 450 6 0 (450 + 1) (4 : Int32).toNatClampNeg = I 16 0 := by rw [hJ, tot 0 (by decide)]; rfl
  have e4 : am_u I 450 6 0 (450 + 1) (8 : Int32).toNatClampNeg = I 16 4 := by rw [hJ, tot 4 (by decide)]; rfl
  have e5 : am_u I 450 6 0 (450 + 1) (9 : Int32).toNatClampNeg = I 16 5 := by rw [hJ, tot 5 (by decide)]; rfl
  by_cases hz : I 16 0 = 0
  · refine ⟨am_u I 450 6 0, FP.fconst1, am_ofE rfl rfl rfl (Nat.le_of_ble_eq_true rfl) ?_, am_ofE rfl rfl rfl (Nat.le_of_ble_eq_true rfl) ?_, R.thr 0, Or.inl rfl, by rw [am_u_at, if_pos ⟨rfl, rfl⟩]⟩
    · refine bX8_correctShare_0 o f1 ob (by assumption) o7 (fun h => absurd hz h) (fun _ => ?_)
      refine bX8_correctShare_15 ?_
      exact ⟨rfl, rfl, rfl⟩
    · refine bX9_correctShare_0 mo r0 a1 (nn_in (k := 4) (by decide) (by decide)) (fun h => absurd (e0.trans hz) h) (fun _ => ?_)
      refine bX9_correctShare_14 ?_
      refine bX9_correctShare_49 ?_
      exact ⟨rfl, rfl, rfl⟩
  · refine ⟨am_u I 450 6 0, FP.fdiv (FP.i2f (I 16 0 - I 16 4 - I 16 5)) (FP.i2f (I 16 0)), am_ofE rfl rfl rfl (Nat.le_of_ble_eq_true rfl) ?_, am_ofE rfl rfl rfl (Nat.le_of_ble_eq_true rfl) ?_, R.thr 0, Or.inr ⟨_, _, hz, rfl⟩, by rw [am_u_at, if_pos ⟨rfl, rfl⟩]⟩
    · refine bX8_correctShare_0 o f1 ob (by assumption) o7 (fun _ => ?_) (fun h => absurd h hz)
      refine bX8_correctShare_17 o7 (fp_f _ hz) ?_
      exact ⟨rfl, rfl, rfl⟩
    · refine bX9_correctShare_0 mo r0 a1 (nn_in (k := 4) (by decide) (by decide)) (fun _ => ?_) (fun h => absurd (e0.symm.trans h) hz)
      refine bX9_correctShare_18 mo r0 a1 (nn_in (k := 4) (by decide) (by decide)) (nn_in (k := 8) (by decide) (by decide)) (nn_in (k := 9) (by decide) (by decide)) (fp_f _ (by rw [show am_u I 450 6 0 (450 + 1) (4 : Int32).toNatClampNeg = I 16 0 from e0]; exact hz)) ?_
      refine bX9_correctShare_49 ?_
      rw [show am_u I 450 6 0 (450 + 1) (4 : Int32).toNatClampNeg = I 16 0 from e0, show am_u I 450 6 0 (450 + 1) (8 : Int32).toNatClampNeg = I 16 4 from e4, show am_u I 450 6 0 (450 + 1) (9 : Int32).toNatClampNeg = I 16 5 from e5]
      exact ⟨rfl, rfl, rfl⟩
theorem fX_meanPathCost (hF : wF Γ) (R : REL I L) (p0 : Int32) : gXd Γ I L m_X8_meanPathCost m_X9_meanPathCost [.int p0] ["java/lang/IndexOutOfBoundsException"] := by
  obtain ⟨⟨o, f0, f1, f2, f3, f4, f5, f6, f7⟩, so, st, dr, ⟨ro, rr0, rr5, rr6, ra⟩, hi, sv, ⟨oo, or0, or2, oa, oa2⟩, hm, am, am2⟩ := id hF
  obtain ⟨ob, s4, s5, s6, s7, s8, s9, s10, b1, b2, b3, b4, b5, b6, o7, hg⟩ := id st
  obtain ⟨mo, r0, r1, r2, r3, r4, r7, r8, r13, r14, r15, r16, r17, a1, a2, a3, a4, a5, a6, a7, a8, a9, a10, a11, a12⟩ := id hm
  obtain ⟨⟨n0, n1, n2, n3⟩, ⟨w0, w1, w2⟩, q6, t8, g4, q0, t0, g0⟩ := R.nums
  obtain ⟨ho83, hi1, hi2, hi3⟩ := id hi
  have hJ : ∀ v : Int32, am_u I 450 6 v (450 + 1) = I 451 := fun v => am_u_ne (by decide)
  by_cases c0 : ∃ t, t < vG (I 451) ∧ p0 = nn t
  case neg =>
    refine ⟨I, L, am_u I 450 6 1, .inr "java/lang/IndexOutOfBoundsException", FP.dconst0, am_ofE rfl rfl rfl (Nat.le_of_ble_eq_true rfl) ?_, am_ofE rfl rfl rfl (Nat.le_of_ble_eq_true rfl) ?_, R.thr 1, Or.inl rfl, Or.inr ⟨0, _, rfl, rfl, by rw [am_u_at, if_pos ⟨rfl, rfl⟩]; rfl⟩⟩
    · refine bX8_meanPathCost_0x (by assumption) (by decide) (by decide) (eX8_requireGate_f hF n2 c0 (by omega)) ?_
      exact ⟨rfl, rfl, rfl⟩
    · refine bX9_meanPathCost_0 (by assumption) (Nat.zero_le _) (Nat.zero_le _) (eX9_noGate_f hm w2 c0 (by omega)) ?_
      refine bX9_meanPathCost_6 (by assumption) (Nat.zero_le _) (Nat.zero_le _) (eX9_fails1 hm) ?_
      refine bX9_meanPathCost_11 (fun h => absurd h (by decide)) (fun _ => ?_)
      refine bX9_meanPathCost_14 ?_
      exact ⟨rfl, rfl, rfl⟩
  obtain ⟨g, hgv, rfl⟩ := c0
  have hgx : g < 4 := by omega
  obtain ⟨hg1, hgg⟩ := hg g hgx
  obtain ⟨og, gg4, gg5, ga, tr⟩ := id hgg
  obtain ⟨ot, tr1, tr2, tr3, tr4, ta1, ta2, ta3, ta4⟩ := id tr
  obtain ⟨y0, y1, y2, y3, y4, y5, y6⟩ := R.2.1.2.2.2.2 g hgv
  obtain ⟨e, e15, e0, ee, ew, ec, tw, h6, tok, sets⟩ := R.gate hgv
  have md : mda (I 451) g (vQ (I 451)) (vT (I 451)) (qcW (I 451)) (tyW (I 451)) (tlW (I 451)) (ctW (I 451) g) := R.1.1.mda t0 hgv
  have gE : gc 9 g = 9 + (8 + 7 * g) := rfl
  have p8 := two_le8 t8
  have pp : 0 < 2 ^ vT (I 451) := Nat.pow_pos (by decide)
  have md3 : mda (am_u I 450 6 0 (450 + 1)) g (vQ (I 451)) (vT (I 451)) (qcW (I 451)) (tyW (I 451)) (tlW (I 451)) (ctW (I 451) g) := by rw [hJ]; exact R.1.1.mda t0 hgv
  have tw3 : trW (am_u I 450 6 0 (450 + 1)) g (vQ (I 451)) (vT (I 451)) (tyW (I 451)) (teW (I 451) g) := by rw [hJ]; exact R.1.1.tr hgv
  have hWt : am_E m_X0_weight 269 0 0 [.ref (gc 9 g), .int (nn (2 ^ vT (I 451) - 1))] Γ I L (.inl (some (.int (mCnt (I 451) g (vT (I 451)))))) I L := am_E_e (eX0_weight hgg _) (by rw [wgt_m (g := g) (w := I 451) t8 (by omega) y4, mWgt_all t8]) rfl
  have hWrk : am_E m_X5_workNow 269 0 0 [.ref 9, .int (nn g)] Γ I L (.inl (some (.int (mWrk (I 451) g (vT (I 451)) (teW (I 451) g))))) I L := am_E_e (eX5_workNow st hgx e15 ec tok) (by rw [R.wrk hgv ee h6, ee]) rfl
  have hCt : am_E m_X9_counts 279 0 0 [.ref 450, .int (nn g)] Γ (am_u I 450 6 0) L (.inl (some (.int (mCnt (I 451) g (vT (I 451)))))) (am_u I 450 6 0) L := am_E_e (eX9_counts (T := vT (I 451)) hm hgx (by rw [hJ]; exact w1) t8) (by rw [hJ]) rfl
  have hWm : am_E m_X9_workOf 279 0 0 [.ref 450, .int (nn g)] Γ (am_u I 450 6 0) L (.inl (some (.int (mWrk (I 451) g (vT (I 451)) (teW (I 451) g))))) (am_u I 450 6 0) L := am_E_e (eX9_workOf hm hgx md3 tw3) (by rw [hJ]) rfl
  generalize mCnt (I 451) g (vT (I 451)) = C at *
  generalize mWrk (I 451) g (vT (I 451)) (teW (I 451) g) = W at *
  by_cases hz : C = 0
  · refine ⟨I, L, am_u I 450 6 0, .inl (some (.double FP.dconst0)), FP.dconst0, am_ofE rfl rfl rfl (Nat.le_of_ble_eq_true rfl) ?_, am_ofE rfl rfl rfl (Nat.le_of_ble_eq_true rfl) ?_, R.thr 0, Or.inl rfl, Or.inl ⟨rfl, by rw [am_u_at, if_pos ⟨rfl, rfl⟩]⟩⟩
    · refine bX8_meanPathCost_0 (by assumption) (Nat.zero_le _) (Nat.zero_le _) (eX8_requireGate_t (mc := 0) (ms := 0) hF n2 hgv (by omega)) ?_
      refine bX8_meanPathCost_5 (by assumption) (by first | assumption | (rw [nn_nat (by omega)]; exact hg1)) (by assumption) (by first | assumption | (rw [nn_nat (by omega)]; exact hg1)) (by assumption) (nn_in (by omega) (by omega)) (by first | assumption | (rw [nn_nat (by omega)]; exact hg1)) (Nat.zero_le _) (Nat.zero_le _) (eX5_allTypes st n1 t8) ?_
      refine bX8_meanPathCost_21 hgg.1 (Nat.zero_le _) (Nat.zero_le _) (hWt) ?_
      refine bX8_meanPathCost_24 (fun h => absurd hz h) (fun h24 => ?_)
      refine bX8_meanPathCost_29 ?_
      exact ⟨rfl, rfl, rfl⟩
    · refine bX9_meanPathCost_0 (by assumption) (Nat.zero_le _) (Nat.zero_le _) (eX9_noGate_t hm w2 hgv (by omega)) ?_
      refine bX9_meanPathCost_6 (by assumption) (Nat.zero_le _) (Nat.zero_le _) (eX9_fails0 hm) ?_
      refine bX9_meanPathCost_11 (fun _ => ?_) (fun h => absurd (by decide) h)
      refine bX9_meanPathCost_16 (by assumption) (Nat.zero_le _) (Nat.zero_le _) (hCt) ?_
      refine bX9_meanPathCost_21 (fun h => absurd hz h) (fun h21 => ?_)
      refine bX9_meanPathCost_24 ?_
      refine bX9_meanPathCost_41 ?_
      exact ⟨rfl, rfl, rfl⟩
  · refine ⟨I, L, am_u I 450 6 0, .inl (some (.double (FP.ddiv (FP.i2d W) (FP.i2d C)))), FP.ddiv (FP.i2d W) (FP.i2d C), am_ofE rfl rfl rfl (Nat.le_of_ble_eq_true rfl) ?_, am_ofE rfl rfl rfl (Nat.le_of_ble_eq_true rfl) ?_, R.thr 0, Or.inr ⟨_, _, hz, rfl⟩, Or.inl ⟨rfl, by rw [am_u_at, if_pos ⟨rfl, rfl⟩]⟩⟩
    · refine bX8_meanPathCost_0 (by assumption) (Nat.zero_le _) (Nat.zero_le _) (eX8_requireGate_t (mc := 0) (ms := 0) hF n2 hgv (by omega)) ?_
      refine bX8_meanPathCost_5 (by assumption) (by first | assumption | (rw [nn_nat (by omega)]; exact hg1)) (by assumption) (by first | assumption | (rw [nn_nat (by omega)]; exact hg1)) (by assumption) (nn_in (by omega) (by omega)) (by first | assumption | (rw [nn_nat (by omega)]; exact hg1)) (Nat.zero_le _) (Nat.zero_le _) (eX5_allTypes st n1 t8) ?_
      refine bX8_meanPathCost_21 hgg.1 (Nat.zero_le _) (Nat.zero_le _) (hWt) ?_
      refine bX8_meanPathCost_24 (fun h24 => ?_) (fun h => absurd h hz)
      refine bX8_meanPathCost_31 (by assumption) (by assumption) (by assumption) (Nat.zero_le _) (Nat.zero_le _) (hWrk) ?_
      refine bX8_meanPathCost_39 (fp_d _ hz) ?_
      exact ⟨rfl, rfl, rfl⟩
    · refine bX9_meanPathCost_0 (by assumption) (Nat.zero_le _) (Nat.zero_le _) (eX9_noGate_t hm w2 hgv (by omega)) ?_
      refine bX9_meanPathCost_6 (by assumption) (Nat.zero_le _) (Nat.zero_le _) (eX9_fails0 hm) ?_
      refine bX9_meanPathCost_11 (fun _ => ?_) (fun h => absurd (by decide) h)
      refine bX9_meanPathCost_16 (by assumption) (Nat.zero_le _) (Nat.zero_le _) (hCt) ?_
      refine bX9_meanPathCost_21 (fun h21 => ?_) (fun h => absurd h hz)
      refine bX9_meanPathCost_28 (by assumption) (Nat.zero_le _) (Nat.zero_le _) (hWm) ?_
      refine bX9_meanPathCost_33 (by assumption) (Nat.zero_le _) (Nat.zero_le _) (hCt) ?_
      refine bX9_meanPathCost_39 (fp_d _ hz) ?_
      refine bX9_meanPathCost_41 ?_
      exact ⟨rfl, rfl, rfl⟩
end F11
