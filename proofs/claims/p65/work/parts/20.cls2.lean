/-! CONTRACTS OF THE CLASS: what a station tells, totals -/
theorem lgc_eq {a b : Int64} : lg_cmp a b = 0 ↔ a = b := by
  unfold lg_cmp
  constructor
  · intro h
    by_cases h2 : a = b
    · exact h2
    · rw [if_neg h2] at h
      by_cases h1 : b < a
      · rw [if_pos h1] at h; exact absurd h (by decide)
      · rw [if_neg h1] at h; exact absurd h (by decide)
  · intro h
    subst h
    simp
section C2
variable {d : Nat} {Γ : am_G} {I : am_I} {L : am_L} {b : Nat}
theorem eX5_hourOfDay (hb : stF Γ b) : am_E m_X5_hourOfDay d 0 0 [.ref b] Γ I L (.inl (some (.int (I b 3 - I b 3 / 24 * 24)))) I L := by
  obtain ⟨o, -⟩ := hb
  refine am_ofE rfl rfl rfl (Nat.le_of_ble_eq_true rfl) ?_
  refine bX5_hourOfDay_0 (by assumption) ?_
  exact ⟨rfl, rfl, rfl⟩
theorem eX5_allTypes {T : Nat} (hb : stF Γ b) (hT : I b 1 = nn T) (h8 : T ≤ 8) : am_E m_X5_allTypes d 0 0 [.ref b] Γ I L (.inl (some (.int (nn (2 ^ T - 1))))) I L := by
  obtain ⟨o, -⟩ := hb
  refine am_ofE rfl rfl rfl (Nat.le_of_ble_eq_true rfl) ?_
  refine bX5_allTypes_0 (by assumption) ?_
  refine am_R_e ?_ rfl rfl
  rw [hT, nl_1, nn_shl (by omega), nn_sub (by rw [Nat.one_mul]; exact Nat.one_le_two_pow), Nat.one_mul]
def nOpen (I : am_I) (b : Nat) (h : Int32) : Nat → Int32 := fsum (fun g => bi (opens (I (gc b g) 1) (I (gc b g) 2) h))
theorem eX5_openGates {N : Nat} (hb : stF Γ b) (hG : I b 2 = nn N) (h4 : N ≤ 4) : am_E m_X5_openGates (d + 1) 0 0 [.ref b] Γ I L (.inl (some (.int (nOpen I b (I b 3 - I b 3 / 24 * 24) N)))) I L := by
  obtain ⟨o, r4, r5, r6, r7, r8, r9, r10, a1, a2, a3, a4, a5, a6, o7, hg⟩ := id hb
  refine am_ofE rfl rfl rfl (Nat.le_of_ble_eq_true rfl) ?_
  refine bX5_openGates_0 ?_
  refine nn_loop (fun k => am_W m_X5_openGates (d + 1) 0 0 false 0 0 4 [(0, .ref b), (1, .int (nOpen I b (I b 3 - I b 3 / 24 * 24) k)), (2, .int (nn k))] [] Γ I L (am_R (.inl (some (.int (nOpen I b (I b 3 - I b 3 / 24 * 24) N)))) I L)) N ?_ (fun k hk ih => ?_)
  · refine bX5_openGates_4 o (fun _ => ?_) (fun h => absurd h (by rw [hG]; simp))
    refine bX5_openGates_37 ?_
    exact ⟨rfl, rfl, rfl⟩
  · refine bX5_openGates_4 o (fun h => absurd h (by rw [hG, nn_le (by omega) (by omega)]; omega)) (fun _ => ?_)
    refine bX5_openGates_12 (by assumption) (by assumption) (by assumption) (nn_in (by omega) (by omega)) (by rw [nn_nat (by omega)]; exact (hg k (by omega)).1) (Nat.zero_le _) (Nat.zero_le _) (eX5_hourOfDay hb) ?_
    refine bX5_openGates_22 (hg k (by omega)).2.1 (Nat.zero_le _) (Nat.zero_le _) (eX0_opensAt (hg k (by omega)).2 _) ?_
    refine bX5_openGates_25 (fun h1 => ?_) (fun h1 => ?_)
    · refine bX5_openGates_31 ?_
      refine aw_els ih ?_
      show _ = [(0, Value.ref b), (1, .int (nOpen I b (I b 3 - I b 3 / 24 * 24) k + bi (opens (I (gc b k) 1) (I (gc b k) 2) (I b 3 - I b 3 / 24 * 24)))), (2, .int (nn (k + 1)))]
      rw [nl_1, nn_add, show bi (opens (I (gc b k) 1) (I (gc b k) 2) (I b 3 - I b 3 / 24 * 24)) = 0 from h1]
      simp
    · refine bX5_openGates_28 ?_
      refine bX5_openGates_31 ?_
      refine aw_els ih ?_
      show _ = [(0, Value.ref b), (1, .int (nOpen I b (I b 3 - I b 3 / 24 * 24) k + bi (opens (I (gc b k) 1) (I (gc b k) 2) (I b 3 - I b 3 / 24 * 24)))), (2, .int (nn (k + 1)))]
      rw [nl_1, nn_add, show opens (I (gc b k) 1) (I (gc b k) 2) (I b 3 - I b 3 / 24 * 24) = true from bi_nz.mp h1]
      rfl
/-- the first of n names that is nm, or -1 -/
def fName (L : am_L) (c : Nat) (nm : Int64) (n : Nat) : Int32 := let j := ffs (fun i => L c i == nm) n; if j < n then nn j else -1
theorem eX5_indexOfName {c len n : Nat} (hc : am_ar Γ c 4 len 0) (hn : n ≤ len) (hl : len < 100) (nm : Int64) : am_E m_X5_indexOfName d 0 0 [.ref c, .int (nn n), .long nm] Γ I L (.inl (some (.int (fName L c nm n)))) I L := by
  refine am_ofE rfl rfl rfl (Nat.le_of_ble_eq_true rfl) ?_
  refine bX5_indexOfName_0 ?_
  refine nn_loop (fun k => (∀ i, i < k → (L c i == nm) = false) → am_W m_X5_indexOfName d 0 0 false 0 0 3 [(0, .ref c), (1, .int (nn n)), (2, .long nm), (4, .int (nn k))] [] Γ I L (am_R (.inl (some (.int (fName L c nm n)))) I L)) n (fun hk => ?_) (fun k hk ih h0 => ?_) (fun i hi => absurd hi (Nat.not_lt_zero i))
  · refine bX5_indexOfName_3 (fun _ => ?_) (fun h => absurd h (by simp))
    refine bX5_indexOfName_34 ?_
    refine am_R_e ?_ rfl rfl
    unfold fName
    rw [ffs_none hk, if_neg (Nat.lt_irrefl n)]
  · refine bX5_indexOfName_3 (fun h => absurd h (by rw [nn_le (by omega) (by omega)]; omega)) (fun _ => ?_)
    refine bX5_indexOfName_9 hc (fun h => absurd h (by rw [nn_of, nn_le (by omega) (by omega)]; omega)) (fun _ => ?_)
    refine bX5_indexOfName_16 hc (nn_in (by omega) (by omega)) (fun h => ?_) (fun h => ?_)
    · rw [lgc_eq, nn_nat (by omega)] at h
      refine bX5_indexOfName_28 ?_
      refine aw_els (ih (fun i hi => ?_)) (by rw [nl_1, nn_add])
      by_cases hi2 : i < k
      · exact h0 i hi2
      · obtain rfl : i = k := by omega
        simpa using h
    · rw [lgc_eq, nn_nat (by omega)] at h
      refine bX5_indexOfName_25 ?_
      refine am_R_e ?_ rfl rfl
      unfold fName
      rw [ffs_eq h0 (by simpa using h) hk, if_pos hk]
theorem eX5_questionNamed {N : Nat} (hb : stF Γ b) (hN : I b 0 = nn N) (h6 : N ≤ 6) (nm : Int64) : am_E m_X5_questionNamed (d + 1) 0 0 [.ref b, .long nm] Γ I L (.inl (some (.int (fName L (b + 1) nm N)))) I L := by
  obtain ⟨o, r4, r5, r6, r7, r8, r9, r10, a1, a2, a3, a4, a5, a6, o7, hg⟩ := hb
  refine am_ofE rfl rfl rfl (Nat.le_of_ble_eq_true rfl) ?_
  refine bX5_questionNamed_0 (by assumption) (by assumption) (Nat.zero_le _) (Nat.zero_le _) (by rw [hN]; exact eX5_indexOfName a1 h6 (by decide) nm) ?_
  refine bX5_questionNamed_12 ?_
  exact ⟨rfl, rfl, rfl⟩
theorem eX5_typeNamed {N : Nat} (hb : stF Γ b) (hN : I b 1 = nn N) (h6 : N ≤ 8) (nm : Int64) : am_E m_X5_typeNamed (d + 1) 0 0 [.ref b, .long nm] Γ I L (.inl (some (.int (fName L (b + 4) nm N)))) I L := by
  obtain ⟨o, r4, r5, r6, r7, r8, r9, r10, a1, a2, a3, a4, a5, a6, o7, hg⟩ := hb
  refine am_ofE rfl rfl rfl (Nat.le_of_ble_eq_true rfl) ?_
  refine bX5_typeNamed_0 (by assumption) (by assumption) (Nat.zero_le _) (Nat.zero_le _) (by rw [hN]; exact eX5_indexOfName a4 h6 (by decide) nm) ?_
  refine bX5_typeNamed_12 ?_
  exact ⟨rfl, rfl, rfl⟩
def fGate (L : am_L) (b : Nat) (nm : Int64) (n : Nat) : Int32 := let j := ffs (fun g => L (gc b g) 0 == nm) n; if j < n then nn j else -1
theorem eX5_gateNamed {N : Nat} (hb : stF Γ b) (hN : I b 2 = nn N) (h6 : N ≤ 4) (nm : Int64) : am_E m_X5_gateNamed d 0 0 [.ref b, .long nm] Γ I L (.inl (some (.int (fGate L b nm N)))) I L := by
  obtain ⟨o, r4, r5, r6, r7, r8, r9, r10, a1, a2, a3, a4, a5, a6, o7, hg⟩ := hb
  refine am_ofE rfl rfl rfl (Nat.le_of_ble_eq_true rfl) ?_
  refine bX5_gateNamed_0 ?_
  refine nn_loop (fun k => (∀ i, i < k → (L (gc b i) 0 == nm) = false) → am_W m_X5_gateNamed d 0 0 false 0 0 2 [(0, .ref b), (1, .long nm), (3, .int (nn k))] [] Γ I L (am_R (.inl (some (.int (fGate L b nm N)))) I L)) N (fun hk => ?_) (fun k hk ih h0 => ?_) (fun i hi => absurd hi (Nat.not_lt_zero i))
  · refine bX5_gateNamed_2 o (fun _ => ?_) (fun h => absurd h (by rw [hN]; simp))
    refine bX5_gateNamed_32 ?_
    refine am_R_e ?_ rfl rfl
    unfold fGate
    rw [ffs_none hk, if_neg (Nat.lt_irrefl N)]
  · refine bX5_gateNamed_2 o (fun h => absurd h (by rw [hN, nn_le (by omega) (by omega)]; omega)) (fun _ => ?_)
    refine bX5_gateNamed_10 o r9 a6 (nn_in (by omega) (by omega)) (by rw [nn_nat (by omega)]; exact (hg k (by omega)).1) (hg k (by omega)).2.1 (fun h => ?_) (fun h => ?_)
    · rw [lgc_eq] at h
      refine bX5_gateNamed_26 ?_
      refine aw_els (ih (fun i hi => ?_)) (by rw [nl_1, nn_add])
      by_cases hi2 : i < k
      · exact h0 i hi2
      · obtain rfl : i = k := by omega
        simpa using h
    · rw [lgc_eq] at h
      refine bX5_gateNamed_24 ?_
      refine am_R_e ?_ rfl rfl
      unfold fGate
      rw [ffs_eq h0 (by simpa using h) hk, if_pos hk]
/-- the cost of the way of a type: a sum over the nodes of the tree at t that hold it -/
def pCost (I : am_I) (b t : Nat) (k : Int32) : Nat → Int32 := fsum (fun n => if I (t + 1) n ≠ -1 ∧ ib (I (t + 4) n) k = true then I (b + 2) (I (t + 1) n).toNatClampNeg else 0)
/-- the questions of a tree's nodes are questions -/
def tOK (I : am_I) (t N : Nat) : Prop := ∀ n, n < N → I (t + 1) n ≠ -1 → vp_in (I (t + 1) n) 6
theorem eX5_costOfPath {g N : Nat} (hb : stF Γ b) (hg4 : g < 4) (hN : N ≤ 15) (hs : I (gc b g + 2) 0 = nn N) (hq : tOK I (gc b g + 2) N) (k : Int32) : am_E m_X5_costOfPath (d + 1) 0 0 [.ref b, .int (nn g), .int k] Γ I L (.inl (some (.int (pCost I b (gc b g + 2) k N)))) I L := by
  obtain ⟨o, r4, r5, r6, r7, r8, r9, r10, a1, a2, a3, a4, a5, a6, o7, hg⟩ := id hb
  obtain ⟨hg1, og, g4, g5, gr, ot, t1, t2, t3, t4, ta1, ta2, ta3, ta4⟩ := hg g hg4
  refine am_ofE rfl rfl rfl (Nat.le_of_ble_eq_true rfl) ?_
  refine bX5_costOfPath_0 o r9 a6 (nn_in (by omega) (by omega)) (by rw [nn_nat (by omega)]; exact hg1) og g5 ?_
  refine nn_loop (fun j => am_W m_X5_costOfPath (d + 1) 0 0 false 0 0 16 [(0, .ref b), (1, .int (nn g)), (2, .int k), (3, .ref (gc b g + 2)), (4, .int (pCost I b (gc b g + 2) k j)), (5, .int (nn j))] [] Γ I L (am_R (.inl (some (.int (pCost I b (gc b g + 2) k N)))) I L)) N ?_ (fun j hj ih => ?_)
  · refine bX5_costOfPath_16 ot (fun _ => ?_) (fun h => absurd h (by rw [hs]; simp))
    refine bX5_costOfPath_73 ?_
    exact ⟨rfl, rfl, rfl⟩
  · refine bX5_costOfPath_16 ot (fun h => absurd h (by rw [hs, nn_le (by omega) (by omega)]; omega)) (fun _ => ?_)
    have e : ∀ v, pCost I b (gc b g + 2) k (j + 1) = v ↔ pCost I b (gc b g + 2) k j + (if I (gc b g + 2 + 1) j ≠ -1 ∧ ib (I (gc b g + 2 + 4) j) k = true then I (b + 2) (I (gc b g + 2 + 1) j).toNatClampNeg else 0) = v := fun v => Iff.rfl
    refine bX5_costOfPath_25 ot t1 ta1 (nn_in (by omega) (by omega)) (fun h => ?_) (fun h => ?_)
    · rw [nn_nat (by omega)] at h
      refine bX5_costOfPath_67 ?_
      refine aw_els ih ?_
      rw [(e _).mpr rfl, if_neg (fun z => z.1 h), nl_1, nn_add]
      simp
    · rw [nn_nat (by omega)] at h
      refine bX5_costOfPath_36 ot t4 ta4 (nn_in (by omega) (by omega)) (Nat.zero_le _) (Nat.zero_le _) (eX8_holds _ _) ?_
      rw [nn_nat (by omega)]
      refine bX5_costOfPath_47 (fun h2 => ?_) (fun h2 => ?_)
      · refine bX5_costOfPath_67 ?_
        refine aw_els ih ?_
        rw [(e _).mpr rfl, if_neg (fun z => by rw [bi_z] at h2; rw [h2] at z; exact absurd z.2 (by decide)), nl_1, nn_add]
        simp
      · refine bX5_costOfPath_50 o r5 ot t1 ta1 (nn_in (by omega) (by omega)) a2 (by rw [nn_nat (by omega)]; exact hq j hj h) ?_
        refine bX5_costOfPath_67 ?_
        refine aw_els ih ?_
        rw [(e _).mpr rfl, if_pos ⟨h, bi_nz.mp h2⟩, nl_1, nn_add, nn_nat (by omega)]
/-- the errors of a gate -/
def errN (I : am_I) (b g N : Nat) : Nat → Int32 := fsum (fun t => if I (gc b g + 2 + 2) (tLh I (gc b g + 2) (nn t) N) = I (b + 5) t then 0 else I (gc b g + 1) t)
theorem eX5_errorsNow {g N T : Nat} (hb : stF Γ b) (hg4 : g < 4) (hN : N ≤ 15) (h0 : 0 < N) (hs : I (gc b g + 2) 0 = nn N) (hT : I b 1 = nn T) (h8 : T ≤ 8) : am_E m_X5_errorsNow (d + 2) 0 0 [.ref b, .int (nn g)] Γ I L (.inl (some (.int (errN I b g N T)))) I L := by
  obtain ⟨o, r4, r5, r6, r7, r8, r9, r10, a1, a2, a3, a4, a5, a6, o7, hg⟩ := id hb
  obtain ⟨hg1, og, g4, g5, gr, tr⟩ := hg g hg4
  refine am_ofE rfl rfl rfl (Nat.le_of_ble_eq_true rfl) ?_
  refine bX5_errorsNow_0 ?_
  refine nn_loop (fun j => am_W m_X5_errorsNow (d + 2) 0 0 false 0 0 4 [(0, .ref b), (1, .int (nn g)), (2, .int (errN I b g N j)), (3, .int (nn j))] [] Γ I L (am_R (.inl (some (.int (errN I b g N T)))) I L)) T ?_ (fun j hj ih => ?_)
  · refine bX5_errorsNow_4 o (fun _ => ?_) (fun h => absurd h (by rw [hT]; simp))
    refine bX5_errorsNow_54 ?_
    exact ⟨rfl, rfl, rfl⟩
  · refine bX5_errorsNow_4 o (fun h => absurd h (by rw [hT, nn_le (by omega) (by omega)]; omega)) (fun _ => ?_)
    have e : ∀ v, errN I b g N (j + 1) = v ↔ errN I b g N j + (if I (gc b g + 2 + 2) (tLh I (gc b g + 2) (nn j) N) = I (b + 5) j then 0 else I (gc b g + 1) j) = v := fun v => Iff.rfl
    refine bX5_errorsNow_12 o r9 a6 (nn_in (by omega) (by omega)) (by rw [nn_nat (by omega)]; exact hg1) og g5 tr.1 (Nat.zero_le _) (Nat.zero_le _) (eX7_tollFor tr hN h0 hs _) ?_
    refine bX5_errorsNow_25 o r8 a5 (nn_in (by omega) (by omega)) (fun h => ?_) (fun h => ?_)
    · rw [nn_nat (by omega)] at h
      refine bX5_errorsNow_48 ?_
      refine aw_els ih ?_
      rw [(e _).mpr rfl, if_pos h, nl_1, nn_add]
      simp
    · rw [nn_nat (by omega)] at h
      refine bX5_errorsNow_34 o r9 a6 (nn_in (by omega) (by omega)) (by rw [nn_nat (by omega)]; exact hg1) og g4 gr (nn_in (by omega) (by omega)) ?_
      refine bX5_errorsNow_48 ?_
      refine aw_els ih ?_
      rw [(e _).mpr rfl, if_neg h, nl_1, nn_add, nn_nat (by omega)]
/-- the work of a gate's tree -/
def wrkN (I : am_I) (b g : Nat) : Nat → Int32 := fsum (fun n => if I (gc b g + 2 + 1) n = -1 then 0 else I (b + 2) (I (gc b g + 2 + 1) n).toNatClampNeg * wgt I (gc b g + 1) (I (gc b g + 2 + 4) n) 8)
theorem eX5_workNow {g N : Nat} (hb : stF Γ b) (hg4 : g < 4) (hN : N ≤ 15) (hs : I (gc b g + 2) 0 = nn N) (hq : tOK I (gc b g + 2) N) : am_E m_X5_workNow (d + 2) 0 0 [.ref b, .int (nn g)] Γ I L (.inl (some (.int (wrkN I b g N)))) I L := by
  obtain ⟨o, r4, r5, r6, r7, r8, r9, r10, a1, a2, a3, a4, a5, a6, o7, hg⟩ := id hb
  obtain ⟨hg1, hgg⟩ := hg g hg4
  obtain ⟨og, g4, g5, gr, ot, t1, t2, t3, t4, ta1, ta2, ta3, ta4⟩ := id hgg
  refine am_ofE rfl rfl rfl (Nat.le_of_ble_eq_true rfl) ?_
  refine bX5_workNow_0 o r9 a6 (nn_in (by omega) (by omega)) (by rw [nn_nat (by omega)]; exact hg1) og g5 ?_
  refine nn_loop (fun j => am_W m_X5_workNow (d + 2) 0 0 false 0 0 15 [(0, .ref b), (1, .int (nn g)), (2, .ref (gc b g + 2)), (3, .int (wrkN I b g j)), (4, .int (nn j))] [] Γ I L (am_R (.inl (some (.int (wrkN I b g N)))) I L)) N ?_ (fun j hj ih => ?_)
  · refine bX5_workNow_15 ot (fun _ => ?_) (fun h => absurd h (by rw [hs]; simp))
    refine bX5_workNow_73 ?_
    exact ⟨rfl, rfl, rfl⟩
  · refine bX5_workNow_15 ot (fun h => absurd h (by rw [hs, nn_le (by omega) (by omega)]; omega)) (fun _ => ?_)
    have e : ∀ v, wrkN I b g (j + 1) = v ↔ wrkN I b g j + (if I (gc b g + 2 + 1) j = -1 then 0 else I (b + 2) (I (gc b g + 2 + 1) j).toNatClampNeg * wgt I (gc b g + 1) (I (gc b g + 2 + 4) j) 8) = v := fun v => Iff.rfl
    refine bX5_workNow_24 ot t1 ta1 (nn_in (by omega) (by omega)) (fun h => ?_) (fun h => ?_)
    · rw [nn_nat (by omega)] at h
      refine bX5_workNow_67 ?_
      refine aw_els ih ?_
      rw [(e _).mpr rfl, if_pos h, nl_1, nn_add]
      simp
    · rw [nn_nat (by omega)] at h
      refine bX5_workNow_35 o r5 ot t1 ta1 (nn_in (by omega) (by omega)) a2 (by rw [nn_nat (by omega)]; exact hq j hj h) r9 a6 (nn_in (by omega) (by omega)) (by rw [nn_nat (by omega)]; exact hg1) t4 ta4 (nn_in (by omega) (by omega)) og (Nat.zero_le _) (Nat.zero_le _) (eX0_weight hgg _) ?_
      rw [nn_nat (by omega)]
      refine bX5_workNow_64 ?_
      refine bX5_workNow_67 ?_
      refine aw_els ih ?_
      rw [(e _).mpr rfl, if_neg h, nl_1, nn_add]
def wbT (I : am_I) (b g N : Nat) : Nat → Int32 := fsum (fun t => I (gc b g + 1) t * pCost I b (gc b g + 2) (nn t) N)
theorem eX5_workByTypes {g N T : Nat} (hb : stF Γ b) (hg4 : g < 4) (hN : N ≤ 15) (hs : I (gc b g + 2) 0 = nn N) (hq : tOK I (gc b g + 2) N) (hT : I b 1 = nn T) (h8 : T ≤ 8) : am_E m_X5_workByTypes (d + 2) 0 0 [.ref b, .int (nn g)] Γ I L (.inl (some (.int (wbT I b g N T)))) I L := by
  obtain ⟨o, r4, r5, r6, r7, r8, r9, r10, a1, a2, a3, a4, a5, a6, o7, hg⟩ := id hb
  obtain ⟨hg1, og, g4, g5, gr, tr⟩ := hg g hg4
  refine am_ofE rfl rfl rfl (Nat.le_of_ble_eq_true rfl) ?_
  refine bX5_workByTypes_0 ?_
  refine nn_loop (fun j => am_W m_X5_workByTypes (d + 2) 0 0 false 0 0 4 [(0, .ref b), (1, .int (nn g)), (2, .int (wbT I b g N j)), (3, .int (nn j))] [] Γ I L (am_R (.inl (some (.int (wbT I b g N T)))) I L)) T ?_ (fun j hj ih => ?_)
  · refine bX5_workByTypes_4 o (fun _ => ?_) (fun h => absurd h (by rw [hT]; simp))
    refine bX5_workByTypes_39 ?_
    exact ⟨rfl, rfl, rfl⟩
  · refine bX5_workByTypes_4 o (fun h => absurd h (by rw [hT, nn_le (by omega) (by omega)]; omega)) (fun _ => ?_)
    refine bX5_workByTypes_12 o r9 a6 (nn_in (by omega) (by omega)) (by rw [nn_nat (by omega)]; exact hg1) og g4 gr (nn_in (by omega) (by omega)) (Nat.zero_le _) (Nat.zero_le _) (eX5_costOfPath hb hg4 hN hs hq _) ?_
    rw [nn_nat (by omega)]
    refine bX5_workByTypes_30 ?_
    refine aw_els ih ?_
    rw [nl_1, nn_add]
    rfl
def splP (I : am_I) (b : Nat) (S : Int32) (q : Nat) : Bool := decide (¬ S &&& I (b + 3) q = 0 ∧ ¬ S &&& (I (b + 3) q ^^^ -1) = 0)
def split (I : am_I) (b : Nat) (S : Int32) (Q : Nat) : Bool := decide (ffs (splP I b S) Q < Q)
theorem eX5_isSplittable {N : Nat} (hb : stF Γ b) (hN : I b 0 = nn N) (h6 : N ≤ 6) (S : Int32) : am_E m_X5_isSplittable d 0 0 [.ref b, .int S] Γ I L (.inl (some (.int (bi (split I b S N))))) I L := by
  obtain ⟨o, r4, r5, r6, r7, r8, r9, r10, a1, a2, a3, a4, a5, a6, o7, hg⟩ := hb
  refine am_ofE rfl rfl rfl (Nat.le_of_ble_eq_true rfl) ?_
  refine bX5_isSplittable_0 ?_
  refine nn_loop (fun k => (∀ i, i < k → splP I b S i = false) → am_W m_X5_isSplittable d 0 0 false 0 0 2 [(0, .ref b), (1, .int S), (2, .int (nn k))] [] Γ I L (am_R (.inl (some (.int (bi (split I b S N))))) I L)) N (fun hk => ?_) (fun k hk ih h0 => ?_) (fun i hi => absurd hi (Nat.not_lt_zero i))
  · refine bX5_isSplittable_2 o (fun _ => ?_) (fun h => absurd h (by rw [hN]; simp))
    refine bX5_isSplittable_42 ?_
    refine am_R_e ?_ rfl rfl
    unfold split
    rw [ffs_none hk]
    simp [bi]
  · refine bX5_isSplittable_2 o (fun h => absurd h (by rw [hN, nn_le (by omega) (by omega)]; omega)) (fun _ => ?_)
    have go : splP I b S k = false → am_W m_X5_isSplittable d 0 0 false 0 0 36 [(0, .ref b), (1, .int S), (2, .int (nn k))] [] Γ I L (am_R (.inl (some (.int (bi (split I b S N))))) I L) := by
      intro hp
      refine bX5_isSplittable_36 ?_
      refine aw_els (ih (fun i hi => ?_)) (by rw [nl_1, nn_add])
      by_cases hi2 : i < k
      · exact h0 i hi2
      · obtain rfl : i = k := by omega
        exact hp
    refine bX5_isSplittable_10 o r6 a3 (nn_in (by omega) (by omega)) (fun h => ?_) (fun h => ?_)
    · rw [nn_nat (by omega)] at h
      exact go (by unfold splP; simp [h])
    · rw [nn_nat (by omega)] at h
      refine bX5_isSplittable_21 o r6 a3 (nn_in (by omega) (by omega)) (fun h2 => ?_) (fun h2 => ?_)
      · rw [nn_nat (by omega)] at h2
        exact go (by unfold splP; exact decide_eq_false (fun z => z.2 h2))
      · rw [nn_nat (by omega)] at h2
        refine bX5_isSplittable_34 ?_
        refine am_R_e ?_ rfl rfl
        unfold split
        rw [ffs_eq h0 (by unfold splP; exact decide_eq_true ⟨h, h2⟩) hk]
        simp [bi, hk]
def twP (I : am_I) (b : Nat) (Q t : Nat) (toll : Int32) (u : Nat) : Bool := decide (¬ u = t ∧ I (b + 5) u = toll) && !split I b (nn (2 ^ t ||| 2 ^ u)) Q
def twin (I : am_I) (b : Nat) (Q t : Nat) (toll : Int32) (T : Nat) : Bool := decide (ffs (twP I b Q t toll) T < T)
theorem eX5_hasTwinWithToll {N T t : Nat} (hb : stF Γ b) (hN : I b 0 = nn N) (h6 : N ≤ 6) (hT : I b 1 = nn T) (h8 : T ≤ 8) (ht : t < 8) (toll : Int32) : am_E m_X5_hasTwinWithToll (d + 1) 0 0 [.ref b, .int (nn t), .int toll] Γ I L (.inl (some (.int (bi (twin I b N t toll T))))) I L := by
  obtain ⟨o, r4, r5, r6, r7, r8, r9, r10, a1, a2, a3, a4, a5, a6, o7, hg⟩ := id hb
  refine am_ofE rfl rfl rfl (Nat.le_of_ble_eq_true rfl) ?_
  refine bX5_hasTwinWithToll_0 ?_
  refine nn_loop (fun k => (∀ i, i < k → twP I b N t toll i = false) → am_W m_X5_hasTwinWithToll (d + 1) 0 0 false 0 0 2 [(0, .ref b), (1, .int (nn t)), (2, .int toll), (3, .int (nn k))] [] Γ I L (am_R (.inl (some (.int (bi (twin I b N t toll T))))) I L)) T (fun hk => ?_) (fun k hk ih h0 => ?_) (fun i hi => absurd hi (Nat.not_lt_zero i))
  · refine bX5_hasTwinWithToll_2 o (fun _ => ?_) (fun h => absurd h (by rw [hT]; simp))
    refine bX5_hasTwinWithToll_47 ?_
    refine am_R_e ?_ rfl rfl
    unfold twin
    rw [ffs_none hk]
    simp [bi]
  · refine bX5_hasTwinWithToll_2 o (fun h => absurd h (by rw [hT, nn_le (by omega) (by omega)]; omega)) (fun _ => ?_)
    have go : twP I b N t toll k = false → am_W m_X5_hasTwinWithToll (d + 1) 0 0 false 0 0 41 [(0, .ref b), (1, .int (nn t)), (2, .int toll), (3, .int (nn k))] [] Γ I L (am_R (.inl (some (.int (bi (twin I b N t toll T))))) I L) := by
      intro hp
      refine bX5_hasTwinWithToll_41 ?_
      refine aw_els (ih (fun i hi => ?_)) (by rw [nl_1, nn_add])
      by_cases hi2 : i < k
      · exact h0 i hi2
      · obtain rfl : i = k := by omega
        exact hp
    refine bX5_hasTwinWithToll_10 (fun h => ?_) (fun h => ?_)
    · rw [nn_eq (by omega) (by omega)] at h
      exact go (by unfold twP; simp [h])
    · rw [nn_eq (by omega) (by omega)] at h
      refine bX5_hasTwinWithToll_15 o r8 a5 (nn_in (by omega) (by omega)) (fun h2 => ?_) (fun h2 => ?_)
      · rw [nn_nat (by omega)] at h2
        exact go (by unfold twP; simp [h2])
      · rw [nn_nat (by omega)] at h2
        refine bX5_hasTwinWithToll_25 o (Nat.zero_le _) (Nat.zero_le _) (by rw [nl_1, nn_shl (by omega), nn_shl (by omega), nn_or, Nat.one_mul, Nat.one_mul]; exact eX5_isSplittable hb hN h6 _) ?_
        refine bX5_hasTwinWithToll_36 (fun h3 => ?_) (fun h3 => ?_)
        · exact go (by unfold twP; rw [bi_nz.mp h3]; simp)
        · refine bX5_hasTwinWithToll_39 ?_
          refine am_R_e ?_ rfl rfl
          unfold twin
          rw [ffs_eq h0 (by unfold twP; rw [bi_z.mp h3]; simp [h, h2]) hk]
          simp [bi, hk]
end C2
