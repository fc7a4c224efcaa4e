/-! CONTRACTS OF THE CLASS: gate, tree, totals, what a station tells -/
def ib (v k : Int32) : Bool := !((v >>> (k &&& 31)) &&& 1 == 0)
theorem ib_t {v k : Int32} (h : ¬ ((v >>> (k &&& 31)) &&& 1) = 0) : ib v k = true := by unfold ib; simp [h]
theorem ib_f {v k : Int32} (h : ((v >>> (k &&& 31)) &&& 1) = 0) : ib v k = false := by unfold ib; simp [h]
theorem ib_nn {S t : Nat} (hS : S < 2147483648) (ht : t < 32) : ib (nn S) (nn t) = S.testBit t := by
  unfold ib
  rw [nn_bit hS ht]
  cases h : S.testBit t
  · rw [nb_z.mpr h]; rfl
  · rw [nb_1.mpr h]; rfl
def opens (f t h : Int32) : Bool := if t < f then decide (f ≤ h) || decide (h ≤ t) else decide (f ≤ h) && decide (h ≤ t)
section C1
variable {d : Nat} {Γ : am_G} {I : am_I} {L : am_L}
theorem eX8_holds (v k : Int32) : am_E m_X8_holds d 0 0 [.int v, .int k] Γ I L (.inl (some (.int (bi (ib v k))))) I L := by
  refine am_ofE rfl rfl rfl (Nat.le_of_ble_eq_true rfl) ?_
  refine bX8_holds_0 (fun h => ?_) (fun h => ?_)
  · refine bX8_holds_12 ?_
    refine bX8_holds_13 rfl ?_
    rw [ib_f h]; exact ⟨rfl, rfl, rfl⟩
  · refine bX8_holds_8 ?_
    refine bX8_holds_13 rfl ?_
    rw [ib_t h]; exact ⟨rfl, rfl, rfl⟩
theorem eX0_opensAt {g : Nat} (hg : gaF Γ g) (h : Int32) : am_E m_X0_opensAt d 0 0 [.ref g, .int h] Γ I L (.inl (some (.int (bi (opens (I g 1) (I g 2) h))))) I L := by
  obtain ⟨o, -⟩ := hg
  refine am_ofE rfl rfl rfl (Nat.le_of_ble_eq_true rfl) ?_
  refine bX0_opensAt_0 o (fun h1 => ?_) (fun h1 => ?_)
  · refine bX0_opensAt_33 o (fun h2 => ?_) (fun h2 => ?_)
    · refine bX0_opensAt_49 ?_
      refine bX0_opensAt_54 rfl ?_
      exact am_R_e (by simp [opens, h1, h2, bi]) rfl rfl
    · refine bX0_opensAt_41 o (fun h3 => ?_) (fun h3 => ?_)
      · refine bX0_opensAt_53 ?_
        refine bX0_opensAt_54 rfl ?_
        exact am_R_e (by simp [opens, h1, h2, h3, bi, Int32.not_le]) rfl rfl
      · refine bX0_opensAt_49 ?_
        refine bX0_opensAt_54 rfl ?_
        exact am_R_e (by simp [opens, h1, bi, Int32.not_lt.mp h3]) rfl rfl
  · refine bX0_opensAt_11 o (fun h2 => ?_) (fun h2 => ?_)
    · refine bX0_opensAt_31 ?_
      refine bX0_opensAt_32 rfl ?_
      exact am_R_e (by simp [opens, h1, bi, Int32.not_le.mpr h2]) rfl rfl
    · refine bX0_opensAt_19 o (fun h3 => ?_) (fun h3 => ?_)
      · refine bX0_opensAt_31 ?_
        refine bX0_opensAt_32 rfl ?_
        exact am_R_e (by simp [opens, h1, bi, Int32.not_le.mpr h3]) rfl rfl
      · refine bX0_opensAt_27 ?_
        refine bX0_opensAt_32 rfl ?_
        exact am_R_e (by simp [opens, h1, bi, Int32.not_lt.mp h2, Int32.not_lt.mp h3]) rfl rfl
theorem eX0_waitFrom {g : Nat} (hg : gaF Γ g) (h : Int32) : am_E m_X0_waitFrom (d + 1) 0 0 [.ref g, .int h] Γ I L (.inl (some (.int (if opens (I g 1) (I g 2) h then 0 else (I g 1 - h + 24) - (I g 1 - h + 24) / 24 * 24)))) I L := by
  obtain ⟨o, -⟩ := id hg
  refine am_ofE rfl rfl rfl (Nat.le_of_ble_eq_true rfl) ?_
  refine bX0_waitFrom_0 (by assumption) (Nat.zero_le _) (Nat.zero_le _) (eX0_opensAt hg h) ?_
  refine bX0_waitFrom_5 (fun h1 => ?_) (fun h1 => ?_)
  · refine bX0_waitFrom_10 (by assumption) ?_
    rw [bi_z.mp h1]; exact ⟨rfl, rfl, rfl⟩
  · refine bX0_waitFrom_8 ?_
    rw [bi_nz.mp h1]; exact ⟨rfl, rfl, rfl⟩
/-- the weight of a set: counts in cell c -/
def wgt (I : am_I) (c : Nat) (S : Int32) : Nat → Int32 := fsum (fun t => if ib S (nn t) then I c t else 0)
theorem eX0_weight {g : Nat} (hg : gaF Γ g) (S : Int32) : am_E m_X0_weight (d + 1) 0 0 [.ref g, .int S] Γ I L (.inl (some (.int (wgt I (g + 1) S 8)))) I L := by
  obtain ⟨o, r4, r5, a, -⟩ := hg
  refine am_ofE rfl rfl rfl (Nat.le_of_ble_eq_true rfl) ?_
  refine bX0_weight_0 ?_
  refine nn_loop (fun k => am_W m_X0_weight (d + 1) 0 0 false 0 0 4 [(0, .ref g), (1, .int S), (2, .int (wgt I (g + 1) S k)), (3, .int (nn k))] [] Γ I L (am_R (.inl (some (.int (wgt I (g + 1) S 8)))) I L)) 8 ?_ (fun k hk ih => ?_)
  · refine bX0_weight_4 (fun h => ?_) (fun h => absurd h (by simp (disch := omega) only [nl_m1, nl_0, nl_1, nl_2, nl_3, nl_4, nl_5, nl_6, nl_7, nl_8, nl_9, nl_10, nl_12, nl_15, nl_18, nl_19, nl_20, nl_22, nl_24, nl_30, nl_31, nl_48, nl_60, nl_94, nl_97, nl_100, nl_122, nl_132, nl_255, nl_508, nl_699, nl_700, nl_999, nl_9999, nn_add, nn_mul, nn_le, nn_lt, nn_eq, nn_nat]; omega))
    refine bX0_weight_33 ?_
    exact ⟨rfl, rfl, rfl⟩
  · refine bX0_weight_4 (fun h => absurd h (by simp (disch := omega) only [nl_m1, nl_0, nl_1, nl_2, nl_3, nl_4, nl_5, nl_6, nl_7, nl_8, nl_9, nl_10, nl_12, nl_15, nl_18, nl_19, nl_20, nl_22, nl_24, nl_30, nl_31, nl_48, nl_60, nl_94, nl_97, nl_100, nl_122, nl_132, nl_255, nl_508, nl_699, nl_700, nl_999, nl_9999, nn_add, nn_mul, nn_le, nn_lt, nn_eq, nn_nat]; omega)) (fun h => ?_)
    refine bX0_weight_10 (Nat.zero_le _) (Nat.zero_le _) (eX8_holds _ _) ?_
    refine bX0_weight_15 (fun h1 => ?_) (fun h1 => ?_)
    · refine bX0_weight_27 ?_
      refine aw_els ih ?_
      rw [nl_1, nn_add]
      show _ = [(0, Value.ref g), (1, .int S), (2, .int (wgt I (g + 1) S k + (if ib S (nn k) then I (g + 1) k else 0))), (3, .int (nn (k + 1)))]
      rw [bi_z.mp h1]
      simp
    · refine bX0_weight_18 (by assumption) (by assumption) (by assumption) (nn_in (by omega) (by omega)) ?_
      refine bX0_weight_27 ?_
      refine aw_els ih ?_
      rw [nl_1, nn_add, nn_nat (by omega)]
      show _ = [(0, Value.ref g), (1, .int S), (2, .int (wgt I (g + 1) S k + (if ib S (nn k) then I (g + 1) k else 0))), (3, .int (nn (k + 1)))]
      rw [bi_nz.mp h1]
      rfl
theorem eX0_addCarts {g t : Nat} (hg : gaF Γ g) (ht : t < 8) (n : Int32) : am_E m_X0_addCarts d 0 0 [.ref g, .int (nn t), .int n] Γ I L (.inl none) (am_u I (g + 1) t (if I (g + 1) t + n < 9999 then I (g + 1) t + n else 9999)) L := by
  obtain ⟨o, r4, r5, a, -⟩ := hg
  refine am_ofE rfl rfl rfl (Nat.le_of_ble_eq_true rfl) ?_
  refine bX0_addCarts_0 (by assumption) (by assumption) (by assumption) (nn_in (by omega) (by omega)) ?_
  rw [nn_nat (by omega)]; exact ⟨rfl, rfl, rfl⟩
theorem eX0_halve {g : Nat} (hg : gaF Γ g) : am_E m_X0_halve d 0 0 [.ref g] Γ I L (.inl none) (am_mI I (g + 1) (fun t => I (g + 1) t / 2) 8) L := by
  obtain ⟨o, r4, r5, a, -⟩ := hg
  refine am_ofE rfl rfl rfl (Nat.le_of_ble_eq_true rfl) ?_
  refine bX0_halve_0 ?_
  have key := nn_loop (fun k => am_W m_X0_halve d 0 0 false 0 0 2 [(0, .ref g), (1, .int (nn k))] [] Γ (am_mI I (g + 1) (fun t => I (g + 1) t / 2) k) L (am_R (.inl none) (am_mI I (g + 1) (fun t => I (g + 1) t / 2) 8) L)) 8 ?_ (fun k hk ih => ?_)
  · rw [am_mI_0] at key; exact key
  · refine bX0_halve_2 (fun h => ?_) (fun h => absurd h (by simp (disch := omega) only [nl_m1, nl_0, nl_1, nl_2, nl_3, nl_4, nl_5, nl_6, nl_7, nl_8, nl_9, nl_10, nl_12, nl_15, nl_18, nl_19, nl_20, nl_22, nl_24, nl_30, nl_31, nl_48, nl_60, nl_94, nl_97, nl_100, nl_122, nl_132, nl_255, nl_508, nl_699, nl_700, nl_999, nl_9999, nn_add, nn_mul, nn_le, nn_lt, nn_eq, nn_nat]; omega))
    refine bX0_halve_24 ?_
    exact ⟨rfl, rfl, rfl⟩
  · refine bX0_halve_2 (fun h => absurd h (by simp (disch := omega) only [nl_m1, nl_0, nl_1, nl_2, nl_3, nl_4, nl_5, nl_6, nl_7, nl_8, nl_9, nl_10, nl_12, nl_15, nl_18, nl_19, nl_20, nl_22, nl_24, nl_30, nl_31, nl_48, nl_60, nl_94, nl_97, nl_100, nl_122, nl_132, nl_255, nl_508, nl_699, nl_700, nl_999, nl_9999, nn_add, nn_mul, nn_le, nn_lt, nn_eq, nn_nat]; omega)) (fun h => ?_)
    refine bX0_halve_8 (by assumption) (by assumption) (by assumption) (nn_in (by omega) (by omega)) ?_
    refine aw_eq ih (by rw [nl_1, nn_add]) rfl ?_ rfl
    rw [nn_nat (by omega)]
    refine am_mI_s ?_
    rw [am_mI_at, if_neg (fun z => by have := z.2; omega)]
/-! trees -/
def tLf (I : am_I) (t : Nat) (k : Int32) (N : Nat) : Nat := ffs (fun n => I (t + 1) n == -1 && ib (I (t + 4) n) k) N
def tLh (I : am_I) (t : Nat) (k : Int32) (N : Nat) : Nat := if tLf I t k N < N then tLf I t k N else 0
theorem eX7_leafHolding {t N : Nat} (ht : trF Γ t) (hN : N ≤ 15) (hs : I t 0 = nn N) (k : Int32) : am_E m_X7_leafHolding d 0 0 [.ref t, .int k] Γ I L (.inl (some (.int (nn (tLh I t k N))))) I L := by
  obtain ⟨o, r1, r2, r3, r4, a1, a2, a3, a4⟩ := ht
  refine am_ofE rfl rfl rfl (Nat.le_of_ble_eq_true rfl) ?_
  refine bX7_leafHolding_0 ?_
  refine nn_loop (fun j => (∀ i, i < j → (I (t + 1) i == -1 && ib (I (t + 4) i) k) = false) → am_W m_X7_leafHolding d 0 0 false 0 0 2 [(0, .ref t), (1, .int k), (2, .int (nn j))] [] Γ I L (am_R (.inl (some (.int (nn (tLh I t k N))))) I L)) N (fun hn => ?_) (fun j hj ih hn => ?_) (fun i hi => absurd hi (Nat.not_lt_zero i))
  · refine bX7_leafHolding_2 o (fun _ => ?_) (fun h => absurd h (by rw [hs]; simp))
    refine bX7_leafHolding_41 ?_
    exact am_R_e (by unfold tLh tLf; rw [ffs_none hn, if_neg (Nat.lt_irrefl N)]; rfl) rfl rfl
  · refine bX7_leafHolding_2 o (fun h => absurd h (by rw [hs, nn_le (by omega) (by omega)]; omega)) (fun _ => ?_)
    refine bX7_leafHolding_10 o r1 a1 (nn_in (by omega) (by omega)) (fun h1 => ?_) (fun h1 => ?_)
    · rw [nn_nat (by omega)] at h1
      refine bX7_leafHolding_35 ?_
      refine aw_els (ih (fun i hi => ?_)) (by rw [nl_1, nn_add])
      by_cases hi2 : i < j
      · exact hn i hi2
      · obtain rfl : i = j := by omega
        simp [h1]
    · rw [nn_nat (by omega)] at h1
      refine bX7_leafHolding_20 o r4 a4 (nn_in (by omega) (by omega)) (fun h2 => ?_) (fun h2 => ?_)
      · rw [nn_nat (by omega)] at h2
        refine bX7_leafHolding_35 ?_
        refine aw_els (ih (fun i hi => ?_)) (by rw [nl_1, nn_add])
        by_cases hi2 : i < j
        · exact hn i hi2
        · obtain rfl : i = j := by omega
          rw [ib_f h2, Bool.and_false]
      · rw [nn_nat (by omega)] at h2
        refine bX7_leafHolding_33 ?_
        have e : ffs (fun n => I (t + 1) n == -1 && ib (I (t + 4) n) k) N = j := ffs_eq hn (by rw [ib_t h2, h1]; rfl) hj
        exact am_R_e (by unfold tLh tLf; rw [e, if_pos hj]) rfl rfl
theorem tLh_lt {t N : Nat} {k : Int32} (h : 0 < N) : tLh I t k N < N := by
  unfold tLh; split <;> omega
theorem eX7_tollFor {t N : Nat} (ht : trF Γ t) (hN : N ≤ 15) (h0 : 0 < N) (hs : I t 0 = nn N) (k : Int32) : am_E m_X7_tollFor (d + 1) 0 0 [.ref t, .int k] Γ I L (.inl (some (.int (I (t + 2) (tLh I t k N))))) I L := by
  obtain ⟨o, r1, r2, r3, r4, a1, a2, a3, a4⟩ := id ht
  refine am_ofE rfl rfl rfl (Nat.le_of_ble_eq_true rfl) ?_
  refine bX7_tollFor_0 (by assumption) (by assumption) (Nat.zero_le _) (Nat.zero_le _) (eX7_leafHolding ht hN hs k) ?_
  have := tLh_lt (I := I) (t := t) (k := k) h0
  refine bX7_tollFor_9 (by assumption) (nn_in (by omega) (by omega)) ?_
  rw [nn_nat (by omega)]; exact ⟨rfl, rfl, rfl⟩
def tEm (I : am_I) (t : Nat) : Nat → Int32 := fsum (fun n => if I (t + 1) n = -1 ∧ I (t + 4) n = 0 then 1 else 0)
theorem eX7_emptyLeaves {t N : Nat} (ht : trF Γ t) (hN : N ≤ 15) (hs : I t 0 = nn N) : am_E m_X7_emptyLeaves d 0 0 [.ref t] Γ I L (.inl (some (.int (tEm I t N)))) I L := by
  obtain ⟨o, r1, r2, r3, r4, a1, a2, a3, a4⟩ := ht
  refine am_ofE rfl rfl rfl (Nat.le_of_ble_eq_true rfl) ?_
  refine bX7_emptyLeaves_0 ?_
  refine nn_loop (fun j => am_W m_X7_emptyLeaves d 0 0 false 0 0 4 [(0, .ref t), (1, .int (tEm I t j)), (2, .int (nn j))] [] Γ I L (am_R (.inl (some (.int (tEm I t N)))) I L)) N ?_ (fun j hj ih => ?_)
  · refine bX7_emptyLeaves_4 o (fun _ => ?_) (fun h => absurd h (by rw [hs]; simp))
    refine bX7_emptyLeaves_40 ?_
    exact ⟨rfl, rfl, rfl⟩
  · refine bX7_emptyLeaves_4 o (fun h => absurd h (by rw [hs, nn_le (by omega) (by omega)]; omega)) (fun _ => ?_)
    refine bX7_emptyLeaves_12 o r1 a1 (nn_in (by omega) (by omega)) (fun h1 => ?_) (fun h1 => ?_)
    · rw [nn_nat (by omega)] at h1
      refine bX7_emptyLeaves_34 ?_
      refine aw_els ih ?_
      show _ = [(0, Value.ref t), (1, .int (tEm I t j + (if I (t + 1) j = -1 ∧ I (t + 4) j = 0 then 1 else 0))), (2, .int (nn (j + 1)))]
      rw [if_neg (fun z => h1 z.1), nl_1, nn_add]
      simp
    · rw [nn_nat (by omega)] at h1
      refine bX7_emptyLeaves_22 o r4 a4 (nn_in (by omega) (by omega)) (fun h2 => ?_) (fun h2 => ?_)
      · rw [nn_nat (by omega)] at h2
        refine bX7_emptyLeaves_34 ?_
        refine aw_els ih ?_
        show _ = [(0, Value.ref t), (1, .int (tEm I t j + (if I (t + 1) j = -1 ∧ I (t + 4) j = 0 then 1 else 0))), (2, .int (nn (j + 1)))]
        rw [if_neg (fun z => h2 z.2), nl_1, nn_add]
        simp
      · rw [nn_nat (by omega)] at h2
        refine bX7_emptyLeaves_31 ?_
        refine bX7_emptyLeaves_34 ?_
        refine aw_els ih ?_
        show _ = [(0, Value.ref t), (1, .int (tEm I t j + (if I (t + 1) j = -1 ∧ I (t + 4) j = 0 then 1 else 0))), (2, .int (nn (j + 1)))]
        rw [if_pos ⟨h1, h2⟩, nl_1, nn_add]
theorem eX7_firstChild {t n : Nat} (ht : trF Γ t) (hn : n < 15) : am_E m_X7_firstChild d 0 0 [.ref t, .int (nn n)] Γ I L (.inl (some (.int (if I (t + 1) n = -1 then -1 else nn (n + 1))))) I L := by
  obtain ⟨o, r1, r2, r3, r4, a1, a2, a3, a4⟩ := ht
  refine am_ofE rfl rfl rfl (Nat.le_of_ble_eq_true rfl) ?_
  refine bX7_firstChild_0 o r1 a1 (nn_in (by omega) (by omega)) (fun h1 => ?_) (fun h1 => ?_)
  · rw [nn_nat (by omega)] at h1
    refine bX7_firstChild_14 ?_
    refine bX7_firstChild_17 ?_
    rw [if_neg h1, nl_1, nn_add]; exact ⟨rfl, rfl, rfl⟩
  · rw [nn_nat (by omega)] at h1
    refine bX7_firstChild_10 ?_
    refine bX7_firstChild_17 ?_
    rw [if_pos h1]; exact ⟨rfl, rfl, rfl⟩
end C1
