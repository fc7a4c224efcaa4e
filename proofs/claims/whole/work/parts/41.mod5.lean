/-! CONTRACTS OF THE MODEL: changes of the row -/
theorem wcA_cg {tq ts cs tq' ts' cs' : Nat → Int32} {k : Int32} {N : Nat} (h : ∀ n, n < N → tq' n = tq n ∧ ts' n = ts n) (hc : ∀ n, n < N → tq n ≠ -1 → cs' (tq n).toNatClampNeg = cs (tq n).toNatClampNeg) : wcA tq' ts' cs' k N = wcA tq ts cs k N := by
  refine fsum_congr N (fun n hn => ?_)
  rw [(h n hn).1, (h n hn).2]
  by_cases hz : tq n ≠ -1 ∧ ib (ts n) k = true
  · rw [if_pos hz, if_pos hz, hc n hn hz.1]
  · rw [if_neg hz, if_neg hz]
theorem mul_sub_neg (x n p d : Int32) : x - n * (p - d) = x + n * (d - p) := by
  rw [show d - p = -(p - d) from (Int32.neg_sub).symm, Int32.mul_neg, ← Int32.sub_eq_add_neg]
def hlk (w : Nat → Int32) (g k : Nat) : Nat → Int32 := fun j => if 132 + g * 94 + 10 ≤ j ∧ j < 132 + g * 94 + 10 + k then w j / 2 else w j
theorem mWgt_all {w : Nat → Int32} {g T : Nat} (hT : T ≤ 8) : mWgt w g (nn (2 ^ T - 1)) T = mCnt w g T := by
  have p8 := two_le8 hT
  refine fsum_congr T (fun t ht => ?_)
  rw [ib_nn (by omega) (by omega), all_bit ht]
  rfl
section M5
variable {d : Nat} {Γ : am_G} {I : am_I} {L : am_L} {m : Nat} {g Q T e : Nat} {qc ty tl ct : Nat → Nat}
theorem at1 (J : am_I) (m i : Nat) (v : Int32) (j : Nat) : am_u J m i v m j = if j = i then v else J m j := by
  rw [am_u_at]
  by_cases h : j = i
  · rw [if_pos ⟨rfl, h⟩, if_pos h]
  · rw [if_neg (fun z => h z.2), if_neg h]
set_option maxHeartbeats 1000000 in
theorem eX9_passes (hm : mdF Γ m) (hg : g < 4) (hd : mda (I (m + 1)) g Q T qc ty tl ct) (htr : trW (I (m + 1)) g Q T ty e) {t k : Nat} (ht : t < T) (hk : k ≤ 999) :
    ∃ I', am_E m_X9_passes (d + 4) 0 0 [.ref m, .int (nn g), .int (nn t), .int (nn k)] Γ I L (.inl (some (.int (rw5 (I (m + 1)) g 1 (lfA (rw5 (I (m + 1)) g 0) (rw5 (I (m + 1)) g 4) (nn t) e))))) I' L ∧
      I' (m + 1) = pasW (I (m + 1)) g t (nn k) (wcA (rw5 (I (m + 1)) g 0) (rw5 (I (m + 1)) g 4) (csW (I (m + 1))) (nn t) e) (rw5 (I (m + 1)) g 1 (lfA (rw5 (I (m + 1)) g 0) (rw5 (I (m + 1)) g 4) (nn t) e)) (I (m + 1) (60 + t * 9)) ∧ ∀ c, c ≠ m + 1 → I' c = I c := by
  obtain ⟨o, r0, r1, r2, r3, r4, r7, r8, r13, r14, r15, r16, r17, a1, a2, a3, a4, a5, a6, a7, a8, a9, a10, a11, a12⟩ := id hm
  obtain ⟨hQ, hT, hQ6, hT0, hT8, hqs, hts⟩ := id hd
  obtain ⟨h18, he0, he15, htv⟩ := id htr
  have p8 := two_le8 hT8
  have p2 : 2 ^ 1 ≤ 2 ^ T := Nat.pow_le_pow_right (n := 2) (by decide) hT0
  obtain ⟨etl, ltl, ety, lty, ect, lct⟩ := hts t ht
  obtain ⟨k1, k2, k3, k4⟩ := lfA_sp hQ6 (show t < 32 by omega) htv (by omega) (all_bit ht)
  obtain ⟨v, v99, ev⟩ := tva_toll hQ6 htv _ (Nat.zero_le _) k1 k2
  generalize hto : rw5 (I (m + 1)) g 1 (lfA (rw5 (I (m + 1)) g 0) (rw5 (I (m + 1)) g 4) (nn t) e) = to at *
  generalize hwy : wcA (rw5 (I (m + 1)) g 0) (rw5 (I (m + 1)) g 4) (csW (I (m + 1))) (nn t) e = wy at *
  -- the count, and the carts
  have cnt : ∃ c', c' ≤ 9999 ∧ (if I (m + 1) (132 + g * 94 + (10 + t)) + nn k < 9999 then I (m + 1) (132 + g * 94 + (10 + t)) + nn k else 9999) = nn c' := by
    rw [ect, nn_add, nl_9999]
    by_cases hl : ct t + k < 9999
    · exact ⟨ct t + k, by omega, by rw [if_pos ((nn_lt (by omega) (by omega)).mpr hl)]⟩
    · exact ⟨9999, by omega, by rw [if_neg (fun z => hl ((nn_lt (by omega) (by omega)).mp z))]⟩
  obtain ⟨c', c9, ec'⟩ := cnt
  have row2 : ∀ j, j ≠ 132 + g * 94 + (10 + t) → j ≠ 4 → am_u (am_u I (m + 1) (132 + g * 94 + (10 + t)) (nn c')) (m + 1) 4 (am_u I (m + 1) (132 + g * 94 + (10 + t)) (nn c') (m + 1) 4 + nn k) (m + 1) j = I (m + 1) j := fun j h1 h2 => by rw [at1, if_neg h2, at1, if_neg h1]
  have hd2 : mda (am_u (am_u I (m + 1) (132 + g * 94 + (10 + t)) (nn c')) (m + 1) 4 (am_u I (m + 1) (132 + g * 94 + (10 + t)) (nn c') (m + 1) 4 + nn k) (m + 1)) g Q T qc ty tl (fun u => if u = t then c' else ct u) := by
    refine ⟨by rw [row2 _ (by omega) (by omega)]; exact hQ, by rw [row2 _ (by omega) (by omega)]; exact hT, hQ6, hT0, hT8, fun q hq => by rw [row2 _ (by omega) (by omega)]; exact hqs q hq, fun u hu => ?_⟩
    obtain ⟨e1, e2, e3, e4, e5, e6⟩ := hts u hu
    refine ⟨by rw [row2 _ (by omega) (by omega)]; exact e1, e2, by rw [row2 _ (by omega) (by omega)]; exact e3, e4, ?_⟩
    by_cases hut : u = t
    · subst hut
      show _ = nn (if u = u then c' else ct u) ∧ (if u = u then c' else ct u) ≤ 9999
      rw [at1, if_neg (by omega), at1, if_pos rfl, if_pos rfl]
      exact ⟨rfl, c9⟩
    · show _ = nn (if u = t then c' else ct u) ∧ (if u = t then c' else ct u) ≤ 9999
      rw [row2 _ (by omega) (by omega), if_neg hut]
      exact ⟨e5, e6⟩
  have n5 : ∀ n kk, n < 15 → kk < 5 → rw5 (am_u (am_u I (m + 1) (132 + g * 94 + (10 + t)) (nn c')) (m + 1) 4 (am_u I (m + 1) (132 + g * 94 + (10 + t)) (nn c') (m + 1) 4 + nn k) (m + 1)) g kk n = rw5 (I (m + 1)) g kk n := fun n kk hn hkk => row2 _ (by omega) (by omega)
  have htr2 : trW (am_u (am_u I (m + 1) (132 + g * 94 + (10 + t)) (nn c')) (m + 1) 4 (am_u I (m + 1) (132 + g * 94 + (10 + t)) (nn c') (m + 1) 4 + nn k) (m + 1)) g Q T ty e := ⟨by rw [row2 _ (by omega) (by omega)]; exact h18, he0, he15, tva_cong htv (fun j _ j2 => ⟨n5 j 0 (by omega) (by decide), n5 j 1 (by omega) (by decide), n5 j 2 (by omega) (by decide), n5 j 3 (by omega) (by decide), n5 j 4 (by omega) (by decide)⟩)⟩
  have way2 : am_E m_X9_wayCost (d + 3) 0 0 [.ref m, .int (nn g), .int (nn t)] Γ (am_u (am_u I (m + 1) (132 + g * 94 + (10 + t)) (nn c')) (m + 1) 4 (am_u I (m + 1) (132 + g * 94 + (10 + t)) (nn c') (m + 1) 4 + nn k)) L (.inl (some (.int wy))) (am_u (am_u I (m + 1) (132 + g * 94 + (10 + t)) (nn c')) (m + 1) 4 (am_u I (m + 1) (132 + g * 94 + (10 + t)) (nn c') (m + 1) 4 + nn k)) L := by
    refine am_E_e (eX9_wayCost hm hg hd2 htr2 ht) ?_ rfl
    rw [← hwy]
    refine wcA_cg (fun n hn => ⟨n5 n 0 (by omega) (by decide), n5 n 4 (by omega) (by decide)⟩) (fun n hn hq => ?_)
    obtain ⟨S', s1, s2, s3, s4, s5, s6⟩ := tva_set hQ6 htv (by omega) n (Nat.zero_le _) hn
    obtain ⟨q, q1, q2⟩ := s5 hq
    rw [q2, nn_nat (by omega)]
    exact row2 _ (by omega) (by omega)
  generalize hJ2 : am_u (am_u I (m + 1) (132 + g * 94 + (10 + t)) (nn c')) (m + 1) 4 (am_u I (m + 1) (132 + g * 94 + (10 + t)) (nn c') (m + 1) 4 + nn k) = J2 at *
  have J2c : ∀ c, c ≠ m + 1 → J2 c = I c := fun c hc => by rw [← hJ2, am_u_ne hc, am_u_ne hc]
  have J2j : ∀ j, J2 (m + 1) j = if j = 4 then I (m + 1) 4 + nn k else if j = 132 + g * 94 + (10 + t) then nn c' else I (m + 1) j := fun j => by
    rw [← hJ2, at1, at1, at1, if_neg (show (4 : Nat) ≠ 132 + g * 94 + (10 + t) by omega)]
  have f5 : (5 : Int32).toNatClampNeg = 5 := rfl
  have f6 : (6 : Int32).toNatClampNeg = 6 := rfl
  have f7 : (7 : Int32).toNatClampNeg = 7 := rfl
  have tlt : am_u (am_u J2 (m + 1) 5 (J2 (m + 1) 5 + nn k * wy)) (m + 1) 6 (am_u J2 (m + 1) 5 (J2 (m + 1) 5 + nn k * wy) (m + 1) 6 + nn k * to) (m + 1) (60 + t * 9 + 0) = nn (tl t) := by
    rw [Nat.add_zero (60 + t * 9), at1, if_neg (by omega), at1, if_neg (by omega), J2j, if_neg (by omega), if_neg (by omega)]
    exact etl
  have S5 := (sub99 v (by omega) (tl t) (by omega))
  -- to the two comparisons
  have head : ∀ I' : am_I, am_W m_X9_passes (d + 4) 0 0 false 0 0 98 [(0, .ref m), (1, .int (nn g)), (2, .int (nn t)), (3, .int (nn k)), (4, .int to), (5, .int (to - nn (tl t)))] [.int (nn (tl t)), .int (nn k), .int (am_u (am_u J2 (m + 1) 5 (J2 (m + 1) 5 + nn k * wy)) (m + 1) 6 (am_u J2 (m + 1) 5 (J2 (m + 1) 5 + nn k * wy) (m + 1) 6 + nn k * to) (m + 1) 7), .int 7, .ref (m + 1)] Γ (am_u (am_u J2 (m + 1) 5 (J2 (m + 1) 5 + nn k * wy)) (m + 1) 6 (am_u J2 (m + 1) 5 (J2 (m + 1) 5 + nn k * wy) (m + 1) 6 + nn k * to)) L (am_R (.inl (some (.int to))) I' L) →
      am_W m_X9_passes (d + 4) 0 0 false 0 0 0 [(0, .ref m), (1, .int (nn g)), (2, .int (nn t)), (3, .int (nn k))] [] Γ I L (am_R (.inl (some (.int to))) I' L) := by
    intro I' h
    refine bX9_passes_0 o (Nat.zero_le _) (Nat.zero_le _) (eX9_charged hm hg hd htr ht) ?_
    rw [hto]
    refine bX9_passes_6 o (Nat.zero_le _) (Nat.zero_le _) (eX9_ofType (k := 0) hm (by omega) (by decide)) ?_
    rw [Nat.add_zero (60 + t * 9), etl]
    refine bX9_passes_16 o (Nat.zero_le _) (Nat.zero_le _) (eX9_count hm hg (by omega)) ?_
    refine bX9_passes_34 o (Nat.zero_le _) (Nat.zero_le _) (by rw [nl_10, nn_add, ec']; exact eX9_putGate hm hg (by omega) _) ?_
    refine bX9_passes_42 o r0 a1 (nn_in (k := 4) (by decide) (by decide)) (nn_in (k := 5) (by decide) (by decide)) (Nat.zero_le _) (Nat.zero_le _) (by
      show am_E _ _ _ _ _ _ (am_u (am_u I (m + 1) (132 + g * 94 + (10 + t)) (nn c')) (m + 1) 4 (am_u I (m + 1) (132 + g * 94 + (10 + t)) (nn c') (m + 1) 4 + nn k)) _ _ _ _
      rw [hJ2]
      exact way2) ?_
    refine bX9_passes_66 a1 (nn_in (k := 5) (by decide) (by decide)) o r0 a1 (nn_in (k := 6) (by decide) (by decide)) (nn_in (k := 7) (by decide) (by decide)) (Nat.zero_le _) (Nat.zero_le _) (eX9_ofType (k := 0) hm (by omega) (by decide)) ?_
    have e5 : am_u (am_u I (m + 1) (132 + g * 94 + (10 + t)) (nn c')) (m + 1) (4 : Int32).toNatClampNeg (am_u I (m + 1) (132 + g * 94 + (10 + t)) (nn c') (m + 1) (4 : Int32).toNatClampNeg + nn k) = J2 := hJ2
    rw [e5, f5, f6, f7, tlt]
    exact h
  have b1 : to - nn (tl t) ≤ 0 ↔ v ≤ tl t := by rw [ev]; exact S5.1
  have b2 : 0 ≤ to - nn (tl t) ↔ tl t ≤ v := by rw [ev]; exact S5.2
  have lt1 : nn (tl t) < to ↔ tl t < v := by rw [ev]; exact nn_lt (by omega) (by omega)
  have lt2 : to < nn (tl t) ↔ v < tl t := by rw [ev]; exact nn_lt (by omega) (by omega)
  have fin : ∀ (X : am_I), (∀ c, c ≠ m + 1 → X c = I c) → X (m + 1) (132 + g * 94 + (10 + t)) = nn c' → (∀ j, j ≠ 132 + g * 94 + (10 + t) → ¬ (4 ≤ j ∧ j < 12) → X (m + 1) j = I (m + 1) j) → (∀ j, j < 8 → X (m + 1) (4 + j) = addT (fun i => I (m + 1) (4 + i)) (nn k) wy to (nn (tl t)) j) → X (m + 1) = pasW (I (m + 1)) g t (nn k) wy to (I (m + 1) (60 + t * 9)) ∧ ∀ c, c ≠ m + 1 → X c = I c := by
    intro X h0 h1 h2 h3
    refine ⟨funext fun j => ?_, h0⟩
    unfold pasW
    by_cases hj : j = 132 + g * 94 + (10 + t)
    · rw [if_pos hj, hj, h1, ec']
    · rw [if_neg hj]
      by_cases hr : 4 ≤ j ∧ j < 12
      · rw [if_pos hr, etl]
        have := h3 (j - 4) (by omega)
        rw [show 4 + (j - 4) = j by omega] at this
        exact this
      · rw [if_neg hr]
        exact h2 j hj hr
  refine am_ofX1 rfl rfl rfl (Nat.le_of_ble_eq_true rfl) ?_
  by_cases g1 : v ≤ tl t
  · by_cases g2 : tl t ≤ v
    · refine ⟨_, head _ (by
        refine bX9_passes_98 a1 (nn_in (k := 7) (by decide) (by decide)) (fun _ => ?_) (fun z => absurd (b1.mpr g1) z)
        refine bX9_passes_131 (fun _ => ?_) (fun z => absurd (b2.mpr g2) z)
        refine bX9_passes_161 ?_
        exact ⟨rfl, rfl, rfl⟩), fin _ (fun c hc => by rw [am_u_ne hc, am_u_ne hc, am_u_ne hc, J2c c hc]) ?_ (fun j h1 h2 => ?_) (fun j hj => ?_)⟩
      · simp (disch := omega) only [at1, f7, J2j, if_neg, if_pos, if_true]
      · simp (disch := omega) only [at1, f7, J2j, if_neg, if_pos, if_true]
      · have : j = 0 ∨ j = 1 ∨ j = 2 ∨ j = 3 ∨ j = 4 ∨ j = 5 ∨ j = 6 ∨ j = 7 := by omega
        rcases this with z | z | z | z | z | z | z | z <;> subst z <;> simp (disch := omega) only [at1, f7, J2j, if_neg, if_pos, if_true, addT, lt1, lt2]
    · refine ⟨_, head _ (by
        refine bX9_passes_98 a1 (nn_in (k := 7) (by decide) (by decide)) (fun _ => ?_) (fun z => absurd (b1.mpr g1) z)
        refine bX9_passes_131 (fun z => absurd (b2.mp z) g2) (fun _ => ?_)
        refine bX9_passes_136 o r0 a1 (nn_in (k := 9) (by decide) (by decide)) (nn_in (k := 11) (by decide) (by decide)) ?_
        refine bX9_passes_161 ?_
        exact ⟨rfl, rfl, rfl⟩), fin _ (fun c hc => by rw [am_u_ne hc, am_u_ne hc, am_u_ne hc, am_u_ne hc, am_u_ne hc, J2c c hc]) ?_ (fun j h1 h2 => ?_) (fun j hj => ?_)⟩
      · simp (disch := omega) only [at1, f7, show (9 : Int32).toNatClampNeg = 9 from rfl, show (11 : Int32).toNatClampNeg = 11 from rfl, J2j, if_neg, if_pos, if_true]
      · simp (disch := omega) only [at1, f7, show (9 : Int32).toNatClampNeg = 9 from rfl, show (11 : Int32).toNatClampNeg = 11 from rfl, J2j, if_neg, if_pos, if_true]
      · have : j = 0 ∨ j = 1 ∨ j = 2 ∨ j = 3 ∨ j = 4 ∨ j = 5 ∨ j = 6 ∨ j = 7 := by omega
        rcases this with z | z | z | z | z | z | z | z <;> subst z <;> simp (disch := omega) only [at1, f7, show (9 : Int32).toNatClampNeg = 9 from rfl, show (11 : Int32).toNatClampNeg = 11 from rfl, J2j, if_neg, if_pos, if_true, addT, lt1, lt2, mul_sub_neg]
  · refine ⟨_, head _ (by
      refine bX9_passes_98 a1 (nn_in (k := 7) (by decide) (by decide)) (fun z => absurd (b1.mp z) g1) (fun _ => ?_)
      refine bX9_passes_106 o r0 a1 (nn_in (k := 8) (by decide) (by decide)) (nn_in (k := 10) (by decide) (by decide)) ?_
      refine bX9_passes_131 (fun _ => ?_) (fun z => absurd (b2.mpr (by omega)) z)
      refine bX9_passes_161 ?_
      exact ⟨rfl, rfl, rfl⟩), fin _ (fun c hc => by rw [am_u_ne hc, am_u_ne hc, am_u_ne hc, am_u_ne hc, am_u_ne hc, J2c c hc]) ?_ (fun j h1 h2 => ?_) (fun j hj => ?_)⟩
    · simp (disch := omega) only [at1, f7, show (8 : Int32).toNatClampNeg = 8 from rfl, show (10 : Int32).toNatClampNeg = 10 from rfl, J2j, if_neg, if_pos, if_true]
    · simp (disch := omega) only [at1, f7, show (8 : Int32).toNatClampNeg = 8 from rfl, show (10 : Int32).toNatClampNeg = 10 from rfl, J2j, if_neg, if_pos, if_true]
    · have : j = 0 ∨ j = 1 ∨ j = 2 ∨ j = 3 ∨ j = 4 ∨ j = 5 ∨ j = 6 ∨ j = 7 := by omega
      rcases this with z | z | z | z | z | z | z | z <;> subst z <;> simp (disch := omega) only [at1, f7, show (8 : Int32).toNatClampNeg = 8 from rfl, show (10 : Int32).toNatClampNeg = 10 from rfl, J2j, if_neg, if_pos, if_true, addT, lt1, lt2]
theorem eX9_halves (hm : mdF Γ m) (hg : g < 4) (hT : I (m + 1) 1 = nn T) (hT8 : T ≤ 8) : ∃ I', am_E m_X9_halves (d + 3) 0 0 [.ref m, .int (nn g)] Γ I L (.inl (some (.int (mCnt (hlk (I (m + 1)) g T) g T)))) I' L ∧ I' (m + 1) = hlk (I (m + 1)) g T ∧ ∀ c, c ≠ m + 1 → I' c = I c := by
  obtain ⟨o, r0, r1, r2, r3, r4, r7, r8, r13, r14, r15, r16, r17, a1, a2, a3, a4, a5, a6, a7, a8, a9, a10, a11, a12⟩ := id hm
  refine am_ofX1 rfl rfl rfl (Nat.le_of_ble_eq_true rfl) ?_
  have loop := nn_loop (fun j => ∀ I1 : am_I, I1 (m + 1) = hlk (I (m + 1)) g j → (∀ c, c ≠ m + 1 → I1 c = I c) → ∃ I', am_W m_X9_halves (d + 3) 0 0 false 0 0 2 [(0, .ref m), (1, .int (nn g)), (2, .int (nn j))] [] Γ I1 L (am_R (.inl (some (.int (mCnt (hlk (I (m + 1)) g T) g T)))) I' L) ∧ I' (m + 1) = hlk (I (m + 1)) g T ∧ ∀ c, c ≠ m + 1 → I' c = I c) T ?_ (fun j hj ih => ?_)
  · obtain ⟨I', hW, hP⟩ := loop I (by funext j; unfold hlk; rw [if_neg (by omega)]) (fun _ _ => rfl)
    exact ⟨I', bX9_halves_0 hW, hP⟩
  · intro I1 h1 h2
    have e1 : I1 (m + 1) 1 = nn T := by rw [h1]; unfold hlk; rw [if_neg (by omega)]; exact hT
    refine ⟨I1, ?_, h1, h2⟩
    refine bX9_halves_2 o r0 a1 (nn_in (k := 1) (by decide) (by decide)) (fun _ => ?_) (fun h => absurd (Int32.le_of_eq (show I1 (m + 1) 1 = nn T from e1)) h)
    refine bX9_halves_35 o (Nat.zero_le _) (Nat.zero_le _) (eX9_counts hm hg e1 hT8) ?_
    refine bX9_halves_40 ?_
    exact am_R_e (by rw [h1]) rfl rfl
  · intro I1 h1 h2
    have e1 : I1 (m + 1) 1 = nn T := by rw [h1]; unfold hlk; rw [if_neg (by omega)]; exact hT
    obtain ⟨I', hW, hP⟩ := ih (am_u I1 (m + 1) (132 + g * 94 + (10 + j)) (I1 (m + 1) (132 + g * 94 + (10 + j)) / 2)) (by
      funext i
      rw [at1, h1]
      unfold hlk
      by_cases hi : i = 132 + g * 94 + (10 + j)
      · rw [if_pos hi, if_neg (by omega), if_pos (by omega), hi]
      · rw [if_neg hi]
        by_cases hr : 132 + g * 94 + 10 ≤ i ∧ i < 132 + g * 94 + 10 + j
        · rw [if_pos hr, if_pos (by omega)]
        · rw [if_neg hr, if_neg (by omega)]) (fun c hc => by rw [am_u_ne hc, h2 c hc])
    refine ⟨I', ?_, hP⟩
    refine bX9_halves_2 o r0 a1 (nn_in (k := 1) (by decide) (by decide)) (fun h => absurd h (by show ¬ I1 (m + 1) 1 ≤ nn j; rw [e1, nn_le (by omega) (by omega)]; omega)) (fun _ => ?_)
    refine bX9_halves_12 o (Nat.zero_le _) (Nat.zero_le _) (eX9_count hm hg (by omega)) ?_
    refine bX9_halves_24 o (Nat.zero_le _) (Nat.zero_le _) (by rw [nl_10, nn_add]; exact eX9_putGate hm hg (by omega) _) ?_
    refine bX9_halves_29 ?_
    rw [nn_s1]
    exact hW
theorem eX9_puts (hm : mdF Γ m) {i : Nat} (hi : i < 508) (v : Int32) : am_E m_X9_puts d 0 0 [.ref m, .int (nn i), .int v] Γ I L (.inl (some (.int (I (m + 1) i)))) (am_u I (m + 1) i v) L := by
  obtain ⟨o, r0, r1, r2, r3, r4, r7, r8, r13, r14, r15, r16, r17, a1, a2, a3, a4, a5, a6, a7, a8, a9, a10, a11, a12⟩ := id hm
  refine am_ofE rfl rfl rfl (Nat.le_of_ble_eq_true rfl) ?_
  refine bX9_puts_0 o r0 a1 (nn_in (by omega) hi) ?_
  rw [nn_nat (by omega)]
  exact ⟨rfl, rfl, rfl⟩
theorem eX9_advances (hm : mdF Γ m) {N : Nat} (hG : I (m + 1) 2 = nn N) (h4 : N ≤ 4) (v : Int32) : am_E m_X9_advances (d + 4) 0 0 [.ref m, .int v] Γ I L (.inl (some (.int (mOpen (up (I (m + 1)) 3 (I (m + 1) 3 + v)) N)))) (am_u I (m + 1) 3 (I (m + 1) 3 + v)) L := by
  obtain ⟨o, r0, r1, r2, r3, r4, r7, r8, r13, r14, r15, r16, r17, a1, a2, a3, a4, a5, a6, a7, a8, a9, a10, a11, a12⟩ := id hm
  refine am_ofE rfl rfl rfl (Nat.le_of_ble_eq_true rfl) ?_
  refine bX9_advances_0 o r0 a1 (nn_in (k := 3) (by decide) (by decide)) (Nat.zero_le _) (Nat.zero_le _) (eX9_openGates hm (N := N) (by
    show am_u I (m + 1) 3 _ (m + 1) 2 = _
    rw [am_u_at, if_neg (fun z => by omega)]
    exact hG) h4) ?_
  refine bX9_advances_14 ?_
  refine am_R_e ?_ rfl rfl
  show mOpen (am_u I (m + 1) 3 (I (m + 1) 3 + v) (m + 1)) N = _
  rw [am_u_up]
end M5
