/-! CONTRACTS OF THE MODEL: twins, splits, bare leaves -/
theorem ffs_lt {p : Nat → Bool} {n : Nat} (h : ∃ i, i < n ∧ p i = true) : ffs p n < n := by
  obtain ⟨i, hi, hp⟩ := h
  by_cases hl : ffs p n < n
  · exact hl
  · have := (ffs_sp p n).1 i (by omega)
    rw [hp] at this
    exact absurd this (by decide)
def splq (ys : Nat → Nat) (S q : Nat) : Bool := decide (¬ S &&& ys q = 0 ∧ ¬ nots S (ys q) = 0)
def spl (ys : Nat → Nat) (S Q : Nat) : Bool := decide (ffs (splq ys S) Q < Q)
theorem split_nn {I : am_I} {b S Q : Nat} {ys : Nat → Nat} (hS : S < 2147483648) (h : ∀ q, q < Q → I (b + 3) q = nn (ys q)) : split I b (nn S) Q = spl ys S Q := by
  have e : ffs (splP I b (nn S)) Q = ffs (splq ys S) Q := ffs_congr Q (fun q hq => by
    unfold splP splq
    rw [h q hq, nn_and, nn_andn]
    have l1 : S &&& ys q ≤ S := Nat.and_le_left
    have l2 : nots S (ys q) ≤ S := by have := and_nots S (ys q); omega
    exact decide_eq_decide.mpr (and_congr (not_congr (nn_eq (b := 0) (by omega) (by decide))) (not_congr (nn_eq (a := nots S (ys q)) (b := 0) (by omega) (by decide)))))
  unfold split spl
  rw [e]
theorem spl_two {T Q t u : Nat} {ty : Nat → Nat} (ht : t < T) (hu : u < T) (ht2 : ty t < 2 ^ Q) (hu2 : ty u < 2 ^ Q) : spl (yse T ty) (2 ^ t ||| 2 ^ u) Q = !decide (ty t = ty u) := by
  have bS : ∀ i, (2 ^ t ||| 2 ^ u).testBit i = (decide (t = i) || decide (u = i)) := fun i => by rw [Nat.testBit_or, Nat.testBit_two_pow, Nat.testBit_two_pow]
  by_cases h : ty t = ty u
  · rw [decide_eq_true h]
    unfold spl
    rw [ffs_none (fun q hq => ?_)]
    · simp
    unfold splq
    refine decide_eq_false (fun z => ?_)
    cases hb : (ty t).testBit q
    · refine z.1 (Nat.eq_of_testBit_eq fun i => ?_)
      rw [Nat.testBit_and, bS, Nat.zero_testBit]
      by_cases h1 : t = i
      · subst h1; rw [yse_bit ht, hb, Bool.and_false]
      · by_cases h2 : u = i
        · subst h2; rw [yse_bit hu, ← h, hb, Bool.and_false]
        · rw [decide_eq_false h1, decide_eq_false h2]; rfl
    · refine z.2 (Nat.eq_of_testBit_eq fun i => ?_)
      rw [nots_bit, bS, Nat.zero_testBit]
      by_cases h1 : t = i
      · subst h1; rw [yse_bit ht, hb]; simp
      · by_cases h2 : u = i
        · subst h2; rw [yse_bit hu, ← h, hb]; simp
        · rw [decide_eq_false h1, decide_eq_false h2]; rfl
  · rw [decide_eq_false h]
    unfold spl
    refine decide_eq_true (ffs_lt ?_)
    by_cases hx : ∃ q, q < Q ∧ ¬ (ty t).testBit q = (ty u).testBit q
    · obtain ⟨q, hq, hne⟩ := hx
      refine ⟨q, hq, ?_⟩
      unfold splq
      have two : ∀ a b, a < T → b < T → (a = t ∧ b = u ∨ a = u ∧ b = t) → (ty a).testBit q = true → (ty b).testBit q = false → ¬ (2 ^ t ||| 2 ^ u) &&& yse T ty q = 0 ∧ ¬ nots (2 ^ t ||| 2 ^ u) (yse T ty q) = 0 := by
        intro a b ha hb hab e1 e2
        have sa : (2 ^ t ||| 2 ^ u).testBit a = true := by rw [bS]; rcases hab with z | z <;> simp [z.1]
        have sb : (2 ^ t ||| 2 ^ u).testBit b = true := by rw [bS]; rcases hab with z | z <;> simp [z.2]
        refine ⟨fun z => ?_, fun z => ?_⟩
        · have := congrArg (fun n => n.testBit a) z
          simp only [Nat.testBit_and, sa, yse_bit ha, e1, Nat.zero_testBit] at this
          exact absurd this (by decide)
        · have := congrArg (fun n => n.testBit b) z
          simp only [nots_bit, sb, yse_bit hb, e2, Nat.zero_testBit] at this
          exact absurd this (by decide)
      refine decide_eq_true ?_
      cases h1 : (ty t).testBit q
      · cases h2 : (ty u).testBit q
        · rw [h1, h2] at hne; exact absurd rfl hne
        · exact two u t hu ht (Or.inr ⟨rfl, rfl⟩) h2 h1
      · cases h2 : (ty u).testBit q
        · exact two t u ht hu (Or.inl ⟨rfl, rfl⟩) h1 h2
        · rw [h1, h2] at hne; exact absurd rfl hne
    · refine absurd (Nat.eq_of_testBit_eq fun i => ?_) h
      by_cases hi : i < Q
      · exact Classical.byContradiction (fun z => hx ⟨i, hi, z⟩)
      · have p : 2 ^ Q ≤ 2 ^ i := Nat.pow_le_pow_right (by decide) (by omega)
        rw [Nat.testBit_lt_two_pow (by omega), Nat.testBit_lt_two_pow (by omega)]
section M6
variable {d : Nat} {Γ : am_G} {I : am_I} {L : am_L} {m : Nat} {g Q T e : Nat} {qc ty tl ct : Nat → Nat}
theorem eX9_canSplit (hm : mdF Γ m) (hd : mda (I (m + 1)) g Q T qc ty tl ct) {S : Nat} (hS : S < 256) : am_E m_X9_canSplit (d + 3) 0 0 [.ref m, .int (nn S)] Γ I L (.inl (some (.int (bi (spl (yse T ty) S Q))))) I L := by
  obtain ⟨o, r0, r1, r2, r3, r4, r7, r8, r13, r14, r15, r16, r17, a1, a2, a3, a4, a5, a6, a7, a8, a9, a10, a11, a12⟩ := id hm
  obtain ⟨hQ, hT, hQ6, hT0, hT8, hqs, hts⟩ := id hd
  refine am_ofE rfl rfl rfl (Nat.le_of_ble_eq_true rfl) ?_
  refine bX9_canSplit_0 ?_
  refine nn_loop (fun k => (∀ i, i < k → splq (yse T ty) S i = false) → am_W m_X9_canSplit (d + 3) 0 0 false 0 0 2 [(0, .ref m), (1, .int (nn S)), (2, .int (nn k))] [] Γ I L (am_R (.inl (some (.int (bi (spl (yse T ty) S Q))))) I L)) Q (fun hk => ?_) (fun k hk ih h0 => ?_) (fun i hi => absurd hi (Nat.not_lt_zero i))
  · refine bX9_canSplit_2 o r0 a1 (nn_in (k := 0) (by decide) (by decide)) (fun _ => ?_) (fun h => absurd (Int32.le_of_eq (show I (m + 1) 0 = nn Q from hQ)) h)
    refine bX9_canSplit_36 ?_
    refine am_R_e ?_ rfl rfl
    unfold spl
    rw [ffs_none hk]
    simp [bi]
  · refine bX9_canSplit_2 o r0 a1 (nn_in (k := 0) (by decide) (by decide)) (fun h => absurd h (by show ¬ I (m + 1) 0 ≤ nn k; rw [hQ, nn_le (by omega) (by omega)]; omega)) (fun _ => ?_)
    refine bX9_canSplit_12 o (Nat.zero_le _) (Nat.zero_le _) (eX9_yesOf hm hd hS (by omega)) ?_
    have l1 : S &&& yse T ty k ≤ S := Nat.and_le_left
    have hn := and_nots S (yse T ty k)
    have go : splq (yse T ty) S k = false → am_W m_X9_canSplit (d + 3) 0 0 false 0 0 30 [(0, .ref m), (1, .int (nn S)), (2, .int (nn k)), (3, .int (nn (S &&& yse T ty k)))] [] Γ I L (am_R (.inl (some (.int (bi (spl (yse T ty) S Q))))) I L) := by
      intro hp
      refine bX9_canSplit_30 ?_
      refine aw_take 3 ?_
      refine aw_els (ih (fun i hi => ?_)) (by rw [nn_s1]; rfl)
      by_cases hi2 : i < k
      · exact h0 i hi2
      · obtain rfl : i = k := by omega
        exact hp
    refine bX9_canSplit_18 (fun h => ?_) (fun h => ?_)
    · rw [nl_0, nn_eq (by omega) (by omega)] at h
      exact go (by unfold splq; exact decide_eq_false (fun z => z.1 h))
    · rw [nl_0, nn_eq (by omega) (by omega)] at h
      refine bX9_canSplit_23 (fun h2 => ?_) (fun h2 => ?_)
      · rw [nn_eq (by omega) (by omega)] at h2
        exact go (by unfold splq; exact decide_eq_false (fun z => z.2 (by omega)))
      · rw [nn_eq (by omega) (by omega)] at h2
        refine bX9_canSplit_28 ?_
        refine am_R_e ?_ rfl rfl
        unfold spl
        rw [ffs_eq h0 (by unfold splq; exact decide_eq_true ⟨h, by omega⟩) hk]
        simp [bi, hk]
def twq (w : Nat → Int32) (t : Nat) (c : Int32) (u : Nat) : Bool := decide (¬ t = u ∧ w (60 + t * 9 + 1) = w (60 + u * 9 + 1) ∧ w (60 + u * 9 + 0) = c)
theorem eX9_isTwin (hm : mdF Γ m) {t u : Nat} (ht : t < 8) (hu : u < 8) (c : Int32) : am_E m_X9_isTwin (d + 1) 0 0 [.ref m, .int (nn t), .int (nn u), .int c] Γ I L (.inl (some (.int (bi (twq (I (m + 1)) t c u))))) I L := by
  obtain ⟨o, r0, r1, r2, r3, r4, r7, r8, r13, r14, r15, r16, r17, a1, a2, a3, a4, a5, a6, a7, a8, a9, a10, a11, a12⟩ := id hm
  refine am_ofE rfl rfl rfl (Nat.le_of_ble_eq_true rfl) ?_
  refine bX9_isTwin_0 (fun h => ?_) (fun h => ?_)
  · refine bX9_isTwin_34 ?_
    refine bX9_isTwin_35 rfl ?_
    rw [nn_eq (by omega) (by omega)] at h
    exact am_R_e (by unfold twq; rw [decide_eq_false (fun z => z.1 h)]; rfl) rfl rfl
  · rw [nn_eq (by omega) (by omega)] at h
    refine bX9_isTwin_5 o (Nat.zero_le _) (Nat.zero_le _) (eX9_ofType (k := 1) hm ht (by decide)) ?_
    refine bX9_isTwin_11 o (Nat.zero_le _) (Nat.zero_le _) (eX9_ofType (k := 1) hm hu (by decide)) ?_
    refine bX9_isTwin_17 (fun h2 => ?_) (fun h2 => ?_)
    · refine bX9_isTwin_34 ?_
      refine bX9_isTwin_35 rfl ?_
      exact am_R_e (by unfold twq; rw [decide_eq_false (fun z => h2 z.2.1)]; rfl) rfl rfl
    · refine bX9_isTwin_20 o (Nat.zero_le _) (Nat.zero_le _) (eX9_ofType (k := 0) hm hu (by decide)) ?_
      refine bX9_isTwin_26 (fun h3 => ?_) (fun h3 => ?_)
      · refine bX9_isTwin_34 ?_
        refine bX9_isTwin_35 rfl ?_
        exact am_R_e (by unfold twq; rw [decide_eq_false (fun z => h3 z.2.2)]; rfl) rfl rfl
      · refine bX9_isTwin_30 ?_
        refine bX9_isTwin_35 rfl ?_
        exact am_R_e (by unfold twq; rw [decide_eq_true ⟨h, h2, h3⟩]; rfl) rfl rfl
/-- no leaf is bare -/
theorem eX9_bareLeaves (hm : mdF Γ m) (hg : g < 4) (hd : mda (I (m + 1)) g Q T qc ty tl ct) (htr : trW (I (m + 1)) g Q T ty e) : am_E m_X9_bareLeaves (d + 3) 0 0 [.ref m, .int (nn g)] Γ I L (.inl (some (.int 0))) I L := by
  obtain ⟨o, r0, r1, r2, r3, r4, r7, r8, r13, r14, r15, r16, r17, a1, a2, a3, a4, a5, a6, a7, a8, a9, a10, a11, a12⟩ := id hm
  obtain ⟨hQ, hT, hQ6, hT0, hT8, hqs, hts⟩ := id hd
  obtain ⟨h18, he0, he15, htv⟩ := id htr
  have p8 := two_le8 hT8
  have p2 : 2 ^ 1 ≤ 2 ^ T := Nat.pow_le_pow_right (n := 2) (by decide) hT0
  refine am_ofE rfl rfl rfl (Nat.le_of_ble_eq_true rfl) ?_
  refine bX9_bareLeaves_0 ?_
  refine nn_loop (fun n => am_W m_X9_bareLeaves (d + 3) 0 0 false 0 0 4 [(0, .ref m), (1, .int (nn g)), (2, .int 0), (3, .int (nn n))] [] Γ I L (am_R (.inl (some (.int 0))) I L)) e ?_ (fun n hn ih => ?_)
  · refine bX9_bareLeaves_4 o (Nat.zero_le _) (Nat.zero_le _) (eX9_ofGate (k := 18) hm hg (by decide)) ?_
    refine bX9_bareLeaves_12 (fun _ => ?_) (fun h => absurd (Int32.le_of_eq h18) h)
    refine bX9_bareLeaves_81 ?_
    exact ⟨rfl, rfl, rfl⟩
  · refine bX9_bareLeaves_4 o (Nat.zero_le _) (Nat.zero_le _) (eX9_ofGate (k := 18) hm hg (by decide)) ?_
    refine bX9_bareLeaves_12 (fun h => absurd h (by rw [h18, nn_le (by omega) (by omega)]; omega)) (fun _ => ?_)
    refine bX9_bareLeaves_15 o (Nat.zero_le _) (Nat.zero_le _) (eX9_ofNode (k := 0) hm hg (by omega) (by decide)) ?_
    -- the inner loop: v4 is 1 when a type was met, or none lies behind
    have inner : ∀ (f : Int32), (f = 1 ∨ f = 0 ∧ ∃ t, t < T ∧ lfA (rw5 (I (m + 1)) g 0) (rw5 (I (m + 1)) g 4) (nn t) e = n) → am_W m_X9_bareLeaves (d + 3) 0 0 false 0 0 36 [(0, .ref m), (1, .int (nn g)), (2, .int 0), (3, .int (nn n)), (4, .int f), (5, .int 0)] [] Γ I L (am_R (.inl (some (.int 0))) I L) := by
      intro f hf
      refine nn_loop (fun t => ∀ (f : Int32), (f = 1 ∨ f = 0 ∧ ∃ t', t ≤ t' ∧ t' < T ∧ lfA (rw5 (I (m + 1)) g 0) (rw5 (I (m + 1)) g 4) (nn t') e = n) → am_W m_X9_bareLeaves (d + 3) 0 0 false 0 0 36 [(0, .ref m), (1, .int (nn g)), (2, .int 0), (3, .int (nn n)), (4, .int f), (5, .int (nn t))] [] Γ I L (am_R (.inl (some (.int 0))) I L)) T (fun f hf => ?_) (fun t ht iht f hf => ?_) f (hf.imp id (fun z => ⟨z.1, z.2.elim (fun t h => ⟨t, Nat.zero_le _, h⟩)⟩))
      · have f1 : f = 1 := hf.resolve_right (fun z => by obtain ⟨-, t, b1, b2, -⟩ := z; omega)
        subst f1
        refine bX9_bareLeaves_36 o r0 a1 (nn_in (k := 1) (by decide) (by decide)) (fun _ => ?_) (fun h => absurd (Int32.le_of_eq (show I (m + 1) 1 = nn T from hT)) h)
        refine bX9_bareLeaves_67 (fun _ => ?_) (fun h => absurd h (by decide))
        refine bX9_bareLeaves_75 ?_
        refine aw_take 4 ?_
        refine aw_els ih (by rw [nn_s1]; rfl)
      · refine bX9_bareLeaves_36 o r0 a1 (nn_in (k := 1) (by decide) (by decide)) (fun h => absurd h (by show ¬ I (m + 1) 1 ≤ nn t; rw [hT, nn_le (by omega) (by omega)]; omega)) (fun _ => ?_)
        refine bX9_bareLeaves_47 o (Nat.zero_le _) (Nat.zero_le _) (eX9_leafFor hm hg hd htr ht) ?_
        have ll := (lfA_sp hQ6 (show t < 32 by omega) htv (by omega) (all_bit ht)).1
        refine bX9_bareLeaves_54 (fun h => ?_) (fun h => ?_)
        · rw [nn_eq (by omega) (by omega)] at h
          refine bX9_bareLeaves_61 ?_
          rw [nn_s1]
          refine iht f (hf.imp id (fun z => ⟨z.1, ?_⟩))
          obtain ⟨t', b1, b2, b3⟩ := z.2
          refine ⟨t', ?_, b2, b3⟩
          by_cases hq : t = t'
          · subst hq; exact absurd b3 h
          · omega
        · refine bX9_bareLeaves_58 ?_
          refine bX9_bareLeaves_61 ?_
          rw [nn_s1]
          exact iht 1 (Or.inl rfl)
    refine bX9_bareLeaves_22 (fun h => ?_) (fun h => ?_)
    · refine bX9_bareLeaves_30 ?_
      refine bX9_bareLeaves_31 ?_
      refine inner 0 (Or.inr ⟨rfl, ?_⟩)
      obtain ⟨S', s1, s2, s3, s4, s5, s6⟩ := tva_set hQ6 htv (by omega) n (Nat.zero_le _) hn
      -- a type of the leaf
      have hex : ∃ i, S'.testBit i = true := Classical.byContradiction (fun z => s1 (Nat.eq_of_testBit_eq fun i => by
        rw [Nat.zero_testBit]
        cases hb : S'.testBit i
        · rfl
        · exact absurd ⟨i, hb⟩ z))
      obtain ⟨t, hb⟩ := hex
      have hb2 := s4 t hb
      have ht : t < T := by
        by_cases hc : t < T
        · exact hc
        · have p : 2 ^ T ≤ 2 ^ t := Nat.pow_le_pow_right (by decide) (by omega)
          rw [Nat.testBit_lt_two_pow (by omega)] at hb2
          exact absurd hb2 (by decide)
      obtain ⟨l1, l2, l3, l4⟩ := lfA_sp hQ6 (show t < 32 by omega) htv (by omega) (all_bit ht)
      exact ⟨t, ht, (l4 n hn (by
        show I (m + 1) (132 + g * 94 + (19 + n * 5 + 0)) = -1
        exact h) (by rw [s3, ib_nn (by omega) (by omega)]; exact hb)).symm⟩
    · refine bX9_bareLeaves_26 ?_
      refine bX9_bareLeaves_31 ?_
      exact inner 1 (Or.inl rfl)
end M6
