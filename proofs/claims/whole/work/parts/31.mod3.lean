/-! CONTRACTS OF THE MODEL: the best tree is laid -/
/-- a node's number in the row: of gate g, number k of each node -/
def rw5 (w : Nat → Int32) (g k : Nat) (n : Nat) : Int32 := w (132 + g * 94 + (19 + n * 5 + k))
section M3
variable {d : Nat} {Γ : am_G} {I : am_I} {L : am_L} {m : Nat} {g Q T : Nat} {qc ty tl ct : Nat → Nat}
set_option maxHeartbeats 4000000 in
theorem eX9_lays_ (hm : mdF Γ m) (hg : g < 4) :
    ∀ (f : Nat) (d S l n : Nat) (I : am_I) (L : am_L), mda (I (m + 1)) g Q T qc ty tl ct → (∀ S, 0 < S → S < 2 ^ T → ∀ l, l ≤ 30 → rk I m S l (bB Q T qc (yse T ty) tl ct (fbq (-1)) S l)) → S < f → 0 < S → S < 2 ^ T → l ≤ 30 → n + 2 * pcs T S ≤ 16 → I (m + 1) (132 + g * 94 + 18) = nn n →
      ∃ I' e, am_E m_X9_lays_ (d + f + 4) 0 0 [.ref m, .int (nn g), .int (nn S), .int (nn l)] Γ I L (.inl (some (.int (nn n)))) I' L ∧ I' (m + 1) (132 + g * 94 + 18) = nn e ∧ n < e ∧ e + 1 ≤ n + 2 * pcs T S ∧
        tvb Q T qc (yse T ty) tl ct (fbq (-1)) (rw5 (I' (m + 1)) g 0) (rw5 (I' (m + 1)) g 1) (rw5 (I' (m + 1)) g 2) (rw5 (I' (m + 1)) g 3) (rw5 (I' (m + 1)) g 4) f n S l e ∧
        (∀ c, c ≠ m + 1 → I' c = I c) ∧ ∀ j, j ≠ 132 + g * 94 + 18 → ¬ (132 + g * 94 + (19 + n * 5) ≤ j ∧ j < 132 + g * 94 + (19 + e * 5)) → I' (m + 1) j = I (m + 1) j := by
  obtain ⟨o, r0, r1, r2, r3, r4, r7, r8, r13, r14, r15, r16, r17, a1, a2, a3, a4, a5, a6, a7, a8, a9, a10, a11, a12⟩ := id hm
  intro f
  induction f with
  | zero => intro d S l n I L _ _ h; exact absurd h (Nat.not_lt_zero _)
  | succ f ih =>
    intro d S l n I L hd hrk hf h0 hS hl hnb hn
    obtain ⟨hQ, hT, hQ6, hT0, hT8, hqs, hts⟩ := id hd
    have p8 := two_le8 hT8
    have pp := pcs_pos h0 hS
    have ct9 : ∀ t, t < T → ct t ≤ 9999 := fun t h => (hts t h).2.2.2.2.2
    obtain ⟨-, -, hroot⟩ := hrk S h0 hS l hl
    have mdT : ∀ (J : am_I), (∀ j, j ≠ 132 + g * 94 + 18 → ¬ (132 + g * 94 + 19 ≤ j ∧ j < 132 + g * 94 + 94) → J (m + 1) j = I (m + 1) j) → mda (J (m + 1)) g Q T qc ty tl ct := fun J h => hd.to (fun j hj => h j (by omega) (by omega)) (fun t ht => h _ (by omega) (by omega))
    have idx : ∀ k : Nat, 19 + nn n * 5 + nn k = nn (19 + n * 5 + k) := fun k => by simp (disch := omega) only [nl_19, nl_5, nn_add, nn_mul]
    have idx0 : 19 + nn n * 5 = nn (19 + n * 5) := by simp (disch := omega) only [nl_19, nl_5, nn_add, nn_mul]
    -- the node's own numbers
    have head : ∀ (I' : am_I) (qv : Int32), qv = nn (bB Q T qc (yse T ty) tl ct (fbq (-1)) S l % 8) - 1 → am_W m_X9_lays_ (d + f + 4 + 1) 0 0 false 0 0 62 [(0, .ref m), (1, .int (nn g)), (2, .int (nn S)), (3, .int (nn l)), (4, .int (nn n)), (5, .int (nn (19 + n * 5))), (6, .int qv)] [] Γ (am_u (am_u (am_u I (m + 1) (132 + g * 94 + 18) (nn (n + 1))) (m + 1) (132 + g * 94 + (19 + n * 5 + 4)) (nn S)) (m + 1) (132 + g * 94 + (19 + n * 5 + 0)) qv) L (am_R (.inl (some (.int (nn n)))) I' L) →
        am_W m_X9_lays_ (d + f + 4 + 1) 0 0 false 0 0 0 [(0, .ref m), (1, .int (nn g)), (2, .int (nn S)), (3, .int (nn l))] [] Γ I L (am_R (.inl (some (.int (nn n)))) I' L) := by
      intro I' qv hqv h
      refine bX9_lays__0 o (Nat.zero_le _) (Nat.zero_le _) (eX9_ofGate (k := 18) hm hg (by decide)) ?_
      rw [hn]
      refine bX9_lays__7 o (Nat.zero_le _) (Nat.zero_le _) (by rw [nn_s1]; exact eX9_putGate (k := 18) hm hg (by decide) _) ?_
      refine bX9_lays__20 o r15 (Nat.zero_le _) (Nat.zero_le _) (eX9_at (by omega) hl) ?_
      rw [idx0]
      refine bX9_lays__38 a10 (nn_in (by omega) (by omega)) o (Nat.zero_le _) (Nat.zero_le _) (by rw [nl_4, nn_add]; exact eX9_putGate hm hg (by omega) _) ?_
      rw [nn_nat (by omega), am_u_ne (show m + 10 ≠ m + 1 by omega), hroot, ← hqv]
      refine bX9_lays__51 o (Nat.zero_le _) (Nat.zero_le _) (by rw [show nn (19 + n * 5) + 0 = nn (19 + n * 5 + 0) from by rw [nl_0, nn_add]]; exact eX9_putGate hm hg (by omega) _) ?_
      exact h
    rw [show d + (f + 1) + 4 = d + f + 4 + 1 from by omega]
    by_cases hz : bB Q T qc (yse T ty) tl ct (fbq (-1)) S l % 8 = 0
    · -- a leaf
      have hdJ : mda ((am_u (am_u (am_u I (m + 1) (132 + g * 94 + 18) (nn (n + 1))) (m + 1) (132 + g * 94 + (19 + n * 5 + 4)) (nn S)) (m + 1) (132 + g * 94 + (19 + n * 5 + 0)) (-1)) (m + 1)) g Q T qc ty tl ct := mdT _ (fun j j1 j2 => by
        rw [am_u_at, if_neg (fun z => by omega), am_u_at, if_neg (fun z => by omega), am_u_at, if_neg (fun z => by omega)])
      obtain ⟨hE, -⟩ := eX9_bestToll (d := d + f + 1) (L := L) hm hg hdJ h0 hS
      have at1 : ∀ (J : am_I) (i : Nat) (v : Int32) (j : Nat), am_u J (m + 1) i v (m + 1) j = if j = i then v else J (m + 1) j := fun J i v j => by
        rw [am_u_at]
        by_cases h : j = i
        · rw [if_pos ⟨rfl, h⟩, if_pos h]
        · rw [if_neg (fun z => h z.2), if_neg h]
      refine ⟨am_u (am_u (am_u (am_u (am_u (am_u I (m + 1) (132 + g * 94 + 18) (nn (n + 1))) (m + 1) (132 + g * 94 + (19 + n * 5 + 4)) (nn S)) (m + 1) (132 + g * 94 + (19 + n * 5 + 0)) (-1)) (m + 1) (132 + g * 94 + (19 + n * 5 + 1)) (nn (bt T tl ct S))) (m + 1) (132 + g * 94 + (19 + n * 5 + 2)) (-1)) (m + 1) (132 + g * 94 + (19 + n * 5 + 3)) (-1), n + 1,
        am_ofE rfl rfl rfl (Nat.le_of_ble_eq_true rfl) (head _ (-1) (by rw [hz]; rfl) ?_), ?_, by omega, by omega, ⟨?_, Or.inl ⟨hz, ?_, ?_, ?_, ?_, rfl⟩⟩, fun c hc => ?_, fun j j1 j2 => ?_⟩
      · refine bX9_lays__62 (fun h => absurd rfl h) (fun _ => ?_)
        refine bX9_lays__74 o (Nat.zero_le _) (Nat.zero_le _) hE ?_
        refine bX9_lays__80 ?_
        refine bX9_lays__84 o (Nat.zero_le _) (Nat.zero_le _) (by rw [nl_1, nn_add]; exact eX9_putGate hm hg (by omega) _) ?_
        refine bX9_lays__87 (fun h => absurd rfl h) (fun _ => ?_)
        refine bX9_lays__93 ?_
        refine bX9_lays__104 (fun h => absurd rfl h) (fun _ => ?_)
        refine bX9_lays__112 ?_
        refine bX9_lays__131 (fun h => absurd rfl h) (fun _ => ?_)
        refine bX9_lays__139 ?_
        refine bX9_lays__162 o (Nat.zero_le _) (Nat.zero_le _) (by rw [nl_2, nn_add]; exact eX9_putGate hm hg (by omega) _) ?_
        refine bX9_lays__175 o (Nat.zero_le _) (Nat.zero_le _) (by rw [nl_3, nn_add]; exact eX9_putGate hm hg (by omega) _) ?_
        refine bX9_lays__186 ?_
        exact ⟨rfl, rfl, rfl⟩
      · simp (disch := omega) only [at1, if_pos, if_neg, if_true]
      · show am_u _ _ _ _ _ _ = _
        simp (disch := omega) only [at1, if_pos, if_neg, if_true]
      · show am_u _ _ _ _ _ _ = _
        simp (disch := omega) only [at1, if_pos, if_neg, if_true]
      · show am_u _ _ _ _ _ _ = _
        simp (disch := omega) only [at1, if_pos, if_neg, if_true]
      · show am_u _ _ _ _ _ _ = _
        simp (disch := omega) only [at1, if_pos, if_neg, if_true]
      · show am_u _ _ _ _ _ _ = _
        simp (disch := omega) only [at1, if_pos, if_neg, if_true]
      · rw [am_u_ne hc, am_u_ne hc, am_u_ne hc, am_u_ne hc, am_u_ne hc, am_u_ne hc]
      · simp (disch := omega) only [at1, if_pos, if_neg, if_true]
    · -- an inner node
      obtain ⟨q, hqQ, hok, hql, hbq⟩ := (bB_b (Q := Q) (T := T) (qc := qc) (ys := yse T ty) (tl := tl) (ct := ct) (fb := fbq (-1)) hQ6 hT8 ct9 S (by omega) l hl).2.2 hz
      obtain ⟨l1, l2, n1, n2⟩ := oks_lt (yse T ty) (fbq (-1)) hok
      obtain ⟨eqc, q1, q9⟩ := hqs q hqQ
      have py := pcs_pos (T := T) (S := S &&& yse T ty q) (by omega) (by omega)
      have pno := pcs_pos (T := T) (S := nots S (yse T ty q)) (by omega) (by omega)
      have psp := pcs_split T S (yse T ty q)
      have at1 : ∀ (J : am_I) (i : Nat) (v : Int32) (j : Nat), am_u J (m + 1) i v (m + 1) j = if j = i then v else J (m + 1) j := fun J i v j => by
        rw [am_u_at]
        by_cases h : j = i
        · rw [if_pos ⟨rfl, h⟩, if_pos h]
        · rw [if_neg (fun z => h z.2), if_neg h]
      have em : nn q = nn (bB Q T qc (yse T ty) tl ct (fbq (-1)) S l % 8) - 1 := by rw [hbq, nl_1, nn_sub (by omega)]; rfl
      -- ahead of the children
      have hJn : ∀ j, j ≠ 132 + g * 94 + 18 → ¬ (132 + g * 94 + (19 + n * 5) ≤ j ∧ j < 132 + g * 94 + (19 + (n + 1) * 5)) → am_u (am_u (am_u (am_u I (m + 1) (132 + g * 94 + 18) (nn (n + 1))) (m + 1) (132 + g * 94 + (19 + n * 5 + 4)) (nn S)) (m + 1) (132 + g * 94 + (19 + n * 5 + 0)) (nn q)) (m + 1) (132 + g * 94 + (19 + n * 5 + 1)) (-1) (m + 1) j = I (m + 1) j := fun j j1 j2 => by
        simp (disch := omega) only [at1, if_pos, if_neg, if_true]
      have hJc : ∀ c, c ≠ m + 1 → am_u (am_u (am_u (am_u I (m + 1) (132 + g * 94 + 18) (nn (n + 1))) (m + 1) (132 + g * 94 + (19 + n * 5 + 4)) (nn S)) (m + 1) (132 + g * 94 + (19 + n * 5 + 0)) (nn q)) (m + 1) (132 + g * 94 + (19 + n * 5 + 1)) (-1) c = I c := fun c hc => by
        rw [am_u_ne hc, am_u_ne hc, am_u_ne hc, am_u_ne hc]
      have hJ18 : am_u (am_u (am_u (am_u I (m + 1) (132 + g * 94 + 18) (nn (n + 1))) (m + 1) (132 + g * 94 + (19 + n * 5 + 4)) (nn S)) (m + 1) (132 + g * 94 + (19 + n * 5 + 0)) (nn q)) (m + 1) (132 + g * 94 + (19 + n * 5 + 1)) (-1) (m + 1) (132 + g * 94 + 18) = nn (n + 1) := by
        simp (disch := omega) only [at1, if_pos, if_neg, if_true]
      have hJ4 : am_u (am_u (am_u (am_u I (m + 1) (132 + g * 94 + 18) (nn (n + 1))) (m + 1) (132 + g * 94 + (19 + n * 5 + 4)) (nn S)) (m + 1) (132 + g * 94 + (19 + n * 5 + 0)) (nn q)) (m + 1) (132 + g * 94 + (19 + n * 5 + 1)) (-1) (m + 1) (132 + g * 94 + (19 + n * 5 + 4)) = nn S := by
        simp (disch := omega) only [at1, if_pos, if_neg, if_true]
      have hJ0 : am_u (am_u (am_u (am_u I (m + 1) (132 + g * 94 + 18) (nn (n + 1))) (m + 1) (132 + g * 94 + (19 + n * 5 + 4)) (nn S)) (m + 1) (132 + g * 94 + (19 + n * 5 + 0)) (nn q)) (m + 1) (132 + g * 94 + (19 + n * 5 + 1)) (-1) (m + 1) (132 + g * 94 + (19 + n * 5 + 0)) = nn q := by
        simp (disch := omega) only [at1, if_pos, if_neg, if_true]
      have hJ1 : am_u (am_u (am_u (am_u I (m + 1) (132 + g * 94 + 18) (nn (n + 1))) (m + 1) (132 + g * 94 + (19 + n * 5 + 4)) (nn S)) (m + 1) (132 + g * 94 + (19 + n * 5 + 0)) (nn q)) (m + 1) (132 + g * 94 + (19 + n * 5 + 1)) (-1) (m + 1) (132 + g * 94 + (19 + n * 5 + 1)) = -1 := by
        simp (disch := omega) only [at1, if_pos, if_neg, if_true]
      have put1 := eX9_putGate (d := d + f + 4) (L := L) (Γ := Γ) (I := am_u (am_u (am_u I (m + 1) (132 + g * 94 + 18) (nn (n + 1))) (m + 1) (132 + g * 94 + (19 + n * 5 + 4)) (nn S)) (m + 1) (132 + g * 94 + (19 + n * 5 + 0)) (nn q)) hm hg (show 19 + n * 5 + 1 < 94 by omega) (-1)
      generalize hJ : am_u (am_u (am_u (am_u I (m + 1) (132 + g * 94 + 18) (nn (n + 1))) (m + 1) (132 + g * 94 + (19 + n * 5 + 4)) (nn S)) (m + 1) (132 + g * 94 + (19 + n * 5 + 0)) (nn q)) (m + 1) (132 + g * 94 + (19 + n * 5 + 1)) (-1) = J at *
      have hdJ : mda (J (m + 1)) g Q T qc ty tl ct := mdT J (fun j j1 j2 => hJn j j1 (by omega))
      have rkJ : ∀ S, 0 < S → S < 2 ^ T → ∀ l, l ≤ 30 → rk J m S l (bB Q T qc (yse T ty) tl ct (fbq (-1)) S l) := fun S' a b l' c => by
        have := hrk S' a b l' c
        unfold rk at this ⊢
        rw [hJc _ (by omega), hJc _ (by omega), hJc _ (by omega)]
        exact this
      obtain ⟨I5, m1, hE5, e5, lt5, le5, tv5, fc5, fr5⟩ := ih d (S &&& yse T ty q) (l - qc q) (n + 1) J L hdJ rkJ (by omega) (by omega) (by omega) (by omega) (by omega) hJ18
      have hd5 : mda (I5 (m + 1)) g Q T qc ty tl ct := hdJ.to (fun j hj => fr5 j (by omega) (by omega)) (fun t ht => fr5 _ (by omega) (by omega))
      have rk5 : ∀ S, 0 < S → S < 2 ^ T → ∀ l, l ≤ 30 → rk I5 m S l (bB Q T qc (yse T ty) tl ct (fbq (-1)) S l) := fun S' a b l' c => by
        have := rkJ S' a b l' c
        unfold rk at this ⊢
        rw [fc5 _ (by omega), fc5 _ (by omega), fc5 _ (by omega)]
        exact this
      obtain ⟨I6, m2, hE6, e6, lt6, le6, tv6, fc6, fr6⟩ := ih d (nots S (yse T ty q)) (l - qc q) m1 I5 L hd5 rk5 (by omega) (by omega) (by omega) (by omega) (by omega) e5
      have old : ∀ k, k < 2 → I6 (m + 1) (132 + g * 94 + (19 + n * 5 + k)) = J (m + 1) (132 + g * 94 + (19 + n * 5 + k)) := fun k hk => by rw [fr6 _ (by omega) (by omega), fr5 _ (by omega) (by omega)]
      have old4 : I6 (m + 1) (132 + g * 94 + (19 + n * 5 + 4)) = J (m + 1) (132 + g * 94 + (19 + n * 5 + 4)) := by rw [fr6 _ (by omega) (by omega), fr5 _ (by omega) (by omega)]
      have fin : ∀ j, (j ≠ 132 + g * 94 + (19 + n * 5 + 2)) → (j ≠ 132 + g * 94 + (19 + n * 5 + 3)) → am_u (am_u I6 (m + 1) (132 + g * 94 + (19 + n * 5 + 2)) (nn (n + 1))) (m + 1) (132 + g * 94 + (19 + n * 5 + 3)) (nn m1) (m + 1) j = I6 (m + 1) j := fun j h1 h2 => by
        rw [at1, if_neg h2, at1, if_neg h1]
      have r5 : ∀ k j, k < 5 → n + 1 ≤ j → rw5 (am_u (am_u I6 (m + 1) (132 + g * 94 + (19 + n * 5 + 2)) (nn (n + 1))) (m + 1) (132 + g * 94 + (19 + n * 5 + 3)) (nn m1) (m + 1)) g k j = rw5 (I6 (m + 1)) g k j := fun k j hk hj => fin _ (by omega) (by omega)
      have r6 : ∀ k j, k < 5 → n + 1 ≤ j → j < m1 → rw5 (I6 (m + 1)) g k j = rw5 (I5 (m + 1)) g k j := fun k j hk hj hj2 => fr6 _ (by omega) (by omega)
      refine ⟨am_u (am_u I6 (m + 1) (132 + g * 94 + (19 + n * 5 + 2)) (nn (n + 1))) (m + 1) (132 + g * 94 + (19 + n * 5 + 3)) (nn m1), m2, am_ofE rfl rfl rfl (Nat.le_of_ble_eq_true rfl) (head _ (nn q) em ?_), ?_, by omega, by omega, ⟨?_, Or.inr ⟨q, m1, hbq, ?_, ?_, ?_, ?_, ?_, ?_⟩⟩, fun c hc => ?_, fun j j1 j2 => ?_⟩
      · refine bX9_lays__62 (fun _ => ?_) (fun h => absurd h (nn_none (by omega)))
        refine bX9_lays__83 ?_
        refine bX9_lays__84 o (Nat.zero_le _) (Nat.zero_le _) (by rw [nn_s1]; exact put1) ?_
        refine bX9_lays__87 (fun _ => ?_) (fun h => absurd h (nn_none (by omega)))
        refine bX9_lays__97 o (Nat.zero_le _) (Nat.zero_le _) (eX9_yesOf (d := d + f + 2) hm hdJ (by omega) (by omega)) ?_
        refine bX9_lays__104 (fun _ => ?_) (fun h => absurd h (nn_none (by omega)))
        refine bX9_lays__116 o (Nat.zero_le _) (Nat.zero_le _) (eX9_cost hm (by omega)) ?_
        rw [(hdJ.2.2.2.2.2.1 q hqQ).1]
        refine bX9_lays__127 o (Nat.zero_le _) (Nat.zero_le _) (by rw [nn_sub hql]; exact hE5) ?_
        refine bX9_lays__131 (fun _ => ?_) (fun h => absurd h (nn_none (by omega)))
        refine bX9_lays__143 o (Nat.zero_le _) (Nat.zero_le _) (eX9_cost hm (by omega)) ?_
        rw [(hd5.2.2.2.2.2.1 q hqQ).1, show nn S &&& (nn (S &&& yse T ty q) ^^^ -1) = nn (nots S (yse T ty q)) from by rw [nn_andn]; exact congrArg nn (nots_and S (yse T ty q))]
        refine bX9_lays__158 o (Nat.zero_le _) (Nat.zero_le _) (by rw [nn_sub hql]; exact hE6) ?_
        refine bX9_lays__162 o (Nat.zero_le _) (Nat.zero_le _) (by rw [nl_2, nn_add]; exact eX9_putGate hm hg (by omega) _) ?_
        refine bX9_lays__175 o (Nat.zero_le _) (Nat.zero_le _) (by rw [nl_3, nn_add]; exact eX9_putGate hm hg (by omega) _) ?_
        refine bX9_lays__186 ?_
        exact ⟨rfl, rfl, rfl⟩
      · rw [fin _ (by omega) (by omega), e6]
      · show am_u _ _ _ _ _ _ = _
        rw [fin _ (by omega) (by omega), old4, hJ4]
      · show am_u _ _ _ _ _ _ = _
        rw [fin _ (by omega) (by omega), old 0 (by decide), hJ0]
      · show am_u _ _ _ _ _ _ = _
        rw [fin _ (by omega) (by omega), old 1 (by decide), hJ1]
      · show am_u _ _ _ _ _ _ = _
        rw [at1, if_neg (by omega), at1, if_pos rfl]
      · show am_u _ _ _ _ _ _ = _
        rw [at1, if_pos rfl]
      · exact tvb_cong tv5 (fun j h1 h2 => ⟨by rw [r5 0 j (by decide) h1, r6 0 j (by decide) h1 h2], by rw [r5 1 j (by decide) h1, r6 1 j (by decide) h1 h2], by rw [r5 2 j (by decide) h1, r6 2 j (by decide) h1 h2], by rw [r5 3 j (by decide) h1, r6 3 j (by decide) h1 h2], by rw [r5 4 j (by decide) h1, r6 4 j (by decide) h1 h2]⟩)
      · exact tvb_cong tv6 (fun j h1 h2 => ⟨r5 0 j (by decide) (by omega), r5 1 j (by decide) (by omega), r5 2 j (by decide) (by omega), r5 3 j (by decide) (by omega), r5 4 j (by decide) (by omega)⟩)
      · rw [am_u_ne hc, am_u_ne hc, fc6 c hc, fc5 c hc, hJc c hc]
      · rw [fin j (by omega) (by omega), fr6 j j1 (by omega), fr5 j j1 (by omega), hJn j j1 (by omega)]
theorem eX9_builds (hm : mdF Γ m) (hg : g < 4) (hd : mda (I (m + 1)) g Q T qc ty tl ct) {lim : Nat} (hl : lim ≤ 30) (hlm : I (m + 1) (132 + g * 94 + 2) = nn lim) :
    ∃ I' e, am_E m_X9_builds (d + 261) 0 0 [.ref m, .int (nn g)] Γ I L (.inl (some (.int (nn e)))) I' L ∧ I' (m + 1) (132 + g * 94 + 18) = nn e ∧ 0 < e ∧ e ≤ 15 ∧
      tvb Q T qc (yse T ty) tl ct (fbq (-1)) (rw5 (I' (m + 1)) g 0) (rw5 (I' (m + 1)) g 1) (rw5 (I' (m + 1)) g 2) (rw5 (I' (m + 1)) g 3) (rw5 (I' (m + 1)) g 4) 256 0 (2 ^ T - 1) lim e ∧
      (∀ c, c ≠ m + 1 → c ≠ m + 8 → c ≠ m + 9 → c ≠ m + 10 → c ≠ m + 11 → I' c = I c) ∧ ∀ j, j ≠ 132 + g * 94 + 18 → ¬ (132 + g * 94 + 19 ≤ j ∧ j < 132 + g * 94 + (19 + e * 5)) → I' (m + 1) j = I (m + 1) j := by
  obtain ⟨o, r0, r1, r2, r3, r4, r7, r8, r13, r14, r15, r16, r17, a1, a2, a3, a4, a5, a6, a7, a8, a9, a10, a11, a12⟩ := id hm
  obtain ⟨hQ, hT, hQ6, hT0, hT8, hqs, hts⟩ := id hd
  have p8 := two_le8 hT8
  have p2 : 2 ^ 1 ≤ 2 ^ T := Nat.pow_le_pow_right (n := 2) (by decide) hT0
  have pall := pcs_le T (2 ^ T - 1)
  obtain ⟨I1, hE1, k1, k2, k3⟩ := eX9_findAll (d := d + 256) (L := L) hm hg hd (-1)
  have e1 : I1 (m + 1) = I (m + 1) := k3 _ (by omega) (by omega) (by omega) (by omega)
  have c2 : ∀ c, c ≠ m + 1 → am_u I1 (m + 1) (132 + g * 94 + 18) 0 c = I1 c := fun c hc => am_u_ne hc
  have j2 : ∀ j, j ≠ 132 + g * 94 + 18 → am_u I1 (m + 1) (132 + g * 94 + 18) 0 (m + 1) j = I (m + 1) j := fun j hj => by rw [am_u_at, if_neg (fun z => hj z.2), e1]
  have hd2 : mda (am_u I1 (m + 1) (132 + g * 94 + 18) 0 (m + 1)) g Q T qc ty tl ct := hd.to (fun j hj => j2 j (by omega)) (fun t ht => j2 _ (by omega))
  obtain ⟨I', e, hE, a18, lt, le, tv, fc, frr⟩ := eX9_lays_ (Q := Q) (T := T) (qc := qc) (ty := ty) (tl := tl) (ct := ct) hm hg 256 d (2 ^ T - 1) lim 0 (am_u I1 (m + 1) (132 + g * 94 + 18) 0) L hd2 (fun S' a b l' c => by
    have := k1 S' a b l' c
    unfold rk at this ⊢
    rw [c2 _ (by omega), c2 _ (by omega), c2 _ (by omega)]
    exact this) (by omega) (by omega) (by omega) hl (by omega) (by rw [am_u_at, if_pos ⟨rfl, rfl⟩]; rfl)
  refine ⟨I', e, am_ofE rfl rfl rfl (Nat.le_of_ble_eq_true rfl) ?_, a18, lt, by omega, tv, fun c c1 c8 c9 c10 c11 => by rw [fc c c1, c2 c c1, k3 c c8 c9 c10 c11], fun j h1 h2 => by rw [frr j h1 (by omega), j2 j h1]⟩
  refine bX9_builds_0 o (Nat.zero_le _) (Nat.zero_le _) hE1 ?_
  refine bX9_builds_6 o (Nat.zero_le _) (Nat.zero_le _) (eX9_putGate (k := 18) hm hg (by decide) _) ?_
  refine bX9_builds_14 o (Nat.zero_le _) (Nat.zero_le _) (eX9_allTypes hm hd2.2.1 hT8) ?_
  refine bX9_builds_20 o (Nat.zero_le _) (Nat.zero_le _) (eX9_ofGate (k := 2) hm hg (by decide)) ?_
  rw [j2 _ (by omega), hlm]
  refine bX9_builds_26 o (Nat.zero_le _) (Nat.zero_le _) hE ?_
  refine bX9_builds_29 o (Nat.zero_le _) (Nat.zero_le _) (eX9_ofGate (k := 18) hm hg (by decide)) ?_
  refine bX9_builds_37 ?_
  exact am_R_e (by rw [a18, nn_sub (Nat.zero_le _)]; rfl) rfl rfl
end M3
