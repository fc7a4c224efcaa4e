/-! NAMES: what is known, what is new; both sides -/
def pNew (B : Nat → Nat) (n : Nat) (v : Int32) (s : Nat) : Except (Nat × Nat) (Nat × Int32) := if nmb B n s = true then (if v = -1 then .ok (s, 1) else .error (4, s)) else .error (1, s)
theorem fNm_ge {w : Nat → Int32} {a0 st s len N : Nat} {B : Nat → Nat} (h : fNm w a0 st B s len N ≠ -1) : ∃ j, j < N ∧ fNm w a0 st B s len N = nn j := by
  unfold fNm at h ⊢
  by_cases hx : ffs (fun j => nmE w (a0 + j * st) B s len) N < N
  · rw [if_pos hx]; exact ⟨_, hx, rfl⟩
  · rw [if_neg hx] at h; exact absurd rfl h
theorem nmb_len {B : Nat → Nat} {n s : Nat} (h : nmb B n s = true) : en B n s - s ≤ 6 ∧ kd B n s = 0 ∧ 0 < en B n s - s ∧ en B n s ≤ n ∧ ∀ i, i < en B n s - s → 97 ≤ B (s + i) ∧ B (s + i) ≤ 122 := by
  obtain ⟨h1, h2⟩ := of_decide_eq_true h
  obtain ⟨k1, k2, k3⟩ := kd0_in h1
  have el := en_le (B := B) (n := n) (s := s) (by omega)
  have pos : s < en B n s := by
    rw [k2]
    have sl := scn_le (B := B) (n := n) (p := isL) (s := s) (by omega)
    by_cases hx : scn B n isL s = s
    · have := scn_end (B := B) (n := n) (p := isL) (s := s) (by omega) (by omega)
      rw [hx, k3] at this
      exact absurd this (by decide)
    · omega
  refine ⟨h2, h1, by omega, el.2, fun i hi => ?_⟩
  exact isL_b.mp (scn_in (B := B) (n := n) (p := isL) (s := s) (j := s + i) (by omega) (by omega))
/-- the class's look-ups answer what the row's names say -/
theorem fName_Q {I : am_I} {L : am_L} {b s n : Nat} {w : Nat → Int32} {B : Nat → Nat} (h : stR I L b w) (hw : wfp w) (hx : nmb B n s = true) : fName L (b + 1) (ll (nmk B s (en B n s - s))) (vQ w) = fNm w 13 8 B s (en B n s - s) (vQ w) := by
  obtain ⟨l6, -, -, -, hl⟩ := nmb_len hx
  have e : ffs (fun i => L (b + 1) i == ll (nmk B s (en B n s - s))) (vQ w) = ffs (fun j => nmE w (13 + j * 8) B s (en B n s - s)) (vQ w) := ffs_congr _ (fun q hq => by
    rw [(h.2.1 q hq).1, nmE_n (hw.2.2.2.2.1 q hq).2.2.2 l6 hl, show 12 + q * 8 + 1 = 13 + q * 8 by omega])
  unfold fName fNm
  rw [e]
theorem fName_T {I : am_I} {L : am_L} {b s n : Nat} {w : Nat → Int32} {B : Nat → Nat} (h : stR I L b w) (hw : wfp w) (hx : nmb B n s = true) : fName L (b + 4) (ll (nmk B s (en B n s - s))) (vT w) = fNm w 62 9 B s (en B n s - s) (vT w) := by
  obtain ⟨l6, -, -, -, hl⟩ := nmb_len hx
  have e : ffs (fun i => L (b + 4) i == ll (nmk B s (en B n s - s))) (vT w) = ffs (fun j => nmE w (62 + j * 9) B s (en B n s - s)) (vT w) := ffs_congr _ (fun q hq => by
    rw [(h.2.2.1 q hq).1, nmE_n (hw.2.2.2.2.2.1 q hq).2.2.2.2 l6 hl, show 60 + q * 9 + 2 = 62 + q * 9 by omega])
  unfold fName fNm
  rw [e]
theorem fGate_G {I : am_I} {L : am_L} {b s n : Nat} {w : Nat → Int32} {B : Nat → Nat} (h : stR I L b w) (hw : wfp w) (hx : nmb B n s = true) : fGate L b (ll (nmk B s (en B n s - s))) (vG w) = fNm w 135 94 B s (en B n s - s) (vG w) := by
  obtain ⟨l6, -, -, -, hl⟩ := nmb_len hx
  have e : ffs (fun g => L (gc b g) 0 == ll (nmk B s (en B n s - s))) (vG w) = ffs (fun j => nmE w (135 + j * 94) B s (en B n s - s)) (vG w) := ffs_congr _ (fun q hq => by
    rw [(h.2.2.2.2 q hq).1, nmE_n (hw.2.2.2.2.2.2 q hq).2.2.2.1 l6 hl, show 132 + q * 94 + 3 = 135 + q * 94 by omega])
  unfold fGate fNm
  rw [e]
theorem tkC.nm {B : Nat → Nat} {n s : Nat} {I : am_I} {L : am_L} (ht : tkC B n I L s) (hx : nmb B n s = true) : L 81 10 = ll (nmk B s (en B n s - s)) := by
  obtain ⟨l6, k0, -⟩ := nmb_len hx
  rw [ht.2.2.2.2.1 k0, show min 6 (en B n s - s) = en B n s - s by omega]
section NK
variable {d mc ms : Nat} {Γ : am_G} {I : am_I} {L : am_L} {B : Nat → Nat} {n s m : Nat}
theorem eX3_isKnownName (ro : am_ob Γ 81 3) (hB : rcB I B n) (ht : tkC B n I L s) (v : Int32) :
    (nmb B n s = true → ¬ v = -1 → am_E m_X3_isKnownName (d + 1) 0 0 [.ref 81, .int v] Γ I L (.inl (some (.int 1))) I L) ∧
    (∀ e, pKnown B n v s = .error e → ∃ I', am_E m_X3_isKnownName (d + 1) 0 0 [.ref 81, .int v] Γ I L (.inl (some (.int 0))) I' L ∧ cOut B n I I' L L (.error e)) := by
  have hN := eX3_isName (d := d) (Γ := Γ) ro hB ht
  refine ⟨fun hx hv => ?_, fun e he => ?_⟩
  · rw [hx] at hN
    refine am_ofE rfl rfl rfl (Nat.le_of_ble_eq_true rfl) ?_
    refine bX3_isKnownName_0 ro (Nat.zero_le _) (Nat.zero_le _) hN ?_
    refine bX3_isKnownName_4 (fun _ => ?_) (fun z => absurd z (by decide))
    refine bX3_isKnownName_13 (fun _ => ?_) (fun z => absurd z hv)
    refine bX3_isKnownName_26 ?_
    refine bX3_isKnownName_31 rfl ?_
    exact ⟨rfl, rfl, rfl⟩
  · unfold pKnown at he
    cases hx : nmb B n s
    · rw [hx] at he hN
      rw [if_neg (by decide)] at he
      cases he
      obtain ⟨f1, f2⟩ := eX3_fail (d := d) (Γ := Γ) ro ht 1
      refine ⟨_, am_ofE rfl rfl rfl (Nat.le_of_ble_eq_true rfl) ?_, f2⟩
      refine bX3_isKnownName_0 ro (Nat.zero_le _) (Nat.zero_le _) hN ?_
      refine bX3_isKnownName_4 (fun z => absurd rfl z) (fun _ => ?_)
      refine bX3_isKnownName_7 ro (Nat.zero_le _) (Nat.zero_le _) f1 ?_
      refine bX3_isKnownName_12 rfl ?_
      exact ⟨rfl, rfl, rfl⟩
    · rw [hx] at he hN
      rw [if_pos rfl] at he
      by_cases hv : v = -1
      · rw [if_pos hv] at he
        cases he
        obtain ⟨f1, f2⟩ := eX3_fail (d := d) (Γ := Γ) ro ht 3
        refine ⟨_, am_ofE rfl rfl rfl (Nat.le_of_ble_eq_true rfl) ?_, f2⟩
        refine bX3_isKnownName_0 ro (Nat.zero_le _) (Nat.zero_le _) hN ?_
        refine bX3_isKnownName_4 (fun _ => ?_) (fun z => absurd z (by decide))
        refine bX3_isKnownName_13 (fun z => absurd hv z) (fun _ => ?_)
        refine bX3_isKnownName_18 ro (Nat.zero_le _) (Nat.zero_le _) f1 ?_
        refine bX3_isKnownName_23 (fun _ => ?_) (fun z => absurd rfl z)
        refine bX3_isKnownName_30 ?_
        refine bX3_isKnownName_31 rfl ?_
        exact ⟨rfl, rfl, rfl⟩
      · rw [if_neg hv] at he
        exact absurd he (by intro z; cases z)
theorem eX3_isNewName (ro : am_ob Γ 81 3) (hB : rcB I B n) (ht : tkC B n I L s) (v : Int32) :
    (nmb B n s = true → v = -1 → am_E m_X3_isNewName (d + 1) 0 0 [.ref 81, .int v] Γ I L (.inl (some (.int 1))) I L) ∧
    (∀ e, pNew B n v s = .error e → ∃ I', am_E m_X3_isNewName (d + 1) 0 0 [.ref 81, .int v] Γ I L (.inl (some (.int 0))) I' L ∧ cOut B n I I' L L (.error e)) := by
  have hN := eX3_isName (d := d) (Γ := Γ) ro hB ht
  refine ⟨fun hx hv => ?_, fun e he => ?_⟩
  · rw [hx] at hN
    refine am_ofE rfl rfl rfl (Nat.le_of_ble_eq_true rfl) ?_
    refine bX3_isNewName_0 ro (Nat.zero_le _) (Nat.zero_le _) hN ?_
    refine bX3_isNewName_4 (fun _ => ?_) (fun z => absurd z (by decide))
    refine bX3_isNewName_13 (fun _ => ?_) (fun z => absurd hv z)
    refine bX3_isNewName_26 ?_
    refine bX3_isNewName_31 rfl ?_
    exact ⟨rfl, rfl, rfl⟩
  · unfold pNew at he
    cases hx : nmb B n s
    · rw [hx] at he hN
      rw [if_neg (by decide)] at he
      cases he
      obtain ⟨f1, f2⟩ := eX3_fail (d := d) (Γ := Γ) ro ht 1
      refine ⟨_, am_ofE rfl rfl rfl (Nat.le_of_ble_eq_true rfl) ?_, f2⟩
      refine bX3_isNewName_0 ro (Nat.zero_le _) (Nat.zero_le _) hN ?_
      refine bX3_isNewName_4 (fun z => absurd rfl z) (fun _ => ?_)
      refine bX3_isNewName_7 ro (Nat.zero_le _) (Nat.zero_le _) f1 ?_
      refine bX3_isNewName_12 rfl ?_
      exact ⟨rfl, rfl, rfl⟩
    · rw [hx] at he hN
      rw [if_pos rfl] at he
      by_cases hv : v = -1
      · rw [if_pos hv] at he
        exact absurd he (by intro z; cases z)
      · rw [if_neg hv] at he
        cases he
        obtain ⟨f1, f2⟩ := eX3_fail (d := d) (Γ := Γ) ro ht 4
        refine ⟨_, am_ofE rfl rfl rfl (Nat.le_of_ble_eq_true rfl) ?_, f2⟩
        refine bX3_isNewName_0 ro (Nat.zero_le _) (Nat.zero_le _) hN ?_
        refine bX3_isNewName_4 (fun _ => ?_) (fun z => absurd z (by decide))
        refine bX3_isNewName_13 (fun z => absurd z hv) (fun _ => ?_)
        refine bX3_isNewName_18 ro (Nat.zero_le _) (Nat.zero_le _) f1 ?_
        refine bX3_isNewName_23 (fun _ => ?_) (fun z => absurd rfl z)
        refine bX3_isNewName_30 ?_
        refine bX3_isNewName_31 rfl ?_
        exact ⟨rfl, rfl, rfl⟩
theorem eX3_takeKnown (ro : am_ob Γ 81 3) (g0 : Γ.2.2 81 0 = some 82) (ra : am_ar Γ 82 2 700 0) (hB : rcB I B n) (ht : tkC B n I L s) (v : Int32) : ∃ I' L', am_E m_X3_takeKnown (d + 2) 0 0 [.ref 81, .int v] Γ I L (.inl (some (.int (rOut (pKnown B n v s))))) I' L' ∧ cOut B n I I' L L' (pKnown B n v s) := by
  obtain ⟨g1, g2⟩ := eX3_isKnownName (d := d) (Γ := Γ) ro hB ht v
  refine am_ofX rfl rfl rfl (Nat.le_of_ble_eq_true rfl) ?_
  by_cases hx : nmb B n s = true ∧ ¬ v = -1
  · have ep : pKnown B n v s = .ok (nx B n s, v) := by unfold pKnown; rw [if_pos hx.1, if_neg hx.2]
    obtain ⟨I', L', f1, f2, f3⟩ := eX3_go (d := d) ro g0 ra hB ht
    rw [ep]
    refine ⟨I', L', ?_, f2, f3⟩
    refine bX3_takeKnown_0 ro (Nat.zero_le _) (Nat.zero_le _) (g1 hx.1 hx.2) ?_
    refine bX3_takeKnown_5 (fun _ => ?_) (fun h => absurd h (by decide))
    refine bX3_takeKnown_10 ro (Nat.zero_le _) (Nat.zero_le _) f1 ?_
    refine bX3_takeKnown_14 ?_
    exact ⟨rfl, rfl, rfl⟩
  · obtain ⟨e, he⟩ : ∃ e, pKnown B n v s = .error e := by
      unfold pKnown
      by_cases h1 : nmb B n s = true
      · rw [if_pos h1]
        by_cases h2 : v = -1
        · rw [if_pos h2]; exact ⟨_, rfl⟩
        · exact absurd ⟨h1, h2⟩ hx
      · rw [if_neg h1]; exact ⟨_, rfl⟩
    obtain ⟨I', f1, f2⟩ := g2 e he
    rw [he]
    refine ⟨I', L, ?_, f2⟩
    refine bX3_takeKnown_0 ro (Nat.zero_le _) (Nat.zero_le _) f1 ?_
    refine bX3_takeKnown_5 (fun h => absurd rfl h) (fun _ => ?_)
    refine bX3_takeKnown_8 ?_
    exact ⟨rfl, rfl, rfl⟩
theorem eX9_questionNamed (hm : mdF Γ m) (hw : wfp (I (m + 1))) {len : Nat} (hH : nmH I m B s len) (h6 : len ≤ 6) : am_E m_X9_questionNamed (d + 1) 0 0 [.ref m] Γ I L (.inl (some (.int (fNm (I (m + 1)) 13 8 B s len (vQ (I (m + 1))))))) I L := by
  obtain ⟨mo, r0, r1, r2, r3, r4, r7, r8, r13, r14, r15, r16, r17, a1, a2, a3, a4, a5, a6, a7, a8, a9, a10, a11, a12⟩ := id hm
  obtain ⟨c1, c2⟩ := hw.1
  have hE := eX9_named (d := d) (L := L) (N := vQ (I (m + 1))) (base := 12) (st := 8) (off := 1) hm hH h6 (by omega) (by decide) (fun j hj => ⟨by omega, by rw [show 12 + 1 + j * 8 = 12 + j * 8 + 1 by omega]; exact (hw.2.2.2.2.1 j hj).2.2.2⟩)
  rw [← c1] at hE
  refine am_ofE rfl rfl rfl (Nat.le_of_ble_eq_true rfl) ?_
  refine bX9_questionNamed_0 mo r0 a1 (nn_in (k := 0) (by decide) (by decide)) (Nat.zero_le _) (Nat.zero_le _) hE ?_
  refine bX9_questionNamed_15 ?_
  exact ⟨rfl, rfl, rfl⟩
theorem eX9_questionHere_x (hm : mdF Γ m) (h : I m 23 = 1) : am_E m_X9_questionHere (d + 2) 0 0 [.ref m] Γ I L (.inl (some (.int 0))) I L := by
  have mo := hm.1
  refine am_ofE rfl rfl rfl (Nat.le_of_ble_eq_true rfl) ?_
  refine bX9_questionHere_0 mo (Nat.zero_le _) (Nat.zero_le _) (eX9_nameHere_x hm h) ?_
  refine bX9_questionHere_4 mo (fun z => absurd z (by rw [h]; decide)) (fun _ => ?_)
  refine bX9_questionHere_11 ?_
  refine bX9_questionHere_23 ?_
  exact ⟨rfl, rfl, rfl⟩
theorem eX9_questionHere (hm : mdF Γ m) (hw : wfp (I (m + 1))) (hB : rmB I m B n) (ht : tkM B n I m s) (h : I m 23 = 0) :
    (∀ p, pKnown B n (fNm (I (m + 1)) 13 8 B s (en B n s - s) (vQ (I (m + 1)))) s = .ok p → ∃ I', am_E m_X9_questionHere (d + 2) 0 0 [.ref m] Γ I L (.inl (some (.int p.2))) I' L ∧ (∀ k, k ≠ m → k ≠ m + 12 → I' k = I k) ∧ ∀ j, j ≠ 18 → I' m j = I m j) ∧
    (∀ c p, pKnown B n (fNm (I (m + 1)) 13 8 B s (en B n s - s) (vQ (I (m + 1)))) s = .error (c, p) → ∃ I', am_E m_X9_questionHere (d + 2) 0 0 [.ref m] Γ I L (.inl (some (.int 0))) I' L ∧ (I' m 23 = 1 ∧ I' m 11 = nn c ∧ I' m 12 = nn p) ∧ (∀ k, k ≠ m → k ≠ m + 12 → I' k = I k) ∧ ∀ j, j ≠ 11 → j ≠ 12 → j ≠ 18 → j ≠ 23 → I' m j = I m j) := by
  have mo := hm.1
  obtain ⟨n1, n2⟩ := eX9_nameHere (d := d) (L := L) hm hB ht h
  cases hx : nmb B n s
  · have hE := n2 hx
    obtain ⟨e1, e2, e3, e4, e5⟩ := wrS_at (J := I) (m := m) (c := 1) (s := s)
    have ep : ∀ v, pKnown B n v s = .error (1, s) := fun v => by unfold pKnown; rw [hx, if_neg (by decide)]
    refine ⟨fun p hp => (by rw [ep] at hp; cases hp), fun c p hp => ?_⟩
    rw [ep] at hp
    cases hp
    refine ⟨_, am_ofE rfl rfl rfl (Nat.le_of_ble_eq_true rfl) ?_, ⟨e1, e2, e3⟩, fun k a _ => e4 k a, fun j a b _ e => e5 j e a b⟩
    refine bX9_questionHere_0 mo (Nat.zero_le _) (Nat.zero_le _) hE ?_
    refine bX9_questionHere_4 mo (fun z => absurd z (by rw [e1]; decide)) (fun _ => ?_)
    refine bX9_questionHere_11 ?_
    refine bX9_questionHere_23 ?_
    exact ⟨rfl, rfl, rfl⟩
  · obtain ⟨J, hE, hH, jk, jj⟩ := n1 hx
    obtain ⟨l6, -⟩ := nmb_len hx
    have q1 : J (m + 1) = I (m + 1) := jk _ (by omega) (by omega)
    have j23 : J m 23 = 0 := (jj 23 (by decide)).trans h
    have hN := eX9_questionNamed (d := d) (L := L) hm (by rw [q1]; exact hw) hH l6
    rw [q1] at hN
    obtain ⟨k1, k2⟩ := eX9_known (d := d) (Γ := Γ) (L := L) hm j23 ((jj 20 (by decide)).trans ht.2.1) (fNm (I (m + 1)) 13 8 B s (en B n s - s) (vQ (I (m + 1))))
    generalize fNm (I (m + 1)) 13 8 B s (en B n s - s) (vQ (I (m + 1))) = v at *
    by_cases hv : v = -1
    · have ep : pKnown B n v s = .error (3, s) := by unfold pKnown; rw [hx, if_pos rfl, if_pos hv]
      obtain ⟨e1, e2, e3, e4, e5⟩ := wrS_at (J := J) (m := m) (c := 3) (s := s)
      refine ⟨fun p hp => (by rw [ep] at hp; cases hp), fun c p hp => ?_⟩
      rw [ep] at hp
      cases hp
      subst hv
      refine ⟨_, am_ofE rfl rfl rfl (Nat.le_of_ble_eq_true rfl) ?_, ⟨e1, e2, e3⟩, fun k a b => (e4 k a).trans (jk k a b), fun j a b c e => (e5 j e a b).trans (jj j c)⟩
      refine bX9_questionHere_0 mo (Nat.zero_le _) (Nat.zero_le _) hE ?_
      refine bX9_questionHere_4 mo (fun _ => ?_) (fun z => absurd j23 z)
      refine bX9_questionHere_15 mo (Nat.zero_le _) (Nat.zero_le _) hN ?_
      refine bX9_questionHere_20 mo (Nat.zero_le _) (Nat.zero_le _) k2 ?_
      refine bX9_questionHere_23 ?_
      exact ⟨rfl, rfl, rfl⟩
    · have ep : pKnown B n v s = .ok (nx B n s, v) := by unfold pKnown; rw [hx, if_pos rfl, if_neg hv]
      refine ⟨fun p hp => ?_, fun c p hp => (by rw [ep] at hp; cases hp)⟩
      rw [ep] at hp
      cases hp
      refine ⟨J, am_ofE rfl rfl rfl (Nat.le_of_ble_eq_true rfl) ?_, jk, jj⟩
      refine bX9_questionHere_0 mo (Nat.zero_le _) (Nat.zero_le _) hE ?_
      refine bX9_questionHere_4 mo (fun _ => ?_) (fun z => absurd j23 z)
      refine bX9_questionHere_15 mo (Nat.zero_le _) (Nat.zero_le _) hN ?_
      refine bX9_questionHere_20 mo (Nat.zero_le _) (Nat.zero_le _) (k1 hv) ?_
      refine bX9_questionHere_23 ?_
      exact ⟨rfl, rfl, rfl⟩
theorem eX9_typeNamed (hm : mdF Γ m) (hw : wfp (I (m + 1))) {len : Nat} (hH : nmH I m B s len) (h6 : len ≤ 6) : am_E m_X9_typeNamed (d + 1) 0 0 [.ref m] Γ I L (.inl (some (.int (fNm (I (m + 1)) 62 9 B s len (vT (I (m + 1))))))) I L := by
  obtain ⟨mo, r0, r1, r2, r3, r4, r7, r8, r13, r14, r15, r16, r17, a1, a2, a3, a4, a5, a6, a7, a8, a9, a10, a11, a12⟩ := id hm
  obtain ⟨c1, c2⟩ := hw.2.1
  have hE := eX9_named (d := d) (L := L) (N := vT (I (m + 1))) (base := 60) (st := 9) (off := 2) hm hH h6 (by omega) (by decide) (fun j hj => ⟨by omega, by rw [show 60 + 2 + j * 9 = 60 + j * 9 + 2 by omega]; exact (hw.2.2.2.2.2.1 j hj).2.2.2.2⟩)
  rw [← c1] at hE
  refine am_ofE rfl rfl rfl (Nat.le_of_ble_eq_true rfl) ?_
  refine bX9_typeNamed_0 mo r0 a1 (nn_in (k := 1) (by decide) (by decide)) (Nat.zero_le _) (Nat.zero_le _) hE ?_
  refine bX9_typeNamed_15 ?_
  exact ⟨rfl, rfl, rfl⟩
theorem eX9_typeHere_x (hm : mdF Γ m) (h : I m 23 = 1) : am_E m_X9_typeHere (d + 2) 0 0 [.ref m] Γ I L (.inl (some (.int 0))) I L := by
  have mo := hm.1
  refine am_ofE rfl rfl rfl (Nat.le_of_ble_eq_true rfl) ?_
  refine bX9_typeHere_0 mo (Nat.zero_le _) (Nat.zero_le _) (eX9_nameHere_x hm h) ?_
  refine bX9_typeHere_4 mo (fun z => absurd z (by rw [h]; decide)) (fun _ => ?_)
  refine bX9_typeHere_11 ?_
  refine bX9_typeHere_23 ?_
  exact ⟨rfl, rfl, rfl⟩
theorem eX9_typeHere (hm : mdF Γ m) (hw : wfp (I (m + 1))) (hB : rmB I m B n) (ht : tkM B n I m s) (h : I m 23 = 0) :
    (∀ p, pKnown B n (fNm (I (m + 1)) 62 9 B s (en B n s - s) (vT (I (m + 1)))) s = .ok p → ∃ I', am_E m_X9_typeHere (d + 2) 0 0 [.ref m] Γ I L (.inl (some (.int p.2))) I' L ∧ (∀ k, k ≠ m → k ≠ m + 12 → I' k = I k) ∧ ∀ j, j ≠ 18 → I' m j = I m j) ∧
    (∀ c p, pKnown B n (fNm (I (m + 1)) 62 9 B s (en B n s - s) (vT (I (m + 1)))) s = .error (c, p) → ∃ I', am_E m_X9_typeHere (d + 2) 0 0 [.ref m] Γ I L (.inl (some (.int 0))) I' L ∧ (I' m 23 = 1 ∧ I' m 11 = nn c ∧ I' m 12 = nn p) ∧ (∀ k, k ≠ m → k ≠ m + 12 → I' k = I k) ∧ ∀ j, j ≠ 11 → j ≠ 12 → j ≠ 18 → j ≠ 23 → I' m j = I m j) := by
  have mo := hm.1
  obtain ⟨n1, n2⟩ := eX9_nameHere (d := d) (L := L) hm hB ht h
  cases hx : nmb B n s
  · have hE := n2 hx
    obtain ⟨e1, e2, e3, e4, e5⟩ := wrS_at (J := I) (m := m) (c := 1) (s := s)
    have ep : ∀ v, pKnown B n v s = .error (1, s) := fun v => by unfold pKnown; rw [hx, if_neg (by decide)]
    refine ⟨fun p hp => (by rw [ep] at hp; cases hp), fun c p hp => ?_⟩
    rw [ep] at hp
    cases hp
    refine ⟨_, am_ofE rfl rfl rfl (Nat.le_of_ble_eq_true rfl) ?_, ⟨e1, e2, e3⟩, fun k a _ => e4 k a, fun j a b _ e => e5 j e a b⟩
    refine bX9_typeHere_0 mo (Nat.zero_le _) (Nat.zero_le _) hE ?_
    refine bX9_typeHere_4 mo (fun z => absurd z (by rw [e1]; decide)) (fun _ => ?_)
    refine bX9_typeHere_11 ?_
    refine bX9_typeHere_23 ?_
    exact ⟨rfl, rfl, rfl⟩
  · obtain ⟨J, hE, hH, jk, jj⟩ := n1 hx
    obtain ⟨l6, -⟩ := nmb_len hx
    have q1 : J (m + 1) = I (m + 1) := jk _ (by omega) (by omega)
    have j23 : J m 23 = 0 := (jj 23 (by decide)).trans h
    have hN := eX9_typeNamed (d := d) (L := L) hm (by rw [q1]; exact hw) hH l6
    rw [q1] at hN
    obtain ⟨k1, k2⟩ := eX9_known (d := d) (Γ := Γ) (L := L) hm j23 ((jj 20 (by decide)).trans ht.2.1) (fNm (I (m + 1)) 62 9 B s (en B n s - s) (vT (I (m + 1))))
    generalize fNm (I (m + 1)) 62 9 B s (en B n s - s) (vT (I (m + 1))) = v at *
    by_cases hv : v = -1
    · have ep : pKnown B n v s = .error (3, s) := by unfold pKnown; rw [hx, if_pos rfl, if_pos hv]
      obtain ⟨e1, e2, e3, e4, e5⟩ := wrS_at (J := J) (m := m) (c := 3) (s := s)
      refine ⟨fun p hp => (by rw [ep] at hp; cases hp), fun c p hp => ?_⟩
      rw [ep] at hp
      cases hp
      subst hv
      refine ⟨_, am_ofE rfl rfl rfl (Nat.le_of_ble_eq_true rfl) ?_, ⟨e1, e2, e3⟩, fun k a b => (e4 k a).trans (jk k a b), fun j a b c e => (e5 j e a b).trans (jj j c)⟩
      refine bX9_typeHere_0 mo (Nat.zero_le _) (Nat.zero_le _) hE ?_
      refine bX9_typeHere_4 mo (fun _ => ?_) (fun z => absurd j23 z)
      refine bX9_typeHere_15 mo (Nat.zero_le _) (Nat.zero_le _) hN ?_
      refine bX9_typeHere_20 mo (Nat.zero_le _) (Nat.zero_le _) k2 ?_
      refine bX9_typeHere_23 ?_
      exact ⟨rfl, rfl, rfl⟩
    · have ep : pKnown B n v s = .ok (nx B n s, v) := by unfold pKnown; rw [hx, if_pos rfl, if_neg hv]
      refine ⟨fun p hp => ?_, fun c p hp => (by rw [ep] at hp; cases hp)⟩
      rw [ep] at hp
      cases hp
      refine ⟨J, am_ofE rfl rfl rfl (Nat.le_of_ble_eq_true rfl) ?_, jk, jj⟩
      refine bX9_typeHere_0 mo (Nat.zero_le _) (Nat.zero_le _) hE ?_
      refine bX9_typeHere_4 mo (fun _ => ?_) (fun z => absurd j23 z)
      refine bX9_typeHere_15 mo (Nat.zero_le _) (Nat.zero_le _) hN ?_
      refine bX9_typeHere_20 mo (Nat.zero_le _) (Nat.zero_le _) (k1 hv) ?_
      refine bX9_typeHere_23 ?_
      exact ⟨rfl, rfl, rfl⟩
theorem eX9_gateNamed (hm : mdF Γ m) (hw : wfp (I (m + 1))) {len : Nat} (hH : nmH I m B s len) (h6 : len ≤ 6) : am_E m_X9_gateNamed (d + 1) 0 0 [.ref m] Γ I L (.inl (some (.int (fNm (I (m + 1)) 135 94 B s len (vG (I (m + 1))))))) I L := by
  obtain ⟨mo, r0, r1, r2, r3, r4, r7, r8, r13, r14, r15, r16, r17, a1, a2, a3, a4, a5, a6, a7, a8, a9, a10, a11, a12⟩ := id hm
  obtain ⟨c1, c2⟩ := hw.2.2.1
  have hE := eX9_named (d := d) (L := L) (N := vG (I (m + 1))) (base := 132) (st := 94) (off := 3) hm hH h6 (by omega) (by decide) (fun j hj => ⟨by omega, by rw [show 132 + 3 + j * 94 = 132 + j * 94 + 3 by omega]; exact (hw.2.2.2.2.2.2 j hj).2.2.2.1⟩)
  rw [← c1] at hE
  refine am_ofE rfl rfl rfl (Nat.le_of_ble_eq_true rfl) ?_
  refine bX9_gateNamed_0 mo r0 a1 (nn_in (k := 2) (by decide) (by decide)) (Nat.zero_le _) (Nat.zero_le _) hE ?_
  refine bX9_gateNamed_16 ?_
  exact ⟨rfl, rfl, rfl⟩
theorem eX9_gateHere_x (hm : mdF Γ m) (h : I m 23 = 1) : am_E m_X9_gateHere (d + 2) 0 0 [.ref m] Γ I L (.inl (some (.int 0))) I L := by
  have mo := hm.1
  refine am_ofE rfl rfl rfl (Nat.le_of_ble_eq_true rfl) ?_
  refine bX9_gateHere_0 mo (Nat.zero_le _) (Nat.zero_le _) (eX9_nameHere_x hm h) ?_
  refine bX9_gateHere_4 mo (fun z => absurd z (by rw [h]; decide)) (fun _ => ?_)
  refine bX9_gateHere_11 ?_
  refine bX9_gateHere_23 ?_
  exact ⟨rfl, rfl, rfl⟩
theorem eX9_gateHere (hm : mdF Γ m) (hw : wfp (I (m + 1))) (hB : rmB I m B n) (ht : tkM B n I m s) (h : I m 23 = 0) :
    (∀ p, pKnown B n (fNm (I (m + 1)) 135 94 B s (en B n s - s) (vG (I (m + 1)))) s = .ok p → ∃ I', am_E m_X9_gateHere (d + 2) 0 0 [.ref m] Γ I L (.inl (some (.int p.2))) I' L ∧ (∀ k, k ≠ m → k ≠ m + 12 → I' k = I k) ∧ ∀ j, j ≠ 18 → I' m j = I m j) ∧
    (∀ c p, pKnown B n (fNm (I (m + 1)) 135 94 B s (en B n s - s) (vG (I (m + 1)))) s = .error (c, p) → ∃ I', am_E m_X9_gateHere (d + 2) 0 0 [.ref m] Γ I L (.inl (some (.int 0))) I' L ∧ (I' m 23 = 1 ∧ I' m 11 = nn c ∧ I' m 12 = nn p) ∧ (∀ k, k ≠ m → k ≠ m + 12 → I' k = I k) ∧ ∀ j, j ≠ 11 → j ≠ 12 → j ≠ 18 → j ≠ 23 → I' m j = I m j) := by
  have mo := hm.1
  obtain ⟨n1, n2⟩ := eX9_nameHere (d := d) (L := L) hm hB ht h
  cases hx : nmb B n s
  · have hE := n2 hx
    obtain ⟨e1, e2, e3, e4, e5⟩ := wrS_at (J := I) (m := m) (c := 1) (s := s)
    have ep : ∀ v, pKnown B n v s = .error (1, s) := fun v => by unfold pKnown; rw [hx, if_neg (by decide)]
    refine ⟨fun p hp => (by rw [ep] at hp; cases hp), fun c p hp => ?_⟩
    rw [ep] at hp
    cases hp
    refine ⟨_, am_ofE rfl rfl rfl (Nat.le_of_ble_eq_true rfl) ?_, ⟨e1, e2, e3⟩, fun k a _ => e4 k a, fun j a b _ e => e5 j e a b⟩
    refine bX9_gateHere_0 mo (Nat.zero_le _) (Nat.zero_le _) hE ?_
    refine bX9_gateHere_4 mo (fun z => absurd z (by rw [e1]; decide)) (fun _ => ?_)
    refine bX9_gateHere_11 ?_
    refine bX9_gateHere_23 ?_
    exact ⟨rfl, rfl, rfl⟩
  · obtain ⟨J, hE, hH, jk, jj⟩ := n1 hx
    obtain ⟨l6, -⟩ := nmb_len hx
    have q1 : J (m + 1) = I (m + 1) := jk _ (by omega) (by omega)
    have j23 : J m 23 = 0 := (jj 23 (by decide)).trans h
    have hN := eX9_gateNamed (d := d) (L := L) hm (by rw [q1]; exact hw) hH l6
    rw [q1] at hN
    obtain ⟨k1, k2⟩ := eX9_known (d := d) (Γ := Γ) (L := L) hm j23 ((jj 20 (by decide)).trans ht.2.1) (fNm (I (m + 1)) 135 94 B s (en B n s - s) (vG (I (m + 1))))
    generalize fNm (I (m + 1)) 135 94 B s (en B n s - s) (vG (I (m + 1))) = v at *
    by_cases hv : v = -1
    · have ep : pKnown B n v s = .error (3, s) := by unfold pKnown; rw [hx, if_pos rfl, if_pos hv]
      obtain ⟨e1, e2, e3, e4, e5⟩ := wrS_at (J := J) (m := m) (c := 3) (s := s)
      refine ⟨fun p hp => (by rw [ep] at hp; cases hp), fun c p hp => ?_⟩
      rw [ep] at hp
      cases hp
      subst hv
      refine ⟨_, am_ofE rfl rfl rfl (Nat.le_of_ble_eq_true rfl) ?_, ⟨e1, e2, e3⟩, fun k a b => (e4 k a).trans (jk k a b), fun j a b c e => (e5 j e a b).trans (jj j c)⟩
      refine bX9_gateHere_0 mo (Nat.zero_le _) (Nat.zero_le _) hE ?_
      refine bX9_gateHere_4 mo (fun _ => ?_) (fun z => absurd j23 z)
      refine bX9_gateHere_15 mo (Nat.zero_le _) (Nat.zero_le _) hN ?_
      refine bX9_gateHere_20 mo (Nat.zero_le _) (Nat.zero_le _) k2 ?_
      refine bX9_gateHere_23 ?_
      exact ⟨rfl, rfl, rfl⟩
    · have ep : pKnown B n v s = .ok (nx B n s, v) := by unfold pKnown; rw [hx, if_pos rfl, if_neg hv]
      refine ⟨fun p hp => ?_, fun c p hp => (by rw [ep] at hp; cases hp)⟩
      rw [ep] at hp
      cases hp
      refine ⟨J, am_ofE rfl rfl rfl (Nat.le_of_ble_eq_true rfl) ?_, jk, jj⟩
      refine bX9_gateHere_0 mo (Nat.zero_le _) (Nat.zero_le _) hE ?_
      refine bX9_gateHere_4 mo (fun _ => ?_) (fun z => absurd j23 z)
      refine bX9_gateHere_15 mo (Nat.zero_le _) (Nat.zero_le _) hN ?_
      refine bX9_gateHere_20 mo (Nat.zero_le _) (Nat.zero_le _) (k1 hv) ?_
      refine bX9_gateHere_23 ?_
      exact ⟨rfl, rfl, rfl⟩
end NK
