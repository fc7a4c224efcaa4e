/-! NAMES: what is known, what is new; both sides -/
def pNew (B : Nat → Nat) (n : Nat) (v : Int32) (s : Nat) : Except (Nat × Nat) (Nat × Int32) := if nmb B n s = true then (if v = -1 then .ok (s, 1) else .error (4, s)) else .error (1, s)
theorem fNm_ge {w : Nat → Int32} {a0 st s len N : Nat} {B : Nat → Nat} (h : fNm w a0 st B s len N ≠ -1) : ∃ j, j < N ∧ fNm w a0 st B s len N = nn j := by
  unfold fNm at h ⊢
  by_cases hx : ffs (fun j => nmE w (a0 + j * st) B s len) N < N
  · rw [if_pos hx]; exact ⟨_, hx, rfl⟩
  · rw [if_neg hx] at h; exact absurd rfl h
theorem nmb_len {B : Nat → Nat} {n s : Nat} (h : nmb B n s = true) : en B n s - s ≤ 6 ∧ kd B n s = 0 ∧ 0 < en B n s - s ∧ en B n s ≤ n ∧ ∀ i, i < en B n s - s → 97 ≤ B (s + i) ∧ B (s + i) ≤ 122 := by
  obtain ⟨h1, h2⟩ := of_decide_eq_true h
  obtain ⟨k1, k2, k3⟩ := kd0_in h1
  have el := en_le (B := B) (n := n) (s := s) (by omega)
  have pos : s < en B n s := by
    rw [k2]
    have sl := scn_le (B := B) (n := n) (p := isL) (s := s) (by omega)
    by_cases hx : scn B n isL s = s
    · have := scn_end (B := B) (n := n) (p := isL) (s := s) (by omega) (by omega)
      rw [hx, k3] at this
      exact absurd this (by decide)
    · omega
  refine ⟨h2, h1, by omega, el.2, fun i hi => ?_⟩
  exact isL_b.mp (scn_in (B := B) (n := n) (p := isL) (s := s) (j := s + i) (by omega) (by omega))
/-- the class's look-ups answer what the row's names say -/
theorem fName_Q {I : am_I} {L : am_L} {b s n : Nat} {w : Nat → Int32} {B : Nat → Nat} (h : stR I L b w) (hw : wfp w) (hx : nmb B n s = true) : fName L (b + 1) (ll (nmk B s (en B n s - s))) (vQ w) = fNm w 13 8 B s (en B n s - s) (vQ w) := by
  obtain ⟨l6, -, -, -, hl⟩ := nmb_len hx
  have e : ffs (fun i => L (b + 1) i == ll (nmk B s (en B n s - s))) (vQ w) = ffs (fun j => nmE w (13 + j * 8) B s (en B n s - s)) (vQ w) := ffs_congr _ (fun q hq => by
    rw [(h.2.1 q hq).1, nmE_n (hw.2.2.2.2.1 q hq).2.2.2 l6 hl, show 12 + q * 8 + 1 = 13 + q * 8 by omega])
  unfold fName fNm
  rw [e]
theorem fName_T {I : am_I} {L : am_L} {b s n : Nat} {w : Nat → Int32} {B : Nat → Nat} (h : stR I L b w) (hw : wfp w) (hx : nmb B n s = true) : fName L (b + 4) (ll (nmk B s (en B n s - s))) (vT w) = fNm w 62 9 B s (en B n s - s) (vT w) := by
  obtain ⟨l6, -, -, -, hl⟩ := nmb_len hx
  have e : ffs (fun i => L (b + 4) i == ll (nmk B s (en B n s - s))) (vT w) = ffs (fun j => nmE w (62 + j * 9) B s (en B n s - s)) (vT w) := ffs_congr _ (fun q hq => by
    rw [(h.2.2.1 q hq).1, nmE_n (hw.2.2.2.2.2.1 q hq).2.2.2.2 l6 hl, show 60 + q * 9 + 2 = 62 + q * 9 by omega])
  unfold fName fNm
  rw [e]
theorem fGate_G {I : am_I} {L : am_L} {b s n : Nat} {w : Nat → Int32} {B : Nat → Nat} (h : stR I L b w) (hw : wfp w) (hx : nmb B n s = true) : fGate L b (ll (nmk B s (en B n s - s))) (vG w) = fNm w 135 94 B s (en B n s - s) (vG w) := by
  obtain ⟨l6, -, -, -, hl⟩ := nmb_len hx
  have e : ffs (fun g => L (gc b g) 0 == ll (nmk B s (en B n s - s))) (vG w) = ffs (fun j => nmE w (135 + j * 94) B s (en B n s - s)) (vG w) := ffs_congr _ (fun q hq => by
    rw [(h.2.2.2.2 q hq).1, nmE_n (hw.2.2.2.2.2.2 q hq).2.2.2.1 l6 hl, show 132 + q * 94 + 3 = 135 + q * 94 by omega])
  unfold fGate fNm
  rw [e]
theorem tkC.nm {B : Nat → Nat} {n s : Nat} {I : am_I} {L : am_L} (ht : tkC B n I L s) (hx : nmb B n s = true) : L 81 10 = ll (nmk B s (en B n s - s)) := by
  obtain ⟨l6, k0, -⟩ := nmb_len hx
  rw [ht.2.2.2.2.1 k0, show min 6 (en B n s - s) = en B n s - s by omega]
section NK
variable {d mc ms : Nat} {Γ : am_G} {I : am_I} {L : am_L} {B : Nat → Nat} {n s m : Nat}
theorem eX3_isKnownName (ro : am_ob Γ 81 3) (hB : rcB I B n) (ht : tkC B n I L s) (v : Int32) :
    (nmb B n s = true → ¬ v = -1 → am_E m_X3_isKnownName (d + 1) 0 0 [.ref 81, .int v] Γ I L (.inl (some (.int 1))) I L) ∧
    (∀ e, pKnown B n v s = .error e → ∃ I', am_E m_X3_isKnownName (d + 1) 0 0 [.ref 81, .int v] Γ I L (.inl (some (.int 0))) I' L ∧ cOut B n I I' L L (.error e)) := by
  have hN := eX3_isName (d := d) (Γ := Γ) ro hB ht
  refine ⟨fun hx hv => ?_, fun e he => ?_⟩
  · rw [hx] at hN
    refine am_ofE rfl rfl rfl (Nat.le_of_ble_eq_true rfl) ?_
    refine bX3_isKnownName_0 ro (Nat.zero_le _) (Nat.zero_le _) hN ?_
    refine bX3_isKnownName_4 (fun _ => ?_) (fun z => absurd z (by decide))
    refine bX3_isKnownName_13 (fun _ => ?_) (fun z => absurd z hv)
    refine bX3_isKnownName_26 ?_
    refine bX3_isKnownName_31 rfl ?_
    exact ⟨rfl, rfl, rfl⟩
  · unfold pKnown at he
    cases hx : nmb B n s
    · rw [hx] at he hN
      rw [if_neg (by decide)] at he
      cases he
      obtain ⟨f1, f2⟩ := eX3_fail (d := d) (Γ := Γ) ro ht 1
      refine ⟨_, am_ofE rfl rfl rfl (Nat.le_of_ble_eq_true rfl) ?_, f2⟩
      refine bX3_isKnownName_0 ro (Nat.zero_le _) (Nat.zero_le _) hN ?_
      refine bX3_isKnownName_4 (fun z => absurd rfl z) (fun _ => ?_)
      refine bX3_isKnownName_7 ro (Nat.zero_le _) (Nat.zero_le _) f1 ?_
      refine bX3_isKnownName_12 rfl ?_
      exact ⟨rfl, rfl, rfl⟩
    · rw [hx] at he hN
      rw [if_pos rfl] at he
      by_cases hv : v = -1
      · rw [if_pos hv] at he
        cases he
        obtain ⟨f1, f2⟩ := eX3_fail (d := d) (Γ := Γ) ro ht 3
        refine ⟨_, am_ofE rfl rfl rfl (Nat.le_of_ble_eq_true rfl) ?_, f2⟩
        refine bX3_isKnownName_0 ro (Nat.zero_le _) (Nat.zero_le _) hN ?_
        refine bX3_isKnownName_4 (fun _ => ?_) (fun z => absurd z (by decide))
        refine bX3_isKnownName_13 (fun z => absurd hv z) (fun _ => ?_)
        refine bX3_isKnownName_18 ro (Nat.zero_le _) (Nat.zero_le _) f1 ?_
        refine bX3_isKnownName_23 (fun _ => ?_) (fun z => absurd rfl z)
        refine bX3_isKnownName_30 ?_
        refine bX3_isKnownName_31 rfl ?_
        exact ⟨rfl, rfl, rfl⟩
      · rw [if_neg hv] at he
        exact absurd he (by intro z; cases z)
theorem eX3_isNewName (ro : am_ob Γ 81 3) (hB : rcB I B n) (ht : tkC B n I L s) (v : Int32) :
    (nmb B n s = true → v = -1 → am_E m_X3_isNewName (d + 1) 0 0 [.ref 81, .int v] Γ I L (.inl (some (.int 1))) I L) ∧
    (∀ e, pNew B n v s = .error e → ∃ I', am_E m_X3_isNewName (d + 1) 0 0 [.ref 81, .int v] Γ I L (.inl (some (.int 0))) I' L ∧ cOut B n I I' L L (.error e)) := by
  have hN := eX3_isName (d := d) (Γ := Γ) ro hB ht
  refine ⟨fun hx hv => ?_, fun e he => ?_⟩
  · rw [hx] at hN
    refine am_ofE rfl rfl rfl (Nat.le_of_ble_eq_true rfl) ?_
    refine bX3_isNewName_0 ro (Nat.zero_le _) (Nat.zero_le _) hN ?_
    refine bX3_isNewName_4 (fun _ => ?_) (fun z => absurd z (by decide))
    refine bX3_isNewName_13 (fun _ => ?_) (fun z => absurd hv z)
    refine bX3_isNewName_26 ?_
    refine bX3_isNewName_31 rfl ?_
    exact ⟨rfl, rfl, rfl⟩
  · unfold pNew at he
    cases hx : nmb B n s
    · rw [hx] at he hN
      rw [if_neg (by decide)] at he
      cases he
      obtain ⟨f1, f2⟩ := eX3_fail (d := d) (Γ := Γ) ro ht 1
      refine ⟨_, am_ofE rfl rfl rfl (Nat.le_of_ble_eq_true rfl) ?_, f2⟩
      refine bX3_isNewName_0 ro (Nat.zero_le _) (Nat.zero_le _) hN ?_
      refine bX3_isNewName_4 (fun z => absurd rfl z) (fun _ => ?_)
      refine bX3_isNewName_7 ro (Nat.zero_le _) (Nat.zero_le _) f1 ?_
      refine bX3_isNewName_12 rfl ?_
      exact ⟨rfl, rfl, rfl⟩
    · rw [hx] at he hN
      rw [if_pos rfl] at he
      by_cases hv : v = -1
      · rw [if_pos hv] at he
        exact absurd he (by intro z; cases z)
      · rw [if_neg hv] at he
        cases he
        obtain ⟨f1, f2⟩ := eX3_fail (d := d) (Γ := Γ) ro ht 4
        refine ⟨_, am_ofE rfl rfl rfl (Nat.le_of_ble_eq_true rfl) ?_, f2⟩
        refine bX3_isNewName_0 ro (Nat.zero_le _) (Nat.zero_le _) hN ?_
        refine bX3_isNewName_4 (fun _ => ?_) (fun z => absurd z (by decide))
        refine bX3_isNewName_13 (fun z => absurd z hv) (fun _ => ?_)
        refine bX3_isNewName_18 ro (Nat.zero_le _) (Nat.zero_le _) f1 ?_
        refine bX3_isNewName_23 (fun _ => ?_) (fun z => absurd rfl z)
        refine bX3_isNewName_30 ?_
        refine bX3_isNewName_31 rfl ?_
        exact ⟨rfl, rfl, rfl⟩
theorem eX3_takeKnown (ro : am_ob Γ 81 3) (g0 : Γ.2.2 81 0 = some 82) (ra : am_ar Γ 82 2 700 0) (hB : rcB I B n) (ht : tkC B n I L s) (v : Int32) : ∃ I' L', am_E m_X3_takeKnown (d + 2) 0 0 [.ref 81, .int v] Γ I L (.inl (some (.int (rOut (pKnown B n v s))))) I' L' ∧ cOut B n I I' L L' (pKnown B n v s) := by
  obtain ⟨g1, g2⟩ := eX3_isKnownName (d := d) (Γ := Γ) ro hB ht v
  refine am_ofX rfl rfl rfl (Nat.le_of_ble_eq_true rfl) ?_
  by_cases hx : nmb B n s = true ∧ ¬ v = -1
  · have ep : pKnown B n v s = .ok (nx B n s, v) := by unfold pKnown; rw [if_pos hx.1, if_neg hx.2]
    obtain ⟨I', L', f1, f2, f3⟩ := eX3_go (d := d) ro g0 ra hB ht
    rw [ep]
    refine ⟨I', L', ?_, f2, f3⟩
    refine bX3_takeKnown_0 ro (Nat.zero_le _) (Nat.zero_le _) (g1 hx.1 hx.2) ?_
    refine bX3_takeKnown_5 (fun _ => ?_) (fun h => absurd h (by decide))
    refine bX3_takeKnown_10 ro (Nat.zero_le _) (Nat.zero_le _) f1 ?_
    refine bX3_takeKnown_14 ?_
    exact ⟨rfl, rfl, rfl⟩
  · obtain ⟨e, he⟩ : ∃ e, pKnown B n v s = .error e := by
      unfold pKnown
      by_cases h1 : nmb B n s = true
      · rw [if_pos h1]
        by_cases h2 : v = -1
        · rw [if_pos h2]; exact ⟨_, rfl⟩
        · exact absurd ⟨h1, h2⟩ hx
      · rw [if_neg h1]; exact ⟨_, rfl⟩
    obtain ⟨I', f1, f2⟩ := g2 e he
    rw [he]
    refine ⟨I', L, ?_, f2⟩
    refine bX3_takeKnown_0 ro (Nat.zero_le _) (Nat.zero_le _) f1 ?_
    refine bX3_takeKnown_5 (fun h => absurd rfl h) (fun _ => ?_)
    refine bX3_takeKnown_8 ?_
    exact ⟨rfl, rfl, rfl⟩
end NK
