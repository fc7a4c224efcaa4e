/-! THE TEXT'S SETUP: the model, a unit's head; a question -/
/-- a unit behind its word -/
def uUn (B : Nat → Nat) (n i lim : Nat) (cnt : (Nat → Int32) → Nat) (u : (Nat → Int32) → Nat → Except (Nat × Nat) (Nat × (Nat → Int32))) (w : Nat → Int32) (s : Nat) : Except (Nat × Nat) (Nat × (Nat → Int32)) := if wd B n s i = true then (if cnt w = lim then .error (5, s) else u w (nx B n s)) else .error (1, s)
def uHd (B : Nat → Nat) (n i lim : Nat) (cnt : (Nat → Int32) → Nat) (a0 st : Nat) (w : Nat → Int32) (s : Nat) : Except (Nat × Nat) (Nat × Int32) := if wd B n s i = true then (if cnt w = lim then .error (5, s) else pNew B n (fNm w a0 st B (nx B n s) (en B n (nx B n s) - nx B n s) (cnt w)) (nx B n s)) else .error (1, s)
section UH
variable {B : Nat → Nat} {n i lim s : Nat} {cnt : (Nat → Int32) → Nat} {u : (Nat → Int32) → Nat → Except (Nat × Nat) (Nat × (Nat → Int32))} {w : Nat → Int32} {a0 st : Nat}
theorem uHd_e {e : Nat × Nat} (hu : ∀ e, pNew B n (fNm w a0 st B (nx B n s) (en B n (nx B n s) - nx B n s) (cnt w)) (nx B n s) = .error e → u w (nx B n s) = .error e) (h : uHd B n i lim cnt a0 st w s = .error e) : uUn B n i lim cnt u w s = .error e := by
  unfold uHd at h
  unfold uUn
  by_cases h1 : wd B n s i = true
  · rw [if_pos h1] at h ⊢
    by_cases h2 : cnt w = lim
    · rw [if_pos h2] at h ⊢
      cases h
      rfl
    · rw [if_neg h2] at h ⊢
      exact hu _ h
  · rw [if_neg h1] at h ⊢
    cases h
    rfl
theorem uHd_o {q : Nat × Int32} (h : uHd B n i lim cnt a0 st w s = .ok q) : wd B n s i = true ∧ ¬ cnt w = lim ∧ pNew B n (fNm w a0 st B (nx B n s) (en B n (nx B n s) - nx B n s) (cnt w)) (nx B n s) = .ok q ∧ uUn B n i lim cnt u w s = u w (nx B n s) := by
  unfold uHd at h
  unfold uUn
  by_cases h1 : wd B n s i = true
  · rw [if_pos h1] at h ⊢
    by_cases h2 : cnt w = lim
    · rw [if_pos h2] at h
      cases h
    · rw [if_neg h2] at h ⊢
      exact ⟨h1, h2, h, rfl⟩
  · rw [if_neg h1] at h
    cases h
end UH
theorem mdMid.pre {B : Nat → Nat} {n m : Nat} {J J1 J' : am_I} {o : Except (Nat × Nat) (Nat × (Nat → Int32))} (h : mdMid B n m J1 J' o) (f1 : ∀ k, k ≠ m → k ≠ m + 1 → ¬ (m + 8 ≤ k ∧ k ≤ m + 12) → J1 k = J k) (f2 : ∀ j, j ≠ 11 → j ≠ 12 → ¬ (18 ≤ j ∧ j ≤ 24) → J1 m j = J m j) (kq : J1 m 11 = J m 11 ∧ J1 m 12 = J m 12) : mdMid B n m J J' o := by
  obtain ⟨a1, a2, a3⟩ := h
  refine ⟨fun k a b c => (a1 k a b c).trans (f1 k a b c), fun j a b c => (a2 j a b c).trans (f2 j a b c), ?_⟩
  cases o with
  | error e => exact a3
  | ok q => exact ⟨⟨a3.1.1.trans kq.1, a3.1.2.trans kq.2⟩, a3.2⟩
section MS1
variable {d : Nat} {Γ : am_G} {I : am_I} {L : am_L} {B : Nat → Nat} {n s m : Nat} {w : Nat → Int32}
theorem lyW_ze (w : Nat → Int32) (a : Nat) (B : Nat → Nat) (s len : Nat) : (fun j => if j = a then nn len else if a + 1 ≤ j ∧ j < a + 1 + len then nn (B (s + (j - (a + 1)))) else w j) = lyW w a B s len := rfl
theorem eX9_layName (hm : mdF Γ m) {a len : Nat} (hH : nmH I m B s len) (h6 : len ≤ 6) (ha : a + 7 ≤ 508) : ∃ J, am_E m_X9_layName d 0 0 [.ref m, .int (nn a)] Γ I L (.inl none) J L ∧ J (m + 1) = lyW (I (m + 1)) a B s len ∧ ∀ k, k ≠ m + 1 → J k = I k := by
  obtain ⟨mo, r0, r1, r2, r3, r4, r7, r8, r13, r14, r15, r16, r17, a1, a2, a3, a4, a5, a6, a7, a8, a9, a10, a11, a12⟩ := id hm
  obtain ⟨h18, hl⟩ := hH
  refine am_ofX1 rfl rfl rfl (Nat.le_of_ble_eq_true rfl) ?_
  have loop := nn_loop (fun i => ∀ J : am_I, (∀ k, k ≠ m + 1 → J k = I k) → J (m + 1) = (fun j => if j = a then nn len else if a + 1 ≤ j ∧ j < a + 1 + i then nn (B (s + (j - (a + 1)))) else I (m + 1) j) → ∃ J', am_W m_X9_layName d 0 0 false 0 0 12 [(0, .ref m), (1, .int (nn a)), (2, .int (nn i))] [] Γ J L (am_R (.inl none) J' L) ∧ J' (m + 1) = lyW (I (m + 1)) a B s len ∧ ∀ k, k ≠ m + 1 → J' k = I k) len ?_ (fun i hi ih => ?_)
  · obtain ⟨J', hW, hP⟩ := loop (am_u I (m + 1) a (nn len)) (fun k hk => am_u_ne hk) (by
      rw [am_u_up]
      funext j
      rw [up_at]
      by_cases hj : j = a
      · rw [if_pos hj, if_pos hj]
      · rw [if_neg hj, if_neg hj, if_neg (by omega)])
    refine ⟨J', ?_, hP⟩
    refine bX9_layName_0 mo r0 a1 (nn_in (by omega) (by omega)) ?_
    rw [nn_nat (by omega), h18]
    exact hW
  · intro J jk jr
    refine ⟨J, ?_, jr, jk⟩
    have e18 : J m 18 = nn len := by rw [jk m (by omega)]; exact h18
    refine bX9_layName_12 mo (fun _ => ?_) (fun z => absurd (Int32.le_of_eq e18) z)
    refine bX9_layName_42 ?_
    exact ⟨rfl, rfl, rfl⟩
  · intro J jk jr
    have e18 : J m 18 = nn len := by rw [jk m (by omega)]; exact h18
    have e12 : J (m + 12) i = nn (B (s + i)) := by rw [jk _ (by omega)]; exact hl i hi
    obtain ⟨J', hW, hP⟩ := ih (am_u J (m + 1) (a + 1 + i) (nn (B (s + i)))) (fun k hk => (am_u_ne hk).trans (jk k hk)) (by
      rw [am_u_up, jr]
      funext j
      rw [up_at]
      by_cases hj : j = a + 1 + i
      · rw [if_pos hj, if_neg (by omega), if_pos ⟨by omega, by omega⟩, show j - (a + 1) = i by omega]
      · rw [if_neg hj]
        by_cases h1 : j = a
        · rw [if_pos h1, if_pos h1]
        · rw [if_neg h1, if_neg h1]
          by_cases h2 : a + 1 ≤ j ∧ j < a + 1 + i
          · rw [if_pos h2, if_pos (by omega)]
          · rw [if_neg h2, if_neg (by omega)])
    refine ⟨J', ?_, hP⟩
    have ei : (nn a + 1 + nn i : Int32) = nn (a + 1 + i) := by rw [nn_s1, nn_add]
    refine bX9_layName_12 mo (fun z => absurd z (by rw [e18, nn_le (by omega) (by omega)]; omega)) (fun _ => ?_)
    refine bX9_layName_20 mo r0 r17 a12 (nn_in (by omega) (by omega)) a1 (by rw [ei]; exact nn_in (by omega) (by omega)) ?_
    rw [ei, nn_nat (by omega), nn_nat (by omega), e12, nn_s1]
    exact hW
theorem hd_Q (hm : mdF Γ m) (hw : wfp w) (hB : rmB I m B n) (ht : tkM B n I m s) (hr : I (m + 1) = w) (h23 : I m 23 = 0) :
    (∀ c p, uHd B n 2 6 vQ 13 8 w s = .error (c, p) → ∃ J, am_E m_X9_questionTold (d + 5) 0 0 [.ref m] Γ I L (.inl none) J L ∧ mdMid B n m I J (.error (c, p))) ∧
    (∀ q, uHd B n 2 6 vQ 13 8 w s = .ok q → ∃ J, tkM B n J m (nx B n s) ∧ nmH J m B (nx B n s) (en B n (nx B n s) - nx B n s) ∧ (∀ k, k ≠ m → k ≠ m + 12 → J k = I k) ∧ (∀ j, ¬ (18 ≤ j ∧ j ≤ 22) → J m j = I m j) ∧ ∀ If, am_W m_X9_questionTold (d + 5) 0 0 false 0 0 81 [(0, .ref m)] [] Γ J L (am_R (.inl none) If L) → am_W m_X9_questionTold (d + 5) 0 0 false 0 0 0 [(0, .ref m)] [] Γ I L (am_R (.inl none) If L)) := by
  obtain ⟨mo, r0, r1, r2, r3, r4, r7, r8, r13, r14, r15, r16, r17, a1, a2, a3, a4, a5, a6, a7, a8, a9, a10, a11, a12⟩ := id hm
  have hIs := eX9_is (d := d) (L := L) hm hB ht (show 2 < am_sn by decide)
  have e0 : I (m + 1) (0 : Int32).toNatClampNeg = nn (vQ w) := by rw [hr]; exact hw.1.1
  have v6 : vQ w ≤ 6 := hw.1.2
  have el : (I (m + 1) (0 : Int32).toNatClampNeg = 6) ↔ vQ w = 6 := by rw [e0]; exact nn_eq (b := 6) (by omega) (by decide)
  have tl40 : ∀ J : am_I, J m 23 = 1 → am_W m_X9_questionTold (d + 5) 0 0 false 0 0 40 [(0, .ref m)] [] Γ J L (am_R (.inl none) J L) := fun J hJ => by
    refine bX9_questionTold_40 mo (Nat.zero_le _) (Nat.zero_le _) (eX9_go_x hm hJ) ?_
    refine bX9_questionTold_44 mo (Nat.zero_le _) (Nat.zero_le _) (eX9_nameHere_x hm hJ) ?_
    refine bX9_questionTold_48 mo (fun _ => ?_) (fun z => absurd z (by rw [hJ]; decide))
    refine bX9_questionTold_68 ?_
    refine bX9_questionTold_69 mo (Nat.zero_le _) (Nat.zero_le _) (eX9_wrong_x hm hJ _ _) ?_
    refine bX9_questionTold_73 mo (fun z => absurd z (by rw [hJ]; decide)) (fun _ => ?_)
    refine bX9_questionTold_80 ?_
    exact ⟨rfl, rfl, rfl⟩
  have tl19 : ∀ J : am_I, J m 23 = 1 → am_W m_X9_questionTold (d + 5) 0 0 false 0 0 19 [(0, .ref m)] [] Γ J L (am_R (.inl none) J L) := fun J hJ => by
    refine bX9_questionTold_19 mo r0 a1 (nn_in (k := 0) (by decide) (by decide)) (fun _ => ?_) (fun _ => ?_)
    · refine bX9_questionTold_35 ?_
      refine bX9_questionTold_36 mo (Nat.zero_le _) (Nat.zero_le _) (eX9_wrong_x hm hJ _ _) ?_
      exact tl40 J hJ
    · refine bX9_questionTold_31 ?_
      refine bX9_questionTold_36 mo (Nat.zero_le _) (Nat.zero_le _) (eX9_wrong_x hm hJ _ _) ?_
      exact tl40 J hJ
  have wr : ∀ (J : am_I) (c p : Nat), (∀ k, k ≠ m → k ≠ m + 12 → J k = I k) → (∀ j, ¬ (18 ≤ j ∧ j ≤ 22) → J m j = I m j) → mdMid B n m I (wrS J m c p) (.error (c, p)) := fun J c p h1 h2 => by
    obtain ⟨e1, e2, e3, e4, e5⟩ := wrS_at (J := J) (m := m) (c := c) (s := p)
    exact ⟨fun k a _ c' => (e4 k a).trans (h1 k a (by omega)), fun j a b c' => (e5 j (by omega) a b).trans (h2 j (by omega)), e1, e2, e3⟩
  cases hx : wd B n s 2 with
  | false =>
    have hu : uHd B n 2 6 vQ 13 8 w s = .error (1, s) := by unfold uHd; rw [if_neg (by rw [hx]; decide)]
    rw [hx] at hIs
    rw [hu]
    refine ⟨fun c p hh => ?_, fun q hh => by cases hh⟩
    cases hh
    refine ⟨wrS I m 1 s, am_ofE rfl rfl rfl (Nat.le_of_ble_eq_true rfl) ?_, wr I 1 s (fun _ _ _ => rfl) (fun _ _ => rfl)⟩
    refine bX9_questionTold_0 mo (Nat.zero_le _) (Nat.zero_le _) hIs ?_
    refine bX9_questionTold_7 (fun z => absurd rfl z) (fun _ => ?_)
    refine bX9_questionTold_10 ?_
    refine bX9_questionTold_15 mo (Nat.zero_le _) (Nat.zero_le _) (eX9_wrong_1 hm h23 ht.2.1 1) ?_
    exact tl19 _ wrS_at.1
  | true =>
    rw [hx] at hIs
    have hd19 : ∀ If, am_W m_X9_questionTold (d + 5) 0 0 false 0 0 19 [(0, .ref m)] [] Γ I L (am_R (.inl none) If L) → am_W m_X9_questionTold (d + 5) 0 0 false 0 0 0 [(0, .ref m)] [] Γ I L (am_R (.inl none) If L) := fun If hW => by
      refine bX9_questionTold_0 mo (Nat.zero_le _) (Nat.zero_le _) hIs ?_
      refine bX9_questionTold_7 (fun _ => ?_) (fun z => absurd z (by decide))
      refine bX9_questionTold_14 ?_
      exact bX9_questionTold_15 mo (Nat.zero_le _) (Nat.zero_le _) (eX9_wrong_0 hm _) hW
    by_cases h6 : vQ w = 6
    · have hu : uHd B n 2 6 vQ 13 8 w s = .error (5, s) := by unfold uHd; rw [if_pos hx, if_pos h6]
      rw [hu]
      refine ⟨fun c p hh => ?_, fun q hh => by cases hh⟩
      cases hh
      refine ⟨wrS I m 5 s, am_ofE rfl rfl rfl (Nat.le_of_ble_eq_true rfl) (hd19 _ ?_), wr I 5 s (fun _ _ _ => rfl) (fun _ _ => rfl)⟩
      refine bX9_questionTold_19 mo r0 a1 (nn_in (k := 0) (by decide) (by decide)) (fun z => absurd (el.mpr h6) z) (fun _ => ?_)
      refine bX9_questionTold_31 ?_
      refine bX9_questionTold_36 mo (Nat.zero_le _) (Nat.zero_le _) (eX9_wrong_1 hm h23 ht.2.1 5) ?_
      exact tl40 _ wrS_at.1
    · have hu : uHd B n 2 6 vQ 13 8 w s = pNew B n (fNm w 13 8 B (nx B n s) (en B n (nx B n s) - nx B n s) (vQ w)) (nx B n s) := by unfold uHd; rw [if_pos hx, if_neg h6]
      rw [hu]
      obtain ⟨I1, hE1, t1, fr1⟩ := eX9_go (d := d + 1) (L := L) hm hB ht h23
      have x1 : I1 m 23 = 0 := (fr1.2 23 (by decide) (by decide) (by decide) (by decide)).trans h23
      have hd44 : ∀ If, am_W m_X9_questionTold (d + 5) 0 0 false 0 0 44 [(0, .ref m)] [] Γ I1 L (am_R (.inl none) If L) → am_W m_X9_questionTold (d + 5) 0 0 false 0 0 0 [(0, .ref m)] [] Γ I L (am_R (.inl none) If L) := fun If hW => hd19 If (by
        refine bX9_questionTold_19 mo r0 a1 (nn_in (k := 0) (by decide) (by decide)) (fun _ => ?_) (fun z => absurd (el.mp z) h6)
        refine bX9_questionTold_35 ?_
        refine bX9_questionTold_36 mo (Nat.zero_le _) (Nat.zero_le _) (eX9_wrong_0 hm _) ?_
        exact bX9_questionTold_40 mo (Nat.zero_le _) (Nat.zero_le _) hE1 hW)
      have f1 : ∀ k, k ≠ m → k ≠ m + 12 → I1 k = I k := fun k a _ => fr1.1 k a
      have f2 : ∀ j, ¬ (18 ≤ j ∧ j ≤ 22) → I1 m j = I m j := fun j a => fr1.2 j (by omega) (by omega) (by omega) (by omega)
      obtain ⟨n1, n2⟩ := eX9_nameHere (d := d + 3) (L := L) hm (hB.frM fr1) t1 x1
      cases hy : nmb B n (nx B n s) with
      | false =>
        have hp : ∀ v, pNew B n v (nx B n s) = .error (1, nx B n s) := fun v => by unfold pNew; rw [if_neg (by rw [hy]; decide)]
        rw [hp]
        have hE2 := n2 hy
        refine ⟨fun c p hh => ?_, fun q hh => by cases hh⟩
        cases hh
        have w1 : wrS I1 m 1 (nx B n s) m 23 = 1 := wrS_at.1
        refine ⟨wrS I1 m 1 (nx B n s), am_ofE rfl rfl rfl (Nat.le_of_ble_eq_true rfl) (hd44 _ ?_), wr I1 1 _ f1 f2⟩
        refine bX9_questionTold_44 mo (Nat.zero_le _) (Nat.zero_le _) hE2 ?_
        refine bX9_questionTold_48 mo (fun _ => ?_) (fun z => absurd z (by rw [w1]; decide))
        refine bX9_questionTold_68 ?_
        refine bX9_questionTold_69 mo (Nat.zero_le _) (Nat.zero_le _) (eX9_wrong_x hm w1 _ _) ?_
        refine bX9_questionTold_73 mo (fun z => absurd z (by rw [w1]; decide)) (fun _ => ?_)
        refine bX9_questionTold_80 ?_
        exact ⟨rfl, rfl, rfl⟩
      | true =>
        obtain ⟨I2, hE2, hH, k2, j2⟩ := n1 hy
        obtain ⟨l6, -⟩ := nmb_len hy
        have q2 : I2 (m + 1) = w := (k2 _ (by omega) (by omega)).trans ((fr1.1 _ (by omega)).trans hr)
        have x2 : I2 m 23 = 0 := (j2 23 (by decide)).trans x1
        have t2 : tkM B n I2 m (nx B n s) := t1.st (fun j a _ => j2 j (by omega))
        have hNm := eX9_questionNamed (d := d + 3) (L := L) (I := I2) hm (by rw [q2]; exact hw) hH l6
        rw [q2] at hNm
        have g1 : ∀ k, k ≠ m → k ≠ m + 12 → I2 k = I k := fun k a b => (k2 k a b).trans (f1 k a b)
        have g2 : ∀ j, ¬ (18 ≤ j ∧ j ≤ 22) → I2 m j = I m j := fun j a => (j2 j (by omega)).trans (f2 j a)
        have hd60 : ∀ If, am_W m_X9_questionTold (d + 5) 0 0 false 0 0 60 [(0, .ref m)] [.int (fNm w 13 8 B (nx B n s) (en B n (nx B n s) - nx B n s) (vQ w)), .ref m] Γ I2 L (am_R (.inl none) If L) → am_W m_X9_questionTold (d + 5) 0 0 false 0 0 0 [(0, .ref m)] [] Γ I L (am_R (.inl none) If L) := fun If hW => hd44 If (by
          refine bX9_questionTold_44 mo (Nat.zero_le _) (Nat.zero_le _) hE2 ?_
          refine bX9_questionTold_48 mo (fun z => absurd x2 z) (fun _ => ?_)
          exact bX9_questionTold_56 mo (Nat.zero_le _) (Nat.zero_le _) hNm hW)
        by_cases hv : fNm w 13 8 B (nx B n s) (en B n (nx B n s) - nx B n s) (vQ w) = -1
        · have hp : pNew B n (fNm w 13 8 B (nx B n s) (en B n (nx B n s) - nx B n s) (vQ w)) (nx B n s) = .ok (nx B n s, 1) := by unfold pNew; rw [if_pos hy, if_pos hv]
          rw [hp]
          refine ⟨fun c p hh => (by cases hh), fun q _ => ⟨I2, t2, hH, g1, g2, fun If hW => hd60 If ?_⟩⟩
          refine bX9_questionTold_60 (fun _ => ?_) (fun z => absurd hv z)
          refine bX9_questionTold_68 ?_
          refine bX9_questionTold_69 mo (Nat.zero_le _) (Nat.zero_le _) (eX9_wrong_0 hm _) ?_
          exact bX9_questionTold_73 mo (fun _ => hW) (fun z => absurd x2 z)
        · have hp : pNew B n (fNm w 13 8 B (nx B n s) (en B n (nx B n s) - nx B n s) (vQ w)) (nx B n s) = .error (4, nx B n s) := by unfold pNew; rw [if_pos hy, if_neg hv]
          rw [hp]
          refine ⟨fun c p hh => ?_, fun q hh => by cases hh⟩
          cases hh
          have w1 : wrS I2 m 4 (nx B n s) m 23 = 1 := wrS_at.1
          refine ⟨wrS I2 m 4 (nx B n s), am_ofE rfl rfl rfl (Nat.le_of_ble_eq_true rfl) (hd60 _ ?_), wr I2 4 _ g1 g2⟩
          refine bX9_questionTold_60 (fun z => absurd z hv) (fun _ => ?_)
          refine bX9_questionTold_64 ?_
          refine bX9_questionTold_69 mo (Nat.zero_le _) (Nat.zero_le _) (eX9_wrong_1 hm x2 t2.2.1 4) ?_
          refine bX9_questionTold_73 mo (fun z => absurd z (by rw [w1]; decide)) (fun _ => ?_)
          refine bX9_questionTold_80 ?_
          exact ⟨rfl, rfl, rfl⟩
theorem hd_T (hm : mdF Γ m) (hw : wfp w) (hB : rmB I m B n) (ht : tkM B n I m s) (hr : I (m + 1) = w) (h23 : I m 23 = 0) :
    (∀ c p, uHd B n 3 8 vT 62 9 w s = .error (c, p) → ∃ J, am_E m_X9_typeTold (d + 5) 0 0 [.ref m] Γ I L (.inl none) J L ∧ mdMid B n m I J (.error (c, p))) ∧
    (∀ q, uHd B n 3 8 vT 62 9 w s = .ok q → ∃ J, tkM B n J m (nx B n s) ∧ nmH J m B (nx B n s) (en B n (nx B n s) - nx B n s) ∧ (∀ k, k ≠ m → k ≠ m + 12 → J k = I k) ∧ (∀ j, ¬ (18 ≤ j ∧ j ≤ 22) → J m j = I m j) ∧ ∀ If, am_W m_X9_typeTold (d + 5) 0 0 false 0 0 82 [(0, .ref m)] [] Γ J L (am_R (.inl none) If L) → am_W m_X9_typeTold (d + 5) 0 0 false 0 0 0 [(0, .ref m)] [] Γ I L (am_R (.inl none) If L)) := by
  obtain ⟨mo, r0, r1, r2, r3, r4, r7, r8, r13, r14, r15, r16, r17, a1, a2, a3, a4, a5, a6, a7, a8, a9, a10, a11, a12⟩ := id hm
  have hIs := eX9_is (d := d) (L := L) hm hB ht (show 3 < am_sn by decide)
  have e0 : I (m + 1) (1 : Int32).toNatClampNeg = nn (vT w) := by rw [hr]; exact hw.2.1.1
  have v6 : vT w ≤ 8 := hw.2.1.2
  have el : (I (m + 1) (1 : Int32).toNatClampNeg = 8) ↔ vT w = 8 := by rw [e0]; exact nn_eq (b := 8) (by omega) (by decide)
  have tl40 : ∀ J : am_I, J m 23 = 1 → am_W m_X9_typeTold (d + 5) 0 0 false 0 0 41 [(0, .ref m)] [] Γ J L (am_R (.inl none) J L) := fun J hJ => by
    refine bX9_typeTold_41 mo (Nat.zero_le _) (Nat.zero_le _) (eX9_go_x hm hJ) ?_
    refine bX9_typeTold_45 mo (Nat.zero_le _) (Nat.zero_le _) (eX9_nameHere_x hm hJ) ?_
    refine bX9_typeTold_49 mo (fun _ => ?_) (fun z => absurd z (by rw [hJ]; decide))
    refine bX9_typeTold_69 ?_
    refine bX9_typeTold_70 mo (Nat.zero_le _) (Nat.zero_le _) (eX9_wrong_x hm hJ _ _) ?_
    refine bX9_typeTold_74 mo (fun z => absurd z (by rw [hJ]; decide)) (fun _ => ?_)
    refine bX9_typeTold_81 ?_
    exact ⟨rfl, rfl, rfl⟩
  have tl19 : ∀ J : am_I, J m 23 = 1 → am_W m_X9_typeTold (d + 5) 0 0 false 0 0 20 [(0, .ref m)] [] Γ J L (am_R (.inl none) J L) := fun J hJ => by
    refine bX9_typeTold_20 mo r0 a1 (nn_in (k := 1) (by decide) (by decide)) (fun _ => ?_) (fun _ => ?_)
    · refine bX9_typeTold_36 ?_
      refine bX9_typeTold_37 mo (Nat.zero_le _) (Nat.zero_le _) (eX9_wrong_x hm hJ _ _) ?_
      exact tl40 J hJ
    · refine bX9_typeTold_32 ?_
      refine bX9_typeTold_37 mo (Nat.zero_le _) (Nat.zero_le _) (eX9_wrong_x hm hJ _ _) ?_
      exact tl40 J hJ
  have wr : ∀ (J : am_I) (c p : Nat), (∀ k, k ≠ m → k ≠ m + 12 → J k = I k) → (∀ j, ¬ (18 ≤ j ∧ j ≤ 22) → J m j = I m j) → mdMid B n m I (wrS J m c p) (.error (c, p)) := fun J c p h1 h2 => by
    obtain ⟨e1, e2, e3, e4, e5⟩ := wrS_at (J := J) (m := m) (c := c) (s := p)
    exact ⟨fun k a _ c' => (e4 k a).trans (h1 k a (by omega)), fun j a b c' => (e5 j (by omega) a b).trans (h2 j (by omega)), e1, e2, e3⟩
  cases hx : wd B n s 3 with
  | false =>
    have hu : uHd B n 3 8 vT 62 9 w s = .error (1, s) := by unfold uHd; rw [if_neg (by rw [hx]; decide)]
    rw [hx] at hIs
    rw [hu]
    refine ⟨fun c p hh => ?_, fun q hh => by cases hh⟩
    cases hh
    refine ⟨wrS I m 1 s, am_ofE rfl rfl rfl (Nat.le_of_ble_eq_true rfl) ?_, wr I 1 s (fun _ _ _ => rfl) (fun _ _ => rfl)⟩
    refine bX9_typeTold_0 mo (Nat.zero_le _) (Nat.zero_le _) hIs ?_
    refine bX9_typeTold_8 (fun z => absurd rfl z) (fun _ => ?_)
    refine bX9_typeTold_11 ?_
    refine bX9_typeTold_16 mo (Nat.zero_le _) (Nat.zero_le _) (eX9_wrong_1 hm h23 ht.2.1 1) ?_
    exact tl19 _ wrS_at.1
  | true =>
    rw [hx] at hIs
    have hd19 : ∀ If, am_W m_X9_typeTold (d + 5) 0 0 false 0 0 20 [(0, .ref m)] [] Γ I L (am_R (.inl none) If L) → am_W m_X9_typeTold (d + 5) 0 0 false 0 0 0 [(0, .ref m)] [] Γ I L (am_R (.inl none) If L) := fun If hW => by
      refine bX9_typeTold_0 mo (Nat.zero_le _) (Nat.zero_le _) hIs ?_
      refine bX9_typeTold_8 (fun _ => ?_) (fun z => absurd z (by decide))
      refine bX9_typeTold_15 ?_
      exact bX9_typeTold_16 mo (Nat.zero_le _) (Nat.zero_le _) (eX9_wrong_0 hm _) hW
    by_cases h6 : vT w = 8
    · have hu : uHd B n 3 8 vT 62 9 w s = .error (5, s) := by unfold uHd; rw [if_pos hx, if_pos h6]
      rw [hu]
      refine ⟨fun c p hh => ?_, fun q hh => by cases hh⟩
      cases hh
      refine ⟨wrS I m 5 s, am_ofE rfl rfl rfl (Nat.le_of_ble_eq_true rfl) (hd19 _ ?_), wr I 5 s (fun _ _ _ => rfl) (fun _ _ => rfl)⟩
      refine bX9_typeTold_20 mo r0 a1 (nn_in (k := 1) (by decide) (by decide)) (fun z => absurd (el.mpr h6) z) (fun _ => ?_)
      refine bX9_typeTold_32 ?_
      refine bX9_typeTold_37 mo (Nat.zero_le _) (Nat.zero_le _) (eX9_wrong_1 hm h23 ht.2.1 5) ?_
      exact tl40 _ wrS_at.1
    · have hu : uHd B n 3 8 vT 62 9 w s = pNew B n (fNm w 62 9 B (nx B n s) (en B n (nx B n s) - nx B n s) (vT w)) (nx B n s) := by unfold uHd; rw [if_pos hx, if_neg h6]
      rw [hu]
      obtain ⟨I1, hE1, t1, fr1⟩ := eX9_go (d := d + 1) (L := L) hm hB ht h23
      have x1 : I1 m 23 = 0 := (fr1.2 23 (by decide) (by decide) (by decide) (by decide)).trans h23
      have hd44 : ∀ If, am_W m_X9_typeTold (d + 5) 0 0 false 0 0 45 [(0, .ref m)] [] Γ I1 L (am_R (.inl none) If L) → am_W m_X9_typeTold (d + 5) 0 0 false 0 0 0 [(0, .ref m)] [] Γ I L (am_R (.inl none) If L) := fun If hW => hd19 If (by
        refine bX9_typeTold_20 mo r0 a1 (nn_in (k := 1) (by decide) (by decide)) (fun _ => ?_) (fun z => absurd (el.mp z) h6)
        refine bX9_typeTold_36 ?_
        refine bX9_typeTold_37 mo (Nat.zero_le _) (Nat.zero_le _) (eX9_wrong_0 hm _) ?_
        exact bX9_typeTold_41 mo (Nat.zero_le _) (Nat.zero_le _) hE1 hW)
      have f1 : ∀ k, k ≠ m → k ≠ m + 12 → I1 k = I k := fun k a _ => fr1.1 k a
      have f2 : ∀ j, ¬ (18 ≤ j ∧ j ≤ 22) → I1 m j = I m j := fun j a => fr1.2 j (by omega) (by omega) (by omega) (by omega)
      obtain ⟨n1, n2⟩ := eX9_nameHere (d := d + 3) (L := L) hm (hB.frM fr1) t1 x1
      cases hy : nmb B n (nx B n s) with
      | false =>
        have hp : ∀ v, pNew B n v (nx B n s) = .error (1, nx B n s) := fun v => by unfold pNew; rw [if_neg (by rw [hy]; decide)]
        rw [hp]
        have hE2 := n2 hy
        refine ⟨fun c p hh => ?_, fun q hh => by cases hh⟩
        cases hh
        have w1 : wrS I1 m 1 (nx B n s) m 23 = 1 := wrS_at.1
        refine ⟨wrS I1 m 1 (nx B n s), am_ofE rfl rfl rfl (Nat.le_of_ble_eq_true rfl) (hd44 _ ?_), wr I1 1 _ f1 f2⟩
        refine bX9_typeTold_45 mo (Nat.zero_le _) (Nat.zero_le _) hE2 ?_
        refine bX9_typeTold_49 mo (fun _ => ?_) (fun z => absurd z (by rw [w1]; decide))
        refine bX9_typeTold_69 ?_
        refine bX9_typeTold_70 mo (Nat.zero_le _) (Nat.zero_le _) (eX9_wrong_x hm w1 _ _) ?_
        refine bX9_typeTold_74 mo (fun z => absurd z (by rw [w1]; decide)) (fun _ => ?_)
        refine bX9_typeTold_81 ?_
        exact ⟨rfl, rfl, rfl⟩
      | true =>
        obtain ⟨I2, hE2, hH, k2, j2⟩ := n1 hy
        obtain ⟨l6, -⟩ := nmb_len hy
        have q2 : I2 (m + 1) = w := (k2 _ (by omega) (by omega)).trans ((fr1.1 _ (by omega)).trans hr)
        have x2 : I2 m 23 = 0 := (j2 23 (by decide)).trans x1
        have t2 : tkM B n I2 m (nx B n s) := t1.st (fun j a _ => j2 j (by omega))
        have hNm := eX9_typeNamed (d := d + 3) (L := L) (I := I2) hm (by rw [q2]; exact hw) hH l6
        rw [q2] at hNm
        have g1 : ∀ k, k ≠ m → k ≠ m + 12 → I2 k = I k := fun k a b => (k2 k a b).trans (f1 k a b)
        have g2 : ∀ j, ¬ (18 ≤ j ∧ j ≤ 22) → I2 m j = I m j := fun j a => (j2 j (by omega)).trans (f2 j a)
        have hd60 : ∀ If, am_W m_X9_typeTold (d + 5) 0 0 false 0 0 61 [(0, .ref m)] [.int (fNm w 62 9 B (nx B n s) (en B n (nx B n s) - nx B n s) (vT w)), .ref m] Γ I2 L (am_R (.inl none) If L) → am_W m_X9_typeTold (d + 5) 0 0 false 0 0 0 [(0, .ref m)] [] Γ I L (am_R (.inl none) If L) := fun If hW => hd44 If (by
          refine bX9_typeTold_45 mo (Nat.zero_le _) (Nat.zero_le _) hE2 ?_
          refine bX9_typeTold_49 mo (fun z => absurd x2 z) (fun _ => ?_)
          exact bX9_typeTold_57 mo (Nat.zero_le _) (Nat.zero_le _) hNm hW)
        by_cases hv : fNm w 62 9 B (nx B n s) (en B n (nx B n s) - nx B n s) (vT w) = -1
        · have hp : pNew B n (fNm w 62 9 B (nx B n s) (en B n (nx B n s) - nx B n s) (vT w)) (nx B n s) = .ok (nx B n s, 1) := by unfold pNew; rw [if_pos hy, if_pos hv]
          rw [hp]
          refine ⟨fun c p hh => (by cases hh), fun q _ => ⟨I2, t2, hH, g1, g2, fun If hW => hd60 If ?_⟩⟩
          refine bX9_typeTold_61 (fun _ => ?_) (fun z => absurd hv z)
          refine bX9_typeTold_69 ?_
          refine bX9_typeTold_70 mo (Nat.zero_le _) (Nat.zero_le _) (eX9_wrong_0 hm _) ?_
          exact bX9_typeTold_74 mo (fun _ => hW) (fun z => absurd x2 z)
        · have hp : pNew B n (fNm w 62 9 B (nx B n s) (en B n (nx B n s) - nx B n s) (vT w)) (nx B n s) = .error (4, nx B n s) := by unfold pNew; rw [if_pos hy, if_neg hv]
          rw [hp]
          refine ⟨fun c p hh => ?_, fun q hh => by cases hh⟩
          cases hh
          have w1 : wrS I2 m 4 (nx B n s) m 23 = 1 := wrS_at.1
          refine ⟨wrS I2 m 4 (nx B n s), am_ofE rfl rfl rfl (Nat.le_of_ble_eq_true rfl) (hd60 _ ?_), wr I2 4 _ g1 g2⟩
          refine bX9_typeTold_61 (fun z => absurd z hv) (fun _ => ?_)
          refine bX9_typeTold_65 ?_
          refine bX9_typeTold_70 mo (Nat.zero_le _) (Nat.zero_le _) (eX9_wrong_1 hm x2 t2.2.1 4) ?_
          refine bX9_typeTold_74 mo (fun z => absurd z (by rw [w1]; decide)) (fun _ => ?_)
          refine bX9_typeTold_81 ?_
          exact ⟨rfl, rfl, rfl⟩
theorem hd_G (hm : mdF Γ m) (hw : wfp w) (hB : rmB I m B n) (ht : tkM B n I m s) (hr : I (m + 1) = w) (h23 : I m 23 = 0) :
    (∀ c p, uHd B n 4 4 vG 135 94 w s = .error (c, p) → ∃ J, am_E m_X9_gateTold (d + 5) 0 0 [.ref m] Γ I L (.inl none) J L ∧ mdMid B n m I J (.error (c, p))) ∧
    (∀ q, uHd B n 4 4 vG 135 94 w s = .ok q → ∃ J, tkM B n J m (nx B n s) ∧ nmH J m B (nx B n s) (en B n (nx B n s) - nx B n s) ∧ (∀ k, k ≠ m → k ≠ m + 12 → J k = I k) ∧ (∀ j, ¬ (18 ≤ j ∧ j ≤ 22) → J m j = I m j) ∧ ∀ If, am_W m_X9_gateTold (d + 5) 0 0 false 0 0 81 [(0, .ref m)] [] Γ J L (am_R (.inl none) If L) → am_W m_X9_gateTold (d + 5) 0 0 false 0 0 0 [(0, .ref m)] [] Γ I L (am_R (.inl none) If L)) := by
  obtain ⟨mo, r0, r1, r2, r3, r4, r7, r8, r13, r14, r15, r16, r17, a1, a2, a3, a4, a5, a6, a7, a8, a9, a10, a11, a12⟩ := id hm
  have hIs := eX9_is (d := d) (L := L) hm hB ht (show 4 < am_sn by decide)
  have e0 : I (m + 1) (2 : Int32).toNatClampNeg = nn (vG w) := by rw [hr]; exact hw.2.2.1.1
  have v6 : vG w ≤ 4 := hw.2.2.1.2
  have el : (I (m + 1) (2 : Int32).toNatClampNeg = 4) ↔ vG w = 4 := by rw [e0]; exact nn_eq (b := 4) (by omega) (by decide)
  have tl40 : ∀ J : am_I, J m 23 = 1 → am_W m_X9_gateTold (d + 5) 0 0 false 0 0 40 [(0, .ref m)] [] Γ J L (am_R (.inl none) J L) := fun J hJ => by
    refine bX9_gateTold_40 mo (Nat.zero_le _) (Nat.zero_le _) (eX9_go_x hm hJ) ?_
    refine bX9_gateTold_44 mo (Nat.zero_le _) (Nat.zero_le _) (eX9_nameHere_x hm hJ) ?_
    refine bX9_gateTold_48 mo (fun _ => ?_) (fun z => absurd z (by rw [hJ]; decide))
    refine bX9_gateTold_68 ?_
    refine bX9_gateTold_69 mo (Nat.zero_le _) (Nat.zero_le _) (eX9_wrong_x hm hJ _ _) ?_
    refine bX9_gateTold_73 mo (fun z => absurd z (by rw [hJ]; decide)) (fun _ => ?_)
    refine bX9_gateTold_80 ?_
    exact ⟨rfl, rfl, rfl⟩
  have tl19 : ∀ J : am_I, J m 23 = 1 → am_W m_X9_gateTold (d + 5) 0 0 false 0 0 20 [(0, .ref m)] [] Γ J L (am_R (.inl none) J L) := fun J hJ => by
    refine bX9_gateTold_20 mo r0 a1 (nn_in (k := 2) (by decide) (by decide)) (fun _ => ?_) (fun _ => ?_)
    · refine bX9_gateTold_35 ?_
      refine bX9_gateTold_36 mo (Nat.zero_le _) (Nat.zero_le _) (eX9_wrong_x hm hJ _ _) ?_
      exact tl40 J hJ
    · refine bX9_gateTold_31 ?_
      refine bX9_gateTold_36 mo (Nat.zero_le _) (Nat.zero_le _) (eX9_wrong_x hm hJ _ _) ?_
      exact tl40 J hJ
  have wr : ∀ (J : am_I) (c p : Nat), (∀ k, k ≠ m → k ≠ m + 12 → J k = I k) → (∀ j, ¬ (18 ≤ j ∧ j ≤ 22) → J m j = I m j) → mdMid B n m I (wrS J m c p) (.error (c, p)) := fun J c p h1 h2 => by
    obtain ⟨e1, e2, e3, e4, e5⟩ := wrS_at (J := J) (m := m) (c := c) (s := p)
    exact ⟨fun k a _ c' => (e4 k a).trans (h1 k a (by omega)), fun j a b c' => (e5 j (by omega) a b).trans (h2 j (by omega)), e1, e2, e3⟩
  cases hx : wd B n s 4 with
  | false =>
    have hu : uHd B n 4 4 vG 135 94 w s = .error (1, s) := by unfold uHd; rw [if_neg (by rw [hx]; decide)]
    rw [hx] at hIs
    rw [hu]
    refine ⟨fun c p hh => ?_, fun q hh => by cases hh⟩
    cases hh
    refine ⟨wrS I m 1 s, am_ofE rfl rfl rfl (Nat.le_of_ble_eq_true rfl) ?_, wr I 1 s (fun _ _ _ => rfl) (fun _ _ => rfl)⟩
    refine bX9_gateTold_0 mo (Nat.zero_le _) (Nat.zero_le _) hIs ?_
    refine bX9_gateTold_8 (fun z => absurd rfl z) (fun _ => ?_)
    refine bX9_gateTold_11 ?_
    refine bX9_gateTold_16 mo (Nat.zero_le _) (Nat.zero_le _) (eX9_wrong_1 hm h23 ht.2.1 1) ?_
    exact tl19 _ wrS_at.1
  | true =>
    rw [hx] at hIs
    have hd19 : ∀ If, am_W m_X9_gateTold (d + 5) 0 0 false 0 0 20 [(0, .ref m)] [] Γ I L (am_R (.inl none) If L) → am_W m_X9_gateTold (d + 5) 0 0 false 0 0 0 [(0, .ref m)] [] Γ I L (am_R (.inl none) If L) := fun If hW => by
      refine bX9_gateTold_0 mo (Nat.zero_le _) (Nat.zero_le _) hIs ?_
      refine bX9_gateTold_8 (fun _ => ?_) (fun z => absurd z (by decide))
      refine bX9_gateTold_15 ?_
      exact bX9_gateTold_16 mo (Nat.zero_le _) (Nat.zero_le _) (eX9_wrong_0 hm _) hW
    by_cases h6 : vG w = 4
    · have hu : uHd B n 4 4 vG 135 94 w s = .error (5, s) := by unfold uHd; rw [if_pos hx, if_pos h6]
      rw [hu]
      refine ⟨fun c p hh => ?_, fun q hh => by cases hh⟩
      cases hh
      refine ⟨wrS I m 5 s, am_ofE rfl rfl rfl (Nat.le_of_ble_eq_true rfl) (hd19 _ ?_), wr I 5 s (fun _ _ _ => rfl) (fun _ _ => rfl)⟩
      refine bX9_gateTold_20 mo r0 a1 (nn_in (k := 2) (by decide) (by decide)) (fun z => absurd (el.mpr h6) z) (fun _ => ?_)
      refine bX9_gateTold_31 ?_
      refine bX9_gateTold_36 mo (Nat.zero_le _) (Nat.zero_le _) (eX9_wrong_1 hm h23 ht.2.1 5) ?_
      exact tl40 _ wrS_at.1
    · have hu : uHd B n 4 4 vG 135 94 w s = pNew B n (fNm w 135 94 B (nx B n s) (en B n (nx B n s) - nx B n s) (vG w)) (nx B n s) := by unfold uHd; rw [if_pos hx, if_neg h6]
      rw [hu]
      obtain ⟨I1, hE1, t1, fr1⟩ := eX9_go (d := d + 1) (L := L) hm hB ht h23
      have x1 : I1 m 23 = 0 := (fr1.2 23 (by decide) (by decide) (by decide) (by decide)).trans h23
      have hd44 : ∀ If, am_W m_X9_gateTold (d + 5) 0 0 false 0 0 44 [(0, .ref m)] [] Γ I1 L (am_R (.inl none) If L) → am_W m_X9_gateTold (d + 5) 0 0 false 0 0 0 [(0, .ref m)] [] Γ I L (am_R (.inl none) If L) := fun If hW => hd19 If (by
        refine bX9_gateTold_20 mo r0 a1 (nn_in (k := 2) (by decide) (by decide)) (fun _ => ?_) (fun z => absurd (el.mp z) h6)
        refine bX9_gateTold_35 ?_
        refine bX9_gateTold_36 mo (Nat.zero_le _) (Nat.zero_le _) (eX9_wrong_0 hm _) ?_
        exact bX9_gateTold_40 mo (Nat.zero_le _) (Nat.zero_le _) hE1 hW)
      have f1 : ∀ k, k ≠ m → k ≠ m + 12 → I1 k = I k := fun k a _ => fr1.1 k a
      have f2 : ∀ j, ¬ (18 ≤ j ∧ j ≤ 22) → I1 m j = I m j := fun j a => fr1.2 j (by omega) (by omega) (by omega) (by omega)
      obtain ⟨n1, n2⟩ := eX9_nameHere (d := d + 3) (L := L) hm (hB.frM fr1) t1 x1
      cases hy : nmb B n (nx B n s) with
      | false =>
        have hp : ∀ v, pNew B n v (nx B n s) = .error (1, nx B n s) := fun v => by unfold pNew; rw [if_neg (by rw [hy]; decide)]
        rw [hp]
        have hE2 := n2 hy
        refine ⟨fun c p hh => ?_, fun q hh => by cases hh⟩
        cases hh
        have w1 : wrS I1 m 1 (nx B n s) m 23 = 1 := wrS_at.1
        refine ⟨wrS I1 m 1 (nx B n s), am_ofE rfl rfl rfl (Nat.le_of_ble_eq_true rfl) (hd44 _ ?_), wr I1 1 _ f1 f2⟩
        refine bX9_gateTold_44 mo (Nat.zero_le _) (Nat.zero_le _) hE2 ?_
        refine bX9_gateTold_48 mo (fun _ => ?_) (fun z => absurd z (by rw [w1]; decide))
        refine bX9_gateTold_68 ?_
        refine bX9_gateTold_69 mo (Nat.zero_le _) (Nat.zero_le _) (eX9_wrong_x hm w1 _ _) ?_
        refine bX9_gateTold_73 mo (fun z => absurd z (by rw [w1]; decide)) (fun _ => ?_)
        refine bX9_gateTold_80 ?_
        exact ⟨rfl, rfl, rfl⟩
      | true =>
        obtain ⟨I2, hE2, hH, k2, j2⟩ := n1 hy
        obtain ⟨l6, -⟩ := nmb_len hy
        have q2 : I2 (m + 1) = w := (k2 _ (by omega) (by omega)).trans ((fr1.1 _ (by omega)).trans hr)
        have x2 : I2 m 23 = 0 := (j2 23 (by decide)).trans x1
        have t2 : tkM B n I2 m (nx B n s) := t1.st (fun j a _ => j2 j (by omega))
        have hNm := eX9_gateNamed (d := d + 3) (L := L) (I := I2) hm (by rw [q2]; exact hw) hH l6
        rw [q2] at hNm
        have g1 : ∀ k, k ≠ m → k ≠ m + 12 → I2 k = I k := fun k a b => (k2 k a b).trans (f1 k a b)
        have g2 : ∀ j, ¬ (18 ≤ j ∧ j ≤ 22) → I2 m j = I m j := fun j a => (j2 j (by omega)).trans (f2 j a)
        have hd60 : ∀ If, am_W m_X9_gateTold (d + 5) 0 0 false 0 0 60 [(0, .ref m)] [.int (fNm w 135 94 B (nx B n s) (en B n (nx B n s) - nx B n s) (vG w)), .ref m] Γ I2 L (am_R (.inl none) If L) → am_W m_X9_gateTold (d + 5) 0 0 false 0 0 0 [(0, .ref m)] [] Γ I L (am_R (.inl none) If L) := fun If hW => hd44 If (by
          refine bX9_gateTold_44 mo (Nat.zero_le _) (Nat.zero_le _) hE2 ?_
          refine bX9_gateTold_48 mo (fun z => absurd x2 z) (fun _ => ?_)
          exact bX9_gateTold_56 mo (Nat.zero_le _) (Nat.zero_le _) hNm hW)
        by_cases hv : fNm w 135 94 B (nx B n s) (en B n (nx B n s) - nx B n s) (vG w) = -1
        · have hp : pNew B n (fNm w 135 94 B (nx B n s) (en B n (nx B n s) - nx B n s) (vG w)) (nx B n s) = .ok (nx B n s, 1) := by unfold pNew; rw [if_pos hy, if_pos hv]
          rw [hp]
          refine ⟨fun c p hh => (by cases hh), fun q _ => ⟨I2, t2, hH, g1, g2, fun If hW => hd60 If ?_⟩⟩
          refine bX9_gateTold_60 (fun _ => ?_) (fun z => absurd hv z)
          refine bX9_gateTold_68 ?_
          refine bX9_gateTold_69 mo (Nat.zero_le _) (Nat.zero_le _) (eX9_wrong_0 hm _) ?_
          exact bX9_gateTold_73 mo (fun _ => hW) (fun z => absurd x2 z)
        · have hp : pNew B n (fNm w 135 94 B (nx B n s) (en B n (nx B n s) - nx B n s) (vG w)) (nx B n s) = .error (4, nx B n s) := by unfold pNew; rw [if_pos hy, if_neg hv]
          rw [hp]
          refine ⟨fun c p hh => ?_, fun q hh => by cases hh⟩
          cases hh
          have w1 : wrS I2 m 4 (nx B n s) m 23 = 1 := wrS_at.1
          refine ⟨wrS I2 m 4 (nx B n s), am_ofE rfl rfl rfl (Nat.le_of_ble_eq_true rfl) (hd60 _ ?_), wr I2 4 _ g1 g2⟩
          refine bX9_gateTold_60 (fun z => absurd z hv) (fun _ => ?_)
          refine bX9_gateTold_64 ?_
          refine bX9_gateTold_69 mo (Nat.zero_le _) (Nat.zero_le _) (eX9_wrong_1 hm x2 t2.2.1 4) ?_
          refine bX9_gateTold_73 mo (fun z => absurd z (by rw [w1]; decide)) (fun _ => ?_)
          refine bX9_gateTold_80 ?_
          exact ⟨rfl, rfl, rfl⟩
theorem ix_q1 (q : Nat) : (12 + nn q * 8 + 1 : Int32) = nn (12 + q * 8 + 1) := by rw [show (12 : Int32) = nn 12 from rfl, show (8 : Int32) = nn 8 from rfl, nn_mul, nn_add, nn_s1]
theorem ix_q0 (q : Nat) : (12 + nn q * 8 + 0 : Int32) = nn (12 + q * 8) := by rw [show (12 : Int32) = nn 12 from rfl, show (8 : Int32) = nn 8 from rfl, show (0 : Int32) = nn 0 from rfl, nn_mul, nn_add, nn_add]; rfl
theorem eX9_questionTold (hm : mdF Γ m) (hw : wfp w) (hB : rmB I m B n) (ht : tkM B n I m s) (hr : I (m + 1) = w) (h23 : I m 23 = 0) : ∃ J, am_E m_X9_questionTold (d + 5) 0 0 [.ref m] Γ I L (.inl none) J L ∧ mdMid B n m I J (uUn B n 2 6 vQ (uQu B n) w s) := by
  obtain ⟨mo, r0, r1, r2, r3, r4, r7, r8, r13, r14, r15, r16, r17, a1, a2, a3, a4, a5, a6, a7, a8, a9, a10, a11, a12⟩ := id hm
  obtain ⟨hE, hO⟩ := hd_Q (d := d) (L := L) hm hw hB ht hr h23
  cases hH : uHd B n 2 6 vQ 13 8 w s with
  | error e =>
    obtain ⟨J, h1, h2⟩ := hE e.1 e.2 hH
    rw [uHd_e (fun e h => uQu_1 h) hH]
    exact ⟨J, h1, h2⟩
  | ok q =>
    obtain ⟨J, tJ, nJ, kJ, jJ, K⟩ := hO q hH
    obtain ⟨hx, h6, hk, hu⟩ := uHd_o (u := uQu B n) hH
    obtain ⟨hnm, hm1⟩ := pNew_q hk
    obtain ⟨l6, -⟩ := nmb_len hnm
    have q6 := hw.1.2
    rw [hu]
    generalize hs1 : nx B n s = s1 at *
    have jr : J (m + 1) = w := (kJ _ (by omega) (by omega)).trans hr
    have BJ : rmB J m B n := hB.st (jJ 9 (by omega)) (kJ _ (by omega) (by omega))
    obtain ⟨J1, hE1, r1', k1⟩ := eX9_layName (d := d + 4) (L := L) hm nJ l6 (show 12 + vQ w * 8 + 1 + 7 ≤ 508 by omega)
    rw [jr] at r1'
    have m1 : J1 m = J m := k1 m (by omega)
    have t1 : tkM B n J1 m s1 := tJ.st (fun j _ _ => by rw [m1])
    have B1 : rmB J1 m B n := BJ.st (by rw [m1]) (k1 _ (by omega))
    have x1 : J1 m 23 = 0 := by rw [m1]; exact (jJ 23 (by omega)).trans h23
    obtain ⟨J2, hE2, t2, fr2⟩ := eX9_go (d := d + 1) (L := L) hm B1 t1 x1
    have x2 : J2 m 23 = 0 := (fr2.2 23 (by decide) (by decide) (by decide) (by decide)).trans x1
    have B2 := B1.frM fr2
    have rw2 : J2 (m + 1) = lyW w (12 + vQ w * 8 + 1) B s1 (en B n s1 - s1) := (fr2.1 _ (by omega)).trans r1'
    have n2 : ∀ k, k ≠ m → k ≠ m + 1 → ¬ (m + 8 ≤ k ∧ k ≤ m + 12) → J2 k = I k := fun k a b c => (fr2.1 k a).trans ((k1 k b).trans (kJ k a (by omega)))
    have m2 : ∀ j, ¬ (18 ≤ j ∧ j ≤ 24) → J2 m j = I m j := fun j a => (fr2.2 j (by omega) (by omega) (by omega) (by omega)).trans (by rw [m1]; exact jJ j (by omega))
    have w0 : J (m + 1) (0 : Int32).toNatClampNeg = nn (vQ w) := by rw [jr]; exact hw.1.1
    have head : ∀ If, am_W m_X9_questionTold (d + 5) 0 0 false 0 0 105 [(0, .ref m), (1, .int (12 + nn (vQ w) * 8))] [] Γ J2 L (am_R (.inl none) If L) → am_W m_X9_questionTold (d + 5) 0 0 false 0 0 0 [(0, .ref m)] [] Γ I L (am_R (.inl none) If L) := fun If hW => K If (by
      refine bX9_questionTold_81 mo r0 a1 (nn_in (k := 0) (by decide) (by decide)) (Nat.zero_le _) (Nat.zero_le _) (by rw [w0, ix_q1]; exact hE1) ?_
      rw [w0]
      refine bX9_questionTold_101 mo (Nat.zero_le _) (Nat.zero_le _) hE2 ?_
      exact hW)
    obtain ⟨g1, g2⟩ := eX9_number (d := d) (L := L) hm B2 t2 x2 (lo := 1) (hi := 9) (by decide) (by decide)
    refine am_ofX1 rfl rfl rfl (Nat.le_of_ble_eq_true rfl) ?_
    cases hN : pNum B n 1 9 (nx B n s1) with
    | error e =>
      obtain ⟨c, p⟩ := e
      have hE3 := g2 c p hN
      obtain ⟨e1, e2, e3, e4, e5⟩ := wrS_at (J := J2) (m := m) (c := c) (s := p)
      rw [uQu_2 hk hN]
      obtain ⟨J4, hJ4⟩ : ∃ J4, J4 = am_u (wrS J2 m c p) (m + 1) (12 + vQ w * 8) (nn 1) := ⟨_, rfl⟩
      have jm : J4 m = wrS J2 m c p m := by rw [hJ4, am_u_ne (by omega)]
      refine ⟨J4, head _ ?_, fun k a b c' => by rw [hJ4, am_u_ne b, e4 k a]; exact n2 k a b c', fun j a b c' => by rw [jm, e5 j (by omega) a b]; exact m2 j c', by rw [jm]; exact e1, by rw [jm]; exact e2, by rw [jm]; exact e3⟩
      refine bX9_questionTold_105 mo r0 (Nat.zero_le _) (Nat.zero_le _) hE3 ?_
      refine bX9_questionTold_119 a1 (by rw [ix_q0]; exact nn_in (by omega) (by omega)) mo (Nat.zero_le _) (Nat.zero_le _) (by rw [ix_q0, nn_nat (by omega), ← hJ4]; exact eX9_semicolon_x hm (by rw [jm]; exact e1)) ?_
      refine bX9_questionTold_124 mo (fun _ => ?_) (fun z => absurd z (by rw [jm, e1]; decide))
      refine bX9_questionTold_141 ?_
      exact ⟨rfl, rfl, rfl⟩
    | ok q2 =>
      have o2 := pNum_ok hN
      have p2 := pNum_q hN
      subst p2
      obtain ⟨J3, hE3, t3, fr3⟩ := g1 o2
      obtain ⟨J4, hJ4⟩ : ∃ J4, J4 = am_u J3 (m + 1) (12 + vQ w * 8) (nn (vl B n (nx B n s1))) := ⟨_, rfl⟩
      have jm : J4 m = J3 m := by rw [hJ4, am_u_ne (by omega)]
      have t4 : tkM B n J4 m (nx B n (nx B n s1)) := t3.st (fun j _ _ => by rw [jm])
      have B4 : rmB J4 m B n := (B2.frM fr3).st (by rw [jm]) (by rw [hJ4, am_u_ne (by omega)])
      have x4 : J4 m 23 = 0 := by rw [jm]; exact (fr3.2 23 (by decide) (by decide) (by decide) (by decide)).trans x2
      have rw4 : J4 (m + 1) = up (lyW w (12 + vQ w * 8 + 1) B s1 (en B n s1 - s1)) (12 + vQ w * 8) (nn (vl B n (nx B n s1))) := by rw [hJ4, am_u_up, fr3.1 _ (by omega), rw2]
      have n4 : ∀ k, k ≠ m → k ≠ m + 1 → ¬ (m + 8 ≤ k ∧ k ≤ m + 12) → J4 k = I k := fun k a b c => by rw [hJ4, am_u_ne b]; exact (fr3.1 k a).trans (n2 k a b c)
      have m4 : ∀ j, ¬ (18 ≤ j ∧ j ≤ 24) → J4 m j = I m j := fun j a => by rw [jm]; exact (fr3.2 j (by omega) (by omega) (by omega) (by omega)).trans (m2 j a)
      obtain ⟨g3, g4⟩ := eX9_semicolon (d := d) (L := L) hm B4 t4 x4
      have head2 : ∀ If, am_W m_X9_questionTold (d + 5) 0 0 false 0 0 119 [(0, .ref m), (1, .int (12 + nn (vQ w) * 8))] [.int (nn (vl B n (nx B n s1))), .int (12 + nn (vQ w) * 8 + 0), .ref (m + 1)] Γ J3 L (am_R (.inl none) If L) → am_W m_X9_questionTold (d + 5) 0 0 false 0 0 0 [(0, .ref m)] [] Γ I L (am_R (.inl none) If L) := fun If hW => head If (bX9_questionTold_105 mo r0 (Nat.zero_le _) (Nat.zero_le _) hE3 hW)
      by_cases h2 : kd B n (nx B n (nx B n s1)) = 2
      · have hS : pSem B n (nx B n (nx B n s1)) = .ok (nx B n (nx B n (nx B n s1)), 1) := by unfold pSem; rw [if_pos h2]
        obtain ⟨J5, hE5, t5, fr5⟩ := g3 h2
        rw [uQu_4 hk hN hS]
        have rw5' : J5 (m + 1) = J4 (m + 1) := fr5.1 _ (by omega)
        have v0 : J5 (m + 1) (0 : Int32).toNatClampNeg = nn (vQ w) := by
          rw [rw5', rw4]
          show up (lyW w (12 + vQ w * 8 + 1) B s1 (en B n s1 - s1)) (12 + vQ w * 8) _ 0 = _
          rw [up_ne (by omega), lyW_out (Or.inl (by omega))]
          exact hw.1.1
        obtain ⟨J6, hJ6⟩ : ∃ J6, J6 = am_u J5 (m + 1) 0 (nn (vQ w + 1)) := ⟨_, rfl⟩
        have jm6 : J6 m = J5 m := by rw [hJ6, am_u_ne (by omega)]
        have m6 : ∀ j, ¬ (18 ≤ j ∧ j ≤ 24) → J6 m j = I m j := fun j a => by rw [jm6]; exact (fr5.2 j (by omega) (by omega) (by omega) (by omega)).trans (m4 j a)
        refine ⟨J6, head2 _ ?_, fun k a b c => by rw [hJ6, am_u_ne b]; exact (fr5.1 k a).trans (n4 k a b c), fun j _ _ c => m6 j c, ⟨m6 11 (by decide), m6 12 (by decide)⟩, t5.st (fun j _ _ => by rw [jm6]), ?_, ?_⟩
        · refine bX9_questionTold_119 a1 (by rw [ix_q0]; exact nn_in (by omega) (by omega)) mo (Nat.zero_le _) (Nat.zero_le _) (by rw [ix_q0, nn_nat (by omega), ← hJ4]; exact hE5) ?_
          refine bX9_questionTold_124 mo (fun z => absurd ((fr5.2 23 (by decide) (by decide) (by decide) (by decide)).trans x4) z) (fun _ => ?_)
          refine bX9_questionTold_131 mo r0 a1 (nn_in (k := 0) (by decide) (by decide)) ?_
          refine bX9_questionTold_141 ?_
          rw [v0, nn_s1]
          exact ⟨rfl, hJ6.symm, rfl⟩
        · rw [hJ6, am_u_up, rw5', rw4]
          rfl
        · rw [jm6]; exact (fr5.2 23 (by decide) (by decide) (by decide) (by decide)).trans x4
      · have hS : pSem B n (nx B n (nx B n s1)) = .error (1, nx B n (nx B n s1)) := by unfold pSem; rw [if_neg h2]
        have hE5 := g4 h2
        obtain ⟨e1, e2, e3, e4, e5⟩ := wrS_at (J := J4) (m := m) (c := 1) (s := nx B n (nx B n s1))
        rw [uQu_3 hk hN hS]
        refine ⟨_, head2 _ ?_, fun k a b c => (e4 k a).trans (n4 k a b c), fun j a b c => (e5 j (by omega) a b).trans (m4 j c), e1, e2, e3⟩
        refine bX9_questionTold_119 a1 (by rw [ix_q0]; exact nn_in (by omega) (by omega)) mo (Nat.zero_le _) (Nat.zero_le _) (by rw [ix_q0, nn_nat (by omega), ← hJ4]; exact hE5) ?_
        refine bX9_questionTold_124 mo (fun _ => ?_) (fun z => absurd z (by rw [e1]; decide))
        refine bX9_questionTold_141 ?_
        exact ⟨rfl, rfl, rfl⟩
end MS1
