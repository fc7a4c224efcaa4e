/-! THE TEXT'S COMMANDS: the model, pass -/
section MC3
variable {d : Nat} {Γ : am_G} {I : am_I} {L : am_L} {B : Nat → Nat} {n s m : Nat} {w : Nat → Int32}
theorem eX9_passTold (hm : mdF Γ m) (hw : wfp w) (h0 : 0 < vT w) (hB : rmB I m B n) (ht : tkM B n I m s) (hr : I (m + 1) = w) (h23 : I m 23 = 0) : ∃ J, am_E m_X9_passTold (d + 5) 0 0 [.ref m] Γ I L (.inl none) J L ∧ mdMid B n m I J (uPas B n (fNm w 135 94 B (nx B n s) (en B n (nx B n s) - nx B n s) (vG w)) (fNm w 62 9 B (nx B n (nx B n s)) (en B n (nx B n (nx B n s)) - nx B n (nx B n s)) (vT w)) (oNow w) s (pasU w)) := by
  have mo := hm.1
  have hb := hw.2.2.1.2
  have t8 := hw.2.1.2
  refine am_ofX1 rfl rfl rfl (Nat.le_of_ble_eq_true rfl) ?_
  obtain ⟨I1, hE1, t1, fr1⟩ := eX9_go (d := d + 1) (L := L) hm hB ht h23
  have q1 : I1 (m + 1) = w := (fr1.1 _ (by omega)).trans hr
  have x1 : I1 m 23 = 0 := (fr1.2 23 (by decide) (by decide) (by decide) (by decide)).trans h23
  have B1 := hB.frM fr1
  obtain ⟨g1, g2⟩ := eX9_gateHere (d := d + 2) (L := L) hm (by rw [q1]; exact hw) B1 t1 x1
  rw [q1] at g1 g2
  have hge : fNm w 135 94 B (nx B n s) (en B n (nx B n s) - nx B n s) (vG w) ≠ -1 → ∃ t, t < vG w ∧ fNm w 135 94 B (nx B n s) (en B n (nx B n s) - nx B n s) (vG w) = nn t := fNm_ge
  generalize fNm w 135 94 B (nx B n s) (en B n (nx B n s) - nx B n s) (vG w) = v0 at *
  have m1 : ∀ j, ¬ (18 ≤ j ∧ j ≤ 22) → I1 m j = I m j := fun j a => fr1.2 j (by omega) (by omega) (by omega) (by omega)
  -- once wrong, to the end
  have wr : ∀ (J : am_I) (a b c : Int32), J m 23 = 1 → am_W m_X9_passTold (d + 5) 0 0 false 0 0 30 [(0, .ref m), (1, .int a), (2, .int b)] [.int c] Γ J L (am_R (.inl none) J L) := fun J a b c hj => by
    have hz : ¬ J m 23 = 0 := by rw [hj]; decide
    refine bX9_passTold_30 mo (fun _ => ?_) (fun z => absurd z hz)
    refine bX9_passTold_51 ?_
    refine bX9_passTold_52 mo (Nat.zero_le _) (Nat.zero_le _) (eX9_wrong_x hm hj _ _) ?_
    refine bX9_passTold_57 mo (fun _ => ?_) (fun z => absurd z hz)
    refine bX9_passTold_75 ?_
    exact ⟨rfl, rfl, rfl⟩
  cases hk : pKnown B n v0 (nx B n s) with
  | error e =>
    obtain ⟨c, p⟩ := e
    obtain ⟨I2, hE2, hx, k2, j2⟩ := g2 c p hk
    rw [uPas_1 hk]
    refine ⟨I2, ?_, fun k a b c' => (k2 k a (by omega)).trans (fr1.1 k a), fun j a b c' => (j2 j a b (by omega) (by omega)).trans (m1 j (by omega)), hx⟩
    refine bX9_passTold_0 mo (Nat.zero_le _) (Nat.zero_le _) hE1 ?_
    refine bX9_passTold_4 mo (Nat.zero_le _) (Nat.zero_le _) hE2 ?_
    refine bX9_passTold_8 mo (Nat.zero_le _) (Nat.zero_le _) (eX9_go_x hm hx.1) ?_
    refine bX9_passTold_13 mo (Nat.zero_le _) (Nat.zero_le _) (eX9_typeHere_x hm hx.1) ?_
    refine bX9_passTold_17 mo (Nat.zero_le _) (Nat.zero_le _) (eX9_go_x hm hx.1) ?_
    refine bX9_passTold_22 mo (Nat.zero_le _) (Nat.zero_le _) (eX9_here_x hm hx.1 _ _) ?_
    exact wr _ _ _ _ hx.1
  | ok p =>
    obtain ⟨s2, v⟩ := p
    obtain ⟨rfl, rfl, hne⟩ := pKnown_ok hk
    obtain ⟨g, hgv, rfl⟩ := hge hne
    obtain ⟨I2, hE2, k2, j2⟩ := g1 _ hk
    have eg : (nn g : Int32).toNatClampNeg = g := nn_nat (by omega)
    have q2 : I2 (m + 1) = w := (k2 _ (by omega) (by omega)).trans q1
    have x2 : I2 m 23 = 0 := (j2 23 (by decide)).trans x1
    have t2 := t1.st (I' := I2) (fun j _ _ => j2 j (by omega))
    have B2 := B1.st (I' := I2) (j2 9 (by decide)) (k2 _ (by omega) (by omega))
    obtain ⟨I3, hE3, t3, fr3⟩ := eX9_go (d := d + 1) (L := L) hm B2 t2 x2
    have q3 : I3 (m + 1) = w := (fr3.1 _ (by omega)).trans q2
    have x3 : I3 m 23 = 0 := (fr3.2 23 (by decide) (by decide) (by decide) (by decide)).trans x2
    have B3 := B2.frM fr3
    have n3 : ∀ k, k ≠ m → ¬ (m + 8 ≤ k ∧ k ≤ m + 12) → I3 k = I k := fun k a c => (fr3.1 k a).trans ((k2 k a (by omega)).trans (fr1.1 k a))
    have m3 : ∀ j, ¬ (18 ≤ j ∧ j ≤ 22) → I3 m j = I m j := fun j a => (fr3.2 j (by omega) (by omega) (by omega) (by omega)).trans ((j2 j (by omega)).trans (m1 j a))
    obtain ⟨h1, h2⟩ := eX9_typeHere (d := d + 2) (L := L) hm (by rw [q3]; exact hw) B3 t3 x3
    rw [q3] at h1 h2
    have hge2 : fNm w 62 9 B (nx B n (nx B n s)) (en B n (nx B n (nx B n s)) - nx B n (nx B n s)) (vT w) ≠ -1 → ∃ t, t < vT w ∧ fNm w 62 9 B (nx B n (nx B n s)) (en B n (nx B n (nx B n s)) - nx B n (nx B n s)) (vT w) = nn t := fNm_ge
    generalize fNm w 62 9 B (nx B n (nx B n s)) (en B n (nx B n (nx B n s)) - nx B n (nx B n s)) (vT w) = v1 at *
    have head : ∀ If, am_W m_X9_passTold (d + 5) 0 0 false 0 0 13 [(0, .ref m), (1, .int (nn g))] [] Γ I3 L (am_R (.inl none) If L) → am_W m_X9_passTold (d + 5) 0 0 false 0 0 0 [(0, .ref m)] [] Γ I L (am_R (.inl none) If L) := fun If hW => by
      refine bX9_passTold_0 mo (Nat.zero_le _) (Nat.zero_le _) hE1 ?_
      refine bX9_passTold_4 mo (Nat.zero_le _) (Nat.zero_le _) hE2 ?_
      refine bX9_passTold_8 mo (Nat.zero_le _) (Nat.zero_le _) hE3 ?_
      exact hW
    cases hk2 : pKnown B n v1 (nx B n (nx B n s)) with
    | error e =>
      obtain ⟨c, p⟩ := e
      obtain ⟨I4, hE4, hx, k4, j4⟩ := h2 c p hk2
      rw [uPas_2 hk hk2]
      refine ⟨I4, head _ ?_, fun k a b c' => (k4 k a (by omega)).trans (n3 k a c'), fun j a b c' => (j4 j a b (by omega) (by omega)).trans (m3 j (by omega)), hx⟩
      refine bX9_passTold_13 mo (Nat.zero_le _) (Nat.zero_le _) hE4 ?_
      refine bX9_passTold_17 mo (Nat.zero_le _) (Nat.zero_le _) (eX9_go_x hm hx.1) ?_
      refine bX9_passTold_22 mo (Nat.zero_le _) (Nat.zero_le _) (eX9_here_x hm hx.1 _ _) ?_
      exact wr _ _ _ _ hx.1
    | ok p =>
      obtain ⟨s3, v⟩ := p
      obtain ⟨rfl, rfl, hne2⟩ := pKnown_ok hk2
      obtain ⟨t, htv, rfl⟩ := hge2 hne2
      obtain ⟨I4, hE4, k4, j4⟩ := h1 _ hk2
      have et : (nn t : Int32).toNatClampNeg = t := nn_nat (by omega)
      have q4 : I4 (m + 1) = w := (k4 _ (by omega) (by omega)).trans q3
      have x4 : I4 m 23 = 0 := (j4 23 (by decide)).trans x3
      have t4 := t3.st (I' := I4) (fun j _ _ => j4 j (by omega))
      have B4 := B3.st (I' := I4) (j4 9 (by decide)) (k4 _ (by omega) (by omega))
      obtain ⟨I5, hE5, t5, fr5⟩ := eX9_go (d := d + 1) (L := L) hm B4 t4 x4
      have q5 : I5 (m + 1) = w := (fr5.1 _ (by omega)).trans q4
      have x5 : I5 m 23 = 0 := (fr5.2 23 (by decide) (by decide) (by decide) (by decide)).trans x4
      have n5 : ∀ k, k ≠ m → ¬ (m + 8 ≤ k ∧ k ≤ m + 12) → I5 k = I k := fun k a c => (fr5.1 k a).trans ((k4 k a (by omega)).trans (n3 k a c))
      have m5 : ∀ j, ¬ (18 ≤ j ∧ j ≤ 22) → I5 m j = I m j := fun j a => (fr5.2 j (by omega) (by omega) (by omega) (by omega)).trans ((j4 j (by omega)).trans (m3 j a))
      have head2 : ∀ If, am_W m_X9_passTold (d + 5) 0 0 false 0 0 22 [(0, .ref m), (1, .int (nn g)), (2, .int (nn t))] [] Γ I5 L (am_R (.inl none) If L) → am_W m_X9_passTold (d + 5) 0 0 false 0 0 0 [(0, .ref m)] [] Γ I L (am_R (.inl none) If L) := fun If hW => head If (by
        refine bX9_passTold_13 mo (Nat.zero_le _) (Nat.zero_le _) hE4 ?_
        refine bX9_passTold_17 mo (Nat.zero_le _) (Nat.zero_le _) hE5 ?_
        exact hW)
      obtain ⟨y1, y2⟩ := eX9_here (d := d + 3) (L := L) hm t5 x5 (lo := 1) (hi := 999) (by decide) (by decide)
      cases hN : pNum B n 1 999 (nx B n (nx B n (nx B n s))) with
      | error e =>
        obtain ⟨c, p⟩ := e
        have hE6 := y2 c p hN
        obtain ⟨e1, e2, e3, e4, e5⟩ := wrS_at (J := I5) (m := m) (c := c) (s := p)
        rw [uPas_3 hk hk2 hN]
        refine ⟨wrS I5 m c p, head2 _ ?_, fun k a b c' => (e4 k a).trans (n5 k a c'), fun j a b c' => (e5 j (by omega) a b).trans (m5 j (by omega)), e1, e2, e3⟩
        refine bX9_passTold_22 mo (Nat.zero_le _) (Nat.zero_le _) hE6 ?_
        exact wr _ _ _ _ e1
      | ok q =>
        have ha := pNum_ok hN
        have hE6 := y1 ha
        have hop : ∀ bb, oNow w g = bb → opens (I5 (m + 1) (132 + g * 94 + 0)) (I5 (m + 1) (132 + g * 94 + 1)) (I5 (m + 1) 3 - I5 (m + 1) 3 / 24 * 24) = bb := fun bb hb' => by rw [q5]; exact hb'
        cases ho : oNow w g with
        | false =>
          obtain ⟨e1, e2, e3, e4, e5⟩ := wrS_at (J := I5) (m := m) (c := 6) (s := nx B n (nx B n (nx B n s)))
          rw [uPas_4 hk hk2 hN (by rw [eg]; exact ho)]
          refine ⟨wrS I5 m 6 (nx B n (nx B n (nx B n s))), head2 _ ?_, fun k a b c' => (e4 k a).trans (n5 k a c'), fun j a b c' => (e5 j (by omega) a b).trans (m5 j (by omega)), e1, e2, e3⟩
          refine bX9_passTold_22 mo (Nat.zero_le _) (Nat.zero_le _) hE6 ?_
          refine bX9_passTold_30 mo (fun z => absurd x5 z) (fun _ => ?_)
          refine bX9_passTold_39 mo (Nat.zero_le _) (Nat.zero_le _) (eX9_isOpenNow_b hm (by omega) (hop _ ho)) ?_
          refine bX9_passTold_44 (fun z => absurd rfl z) (fun _ => ?_)
          refine bX9_passTold_47 ?_
          refine bX9_passTold_52 mo (Nat.zero_le _) (Nat.zero_le _) (eX9_wrong_1 hm x5 t5.2.1 6) ?_
          refine bX9_passTold_57 mo (fun _ => ?_) (fun z => absurd z (by rw [e1]; decide))
          refine bX9_passTold_75 ?_
          exact ⟨rfl, rfl, rfl⟩
        | true =>
          rw [uPas_5 hk hk2 hN (by rw [eg]; exact ho)]
          obtain ⟨I6, hM, r6, k6⟩ := eX9_passes (d := d) (I := I5) (L := L) hm (show g < 4 by omega) (by rw [q5]; exact hw.mda h0 hgv) (by rw [q5]; exact hw.tr hgv) htv ha.2.2
          rw [q5] at hM r6
          obtain ⟨J, hJ⟩ : ∃ J, J = am_u I6 m 24 (rw5 w g 1 (lfA (rw5 w g 0) (rw5 w g 4) (nn t) (teW w g))) := ⟨_, rfl⟩
          have jm : ∀ j, j ≠ 24 → J m j = I5 m j := fun j hj => by rw [hJ, at1, if_neg hj, k6 m (by omega)]
          have jr : J (m + 1) = pasU w g t (vl B n (nx B n (nx B n (nx B n s)))) := by rw [hJ, am_u_ne (by omega)]; exact r6
          refine ⟨J, head2 _ ?_, fun k a b c' => by rw [hJ, am_u_ne a, k6 k b]; exact n5 k a c', fun j a b c' => (jm j (by omega)).trans (m5 j (by omega)), (have q : ∀ j, ¬ (18 ≤ j ∧ j ≤ 24) → J m j = I m j := fun j c' => (jm j (by omega)).trans (m5 j (by omega)); ⟨q 11 (by decide), q 12 (by decide)⟩), t5.st (fun j a b => jm j (by omega)), by rw [jr, eg, et], (jm 23 (by decide)).trans x5⟩
          refine bX9_passTold_22 mo (Nat.zero_le _) (Nat.zero_le _) hE6 ?_
          refine bX9_passTold_30 mo (fun z => absurd x5 z) (fun _ => ?_)
          refine bX9_passTold_39 mo (Nat.zero_le _) (Nat.zero_le _) (eX9_isOpenNow_b hm (by omega) (hop _ ho)) ?_
          refine bX9_passTold_44 (fun _ => ?_) (fun z => absurd z (by decide))
          refine bX9_passTold_51 ?_
          refine bX9_passTold_52 mo (Nat.zero_le _) (Nat.zero_le _) (eX9_wrong_0 hm _) ?_
          refine bX9_passTold_57 mo (fun z => absurd x5 z) (fun _ => ?_)
          refine bX9_passTold_64 mo (Nat.zero_le _) (Nat.zero_le _) hM ?_
          refine bX9_passTold_72 mo ?_
          refine bX9_passTold_75 ?_
          rw [← hJ]
          exact ⟨rfl, rfl, rfl⟩
end MC3
