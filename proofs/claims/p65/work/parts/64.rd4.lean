/-! THE TEXT'S COMMANDS: one command, the class -/
section UC
variable (B : Nat → Nat) (n : Nat) (w : Nat → Int32) (s : Nat)
noncomputable def uCmd : Except (Nat × Nat) (Nat × (Nat → Int32)) :=
  if wd B n s 5 = true then uPas B n (fNm w 135 94 B (nx B n s) (en B n (nx B n s) - nx B n s) (vG w)) (fNm w 62 9 B (nx B n (nx B n s)) (en B n (nx B n (nx B n s)) - nx B n (nx B n s)) (vT w)) (oNow w) s (pasU w)
  else if wd B n s 6 = true then uOne B n (fNm w 135 94 B (nx B n s) (en B n (nx B n s) - nx B n s) (vG w)) s (fun g => bldW w g)
  else if wd B n s 7 = true then uOne B n (fNm w 135 94 B (nx B n s) (en B n (nx B n s) - nx B n s) (vG w)) s (fun g => hlW w g)
  else if wd B n s 8 = true then uTwo B n (fNm w 62 9 B (nx B n s) (en B n (nx B n s) - nx B n s) (vT w)) 0 99 s (fun t v => up w (60 + t * 9) (nn v))
  else if wd B n s 9 = true then uTwo B n (fNm w 135 94 B (nx B n s) (en B n (nx B n s) - nx B n s) (vG w)) 0 30 s (fun g v => up w (132 + g * 94 + 2) (nn v))
  else if wd B n s 10 = true then uHrs B n w s else .error (1, s)
end UC
section RD4
variable {d mc ms : Nat} {Γ : am_G} {I : am_I} {L : am_L} {B : Nat → Nat} {n s : Nat} {w : Nat → Int32}
theorem eX3_readCommand (hF : cF Γ) (hw : wfp w) (h0 : 0 < vT w) (hc : clR B n I L s w) : ∃ I' L', am_E m_X3_readCommand (d + 6) 0 0 [.ref 81] Γ I L (.inl (some (.int (oky (uCmd B n w s))))) I' L' ∧ clOut B n I I' L L' (uCmd B n w s) := by
  obtain ⟨-, -, -, -, ⟨ro, rr0, rr5, rr6, ra⟩, -⟩ := id hF
  obtain ⟨hB, ht, hs⟩ := id hc
  refine am_ofX rfl rfl rfl (Nat.le_of_ble_eq_true rfl) ?_
  have W : ∀ i, i < am_sn → am_E m_X3_isWord (d + 5) 0 0 [.ref 81, .retAddr i] Γ I L (.inl (some (.int (bi (wd B n s i))))) I L := fun i hi => eX3_isWord (d := d + 1) ro rr0 ra hB ht hi
  have nar : ∀ o, narrow .boolean (.int (oky o)) = .int (oky o) := fun o => by cases o; exact bi_hz false; exact bi_hz true
  unfold uCmd
  by_cases h5 : wd B n s 5 = true
  · rw [if_pos h5]
    obtain ⟨I', L', hE, hO⟩ := eX3_readPass (d := d + 1) hF hw h0 hc
    refine ⟨I', L', ?_, hO⟩
    refine bX3_readCommand_0 ro (Nat.zero_le _) (Nat.zero_le _) (W 5 (by decide)) ?_
    refine bX3_readCommand_6 (fun z => absurd z (by rw [h5]; decide)) (fun _ => ?_)
    refine bX3_readCommand_9 ro (Nat.zero_le _) (Nat.zero_le _) hE ?_
    refine bX3_readCommand_13 (nar _) ?_
    exact ⟨rfl, rfl, rfl⟩
  rw [if_neg h5]
  have f5 : ∀ (I' : am_I) (L' : am_L) (r : Int32), am_W m_X3_readCommand (d + 6) 0 0 false 0 0 14 [(0, .ref 81)] [] Γ I L (am_R (.inl (some (.int r))) I' L') → am_W m_X3_readCommand (d + 6) 0 0 false 0 0 0 [(0, .ref 81)] [] Γ I L (am_R (.inl (some (.int r))) I' L') := fun I' L' r hW => by
    refine bX3_readCommand_0 ro (Nat.zero_le _) (Nat.zero_le _) (W 5 (by decide)) ?_
    refine bX3_readCommand_6 (fun _ => hW) (fun z => absurd (bi_nz.mp z) h5)
  by_cases h6 : wd B n s 6 = true
  · rw [if_pos h6]
    obtain ⟨I', L', hE, hO⟩ := eX3_readBuild (d := d) hF hw h0 hc
    refine ⟨I', L', f5 _ _ _ ?_, hO⟩
    refine bX3_readCommand_14 ro (Nat.zero_le _) (Nat.zero_le _) (W 6 (by decide)) ?_
    refine bX3_readCommand_20 (fun z => absurd z (by rw [h6]; decide)) (fun _ => ?_)
    refine bX3_readCommand_23 ro (Nat.zero_le _) (Nat.zero_le _) hE ?_
    refine bX3_readCommand_27 (nar _) ?_
    exact ⟨rfl, rfl, rfl⟩
  rw [if_neg h6]
  have f6 : ∀ (I' : am_I) (L' : am_L) (r : Int32), am_W m_X3_readCommand (d + 6) 0 0 false 0 0 28 [(0, .ref 81)] [] Γ I L (am_R (.inl (some (.int r))) I' L') → am_W m_X3_readCommand (d + 6) 0 0 false 0 0 0 [(0, .ref 81)] [] Γ I L (am_R (.inl (some (.int r))) I' L') := fun I' L' r hW => f5 _ _ _ (by
    refine bX3_readCommand_14 ro (Nat.zero_le _) (Nat.zero_le _) (W 6 (by decide)) ?_
    refine bX3_readCommand_20 (fun _ => hW) (fun z => absurd (bi_nz.mp z) h6))
  by_cases h7 : wd B n s 7 = true
  · rw [if_pos h7]
    obtain ⟨I', L', hE, hO⟩ := eX3_readHalve (d := d) hF hw h0 hc
    refine ⟨I', L', f6 _ _ _ ?_, hO⟩
    refine bX3_readCommand_28 ro (Nat.zero_le _) (Nat.zero_le _) (W 7 (by decide)) ?_
    refine bX3_readCommand_34 (fun z => absurd z (by rw [h7]; decide)) (fun _ => ?_)
    refine bX3_readCommand_37 ro (Nat.zero_le _) (Nat.zero_le _) hE ?_
    refine bX3_readCommand_41 (nar _) ?_
    exact ⟨rfl, rfl, rfl⟩
  rw [if_neg h7]
  have f7 : ∀ (I' : am_I) (L' : am_L) (r : Int32), am_W m_X3_readCommand (d + 6) 0 0 false 0 0 42 [(0, .ref 81)] [] Γ I L (am_R (.inl (some (.int r))) I' L') → am_W m_X3_readCommand (d + 6) 0 0 false 0 0 0 [(0, .ref 81)] [] Γ I L (am_R (.inl (some (.int r))) I' L') := fun I' L' r hW => f6 _ _ _ (by
    refine bX3_readCommand_28 ro (Nat.zero_le _) (Nat.zero_le _) (W 7 (by decide)) ?_
    refine bX3_readCommand_34 (fun _ => hW) (fun z => absurd (bi_nz.mp z) h7))
  by_cases h8 : wd B n s 8 = true
  · rw [if_pos h8]
    obtain ⟨I', L', hE, hO⟩ := eX3_readToll (d := d + 1) hF hw hc
    refine ⟨I', L', f7 _ _ _ ?_, hO⟩
    refine bX3_readCommand_42 ro (Nat.zero_le _) (Nat.zero_le _) (W 8 (by decide)) ?_
    refine bX3_readCommand_48 (fun z => absurd z (by rw [h8]; decide)) (fun _ => ?_)
    refine bX3_readCommand_51 ro (Nat.zero_le _) (Nat.zero_le _) hE ?_
    refine bX3_readCommand_55 (nar _) ?_
    exact ⟨rfl, rfl, rfl⟩
  rw [if_neg h8]
  have f8 : ∀ (I' : am_I) (L' : am_L) (r : Int32), am_W m_X3_readCommand (d + 6) 0 0 false 0 0 56 [(0, .ref 81)] [] Γ I L (am_R (.inl (some (.int r))) I' L') → am_W m_X3_readCommand (d + 6) 0 0 false 0 0 0 [(0, .ref 81)] [] Γ I L (am_R (.inl (some (.int r))) I' L') := fun I' L' r hW => f7 _ _ _ (by
    refine bX3_readCommand_42 ro (Nat.zero_le _) (Nat.zero_le _) (W 8 (by decide)) ?_
    refine bX3_readCommand_48 (fun _ => hW) (fun z => absurd (bi_nz.mp z) h8))
  by_cases h9 : wd B n s 9 = true
  · rw [if_pos h9]
    obtain ⟨I', L', hE, hO⟩ := eX3_readLimit (d := d + 1) hF hw hc
    refine ⟨I', L', f8 _ _ _ ?_, hO⟩
    refine bX3_readCommand_56 ro (Nat.zero_le _) (Nat.zero_le _) (W 9 (by decide)) ?_
    refine bX3_readCommand_62 (fun z => absurd z (by rw [h9]; decide)) (fun _ => ?_)
    refine bX3_readCommand_65 ro (Nat.zero_le _) (Nat.zero_le _) hE ?_
    refine bX3_readCommand_69 (nar _) ?_
    exact ⟨rfl, rfl, rfl⟩
  rw [if_neg h9]
  have f9 : ∀ (I' : am_I) (L' : am_L) (r : Int32), am_W m_X3_readCommand (d + 6) 0 0 false 0 0 70 [(0, .ref 81)] [] Γ I L (am_R (.inl (some (.int r))) I' L') → am_W m_X3_readCommand (d + 6) 0 0 false 0 0 0 [(0, .ref 81)] [] Γ I L (am_R (.inl (some (.int r))) I' L') := fun I' L' r hW => f8 _ _ _ (by
    refine bX3_readCommand_56 ro (Nat.zero_le _) (Nat.zero_le _) (W 9 (by decide)) ?_
    refine bX3_readCommand_62 (fun _ => hW) (fun z => absurd (bi_nz.mp z) h9))
  by_cases h10 : wd B n s 10 = true
  · rw [if_pos h10]
    obtain ⟨I', L', hE, hO⟩ := eX3_readHours (d := d + 1) hF hw hc
    refine ⟨I', L', f9 _ _ _ ?_, hO⟩
    refine bX3_readCommand_70 ro (Nat.zero_le _) (Nat.zero_le _) (W 10 (by decide)) ?_
    refine bX3_readCommand_76 (fun z => absurd z (by rw [h10]; decide)) (fun _ => ?_)
    refine bX3_readCommand_79 ro (Nat.zero_le _) (Nat.zero_le _) hE ?_
    refine bX3_readCommand_83 (nar _) ?_
    exact ⟨rfl, rfl, rfl⟩
  rw [if_neg h10]
  have f10 : ∀ (I' : am_I) (L' : am_L) (r : Int32), am_W m_X3_readCommand (d + 6) 0 0 false 0 0 84 [(0, .ref 81)] [] Γ I L (am_R (.inl (some (.int r))) I' L') → am_W m_X3_readCommand (d + 6) 0 0 false 0 0 0 [(0, .ref 81)] [] Γ I L (am_R (.inl (some (.int r))) I' L') := fun I' L' r hW => f9 _ _ _ (by
    refine bX3_readCommand_70 ro (Nat.zero_le _) (Nat.zero_le _) (W 10 (by decide)) ?_
    refine bX3_readCommand_76 (fun _ => hW) (fun z => absurd (bi_nz.mp z) h10))
  obtain ⟨h1, h2⟩ := eX3_fail (d := d + 5) (Γ := Γ) ro ht 1
  obtain ⟨e1, e2⟩ := cOut.frD h2
  refine ⟨_, L, f10 _ _ _ ?_, e1, e2⟩
  refine bX3_readCommand_84 ro (Nat.zero_le _) (Nat.zero_le _) h1 ?_
  refine bX3_readCommand_89 rfl ?_
  exact ⟨rfl, rfl, rfl⟩
theorem uOne_in {v : Int32} {f : Nat → (Nat → Int32)} {s' : Nat} {w' : Nat → Int32} (h : uOne B n v s f = .ok (s', w')) : v ≠ -1 ∧ s' = nx B n s ∧ w' = f v.toNatClampNeg := by
  cases hk : pKnown B n v (nx B n s) with
  | error e => rw [uOne_e hk] at h; cases h
  | ok q =>
    obtain ⟨a, b⟩ := q
    obtain ⟨h1, h2, h3⟩ := pKnown_ok hk
    rw [uOne_ok hk] at h
    cases h
    exact ⟨h3, rfl, by rw [h2]⟩
theorem uTwo_in {v : Int32} {lo hi : Nat} {f : Nat → Nat → (Nat → Int32)} {s' : Nat} {w' : Nat → Int32} (h : uTwo B n v lo hi s f = .ok (s', w')) : v ≠ -1 ∧ s' = nx B n (nx B n s) ∧ vl B n s' ≤ hi ∧ w' = f v.toNatClampNeg (vl B n s') := by
  cases hk : pKnown B n v (nx B n s) with
  | error e => rw [uTwo_e1 hk] at h; cases h
  | ok q =>
    obtain ⟨a, b⟩ := q
    obtain ⟨h1, h2, h3⟩ := pKnown_ok hk
    cases hN : pNum B n lo hi a with
    | error e => rw [uTwo_e2 hk hN] at h; cases h
    | ok q2 =>
      rw [uTwo_ok hk hN] at h
      have := (pNum_ok hN).2.2
      cases h
      exact ⟨h3, h1, this, by rw [h2]⟩
/-- a command keeps the row good -/
theorem uCmd_wfs (hw : wfs w) {s' : Nat} {w' : Nat → Int32} (h : uCmd B n w s = .ok (s', w')) : wfs w' := by
  have g4 := hw.1.2.2.1.2
  have t8 := hw.1.2.1.2
  unfold uCmd at h
  by_cases h5 : wd B n s 5 = true
  · rw [if_pos h5] at h
    cases hk : pKnown B n (fNm w 135 94 B (nx B n s) (en B n (nx B n s) - nx B n s) (vG w)) (nx B n s) with
    | error e => rw [uPas_1 hk] at h; cases h
    | ok q =>
      obtain ⟨a, b⟩ := q
      obtain ⟨x1, x2, x3⟩ := pKnown_ok hk
      cases hk2 : pKnown B n (fNm w 62 9 B (nx B n (nx B n s)) (en B n (nx B n (nx B n s)) - nx B n (nx B n s)) (vT w)) (nx B n (nx B n s)) with
      | error e => rw [uPas_2 hk hk2] at h; cases h
      | ok q2 =>
        obtain ⟨a2, b2⟩ := q2
        obtain ⟨y1, y2, y3⟩ := pKnown_ok hk2
        cases hN : pNum B n 1 999 (nx B n (nx B n (nx B n s))) with
        | error e => rw [uPas_3 hk hk2 hN] at h; cases h
        | ok q3 =>
          obtain ⟨g, hg, eg⟩ := fNm_ge x3
          obtain ⟨t, ht, et⟩ := fNm_ge y3
          have hn := (pNum_ok hN).2.2
          cases ho : oNow w b.toNatClampNeg with
          | false => rw [uPas_4 hk hk2 hN ho] at h; cases h
          | true =>
            rw [uPas_5 hk hk2 hN ho] at h
            cases h
            show wfs (pasU w b.toNatClampNeg b2.toNatClampNeg _)
            rw [x2, y2, eg, et, nn_nat (by omega), nn_nat (by omega)]
            exact wfs_pas hw hg ht hn _ _ _
  rw [if_neg h5] at h
  by_cases h6 : wd B n s 6 = true
  · rw [if_pos h6] at h
    obtain ⟨x1, -, rfl⟩ := uOne_in h
    obtain ⟨g, hg, eg⟩ := fNm_ge x1
    rw [eg, nn_nat (by omega)]
    exact wfs_bld hw hg (bld_ex hw.1 hw.2.2.1 hg)
  rw [if_neg h6] at h
  by_cases h7 : wd B n s 7 = true
  · rw [if_pos h7] at h
    obtain ⟨x1, -, rfl⟩ := uOne_in h
    obtain ⟨g, hg, eg⟩ := fNm_ge x1
    rw [eg, nn_nat (by omega)]
    exact wfs_hl hw hg
  rw [if_neg h7] at h
  by_cases h8 : wd B n s 8 = true
  · rw [if_pos h8] at h
    obtain ⟨x1, -, x3, rfl⟩ := uTwo_in h
    obtain ⟨t, ht, et⟩ := fNm_ge x1
    rw [et, nn_nat (by omega)]
    exact wfs_toll hw ht x3
  rw [if_neg h8] at h
  by_cases h9 : wd B n s 9 = true
  · rw [if_pos h9] at h
    obtain ⟨x1, -, x3, rfl⟩ := uTwo_in h
    obtain ⟨g, hg, eg⟩ := fNm_ge x1
    rw [eg, nn_nat (by omega)]
    exact wfs_lim hw hg x3
  rw [if_neg h9] at h
  by_cases h10 : wd B n s 10 = true
  · rw [if_pos h10] at h
    cases hN : pNum B n 1 (min (9999 - vC w) 100) (nx B n s) with
    | error e => rw [uHrs_e hN] at h; cases h
    | ok q =>
      rw [uHrs_ok hN] at h
      have := (pNum_ok hN).2.2
      have c9 := hw.1.2.2.2.1.2
      cases h
      exact wfs_clock hw (by omega)
  · rw [if_neg h10] at h
    cases h
end RD4
