/-! THE TEXT'S COMMANDS: one command, the model -/
noncomputable def uStep (B : Nat → Nat) (n : Nat) (w : Nat → Int32) (s : Nat) : Except (Nat × Nat) (Nat × (Nat → Int32)) := match uCmd B n w s with
  | .error e => .error e
  | .ok (s', w') => if kd B n (nx B n s') = 2 then .ok (nx B n (nx B n s'), w') else .error (1, nx B n s')
theorem uStep_e {B : Nat → Nat} {n s : Nat} {w : Nat → Int32} {e : Nat × Nat} (h : uCmd B n w s = .error e) : uStep B n w s = .error e := by
  unfold uStep
  rw [h]
theorem uStep_s {B : Nat → Nat} {n s s' : Nat} {w w' : Nat → Int32} (h : uCmd B n w s = .ok (s', w')) : uStep B n w s = if kd B n (nx B n s') = 2 then .ok (nx B n (nx B n s'), w') else .error (1, nx B n s') := by
  unfold uStep
  rw [h]
section MC4
variable {d : Nat} {Γ : am_G} {I : am_I} {L : am_L} {B : Nat → Nat} {n s m : Nat} {w : Nat → Int32}
theorem eX9_command (hm : mdF Γ m) (hw : wfp w) (h0 : 0 < vT w) (hB : rmB I m B n) (ht : tkM B n I m s) (hr : I (m + 1) = w) (h23 : I m 23 = 0) : ∃ J, am_E m_X9_command (d + 262) 0 0 [.ref m] Γ I L (.inl none) J L ∧ mdMid B n m I J (uStep B n w s) := by
  have mo := hm.1
  refine am_ofX1 rfl rfl rfl (Nat.le_of_ble_eq_true rfl) ?_
  have IS : ∀ i, i < am_sn → am_E m_X9_is (d + 261) 0 0 [.ref m, .retAddr i] Γ I L (.inl (some (.int (bi (wd B n s i))))) I L := fun i hi => eX9_is (d := d + 257) (L := L) hm hB ht hi
  -- from the end of a command to its semicolon
  have tail : ∀ J, mdMid B n m I J (uCmd B n w s) → ∃ J2, am_W m_X9_command (d + 262) 0 0 false 0 0 264 [(0, .ref m)] [] Γ J L (am_R (.inl none) J2 L) ∧ mdMid B n m I J2 (uStep B n w s) := by
    intro J hJ
    obtain ⟨f1, f2, f3⟩ := hJ
    cases hU : uCmd B n w s with
    | error e =>
      obtain ⟨c, p⟩ := e
      rw [hU] at f3
      rw [uStep_e hU]
      refine ⟨J, ?_, f1, f2, f3⟩
      refine bX9_command_264 mo (Nat.zero_le _) (Nat.zero_le _) (eX9_go_x hm f3.1) ?_
      refine bX9_command_268 mo (Nat.zero_le _) (Nat.zero_le _) (eX9_semicolon_x hm f3.1) ?_
      refine bX9_command_272 ?_
      exact ⟨rfl, rfl, rfl⟩
    | ok q =>
      obtain ⟨s', w'⟩ := q
      rw [hU] at f3
      obtain ⟨kq, t1, r1, x1⟩ := f3
      have B1 := hB.st (I' := J) (f2 9 (by decide) (by decide) (by decide)) (f1 _ (by omega) (by omega) (by omega))
      obtain ⟨J1, hE, t2, fr2⟩ := eX9_go (d := d + 258) (L := L) hm B1 t1 x1
      have x2 : J1 m 23 = 0 := (fr2.2 23 (by decide) (by decide) (by decide) (by decide)).trans x1
      obtain ⟨g1, g2⟩ := eX9_semicolon (d := d + 257) (L := L) hm (B1.frM fr2) t2 x2
      rw [uStep_s hU]
      by_cases h2 : kd B n (nx B n s') = 2
      · obtain ⟨J2, hE2, t3, fr3⟩ := g1 h2
        rw [if_pos h2]
        refine ⟨J2, ?_, fun k a b c => (fr3.1 k a).trans ((fr2.1 k a).trans (f1 k a b c)), fun j a b c => (fr3.2 j (by omega) (by omega) (by omega) (by omega)).trans ((fr2.2 j (by omega) (by omega) (by omega) (by omega)).trans (f2 j a b c)), ⟨(fr3.2 11 (by decide) (by decide) (by decide) (by decide)).trans ((fr2.2 11 (by decide) (by decide) (by decide) (by decide)).trans kq.1), (fr3.2 12 (by decide) (by decide) (by decide) (by decide)).trans ((fr2.2 12 (by decide) (by decide) (by decide) (by decide)).trans kq.2)⟩, t3, (fr3.1 _ (by omega)).trans ((fr2.1 _ (by omega)).trans r1), (fr3.2 23 (by decide) (by decide) (by decide) (by decide)).trans x2⟩
        refine bX9_command_264 mo (Nat.zero_le _) (Nat.zero_le _) hE ?_
        refine bX9_command_268 mo (Nat.zero_le _) (Nat.zero_le _) hE2 ?_
        refine bX9_command_272 ?_
        exact ⟨rfl, rfl, rfl⟩
      · have hE2 := g2 h2
        obtain ⟨e1, e2, e3, e4, e5⟩ := wrS_at (J := J1) (m := m) (c := 1) (s := nx B n s')
        rw [if_neg h2]
        refine ⟨_, ?_, fun k a b c => (e4 k a).trans ((fr2.1 k a).trans (f1 k a b c)), fun j a b c => (e5 j (by omega) a b).trans ((fr2.2 j (by omega) (by omega) (by omega) (by omega)).trans (f2 j a b c)), e1, e2, e3⟩
        refine bX9_command_264 mo (Nat.zero_le _) (Nat.zero_le _) hE ?_
        refine bX9_command_268 mo (Nat.zero_le _) (Nat.zero_le _) hE2 ?_
        refine bX9_command_272 ?_
        exact ⟨rfl, rfl, rfl⟩
  have close : ∀ (J : am_I), mdMid B n m I J (uCmd B n w s) → (∀ If, am_W m_X9_command (d + 262) 0 0 false 0 0 264 [(0, .ref m)] [] Γ J L (am_R (.inl none) If L) → am_W m_X9_command (d + 262) 0 0 false 0 0 0 [(0, .ref m)] [] Γ I L (am_R (.inl none) If L)) → ∃ J2, am_W m_X9_command (d + 262) 0 0 false 0 0 0 [(0, .ref m)] [] Γ I L (am_R (.inl none) J2 L) ∧ mdMid B n m I J2 (uStep B n w s) := by
    intro J hJ K
    obtain ⟨J2, hW, hP⟩ := tail J hJ
    exact ⟨J2, K _ hW, hP⟩
  by_cases h5 : wd B n s 5 = true
  · obtain ⟨J, hE, hJ⟩ := eX9_passTold (d := d + 256) (L := L) hm hw h0 hB ht hr h23
    refine close J (by unfold uCmd; rw [if_pos h5]; exact hJ) (fun If hW => ?_)
    refine bX9_command_0 mo (Nat.zero_le _) (Nat.zero_le _) (IS 5 (by decide)) ?_
    refine bX9_command_7 (fun z => absurd z (by rw [h5]; decide)) (fun _ => ?_)
    refine bX9_command_10 mo (Nat.zero_le _) (Nat.zero_le _) hE ?_
    refine bX9_command_14 ?_
    exact hW
  have n5 : ∀ If, am_W m_X9_command (d + 262) 0 0 false 0 0 17 [(0, .ref m)] [] Γ I L (am_R (.inl none) If L) → am_W m_X9_command (d + 262) 0 0 false 0 0 0 [(0, .ref m)] [] Γ I L (am_R (.inl none) If L) := fun If hW => by
    refine bX9_command_0 mo (Nat.zero_le _) (Nat.zero_le _) (IS 5 (by decide)) ?_
    exact bX9_command_7 (fun _ => hW) (fun z => absurd (bi_nz.mp z) h5)
  by_cases h6 : wd B n s 6 = true
  · obtain ⟨J, hJ, hE⟩ := mC_Build (d := d) (L := L) hm hw h0 hB ht hr h23 h6
    refine close J (by unfold uCmd; rw [if_neg h5, if_pos h6]; exact hJ) (fun If hW => n5 _ ?_)
    refine bX9_command_17 mo (Nat.zero_le _) (Nat.zero_le _) (IS 6 (by decide)) ?_
    exact bX9_command_24 (fun _ => hE If hW) (fun z => absurd z (by rw [h6]; decide))
  have h6f : wd B n s 6 = false := by cases hx : wd B n s 6; rfl; exact absurd hx h6
  by_cases h7 : wd B n s 7 = true
  · obtain ⟨J, hJ, hE⟩ := mC_Halve (d := d + 256) (L := L) hm hw h0 hB ht hr h23 h6f
    refine close J (by unfold uCmd; rw [if_neg h5, if_neg h6, if_pos h7]; exact hJ) (fun If hW => n5 _ ?_)
    refine bX9_command_17 mo (Nat.zero_le _) (Nat.zero_le _) (IS 6 (by decide)) ?_
    refine bX9_command_24 (fun z => absurd (bi_nz.mp z) h6) (fun _ => ?_)
    refine bX9_command_27 mo (Nat.zero_le _) (Nat.zero_le _) (IS 7 (by decide)) ?_
    exact bX9_command_34 (fun z => absurd z (by rw [h7]; decide)) (fun _ => hE If hW)
  have n7 : ∀ If, am_W m_X9_command (d + 262) 0 0 false 0 0 85 [(0, .ref m)] [] Γ I L (am_R (.inl none) If L) → am_W m_X9_command (d + 262) 0 0 false 0 0 0 [(0, .ref m)] [] Γ I L (am_R (.inl none) If L) := fun If hW => n5 _ (by
    refine bX9_command_17 mo (Nat.zero_le _) (Nat.zero_le _) (IS 6 (by decide)) ?_
    refine bX9_command_24 (fun z => absurd (bi_nz.mp z) h6) (fun _ => ?_)
    refine bX9_command_27 mo (Nat.zero_le _) (Nat.zero_le _) (IS 7 (by decide)) ?_
    exact bX9_command_34 (fun _ => hW) (fun z => absurd (bi_nz.mp z) h7))
  by_cases h8 : wd B n s 8 = true
  · obtain ⟨J, hJ, hE⟩ := mC_Toll (d := d + 256) (L := L) hm hw hB ht hr h23
    refine close J (by unfold uCmd; rw [if_neg h5, if_neg h6, if_neg h7, if_pos h8]; exact hJ) (fun If hW => n7 _ ?_)
    refine bX9_command_85 mo (Nat.zero_le _) (Nat.zero_le _) (IS 8 (by decide)) ?_
    exact bX9_command_92 (fun z => absurd z (by rw [h8]; decide)) (fun _ => hE If hW)
  by_cases h9 : wd B n s 9 = true
  · obtain ⟨J, hJ, hE⟩ := mC_Limit (d := d + 256) (L := L) hm hw hB ht hr h23
    refine close J (by unfold uCmd; rw [if_neg h5, if_neg h6, if_neg h7, if_neg h8, if_pos h9]; exact hJ) (fun If hW => n7 _ ?_)
    refine bX9_command_85 mo (Nat.zero_le _) (Nat.zero_le _) (IS 8 (by decide)) ?_
    refine bX9_command_92 (fun _ => ?_) (fun z => absurd (bi_nz.mp z) h8)
    refine bX9_command_144 mo (Nat.zero_le _) (Nat.zero_le _) (IS 9 (by decide)) ?_
    exact bX9_command_151 (fun z => absurd z (by rw [h9]; decide)) (fun _ => hE If hW)
  have n9 : ∀ If, am_W m_X9_command (d + 262) 0 0 false 0 0 204 [(0, .ref m)] [] Γ I L (am_R (.inl none) If L) → am_W m_X9_command (d + 262) 0 0 false 0 0 0 [(0, .ref m)] [] Γ I L (am_R (.inl none) If L) := fun If hW => n7 _ (by
    refine bX9_command_85 mo (Nat.zero_le _) (Nat.zero_le _) (IS 8 (by decide)) ?_
    refine bX9_command_92 (fun _ => ?_) (fun z => absurd (bi_nz.mp z) h8)
    refine bX9_command_144 mo (Nat.zero_le _) (Nat.zero_le _) (IS 9 (by decide)) ?_
    exact bX9_command_151 (fun _ => hW) (fun z => absurd (bi_nz.mp z) h9))
  by_cases h10 : wd B n s 10 = true
  · obtain ⟨J, hJ, hE⟩ := mC_Hours (d := d + 256) (L := L) hm hw hB ht hr h23
    refine close J (by unfold uCmd; rw [if_neg h5, if_neg h6, if_neg h7, if_neg h8, if_neg h9, if_pos h10]; exact hJ) (fun If hW => n9 _ ?_)
    refine bX9_command_204 mo (Nat.zero_le _) (Nat.zero_le _) (IS 10 (by decide)) ?_
    exact bX9_command_211 (fun z => absurd z (by rw [h10]; decide)) (fun _ => hE If hW)
  · obtain ⟨e1, e2, e3, e4, e5⟩ := wrS_at (J := I) (m := m) (c := 1) (s := s)
    refine close (wrS I m 1 s) (by unfold uCmd; rw [if_neg h5, if_neg h6, if_neg h7, if_neg h8, if_neg h9, if_neg h10]; exact ⟨fun k a _ _ => e4 k a, fun j a b c => e5 j (by omega) a b, e1, e2, e3⟩) (fun If hW => n9 _ ?_)
    refine bX9_command_204 mo (Nat.zero_le _) (Nat.zero_le _) (IS 10 (by decide)) ?_
    refine bX9_command_211 (fun _ => ?_) (fun z => absurd (bi_nz.mp z) h10)
    refine bX9_command_258 mo (Nat.zero_le _) (Nat.zero_le _) (eX9_wrong_1 hm h23 ht.2.1 1) ?_
    exact hW
end MC4
