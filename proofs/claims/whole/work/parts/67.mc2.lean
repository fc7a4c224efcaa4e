/-! THE TEXT'S COMMANDS: the model, hours, halve, build -/
section MC2
variable {d : Nat} {Γ : am_G} {I : am_I} {L : am_L} {B : Nat → Nat} {n s m : Nat} {w : Nat → Int32}
theorem mC_Hours (hm : mdF Γ m) (hw : wfp w) (hB : rmB I m B n) (ht : tkM B n I m s) (hr : I (m + 1) = w) (h23 : I m 23 = 0) : ∃ J, mdMid B n m I J (uHrs B n w s) ∧ ∀ If, am_W m_X9_command (d + 6) 0 0 false 0 0 264 [(0, .ref m)] [] Γ J L (am_R (.inl none) If L) → am_W m_X9_command (d + 6) 0 0 false 0 0 214 [(0, .ref m)] [] Γ I L (am_R (.inl none) If L) := by
  obtain ⟨mo, r0, r1, r2, r3, r4, r7, r8, r13, r14, r15, r16, r17, a1, a2, a3, a4, a5, a6, a7, a8, a9, a10, a11, a12⟩ := id hm
  obtain ⟨x3, c9⟩ := hw.2.2.2.1
  obtain ⟨I1, hE1, t1, fr1⟩ := eX9_go (d := d + 2) (L := L) hm hB ht h23
  have q1 : I1 (m + 1) = w := (fr1.1 _ (by omega)).trans hr
  have x1 : I1 m 23 = 0 := (fr1.2 23 (by decide) (by decide) (by decide) (by decide)).trans h23
  obtain ⟨g1, g2⟩ := eX9_here (d := d + 4) (L := L) hm t1 x1 (lo := 1) (hi := min (9999 - vC w) 100) (by omega) (by decide)
  have ehi : (if 9999 - I1 (m + 1) (3 : Int32).toNatClampNeg < 100 then 9999 - I1 (m + 1) (3 : Int32).toNatClampNeg else 100) = nn (min (9999 - vC w) 100) := by
    rw [q1, show w (3 : Int32).toNatClampNeg = nn (vC w) from x3]
    exact hrs_hi c9
  rw [← ehi] at g1 g2
  have n1 : ∀ k, k ≠ m → I1 k = I k := fr1.1
  have m1 : ∀ j, ¬ (18 ≤ j ∧ j ≤ 22) → I1 m j = I m j := fun j a => fr1.2 j (by omega) (by omega) (by omega) (by omega)
  cases hN : pNum B n 1 (min (9999 - vC w) 100) (nx B n s) with
  | error e =>
    obtain ⟨c, p⟩ := e
    have hE4 := g2 c p hN
    obtain ⟨e1, e2, e3, e4, e5⟩ := wrS_at (J := I1) (m := m) (c := c) (s := p)
    rw [uHrs_e hN]
    refine ⟨wrS I1 m c p, ⟨fun k a b c' => (e4 k a).trans (n1 k a), fun j a b c' => (e5 j (by omega) a b).trans (m1 j (by omega)), e1, e2, e3⟩, fun If hW => ?_⟩
    refine bX9_command_214 mo (Nat.zero_le _) (Nat.zero_le _) hE1 ?_
    refine bX9_command_218 mo r0 a1 (nn_in (k := 3) (by decide) (by decide)) (Nat.zero_le _) (Nat.zero_le _) hE4 ?_
    refine bX9_command_238 mo (fun _ => ?_) (fun z => absurd z (by rw [e1]; decide))
    refine bX9_command_255 ?_
    refine aw_take 1 ?_
    exact hW
  | ok q =>
    have hE4 := g1 (pNum_ok hN)
    rw [uHrs_ok hN]
    have hA := eX9_advances (d := d + 1) (L := L) hm (I := I1) (N := vG w) (by rw [q1]; exact hw.2.2.1.1) hw.2.2.1.2 (nn (vl B n (nx B n s)))
    obtain ⟨J, hJ⟩ : ∃ J, J = am_u (am_u I1 (m + 1) 3 (I1 (m + 1) 3 + nn (vl B n (nx B n s)))) m 24 (mOpen (up (I1 (m + 1)) 3 (I1 (m + 1) 3 + nn (vl B n (nx B n s)))) (vG w)) := ⟨_, rfl⟩
    have jm : ∀ j, j ≠ 24 → J m j = I1 m j := fun j hj => by rw [hJ, at1, if_neg hj, am_u_ne (by omega)]
    have jr : J (m + 1) = up w 3 (nn (vC w + vl B n (nx B n s))) := by rw [hJ, am_u_ne (by omega), am_u_up, q1, x3, nn_add]
    refine ⟨J, ⟨fun k a b c' => by rw [hJ, am_u_ne a, am_u_ne b]; exact n1 k a, fun j a b c' => (jm j (by omega)).trans (m1 j (by omega)), (have q : ∀ j, ¬ (18 ≤ j ∧ j ≤ 24) → J m j = I m j := fun j c' => (jm j (by omega)).trans (m1 j (by omega)); ⟨q 11 (by decide), q 12 (by decide)⟩), t1.st (fun j a b => jm j (by omega)), jr, (jm 23 (by decide)).trans x1⟩, fun If hW => ?_⟩
    refine bX9_command_214 mo (Nat.zero_le _) (Nat.zero_le _) hE1 ?_
    refine bX9_command_218 mo r0 a1 (nn_in (k := 3) (by decide) (by decide)) (Nat.zero_le _) (Nat.zero_le _) hE4 ?_
    refine bX9_command_238 mo (fun z => absurd x1 z) (fun _ => ?_)
    refine bX9_command_246 mo (Nat.zero_le _) (Nat.zero_le _) hA ?_
    refine bX9_command_252 mo ?_
    refine bX9_command_255 ?_
    refine aw_take 1 ?_
    rw [← hJ]
    exact hW
theorem mC_Halve (hm : mdF Γ m) (hw : wfp w) (h0 : 0 < vT w) (hB : rmB I m B n) (ht : tkM B n I m s) (hr : I (m + 1) = w) (h23 : I m 23 = 0) (h6 : wd B n s 6 = false) : ∃ J, mdMid B n m I J (uOne B n (fNm w 135 94 B (nx B n s) (en B n (nx B n s) - nx B n s) (vG w)) s (fun g => hlW w g)) ∧ ∀ If, am_W m_X9_command (d + 6) 0 0 false 0 0 264 [(0, .ref m)] [] Γ J L (am_R (.inl none) If L) → am_W m_X9_command (d + 6) 0 0 false 0 0 37 [(0, .ref m)] [] Γ I L (am_R (.inl none) If L) := by
  have mo := hm.1
  have hb := hw.2.2.1.2
  have t8 := hw.2.1.2
  have hI := eX9_is (d := d + 1) (L := L) hm hB ht (show 6 < am_sn by decide)
  rw [h6] at hI
  obtain ⟨I1, hE1, t1, fr1⟩ := eX9_go (d := d + 2) (L := L) hm hB ht h23
  have q1 : I1 (m + 1) = w := (fr1.1 _ (by omega)).trans hr
  have x1 : I1 m 23 = 0 := (fr1.2 23 (by decide) (by decide) (by decide) (by decide)).trans h23
  obtain ⟨g1, g2⟩ := eX9_gateHere (d := d + 3) (L := L) hm (by rw [q1]; exact hw) (hB.frM fr1) t1 x1
  rw [q1] at g1 g2
  have hge : fNm w 135 94 B (nx B n s) (en B n (nx B n s) - nx B n s) (vG w) ≠ -1 → ∃ t, t < vG w ∧ fNm w 135 94 B (nx B n s) (en B n (nx B n s) - nx B n s) (vG w) = nn t := fNm_ge
  generalize fNm w 135 94 B (nx B n s) (en B n (nx B n s) - nx B n s) (vG w) = v0 at *
  cases hk : pKnown B n v0 (nx B n s) with
  | error e =>
    obtain ⟨c, p⟩ := e
    obtain ⟨I2, hE2, hx, k2, j2⟩ := g2 c p hk
    rw [uOne_e hk]
    refine ⟨I2, ⟨fun k a b c' => (k2 k a (by omega)).trans (fr1.1 k a), fun j a b c' => (j2 j a b (by omega) (by omega)).trans (fr1.2 j (by omega) (by omega) (by omega) (by omega)), hx⟩, fun If hW => ?_⟩
    refine bX9_command_37 mo (Nat.zero_le _) (Nat.zero_le _) hI ?_
    refine bX9_command_44 mo (Nat.zero_le _) (Nat.zero_le _) hE1 ?_
    refine bX9_command_49 mo (Nat.zero_le _) (Nat.zero_le _) hE2 ?_
    refine bX9_command_53 mo (fun _ => ?_) (fun z => absurd z (by rw [hx.1]; decide))
    refine bX9_command_82 ?_
    refine aw_take 1 ?_
    exact hW
  | ok p =>
    obtain ⟨s2, v⟩ := p
    obtain ⟨rfl, rfl, hne⟩ := pKnown_ok hk
    obtain ⟨t, htv, rfl⟩ := hge hne
    obtain ⟨I2, hE2, k2, j2⟩ := g1 _ hk
    have et : (nn t : Int32).toNatClampNeg = t := nn_nat (by omega)
    have q2 : I2 (m + 1) = w := (k2 _ (by omega) (by omega)).trans q1
    have x2 : I2 m 23 = 0 := (j2 23 (by decide)).trans x1
    have t2 := t1.st (I' := I2) (fun j _ _ => j2 j (by omega))
    rw [uOne_ok hk]
    obtain ⟨I3, hM, row3, f3'⟩ := eX9_halves (d := d + 2) (L := L) (I := I2) (T := vT w) hm (show t < 4 by omega) (by rw [q2]; exact hw.2.1.1) t8
    rw [q2] at hM row3
    have f3 : ∀ k, k ≠ m + 1 → ¬ (m + 8 ≤ k ∧ k ≤ m + 12) → I3 k = I2 k := fun k a _ => f3' k a
    obtain ⟨J, hJ⟩ : ∃ J, J = am_u I3 m 24 (mCnt (hlk w t (vT w)) t (vT w)) := ⟨_, rfl⟩
    have jm : ∀ j, j ≠ 24 → J m j = I2 m j := fun j hj => by rw [hJ, at1, if_neg hj, f3 m (by omega) (by omega)]
    have jr : J (m + 1) = hlW w t := by rw [hJ, am_u_ne (by omega)]; exact row3
    refine ⟨J, ⟨fun k a b c' => by rw [hJ, am_u_ne a, f3 k b c']; exact (k2 k a (by omega)).trans (fr1.1 k a), fun j a b c' => (jm j (by omega)).trans ((j2 j (by omega)).trans (fr1.2 j (by omega) (by omega) (by omega) (by omega))), (have q : ∀ j, ¬ (18 ≤ j ∧ j ≤ 24) → J m j = I m j := fun j c' => (jm j (by omega)).trans ((j2 j (by omega)).trans (fr1.2 j (by omega) (by omega) (by omega) (by omega))); ⟨q 11 (by decide), q 12 (by decide)⟩), t2.st (fun j a b => jm j (by omega)), by rw [jr, et], (jm 23 (by decide)).trans x2⟩, fun If hW => ?_⟩
    refine bX9_command_37 mo (Nat.zero_le _) (Nat.zero_le _) hI ?_
    refine bX9_command_44 mo (Nat.zero_le _) (Nat.zero_le _) hE1 ?_
    refine bX9_command_49 mo (Nat.zero_le _) (Nat.zero_le _) hE2 ?_
    refine bX9_command_53 mo (fun z => absurd x2 z) (fun _ => ?_)
    refine bX9_command_61 (fun _ => ?_) (fun z => absurd rfl z)
    refine bX9_command_74 mo (Nat.zero_le _) (Nat.zero_le _) hM ?_
    refine bX9_command_79 mo ?_
    refine bX9_command_82 ?_
    refine aw_take 1 ?_
    rw [← hJ]
    exact hW
theorem mC_Build (hm : mdF Γ m) (hw : wfp w) (h0 : 0 < vT w) (hB : rmB I m B n) (ht : tkM B n I m s) (hr : I (m + 1) = w) (h23 : I m 23 = 0) (h6 : wd B n s 6 = true) : ∃ J, mdMid B n m I J (uOne B n (fNm w 135 94 B (nx B n s) (en B n (nx B n s) - nx B n s) (vG w)) s (fun g => bldW w g)) ∧ ∀ If, am_W m_X9_command (d + 262) 0 0 false 0 0 264 [(0, .ref m)] [] Γ J L (am_R (.inl none) If L) → am_W m_X9_command (d + 262) 0 0 false 0 0 37 [(0, .ref m)] [] Γ I L (am_R (.inl none) If L) := by
  have mo := hm.1
  have hb := hw.2.2.1.2
  have t8 := hw.2.1.2
  have hI := eX9_is (d := d + 257) (L := L) hm hB ht (show 6 < am_sn by decide)
  rw [h6] at hI
  obtain ⟨I1, hE1, t1, fr1⟩ := eX9_go (d := d + 258) (L := L) hm hB ht h23
  have q1 : I1 (m + 1) = w := (fr1.1 _ (by omega)).trans hr
  have x1 : I1 m 23 = 0 := (fr1.2 23 (by decide) (by decide) (by decide) (by decide)).trans h23
  obtain ⟨g1, g2⟩ := eX9_gateHere (d := d + 259) (L := L) hm (by rw [q1]; exact hw) (hB.frM fr1) t1 x1
  rw [q1] at g1 g2
  have hge : fNm w 135 94 B (nx B n s) (en B n (nx B n s) - nx B n s) (vG w) ≠ -1 → ∃ t, t < vG w ∧ fNm w 135 94 B (nx B n s) (en B n (nx B n s) - nx B n s) (vG w) = nn t := fNm_ge
  generalize fNm w 135 94 B (nx B n s) (en B n (nx B n s) - nx B n s) (vG w) = v0 at *
  cases hk : pKnown B n v0 (nx B n s) with
  | error e =>
    obtain ⟨c, p⟩ := e
    obtain ⟨I2, hE2, hx, k2, j2⟩ := g2 c p hk
    rw [uOne_e hk]
    refine ⟨I2, ⟨fun k a b c' => (k2 k a (by omega)).trans (fr1.1 k a), fun j a b c' => (j2 j a b (by omega) (by omega)).trans (fr1.2 j (by omega) (by omega) (by omega) (by omega)), hx⟩, fun If hW => ?_⟩
    refine bX9_command_37 mo (Nat.zero_le _) (Nat.zero_le _) hI ?_
    refine bX9_command_44 mo (Nat.zero_le _) (Nat.zero_le _) hE1 ?_
    refine bX9_command_49 mo (Nat.zero_le _) (Nat.zero_le _) hE2 ?_
    refine bX9_command_53 mo (fun _ => ?_) (fun z => absurd z (by rw [hx.1]; decide))
    refine bX9_command_82 ?_
    refine aw_take 1 ?_
    exact hW
  | ok p =>
    obtain ⟨s2, v⟩ := p
    obtain ⟨rfl, rfl, hne⟩ := pKnown_ok hk
    obtain ⟨t, htv, rfl⟩ := hge hne
    obtain ⟨I2, hE2, k2, j2⟩ := g1 _ hk
    have et : (nn t : Int32).toNatClampNeg = t := nn_nat (by omega)
    have q2 : I2 (m + 1) = w := (k2 _ (by omega) (by omega)).trans q1
    have x2 : I2 m 23 = 0 := (j2 23 (by decide)).trans x1
    have t2 := t1.st (I' := I2) (fun j _ _ => j2 j (by omega))
    rw [uOne_ok hk]
    have lim := (hw.2.2.2.2.2.2 t htv).2.2.1
    obtain ⟨I3, e', hM, m1, m2, m3, m4, m5, m6⟩ := eX9_builds (d := d) (I := I2) (L := L) hm (show t < 4 by omega) (by rw [q2]; exact hw.mda h0 htv) lim.2 (by rw [q2]; exact lim.1)
    rw [q2] at m6
    have row3 : I3 (m + 1) = bldW w t := bldR_uq (bld_ex hw h0 htv) ⟨e', m1, m2, m3, m4, m6⟩
    have f3 : ∀ k, k ≠ m + 1 → ¬ (m + 8 ≤ k ∧ k ≤ m + 12) → I3 k = I2 k := fun k a b => m5 k a (by omega) (by omega) (by omega) (by omega)
    obtain ⟨J, hJ⟩ : ∃ J, J = am_u I3 m 24 (nn e') := ⟨_, rfl⟩
    have jm : ∀ j, j ≠ 24 → J m j = I2 m j := fun j hj => by rw [hJ, at1, if_neg hj, f3 m (by omega) (by omega)]
    have jr : J (m + 1) = bldW w t := by rw [hJ, am_u_ne (by omega)]; exact row3
    refine ⟨J, ⟨fun k a b c' => by rw [hJ, am_u_ne a, f3 k b c']; exact (k2 k a (by omega)).trans (fr1.1 k a), fun j a b c' => (jm j (by omega)).trans ((j2 j (by omega)).trans (fr1.2 j (by omega) (by omega) (by omega) (by omega))), (have q : ∀ j, ¬ (18 ≤ j ∧ j ≤ 24) → J m j = I m j := fun j c' => (jm j (by omega)).trans ((j2 j (by omega)).trans (fr1.2 j (by omega) (by omega) (by omega) (by omega))); ⟨q 11 (by decide), q 12 (by decide)⟩), t2.st (fun j a b => jm j (by omega)), by rw [jr, et], (jm 23 (by decide)).trans x2⟩, fun If hW => ?_⟩
    refine bX9_command_37 mo (Nat.zero_le _) (Nat.zero_le _) hI ?_
    refine bX9_command_44 mo (Nat.zero_le _) (Nat.zero_le _) hE1 ?_
    refine bX9_command_49 mo (Nat.zero_le _) (Nat.zero_le _) hE2 ?_
    refine bX9_command_53 mo (fun z => absurd x2 z) (fun _ => ?_)
    refine bX9_command_61 (fun z => absurd z (by decide)) (fun _ => ?_)
    refine bX9_command_66 mo (Nat.zero_le _) (Nat.zero_le _) hM ?_
    refine bX9_command_71 ?_
    refine bX9_command_79 mo ?_
    refine bX9_command_82 ?_
    refine aw_take 1 ?_
    rw [← hJ]
    exact hW
end MC2
