/-! THE TEXT'S COMMANDS: the model, toll and limit -/
/-- how a command of the model stands before it goes on -/
def mdMid (B : Nat → Nat) (n m : Nat) (J J' : am_I) (o : Except (Nat × Nat) (Nat × (Nat → Int32))) : Prop := (∀ k, k ≠ m → k ≠ m + 1 → ¬ (m + 8 ≤ k ∧ k ≤ m + 12) → J' k = J k) ∧ (∀ j, j ≠ 11 → j ≠ 12 → ¬ (18 ≤ j ∧ j ≤ 24) → J' m j = J m j) ∧ match o with
  | .ok (s', w') => (J' m 11 = J m 11 ∧ J' m 12 = J m 12) ∧ tkM B n J' m s' ∧ J' (m + 1) = w' ∧ J' m 23 = 0
  | .error (c, p) => J' m 23 = 1 ∧ J' m 11 = nn c ∧ J' m 12 = nn p
theorem tkM.st {B : Nat → Nat} {n m s : Nat} {I I' : am_I} (h : tkM B n I m s) (e : ∀ j, 19 ≤ j → j ≤ 22 → I' m j = I m j) : tkM B n I' m s := by
  obtain ⟨x1, x2, x3, x4, x5⟩ := h
  exact ⟨x1, (e 20 (by decide) (by decide)).trans x2, (e 19 (by decide) (by decide)).trans x3, (e 21 (by decide) (by decide)).trans x4, fun z => by rw [e 22 (by decide) (by decide)]; exact x5 z⟩
theorem rmB.st {B : Nat → Nat} {n m : Nat} {I I' : am_I} (h : rmB I m B n) (e : I' m 9 = I m 9) (e6 : I' (m + 6) = I (m + 6)) : rmB I' m B n := ⟨h.1, e.trans h.2.1, fun j hj => by rw [e6]; exact h.2.2 j hj⟩
section MC1
variable {d : Nat} {Γ : am_G} {I : am_I} {L : am_L} {B : Nat → Nat} {n s m : Nat} {w : Nat → Int32}
theorem mC_Toll (hm : mdF Γ m) (hw : wfp w) (hB : rmB I m B n) (ht : tkM B n I m s) (hr : I (m + 1) = w) (h23 : I m 23 = 0) : ∃ J, mdMid B n m I J (uTwo B n (fNm w 62 9 B (nx B n s) (en B n (nx B n s) - nx B n s) (vT w)) 0 99 s (fun t v => up w (60 + t * 9) (nn v))) ∧ ∀ If, am_W m_X9_command (d + 6) 0 0 false 0 0 264 [(0, .ref m)] [] Γ J L (am_R (.inl none) If L) → am_W m_X9_command (d + 6) 0 0 false 0 0 95 [(0, .ref m)] [] Γ I L (am_R (.inl none) If L) := by
  have mo := hm.1
  have hb := hw.2.1.2
  obtain ⟨I1, hE1, t1, fr1⟩ := eX9_go (d := d + 2) (L := L) hm hB ht h23
  have r1 : I1 (m + 1) = w := (fr1.1 _ (by omega)).trans hr
  have b1 := hB.frM fr1
  have x1 : I1 m 23 = 0 := (fr1.2 23 (by decide) (by decide) (by decide) (by decide)).trans h23
  obtain ⟨g1, g2⟩ := eX9_typeHere (d := d + 3) (L := L) hm (by rw [r1]; exact hw) b1 t1 x1
  rw [r1] at g1 g2
  have hge : fNm w 62 9 B (nx B n s) (en B n (nx B n s) - nx B n s) (vT w) ≠ -1 → ∃ t, t < vT w ∧ fNm w 62 9 B (nx B n s) (en B n (nx B n s) - nx B n s) (vT w) = nn t := fNm_ge
  generalize fNm w 62 9 B (nx B n s) (en B n (nx B n s) - nx B n s) (vT w) = v0 at *
  cases hk : pKnown B n v0 (nx B n s) with
  | error e =>
    obtain ⟨c, p⟩ := e
    obtain ⟨I2, hE2, hx, k2, j2⟩ := g2 c p hk
    rw [uTwo_e1 hk]
    refine ⟨I2, ⟨fun k a b c' => (k2 k a (by omega)).trans (fr1.1 k a), fun j a b c' => (j2 j a b (by omega) (by omega)).trans (fr1.2 j (by omega) (by omega) (by omega) (by omega)), hx⟩, fun If hW => ?_⟩
    refine bX9_command_95 mo (Nat.zero_le _) (Nat.zero_le _) hE1 ?_
    refine bX9_command_99 mo (Nat.zero_le _) (Nat.zero_le _) hE2 ?_
    refine bX9_command_103 mo (Nat.zero_le _) (Nat.zero_le _) (eX9_go_x hm hx.1) ?_
    refine bX9_command_108 mo (Nat.zero_le _) (Nat.zero_le _) (eX9_here_x hm hx.1 _ _) ?_
    refine bX9_command_115 mo (fun _ => ?_) (fun z => absurd z (by rw [hx.1]; decide))
    refine bX9_command_141 ?_
    refine aw_take 1 ?_
    exact hW
  | ok p =>
    obtain ⟨s2, v⟩ := p
    obtain ⟨rfl, rfl, hne⟩ := pKnown_ok hk
    obtain ⟨t, htv, rfl⟩ := hge hne
    obtain ⟨I2, hE2, k2, j2⟩ := g1 _ hk
    have et : (nn t : Int32).toNatClampNeg = t := nn_nat (by omega)
    have r2 : I2 (m + 1) = w := (k2 _ (by omega) (by omega)).trans r1
    have x2 : I2 m 23 = 0 := (j2 23 (by decide)).trans x1
    have t2 := t1.st (I' := I2) (fun j _ _ => j2 j (by omega))
    have b2 := b1.st (I' := I2) (j2 9 (by decide)) (k2 _ (by omega) (by omega))
    obtain ⟨I3, hE3, t3, fr3⟩ := eX9_go (d := d + 2) (L := L) hm b2 t2 x2
    have r3 : I3 (m + 1) = w := (fr3.1 _ (by omega)).trans r2
    have x3 : I3 m 23 = 0 := (fr3.2 23 (by decide) (by decide) (by decide) (by decide)).trans x2
    have n3 : ∀ k, k ≠ m → ¬ (m + 8 ≤ k ∧ k ≤ m + 12) → I3 k = I k := fun k a c => (fr3.1 k a).trans ((k2 k a (by omega)).trans (fr1.1 k a))
    have m3 : ∀ j, ¬ (18 ≤ j ∧ j ≤ 22) → I3 m j = I m j := fun j a => (fr3.2 j (by omega) (by omega) (by omega) (by omega)).trans ((j2 j (by omega)).trans (fr1.2 j (by omega) (by omega) (by omega) (by omega)))
    obtain ⟨q1, q2⟩ := eX9_here (d := d + 4) (L := L) hm t3 x3 (lo := 0) (hi := 99) (by decide) (by decide)
    cases hN : pNum B n 0 99 (nx B n (nx B n s)) with
    | error e =>
      obtain ⟨c, p⟩ := e
      have hE4 := q2 c p hN
      obtain ⟨e1, e2, e3, e4, e5⟩ := wrS_at (J := I3) (m := m) (c := c) (s := p)
      rw [uTwo_e2 hk hN]
      refine ⟨wrS I3 m c p, ⟨fun k a b c' => (e4 k a).trans (n3 k a c'), fun j a b c' => (e5 j (by omega) a b).trans (m3 j (by omega)), e1, e2, e3⟩, fun If hW => ?_⟩
      refine bX9_command_95 mo (Nat.zero_le _) (Nat.zero_le _) hE1 ?_
      refine bX9_command_99 mo (Nat.zero_le _) (Nat.zero_le _) hE2 ?_
      refine bX9_command_103 mo (Nat.zero_le _) (Nat.zero_le _) hE3 ?_
      refine bX9_command_108 mo (Nat.zero_le _) (Nat.zero_le _) hE4 ?_
      refine bX9_command_115 mo (fun _ => ?_) (fun z => absurd z (by rw [e1]; decide))
      refine bX9_command_141 ?_
      refine aw_take 1 ?_
      exact hW
    | ok q =>
      have hE4 := q1 (pNum_ok hN)
      rw [uTwo_ok hk hN]
      obtain ⟨J, hJ⟩ : ∃ J, J = am_u (am_u I3 (m + 1) (60 + t * 9) (nn (vl B n (nx B n (nx B n s))))) m 24 (I3 (m + 1) (60 + t * 9)) := ⟨_, rfl⟩
      have jm : ∀ j, j ≠ 24 → J m j = I3 m j := fun j hj => by rw [hJ, at1, if_neg hj, am_u_ne (by omega)]
      have jr : J (m + 1) = up w (60 + t * 9) (nn (vl B n (nx B n (nx B n s)))) := by rw [hJ, am_u_ne (by omega), am_u_up, r3]
      refine ⟨J, ⟨fun k a b c' => by rw [hJ, am_u_ne a, am_u_ne b]; exact n3 k a c', fun j a b c' => (jm j (by omega)).trans (m3 j (by omega)), (have q : ∀ j, ¬ (18 ≤ j ∧ j ≤ 24) → J m j = I m j := fun j c' => (jm j (by omega)).trans (m3 j (by omega)); ⟨q 11 (by decide), q 12 (by decide)⟩), t3.st (fun j a b => jm j (by omega)), by rw [jr, et], (jm 23 (by decide)).trans x3⟩, fun If hW => ?_⟩
      refine bX9_command_95 mo (Nat.zero_le _) (Nat.zero_le _) hE1 ?_
      refine bX9_command_99 mo (Nat.zero_le _) (Nat.zero_le _) hE2 ?_
      refine bX9_command_103 mo (Nat.zero_le _) (Nat.zero_le _) hE3 ?_
      refine bX9_command_108 mo (Nat.zero_le _) (Nat.zero_le _) hE4 ?_
      refine bX9_command_115 mo (fun z => absurd x3 z) (fun _ => ?_)
      refine bX9_command_123 mo (Nat.zero_le _) (Nat.zero_le _) (by rw [ix_t]; exact eX9_puts hm (by omega) _) ?_
      refine bX9_command_138 mo ?_
      refine bX9_command_141 ?_
      refine aw_take 1 ?_
      rw [← hJ]
      exact hW
theorem mC_Limit (hm : mdF Γ m) (hw : wfp w) (hB : rmB I m B n) (ht : tkM B n I m s) (hr : I (m + 1) = w) (h23 : I m 23 = 0) : ∃ J, mdMid B n m I J (uTwo B n (fNm w 135 94 B (nx B n s) (en B n (nx B n s) - nx B n s) (vG w)) 0 30 s (fun g v => up w (132 + g * 94 + 2) (nn v))) ∧ ∀ If, am_W m_X9_command (d + 6) 0 0 false 0 0 264 [(0, .ref m)] [] Γ J L (am_R (.inl none) If L) → am_W m_X9_command (d + 6) 0 0 false 0 0 154 [(0, .ref m)] [] Γ I L (am_R (.inl none) If L) := by
  have mo := hm.1
  have hb := hw.2.2.1.2
  obtain ⟨I1, hE1, t1, fr1⟩ := eX9_go (d := d + 2) (L := L) hm hB ht h23
  have r1 : I1 (m + 1) = w := (fr1.1 _ (by omega)).trans hr
  have b1 := hB.frM fr1
  have x1 : I1 m 23 = 0 := (fr1.2 23 (by decide) (by decide) (by decide) (by decide)).trans h23
  obtain ⟨g1, g2⟩ := eX9_gateHere (d := d + 3) (L := L) hm (by rw [r1]; exact hw) b1 t1 x1
  rw [r1] at g1 g2
  have hge : fNm w 135 94 B (nx B n s) (en B n (nx B n s) - nx B n s) (vG w) ≠ -1 → ∃ t, t < vG w ∧ fNm w 135 94 B (nx B n s) (en B n (nx B n s) - nx B n s) (vG w) = nn t := fNm_ge
  generalize fNm w 135 94 B (nx B n s) (en B n (nx B n s) - nx B n s) (vG w) = v0 at *
  cases hk : pKnown B n v0 (nx B n s) with
  | error e =>
    obtain ⟨c, p⟩ := e
    obtain ⟨I2, hE2, hx, k2, j2⟩ := g2 c p hk
    rw [uTwo_e1 hk]
    refine ⟨I2, ⟨fun k a b c' => (k2 k a (by omega)).trans (fr1.1 k a), fun j a b c' => (j2 j a b (by omega) (by omega)).trans (fr1.2 j (by omega) (by omega) (by omega) (by omega)), hx⟩, fun If hW => ?_⟩
    refine bX9_command_154 mo (Nat.zero_le _) (Nat.zero_le _) hE1 ?_
    refine bX9_command_158 mo (Nat.zero_le _) (Nat.zero_le _) hE2 ?_
    refine bX9_command_162 mo (Nat.zero_le _) (Nat.zero_le _) (eX9_go_x hm hx.1) ?_
    refine bX9_command_167 mo (Nat.zero_le _) (Nat.zero_le _) (eX9_here_x hm hx.1 _ _) ?_
    refine bX9_command_174 mo (fun _ => ?_) (fun z => absurd z (by rw [hx.1]; decide))
    refine bX9_command_201 ?_
    refine aw_take 1 ?_
    exact hW
  | ok p =>
    obtain ⟨s2, v⟩ := p
    obtain ⟨rfl, rfl, hne⟩ := pKnown_ok hk
    obtain ⟨t, htv, rfl⟩ := hge hne
    obtain ⟨I2, hE2, k2, j2⟩ := g1 _ hk
    have et : (nn t : Int32).toNatClampNeg = t := nn_nat (by omega)
    have r2 : I2 (m + 1) = w := (k2 _ (by omega) (by omega)).trans r1
    have x2 : I2 m 23 = 0 := (j2 23 (by decide)).trans x1
    have t2 := t1.st (I' := I2) (fun j _ _ => j2 j (by omega))
    have b2 := b1.st (I' := I2) (j2 9 (by decide)) (k2 _ (by omega) (by omega))
    obtain ⟨I3, hE3, t3, fr3⟩ := eX9_go (d := d + 2) (L := L) hm b2 t2 x2
    have r3 : I3 (m + 1) = w := (fr3.1 _ (by omega)).trans r2
    have x3 : I3 m 23 = 0 := (fr3.2 23 (by decide) (by decide) (by decide) (by decide)).trans x2
    have n3 : ∀ k, k ≠ m → ¬ (m + 8 ≤ k ∧ k ≤ m + 12) → I3 k = I k := fun k a c => (fr3.1 k a).trans ((k2 k a (by omega)).trans (fr1.1 k a))
    have m3 : ∀ j, ¬ (18 ≤ j ∧ j ≤ 22) → I3 m j = I m j := fun j a => (fr3.2 j (by omega) (by omega) (by omega) (by omega)).trans ((j2 j (by omega)).trans (fr1.2 j (by omega) (by omega) (by omega) (by omega)))
    obtain ⟨q1, q2⟩ := eX9_here (d := d + 4) (L := L) hm t3 x3 (lo := 0) (hi := 30) (by decide) (by decide)
    cases hN : pNum B n 0 30 (nx B n (nx B n s)) with
    | error e =>
      obtain ⟨c, p⟩ := e
      have hE4 := q2 c p hN
      obtain ⟨e1, e2, e3, e4, e5⟩ := wrS_at (J := I3) (m := m) (c := c) (s := p)
      rw [uTwo_e2 hk hN]
      refine ⟨wrS I3 m c p, ⟨fun k a b c' => (e4 k a).trans (n3 k a c'), fun j a b c' => (e5 j (by omega) a b).trans (m3 j (by omega)), e1, e2, e3⟩, fun If hW => ?_⟩
      refine bX9_command_154 mo (Nat.zero_le _) (Nat.zero_le _) hE1 ?_
      refine bX9_command_158 mo (Nat.zero_le _) (Nat.zero_le _) hE2 ?_
      refine bX9_command_162 mo (Nat.zero_le _) (Nat.zero_le _) hE3 ?_
      refine bX9_command_167 mo (Nat.zero_le _) (Nat.zero_le _) hE4 ?_
      refine bX9_command_174 mo (fun _ => ?_) (fun z => absurd z (by rw [e1]; decide))
      refine bX9_command_201 ?_
      refine aw_take 1 ?_
      exact hW
    | ok q =>
      have hE4 := q1 (pNum_ok hN)
      rw [uTwo_ok hk hN]
      obtain ⟨J, hJ⟩ : ∃ J, J = am_u (am_u I3 (m + 1) (132 + t * 94 + 2) (nn (vl B n (nx B n (nx B n s))))) m 24 (I3 (m + 1) (132 + t * 94 + 2)) := ⟨_, rfl⟩
      have jm : ∀ j, j ≠ 24 → J m j = I3 m j := fun j hj => by rw [hJ, at1, if_neg hj, am_u_ne (by omega)]
      have jr : J (m + 1) = up w (132 + t * 94 + 2) (nn (vl B n (nx B n (nx B n s)))) := by rw [hJ, am_u_ne (by omega), am_u_up, r3]
      refine ⟨J, ⟨fun k a b c' => by rw [hJ, am_u_ne a, am_u_ne b]; exact n3 k a c', fun j a b c' => (jm j (by omega)).trans (m3 j (by omega)), (have q : ∀ j, ¬ (18 ≤ j ∧ j ≤ 24) → J m j = I m j := fun j c' => (jm j (by omega)).trans (m3 j (by omega)); ⟨q 11 (by decide), q 12 (by decide)⟩), t3.st (fun j a b => jm j (by omega)), by rw [jr, et], (jm 23 (by decide)).trans x3⟩, fun If hW => ?_⟩
      refine bX9_command_154 mo (Nat.zero_le _) (Nat.zero_le _) hE1 ?_
      refine bX9_command_158 mo (Nat.zero_le _) (Nat.zero_le _) hE2 ?_
      refine bX9_command_162 mo (Nat.zero_le _) (Nat.zero_le _) hE3 ?_
      refine bX9_command_167 mo (Nat.zero_le _) (Nat.zero_le _) hE4 ?_
      refine bX9_command_174 mo (fun z => absurd x3 z) (fun _ => ?_)
      refine bX9_command_182 mo (Nat.zero_le _) (Nat.zero_le _) (by rw [ix_g2]; exact eX9_puts hm (by omega) _) ?_
      refine bX9_command_198 mo ?_
      refine bX9_command_201 ?_
      refine aw_take 1 ?_
      rw [← hJ]
      exact hW
end MC1
