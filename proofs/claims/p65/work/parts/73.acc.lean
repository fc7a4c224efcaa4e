/-! THE DRAFT ACCEPTED: the class -/
section AC
variable {d : Nat} {Γ : am_G} {I : am_I} {L : am_L} {w w' : Nat → Int32}
theorem eX8_acceptDraft (hF : wF Γ) {o s : Nat} (h1 : I 83 1 = nn o) (h2 : I 83 2 = nn s) (ho : o < 8) (hs8 : s ≤ 8) (hw : wfp w) (hst : stR I L 9 w) (hw' : wfp w') (hdr : stR I L 45 w') : ∃ I1 L1 I2 L2, am_E m_X8_acceptDraft (d + 4) 0 0 [.ref 0] Γ I L (.inl none) I2 L2 ∧
    (I1 83 1 = nn (if s = 8 then (o + 1) % 8 else o) ∧ I1 83 2 = nn (if s = 8 then 8 else s + 1) ∧ stEq I I1 L L1 (hs 83 ((if s = 8 then o else o + s) % 8)) 9 (vG w) ∧ (∀ c, c ≠ 83 → (c < hs 83 ((if s = 8 then o else o + s) % 8) ∨ hs 83 ((if s = 8 then o else o + s) % 8) + 36 ≤ c) → I1 c = I c) ∧ frL (hs 83 ((if s = 8 then o else o + s) % 8)) (hs 83 ((if s = 8 then o else o + s) % 8) + 36) L L1) ∧
    stR I2 L2 9 w' ∧ (∀ c, c < 9 ∨ 45 ≤ c → I2 c = I1 c) ∧ ∀ c, c < 9 ∨ 45 ≤ c → L2 c = L1 c := by
  obtain ⟨⟨ox, f0, f1, f2, f3, f4, f5, f6, f7⟩, so, st, dr, ⟨ro, rr0, rr5, rr6, ra⟩, hi, -⟩ := id hF
  obtain ⟨ho83, -⟩ := id hi
  obtain ⟨ob, -⟩ := id st
  have g4 := hw.2.2.1.2
  have g4' := hw'.2.2.1.2
  obtain ⟨I1, L1, hE, p1, p2, p3, p4, p5⟩ := eX1_remember (d := d) (L := L) hi st (Or.inl (by decide)) h1 h2 ho hs8 (hst.1.2.2.1.trans hw.2.2.1.1) g4
  have hE2 : ∀ i, hs 83 i = 83 + (2 + 36 * i) := fun _ => rfl
  have hh := hE2 ((if s = 8 then o else o + s) % 8)
  have d1 : stR I1 L1 45 w' := hdr.fr g4' (fun c a b => p4 c (by omega) (by omega)) (fun c a b => p5 c (by omega))
  obtain ⟨I2, L2, hP, sE, gI, gL⟩ := eX5_copyFrom (d := d + 1) (I := I1) (L := L1) (a := 9) (b := 45) st dr (Or.inl (by decide)) (d1.1.2.2.1.trans hw'.2.2.1.1) g4'
  refine ⟨I1, L1, I2, L2, am_ofE rfl rfl rfl (Nat.le_of_ble_eq_true rfl) ?_, ⟨p1, p2, p3, p4, p5⟩, d1.cp hw' sE, fun c hc => gI c (by omega), fun c hc => gL c (by omega)⟩
  refine bX8_acceptDraft_0 ox f4 f1 ho83 (Nat.zero_le _) (Nat.zero_le _) hE ?_
  refine bX8_acceptDraft_11 ox f1 f2 ob (Nat.zero_le _) (Nat.zero_le _) hP ?_
  refine bX8_acceptDraft_22 ?_
  exact ⟨rfl, rfl, rfl⟩
end AC
