/-! CLASS AND MODEL SIDE BY SIDE: nodeCount -/
section FN
variable {Γ : am_G} {I : am_I} {L : am_L}
theorem fX_nodeCount (hF : wF Γ) (R : REL I L) (p0 : Int32) : gX Γ I L m_X8_nodeCount m_X9_nodeCount [.int p0] ["java/lang/IndexOutOfBoundsException"] := by
  obtain ⟨⟨o, f0, f1, f2, f3, f4, f5, f6, f7⟩, so, st, dr, ⟨ro, rr0, rr5, rr6, ra⟩, hi, sv, ⟨oo, or0, or2, oa, oa2⟩, hm, am, am2⟩ := id hF
  obtain ⟨ob, s4, s5, s6, s7, s8, s9, s10, b1, b2, b3, b4, b5, b6, o7, hg⟩ := id st
  obtain ⟨mo, r0, r1, r2, r3, r4, r7, r8, r13, r14, r15, r16, r17, a1, a2, a3, a4, a5, a6, a7, a8, a9, a10, a11, a12⟩ := id hm
  obtain ⟨⟨n0, n1, n2, n3⟩, ⟨w0, w1, w2⟩, q6, t8, g4, q0, t0, g0⟩ := R.nums
  have hJ : ∀ v : Int32, am_u I 450 6 v 451 = I 451 := fun v => am_u_ne (by decide)
  by_cases c0 : ∃ g, g < vG (I 451) ∧ p0 = nn g
  case neg =>
    refine ⟨I, L, am_u I 450 6 1, .inr "java/lang/IndexOutOfBoundsException", 0, am_ofE rfl rfl rfl (Nat.le_of_ble_eq_true rfl) ?_, am_ofE rfl rfl rfl (Nat.le_of_ble_eq_true rfl) ?_, R.thr 1, Or.inr ⟨0, _, rfl, rfl, by rw [am_u_at, if_pos ⟨rfl, rfl⟩]; rfl⟩⟩
    · refine bX8_nodeCount_0x (by assumption) (by decide) (by decide) (eX8_requireGate_f hF n2 c0 (by omega)) ?_
      exact ⟨rfl, rfl, rfl⟩
    · refine bX9_nodeCount_0 (by assumption) (Nat.zero_le _) (Nat.zero_le _) (eX9_noGate_f hm w2 c0 (by omega)) ?_
      refine bX9_nodeCount_6 (by assumption) (Nat.zero_le _) (Nat.zero_le _) (eX9_fails1 hm) ?_
      refine bX9_nodeCount_11 (fun h => absurd h (by decide)) (fun _ => ?_)
      refine bX9_nodeCount_14 ?_
      refine bX9_nodeCount_25 ?_
      exact ⟨rfl, rfl, rfl⟩
  obtain ⟨g, hg0, rfl⟩ := c0
  have hg' := hg0
  obtain ⟨hg1, hgg⟩ := hg g (by omega)
  obtain ⟨og, gg4, gg5, ga, tr⟩ := id hgg
  obtain ⟨ot, tr1, tr2, tr3, tr4, ta1, ta2, ta3, ta4⟩ := id tr
  obtain ⟨y0, y1, y2, y3, y4, y5, y6⟩ := R.2.1.2.2.2.2 g hg'
  obtain ⟨e, e15, e0, ee, ew, ec, tw, h6, tok, sets⟩ := R.gate hg'
  have md : mda (I 451) g (vQ (I 451)) (vT (I 451)) (qcW (I 451)) (tyW (I 451)) (tlW (I 451)) (ctW (I 451) g) := R.1.1.mda t0 hg'
  have gE : gc 9 g = 9 + (8 + 7 * g) := rfl
  refine ⟨I, L, am_u I 450 6 0, .inl (some (.int (I 451 (132 + g * 94 + 18)))), (I 451 (132 + g * 94 + 18)), am_ofE rfl rfl rfl (Nat.le_of_ble_eq_true rfl) ?_, am_ofE rfl rfl rfl (Nat.le_of_ble_eq_true rfl) ?_, R.thr 0, Or.inl ⟨rfl, by rw [am_u_at, if_pos ⟨rfl, rfl⟩]⟩⟩
  · refine bX8_nodeCount_0 (by assumption) (Nat.zero_le _) (Nat.zero_le _) (eX8_requireGate_t (mc := 0) (ms := 0) hF n2 (by assumption) (by omega)) ?_
    refine bX8_nodeCount_5 o f1 ob s9 b6 (nn_in (by omega) (by omega)) (by rw [nn_nat (by omega)]; exact hg1) og gg5 ot ?_
    exact am_R_e y5 rfl rfl
  · refine bX9_nodeCount_0 (by assumption) (Nat.zero_le _) (Nat.zero_le _) (eX9_noGate_t hm w2 (by assumption) (by omega)) ?_
    refine bX9_nodeCount_6 (by assumption) (Nat.zero_le _) (Nat.zero_le _) (eX9_fails0 hm) ?_
    refine bX9_nodeCount_11 (fun _ => ?_) (fun h => absurd (by decide) h)
    refine bX9_nodeCount_18 (by assumption) (Nat.zero_le _) (Nat.zero_le _) (eX9_ofGate (k := 18) hm (by omega) (by decide)) ?_
    refine bX9_nodeCount_25 ?_
    exact am_R_e (by rw [hJ]) rfl rfl
end FN
