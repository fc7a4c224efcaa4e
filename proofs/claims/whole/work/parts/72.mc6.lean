/-! THE TEXT'S COMMANDS: the model, to its answer -/
section MC6
variable {d : Nat} {Γ : am_G} {L : am_L} {B : Nat → Nat} {n m : Nat}
theorem eX9_commands (hm : mdF Γ m) {f s c : Nat} {w : Nat → Int32} {J : am_I} (hw : wfs w) (hB : rmB J m B n) (ht : tkM B n J m s) (hr : J (m + 1) = w) (h23 : J m 23 = 0) (hf : n < f + s) (hc : J m 5 = nn c) (h8 : c ≤ 8) : ∃ J' v, mdAll m J J' (uAll B n f s w 0) v ∧
    ((∀ w' k', uAll B n f s w 0 = .ok (w', k') → ∃ I', am_E m_X9_commands (d + 263) 0 0 [.ref m] Γ J L (.inl (some (.int (nn k')))) I' L ∧ kpt (am_u J' m 9 0) I' m (m + 4) c) ∧
     (∀ e, uAll B n f s w 0 = .error e → am_E m_X9_commands (d + 263) 0 0 [.ref m] Γ J L (.inl (some (.int (-1)))) (am_cI (am_u J' m 9 0) (m + 4) (m + 1) 0 0 508) L)) := by
  obtain ⟨mo, r0, r1, r2, r3, r4, r7, r8, r13, r14, r15, r16, r17, a1, a2, a3, a4, a5, a6, a7, a8, a9, a10, a11, a12⟩ := id hm
  obtain ⟨J', v, hA, K⟩ := eX9_commands_go (d := d) (L := L) hm f (k := 0) hw hB ht hr h23 hf
  refine ⟨J', v, hA, fun w' k' hU => ?_, fun e hU => ?_⟩
  · obtain ⟨f1, f2, f3⟩ := hA
    rw [hU] at f3
    obtain ⟨-, p1, p2, p3, p4⟩ := f3
    have x23 : am_u J' m 9 0 m 23 = 0 := by rw [at1, if_neg (by decide)]; exact p2
    obtain ⟨I', hE, hK⟩ := eX9_remember (d := d + 261) (L := L) (I := am_u J' m 9 0) (m := m) (ρ := m + 4) (c := c) hm (by assumption) (by omega) (by omega) (by rw [at1, if_neg (by decide), f2 5 (by decide) (by decide) (by decide)]; exact hc) h8
    have y23 : I' m 23 = 0 := (hK.2.2.2 23 (by decide)).trans x23
    refine ⟨I', am_ofE rfl rfl rfl (Nat.le_of_ble_eq_true rfl) ?_, hK⟩
    refine bX9_commands_0 ?_
    refine K _ _ ?_
    refine bX9_commands_26 mo (fun _ => ?_) (fun z => absurd x23 z)
    refine bX9_commands_54 mo (by assumption) (Nat.zero_le _) (Nat.zero_le _) hE ?_
    refine bX9_commands_62 mo (fun _ => ?_) (fun z => absurd y23 z)
    refine bX9_commands_73 ?_
    refine bX9_commands_74 ?_
    exact am_R_e p3 rfl rfl
  · obtain ⟨f1, f2, f3⟩ := hA
    rw [hU] at f3
    have x23 : am_u J' m 9 0 m 23 = 1 := by rw [at1, if_neg (by decide)]; exact f3.1
    have y23 : am_cI (am_u J' m 9 0) (m + 4) (m + 1) 0 0 508 m 23 = 1 := by rw [am_cI_at, if_neg (fun z => by omega)]; exact x23
    refine am_ofE rfl rfl rfl (Nat.le_of_ble_eq_true rfl) ?_
    refine bX9_commands_0 ?_
    refine K _ _ ?_
    refine bX9_commands_26 mo (fun z => absurd z (by rw [x23]; decide)) (fun _ => ?_)
    refine bX9_commands_38 mo (by assumption) (by assumption) (Nat.zero_le _) (Nat.zero_le _) (eX9_copy (s := 0) (e := 0) a4 a1 (by decide) (by decide) (by decide) (by decide)) ?_
    refine bX9_commands_51 ?_
    refine bX9_commands_62 mo (fun z => absurd z (by rw [y23]; decide)) (fun _ => ?_)
    refine bX9_commands_69 ?_
    refine bX9_commands_74 ?_
    exact ⟨rfl, rfl, rfl⟩
end MC6
