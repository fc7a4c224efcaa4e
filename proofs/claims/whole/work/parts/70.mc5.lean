/-! THE TEXT'S COMMANDS: all of them, the model -/
def mdAll (m : Nat) (J J' : am_I) (o : Except (Nat × Nat) ((Nat → Int32) × Nat)) (v : Int32) : Prop := (∀ k, k ≠ m → k ≠ m + 1 → ¬ (m + 8 ≤ k ∧ k ≤ m + 12) → J' k = J k) ∧ (∀ j, j ≠ 11 → j ≠ 12 → ¬ (18 ≤ j ∧ j ≤ 24) → J' m j = J m j) ∧ match o with
  | .ok (w', k') => (J' m 11 = J m 11 ∧ J' m 12 = J m 12) ∧ J' (m + 1) = w' ∧ J' m 23 = 0 ∧ v = nn k' ∧ wfs w'
  | .error (c, p) => J' m 23 = 1 ∧ J' m 11 = nn c ∧ J' m 12 = nn p
theorem mdAll.pre {m : Nat} {J J1 J' : am_I} {o : Except (Nat × Nat) ((Nat → Int32) × Nat)} {v : Int32} (h : mdAll m J1 J' o v) (f1 : ∀ k, k ≠ m → k ≠ m + 1 → ¬ (m + 8 ≤ k ∧ k ≤ m + 12) → J1 k = J k) (f2 : ∀ j, j ≠ 11 → j ≠ 12 → ¬ (18 ≤ j ∧ j ≤ 24) → J1 m j = J m j) (kq : J1 m 11 = J m 11 ∧ J1 m 12 = J m 12) : mdAll m J J' o v := by
  obtain ⟨a1, a2, a3⟩ := h
  refine ⟨fun k a b c => (a1 k a b c).trans (f1 k a b c), fun j a b c => (a2 j a b c).trans (f2 j a b c), ?_⟩
  cases o with
  | error e => exact a3
  | ok q => exact ⟨⟨a3.1.1.trans kq.1, a3.1.2.trans kq.2⟩, a3.2⟩
section MC5
variable {d : Nat} {Γ : am_G} {L : am_L} {B : Nat → Nat} {n m : Nat}
theorem eX9_commands_go (hm : mdF Γ m) : ∀ (f : Nat) {s k : Nat} {w : Nat → Int32} {J : am_I}, wfs w → rmB J m B n → tkM B n J m s → J (m + 1) = w → J m 23 = 0 → n < f + s → ∃ J' v, mdAll m J J' (uAll B n f s w k) v ∧ ∀ r If, am_W m_X9_commands (d + 263) 0 0 false 0 0 26 [(0, .ref m), (1, .int v)] [] Γ J' L (am_R r If L) → am_W m_X9_commands (d + 263) 0 0 false 0 0 2 [(0, .ref m), (1, .int (nn k))] [] Γ J L (am_R r If L)
  | 0, s, k, w, J, _, _, ht, _, _, hf => by
    have := ht.1
    omega
  | f + 1, s, k, w, J, hw, hB, ht, hr, h23, hf => by
    have mo := hm.1
    have hk4 := kd_le B n s
    have l3 : (J m 19 = 0) ↔ kd B n s = 3 := (ht.k19 (k := 0) (by decide)).trans (kdM_0 hk4)
    by_cases h3 : kd B n s = 3
    · rw [uAll_3 h3]
      refine ⟨J, nn k, ⟨fun _ _ _ _ => rfl, fun _ _ _ _ => rfl, ⟨rfl, rfl⟩, hr, h23, rfl, hw⟩, fun r If hW => ?_⟩
      refine bX9_commands_2 mo (fun _ => hW) (fun _ => ?_)
      exact bX9_commands_9 mo (fun _ => hW) (fun z => absurd (l3.mpr h3) z)
    · obtain ⟨J1, hE, f1, f2, f3⟩ := eX9_command (d := d) (L := L) hm hw.1 hw.2.2.1 hB ht hr h23
      have wrong : ∀ e : Nat × Nat, uStep B n w s = .error e → uAll B n (f + 1) s w k = .error e → ∃ J' v, mdAll m J J' (uAll B n (f + 1) s w k) v ∧ ∀ r If, am_W m_X9_commands (d + 263) 0 0 false 0 0 26 [(0, .ref m), (1, .int v)] [] Γ J' L (am_R r If L) → am_W m_X9_commands (d + 263) 0 0 false 0 0 2 [(0, .ref m), (1, .int (nn k))] [] Γ J L (am_R r If L) := by
        intro e hS hA
        obtain ⟨c, p⟩ := e
        rw [hS] at f3
        rw [hA]
        refine ⟨J1, nn k + 1, ⟨f1, f2, f3⟩, fun r If hW => ?_⟩
        refine bX9_commands_2 mo (fun z => absurd h23 z) (fun _ => ?_)
        refine bX9_commands_9 mo (fun z => absurd (l3.mp z) h3) (fun _ => ?_)
        refine bX9_commands_16 mo (Nat.zero_le _) (Nat.zero_le _) hE ?_
        refine bX9_commands_20 ?_
        exact bX9_commands_2 mo (fun _ => hW) (fun z => absurd z (by rw [f3.1]; decide))
      cases hU : uCmd B n w s with
      | error e => exact wrong e (uStep_e hU) (uAll_e h3 hU)
      | ok q =>
        obtain ⟨s', w'⟩ := q
        by_cases h2 : kd B n (nx B n s') = 2
        · have hS : uStep B n w s = .ok (nx B n (nx B n s'), w') := by rw [uStep_s hU, if_pos h2]
          rw [hS] at f3
          obtain ⟨kq, t1, r1, x1⟩ := f3
          have B1 := hB.st (I' := J1) (f2 9 (by decide) (by decide) (by decide)) (f1 _ (by omega) (by omega) (by omega))
          obtain ⟨ge1, ge2⟩ := uCmd_ge ht.1 hU
          have n1 := nx_le (B := B) ge2
          obtain ⟨g1, g2⟩ := kd2_nx h2
          obtain ⟨J', v, hA, K⟩ := eX9_commands_go hm f (k := k + 1) (uCmd_wfs hw hU) B1 t1 r1 x1 (by omega)
          rw [uAll_s h3 hU, if_pos h2]
          refine ⟨J', v, hA.pre f1 f2 kq, fun r If hW => ?_⟩
          refine bX9_commands_2 mo (fun z => absurd h23 z) (fun _ => ?_)
          refine bX9_commands_9 mo (fun z => absurd (l3.mp z) h3) (fun _ => ?_)
          refine bX9_commands_16 mo (Nat.zero_le _) (Nat.zero_le _) hE ?_
          refine bX9_commands_20 ?_
          rw [nn_s1]
          exact K r If hW
        · exact wrong (1, nx B n s') (by rw [uStep_s hU, if_neg h2]) (by rw [uAll_s h3 hU, if_neg h2])
end MC5
