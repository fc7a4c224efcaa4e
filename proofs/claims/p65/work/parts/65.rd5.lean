/-! THE TEXT'S COMMANDS: all of them, the class -/
section UA
variable {B : Nat → Nat} {n s : Nat} {w : Nat → Int32}
theorem nx_le (h : s ≤ n) : s ≤ nx B n s ∧ nx B n s ≤ n := by
  have e := en_le (B := B) h
  have k := scn_le (B := B) (n := n) (p := fun c => decide (c = 32)) (s := en B n s) e.2
  unfold nx skp
  omega
theorem kd2_nx (h : kd B n s = 2) : s < n ∧ s < nx B n s := by
  have hs : s < n := by
    unfold kd at h
    by_cases h1 : n ≤ s
    · rw [if_pos h1] at h; omega
    · omega
  have e : en B n s = s + 1 := by
    unfold kd at h
    rw [if_neg (by omega)] at h
    unfold kc at h
    unfold en
    rw [if_neg (by omega)]
    by_cases h2 : isL (B s) = true
    · rw [if_pos h2] at h; omega
    · rw [if_neg h2] at h ⊢
      by_cases h3 : isD (B s) = true
      · rw [if_pos h3] at h; omega
      · rw [if_neg h3]
  have k := scn_le (B := B) (n := n) (p := fun c => decide (c = 32)) (s := en B n s) (en_le (by omega)).2
  refine ⟨hs, ?_⟩
  unfold nx skp
  omega
theorem uCmd_ge (hs : s ≤ n) {s' : Nat} {w' : Nat → Int32} (h : uCmd B n w s = .ok (s', w')) : s ≤ s' ∧ s' ≤ n := by
  have a1 := nx_le (B := B) hs
  have a2 := nx_le (B := B) a1.2
  have a3 := nx_le (B := B) a2.2
  unfold uCmd at h
  by_cases h5 : wd B n s 5 = true
  · rw [if_pos h5] at h
    cases hk : pKnown B n (fNm w 135 94 B (nx B n s) (en B n (nx B n s) - nx B n s) (vG w)) (nx B n s) with
    | error e => rw [uPas_1 hk] at h; cases h
    | ok q =>
      cases hk2 : pKnown B n (fNm w 62 9 B (nx B n (nx B n s)) (en B n (nx B n (nx B n s)) - nx B n (nx B n s)) (vT w)) (nx B n (nx B n s)) with
      | error e => rw [uPas_2 hk hk2] at h; cases h
      | ok q2 =>
        cases hN : pNum B n 1 999 (nx B n (nx B n (nx B n s))) with
        | error e => rw [uPas_3 hk hk2 hN] at h; cases h
        | ok q3 =>
          cases ho : oNow w q.2.toNatClampNeg with
          | false => rw [uPas_4 hk hk2 hN ho] at h; cases h
          | true =>
            rw [uPas_5 hk hk2 hN ho] at h
            cases h
            exact ⟨by omega, a3.2⟩
  rw [if_neg h5] at h
  by_cases h6 : wd B n s 6 = true
  · rw [if_pos h6] at h
    obtain ⟨-, rfl, -⟩ := uOne_in h
    exact a1
  rw [if_neg h6] at h
  by_cases h7 : wd B n s 7 = true
  · rw [if_pos h7] at h
    obtain ⟨-, rfl, -⟩ := uOne_in h
    exact a1
  rw [if_neg h7] at h
  by_cases h8 : wd B n s 8 = true
  · rw [if_pos h8] at h
    obtain ⟨-, rfl, -⟩ := uTwo_in h
    exact ⟨by omega, a2.2⟩
  rw [if_neg h8] at h
  by_cases h9 : wd B n s 9 = true
  · rw [if_pos h9] at h
    obtain ⟨-, rfl, -⟩ := uTwo_in h
    exact ⟨by omega, a2.2⟩
  rw [if_neg h9] at h
  by_cases h10 : wd B n s 10 = true
  · rw [if_pos h10] at h
    cases hN : pNum B n 1 (min (9999 - vC w) 100) (nx B n s) with
    | error e => rw [uHrs_e hN] at h; cases h
    | ok q =>
      rw [uHrs_ok hN] at h
      cases h
      exact a1
  · rw [if_neg h10] at h
    cases h
end UA
/-- all commands from s on: the row and how many, or the fault -/
noncomputable def uAll (B : Nat → Nat) (n : Nat) : Nat → Nat → (Nat → Int32) → Nat → Except (Nat × Nat) ((Nat → Int32) × Nat)
  | 0, _, w, k => .ok (w, k)
  | f + 1, s, w, k => if kd B n s = 3 then .ok (w, k) else match uCmd B n w s with
    | .error e => .error e
    | .ok (s', w') => if kd B n (nx B n s') = 2 then uAll B n f (nx B n (nx B n s')) w' (k + 1) else .error (1, nx B n s')
theorem uAll_3 {B : Nat → Nat} {n f s k : Nat} {w : Nat → Int32} (h : kd B n s = 3) : uAll B n (f + 1) s w k = .ok (w, k) := by
  unfold uAll
  rw [if_pos h]
theorem uAll_e {B : Nat → Nat} {n f s k : Nat} {w : Nat → Int32} {e : Nat × Nat} (h : ¬ kd B n s = 3) (h2 : uCmd B n w s = .error e) : uAll B n (f + 1) s w k = .error e := by
  unfold uAll
  rw [if_neg h, h2]
theorem uAll_s {B : Nat → Nat} {n f s k s' : Nat} {w w' : Nat → Int32} (h : ¬ kd B n s = 3) (h2 : uCmd B n w s = .ok (s', w')) : uAll B n (f + 1) s w k = if kd B n (nx B n s') = 2 then uAll B n f (nx B n (nx B n s')) w' (k + 1) else .error (1, nx B n s') := by
  conv => lhs; unfold uAll
  rw [if_neg h, h2]
def okA (o : Except (Nat × Nat) ((Nat → Int32) × Nat)) : Int32 := match o with
  | .ok _ => 1
  | .error _ => 0
/-- as frD, but for the count of commands -/
def frE (I I' : am_I) (L L' : am_L) : Prop := (∀ k, 9 ≤ k → ¬ (45 ≤ k ∧ k < 82) → I' k = I k) ∧ (∀ j, j ≠ 2 → j ≠ 3 → j ≠ 4 → j ≠ 7 → j ≠ 8 → j ≠ 9 → j ≠ 11 → I' 81 j = I 81 j) ∧ ∀ k, 9 ≤ k → ¬ (45 ≤ k ∧ k < 82) → L' k = L k
theorem frD.frE {I I' : am_I} {L L' : am_L} (h : frD I I' L L') : frE I I' L L' := ⟨h.1, fun j a b _ c d e f => h.2.1 j a b c d e f, h.2.2⟩
theorem frE.tr {I I1 I2 : am_I} {L L1 L2 : am_L} (h : frE I I1 L L1) (h2 : frE I1 I2 L1 L2) : frE I I2 L L2 := ⟨fun k a b => (h2.1 k a b).trans (h.1 k a b), fun j a b c d e f g => (h2.2.1 j a b c d e f g).trans (h.2.1 j a b c d e f g), fun k a b => (h2.2.2 k a b).trans (h.2.2 k a b)⟩
def allOut (B : Nat → Nat) (n : Nat) (I' : am_I) (L' : am_L) (o : Except (Nat × Nat) ((Nat → Int32) × Nat)) : Prop := match o with
  | .ok (w', k') => wfs w' ∧ stR I' L' 45 w' ∧ I' 81 4 = nn k'
  | .error (c, p) => I' 81 2 = nn c ∧ I' 81 3 = nn p
def kpO (I I' : am_I) (o : Except (Nat × Nat) ((Nat → Int32) × Nat)) : Prop := match o with
  | .ok _ => kpC I I'
  | .error _ => True
theorem kpO.pre {I J I' : am_I} {o : Except (Nat × Nat) ((Nat → Int32) × Nat)} (h : kpO J I' o) (h2 : kpC I J) : kpO I I' o := by
  cases o with
  | error e => trivial
  | ok q => exact h2.tr h
section RD5
variable {d : Nat} {Γ : am_G} {B : Nat → Nat} {n : Nat}
theorem eX3_readCommands_go (hF : cF Γ) : ∀ (f : Nat) {s k : Nat} {w : Nat → Int32} {I : am_I} {L : am_L}, wfs w → clR B n I L s w → I 81 4 = nn k → k ≤ s → n < f + s → ∃ I' L', am_W m_X3_readCommands (d + 7) 0 0 false 0 0 2 [(0, .ref 81), (1, .int (nn k))] [] Γ I L (am_R (.inl (some (.int (okA (uAll B n f s w k))))) I' L') ∧ allOut B n I' L' (uAll B n f s w k) ∧ frE I I' L L' ∧ kpO I I' (uAll B n f s w k)
  | 0, s, k, w, I, L, _, hc, _, _, hf => by
    have := hc.2.1.1
    omega
  | f + 1, s, k, w, I, L, hw, hc, h4, hk, hf => by
    obtain ⟨-, -, -, -, ⟨ro, rr0, rr5, rr6, ra⟩, -⟩ := id hF
    obtain ⟨hB, ht, hs⟩ := id hc
    have n7 := hB.1
    have sn := ht.1
    have hk4 := kd_le B n s
    have l3 : (I 81 7 = 3) ↔ kd B n s = 3 := by rw [ht.2.2.1]; exact nn_eq (b := 3) (by omega) (by decide)
    have nar : ∀ o, narrow .boolean (.int (okA o)) = .int (okA o) := fun o => by cases o; exact bi_hz false; exact bi_hz true
    have head : ∀ (I' : am_I) (L' : am_L) (r : Int32), (kd B n s = 3 → am_W m_X3_readCommands (d + 7) 0 0 false 0 0 49 [(0, .ref 81), (1, .int (nn k))] [] Γ I L (am_R (.inl (some (.int r))) I' L')) → (¬ kd B n s = 3 → am_W m_X3_readCommands (d + 7) 0 0 false 0 0 17 [(0, .ref 81), (1, .int (nn k))] [] Γ I L (am_R (.inl (some (.int r))) I' L')) → am_W m_X3_readCommands (d + 7) 0 0 false 0 0 2 [(0, .ref 81), (1, .int (nn k))] [] Γ I L (am_R (.inl (some (.int r))) I' L') := by
      intro I' L' r y1 y2
      refine bX3_readCommands_2 (fun z => absurd z (by show ¬ nn 700 < nn k; rw [nn_lt (by decide) (by omega)]; omega)) (fun _ => ?_)
      refine bX3_readCommands_9 ro (fun z => y1 (l3.mp z)) (fun z => y2 (fun q => z (l3.mpr q)))
    by_cases h3 : kd B n s = 3
    · rw [uAll_3 h3]
      refine ⟨I, L, head _ _ _ (fun _ => ?_) (fun z => absurd h3 z), ⟨hw, hs, h4⟩, ⟨fun _ _ _ => rfl, fun _ _ _ _ _ _ _ _ => rfl, fun _ _ _ => rfl⟩, rfl, rfl⟩
      refine bX3_readCommands_49 ?_
      exact ⟨rfl, rfl, rfl⟩
    · obtain ⟨I1, L1, hE, hO⟩ := eX3_readCommand (d := d) hF hw.1 hw.2.2.1 hc
      cases hU : uCmd B n w s with
      | error e =>
        rw [hU] at hE hO
        obtain ⟨o1, o2⟩ := hO
        rw [uAll_e h3 hU]
        refine ⟨I1, L1, head _ _ _ (fun z => absurd z h3) (fun _ => ?_), o2, o1.frE, trivial⟩
        refine bX3_readCommands_17 ro (Nat.zero_le _) (Nat.zero_le _) hE ?_
        refine bX3_readCommands_21 (fun _ => ?_) (fun z => absurd rfl z)
        refine bX3_readCommands_31 ?_
        exact ⟨rfl, rfl, rfl⟩
      | ok p =>
        obtain ⟨s', w'⟩ := p
        rw [hU] at hE hO
        obtain ⟨o1, okp, o2⟩ := hO
        have hw' := uCmd_wfs hw hU
        obtain ⟨ge1, ge2⟩ := uCmd_ge sn hU
        have n1 := nx_le (B := B) ge2
        rw [uAll_s h3 hU]
        obtain ⟨I2, L2, hE2, hO2⟩ := eX3_takeSemicolon (d := d + 4) (Γ := Γ) ro rr0 ra o2.1 o2.2.1
        by_cases h2 : kd B n (nx B n s') = 2
        · have ep : pSem B n (nx B n s') = .ok (nx B n (nx B n s'), 1) := by unfold pSem; rw [if_pos h2]
          rw [ep] at hO2
          rw [decide_eq_true h2] at hE2
          obtain ⟨t2, fr2⟩ := hO2
          have c2 := o2.frC hw'.1 t2 fr2
          obtain ⟨g1, g2⟩ := kd2_nx h2
          obtain ⟨J, hJ⟩ : ∃ J, J = am_u I2 81 4 (nn (k + 1)) := ⟨_, rfl⟩
          have j4 : J 81 4 = nn (k + 1) := by rw [hJ, am_u_at, if_pos ⟨rfl, rfl⟩]
          have jk : ∀ c, c ≠ 81 → J c = I2 c := fun c hc => by rw [hJ, am_u_ne hc]
          have jj : ∀ j, j ≠ 4 → J 81 j = I2 81 j := fun j hj => by rw [hJ, am_u_at, if_neg (fun z => hj z.2)]
          have i4 : I2 81 4 = nn k := by rw [fr2.2.1 4 (by decide) (by decide) (by decide) (by decide), o1.2.1 4 (by decide) (by decide) (by decide) (by decide) (by decide) (by decide)]; exact h4
          obtain ⟨x1, x2, x3, x4, x5, x6⟩ := c2.2.1
          have cJ : clR B n J L2 (nx B n (nx B n s')) w' := ⟨⟨c2.1.1, (jj 1 (by decide)).trans c2.1.2.1, fun j hj => by rw [jk 82 (by decide)]; exact c2.1.2.2 j hj⟩, ⟨x1, (jj 8 (by decide)).trans x2, (jj 7 (by decide)).trans x3, (jj 9 (by decide)).trans x4, x5, fun z => by rw [jj 11 (by decide)]; exact x6 z⟩, c2.2.2.fr hw'.1.2.2.1.2 (fun c a b => jk c (by omega)) (fun _ _ _ => rfl)⟩
          obtain ⟨I', L', hW, hP, hR, hK⟩ := eX3_readCommands_go hF f hw' cJ j4 (by omega) (by omega)
          rw [if_pos h2]
          refine ⟨I', L', head _ _ _ (fun z => absurd z h3) (fun _ => ?_), hP, ((o1.frE.tr fr2.frD.frE).tr (⟨fun c a b => jk c (by omega), fun j _ _ e _ _ _ _ => jj j e, fun _ _ _ => rfl⟩ : frE I2 J L2 L2)).tr hR, hK.pre ((okp.tr fr2.kp).tr ⟨jj 2 (by decide), jj 3 (by decide)⟩)⟩
          refine bX3_readCommands_17 ro (Nat.zero_le _) (Nat.zero_le _) hE ?_
          refine bX3_readCommands_21 (fun z => absurd z (show ¬ (1 : Int32) = 0 by decide)) (fun _ => ?_)
          refine bX3_readCommands_24 ro (Nat.zero_le _) (Nat.zero_le _) hE2 ?_
          refine bX3_readCommands_28 (fun _ => ?_) (fun z => absurd z (by decide))
          refine bX3_readCommands_33 ro ?_
          rw [i4, nn_s1, ← hJ]
          exact hW
        · have ep : pSem B n (nx B n s') = .error (1, nx B n s') := by unfold pSem; rw [if_neg h2]
          rw [ep] at hO2
          rw [decide_eq_false h2] at hE2
          obtain ⟨e1, e2⟩ := cOut.frD hO2
          rw [if_neg h2]
          refine ⟨I2, L2, head _ _ _ (fun z => absurd z h3) (fun _ => ?_), e2, (o1.tr e1).frE, trivial⟩
          refine bX3_readCommands_17 ro (Nat.zero_le _) (Nat.zero_le _) hE ?_
          refine bX3_readCommands_21 (fun z => absurd z (show ¬ (1 : Int32) = 0 by decide)) (fun _ => ?_)
          refine bX3_readCommands_24 ro (Nat.zero_le _) (Nat.zero_le _) hE2 ?_
          refine bX3_readCommands_28 (fun z => absurd rfl z) (fun _ => ?_)
          refine bX3_readCommands_31 ?_
          exact ⟨rfl, rfl, rfl⟩
end RD5
