/-! THE TEXT'S COMMANDS: the class reads build, halve -/
def uOne (B : Nat → Nat) (n : Nat) (v : Int32) (s : Nat) (f : Nat → (Nat → Int32)) : Except (Nat × Nat) (Nat × (Nat → Int32)) := match pKnown B n v (nx B n s) with
  | .error e => .error e
  | .ok (_, v) => .ok (nx B n s, f v.toNatClampNeg)
theorem uOne_e {B : Nat → Nat} {n : Nat} {v : Int32} {s : Nat} {f : Nat → (Nat → Int32)} {e : Nat × Nat} (h : pKnown B n v (nx B n s) = .error e) : uOne B n v s f = .error e := by
  unfold uOne
  rw [h]
theorem uOne_ok {B : Nat → Nat} {n : Nat} {v : Int32} {s : Nat} {f : Nat → (Nat → Int32)} {q : Nat × Int32} (h : pKnown B n v (nx B n s) = .ok q) : uOne B n v s f = .ok (nx B n s, f q.2.toNatClampNeg) := by
  unfold uOne
  rw [h]
theorem pKnown_ok {B : Nat → Nat} {n s s2 : Nat} {v x : Int32} (h : pKnown B n v s = .ok (s2, x)) : s2 = nx B n s ∧ x = v ∧ v ≠ -1 := by
  unfold pKnown at h
  by_cases hx : nmb B n s = true
  · rw [if_pos hx] at h
    by_cases hy : v = -1
    · rw [if_pos hy] at h; cases h
    · rw [if_neg hy] at h
      cases h
      exact ⟨rfl, rfl, hy⟩
  · rw [if_neg hx] at h; cases h
section RD2
variable {d mc ms : Nat} {Γ : am_G} {I : am_I} {L : am_L} {B : Nat → Nat} {n s : Nat} {w : Nat → Int32}
theorem eX3_readHalve (hF : cF Γ) (hw : wfp w) (h0 : 0 < vT w) (hc : clR B n I L s w) : ∃ I' L', am_E m_X3_readHalve (d + 5) 0 0 [.ref 81] Γ I L (.inl (some (.int (oky (uOne B n (fNm w 135 94 B (nx B n s) (en B n (nx B n s) - nx B n s) (vG w)) s (fun g => hlW w g)))))) I' L' ∧ clOut B n I I' L L' (uOne B n (fNm w 135 94 B (nx B n s) (en B n (nx B n s) - nx B n s) (vG w)) s (fun g => hlW w g)) := by
  obtain ⟨⟨o, f0, f1, f2, f3, f4, f5, f6, f7⟩, so, st, st2, ⟨ro, rr0, rr5, rr6, ra⟩, -⟩ := id hF
  obtain ⟨ob, s4, s5, s6, s7, s8, s9, s10, b1, b2, b3, b4, b5, b6, o7, hg⟩ := id st2
  obtain ⟨hB, ht, hs⟩ := id hc
  refine am_ofX rfl rfl rfl (Nat.le_of_ble_eq_true rfl) ?_
  obtain ⟨I1, L1, hE1, t1, fr1⟩ := eX3_go (d := d + 3) ro rr0 ra hB ht
  have c1 := hc.frC hw t1 fr1
  have hv := pKnown_v (B := B) (n := n) (s := nx B n s) (v := fGate L1 45 (L1 81 10) (vG w)) (v' := fNm w 135 94 B (nx B n s) (en B n (nx B n s) - nx B n s) (vG w)) (fun hx => by rw [t1.nm hx]; exact fGate_G (b := 45) c1.2.2 hw hx)
  obtain ⟨I2, L2, hE2, k2⟩ := eX3_takeKnown (d := d + 2) ro rr0 ra c1.1 t1 (fGate L1 45 (L1 81 10) (vG w))
  have hName : am_E m_X5_gateNamed (d + 4) 0 0 [.ref 45, .long (L1 81 10)] Γ I1 L1 (.inl (some (.int (fGate L1 45 (L1 81 10) (vG w))))) I1 L1 := eX5_gateNamed (N := vG w) st2 (c1.2.2.1.2.2.1.trans hw.2.2.1.1) hw.2.2.1.2 _
  rw [hv] at hE2 k2
  have hge : fNm w 135 94 B (nx B n s) (en B n (nx B n s) - nx B n s) (vG w) ≠ -1 → ∃ t, t < vG w ∧ fNm w 135 94 B (nx B n s) (en B n (nx B n s) - nx B n s) (vG w) = nn t := fNm_ge
  generalize fNm w 135 94 B (nx B n s) (en B n (nx B n s) - nx B n s) (vG w) = v0 at *
  have hb := hw.2.2.1.2
  cases hk : pKnown B n v0 (nx B n s) with
  | error e =>
    rw [hk] at hE2 k2
    obtain ⟨e1, e2⟩ := cOut.frD k2
    rw [uOne_e hk]
    refine ⟨I2, L2, ?_, fr1.frD.tr e1, e2⟩
    refine bX3_readHalve_0 ro (Nat.zero_le _) (Nat.zero_le _) hE1 ?_
    refine bX3_readHalve_4 ro rr5 (by assumption) (Nat.zero_le _) (Nat.zero_le _) hName ?_
    refine bX3_readHalve_16 ro (Nat.zero_le _) (Nat.zero_le _) hE2 ?_
    refine bX3_readHalve_19 (fun z => absurd rfl z) (fun _ => ?_)
    refine bX3_readHalve_25 ?_
    exact ⟨rfl, rfl, rfl⟩
  | ok p =>
    obtain ⟨s2, v⟩ := p
    obtain ⟨rfl, rfl, hne⟩ := pKnown_ok hk
    obtain ⟨t, htv, rfl⟩ := hge hne
    rw [hk] at hE2 k2
    obtain ⟨t2, fr2⟩ := k2
    have c2 := c1.frC hw t2 fr2
    have e2 : rOut (.ok (nx B n (nx B n s), nn t)) = nn t := rfl
    rw [e2] at hE2
    have et : (nn t : Int32).toNatClampNeg = t := nn_nat (by omega)
    have gE : gc 45 t = 45 + (8 + 7 * t) := rfl
    obtain ⟨hg1, hgg⟩ := hg t (by omega)
    rw [uOne_ok hk]
    have fin : ∀ (I3 : am_I) (L3 : am_L), (∀ k, 9 ≤ k → ¬ (45 ≤ k ∧ k < 81) → I3 k = I2 k) → (∀ k, 9 ≤ k → L3 k = L2 k) → stR I3 L3 45 ((fun g => hlW w g) t) → clOut B n I I3 L L3 (.ok (nx B n s, (fun g => hlW w g) (nn t : Int32).toNatClampNeg)) := by
      intro I3 L3 n3 l3 s3
      rw [et]
      have e81 := n3 81 (by decide) (by decide)
      have e82 := n3 82 (by decide) (by decide)
      have l81 := l3 81 (by decide)
      obtain ⟨x1, x2, x3, x4, x5, x6⟩ := t2
      exact ⟨(fr1.frD.tr fr2.frD).tr ⟨fun k a b => n3 k a (by omega), fun j _ _ _ _ _ _ => by rw [e81], fun k a _ => l3 k a⟩, (fr1.kp.tr fr2.kp).tr (kpC.st e81), ⟨c2.1.1, by rw [e81]; exact c2.1.2.1, fun j hj => by rw [e82]; exact c2.1.2.2 j hj⟩, ⟨x1, by rw [e81]; exact x2, by rw [e81]; exact x3, by rw [e81]; exact x4, fun z => by rw [l81]; exact x5 z, fun z => by rw [e81]; exact x6 z⟩, s3⟩
    generalize hIh : am_mI I2 (gc 45 t + 1) (fun t' => I2 (gc 45 t + 1) t' / 2) 8 = Ih
    have hH : am_E m_X0_halve (d + 4) 0 0 [.ref (gc 45 t)] Γ I2 L2 (.inl none) Ih L2 := by rw [← hIh]; exact eX0_halve hgg
    have co : ∀ k, k ≠ gc 45 t + 1 → Ih k = I2 k := fun k hk => by rw [← hIh]; funext j; rw [am_mI_at, if_neg (fun z => hk z.1)]
    have cc : ∀ j, j < 8 → Ih (gc 45 t + 1) j = I2 (gc 45 t + 1) j / 2 := fun j hj => by rw [← hIh, am_mI_at, if_pos ⟨rfl, hj⟩]
    refine ⟨Ih, L2, ?_, fin Ih L2 (fun k a b => co k (by omega)) (fun _ _ => rfl) (stR_hl (b := 45) c2.2.2 hw htv cc co)⟩
    refine bX3_readHalve_0 ro (Nat.zero_le _) (Nat.zero_le _) hE1 ?_
    refine bX3_readHalve_4 ro rr5 (by assumption) (Nat.zero_le _) (Nat.zero_le _) hName ?_
    refine bX3_readHalve_16 ro (Nat.zero_le _) (Nat.zero_le _) hE2 ?_
    refine bX3_readHalve_19 (fun _ => ?_) (fun z => absurd z ((fun k (hk : k < 8) => (by decide : ∀ k, k < 8 → ¬ nn k = -1) k hk) t (by omega)))
    refine bX3_readHalve_27 ro rr5 ob (by assumption) (by assumption) (nn_in (by omega) (by omega)) (by rw [et]; exact hg1) hgg.1 (Nat.zero_le _) (Nat.zero_le _) hH ?_
    refine bX3_readHalve_39 ?_
    exact ⟨rfl, rfl, rfl⟩
theorem eX3_readBuild (hF : cF Γ) (hw : wfp w) (h0 : 0 < vT w) (hc : clR B n I L s w) : ∃ I' L', am_E m_X3_readBuild (d + 5) 0 0 [.ref 81] Γ I L (.inl (some (.int (oky (uOne B n (fNm w 135 94 B (nx B n s) (en B n (nx B n s) - nx B n s) (vG w)) s (fun g => bldW w g)))))) I' L' ∧ clOut B n I I' L L' (uOne B n (fNm w 135 94 B (nx B n s) (en B n (nx B n s) - nx B n s) (vG w)) s (fun g => bldW w g)) := by
  obtain ⟨⟨o, f0, f1, f2, f3, f4, f5, f6, f7⟩, so, st, st2, ⟨ro, rr0, rr5, rr6, ra⟩, -⟩ := id hF
  obtain ⟨ob, s4, s5, s6, s7, s8, s9, s10, b1, b2, b3, b4, b5, b6, o7, hg⟩ := id st2
  obtain ⟨hB, ht, hs⟩ := id hc
  refine am_ofX rfl rfl rfl (Nat.le_of_ble_eq_true rfl) ?_
  obtain ⟨I1, L1, hE1, t1, fr1⟩ := eX3_go (d := d + 3) ro rr0 ra hB ht
  have c1 := hc.frC hw t1 fr1
  have hv := pKnown_v (B := B) (n := n) (s := nx B n s) (v := fGate L1 45 (L1 81 10) (vG w)) (v' := fNm w 135 94 B (nx B n s) (en B n (nx B n s) - nx B n s) (vG w)) (fun hx => by rw [t1.nm hx]; exact fGate_G (b := 45) c1.2.2 hw hx)
  obtain ⟨I2, L2, hE2, k2⟩ := eX3_takeKnown (d := d + 2) ro rr0 ra c1.1 t1 (fGate L1 45 (L1 81 10) (vG w))
  have hName : am_E m_X5_gateNamed (d + 4) 0 0 [.ref 45, .long (L1 81 10)] Γ I1 L1 (.inl (some (.int (fGate L1 45 (L1 81 10) (vG w))))) I1 L1 := eX5_gateNamed (N := vG w) st2 (c1.2.2.1.2.2.1.trans hw.2.2.1.1) hw.2.2.1.2 _
  rw [hv] at hE2 k2
  have hge : fNm w 135 94 B (nx B n s) (en B n (nx B n s) - nx B n s) (vG w) ≠ -1 → ∃ t, t < vG w ∧ fNm w 135 94 B (nx B n s) (en B n (nx B n s) - nx B n s) (vG w) = nn t := fNm_ge
  generalize fNm w 135 94 B (nx B n s) (en B n (nx B n s) - nx B n s) (vG w) = v0 at *
  have hb := hw.2.2.1.2
  cases hk : pKnown B n v0 (nx B n s) with
  | error e =>
    rw [hk] at hE2 k2
    obtain ⟨e1, e2⟩ := cOut.frD k2
    rw [uOne_e hk]
    refine ⟨I2, L2, ?_, fr1.frD.tr e1, e2⟩
    refine bX3_readBuild_0 ro (Nat.zero_le _) (Nat.zero_le _) hE1 ?_
    refine bX3_readBuild_4 ro rr5 (by assumption) (Nat.zero_le _) (Nat.zero_le _) hName ?_
    refine bX3_readBuild_16 ro (Nat.zero_le _) (Nat.zero_le _) hE2 ?_
    refine bX3_readBuild_19 (fun z => absurd rfl z) (fun _ => ?_)
    refine bX3_readBuild_25 ?_
    exact ⟨rfl, rfl, rfl⟩
  | ok p =>
    obtain ⟨s2, v⟩ := p
    obtain ⟨rfl, rfl, hne⟩ := pKnown_ok hk
    obtain ⟨t, htv, rfl⟩ := hge hne
    rw [hk] at hE2 k2
    obtain ⟨t2, fr2⟩ := k2
    have c2 := c1.frC hw t2 fr2
    have e2 : rOut (.ok (nx B n (nx B n s), nn t)) = nn t := rfl
    rw [e2] at hE2
    have et : (nn t : Int32).toNatClampNeg = t := nn_nat (by omega)
    have gE : gc 45 t = 45 + (8 + 7 * t) := rfl
    obtain ⟨hg1, hgg⟩ := hg t (by omega)
    rw [uOne_ok hk]
    have fin : ∀ (I3 : am_I) (L3 : am_L), (∀ k, 9 ≤ k → ¬ (45 ≤ k ∧ k < 81) → I3 k = I2 k) → (∀ k, 9 ≤ k → L3 k = L2 k) → stR I3 L3 45 ((fun g => bldW w g) t) → clOut B n I I3 L L3 (.ok (nx B n s, (fun g => bldW w g) (nn t : Int32).toNatClampNeg)) := by
      intro I3 L3 n3 l3 s3
      rw [et]
      have e81 := n3 81 (by decide) (by decide)
      have e82 := n3 82 (by decide) (by decide)
      have l81 := l3 81 (by decide)
      obtain ⟨x1, x2, x3, x4, x5, x6⟩ := t2
      exact ⟨(fr1.frD.tr fr2.frD).tr ⟨fun k a b => n3 k a (by omega), fun j _ _ _ _ _ _ => by rw [e81], fun k a _ => l3 k a⟩, (fr1.kp.tr fr2.kp).tr (kpC.st e81), ⟨c2.1.1, by rw [e81]; exact c2.1.2.1, fun j hj => by rw [e82]; exact c2.1.2.2 j hj⟩, ⟨x1, by rw [e81]; exact x2, by rw [e81]; exact x3, by rw [e81]; exact x4, fun z => by rw [l81]; exact x5 z, fun z => by rw [e81]; exact x6 z⟩, s3⟩
    have hbw := bld_ex hw h0 htv
    obtain ⟨ol, lim, l30⟩ := (⟨(c2.2.2.2.2.2.2 t htv).2.2.2.1, (hw.2.2.2.2.2.2 t htv).2.2.1.1, (hw.2.2.2.2.2.2 t htv).2.2.1.2⟩ : I2 (gc 45 t) 3 = w (132 + t * 94 + 2) ∧ w (132 + t * 94 + 2) = nn (lmW w t) ∧ lmW w t ≤ 30)
    obtain ⟨Ib, Lb, hP, ⟨e, e0, e15, es, etv⟩, bI, bL⟩ := eX4_plant (d := d + 2) (I := I2) (L := L2) (k := 1) (b := 45) so st2 (by omega) (Or.inr (by decide)) (c2.2.2.sda hw h0 htv) (by rw [ol]; exact lim) l30
    refine ⟨Ib, Lb, ?_, fin Ib Lb (fun k a b => bI k (Or.inr (by omega)) (by omega)) (fun k a => bL k (by omega)) (stR_bld (b := 45) c2.2.2 hw htv hbw es e0 e15 etv (fun k x y z => bI k (Or.inr (by omega)) z) (fun k x y => bL k (by omega)))⟩
    refine bX3_readBuild_0 ro (Nat.zero_le _) (Nat.zero_le _) hE1 ?_
    refine bX3_readBuild_4 ro rr5 (by assumption) (Nat.zero_le _) (Nat.zero_le _) hName ?_
    refine bX3_readBuild_16 ro (Nat.zero_le _) (Nat.zero_le _) hE2 ?_
    refine bX3_readBuild_19 (fun _ => ?_) (fun z => absurd z ((fun k (hk : k < 8) => (by decide : ∀ k, k < 8 → ¬ nn k = -1) k hk) t (by omega)))
    refine bX3_readBuild_27 ro rr6 rr5 ob (by assumption) (by assumption) (nn_in (by omega) (by omega)) (by rw [et]; exact hg1) so.1 (Nat.zero_le _) (Nat.zero_le _) hP ?_
    refine bX3_readBuild_47 ?_
    exact ⟨rfl, rfl, rfl⟩
end RD2
