/-! THE TEXT'S COMMANDS: the class reads hours, pass -/
def uHrs (B : Nat → Nat) (n : Nat) (w : Nat → Int32) (s : Nat) : Except (Nat × Nat) (Nat × (Nat → Int32)) := match pNum B n 1 (min (9999 - vC w) 100) (nx B n s) with
  | .error e => .error e
  | .ok _ => .ok (nx B n s, up w 3 (nn (vC w + vl B n (nx B n s))))
theorem uHrs_e {B : Nat → Nat} {n s : Nat} {w : Nat → Int32} {e : Nat × Nat} (h : pNum B n 1 (min (9999 - vC w) 100) (nx B n s) = .error e) : uHrs B n w s = .error e := by
  unfold uHrs
  rw [h]
theorem uHrs_ok {B : Nat → Nat} {n s : Nat} {w : Nat → Int32} {q : Nat × Int32} (h : pNum B n 1 (min (9999 - vC w) 100) (nx B n s) = .ok q) : uHrs B n w s = .ok (nx B n s, up w 3 (nn (vC w + vl B n (nx B n s)))) := by
  unfold uHrs
  rw [h]
theorem pNum_ok {B : Nat → Nat} {n lo hi s : Nat} {q : Nat × Int32} (hN : pNum B n lo hi s = .ok q) : kd B n s = 1 ∧ lo ≤ vl B n s ∧ vl B n s ≤ hi := by
  unfold pNum at hN
  by_cases a1 : kd B n s = 1
  · rw [if_pos a1] at hN
    by_cases a2 : lo ≤ vl B n s ∧ vl B n s ≤ hi
    · exact ⟨a1, a2⟩
    · rw [if_neg a2] at hN; cases hN
  · rw [if_neg a1] at hN; cases hN
theorem hrs_hi {C : Nat} (h : C ≤ 9999) : (if 9999 - nn C < 100 then 9999 - nn C else 100) = nn (min (9999 - C) 100) := by
  have e : (9999 - nn C : Int32) = nn (9999 - C) := by show nn 9999 - nn C = _; rw [nn_sub h]
  rw [e]
  have hl : (nn (9999 - C) < 100) ↔ 9999 - C < 100 := nn_lt (b := 100) (by omega) (by decide)
  by_cases hx : 9999 - C < 100
  · rw [if_pos (hl.mpr hx), show min (9999 - C) 100 = 9999 - C by omega]
  · rw [if_neg (fun z => hx (hl.mp z)), show min (9999 - C) 100 = 100 by omega]
    rfl
/-- a gate and a type that are known, a number; the gate's hour -/
def uPas (B : Nat → Nat) (n : Nat) (vg vt : Int32) (op : Nat → Bool) (s : Nat) (f : Nat → Nat → Nat → (Nat → Int32)) : Except (Nat × Nat) (Nat × (Nat → Int32)) := match pKnown B n vg (nx B n s) with
  | .error e => .error e
  | .ok (_, g) => match pKnown B n vt (nx B n (nx B n s)) with
    | .error e => .error e
    | .ok (_, t) => match pNum B n 1 999 (nx B n (nx B n (nx B n s))) with
      | .error e => .error e
      | .ok _ => if op g.toNatClampNeg = true then .ok (nx B n (nx B n (nx B n s)), f g.toNatClampNeg t.toNatClampNeg (vl B n (nx B n (nx B n (nx B n s))))) else .error (6, nx B n (nx B n (nx B n s)))
section UP
variable {B : Nat → Nat} {n s : Nat} {vg vt : Int32} {op : Nat → Bool} {f : Nat → Nat → Nat → (Nat → Int32)}
theorem uPas_1 {e : Nat × Nat} (h : pKnown B n vg (nx B n s) = .error e) : uPas B n vg vt op s f = .error e := by
  unfold uPas
  rw [h]
theorem uPas_2 {q : Nat × Int32} {e : Nat × Nat} (h : pKnown B n vg (nx B n s) = .ok q) (h2 : pKnown B n vt (nx B n (nx B n s)) = .error e) : uPas B n vg vt op s f = .error e := by
  unfold uPas
  rw [h, h2]
theorem uPas_3 {q q2 : Nat × Int32} {e : Nat × Nat} (h : pKnown B n vg (nx B n s) = .ok q) (h2 : pKnown B n vt (nx B n (nx B n s)) = .ok q2) (h3 : pNum B n 1 999 (nx B n (nx B n (nx B n s))) = .error e) : uPas B n vg vt op s f = .error e := by
  unfold uPas
  rw [h, h2, h3]
theorem uPas_4 {q q2 q3 : Nat × Int32} (h : pKnown B n vg (nx B n s) = .ok q) (h2 : pKnown B n vt (nx B n (nx B n s)) = .ok q2) (h3 : pNum B n 1 999 (nx B n (nx B n (nx B n s))) = .ok q3) (h4 : op q.2.toNatClampNeg = false) : uPas B n vg vt op s f = .error (6, nx B n (nx B n (nx B n s))) := by
  unfold uPas
  rw [h, h2, h3]
  show (if op q.2.toNatClampNeg = true then _ else _) = _
  rw [if_neg (by rw [h4]; decide)]
theorem uPas_5 {q q2 q3 : Nat × Int32} (h : pKnown B n vg (nx B n s) = .ok q) (h2 : pKnown B n vt (nx B n (nx B n s)) = .ok q2) (h3 : pNum B n 1 999 (nx B n (nx B n (nx B n s))) = .ok q3) (h4 : op q.2.toNatClampNeg = true) : uPas B n vg vt op s f = .ok (nx B n (nx B n (nx B n s)), f q.2.toNatClampNeg q2.2.toNatClampNeg (vl B n (nx B n (nx B n (nx B n s))))) := by
  unfold uPas
  rw [h, h2, h3]
  show (if op q.2.toNatClampNeg = true then _ else _) = _
  rw [if_pos h4]
end UP
/-- what a gate's tree in a station needs -/
theorem stR.gate {I : am_I} {L : am_L} {b : Nat} {w : Nat → Int32} (h : stR I L b w) (hw : wfp w) (h0 : 0 < vT w) {g : Nat} (hg : g < vG w) : ∃ e, e ≤ 15 ∧ 0 < e ∧ e = teW w g ∧ I (gc b g + 2) 0 = nn e ∧ trW w g (vQ w) (vT w) (tyW w) e ∧
    (∀ n, n < e → I (gc b g + 2 + 1) n = rw5 w g 0 n ∧ I (gc b g + 2 + 2) n = rw5 w g 1 n ∧ I (gc b g + 2 + 4) n = rw5 w g 4 n) ∧ tOK I (gc b g + 2) e ∧ ∀ k, pCost I b (gc b g + 2) k e = wcA (rw5 w g 0) (rw5 w g 4) (csW w) k e := by
  have tw := hw.tr hg
  obtain ⟨y0, y1, y2, y3, y4, y5, y6⟩ := h.2.2.2.2 g hg
  have t8 := hw.2.1.2
  have q6 := hw.1.2
  have p2 : 2 ^ 1 ≤ 2 ^ vT w := Nat.pow_le_pow_right (n := 2) (by decide) h0
  have p8 := two_le8 t8
  have sets : ∀ n, n < teW w g → rw5 w g 0 n ≠ -1 → ∃ q, q < vQ w ∧ rw5 w g 0 n = nn q := fun n hn hq => by
    obtain ⟨S', s1, s2, s3, s4, s5, s6⟩ := tva_set q6 tw.2.2.2 (by omega) n (Nat.zero_le _) hn
    exact s5 hq
  refine ⟨teW w g, tw.2.2.1, tw.2.1, rfl, y5.trans tw.1, tw, fun n hn => ⟨(y6 n hn).1, (y6 n hn).2.1, (y6 n hn).2.2.2⟩, fun n hn hq => ?_, fun k => ?_⟩
  · rw [(y6 n hn).1] at hq ⊢
    obtain ⟨q, q1, q2⟩ := sets n hn hq
    rw [q2]
    exact nn_in (by omega) (by omega)
  · refine pc_wc _ _ _ _ _ _ _ _ (fun n hn => ⟨(y6 n hn).1, (y6 n hn).2.2.2⟩) (fun n hn hq => ?_)
    obtain ⟨q, q1, q2⟩ := sets n hn hq
    rw [q2, nn_nat (by omega)]
    exact (h.2.1 q q1).2.1
def oNow (w : Nat → Int32) (g : Nat) : Bool := opens (w (132 + g * 94 + 0)) (w (132 + g * 94 + 1)) (w 3 - w 3 / 24 * 24)
def pasU (w : Nat → Int32) (g t k : Nat) : Nat → Int32 := pasW w g t (nn k) (wcA (rw5 w g 0) (rw5 w g 4) (csW w) (nn t) (teW w g)) (rw5 w g 1 (lfA (rw5 w g 0) (rw5 w g 4) (nn t) (teW w g))) (w (60 + t * 9))
section RD3
variable {d mc ms : Nat} {Γ : am_G} {I : am_I} {L : am_L} {B : Nat → Nat} {n s : Nat} {w : Nat → Int32}
/-- the draft may change while the reader's cells stand -/
theorem tkC.st {I3 : am_I} {L3 : am_L} (ht : tkC B n I L s) (e81 : I3 81 = I 81) (l81 : L3 81 = L 81) : tkC B n I3 L3 s := by
  obtain ⟨x1, x2, x3, x4, x5, x6⟩ := ht
  exact ⟨x1, by rw [e81]; exact x2, by rw [e81]; exact x3, by rw [e81]; exact x4, fun z => by rw [l81]; exact x5 z, fun z => by rw [e81]; exact x6 z⟩
theorem rcB.st {I3 : am_I} (h : rcB I B n) (e81 : I3 81 = I 81) (e82 : I3 82 = I 82) : rcB I3 B n := ⟨h.1, by rw [e81]; exact h.2.1, fun j hj => by rw [e82]; exact h.2.2 j hj⟩
theorem eX3_readHours (hF : cF Γ) (hw : wfp w) (hc : clR B n I L s w) : ∃ I' L', am_E m_X3_readHours (d + 4) 0 0 [.ref 81] Γ I L (.inl (some (.int (oky (uHrs B n w s))))) I' L' ∧ clOut B n I I' L L' (uHrs B n w s) := by
  obtain ⟨⟨o, f0, f1, f2, f3, f4, f5, f6, f7⟩, so, st, st2, ⟨ro, rr0, rr5, rr6, ra⟩, -⟩ := id hF
  obtain ⟨ob, -⟩ := id st2
  obtain ⟨hB, ht, hs⟩ := id hc
  obtain ⟨x3, c9⟩ := hw.2.2.2.1
  refine am_ofX rfl rfl rfl (Nat.le_of_ble_eq_true rfl) ?_
  obtain ⟨I1, L1, hE1, t1, fr1⟩ := eX3_go (d := d + 2) ro rr0 ra hB ht
  have c1 := hc.frC hw t1 fr1
  have e3 : I1 45 3 = nn (vC w) := c1.2.2.1.2.2.2.trans x3
  obtain ⟨g1, g2⟩ := eX3_isNumberIn (d := d + 2) (Γ := Γ) ro t1 (lo := 1) (hi := min (9999 - vC w) 100) (by omega) (by decide)
  have ehi : (if 9999 - I1 45 3 < 100 then 9999 - I1 45 3 else 100) = nn (min (9999 - vC w) 100) := by rw [e3]; exact hrs_hi c9
  rw [← ehi] at g1 g2
  cases hN : pNum B n 1 (min (9999 - vC w) 100) (nx B n s) with
  | error e =>
    obtain ⟨I3, f1', f2'⟩ := g2 e hN
    obtain ⟨e1', e2'⟩ := cOut.frD f2'
    rw [uHrs_e hN]
    refine ⟨I3, L1, ?_, fr1.frD.tr e1', e2'⟩
    refine bX3_readHours_0 ro (Nat.zero_le _) (Nat.zero_le _) hE1 ?_
    refine bX3_readHours_4 ro rr5 ob (Nat.zero_le _) (Nat.zero_le _) f1' ?_
    refine bX3_readHours_25 (fun z => absurd rfl z) (fun _ => ?_)
    refine bX3_readHours_28 ?_
    exact ⟨rfl, rfl, rfl⟩
  | ok q =>
    have ha := pNum_ok hN
    obtain ⟨f1', fx⟩ := g1 ha
    rw [uHrs_ok hN]
    obtain ⟨I3, hI3⟩ : ∃ I3, I3 = am_u I1 45 3 (nn (vC w + vl B n (nx B n s))) := ⟨_, rfl⟩
    have n3 : ∀ k, k ≠ 45 → I3 k = I1 k := fun k hk => by rw [hI3, am_u_ne hk]
    have s3 : stR I3 L1 45 (up w 3 (nn (vC w + vl B n (nx B n s)))) := by rw [hI3]; exact stR_clock (b := 45) c1.2.2 hw _
    obtain ⟨I4, L4, hE4, t4, fr4⟩ := eX3_go (d := d + 2) ro rr0 ra (c1.1.st (n3 81 (by decide)) (n3 82 (by decide))) (t1.st (n3 81 (by decide)) rfl)
    refine ⟨I4, L4, ?_, (fr1.frD.tr (⟨fun k a b => n3 k (by omega), fun j _ _ _ _ _ _ => by rw [n3 81 (by decide)], fun _ _ _ => rfl⟩ : frD I1 I3 L1 L1)).tr fr4.frD, (fr1.kp.tr (kpC.st (n3 81 (by decide)))).tr fr4.kp, (c1.1.st (n3 81 (by decide)) (n3 82 (by decide))).frC fr4, t4, s3.fr (by rw [vG_up (by decide)]; exact hw.2.2.1.2) (fun c a b => fr4.1 c (by omega)) (fun c a b => fr4.2.2.1 c (by omega))⟩
    refine bX3_readHours_0 ro (Nat.zero_le _) (Nat.zero_le _) hE1 ?_
    refine bX3_readHours_4 ro rr5 ob (Nat.zero_le _) (Nat.zero_le _) f1' ?_
    refine bX3_readHours_25 (fun _ => ?_) (fun z => absurd z (by decide))
    refine bX3_readHours_30 ro rr5 ob (Nat.zero_le _) (Nat.zero_le _) (by rw [e3, fx, nn_add, ← hI3]; exact hE4) ?_
    refine bX3_readHours_50 ?_
    exact ⟨rfl, rfl, rfl⟩
theorem eX3_readPass (hF : cF Γ) (hw : wfp w) (h0 : 0 < vT w) (hc : clR B n I L s w) : ∃ I' L', am_E m_X3_readPass (d + 4) 0 0 [.ref 81] Γ I L (.inl (some (.int (oky (uPas B n (fNm w 135 94 B (nx B n s) (en B n (nx B n s) - nx B n s) (vG w)) (fNm w 62 9 B (nx B n (nx B n s)) (en B n (nx B n (nx B n s)) - nx B n (nx B n s)) (vT w)) (oNow w) s (pasU w)))))) I' L' ∧ clOut B n I I' L L' (uPas B n (fNm w 135 94 B (nx B n s) (en B n (nx B n s) - nx B n s) (vG w)) (fNm w 62 9 B (nx B n (nx B n s)) (en B n (nx B n (nx B n s)) - nx B n (nx B n s)) (vT w)) (oNow w) s (pasU w)) := by
  obtain ⟨⟨o, f0, f1, f2, f3, f4, f5, f6, f7⟩, so, st, st2, ⟨ro, rr0, rr5, rr6, ra⟩, -⟩ := id hF
  obtain ⟨ob, s4, s5, s6, s7, s8, s9, s10, b1, b2, b3, b4, b5, b6, o7, hg⟩ := id st2
  obtain ⟨hB, ht, hs⟩ := id hc
  refine am_ofX rfl rfl rfl (Nat.le_of_ble_eq_true rfl) ?_
  obtain ⟨I1, L1, hE1, t1, fr1⟩ := eX3_go (d := d + 2) ro rr0 ra hB ht
  have c1 := hc.frC hw t1 fr1
  have hv := pKnown_v (B := B) (n := n) (s := nx B n s) (v := fGate L1 45 (L1 81 10) (vG w)) (v' := fNm w 135 94 B (nx B n s) (en B n (nx B n s) - nx B n s) (vG w)) (fun hx => by rw [t1.nm hx]; exact fGate_G (b := 45) c1.2.2 hw hx)
  obtain ⟨I2, L2, hE2, k2⟩ := eX3_takeKnown (d := d + 1) ro rr0 ra c1.1 t1 (fGate L1 45 (L1 81 10) (vG w))
  have hName : am_E m_X5_gateNamed (d + 3) 0 0 [.ref 45, .long (L1 81 10)] Γ I1 L1 (.inl (some (.int (fGate L1 45 (L1 81 10) (vG w))))) I1 L1 := eX5_gateNamed (N := vG w) st2 (c1.2.2.1.2.2.1.trans hw.2.2.1.1) hw.2.2.1.2 _
  rw [hv] at hE2 k2
  have hge : fNm w 135 94 B (nx B n s) (en B n (nx B n s) - nx B n s) (vG w) ≠ -1 → ∃ t, t < vG w ∧ fNm w 135 94 B (nx B n s) (en B n (nx B n s) - nx B n s) (vG w) = nn t := fNm_ge
  generalize fNm w 135 94 B (nx B n s) (en B n (nx B n s) - nx B n s) (vG w) = v0 at *
  have hb := hw.2.2.1.2
  have ht8 := hw.2.1.2
  cases hk : pKnown B n v0 (nx B n s) with
  | error e =>
    rw [hk] at hE2 k2
    obtain ⟨e1, e2⟩ := cOut.frD k2
    rw [uPas_1 hk]
    refine ⟨I2, L2, ?_, fr1.frD.tr e1, e2⟩
    refine bX3_readPass_0 ro (Nat.zero_le _) (Nat.zero_le _) hE1 ?_
    refine bX3_readPass_4 ro rr5 (by assumption) (Nat.zero_le _) (Nat.zero_le _) hName ?_
    refine bX3_readPass_16 ro (Nat.zero_le _) (Nat.zero_le _) hE2 ?_
    refine bX3_readPass_19 (fun z => absurd rfl z) (fun _ => ?_)
    refine bX3_readPass_25 ?_
    exact ⟨rfl, rfl, rfl⟩
  | ok p =>
    obtain ⟨s2, v⟩ := p
    obtain ⟨rfl, rfl, hne⟩ := pKnown_ok hk
    obtain ⟨g, hgv, rfl⟩ := hge hne
    rw [hk] at hE2 k2
    obtain ⟨t2, fr2⟩ := k2
    have c2 := c1.frC hw t2 fr2
    rw [show rOut (.ok (nx B n (nx B n s), nn g)) = nn g from rfl] at hE2
    have eg : (nn g : Int32).toNatClampNeg = g := nn_nat (by omega)
    have gE : gc 45 g = 45 + (8 + 7 * g) := rfl
    obtain ⟨hg1, hgg⟩ := hg g (by omega)
    have hv2 := pKnown_v (B := B) (n := n) (s := nx B n (nx B n s)) (v := fName L2 49 (L2 81 10) (vT w)) (v' := fNm w 62 9 B (nx B n (nx B n s)) (en B n (nx B n (nx B n s)) - nx B n (nx B n s)) (vT w)) (fun hx => by rw [t2.nm hx]; exact fName_T (b := 45) c2.2.2 hw hx)
    obtain ⟨I3, L3, hE3, k3⟩ := eX3_takeKnown (d := d + 1) ro rr0 ra c2.1 t2 (fName L2 49 (L2 81 10) (vT w))
    have hName2 : am_E m_X5_typeNamed (d + 3) 0 0 [.ref 45, .long (L2 81 10)] Γ I2 L2 (.inl (some (.int (fName L2 49 (L2 81 10) (vT w))))) I2 L2 := eX5_typeNamed (N := vT w) st2 (c2.2.2.1.2.1.trans hw.2.1.1) hw.2.1.2 _
    rw [hv2] at hE3 k3
    have hge2 : fNm w 62 9 B (nx B n (nx B n s)) (en B n (nx B n (nx B n s)) - nx B n (nx B n s)) (vT w) ≠ -1 → ∃ t, t < vT w ∧ fNm w 62 9 B (nx B n (nx B n s)) (en B n (nx B n (nx B n s)) - nx B n (nx B n s)) (vT w) = nn t := fNm_ge
    generalize fNm w 62 9 B (nx B n (nx B n s)) (en B n (nx B n (nx B n s)) - nx B n (nx B n s)) (vT w) = v1 at *
    have head : ∀ (If : am_I) (Lf : am_L) (r : Int32), am_W m_X3_readPass (d + 4) 0 0 false 0 0 42 [(0, .ref 81), (1, .int (nn g))] [.int (rOut (pKnown B n v1 (nx B n (nx B n s))))] Γ I3 L3 (am_R (.inl (some (.int r))) If Lf) → am_W m_X3_readPass (d + 4) 0 0 false 0 0 0 [(0, .ref 81)] [] Γ I L (am_R (.inl (some (.int r))) If Lf) := by
      intro If Lf r hW
      refine bX3_readPass_0 ro (Nat.zero_le _) (Nat.zero_le _) hE1 ?_
      refine bX3_readPass_4 ro rr5 (by assumption) (Nat.zero_le _) (Nat.zero_le _) hName ?_
      refine bX3_readPass_16 ro (Nat.zero_le _) (Nat.zero_le _) hE2 ?_
      refine bX3_readPass_19 (fun _ => ?_) (fun z => absurd z ((fun k (hk : k < 8) => (by decide : ∀ k, k < 8 → ¬ nn k = -1) k hk) g (by omega)))
      refine bX3_readPass_27 ro rr5 (by assumption) (Nat.zero_le _) (Nat.zero_le _) hName2 ?_
      refine bX3_readPass_39 ro (Nat.zero_le _) (Nat.zero_le _) hE3 ?_
      exact hW
    cases hk2 : pKnown B n v1 (nx B n (nx B n s)) with
    | error e =>
      rw [hk2] at head k3
      obtain ⟨e1, e2⟩ := cOut.frD k3
      rw [uPas_2 hk hk2]
      refine ⟨I3, L3, head _ _ _ ?_, (fr1.frD.tr fr2.frD).tr e1, e2⟩
      refine bX3_readPass_42 (fun _ => ?_) (fun z => absurd rfl z)
      refine bX3_readPass_59 ?_
      exact ⟨rfl, rfl, rfl⟩
    | ok p =>
      obtain ⟨s3, v⟩ := p
      obtain ⟨rfl, rfl, hne2⟩ := pKnown_ok hk2
      obtain ⟨t, htv, rfl⟩ := hge2 hne2
      rw [hk2] at head k3
      obtain ⟨t3, fr3⟩ := k3
      have c3 := c2.frC hw t3 fr3
      rw [show rOut (.ok (nx B n (nx B n (nx B n s)), nn t)) = nn t from rfl] at head
      have et : (nn t : Int32).toNatClampNeg = t := nn_nat (by omega)
      obtain ⟨g1, g2⟩ := eX3_isNumberIn (d := d + 2) (Γ := Γ) ro t3 (lo := 1) (hi := 999) (by decide) (by decide)
      have nt1 := (fun k (hk : k < 8) => (by decide : ∀ k, k < 8 → ¬ nn k = -1) k hk) t (by omega)
      have fr123 := (fr1.frD.tr fr2.frD).tr fr3.frD
      cases hN : pNum B n 1 999 (nx B n (nx B n (nx B n s))) with
      | error e =>
        obtain ⟨I4, f1', f2'⟩ := g2 e hN
        obtain ⟨e1', e2'⟩ := cOut.frD f2'
        rw [uPas_3 hk hk2 hN]
        refine ⟨I4, L3, head _ _ _ ?_, fr123.tr e1', e2'⟩
        refine bX3_readPass_42 (fun z => absurd z nt1) (fun _ => ?_)
        refine bX3_readPass_48 ro (Nat.zero_le _) (Nat.zero_le _) f1' ?_
        refine bX3_readPass_56 (fun z => absurd rfl z) (fun _ => ?_)
        refine bX3_readPass_59 ?_
        exact ⟨rfl, rfl, rfl⟩
      | ok q =>
        have ha := pNum_ok hN
        obtain ⟨f1', fx⟩ := g1 ha
        obtain ⟨y0, y1, y2, y3, y4, y5, y6⟩ := c3.2.2.2.2.2.2 g hgv
        have hop : ∀ bb, oNow w g = bb → opens (I3 (gc 45 g) 1) (I3 (gc 45 g) 2) (I3 45 3 - I3 45 3 / 24 * 24) = bb := fun bb hb' => by rw [y1, y2, c3.2.2.1.2.2.2]; exact hb'
        cases ho : oNow w g with
        | false =>
          obtain ⟨h1, h2⟩ := eX3_fail (d := d + 3) (Γ := Γ) ro t3 6
          obtain ⟨e1', e2'⟩ := cOut.frD h2
          rw [uPas_4 hk hk2 hN (by rw [eg]; exact ho)]
          refine ⟨_, L3, head _ _ _ ?_, fr123.tr e1', e2'⟩
          refine bX3_readPass_42 (fun z => absurd z nt1) (fun _ => ?_)
          refine bX3_readPass_48 ro (Nat.zero_le _) (Nat.zero_le _) f1' ?_
          refine bX3_readPass_56 (fun _ => ?_) (fun z => absurd z (by decide))
          refine bX3_readPass_61 ro rr5 ob (by assumption) (by assumption) (nn_in (by omega) (by omega)) (by rw [eg]; exact hg1) (Nat.zero_le _) (Nat.zero_le _) (eX5_hourOfDay st2) ?_
          refine bX3_readPass_77 hgg.1 (Nat.zero_le _) (Nat.zero_le _) (eX0_opensAt_b hgg (hop _ ho)) ?_
          refine bX3_readPass_80 (fun z => absurd rfl z) (fun _ => ?_)
          refine bX3_readPass_83 ro (Nat.zero_le _) (Nat.zero_le _) h1 ?_
          refine bX3_readPass_89 rfl ?_
          exact ⟨rfl, rfl, rfl⟩
        | true =>
          rw [uPas_5 hk hk2 hN (by rw [eg]; exact ho)]
          obtain ⟨e, e15, e0, ee, ec, tw, h6, tok, pcs⟩ := c3.2.2.gate hw h0 hgv
          obtain ⟨l1, l2, l3, l4⟩ := lfA_sp hw.1.2 (show t < 32 by omega) tw.2.2.2 (by have := two_le8 ht8; omega) (all_bit htv)
          have eP : I3 (gc 45 g + 2 + 2) (tLh I3 (gc 45 g + 2) (nn t) e) = rw5 w g 1 (lfA (rw5 w g 0) (rw5 w g 4) (nn t) e) := by
            rw [ffs_lf (rw5 w g 0) (rw5 w g 4) (nn t) e I3 (gc 45 g + 2) (fun n hn => ⟨(h6 n hn).1, (h6 n hn).2.2⟩)]
            exact (h6 _ l1).2.1
          have eT : I3 (45 + 5) t = w (60 + t * 9) := (c3.2.2.2.2.1 t htv).2
          obtain ⟨Ip, hP, c7, cc, co⟩ := eX5_letPass (d := d + 1) (I := I3) (L := L3) (g := g) (t := t) (N := e) st2 (by omega) (by omega) e15 e0 ec tok (I3 81 11)
          rw [fx] at hP c7 cc
          rw [pcs, eP, eT] at c7
          have fp : ∀ c, c < 45 ∨ 81 ≤ c → Ip c = I3 c := fun c x => co c (by omega) (by omega)
          have s4' : stR Ip L3 45 (pasU w g t (vl B n (nx B n (nx B n (nx B n s))))) := by
            unfold pasU
            rw [← ee]
            exact stR_pas (b := 45) c3.2.2 hw hgv htv c7 cc co
          obtain ⟨I4, L4, hE4, t4, fr4⟩ := eX3_go (d := d + 2) ro rr0 ra (c3.1.st (fp 81 (by decide)) (fp 82 (by decide))) (t3.st (fp 81 (by decide)) rfl)
          have vGp : vG (pasU w g t (vl B n (nx B n (nx B n (nx B n s))))) = vG w := by
            unfold vG pasU pasW
            rw [if_neg (by omega), if_neg (by omega)]
          refine ⟨I4, L4, head _ _ _ ?_, (fr123.tr (⟨fun k a b => fp k (by omega), fun j _ _ _ _ _ _ => by rw [fp 81 (by decide)], fun _ _ _ => rfl⟩ : frD I3 Ip L3 L3)).tr fr4.frD, (((fr1.kp.tr fr2.kp).tr fr3.kp).tr (kpC.st (fp 81 (by decide)))).tr fr4.kp, (c3.1.st (fp 81 (by decide)) (fp 82 (by decide))).frC fr4, t4, ?_⟩
          · refine bX3_readPass_42 (fun z => absurd z nt1) (fun _ => ?_)
            refine bX3_readPass_48 ro (Nat.zero_le _) (Nat.zero_le _) f1' ?_
            refine bX3_readPass_56 (fun _ => ?_) (fun z => absurd z (by decide))
            refine bX3_readPass_61 ro rr5 ob (by assumption) (by assumption) (nn_in (by omega) (by omega)) (by rw [eg]; exact hg1) (Nat.zero_le _) (Nat.zero_le _) (eX5_hourOfDay st2) ?_
            refine bX3_readPass_77 hgg.1 (Nat.zero_le _) (Nat.zero_le _) (eX0_opensAt_b hgg (hop _ ho)) ?_
            refine bX3_readPass_80 (fun _ => ?_) (fun z => absurd z (by decide))
            refine bX3_readPass_90 ro rr5 (by assumption) (Nat.zero_le _) (Nat.zero_le _) (by rw [fx]; exact hP) ?_
            refine bX3_readPass_103 ro (Nat.zero_le _) (Nat.zero_le _) hE4 ?_
            refine bX3_readPass_108 ?_
            exact ⟨rfl, rfl, rfl⟩
          · rw [eg, et]
            exact s4'.fr (by rw [vGp]; exact hb) (fun c a b => fr4.1 c (by omega)) (fun c a b => fr4.2.2.1 c (by omega))
end RD3
