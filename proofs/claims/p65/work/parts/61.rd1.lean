/-! THE TEXT'S COMMANDS: the class reads them -/
/-- the cells that reading needs -/
def cF (Γ : am_G) : Prop := (am_ob Γ 0 8 ∧ Γ.2.2 0 0 = some 1 ∧ Γ.2.2 0 1 = some 9 ∧ Γ.2.2 0 2 = some 45 ∧ Γ.2.2 0 3 = some 81 ∧ Γ.2.2 0 4 = some 83 ∧ Γ.2.2 0 5 = some 373 ∧ Γ.2.2 0 6 = some 446 ∧ Γ.2.2 0 7 = some 447) ∧ soF Γ 1 ∧ stF Γ 9 ∧ stF Γ 45 ∧ rdF Γ ∧ True
theorem wF.c {Γ : am_G} (h : wF Γ) : cF Γ := ⟨h.1, h.2.1, h.2.2.1, h.2.2.2.1, h.2.2.2.2.1, trivial⟩
/-- the class reads: its text, its token, its draft -/
def clR (B : Nat → Nat) (n : Nat) (I : am_I) (L : am_L) (s : Nat) (w : Nat → Int32) : Prop := rcB I B n ∧ tkC B n I L s ∧ stR I L 45 w
def frD (I I' : am_I) (L L' : am_L) : Prop := (∀ k, 9 ≤ k → ¬ (45 ≤ k ∧ k < 82) → I' k = I k) ∧ (∀ j, j ≠ 2 → j ≠ 3 → j ≠ 7 → j ≠ 8 → j ≠ 9 → j ≠ 11 → I' 81 j = I 81 j) ∧ ∀ k, 9 ≤ k → ¬ (45 ≤ k ∧ k < 82) → L' k = L k
/-- the codes of the reader stand as they did -/
def kpC (I I' : am_I) : Prop := I' 81 2 = I 81 2 ∧ I' 81 3 = I 81 3
theorem kpC.tr {I I1 I2 : am_I} (h : kpC I I1) (h2 : kpC I1 I2) : kpC I I2 := ⟨h2.1.trans h.1, h2.2.trans h.2⟩
theorem kpC.st {I I' : am_I} (h : I' 81 = I 81) : kpC I I' := ⟨by rw [h], by rw [h]⟩
theorem frC.kp {I I' : am_I} {L L' : am_L} (h : frC I I' L L') : kpC I I' := ⟨h.2.1 2 (by decide) (by decide) (by decide) (by decide), h.2.1 3 (by decide) (by decide) (by decide) (by decide)⟩
/-- how a command ends: at its last token, with a row; or the fault -/
def clOut (B : Nat → Nat) (n : Nat) (I I' : am_I) (L L' : am_L) (o : Except (Nat × Nat) (Nat × (Nat → Int32))) : Prop := frD I I' L L' ∧ match o with
  | .ok (s', w') => kpC I I' ∧ clR B n I' L' (nx B n s') w'
  | .error (c, p) => I' 81 2 = nn c ∧ I' 81 3 = nn p
def oky (o : Except (Nat × Nat) (Nat × (Nat → Int32))) : Int32 := match o with
  | .ok _ => 1
  | .error _ => 0
/-- a name that is known here, then a number; the row that comes of it -/
def uTwo (B : Nat → Nat) (n : Nat) (v : Int32) (lo hi s : Nat) (f : Nat → Nat → (Nat → Int32)) : Except (Nat × Nat) (Nat × (Nat → Int32)) := match pKnown B n v (nx B n s) with
  | .error e => .error e
  | .ok (s2, v) => match pNum B n lo hi s2 with
    | .error e => .error e
    | .ok _ => .ok (s2, f v.toNatClampNeg (vl B n s2))
theorem vG_up {w : Nat → Int32} {i : Nat} {x : Int32} (h : 2 ≠ i) : vG (up w i x) = vG w := by
  unfold vG up
  rw [if_neg h]
theorem uTwo_e1 {B : Nat → Nat} {n : Nat} {v : Int32} {lo hi s : Nat} {f : Nat → Nat → (Nat → Int32)} {e : Nat × Nat} (h : pKnown B n v (nx B n s) = .error e) : uTwo B n v lo hi s f = .error e := by
  unfold uTwo
  rw [h]
theorem uTwo_e2 {B : Nat → Nat} {n : Nat} {v x : Int32} {lo hi s s2 : Nat} {f : Nat → Nat → (Nat → Int32)} {e : Nat × Nat} (h : pKnown B n v (nx B n s) = .ok (s2, x)) (h2 : pNum B n lo hi s2 = .error e) : uTwo B n v lo hi s f = .error e := by
  unfold uTwo
  rw [h]
  show (match pNum B n lo hi s2 with
    | .error e => Except.error e
    | .ok _ => .ok (s2, f x.toNatClampNeg (vl B n s2))) = _
  rw [h2]
theorem uTwo_ok {B : Nat → Nat} {n : Nat} {v x : Int32} {lo hi s s2 : Nat} {f : Nat → Nat → (Nat → Int32)} {q : Nat × Int32} (h : pKnown B n v (nx B n s) = .ok (s2, x)) (h2 : pNum B n lo hi s2 = .ok q) : uTwo B n v lo hi s f = .ok (s2, f x.toNatClampNeg (vl B n s2)) := by
  unfold uTwo
  rw [h]
  show (match pNum B n lo hi s2 with
    | .error e => Except.error e
    | .ok _ => .ok (s2, f x.toNatClampNeg (vl B n s2))) = _
  rw [h2]
theorem frC.frD {I I' : am_I} {L L' : am_L} (h : frC I I' L L') : frD I I' L L' := ⟨fun k _ b => h.1 k (by omega), fun j _ _ a b c d => h.2.1 j a b c d, fun k _ b => h.2.2.1 k (by omega)⟩
theorem frD.tr {I I1 I2 : am_I} {L L1 L2 : am_L} (h : frD I I1 L L1) (h2 : frD I1 I2 L1 L2) : frD I I2 L L2 := ⟨fun k a b => (h2.1 k a b).trans (h.1 k a b), fun j a b c d e f => (h2.2.1 j a b c d e f).trans (h.2.1 j a b c d e f), fun k a b => (h2.2.2 k a b).trans (h.2.2 k a b)⟩
theorem cOut.frD {B : Nat → Nat} {n : Nat} {I I' : am_I} {L L' : am_L} {c p : Nat} (h : cOut B n I I' L L' (.error (c, p))) : frD I I' L L' ∧ I' 81 2 = nn c ∧ I' 81 3 = nn p := by
  obtain ⟨h1, h2, h3, h4, h5⟩ := h
  exact ⟨⟨fun k _ b => h2 k (by omega), h3, fun k _ b => h4 k (by omega)⟩, h1⟩
theorem clR.frC {B : Nat → Nat} {n s s' : Nat} {I I' : am_I} {L L' : am_L} {w : Nat → Int32} (h : clR B n I L s w) (hw : wfp w) (ht : tkC B n I' L' s') (f : frC I I' L L') : clR B n I' L' s' w :=
  ⟨h.1.frC f, ht, h.2.2.fr hw.2.2.1.2 (fun c a b => f.1 c (by omega)) (fun c a b => f.2.2.1 c (by omega))⟩
theorem pKnown_v {B : Nat → Nat} {n s : Nat} {v v' : Int32} (h : nmb B n s = true → v = v') : pKnown B n v s = pKnown B n v' s := by
  unfold pKnown
  by_cases hx : nmb B n s = true
  · rw [if_pos hx, if_pos hx, h hx]
  · rw [if_neg hx, if_neg hx]
section RD
variable {d mc ms : Nat} {Γ : am_G} {I : am_I} {L : am_L} {B : Nat → Nat} {n s : Nat} {w : Nat → Int32}
theorem eX3_readToll (hF : cF Γ) (hw : wfp w) (hc : clR B n I L s w) : ∃ I' L', am_E m_X3_readToll (d + 4) 0 0 [.ref 81] Γ I L (.inl (some (.int (oky (uTwo B n (fNm w 62 9 B (nx B n s) (en B n (nx B n s) - nx B n s) (vT w)) 0 99 s (fun t v => up w (60 + t * 9) (nn v))))))) I' L' ∧ clOut B n I I' L L' (uTwo B n (fNm w 62 9 B (nx B n s) (en B n (nx B n s) - nx B n s) (vT w)) 0 99 s (fun t v => up w (60 + t * 9) (nn v))) := by
  obtain ⟨⟨o, f0, f1, f2, f3, f4, f5, f6, f7⟩, so, st, st2, ⟨ro, rr0, rr5, rr6, ra⟩, -⟩ := id hF
  obtain ⟨ob, s4, s5, s6, s7, s8, s9, s10, b1, b2, b3, b4, b5, b6, o7, hg⟩ := id st2
  obtain ⟨hB, ht, hs⟩ := id hc
  refine am_ofX rfl rfl rfl (Nat.le_of_ble_eq_true rfl) ?_
  obtain ⟨I1, L1, hE1, t1, fr1⟩ := eX3_go (d := d + 2) ro rr0 ra hB ht
  have c1 := hc.frC hw t1 fr1
  have hv := pKnown_v (B := B) (n := n) (s := nx B n s) (v := fName L1 49 (L1 81 10) (vT w)) (v' := fNm w 62 9 B (nx B n s) (en B n (nx B n s) - nx B n s) (vT w)) (fun hx => by rw [t1.nm hx]; exact fName_T (b := 45) c1.2.2 hw hx)
  obtain ⟨I2, L2, hE2, k2⟩ := eX3_takeKnown (d := d + 1) ro rr0 ra c1.1 t1 (fName L1 49 (L1 81 10) (vT w))
  have hName : am_E m_X5_typeNamed (d + 3) 0 0 [.ref 45, .long (L1 81 10)] Γ I1 L1 (.inl (some (.int (fName L1 49 (L1 81 10) (vT w))))) I1 L1 := eX5_typeNamed (N := vT w) st2 (c1.2.2.1.2.1.trans hw.2.1.1) hw.2.1.2 _
  rw [hv] at hE2 k2
  have hge : ∀ s2 v, pKnown B n (fNm w 62 9 B (nx B n s) (en B n (nx B n s) - nx B n s) (vT w)) (nx B n s) = .ok (s2, v) → ∃ t, t < vT w ∧ v = nn t := by
    intro s2 v hk
    unfold pKnown at hk
    by_cases hx : nmb B n (nx B n s) = true
    · rw [if_pos hx] at hk
      by_cases hy : fNm w 62 9 B (nx B n s) (en B n (nx B n s) - nx B n s) (vT w) = -1
      · rw [if_pos hy] at hk; cases hk
      · rw [if_neg hy] at hk
        cases hk
        exact fNm_ge hy
    · rw [if_neg hx] at hk; cases hk
  generalize fNm w 62 9 B (nx B n s) (en B n (nx B n s) - nx B n s) (vT w) = v0 at *
  cases hk : pKnown B n v0 (nx B n s) with
  | error e =>
    rw [hk] at hE2 k2
    obtain ⟨e1, e2⟩ := cOut.frD k2
    rw [uTwo_e1 hk]
    refine ⟨I2, L2, ?_, fr1.frD.tr e1, e2⟩
    refine bX3_readToll_0 ro (Nat.zero_le _) (Nat.zero_le _) hE1 ?_
    refine bX3_readToll_4 ro rr5 (by assumption) (Nat.zero_le _) (Nat.zero_le _) hName ?_
    refine bX3_readToll_16 ro (Nat.zero_le _) (Nat.zero_le _) hE2 ?_
    refine bX3_readToll_19 (fun _ => ?_) (fun z => absurd rfl z)
    refine bX3_readToll_35 ?_
    exact ⟨rfl, rfl, rfl⟩
  | ok p =>
    obtain ⟨s2, v⟩ := p
    obtain ⟨t, htv, rfl⟩ := hge s2 v hk
    have hb := hw.2.1.2
    rw [hk] at hE2 k2
    obtain ⟨t2, fr2⟩ := k2
    have c2 := c1.frC hw t2 fr2
    obtain ⟨g1, g2⟩ := eX3_isNumberIn (d := d + 2) (Γ := Γ) ro t2 (lo := 0) (hi := 99) (by decide) (by decide)
    have nm1 : ¬ (nn t : Int32) = -1 := (fun k (hk : k < 8) => (by decide : ∀ k, k < 8 → ¬ nn k = -1) k hk) t (by omega)
    have e2 : rOut (.ok (s2, nn t)) = nn t := rfl
    rw [e2] at hE2
    cases hN : pNum B n 0 99 s2 with
    | error e =>
      obtain ⟨I3, f1', f2'⟩ := g2 e hN
      obtain ⟨e1', e2'⟩ := cOut.frD f2'
      rw [uTwo_e2 hk hN]
      refine ⟨I3, L2, ?_, (fr1.frD.tr fr2.frD).tr e1', e2'⟩
      refine bX3_readToll_0 ro (Nat.zero_le _) (Nat.zero_le _) hE1 ?_
      refine bX3_readToll_4 ro rr5 (by assumption) (Nat.zero_le _) (Nat.zero_le _) hName ?_
      refine bX3_readToll_16 ro (Nat.zero_le _) (Nat.zero_le _) hE2 ?_
      refine bX3_readToll_19 (fun z => absurd z nm1) (fun _ => ?_)
      refine bX3_readToll_25 ro (Nat.zero_le _) (Nat.zero_le _) f1' ?_
      refine bX3_readToll_32 (fun z => absurd rfl z) (fun _ => ?_)
      refine bX3_readToll_35 ?_
      exact ⟨rfl, rfl, rfl⟩
    | ok q =>
      have ha : kd B n s2 = 1 ∧ 0 ≤ vl B n s2 ∧ vl B n s2 ≤ 99 := by
        unfold pNum at hN
        by_cases a1 : kd B n s2 = 1
        · rw [if_pos a1] at hN
          by_cases a2 : 0 ≤ vl B n s2 ∧ vl B n s2 ≤ 99
          · exact ⟨a1, a2⟩
          · rw [if_neg a2] at hN; cases hN
        · rw [if_neg a1] at hN; cases hN
      obtain ⟨f1', fx⟩ := g1 ha
      have gE : gc 45 t = 45 + (8 + 7 * t) := rfl
      obtain ⟨I3, hI3⟩ : ∃ I3, I3 = am_u I2 50 t (nn (vl B n s2)) := ⟨_, rfl⟩
      have n3 : ∀ k, k < 45 ∨ 81 ≤ k → I3 k = I2 k := fun k hk => by rw [hI3, am_u_ne (by omega)]
      have hB3 : rcB I3 B n := ⟨c2.1.1, by rw [n3 81 (by decide)]; exact c2.1.2.1, fun j hj => by rw [n3 82 (by decide)]; exact c2.1.2.2 j hj⟩
      have t3 : tkC B n I3 L2 s2 := by
        obtain ⟨x1, x2, x3, x4, x5, x6⟩ := t2
        refine ⟨x1, by rw [n3 81 (by decide)]; exact x2, by rw [n3 81 (by decide)]; exact x3, by rw [n3 81 (by decide)]; exact x4, x5, fun z => by rw [n3 81 (by decide)]; exact x6 z⟩
      have s3 : stR I3 L2 45 ((fun t v => up w (60 + t * 9) (nn v)) t (vl B n s2)) := by rw [hI3]; exact stR_toll (b := 45) c2.2.2 hw htv _
      obtain ⟨I4, L4, hE4, t4, fr4⟩ := eX3_go (d := d + 2) ro rr0 ra hB3 t3
      have e3 : frD I2 I3 L2 L2 := ⟨fun k a b => n3 k (by omega), fun j _ _ _ _ _ _ => by rw [n3 81 (by decide)], fun _ _ _ => rfl⟩
      have et : (nn t : Int32).toNatClampNeg = t := nn_nat (by omega)
      rw [uTwo_ok hk hN]
      refine ⟨I4, L4, ?_, ((fr1.frD.tr fr2.frD).tr e3).tr fr4.frD, ((fr1.kp.tr fr2.kp).tr (kpC.st (n3 81 (by decide)))).tr fr4.kp, hB3.frC fr4, t4, ?_⟩
      · refine bX3_readToll_0 ro (Nat.zero_le _) (Nat.zero_le _) hE1 ?_
        refine bX3_readToll_4 ro rr5 (by assumption) (Nat.zero_le _) (Nat.zero_le _) hName ?_
        refine bX3_readToll_16 ro (Nat.zero_le _) (Nat.zero_le _) hE2 ?_
        refine bX3_readToll_19 (fun z => absurd z nm1) (fun _ => ?_)
        refine bX3_readToll_25 ro (Nat.zero_le _) (Nat.zero_le _) f1' ?_
        refine bX3_readToll_32 (fun _ => ?_) (fun z => absurd z (by decide))
        refine bX3_readToll_37 ro rr5 ob (by assumption) (by assumption) (nn_in (by omega) (by omega)) (Nat.zero_le _) (Nat.zero_le _) (by rw [et, fx, ← hI3]; exact hE4) ?_
        refine bX3_readToll_54 ?_
        exact ⟨rfl, rfl, rfl⟩
      · rw [et]
        exact s3.fr (w := (fun t v => up w (60 + t * 9) (nn v)) t (vl B n s2)) (by show vG (up w _ _) ≤ 4; rw [vG_up (by omega)]; exact hw.2.2.1.2) (fun c a b => fr4.1 c (by omega)) (fun c a b => fr4.2.2.1 c (by omega))
theorem eX3_readLimit (hF : cF Γ) (hw : wfp w) (hc : clR B n I L s w) : ∃ I' L', am_E m_X3_readLimit (d + 4) 0 0 [.ref 81] Γ I L (.inl (some (.int (oky (uTwo B n (fNm w 135 94 B (nx B n s) (en B n (nx B n s) - nx B n s) (vG w)) 0 30 s (fun g v => up w (132 + g * 94 + 2) (nn v))))))) I' L' ∧ clOut B n I I' L L' (uTwo B n (fNm w 135 94 B (nx B n s) (en B n (nx B n s) - nx B n s) (vG w)) 0 30 s (fun g v => up w (132 + g * 94 + 2) (nn v))) := by
  obtain ⟨⟨o, f0, f1, f2, f3, f4, f5, f6, f7⟩, so, st, st2, ⟨ro, rr0, rr5, rr6, ra⟩, -⟩ := id hF
  obtain ⟨ob, s4, s5, s6, s7, s8, s9, s10, b1, b2, b3, b4, b5, b6, o7, hg⟩ := id st2
  obtain ⟨hB, ht, hs⟩ := id hc
  refine am_ofX rfl rfl rfl (Nat.le_of_ble_eq_true rfl) ?_
  obtain ⟨I1, L1, hE1, t1, fr1⟩ := eX3_go (d := d + 2) ro rr0 ra hB ht
  have c1 := hc.frC hw t1 fr1
  have hv := pKnown_v (B := B) (n := n) (s := nx B n s) (v := fGate L1 45 (L1 81 10) (vG w)) (v' := fNm w 135 94 B (nx B n s) (en B n (nx B n s) - nx B n s) (vG w)) (fun hx => by rw [t1.nm hx]; exact fGate_G (b := 45) c1.2.2 hw hx)
  obtain ⟨I2, L2, hE2, k2⟩ := eX3_takeKnown (d := d + 1) ro rr0 ra c1.1 t1 (fGate L1 45 (L1 81 10) (vG w))
  have hName : am_E m_X5_gateNamed (d + 3) 0 0 [.ref 45, .long (L1 81 10)] Γ I1 L1 (.inl (some (.int (fGate L1 45 (L1 81 10) (vG w))))) I1 L1 := eX5_gateNamed (N := vG w) st2 (c1.2.2.1.2.2.1.trans hw.2.2.1.1) hw.2.2.1.2 _
  rw [hv] at hE2 k2
  have hge : ∀ s2 v, pKnown B n (fNm w 135 94 B (nx B n s) (en B n (nx B n s) - nx B n s) (vG w)) (nx B n s) = .ok (s2, v) → ∃ t, t < vG w ∧ v = nn t := by
    intro s2 v hk
    unfold pKnown at hk
    by_cases hx : nmb B n (nx B n s) = true
    · rw [if_pos hx] at hk
      by_cases hy : fNm w 135 94 B (nx B n s) (en B n (nx B n s) - nx B n s) (vG w) = -1
      · rw [if_pos hy] at hk; cases hk
      · rw [if_neg hy] at hk
        cases hk
        exact fNm_ge hy
    · rw [if_neg hx] at hk; cases hk
  generalize fNm w 135 94 B (nx B n s) (en B n (nx B n s) - nx B n s) (vG w) = v0 at *
  cases hk : pKnown B n v0 (nx B n s) with
  | error e =>
    rw [hk] at hE2 k2
    obtain ⟨e1, e2⟩ := cOut.frD k2
    rw [uTwo_e1 hk]
    refine ⟨I2, L2, ?_, fr1.frD.tr e1, e2⟩
    refine bX3_readLimit_0 ro (Nat.zero_le _) (Nat.zero_le _) hE1 ?_
    refine bX3_readLimit_4 ro rr5 (by assumption) (Nat.zero_le _) (Nat.zero_le _) hName ?_
    refine bX3_readLimit_16 ro (Nat.zero_le _) (Nat.zero_le _) hE2 ?_
    refine bX3_readLimit_19 (fun _ => ?_) (fun z => absurd rfl z)
    refine bX3_readLimit_35 ?_
    exact ⟨rfl, rfl, rfl⟩
  | ok p =>
    obtain ⟨s2, v⟩ := p
    obtain ⟨t, htv, rfl⟩ := hge s2 v hk
    have hb := hw.2.2.1.2
    rw [hk] at hE2 k2
    obtain ⟨t2, fr2⟩ := k2
    have c2 := c1.frC hw t2 fr2
    obtain ⟨g1, g2⟩ := eX3_isNumberIn (d := d + 2) (Γ := Γ) ro t2 (lo := 0) (hi := 30) (by decide) (by decide)
    have nm1 : ¬ (nn t : Int32) = -1 := (fun k (hk : k < 8) => (by decide : ∀ k, k < 8 → ¬ nn k = -1) k hk) t (by omega)
    have e2 : rOut (.ok (s2, nn t)) = nn t := rfl
    rw [e2] at hE2
    cases hN : pNum B n 0 30 s2 with
    | error e =>
      obtain ⟨I3, f1', f2'⟩ := g2 e hN
      obtain ⟨e1', e2'⟩ := cOut.frD f2'
      rw [uTwo_e2 hk hN]
      refine ⟨I3, L2, ?_, (fr1.frD.tr fr2.frD).tr e1', e2'⟩
      refine bX3_readLimit_0 ro (Nat.zero_le _) (Nat.zero_le _) hE1 ?_
      refine bX3_readLimit_4 ro rr5 (by assumption) (Nat.zero_le _) (Nat.zero_le _) hName ?_
      refine bX3_readLimit_16 ro (Nat.zero_le _) (Nat.zero_le _) hE2 ?_
      refine bX3_readLimit_19 (fun z => absurd z nm1) (fun _ => ?_)
      refine bX3_readLimit_25 ro (Nat.zero_le _) (Nat.zero_le _) f1' ?_
      refine bX3_readLimit_32 (fun z => absurd rfl z) (fun _ => ?_)
      refine bX3_readLimit_35 ?_
      exact ⟨rfl, rfl, rfl⟩
    | ok q =>
      have ha : kd B n s2 = 1 ∧ 0 ≤ vl B n s2 ∧ vl B n s2 ≤ 30 := by
        unfold pNum at hN
        by_cases a1 : kd B n s2 = 1
        · rw [if_pos a1] at hN
          by_cases a2 : 0 ≤ vl B n s2 ∧ vl B n s2 ≤ 30
          · exact ⟨a1, a2⟩
          · rw [if_neg a2] at hN; cases hN
        · rw [if_neg a1] at hN; cases hN
      obtain ⟨f1', fx⟩ := g1 ha
      have gE : gc 45 t = 45 + (8 + 7 * t) := rfl
      obtain ⟨I3, hI3⟩ : ∃ I3, I3 = am_u I2 (gc 45 t) 3 (nn (vl B n s2)) := ⟨_, rfl⟩
      have n3 : ∀ k, k < 45 ∨ 81 ≤ k → I3 k = I2 k := fun k hk => by rw [hI3, am_u_ne (by omega)]
      have hB3 : rcB I3 B n := ⟨c2.1.1, by rw [n3 81 (by decide)]; exact c2.1.2.1, fun j hj => by rw [n3 82 (by decide)]; exact c2.1.2.2 j hj⟩
      have t3 : tkC B n I3 L2 s2 := by
        obtain ⟨x1, x2, x3, x4, x5, x6⟩ := t2
        refine ⟨x1, by rw [n3 81 (by decide)]; exact x2, by rw [n3 81 (by decide)]; exact x3, by rw [n3 81 (by decide)]; exact x4, x5, fun z => by rw [n3 81 (by decide)]; exact x6 z⟩
      have s3 : stR I3 L2 45 ((fun g v => up w (132 + g * 94 + 2) (nn v)) t (vl B n s2)) := by rw [hI3]; exact stR_lim (b := 45) c2.2.2 hw htv _
      obtain ⟨I4, L4, hE4, t4, fr4⟩ := eX3_go (d := d + 2) ro rr0 ra hB3 t3
      have e3 : frD I2 I3 L2 L2 := ⟨fun k a b => n3 k (by omega), fun j _ _ _ _ _ _ => by rw [n3 81 (by decide)], fun _ _ _ => rfl⟩
      have et : (nn t : Int32).toNatClampNeg = t := nn_nat (by omega)
      rw [uTwo_ok hk hN]
      refine ⟨I4, L4, ?_, ((fr1.frD.tr fr2.frD).tr e3).tr fr4.frD, ((fr1.kp.tr fr2.kp).tr (kpC.st (n3 81 (by decide)))).tr fr4.kp, hB3.frC fr4, t4, ?_⟩
      · refine bX3_readLimit_0 ro (Nat.zero_le _) (Nat.zero_le _) hE1 ?_
        refine bX3_readLimit_4 ro rr5 (by assumption) (Nat.zero_le _) (Nat.zero_le _) hName ?_
        refine bX3_readLimit_16 ro (Nat.zero_le _) (Nat.zero_le _) hE2 ?_
        refine bX3_readLimit_19 (fun z => absurd z nm1) (fun _ => ?_)
        refine bX3_readLimit_25 ro (Nat.zero_le _) (Nat.zero_le _) f1' ?_
        refine bX3_readLimit_32 (fun _ => ?_) (fun z => absurd z (by decide))
        obtain ⟨hg1, hgg⟩ := hg t (by omega)
        refine bX3_readLimit_37 ro rr5 ob (by assumption) (by assumption) (nn_in (by omega) (by omega)) (by rw [et]; exact hg1) hgg.1 (Nat.zero_le _) (Nat.zero_le _) (by rw [fx, ← hI3]; exact hE4) ?_
        refine bX3_readLimit_57 ?_
        exact ⟨rfl, rfl, rfl⟩
      · rw [et]
        exact s3.fr (w := (fun g v => up w (132 + g * 94 + 2) (nn v)) t (vl B n s2)) (by show vG (up w _ _) ≤ 4; rw [vG_up (by omega)]; exact hw.2.2.1.2) (fun c a b => fr4.1 c (by omega)) (fun c a b => fr4.2.2.1 c (by omega))
end RD
