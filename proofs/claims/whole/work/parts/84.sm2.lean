/-! THE TEXT'S SETUP: the model, a type -/
/-- traits and the semicolon behind them -/
def uTs (B : Nat → Nat) (n : Nat) (w : Nat → Int32) (f s τ : Nat) : Except (Nat × Nat) (Nat × Nat) := match uTr B n w f s τ with
  | .error e => .error e
  | .ok (s4, τ') => match pSem B n s4 with
    | .error e => .error e
    | .ok (s5, _) => .ok (s5, τ')
section UT
variable {B : Nat → Nat} {n s : Nat} {w w' : Nat → Int32}
theorem uTs_e {f τ : Nat} {e : Nat × Nat} (h : uTr B n w f s τ = .error e) : uTs B n w f s τ = .error e := by
  unfold uTs
  rw [h]
theorem uTs_2 {f τ : Nat} {q : Nat × Nat} {e : Nat × Nat} (h : uTr B n w f s τ = .ok q) (h2 : pSem B n q.1 = .error e) : uTs B n w f s τ = .error e := by
  unfold uTs
  rw [h]
  show (match pSem B n q.1 with | .error e => Except.error e | .ok (s5, _) => Except.ok (s5, q.2)) = _
  rw [h2]
theorem uTs_3 {f τ : Nat} {q : Nat × Nat} {q2 : Nat × Int32} (h : uTr B n w f s τ = .ok q) (h2 : pSem B n q.1 = .ok q2) : uTs B n w f s τ = .ok (q2.1, q.2) := by
  unfold uTs
  rw [h]
  show (match pSem B n q.1 with | .error e => Except.error e | .ok (s5, _) => Except.ok (s5, q.2)) = _
  rw [h2]
theorem uTs_s {f τ : Nat} {q : Nat × Int32} (h : ¬ kd B n s = 2) (h2 : pKnown B n (fNm w 13 8 B s (en B n s - s) (vQ w)) s = .ok q) (h3 : τ.testBit q.2.toNatClampNeg = false) : uTs B n w (f + 1) s τ = uTs B n w f q.1 (τ ||| 2 ^ q.2.toNatClampNeg) := by
  unfold uTs
  rw [uTr_s h h2, if_neg (by rw [h3]; decide)]
theorem uTs_f {f τ : Nat} {q : Nat × Int32} (h : ¬ kd B n s = 2) (h2 : pKnown B n (fNm w 13 8 B s (en B n s - s) (vQ w)) s = .ok q) (h3 : τ.testBit q.2.toNatClampNeg = true) : uTs B n w (f + 1) s τ = .error (4, s) := by
  refine uTs_e ?_
  rw [uTr_s h h2, if_pos h3]
theorem uTs_cg (h0 : w' 0 = w 0) (e : ∀ j, 12 ≤ j → j < 60 → w' j = w j) (q6 : vQ w ≤ 6) (f s τ : Nat) : uTs B n w' f s τ = uTs B n w f s τ := by
  unfold uTs
  rw [uTr_cg h0 e q6]
theorem uTy_t {q q2 : Nat × Int32} (h : pNew B n (fNm w 62 9 B s (en B n s - s) (vT w)) s = .ok q) (h2 : pNum B n 0 99 (nx B n s) = .ok q2) : uTy B n w s = match uTs B n w 7 q2.1 0 with
    | .error e => .error e
    | .ok (s5, τ) => .ok (s5, typW B n w s q2.2 τ) := by
  cases h3 : uTr B n w 7 q2.1 0 with
  | error e => rw [uTy_3 h h2 h3, uTs_e h3]
  | ok q3 =>
    cases h4 : pSem B n q3.1 with
    | error e => rw [uTy_4 h h2 h3 h4, uTs_2 h3 h4]
    | ok q4 => rw [uTy_5 h h2 h3 h4, uTs_3 h3 h4]
theorem up_cm {i k : Nat} {a b : Int32} (h : i ≠ k) : up (up w i a) k b = up (up w k b) i a := by
  funext j
  rw [up_at, up_at, up_at, up_at]
  by_cases h1 : j = k
  · rw [if_pos h1, if_neg (by omega), if_pos h1]
  · rw [if_neg h1]
    by_cases h2 : j = i
    · rw [if_pos h2, if_pos h2]
    · rw [if_neg h2, if_neg h2, if_neg h1]
/-- a row that agrees with a good one as far as it goes -/
theorem wfp_ag (h : wfp w) (hG : vG w = 0) (e : ∀ j, j < 60 + vT w * 9 → w' j = w j) : wfp w' ∧ vQ w' = vQ w ∧ vT w' = vT w ∧ vG w' = 0 := by
  have t8 := h.2.1.2
  refine ⟨h.of (fun j hj => e j (by omega)) (h.c3 (e 3 (by omega))) (fun j a b => e j (by omega)) (fun t ht => ⟨fun k _ _ => e _ (by omega), tlW w t, (h.2.2.2.2.2.1 t ht).2.1, (e _ (by omega)).trans (h.2.2.2.2.2.1 t ht).1⟩) (fun g hg => absurd hg (by omega)), ?_, ?_, ?_⟩
  · show (w' 0).toNatClampNeg = (w 0).toNatClampNeg; rw [e 0 (by omega)]
  · show (w' 1).toNatClampNeg = (w 1).toNatClampNeg; rw [e 1 (by omega)]
  · rw [← hG]; show (w' 2).toNatClampNeg = (w 2).toNatClampNeg; rw [e 2 (by omega)]
end UT
def mdTr (B : Nat → Nat) (n m : Nat) (J J' : am_I) (R : Nat → Int32) (T : Nat) (o : Except (Nat × Nat) (Nat × Nat)) : Prop := (∀ k, k ≠ m → k ≠ m + 1 → ¬ (m + 8 ≤ k ∧ k ≤ m + 12) → J' k = J k) ∧ (∀ j, j ≠ 11 → j ≠ 12 → ¬ (18 ≤ j ∧ j ≤ 24) → J' m j = J m j) ∧ match o with
  | .ok (s', τ') => (J' m 11 = J m 11 ∧ J' m 12 = J m 12) ∧ tkM B n J' m s' ∧ J' (m + 1) = up R (60 + T * 9 + 1) (nn τ') ∧ J' m 23 = 0
  | .error (c, p) => J' m 23 = 1 ∧ J' m 11 = nn c ∧ J' m 12 = nn p
section MS2
variable {d : Nat} {Γ : am_G} {L : am_L} {B : Nat → Nat} {n m : Nat}
theorem mT_go (hm : mdF Γ m) {T : Nat} (hT : T < 8) : ∀ (f : Nat) {s τ : Nat} {R : Nat → Int32} {J : am_I}, wfp R → vG R = 0 → vT R = T → R (60 + T * 9 + 1) = nn τ → τ < 2 ^ vQ R → rmB J m B n → tkM B n J m s → J (m + 1) = R → J m 23 = 0 → vQ R < f + pcs (vQ R) τ → ∃ J', mdTr B n m J J' R T (uTs B n R f s τ) ∧ ∀ If, am_W m_X9_typeTold (d + 5) 0 0 false 0 0 205 [(0, .ref m), (1, .int (nn (60 + T * 9)))] [] Γ J' L (am_R (.inl none) If L) → am_W m_X9_typeTold (d + 5) 0 0 false 0 0 121 [(0, .ref m), (1, .int (nn (60 + T * 9)))] [] Γ J L (am_R (.inl none) If L)
  | 0, s, τ, R, J, _, _, _, _, _, _, _, _, _, hf => by
    have := pcs_le (vQ R) τ
    omega
  | f + 1, s, τ, R, J, hw, hG, hvT, hτ, t6, hB, ht, hr, h23, hf => by
    obtain ⟨mo, r0, r1, r2, r3, r4, r7, r8, r13, r14, r15, r16, r17, a1, a2, a3, a4, a5, a6, a7, a8, a9, a10, a11, a12⟩ := id hm
    have q6 := hw.1.2
    have p64 : 2 ^ vQ R ≤ 64 := Nat.pow_le_pow_right (n := 2) (by decide) q6
    have hk4 := kd_le B n s
    have hk1 : (J m 19 = 1) ↔ kd B n s = 0 := (ht.k19 (k := 1) (by decide)).trans (kdM_1 hk4)
    have e1 : (nn (60 + T * 9) + 1 : Int32) = nn (60 + T * 9 + 1) := nn_s1 _
    -- once wrong, from 194 to 205
    have tl : ∀ (W : am_I) (v2 : Int32), W m 23 = 1 → ∀ If, am_W m_X9_typeTold (d + 5) 0 0 false 0 0 205 [(0, .ref m), (1, .int (nn (60 + T * 9)))] [] Γ W L (am_R (.inl none) If L) → am_W m_X9_typeTold (d + 5) 0 0 false 0 0 194 [(0, .ref m), (1, .int (nn (60 + T * 9))), (2, .int v2)] [] Γ W L (am_R (.inl none) If L) := fun W v2 hW If h => by
      refine bX9_typeTold_194 mo (Nat.zero_le _) (Nat.zero_le _) (eX9_go_x hm hW) ?_
      refine bX9_typeTold_198 ?_
      refine aw_take 2 ?_
      refine bX9_typeTold_121 mo (fun _ => ?_) (fun z => absurd z (by rw [hW]; decide))
      exact bX9_typeTold_201 mo (Nat.zero_le _) (Nat.zero_le _) (eX9_semicolon_x hm hW) h
    by_cases h0 : kd B n s = 0
    · have h2 : ¬ kd B n s = 2 := by omega
      have hd : ∀ If, am_W m_X9_typeTold (d + 5) 0 0 false 0 0 136 [(0, .ref m), (1, .int (nn (60 + T * 9)))] [] Γ J L (am_R (.inl none) If L) → am_W m_X9_typeTold (d + 5) 0 0 false 0 0 121 [(0, .ref m), (1, .int (nn (60 + T * 9)))] [] Γ J L (am_R (.inl none) If L) := fun If h => by
        refine bX9_typeTold_121 mo (fun z => absurd h23 z) (fun _ => ?_)
        exact bX9_typeTold_128 mo (fun z => absurd (hk1.mpr h0) z) (fun _ => h)
      obtain ⟨g1, g2⟩ := eX9_questionHere (d := d + 2) (L := L) hm (by rw [hr]; exact hw) hB ht h23
      rw [hr] at g1 g2
      cases hk : pKnown B n (fNm R 13 8 B s (en B n s - s) (vQ R)) s with
      | error e =>
        obtain ⟨c, p⟩ := e
        obtain ⟨J2, hE2, hx, k2, j2⟩ := g2 c p hk
        rw [uTs_e (uTr_e h2 hk)]
        refine ⟨J2, ⟨fun k a b c' => k2 k a (by omega), fun j a b c' => j2 j a b (by omega) (by omega), hx⟩, fun If h => hd If ?_⟩
        refine bX9_typeTold_136 mo (Nat.zero_le _) (Nat.zero_le _) hE2 ?_
        refine bX9_typeTold_140 mo (fun _ => ?_) (fun z => absurd z (by rw [hx.1]; decide))
        refine bX9_typeTold_168 ?_
        refine bX9_typeTold_169 mo (Nat.zero_le _) (Nat.zero_le _) (eX9_wrong_x hm hx.1 _ _) ?_
        refine bX9_typeTold_173 mo (fun _ => ?_) (fun z => absurd z (by rw [hx.1]; decide))
        exact tl J2 _ hx.1 If h
      | ok p =>
        obtain ⟨s2, v⟩ := p
        obtain ⟨hs2, hv, hne⟩ := pKnown_ok hk
        obtain ⟨q, hq, hqe⟩ := fNm_ge hne
        have hvq : v = nn q := hv.trans hqe
        have et : (nn q : Int32).toNatClampNeg = q := nn_nat (by omega)
        obtain ⟨J2, hE2, k2, j2⟩ := g1 _ hk
        have hE2' : am_E m_X9_questionHere (d + 4) 0 0 [.ref m] Γ J L (.inl (some (.int (nn q)))) J2 L := by rw [← hvq]; exact hE2
        have rr2 : J2 (m + 1) = R := (k2 _ (by omega) (by omega)).trans hr
        have x2 : J2 m 23 = 0 := (j2 23 (by decide)).trans h23
        have t2 : tkM B n J2 m s := ht.st (fun j a _ => j2 j (by omega))
        have B2 : rmB J2 m B n := hB.st (j2 9 (by decide)) (k2 _ (by omega) (by omega))
        have hhas : am_E m_X9_has (d + 4) 0 0 [.int (J2 (m + 1) ((nn (60 + T * 9) + 1 : Int32).toNatClampNeg)), .int (nn q)] Γ J2 L (.inl (some (.int (bi (τ.testBit q))))) J2 L := by
          rw [rr2, e1, nn_nat (by omega), hτ]
          exact eX9_has (by omega) (by omega)
        have hd2 : ∀ If, am_W m_X9_typeTold (d + 5) 0 0 false 0 0 161 [(0, .ref m), (1, .int (nn (60 + T * 9))), (2, .int (nn q))] [.int (bi (τ.testBit q)), .ref m] Γ J2 L (am_R (.inl none) If L) → am_W m_X9_typeTold (d + 5) 0 0 false 0 0 121 [(0, .ref m), (1, .int (nn (60 + T * 9)))] [] Γ J L (am_R (.inl none) If L) := fun If h => hd If (by
          refine bX9_typeTold_136 mo (Nat.zero_le _) (Nat.zero_le _) hE2' ?_
          refine bX9_typeTold_140 mo (fun z => absurd x2 z) (fun _ => ?_)
          exact bX9_typeTold_149 mo r0 a1 (by rw [e1]; exact nn_in (by omega) (by omega)) (Nat.zero_le _) (Nat.zero_le _) hhas h)
        cases hb : τ.testBit q with
        | true =>
          rw [hb] at hd2
          rw [uTs_f h2 hk (by show τ.testBit (v : Int32).toNatClampNeg = true; rw [hvq, et]; exact hb)]
          obtain ⟨e1', e2, e3, e4, e5⟩ := wrS_at (J := J2) (m := m) (c := 4) (s := s)
          refine ⟨wrS J2 m 4 s, ⟨fun k a b c' => (e4 k a).trans (k2 k a (by omega)), fun j a b c' => (e5 j (by omega) a b).trans (j2 j (by omega)), e1', e2, e3⟩, fun If h => hd2 If ?_⟩
          refine bX9_typeTold_161 (fun z => absurd z (by decide)) (fun _ => ?_)
          refine bX9_typeTold_164 ?_
          refine bX9_typeTold_169 mo (Nat.zero_le _) (Nat.zero_le _) (eX9_wrong_1 hm x2 t2.2.1 4) ?_
          refine bX9_typeTold_173 mo (fun _ => ?_) (fun z => absurd z (by rw [e1']; decide))
          exact tl _ _ e1' If h
        | false =>
          rw [hb] at hd2
          rw [uTs_s h2 hk (by show τ.testBit (v : Int32).toNatClampNeg = false; rw [hvq, et]; exact hb)]
          obtain ⟨J3, hJ3⟩ : ∃ J3, J3 = am_u J2 (m + 1) (60 + T * 9 + 1) (nn (τ ||| 2 ^ q)) := ⟨_, rfl⟩
          have jm : J3 m = J2 m := by rw [hJ3, am_u_ne (by omega)]
          have t3 : tkM B n J3 m s := t2.st (fun j _ _ => by rw [jm])
          have B3 : rmB J3 m B n := B2.st (by rw [jm]) (by rw [hJ3, am_u_ne (by omega)])
          have x3 : J3 m 23 = 0 := by rw [jm]; exact x2
          obtain ⟨J4, hE4, t4, fr4⟩ := eX9_go (d := d + 1) (L := L) hm B3 t3 x3
          have rw4 : J4 (m + 1) = up R (60 + T * 9 + 1) (nn (τ ||| 2 ^ q)) := by rw [fr4.1 _ (by omega), hJ3, am_u_up, rr2]
          have p6 : τ ||| 2 ^ q < 2 ^ vQ R := Nat.or_lt_two_pow t6 (Nat.pow_lt_pow_right (by decide) hq)
          obtain ⟨wf', vq', vt', vg'⟩ := wfp_ag (w' := up R (60 + T * 9 + 1) (nn (τ ||| 2 ^ q))) hw hG (fun j hj => up_ne (by omega))
          obtain ⟨J', hM, K⟩ := mT_go hm hT f (s := nx B n s) (τ := τ ||| 2 ^ q) wf' vg' (vt'.trans hvT) (up_eq _ _ _) (by rw [vq']; exact p6) (B3.frM fr4) t4 rw4 ((fr4.2 23 (by decide) (by decide) (by decide) (by decide)).trans x3) (by rw [vq', pcs_or hq hb]; omega)
          rw [uTs_cg (w := R) (up_ne (by omega)) (fun j a b => up_ne (by omega)) q6] at hM
          have n4 : ∀ k, k ≠ m → k ≠ m + 1 → ¬ (m + 8 ≤ k ∧ k ≤ m + 12) → J4 k = J k := fun k a b c => by rw [fr4.1 k a, hJ3, am_u_ne b]; exact k2 k a (by omega)
          have m4 : ∀ j, ¬ (18 ≤ j ∧ j ≤ 24) → J4 m j = J m j := fun j a => by rw [fr4.2 j (by omega) (by omega) (by omega) (by omega), jm]; exact j2 j (by omega)
          obtain ⟨h1, h3, h4⟩ := hM
          have eo : uTs B n R f s2 (τ ||| 2 ^ (v : Int32).toNatClampNeg) = uTs B n R f (nx B n s) (τ ||| 2 ^ q) := by rw [hvq, et, hs2]
          show ∃ J', mdTr B n m J J' R T (uTs B n R f s2 (τ ||| 2 ^ (v : Int32).toNatClampNeg)) ∧ _
          rw [eo]
          refine ⟨J', ⟨fun k a b c => (h1 k a b c).trans (n4 k a b c), fun j a b c => (h3 j a b c).trans (m4 j c), ?_⟩, fun If h => hd2 If ?_⟩
          · cases hU : uTs B n R f (nx B n s) (τ ||| 2 ^ q) with
            | error e => rw [hU] at h4; exact h4
            | ok q5 =>
              rw [hU] at h4
              obtain ⟨y1, y2, y3, y4⟩ := h4
              rw [up_up] at y3
              exact ⟨⟨y1.1.trans (m4 11 (by decide)), y1.2.trans (m4 12 (by decide))⟩, y2, y3, y4⟩
          · refine bX9_typeTold_161 (fun _ => ?_) (fun z => absurd rfl z)
            refine bX9_typeTold_168 ?_
            refine bX9_typeTold_169 mo (Nat.zero_le _) (Nat.zero_le _) (eX9_wrong_0 hm _) ?_
            refine bX9_typeTold_173 mo (fun z => absurd x2 z) (fun _ => ?_)
            refine bX9_typeTold_180 mo r0 a1 (by rw [e1]; exact nn_in (by omega) (by omega)) ?_
            rw [rr2, e1, nn_nat (by omega), hτ, nl_1, nn_shl (by omega), nn_or, Nat.one_mul, ← hJ3]
            refine bX9_typeTold_194 mo (Nat.zero_le _) (Nat.zero_le _) hE4 ?_
            refine bX9_typeTold_198 ?_
            refine aw_take 2 ?_
            exact K If h
    · have hd : ∀ If, am_W m_X9_typeTold (d + 5) 0 0 false 0 0 201 [(0, .ref m), (1, .int (nn (60 + T * 9)))] [] Γ J L (am_R (.inl none) If L) → am_W m_X9_typeTold (d + 5) 0 0 false 0 0 121 [(0, .ref m), (1, .int (nn (60 + T * 9)))] [] Γ J L (am_R (.inl none) If L) := fun If h => by
        refine bX9_typeTold_121 mo (fun z => absurd h23 z) (fun _ => ?_)
        exact bX9_typeTold_128 mo (fun _ => h) (fun z => absurd (hk1.mp z) h0)
      obtain ⟨g3, g4⟩ := eX9_semicolon (d := d) (L := L) hm hB ht h23
      by_cases h2 : kd B n s = 2
      · obtain ⟨J5, hE5, t5, fr5⟩ := g3 h2
        have hS : pSem B n s = .ok (nx B n s, 1) := by unfold pSem; rw [if_pos h2]
        rw [uTs_3 (uTr_2 h2) hS]
        refine ⟨J5, ⟨fun k a b c => fr5.1 k a, fun j a b c => fr5.2 j (by omega) (by omega) (by omega) (by omega), ⟨fr5.2 11 (by decide) (by decide) (by decide) (by decide), fr5.2 12 (by decide) (by decide) (by decide) (by decide)⟩, t5, by rw [up_same hτ, fr5.1 _ (by omega)]; exact hr, (fr5.2 23 (by decide) (by decide) (by decide) (by decide)).trans h23⟩, fun If h => hd If ?_⟩
        exact bX9_typeTold_201 mo (Nat.zero_le _) (Nat.zero_le _) hE5 h
      · have hE5 := g4 h2
        obtain ⟨e1', e2, e3, e4, e5⟩ := wrS_at (J := J) (m := m) (c := 1) (s := s)
        have hk : pKnown B n (fNm R 13 8 B s (en B n s - s) (vQ R)) s = .error (1, s) := by
          unfold pKnown
          rw [if_neg (fun z => h0 (nmb_len z).2.1)]
        rw [uTs_e (uTr_e h2 hk)]
        refine ⟨wrS J m 1 s, ⟨fun k a b c' => e4 k a, fun j a b c' => e5 j (by omega) a b, e1', e2, e3⟩, fun If h => hd If ?_⟩
        exact bX9_typeTold_201 mo (Nat.zero_le _) (Nat.zero_le _) hE5 h
theorem ix_t2 (t : Nat) : (60 + nn t * 9 + 2 : Int32) = nn (60 + t * 9 + 2) := by rw [show (60 : Int32) = nn 60 from rfl, show (9 : Int32) = nn 9 from rfl, show (2 : Int32) = nn 2 from rfl, nn_mul, nn_add, nn_add]
theorem ix_t9 (t : Nat) : (60 + nn t * 9 : Int32) = nn (60 + t * 9) := by rw [show (60 : Int32) = nn 60 from rfl, show (9 : Int32) = nn 9 from rfl, nn_mul, nn_add]
theorem eX9_typeTold (hm : mdF Γ m) {s : Nat} {w : Nat → Int32} {I : am_I} (hI : tInv w) (hB : rmB I m B n) (ht : tkM B n I m s) (hr : I (m + 1) = w) (h23 : I m 23 = 0) : ∃ J, am_E m_X9_typeTold (d + 5) 0 0 [.ref m] Γ I L (.inl none) J L ∧ mdMid B n m I J (uUn B n 3 8 vT (uTy B n) w s) := by
  obtain ⟨mo, r0, r1, r2, r3, r4, r7, r8, r13, r14, r15, r16, r17, a1, a2, a3, a4, a5, a6, a7, a8, a9, a10, a11, a12⟩ := id hm
  obtain ⟨hw, hG, hQ0, hZ⟩ := hI
  obtain ⟨hE, hO⟩ := hd_T (d := d) (L := L) hm hw hB ht hr h23
  cases hH : uHd B n 3 8 vT 62 9 w s with
  | error e =>
    obtain ⟨J, h1, h2⟩ := hE e.1 e.2 hH
    rw [uHd_e (fun e h => uTy_1 h) hH]
    exact ⟨J, h1, h2⟩
  | ok q =>
    obtain ⟨J, tJ, nJ, kJ, jJ, K⟩ := hO q hH
    obtain ⟨hx, h6, hk, hu⟩ := uHd_o (u := uTy B n) hH
    obtain ⟨hnm, hm1⟩ := pNew_q hk
    obtain ⟨l6, -⟩ := nmb_len hnm
    have t8 := hw.2.1.2
    rw [hu]
    generalize hs1 : nx B n s = s1 at *
    have jr : J (m + 1) = w := (kJ _ (by omega) (by omega)).trans hr
    have BJ : rmB J m B n := hB.st (jJ 9 (by omega)) (kJ _ (by omega) (by omega))
    obtain ⟨J1, hE1, r1', k1⟩ := eX9_layName (d := d + 4) (L := L) hm nJ l6 (show 60 + vT w * 9 + 2 + 7 ≤ 508 by omega)
    rw [jr] at r1'
    have m1 : J1 m = J m := k1 m (by omega)
    have t1 : tkM B n J1 m s1 := tJ.st (fun j _ _ => by rw [m1])
    have B1 : rmB J1 m B n := BJ.st (by rw [m1]) (k1 _ (by omega))
    have x1 : J1 m 23 = 0 := by rw [m1]; exact (jJ 23 (by omega)).trans h23
    obtain ⟨J2, hE2, t2, fr2⟩ := eX9_go (d := d + 1) (L := L) hm B1 t1 x1
    have x2 : J2 m 23 = 0 := (fr2.2 23 (by decide) (by decide) (by decide) (by decide)).trans x1
    have B2 := B1.frM fr2
    have rw2 : J2 (m + 1) = lyW w (60 + vT w * 9 + 2) B s1 (en B n s1 - s1) := (fr2.1 _ (by omega)).trans r1'
    have n2 : ∀ k, k ≠ m → k ≠ m + 1 → ¬ (m + 8 ≤ k ∧ k ≤ m + 12) → J2 k = I k := fun k a b c => (fr2.1 k a).trans ((k1 k b).trans (kJ k a (by omega)))
    have m2 : ∀ j, ¬ (18 ≤ j ∧ j ≤ 24) → J2 m j = I m j := fun j a => (fr2.2 j (by omega) (by omega) (by omega) (by omega)).trans (by rw [m1]; exact jJ j (by omega))
    have w0 : J (m + 1) (1 : Int32).toNatClampNeg = nn (vT w) := by rw [jr]; exact hw.2.1.1
    have head : ∀ If, am_W m_X9_typeTold (d + 5) 0 0 false 0 0 106 [(0, .ref m), (1, .int (nn (60 + vT w * 9)))] [] Γ J2 L (am_R (.inl none) If L) → am_W m_X9_typeTold (d + 5) 0 0 false 0 0 0 [(0, .ref m)] [] Γ I L (am_R (.inl none) If L) := fun If hW => K If (by
      refine bX9_typeTold_82 mo r0 a1 (nn_in (k := 1) (by decide) (by decide)) (Nat.zero_le _) (Nat.zero_le _) (by rw [w0, ix_t2]; exact hE1) ?_
      rw [w0, ix_t9]
      refine bX9_typeTold_102 mo (Nat.zero_le _) (Nat.zero_le _) hE2 ?_
      exact hW)
    have ei : (nn (60 + vT w * 9) + 0 : Int32) = nn (60 + vT w * 9) := by rw [nl_0, nn_add]; rfl
    obtain ⟨g1, g2⟩ := eX9_number (d := d) (L := L) hm B2 t2 x2 (lo := 0) (hi := 99) (by decide) (by decide)
    refine am_ofX1 rfl rfl rfl (Nat.le_of_ble_eq_true rfl) ?_
    cases hN : pNum B n 0 99 (nx B n s1) with
    | error e =>
      obtain ⟨c, p⟩ := e
      have hE3 := g2 c p hN
      obtain ⟨e1, e2, e3, e4, e5⟩ := wrS_at (J := J2) (m := m) (c := c) (s := p)
      rw [uTy_2 hk hN]
      obtain ⟨J4, hJ4⟩ : ∃ J4, J4 = am_u (wrS J2 m c p) (m + 1) (60 + vT w * 9) (nn 0) := ⟨_, rfl⟩
      have jm : J4 m = wrS J2 m c p m := by rw [hJ4, am_u_ne (by omega)]
      have x4 : J4 m 23 = 1 := by rw [jm]; exact e1
      refine ⟨J4, head _ ?_, fun k a b c' => by rw [hJ4, am_u_ne b, e4 k a]; exact n2 k a b c', fun j a b c' => by rw [jm, e5 j (by omega) a b]; exact m2 j c', x4, by rw [jm]; exact e2, by rw [jm]; exact e3⟩
      refine bX9_typeTold_106 mo r0 (Nat.zero_le _) (Nat.zero_le _) hE3 ?_
      refine bX9_typeTold_120 a1 (by rw [ei]; exact nn_in (by omega) (by omega)) ?_
      rw [ei, nn_nat (by omega), ← hJ4]
      refine bX9_typeTold_121 mo (fun _ => ?_) (fun z => absurd z (by rw [x4]; decide))
      refine bX9_typeTold_201 mo (Nat.zero_le _) (Nat.zero_le _) (eX9_semicolon_x hm x4) ?_
      refine bX9_typeTold_205 mo (fun _ => ?_) (fun z => absurd z (by rw [x4]; decide))
      refine bX9_typeTold_222 ?_
      exact ⟨rfl, rfl, rfl⟩
    | ok q2 =>
      have o2 := pNum_ok hN
      have p2 := pNum_q hN
      subst p2
      obtain ⟨J3, hE3, t3, fr3⟩ := g1 o2
      obtain ⟨J4, hJ4⟩ : ∃ J4, J4 = am_u J3 (m + 1) (60 + vT w * 9) (nn (vl B n (nx B n s1))) := ⟨_, rfl⟩
      have jm : J4 m = J3 m := by rw [hJ4, am_u_ne (by omega)]
      have t4 : tkM B n J4 m (nx B n (nx B n s1)) := t3.st (fun j _ _ => by rw [jm])
      have B4 : rmB J4 m B n := (B2.frM fr3).st (by rw [jm]) (by rw [hJ4, am_u_ne (by omega)])
      have x4 : J4 m 23 = 0 := by rw [jm]; exact (fr3.2 23 (by decide) (by decide) (by decide) (by decide)).trans x2
      have rw4 : J4 (m + 1) = up (lyW w (60 + vT w * 9 + 2) B s1 (en B n s1 - s1)) (60 + vT w * 9) (nn (vl B n (nx B n s1))) := by rw [hJ4, am_u_up, fr3.1 _ (by omega), rw2]
      have n4 : ∀ k, k ≠ m → k ≠ m + 1 → ¬ (m + 8 ≤ k ∧ k ≤ m + 12) → J4 k = I k := fun k a b c => by rw [hJ4, am_u_ne b]; exact (fr3.1 k a).trans (n2 k a b c)
      have m4 : ∀ j, ¬ (18 ≤ j ∧ j ≤ 24) → J4 m j = I m j := fun j a => by rw [jm]; exact (fr3.2 j (by omega) (by omega) (by omega) (by omega)).trans (m2 j a)
      obtain ⟨R, hR⟩ : ∃ R, R = up (lyW w (60 + vT w * 9 + 2) B s1 (en B n s1 - s1)) (60 + vT w * 9) (nn (vl B n (nx B n s1))) := ⟨_, rfl⟩
      have Rj : ∀ j, j < 60 + vT w * 9 → R j = w j := fun j hj => by rw [hR, up_ne (by omega), lyW_out (Or.inl (by omega))]
      have Rτ : R (60 + vT w * 9 + 1) = nn 0 := by rw [hR, up_ne (by omega), lyW_out (Or.inl (by omega))]; exact hZ _ (Nat.le_refl _) (by omega)
      obtain ⟨wf', vq', vt', vg'⟩ := wfp_ag hw hG Rj
      rw [← hR] at rw4
      obtain ⟨J5, ⟨h1, h3, h4⟩, K5⟩ := mT_go (d := d) (L := L) hm (T := vT w) (by omega) 7 (τ := 0) wf' vg' vt' Rτ (Nat.two_pow_pos _) B4 t4 rw4 x4 (by have := wf'.1.2; omega)
      rw [uTs_cg (w := w) (Rj 0 (by omega)) (fun j a b => Rj j (by omega)) hw.1.2] at h4
      have head2 : ∀ If, am_W m_X9_typeTold (d + 5) 0 0 false 0 0 205 [(0, .ref m), (1, .int (nn (60 + vT w * 9)))] [] Γ J5 L (am_R (.inl none) If L) → am_W m_X9_typeTold (d + 5) 0 0 false 0 0 0 [(0, .ref m)] [] Γ I L (am_R (.inl none) If L) := fun If hW => head If (by
        refine bX9_typeTold_106 mo r0 (Nat.zero_le _) (Nat.zero_le _) hE3 ?_
        refine bX9_typeTold_120 a1 (by rw [ei]; exact nn_in (by omega) (by omega)) ?_
        rw [ei, nn_nat (by omega), ← hJ4]
        exact K5 If hW)
      rw [uTy_t hk hN]
      show ∃ J', am_W m_X9_typeTold (d + 5) 0 0 false 0 0 0 [(0, .ref m)] [] Γ I L (am_R (.inl none) J' L) ∧ mdMid B n m I J' (match uTs B n w 7 (nx B n (nx B n s1)) 0 with | .error e => .error e | .ok (s5, τ) => .ok (s5, typW B n w s1 (nn (vl B n (nx B n s1))) τ))
      cases hU : uTs B n w 7 (nx B n (nx B n s1)) 0 with
      | error e =>
        rw [hU] at h4
        refine ⟨J5, head2 _ ?_, fun k a b c => (h1 k a b c).trans (n4 k a b c), fun j a b c => (h3 j a b c).trans (m4 j c), h4⟩
        refine bX9_typeTold_205 mo (fun _ => ?_) (fun z => absurd z (by rw [h4.1]; decide))
        refine bX9_typeTold_222 ?_
        exact ⟨rfl, rfl, rfl⟩
      | ok q5 =>
        obtain ⟨s5, τ⟩ := q5
        rw [hU] at h4
        obtain ⟨y1, y2, y3, y4⟩ := h4
        have v0 : J5 (m + 1) (1 : Int32).toNatClampNeg = nn (vT w) := by
          rw [y3]
          show up R (60 + vT w * 9 + 1) (nn τ) 1 = _
          rw [up_ne (by omega), Rj 1 (by omega)]
          exact hw.2.1.1
        obtain ⟨J6, hJ6⟩ : ∃ J6, J6 = am_u J5 (m + 1) 1 (nn (vT w + 1)) := ⟨_, rfl⟩
        have jm6 : J6 m = J5 m := by rw [hJ6, am_u_ne (by omega)]
        refine ⟨J6, head2 _ ?_, fun k a b c => by rw [hJ6, am_u_ne b]; exact (h1 k a b c).trans (n4 k a b c), fun j a b c => by rw [jm6]; exact (h3 j a b c).trans (m4 j c), ⟨by rw [jm6]; exact y1.1.trans (m4 11 (by decide)), by rw [jm6]; exact y1.2.trans (m4 12 (by decide))⟩, y2.st (fun j _ _ => by rw [jm6]), ?_, by rw [jm6]; exact y4⟩
        · refine bX9_typeTold_205 mo (fun z => absurd y4 z) (fun _ => ?_)
          refine bX9_typeTold_212 mo r0 a1 (nn_in (k := 1) (by decide) (by decide)) ?_
          refine bX9_typeTold_222 ?_
          rw [v0, nn_s1]
          exact ⟨rfl, hJ6.symm, rfl⟩
        · rw [hJ6, am_u_up, y3, hR]
          unfold typW
          rw [up_cm (by omega)]
end MS2
