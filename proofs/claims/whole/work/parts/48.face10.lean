/-! CLASS AND MODEL SIDE BY SIDE: the stalest, what disagrees -/
section F10
variable {d mc ms : Nat} {Γ : am_G} {I : am_I} {L : am_L} {m : Nat}
/-- both sides' work by types -/
def wbM (w : Nat → Int32) (g e : Nat) : Nat → Int32 := fsum (fun t => w (132 + g * 94 + (10 + t)) * wcA (rw5 w g 0) (rw5 w g 4) (csW w) (nn t) e)
def rB (w : Nat → Int32) (g l : Nat) : Nat := bB (vQ w) (vT w) (qcW w) (yse (vT w) (tyW w)) (tlW w) (ctW w g) (fbq (-1)) (2 ^ vT w - 1) l
def stA (w : Nat → Int32) (g : Nat) : Int32 := mErr w g (teW w g) (vT w) - nn (rB w g (lmW w g) / 33554432)
def stB (w : Nat → Int32) (g : Nat) : Int32 := mWrk w g (vT w) (teW w g) - nn (rB w g (lmW w g) / 8 % 4194304)
theorem REL.frC (R : REL I L) {I1 : am_I} {L1 : am_L} (f1 : ∀ c, c ≠ 3 → c ≠ 4 → c ≠ 5 → I1 c = I c) (fL : ∀ c, c ≠ 2 → L1 c = L c) : REL I1 L1 := by
  have f81 := f1 81 (by decide) (by decide) (by decide)
  have f450 := f1 450 (by decide) (by decide) (by decide)
  exact R.fr (fun c c1 c2 c3 c4 c5 => f1 c (by omega) (by omega) (by omega)) (f1 457 (by decide) (by decide) (by decide)) (by rw [f81]; exact ⟨rfl, rfl, rfl⟩) (by rw [f450]; exact ⟨rfl, rfl, rfl, rfl, rfl⟩) (fun c c1 c2 c3 => fL c (by omega))
theorem REL.frM (R : REL I L) {I1 : am_I} {v : Int32} (f1 : ∀ c, c ≠ 458 → c ≠ 459 → c ≠ 460 → c ≠ 461 → I1 c = am_u I 450 6 v c) : REL I1 L := by
  have e : ∀ j, j ≠ 6 → I1 450 j = I 450 j := fun j hj => by rw [f1 _ (by decide) (by decide) (by decide) (by decide), am_u_at, if_neg (fun z => hj z.2)]
  refine R.fr (fun c c1 c2 c3 c4 c5 => by rw [f1 c (by omega) (by omega) (by omega) (by omega), am_u_ne c4]) (by rw [f1 _ (by decide) (by decide) (by decide) (by decide), am_u_ne (by decide)]) ?_ ⟨e 5 (by decide), e 9 (by decide), e 10 (by decide), e 11 (by decide), e 12 (by decide)⟩ (fun _ _ _ _ => rfl)
  have : I1 81 = I 81 := by rw [f1 _ (by decide) (by decide) (by decide) (by decide), am_u_ne (by decide)]
  rw [this]
  exact ⟨rfl, rfl, rfl⟩
theorem fX_stalestGate (hF : wF Γ) (R : REL I L) : gX Γ I L m_X8_stalestGate m_X9_stalestGate [] [] := by
  obtain ⟨⟨o, f0, f1, f2, f3, f4, f5, f6, f7⟩, so, st, dr, ⟨ro, rr0, rr5, rr6, ra⟩, hi, sv, ⟨oo, or0, or2, oa, oa2⟩, hm, am, am2⟩ := id hF
  obtain ⟨ob, s4, s5, s6, s7, s8, s9, s10, b1, b2, b3, b4, b5, b6, o7, hg⟩ := id st
  obtain ⟨mo, r0, r1, r2, r3, r4, r7, r8, r13, r14, r15, r16, r17, a1, a2, a3, a4, a5, a6, a7, a8, a9, a10, a11, a12⟩ := id hm
  obtain ⟨⟨n0, n1, n2, n3⟩, ⟨w0, w1, w2⟩, q6, t8, g4, q0, t0, g0⟩ := R.nums
  obtain ⟨ho83, hi1, hi2, hi3⟩ := id hi
  have p8 := two_le8 t8
  have l30 : ∀ g, g < vG (I 451) → lmW (I 451) g ≤ 30 ∧ I 451 (132 + g * 94 + 2) = nn (lmW (I 451) g) := fun g h => ⟨(R.1.1.2.2.2.2.2.2 g h).2.2.1.2, (R.1.1.2.2.2.2.2.2 g h).2.2.1.1⟩
  have hC : ∃ I1 L1, am_E m_X8_stalestGate 270 1 6 [.ref 0] Γ I L (.inl (some (.int (stl (stA (I 451)) (stB (I 451)) (vG (I 451))).1))) I1 L1 ∧ (∀ c, c ≠ 3 → c ≠ 4 → c ≠ 5 → I1 c = I c) ∧ ∀ c, c ≠ 2 → L1 c = L c := by
    refine am_ofX rfl rfl rfl (Nat.le_of_ble_eq_true rfl) ?_
    have loop := nn_loop (fun g => ∀ I1 L1, (∀ c, c ≠ 3 → c ≠ 4 → c ≠ 5 → I1 c = I c) → (∀ c, c ≠ 2 → L1 c = L c) → ∃ I' L', am_W m_X8_stalestGate 270 1 6 false 1 6 9 [(0, .ref 0), (1, .int (stl (stA (I 451)) (stB (I 451)) g).1), (2, .int (stl (stA (I 451)) (stB (I 451)) g).2.1), (3, .int (stl (stA (I 451)) (stB (I 451)) g).2.2), (4, .int (nn g))] [] Γ I1 L1 (am_R (.inl (some (.int (stl (stA (I 451)) (stB (I 451)) (vG (I 451))).1))) I' L') ∧ (∀ c, c ≠ 3 → c ≠ 4 → c ≠ 5 → I' c = I c) ∧ ∀ c, c ≠ 2 → L' c = L c) (vG (I 451)) ?_ (fun g hgv ih => ?_)
    · obtain ⟨I', L', hW, hP⟩ := loop I L (fun _ _ _ _ => rfl) (fun _ _ => rfl)
      exact ⟨I', L', bX8_stalestGate_0 hW, hP⟩
    · intro I1 L1 e1 e2
      refine ⟨I1, L1, ?_, e1, e2⟩
      refine bX8_stalestGate_9 o f1 ob (fun _ => ?_) (fun h => absurd (Int32.le_of_eq (by rw [e1 9 (by decide) (by decide) (by decide)]; exact n2)) h)
      refine bX8_stalestGate_109 ?_
      exact ⟨rfl, rfl, rfl⟩
    · intro I1 L1 e1 e2
      have RO := R
      have R1 := R.frC e1 e2
      have q451 : I1 451 = I 451 := e1 451 (by decide) (by decide) (by decide)
      have hgv1 : g < vG (I1 451) := by rw [q451]; exact hgv
      obtain ⟨I2, L2, hB, g1, g2⟩ := eX8_bestRank_t (d := 267) (mc := 0) (ms := 0) hF R1 hgv1 (show lmW (I 451) g ≤ 30 from (l30 g hgv).1)
      have g1' : ∀ c, c ≠ 3 → c ≠ 4 → c ≠ 5 → I2 c = I c := fun c a b c' => (g1 c a b c').trans (e1 c a b c')
      have g2' : ∀ c, c ≠ 2 → L2 c = L c := fun c a => (g2 c a).trans (e2 c a)
      have R2 := R.frC g1' g2'
      have q2 : I2 451 = I 451 := g1' 451 (by decide) (by decide) (by decide)
      have hgv2 : g < vG (I2 451) := by rw [q2]; exact hgv
      have hgx : g < 4 := by omega
      obtain ⟨hg1, hgg⟩ := hg g hgx
      obtain ⟨og, gg4, gg5, ga, tr⟩ := id hgg
      obtain ⟨e, e15, e0, ee, ew, ec, tw, h6, tok, sets⟩ := R2.gate hgv2
      have gE : gc 9 g = 9 + (8 + 7 * g) := rfl
      have lim : I1 (gc 9 g) 3 = nn (lmW (I 451) g) := by rw [e1 _ (by omega) (by omega) (by omega), (R.2.1.2.2.2.2 g hgv).2.2.2.1]; exact (l30 g hgv).2
      have rl := R1.rank_lt hgv1 (-1) (l := lmW (I 451) g) (l30 g hgv).1
      rw [q451] at hB rl
      have hErr : am_E m_X5_errorsNow 269 0 0 [.ref 9, .int (nn g)] Γ I2 L2 (.inl (some (.int (mErr (I 451) g (teW (I 451) g) (vT (I 451)))))) I2 L2 := am_E_e (eX5_errorsNow st hgx e15 e0 ec (show I2 9 1 = nn (vT (I2 451)) from R2.nums.1.2.1) (by rw [q2]; exact t8)) (by rw [R2.err hgv2 ee h6, ee, q2]) rfl
      have hWrk : am_E m_X5_workNow 269 0 0 [.ref 9, .int (nn g)] Γ I2 L2 (.inl (some (.int (mWrk (I 451) g (vT (I 451)) (teW (I 451) g))))) I2 L2 := am_E_e (eX5_workNow st hgx e15 ec tok) (by rw [R2.wrk hgv2 ee h6, ee, q2]) rfl
      have go : ∀ ls : List (Nat × Value), ls.take 5 = [(0, .ref 0), (1, .int (stl (stA (I 451)) (stB (I 451)) (g + 1)).1), (2, .int (stl (stA (I 451)) (stB (I 451)) (g + 1)).2.1), (3, .int (stl (stA (I 451)) (stB (I 451)) (g + 1)).2.2), (4, .int (nn (g + 1)))] → ∃ I' L', am_W m_X8_stalestGate 270 1 6 false 1 6 9 ls [] Γ I2 L2 (am_R (.inl (some (.int (stl (stA (I 451)) (stB (I 451)) (vG (I 451))).1))) I' L') ∧ (∀ c, c ≠ 3 → c ≠ 4 → c ≠ 5 → I' c = I c) ∧ ∀ c, c ≠ 2 → L' c = L c := by
        intro ls hls
        obtain ⟨I', L', hW, hP⟩ := ih I2 L2 g1' g2'
        exact ⟨I', L', aw_take 5 (by rw [hls]; exact hW), hP⟩
      have head : ∀ I' L', (¬ ((stl (stA (I 451)) (stB (I 451)) g).2.1 < stA (I 451) g ∨ (stA (I 451) g = (stl (stA (I 451)) (stB (I 451)) g).2.1 ∧ ¬ stB (I 451) g ≤ (stl (stA (I 451)) (stB (I 451)) g).2.2)) → am_W m_X8_stalestGate 270 1 6 false 1 6 103 [(0, .ref 0), (1, .int (stl (stA (I 451)) (stB (I 451)) g).1), (2, .int (stl (stA (I 451)) (stB (I 451)) g).2.1), (3, .int (stl (stA (I 451)) (stB (I 451)) g).2.2), (4, .int (nn g)), (5, .long (ll (rB (I 451) g (lmW (I 451) g)))), (7, .int (stA (I 451) g)), (8, .int (stB (I 451) g))] [] Γ I2 L2 (am_R (.inl (some (.int (stl (stA (I 451)) (stB (I 451)) (vG (I 451))).1))) I' L')) → (((stl (stA (I 451)) (stB (I 451)) g).2.1 < stA (I 451) g ∨ (stA (I 451) g = (stl (stA (I 451)) (stB (I 451)) g).2.1 ∧ ¬ stB (I 451) g ≤ (stl (stA (I 451)) (stB (I 451)) g).2.2)) → am_W m_X8_stalestGate 270 1 6 false 1 6 103 [(0, .ref 0), (1, .int (nn g)), (2, .int (stA (I 451) g)), (3, .int (stB (I 451) g)), (4, .int (nn g)), (5, .long (ll (rB (I 451) g (lmW (I 451) g)))), (7, .int (stA (I 451) g)), (8, .int (stB (I 451) g))] [] Γ I2 L2 (am_R (.inl (some (.int (stl (stA (I 451)) (stB (I 451)) (vG (I 451))).1))) I' L')) → am_W m_X8_stalestGate 270 1 6 false 1 6 9 [(0, .ref 0), (1, .int (stl (stA (I 451)) (stB (I 451)) g).1), (2, .int (stl (stA (I 451)) (stB (I 451)) g).2.1), (3, .int (stl (stA (I 451)) (stB (I 451)) g).2.2), (4, .int (nn g))] [] Γ I1 L1 (am_R (.inl (some (.int (stl (stA (I 451)) (stB (I 451)) (vG (I 451))).1))) I' L') := by
        intro I' L' hno hyes
        refine bX8_stalestGate_9 o f1 ob (fun h => absurd h (by rw [e1 9 (by decide) (by decide) (by decide), n2, nn_le (by omega) (by omega)]; omega)) (fun _ => ?_)
        refine bX8_stalestGate_21 o f1 ob s9 b6 (nn_in (by omega) (by omega)) (by rw [nn_nat (by omega)]; exact hg1) og (Nat.zero_le _) (Nat.zero_le _) (by rw [lim]; exact hB) ?_
        refine bX8_stalestGate_40 o f1 ob (Nat.zero_le _) (Nat.zero_le _) hErr ?_
        refine bX8_stalestGate_51 (Nat.zero_le _) (Nat.zero_le _) (eX8_errorsOf rl) ?_
        refine bX8_stalestGate_56 o f1 ob (Nat.zero_le _) (Nat.zero_le _) hWrk ?_
        refine bX8_stalestGate_68 (Nat.zero_le _) (Nat.zero_le _) (eX8_workOf rl) ?_
        refine bX8_stalestGate_73 (fun h => ?_) (fun h => ?_)
        · refine bX8_stalestGate_94 ?_
          exact hyes (Or.inl h)
        · refine bX8_stalestGate_82 (fun h2 => ?_) (fun h2 => ?_)
          · exact hno (fun z => z.elim h (fun z => h2 z.1))
          · refine bX8_stalestGate_88 (fun h3 => ?_) (fun h3 => ?_)
            · exact hno (fun z => z.elim h (fun z => z.2 h3))
            · refine bX8_stalestGate_94 ?_
              exact hyes (Or.inr ⟨h2, h3⟩)
      by_cases hc : (stl (stA (I 451)) (stB (I 451)) g).2.1 < stA (I 451) g ∨ (stA (I 451) g = (stl (stA (I 451)) (stB (I 451)) g).2.1 ∧ ¬ stB (I 451) g ≤ (stl (stA (I 451)) (stB (I 451)) g).2.2)
      · have es : stl (stA (I 451)) (stB (I 451)) (g + 1) = (nn g, stA (I 451) g, stB (I 451) g) := if_pos hc
        obtain ⟨I', L', hW, hP⟩ := go [(0, .ref 0), (1, .int (nn g)), (2, .int (stA (I 451) g)), (3, .int (stB (I 451) g)), (4, .int (nn g + 1)), (5, .long (ll (rB (I 451) g (lmW (I 451) g)))), (7, .int (stA (I 451) g)), (8, .int (stB (I 451) g))] (by rw [es, nn_s1]; rfl)
        exact ⟨I', L', head I' L' (fun z => absurd hc z) (fun _ => bX8_stalestGate_103 hW), hP⟩
      · have es : stl (stA (I 451)) (stB (I 451)) (g + 1) = stl (stA (I 451)) (stB (I 451)) g := if_neg hc
        obtain ⟨I', L', hW, hP⟩ := go [(0, .ref 0), (1, .int (stl (stA (I 451)) (stB (I 451)) g).1), (2, .int (stl (stA (I 451)) (stB (I 451)) g).2.1), (3, .int (stl (stA (I 451)) (stB (I 451)) g).2.2), (4, .int (nn g + 1)), (5, .long (ll (rB (I 451) g (lmW (I 451) g)))), (7, .int (stA (I 451) g)), (8, .int (stB (I 451) g))] (by rw [es, nn_s1]; rfl)
        exact ⟨I', L', head I' L' (fun _ => bX8_stalestGate_103 hW) (fun z => absurd z hc), hP⟩
  obtain ⟨I1, L1, hC1, fC, fL⟩ := hC
  have R1 := R.frC fC fL
  have q451 : I1 451 = I 451 := fC 451 (by decide) (by decide) (by decide)
  have hM : ∃ I2, am_E m_X9_stalestGate 280 0 0 [.ref 450] Γ I1 L1 (.inl (some (.int (stl (stA (I 451)) (stB (I 451)) (vG (I 451))).1))) I2 L1 ∧ ∀ c, c ≠ 458 → c ≠ 459 → c ≠ 460 → c ≠ 461 → I2 c = am_u I1 450 6 0 c := by
    refine am_ofX1 rfl rfl rfl (Nat.le_of_ble_eq_true rfl) ?_
    have loop := nn_loop (fun g => ∀ I2, (∀ c, c ≠ 458 → c ≠ 459 → c ≠ 460 → c ≠ 461 → I2 c = am_u I1 450 6 0 c) → ∃ I', am_W m_X9_stalestGate 280 0 0 false 0 0 14 [(0, .ref 450), (1, .int (stl (stA (I 451)) (stB (I 451)) g).1), (2, .int (stl (stA (I 451)) (stB (I 451)) g).2.1), (3, .int (stl (stA (I 451)) (stB (I 451)) g).2.2), (4, .int (nn g))] [] Γ I2 L1 (am_R (.inl (some (.int (stl (stA (I 451)) (stB (I 451)) (vG (I 451))).1))) I' L1) ∧ (∀ c, c ≠ 458 → c ≠ 459 → c ≠ 460 → c ≠ 461 → I' c = am_u I1 450 6 0 c)) (vG (I 451)) ?_ (fun g hgv ih => ?_)
    · obtain ⟨I', hW, hP⟩ := loop _ (fun _ _ _ _ _ => rfl)
      exact ⟨I', bX9_stalestGate_0 mo hW, hP⟩
    · intro I2 e1
      refine ⟨I2, ?_, e1⟩
      have q2 : I2 (450 + 1) = I 451 := by rw [e1 _ (by decide) (by decide) (by decide) (by decide), am_u_ne (by decide)]; exact q451
      refine bX9_stalestGate_14 mo r0 a1 (nn_in (k := 2) (by decide) (by decide)) (fun _ => ?_) (fun h => absurd (Int32.le_of_eq (show I2 (450 + 1) 2 = nn (vG (I 451)) by rw [q2]; exact w2)) h)
      refine bX9_stalestGate_116 ?_
      exact ⟨rfl, rfl, rfl⟩
    · intro I2 e1
      have R2 := R1.frM e1
      have q2 : I2 451 = I 451 := by rw [e1 _ (by decide) (by decide) (by decide) (by decide), am_u_ne (by decide)]; exact q451
      have hgv2 : g < vG (I2 451) := by rw [q2]; exact hgv
      have hgx : g < 4 := by omega
      obtain ⟨I3, hFA, rks, g1⟩ := R2.findM (d := 275) hF (I1 := I2) (L1 := L1) (v := I2 450 6) (fun _ _ _ _ => rfl) hgv2 (-1)
      rw [am_u_same] at hFA g1
      rw [q2] at rks
      have g1' : ∀ c, c ≠ 458 → c ≠ 459 → c ≠ 460 → c ≠ 461 → I3 c = am_u I1 450 6 0 c := fun c a b c' d' => (g1 c a b c' d').trans (e1 c a b c' d')
      have q3 : I3 (450 + 1) = I 451 := by rw [g1 _ (by decide) (by decide) (by decide) (by decide)]; exact q2
      have md3 : mda (I3 (450 + 1)) g (vQ (I 451)) (vT (I 451)) (qcW (I 451)) (tyW (I 451)) (tlW (I 451)) (ctW (I 451) g) := by rw [q3]; exact R.1.1.mda t0 hgv
      have tw3 : trW (I3 (450 + 1)) g (vQ (I 451)) (vT (I 451)) (tyW (I 451)) (teW (I 451) g) := by rw [q3]; exact R.1.1.tr hgv
      obtain ⟨k1, k2, -⟩ := rks (lmW (I 451) g) (l30 g hgv).1
      have hAT : am_E m_X9_ofGate 279 0 0 [.ref 450, .int (nn g), .int 2] Γ I3 L1 (.inl (some (.int (nn (lmW (I 451) g))))) I3 L1 := am_E_e (eX9_ofGate (k := 2) hm hgx (by decide)) (by rw [q3]; exact (l30 g hgv).2) rfl
      have p2 : 0 < 2 ^ vT (I 451) := Nat.pow_pos (by decide)
      have hl := (l30 g hgv).1
      generalize hA : (2 ^ vT (I 451) - 1) * 31 + lmW (I 451) g = A at *
      have hAl : A < 7936 := by omega
      have hErr : am_E m_X9_errorsOf 279 0 0 [.ref 450, .int (nn g)] Γ I3 L1 (.inl (some (.int (mErr (I 451) g (teW (I 451) g) (vT (I 451)))))) I3 L1 := am_E_e (eX9_errorsOf hm hgx md3 tw3) (by rw [q3]) rfl
      have hWrk : am_E m_X9_workOf 279 0 0 [.ref 450, .int (nn g)] Γ I3 L1 (.inl (some (.int (mWrk (I 451) g (vT (I 451)) (teW (I 451) g))))) I3 L1 := am_E_e (eX9_workOf hm hgx md3 tw3) (by rw [q3]) rfl
      have go : ∀ ls : List (Nat × Value), ls.take 5 = [(0, .ref 450), (1, .int (stl (stA (I 451)) (stB (I 451)) (g + 1)).1), (2, .int (stl (stA (I 451)) (stB (I 451)) (g + 1)).2.1), (3, .int (stl (stA (I 451)) (stB (I 451)) (g + 1)).2.2), (4, .int (nn (g + 1)))] → ∃ I', am_W m_X9_stalestGate 280 0 0 false 0 0 14 ls [] Γ I3 L1 (am_R (.inl (some (.int (stl (stA (I 451)) (stB (I 451)) (vG (I 451))).1))) I' L1) ∧ (∀ c, c ≠ 458 → c ≠ 459 → c ≠ 460 → c ≠ 461 → I' c = am_u I1 450 6 0 c) := by
        intro ls hls
        obtain ⟨I', hW, hP⟩ := ih I3 g1'
        exact ⟨I', aw_take 5 (by rw [hls]; exact hW), hP⟩
      have head : ∀ I', (¬ ((stl (stA (I 451)) (stB (I 451)) g).2.1 < stA (I 451) g ∨ (stA (I 451) g = (stl (stA (I 451)) (stB (I 451)) g).2.1 ∧ ¬ stB (I 451) g ≤ (stl (stA (I 451)) (stB (I 451)) g).2.2)) → am_W m_X9_stalestGate 280 0 0 false 0 0 110 [(0, .ref 450), (1, .int (stl (stA (I 451)) (stB (I 451)) g).1), (2, .int (stl (stA (I 451)) (stB (I 451)) g).2.1), (3, .int (stl (stA (I 451)) (stB (I 451)) g).2.2), (4, .int (nn g)), (5, .int (nn A)), (6, .int (stA (I 451) g)), (7, .int (stB (I 451) g))] [] Γ I3 L1 (am_R (.inl (some (.int (stl (stA (I 451)) (stB (I 451)) (vG (I 451))).1))) I' L1)) → (((stl (stA (I 451)) (stB (I 451)) g).2.1 < stA (I 451) g ∨ (stA (I 451) g = (stl (stA (I 451)) (stB (I 451)) g).2.1 ∧ ¬ stB (I 451) g ≤ (stl (stA (I 451)) (stB (I 451)) g).2.2)) → am_W m_X9_stalestGate 280 0 0 false 0 0 110 [(0, .ref 450), (1, .int (nn g)), (2, .int (stA (I 451) g)), (3, .int (stB (I 451) g)), (4, .int (nn g)), (5, .int (nn A)), (6, .int (stA (I 451) g)), (7, .int (stB (I 451) g))] [] Γ I3 L1 (am_R (.inl (some (.int (stl (stA (I 451)) (stB (I 451)) (vG (I 451))).1))) I' L1)) → am_W m_X9_stalestGate 280 0 0 false 0 0 14 [(0, .ref 450), (1, .int (stl (stA (I 451)) (stB (I 451)) g).1), (2, .int (stl (stA (I 451)) (stB (I 451)) g).2.1), (3, .int (stl (stA (I 451)) (stB (I 451)) g).2.2), (4, .int (nn g))] [] Γ I2 L1 (am_R (.inl (some (.int (stl (stA (I 451)) (stB (I 451)) (vG (I 451))).1))) I' L1) := by
        intro I' hno hyes
        refine bX9_stalestGate_14 mo r0 a1 (nn_in (k := 2) (by decide) (by decide)) (fun h => absurd h (by show ¬ I2 451 2 ≤ nn g; rw [q2, w2, nn_le (by omega) (by omega)]; omega)) (fun _ => ?_)
        refine bX9_stalestGate_25 mo (Nat.zero_le _) (Nat.zero_le _) hFA ?_
        refine bX9_stalestGate_32 mo (Nat.zero_le _) (Nat.zero_le _) (eX9_allTypes hm (T := vT (I 451)) (by rw [q3]; exact w1) t8) ?_
        refine bX9_stalestGate_36 mo (Nat.zero_le _) (Nat.zero_le _) hAT ?_
        refine bX9_stalestGate_43 (Nat.zero_le _) (Nat.zero_le _) (am_E_e (w := nn A) (eX9_at (by omega) hl) (by rw [hA]) rfl) ?_
        refine bX9_stalestGate_46 mo (Nat.zero_le _) (Nat.zero_le _) hErr ?_
        have eI : (nn A).toNatClampNeg = A := nn_nat (by omega)
        refine bX9_stalestGate_54 mo (by assumption) (by assumption) (nn_in (by omega) (by omega)) (Nat.zero_le _) (Nat.zero_le _) hWrk ?_
        refine bX9_stalestGate_70 mo (by assumption) (by assumption) (nn_in (by omega) (by omega)) (fun h => ?_) (fun h => ?_)
        · rw [eI, k1, k2]
          rw [eI, k1] at h
          have h' : stA (I 451) g < (stl (stA (I 451)) (stB (I 451)) g).2.1 := h
          exact hno (fun z => z.elim (fun q => Int32.lt_irrefl (Int32.lt_trans q h')) (fun q => by rw [q.1] at h'; exact Int32.lt_irrefl h'))
        · rw [eI, k1, k2]
          rw [eI, k1] at h
          refine bX9_stalestGate_86 (fun h2 => ?_) (fun h2 => ?_)
          · refine bX9_stalestGate_101 ?_
            exact hyes (Or.inl (Int32.lt_of_le_of_ne (Int32.not_lt.mp h) (fun q => h2 q.symm)))
          · refine bX9_stalestGate_92 (fun h3 => ?_) (fun h3 => ?_)
            · refine bX9_stalestGate_101 ?_
              exact hyes (Or.inr ⟨h2, Int32.not_le.mpr h3⟩)
            · refine bX9_stalestGate_98 ?_
              have h2' : stA (I 451) g = (stl (stA (I 451)) (stB (I 451)) g).2.1 := h2
              exact hno (fun z => z.elim (fun q => by rw [h2'] at q; exact Int32.lt_irrefl q) (fun q => h3 (Int32.not_le.mp q.2)))
      by_cases hc : (stl (stA (I 451)) (stB (I 451)) g).2.1 < stA (I 451) g ∨ (stA (I 451) g = (stl (stA (I 451)) (stB (I 451)) g).2.1 ∧ ¬ stB (I 451) g ≤ (stl (stA (I 451)) (stB (I 451)) g).2.2)
      · have es : stl (stA (I 451)) (stB (I 451)) (g + 1) = (nn g, stA (I 451) g, stB (I 451) g) := if_pos hc
        obtain ⟨I', hW, hP⟩ := go [(0, .ref 450), (1, .int (nn g)), (2, .int (stA (I 451) g)), (3, .int (stB (I 451) g)), (4, .int (nn g + 1)), (5, .int (nn A)), (6, .int (stA (I 451) g)), (7, .int (stB (I 451) g))] (by rw [es, nn_s1]; rfl)
        exact ⟨I', head I' (fun z => absurd hc z) (fun _ => bX9_stalestGate_110 hW), hP⟩
      · have es : stl (stA (I 451)) (stB (I 451)) (g + 1) = stl (stA (I 451)) (stB (I 451)) g := if_neg hc
        obtain ⟨I', hW, hP⟩ := go [(0, .ref 450), (1, .int (stl (stA (I 451)) (stB (I 451)) g).1), (2, .int (stl (stA (I 451)) (stB (I 451)) g).2.1), (3, .int (stl (stA (I 451)) (stB (I 451)) g).2.2), (4, .int (nn g + 1)), (5, .int (nn A)), (6, .int (stA (I 451) g)), (7, .int (stB (I 451) g))] (by rw [es, nn_s1]; rfl)
        exact ⟨I', head I' (fun _ => bX9_stalestGate_110 hW) (fun z => absurd z hc), hP⟩
  obtain ⟨I2, hM2, fM⟩ := hM
  exact ⟨I1, L1, I2, _, _, hC1, hM2, R1.frM fM, Or.inl ⟨rfl, by rw [fM 450 (by decide) (by decide) (by decide) (by decide), am_u_at, if_pos ⟨rfl, rfl⟩]⟩⟩
end F10

