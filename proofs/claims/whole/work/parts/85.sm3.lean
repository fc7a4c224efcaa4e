/-! THE TEXT'S SETUP: the model, a gate -/
section MS3
variable {d : Nat} {Γ : am_G} {L : am_L} {B : Nat → Nat} {n m : Nat}
theorem mG_go (hm : mdF Γ m) {G T : Nat} (hG : G < 4) (hT : T ≤ 8) : ∀ (k : Nat) {t s : Nat} {R : Nat → Int32} {J : am_I}, t + k = T → R 1 = nn T → rmB J m B n → tkM B n J m s → J (m + 1) = R → J m 23 = 0 → ∃ J' v2, mdMid B n m J J' (uCm B n (132 + G * 94) k t s R) ∧ ∀ If, am_W m_X9_gateTold (d + 5) 0 0 false 0 0 221 [(0, .ref m), (1, .int (nn G)), (2, .int v2)] [] Γ J' L (am_R (.inl none) If L) → am_W m_X9_gateTold (d + 5) 0 0 false 0 0 147 [(0, .ref m), (1, .int (nn G)), (2, .int (nn t))] [] Γ J L (am_R (.inl none) If L)
  | 0, t, s, R, J, hk, h1, hB, ht, hr, h23 => by
    obtain ⟨mo, r0, r1, r2, r3, r4, r7, r8, r13, r14, r15, r16, r17, a1, a2, a3, a4, a5, a6, a7, a8, a9, a10, a11, a12⟩ := id hm
    have hk4 := kd_le B n s
    have hk2 : (J m 19 = 2) ↔ kd B n s = 1 := (ht.k19 (k := 2) (by decide)).trans (kdM_2 hk4)
    have hle : J (m + 1) (1 : Int32).toNatClampNeg ≤ nn t := by
      rw [hr, show R (1 : Int32).toNatClampNeg = nn T from h1, nn_le (by omega) (by omega)]
      omega
    have hd : ∀ If, am_W m_X9_gateTold (d + 5) 0 0 false 0 0 194 [(0, .ref m), (1, .int (nn G)), (2, .int (nn t))] [] Γ J L (am_R (.inl none) If L) → am_W m_X9_gateTold (d + 5) 0 0 false 0 0 147 [(0, .ref m), (1, .int (nn G)), (2, .int (nn t))] [] Γ J L (am_R (.inl none) If L) := fun If h => by
      refine bX9_gateTold_147 mo r0 a1 (nn_in (k := 1) (by decide) (by decide)) (fun _ => ?_) (fun z => absurd hle z)
      exact bX9_gateTold_187 mo (fun z => absurd h23 z) (fun _ => h)
    by_cases hd1 : kd B n s = 1
    · obtain ⟨g1, g2⟩ := eX9_here (d := d + 3) (L := L) hm ht h23 (lo := 0) (hi := 9999) (by decide) (by decide)
      by_cases hv : vl B n s ≤ 9999
      · have hmr : uMore B n s = .error (5, s) := by unfold uMore; rw [if_pos hd1, if_pos hv]
        have hE := g1 ⟨hd1, Nat.zero_le _, hv⟩
        obtain ⟨e1, e2, e3, e4, e5⟩ := wrS_at (J := J) (m := m) (c := 5) (s := s)
        rw [uCm_0e hmr]
        refine ⟨wrS J m 5 s, nn (vl B n s), ⟨fun k a b c' => e4 k a, fun j a b c' => e5 j (by omega) a b, e1, e2, e3⟩, fun If h => hd If ?_⟩
        refine bX9_gateTold_194 mo (fun z => absurd (hk2.mpr hd1) z) (fun _ => ?_)
        refine bX9_gateTold_202 mo (Nat.zero_le _) (Nat.zero_le _) hE ?_
        refine bX9_gateTold_210 mo (Nat.zero_le _) (Nat.zero_le _) (eX9_wrong_1 hm h23 ht.2.1 5) ?_
        exact bX9_gateTold_217 mo (Nat.zero_le _) (Nat.zero_le _) (eX9_semicolon_x hm e1) h
      · have hmr : uMore B n s = .error (2, s) := by unfold uMore; rw [if_pos hd1, if_neg hv]
        have hN : pNum B n 0 9999 s = .error (2, s) := by unfold pNum; rw [if_pos hd1, if_neg (fun z => hv z.2)]
        have hE := g2 _ _ hN
        obtain ⟨e1, e2, e3, e4, e5⟩ := wrS_at (J := J) (m := m) (c := 2) (s := s)
        rw [uCm_0e hmr]
        refine ⟨wrS J m 2 s, nn 0, ⟨fun k a b c' => e4 k a, fun j a b c' => e5 j (by omega) a b, e1, e2, e3⟩, fun If h => hd If ?_⟩
        refine bX9_gateTold_194 mo (fun z => absurd (hk2.mpr hd1) z) (fun _ => ?_)
        refine bX9_gateTold_202 mo (Nat.zero_le _) (Nat.zero_le _) hE ?_
        refine bX9_gateTold_210 mo (Nat.zero_le _) (Nat.zero_le _) (eX9_wrong_x hm e1 _ _) ?_
        exact bX9_gateTold_217 mo (Nat.zero_le _) (Nat.zero_le _) (eX9_semicolon_x hm e1) h
    · have hmr : uMore B n s = pSem B n s := by unfold uMore; rw [if_neg hd1]
      obtain ⟨g3, g4⟩ := eX9_semicolon (d := d) (L := L) hm hB ht h23
      by_cases h2 : kd B n s = 2
      · obtain ⟨J5, hE5, t5, fr5⟩ := g3 h2
        have hS : pSem B n s = .ok (nx B n s, 1) := by unfold pSem; rw [if_pos h2]
        rw [uCm_0 (hmr.trans hS)]
        refine ⟨J5, nn t, ⟨fun k a b c => fr5.1 k a, fun j a b c => fr5.2 j (by omega) (by omega) (by omega) (by omega), ⟨fr5.2 11 (by decide) (by decide) (by decide) (by decide), fr5.2 12 (by decide) (by decide) (by decide) (by decide)⟩, t5, (fr5.1 _ (by omega)).trans hr, (fr5.2 23 (by decide) (by decide) (by decide) (by decide)).trans h23⟩, fun If h => hd If ?_⟩
        refine bX9_gateTold_194 mo (fun _ => ?_) (fun z => absurd (hk2.mp z) hd1)
        exact bX9_gateTold_217 mo (Nat.zero_le _) (Nat.zero_le _) hE5 h
      · have hE5 := g4 h2
        have hS : pSem B n s = .error (1, s) := by unfold pSem; rw [if_neg h2]
        obtain ⟨e1, e2, e3, e4, e5⟩ := wrS_at (J := J) (m := m) (c := 1) (s := s)
        rw [uCm_0e (hmr.trans hS)]
        refine ⟨wrS J m 1 s, nn t, ⟨fun k a b c' => e4 k a, fun j a b c' => e5 j (by omega) a b, e1, e2, e3⟩, fun If h => hd If ?_⟩
        refine bX9_gateTold_194 mo (fun _ => ?_) (fun z => absurd (hk2.mp z) hd1)
        exact bX9_gateTold_217 mo (Nat.zero_le _) (Nat.zero_le _) hE5 h
  | k + 1, t, s, R, J, hk, h1, hB, ht, hr, h23 => by
    obtain ⟨mo, r0, r1, r2, r3, r4, r7, r8, r13, r14, r15, r16, r17, a1, a2, a3, a4, a5, a6, a7, a8, a9, a10, a11, a12⟩ := id hm
    have hle : ¬ J (m + 1) (1 : Int32).toNatClampNeg ≤ nn t := by
      rw [hr, show R (1 : Int32).toNatClampNeg = nn T from h1, nn_le (by omega) (by omega)]
      omega
    have e10 : (10 + nn t : Int32) = nn (10 + t) := by rw [nl_10, nn_add]
    have hd : ∀ If, am_W m_X9_gateTold (d + 5) 0 0 false 0 0 164 [(0, .ref m), (1, .int (nn G)), (2, .int (nn t))] [] Γ J L (am_R (.inl none) If L) → am_W m_X9_gateTold (d + 5) 0 0 false 0 0 147 [(0, .ref m), (1, .int (nn G)), (2, .int (nn t))] [] Γ J L (am_R (.inl none) If L) := fun If h => by
      refine bX9_gateTold_147 mo r0 a1 (nn_in (k := 1) (by decide) (by decide)) (fun z => absurd z hle) (fun _ => ?_)
      exact bX9_gateTold_157 mo (fun z => absurd h23 z) (fun _ => h)
    obtain ⟨g1, g2⟩ := eX9_number (d := d) (L := L) hm hB ht h23 (lo := 0) (hi := 9999) (by decide) (by decide)
    cases hN : pNum B n 0 9999 s with
    | error e =>
      obtain ⟨c, p⟩ := e
      have hE3 := g2 c p hN
      obtain ⟨e1, e2, e3, e4, e5⟩ := wrS_at (J := J) (m := m) (c := c) (s := p)
      rw [uCm_e hN]
      obtain ⟨J4, hJ4⟩ : ∃ J4, J4 = am_u (wrS J m c p) (m + 1) (132 + G * 94 + (10 + t)) (nn 0) := ⟨_, rfl⟩
      have jm : J4 m = wrS J m c p m := by rw [hJ4, am_u_ne (by omega)]
      have x4 : J4 m 23 = 1 := by rw [jm]; exact e1
      refine ⟨J4, nn t + 1, ⟨fun k a b c' => by rw [hJ4, am_u_ne b, e4 k a], fun j a b c' => by rw [jm, e5 j (by omega) a b], x4, by rw [jm]; exact e2, by rw [jm]; exact e3⟩, fun If h => hd If ?_⟩
      have t187 : am_W m_X9_gateTold (d + 5) 0 0 false 0 0 187 [(0, .ref m), (1, .int (nn G)), (2, .int (nn t + 1))] [] Γ J4 L (am_R (.inl none) If L) := by
        refine bX9_gateTold_187 mo (fun _ => ?_) (fun z => absurd z (by rw [x4]; decide))
        exact bX9_gateTold_217 mo (Nat.zero_le _) (Nat.zero_le _) (eX9_semicolon_x hm x4) h
      refine bX9_gateTold_164 mo (Nat.zero_le _) (Nat.zero_le _) hE3 ?_
      refine bX9_gateTold_178 mo (Nat.zero_le _) (Nat.zero_le _) (by rw [e10]; exact eX9_putGate hm hG (show 10 + t < 94 by omega) _) ?_
      rw [← hJ4]
      refine bX9_gateTold_181 ?_
      refine bX9_gateTold_147 mo r0 a1 (nn_in (k := 1) (by decide) (by decide)) (fun _ => t187) (fun _ => ?_)
      exact bX9_gateTold_157 mo (fun _ => t187) (fun z => absurd z (by rw [x4]; decide))
    | ok q2 =>
      have o2 := pNum_ok hN
      have p2 := pNum_q hN
      subst p2
      obtain ⟨J3, hE3, t3, fr3⟩ := g1 o2
      obtain ⟨J4, hJ4⟩ : ∃ J4, J4 = am_u J3 (m + 1) (132 + G * 94 + (10 + t)) (nn (vl B n s)) := ⟨_, rfl⟩
      have jm : J4 m = J3 m := by rw [hJ4, am_u_ne (by omega)]
      have t4 : tkM B n J4 m (nx B n s) := t3.st (fun j _ _ => by rw [jm])
      have B4 : rmB J4 m B n := (hB.frM fr3).st (by rw [jm]) (by rw [hJ4, am_u_ne (by omega)])
      have x4 : J4 m 23 = 0 := by rw [jm]; exact (fr3.2 23 (by decide) (by decide) (by decide) (by decide)).trans h23
      have rw4 : J4 (m + 1) = up R (132 + G * 94 + (10 + t)) (nn (vl B n s)) := by rw [hJ4, am_u_up, fr3.1 _ (by omega), hr]
      obtain ⟨J', v2, hM, K⟩ := mG_go hm hG hT k (t := t + 1) (s := nx B n s) (R := up R (132 + G * 94 + (10 + t)) (nn (vl B n s))) (J := J4) (by omega) (by rw [up_ne (by omega)]; exact h1) B4 t4 rw4 x4
      have n4 : ∀ k, k ≠ m → k ≠ m + 1 → ¬ (m + 8 ≤ k ∧ k ≤ m + 12) → J4 k = J k := fun k a b c => by rw [hJ4, am_u_ne b]; exact fr3.1 k a
      have m4 : ∀ j, ¬ (18 ≤ j ∧ j ≤ 24) → J4 m j = J m j := fun j a => by rw [jm]; exact fr3.2 j (by omega) (by omega) (by omega) (by omega)
      rw [uCm_s hN]
      refine ⟨J', v2, hM.pre n4 (fun j _ _ c => m4 j c) ⟨m4 11 (by decide), m4 12 (by decide)⟩, fun If h => hd If ?_⟩
      refine bX9_gateTold_164 mo (Nat.zero_le _) (Nat.zero_le _) hE3 ?_
      refine bX9_gateTold_178 mo (Nat.zero_le _) (Nat.zero_le _) (by rw [e10]; exact eX9_putGate hm hG (show 10 + t < 94 by omega) _) ?_
      rw [← hJ4]
      refine bX9_gateTold_181 ?_
      rw [nn_s1]
      exact K If h
theorem ix_g3 (g : Nat) : (132 + nn g * 94 + 3 : Int32) = nn (132 + g * 94 + 3) := by rw [show (132 : Int32) = nn 132 from rfl, show (94 : Int32) = nn 94 from rfl, show (3 : Int32) = nn 3 from rfl, nn_mul, nn_add, nn_add]
theorem eX9_gateTold (hm : mdF Γ m) {s : Nat} {w : Nat → Int32} {I : am_I} (hI : gInv w) (hB : rmB I m B n) (ht : tkM B n I m s) (hr : I (m + 1) = w) (h23 : I m 23 = 0) : ∃ J, am_E m_X9_gateTold (d + 262) 0 0 [.ref m] Γ I L (.inl none) J L ∧ mdMid B n m I J (uUn B n 4 4 vG (uGa B n) w s) := by
  obtain ⟨mo, r0, r1, r2, r3, r4, r7, r8, r13, r14, r15, r16, r17, a1, a2, a3, a4, a5, a6, a7, a8, a9, a10, a11, a12⟩ := id hm
  obtain ⟨hw, hQ0, hT0⟩ := hI
  obtain ⟨hE, hO⟩ := hd_G (d := d + 257) (L := L) hm hw hB ht hr h23
  cases hH : uHd B n 4 4 vG 135 94 w s with
  | error e =>
    obtain ⟨J, h1, h2⟩ := hE e.1 e.2 hH
    rw [uHd_e (fun e h => uGa_1 (uGh_1 h)) hH]
    exact ⟨J, h1, h2⟩
  | ok q =>
    obtain ⟨J, tJ, nJ, kJ, jJ, K⟩ := hO q hH
    obtain ⟨hx, h6, hk, hu⟩ := uHd_o (u := uGa B n) hH
    obtain ⟨hnm, hm1⟩ := pNew_q hk
    obtain ⟨l6, -⟩ := nmb_len hnm
    have t8 := hw.2.1.2
    have g4 := hw.2.2.1.2
    have hG4 : vG w < 4 := by omega
    rw [hu]
    generalize hs1 : nx B n s = s1 at *
    have jr : J (m + 1) = w := (kJ _ (by omega) (by omega)).trans hr
    have BJ : rmB J m B n := hB.st (jJ 9 (by omega)) (kJ _ (by omega) (by omega))
    obtain ⟨J1, hE1, r1', k1⟩ := eX9_layName (d := d + 261) (L := L) hm nJ l6 (show 132 + vG w * 94 + 3 + 7 ≤ 508 by omega)
    rw [jr] at r1'
    have m1 : J1 m = J m := k1 m (by omega)
    have t1 : tkM B n J1 m s1 := tJ.st (fun j _ _ => by rw [m1])
    have B1 : rmB J1 m B n := BJ.st (by rw [m1]) (k1 _ (by omega))
    have x1 : J1 m 23 = 0 := by rw [m1]; exact (jJ 23 (by omega)).trans h23
    obtain ⟨J2, hE2, t2, fr2⟩ := eX9_go (d := d + 258) (L := L) hm B1 t1 x1
    have x2 : J2 m 23 = 0 := (fr2.2 23 (by decide) (by decide) (by decide) (by decide)).trans x1
    have B2 := B1.frM fr2
    have rw2 : J2 (m + 1) = lyW w (132 + vG w * 94 + 3) B s1 (en B n s1 - s1) := (fr2.1 _ (by omega)).trans r1'
    have n2 : ∀ k, k ≠ m → k ≠ m + 1 → ¬ (m + 8 ≤ k ∧ k ≤ m + 12) → J2 k = I k := fun k a b c => (fr2.1 k a).trans ((k1 k b).trans (kJ k a (by omega)))
    have m2 : ∀ j, ¬ (18 ≤ j ∧ j ≤ 24) → J2 m j = I m j := fun j a => (fr2.2 j (by omega) (by omega) (by omega) (by omega)).trans (by rw [m1]; exact jJ j (by omega))
    have w0 : J (m + 1) (2 : Int32).toNatClampNeg = nn (vG w) := by rw [jr]; exact hw.2.2.1.1
    have head : ∀ If, am_W m_X9_gateTold (d + 262) 0 0 false 0 0 106 [(0, .ref m), (1, .int (nn (vG w)))] [] Γ J2 L (am_R (.inl none) If L) → am_W m_X9_gateTold (d + 262) 0 0 false 0 0 0 [(0, .ref m)] [] Γ I L (am_R (.inl none) If L) := fun If hW => K If (by
      refine bX9_gateTold_81 mo r0 a1 (nn_in (k := 2) (by decide) (by decide)) (Nat.zero_le _) (Nat.zero_le _) (by rw [w0, ix_g3]; exact hE1) ?_
      rw [w0]
      refine bX9_gateTold_102 mo (Nat.zero_le _) (Nat.zero_le _) hE2 ?_
      exact hW)
    -- once wrong
    have tl147 : ∀ (W : am_I) (v2 : Int32), W m 23 = 1 → am_W m_X9_gateTold (d + 262) 0 0 false 0 0 147 [(0, .ref m), (1, .int (nn (vG w))), (2, .int v2)] [] Γ W L (am_R (.inl none) W L) := fun W v2 hW => by
      have t187 : am_W m_X9_gateTold (d + 262) 0 0 false 0 0 187 [(0, .ref m), (1, .int (nn (vG w))), (2, .int v2)] [] Γ W L (am_R (.inl none) W L) := by
        refine bX9_gateTold_187 mo (fun _ => ?_) (fun z => absurd z (by rw [hW]; decide))
        refine bX9_gateTold_217 mo (Nat.zero_le _) (Nat.zero_le _) (eX9_semicolon_x hm hW) ?_
        refine bX9_gateTold_221 mo (fun z => absurd z (by rw [hW]; decide)) (fun _ => ?_)
        refine bX9_gateTold_228 ?_
        exact ⟨rfl, rfl, rfl⟩
      refine bX9_gateTold_147 mo r0 a1 (nn_in (k := 1) (by decide) (by decide)) (fun _ => t187) (fun _ => ?_)
      exact bX9_gateTold_157 mo (fun _ => t187) (fun z => absurd z (by rw [hW]; decide))
    have pg : ∀ (W : am_I) (i : Nat) (v : Int32), i < 94 → am_E m_X9_putGate (d + 261) 0 0 [.ref m, .int (nn (vG w)), .int (nn i), .int v] Γ W L (.inl none) (am_u W (m + 1) (132 + vG w * 94 + i) v) L := fun W i v hi => eX9_putGate hm hG4 hi v
    have au23 : ∀ (W : am_I) (i : Nat) (v : Int32), am_u W (m + 1) i v m = W m := fun W i v => am_u_ne (by omega)
    have tl132 : ∀ (W : am_I), W m 23 = 1 → ∃ W', am_W m_X9_gateTold (d + 262) 0 0 false 0 0 132 [(0, .ref m), (1, .int (nn (vG w)))] [] Γ W L (am_R (.inl none) W' L) ∧ ∀ k, k ≠ m + 1 → W' k = W k := fun W hW => by
      refine ⟨am_u W (m + 1) (132 + vG w * 94 + 2) 0, ?_, fun k hk => am_u_ne hk⟩
      refine bX9_gateTold_132 mo (Nat.zero_le _) (Nat.zero_le _) (eX9_number_x (d := d + 259) hm hW _ _) ?_
      refine bX9_gateTold_142 mo (Nat.zero_le _) (Nat.zero_le _) (pg W 2 0 (by decide)) ?_
      refine bX9_gateTold_145 ?_
      exact tl147 _ _ (by rw [au23]; exact hW)
    have tl119 : ∀ (W : am_I), W m 23 = 1 → ∃ W', am_W m_X9_gateTold (d + 262) 0 0 false 0 0 119 [(0, .ref m), (1, .int (nn (vG w)))] [] Γ W L (am_R (.inl none) W' L) ∧ ∀ k, k ≠ m + 1 → W' k = W k := fun W hW => by
      obtain ⟨W', h1, h2⟩ := tl132 (am_u W (m + 1) (132 + vG w * 94 + 1) 0) (by rw [au23]; exact hW)
      refine ⟨W', ?_, fun k hk => (h2 k hk).trans (am_u_ne hk)⟩
      refine bX9_gateTold_119 mo (Nat.zero_le _) (Nat.zero_le _) (eX9_number_x (d := d + 259) hm hW _ _) ?_
      exact bX9_gateTold_129 mo (Nat.zero_le _) (Nat.zero_le _) (pg W 1 0 (by decide)) h1
    have bad : ∀ (J0 W W' : am_I) (c p : Nat), (∀ k, k ≠ m → k ≠ m + 1 → ¬ (m + 8 ≤ k ∧ k ≤ m + 12) → J0 k = I k) → (∀ j, ¬ (18 ≤ j ∧ j ≤ 24) → J0 m j = I m j) → (∀ k, k ≠ m + 1 → W k = wrS J0 m c p k) → (∀ k, k ≠ m + 1 → W' k = W k) → mdMid B n m I W' (.error (c, p)) := fun J0 W W' c p h1 h2 h3 h4 => by
      obtain ⟨e1, e2, e3, e4, e5⟩ := wrS_at (J := J0) (m := m) (c := c) (s := p)
      have em : W' m = wrS J0 m c p m := (h4 m (by omega)).trans (h3 m (by omega))
      exact ⟨fun k a b c' => ((h4 k b).trans (h3 k b)).trans ((e4 k a).trans (h1 k a b c')), fun j a b c' => by rw [em, e5 j (by omega) a b]; exact h2 j c', by rw [em]; exact e1, by rw [em]; exact e2, by rw [em]; exact e3⟩
    refine am_ofX1 rfl rfl rfl (Nat.le_of_ble_eq_true rfl) ?_
    -- the opening
    obtain ⟨g1, g2⟩ := eX9_number (d := d + 257) (L := L) hm B2 t2 x2 (lo := 0) (hi := 23) (by decide) (by decide)
    cases hN : pNum B n 0 23 (nx B n s1) with
    | error e =>
      obtain ⟨c, p⟩ := e
      have hE3 := g2 c p hN
      rw [uGa_1 (uGh_2 hk hN)]
      obtain ⟨W', h1, h2⟩ := tl119 (am_u (wrS J2 m c p) (m + 1) (132 + vG w * 94 + 0) (nn 0)) (by rw [au23]; exact wrS_at.1)
      refine ⟨W', head _ ?_, bad J2 _ W' c p n2 m2 (fun k hk => am_u_ne hk) h2⟩
      refine bX9_gateTold_106 mo (Nat.zero_le _) (Nat.zero_le _) hE3 ?_
      exact bX9_gateTold_116 mo (Nat.zero_le _) (Nat.zero_le _) (pg _ 0 _ (by decide)) h1
    | ok q2 =>
      have p2 := pNum_q hN
      have o2 := pNum_ok hN
      subst p2
      obtain ⟨J3, hE3, t3, fr3⟩ := g1 o2
      obtain ⟨J4, hJ4⟩ : ∃ J4, J4 = am_u J3 (m + 1) (132 + vG w * 94 + 0) (nn (vl B n (nx B n s1))) := ⟨_, rfl⟩
      have jm4 : J4 m = J3 m := by rw [hJ4, am_u_ne (by omega)]
      have t4 : tkM B n J4 m (nx B n (nx B n s1)) := t3.st (fun j _ _ => by rw [jm4])
      have B4 : rmB J4 m B n := (B2.frM fr3).st (by rw [jm4]) (by rw [hJ4, am_u_ne (by omega)])
      have x4 : J4 m 23 = 0 := by rw [jm4]; exact (fr3.2 23 (by decide) (by decide) (by decide) (by decide)).trans x2
      have rw4 : J4 (m + 1) = up (lyW w (132 + vG w * 94 + 3) B s1 (en B n s1 - s1)) (132 + vG w * 94 + 0) (nn (vl B n (nx B n s1))) := by rw [hJ4, am_u_up, fr3.1 _ (by omega), rw2]
      have n4 : ∀ k, k ≠ m → k ≠ m + 1 → ¬ (m + 8 ≤ k ∧ k ≤ m + 12) → J4 k = I k := fun k a b c => by rw [hJ4, am_u_ne b]; exact (fr3.1 k a).trans (n2 k a b c)
      have m4 : ∀ j, ¬ (18 ≤ j ∧ j ≤ 24) → J4 m j = I m j := fun j a => by rw [jm4]; exact (fr3.2 j (by omega) (by omega) (by omega) (by omega)).trans (m2 j a)
      have head2 : ∀ If, am_W m_X9_gateTold (d + 262) 0 0 false 0 0 119 [(0, .ref m), (1, .int (nn (vG w)))] [] Γ J4 L (am_R (.inl none) If L) → am_W m_X9_gateTold (d + 262) 0 0 false 0 0 0 [(0, .ref m)] [] Γ I L (am_R (.inl none) If L) := fun If hW => head If (by
        refine bX9_gateTold_106 mo (Nat.zero_le _) (Nat.zero_le _) hE3 ?_
        refine bX9_gateTold_116 mo (Nat.zero_le _) (Nat.zero_le _) (pg _ 0 _ (by decide)) ?_
        rw [← hJ4]
        exact hW)
      -- the closing
      obtain ⟨g1, g2⟩ := eX9_number (d := d + 257) (L := L) hm B4 t4 x4 (lo := 0) (hi := 23) (by decide) (by decide)
      cases hN2 : pNum B n 0 23 (nx B n (nx B n s1)) with
      | error e =>
        obtain ⟨c, p⟩ := e
        have hE5 := g2 c p hN2
        rw [uGa_1 (uGh_3 hk hN hN2)]
        obtain ⟨W', h1, h2⟩ := tl132 (am_u (wrS J4 m c p) (m + 1) (132 + vG w * 94 + 1) (nn 0)) (by rw [au23]; exact wrS_at.1)
        refine ⟨W', head2 _ ?_, bad J4 _ W' c p n4 m4 (fun k hk => am_u_ne hk) h2⟩
        refine bX9_gateTold_119 mo (Nat.zero_le _) (Nat.zero_le _) hE5 ?_
        exact bX9_gateTold_129 mo (Nat.zero_le _) (Nat.zero_le _) (pg _ 1 _ (by decide)) h1
      | ok q3 =>
        have p3 := pNum_q hN2
        have o3 := pNum_ok hN2
        subst p3
        obtain ⟨J5, hE5, t5, fr5⟩ := g1 o3
        obtain ⟨J6, hJ6⟩ : ∃ J6, J6 = am_u J5 (m + 1) (132 + vG w * 94 + 1) (nn (vl B n (nx B n (nx B n s1)))) := ⟨_, rfl⟩
        have jm6 : J6 m = J5 m := by rw [hJ6, am_u_ne (by omega)]
        have t6 : tkM B n J6 m (nx B n (nx B n (nx B n s1))) := t5.st (fun j _ _ => by rw [jm6])
        have B6 : rmB J6 m B n := (B4.frM fr5).st (by rw [jm6]) (by rw [hJ6, am_u_ne (by omega)])
        have x6 : J6 m 23 = 0 := by rw [jm6]; exact (fr5.2 23 (by decide) (by decide) (by decide) (by decide)).trans x4
        have rw6 : J6 (m + 1) = up (up (lyW w (132 + vG w * 94 + 3) B s1 (en B n s1 - s1)) (132 + vG w * 94 + 0) (nn (vl B n (nx B n s1)))) (132 + vG w * 94 + 1) (nn (vl B n (nx B n (nx B n s1)))) := by rw [hJ6, am_u_up, fr5.1 _ (by omega), rw4]
        have n6 : ∀ k, k ≠ m → k ≠ m + 1 → ¬ (m + 8 ≤ k ∧ k ≤ m + 12) → J6 k = I k := fun k a b c => by rw [hJ6, am_u_ne b]; exact (fr5.1 k a).trans (n4 k a b c)
        have m6 : ∀ j, ¬ (18 ≤ j ∧ j ≤ 24) → J6 m j = I m j := fun j a => by rw [jm6]; exact (fr5.2 j (by omega) (by omega) (by omega) (by omega)).trans (m4 j a)
        have head3 : ∀ If, am_W m_X9_gateTold (d + 262) 0 0 false 0 0 132 [(0, .ref m), (1, .int (nn (vG w)))] [] Γ J6 L (am_R (.inl none) If L) → am_W m_X9_gateTold (d + 262) 0 0 false 0 0 0 [(0, .ref m)] [] Γ I L (am_R (.inl none) If L) := fun If hW => head2 If (by
          refine bX9_gateTold_119 mo (Nat.zero_le _) (Nat.zero_le _) hE5 ?_
          refine bX9_gateTold_129 mo (Nat.zero_le _) (Nat.zero_le _) (pg _ 1 _ (by decide)) ?_
          rw [← hJ6]
          exact hW)
        -- the limit
        obtain ⟨g1, g2⟩ := eX9_number (d := d + 257) (L := L) hm B6 t6 x6 (lo := 0) (hi := 30) (by decide) (by decide)
        cases hN3 : pNum B n 0 30 (nx B n (nx B n (nx B n s1))) with
        | error e =>
          obtain ⟨c, p⟩ := e
          have hE7 := g2 c p hN3
          rw [uGa_1 (uGh_4 hk hN hN2 hN3)]
          refine ⟨am_u (wrS J6 m c p) (m + 1) (132 + vG w * 94 + 2) (nn 0), head3 _ ?_, bad J6 _ _ c p n6 m6 (fun k hk => am_u_ne hk) (fun _ _ => rfl)⟩
          refine bX9_gateTold_132 mo (Nat.zero_le _) (Nat.zero_le _) hE7 ?_
          refine bX9_gateTold_142 mo (Nat.zero_le _) (Nat.zero_le _) (pg _ 2 _ (by decide)) ?_
          refine bX9_gateTold_145 ?_
          exact tl147 _ _ (by rw [au23]; exact wrS_at.1)
        | ok q4 =>
          have p4 := pNum_q hN3
          have o4 := pNum_ok hN3
          subst p4
          obtain ⟨J7, hE7, t7, fr7⟩ := g1 o4
          obtain ⟨J8, hJ8⟩ : ∃ J8, J8 = am_u J7 (m + 1) (132 + vG w * 94 + 2) (nn (vl B n (nx B n (nx B n (nx B n s1))))) := ⟨_, rfl⟩
          have jm8 : J8 m = J7 m := by rw [hJ8, am_u_ne (by omega)]
          have t8' : tkM B n J8 m (nx B n (nx B n (nx B n (nx B n s1)))) := t7.st (fun j _ _ => by rw [jm8])
          have B8 : rmB J8 m B n := (B6.frM fr7).st (by rw [jm8]) (by rw [hJ8, am_u_ne (by omega)])
          have x8 : J8 m 23 = 0 := by rw [jm8]; exact (fr7.2 23 (by decide) (by decide) (by decide) (by decide)).trans x6
          have rw8 : J8 (m + 1) = gatW B n w s1 (nn (vl B n (nx B n s1))) (nn (vl B n (nx B n (nx B n s1)))) (nn (vl B n (nx B n (nx B n (nx B n s1))))) := by rw [hJ8, am_u_up, fr7.1 _ (by omega), rw6]; rfl
          have n8 : ∀ k, k ≠ m → k ≠ m + 1 → ¬ (m + 8 ≤ k ∧ k ≤ m + 12) → J8 k = I k := fun k a b c => by rw [hJ8, am_u_ne b]; exact (fr7.1 k a).trans (n6 k a b c)
          have m8 : ∀ j, ¬ (18 ≤ j ∧ j ≤ 24) → J8 m j = I m j := fun j a => by rw [jm8]; exact (fr7.2 j (by omega) (by omega) (by omega) (by omega)).trans (m6 j a)
          have hH' := uGh_5 hk hN hN2 hN3
          have wj := (gatW_at (B := B) (n := n) w s1 (nn (vl B n (nx B n s1))) (nn (vl B n (nx B n (nx B n s1)))) (nn (vl B n (nx B n (nx B n (nx B n s1))))) hnm).1
          generalize hg0 : gatW B n w s1 (nn (vl B n (nx B n s1))) (nn (vl B n (nx B n (nx B n s1)))) (nn (vl B n (nx B n (nx B n (nx B n s1))))) = w3 at *
          obtain ⟨J9, v2, hM, K9⟩ := mG_go (d := d + 257) (L := L) hm hG4 t8 (vT w) (t := 0) (s := nx B n (nx B n (nx B n (nx B n s1)))) (R := w3) (J := J8) (Nat.zero_add _) (by rw [wj 1 (by omega)]; exact hw.2.1.1) B8 t8' rw8 x8
          have hM' := hM.pre n8 (fun j _ _ c => m8 j c) ⟨m8 11 (by decide), m8 12 (by decide)⟩
          have head4 : ∀ If, am_W m_X9_gateTold (d + 262) 0 0 false 0 0 221 [(0, .ref m), (1, .int (nn (vG w))), (2, .int v2)] [] Γ J9 L (am_R (.inl none) If L) → am_W m_X9_gateTold (d + 262) 0 0 false 0 0 0 [(0, .ref m)] [] Γ I L (am_R (.inl none) If L) := fun If hW => head3 If (by
            refine bX9_gateTold_132 mo (Nat.zero_le _) (Nat.zero_le _) hE7 ?_
            refine bX9_gateTold_142 mo (Nat.zero_le _) (Nat.zero_le _) (pg _ 2 _ (by decide)) ?_
            rw [← hJ8]
            refine bX9_gateTold_145 ?_
            exact K9 If hW)
          cases hC : uCm B n (132 + vG w * 94) (vT w) 0 (nx B n (nx B n (nx B n (nx B n s1)))) w3 with
          | error e =>
            rw [hC] at hM'
            rw [uGa_2 hH' hC]
            obtain ⟨z1, z2, z3⟩ := id hM'
            refine ⟨J9, head4 _ ?_, hM'⟩
            refine bX9_gateTold_221 mo (fun z => absurd z (by rw [z3.1]; decide)) (fun _ => ?_)
            refine bX9_gateTold_228 ?_
            exact ⟨rfl, rfl, rfl⟩
          | ok q5 =>
            obtain ⟨s5, w4⟩ := q5
            rw [hC] at hM'
            obtain ⟨z1, z2, z3, z4, z5, z6⟩ := hM'
            rw [uGa_3 hH' hC]
            obtain ⟨hNg, -⟩ := uGa_N hG4 t8 hH' hC
            have md := hNg.mda hw hT0 hG4
            obtain ⟨vq1, vt1, vg1, vc1, ty1, l30, hl⟩ := hNg.vs hw hG4
            have c2 := (uCm_at _ _ _ _ hC).1 2 (by omega)
            have v0 : J9 (m + 1) (2 : Int32).toNatClampNeg = nn (vG w) := by
              rw [z5]
              show w4 2 = _
              rw [c2, wj 2 (by omega)]
              exact hw.2.2.1.1
            have rwb : am_u J9 (m + 1) 2 (nn (vG w + 1)) (m + 1) = up w4 2 (nn (vG w + 1)) := by rw [am_u_up, z5]
            show ∃ J', am_W m_X9_gateTold (d + 262) 0 0 false 0 0 0 [(0, .ref m)] [] Γ I L (am_R (.inl none) J' L) ∧ mdMid B n m I J' (.ok (s5, bldW (up w4 2 (nn (vG w + 1))) (vG w)))
            simp only at hNg md vq1 vt1 vg1 vc1 ty1 l30 hl
            obtain ⟨I3, e', hMb, b1, b2, b3, b4, b5, b6⟩ := eX9_builds (d := d) (I := am_u J9 (m + 1) 2 (nn (vG w + 1))) (L := L) hm hG4 (by rw [rwb]; exact md) l30 (by rw [rwb]; exact hl)
            rw [rwb] at b6
            have row3 : bldW (up w4 2 (nn (vG w + 1))) (vG w) = I3 (m + 1) := bldW_eq ⟨e', b1, b2, b3, b4, b6⟩
            have f3 : ∀ k, k ≠ m + 1 → ¬ (m + 8 ≤ k ∧ k ≤ m + 12) → I3 k = J9 k := fun k a b => (b5 k a (by omega) (by omega) (by omega) (by omega)).trans (am_u_ne a)
            obtain ⟨JF, hJF⟩ : ∃ JF, JF = am_u I3 m 24 (nn e') := ⟨_, rfl⟩
            have jmF : ∀ j, j ≠ 24 → JF m j = J9 m j := fun j hj => by rw [hJF, at1, if_neg hj, f3 m (by omega) (by omega)]
            refine ⟨JF, head4 _ ?_, fun k a b c => by rw [hJF, am_u_ne a, f3 k b c]; exact z1 k a b c, fun j a b c => by rw [jmF j (by omega)]; exact z2 j a b c, ⟨by rw [jmF 11 (by decide)]; exact z3.1, by rw [jmF 12 (by decide)]; exact z3.2⟩, z4.st (fun j _ _ => jmF j (by omega)), ?_, by rw [jmF 23 (by decide)]; exact z6⟩
            · refine bX9_gateTold_221 mo (fun _ => ?_) (fun z => absurd z6 z)
              refine bX9_gateTold_229 mo r0 a1 (nn_in (k := 2) (by decide) (by decide)) (Nat.zero_le _) (Nat.zero_le _) (by rw [v0, nn_s1]; exact hMb) ?_
              refine bX9_gateTold_245 mo ?_
              exact ⟨rfl, hJF.symm, rfl⟩
            · rw [row3, hJF, am_u_ne (by omega)]
end MS3
