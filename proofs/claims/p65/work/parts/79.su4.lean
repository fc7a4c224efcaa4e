/-! THE TEXT'S SETUP: what a type, a gate take; the class reads a type -/
section QT
variable {B : Nat → Nat} {n s : Nat} {w w' : Nat → Int32}
theorem uTy_1 {e : Nat × Nat} (h : pNew B n (fNm w 62 9 B s (en B n s - s) (vT w)) s = .error e) : uTy B n w s = .error e := by
  unfold uTy
  rw [h]
theorem uTy_2 {q : Nat × Int32} {e : Nat × Nat} (h : pNew B n (fNm w 62 9 B s (en B n s - s) (vT w)) s = .ok q) (h2 : pNum B n 0 99 (nx B n s) = .error e) : uTy B n w s = .error e := by
  unfold uTy
  rw [h, h2]
theorem uTy_r {q q2 : Nat × Int32} (h : pNew B n (fNm w 62 9 B s (en B n s - s) (vT w)) s = .ok q) (h2 : pNum B n 0 99 (nx B n s) = .ok q2) : uTy B n w s = match uTr B n w 7 q2.1 0 with
    | .error e => .error e
    | .ok (s4, τ) => match pSem B n s4 with
      | .error e => .error e
      | .ok (s5, _) => .ok (s5, typW B n w s q2.2 τ) := by
  unfold uTy
  rw [h, h2]
  rfl
theorem uTy_3 {q q2 : Nat × Int32} {e : Nat × Nat} (h : pNew B n (fNm w 62 9 B s (en B n s - s) (vT w)) s = .ok q) (h2 : pNum B n 0 99 (nx B n s) = .ok q2) (h3 : uTr B n w 7 q2.1 0 = .error e) : uTy B n w s = .error e := by
  rw [uTy_r h h2, h3]
theorem uTy_4 {q q2 : Nat × Int32} {q3 : Nat × Nat} {e : Nat × Nat} (h : pNew B n (fNm w 62 9 B s (en B n s - s) (vT w)) s = .ok q) (h2 : pNum B n 0 99 (nx B n s) = .ok q2) (h3 : uTr B n w 7 q2.1 0 = .ok q3) (h4 : pSem B n q3.1 = .error e) : uTy B n w s = .error e := by
  rw [uTy_r h h2, h3]
  show (match pSem B n q3.1 with | .error e => Except.error e | .ok (s5, _) => Except.ok (s5, typW B n w s q2.2 q3.2)) = _
  rw [h4]
theorem uTy_5 {q q2 : Nat × Int32} {q3 : Nat × Nat} {q4 : Nat × Int32} (h : pNew B n (fNm w 62 9 B s (en B n s - s) (vT w)) s = .ok q) (h2 : pNum B n 0 99 (nx B n s) = .ok q2) (h3 : uTr B n w 7 q2.1 0 = .ok q3) (h4 : pSem B n q3.1 = .ok q4) : uTy B n w s = .ok (q4.1, typW B n w s q2.2 q3.2) := by
  rw [uTy_r h h2, h3]
  show (match pSem B n q3.1 with | .error e => Except.error e | .ok (s5, _) => Except.ok (s5, typW B n w s q2.2 q3.2)) = _
  rw [h4]
theorem typW_at (w : Nat → Int32) (s : Nat) (v : Int32) (τ : Nat) (hx : nmb B n s = true) : typW B n w s v τ 1 = nn (vT w + 1) ∧ (∀ j, j ≠ 1 → j < 60 + vT w * 9 → typW B n w s v τ j = w j) ∧ typW B n w s v τ (60 + vT w * 9) = v ∧ typW B n w s v τ (60 + vT w * 9 + 1) = nn τ ∧ nmO (typW B n w s v τ) (60 + vT w * 9 + 2) ∧ pnm (typW B n w s v τ) (60 + vT w * 9 + 2) = ll (nmk B s (en B n s - s)) ∧ ∀ j, 60 + vT w * 9 + 9 ≤ j → typW B n w s v τ j = w j := by
  obtain ⟨l6, -, l0, -, hl⟩ := nmb_len hx
  unfold typW
  have hN := lyW_nm (w := w) (w' := up (up (up (lyW w (60 + vT w * 9 + 2) B s (en B n s - s)) (60 + vT w * 9) v) 1 (nn (vT w + 1))) (60 + vT w * 9 + 1) (nn τ)) (a := 60 + vT w * 9 + 2) l6 l0 hl (fun i hi => by rw [up_ne (by omega), up_ne (by omega), up_ne (by omega)])
  refine ⟨?_, fun j a b => ?_, ?_, up_eq _ _ _, hN.1, hN.2, fun j a => ?_⟩
  · rw [up_ne (by omega), up_eq]
  · rw [up_ne (by omega), up_ne (by omega), up_ne (by omega), lyW_out (Or.inl (by omega))]
  · rw [up_ne (by omega), up_ne (by omega), up_eq]
  · rw [up_ne (by omega), up_ne (by omega), up_ne (by omega), lyW_out (Or.inr (by omega))]
theorem typW_up (w : Nat → Int32) (s : Nat) (v : Int32) (τ τ' : Nat) : up (typW B n w s v τ) (60 + vT w * 9 + 1) (nn τ') = typW B n w s v τ' := by
  unfold typW
  rw [up_up]
end QT
section RDT
variable {d : Nat} {Γ : am_G} {I : am_I} {L : am_L} {B : Nat → Nat} {n s : Nat} {w : Nat → Int32}
theorem eX3_readCart (hF : cF Γ) (hw : wfp w) (hG : vG w = 0) (hT : vT w < 8) (hc : clR B n I L s w) : ∃ I' L', am_E m_X3_readCart (d + 4) 0 0 [.ref 81, .int (nn (vT w))] Γ I L (.inl (some (.int (oky (uTy B n w s))))) I' L' ∧ suOut B n I I' L L' (uTy B n w s) := by
  obtain ⟨⟨o, f0, f1, f2, f3, f4, f5, f6, f7⟩, so, st, st2, ⟨ro, rr0, rr5, rr6, ra⟩, -⟩ := id hF
  obtain ⟨ob, s4, s5, s6, s7, s8, s9, s10, b1, b2, b3, b4, b5, b6, o7, hg⟩ := id st2
  obtain ⟨hB, ht, hs⟩ := id hc
  refine am_ofX rfl rfl rfl (Nat.le_of_ble_eq_true rfl) ?_
  have hName : am_E m_X5_typeNamed (d + 3) 0 0 [.ref 45, .long (L 81 10)] Γ I L (.inl (some (.int (fName L 49 (L 81 10) (vT w))))) I L := eX5_typeNamed (N := vT w) st2 (hs.1.2.1.trans hw.2.1.1) hw.2.1.2 _
  have hvv : nmb B n s = true → fName L 49 (L 81 10) (vT w) = fNm w 62 9 B s (en B n s - s) (vT w) := fun hx => by rw [ht.nm hx]; exact fName_T (b := 45) hs hw hx
  obtain ⟨g1, g2⟩ := eX3_isNewName (d := d + 2) (Γ := Γ) ro hB ht (fName L 49 (L 81 10) (vT w))
  rw [pNew_v hvv] at g2
  have et : (nn (vT w) : Int32).toNatClampNeg = vT w := nn_nat (by omega)
  cases hk : pNew B n (fNm w 62 9 B s (en B n s - s) (vT w)) s with
  | error e =>
    obtain ⟨I2, hE2, k2⟩ := g2 e hk
    obtain ⟨e1, e2⟩ := cOut.frD k2
    rw [uTy_1 hk]
    refine ⟨I2, L, ?_, e1, e2⟩
    refine bX3_readCart_0 ro rr5 ob (Nat.zero_le _) (Nat.zero_le _) hName ?_
    refine bX3_readCart_12 ro (Nat.zero_le _) (Nat.zero_le _) hE2 ?_
    refine bX3_readCart_15 (fun z => absurd rfl z) (fun _ => ?_)
    refine bX3_readCart_18 ?_
    exact ⟨rfl, rfl, rfl⟩
  | ok q =>
    obtain ⟨hx, hm1⟩ := pNew_q hk
    have hE2 := g1 hx ((hvv hx).trans hm1)
    obtain ⟨L3, hL3⟩ : ∃ L3, L3 = am_ul L 49 (vT w) (L 81 10) := ⟨_, rfl⟩
    have l3 : ∀ k, k ≠ 49 → L3 k = L k := fun k hk => by rw [hL3, am_ul_ne hk]
    obtain ⟨I4, L4, hE4, t4, fr4⟩ := eX3_go (d := d + 2) ro rr0 ra hB (ht.st (L3 := L3) rfl (l3 81 (by decide)))
    have B4 := hB.frC fr4
    obtain ⟨I5, L5, hE5, k5⟩ := eX3_takeNumber (d := d + 1) ro rr0 ra B4 t4 (lo := 0) (hi := 99) (by decide) (by decide)
    have e13 : frD I I L L3 := ⟨fun _ _ _ => rfl, fun _ _ _ _ _ _ _ => rfl, fun k a b => l3 k (by omega)⟩
    have head : ∀ If Lf r, am_W m_X3_readCart (d + 4) 0 0 false 0 0 52 [(0, .ref 81), (1, .int (nn (vT w)))] [.int (rOut (pNum B n 0 99 (nx B n s))), .int (nn (vT w)), .ref 50] Γ I5 L5 (am_R (.inl (some (.int r))) If Lf) → am_W m_X3_readCart (d + 4) 0 0 false 0 0 0 [(0, .ref 81), (1, .int (nn (vT w)))] [] Γ I L (am_R (.inl (some (.int r))) If Lf) := by
      intro If Lf r hW
      refine bX3_readCart_0 ro rr5 ob (Nat.zero_le _) (Nat.zero_le _) hName ?_
      refine bX3_readCart_12 ro (Nat.zero_le _) (Nat.zero_le _) hE2 ?_
      refine bX3_readCart_15 (fun _ => ?_) (fun z => absurd z (by decide))
      refine bX3_readCart_20 ro rr5 ob s7 b4 (nn_in (by omega) (by omega)) (Nat.zero_le _) (Nat.zero_le _) (by rw [et, ← hL3]; exact hE4) ?_
      refine bX3_readCart_37 ro rr5 ob s8 (Nat.zero_le _) (Nat.zero_le _) hE5 ?_
      exact hW
    obtain ⟨I6, hI6⟩ : ∃ I6, I6 = am_u (am_u I5 50 (vT w) (rOut (pNum B n 0 99 (nx B n s)))) 45 1 (nn (vT w + 1)) := ⟨_, rfl⟩
    have n6 : ∀ k, k ≠ 45 → k ≠ 50 → I6 k = I5 k := fun k a b => by rw [hI6, am_u_ne a, am_u_ne b]
    have q6 : I6 50 (vT w) = rOut (pNum B n 0 99 (nx B n s)) := by rw [hI6, am_u_ne (by decide), at1, if_pos rfl]
    have e56 : frD I5 I6 L5 L5 := ⟨fun k a b => n6 k (by omega) (by omega), fun j _ _ _ _ _ _ => by rw [n6 81 (by decide) (by decide)], fun _ _ _ => rfl⟩
    cases hN : pNum B n 0 99 (nx B n s) with
    | error e =>
      rw [hN] at k5 q6 head hI6
      obtain ⟨e1, e2⟩ := cOut.frD k5
      rw [uTy_2 hk hN]
      refine ⟨I6, L5, head _ _ _ ?_, ((e13.tr fr4.frD).tr e1).tr e56, by rw [n6 81 (by decide) (by decide)]; exact e2⟩
      refine bX3_readCart_52 b5 (nn_in (by omega) (by omega)) ro rr5 ob s8 b5 (nn_in (by omega) (by omega)) (fun _ => ?_) (fun z => absurd (by rw [et, nn_s1, ← hI6]; exact q6) z)
      rw [et, nn_s1, ← hI6]
      refine bX3_readCart_95 ?_
      refine bX3_readCart_96 (by exact bi_hz false) ?_
      exact ⟨rfl, rfl, rfl⟩
    | ok p =>
      rw [hN] at k5 q6 head hI6
      obtain ⟨-, v0, v99⟩ := pNum_ok hN
      have hp := pNum_q hN
      subst hp
      obtain ⟨t5, fr5⟩ := k5
      have er : rOut (.ok (nx B n (nx B n s), nn (vl B n (nx B n s)))) = nn (vl B n (nx B n s)) := rfl
      rw [er] at q6 head hI6
      have B6 : rcB I6 B n := (B4.frC fr5).st (n6 81 (by decide) (by decide)) (n6 82 (by decide) (by decide))
      have t6 : tkC B n I6 L5 (nx B n (nx B n s)) := t5.st (n6 81 (by decide) (by decide)) rfl
      have nm1 : ¬ nn (vl B n (nx B n s)) = -1 := (fun k (hk : k < 100) => (by decide : ∀ k, k < 100 → ¬ nn k = -1) k hk) _ (by omega)
      -- the type counted, no trait yet
      obtain ⟨w1, wj, wv, wt, wn, wp, -⟩ := typW_at (B := B) (n := n) w s (nn (vl B n (nx B n s))) 0 hx
      obtain ⟨wf2, vq2, vt2, vg2, ty2, -⟩ := wfp_typ hw hG hT w1 wj wv v99 wt (Nat.two_pow_pos _) wn
      have hcg : ∀ f s' τ, uTr B n (typW B n w s (nn (vl B n (nx B n s))) 0) f s' τ = uTr B n w f s' τ := fun f s' τ => uTr_cg (wj 0 (by omega) (by omega)) (fun j a b => wj j (by omega) (by omega)) hw.1.2 f s' τ
      have i6 : ∀ k, k ≠ 81 → k ≠ 45 → k ≠ 50 → I6 k = I k := fun k a b c => by rw [n6 k b c, fr5.1 k a, fr4.1 k a]
      have s2 : stR I6 L5 45 (typW B n w s (nn (vl B n (nx B n s))) 0) := by
        refine stR_typ (b := 45) hs hw hG hT w1 wj ty2 ?_ (fun j hj => ?_) ?_ ⟨?_, ?_, ?_⟩ (fun t htt => ⟨?_, ?_⟩) ⟨?_, ?_⟩
        · rw [hI6, at1, if_pos rfl]
        · rw [hI6, at1, if_neg hj, am_u_ne (by decide), fr5.1 45 (by decide), fr4.1 45 (by decide)]
        · exact i6 _ (by decide) (by decide) (by decide)
        · rw [fr5.2.2.1 _ (by decide), fr4.2.2.1 _ (by decide), l3 _ (by decide)]
        · exact i6 _ (by decide) (by decide) (by decide)
        · exact i6 _ (by decide) (by decide) (by decide)
        · rw [fr5.2.2.1 _ (by decide), fr4.2.2.1 _ (by decide), hL3, am_ul_at, if_neg (fun z => by omega)]
        · rw [hI6, am_u_ne (by decide), show (45 + 5 : Nat) = 50 from rfl, at1, if_neg (by omega), fr5.1 _ (by decide), fr4.1 _ (by decide)]
        · rw [fr5.2.2.1 _ (by decide), fr4.2.2.1 _ (by decide), hL3, am_ul_at, if_pos ⟨rfl, rfl⟩, wp, ht.nm hx]
        · rw [wv]; exact q6
      have c6 : clR B n I6 L5 (nx B n (nx B n s)) (typW B n w s (nn (vl B n (nx B n s))) 0) := ⟨B6, t6, s2⟩
      have hup := fun τ => typW_up (B := B) (n := n) w s (nn (vl B n (nx B n s))) 0 τ
      obtain ⟨I7, L7, hW7, hO7⟩ := eX3_readTraits_go (d := d) hF (T := vT w) 7 (i := 0) wf2 vg2 vt2 c6 (Nat.zero_le _) (by have := wf2.1.2; omega)
      rw [ty2, hcg] at hW7 hO7
      have hE7 : am_E m_X3_readTraits (d + 3) 0 0 [.ref 81, .int (nn (vT w))] Γ I6 L5 (.inl (some (.int (okE (uTr B n w 7 (nx B n (nx B n s)) 0))))) I7 L7 := am_ofE rfl rfl rfl (Nat.le_of_ble_eq_true rfl) (bX3_readTraits_0 hW7)
      have head2 : ∀ If Lf r, am_W m_X3_readCart (d + 4) 0 0 false 0 0 81 [(0, .ref 81), (1, .int (nn (vT w)))] [.int (okE (uTr B n w 7 (nx B n (nx B n s)) 0))] Γ I7 L7 (am_R (.inl (some (.int r))) If Lf) → am_W m_X3_readCart (d + 4) 0 0 false 0 0 0 [(0, .ref 81), (1, .int (nn (vT w)))] [] Γ I L (am_R (.inl (some (.int r))) If Lf) := by
        intro If Lf r hW
        refine head _ _ _ ?_
        refine bX3_readCart_52 b5 (nn_in (by omega) (by omega)) ro rr5 ob s8 b5 (nn_in (by omega) (by omega)) (fun z => absurd (q6.symm.trans (by rw [et, nn_s1, ← hI6] at z; exact z)) nm1) (fun _ => ?_)
        rw [et, nn_s1, ← hI6]
        exact bX3_readCart_76 ro (Nat.zero_le _) (Nat.zero_le _) hE7 hW
      have e16 : frD I I6 L L5 := ((e13.tr fr4.frD).tr fr5.frD).tr e56
      have k16 : kpC I I6 := (fr4.kp.tr fr5.kp).tr (kpC.st (n6 81 (by decide) (by decide)))
      obtain ⟨y7, hO7⟩ := hO7
      cases hR : uTr B n w 7 (nx B n (nx B n s)) 0 with
      | error e =>
        rw [hR] at hO7 head2
        rw [uTy_3 hk hN hR]
        refine ⟨I7, L7, head2 _ _ _ ?_, e16.tr y7, hO7⟩
        refine bX3_readCart_81 (fun _ => ?_) (fun z => absurd rfl z)
        refine bX3_readCart_95 ?_
        refine bX3_readCart_96 (by exact bi_hz false) ?_
        exact ⟨rfl, rfl, rfl⟩
      | ok p =>
        obtain ⟨s8', τ⟩ := p
        rw [hR] at hO7 head2
        obtain ⟨k7, c7, -⟩ := hO7
        rw [hup] at c7
        obtain ⟨I8, L8, hE8, k8⟩ := eX3_takeSemicolon (d := d + 1) (Γ := Γ) ro rr0 ra c7.1 c7.2.1
        have head3 : ∀ If Lf r, am_W m_X3_readCart (d + 4) 0 0 false 0 0 88 [(0, .ref 81), (1, .int (nn (vT w)))] [.int (bi (decide (kd B n s8' = 2)))] Γ I8 L8 (am_R (.inl (some (.int r))) If Lf) → am_W m_X3_readCart (d + 4) 0 0 false 0 0 0 [(0, .ref 81), (1, .int (nn (vT w)))] [] Γ I L (am_R (.inl (some (.int r))) If Lf) := by
          intro If Lf r hW
          refine head2 _ _ _ ?_
          refine bX3_readCart_81 (fun z => absurd z (show ¬ (1 : Int32) = 0 by decide)) (fun _ => ?_)
          exact bX3_readCart_84 ro (Nat.zero_le _) (Nat.zero_le _) hE8 hW
        cases hS : pSem B n s8' with
        | error e =>
          rw [hS] at k8
          obtain ⟨y1, y2⟩ := cOut.frD k8
          have h2 : ¬ kd B n s8' = 2 := fun z => by unfold pSem at hS; rw [if_pos z] at hS; cases hS
          rw [uTy_4 hk hN hR hS]
          refine ⟨I8, L8, head3 _ _ _ ?_, (e16.tr y7).tr y1, y2⟩
          rw [decide_eq_false h2]
          refine bX3_readCart_88 (fun _ => ?_) (fun z => absurd rfl z)
          refine bX3_readCart_95 ?_
          refine bX3_readCart_96 (by exact bi_hz false) ?_
          exact ⟨rfl, rfl, rfl⟩
        | ok p =>
          rw [hS] at k8
          obtain ⟨h2, hp⟩ := pSem_q hS
          subst hp
          obtain ⟨t8, fr8⟩ := k8
          rw [uTy_5 hk hN hR hS]
          refine ⟨I8, L8, head3 _ _ _ ?_, (e16.tr y7).tr fr8.frD, (k16.tr k7).tr fr8.kp, c7.1.frC fr8, t8, c7.2.2.fr ?_ (fun c a b => fr8.1 c (by omega)) (fun c a b => fr8.2.2.1 c (by omega))⟩
          · rw [decide_eq_true h2]
            refine bX3_readCart_88 (fun z => absurd z (by decide)) (fun _ => ?_)
            refine bX3_readCart_91 ?_
            refine bX3_readCart_96 (by exact bi_hz true) ?_
            exact ⟨rfl, rfl, rfl⟩
          · have := (typW_at (B := B) (n := n) w s (nn (vl B n (nx B n s))) τ hx).2.1 2 (by decide) (by omega)
            show (typW B n w s (nn (vl B n (nx B n s))) τ 2).toNatClampNeg ≤ 4
            rw [this]
            exact hw.2.2.1.2
end RDT
