/-! THE TEXT'S SETUP: the class reads gates, all of it -/
/-- what a gate is built from, in the station -/
theorem gtN.sda {w w1 : Nat → Int32} {I J : am_I} {L : am_L} {b : Nat} (h : gtN w w1) (hs : stR I L b w) (hw : wfp w) (h0 : 0 < vT w) (hG : vG w < 4) (e0 : J b 0 = I b 0 ∧ J b 1 = I b 1) (e : J (b + 2) = I (b + 2) ∧ J (b + 3) = I (b + 3) ∧ J (b + 5) = I (b + 5)) (ec : ∀ t, t < vT w → J (gc b (vG w) + 1) t = w1 (132 + vG w * 94 + (10 + t))) : sda J b (gc b (vG w)) (vQ w1) (vT w1) (qcW w1) (yse (vT w1) (tyW w1)) (tlW w1) (ctW w1 (vG w)) := by
  obtain ⟨m1, m2, m3, m4, m5, m6, m7⟩ := h.mda hw h0 hG
  obtain ⟨vq, vt, vg, -, ty, -⟩ := h.vs hw hG
  obtain ⟨e2, e1, -, -, -, -, -⟩ := h
  obtain ⟨⟨h1, h1a, -, -⟩, h2, h3, -, -⟩ := hs
  have q6 := hw.1.2
  have t8 := hw.2.1.2
  refine ⟨by rw [e0.1, h1, ← m1, e1 0 (by omega) (by omega)], by rw [e0.2, h1a, ← m2, e1 1 (by omega) (by omega)], m3, m4, m5, fun q a => ?_, fun t a => ?_⟩
  · obtain ⟨x1, x2, x3⟩ := m6 q a
    rw [vq] at a
    refine ⟨by rw [e.1, (h2 q a).2.1, ← x1, e1 _ (by omega) (by omega)], x2, x3, ?_, yse_lt _ _ _⟩
    rw [e.2.1, (h2 q a).2.2, vt, yse_cg ty]
  · obtain ⟨x1, x2, x3, x4, x5, x6⟩ := m7 t a
    rw [vt] at a
    exact ⟨by rw [e.2.2, (h3 t a).2, ← x1, e1 _ (by omega) (by omega)], x2, by rw [ec t a]; exact x5, x6⟩
section RDS
variable {d : Nat} {Γ : am_G} {B : Nat → Nat} {n : Nat}
theorem gate_unit (hF : cF Γ) {s : Nat} {w : Nat → Int32} {I : am_I} {L : am_L} (hw : wfp w) (h0 : 0 < vT w) (hG : vG w < 4) (hc : clR B n I L s w) : ∃ I' L', suOut B n I I' L L' (uGa B n w s) ∧
    (∀ e, uGa B n w s = .error e → am_W m_X3_readGates (d + 6) 0 0 false 0 0 31 [(0, .ref 81), (1, .int (nn (vG w)))] [] Γ I L (am_R (.inl (some (.int 0))) I' L')) ∧
    ∀ q If Lf r, uGa B n w s = .ok q → am_W m_X3_readGates (d + 6) 0 0 false 0 0 2 [(0, .ref 81), (1, .int (nn (vG w + 1)))] [] Γ I' L' (am_R (.inl (some (.int r))) If Lf) → am_W m_X3_readGates (d + 6) 0 0 false 0 0 31 [(0, .ref 81), (1, .int (nn (vG w)))] [] Γ I L (am_R (.inl (some (.int r))) If Lf) := by
  obtain ⟨⟨o, f0, f1, f2, f3, f4, f5, f6, f7⟩, so, st, st2, ⟨ro, rr0, rr5, rr6, ra⟩, -⟩ := id hF
  obtain ⟨ob, s4, s5, s6, s7, s8, s9, s10, b1, b2, b3, b4, b5, b6, o7, hg⟩ := id st2
  obtain ⟨hB, ht, hs⟩ := id hc
  obtain ⟨hg1, hgg⟩ := hg (vG w) hG
  have gE : gc 45 (vG w) = 45 + (8 + 7 * vG w) := rfl
  have t8 := hw.2.1.2
  have et : (nn (vG w) : Int32).toNatClampNeg = vG w := nn_nat (by omega)
  obtain ⟨I2, L2, hE2, y2, k2⟩ := eX3_readGate (d := d + 2) hF hw hG hc
  cases hH : uGh B n w s with
  | error e =>
    rw [hH] at hE2 k2
    rw [uGa_1 hH]
    refine ⟨I2, L2, ⟨y2, k2⟩, fun _ _ => ?_, fun q If Lf r z => by cases z⟩
    refine bX3_readGates_31 ro (Nat.zero_le _) (Nat.zero_le _) hE2 ?_
    refine bX3_readGates_36 (fun _ => ?_) (fun z => absurd rfl z)
    refine bX3_readGates_55 ?_
    exact ⟨rfl, rfl, rfl⟩
  | ok q =>
    rw [hH] at hE2 k2
    obtain ⟨s3, w3⟩ := q
    obtain ⟨kp2, B2, t2, g1, g2, g3, g4, g5, g6, g7, g8⟩ := k2
    obtain ⟨I3, L3, hW3, y3, k3⟩ := eX3_readCounts_go (d := d + 2) hF (G := vG w) (T := vT w) hG t8 (vT w) (t := 0) (w := w3) (Nat.zero_add _) B2 t2 (by rw [g2 1 (by decide)]; exact hs.1.2.1.trans hw.2.1.1)
    have hE3 : am_E m_X3_readCounts (d + 5) 0 0 [.ref 81, .ref (gc 45 (vG w))] Γ I2 L2 (.inl (some (.int (oky (uCm B n (132 + vG w * 94) (vT w) 0 s3 w3))))) I3 L3 := am_ofE rfl rfl rfl (Nat.le_of_ble_eq_true rfl) (bX3_readCounts_0 hW3)
    have head : ∀ Q, am_W m_X3_readGates (d + 6) 0 0 false 0 0 52 [(0, .ref 81), (1, .int (nn (vG w)))] [.int (oky (uCm B n (132 + vG w * 94) (vT w) 0 s3 w3))] Γ I3 L3 Q → am_W m_X3_readGates (d + 6) 0 0 false 0 0 31 [(0, .ref 81), (1, .int (nn (vG w)))] [] Γ I L Q := by
      intro Q hW
      refine bX3_readGates_31 ro (Nat.zero_le _) (Nat.zero_le _) hE2 ?_
      refine bX3_readGates_36 (fun z => absurd z (show ¬ (1 : Int32) = 0 by decide)) (fun _ => ?_)
      exact bX3_readGates_39 ro rr5 ob s9 b6 (nn_in (by omega) (by omega)) (by rw [et]; exact hg1) (Nat.zero_le _) (Nat.zero_le _) hE3 hW
    cases hC : uCm B n (132 + vG w * 94) (vT w) 0 s3 w3 with
    | error e =>
      rw [hC] at k3 head
      rw [uGa_2 hH hC]
      refine ⟨I3, L3, ⟨y2.tr y3, k3⟩, fun _ _ => head _ ?_, fun q If Lf r z => by cases z⟩
      refine bX3_readGates_52 (fun z => absurd rfl z) (fun _ => ?_)
      refine bX3_readGates_55 ?_
      exact ⟨rfl, rfl, rfl⟩
    | ok q =>
      rw [hC] at k3 head
      obtain ⟨s4', w4⟩ := q
      obtain ⟨kp3, B3, t3, c1, c2, c3, c4⟩ := k3
      obtain ⟨hN, hoth⟩ := uGa_N hG t8 hH hC
      have hN2 := hN
      have md := hN.mda hw h0 hG
      obtain ⟨vq1, vt1, vg1, vc1, ty1, l30, hl⟩ := hN.vs hw hG
      have hb := bld_exm hG md l30 hl
      obtain ⟨wf', vq', vt', vg'⟩ := wfp_gat hw h0 hG hN hb
      have hx4 : ∀ t, t < vT w → up w4 2 (nn (vG w + 1)) (132 + vG w * 94 + (10 + t)) = w4 (132 + vG w * 94 + (10 + t)) := fun t _ => up_ne (by omega)
      have i3 : ∀ k, k ≠ 81 → k ≠ 45 → k ≠ gc 45 (vG w) → k ≠ gc 45 (vG w) + 1 → I3 k = I k := fun k a b c e => (c1 k a e).trans (g1 k a b c)
      have i45 : ∀ j, j ≠ 2 → I3 45 j = I 45 j := fun j hj => by rw [c1 45 (by decide) (by omega)]; exact g2 j hj
      have hcn : ∀ t, t < vT w → I3 (gc 45 (vG w) + 1) t = up w4 2 (nn (vG w + 1)) (132 + vG w * 94 + (10 + t)) := fun t ht' => by rw [hx4 t ht', c3 t (Nat.zero_le _) ht']
      have ix : ∀ j, I3 (gc 45 (vG w)) j = I2 (gc 45 (vG w)) j := fun j => by rw [c1 _ (by omega) (by omega)]
      have x0 : L3 (gc 45 (vG w)) 0 = pnm w3 (132 + vG w * 94 + 3) := by rw [c2 _ (by omega)]; exact g5
      obtain ⟨hx, -, -, a9, b9, c9, -, -, -, hw3⟩ := uGh_in hH
      have hn3 : nmO w3 (132 + vG w * 94 + 3) := by rw [hw3]; exact (gatW_at (B := B) (n := n) w s (nn a9) (nn b9) (nn c9) hx).2.2.2.2.1
      have pn1 : pnm (up w4 2 (nn (vG w + 1))) (132 + vG w * 94 + 3) = pnm w3 (132 + vG w * 94 + 3) := (hn3.to (w' := up w4 2 (nn (vG w + 1))) (fun i hi => hoth _ (by omega) (by omega))).2
      have o1 := hoth (132 + vG w * 94 + 0) (by omega) (by omega)
      have o2 := hoth (132 + vG w * 94 + 1) (by omega) (by omega)
      have o3 := hoth (132 + vG w * 94 + 2) (by omega) (by omega)
      rw [uGa_3 hH hC]
      show ∃ I' L', suOut B n I I' L L' (.ok (s4', bldW (up w4 2 (nn (vG w + 1))) (vG w))) ∧ _
      simp only at hx4 hN hb hcn pn1 o1 o2 o3 md l30 hl wf' vq' vt' vg' vq1 vt1 vg1 hN2
      generalize up w4 2 (nn (vG w + 1)) = w5 at *
      have hsd : sda I3 45 (gc 45 (vG w)) (vQ w5) (vT w5) (qcW w5) (yse (vT w5) (tyW w5)) (tlW w5) (ctW w5 (vG w)) := hN2.sda (b := 45) hs hw h0 hG ⟨i45 0 (by decide), i45 1 (by decide)⟩ ⟨i3 _ (by decide) (by decide) (by omega) (by omega), i3 _ (by decide) (by decide) (by omega) (by omega), i3 _ (by decide) (by decide) (by omega) (by omega)⟩ hcn
      obtain ⟨Ib, Lb, hP, ⟨e, e0, e15, es, etv⟩, bI, bL⟩ := eX4_plant (d := d + 3) (I := I3) (L := L3) (k := 1) (b := 45) so st2 hG (Or.inr (by decide)) hsd (by rw [ix 3, g8, ← o3]; exact hl) l30
      have n81 : Ib 81 = I3 81 := bI 81 (Or.inr (by decide)) (by omega)
      have n82 : Ib 82 = I3 82 := bI 82 (Or.inr (by decide)) (by omega)
      have sfin : stR Ib Lb 45 (bldW w5 (vG w)) := by
        refine stR_gat (b := 45) hs hw h0 hG hN2 hb ?_ (fun j hj => ?_) (fun k k1 k2 k3 => ?_) (fun k k1 k2 k3 => ?_) ?_ ?_ ?_ ?_ (fun t ht' => ?_) es e0 e15 etv
        · rw [bI 45 (Or.inr (by decide)) (by omega), c1 45 (by decide) (by omega)]; exact g3
        · rw [bI 45 (Or.inr (by decide)) (by omega)]; exact i45 j hj
        · rw [bI k (Or.inr (by omega)) (by omega)]; exact i3 k (by omega) (by omega) (by omega) (by omega)
        · rw [bL k (by omega), c2 k (by omega)]; exact g4 k (by omega) k3
        · rw [bL _ (by omega), x0, pn1]
        · rw [bI _ (Or.inr (by omega)) (by omega), ix, g6, o1]
        · rw [bI _ (Or.inr (by omega)) (by omega), ix, g7, o2]
        · rw [bI _ (Or.inr (by omega)) (by omega), ix, g8, o3]
        · rw [bI _ (Or.inr (by omega)) (by omega)]; exact hcn t ht'
      refine ⟨Ib, Lb, ⟨(y2.tr y3).tr ⟨fun k a b => bI k (Or.inr (by omega)) (by omega), fun j _ _ _ _ _ _ => by rw [n81], fun k a b => bL k (by omega)⟩, (kp2.tr kp3).tr (kpC.st n81), B3.st n81 n82, t3.st n81 (bL 81 (by decide)), sfin⟩, fun e z => (by cases z), fun q If Lf r _ hW => head _ ?_⟩
      refine bX3_readGates_52 (fun _ => ?_) (fun z => absurd z (show ¬ (1 : Int32) = 0 by decide))
      refine bX3_readGates_57 ro rr6 rr5 ob s9 b6 (nn_in (by omega) (by omega)) (by rw [et]; exact hg1) so.1 (Nat.zero_le _) (Nat.zero_le _) hP ?_
      refine bX3_readGates_77 ?_
      rw [nn_s1]
      exact hW
theorem eX3_readGates_go (hF : cF Γ) : ∀ (f : Nat) {s : Nat} {w : Nat → Int32} {I : am_I} {L : am_L}, gInv w → clR B n I L s w → vG w + f = 5 → ∃ I' L', am_W m_X3_readGates (d + 6) 0 0 false 0 0 2 [(0, .ref 81), (1, .int (nn (vG w)))] [] Γ I L (am_R (.inl (some (.int (oky (uLoop B n 4 4 vG (uGa B n) f s w))))) I' L') ∧ suOut B n I I' L L' (uLoop B n 4 4 vG (uGa B n) f s w)
  | 0, s, w, I, L, hI, _, hf => by
    have : vG w ≤ 4 := hI.1.2.2.1.2
    omega
  | f + 1, s, w, I, L, hI, hc, hf => by
    obtain ⟨-, -, -, -, ⟨ro, rr0, rr5, rr6, ra⟩, -⟩ := id hF
    obtain ⟨hB, ht, hs⟩ := id hc
    have v6 : vG w ≤ 4 := hI.1.2.2.1.2
    have hWd : am_E m_X3_isWord (d + 5) 0 0 [.ref 81, .retAddr 4] Γ I L (.inl (some (.int (bi (wd B n s 4))))) I L := eX3_isWord (d := d + 1) ro rr0 ra hB ht (by decide)
    have fr0 : frD I I L L := ⟨fun _ _ _ => rfl, fun _ _ _ _ _ _ _ => rfl, fun _ _ _ => rfl⟩
    by_cases h6 : vG w = 4
    · have hle : 4 ≤ nn (vG w) := by rw [h6]; decide
      cases hx : wd B n s 4 with
      | true =>
        rw [hx] at hWd
        obtain ⟨h5, h7⟩ := eX3_fail (d := d + 5) (Γ := Γ) ro ht 5
        obtain ⟨e1, e2⟩ := cOut.frD h7
        rw [uLoop_f hx h6]
        refine ⟨_, L, ?_, e1, e2⟩
        refine bX3_readGates_2 (fun _ => ?_) (fun z => absurd hle z)
        refine bX3_readGates_83 ro (Nat.zero_le _) (Nat.zero_le _) hWd ?_
        refine bX3_readGates_89 (fun z => absurd z (by decide)) (fun _ => ?_)
        refine bX3_readGates_92 ro (Nat.zero_le _) (Nat.zero_le _) h5 ?_
        refine bX3_readGates_97 (fun _ => ?_) (fun z => absurd rfl z)
        refine bX3_readGates_104 ?_
        refine bX3_readGates_105 (by exact bi_hz false) ?_
        exact ⟨rfl, rfl, rfl⟩
      | false =>
        rw [hx] at hWd
        rw [uLoop_d hx (by omega)]
        refine ⟨I, L, ?_, fr0, ⟨rfl, rfl⟩, hc⟩
        refine bX3_readGates_2 (fun _ => ?_) (fun z => absurd hle z)
        refine bX3_readGates_83 ro (Nat.zero_le _) (Nat.zero_le _) hWd ?_
        refine bX3_readGates_89 (fun _ => ?_) (fun z => absurd rfl z)
        refine bX3_readGates_100 ?_
        refine bX3_readGates_105 (by exact bi_hz true) ?_
        exact ⟨rfl, rfl, rfl⟩
    · have hle : ¬ 4 ≤ nn (vG w) := by rw [show (4 : Int32) = nn 4 from rfl, nn_le (by decide) (by omega)]; omega
      have hz : (nn (vG w) ≤ (0 : Int32)) ↔ vG w = 0 := by rw [nl_0, nn_le (by omega) (by decide)]; omega
      obtain ⟨I1, L1, hE1, k1⟩ := eX3_takeWord (d := d) ro rr0 ra hB ht (i := 4) (by decide)
      have to22 : (wd B n s 4 = true ∨ vG w = 0) → ∀ If Lf r, am_W m_X3_readGates (d + 6) 0 0 false 0 0 28 [(0, .ref 81), (1, .int (nn (vG w)))] [.int (bi (wd B n s 4))] Γ I1 L1 (am_R (.inl (some (.int r))) If Lf) → am_W m_X3_readGates (d + 6) 0 0 false 0 0 2 [(0, .ref 81), (1, .int (nn (vG w)))] [] Γ I L (am_R (.inl (some (.int r))) If Lf) := by
        intro hor If Lf r hW
        refine bX3_readGates_2 (fun z => absurd z hle) (fun _ => ?_)
        refine bX3_readGates_7 (fun _ => ?_) (fun z => ?_)
        · exact bX3_readGates_22 ro (Nat.zero_le _) (Nat.zero_le _) hE1 hW
        · have hx : wd B n s 4 = true := hor.resolve_right (fun q => z (hz.mpr q))
          refine bX3_readGates_11 ro (Nat.zero_le _) (Nat.zero_le _) hWd ?_
          refine bX3_readGates_17 (fun _ => ?_) (fun z => absurd z (by rw [hx]; decide))
          exact bX3_readGates_22 ro (Nat.zero_le _) (Nat.zero_le _) hE1 hW
      cases hx : wd B n s 4 with
      | false =>
        by_cases h0 : vG w = 0
        · have ep : pWord B n 4 s = .error (1, s) := by unfold pWord; rw [if_neg (by rw [hx]; decide)]
          rw [ep] at k1
          obtain ⟨e1, e2⟩ := cOut.frD k1
          rw [uLoop_n hx h0]
          refine ⟨I1, L1, to22 (Or.inr h0) _ _ _ ?_, e1, e2⟩
          rw [hx]
          refine bX3_readGates_28 (fun _ => ?_) (fun z => absurd rfl z)
          refine bX3_readGates_55 ?_
          exact ⟨rfl, rfl, rfl⟩
        · rw [uLoop_d hx h0]
          refine ⟨I, L, ?_, fr0, ⟨rfl, rfl⟩, hc⟩
          refine bX3_readGates_2 (fun z => absurd z hle) (fun _ => ?_)
          refine bX3_readGates_7 (fun z => absurd (hz.mp z) h0) (fun _ => ?_)
          refine bX3_readGates_11 ro (Nat.zero_le _) (Nat.zero_le _) hWd ?_
          refine bX3_readGates_17 (fun z => absurd (by rw [hx]; rfl) z) (fun _ => ?_)
          refine bX3_readGates_20 ?_
          exact ⟨rfl, rfl, rfl⟩
      | true =>
        have ep : pWord B n 4 s = .ok (nx B n s, 1) := by unfold pWord; rw [if_pos hx]
        rw [ep] at k1
        obtain ⟨t1, fr1⟩ := k1
        have c1 := hc.frC hI.1 t1 fr1
        obtain ⟨I2, L2, ⟨y1, y2⟩, hErr, hOk⟩ := gate_unit (d := d) hF hI.1 hI.2.2 (by omega) c1
        have head : ∀ If Lf r, am_W m_X3_readGates (d + 6) 0 0 false 0 0 31 [(0, .ref 81), (1, .int (nn (vG w)))] [] Γ I1 L1 (am_R (.inl (some (.int r))) If Lf) → am_W m_X3_readGates (d + 6) 0 0 false 0 0 2 [(0, .ref 81), (1, .int (nn (vG w)))] [] Γ I L (am_R (.inl (some (.int r))) If Lf) := by
          intro If Lf r hW
          refine to22 (Or.inl hx) _ _ _ ?_
          exact bX3_readGates_28 (fun z => absurd z (by rw [hx]; decide)) (fun _ => hW)
        cases hU : uGa B n w (nx B n s) with
        | error e =>
          rw [hU] at y2
          rw [uLoop_e hx h6 hU]
          exact ⟨I2, L2, head _ _ _ (hErr e hU), fr1.frD.tr y1, y2⟩
        | ok q =>
          obtain ⟨s', w'⟩ := q
          rw [hU] at y2
          obtain ⟨k2, c2⟩ := y2
          obtain ⟨hI', hv'⟩ := uGa_inv hI (by omega) hU
          obtain ⟨I', L', hW, hO⟩ := eX3_readGates_go hF f hI' c2 (by omega)
          rw [uLoop_s hx h6 hU]
          refine ⟨I', L', head _ _ _ (hOk (s', w') _ _ _ hU ?_), hO.pre (fr1.frD.tr y1) (fr1.kp.tr k2)⟩
          rw [← hv']
          exact hW
end RDS
/-- the setup, whole -/
noncomputable def uSet (B : Nat → Nat) (n : Nat) (w : Nat → Int32) (s : Nat) : Except (Nat × Nat) (Nat × (Nat → Int32)) := match pWord B n 1 s with
  | .error e => .error e
  | .ok (s1, _) => match pSem B n s1 with
    | .error e => .error e
    | .ok (s2, _) => match uLoop B n 2 6 vQ (uQu B n) 7 s2 w with
      | .error e => .error e
      | .ok (s3, w3) => match uLoop B n 3 8 vT (uTy B n) 9 s3 w3 with
        | .error e => .error e
        | .ok (s4, w4) => uLoop B n 4 4 vG (uGa B n) 5 s4 w4
section US
variable {B : Nat → Nat} {n s : Nat} {w : Nat → Int32}
theorem uSet_1 {e : Nat × Nat} (h : pWord B n 1 s = .error e) : uSet B n w s = .error e := by
  unfold uSet
  rw [h]
theorem uSet_2 {q : Nat × Int32} {e : Nat × Nat} (h : pWord B n 1 s = .ok q) (h2 : pSem B n q.1 = .error e) : uSet B n w s = .error e := by
  unfold uSet
  rw [h]
  show (match pSem B n q.1 with | .error e => Except.error e | .ok (s2, _) => _) = _
  rw [h2]
theorem uSet_r {q q2 : Nat × Int32} (h : pWord B n 1 s = .ok q) (h2 : pSem B n q.1 = .ok q2) : uSet B n w s = match uLoop B n 2 6 vQ (uQu B n) 7 q2.1 w with
    | .error e => .error e
    | .ok (s3, w3) => match uLoop B n 3 8 vT (uTy B n) 9 s3 w3 with
      | .error e => .error e
      | .ok (s4, w4) => uLoop B n 4 4 vG (uGa B n) 5 s4 w4 := by
  unfold uSet
  rw [h]
  show (match pSem B n q.1 with | .error e => Except.error e | .ok (s2, _) => _) = _
  rw [h2]
theorem uSet_3 {q q2 : Nat × Int32} {e : Nat × Nat} (h : pWord B n 1 s = .ok q) (h2 : pSem B n q.1 = .ok q2) (h3 : uLoop B n 2 6 vQ (uQu B n) 7 q2.1 w = .error e) : uSet B n w s = .error e := by
  rw [uSet_r h h2, h3]
theorem uSet_s {q q2 : Nat × Int32} {q3 : Nat × (Nat → Int32)} (h : pWord B n 1 s = .ok q) (h2 : pSem B n q.1 = .ok q2) (h3 : uLoop B n 2 6 vQ (uQu B n) 7 q2.1 w = .ok q3) : uSet B n w s = match uLoop B n 3 8 vT (uTy B n) 9 q3.1 q3.2 with
      | .error e => .error e
      | .ok (s4, w4) => uLoop B n 4 4 vG (uGa B n) 5 s4 w4 := by
  rw [uSet_r h h2, h3]
theorem uSet_4 {q q2 : Nat × Int32} {q3 : Nat × (Nat → Int32)} {e : Nat × Nat} (h : pWord B n 1 s = .ok q) (h2 : pSem B n q.1 = .ok q2) (h3 : uLoop B n 2 6 vQ (uQu B n) 7 q2.1 w = .ok q3) (h4 : uLoop B n 3 8 vT (uTy B n) 9 q3.1 q3.2 = .error e) : uSet B n w s = .error e := by
  rw [uSet_s h h2 h3, h4]
theorem uSet_5 {q q2 : Nat × Int32} {q3 q4 : Nat × (Nat → Int32)} (h : pWord B n 1 s = .ok q) (h2 : pSem B n q.1 = .ok q2) (h3 : uLoop B n 2 6 vQ (uQu B n) 7 q2.1 w = .ok q3) (h4 : uLoop B n 3 8 vT (uTy B n) 9 q3.1 q3.2 = .ok q4) : uSet B n w s = uLoop B n 4 4 vG (uGa B n) 5 q4.1 q4.2 := by
  rw [uSet_s h h2 h3, h4]
theorem uLoopQ_inv {s' : Nat} {w' : Nat → Int32} (hI : qInv w) (h : uLoop B n 2 6 vQ (uQu B n) 7 s w = .ok (s', w')) : tInv w' ∧ vT w' = 0 := by
  obtain ⟨⟨a, b, c, e⟩, h1, -⟩ := uLoop_inv qInv (fun w s s' w' p q r => uQu_inv p q r) 7 s w hI hI.1.1.2 h
  exact ⟨⟨a, c, h1, e⟩, b⟩
theorem uLoopT_inv {s' : Nat} {w' : Nat → Int32} (hI : tInv w) (h : uLoop B n 3 8 vT (uTy B n) 9 s w = .ok (s', w')) : gInv w' ∧ vG w' = 0 := by
  obtain ⟨⟨a, b, c, e⟩, h1, -⟩ := uLoop_inv tInv (fun w s s' w' p q r => uTy_inv p q r) 9 s w hI hI.1.2.1.2 h
  exact ⟨⟨a, c, h1⟩, b⟩
theorem uLoopG_inv {s' : Nat} {w' : Nat → Int32} (hI : gInv w) (h : uLoop B n 4 4 vG (uGa B n) 5 s w = .ok (s', w')) : wfs w' := by
  obtain ⟨⟨a, b, c⟩, h1, -⟩ := uLoop_inv gInv (fun w s s' w' p q r => uGa_inv p q r) 5 s w hI hI.1.2.2.1.2 h
  exact ⟨a, b, c, h1⟩
end US
section RDS2
variable {d : Nat} {Γ : am_G} {I : am_I} {L : am_L} {B : Nat → Nat} {n s : Nat} {w : Nat → Int32}
theorem eX3_readSetup (hF : cF Γ) (hI : qInv w) (hQ : vQ w = 0) (hc : clR B n I L s w) : ∃ I' L', am_E m_X3_readSetup (d + 7) 0 0 [.ref 81] Γ I L (.inl (some (.int (oky (uSet B n w s))))) I' L' ∧ suOut B n I I' L L' (uSet B n w s) := by
  obtain ⟨-, -, -, -, ⟨ro, rr0, rr5, rr6, ra⟩, -⟩ := id hF
  obtain ⟨hB, ht, hs⟩ := id hc
  refine am_ofX rfl rfl rfl (Nat.le_of_ble_eq_true rfl) ?_
  obtain ⟨I1, L1, hE1, k1⟩ := eX3_takeWord (d := d + 1) ro rr0 ra hB ht (i := 1) (by decide)
  have no : ∀ If Lf, am_W m_X3_readSetup (d + 7) 0 0 false 0 0 41 [(0, .ref 81)] [] Γ If Lf (am_R (.inl (some (.int 0))) If Lf) := fun If Lf => by
    refine bX3_readSetup_41 ?_
    refine bX3_readSetup_42 (by exact bi_hz false) ?_
    exact ⟨rfl, rfl, rfl⟩
  cases hx : wd B n s 1 with
  | false =>
    have ep : pWord B n 1 s = .error (1, s) := by unfold pWord; rw [if_neg (by rw [hx]; decide)]
    rw [ep] at k1
    rw [hx] at hE1
    obtain ⟨e1, e2⟩ := cOut.frD k1
    rw [uSet_1 ep]
    refine ⟨I1, L1, ?_, e1, e2⟩
    refine bX3_readSetup_0 ro (Nat.zero_le _) (Nat.zero_le _) hE1 ?_
    exact bX3_readSetup_6 (fun _ => no _ _) (fun z => absurd rfl z)
  | true =>
    have ep : pWord B n 1 s = .ok (nx B n s, 1) := by unfold pWord; rw [if_pos hx]
    rw [ep] at k1
    rw [hx] at hE1
    obtain ⟨t1, fr1⟩ := k1
    have c1 := hc.frC hI.1 t1 fr1
    obtain ⟨I2, L2, hE2, k2⟩ := eX3_takeSemicolon (d := d + 4) (Γ := Γ) ro rr0 ra c1.1 t1
    have h1 : ∀ Q, am_W m_X3_readSetup (d + 7) 0 0 false 0 0 13 [(0, .ref 81)] [.int (bi (decide (kd B n (nx B n s) = 2)))] Γ I2 L2 Q → am_W m_X3_readSetup (d + 7) 0 0 false 0 0 0 [(0, .ref 81)] [] Γ I L Q := fun Q hW => by
      refine bX3_readSetup_0 ro (Nat.zero_le _) (Nat.zero_le _) hE1 ?_
      refine bX3_readSetup_6 (fun z => absurd z (by decide)) (fun _ => ?_)
      exact bX3_readSetup_9 ro (Nat.zero_le _) (Nat.zero_le _) hE2 hW
    cases hS : pSem B n (nx B n s) with
    | error e =>
      rw [hS] at k2
      obtain ⟨e1, e2⟩ := cOut.frD k2
      have h2 : ¬ kd B n (nx B n s) = 2 := fun z => by unfold pSem at hS; rw [if_pos z] at hS; cases hS
      rw [uSet_2 ep hS]
      refine ⟨I2, L2, h1 _ ?_, fr1.frD.tr e1, e2⟩
      rw [decide_eq_false h2]
      exact bX3_readSetup_13 (fun _ => no _ _) (fun z => absurd rfl z)
    | ok q =>
      rw [hS] at k2
      obtain ⟨h2, hp⟩ := pSem_q hS
      subst hp
      obtain ⟨t2, fr2⟩ := k2
      have c2 := c1.frC hI.1 t2 fr2
      obtain ⟨I3, L3, hW3, y3, k3⟩ := eX3_readQuestions_go (d := d) hF 7 hI c2 (by omega)
      rw [hQ] at hW3
      have hE3 : am_E m_X3_readQuestions (d + 6) 0 0 [.ref 81] Γ I2 L2 (.inl (some (.int (oky (uLoop B n 2 6 vQ (uQu B n) 7 (nx B n (nx B n s)) w))))) I3 L3 := am_ofE rfl rfl rfl (Nat.le_of_ble_eq_true rfl) (bX3_readQuestions_0 hW3)
      have h3 : ∀ Q, am_W m_X3_readSetup (d + 7) 0 0 false 0 0 20 [(0, .ref 81)] [.int (oky (uLoop B n 2 6 vQ (uQu B n) 7 (nx B n (nx B n s)) w))] Γ I3 L3 Q → am_W m_X3_readSetup (d + 7) 0 0 false 0 0 0 [(0, .ref 81)] [] Γ I L Q := fun Q hW => h1 Q (by
        rw [decide_eq_true h2]
        refine bX3_readSetup_13 (fun z => absurd z (by decide)) (fun _ => ?_)
        exact bX3_readSetup_16 ro (Nat.zero_le _) (Nat.zero_le _) hE3 hW)
      have e02 : frD I I2 L L2 := fr1.frD.tr fr2.frD
      have kp02 : kpC I I2 := fr1.kp.tr fr2.kp
      cases hU3 : uLoop B n 2 6 vQ (uQu B n) 7 (nx B n (nx B n s)) w with
      | error e =>
        rw [hU3] at k3 h3
        rw [uSet_3 ep hS hU3]
        exact ⟨I3, L3, h3 _ (bX3_readSetup_20 (fun _ => no _ _) (fun z => absurd rfl z)), e02.tr y3, k3⟩
      | ok q3 =>
        obtain ⟨s3, w3⟩ := q3
        rw [hU3] at k3 h3
        obtain ⟨kp3, c3⟩ := k3
        obtain ⟨hI3, hT3⟩ := uLoopQ_inv hI hU3
        obtain ⟨I4, L4, hW4, y4, k4⟩ := eX3_readCarts_go (d := d) hF 9 hI3 c3 (by omega)
        rw [hT3] at hW4
        have hE4 : am_E m_X3_readCarts (d + 6) 0 0 [.ref 81] Γ I3 L3 (.inl (some (.int (oky (uLoop B n 3 8 vT (uTy B n) 9 s3 w3))))) I4 L4 := am_ofE rfl rfl rfl (Nat.le_of_ble_eq_true rfl) (bX3_readCarts_0 hW4)
        have h4 : ∀ Q, am_W m_X3_readSetup (d + 7) 0 0 false 0 0 27 [(0, .ref 81)] [.int (oky (uLoop B n 3 8 vT (uTy B n) 9 s3 w3))] Γ I4 L4 Q → am_W m_X3_readSetup (d + 7) 0 0 false 0 0 0 [(0, .ref 81)] [] Γ I L Q := fun Q hW => h3 Q (by
          refine bX3_readSetup_20 (fun z => absurd z (show ¬ (1 : Int32) = 0 by decide)) (fun _ => ?_)
          exact bX3_readSetup_23 ro (Nat.zero_le _) (Nat.zero_le _) hE4 hW)
        cases hU4 : uLoop B n 3 8 vT (uTy B n) 9 s3 w3 with
        | error e =>
          rw [hU4] at k4 h4
          rw [uSet_4 ep hS hU3 hU4]
          exact ⟨I4, L4, h4 _ (bX3_readSetup_27 (fun _ => no _ _) (fun z => absurd rfl z)), (e02.tr y3).tr y4, k4⟩
        | ok q4 =>
          obtain ⟨s4, w4⟩ := q4
          rw [hU4] at k4 h4
          obtain ⟨kp4, c4⟩ := k4
          obtain ⟨hI4, hG4⟩ := uLoopT_inv hI3 hU4
          obtain ⟨I5, L5, hW5, y5, k5⟩ := eX3_readGates_go (d := d) hF 5 hI4 c4 (by omega)
          rw [hG4] at hW5
          have hE5 : am_E m_X3_readGates (d + 6) 0 0 [.ref 81] Γ I4 L4 (.inl (some (.int (oky (uLoop B n 4 4 vG (uGa B n) 5 s4 w4))))) I5 L5 := am_ofE rfl rfl rfl (Nat.le_of_ble_eq_true rfl) (bX3_readGates_0 hW5)
          have h5 : ∀ Q, am_W m_X3_readSetup (d + 7) 0 0 false 0 0 34 [(0, .ref 81)] [.int (oky (uLoop B n 4 4 vG (uGa B n) 5 s4 w4))] Γ I5 L5 Q → am_W m_X3_readSetup (d + 7) 0 0 false 0 0 0 [(0, .ref 81)] [] Γ I L Q := fun Q hW => h4 Q (by
            refine bX3_readSetup_27 (fun z => absurd z (show ¬ (1 : Int32) = 0 by decide)) (fun _ => ?_)
            exact bX3_readSetup_30 ro (Nat.zero_le _) (Nat.zero_le _) hE5 hW)
          rw [uSet_5 ep hS hU3 hU4]
          have hO5 : suOut B n I4 I5 L4 L5 (uLoop B n 4 4 vG (uGa B n) 5 s4 w4) := ⟨y5, k5⟩
          refine ⟨I5, L5, h5 _ ?_, hO5.pre ((e02.tr y3).tr y4) ((kp02.tr kp3).tr kp4)⟩
          cases hU5 : uLoop B n 4 4 vG (uGa B n) 5 s4 w4 with
          | error e => exact bX3_readSetup_34 (fun _ => no _ _) (fun z => absurd rfl z)
          | ok q5 =>
            refine bX3_readSetup_34 (fun z => absurd z (show ¬ (1 : Int32) = 0 by decide)) (fun _ => ?_)
            refine bX3_readSetup_37 ?_
            refine bX3_readSetup_42 (by exact bi_hz true) ?_
            exact ⟨rfl, rfl, rfl⟩
end RDS2
