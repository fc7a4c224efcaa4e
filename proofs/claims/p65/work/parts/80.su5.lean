/-! THE TEXT'S SETUP: what a gate takes; the class reads a gate -/
section QG
variable {B : Nat → Nat} {n s : Nat} {w w' : Nat → Int32}
theorem uGh_1 {e : Nat × Nat} (h : pNew B n (fNm w 135 94 B s (en B n s - s) (vG w)) s = .error e) : uGh B n w s = .error e := by
  unfold uGh
  rw [h]
theorem uGh_2 {q : Nat × Int32} {e : Nat × Nat} (h : pNew B n (fNm w 135 94 B s (en B n s - s) (vG w)) s = .ok q) (h2 : pNum B n 0 23 (nx B n s) = .error e) : uGh B n w s = .error e := by
  unfold uGh
  rw [h, h2]
theorem uGh_r {q q2 : Nat × Int32} (h : pNew B n (fNm w 135 94 B s (en B n s - s) (vG w)) s = .ok q) (h2 : pNum B n 0 23 (nx B n s) = .ok q2) : uGh B n w s = match pNum B n 0 23 q2.1 with
    | .error e => .error e
    | .ok (s3, b) => match pNum B n 0 30 s3 with
      | .error e => .error e
      | .ok (s4, c) => .ok (s4, gatW B n w s q2.2 b c) := by
  unfold uGh
  rw [h, h2]
  rfl
theorem uGh_3 {q q2 : Nat × Int32} {e : Nat × Nat} (h : pNew B n (fNm w 135 94 B s (en B n s - s) (vG w)) s = .ok q) (h2 : pNum B n 0 23 (nx B n s) = .ok q2) (h3 : pNum B n 0 23 q2.1 = .error e) : uGh B n w s = .error e := by
  rw [uGh_r h h2, h3]
theorem uGh_s {q q2 q3 : Nat × Int32} (h : pNew B n (fNm w 135 94 B s (en B n s - s) (vG w)) s = .ok q) (h2 : pNum B n 0 23 (nx B n s) = .ok q2) (h3 : pNum B n 0 23 q2.1 = .ok q3) : uGh B n w s = match pNum B n 0 30 q3.1 with
    | .error e => .error e
    | .ok (s4, c) => .ok (s4, gatW B n w s q2.2 q3.2 c) := by
  rw [uGh_r h h2, h3]
theorem uGh_4 {q q2 q3 : Nat × Int32} {e : Nat × Nat} (h : pNew B n (fNm w 135 94 B s (en B n s - s) (vG w)) s = .ok q) (h2 : pNum B n 0 23 (nx B n s) = .ok q2) (h3 : pNum B n 0 23 q2.1 = .ok q3) (h4 : pNum B n 0 30 q3.1 = .error e) : uGh B n w s = .error e := by
  rw [uGh_s h h2 h3, h4]
theorem uGh_5 {q q2 q3 q4 : Nat × Int32} (h : pNew B n (fNm w 135 94 B s (en B n s - s) (vG w)) s = .ok q) (h2 : pNum B n 0 23 (nx B n s) = .ok q2) (h3 : pNum B n 0 23 q2.1 = .ok q3) (h4 : pNum B n 0 30 q3.1 = .ok q4) : uGh B n w s = .ok (q4.1, gatW B n w s q2.2 q3.2 q4.2) := by
  rw [uGh_s h h2 h3, h4]
theorem gatW_at (w : Nat → Int32) (s : Nat) (a b c : Int32) (hx : nmb B n s = true) : (∀ j, j < 132 + vG w * 94 → gatW B n w s a b c j = w j) ∧ gatW B n w s a b c (132 + vG w * 94 + 0) = a ∧ gatW B n w s a b c (132 + vG w * 94 + 1) = b ∧ gatW B n w s a b c (132 + vG w * 94 + 2) = c ∧ nmO (gatW B n w s a b c) (132 + vG w * 94 + 3) ∧ pnm (gatW B n w s a b c) (132 + vG w * 94 + 3) = ll (nmk B s (en B n s - s)) := by
  obtain ⟨l6, -, l0, -, hl⟩ := nmb_len hx
  unfold gatW
  have hN := lyW_nm (w := w) (w' := up (up (up (lyW w (132 + vG w * 94 + 3) B s (en B n s - s)) (132 + vG w * 94 + 0) a) (132 + vG w * 94 + 1) b) (132 + vG w * 94 + 2) c) (a := 132 + vG w * 94 + 3) l6 l0 hl (fun i hi => by rw [up_ne (by omega), up_ne (by omega), up_ne (by omega)])
  refine ⟨fun j a => ?_, ?_, ?_, up_eq _ _ _, hN.1, hN.2⟩
  · rw [up_ne (by omega), up_ne (by omega), up_ne (by omega), lyW_out (Or.inl (by omega))]
  · rw [up_ne (by omega), up_ne (by omega), up_eq]
  · rw [up_ne (by omega), up_eq]
/-- what a gate's head came to -/
theorem uGh_in {s' : Nat} (h : uGh B n w s = .ok (s', w')) : nmb B n s = true ∧ fNm w 135 94 B s (en B n s - s) (vG w) = -1 ∧ s' = nx B n (nx B n (nx B n (nx B n s))) ∧ ∃ a b c, a ≤ 23 ∧ b ≤ 23 ∧ c ≤ 30 ∧ w' = gatW B n w s (nn a) (nn b) (nn c) := by
  cases hk : pNew B n (fNm w 135 94 B s (en B n s - s) (vG w)) s with
  | error e => rw [uGh_1 hk] at h; cases h
  | ok q =>
    obtain ⟨hx, hm1⟩ := pNew_q hk
    cases h2 : pNum B n 0 23 (nx B n s) with
    | error e => rw [uGh_2 hk h2] at h; cases h
    | ok q2 =>
      have p2 := pNum_q h2
      have o2 := pNum_ok h2
      cases h3 : pNum B n 0 23 q2.1 with
      | error e => rw [uGh_3 hk h2 h3] at h; cases h
      | ok q3 =>
        have p3 := pNum_q h3
        have o3 := pNum_ok h3
        cases h4 : pNum B n 0 30 q3.1 with
        | error e => rw [uGh_4 hk h2 h3 h4] at h; cases h
        | ok q4 =>
          have p4 := pNum_q h4
          have o4 := pNum_ok h4
          rw [uGh_5 hk h2 h3 h4] at h
          subst p4
          subst p3
          subst p2
          cases h
          exact ⟨hx, hm1, rfl, _, _, _, o2.2.2, o3.2.2, o4.2.2, rfl⟩
theorem uCm_0e {a t : Nat} {e : Nat × Nat} (h : uMore B n s = .error e) : uCm B n a 0 t s w = .error e := by
  unfold uCm
  rw [h]
theorem uCm_0 {a t : Nat} {q : Nat × Int32} (h : uMore B n s = .ok q) : uCm B n a 0 t s w = .ok (q.1, w) := by
  unfold uCm
  rw [h]
theorem uCm_e {a k t : Nat} {e : Nat × Nat} (h : pNum B n 0 9999 s = .error e) : uCm B n a (k + 1) t s w = .error e := by
  unfold uCm
  rw [h]
theorem uCm_s {a k t : Nat} {q : Nat × Int32} (h : pNum B n 0 9999 s = .ok q) : uCm B n a (k + 1) t s w = uCm B n a k (t + 1) q.1 (up w (a + (10 + t)) q.2) := by
  conv => lhs; unfold uCm
  rw [h]
theorem uCm_at {a : Nat} : ∀ (k t s : Nat) (w : Nat → Int32) {s' : Nat} {w' : Nat → Int32}, uCm B n a k t s w = .ok (s', w') → (∀ j, ¬ (a + (10 + t) ≤ j ∧ j < a + (10 + t) + k) → w' j = w j) ∧ ∀ i, t ≤ i → i < t + k → ∃ v, v ≤ 9999 ∧ w' (a + (10 + i)) = nn v
  | 0, t, s, w, s', w', h => by
    cases hm : uMore B n s with
    | error e => rw [uCm_0e hm] at h; cases h
    | ok q =>
      rw [uCm_0 hm] at h
      cases h
      exact ⟨fun _ _ => rfl, fun i h1 h2 => absurd h2 (by omega)⟩
  | k + 1, t, s, w, s', w', h => by
    cases hn : pNum B n 0 9999 s with
    | error e => rw [uCm_e hn] at h; cases h
    | ok q =>
      rw [uCm_s hn] at h
      have o := pNum_ok hn
      have p := pNum_q hn
      subst p
      obtain ⟨h1, h2⟩ := uCm_at k (t + 1) _ _ h
      refine ⟨fun j hj => ?_, fun i a1 a2 => ?_⟩
      · rw [h1 j (by omega), up_ne (by omega)]
      · by_cases hi : i = t
        · subst hi
          refine ⟨_, o.2.2, ?_⟩
          rw [h1 _ (by omega), up_eq]
        · exact h2 i (by omega) (by omega)
theorem uGa_1 {e : Nat × Nat} (h : uGh B n w s = .error e) : uGa B n w s = .error e := by
  unfold uGa
  rw [h]
theorem uGa_2 {q : Nat × (Nat → Int32)} {e : Nat × Nat} (h : uGh B n w s = .ok q) (h2 : uCm B n (132 + vG w * 94) (vT w) 0 q.1 q.2 = .error e) : uGa B n w s = .error e := by
  unfold uGa
  rw [h]
  show (match uCm B n (132 + vG w * 94) (vT w) 0 q.1 q.2 with | .error e => Except.error e | .ok (s6, w1) => Except.ok (s6, bldW (up w1 2 (nn (vG w + 1))) (vG w))) = _
  rw [h2]
theorem uGa_3 {q q2 : Nat × (Nat → Int32)} (h : uGh B n w s = .ok q) (h2 : uCm B n (132 + vG w * 94) (vT w) 0 q.1 q.2 = .ok q2) : uGa B n w s = .ok (q2.1, bldW (up q2.2 2 (nn (vG w + 1))) (vG w)) := by
  unfold uGa
  rw [h]
  show (match uCm B n (132 + vG w * 94) (vT w) 0 q.1 q.2 with | .error e => Except.error e | .ok (s6, w1) => Except.ok (s6, bldW (up w1 2 (nn (vG w + 1))) (vG w))) = _
  rw [h2]
/-- the numbers of a gate that was read -/
theorem uGa_N {q q2 : Nat × (Nat → Int32)} (hG : vG w < 4) (hT : vT w ≤ 8) (h : uGh B n w s = .ok q) (h2 : uCm B n (132 + vG w * 94) (vT w) 0 q.1 q.2 = .ok q2) : gtN w (up q2.2 2 (nn (vG w + 1))) ∧ ∀ j, j ≠ 2 → ¬ (132 + vG w * 94 + 10 ≤ j ∧ j < 132 + vG w * 94 + 10 + vT w) → up q2.2 2 (nn (vG w + 1)) j = q.2 j := by
  obtain ⟨s1, w1⟩ := q
  obtain ⟨s2, w2⟩ := q2
  obtain ⟨hx, -, -, a, b, c, ha, hb, hc, rfl⟩ := uGh_in h
  obtain ⟨y1, y2⟩ := uCm_at _ _ _ _ h2
  obtain ⟨z1, z2, z3, z4, z5, z6⟩ := gatW_at (B := B) (n := n) w s (nn a) (nn b) (nn c) hx
  have oth : ∀ j, j ≠ 2 → ¬ (132 + vG w * 94 + 10 ≤ j ∧ j < 132 + vG w * 94 + 10 + vT w) → up w2 2 (nn (vG w + 1)) j = gatW B n w s (nn a) (nn b) (nn c) j := fun j h1 h2 => by rw [up_ne h1, y1 j (by omega)]
  refine ⟨⟨up_eq _ _ _, fun j h1 h2 => ?_, ⟨a, ha, ?_⟩, ⟨b, hb, ?_⟩, ⟨c, hc, ?_⟩, ?_, fun t ht => ?_⟩, oth⟩
  · rw [oth j h1 (by omega)]; exact z1 j h2
  · rw [oth _ (by omega) (by omega)]; exact z2
  · rw [oth _ (by omega) (by omega)]; exact z3
  · rw [oth _ (by omega) (by omega)]; exact z4
  · exact (z5.to (fun i hi => oth _ (by omega) (by omega))).1
  · obtain ⟨v, v1, v2⟩ := y2 t (Nat.zero_le _) (by omega)
    exact ⟨v, v1, by rw [up_ne (by omega)]; exact v2⟩
end QG
/-- how a gate's head leaves the class -/
def ghO (I I' : am_I) (L L' : am_L) (w w' : Nat → Int32) : Prop := (∀ k, k ≠ 81 → k ≠ 45 → k ≠ gc 45 (vG w) → I' k = I k) ∧ (∀ j, j ≠ 2 → I' 45 j = I 45 j) ∧ I' 45 2 = nn (vG w + 1) ∧ (∀ k, k ≠ 81 → k ≠ gc 45 (vG w) → L' k = L k) ∧ L' (gc 45 (vG w)) 0 = pnm w' (132 + vG w * 94 + 3) ∧ I' (gc 45 (vG w)) 1 = w' (132 + vG w * 94 + 0) ∧ I' (gc 45 (vG w)) 2 = w' (132 + vG w * 94 + 1) ∧ I' (gc 45 (vG w)) 3 = w' (132 + vG w * 94 + 2)
def ghOut (B : Nat → Nat) (n : Nat) (I I' : am_I) (L L' : am_L) (w : Nat → Int32) (o : Except (Nat × Nat) (Nat × (Nat → Int32))) : Prop := frD I I' L L' ∧ match o with
  | .ok (s', w') => kpC I I' ∧ rcB I' B n ∧ tkC B n I' L' s' ∧ ghO I I' L L' w w'
  | .error (c, p) => I' 81 2 = nn c ∧ I' 81 3 = nn p
section RDG
variable {d : Nat} {Γ : am_G} {I : am_I} {L : am_L} {B : Nat → Nat} {n s : Nat} {w : Nat → Int32}
theorem eX3_readGate (hF : cF Γ) (hw : wfp w) (hG : vG w < 4) (hc : clR B n I L s w) : ∃ I' L', am_E m_X3_readGate (d + 3) 0 0 [.ref 81, .int (nn (vG w))] Γ I L (.inl (some (.int (oky (uGh B n w s))))) I' L' ∧ ghOut B n I I' L L' w (uGh B n w s) := by
  obtain ⟨⟨o, f0, f1, f2, f3, f4, f5, f6, f7⟩, so, st, st2, ⟨ro, rr0, rr5, rr6, ra⟩, -⟩ := id hF
  obtain ⟨ob, s4, s5, s6, s7, s8, s9, s10, b1, b2, b3, b4, b5, b6, o7, hg⟩ := id st2
  obtain ⟨hB, ht, hs⟩ := id hc
  obtain ⟨hg1, hgg⟩ := hg (vG w) hG
  have gE : gc 45 (vG w) = 45 + (8 + 7 * vG w) := rfl
  refine am_ofX rfl rfl rfl (Nat.le_of_ble_eq_true rfl) ?_
  have hName : am_E m_X5_gateNamed (d + 2) 0 0 [.ref 45, .long (L 81 10)] Γ I L (.inl (some (.int (fGate L 45 (L 81 10) (vG w))))) I L := eX5_gateNamed (N := vG w) st2 (hs.1.2.2.1.trans hw.2.2.1.1) hw.2.2.1.2 _
  have hvv : nmb B n s = true → fGate L 45 (L 81 10) (vG w) = fNm w 135 94 B s (en B n s - s) (vG w) := fun hx => by rw [ht.nm hx]; exact fGate_G (b := 45) hs hw hx
  obtain ⟨g1, g2⟩ := eX3_isNewName (d := d + 1) (Γ := Γ) ro hB ht (fGate L 45 (L 81 10) (vG w))
  rw [pNew_v hvv] at g2
  have et : (nn (vG w) : Int32).toNatClampNeg = vG w := nn_nat (by omega)
  have nm1 : ∀ k, k < 31 → ¬ nn k = -1 := by decide
  cases hk : pNew B n (fNm w 135 94 B s (en B n s - s) (vG w)) s with
  | error e =>
    obtain ⟨I2, hE2, k2⟩ := g2 e hk
    obtain ⟨e1, e2⟩ := cOut.frD k2
    rw [uGh_1 hk]
    refine ⟨I2, L, ?_, e1, e2⟩
    refine bX3_readGate_0 ro rr5 ob (Nat.zero_le _) (Nat.zero_le _) hName ?_
    refine bX3_readGate_12 ro (Nat.zero_le _) (Nat.zero_le _) hE2 ?_
    refine bX3_readGate_15 (fun z => absurd rfl z) (fun _ => ?_)
    refine bX3_readGate_18 ?_
    exact ⟨rfl, rfl, rfl⟩
  | ok q =>
    obtain ⟨hx, hm1⟩ := pNew_q hk
    have hE2 := g1 hx ((hvv hx).trans hm1)
    have hnm := ht.nm hx
    generalize hgx : gc 45 (vG w) = x at *
    obtain ⟨L3, hL3⟩ : ∃ L3, L3 = am_ul L x 0 (L 81 10) := ⟨_, rfl⟩
    have l3 : ∀ k, k ≠ x → L3 k = L k := fun k hk => by rw [hL3, am_ul_ne hk]
    have l3x : L3 x 0 = L 81 10 := by rw [hL3, am_ul_at, if_pos ⟨rfl, rfl⟩]
    obtain ⟨I4, L4, hE4, t4, fr4⟩ := eX3_go (d := d + 1) ro rr0 ra hB (ht.st (L3 := L3) rfl (l3 81 (by omega)))
    have B4 := hB.frC fr4
    have e13 : frD I I L L3 := ⟨fun _ _ _ => rfl, fun _ _ _ _ _ _ _ => rfl, fun k a b => l3 k (by omega)⟩
    have e14 : frD I I4 L L4 := e13.tr fr4.frD
    have head : ∀ If Lf r, am_W m_X3_readGate (d + 3) 0 0 false 0 0 42 [(0, .ref 81), (1, .int (nn (vG w))), (2, .ref x)] [] Γ I4 L4 (am_R (.inl (some (.int r))) If Lf) → am_W m_X3_readGate (d + 3) 0 0 false 0 0 0 [(0, .ref 81), (1, .int (nn (vG w)))] [] Γ I L (am_R (.inl (some (.int r))) If Lf) := by
      intro If Lf r hW
      refine bX3_readGate_0 ro rr5 ob (Nat.zero_le _) (Nat.zero_le _) hName ?_
      refine bX3_readGate_12 ro (Nat.zero_le _) (Nat.zero_le _) hE2 ?_
      refine bX3_readGate_15 (fun _ => ?_) (fun z => absurd z (by decide))
      exact bX3_readGate_20 ro rr5 ob s9 b6 (nn_in (by omega) (by omega)) (by rw [et]; exact hg1) hgg.1 (Nat.zero_le _) (Nat.zero_le _) (by rw [← hL3]; exact hE4) hW
    obtain ⟨I5, L5, hE5, k5⟩ := eX3_takeNumber (d := d) ro rr0 ra B4 t4 (lo := 0) (hi := 23) (by decide) (by decide)
    obtain ⟨J5, hJ5⟩ : ∃ J5, J5 = am_u I5 x 1 (rOut (pNum B n 0 23 (nx B n s))) := ⟨_, rfl⟩
    have j5 : ∀ k, k ≠ x → J5 k = I5 k := fun k hk => by rw [hJ5, am_u_ne hk]
    have x5 : J5 x 1 = rOut (pNum B n 0 23 (nx B n s)) := by rw [hJ5, at1, if_pos rfl]
    have e5 : frD I5 J5 L5 L5 := ⟨fun k a b => j5 k (by omega), fun j _ _ _ _ _ _ => by rw [j5 81 (by omega)], fun _ _ _ => rfl⟩
    cases h2 : pNum B n 0 23 (nx B n s) with
    | error e =>
      rw [h2] at k5 x5 hE5 hJ5
      obtain ⟨e1, e2⟩ := cOut.frD k5
      rw [uGh_2 hk h2]
      refine ⟨J5, L5, head _ _ _ ?_, (e14.tr e1).tr e5, by rw [j5 81 (by omega)]; exact e2⟩
      refine bX3_readGate_42 ro (Nat.zero_le _) (Nat.zero_le _) hE5 ?_
      refine bX3_readGate_50 hgg.1 hgg.1 (fun z => absurd (by rw [← hJ5]; exact x5) z) (fun _ => ?_)
      rw [← hJ5]
      refine bX3_readGate_61 ?_
      exact ⟨rfl, rfl, rfl⟩
    | ok q2 =>
      rw [h2] at k5 x5 hE5 hJ5
      have o2 := pNum_ok h2
      have p2 := pNum_q h2
      subst p2
      obtain ⟨t5, fr5⟩ := k5
      have er5 : rOut (.ok (nx B n (nx B n s), nn (vl B n (nx B n s)))) = nn (vl B n (nx B n s)) := rfl
      rw [er5] at x5 hJ5 hE5
      have B5 : rcB J5 B n := (B4.frC fr5).st (j5 81 (by omega)) (j5 82 (by omega))
      obtain ⟨I6, L6, hE6, k6⟩ := eX3_takeNumber (d := d) ro rr0 ra B5 (t5.st (L3 := L5) (j5 81 (by omega)) rfl) (lo := 0) (hi := 23) (by decide) (by decide)
      have head2 : ∀ If Lf r, am_W m_X3_readGate (d + 3) 0 0 false 0 0 71 [(0, .ref 81), (1, .int (nn (vG w))), (2, .ref x)] [.int (rOut (pNum B n 0 23 (nx B n (nx B n s)))), .ref x] Γ I6 L6 (am_R (.inl (some (.int r))) If Lf) → am_W m_X3_readGate (d + 3) 0 0 false 0 0 0 [(0, .ref 81), (1, .int (nn (vG w)))] [] Γ I L (am_R (.inl (some (.int r))) If Lf) := by
        intro If Lf r hW
        refine head _ _ _ ?_
        refine bX3_readGate_42 ro (Nat.zero_le _) (Nat.zero_le _) hE5 ?_
        refine bX3_readGate_50 hgg.1 hgg.1 (fun _ => ?_) (fun z => absurd (x5.symm.trans (by rw [← hJ5] at z; exact z)) (nm1 _ (by omega)))
        rw [← hJ5]
        exact bX3_readGate_63 ro (Nat.zero_le _) (Nat.zero_le _) hE6 hW
      obtain ⟨J6, hJ6⟩ : ∃ J6, J6 = am_u I6 x 2 (rOut (pNum B n 0 23 (nx B n (nx B n s)))) := ⟨_, rfl⟩
      have j6 : ∀ k, k ≠ x → J6 k = I6 k := fun k hk => by rw [hJ6, am_u_ne hk]
      have x6 : J6 x 2 = rOut (pNum B n 0 23 (nx B n (nx B n s))) := by rw [hJ6, at1, if_pos rfl]
      have e6 : frD I6 J6 L6 L6 := ⟨fun k a b => j6 k (by omega), fun j _ _ _ _ _ _ => by rw [j6 81 (by omega)], fun _ _ _ => rfl⟩
      have e15 : frD I J5 L L5 := (e14.tr fr5.frD).tr e5
      cases h3 : pNum B n 0 23 (nx B n (nx B n s)) with
      | error e =>
        rw [h3] at k6 x6 head2 hJ6
        obtain ⟨e1, e2⟩ := cOut.frD k6
        rw [uGh_3 hk h2 h3]
        refine ⟨J6, L6, head2 _ _ _ ?_, (e15.tr e1).tr e6, by rw [j6 81 (by omega)]; exact e2⟩
        refine bX3_readGate_71 hgg.1 hgg.1 (fun z => absurd (by rw [← hJ6]; exact x6) z) (fun _ => ?_)
        rw [← hJ6]
        refine bX3_readGate_82 ?_
        exact ⟨rfl, rfl, rfl⟩
      | ok q3 =>
        rw [h3] at k6 x6 head2 hJ6
        have o3 := pNum_ok h3
        have p3 := pNum_q h3
        subst p3
        obtain ⟨t6, fr6⟩ := k6
        have er6 : rOut (.ok (nx B n (nx B n (nx B n s)), nn (vl B n (nx B n (nx B n s))))) = nn (vl B n (nx B n (nx B n s))) := rfl
        rw [er6] at x6 hJ6 head2
        have B6 : rcB J6 B n := (B5.frC fr6).st (j6 81 (by omega)) (j6 82 (by omega))
        obtain ⟨I7, L7, hE7, k7⟩ := eX3_takeNumber (d := d) ro rr0 ra B6 (t6.st (L3 := L6) (j6 81 (by omega)) rfl) (lo := 0) (hi := 30) (by decide) (by decide)
        have head3 : ∀ If Lf r, am_W m_X3_readGate (d + 3) 0 0 false 0 0 92 [(0, .ref 81), (1, .int (nn (vG w))), (2, .ref x)] [.int (rOut (pNum B n 0 30 (nx B n (nx B n (nx B n s))))), .ref x] Γ I7 L7 (am_R (.inl (some (.int r))) If Lf) → am_W m_X3_readGate (d + 3) 0 0 false 0 0 0 [(0, .ref 81), (1, .int (nn (vG w)))] [] Γ I L (am_R (.inl (some (.int r))) If Lf) := by
          intro If Lf r hW
          refine head2 _ _ _ ?_
          refine bX3_readGate_71 hgg.1 hgg.1 (fun _ => ?_) (fun z => absurd (x6.symm.trans (by rw [← hJ6] at z; exact z)) (nm1 _ (by omega)))
          rw [← hJ6]
          exact bX3_readGate_84 ro (Nat.zero_le _) (Nat.zero_le _) hE7 hW
        obtain ⟨J7, hJ7⟩ : ∃ J7, J7 = am_u (am_u I7 x 3 (rOut (pNum B n 0 30 (nx B n (nx B n (nx B n s)))))) 45 2 (nn (vG w + 1)) := ⟨_, rfl⟩
        have j7 : ∀ k, k ≠ x → k ≠ 45 → J7 k = I7 k := fun k hk h4 => by rw [hJ7, am_u_ne h4, am_u_ne hk]
        have x7 : J7 x 3 = rOut (pNum B n 0 30 (nx B n (nx B n (nx B n s)))) := by rw [hJ7, am_u_ne (by omega), at1, if_pos rfl]
        have e7 : frD I7 J7 L7 L7 := ⟨fun k a b => j7 k (by omega) (by omega), fun j _ _ _ _ _ _ => by rw [j7 81 (by omega) (by omega)], fun _ _ _ => rfl⟩
        have e16 : frD I J6 L L6 := (e15.tr fr6.frD).tr e6
        cases h4 : pNum B n 0 30 (nx B n (nx B n (nx B n s))) with
        | error e =>
          rw [h4] at k7 x7 head3 hJ7
          obtain ⟨e1, e2⟩ := cOut.frD k7
          rw [uGh_4 hk h2 h3 h4]
          refine ⟨J7, L7, head3 _ _ _ ?_, (e16.tr e1).tr e7, by rw [j7 81 (by omega) (by omega)]; exact e2⟩
          refine bX3_readGate_92 hgg.1 ro rr5 ob hgg.1 (fun _ => ?_) (fun z => absurd (by rw [nn_s1, ← hJ7]; exact x7) z)
          rw [nn_s1, ← hJ7]
          refine bX3_readGate_117 ?_
          refine bX3_readGate_118 (by exact bi_hz false) ?_
          exact ⟨rfl, rfl, rfl⟩
        | ok q4 =>
          rw [h4] at k7 x7 head3 hJ7
          have o4 := pNum_ok h4
          have p4 := pNum_q h4
          subst p4
          obtain ⟨t7, fr7⟩ := k7
          have er7 : rOut (.ok (nx B n (nx B n (nx B n (nx B n s))), nn (vl B n (nx B n (nx B n (nx B n s)))))) = nn (vl B n (nx B n (nx B n (nx B n s)))) := rfl
          rw [er7] at x7 hJ7 head3
          have B7 : rcB J7 B n := (B6.frC fr7).st (j7 81 (by omega) (by omega)) (j7 82 (by omega) (by omega))
          rw [uGh_5 hk h2 h3 h4]
          obtain ⟨z1, z2, z3, z4, z5, z6⟩ := gatW_at (B := B) (n := n) w s (nn (vl B n (nx B n s))) (nn (vl B n (nx B n (nx B n s)))) (nn (vl B n (nx B n (nx B n (nx B n s))))) hx
          have k17 : kpC I J7 := (((fr4.kp.tr fr5.kp).tr ((kpC.st (j5 81 (by omega))).tr fr6.kp)).tr ((kpC.st (j6 81 (by omega))).tr fr7.kp)).tr (kpC.st (j7 81 (by omega) (by omega)))
          have i7 : ∀ k, k ≠ 81 → k ≠ x → I7 k = I k := fun k a b => by rw [fr7.1 k a, j6 k b, fr6.1 k a, j5 k b, fr5.1 k a, fr4.1 k a]
          refine ⟨J7, L7, head3 _ _ _ ?_, (e16.tr fr7.frD).tr e7, k17, B7, t7.st (j7 81 (by omega) (by omega)) rfl, ?_⟩
          · refine bX3_readGate_92 hgg.1 ro rr5 ob hgg.1 (fun z => absurd (x7.symm.trans (by rw [nn_s1, ← hJ7] at z; exact z)) (nm1 _ (by omega))) (fun _ => ?_)
            rw [nn_s1, ← hJ7]
            refine bX3_readGate_113 ?_
            refine bX3_readGate_118 (by exact bi_hz true) ?_
            exact ⟨rfl, rfl, rfl⟩
          · unfold ghO
            rw [hgx]
            refine ⟨fun k a b c => (j7 k c b).trans (i7 k a c), fun j hj => ?_, ?_, fun k a b => ?_, ?_, ?_, ?_, ?_⟩
            · rw [hJ7, at1, if_neg hj, am_u_ne (by omega), i7 45 (by omega) (by omega)]
            · rw [hJ7, at1, if_pos rfl]
            · rw [fr7.2.2.1 k a, fr6.2.2.1 k a, fr5.2.2.1 k a, fr4.2.2.1 k a, l3 k b]
            · rw [fr7.2.2.1 x (by omega), fr6.2.2.1 x (by omega), fr5.2.2.1 x (by omega), fr4.2.2.1 x (by omega), l3x, z6, hnm]
            · rw [z2, hJ7, am_u_ne (by omega), at1, if_neg (by decide), fr7.1 x (by omega), hJ6, at1, if_neg (by decide), fr6.1 x (by omega)]; exact x5
            · rw [z3, hJ7, am_u_ne (by omega), at1, if_neg (by decide), fr7.1 x (by omega)]; exact x6
            · rw [z4]; exact x7
end RDG
