/-! THE TEXT'S SETUP: the class reads a question, traits -/
/-- how a unit of the setup ends: at the token behind it, with a row; or the fault -/
def suOut (B : Nat → Nat) (n : Nat) (I I' : am_I) (L L' : am_L) (o : Except (Nat × Nat) (Nat × (Nat → Int32))) : Prop := frD I I' L L' ∧ match o with
  | .ok (s', w') => kpC I I' ∧ clR B n I' L' s' w'
  | .error (c, p) => I' 81 2 = nn c ∧ I' 81 3 = nn p
def okE {α : Type} (o : Except (Nat × Nat) α) : Int32 := match o with
  | .ok _ => 1
  | .error _ => 0
section QP
variable {B : Nat → Nat} {n s : Nat} {w w' : Nat → Int32}
theorem pNum_q {lo hi : Nat} {q : Nat × Int32} (h : pNum B n lo hi s = .ok q) : q = (nx B n s, nn (vl B n s)) := by
  obtain ⟨a, b⟩ := pNum_ok h
  unfold pNum at h
  rw [if_pos a, if_pos b] at h
  exact (Except.ok.inj h).symm
theorem pSem_q {q : Nat × Int32} (h : pSem B n s = .ok q) : kd B n s = 2 ∧ q = (nx B n s, 1) := by
  unfold pSem at h
  by_cases a : kd B n s = 2
  · rw [if_pos a] at h
    exact ⟨a, (Except.ok.inj h).symm⟩
  · rw [if_neg a] at h; cases h
theorem pNew_q {v : Int32} {q : Nat × Int32} (h : pNew B n v s = .ok q) : nmb B n s = true ∧ v = -1 := by
  unfold pNew at h
  by_cases a : nmb B n s = true
  · rw [if_pos a] at h
    by_cases b : v = -1
    · exact ⟨a, b⟩
    · rw [if_neg b] at h; cases h
  · rw [if_neg a] at h; cases h
theorem pNew_v {v v' : Int32} (h : nmb B n s = true → v = v') : pNew B n v s = pNew B n v' s := by
  unfold pNew
  by_cases a : nmb B n s = true
  · rw [h a]
  · rw [if_neg a, if_neg a]
theorem uQu_1 {e : Nat × Nat} (h : pNew B n (fNm w 13 8 B s (en B n s - s) (vQ w)) s = .error e) : uQu B n w s = .error e := by
  unfold uQu
  rw [h]
theorem uQu_2 {q : Nat × Int32} {e : Nat × Nat} (h : pNew B n (fNm w 13 8 B s (en B n s - s) (vQ w)) s = .ok q) (h2 : pNum B n 1 9 (nx B n s) = .error e) : uQu B n w s = .error e := by
  unfold uQu
  rw [h, h2]
theorem uQu_3 {q q2 : Nat × Int32} {e : Nat × Nat} (h : pNew B n (fNm w 13 8 B s (en B n s - s) (vQ w)) s = .ok q) (h2 : pNum B n 1 9 (nx B n s) = .ok q2) (h3 : pSem B n q2.1 = .error e) : uQu B n w s = .error e := by
  unfold uQu
  rw [h, h2]
  show (match pSem B n q2.1 with | .error e => Except.error e | .ok (s4, _) => Except.ok (s4, queW B n w s q2.2)) = _
  rw [h3]
theorem uQu_4 {q q2 q3 : Nat × Int32} (h : pNew B n (fNm w 13 8 B s (en B n s - s) (vQ w)) s = .ok q) (h2 : pNum B n 1 9 (nx B n s) = .ok q2) (h3 : pSem B n q2.1 = .ok q3) : uQu B n w s = .ok (q3.1, queW B n w s q2.2) := by
  unfold uQu
  rw [h, h2]
  show (match pSem B n q2.1 with | .error e => Except.error e | .ok (s4, _) => Except.ok (s4, queW B n w s q2.2)) = _
  rw [h3]
theorem queW_at (w : Nat → Int32) (s : Nat) (v : Int32) (h6 : vQ w < 6) (hx : nmb B n s = true) : queW B n w s v 0 = nn (vQ w + 1) ∧ (∀ j, 1 ≤ j → j < 12 + vQ w * 8 → queW B n w s v j = w j) ∧ queW B n w s v (12 + vQ w * 8) = v ∧ nmO (queW B n w s v) (12 + vQ w * 8 + 1) ∧ pnm (queW B n w s v) (12 + vQ w * 8 + 1) = ll (nmk B s (en B n s - s)) ∧ ∀ j, 60 ≤ j → queW B n w s v j = w j := by
  obtain ⟨l6, -, l0, -, hl⟩ := nmb_len hx
  unfold queW
  have hN := lyW_nm (w := w) (w' := up (up (lyW w (12 + vQ w * 8 + 1) B s (en B n s - s)) (12 + vQ w * 8) v) 0 (nn (vQ w + 1))) (a := 12 + vQ w * 8 + 1) l6 l0 hl (fun i hi => by rw [up_ne (by omega), up_ne (by omega)])
  refine ⟨up_eq _ _ _, fun j a b => ?_, ?_, hN.1, hN.2, fun j a => ?_⟩
  · rw [up_ne (by omega), up_ne (by omega), lyW_out (Or.inl (by omega))]
  · rw [up_ne (by omega), up_eq]
  · rw [up_ne (by omega), up_ne (by omega), lyW_out (Or.inr (by omega))]
theorem up_up (w : Nat → Int32) (i : Nat) (a b : Int32) : up (up w i a) i b = up w i b := by
  funext j
  rw [up_at, up_at, up_at]
  by_cases h : j = i
  · rw [if_pos h, if_pos h]
  · rw [if_neg h, if_neg h, if_neg h]
theorem up_same {w : Nat → Int32} {i : Nat} {a : Int32} (h : w i = a) : up w i a = w := by
  funext j
  rw [up_at]
  by_cases hj : j = i
  · rw [if_pos hj, hj, h]
  · rw [if_neg hj]
theorem fNm_cg {a0 st len N : Nat} (e : ∀ j, j < N → ∀ i, i < 7 → w' (a0 + j * st + i) = w (a0 + j * st + i)) (h6 : len ≤ 6) : fNm w' a0 st B s len N = fNm w a0 st B s len N := by
  have : ffs (fun j => nmE w' (a0 + j * st) B s len) N = ffs (fun j => nmE w (a0 + j * st) B s len) N := ffs_congr N (fun j hj => by
    have e0 := e j hj 0 (by decide)
    rw [Nat.add_zero] at e0
    refine Bool.eq_iff_iff.mpr ?_
    rw [nmE_t, nmE_t]
    unfold lnW
    rw [e0]
    refine and_congr Iff.rfl (forall_congr' fun i => forall_congr' fun hi => ?_)
    rw [Nat.add_assoc (a0 + j * st) 1 i, e j hj (1 + i) (by omega)])
  unfold fNm
  rw [this]
theorem uTr_cg (h0 : w' 0 = w 0) (e : ∀ j, 12 ≤ j → j < 60 → w' j = w j) (q6 : vQ w ≤ 6) : ∀ (f s τ : Nat), uTr B n w' f s τ = uTr B n w f s τ
  | 0, _, _ => rfl
  | f + 1, s, τ => by
    have vq : vQ w' = vQ w := by show (w' 0).toNatClampNeg = (w 0).toNatClampNeg; rw [h0]
    have hp : pKnown B n (fNm w' 13 8 B s (en B n s - s) (vQ w')) s = pKnown B n (fNm w 13 8 B s (en B n s - s) (vQ w)) s := pKnown_v (fun hx => by
      rw [vq]
      exact fNm_cg (fun j hj i hi => e _ (by omega) (by omega)) (nmb_len hx).1)
    unfold uTr
    rw [hp]
    have ih := fun s τ => uTr_cg h0 e q6 f s τ
    simp only [ih]
theorem uTr_2 {f τ : Nat} (h : kd B n s = 2) : uTr B n w (f + 1) s τ = .ok (s, τ) := by
  unfold uTr
  rw [if_pos h]
theorem uTr_e {f τ : Nat} {e : Nat × Nat} (h : ¬ kd B n s = 2) (h2 : pKnown B n (fNm w 13 8 B s (en B n s - s) (vQ w)) s = .error e) : uTr B n w (f + 1) s τ = .error e := by
  unfold uTr
  rw [if_neg h, h2]
theorem uTr_s {f τ : Nat} {q : Nat × Int32} (h : ¬ kd B n s = 2) (h2 : pKnown B n (fNm w 13 8 B s (en B n s - s) (vQ w)) s = .ok q) : uTr B n w (f + 1) s τ = if τ.testBit q.2.toNatClampNeg = true then .error (4, s) else uTr B n w f q.1 (τ ||| 2 ^ q.2.toNatClampNeg) := by
  conv => lhs; unfold uTr
  rw [if_neg h, h2]
end QP
theorem nsum_onq {f g : Nat → Nat} {q : Nat} (h : ∀ k, k ≠ q → g k = f k) (h2 : g q = f q + 1) : ∀ n, q < n → nsum g n = nsum f n + 1
  | 0, h => absurd h (Nat.not_lt_zero _)
  | n + 1, hq => by
    show nsum g n + g n = nsum f n + f n + 1
    by_cases hn : q = n
    · subst hn
      rw [h2, nsum_congr q (fun k hk => h k (by omega))]
      omega
    · rw [nsum_onq h h2 n (by omega), h n (fun z => hn z.symm)]
      omega
theorem pcs_or {Q τ q : Nat} (hq : q < Q) (hb : τ.testBit q = false) : pcs Q (τ ||| 2 ^ q) = pcs Q τ + 1 := by
  refine nsum_onq (q := q) (f := fun t => if τ.testBit t then 1 else 0) (g := fun t => if (τ ||| 2 ^ q).testBit t then 1 else 0) (fun k hk => ?_) ?_ Q hq
  · show (if (τ ||| 2 ^ q).testBit k then 1 else 0) = if τ.testBit k then 1 else 0
    rw [Nat.testBit_or, Nat.testBit_two_pow, decide_eq_false (fun z => hk z.symm), Bool.or_false]
  · show (if (τ ||| 2 ^ q).testBit q then 1 else 0) = (if τ.testBit q then 1 else 0) + 1
    rw [Nat.testBit_or, Nat.testBit_two_pow, decide_eq_true rfl, Bool.or_true, hb]
    rfl
section RDQ
variable {d : Nat} {Γ : am_G} {I : am_I} {L : am_L} {B : Nat → Nat} {n s : Nat} {w : Nat → Int32}
theorem eX3_readQuestion (hF : cF Γ) (hw : wfp w) (hT : vT w = 0) (hG : vG w = 0) (hQ : vQ w < 6) (hc : clR B n I L s w) : ∃ I' L', am_E m_X3_readQuestion (d + 3) 0 0 [.ref 81, .int (nn (vQ w))] Γ I L (.inl (some (.int (oky (uQu B n w s))))) I' L' ∧ suOut B n I I' L L' (uQu B n w s) := by
  obtain ⟨⟨o, f0, f1, f2, f3, f4, f5, f6, f7⟩, so, st, st2, ⟨ro, rr0, rr5, rr6, ra⟩, -⟩ := id hF
  obtain ⟨ob, s4, s5, s6, s7, s8, s9, s10, b1, b2, b3, b4, b5, b6, o7, hg⟩ := id st2
  obtain ⟨hB, ht, hs⟩ := id hc
  refine am_ofX rfl rfl rfl (Nat.le_of_ble_eq_true rfl) ?_
  have hName : am_E m_X5_questionNamed (d + 2) 0 0 [.ref 45, .long (L 81 10)] Γ I L (.inl (some (.int (fName L 46 (L 81 10) (vQ w))))) I L := eX5_questionNamed (N := vQ w) st2 (hs.1.1.trans hw.1.1) hw.1.2 _
  have hvv : nmb B n s = true → fName L 46 (L 81 10) (vQ w) = fNm w 13 8 B s (en B n s - s) (vQ w) := fun hx => by rw [ht.nm hx]; exact fName_Q (b := 45) hs hw hx
  obtain ⟨g1, g2⟩ := eX3_isNewName (d := d + 1) (Γ := Γ) ro hB ht (fName L 46 (L 81 10) (vQ w))
  rw [pNew_v hvv] at g2
  have et : (nn (vQ w) : Int32).toNatClampNeg = vQ w := nn_nat (by omega)
  cases hk : pNew B n (fNm w 13 8 B s (en B n s - s) (vQ w)) s with
  | error e =>
    obtain ⟨I2, hE2, k2⟩ := g2 e hk
    obtain ⟨e1, e2⟩ := cOut.frD k2
    rw [uQu_1 hk]
    refine ⟨I2, L, ?_, e1, e2⟩
    refine bX3_readQuestion_0 ro rr5 ob (Nat.zero_le _) (Nat.zero_le _) hName ?_
    refine bX3_readQuestion_12 ro (Nat.zero_le _) (Nat.zero_le _) hE2 ?_
    refine bX3_readQuestion_15 (fun z => absurd rfl z) (fun _ => ?_)
    refine bX3_readQuestion_18 ?_
    exact ⟨rfl, rfl, rfl⟩
  | ok q =>
    obtain ⟨hx, hm1⟩ := pNew_q hk
    have hE2 := g1 hx ((hvv hx).trans hm1)
    obtain ⟨w0, wj, wQ, wn, wp, -⟩ := queW_at (B := B) (n := n) w s (nn (vl B n (nx B n s))) hQ hx
    obtain ⟨I3, hI3⟩ : ∃ I3, I3 = am_u I 48 (vQ w) 0 := ⟨_, rfl⟩
    obtain ⟨L3, hL3⟩ : ∃ L3, L3 = am_ul L 46 (vQ w) (L 81 10) := ⟨_, rfl⟩
    have n3 : ∀ k, k ≠ 48 → I3 k = I k := fun k hk => by rw [hI3, am_u_ne hk]
    have l3 : ∀ k, k ≠ 46 → L3 k = L k := fun k hk => by rw [hL3, am_ul_ne hk]
    obtain ⟨I4, L4, hE4, t4, fr4⟩ := eX3_go (d := d + 1) ro rr0 ra (hB.st (n3 81 (by decide)) (n3 82 (by decide))) (ht.st (n3 81 (by decide)) (l3 81 (by decide)))
    have B4 := (hB.st (n3 81 (by decide)) (n3 82 (by decide))).frC fr4
    obtain ⟨I5, L5, hE5, k5⟩ := eX3_takeNumber (d := d) ro rr0 ra B4 t4 (lo := 1) (hi := 9) (by decide) (by decide)
    have e13 : frD I I3 L L3 := ⟨fun k a b => n3 k (by omega), fun j _ _ _ _ _ _ => by rw [n3 81 (by decide)], fun k a b => l3 k (by omega)⟩
    have head : ∀ If Lf r, am_W m_X3_readQuestion (d + 3) 0 0 false 0 0 62 [(0, .ref 81), (1, .int (nn (vQ w)))] [.int (rOut (pNum B n 1 9 (nx B n s))), .int (nn (vQ w)), .ref 47] Γ I5 L5 (am_R (.inl (some (.int r))) If Lf) → am_W m_X3_readQuestion (d + 3) 0 0 false 0 0 0 [(0, .ref 81), (1, .int (nn (vQ w)))] [] Γ I L (am_R (.inl (some (.int r))) If Lf) := by
      intro If Lf r hW
      refine bX3_readQuestion_0 ro rr5 ob (Nat.zero_le _) (Nat.zero_le _) hName ?_
      refine bX3_readQuestion_12 ro (Nat.zero_le _) (Nat.zero_le _) hE2 ?_
      refine bX3_readQuestion_15 (fun _ => ?_) (fun z => absurd z (by decide))
      refine bX3_readQuestion_20 ro rr5 ob s4 b1 (nn_in (by omega) (by omega)) s6 b3 (nn_in (by omega) (by omega)) (Nat.zero_le _) (Nat.zero_le _) (by rw [et, ← hI3, ← hL3]; exact hE4) ?_
      refine bX3_readQuestion_47 ro rr5 ob s5 (Nat.zero_le _) (Nat.zero_le _) hE5 ?_
      exact hW
    obtain ⟨I6, hI6⟩ : ∃ I6, I6 = am_u (am_u I5 47 (vQ w) (rOut (pNum B n 1 9 (nx B n s)))) 45 0 (nn (vQ w + 1)) := ⟨_, rfl⟩
    have n6 : ∀ k, k ≠ 45 → k ≠ 47 → I6 k = I5 k := fun k a b => by rw [hI6, am_u_ne a, am_u_ne b]
    have q6 : I6 47 (vQ w) = rOut (pNum B n 1 9 (nx B n s)) := by rw [hI6, am_u_ne (by decide), at1, if_pos rfl]
    have e56 : frD I5 I6 L5 L5 := ⟨fun k a b => n6 k (by omega) (by omega), fun j _ _ _ _ _ _ => by rw [n6 81 (by decide) (by decide)], fun _ _ _ => rfl⟩
    cases hN : pNum B n 1 9 (nx B n s) with
    | error e =>
      rw [hN] at k5 q6 head hI6
      obtain ⟨e1, e2⟩ := cOut.frD k5
      rw [uQu_2 hk hN]
      refine ⟨I6, L5, head _ _ _ ?_, ((e13.tr fr4.frD).tr e1).tr e56, by rw [n6 81 (by decide) (by decide)]; exact e2⟩
      refine bX3_readQuestion_62 b2 (nn_in (by omega) (by omega)) ro rr5 ob s5 b2 (nn_in (by omega) (by omega)) (fun _ => ?_) (fun z => absurd (by rw [et, nn_s1, ← hI6]; exact q6) z)
      rw [et, nn_s1, ← hI6]
      refine bX3_readQuestion_97 ?_
      refine bX3_readQuestion_98 (by exact bi_hz false) ?_
      exact ⟨rfl, rfl, rfl⟩
    | ok p =>
      rw [hN] at k5 q6 head hI6
      obtain ⟨-, v1, v9⟩ := pNum_ok hN
      have hp := pNum_q hN
      subst hp
      obtain ⟨t5, fr5⟩ := k5
      have er : rOut (.ok (nx B n (nx B n s), nn (vl B n (nx B n s)))) = nn (vl B n (nx B n s)) := rfl
      rw [er] at q6 head hI6
      have B6 : rcB I6 B n := (B4.frC fr5).st (n6 81 (by decide) (by decide)) (n6 82 (by decide) (by decide))
      have t6 : tkC B n I6 L5 (nx B n (nx B n s)) := t5.st (n6 81 (by decide) (by decide)) rfl
      obtain ⟨I7, L7, hE7, k7⟩ := eX3_takeSemicolon (d := d) (Γ := Γ) ro rr0 ra B6 t6
      have nm1 : ¬ nn (vl B n (nx B n s)) = -1 := (fun k (hk : k < 10) => (by decide : ∀ k, k < 10 → ¬ nn k = -1) k hk) _ (by omega)
      have head2 : ∀ If Lf r, am_W m_X3_readQuestion (d + 3) 0 0 false 0 0 90 [(0, .ref 81), (1, .int (nn (vQ w)))] [.int (bi (decide (kd B n (nx B n (nx B n s)) = 2)))] Γ I7 L7 (am_R (.inl (some (.int r))) If Lf) → am_W m_X3_readQuestion (d + 3) 0 0 false 0 0 0 [(0, .ref 81), (1, .int (nn (vQ w)))] [] Γ I L (am_R (.inl (some (.int r))) If Lf) := by
        intro If Lf r hW
        refine head _ _ _ ?_
        refine bX3_readQuestion_62 b2 (nn_in (by omega) (by omega)) ro rr5 ob s5 b2 (nn_in (by omega) (by omega)) (fun z => absurd (q6.symm.trans (by rw [et, nn_s1, ← hI6] at z; exact z)) nm1) (fun _ => ?_)
        rw [et, nn_s1, ← hI6]
        refine bX3_readQuestion_86 ro (Nat.zero_le _) (Nat.zero_le _) hE7 ?_
        exact hW
      have e1 : frD I I6 L L5 := ((e13.tr fr4.frD).tr fr5.frD).tr e56
      cases hS : pSem B n (nx B n (nx B n s)) with
      | error e =>
        rw [hS] at k7
        obtain ⟨y1, y2⟩ := cOut.frD k7
        have h2 : ¬ kd B n (nx B n (nx B n s)) = 2 := fun z => by unfold pSem at hS; rw [if_pos z] at hS; cases hS
        rw [uQu_3 hk hN hS]
        refine ⟨I7, L7, head2 _ _ _ ?_, e1.tr y1, y2⟩
        rw [decide_eq_false h2]
        refine bX3_readQuestion_90 (fun _ => ?_) (fun z => absurd rfl z)
        refine bX3_readQuestion_97 ?_
        refine bX3_readQuestion_98 (by exact bi_hz false) ?_
        exact ⟨rfl, rfl, rfl⟩
      | ok p =>
        rw [hS] at k7
        obtain ⟨h2, hp⟩ := pSem_q hS
        subst hp
        obtain ⟨t7, fr7⟩ := k7
        rw [uQu_4 hk hN hS]
        refine ⟨I7, L7, head2 _ _ _ ?_, e1.tr fr7.frD, (((kpC.st (n3 81 (by decide))).tr fr4.kp).tr fr5.kp).tr ((kpC.st (n6 81 (by decide) (by decide))).tr fr7.kp), B6.frC fr7, t7, ?_⟩
        · rw [decide_eq_true h2]
          refine bX3_readQuestion_90 (fun z => absurd z (by decide)) (fun _ => ?_)
          refine bX3_readQuestion_93 ?_
          refine bX3_readQuestion_98 (by exact bi_hz true) ?_
          exact ⟨rfl, rfl, rfl⟩
        · have i7 : ∀ k, k ≠ 81 → k ≠ 45 → k ≠ 47 → I7 k = I3 k := fun k a b c => by rw [fr7.1 k a, n6 k b c, fr5.1 k a, fr4.1 k a]
          have i45 : ∀ j, j ≠ 0 → I7 45 j = I 45 j := fun j hj => by rw [fr7.1 45 (by decide), hI6, at1, if_neg hj, am_u_ne (by decide), fr5.1 45 (by decide), fr4.1 45 (by decide), n3 45 (by decide)]
          have i47 : ∀ j, j ≠ vQ w → I7 47 j = I 47 j := fun j hj => by rw [fr7.1 47 (by decide), hI6, am_u_ne (by decide), at1, if_neg hj, fr5.1 47 (by decide), fr4.1 47 (by decide), n3 47 (by decide)]
          have i48 : ∀ j, I7 48 j = if j = vQ w then 0 else I 48 j := fun j => by rw [i7 48 (by decide) (by decide) (by decide), hI3, at1]
          have l46 : ∀ j, L7 46 j = if j = vQ w then L 81 10 else L 46 j := fun j => by
            rw [fr7.2.2.1 46 (by decide), fr5.2.2.1 46 (by decide), fr4.2.2.1 46 (by decide), hL3, am_ul_at]
            by_cases hj : j = vQ w
            · rw [if_pos ⟨rfl, hj⟩, if_pos hj]
            · rw [if_neg (fun z => hj z.2), if_neg hj]
          refine stR_que (b := 45) hs hw hT hG hQ w0 wj ?_ (fun j hj => i45 j (by omega)) ?_ (fun q hq => ⟨?_, ?_, ?_⟩) ⟨?_, ?_, ?_⟩
          · rw [fr7.1 45 (by decide), hI6, at1, if_pos rfl]
          · rw [i7 _ (by decide) (by decide) (by decide), n3 _ (by decide)]
          · rw [l46, if_neg (by omega)]
          · exact i47 q (by omega)
          · rw [i48, if_neg (by omega)]
          · rw [l46, if_pos rfl, wp, ht.nm hx]
          · rw [fr7.1 _ (by decide), wQ]; exact q6
          · rw [i48, if_pos rfl]
/-- how traits end -/
def trOut (B : Nat → Nat) (n : Nat) (I I' : am_I) (L L' : am_L) (w : Nat → Int32) (T : Nat) (o : Except (Nat × Nat) (Nat × Nat)) : Prop := frD I I' L L' ∧ match o with
  | .ok (s', τ') => kpC I I' ∧ clR B n I' L' s' (up w (60 + T * 9 + 1) (nn τ')) ∧ τ' < 2 ^ vQ w
  | .error (c, p) => I' 81 2 = nn c ∧ I' 81 3 = nn p
theorem trOut.pre {T : Nat} {I J I' : am_I} {L L2 L' : am_L} {τ : Nat} {o : Except (Nat × Nat) (Nat × Nat)} (h : trOut B n J I' L2 L' (up w (60 + T * 9 + 1) (nn τ)) T o) (e : frD I J L L2) (k : kpC I J) : trOut B n I I' L L' w T o := by
  obtain ⟨h1, h2⟩ := h
  refine ⟨e.tr h1, ?_⟩
  cases o with
  | error e => exact h2
  | ok q =>
    obtain ⟨a, b, c⟩ := h2
    rw [up_up] at b
    have vq : vQ (up w (60 + T * 9 + 1) (nn τ)) = vQ w := by show (up w (60 + T * 9 + 1) (nn τ) 0).toNatClampNeg = (w 0).toNatClampNeg; rw [up_ne (by omega)]
    rw [vq] at c
    exact ⟨k.tr a, b, c⟩
theorem eX3_readTraits_go (hF : cF Γ) {T : Nat} : ∀ (f : Nat) {i s : Nat} {w : Nat → Int32} {I : am_I} {L : am_L}, wfp w → vG w = 0 → vT w = T + 1 → clR B n I L s w → i ≤ pcs (vQ w) (tyW w T) → vQ w < f + pcs (vQ w) (tyW w T) → ∃ I' L', am_W m_X3_readTraits (d + 3) 0 0 false 0 0 2 [(0, .ref 81), (1, .int (nn T)), (2, .int (nn i))] [] Γ I L (am_R (.inl (some (.int (okE (uTr B n w f s (tyW w T)))))) I' L') ∧ trOut B n I I' L L' w T (uTr B n w f s (tyW w T))
  | 0, i, s, w, I, L, _, _, _, _, _, hf => by
    have := pcs_le (vQ w) (tyW w T)
    omega
  | f + 1, i, s, w, I, L, hw, hG, hT, hc, hi, hf => by
    obtain ⟨⟨o, f0, f1, f2, f3, f4, f5, f6, f7⟩, so, st, st2, ⟨ro, rr0, rr5, rr6, ra⟩, -⟩ := id hF
    obtain ⟨ob, s4, s5, s6, s7, s8, s9, s10, b1, b2, b3, b4, b5, b6, o7, hg⟩ := id st2
    obtain ⟨hB, ht, hs⟩ := id hc
    have q6 := hw.1.2
    have t8 := hw.2.1.2
    have pl := pcs_le (vQ w) (tyW w T)
    have hk4 := kd_le B n s
    have ty64 := (hw.2.2.2.2.2.1 T (by omega)).2.2.2.1
    have l2 : (I 81 7 = 2) ↔ kd B n s = 2 := by rw [ht.2.2.1]; exact nn_eq (b := 2) (by omega) (by decide)
    have n6 : ¬ (6 : Int32) < nn i := by rw [nl_6, nn_lt (by decide) (by omega)]; omega
    by_cases h2 : kd B n s = 2
    · rw [uTr_2 h2]
      refine ⟨I, L, ?_, ⟨fun _ _ _ => rfl, fun _ _ _ _ _ _ _ => rfl, fun _ _ _ => rfl⟩, ⟨rfl, rfl⟩, ?_, ty64⟩
      · refine bX3_readTraits_2 (fun z => absurd z n6) (fun _ => ?_)
        refine bX3_readTraits_8 ro (fun _ => ?_) (fun z => absurd (l2.mpr h2) z)
        refine bX3_readTraits_85 ?_
        exact ⟨rfl, rfl, rfl⟩
      · rw [up_same (hw.2.2.2.2.2.1 T (by omega)).2.2.1]
        exact hc
    · have hName : am_E m_X5_questionNamed (d + 2) 0 0 [.ref 45, .long (L 81 10)] Γ I L (.inl (some (.int (fName L 46 (L 81 10) (vQ w))))) I L := eX5_questionNamed (N := vQ w) st2 (hs.1.1.trans hw.1.1) q6 _
      have hvv : nmb B n s = true → fName L 46 (L 81 10) (vQ w) = fNm w 13 8 B s (en B n s - s) (vQ w) := fun hx => by rw [ht.nm hx]; exact fName_Q (b := 45) hs hw hx
      obtain ⟨g1, g2⟩ := eX3_isKnownName (d := d + 1) (Γ := Γ) ro hB ht (fName L 46 (L 81 10) (vQ w))
      rw [pKnown_v hvv] at g2
      have hge : fNm w 13 8 B s (en B n s - s) (vQ w) ≠ -1 → ∃ q, q < vQ w ∧ fNm w 13 8 B s (en B n s - s) (vQ w) = nn q := fNm_ge
      have head : ∀ If Lf r, am_W m_X3_readTraits (d + 3) 0 0 false 0 0 27 [(0, .ref 81), (1, .int (nn T)), (2, .int (nn i))] [.int (fName L 46 (L 81 10) (vQ w))] Γ I L (am_R (.inl (some (.int r))) If Lf) → am_W m_X3_readTraits (d + 3) 0 0 false 0 0 2 [(0, .ref 81), (1, .int (nn T)), (2, .int (nn i))] [] Γ I L (am_R (.inl (some (.int r))) If Lf) := by
        intro If Lf r hW
        refine bX3_readTraits_2 (fun z => absurd z n6) (fun _ => ?_)
        refine bX3_readTraits_8 ro (fun z => absurd (l2.mp z) h2) (fun _ => ?_)
        exact bX3_readTraits_16 ro rr5 ob (Nat.zero_le _) (Nat.zero_le _) hName hW
      cases hk : pKnown B n (fNm w 13 8 B s (en B n s - s) (vQ w)) s with
      | error e =>
        obtain ⟨I2, hE2, k2⟩ := g2 e hk
        obtain ⟨e1, e2⟩ := cOut.frD k2
        rw [uTr_e h2 hk]
        refine ⟨I2, L, head _ _ _ ?_, e1, e2⟩
        refine bX3_readTraits_27 ro (Nat.zero_le _) (Nat.zero_le _) hE2 ?_
        refine bX3_readTraits_33 (fun z => absurd rfl z) (fun _ => ?_)
        refine bX3_readTraits_36 ?_
        exact ⟨rfl, rfl, rfl⟩
      | ok p =>
        obtain ⟨s2, v⟩ := p
        have hx : nmb B n s = true := by
          unfold pKnown at hk
          by_cases a : nmb B n s = true
          · exact a
          · rw [if_neg a] at hk; cases hk
        have hv0 := hvv hx
        obtain ⟨hs2, hv, hne⟩ := pKnown_ok hk
        obtain ⟨q, hq, hqe⟩ := hge hne
        have hvq : v = nn q := hv.trans hqe
        have hE2 := g1 hx (by rw [hv0]; exact hne)
        rw [hv0, hqe] at hE2
        have head2 : ∀ If Lf r, am_W m_X3_readTraits (d + 3) 0 0 false 0 0 38 [(0, .ref 81), (1, .int (nn T)), (2, .int (nn i)), (3, .int (nn q))] [] Γ I L (am_R (.inl (some (.int r))) If Lf) → am_W m_X3_readTraits (d + 3) 0 0 false 0 0 2 [(0, .ref 81), (1, .int (nn T)), (2, .int (nn i))] [] Γ I L (am_R (.inl (some (.int r))) If Lf) := by
          intro If Lf r hW
          refine head _ _ _ ?_
          rw [hv0, hqe]
          refine bX3_readTraits_27 ro (Nat.zero_le _) (Nat.zero_le _) hE2 ?_
          exact bX3_readTraits_33 (fun _ => hW) (fun z => absurd z (by decide))
        have et : (nn q : Int32).toNatClampNeg = q := nn_nat (by omega)
        have ey := (hs.2.1 q hq).2.2
        rw [hT] at ey
        have lt256 : yse (T + 1) (tyW w) q < 2 ^ (T + 1) := yse_lt _ _ _
        have p8 := two_le8 (t := T + 1) (by omega)
        have hib : ib (I 48 (nn q : Int32).toNatClampNeg) (nn T) = (tyW w T).testBit q := by
          rw [et, show I 48 q = nn (yse (T + 1) (tyW w) q) from ey, ib_nn (by omega) (by omega), yse_bit (by omega)]
        have hH : am_E m_X8_holds (d + 2) 0 0 [.int (I 48 (nn q : Int32).toNatClampNeg), .int (nn T)] Γ I L (.inl (some (.int (bi ((tyW w T).testBit q))))) I L := by rw [← hib]; exact eX8_holds _ _
        rw [uTr_s h2 hk]
        simp only [hvq, et]
        cases hb : (tyW w T).testBit q with
        | true =>
          rw [hb] at hH
          obtain ⟨h1, h3⟩ := eX3_fail (d := d + 2) (Γ := Γ) ro ht 4
          obtain ⟨e1, e2⟩ := cOut.frD h3
          rw [if_pos rfl]
          refine ⟨_, L, head2 _ _ _ ?_, e1, e2⟩
          refine bX3_readTraits_38 ro rr5 ob s6 b3 (nn_in (by omega) (by omega)) (Nat.zero_le _) (Nat.zero_le _) hH ?_
          refine bX3_readTraits_51 (fun z => absurd z (by decide)) (fun _ => ?_)
          refine bX3_readTraits_54 ro (Nat.zero_le _) (Nat.zero_le _) h1 ?_
          refine bX3_readTraits_59 rfl ?_
          exact ⟨rfl, rfl, rfl⟩
        | false =>
          rw [hb] at hH
          rw [if_neg (by decide)]
          have hstr := stR_trt (b := 45) hs hw hG hT hq
          obtain ⟨I3, hI3⟩ : ∃ I3, I3 = am_u I 48 q (I 48 q ||| (1 <<< (nn T &&& 31))) := ⟨_, rfl⟩
          rw [show (45 + 3 : Nat) = 48 from rfl, ← hI3] at hstr
          have n3 : ∀ k, k ≠ 48 → I3 k = I k := fun k hk => by rw [hI3, am_u_ne hk]
          obtain ⟨I4, L4, hE4, t4, fr4⟩ := eX3_go (d := d + 1) ro rr0 ra (hB.st (n3 81 (by decide)) (n3 82 (by decide))) (ht.st (n3 81 (by decide)) rfl)
          have p6 : tyW w T ||| 2 ^ q < 2 ^ vQ w := Nat.or_lt_two_pow ty64 (Nat.pow_lt_pow_right (by decide) hq)
          obtain ⟨wf', vq', vt', vg', ty1, ty2⟩ := wfp_trt hw hG (show T < vT w by omega) p6
          have hcg : ∀ f s τ, uTr B n (up w (60 + T * 9 + 1) (nn (tyW w T ||| 2 ^ q))) f s τ = uTr B n w f s τ := fun f s τ => uTr_cg (up_ne (by omega)) (fun j a b => up_ne (by omega)) q6 f s τ
          have e13 : frD I I3 L L := ⟨fun k a b => n3 k (by omega), fun j _ _ _ _ _ _ => by rw [n3 81 (by decide)], fun _ _ _ => rfl⟩
          have hpc := pcs_or hq hb
          generalize hwn : up w (60 + T * 9 + 1) (nn (tyW w T ||| 2 ^ q)) = wn at *
          have c4 : clR B n I4 L4 (nx B n s) wn := ⟨(hB.st (n3 81 (by decide)) (n3 82 (by decide))).frC fr4, t4, hstr.fr wf'.2.2.1.2 (fun c a b => fr4.1 c (by omega)) (fun c a b => fr4.2.2.1 c (by omega))⟩
          obtain ⟨I', L', hW, hO⟩ := eX3_readTraits_go hF f (i := i + 1) wf' vg' (vt'.trans hT) c4 (by rw [vq', ty1, hpc]; omega) (by rw [vq', ty1, hpc]; omega)
          rw [ty1, hcg] at hW hO
          rw [hs2]
          rw [← hwn] at hO
          refine ⟨I', L', head2 _ _ _ ?_, hO.pre (e13.tr fr4.frD) ((kpC.st (n3 81 (by decide))).tr fr4.kp)⟩
          refine bX3_readTraits_38 ro rr5 ob s6 b3 (nn_in (by omega) (by omega)) (Nat.zero_le _) (Nat.zero_le _) hH ?_
          refine bX3_readTraits_51 (fun _ => ?_) (fun z => absurd rfl z)
          refine bX3_readTraits_60 ro rr5 ob s6 b3 (nn_in (by omega) (by omega)) (Nat.zero_le _) (Nat.zero_le _) (by rw [et, ← hI3]; exact hE4) ?_
          refine bX3_readTraits_79 ?_
          refine aw_take 3 ?_
          rw [nn_s1]
          exact hW
end RDQ
