/-! THE TEXT'S SETUP: what units keep; the class reads counts, questions, types -/
def zrT (w : Nat → Int32) : Prop := ∀ t, vT w ≤ t → t < 8 → w (60 + t * 9 + 1) = 0
def qInv (w : Nat → Int32) : Prop := wfp w ∧ vT w = 0 ∧ vG w = 0 ∧ zrT w
def tInv (w : Nat → Int32) : Prop := wfp w ∧ vG w = 0 ∧ 0 < vQ w ∧ zrT w
def gInv (w : Nat → Int32) : Prop := wfp w ∧ 0 < vQ w ∧ 0 < vT w
section QI
variable {B : Nat → Nat} {n s : Nat} {w w' : Nat → Int32}
theorem uQu_in {s' : Nat} (h : uQu B n w s = .ok (s', w')) : nmb B n s = true ∧ fNm w 13 8 B s (en B n s - s) (vQ w) = -1 ∧ ∃ v, 1 ≤ v ∧ v ≤ 9 ∧ w' = queW B n w s (nn v) := by
  cases hk : pNew B n (fNm w 13 8 B s (en B n s - s) (vQ w)) s with
  | error e => rw [uQu_1 hk] at h; cases h
  | ok q =>
    obtain ⟨hx, hm1⟩ := pNew_q hk
    cases h2 : pNum B n 1 9 (nx B n s) with
    | error e => rw [uQu_2 hk h2] at h; cases h
    | ok q2 =>
      have p2 := pNum_q h2
      have o2 := pNum_ok h2
      cases h3 : pSem B n q2.1 with
      | error e => rw [uQu_3 hk h2 h3] at h; cases h
      | ok q3 =>
        rw [uQu_4 hk h2 h3] at h
        subst p2
        cases h
        exact ⟨hx, hm1, _, o2.2.1, o2.2.2, rfl⟩
theorem uQu_inv {s' : Nat} (hI : qInv w) (hQ : vQ w < 6) (h : uQu B n w s = .ok (s', w')) : qInv w' ∧ vQ w' = vQ w + 1 := by
  obtain ⟨hw, hT, hG, hZ⟩ := hI
  obtain ⟨hx, -, v, v1, v9, rfl⟩ := uQu_in h
  obtain ⟨w0, wj, wQ, wn, wp, wo⟩ := queW_at (B := B) (n := n) w s (nn v) hQ hx
  obtain ⟨y1, y2, y3, y4⟩ := wfp_que hw hT hG hQ w0 wj wQ v1 v9 wn
  exact ⟨⟨y1, y3, y4, fun t a b => by rw [wo _ (by omega)]; exact hZ t (by omega) b⟩, y2⟩
theorem uTr_lt : ∀ (f s τ : Nat) {s' τ' : Nat}, τ < 2 ^ vQ w → uTr B n w f s τ = .ok (s', τ') → τ' < 2 ^ vQ w
  | 0, s, τ, s', τ', _, h => by unfold uTr at h; cases h
  | f + 1, s, τ, s', τ', ht, h => by
    by_cases h2 : kd B n s = 2
    · rw [uTr_2 h2] at h; cases h; exact ht
    · cases hk : pKnown B n (fNm w 13 8 B s (en B n s - s) (vQ w)) s with
      | error e => rw [uTr_e h2 hk] at h; cases h
      | ok q =>
        obtain ⟨s2, v⟩ := q
        rw [uTr_s h2 hk] at h
        obtain ⟨-, hv, hne⟩ := pKnown_ok hk
        obtain ⟨q, hq, hqe⟩ := fNm_ge hne
        split at h
        · cases h
        · refine uTr_lt f _ _ ?_ h
          by_cases hq3 : q < 2147483648
          · show τ ||| 2 ^ (v : Int32).toNatClampNeg < _
            rw [hv, hqe, nn_nat hq3]
            exact Nat.or_lt_two_pow ht (Nat.pow_lt_pow_right (by decide) hq)
          · exfalso
            have hc := Int32.toNatClampNeg_lt (w 0)
            have : vQ w < 2147483648 := hc
            omega
theorem uTy_in {s' : Nat} (h : uTy B n w s = .ok (s', w')) : nmb B n s = true ∧ fNm w 62 9 B s (en B n s - s) (vT w) = -1 ∧ ∃ v τ, v ≤ 99 ∧ τ < 2 ^ vQ w ∧ w' = typW B n w s (nn v) τ := by
  cases hk : pNew B n (fNm w 62 9 B s (en B n s - s) (vT w)) s with
  | error e => rw [uTy_1 hk] at h; cases h
  | ok q =>
    obtain ⟨hx, hm1⟩ := pNew_q hk
    cases h2 : pNum B n 0 99 (nx B n s) with
    | error e => rw [uTy_2 hk h2] at h; cases h
    | ok q2 =>
      have p2 := pNum_q h2
      have o2 := pNum_ok h2
      cases h3 : uTr B n w 7 q2.1 0 with
      | error e => rw [uTy_3 hk h2 h3] at h; cases h
      | ok q3 =>
        have l3 := uTr_lt _ _ _ (Nat.two_pow_pos _) h3
        cases h4 : pSem B n q3.1 with
        | error e => rw [uTy_4 hk h2 h3 h4] at h; cases h
        | ok q4 =>
          rw [uTy_5 hk h2 h3 h4] at h
          subst p2
          cases h
          exact ⟨hx, hm1, _, _, o2.2.2, l3, rfl⟩
theorem uTy_inv {s' : Nat} (hI : tInv w) (hT : vT w < 8) (h : uTy B n w s = .ok (s', w')) : tInv w' ∧ vT w' = vT w + 1 := by
  obtain ⟨hw, hG, hQ, hZ⟩ := hI
  obtain ⟨hx, -, v, τ, v9, hτ, rfl⟩ := uTy_in h
  obtain ⟨w1, wj, wv, wt, wn, wp, wo⟩ := typW_at (B := B) (n := n) w s (nn v) τ hx
  obtain ⟨y1, y2, y3, y4, -⟩ := wfp_typ hw hG hT w1 wj wv v9 wt hτ wn
  refine ⟨⟨y1, y4, by omega, fun t a b => ?_⟩, y3⟩
  rw [wo _ (by omega)]
  exact hZ t (by omega) b
theorem uGa_in {s' : Nat} (h : uGa B n w s = .ok (s', w')) : ∃ q q2, uGh B n w s = .ok q ∧ uCm B n (132 + vG w * 94) (vT w) 0 q.1 q.2 = .ok q2 ∧ s' = q2.1 ∧ w' = bldW (up q2.2 2 (nn (vG w + 1))) (vG w) := by
  cases hk : uGh B n w s with
  | error e => rw [uGa_1 hk] at h; cases h
  | ok q =>
    cases h2 : uCm B n (132 + vG w * 94) (vT w) 0 q.1 q.2 with
    | error e => rw [uGa_2 hk h2] at h; cases h
    | ok q2 =>
      rw [uGa_3 hk h2] at h
      cases h
      exact ⟨q, q2, rfl, h2, rfl, rfl⟩
theorem uGa_inv {s' : Nat} (hI : gInv w) (hG : vG w < 4) (h : uGa B n w s = .ok (s', w')) : gInv w' ∧ vG w' = vG w + 1 := by
  obtain ⟨hw, hQ, hT⟩ := hI
  obtain ⟨q, q2, h1, h2, -, rfl⟩ := uGa_in h
  obtain ⟨hN, -⟩ := uGa_N hG hw.2.1.2 h1 h2
  have md := hN.mda hw hT hG
  obtain ⟨vq1, vt1, vg1, vc1, ty1, l30, hl⟩ := hN.vs hw hG
  have hb := bld_exm hG md l30 hl
  obtain ⟨y1, y2, y3, y4⟩ := wfp_gat hw hT hG hN hb
  exact ⟨⟨y1, by omega, by omega⟩, y4⟩
section LP
variable {i lim f : Nat} {cnt : (Nat → Int32) → Nat} {u : (Nat → Int32) → Nat → Except (Nat × Nat) (Nat × (Nat → Int32))}
theorem uLoop_n (h : wd B n s i = false) (h0 : cnt w = 0) : uLoop B n i lim cnt u (f + 1) s w = .error (1, s) := by
  unfold uLoop
  rw [if_neg (by rw [h]; decide), if_pos h0]
theorem uLoop_d (h : wd B n s i = false) (h0 : ¬ cnt w = 0) : uLoop B n i lim cnt u (f + 1) s w = .ok (s, w) := by
  unfold uLoop
  rw [if_neg (by rw [h]; decide), if_neg h0]
theorem uLoop_f (h : wd B n s i = true) (h0 : cnt w = lim) : uLoop B n i lim cnt u (f + 1) s w = .error (5, s) := by
  unfold uLoop
  rw [if_pos h, if_pos h0]
theorem uLoop_e {e : Nat × Nat} (h : wd B n s i = true) (h0 : ¬ cnt w = lim) (h2 : u w (nx B n s) = .error e) : uLoop B n i lim cnt u (f + 1) s w = .error e := by
  unfold uLoop
  rw [if_pos h, if_neg h0, h2]
theorem uLoop_s {q : Nat × (Nat → Int32)} (h : wd B n s i = true) (h0 : ¬ cnt w = lim) (h2 : u w (nx B n s) = .ok q) : uLoop B n i lim cnt u (f + 1) s w = uLoop B n i lim cnt u f q.1 q.2 := by
  conv => lhs; unfold uLoop
  rw [if_pos h, if_neg h0, h2]
theorem uLoop_inv (P : (Nat → Int32) → Prop) (hu : ∀ w s s' w', P w → cnt w < lim → u w s = .ok (s', w') → P w' ∧ cnt w' = cnt w + 1) : ∀ (f s : Nat) (w : Nat → Int32) {s' : Nat} {w' : Nat → Int32}, P w → cnt w ≤ lim → uLoop B n i lim cnt u f s w = .ok (s', w') → P w' ∧ 0 < cnt w' ∧ cnt w' ≤ lim
  | 0, s, w, s', w', _, _, h => by unfold uLoop at h; cases h
  | f + 1, s, w, s', w', hP, hl, h => by
    cases hw : wd B n s i with
    | false =>
      by_cases h0 : cnt w = 0
      · rw [uLoop_n hw h0] at h; cases h
      · rw [uLoop_d hw h0] at h; cases h
        exact ⟨hP, by omega, hl⟩
    | true =>
      by_cases h0 : cnt w = lim
      · rw [uLoop_f hw h0] at h; cases h
      · cases h2 : u w (nx B n s) with
        | error e => rw [uLoop_e hw h0 h2] at h; cases h
        | ok q =>
          rw [uLoop_s hw h0 h2] at h
          obtain ⟨a, b⟩ := hu w _ q.1 q.2 hP (by omega) h2
          exact uLoop_inv P hu f q.1 q.2 a (by omega) h
end LP
end QI
theorem suOut.pre {B : Nat → Nat} {n : Nat} {I J I' : am_I} {L L2 L' : am_L} {o : Except (Nat × Nat) (Nat × (Nat → Int32))} (h : suOut B n J I' L2 L' o) (e : frD I J L L2) (k : kpC I J) : suOut B n I I' L L' o := by
  obtain ⟨h1, h2⟩ := h
  refine ⟨e.tr h1, ?_⟩
  cases o with
  | error e => exact h2
  | ok q => exact ⟨k.tr h2.1, h2.2⟩
/-- how counts leave the class; x: the gate's cell, a: its place in the row -/
def cnOut (B : Nat → Nat) (n : Nat) (I I' : am_I) (L L' : am_L) (x a t T : Nat) (o : Except (Nat × Nat) (Nat × (Nat → Int32))) : Prop := frD I I' L L' ∧ match o with
  | .ok (s', w') => kpC I I' ∧ rcB I' B n ∧ tkC B n I' L' s' ∧ (∀ k, k ≠ 81 → k ≠ x + 1 → I' k = I k) ∧ (∀ k, k ≠ 81 → L' k = L k) ∧ (∀ i, t ≤ i → i < T → I' (x + 1) i = w' (a + (10 + i))) ∧ ∀ i, i < t → I' (x + 1) i = I (x + 1) i
  | .error (c, p) => I' 81 2 = nn c ∧ I' 81 3 = nn p
section RDC
variable {d : Nat} {Γ : am_G} {B : Nat → Nat} {n : Nat}
theorem eX3_readCounts_go (hF : cF Γ) {G T : Nat} (hG4 : G < 4) (hT8 : T ≤ 8) : ∀ (k : Nat) {t s : Nat} {w : Nat → Int32} {I : am_I} {L : am_L}, t + k = T → rcB I B n → tkC B n I L s → I 45 1 = nn T → ∃ I' L', am_W m_X3_readCounts (d + 3) 0 0 false 0 0 2 [(0, .ref 81), (1, .ref (gc 45 G)), (2, .int (nn t))] [] Γ I L (am_R (.inl (some (.int (oky (uCm B n (132 + G * 94) k t s w))))) I' L') ∧ cnOut B n I I' L L' (gc 45 G) (132 + G * 94) t T (uCm B n (132 + G * 94) k t s w)
  | 0, t, s, w, I, L, hk, hB, ht, h1 => by
    obtain ⟨⟨o, f0, f1, f2, f3, f4, f5, f6, f7⟩, so, st, st2, ⟨ro, rr0, rr5, rr6, ra⟩, -⟩ := id hF
    obtain ⟨ob, -⟩ := id st2
    have hk4 := kd_le B n s
    have l1 : (I 81 7 = 1) ↔ kd B n s = 1 := by rw [ht.2.2.1]; exact nn_eq (b := 1) (by omega) (by decide)
    have hle : I 45 1 ≤ nn t := by rw [h1, nn_le (by omega) (by omega)]; omega
    have head : ∀ If Lf r, am_W m_X3_readCounts (d + 3) 0 0 false 0 0 45 [(0, .ref 81), (1, .ref (gc 45 G)), (2, .int (nn t))] [] Γ I L (am_R (.inl (some (.int r))) If Lf) → am_W m_X3_readCounts (d + 3) 0 0 false 0 0 2 [(0, .ref 81), (1, .ref (gc 45 G)), (2, .int (nn t))] [] Γ I L (am_R (.inl (some (.int r))) If Lf) := fun If Lf r hW => bX3_readCounts_2 ro rr5 ob (fun _ => hW) (fun z => absurd hle z)
    by_cases hd : kd B n s = 1
    · obtain ⟨g1, g2⟩ := eX3_isNumberIn (d := d + 1) (Γ := Γ) ro ht (lo := 0) (hi := 9999) (by decide) (by decide)
      by_cases hv : vl B n s ≤ 9999
      · have hm : uMore B n s = .error (5, s) := by unfold uMore; rw [if_pos hd, if_pos hv]
        obtain ⟨g3, -⟩ := g1 ⟨hd, Nat.zero_le _, hv⟩
        obtain ⟨h5, h6⟩ := eX3_fail (d := d + 2) (Γ := Γ) ro ht 5
        obtain ⟨e1, e2⟩ := cOut.frD h6
        rw [uCm_0e hm]
        refine ⟨_, L, head _ _ _ ?_, e1, e2⟩
        refine bX3_readCounts_45 ro (fun z => absurd (l1.mpr hd) z) (fun _ => ?_)
        refine bX3_readCounts_53 ro (Nat.zero_le _) (Nat.zero_le _) g3 ?_
        refine bX3_readCounts_61 (fun z => absurd z (by decide)) (fun _ => ?_)
        refine bX3_readCounts_64 ro (Nat.zero_le _) (Nat.zero_le _) h5 ?_
        refine bX3_readCounts_69 (fun _ => ?_) (fun z => absurd rfl z)
        refine bX3_readCounts_76 ?_
        refine bX3_readCounts_77 (by exact bi_hz false) ?_
        exact ⟨rfl, rfl, rfl⟩
      · have hm : uMore B n s = .error (2, s) := by unfold uMore; rw [if_pos hd, if_neg hv]
        have hN : pNum B n 0 9999 s = .error (2, s) := by unfold pNum; rw [if_pos hd, if_neg (fun z => hv z.2)]
        obtain ⟨I2, g3, g4⟩ := g2 _ hN
        obtain ⟨e1, e2⟩ := cOut.frD g4
        rw [uCm_0e hm]
        refine ⟨I2, L, head _ _ _ ?_, e1, e2⟩
        refine bX3_readCounts_45 ro (fun z => absurd (l1.mpr hd) z) (fun _ => ?_)
        refine bX3_readCounts_53 ro (Nat.zero_le _) (Nat.zero_le _) g3 ?_
        refine bX3_readCounts_61 (fun _ => ?_) (fun z => absurd rfl z)
        refine bX3_readCounts_76 ?_
        refine bX3_readCounts_77 (by exact bi_hz false) ?_
        exact ⟨rfl, rfl, rfl⟩
    · obtain ⟨I2, L2, hE2, k2⟩ := eX3_takeSemicolon (d := d) (Γ := Γ) ro rr0 ra hB ht
      have hm : uMore B n s = pSem B n s := by unfold uMore; rw [if_neg hd]
      cases hS : pSem B n s with
      | error e =>
        rw [hS] at k2
        obtain ⟨e1, e2⟩ := cOut.frD k2
        have h2 : ¬ kd B n s = 2 := fun z => by unfold pSem at hS; rw [if_pos z] at hS; cases hS
        rw [uCm_0e (hm.trans hS)]
        refine ⟨I2, L2, head _ _ _ ?_, e1, e2⟩
        rw [decide_eq_false h2] at hE2
        refine bX3_readCounts_45 ro (fun _ => ?_) (fun z => absurd (l1.mp z) hd)
        refine bX3_readCounts_78 ro (Nat.zero_le _) (Nat.zero_le _) hE2 ?_
        refine bX3_readCounts_82 (by exact bi_hz false) ?_
        exact ⟨rfl, rfl, rfl⟩
      | ok q =>
        rw [hS] at k2
        obtain ⟨h2, hp⟩ := pSem_q hS
        subst hp
        obtain ⟨t2, fr2⟩ := k2
        rw [uCm_0 (hm.trans hS)]
        refine ⟨I2, L2, head _ _ _ ?_, fr2.frD, fr2.kp, hB.frC fr2, t2, fun k a _ => fr2.1 k a, fun k a => fr2.2.2.1 k a, fun i a b => absurd a (by omega), fun i _ => by rw [fr2.1 _ (by unfold gc; omega)]⟩
        rw [decide_eq_true h2] at hE2
        refine bX3_readCounts_45 ro (fun _ => ?_) (fun z => absurd (l1.mp z) hd)
        refine bX3_readCounts_78 ro (Nat.zero_le _) (Nat.zero_le _) hE2 ?_
        refine bX3_readCounts_82 (by exact bi_hz true) ?_
        exact ⟨rfl, rfl, rfl⟩
  | k + 1, t, s, w, I, L, hk, hB, ht, h1 => by
    obtain ⟨⟨o, f0, f1, f2, f3, f4, f5, f6, f7⟩, so, st, st2, ⟨ro, rr0, rr5, rr6, ra⟩, -⟩ := id hF
    obtain ⟨ob, s4, s5, s6, s7, s8, s9, s10, b1, b2, b3, b4, b5, b6, o7, hg⟩ := id st2
    obtain ⟨hg1, hgg⟩ := hg G hG4
    obtain ⟨go, gg4, gg5, ga, -⟩ := id hgg
    have gE : gc 45 G = 45 + (8 + 7 * G) := rfl
    generalize hgx : gc 45 G = x at *
    have hle : ¬ I 45 1 ≤ nn t := by rw [h1, nn_le (by omega) (by omega)]; omega
    have et : (nn t : Int32).toNatClampNeg = t := nn_nat (by omega)
    obtain ⟨I2, L2, hE2, k2⟩ := eX3_takeNumber (d := d) ro rr0 ra hB ht (lo := 0) (hi := 9999) (by decide) (by decide)
    obtain ⟨J, hJ⟩ : ∃ J, J = am_u I2 (x + 1) t (rOut (pNum B n 0 9999 s)) := ⟨_, rfl⟩
    have jn : ∀ k, k ≠ x + 1 → J k = I2 k := fun k hk => by rw [hJ, am_u_ne hk]
    have jx : J (x + 1) t = rOut (pNum B n 0 9999 s) := by rw [hJ, at1, if_pos rfl]
    have ej : frD I2 J L2 L2 := ⟨fun k a b => jn k (by omega), fun j _ _ _ _ _ _ => by rw [jn 81 (by omega)], fun _ _ _ => rfl⟩
    cases hN : pNum B n 0 9999 s with
    | error e =>
      rw [hN] at k2 hE2 jx hJ
      obtain ⟨e1, e2⟩ := cOut.frD k2
      rw [uCm_e hN]
      refine ⟨J, L2, ?_, e1.tr ej, by rw [jn 81 (by omega)]; exact e2⟩
      refine bX3_readCounts_2 ro rr5 ob (fun z => absurd z hle) (fun _ => ?_)
      refine bX3_readCounts_13 go gg4 ro (Nat.zero_le _) (Nat.zero_le _) hE2 ?_
      refine bX3_readCounts_26 ga (nn_in (by omega) (by omega)) go gg4 ga (nn_in (by omega) (by omega)) (fun z => absurd (by rw [et, ← hJ]; exact jx) z) (fun _ => ?_)
      rw [et, ← hJ]
      refine bX3_readCounts_37 ?_
      exact ⟨rfl, rfl, rfl⟩
    | ok q =>
      rw [hN] at k2 hE2 jx hJ
      have o2 := pNum_ok hN
      have p2 := pNum_q hN
      subst p2
      obtain ⟨t2, fr2⟩ := k2
      have er : rOut (.ok (nx B n s, nn (vl B n s))) = nn (vl B n s) := rfl
      rw [er] at hE2 jx hJ
      have nm1 : ¬ nn (vl B n s) = -1 := nn_none (by omega)
      have BJ : rcB J B n := (hB.frC fr2).st (jn 81 (by omega)) (jn 82 (by omega))
      have j1 : J 45 1 = nn T := by rw [jn 45 (by omega), fr2.1 45 (by decide)]; exact h1
      obtain ⟨I', L', hW, hO⟩ := eX3_readCounts_go hF hG4 hT8 k (t := t + 1) (s := nx B n s) (w := up w (132 + G * 94 + (10 + t)) (nn (vl B n s))) (I := J) (L := L2) (by omega) BJ (t2.st (jn 81 (by omega)) rfl) j1
      rw [hgx] at hW hO
      rw [uCm_s hN]
      obtain ⟨y1, y2⟩ := hO
      refine ⟨I', L', ?_, (fr2.frD.tr ej).tr y1, ?_⟩
      · refine bX3_readCounts_2 ro rr5 ob (fun z => absurd z hle) (fun _ => ?_)
        refine bX3_readCounts_13 go gg4 ro (Nat.zero_le _) (Nat.zero_le _) hE2 ?_
        refine bX3_readCounts_26 ga (nn_in (by omega) (by omega)) go gg4 ga (nn_in (by omega) (by omega)) (fun _ => ?_) (fun z => absurd (jx.symm.trans (by rw [et, ← hJ] at z; exact z)) nm1)
        rw [et, ← hJ]
        refine bX3_readCounts_39 ?_
        rw [nn_s1]
        exact hW
      · cases hU : uCm B n (132 + G * 94) k (t + 1) (nx B n s) (up w (132 + G * 94 + (10 + t)) (nn (vl B n s))) with
        | error e => rw [hU] at y2; exact y2
        | ok q3 =>
          rw [hU] at y2
          obtain ⟨x1, x2⟩ := uCm_at _ _ _ _ hU
          obtain ⟨z1, z2, z3, z4, z5, z6, z7⟩ := y2
          refine ⟨(fr2.kp.tr (kpC.st (jn 81 (by omega)))).tr z1, z2, z3, fun k a b => (z4 k a b).trans ((jn k b).trans (fr2.1 k a)), fun k a => (z5 k a).trans (fr2.2.2.1 k a), fun i a b => ?_, fun i a => ?_⟩
          · by_cases hi : i = t
            · subst hi
              rw [z7 i (by omega), jx, x1 _ (by omega), up_eq]
            · exact z6 i (by omega) b
          · rw [z7 i (by omega), hJ, at1, if_neg (by omega), fr2.1 _ (by omega)]
theorem eX3_readQuestions_go (hF : cF Γ) : ∀ (f : Nat) {s : Nat} {w : Nat → Int32} {I : am_I} {L : am_L}, qInv w → clR B n I L s w → vQ w + f = 7 → ∃ I' L', am_W m_X3_readQuestions (d + 6) 0 0 false 0 0 2 [(0, .ref 81), (1, .int (nn (vQ w)))] [] Γ I L (am_R (.inl (some (.int (oky (uLoop B n 2 6 vQ (uQu B n) f s w))))) I' L') ∧ suOut B n I I' L L' (uLoop B n 2 6 vQ (uQu B n) f s w)
  | 0, s, w, I, L, hI, _, hf => by
    have : vQ w ≤ 6 := hI.1.1.2
    omega
  | f + 1, s, w, I, L, hI, hc, hf => by
    obtain ⟨-, -, -, -, ⟨ro, rr0, rr5, rr6, ra⟩, -⟩ := id hF
    obtain ⟨hB, ht, hs⟩ := id hc
    have v6 : vQ w ≤ 6 := hI.1.1.2
    have hWd : am_E m_X3_isWord (d + 5) 0 0 [.ref 81, .retAddr 2] Γ I L (.inl (some (.int (bi (wd B n s 2))))) I L := eX3_isWord (d := d + 1) ro rr0 ra hB ht (by decide)
    have fr0 : frD I I L L := ⟨fun _ _ _ => rfl, fun _ _ _ _ _ _ _ => rfl, fun _ _ _ => rfl⟩
    by_cases h6 : vQ w = 6
    · have hle : 6 ≤ nn (vQ w) := by rw [h6]; decide
      cases hx : wd B n s 2 with
      | true =>
        rw [hx] at hWd
        obtain ⟨h5, h7⟩ := eX3_fail (d := d + 5) (Γ := Γ) ro ht 5
        obtain ⟨e1, e2⟩ := cOut.frD h7
        rw [uLoop_f hx h6]
        refine ⟨_, L, ?_, e1, e2⟩
        refine bX3_readQuestions_2 (fun _ => ?_) (fun z => absurd hle z)
        refine bX3_readQuestions_48 ro (Nat.zero_le _) (Nat.zero_le _) hWd ?_
        refine bX3_readQuestions_54 (fun z => absurd z (by decide)) (fun _ => ?_)
        refine bX3_readQuestions_57 ro (Nat.zero_le _) (Nat.zero_le _) h5 ?_
        refine bX3_readQuestions_62 (fun _ => ?_) (fun z => absurd rfl z)
        refine bX3_readQuestions_69 ?_
        refine bX3_readQuestions_70 (by exact bi_hz false) ?_
        exact ⟨rfl, rfl, rfl⟩
      | false =>
        rw [hx] at hWd
        rw [uLoop_d hx (by omega)]
        refine ⟨I, L, ?_, fr0, ⟨rfl, rfl⟩, hc⟩
        refine bX3_readQuestions_2 (fun _ => ?_) (fun z => absurd hle z)
        refine bX3_readQuestions_48 ro (Nat.zero_le _) (Nat.zero_le _) hWd ?_
        refine bX3_readQuestions_54 (fun _ => ?_) (fun z => absurd rfl z)
        refine bX3_readQuestions_65 ?_
        refine bX3_readQuestions_70 (by exact bi_hz true) ?_
        exact ⟨rfl, rfl, rfl⟩
    · have hle : ¬ 6 ≤ nn (vQ w) := by rw [show (6 : Int32) = nn 6 from rfl, nn_le (by decide) (by omega)]; omega
      have hz : (nn (vQ w) ≤ (0 : Int32)) ↔ vQ w = 0 := by rw [nl_0, nn_le (by omega) (by decide)]; omega
      obtain ⟨I1, L1, hE1, k1⟩ := eX3_takeWord (d := d) ro rr0 ra hB ht (i := 2) (by decide)
      have to23 : (wd B n s 2 = true ∨ vQ w = 0) → ∀ If Lf r, am_W m_X3_readQuestions (d + 6) 0 0 false 0 0 29 [(0, .ref 81), (1, .int (nn (vQ w)))] [.int (bi (wd B n s 2))] Γ I1 L1 (am_R (.inl (some (.int r))) If Lf) → am_W m_X3_readQuestions (d + 6) 0 0 false 0 0 2 [(0, .ref 81), (1, .int (nn (vQ w)))] [] Γ I L (am_R (.inl (some (.int r))) If Lf) := by
        intro hor If Lf r hW
        refine bX3_readQuestions_2 (fun z => absurd z hle) (fun _ => ?_)
        refine bX3_readQuestions_8 (fun _ => ?_) (fun z => ?_)
        · exact bX3_readQuestions_23 ro (Nat.zero_le _) (Nat.zero_le _) hE1 hW
        · have hx : wd B n s 2 = true := hor.resolve_right (fun q => z (hz.mpr q))
          refine bX3_readQuestions_12 ro (Nat.zero_le _) (Nat.zero_le _) hWd ?_
          refine bX3_readQuestions_18 (fun _ => ?_) (fun z => absurd z (by rw [hx]; decide))
          exact bX3_readQuestions_23 ro (Nat.zero_le _) (Nat.zero_le _) hE1 hW
      cases hx : wd B n s 2 with
      | false =>
        by_cases h0 : vQ w = 0
        · have ep : pWord B n 2 s = .error (1, s) := by unfold pWord; rw [if_neg (by rw [hx]; decide)]
          rw [ep] at k1
          obtain ⟨e1, e2⟩ := cOut.frD k1
          rw [uLoop_n hx h0]
          refine ⟨I1, L1, to23 (Or.inr h0) _ _ _ ?_, e1, e2⟩
          rw [hx]
          refine bX3_readQuestions_29 (fun _ => ?_) (fun z => absurd rfl z)
          refine bX3_readQuestions_40 ?_
          exact ⟨rfl, rfl, rfl⟩
        · rw [uLoop_d hx h0]
          refine ⟨I, L, ?_, fr0, ⟨rfl, rfl⟩, hc⟩
          refine bX3_readQuestions_2 (fun z => absurd z hle) (fun _ => ?_)
          refine bX3_readQuestions_8 (fun z => absurd (hz.mp z) h0) (fun _ => ?_)
          refine bX3_readQuestions_12 ro (Nat.zero_le _) (Nat.zero_le _) hWd ?_
          refine bX3_readQuestions_18 (fun z => absurd (by rw [hx]; rfl) z) (fun _ => ?_)
          refine bX3_readQuestions_21 ?_
          exact ⟨rfl, rfl, rfl⟩
      | true =>
        have ep : pWord B n 2 s = .ok (nx B n s, 1) := by unfold pWord; rw [if_pos hx]
        rw [ep] at k1
        obtain ⟨t1, fr1⟩ := k1
        have c1 := hc.frC hI.1 t1 fr1
        obtain ⟨I2, L2, hE2, hO2⟩ := eX3_readQuestion (d := d + 2) hF hI.1 hI.2.1 hI.2.2.1 (by omega) c1
        have head : ∀ If Lf r, am_W m_X3_readQuestions (d + 6) 0 0 false 0 0 37 [(0, .ref 81), (1, .int (nn (vQ w)))] [.int (oky (uQu B n w (nx B n s)))] Γ I2 L2 (am_R (.inl (some (.int r))) If Lf) → am_W m_X3_readQuestions (d + 6) 0 0 false 0 0 2 [(0, .ref 81), (1, .int (nn (vQ w)))] [] Γ I L (am_R (.inl (some (.int r))) If Lf) := by
          intro If Lf r hW
          refine to23 (Or.inl hx) _ _ _ ?_
          refine bX3_readQuestions_29 (fun z => absurd z (by rw [hx]; decide)) (fun _ => ?_)
          exact bX3_readQuestions_32 ro (Nat.zero_le _) (Nat.zero_le _) hE2 hW
        obtain ⟨y1, y2⟩ := hO2
        cases hU : uQu B n w (nx B n s) with
        | error e =>
          rw [hU] at y2 head
          rw [uLoop_e hx h6 hU]
          refine ⟨I2, L2, head _ _ _ ?_, fr1.frD.tr y1, y2⟩
          refine bX3_readQuestions_37 (fun z => absurd rfl z) (fun _ => ?_)
          refine bX3_readQuestions_40 ?_
          exact ⟨rfl, rfl, rfl⟩
        | ok q =>
          obtain ⟨s', w'⟩ := q
          rw [hU] at y2 head
          obtain ⟨k2, c2⟩ := y2
          obtain ⟨hI', hv'⟩ := uQu_inv hI (by omega) hU
          obtain ⟨I', L', hW, hO⟩ := eX3_readQuestions_go hF f hI' c2 (by omega)
          rw [uLoop_s hx h6 hU]
          refine ⟨I', L', head _ _ _ ?_, hO.pre (fr1.frD.tr y1) (fr1.kp.tr k2)⟩
          refine bX3_readQuestions_37 (fun _ => ?_) (fun z => absurd z (show ¬ (1 : Int32) = 0 by decide))
          refine bX3_readQuestions_42 ?_
          rw [nn_s1, ← hv']
          exact hW
theorem eX3_readCarts_go (hF : cF Γ) : ∀ (f : Nat) {s : Nat} {w : Nat → Int32} {I : am_I} {L : am_L}, tInv w → clR B n I L s w → vT w + f = 9 → ∃ I' L', am_W m_X3_readCarts (d + 6) 0 0 false 0 0 2 [(0, .ref 81), (1, .int (nn (vT w)))] [] Γ I L (am_R (.inl (some (.int (oky (uLoop B n 3 8 vT (uTy B n) f s w))))) I' L') ∧ suOut B n I I' L L' (uLoop B n 3 8 vT (uTy B n) f s w)
  | 0, s, w, I, L, hI, _, hf => by
    have : vT w ≤ 8 := hI.1.2.1.2
    omega
  | f + 1, s, w, I, L, hI, hc, hf => by
    obtain ⟨-, -, -, -, ⟨ro, rr0, rr5, rr6, ra⟩, -⟩ := id hF
    obtain ⟨hB, ht, hs⟩ := id hc
    have v6 : vT w ≤ 8 := hI.1.2.1.2
    have hWd : am_E m_X3_isWord (d + 5) 0 0 [.ref 81, .retAddr 3] Γ I L (.inl (some (.int (bi (wd B n s 3))))) I L := eX3_isWord (d := d + 1) ro rr0 ra hB ht (by decide)
    have fr0 : frD I I L L := ⟨fun _ _ _ => rfl, fun _ _ _ _ _ _ _ => rfl, fun _ _ _ => rfl⟩
    by_cases h6 : vT w = 8
    · have hle : 8 ≤ nn (vT w) := by rw [h6]; decide
      cases hx : wd B n s 3 with
      | true =>
        rw [hx] at hWd
        obtain ⟨h5, h7⟩ := eX3_fail (d := d + 5) (Γ := Γ) ro ht 5
        obtain ⟨e1, e2⟩ := cOut.frD h7
        rw [uLoop_f hx h6]
        refine ⟨_, L, ?_, e1, e2⟩
        refine bX3_readCarts_2 (fun _ => ?_) (fun z => absurd hle z)
        refine bX3_readCarts_48 ro (Nat.zero_le _) (Nat.zero_le _) hWd ?_
        refine bX3_readCarts_54 (fun z => absurd z (by decide)) (fun _ => ?_)
        refine bX3_readCarts_57 ro (Nat.zero_le _) (Nat.zero_le _) h5 ?_
        refine bX3_readCarts_62 (fun _ => ?_) (fun z => absurd rfl z)
        refine bX3_readCarts_69 ?_
        refine bX3_readCarts_70 (by exact bi_hz false) ?_
        exact ⟨rfl, rfl, rfl⟩
      | false =>
        rw [hx] at hWd
        rw [uLoop_d hx (by omega)]
        refine ⟨I, L, ?_, fr0, ⟨rfl, rfl⟩, hc⟩
        refine bX3_readCarts_2 (fun _ => ?_) (fun z => absurd hle z)
        refine bX3_readCarts_48 ro (Nat.zero_le _) (Nat.zero_le _) hWd ?_
        refine bX3_readCarts_54 (fun _ => ?_) (fun z => absurd rfl z)
        refine bX3_readCarts_65 ?_
        refine bX3_readCarts_70 (by exact bi_hz true) ?_
        exact ⟨rfl, rfl, rfl⟩
    · have hle : ¬ 8 ≤ nn (vT w) := by rw [show (8 : Int32) = nn 8 from rfl, nn_le (by decide) (by omega)]; omega
      have hz : (nn (vT w) ≤ (0 : Int32)) ↔ vT w = 0 := by rw [nl_0, nn_le (by omega) (by decide)]; omega
      obtain ⟨I1, L1, hE1, k1⟩ := eX3_takeWord (d := d) ro rr0 ra hB ht (i := 3) (by decide)
      have to23 : (wd B n s 3 = true ∨ vT w = 0) → ∀ If Lf r, am_W m_X3_readCarts (d + 6) 0 0 false 0 0 29 [(0, .ref 81), (1, .int (nn (vT w)))] [.int (bi (wd B n s 3))] Γ I1 L1 (am_R (.inl (some (.int r))) If Lf) → am_W m_X3_readCarts (d + 6) 0 0 false 0 0 2 [(0, .ref 81), (1, .int (nn (vT w)))] [] Γ I L (am_R (.inl (some (.int r))) If Lf) := by
        intro hor If Lf r hW
        refine bX3_readCarts_2 (fun z => absurd z hle) (fun _ => ?_)
        refine bX3_readCarts_8 (fun _ => ?_) (fun z => ?_)
        · exact bX3_readCarts_23 ro (Nat.zero_le _) (Nat.zero_le _) hE1 hW
        · have hx : wd B n s 3 = true := hor.resolve_right (fun q => z (hz.mpr q))
          refine bX3_readCarts_12 ro (Nat.zero_le _) (Nat.zero_le _) hWd ?_
          refine bX3_readCarts_18 (fun _ => ?_) (fun z => absurd z (by rw [hx]; decide))
          exact bX3_readCarts_23 ro (Nat.zero_le _) (Nat.zero_le _) hE1 hW
      cases hx : wd B n s 3 with
      | false =>
        by_cases h0 : vT w = 0
        · have ep : pWord B n 3 s = .error (1, s) := by unfold pWord; rw [if_neg (by rw [hx]; decide)]
          rw [ep] at k1
          obtain ⟨e1, e2⟩ := cOut.frD k1
          rw [uLoop_n hx h0]
          refine ⟨I1, L1, to23 (Or.inr h0) _ _ _ ?_, e1, e2⟩
          rw [hx]
          refine bX3_readCarts_29 (fun _ => ?_) (fun z => absurd rfl z)
          refine bX3_readCarts_40 ?_
          exact ⟨rfl, rfl, rfl⟩
        · rw [uLoop_d hx h0]
          refine ⟨I, L, ?_, fr0, ⟨rfl, rfl⟩, hc⟩
          refine bX3_readCarts_2 (fun z => absurd z hle) (fun _ => ?_)
          refine bX3_readCarts_8 (fun z => absurd (hz.mp z) h0) (fun _ => ?_)
          refine bX3_readCarts_12 ro (Nat.zero_le _) (Nat.zero_le _) hWd ?_
          refine bX3_readCarts_18 (fun z => absurd (by rw [hx]; rfl) z) (fun _ => ?_)
          refine bX3_readCarts_21 ?_
          exact ⟨rfl, rfl, rfl⟩
      | true =>
        have ep : pWord B n 3 s = .ok (nx B n s, 1) := by unfold pWord; rw [if_pos hx]
        rw [ep] at k1
        obtain ⟨t1, fr1⟩ := k1
        have c1 := hc.frC hI.1 t1 fr1
        obtain ⟨I2, L2, hE2, hO2⟩ := eX3_readCart (d := d + 1) hF hI.1 hI.2.1 (by omega) c1
        have head : ∀ If Lf r, am_W m_X3_readCarts (d + 6) 0 0 false 0 0 37 [(0, .ref 81), (1, .int (nn (vT w)))] [.int (oky (uTy B n w (nx B n s)))] Γ I2 L2 (am_R (.inl (some (.int r))) If Lf) → am_W m_X3_readCarts (d + 6) 0 0 false 0 0 2 [(0, .ref 81), (1, .int (nn (vT w)))] [] Γ I L (am_R (.inl (some (.int r))) If Lf) := by
          intro If Lf r hW
          refine to23 (Or.inl hx) _ _ _ ?_
          refine bX3_readCarts_29 (fun z => absurd z (by rw [hx]; decide)) (fun _ => ?_)
          exact bX3_readCarts_32 ro (Nat.zero_le _) (Nat.zero_le _) hE2 hW
        obtain ⟨y1, y2⟩ := hO2
        cases hU : uTy B n w (nx B n s) with
        | error e =>
          rw [hU] at y2 head
          rw [uLoop_e hx h6 hU]
          refine ⟨I2, L2, head _ _ _ ?_, fr1.frD.tr y1, y2⟩
          refine bX3_readCarts_37 (fun z => absurd rfl z) (fun _ => ?_)
          refine bX3_readCarts_40 ?_
          exact ⟨rfl, rfl, rfl⟩
        | ok q =>
          obtain ⟨s', w'⟩ := q
          rw [hU] at y2 head
          obtain ⟨k2, c2⟩ := y2
          obtain ⟨hI', hv'⟩ := uTy_inv hI (by omega) hU
          obtain ⟨I', L', hW, hO⟩ := eX3_readCarts_go hF f hI' c2 (by omega)
          rw [uLoop_s hx h6 hU]
          refine ⟨I', L', head _ _ _ ?_, hO.pre (fr1.frD.tr y1) (fr1.kp.tr k2)⟩
          refine bX3_readCarts_37 (fun _ => ?_) (fun z => absurd z (show ¬ (1 : Int32) = 0 by decide))
          refine bX3_readCarts_42 ?_
          rw [nn_s1, ← hv']
          exact hW
end RDC
