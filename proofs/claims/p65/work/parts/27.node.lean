/-! CONTRACTS OF THE SOLVER: a tree is planted -/
def pcs (T S : Nat) : Nat := wt T (fun _ => 1) S
theorem nsum_ge {f : Nat → Nat} {i : Nat} : ∀ (n : Nat), i < n → f i ≤ nsum f n
  | 0, h => absurd h (Nat.not_lt_zero _)
  | n + 1, h => by
    show f i ≤ nsum f n + f n
    by_cases hi : i < n
    · have := nsum_ge (f := f) n hi; omega
    · obtain rfl : i = n := by omega
      omega
theorem pcs_pos {T S : Nat} (h0 : 0 < S) (hS : S < 2 ^ T) : 0 < pcs T S := by
  obtain ⟨i, hi⟩ := bit_ex (Nat.ne_of_gt h0)
  have := nsum_ge (f := fun t => if S.testBit t then 1 else 0) T (bit_dom hS hi)
  simp only [hi, if_true] at this
  exact this
theorem pcs_le (T S : Nat) : pcs T S ≤ T := by
  have := nsum_le (f := fun t => if S.testBit t then 1 else 0) (m := 1) T (fun k _ => by show (if S.testBit k then 1 else 0) ≤ 1; split <;> decide)
  rw [Nat.mul_one] at this
  exact this
theorem pcs_split (T S Y : Nat) : pcs T S = pcs T (S &&& Y) + pcs T (nots S Y) := wt_split S Y
section TV
variable (Q T : Nat) (qc ys tl ct : Nat → Nat) (fb : Nat → Bool) (tq tt ty tn ts : Nat → Int32)
/-- from n on stands the best tree of the set S within l; behind it e: question, toll, yes child, no child, set -/
def tvb : Nat → Nat → Nat → Nat → Nat → Prop
  | 0, _, _, _, _ => False
  | f + 1, n, S, l, e => ts n = nn S ∧ ((bB Q T qc ys tl ct fb S l % 8 = 0 ∧ tq n = -1 ∧ tt n = nn (bt T tl ct S) ∧ ty n = -1 ∧ tn n = -1 ∧ e = n + 1) ∨
      ∃ q m, bB Q T qc ys tl ct fb S l % 8 = q + 1 ∧ tq n = nn q ∧ tt n = -1 ∧ ty n = nn (n + 1) ∧ tn n = nn m ∧ tvb f (n + 1) (S &&& ys q) (l - qc q) m ∧ tvb f m (nots S (ys q)) (l - qc q) e)
end TV
section TV2
variable {Q T : Nat} {qc ys tl ct : Nat → Nat} {fb : Nat → Bool} {tq tt ty tn ts tq' tt' ty' tn' ts' : Nat → Int32}
theorem tvb_gt : ∀ {f n S l e : Nat}, tvb Q T qc ys tl ct fb tq tt ty tn ts f n S l e → n < e
  | 0, _, _, _, _, h => h.elim
  | f + 1, n, S, l, e, h => by
    obtain ⟨-, h | ⟨q, m, -, -, -, -, -, h1, h2⟩⟩ := h
    · omega
    · have := tvb_gt h1
      have := tvb_gt h2
      omega
theorem tvb_cong : ∀ {f n S l e : Nat}, tvb Q T qc ys tl ct fb tq tt ty tn ts f n S l e → (∀ j, n ≤ j → j < e → tq' j = tq j ∧ tt' j = tt j ∧ ty' j = ty j ∧ tn' j = tn j ∧ ts' j = ts j) → tvb Q T qc ys tl ct fb tq' tt' ty' tn' ts' f n S l e
  | 0, _, _, _, _, h, _ => h.elim
  | f + 1, n, S, l, e, h, hc => by
    have hlt := tvb_gt h
    obtain ⟨c1, c2, c3, c4, c5⟩ := hc n (Nat.le_refl _) hlt
    obtain ⟨h0, h | ⟨q, m, e1, e2, e3, e4, e5, h1, h2⟩⟩ := h
    · exact ⟨c5.trans h0, Or.inl ⟨h.1, c1.trans h.2.1, c2.trans h.2.2.1, c3.trans h.2.2.2.1, c4.trans h.2.2.2.2.1, h.2.2.2.2.2⟩⟩
    · have l1 := tvb_gt h1
      have l2 := tvb_gt h2
      exact ⟨c5.trans h0, Or.inr ⟨q, m, e1, c1.trans e2, c2.trans e3, c3.trans e4, c4.trans e5, tvb_cong h1 (fun j j1 j2 => hc j (by omega) (by omega)), tvb_cong h2 (fun j j1 j2 => hc j (by omega) (by omega))⟩⟩
/-- such a tree is told by set and limit alone -/
theorem tvb_uq : ∀ {f n S l e e' : Nat}, tvb Q T qc ys tl ct fb tq tt ty tn ts f n S l e → tvb Q T qc ys tl ct fb tq' tt' ty' tn' ts' f n S l e' → e' = e ∧ ∀ j, n ≤ j → j < e → tq' j = tq j ∧ tt' j = tt j ∧ ty' j = ty j ∧ tn' j = tn j ∧ ts' j = ts j
  | 0, _, _, _, _, _, h, _ => h.elim
  | f + 1, n, S, l, e, e', h, h' => by
    obtain ⟨h0, h | ⟨q, m, e1, e2, e3, e4, e5, h1, h2⟩⟩ := h
    · obtain ⟨h0', h' | ⟨q', m', e1', -⟩⟩ := h'
      · refine ⟨by omega, fun j j1 j2 => ?_⟩
        obtain rfl : j = n := by omega
        exact ⟨h'.2.1.trans h.2.1.symm, h'.2.2.1.trans h.2.2.1.symm, h'.2.2.2.1.trans h.2.2.2.1.symm, h'.2.2.2.2.1.trans h.2.2.2.2.1.symm, h0'.trans h0.symm⟩
      · omega
    · obtain ⟨h0', h' | ⟨q', m', e1', e2', e3', e4', e5', h1', h2'⟩⟩ := h'
      · omega
      · obtain rfl : q' = q := by omega
        obtain ⟨rfl, g1⟩ := tvb_uq h1 h1'
        obtain ⟨rfl, g2⟩ := tvb_uq h2 h2'
        refine ⟨rfl, fun j j1 j2 => ?_⟩
        by_cases hj : j = n
        · subst hj
          exact ⟨e2'.trans e2.symm, e3'.trans e3.symm, e4'.trans e4.symm, e5'.trans e5.symm, h0'.trans h0.symm⟩
        · by_cases hm : j < m'
          · exact g1 j (by omega) hm
          · exact g2 j (by omega) j2
end TV2
theorem nn_s1 (n : Nat) : nn n + 1 = nn (n + 1) := by rw [nl_1, nn_add]
section C8
variable {d : Nat} {Γ : am_G} {I : am_I} {L : am_L} {b k x t Q T : Nat} {qc ys tl ct : Nat → Nat}
theorem and7 (R : Nat) : R &&& 7 = R % 8 := by first | exact Nat.and_two_pow_sub_one_eq_mod R 3 | exact Nat.and_pow_two_is_mod R 3
theorem and22 (R : Nat) : R &&& 4194303 = R % 4194304 := by first | exact Nat.and_two_pow_sub_one_eq_mod R 22 | exact Nat.and_pow_two_is_mod R 22
theorem eX8_rootOf (R : Nat) : am_E m_X8_rootOf d 0 0 [.long (ll R)] Γ I L (.inl (some (.int (nn (R % 8) - 1)))) I L := by
  refine am_ofE rfl rfl rfl (Nat.le_of_ble_eq_true rfl) ?_
  refine bX8_rootOf_0 ?_
  rw [ll_to, nl_7, nn_and, and7]
  exact ⟨rfl, rfl, rfl⟩
theorem eX8_errorsOf {R : Nat} (h : R < 9223372036854775808) : am_E m_X8_errorsOf d 0 0 [.long (ll R)] Γ I L (.inl (some (.int (nn (R / 33554432))))) I L := by
  refine am_ofE rfl rfl rfl (Nat.le_of_ble_eq_true rfl) ?_
  refine bX8_errorsOf_0 ?_
  rw [nl_25, ll_shr h (by decide), ll_to]
  exact ⟨rfl, rfl, rfl⟩
theorem eX8_workOf {R : Nat} (h : R < 9223372036854775808) : am_E m_X8_workOf d 0 0 [.long (ll R)] Γ I L (.inl (some (.int (nn (R / 8 % 4194304))))) I L := by
  refine am_ofE rfl rfl rfl (Nat.le_of_ble_eq_true rfl) ?_
  refine bX8_workOf_0 ?_
  rw [nl_3, ll_shr h (by decide), ll_to, nl_4194303, nn_and, and22]
  exact ⟨rfl, rfl, rfl⟩
theorem eX4_await (hk : soF Γ k) {w : Nat} (hw : w < 15) (he : I k 7 = nn w) (s l p : Int32) : am_E m_X4_await d 0 0 [.ref k, .int s, .int l, .int p] Γ I L (.inl none) (am_u (am_u (am_u (am_u I (k + 5) w s) (k + 6) w l) (k + 7) w p) k 7 (nn (w + 1))) L := by
  obtain ⟨o, r0, r1, r2, r3, r4, r5, r6, a1, a2, a3, a4, a5, a6, a7⟩ := id hk
  have u1 : ∀ (J : am_I) (c j : Nat) (v : Int32), c ≠ k → am_u J c j v k 7 = J k 7 := fun J c j v h => by rw [am_u_at, if_neg (fun z => h z.1.symm)]
  have n5 : k + 5 ≠ k := by omega
  have n6 : k + 6 ≠ k := by omega
  have n7 : k + 7 ≠ k := by omega
  refine am_ofE rfl rfl rfl (Nat.le_of_ble_eq_true rfl) ?_
  refine bX4_await_0 o (fun h => absurd h (by rw [he, nl_15, nn_le (by omega) (by omega)]; omega)) (fun _ => ?_)
  refine bX4_await_9 o r4 a5 (by rw [he]; exact nn_in (by omega) hw) r5 a6 (by rw [u1 _ _ _ _ n5, he]; exact nn_in (by omega) hw) r6 a7 (by rw [u1 _ _ _ _ n6, u1 _ _ _ _ n5, he]; exact nn_in (by omega) hw) ?_
  refine bX4_await_49 ?_
  refine am_R_v ?_ rfl
  simp only [u1 _ _ _ _ n5, u1 _ _ _ _ n6, u1 _ _ _ _ n7, he, nn_nat (show w < 2147483648 by omega), nn_s1]
/-- what a node's planting leaves as it was -/
def plF (I I' : am_I) (k t : Nat) : Prop := ∀ c, c ≠ k → c ≠ k + 5 → c ≠ k + 6 → c ≠ k + 7 → (c < t ∨ t + 5 ≤ c) → I' c = I c
theorem plF.tr {I I' I'' : am_I} {k t : Nat} (h : plF I I' k t) (h' : plF I' I'' k t) : plF I I'' k t := fun c a b e f g => (h' c a b e f g).trans (h c a b e f g)
set_option maxHeartbeats 8000000 in
theorem eX4_plantNode (hk : soF Γ k) (hb : stF Γ b) (ht : trF Γ t) (hd : b + 36 ≤ k ∨ k + 8 ≤ b) (hdt : b + 8 ≤ t ∧ t + 5 ≤ b + 36) (hs : sda I b x Q T qc ys tl ct) (hxt : b ≤ x ∧ x + 1 < t)
    {S l w n : Nat} {par : Int32} (h0 : 0 < S) (hS : S < 2 ^ T) (hl : l ≤ 30) (hn : n < 15) (hwp : w + pcs T S ≤ 15) (he : I k 7 = nn (w + 1)) (h5 : I (k + 5) w = nn S) (h6 : I (k + 6) w = nn l) (h7 : I (k + 7) w = par) (hpar : par = -1 ∨ ∃ p, p < n ∧ par = nn p)
    (hr : L (k + 1) (S * 31 + l) = ll (bB Q T qc ys tl ct (fbq (-1)) S l)) (hw : ∀ S, S < 2 ^ T → I (k + 3) S = nn (wt T ct S)) (hm : ∀ t, t < T → I (k + 4) t = nn (same T tl t)) :
    ∃ I', am_E m_X4_plantNode (d + 1) 0 0 [.ref k, .ref b, .ref t, .int (nn n)] Γ I L (.inl none) I' L ∧ plF I I' k t ∧
      (∀ j, j ≠ n → j < 15 → I' (t + 1) j = I (t + 1) j ∧ I' (t + 2) j = I (t + 2) j ∧ I' (t + 4) j = I (t + 4) j ∧ I' (t + 3) j = if par = nn j then nn n else I (t + 3) j) ∧
      I' t 0 = nn (n + 1) ∧ I' (t + 4) n = nn S ∧ I' (t + 3) n = -1 ∧ (∀ j, j < w → I' (k + 5) j = I (k + 5) j ∧ I' (k + 6) j = I (k + 6) j ∧ I' (k + 7) j = I (k + 7) j) ∧
      ((bB Q T qc ys tl ct (fbq (-1)) S l % 8 = 0 ∧ I' (t + 1) n = -1 ∧ I' (t + 2) n = nn (bt T tl ct S) ∧ I' k 7 = nn w) ∨
        ∃ q, bB Q T qc ys tl ct (fbq (-1)) S l % 8 = q + 1 ∧ q < Q ∧ oks ys (fbq (-1)) q S = true ∧ qc q ≤ l ∧ I' (t + 1) n = nn q ∧ I' (t + 2) n = -1 ∧ I' k 7 = nn (w + 2) ∧
          I' (k + 5) w = nn (nots S (ys q)) ∧ I' (k + 6) w = nn (l - qc q) ∧ I' (k + 7) w = nn n ∧ I' (k + 5) (w + 1) = nn (S &&& ys q) ∧ I' (k + 6) (w + 1) = nn (l - qc q) ∧ I' (k + 7) (w + 1) = -1) := by
  obtain ⟨o, r0, r1, r2, r3, r4, r5, r6, a1, a2, a3, a4, a5, a6, a7⟩ := id hk
  obtain ⟨ob, s4, s5, s6, s7, s8, s9, s10, b1, b2, b3, b4, b5, b6, o7, hg⟩ := id hb
  obtain ⟨hQ, hT, hQ6, hT0, hT8, hq, htl⟩ := id hs
  obtain ⟨ot, t1, t2, t3, t4, ta1, ta2, ta3, ta4⟩ := id ht
  have p8 := two_le8 hT8
  have pp := pcs_pos h0 hS
  have pn : nn (w + 1) - 1 = nn w := by rw [nl_1, nn_sub (by omega)]; rfl
  have uk : ∀ v : Int32, am_u I k 7 v k 7 = v := fun v => by rw [am_u_at, if_pos ⟨rfl, rfl⟩]
  have uo : ∀ (v : Int32) (c : Nat), c ≠ k → am_u I k 7 v c = I c := fun v c hc => am_u_ne hc
  -- the parent's no child
  have st60 : ∃ I2 : am_I, (∀ I' : am_I, am_W m_X4_plantNode (d + 1) 0 0 false 0 0 60 [(0, .ref k), (1, .ref b), (2, .ref t), (3, .int (nn n)), (4, .int (nn S)), (5, .int (nn l))] [] Γ I2 L (am_R (.inl none) I' L) → am_W m_X4_plantNode (d + 1) 0 0 false 0 0 0 [(0, .ref k), (1, .ref b), (2, .ref t), (3, .int (nn n))] [] Γ I L (am_R (.inl none) I' L)) ∧
      I2 k 7 = nn w ∧ (∀ c, c ≠ k → c ≠ t + 3 → I2 c = I c) ∧ ∀ j, j < 15 → I2 (t + 3) j = if par = nn j then nn n else I (t + 3) j := by
    have first : ∀ I' : am_I, (par = -1 → am_W m_X4_plantNode (d + 1) 0 0 false 0 0 60 [(0, .ref k), (1, .ref b), (2, .ref t), (3, .int (nn n)), (4, .int (nn S)), (5, .int (nn l))] [] Γ (am_u I k 7 (nn w)) L (am_R (.inl none) I' L)) → (¬ par = -1 → am_W m_X4_plantNode (d + 1) 0 0 false 0 0 45 [(0, .ref k), (1, .ref b), (2, .ref t), (3, .int (nn n)), (4, .int (nn S)), (5, .int (nn l))] [] Γ (am_u I k 7 (nn w)) L (am_R (.inl none) I' L)) → am_W m_X4_plantNode (d + 1) 0 0 false 0 0 0 [(0, .ref k), (1, .ref b), (2, .ref t), (3, .int (nn n))] [] Γ I L (am_R (.inl none) I' L) := by
      intro I' g1 g2
      have i7 : am_u I k 7 (I k 7 - 1) k 7 = nn w := by rw [uk, he, pn]
      refine bX4_plantNode_0 o r4 a5 (by rw [i7]; exact nn_in (by omega) (by omega)) r5 a6 (by rw [i7]; exact nn_in (by omega) (by omega)) r6 a7 (by rw [i7]; exact nn_in (by omega) (by omega)) (fun h => ?_) (fun h => ?_)
      · rw [i7, nn_nat (show w < 2147483648 by omega), uo _ _ (by omega), h7] at h
        rw [i7, nn_nat (show w < 2147483648 by omega), uo _ (k + 5) (by omega), uo _ (k + 6) (by omega), h5, h6, he, pn]
        exact g1 h
      · rw [i7, nn_nat (show w < 2147483648 by omega), uo _ _ (by omega), h7] at h
        rw [i7, nn_nat (show w < 2147483648 by omega), uo _ (k + 5) (by omega), uo _ (k + 6) (by omega), h5, h6, he, pn]
        exact g2 h
    rcases hpar with hp | ⟨p, hpn, hp⟩
    · refine ⟨am_u I k 7 (nn w), fun I' h => first I' (fun _ => h) (fun z => absurd hp z), uk _, fun c h1 _ => uo _ c h1, fun j hj => ?_⟩
      rw [if_neg (fun z => nn_none (k := j) (by omega) (by rw [← z, hp])), uo _ _ (by omega)]
    · refine ⟨am_u (am_u I k 7 (nn w)) (t + 3) p (nn n), fun I' h => first I' (fun z => absurd z (by rw [hp]; exact nn_none (by omega))) (fun z => ?_), ?_, fun c h1 h2 => ?_, fun j hj => ?_⟩
      · have e7 : am_u I k 7 (nn w) (k + 7) (nn w).toNatClampNeg = nn p := by rw [nn_nat (by omega), uo _ _ (by omega), h7, hp]
        refine bX4_plantNode_45 ot t3 o r6 a7 (by rw [uk]; exact nn_in (by omega) (by omega)) ta3 (by rw [uk, e7]; exact nn_in (by omega) (by omega)) ?_
        rw [uk, e7, nn_nat (show p < 2147483648 by omega)]
        exact h
      · rw [am_u_at, if_neg (fun z => by omega), uk]
      · rw [am_u_ne h2, uo _ c h1]
      · rw [am_u_at, hp]
        by_cases hj2 : j = p
        · rw [if_pos ⟨rfl, hj2⟩, if_pos (by rw [hj2])]
        · rw [if_neg (fun z => hj2 z.2), if_neg (fun z => hj2 ((nn_eq (by omega) (by omega)).mp z).symm), uo _ _ (by omega)]
  obtain ⟨I2, st, e2k, e2, e2t⟩ := st60
  have hs2 : sda I2 b x Q T qc ys tl ct := hs.to (e2 _ (by omega) (by omega)) (e2 _ (by omega) (by omega)) (e2 _ (by omega) (by omega)) (e2 _ (by omega) (by omega)) (e2 _ (by omega) (by omega))
  have st71 : ∀ I' : am_I, am_W m_X4_plantNode (d + 1) 0 0 false 0 0 71 [(0, .ref k), (1, .ref b), (2, .ref t), (3, .int (nn n)), (4, .int (nn S)), (5, .int (nn l))] [.int (nn (bB Q T qc ys tl ct (fbq (-1)) S l % 8) - 1)] Γ I2 L (am_R (.inl none) I' L) → am_W m_X4_plantNode (d + 1) 0 0 false 0 0 0 [(0, .ref k), (1, .ref b), (2, .ref t), (3, .int (nn n))] [] Γ I L (am_R (.inl none) I' L) := by
    intro I' h
    refine st I' ?_
    refine bX4_plantNode_60 o (Nat.zero_le _) (Nat.zero_le _) (eX4_rankOf hk (by omega) hl) ?_
    rw [hr]
    refine bX4_plantNode_68 (Nat.zero_le _) (Nat.zero_le _) (eX8_rootOf _) ?_
    exact h
  refine am_ofX1 rfl rfl rfl (Nat.le_of_ble_eq_true rfl) ?_
  have J1 : ∀ v : Int32, ∀ c, c < t ∨ t + 5 ≤ c → am_u (am_u (am_u (am_u I2 (t + 1) n v) (t + 3) n (-1)) (t + 4) n (nn S)) t 0 (nn (n + 1)) c = I2 c := fun v c hc => by
    rw [am_u_ne (by omega), am_u_ne (by omega), am_u_ne (by omega), am_u_ne (by omega)]
  by_cases hz : bB Q T qc ys tl ct (fbq (-1)) S l % 8 = 0
  · -- a leaf
    have em : nn (bB Q T qc ys tl ct (fbq (-1)) S l % 8) - 1 = -1 := by rw [hz]; rfl
    refine ⟨am_u (am_u (am_u (am_u (am_u I2 (t + 1) n (-1)) (t + 3) n (-1)) (t + 4) n (nn S)) t 0 (nn (n + 1))) (t + 2) n (nn (bt T tl ct S)), st71 _ ?_, fun c c1 c2 c3 c4 c5 => ?_, fun j j1 j2 => ⟨?_, ?_, ?_, ?_⟩, ?_, ?_, ?_, fun j hj => ⟨?_, ?_, ?_⟩, Or.inl ⟨hz, ?_, ?_, ?_⟩⟩
    · rw [em]
      refine bX4_plantNode_71 ot t1 ta1 (nn_in (by omega) hn) t3 ta3 (nn_in (by omega) hn) t4 ta4 (nn_in (by omega) hn) (fun h => absurd rfl h) (fun _ => ?_)
      rw [nn_nat (show n < 2147483648 by omega), nn_s1]
      refine bX4_plantNode_109 ot t2 o (Nat.zero_le _) (Nat.zero_le _) (eX4_bestToll hk hb (hs2.to (J1 _ _ (by omega)) (J1 _ _ (by omega)) (J1 _ _ (by omega)) (J1 _ _ (by omega)) (J1 _ _ (by omega))) h0 hS (fun S' hS' => by rw [J1 _ _ (by omega), e2 _ (by omega) (by omega)]; exact hw S' hS') (fun u hu => by rw [J1 _ _ (by omega), e2 _ (by omega) (by omega)]; exact hm u hu)).1 ?_
      refine bX4_plantNode_121 ta2 (nn_in (by omega) hn) ?_
      rw [nn_nat (show n < 2147483648 by omega)]
      exact ⟨rfl, rfl, rfl⟩
    · rw [am_u_ne (by omega), J1 _ _ c5, e2 c c1 (by omega)]
    · simp (disch := omega) only [and_self, and_true, true_and, and_false, false_and, if_true, if_false, am_cI_at, am_cL_at, am_u_at, am_ul_at, am_mI_at, if_pos, if_neg, c0, c6, c8, c15, Nat.zero_add, Nat.sub_zero]
      rw [e2 _ (by omega) (by omega)]
    · simp (disch := omega) only [and_self, and_true, true_and, and_false, false_and, if_true, if_false, am_cI_at, am_cL_at, am_u_at, am_ul_at, am_mI_at, if_pos, if_neg, c0, c6, c8, c15, Nat.zero_add, Nat.sub_zero]
      rw [e2 _ (by omega) (by omega)]
    · simp (disch := omega) only [and_self, and_true, true_and, and_false, false_and, if_true, if_false, am_cI_at, am_cL_at, am_u_at, am_ul_at, am_mI_at, if_pos, if_neg, c0, c6, c8, c15, Nat.zero_add, Nat.sub_zero]
      rw [e2 _ (by omega) (by omega)]
    · simp (disch := omega) only [and_self, and_true, true_and, and_false, false_and, if_true, if_false, am_cI_at, am_cL_at, am_u_at, am_ul_at, am_mI_at, if_pos, if_neg, c0, c6, c8, c15, Nat.zero_add, Nat.sub_zero]
      exact e2t j j2
    · simp (disch := omega) only [and_self, and_true, true_and, and_false, false_and, if_true, if_false, am_cI_at, am_cL_at, am_u_at, am_ul_at, am_mI_at, if_pos, if_neg, c0, c6, c8, c15, Nat.zero_add, Nat.sub_zero]
    · simp (disch := omega) only [and_self, and_true, true_and, and_false, false_and, if_true, if_false, am_cI_at, am_cL_at, am_u_at, am_ul_at, am_mI_at, if_pos, if_neg, c0, c6, c8, c15, Nat.zero_add, Nat.sub_zero]
    · simp (disch := omega) only [and_self, and_true, true_and, and_false, false_and, if_true, if_false, am_cI_at, am_cL_at, am_u_at, am_ul_at, am_mI_at, if_pos, if_neg, c0, c6, c8, c15, Nat.zero_add, Nat.sub_zero]
    · rw [am_u_ne (by omega), J1 _ _ (by omega), e2 _ (by omega) (by omega)]
    · rw [am_u_ne (by omega), J1 _ _ (by omega), e2 _ (by omega) (by omega)]
    · rw [am_u_ne (by omega), J1 _ _ (by omega), e2 _ (by omega) (by omega)]
    · simp (disch := omega) only [and_self, and_true, true_and, and_false, false_and, if_true, if_false, am_cI_at, am_cL_at, am_u_at, am_ul_at, am_mI_at, if_pos, if_neg, c0, c6, c8, c15, Nat.zero_add, Nat.sub_zero]
    · simp (disch := omega) only [and_self, and_true, true_and, and_false, false_and, if_true, if_false, am_cI_at, am_cL_at, am_u_at, am_ul_at, am_mI_at, if_pos, if_neg, c0, c6, c8, c15, Nat.zero_add, Nat.sub_zero]
    · rw [am_u_ne (by omega), J1 _ _ (by omega), e2k]
  · -- an inner node
    obtain ⟨q, hqQ, hok, hql, hbq⟩ := (bB_b (Q := Q) (T := T) (qc := qc) (ys := ys) (tl := tl) (ct := ct) (fb := fbq (-1)) hQ6 hT8 (fun t h => (htl t h).2.2.2) S (by omega) l hl).2.2 hz
    obtain ⟨l1, l2, n1, n2⟩ := oks_lt ys (fbq (-1)) hok
    obtain ⟨eqc, q1, q9, eys, ysl⟩ := hq q hqQ
    have py := pcs_pos (T := T) (S := S &&& ys q) (by omega) (by omega)
    have pno := pcs_pos (T := T) (S := nots S (ys q)) (by omega) (by omega)
    have psp := pcs_split T S (ys q)
    have em : nn (bB Q T qc ys tl ct (fbq (-1)) S l % 8) - 1 = nn q := by rw [hbq, nl_1, nn_sub (by omega)]; rfl
    -- the state ahead of the two await
    have K1 : ∀ c, c < t ∨ t + 5 ≤ c → am_u (am_u (am_u (am_u (am_u I2 (t + 1) n (nn q)) (t + 3) n (-1)) (t + 4) n (nn S)) t 0 (nn (n + 1))) (t + 2) n (-1) c = I2 c := fun c hc => by rw [am_u_ne (by omega), J1 _ _ hc]
    have Kk : am_u (am_u (am_u (am_u (am_u I2 (t + 1) n (nn q)) (t + 3) n (-1)) (t + 4) n (nn S)) t 0 (nn (n + 1))) (t + 2) n (-1) k 7 = nn w := by rw [K1 k (by omega), e2k]
    have K2 : am_u (am_u (am_u (am_u (am_u I2 (t + 1) n (nn q)) (t + 3) n (-1)) (t + 4) n (nn S)) t 0 (nn (n + 1))) (t + 2) n (-1) (b + 2) q = nn (qc q) := by rw [K1 _ (by omega), e2 _ (by omega) (by omega), eqc]
    have K3 : am_u (am_u (am_u (am_u (am_u I2 (t + 1) n (nn q)) (t + 3) n (-1)) (t + 4) n (nn S)) t 0 (nn (n + 1))) (t + 2) n (-1) (b + 3) q = nn (ys q) := by rw [K1 _ (by omega), e2 _ (by omega) (by omega), eys]
    have E1 := eX4_await (d := d) (L := L) (I := am_u (am_u (am_u (am_u (am_u I2 (t + 1) n (nn q)) (t + 3) n (-1)) (t + 4) n (nn S)) t 0 (nn (n + 1))) (t + 2) n (-1)) hk (show w < 15 by omega) Kk (nn (nots S (ys q))) (nn (l - qc q)) (nn n)
    refine ⟨_, st71 _ (by
      rw [em]
      refine bX4_plantNode_71 ot t1 ta1 (nn_in (by omega) hn) t3 ta3 (nn_in (by omega) hn) t4 ta4 (nn_in (by omega) hn) (fun _ => ?_) (fun h => absurd h (nn_none (by omega)))
      rw [nn_nat (show n < 2147483648 by omega), nn_s1]
      refine bX4_plantNode_123 ot t2 ta2 (nn_in (by omega) hn) ob s5 b2 (nn_in (by omega) (by omega)) s6 b3 (nn_in (by omega) (by omega)) o (Nat.zero_le _) (Nat.zero_le _) (by
        rw [nn_nat (show n < 2147483648 by omega), nn_nat (show q < 2147483648 by omega), K2, K3, nn_andn, nn_sub hql]
        exact E1) ?_
      rw [nn_nat (show n < 2147483648 by omega), nn_nat (show q < 2147483648 by omega), K2, nn_sub hql]
      have E2 := eX4_await (d := d) (L := L) (I := am_u (am_u (am_u (am_u (am_u (am_u (am_u (am_u (am_u I2 (t + 1) n (nn q)) (t + 3) n (-1)) (t + 4) n (nn S)) t 0 (nn (n + 1))) (t + 2) n (-1)) (k + 5) w (nn (nots S (ys q)))) (k + 6) w (nn (l - qc q))) (k + 7) w (nn n)) k 7 (nn (w + 1))) hk (show w + 1 < 15 by omega) (by rw [am_u_at, if_pos ⟨rfl, rfl⟩]) (nn (S &&& ys q)) (nn (l - qc q)) (-1)
      refine bX4_plantNode_161 ob s6 b3 (nn_in (by omega) (by omega)) o (Nat.zero_le _) (Nat.zero_le _) (by
        rw [nn_nat (show q < 2147483648 by omega), am_u_ne (by omega), am_u_ne (by omega), am_u_ne (by omega), am_u_ne (by omega), K3, nn_and]
        exact E2) ?_
      refine bX4_plantNode_178 ?_
      exact ⟨rfl, rfl, rfl⟩), fun c c1 c2 c3 c4 c5 => ?_, fun j j1 j2 => ⟨?_, ?_, ?_, ?_⟩, ?_, ?_, ?_, fun j hj => ⟨?_, ?_, ?_⟩, Or.inr ⟨q, hbq, hqQ, hok, hql, ?_, ?_, ?_, ?_, ?_, ?_, ?_, ?_, ?_⟩⟩
    · rw [am_u_ne c1, am_u_ne c4, am_u_ne c3, am_u_ne c2, am_u_ne c1, am_u_ne c4, am_u_ne c3, am_u_ne c2, K1 c c5, e2 c c1 (by omega)]
    · simp (disch := omega) only [and_self, and_true, true_and, and_false, false_and, if_true, if_false, am_cI_at, am_cL_at, am_u_at, am_ul_at, am_mI_at, if_pos, if_neg, c0, c6, c8, c15, Nat.zero_add, Nat.sub_zero]
      rw [e2 _ (by omega) (by omega)]
    · simp (disch := omega) only [and_self, and_true, true_and, and_false, false_and, if_true, if_false, am_cI_at, am_cL_at, am_u_at, am_ul_at, am_mI_at, if_pos, if_neg, c0, c6, c8, c15, Nat.zero_add, Nat.sub_zero]
      rw [e2 _ (by omega) (by omega)]
    · simp (disch := omega) only [and_self, and_true, true_and, and_false, false_and, if_true, if_false, am_cI_at, am_cL_at, am_u_at, am_ul_at, am_mI_at, if_pos, if_neg, c0, c6, c8, c15, Nat.zero_add, Nat.sub_zero]
      rw [e2 _ (by omega) (by omega)]
    · simp (disch := omega) only [and_self, and_true, true_and, and_false, false_and, if_true, if_false, am_cI_at, am_cL_at, am_u_at, am_ul_at, am_mI_at, if_pos, if_neg, c0, c6, c8, c15, Nat.zero_add, Nat.sub_zero]
      exact e2t j j2
    · simp (disch := omega) only [and_self, and_true, true_and, and_false, false_and, if_true, if_false, am_cI_at, am_cL_at, am_u_at, am_ul_at, am_mI_at, if_pos, if_neg, c0, c6, c8, c15, Nat.zero_add, Nat.sub_zero]
    · simp (disch := omega) only [and_self, and_true, true_and, and_false, false_and, if_true, if_false, am_cI_at, am_cL_at, am_u_at, am_ul_at, am_mI_at, if_pos, if_neg, c0, c6, c8, c15, Nat.zero_add, Nat.sub_zero]
    · simp (disch := omega) only [and_self, and_true, true_and, and_false, false_and, if_true, if_false, am_cI_at, am_cL_at, am_u_at, am_ul_at, am_mI_at, if_pos, if_neg, c0, c6, c8, c15, Nat.zero_add, Nat.sub_zero]
    · simp (disch := omega) only [and_self, and_true, true_and, and_false, false_and, if_true, if_false, am_cI_at, am_cL_at, am_u_at, am_ul_at, am_mI_at, if_pos, if_neg, c0, c6, c8, c15, Nat.zero_add, Nat.sub_zero]
      rw [e2 _ (by omega) (by omega)]
    · simp (disch := omega) only [and_self, and_true, true_and, and_false, false_and, if_true, if_false, am_cI_at, am_cL_at, am_u_at, am_ul_at, am_mI_at, if_pos, if_neg, c0, c6, c8, c15, Nat.zero_add, Nat.sub_zero]
      rw [e2 _ (by omega) (by omega)]
    · simp (disch := omega) only [and_self, and_true, true_and, and_false, false_and, if_true, if_false, am_cI_at, am_cL_at, am_u_at, am_ul_at, am_mI_at, if_pos, if_neg, c0, c6, c8, c15, Nat.zero_add, Nat.sub_zero]
      rw [e2 _ (by omega) (by omega)]
    · simp (disch := omega) only [and_self, and_true, true_and, and_false, false_and, if_true, if_false, am_cI_at, am_cL_at, am_u_at, am_ul_at, am_mI_at, if_pos, if_neg, c0, c6, c8, c15, Nat.zero_add, Nat.sub_zero]
    · simp (disch := omega) only [and_self, and_true, true_and, and_false, false_and, if_true, if_false, am_cI_at, am_cL_at, am_u_at, am_ul_at, am_mI_at, if_pos, if_neg, c0, c6, c8, c15, Nat.zero_add, Nat.sub_zero]
    · simp (disch := omega) only [and_self, and_true, true_and, and_false, false_and, if_true, if_false, am_cI_at, am_cL_at, am_u_at, am_ul_at, am_mI_at, if_pos, if_neg, c0, c6, c8, c15, Nat.zero_add, Nat.sub_zero]
    · simp (disch := omega) only [and_self, and_true, true_and, and_false, false_and, if_true, if_false, am_cI_at, am_cL_at, am_u_at, am_ul_at, am_mI_at, if_pos, if_neg, c0, c6, c8, c15, Nat.zero_add, Nat.sub_zero]
    · simp (disch := omega) only [and_self, and_true, true_and, and_false, false_and, if_true, if_false, am_cI_at, am_cL_at, am_u_at, am_ul_at, am_mI_at, if_pos, if_neg, c0, c6, c8, c15, Nat.zero_add, Nat.sub_zero]
    · simp (disch := omega) only [and_self, and_true, true_and, and_false, false_and, if_true, if_false, am_cI_at, am_cL_at, am_u_at, am_ul_at, am_mI_at, if_pos, if_neg, c0, c6, c8, c15, Nat.zero_add, Nat.sub_zero]
    · simp (disch := omega) only [and_self, and_true, true_and, and_false, false_and, if_true, if_false, am_cI_at, am_cL_at, am_u_at, am_ul_at, am_mI_at, if_pos, if_neg, c0, c6, c8, c15, Nat.zero_add, Nat.sub_zero]
    · simp (disch := omega) only [and_self, and_true, true_and, and_false, false_and, if_true, if_false, am_cI_at, am_cL_at, am_u_at, am_ul_at, am_mI_at, if_pos, if_neg, c0, c6, c8, c15, Nat.zero_add, Nat.sub_zero]
    · simp (disch := omega) only [and_self, and_true, true_and, and_false, false_and, if_true, if_false, am_cI_at, am_cL_at, am_u_at, am_ul_at, am_mI_at, if_pos, if_neg, c0, c6, c8, c15, Nat.zero_add, Nat.sub_zero]
end C8
