/-! CONTRACTS OF THE SOLVER: solve, the best toll -/
/-- what solve leaves: ranks of all that is needed, weights, tolls -/
def slv (I : am_I) (L : am_L) (k Q T : Nat) (qc ys tl ct : Nat → Nat) (fb : Nat → Bool) (nd : Nat → Nat) : Prop :=
  (∀ S, 0 < S → S < 2 ^ T → ∀ q, q < Q → oks ys fb q S = true → ∀ l, (nd S).testBit (l + qc q) = true → (nd (S &&& ys q)).testBit l = true ∧ (nd (nots S (ys q))).testBit l = true) ∧
  (∀ S, 0 < S → S < 2 ^ T → ∀ l, l ≤ 30 → (nd S).testBit l = true → L (k + 1) (S * 31 + l) = ll (bB Q T qc ys tl ct fb S l)) ∧
  (∀ S, S < 2 ^ T → I (k + 3) S = nn (wt T ct S)) ∧ ∀ t, t < T → I (k + 4) t = nn (same T tl t)
section C6
variable {d : Nat} {Γ : am_G} {I : am_I} {L : am_L} {b k x Q T : Nat} {qc ys tl ct : Nat → Nat}
theorem eX4_solve (hk : soF Γ k) (hb : stF Γ b) (hx : gaF Γ x) (hd : b + 36 ≤ k ∨ k + 8 ≤ b) (hdx : b ≤ x ∧ x + 7 ≤ b + 36) (hs : sda I b x Q T qc ys tl ct) (F : Int32) {lims : Nat} (hl : lims < 2147483648) :
    ∃ I' L', am_E m_X4_solve (d + 1) 0 0 [.ref k, .ref b, .ref x, .int (nn lims), .int F] Γ I L (.inl none) I' L' ∧ (∃ nd, (∀ l, lims.testBit l = true → (nd (2 ^ T - 1)).testBit l = true) ∧ slv I' L' k Q T qc ys tl ct (fbq F) nd) ∧
      (∀ c, c ≠ k + 2 → c ≠ k + 3 → c ≠ k + 4 → I' c = I c) ∧ ∀ c, c ≠ k + 1 → L' c = L c := by
  obtain ⟨o, r0, r1, r2, r3, r4, r5, r6, a1, a2, a3, a4, a5, a6, a7⟩ := id hk
  obtain ⟨ob, s4, s5, s6, s7, s8, s9, s10, b1, b2, b3, b4, b5, b6, o7, hg⟩ := id hb
  obtain ⟨hQ, hT, hQ6, hT0, hT8, hq, ht⟩ := id hs
  have p8 := two_le8 hT8
  have pp : 0 < 2 ^ T := Nat.two_pow_pos T
  refine am_ofX rfl rfl rfl (Nat.le_of_ble_eq_true rfl) ?_
  obtain ⟨Iw, hEw, hw, hfw⟩ := eX4_weighSets (d := d) (I := I) (L := L) (ct := ct) hk hx (by omega) hT8 (fun t h => (ht t h).2.2.1)
  have hsw : sda Iw b x Q T qc ys tl ct := hs.to (hfw _ (by omega)) (hfw _ (by omega)) (hfw _ (by omega)) (hfw _ (by omega)) (hfw _ (by omega))
  obtain ⟨Ig, hEg, hm, hfg⟩ := eX4_groupTolls (d := d) (I := Iw) (L := L) (tl := tl) hk hb hd hT8 hsw.2.1 (fun t h => ⟨(hsw.2.2.2.2.2.2 t h).1, (ht t h).2.1⟩)
  have hsg : sda Ig b x Q T qc ys tl ct := hsw.to (hfg _ (by omega)) (hfg _ (by omega)) (hfg _ (by omega)) (hfg _ (by omega)) (hfg _ (by omega))
  have two : ∀ (I1 : am_I) (nd : Nat → Nat), ndR I1 k nd → (∀ S, 0 < S → S < 2 ^ T → ∀ q, q < Q → oks ys (fbq F) q S = true → ∀ l, (nd S).testBit (l + qc q) = true → (nd (S &&& ys q)).testBit l = true ∧ (nd (nots S (ys q))).testBit l = true) → (∀ c, c ≠ k + 2 → I1 c = Ig c) →
      ∃ L', am_W m_X4_solve (d + 1) 0 0 false 0 0 60 [(0, .ref k), (1, .ref b), (2, .ref x), (3, .int (nn lims)), (4, .int F), (5, .int (nn (2 ^ T - 1))), (6, .int (nn 0))] [] Γ I1 L (am_R (.inl none) I1 L') ∧ (∀ S, 0 < S → S < 2 ^ T → ∀ l, l ≤ 30 → (nd S).testBit l = true → L' (k + 1) (S * 31 + l) = ll (bB Q T qc ys tl ct (fbq F) S l)) ∧ ∀ c, c ≠ k + 1 → L' c = L c := by
    intro I1 nd hn hcl hf1
    have hs1 : sda I1 b x Q T qc ys tl ct := hsg.to (hf1 _ (by omega)) (hf1 _ (by omega)) (hf1 _ (by omega)) (hf1 _ (by omega)) (hf1 _ (by omega))
    have hw1 : ∀ S, S < 2 ^ T → I1 (k + 3) S = nn (wt T ct S) := fun S hS => by rw [hf1 _ (by omega), hfg _ (by omega)]; exact hw S hS
    have hm1 : ∀ t, t < T → I1 (k + 4) t = nn (same T tl t) := fun t h => by rw [hf1 _ (by omega)]; exact hm t h
    have loop := nn_loopc (fun s => 0 < s → ∀ L1 : am_L, (∀ S, 0 < S → S < s → ∀ l, l ≤ 30 → (nd S).testBit l = true → L1 (k + 1) (S * 31 + l) = ll (bB Q T qc ys tl ct (fbq F) S l)) → (∀ c, c ≠ k + 1 → L1 c = L c) →
      ∃ L', am_W m_X4_solve (d + 1) 0 0 false 0 0 63 [(0, .ref k), (1, .ref b), (2, .ref x), (3, .int (nn lims)), (4, .int F), (5, .int (nn (2 ^ T - 1))), (6, .int (nn s))] [] Γ I1 L1 (am_R (.inl none) I1 L') ∧ (∀ S, 0 < S → S < 2 ^ T → ∀ l, l ≤ 30 → (nd S).testBit l = true → L' (k + 1) (S * 31 + l) = ll (bB Q T qc ys tl ct (fbq F) S l)) ∧ ∀ c, c ≠ k + 1 → L' c = L c) (2 ^ T) 1 (by omega) ?_ (fun s hs ih => ?_)
    · obtain ⟨L', hW, hP⟩ := loop (by omega) L (fun S h1 h2 => absurd h1 (by omega)) (fun _ _ => rfl)
      exact ⟨L', bX4_solve_60 hW, hP⟩
    · intro _ L1 h1 h2
      refine ⟨L1, ?_, h1, h2⟩
      refine bX4_solve_63 (fun _ => ?_) (fun h => absurd ((nn_lt (by omega) (by omega)).mpr (by omega)) h)
      refine bX4_solve_102 ?_
      exact ⟨rfl, rfl, rfl⟩
    · intro s0 L1 h1 h2
      have ns : (nd s = 0) ∨ ¬ nd s = 0 := by omega
      rcases ns with hz | hz
      · obtain ⟨L', hW, hP⟩ := ih (by omega) L1 (fun S h3 h4 l hl hb => by
          by_cases he : S < s
          · exact h1 S h3 he l hl hb
          · obtain rfl : S = s := by omega
            rw [hz, Nat.zero_testBit] at hb; cases hb) h2
        refine ⟨L', ?_, hP⟩
        refine bX4_solve_63 (fun h => absurd h (by rw [nn_lt (by omega) (by omega)]; omega)) (fun _ => ?_)
        refine bX4_solve_70 o r1 a2 (nn_in (by omega) (by omega)) (fun _ => ?_) (fun h => absurd (by rw [nn_nat (by omega), (hn s (by omega)).1, hz]; rfl) h)
        refine bX4_solve_96 ?_
        rw [nl_1, nn_add]
        exact hW
      · obtain ⟨L2, hE2, g1, g2⟩ := eX4_rankSet (d := d) (I := I1) (L := L1) hk hb hs1 F (S := s) (nd := nd) (by omega) hs hn hw1 (fun q l hqQ hl30 hbt hok hql => by
          obtain ⟨c1, c2⟩ := hcl s (by omega) hs q hqQ hok (l - qc q) (by rw [Nat.sub_add_cancel hql]; exact hbt)
          obtain ⟨l1, l2, n1, n2⟩ := oks_lt ys (fbq F) hok
          exact ⟨h1 _ (by omega) l1 _ (by omega) c1, h1 _ (by omega) l2 _ (by omega) c2⟩)
        obtain ⟨L', hW, hP⟩ := ih (by omega) L2 (fun S h3 h4 l hl hb => by
          by_cases he : S < s
          · rw [g2 _ _ (fun z => by omega)]; exact h1 S h3 he l hl hb
          · obtain rfl : S = s := by omega
            exact g1 l hl hb) (fun c hc => funext fun j => by rw [g2 _ _ (fun z => hc z.1), h2 c hc])
        refine ⟨L', ?_, hP⟩
        refine bX4_solve_63 (fun h => absurd h (by rw [nn_lt (by omega) (by omega)]; omega)) (fun _ => ?_)
        refine bX4_solve_70 o r1 a2 (nn_in (by omega) (by omega)) (fun h => absurd h (by rw [nn_nat (by omega), (hn s (by omega)).1, nl_0, nn_eq (hn s (by omega)).2 (by decide)]; exact hz)) (fun _ => ?_)
        refine bX4_solve_80 o (Nat.zero_le _) (Nat.zero_le _) (eX4_fewestLeafErrors hk hb hs1 hs hw1 hm1) ?_
        refine bX4_solve_91 o (Nat.zero_le _) (Nat.zero_le _) hE2 ?_
        refine bX4_solve_96 ?_
        rw [nl_1, nn_add]
        exact hW
  have down : ∀ s, s ≤ 2 ^ T - 1 → ∀ (I1 : am_I) (nd1 : Nat → Nat), ndR I1 k nd1 → (∀ l, lims.testBit l = true → (nd1 (2 ^ T - 1)).testBit l = true) → (∀ S, s < S → S < 2 ^ T → ∀ q, q < Q → oks ys (fbq F) q S = true → ∀ l, (nd1 S).testBit (l + qc q) = true → (nd1 (S &&& ys q)).testBit l = true ∧ (nd1 (nots S (ys q))).testBit l = true) → (∀ c, c ≠ k + 2 → I1 c = Ig c) →
      ∃ I' L', am_W m_X4_solve (d + 1) 0 0 false 0 0 40 [(0, .ref k), (1, .ref b), (2, .ref x), (3, .int (nn lims)), (4, .int F), (5, .int (nn (2 ^ T - 1))), (6, .int (nn s))] [] Γ I1 L (am_R (.inl none) I' L') ∧ (∃ nd, (∀ l, lims.testBit l = true → (nd (2 ^ T - 1)).testBit l = true) ∧ slv I' L' k Q T qc ys tl ct (fbq F) nd) ∧
      (∀ c, c ≠ k + 2 → c ≠ k + 3 → c ≠ k + 4 → I' c = I c) ∧ ∀ c, c ≠ k + 1 → L' c = L c := by
    intro s
    induction s with
    | zero =>
      intro _ I1 nd1 h1 h2 h3 h4
      obtain ⟨L', hW, hP, hF⟩ := two I1 nd1 h1 (fun S h0 => h3 S h0) h4
      refine ⟨I1, L', ?_, ⟨nd1, h2, fun S h0 => h3 S h0, hP, fun S hS => by rw [h4 _ (by omega), hfg _ (by omega)]; exact hw S hS, fun t h => by rw [h4 _ (by omega)]; exact hm t h⟩, fun c c1 c2 c3 => by rw [h4 c c1, hfg c c3, hfw c c2], hF⟩
      refine bX4_solve_40 (fun _ => ?_) (fun h => absurd (by decide) h)
      exact hW
    | succ s ih =>
      intro hs' I1 nd1 h1 h2 h3 h4
      obtain ⟨I2, hE, nd2, n1, n2, n3, n4, n5⟩ := eX4_needChildren (d := d) (I := I1) (L := L) hk hb hd (hsg.to (I' := I1) (h4 _ (by omega)) (h4 _ (by omega)) (h4 _ (by omega)) (h4 _ (by omega)) (h4 _ (by omega))) F (S := s + 1) (by omega) (by omega) h1
      obtain ⟨I', L', hW, hP⟩ := ih (by omega) I2 nd2 n1 (fun l hl => n2 _ _ (h2 l hl)) (fun S hS hS2 q hqQ hok l hbt => by
        rw [n3 S (by omega)] at hbt
        by_cases he : S = s + 1
        · subst he
          exact n4 q hqQ hok l hbt
        · obtain ⟨c1, c2⟩ := h3 S (by omega) hS2 q hqQ hok l hbt
          exact ⟨n2 _ _ c1, n2 _ _ c2⟩) (fun c hc => by rw [n5 c hc, h4 c hc])
      refine ⟨I', L', ?_, hP⟩
      refine bX4_solve_40 (fun h => absurd h (by rw [nl_0, nn_le (by omega) (by decide)]; omega)) (fun _ => ?_)
      refine bX4_solve_45 o (Nat.zero_le _) (Nat.zero_le _) hE ?_
      refine bX4_solve_54 ?_
      rw [show nn (s + 1) + -1 = nn s from by rw [← nn_add, Int32.add_assoc]; exact Int32.add_zero _]
      exact hW
  have eA : ∀ j, j ≠ 2 ^ T - 1 → am_u (am_mI Ig (k + 2) (fun _ => 0) 256) (k + 2) (2 ^ T - 1) (nn lims) (k + 2) j = am_mI Ig (k + 2) (fun _ => 0) 256 (k + 2) j := fun j hj => by rw [am_u_at, if_neg (fun z => hj z.2)]
  obtain ⟨I', L', hW, hP⟩ := down (2 ^ T - 1) (Nat.le_refl _) (am_u (am_mI Ig (k + 2) (fun _ => 0) 256) (k + 2) (2 ^ T - 1) (nn lims)) (fun S => if S = 2 ^ T - 1 then lims else 0) (fun S hS => by
      show _ = nn (if S = 2 ^ T - 1 then lims else 0) ∧ (if S = 2 ^ T - 1 then lims else 0) < 2147483648
      by_cases he : S = 2 ^ T - 1
      · rw [if_pos he, am_u_at, if_pos ⟨rfl, he⟩]
        exact ⟨rfl, hl⟩
      · rw [if_neg he, eA S he, am_mI_at, if_pos ⟨rfl, hS⟩]
        exact ⟨rfl, by decide⟩) (fun l hl => by show (if _ then _ else _ : Nat).testBit l = true; rw [if_pos rfl]; exact hl) (fun S h1 h2 => absurd h1 (by omega)) (fun c hc => by
      rw [am_u_ne hc]
      funext j
      rw [am_mI_at, if_neg (fun z => hc z.1)])
  refine ⟨I', L', ?_, hP⟩
  refine bX4_solve_0 ob (Nat.zero_le _) (Nat.zero_le _) (eX5_allTypes hb hT hT8) ?_
  refine bX4_solve_4 ob o (Nat.zero_le _) (Nat.zero_le _) (by rw [hT]; exact hEw) ?_
  refine bX4_solve_15 o (Nat.zero_le _) (Nat.zero_le _) hEg ?_
  refine bX4_solve_20 o r1 (Nat.zero_le _) (Nat.zero_le _) (eJ7_fill a2 (by decide) 0) ?_
  refine bX4_solve_28 o r1 a2 (nn_in (by omega) (by omega)) ?_
  rw [nn_nat (by omega)]
  exact hW
end C6
/-- v is the best toll for a leaf of the set -/
def isBT (T : Nat) (tl ct : Nat → Nat) (S v : Nat) : Prop := (∃ t, t < T ∧ S.testBit t = true ∧ tl t = v) ∧ ∀ u, u < T → S.testBit u = true → wtl T tl ct S (tl u) < wtl T tl ct S v ∨ (wtl T tl ct S (tl u) = wtl T tl ct S v ∧ v ≤ tl u)
theorem isBT_uq {T : Nat} {tl ct : Nat → Nat} {S v v' : Nat} (h : isBT T tl ct S v) (h' : isBT T tl ct S v') : v = v' := by
  obtain ⟨⟨t, t1, t2, t3⟩, h2⟩ := h
  obtain ⟨⟨t', t1', t2', t3'⟩, h2'⟩ := h'
  have a := h2 t' t1' t2'
  have b := h2' t t1 t2
  rw [t3'] at a
  rw [t3] at b
  omega
noncomputable def bt (T : Nat) (tl ct : Nat → Nat) (S : Nat) : Nat := @dite Nat (∃ v, isBT T tl ct S v) (Classical.propDecidable _) (fun h => h.choose) (fun _ => 0)
theorem bt_eq {T : Nat} {tl ct : Nat → Nat} {S v : Nat} (h : isBT T tl ct S v) : bt T tl ct S = v := by
  have hx : ∃ v, isBT T tl ct S v := ⟨v, h⟩
  unfold bt
  rw [dif_pos hx]
  exact isBT_uq hx.choose_spec h
theorem bit_ex {a : Nat} (h : a ≠ 0) : ∃ i, a.testBit i = true := by
  refine Classical.byContradiction (fun hn => h (Nat.eq_of_testBit_eq (fun i => ?_)))
  rw [Nat.zero_testBit]
  cases hb : a.testBit i
  · rfl
  · exact absurd ⟨i, hb⟩ hn
theorem bit_nz {a i : Nat} (h : a.testBit i = true) : a ≠ 0 := fun z => by rw [z, Nat.zero_testBit] at h; cases h
theorem bit_dom {a n i : Nat} (h : a < 2 ^ n) (hb : a.testBit i = true) : i < n := by
  refine Classical.byContradiction (fun hn => ?_)
  have := Nat.testBit_lt_two_pow (x := a) (i := i) (Nat.lt_of_lt_of_le h (Nat.pow_le_pow_right (by decide) (by omega)))
  rw [this] at hb; cases hb
theorem same_bit (T : Nat) (tl : Nat → Nat) (t i : Nat) : (same T tl t).testBit i = (decide (i < T) && decide (tl i = tl t)) := msk_bit _ i T
section C7
variable {d : Nat} {Γ : am_G} {I : am_I} {L : am_L} {b k x Q T : Nat} {qc ys tl ct : Nat → Nat}
theorem eX4_bestToll (hk : soF Γ k) (hb : stF Γ b) (hs : sda I b x Q T qc ys tl ct) {S : Nat} (h0 : 0 < S) (hS : S < 2 ^ T) (hw : ∀ S, S < 2 ^ T → I (k + 3) S = nn (wt T ct S)) (hm : ∀ t, t < T → I (k + 4) t = nn (same T tl t)) :
    am_E m_X4_bestToll d 0 0 [.ref k, .ref b, .int (nn S)] Γ I L (.inl (some (.int (nn (bt T tl ct S))))) I L ∧ isBT T tl ct S (bt T tl ct S) := by
  obtain ⟨o, r0, r1, r2, r3, r4, r5, r6, a1, a2, a3, a4, a5, a6, a7⟩ := id hk
  obtain ⟨ob, s4, s5, s6, s7, s8, s9, s10, b1, b2, b3, b4, b5, b6, o7, hg⟩ := id hb
  obtain ⟨hQ, hT, hQ6, hT0, hT8, hq, ht⟩ := id hs
  have p8 := two_le8 hT8
  have w8 := wt_le (T := T) (ct := ct) hT8 (fun t h => (ht t h).2.2.2)
  have wl : ∀ v, wtl T tl ct S v ≤ 79992 := fun v => Nat.le_trans (wtl_le S v) (w8 S)
  have loop := nn_loop (fun t => ∀ toll wgt : Int32, ((toll = -1 ∧ wgt = 0 ∧ ∀ u, u < t → S &&& same T tl u = 0) ∨ (∃ v, v ≤ 99 ∧ toll = nn v ∧ wgt = nn (wtl T tl ct S v) ∧ (∃ u, u < T ∧ S.testBit u = true ∧ tl u = v) ∧ ∀ u, u < t → S &&& same T tl u ≠ 0 → wtl T tl ct S (tl u) < wtl T tl ct S v ∨ (wtl T tl ct S (tl u) = wtl T tl ct S v ∧ v ≤ tl u))) →
      ∃ v, isBT T tl ct S v ∧ am_W m_X4_bestToll d 0 0 false 0 0 8 [(0, .ref k), (1, .ref b), (2, .int (nn S)), (3, .int toll), (4, .int wgt), (5, .int (nn t))] [] Γ I L (am_R (.inl (some (.int (nn v)))) I L)) T ?_ (fun t htT ih => ?_)
  · obtain ⟨v, hv, hW⟩ := loop (-1) 0 (Or.inl ⟨rfl, rfl, fun u h => absurd h (Nat.not_lt_zero _)⟩)
    rw [bt_eq hv]
    refine ⟨am_ofE rfl rfl rfl (Nat.le_of_ble_eq_true rfl) ?_, hv⟩
    exact bX4_bestToll_0 hW
  · intro toll wgt hst
    rcases hst with ⟨-, -, h⟩ | ⟨v, v99, rfl, rfl, hu, hv⟩
    · obtain ⟨i, hi⟩ := bit_ex (Nat.ne_of_gt h0)
      have iT := bit_dom hS hi
      have := h i iT
      have hb : (S &&& same T tl i).testBit i = true := by rw [Nat.testBit_and, same_bit, hi, decide_eq_true iT, decide_eq_true rfl]; rfl
      exact absurd this (bit_nz hb)
    · refine ⟨v, ⟨hu, fun u uT hub => hv u uT ?_⟩, ?_⟩
      · exact bit_nz (i := u) (by rw [Nat.testBit_and, same_bit, hub, decide_eq_true uT, decide_eq_true rfl]; rfl)
      · refine bX4_bestToll_8 ob (fun _ => ?_) (fun h => absurd h (by rw [hT]; simp))
        refine bX4_bestToll_108 ?_
        exact ⟨rfl, rfl, rfl⟩
  · intro toll wgt hst
    have hle : S &&& same T tl t ≤ S := Nat.and_le_left
    have et : I (b + 5) (nn t).toNatClampNeg = nn (tl t) := by rw [nn_nat (by omega)]; exact (ht t htT).1
    have t99 := (ht t htT).2.1
    have ei : nn S &&& I (k + 4) (nn t).toNatClampNeg = nn (S &&& same T tl t) := by rw [nn_nat (by omega), hm t htT, nn_and]
    have ew : I (k + 3) (nn (S &&& same T tl t)).toNatClampNeg = nn (wtl T tl ct S (tl t)) := by rw [nn_nat (by omega), hw _ (by omega), wt_same]
    have wl1 := wl (tl t)
    -- from the loop's head to the flag
    have s56 : ∀ v : Nat, am_W m_X4_bestToll d 0 0 false 0 0 56 [(0, .ref k), (1, .ref b), (2, .int (nn S)), (3, .int toll), (4, .int wgt), (5, .int (nn t)), (6, .int (nn (S &&& same T tl t)))] [.int (bi (decide (nn (wtl T tl ct S (tl t)) = wgt) && decide (nn (tl t) < toll)))] Γ I L (am_R (.inl (some (.int (nn v)))) I L) →
        am_W m_X4_bestToll d 0 0 false 0 0 8 [(0, .ref k), (1, .ref b), (2, .int (nn S)), (3, .int toll), (4, .int wgt), (5, .int (nn t))] [] Γ I L (am_R (.inl (some (.int (nn v)))) I L) := by
      intro v hW
      refine bX4_bestToll_8 ob (fun h => absurd h (by rw [hT, nn_le (by omega) (by omega)]; omega)) (fun _ => ?_)
      refine bX4_bestToll_17 o r3 a4 (nn_in (by omega) (by omega)) r2 a3 (by rw [ei]; exact nn_in (by omega) (by omega)) (fun h => ?_) (fun h => ?_)
      · rw [ei, ew] at h
        rw [ei]
        refine bX4_bestToll_55 ?_
        rw [decide_eq_false h] at hW
        exact hW
      · rw [ei, ew] at h
        rw [ei]
        refine bX4_bestToll_40 ob s8 b5 (nn_in (by omega) (by omega)) (fun h2 => ?_) (fun h2 => ?_)
        · rw [et] at h2
          refine bX4_bestToll_55 ?_
          rw [decide_eq_false (Int32.not_lt.mpr h2), Bool.and_false] at hW
          exact hW
        · rw [et] at h2
          refine bX4_bestToll_51 ?_
          rw [decide_eq_true h, decide_eq_true (Int32.not_le.mp h2)] at hW
          exact hW
    have keep : ((toll = -1 ∧ wgt = 0 ∧ ∀ u, u < t + 1 → S &&& same T tl u = 0) ∨ (∃ v, v ≤ 99 ∧ toll = nn v ∧ wgt = nn (wtl T tl ct S v) ∧ (∃ u, u < T ∧ S.testBit u = true ∧ tl u = v) ∧ ∀ u, u < t + 1 → S &&& same T tl u ≠ 0 → wtl T tl ct S (tl u) < wtl T tl ct S v ∨ (wtl T tl ct S (tl u) = wtl T tl ct S v ∧ v ≤ tl u))) →
        ∃ v, isBT T tl ct S v ∧ ∀ fl : Int32, am_W m_X4_bestToll d 0 0 false 0 0 102 [(0, .ref k), (1, .ref b), (2, .int (nn S)), (3, .int toll), (4, .int wgt), (5, .int (nn t)), (6, .int (nn (S &&& same T tl t))), (7, .int fl)] [] Γ I L (am_R (.inl (some (.int (nn v)))) I L) := by
      intro h
      obtain ⟨v, hv, hW⟩ := ih toll wgt h
      refine ⟨v, hv, fun fl => ?_⟩
      refine bX4_bestToll_102 ?_
      refine aw_take 6 ?_
      rw [nl_1, nn_add]
      exact hW
    by_cases hz : S &&& same T tl t = 0
    · obtain ⟨v, hv, hW⟩ := keep (by
        rcases hst with ⟨e1, e2, h⟩ | ⟨v, v99, e1, e2, hu, hv⟩
        · refine Or.inl ⟨e1, e2, fun u hu => ?_⟩
          by_cases he : u < t
          · exact h u he
          · obtain rfl : u = t := by omega
            exact hz
        · refine Or.inr ⟨v, v99, e1, e2, hu, fun u hu2 hne => ?_⟩
          by_cases he : u < t
          · exact hv u he hne
          · obtain rfl : u = t := by omega
            exact absurd hz hne)
      refine ⟨v, hv, s56 v ?_⟩
      refine bX4_bestToll_56 (fun _ => hW _) (fun h => absurd (by rw [hz]; rfl) h)
    · -- the new toll
      have hbr : ∃ u, u < T ∧ S.testBit u = true ∧ tl u = tl t := by
        obtain ⟨i, hi⟩ := bit_ex hz
        rw [Nat.testBit_and, same_bit, Bool.and_eq_true, Bool.and_eq_true, decide_eq_true_eq, decide_eq_true_eq] at hi
        exact ⟨i, hi.2.1, hi.1, hi.2.2⟩
      have take : (∀ u, u < t → S &&& same T tl u ≠ 0 → wtl T tl ct S (tl u) < wtl T tl ct S (tl t) ∨ (wtl T tl ct S (tl u) = wtl T tl ct S (tl t) ∧ tl t ≤ tl u)) →
          ∃ v, isBT T tl ct S v ∧ ∀ fl : Int32, am_W m_X4_bestToll d 0 0 false 0 0 85 [(0, .ref k), (1, .ref b), (2, .int (nn S)), (3, .int toll), (4, .int wgt), (5, .int (nn t)), (6, .int (nn (S &&& same T tl t))), (7, .int fl)] [] Γ I L (am_R (.inl (some (.int (nn v)))) I L) := by
        intro h
        obtain ⟨v, hv, hW⟩ := ih (nn (tl t)) (nn (wtl T tl ct S (tl t))) (Or.inr ⟨tl t, t99, rfl, rfl, hbr, fun u hu hne => by
          by_cases he : u < t
          · exact h u he hne
          · obtain rfl : u = t := by omega
            exact Or.inr ⟨rfl, Nat.le_refl _⟩⟩)
        refine ⟨v, hv, fun fl => ?_⟩
        refine bX4_bestToll_85 ob s8 b5 (nn_in (by omega) (by omega)) o r2 a3 (nn_in (by omega) (by omega)) ?_
        refine bX4_bestToll_102 ?_
        refine aw_take 6 ?_
        rw [et, ew, nl_1, nn_add]
        exact hW
      rcases hst with ⟨e1, e2, h⟩ | ⟨v0, v99, e1, e2, hu, hv⟩
      · obtain ⟨v, hv, hW⟩ := take (fun u hu hne => absurd (h u hu) hne)
        refine ⟨v, hv, s56 v ?_⟩
        refine bX4_bestToll_56 (fun h => absurd h (by rw [nl_0, nn_eq (by omega) (by decide)]; exact hz)) (fun _ => ?_)
        refine bX4_bestToll_63 (fun _ => hW _) (fun h => absurd e1 h)
      · have wl0 := wl v0
        have et1 : ¬ toll = -1 := by rw [e1]; exact nn_none (by omega)
        by_cases g1 : wtl T tl ct S v0 < wtl T tl ct S (tl t)
        · obtain ⟨v, hv, hW⟩ := take (fun u hu hne => by
            rcases hv u hu hne with z | z
            · exact Or.inl (by omega)
            · exact Or.inl (by omega))
          refine ⟨v, hv, s56 v ?_⟩
          refine bX4_bestToll_56 (fun h => absurd h (by rw [nl_0, nn_eq (by omega) (by decide)]; exact hz)) (fun _ => ?_)
          refine bX4_bestToll_63 (fun h => absurd h et1) (fun _ => ?_)
          refine bX4_bestToll_68 o r2 a3 (nn_in (by omega) (by omega)) (fun _ => hW _) (fun h => absurd (by rw [ew, e2, nn_lt (by omega) (by omega)]; exact g1) h)
        · by_cases g2 : wtl T tl ct S (tl t) = wtl T tl ct S v0 ∧ tl t < v0
          · obtain ⟨v, hv, hW⟩ := take (fun u hu hne => by
              rcases hv u hu hne with z | z
              · exact Or.inl (by omega)
              · exact Or.inr (by omega))
            refine ⟨v, hv, s56 v ?_⟩
            refine bX4_bestToll_56 (fun h => absurd h (by rw [nl_0, nn_eq (by omega) (by decide)]; exact hz)) (fun _ => ?_)
            refine bX4_bestToll_63 (fun h => absurd h et1) (fun _ => ?_)
            refine bX4_bestToll_68 o r2 a3 (nn_in (by omega) (by omega)) (fun _ => hW _) (fun _ => ?_)
            refine bX4_bestToll_80 (fun h => absurd h ?_) (fun _ => hW _)
            rw [e1, e2, decide_eq_true (by rw [g2.1]), decide_eq_true (by rw [nn_lt (by omega) (by omega)]; exact g2.2)]
            decide
          · obtain ⟨v, hv, hW⟩ := keep (Or.inr ⟨v0, v99, e1, e2, hu, fun u hu2 hne => by
              by_cases he : u < t
              · exact hv u he hne
              · obtain rfl : u = t := by omega
                omega⟩)
            refine ⟨v, hv, s56 v ?_⟩
            refine bX4_bestToll_56 (fun h => absurd h (by rw [nl_0, nn_eq (by omega) (by decide)]; exact hz)) (fun _ => ?_)
            refine bX4_bestToll_63 (fun h => absurd h et1) (fun _ => ?_)
            refine bX4_bestToll_68 o r2 a3 (nn_in (by omega) (by omega)) (fun h => absurd h (by rw [ew, e2, nn_lt (by omega) (by omega)]; exact g1)) (fun _ => ?_)
            refine bX4_bestToll_80 (fun _ => hW _) (fun h => absurd ?_ h)
            rw [bi_z]
            rw [e1, e2, Bool.and_eq_false_iff]
            by_cases g3 : wtl T tl ct S (tl t) = wtl T tl ct S v0
            · right
              rw [decide_eq_false_iff_not, nn_lt (by omega) (by omega)]
              omega
            · left
              rw [decide_eq_false_iff_not, nn_eq (by omega) (by omega)]
              exact g3
end C7
