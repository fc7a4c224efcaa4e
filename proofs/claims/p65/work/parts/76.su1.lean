/-! THE TEXT'S SETUP: rows -/
/-- a name laid at a -/
def lyW (w : Nat → Int32) (a : Nat) (B : Nat → Nat) (s len : Nat) : Nat → Int32 := fun j => if j = a then nn len else if a + 1 ≤ j ∧ j < a + 1 + len then nn (B (s + (j - (a + 1)))) else w j
theorem lyW_out {w : Nat → Int32} {a s len j : Nat} {B : Nat → Nat} (h : j < a ∨ a + 1 + len ≤ j) : lyW w a B s len j = w j := by
  unfold lyW
  rw [if_neg (by omega), if_neg (by omega)]
theorem lyW_nm {w w' : Nat → Int32} {a s len : Nat} {B : Nat → Nat} (h6 : len ≤ 6) (h1 : 0 < len) (hB : ∀ i, i < len → 97 ≤ B (s + i) ∧ B (s + i) ≤ 122) (e : ∀ i, i < 7 → w' (a + i) = lyW w a B s len (a + i)) : nmO w' a ∧ pnm w' a = ll (nmk B s len) := by
  have e0 : w' a = nn len := by
    have := e 0 (by decide)
    rw [Nat.add_zero] at this
    rw [this]
    unfold lyW
    rw [if_pos rfl]
  have ei : ∀ i, i < len → w' (a + 1 + i) = nn (B (s + i)) := fun i hi => by
    rw [Nat.add_assoc, e (1 + i) (by omega)]
    unfold lyW
    rw [if_neg (by omega), if_pos ⟨by omega, by omega⟩, show a + (1 + i) - (a + 1) = i by omega]
  have el : lnW w' a = len := by unfold lnW; rw [e0, nn_nat (by omega)]
  have et : ∀ i, i < len → ltW w' a i = B (s + i) := fun i hi => by
    have := hB i hi
    unfold ltW
    rw [ei i hi, nn_nat (by omega)]
  refine ⟨⟨by rw [el]; exact e0, by omega, by omega, fun i hi => ?_⟩, ?_⟩
  · rw [el] at hi
    rw [et i hi]
    exact ⟨ei i hi, hB i hi⟩
  · unfold pnm nmk
    rw [el]
    exact congrArg ll (nsum_congr _ (fun i hi => by rw [et i hi]))
theorem wfp_que {w w' : Nat → Int32} (hw : wfp w) (hT : vT w = 0) (hG : vG w = 0) (hQ : vQ w < 6) (e0 : w' 0 = nn (vQ w + 1)) (e : ∀ j, 1 ≤ j → j < 12 + vQ w * 8 → w' j = w j) {v : Nat} (hv : w' (12 + vQ w * 8) = nn v) (v1 : 1 ≤ v) (v9 : v ≤ 9) (hn : nmO w' (12 + vQ w * 8 + 1)) : wfp w' ∧ vQ w' = vQ w + 1 ∧ vT w' = 0 ∧ vG w' = 0 := by
  obtain ⟨⟨q0, q6⟩, ⟨t0, t8⟩, ⟨g0, g4⟩, ⟨c0, c9⟩, hq, ht, hg⟩ := hw
  have vq : vQ w' = vQ w + 1 := by show (w' 0).toNatClampNeg = _; rw [e0, nn_nat (by omega)]
  have vt : vT w' = vT w := by show (w' 1).toNatClampNeg = (w 1).toNatClampNeg; rw [e 1 (by omega) (by omega)]
  have vg : vG w' = vG w := by show (w' 2).toNatClampNeg = (w 2).toNatClampNeg; rw [e 2 (by omega) (by omega)]
  have vc : vC w' = vC w := by show (w' 3).toNatClampNeg = (w 3).toNatClampNeg; rw [e 3 (by omega) (by omega)]
  refine ⟨⟨⟨by rw [vq]; exact e0, by omega⟩, ⟨by rw [vt, e 1 (by omega) (by omega)]; exact t0, by omega⟩, ⟨by rw [vg, e 2 (by omega) (by omega)]; exact g0, by omega⟩, ⟨by rw [vc, e 3 (by omega) (by omega)]; exact c0, by rw [vc]; exact c9⟩, fun q a => ?_, fun t a => absurd a (by omega), fun g a => absurd a (by omega)⟩, vq, by omega, by omega⟩
  by_cases hl : q < vQ w
  · obtain ⟨h1, h2, h3, h4⟩ := hq q hl
    have eqc : qcW w' q = qcW w q := by show (w' _).toNatClampNeg = (w _).toNatClampNeg; rw [e _ (by omega) (by omega)]
    exact ⟨by rw [eqc, e _ (by omega) (by omega)]; exact h1, by rw [eqc]; exact h2, by rw [eqc]; exact h3, (h4.to (fun i hi => e _ (by omega) (by omega))).1⟩
  · obtain rfl : q = vQ w := by omega
    have eqc : qcW w' (vQ w) = v := by show (w' _).toNatClampNeg = _; rw [hv, nn_nat (by omega)]
    exact ⟨by rw [eqc]; exact hv, by rw [eqc]; exact v1, by rw [eqc]; exact v9, hn⟩
theorem stR_que {I I' : am_I} {L L' : am_L} {b : Nat} {w w' : Nat → Int32} (h : stR I L b w) (hw : wfp w) (hT : vT w = 0) (hG : vG w = 0) (hQ : vQ w < 6) (e0 : w' 0 = nn (vQ w + 1)) (e : ∀ j, 1 ≤ j → j < 12 + vQ w * 8 → w' j = w j)
    (c0 : I' b 0 = nn (vQ w + 1)) (cj : ∀ j, 1 ≤ j → I' b j = I b j) (c7 : I' (b + 7) = I (b + 7)) (cq : ∀ q, q < vQ w → L' (b + 1) q = L (b + 1) q ∧ I' (b + 2) q = I (b + 2) q ∧ I' (b + 3) q = I (b + 3) q) (cQ : L' (b + 1) (vQ w) = pnm w' (12 + vQ w * 8 + 1) ∧ I' (b + 2) (vQ w) = w' (12 + vQ w * 8) ∧ I' (b + 3) (vQ w) = 0) : stR I' L' b w' := by
  obtain ⟨⟨h1, h1a, h1b, h1c⟩, h2, h3, h4, h5⟩ := h
  obtain ⟨⟨q0, q6⟩, ⟨t0, t8⟩, ⟨g0, g4⟩, ⟨c0', c9⟩, hq, ht, hg⟩ := hw
  have vq : vQ w' = vQ w + 1 := by show (w' 0).toNatClampNeg = _; rw [e0, nn_nat (by omega)]
  have vt : vT w' = vT w := by show (w' 1).toNatClampNeg = (w 1).toNatClampNeg; rw [e 1 (by omega) (by omega)]
  have vg : vG w' = vG w := by show (w' 2).toNatClampNeg = (w 2).toNatClampNeg; rw [e 2 (by omega) (by omega)]
  have ey : ∀ q, yse (vT w') (tyW w') q = 0 := fun q => by rw [vt, hT]; rfl
  refine ⟨⟨c0.trans e0.symm, by rw [cj 1 (by omega), e 1 (by omega) (by omega)]; exact h1a, by rw [cj 2 (by omega), e 2 (by omega) (by omega)]; exact h1b, by rw [cj 3 (by omega), e 3 (by omega) (by omega)]; exact h1c⟩, fun q a => ?_, fun t a => absurd a (by omega), fun j hj => by rw [c7, e _ (by omega) (by omega)]; exact h4 j hj, fun g a => absurd a (by omega)⟩
  rw [ey q]
  by_cases hl : q < vQ w
  · obtain ⟨x1, x2, x3⟩ := cq q hl
    obtain ⟨y1, y2, y3⟩ := h2 q hl
    have e0' : yse (vT w) (tyW w) q = 0 := by rw [hT]; rfl
    rw [e0'] at y3
    exact ⟨by rw [x1, y1, ((hq q hl).2.2.2.to (w' := w') (fun i hi => e _ (by omega) (by omega))).2], by rw [x2, y2, e _ (by omega) (by omega)], x3.trans y3⟩
  · obtain rfl : q = vQ w := by omega
    exact ⟨cQ.1, cQ.2.1, cQ.2.2⟩
theorem wfp_typ {w w' : Nat → Int32} (hw : wfp w) (hG : vG w = 0) (hT : vT w < 8) (e1 : w' 1 = nn (vT w + 1)) (e : ∀ j, j ≠ 1 → j < 60 + vT w * 9 → w' j = w j) {v τ : Nat} (hv : w' (60 + vT w * 9) = nn v) (v9 : v ≤ 99) (hτ : w' (60 + vT w * 9 + 1) = nn τ) (t6 : τ < 2 ^ vQ w) (hn : nmO w' (60 + vT w * 9 + 2)) : wfp w' ∧ vQ w' = vQ w ∧ vT w' = vT w + 1 ∧ vG w' = 0 ∧ tyW w' (vT w) = τ ∧ ∀ t, t < vT w → tyW w' t = tyW w t := by
  obtain ⟨⟨q0, q6⟩, ⟨t0, t8⟩, ⟨g0, g4⟩, ⟨c0, c9⟩, hq, ht, hg⟩ := hw
  have p64 : 2 ^ vQ w ≤ 64 := Nat.pow_le_pow_right (n := 2) (by decide) (show vQ w ≤ 6 from q6)
  have vq : vQ w' = vQ w := by show (w' 0).toNatClampNeg = (w 0).toNatClampNeg; rw [e 0 (by omega) (by omega)]
  have vt : vT w' = vT w + 1 := by show (w' 1).toNatClampNeg = _; rw [e1, nn_nat (by omega)]
  have vg : vG w' = vG w := by show (w' 2).toNatClampNeg = (w 2).toNatClampNeg; rw [e 2 (by omega) (by omega)]
  have vc : vC w' = vC w := by show (w' 3).toNatClampNeg = (w 3).toNatClampNeg; rw [e 3 (by omega) (by omega)]
  have ty1 : tyW w' (vT w) = τ := by show (w' _).toNatClampNeg = _; rw [hτ, nn_nat (by omega)]
  have ty2 : ∀ t, t < vT w → tyW w' t = tyW w t := fun t a => by show (w' _).toNatClampNeg = (w _).toNatClampNeg; rw [e _ (by omega) (by omega)]
  refine ⟨⟨⟨by rw [vq, e 0 (by omega) (by omega)]; exact q0, by omega⟩, ⟨by rw [vt]; exact e1, by omega⟩, ⟨by rw [vg, e 2 (by omega) (by omega)]; exact g0, by omega⟩, ⟨by rw [vc, e 3 (by omega) (by omega)]; exact c0, by rw [vc]; exact c9⟩, fun q a => ?_, fun t a => ?_, fun g a => absurd a (by omega)⟩, vq, vt, by omega, ty1, ty2⟩
  · rw [vq] at a
    obtain ⟨h1, h2, h3, h4⟩ := hq q a
    have eqc : qcW w' q = qcW w q := by show (w' _).toNatClampNeg = (w _).toNatClampNeg; rw [e _ (by omega) (by omega)]
    exact ⟨by rw [eqc, e _ (by omega) (by omega)]; exact h1, by rw [eqc]; exact h2, by rw [eqc]; exact h3, (h4.to (fun i hi => e _ (by omega) (by omega))).1⟩
  · rw [vq]
    by_cases hl : t < vT w
    · obtain ⟨h1, h2, h3, h4, h5⟩ := ht t hl
      have etl : tlW w' t = tlW w t := by show (w' _).toNatClampNeg = (w _).toNatClampNeg; rw [e _ (by omega) (by omega)]
      exact ⟨by rw [etl, e _ (by omega) (by omega)]; exact h1, by rw [etl]; exact h2, by rw [ty2 t hl, e _ (by omega) (by omega)]; exact h3, by rw [ty2 t hl]; exact h4, (h5.to (fun i hi => e _ (by omega) (by omega))).1⟩
    · obtain rfl : t = vT w := by omega
      have etl : tlW w' (vT w) = v := by show (w' _).toNatClampNeg = _; rw [hv, nn_nat (by omega)]
      exact ⟨by rw [etl]; exact hv, by rw [etl]; exact v9, by rw [ty1]; exact hτ, by rw [ty1]; exact t6, hn⟩
theorem yse_new {T : Nat} {ty ty' : Nat → Nat} (h : ∀ t, t < T → ty' t = ty t) (h0 : ty' T = 0) (q : Nat) : yse (T + 1) ty' q = yse T ty q := by
  show msk _ T + (if (ty' T).testBit q then 2 ^ T else 0) = msk _ T
  rw [h0, Nat.zero_testBit, if_neg (by decide), Nat.add_zero]
  exact msk_cg T (fun t ht => by rw [h t ht])
theorem stR_typ {I I' : am_I} {L L' : am_L} {b : Nat} {w w' : Nat → Int32} (h : stR I L b w) (hw : wfp w) (hG : vG w = 0) (hT : vT w < 8) (e1 : w' 1 = nn (vT w + 1)) (e : ∀ j, j ≠ 1 → j < 60 + vT w * 9 → w' j = w j) (hτ : tyW w' (vT w) = 0)
    (c1 : I' b 1 = nn (vT w + 1)) (cj : ∀ j, j ≠ 1 → I' b j = I b j) (c7 : I' (b + 7) = I (b + 7)) (cq : L' (b + 1) = L (b + 1) ∧ I' (b + 2) = I (b + 2) ∧ I' (b + 3) = I (b + 3)) (ct : ∀ t, t < vT w → L' (b + 4) t = L (b + 4) t ∧ I' (b + 5) t = I (b + 5) t) (cT : L' (b + 4) (vT w) = pnm w' (60 + vT w * 9 + 2) ∧ I' (b + 5) (vT w) = w' (60 + vT w * 9)) : stR I' L' b w' := by
  obtain ⟨⟨h1, h1a, h1b, h1c⟩, h2, h3, h4, h5⟩ := h
  obtain ⟨⟨q0, q6⟩, ⟨t0, t8⟩, ⟨g0, g4⟩, ⟨c0', c9⟩, hq, ht, hg⟩ := hw
  have vq : vQ w' = vQ w := by show (w' 0).toNatClampNeg = (w 0).toNatClampNeg; rw [e 0 (by omega) (by omega)]
  have vt : vT w' = vT w + 1 := by show (w' 1).toNatClampNeg = _; rw [e1, nn_nat (by omega)]
  have vg : vG w' = vG w := by show (w' 2).toNatClampNeg = (w 2).toNatClampNeg; rw [e 2 (by omega) (by omega)]
  have ty2 : ∀ t, t < vT w → tyW w' t = tyW w t := fun t a => by show (w' _).toNatClampNeg = (w _).toNatClampNeg; rw [e _ (by omega) (by omega)]
  refine ⟨⟨by rw [cj 0 (by omega), e 0 (by omega) (by omega)]; exact h1, c1.trans e1.symm, by rw [cj 2 (by omega), e 2 (by omega) (by omega)]; exact h1b, by rw [cj 3 (by omega), e 3 (by omega) (by omega)]; exact h1c⟩, fun q a => ?_, fun t a => ?_, fun j hj => by rw [c7, e _ (by omega) (by omega)]; exact h4 j hj, fun g a => absurd a (by omega)⟩
  · rw [vq] at a
    obtain ⟨y1, y2, y3⟩ := h2 q a
    rw [vt, yse_new ty2 hτ q]
    exact ⟨by rw [cq.1, y1, ((hq q a).2.2.2.to (w' := w') (fun i hi => e _ (by omega) (by omega))).2], by rw [cq.2.1, y2, e _ (by omega) (by omega)], by rw [cq.2.2]; exact y3⟩
  · by_cases hl : t < vT w
    · obtain ⟨x1, x2⟩ := ct t hl
      obtain ⟨y1, y2⟩ := h3 t hl
      exact ⟨by rw [x1, y1, ((ht t hl).2.2.2.2.to (w' := w') (fun i hi => e _ (by omega) (by omega))).2], by rw [x2, y2, e _ (by omega) (by omega)]⟩
    · obtain rfl : t = vT w := by omega
      exact cT
/-- one trait more -/
theorem wfp_trt {w : Nat → Int32} (hw : wfp w) (hG : vG w = 0) {T τ : Nat} (hT : T < vT w) (t6 : τ < 2 ^ vQ w) : wfp (up w (60 + T * 9 + 1) (nn τ)) ∧ vQ (up w (60 + T * 9 + 1) (nn τ)) = vQ w ∧ vT (up w (60 + T * 9 + 1) (nn τ)) = vT w ∧ vG (up w (60 + T * 9 + 1) (nn τ)) = 0 ∧ tyW (up w (60 + T * 9 + 1) (nn τ)) T = τ ∧ ∀ t, t ≠ T → tyW (up w (60 + T * 9 + 1) (nn τ)) t = tyW w t := by
  obtain ⟨⟨q0, q6⟩, ⟨t0, t8⟩, ⟨g0, g4⟩, ⟨c0, c9⟩, hq, ht, hg⟩ := hw
  have p64 : 2 ^ vQ w ≤ 64 := Nat.pow_le_pow_right (n := 2) (by decide) (show vQ w ≤ 6 from q6)
  have e : ∀ j, j ≠ 60 + T * 9 + 1 → up w (60 + T * 9 + 1) (nn τ) j = w j := fun j hj => up_ne hj
  have eτ : up w (60 + T * 9 + 1) (nn τ) (60 + T * 9 + 1) = nn τ := up_eq _ _ _
  generalize up w (60 + T * 9 + 1) (nn τ) = w' at *
  have vq : vQ w' = vQ w := by show (w' 0).toNatClampNeg = (w 0).toNatClampNeg; rw [e 0 (by omega)]
  have vt : vT w' = vT w := by show (w' 1).toNatClampNeg = (w 1).toNatClampNeg; rw [e 1 (by omega)]
  have vg : vG w' = vG w := by show (w' 2).toNatClampNeg = (w 2).toNatClampNeg; rw [e 2 (by omega)]
  have vc : vC w' = vC w := by show (w' 3).toNatClampNeg = (w 3).toNatClampNeg; rw [e 3 (by omega)]
  have ty1 : tyW w' T = τ := by show (w' _).toNatClampNeg = _; rw [eτ, nn_nat (by omega)]
  have ty2 : ∀ t, t ≠ T → tyW w' t = tyW w t := fun t a => by show (w' _).toNatClampNeg = (w _).toNatClampNeg; rw [e _ (by omega)]
  refine ⟨⟨⟨by rw [vq, e 0 (by omega)]; exact q0, by omega⟩, ⟨by rw [vt, e 1 (by omega)]; exact t0, by omega⟩, ⟨by rw [vg, e 2 (by omega)]; exact g0, by omega⟩, ⟨by rw [vc, e 3 (by omega)]; exact c0, by rw [vc]; exact c9⟩, fun q a => ?_, fun t a => ?_, fun g a => absurd a (by omega)⟩, vq, vt, by omega, ty1, ty2⟩
  · rw [vq] at a
    obtain ⟨h1, h2, h3, h4⟩ := hq q a
    have eqc : qcW w' q = qcW w q := by show (w' _).toNatClampNeg = (w _).toNatClampNeg; rw [e _ (by omega)]
    exact ⟨by rw [eqc, e _ (by omega)]; exact h1, by rw [eqc]; exact h2, by rw [eqc]; exact h3, (h4.to (fun i hi => e _ (by omega))).1⟩
  · rw [vq]
    rw [vt] at a
    obtain ⟨h1, h2, h3, h4, h5⟩ := ht t a
    have etl : tlW w' t = tlW w t := by show (w' _).toNatClampNeg = (w _).toNatClampNeg; rw [e _ (by omega)]
    by_cases hl : t = T
    · subst hl
      exact ⟨by rw [etl, e _ (by omega)]; exact h1, by rw [etl]; exact h2, by rw [ty1]; exact eτ, by rw [ty1]; exact t6, (h5.to (fun i hi => e _ (by omega))).1⟩
    · exact ⟨by rw [etl, e _ (by omega)]; exact h1, by rw [etl]; exact h2, by rw [ty2 t hl, e _ (by omega)]; exact h3, by rw [ty2 t hl]; exact h4, (h5.to (fun i hi => e _ (by omega))).1⟩
theorem yse_or {T q q' : Nat} {ty ty' : Nat → Nat} (h : ∀ t, t ≠ T → ty' t = ty t) (h0 : ty' T = ty T ||| 2 ^ q) : yse (T + 1) ty' q' = if q' = q then yse (T + 1) ty q' ||| 2 ^ T else yse (T + 1) ty q' := by
  refine Nat.eq_of_testBit_eq (fun i => ?_)
  have b1 : (yse (T + 1) ty' q').testBit i = (decide (i < T + 1) && (ty' i).testBit q') := by unfold yse; exact msk_bit _ _ _
  have b2 : (yse (T + 1) ty q').testBit i = (decide (i < T + 1) && (ty i).testBit q') := by unfold yse; exact msk_bit _ _ _
  rw [b1]
  by_cases hq : q' = q
  · subst hq
    rw [if_pos rfl, Nat.testBit_or, b2, Nat.testBit_two_pow]
    by_cases hi : i = T
    · subst hi
      rw [h0, Nat.testBit_or, Nat.testBit_two_pow]
      simp
    · rw [h i hi, decide_eq_false (fun z : T = i => hi z.symm), Bool.or_false]
  · rw [if_neg hq, b2]
    by_cases hi : i = T
    · subst hi
      rw [h0, Nat.testBit_or, Nat.testBit_two_pow, decide_eq_false (fun z : q = q' => hq z.symm), Bool.or_false]
    · rw [h i hi]
theorem stR_trt {I : am_I} {L : am_L} {b : Nat} {w : Nat → Int32} (h : stR I L b w) (hw : wfp w) (hG : vG w = 0) {T q : Nat} (hT : vT w = T + 1) (hq' : q < vQ w) :
    stR (am_u I (b + 3) q (I (b + 3) q ||| (1 <<< (nn T &&& 31)))) L b (up w (60 + T * 9 + 1) (nn (tyW w T ||| 2 ^ q))) := by
  have t6 := (hw.2.2.2.2.2.1 T (by omega)).2.2.2.1
  have p6 : tyW w T ||| 2 ^ q < 2 ^ vQ w := Nat.or_lt_two_pow t6 (Nat.pow_lt_pow_right (by decide) hq')
  obtain ⟨-, vq, vt, vg, ty1, ty2⟩ := wfp_trt hw hG (show T < vT w by omega) p6
  obtain ⟨⟨h1, h1a, h1b, h1c⟩, h2, h3, h4, h5⟩ := h
  obtain ⟨⟨q0, q6⟩, ⟨t0, t8⟩, ⟨g0, g4⟩, ⟨c0', c9⟩, hq, ht, hg⟩ := hw
  have e : ∀ j, j ≠ 60 + T * 9 + 1 → up w (60 + T * 9 + 1) (nn (tyW w T ||| 2 ^ q)) j = w j := fun j hj => up_ne hj
  generalize up w (60 + T * 9 + 1) (nn (tyW w T ||| 2 ^ q)) = w' at *
  have co : ∀ k, k ≠ b + 3 → am_u I (b + 3) q (I (b + 3) q ||| (1 <<< (nn T &&& 31))) k = I k := fun k hk => am_u_ne hk
  refine ⟨⟨by rw [co b (by omega), e 0 (by omega)]; exact h1, by rw [co b (by omega), e 1 (by omega)]; exact h1a, by rw [co b (by omega), e 2 (by omega)]; exact h1b, by rw [co b (by omega), e 3 (by omega)]; exact h1c⟩, fun q2 a => ?_, fun t a => ?_, fun j hj => by rw [co _ (by omega), e _ (by omega)]; exact h4 j hj, fun g a => absurd a (by omega)⟩
  · rw [vq] at a
    obtain ⟨y1, y2, y3⟩ := h2 q2 a
    rw [hT] at y3
    refine ⟨by rw [y1, ((hq q2 a).2.2.2.to (w' := w') (fun i hi => e _ (by omega))).2], by rw [co _ (by omega), y2, e _ (by omega)], ?_⟩
    rw [vt, hT, yse_or ty2 ty1, am_u_at]
    by_cases hl : q2 = q
    · subst hl
      rw [if_pos ⟨rfl, rfl⟩, if_pos rfl, y3, nl_1, nn_shl (by omega), nn_or, Nat.one_mul]
    · rw [if_neg (fun z => hl z.2), if_neg hl]; exact y3
  · rw [vt] at a
    obtain ⟨y1, y2⟩ := h3 t a
    exact ⟨by rw [y1, ((ht t a).2.2.2.2.to (w' := w') (fun i hi => e _ (by omega))).2], by rw [co _ (by omega), y2, e _ (by omega)]⟩
