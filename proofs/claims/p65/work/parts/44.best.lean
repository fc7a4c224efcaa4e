/-! A TREE THAT IS BEST: what the law finds of it -/
section CG
variable {Q T : Nat} {qc ys tl ct qc' ys' tl' ct' : Nat → Nat} {fb : Nat → Bool} {tq tt ty tn ts : Nat → Int32}
theorem wt_cg (h : ∀ t, t < T → ct' t = ct t) (S : Nat) : wt T ct' S = wt T ct S := nsum_congr T (fun k hk => by rw [h k hk])
theorem wtl_cg (h : ∀ t, t < T → tl' t = tl t ∧ ct' t = ct t) (S v : Nat) : wtl T tl' ct' S v = wtl T tl ct S v := nsum_congr T (fun k hk => by rw [(h k hk).1, (h k hk).2])
theorem mxw_cg (h : ∀ t, t < T → tl' t = tl t ∧ ct' t = ct t) (S : Nat) : ∀ k, k ≤ T → mxw T tl' ct' S k = mxw T tl ct S k
  | 0, _ => rfl
  | k + 1, hk => by
    show max (mxw T tl' ct' S k) (wtl T tl' ct' S (tl' k)) = max (mxw T tl ct S k) (wtl T tl ct S (tl k))
    rw [mxw_cg h S k (by omega), wtl_cg h, (h k (by omega)).1]
theorem lfe_cg (h : ∀ t, t < T → tl' t = tl t ∧ ct' t = ct t) (S : Nat) : lfe T tl' ct' S = lfe T tl ct S := by
  unfold lfe
  rw [wt_cg (fun t ht => (h t ht).2), mxw_cg h S T (Nat.le_refl _)]
theorem bq_cg {N : Nat} (h : ∀ t, t < T → tl' t = tl t ∧ ct' t = ct t) (hq : ∀ q, q < N → qc' q = qc q ∧ ys' q = ys q) {sub sub' : Nat → Nat → Nat} {S : Nat} (ih : ∀ S', S' < S → ∀ l, sub' S' l = sub S' l) (l : Nat) : ∀ k, k ≤ N → bq T qc' ys' tl' ct' fb sub' S l k = bq T qc ys tl ct fb sub S l k
  | 0, _ => by
    show lfe T tl' ct' S * 33554432 = lfe T tl ct S * 33554432
    rw [lfe_cg h]
  | k + 1, hk => by
    obtain ⟨h1, h2⟩ := hq k (by omega)
    have ihk := bq_cg h hq ih l k (by omega)
    rw [show bq T qc' ys' tl' ct' fb sub' S l (k + 1) = (if oks ys' fb k S && decide (qc' k ≤ l) then min (bq T qc' ys' tl' ct' fb sub' S l k) (cand T qc' ys' ct' sub' k S l) else bq T qc' ys' tl' ct' fb sub' S l k) from rfl, show bq T qc ys tl ct fb sub S l (k + 1) = (if oks ys fb k S && decide (qc k ≤ l) then min (bq T qc ys tl ct fb sub S l k) (cand T qc ys ct sub k S l) else bq T qc ys tl ct fb sub S l k) from rfl, ihk]
    have eo : oks ys' fb k S = oks ys fb k S := by unfold oks; rw [h2]
    rw [eo, h1]
    by_cases ho : oks ys fb k S = true
    · obtain ⟨o1, o2, -, -⟩ := oks_lt ys fb ho
      have ec : cand T qc' ys' ct' sub' k S l = cand T qc ys ct sub k S l := by
        unfold cand
        rw [h1, h2, ih _ o1, ih _ o2, wt_cg (fun t ht => (h t ht).2)]
      rw [ec]
    · simp only [Bool.not_eq_true] at ho
      rw [ho]
      rfl
theorem bB_cg (h : ∀ t, t < T → tl' t = tl t ∧ ct' t = ct t) (hq : ∀ q, q < Q → qc' q = qc q ∧ ys' q = ys q) : ∀ (S : Nat), S < 256 → ∀ l, bB Q T qc' ys' tl' ct' fb S l = bB Q T qc ys tl ct fb S l := by
  intro S
  induction S using Nat.strongRecOn with
  | ind S ih =>
    intro hS l
    have ih' : ∀ S', S' < S → ∀ l, bB Q T qc' ys' tl' ct' fb S' l = bB Q T qc ys tl ct fb S' l := fun S' h l => ih S' h (by omega) l
    rw [bB_eq Q T qc ys tl ct fb hS, bB_eq Q T qc' ys' tl' ct' fb hS]
    exact bq_cg h hq ih' l Q (Nat.le_refl _)
theorem bt_cg (h : ∀ t, t < T → tl' t = tl t ∧ ct' t = ct t) {S : Nat} (h0 : 0 < S) (hS : S < 2 ^ T) : bt T tl' ct' S = bt T tl ct S := by
  obtain ⟨⟨t, t1, t2, t3⟩, h2⟩ := isBT_ex (tl := tl) (ct := ct) h0 hS
  refine bt_eq ⟨⟨t, t1, t2, (h t t1).1.trans t3⟩, fun u hu hb => ?_⟩
  rw [wtl_cg h, wtl_cg h, (h u hu).1]
  exact h2 u hu hb
theorem tvb_cg (hQ : Q ≤ 6) (hT : T ≤ 8) (h : ∀ t, t < T → tl' t = tl t ∧ ct' t = ct t) (hq : ∀ q, q < Q → qc' q = qc q ∧ ys' q = ys q) : ∀ {f n S l e : Nat}, tvb Q T qc ys tl ct fb tq tt ty tn ts f n S l e → 0 < S → S < 2 ^ T → tvb Q T qc' ys' tl' ct' fb tq tt ty tn ts f n S l e
  | 0, _, _, _, _, hh, _, _ => hh.elim
  | f + 1, n, S, l, e, hh, h0, hS => by
    have p8 := two_le8 hT
    have eB := bB_cg (fb := fb) h hq S (by omega) l
    obtain ⟨hs, hh | ⟨q, m, r, e1, e2, e3, e4, ha, hb⟩⟩ := hh
    · exact ⟨hs, Or.inl ⟨by rw [eB]; exact hh.1, hh.2.1, by rw [bt_cg h h0 hS]; exact hh.2.2.1, hh.2.2.2⟩⟩
    · have r' := r
      rw [bB_eq Q T qc ys tl ct fb (by omega)] at r'
      obtain ⟨q1, q2, q3, q4⟩ := bq_q Q hQ r'
      obtain ⟨o1, o2, o3, o4⟩ := oks_lt ys fb q2
      obtain ⟨x1, x2⟩ := hq q q1
      refine ⟨hs, Or.inr ⟨q, m, by rw [eB]; exact r, e1, e2, e3, e4, ?_, ?_⟩⟩
      · rw [x1, x2]
        exact tvb_cg hQ hT h hq ha (by omega) (by omega)
      · rw [x1, x2]
        exact tvb_cg hQ hT h hq hb (by omega) (by omega)
theorem yse_cgT {ty ty' : Nat → Nat} (h : ∀ t, t < T → ty' t = ty t) (q : Nat) : yse T ty' q = yse T ty q := by rw [yse_cg h]
end CG
section BW
variable {w w' : Nat → Int32} {g : Nat}
/-- the tree of gate g is a best one for what stands there -/
def bstW (w : Nat → Int32) (g : Nat) : Prop := tvb (vQ w) (vT w) (qcW w) (yse (vT w) (tyW w)) (tlW w) (ctW w g) (fbq (-1)) (rw5 w g 0) (rw5 w g 1) (rw5 w g 2) (rw5 w g 3) (rw5 w g 4) 256 0 (2 ^ vT w - 1) (lmW w g) (teW w g)
theorem row_err (hw : wfs w) (hg : g < vG w) : mErr w g (teW w g) (vT w) = nn (nsum (erF (vT w) (tlW w) (ctW w g) (rw5 w g 0) (rw5 w g 1) (rw5 w g 4)) (teW w g)) := by
  have q6 := hw.1.1.2
  have t8 := hw.1.2.1.2
  have p8 := two_le8 t8
  have t0 := hw.2.2.1
  have p2 : 2 ^ 1 ≤ 2 ^ vT w := Nat.pow_le_pow_right (n := 2) (by decide) t0
  obtain ⟨ew, e0, e15, tv⟩ := hw.1.tr hg
  have e1 : nsum (erF (vT w) (tlW w) (ctW w g) (rw5 w g 0) (rw5 w g 1) (rw5 w g 4)) (teW w g) = nsum (fun t => if rw5 w g 1 (lfA (rw5 w g 0) (rw5 w g 4) (nn t) (teW w g)) = w (60 + t * 9 + 0) then 0 else ctW w g t) (vT w) := by
    have e2 : nsum (erF (vT w) (tlW w) (ctW w g) (rw5 w g 0) (rw5 w g 1) (rw5 w g 4)) (teW w g) = nsum (fun j => nsum (fun t => if rw5 w g 0 j = -1 ∧ ib (rw5 w g 4 j) (nn t) = true ∧ ¬ rw5 w g 1 j = nn (tlW w t) then ctW w g t else 0) (vT w)) (teW w g) := by
      refine nsum_congr _ (fun j _ => ?_)
      unfold erF
      by_cases hj : rw5 w g 0 j = -1
      · rw [if_pos hj]
        refine nsum_congr _ (fun t _ => ?_)
        have hiff : (ib (rw5 w g 4 j) (nn t) && decide (¬ rw5 w g 1 j = nn (tlW w t))) = true ↔ (rw5 w g 0 j = -1 ∧ ib (rw5 w g 4 j) (nn t) = true ∧ ¬ rw5 w g 1 j = nn (tlW w t)) := by
          rw [Bool.and_eq_true, decide_eq_true_eq]
          exact ⟨fun z => ⟨hj, z.1, z.2⟩, fun z => ⟨z.2.1, z.2.2⟩⟩
        by_cases c : (ib (rw5 w g 4 j) (nn t) && decide (¬ rw5 w g 1 j = nn (tlW w t))) = true
        · rw [if_pos c, if_pos (hiff.mp c)]
        · rw [if_neg c, if_neg (fun z => c (hiff.mpr z))]
      · rw [if_neg hj]
        exact ((nsum_congr _ (fun t _ => if_neg (fun z => hj z.1))).trans (nsum_0 _)).symm
    rw [e2, nsum_swap]
    refine nsum_congr _ (fun t ht => ?_)
    obtain ⟨k1, k2, k3, k4⟩ := lfA_sp q6 (show t < 32 by omega) tv (by omega) (all_bit ht)
    have etl : w (60 + t * 9 + 0) = nn (tlW w t) := (hw.1.2.2.2.2.2.1 t ht).1
    rw [nsum_one k1 (fun j hj hne => if_neg (fun z => hne (k4 j hj z.1 z.2.1)))]
    rw [etl]
    by_cases hx : rw5 w g 1 (lfA (rw5 w g 0) (rw5 w g 4) (nn t) (teW w g)) = nn (tlW w t)
    · rw [if_neg (fun z => z.2.2 hx), if_pos hx]
    · rw [if_pos ⟨k2, k3, hx⟩, if_neg hx]
  rw [e1]
  refine fsum_nn _ (fun t ht => ?_)
  by_cases hx : rw5 w g 1 (lfA (rw5 w g 0) (rw5 w g 4) (nn t) (teW w g)) = w (60 + t * 9 + 0)
  · rw [if_pos hx, if_pos hx]; rfl
  · rw [if_neg hx, if_neg hx]
    exact ((hw.1.2.2.2.2.2.2 g hg).2.2.2.2.1 t ht).1
theorem row_wrk (hw : wfs w) (hg : g < vG w) : mWrk w g (vT w) (teW w g) = nn (nsum (wkF (vT w) (qcW w) (ctW w g) (rw5 w g 0) (rw5 w g 4)) (teW w g)) := by
  have q6 := hw.1.1.2
  have t8 := hw.1.2.1.2
  have p8 := two_le8 t8
  have t0 := hw.2.2.1
  have p2 : 2 ^ 1 ≤ 2 ^ vT w := Nat.pow_le_pow_right (n := 2) (by decide) t0
  obtain ⟨ew, e0, e15, tv⟩ := hw.1.tr hg
  refine fsum_nn _ (fun j hj => ?_)
  obtain ⟨S', s1, s2, s3, s4, s5, s6⟩ := tva_set q6 tv (by omega) j (Nat.zero_le _) hj
  unfold wkF
  by_cases hq : rw5 w g 0 j = -1
  · rw [if_pos hq, if_pos hq]; rfl
  · rw [if_neg hq, if_neg hq]
    obtain ⟨q, q1, q2⟩ := s5 hq
    have e1 : w (12 + (rw5 w g 0 j).toNatClampNeg * 8) = nn (qcW w (rw5 w g 0 j).toNatClampNeg) := by
      rw [q2, nn_nat (by omega)]
      exact (hw.1.2.2.2.2.1 q q1).1
    have e2 : mWgt w g (rw5 w g 4 j) (vT w) = nn (wt (vT w) (ctW w g) (rw5 w g 4 j).toNatClampNeg) := by
      rw [s3, nn_nat (by omega)]
      refine fsum_nn _ (fun t ht => ?_)
      rw [ib_nn (by omega) (by omega)]
      cases S'.testBit t
      · rfl
      · exact ((hw.1.2.2.2.2.2.2 g hg).2.2.2.2.1 t ht).1
    rw [e1, e2, nn_mul]
theorem row_pc (hw : wfs w) (hg : g < vG w) (t : Nat) : pcW w g t = nn (nsum (pcF (qcW w) (rw5 w g 0) (rw5 w g 4) t) (teW w g)) := by
  have q6 := hw.1.1.2
  have t8 := hw.1.2.1.2
  have t0 := hw.2.2.1
  have p2 : 2 ^ 1 ≤ 2 ^ vT w := Nat.pow_le_pow_right (n := 2) (by decide) t0
  obtain ⟨ew, e0, e15, tv⟩ := hw.1.tr hg
  refine fsum_nn _ (fun j hj => ?_)
  obtain ⟨S', s1, s2, s3, s4, s5, s6⟩ := tva_set q6 tv (by omega) j (Nat.zero_le _) hj
  unfold pcF
  by_cases hq : rw5 w g 0 j ≠ -1 ∧ ib (rw5 w g 4 j) (nn t) = true
  · rw [if_pos hq, if_pos hq]
    obtain ⟨q, q1, q2⟩ := s5 hq.1
    rw [q2, nn_nat (by omega)]
    exact (hw.1.2.2.2.2.1 q q1).1
  · rw [if_neg hq, if_neg hq]; rfl
/-- what the law finds of a best tree -/
theorem bst_facts (hw : wfs w) (hg : g < vG w) (hb : bstW w g) : mErr w g (teW w g) (vT w) = nn (rkW w g (-1) (lmW w g) / 33554432) ∧ mWrk w g (vT w) (teW w g) = nn (rkW w g (-1) (lmW w g) / 8 % 4194304) ∧ rw5 w g 0 0 = nn (rkW w g (-1) (lmW w g) % 8) - 1 ∧ ∀ t, t < vT w → ∃ c, pcW w g t = nn c ∧ c ≤ lmW w g := by
  have q6 := hw.1.1.2
  have t8 := hw.1.2.1.2
  have p8 := two_le8 t8
  have t0 := hw.2.2.1
  have p2 : 2 ^ 1 ≤ 2 ^ vT w := Nat.pow_le_pow_right (n := 2) (by decide) t0
  obtain ⟨x1, x2, x3⟩ := tvb_best q6 t8 (fun t ht => ((hw.1.2.2.2.2.2.2 g hg).2.2.2.2.1 t ht).2) (fun t ht => (hw.1.2.2.2.2.2.1 t ht).2.1) hb (by omega) (by omega) (hw.1.2.2.2.2.2.2 g hg).2.2.1.2
  rw [row_err hw hg, row_wrk hw hg, x1, x2]
  refine ⟨by show nn (0 + _) = _; rw [Nat.zero_add]; rfl, by show nn (0 + _) = _; rw [Nat.zero_add]; rfl, ?_, fun t ht => ⟨_, row_pc hw hg t, ?_⟩⟩
  · have key : ∀ {f n S l e : Nat}, tvb (vQ w) (vT w) (qcW w) (yse (vT w) (tyW w)) (tlW w) (ctW w g) (fbq (-1)) (rw5 w g 0) (rw5 w g 1) (rw5 w g 2) (rw5 w g 3) (rw5 w g 4) f n S l e → rw5 w g 0 n = nn (bB (vQ w) (vT w) (qcW w) (yse (vT w) (tyW w)) (tlW w) (ctW w g) (fbq (-1)) S l % 8) - 1 := by
      intro f n S l e hh
      cases f with
      | zero => exact hh.elim
      | succ f =>
        obtain ⟨-, hh | ⟨q, m, r, e1, -⟩⟩ := hh
        · rw [hh.1, hh.2.1]; rfl
        · rw [r, e1, nl_1, nn_sub (by omega), Nat.add_sub_cancel]
    exact key hb
  · have := (x3 t ht).1
    have e0 : nsum (pcF (qcW w) (rw5 w g 0) (rw5 w g 4) t) 0 = 0 := rfl
    omega
theorem bst_st (hw : wfs w) (hg : g < vG w) (hb : bstW w g) : stA w g = 0 ∧ stB w g = 0 := by
  obtain ⟨a, b, -⟩ := bst_facts hw hg hb
  unfold stA stB
  rw [a, b]
  exact ⟨Int32.sub_self _, Int32.sub_self _⟩
/-- the rows agree where a tree's making looks -/
def agr (w w' : Nat → Int32) (g : Nat) : Prop := vQ w' = vQ w ∧ vT w' = vT w ∧ lmW w' g = lmW w g ∧ (∀ q, q < vQ w → qcW w' q = qcW w q) ∧ ∀ t, t < vT w → tyW w' t = tyW w t ∧ tlW w' t = tlW w t ∧ ctW w' g t = ctW w g t
theorem agr_rk (hw : wfs w) (h : agr w w' g) (l : Nat) : rkW w' g (-1) l = rkW w g (-1) l := by
  obtain ⟨h1, h2, h3, h4, h5⟩ := h
  have p8 := two_le8 hw.1.2.1.2
  unfold rkW
  rw [h1, h2]
  exact bB_cg (fun t ht => ⟨(h5 t ht).2.1, (h5 t ht).2.2⟩) (fun q hq => ⟨h4 q hq, yse_cgT (fun t ht => (h5 t ht).1) q⟩) _ (by omega) l
theorem bst_of (q6 : vQ w ≤ 6) (t8 : vT w ≤ 8) (t0 : 0 < vT w) (hb : bldR w g w') (h : agr w w' g) : bstW w' g := by
  obtain ⟨e, b1, b2, b3, b4, b5⟩ := hb
  obtain ⟨h1, h2, h3, h4, h5⟩ := h
  have p8 := two_le8 t8
  have p2 : 2 ^ 1 ≤ 2 ^ vT w := Nat.pow_le_pow_right (n := 2) (by decide) t0
  have te : teW w' g = e := by unfold teW; rw [b1, nn_nat (by omega)]
  unfold bstW
  rw [h1, h2, h3, te]
  exact tvb_cg q6 t8 (fun t ht => ⟨(h5 t ht).2.1, (h5 t ht).2.2⟩) (fun q hq => ⟨h4 q hq, yse_cgT (fun t ht => (h5 t ht).1) q⟩) b4 (by omega) (by omega)
theorem bld_agr (hw : wfs w) (hg : g < vG w) (hb : bldR w g w') : agr w w' g ∧ vG w' = vG w := by
  have g4 := hw.1.2.2.1.2
  have q6 := hw.1.1.2
  have t8 := hw.1.2.1.2
  have at' : ∀ j, j < 132 → w' j = w j := fun j hj => bldR_at hb (by omega)
  refine ⟨⟨by unfold vQ; rw [at' 0 (by decide)], by unfold vT; rw [at' 1 (by decide)], by unfold lmW; rw [bldR_at hb (by omega)], fun q hq => by unfold qcW; rw [at' _ (by omega)], fun t ht => ⟨by unfold tyW; rw [at' _ (by omega)], by unfold tlW; rw [at' _ (by omega)], by unfold ctW; rw [bldR_at hb (by omega)]⟩⟩, by unfold vG; rw [at' 2 (by decide)]⟩
theorem bld_bst (hw : wfs w) (hg : g < vG w) (hb : bldR w g w') : bstW w' g ∧ rkW w' g (-1) (lmW w' g) = rkW w g (-1) (lmW w g) := by
  have ag := (bld_agr hw hg hb).1
  exact ⟨bst_of hw.1.1.2 hw.1.2.1.2 hw.2.2.1 hb ag, by rw [ag.2.2.1]; exact agr_rk hw ag _⟩
end BW
