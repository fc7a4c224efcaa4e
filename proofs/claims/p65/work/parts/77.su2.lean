/-! THE TEXT'S SETUP: a gate's row; what is taken, or the fault -/
/-- the numbers of one gate more, before its tree is built -/
def gtN (w w1 : Nat → Int32) : Prop := w1 2 = nn (vG w + 1) ∧ (∀ j, j ≠ 2 → j < 132 + vG w * 94 → w1 j = w j) ∧ (∃ a, a ≤ 23 ∧ w1 (132 + vG w * 94 + 0) = nn a) ∧ (∃ a, a ≤ 23 ∧ w1 (132 + vG w * 94 + 1) = nn a) ∧ (∃ a, a ≤ 30 ∧ w1 (132 + vG w * 94 + 2) = nn a) ∧ nmO w1 (132 + vG w * 94 + 3) ∧ ∀ t, t < vT w → ∃ v, v ≤ 9999 ∧ w1 (132 + vG w * 94 + (10 + t)) = nn v
theorem gtN.vs {w w1 : Nat → Int32} (h : gtN w w1) (hw : wfp w) (hG : vG w < 4) : vQ w1 = vQ w ∧ vT w1 = vT w ∧ vG w1 = vG w + 1 ∧ vC w1 = vC w ∧ (∀ t, t < vT w → tyW w1 t = tyW w t) ∧ (lmW w1 (vG w) ≤ 30 ∧ w1 (132 + vG w * 94 + 2) = nn (lmW w1 (vG w))) := by
  obtain ⟨e2, e, -, -, ⟨a, a30, ha⟩, -, -⟩ := h
  have t8 := hw.2.1.2
  refine ⟨?_, ?_, ?_, ?_, fun t ht => ?_, ?_⟩
  · show (w1 0).toNatClampNeg = (w 0).toNatClampNeg; rw [e 0 (by omega) (by omega)]
  · show (w1 1).toNatClampNeg = (w 1).toNatClampNeg; rw [e 1 (by omega) (by omega)]
  · show (w1 2).toNatClampNeg = _; rw [e2, nn_nat (by omega)]
  · show (w1 3).toNatClampNeg = (w 3).toNatClampNeg; rw [e 3 (by omega) (by omega)]
  · show (w1 _).toNatClampNeg = (w _).toNatClampNeg; rw [e _ (by omega) (by omega)]
  · have el : lmW w1 (vG w) = a := by show (w1 _).toNatClampNeg = _; rw [ha, nn_nat (by omega)]
    rw [el]
    exact ⟨a30, ha⟩
theorem gtN.mda {w w1 : Nat → Int32} (h : gtN w w1) (hw : wfp w) (h0 : 0 < vT w) (hG : vG w < 4) : mda w1 (vG w) (vQ w1) (vT w1) (qcW w1) (tyW w1) (tlW w1) (ctW w1 (vG w)) := by
  obtain ⟨vq, vt, vg, -, ty, -⟩ := h.vs hw hG
  have h64 := fun t (ht : t < vT w) => hw.ty ht
  obtain ⟨e2, e, -, -, -, -, hc⟩ := h
  obtain ⟨⟨q0, q6⟩, ⟨t0, t8⟩, -, -, hq, ht, -⟩ := hw
  rw [vq, vt]
  refine ⟨by rw [e 0 (by omega) (by omega)]; exact q0, by rw [e 1 (by omega) (by omega)]; exact t0, q6, h0, t8, fun q a => ?_, fun t a => ?_⟩
  · have eqc : qcW w1 q = qcW w q := by show (w1 _).toNatClampNeg = (w _).toNatClampNeg; rw [e _ (by omega) (by omega)]
    rw [eqc, e _ (by omega) (by omega)]
    exact ⟨(hq q a).1, (hq q a).2.1, (hq q a).2.2.1⟩
  · have etl : tlW w1 t = tlW w t := by show (w1 _).toNatClampNeg = (w _).toNatClampNeg; rw [e _ (by omega) (by omega)]
    obtain ⟨v, v9, hv⟩ := hc t a
    have ec : ctW w1 (vG w) t = v := by show (w1 _).toNatClampNeg = _; rw [hv, nn_nat (by omega)]
    rw [etl, ty t a, ec, e _ (by omega) (by omega), e (60 + t * 9 + 1) (by omega) (by omega)]
    exact ⟨(ht t a).1, (ht t a).2.1, (ht t a).2.2.1, h64 t a, hv, v9⟩
theorem bldR_trm {w w' : Nat → Int32} {g : Nat} (md : mda w g (vQ w) (vT w) (qcW w) (tyW w) (tlW w) (ctW w g)) (l30 : lmW w g ≤ 30) (h : bldR w g w') : trW w' g (vQ w) (vT w) (tyW w) (teW w' g) := by
  obtain ⟨e, h1, h2, h3, h4, h5⟩ := h
  have p8 := two_le8 md.2.2.2.2.1
  have p2 : 2 ^ 1 ≤ 2 ^ vT w := Nat.pow_le_pow_right (n := 2) (by decide) md.2.2.2.1
  have te : teW w' g = e := by unfold teW; rw [h1, nn_nat (by omega)]
  rw [te]
  exact ⟨h1, h2, h3, tva_of md.2.2.1 md.2.2.2.2.1 (fun t a => (md.2.2.2.2.2.2 t a).2.2.2.2.2) (fun t a => (md.2.2.2.2.2.2 t a).2.1) (fun S a b => isBT_ex a b) h4 (by omega) (by omega) l30⟩
theorem wfp_gat {w w1 w' : Nat → Int32} (hw : wfp w) (h0 : 0 < vT w) (hG : vG w < 4) (hN : gtN w w1) (hb : bldR w1 (vG w) w') : wfp w' ∧ vQ w' = vQ w ∧ vT w' = vT w ∧ vG w' = vG w + 1 := by
  have md := hN.mda hw h0 hG
  obtain ⟨vq1, vt1, vg1, vc1, ty1, l30, hl⟩ := hN.vs hw hG
  have tr := bldR_trm md l30 hb
  obtain ⟨e2, e, ⟨a, a23, ha⟩, ⟨c, c23, hc⟩, -, hn, hct⟩ := hN
  have ob : ∀ j, ¬ (132 + vG w * 94 + 18 ≤ j ∧ j < 132 + vG w * 94 + 94) → w' j = w1 j := fun j hj => bldR_at hb hj
  have oa : ∀ j, j ≠ 2 → j < 132 + vG w * 94 → w' j = w j := fun j a b => (ob j (by omega)).trans (e j a b)
  have t8 := hw.2.1.2
  have vq : vQ w' = vQ w := by show (w' 0).toNatClampNeg = (w 0).toNatClampNeg; rw [oa 0 (by omega) (by omega)]
  have vt : vT w' = vT w := by show (w' 1).toNatClampNeg = (w 1).toNatClampNeg; rw [oa 1 (by omega) (by omega)]
  have vg : vG w' = vG w + 1 := by show (w' 2).toNatClampNeg = _; rw [ob 2 (by omega), e2, nn_nat (by omega)]
  have vc : vC w' = vC w := by show (w' 3).toNatClampNeg = (w 3).toNatClampNeg; rw [oa 3 (by omega) (by omega)]
  have tyw : ∀ t, t < vT w → tyW w' t = tyW w t := fun t ht => by show (w' _).toNatClampNeg = (w _).toNatClampNeg; rw [oa _ (by omega) (by omega)]
  refine ⟨⟨⟨by rw [vq, oa 0 (by omega) (by omega)]; exact hw.1.1, by rw [vq]; exact hw.1.2⟩, ⟨by rw [vt, oa 1 (by omega) (by omega)]; exact hw.2.1.1, by rw [vt]; exact t8⟩, ⟨by rw [vg, ob 2 (by omega)]; exact e2, by omega⟩, ⟨by rw [vc, oa 3 (by omega) (by omega)]; exact hw.2.2.2.1.1, by rw [vc]; exact hw.2.2.2.1.2⟩, fun q b => ?_, fun t b => ?_, fun g b => ?_⟩, vq, vt, vg⟩
  · rw [vq] at b
    have q6 := hw.1.2
    obtain ⟨h1, h2, h3, h4⟩ := hw.2.2.2.2.1 q b
    have eqc : qcW w' q = qcW w q := by show (w' _).toNatClampNeg = (w _).toNatClampNeg; rw [oa _ (by omega) (by omega)]
    exact ⟨by rw [eqc, oa _ (by omega) (by omega)]; exact h1, by rw [eqc]; exact h2, by rw [eqc]; exact h3, (h4.to (fun i hi => oa _ (by omega) (by omega))).1⟩
  · rw [vt] at b
    obtain ⟨h1, h2, h3, h4, h5⟩ := hw.2.2.2.2.2.1 t b
    have etl : tlW w' t = tlW w t := by show (w' _).toNatClampNeg = (w _).toNatClampNeg; rw [oa _ (by omega) (by omega)]
    exact ⟨by rw [etl, oa _ (by omega) (by omega)]; exact h1, by rw [etl]; exact h2, by rw [tyw t b, oa _ (by omega) (by omega)]; exact h3, by rw [tyw t b, vq]; exact h4, (h5.to (fun i hi => oa _ (by omega) (by omega))).1⟩
  · rw [vg] at b
    by_cases hl' : g < vG w
    · exact (hw.2.2.2.2.2.2 g hl').to vq vt t8 tyw (fun k k94 _ _ => oa _ (by omega) (by omega)) (hw.lim hl' (oa _ (by omega) (by omega))) (hw.cnt hl' (fun u hu => oa _ (by omega) (by omega)))
    · obtain rfl : g = vG w := by omega
      have eo : opW w' (vG w) = a := by show (w' _).toNatClampNeg = _; rw [ob _ (by omega), ha, nn_nat (by omega)]
      have ec : clW w' (vG w) = c := by show (w' _).toNatClampNeg = _; rw [ob _ (by omega), hc, nn_nat (by omega)]
      have el : lmW w' (vG w) = lmW w1 (vG w) := by show (w' _).toNatClampNeg = (w1 _).toNatClampNeg; rw [ob _ (by omega)]
      refine ⟨⟨by rw [eo, ob _ (by omega)]; exact ha, by rw [eo]; exact a23⟩, ⟨by rw [ec, ob _ (by omega)]; exact hc, by rw [ec]; exact c23⟩, ⟨by rw [el, ob _ (by omega)]; exact hl, by rw [el]; exact l30⟩, (hn.to (fun i hi => ob _ (by omega))).1, fun t ht => ?_, ?_⟩
      · rw [vt] at ht
        obtain ⟨v, v9, hv⟩ := hct t ht
        have : ctW w' (vG w) t = v := by show (w' _).toNatClampNeg = _; rw [ob _ (by omega), hv, nn_nat (by omega)]
        rw [this, ob _ (by omega)]
        exact ⟨hv, v9⟩
      · rw [vq1, vt1] at tr
        rw [vq, vt]
        refine ⟨tr.1, tr.2.1, tr.2.2.1, ?_⟩
        rw [yse_cg (ty := tyW w1) (fun t ht => (tyw t ht).trans (ty1 t ht).symm)]
        exact tr.2.2.2
theorem stR_gat {I I' : am_I} {L L' : am_L} {b en : Nat} {w w1 w' : Nat → Int32} (h : stR I L b w) (hw : wfp w) (h0 : 0 < vT w) (hG : vG w < 4) (hN : gtN w w1) (hb : bldR w1 (vG w) w')
    (c2 : I' b 2 = nn (vG w + 1)) (cj : ∀ j, j ≠ 2 → I' b j = I b j) (co : ∀ k, b < k → k < b + 36 → ¬ (gc b (vG w) ≤ k ∧ k < gc b (vG w) + 7) → I' k = I k) (cl : ∀ k, b ≤ k → k < b + 36 → k ≠ gc b (vG w) → L' k = L k) (x0 : L' (gc b (vG w)) 0 = pnm w1 (132 + vG w * 94 + 3))
    (x1 : I' (gc b (vG w)) 1 = w1 (132 + vG w * 94 + 0)) (x2 : I' (gc b (vG w)) 2 = w1 (132 + vG w * 94 + 1)) (x3 : I' (gc b (vG w)) 3 = w1 (132 + vG w * 94 + 2)) (xc : ∀ t, t < vT w → I' (gc b (vG w) + 1) t = w1 (132 + vG w * 94 + (10 + t))) (hs : I' (gc b (vG w) + 2) 0 = nn en) (hs0 : 0 < en) (h15 : en ≤ 15)
    (ht : tvb (vQ w1) (vT w1) (qcW w1) (yse (vT w1) (tyW w1)) (tlW w1) (ctW w1 (vG w)) (fbq (-1)) (I' (gc b (vG w) + 2 + 1)) (I' (gc b (vG w) + 2 + 2)) (yF (I' (gc b (vG w) + 2 + 1))) (I' (gc b (vG w) + 2 + 3)) (I' (gc b (vG w) + 2 + 4)) 256 0 (2 ^ vT w1 - 1) (lmW w1 (vG w)) en) : stR I' L' b w' := by
  obtain ⟨-, vq, vt, vg⟩ := wfp_gat hw h0 hG hN hb
  obtain ⟨e2, e, -, -, -, hn, hct⟩ := hN
  have ob : ∀ j, ¬ (132 + vG w * 94 + 18 ≤ j ∧ j < 132 + vG w * 94 + 94) → w' j = w1 j := fun j hj => bldR_at hb hj
  have oa : ∀ j, j ≠ 2 → j < 132 + vG w * 94 → w' j = w j := fun j a b => (ob j (by omega)).trans (e j a b)
  have ge : ∀ g, gc b g = b + (8 + 7 * g) := fun _ => rfl
  have geG := ge (vG w)
  have t8 := hw.2.1.2
  have q6 := hw.1.2
  have tyw : ∀ t, t < vT w → tyW w' t = tyW w t := fun t ht => by show (w' _).toNatClampNeg = (w _).toNatClampNeg; rw [oa _ (by omega) (by omega)]
  obtain ⟨⟨h1, h1a, h1b, h1c⟩, h2, h3, h4, h5⟩ := h
  refine ⟨⟨by rw [cj 0 (by omega), oa 0 (by omega) (by omega)]; exact h1, by rw [cj 1 (by omega), oa 1 (by omega) (by omega)]; exact h1a, by rw [ob 2 (by omega)]; exact c2.trans e2.symm, by rw [cj 3 (by omega), oa 3 (by omega) (by omega)]; exact h1c⟩, fun q a => ?_, fun t a => ?_, fun j hj => by rw [co _ (by omega) (by omega) (by omega), oa _ (by omega) (by omega)]; exact h4 j hj, fun g a => ?_⟩
  · rw [vq] at a
    obtain ⟨y1, y2, y3⟩ := h2 q a
    refine ⟨?_, by rw [co _ (by omega) (by omega) (by omega), y2, oa _ (by omega) (by omega)], ?_⟩
    · rw [cl _ (by omega) (by omega) (by omega), y1, ((hw.2.2.2.2.1 q a).2.2.2.to (w' := w') (fun i hi => oa _ (by omega) (by omega))).2]
    · rw [co _ (by omega) (by omega) (by omega), vt, yse_cg tyw]; exact y3
  · rw [vt] at a
    obtain ⟨y1, y2⟩ := h3 t a
    refine ⟨?_, by rw [co _ (by omega) (by omega) (by omega), y2, oa _ (by omega) (by omega)]⟩
    rw [cl _ (by omega) (by omega) (by omega), y1, ((hw.2.2.2.2.2.1 t a).2.2.2.2.to (w' := w') (fun i hi => oa _ (by omega) (by omega))).2]
  · rw [vg] at a
    have geg := ge g
    by_cases hl : g < vG w
    · have hg := gaR_same (w' := w') (I' := I') (h5 g hl) hw hl (fun k a1 a2 => co k (by omega) (by omega) (by omega)) (fun k hk => oa _ (by omega) (by omega))
      obtain ⟨z1, z2, z3, z4, z5, z6⟩ := hg
      refine ⟨?_, z1, z2, z3, fun t ht' => z4 t (by rw [← vt]; exact ht'), z5, z6⟩
      rw [cl _ (by omega) (by omega) (by omega), ((hw.2.2.2.2.2.2 g hl).2.2.2.1.to (w' := w') (fun i hi => oa _ (by omega) (by omega))).2]
      exact (h5 g hl).1
    · obtain rfl : g = vG w := by omega
      refine ⟨by rw [x0, (hn.to (w' := w') (fun i hi => ob _ (by omega))).2], by rw [x1, ob _ (by omega)], by rw [x2, ob _ (by omega)], by rw [x3, ob _ (by omega)], fun t ht' => by rw [xc t (by rw [← vt]; exact ht'), ob _ (by rw [vt] at ht'; omega)], ?_⟩
      obtain ⟨e', b1, b2, b3, b4, b5⟩ := hb
      obtain ⟨rfl, c⟩ := tvb_uq ht b4
      refine ⟨hs.trans b1.symm, fun n hn' => ?_⟩
      have te : teW w' (vG w) = e' := by unfold teW; rw [b1, nn_nat (by omega)]
      rw [te] at hn'
      obtain ⟨c1', c2', c3', c4', c5'⟩ := c n (Nat.zero_le _) hn'
      exact ⟨c1'.symm, c2'.symm, c4'.symm, c5'.symm⟩
section SU
variable (B : Nat → Nat) (n : Nat)
def queW (w : Nat → Int32) (s : Nat) (v : Int32) : Nat → Int32 := up (up (lyW w (12 + vQ w * 8 + 1) B s (en B n s - s)) (12 + vQ w * 8) v) 0 (nn (vQ w + 1))
def uQu (w : Nat → Int32) (s : Nat) : Except (Nat × Nat) (Nat × (Nat → Int32)) := match pNew B n (fNm w 13 8 B s (en B n s - s) (vQ w)) s with
  | .error e => .error e
  | .ok _ => match pNum B n 1 9 (nx B n s) with
    | .error e => .error e
    | .ok (s3, v) => match pSem B n s3 with
      | .error e => .error e
      | .ok (s4, _) => .ok (s4, queW B n w s v)
def uTr (w : Nat → Int32) : Nat → Nat → Nat → Except (Nat × Nat) (Nat × Nat)
  | 0, s, _ => .error (1, s)
  | f + 1, s, τ => if kd B n s = 2 then .ok (s, τ) else match pKnown B n (fNm w 13 8 B s (en B n s - s) (vQ w)) s with
    | .error e => .error e
    | .ok (s', v) => if τ.testBit v.toNatClampNeg = true then .error (4, s) else uTr w f s' (τ ||| 2 ^ v.toNatClampNeg)
def typW (w : Nat → Int32) (s : Nat) (v : Int32) (τ : Nat) : Nat → Int32 := up (up (up (lyW w (60 + vT w * 9 + 2) B s (en B n s - s)) (60 + vT w * 9) v) 1 (nn (vT w + 1))) (60 + vT w * 9 + 1) (nn τ)
def uTy (w : Nat → Int32) (s : Nat) : Except (Nat × Nat) (Nat × (Nat → Int32)) := match pNew B n (fNm w 62 9 B s (en B n s - s) (vT w)) s with
  | .error e => .error e
  | .ok _ => match pNum B n 0 99 (nx B n s) with
    | .error e => .error e
    | .ok (s3, v) => match uTr B n w 7 s3 0 with
      | .error e => .error e
      | .ok (s4, τ) => match pSem B n s4 with
        | .error e => .error e
        | .ok (s5, _) => .ok (s5, typW B n w s v τ)
def uMore (s : Nat) : Except (Nat × Nat) (Nat × Int32) := if kd B n s = 1 then (if vl B n s ≤ 9999 then .error (5, s) else .error (2, s)) else pSem B n s
/-- k counts more, from type t on, and what stands behind them -/
def uCm (a : Nat) : Nat → Nat → Nat → (Nat → Int32) → Except (Nat × Nat) (Nat × (Nat → Int32))
  | 0, _, s, w => match uMore B n s with
    | .error e => .error e
    | .ok (s', _) => .ok (s', w)
  | k + 1, t, s, w => match pNum B n 0 9999 s with
    | .error e => .error e
    | .ok (s', v) => uCm a k (t + 1) s' (up w (a + (10 + t)) v)
def gatW (w : Nat → Int32) (s : Nat) (a b c : Int32) : Nat → Int32 := up (up (up (lyW w (132 + vG w * 94 + 3) B s (en B n s - s)) (132 + vG w * 94 + 0) a) (132 + vG w * 94 + 1) b) (132 + vG w * 94 + 2) c
def uGh (w : Nat → Int32) (s : Nat) : Except (Nat × Nat) (Nat × (Nat → Int32)) := match pNew B n (fNm w 135 94 B s (en B n s - s) (vG w)) s with
  | .error e => .error e
  | .ok _ => match pNum B n 0 23 (nx B n s) with
    | .error e => .error e
    | .ok (s2, a) => match pNum B n 0 23 s2 with
      | .error e => .error e
      | .ok (s3, b) => match pNum B n 0 30 s3 with
        | .error e => .error e
        | .ok (s4, c) => .ok (s4, gatW B n w s a b c)
noncomputable def uGa (w : Nat → Int32) (s : Nat) : Except (Nat × Nat) (Nat × (Nat → Int32)) := match uGh B n w s with
  | .error e => .error e
  | .ok (s4, w4) => match uCm B n (132 + vG w * 94) (vT w) 0 s4 w4 with
    | .error e => .error e
    | .ok (s6, w1) => .ok (s6, bldW (up w1 2 (nn (vG w + 1))) (vG w))
/-- unit after unit, each behind the word i, at most lim -/
noncomputable def uLoop (i lim : Nat) (cnt : (Nat → Int32) → Nat) (u : (Nat → Int32) → Nat → Except (Nat × Nat) (Nat × (Nat → Int32))) : Nat → Nat → (Nat → Int32) → Except (Nat × Nat) (Nat × (Nat → Int32))
  | 0, s, _ => .error (1, s)
  | f + 1, s, w => if wd B n s i = true then (if cnt w = lim then .error (5, s) else match u w (nx B n s) with
      | .error e => .error e
      | .ok (s', w') => uLoop i lim cnt u f s' w') else (if cnt w = 0 then .error (1, s) else .ok (s, w))
end SU
