/-! STATES: what the changes keep -/
theorem msk_cg {p q : Nat → Bool} : ∀ n, (∀ k, k < n → p k = q k) → msk p n = msk q n
  | 0, _ => rfl
  | n + 1, h => by
    show msk p n + (if p n then 2 ^ n else 0) = msk q n + (if q n then 2 ^ n else 0)
    rw [msk_cg n (fun k hk => h k (by omega)), h n (by omega)]
theorem yse_cg {T : Nat} {ty ty' : Nat → Nat} (h : ∀ t, t < T → ty' t = ty t) : yse T ty' = yse T ty := by
  funext q
  exact msk_cg T (fun t ht => by rw [h t ht])
theorem nmO.to {w w' : Nat → Int32} {a : Nat} (h : nmO w a) (e : ∀ i, i < 7 → w' (a + i) = w (a + i)) : nmO w' a ∧ pnm w' a = pnm w a := by
  obtain ⟨h1, h2, h3, h4⟩ := h
  have el : lnW w' a = lnW w a := by unfold lnW; have := e 0 (by decide); rw [Nat.add_zero] at this; rw [this]
  have et : ∀ i, i < lnW w a → ltW w' a i = ltW w a i := fun i hi => by unfold ltW; rw [Nat.add_assoc, e (1 + i) (by omega)]
  refine ⟨⟨by rw [el]; have := e 0 (by decide); rw [Nat.add_zero] at this; rw [this]; exact h1, by rw [el]; exact h2, by rw [el]; exact h3, fun i hi => ?_⟩, ?_⟩
  · rw [el] at hi
    rw [et i hi, Nat.add_assoc, e (1 + i) (by omega), ← Nat.add_assoc]
    exact h4 i hi
  · unfold pnm
    rw [el]
    exact congrArg ll (nsum_congr _ (fun i hi => by rw [et i hi]))
theorem gtW.to {w w' : Nat → Int32} {g : Nat} (h : gtW w g) (hQ : vQ w' = vQ w) (hT : vT w' = vT w) (hT8 : vT w ≤ 8) (hy : ∀ t, t < vT w → tyW w' t = tyW w t) (e : ∀ k, k < 94 → ¬ (10 ≤ k ∧ k < 18) → k ≠ 2 → w' (132 + g * 94 + k) = w (132 + g * 94 + k)) (l : ∃ v, v ≤ 30 ∧ w' (132 + g * 94 + 2) = nn v) (c : ∀ t, t < vT w → ∃ v, v ≤ 9999 ∧ w' (132 + g * 94 + (10 + t)) = nn v) : gtW w' g := by
  obtain ⟨⟨a1, a2⟩, ⟨b1, b2⟩, -, nm, -, t1, t2, t3, t4⟩ := h
  obtain ⟨v, v1, v2⟩ := l
  have e0 := e 0 (by decide) (by decide) (by decide)
  have e1 := e 1 (by decide) (by decide) (by decide)
  have e18 := e 18 (by decide) (by decide) (by decide)
  have eo : opW w' g = opW w g := by unfold opW; rw [e0]
  have ec : clW w' g = clW w g := by unfold clW; rw [e1]
  have et : teW w' g = teW w g := by unfold teW; rw [e18]
  have el : lmW w' g = v := by unfold lmW; rw [v2, nn_nat (by omega)]
  refine ⟨⟨by rw [eo, e0]; exact a1, by rw [eo]; exact a2⟩, ⟨by rw [ec, e1]; exact b1, by rw [ec]; exact b2⟩, ⟨by rw [el]; exact v2, by rw [el]; exact v1⟩, (nm.to (fun i hi => by rw [Nat.add_assoc]; exact e (3 + i) (by omega) (by omega) (by omega))).1, fun t ht => ?_, ?_⟩
  · rw [hT] at ht
    obtain ⟨u, u1, u2⟩ := c t ht
    have : ctW w' g t = u := by unfold ctW; rw [u2, nn_nat (by omega)]
    rw [this]
    exact ⟨u2, u1⟩
  · rw [hQ, hT, et]
    refine ⟨by rw [e18]; exact t1, t2, t3, ?_⟩
    rw [yse_cg hy]
    exact tva_cong t4 (fun j _ j2 => ⟨e _ (by omega) (by omega) (by omega), e _ (by omega) (by omega) (by omega), e _ (by omega) (by omega) (by omega), e _ (by omega) (by omega) (by omega), e _ (by omega) (by omega) (by omega)⟩)
theorem wfp.of {w w' : Nat → Int32} (h : wfp w) (e : ∀ j, j < 3 → w' j = w j) (c : ∃ k, k ≤ 9999 ∧ w' 3 = nn k) (eq : ∀ j, 12 ≤ j → j < 60 → w' j = w j) (et : ∀ t, t < vT w → (∀ k, 1 ≤ k → k < 9 → w' (60 + t * 9 + k) = w (60 + t * 9 + k)) ∧ ∃ v, v ≤ 99 ∧ w' (60 + t * 9) = nn v) (eg : ∀ g, g < vG w → gtW w' g) : wfp w' := by
  obtain ⟨⟨q0, q6⟩, ⟨t0, t8⟩, ⟨g0, g4⟩, -, hq, ht, -⟩ := h
  obtain ⟨k, k1, k2⟩ := c
  have vq : vQ w' = vQ w := by unfold vQ; rw [e 0 (by decide)]
  have vt : vT w' = vT w := by unfold vT; rw [e 1 (by decide)]
  have vg : vG w' = vG w := by unfold vG; rw [e 2 (by decide)]
  have vc : vC w' = k := by unfold vC; rw [k2, nn_nat (by omega)]
  refine ⟨⟨by rw [vq, e 0 (by decide)]; exact q0, by rw [vq]; exact q6⟩, ⟨by rw [vt, e 1 (by decide)]; exact t0, by rw [vt]; exact t8⟩, ⟨by rw [vg, e 2 (by decide)]; exact g0, by rw [vg]; exact g4⟩, ⟨by rw [vc]; exact k2, by rw [vc]; exact k1⟩, fun q a => ?_, fun t a => ?_, fun g a => eg g (by rw [← vg]; exact a)⟩
  · rw [vq] at a
    obtain ⟨h1, h2, h3, h4⟩ := hq q a
    have eqc : qcW w' q = qcW w q := by unfold qcW; rw [eq _ (by omega) (by omega)]
    exact ⟨by rw [eqc, eq _ (by omega) (by omega)]; exact h1, by rw [eqc]; exact h2, by rw [eqc]; exact h3, (h4.to (fun i hi => eq _ (by omega) (by omega))).1⟩
  · rw [vt] at a
    obtain ⟨h1, h2, h3, h4, h5⟩ := ht t a
    obtain ⟨x1, v, v1, v2⟩ := et t a
    have etl : tlW w' t = v := by unfold tlW; rw [v2, nn_nat (by omega)]
    have ety : tyW w' t = tyW w t := by unfold tyW; rw [x1 1 (by decide) (by decide)]
    exact ⟨by rw [etl]; exact v2, by rw [etl]; exact v1, by rw [ety, x1 1 (by decide) (by decide)]; exact h3, by rw [ety, vq]; exact h4, (h5.to (fun i hi => by rw [Nat.add_assoc]; exact x1 (2 + i) (by omega) (by omega))).1⟩
/-- what a station tells of a row that was changed a little -/
theorem stR.of {I I' : am_I} {L L' : am_L} {b : Nat} {w w' : Nat → Int32} (h : stR I L b w) (hw : wfp w) (e : ∀ j, j < 3 → w' j = w j) (eq : ∀ j, 12 ≤ j → j < 60 → w' j = w j) (et : ∀ t, t < vT w → ∀ k, 1 ≤ k → k < 9 → w' (60 + t * 9 + k) = w (60 + t * 9 + k)) (en : ∀ g, g < vG w → ∀ k, 3 ≤ k → k < 10 → w' (132 + g * 94 + k) = w (132 + g * 94 + k))
    (c0 : ∀ j, j < 3 → I' b j = I b j) (c3 : I' b 3 = w' 3) (c2 : ∀ j, I' (b + 2) j = I (b + 2) j) (c2b : ∀ j, I' (b + 3) j = I (b + 3) j) (c5 : ∀ t, t < vT w → I' (b + 5) t = w' (60 + t * 9)) (c7 : ∀ j, j < 8 → I' (b + 7) j = w' (4 + j)) (l1 : L' (b + 1) = L (b + 1)) (l4 : L' (b + 4) = L (b + 4)) (lg : ∀ g, g < vG w → L' (gc b g) 0 = L (gc b g) 0)
    (cg : ∀ g, g < vG w → I' (gc b g) 1 = w' (132 + g * 94 + 0) ∧ I' (gc b g) 2 = w' (132 + g * 94 + 1) ∧ I' (gc b g) 3 = w' (132 + g * 94 + 2) ∧ (∀ t, t < vT w → I' (gc b g + 1) t = w' (132 + g * 94 + (10 + t))) ∧ I' (gc b g + 2) 0 = w' (132 + g * 94 + 18) ∧ ∀ n, n < teW w' g → I' (gc b g + 2 + 1) n = rw5 w' g 0 n ∧ I' (gc b g + 2 + 2) n = rw5 w' g 1 n ∧ I' (gc b g + 2 + 3) n = rw5 w' g 3 n ∧ I' (gc b g + 2 + 4) n = rw5 w' g 4 n) : stR I' L' b w' := by
  obtain ⟨⟨h1, h1a, h1b, h1c⟩, h2, h3, h4, h5⟩ := h
  obtain ⟨⟨q0, q6⟩, ⟨t0, t8⟩, ⟨g0, g4⟩, -, hq, ht, hgg⟩ := hw
  have vq : vQ w' = vQ w := by unfold vQ; rw [e 0 (by decide)]
  have vt : vT w' = vT w := by unfold vT; rw [e 1 (by decide)]
  have vg : vG w' = vG w := by unfold vG; rw [e 2 (by decide)]
  have ety : ∀ t, t < vT w → tyW w' t = tyW w t := fun t a => by unfold tyW; rw [et t a 1 (by decide) (by decide)]
  refine ⟨⟨by rw [c0 0 (by decide), e 0 (by decide)]; exact h1, by rw [c0 1 (by decide), e 1 (by decide)]; exact h1a, by rw [c0 2 (by decide), e 2 (by decide)]; exact h1b, c3⟩, fun q a => ?_, fun t a => ?_, c7, fun g a => ?_⟩
  · rw [vq] at a
    obtain ⟨x1, x2, x3⟩ := h2 q a
    refine ⟨?_, ?_, ?_⟩
    · rw [l1, ((hq q a).2.2.2.to (w' := w') (fun i hi => eq _ (by omega) (by omega))).2]; exact x1
    · rw [c2, eq _ (by omega) (by omega)]; exact x2
    · rw [c2b, vt, yse_cg ety]; exact x3
  · rw [vt] at a
    obtain ⟨x1, x2⟩ := h3 t a
    refine ⟨?_, c5 t a⟩
    rw [l4, ((ht t a).2.2.2.2.to (w' := w') (fun i hi => by rw [Nat.add_assoc]; exact et t a (2 + i) (by omega) (by omega))).2]; exact x1
  · rw [vg] at a
    obtain ⟨y1, y2, y3, y4, y5, y6⟩ := cg g a
    refine ⟨?_, y1, y2, y3, fun t b => y4 t (by rw [← vt]; exact b), y5, y6⟩
    rw [lg g a, ((hgg g a).2.2.2.1.to (w' := w') (fun i hi => by rw [Nat.add_assoc]; exact en g a (3 + i) (by omega) (by omega))).2]
    exact (h5 g a).1
theorem wfs.of {w w' : Nat → Int32} (h : wfs w) (e : ∀ j, j < 3 → w' j = w j) (hw : wfp w') : wfs w' :=
  ⟨hw, by unfold vQ; rw [e 0 (by decide)]; exact h.2.1, by unfold vT; rw [e 1 (by decide)]; exact h.2.2.1, by unfold vG; rw [e 2 (by decide)]; exact h.2.2.2⟩
theorem wfp.c3 {w w' : Nat → Int32} (h : wfp w) (e : w' 3 = w 3) : ∃ k, k ≤ 9999 ∧ w' 3 = nn k := ⟨vC w, h.2.2.2.1.2, e.trans h.2.2.2.1.1⟩
theorem wfp.tl {w w' : Nat → Int32} (h : wfp w) (e : ∀ j, 60 ≤ j → j < 132 → w' j = w j) : ∀ t, t < vT w → (∀ k, 1 ≤ k → k < 9 → w' (60 + t * 9 + k) = w (60 + t * 9 + k)) ∧ ∃ v, v ≤ 99 ∧ w' (60 + t * 9) = nn v := fun t ht => by
  have := h.2.1.2
  exact ⟨fun k _ _ => e _ (by omega) (by omega), tlW w t, (h.2.2.2.2.2.1 t ht).2.1, (e _ (by omega) (by omega)).trans (h.2.2.2.2.2.1 t ht).1⟩
/-- gates whose numbers stand as they did, counts and limit aside -/
theorem wfp.gt {w w' : Nat → Int32} (h : wfp w) {g : Nat} (hg : g < vG w) (e : ∀ j, j < 3 → w' j = w j) (ey : ∀ t, t < 8 → w' (60 + t * 9 + 1) = w (60 + t * 9 + 1)) (ek : ∀ k, k < 94 → ¬ (10 ≤ k ∧ k < 18) → k ≠ 2 → w' (132 + g * 94 + k) = w (132 + g * 94 + k)) (l : ∃ v, v ≤ 30 ∧ w' (132 + g * 94 + 2) = nn v) (c : ∀ t, t < vT w → ∃ v, v ≤ 9999 ∧ w' (132 + g * 94 + (10 + t)) = nn v) : gtW w' g := by
  have t8 := h.2.1.2
  exact (h.2.2.2.2.2.2 g hg).to (by unfold vQ; rw [e 0 (by decide)]) (by unfold vT; rw [e 1 (by decide)]) h.2.1.2 (fun t ht => by unfold tyW; rw [ey t (by omega)]) ek l c
theorem wfp.lim {w w' : Nat → Int32} (h : wfp w) {g : Nat} (hg : g < vG w) (e : w' (132 + g * 94 + 2) = w (132 + g * 94 + 2)) : ∃ v, v ≤ 30 ∧ w' (132 + g * 94 + 2) = nn v := ⟨lmW w g, (h.2.2.2.2.2.2 g hg).2.2.1.2, e.trans (h.2.2.2.2.2.2 g hg).2.2.1.1⟩
theorem wfp.cnt {w w' : Nat → Int32} (h : wfp w) {g : Nat} (hg : g < vG w) (e : ∀ t, t < 8 → w' (132 + g * 94 + (10 + t)) = w (132 + g * 94 + (10 + t))) : ∀ t, t < vT w → ∃ v, v ≤ 9999 ∧ w' (132 + g * 94 + (10 + t)) = nn v := fun t ht => by
  have t8 := h.2.1.2
  exact ⟨ctW w g t, ((h.2.2.2.2.2.2 g hg).2.2.2.2.1 t ht).2, (e t (by omega)).trans ((h.2.2.2.2.2.2 g hg).2.2.2.2.1 t ht).1⟩
/-! each change -/
theorem pasW_at {w : Nat → Int32} {g t : Nat} {n c p d : Int32} {j : Nat} (h1 : j ≠ 132 + g * 94 + (10 + t)) (h2 : ¬ (4 ≤ j ∧ j < 12)) : pasW w g t n c p d j = w j := by
  unfold pasW
  rw [if_neg h1, if_neg h2]
theorem wfs_pas {w : Nat → Int32} (h : wfs w) {g t n : Nat} (hg : g < vG w) (ht : t < vT w) (hn : n ≤ 999) (c p d : Int32) : wfs (pasW w g t (nn n) c p d) := by
  have hw := h.1
  have t8 := hw.2.1.2
  have e3 : ∀ j, j < 3 → pasW w g t (nn n) c p d j = w j := fun j hj => pasW_at (by omega) (by omega)
  refine h.of e3 (hw.of e3 (hw.c3 (pasW_at (by omega) (by omega))) (fun j a b => pasW_at (by omega) (by omega)) (hw.tl (fun j a b => pasW_at (by omega) (by omega))) (fun g' hg' => hw.gt hg' e3 (fun u hu => pasW_at (by omega) (by omega)) (fun k a b d' => pasW_at (by omega) (by omega)) (hw.lim hg' (pasW_at (by omega) (by omega))) (fun u hu => ?_)))
  obtain ⟨c1, c2⟩ := (hw.2.2.2.2.2.2 g' hg').2.2.2.2.1 u hu
  by_cases he : 132 + g' * 94 + (10 + u) = 132 + g * 94 + (10 + t)
  · unfold pasW
    rw [if_pos he, c1, nn_add, nl_9999]
    by_cases hl : ctW w g' u + n < 9999
    · rw [if_pos ((nn_lt (by omega) (by omega)).mpr hl)]
      exact ⟨_, by omega, rfl⟩
    · rw [if_neg (fun z => hl ((nn_lt (by omega) (by omega)).mp z))]
      exact ⟨9999, by omega, rfl⟩
  · exact ⟨ctW w g' u, c2, by rw [pasW_at he (by omega)]; exact c1⟩
theorem stR_pas {I I' : am_I} {L : am_L} {b : Nat} {w : Nat → Int32} (h : stR I L b w) (hw : wfp w) {g t : Nat} (hg : g < vG w) (ht : t < vT w) {n c p d : Int32} (c7 : ∀ j, j < 8 → I' (b + 7) j = addT (I (b + 7)) n c p d j) (cc : ∀ j, I' (gc b g + 1) j = if j = t then (if I (gc b g + 1) t + n < 9999 then I (gc b g + 1) t + n else 9999) else I (gc b g + 1) j) (co : ∀ k, k ≠ b + 7 → k ≠ gc b g + 1 → I' k = I k) : stR I' L b (pasW w g t n c p d) := by
  have t8 := hw.2.1.2
  have g4 := hw.2.2.1.2
  have ge : ∀ g, gc b g = b + (8 + 7 * g) := fun _ => rfl
  have hge := ge g
  refine h.of hw (fun j hj => pasW_at (by omega) (by omega)) (fun j a b => pasW_at (by omega) (by omega)) (fun u hu k a b => pasW_at (by omega) (by omega)) (fun g' hg' k a b => pasW_at (by omega) (by omega)) (fun j _ => by rw [co _ (by omega) (by omega)]) (by rw [co _ (by omega) (by omega), pasW_at (by omega) (by omega)]; exact h.1.2.2.2) (fun j => by rw [co _ (by omega) (by omega)]) (fun j => by rw [co _ (by omega) (by omega)]) (fun u hu => by rw [co _ (by omega) (by omega), pasW_at (by omega) (by omega)]; exact (h.2.2.1 u hu).2) (fun j hj => ?_) rfl rfl (fun _ _ => rfl) (fun g' hg' => ?_)
  · rw [c7 j hj]
    unfold pasW
    rw [if_neg (by omega), if_pos (by omega), show 4 + j - 4 = j by omega]
    have e : ∀ i, i < 8 → I (b + 7) i = w (4 + i) := h.2.2.2.1
    have : j = 0 ∨ j = 1 ∨ j = 2 ∨ j = 3 ∨ j = 4 ∨ j = 5 ∨ j = 6 ∨ j = 7 := by omega
    rcases this with z | z | z | z | z | z | z | z <;> subst z <;> simp only [addT, e 0 (by decide), e 1 (by decide), e 2 (by decide), e 3 (by decide), e 4 (by decide), e 5 (by decide), e 6 (by decide), e 7 (by decide)]
  · obtain ⟨y0, y1, y2, y3, y4, y5, y6⟩ := h.2.2.2.2 g' hg'
    have hge' := ge g'
    have te : teW (pasW w g t n c p d) g' = teW w g' := by unfold teW; rw [pasW_at (by omega) (by omega)]
    have e15 := (hw.tr hg').2.2.1
    refine ⟨?_, ?_, ?_, fun u hu => ?_, ?_, fun k hk => ?_⟩
    · rw [co _ (by omega) (by omega), pasW_at (by omega) (by omega)]; exact y1
    · rw [co _ (by omega) (by omega), pasW_at (by omega) (by omega)]; exact y2
    · rw [co _ (by omega) (by omega), pasW_at (by omega) (by omega)]; exact y3
    · by_cases he : g' = g
      · subst he
        rw [cc u]
        by_cases hu2 : u = t
        · subst hu2
          rw [if_pos rfl, y4 u hu]
          unfold pasW
          rw [if_pos rfl]
        · rw [if_neg hu2, pasW_at (by omega) (by omega)]
          exact y4 u hu
      · rw [co _ (by omega) (by omega), pasW_at (by omega) (by omega)]; exact y4 u hu
    · rw [co _ (by omega) (by omega), pasW_at (by omega) (by omega)]; exact y5
    · rw [te] at hk
      obtain ⟨z1, z2, z3, z4⟩ := y6 k hk
      refine ⟨?_, ?_, ?_, ?_⟩
      · rw [co _ (by omega) (by omega), z1]; exact (show pasW w g t n c p d (132 + g' * 94 + (19 + k * 5 + 0)) = w (132 + g' * 94 + (19 + k * 5 + 0)) from pasW_at (by rcases Nat.lt_trichotomy g' g with z | z | z <;> omega) (by omega)).symm
      · rw [co _ (by omega) (by omega), z2]; exact (show pasW w g t n c p d (132 + g' * 94 + (19 + k * 5 + 1)) = w (132 + g' * 94 + (19 + k * 5 + 1)) from pasW_at (by rcases Nat.lt_trichotomy g' g with z | z | z <;> omega) (by omega)).symm
      · rw [co _ (by omega) (by omega), z3]; exact (show pasW w g t n c p d (132 + g' * 94 + (19 + k * 5 + 3)) = w (132 + g' * 94 + (19 + k * 5 + 3)) from pasW_at (by rcases Nat.lt_trichotomy g' g with z | z | z <;> omega) (by omega)).symm
      · rw [co _ (by omega) (by omega), z4]; exact (show pasW w g t n c p d (132 + g' * 94 + (19 + k * 5 + 4)) = w (132 + g' * 94 + (19 + k * 5 + 4)) from pasW_at (by rcases Nat.lt_trichotomy g' g with z | z | z <;> omega) (by omega)).symm
theorem hlW_at {w : Nat → Int32} {g j : Nat} (h : ¬ (132 + g * 94 + 10 ≤ j ∧ j < 132 + g * 94 + 18)) (h8 : vT w ≤ 8) : hlW w g j = w j := by
  unfold hlW
  rw [if_neg (by omega)]
theorem wfs_hl {w : Nat → Int32} (h : wfs w) {g : Nat} (hg : g < vG w) : wfs (hlW w g) := by
  have hw := h.1
  have t8 := hw.2.1.2
  have e3 : ∀ j, j < 3 → hlW w g j = w j := fun j hj => hlW_at (by omega) t8
  refine h.of e3 (hw.of e3 (hw.c3 (hlW_at (by omega) t8)) (fun j a b => hlW_at (by omega) t8) (hw.tl (fun j a b => hlW_at (by omega) t8)) (fun g' hg' => hw.gt hg' e3 (fun u hu => hlW_at (by omega) t8) (fun k a b d' => hlW_at (by omega) t8) (hw.lim hg' (hlW_at (by omega) t8)) (fun u hu => ?_)))
  obtain ⟨c1, c2⟩ := (hw.2.2.2.2.2.2 g' hg').2.2.2.2.1 u hu
  by_cases he : 132 + g * 94 + 10 ≤ 132 + g' * 94 + (10 + u) ∧ 132 + g' * 94 + (10 + u) < 132 + g * 94 + 10 + vT w
  · unfold hlW
    rw [if_pos he, c1, nl_2, nn_div (by omega) (by omega)]
    exact ⟨_, by omega, rfl⟩
  · refine ⟨ctW w g' u, c2, ?_⟩
    unfold hlW
    rw [if_neg he]
    exact c1
theorem stR_hl {I I' : am_I} {L : am_L} {b : Nat} {w : Nat → Int32} (h : stR I L b w) (hw : wfp w) {g : Nat} (hg : g < vG w) (cc : ∀ j, j < 8 → I' (gc b g + 1) j = I (gc b g + 1) j / 2) (co : ∀ k, k ≠ gc b g + 1 → I' k = I k) : stR I' L b (hlW w g) := by
  have t8 := hw.2.1.2
  have g4 := hw.2.2.1.2
  have ge : ∀ g, gc b g = b + (8 + 7 * g) := fun _ => rfl
  have hge := ge g
  refine h.of hw (fun j hj => hlW_at (by omega) t8) (fun j a b => hlW_at (by omega) t8) (fun u hu k a b => hlW_at (by omega) t8) (fun g' hg' k a b => hlW_at (by omega) t8) (fun j _ => by rw [co _ (by omega)]) (by rw [co _ (by omega), hlW_at (by omega) t8]; exact h.1.2.2.2) (fun j => by rw [co _ (by omega)]) (fun j => by rw [co _ (by omega)]) (fun u hu => by rw [co _ (by omega), hlW_at (by omega) t8]; exact (h.2.2.1 u hu).2) (fun j hj => by rw [co _ (by omega), hlW_at (by omega) t8]; exact h.2.2.2.1 j hj) rfl rfl (fun _ _ => rfl) (fun g' hg' => ?_)
  obtain ⟨y0, y1, y2, y3, y4, y5, y6⟩ := h.2.2.2.2 g' hg'
  have hge' := ge g'
  have te : teW (hlW w g) g' = teW w g' := by unfold teW; rw [hlW_at (by omega) t8]
  have e15 := (hw.tr hg').2.2.1
  refine ⟨?_, ?_, ?_, fun u hu => ?_, ?_, fun k hk => ?_⟩
  · rw [co _ (by omega), hlW_at (by omega) t8]; exact y1
  · rw [co _ (by omega), hlW_at (by omega) t8]; exact y2
  · rw [co _ (by omega), hlW_at (by omega) t8]; exact y3
  · by_cases he : g' = g
    · subst he
      rw [cc u (by omega), y4 u hu]
      unfold hlW
      rw [if_pos (by omega)]
    · rw [co _ (by omega), hlW_at (by omega) t8]; exact y4 u hu
  · rw [co _ (by omega), hlW_at (by omega) t8]; exact y5
  · rw [te] at hk
    obtain ⟨z1, z2, z3, z4⟩ := y6 k hk
    refine ⟨?_, ?_, ?_, ?_⟩
    · rw [co _ (by omega), z1]; exact (show hlW w g (132 + g' * 94 + (19 + k * 5 + 0)) = w (132 + g' * 94 + (19 + k * 5 + 0)) from hlW_at (by rcases Nat.lt_trichotomy g' g with z | z | z <;> omega) t8).symm
    · rw [co _ (by omega), z2]; exact (show hlW w g (132 + g' * 94 + (19 + k * 5 + 1)) = w (132 + g' * 94 + (19 + k * 5 + 1)) from hlW_at (by rcases Nat.lt_trichotomy g' g with z | z | z <;> omega) t8).symm
    · rw [co _ (by omega), z3]; exact (show hlW w g (132 + g' * 94 + (19 + k * 5 + 3)) = w (132 + g' * 94 + (19 + k * 5 + 3)) from hlW_at (by rcases Nat.lt_trichotomy g' g with z | z | z <;> omega) t8).symm
    · rw [co _ (by omega), z4]; exact (show hlW w g (132 + g' * 94 + (19 + k * 5 + 4)) = w (132 + g' * 94 + (19 + k * 5 + 4)) from hlW_at (by rcases Nat.lt_trichotomy g' g with z | z | z <;> omega) t8).symm
theorem wfs_toll {w : Nat → Int32} (h : wfs w) {t v : Nat} (ht : t < vT w) (hv : v ≤ 99) : wfs (up w (60 + t * 9) (nn v)) := by
  have hw := h.1
  have t8 := hw.2.1.2
  have e3 : ∀ j, j < 3 → up w (60 + t * 9) (nn v) j = w j := fun j hj => up_ne (by omega)
  refine h.of e3 (hw.of e3 (hw.c3 (up_ne (by omega))) (fun j a b => up_ne (by omega)) (fun u hu => ⟨fun k a b => up_ne (by omega), ?_⟩) (fun g' hg' => hw.gt hg' e3 (fun u hu => up_ne (by omega)) (fun k a b d' => up_ne (by omega)) (hw.lim hg' (up_ne (by omega))) (hw.cnt hg' (fun u hu => up_ne (by omega)))))
  by_cases he : u = t
  · subst he
    exact ⟨v, hv, up_eq _ _ _⟩
  · exact ⟨tlW w u, (hw.2.2.2.2.2.1 u hu).2.1, by rw [up_ne (by omega)]; exact (hw.2.2.2.2.2.1 u hu).1⟩
theorem gaR_same {I I' : am_I} {L : am_L} {b : Nat} {w w' : Nat → Int32} {g : Nat} (h : gaR I L (gc b g) w g) (hw : wfp w) (hg : g < vG w) (co : ∀ k, gc b g ≤ k → k < gc b g + 7 → I' k = I k) (e : ∀ k, k < 94 → w' (132 + g * 94 + k) = w (132 + g * 94 + k)) : I' (gc b g) 1 = w' (132 + g * 94 + 0) ∧ I' (gc b g) 2 = w' (132 + g * 94 + 1) ∧ I' (gc b g) 3 = w' (132 + g * 94 + 2) ∧ (∀ t, t < vT w → I' (gc b g + 1) t = w' (132 + g * 94 + (10 + t))) ∧ I' (gc b g + 2) 0 = w' (132 + g * 94 + 18) ∧ ∀ n, n < teW w' g → I' (gc b g + 2 + 1) n = rw5 w' g 0 n ∧ I' (gc b g + 2 + 2) n = rw5 w' g 1 n ∧ I' (gc b g + 2 + 3) n = rw5 w' g 3 n ∧ I' (gc b g + 2 + 4) n = rw5 w' g 4 n := by
  have t8 := hw.2.1.2
  obtain ⟨y0, y1, y2, y3, y4, y5, y6⟩ := h
  have te : teW w' g = teW w g := by unfold teW; rw [e 18 (by decide)]
  have e15 := (hw.tr hg).2.2.1
  refine ⟨by rw [co _ (by omega) (by omega), e 0 (by decide)]; exact y1, by rw [co _ (by omega) (by omega), e 1 (by decide)]; exact y2, by rw [co _ (by omega) (by omega), e 2 (by decide)]; exact y3, fun u hu => by rw [co _ (by omega) (by omega), e _ (by omega)]; exact y4 u hu, by rw [co _ (by omega) (by omega), e 18 (by decide)]; exact y5, fun k hk => ?_⟩
  rw [te] at hk
  obtain ⟨z1, z2, z3, z4⟩ := y6 k hk
  refine ⟨?_, ?_, ?_, ?_⟩
  · rw [co _ (by omega) (by omega), z1]; exact (e _ (by omega)).symm
  · rw [co _ (by omega) (by omega), z2]; exact (e _ (by omega)).symm
  · rw [co _ (by omega) (by omega), z3]; exact (e _ (by omega)).symm
  · rw [co _ (by omega) (by omega), z4]; exact (e _ (by omega)).symm
theorem stR_toll {I : am_I} {L : am_L} {b : Nat} {w : Nat → Int32} (h : stR I L b w) (hw : wfp w) {t : Nat} (ht : t < vT w) (v : Int32) : stR (am_u I (b + 5) t v) L b (up w (60 + t * 9) v) := by
  have t8 := hw.2.1.2
  have g4 := hw.2.2.1.2
  have ge : ∀ g, gc b g = b + (8 + 7 * g) := fun _ => rfl
  have co : ∀ k, k ≠ b + 5 → am_u I (b + 5) t v k = I k := fun k hk => am_u_ne hk
  refine h.of hw (fun j hj => up_ne (by omega)) (fun j a b => up_ne (by omega)) (fun u hu k a b => up_ne (by omega)) (fun g' hg' k a b => up_ne (by omega)) (fun j _ => by rw [co _ (by omega)]) (by rw [co _ (by omega), up_ne (by omega)]; exact h.1.2.2.2) (fun j => by rw [co _ (by omega)]) (fun j => by rw [co _ (by omega)]) (fun u hu => ?_) (fun j hj => by rw [co _ (by omega), up_ne (by omega)]; exact h.2.2.2.1 j hj) rfl rfl (fun _ _ => rfl) (fun g' hg' => gaR_same (h.2.2.2.2 g' hg') hw hg' (fun k a _ => co k (by have := ge g'; omega)) (fun k hk => up_ne (by omega)))
  rw [am_u_at]
  by_cases he : u = t
  · subst he
    rw [if_pos ⟨rfl, rfl⟩, up_eq]
  · rw [if_neg (fun z => he z.2), up_ne (by omega)]; exact (h.2.2.1 u hu).2
theorem wfs_clock {w : Nat → Int32} (h : wfs w) {v : Nat} (hv : v ≤ 9999) : wfs (up w 3 (nn v)) := by
  have hw := h.1
  have e3 : ∀ j, j < 3 → up w 3 (nn v) j = w j := fun j hj => up_ne (by omega)
  exact h.of e3 (hw.of e3 ⟨v, hv, up_eq _ _ _⟩ (fun j a b => up_ne (by omega)) (hw.tl (fun j a b => up_ne (by omega))) (fun g' hg' => hw.gt hg' e3 (fun u hu => up_ne (by omega)) (fun k a b d' => up_ne (by omega)) (hw.lim hg' (up_ne (by omega))) (hw.cnt hg' (fun u hu => up_ne (by omega)))))
theorem stR_clock {I : am_I} {L : am_L} {b : Nat} {w : Nat → Int32} (h : stR I L b w) (hw : wfp w) (v : Int32) : stR (am_u I b 3 v) L b (up w 3 v) := by
  have g4 := hw.2.2.1.2
  have ge : ∀ g, gc b g = b + (8 + 7 * g) := fun _ => rfl
  have co : ∀ k, k ≠ b → am_u I b 3 v k = I k := fun k hk => am_u_ne hk
  exact h.of hw (fun j hj => up_ne (by omega)) (fun j a b => up_ne (by omega)) (fun u hu k a b => up_ne (by omega)) (fun g' hg' k a b => up_ne (by omega)) (fun j hj => by rw [am_u_at, if_neg (fun z => by omega)]) (by rw [am_u_at, if_pos ⟨rfl, rfl⟩, up_eq]) (fun j => by rw [co _ (by omega)]) (fun j => by rw [co _ (by omega)]) (fun u hu => by rw [co _ (by omega), up_ne (by omega)]; exact (h.2.2.1 u hu).2) (fun j hj => by rw [co _ (by omega), up_ne (by omega)]; exact h.2.2.2.1 j hj) rfl rfl (fun _ _ => rfl) (fun g' hg' => gaR_same (h.2.2.2.2 g' hg') hw hg' (fun k a _ => co k (by have := ge g'; omega)) (fun k hk => up_ne (by omega)))
theorem wfs_lim {w : Nat → Int32} (h : wfs w) {g v : Nat} (hg : g < vG w) (hv : v ≤ 30) : wfs (up w (132 + g * 94 + 2) (nn v)) := by
  have hw := h.1
  have t8 := hw.2.1.2
  have e3 : ∀ j, j < 3 → up w (132 + g * 94 + 2) (nn v) j = w j := fun j hj => up_ne (by omega)
  refine h.of e3 (hw.of e3 (hw.c3 (up_ne (by omega))) (fun j a b => up_ne (by omega)) (hw.tl (fun j a b => up_ne (by omega))) (fun g' hg' => hw.gt hg' e3 (fun u hu => up_ne (by omega)) (fun k a b d' => up_ne (by omega)) ?_ (hw.cnt hg' (fun u hu => up_ne (by omega)))))
  by_cases he : g' = g
  · subst he
    exact ⟨v, hv, up_eq _ _ _⟩
  · exact hw.lim hg' (up_ne (by omega))
theorem stR_lim {I : am_I} {L : am_L} {b : Nat} {w : Nat → Int32} (h : stR I L b w) (hw : wfp w) {g : Nat} (hg : g < vG w) (v : Int32) : stR (am_u I (gc b g) 3 v) L b (up w (132 + g * 94 + 2) v) := by
  have g4 := hw.2.2.1.2
  have t8 := hw.2.1.2
  have ge : ∀ g, gc b g = b + (8 + 7 * g) := fun _ => rfl
  have hge := ge g
  have co : ∀ k, k ≠ gc b g → am_u I (gc b g) 3 v k = I k := fun k hk => am_u_ne hk
  refine h.of hw (fun j hj => up_ne (by omega)) (fun j a b => up_ne (by omega)) (fun u hu k a b => up_ne (by omega)) (fun g' hg' k a b => up_ne (by omega)) (fun j hj => by rw [co _ (by omega)]) (by rw [co _ (by omega), up_ne (by omega)]; exact h.1.2.2.2) (fun j => by rw [co _ (by omega)]) (fun j => by rw [co _ (by omega)]) (fun u hu => by rw [co _ (by omega), up_ne (by omega)]; exact (h.2.2.1 u hu).2) (fun j hj => by rw [co _ (by omega), up_ne (by omega)]; exact h.2.2.2.1 j hj) rfl rfl (fun _ _ => rfl) (fun g' hg' => ?_)
  have hge' := ge g'
  by_cases he : g' = g
  · subst he
    obtain ⟨y0, y1, y2, y3, y4, y5, y6⟩ := h.2.2.2.2 g' hg'
    have te : teW (up w (132 + g' * 94 + 2) v) g' = teW w g' := by unfold teW; rw [up_ne (by omega)]
    refine ⟨by rw [am_u_at, if_neg (fun z => by omega), up_ne (by omega)]; exact y1, by rw [am_u_at, if_neg (fun z => by omega), up_ne (by omega)]; exact y2, by rw [am_u_at, if_pos ⟨rfl, rfl⟩, up_eq], fun u hu => by rw [co _ (by omega), up_ne (by omega)]; exact y4 u hu, by rw [co _ (by omega), up_ne (by omega)]; exact y5, fun k hk => ?_⟩
    rw [te] at hk
    obtain ⟨z1, z2, z3, z4⟩ := y6 k hk
    refine ⟨?_, ?_, ?_, ?_⟩
    · rw [co _ (by omega), z1]; exact (show up w (132 + g' * 94 + 2) v (132 + g' * 94 + (19 + k * 5 + 0)) = w (132 + g' * 94 + (19 + k * 5 + 0)) from up_ne (by omega)).symm
    · rw [co _ (by omega), z2]; exact (show up w (132 + g' * 94 + 2) v (132 + g' * 94 + (19 + k * 5 + 1)) = w (132 + g' * 94 + (19 + k * 5 + 1)) from up_ne (by omega)).symm
    · rw [co _ (by omega), z3]; exact (show up w (132 + g' * 94 + 2) v (132 + g' * 94 + (19 + k * 5 + 3)) = w (132 + g' * 94 + (19 + k * 5 + 3)) from up_ne (by omega)).symm
    · rw [co _ (by omega), z4]; exact (show up w (132 + g' * 94 + 2) v (132 + g' * 94 + (19 + k * 5 + 4)) = w (132 + g' * 94 + (19 + k * 5 + 4)) from up_ne (by omega)).symm
  · exact gaR_same (h.2.2.2.2 g' hg') hw hg' (fun k a b => co k (by omega)) (fun k hk => up_ne (by omega))
theorem bldR_at {w w' : Nat → Int32} {g : Nat} (h : bldR w g w') {j : Nat} (hj : ¬ (132 + g * 94 + 18 ≤ j ∧ j < 132 + g * 94 + 94)) : w' j = w j := by
  obtain ⟨e, h1, h2, h3, h4, h5⟩ := h
  exact h5 j (by omega) (by omega)
theorem bldR_tr {w w' : Nat → Int32} (hw : wfp w) (h0 : 0 < vT w) {g : Nat} (hg : g < vG w) (h : bldR w g w') : trW w' g (vQ w) (vT w) (tyW w) (teW w' g) := by
  obtain ⟨e, h1, h2, h3, h4, h5⟩ := h
  have md := hw.mda h0 hg
  have p8 := two_le8 md.2.2.2.2.1
  have p2 : 2 ^ 1 ≤ 2 ^ vT w := Nat.pow_le_pow_right (n := 2) (by decide) h0
  have te : teW w' g = e := by unfold teW; rw [h1, nn_nat (by omega)]
  rw [te]
  exact ⟨h1, h2, h3, tva_of md.2.2.1 md.2.2.2.2.1 (fun t a => (md.2.2.2.2.2.2 t a).2.2.2.2.2) (fun t a => (md.2.2.2.2.2.2 t a).2.1) (fun S a b => isBT_ex a b) h4 (by omega) (by omega) (hw.2.2.2.2.2.2 g hg).2.2.1.2⟩
theorem wfs_bld {w w' : Nat → Int32} (h : wfs w) {g : Nat} (hg : g < vG w) (hb : bldR w g w') : wfs w' := by
  have hw := h.1
  have t8 := hw.2.1.2
  have e3 : ∀ j, j < 3 → w' j = w j := fun j hj => bldR_at hb (by omega)
  refine h.of e3 (hw.of e3 (hw.c3 (bldR_at hb (by omega))) (fun j a b => bldR_at hb (by omega)) (hw.tl (fun j a b => bldR_at hb (by omega))) (fun g' hg' => ?_))
  by_cases he : g' = g
  · subst he
    obtain ⟨a1, a2, a3, a4, a5, -⟩ := hw.2.2.2.2.2.2 g' hg'
    have eo : opW w' g' = opW w g' := by unfold opW; rw [bldR_at hb (by omega)]
    have ec : clW w' g' = clW w g' := by unfold clW; rw [bldR_at hb (by omega)]
    have el : lmW w' g' = lmW w g' := by unfold lmW; rw [bldR_at hb (by omega)]
    have vq : vQ w' = vQ w := by unfold vQ; rw [e3 0 (by decide)]
    have vt : vT w' = vT w := by unfold vT; rw [e3 1 (by decide)]
    refine ⟨by rw [eo, bldR_at hb (by omega)]; exact a1, by rw [ec, bldR_at hb (by omega)]; exact a2, by rw [el, bldR_at hb (by omega)]; exact a3, (a4.to (fun i hi => bldR_at hb (by omega))).1, fun t ht => ?_, ?_⟩
    · rw [vt] at ht
      rw [show ctW w' g' t = ctW w g' t from by unfold ctW; rw [bldR_at hb (by omega)], bldR_at hb (by omega)]
      exact a5 t ht
    · have := bldR_tr hw h.2.2.1 hg' hb
      rw [vq, vt]
      refine ⟨this.1, this.2.1, this.2.2.1, ?_⟩
      rw [yse_cg (ty := tyW w) (fun t ht => by unfold tyW; rw [bldR_at hb (by omega)])]
      exact this.2.2.2
  · exact hw.gt hg' e3 (fun u hu => bldR_at hb (by omega)) (fun k a b d' => bldR_at hb (by omega)) (hw.lim hg' (bldR_at hb (by omega))) (hw.cnt hg' (fun u hu => bldR_at hb (by omega)))
theorem stR_bld {I I' : am_I} {L L' : am_L} {b e : Nat} {w w' : Nat → Int32} (h : stR I L b w) (hw : wfp w) {g : Nat} (hg : g < vG w) (hb : bldR w g w') (hs : I' (gc b g + 2) 0 = nn e) (h0 : 0 < e) (h15 : e ≤ 15)
    (ht : tvb (vQ w) (vT w) (qcW w) (yse (vT w) (tyW w)) (tlW w) (ctW w g) (fbq (-1)) (I' (gc b g + 2 + 1)) (I' (gc b g + 2 + 2)) (yF (I' (gc b g + 2 + 1))) (I' (gc b g + 2 + 3)) (I' (gc b g + 2 + 4)) 256 0 (2 ^ vT w - 1) (lmW w g) e) (co : ∀ k, b ≤ k → k < b + 36 → (k < gc b g + 2 ∨ gc b g + 7 ≤ k) → I' k = I k) (cl : ∀ k, b ≤ k → k < b + 36 → L' k = L k) : stR I' L' b w' := by
  have g4 := hw.2.2.1.2
  have t8 := hw.2.1.2
  have ge : ∀ g, gc b g = b + (8 + 7 * g) := fun _ => rfl
  have hge := ge g
  refine h.of hw (fun j hj => bldR_at hb (by omega)) (fun j a b => bldR_at hb (by omega)) (fun u hu k a b => bldR_at hb (by omega)) (fun g' hg' k a b => bldR_at hb (by omega)) (fun j hj => by rw [co _ (by omega) (by omega) (by omega)]) (by rw [co _ (by omega) (by omega) (by omega), bldR_at hb (by omega)]; exact h.1.2.2.2) (fun j => by rw [co _ (by omega) (by omega) (by omega)]) (fun j => by rw [co _ (by omega) (by omega) (by omega)]) (fun u hu => by rw [co _ (by omega) (by omega) (by omega), bldR_at hb (by omega)]; exact (h.2.2.1 u hu).2) (fun j hj => by rw [co _ (by omega) (by omega) (by omega), bldR_at hb (by omega)]; exact h.2.2.2.1 j hj) (cl _ (by omega) (by omega)) (cl _ (by omega) (by omega)) (fun g' hg' => by have := ge g'; rw [cl _ (by omega) (by omega)]) (fun g' hg' => ?_)
  have hge' := ge g'
  by_cases he : g' = g
  · subst he
    obtain ⟨y0, y1, y2, y3, y4, y5, y6⟩ := h.2.2.2.2 g' hg'
    refine ⟨by rw [co _ (by omega) (by omega) (by omega), bldR_at hb (by omega)]; exact y1, by rw [co _ (by omega) (by omega) (by omega), bldR_at hb (by omega)]; exact y2, by rw [co _ (by omega) (by omega) (by omega), bldR_at hb (by omega)]; exact y3, fun u hu => by rw [co _ (by omega) (by omega) (by omega), bldR_at hb (by omega)]; exact y4 u hu, ?_⟩
    obtain ⟨e', b1, b2, b3, b4, b5⟩ := hb
    obtain ⟨rfl, c⟩ := tvb_uq ht b4
    refine ⟨hs.trans b1.symm, fun n hn => ?_⟩
    have te : teW w' g' = e' := by unfold teW; rw [b1, nn_nat (by omega)]
    rw [te] at hn
    obtain ⟨c1, c2, c3, c4, c5⟩ := c n (Nat.zero_le _) hn
    exact ⟨c1.symm, c2.symm, c4.symm, c5.symm⟩
  · exact gaR_same (h.2.2.2.2 g' hg') hw hg' (fun k a b => co k (by omega) (by omega) (by omega)) (fun k hk => bldR_at hb (by omega))
