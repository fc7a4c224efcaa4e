/-! CONSTRUCTORS: what is made -/
/-- from Γ0 on cells were made, and the references of b set; what was there stands as it did, what is new is zero -/
def nwR (Γ0 Γ : am_G) (I0 I : am_I) (L0 L : am_L) (b : Nat) : Prop := Γ0.1 ≤ Γ.1 ∧ (∀ j, j < Γ0.1 → Γ.2.1 j = Γ0.2.1 j ∧ (j ≠ b → Γ.2.2 j = Γ0.2.2 j) ∧ I j = I0 j ∧ L j = L0 j) ∧ ∀ j, Γ0.1 ≤ j → j < Γ.1 → I j = (fun _ => 0) ∧ L j = fun _ => 0
/-- references of b: the field, the cell, what kind of cell -/
def fcs (Γ : am_G) (b : Nat) (fs : List (Nat × Nat × Nat × Nat × Nat)) : Prop := ∀ q ∈ fs, q.2.1 < Γ.1 ∧ Γ.2.1 q.2.1 = q.2.2 ∧ Γ.2.2 b q.1 = some q.2.1
section MKL
variable {Γ0 Γ Γ' : am_G} {I0 I I' : am_I} {L0 L L' : am_L} {b b2 : Nat}
theorem nwR.rf : nwR Γ Γ I I L L b := ⟨Nat.le_refl _, fun _ _ => ⟨rfl, fun _ => rfl, rfl, rfl⟩, fun j a b => absurd b (by omega)⟩
theorem nwR.new (h : nwR Γ0 Γ I0 I L0 L b) (t : Nat × Nat × Nat) : nwR Γ0 (am_nG Γ t) I0 (am_nI Γ I) L0 (am_nL Γ L) b := by
  obtain ⟨h1, h2, h3⟩ := h
  refine ⟨Nat.le_succ_of_le h1, fun j hj => ?_, fun j a c => ?_⟩
  · have hne : j ≠ Γ.1 := by omega
    obtain ⟨x1, x2, x3, x4⟩ := h2 j hj
    exact ⟨(va_up_ne _ _ hne).trans x1, fun hb => (va_up_ne _ _ hne).trans (x2 hb), (va_up_ne _ _ hne).trans x3, (va_up_ne _ _ hne).trans x4⟩
  · by_cases hj : j = Γ.1
    · subst hj
      exact ⟨va_up_self _ _ _, va_up_self _ _ _⟩
    · have c' : j < Γ.1 + 1 := c
      obtain ⟨x1, x2⟩ := h3 j a (by omega)
      exact ⟨(va_up_ne _ _ hj).trans x1, (va_up_ne _ _ hj).trans x2⟩
theorem nwR.put (h : nwR Γ0 Γ I0 I L0 L b) (f r : Nat) : nwR Γ0 (am_ur Γ b f r) I0 I L0 L b :=
  ⟨h.1, fun j hj => ⟨(h.2.1 j hj).1, fun hb => (if_neg hb).trans ((h.2.1 j hj).2.1 hb), (h.2.1 j hj).2.2⟩, h.2.2⟩
theorem nwR.putN (h : nwR Γ0 Γ I0 I L0 L b) {k : Nat} (hk : Γ0.1 ≤ k) (f r : Nat) : nwR Γ0 (am_ur Γ k f r) I0 I L0 L b :=
  ⟨h.1, fun j hj => ⟨(h.2.1 j hj).1, fun hb => (if_neg (show ¬ j = k by omega)).trans ((h.2.1 j hj).2.1 hb), (h.2.1 j hj).2.2⟩, h.2.2⟩
theorem nwR.tr2 (h : nwR Γ0 Γ I0 I L0 L b) (h2 : nwR Γ Γ' I I' L L' b2) (hb : b2 = b ∨ Γ0.1 ≤ b2) : nwR Γ0 Γ' I0 I' L0 L' b := by
  obtain ⟨x1, x2, x3⟩ := h
  obtain ⟨y1, y2, y3⟩ := h2
  refine ⟨Nat.le_trans x1 y1, fun j hj => ?_, fun j a c => ?_⟩
  · obtain ⟨p1, p2, p3, p4⟩ := x2 j hj
    obtain ⟨q1, q2, q3, q4⟩ := y2 j (by omega)
    exact ⟨q1.trans p1, fun hn => (q2 (by omega)).trans (p2 hn), q3.trans p3, q4.trans p4⟩
  · by_cases hj : j < Γ.1
    · obtain ⟨q1, q2, q3, q4⟩ := y2 j hj
      obtain ⟨p1, p2⟩ := x3 j a hj
      exact ⟨q3.trans p1, q4.trans p2⟩
    · exact y3 j (by omega) c
theorem nwR.trb (h : nwR Γ0 Γ I0 I L0 L b) (h2 : nwR Γ Γ' I I' L L' b) : nwR Γ0 Γ' I0 I' L0 L' b := h.tr2 h2 (Or.inl rfl)
theorem nwR.ob (h : nwR Γ0 Γ I0 I L0 L b) {k c : Nat} (o : am_ob Γ0 k c) : am_ob Γ k c := ⟨Nat.lt_of_lt_of_le o.1 h.1, (h.2.1 k o.1).1.trans o.2⟩
theorem nwR.ar (h : nwR Γ0 Γ I0 I L0 L b) {k t n c : Nat} (o : am_ar Γ0 k t n c) : am_ar Γ k t n c := ⟨Nat.lt_of_lt_of_le o.1 h.1, (h.2.1 k o.1).1.trans o.2⟩
theorem nwR.re (h : nwR Γ0 Γ I0 I L0 L b) {k : Nat} (hk : k < Γ0.1) (hb : k ≠ b) : Γ.2.2 k = Γ0.2.2 k := (h.2.1 k hk).2.1 hb
theorem nwR.fc (h : nwR Γ0 Γ I0 I L0 L b2) {fs : List (Nat × Nat × Nat × Nat × Nat)} (hb : b < Γ0.1) (hne : b ≠ b2) (hf : fcs Γ0 b fs) : fcs Γ b fs := fun q hq => by
  obtain ⟨x1, x2, x3⟩ := hf q hq
  exact ⟨Nat.lt_of_lt_of_le x1 h.1, (h.2.1 _ x1).1.trans x2, by rw [h.re hb hne]; exact x3⟩
theorem fcs.put {fs : List (Nat × Nat × Nat × Nat × Nat)} {f r : Nat} {t : Nat × Nat × Nat} (hf : fcs Γ b fs) (hne : ∀ q ∈ fs, q.1 ≠ f) (hr : r < Γ.1) (ht : Γ.2.1 r = t) : fcs (am_ur Γ b f r) b ((f, r, t) :: fs) := fun q hq => by
  have e : ∀ g, (am_ur Γ b f r).2.2 b g = if g = f then some r else Γ.2.2 b g := fun g => by
    show (if b = b then va_up (Γ.2.2 b) f (some r) else Γ.2.2 b) g = _
    rw [if_pos rfl]
    rfl
  rcases List.mem_cons.mp hq with h | h
  · subst h
    exact ⟨hr, ht, by rw [e, if_pos rfl]⟩
  · obtain ⟨x1, x2, x3⟩ := hf q h
    exact ⟨x1, x2, by rw [e, if_neg (hne q h)]; exact x3⟩
theorem ob_new {k c : Nat} {t : Nat × Nat × Nat} (o : am_ob Γ k c) : am_ob (am_nG Γ t) k c := ⟨Nat.lt_succ_of_lt o.1, (va_up_ne _ _ (Nat.ne_of_lt o.1)).trans o.2⟩
theorem ob_at (c : Nat) : am_ob (am_nG Γ (0, c, 0)) Γ.1 c := ⟨Nat.lt_succ_self _, va_up_self _ _ _⟩
theorem st_arr {f m ci : Nat} {t : Nat × Nat × Nat} {fs : List (Nat × Nat × Nat × Nat × Nat)} (h : nwR Γ0 Γ I0 I L0 L b) (h1 : Γ.1 = m) (hb : am_ob Γ b ci) (hf : fcs Γ b fs) (hne : ∀ q ∈ fs, q.1 ≠ f) : ∃ Γ1 I1 L1, am_ur (am_nG Γ t) b f Γ.1 = Γ1 ∧ am_nI Γ I = I1 ∧ am_nL Γ L = L1 ∧ nwR Γ0 Γ1 I0 I1 L0 L1 b ∧ Γ1.1 = m + 1 ∧ am_ob Γ1 b ci ∧ fcs Γ1 b ((f, m, t) :: fs) ∧ nwR Γ Γ1 I I1 L L1 b := by
  subst h1
  have n1 : nwR Γ (am_nG Γ t) I (am_nI Γ I) L (am_nL Γ L) b := nwR.rf.new t
  have hb0 : b ≠ Γ.1 := Nat.ne_of_lt hb.1
  have f1 : fcs (am_nG Γ t) b fs := fun q hq => by
    obtain ⟨x1, x2, x3⟩ := hf q hq
    exact ⟨Nat.lt_succ_of_lt x1, (va_up_ne _ _ (Nat.ne_of_lt x1)).trans x2, (congrFun (va_up_ne _ _ hb0) _).trans x3⟩
  exact ⟨_, _, _, rfl, rfl, rfl, (h.new t).put f _, rfl, ob_new hb, f1.put hne (Nat.lt_succ_self _) (va_up_self _ _ _), n1.put f _⟩
theorem st_put {f r ci : Nat} {t : Nat × Nat × Nat} {fs : List (Nat × Nat × Nat × Nat × Nat)} (h : nwR Γ0 Γ I0 I L0 L b) (hb : am_ob Γ b ci) (hf : fcs Γ b fs) (hne : ∀ q ∈ fs, q.1 ≠ f) (hr : r < Γ.1) (ht : Γ.2.1 r = t) : ∃ Γ1, am_ur Γ b f r = Γ1 ∧ nwR Γ0 Γ1 I0 I L0 L b ∧ Γ1.1 = Γ.1 ∧ am_ob Γ1 b ci ∧ fcs Γ1 b ((f, r, t) :: fs) ∧ nwR Γ Γ1 I I L L b :=
  ⟨_, rfl, h.put f r, rfl, hb, hf.put hne hr ht, nwR.rf.put f r⟩
theorem st_sub {ci : Nat} {t : Nat × Nat × Nat} {fs : List (Nat × Nat × Nat × Nat × Nat)} (h : nwR Γ0 Γ I0 I L0 L b) (hb : am_ob Γ b ci) (hf : fcs Γ b fs) (h2 : nwR (am_nG Γ t) Γ' (am_nI Γ I) I' (am_nL Γ L) L' Γ.1) : nwR Γ0 Γ' I0 I' L0 L' b ∧ am_ob Γ' b ci ∧ fcs Γ' b fs ∧ Γ.1 < Γ'.1 ∧ Γ'.2.1 Γ.1 = t ∧ nwR Γ Γ' I I' L L' b := by
  have n1 : nwR Γ (am_nG Γ t) I (am_nI Γ I) L (am_nL Γ L) b := nwR.rf.new t
  have n2 : nwR Γ Γ' I I' L L' b := n1.tr2 h2 (Or.inr (Nat.le_refl _))
  have n3 : nwR Γ Γ' I I' L L' Γ.1 := (nwR.rf.new t).tr2 h2 (Or.inl rfl)
  have hb0 : b ≠ Γ.1 := Nat.ne_of_lt hb.1
  refine ⟨h.trb n2, n2.ob hb, n3.fc hb.1 hb0 hf, Nat.lt_of_lt_of_le (Nat.lt_succ_self _) h2.1, (h2.2.1 _ (Nat.lt_succ_self _)).1.trans (va_up_self _ _ _), n2⟩
theorem okL1 {v0 : Nat} (h : v0 < Γ.1) : ∀ z ∈ [((0 : Nat), Value.ref v0)], am_ok Γ z.2 := fun z hz => by
  rcases List.mem_cons.mp hz with rfl | hz
  · exact h
  · exact nomatch hz
theorem okL2 {v0 : Nat} {v1 : Int32} (h : v0 < Γ.1) : ∀ z ∈ [((0 : Nat), Value.ref v0), (1, Value.int v1)], am_ok Γ z.2 := fun z hz => by
  rcases List.mem_cons.mp hz with rfl | hz
  · exact h
  · rcases List.mem_cons.mp hz with rfl | hz
    · trivial
    · exact nomatch hz
theorem okS1 {v0 : Nat} (h : v0 < Γ.1) : ∀ z ∈ [Value.ref v0], am_ok Γ z := fun z hz => by
  rcases List.mem_cons.mp hz with rfl | hz
  · exact h
  · exact nomatch hz
theorem okS2 {v0 v1 : Nat} (h : v0 < Γ.1) (h1 : v1 < Γ.1) : ∀ z ∈ [Value.ref v0, Value.ref v1], am_ok Γ z := fun z hz => by
  rcases List.mem_cons.mp hz with rfl | hz
  · exact h
  · exact okS1 h1 z hz
theorem okS2i {v1 : Nat} {i : Int32} (h1 : v1 < Γ.1) : ∀ z ∈ [Value.int i, Value.ref v1], am_ok Γ z := fun z hz => by
  rcases List.mem_cons.mp hz with rfl | hz
  · trivial
  · exact okS1 h1 z hz
theorem okS3i {v0 v1 : Nat} {i : Int32} (h : v0 < Γ.1) (h1 : v1 < Γ.1) : ∀ z ∈ [Value.ref v0, Value.int i, Value.ref v1], am_ok Γ z := fun z hz => by
  rcases List.mem_cons.mp hz with rfl | hz
  · exact h
  · exact okS2i h1 z hz
theorem trF.keep {t : Nat} (h : trF Γ0 t) (k : nwR Γ0 Γ I0 I L0 L b) (hb : ¬ (t ≤ b ∧ b < t + 5)) : trF Γ t := by
  obtain ⟨o, r1, r2, r3, r4, a1, a2, a3, a4⟩ := h
  have e := k.re o.1 (by omega)
  exact ⟨k.ob o, by rw [e]; exact r1, by rw [e]; exact r2, by rw [e]; exact r3, by rw [e]; exact r4, k.ar a1, k.ar a2, k.ar a3, k.ar a4⟩
theorem gaF.keep {g : Nat} (h : gaF Γ0 g) (k : nwR Γ0 Γ I0 I L0 L b) (hb : ¬ (g ≤ b ∧ b < g + 7)) : gaF Γ g := by
  obtain ⟨o, r1, r2, a1, t⟩ := h
  have e := k.re o.1 (by omega)
  exact ⟨k.ob o, by rw [e]; exact r1, by rw [e]; exact r2, k.ar a1, t.keep k (by omega)⟩
theorem stF.keep {s : Nat} (h : stF Γ0 s) (k : nwR Γ0 Γ I0 I L0 L b) (hb : ¬ (s ≤ b ∧ b < s + 36)) : stF Γ s := by
  obtain ⟨o, r1, r2, r3, r4, r5, r6, r7, a1, a2, a3, a4, a5, a6, o7, hg⟩ := h
  have e := k.re o.1 (by omega)
  have e6 := k.re a6.1 (by omega)
  refine ⟨k.ob o, by rw [e]; exact r1, by rw [e]; exact r2, by rw [e]; exact r3, by rw [e]; exact r4, by rw [e]; exact r5, by rw [e]; exact r6, by rw [e]; exact r7, k.ar a1, k.ar a2, k.ar a3, k.ar a4, k.ar a5, k.ar a6, k.ob o7, fun g hg4 => ?_⟩
  obtain ⟨y1, y2⟩ := hg g hg4
  have ge : gc s g = s + (8 + 7 * g) := rfl
  exact ⟨by rw [e6]; exact y1, y2.keep k (by omega)⟩
theorem soF.keep {s : Nat} (h : soF Γ0 s) (k : nwR Γ0 Γ I0 I L0 L b) (hb : ¬ (s ≤ b ∧ b < s + 8)) : soF Γ s := by
  obtain ⟨o, r1, r2, r3, r4, r5, r6, r7, a1, a2, a3, a4, a5, a6, a7⟩ := h
  have e := k.re o.1 (by omega)
  exact ⟨k.ob o, by rw [e]; exact r1, by rw [e]; exact r2, by rw [e]; exact r3, by rw [e]; exact r4, by rw [e]; exact r5, by rw [e]; exact r6, by rw [e]; exact r7, k.ar a1, k.ar a2, k.ar a3, k.ar a4, k.ar a5, k.ar a6, k.ar a7⟩
theorem hiF.keep {s : Nat} (h : hiF Γ0 s) (k : nwR Γ0 Γ I0 I L0 L b) (hb : ¬ (s ≤ b ∧ b < s + 290)) : hiF Γ s := by
  obtain ⟨o, r1, a1, hg⟩ := h
  have e := k.re o.1 (by omega)
  have e1 := k.re a1.1 (by omega)
  refine ⟨k.ob o, by rw [e]; exact r1, k.ar a1, fun i hi => ?_⟩
  obtain ⟨y1, y2⟩ := hg i hi
  have he : hs s i = s + (2 + 36 * i) := rfl
  exact ⟨by rw [e1]; exact y1, y2.keep k (by omega)⟩
end MKL
section MK1
variable {d : Nat} {Γ : am_G} {I : am_I} {L : am_L} {b : Nat}

theorem cX7 (o : am_ob Γ b 7) (h1 : Γ.1 = b + 1) : am_C m_X7_init (d + 1) 4 60 true [.ref b] Γ I L (fun o2 Γ' I' L' => o2 = .inl none ∧ nwR Γ Γ' I I' L L' b ∧ Γ'.1 = b + 5 ∧ trF Γ' b) := by
  refine am_of rfl rfl rfl (Nat.le_of_ble_eq_true rfl) ?_
  have hb0 : b < Γ.1 := o.1
  have hN0 : nwR Γ Γ I I L L (b) := nwR.rf
  have hF0 : fcs Γ (b) [] := fun q hq => nomatch hq
  have ho0 := o
  have hc0 := h1
  refine aw_aload_n dX7_init_0 rfl ?_
  refine aw_obj dX7_init_1 (am_t1 126 rfl rfl) ow_i ow_c (Nat.le_of_ble_eq_true rfl) ?_
  refine aw_aload_n dX7_init_4 rfl ?_
  refine aw_bipush dX7_init_5 cb_15 ?_
  refine aw_newI (n := 15) dX7_init_7 ac_int (by decide) (by decide) (by decide) (okL1 hb0) (okS1 hb0) ?_
  refine aw_putR dX7_init_9 p_X7_9 (ob_new ho0) rfl (Nat.lt_succ_self _) rfl (fun _ => rfl) (fun _ => rfl) ?_
  obtain ⟨Γ1, I1, L1, eG, eI, eL, hN1, hc1, ho1, hF1, hS1⟩ := st_arr (f := 1) (t := (1, 15, 0)) hN0 hc0 ho0 hF0 (by simp)
  rw [eG, eI, eL]
  clear eG eI eL
  have hb1 : b < Γ1.1 := ho1.1
  refine aw_aload_n dX7_init_12 rfl ?_
  refine aw_bipush dX7_init_13 cb_15 ?_
  refine aw_newI (n := 15) dX7_init_15 ac_int (by decide) (by decide) (by decide) (okL1 hb1) (okS1 hb1) ?_
  refine aw_putR dX7_init_17 p_X7_15 (ob_new ho1) rfl (Nat.lt_succ_self _) rfl (fun _ => rfl) (fun _ => rfl) ?_
  obtain ⟨Γ2, I2, L2, eG, eI, eL, hN2, hc2, ho2, hF2, hS2⟩ := st_arr (f := 2) (t := (1, 15, 0)) hN1 hc1 ho1 hF1 (by simp)
  rw [eG, eI, eL]
  clear eG eI eL
  have hb2 : b < Γ2.1 := ho2.1
  refine aw_aload_n dX7_init_20 rfl ?_
  refine aw_bipush dX7_init_21 cb_15 ?_
  refine aw_newI (n := 15) dX7_init_23 ac_int (by decide) (by decide) (by decide) (okL1 hb2) (okS1 hb2) ?_
  refine aw_putR dX7_init_25 p_X7_18 (ob_new ho2) rfl (Nat.lt_succ_self _) rfl (fun _ => rfl) (fun _ => rfl) ?_
  obtain ⟨Γ3, I3, L3, eG, eI, eL, hN3, hc3, ho3, hF3, hS3⟩ := st_arr (f := 3) (t := (1, 15, 0)) hN2 hc2 ho2 hF2 (by simp)
  rw [eG, eI, eL]
  clear eG eI eL
  have hb3 : b < Γ3.1 := ho3.1
  refine aw_aload_n dX7_init_28 rfl ?_
  refine aw_bipush dX7_init_29 cb_15 ?_
  refine aw_newI (n := 15) dX7_init_31 ac_int (by decide) (by decide) (by decide) (okL1 hb3) (okS1 hb3) ?_
  refine aw_putR dX7_init_33 p_X7_21 (ob_new ho3) rfl (Nat.lt_succ_self _) rfl (fun _ => rfl) (fun _ => rfl) ?_
  obtain ⟨Γ4, I4, L4, eG, eI, eL, hN4, hc4, ho4, hF4, hS4⟩ := st_arr (f := 4) (t := (1, 15, 0)) hN3 hc3 ho3 hF3 (by simp)
  rw [eG, eI, eL]
  clear eG eI eL
  have hb4 : b < Γ4.1 := ho4.1
  refine aw_vret dX7_init_36 rfl ⟨rfl, hN4, hc4, ho4, ?_⟩
  have z := hF4
  refine ⟨(z (1, b + 1, (1, 15, 0)) (by simp)).2.2, (z (2, b + 2, (1, 15, 0)) (by simp)).2.2, (z (3, b + 3, (1, 15, 0)) (by simp)).2.2, (z (4, b + 4, (1, 15, 0)) (by simp)).2.2, ?_, ?_, ?_, ?_⟩
  · exact ⟨(z (1, b + 1, (1, 15, 0)) (by simp)).1, (z (1, b + 1, (1, 15, 0)) (by simp)).2.1⟩
  · exact ⟨(z (2, b + 2, (1, 15, 0)) (by simp)).1, (z (2, b + 2, (1, 15, 0)) (by simp)).2.1⟩
  · exact ⟨(z (3, b + 3, (1, 15, 0)) (by simp)).1, (z (3, b + 3, (1, 15, 0)) (by simp)).2.1⟩
  · exact ⟨(z (4, b + 4, (1, 15, 0)) (by simp)).1, (z (4, b + 4, (1, 15, 0)) (by simp)).2.1⟩
theorem cX6 (o : am_ob Γ b 6) (h1 : Γ.1 = b + 1) : am_C m_X6_init (d + 1) 0 0 true [.ref b] Γ I L (fun o2 Γ' I' L' => o2 = .inl none ∧ nwR Γ Γ' I I' L L' b ∧ Γ'.1 = b + 1 ∧ am_ob Γ' b 6) := by
  refine am_of rfl rfl rfl (Nat.le_of_ble_eq_true rfl) ?_
  refine aw_aload_n dX6_init_0 rfl ?_
  refine aw_obj dX6_init_1 (am_t1 82 rfl rfl) ow_i ow_c (Nat.le_of_ble_eq_true rfl) ?_
  exact aw_vret dX6_init_4 rfl ⟨rfl, nwR.rf, h1, o⟩
theorem cX0 (o : am_ob Γ b 0) (h1 : Γ.1 = b + 1) : am_C m_X0_init (d + 2) 6 73 true [.ref b] Γ I L (fun o2 Γ' I' L' => o2 = .inl none ∧ nwR Γ Γ' I I' L L' b ∧ Γ'.1 = b + 7 ∧ gaF Γ' b) := by
  refine am_of rfl rfl rfl (Nat.le_of_ble_eq_true rfl) ?_
  have hb0 : b < Γ.1 := o.1
  have hN0 : nwR Γ Γ I I L L (b) := nwR.rf
  have hF0 : fcs Γ (b) [] := fun q hq => nomatch hq
  have ho0 := o
  have hc0 := h1
  refine aw_aload_n dX0_init_0 rfl ?_
  refine aw_obj dX0_init_1 (am_t1 120 rfl rfl) ow_i ow_c (Nat.le_of_ble_eq_true rfl) ?_
  refine aw_aload_n dX0_init_4 rfl ?_
  refine aw_bipush dX0_init_5 cb_8 ?_
  refine aw_newI (n := 8) dX0_init_7 ac_int (by decide) (by decide) (by decide) (okL1 hb0) (okS1 hb0) ?_
  refine aw_putR dX0_init_9 p_X0_9 (ob_new ho0) rfl (Nat.lt_succ_self _) rfl (fun _ => rfl) (fun _ => rfl) ?_
  obtain ⟨Γ1, I1, L1, eG, eI, eL, hN1, hc1, ho1, hF1, hS1⟩ := st_arr (f := 4) (t := (1, 8, 0)) hN0 hc0 ho0 hF0 (by simp)
  rw [eG, eI, eL]
  clear eG eI eL
  have hb1 : b < Γ1.1 := ho1.1
  refine aw_aload_n dX0_init_12 rfl ?_
  refine aw_new (ci := 7) (N := 5) (C := RX7) (T := TX7) dX0_init_13 rfl cl_X0_15 mk_X7 n_X7 (okL1 hb1) (okS1 hb1) ?_
  refine aw_dup dX0_init_16 rfl ?_
  refine aw_callIN (as := []) (b := Γ1.1) (rst := [.ref Γ1.1, .ref (b)]) dX0_init_17 k_X7_init ln_X0_17 i_X7_init rfl rfl rfl rfl (Nat.le_of_ble_eq_true rfl) (cX7 (d := d) (b := Γ1.1) (ob_at 7) rfl) (okL1 (Nat.lt_succ_of_lt hb1)) (okS2 (Nat.lt_succ_self _) (Nat.lt_succ_of_lt hb1)) (fun v G1 J1 M1 hq => ?_) (fun E _ _ _ hq => nomatch hq.1)
  obtain ⟨hv, hq2, hq3, hq4⟩ := hq
  obtain rfl : v = none := Sum.inl.inj hv
  obtain ⟨hM1, hoM1, hFM1, hlt1, htM1, hSM1⟩ := st_sub hN1 ho1 hF1 hq2
  refine aw_putR dX0_init_20 p_X0_18 hoM1 rfl hlt1 rfl (fun _ => rfl) (fun _ => rfl) ?_
  obtain ⟨Γ2, eG, hN2, hd2, ho2, hF2, hS2⟩ := st_put (f := 5) (r := Γ1.1) (t := (0, 7, 0)) hM1 hoM1 hFM1 (by simp) hlt1 htM1
  rw [eG]
  clear eG
  have hc2 : Γ2.1 = b + 7 := by omega
  rw [hc1] at hF2
  obtain ⟨I2, eI⟩ : ∃ I2, I2 = J1 := ⟨_, rfl⟩
  obtain ⟨L2, eL⟩ : ∃ L2, L2 = M1 := ⟨_, rfl⟩
  rw [← eI, ← eL]
  rw [← eI, ← eL] at hN2 hS2 hSM1
  have hb2 : b < Γ2.1 := ho2.1
  have hT2 := hSM1.trb hS2
  rw [hc1] at hq4
  have ht_2 := hq4.keep hS2 (by omega)
  refine aw_vret dX0_init_23 rfl ⟨rfl, hN2, hc2, ho2, ?_⟩
  have z := hF2
  exact ⟨(z (4, b + 1, (1, 8, 0)) (by simp)).2.2, (z (5, b + 2, (0, 7, 0)) (by simp [Nat.add_assoc])).2.2, ⟨(z (4, b + 1, (1, 8, 0)) (by simp)).1, (z (4, b + 1, (1, 8, 0)) (by simp)).2.1⟩, ht_2⟩
theorem cX4 (o : am_ob Γ b 4) (h1 : Γ.1 = b + 1) : am_C m_X4_init (d + 1) 7 8501 true [.ref b] Γ I L (fun o2 Γ' I' L' => o2 = .inl none ∧ nwR Γ Γ' I I' L L' b ∧ Γ'.1 = b + 8 ∧ soF Γ' b) := by
  refine am_of rfl rfl rfl (Nat.le_of_ble_eq_true rfl) ?_
  have hb0 : b < Γ.1 := o.1
  have hN0 : nwR Γ Γ I I L L (b) := nwR.rf
  have hF0 : fcs Γ (b) [] := fun q hq => nomatch hq
  have ho0 := o
  have hc0 := h1
  refine aw_aload_n dX4_init_0 rfl ?_
  refine aw_obj dX4_init_1 (am_t1 41 rfl rfl) ow_i ow_c (Nat.le_of_ble_eq_true rfl) ?_
  refine aw_aload_n dX4_init_4 rfl ?_
  refine aw_sipush dX4_init_5 cs_7936 ?_
  refine aw_newL (n := 7936) dX4_init_8 ac_long (by decide) (by decide) (by decide) (okL1 hb0) (okS1 hb0) ?_
  refine aw_putR dX4_init_10 p_X4_9 (ob_new ho0) rfl (Nat.lt_succ_self _) rfl (fun _ => rfl) (fun _ => rfl) ?_
  obtain ⟨Γ1, I1, L1, eG, eI, eL, hN1, hc1, ho1, hF1, hS1⟩ := st_arr (f := 0) (t := (4, 7936, 0)) hN0 hc0 ho0 hF0 (by simp)
  rw [eG, eI, eL]
  clear eG eI eL
  have hb1 : b < Γ1.1 := ho1.1
  refine aw_aload_n dX4_init_13 rfl ?_
  refine aw_sipush dX4_init_14 cs_256 ?_
  refine aw_newI (n := 256) dX4_init_17 ac_int (by decide) (by decide) (by decide) (okL1 hb1) (okS1 hb1) ?_
  refine aw_putR dX4_init_19 p_X4_15 (ob_new ho1) rfl (Nat.lt_succ_self _) rfl (fun _ => rfl) (fun _ => rfl) ?_
  obtain ⟨Γ2, I2, L2, eG, eI, eL, hN2, hc2, ho2, hF2, hS2⟩ := st_arr (f := 1) (t := (1, 256, 0)) hN1 hc1 ho1 hF1 (by simp)
  rw [eG, eI, eL]
  clear eG eI eL
  have hb2 : b < Γ2.1 := ho2.1
  refine aw_aload_n dX4_init_22 rfl ?_
  refine aw_sipush dX4_init_23 cs_256 ?_
  refine aw_newI (n := 256) dX4_init_26 ac_int (by decide) (by decide) (by decide) (okL1 hb2) (okS1 hb2) ?_
  refine aw_putR dX4_init_28 p_X4_19 (ob_new ho2) rfl (Nat.lt_succ_self _) rfl (fun _ => rfl) (fun _ => rfl) ?_
  obtain ⟨Γ3, I3, L3, eG, eI, eL, hN3, hc3, ho3, hF3, hS3⟩ := st_arr (f := 2) (t := (1, 256, 0)) hN2 hc2 ho2 hF2 (by simp)
  rw [eG, eI, eL]
  clear eG eI eL
  have hb3 : b < Γ3.1 := ho3.1
  refine aw_aload_n dX4_init_31 rfl ?_
  refine aw_bipush dX4_init_32 cb_8 ?_
  refine aw_newI (n := 8) dX4_init_34 ac_int (by decide) (by decide) (by decide) (okL1 hb3) (okS1 hb3) ?_
  refine aw_putR dX4_init_36 p_X4_22 (ob_new ho3) rfl (Nat.lt_succ_self _) rfl (fun _ => rfl) (fun _ => rfl) ?_
  obtain ⟨Γ4, I4, L4, eG, eI, eL, hN4, hc4, ho4, hF4, hS4⟩ := st_arr (f := 3) (t := (1, 8, 0)) hN3 hc3 ho3 hF3 (by simp)
  rw [eG, eI, eL]
  clear eG eI eL
  have hb4 : b < Γ4.1 := ho4.1
  refine aw_aload_n dX4_init_39 rfl ?_
  refine aw_bipush dX4_init_40 cb_15 ?_
  refine aw_newI (n := 15) dX4_init_42 ac_int (by decide) (by decide) (by decide) (okL1 hb4) (okS1 hb4) ?_
  refine aw_putR dX4_init_44 p_X4_25 (ob_new ho4) rfl (Nat.lt_succ_self _) rfl (fun _ => rfl) (fun _ => rfl) ?_
  obtain ⟨Γ5, I5, L5, eG, eI, eL, hN5, hc5, ho5, hF5, hS5⟩ := st_arr (f := 4) (t := (1, 15, 0)) hN4 hc4 ho4 hF4 (by simp)
  rw [eG, eI, eL]
  clear eG eI eL
  have hb5 : b < Γ5.1 := ho5.1
  refine aw_aload_n dX4_init_47 rfl ?_
  refine aw_bipush dX4_init_48 cb_15 ?_
  refine aw_newI (n := 15) dX4_init_50 ac_int (by decide) (by decide) (by decide) (okL1 hb5) (okS1 hb5) ?_
  refine aw_putR dX4_init_52 p_X4_28 (ob_new ho5) rfl (Nat.lt_succ_self _) rfl (fun _ => rfl) (fun _ => rfl) ?_
  obtain ⟨Γ6, I6, L6, eG, eI, eL, hN6, hc6, ho6, hF6, hS6⟩ := st_arr (f := 5) (t := (1, 15, 0)) hN5 hc5 ho5 hF5 (by simp)
  rw [eG, eI, eL]
  clear eG eI eL
  have hb6 : b < Γ6.1 := ho6.1
  refine aw_aload_n dX4_init_55 rfl ?_
  refine aw_bipush dX4_init_56 cb_15 ?_
  refine aw_newI (n := 15) dX4_init_58 ac_int (by decide) (by decide) (by decide) (okL1 hb6) (okS1 hb6) ?_
  refine aw_putR dX4_init_60 p_X4_31 (ob_new ho6) rfl (Nat.lt_succ_self _) rfl (fun _ => rfl) (fun _ => rfl) ?_
  obtain ⟨Γ7, I7, L7, eG, eI, eL, hN7, hc7, ho7, hF7, hS7⟩ := st_arr (f := 6) (t := (1, 15, 0)) hN6 hc6 ho6 hF6 (by simp)
  rw [eG, eI, eL]
  clear eG eI eL
  have hb7 : b < Γ7.1 := ho7.1
  refine aw_vret dX4_init_63 rfl ⟨rfl, hN7, hc7, ho7, ?_⟩
  have z := hF7
  refine ⟨(z (0, b + 1, (4, 7936, 0)) (by simp)).2.2, (z (1, b + 2, (1, 256, 0)) (by simp)).2.2, (z (2, b + 3, (1, 256, 0)) (by simp)).2.2, (z (3, b + 4, (1, 8, 0)) (by simp)).2.2, (z (4, b + 5, (1, 15, 0)) (by simp)).2.2, (z (5, b + 6, (1, 15, 0)) (by simp)).2.2, (z (6, b + 7, (1, 15, 0)) (by simp)).2.2, ⟨(z (0, b + 1, (4, 7936, 0)) (by simp)).1, (z (0, b + 1, (4, 7936, 0)) (by simp)).2.1⟩, ⟨(z (1, b + 2, (1, 256, 0)) (by simp)).1, (z (1, b + 2, (1, 256, 0)) (by simp)).2.1⟩, ⟨(z (2, b + 3, (1, 256, 0)) (by simp)).1, (z (2, b + 3, (1, 256, 0)) (by simp)).2.1⟩, ⟨(z (3, b + 4, (1, 8, 0)) (by simp)).1, (z (3, b + 4, (1, 8, 0)) (by simp)).2.1⟩, ⟨(z (4, b + 5, (1, 15, 0)) (by simp)).1, (z (4, b + 5, (1, 15, 0)) (by simp)).2.1⟩, ⟨(z (5, b + 6, (1, 15, 0)) (by simp)).1, (z (5, b + 6, (1, 15, 0)) (by simp)).2.1⟩, ⟨(z (6, b + 7, (1, 15, 0)) (by simp)).1, (z (6, b + 7, (1, 15, 0)) (by simp)).2.1⟩⟩
theorem cX2 (o : am_ob Γ b 2) (h1 : Γ.1 = b + 1) : am_C m_X2_init (d + 1) 2 109 true [.ref b] Γ I L (fun o2 Γ' I' L' => o2 = .inl none ∧ nwR Γ Γ' I I' L L' b ∧ Γ'.1 = b + 3 ∧ am_ob Γ' b 2 ∧ Γ'.2.2 b 0 = some (b + 1) ∧ Γ'.2.2 b 2 = some (b + 2) ∧ am_ar Γ' (b + 1) 2 87 0 ∧ am_ar Γ' (b + 2) 1 22 0) := by
  refine am_of rfl rfl rfl (Nat.le_of_ble_eq_true rfl) ?_
  have hb0 : b < Γ.1 := o.1
  have hN0 : nwR Γ Γ I I L L (b) := nwR.rf
  have hF0 : fcs Γ (b) [] := fun q hq => nomatch hq
  have ho0 := o
  have hc0 := h1
  refine aw_aload_n dX2_init_0 rfl ?_
  refine aw_obj dX2_init_1 (am_t2 77 rfl rfl) ow_i ow_c (Nat.le_of_ble_eq_true rfl) ?_
  refine aw_aload_n dX2_init_4 rfl ?_
  refine aw_bipush dX2_init_5 cb_87 ?_
  refine aw_newB (n := 87) dX2_init_7 ac_byte (by decide) (by decide) (by decide) (okL1 hb0) (okS1 hb0) ?_
  refine aw_putR dX2_init_9 p_X2_9 (ob_new ho0) rfl (Nat.lt_succ_self _) rfl (fun _ => rfl) (fun _ => rfl) ?_
  obtain ⟨Γ1, I1, L1, eG, eI, eL, hN1, hc1, ho1, hF1, hS1⟩ := st_arr (f := 0) (t := (2, 87, 0)) hN0 hc0 ho0 hF0 (by simp)
  rw [eG, eI, eL]
  clear eG eI eL
  have hb1 : b < Γ1.1 := ho1.1
  refine aw_aload_n dX2_init_12 rfl ?_
  refine aw_bipush dX2_init_13 cb_22 ?_
  refine aw_newI (n := 22) dX2_init_15 ac_int (by decide) (by decide) (by decide) (okL1 hb1) (okS1 hb1) ?_
  refine aw_putR dX2_init_17 p_X2_15 (ob_new ho1) rfl (Nat.lt_succ_self _) rfl (fun _ => rfl) (fun _ => rfl) ?_
  obtain ⟨Γ2, I2, L2, eG, eI, eL, hN2, hc2, ho2, hF2, hS2⟩ := st_arr (f := 2) (t := (1, 22, 0)) hN1 hc1 ho1 hF1 (by simp)
  rw [eG, eI, eL]
  clear eG eI eL
  have hb2 : b < Γ2.1 := ho2.1
  refine aw_vret dX2_init_20 rfl ⟨rfl, hN2, hc2, ho2, ?_⟩
  have z := hF2
  exact ⟨(z (0, b + 1, (2, 87, 0)) (by simp)).2.2, (z (2, b + 2, (1, 22, 0)) (by simp)).2.2, ⟨(z (0, b + 1, (2, 87, 0)) (by simp)).1, (z (0, b + 1, (2, 87, 0)) (by simp)).2.1⟩, ⟨(z (2, b + 2, (1, 22, 0)) (by simp)).1, (z (2, b + 2, (1, 22, 0)) (by simp)).2.1⟩⟩
end MK1
