/-! A TEXT IS READ: what the relation needs -/
theorem REL.bad {I M : am_I} {L Lc : am_L} (R : REL I L) (mI : ∀ k, 9 ≤ k → k < 458 → ¬ (45 ≤ k ∧ k < 82) → k ≠ 450 → k ≠ 451 → k ≠ 454 → M k = I k) (fL : ∀ k, 9 ≤ k → ¬ (45 ≤ k ∧ k < 82) → Lc k = L k) (mrow : ∀ j, j < 508 → M 451 j = I 451 j)
    (m5 : M 450 5 = I 450 5) (m10 : M 450 10 = I 450 10) (z1 : M 81 1 = 0) (z2 : M 450 9 = 0) (ec : M 81 2 = M 450 11) (ep : M 81 3 = M 450 12) : REL M Lc := by
  have g4 := R.1.1.2.2.1.2
  obtain ⟨R1, R2, R3, R4, R5, R6, R7⟩ := R
  refine ⟨R1.cg mrow, (R2.fr g4 (fun c x y => mI c (by omega) (by omega) (by omega) (by omega) (by omega) (by omega)) (fun c x y => fL c (by omega) (by omega))).cg R1.1 mrow, R3.fr (fun c x y => mI c (by omega) (by omega) (by omega) (by omega) (by omega) (by omega)) m5 (mI 452 (by decide) (by decide) (by decide) (by decide) (by decide) (by decide)) (fun c x y => fL c (by omega) (by omega)), R4.fr (fun c x y => mI c (by omega) (by omega) (by omega) (by omega) (by omega) (by omega)) (mI 455 (by decide) (by decide) (by decide) (by decide) (by decide) (by decide)) (mI 453 (by decide) (by decide) (by decide) (by decide) (by decide) (by decide)) (fun c x y => fL c (by omega) (by omega)), ⟨0, by decide, z1, z2, fun j hj => absurd hj (Nat.not_lt_zero j)⟩, ⟨ec, ep⟩, ?_⟩
  obtain ⟨a, b1, b2, b3, b4⟩ := R7
  refine ⟨a, b1, by rw [mI 447 (by decide) (by decide) (by decide) (by decide) (by decide) (by decide)]; exact b2, by rw [m10]; exact b3, fun j hj => ?_⟩
  rw [mI 448 (by decide) (by decide) (by decide) (by decide) (by decide) (by decide), mI 457 (by decide) (by decide) (by decide) (by decide) (by decide) (by decide)]
  exact b4 j hj
/-- what the class has done once a draft is accepted; o, s: the history as it stood -/
def accF (I I2 : am_I) (L L2 : am_L) (w' : Nat → Int32) (o s : Nat) : Prop := stR I2 L2 9 w' ∧ I2 83 1 = nn (if s = 8 then (o + 1) % 8 else o) ∧ I2 83 2 = nn (if s = 8 then 8 else s + 1) ∧ stEq I I2 L L2 (hs 83 ((if s = 8 then o else o + s) % 8)) 9 (vG (I 451)) ∧
  (∀ c, 84 ≤ c → c < 373 → (c < hs 83 ((if s = 8 then o else o + s) % 8) ∨ hs 83 ((if s = 8 then o else o + s) % 8) + 36 ≤ c) → I2 c = I c) ∧ (∀ c, 84 ≤ c → c < 373 → (c < hs 83 ((if s = 8 then o else o + s) % 8) ∨ hs 83 ((if s = 8 then o else o + s) % 8) + 36 ≤ c) → L2 c = L c) ∧ (∀ c, 373 ≤ c → I2 c = I c) ∧ ∀ c, 373 ≤ c → L2 c = L c
theorem REL.accD {d : Nat} {Γ : am_G} {I Ic : am_I} {L Lc : am_L} {w' : Nat → Int32} (hF : wF Γ) (R : REL I L) {o s : Nat} (h1 : I 83 1 = nn o) (h2 : I 83 2 = nn s) (ho : o < 8) (hs8 : s ≤ 8) (fI : ∀ k, 9 ≤ k → ¬ (45 ≤ k ∧ k < 82) → Ic k = I k) (fL : ∀ k, 9 ≤ k → ¬ (45 ≤ k ∧ k < 82) → Lc k = L k) (hw' : wfp w') (hdr : stR Ic Lc 45 w') :
    ∃ I2 L2, am_E m_X8_acceptDraft (d + 4) 0 0 [.ref 0] Γ Ic Lc (.inl none) I2 L2 ∧ accF I I2 L L2 w' o s ∧ ∀ k, 45 ≤ k → k < 83 → I2 k = Ic k := by
  have g4 := R.1.1.2.2.1.2
  have e83 := fI 83 (by decide) (by decide)
  obtain ⟨I1, L1, I2, L2, hE, ⟨p1, p2, p3, p4, p5⟩, s9, k1, k2⟩ := eX8_acceptDraft (d := d) hF (I := Ic) (L := Lc) (o := o) (s := s) (by rw [e83]; exact h1) (by rw [e83]; exact h2) ho hs8 R.1.1 (R.2.1.fr g4 (fun c x y => fI c (by omega) (by omega)) (fun c x y => fL c (by omega) (by omega))) hw' hdr
  have hE2 : ∀ i, hs 83 i = 83 + (2 + 36 * i) := fun _ => rfl
  have hidx : (if s = 8 then o else o + s) % 8 < 8 := Nat.mod_lt _ (by decide)
  have hh := hE2 ((if s = 8 then o else o + s) % 8)
  refine ⟨I2, L2, hE, ⟨s9, by rw [k1 83 (by decide)]; exact p1, by rw [k1 83 (by decide)]; exact p2, ?_, fun c x y z => by rw [k1 c (by omega), p4 c (by omega) z, fI c (by omega) (by omega)], fun c x y z => by rw [k2 c (by omega), p5 c z, fL c (by omega) (by omega)], fun c x => by rw [k1 c (by omega), p4 c (by omega) (by omega), fI c (by omega) (by omega)], fun c x => by rw [k2 c (by omega), p5 c (by omega), fL c (by omega) (by omega)]⟩, fun k x y => by rw [k1 k (by omega), p4 k (by omega) (by omega)]⟩
  generalize hs 83 ((if s = 8 then o else o + s) % 8) = a at hh p3 p4 p5
  have tI : ∀ k, k < 36 → I2 (a + k) = I1 (a + k) := fun k hk => k1 _ (by omega)
  have tL : ∀ k, k < 36 → L2 (a + k) = L1 (a + k) := fun k hk => k2 _ (by omega)
  have sI : ∀ k, k < 36 → Ic (9 + k) = I (9 + k) := fun k hk => fI _ (by omega) (by omega)
  have sL : ∀ k, k < 36 → Lc (9 + k) = L (9 + k) := fun k hk => fL _ (by omega) (by omega)
  have t0 := tI 0 (by decide)
  have s0 := sI 0 (by decide)
  rw [Nat.add_zero] at t0 s0
  obtain ⟨⟨e1, e1a, e1b, e1c⟩, e2, e3, e4, e5⟩ := p3
  rw [s0] at e1 e1a e1b e1c
  refine ⟨⟨by rw [t0]; exact e1, by rw [t0]; exact e1a, by rw [t0]; exact e1b, by rw [t0]; exact e1c⟩, fun j hj => ?_, fun j hj => ?_, fun j hj => ?_, fun g hg => ?_⟩
  · have := e2 j hj
    rw [sL 1 (by decide), sI 2 (by decide), sI 3 (by decide)] at this
    rw [tL 1 (by decide), tI 2 (by decide), tI 3 (by decide)]
    exact this
  · have := e3 j hj
    rw [sL 4 (by decide), sI 5 (by decide)] at this
    rw [tL 4 (by decide), tI 5 (by decide)]
    exact this
  · have := e4 j hj
    rw [sI 7 (by decide)] at this
    rw [tI 7 (by decide)]
    exact this
  · have ga : gc a g = a + (8 + 7 * g) := rfl
    have g9 : gc 9 g = 9 + (8 + 7 * g) := rfl
    have z := (e5 g hg).to (I' := I2) (L' := L2) (fun c x y => k1 c (by omega)) (fun c x y => k2 c (by omega))
    unfold gaEq trEq at z ⊢
    rw [fI (gc 9 g) (by omega) (by omega), fI (gc 9 g + 1) (by omega) (by omega), fI (gc 9 g + 2) (by omega) (by omega), fI (gc 9 g + 2 + 1) (by omega) (by omega), fI (gc 9 g + 2 + 2) (by omega) (by omega), fI (gc 9 g + 2 + 3) (by omega) (by omega), fI (gc 9 g + 2 + 4) (by omega) (by omega), fL (gc 9 g) (by omega) (by omega)] at z
    exact z
theorem REL.acc {I I2 M : am_I} {L L2 : am_L} (R : REL I L) {w' : Nat → Int32} (hw' : wfs w') {o s : Nat} (h1 : I 83 1 = nn o) (h2 : I 83 2 = nn s) (ho : o < 8) (hs8 : s ≤ 8) (h5 : I 450 5 = nn s) (h6 : ∀ i, i < s → wfs (kR I i) ∧ stR I L (hs 83 ((o + i) % 8)) (kR I i)) (hA : accF I I2 L L2 w' o s)
    (mI : ∀ c, 9 ≤ c → c < 450 → M c = I2 c) (mO : ∀ c, 453 ≤ c → c < 458 → c ≠ 454 → M c = I c) (m451 : M 451 = w') (m5 : M 450 5 = nn (if s = 8 then 8 else s + 1)) (m2 : ∀ i j, i < (if s = 8 then 8 else s + 1) → j < 508 → M 452 (508 * i + j) = if i = (if s = 8 then 7 else s) then I 451 j else if s = 8 then I 452 (508 * (i + 1) + j) else I 452 (508 * i + j))
    (m10 : M 450 10 = I 450 10) (m9 : M 450 9 = 0) (z1 : I2 81 1 = 0) (e2 : I2 81 2 = M 450 11) (e3 : I2 81 3 = M 450 12) : REL M L2 := by
  obtain ⟨s9, c1, c2, c3, c4, c5, cO, cL⟩ := hA
  have g4 := R.1.1.2.2.1.2
  have g4' := hw'.1.2.2.1.2
  obtain ⟨R1, R2, R3, R4, R5, R6, R7⟩ := R
  have mH : ∀ c, 373 ≤ c → c < 450 → M c = I c := fun c x y => by rw [mI c (by omega) y, cO c x]
  refine ⟨by rw [m451]; exact hw', by rw [m451]; exact s9.fr g4' (fun c x y => mI c x (by omega)) (fun _ _ _ => rfl), hiR.push h1 h2 ho hs8 h5 h6 R1 R2 c1 c2 c3 c4 c5 m5 m2 (fun c x y => mI c (by omega) (by omega)), R4.fr (fun c x y => mH c (by omega) (by omega)) (mO 455 (by decide) (by decide) (by decide)) (mO 453 (by decide) (by decide) (by decide)) (fun c x y => cL c (by omega)), ⟨0, by decide, by rw [mI 81 (by decide) (by decide)]; exact z1, m9, fun j hj => absurd hj (Nat.not_lt_zero j)⟩, ⟨by rw [mI 81 (by decide) (by decide)]; exact e2, by rw [mI 81 (by decide) (by decide)]; exact e3⟩, ?_⟩
  obtain ⟨a, b1, b2, b3, b4⟩ := R7
  refine ⟨a, b1, by rw [mH 447 (by decide) (by decide)]; exact b2, by rw [m10]; exact b3, fun j hj => ?_⟩
  rw [mH 448 (by decide) (by decide), mO 457 (by decide) (by decide) (by decide)]
  exact b4 j hj
