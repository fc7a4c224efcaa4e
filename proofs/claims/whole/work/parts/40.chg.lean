/-! CLASS AND MODEL SIDE BY SIDE: what is remembered -/
theorem wfs.cg {w w' : Nat → Int32} (h : wfs w) (e : ∀ j, j < 508 → w' j = w j) : wfs w' := by
  have hw := h.1
  have t8 := hw.2.1.2
  have g4 := hw.2.2.1.2
  have e3 : ∀ j, j < 3 → w' j = w j := fun j hj => e j (by omega)
  exact h.of e3 (hw.of e3 (hw.c3 (e 3 (by decide))) (fun j a b => e j (by omega)) (hw.tl (fun j a b => e j (by omega))) (fun g hg => hw.gt hg e3 (fun u hu => e _ (by omega)) (fun k a b c => e _ (by omega)) (hw.lim hg (e _ (by omega))) (hw.cnt hg (fun u hu => e _ (by omega)))))
theorem stR.cg {I : am_I} {L : am_L} {b : Nat} {w w' : Nat → Int32} (h : stR I L b w) (hw : wfp w) (e : ∀ j, j < 508 → w' j = w j) : stR I L b w' := by
  have t8 := hw.2.1.2
  have g4 := hw.2.2.1.2
  exact h.of hw (fun j hj => e j (by omega)) (fun j a b => e j (by omega)) (fun u hu k a b => e _ (by omega)) (fun g hg k a b => e _ (by omega)) (fun _ _ => rfl) (by rw [e 3 (by decide)]; exact h.1.2.2.2) (fun _ => rfl) (fun _ => rfl) (fun u hu => by rw [e _ (by omega)]; exact (h.2.2.1 u hu).2) (fun j hj => by rw [e _ (by omega)]; exact h.2.2.2.1 j hj) rfl rfl (fun _ _ => rfl) (fun g hg => gaR_same (h.2.2.2.2 g hg) hw hg (fun _ _ _ => rfl) (fun k hk => e _ (by omega)))
/-- the model's rows after one more is kept -/
def kpt (I I' : am_I) (m ρ c : Nat) : Prop := I' m 5 = nn (if c = 8 then 8 else c + 1) ∧ (∀ i j, i < (if c = 8 then 8 else c + 1) → j < 508 → I' (m + 2) (508 * i + j) = if i = (if c = 8 then 7 else c) then I ρ j else if c = 8 then I (m + 2) (508 * (i + 1) + j) else I (m + 2) (508 * i + j)) ∧ (∀ a, a ≠ m → a ≠ m + 2 → I' a = I a) ∧ ∀ j, j ≠ 5 → I' m j = I m j
theorem eX9_remember {d : Nat} {Γ : am_G} {I : am_I} {L : am_L} {m ρ c : Nat} (hm : mdF Γ m) (hρ : am_ar Γ ρ 1 508 0) (h1 : ρ ≠ m) (h2 : ρ ≠ m + 2) (hc : I m 5 = nn c) (h8 : c ≤ 8) : ∃ I', am_E m_X9_remember (d + 1) 0 0 [.ref m, .ref ρ] Γ I L (.inl none) I' L ∧ kpt I I' m ρ c := by
  obtain ⟨mo, r0, r1, r2, r3, r4, r7, r8, r13, r14, r15, r16, r17, a1, a2, -⟩ := id hm
  by_cases h : c = 8
  · subst h
    have e7 : am_u (am_cI I (m + 2) (m + 2) (508 : Int32).toNatClampNeg (0 : Int32).toNatClampNeg (3556 : Int32).toNatClampNeg) m 5 (am_cI I (m + 2) (m + 2) (508 : Int32).toNatClampNeg (0 : Int32).toNatClampNeg (3556 : Int32).toNatClampNeg m 5 - 1) m 5 = nn 7 := by
      rw [am_u_at, if_pos ⟨rfl, rfl⟩, am_cI_at, if_neg (fun z => by omega), hc]
      rfl
    refine ⟨_, am_ofE rfl rfl rfl (Nat.le_of_ble_eq_true rfl) (by
      refine bX9_remember_0 mo (fun z => absurd (by rw [hc]; rfl) z) (fun _ => ?_)
      refine bX9_remember_9 mo r1 a2 (by decide) (by decide) ?_
      refine bX9_remember_37 mo r1 (Nat.zero_le _) (Nat.zero_le _) (by rw [e7]; exact eX9_copy (s := 0) (e := 3556) hρ a2 (by decide) (by decide) (by decide) (by decide)) ?_
      refine bX9_remember_54 mo ?_
      exact ⟨rfl, rfl, rfl⟩), ?_, fun i j hi hj => ?_, fun a b1 b2 => ?_, fun j hj => ?_⟩
    · rw [am_u_at, if_pos ⟨rfl, rfl⟩, am_cI_at, if_neg (fun z => by omega), e7]
      rfl
    · simp only [if_true] at hi ⊢
      rw [am_u_ne (by omega), am_cI_at]
      by_cases hi7 : i = 7
      · subst hi7
        rw [if_pos ⟨rfl, by omega, by omega⟩, if_pos rfl, am_u_ne h1, am_cI_at, if_neg (fun z => h2 z.1)]
        exact congrArg (I ρ) (by omega)
      · rw [if_neg (fun z => by omega), if_neg hi7, am_u_ne (by omega), am_cI_at, c508, c0, c3556, if_pos ⟨rfl, by omega, by omega⟩]
        exact congrArg (I (m + 2)) (by omega)
    · rw [am_u_ne b1]
      funext j
      rw [am_cI_at, if_neg (fun z => b2 z.1), am_u_ne b1, am_cI_at, if_neg (fun z => b2 z.1)]
    · rw [am_u_at, if_neg (fun z => hj z.2), am_cI_at, if_neg (fun z => by omega), am_u_at, if_neg (fun z => hj z.2), am_cI_at, if_neg (fun z => by omega)]
  · refine ⟨_, am_ofE rfl rfl rfl (Nat.le_of_ble_eq_true rfl) (by
      refine bX9_remember_0 mo (fun _ => ?_) (fun z => absurd z (by rw [hc, nl_8, nn_eq (by omega) (by omega)]; exact h))
      refine bX9_remember_37 mo r1 (Nat.zero_le _) (Nat.zero_le _) (by rw [hc, show nn c * 508 = nn (c * 508) from nn_mul c 508]; exact eX9_copy (s := 0) (e := c * 508) hρ a2 (by decide) (by omega) (by decide) (by decide)) ?_
      refine bX9_remember_54 mo ?_
      exact ⟨rfl, rfl, rfl⟩), ?_, fun i j hi hj => ?_, fun a b1 b2 => ?_, fun j hj => ?_⟩
    · rw [am_u_at, if_pos ⟨rfl, rfl⟩, am_cI_at, if_neg (fun z => by omega), hc, nn_s1, if_neg h]
    · rw [if_neg h] at hi ⊢
      rw [am_u_ne (by omega), am_cI_at]
      by_cases hic : i = c
      · subst hic
        rw [if_pos ⟨rfl, by omega, by omega⟩, if_pos rfl]
        exact congrArg (I ρ) (by omega)
      · rw [if_neg (fun z => by omega), if_neg hic, if_neg h]
    · rw [am_u_ne b1]
      funext j
      rw [am_cI_at, if_neg (fun z => b2 z.1)]
    · rw [am_u_at, if_neg (fun z => hj z.2), am_cI_at, if_neg (fun z => by omega)]
/-- the history after one more state -/
theorem hiR.push {I Ic Im : am_I} {L Lc : am_L} {o s : Nat} (h1 : I 83 1 = nn o) (h2 : I 83 2 = nn s) (ho : o < 8) (hs8 : s ≤ 8) (h5 : I 450 5 = nn s) (h6 : ∀ i, i < s → wfs (kR I i) ∧ stR I L (hs 83 ((o + i) % 8)) (kR I i)) (hw : wfs (I 451)) (hst : stR I L 9 (I 451))
    (c1 : Ic 83 1 = nn (if s = 8 then (o + 1) % 8 else o)) (c2 : Ic 83 2 = nn (if s = 8 then 8 else s + 1)) (c3 : stEq I Ic L Lc (hs 83 ((if s = 8 then o else o + s) % 8)) 9 (vG (I 451))) (c4 : ∀ c, 84 ≤ c → c < 373 → (c < hs 83 ((if s = 8 then o else o + s) % 8) ∨ hs 83 ((if s = 8 then o else o + s) % 8) + 36 ≤ c) → Ic c = I c) (c5 : ∀ c, 84 ≤ c → c < 373 → (c < hs 83 ((if s = 8 then o else o + s) % 8) ∨ hs 83 ((if s = 8 then o else o + s) % 8) + 36 ≤ c) → Lc c = L c)
    (m1 : Im 450 5 = nn (if s = 8 then 8 else s + 1)) (m2 : ∀ i j, i < (if s = 8 then 8 else s + 1) → j < 508 → Im 452 (508 * i + j) = if i = (if s = 8 then 7 else s) then I 451 j else if s = 8 then I 452 (508 * (i + 1) + j) else I 452 (508 * i + j)) (mc : ∀ c, 83 ≤ c → c < 373 → Im c = Ic c) : hiR Im Lc := by
  have hE : ∀ i, hs 83 i = 83 + (2 + 36 * i) := fun _ => rfl
  have ent : ∀ i, i < 8 → ∀ w, wfs w → stR Ic Lc (hs 83 i) w → stR Im Lc (hs 83 i) w := fun i hi w a b => b.fr a.1.2.2.1.2 (fun c x y => mc c (by have := hE i; omega) (by have := hE i; omega)) (fun _ _ _ => rfl)
  by_cases h8 : s = 8
  · subst h8
    simp only [if_true] at c1 c2 c3 c4 c5 m1 m2
    refine ⟨(o + 1) % 8, 8, by rw [mc 83 (by decide) (by decide)]; exact c1, by rw [mc 83 (by decide) (by decide)]; exact c2, Nat.mod_lt _ (by decide), Nat.le_refl _, m1, fun i hi => ?_⟩
    have him : ((o + 1) % 8 + i) % 8 < 8 := Nat.mod_lt _ (by decide)
    by_cases h7 : i = 7
    · subst h7
      have ek : ∀ j, j < 508 → kR Im 7 j = I 451 j := fun j hj => by
        have := m2 7 j (by decide) hj
        simp only [if_true] at this
        exact this
      have ei : ((o + 1) % 8 + 7) % 8 = o % 8 := by omega
      rw [ei]
      refine ⟨hw.cg ek, ?_⟩
      exact ((ent _ (Nat.mod_lt _ (by decide)) _ hw (hst.cp hw.1 c3)).cg hw.1 ek)
    · have ek : ∀ j, j < 508 → kR Im i j = kR I (i + 1) j := fun j hj => by
        have := m2 i j hi hj
        rw [if_neg h7] at this
        exact this
      have ei : ((o + 1) % 8 + i) % 8 = (o + (i + 1)) % 8 := by omega
      rw [ei]
      obtain ⟨a, b⟩ := h6 (i + 1) (by omega)
      refine ⟨a.cg ek, ?_⟩
      have hne : (o + (i + 1)) % 8 ≠ o % 8 := by omega
      have hl : (o + (i + 1)) % 8 < 8 := Nat.mod_lt _ (by decide)
      have e1 := hE ((o + (i + 1)) % 8)
      have e2 := hE (o % 8)
      refine (ent _ hl _ a (b.fr a.1.2.2.1.2 (fun c x y => c4 c (by omega) (by omega) (by omega)) (fun c x y => c5 c (by omega) (by omega) (by omega)))).cg a.1 ek
  · simp only [if_neg h8] at c1 c2 c3 c4 c5 m1 m2
    refine ⟨o, s + 1, by rw [mc 83 (by decide) (by decide)]; exact c1, by rw [mc 83 (by decide) (by decide)]; exact c2, ho, by omega, m1, fun i hi => ?_⟩
    by_cases his : i = s
    · subst his
      have ek : ∀ j, j < 508 → kR Im i j = I 451 j := fun j hj => by
        have := m2 i j hi hj
        rw [if_pos rfl] at this
        exact this
      exact ⟨hw.cg ek, (ent _ (Nat.mod_lt _ (by decide)) _ hw (hst.cp hw.1 c3)).cg hw.1 ek⟩
    · have ek : ∀ j, j < 508 → kR Im i j = kR I i j := fun j hj => by
        have := m2 i j hi hj
        rw [if_neg his] at this
        exact this
      obtain ⟨a, b⟩ := h6 i (by omega)
      refine ⟨a.cg ek, ?_⟩
      have hne : (o + i) % 8 ≠ (o + s) % 8 := by omega
      have hl : (o + i) % 8 < 8 := Nat.mod_lt _ (by decide)
      have e1 := hE ((o + i) % 8)
      have e2 := hE ((o + s) % 8)
      exact (ent _ hl _ a (b.fr a.1.2.2.1.2 (fun c x y => c4 c (by omega) (by omega) (by omega)) (fun c x y => c5 c (by omega) (by omega) (by omega)))).cg a.1 ek
section RC
variable {d d2 : Nat} {Γ : am_G} {I : am_I} {L : am_L}
/-- a change: the class remembers (I1, L1) and works on (Ic, Lc); the model remembers and works (Im) -/
theorem REL.rem (hF : wF Γ) (R : REL I L) : ∃ I1 L1, am_E m_X1_remember (d + 3) 0 0 [.ref 83, .ref 9] Γ I L (.inl none) I1 L1 ∧ (∀ c, c < 83 ∨ 373 ≤ c → I1 c = I c) ∧ (∀ c, c < 83 ∨ 373 ≤ c → L1 c = L c) ∧
    ∀ (Ic : am_I) (Lc : am_L) (v : Int32), (∀ c, 9 ≤ c → ¬ (45 ≤ c ∧ c < 83) → 45 ≤ c → Ic c = I1 c) → (∀ c, 45 ≤ c → c < 450 → ¬ (45 ≤ c ∧ c < 83) → Lc c = L1 c) → (Ic 81 1 = I 81 1 ∧ Ic 81 2 = I 81 2 ∧ Ic 81 3 = I 81 3) → Ic 82 = I 82 → ∃ Ir, am_E m_X9_remember (d2 + 1) 0 0 [.ref 450, .ref 451] Γ (am_u Ic 450 6 v) Lc (.inl none) Ir Lc ∧ (∀ a, a ≠ 450 → a ≠ 452 → Ir a = Ic a) ∧ Ir 450 6 = v ∧
      ∀ (Im : am_I), wfs (Im 451) → stR Ic Lc 9 (Im 451) → (∀ a, a ≠ 451 → a ≠ 458 → a ≠ 459 → a ≠ 460 → a ≠ 461 → Im a = Ir a) → REL Im Lc := by
  obtain ⟨-, so, st, -, -, hi, -, -, hm, -⟩ := id hF
  obtain ⟨hw, hst, ⟨o, s, h1, h2, ho, hs8, h5, h6⟩, h4, h5', h6', h7⟩ := R
  have g4 := hw.1.2.2.1.2
  obtain ⟨I1, L1, hE, p1, p2, p3, p4, p5⟩ := eX1_remember (d := d) (L := L) hi st (Or.inl (by decide)) h1 h2 ho hs8 (hst.1.2.2.1.trans hw.1.2.2.1.1) g4
  have hE2 : ∀ i, hs 83 i = 83 + (2 + 36 * i) := fun _ => rfl
  have hidx : (if s = 8 then o else o + s) % 8 < 8 := Nat.mod_lt _ (by decide)
  have hh := hE2 ((if s = 8 then o else o + s) % 8)
  have fI : ∀ c, c < 83 ∨ 373 ≤ c → I1 c = I c := fun c hc => p4 c (by omega) (by omega)
  have fL : ∀ c, c < 83 ∨ 373 ≤ c → L1 c = L c := fun c hc => p5 c (by omega)
  refine ⟨I1, L1, hE, fI, fL, fun Ic Lc v q1 q2 q3 q4 => ?_⟩
  have fc : ∀ c, 83 ≤ c → Ic c = I1 c := fun c hc => q1 c (by omega) (by omega) (by omega)
  have fm : ∀ c, 373 ≤ c → Ic c = I c := fun c hc => by rw [fc c (by omega), fI c (Or.inr hc)]
  obtain ⟨a1, a2⟩ := (⟨hm.2.2.2.2.2.2.2.2.2.2.2.2.2.1, trivial⟩ : am_ar Γ 451 1 508 0 ∧ True)
  obtain ⟨Ir, hR, k1, k2, k3, k4⟩ := eX9_remember (d := d2) (L := Lc) (I := am_u Ic 450 6 v) (m := 450) (ρ := 451) (c := s) hm a1 (by decide) (by decide) (by rw [am_u_at, if_neg (by decide), fm 450 (by decide)]; exact h5) hs8
  have r1 : ∀ a, a ≠ 450 → a ≠ 452 → Ir a = Ic a := fun a b1 b2 => by rw [k3 a b1 b2, am_u_ne b1]
  have r6 : ∀ j, j ≠ 5 → j ≠ 6 → Ir 450 j = I 450 j := fun j j5 j6 => by rw [k4 j j5, am_u_at, if_neg (fun z => j6 z.2), fm 450 (by decide)]
  refine ⟨Ir, hR, r1, by rw [k4 6 (by decide), am_u_at, if_pos ⟨rfl, rfl⟩], fun Im w1 w2 w3 => ?_⟩
  have im : ∀ c, 9 ≤ c → c < 450 → Im c = Ic c := fun c x y => by rw [w3 c (by omega) (by omega) (by omega) (by omega) (by omega), r1 c (by omega) (by omega)]
  have imO : ∀ c, 453 ≤ c → c < 458 → Im c = I c := fun c x y => by rw [w3 c (by omega) (by omega) (by omega) (by omega) (by omega), r1 c (by omega) (by omega), fm c (by omega)]
  have im450 : ∀ j, j ≠ 5 → j ≠ 6 → Im 450 j = I 450 j := fun j j5 j6 => by rw [w3 450 (by decide) (by decide) (by decide) (by decide) (by decide), r6 j j5 j6]
  refine ⟨w1, w2.fr w1.1.2.2.1.2 (fun c x y => im c (by omega) (by omega)) (fun _ _ _ => rfl), ?_, ?_, ?_, ?_, ?_⟩
  · refine hiR.push h1 h2 ho hs8 h5 h6 hw hst (Ic := Ic) (by rw [fc 83 (by decide)]; exact p1) (by rw [fc 83 (by decide)]; exact p2) ?_ (fun c x y z => by rw [fc c (by omega), p4 c (by omega) z]) (fun c x y z => by rw [q2 c (by omega) (by omega) (by omega), p5 c z]) (by rw [w3 450 (by decide) (by decide) (by decide) (by decide) (by decide)]; exact k1) (fun i j hi hj => ?_) (fun c x y => im c (by omega) (by omega))
    · obtain ⟨⟨e1, e1a, e1b, e1c⟩, e2, e3, e4, e5⟩ := p3
      have cI : ∀ k, k < 36 → Ic (hs 83 ((if s = 8 then o else o + s) % 8) + k) = I1 (hs 83 ((if s = 8 then o else o + s) % 8) + k) := fun k hk => fc _ (by omega)
      have cL : ∀ k, k < 36 → Lc (hs 83 ((if s = 8 then o else o + s) % 8) + k) = L1 (hs 83 ((if s = 8 then o else o + s) % 8) + k) := fun k hk => q2 _ (by omega) (by omega) (by omega)
      have c0' := cI 0 (by decide)
      rw [Nat.add_zero] at c0'
      refine ⟨⟨by rw [c0']; exact e1, by rw [c0']; exact e1a, by rw [c0']; exact e1b, by rw [c0']; exact e1c⟩, fun j hj => ?_, fun j hj => ?_, fun j hj => by rw [cI 7 (by decide)]; exact e4 j hj, fun g hg => ?_⟩
      · rw [cL 1 (by decide), cI 2 (by decide), cI 3 (by decide)]; exact e2 j hj
      · rw [cL 4 (by decide), cI 5 (by decide)]; exact e3 j hj
      · refine (e5 g hg).to (fun c x y => fc c (by unfold gc at x; omega)) (fun c x y => q2 c (by unfold gc at x; omega) (by unfold gc at y; omega) (by unfold gc at x; omega))
    · have := k2 i j hi hj
      rw [w3 452 (by decide) (by decide) (by decide) (by decide) (by decide)]
      rw [show (450 + 2 : Nat) = 452 from rfl, am_u_ne (show (451 : Nat) ≠ 450 by decide), am_u_ne (show (452 : Nat) ≠ 450 by decide), fm 451 (by decide), fm 452 (by decide)] at this
      exact this
  · exact h4.fr (fun c x y => by rw [im c (by omega) (by omega), fm c (by omega)]) (imO _ (by decide) (by decide)) (imO _ (by decide) (by decide)) (fun c x y => by rw [q2 c (by omega) (by omega) (by omega), fL c (by omega)])
  · obtain ⟨n, n1, n2, n3, n4⟩ := h5'
    refine ⟨n, n1, by rw [im 81 (by decide) (by decide), q3.1]; exact n2, by rw [im450 9 (by decide) (by decide)]; exact n3, fun j hj => ?_⟩
    rw [imO 456 (by decide) (by decide), im 82 (by decide) (by decide), q4]
    exact n4 j hj
  · rw [im 81 (by decide) (by decide), q3.2.1, q3.2.2, im450 11 (by decide) (by decide), im450 12 (by decide) (by decide)]
    exact h6'
  · obtain ⟨n, n1, n2, n3, n4⟩ := h7
    refine ⟨n, n1, by rw [im 447 (by decide) (by decide), fm 447 (by decide)]; exact n2, by rw [im450 10 (by decide) (by decide)]; exact n3, fun j hj => ?_⟩
    rw [im 448 (by decide) (by decide), fm 448 (by decide), imO 457 (by decide) (by decide)]
    exact n4 j hj
end RC
