/-! CLASS AND MODEL SIDE BY SIDE: load -/
section LD
variable {d : Nat} {Γ : am_G} {I : am_I} {L : am_L} {B : Nat → Nat} {n : Nat}
theorem stR_zero {b : Nat} (w : Nat → Int32) (h : ∀ j, j < 4 → I b j = 0) (h7 : ∀ j, j < 8 → I (b + 7) j = 0) : stR I L b (zrow w) := by
  obtain ⟨⟨-, vT0, vG0, -⟩, vQ0⟩ := zrow_inv w
  have z : ∀ j, j < 508 → zrow w j = 0 := fun j hj => if_pos hj
  exact ⟨⟨by rw [h 0 (by decide), z 0 (by decide)], by rw [h 1 (by decide), z 1 (by decide)], by rw [h 2 (by decide), z 2 (by decide)], by rw [h 3 (by decide), z 3 (by decide)]⟩, fun q a => absurd a (by omega), fun t a => absurd a (by omega), fun j hj => by rw [h7 j hj, z _ (by omega)], fun g a => absurd a (by omega)⟩
/-- the class reads a text to load: setup, commands -/
theorem cLoad (hF : wF Γ) (w : Nat → Int32) (hn7 : n ≤ 700) (hn1 : I 81 1 = nn n) (hBy : ∀ j, j < n → B j < 256 ∧ I 82 j = (nn (B j)).toInt8.toInt32) {U : Except (Nat × Nat) ((Nat → Int32) × Nat)} (hU : uText B n w = U) :
    ∃ Ic Lc, allOut B n Ic Lc U ∧ zO Ic U ∧ (∀ k, 9 ≤ k → ¬ (45 ≤ k ∧ k < 82) → Ic k = I k) ∧ (∀ k, 9 ≤ k → ¬ (45 ≤ k ∧ k < 82) → Lc k = L k) ∧
      ∀ (If : am_I) (Lf : am_L) (r : Int32), (okA U = 0 → am_W m_X8_load 270 1 6 false 1 6 52 [(0, .ref 0), (1, .int 0)] [] Γ (am_u Ic 81 1 0) Lc (am_R (.inl (some (.int r))) If Lf)) → (¬ okA U = 0 → am_W m_X8_load 270 1 6 false 1 6 54 [(0, .ref 0), (1, .int 1)] [] Γ (am_u Ic 81 1 0) Lc (am_R (.inl (some (.int r))) If Lf)) → am_E m_X8_load 270 1 6 [.ref 0] Γ I L (.inl (some (.int r))) If Lf := by
  obtain ⟨⟨o, f0, f1, f2, f3, f4, f5, f6, f7⟩, so, st, dr, ⟨ro, rr0, rr5, rr6, ra⟩, -⟩ := id hF
  obtain ⟨Ia, hPa, za, za7, ka⟩ := eX5_empty (d := 268) (I := I) (L := L) (b := 45) dr
  have rBa : rcB Ia B n := ⟨hn7, by rw [ka 81 (by decide)]; exact hn1, fun j hj => ⟨(hBy j hj).1, by rw [ka 82 (by decide)]; exact (hBy j hj).2⟩⟩
  obtain ⟨Ib, Lb, hBg, rBb, tkb, ⟨b2, b3, b4⟩, kIb, jIb, kLb⟩ := eX3_begin (d := 267) (L := L) ro rr0 ra rBa
  obtain ⟨hI, hQ⟩ := zrow_inv w
  have cb : clR B n Ib Lb (skp B n 0) (zrow w) := ⟨rBb, tkb, stR_zero w (fun j hj => by rw [kIb 45 (by decide)]; exact za j hj) (fun j hj => by rw [kIb _ (by decide)]; exact za7 j hj)⟩
  obtain ⟨Is, Ls, hSe, yS, kS⟩ := eX3_readSetup (d := 262) hF.c hI hQ cb
  have fIb : ∀ k, 9 ≤ k → ¬ (45 ≤ k ∧ k < 82) → Ib k = I k := fun k a b => (kIb k (by omega)).trans (ka k (by omega))
  have fLb : ∀ k, 9 ≤ k → ¬ (45 ≤ k ∧ k < 82) → Lb k = L k := fun k a b => kLb k (by omega)
  have head : ∀ (If : am_I) (Lf : am_L) (r : Int32), am_W m_X8_load 270 1 6 false 1 6 21 [(0, .ref 0)] [.int (oky (uSet B n (zrow w) (skp B n 0)))] Γ Is Ls (am_R (.inl (some (.int r))) If Lf) → am_E m_X8_load 270 1 6 [.ref 0] Γ I L (.inl (some (.int r))) If Lf := fun If Lf r h => by
    refine am_ofE rfl rfl rfl (Nat.le_of_ble_eq_true rfl) ?_
    refine bX8_load_0 o f2 dr.1 (Nat.zero_le _) (Nat.zero_le _) hPa ?_
    refine bX8_load_7 o f3 ro (Nat.zero_le _) (Nat.zero_le _) hBg ?_
    exact bX8_load_14 o f3 ro (Nat.zero_le _) (Nat.zero_le _) hSe h
  cases hSet : uSet B n (zrow w) (skp B n 0) with
  | error e =>
    rw [hSet] at kS head
    rw [uText_e hSet] at hU
    subst hU
    refine ⟨Is, Ls, kS, trivial, fun k a b => (yS.1 k a b).trans (fIb k a b), fun k a b => (yS.2.2 k a b).trans (fLb k a b), fun If Lf r k1 _ => head _ _ _ ?_⟩
    refine bX8_load_21 (fun _ => ?_) (fun z => absurd rfl z)
    refine bX8_load_38 ?_
    exact bX8_load_39 o f3 ro (fun z => absurd rfl z) (fun _ => k1 rfl)
  | ok q =>
    obtain ⟨s', w0⟩ := q
    rw [hSet] at kS head
    obtain ⟨kpS, cS⟩ := kS
    have hw0 := uSet_wfs hI hSet
    rw [uText_o hSet] at hU
    obtain ⟨Ic, Lc, hRC, aO, fE, kO⟩ := eX3_readCommands_go (d := 262) hF.c (n + 1) (k := 0) hw0 cS (by rw [yS.2.1 4 (by decide) (by decide) (by decide) (by decide) (by decide) (by decide)]; exact b4) (Nat.zero_le _) (by omega)
    rw [hU] at hRC aO kO
    have hRd : am_E m_X3_readCommands 269 0 0 [.ref 81] Γ Is Ls (.inl (some (.int (okA U)))) Ic Lc := am_ofE rfl rfl rfl (Nat.le_of_ble_eq_true rfl) (bX3_readCommands_0 hRC)
    refine ⟨Ic, Lc, aO, ?_, fun k a b => (fE.1 k a b).trans ((yS.1 k a b).trans (fIb k a b)), fun k a b => (fE.2.2 k a b).trans ((yS.2.2 k a b).trans (fLb k a b)), fun If Lf r k1 k2 => head _ _ _ ?_⟩
    · cases U with
      | error e => trivial
      | ok q => exact ⟨kO.1.trans (kpS.1.trans b2), kO.2.trans (kpS.2.trans b3)⟩
    · refine bX8_load_21 (fun z => absurd z (show ¬ (1 : Int32) = 0 by decide)) (fun _ => ?_)
      refine bX8_load_24 o f3 ro (Nat.zero_le _) (Nat.zero_le _) hRd ?_
      refine bX8_load_31 (fun z => ?_) (fun z => ?_)
      · refine bX8_load_38 ?_
        exact bX8_load_39 o f3 ro (fun z => absurd rfl z) (fun _ => k1 z)
      · refine bX8_load_34 ?_
        exact bX8_load_39 o f3 ro (fun _ => k2 z) (fun z => absurd z (by decide))
theorem fX_load (hF : wF Γ) (R : REL I L) : gX Γ I L m_X8_load m_X9_load [] [] := by
  obtain ⟨⟨o, f0, f1, f2, f3, f4, f5, f6, f7⟩, so, st, dr, ⟨ro, rr0, rr5, rr6, ra⟩, hi, sv, ⟨oo, or0, or2, oa, oa2⟩, hm, am, am2⟩ := id hF
  have mo := hm.1
  obtain ⟨n, B, hn7, hn1, hn2, hBy⟩ := R.txt
  obtain ⟨oh, sh, hh1, hh2, ho, hs8, hh5, hh6⟩ := R.2.2.1
  obtain ⟨U, hU⟩ : ∃ U, uText B n (I 451) = U := ⟨_, rfl⟩
  obtain ⟨Ic, Lc, aO, kO, fI, fL, cls⟩ := cLoad hF (I 451) hn7 hn1 (fun j hj => ⟨(hBy j hj).1, (hBy j hj).2.2⟩) hU (L := L)
  obtain ⟨J, hJ⟩ : ∃ J, J = am_u Ic 81 1 0 := ⟨_, rfl⟩
  rw [← hJ] at cls
  have j1 : J 81 1 = 0 := by rw [hJ, at1, if_pos rfl]
  have j81 : ∀ j, j ≠ 1 → J 81 j = Ic 81 j := fun j h => by rw [hJ, at1, if_neg h]
  have jn : ∀ k, k ≠ 81 → J k = Ic k := fun k hk => by rw [hJ, am_u_ne hk]
  have jI : ∀ k, 9 ≤ k → ¬ (45 ≤ k ∧ k < 82) → J k = I k := fun k a b => (jn k (by omega)).trans (fI k a b)
  cases U with
  | error e =>
    obtain ⟨c, p⟩ := e
    obtain ⟨-, hEr⟩ := mLoad (d := 16) (L := Lc) hm (J := J) hn7 (by rw [jI 450 (by decide) (by decide)]; exact hn2) (fun j hj => ⟨(hBy j hj).1, by rw [jI 456 (by decide) (by decide)]; exact (hBy j hj).2.1⟩) ((congrFun (jI 450 (by decide) (by decide)) 5).trans hh5) hs8 ((congrArg (uText B n) (jI 451 (by decide) (by decide))).trans hU)
    obtain ⟨M, hE, x1, x2, x3, x4, x5, x6, x7, x8⟩ := hEr c p rfl
    refine ⟨J, Lc, M, .inl (some (.int (-1))), -1, cls _ _ _ (fun _ => ?_) (fun z => absurd rfl z), hE, R.bad ?_ fL ?_ ?_ ?_ ?_ x5 ?_ ?_, Or.inl ⟨rfl, x8⟩⟩
    · refine bX8_load_52 ?_
      exact ⟨rfl, rfl, rfl⟩
    · exact fun k a b c' e f g => (x1 k e f g (by omega)).trans (jI k a c')
    · exact fun j hj => (x2 j hj).trans (congrFun (jI 451 (by decide) (by decide)) j)
    · exact x3.trans (congrFun (jI 450 (by decide) (by decide)) 5)
    · exact x4.trans (congrFun (jI 450 (by decide) (by decide)) 10)
    · rw [x1 81 (by decide) (by decide) (by decide) (by decide)]; exact j1
    · rw [x1 81 (by decide) (by decide) (by decide) (by decide), j81 2 (by decide), x6]; exact aO.1
    · rw [x1 81 (by decide) (by decide) (by decide) (by decide), j81 3 (by decide), x7]; exact aO.2
  | ok q =>
    obtain ⟨w', k'⟩ := q
    obtain ⟨hw', hd, h4⟩ := aO
    obtain ⟨I2, L2, hAc, hAF, h45⟩ := R.accD (d := 265) hF (Ic := J) (Lc := Lc) hh1 hh2 ho hs8 jI fL hw'.1 (hd.fr hw'.1.2.2.1.2 (fun c x y => jn c (by omega)) (fun _ _ _ => rfl))
    have i2 : ∀ k, 373 ≤ k → I2 k = I k := hAF.2.2.2.2.2.2.1
    obtain ⟨hOk, -⟩ := mLoad (d := 16) (L := L2) hm (J := I2) hn7 (by rw [i2 450 (by decide)]; exact hn2) (fun j hj => ⟨(hBy j hj).1, by rw [i2 456 (by decide)]; exact (hBy j hj).2.1⟩) ((congrFun (i2 450 (by decide)) 5).trans hh5) hs8 ((congrArg (uText B n) (i2 451 (by decide))).trans hU)
    obtain ⟨M, hE, x1, x2, x3, x4, x5, x6, x7, x8, x9⟩ := hOk w' k' rfl
    rw [i2 451 (by decide), i2 452 (by decide)] at x4
    refine ⟨I2, L2, M, .inl (some (.int (w' 1))), w' 1, cls _ _ _ (fun z => absurd z (show ¬ (1 : Int32) = 0 by decide)) (fun _ => ?_), hE, R.acc hw' hh1 hh2 ho hs8 hh5 hh6 hAF ?_ ?_ x2 x3 x4 ?_ x6 ?_ ?_ ?_, Or.inl ⟨rfl, x9⟩⟩
    · refine bX8_load_54 o (Nat.zero_le _) (Nat.zero_le _) hAc ?_
      refine bX8_load_58 o f1 st.1 ?_
      exact am_R_e hAF.1.1.2.1 rfl rfl
    · exact fun c a b => x1 c (by omega) (by omega) (by omega) (by omega) (by omega)
    · exact fun c a b e => (x1 c (by omega) (by omega) (by omega) e (by omega)).trans (i2 c (by omega))
    · exact x5.trans (congrFun (i2 450 (by decide)) 10)
    · rw [h45 81 (by decide) (by decide)]; exact j1
    · rw [h45 81 (by decide) (by decide), j81 2 (by decide), x7]; exact kO.1
    · rw [h45 81 (by decide) (by decide), j81 3 (by decide), x8]; exact kO.2
end LD
