/-! CLASS AND MODEL SIDE BY SIDE: play -/
/-- how the model stands after a text with a fault, and after one without; s: how many changes could be undone -/
def mFlt (J M : am_I) (c p : Nat) : Prop := (∀ k, k ≠ 450 → k ≠ 451 → k ≠ 454 → ¬ (458 ≤ k ∧ k ≤ 462) → M k = J k) ∧ (∀ j, j < 508 → M 451 j = J 451 j) ∧ M 450 5 = J 450 5 ∧ M 450 10 = J 450 10 ∧ M 450 9 = 0 ∧ M 450 11 = nn c ∧ M 450 12 = nn p ∧ M 450 6 = 0
def mDone (J M : am_I) (w' : Nat → Int32) (s : Nat) : Prop := (∀ k, k ≠ 450 → k ≠ 451 → k ≠ 452 → k ≠ 454 → ¬ (458 ≤ k ∧ k ≤ 462) → M k = J k) ∧ M 451 = w' ∧ M 450 5 = nn (if s = 8 then 8 else s + 1) ∧ (∀ i j, i < (if s = 8 then 8 else s + 1) → j < 508 → M 452 (508 * i + j) = if i = (if s = 8 then 7 else s) then J 451 j else if s = 8 then J 452 (508 * (i + 1) + j) else J 452 (508 * i + j)) ∧ M 450 10 = J 450 10 ∧ M 450 9 = 0 ∧ M 450 11 = 0 ∧ M 450 12 = -1 ∧ M 450 6 = 0
/-- the model before its commands: J is how it stood before the text -/
def mBfr (B : Nat → Nat) (n : Nat) (J K : am_I) : Prop := (∀ k, k ≠ 450 → k ≠ 451 → k ≠ 454 → ¬ (458 ≤ k ∧ k ≤ 462) → K k = J k) ∧ (∀ j, j < 508 → K 454 j = J 451 j) ∧ rmB K 450 B n ∧ K 450 5 = J 450 5 ∧ K 450 10 = J 450 10 ∧ K 450 6 = 0
def zO (I : am_I) (o : Except (Nat × Nat) ((Nat → Int32) × Nat)) : Prop := match o with
  | .ok _ => I 81 2 = 0 ∧ I 81 3 = -1
  | .error _ => True
section PL
variable {d : Nat} {Γ : am_G} {I : am_I} {L : am_L} {B : Nat → Nat} {n : Nat}
theorem REL.txt (R : REL I L) : ∃ (n : Nat) (B : Nat → Nat), n ≤ 700 ∧ I 81 1 = nn n ∧ I 450 9 = nn n ∧ ∀ j, j < n → B j < 256 ∧ I 456 j = nn (B j) ∧ I 82 j = (nn (B j)).toInt8.toInt32 := by
  obtain ⟨n, hn7, hn1, hn2, hn3⟩ := R.2.2.2.2.1
  refine ⟨n, fun j => if h : j < n then (hn3 j h).choose else 0, hn7, hn1, hn2, fun j h => ?_⟩
  simp only [dif_pos h]
  exact (hn3 j h).choose_spec
theorem mFin_ok (hm : mdF Γ 450) {J K : am_I} {s0 s : Nat} {w : Nat → Int32} (hb : mBfr B n J K) (hw : wfs w) (ht : tkM B n K 450 s0) (hr : K 451 = w) (k23 : K 450 23 = 0) (k11 : K 450 11 = 0) (k12 : K 450 12 = -1) (h5 : J 450 5 = nn s) (h8 : s ≤ 8) {U : Except (Nat × Nat) ((Nat → Int32) × Nat)} (hU : uAll B n (n + 1) s0 w 0 = U) :
    (∀ w' k, U = .ok (w', k) → ∃ M, am_E m_X9_commands (d + 263) 0 0 [.ref 450] Γ K L (.inl (some (.int (nn k)))) M L ∧ mDone J M w' s) ∧ (∀ c p, U = .error (c, p) → ∃ M, am_E m_X9_commands (d + 263) 0 0 [.ref 450] Γ K L (.inl (some (.int (-1)))) M L ∧ mFlt J M c p) := by
  obtain ⟨fk, fb, frm, f5, f10, f6⟩ := hb
  obtain ⟨K2, v, hA, hOk, hEr⟩ := eX9_commands (d := d) (L := L) hm hw frm ht hr k23 (f := n + 1) (by omega) (f5.trans h5) h8
  rw [hU] at hA hOk hEr
  refine ⟨fun w' k hk => ?_, fun c p hk => ?_⟩
  · obtain ⟨M, hE, hK⟩ := hOk w' k hk
    rw [hk] at hA
    obtain ⟨u1, u2, ⟨u3, u3'⟩, u4, -⟩ := hA
    refine ⟨M, hE, ?_⟩
    obtain ⟨p1, p2, p3, p4⟩ := hK
    have q : ∀ j, j ≠ 5 → j ≠ 9 → M 450 j = K2 450 j := fun j a b => by rw [p4 j a, at1, if_neg b]
    refine ⟨fun k a b c e f => ?_, ?_, p1, fun i j hi hj => ?_, ?_, ?_, ?_, ?_, ?_⟩
    · rw [p3 k a c, am_u_ne a, u1 k a b (by omega), fk k a b e f]
    · rw [p3 451 (by decide) (by decide), am_u_ne (by decide)]; exact u4
    · have := p2 i j hi hj
      rw [am_u_ne (show 450 + 4 ≠ 450 by decide), am_u_ne (show 450 + 2 ≠ 450 by decide), u1 (450 + 4) (by decide) (by decide) (by decide), u1 (450 + 2) (by decide) (by decide) (by decide), show K (450 + 4) j = J 451 j from fb j hj, show K (450 + 2) = J 452 from fk 452 (by decide) (by decide) (by decide) (by decide)] at this
      exact this
    · rw [q 10 (by decide) (by decide), u2 10 (by decide) (by decide) (by decide), f10]
    · rw [p4 9 (by decide), at1, if_pos rfl]
    · rw [q 11 (by decide) (by decide), u3, k11]
    · rw [q 12 (by decide) (by decide), u3', k12]
    · rw [q 6 (by decide) (by decide), u2 6 (by decide) (by decide) (by decide), f6]
  · have hE := hEr _ hk
    rw [hk] at hA
    obtain ⟨u1, u2, u3, u4, u5⟩ := hA
    refine ⟨_, hE, ?_⟩
    have e0 : ∀ k, k ≠ 451 → am_cI (am_u K2 450 9 0) (450 + 4) (450 + 1) 0 0 508 k = am_u K2 450 9 0 k := fun k hk => by funext j; rw [am_cI_at, if_neg (fun z => hk z.1)]
    have q : ∀ j, j ≠ 9 → am_cI (am_u K2 450 9 0) (450 + 4) (450 + 1) 0 0 508 450 j = K2 450 j := fun j b => by rw [e0 450 (by decide), at1, if_neg b]
    refine ⟨fun k a b c e => ?_, fun j hj => ?_, ?_, ?_, ?_, ?_, ?_, ?_⟩
    · rw [e0 k b, am_u_ne a, u1 k a b (by omega), fk k a b c e]
    · rw [am_cI_at, if_pos ⟨rfl, Nat.zero_le _, by omega⟩, am_u_ne (by decide), u1 (450 + 4) (by decide) (by decide) (by decide), Nat.zero_add, Nat.sub_zero]
      exact fb j hj
    · rw [q 5 (by decide), u2 5 (by decide) (by decide) (by decide), f5]
    · rw [q 10 (by decide), u2 10 (by decide) (by decide) (by decide), f10]
    · rw [e0 450 (by decide), at1, if_pos rfl]
    · rw [q 11 (by decide)]; exact u4
    · rw [q 12 (by decide)]; exact u5
    · rw [q 6 (by decide), u2 6 (by decide) (by decide) (by decide), f6]
theorem mFin_x (hm : mdF Γ 450) {J K : am_I} {c p : Nat} (hb : mBfr B n J K) (k23 : K 450 23 = 1) (k11 : K 450 11 = nn c) (k12 : K 450 12 = nn p) :
    ∃ M, am_E m_X9_commands (d + 263) 0 0 [.ref 450] Γ K L (.inl (some (.int (-1)))) M L ∧ mFlt J M c p := by
  obtain ⟨mo, r0, r1, r2, r3, r4, r7, r8, r13, r14, r15, r16, r17, a1, a2, a3, a4, a5, a6, a7, a8, a9, a10, a11, a12⟩ := id hm
  obtain ⟨fk, fb, frm, f5, f10, f6⟩ := hb
  have e0 : ∀ k, k ≠ 451 → am_cI (am_u K 450 9 0) (450 + 4) (450 + 1) 0 0 508 k = am_u K 450 9 0 k := fun k hk => by funext j; rw [am_cI_at, if_neg (fun z => hk z.1)]
  have q : ∀ j, j ≠ 9 → am_cI (am_u K 450 9 0) (450 + 4) (450 + 1) 0 0 508 450 j = K 450 j := fun j b => by rw [e0 450 (by decide), at1, if_neg b]
  refine ⟨am_cI (am_u K 450 9 0) (450 + 4) (450 + 1) 0 0 508, am_ofE rfl rfl rfl (Nat.le_of_ble_eq_true rfl) ?_, fun k a b c e => ?_, fun j hj => ?_, ?_, ?_, ?_, ?_, ?_, ?_⟩
  · refine bX9_commands_0 ?_
    refine bX9_commands_2 mo (fun _ => ?_) (fun z => absurd z (by rw [k23]; decide))
    have x23 : am_u K 450 9 0 450 23 = 1 := by rw [at1, if_neg (by decide)]; exact k23
    refine bX9_commands_26 mo (fun z => absurd z (by rw [x23]; decide)) (fun _ => ?_)
    refine bX9_commands_38 mo (by assumption) (by assumption) (Nat.zero_le _) (Nat.zero_le _) (eX9_copy (s := 0) (e := 0) a4 a1 (by decide) (by decide) (by decide) (by decide)) ?_
    refine bX9_commands_51 ?_
    refine bX9_commands_62 mo (fun z => absurd z (by rw [q 23 (by decide), k23]; decide)) (fun _ => ?_)
    refine bX9_commands_69 ?_
    refine bX9_commands_74 ?_
    exact ⟨rfl, rfl, rfl⟩
  · rw [e0 k b, am_u_ne a, fk k a b c e]
  · rw [am_cI_at, if_pos ⟨rfl, Nat.zero_le _, by omega⟩, am_u_ne (by decide), Nat.zero_add, Nat.sub_zero]
    exact fb j hj
  · rw [q 5 (by decide), f5]
  · rw [q 10 (by decide), f10]
  · rw [e0 450 (by decide), at1, if_pos rfl]
  · rw [q 11 (by decide)]; exact k11
  · rw [q 12 (by decide)]; exact k12
  · rw [q 6 (by decide), f6]
theorem cPlay (hF : wF Γ) (R : REL I L) (hn7 : n ≤ 700) (hn1 : I 81 1 = nn n) (hBy : ∀ j, j < n → B j < 256 ∧ I 456 j = nn (B j) ∧ I 82 j = (nn (B j)).toInt8.toInt32) {U : Except (Nat × Nat) ((Nat → Int32) × Nat)} (hU : uAll B n (n + 1) (skp B n 0) (I 451) 0 = U) :
    ∃ Ic Lc, allOut B n Ic Lc U ∧ zO Ic U ∧ (∀ k, 9 ≤ k → ¬ (45 ≤ k ∧ k < 82) → Ic k = I k) ∧ (∀ k, 9 ≤ k → ¬ (45 ≤ k ∧ k < 82) → Lc k = L k) ∧
      ∀ (If : am_I) (Lf : am_L) (r : Int32), (okA U = 0 → am_W m_X8_play 270 1 6 false 1 6 38 [(0, .ref 0), (1, .int (okA U))] [] Γ (am_u Ic 81 1 0) Lc (am_R (.inl (some (.int r))) If Lf)) → (¬ okA U = 0 → am_W m_X8_play 270 1 6 false 1 6 40 [(0, .ref 0), (1, .int (okA U))] [] Γ (am_u Ic 81 1 0) Lc (am_R (.inl (some (.int r))) If Lf)) → am_E m_X8_play 270 1 6 [.ref 0] Γ I L (.inl (some (.int r))) If Lf := by
  obtain ⟨⟨o, f0, f1, f2, f3, f4, f5, f6, f7⟩, so, st, dr, ⟨ro, rr0, rr5, rr6, ra⟩, -⟩ := id hF
  have g4 := R.1.1.2.2.1.2
  have n2 : I 9 2 = nn (vG (I 451)) := R.2.1.1.2.2.1.trans R.1.1.2.2.1.1
  obtain ⟨Ia, La, hPa, sEa, gIa, gLa⟩ := eX5_copyFrom (d := 267) (I := I) (L := L) (a := 45) (b := 9) dr st (Or.inr (by decide)) n2 g4
  have sa := R.2.1.cp R.1.1 sEa
  have rBa : rcB Ia B n := ⟨hn7, by rw [gIa 81 (by decide)]; exact hn1, fun j hj => ⟨(hBy j hj).1, by rw [gIa 82 (by decide)]; exact (hBy j hj).2.2⟩⟩
  obtain ⟨Ib, Lb, hBg, rBb, tkb, ⟨b2, b3, b4⟩, kIb, jIb, kLb⟩ := eX3_begin (d := 267) (L := La) ro rr0 ra rBa
  have cb : clR B n Ib Lb (skp B n 0) (I 451) := ⟨rBb, tkb, sa.fr g4 (fun c x y => kIb c (by omega)) (fun c x y => kLb c (by omega))⟩
  obtain ⟨Ic, Lc, hRC, aO, fE, kO⟩ := eX3_readCommands_go (d := 262) hF.c (n + 1) (k := 0) R.1 cb b4 (Nat.zero_le _) (by omega)
  rw [hU] at hRC aO kO
  have hRd : am_E m_X3_readCommands 269 0 0 [.ref 81] Γ Ib Lb (.inl (some (.int (okA U)))) Ic Lc := am_ofE rfl rfl rfl (Nat.le_of_ble_eq_true rfl) (bX3_readCommands_0 hRC)
  refine ⟨Ic, Lc, aO, ?_, fun k a b => (fE.1 k a b).trans ((kIb k (by omega)).trans (gIa k (by omega))), fun k a b => (fE.2.2 k a b).trans ((kLb k (by omega)).trans (gLa k (by omega))), ?_⟩
  · cases U with
    | error e => trivial
    | ok q => exact ⟨kO.1.trans b2, kO.2.trans b3⟩
  · intro If Lf r k1 k2
    refine am_ofE rfl rfl rfl (Nat.le_of_ble_eq_true rfl) ?_
    refine bX8_play_0 o f2 f1 dr.1 (Nat.zero_le _) (Nat.zero_le _) hPa ?_
    refine bX8_play_11 o f3 ro (Nat.zero_le _) (Nat.zero_le _) hBg ?_
    refine bX8_play_18 o f3 ro (Nat.zero_le _) (Nat.zero_le _) hRd ?_
    exact bX8_play_25 o f3 ro (fun z => k2 z) (fun z => k1 z)
/-- the model's state after 'starts' is one before its commands -/
theorem mStart (hm : mdF Γ 450) {J : am_I} (hn7 : n ≤ 700) (h9 : J 450 9 = nn n) (hB : ∀ j, j < n → B j < 256 ∧ J 456 j = nn (B j)) :
    ∃ K, am_E m_X9_starts (d + 3) 0 0 [.ref 450] Γ J L (.inl none) K L ∧ mBfr B n J K ∧ tkM B n K 450 (skp B n 0) ∧ K 451 = J 451 ∧ K 450 23 = 0 ∧ K 450 11 = 0 ∧ K 450 12 = -1 := by
  obtain ⟨K, hS, rK, tK, ⟨k6, k23, k11, k12⟩, kb, kk, kj⟩ := eX9_starts (d := d) (L := L) hm (I := J) (B := B) (n := n) ⟨hn7, h9, hB⟩
  exact ⟨K, hS, ⟨fun k a _ c _ => kk k a c, kb, rK, kj 5 (by decide) (by decide) (by decide) (by decide), kj 10 (by decide) (by decide) (by decide) (by decide), k6⟩, tK, kk 451 (by decide) (by decide), k23, k11, k12⟩
theorem fX_play (hF : wF Γ) (R : REL I L) : gX Γ I L m_X8_play m_X9_play [] [] := by
  obtain ⟨⟨o, f0, f1, f2, f3, f4, f5, f6, f7⟩, so, st, dr, ⟨ro, rr0, rr5, rr6, ra⟩, hi, sv, ⟨oo, or0, or2, oa, oa2⟩, hm, am, am2⟩ := id hF
  have mo := hm.1
  obtain ⟨n, B, hn7, hn1, hn2, hBy⟩ := R.txt
  obtain ⟨oh, sh, hh1, hh2, ho, hs8, hh5, hh6⟩ := R.2.2.1
  obtain ⟨U, hU⟩ : ∃ U, uAll B n (n + 1) (skp B n 0) (I 451) 0 = U := ⟨_, rfl⟩
  obtain ⟨Ic, Lc, aO, kO, fI, fL, cls⟩ := cPlay hF R hn7 hn1 hBy hU
  obtain ⟨J, hJ⟩ : ∃ J, J = am_u Ic 81 1 0 := ⟨_, rfl⟩
  rw [← hJ] at cls
  have j1 : J 81 1 = 0 := by rw [hJ, at1, if_pos rfl]
  have j81 : ∀ j, j ≠ 1 → J 81 j = Ic 81 j := fun j h => by rw [hJ, at1, if_neg h]
  have jn : ∀ k, k ≠ 81 → J k = Ic k := fun k hk => by rw [hJ, am_u_ne hk]
  have jI : ∀ k, 9 ≤ k → ¬ (45 ≤ k ∧ k < 82) → J k = I k := fun k a b => (jn k (by omega)).trans (fI k a b)
  cases U with
  | error e =>
    obtain ⟨c, p⟩ := e
    obtain ⟨K, hS, hb, tK, rK, k23, k11, k12⟩ := mStart (d := 276) (L := Lc) hm (J := J) hn7 (by rw [jI 450 (by decide) (by decide)]; exact hn2) (fun j hj => ⟨(hBy j hj).1, by rw [jI 456 (by decide) (by decide)]; exact (hBy j hj).2.1⟩)
    obtain ⟨-, hEr⟩ := mFin_ok (d := 16) (L := Lc) hm hb R.1 tK (rK.trans (jI 451 (by decide) (by decide))) k23 k11 k12 ((congrFun (jI 450 (by decide) (by decide)) 5).trans hh5) hs8 hU
    obtain ⟨M, hE, x1, x2, x3, x4, x5, x6, x7, x8⟩ := hEr c p rfl
    refine ⟨J, Lc, M, .inl (some (.int (-1))), -1, cls _ _ _ (fun _ => ?_) (fun z => absurd rfl z), am_ofE rfl rfl rfl (Nat.le_of_ble_eq_true rfl) ?_, R.bad ?_ fL ?_ ?_ ?_ ?_ x5 ?_ ?_, Or.inl ⟨rfl, x8⟩⟩
    · refine bX8_play_38 ?_
      exact ⟨rfl, rfl, rfl⟩
    · refine bX9_play_0 mo (Nat.zero_le _) (Nat.zero_le _) hS ?_
      refine bX9_play_4 mo (Nat.zero_le _) (Nat.zero_le _) hE ?_
      refine bX9_play_8 ?_
      exact ⟨rfl, rfl, rfl⟩
    · exact fun k a b c' e f g => (x1 k e f g (by omega)).trans (jI k a c')
    · exact fun j hj => (x2 j hj).trans (congrFun (jI 451 (by decide) (by decide)) j)
    · exact x3.trans (congrFun (jI 450 (by decide) (by decide)) 5)
    · exact x4.trans (congrFun (jI 450 (by decide) (by decide)) 10)
    · rw [x1 81 (by decide) (by decide) (by decide) (by decide)]; exact j1
    · rw [x1 81 (by decide) (by decide) (by decide) (by decide), j81 2 (by decide), x6]; exact aO.1
    · rw [x1 81 (by decide) (by decide) (by decide) (by decide), j81 3 (by decide), x7]; exact aO.2
  | ok q =>
    obtain ⟨w', k'⟩ := q
    obtain ⟨hw', hd, h4⟩ := aO
    obtain ⟨I2, L2, hAc, hAF, h45⟩ := R.accD (d := 265) hF (Ic := J) (Lc := Lc) hh1 hh2 ho hs8 jI fL hw'.1 (hd.fr hw'.1.2.2.1.2 (fun c x y => jn c (by omega)) (fun _ _ _ => rfl))
    have i2 : ∀ k, 373 ≤ k → I2 k = I k := hAF.2.2.2.2.2.2.1
    obtain ⟨K, hS, hb, tK, rK, k23, k11, k12⟩ := mStart (d := 276) (L := L2) hm (J := I2) hn7 (by rw [i2 450 (by decide)]; exact hn2) (fun j hj => ⟨(hBy j hj).1, by rw [i2 456 (by decide)]; exact (hBy j hj).2.1⟩)
    obtain ⟨hOk, -⟩ := mFin_ok (d := 16) (L := L2) hm hb R.1 tK (rK.trans (i2 451 (by decide))) k23 k11 k12 ((congrFun (i2 450 (by decide)) 5).trans hh5) hs8 hU
    obtain ⟨M, hE, x1, x2, x3, x4, x5, x6, x7, x8, x9⟩ := hOk w' k' rfl
    rw [i2 451 (by decide), i2 452 (by decide)] at x4
    refine ⟨I2, L2, M, .inl (some (.int (nn k'))), nn k', cls _ _ _ (fun z => absurd z (show ¬ (1 : Int32) = 0 by decide)) (fun _ => ?_), am_ofE rfl rfl rfl (Nat.le_of_ble_eq_true rfl) ?_, R.acc hw' hh1 hh2 ho hs8 hh5 hh6 hAF ?_ ?_ x2 x3 x4 ?_ x6 ?_ ?_ ?_, Or.inl ⟨rfl, x9⟩⟩
    · refine bX8_play_40 o (Nat.zero_le _) (Nat.zero_le _) hAc ?_
      refine bX8_play_44 o f3 ro ?_
      refine am_R_e (by rw [h45 81 (by decide) (by decide), j81 4 (by decide), h4]) rfl rfl
    · refine bX9_play_0 mo (Nat.zero_le _) (Nat.zero_le _) hS ?_
      refine bX9_play_4 mo (Nat.zero_le _) (Nat.zero_le _) hE ?_
      refine bX9_play_8 ?_
      exact ⟨rfl, rfl, rfl⟩
    · exact fun c a b => x1 c (by omega) (by omega) (by omega) (by omega) (by omega)
    · exact fun c a b e => (x1 c (by omega) (by omega) (by omega) e (by omega)).trans (i2 c (by omega))
    · exact x5.trans (congrFun (i2 450 (by decide)) 10)
    · rw [h45 81 (by decide) (by decide)]; exact j1
    · rw [h45 81 (by decide) (by decide), j81 2 (by decide), x7]; exact kO.1
    · rw [h45 81 (by decide) (by decide), j81 3 (by decide), x8]; exact kO.2
end PL
