/-! THE CLASS ALONE: the law writes a text, and loads it -/
def zrow (w : Nat → Int32) : Nat → Int32 := fun j => if j < 508 then 0 else w j
theorem zrow_inv (w : Nat → Int32) : qInv (zrow w) ∧ vQ (zrow w) = 0 := by
  have z : ∀ j, j < 508 → zrow w j = 0 := fun j hj => if_pos hj
  have vq : vQ (zrow w) = 0 := by show (zrow w 0).toNatClampNeg = 0; rw [z 0 (by decide)]; rfl
  have vt : vT (zrow w) = 0 := by show (zrow w 1).toNatClampNeg = 0; rw [z 1 (by decide)]; rfl
  have vg : vG (zrow w) = 0 := by show (zrow w 2).toNatClampNeg = 0; rw [z 2 (by decide)]; rfl
  have vc : vC (zrow w) = 0 := by show (zrow w 3).toNatClampNeg = 0; rw [z 3 (by decide)]; rfl
  refine ⟨⟨⟨⟨by rw [vq, z 0 (by decide)]; rfl, by omega⟩, ⟨by rw [vt, z 1 (by decide)]; rfl, by omega⟩, ⟨by rw [vg, z 2 (by decide)]; rfl, by omega⟩, ⟨by rw [vc, z 3 (by decide)]; rfl, by omega⟩, fun q a => absurd a (by omega), fun t a => absurd a (by omega), fun g a => absurd a (by omega)⟩, vt, vg, fun t _ b => z _ (by omega)⟩, vq⟩
/-- a text to load: the setup, then commands -/
noncomputable def uText (B : Nat → Nat) (n : Nat) (w : Nat → Int32) : Except (Nat × Nat) ((Nat → Int32) × Nat) := match uSet B n (zrow w) (skp B n 0) with
  | .error e => .error e
  | .ok (s, w') => uAll B n (n + 1) s w' 0
theorem uText_e {B : Nat → Nat} {n : Nat} {w : Nat → Int32} {e : Nat × Nat} (h : uSet B n (zrow w) (skp B n 0) = .error e) : uText B n w = .error e := by
  unfold uText
  rw [h]
theorem uText_o {B : Nat → Nat} {n : Nat} {w : Nat → Int32} {q : Nat × (Nat → Int32)} (h : uSet B n (zrow w) (skp B n 0) = .ok q) : uText B n w = uAll B n (n + 1) q.1 q.2 0 := by
  unfold uText
  rw [h]
def zO (I : am_I) (o : Except (Nat × Nat) ((Nat → Int32) × Nat)) : Prop := match o with
  | .ok _ => I 81 2 = 0 ∧ I 81 3 = -1
  | .error _ => True
theorem uSet_wfs {B : Nat → Nat} {n : Nat} {s s' : Nat} {w w' : Nat → Int32} (hI : qInv w) (h : uSet B n w s = .ok (s', w')) : wfs w' := by
  cases h1 : pWord B n 1 s with
  | error e => rw [uSet_1 h1] at h; cases h
  | ok q1 =>
    cases h2 : pSem B n q1.1 with
    | error e => rw [uSet_2 h1 h2] at h; cases h
    | ok q2 =>
      cases h3 : uLoop B n 2 6 vQ (uQu B n) 7 q2.1 w with
      | error e => rw [uSet_3 h1 h2 h3] at h; cases h
      | ok q3 =>
        cases h4 : uLoop B n 3 8 vT (uTy B n) 9 q3.1 q3.2 with
        | error e => rw [uSet_4 h1 h2 h3 h4] at h; cases h
        | ok q4 =>
          rw [uSet_5 h1 h2 h3 h4] at h
          exact uLoopG_inv (uLoopT_inv (uLoopQ_inv hI h3).1 h4).1 h
section LDS
variable {d : Nat} {Γ : am_G} {I : am_I} {L : am_L} {B : Nat → Nat} {n : Nat}
theorem stR_zero {b : Nat} (w : Nat → Int32) (h : ∀ j, j < 4 → I b j = 0) (h7 : ∀ j, j < 8 → I (b + 7) j = 0) : stR I L b (zrow w) := by
  obtain ⟨⟨-, vT0, vG0, -⟩, vQ0⟩ := zrow_inv w
  have z : ∀ j, j < 508 → zrow w j = 0 := fun j hj => if_pos hj
  exact ⟨⟨by rw [h 0 (by decide), z 0 (by decide)], by rw [h 1 (by decide), z 1 (by decide)], by rw [h 2 (by decide), z 2 (by decide)], by rw [h 3 (by decide), z 3 (by decide)]⟩, fun q a => absurd a (by omega), fun t a => absurd a (by omega), fun j hj => by rw [h7 j hj, z _ (by omega)], fun g a => absurd a (by omega)⟩
/-- the class reads a text to load: setup, commands -/
theorem cLoad (hF : wF Γ) (w : Nat → Int32) (hn7 : n ≤ 700) (hn1 : I 81 1 = nn n) (hBy : ∀ j, j < n → B j < 256 ∧ I 82 j = (nn (B j)).toInt8.toInt32) {U : Except (Nat × Nat) ((Nat → Int32) × Nat)} (hU : uText B n w = U) :
    ∃ Ic Lc, allOut B n Ic Lc U ∧ zO Ic U ∧ (∀ k, 9 ≤ k → ¬ (45 ≤ k ∧ k < 82) → Ic k = I k) ∧ (∀ k, 9 ≤ k → ¬ (45 ≤ k ∧ k < 82) → Lc k = L k) ∧
      ∀ (If : am_I) (Lf : am_L) (r : Int32), (okA U = 0 → am_W m_X8_load 270 1 6 false 1 6 52 [(0, .ref 0), (1, .int 0)] [] Γ (am_u Ic 81 1 0) Lc (am_R (.inl (some (.int r))) If Lf)) → (¬ okA U = 0 → am_W m_X8_load 270 1 6 false 1 6 54 [(0, .ref 0), (1, .int 1)] [] Γ (am_u Ic 81 1 0) Lc (am_R (.inl (some (.int r))) If Lf)) → am_E m_X8_load 270 1 6 [.ref 0] Γ I L (.inl (some (.int r))) If Lf := by
  obtain ⟨⟨o, f0, f1, f2, f3, f4, f5, f6, f7⟩, so, st, dr, ⟨ro, rr0, rr5, rr6, ra⟩, -⟩ := id hF
  obtain ⟨Ia, hPa, za, za7, ka⟩ := eX5_empty (d := 268) (I := I) (L := L) (b := 45) dr
  have rBa : rcB Ia B n := ⟨hn7, by rw [ka 81 (by decide)]; exact hn1, fun j hj => ⟨(hBy j hj).1, by rw [ka 82 (by decide)]; exact (hBy j hj).2⟩⟩
  obtain ⟨Ib, Lb, hBg, rBb, tkb, ⟨b2, b3, b4⟩, kIb, jIb, kLb⟩ := eX3_begin (d := 267) (L := L) ro rr0 ra rBa
  obtain ⟨hI, hQ⟩ := zrow_inv w
  have cb : clR B n Ib Lb (skp B n 0) (zrow w) := ⟨rBb, tkb, stR_zero w (fun j hj => by rw [kIb 45 (by decide)]; exact za j hj) (fun j hj => by rw [kIb _ (by decide)]; exact za7 j hj)⟩
  obtain ⟨Is, Ls, hSe, yS, kS⟩ := eX3_readSetup (d := 262) hF.c hI hQ cb
  have fIb : ∀ k, 9 ≤ k → ¬ (45 ≤ k ∧ k < 82) → Ib k = I k := fun k a b => (kIb k (by omega)).trans (ka k (by omega))
  have fLb : ∀ k, 9 ≤ k → ¬ (45 ≤ k ∧ k < 82) → Lb k = L k := fun k a b => kLb k (by omega)
  have head : ∀ (If : am_I) (Lf : am_L) (r : Int32), am_W m_X8_load 270 1 6 false 1 6 21 [(0, .ref 0)] [.int (oky (uSet B n (zrow w) (skp B n 0)))] Γ Is Ls (am_R (.inl (some (.int r))) If Lf) → am_E m_X8_load 270 1 6 [.ref 0] Γ I L (.inl (some (.int r))) If Lf := fun If Lf r h => by
    refine am_ofE rfl rfl rfl (Nat.le_of_ble_eq_true rfl) ?_
    refine bX8_load_0 o f2 dr.1 (Nat.zero_le _) (Nat.zero_le _) hPa ?_
    refine bX8_load_7 o f3 ro (Nat.zero_le _) (Nat.zero_le _) hBg ?_
    exact bX8_load_14 o f3 ro (Nat.zero_le _) (Nat.zero_le _) hSe h
  cases hSet : uSet B n (zrow w) (skp B n 0) with
  | error e =>
    rw [hSet] at kS head
    rw [uText_e hSet] at hU
    subst hU
    refine ⟨Is, Ls, kS, trivial, fun k a b => (yS.1 k a b).trans (fIb k a b), fun k a b => (yS.2.2 k a b).trans (fLb k a b), fun If Lf r k1 _ => head _ _ _ ?_⟩
    refine bX8_load_21 (fun _ => ?_) (fun z => absurd rfl z)
    refine bX8_load_38 ?_
    exact bX8_load_39 o f3 ro (fun z => absurd rfl z) (fun _ => k1 rfl)
  | ok q =>
    obtain ⟨s', w0⟩ := q
    rw [hSet] at kS head
    obtain ⟨kpS, cS⟩ := kS
    have hw0 := uSet_wfs hI hSet
    rw [uText_o hSet] at hU
    obtain ⟨Ic, Lc, hRC, aO, fE, kO⟩ := eX3_readCommands_go (d := 262) hF.c (n + 1) (k := 0) hw0 cS (by rw [yS.2.1 4 (by decide) (by decide) (by decide) (by decide) (by decide) (by decide)]; exact b4) (Nat.zero_le _) (by omega)
    rw [hU] at hRC aO kO
    have hRd : am_E m_X3_readCommands 269 0 0 [.ref 81] Γ Is Ls (.inl (some (.int (okA U)))) Ic Lc := am_ofE rfl rfl rfl (Nat.le_of_ble_eq_true rfl) (bX3_readCommands_0 hRC)
    refine ⟨Ic, Lc, aO, ?_, fun k a b => (fE.1 k a b).trans ((yS.1 k a b).trans (fIb k a b)), fun k a b => (fE.2.2 k a b).trans ((yS.2.2 k a b).trans (fLb k a b)), fun If Lf r k1 k2 => head _ _ _ ?_⟩
    · cases U with
      | error e => trivial
      | ok q => exact ⟨kO.1.trans (kpS.1.trans b2), kO.2.trans (kpS.2.trans b3)⟩
    · refine bX8_load_21 (fun z => absurd z (show ¬ (1 : Int32) = 0 by decide)) (fun _ => ?_)
      refine bX8_load_24 o f3 ro (Nat.zero_le _) (Nat.zero_le _) hRd ?_
      refine bX8_load_31 (fun z => ?_) (fun z => ?_)
      · refine bX8_load_38 ?_
        exact bX8_load_39 o f3 ro (fun z => absurd rfl z) (fun _ => k1 z)
      · refine bX8_load_34 ?_
        exact bX8_load_39 o f3 ro (fun _ => k2 z) (fun z => absurd z (by decide))
theorem qX_load (hF : wF Γ) {w : Nat → Int32} {h : Nat → Nat → Int32} {s : Nat} (R : CS I L w h s) (hB : rcB I B n) {w0 w' : Nat → Int32} {k' : Nat} (hU : uText B n w0 = .ok (w', k')) : ∃ I' L', am_E m_X8_load 270 1 6 [.ref 0] Γ I L (.inl (some (.int (w' 1)))) I' L' ∧ CS I' L' w' (hpu h s w) (spu s) ∧ (∀ k, 373 ≤ k → I' k = I k) ∧ ∀ k, 373 ≤ k → L' k = L k := by
  obtain ⟨⟨o, f0, f1, f2, f3, f4, f5, f6, f7⟩, so, st, dr, ⟨ro, rr0, rr5, rr6, ra⟩, hi, -⟩ := id hF
  obtain ⟨hn7, hn1, hBy⟩ := hB
  obtain ⟨Ic, Lc, aO, kO, fI, fL, cls⟩ := cLoad hF w0 hn7 hn1 (fun j hj => ⟨(hBy j hj).1, (hBy j hj).2⟩) hU (L := L)
  obtain ⟨hw', hd, h4⟩ := aO
  obtain ⟨J, hJ⟩ : ∃ J, J = am_u Ic 81 1 0 := ⟨_, rfl⟩
  rw [← hJ] at cls
  have jn : ∀ k, k ≠ 81 → J k = Ic k := fun k hk => by rw [hJ, am_u_ne hk]
  have RJ : CS J Lc w h s := R.fr (fun c a b e => by rw [jn c (by omega)]; exact fI c a (by omega)) (fun c a b e => fL c a (by omega))
  have dJ : stR J Lc 45 w' := hd.fr hw'.1.2.2.1.2 (fun c x y => jn c (by omega)) (fun _ _ _ => rfl)
  obtain ⟨I1, L1, hE, kI, kL, hH⟩ := RJ.rem (d := 265) hF
  have d1 : stR I1 L1 45 w' := dJ.fr hw'.1.2.2.1.2 (fun c a b => kI c (by omega)) (fun c a b => kL c (by omega))
  obtain ⟨I2, L2, hP, sE, gI, gL⟩ := eX5_copyFrom (d := 266) (I := I1) (L := L1) (a := 9) (b := 45) st dr (Or.inl (by decide)) (d1.1.2.2.1.trans hw'.1.2.2.1.1) hw'.1.2.2.1.2
  have hAc : am_E m_X8_acceptDraft 269 0 0 [.ref 0] Γ J Lc (.inl none) I2 L2 := by
    refine am_ofE rfl rfl rfl (Nat.le_of_ble_eq_true rfl) ?_
    refine bX8_acceptDraft_0 o f4 f1 hi.1 (Nat.zero_le _) (Nat.zero_le _) hE ?_
    refine bX8_acceptDraft_11 o f1 f2 st.1 (Nat.zero_le _) (Nat.zero_le _) hP ?_
    refine bX8_acceptDraft_22 ?_
    exact ⟨rfl, rfl, rfl⟩
  have s2 : stR I2 L2 9 w' := d1.cp hw'.1 sE
  refine ⟨I2, L2, cls _ _ _ (fun z => absurd z (show ¬ (1 : Int32) = 0 by decide)) (fun _ => ?_), ⟨hw', s2, hH.fr (fun c a b => gI c (by omega)) (fun c a b => gL c (by omega))⟩, fun k hk => ?_, fun k hk => ?_⟩
  · refine bX8_load_54 o (Nat.zero_le _) (Nat.zero_le _) hAc ?_
    refine bX8_load_58 o f1 st.1 ?_
    exact am_R_e s2.1.2.1 rfl rfl
  · rw [gI k (by omega), kI k (by omega), jn k (by omega), fI k (by omega) (by omega)]
  · rw [gL k (by omega), kL k (by omega), fL k (by omega) (by omega)]
/-- how the reader stands while the law writes t -/
def wrI (t : List Nat) (I J : am_I) (n : Nat) : Prop := J 81 1 = nn n ∧ (∀ j, j < n → J 82 j = by1 (tb t j)) ∧ (∀ k, k ≠ 81 → k ≠ 82 → J k = I k) ∧ ∀ j, j ≠ 1 → J 81 j = I 81 j
theorem eL_write (hF : wF Γ) {c : Nat} {t : List Nat} (hs : strS Γ I c t) (ha : asc t) (hN : t.length ≤ 600) (h0 : I 81 1 = 0) : ∃ I' L', am_E m_L_write (d + 5) 0 0 [.ref 0, .ref c] Γ I L (.inl (some (.int 1))) I' L' ∧ L' = L ∧ rcB I' (tb t) t.length ∧ (∀ k, k ≠ 81 → k ≠ 82 → I' k = I k) := by
  have ox := hF.1.1
  have oc : am_ob Γ c 9 := hs.choose_spec.2.2.1
  have sI : ∀ {J n}, wrI t I J n → strS Γ J c t := fun hJ => hs.fr (fun k hk => hJ.2.2.1 k (by omega) (by omega))
  refine aG.E rfl rfl rfl (Nat.le_of_ble_eq_true rfl) ?_
  have i0 : wrI t I (am_u I 81 1 (nn 0)) 0 := ⟨by rw [am_u_at, if_pos ⟨rfl, rfl⟩], fun j hj => absurd hj (Nat.not_lt_zero j), fun k a b => am_u_ne a, fun j hj => by rw [am_u_at, if_neg (fun z => hj z.2)]⟩
  refine aG.go ?_ (fun _ _ k => bL_write_0 (Nat.zero_le _) (Nat.zero_le _) (hL_truncateInput ox (qX_truncateInput (d := d + 2) (k := 0) hF h0 (by decide) (Nat.le_refl _))) k)
  refine aG.go ?_ (fun _ _ k => bL_write_5 (fun _ => k) (fun z => absurd rfl z))
  have loop : ∀ f i J, t.length ≤ 20 * (i + f) → 20 * i < t.length + 20 → wrI t I J (20 * i) → aG m_L_write (d + 5) 0 0 0 0 12 [(0, .ref 0), (1, .ref c), (2, .int (nn (20 * i)))] [] Γ J L (.inl (some (.int 1))) (fun I' L' => L' = L ∧ rcB I' (tb t) t.length ∧ (∀ k, k ≠ 81 → k ≠ 82 → I' k = I k)) := by
    intro f
    induction f with
    | zero =>
      intro i J h1 h2 hJ
      refine aG.go ?_ (fun _ _ k => bL_write_12 oc (Nat.zero_le _) (Nat.zero_le _) (eS_length (d := d + 3) (sI hJ) hN) k)
      refine aG.go ?_ (fun _ _ k => bL_write_17 (fun _ => k) (fun z => absurd ((nn_le (by omega) (by omega)).mpr (by omega)) z))
      refine aG.go ?_ (fun _ _ k => bL_write_75 oc (Nat.zero_le _) (Nat.zero_le _) (eS_length (d := d + 3) (sI hJ) hN) k)
      refine aG.go ?_ (fun _ _ k => bL_write_80 (Nat.zero_le _) (Nat.zero_le _) (hL_truncateInput ox (qX_truncateInput (d := d + 2) (k := t.length) hF hJ.1 (by omega) (by omega))) k)
      have s1 : strS Γ (am_u J 81 1 (nn t.length)) c t := (sI hJ).fr (fun k hk => am_u_ne (by omega))
      refine aG.go ?_ (fun _ _ k => bL_write_83 oc (Nat.zero_le _) (Nat.zero_le _) (eS_length (d := d + 3) s1 hN) k)
      refine aG.go ?_ (fun _ _ k => bL_write_87 (fun z => absurd rfl z) (fun _ => k))
      refine aG.go ?_ (fun _ _ k => bL_write_90 k)
      refine aG.fin (bL_write_95 rfl ⟨rfl, rfl, rfl⟩) ⟨rfl, ⟨by omega, by rw [am_u_at, if_pos ⟨rfl, rfl⟩], fun j hj => ⟨Nat.lt_trans (tb_asc ha j) (by decide), by rw [am_u_ne (by decide)]; exact hJ.2.1 j (by omega)⟩⟩, fun k a b => by rw [am_u_ne a]; exact hJ.2.2.1 k a b⟩
    | succ f ih =>
      intro i J h1 h2 hJ
      by_cases hi : t.length ≤ 20 * i
      · refine aG.go ?_ (fun _ _ k => bL_write_12 oc (Nat.zero_le _) (Nat.zero_le _) (eS_length (d := d + 3) (sI hJ) hN) k)
        refine aG.go ?_ (fun _ _ k => bL_write_17 (fun _ => k) (fun z => absurd ((nn_le (by omega) (by omega)).mpr (by omega)) z))
        refine aG.go ?_ (fun _ _ k => bL_write_75 oc (Nat.zero_le _) (Nat.zero_le _) (eS_length (d := d + 3) (sI hJ) hN) k)
        refine aG.go ?_ (fun _ _ k => bL_write_80 (Nat.zero_le _) (Nat.zero_le _) (hL_truncateInput ox (qX_truncateInput (d := d + 2) (k := t.length) hF hJ.1 (by omega) (by omega))) k)
        have s1 : strS Γ (am_u J 81 1 (nn t.length)) c t := (sI hJ).fr (fun k hk => am_u_ne (by omega))
        refine aG.go ?_ (fun _ _ k => bL_write_83 oc (Nat.zero_le _) (Nat.zero_le _) (eS_length (d := d + 3) s1 hN) k)
        refine aG.go ?_ (fun _ _ k => bL_write_87 (fun z => absurd rfl z) (fun _ => k))
        refine aG.go ?_ (fun _ _ k => bL_write_90 k)
        refine aG.fin (bL_write_95 rfl ⟨rfl, rfl, rfl⟩) ⟨rfl, ⟨by omega, by rw [am_u_at, if_pos ⟨rfl, rfl⟩], fun j hj => ⟨Nat.lt_trans (tb_asc ha j) (by decide), by rw [am_u_ne (by decide)]; exact hJ.2.1 j (by omega)⟩⟩, fun k a b => by rw [am_u_ne a]; exact hJ.2.2.1 k a b⟩
      · have e4 : nn (20 * i) + 4 = nn (20 * i + 4) := nn_add _ 4
        have e8 : nn (20 * i) + 8 = nn (20 * i + 8) := nn_add _ 8
        have e12 : nn (20 * i) + 12 = nn (20 * i + 12) := nn_add _ 12
        have e16 : nn (20 * i) + 16 = nn (20 * i + 16) := nn_add _ 16
        have e20 : nn (20 * i) + 20 = nn (20 * i + 20) := nn_add _ 20
        obtain ⟨xs, hxs⟩ : ∃ xs, xs = w4c (nn (wd4 t (20 * i))) ++ (w4c (nn (wd4 t (20 * i + 4))) ++ (w4c (nn (wd4 t (20 * i + 8))) ++ (w4c (nn (wd4 t (20 * i + 12))) ++ w4c (nn (wd4 t (20 * i + 16)))))) := ⟨_, rfl⟩
        have hA := qX_append (d := d + 2) (L := L) hF hJ.1 (by omega) (nn (wd4 t (20 * i))) (nn (wd4 t (20 * i + 4))) (nn (wd4 t (20 * i + 8))) (nn (wd4 t (20 * i + 12))) (nn (wd4 t (20 * i + 16)))
        rw [← hxs] at hA
        have hxl : xs.length = 20 := by rw [hxs]; rfl
        have hxg : ∀ j, j < 20 → xs.getD j 0 = by1 (tb t (20 * i + j)) := by
          rw [hxs, w4c_wd ha, w4c_wd ha, w4c_wd ha, w4c_wd ha, w4c_wd ha]
          intro j hj
          have hj20 : j = 0 ∨ j = 1 ∨ j = 2 ∨ j = 3 ∨ j = 4 ∨ j = 5 ∨ j = 6 ∨ j = 7 ∨ j = 8 ∨ j = 9 ∨ j = 10 ∨ j = 11 ∨ j = 12 ∨ j = 13 ∨ j = 14 ∨ j = 15 ∨ j = 16 ∨ j = 17 ∨ j = 18 ∨ j = 19 := by omega
          rcases hj20 with rfl | rfl | rfl | rfl | rfl | rfl | rfl | rfl | rfl | rfl | rfl | rfl | rfl | rfl | rfl | rfl | rfl | rfl | rfl | rfl <;> rfl
        have o1 := wrx_o 82 81 1 (by decide) xs J (20 * i) hJ.1
        have hJ' : wrI t I (wrx 82 81 1 J (20 * i) xs) (20 * (i + 1)) := by
          refine ⟨by rw [o1.1, hxl]; exact congrArg nn (by omega), fun j hj => ?_, fun k a b => ?_, fun j hj => ?_⟩
          · rw [wrx_a _ _ _ (by decide), hxl]
            by_cases hj2 : 20 * i ≤ j
            · rw [if_pos ⟨hj2, by omega⟩, hxg _ (by omega), show 20 * i + (j - 20 * i) = j by omega]
            · rw [if_neg (fun z => hj2 z.1)]
              exact hJ.2.1 j (by omega)
          · rw [wrx_ne _ _ _ _ _ _ _ b a]
            exact hJ.2.2.1 k a b
          · rw [o1.2 j hj]
            exact hJ.2.2.2 j hj
        refine aG.go ?_ (fun _ _ k => bL_write_12 oc (Nat.zero_le _) (Nat.zero_le _) (eS_length (d := d + 3) (sI hJ) hN) k)
        refine aG.go ?_ (fun _ _ k => bL_write_17 (fun z => absurd ((nn_le (by omega) (by omega)).mp z) hi) (fun _ => k))
        refine aG.go ?_ (fun _ _ k => bL_write_20 (Nat.zero_le _) (Nat.zero_le _) (eL_word (d := d) (sI hJ) ha hN (by omega)) k)
        refine aG.go ?_ (fun _ _ k => bL_write_26 (Nat.zero_le _) (Nat.zero_le _) (by rw [e4]; exact eL_word (d := d) (sI hJ) ha hN (by omega)) k)
        refine aG.go ?_ (fun _ _ k => bL_write_33 (Nat.zero_le _) (Nat.zero_le _) (by rw [e8]; exact eL_word (d := d) (sI hJ) ha hN (by omega)) k)
        refine aG.go ?_ (fun _ _ k => bL_write_41 (Nat.zero_le _) (Nat.zero_le _) (by rw [e12]; exact eL_word (d := d) (sI hJ) ha hN (by omega)) k)
        refine aG.go ?_ (fun _ _ k => bL_write_49 (Nat.zero_le _) (Nat.zero_le _) (by rw [e16]; exact eL_word (d := d) (sI hJ) ha hN (by omega)) k)
        refine aG.go ?_ (fun _ _ k => bL_write_57 ox (Nat.zero_le _) (Nat.zero_le _) hA k)
        refine aG.go ?_ (fun _ _ k => bL_write_60 (fun _ => k) (fun z => absurd e20.symm z))
        refine aG.go ?_ (fun _ _ k => bL_write_69 k)
        rw [e20]
        exact ih (i + 1) _ (by omega) (by omega) hJ'
  exact aG.go (loop 30 0 _ (by omega) (by omega) i0) (fun _ _ k => bL_write_10 k)
end LDS
