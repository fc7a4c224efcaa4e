/-! THE CLASS IS MADE -/
section MKK
variable {Γ0 Γ : am_G} {I0 I : am_I} {L0 L : am_L} {b : Nat}
theorem rdF.keep (h : rdF Γ0) (k : nwR Γ0 Γ I0 I L0 L b) (hb : b ≠ 81) : rdF Γ := by
  obtain ⟨o, r1, r2, r3, a1⟩ := h
  have e := k.re o.1 (Ne.symm hb)
  exact ⟨k.ob o, by rw [e]; exact r1, by rw [e]; exact r2, by rw [e]; exact r3, k.ar a1⟩
theorem fcs.new {fs : List (Nat × Nat × Nat × Nat × Nat)} (hf : fcs Γ b fs) (hb : b < Γ.1) (t : Nat × Nat × Nat) : fcs (am_nG Γ t) b fs := fun q hq => by
  obtain ⟨x1, x2, x3⟩ := hf q hq
  exact ⟨Nat.lt_succ_of_lt x1, (va_up_ne _ _ (Nat.ne_of_lt x1)).trans x2, (congrFun (va_up_ne _ _ (Nat.ne_of_lt hb)) _).trans x3⟩
end MKK
section MK3
variable {d : Nat} {Γ : am_G} {I : am_I} {L : am_L}
/-- the bytes of the setup that stands in the class -/
def B0 : Nat → Nat := fun j => (tbyte 0 j).toNatClampNeg
theorem tl0 : tlen 0 = 229 := by decide +kernel
theorem B0_a : (List.range 229).all (fun j => decide (B0 j < 256 ∧ tbyte 0 j = nn (B0 j))) = true := by decide +kernel
theorem B0_b : ∀ j, j < 229 → B0 j < 256 ∧ tbyte 0 j = nn (B0 j) := fun j hj => of_decide_eq_true (List.all_eq_true.mp B0_a j (List.mem_range.mpr hj))
theorem X8_loop (hF : cF Γ) (h1 : I 81 1 = 0) : ∃ J, (∀ k, k ≠ 81 → k ≠ 82 → J k = I k) ∧ (∀ j, j ≠ 1 → J 81 j = I 81 j) ∧ rcB J B0 229 ∧ ∀ (mc ms : Nat) (Q : am_Q), am_W m_X8_init (d + 8) mc ms true 0 0 149 [(0, .ref 0), (1, .int (nn 229))] [] Γ J L Q → am_W m_X8_init (d + 8) mc ms true 0 0 121 [(0, .ref 0), (1, .int (nn 0))] [] Γ I L Q := by
  obtain ⟨⟨o, f0, f1, f2, f3, f4, f5, f6, f7⟩, so, st, dr, ⟨ro, rr0, rr5, rr6, ra⟩, -⟩ := id hF
  have key := nn_loop (fun k => ∀ I1 : am_I, I1 81 1 = nn k → (∀ j, j < k → I1 82 j = (nn (B0 j)).toInt8.toInt32) → (∀ k, k ≠ 81 → k ≠ 82 → I1 k = I k) → (∀ j, j ≠ 1 → I1 81 j = I 81 j) → ∃ J, (∀ k, k ≠ 81 → k ≠ 82 → J k = I k) ∧ (∀ j, j ≠ 1 → J 81 j = I 81 j) ∧ rcB J B0 229 ∧ ∀ (mc ms : Nat) (Q : am_Q), am_W m_X8_init (d + 8) mc ms true 0 0 149 [(0, .ref 0), (1, .int (nn 229))] [] Γ J L Q → am_W m_X8_init (d + 8) mc ms true 0 0 121 [(0, .ref 0), (1, .int (nn k))] [] Γ I1 L Q) 229 ?_ (fun k hk ih => ?_)
  · exact key I h1 (fun j hj => absurd hj (Nat.not_lt_zero j)) (fun _ _ _ => rfl) (fun _ _ => rfl)
  · intro I1 a1 a2 a3 a4
    refine ⟨I1, a3, a4, ⟨by decide, a1, fun j hj => ⟨(B0_b j hj).1, a2 j hj⟩⟩, fun mc ms Q h => ?_⟩
    refine bX8_init_121 (d := d + 7) (Nat.zero_le _) (Nat.zero_le _) (eJ0_length (d := d + 6) (by decide)) ?_
    rw [tl0]
    exact bX8_init_127 (fun _ => h) (fun z => absurd ((nn_le (by decide) (by decide)).mpr (Nat.le_refl _)) z)
  · intro I1 a1 a2 a3 a4
    obtain ⟨q1, q2⟩ := B0_b k hk
    obtain ⟨J1, hJ1⟩ : ∃ J1, J1 = am_u (am_u I1 (81 + 1) k (tbyte 0 k).toInt8.toInt32) 81 1 (nn (k + 1)) := ⟨_, rfl⟩
    obtain ⟨J, p1, p2, p3, p4⟩ := ih J1 (by rw [hJ1, at1, if_pos rfl]) (fun j hj => by
      rw [hJ1, am_u_ne (by decide), am_u_at]
      by_cases hjk : j = k
      · subst hjk
        rw [if_pos ⟨rfl, rfl⟩, q2]
      · rw [if_neg (fun z => hjk z.2)]
        exact a2 j (by omega)) (fun c c1 c2 => by rw [hJ1, am_u_ne c1, am_u_ne c2]; exact a3 c c1 c2) (fun j hj => by rw [hJ1, at1, if_neg hj, am_u_ne (by decide)]; exact a4 j hj)
    refine ⟨J, p1, p2, p3, fun mc ms Q h => ?_⟩
    refine bX8_init_121 (d := d + 7) (Nat.zero_le _) (Nat.zero_le _) (eJ0_length (d := d + 6) (by decide)) ?_
    rw [tl0]
    refine bX8_init_127 (fun z => absurd ((nn_le (by decide) (by omega)).mp z) (by omega)) (fun _ => ?_)
    refine bX8_init_130 (d := d + 7) o f3 (Nat.zero_le _) (Nat.zero_le _) (eJ0_charAt (d := d + 4) (by decide) (by rw [tl0]; exact hk)) ?_
    refine bX8_init_140 (d := d + 7) ro (Nat.zero_le _) (Nat.zero_le _) (eX3_putByte (b := 81) ro rr0 ra a1 (by omega) _) ?_
    refine bX8_init_143 ?_
    rw [nn_s1, ← hJ1]
    exact p4 mc ms Q h
set_option maxRecDepth 8192 in
theorem X8_text (hF : cF Γ) (z1 : I 81 1 = 0) (z4 : ∀ j, j < 4 → I 45 j = 0) (z5 : ∀ j, j < 8 → I (45 + 7) j = 0) {w' : Nat → Int32} (hU : uSet B0 229 (zrow fun _ => 0) (skp B0 229 0) = .ok (229, w')) :
    ∃ I' L', stR I' L' 9 w' ∧ (I' 81 1 = 0 ∧ I' 81 2 = 0 ∧ I' 81 3 = -1) ∧ (∀ k, 83 ≤ k → I' k = I k ∧ L' k = L k) ∧ ∀ (mc ms : Nat) (Q : am_Q), Q (.inl none) Γ I' L' → am_W m_X8_init (d + 8) mc ms true 0 0 121 [(0, .ref 0), (1, .int (nn 0))] [] Γ I L Q := by
  obtain ⟨⟨o, f0, f1, f2, f3, f4, f5, f6, f7⟩, so, st, dr, ⟨ro, rr0, rr5, rr6, ra⟩, -⟩ := id hF
  obtain ⟨J, p1, p2, p3, p4⟩ := X8_loop (d := d) (L := L) hF z1
  obtain ⟨Ib, Lb, hBg, rBb, tkb, ⟨b2, b3, b4⟩, kIb, jIb, kLb⟩ := eX3_begin (d := d + 5) (L := L) ro rr0 ra p3
  obtain ⟨hI, hQ⟩ := zrow_inv (fun _ => 0)
  have hw := uSet_wfs hI hU
  have cb : clR B0 229 Ib Lb (skp B0 229 0) (zrow fun _ => 0) := ⟨rBb, tkb, stR_zero _ (fun j hj => by rw [kIb 45 (by decide), p1 45 (by decide) (by decide)]; exact z4 j hj) (fun j hj => by rw [kIb _ (by decide), p1 _ (by decide) (by decide)]; exact z5 j hj)⟩
  obtain ⟨Is, Ls, hSe, yS, kS⟩ := eX3_readSetup (d := d) hF hI hQ cb
  rw [hU] at kS hSe
  obtain ⟨⟨kp1, kp2⟩, -, -, cS⟩ := kS
  obtain ⟨y1, y2, y3⟩ := yS
  obtain ⟨J2, hJ2⟩ : ∃ J2, J2 = am_u Is 81 1 0 := ⟨_, rfl⟩
  have cS2 : stR J2 Ls 45 w' := cS.fr hw.1.2.2.1.2 (fun c c1 c2 => by rw [hJ2, am_u_ne (by omega)]) (fun _ _ _ => rfl)
  obtain ⟨Ic, Lc, hCp, eq, frI, frL'⟩ := eX5_copyFrom (d := d + 5) (I := J2) (L := Ls) (G := vG w') st dr (Or.inl (by decide)) (cS2.1.2.2.1.trans hw.1.2.2.1.1) hw.1.2.2.1.2
  have i81 : ∀ j, Ic 81 j = J2 81 j := fun j => congrFun (frI 81 (Or.inr (by decide))) j
  refine ⟨Ic, Lc, cS2.cp hw.1 eq, ⟨by rw [i81, hJ2, at1, if_pos rfl], ?_, ?_⟩, fun k hk => ⟨?_, ?_⟩, fun mc ms Q h => ?_⟩
  · rw [i81, hJ2, at1, if_neg (by decide), kp1, b2]
  · rw [i81, hJ2, at1, if_neg (by decide), kp2, b3]
  · rw [frI k (Or.inr (by omega)), hJ2, am_u_ne (by omega), y1 k (by omega) (by omega), kIb k (by omega), p1 k (by omega) (by omega)]
  · rw [frL' k (Or.inr (by omega)), y3 k (by omega) (by omega), kLb k (by omega)]
  · refine p4 mc ms Q ?_
    refine bX8_init_149 (d := d + 7) o f3 ro (Nat.zero_le _) (Nat.zero_le _) hBg ?_
    refine bX8_init_156 (d := d + 7) o f3 ro (Nat.zero_le _) (Nat.zero_le _) hSe ?_
    refine bX8_init_163 (d := d + 7) o f3 ro f1 f2 st.1 (Nat.zero_le _) (Nat.zero_le _) (by rw [← hJ2]; exact hCp) ?_
    exact bX8_init_183 h

theorem X8_101 {Γ0 : am_G} {I0 : am_I} {L0 : am_L} {v : Int32} {mc ms : Nat} {Q : am_Q} (hN0 : nwR Γ0 Γ I0 I L0 L 0) (hz : Γ0.1 ≤ 373) (h0 : 0 < Γ0.1) (hc0 : Γ.1 = 446) (ho0 : am_ob Γ 0 8) (hF0 : fcs Γ 0 [(5, 373, (6, 2, 5)), (4, 83, (0, 1, 0)), (3, 81, (0, 3, 0)), (2, 45, (0, 5, 0)), (1, 9, (0, 5, 0)), (0, 1, (0, 4, 0))]) (hso_0 : soF Γ 1) (hpr_0 : stF Γ 9) (hdr_0 : stF Γ 45) (hrd_0 : rdF Γ) (hhi_0 : hiF Γ 83) (hs1_0 : stF Γ 374) (hs2_0 : stF Γ 410) (r1 : Γ.2.2 373 0 = some 374) (r2 : Γ.2.2 373 1 = some 410)
    (post : ∀ Γ' I' L', nwR Γ0 Γ' I0 I' L0 L' 0 → Γ'.1 = 450 → cF Γ' → hiF Γ' 83 → (am_ar Γ' 373 6 2 5 ∧ Γ'.2.2 373 0 = some 374 ∧ Γ'.2.2 373 1 = some 410 ∧ stF Γ' 374 ∧ stF Γ' 410 ∧ am_ar Γ' 446 3 2 0) → otF Γ' → am_W m_X8_init (d + 8) mc ms true 0 0 121 [(0, .ref 0), (1, .int (nn 0))] [] Γ' I' L' Q) : am_W m_X8_init (d + 8) mc ms true 4 115 101 [(0, .ref 0), (1, .int v)] [] Γ I L Q := by
  have hb0 : 0 < Γ.1 := ho0.1
  refine aw_aload_n dX8_init_101 rfl ?_
  refine aw_iconst dX8_init_102 ci_2 ?_
  refine aw_newZ (n := 2) dX8_init_103 ac_boolean (by decide) (by decide) (by decide) (okL2 hb0) (okS1 hb0) ?_
  refine aw_putR dX8_init_105 p_X8_46 (ob_new ho0) rfl (Nat.lt_succ_self _) rfl (fun _ => rfl) (fun _ => rfl) ?_
  obtain ⟨Γ1, I1, L1, eG, eI, eL, hN1, hc1, ho1, hF1, hS1⟩ := st_arr (f := 6) (t := (3, 2, 0)) hN0 hc0 ho0 hF0 (by simp)
  rw [eG, eI, eL]
  clear eG eI eL
  have hb1 : 0 < Γ1.1 := ho1.1
  have hso_1 := hso_0.keep hS1 (by omega)
  have hpr_1 := hpr_0.keep hS1 (by omega)
  have hdr_1 := hdr_0.keep hS1 (by omega)
  have hrd_1 := hrd_0.keep hS1 (by decide)
  have hhi_1 := hhi_0.keep hS1 (by omega)
  have hs1_1 := hs1_0.keep hS1 (by omega)
  have hs2_1 := hs2_0.keep hS1 (by omega)
  refine aw_aload_n dX8_init_108 rfl ?_
  refine aw_new (ci := 2) (N := 4) (C := RX2) (T := TX2) dX8_init_109 rfl cl_X8_50 mk_X2 n_X2 (okL2 hb1) (okS1 hb1) ?_
  refine aw_dup dX8_init_112 rfl ?_
  refine aw_callIN (bc := 0) (bs := 0) (mc' := 2) (ms' := 109) (as := []) (b := Γ1.1) (rst := [.ref Γ1.1, .ref (0)]) dX8_init_113 k_X2_init ln_X8_52 i_X2_init rfl rfl rfl rfl (Nat.le_of_ble_eq_true rfl) (cX2 (d := d + 6) (b := Γ1.1) (ob_at 2) rfl) (okL2 (Nat.lt_succ_of_lt hb1)) (okS2 (Nat.lt_succ_self _) (Nat.lt_succ_of_lt hb1)) (fun v G1 J1 M1 hq => ?_) (fun E _ _ _ hq => nomatch hq.1)
  obtain ⟨hv, hq2, hq3, hq4⟩ := hq
  obtain rfl : v = none := Sum.inl.inj hv
  obtain ⟨hM1, hoM1, hFM1, hlt1, htM1, hSM1⟩ := st_sub hN1 ho1 hF1 hq2
  refine aw_putR dX8_init_116 p_X8_53 hoM1 rfl hlt1 rfl (fun _ => rfl) (fun _ => rfl) ?_
  obtain ⟨Γ2, eG, hN2, hd2, ho2, hF2, hS2⟩ := st_put (f := 7) (r := Γ1.1) (t := (0, 2, 0)) hM1 hoM1 hFM1 (by simp) hlt1 htM1
  rw [eG]
  clear eG
  have hc2 : Γ2.1 = 450 := by omega
  rw [hc1] at hF2
  obtain ⟨I2, eI⟩ : ∃ I2, I2 = J1 := ⟨_, rfl⟩
  obtain ⟨L2, eL⟩ : ∃ L2, L2 = M1 := ⟨_, rfl⟩
  rw [← eI, ← eL]
  rw [← eI, ← eL] at hN2 hS2 hSM1
  have hb2 : 0 < Γ2.1 := ho2.1
  have hT2 := hSM1.trb hS2
  have hso_2 := hso_1.keep hT2 (by omega)
  have hpr_2 := hpr_1.keep hT2 (by omega)
  have hdr_2 := hdr_1.keep hT2 (by omega)
  have hrd_2 := hrd_1.keep hT2 (by decide)
  have hhi_2 := hhi_1.keep hT2 (by omega)
  have hs1_2 := hs1_1.keep hT2 (by omega)
  have hs2_2 := hs2_1.keep hT2 (by omega)
  rw [hc1] at hq4
  obtain ⟨t1, t2, t3, t4, t5⟩ := hq4
  have te := hS2.re t1.1 (by decide)
  have r1_2 : Γ2.2.2 373 0 = some 374 := (congrFun ((hS1.trb hT2).re (show 373 < Γ.1 by omega) (by decide)) 0).trans r1
  have r2_2 : Γ2.2.2 373 1 = some 410 := (congrFun ((hS1.trb hT2).re (show 373 < Γ.1 by omega) (by decide)) 1).trans r2
  refine aw_iconst dX8_init_119 ci_0 ?_
  refine aw_istore_n (ls' := [(0, .ref 0), (1, .int (nn 0))]) dX8_init_120 (by decide) rfl ?_
  have z := hF2
  refine post Γ2 I2 L2 hN2 hc2 ⟨⟨ho2, (z (0, 1, (0, 4, 0)) (by simp)).2.2, (z (1, 9, (0, 5, 0)) (by simp)).2.2, (z (2, 45, (0, 5, 0)) (by simp)).2.2, (z (3, 81, (0, 3, 0)) (by simp)).2.2, (z (4, 83, (0, 1, 0)) (by simp)).2.2, (z (5, 373, (6, 2, 5)) (by simp)).2.2, (z (6, 446, (3, 2, 0)) (by simp)).2.2, (z (7, 447, (0, 2, 0)) (by simp)).2.2⟩, hso_2, hpr_2, hdr_2, hrd_2, trivial⟩ hhi_2 ⟨⟨(z (5, 373, (6, 2, 5)) (by simp)).1, (z (5, 373, (6, 2, 5)) (by simp)).2.1⟩, r1_2, r2_2, hs1_2, hs2_2, ⟨(z (6, 446, (3, 2, 0)) (by simp)).1, (z (6, 446, (3, 2, 0)) (by simp)).2.1⟩⟩ ?_
  exact ⟨hS2.ob t1, (congrFun te 0).trans t2, (congrFun te 2).trans t3, hS2.ar t4, hS2.ar t5⟩
theorem X8_77 {Γ0 : am_G} {I0 : am_I} {L0 : am_L} {mc ms : Nat} {Q : am_Q} (hN : nwR Γ0 Γ I0 I L0 L 0) (hz : Γ0.1 ≤ 373) (h0 : 0 < Γ0.1) (hc : Γ.1 = 374) (ho : am_ob Γ 0 8) (hF : fcs Γ 0 [(5, 373, (6, 2, 5)), (4, 83, (0, 1, 0)), (3, 81, (0, 3, 0)), (2, 45, (0, 5, 0)), (1, 9, (0, 5, 0)), (0, 1, (0, 4, 0))]) (hso : soF Γ 1) (hpr : stF Γ 9) (hdr : stF Γ 45) (hrd : rdF Γ) (hhi : hiF Γ 83)
    (post : ∀ Γ' I' L', nwR Γ0 Γ' I0 I' L0 L' 0 → Γ'.1 = 450 → cF Γ' → hiF Γ' 83 → (am_ar Γ' 373 6 2 5 ∧ Γ'.2.2 373 0 = some 374 ∧ Γ'.2.2 373 1 = some 410 ∧ stF Γ' 374 ∧ stF Γ' 410 ∧ am_ar Γ' 446 3 2 0) → otF Γ' → am_W m_X8_init (d + 8) mc ms true 0 0 121 [(0, .ref 0), (1, .int (nn 0))] [] Γ' I' L' Q) : am_W m_X8_init (d + 8) mc ms true 76 861 77 [(0, .ref 0), (1, .int (nn 0))] [] Γ I L Q := by
  refine aw_less (bc' := (2 - 0) * 36 + 4) (bs' := (2 - 0) * 373 + 115) (by decide) (by decide) ?_
  have key := nn_loop (fun k => ∀ (G : am_G) (J : am_I) (M : am_L), nwR Γ0 G I0 J L0 M 0 → G.1 = 374 + 36 * k → am_ob G 0 8 → fcs G 0 [(5, 373, (6, 2, 5)), (4, 83, (0, 1, 0)), (3, 81, (0, 3, 0)), (2, 45, (0, 5, 0)), (1, 9, (0, 5, 0)), (0, 1, (0, 4, 0))] → soF G 1 → stF G 9 → stF G 45 → rdF G → hiF G 83 → (∀ i, i < k → G.2.2 373 i = some (374 + 36 * i) ∧ stF G (374 + 36 * i)) → am_W m_X8_init (d + 8) mc ms true ((2 - k) * 36 + 4) ((2 - k) * 373 + 115) 77 [(0, .ref 0), (1, .int (nn k))] [] G J M Q) 2 ?_ (fun k hk ih => ?_)
  · exact key Γ I L hN hc ho hF hso hpr hdr hrd hhi (fun i hi => absurd hi (Nat.not_lt_zero i))
  · intro G J M n0 n1 n2 n3 a1 a2 a3 a4 a5 n4
    refine bX8_init_77 (fun _ => ?_) (fun h => absurd (show (2 : Int32) ≤ nn 2 by decide) h)
    exact X8_101 n0 hz h0 n1 n2 n3 a1 a2 a3 a4 a5 (n4 0 (by decide)).2 (n4 1 (by decide)).2 (n4 0 (by decide)).1 (n4 1 (by decide)).1 post
  · intro G J M n0 n1 n2 n3 a1 a2 a3 a4 a5 n4
    refine bX8_init_77 (fun h => absurd h (by show ¬ nn 2 ≤ nn k; rw [nn_le (by omega) (by omega)]; omega)) (fun _ => ?_)
    have fb : 0 < G.1 := n2.1
    have q6 := n3 (5, 373, (6, 2, 5)) (by simp)
    refine aw_less (bc' := (2 - (k + 1)) * 36 + 4 + 35 + 1) (bs' := (2 - (k + 1)) * 373 + 115 + 362 + 11) (by omega) (by omega) ?_
    refine aw_aload_n dX8_init_82 rfl ?_
    refine aw_getR dX8_init_83 f_X8_42 n2 rfl q6.2.2 ?_
    refine aw_iload_n dX8_init_86 rfl ?_
    refine aw_new (ci := 5) (N := 11) (C := RX5) (T := TX5) dX8_init_87 rfl cl_X8_16 mk_X5 n_X5 (okL2 fb) (okS2i q6.1) ?_
    refine aw_dup dX8_init_90 rfl ?_
    refine aw_callI (bc := (2 - (k + 1)) * 36 + 4) (bs := (2 - (k + 1)) * 373 + 115) (mc' := 35) (ms' := 362) (as := []) (b := G.1) (rst := [.ref G.1, .int (nn k), .ref 373]) dX8_init_91 k_X5_init l_X8_18 i_X5_init rfl rfl rfl rfl (Nat.le_of_ble_eq_true rfl) (cX5 (d := d + 4) (b := G.1) (ob_at 5) rfl) (okL2 (Nat.lt_succ_of_lt fb)) (okS3i (Nat.lt_succ_self _) (Nat.lt_succ_of_lt q6.1)) (fun v G1 J1 M1 hq => ?_) (fun E _ _ _ hq => nomatch hq.1)
    obtain ⟨hv, hq2, hq3, hq4⟩ := hq
    obtain rfl : v = none := Sum.inl.inj hv
    obtain ⟨G2, eG, e1, e2, e3, e4, e5, e6, e7, e8, e9, e10, e11⟩ := st_el (i := k) (a := 373) n0 n2 n3 hq2 hz q6.1 (by decide)
    refine aw_aast (ci := 0) dX8_init_94 (n := 2) (b := 5) ⟨Nat.lt_of_lt_of_le q6.1 e11.1, (e11.2.1 _ q6.1).1.trans q6.2.1⟩ (nn_in (by omega) hk) ⟨e9, e10⟩ ?_
    rw [nn_nat (by omega), eG]
    refine aw_iinc (ls' := [(0, .ref 0), (1, .int (nn (k + 1)))]) dX8_init_95 rfl ((cn_1 _).trans (nn_s1 k)) (by decide) rfl ?_
    refine aw_goto (tgt := 77) dX8_init_98 (by decide) ?_
    have hq5 : stF G1 (374 + 36 * k) := by rw [← n1]; exact hq4
    refine ih G2 J1 M1 e1 (by omega) e3 e4 (a1.keep e5 (by omega)) (a2.keep e5 (by omega)) (a3.keep e5 (by omega)) (a4.keep e5 (by decide)) (a5.keep e5 (by omega)) (fun i hi => ?_)
    by_cases hik : i = k
    · subst hik
      exact ⟨e7.trans (congrArg some n1), hq5.keep e6 (by omega)⟩
    · obtain ⟨y1, y2⟩ := n4 i (by omega)
      exact ⟨(e8 i hik).trans y1, y2.keep e5 (by omega)⟩
theorem cX8 (o : am_ob Γ 0 8) (h1 : Γ.1 = 1) {w' : Nat → Int32} (hU : uSet B0 229 (zrow fun _ => 0) (skp B0 229 0) = .ok (229, w')) : am_C m_X8_init (d + 8) 449 13825 true [.ref 0] Γ I L (fun o2 Γ' I' L' => o2 = .inl none ∧ Γ'.1 = 450 ∧ cF Γ' ∧ hiF Γ' 83 ∧ (am_ar Γ' 373 6 2 5 ∧ Γ'.2.2 373 0 = some 374 ∧ Γ'.2.2 373 1 = some 410 ∧ stF Γ' 374 ∧ stF Γ' 410 ∧ am_ar Γ' 446 3 2 0) ∧ otF Γ' ∧ stR I' L' 9 w' ∧ (I' 81 1 = 0 ∧ I' 81 2 = 0 ∧ I' 81 3 = -1) ∧ ∀ k, 83 ≤ k → k < 450 → (I' k = fun _ => 0) ∧ L' k = fun _ => 0) := by
  refine am_of rfl rfl rfl (Nat.le_of_ble_eq_true rfl) ?_
  have hb0 : 0 < Γ.1 := o.1
  have hN0 : nwR Γ Γ I I L L (0) := nwR.rf
  have hF0 : fcs Γ (0) [] := fun q hq => nomatch hq
  have ho0 := o
  have hc0 := h1
  refine aw_aload_n dX8_init_0 rfl ?_
  refine aw_obj dX8_init_1 (am_t1 33 rfl rfl) ow_i ow_c (Nat.le_of_ble_eq_true rfl) ?_
  refine aw_aload_n dX8_init_4 rfl ?_
  refine aw_new (ci := 4) (N := 8) (C := RX4) (T := TX4) dX8_init_5 rfl cl_X8_9 mk_X4 n_X4 (okL1 hb0) (okS1 hb0) ?_
  refine aw_dup dX8_init_8 rfl ?_
  refine aw_callIN (bc := 441) (bs := 5316) (mc' := 7) (ms' := 8501) (as := []) (b := Γ.1) (rst := [.ref Γ.1, .ref (0)]) dX8_init_9 k_X4_init ln_X8_11 i_X4_init rfl rfl rfl rfl (Nat.le_of_ble_eq_true rfl) (cX4 (d := d + 6) (b := Γ.1) (ob_at 4) rfl) (okL1 (Nat.lt_succ_of_lt hb0)) (okS2 (Nat.lt_succ_self _) (Nat.lt_succ_of_lt hb0)) (fun v G0 J0 M0 hq => ?_) (fun E _ _ _ hq => nomatch hq.1)
  obtain ⟨hv, hq2, hq3, hq4⟩ := hq
  obtain rfl : v = none := Sum.inl.inj hv
  obtain ⟨hM0, hoM0, hFM0, hlt0, htM0, hSM0⟩ := st_sub hN0 ho0 hF0 hq2
  refine aw_putR dX8_init_12 p_X8_12 hoM0 rfl hlt0 rfl (fun _ => rfl) (fun _ => rfl) ?_
  obtain ⟨Γ1, eG, hN1, hd1, ho1, hF1, hS1⟩ := st_put (f := 0) (r := Γ.1) (t := (0, 4, 0)) hM0 hoM0 hFM0 (by simp) hlt0 htM0
  rw [eG]
  clear eG
  have hc1 : Γ1.1 = 9 := by omega
  rw [hc0] at hF1
  obtain ⟨I1, eI⟩ : ∃ I1, I1 = J0 := ⟨_, rfl⟩
  obtain ⟨L1, eL⟩ : ∃ L1, L1 = M0 := ⟨_, rfl⟩
  rw [← eI, ← eL]
  rw [← eI, ← eL] at hN1 hS1 hSM0
  have hb1 : 0 < Γ1.1 := ho1.1
  have hT1 := hSM0.trb hS1
  rw [hc0] at hq4
  have hso_1 := hq4.keep hS1 (by omega)
  refine aw_aload_n dX8_init_15 rfl ?_
  refine aw_new (ci := 5) (N := 11) (C := RX5) (T := TX5) dX8_init_16 rfl cl_X8_16 mk_X5 n_X5 (okL1 hb1) (okS1 hb1) ?_
  refine aw_dup dX8_init_19 rfl ?_
  refine aw_callI (bc := 405) (bs := 4943) (mc' := 35) (ms' := 362) (as := []) (b := Γ1.1) (rst := [.ref Γ1.1, .ref (0)]) dX8_init_20 k_X5_init l_X8_18 i_X5_init rfl rfl rfl rfl (Nat.le_of_ble_eq_true rfl) (cX5 (d := d + 4) (b := Γ1.1) (ob_at 5) rfl) (okL1 (Nat.lt_succ_of_lt hb1)) (okS2 (Nat.lt_succ_self _) (Nat.lt_succ_of_lt hb1)) (fun v G1 J1 M1 hq => ?_) (fun E _ _ _ hq => nomatch hq.1)
  obtain ⟨hv, hq2, hq3, hq4⟩ := hq
  obtain rfl : v = none := Sum.inl.inj hv
  obtain ⟨hM1, hoM1, hFM1, hlt1, htM1, hSM1⟩ := st_sub hN1 ho1 hF1 hq2
  refine aw_putR dX8_init_23 p_X8_19 hoM1 rfl hlt1 rfl (fun _ => rfl) (fun _ => rfl) ?_
  obtain ⟨Γ2, eG, hN2, hd2, ho2, hF2, hS2⟩ := st_put (f := 1) (r := Γ1.1) (t := (0, 5, 0)) hM1 hoM1 hFM1 (by simp) hlt1 htM1
  rw [eG]
  clear eG
  have hc2 : Γ2.1 = 45 := by omega
  rw [hc1] at hF2
  obtain ⟨I2, eI⟩ : ∃ I2, I2 = J1 := ⟨_, rfl⟩
  obtain ⟨L2, eL⟩ : ∃ L2, L2 = M1 := ⟨_, rfl⟩
  rw [← eI, ← eL]
  rw [← eI, ← eL] at hN2 hS2 hSM1
  have hb2 : 0 < Γ2.1 := ho2.1
  have hT2 := hSM1.trb hS2
  have hso_2 := hso_1.keep hT2 (by omega)
  rw [hc1] at hq4
  have hpr_2 := hq4.keep hS2 (by omega)
  refine aw_aload_n dX8_init_26 rfl ?_
  refine aw_new (ci := 5) (N := 11) (C := RX5) (T := TX5) dX8_init_27 rfl cl_X8_16 mk_X5 n_X5 (okL1 hb2) (okS1 hb2) ?_
  refine aw_dup dX8_init_30 rfl ?_
  refine aw_callI (bc := 369) (bs := 4570) (mc' := 35) (ms' := 362) (as := []) (b := Γ2.1) (rst := [.ref Γ2.1, .ref (0)]) dX8_init_31 k_X5_init l_X8_18 i_X5_init rfl rfl rfl rfl (Nat.le_of_ble_eq_true rfl) (cX5 (d := d + 4) (b := Γ2.1) (ob_at 5) rfl) (okL1 (Nat.lt_succ_of_lt hb2)) (okS2 (Nat.lt_succ_self _) (Nat.lt_succ_of_lt hb2)) (fun v G2 J2 M2 hq => ?_) (fun E _ _ _ hq => nomatch hq.1)
  obtain ⟨hv, hq2, hq3, hq4⟩ := hq
  obtain rfl : v = none := Sum.inl.inj hv
  obtain ⟨hM2, hoM2, hFM2, hlt2, htM2, hSM2⟩ := st_sub hN2 ho2 hF2 hq2
  refine aw_putR dX8_init_34 p_X8_23 hoM2 rfl hlt2 rfl (fun _ => rfl) (fun _ => rfl) ?_
  obtain ⟨Γ3, eG, hN3, hd3, ho3, hF3, hS3⟩ := st_put (f := 2) (r := Γ2.1) (t := (0, 5, 0)) hM2 hoM2 hFM2 (by simp) hlt2 htM2
  rw [eG]
  clear eG
  have hc3 : Γ3.1 = 81 := by omega
  rw [hc2] at hF3
  obtain ⟨I3, eI⟩ : ∃ I3, I3 = J2 := ⟨_, rfl⟩
  obtain ⟨L3, eL⟩ : ∃ L3, L3 = M2 := ⟨_, rfl⟩
  rw [← eI, ← eL]
  rw [← eI, ← eL] at hN3 hS3 hSM2
  have hb3 : 0 < Γ3.1 := ho3.1
  have hT3 := hSM2.trb hS3
  have hso_3 := hso_2.keep hT3 (by omega)
  have hpr_3 := hpr_2.keep hT3 (by omega)
  rw [hc2] at hq4
  have hdr_3 := hq4.keep hS3 (by omega)
  refine aw_aload_n dX8_init_37 rfl ?_
  refine aw_new (ci := 3) (N := 12) (C := RX3) (T := TX3) dX8_init_38 rfl cl_X8_26 mk_X3 n_X3 (okL1 hb3) (okS1 hb3) ?_
  refine aw_dup dX8_init_41 rfl ?_
  have fN := hF3.new hb3 (0, 3, 0)
  refine aw_aload_n dX8_init_42 rfl ?_
  refine aw_getR dX8_init_43 f_X8_23 (ob_new ho3) rfl (fN (2, 45, (0, 5, 0)) (by simp)).2.2 ?_
  refine aw_aload_n dX8_init_46 rfl ?_
  refine aw_getR dX8_init_47 f_X8_12 (ob_new ho3) rfl (fN (0, 1, (0, 4, 0)) (by simp)).2.2 ?_
  refine aw_callI (bc := 367) (bs := 3858) (mc' := 1) (ms' := 700) (as := [.ref 45, .ref 1]) (b := Γ3.1) (rst := [.ref Γ3.1, .ref 0]) dX8_init_50 k_X3_init l_X8_28 i_X3_init rfl rfl rfl rfl (Nat.le_of_ble_eq_true rfl) (cX3 (d := d + 6) (st := 45) (so := 1) (b := Γ3.1) (ob_at 3) rfl (ob_new hdr_3.1) (ob_new hso_3.1)) (okL1 (Nat.lt_succ_of_lt hb3)) (okS2 (Nat.lt_succ_self _) (Nat.lt_succ_of_lt hb3)) (fun v G3 J3 M3 hq => ?_) (fun E _ _ _ hq => nomatch hq.1)
  obtain ⟨hv, J, hJ, hq2, hq3, hq5, hq6⟩ := hq
  obtain rfl : v = none := Sum.inl.inj hv
  obtain ⟨hM3, hoM3, hFM3, hlt3, htM3, hSM3⟩ := st_sub hN3 ho3 hF3 hq2
  refine aw_putR dX8_init_53 p_X8_31 hoM3 rfl hlt3 rfl (fun _ => rfl) (fun _ => rfl) ?_
  obtain ⟨Γ4, eG, hA, hd4, ho4, hF4, hS4⟩ := st_put (f := 3) (r := Γ3.1) (t := (0, 3, 0)) hM3 hoM3 hFM3 (by simp) hlt3 htM3
  rw [eG]
  clear eG
  have hc4 : Γ4.1 = 83 := by omega
  rw [hc3] at hF4 hq5 hq6 hJ
  have hT4 := hSM3.trb hS4
  have hso_4 := hso_3.keep hT4 (by omega)
  have hpr_4 := hpr_3.keep hT4 (by omega)
  have hdr_4 := hdr_3.keep hT4 (by omega)
  have z6 := fun q hq => hq6 q hq
  have hrd_4 : rdF Γ4 := rdF.keep ⟨hq5, (z6 (0, 82, (2, 700, 0)) (by simp)).2.2, (z6 (5, 45, (0, 5, 0)) (by simp)).2.2, (z6 (6, 1, (0, 4, 0)) (by simp)).2.2, ⟨(z6 (0, 82, (2, 700, 0)) (by simp)).1, (z6 (0, 82, (2, 700, 0)) (by simp)).2.1⟩⟩ hS4 (by decide)
  obtain ⟨I4, eI4⟩ : ∃ I4, I4 = J3 := ⟨_, rfl⟩
  obtain ⟨L4, eL4⟩ : ∃ L4, L4 = M3 := ⟨_, rfl⟩
  rw [← eI4, ← eL4]
  rw [← eI4] at hJ
  rw [← eL4] at hA hT4 hS4 hSM3
  have hb4 : 0 < Γ4.1 := ho4.1
  have hN4 : nwR Γ4 Γ4 I4 I4 L4 L4 0 := nwR.rf
  refine aw_aload_n dX8_init_56 rfl ?_
  refine aw_new (ci := 1) (N := 3) (C := RX1) (T := TX1) dX8_init_57 rfl cl_X8_35 mk_X1 n_X1 (okL1 hb4) (okS1 hb4) ?_
  refine aw_dup dX8_init_60 rfl ?_
  refine aw_callI (bc := 77) (bs := 863) (mc' := 289) (ms' := 2992) (as := []) (b := Γ4.1) (rst := [.ref Γ4.1, .ref (0)]) dX8_init_61 k_X1_init l_X8_37 i_X1_init rfl rfl rfl rfl (Nat.le_of_ble_eq_true rfl) (cX1 (d := d + 3) (b := Γ4.1) (ob_at 1) rfl) (okL1 (Nat.lt_succ_of_lt hb4)) (okS2 (Nat.lt_succ_self _) (Nat.lt_succ_of_lt hb4)) (fun v G4 J4 M4 hq => ?_) (fun E _ _ _ hq => nomatch hq.1)
  obtain ⟨hv, hq2, hq3, hq4⟩ := hq
  obtain rfl : v = none := Sum.inl.inj hv
  obtain ⟨hM4, hoM4, hFM4, hlt4, htM4, hSM4⟩ := st_sub hN4 ho4 hF4 hq2
  refine aw_putR dX8_init_64 p_X8_38 hoM4 rfl hlt4 rfl (fun _ => rfl) (fun _ => rfl) ?_
  obtain ⟨Γ5, eG, hN5, hd5, ho5, hF5, hS5⟩ := st_put (f := 4) (r := Γ4.1) (t := (0, 1, 0)) hM4 hoM4 hFM4 (by simp) hlt4 htM4
  rw [eG]
  clear eG
  have hc5 : Γ5.1 = 373 := by omega
  rw [hc4] at hF5
  obtain ⟨I5, eI⟩ : ∃ I5, I5 = J4 := ⟨_, rfl⟩
  obtain ⟨L5, eL⟩ : ∃ L5, L5 = M4 := ⟨_, rfl⟩
  rw [← eI, ← eL]
  rw [← eI, ← eL] at hN5 hS5 hSM4
  have hb5 : 0 < Γ5.1 := ho5.1
  have hT5 := hSM4.trb hS5
  have hso_5 := hso_4.keep hT5 (by omega)
  have hpr_5 := hpr_4.keep hT5 (by omega)
  have hdr_5 := hdr_4.keep hT5 (by omega)
  have hrd_5 := hrd_4.keep hT5 (by decide)
  rw [hc4] at hq4
  have hhi_5 := hq4.keep hS5 (by omega)
  refine aw_aload_n dX8_init_67 rfl ?_
  refine aw_iconst dX8_init_68 ci_2 ?_
  refine aw_newq (n := 2) (b := 5) dX8_init_69 cl_X8_16 rfl (by decide) (by decide) (by decide) (by decide) (okL1 hb5) (okS1 hb5) ?_
  refine aw_putR dX8_init_72 p_X8_42 (ob_new ho5) rfl (Nat.lt_succ_self _) rfl (fun _ => rfl) (fun _ => rfl) ?_
  obtain ⟨Γ6, I6, L6, eG, eI, eL, hN6, hc6, ho6, hF6, hS6⟩ := st_arr (f := 5) (t := (6, 2, 5)) hN5 hc5 ho5 hF5 (by simp)
  rw [eG, eI, eL]
  clear eG eI eL
  have hb6 : 0 < Γ6.1 := ho6.1
  have hso_6 := hso_5.keep hS6 (by omega)
  have hpr_6 := hpr_5.keep hS6 (by omega)
  have hdr_6 := hdr_5.keep hS6 (by omega)
  have hrd_6 := hrd_5.keep hS6 (by decide)
  have hhi_6 := hhi_5.keep hS6 (by omega)
  refine aw_iconst dX8_init_75 ci_0 ?_
  refine aw_istore_n (ls' := [(0, .ref 0), (1, .int (nn 0))]) dX8_init_76 (by decide) rfl ?_
  refine X8_77 hN6 (by omega) hb4 hc6 ho6 hF6 hso_6 hpr_6 hdr_6 hrd_6 hhi_6 (fun G K M n0 n1 hcF hhiF hSV hOT => ?_)
  have kz : ∀ k, 1 ≤ k → k < 81 → (K k = fun _ => 0) := fun k a b' => by
    rw [(n0.2.1 k (by omega)).2.2.1, hJ, am_u_ne (by omega)]
    exact (hA.2.2 k (by omega) (by omega)).1
  have k8 : ∀ j, j ≠ 3 → K 81 j = 0 := fun j hj => by
    rw [(n0.2.1 81 (by omega)).2.2.1, hJ, at1, if_neg hj]
    exact congrFun (hA.2.2 81 (by omega) (by omega)).1 j
  obtain ⟨I', L', x1, x2, x3, x4⟩ := X8_text (d := d) (L := M) hcF (k8 1 (by decide)) (fun j _ => congrFun (kz 45 (by decide) (by decide)) j) (fun j _ => congrFun (kz 52 (by decide) (by decide)) j) hU
  refine x4 _ _ _ ⟨rfl, n1, hcF, hhiF, hSV, hOT, x1, x2, fun k a c => ?_⟩
  rw [(x3 k a).1, (x3 k a).2]
  exact n0.2.2 k (by omega) (by omega)
end MK3
