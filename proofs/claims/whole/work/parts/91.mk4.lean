/-! THE MODEL IS MADE -/
section MK4
theorem nwR.z {Γ0 Γ : am_G} {I0 I : am_I} {L0 L : am_L} {b : Nat} (h : nwR Γ0 Γ I0 I L0 L b) : nwR Γ0 Γ (fun _ _ => 0) (fun _ _ => 0) (fun _ _ => 0) (fun _ _ => 0) b := ⟨h.1, fun j hj => ⟨(h.2.1 j hj).1, (h.2.1 j hj).2.1, rfl, rfl⟩, fun _ _ _ => ⟨rfl, rfl⟩⟩
variable {d : Nat} {Γ : am_G} {I J : am_I} {L : am_L}
set_option maxRecDepth 8192 in
theorem X9_lays0 (hm : mdF Γ 450) (z : J 451 = fun _ => 0) (h5 : J 450 5 = 0) {w' : Nat → Int32} (hU : uSet B0 229 (zrow fun _ => 0) (skp B0 229 0) = .ok (229, w')) (h3 : kd B0 229 229 = 3) :
    ∃ M, am_E m_X9_lays (d + 265) 0 0 [.ref 450, .retAddr 0] Γ J L (.inl none) M L ∧ (∀ k, k < 450 → M k = J k) ∧ M 455 = J 455 ∧ M 451 = w' ∧ M 450 5 = 0 ∧ M 450 9 = 0 ∧ M 450 10 = J 450 10 ∧ M 450 11 = 0 ∧ M 450 12 = -1 := by
  obtain ⟨mo, r0, r1, r2, r3, r4, r7, r8, r13, r14, r15, r16, r17, a1, a2, a3, a4, a5, a6, -⟩ := id hm
  refine am_ofX1 rfl rfl rfl (Nat.le_of_ble_eq_true rfl) ?_
  have key := nn_loop (fun k => ∀ J2 : am_I, (∀ c, c ≠ 456 → c ≠ 450 → J2 c = J c) → (∀ j, j ≠ 9 → J2 450 j = J 450 j) → J2 450 9 = nn 229 → (∀ j, j < k → J2 456 j = nn (B0 j)) → ∃ M, am_W m_X9_lays (d + 265) 0 0 false 0 0 10 [(0, .ref 450), (1, .retAddr 0), (2, .int (nn k))] [] Γ J2 L (am_R (.inl none) M L) ∧ (∀ k, k < 450 → M k = J k) ∧ M 455 = J 455 ∧ M 451 = w' ∧ M 450 5 = 0 ∧ M 450 9 = 0 ∧ M 450 10 = J 450 10 ∧ M 450 11 = 0 ∧ M 450 12 = -1) 229 ?_ (fun k hk ih => ?_)
  · obtain ⟨J1, hJ1⟩ : ∃ J1, J1 = am_u J 450 9 (nn 229) := ⟨_, rfl⟩
    obtain ⟨M, hW, hP⟩ := key J1 (fun c _ c2 => by rw [hJ1, am_u_ne c2]) (fun j hj => by rw [hJ1, at1, if_neg hj]) (by rw [hJ1, at1, if_pos rfl]) (fun j hj => absurd hj (Nat.not_lt_zero j))
    refine ⟨M, ?_, hP⟩
    refine bX9_lays_0 (d := d + 264) (by decide) (Nat.zero_le _) (Nat.zero_le _) (eJ0_length (d := d + 263) (by decide)) ?_
    rw [tl0]
    refine bX9_lays_5 mo ?_
    rw [← hJ1]
    exact hW
  · intro J2 q1 q2 q3 q4
    have hT : uText B0 229 (J2 451) = .ok (w', 0) := by
      rw [q1 451 (by decide) (by decide), z, uText_o hU]
      exact uAll_3 h3
    obtain ⟨hOk, -⟩ := mLoad (d := d) (L := L) hm (J := J2) (by decide) q3 (fun j hj => ⟨(B0_b j hj).1, q4 j hj⟩) (s := 0) ((q2 5 (by decide)).trans h5) (by decide) hT
    obtain ⟨M, hE, x1, x2, x3, x4, x5, x6, x7, x8, x9⟩ := hOk w' 0 rfl
    have e : ∀ j, j ≠ 5 → am_u M 450 5 0 450 j = M 450 j := fun j hj => by rw [at1, if_neg hj]
    refine ⟨am_u M 450 5 0, ?_, fun k hk => ?_, ?_, ?_, ?_, ?_, ?_, ?_, ?_⟩
    · refine bX9_lays_10 mo (fun _ => ?_) (fun h => absurd (by rw [q3, nn_le (by decide) (by decide)]; exact Nat.le_refl _) h)
      refine bX9_lays_35 (d := d + 264) mo (Nat.zero_le _) (Nat.zero_le _) hE ?_
      exact bX9_lays_39 mo ⟨rfl, rfl, rfl⟩
    · rw [am_u_ne (by omega), x1 k (by omega) (by omega) (by omega) (by omega) (by omega), q1 k (by omega) (by omega)]
    · rw [am_u_ne (by decide), x1 455 (by decide) (by decide) (by decide) (by decide) (by decide), q1 455 (by decide) (by decide)]
    · rw [am_u_ne (by decide), x2]
    · rw [at1, if_pos rfl]
    · rw [e 9 (by decide), x6]
    · rw [e 10 (by decide), x5, q2 10 (by decide)]
    · rw [e 11 (by decide), x7]
    · rw [e 12 (by decide), x8]
  · intro J2 q1 q2 q3 q4
    obtain ⟨b1, b2⟩ := B0_b k hk
    obtain ⟨J3, hJ3⟩ : ∃ J3, J3 = am_u J2 456 k (tbyte 0 k) := ⟨_, rfl⟩
    obtain ⟨M, hW, hP⟩ := ih J3 (fun c c1 c2 => by rw [hJ3, am_u_ne c1]; exact q1 c c1 c2) (fun j hj => by rw [hJ3, am_u_ne (by decide)]; exact q2 j hj) (by rw [hJ3, am_u_ne (by decide)]; exact q3) (fun j hj => by
      rw [hJ3, at1]
      by_cases hjk : j = k
      · subst hjk
        rw [if_pos rfl, b2]
      · rw [if_neg hjk]
        exact q4 j (by omega))
    refine ⟨M, ?_, hP⟩
    refine bX9_lays_10 mo (fun h => absurd h (by rw [q3, nn_le (by decide) (by omega)]; omega)) (fun _ => ?_)
    refine bX9_lays_18 (d := d + 264) mo r7 (by decide) (Nat.zero_le _) (Nat.zero_le _) (eJ0_charAt (d := d + 261) (by decide) (by rw [tl0]; exact hk)) ?_
    refine bX9_lays_28 a6 (nn_in (by omega) (by omega)) ?_
    rw [nn_nat (by omega), nn_s1, ← hJ3]
    exact hW

theorem cX9 (o : am_ob Γ 450 9) (h1 : Γ.1 = 451) (z0 : I 450 = fun _ => 0) {w' : Nat → Int32} (hU : uSet B0 229 (zrow fun _ => 0) (skp B0 229 0) = .ok (229, w')) (h3 : kd B0 229 229 = 3) : am_C m_X9_init (d + 266) 12 31168 true [.ref 450] Γ I L (fun o2 Γ' I' L' => o2 = .inl none ∧ Γ'.1 = 463 ∧ nwR Γ Γ' (fun _ _ => 0) (fun _ _ => 0) (fun _ _ => 0) (fun _ _ => 0) 450 ∧ mdF Γ' 450 ∧ (∀ k, k < 450 → I' k = I k ∧ L' k = L k) ∧ I' 455 = (fun _ => 0) ∧ I' 451 = w' ∧ I' 450 5 = 0 ∧ I' 450 9 = 0 ∧ I' 450 10 = 0 ∧ I' 450 11 = 0 ∧ I' 450 12 = -1) := by
  refine am_of rfl rfl rfl (Nat.le_of_ble_eq_true rfl) ?_
  have hb0 : 450 < Γ.1 := o.1
  have hN0 : nwR Γ Γ I I L L (450) := nwR.rf
  have hF0 : fcs Γ (450) [] := fun q hq => nomatch hq
  have ho0 := o
  have hc0 := h1
  refine aw_aload_n dX9_init_0 rfl ?_
  refine aw_obj dX9_init_1 (am_t6 111 rfl rfl) ow_i ow_c (Nat.le_of_ble_eq_true rfl) ?_
  refine aw_aload_n dX9_init_4 rfl ?_
  refine aw_sipush dX9_init_5 cs_508 ?_
  refine aw_newI (n := 508) dX9_init_8 ac_int (by decide) (by decide) (by decide) (okL1 hb0) (okS1 hb0) ?_
  refine aw_putR dX9_init_10 p_X9_9 (ob_new ho0) rfl (Nat.lt_succ_self _) rfl (fun _ => rfl) (fun _ => rfl) ?_
  obtain ⟨Γ1, I1, L1, eG, eI, eL, hN1, hc1, ho1, hF1, hS1⟩ := st_arr (f := 0) (t := (1, 508, 0)) hN0 hc0 ho0 hF0 (by simp)
  rw [eG, eI, eL]
  clear eG eI eL
  have hb1 : 450 < Γ1.1 := ho1.1
  refine aw_aload_n dX9_init_13 rfl ?_
  refine aw_sipush dX9_init_14 cs_4064 ?_
  refine aw_newI (n := 4064) dX9_init_17 ac_int (by decide) (by decide) (by decide) (okL1 hb1) (okS1 hb1) ?_
  refine aw_putR dX9_init_19 p_X9_13 (ob_new ho1) rfl (Nat.lt_succ_self _) rfl (fun _ => rfl) (fun _ => rfl) ?_
  obtain ⟨Γ2, I2, L2, eG, eI, eL, hN2, hc2, ho2, hF2, hS2⟩ := st_arr (f := 1) (t := (1, 4064, 0)) hN1 hc1 ho1 hF1 (by simp)
  rw [eG, eI, eL]
  clear eG eI eL
  have hb2 : 450 < Γ2.1 := ho2.1
  refine aw_aload_n dX9_init_22 rfl ?_
  refine aw_sipush dX9_init_23 cs_1016 ?_
  refine aw_newI (n := 1016) dX9_init_26 ac_int (by decide) (by decide) (by decide) (okL1 hb2) (okS1 hb2) ?_
  refine aw_putR dX9_init_28 p_X9_16 (ob_new ho2) rfl (Nat.lt_succ_self _) rfl (fun _ => rfl) (fun _ => rfl) ?_
  obtain ⟨Γ3, I3, L3, eG, eI, eL, hN3, hc3, ho3, hF3, hS3⟩ := st_arr (f := 2) (t := (1, 1016, 0)) hN2 hc2 ho2 hF2 (by simp)
  rw [eG, eI, eL]
  clear eG eI eL
  have hb3 : 450 < Γ3.1 := ho3.1
  refine aw_aload_n dX9_init_31 rfl ?_
  refine aw_sipush dX9_init_32 cs_508 ?_
  refine aw_newI (n := 508) dX9_init_35 ac_int (by decide) (by decide) (by decide) (okL1 hb3) (okS1 hb3) ?_
  refine aw_putR dX9_init_37 p_X9_19 (ob_new ho3) rfl (Nat.lt_succ_self _) rfl (fun _ => rfl) (fun _ => rfl) ?_
  obtain ⟨Γ4, I4, L4, eG, eI, eL, hN4, hc4, ho4, hF4, hS4⟩ := st_arr (f := 3) (t := (1, 508, 0)) hN3 hc3 ho3 hF3 (by simp)
  rw [eG, eI, eL]
  clear eG eI eL
  have hb4 : 450 < Γ4.1 := ho4.1
  refine aw_aload_n dX9_init_40 rfl ?_
  refine aw_iconst dX9_init_41 ci_2 ?_
  refine aw_newZ (n := 2) dX9_init_42 ac_boolean (by decide) (by decide) (by decide) (okL1 hb4) (okS1 hb4) ?_
  refine aw_putR dX9_init_44 p_X9_22 (ob_new ho4) rfl (Nat.lt_succ_self _) rfl (fun _ => rfl) (fun _ => rfl) ?_
  obtain ⟨Γ5, I5, L5, eG, eI, eL, hN5, hc5, ho5, hF5, hS5⟩ := st_arr (f := 4) (t := (3, 2, 0)) hN4 hc4 ho4 hF4 (by simp)
  rw [eG, eI, eL]
  clear eG eI eL
  have hb5 : 450 < Γ5.1 := ho5.1
  refine aw_aload_n dX9_init_47 rfl ?_
  refine aw_sipush dX9_init_48 cs_700 ?_
  refine aw_newI (n := 700) dX9_init_51 ac_int (by decide) (by decide) (by decide) (okL1 hb5) (okS1 hb5) ?_
  refine aw_putR dX9_init_53 p_X9_26 (ob_new ho5) rfl (Nat.lt_succ_self _) rfl (fun _ => rfl) (fun _ => rfl) ?_
  obtain ⟨Γ6, I6, L6, eG, eI, eL, hN6, hc6, ho6, hF6, hS6⟩ := st_arr (f := 7) (t := (1, 700, 0)) hN5 hc5 ho5 hF5 (by simp)
  rw [eG, eI, eL]
  clear eG eI eL
  have hb6 : 450 < Γ6.1 := ho6.1
  refine aw_aload_n dX9_init_56 rfl ?_
  refine aw_sipush dX9_init_57 cs_300 ?_
  refine aw_newI (n := 300) dX9_init_60 ac_int (by decide) (by decide) (by decide) (okL1 hb6) (okS1 hb6) ?_
  refine aw_putR dX9_init_62 p_X9_29 (ob_new ho6) rfl (Nat.lt_succ_self _) rfl (fun _ => rfl) (fun _ => rfl) ?_
  obtain ⟨Γ7, I7, L7, eG, eI, eL, hN7, hc7, ho7, hF7, hS7⟩ := st_arr (f := 8) (t := (1, 300, 0)) hN6 hc6 ho6 hF6 (by simp)
  rw [eG, eI, eL]
  clear eG eI eL
  have hb7 : 450 < Γ7.1 := ho7.1
  refine aw_aload_n dX9_init_65 rfl ?_
  refine aw_iconst dX9_init_66 ci_m1 ?_
  refine aw_putI dX9_init_67 p_X9_32 ho7 rfl ?_
  obtain ⟨I8, eI8⟩ : ∃ I8, I8 = am_u I7 450 12 (-1) := ⟨_, rfl⟩
  obtain ⟨L8, eL8⟩ : ∃ L8, L8 = L7 := ⟨_, rfl⟩
  obtain ⟨Γ8, eG8⟩ : ∃ Γ8, Γ8 = Γ7 := ⟨_, rfl⟩
  rw [← eI8, ← eL8, ← eG8]
  have hA := hN7
  rw [← eL8, ← eG8] at hA
  have hN8 : nwR Γ8 Γ8 I8 I8 L8 L8 450 := nwR.rf
  have hc8 := hc7
  have ho8 := ho7
  have hF8 := hF7
  rw [← eG8] at hc8 ho8 hF8
  have hb8 : 450 < Γ8.1 := ho8.1
  refine aw_aload_n dX9_init_70 rfl ?_
  refine aw_sipush dX9_init_71 cs_7936 ?_
  refine aw_newI (n := 7936) dX9_init_74 ac_int (by decide) (by decide) (by decide) (okL1 hb8) (okS1 hb8) ?_
  refine aw_putR dX9_init_76 p_X9_36 (ob_new ho8) rfl (Nat.lt_succ_self _) rfl (fun _ => rfl) (fun _ => rfl) ?_
  obtain ⟨Γ9, I9, L9, eG, eI, eL, hN9, hc9, ho9, hF9, hS9⟩ := st_arr (f := 13) (t := (1, 7936, 0)) hN8 hc8 ho8 hF8 (by simp)
  rw [eG, eI, eL]
  clear eG eI eL
  have hb9 : 450 < Γ9.1 := ho9.1
  refine aw_aload_n dX9_init_79 rfl ?_
  refine aw_sipush dX9_init_80 cs_7936 ?_
  refine aw_newI (n := 7936) dX9_init_83 ac_int (by decide) (by decide) (by decide) (okL1 hb9) (okS1 hb9) ?_
  refine aw_putR dX9_init_85 p_X9_39 (ob_new ho9) rfl (Nat.lt_succ_self _) rfl (fun _ => rfl) (fun _ => rfl) ?_
  obtain ⟨Γ10, I10, L10, eG, eI, eL, hN10, hc10, ho10, hF10, hS10⟩ := st_arr (f := 14) (t := (1, 7936, 0)) hN9 hc9 ho9 hF9 (by simp)
  rw [eG, eI, eL]
  clear eG eI eL
  have hb10 : 450 < Γ10.1 := ho10.1
  refine aw_aload_n dX9_init_88 rfl ?_
  refine aw_sipush dX9_init_89 cs_7936 ?_
  refine aw_newI (n := 7936) dX9_init_92 ac_int (by decide) (by decide) (by decide) (okL1 hb10) (okS1 hb10) ?_
  refine aw_putR dX9_init_94 p_X9_42 (ob_new ho10) rfl (Nat.lt_succ_self _) rfl (fun _ => rfl) (fun _ => rfl) ?_
  obtain ⟨Γ11, I11, L11, eG, eI, eL, hN11, hc11, ho11, hF11, hS11⟩ := st_arr (f := 15) (t := (1, 7936, 0)) hN10 hc10 ho10 hF10 (by simp)
  rw [eG, eI, eL]
  clear eG eI eL
  have hb11 : 450 < Γ11.1 := ho11.1
  refine aw_aload_n dX9_init_97 rfl ?_
  refine aw_sipush dX9_init_98 cs_256 ?_
  refine aw_newI (n := 256) dX9_init_101 ac_int (by decide) (by decide) (by decide) (okL1 hb11) (okS1 hb11) ?_
  refine aw_putR dX9_init_103 p_X9_45 (ob_new ho11) rfl (Nat.lt_succ_self _) rfl (fun _ => rfl) (fun _ => rfl) ?_
  obtain ⟨Γ12, I12, L12, eG, eI, eL, hN12, hc12, ho12, hF12, hS12⟩ := st_arr (f := 16) (t := (1, 256, 0)) hN11 hc11 ho11 hF11 (by simp)
  rw [eG, eI, eL]
  clear eG eI eL
  have hb12 : 450 < Γ12.1 := ho12.1
  refine aw_aload_n dX9_init_106 rfl ?_
  refine aw_bipush dX9_init_107 cb_6 ?_
  refine aw_newI (n := 6) dX9_init_109 ac_int (by decide) (by decide) (by decide) (okL1 hb12) (okS1 hb12) ?_
  refine aw_putR dX9_init_111 p_X9_48 (ob_new ho12) rfl (Nat.lt_succ_self _) rfl (fun _ => rfl) (fun _ => rfl) ?_
  obtain ⟨Γ13, I13, L13, eG, eI, eL, hN13, hc13, ho13, hF13, hS13⟩ := st_arr (f := 17) (t := (1, 6, 0)) hN12 hc12 ho12 hF12 (by simp)
  rw [eG, eI, eL]
  clear eG eI eL
  have hb13 : 450 < Γ13.1 := ho13.1
  have z := hF13
  have hm : mdF Γ13 450 := ⟨ho13, (z (0, 451, (1, 508, 0)) (by simp)).2.2, (z (1, 452, (1, 4064, 0)) (by simp)).2.2, (z (2, 453, (1, 1016, 0)) (by simp)).2.2, (z (3, 454, (1, 508, 0)) (by simp)).2.2, (z (4, 455, (3, 2, 0)) (by simp)).2.2, (z (7, 456, (1, 700, 0)) (by simp)).2.2, (z (8, 457, (1, 300, 0)) (by simp)).2.2, (z (13, 458, (1, 7936, 0)) (by simp)).2.2, (z (14, 459, (1, 7936, 0)) (by simp)).2.2, (z (15, 460, (1, 7936, 0)) (by simp)).2.2, (z (16, 461, (1, 256, 0)) (by simp)).2.2, (z (17, 462, (1, 6, 0)) (by simp)).2.2, ⟨(z (0, 451, (1, 508, 0)) (by simp)).1, (z (0, 451, (1, 508, 0)) (by simp)).2.1⟩, ⟨(z (1, 452, (1, 4064, 0)) (by simp)).1, (z (1, 452, (1, 4064, 0)) (by simp)).2.1⟩, ⟨(z (2, 453, (1, 1016, 0)) (by simp)).1, (z (2, 453, (1, 1016, 0)) (by simp)).2.1⟩, ⟨(z (3, 454, (1, 508, 0)) (by simp)).1, (z (3, 454, (1, 508, 0)) (by simp)).2.1⟩, ⟨(z (4, 455, (3, 2, 0)) (by simp)).1, (z (4, 455, (3, 2, 0)) (by simp)).2.1⟩, ⟨(z (7, 456, (1, 700, 0)) (by simp)).1, (z (7, 456, (1, 700, 0)) (by simp)).2.1⟩, ⟨(z (8, 457, (1, 300, 0)) (by simp)).1, (z (8, 457, (1, 300, 0)) (by simp)).2.1⟩, ⟨(z (13, 458, (1, 7936, 0)) (by simp)).1, (z (13, 458, (1, 7936, 0)) (by simp)).2.1⟩, ⟨(z (14, 459, (1, 7936, 0)) (by simp)).1, (z (14, 459, (1, 7936, 0)) (by simp)).2.1⟩, ⟨(z (15, 460, (1, 7936, 0)) (by simp)).1, (z (15, 460, (1, 7936, 0)) (by simp)).2.1⟩, ⟨(z (16, 461, (1, 256, 0)) (by simp)).1, (z (16, 461, (1, 256, 0)) (by simp)).2.1⟩, ⟨(z (17, 462, (1, 6, 0)) (by simp)).1, (z (17, 462, (1, 6, 0)) (by simp)).2.1⟩⟩
  have k13 : ∀ k, k < 458 → k ≠ 450 → I13 k = I7 k := fun k a b => by rw [(hN13.2.1 k (by omega)).2.2.1, eI8, am_u_ne b]
  have m13 : ∀ j, j ≠ 12 → I13 450 j = 0 := fun j hj => by
    rw [(hN13.2.1 450 (by omega)).2.2.1, eI8, at1, if_neg hj, (hA.2.1 450 (by omega)).2.2.1, z0]
  obtain ⟨M, hE, x1, x2, x3, x4, x5, x6, x7, x8⟩ := X9_lays0 (d := d) (L := L13) (J := I13) hm ((k13 451 (by decide) (by decide)).trans (hA.2.2 451 (by omega) (by omega)).1) (m13 5 (by decide)) hU h3
  refine aw_aload_n dX9_init_114 rfl ?_
  refine aw_ldcT dX9_init_115 (i := 0) tx_X9_51 ?_
  refine aw_askV (as := [.retAddr 0]) (rst := []) k_X9_lays l_X9_53 i_X9_lays s_X9_lays rfl ho13 dX9_init_117 rfl (Nat.le_of_ble_eq_true rfl) (Nat.zero_le _) (Nat.zero_le _) hE rfl rfl ?_
  refine bX9_init_120 ⟨rfl, hc13, hA.z.trb hN13.z, hm, fun k hk => ⟨?_, ?_⟩, ?_, x3, x4, x5, ?_, x7, x8⟩
  · rw [x1 k hk, k13 k (by omega) (by omega), (hA.2.1 k (by omega)).2.2.1]
  · rw [(hN13.2.1 k (by omega)).2.2.2, (hA.2.1 k (by omega)).2.2.2]
  · rw [x2, k13 455 (by decide) (by decide), (hA.2.2 455 (by omega) (by omega)).1]
  · rw [x6, m13 10 (by decide)]
/-- class and model as they are made stand side by side -/
theorem rel_0 {w' : Nat → Int32} (hw : wfs w') (s9 : stR I L 9 w') (c8 : I 81 1 = 0 ∧ I 81 2 = 0 ∧ I 81 3 = -1) (z : ∀ k, 83 ≤ k → k < 450 → (I k = fun _ => 0)) (m5 : I 455 = (fun _ => 0)) (m1 : I 451 = w') (h5 : I 450 5 = 0) (h9 : I 450 9 = 0) (h10 : I 450 10 = 0) (h11 : I 450 11 = 0) (h12 : I 450 12 = -1) : REL I L := by
  refine ⟨by rw [m1]; exact hw, by rw [m1]; exact s9, ⟨0, 0, by rw [z 83 (by decide) (by decide)]; rfl, by rw [z 83 (by decide) (by decide)]; rfl, by decide, by decide, h5, fun i hi => absurd hi (Nat.not_lt_zero i)⟩, fun q hq => ⟨by rw [z 446 (by decide) (by decide), m5], Or.inl (by rw [m5])⟩, ⟨0, by decide, c8.1, h9, fun j hj => absurd hj (Nat.not_lt_zero j)⟩, ⟨c8.2.1.trans h11.symm, c8.2.2.trans h12.symm⟩, ⟨0, by decide, by rw [z 447 (by decide) (by decide)]; rfl, h10, fun j hj => absurd hj (Nat.not_lt_zero j)⟩⟩
end MK4
