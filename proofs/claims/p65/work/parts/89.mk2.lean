/-! CONSTRUCTORS: arrays of objects -/
section MKE
variable {Γ0 Γ Γ' : am_G} {I0 I I' : am_I} {L0 L L' : am_L} {b : Nat}
theorem fcs.oth {fs : List (Nat × Nat × Nat × Nat × Nat)} {a : Nat} (hf : fcs Γ b fs) (hab : b ≠ a) (f r : Nat) : fcs (am_ur Γ a f r) b fs := fun q hq => by
  obtain ⟨x1, x2, x3⟩ := hf q hq
  exact ⟨x1, x2, (congrFun (if_neg hab : (am_ur Γ a f r).2.2 b = Γ.2.2 b) _).trans x3⟩
theorem ur_at (Γ : am_G) (a f r g : Nat) : (am_ur Γ a f r).2.2 a g = if g = f then some r else Γ.2.2 a g := by
  show (if a = a then va_up (Γ.2.2 a) f (some r) else Γ.2.2 a) g = _
  rw [if_pos rfl]
  rfl
theorem st_el {a i ci : Nat} {t : Nat × Nat × Nat} {fs : List (Nat × Nat × Nat × Nat × Nat)} (h : nwR Γ0 Γ I0 I L0 L b) (hb : am_ob Γ b ci) (hf : fcs Γ b fs) (h2 : nwR (am_nG Γ t) Γ' (am_nI Γ I) I' (am_nL Γ L) L' Γ.1) (ha0 : Γ0.1 ≤ a) (ha : a < Γ.1) (hab : b ≠ a) :
    ∃ Γ2, am_ur Γ' a i Γ.1 = Γ2 ∧ nwR Γ0 Γ2 I0 I' L0 L' b ∧ Γ2.1 = Γ'.1 ∧ am_ob Γ2 b ci ∧ fcs Γ2 b fs ∧ nwR Γ Γ2 I I' L L' a ∧ nwR Γ' Γ2 I' I' L' L' a ∧ Γ2.2.2 a i = some Γ.1 ∧ (∀ j, j ≠ i → Γ2.2.2 a j = Γ.2.2 a j) ∧ Γ.1 < Γ'.1 ∧ Γ'.2.1 Γ.1 = t ∧ nwR Γ Γ' I I' L L' a := by
  obtain ⟨m1, m2, m3, m4, m5, m6⟩ := st_sub h hb hf h2
  have n2 : nwR Γ Γ' I I' L L' a := (nwR.rf.new t).tr2 h2 (Or.inr (Nat.le_refl _))
  have e : Γ'.2.2 a = Γ.2.2 a := (h2.re (Nat.lt_succ_of_lt ha) (Nat.ne_of_lt ha)).trans (va_up_ne _ _ (Nat.ne_of_lt ha))
  refine ⟨_, rfl, m1.putN ha0 _ _, rfl, m2, m3.oth hab _ _, n2.put _ _, nwR.rf.put _ _, ?_, fun j hj => ?_, m4, m5, n2⟩
  · rw [ur_at, if_pos rfl]
  · rw [ur_at, if_neg hj, e]
end MKE
section MK2
variable {d : Nat} {Γ : am_G} {I : am_I} {L : am_L} {b : Nat}

theorem cX5 (o : am_ob Γ b 5) (h1 : Γ.1 = b + 1) : am_C m_X5_init (d + 3) 35 362 true [.ref b] Γ I L (fun o2 Γ' I' L' => o2 = .inl none ∧ nwR Γ Γ' I I' L L' b ∧ Γ'.1 = b + 36 ∧ stF Γ' b) := by
  refine am_of rfl rfl rfl (Nat.le_of_ble_eq_true rfl) ?_
  have hb0 : b < Γ.1 := o.1
  have hN0 : nwR Γ Γ I I L L (b) := nwR.rf
  have hF0 : fcs Γ (b) [] := fun q hq => nomatch hq
  have ho0 := o
  have hc0 := h1
  refine aw_aload_n dX5_init_0 rfl ?_
  refine aw_obj dX5_init_1 (am_t1 74 rfl rfl) ow_i ow_c (Nat.le_of_ble_eq_true rfl) ?_
  refine aw_aload_n dX5_init_4 rfl ?_
  refine aw_bipush dX5_init_5 cb_6 ?_
  refine aw_newL (n := 6) dX5_init_7 ac_long (by decide) (by decide) (by decide) (okL1 hb0) (okS1 hb0) ?_
  refine aw_putR dX5_init_9 p_X5_9 (ob_new ho0) rfl (Nat.lt_succ_self _) rfl (fun _ => rfl) (fun _ => rfl) ?_
  obtain ⟨Γ1, I1, L1, eG, eI, eL, hN1, hc1, ho1, hF1, hS1⟩ := st_arr (f := 4) (t := (4, 6, 0)) hN0 hc0 ho0 hF0 (by simp)
  rw [eG, eI, eL]
  clear eG eI eL
  have hb1 : b < Γ1.1 := ho1.1
  refine aw_aload_n dX5_init_12 rfl ?_
  refine aw_bipush dX5_init_13 cb_6 ?_
  refine aw_newI (n := 6) dX5_init_15 ac_int (by decide) (by decide) (by decide) (okL1 hb1) (okS1 hb1) ?_
  refine aw_putR dX5_init_17 p_X5_15 (ob_new ho1) rfl (Nat.lt_succ_self _) rfl (fun _ => rfl) (fun _ => rfl) ?_
  obtain ⟨Γ2, I2, L2, eG, eI, eL, hN2, hc2, ho2, hF2, hS2⟩ := st_arr (f := 5) (t := (1, 6, 0)) hN1 hc1 ho1 hF1 (by simp)
  rw [eG, eI, eL]
  clear eG eI eL
  have hb2 : b < Γ2.1 := ho2.1
  refine aw_aload_n dX5_init_20 rfl ?_
  refine aw_bipush dX5_init_21 cb_6 ?_
  refine aw_newI (n := 6) dX5_init_23 ac_int (by decide) (by decide) (by decide) (okL1 hb2) (okS1 hb2) ?_
  refine aw_putR dX5_init_25 p_X5_19 (ob_new ho2) rfl (Nat.lt_succ_self _) rfl (fun _ => rfl) (fun _ => rfl) ?_
  obtain ⟨Γ3, I3, L3, eG, eI, eL, hN3, hc3, ho3, hF3, hS3⟩ := st_arr (f := 6) (t := (1, 6, 0)) hN2 hc2 ho2 hF2 (by simp)
  rw [eG, eI, eL]
  clear eG eI eL
  have hb3 : b < Γ3.1 := ho3.1
  refine aw_aload_n dX5_init_28 rfl ?_
  refine aw_bipush dX5_init_29 cb_8 ?_
  refine aw_newL (n := 8) dX5_init_31 ac_long (by decide) (by decide) (by decide) (okL1 hb3) (okS1 hb3) ?_
  refine aw_putR dX5_init_33 p_X5_22 (ob_new ho3) rfl (Nat.lt_succ_self _) rfl (fun _ => rfl) (fun _ => rfl) ?_
  obtain ⟨Γ4, I4, L4, eG, eI, eL, hN4, hc4, ho4, hF4, hS4⟩ := st_arr (f := 7) (t := (4, 8, 0)) hN3 hc3 ho3 hF3 (by simp)
  rw [eG, eI, eL]
  clear eG eI eL
  have hb4 : b < Γ4.1 := ho4.1
  refine aw_aload_n dX5_init_36 rfl ?_
  refine aw_bipush dX5_init_37 cb_8 ?_
  refine aw_newI (n := 8) dX5_init_39 ac_int (by decide) (by decide) (by decide) (okL1 hb4) (okS1 hb4) ?_
  refine aw_putR dX5_init_41 p_X5_25 (ob_new ho4) rfl (Nat.lt_succ_self _) rfl (fun _ => rfl) (fun _ => rfl) ?_
  obtain ⟨Γ5, I5, L5, eG, eI, eL, hN5, hc5, ho5, hF5, hS5⟩ := st_arr (f := 8) (t := (1, 8, 0)) hN4 hc4 ho4 hF4 (by simp)
  rw [eG, eI, eL]
  clear eG eI eL
  have hb5 : b < Γ5.1 := ho5.1
  refine aw_aload_n dX5_init_44 rfl ?_
  refine aw_iconst dX5_init_45 ci_4 ?_
  refine aw_newq (n := 4) (b := 0) dX5_init_46 cl_X5_28 rfl (by decide) (by decide) (by decide) (by decide) (okL1 hb5) (okS1 hb5) ?_
  refine aw_putR dX5_init_49 p_X5_30 (ob_new ho5) rfl (Nat.lt_succ_self _) rfl (fun _ => rfl) (fun _ => rfl) ?_
  obtain ⟨Γ6, I6, L6, eG, eI, eL, hN6, hc6, ho6, hF6, hS6⟩ := st_arr (f := 9) (t := (6, 4, 0)) hN5 hc5 ho5 hF5 (by simp)
  rw [eG, eI, eL]
  clear eG eI eL
  have hb6 : b < Γ6.1 := ho6.1
  refine aw_aload_n dX5_init_52 rfl ?_
  refine aw_new (ci := 6) (N := 8) (C := RX6) (T := TX6) dX5_init_53 rfl cl_X5_34 mk_X6 n_X6 (okL1 hb6) (okS1 hb6) ?_
  refine aw_dup dX5_init_56 rfl ?_
  refine aw_callIN (as := []) (b := Γ6.1) (rst := [.ref Γ6.1, .ref (b)]) dX5_init_57 k_X6_init ln_X5_36 i_X6_init rfl rfl rfl rfl (Nat.le_of_ble_eq_true rfl) (cX6 (d := d + 1) (b := Γ6.1) (ob_at 6) rfl) (okL1 (Nat.lt_succ_of_lt hb6)) (okS2 (Nat.lt_succ_self _) (Nat.lt_succ_of_lt hb6)) (fun v G6 J6 M6 hq => ?_) (fun E _ _ _ hq => nomatch hq.1)
  obtain ⟨hv, hq2, hq3, hq4⟩ := hq
  obtain rfl : v = none := Sum.inl.inj hv
  obtain ⟨hM6, hoM6, hFM6, hlt6, htM6, hSM6⟩ := st_sub hN6 ho6 hF6 hq2
  refine aw_putR dX5_init_60 p_X5_37 hoM6 rfl hlt6 rfl (fun _ => rfl) (fun _ => rfl) ?_
  obtain ⟨Γ7, eG, hN7, hd7, ho7, hF7, hS7⟩ := st_put (f := 10) (r := Γ6.1) (t := (0, 6, 0)) hM6 hoM6 hFM6 (by simp) hlt6 htM6
  rw [eG]
  clear eG
  have hc7 : Γ7.1 = b + 8 := by omega
  rw [hc6] at hF7
  obtain ⟨I7, eI⟩ : ∃ I7, I7 = J6 := ⟨_, rfl⟩
  obtain ⟨L7, eL⟩ : ∃ L7, L7 = M6 := ⟨_, rfl⟩
  rw [← eI, ← eL]
  rw [← eI, ← eL] at hN7 hS7 hSM6
  have hb7 : b < Γ7.1 := ho7.1
  have hT7 := hSM6.trb hS7
  refine aw_iconst dX5_init_63 ci_0 ?_
  refine aw_istore_n (ls' := [(0, .ref b), (1, .int (nn 0))]) dX5_init_64 (by decide) rfl ?_
  refine aw_less (bc' := (4 - 0) * 7) (bs' := (4 - 0) * 79) (by decide) (by decide) ?_
  have key := nn_loop (fun k => ∀ (G : am_G) (J : am_I) (M : am_L), nwR Γ G I J L M b → G.1 = b + (8 + 7 * k) → am_ob G b 5 → fcs G b [(10, b + 7, (0, 6, 0)), (9, b + 6, (6, 4, 0)), (8, b + 5, (1, 8, 0)), (7, b + 4, (4, 8, 0)), (6, b + 3, (1, 6, 0)), (5, b + 2, (1, 6, 0)), (4, b + 1, (4, 6, 0))] → (∀ g, g < k → G.2.2 (b + 6) g = some (gc b g) ∧ gaF G (gc b g)) → am_W m_X5_init (d + 3) 35 362 true ((4 - k) * 7) ((4 - k) * 79) 65 [(0, .ref b), (1, .int (nn k))] [] G J M (fun o2 Γ' I' L' => o2 = .inl none ∧ nwR Γ Γ' I I' L L' b ∧ Γ'.1 = b + 36 ∧ stF Γ' b)) 4 ?_ (fun k hk ih => ?_)
  · exact key Γ7 I7 L7 hN7 (by rw [hc7]) ho7 hF7 (fun g hg => absurd hg (Nat.not_lt_zero g))
  · intro G J M n0 n1 n2 n3 n4
    refine bX5_init_65 (fun _ => bX5_init_89 ?_) (fun h => absurd (by rw [nl_4, nn_le (by omega) (by omega)]; omega) h)
    exact ⟨rfl, n0, by omega, n2, (n3 (4, b + 1, (4, 6, 0)) (by simp)).2.2, (n3 (5, b + 2, (1, 6, 0)) (by simp)).2.2, (n3 (6, b + 3, (1, 6, 0)) (by simp)).2.2, (n3 (7, b + 4, (4, 8, 0)) (by simp)).2.2, (n3 (8, b + 5, (1, 8, 0)) (by simp)).2.2, (n3 (9, b + 6, (6, 4, 0)) (by simp)).2.2, (n3 (10, b + 7, (0, 6, 0)) (by simp)).2.2, ⟨(n3 (4, b + 1, (4, 6, 0)) (by simp)).1, (n3 (4, b + 1, (4, 6, 0)) (by simp)).2.1⟩, ⟨(n3 (5, b + 2, (1, 6, 0)) (by simp)).1, (n3 (5, b + 2, (1, 6, 0)) (by simp)).2.1⟩, ⟨(n3 (6, b + 3, (1, 6, 0)) (by simp)).1, (n3 (6, b + 3, (1, 6, 0)) (by simp)).2.1⟩, ⟨(n3 (7, b + 4, (4, 8, 0)) (by simp)).1, (n3 (7, b + 4, (4, 8, 0)) (by simp)).2.1⟩, ⟨(n3 (8, b + 5, (1, 8, 0)) (by simp)).1, (n3 (8, b + 5, (1, 8, 0)) (by simp)).2.1⟩, ⟨(n3 (9, b + 6, (6, 4, 0)) (by simp)).1, (n3 (9, b + 6, (6, 4, 0)) (by simp)).2.1⟩, ⟨(n3 (10, b + 7, (0, 6, 0)) (by simp)).1, (n3 (10, b + 7, (0, 6, 0)) (by simp)).2.1⟩, n4⟩
  · intro G J M n0 n1 n2 n3 n4
    refine bX5_init_65 (fun h => absurd h (by rw [nl_4, nn_le (by omega) (by omega)]; omega)) (fun _ => ?_)
    have fb : b < G.1 := n2.1
    have q6 := n3 (9, b + 6, (6, 4, 0)) (by simp)
    refine aw_less (bc' := (4 - (k + 1)) * 7 + 6 + 1) (bs' := (4 - (k + 1)) * 79 + 73 + 6) (by omega) (by omega) ?_
    refine aw_aload_n dX5_init_70 rfl ?_
    refine aw_getR dX5_init_71 f_X5_30 n2 rfl q6.2.2 ?_
    refine aw_iload_n dX5_init_74 rfl ?_
    refine aw_new (ci := 0) (N := 6) (C := RX0) (T := TX0) dX5_init_75 rfl cl_X5_28 mk_X0 n_X0 (okL2 fb) (okS2i q6.1) ?_
    refine aw_dup dX5_init_78 rfl ?_
    refine aw_callIN (as := []) (b := G.1) (rst := [.ref G.1, .int (nn k), .ref (b + 6)]) dX5_init_79 k_X0_init ln_X5_41 i_X0_init rfl rfl rfl rfl (Nat.le_of_ble_eq_true rfl) (cX0 (d := d) (b := G.1) (ob_at 0) rfl) (okL2 (Nat.lt_succ_of_lt fb)) (okS3i (Nat.lt_succ_self _) (Nat.lt_succ_of_lt q6.1)) (fun v G1 J1 M1 hq => ?_) (fun E _ _ _ hq => nomatch hq.1)
    obtain ⟨hv, hq2, hq3, hq4⟩ := hq
    obtain rfl : v = none := Sum.inl.inj hv
    obtain ⟨G2, eG, e1, e2, e3, e4, e5, e6, e7, e8, e9, e10, e11⟩ := st_el (i := k) (a := b + 6) n0 n2 n3 hq2 (by omega) q6.1 (by omega)
    refine aw_aast (ci := 0) dX5_init_82 (n := 4) (b := 0) ⟨Nat.lt_of_lt_of_le q6.1 e11.1, (e11.2.1 _ q6.1).1.trans q6.2.1⟩ (nn_in (by omega) hk) ⟨e9, e10⟩ ?_
    rw [nn_nat (by omega), eG]
    refine aw_iinc (ls' := [(0, .ref b), (1, .int (nn (k + 1)))]) dX5_init_83 rfl ((cn_1 _).trans (nn_s1 k)) (by decide) rfl ?_
    refine aw_goto (tgt := 65) dX5_init_86 (by decide) ?_
    have hq5 : gaF G1 (gc b k) := by rw [show gc b k = G.1 from n1.symm]; exact hq4
    refine ih G2 J1 M1 e1 (by omega) e3 e4 (fun g hg => ?_)
    by_cases hgk : g = k
    · subst hgk
      exact ⟨e7.trans (congrArg some n1), hq5.keep e6 (by simp only [gc]; omega)⟩
    · obtain ⟨y1, y2⟩ := n4 g (by omega)
      exact ⟨(e8 g hgk).trans y1, y2.keep e5 (by simp only [gc]; omega)⟩
theorem cX1 (o : am_ob Γ b 1) (h1 : Γ.1 = b + 1) : am_C m_X1_init (d + 4) 289 2992 true [.ref b] Γ I L (fun o2 Γ' I' L' => o2 = .inl none ∧ nwR Γ Γ' I I' L L' b ∧ Γ'.1 = b + 290 ∧ hiF Γ' b) := by
  refine am_of rfl rfl rfl (Nat.le_of_ble_eq_true rfl) ?_
  have hb0 : b < Γ.1 := o.1
  have hN0 : nwR Γ Γ I I L L (b) := nwR.rf
  have hF0 : fcs Γ (b) [] := fun q hq => nomatch hq
  have ho0 := o
  have hc0 := h1
  refine aw_aload_n dX1_init_0 rfl ?_
  refine aw_obj dX1_init_1 (am_t2 57 rfl rfl) ow_i ow_c (Nat.le_of_ble_eq_true rfl) ?_
  refine aw_aload_n dX1_init_4 rfl ?_
  refine aw_bipush dX1_init_5 cb_8 ?_
  refine aw_newq (n := 8) (b := 5) dX1_init_7 cl_X1_9 rfl (by decide) (by decide) (by decide) (by decide) (okL1 hb0) (okS1 hb0) ?_
  refine aw_putR dX1_init_10 p_X1_11 (ob_new ho0) rfl (Nat.lt_succ_self _) rfl (fun _ => rfl) (fun _ => rfl) ?_
  obtain ⟨Γ1, I1, L1, eG, eI, eL, hN1, hc1, ho1, hF1, hS1⟩ := st_arr (f := 0) (t := (6, 8, 5)) hN0 hc0 ho0 hF0 (by simp)
  rw [eG, eI, eL]
  clear eG eI eL
  have hb1 : b < Γ1.1 := ho1.1
  refine aw_iconst dX1_init_13 ci_0 ?_
  refine aw_istore_n (ls' := [(0, .ref b), (1, .int (nn 0))]) dX1_init_14 (by decide) rfl ?_
  refine aw_less (bc' := (8 - 0) * 36) (bs' := (8 - 0) * 373) (by decide) (by decide) ?_
  have key := nn_loop (fun k => ∀ (G : am_G) (J : am_I) (M : am_L), nwR Γ G I J L M b → G.1 = b + (2 + 36 * k) → am_ob G b 1 → fcs G b [(0, b + 1, (6, 8, 5))] → (∀ i, i < k → G.2.2 (b + 1) i = some (hs b i) ∧ stF G (hs b i)) → am_W m_X1_init (d + 4) 289 2992 true ((8 - k) * 36) ((8 - k) * 373) 15 [(0, .ref b), (1, .int (nn k))] [] G J M (fun o2 Γ' I' L' => o2 = .inl none ∧ nwR Γ Γ' I I' L L' b ∧ Γ'.1 = b + 290 ∧ hiF Γ' b)) 8 ?_ (fun k hk ih => ?_)
  · exact key Γ1 I1 L1 hN1 (by rw [hc1]) ho1 hF1 (fun g hg => absurd hg (Nat.not_lt_zero g))
  · intro G J M n0 n1 n2 n3 n4
    have q6 := n3 (0, b + 1, (6, 8, 5)) (by simp)
    refine bX1_init_15 (fun _ => bX1_init_40 ?_) (fun h => absurd (by rw [nl_8, nn_le (by omega) (by omega)]; omega) h)
    exact ⟨rfl, n0, by omega, n2, q6.2.2, ⟨q6.1, q6.2.1⟩, n4⟩
  · intro G J M n0 n1 n2 n3 n4
    refine bX1_init_15 (fun h => absurd h (by rw [nl_8, nn_le (by omega) (by omega)]; omega)) (fun _ => ?_)
    have fb : b < G.1 := n2.1
    have q6 := n3 (0, b + 1, (6, 8, 5)) (by simp)
    refine aw_less (bc' := (8 - (k + 1)) * 36 + 35 + 1) (bs' := (8 - (k + 1)) * 373 + 362 + 11) (by omega) (by omega) ?_
    refine aw_aload_n dX1_init_21 rfl ?_
    refine aw_getR dX1_init_22 f_X1_11 n2 rfl q6.2.2 ?_
    refine aw_iload_n dX1_init_25 rfl ?_
    refine aw_new (ci := 5) (N := 11) (C := RX5) (T := TX5) dX1_init_26 rfl cl_X1_9 mk_X5 n_X5 (okL2 fb) (okS2i q6.1) ?_
    refine aw_dup dX1_init_29 rfl ?_
    refine aw_callI (as := []) (b := G.1) (rst := [.ref G.1, .int (nn k), .ref (b + 1)]) dX1_init_30 k_X5_init l_X1_17 i_X5_init rfl rfl rfl rfl (Nat.le_of_ble_eq_true rfl) (cX5 (d := d) (b := G.1) (ob_at 5) rfl) (okL2 (Nat.lt_succ_of_lt fb)) (okS3i (Nat.lt_succ_self _) (Nat.lt_succ_of_lt q6.1)) (fun v G1 J1 M1 hq => ?_) (fun E _ _ _ hq => nomatch hq.1)
    obtain ⟨hv, hq2, hq3, hq4⟩ := hq
    obtain rfl : v = none := Sum.inl.inj hv
    obtain ⟨G2, eG, e1, e2, e3, e4, e5, e6, e7, e8, e9, e10, e11⟩ := st_el (i := k) (a := b + 1) n0 n2 n3 hq2 (by omega) q6.1 (by omega)
    refine aw_aast (ci := 0) dX1_init_33 (n := 8) (b := 5) ⟨Nat.lt_of_lt_of_le q6.1 e11.1, (e11.2.1 _ q6.1).1.trans q6.2.1⟩ (nn_in (by omega) hk) ⟨e9, e10⟩ ?_
    rw [nn_nat (by omega), eG]
    refine aw_iinc (ls' := [(0, .ref b), (1, .int (nn (k + 1)))]) dX1_init_34 rfl ((cn_1 _).trans (nn_s1 k)) (by decide) rfl ?_
    refine aw_goto (tgt := 15) dX1_init_37 (by decide) ?_
    have hq5 : stF G1 (hs b k) := by rw [show hs b k = G.1 from n1.symm]; exact hq4
    refine ih G2 J1 M1 e1 (by omega) e3 e4 (fun g hg => ?_)
    by_cases hgk : g = k
    · subst hgk
      exact ⟨e7.trans (congrArg some n1), hq5.keep e6 (by simp only [hs]; omega)⟩
    · obtain ⟨y1, y2⟩ := n4 g (by omega)
      exact ⟨(e8 g hgk).trans y1, y2.keep e5 (by simp only [hs]; omega)⟩
theorem okL3 {v0 v1 v2 : Nat} (h : v0 < Γ.1) (h1 : v1 < Γ.1) (h2 : v2 < Γ.1) : ∀ z ∈ [((0 : Nat), Value.ref v0), (1, Value.ref v1), (2, Value.ref v2)], am_ok Γ z.2 := fun z hz => by
  rcases List.mem_cons.mp hz with rfl | hz
  · exact h
  · rcases List.mem_cons.mp hz with rfl | hz
    · exact h1
    · rcases List.mem_cons.mp hz with rfl | hz
      · exact h2
      · exact nomatch hz
theorem cX3 {st so : Nat} (o : am_ob Γ b 3) (h1 : Γ.1 = b + 1) (o5 : am_ob Γ st 5) (o4 : am_ob Γ so 4) : am_C m_X3_init (d + 1) 1 700 true [.ref b, .ref st, .ref so] Γ I L (fun o2 Γ' I' L' => o2 = .inl none ∧ ∃ J, I' = am_u J b 3 (-1) ∧ nwR Γ Γ' I J L L' b ∧ Γ'.1 = b + 2 ∧ am_ob Γ' b 3 ∧ fcs Γ' b [(6, so, (0, 4, 0)), (5, st, (0, 5, 0)), (0, b + 1, (2, 700, 0))]) := by
  refine am_of rfl rfl rfl (Nat.le_of_ble_eq_true rfl) ?_
  have hb0 : b < Γ.1 := o.1
  have hN0 : nwR Γ Γ I I L L b := nwR.rf
  have hF0 : fcs Γ b [] := fun q hq => nomatch hq
  refine aw_aload_n dX3_init_0 rfl ?_
  refine aw_obj dX3_init_1 (am_t2 12 rfl rfl) ow_i ow_c (Nat.le_of_ble_eq_true rfl) ?_
  refine aw_aload_n dX3_init_4 rfl ?_
  refine aw_sipush dX3_init_5 cs_700 ?_
  refine aw_newB (n := 700) dX3_init_8 ac_byte (by decide) (by decide) (by decide) (okL3 hb0 o5.1 o4.1) (okS1 hb0) ?_
  refine aw_putR dX3_init_10 p_X3_9 (ob_new o) rfl (Nat.lt_succ_self _) rfl (fun _ => rfl) (fun _ => rfl) ?_
  obtain ⟨Γ1, I1, L1, eG, eI, eL, hN1, hc1, ho1, hF1, hS1⟩ := st_arr (f := 0) (t := (2, 700, 0)) hN0 h1 o hF0 (by simp)
  rw [eG, eI, eL]
  clear eG eI eL
  have p5 := hS1.ob o5
  have p4 := hS1.ob o4
  refine aw_aload_n dX3_init_13 rfl ?_
  refine aw_iconst dX3_init_14 ci_m1 ?_
  refine aw_putI dX3_init_15 p_X3_15 ho1 rfl ?_
  refine aw_aload_n dX3_init_18 rfl ?_
  refine aw_aload_n dX3_init_19 rfl ?_
  refine aw_putR dX3_init_20 p_X3_19 ho1 rfl p5.1 rfl (fun _ => rfl) (fun _ => rfl) ?_
  obtain ⟨Γ2, eG, hN2, hd2, ho2, hF2, hS2⟩ := st_put (f := 5) (r := st) (t := (0, 5, 0)) hN1 ho1 hF1 (by simp) p5.1 p5.2
  rw [eG]
  clear eG
  have p4' := hS2.ob p4
  refine aw_aload_n dX3_init_23 rfl ?_
  refine aw_aload_n dX3_init_24 rfl ?_
  refine aw_putR dX3_init_25 p_X3_23 ho2 rfl p4'.1 rfl (fun _ => rfl) (fun _ => rfl) ?_
  obtain ⟨Γ3, eG, hN3, hd3, ho3, hF3, hS3⟩ := st_put (f := 6) (r := so) (t := (0, 4, 0)) hN2 ho2 hF2 (by simp) p4'.1 p4'.2
  rw [eG]
  clear eG
  exact aw_vret dX3_init_28 rfl ⟨rfl, I1, rfl, hN3, by rw [hd3, hd2, hc1], ho3, hF3⟩
end MK2
