/-! THE JDK: numbers and texts are appended; a builder is made of a text -/
section JT
variable {d N : Nat} {Γ : am_G} {I : am_I} {L : am_L} {b q : Nat} {t : List Nat}
theorem eB_appendI (h : sbC N Γ I b t.length t) (hN : N ≤ Γ.1) (ht : t.length < 600) {c : Nat} (hc : c < 100) : am_C m_J5_append_c97b9 (d + 3) 1 1300 true [.ref b, .int (nn c)] Γ I L (apQ N b (t ++ dig c) Γ I L) := by
  obtain ⟨v0, m0, g1, g2, g3, o0, g4, a0, g5, g6, g7, g8, g9, g10, g11, g12⟩ := id h
  have hd : (dig c).length ≤ 2 := by rw [dig_len]; split <;> omega
  refine am_of rfl rfl rfl (Nat.le_of_ble_eq_true rfl) ?_
  refine aw_aload_n dJ5_append_c97b9_0 rfl ?_
  refine aw_getI dJ5_append_c97b9_1 f_J5_79 o0 rfl ?_
  rw [g9]
  refine aw_istore_n (ls' := [(0, .ref b), (1, .int (nn c)), (2, .int (nn t.length))]) dJ5_append_c97b9_4 (Nat.le_of_ble_eq_true rfl) rfl ?_
  refine aw_iload_n dJ5_append_c97b9_5 rfl ?_
  refine aw_iload_n dJ5_append_c97b9_6 rfl ?_
  refine aw_askS (as := [.int (nn c)]) (rst := [.int (nn t.length)]) k_J6_stringSize_0f7a4 l_J5_245 t_J6_stringSize_0f7a4 dJ5_append_c97b9_7 rfl (Nat.le_of_ble_eq_true rfl) (Nat.zero_le _) (Nat.zero_le _) (eJ6_stringSize hc) rfl rfl ?_
  refine aw_iadd dJ5_append_c97b9_10 ?_
  rw [nn_add]
  refine aw_istore_n (ls' := [(0, .ref b), (1, .int (nn c)), (2, .int (nn t.length)), (3, .int (nn (t.length + (dig c).length)))]) dJ5_append_c97b9_11 (Nat.le_of_ble_eq_true rfl) rfl ?_
  refine aw_aload_n dJ5_append_c97b9_12 rfl ?_
  refine aw_iload_n dJ5_append_c97b9_13 rfl ?_
  refine aw_grB (ci := 10) (mc' := 1) (ms' := 1300) (as := [.int (nn (t.length + (dig c).length))]) (rst := []) k_J5_ensureCapacityInternal_d00df l_J5_100 i_J5_ensureCapacityInternal_d00df sj_ensureCapacityInternal rfl rfl o0 dJ5_append_c97b9_14 rfl (Nat.le_of_ble_eq_true rfl) (Nat.le_refl _) (Nat.le_refl _) (eB_ensure h hN (show t.length + (dig c).length ≤ 640 by omega)) rfl (okl_c o0.1 (okl_c trivial (okl_c trivial (okl_c trivial okl_nil)))) oks_nil (fun _ _ _ _ z => nomatch z.1) ?_
  rintro w G J M ⟨e1, kp, v, m, h1, h2, h3, o, h4, a, h5, h6, h7, h8, h9, h10, h11, h12⟩
  cases e1
  obtain ⟨J2, hE, j1, j2, j3⟩ := eJ6_getChars (d := d + 2) (I := J) (L := M) (n := t.length) hc a h5 h6
  refine aw_aload_n dJ5_append_c97b9_17 rfl ?_
  refine aw_askB (ci := 10) (as := []) (rst := []) k_J5_isLatin1_aae02 l_J5_83 i_J5_isLatin1_aae02 sl_isLatin1 rfl rfl o dJ5_append_c97b9_18 rfl (Nat.le_of_ble_eq_true rfl) (Nat.zero_le _) (Nat.zero_le _) (eB_isLatin1 o h8) rfl rfl ?_
  refine aw_if_eq dJ5_append_c97b9_21 rfl (fun z => absurd z (by decide)) (fun _ => ?_)
  refine aw_iload_n dJ5_append_c97b9_24 rfl ?_
  refine aw_iload_n dJ5_append_c97b9_25 rfl ?_
  refine aw_aload_n dJ5_append_c97b9_26 rfl ?_
  refine aw_getR dJ5_append_c97b9_27 f_J5_15 o rfl h4 ?_
  refine aw_askS (as := [.int (nn c), .int (nn (t.length + (dig c).length)), .ref v]) (rst := []) k_J6_getChars_ba4f3 l_J5_248 t_J6_getChars_ba4f3 dJ5_append_c97b9_30 rfl (Nat.le_of_ble_eq_true rfl) (Nat.zero_le _) (Nat.zero_le _) hE rfl rfl ?_
  refine aw_pop dJ5_append_c97b9_33 rfl ?_
  refine aw_goto dJ5_append_c97b9_34 rfl ?_
  refine aw_aload_n dJ5_append_c97b9_48 rfl ?_
  refine aw_iload_n dJ5_append_c97b9_49 rfl ?_
  refine aw_putI dJ5_append_c97b9_50 p_J5_79 o rfl ?_
  refine aw_aload_n dJ5_append_c97b9_53 rfl ?_
  have tl : (t ++ dig c).length = t.length + (dig c).length := List.length_append
  refine aw_aret dJ5_append_c97b9_54 rfl (Or.inl ⟨_, rfl⟩) ⟨rfl, kp.tr ⟨Nat.le_refl _, fun k hk => ⟨rfl, rfl, ?_, rfl⟩⟩, v, m, h1, h2, h3, o, h4, a, by omega, h6, by omega, ?_, ?_, asc_app h10 (dig_asc hc), fun j hj => ?_, fun j hj => ?_⟩
  · rw [am_u_ne (by omega), j1 k (by omega)]
  · rw [am_u_at, if_neg (fun z => absurd z.2 (by decide)), j1 b (Ne.symm h3)]; exact h8
  · rw [am_u_at, if_pos ⟨rfl, rfl⟩, tl]
  · rw [am_u_ne h3]
    by_cases e : j < t.length
    · rw [j2 j (Or.inl e), tb_l e]
      exact h11 j e
    · rw [tb_r (by omega), ← j3 (j - t.length) (by omega), show t.length + (j - t.length) = j by omega]
  · rw [am_u_ne h3]
    by_cases e : j < t.length ∨ t.length + (dig c).length ≤ j
    · rw [j2 j e]; exact h12 j hj
    · have ej := j3 (j - t.length) (by omega)
      rw [show t.length + (j - t.length) = j by omega] at ej
      rw [ej]
      exact fitb_n _ (tb_asc (dig_asc hc) _)
theorem eB4_appendI (h : sbC N Γ I b t.length t) (hN : N ≤ Γ.1) (ht : t.length < 600) {c : Nat} (hc : c < 100) : am_C m_J4_append_bf812 (d + 4) 1 1300 true [.ref b, .int (nn c)] Γ I L (apQ N b (t ++ dig c) Γ I L) := by
  have o0 : am_ob Γ b 10 := h.choose_spec.choose_spec.2.2.2.1
  refine am_of rfl rfl rfl (Nat.le_of_ble_eq_true rfl) ?_
  refine aw_aload_n dJ4_append_bf812_0 rfl ?_
  refine aw_iload_n dJ4_append_bf812_1 rfl ?_
  refine aw_grSU (ci := 10) (mc' := 1) (ms' := 1300) (as := [.int (nn c)]) (rst := []) k_J5_append_c97b9 l_J4_53 sm_appI su_sb i_J5_append_c97b9 (by decide) rfl o0 dJ4_append_bf812_2 rfl (Nat.le_of_ble_eq_true rfl) (Nat.le_refl _) (Nat.le_refl _) (eB_appendI h hN ht hc) rfl (okl_c o0.1 (okl_c trivial okl_nil)) oks_nil (fun _ _ _ _ z => nomatch z.1) ?_
  rintro w G J M ⟨e1, kp, h2⟩
  cases e1
  refine aw_pop dJ4_append_bf812_5 rfl ?_
  refine aw_aload_n dJ4_append_bf812_6 rfl ?_
  exact aw_aret dJ4_append_bf812_7 rfl (Or.inl ⟨_, rfl⟩) ⟨rfl, kp, h2⟩
theorem eB_inflateIf (o : am_ob Γ b 10) (h : I b 1 = 0) {i : Nat} (hi : i < am_sn) : am_E m_J5_inflateIfNeededFor_a7421 (d + 1) 0 0 [.ref b, .retAddr i] Γ I L (.inl none) I L := by
  refine am_ofE rfl rfl rfl (Nat.le_of_ble_eq_true rfl) ?_
  refine aw_getsC dJ5_inflateIfNeededFor_a7421_0 fJ5_compact ?_
  refine aw_if_eq dJ5_inflateIfNeededFor_a7421_3 rfl (fun z => absurd z (by decide)) (fun _ => ?_)
  refine aw_aload_n dJ5_inflateIfNeededFor_a7421_6 rfl ?_
  refine aw_getI dJ5_inflateIfNeededFor_a7421_7 f_J5_22 o rfl ?_
  rw [h]
  refine aw_aload_nT dJ5_inflateIfNeededFor_a7421_10 rfl ?_
  refine aw_askT (as := []) (rst := [.int 0]) k_J0_coder_7d493 l_J5_40 i_J0_coder_7d493 s_J0_coder_7d493 rfl hi dJ5_inflateIfNeededFor_a7421_11 rfl (Nat.le_of_ble_eq_true rfl) (Nat.zero_le _) (Nat.zero_le _) (eJ0_coder hi) rfl rfl ?_
  refine aw_icmp_eq dJ5_inflateIfNeededFor_a7421_14 rfl (fun _ => ?_) (fun z => absurd rfl z)
  exact aw_vret dJ5_inflateIfNeededFor_a7421_21 rfl ⟨rfl, rfl, rfl⟩
theorem eT_getBytes {i v n m : Nat} (hi : i < am_sn) (a : am_ar Γ v 2 m 0) (hn : n + tlen i ≤ m) (hm : m ≤ 1300) : am_E m_J0_getBytes_840e7 (d + 1) 0 0 [.retAddr i, .ref v, .int (nn n), .int 0] Γ I L (.inl none) (am_cT I i v 0 n (tlen i)) L := by
  have s0 : nn n <<< (0 &&& 31) = nn n := (nn_shl (t := 0) (by decide)).trans (by rw [Nat.pow_zero, Nat.mul_one])
  refine am_ofE rfl rfl rfl (Nat.le_of_ble_eq_true rfl) ?_
  refine aw_aload_nT dJ0_getBytes_840e7_0 rfl ?_
  refine aw_askT (as := []) (rst := []) k_J0_coder_7d493 l_J0_335 i_J0_coder_7d493 s_J0_coder_7d493 rfl hi dJ0_getBytes_840e7_1 rfl (Nat.le_of_ble_eq_true rfl) (Nat.zero_le _) (Nat.zero_le _) (eJ0_coder hi) rfl rfl ?_
  refine aw_iload_n dJ0_getBytes_840e7_4 rfl ?_
  refine aw_icmp_ne dJ0_getBytes_840e7_5 rfl (fun z => absurd rfl z) (fun _ => ?_)
  refine aw_aload_nT dJ0_getBytes_840e7_8 rfl ?_
  refine aw_getTV dJ0_getBytes_840e7_9 fJ0_value hi ?_
  refine aw_iconst dJ0_getBytes_840e7_12 ci_0 ?_
  refine aw_aload_n dJ0_getBytes_840e7_13 rfl ?_
  refine aw_iload_n dJ0_getBytes_840e7_14 rfl ?_
  refine aw_iload_n dJ0_getBytes_840e7_15 rfl ?_
  refine aw_ishl dJ0_getBytes_840e7_16 ?_
  rw [s0]
  refine aw_aload_nT dJ0_getBytes_840e7_17 rfl ?_
  refine aw_getTV dJ0_getBytes_840e7_18 fJ0_value hi ?_
  refine aw_lenT dJ0_getBytes_840e7_21 hi (v := nn (tlen i)) rfl ?_
  have ht := tlen_lt i hi
  refine aw_copyT dJ0_getBytes_840e7_22 sk_J0_212 hi a (by decide) (nn_neg_lt (by omega)) (nn_neg_lt (by omega)) (by rw [nn_nat (by omega)]; show 0 + tlen i ≤ tlen i; omega) (by rw [nn_nat (by omega), nn_nat (by omega)]; exact hn) (fun j hj => ?_) (Nat.le_of_ble_eq_true rfl) ?_
  · rw [nn_nat (by omega)] at hj
    obtain ⟨x1, x2⟩ := tl_at hi hj
    show fits .byte (.int ((am_sb.getD i []).getD (0 + j) 0)) = true
    rw [Nat.zero_add]
    have e : (am_sb.getD i []).getD j 0 = nn (tb (tl i) j) := x1
    rw [e]
    exact fitb_n _ x2
  refine aw_goto dJ0_getBytes_840e7_25 rfl ?_
  refine aw_vret dJ0_getBytes_840e7_43 rfl ⟨rfl, ?_, rfl⟩
  rw [nn_nat (by omega), nn_nat (by omega)]
  rfl
theorem eB_putStringAt {i v m : Nat} (hi : i < am_sn) (o : am_ob Γ b 10) (h4 : Γ.2.2 b 0 = some v) (h8 : I b 1 = 0) (a : am_ar Γ v 2 m 0) {n : Nat} (hn : n + tlen i ≤ m) (hm : m ≤ 1300) : am_E m_J5_putStringAt_47b60 (d + 2) 0 0 [.ref b, .int (nn n), .retAddr i] Γ I L (.inl none) (am_cT I i v 0 n (tlen i)) L := by
  refine am_ofE rfl rfl rfl (Nat.le_of_ble_eq_true rfl) ?_
  refine aw_aload_n dJ5_putStringAt_47b60_0 rfl ?_
  refine aw_aload_nT dJ5_putStringAt_47b60_1 rfl ?_
  refine aw_askB (ci := 10) (as := [.retAddr i]) (rst := []) k_J5_inflateIfNeededFor_a7421 l_J5_397 i_J5_inflateIfNeededFor_a7421 sj_inflateIfNeededFor rfl rfl o dJ5_putStringAt_47b60_2 rfl (Nat.le_of_ble_eq_true rfl) (Nat.zero_le _) (Nat.zero_le _) (eB_inflateIf o h8 hi) rfl rfl ?_
  refine aw_aload_nT dJ5_putStringAt_47b60_5 rfl ?_
  refine aw_aload_n dJ5_putStringAt_47b60_6 rfl ?_
  refine aw_getR dJ5_putStringAt_47b60_7 f_J5_15 o rfl h4 ?_
  refine aw_iload_n dJ5_putStringAt_47b60_10 rfl ?_
  refine aw_aload_n dJ5_putStringAt_47b60_11 rfl ?_
  refine aw_getI dJ5_putStringAt_47b60_12 f_J5_22 o rfl ?_
  rw [h8]
  refine aw_askT (as := [.ref v, .int (nn n), .int 0]) (rst := []) k_J0_getBytes_840e7 l_J5_399 i_J0_getBytes_840e7 s_J0_getBytes_840e7 rfl hi dJ5_putStringAt_47b60_15 rfl (Nat.le_of_ble_eq_true rfl) (Nat.zero_le _) (Nat.zero_le _) (eT_getBytes hi a hn hm) rfl rfl ?_
  exact aw_vret dJ5_putStringAt_47b60_18 rfl ⟨rfl, rfl, rfl⟩
theorem eB_appendS (h : sbC N Γ I b t.length t) (hN : N ≤ Γ.1) (ht : t.length < 600) {i : Nat} (hi : i < am_sn) (hi2 : tlen i ≤ 40) : am_C m_J5_append_cf1ce (d + 3) 1 1300 true [.ref b, .retAddr i] Γ I L (apQ N b (t ++ tl i) Γ I L) := by
  obtain ⟨v0, m0, g1, g2, g3, o0, g4, a0, g5, g6, g7, g8, g9, g10, g11, g12⟩ := id h
  have hl := tl_len hi
  refine am_of rfl rfl rfl (Nat.le_of_ble_eq_true rfl) ?_
  refine aw_aload_nT dJ5_append_cf1ce_0 rfl ?_
  refine aw_nnulT dJ5_append_cf1ce_1 rfl ?_
  refine aw_aload_nT dJ5_append_cf1ce_9 rfl ?_
  refine aw_askT (as := []) (rst := []) k_J0_length_8abf5 l_J5_32 i_J0_length_8abf5 s_J0_length_8abf5 rfl hi dJ5_append_cf1ce_10 rfl (Nat.le_of_ble_eq_true rfl) (Nat.zero_le _) (Nat.zero_le _) (eJ0_length hi) rfl rfl ?_
  refine aw_istore_n (ls' := [(0, .ref b), (1, .retAddr i), (2, .int (nn (tlen i)))]) dJ5_append_cf1ce_13 (Nat.le_of_ble_eq_true rfl) rfl ?_
  refine aw_aload_n dJ5_append_cf1ce_14 rfl ?_
  refine aw_aload_n dJ5_append_cf1ce_15 rfl ?_
  refine aw_getI dJ5_append_cf1ce_16 f_J5_79 o0 rfl ?_
  rw [g9]
  refine aw_iload_n dJ5_append_cf1ce_19 rfl ?_
  refine aw_iadd dJ5_append_cf1ce_20 ?_
  rw [nn_add]
  refine aw_grB (ci := 10) (mc' := 1) (ms' := 1300) (as := [.int (nn (t.length + tlen i))]) (rst := []) k_J5_ensureCapacityInternal_d00df l_J5_100 i_J5_ensureCapacityInternal_d00df sj_ensureCapacityInternal rfl rfl o0 dJ5_append_cf1ce_21 rfl (Nat.le_of_ble_eq_true rfl) (Nat.le_refl _) (Nat.le_refl _) (eB_ensure h hN (show t.length + tlen i ≤ 640 by omega)) rfl (okl_c o0.1 (okl_c trivial (okl_c trivial okl_nil))) oks_nil (fun _ _ _ _ z => nomatch z.1) ?_
  rintro w G J M ⟨e1, kp, v, m, h1, h2, h3, o, h4, a, h5, h6, h7, h8, h9, h10, h11, h12⟩
  cases e1
  refine aw_aload_n dJ5_append_cf1ce_24 rfl ?_
  refine aw_aload_n dJ5_append_cf1ce_25 rfl ?_
  refine aw_getI dJ5_append_cf1ce_26 f_J5_79 o rfl ?_
  rw [h9]
  refine aw_aload_nT dJ5_append_cf1ce_29 rfl ?_
  refine aw_askB (ci := 10) (as := [.int (nn t.length), .retAddr i]) (rst := []) k_J5_putStringAt_47b60 l_J5_208 i_J5_putStringAt_47b60 sj_putStringAt rfl rfl o dJ5_append_cf1ce_30 rfl (Nat.le_of_ble_eq_true rfl) (Nat.zero_le _) (Nat.zero_le _) (eB_putStringAt hi o h4 h8 a h5 h6) rfl rfl ?_
  have jb : am_cT J i v 0 t.length (tlen i) b = J b := if_neg (Ne.symm h3)
  have jv : am_cT J i v 0 t.length (tlen i) v = va_cpy (fun j => (am_sb.getD i []).getD j 0) (J v) 0 t.length (tlen i) := if_pos rfl
  refine aw_aload_n dJ5_append_cf1ce_33 rfl ?_
  refine aw_dup dJ5_append_cf1ce_34 rfl ?_
  refine aw_getI dJ5_append_cf1ce_35 f_J5_79 o rfl ?_
  rw [jb, h9]
  refine aw_iload_n dJ5_append_cf1ce_38 rfl ?_
  refine aw_iadd dJ5_append_cf1ce_39 ?_
  rw [nn_add]
  refine aw_putI dJ5_append_cf1ce_40 p_J5_79 o rfl ?_
  refine aw_aload_n dJ5_append_cf1ce_43 rfl ?_
  have tl' : (t ++ tl i).length = t.length + tlen i := by rw [List.length_append, hl]
  refine aw_aret dJ5_append_cf1ce_44 rfl (Or.inl ⟨_, rfl⟩) ⟨rfl, kp.tr ⟨Nat.le_refl _, fun k hk => ⟨rfl, rfl, ?_, rfl⟩⟩, v, m, h1, h2, h3, o, h4, a, by omega, h6, by omega, ?_, ?_, asc_app h10 (tl_asc hi), fun j hj => ?_, fun j hj => ?_⟩
  · rw [am_u_ne (by omega)]
    exact if_neg (by omega)
  · rw [am_u_at, if_neg (fun z => absurd z.2 (by decide)), jb]; exact h8
  · rw [am_u_at, if_pos ⟨rfl, rfl⟩, tl']
  · rw [am_u_ne h3, jv]
    by_cases e : j < t.length
    · rw [cpd_out (by omega), tb_l e]
      exact h11 j e
    · rw [cpd_in (by omega) (by omega), tb_r (by omega)]
      exact (tl_at hi (by omega)).1
  · rw [am_u_ne h3, jv]
    by_cases e : t.length ≤ j ∧ j < t.length + tlen i
    · obtain ⟨x1, x2⟩ := tl_at hi (j := j - t.length) (by omega)
      have ej : (am_sb.getD i []).getD (j - t.length) 0 = nn (tb (tl i) (j - t.length)) := x1
      rw [cpd_in e.1 e.2, ej]
      exact fitb_n _ x2
    · rw [cpd_out e]; exact h12 j hj
theorem eB4_appendS (h : sbC N Γ I b t.length t) (hN : N ≤ Γ.1) (ht : t.length < 600) {i : Nat} (hi : i < am_sn) (hi2 : tlen i ≤ 40) : am_C m_J4_append_15ec4 (d + 4) 1 1300 true [.ref b, .retAddr i] Γ I L (apQ N b (t ++ tl i) Γ I L) := by
  have o0 : am_ob Γ b 10 := h.choose_spec.choose_spec.2.2.2.1
  refine am_of rfl rfl rfl (Nat.le_of_ble_eq_true rfl) ?_
  refine aw_aload_n dJ4_append_15ec4_0 rfl ?_
  refine aw_aload_nT dJ4_append_15ec4_1 rfl ?_
  refine aw_grSU (ci := 10) (mc' := 1) (ms' := 1300) (as := [.retAddr i]) (rst := []) k_J5_append_cf1ce l_J4_29 sm_appS su_sb i_J5_append_cf1ce (by decide) rfl o0 dJ4_append_15ec4_2 rfl (Nat.le_of_ble_eq_true rfl) (Nat.le_refl _) (Nat.le_refl _) (eB_appendS h hN ht hi hi2) rfl (okl_c o0.1 (okl_c trivial okl_nil)) oks_nil (fun _ _ _ _ z => nomatch z.1) ?_
  rintro w G J M ⟨e1, kp, h2⟩
  cases e1
  refine aw_pop dJ4_append_15ec4_5 rfl ?_
  refine aw_aload_n dJ4_append_15ec4_6 rfl ?_
  exact aw_aret dJ4_append_15ec4_7 rfl (Or.inl ⟨_, rfl⟩) ⟨rfl, kp, h2⟩
theorem eB4_bridge (h : sbC N Γ I b t.length t) (hN : N ≤ Γ.1) (ht : t.length < 600) {i : Nat} (hi : i < am_sn) (hi2 : tlen i ≤ 40) : am_C m_J4_append_cf1ce (d + 5) 1 1300 true [.ref b, .retAddr i] Γ I L (apQ N b (t ++ tl i) Γ I L) := by
  have o0 : am_ob Γ b 10 := h.choose_spec.choose_spec.2.2.2.1
  refine am_of rfl rfl rfl (Nat.le_of_ble_eq_true rfl) ?_
  refine aw_aload_n dJ4_append_cf1ce_0 rfl ?_
  refine aw_aload_nT dJ4_append_cf1ce_1 rfl ?_
  refine aw_grB (ci := 10) (mc' := 1) (ms' := 1300) (as := [.retAddr i]) (rst := []) k_J4_append_15ec4 l_J4_23 i_J4_append_15ec4 s_J4_append_15ec4 rfl rfl o0 dJ4_append_cf1ce_2 rfl (Nat.le_of_ble_eq_true rfl) (Nat.le_refl _) (Nat.le_refl _) (eB4_appendS h hN ht hi hi2) rfl (okl_c o0.1 (okl_c trivial okl_nil)) oks_nil (fun _ _ _ _ z => nomatch z.1) ?_
  rintro w G J M ⟨e1, kp, h2⟩
  cases e1
  exact aw_aret dJ4_append_cf1ce_5 rfl (Or.inl ⟨_, rfl⟩) ⟨rfl, kp, h2⟩
end JT
