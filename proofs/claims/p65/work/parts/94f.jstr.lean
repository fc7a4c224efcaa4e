/-! THE JDK: toString -/
section JZ
variable {d N : Nat} {Γ : am_G} {I : am_I} {L : am_L} {b c : Nat} {t : List Nat}
theorem eJ0_initA (o : am_ob Γ c 9) (h1 : Γ.1 = c + 1) (hc : 450 ≤ c) (h : sbC N Γ I b t.length t) (ht : t.length ≤ 600) : am_C m_J0_init_db425 (d + 3) 1 1300 true [.ref c, .ref b, .null] Γ I L (fun o2 Γ' I' L' => o2 = .inl none ∧ kpN c Γ Γ' I I' L L' ∧ strS Γ' I' c t) := by
  obtain ⟨v, m, g1, g2, g3, ob, g4, a, g5, g6, g7, g8, g9, g10, g11, g12⟩ := id h
  have hc0 := o.1
  have hb0 := ob.1
  have hv0 := a.1
  have hvc : v ≠ c := fun z => by
    have e1 := a.2
    have e2 := o.2
    rw [z, e2] at e1
    cases e1
  have hbc : b ≠ c := fun z => by
    have e1 := ob.2
    have e2 := o.2
    rw [z, e2] at e1
    cases e1
  refine am_of rfl rfl rfl (Nat.le_of_ble_eq_true rfl) ?_
  refine aw_aload_n dJ0_init_db425_0 rfl ?_
  refine aw_obj dJ0_init_db425_1 ob_J0 ow_i ow_c (Nat.le_of_ble_eq_true rfl) ?_
  refine aw_aload_n dJ0_init_db425_4 rfl ?_
  refine aw_askB (ci := 10) (as := []) (rst := []) k_J5_getValue_6d5f1 l_J0_552 i_J5_getValue_6d5f1 sl_getValue rfl rfl ob dJ0_init_db425_5 rfl (Nat.le_of_ble_eq_true rfl) (Nat.zero_le _) (Nat.zero_le _) (eB_getValue ob g4) rfl rfl ?_
  refine aw_astore_n (ls' := [(0, .ref c), (1, .ref b), (2, .null), (3, .ref v)]) dJ0_init_db425_8 (Nat.le_of_ble_eq_true rfl) rfl ?_
  refine aw_aload_n dJ0_init_db425_9 rfl ?_
  refine aw_askU (ci := 10) (xn := m_J5_length_8abf5.1) (as := []) (rst := []) k_J4_length_8abf5 l_J0_549 sm_len i_J5_length_8abf5 k_J5_length_8abf5.1 (by decide +kernel) i_J4_length_8abf5 sl_length rfl rfl ob dJ0_init_db425_10 rfl (Nat.le_of_ble_eq_true rfl) (Nat.zero_le _) (Nat.zero_le _) (eB4_length ob g9) rfl rfl ?_
  refine aw_istore (ls' := [(0, .ref c), (1, .ref b), (2, .null), (3, .ref v), (4, .int (nn t.length))]) dJ0_init_db425_13 (Nat.le_of_ble_eq_true rfl) rfl ?_
  refine aw_aload_n dJ0_init_db425_15 rfl ?_
  refine aw_askB (ci := 10) (as := []) (rst := []) k_J5_isLatin1_aae02 l_J0_1047 i_J5_isLatin1_aae02 sl_isLatin1 rfl rfl ob dJ0_init_db425_16 rfl (Nat.le_of_ble_eq_true rfl) (Nat.zero_le _) (Nat.zero_le _) (eB_isLatin1 ob g8) rfl rfl ?_
  refine aw_if_eq dJ0_init_db425_19 rfl (fun z => absurd z (by decide)) (fun _ => ?_)
  refine aw_aload_n dJ0_init_db425_22 rfl ?_
  refine aw_iconst dJ0_init_db425_23 ci_0 ?_
  refine aw_putBF dJ0_init_db425_24 p_J0_15 o rfl rfl rfl rfl ?_
  obtain ⟨J, hJ⟩ : ∃ J, J = am_u I c 1 0 := ⟨_, rfl⟩
  rw [← hJ]
  have jn : ∀ k, k ≠ c → J k = I k := fun k hk => by rw [hJ, am_u_ne hk]
  refine aw_aload_n dJ0_init_db425_27 rfl ?_
  refine aw_aload_n dJ0_init_db425_28 rfl ?_
  refine aw_iconst dJ0_init_db425_29 ci_0 ?_
  refine aw_iload dJ0_init_db425_30 rfl ?_
  refine aw_grS (mc' := 1) (ms' := 1300) (as := [.ref v, .int 0, .int (nn t.length)]) (rst := [.ref c]) k_J7_copyOfRange_39247 l_J0_54 t_J7_copyOfRange_39247 dJ0_init_db425_32 rfl (Nat.le_of_ble_eq_true rfl) (Nat.le_refl _) (Nat.le_refl _) (eJ7_copyR (d := d) (I := J) a (fun j hj => by rw [jn v hvc]; exact g12 j hj) g7 g6) rfl (okl_c hc0 (okl_c hb0 (okl_c trivial (okl_c hv0 (okl_c trivial okl_nil))))) (oks_c hc0 oks_nil) (fun _ _ _ _ z => nomatch z.1) ?_
  rintro w G J2 M ⟨e1, x1, x2, x3, x4⟩
  cases e1
  have og : am_ob G c 9 := ⟨by omega, (x2.2 c hc0).1.trans o.2⟩
  refine aw_putR dJ0_init_db425_35 p_J0_9 og rfl (by omega) rfl (fun _ => rfl) (fun _ => rfl) ?_
  refine aw_goto dJ0_init_db425_38 rfl ?_
  refine aw_vret dJ0_init_db425_97 rfl ⟨rfl, ⟨by show Γ.1 ≤ G.1; omega, fun k hk => ⟨(x2.2 k (by omega)).1, (if_neg (by omega)).trans (x2.2 k (by omega)).2.1, (x2.2 k (by omega)).2.2.1.trans (jn k (by omega)), (x2.2 k (by omega)).2.2.2⟩⟩, Γ.1, hc, by omega, og, ?_, x3, ?_, fun j hj => ?_⟩
  · show (if c = c then va_up (G.2.2 c) 0 (some Γ.1) else G.2.2 c) 0 = some Γ.1
    rw [if_pos rfl, va_up_self]
  · rw [(x2.2 c hc0).2.2.1, hJ, am_u_at, if_pos ⟨rfl, rfl⟩]
  · rw [x4 j hj, jn v hvc]
    exact g11 j hj
theorem eJ0_initS (o : am_ob Γ c 9) (h1 : Γ.1 = c + 1) (hc : 450 ≤ c) (h : sbC N Γ I b t.length t) (ht : t.length ≤ 600) : am_C m_J0_init_81219 (d + 4) 1 1300 true [.ref c, .ref b] Γ I L (fun o2 Γ' I' L' => o2 = .inl none ∧ kpN c Γ Γ' I I' L L' ∧ strS Γ' I' c t) := by
  have hb0 : b < Γ.1 := h.choose_spec.choose_spec.2.2.2.1.1
  refine am_of rfl rfl rfl (Nat.le_of_ble_eq_true rfl) ?_
  refine aw_aload_n dJ0_init_81219_0 rfl ?_
  refine aw_aload_n dJ0_init_81219_1 rfl ?_
  refine aw_nul dJ0_init_81219_2 ?_
  refine aw_grI (mc' := 1) (ms' := 1300) (as := [.ref b, .null]) (rst := []) k_J0_init_db425 l_J0_489 i_J0_init_db425 rfl rfl dJ0_init_81219_3 rfl (Nat.le_of_ble_eq_true rfl) (Nat.le_refl _) (Nat.le_refl _) (eJ0_initA (d := d) o h1 hc h ht) rfl (okl_c o.1 (okl_c hb0 okl_nil)) oks_nil (fun _ _ _ _ z => nomatch z.1) ?_
  rintro w G J M ⟨e1, h2, h3⟩
  cases e1
  exact aw_vret dJ0_init_81219_6 rfl ⟨rfl, h2, h3⟩
theorem sbC.nw {q : Nat} (h : sbC N Γ I b q t) (z : Nat × Nat × Nat) : sbC N (am_nG Γ z) (am_nI Γ I) b q t := by
  obtain ⟨v, m, g1, g2, g3, ob, g4, a, g5, g6, g7, g8, g9, g10, g11, g12⟩ := h
  have hb := Nat.ne_of_lt ob.1
  have hv := Nat.ne_of_lt a.1
  have eb : am_nI Γ I b = I b := va_up_ne _ _ hb
  have ev : am_nI Γ I v = I v := va_up_ne _ _ hv
  exact ⟨v, m, g1, g2, g3, ob_new ob, (congrFun (va_up_ne _ _ hb) 0).trans g4, ar_new a, g5, g6, g7, by rw [eb]; exact g8, by rw [eb]; exact g9, g10, fun j hj => by rw [ev]; exact g11 j hj, fun j hj => by rw [ev]; exact g12 j hj⟩
theorem eB4_toString (hN : 450 ≤ Γ.1) (h : sbC N Γ I b t.length t) (ht : t.length ≤ 600) : am_C m_J4_toString_0e30d (d + 5) 2 1310 true [.ref b] Γ I L (fun o2 Γ' I' L' => o2 = .inl (some (.ref Γ.1)) ∧ kpN Γ.1 Γ Γ' I I' L L' ∧ strS Γ' I' Γ.1 t) := by
  have hb0 : b < Γ.1 := h.choose_spec.choose_spec.2.2.2.1.1
  refine am_of rfl rfl rfl (Nat.le_of_ble_eq_true rfl) ?_
  refine aw_bcs (bc' := 1 + 1) (bs' := 1300 + 4) (by omega) (by omega) ?_
  refine aw_new (ci := 9) (N := 4) (C := RJ0) (T := TJ0) dJ4_toString_0e30d_0 rfl cl_J4_18 mk_J0 n_J0 (okl_c hb0 okl_nil) oks_nil ?_
  refine aw_dup dJ4_toString_0e30d_3 rfl ?_
  refine aw_aload_n dJ4_toString_0e30d_4 rfl ?_
  refine aw_grI (mc' := 1) (ms' := 1300) (as := [.ref b]) (rst := [.ref Γ.1]) k_J0_init_81219 l_J4_137 i_J0_init_81219 rfl rfl dJ4_toString_0e30d_5 rfl (Nat.le_of_ble_eq_true rfl) (by omega) (by omega) (eJ0_initS (d := d) (ob_at 9) rfl hN (h.nw (0, 9, 0)) ht) rfl (okl_c (Nat.lt_succ_of_lt hb0) okl_nil) (oks_c (Nat.lt_succ_self _) oks_nil) (fun _ _ _ _ z => nomatch z.1) ?_
  rintro w G J M ⟨e1, h2, h3⟩
  cases e1
  refine aw_aret dJ4_toString_0e30d_8 rfl (Or.inl ⟨_, rfl⟩) ⟨rfl, ?_, h3⟩
  exact ⟨Nat.le_trans (Nat.le_succ _) h2.1, fun k hk => ⟨(h2.2 k hk).1.trans (va_up_ne _ _ (by omega)), (h2.2 k hk).2.1.trans (va_up_ne _ _ (by omega)), (h2.2 k hk).2.2.1.trans (va_up_ne _ _ (by omega)), (h2.2 k hk).2.2.2.trans (va_up_ne _ _ (by omega))⟩⟩
end JZ
