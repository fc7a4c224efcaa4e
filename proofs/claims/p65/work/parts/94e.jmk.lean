/-! THE JDK: a builder is made, a String is made of it -/
section JCL
variable {mi : am_M} {d mc ms : Nat} {bc bs pc : Nat} {ls : List (Nat × Value)} {st : List Value} {Γ : am_G} {I : am_I} {L : am_L} {Q : am_Q}
/-- a byte[] is cloned -/
theorem aw_clone {i v n : Nat} (hd : decode mi.2.1 pc = .ok (.invokevirtual i, 3)) (hl : Cond.methodLink mi.1.cls i ⟨"[B", "clone", "()Ljava/lang/Object;"⟩ ∈ am_Gl) (hsm : Cond.sameMethod "[B" "java/lang/Object" "clone" "()Ljava/lang/Object;" ∈ am_Gl) (hna : Cond.native ⟨"java/lang/Object", "clone", "()Ljava/lang/Object;"⟩ ∈ am_Gl) (hin : Cond.instanceMethod ⟨"java/lang/Object", "clone", "()Ljava/lang/Object;"⟩ ∈ am_Gl) (hse : Cond.selects "[B" ⟨"[B", "clone", "()Ljava/lang/Object;"⟩ ⟨"java/lang/Object", "clone", "()Ljava/lang/Object;"⟩ ∈ am_Gl) (hca : Cond.castable "[B" "java/lang/Cloneable" ∈ am_Nl)
    (a : am_ar Γ v 2 n 0) (hf : ∀ j, j < n → fitb (I v j)) (hs : am_sz st ≤ 8) (hls : ∀ z ∈ ls, am_ok Γ z.2) (hst : ∀ w ∈ st, am_ok Γ w)
    (kk : am_W mi d mc ms true bc bs (pc + 3) ls (.ref Γ.1 :: st) (am_nG Γ (2, n, 0)) (va_up I Γ.1 (I v)) (am_nL Γ L) Q) : am_W mi d mc ms true (bc + 1) (bs + n) pc ls (.ref v :: st) Γ I L Q := by
  intro p l e s m args below meth c D A Γ0 x0 S x H locs cells slots la h1 h2 h3 h4 h5 h6
  have hts := S.2.2.2.2.2.2.1
  have hSx := S.2.2.2.2.2.2.2.2.2.2.2
  have hsz : ((st.map (am_cv D x)).map fun v => v.category).sum ≤ 8 := by rw [am_cats]; exact hs
  have hT := h2.2.2.1 v a.1 (by rw [a.2]; exact (by decide : (2 : Nat) ≠ 0))
  rw [a.2] at hT
  refine va_clone (ty := .byte) (x := (n, .inl (I v))) S.1 S.2.1 (S.2.2.1.trans h6.1.symm) S.2.2.2.2.2.1 (hts _ hl) (hts _ hsm) (hts _ hna) (hts _ hin) (hts _ hse) (hSx.2.2.2.1 _ hca) (am_ar_K S h2.2.2 a (by decide)) h2.1 h2.2.1 h3 S.2.2.2.2.2.2.2.2.2.2.1.1 v 0 (am_ar_at a) rfl (va_nm_byte hT.2) (va_fit (fun j hj => hf j hj)) (by show 1 ≤ d + 8; omega) (by show _ ≤ 60 * d + 400; omega) (by show cells + 1 ≤ mc; omega) (by show slots + n ≤ ms; omega) hd (fun q H1 gK q1 q2 q3 => ?_)
  have hcl := h2.2.2.2
  have ew : am_ws x Γ I L ++ [(q, .inl (x.2 v, n, .inl (I v)))] = am_ws (va_up x.1 Γ.1 q, va_up x.2 Γ.1 (x.2 v)) (am_nG Γ (2, n, 0)) (va_up I Γ.1 (I v)) (am_nL Γ L) := by
    refine am_ws_push rfl (va_up_self _ _ _) ?_ (fun j hj => ?_)
    · show am_ce _ _ (va_up Γ.2.1 Γ.1 (2, n, 0) Γ.1) (va_up I Γ.1 _ Γ.1) (va_up L Γ.1 _ Γ.1) (va_up Γ.2.2 Γ.1 _ Γ.1) = _
      rw [va_up_self, va_up_self, va_up_self, va_up_self]
      show (Sum.inl (va_up x.2 Γ.1 (x.2 v) Γ.1, _) : va_E) = _
      rw [va_up_self]
    · have hne : j ≠ Γ.1 := by omega
      have u1 : ∀ {α : Type} (f : Nat → α) (w : α), va_up f Γ.1 w j = f j := fun f w => if_neg hne
      refine ⟨u1 _ _, ?_⟩
      show am_ce _ _ (va_up Γ.2.1 Γ.1 (2, n, 0) j) (va_up I Γ.1 _ j) (va_up L Γ.1 _ j) (va_up Γ.2.2 Γ.1 _ j) = _
      rw [u1, u1, u1, u1]
      refine am_ce_cong (u1 _ _) (fun f r hr => if_neg ?_)
      have := hcl j f r hj hr
      omega
  rw [ew] at q1 q2
  have k := kk p l e s m args below meth c D A Γ0 x0 S (va_up x.1 Γ.1 q, va_up x.2 Γ.1 (x.2 v)) H1 locs (cells + 1) (slots + n) la (am_n_agr h1) ⟨q1, q2, am_nT h2.2.2 (fun _ => hT)⟩ q3 (by omega) (by omega) (by rw [am_n_ls hls]; exact h6)
  rw [am_n_st hst] at k
  exact k
theorem aw_castB {i v n : Nat} (hd : decode mi.2.1 pc = .ok (.checkcast i, 3)) (hl : Cond.classLink mi.1.cls i "[B" ∈ am_Gl) (a : am_ar Γ v 2 n 0) {al : Bool} (kk : am_W mi d mc ms al bc bs (pc + 3) ls (.ref v :: st) Γ I L Q) : am_W mi d mc ms al bc bs pc ls (.ref v :: st) Γ I L Q := by
  intro p l e s m args below meth c D A Γ0 x0 S x H locs cells slots la h1 h2 h3 h4 h5 h6
  have hts := S.2.2.2.2.2.2.1
  have hT := h2.2.2.1 v a.1 (by rw [a.2]; exact (by decide : (2 : Nat) ≠ 0))
  rw [a.2] at hT
  exact va_castA (x := (n, .inl (I v))) S.1 S.2.1 S.2.2.2.2.2.1 (hts _ hl) h2.1 v (am_ar_at a) (va_nm_byte hT.2) hd (kk p l e s m args below meth c D A Γ0 x0 S x H locs cells slots la h1 h2 h3 h4 h5 h6)
end JCL
section JM
variable {d N : Nat} {Γ : am_G} {I : am_I} {L : am_L} {b q : Nat} {t : List Nat}
theorem eB_init (o : am_ob Γ b 10) (hNb : N ≤ b) (hN : N ≤ Γ.1) (h1 : I b 1 = 0) (h3 : I b 3 = 0) {i : Nat} (hi : i < am_sn) (hi2 : tlen i ≤ 40) : am_C m_J5_init_a7421 (d + 6) 2 1400 true [.ref b, .retAddr i] Γ I L (fun o2 Γ' I' L' => o2 = .inl none ∧ kpN N Γ Γ' I I' L L' ∧ sbC N Γ' I' b (tl i).length (tl i)) := by
  have hb0 := o.1
  refine am_of rfl rfl rfl (Nat.le_of_ble_eq_true rfl) ?_
  refine aw_aload_n dJ5_init_a7421_0 rfl ?_
  refine aw_obj dJ5_init_a7421_1 ob_J5 ow_i ow_c (Nat.le_of_ble_eq_true rfl) ?_
  refine aw_aload_nT dJ5_init_a7421_4 rfl ?_
  refine aw_askT (as := []) (rst := []) k_J0_length_8abf5 l_J5_32 i_J0_length_8abf5 s_J0_length_8abf5 rfl hi dJ5_init_a7421_5 rfl (Nat.le_of_ble_eq_true rfl) (Nat.zero_le _) (Nat.zero_le _) (eJ0_length hi) rfl rfl ?_
  refine aw_istore_n (ls' := [(0, .ref b), (1, .retAddr i), (2, .int (nn (tlen i)))]) dJ5_init_a7421_8 (Nat.le_of_ble_eq_true rfl) rfl ?_
  refine aw_iload_n dJ5_init_a7421_9 rfl ?_
  refine aw_ldc dJ5_init_a7421_10 kc_J5_38 ?_
  refine aw_icmp_ge dJ5_init_a7421_12 rfl (fun z => absurd z (show ¬ nn 2147483631 ≤ nn (tlen i) by rw [nn_le (by decide) (by omega)]; omega)) (fun _ => ?_)
  refine aw_iload_n dJ5_init_a7421_15 rfl ?_
  refine aw_bipush (v := 16) dJ5_init_a7421_16 (by decide) ?_
  refine aw_iadd dJ5_init_a7421_18 ?_
  rw [show nn (tlen i) + 16 = nn (tlen i + 16) from nn_add _ 16]
  refine aw_goto dJ5_init_a7421_19 rfl ?_
  refine aw_istore_n (ls' := [(0, .ref b), (1, .retAddr i), (2, .int (nn (tlen i))), (3, .int (nn (tlen i + 16)))]) dJ5_init_a7421_24 (Nat.le_of_ble_eq_true rfl) rfl ?_
  refine aw_aload_nT dJ5_init_a7421_25 rfl ?_
  refine aw_askT (as := []) (rst := []) k_J0_coder_7d493 l_J5_40 i_J0_coder_7d493 s_J0_coder_7d493 rfl hi dJ5_init_a7421_26 rfl (Nat.le_of_ble_eq_true rfl) (Nat.zero_le _) (Nat.zero_le _) (eJ0_coder hi) rfl rfl ?_
  refine aw_istore (ls' := [(0, .ref b), (1, .retAddr i), (2, .int (nn (tlen i))), (3, .int (nn (tlen i + 16))), (4, .int 0)]) dJ5_init_a7421_29 (Nat.le_of_ble_eq_true rfl) rfl ?_
  refine aw_aload_n dJ5_init_a7421_31 rfl ?_
  refine aw_iload dJ5_init_a7421_32 rfl ?_
  refine aw_putB dJ5_init_a7421_34 p_J5_22 o rfl rfl rfl ?_
  refine aw_aload_n dJ5_init_a7421_37 rfl ?_
  refine aw_iload dJ5_init_a7421_38 rfl ?_
  refine aw_if_ne dJ5_init_a7421_40 rfl (fun z => absurd rfl z) (fun _ => ?_)
  refine aw_iload_n dJ5_init_a7421_43 rfl ?_
  refine aw_bcs (bc' := 1 + 1) (bs' := 1300 + (tlen i + 16)) (by omega) (by omega) ?_
  refine aw_newB (n := tlen i + 16) dJ5_init_a7421_44 ac_byte (nn_neg_lt (by omega)) (nn_nat (by omega)) (by omega) (okl_c hb0 (okl_c trivial (okl_c trivial (okl_c trivial (okl_c trivial okl_nil))))) (oks_c hb0 oks_nil) ?_
  refine aw_goto dJ5_init_a7421_46 rfl ?_
  refine aw_putRn dJ5_init_a7421_53 p_J5_15 (ob_new o) rfl (Nat.lt_succ_self _) (fun _ => rfl) (fun _ => rfl) ?_
  obtain ⟨G, hG⟩ : ∃ G, G = am_ur (am_nG Γ (2, tlen i + 16, 0)) b 0 Γ.1 := ⟨_, rfl⟩
  obtain ⟨J, hJ⟩ : ∃ J, J = am_nI Γ (am_u I b 1 0) := ⟨_, rfl⟩
  have hbn : b ≠ Γ.1 := Nat.ne_of_lt hb0
  have jb : J b = am_u I b 1 0 b := by rw [hJ]; exact va_up_ne _ _ hbn
  have g1 : G.1 = Γ.1 + 1 := by rw [hG]; rfl
  have hsb : sbC N G J b ([] : List Nat).length [] := by
    refine ⟨Γ.1, tlen i + 16, hNb, hN, Ne.symm hbn, ⟨by rw [g1]; omega, by rw [hG]; exact (va_up_ne _ _ hbn).trans o.2⟩, ?_, ⟨by rw [g1]; exact Nat.lt_succ_self _, by rw [hG]; exact va_up_self _ _ _⟩, Nat.zero_le _, by omega, Nat.zero_le _, ?_, ?_, fun c hc => (nomatch hc), fun j hj => absurd hj (Nat.not_lt_zero j), fun j hj => ?_⟩
    · rw [hG]
      show (if b = b then va_up (va_up Γ.2.2 Γ.1 (fun _ => none) b) 0 (some Γ.1) else va_up Γ.2.2 Γ.1 (fun _ => none) b) 0 = some Γ.1
      rw [if_pos rfl, va_up_self]
    · rw [jb, am_u_at, if_pos ⟨rfl, rfl⟩]
    · rw [jb, am_u_at, if_neg (fun z => absurd z.2 (by decide))]; exact h3
    · rw [hJ, show am_nI Γ (am_u I b 1 0) Γ.1 = fun _ => 0 from va_up_self _ _ _]
      exact fitb_n 0 (by decide)
  have kp : kpN N Γ G I J L (am_nL Γ L) := by
    refine ⟨by omega, fun k hk => ⟨?_, ?_, ?_, va_up_ne _ _ (by omega)⟩⟩
    · rw [hG]; exact va_up_ne _ _ (by omega)
    · rw [hG]; exact (if_neg (by omega)).trans (va_up_ne _ _ (by omega))
    · rw [hJ]; exact (va_up_ne _ _ (by omega)).trans (am_u_ne (by omega))
  rw [← hG, ← hJ]
  have og : am_ob G b 10 := hsb.choose_spec.choose_spec.2.2.2.1
  refine aw_aload_n dJ5_init_a7421_56 rfl ?_
  refine aw_aload_nT dJ5_init_a7421_57 rfl ?_
  refine aw_grU (ci := 10) (mc' := 1) (ms' := 1300) (xn := m_J5_append_cf1ce.1) (as := [.retAddr i]) (rst := []) k_J4_append_cf1ce l_J5_43 sm_appS i_J5_append_cf1ce k_J5_append_cf1ce.1 (by decide +kernel) i_J4_append_cf1ce sl_append rfl rfl og dJ5_init_a7421_58 rfl (Nat.le_of_ble_eq_true rfl) (Nat.le_refl _) (Nat.le_refl _) (eB4_bridge (d := d) hsb (by omega) (by decide) hi hi2) rfl (okl_c og.1 (okl_c trivial (okl_c trivial (okl_c trivial (okl_c trivial okl_nil))))) oks_nil (fun _ _ _ _ z => nomatch z.1) ?_
  rintro w G2 J2 M2 ⟨e1, kp2, h2⟩
  cases e1
  refine aw_pop dJ5_init_a7421_61 rfl ?_
  exact aw_vret dJ5_init_a7421_62 rfl ⟨rfl, kp.tr kp2, h2⟩
theorem eB4_init (o : am_ob Γ b 10) (hNb : N ≤ b) (hN : N ≤ Γ.1) (h1 : I b 1 = 0) (h3 : I b 3 = 0) {i : Nat} (hi : i < am_sn) (hi2 : tlen i ≤ 40) : am_C m_J4_init_a7421 (d + 7) 2 1400 true [.ref b, .retAddr i] Γ I L (fun o2 Γ' I' L' => o2 = .inl none ∧ kpN N Γ Γ' I I' L L' ∧ sbC N Γ' I' b (tl i).length (tl i)) := by
  refine am_of rfl rfl rfl (Nat.le_of_ble_eq_true rfl) ?_
  refine aw_aload_n dJ4_init_a7421_0 rfl ?_
  refine aw_aload_nT dJ4_init_a7421_1 rfl ?_
  refine aw_grI (mc' := 2) (ms' := 1400) (as := [.retAddr i]) (rst := []) k_J5_init_a7421 l_J4_7 i_J5_init_a7421 rfl rfl dJ4_init_a7421_2 rfl (Nat.le_of_ble_eq_true rfl) (Nat.le_refl _) (Nat.le_refl _) (eB_init o hNb hN h1 h3 hi hi2) rfl (okl_c o.1 (okl_c trivial okl_nil)) oks_nil (fun _ _ _ _ z => nomatch z.1) ?_
  rintro w G2 J2 M2 ⟨e1, kp2, h2⟩
  cases e1
  exact aw_vret dJ4_init_a7421_5 rfl ⟨rfl, kp2, h2⟩
theorem eB_getValue {v : Nat} (o : am_ob Γ b 10) (hv : Γ.2.2 b 0 = some v) : am_E m_J5_getValue_6d5f1 d 0 0 [.ref b] Γ I L (.inl (some (.ref v))) I L := by
  refine am_ofE rfl rfl rfl (Nat.le_of_ble_eq_true rfl) ?_
  refine aw_aload_n dJ5_getValue_6d5f1_0 rfl ?_
  refine aw_getR dJ5_getValue_6d5f1_1 f_J5_15 o rfl hv ?_
  exact aw_aret dJ5_getValue_6d5f1_4 rfl (Or.inr ⟨_, rfl⟩) ⟨rfl, rfl, rfl⟩
theorem eB_length (o : am_ob Γ b 10) {x : Int32} (h : I b 3 = x) : am_E m_J5_length_8abf5 d 0 0 [.ref b] Γ I L (.inl (some (.int x))) I L := by
  refine am_ofE rfl rfl rfl (Nat.le_of_ble_eq_true rfl) ?_
  refine aw_aload_n dJ5_length_8abf5_0 rfl ?_
  refine aw_getI dJ5_length_8abf5_1 f_J5_79 o rfl ?_
  exact aw_iret dJ5_length_8abf5_4 rfl (am_R_e h rfl rfl)
theorem eB4_length (o : am_ob Γ b 10) {x : Int32} (h : I b 3 = x) : am_E m_J4_length_8abf5 (d + 1) 0 0 [.ref b] Γ I L (.inl (some (.int x))) I L := by
  refine am_ofE rfl rfl rfl (Nat.le_of_ble_eq_true rfl) ?_
  refine aw_aload_n dJ4_length_8abf5_0 rfl ?_
  refine aw_askSU (ci := 10) (as := []) (rst := []) k_J5_length_8abf5 l_J4_343 sm_len su_sb i_J5_length_8abf5 (by decide) rfl o dJ4_length_8abf5_1 rfl (Nat.le_of_ble_eq_true rfl) (Nat.zero_le _) (Nat.zero_le _) (eB_length o h) rfl rfl ?_
  exact aw_iret dJ4_length_8abf5_4 rfl ⟨rfl, rfl, rfl⟩
theorem eJ7_checkLength {n : Nat} (hn : n < 100000) : am_E m_J7_checkLength_df160 d 0 0 [.int 0, .int (nn n)] Γ I L (.inl none) I L := by
  refine am_ofE rfl rfl rfl (Nat.le_of_ble_eq_true rfl) ?_
  refine aw_iload_n dJ7_checkLength_df160_0 rfl ?_
  refine aw_iload_n dJ7_checkLength_df160_1 rfl ?_
  refine aw_icmp_ge dJ7_checkLength_df160_2 rfl (fun _ => ?_) (fun z => absurd (nn_neg_le (by omega)) z)
  exact aw_vret dJ7_checkLength_df160_37 rfl ⟨rfl, rfl, rfl⟩
/-- the first n bytes of v, in a cell of their own -/
def cpQ (v n : Nat) (Γ : am_G) (I : am_I) (L : am_L) : am_Q := fun o Γ' I' L' => o = .inl (some (.ref Γ.1)) ∧ Γ'.1 = Γ.1 + 1 ∧ kpN Γ.1 Γ Γ' I I' L L' ∧ am_ar Γ' Γ.1 2 n 0 ∧ ∀ j, j < n → I' Γ.1 j = I v j
theorem eJ7_copyRB {v n m : Nat} (a : am_ar Γ v 2 m 0) (hf : ∀ j, j < m → fitb (I v j)) (hn : n ≤ m) (hm : m ≤ 1300) : am_C m_J7_copyOfRangeByte_39247 (d + 1) 1 1300 true [.ref v, .int 0, .int (nn n)] Γ I L (cpQ v n Γ I L) := by
  have hv := a.1
  have hne : v ≠ Γ.1 := Nat.ne_of_lt a.1
  have ev : am_nI Γ I v = I v := va_up_ne _ _ hne
  have em : (if nn n < nn m then nn n else nn m) = nn n := by
    by_cases h : n < m
    · exact if_pos ((nn_lt (by omega) (by omega)).mpr h)
    · rw [if_neg (fun z => h ((nn_lt (by omega) (by omega)).mp z)), show m = n by omega]
  refine am_of rfl rfl rfl (Nat.le_of_ble_eq_true rfl) ?_
  refine aw_iload_n dJ7_copyOfRangeByte_39247_0 rfl ?_
  refine aw_iload_n dJ7_copyOfRangeByte_39247_1 rfl ?_
  refine aw_askS (as := [.int 0, .int (nn n)]) (rst := []) k_J7_checkLength_df160 l_J7_343 t_J7_checkLength_df160 dJ7_copyOfRangeByte_39247_2 rfl (Nat.le_of_ble_eq_true rfl) (Nat.zero_le _) (Nat.zero_le _) (eJ7_checkLength (by omega)) rfl rfl ?_
  refine aw_iload_n dJ7_copyOfRangeByte_39247_5 rfl ?_
  refine aw_iload_n dJ7_copyOfRangeByte_39247_6 rfl ?_
  refine aw_isub dJ7_copyOfRangeByte_39247_7 ?_
  rw [Int32.sub_zero]
  refine aw_istore_n (ls' := [(0, .ref v), (1, .int 0), (2, .int (nn n)), (3, .int (nn n))]) dJ7_copyOfRangeByte_39247_8 (Nat.le_of_ble_eq_true rfl) rfl ?_
  refine aw_iload_n dJ7_copyOfRangeByte_39247_9 rfl ?_
  refine aw_bcs (bc' := 0 + 1) (bs' := 0 + n) (by omega) (by omega) ?_
  refine aw_newB (n := n) dJ7_copyOfRangeByte_39247_10 ac_byte (nn_neg_lt (by omega)) (nn_nat (by omega)) (by omega) (okl_c hv (okl_c trivial (okl_c trivial (okl_c trivial okl_nil)))) oks_nil ?_
  refine aw_astore (ls' := [(0, .ref v), (1, .int 0), (2, .int (nn n)), (3, .int (nn n)), (4, .ref Γ.1)]) dJ7_copyOfRangeByte_39247_12 (Nat.le_of_ble_eq_true rfl) rfl ?_
  refine aw_aload_n dJ7_copyOfRangeByte_39247_14 rfl ?_
  refine aw_iload_n dJ7_copyOfRangeByte_39247_15 rfl ?_
  refine aw_aload dJ7_copyOfRangeByte_39247_16 rfl ?_
  refine aw_iconst dJ7_copyOfRangeByte_39247_18 ci_0 ?_
  refine aw_aload_n dJ7_copyOfRangeByte_39247_19 rfl ?_
  refine aw_alen dJ7_copyOfRangeByte_39247_20 (ar_new a) (Or.inr (Or.inl rfl)) (v := nn m) rfl ?_
  refine aw_iload_n dJ7_copyOfRangeByte_39247_21 rfl ?_
  refine aw_isub dJ7_copyOfRangeByte_39247_22 ?_
  rw [Int32.sub_zero]
  refine aw_iload_n dJ7_copyOfRangeByte_39247_23 rfl ?_
  refine aw_min dJ7_copyOfRangeByte_39247_24 mf_J7_304 (Nat.le_of_ble_eq_true rfl) ?_
  rw [em]
  refine aw_copyb dJ7_copyOfRangeByte_39247_27 sk_J7_150 (ar_new a) (ar_at 2 n 0) (by decide) (by decide) (nn_neg_lt (by omega)) (by rw [nn_nat (by omega)]; show 0 + n ≤ m; omega) (by rw [nn_nat (by omega)]; show 0 + n ≤ n; omega) (fun i hi => ?_) (Nat.le_of_ble_eq_true rfl) ?_
  · rw [nn_nat (by omega)] at hi
    rw [ev]
    show fits .byte (.int (I v (0 + i))) = true
    rw [Nat.zero_add]
    exact hf i (by omega)
  refine aw_aload dJ7_copyOfRangeByte_39247_30 rfl ?_
  refine aw_aret dJ7_copyOfRangeByte_39247_32 rfl (Or.inr ⟨_, rfl⟩) ⟨rfl, rfl, ⟨Nat.le_succ _, fun k hk => ⟨va_up_ne _ _ (by omega), va_up_ne _ _ (by omega), ?_, va_up_ne _ _ (by omega)⟩⟩, ar_at 2 n 0, fun j hj => ?_⟩
  · exact (if_neg (by omega)).trans (va_up_ne _ _ (by omega))
  · have e0 : ((0 : Int32)).toNatClampNeg = 0 := by decide
    rw [nn_nat (by omega), e0]
    show (if Γ.1 = Γ.1 then va_cpy (am_nI Γ I v) (am_nI Γ I Γ.1) 0 0 n else _) j = _
    rw [if_pos rfl, cpy_in hj, ev]
theorem eJ7_copyR {v n m : Nat} (a : am_ar Γ v 2 m 0) (hf : ∀ j, j < m → fitb (I v j)) (hn : n ≤ m) (hm : m ≤ 1300) : am_C m_J7_copyOfRange_39247 (d + 2) 1 1300 true [.ref v, .int 0, .int (nn n)] Γ I L (cpQ v n Γ I L) := by
  have hv := a.1
  refine am_of rfl rfl rfl (Nat.le_of_ble_eq_true rfl) ?_
  refine aw_iload_n dJ7_copyOfRange_39247_0 rfl ?_
  refine aw_if_ne dJ7_copyOfRange_39247_1 rfl (fun z => absurd rfl z) (fun _ => ?_)
  refine aw_iload_n dJ7_copyOfRange_39247_4 rfl ?_
  refine aw_aload_n dJ7_copyOfRange_39247_5 rfl ?_
  refine aw_alen dJ7_copyOfRange_39247_6 a (Or.inr (Or.inl rfl)) (v := nn m) rfl ?_
  refine aw_icmp_eq dJ7_copyOfRange_39247_7 rfl (fun z => ?_) (fun _ => ?_)
  · have e : n = m := (nn_eq (by omega) (by omega)).mp z
    subst e
    refine aw_aload_n dJ7_copyOfRange_39247_17 rfl ?_
    refine aw_bcs (bc' := 0 + 1) (bs' := 0 + n) (by omega) (by omega) ?_
    refine aw_clone dJ7_copyOfRange_39247_18 (am_t6 87 rfl rfl) (am_t6 88 rfl rfl) (am_t6 89 rfl rfl) (am_t6 90 rfl rfl) (am_t6 91 rfl rfl) (an_t6 92 rfl rfl) a hf (Nat.le_of_ble_eq_true rfl) (okl_c hv (okl_c trivial (okl_c trivial okl_nil))) oks_nil ?_
    refine aw_castB dJ7_copyOfRange_39247_21 cl_J7_311 (ar_at 2 n 0) ?_
    exact aw_aret dJ7_copyOfRange_39247_24 rfl (Or.inr ⟨_, rfl⟩) ⟨rfl, rfl, ⟨Nat.le_succ _, fun k hk => ⟨va_up_ne _ _ (by omega), va_up_ne _ _ (by omega), va_up_ne _ _ (by omega), va_up_ne _ _ (by omega)⟩⟩, ar_at 2 n 0, fun j hj => congrFun (va_up_self _ _ _) j⟩
  · refine aw_aload_n dJ7_copyOfRange_39247_10 rfl ?_
    refine aw_iload_n dJ7_copyOfRange_39247_11 rfl ?_
    refine aw_iload_n dJ7_copyOfRange_39247_12 rfl ?_
    refine aw_grS (mc' := 1) (ms' := 1300) (as := [.ref v, .int 0, .int (nn n)]) (rst := []) k_J7_copyOfRangeByte_39247 l_J7_339 t_J7_copyOfRangeByte_39247 dJ7_copyOfRange_39247_13 rfl (Nat.le_of_ble_eq_true rfl) (Nat.le_refl _) (Nat.le_refl _) (eJ7_copyRB a hf hn hm) rfl (okl_c hv (okl_c trivial (okl_c trivial okl_nil))) oks_nil (fun _ _ _ _ z => nomatch z.1) ?_
    rintro w G J M ⟨e1, h1, h2⟩
    cases e1
    exact aw_aret dJ7_copyOfRange_39247_16 rfl (Or.inr ⟨_, rfl⟩) ⟨rfl, h1, h2⟩
end JM
