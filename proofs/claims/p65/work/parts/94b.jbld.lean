/-! THE JDK: a StringBuilder of plain letters: room is made, a letter is appended -/
theorem okl_nil {Γ : am_G} : ∀ q ∈ ([] : List (Nat × Value)), am_ok Γ q.2 := fun _ h => nomatch h
theorem okl_c {Γ : am_G} {i : Nat} {v : Value} {l : List (Nat × Value)} (h : am_ok Γ v) (t : ∀ q ∈ l, am_ok Γ q.2) : ∀ q ∈ (i, v) :: l, am_ok Γ q.2 := fun q hq => by
  rcases List.mem_cons.mp hq with e | e
  · rw [e]; exact h
  · exact t q e
theorem oks_nil {Γ : am_G} : ∀ v ∈ ([] : List Value), am_ok Γ v := fun _ h => nomatch h
theorem oks_c {Γ : am_G} {v : Value} {l : List Value} (h : am_ok Γ v) (t : ∀ w ∈ l, am_ok Γ w) : ∀ w ∈ v :: l, am_ok Γ w := fun w hw => by
  rcases List.mem_cons.mp hw with e | e
  · rw [e]; exact h
  · exact t w e
/-- the first N cells stay, cells may be added -/
def kpN (N : Nat) (Γ Γ' : am_G) (I I' : am_I) (L L' : am_L) : Prop := Γ.1 ≤ Γ'.1 ∧ ∀ k, k < N → Γ'.2.1 k = Γ.2.1 k ∧ Γ'.2.2 k = Γ.2.2 k ∧ I' k = I k ∧ L' k = L k
theorem kpN.rf {N : Nat} {Γ : am_G} {I : am_I} {L : am_L} : kpN N Γ Γ I I L L := ⟨Nat.le_refl _, fun _ _ => ⟨rfl, rfl, rfl, rfl⟩⟩
theorem kpN.tr {N : Nat} {Γ Γ1 Γ2 : am_G} {I I1 I2 : am_I} {L L1 L2 : am_L} (h : kpN N Γ Γ1 I I1 L L1) (h2 : kpN N Γ1 Γ2 I1 I2 L1 L2) : kpN N Γ Γ2 I I2 L L2 :=
  ⟨Nat.le_trans h.1 h2.1, fun k hk => ⟨(h2.2 k hk).1.trans (h.2 k hk).1, (h2.2 k hk).2.1.trans (h.2 k hk).2.1, (h2.2 k hk).2.2.1.trans (h.2 k hk).2.2.1, (h2.2 k hk).2.2.2.trans (h.2 k hk).2.2.2⟩⟩
def fitb (x : Int32) : Prop := fits .byte (.int x) = true
theorem fitb_n : ∀ c, c < 128 → fits .byte (.int (nn c)) = true := by decide
theorem by1_n : ∀ c, c < 128 → (nn c).toInt8.toInt32 = nn c := by decide
theorem narb_n {c : Nat} (h : c < 128) : vp_nar .byte (nn c).toInt8.toInt32 = nn c := (by_c _).trans (by1_n c h)
theorem narb_m {c : Nat} (h : c < 128) : vp_nar .byte (nn c) = nn c := by rw [vp_nar_byte, by1_n c h]
/-- the builder b holds t, in room for q -/
def sbC (N : Nat) (Γ : am_G) (I : am_I) (b q : Nat) (t : List Nat) : Prop := ∃ v m, N ≤ b ∧ N ≤ v ∧ v ≠ b ∧ am_ob Γ b 10 ∧ Γ.2.2 b 0 = some v ∧ am_ar Γ v 2 m 0 ∧ q ≤ m ∧ m ≤ 1300 ∧ t.length ≤ m ∧ I b 1 = 0 ∧ I b 3 = nn t.length ∧ asc t ∧ (∀ j, j < t.length → I v j = nn (tb t j)) ∧ ∀ j, j < m → fitb (I v j)
section JB
variable {d N : Nat} {Γ : am_G} {I : am_I} {L : am_L} {b q : Nat} {t : List Nat}
theorem eB_isLatin1 (o : am_ob Γ b 10) (h : I b 1 = 0) : am_E m_J5_isLatin1_aae02 d 0 0 [.ref b] Γ I L (.inl (some (.int 1))) I L := by
  refine am_ofE rfl rfl rfl (Nat.le_of_ble_eq_true rfl) ?_
  refine aw_getsC dJ5_isLatin1_aae02_0 fJ5_compact ?_
  refine aw_if_eq dJ5_isLatin1_aae02_3 rfl (fun h => absurd h (by decide)) (fun _ => ?_)
  refine aw_aload_n dJ5_isLatin1_aae02_6 rfl ?_
  refine aw_getI dJ5_isLatin1_aae02_7 f_J5_22 o rfl ?_
  rw [h]
  refine aw_if_ne dJ5_isLatin1_aae02_10 rfl (fun h => absurd rfl h) (fun _ => ?_)
  refine aw_iconst dJ5_isLatin1_aae02_13 ci_1 ?_
  refine aw_goto dJ5_isLatin1_aae02_14 rfl ?_
  exact aw_zret dJ5_isLatin1_aae02_18 rfl rfl ⟨rfl, rfl, rfl⟩
theorem eJ1_canEncode {c : Nat} (hc : c < 128) : am_E m_J1_canEncode_fc78d d 0 0 [.int (nn c)] Γ I L (.inl (some (.int 1))) I L := by
  refine am_ofE rfl rfl rfl (Nat.le_of_ble_eq_true rfl) ?_
  refine aw_iload_n dJ1_canEncode_fc78d_0 rfl ?_
  refine aw_sipush dJ1_canEncode_fc78d_1 cs_255 ?_
  refine aw_icmp_gt dJ1_canEncode_fc78d_4 rfl (fun z => absurd z (show ¬ nn 255 < nn c by rw [nn_lt (by decide) (by omega)]; omega)) (fun _ => ?_)
  refine aw_iconst dJ1_canEncode_fc78d_7 ci_1 ?_
  refine aw_goto dJ1_canEncode_fc78d_8 rfl ?_
  exact aw_zret dJ1_canEncode_fc78d_12 rfl rfl ⟨rfl, rfl, rfl⟩
def capq (q m : Nat) : Nat := m + (if q - m < m + 2 then m + 2 else q - m)
theorem eJ8_newLength {m g : Nat} (hm : m ≤ 2000) (hg : g ≤ 2000) : am_E m_J8_newLength_cabcc d 0 0 [.int (nn m), .int (nn g), .int (nn (m + 2))] Γ I L (.inl (some (.int (nn (m + (if g < m + 2 then m + 2 else g)))))) I L := by
  have e : (if nn g < nn (m + 2) then nn (m + 2) else nn g) = nn (if g < m + 2 then m + 2 else g) := by
    by_cases h : g < m + 2
    · rw [if_pos h, if_pos ((nn_lt (by omega) (by omega)).mpr h)]
    · rw [if_neg h, if_neg (fun z => h ((nn_lt (by omega) (by omega)).mp z))]
  have hb : (if g < m + 2 then m + 2 else g) ≤ 2002 ∧ 0 < (if g < m + 2 then m + 2 else g) := by split <;> omega
  generalize (if g < m + 2 then m + 2 else g) = z at e hb
  refine am_ofE rfl rfl rfl (Nat.le_of_ble_eq_true rfl) ?_
  refine aw_iload_n dJ8_newLength_cabcc_0 rfl ?_
  refine aw_iload_n dJ8_newLength_cabcc_1 rfl ?_
  refine aw_iload_n dJ8_newLength_cabcc_2 rfl ?_
  refine aw_max dJ8_newLength_cabcc_3 mf_J8_194 (Nat.le_of_ble_eq_true rfl) ?_
  rw [e]
  refine aw_iadd dJ8_newLength_cabcc_6 ?_
  rw [nn_add]
  refine aw_istore_n dJ8_newLength_cabcc_7 (Nat.le_of_ble_eq_true rfl) rfl ?_
  refine aw_iconst dJ8_newLength_cabcc_8 ci_0 ?_
  refine aw_iload_n dJ8_newLength_cabcc_9 rfl ?_
  refine aw_icmp_ge dJ8_newLength_cabcc_10 rfl (fun h => absurd h (by rw [nl_0, nn_le (by omega) (by decide)]; omega)) (fun _ => ?_)
  refine aw_iload_n dJ8_newLength_cabcc_13 rfl ?_
  refine aw_ldc dJ8_newLength_cabcc_14 kc_J8_200 ?_
  refine aw_icmp_gt dJ8_newLength_cabcc_16 rfl (fun h => absurd h (show ¬ nn 2147483639 < nn (m + z) by rw [nn_lt (by decide) (by omega)]; omega)) (fun _ => ?_)
  refine aw_iload_n dJ8_newLength_cabcc_19 rfl ?_
  exact aw_iret dJ8_newLength_cabcc_20 rfl ⟨rfl, rfl, rfl⟩
theorem eB_newCapacity {v m : Nat} (o : am_ob Γ b 10) (hv : Γ.2.2 b 0 = some v) (a : am_ar Γ v 2 m 0) (h : I b 1 = 0) (hm : m ≤ 2000) (hq : m < q) (hq2 : q ≤ 2000) : am_E m_J5_newCapacity_0f7a4 (d + 1) 0 0 [.ref b, .int (nn q)] Γ I L (.inl (some (.int (nn (capq q m))))) I L := by
  have s0 : ∀ x : Nat, nn x <<< (0 &&& 31) = nn x := fun x => (nn_shl (t := 0) (by decide)).trans (by rw [Nat.pow_zero, Nat.mul_one])
  have s2 : (2 : Int32) <<< (0 &&& 31) = nn 2 := by decide
  have hc : capq q m ≤ 6000 := by unfold capq; split <;> omega
  have s1 : nn (capq q m) >>> (0 &&& 31) = nn (capq q m) := (nn_shr (t := 0) (by omega) (by decide)).trans rfl
  refine am_ofE rfl rfl rfl (Nat.le_of_ble_eq_true rfl) ?_
  refine aw_aload_n dJ5_newCapacity_0f7a4_0 rfl ?_
  refine aw_getR dJ5_newCapacity_0f7a4_1 f_J5_15 o rfl hv ?_
  refine aw_alen dJ5_newCapacity_0f7a4_4 a (Or.inr (Or.inl rfl)) (v := nn m) rfl ?_
  refine aw_istore_n dJ5_newCapacity_0f7a4_5 (Nat.le_of_ble_eq_true rfl) rfl ?_
  refine aw_iload_n dJ5_newCapacity_0f7a4_6 rfl ?_
  refine aw_aload_n dJ5_newCapacity_0f7a4_7 rfl ?_
  refine aw_getI dJ5_newCapacity_0f7a4_8 f_J5_22 o rfl ?_
  rw [h]
  refine aw_ishl dJ5_newCapacity_0f7a4_11 ?_
  rw [s0]
  refine aw_istore_n dJ5_newCapacity_0f7a4_12 (Nat.le_of_ble_eq_true rfl) rfl ?_
  refine aw_iload_n dJ5_newCapacity_0f7a4_13 rfl ?_
  refine aw_iload_n dJ5_newCapacity_0f7a4_14 rfl ?_
  refine aw_isub dJ5_newCapacity_0f7a4_15 ?_
  rw [nn_sub (by omega)]
  refine aw_istore dJ5_newCapacity_0f7a4_16 (Nat.le_of_ble_eq_true rfl) rfl ?_
  refine aw_iload_n dJ5_newCapacity_0f7a4_18 rfl ?_
  refine aw_iload dJ5_newCapacity_0f7a4_19 rfl ?_
  refine aw_iload_n dJ5_newCapacity_0f7a4_21 rfl ?_
  refine aw_iconst dJ5_newCapacity_0f7a4_22 ci_2 ?_
  refine aw_aload_n dJ5_newCapacity_0f7a4_23 rfl ?_
  refine aw_getI dJ5_newCapacity_0f7a4_24 f_J5_22 o rfl ?_
  rw [h]
  refine aw_ishl dJ5_newCapacity_0f7a4_27 ?_
  rw [s2]
  refine aw_iadd dJ5_newCapacity_0f7a4_28 ?_
  rw [nn_add]
  refine aw_askS (as := [.int (nn m), .int (nn (q - m)), .int (nn (m + 2))]) (rst := []) k_J8_newLength_cabcc l_J5_114 t_J8_newLength_cabcc dJ5_newCapacity_0f7a4_29 rfl (Nat.le_of_ble_eq_true rfl) (Nat.zero_le _) (Nat.zero_le _) (eJ8_newLength hm (by omega)) rfl rfl ?_
  refine aw_istore dJ5_newCapacity_0f7a4_32 (Nat.le_of_ble_eq_true rfl) rfl ?_
  refine aw_iload dJ5_newCapacity_0f7a4_34 rfl ?_
  refine aw_ldc dJ5_newCapacity_0f7a4_36 kc_J5_39 ?_
  refine aw_icmp_ne dJ5_newCapacity_0f7a4_38 rfl (fun _ => ?_) (fun z => absurd z (show ¬ nn (capq q m) = nn 2147483647 by rw [nn_eq (by omega) (by decide)]; omega))
  refine aw_iload dJ5_newCapacity_0f7a4_51 rfl ?_
  refine aw_aload_n dJ5_newCapacity_0f7a4_53 rfl ?_
  refine aw_getI dJ5_newCapacity_0f7a4_54 f_J5_22 o rfl ?_
  rw [h]
  refine aw_ishr dJ5_newCapacity_0f7a4_57 ?_
  exact aw_iret dJ5_newCapacity_0f7a4_58 rfl (am_R_e s1 rfl rfl)
theorem ar_new {k t n c : Nat} {z : Nat × Nat × Nat} (o : am_ar Γ k t n c) : am_ar (am_nG Γ z) k t n c := ⟨Nat.lt_succ_of_lt o.1, (va_up_ne _ _ (Nat.ne_of_lt o.1)).trans o.2⟩
theorem ar_at (t n c : Nat) : am_ar (am_nG Γ (t, n, c)) Γ.1 t n c := ⟨Nat.lt_succ_self _, va_up_self _ _ _⟩
theorem eJ7_copyOf {v m : Nat} (a : am_ar Γ v 2 m 0) (hf : ∀ j, j < m → fitb (I v j)) (hq : m < q) (hq2 : q ≤ 2000) : am_C m_J7_copyOf_9075b d 1 q true [.ref v, .int (nn q)] Γ I L (fun o Γ' I' L' => o = .inl (some (.ref Γ.1)) ∧ Γ' = am_nG Γ (2, q, 0) ∧ I' = am_cI (am_nI Γ I) v Γ.1 0 0 m ∧ L' = am_nL Γ L) := by
  have hv := a.1
  have hne : v ≠ Γ.1 := Nat.ne_of_lt a.1
  have ev : am_nI Γ I v = I v := va_up_ne _ _ hne
  have em : (if nn q < nn m then nn q else nn m) = nn m := if_neg (by rw [nn_lt (by omega) (by omega)]; omega)
  refine am_of rfl rfl rfl (Nat.le_of_ble_eq_true rfl) ?_
  refine aw_iload_n dJ7_copyOf_9075b_0 rfl ?_
  refine aw_aload_n dJ7_copyOf_9075b_1 rfl ?_
  refine aw_alen dJ7_copyOf_9075b_2 a (Or.inr (Or.inl rfl)) (v := nn m) rfl ?_
  refine aw_icmp_ne dJ7_copyOf_9075b_3 rfl (fun _ => ?_) (fun z => absurd ((nn_eq (by omega) (by omega)).mp z) (by omega))
  refine aw_iload_n dJ7_copyOf_9075b_14 rfl ?_
  refine aw_bcs (bc' := 0 + 1) (bs' := 0 + q) (by omega) (by omega) ?_
  refine aw_newB (n := q) dJ7_copyOf_9075b_15 ac_byte (nn_neg_lt (by omega)) (nn_nat (by omega)) (by omega) (okl_c hv (okl_c trivial okl_nil)) oks_nil ?_
  refine aw_astore_n dJ7_copyOf_9075b_17 (Nat.le_of_ble_eq_true rfl) rfl ?_
  refine aw_aload_n dJ7_copyOf_9075b_18 rfl ?_
  refine aw_iconst dJ7_copyOf_9075b_19 ci_0 ?_
  refine aw_aload_n dJ7_copyOf_9075b_20 rfl ?_
  refine aw_iconst dJ7_copyOf_9075b_21 ci_0 ?_
  refine aw_aload_n dJ7_copyOf_9075b_22 rfl ?_
  refine aw_alen dJ7_copyOf_9075b_23 (ar_new a) (Or.inr (Or.inl rfl)) (v := nn m) rfl ?_
  refine aw_iload_n dJ7_copyOf_9075b_24 rfl ?_
  refine aw_min dJ7_copyOf_9075b_25 mf_J7_304 (Nat.le_of_ble_eq_true rfl) ?_
  rw [em]
  refine aw_copyb dJ7_copyOf_9075b_28 sk_J7_150 (ar_new a) (ar_at 2 q 0) (by decide) (by decide) (nn_neg_lt (by omega)) (by rw [nn_nat (by omega)]; show 0 + m ≤ m; omega) (by rw [nn_nat (by omega)]; show 0 + m ≤ q; omega) (fun i hi => ?_) (Nat.le_of_ble_eq_true rfl) ?_
  · rw [nn_nat (by omega)] at hi
    rw [ev]
    show fits .byte (.int (I v (0 + i))) = true
    rw [Nat.zero_add]
    exact hf i hi
  refine aw_aload_n dJ7_copyOf_9075b_31 rfl ?_
  refine aw_aret dJ7_copyOf_9075b_32 rfl (Or.inr ⟨_, rfl⟩) ⟨rfl, rfl, ?_, rfl⟩
  rw [nn_nat (by omega)]
  rfl
theorem cpy_in {f g : Nat → Int32} {n j : Nat} (h : j < n) : va_cpy f g 0 0 n j = f j := by
  unfold va_cpy
  rw [if_pos ⟨Nat.zero_le _, by omega⟩]
  congr 1
  omega
theorem cpy_out {f g : Nat → Int32} {n j : Nat} (h : ¬ j < n) : va_cpy f g 0 0 n j = g j := by
  unfold va_cpy
  rw [if_neg (by omega)]
theorem eB_ensure (h : sbC N Γ I b t.length t) (hN : N ≤ Γ.1) (hq2 : q ≤ 640) : am_C m_J5_ensureCapacityInternal_d00df (d + 2) 1 1300 true [.ref b, .int (nn q)] Γ I L (fun o Γ' I' L' => o = .inl none ∧ kpN N Γ Γ' I I' L L' ∧ sbC N Γ' I' b q t) := by
  obtain ⟨v, m, h1, h2, h3, o, h4, a, h5, h6, h7, h8, h9, h10, h11, h12⟩ := id h
  have s1 : nn m >>> (0 &&& 31) = nn m := (nn_shr (t := 0) (by omega) (by decide)).trans rfl
  have s0 : ∀ x : Nat, nn x <<< (0 &&& 31) = nn x := fun x => (nn_shl (t := 0) (by decide)).trans (by rw [Nat.pow_zero, Nat.mul_one])
  have et : (nn q - nn m).toInt = (q : Int) - m := pk_sub_toInt (by omega) (by omega)
  refine am_of rfl rfl rfl (Nat.le_of_ble_eq_true rfl) ?_
  refine aw_aload_n dJ5_ensureCapacityInternal_d00df_0 rfl ?_
  refine aw_getR dJ5_ensureCapacityInternal_d00df_1 f_J5_15 o rfl h4 ?_
  refine aw_alen dJ5_ensureCapacityInternal_d00df_4 a (Or.inr (Or.inl rfl)) (v := nn m) rfl ?_
  refine aw_aload_n dJ5_ensureCapacityInternal_d00df_5 rfl ?_
  refine aw_getI dJ5_ensureCapacityInternal_d00df_6 f_J5_22 o rfl ?_
  rw [h8]
  refine aw_ishr dJ5_ensureCapacityInternal_d00df_9 ?_
  rw [s1]
  refine aw_istore_n dJ5_ensureCapacityInternal_d00df_10 (Nat.le_of_ble_eq_true rfl) rfl ?_
  refine aw_iload_n dJ5_ensureCapacityInternal_d00df_11 rfl ?_
  refine aw_iload_n dJ5_ensureCapacityInternal_d00df_12 rfl ?_
  refine aw_isub dJ5_ensureCapacityInternal_d00df_13 ?_
  refine aw_if_le dJ5_ensureCapacityInternal_d00df_14 rfl (fun z => ?_) (fun z => ?_)
  · have hle : q ≤ m := by rw [Int32.le_iff_toInt_le, et, Int32.toInt_zero] at z; omega
    exact aw_vret dJ5_ensureCapacityInternal_d00df_38 rfl ⟨rfl, kpN.rf, v, m, h1, h2, h3, o, h4, a, hle, h6, h7, h8, h9, h10, h11, h12⟩
  · have hlt : m < q := by rw [Int32.le_iff_toInt_le, et, Int32.toInt_zero] at z; omega
    have hc : capq q m ≤ 1300 ∧ q ≤ capq q m ∧ m < capq q m := by unfold capq; split <;> omega
    have hbv : b < Γ.1 := o.1
    refine aw_aload_n dJ5_ensureCapacityInternal_d00df_17 rfl ?_
    refine aw_aload_n dJ5_ensureCapacityInternal_d00df_18 rfl ?_
    refine aw_getR dJ5_ensureCapacityInternal_d00df_19 f_J5_15 o rfl h4 ?_
    refine aw_aload_n dJ5_ensureCapacityInternal_d00df_22 rfl ?_
    refine aw_iload_n dJ5_ensureCapacityInternal_d00df_23 rfl ?_
    refine aw_askB (ci := 10) (as := [.int (nn q)]) (rst := [.ref v, .ref b]) k_J5_newCapacity_0f7a4 l_J5_104 i_J5_newCapacity_0f7a4 sj_newCapacity rfl rfl o dJ5_ensureCapacityInternal_d00df_24 rfl (Nat.le_of_ble_eq_true rfl) (Nat.zero_le _) (Nat.zero_le _) (eB_newCapacity o h4 a h8 (by omega) hlt (by omega)) rfl rfl ?_
    refine aw_aload_n dJ5_ensureCapacityInternal_d00df_27 rfl ?_
    refine aw_getI dJ5_ensureCapacityInternal_d00df_28 f_J5_22 o rfl ?_
    rw [h8]
    refine aw_ishl dJ5_ensureCapacityInternal_d00df_31 ?_
    rw [s0]
    refine aw_grS (mc' := 1) (ms' := capq q m) (as := [.ref v, .int (nn (capq q m))]) (rst := [.ref b]) k_J7_copyOf_9075b l_J5_108 t_J7_copyOf_9075b dJ5_ensureCapacityInternal_d00df_32 rfl (Nat.le_of_ble_eq_true rfl) (by omega) (by omega) (eJ7_copyOf a h12 hc.2.2 (by omega)) rfl (okl_c hbv (okl_c trivial (okl_c trivial okl_nil))) (oks_c hbv oks_nil) (fun _ _ _ _ z => nomatch z.1) ?_
    rintro w G J M ⟨e1, rfl, rfl, rfl⟩
    cases e1
    have hbn : b ≠ Γ.1 := Nat.ne_of_lt hbv
    have hvn : v ≠ Γ.1 := Nat.ne_of_lt a.1
    refine aw_putRn dJ5_ensureCapacityInternal_d00df_35 p_J5_15 (ob_new o) rfl (Nat.lt_succ_self _) (fun _ => rfl) (fun _ => rfl) ?_
    have rk : ∀ k, k ≠ b → k ≠ Γ.1 → (am_ur (am_nG Γ (2, capq q m, 0)) b 0 Γ.1).2.2 k = Γ.2.2 k := fun k x1 x2 => (if_neg x1).trans (va_up_ne _ _ x2)
    have ik : ∀ k, k ≠ Γ.1 → am_cI (am_nI Γ I) v Γ.1 0 0 m k = I k := fun k x => (if_neg x).trans (va_up_ne _ _ x)
    have inew : am_cI (am_nI Γ I) v Γ.1 0 0 m Γ.1 = va_cpy (I v) (fun _ => 0) 0 0 m := by
      unfold am_cI
      rw [if_pos rfl, show am_nI Γ I v = I v from va_up_ne _ _ hvn, show am_nI Γ I Γ.1 = fun _ => 0 from va_up_self _ _ _]
    refine aw_vret dJ5_ensureCapacityInternal_d00df_38 rfl ⟨rfl, ⟨Nat.le_succ _, fun k hk => ⟨va_up_ne _ _ (by omega), rk k (by omega) (by omega), ik k (by omega), va_up_ne _ _ (by omega)⟩⟩, Γ.1, capq q m, h1, hN, fun z => hbn z.symm, ⟨Nat.lt_succ_of_lt hbv, (va_up_ne _ _ hbn).trans o.2⟩, ?_, ⟨Nat.lt_succ_self _, va_up_self _ _ _⟩, hc.2.1, hc.1, by omega, by rw [ik b hbn]; exact h8, by rw [ik b hbn]; exact h9, h10, fun j hj => ?_, fun j hj => ?_⟩
    · show (if b = b then va_up (va_up Γ.2.2 Γ.1 (fun _ => none) b) 0 (some Γ.1) else va_up Γ.2.2 Γ.1 (fun _ => none) b) 0 = some Γ.1
      rw [if_pos rfl, va_up_self]
    · rw [inew, cpy_in (by omega)]
      exact h11 j hj
    · rw [inew]
      by_cases hjm : j < m
      · rw [cpy_in hjm]; exact h12 j hjm
      · rw [cpy_out hjm]; exact fitb_n 0 (by decide)
end JB
