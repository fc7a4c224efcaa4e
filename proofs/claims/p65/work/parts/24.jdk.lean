/-! THE JDK: String.length, charAt; Arrays.fill -/
theorem cs_255 : (Int16.ofInt (255)).toInt32 = (255) := by decide
theorem dJ0_length_8abf5_0 : decode cJ0_length_8abf5 0 = .ok (.aload_n 0, 1) := by decide +kernel
theorem dJ0_length_8abf5_1 : decode cJ0_length_8abf5 1 = .ok (.getfield 9, 3) := by decide +kernel
theorem dJ0_length_8abf5_4 : decode cJ0_length_8abf5 4 = .ok (.arraylength, 1) := by decide +kernel
theorem dJ0_length_8abf5_5 : decode cJ0_length_8abf5 5 = .ok (.aload_n 0, 1) := by decide +kernel
theorem dJ0_length_8abf5_6 : decode cJ0_length_8abf5 6 = .ok (.invokevirtual 335, 3) := by decide +kernel
theorem dJ0_length_8abf5_9 : decode cJ0_length_8abf5 9 = .ok (.ishr, 1) := by decide +kernel
theorem dJ0_length_8abf5_10 : decode cJ0_length_8abf5 10 = .ok (.ireturn, 1) := by decide +kernel
theorem dJ0_charAt_5068e_0 : decode cJ0_charAt_5068e 0 = .ok (.aload_n 0, 1) := by decide +kernel
theorem dJ0_charAt_5068e_1 : decode cJ0_charAt_5068e 1 = .ok (.invokevirtual 492, 3) := by decide +kernel
theorem dJ0_charAt_5068e_4 : decode cJ0_charAt_5068e 4 = .ok (.ifCond .eq 12, 3) := by decide +kernel
theorem dJ0_charAt_5068e_7 : decode cJ0_charAt_5068e 7 = .ok (.aload_n 0, 1) := by decide +kernel
theorem dJ0_charAt_5068e_8 : decode cJ0_charAt_5068e 8 = .ok (.getfield 9, 3) := by decide +kernel
theorem dJ0_charAt_5068e_11 : decode cJ0_charAt_5068e 11 = .ok (.iload_n 1, 1) := by decide +kernel
theorem dJ0_charAt_5068e_12 : decode cJ0_charAt_5068e 12 = .ok (.invokestatic 495, 3) := by decide +kernel
theorem dJ0_charAt_5068e_15 : decode cJ0_charAt_5068e 15 = .ok (.ireturn, 1) := by decide +kernel
theorem dJ0_charAt_5068e_16 : decode cJ0_charAt_5068e 16 = .ok (.aload_n 0, 1) := by decide +kernel
theorem dJ0_charAt_5068e_17 : decode cJ0_charAt_5068e 17 = .ok (.getfield 9, 3) := by decide +kernel
theorem dJ0_charAt_5068e_20 : decode cJ0_charAt_5068e 20 = .ok (.iload_n 1, 1) := by decide +kernel
theorem dJ0_charAt_5068e_21 : decode cJ0_charAt_5068e 21 = .ok (.invokestatic 498, 3) := by decide +kernel
theorem dJ0_charAt_5068e_24 : decode cJ0_charAt_5068e 24 = .ok (.ireturn, 1) := by decide +kernel
theorem dJ0_coder_7d493_0 : decode cJ0_coder_7d493 0 = .ok (.getstatic 38, 3) := by decide +kernel
theorem dJ0_coder_7d493_3 : decode cJ0_coder_7d493 3 = .ok (.ifCond .eq 10, 3) := by decide +kernel
theorem dJ0_coder_7d493_6 : decode cJ0_coder_7d493 6 = .ok (.aload_n 0, 1) := by decide +kernel
theorem dJ0_coder_7d493_7 : decode cJ0_coder_7d493 7 = .ok (.getfield 15, 3) := by decide +kernel
theorem dJ0_coder_7d493_10 : decode cJ0_coder_7d493 10 = .ok (.goto 4, 3) := by decide +kernel
theorem dJ0_coder_7d493_13 : decode cJ0_coder_7d493 13 = .ok (.iconst 1, 1) := by decide +kernel
theorem dJ0_coder_7d493_14 : decode cJ0_coder_7d493 14 = .ok (.ireturn, 1) := by decide +kernel
theorem dJ0_isLatin1_aae02_0 : decode cJ0_isLatin1_aae02 0 = .ok (.getstatic 38, 3) := by decide +kernel
theorem dJ0_isLatin1_aae02_3 : decode cJ0_isLatin1_aae02 3 = .ok (.ifCond .eq 14, 3) := by decide +kernel
theorem dJ0_isLatin1_aae02_6 : decode cJ0_isLatin1_aae02 6 = .ok (.aload_n 0, 1) := by decide +kernel
theorem dJ0_isLatin1_aae02_7 : decode cJ0_isLatin1_aae02 7 = .ok (.getfield 15, 3) := by decide +kernel
theorem dJ0_isLatin1_aae02_10 : decode cJ0_isLatin1_aae02 10 = .ok (.ifCond .ne 7, 3) := by decide +kernel
theorem dJ0_isLatin1_aae02_13 : decode cJ0_isLatin1_aae02 13 = .ok (.iconst 1, 1) := by decide +kernel
theorem dJ0_isLatin1_aae02_14 : decode cJ0_isLatin1_aae02 14 = .ok (.goto 4, 3) := by decide +kernel
theorem dJ0_isLatin1_aae02_17 : decode cJ0_isLatin1_aae02 17 = .ok (.iconst 0, 1) := by decide +kernel
theorem dJ0_isLatin1_aae02_18 : decode cJ0_isLatin1_aae02 18 = .ok (.ireturn, 1) := by decide +kernel
theorem dJ0_checkIndex_df160_0 : decode cJ0_checkIndex_df160 0 = .ok (.iload_n 0, 1) := by decide +kernel
theorem dJ0_checkIndex_df160_1 : decode cJ0_checkIndex_df160 1 = .ok (.iload_n 1, 1) := by decide +kernel
theorem dJ0_checkIndex_df160_2 : decode cJ0_checkIndex_df160 2 = .ok (.getstatic 1053, 3) := by decide +kernel
theorem dJ0_checkIndex_df160_5 : decode cJ0_checkIndex_df160 5 = .ok (.invokestatic 1059, 3) := by decide +kernel
theorem dJ0_checkIndex_df160_8 : decode cJ0_checkIndex_df160 8 = .ok (.pop, 1) := by decide +kernel
theorem dJ0_checkIndex_df160_9 : decode cJ0_checkIndex_df160 9 = .ok (.return_, 1) := by decide +kernel
theorem dJ1_charAt_3b067_0 : decode cJ1_charAt_3b067 0 = .ok (.iload_n 1, 1) := by decide +kernel
theorem dJ1_charAt_3b067_1 : decode cJ1_charAt_3b067 1 = .ok (.aload_n 0, 1) := by decide +kernel
theorem dJ1_charAt_3b067_2 : decode cJ1_charAt_3b067 2 = .ok (.arraylength, 1) := by decide +kernel
theorem dJ1_charAt_3b067_3 : decode cJ1_charAt_3b067 3 = .ok (.invokestatic 9, 3) := by decide +kernel
theorem dJ1_charAt_3b067_6 : decode cJ1_charAt_3b067 6 = .ok (.aload_n 0, 1) := by decide +kernel
theorem dJ1_charAt_3b067_7 : decode cJ1_charAt_3b067 7 = .ok (.iload_n 1, 1) := by decide +kernel
theorem dJ1_charAt_3b067_8 : decode cJ1_charAt_3b067 8 = .ok (.baload, 1) := by decide +kernel
theorem dJ1_charAt_3b067_9 : decode cJ1_charAt_3b067 9 = .ok (.sipush 255, 3) := by decide +kernel
theorem dJ1_charAt_3b067_12 : decode cJ1_charAt_3b067 12 = .ok (.iand, 1) := by decide +kernel
theorem dJ1_charAt_3b067_13 : decode cJ1_charAt_3b067 13 = .ok (.i2c, 1) := by decide +kernel
theorem dJ1_charAt_3b067_14 : decode cJ1_charAt_3b067 14 = .ok (.ireturn, 1) := by decide +kernel
theorem dJ7_fill_53178_0 : decode cJ7_fill_53178 0 = .ok (.iconst 0, 1) := by decide +kernel
theorem dJ7_fill_53178_1 : decode cJ7_fill_53178 1 = .ok (.istore_n 2, 1) := by decide +kernel
theorem dJ7_fill_53178_2 : decode cJ7_fill_53178 2 = .ok (.aload_n 0, 1) := by decide +kernel
theorem dJ7_fill_53178_3 : decode cJ7_fill_53178 3 = .ok (.arraylength, 1) := by decide +kernel
theorem dJ7_fill_53178_4 : decode cJ7_fill_53178 4 = .ok (.istore_n 3, 1) := by decide +kernel
theorem dJ7_fill_53178_5 : decode cJ7_fill_53178 5 = .ok (.iload_n 2, 1) := by decide +kernel
theorem dJ7_fill_53178_6 : decode cJ7_fill_53178 6 = .ok (.iload_n 3, 1) := by decide +kernel
theorem dJ7_fill_53178_7 : decode cJ7_fill_53178 7 = .ok (.if_icmp .ge 13, 3) := by decide +kernel
theorem dJ7_fill_53178_10 : decode cJ7_fill_53178 10 = .ok (.aload_n 0, 1) := by decide +kernel
theorem dJ7_fill_53178_11 : decode cJ7_fill_53178 11 = .ok (.iload_n 2, 1) := by decide +kernel
theorem dJ7_fill_53178_12 : decode cJ7_fill_53178 12 = .ok (.iload_n 1, 1) := by decide +kernel
theorem dJ7_fill_53178_13 : decode cJ7_fill_53178 13 = .ok (.iastore, 1) := by decide +kernel
theorem dJ7_fill_53178_14 : decode cJ7_fill_53178 14 = .ok (.iinc 2 1, 3) := by decide +kernel
theorem dJ7_fill_53178_17 : decode cJ7_fill_53178 17 = .ok (.goto (-12), 3) := by decide +kernel
theorem dJ7_fill_53178_20 : decode cJ7_fill_53178 20 = .ok (.return_, 1) := by decide +kernel
theorem dJ3_checkIndex_8e157_0 : decode cJ3_checkIndex_8e157 0 = .ok (.iload_n 0, 1) := by decide +kernel
theorem dJ3_checkIndex_8e157_1 : decode cJ3_checkIndex_8e157 1 = .ok (.ifCond .lt 8, 3) := by decide +kernel
theorem dJ3_checkIndex_8e157_4 : decode cJ3_checkIndex_8e157 4 = .ok (.iload_n 0, 1) := by decide +kernel
theorem dJ3_checkIndex_8e157_5 : decode cJ3_checkIndex_8e157 5 = .ok (.iload_n 1, 1) := by decide +kernel
theorem dJ3_checkIndex_8e157_6 : decode cJ3_checkIndex_8e157 6 = .ok (.if_icmp .lt 10, 3) := by decide +kernel
theorem dJ3_checkIndex_8e157_9 : decode cJ3_checkIndex_8e157 9 = .ok (.aload_n 2, 1) := by decide +kernel
theorem dJ3_checkIndex_8e157_10 : decode cJ3_checkIndex_8e157 10 = .ok (.iload_n 0, 1) := by decide +kernel
theorem dJ3_checkIndex_8e157_11 : decode cJ3_checkIndex_8e157 11 = .ok (.iload_n 1, 1) := by decide +kernel
theorem dJ3_checkIndex_8e157_12 : decode cJ3_checkIndex_8e157 12 = .ok (.invokestatic 95, 3) := by decide +kernel
theorem dJ3_checkIndex_8e157_15 : decode cJ3_checkIndex_8e157 15 = .ok (.athrow, 1) := by decide +kernel
theorem dJ3_checkIndex_8e157_16 : decode cJ3_checkIndex_8e157 16 = .ok (.iload_n 0, 1) := by decide +kernel
theorem dJ3_checkIndex_8e157_17 : decode cJ3_checkIndex_8e157 17 = .ok (.ireturn, 1) := by decide +kernel
theorem fJ0_value : Cond.fieldLink RJ0 9 "java/lang/String" "value" "[B" ∈ am_Gl := am_t7 31 rfl rfl
theorem fJ0_coder : Cond.fieldLink RJ0 15 "java/lang/String" "coder" "B" ∈ am_Gl := am_t7 32 rfl rfl
theorem fJ0_compact : Cond.fieldLink RJ0 38 "java/lang/String" "COMPACT_STRINGS" "Z" ∈ am_Gl := am_t2 99 rfl rfl
theorem fJ0_fmt : Cond.fieldLink RJ0 1053 "jdk/internal/util/Preconditions" "SIOOBE_FORMATTER" "Ljava/util/function/BiFunction;" ∈ am_Gl := am_t2 115 rfl rfl
def tlen (i : Nat) : Nat := am_sl.getD i 0
def tbyte (i j : Nat) : Int32 := (am_sb.getD i []).getD j 0
theorem tlen_lt : ∀ i, i < am_sn → tlen i < 1000 := by decide
/-- every byte of the texts is a plain one -/
theorem tbyte_ok : ∀ i, i < am_sn → (List.range (tlen i)).all (fun j => decide (((tbyte i j &&& 255).toUInt32 % 65536).toInt32 = tbyte i j)) = true := by decide +kernel
section JD
variable {d : Nat} {Γ : am_G} {I : am_I} {L : am_L}
theorem eJ0_coder {i : Nat} (hi : i < am_sn) : am_E m_J0_coder_7d493 d 0 0 [.retAddr i] Γ I L (.inl (some (.int 0))) I L := by
  refine am_ofE rfl rfl rfl (Nat.le_of_ble_eq_true rfl) ?_
  refine aw_getsC dJ0_coder_7d493_0 fJ0_compact ?_
  refine aw_if_eq dJ0_coder_7d493_3 rfl (fun h => absurd h (by decide)) (fun _ => ?_)
  refine aw_aload_nT dJ0_coder_7d493_6 rfl ?_
  refine aw_getTC dJ0_coder_7d493_7 fJ0_coder hi ?_
  refine aw_goto dJ0_coder_7d493_10 rfl ?_
  exact aw_zret dJ0_coder_7d493_14 rfl rfl ⟨rfl, rfl, rfl⟩
theorem eJ0_isLatin1 {i : Nat} (hi : i < am_sn) : am_E m_J0_isLatin1_aae02 d 0 0 [.retAddr i] Γ I L (.inl (some (.int 1))) I L := by
  refine am_ofE rfl rfl rfl (Nat.le_of_ble_eq_true rfl) ?_
  refine aw_getsC dJ0_isLatin1_aae02_0 fJ0_compact ?_
  refine aw_if_eq dJ0_isLatin1_aae02_3 rfl (fun h => absurd h (by decide)) (fun _ => ?_)
  refine aw_aload_nT dJ0_isLatin1_aae02_6 rfl ?_
  refine aw_getTC dJ0_isLatin1_aae02_7 fJ0_coder hi ?_
  refine aw_if_ne dJ0_isLatin1_aae02_10 rfl (fun h => absurd rfl h) (fun _ => ?_)
  refine aw_iconst dJ0_isLatin1_aae02_13 ci_1 ?_
  refine aw_goto dJ0_isLatin1_aae02_14 rfl ?_
  exact aw_zret dJ0_isLatin1_aae02_18 rfl rfl ⟨rfl, rfl, rfl⟩
theorem eJ0_length {i : Nat} (hi : i < am_sn) : am_E m_J0_length_8abf5 (d + 1) 0 0 [.retAddr i] Γ I L (.inl (some (.int (nn (tlen i))))) I L := by
  have ht := tlen_lt i hi
  refine am_ofE rfl rfl rfl (Nat.le_of_ble_eq_true rfl) ?_
  refine aw_aload_nT dJ0_length_8abf5_0 rfl ?_
  refine aw_getTV dJ0_length_8abf5_1 fJ0_value hi ?_
  refine aw_lenT dJ0_length_8abf5_4 hi (v := nn (tlen i)) rfl ?_
  refine aw_aload_nT dJ0_length_8abf5_5 rfl ?_
  refine aw_askT (as := []) (rst := [.int (nn (tlen i))]) k_J0_coder_7d493 l_J0_335 i_J0_coder_7d493 s_J0_coder_7d493 rfl hi dJ0_length_8abf5_6 rfl (Nat.le_of_ble_eq_true rfl) (Nat.zero_le _) (Nat.zero_le _) (eJ0_coder hi) rfl rfl ?_
  refine aw_ishr dJ0_length_8abf5_9 ?_
  exact aw_iret dJ0_length_8abf5_10 rfl (am_R_e (by rw [nl_0, nn_shr (by omega) (by decide)]; simp) rfl rfl)
theorem eJ3_checkIndex {j n : Nat} (hj : j < n) (hn : n < 2147483648) {v : Value} (hv : v.category = 1) : am_E m_J3_checkIndex_8e157 d 0 0 [.int (nn j), .int (nn n), v] Γ I L (.inl (some (.int (nn j)))) I L := by
  refine am_ofE rfl rfl rfl (by show 1 + (1 + (v.category + 0)) ≤ 3; omega) ?_
  refine aw_iload_n dJ3_checkIndex_8e157_0 rfl ?_
  refine aw_if_lt dJ3_checkIndex_8e157_1 rfl (fun h => absurd h (nn_neg_lt (by omega))) (fun _ => ?_)
  refine aw_iload_n dJ3_checkIndex_8e157_4 rfl ?_
  refine aw_iload_n dJ3_checkIndex_8e157_5 rfl ?_
  refine aw_icmp_lt dJ3_checkIndex_8e157_6 rfl (fun _ => ?_) (fun h => absurd ((nn_lt (by omega) (by omega)).mpr hj) h)
  refine aw_iload_n dJ3_checkIndex_8e157_16 rfl ?_
  exact aw_iret dJ3_checkIndex_8e157_17 rfl ⟨rfl, rfl, rfl⟩
theorem eJ0_checkIndex {j n : Nat} (hj : j < n) (hn : n < 2147483648) : am_E m_J0_checkIndex_df160 (d + 1) 0 0 [.int (nn j), .int (nn n)] Γ I L (.inl none) I L := by
  refine am_ofE rfl rfl rfl (Nat.le_of_ble_eq_true rfl) ?_
  refine aw_iload_n dJ0_checkIndex_df160_0 rfl ?_
  refine aw_iload_n dJ0_checkIndex_df160_1 rfl ?_
  refine aw_getsF dJ0_checkIndex_df160_2 fJ0_fmt (fun v hv => ?_)
  refine aw_askS (as := [.int (nn j), .int (nn n), v]) (rst := []) k_J3_checkIndex_8e157 l_J0_1059 t_J3_checkIndex_8e157 dJ0_checkIndex_df160_5 rfl (Nat.le_of_ble_eq_true rfl) (Nat.zero_le _) (Nat.zero_le _) (eJ3_checkIndex hj hn hv) rfl rfl ?_
  refine aw_pop dJ0_checkIndex_df160_8 rfl ?_
  exact aw_vret dJ0_checkIndex_df160_9 rfl ⟨rfl, rfl, rfl⟩
theorem eJ1_charAt {i j : Nat} (hi : i < am_sn) (hj : j < tlen i) : am_E m_J1_charAt_3b067 (d + 2) 0 0 [.retAddr (100 + i), .int (nn j)] Γ I L (.inl (some (.int (tbyte i j)))) I L := by
  have ht := tlen_lt i hi
  have hb : ((tbyte i j &&& 255).toUInt32 % 65536).toInt32 = tbyte i j := of_decide_eq_true (List.all_eq_true.mp (tbyte_ok i hi) j (List.mem_range.mpr hj))
  refine am_ofE rfl rfl rfl (Nat.le_of_ble_eq_true rfl) ?_
  refine aw_iload_n dJ1_charAt_3b067_0 rfl ?_
  refine aw_aload_nT dJ1_charAt_3b067_1 rfl ?_
  refine aw_lenT dJ1_charAt_3b067_2 hi (v := nn (tlen i)) rfl ?_
  refine aw_askS (as := [.int (nn j), .int (nn (tlen i))]) (rst := []) k_J0_checkIndex_df160 l_J1_9 t_J0_checkIndex_df160 dJ1_charAt_3b067_3 rfl (Nat.le_of_ble_eq_true rfl) (Nat.zero_le _) (Nat.zero_le _) (eJ0_checkIndex hj (by omega)) rfl rfl ?_
  refine aw_aload_nT dJ1_charAt_3b067_6 rfl ?_
  refine aw_iload_n dJ1_charAt_3b067_7 rfl ?_
  refine aw_baldT dJ1_charAt_3b067_8 hi (nn_in (by omega) hj) ?_
  refine aw_sipush dJ1_charAt_3b067_9 cs_255 ?_
  refine aw_iand dJ1_charAt_3b067_12 ?_
  refine aw_i2c dJ1_charAt_3b067_13 ?_
  rw [nn_nat (by omega)]
  change am_W _ _ _ _ _ _ _ _ _ [.int ((tbyte i j &&& 255).toUInt32 % 65536).toInt32] _ _ _ _
  rw [hb]
  refine aw_zret dJ1_charAt_3b067_14 rfl ?_ ⟨rfl, rfl, rfl⟩
  rw [← hb]
  exact pk_nc _
theorem eJ0_charAt {i j : Nat} (hi : i < am_sn) (hj : j < tlen i) : am_E m_J0_charAt_5068e (d + 3) 0 0 [.retAddr i, .int (nn j)] Γ I L (.inl (some (.int (tbyte i j)))) I L := by
  have hb : ((tbyte i j &&& 255).toUInt32 % 65536).toInt32 = tbyte i j := of_decide_eq_true (List.all_eq_true.mp (tbyte_ok i hi) j (List.mem_range.mpr hj))
  refine am_ofE rfl rfl rfl (Nat.le_of_ble_eq_true rfl) ?_
  refine aw_aload_nT dJ0_charAt_5068e_0 rfl ?_
  refine aw_askT (as := []) (rst := []) k_J0_isLatin1_aae02 l_J0_492 i_J0_isLatin1_aae02 s_J0_isLatin1_aae02 rfl hi dJ0_charAt_5068e_1 rfl (Nat.le_of_ble_eq_true rfl) (Nat.zero_le _) (Nat.zero_le _) (eJ0_isLatin1 hi) rfl rfl ?_
  refine aw_if_eq dJ0_charAt_5068e_4 rfl (fun h => absurd h (by decide)) (fun _ => ?_)
  refine aw_aload_nT dJ0_charAt_5068e_7 rfl ?_
  refine aw_getTV dJ0_charAt_5068e_8 fJ0_value hi ?_
  refine aw_iload_n dJ0_charAt_5068e_11 rfl ?_
  refine aw_askS (as := [.retAddr (100 + i), .int (nn j)]) (rst := []) k_J1_charAt_3b067 l_J0_495 t_J1_charAt_3b067 dJ0_charAt_5068e_12 rfl (Nat.le_of_ble_eq_true rfl) (Nat.zero_le _) (Nat.zero_le _) (eJ1_charAt hi hj) rfl rfl ?_
  refine aw_zret dJ0_charAt_5068e_15 rfl ?_ ⟨rfl, rfl, rfl⟩
  rw [← hb]
  exact pk_nc _
theorem eJ7_fill {c n : Nat} (ha : am_ar Γ c 1 n 0) (hn : n < 100000) (v : Int32) : am_E m_J7_fill_53178 d 0 0 [.ref c, .int v] Γ I L (.inl none) (am_mI I c (fun _ => v) n) L := by
  refine am_ofE rfl rfl rfl (Nat.le_of_ble_eq_true rfl) ?_
  refine aw_iconst dJ7_fill_53178_0 ci_0 ?_
  refine aw_istore_n dJ7_fill_53178_1 (Nat.le_of_ble_eq_true rfl) rfl ?_
  refine aw_aload_n dJ7_fill_53178_2 rfl ?_
  refine aw_alen dJ7_fill_53178_3 ha (Or.inl rfl) (v := nn n) rfl ?_
  refine aw_istore_n dJ7_fill_53178_4 (Nat.le_of_ble_eq_true rfl) rfl ?_
  have key := nn_loop (fun k => am_W m_J7_fill_53178 d 0 0 false 0 0 5 [(0, .ref c), (1, .int v), (2, .int (nn k)), (3, .int (nn n))] [] Γ (am_mI I c (fun _ => v) k) L (am_R (.inl none) (am_mI I c (fun _ => v) n) L)) n ?_ (fun k hk ih => ?_)
  · rw [am_mI_0] at key; exact key
  · refine aw_iload_n dJ7_fill_53178_5 rfl ?_
    refine aw_iload_n dJ7_fill_53178_6 rfl ?_
    refine aw_icmp_ge dJ7_fill_53178_7 rfl (fun _ => ?_) (fun h => absurd (Int32.le_refl _) h)
    exact aw_vret dJ7_fill_53178_20 rfl ⟨rfl, rfl, rfl⟩
  · refine aw_iload_n dJ7_fill_53178_5 rfl ?_
    refine aw_iload_n dJ7_fill_53178_6 rfl ?_
    refine aw_icmp_ge dJ7_fill_53178_7 rfl (fun h => absurd h (by rw [nn_le (by omega) (by omega)]; omega)) (fun _ => ?_)
    refine aw_aload_n dJ7_fill_53178_10 rfl ?_
    refine aw_iload_n dJ7_fill_53178_11 rfl ?_
    refine aw_iload_n dJ7_fill_53178_12 rfl ?_
    refine aw_iast dJ7_fill_53178_13 ha (nn_in (by omega) hk) ?_
    refine aw_iinc dJ7_fill_53178_14 rfl (cn_1 _) (Nat.le_of_ble_eq_true rfl) rfl ?_
    refine aw_goto dJ7_fill_53178_17 rfl ?_
    refine aw_eq ih (by rw [nl_1, nn_add]; rfl) rfl ?_ rfl
    rw [nn_nat (by omega)]
    exact am_mI_s rfl
end JD
