/-! BLOCKS (printed by program): what each straight stretch of the code does in the numbered machine -/
theorem ci_m1 : Int32.ofInt (-1) = (-1) := by decide
theorem ci_0 : Int32.ofInt (0) = (0) := by decide
theorem ci_1 : Int32.ofInt (1) = (1) := by decide
theorem ci_2 : Int32.ofInt (2) = (2) := by decide
theorem ci_3 : Int32.ofInt (3) = (3) := by decide
theorem ci_4 : Int32.ofInt (4) = (4) := by decide
theorem ci_5 : Int32.ofInt (5) = (5) := by decide
theorem cL_0 : Int64.ofNat ((0 : Fin 2) : Nat) = (0) := by decide
theorem cL_1 : Int64.ofNat ((1 : Fin 2) : Nat) = (1) := by decide
theorem cb_m19 : (Int8.ofInt (-19)).toInt32 = (-19) := by decide
theorem cb_m18 : (Int8.ofInt (-18)).toInt32 = (-18) := by decide
theorem cb_m17 : (Int8.ofInt (-17)).toInt32 = (-17) := by decide
theorem cb_6 : (Int8.ofInt (6)).toInt32 = (6) := by decide
theorem cb_7 : (Int8.ofInt (7)).toInt32 = (7) := by decide
theorem cb_8 : (Int8.ofInt (8)).toInt32 = (8) := by decide
theorem cb_9 : (Int8.ofInt (9)).toInt32 = (9) := by decide
theorem cb_10 : (Int8.ofInt (10)).toInt32 = (10) := by decide
theorem cb_12 : (Int8.ofInt (12)).toInt32 = (12) := by decide
theorem cb_15 : (Int8.ofInt (15)).toInt32 = (15) := by decide
theorem cb_16 : (Int8.ofInt (16)).toInt32 = (16) := by decide
theorem cb_20 : (Int8.ofInt (20)).toInt32 = (20) := by decide
theorem cb_22 : (Int8.ofInt (22)).toInt32 = (22) := by decide
theorem cb_23 : (Int8.ofInt (23)).toInt32 = (23) := by decide
theorem cb_24 : (Int8.ofInt (24)).toInt32 = (24) := by decide
theorem cb_25 : (Int8.ofInt (25)).toInt32 = (25) := by decide
theorem cb_30 : (Int8.ofInt (30)).toInt32 = (30) := by decide
theorem cb_31 : (Int8.ofInt (31)).toInt32 = (31) := by decide
theorem cb_32 : (Int8.ofInt (32)).toInt32 = (32) := by decide
theorem cb_48 : (Int8.ofInt (48)).toInt32 = (48) := by decide
theorem cb_57 : (Int8.ofInt (57)).toInt32 = (57) := by decide
theorem cb_59 : (Int8.ofInt (59)).toInt32 = (59) := by decide
theorem cb_60 : (Int8.ofInt (60)).toInt32 = (60) := by decide
theorem cb_87 : (Int8.ofInt (87)).toInt32 = (87) := by decide
theorem cb_97 : (Int8.ofInt (97)).toInt32 = (97) := by decide
theorem cb_99 : (Int8.ofInt (99)).toInt32 = (99) := by decide
theorem cb_100 : (Int8.ofInt (100)).toInt32 = (100) := by decide
theorem cb_122 : (Int8.ofInt (122)).toInt32 = (122) := by decide
theorem cs_256 : (Int16.ofInt (256)).toInt32 = (256) := by decide
theorem cs_700 : (Int16.ofInt (700)).toInt32 = (700) := by decide
theorem cs_999 : (Int16.ofInt (999)).toInt32 = (999) := by decide
theorem cs_7936 : (Int16.ofInt (7936)).toInt32 = (7936) := by decide
theorem cs_9999 : (Int16.ofInt (9999)).toInt32 = (9999) := by decide
theorem cs_12345 : (Int16.ofInt (12345)).toInt32 = (12345) := by decide
theorem cn_m8 (x : Int32) : x + Int32.ofInt (-8) = x + (-8) := congrArg (x + ·) (show Int32.ofInt (-8) = (-8) by decide)
theorem cn_m1 (x : Int32) : x + Int32.ofInt (-1) = x + (-1) := congrArg (x + ·) (show Int32.ofInt (-1) = (-1) by decide)
theorem cn_1 (x : Int32) : x + Int32.ofInt (1) = x + (1) := congrArg (x + ·) (show Int32.ofInt (1) = (1) by decide)
theorem cn_20 (x : Int32) : x + Int32.ofInt (20) = x + (20) := congrArg (x + ·) (show Int32.ofInt (20) = (20) by decide)
theorem dX0_init_0 : decode cX0_init 0 = .ok (.aload_n 0, 1) := by decide +kernel
theorem dX0_init_1 : decode cX0_init 1 = .ok (.invokespecial 3, 3) := by decide +kernel
theorem dX0_init_4 : decode cX0_init 4 = .ok (.aload_n 0, 1) := by decide +kernel
theorem dX0_init_5 : decode cX0_init 5 = .ok (.bipush 8, 2) := by decide +kernel
theorem dX0_init_7 : decode cX0_init 7 = .ok (.newarray .int, 2) := by decide +kernel
theorem dX0_init_9 : decode cX0_init 9 = .ok (.putfield 9, 3) := by decide +kernel
theorem dX0_init_12 : decode cX0_init 12 = .ok (.aload_n 0, 1) := by decide +kernel
theorem dX0_init_13 : decode cX0_init 13 = .ok (.new 15, 3) := by decide +kernel
theorem dX0_init_16 : decode cX0_init 16 = .ok (.dup, 1) := by decide +kernel
theorem dX0_init_17 : decode cX0_init 17 = .ok (.invokespecial 17, 3) := by decide +kernel
theorem dX0_init_20 : decode cX0_init 20 = .ok (.putfield 18, 3) := by decide +kernel
theorem dX0_init_23 : decode cX0_init 23 = .ok (.return_, 1) := by decide +kernel
theorem dX0_copyFrom_0 : decode cX0_copyFrom 0 = .ok (.aload_n 0, 1) := by decide +kernel
theorem dX0_copyFrom_1 : decode cX0_copyFrom 1 = .ok (.aload_n 1, 1) := by decide +kernel
theorem dX0_copyFrom_2 : decode cX0_copyFrom 2 = .ok (.getfield 22, 3) := by decide +kernel
theorem dX0_copyFrom_5 : decode cX0_copyFrom 5 = .ok (.putfield 22, 3) := by decide +kernel
theorem dX0_copyFrom_8 : decode cX0_copyFrom 8 = .ok (.aload_n 0, 1) := by decide +kernel
theorem dX0_copyFrom_9 : decode cX0_copyFrom 9 = .ok (.aload_n 1, 1) := by decide +kernel
theorem dX0_copyFrom_10 : decode cX0_copyFrom 10 = .ok (.getfield 26, 3) := by decide +kernel
theorem dX0_copyFrom_13 : decode cX0_copyFrom 13 = .ok (.putfield 26, 3) := by decide +kernel
theorem dX0_copyFrom_16 : decode cX0_copyFrom 16 = .ok (.aload_n 0, 1) := by decide +kernel
theorem dX0_copyFrom_17 : decode cX0_copyFrom 17 = .ok (.aload_n 1, 1) := by decide +kernel
theorem dX0_copyFrom_18 : decode cX0_copyFrom 18 = .ok (.getfield 30, 3) := by decide +kernel
theorem dX0_copyFrom_21 : decode cX0_copyFrom 21 = .ok (.putfield 30, 3) := by decide +kernel
theorem dX0_copyFrom_24 : decode cX0_copyFrom 24 = .ok (.aload_n 0, 1) := by decide +kernel
theorem dX0_copyFrom_25 : decode cX0_copyFrom 25 = .ok (.aload_n 1, 1) := by decide +kernel
theorem dX0_copyFrom_26 : decode cX0_copyFrom 26 = .ok (.getfield 33, 3) := by decide +kernel
theorem dX0_copyFrom_29 : decode cX0_copyFrom 29 = .ok (.putfield 33, 3) := by decide +kernel
theorem dX0_copyFrom_32 : decode cX0_copyFrom 32 = .ok (.aload_n 1, 1) := by decide +kernel
theorem dX0_copyFrom_33 : decode cX0_copyFrom 33 = .ok (.getfield 9, 3) := by decide +kernel
theorem dX0_copyFrom_36 : decode cX0_copyFrom 36 = .ok (.iconst 0, 1) := by decide +kernel
theorem dX0_copyFrom_37 : decode cX0_copyFrom 37 = .ok (.aload_n 0, 1) := by decide +kernel
theorem dX0_copyFrom_38 : decode cX0_copyFrom 38 = .ok (.getfield 9, 3) := by decide +kernel
theorem dX0_copyFrom_41 : decode cX0_copyFrom 41 = .ok (.iconst 0, 1) := by decide +kernel
theorem dX0_copyFrom_42 : decode cX0_copyFrom 42 = .ok (.bipush 8, 2) := by decide +kernel
theorem dX0_copyFrom_44 : decode cX0_copyFrom 44 = .ok (.invokestatic 36, 3) := by decide +kernel
theorem dX0_copyFrom_47 : decode cX0_copyFrom 47 = .ok (.aload_n 0, 1) := by decide +kernel
theorem dX0_copyFrom_48 : decode cX0_copyFrom 48 = .ok (.getfield 18, 3) := by decide +kernel
theorem dX0_copyFrom_51 : decode cX0_copyFrom 51 = .ok (.aload_n 1, 1) := by decide +kernel
theorem dX0_copyFrom_52 : decode cX0_copyFrom 52 = .ok (.getfield 18, 3) := by decide +kernel
theorem dX0_copyFrom_55 : decode cX0_copyFrom 55 = .ok (.invokevirtual 42, 3) := by decide +kernel
theorem dX0_copyFrom_58 : decode cX0_copyFrom 58 = .ok (.return_, 1) := by decide +kernel
theorem bX0_copyFrom_0 {d mc ms : Nat} {al : Bool} {bc bs : Nat} {Γ : am_G} {I : am_I} {L : am_L} {Q : am_Q} {v0 : Nat} {v1 : Nat} {r3 : Nat} {r5 : Nat} {n_r3 : Nat} {n_r5 : Nat} {r11 : Nat} {r13 : Nat} {I' : am_I} {L' : am_L} {mc' : Nat} {ms' : Nat} (o1 : am_ob Γ v1 0) (o2 : am_ob Γ v0 0) (g4 : Γ.2.2 v1 4 = some r3) (g6 : Γ.2.2 v0 4 = some r5) (a7 : am_ar Γ r3 1 n_r3 0) (a8 : am_ar Γ r5 1 n_r5 0) (z9 : (0 : Int32).toNatClampNeg + (8 : Int32).toNatClampNeg ≤ n_r3) (z10 : (0 : Int32).toNatClampNeg + (8 : Int32).toNatClampNeg ≤ n_r5) (g12 : Γ.2.2 v0 5 = some r11) (g14 : Γ.2.2 v1 5 = some r13) (o15 : am_ob Γ r11 7) (hbc : mc' ≤ bc) (hbs : ms' ≤ bs) (hC : am_E m_X7_copyFrom d mc' ms' [.ref r11, .ref r13] Γ (am_cI (am_u (am_u (am_u I v0 1 (I v1 1)) v0 2 ((am_u I v0 1 (I v1 1)) v1 2)) v0 3 ((am_u (am_u I v0 1 (I v1 1)) v0 2 ((am_u I v0 1 (I v1 1)) v1 2)) v1 3)) r3 r5 ((0 : Int32).toNatClampNeg) ((0 : Int32).toNatClampNeg) ((8 : Int32).toNatClampNeg)) (am_ul L v0 0 (L v1 0)) (.inl none) I' L') (kk : am_W m_X0_copyFrom (d + 1) mc ms al (bc - mc') (bs - ms') 58 [(0, .ref v0), (1, .ref v1)] [] Γ I' L' Q) : am_W m_X0_copyFrom (d + 1) mc ms al bc bs 0 [(0, .ref v0), (1, .ref v1)] [] Γ I L Q := by
  refine aw_aload_n dX0_copyFrom_0 rfl ?_
  refine aw_aload_n dX0_copyFrom_1 rfl ?_
  refine aw_getL dX0_copyFrom_2 f_X0_22 o1 rfl ?_
  refine aw_putL dX0_copyFrom_5 p_X0_22 o2 rfl ?_
  refine aw_aload_n dX0_copyFrom_8 rfl ?_
  refine aw_aload_n dX0_copyFrom_9 rfl ?_
  refine aw_getI dX0_copyFrom_10 f_X0_26 o1 rfl ?_
  refine aw_putI dX0_copyFrom_13 p_X0_26 o2 rfl ?_
  refine aw_aload_n dX0_copyFrom_16 rfl ?_
  refine aw_aload_n dX0_copyFrom_17 rfl ?_
  refine aw_getI dX0_copyFrom_18 f_X0_30 o1 rfl ?_
  refine aw_putI dX0_copyFrom_21 p_X0_30 o2 rfl ?_
  refine aw_aload_n dX0_copyFrom_24 rfl ?_
  refine aw_aload_n dX0_copyFrom_25 rfl ?_
  refine aw_getI dX0_copyFrom_26 f_X0_33 o1 rfl ?_
  refine aw_putI dX0_copyFrom_29 p_X0_33 o2 rfl ?_
  refine aw_aload_n dX0_copyFrom_32 rfl ?_
  refine aw_getR dX0_copyFrom_33 f_X0_9 o1 rfl g4 ?_
  refine aw_iconst dX0_copyFrom_36 ci_0 ?_
  refine aw_aload_n dX0_copyFrom_37 rfl ?_
  refine aw_getR dX0_copyFrom_38 f_X0_9 o2 rfl g6 ?_
  refine aw_iconst dX0_copyFrom_41 ci_0 ?_
  refine aw_bipush dX0_copyFrom_42 cb_8 ?_
  refine aw_copyi dX0_copyFrom_44 sk_X0_36 a7 a8 (by decide) (by decide) (by decide) z9 z10 (Nat.le_of_ble_eq_true rfl) ?_
  refine aw_aload_n dX0_copyFrom_47 rfl ?_
  refine aw_getR dX0_copyFrom_48 f_X0_18 o2 rfl g12 ?_
  refine aw_aload_n dX0_copyFrom_51 rfl ?_
  refine aw_getR dX0_copyFrom_52 f_X0_18 o1 rfl g14 ?_
  exact aw_askV (as := [.ref r13]) (rst := []) k_X7_copyFrom l_X0_42 i_X7_copyFrom s_X7_copyFrom rfl o15 dX0_copyFrom_55 rfl (Nat.le_of_ble_eq_true rfl) hbc hbs hC rfl rfl kk
theorem bX0_copyFrom_58 {d mc ms : Nat} {al : Bool} {bc bs : Nat} {Γ : am_G} {I : am_I} {L : am_L} {Q : am_Q} {v0 : Nat} {v1 : Nat} (hq : Q (.inl none) Γ I L) : am_W m_X0_copyFrom d mc ms al bc bs 58 [(0, .ref v0), (1, .ref v1)] [] Γ I L Q := by
  exact aw_vret dX0_copyFrom_58 rfl hq
theorem dX0_opensAt_0 : decode cX0_opensAt 0 = .ok (.aload_n 0, 1) := by decide +kernel
theorem dX0_opensAt_1 : decode cX0_opensAt 1 = .ok (.getfield 26, 3) := by decide +kernel
theorem dX0_opensAt_4 : decode cX0_opensAt 4 = .ok (.aload_n 0, 1) := by decide +kernel
theorem dX0_opensAt_5 : decode cX0_opensAt 5 = .ok (.getfield 30, 3) := by decide +kernel
theorem dX0_opensAt_8 : decode cX0_opensAt 8 = .ok (.if_icmp .gt 25, 3) := by decide +kernel
theorem dX0_opensAt_11 : decode cX0_opensAt 11 = .ok (.aload_n 0, 1) := by decide +kernel
theorem dX0_opensAt_12 : decode cX0_opensAt 12 = .ok (.getfield 26, 3) := by decide +kernel
theorem dX0_opensAt_15 : decode cX0_opensAt 15 = .ok (.iload_n 1, 1) := by decide +kernel
theorem dX0_opensAt_16 : decode cX0_opensAt 16 = .ok (.if_icmp .gt 15, 3) := by decide +kernel
theorem dX0_opensAt_19 : decode cX0_opensAt 19 = .ok (.iload_n 1, 1) := by decide +kernel
theorem dX0_opensAt_20 : decode cX0_opensAt 20 = .ok (.aload_n 0, 1) := by decide +kernel
theorem dX0_opensAt_21 : decode cX0_opensAt 21 = .ok (.getfield 30, 3) := by decide +kernel
theorem dX0_opensAt_24 : decode cX0_opensAt 24 = .ok (.if_icmp .gt 7, 3) := by decide +kernel
theorem dX0_opensAt_27 : decode cX0_opensAt 27 = .ok (.iconst 1, 1) := by decide +kernel
theorem dX0_opensAt_28 : decode cX0_opensAt 28 = .ok (.goto 4, 3) := by decide +kernel
theorem dX0_opensAt_31 : decode cX0_opensAt 31 = .ok (.iconst 0, 1) := by decide +kernel
theorem dX0_opensAt_32 : decode cX0_opensAt 32 = .ok (.ireturn, 1) := by decide +kernel
theorem dX0_opensAt_33 : decode cX0_opensAt 33 = .ok (.aload_n 0, 1) := by decide +kernel
theorem dX0_opensAt_34 : decode cX0_opensAt 34 = .ok (.getfield 26, 3) := by decide +kernel
theorem dX0_opensAt_37 : decode cX0_opensAt 37 = .ok (.iload_n 1, 1) := by decide +kernel
theorem dX0_opensAt_38 : decode cX0_opensAt 38 = .ok (.if_icmp .le 11, 3) := by decide +kernel
theorem dX0_opensAt_41 : decode cX0_opensAt 41 = .ok (.iload_n 1, 1) := by decide +kernel
theorem dX0_opensAt_42 : decode cX0_opensAt 42 = .ok (.aload_n 0, 1) := by decide +kernel
theorem dX0_opensAt_43 : decode cX0_opensAt 43 = .ok (.getfield 30, 3) := by decide +kernel
theorem dX0_opensAt_46 : decode cX0_opensAt 46 = .ok (.if_icmp .gt 7, 3) := by decide +kernel
theorem dX0_opensAt_49 : decode cX0_opensAt 49 = .ok (.iconst 1, 1) := by decide +kernel
theorem dX0_opensAt_50 : decode cX0_opensAt 50 = .ok (.goto 4, 3) := by decide +kernel
theorem dX0_opensAt_53 : decode cX0_opensAt 53 = .ok (.iconst 0, 1) := by decide +kernel
theorem dX0_opensAt_54 : decode cX0_opensAt 54 = .ok (.ireturn, 1) := by decide +kernel
theorem bX0_opensAt_0 {d mc ms : Nat} {al : Bool} {bc bs : Nat} {Γ : am_G} {I : am_I} {L : am_L} {Q : am_Q} {v0 : Nat} {v1 : Int32} (o1 : am_ob Γ v0 0) (kt : (I v0 2) < (I v0 1) → am_W m_X0_opensAt d mc ms al bc bs 33 [(0, .ref v0), (1, .int v1)] [] Γ I L Q) (kf : ¬ (I v0 2) < (I v0 1) → am_W m_X0_opensAt d mc ms al bc bs 11 [(0, .ref v0), (1, .int v1)] [] Γ I L Q) : am_W m_X0_opensAt d mc ms al bc bs 0 [(0, .ref v0), (1, .int v1)] [] Γ I L Q := by
  refine aw_aload_n dX0_opensAt_0 rfl ?_
  refine aw_getI dX0_opensAt_1 f_X0_26 o1 rfl ?_
  refine aw_aload_n dX0_opensAt_4 rfl ?_
  refine aw_getI dX0_opensAt_5 f_X0_30 o1 rfl ?_
  exact aw_icmp_gt dX0_opensAt_8 (by decide) kt kf
theorem bX0_opensAt_11 {d mc ms : Nat} {al : Bool} {bc bs : Nat} {Γ : am_G} {I : am_I} {L : am_L} {Q : am_Q} {v0 : Nat} {v1 : Int32} (o1 : am_ob Γ v0 0) (kt : v1 < (I v0 1) → am_W m_X0_opensAt d mc ms al bc bs 31 [(0, .ref v0), (1, .int v1)] [] Γ I L Q) (kf : ¬ v1 < (I v0 1) → am_W m_X0_opensAt d mc ms al bc bs 19 [(0, .ref v0), (1, .int v1)] [] Γ I L Q) : am_W m_X0_opensAt d mc ms al bc bs 11 [(0, .ref v0), (1, .int v1)] [] Γ I L Q := by
  refine aw_aload_n dX0_opensAt_11 rfl ?_
  refine aw_getI dX0_opensAt_12 f_X0_26 o1 rfl ?_
  refine aw_iload_n dX0_opensAt_15 rfl ?_
  exact aw_icmp_gt dX0_opensAt_16 (by decide) kt kf
theorem bX0_opensAt_19 {d mc ms : Nat} {al : Bool} {bc bs : Nat} {Γ : am_G} {I : am_I} {L : am_L} {Q : am_Q} {v0 : Nat} {v1 : Int32} (o1 : am_ob Γ v0 0) (kt : (I v0 2) < v1 → am_W m_X0_opensAt d mc ms al bc bs 31 [(0, .ref v0), (1, .int v1)] [] Γ I L Q) (kf : ¬ (I v0 2) < v1 → am_W m_X0_opensAt d mc ms al bc bs 27 [(0, .ref v0), (1, .int v1)] [] Γ I L Q) : am_W m_X0_opensAt d mc ms al bc bs 19 [(0, .ref v0), (1, .int v1)] [] Γ I L Q := by
  refine aw_iload_n dX0_opensAt_19 rfl ?_
  refine aw_aload_n dX0_opensAt_20 rfl ?_
  refine aw_getI dX0_opensAt_21 f_X0_30 o1 rfl ?_
  exact aw_icmp_gt dX0_opensAt_24 (by decide) kt kf
theorem bX0_opensAt_27 {d mc ms : Nat} {al : Bool} {bc bs : Nat} {Γ : am_G} {I : am_I} {L : am_L} {Q : am_Q} {v0 : Nat} {v1 : Int32} (kk : am_W m_X0_opensAt d mc ms al bc bs 32 [(0, .ref v0), (1, .int v1)] [.int 1] Γ I L Q) : am_W m_X0_opensAt d mc ms al bc bs 27 [(0, .ref v0), (1, .int v1)] [] Γ I L Q := by
  refine aw_iconst dX0_opensAt_27 ci_1 ?_
  exact aw_goto dX0_opensAt_28 (by decide) kk
theorem bX0_opensAt_31 {d mc ms : Nat} {al : Bool} {bc bs : Nat} {Γ : am_G} {I : am_I} {L : am_L} {Q : am_Q} {v0 : Nat} {v1 : Int32} (kk : am_W m_X0_opensAt d mc ms al bc bs 32 [(0, .ref v0), (1, .int v1)] [.int 0] Γ I L Q) : am_W m_X0_opensAt d mc ms al bc bs 31 [(0, .ref v0), (1, .int v1)] [] Γ I L Q := by
  refine aw_iconst dX0_opensAt_31 ci_0 ?_
  exact kk
theorem bX0_opensAt_32 {d mc ms : Nat} {al : Bool} {bc bs : Nat} {Γ : am_G} {I : am_I} {L : am_L} {Q : am_Q} {v0 : Nat} {v1 : Int32} {w0 : Int32} (hz : narrow .boolean (.int w0) = .int w0) (hq : Q (.inl (some (.int w0))) Γ I L) : am_W m_X0_opensAt d mc ms al bc bs 32 [(0, .ref v0), (1, .int v1)] [.int w0] Γ I L Q := by
  exact aw_zret (ty := .boolean) dX0_opensAt_32 rfl hz hq
theorem bX0_opensAt_33 {d mc ms : Nat} {al : Bool} {bc bs : Nat} {Γ : am_G} {I : am_I} {L : am_L} {Q : am_Q} {v0 : Nat} {v1 : Int32} (o1 : am_ob Γ v0 0) (kt : (I v0 1) ≤ v1 → am_W m_X0_opensAt d mc ms al bc bs 49 [(0, .ref v0), (1, .int v1)] [] Γ I L Q) (kf : ¬ (I v0 1) ≤ v1 → am_W m_X0_opensAt d mc ms al bc bs 41 [(0, .ref v0), (1, .int v1)] [] Γ I L Q) : am_W m_X0_opensAt d mc ms al bc bs 33 [(0, .ref v0), (1, .int v1)] [] Γ I L Q := by
  refine aw_aload_n dX0_opensAt_33 rfl ?_
  refine aw_getI dX0_opensAt_34 f_X0_26 o1 rfl ?_
  refine aw_iload_n dX0_opensAt_37 rfl ?_
  exact aw_icmp_le dX0_opensAt_38 (by decide) kt kf
theorem bX0_opensAt_41 {d mc ms : Nat} {al : Bool} {bc bs : Nat} {Γ : am_G} {I : am_I} {L : am_L} {Q : am_Q} {v0 : Nat} {v1 : Int32} (o1 : am_ob Γ v0 0) (kt : (I v0 2) < v1 → am_W m_X0_opensAt d mc ms al bc bs 53 [(0, .ref v0), (1, .int v1)] [] Γ I L Q) (kf : ¬ (I v0 2) < v1 → am_W m_X0_opensAt d mc ms al bc bs 49 [(0, .ref v0), (1, .int v1)] [] Γ I L Q) : am_W m_X0_opensAt d mc ms al bc bs 41 [(0, .ref v0), (1, .int v1)] [] Γ I L Q := by
  refine aw_iload_n dX0_opensAt_41 rfl ?_
  refine aw_aload_n dX0_opensAt_42 rfl ?_
  refine aw_getI dX0_opensAt_43 f_X0_30 o1 rfl ?_
  exact aw_icmp_gt dX0_opensAt_46 (by decide) kt kf
theorem bX0_opensAt_49 {d mc ms : Nat} {al : Bool} {bc bs : Nat} {Γ : am_G} {I : am_I} {L : am_L} {Q : am_Q} {v0 : Nat} {v1 : Int32} (kk : am_W m_X0_opensAt d mc ms al bc bs 54 [(0, .ref v0), (1, .int v1)] [.int 1] Γ I L Q) : am_W m_X0_opensAt d mc ms al bc bs 49 [(0, .ref v0), (1, .int v1)] [] Γ I L Q := by
  refine aw_iconst dX0_opensAt_49 ci_1 ?_
  exact aw_goto dX0_opensAt_50 (by decide) kk
theorem bX0_opensAt_53 {d mc ms : Nat} {al : Bool} {bc bs : Nat} {Γ : am_G} {I : am_I} {L : am_L} {Q : am_Q} {v0 : Nat} {v1 : Int32} (kk : am_W m_X0_opensAt d mc ms al bc bs 54 [(0, .ref v0), (1, .int v1)] [.int 0] Γ I L Q) : am_W m_X0_opensAt d mc ms al bc bs 53 [(0, .ref v0), (1, .int v1)] [] Γ I L Q := by
  refine aw_iconst dX0_opensAt_53 ci_0 ?_
  exact kk
theorem bX0_opensAt_54 {d mc ms : Nat} {al : Bool} {bc bs : Nat} {Γ : am_G} {I : am_I} {L : am_L} {Q : am_Q} {v0 : Nat} {v1 : Int32} {w0 : Int32} (hz : narrow .boolean (.int w0) = .int w0) (hq : Q (.inl (some (.int w0))) Γ I L) : am_W m_X0_opensAt d mc ms al bc bs 54 [(0, .ref v0), (1, .int v1)] [.int w0] Γ I L Q := by
  exact aw_zret (ty := .boolean) dX0_opensAt_54 rfl hz hq
theorem dX0_waitFrom_0 : decode cX0_waitFrom 0 = .ok (.aload_n 0, 1) := by decide +kernel
theorem dX0_waitFrom_1 : decode cX0_waitFrom 1 = .ok (.iload_n 1, 1) := by decide +kernel
theorem dX0_waitFrom_2 : decode cX0_waitFrom 2 = .ok (.invokevirtual 46, 3) := by decide +kernel
theorem dX0_waitFrom_5 : decode cX0_waitFrom 5 = .ok (.ifCond .eq 5, 3) := by decide +kernel
theorem dX0_waitFrom_8 : decode cX0_waitFrom 8 = .ok (.iconst 0, 1) := by decide +kernel
theorem dX0_waitFrom_9 : decode cX0_waitFrom 9 = .ok (.ireturn, 1) := by decide +kernel
theorem dX0_waitFrom_10 : decode cX0_waitFrom 10 = .ok (.aload_n 0, 1) := by decide +kernel
theorem dX0_waitFrom_11 : decode cX0_waitFrom 11 = .ok (.getfield 26, 3) := by decide +kernel
theorem dX0_waitFrom_14 : decode cX0_waitFrom 14 = .ok (.iload_n 1, 1) := by decide +kernel
theorem dX0_waitFrom_15 : decode cX0_waitFrom 15 = .ok (.isub, 1) := by decide +kernel
theorem dX0_waitFrom_16 : decode cX0_waitFrom 16 = .ok (.bipush 24, 2) := by decide +kernel
theorem dX0_waitFrom_18 : decode cX0_waitFrom 18 = .ok (.iadd, 1) := by decide +kernel
theorem dX0_waitFrom_19 : decode cX0_waitFrom 19 = .ok (.bipush 24, 2) := by decide +kernel
theorem dX0_waitFrom_21 : decode cX0_waitFrom 21 = .ok (.irem, 1) := by decide +kernel
theorem dX0_waitFrom_22 : decode cX0_waitFrom 22 = .ok (.ireturn, 1) := by decide +kernel
theorem bX0_waitFrom_0 {d mc ms : Nat} {al : Bool} {bc bs : Nat} {Γ : am_G} {I : am_I} {L : am_L} {Q : am_Q} {v0 : Nat} {v1 : Int32} {I' : am_I} {L' : am_L} {mc' : Nat} {ms' : Nat} {r : Int32} (o1 : am_ob Γ v0 0) (hbc : mc' ≤ bc) (hbs : ms' ≤ bs) (hC : am_E m_X0_opensAt d mc' ms' [.ref v0, .int v1] Γ I L (.inl (some (.int r))) I' L') (kk : am_W m_X0_waitFrom (d + 1) mc ms al (bc - mc') (bs - ms') 5 [(0, .ref v0), (1, .int v1)] [.int r] Γ I' L' Q) : am_W m_X0_waitFrom (d + 1) mc ms al bc bs 0 [(0, .ref v0), (1, .int v1)] [] Γ I L Q := by
  refine aw_aload_n dX0_waitFrom_0 rfl ?_
  refine aw_iload_n dX0_waitFrom_1 rfl ?_
  exact aw_askV (as := [.int v1]) (rst := []) k_X0_opensAt l_X0_46 i_X0_opensAt s_X0_opensAt rfl o1 dX0_waitFrom_2 rfl (Nat.le_of_ble_eq_true rfl) hbc hbs hC rfl rfl kk
theorem bX0_waitFrom_5 {d mc ms : Nat} {al : Bool} {bc bs : Nat} {Γ : am_G} {I : am_I} {L : am_L} {Q : am_Q} {v0 : Nat} {v1 : Int32} {w0 : Int32} (kt : w0 = 0 → am_W m_X0_waitFrom d mc ms al bc bs 10 [(0, .ref v0), (1, .int v1)] [] Γ I L Q) (kf : ¬ w0 = 0 → am_W m_X0_waitFrom d mc ms al bc bs 8 [(0, .ref v0), (1, .int v1)] [] Γ I L Q) : am_W m_X0_waitFrom d mc ms al bc bs 5 [(0, .ref v0), (1, .int v1)] [.int w0] Γ I L Q := by
  exact aw_if_eq dX0_waitFrom_5 (by decide) kt kf
theorem bX0_waitFrom_8 {d mc ms : Nat} {al : Bool} {bc bs : Nat} {Γ : am_G} {I : am_I} {L : am_L} {Q : am_Q} {v0 : Nat} {v1 : Int32} (hq : Q (.inl (some (.int 0))) Γ I L) : am_W m_X0_waitFrom d mc ms al bc bs 8 [(0, .ref v0), (1, .int v1)] [] Γ I L Q := by
  refine aw_iconst dX0_waitFrom_8 ci_0 ?_
  exact aw_iret dX0_waitFrom_9 rfl hq
theorem bX0_waitFrom_10 {d mc ms : Nat} {al : Bool} {bc bs : Nat} {Γ : am_G} {I : am_I} {L : am_L} {Q : am_Q} {v0 : Nat} {v1 : Int32} (o1 : am_ob Γ v0 0) (hq : Q (.inl (some (.int ((((I v0 1) - v1) + 24) - (((I v0 1) - v1) + 24) / 24 * 24)))) Γ I L) : am_W m_X0_waitFrom d mc ms al bc bs 10 [(0, .ref v0), (1, .int v1)] [] Γ I L Q := by
  refine aw_aload_n dX0_waitFrom_10 rfl ?_
  refine aw_getI dX0_waitFrom_11 f_X0_26 o1 rfl ?_
  refine aw_iload_n dX0_waitFrom_14 rfl ?_
  refine aw_isub dX0_waitFrom_15 ?_
  refine aw_bipush dX0_waitFrom_16 cb_24 ?_
  refine aw_iadd dX0_waitFrom_18 ?_
  refine aw_bipush dX0_waitFrom_19 cb_24 ?_
  refine aw_irem dX0_waitFrom_21 (by decide) ?_
  exact aw_iret dX0_waitFrom_22 rfl hq
theorem dX0_weight_0 : decode cX0_weight 0 = .ok (.iconst 0, 1) := by decide +kernel
theorem dX0_weight_1 : decode cX0_weight 1 = .ok (.istore_n 2, 1) := by decide +kernel
theorem dX0_weight_2 : decode cX0_weight 2 = .ok (.iconst 0, 1) := by decide +kernel
theorem dX0_weight_3 : decode cX0_weight 3 = .ok (.istore_n 3, 1) := by decide +kernel
theorem dX0_weight_4 : decode cX0_weight 4 = .ok (.iload_n 3, 1) := by decide +kernel
theorem dX0_weight_5 : decode cX0_weight 5 = .ok (.bipush 8, 2) := by decide +kernel
theorem dX0_weight_7 : decode cX0_weight 7 = .ok (.if_icmp .ge 26, 3) := by decide +kernel
theorem dX0_weight_10 : decode cX0_weight 10 = .ok (.iload_n 1, 1) := by decide +kernel
theorem dX0_weight_11 : decode cX0_weight 11 = .ok (.iload_n 3, 1) := by decide +kernel
theorem dX0_weight_12 : decode cX0_weight 12 = .ok (.invokestatic 50, 3) := by decide +kernel
theorem dX0_weight_15 : decode cX0_weight 15 = .ok (.ifCond .eq 12, 3) := by decide +kernel
theorem dX0_weight_18 : decode cX0_weight 18 = .ok (.iload_n 2, 1) := by decide +kernel
theorem dX0_weight_19 : decode cX0_weight 19 = .ok (.aload_n 0, 1) := by decide +kernel
theorem dX0_weight_20 : decode cX0_weight 20 = .ok (.getfield 9, 3) := by decide +kernel
theorem dX0_weight_23 : decode cX0_weight 23 = .ok (.iload_n 3, 1) := by decide +kernel
theorem dX0_weight_24 : decode cX0_weight 24 = .ok (.iaload, 1) := by decide +kernel
theorem dX0_weight_25 : decode cX0_weight 25 = .ok (.iadd, 1) := by decide +kernel
theorem dX0_weight_26 : decode cX0_weight 26 = .ok (.istore_n 2, 1) := by decide +kernel
theorem dX0_weight_27 : decode cX0_weight 27 = .ok (.iinc 3 1, 3) := by decide +kernel
theorem dX0_weight_30 : decode cX0_weight 30 = .ok (.goto (-26), 3) := by decide +kernel
theorem dX0_weight_33 : decode cX0_weight 33 = .ok (.iload_n 2, 1) := by decide +kernel
theorem dX0_weight_34 : decode cX0_weight 34 = .ok (.ireturn, 1) := by decide +kernel
theorem bX0_weight_0 {d mc ms : Nat} {al : Bool} {bc bs : Nat} {Γ : am_G} {I : am_I} {L : am_L} {Q : am_Q} {v0 : Nat} {v1 : Int32} (kk : am_W m_X0_weight d mc ms al bc bs 4 [(0, .ref v0), (1, .int v1), (2, .int 0), (3, .int 0)] [] Γ I L Q) : am_W m_X0_weight d mc ms al bc bs 0 [(0, .ref v0), (1, .int v1)] [] Γ I L Q := by
  refine aw_iconst dX0_weight_0 ci_0 ?_
  refine aw_istore_n (ls' := [(0, .ref v0), (1, .int v1), (2, .int 0)]) dX0_weight_1 (by decide) rfl ?_
  refine aw_iconst dX0_weight_2 ci_0 ?_
  refine aw_istore_n (ls' := [(0, .ref v0), (1, .int v1), (2, .int 0), (3, .int 0)]) dX0_weight_3 (by decide) rfl ?_
  exact kk
theorem bX0_weight_4 {d mc ms : Nat} {al : Bool} {bc bs : Nat} {Γ : am_G} {I : am_I} {L : am_L} {Q : am_Q} {v0 : Nat} {v1 : Int32} {v2 : Int32} {v3 : Int32} (kt : 8 ≤ v3 → am_W m_X0_weight d mc ms al bc bs 33 [(0, .ref v0), (1, .int v1), (2, .int v2), (3, .int v3)] [] Γ I L Q) (kf : ¬ 8 ≤ v3 → am_W m_X0_weight d mc ms al bc bs 10 [(0, .ref v0), (1, .int v1), (2, .int v2), (3, .int v3)] [] Γ I L Q) : am_W m_X0_weight d mc ms al bc bs 4 [(0, .ref v0), (1, .int v1), (2, .int v2), (3, .int v3)] [] Γ I L Q := by
  refine aw_iload_n dX0_weight_4 rfl ?_
  refine aw_bipush dX0_weight_5 cb_8 ?_
  exact aw_icmp_ge dX0_weight_7 (by decide) kt kf
theorem bX0_weight_10 {d mc ms : Nat} {al : Bool} {bc bs : Nat} {Γ : am_G} {I : am_I} {L : am_L} {Q : am_Q} {v0 : Nat} {v1 : Int32} {v2 : Int32} {v3 : Int32} {I' : am_I} {L' : am_L} {mc' : Nat} {ms' : Nat} {r : Int32} (hbc : mc' ≤ bc) (hbs : ms' ≤ bs) (hC : am_E m_X8_holds d mc' ms' [.int v1, .int v3] Γ I L (.inl (some (.int r))) I' L') (kk : am_W m_X0_weight (d + 1) mc ms al (bc - mc') (bs - ms') 15 [(0, .ref v0), (1, .int v1), (2, .int v2), (3, .int v3)] [.int r] Γ I' L' Q) : am_W m_X0_weight (d + 1) mc ms al bc bs 10 [(0, .ref v0), (1, .int v1), (2, .int v2), (3, .int v3)] [] Γ I L Q := by
  refine aw_iload_n dX0_weight_10 rfl ?_
  refine aw_iload_n dX0_weight_11 rfl ?_
  exact aw_askN (as := [.int v1, .int v3]) (rst := []) k_X8_holds ln_X0_50 t_X8_holds dX0_weight_12 rfl (Nat.le_of_ble_eq_true rfl) hbc hbs hC rfl rfl kk
theorem bX0_weight_15 {d mc ms : Nat} {al : Bool} {bc bs : Nat} {Γ : am_G} {I : am_I} {L : am_L} {Q : am_Q} {v0 : Nat} {v1 : Int32} {v2 : Int32} {v3 : Int32} {w0 : Int32} (kt : w0 = 0 → am_W m_X0_weight d mc ms al bc bs 27 [(0, .ref v0), (1, .int v1), (2, .int v2), (3, .int v3)] [] Γ I L Q) (kf : ¬ w0 = 0 → am_W m_X0_weight d mc ms al bc bs 18 [(0, .ref v0), (1, .int v1), (2, .int v2), (3, .int v3)] [] Γ I L Q) : am_W m_X0_weight d mc ms al bc bs 15 [(0, .ref v0), (1, .int v1), (2, .int v2), (3, .int v3)] [.int w0] Γ I L Q := by
  exact aw_if_eq dX0_weight_15 (by decide) kt kf
theorem bX0_weight_18 {d mc ms : Nat} {al : Bool} {bc bs : Nat} {Γ : am_G} {I : am_I} {L : am_L} {Q : am_Q} {v0 : Nat} {v1 : Int32} {v2 : Int32} {v3 : Int32} {r2 : Nat} {n_r2 : Nat} (o1 : am_ob Γ v0 0) (g3 : Γ.2.2 v0 4 = some r2) (a4 : am_ar Γ r2 1 n_r2 0) (i5 : vp_in v3 n_r2) (kk : am_W m_X0_weight d mc ms al bc bs 27 [(0, .ref v0), (1, .int v1), (2, .int (v2 + (I r2 (v3.toNatClampNeg)))), (3, .int v3)] [] Γ I L Q) : am_W m_X0_weight d mc ms al bc bs 18 [(0, .ref v0), (1, .int v1), (2, .int v2), (3, .int v3)] [] Γ I L Q := by
  refine aw_iload_n dX0_weight_18 rfl ?_
  refine aw_aload_n dX0_weight_19 rfl ?_
  refine aw_getR dX0_weight_20 f_X0_9 o1 rfl g3 ?_
  refine aw_iload_n dX0_weight_23 rfl ?_
  refine aw_iald dX0_weight_24 a4 i5 ?_
  refine aw_iadd dX0_weight_25 ?_
  refine aw_istore_n (ls' := [(0, .ref v0), (1, .int v1), (2, .int (v2 + (I r2 (v3.toNatClampNeg)))), (3, .int v3)]) dX0_weight_26 (by decide) rfl ?_
  exact kk
theorem bX0_weight_27 {d mc ms : Nat} {al : Bool} {bc bs : Nat} {Γ : am_G} {I : am_I} {L : am_L} {Q : am_Q} {v0 : Nat} {v1 : Int32} {v2 : Int32} {v3 : Int32} (kk : am_W m_X0_weight d mc ms al bc bs 4 [(0, .ref v0), (1, .int v1), (2, .int v2), (3, .int (v3 + 1))] [] Γ I L Q) : am_W m_X0_weight d mc ms al bc bs 27 [(0, .ref v0), (1, .int v1), (2, .int v2), (3, .int v3)] [] Γ I L Q := by
  refine aw_iinc (ls' := [(0, .ref v0), (1, .int v1), (2, .int v2), (3, .int (v3 + 1))]) dX0_weight_27 rfl (cn_1 _) (by decide) rfl ?_
  exact aw_goto dX0_weight_30 (by decide) kk
theorem bX0_weight_33 {d mc ms : Nat} {al : Bool} {bc bs : Nat} {Γ : am_G} {I : am_I} {L : am_L} {Q : am_Q} {v0 : Nat} {v1 : Int32} {v2 : Int32} {v3 : Int32} (hq : Q (.inl (some (.int v2))) Γ I L) : am_W m_X0_weight d mc ms al bc bs 33 [(0, .ref v0), (1, .int v1), (2, .int v2), (3, .int v3)] [] Γ I L Q := by
  refine aw_iload_n dX0_weight_33 rfl ?_
  exact aw_iret dX0_weight_34 rfl hq
theorem dX0_addCarts_0 : decode cX0_addCarts 0 = .ok (.aload_n 0, 1) := by decide +kernel
theorem dX0_addCarts_1 : decode cX0_addCarts 1 = .ok (.getfield 9, 3) := by decide +kernel
theorem dX0_addCarts_4 : decode cX0_addCarts 4 = .ok (.iload_n 1, 1) := by decide +kernel
theorem dX0_addCarts_5 : decode cX0_addCarts 5 = .ok (.sipush 9999, 3) := by decide +kernel
theorem dX0_addCarts_8 : decode cX0_addCarts 8 = .ok (.aload_n 0, 1) := by decide +kernel
theorem dX0_addCarts_9 : decode cX0_addCarts 9 = .ok (.getfield 9, 3) := by decide +kernel
theorem dX0_addCarts_12 : decode cX0_addCarts 12 = .ok (.iload_n 1, 1) := by decide +kernel
theorem dX0_addCarts_13 : decode cX0_addCarts 13 = .ok (.iaload, 1) := by decide +kernel
theorem dX0_addCarts_14 : decode cX0_addCarts 14 = .ok (.iload_n 2, 1) := by decide +kernel
theorem dX0_addCarts_15 : decode cX0_addCarts 15 = .ok (.iadd, 1) := by decide +kernel
theorem dX0_addCarts_16 : decode cX0_addCarts 16 = .ok (.invokestatic 54, 3) := by decide +kernel
theorem dX0_addCarts_19 : decode cX0_addCarts 19 = .ok (.iastore, 1) := by decide +kernel
theorem dX0_addCarts_20 : decode cX0_addCarts 20 = .ok (.return_, 1) := by decide +kernel
theorem bX0_addCarts_0 {d mc ms : Nat} {al : Bool} {bc bs : Nat} {Γ : am_G} {I : am_I} {L : am_L} {Q : am_Q} {v0 : Nat} {v1 : Int32} {v2 : Int32} {r2 : Nat} {n_r2 : Nat} (o1 : am_ob Γ v0 0) (g3 : Γ.2.2 v0 4 = some r2) (a4 : am_ar Γ r2 1 n_r2 0) (i5 : vp_in v1 n_r2) (hq : Q (.inl none) Γ (am_u I r2 (v1.toNatClampNeg) (if ((I r2 (v1.toNatClampNeg)) + v2) < 9999 then ((I r2 (v1.toNatClampNeg)) + v2) else 9999)) L) : am_W m_X0_addCarts d mc ms al bc bs 0 [(0, .ref v0), (1, .int v1), (2, .int v2)] [] Γ I L Q := by
  refine aw_aload_n dX0_addCarts_0 rfl ?_
  refine aw_getR dX0_addCarts_1 f_X0_9 o1 rfl g3 ?_
  refine aw_iload_n dX0_addCarts_4 rfl ?_
  refine aw_sipush dX0_addCarts_5 cs_9999 ?_
  refine aw_aload_n dX0_addCarts_8 rfl ?_
  refine aw_getR dX0_addCarts_9 f_X0_9 o1 rfl g3 ?_
  refine aw_iload_n dX0_addCarts_12 rfl ?_
  refine aw_iald dX0_addCarts_13 a4 i5 ?_
  refine aw_iload_n dX0_addCarts_14 rfl ?_
  refine aw_iadd dX0_addCarts_15 ?_
  refine aw_min dX0_addCarts_16 mf_X0_54 (Nat.le_of_ble_eq_true rfl) ?_
  refine aw_iast dX0_addCarts_19 a4 i5 ?_
  exact aw_vret dX0_addCarts_20 rfl hq
theorem dX0_halve_0 : decode cX0_halve 0 = .ok (.iconst 0, 1) := by decide +kernel
theorem dX0_halve_1 : decode cX0_halve 1 = .ok (.istore_n 1, 1) := by decide +kernel
theorem dX0_halve_2 : decode cX0_halve 2 = .ok (.iload_n 1, 1) := by decide +kernel
theorem dX0_halve_3 : decode cX0_halve 3 = .ok (.bipush 8, 2) := by decide +kernel
theorem dX0_halve_5 : decode cX0_halve 5 = .ok (.if_icmp .ge 19, 3) := by decide +kernel
theorem dX0_halve_8 : decode cX0_halve 8 = .ok (.aload_n 0, 1) := by decide +kernel
theorem dX0_halve_9 : decode cX0_halve 9 = .ok (.getfield 9, 3) := by decide +kernel
theorem dX0_halve_12 : decode cX0_halve 12 = .ok (.iload_n 1, 1) := by decide +kernel
theorem dX0_halve_13 : decode cX0_halve 13 = .ok (.dup2, 1) := by decide +kernel
theorem dX0_halve_14 : decode cX0_halve 14 = .ok (.iaload, 1) := by decide +kernel
theorem dX0_halve_15 : decode cX0_halve 15 = .ok (.iconst 2, 1) := by decide +kernel
theorem dX0_halve_16 : decode cX0_halve 16 = .ok (.idiv, 1) := by decide +kernel
theorem dX0_halve_17 : decode cX0_halve 17 = .ok (.iastore, 1) := by decide +kernel
theorem dX0_halve_18 : decode cX0_halve 18 = .ok (.iinc 1 1, 3) := by decide +kernel
theorem dX0_halve_21 : decode cX0_halve 21 = .ok (.goto (-19), 3) := by decide +kernel
theorem dX0_halve_24 : decode cX0_halve 24 = .ok (.return_, 1) := by decide +kernel
theorem bX0_halve_0 {d mc ms : Nat} {al : Bool} {bc bs : Nat} {Γ : am_G} {I : am_I} {L : am_L} {Q : am_Q} {v0 : Nat} (kk : am_W m_X0_halve d mc ms al bc bs 2 [(0, .ref v0), (1, .int 0)] [] Γ I L Q) : am_W m_X0_halve d mc ms al bc bs 0 [(0, .ref v0)] [] Γ I L Q := by
  refine aw_iconst dX0_halve_0 ci_0 ?_
  refine aw_istore_n (ls' := [(0, .ref v0), (1, .int 0)]) dX0_halve_1 (by decide) rfl ?_
  exact kk
theorem bX0_halve_2 {d mc ms : Nat} {al : Bool} {bc bs : Nat} {Γ : am_G} {I : am_I} {L : am_L} {Q : am_Q} {v0 : Nat} {v1 : Int32} (kt : 8 ≤ v1 → am_W m_X0_halve d mc ms al bc bs 24 [(0, .ref v0), (1, .int v1)] [] Γ I L Q) (kf : ¬ 8 ≤ v1 → am_W m_X0_halve d mc ms al bc bs 8 [(0, .ref v0), (1, .int v1)] [] Γ I L Q) : am_W m_X0_halve d mc ms al bc bs 2 [(0, .ref v0), (1, .int v1)] [] Γ I L Q := by
  refine aw_iload_n dX0_halve_2 rfl ?_
  refine aw_bipush dX0_halve_3 cb_8 ?_
  exact aw_icmp_ge dX0_halve_5 (by decide) kt kf
theorem bX0_halve_8 {d mc ms : Nat} {al : Bool} {bc bs : Nat} {Γ : am_G} {I : am_I} {L : am_L} {Q : am_Q} {v0 : Nat} {v1 : Int32} {r2 : Nat} {n_r2 : Nat} (o1 : am_ob Γ v0 0) (g3 : Γ.2.2 v0 4 = some r2) (a4 : am_ar Γ r2 1 n_r2 0) (i5 : vp_in v1 n_r2) (kk : am_W m_X0_halve d mc ms al bc bs 2 [(0, .ref v0), (1, .int (v1 + 1))] [] Γ (am_u I r2 (v1.toNatClampNeg) ((I r2 (v1.toNatClampNeg)) / 2)) L Q) : am_W m_X0_halve d mc ms al bc bs 8 [(0, .ref v0), (1, .int v1)] [] Γ I L Q := by
  refine aw_aload_n dX0_halve_8 rfl ?_
  refine aw_getR dX0_halve_9 f_X0_9 o1 rfl g3 ?_
  refine aw_iload_n dX0_halve_12 rfl ?_
  refine aw_dup2 dX0_halve_13 rfl rfl ?_
  refine aw_iald dX0_halve_14 a4 i5 ?_
  refine aw_iconst dX0_halve_15 ci_2 ?_
  refine aw_idiv dX0_halve_16 (by decide) ?_
  refine aw_iast dX0_halve_17 a4 i5 ?_
  refine aw_iinc (ls' := [(0, .ref v0), (1, .int (v1 + 1))]) dX0_halve_18 rfl (cn_1 _) (by decide) rfl ?_
  exact aw_goto dX0_halve_21 (by decide) kk
theorem bX0_halve_24 {d mc ms : Nat} {al : Bool} {bc bs : Nat} {Γ : am_G} {I : am_I} {L : am_L} {Q : am_Q} {v0 : Nat} {v1 : Int32} (hq : Q (.inl none) Γ I L) : am_W m_X0_halve d mc ms al bc bs 24 [(0, .ref v0), (1, .int v1)] [] Γ I L Q := by
  exact aw_vret dX0_halve_24 rfl hq
theorem dX1_init_0 : decode cX1_init 0 = .ok (.aload_n 0, 1) := by decide +kernel
theorem dX1_init_1 : decode cX1_init 1 = .ok (.invokespecial 3, 3) := by decide +kernel
theorem dX1_init_4 : decode cX1_init 4 = .ok (.aload_n 0, 1) := by decide +kernel
theorem dX1_init_5 : decode cX1_init 5 = .ok (.bipush 8, 2) := by decide +kernel
theorem dX1_init_7 : decode cX1_init 7 = .ok (.anewarray 9, 3) := by decide +kernel
theorem dX1_init_10 : decode cX1_init 10 = .ok (.putfield 11, 3) := by decide +kernel
theorem dX1_init_13 : decode cX1_init 13 = .ok (.iconst 0, 1) := by decide +kernel
theorem dX1_init_14 : decode cX1_init 14 = .ok (.istore_n 1, 1) := by decide +kernel
theorem dX1_init_15 : decode cX1_init 15 = .ok (.iload_n 1, 1) := by decide +kernel
theorem dX1_init_16 : decode cX1_init 16 = .ok (.bipush 8, 2) := by decide +kernel
theorem dX1_init_18 : decode cX1_init 18 = .ok (.if_icmp .ge 22, 3) := by decide +kernel
theorem dX1_init_21 : decode cX1_init 21 = .ok (.aload_n 0, 1) := by decide +kernel
theorem dX1_init_22 : decode cX1_init 22 = .ok (.getfield 11, 3) := by decide +kernel
theorem dX1_init_25 : decode cX1_init 25 = .ok (.iload_n 1, 1) := by decide +kernel
theorem dX1_init_26 : decode cX1_init 26 = .ok (.new 9, 3) := by decide +kernel
theorem dX1_init_29 : decode cX1_init 29 = .ok (.dup, 1) := by decide +kernel
theorem dX1_init_30 : decode cX1_init 30 = .ok (.invokespecial 17, 3) := by decide +kernel
theorem dX1_init_33 : decode cX1_init 33 = .ok (.aastore, 1) := by decide +kernel
theorem dX1_init_34 : decode cX1_init 34 = .ok (.iinc 1 1, 3) := by decide +kernel
theorem dX1_init_37 : decode cX1_init 37 = .ok (.goto (-22), 3) := by decide +kernel
theorem dX1_init_40 : decode cX1_init 40 = .ok (.return_, 1) := by decide +kernel
theorem bX1_init_15 {d mc ms : Nat} {al : Bool} {bc bs : Nat} {Γ : am_G} {I : am_I} {L : am_L} {Q : am_Q} {v0 : Nat} {v1 : Int32} (kt : 8 ≤ v1 → am_W m_X1_init d mc ms al bc bs 40 [(0, .ref v0), (1, .int v1)] [] Γ I L Q) (kf : ¬ 8 ≤ v1 → am_W m_X1_init d mc ms al bc bs 21 [(0, .ref v0), (1, .int v1)] [] Γ I L Q) : am_W m_X1_init d mc ms al bc bs 15 [(0, .ref v0), (1, .int v1)] [] Γ I L Q := by
  refine aw_iload_n dX1_init_15 rfl ?_
  refine aw_bipush dX1_init_16 cb_8 ?_
  exact aw_icmp_ge dX1_init_18 (by decide) kt kf
theorem bX1_init_40 {d mc ms : Nat} {al : Bool} {bc bs : Nat} {Γ : am_G} {I : am_I} {L : am_L} {Q : am_Q} {v0 : Nat} {v1 : Int32} (hq : Q (.inl none) Γ I L) : am_W m_X1_init d mc ms al bc bs 40 [(0, .ref v0), (1, .int v1)] [] Γ I L Q := by
  exact aw_vret dX1_init_40 rfl hq
theorem dX1_remember_0 : decode cX1_remember 0 = .ok (.aload_n 0, 1) := by decide +kernel
theorem dX1_remember_1 : decode cX1_remember 1 = .ok (.getfield 18, 3) := by decide +kernel
theorem dX1_remember_4 : decode cX1_remember 4 = .ok (.bipush 8, 2) := by decide +kernel
theorem dX1_remember_6 : decode cX1_remember 6 = .ok (.if_icmp .ne 26, 3) := by decide +kernel
theorem dX1_remember_9 : decode cX1_remember 9 = .ok (.aload_n 0, 1) := by decide +kernel
theorem dX1_remember_10 : decode cX1_remember 10 = .ok (.aload_n 0, 1) := by decide +kernel
theorem dX1_remember_11 : decode cX1_remember 11 = .ok (.getfield 22, 3) := by decide +kernel
theorem dX1_remember_14 : decode cX1_remember 14 = .ok (.iconst 1, 1) := by decide +kernel
theorem dX1_remember_15 : decode cX1_remember 15 = .ok (.iadd, 1) := by decide +kernel
theorem dX1_remember_16 : decode cX1_remember 16 = .ok (.bipush 8, 2) := by decide +kernel
theorem dX1_remember_18 : decode cX1_remember 18 = .ok (.irem, 1) := by decide +kernel
theorem dX1_remember_19 : decode cX1_remember 19 = .ok (.putfield 22, 3) := by decide +kernel
theorem dX1_remember_22 : decode cX1_remember 22 = .ok (.aload_n 0, 1) := by decide +kernel
theorem dX1_remember_23 : decode cX1_remember 23 = .ok (.dup, 1) := by decide +kernel
theorem dX1_remember_24 : decode cX1_remember 24 = .ok (.getfield 18, 3) := by decide +kernel
theorem dX1_remember_27 : decode cX1_remember 27 = .ok (.iconst 1, 1) := by decide +kernel
theorem dX1_remember_28 : decode cX1_remember 28 = .ok (.isub, 1) := by decide +kernel
theorem dX1_remember_29 : decode cX1_remember 29 = .ok (.putfield 18, 3) := by decide +kernel
theorem dX1_remember_32 : decode cX1_remember 32 = .ok (.aload_n 0, 1) := by decide +kernel
theorem dX1_remember_33 : decode cX1_remember 33 = .ok (.getfield 11, 3) := by decide +kernel
theorem dX1_remember_36 : decode cX1_remember 36 = .ok (.aload_n 0, 1) := by decide +kernel
theorem dX1_remember_37 : decode cX1_remember 37 = .ok (.getfield 22, 3) := by decide +kernel
theorem dX1_remember_40 : decode cX1_remember 40 = .ok (.aload_n 0, 1) := by decide +kernel
theorem dX1_remember_41 : decode cX1_remember 41 = .ok (.getfield 18, 3) := by decide +kernel
theorem dX1_remember_44 : decode cX1_remember 44 = .ok (.iadd, 1) := by decide +kernel
theorem dX1_remember_45 : decode cX1_remember 45 = .ok (.bipush 8, 2) := by decide +kernel
theorem dX1_remember_47 : decode cX1_remember 47 = .ok (.irem, 1) := by decide +kernel
theorem dX1_remember_48 : decode cX1_remember 48 = .ok (.aaload, 1) := by decide +kernel
theorem dX1_remember_49 : decode cX1_remember 49 = .ok (.aload_n 1, 1) := by decide +kernel
theorem dX1_remember_50 : decode cX1_remember 50 = .ok (.invokevirtual 25, 3) := by decide +kernel
theorem dX1_remember_53 : decode cX1_remember 53 = .ok (.aload_n 0, 1) := by decide +kernel
theorem dX1_remember_54 : decode cX1_remember 54 = .ok (.dup, 1) := by decide +kernel
theorem dX1_remember_55 : decode cX1_remember 55 = .ok (.getfield 18, 3) := by decide +kernel
theorem dX1_remember_58 : decode cX1_remember 58 = .ok (.iconst 1, 1) := by decide +kernel
theorem dX1_remember_59 : decode cX1_remember 59 = .ok (.iadd, 1) := by decide +kernel
theorem dX1_remember_60 : decode cX1_remember 60 = .ok (.putfield 18, 3) := by decide +kernel
theorem dX1_remember_63 : decode cX1_remember 63 = .ok (.return_, 1) := by decide +kernel
theorem bX1_remember_0 {d mc ms : Nat} {al : Bool} {bc bs : Nat} {Γ : am_G} {I : am_I} {L : am_L} {Q : am_Q} {v0 : Nat} {v1 : Nat} (o1 : am_ob Γ v0 1) (kt : ¬ (I v0 2) = 8 → am_W m_X1_remember d mc ms al bc bs 32 [(0, .ref v0), (1, .ref v1)] [] Γ I L Q) (kf : (I v0 2) = 8 → am_W m_X1_remember d mc ms al bc bs 9 [(0, .ref v0), (1, .ref v1)] [] Γ I L Q) : am_W m_X1_remember d mc ms al bc bs 0 [(0, .ref v0), (1, .ref v1)] [] Γ I L Q := by
  refine aw_aload_n dX1_remember_0 rfl ?_
  refine aw_getI dX1_remember_1 f_X1_18 o1 rfl ?_
  refine aw_bipush dX1_remember_4 cb_8 ?_
  exact aw_icmp_ne dX1_remember_6 (by decide) kt kf
theorem bX1_remember_9 {d mc ms : Nat} {al : Bool} {bc bs : Nat} {Γ : am_G} {I : am_I} {L : am_L} {Q : am_Q} {v0 : Nat} {v1 : Nat} (o1 : am_ob Γ v0 1) (kk : am_W m_X1_remember d mc ms al bc bs 32 [(0, .ref v0), (1, .ref v1)] [] Γ (am_u (am_u I v0 1 (((I v0 1) + 1) - ((I v0 1) + 1) / 8 * 8)) v0 2 (((am_u I v0 1 (((I v0 1) + 1) - ((I v0 1) + 1) / 8 * 8)) v0 2) - 1)) L Q) : am_W m_X1_remember d mc ms al bc bs 9 [(0, .ref v0), (1, .ref v1)] [] Γ I L Q := by
  refine aw_aload_n dX1_remember_9 rfl ?_
  refine aw_aload_n dX1_remember_10 rfl ?_
  refine aw_getI dX1_remember_11 f_X1_22 o1 rfl ?_
  refine aw_iconst dX1_remember_14 ci_1 ?_
  refine aw_iadd dX1_remember_15 ?_
  refine aw_bipush dX1_remember_16 cb_8 ?_
  refine aw_irem dX1_remember_18 (by decide) ?_
  refine aw_putI dX1_remember_19 p_X1_22 o1 rfl ?_
  refine aw_aload_n dX1_remember_22 rfl ?_
  refine aw_dup dX1_remember_23 rfl ?_
  refine aw_getI dX1_remember_24 f_X1_18 o1 rfl ?_
  refine aw_iconst dX1_remember_27 ci_1 ?_
  refine aw_isub dX1_remember_28 ?_
  refine aw_putI dX1_remember_29 p_X1_18 o1 rfl ?_
  exact kk
theorem bX1_remember_32 {d mc ms : Nat} {al : Bool} {bc bs : Nat} {Γ : am_G} {I : am_I} {L : am_L} {Q : am_Q} {v0 : Nat} {v1 : Nat} {r2 : Nat} {n_r2 : Nat} {r6 : Nat} {I' : am_I} {L' : am_L} {mc' : Nat} {ms' : Nat} (o1 : am_ob Γ v0 1) (g3 : Γ.2.2 v0 0 = some r2) (a4 : am_ar Γ r2 6 n_r2 5) (i5 : vp_in (((I v0 1) + (I v0 2)) - ((I v0 1) + (I v0 2)) / 8 * 8) n_r2) (g7 : Γ.2.2 r2 ((((I v0 1) + (I v0 2)) - ((I v0 1) + (I v0 2)) / 8 * 8).toNatClampNeg) = some r6) (o8 : am_ob Γ r6 5) (hbc : mc' ≤ bc) (hbs : ms' ≤ bs) (hC : am_E m_X5_copyFrom d mc' ms' [.ref r6, .ref v1] Γ I L (.inl none) I' L') (kk : am_W m_X1_remember (d + 1) mc ms al (bc - mc') (bs - ms') 53 [(0, .ref v0), (1, .ref v1)] [] Γ I' L' Q) : am_W m_X1_remember (d + 1) mc ms al bc bs 32 [(0, .ref v0), (1, .ref v1)] [] Γ I L Q := by
  refine aw_aload_n dX1_remember_32 rfl ?_
  refine aw_getR dX1_remember_33 f_X1_11 o1 rfl g3 ?_
  refine aw_aload_n dX1_remember_36 rfl ?_
  refine aw_getI dX1_remember_37 f_X1_22 o1 rfl ?_
  refine aw_aload_n dX1_remember_40 rfl ?_
  refine aw_getI dX1_remember_41 f_X1_18 o1 rfl ?_
  refine aw_iadd dX1_remember_44 ?_
  refine aw_bipush dX1_remember_45 cb_8 ?_
  refine aw_irem dX1_remember_47 (by decide) ?_
  refine aw_aald dX1_remember_48 a4 i5 g7 ?_
  refine aw_aload_n dX1_remember_49 rfl ?_
  exact aw_askV (as := [.ref v1]) (rst := []) k_X5_copyFrom l_X1_25 i_X5_copyFrom s_X5_copyFrom rfl o8 dX1_remember_50 rfl (Nat.le_of_ble_eq_true rfl) hbc hbs hC rfl rfl kk
theorem bX1_remember_53 {d mc ms : Nat} {al : Bool} {bc bs : Nat} {Γ : am_G} {I : am_I} {L : am_L} {Q : am_Q} {v0 : Nat} {v1 : Nat} (o1 : am_ob Γ v0 1) (hq : Q (.inl none) Γ (am_u I v0 2 ((I v0 2) + 1)) L) : am_W m_X1_remember d mc ms al bc bs 53 [(0, .ref v0), (1, .ref v1)] [] Γ I L Q := by
  refine aw_aload_n dX1_remember_53 rfl ?_
  refine aw_dup dX1_remember_54 rfl ?_
  refine aw_getI dX1_remember_55 f_X1_18 o1 rfl ?_
  refine aw_iconst dX1_remember_58 ci_1 ?_
  refine aw_iadd dX1_remember_59 ?_
  refine aw_putI dX1_remember_60 p_X1_18 o1 rfl ?_
  exact aw_vret dX1_remember_63 rfl hq
theorem dX1_recallInto_0 : decode cX1_recallInto 0 = .ok (.aload_n 0, 1) := by decide +kernel
theorem dX1_recallInto_1 : decode cX1_recallInto 1 = .ok (.getfield 18, 3) := by decide +kernel
theorem dX1_recallInto_4 : decode cX1_recallInto 4 = .ok (.ifCond .le 34, 3) := by decide +kernel
theorem dX1_recallInto_7 : decode cX1_recallInto 7 = .ok (.aload_n 0, 1) := by decide +kernel
theorem dX1_recallInto_8 : decode cX1_recallInto 8 = .ok (.dup, 1) := by decide +kernel
theorem dX1_recallInto_9 : decode cX1_recallInto 9 = .ok (.getfield 18, 3) := by decide +kernel
theorem dX1_recallInto_12 : decode cX1_recallInto 12 = .ok (.iconst 1, 1) := by decide +kernel
theorem dX1_recallInto_13 : decode cX1_recallInto 13 = .ok (.isub, 1) := by decide +kernel
theorem dX1_recallInto_14 : decode cX1_recallInto 14 = .ok (.putfield 18, 3) := by decide +kernel
theorem dX1_recallInto_17 : decode cX1_recallInto 17 = .ok (.aload_n 1, 1) := by decide +kernel
theorem dX1_recallInto_18 : decode cX1_recallInto 18 = .ok (.aload_n 0, 1) := by decide +kernel
theorem dX1_recallInto_19 : decode cX1_recallInto 19 = .ok (.getfield 11, 3) := by decide +kernel
theorem dX1_recallInto_22 : decode cX1_recallInto 22 = .ok (.aload_n 0, 1) := by decide +kernel
theorem dX1_recallInto_23 : decode cX1_recallInto 23 = .ok (.getfield 22, 3) := by decide +kernel
theorem dX1_recallInto_26 : decode cX1_recallInto 26 = .ok (.aload_n 0, 1) := by decide +kernel
theorem dX1_recallInto_27 : decode cX1_recallInto 27 = .ok (.getfield 18, 3) := by decide +kernel
theorem dX1_recallInto_30 : decode cX1_recallInto 30 = .ok (.iadd, 1) := by decide +kernel
theorem dX1_recallInto_31 : decode cX1_recallInto 31 = .ok (.bipush 8, 2) := by decide +kernel
theorem dX1_recallInto_33 : decode cX1_recallInto 33 = .ok (.irem, 1) := by decide +kernel
theorem dX1_recallInto_34 : decode cX1_recallInto 34 = .ok (.aaload, 1) := by decide +kernel
theorem dX1_recallInto_35 : decode cX1_recallInto 35 = .ok (.invokevirtual 25, 3) := by decide +kernel
theorem dX1_recallInto_38 : decode cX1_recallInto 38 = .ok (.return_, 1) := by decide +kernel
theorem bX1_recallInto_0 {d mc ms : Nat} {al : Bool} {bc bs : Nat} {Γ : am_G} {I : am_I} {L : am_L} {Q : am_Q} {v0 : Nat} {v1 : Nat} (o1 : am_ob Γ v0 1) (kt : (I v0 2) ≤ 0 → am_W m_X1_recallInto d mc ms al bc bs 38 [(0, .ref v0), (1, .ref v1)] [] Γ I L Q) (kf : ¬ (I v0 2) ≤ 0 → am_W m_X1_recallInto d mc ms al bc bs 7 [(0, .ref v0), (1, .ref v1)] [] Γ I L Q) : am_W m_X1_recallInto d mc ms al bc bs 0 [(0, .ref v0), (1, .ref v1)] [] Γ I L Q := by
  refine aw_aload_n dX1_recallInto_0 rfl ?_
  refine aw_getI dX1_recallInto_1 f_X1_18 o1 rfl ?_
  exact aw_if_le dX1_recallInto_4 (by decide) kt kf
theorem bX1_recallInto_7 {d mc ms : Nat} {al : Bool} {bc bs : Nat} {Γ : am_G} {I : am_I} {L : am_L} {Q : am_Q} {v0 : Nat} {v1 : Nat} {r2 : Nat} {n_r2 : Nat} {r6 : Nat} {I' : am_I} {L' : am_L} {mc' : Nat} {ms' : Nat} (o1 : am_ob Γ v0 1) (g3 : Γ.2.2 v0 0 = some r2) (a4 : am_ar Γ r2 6 n_r2 5) (i5 : vp_in ((((am_u I v0 2 ((I v0 2) - 1)) v0 1) + ((am_u I v0 2 ((I v0 2) - 1)) v0 2)) - (((am_u I v0 2 ((I v0 2) - 1)) v0 1) + ((am_u I v0 2 ((I v0 2) - 1)) v0 2)) / 8 * 8) n_r2) (g7 : Γ.2.2 r2 (((((am_u I v0 2 ((I v0 2) - 1)) v0 1) + ((am_u I v0 2 ((I v0 2) - 1)) v0 2)) - (((am_u I v0 2 ((I v0 2) - 1)) v0 1) + ((am_u I v0 2 ((I v0 2) - 1)) v0 2)) / 8 * 8).toNatClampNeg) = some r6) (o8 : am_ob Γ v1 5) (hbc : mc' ≤ bc) (hbs : ms' ≤ bs) (hC : am_E m_X5_copyFrom d mc' ms' [.ref v1, .ref r6] Γ (am_u I v0 2 ((I v0 2) - 1)) L (.inl none) I' L') (kk : am_W m_X1_recallInto (d + 1) mc ms al (bc - mc') (bs - ms') 38 [(0, .ref v0), (1, .ref v1)] [] Γ I' L' Q) : am_W m_X1_recallInto (d + 1) mc ms al bc bs 7 [(0, .ref v0), (1, .ref v1)] [] Γ I L Q := by
  refine aw_aload_n dX1_recallInto_7 rfl ?_
  refine aw_dup dX1_recallInto_8 rfl ?_
  refine aw_getI dX1_recallInto_9 f_X1_18 o1 rfl ?_
  refine aw_iconst dX1_recallInto_12 ci_1 ?_
  refine aw_isub dX1_recallInto_13 ?_
  refine aw_putI dX1_recallInto_14 p_X1_18 o1 rfl ?_
  refine aw_aload_n dX1_recallInto_17 rfl ?_
  refine aw_aload_n dX1_recallInto_18 rfl ?_
  refine aw_getR dX1_recallInto_19 f_X1_11 o1 rfl g3 ?_
  refine aw_aload_n dX1_recallInto_22 rfl ?_
  refine aw_getI dX1_recallInto_23 f_X1_22 o1 rfl ?_
  refine aw_aload_n dX1_recallInto_26 rfl ?_
  refine aw_getI dX1_recallInto_27 f_X1_18 o1 rfl ?_
  refine aw_iadd dX1_recallInto_30 ?_
  refine aw_bipush dX1_recallInto_31 cb_8 ?_
  refine aw_irem dX1_recallInto_33 (by decide) ?_
  refine aw_aald dX1_recallInto_34 a4 i5 g7 ?_
  exact aw_askV (as := [.ref r6]) (rst := []) k_X5_copyFrom l_X1_25 i_X5_copyFrom s_X5_copyFrom rfl o8 dX1_recallInto_35 rfl (Nat.le_of_ble_eq_true rfl) hbc hbs hC rfl rfl kk
theorem bX1_recallInto_38 {d mc ms : Nat} {al : Bool} {bc bs : Nat} {Γ : am_G} {I : am_I} {L : am_L} {Q : am_Q} {v0 : Nat} {v1 : Nat} (hq : Q (.inl none) Γ I L) : am_W m_X1_recallInto d mc ms al bc bs 38 [(0, .ref v0), (1, .ref v1)] [] Γ I L Q := by
  exact aw_vret dX1_recallInto_38 rfl hq
theorem dX2_init_0 : decode cX2_init 0 = .ok (.aload_n 0, 1) := by decide +kernel
theorem dX2_init_1 : decode cX2_init 1 = .ok (.invokespecial 3, 3) := by decide +kernel
theorem dX2_init_4 : decode cX2_init 4 = .ok (.aload_n 0, 1) := by decide +kernel
theorem dX2_init_5 : decode cX2_init 5 = .ok (.bipush 87, 2) := by decide +kernel
theorem dX2_init_7 : decode cX2_init 7 = .ok (.newarray .byte, 2) := by decide +kernel
theorem dX2_init_9 : decode cX2_init 9 = .ok (.putfield 9, 3) := by decide +kernel
theorem dX2_init_12 : decode cX2_init 12 = .ok (.aload_n 0, 1) := by decide +kernel
theorem dX2_init_13 : decode cX2_init 13 = .ok (.bipush 22, 2) := by decide +kernel
theorem dX2_init_15 : decode cX2_init 15 = .ok (.newarray .int, 2) := by decide +kernel
theorem dX2_init_17 : decode cX2_init 17 = .ok (.putfield 15, 3) := by decide +kernel
theorem dX2_init_20 : decode cX2_init 20 = .ok (.return_, 1) := by decide +kernel
theorem dX5_init_0 : decode cX5_init 0 = .ok (.aload_n 0, 1) := by decide +kernel
theorem dX5_init_1 : decode cX5_init 1 = .ok (.invokespecial 3, 3) := by decide +kernel
theorem dX5_init_4 : decode cX5_init 4 = .ok (.aload_n 0, 1) := by decide +kernel
theorem dX5_init_5 : decode cX5_init 5 = .ok (.bipush 6, 2) := by decide +kernel
theorem dX5_init_7 : decode cX5_init 7 = .ok (.newarray .long, 2) := by decide +kernel
theorem dX5_init_9 : decode cX5_init 9 = .ok (.putfield 9, 3) := by decide +kernel
theorem dX5_init_12 : decode cX5_init 12 = .ok (.aload_n 0, 1) := by decide +kernel
theorem dX5_init_13 : decode cX5_init 13 = .ok (.bipush 6, 2) := by decide +kernel
theorem dX5_init_15 : decode cX5_init 15 = .ok (.newarray .int, 2) := by decide +kernel
theorem dX5_init_17 : decode cX5_init 17 = .ok (.putfield 15, 3) := by decide +kernel
theorem dX5_init_20 : decode cX5_init 20 = .ok (.aload_n 0, 1) := by decide +kernel
theorem dX5_init_21 : decode cX5_init 21 = .ok (.bipush 6, 2) := by decide +kernel
theorem dX5_init_23 : decode cX5_init 23 = .ok (.newarray .int, 2) := by decide +kernel
theorem dX5_init_25 : decode cX5_init 25 = .ok (.putfield 19, 3) := by decide +kernel
theorem dX5_init_28 : decode cX5_init 28 = .ok (.aload_n 0, 1) := by decide +kernel
theorem dX5_init_29 : decode cX5_init 29 = .ok (.bipush 8, 2) := by decide +kernel
theorem dX5_init_31 : decode cX5_init 31 = .ok (.newarray .long, 2) := by decide +kernel
theorem dX5_init_33 : decode cX5_init 33 = .ok (.putfield 22, 3) := by decide +kernel
theorem dX5_init_36 : decode cX5_init 36 = .ok (.aload_n 0, 1) := by decide +kernel
theorem dX5_init_37 : decode cX5_init 37 = .ok (.bipush 8, 2) := by decide +kernel
theorem dX5_init_39 : decode cX5_init 39 = .ok (.newarray .int, 2) := by decide +kernel
theorem dX5_init_41 : decode cX5_init 41 = .ok (.putfield 25, 3) := by decide +kernel
theorem dX5_init_44 : decode cX5_init 44 = .ok (.aload_n 0, 1) := by decide +kernel
theorem dX5_init_45 : decode cX5_init 45 = .ok (.iconst 4, 1) := by decide +kernel
theorem dX5_init_46 : decode cX5_init 46 = .ok (.anewarray 28, 3) := by decide +kernel
theorem dX5_init_49 : decode cX5_init 49 = .ok (.putfield 30, 3) := by decide +kernel
theorem dX5_init_52 : decode cX5_init 52 = .ok (.aload_n 0, 1) := by decide +kernel
theorem dX5_init_53 : decode cX5_init 53 = .ok (.new 34, 3) := by decide +kernel
theorem dX5_init_56 : decode cX5_init 56 = .ok (.dup, 1) := by decide +kernel
theorem dX5_init_57 : decode cX5_init 57 = .ok (.invokespecial 36, 3) := by decide +kernel
theorem dX5_init_60 : decode cX5_init 60 = .ok (.putfield 37, 3) := by decide +kernel
theorem dX5_init_63 : decode cX5_init 63 = .ok (.iconst 0, 1) := by decide +kernel
theorem dX5_init_64 : decode cX5_init 64 = .ok (.istore_n 1, 1) := by decide +kernel
theorem dX5_init_65 : decode cX5_init 65 = .ok (.iload_n 1, 1) := by decide +kernel
theorem dX5_init_66 : decode cX5_init 66 = .ok (.iconst 4, 1) := by decide +kernel
theorem dX5_init_67 : decode cX5_init 67 = .ok (.if_icmp .ge 22, 3) := by decide +kernel
theorem dX5_init_70 : decode cX5_init 70 = .ok (.aload_n 0, 1) := by decide +kernel
theorem dX5_init_71 : decode cX5_init 71 = .ok (.getfield 30, 3) := by decide +kernel
theorem dX5_init_74 : decode cX5_init 74 = .ok (.iload_n 1, 1) := by decide +kernel
theorem dX5_init_75 : decode cX5_init 75 = .ok (.new 28, 3) := by decide +kernel
theorem dX5_init_78 : decode cX5_init 78 = .ok (.dup, 1) := by decide +kernel
theorem dX5_init_79 : decode cX5_init 79 = .ok (.invokespecial 41, 3) := by decide +kernel
theorem dX5_init_82 : decode cX5_init 82 = .ok (.aastore, 1) := by decide +kernel
theorem dX5_init_83 : decode cX5_init 83 = .ok (.iinc 1 1, 3) := by decide +kernel
theorem dX5_init_86 : decode cX5_init 86 = .ok (.goto (-21), 3) := by decide +kernel
theorem dX5_init_89 : decode cX5_init 89 = .ok (.return_, 1) := by decide +kernel
theorem bX5_init_65 {d mc ms : Nat} {al : Bool} {bc bs : Nat} {Γ : am_G} {I : am_I} {L : am_L} {Q : am_Q} {v0 : Nat} {v1 : Int32} (kt : 4 ≤ v1 → am_W m_X5_init d mc ms al bc bs 89 [(0, .ref v0), (1, .int v1)] [] Γ I L Q) (kf : ¬ 4 ≤ v1 → am_W m_X5_init d mc ms al bc bs 70 [(0, .ref v0), (1, .int v1)] [] Γ I L Q) : am_W m_X5_init d mc ms al bc bs 65 [(0, .ref v0), (1, .int v1)] [] Γ I L Q := by
  refine aw_iload_n dX5_init_65 rfl ?_
  refine aw_iconst dX5_init_66 ci_4 ?_
  exact aw_icmp_ge dX5_init_67 (by decide) kt kf
theorem bX5_init_89 {d mc ms : Nat} {al : Bool} {bc bs : Nat} {Γ : am_G} {I : am_I} {L : am_L} {Q : am_Q} {v0 : Nat} {v1 : Int32} (hq : Q (.inl none) Γ I L) : am_W m_X5_init d mc ms al bc bs 89 [(0, .ref v0), (1, .int v1)] [] Γ I L Q := by
  exact aw_vret dX5_init_89 rfl hq
theorem dX5_empty_0 : decode cX5_empty 0 = .ok (.aload_n 0, 1) := by decide +kernel
theorem dX5_empty_1 : decode cX5_empty 1 = .ok (.iconst 0, 1) := by decide +kernel
theorem dX5_empty_2 : decode cX5_empty 2 = .ok (.putfield 42, 3) := by decide +kernel
theorem dX5_empty_5 : decode cX5_empty 5 = .ok (.aload_n 0, 1) := by decide +kernel
theorem dX5_empty_6 : decode cX5_empty 6 = .ok (.iconst 0, 1) := by decide +kernel
theorem dX5_empty_7 : decode cX5_empty 7 = .ok (.putfield 46, 3) := by decide +kernel
theorem dX5_empty_10 : decode cX5_empty 10 = .ok (.aload_n 0, 1) := by decide +kernel
theorem dX5_empty_11 : decode cX5_empty 11 = .ok (.iconst 0, 1) := by decide +kernel
theorem dX5_empty_12 : decode cX5_empty 12 = .ok (.putfield 49, 3) := by decide +kernel
theorem dX5_empty_15 : decode cX5_empty 15 = .ok (.aload_n 0, 1) := by decide +kernel
theorem dX5_empty_16 : decode cX5_empty 16 = .ok (.iconst 0, 1) := by decide +kernel
theorem dX5_empty_17 : decode cX5_empty 17 = .ok (.putfield 52, 3) := by decide +kernel
theorem dX5_empty_20 : decode cX5_empty 20 = .ok (.aload_n 0, 1) := by decide +kernel
theorem dX5_empty_21 : decode cX5_empty 21 = .ok (.getfield 37, 3) := by decide +kernel
theorem dX5_empty_24 : decode cX5_empty 24 = .ok (.invokevirtual 55, 3) := by decide +kernel
theorem dX5_empty_27 : decode cX5_empty 27 = .ok (.return_, 1) := by decide +kernel
theorem bX5_empty_0 {d mc ms : Nat} {al : Bool} {bc bs : Nat} {Γ : am_G} {I : am_I} {L : am_L} {Q : am_Q} {v0 : Nat} {r2 : Nat} {I' : am_I} {L' : am_L} {mc' : Nat} {ms' : Nat} (o1 : am_ob Γ v0 5) (g3 : Γ.2.2 v0 10 = some r2) (o4 : am_ob Γ r2 6) (hbc : mc' ≤ bc) (hbs : ms' ≤ bs) (hC : am_E m_X6_reset d mc' ms' [.ref r2] Γ (am_u (am_u (am_u (am_u I v0 0 0) v0 1 0) v0 2 0) v0 3 0) L (.inl none) I' L') (kk : am_W m_X5_empty (d + 1) mc ms al (bc - mc') (bs - ms') 27 [(0, .ref v0)] [] Γ I' L' Q) : am_W m_X5_empty (d + 1) mc ms al bc bs 0 [(0, .ref v0)] [] Γ I L Q := by
  refine aw_aload_n dX5_empty_0 rfl ?_
  refine aw_iconst dX5_empty_1 ci_0 ?_
  refine aw_putI dX5_empty_2 p_X5_42 o1 rfl ?_
  refine aw_aload_n dX5_empty_5 rfl ?_
  refine aw_iconst dX5_empty_6 ci_0 ?_
  refine aw_putI dX5_empty_7 p_X5_46 o1 rfl ?_
  refine aw_aload_n dX5_empty_10 rfl ?_
  refine aw_iconst dX5_empty_11 ci_0 ?_
  refine aw_putI dX5_empty_12 p_X5_49 o1 rfl ?_
  refine aw_aload_n dX5_empty_15 rfl ?_
  refine aw_iconst dX5_empty_16 ci_0 ?_
  refine aw_putI dX5_empty_17 p_X5_52 o1 rfl ?_
  refine aw_aload_n dX5_empty_20 rfl ?_
  refine aw_getR dX5_empty_21 f_X5_37 o1 rfl g3 ?_
  exact aw_askV (as := []) (rst := []) k_X6_reset l_X5_55 i_X6_reset s_X6_reset rfl o4 dX5_empty_24 rfl (Nat.le_of_ble_eq_true rfl) hbc hbs hC rfl rfl kk
theorem bX5_empty_27 {d mc ms : Nat} {al : Bool} {bc bs : Nat} {Γ : am_G} {I : am_I} {L : am_L} {Q : am_Q} {v0 : Nat} (hq : Q (.inl none) Γ I L) : am_W m_X5_empty d mc ms al bc bs 27 [(0, .ref v0)] [] Γ I L Q := by
  exact aw_vret dX5_empty_27 rfl hq
theorem dX5_copyFrom_0 : decode cX5_copyFrom 0 = .ok (.aload_n 0, 1) := by decide +kernel
theorem dX5_copyFrom_1 : decode cX5_copyFrom 1 = .ok (.aload_n 1, 1) := by decide +kernel
theorem dX5_copyFrom_2 : decode cX5_copyFrom 2 = .ok (.getfield 42, 3) := by decide +kernel
theorem dX5_copyFrom_5 : decode cX5_copyFrom 5 = .ok (.putfield 42, 3) := by decide +kernel
theorem dX5_copyFrom_8 : decode cX5_copyFrom 8 = .ok (.aload_n 0, 1) := by decide +kernel
theorem dX5_copyFrom_9 : decode cX5_copyFrom 9 = .ok (.aload_n 1, 1) := by decide +kernel
theorem dX5_copyFrom_10 : decode cX5_copyFrom 10 = .ok (.getfield 46, 3) := by decide +kernel
theorem dX5_copyFrom_13 : decode cX5_copyFrom 13 = .ok (.putfield 46, 3) := by decide +kernel
theorem dX5_copyFrom_16 : decode cX5_copyFrom 16 = .ok (.aload_n 0, 1) := by decide +kernel
theorem dX5_copyFrom_17 : decode cX5_copyFrom 17 = .ok (.aload_n 1, 1) := by decide +kernel
theorem dX5_copyFrom_18 : decode cX5_copyFrom 18 = .ok (.getfield 49, 3) := by decide +kernel
theorem dX5_copyFrom_21 : decode cX5_copyFrom 21 = .ok (.putfield 49, 3) := by decide +kernel
theorem dX5_copyFrom_24 : decode cX5_copyFrom 24 = .ok (.aload_n 0, 1) := by decide +kernel
theorem dX5_copyFrom_25 : decode cX5_copyFrom 25 = .ok (.aload_n 1, 1) := by decide +kernel
theorem dX5_copyFrom_26 : decode cX5_copyFrom 26 = .ok (.getfield 52, 3) := by decide +kernel
theorem dX5_copyFrom_29 : decode cX5_copyFrom 29 = .ok (.putfield 52, 3) := by decide +kernel
theorem dX5_copyFrom_32 : decode cX5_copyFrom 32 = .ok (.aload_n 1, 1) := by decide +kernel
theorem dX5_copyFrom_33 : decode cX5_copyFrom 33 = .ok (.getfield 9, 3) := by decide +kernel
theorem dX5_copyFrom_36 : decode cX5_copyFrom 36 = .ok (.iconst 0, 1) := by decide +kernel
theorem dX5_copyFrom_37 : decode cX5_copyFrom 37 = .ok (.aload_n 0, 1) := by decide +kernel
theorem dX5_copyFrom_38 : decode cX5_copyFrom 38 = .ok (.getfield 9, 3) := by decide +kernel
theorem dX5_copyFrom_41 : decode cX5_copyFrom 41 = .ok (.iconst 0, 1) := by decide +kernel
theorem dX5_copyFrom_42 : decode cX5_copyFrom 42 = .ok (.bipush 6, 2) := by decide +kernel
theorem dX5_copyFrom_44 : decode cX5_copyFrom 44 = .ok (.invokestatic 58, 3) := by decide +kernel
theorem dX5_copyFrom_47 : decode cX5_copyFrom 47 = .ok (.aload_n 1, 1) := by decide +kernel
theorem dX5_copyFrom_48 : decode cX5_copyFrom 48 = .ok (.getfield 15, 3) := by decide +kernel
theorem dX5_copyFrom_51 : decode cX5_copyFrom 51 = .ok (.iconst 0, 1) := by decide +kernel
theorem dX5_copyFrom_52 : decode cX5_copyFrom 52 = .ok (.aload_n 0, 1) := by decide +kernel
theorem dX5_copyFrom_53 : decode cX5_copyFrom 53 = .ok (.getfield 15, 3) := by decide +kernel
theorem dX5_copyFrom_56 : decode cX5_copyFrom 56 = .ok (.iconst 0, 1) := by decide +kernel
theorem dX5_copyFrom_57 : decode cX5_copyFrom 57 = .ok (.bipush 6, 2) := by decide +kernel
theorem dX5_copyFrom_59 : decode cX5_copyFrom 59 = .ok (.invokestatic 58, 3) := by decide +kernel
theorem dX5_copyFrom_62 : decode cX5_copyFrom 62 = .ok (.aload_n 1, 1) := by decide +kernel
theorem dX5_copyFrom_63 : decode cX5_copyFrom 63 = .ok (.getfield 19, 3) := by decide +kernel
theorem dX5_copyFrom_66 : decode cX5_copyFrom 66 = .ok (.iconst 0, 1) := by decide +kernel
theorem dX5_copyFrom_67 : decode cX5_copyFrom 67 = .ok (.aload_n 0, 1) := by decide +kernel
theorem dX5_copyFrom_68 : decode cX5_copyFrom 68 = .ok (.getfield 19, 3) := by decide +kernel
theorem dX5_copyFrom_71 : decode cX5_copyFrom 71 = .ok (.iconst 0, 1) := by decide +kernel
theorem dX5_copyFrom_72 : decode cX5_copyFrom 72 = .ok (.bipush 6, 2) := by decide +kernel
theorem dX5_copyFrom_74 : decode cX5_copyFrom 74 = .ok (.invokestatic 58, 3) := by decide +kernel
theorem dX5_copyFrom_77 : decode cX5_copyFrom 77 = .ok (.aload_n 1, 1) := by decide +kernel
theorem dX5_copyFrom_78 : decode cX5_copyFrom 78 = .ok (.getfield 22, 3) := by decide +kernel
theorem dX5_copyFrom_81 : decode cX5_copyFrom 81 = .ok (.iconst 0, 1) := by decide +kernel
theorem dX5_copyFrom_82 : decode cX5_copyFrom 82 = .ok (.aload_n 0, 1) := by decide +kernel
theorem dX5_copyFrom_83 : decode cX5_copyFrom 83 = .ok (.getfield 22, 3) := by decide +kernel
theorem dX5_copyFrom_86 : decode cX5_copyFrom 86 = .ok (.iconst 0, 1) := by decide +kernel
theorem dX5_copyFrom_87 : decode cX5_copyFrom 87 = .ok (.bipush 8, 2) := by decide +kernel
theorem dX5_copyFrom_89 : decode cX5_copyFrom 89 = .ok (.invokestatic 58, 3) := by decide +kernel
theorem dX5_copyFrom_92 : decode cX5_copyFrom 92 = .ok (.aload_n 1, 1) := by decide +kernel
theorem dX5_copyFrom_93 : decode cX5_copyFrom 93 = .ok (.getfield 25, 3) := by decide +kernel
theorem dX5_copyFrom_96 : decode cX5_copyFrom 96 = .ok (.iconst 0, 1) := by decide +kernel
theorem dX5_copyFrom_97 : decode cX5_copyFrom 97 = .ok (.aload_n 0, 1) := by decide +kernel
theorem dX5_copyFrom_98 : decode cX5_copyFrom 98 = .ok (.getfield 25, 3) := by decide +kernel
theorem dX5_copyFrom_101 : decode cX5_copyFrom 101 = .ok (.iconst 0, 1) := by decide +kernel
theorem dX5_copyFrom_102 : decode cX5_copyFrom 102 = .ok (.bipush 8, 2) := by decide +kernel
theorem dX5_copyFrom_104 : decode cX5_copyFrom 104 = .ok (.invokestatic 58, 3) := by decide +kernel
theorem dX5_copyFrom_107 : decode cX5_copyFrom 107 = .ok (.iconst 0, 1) := by decide +kernel
theorem dX5_copyFrom_108 : decode cX5_copyFrom 108 = .ok (.istore_n 2, 1) := by decide +kernel
theorem dX5_copyFrom_109 : decode cX5_copyFrom 109 = .ok (.iload_n 2, 1) := by decide +kernel
theorem dX5_copyFrom_110 : decode cX5_copyFrom 110 = .ok (.aload_n 1, 1) := by decide +kernel
theorem dX5_copyFrom_111 : decode cX5_copyFrom 111 = .ok (.getfield 49, 3) := by decide +kernel
theorem dX5_copyFrom_114 : decode cX5_copyFrom 114 = .ok (.if_icmp .ge 24, 3) := by decide +kernel
theorem dX5_copyFrom_117 : decode cX5_copyFrom 117 = .ok (.aload_n 0, 1) := by decide +kernel
theorem dX5_copyFrom_118 : decode cX5_copyFrom 118 = .ok (.getfield 30, 3) := by decide +kernel
theorem dX5_copyFrom_121 : decode cX5_copyFrom 121 = .ok (.iload_n 2, 1) := by decide +kernel
theorem dX5_copyFrom_122 : decode cX5_copyFrom 122 = .ok (.aaload, 1) := by decide +kernel
theorem dX5_copyFrom_123 : decode cX5_copyFrom 123 = .ok (.aload_n 1, 1) := by decide +kernel
theorem dX5_copyFrom_124 : decode cX5_copyFrom 124 = .ok (.getfield 30, 3) := by decide +kernel
theorem dX5_copyFrom_127 : decode cX5_copyFrom 127 = .ok (.iload_n 2, 1) := by decide +kernel
theorem dX5_copyFrom_128 : decode cX5_copyFrom 128 = .ok (.aaload, 1) := by decide +kernel
theorem dX5_copyFrom_129 : decode cX5_copyFrom 129 = .ok (.invokevirtual 64, 3) := by decide +kernel
theorem dX5_copyFrom_132 : decode cX5_copyFrom 132 = .ok (.iinc 2 1, 3) := by decide +kernel
theorem dX5_copyFrom_135 : decode cX5_copyFrom 135 = .ok (.goto (-26), 3) := by decide +kernel
theorem dX5_copyFrom_138 : decode cX5_copyFrom 138 = .ok (.aload_n 0, 1) := by decide +kernel
theorem dX5_copyFrom_139 : decode cX5_copyFrom 139 = .ok (.getfield 37, 3) := by decide +kernel
theorem dX5_copyFrom_142 : decode cX5_copyFrom 142 = .ok (.aload_n 1, 1) := by decide +kernel
theorem dX5_copyFrom_143 : decode cX5_copyFrom 143 = .ok (.getfield 37, 3) := by decide +kernel
theorem dX5_copyFrom_146 : decode cX5_copyFrom 146 = .ok (.invokevirtual 68, 3) := by decide +kernel
theorem dX5_copyFrom_149 : decode cX5_copyFrom 149 = .ok (.return_, 1) := by decide +kernel
theorem bX5_copyFrom_0 {d mc ms : Nat} {al : Bool} {bc bs : Nat} {Γ : am_G} {I : am_I} {L : am_L} {Q : am_Q} {v0 : Nat} {v1 : Nat} {r3 : Nat} {r5 : Nat} {n_r3 : Nat} {n_r5 : Nat} {r11 : Nat} {r13 : Nat} {n_r11 : Nat} {n_r13 : Nat} {r19 : Nat} {r21 : Nat} {n_r19 : Nat} {n_r21 : Nat} {r27 : Nat} {r29 : Nat} {n_r27 : Nat} {n_r29 : Nat} {r35 : Nat} {r37 : Nat} {n_r35 : Nat} {n_r37 : Nat} (o1 : am_ob Γ v1 5) (o2 : am_ob Γ v0 5) (g4 : Γ.2.2 v1 4 = some r3) (g6 : Γ.2.2 v0 4 = some r5) (a7 : am_ar Γ r3 4 n_r3 0) (a8 : am_ar Γ r5 4 n_r5 0) (z9 : (0 : Int32).toNatClampNeg + (6 : Int32).toNatClampNeg ≤ n_r3) (z10 : (0 : Int32).toNatClampNeg + (6 : Int32).toNatClampNeg ≤ n_r5) (g12 : Γ.2.2 v1 5 = some r11) (g14 : Γ.2.2 v0 5 = some r13) (a15 : am_ar Γ r11 1 n_r11 0) (a16 : am_ar Γ r13 1 n_r13 0) (z17 : (0 : Int32).toNatClampNeg + (6 : Int32).toNatClampNeg ≤ n_r11) (z18 : (0 : Int32).toNatClampNeg + (6 : Int32).toNatClampNeg ≤ n_r13) (g20 : Γ.2.2 v1 6 = some r19) (g22 : Γ.2.2 v0 6 = some r21) (a23 : am_ar Γ r19 1 n_r19 0) (a24 : am_ar Γ r21 1 n_r21 0) (z25 : (0 : Int32).toNatClampNeg + (6 : Int32).toNatClampNeg ≤ n_r19) (z26 : (0 : Int32).toNatClampNeg + (6 : Int32).toNatClampNeg ≤ n_r21) (g28 : Γ.2.2 v1 7 = some r27) (g30 : Γ.2.2 v0 7 = some r29) (a31 : am_ar Γ r27 4 n_r27 0) (a32 : am_ar Γ r29 4 n_r29 0) (z33 : (0 : Int32).toNatClampNeg + (8 : Int32).toNatClampNeg ≤ n_r27) (z34 : (0 : Int32).toNatClampNeg + (8 : Int32).toNatClampNeg ≤ n_r29) (g36 : Γ.2.2 v1 8 = some r35) (g38 : Γ.2.2 v0 8 = some r37) (a39 : am_ar Γ r35 1 n_r35 0) (a40 : am_ar Γ r37 1 n_r37 0) (z41 : (0 : Int32).toNatClampNeg + (8 : Int32).toNatClampNeg ≤ n_r35) (z42 : (0 : Int32).toNatClampNeg + (8 : Int32).toNatClampNeg ≤ n_r37) (kk : am_W m_X5_copyFrom d mc ms al bc bs 109 [(0, .ref v0), (1, .ref v1), (2, .int 0)] [] Γ (am_cI (am_cI (am_cI (am_u (am_u (am_u (am_u I v0 0 (I v1 0)) v0 1 ((am_u I v0 0 (I v1 0)) v1 1)) v0 2 ((am_u (am_u I v0 0 (I v1 0)) v0 1 ((am_u I v0 0 (I v1 0)) v1 1)) v1 2)) v0 3 ((am_u (am_u (am_u I v0 0 (I v1 0)) v0 1 ((am_u I v0 0 (I v1 0)) v1 1)) v0 2 ((am_u (am_u I v0 0 (I v1 0)) v0 1 ((am_u I v0 0 (I v1 0)) v1 1)) v1 2)) v1 3)) r11 r13 ((0 : Int32).toNatClampNeg) ((0 : Int32).toNatClampNeg) ((6 : Int32).toNatClampNeg)) r19 r21 ((0 : Int32).toNatClampNeg) ((0 : Int32).toNatClampNeg) ((6 : Int32).toNatClampNeg)) r35 r37 ((0 : Int32).toNatClampNeg) ((0 : Int32).toNatClampNeg) ((8 : Int32).toNatClampNeg)) (am_cL (am_cL L r3 r5 ((0 : Int32).toNatClampNeg) ((0 : Int32).toNatClampNeg) ((6 : Int32).toNatClampNeg)) r27 r29 ((0 : Int32).toNatClampNeg) ((0 : Int32).toNatClampNeg) ((8 : Int32).toNatClampNeg)) Q) : am_W m_X5_copyFrom d mc ms al bc bs 0 [(0, .ref v0), (1, .ref v1)] [] Γ I L Q := by
  refine aw_aload_n dX5_copyFrom_0 rfl ?_
  refine aw_aload_n dX5_copyFrom_1 rfl ?_
  refine aw_getI dX5_copyFrom_2 f_X5_42 o1 rfl ?_
  refine aw_putI dX5_copyFrom_5 p_X5_42 o2 rfl ?_
  refine aw_aload_n dX5_copyFrom_8 rfl ?_
  refine aw_aload_n dX5_copyFrom_9 rfl ?_
  refine aw_getI dX5_copyFrom_10 f_X5_46 o1 rfl ?_
  refine aw_putI dX5_copyFrom_13 p_X5_46 o2 rfl ?_
  refine aw_aload_n dX5_copyFrom_16 rfl ?_
  refine aw_aload_n dX5_copyFrom_17 rfl ?_
  refine aw_getI dX5_copyFrom_18 f_X5_49 o1 rfl ?_
  refine aw_putI dX5_copyFrom_21 p_X5_49 o2 rfl ?_
  refine aw_aload_n dX5_copyFrom_24 rfl ?_
  refine aw_aload_n dX5_copyFrom_25 rfl ?_
  refine aw_getI dX5_copyFrom_26 f_X5_52 o1 rfl ?_
  refine aw_putI dX5_copyFrom_29 p_X5_52 o2 rfl ?_
  refine aw_aload_n dX5_copyFrom_32 rfl ?_
  refine aw_getR dX5_copyFrom_33 f_X5_9 o1 rfl g4 ?_
  refine aw_iconst dX5_copyFrom_36 ci_0 ?_
  refine aw_aload_n dX5_copyFrom_37 rfl ?_
  refine aw_getR dX5_copyFrom_38 f_X5_9 o2 rfl g6 ?_
  refine aw_iconst dX5_copyFrom_41 ci_0 ?_
  refine aw_bipush dX5_copyFrom_42 cb_6 ?_
  refine aw_copyl dX5_copyFrom_44 sk_X5_58 a7 a8 (by decide) (by decide) (by decide) z9 z10 (Nat.le_of_ble_eq_true rfl) ?_
  refine aw_aload_n dX5_copyFrom_47 rfl ?_
  refine aw_getR dX5_copyFrom_48 f_X5_15 o1 rfl g12 ?_
  refine aw_iconst dX5_copyFrom_51 ci_0 ?_
  refine aw_aload_n dX5_copyFrom_52 rfl ?_
  refine aw_getR dX5_copyFrom_53 f_X5_15 o2 rfl g14 ?_
  refine aw_iconst dX5_copyFrom_56 ci_0 ?_
  refine aw_bipush dX5_copyFrom_57 cb_6 ?_
  refine aw_copyi dX5_copyFrom_59 sk_X5_58 a15 a16 (by decide) (by decide) (by decide) z17 z18 (Nat.le_of_ble_eq_true rfl) ?_
  refine aw_aload_n dX5_copyFrom_62 rfl ?_
  refine aw_getR dX5_copyFrom_63 f_X5_19 o1 rfl g20 ?_
  refine aw_iconst dX5_copyFrom_66 ci_0 ?_
  refine aw_aload_n dX5_copyFrom_67 rfl ?_
  refine aw_getR dX5_copyFrom_68 f_X5_19 o2 rfl g22 ?_
  refine aw_iconst dX5_copyFrom_71 ci_0 ?_
  refine aw_bipush dX5_copyFrom_72 cb_6 ?_
  refine aw_copyi dX5_copyFrom_74 sk_X5_58 a23 a24 (by decide) (by decide) (by decide) z25 z26 (Nat.le_of_ble_eq_true rfl) ?_
  refine aw_aload_n dX5_copyFrom_77 rfl ?_
  refine aw_getR dX5_copyFrom_78 f_X5_22 o1 rfl g28 ?_
  refine aw_iconst dX5_copyFrom_81 ci_0 ?_
  refine aw_aload_n dX5_copyFrom_82 rfl ?_
  refine aw_getR dX5_copyFrom_83 f_X5_22 o2 rfl g30 ?_
  refine aw_iconst dX5_copyFrom_86 ci_0 ?_
  refine aw_bipush dX5_copyFrom_87 cb_8 ?_
  refine aw_copyl dX5_copyFrom_89 sk_X5_58 a31 a32 (by decide) (by decide) (by decide) z33 z34 (Nat.le_of_ble_eq_true rfl) ?_
  refine aw_aload_n dX5_copyFrom_92 rfl ?_
  refine aw_getR dX5_copyFrom_93 f_X5_25 o1 rfl g36 ?_
  refine aw_iconst dX5_copyFrom_96 ci_0 ?_
  refine aw_aload_n dX5_copyFrom_97 rfl ?_
  refine aw_getR dX5_copyFrom_98 f_X5_25 o2 rfl g38 ?_
  refine aw_iconst dX5_copyFrom_101 ci_0 ?_
  refine aw_bipush dX5_copyFrom_102 cb_8 ?_
  refine aw_copyi dX5_copyFrom_104 sk_X5_58 a39 a40 (by decide) (by decide) (by decide) z41 z42 (Nat.le_of_ble_eq_true rfl) ?_
  refine aw_iconst dX5_copyFrom_107 ci_0 ?_
  refine aw_istore_n (ls' := [(0, .ref v0), (1, .ref v1), (2, .int 0)]) dX5_copyFrom_108 (by decide) rfl ?_
  exact kk
theorem bX5_copyFrom_109 {d mc ms : Nat} {al : Bool} {bc bs : Nat} {Γ : am_G} {I : am_I} {L : am_L} {Q : am_Q} {v0 : Nat} {v1 : Nat} {v2 : Int32} (o1 : am_ob Γ v1 5) (kt : (I v1 2) ≤ v2 → am_W m_X5_copyFrom d mc ms al bc bs 138 [(0, .ref v0), (1, .ref v1), (2, .int v2)] [] Γ I L Q) (kf : ¬ (I v1 2) ≤ v2 → am_W m_X5_copyFrom d mc ms al bc bs 117 [(0, .ref v0), (1, .ref v1), (2, .int v2)] [] Γ I L Q) : am_W m_X5_copyFrom d mc ms al bc bs 109 [(0, .ref v0), (1, .ref v1), (2, .int v2)] [] Γ I L Q := by
  refine aw_iload_n dX5_copyFrom_109 rfl ?_
  refine aw_aload_n dX5_copyFrom_110 rfl ?_
  refine aw_getI dX5_copyFrom_111 f_X5_49 o1 rfl ?_
  exact aw_icmp_ge dX5_copyFrom_114 (by decide) kt kf
theorem bX5_copyFrom_117 {d mc ms : Nat} {al : Bool} {bc bs : Nat} {Γ : am_G} {I : am_I} {L : am_L} {Q : am_Q} {v0 : Nat} {v1 : Nat} {v2 : Int32} {r2 : Nat} {n_r2 : Nat} {r6 : Nat} {r9 : Nat} {n_r9 : Nat} {r13 : Nat} {I' : am_I} {L' : am_L} {mc' : Nat} {ms' : Nat} (o1 : am_ob Γ v0 5) (g3 : Γ.2.2 v0 9 = some r2) (a4 : am_ar Γ r2 6 n_r2 0) (i5 : vp_in v2 n_r2) (g7 : Γ.2.2 r2 (v2.toNatClampNeg) = some r6) (o8 : am_ob Γ v1 5) (g10 : Γ.2.2 v1 9 = some r9) (a11 : am_ar Γ r9 6 n_r9 0) (i12 : vp_in v2 n_r9) (g14 : Γ.2.2 r9 (v2.toNatClampNeg) = some r13) (o15 : am_ob Γ r6 0) (hbc : mc' ≤ bc) (hbs : ms' ≤ bs) (hC : am_E m_X0_copyFrom d mc' ms' [.ref r6, .ref r13] Γ I L (.inl none) I' L') (kk : am_W m_X5_copyFrom (d + 1) mc ms al (bc - mc') (bs - ms') 132 [(0, .ref v0), (1, .ref v1), (2, .int v2)] [] Γ I' L' Q) : am_W m_X5_copyFrom (d + 1) mc ms al bc bs 117 [(0, .ref v0), (1, .ref v1), (2, .int v2)] [] Γ I L Q := by
  refine aw_aload_n dX5_copyFrom_117 rfl ?_
  refine aw_getR dX5_copyFrom_118 f_X5_30 o1 rfl g3 ?_
  refine aw_iload_n dX5_copyFrom_121 rfl ?_
  refine aw_aald dX5_copyFrom_122 a4 i5 g7 ?_
  refine aw_aload_n dX5_copyFrom_123 rfl ?_
  refine aw_getR dX5_copyFrom_124 f_X5_30 o8 rfl g10 ?_
  refine aw_iload_n dX5_copyFrom_127 rfl ?_
  refine aw_aald dX5_copyFrom_128 a11 i12 g14 ?_
  exact aw_askV (as := [.ref r13]) (rst := []) k_X0_copyFrom l_X5_64 i_X0_copyFrom s_X0_copyFrom rfl o15 dX5_copyFrom_129 rfl (Nat.le_of_ble_eq_true rfl) hbc hbs hC rfl rfl kk
theorem bX5_copyFrom_132 {d mc ms : Nat} {al : Bool} {bc bs : Nat} {Γ : am_G} {I : am_I} {L : am_L} {Q : am_Q} {v0 : Nat} {v1 : Nat} {v2 : Int32} (kk : am_W m_X5_copyFrom d mc ms al bc bs 109 [(0, .ref v0), (1, .ref v1), (2, .int (v2 + 1))] [] Γ I L Q) : am_W m_X5_copyFrom d mc ms al bc bs 132 [(0, .ref v0), (1, .ref v1), (2, .int v2)] [] Γ I L Q := by
  refine aw_iinc (ls' := [(0, .ref v0), (1, .ref v1), (2, .int (v2 + 1))]) dX5_copyFrom_132 rfl (cn_1 _) (by decide) rfl ?_
  exact aw_goto dX5_copyFrom_135 (by decide) kk
theorem bX5_copyFrom_138 {d mc ms : Nat} {al : Bool} {bc bs : Nat} {Γ : am_G} {I : am_I} {L : am_L} {Q : am_Q} {v0 : Nat} {v1 : Nat} {v2 : Int32} {r2 : Nat} {r5 : Nat} {I' : am_I} {L' : am_L} {mc' : Nat} {ms' : Nat} (o1 : am_ob Γ v0 5) (g3 : Γ.2.2 v0 10 = some r2) (o4 : am_ob Γ v1 5) (g6 : Γ.2.2 v1 10 = some r5) (o7 : am_ob Γ r2 6) (hbc : mc' ≤ bc) (hbs : ms' ≤ bs) (hC : am_E m_X6_copyFrom d mc' ms' [.ref r2, .ref r5] Γ I L (.inl none) I' L') (kk : am_W m_X5_copyFrom (d + 1) mc ms al (bc - mc') (bs - ms') 149 [(0, .ref v0), (1, .ref v1), (2, .int v2)] [] Γ I' L' Q) : am_W m_X5_copyFrom (d + 1) mc ms al bc bs 138 [(0, .ref v0), (1, .ref v1), (2, .int v2)] [] Γ I L Q := by
  refine aw_aload_n dX5_copyFrom_138 rfl ?_
  refine aw_getR dX5_copyFrom_139 f_X5_37 o1 rfl g3 ?_
  refine aw_aload_n dX5_copyFrom_142 rfl ?_
  refine aw_getR dX5_copyFrom_143 f_X5_37 o4 rfl g6 ?_
  exact aw_askV (as := [.ref r5]) (rst := []) k_X6_copyFrom l_X5_68 i_X6_copyFrom s_X6_copyFrom rfl o7 dX5_copyFrom_146 rfl (Nat.le_of_ble_eq_true rfl) hbc hbs hC rfl rfl kk
theorem bX5_copyFrom_149 {d mc ms : Nat} {al : Bool} {bc bs : Nat} {Γ : am_G} {I : am_I} {L : am_L} {Q : am_Q} {v0 : Nat} {v1 : Nat} {v2 : Int32} (hq : Q (.inl none) Γ I L) : am_W m_X5_copyFrom d mc ms al bc bs 149 [(0, .ref v0), (1, .ref v1), (2, .int v2)] [] Γ I L Q := by
  exact aw_vret dX5_copyFrom_149 rfl hq
theorem dX5_allTypes_0 : decode cX5_allTypes 0 = .ok (.iconst 1, 1) := by decide +kernel
theorem dX5_allTypes_1 : decode cX5_allTypes 1 = .ok (.aload_n 0, 1) := by decide +kernel
theorem dX5_allTypes_2 : decode cX5_allTypes 2 = .ok (.getfield 46, 3) := by decide +kernel
theorem dX5_allTypes_5 : decode cX5_allTypes 5 = .ok (.ishl, 1) := by decide +kernel
theorem dX5_allTypes_6 : decode cX5_allTypes 6 = .ok (.iconst 1, 1) := by decide +kernel
theorem dX5_allTypes_7 : decode cX5_allTypes 7 = .ok (.isub, 1) := by decide +kernel
theorem dX5_allTypes_8 : decode cX5_allTypes 8 = .ok (.ireturn, 1) := by decide +kernel
theorem bX5_allTypes_0 {d mc ms : Nat} {al : Bool} {bc bs : Nat} {Γ : am_G} {I : am_I} {L : am_L} {Q : am_Q} {v0 : Nat} (o1 : am_ob Γ v0 5) (hq : Q (.inl (some (.int ((1 <<< ((I v0 1) &&& 31)) - 1)))) Γ I L) : am_W m_X5_allTypes d mc ms al bc bs 0 [(0, .ref v0)] [] Γ I L Q := by
  refine aw_iconst dX5_allTypes_0 ci_1 ?_
  refine aw_aload_n dX5_allTypes_1 rfl ?_
  refine aw_getI dX5_allTypes_2 f_X5_46 o1 rfl ?_
  refine aw_ishl dX5_allTypes_5 ?_
  refine aw_iconst dX5_allTypes_6 ci_1 ?_
  refine aw_isub dX5_allTypes_7 ?_
  exact aw_iret dX5_allTypes_8 rfl hq
theorem dX5_hourOfDay_0 : decode cX5_hourOfDay 0 = .ok (.aload_n 0, 1) := by decide +kernel
theorem dX5_hourOfDay_1 : decode cX5_hourOfDay 1 = .ok (.getfield 52, 3) := by decide +kernel
theorem dX5_hourOfDay_4 : decode cX5_hourOfDay 4 = .ok (.bipush 24, 2) := by decide +kernel
theorem dX5_hourOfDay_6 : decode cX5_hourOfDay 6 = .ok (.irem, 1) := by decide +kernel
theorem dX5_hourOfDay_7 : decode cX5_hourOfDay 7 = .ok (.ireturn, 1) := by decide +kernel
theorem bX5_hourOfDay_0 {d mc ms : Nat} {al : Bool} {bc bs : Nat} {Γ : am_G} {I : am_I} {L : am_L} {Q : am_Q} {v0 : Nat} (o1 : am_ob Γ v0 5) (hq : Q (.inl (some (.int ((I v0 3) - (I v0 3) / 24 * 24)))) Γ I L) : am_W m_X5_hourOfDay d mc ms al bc bs 0 [(0, .ref v0)] [] Γ I L Q := by
  refine aw_aload_n dX5_hourOfDay_0 rfl ?_
  refine aw_getI dX5_hourOfDay_1 f_X5_52 o1 rfl ?_
  refine aw_bipush dX5_hourOfDay_4 cb_24 ?_
  refine aw_irem dX5_hourOfDay_6 (by decide) ?_
  exact aw_iret dX5_hourOfDay_7 rfl hq
theorem dX5_openGates_0 : decode cX5_openGates 0 = .ok (.iconst 0, 1) := by decide +kernel
theorem dX5_openGates_1 : decode cX5_openGates 1 = .ok (.istore_n 1, 1) := by decide +kernel
theorem dX5_openGates_2 : decode cX5_openGates 2 = .ok (.iconst 0, 1) := by decide +kernel
theorem dX5_openGates_3 : decode cX5_openGates 3 = .ok (.istore_n 2, 1) := by decide +kernel
theorem dX5_openGates_4 : decode cX5_openGates 4 = .ok (.iload_n 2, 1) := by decide +kernel
theorem dX5_openGates_5 : decode cX5_openGates 5 = .ok (.aload_n 0, 1) := by decide +kernel
theorem dX5_openGates_6 : decode cX5_openGates 6 = .ok (.getfield 49, 3) := by decide +kernel
theorem dX5_openGates_9 : decode cX5_openGates 9 = .ok (.if_icmp .ge 28, 3) := by decide +kernel
theorem dX5_openGates_12 : decode cX5_openGates 12 = .ok (.aload_n 0, 1) := by decide +kernel
theorem dX5_openGates_13 : decode cX5_openGates 13 = .ok (.getfield 30, 3) := by decide +kernel
theorem dX5_openGates_16 : decode cX5_openGates 16 = .ok (.iload_n 2, 1) := by decide +kernel
theorem dX5_openGates_17 : decode cX5_openGates 17 = .ok (.aaload, 1) := by decide +kernel
theorem dX5_openGates_18 : decode cX5_openGates 18 = .ok (.aload_n 0, 1) := by decide +kernel
theorem dX5_openGates_19 : decode cX5_openGates 19 = .ok (.invokevirtual 71, 3) := by decide +kernel
theorem dX5_openGates_22 : decode cX5_openGates 22 = .ok (.invokevirtual 75, 3) := by decide +kernel
theorem dX5_openGates_25 : decode cX5_openGates 25 = .ok (.ifCond .eq 6, 3) := by decide +kernel
theorem dX5_openGates_28 : decode cX5_openGates 28 = .ok (.iinc 1 1, 3) := by decide +kernel
theorem dX5_openGates_31 : decode cX5_openGates 31 = .ok (.iinc 2 1, 3) := by decide +kernel
theorem dX5_openGates_34 : decode cX5_openGates 34 = .ok (.goto (-30), 3) := by decide +kernel
theorem dX5_openGates_37 : decode cX5_openGates 37 = .ok (.iload_n 1, 1) := by decide +kernel
theorem dX5_openGates_38 : decode cX5_openGates 38 = .ok (.ireturn, 1) := by decide +kernel
theorem bX5_openGates_0 {d mc ms : Nat} {al : Bool} {bc bs : Nat} {Γ : am_G} {I : am_I} {L : am_L} {Q : am_Q} {v0 : Nat} (kk : am_W m_X5_openGates d mc ms al bc bs 4 [(0, .ref v0), (1, .int 0), (2, .int 0)] [] Γ I L Q) : am_W m_X5_openGates d mc ms al bc bs 0 [(0, .ref v0)] [] Γ I L Q := by
  refine aw_iconst dX5_openGates_0 ci_0 ?_
  refine aw_istore_n (ls' := [(0, .ref v0), (1, .int 0)]) dX5_openGates_1 (by decide) rfl ?_
  refine aw_iconst dX5_openGates_2 ci_0 ?_
  refine aw_istore_n (ls' := [(0, .ref v0), (1, .int 0), (2, .int 0)]) dX5_openGates_3 (by decide) rfl ?_
  exact kk
theorem bX5_openGates_4 {d mc ms : Nat} {al : Bool} {bc bs : Nat} {Γ : am_G} {I : am_I} {L : am_L} {Q : am_Q} {v0 : Nat} {v1 : Int32} {v2 : Int32} (o1 : am_ob Γ v0 5) (kt : (I v0 2) ≤ v2 → am_W m_X5_openGates d mc ms al bc bs 37 [(0, .ref v0), (1, .int v1), (2, .int v2)] [] Γ I L Q) (kf : ¬ (I v0 2) ≤ v2 → am_W m_X5_openGates d mc ms al bc bs 12 [(0, .ref v0), (1, .int v1), (2, .int v2)] [] Γ I L Q) : am_W m_X5_openGates d mc ms al bc bs 4 [(0, .ref v0), (1, .int v1), (2, .int v2)] [] Γ I L Q := by
  refine aw_iload_n dX5_openGates_4 rfl ?_
  refine aw_aload_n dX5_openGates_5 rfl ?_
  refine aw_getI dX5_openGates_6 f_X5_49 o1 rfl ?_
  exact aw_icmp_ge dX5_openGates_9 (by decide) kt kf
theorem bX5_openGates_12 {d mc ms : Nat} {al : Bool} {bc bs : Nat} {Γ : am_G} {I : am_I} {L : am_L} {Q : am_Q} {v0 : Nat} {v1 : Int32} {v2 : Int32} {r2 : Nat} {n_r2 : Nat} {r6 : Nat} {I' : am_I} {L' : am_L} {mc' : Nat} {ms' : Nat} {r : Int32} (o1 : am_ob Γ v0 5) (g3 : Γ.2.2 v0 9 = some r2) (a4 : am_ar Γ r2 6 n_r2 0) (i5 : vp_in v2 n_r2) (g7 : Γ.2.2 r2 (v2.toNatClampNeg) = some r6) (hbc : mc' ≤ bc) (hbs : ms' ≤ bs) (hC : am_E m_X5_hourOfDay d mc' ms' [.ref v0] Γ I L (.inl (some (.int r))) I' L') (kk : am_W m_X5_openGates (d + 1) mc ms al (bc - mc') (bs - ms') 22 [(0, .ref v0), (1, .int v1), (2, .int v2)] [.int r, .ref r6] Γ I' L' Q) : am_W m_X5_openGates (d + 1) mc ms al bc bs 12 [(0, .ref v0), (1, .int v1), (2, .int v2)] [] Γ I L Q := by
  refine aw_aload_n dX5_openGates_12 rfl ?_
  refine aw_getR dX5_openGates_13 f_X5_30 o1 rfl g3 ?_
  refine aw_iload_n dX5_openGates_16 rfl ?_
  refine aw_aald dX5_openGates_17 a4 i5 g7 ?_
  refine aw_aload_n dX5_openGates_18 rfl ?_
  exact aw_askV (as := []) (rst := [.ref r6]) k_X5_hourOfDay l_X5_71 i_X5_hourOfDay s_X5_hourOfDay rfl o1 dX5_openGates_19 rfl (Nat.le_of_ble_eq_true rfl) hbc hbs hC rfl rfl kk
theorem bX5_openGates_22 {d mc ms : Nat} {al : Bool} {bc bs : Nat} {Γ : am_G} {I : am_I} {L : am_L} {Q : am_Q} {v0 : Nat} {v1 : Int32} {v2 : Int32} {w0 : Nat} {w1 : Int32} {I' : am_I} {L' : am_L} {mc' : Nat} {ms' : Nat} {r : Int32} (o1 : am_ob Γ w0 0) (hbc : mc' ≤ bc) (hbs : ms' ≤ bs) (hC : am_E m_X0_opensAt d mc' ms' [.ref w0, .int w1] Γ I L (.inl (some (.int r))) I' L') (kk : am_W m_X5_openGates (d + 1) mc ms al (bc - mc') (bs - ms') 25 [(0, .ref v0), (1, .int v1), (2, .int v2)] [.int r] Γ I' L' Q) : am_W m_X5_openGates (d + 1) mc ms al bc bs 22 [(0, .ref v0), (1, .int v1), (2, .int v2)] [.int w1, .ref w0] Γ I L Q := by
  exact aw_askV (as := [.int w1]) (rst := []) k_X0_opensAt l_X5_75 i_X0_opensAt s_X0_opensAt rfl o1 dX5_openGates_22 rfl (Nat.le_of_ble_eq_true rfl) hbc hbs hC rfl rfl kk
theorem bX5_openGates_25 {d mc ms : Nat} {al : Bool} {bc bs : Nat} {Γ : am_G} {I : am_I} {L : am_L} {Q : am_Q} {v0 : Nat} {v1 : Int32} {v2 : Int32} {w0 : Int32} (kt : w0 = 0 → am_W m_X5_openGates d mc ms al bc bs 31 [(0, .ref v0), (1, .int v1), (2, .int v2)] [] Γ I L Q) (kf : ¬ w0 = 0 → am_W m_X5_openGates d mc ms al bc bs 28 [(0, .ref v0), (1, .int v1), (2, .int v2)] [] Γ I L Q) : am_W m_X5_openGates d mc ms al bc bs 25 [(0, .ref v0), (1, .int v1), (2, .int v2)] [.int w0] Γ I L Q := by
  exact aw_if_eq dX5_openGates_25 (by decide) kt kf
theorem bX5_openGates_28 {d mc ms : Nat} {al : Bool} {bc bs : Nat} {Γ : am_G} {I : am_I} {L : am_L} {Q : am_Q} {v0 : Nat} {v1 : Int32} {v2 : Int32} (kk : am_W m_X5_openGates d mc ms al bc bs 31 [(0, .ref v0), (1, .int (v1 + 1)), (2, .int v2)] [] Γ I L Q) : am_W m_X5_openGates d mc ms al bc bs 28 [(0, .ref v0), (1, .int v1), (2, .int v2)] [] Γ I L Q := by
  refine aw_iinc (ls' := [(0, .ref v0), (1, .int (v1 + 1)), (2, .int v2)]) dX5_openGates_28 rfl (cn_1 _) (by decide) rfl ?_
  exact kk
theorem bX5_openGates_31 {d mc ms : Nat} {al : Bool} {bc bs : Nat} {Γ : am_G} {I : am_I} {L : am_L} {Q : am_Q} {v0 : Nat} {v1 : Int32} {v2 : Int32} (kk : am_W m_X5_openGates d mc ms al bc bs 4 [(0, .ref v0), (1, .int v1), (2, .int (v2 + 1))] [] Γ I L Q) : am_W m_X5_openGates d mc ms al bc bs 31 [(0, .ref v0), (1, .int v1), (2, .int v2)] [] Γ I L Q := by
  refine aw_iinc (ls' := [(0, .ref v0), (1, .int v1), (2, .int (v2 + 1))]) dX5_openGates_31 rfl (cn_1 _) (by decide) rfl ?_
  exact aw_goto dX5_openGates_34 (by decide) kk
theorem bX5_openGates_37 {d mc ms : Nat} {al : Bool} {bc bs : Nat} {Γ : am_G} {I : am_I} {L : am_L} {Q : am_Q} {v0 : Nat} {v1 : Int32} {v2 : Int32} (hq : Q (.inl (some (.int v1))) Γ I L) : am_W m_X5_openGates d mc ms al bc bs 37 [(0, .ref v0), (1, .int v1), (2, .int v2)] [] Γ I L Q := by
  refine aw_iload_n dX5_openGates_37 rfl ?_
  exact aw_iret dX5_openGates_38 rfl hq
theorem dX5_questionNamed_0 : decode cX5_questionNamed 0 = .ok (.aload_n 0, 1) := by decide +kernel
theorem dX5_questionNamed_1 : decode cX5_questionNamed 1 = .ok (.getfield 9, 3) := by decide +kernel
theorem dX5_questionNamed_4 : decode cX5_questionNamed 4 = .ok (.aload_n 0, 1) := by decide +kernel
theorem dX5_questionNamed_5 : decode cX5_questionNamed 5 = .ok (.getfield 42, 3) := by decide +kernel
theorem dX5_questionNamed_8 : decode cX5_questionNamed 8 = .ok (.lload_n 1, 1) := by decide +kernel
theorem dX5_questionNamed_9 : decode cX5_questionNamed 9 = .ok (.invokestatic 79, 3) := by decide +kernel
theorem dX5_questionNamed_12 : decode cX5_questionNamed 12 = .ok (.ireturn, 1) := by decide +kernel
theorem bX5_questionNamed_0 {d mc ms : Nat} {al : Bool} {bc bs : Nat} {Γ : am_G} {I : am_I} {L : am_L} {Q : am_Q} {v0 : Nat} {v1 : Int64} {r2 : Nat} {I' : am_I} {L' : am_L} {mc' : Nat} {ms' : Nat} {r : Int32} (o1 : am_ob Γ v0 5) (g3 : Γ.2.2 v0 4 = some r2) (hbc : mc' ≤ bc) (hbs : ms' ≤ bs) (hC : am_E m_X5_indexOfName d mc' ms' [.ref r2, .int (I v0 0), .long v1] Γ I L (.inl (some (.int r))) I' L') (kk : am_W m_X5_questionNamed (d + 1) mc ms al (bc - mc') (bs - ms') 12 [(0, .ref v0), (1, .long v1)] [.int r] Γ I' L' Q) : am_W m_X5_questionNamed (d + 1) mc ms al bc bs 0 [(0, .ref v0), (1, .long v1)] [] Γ I L Q := by
  refine aw_aload_n dX5_questionNamed_0 rfl ?_
  refine aw_getR dX5_questionNamed_1 f_X5_9 o1 rfl g3 ?_
  refine aw_aload_n dX5_questionNamed_4 rfl ?_
  refine aw_getI dX5_questionNamed_5 f_X5_42 o1 rfl ?_
  refine aw_lload_n dX5_questionNamed_8 rfl ?_
  exact aw_askS (as := [.ref r2, .int (I v0 0), .long v1]) (rst := []) k_X5_indexOfName l_X5_79 t_X5_indexOfName dX5_questionNamed_9 rfl (Nat.le_of_ble_eq_true rfl) hbc hbs hC rfl rfl kk
theorem bX5_questionNamed_12 {d mc ms : Nat} {al : Bool} {bc bs : Nat} {Γ : am_G} {I : am_I} {L : am_L} {Q : am_Q} {v0 : Nat} {v1 : Int64} {w0 : Int32} (hq : Q (.inl (some (.int w0))) Γ I L) : am_W m_X5_questionNamed d mc ms al bc bs 12 [(0, .ref v0), (1, .long v1)] [.int w0] Γ I L Q := by
  exact aw_iret dX5_questionNamed_12 rfl hq
theorem dX5_typeNamed_0 : decode cX5_typeNamed 0 = .ok (.aload_n 0, 1) := by decide +kernel
theorem dX5_typeNamed_1 : decode cX5_typeNamed 1 = .ok (.getfield 22, 3) := by decide +kernel
theorem dX5_typeNamed_4 : decode cX5_typeNamed 4 = .ok (.aload_n 0, 1) := by decide +kernel
theorem dX5_typeNamed_5 : decode cX5_typeNamed 5 = .ok (.getfield 46, 3) := by decide +kernel
theorem dX5_typeNamed_8 : decode cX5_typeNamed 8 = .ok (.lload_n 1, 1) := by decide +kernel
theorem dX5_typeNamed_9 : decode cX5_typeNamed 9 = .ok (.invokestatic 79, 3) := by decide +kernel
theorem dX5_typeNamed_12 : decode cX5_typeNamed 12 = .ok (.ireturn, 1) := by decide +kernel
theorem bX5_typeNamed_0 {d mc ms : Nat} {al : Bool} {bc bs : Nat} {Γ : am_G} {I : am_I} {L : am_L} {Q : am_Q} {v0 : Nat} {v1 : Int64} {r2 : Nat} {I' : am_I} {L' : am_L} {mc' : Nat} {ms' : Nat} {r : Int32} (o1 : am_ob Γ v0 5) (g3 : Γ.2.2 v0 7 = some r2) (hbc : mc' ≤ bc) (hbs : ms' ≤ bs) (hC : am_E m_X5_indexOfName d mc' ms' [.ref r2, .int (I v0 1), .long v1] Γ I L (.inl (some (.int r))) I' L') (kk : am_W m_X5_typeNamed (d + 1) mc ms al (bc - mc') (bs - ms') 12 [(0, .ref v0), (1, .long v1)] [.int r] Γ I' L' Q) : am_W m_X5_typeNamed (d + 1) mc ms al bc bs 0 [(0, .ref v0), (1, .long v1)] [] Γ I L Q := by
  refine aw_aload_n dX5_typeNamed_0 rfl ?_
  refine aw_getR dX5_typeNamed_1 f_X5_22 o1 rfl g3 ?_
  refine aw_aload_n dX5_typeNamed_4 rfl ?_
  refine aw_getI dX5_typeNamed_5 f_X5_46 o1 rfl ?_
  refine aw_lload_n dX5_typeNamed_8 rfl ?_
  exact aw_askS (as := [.ref r2, .int (I v0 1), .long v1]) (rst := []) k_X5_indexOfName l_X5_79 t_X5_indexOfName dX5_typeNamed_9 rfl (Nat.le_of_ble_eq_true rfl) hbc hbs hC rfl rfl kk
theorem bX5_typeNamed_12 {d mc ms : Nat} {al : Bool} {bc bs : Nat} {Γ : am_G} {I : am_I} {L : am_L} {Q : am_Q} {v0 : Nat} {v1 : Int64} {w0 : Int32} (hq : Q (.inl (some (.int w0))) Γ I L) : am_W m_X5_typeNamed d mc ms al bc bs 12 [(0, .ref v0), (1, .long v1)] [.int w0] Γ I L Q := by
  exact aw_iret dX5_typeNamed_12 rfl hq
theorem dX5_gateNamed_0 : decode cX5_gateNamed 0 = .ok (.iconst 0, 1) := by decide +kernel
theorem dX5_gateNamed_1 : decode cX5_gateNamed 1 = .ok (.istore_n 3, 1) := by decide +kernel
theorem dX5_gateNamed_2 : decode cX5_gateNamed 2 = .ok (.iload_n 3, 1) := by decide +kernel
theorem dX5_gateNamed_3 : decode cX5_gateNamed 3 = .ok (.aload_n 0, 1) := by decide +kernel
theorem dX5_gateNamed_4 : decode cX5_gateNamed 4 = .ok (.getfield 49, 3) := by decide +kernel
theorem dX5_gateNamed_7 : decode cX5_gateNamed 7 = .ok (.if_icmp .ge 25, 3) := by decide +kernel
theorem dX5_gateNamed_10 : decode cX5_gateNamed 10 = .ok (.aload_n 0, 1) := by decide +kernel
theorem dX5_gateNamed_11 : decode cX5_gateNamed 11 = .ok (.getfield 30, 3) := by decide +kernel
theorem dX5_gateNamed_14 : decode cX5_gateNamed 14 = .ok (.iload_n 3, 1) := by decide +kernel
theorem dX5_gateNamed_15 : decode cX5_gateNamed 15 = .ok (.aaload, 1) := by decide +kernel
theorem dX5_gateNamed_16 : decode cX5_gateNamed 16 = .ok (.getfield 83, 3) := by decide +kernel
theorem dX5_gateNamed_19 : decode cX5_gateNamed 19 = .ok (.lload_n 1, 1) := by decide +kernel
theorem dX5_gateNamed_20 : decode cX5_gateNamed 20 = .ok (.lcmp, 1) := by decide +kernel
theorem dX5_gateNamed_21 : decode cX5_gateNamed 21 = .ok (.ifCond .ne 5, 3) := by decide +kernel
theorem dX5_gateNamed_24 : decode cX5_gateNamed 24 = .ok (.iload_n 3, 1) := by decide +kernel
theorem dX5_gateNamed_25 : decode cX5_gateNamed 25 = .ok (.ireturn, 1) := by decide +kernel
theorem dX5_gateNamed_26 : decode cX5_gateNamed 26 = .ok (.iinc 3 1, 3) := by decide +kernel
theorem dX5_gateNamed_29 : decode cX5_gateNamed 29 = .ok (.goto (-27), 3) := by decide +kernel
theorem dX5_gateNamed_32 : decode cX5_gateNamed 32 = .ok (.iconst (-1), 1) := by decide +kernel
theorem dX5_gateNamed_33 : decode cX5_gateNamed 33 = .ok (.ireturn, 1) := by decide +kernel
theorem bX5_gateNamed_0 {d mc ms : Nat} {al : Bool} {bc bs : Nat} {Γ : am_G} {I : am_I} {L : am_L} {Q : am_Q} {v0 : Nat} {v1 : Int64} (kk : am_W m_X5_gateNamed d mc ms al bc bs 2 [(0, .ref v0), (1, .long v1), (3, .int 0)] [] Γ I L Q) : am_W m_X5_gateNamed d mc ms al bc bs 0 [(0, .ref v0), (1, .long v1)] [] Γ I L Q := by
  refine aw_iconst dX5_gateNamed_0 ci_0 ?_
  refine aw_istore_n (ls' := [(0, .ref v0), (1, .long v1), (3, .int 0)]) dX5_gateNamed_1 (by decide) rfl ?_
  exact kk
theorem bX5_gateNamed_2 {d mc ms : Nat} {al : Bool} {bc bs : Nat} {Γ : am_G} {I : am_I} {L : am_L} {Q : am_Q} {v0 : Nat} {v1 : Int64} {v3 : Int32} (o1 : am_ob Γ v0 5) (kt : (I v0 2) ≤ v3 → am_W m_X5_gateNamed d mc ms al bc bs 32 [(0, .ref v0), (1, .long v1), (3, .int v3)] [] Γ I L Q) (kf : ¬ (I v0 2) ≤ v3 → am_W m_X5_gateNamed d mc ms al bc bs 10 [(0, .ref v0), (1, .long v1), (3, .int v3)] [] Γ I L Q) : am_W m_X5_gateNamed d mc ms al bc bs 2 [(0, .ref v0), (1, .long v1), (3, .int v3)] [] Γ I L Q := by
  refine aw_iload_n dX5_gateNamed_2 rfl ?_
  refine aw_aload_n dX5_gateNamed_3 rfl ?_
  refine aw_getI dX5_gateNamed_4 f_X5_49 o1 rfl ?_
  exact aw_icmp_ge dX5_gateNamed_7 (by decide) kt kf
theorem bX5_gateNamed_10 {d mc ms : Nat} {al : Bool} {bc bs : Nat} {Γ : am_G} {I : am_I} {L : am_L} {Q : am_Q} {v0 : Nat} {v1 : Int64} {v3 : Int32} {r2 : Nat} {n_r2 : Nat} {r6 : Nat} (o1 : am_ob Γ v0 5) (g3 : Γ.2.2 v0 9 = some r2) (a4 : am_ar Γ r2 6 n_r2 0) (i5 : vp_in v3 n_r2) (g7 : Γ.2.2 r2 (v3.toNatClampNeg) = some r6) (o8 : am_ob Γ r6 0) (kt : ¬ (lg_cmp (L r6 0) v1) = 0 → am_W m_X5_gateNamed d mc ms al bc bs 26 [(0, .ref v0), (1, .long v1), (3, .int v3)] [] Γ I L Q) (kf : (lg_cmp (L r6 0) v1) = 0 → am_W m_X5_gateNamed d mc ms al bc bs 24 [(0, .ref v0), (1, .long v1), (3, .int v3)] [] Γ I L Q) : am_W m_X5_gateNamed d mc ms al bc bs 10 [(0, .ref v0), (1, .long v1), (3, .int v3)] [] Γ I L Q := by
  refine aw_aload_n dX5_gateNamed_10 rfl ?_
  refine aw_getR dX5_gateNamed_11 f_X5_30 o1 rfl g3 ?_
  refine aw_iload_n dX5_gateNamed_14 rfl ?_
  refine aw_aald dX5_gateNamed_15 a4 i5 g7 ?_
  refine aw_getL dX5_gateNamed_16 f_X5_83 o8 rfl ?_
  refine aw_lload_n dX5_gateNamed_19 rfl ?_
  refine aw_lcmp dX5_gateNamed_20 ?_
  exact aw_if_ne dX5_gateNamed_21 (by decide) kt kf
theorem bX5_gateNamed_24 {d mc ms : Nat} {al : Bool} {bc bs : Nat} {Γ : am_G} {I : am_I} {L : am_L} {Q : am_Q} {v0 : Nat} {v1 : Int64} {v3 : Int32} (hq : Q (.inl (some (.int v3))) Γ I L) : am_W m_X5_gateNamed d mc ms al bc bs 24 [(0, .ref v0), (1, .long v1), (3, .int v3)] [] Γ I L Q := by
  refine aw_iload_n dX5_gateNamed_24 rfl ?_
  exact aw_iret dX5_gateNamed_25 rfl hq
theorem bX5_gateNamed_26 {d mc ms : Nat} {al : Bool} {bc bs : Nat} {Γ : am_G} {I : am_I} {L : am_L} {Q : am_Q} {v0 : Nat} {v1 : Int64} {v3 : Int32} (kk : am_W m_X5_gateNamed d mc ms al bc bs 2 [(0, .ref v0), (1, .long v1), (3, .int (v3 + 1))] [] Γ I L Q) : am_W m_X5_gateNamed d mc ms al bc bs 26 [(0, .ref v0), (1, .long v1), (3, .int v3)] [] Γ I L Q := by
  refine aw_iinc (ls' := [(0, .ref v0), (1, .long v1), (3, .int (v3 + 1))]) dX5_gateNamed_26 rfl (cn_1 _) (by decide) rfl ?_
  exact aw_goto dX5_gateNamed_29 (by decide) kk
theorem bX5_gateNamed_32 {d mc ms : Nat} {al : Bool} {bc bs : Nat} {Γ : am_G} {I : am_I} {L : am_L} {Q : am_Q} {v0 : Nat} {v1 : Int64} {v3 : Int32} (hq : Q (.inl (some (.int (-1)))) Γ I L) : am_W m_X5_gateNamed d mc ms al bc bs 32 [(0, .ref v0), (1, .long v1), (3, .int v3)] [] Γ I L Q := by
  refine aw_iconst dX5_gateNamed_32 ci_m1 ?_
  exact aw_iret dX5_gateNamed_33 rfl hq
theorem dX5_indexOfName_0 : decode cX5_indexOfName 0 = .ok (.iconst 0, 1) := by decide +kernel
theorem dX5_indexOfName_1 : decode cX5_indexOfName 1 = .ok (.istore 4, 2) := by decide +kernel
theorem dX5_indexOfName_3 : decode cX5_indexOfName 3 = .ok (.iload 4, 2) := by decide +kernel
theorem dX5_indexOfName_5 : decode cX5_indexOfName 5 = .ok (.iload_n 1, 1) := by decide +kernel
theorem dX5_indexOfName_6 : decode cX5_indexOfName 6 = .ok (.if_icmp .ge 28, 3) := by decide +kernel
theorem dX5_indexOfName_9 : decode cX5_indexOfName 9 = .ok (.iload 4, 2) := by decide +kernel
theorem dX5_indexOfName_11 : decode cX5_indexOfName 11 = .ok (.aload_n 0, 1) := by decide +kernel
theorem dX5_indexOfName_12 : decode cX5_indexOfName 12 = .ok (.arraylength, 1) := by decide +kernel
theorem dX5_indexOfName_13 : decode cX5_indexOfName 13 = .ok (.if_icmp .ge 21, 3) := by decide +kernel
theorem dX5_indexOfName_16 : decode cX5_indexOfName 16 = .ok (.aload_n 0, 1) := by decide +kernel
theorem dX5_indexOfName_17 : decode cX5_indexOfName 17 = .ok (.iload 4, 2) := by decide +kernel
theorem dX5_indexOfName_19 : decode cX5_indexOfName 19 = .ok (.laload, 1) := by decide +kernel
theorem dX5_indexOfName_20 : decode cX5_indexOfName 20 = .ok (.lload_n 2, 1) := by decide +kernel
theorem dX5_indexOfName_21 : decode cX5_indexOfName 21 = .ok (.lcmp, 1) := by decide +kernel
theorem dX5_indexOfName_22 : decode cX5_indexOfName 22 = .ok (.ifCond .ne 6, 3) := by decide +kernel
theorem dX5_indexOfName_25 : decode cX5_indexOfName 25 = .ok (.iload 4, 2) := by decide +kernel
theorem dX5_indexOfName_27 : decode cX5_indexOfName 27 = .ok (.ireturn, 1) := by decide +kernel
theorem dX5_indexOfName_28 : decode cX5_indexOfName 28 = .ok (.iinc 4 1, 3) := by decide +kernel
theorem dX5_indexOfName_31 : decode cX5_indexOfName 31 = .ok (.goto (-28), 3) := by decide +kernel
theorem dX5_indexOfName_34 : decode cX5_indexOfName 34 = .ok (.iconst (-1), 1) := by decide +kernel
theorem dX5_indexOfName_35 : decode cX5_indexOfName 35 = .ok (.ireturn, 1) := by decide +kernel
theorem bX5_indexOfName_0 {d mc ms : Nat} {al : Bool} {bc bs : Nat} {Γ : am_G} {I : am_I} {L : am_L} {Q : am_Q} {v0 : Nat} {v1 : Int32} {v2 : Int64} (kk : am_W m_X5_indexOfName d mc ms al bc bs 3 [(0, .ref v0), (1, .int v1), (2, .long v2), (4, .int 0)] [] Γ I L Q) : am_W m_X5_indexOfName d mc ms al bc bs 0 [(0, .ref v0), (1, .int v1), (2, .long v2)] [] Γ I L Q := by
  refine aw_iconst dX5_indexOfName_0 ci_0 ?_
  refine aw_istore (ls' := [(0, .ref v0), (1, .int v1), (2, .long v2), (4, .int 0)]) dX5_indexOfName_1 (by decide) rfl ?_
  exact kk
theorem bX5_indexOfName_3 {d mc ms : Nat} {al : Bool} {bc bs : Nat} {Γ : am_G} {I : am_I} {L : am_L} {Q : am_Q} {v0 : Nat} {v1 : Int32} {v2 : Int64} {v4 : Int32} (kt : v1 ≤ v4 → am_W m_X5_indexOfName d mc ms al bc bs 34 [(0, .ref v0), (1, .int v1), (2, .long v2), (4, .int v4)] [] Γ I L Q) (kf : ¬ v1 ≤ v4 → am_W m_X5_indexOfName d mc ms al bc bs 9 [(0, .ref v0), (1, .int v1), (2, .long v2), (4, .int v4)] [] Γ I L Q) : am_W m_X5_indexOfName d mc ms al bc bs 3 [(0, .ref v0), (1, .int v1), (2, .long v2), (4, .int v4)] [] Γ I L Q := by
  refine aw_iload dX5_indexOfName_3 rfl ?_
  refine aw_iload_n dX5_indexOfName_5 rfl ?_
  exact aw_icmp_ge dX5_indexOfName_6 (by decide) kt kf
theorem bX5_indexOfName_9 {d mc ms : Nat} {al : Bool} {bc bs : Nat} {Γ : am_G} {I : am_I} {L : am_L} {Q : am_Q} {v0 : Nat} {v1 : Int32} {v2 : Int64} {v4 : Int32} {n_v0 : Nat} (a1 : am_ar Γ v0 4 n_v0 0) (kt : (Int32.ofNat n_v0) ≤ v4 → am_W m_X5_indexOfName d mc ms al bc bs 34 [(0, .ref v0), (1, .int v1), (2, .long v2), (4, .int v4)] [] Γ I L Q) (kf : ¬ (Int32.ofNat n_v0) ≤ v4 → am_W m_X5_indexOfName d mc ms al bc bs 16 [(0, .ref v0), (1, .int v1), (2, .long v2), (4, .int v4)] [] Γ I L Q) : am_W m_X5_indexOfName d mc ms al bc bs 9 [(0, .ref v0), (1, .int v1), (2, .long v2), (4, .int v4)] [] Γ I L Q := by
  refine aw_iload dX5_indexOfName_9 rfl ?_
  refine aw_aload_n dX5_indexOfName_11 rfl ?_
  refine aw_alen dX5_indexOfName_12 a1 (by decide) rfl ?_
  exact aw_icmp_ge dX5_indexOfName_13 (by decide) kt kf
theorem bX5_indexOfName_16 {d mc ms : Nat} {al : Bool} {bc bs : Nat} {Γ : am_G} {I : am_I} {L : am_L} {Q : am_Q} {v0 : Nat} {v1 : Int32} {v2 : Int64} {v4 : Int32} {n_v0 : Nat} (a1 : am_ar Γ v0 4 n_v0 0) (i2 : vp_in v4 n_v0) (kt : ¬ (lg_cmp (L v0 (v4.toNatClampNeg)) v2) = 0 → am_W m_X5_indexOfName d mc ms al bc bs 28 [(0, .ref v0), (1, .int v1), (2, .long v2), (4, .int v4)] [] Γ I L Q) (kf : (lg_cmp (L v0 (v4.toNatClampNeg)) v2) = 0 → am_W m_X5_indexOfName d mc ms al bc bs 25 [(0, .ref v0), (1, .int v1), (2, .long v2), (4, .int v4)] [] Γ I L Q) : am_W m_X5_indexOfName d mc ms al bc bs 16 [(0, .ref v0), (1, .int v1), (2, .long v2), (4, .int v4)] [] Γ I L Q := by
  refine aw_aload_n dX5_indexOfName_16 rfl ?_
  refine aw_iload dX5_indexOfName_17 rfl ?_
  refine aw_lald dX5_indexOfName_19 a1 i2 ?_
  refine aw_lload_n dX5_indexOfName_20 rfl ?_
  refine aw_lcmp dX5_indexOfName_21 ?_
  exact aw_if_ne dX5_indexOfName_22 (by decide) kt kf
theorem bX5_indexOfName_25 {d mc ms : Nat} {al : Bool} {bc bs : Nat} {Γ : am_G} {I : am_I} {L : am_L} {Q : am_Q} {v0 : Nat} {v1 : Int32} {v2 : Int64} {v4 : Int32} (hq : Q (.inl (some (.int v4))) Γ I L) : am_W m_X5_indexOfName d mc ms al bc bs 25 [(0, .ref v0), (1, .int v1), (2, .long v2), (4, .int v4)] [] Γ I L Q := by
  refine aw_iload dX5_indexOfName_25 rfl ?_
  exact aw_iret dX5_indexOfName_27 rfl hq
theorem bX5_indexOfName_28 {d mc ms : Nat} {al : Bool} {bc bs : Nat} {Γ : am_G} {I : am_I} {L : am_L} {Q : am_Q} {v0 : Nat} {v1 : Int32} {v2 : Int64} {v4 : Int32} (kk : am_W m_X5_indexOfName d mc ms al bc bs 3 [(0, .ref v0), (1, .int v1), (2, .long v2), (4, .int (v4 + 1))] [] Γ I L Q) : am_W m_X5_indexOfName d mc ms al bc bs 28 [(0, .ref v0), (1, .int v1), (2, .long v2), (4, .int v4)] [] Γ I L Q := by
  refine aw_iinc (ls' := [(0, .ref v0), (1, .int v1), (2, .long v2), (4, .int (v4 + 1))]) dX5_indexOfName_28 rfl (cn_1 _) (by decide) rfl ?_
  exact aw_goto dX5_indexOfName_31 (by decide) kk
theorem bX5_indexOfName_34 {d mc ms : Nat} {al : Bool} {bc bs : Nat} {Γ : am_G} {I : am_I} {L : am_L} {Q : am_Q} {v0 : Nat} {v1 : Int32} {v2 : Int64} {v4 : Int32} (hq : Q (.inl (some (.int (-1)))) Γ I L) : am_W m_X5_indexOfName d mc ms al bc bs 34 [(0, .ref v0), (1, .int v1), (2, .long v2), (4, .int v4)] [] Γ I L Q := by
  refine aw_iconst dX5_indexOfName_34 ci_m1 ?_
  exact aw_iret dX5_indexOfName_35 rfl hq
theorem dX5_letPass_0 : decode cX5_letPass 0 = .ok (.aload_n 0, 1) := by decide +kernel
theorem dX5_letPass_1 : decode cX5_letPass 1 = .ok (.getfield 30, 3) := by decide +kernel
theorem dX5_letPass_4 : decode cX5_letPass 4 = .ok (.iload_n 1, 1) := by decide +kernel
theorem dX5_letPass_5 : decode cX5_letPass 5 = .ok (.aaload, 1) := by decide +kernel
theorem dX5_letPass_6 : decode cX5_letPass 6 = .ok (.getfield 87, 3) := by decide +kernel
theorem dX5_letPass_9 : decode cX5_letPass 9 = .ok (.iload_n 2, 1) := by decide +kernel
theorem dX5_letPass_10 : decode cX5_letPass 10 = .ok (.invokevirtual 91, 3) := by decide +kernel
theorem dX5_letPass_13 : decode cX5_letPass 13 = .ok (.istore 4, 2) := by decide +kernel
theorem dX5_letPass_15 : decode cX5_letPass 15 = .ok (.aload_n 0, 1) := by decide +kernel
theorem dX5_letPass_16 : decode cX5_letPass 16 = .ok (.getfield 37, 3) := by decide +kernel
theorem dX5_letPass_19 : decode cX5_letPass 19 = .ok (.iload_n 3, 1) := by decide +kernel
theorem dX5_letPass_20 : decode cX5_letPass 20 = .ok (.aload_n 0, 1) := by decide +kernel
theorem dX5_letPass_21 : decode cX5_letPass 21 = .ok (.iload_n 1, 1) := by decide +kernel
theorem dX5_letPass_22 : decode cX5_letPass 22 = .ok (.iload_n 2, 1) := by decide +kernel
theorem dX5_letPass_23 : decode cX5_letPass 23 = .ok (.invokevirtual 97, 3) := by decide +kernel
theorem dX5_letPass_26 : decode cX5_letPass 26 = .ok (.iload 4, 2) := by decide +kernel
theorem dX5_letPass_28 : decode cX5_letPass 28 = .ok (.aload_n 0, 1) := by decide +kernel
theorem dX5_letPass_29 : decode cX5_letPass 29 = .ok (.getfield 25, 3) := by decide +kernel
theorem dX5_letPass_32 : decode cX5_letPass 32 = .ok (.iload_n 2, 1) := by decide +kernel
theorem dX5_letPass_33 : decode cX5_letPass 33 = .ok (.iaload, 1) := by decide +kernel
theorem dX5_letPass_34 : decode cX5_letPass 34 = .ok (.invokevirtual 101, 3) := by decide +kernel
theorem dX5_letPass_37 : decode cX5_letPass 37 = .ok (.aload_n 0, 1) := by decide +kernel
theorem dX5_letPass_38 : decode cX5_letPass 38 = .ok (.getfield 30, 3) := by decide +kernel
theorem dX5_letPass_41 : decode cX5_letPass 41 = .ok (.iload_n 1, 1) := by decide +kernel
theorem dX5_letPass_42 : decode cX5_letPass 42 = .ok (.aaload, 1) := by decide +kernel
theorem dX5_letPass_43 : decode cX5_letPass 43 = .ok (.iload_n 2, 1) := by decide +kernel
theorem dX5_letPass_44 : decode cX5_letPass 44 = .ok (.iload_n 3, 1) := by decide +kernel
theorem dX5_letPass_45 : decode cX5_letPass 45 = .ok (.invokevirtual 105, 3) := by decide +kernel
theorem dX5_letPass_48 : decode cX5_letPass 48 = .ok (.iload 4, 2) := by decide +kernel
theorem dX5_letPass_50 : decode cX5_letPass 50 = .ok (.ireturn, 1) := by decide +kernel
theorem bX5_letPass_0 {d mc ms : Nat} {al : Bool} {bc bs : Nat} {Γ : am_G} {I : am_I} {L : am_L} {Q : am_Q} {v0 : Nat} {v1 : Int32} {v2 : Int32} {v3 : Int32} {r2 : Nat} {n_r2 : Nat} {r6 : Nat} {r9 : Nat} {I' : am_I} {L' : am_L} {mc' : Nat} {ms' : Nat} {r : Int32} (o1 : am_ob Γ v0 5) (g3 : Γ.2.2 v0 9 = some r2) (a4 : am_ar Γ r2 6 n_r2 0) (i5 : vp_in v1 n_r2) (g7 : Γ.2.2 r2 (v1.toNatClampNeg) = some r6) (o8 : am_ob Γ r6 0) (g10 : Γ.2.2 r6 5 = some r9) (o11 : am_ob Γ r9 7) (hbc : mc' ≤ bc) (hbs : ms' ≤ bs) (hC : am_E m_X7_tollFor d mc' ms' [.ref r9, .int v2] Γ I L (.inl (some (.int r))) I' L') (kk : am_W m_X5_letPass (d + 1) mc ms al (bc - mc') (bs - ms') 13 [(0, .ref v0), (1, .int v1), (2, .int v2), (3, .int v3)] [.int r] Γ I' L' Q) : am_W m_X5_letPass (d + 1) mc ms al bc bs 0 [(0, .ref v0), (1, .int v1), (2, .int v2), (3, .int v3)] [] Γ I L Q := by
  refine aw_aload_n dX5_letPass_0 rfl ?_
  refine aw_getR dX5_letPass_1 f_X5_30 o1 rfl g3 ?_
  refine aw_iload_n dX5_letPass_4 rfl ?_
  refine aw_aald dX5_letPass_5 a4 i5 g7 ?_
  refine aw_getR dX5_letPass_6 f_X5_87 o8 rfl g10 ?_
  refine aw_iload_n dX5_letPass_9 rfl ?_
  exact aw_askV (as := [.int v2]) (rst := []) k_X7_tollFor l_X5_91 i_X7_tollFor s_X7_tollFor rfl o11 dX5_letPass_10 rfl (Nat.le_of_ble_eq_true rfl) hbc hbs hC rfl rfl kk
theorem bX5_letPass_13 {d mc ms : Nat} {al : Bool} {bc bs : Nat} {Γ : am_G} {I : am_I} {L : am_L} {Q : am_Q} {v0 : Nat} {v1 : Int32} {v2 : Int32} {v3 : Int32} {w0 : Int32} {r2 : Nat} {I' : am_I} {L' : am_L} {mc' : Nat} {ms' : Nat} {r : Int32} (o1 : am_ob Γ v0 5) (g3 : Γ.2.2 v0 10 = some r2) (hbc : mc' ≤ bc) (hbs : ms' ≤ bs) (hC : am_E m_X5_costOfPath d mc' ms' [.ref v0, .int v1, .int v2] Γ I L (.inl (some (.int r))) I' L') (kk : am_W m_X5_letPass (d + 1) mc ms al (bc - mc') (bs - ms') 26 [(0, .ref v0), (1, .int v1), (2, .int v2), (3, .int v3), (4, .int w0)] [.int r, .int v3, .ref r2] Γ I' L' Q) : am_W m_X5_letPass (d + 1) mc ms al bc bs 13 [(0, .ref v0), (1, .int v1), (2, .int v2), (3, .int v3)] [.int w0] Γ I L Q := by
  refine aw_istore (ls' := [(0, .ref v0), (1, .int v1), (2, .int v2), (3, .int v3), (4, .int w0)]) dX5_letPass_13 (by decide) rfl ?_
  refine aw_aload_n dX5_letPass_15 rfl ?_
  refine aw_getR dX5_letPass_16 f_X5_37 o1 rfl g3 ?_
  refine aw_iload_n dX5_letPass_19 rfl ?_
  refine aw_aload_n dX5_letPass_20 rfl ?_
  refine aw_iload_n dX5_letPass_21 rfl ?_
  refine aw_iload_n dX5_letPass_22 rfl ?_
  exact aw_askV (as := [.int v1, .int v2]) (rst := [.int v3, .ref r2]) k_X5_costOfPath l_X5_97 i_X5_costOfPath s_X5_costOfPath rfl o1 dX5_letPass_23 rfl (Nat.le_of_ble_eq_true rfl) hbc hbs hC rfl rfl kk
theorem bX5_letPass_26 {d mc ms : Nat} {al : Bool} {bc bs : Nat} {Γ : am_G} {I : am_I} {L : am_L} {Q : am_Q} {v0 : Nat} {v1 : Int32} {v2 : Int32} {v3 : Int32} {v4 : Int32} {w0 : Nat} {w1 : Int32} {w2 : Int32} {r2 : Nat} {n_r2 : Nat} {I' : am_I} {L' : am_L} {mc' : Nat} {ms' : Nat} (o1 : am_ob Γ v0 5) (g3 : Γ.2.2 v0 8 = some r2) (a4 : am_ar Γ r2 1 n_r2 0) (i5 : vp_in v2 n_r2) (o6 : am_ob Γ w0 6) (hbc : mc' ≤ bc) (hbs : ms' ≤ bs) (hC : am_E m_X6_add d mc' ms' [.ref w0, .int w1, .int w2, .int v4, .int (I r2 (v2.toNatClampNeg))] Γ I L (.inl none) I' L') (kk : am_W m_X5_letPass (d + 1) mc ms al (bc - mc') (bs - ms') 37 [(0, .ref v0), (1, .int v1), (2, .int v2), (3, .int v3), (4, .int v4)] [] Γ I' L' Q) : am_W m_X5_letPass (d + 1) mc ms al bc bs 26 [(0, .ref v0), (1, .int v1), (2, .int v2), (3, .int v3), (4, .int v4)] [.int w2, .int w1, .ref w0] Γ I L Q := by
  refine aw_iload dX5_letPass_26 rfl ?_
  refine aw_aload_n dX5_letPass_28 rfl ?_
  refine aw_getR dX5_letPass_29 f_X5_25 o1 rfl g3 ?_
  refine aw_iload_n dX5_letPass_32 rfl ?_
  refine aw_iald dX5_letPass_33 a4 i5 ?_
  exact aw_askV (as := [.int w1, .int w2, .int v4, .int (I r2 (v2.toNatClampNeg))]) (rst := []) k_X6_add l_X5_101 i_X6_add s_X6_add rfl o6 dX5_letPass_34 rfl (Nat.le_of_ble_eq_true rfl) hbc hbs hC rfl rfl kk
theorem bX5_letPass_37 {d mc ms : Nat} {al : Bool} {bc bs : Nat} {Γ : am_G} {I : am_I} {L : am_L} {Q : am_Q} {v0 : Nat} {v1 : Int32} {v2 : Int32} {v3 : Int32} {v4 : Int32} {r2 : Nat} {n_r2 : Nat} {r6 : Nat} {I' : am_I} {L' : am_L} {mc' : Nat} {ms' : Nat} (o1 : am_ob Γ v0 5) (g3 : Γ.2.2 v0 9 = some r2) (a4 : am_ar Γ r2 6 n_r2 0) (i5 : vp_in v1 n_r2) (g7 : Γ.2.2 r2 (v1.toNatClampNeg) = some r6) (o8 : am_ob Γ r6 0) (hbc : mc' ≤ bc) (hbs : ms' ≤ bs) (hC : am_E m_X0_addCarts d mc' ms' [.ref r6, .int v2, .int v3] Γ I L (.inl none) I' L') (kk : am_W m_X5_letPass (d + 1) mc ms al (bc - mc') (bs - ms') 48 [(0, .ref v0), (1, .int v1), (2, .int v2), (3, .int v3), (4, .int v4)] [] Γ I' L' Q) : am_W m_X5_letPass (d + 1) mc ms al bc bs 37 [(0, .ref v0), (1, .int v1), (2, .int v2), (3, .int v3), (4, .int v4)] [] Γ I L Q := by
  refine aw_aload_n dX5_letPass_37 rfl ?_
  refine aw_getR dX5_letPass_38 f_X5_30 o1 rfl g3 ?_
  refine aw_iload_n dX5_letPass_41 rfl ?_
  refine aw_aald dX5_letPass_42 a4 i5 g7 ?_
  refine aw_iload_n dX5_letPass_43 rfl ?_
  refine aw_iload_n dX5_letPass_44 rfl ?_
  exact aw_askV (as := [.int v2, .int v3]) (rst := []) k_X0_addCarts l_X5_105 i_X0_addCarts s_X0_addCarts rfl o8 dX5_letPass_45 rfl (Nat.le_of_ble_eq_true rfl) hbc hbs hC rfl rfl kk
theorem bX5_letPass_48 {d mc ms : Nat} {al : Bool} {bc bs : Nat} {Γ : am_G} {I : am_I} {L : am_L} {Q : am_Q} {v0 : Nat} {v1 : Int32} {v2 : Int32} {v3 : Int32} {v4 : Int32} (hq : Q (.inl (some (.int v4))) Γ I L) : am_W m_X5_letPass d mc ms al bc bs 48 [(0, .ref v0), (1, .int v1), (2, .int v2), (3, .int v3), (4, .int v4)] [] Γ I L Q := by
  refine aw_iload dX5_letPass_48 rfl ?_
  exact aw_iret dX5_letPass_50 rfl hq
theorem dX5_costOfPath_0 : decode cX5_costOfPath 0 = .ok (.aload_n 0, 1) := by decide +kernel
theorem dX5_costOfPath_1 : decode cX5_costOfPath 1 = .ok (.getfield 30, 3) := by decide +kernel
theorem dX5_costOfPath_4 : decode cX5_costOfPath 4 = .ok (.iload_n 1, 1) := by decide +kernel
theorem dX5_costOfPath_5 : decode cX5_costOfPath 5 = .ok (.aaload, 1) := by decide +kernel
theorem dX5_costOfPath_6 : decode cX5_costOfPath 6 = .ok (.getfield 87, 3) := by decide +kernel
theorem dX5_costOfPath_9 : decode cX5_costOfPath 9 = .ok (.astore_n 3, 1) := by decide +kernel
theorem dX5_costOfPath_10 : decode cX5_costOfPath 10 = .ok (.iconst 0, 1) := by decide +kernel
theorem dX5_costOfPath_11 : decode cX5_costOfPath 11 = .ok (.istore 4, 2) := by decide +kernel
theorem dX5_costOfPath_13 : decode cX5_costOfPath 13 = .ok (.iconst 0, 1) := by decide +kernel
theorem dX5_costOfPath_14 : decode cX5_costOfPath 14 = .ok (.istore 5, 2) := by decide +kernel
theorem dX5_costOfPath_16 : decode cX5_costOfPath 16 = .ok (.iload 5, 2) := by decide +kernel
theorem dX5_costOfPath_18 : decode cX5_costOfPath 18 = .ok (.aload_n 3, 1) := by decide +kernel
theorem dX5_costOfPath_19 : decode cX5_costOfPath 19 = .ok (.getfield 109, 3) := by decide +kernel
theorem dX5_costOfPath_22 : decode cX5_costOfPath 22 = .ok (.if_icmp .ge 51, 3) := by decide +kernel
theorem dX5_costOfPath_25 : decode cX5_costOfPath 25 = .ok (.aload_n 3, 1) := by decide +kernel
theorem dX5_costOfPath_26 : decode cX5_costOfPath 26 = .ok (.getfield 112, 3) := by decide +kernel
theorem dX5_costOfPath_29 : decode cX5_costOfPath 29 = .ok (.iload 5, 2) := by decide +kernel
theorem dX5_costOfPath_31 : decode cX5_costOfPath 31 = .ok (.iaload, 1) := by decide +kernel
theorem dX5_costOfPath_32 : decode cX5_costOfPath 32 = .ok (.iconst (-1), 1) := by decide +kernel
theorem dX5_costOfPath_33 : decode cX5_costOfPath 33 = .ok (.if_icmp .eq 34, 3) := by decide +kernel
theorem dX5_costOfPath_36 : decode cX5_costOfPath 36 = .ok (.aload_n 3, 1) := by decide +kernel
theorem dX5_costOfPath_37 : decode cX5_costOfPath 37 = .ok (.getfield 115, 3) := by decide +kernel
theorem dX5_costOfPath_40 : decode cX5_costOfPath 40 = .ok (.iload 5, 2) := by decide +kernel
theorem dX5_costOfPath_42 : decode cX5_costOfPath 42 = .ok (.iaload, 1) := by decide +kernel
theorem dX5_costOfPath_43 : decode cX5_costOfPath 43 = .ok (.iload_n 2, 1) := by decide +kernel
theorem dX5_costOfPath_44 : decode cX5_costOfPath 44 = .ok (.invokestatic 118, 3) := by decide +kernel
theorem dX5_costOfPath_47 : decode cX5_costOfPath 47 = .ok (.ifCond .eq 20, 3) := by decide +kernel
theorem dX5_costOfPath_50 : decode cX5_costOfPath 50 = .ok (.iload 4, 2) := by decide +kernel
theorem dX5_costOfPath_52 : decode cX5_costOfPath 52 = .ok (.aload_n 0, 1) := by decide +kernel
theorem dX5_costOfPath_53 : decode cX5_costOfPath 53 = .ok (.getfield 15, 3) := by decide +kernel
theorem dX5_costOfPath_56 : decode cX5_costOfPath 56 = .ok (.aload_n 3, 1) := by decide +kernel
theorem dX5_costOfPath_57 : decode cX5_costOfPath 57 = .ok (.getfield 112, 3) := by decide +kernel
theorem dX5_costOfPath_60 : decode cX5_costOfPath 60 = .ok (.iload 5, 2) := by decide +kernel
theorem dX5_costOfPath_62 : decode cX5_costOfPath 62 = .ok (.iaload, 1) := by decide +kernel
theorem dX5_costOfPath_63 : decode cX5_costOfPath 63 = .ok (.iaload, 1) := by decide +kernel
theorem dX5_costOfPath_64 : decode cX5_costOfPath 64 = .ok (.iadd, 1) := by decide +kernel
theorem dX5_costOfPath_65 : decode cX5_costOfPath 65 = .ok (.istore 4, 2) := by decide +kernel
theorem dX5_costOfPath_67 : decode cX5_costOfPath 67 = .ok (.iinc 5 1, 3) := by decide +kernel
theorem dX5_costOfPath_70 : decode cX5_costOfPath 70 = .ok (.goto (-54), 3) := by decide +kernel
theorem dX5_costOfPath_73 : decode cX5_costOfPath 73 = .ok (.iload 4, 2) := by decide +kernel
theorem dX5_costOfPath_75 : decode cX5_costOfPath 75 = .ok (.ireturn, 1) := by decide +kernel
theorem bX5_costOfPath_0 {d mc ms : Nat} {al : Bool} {bc bs : Nat} {Γ : am_G} {I : am_I} {L : am_L} {Q : am_Q} {v0 : Nat} {v1 : Int32} {v2 : Int32} {r2 : Nat} {n_r2 : Nat} {r6 : Nat} {r9 : Nat} (o1 : am_ob Γ v0 5) (g3 : Γ.2.2 v0 9 = some r2) (a4 : am_ar Γ r2 6 n_r2 0) (i5 : vp_in v1 n_r2) (g7 : Γ.2.2 r2 (v1.toNatClampNeg) = some r6) (o8 : am_ob Γ r6 0) (g10 : Γ.2.2 r6 5 = some r9) (kk : am_W m_X5_costOfPath d mc ms al bc bs 16 [(0, .ref v0), (1, .int v1), (2, .int v2), (3, .ref r9), (4, .int 0), (5, .int 0)] [] Γ I L Q) : am_W m_X5_costOfPath d mc ms al bc bs 0 [(0, .ref v0), (1, .int v1), (2, .int v2)] [] Γ I L Q := by
  refine aw_aload_n dX5_costOfPath_0 rfl ?_
  refine aw_getR dX5_costOfPath_1 f_X5_30 o1 rfl g3 ?_
  refine aw_iload_n dX5_costOfPath_4 rfl ?_
  refine aw_aald dX5_costOfPath_5 a4 i5 g7 ?_
  refine aw_getR dX5_costOfPath_6 f_X5_87 o8 rfl g10 ?_
  refine aw_astore_n (ls' := [(0, .ref v0), (1, .int v1), (2, .int v2), (3, .ref r9)]) dX5_costOfPath_9 (by decide) rfl ?_
  refine aw_iconst dX5_costOfPath_10 ci_0 ?_
  refine aw_istore (ls' := [(0, .ref v0), (1, .int v1), (2, .int v2), (3, .ref r9), (4, .int 0)]) dX5_costOfPath_11 (by decide) rfl ?_
  refine aw_iconst dX5_costOfPath_13 ci_0 ?_
  refine aw_istore (ls' := [(0, .ref v0), (1, .int v1), (2, .int v2), (3, .ref r9), (4, .int 0), (5, .int 0)]) dX5_costOfPath_14 (by decide) rfl ?_
  exact kk
theorem bX5_costOfPath_16 {d mc ms : Nat} {al : Bool} {bc bs : Nat} {Γ : am_G} {I : am_I} {L : am_L} {Q : am_Q} {v0 : Nat} {v1 : Int32} {v2 : Int32} {v3 : Nat} {v4 : Int32} {v5 : Int32} (o1 : am_ob Γ v3 7) (kt : (I v3 0) ≤ v5 → am_W m_X5_costOfPath d mc ms al bc bs 73 [(0, .ref v0), (1, .int v1), (2, .int v2), (3, .ref v3), (4, .int v4), (5, .int v5)] [] Γ I L Q) (kf : ¬ (I v3 0) ≤ v5 → am_W m_X5_costOfPath d mc ms al bc bs 25 [(0, .ref v0), (1, .int v1), (2, .int v2), (3, .ref v3), (4, .int v4), (5, .int v5)] [] Γ I L Q) : am_W m_X5_costOfPath d mc ms al bc bs 16 [(0, .ref v0), (1, .int v1), (2, .int v2), (3, .ref v3), (4, .int v4), (5, .int v5)] [] Γ I L Q := by
  refine aw_iload dX5_costOfPath_16 rfl ?_
  refine aw_aload_n dX5_costOfPath_18 rfl ?_
  refine aw_getI dX5_costOfPath_19 f_X5_109 o1 rfl ?_
  exact aw_icmp_ge dX5_costOfPath_22 (by decide) kt kf
theorem bX5_costOfPath_25 {d mc ms : Nat} {al : Bool} {bc bs : Nat} {Γ : am_G} {I : am_I} {L : am_L} {Q : am_Q} {v0 : Nat} {v1 : Int32} {v2 : Int32} {v3 : Nat} {v4 : Int32} {v5 : Int32} {r2 : Nat} {n_r2 : Nat} (o1 : am_ob Γ v3 7) (g3 : Γ.2.2 v3 1 = some r2) (a4 : am_ar Γ r2 1 n_r2 0) (i5 : vp_in v5 n_r2) (kt : (I r2 (v5.toNatClampNeg)) = (-1) → am_W m_X5_costOfPath d mc ms al bc bs 67 [(0, .ref v0), (1, .int v1), (2, .int v2), (3, .ref v3), (4, .int v4), (5, .int v5)] [] Γ I L Q) (kf : ¬ (I r2 (v5.toNatClampNeg)) = (-1) → am_W m_X5_costOfPath d mc ms al bc bs 36 [(0, .ref v0), (1, .int v1), (2, .int v2), (3, .ref v3), (4, .int v4), (5, .int v5)] [] Γ I L Q) : am_W m_X5_costOfPath d mc ms al bc bs 25 [(0, .ref v0), (1, .int v1), (2, .int v2), (3, .ref v3), (4, .int v4), (5, .int v5)] [] Γ I L Q := by
  refine aw_aload_n dX5_costOfPath_25 rfl ?_
  refine aw_getR dX5_costOfPath_26 f_X5_112 o1 rfl g3 ?_
  refine aw_iload dX5_costOfPath_29 rfl ?_
  refine aw_iald dX5_costOfPath_31 a4 i5 ?_
  refine aw_iconst dX5_costOfPath_32 ci_m1 ?_
  exact aw_icmp_eq dX5_costOfPath_33 (by decide) kt kf
theorem bX5_costOfPath_36 {d mc ms : Nat} {al : Bool} {bc bs : Nat} {Γ : am_G} {I : am_I} {L : am_L} {Q : am_Q} {v0 : Nat} {v1 : Int32} {v2 : Int32} {v3 : Nat} {v4 : Int32} {v5 : Int32} {r2 : Nat} {n_r2 : Nat} {I' : am_I} {L' : am_L} {mc' : Nat} {ms' : Nat} {r : Int32} (o1 : am_ob Γ v3 7) (g3 : Γ.2.2 v3 4 = some r2) (a4 : am_ar Γ r2 1 n_r2 0) (i5 : vp_in v5 n_r2) (hbc : mc' ≤ bc) (hbs : ms' ≤ bs) (hC : am_E m_X8_holds d mc' ms' [.int (I r2 (v5.toNatClampNeg)), .int v2] Γ I L (.inl (some (.int r))) I' L') (kk : am_W m_X5_costOfPath (d + 1) mc ms al (bc - mc') (bs - ms') 47 [(0, .ref v0), (1, .int v1), (2, .int v2), (3, .ref v3), (4, .int v4), (5, .int v5)] [.int r] Γ I' L' Q) : am_W m_X5_costOfPath (d + 1) mc ms al bc bs 36 [(0, .ref v0), (1, .int v1), (2, .int v2), (3, .ref v3), (4, .int v4), (5, .int v5)] [] Γ I L Q := by
  refine aw_aload_n dX5_costOfPath_36 rfl ?_
  refine aw_getR dX5_costOfPath_37 f_X5_115 o1 rfl g3 ?_
  refine aw_iload dX5_costOfPath_40 rfl ?_
  refine aw_iald dX5_costOfPath_42 a4 i5 ?_
  refine aw_iload_n dX5_costOfPath_43 rfl ?_
  exact aw_askN (as := [.int (I r2 (v5.toNatClampNeg)), .int v2]) (rst := []) k_X8_holds ln_X5_118 t_X8_holds dX5_costOfPath_44 rfl (Nat.le_of_ble_eq_true rfl) hbc hbs hC rfl rfl kk
theorem bX5_costOfPath_47 {d mc ms : Nat} {al : Bool} {bc bs : Nat} {Γ : am_G} {I : am_I} {L : am_L} {Q : am_Q} {v0 : Nat} {v1 : Int32} {v2 : Int32} {v3 : Nat} {v4 : Int32} {v5 : Int32} {w0 : Int32} (kt : w0 = 0 → am_W m_X5_costOfPath d mc ms al bc bs 67 [(0, .ref v0), (1, .int v1), (2, .int v2), (3, .ref v3), (4, .int v4), (5, .int v5)] [] Γ I L Q) (kf : ¬ w0 = 0 → am_W m_X5_costOfPath d mc ms al bc bs 50 [(0, .ref v0), (1, .int v1), (2, .int v2), (3, .ref v3), (4, .int v4), (5, .int v5)] [] Γ I L Q) : am_W m_X5_costOfPath d mc ms al bc bs 47 [(0, .ref v0), (1, .int v1), (2, .int v2), (3, .ref v3), (4, .int v4), (5, .int v5)] [.int w0] Γ I L Q := by
  exact aw_if_eq dX5_costOfPath_47 (by decide) kt kf
theorem bX5_costOfPath_50 {d mc ms : Nat} {al : Bool} {bc bs : Nat} {Γ : am_G} {I : am_I} {L : am_L} {Q : am_Q} {v0 : Nat} {v1 : Int32} {v2 : Int32} {v3 : Nat} {v4 : Int32} {v5 : Int32} {r2 : Nat} {r5 : Nat} {n_r5 : Nat} {n_r2 : Nat} (o1 : am_ob Γ v0 5) (g3 : Γ.2.2 v0 5 = some r2) (o4 : am_ob Γ v3 7) (g6 : Γ.2.2 v3 1 = some r5) (a7 : am_ar Γ r5 1 n_r5 0) (i8 : vp_in v5 n_r5) (a9 : am_ar Γ r2 1 n_r2 0) (i10 : vp_in (I r5 (v5.toNatClampNeg)) n_r2) (kk : am_W m_X5_costOfPath d mc ms al bc bs 67 [(0, .ref v0), (1, .int v1), (2, .int v2), (3, .ref v3), (4, .int (v4 + (I r2 ((I r5 (v5.toNatClampNeg)).toNatClampNeg)))), (5, .int v5)] [] Γ I L Q) : am_W m_X5_costOfPath d mc ms al bc bs 50 [(0, .ref v0), (1, .int v1), (2, .int v2), (3, .ref v3), (4, .int v4), (5, .int v5)] [] Γ I L Q := by
  refine aw_iload dX5_costOfPath_50 rfl ?_
  refine aw_aload_n dX5_costOfPath_52 rfl ?_
  refine aw_getR dX5_costOfPath_53 f_X5_15 o1 rfl g3 ?_
  refine aw_aload_n dX5_costOfPath_56 rfl ?_
  refine aw_getR dX5_costOfPath_57 f_X5_112 o4 rfl g6 ?_
  refine aw_iload dX5_costOfPath_60 rfl ?_
  refine aw_iald dX5_costOfPath_62 a7 i8 ?_
  refine aw_iald dX5_costOfPath_63 a9 i10 ?_
  refine aw_iadd dX5_costOfPath_64 ?_
  refine aw_istore (ls' := [(0, .ref v0), (1, .int v1), (2, .int v2), (3, .ref v3), (4, .int (v4 + (I r2 ((I r5 (v5.toNatClampNeg)).toNatClampNeg)))), (5, .int v5)]) dX5_costOfPath_65 (by decide) rfl ?_
  exact kk
theorem bX5_costOfPath_67 {d mc ms : Nat} {al : Bool} {bc bs : Nat} {Γ : am_G} {I : am_I} {L : am_L} {Q : am_Q} {v0 : Nat} {v1 : Int32} {v2 : Int32} {v3 : Nat} {v4 : Int32} {v5 : Int32} (kk : am_W m_X5_costOfPath d mc ms al bc bs 16 [(0, .ref v0), (1, .int v1), (2, .int v2), (3, .ref v3), (4, .int v4), (5, .int (v5 + 1))] [] Γ I L Q) : am_W m_X5_costOfPath d mc ms al bc bs 67 [(0, .ref v0), (1, .int v1), (2, .int v2), (3, .ref v3), (4, .int v4), (5, .int v5)] [] Γ I L Q := by
  refine aw_iinc (ls' := [(0, .ref v0), (1, .int v1), (2, .int v2), (3, .ref v3), (4, .int v4), (5, .int (v5 + 1))]) dX5_costOfPath_67 rfl (cn_1 _) (by decide) rfl ?_
  exact aw_goto dX5_costOfPath_70 (by decide) kk
theorem bX5_costOfPath_73 {d mc ms : Nat} {al : Bool} {bc bs : Nat} {Γ : am_G} {I : am_I} {L : am_L} {Q : am_Q} {v0 : Nat} {v1 : Int32} {v2 : Int32} {v3 : Nat} {v4 : Int32} {v5 : Int32} (hq : Q (.inl (some (.int v4))) Γ I L) : am_W m_X5_costOfPath d mc ms al bc bs 73 [(0, .ref v0), (1, .int v1), (2, .int v2), (3, .ref v3), (4, .int v4), (5, .int v5)] [] Γ I L Q := by
  refine aw_iload dX5_costOfPath_73 rfl ?_
  exact aw_iret dX5_costOfPath_75 rfl hq
theorem dX5_errorsNow_0 : decode cX5_errorsNow 0 = .ok (.iconst 0, 1) := by decide +kernel
theorem dX5_errorsNow_1 : decode cX5_errorsNow 1 = .ok (.istore_n 2, 1) := by decide +kernel
theorem dX5_errorsNow_2 : decode cX5_errorsNow 2 = .ok (.iconst 0, 1) := by decide +kernel
theorem dX5_errorsNow_3 : decode cX5_errorsNow 3 = .ok (.istore_n 3, 1) := by decide +kernel
theorem dX5_errorsNow_4 : decode cX5_errorsNow 4 = .ok (.iload_n 3, 1) := by decide +kernel
theorem dX5_errorsNow_5 : decode cX5_errorsNow 5 = .ok (.aload_n 0, 1) := by decide +kernel
theorem dX5_errorsNow_6 : decode cX5_errorsNow 6 = .ok (.getfield 46, 3) := by decide +kernel
theorem dX5_errorsNow_9 : decode cX5_errorsNow 9 = .ok (.if_icmp .ge 45, 3) := by decide +kernel
theorem dX5_errorsNow_12 : decode cX5_errorsNow 12 = .ok (.aload_n 0, 1) := by decide +kernel
theorem dX5_errorsNow_13 : decode cX5_errorsNow 13 = .ok (.getfield 30, 3) := by decide +kernel
theorem dX5_errorsNow_16 : decode cX5_errorsNow 16 = .ok (.iload_n 1, 1) := by decide +kernel
theorem dX5_errorsNow_17 : decode cX5_errorsNow 17 = .ok (.aaload, 1) := by decide +kernel
theorem dX5_errorsNow_18 : decode cX5_errorsNow 18 = .ok (.getfield 87, 3) := by decide +kernel
theorem dX5_errorsNow_21 : decode cX5_errorsNow 21 = .ok (.iload_n 3, 1) := by decide +kernel
theorem dX5_errorsNow_22 : decode cX5_errorsNow 22 = .ok (.invokevirtual 91, 3) := by decide +kernel
theorem dX5_errorsNow_25 : decode cX5_errorsNow 25 = .ok (.aload_n 0, 1) := by decide +kernel
theorem dX5_errorsNow_26 : decode cX5_errorsNow 26 = .ok (.getfield 25, 3) := by decide +kernel
theorem dX5_errorsNow_29 : decode cX5_errorsNow 29 = .ok (.iload_n 3, 1) := by decide +kernel
theorem dX5_errorsNow_30 : decode cX5_errorsNow 30 = .ok (.iaload, 1) := by decide +kernel
theorem dX5_errorsNow_31 : decode cX5_errorsNow 31 = .ok (.if_icmp .eq 17, 3) := by decide +kernel
theorem dX5_errorsNow_34 : decode cX5_errorsNow 34 = .ok (.iload_n 2, 1) := by decide +kernel
theorem dX5_errorsNow_35 : decode cX5_errorsNow 35 = .ok (.aload_n 0, 1) := by decide +kernel
theorem dX5_errorsNow_36 : decode cX5_errorsNow 36 = .ok (.getfield 30, 3) := by decide +kernel
theorem dX5_errorsNow_39 : decode cX5_errorsNow 39 = .ok (.iload_n 1, 1) := by decide +kernel
theorem dX5_errorsNow_40 : decode cX5_errorsNow 40 = .ok (.aaload, 1) := by decide +kernel
theorem dX5_errorsNow_41 : decode cX5_errorsNow 41 = .ok (.getfield 122, 3) := by decide +kernel
theorem dX5_errorsNow_44 : decode cX5_errorsNow 44 = .ok (.iload_n 3, 1) := by decide +kernel
theorem dX5_errorsNow_45 : decode cX5_errorsNow 45 = .ok (.iaload, 1) := by decide +kernel
theorem dX5_errorsNow_46 : decode cX5_errorsNow 46 = .ok (.iadd, 1) := by decide +kernel
theorem dX5_errorsNow_47 : decode cX5_errorsNow 47 = .ok (.istore_n 2, 1) := by decide +kernel
theorem dX5_errorsNow_48 : decode cX5_errorsNow 48 = .ok (.iinc 3 1, 3) := by decide +kernel
theorem dX5_errorsNow_51 : decode cX5_errorsNow 51 = .ok (.goto (-47), 3) := by decide +kernel
theorem dX5_errorsNow_54 : decode cX5_errorsNow 54 = .ok (.iload_n 2, 1) := by decide +kernel
theorem dX5_errorsNow_55 : decode cX5_errorsNow 55 = .ok (.ireturn, 1) := by decide +kernel
theorem bX5_errorsNow_0 {d mc ms : Nat} {al : Bool} {bc bs : Nat} {Γ : am_G} {I : am_I} {L : am_L} {Q : am_Q} {v0 : Nat} {v1 : Int32} (kk : am_W m_X5_errorsNow d mc ms al bc bs 4 [(0, .ref v0), (1, .int v1), (2, .int 0), (3, .int 0)] [] Γ I L Q) : am_W m_X5_errorsNow d mc ms al bc bs 0 [(0, .ref v0), (1, .int v1)] [] Γ I L Q := by
  refine aw_iconst dX5_errorsNow_0 ci_0 ?_
  refine aw_istore_n (ls' := [(0, .ref v0), (1, .int v1), (2, .int 0)]) dX5_errorsNow_1 (by decide) rfl ?_
  refine aw_iconst dX5_errorsNow_2 ci_0 ?_
  refine aw_istore_n (ls' := [(0, .ref v0), (1, .int v1), (2, .int 0), (3, .int 0)]) dX5_errorsNow_3 (by decide) rfl ?_
  exact kk
theorem bX5_errorsNow_4 {d mc ms : Nat} {al : Bool} {bc bs : Nat} {Γ : am_G} {I : am_I} {L : am_L} {Q : am_Q} {v0 : Nat} {v1 : Int32} {v2 : Int32} {v3 : Int32} (o1 : am_ob Γ v0 5) (kt : (I v0 1) ≤ v3 → am_W m_X5_errorsNow d mc ms al bc bs 54 [(0, .ref v0), (1, .int v1), (2, .int v2), (3, .int v3)] [] Γ I L Q) (kf : ¬ (I v0 1) ≤ v3 → am_W m_X5_errorsNow d mc ms al bc bs 12 [(0, .ref v0), (1, .int v1), (2, .int v2), (3, .int v3)] [] Γ I L Q) : am_W m_X5_errorsNow d mc ms al bc bs 4 [(0, .ref v0), (1, .int v1), (2, .int v2), (3, .int v3)] [] Γ I L Q := by
  refine aw_iload_n dX5_errorsNow_4 rfl ?_
  refine aw_aload_n dX5_errorsNow_5 rfl ?_
  refine aw_getI dX5_errorsNow_6 f_X5_46 o1 rfl ?_
  exact aw_icmp_ge dX5_errorsNow_9 (by decide) kt kf
theorem bX5_errorsNow_12 {d mc ms : Nat} {al : Bool} {bc bs : Nat} {Γ : am_G} {I : am_I} {L : am_L} {Q : am_Q} {v0 : Nat} {v1 : Int32} {v2 : Int32} {v3 : Int32} {r2 : Nat} {n_r2 : Nat} {r6 : Nat} {r9 : Nat} {I' : am_I} {L' : am_L} {mc' : Nat} {ms' : Nat} {r : Int32} (o1 : am_ob Γ v0 5) (g3 : Γ.2.2 v0 9 = some r2) (a4 : am_ar Γ r2 6 n_r2 0) (i5 : vp_in v1 n_r2) (g7 : Γ.2.2 r2 (v1.toNatClampNeg) = some r6) (o8 : am_ob Γ r6 0) (g10 : Γ.2.2 r6 5 = some r9) (o11 : am_ob Γ r9 7) (hbc : mc' ≤ bc) (hbs : ms' ≤ bs) (hC : am_E m_X7_tollFor d mc' ms' [.ref r9, .int v3] Γ I L (.inl (some (.int r))) I' L') (kk : am_W m_X5_errorsNow (d + 1) mc ms al (bc - mc') (bs - ms') 25 [(0, .ref v0), (1, .int v1), (2, .int v2), (3, .int v3)] [.int r] Γ I' L' Q) : am_W m_X5_errorsNow (d + 1) mc ms al bc bs 12 [(0, .ref v0), (1, .int v1), (2, .int v2), (3, .int v3)] [] Γ I L Q := by
  refine aw_aload_n dX5_errorsNow_12 rfl ?_
  refine aw_getR dX5_errorsNow_13 f_X5_30 o1 rfl g3 ?_
  refine aw_iload_n dX5_errorsNow_16 rfl ?_
  refine aw_aald dX5_errorsNow_17 a4 i5 g7 ?_
  refine aw_getR dX5_errorsNow_18 f_X5_87 o8 rfl g10 ?_
  refine aw_iload_n dX5_errorsNow_21 rfl ?_
  exact aw_askV (as := [.int v3]) (rst := []) k_X7_tollFor l_X5_91 i_X7_tollFor s_X7_tollFor rfl o11 dX5_errorsNow_22 rfl (Nat.le_of_ble_eq_true rfl) hbc hbs hC rfl rfl kk
theorem bX5_errorsNow_25 {d mc ms : Nat} {al : Bool} {bc bs : Nat} {Γ : am_G} {I : am_I} {L : am_L} {Q : am_Q} {v0 : Nat} {v1 : Int32} {v2 : Int32} {v3 : Int32} {w0 : Int32} {r2 : Nat} {n_r2 : Nat} (o1 : am_ob Γ v0 5) (g3 : Γ.2.2 v0 8 = some r2) (a4 : am_ar Γ r2 1 n_r2 0) (i5 : vp_in v3 n_r2) (kt : w0 = (I r2 (v3.toNatClampNeg)) → am_W m_X5_errorsNow d mc ms al bc bs 48 [(0, .ref v0), (1, .int v1), (2, .int v2), (3, .int v3)] [] Γ I L Q) (kf : ¬ w0 = (I r2 (v3.toNatClampNeg)) → am_W m_X5_errorsNow d mc ms al bc bs 34 [(0, .ref v0), (1, .int v1), (2, .int v2), (3, .int v3)] [] Γ I L Q) : am_W m_X5_errorsNow d mc ms al bc bs 25 [(0, .ref v0), (1, .int v1), (2, .int v2), (3, .int v3)] [.int w0] Γ I L Q := by
  refine aw_aload_n dX5_errorsNow_25 rfl ?_
  refine aw_getR dX5_errorsNow_26 f_X5_25 o1 rfl g3 ?_
  refine aw_iload_n dX5_errorsNow_29 rfl ?_
  refine aw_iald dX5_errorsNow_30 a4 i5 ?_
  exact aw_icmp_eq dX5_errorsNow_31 (by decide) kt kf
theorem bX5_errorsNow_34 {d mc ms : Nat} {al : Bool} {bc bs : Nat} {Γ : am_G} {I : am_I} {L : am_L} {Q : am_Q} {v0 : Nat} {v1 : Int32} {v2 : Int32} {v3 : Int32} {r2 : Nat} {n_r2 : Nat} {r6 : Nat} {r9 : Nat} {n_r9 : Nat} (o1 : am_ob Γ v0 5) (g3 : Γ.2.2 v0 9 = some r2) (a4 : am_ar Γ r2 6 n_r2 0) (i5 : vp_in v1 n_r2) (g7 : Γ.2.2 r2 (v1.toNatClampNeg) = some r6) (o8 : am_ob Γ r6 0) (g10 : Γ.2.2 r6 4 = some r9) (a11 : am_ar Γ r9 1 n_r9 0) (i12 : vp_in v3 n_r9) (kk : am_W m_X5_errorsNow d mc ms al bc bs 48 [(0, .ref v0), (1, .int v1), (2, .int (v2 + (I r9 (v3.toNatClampNeg)))), (3, .int v3)] [] Γ I L Q) : am_W m_X5_errorsNow d mc ms al bc bs 34 [(0, .ref v0), (1, .int v1), (2, .int v2), (3, .int v3)] [] Γ I L Q := by
  refine aw_iload_n dX5_errorsNow_34 rfl ?_
  refine aw_aload_n dX5_errorsNow_35 rfl ?_
  refine aw_getR dX5_errorsNow_36 f_X5_30 o1 rfl g3 ?_
  refine aw_iload_n dX5_errorsNow_39 rfl ?_
  refine aw_aald dX5_errorsNow_40 a4 i5 g7 ?_
  refine aw_getR dX5_errorsNow_41 f_X5_122 o8 rfl g10 ?_
  refine aw_iload_n dX5_errorsNow_44 rfl ?_
  refine aw_iald dX5_errorsNow_45 a11 i12 ?_
  refine aw_iadd dX5_errorsNow_46 ?_
  refine aw_istore_n (ls' := [(0, .ref v0), (1, .int v1), (2, .int (v2 + (I r9 (v3.toNatClampNeg)))), (3, .int v3)]) dX5_errorsNow_47 (by decide) rfl ?_
  exact kk
theorem bX5_errorsNow_48 {d mc ms : Nat} {al : Bool} {bc bs : Nat} {Γ : am_G} {I : am_I} {L : am_L} {Q : am_Q} {v0 : Nat} {v1 : Int32} {v2 : Int32} {v3 : Int32} (kk : am_W m_X5_errorsNow d mc ms al bc bs 4 [(0, .ref v0), (1, .int v1), (2, .int v2), (3, .int (v3 + 1))] [] Γ I L Q) : am_W m_X5_errorsNow d mc ms al bc bs 48 [(0, .ref v0), (1, .int v1), (2, .int v2), (3, .int v3)] [] Γ I L Q := by
  refine aw_iinc (ls' := [(0, .ref v0), (1, .int v1), (2, .int v2), (3, .int (v3 + 1))]) dX5_errorsNow_48 rfl (cn_1 _) (by decide) rfl ?_
  exact aw_goto dX5_errorsNow_51 (by decide) kk
theorem bX5_errorsNow_54 {d mc ms : Nat} {al : Bool} {bc bs : Nat} {Γ : am_G} {I : am_I} {L : am_L} {Q : am_Q} {v0 : Nat} {v1 : Int32} {v2 : Int32} {v3 : Int32} (hq : Q (.inl (some (.int v2))) Γ I L) : am_W m_X5_errorsNow d mc ms al bc bs 54 [(0, .ref v0), (1, .int v1), (2, .int v2), (3, .int v3)] [] Γ I L Q := by
  refine aw_iload_n dX5_errorsNow_54 rfl ?_
  exact aw_iret dX5_errorsNow_55 rfl hq
theorem dX5_workNow_0 : decode cX5_workNow 0 = .ok (.aload_n 0, 1) := by decide +kernel
theorem dX5_workNow_1 : decode cX5_workNow 1 = .ok (.getfield 30, 3) := by decide +kernel
theorem dX5_workNow_4 : decode cX5_workNow 4 = .ok (.iload_n 1, 1) := by decide +kernel
theorem dX5_workNow_5 : decode cX5_workNow 5 = .ok (.aaload, 1) := by decide +kernel
theorem dX5_workNow_6 : decode cX5_workNow 6 = .ok (.getfield 87, 3) := by decide +kernel
theorem dX5_workNow_9 : decode cX5_workNow 9 = .ok (.astore_n 2, 1) := by decide +kernel
theorem dX5_workNow_10 : decode cX5_workNow 10 = .ok (.iconst 0, 1) := by decide +kernel
theorem dX5_workNow_11 : decode cX5_workNow 11 = .ok (.istore_n 3, 1) := by decide +kernel
theorem dX5_workNow_12 : decode cX5_workNow 12 = .ok (.iconst 0, 1) := by decide +kernel
theorem dX5_workNow_13 : decode cX5_workNow 13 = .ok (.istore 4, 2) := by decide +kernel
theorem dX5_workNow_15 : decode cX5_workNow 15 = .ok (.iload 4, 2) := by decide +kernel
theorem dX5_workNow_17 : decode cX5_workNow 17 = .ok (.aload_n 2, 1) := by decide +kernel
theorem dX5_workNow_18 : decode cX5_workNow 18 = .ok (.getfield 109, 3) := by decide +kernel
theorem dX5_workNow_21 : decode cX5_workNow 21 = .ok (.if_icmp .ge 52, 3) := by decide +kernel
theorem dX5_workNow_24 : decode cX5_workNow 24 = .ok (.aload_n 2, 1) := by decide +kernel
theorem dX5_workNow_25 : decode cX5_workNow 25 = .ok (.getfield 112, 3) := by decide +kernel
theorem dX5_workNow_28 : decode cX5_workNow 28 = .ok (.iload 4, 2) := by decide +kernel
theorem dX5_workNow_30 : decode cX5_workNow 30 = .ok (.iaload, 1) := by decide +kernel
theorem dX5_workNow_31 : decode cX5_workNow 31 = .ok (.iconst (-1), 1) := by decide +kernel
theorem dX5_workNow_32 : decode cX5_workNow 32 = .ok (.if_icmp .eq 35, 3) := by decide +kernel
theorem dX5_workNow_35 : decode cX5_workNow 35 = .ok (.iload_n 3, 1) := by decide +kernel
theorem dX5_workNow_36 : decode cX5_workNow 36 = .ok (.aload_n 0, 1) := by decide +kernel
theorem dX5_workNow_37 : decode cX5_workNow 37 = .ok (.getfield 15, 3) := by decide +kernel
theorem dX5_workNow_40 : decode cX5_workNow 40 = .ok (.aload_n 2, 1) := by decide +kernel
theorem dX5_workNow_41 : decode cX5_workNow 41 = .ok (.getfield 112, 3) := by decide +kernel
theorem dX5_workNow_44 : decode cX5_workNow 44 = .ok (.iload 4, 2) := by decide +kernel
theorem dX5_workNow_46 : decode cX5_workNow 46 = .ok (.iaload, 1) := by decide +kernel
theorem dX5_workNow_47 : decode cX5_workNow 47 = .ok (.iaload, 1) := by decide +kernel
theorem dX5_workNow_48 : decode cX5_workNow 48 = .ok (.aload_n 0, 1) := by decide +kernel
theorem dX5_workNow_49 : decode cX5_workNow 49 = .ok (.getfield 30, 3) := by decide +kernel
theorem dX5_workNow_52 : decode cX5_workNow 52 = .ok (.iload_n 1, 1) := by decide +kernel
theorem dX5_workNow_53 : decode cX5_workNow 53 = .ok (.aaload, 1) := by decide +kernel
theorem dX5_workNow_54 : decode cX5_workNow 54 = .ok (.aload_n 2, 1) := by decide +kernel
theorem dX5_workNow_55 : decode cX5_workNow 55 = .ok (.getfield 115, 3) := by decide +kernel
theorem dX5_workNow_58 : decode cX5_workNow 58 = .ok (.iload 4, 2) := by decide +kernel
theorem dX5_workNow_60 : decode cX5_workNow 60 = .ok (.iaload, 1) := by decide +kernel
theorem dX5_workNow_61 : decode cX5_workNow 61 = .ok (.invokevirtual 125, 3) := by decide +kernel
theorem dX5_workNow_64 : decode cX5_workNow 64 = .ok (.imul, 1) := by decide +kernel
theorem dX5_workNow_65 : decode cX5_workNow 65 = .ok (.iadd, 1) := by decide +kernel
theorem dX5_workNow_66 : decode cX5_workNow 66 = .ok (.istore_n 3, 1) := by decide +kernel
theorem dX5_workNow_67 : decode cX5_workNow 67 = .ok (.iinc 4 1, 3) := by decide +kernel
theorem dX5_workNow_70 : decode cX5_workNow 70 = .ok (.goto (-55), 3) := by decide +kernel
theorem dX5_workNow_73 : decode cX5_workNow 73 = .ok (.iload_n 3, 1) := by decide +kernel
theorem dX5_workNow_74 : decode cX5_workNow 74 = .ok (.ireturn, 1) := by decide +kernel
theorem bX5_workNow_0 {d mc ms : Nat} {al : Bool} {bc bs : Nat} {Γ : am_G} {I : am_I} {L : am_L} {Q : am_Q} {v0 : Nat} {v1 : Int32} {r2 : Nat} {n_r2 : Nat} {r6 : Nat} {r9 : Nat} (o1 : am_ob Γ v0 5) (g3 : Γ.2.2 v0 9 = some r2) (a4 : am_ar Γ r2 6 n_r2 0) (i5 : vp_in v1 n_r2) (g7 : Γ.2.2 r2 (v1.toNatClampNeg) = some r6) (o8 : am_ob Γ r6 0) (g10 : Γ.2.2 r6 5 = some r9) (kk : am_W m_X5_workNow d mc ms al bc bs 15 [(0, .ref v0), (1, .int v1), (2, .ref r9), (3, .int 0), (4, .int 0)] [] Γ I L Q) : am_W m_X5_workNow d mc ms al bc bs 0 [(0, .ref v0), (1, .int v1)] [] Γ I L Q := by
  refine aw_aload_n dX5_workNow_0 rfl ?_
  refine aw_getR dX5_workNow_1 f_X5_30 o1 rfl g3 ?_
  refine aw_iload_n dX5_workNow_4 rfl ?_
  refine aw_aald dX5_workNow_5 a4 i5 g7 ?_
  refine aw_getR dX5_workNow_6 f_X5_87 o8 rfl g10 ?_
  refine aw_astore_n (ls' := [(0, .ref v0), (1, .int v1), (2, .ref r9)]) dX5_workNow_9 (by decide) rfl ?_
  refine aw_iconst dX5_workNow_10 ci_0 ?_
  refine aw_istore_n (ls' := [(0, .ref v0), (1, .int v1), (2, .ref r9), (3, .int 0)]) dX5_workNow_11 (by decide) rfl ?_
  refine aw_iconst dX5_workNow_12 ci_0 ?_
  refine aw_istore (ls' := [(0, .ref v0), (1, .int v1), (2, .ref r9), (3, .int 0), (4, .int 0)]) dX5_workNow_13 (by decide) rfl ?_
  exact kk
theorem bX5_workNow_15 {d mc ms : Nat} {al : Bool} {bc bs : Nat} {Γ : am_G} {I : am_I} {L : am_L} {Q : am_Q} {v0 : Nat} {v1 : Int32} {v2 : Nat} {v3 : Int32} {v4 : Int32} (o1 : am_ob Γ v2 7) (kt : (I v2 0) ≤ v4 → am_W m_X5_workNow d mc ms al bc bs 73 [(0, .ref v0), (1, .int v1), (2, .ref v2), (3, .int v3), (4, .int v4)] [] Γ I L Q) (kf : ¬ (I v2 0) ≤ v4 → am_W m_X5_workNow d mc ms al bc bs 24 [(0, .ref v0), (1, .int v1), (2, .ref v2), (3, .int v3), (4, .int v4)] [] Γ I L Q) : am_W m_X5_workNow d mc ms al bc bs 15 [(0, .ref v0), (1, .int v1), (2, .ref v2), (3, .int v3), (4, .int v4)] [] Γ I L Q := by
  refine aw_iload dX5_workNow_15 rfl ?_
  refine aw_aload_n dX5_workNow_17 rfl ?_
  refine aw_getI dX5_workNow_18 f_X5_109 o1 rfl ?_
  exact aw_icmp_ge dX5_workNow_21 (by decide) kt kf
theorem bX5_workNow_24 {d mc ms : Nat} {al : Bool} {bc bs : Nat} {Γ : am_G} {I : am_I} {L : am_L} {Q : am_Q} {v0 : Nat} {v1 : Int32} {v2 : Nat} {v3 : Int32} {v4 : Int32} {r2 : Nat} {n_r2 : Nat} (o1 : am_ob Γ v2 7) (g3 : Γ.2.2 v2 1 = some r2) (a4 : am_ar Γ r2 1 n_r2 0) (i5 : vp_in v4 n_r2) (kt : (I r2 (v4.toNatClampNeg)) = (-1) → am_W m_X5_workNow d mc ms al bc bs 67 [(0, .ref v0), (1, .int v1), (2, .ref v2), (3, .int v3), (4, .int v4)] [] Γ I L Q) (kf : ¬ (I r2 (v4.toNatClampNeg)) = (-1) → am_W m_X5_workNow d mc ms al bc bs 35 [(0, .ref v0), (1, .int v1), (2, .ref v2), (3, .int v3), (4, .int v4)] [] Γ I L Q) : am_W m_X5_workNow d mc ms al bc bs 24 [(0, .ref v0), (1, .int v1), (2, .ref v2), (3, .int v3), (4, .int v4)] [] Γ I L Q := by
  refine aw_aload_n dX5_workNow_24 rfl ?_
  refine aw_getR dX5_workNow_25 f_X5_112 o1 rfl g3 ?_
  refine aw_iload dX5_workNow_28 rfl ?_
  refine aw_iald dX5_workNow_30 a4 i5 ?_
  refine aw_iconst dX5_workNow_31 ci_m1 ?_
  exact aw_icmp_eq dX5_workNow_32 (by decide) kt kf
theorem bX5_workNow_35 {d mc ms : Nat} {al : Bool} {bc bs : Nat} {Γ : am_G} {I : am_I} {L : am_L} {Q : am_Q} {v0 : Nat} {v1 : Int32} {v2 : Nat} {v3 : Int32} {v4 : Int32} {r2 : Nat} {r5 : Nat} {n_r5 : Nat} {n_r2 : Nat} {r11 : Nat} {n_r11 : Nat} {r15 : Nat} {r17 : Nat} {n_r17 : Nat} {I' : am_I} {L' : am_L} {mc' : Nat} {ms' : Nat} {r : Int32} (o1 : am_ob Γ v0 5) (g3 : Γ.2.2 v0 5 = some r2) (o4 : am_ob Γ v2 7) (g6 : Γ.2.2 v2 1 = some r5) (a7 : am_ar Γ r5 1 n_r5 0) (i8 : vp_in v4 n_r5) (a9 : am_ar Γ r2 1 n_r2 0) (i10 : vp_in (I r5 (v4.toNatClampNeg)) n_r2) (g12 : Γ.2.2 v0 9 = some r11) (a13 : am_ar Γ r11 6 n_r11 0) (i14 : vp_in v1 n_r11) (g16 : Γ.2.2 r11 (v1.toNatClampNeg) = some r15) (g18 : Γ.2.2 v2 4 = some r17) (a19 : am_ar Γ r17 1 n_r17 0) (i20 : vp_in v4 n_r17) (o21 : am_ob Γ r15 0) (hbc : mc' ≤ bc) (hbs : ms' ≤ bs) (hC : am_E m_X0_weight d mc' ms' [.ref r15, .int (I r17 (v4.toNatClampNeg))] Γ I L (.inl (some (.int r))) I' L') (kk : am_W m_X5_workNow (d + 1) mc ms al (bc - mc') (bs - ms') 64 [(0, .ref v0), (1, .int v1), (2, .ref v2), (3, .int v3), (4, .int v4)] [.int r, .int (I r2 ((I r5 (v4.toNatClampNeg)).toNatClampNeg)), .int v3] Γ I' L' Q) : am_W m_X5_workNow (d + 1) mc ms al bc bs 35 [(0, .ref v0), (1, .int v1), (2, .ref v2), (3, .int v3), (4, .int v4)] [] Γ I L Q := by
  refine aw_iload_n dX5_workNow_35 rfl ?_
  refine aw_aload_n dX5_workNow_36 rfl ?_
  refine aw_getR dX5_workNow_37 f_X5_15 o1 rfl g3 ?_
  refine aw_aload_n dX5_workNow_40 rfl ?_
  refine aw_getR dX5_workNow_41 f_X5_112 o4 rfl g6 ?_
  refine aw_iload dX5_workNow_44 rfl ?_
  refine aw_iald dX5_workNow_46 a7 i8 ?_
  refine aw_iald dX5_workNow_47 a9 i10 ?_
  refine aw_aload_n dX5_workNow_48 rfl ?_
  refine aw_getR dX5_workNow_49 f_X5_30 o1 rfl g12 ?_
  refine aw_iload_n dX5_workNow_52 rfl ?_
  refine aw_aald dX5_workNow_53 a13 i14 g16 ?_
  refine aw_aload_n dX5_workNow_54 rfl ?_
  refine aw_getR dX5_workNow_55 f_X5_115 o4 rfl g18 ?_
  refine aw_iload dX5_workNow_58 rfl ?_
  refine aw_iald dX5_workNow_60 a19 i20 ?_
  exact aw_askV (as := [.int (I r17 (v4.toNatClampNeg))]) (rst := [.int (I r2 ((I r5 (v4.toNatClampNeg)).toNatClampNeg)), .int v3]) k_X0_weight l_X5_125 i_X0_weight s_X0_weight rfl o21 dX5_workNow_61 rfl (Nat.le_of_ble_eq_true rfl) hbc hbs hC rfl rfl kk
theorem bX5_workNow_64 {d mc ms : Nat} {al : Bool} {bc bs : Nat} {Γ : am_G} {I : am_I} {L : am_L} {Q : am_Q} {v0 : Nat} {v1 : Int32} {v2 : Nat} {v3 : Int32} {v4 : Int32} {w0 : Int32} {w1 : Int32} {w2 : Int32} (kk : am_W m_X5_workNow d mc ms al bc bs 67 [(0, .ref v0), (1, .int v1), (2, .ref v2), (3, .int (w0 + (w1 * w2))), (4, .int v4)] [] Γ I L Q) : am_W m_X5_workNow d mc ms al bc bs 64 [(0, .ref v0), (1, .int v1), (2, .ref v2), (3, .int v3), (4, .int v4)] [.int w2, .int w1, .int w0] Γ I L Q := by
  refine aw_imul dX5_workNow_64 ?_
  refine aw_iadd dX5_workNow_65 ?_
  refine aw_istore_n (ls' := [(0, .ref v0), (1, .int v1), (2, .ref v2), (3, .int (w0 + (w1 * w2))), (4, .int v4)]) dX5_workNow_66 (by decide) rfl ?_
  exact kk
theorem bX5_workNow_67 {d mc ms : Nat} {al : Bool} {bc bs : Nat} {Γ : am_G} {I : am_I} {L : am_L} {Q : am_Q} {v0 : Nat} {v1 : Int32} {v2 : Nat} {v3 : Int32} {v4 : Int32} (kk : am_W m_X5_workNow d mc ms al bc bs 15 [(0, .ref v0), (1, .int v1), (2, .ref v2), (3, .int v3), (4, .int (v4 + 1))] [] Γ I L Q) : am_W m_X5_workNow d mc ms al bc bs 67 [(0, .ref v0), (1, .int v1), (2, .ref v2), (3, .int v3), (4, .int v4)] [] Γ I L Q := by
  refine aw_iinc (ls' := [(0, .ref v0), (1, .int v1), (2, .ref v2), (3, .int v3), (4, .int (v4 + 1))]) dX5_workNow_67 rfl (cn_1 _) (by decide) rfl ?_
  exact aw_goto dX5_workNow_70 (by decide) kk
theorem bX5_workNow_73 {d mc ms : Nat} {al : Bool} {bc bs : Nat} {Γ : am_G} {I : am_I} {L : am_L} {Q : am_Q} {v0 : Nat} {v1 : Int32} {v2 : Nat} {v3 : Int32} {v4 : Int32} (hq : Q (.inl (some (.int v3))) Γ I L) : am_W m_X5_workNow d mc ms al bc bs 73 [(0, .ref v0), (1, .int v1), (2, .ref v2), (3, .int v3), (4, .int v4)] [] Γ I L Q := by
  refine aw_iload_n dX5_workNow_73 rfl ?_
  exact aw_iret dX5_workNow_74 rfl hq
theorem dX5_workByTypes_0 : decode cX5_workByTypes 0 = .ok (.iconst 0, 1) := by decide +kernel
theorem dX5_workByTypes_1 : decode cX5_workByTypes 1 = .ok (.istore_n 2, 1) := by decide +kernel
theorem dX5_workByTypes_2 : decode cX5_workByTypes 2 = .ok (.iconst 0, 1) := by decide +kernel
theorem dX5_workByTypes_3 : decode cX5_workByTypes 3 = .ok (.istore_n 3, 1) := by decide +kernel
theorem dX5_workByTypes_4 : decode cX5_workByTypes 4 = .ok (.iload_n 3, 1) := by decide +kernel
theorem dX5_workByTypes_5 : decode cX5_workByTypes 5 = .ok (.aload_n 0, 1) := by decide +kernel
theorem dX5_workByTypes_6 : decode cX5_workByTypes 6 = .ok (.getfield 46, 3) := by decide +kernel
theorem dX5_workByTypes_9 : decode cX5_workByTypes 9 = .ok (.if_icmp .ge 30, 3) := by decide +kernel
theorem dX5_workByTypes_12 : decode cX5_workByTypes 12 = .ok (.iload_n 2, 1) := by decide +kernel
theorem dX5_workByTypes_13 : decode cX5_workByTypes 13 = .ok (.aload_n 0, 1) := by decide +kernel
theorem dX5_workByTypes_14 : decode cX5_workByTypes 14 = .ok (.getfield 30, 3) := by decide +kernel
theorem dX5_workByTypes_17 : decode cX5_workByTypes 17 = .ok (.iload_n 1, 1) := by decide +kernel
theorem dX5_workByTypes_18 : decode cX5_workByTypes 18 = .ok (.aaload, 1) := by decide +kernel
theorem dX5_workByTypes_19 : decode cX5_workByTypes 19 = .ok (.getfield 122, 3) := by decide +kernel
theorem dX5_workByTypes_22 : decode cX5_workByTypes 22 = .ok (.iload_n 3, 1) := by decide +kernel
theorem dX5_workByTypes_23 : decode cX5_workByTypes 23 = .ok (.iaload, 1) := by decide +kernel
theorem dX5_workByTypes_24 : decode cX5_workByTypes 24 = .ok (.aload_n 0, 1) := by decide +kernel
theorem dX5_workByTypes_25 : decode cX5_workByTypes 25 = .ok (.iload_n 1, 1) := by decide +kernel
theorem dX5_workByTypes_26 : decode cX5_workByTypes 26 = .ok (.iload_n 3, 1) := by decide +kernel
theorem dX5_workByTypes_27 : decode cX5_workByTypes 27 = .ok (.invokevirtual 97, 3) := by decide +kernel
theorem dX5_workByTypes_30 : decode cX5_workByTypes 30 = .ok (.imul, 1) := by decide +kernel
theorem dX5_workByTypes_31 : decode cX5_workByTypes 31 = .ok (.iadd, 1) := by decide +kernel
theorem dX5_workByTypes_32 : decode cX5_workByTypes 32 = .ok (.istore_n 2, 1) := by decide +kernel
theorem dX5_workByTypes_33 : decode cX5_workByTypes 33 = .ok (.iinc 3 1, 3) := by decide +kernel
theorem dX5_workByTypes_36 : decode cX5_workByTypes 36 = .ok (.goto (-32), 3) := by decide +kernel
theorem dX5_workByTypes_39 : decode cX5_workByTypes 39 = .ok (.iload_n 2, 1) := by decide +kernel
theorem dX5_workByTypes_40 : decode cX5_workByTypes 40 = .ok (.ireturn, 1) := by decide +kernel
theorem bX5_workByTypes_0 {d mc ms : Nat} {al : Bool} {bc bs : Nat} {Γ : am_G} {I : am_I} {L : am_L} {Q : am_Q} {v0 : Nat} {v1 : Int32} (kk : am_W m_X5_workByTypes d mc ms al bc bs 4 [(0, .ref v0), (1, .int v1), (2, .int 0), (3, .int 0)] [] Γ I L Q) : am_W m_X5_workByTypes d mc ms al bc bs 0 [(0, .ref v0), (1, .int v1)] [] Γ I L Q := by
  refine aw_iconst dX5_workByTypes_0 ci_0 ?_
  refine aw_istore_n (ls' := [(0, .ref v0), (1, .int v1), (2, .int 0)]) dX5_workByTypes_1 (by decide) rfl ?_
  refine aw_iconst dX5_workByTypes_2 ci_0 ?_
  refine aw_istore_n (ls' := [(0, .ref v0), (1, .int v1), (2, .int 0), (3, .int 0)]) dX5_workByTypes_3 (by decide) rfl ?_
  exact kk
theorem bX5_workByTypes_4 {d mc ms : Nat} {al : Bool} {bc bs : Nat} {Γ : am_G} {I : am_I} {L : am_L} {Q : am_Q} {v0 : Nat} {v1 : Int32} {v2 : Int32} {v3 : Int32} (o1 : am_ob Γ v0 5) (kt : (I v0 1) ≤ v3 → am_W m_X5_workByTypes d mc ms al bc bs 39 [(0, .ref v0), (1, .int v1), (2, .int v2), (3, .int v3)] [] Γ I L Q) (kf : ¬ (I v0 1) ≤ v3 → am_W m_X5_workByTypes d mc ms al bc bs 12 [(0, .ref v0), (1, .int v1), (2, .int v2), (3, .int v3)] [] Γ I L Q) : am_W m_X5_workByTypes d mc ms al bc bs 4 [(0, .ref v0), (1, .int v1), (2, .int v2), (3, .int v3)] [] Γ I L Q := by
  refine aw_iload_n dX5_workByTypes_4 rfl ?_
  refine aw_aload_n dX5_workByTypes_5 rfl ?_
  refine aw_getI dX5_workByTypes_6 f_X5_46 o1 rfl ?_
  exact aw_icmp_ge dX5_workByTypes_9 (by decide) kt kf
theorem bX5_workByTypes_12 {d mc ms : Nat} {al : Bool} {bc bs : Nat} {Γ : am_G} {I : am_I} {L : am_L} {Q : am_Q} {v0 : Nat} {v1 : Int32} {v2 : Int32} {v3 : Int32} {r2 : Nat} {n_r2 : Nat} {r6 : Nat} {r9 : Nat} {n_r9 : Nat} {I' : am_I} {L' : am_L} {mc' : Nat} {ms' : Nat} {r : Int32} (o1 : am_ob Γ v0 5) (g3 : Γ.2.2 v0 9 = some r2) (a4 : am_ar Γ r2 6 n_r2 0) (i5 : vp_in v1 n_r2) (g7 : Γ.2.2 r2 (v1.toNatClampNeg) = some r6) (o8 : am_ob Γ r6 0) (g10 : Γ.2.2 r6 4 = some r9) (a11 : am_ar Γ r9 1 n_r9 0) (i12 : vp_in v3 n_r9) (hbc : mc' ≤ bc) (hbs : ms' ≤ bs) (hC : am_E m_X5_costOfPath d mc' ms' [.ref v0, .int v1, .int v3] Γ I L (.inl (some (.int r))) I' L') (kk : am_W m_X5_workByTypes (d + 1) mc ms al (bc - mc') (bs - ms') 30 [(0, .ref v0), (1, .int v1), (2, .int v2), (3, .int v3)] [.int r, .int (I r9 (v3.toNatClampNeg)), .int v2] Γ I' L' Q) : am_W m_X5_workByTypes (d + 1) mc ms al bc bs 12 [(0, .ref v0), (1, .int v1), (2, .int v2), (3, .int v3)] [] Γ I L Q := by
  refine aw_iload_n dX5_workByTypes_12 rfl ?_
  refine aw_aload_n dX5_workByTypes_13 rfl ?_
  refine aw_getR dX5_workByTypes_14 f_X5_30 o1 rfl g3 ?_
  refine aw_iload_n dX5_workByTypes_17 rfl ?_
  refine aw_aald dX5_workByTypes_18 a4 i5 g7 ?_
  refine aw_getR dX5_workByTypes_19 f_X5_122 o8 rfl g10 ?_
  refine aw_iload_n dX5_workByTypes_22 rfl ?_
  refine aw_iald dX5_workByTypes_23 a11 i12 ?_
  refine aw_aload_n dX5_workByTypes_24 rfl ?_
  refine aw_iload_n dX5_workByTypes_25 rfl ?_
  refine aw_iload_n dX5_workByTypes_26 rfl ?_
  exact aw_askV (as := [.int v1, .int v3]) (rst := [.int (I r9 (v3.toNatClampNeg)), .int v2]) k_X5_costOfPath l_X5_97 i_X5_costOfPath s_X5_costOfPath rfl o1 dX5_workByTypes_27 rfl (Nat.le_of_ble_eq_true rfl) hbc hbs hC rfl rfl kk
theorem bX5_workByTypes_30 {d mc ms : Nat} {al : Bool} {bc bs : Nat} {Γ : am_G} {I : am_I} {L : am_L} {Q : am_Q} {v0 : Nat} {v1 : Int32} {v2 : Int32} {v3 : Int32} {w0 : Int32} {w1 : Int32} {w2 : Int32} (kk : am_W m_X5_workByTypes d mc ms al bc bs 4 [(0, .ref v0), (1, .int v1), (2, .int (w0 + (w1 * w2))), (3, .int (v3 + 1))] [] Γ I L Q) : am_W m_X5_workByTypes d mc ms al bc bs 30 [(0, .ref v0), (1, .int v1), (2, .int v2), (3, .int v3)] [.int w2, .int w1, .int w0] Γ I L Q := by
  refine aw_imul dX5_workByTypes_30 ?_
  refine aw_iadd dX5_workByTypes_31 ?_
  refine aw_istore_n (ls' := [(0, .ref v0), (1, .int v1), (2, .int (w0 + (w1 * w2))), (3, .int v3)]) dX5_workByTypes_32 (by decide) rfl ?_
  refine aw_iinc (ls' := [(0, .ref v0), (1, .int v1), (2, .int (w0 + (w1 * w2))), (3, .int (v3 + 1))]) dX5_workByTypes_33 rfl (cn_1 _) (by decide) rfl ?_
  exact aw_goto dX5_workByTypes_36 (by decide) kk
theorem bX5_workByTypes_39 {d mc ms : Nat} {al : Bool} {bc bs : Nat} {Γ : am_G} {I : am_I} {L : am_L} {Q : am_Q} {v0 : Nat} {v1 : Int32} {v2 : Int32} {v3 : Int32} (hq : Q (.inl (some (.int v2))) Γ I L) : am_W m_X5_workByTypes d mc ms al bc bs 39 [(0, .ref v0), (1, .int v1), (2, .int v2), (3, .int v3)] [] Γ I L Q := by
  refine aw_iload_n dX5_workByTypes_39 rfl ?_
  exact aw_iret dX5_workByTypes_40 rfl hq
theorem dX5_isSplittable_0 : decode cX5_isSplittable 0 = .ok (.iconst 0, 1) := by decide +kernel
theorem dX5_isSplittable_1 : decode cX5_isSplittable 1 = .ok (.istore_n 2, 1) := by decide +kernel
theorem dX5_isSplittable_2 : decode cX5_isSplittable 2 = .ok (.iload_n 2, 1) := by decide +kernel
theorem dX5_isSplittable_3 : decode cX5_isSplittable 3 = .ok (.aload_n 0, 1) := by decide +kernel
theorem dX5_isSplittable_4 : decode cX5_isSplittable 4 = .ok (.getfield 42, 3) := by decide +kernel
theorem dX5_isSplittable_7 : decode cX5_isSplittable 7 = .ok (.if_icmp .ge 35, 3) := by decide +kernel
theorem dX5_isSplittable_10 : decode cX5_isSplittable 10 = .ok (.iload_n 1, 1) := by decide +kernel
theorem dX5_isSplittable_11 : decode cX5_isSplittable 11 = .ok (.aload_n 0, 1) := by decide +kernel
theorem dX5_isSplittable_12 : decode cX5_isSplittable 12 = .ok (.getfield 19, 3) := by decide +kernel
theorem dX5_isSplittable_15 : decode cX5_isSplittable 15 = .ok (.iload_n 2, 1) := by decide +kernel
theorem dX5_isSplittable_16 : decode cX5_isSplittable 16 = .ok (.iaload, 1) := by decide +kernel
theorem dX5_isSplittable_17 : decode cX5_isSplittable 17 = .ok (.iand, 1) := by decide +kernel
theorem dX5_isSplittable_18 : decode cX5_isSplittable 18 = .ok (.ifCond .eq 18, 3) := by decide +kernel
theorem dX5_isSplittable_21 : decode cX5_isSplittable 21 = .ok (.iload_n 1, 1) := by decide +kernel
theorem dX5_isSplittable_22 : decode cX5_isSplittable 22 = .ok (.aload_n 0, 1) := by decide +kernel
theorem dX5_isSplittable_23 : decode cX5_isSplittable 23 = .ok (.getfield 19, 3) := by decide +kernel
theorem dX5_isSplittable_26 : decode cX5_isSplittable 26 = .ok (.iload_n 2, 1) := by decide +kernel
theorem dX5_isSplittable_27 : decode cX5_isSplittable 27 = .ok (.iaload, 1) := by decide +kernel
theorem dX5_isSplittable_28 : decode cX5_isSplittable 28 = .ok (.iconst (-1), 1) := by decide +kernel
theorem dX5_isSplittable_29 : decode cX5_isSplittable 29 = .ok (.ixor, 1) := by decide +kernel
theorem dX5_isSplittable_30 : decode cX5_isSplittable 30 = .ok (.iand, 1) := by decide +kernel
theorem dX5_isSplittable_31 : decode cX5_isSplittable 31 = .ok (.ifCond .eq 5, 3) := by decide +kernel
theorem dX5_isSplittable_34 : decode cX5_isSplittable 34 = .ok (.iconst 1, 1) := by decide +kernel
theorem dX5_isSplittable_35 : decode cX5_isSplittable 35 = .ok (.ireturn, 1) := by decide +kernel
theorem dX5_isSplittable_36 : decode cX5_isSplittable 36 = .ok (.iinc 2 1, 3) := by decide +kernel
theorem dX5_isSplittable_39 : decode cX5_isSplittable 39 = .ok (.goto (-37), 3) := by decide +kernel
theorem dX5_isSplittable_42 : decode cX5_isSplittable 42 = .ok (.iconst 0, 1) := by decide +kernel
theorem dX5_isSplittable_43 : decode cX5_isSplittable 43 = .ok (.ireturn, 1) := by decide +kernel
theorem bX5_isSplittable_0 {d mc ms : Nat} {al : Bool} {bc bs : Nat} {Γ : am_G} {I : am_I} {L : am_L} {Q : am_Q} {v0 : Nat} {v1 : Int32} (kk : am_W m_X5_isSplittable d mc ms al bc bs 2 [(0, .ref v0), (1, .int v1), (2, .int 0)] [] Γ I L Q) : am_W m_X5_isSplittable d mc ms al bc bs 0 [(0, .ref v0), (1, .int v1)] [] Γ I L Q := by
  refine aw_iconst dX5_isSplittable_0 ci_0 ?_
  refine aw_istore_n (ls' := [(0, .ref v0), (1, .int v1), (2, .int 0)]) dX5_isSplittable_1 (by decide) rfl ?_
  exact kk
theorem bX5_isSplittable_2 {d mc ms : Nat} {al : Bool} {bc bs : Nat} {Γ : am_G} {I : am_I} {L : am_L} {Q : am_Q} {v0 : Nat} {v1 : Int32} {v2 : Int32} (o1 : am_ob Γ v0 5) (kt : (I v0 0) ≤ v2 → am_W m_X5_isSplittable d mc ms al bc bs 42 [(0, .ref v0), (1, .int v1), (2, .int v2)] [] Γ I L Q) (kf : ¬ (I v0 0) ≤ v2 → am_W m_X5_isSplittable d mc ms al bc bs 10 [(0, .ref v0), (1, .int v1), (2, .int v2)] [] Γ I L Q) : am_W m_X5_isSplittable d mc ms al bc bs 2 [(0, .ref v0), (1, .int v1), (2, .int v2)] [] Γ I L Q := by
  refine aw_iload_n dX5_isSplittable_2 rfl ?_
  refine aw_aload_n dX5_isSplittable_3 rfl ?_
  refine aw_getI dX5_isSplittable_4 f_X5_42 o1 rfl ?_
  exact aw_icmp_ge dX5_isSplittable_7 (by decide) kt kf
theorem bX5_isSplittable_10 {d mc ms : Nat} {al : Bool} {bc bs : Nat} {Γ : am_G} {I : am_I} {L : am_L} {Q : am_Q} {v0 : Nat} {v1 : Int32} {v2 : Int32} {r2 : Nat} {n_r2 : Nat} (o1 : am_ob Γ v0 5) (g3 : Γ.2.2 v0 6 = some r2) (a4 : am_ar Γ r2 1 n_r2 0) (i5 : vp_in v2 n_r2) (kt : (v1 &&& (I r2 (v2.toNatClampNeg))) = 0 → am_W m_X5_isSplittable d mc ms al bc bs 36 [(0, .ref v0), (1, .int v1), (2, .int v2)] [] Γ I L Q) (kf : ¬ (v1 &&& (I r2 (v2.toNatClampNeg))) = 0 → am_W m_X5_isSplittable d mc ms al bc bs 21 [(0, .ref v0), (1, .int v1), (2, .int v2)] [] Γ I L Q) : am_W m_X5_isSplittable d mc ms al bc bs 10 [(0, .ref v0), (1, .int v1), (2, .int v2)] [] Γ I L Q := by
  refine aw_iload_n dX5_isSplittable_10 rfl ?_
  refine aw_aload_n dX5_isSplittable_11 rfl ?_
  refine aw_getR dX5_isSplittable_12 f_X5_19 o1 rfl g3 ?_
  refine aw_iload_n dX5_isSplittable_15 rfl ?_
  refine aw_iald dX5_isSplittable_16 a4 i5 ?_
  refine aw_iand dX5_isSplittable_17 ?_
  exact aw_if_eq dX5_isSplittable_18 (by decide) kt kf
theorem bX5_isSplittable_21 {d mc ms : Nat} {al : Bool} {bc bs : Nat} {Γ : am_G} {I : am_I} {L : am_L} {Q : am_Q} {v0 : Nat} {v1 : Int32} {v2 : Int32} {r2 : Nat} {n_r2 : Nat} (o1 : am_ob Γ v0 5) (g3 : Γ.2.2 v0 6 = some r2) (a4 : am_ar Γ r2 1 n_r2 0) (i5 : vp_in v2 n_r2) (kt : (v1 &&& ((I r2 (v2.toNatClampNeg)) ^^^ (-1))) = 0 → am_W m_X5_isSplittable d mc ms al bc bs 36 [(0, .ref v0), (1, .int v1), (2, .int v2)] [] Γ I L Q) (kf : ¬ (v1 &&& ((I r2 (v2.toNatClampNeg)) ^^^ (-1))) = 0 → am_W m_X5_isSplittable d mc ms al bc bs 34 [(0, .ref v0), (1, .int v1), (2, .int v2)] [] Γ I L Q) : am_W m_X5_isSplittable d mc ms al bc bs 21 [(0, .ref v0), (1, .int v1), (2, .int v2)] [] Γ I L Q := by
  refine aw_iload_n dX5_isSplittable_21 rfl ?_
  refine aw_aload_n dX5_isSplittable_22 rfl ?_
  refine aw_getR dX5_isSplittable_23 f_X5_19 o1 rfl g3 ?_
  refine aw_iload_n dX5_isSplittable_26 rfl ?_
  refine aw_iald dX5_isSplittable_27 a4 i5 ?_
  refine aw_iconst dX5_isSplittable_28 ci_m1 ?_
  refine aw_ixor dX5_isSplittable_29 ?_
  refine aw_iand dX5_isSplittable_30 ?_
  exact aw_if_eq dX5_isSplittable_31 (by decide) kt kf
theorem bX5_isSplittable_34 {d mc ms : Nat} {al : Bool} {bc bs : Nat} {Γ : am_G} {I : am_I} {L : am_L} {Q : am_Q} {v0 : Nat} {v1 : Int32} {v2 : Int32} (hq : Q (.inl (some (.int 1))) Γ I L) : am_W m_X5_isSplittable d mc ms al bc bs 34 [(0, .ref v0), (1, .int v1), (2, .int v2)] [] Γ I L Q := by
  refine aw_iconst dX5_isSplittable_34 ci_1 ?_
  exact aw_zret (ty := .boolean) dX5_isSplittable_35 rfl rfl hq
theorem bX5_isSplittable_36 {d mc ms : Nat} {al : Bool} {bc bs : Nat} {Γ : am_G} {I : am_I} {L : am_L} {Q : am_Q} {v0 : Nat} {v1 : Int32} {v2 : Int32} (kk : am_W m_X5_isSplittable d mc ms al bc bs 2 [(0, .ref v0), (1, .int v1), (2, .int (v2 + 1))] [] Γ I L Q) : am_W m_X5_isSplittable d mc ms al bc bs 36 [(0, .ref v0), (1, .int v1), (2, .int v2)] [] Γ I L Q := by
  refine aw_iinc (ls' := [(0, .ref v0), (1, .int v1), (2, .int (v2 + 1))]) dX5_isSplittable_36 rfl (cn_1 _) (by decide) rfl ?_
  exact aw_goto dX5_isSplittable_39 (by decide) kk
theorem bX5_isSplittable_42 {d mc ms : Nat} {al : Bool} {bc bs : Nat} {Γ : am_G} {I : am_I} {L : am_L} {Q : am_Q} {v0 : Nat} {v1 : Int32} {v2 : Int32} (hq : Q (.inl (some (.int 0))) Γ I L) : am_W m_X5_isSplittable d mc ms al bc bs 42 [(0, .ref v0), (1, .int v1), (2, .int v2)] [] Γ I L Q := by
  refine aw_iconst dX5_isSplittable_42 ci_0 ?_
  exact aw_zret (ty := .boolean) dX5_isSplittable_43 rfl rfl hq
theorem dX5_hasTwinWithToll_0 : decode cX5_hasTwinWithToll 0 = .ok (.iconst 0, 1) := by decide +kernel
theorem dX5_hasTwinWithToll_1 : decode cX5_hasTwinWithToll 1 = .ok (.istore_n 3, 1) := by decide +kernel
theorem dX5_hasTwinWithToll_2 : decode cX5_hasTwinWithToll 2 = .ok (.iload_n 3, 1) := by decide +kernel
theorem dX5_hasTwinWithToll_3 : decode cX5_hasTwinWithToll 3 = .ok (.aload_n 0, 1) := by decide +kernel
theorem dX5_hasTwinWithToll_4 : decode cX5_hasTwinWithToll 4 = .ok (.getfield 46, 3) := by decide +kernel
theorem dX5_hasTwinWithToll_7 : decode cX5_hasTwinWithToll 7 = .ok (.if_icmp .ge 40, 3) := by decide +kernel
theorem dX5_hasTwinWithToll_10 : decode cX5_hasTwinWithToll 10 = .ok (.iload_n 3, 1) := by decide +kernel
theorem dX5_hasTwinWithToll_11 : decode cX5_hasTwinWithToll 11 = .ok (.iload_n 1, 1) := by decide +kernel
theorem dX5_hasTwinWithToll_12 : decode cX5_hasTwinWithToll 12 = .ok (.if_icmp .eq 29, 3) := by decide +kernel
theorem dX5_hasTwinWithToll_15 : decode cX5_hasTwinWithToll 15 = .ok (.aload_n 0, 1) := by decide +kernel
theorem dX5_hasTwinWithToll_16 : decode cX5_hasTwinWithToll 16 = .ok (.getfield 25, 3) := by decide +kernel
theorem dX5_hasTwinWithToll_19 : decode cX5_hasTwinWithToll 19 = .ok (.iload_n 3, 1) := by decide +kernel
theorem dX5_hasTwinWithToll_20 : decode cX5_hasTwinWithToll 20 = .ok (.iaload, 1) := by decide +kernel
theorem dX5_hasTwinWithToll_21 : decode cX5_hasTwinWithToll 21 = .ok (.iload_n 2, 1) := by decide +kernel
theorem dX5_hasTwinWithToll_22 : decode cX5_hasTwinWithToll 22 = .ok (.if_icmp .ne 19, 3) := by decide +kernel
theorem dX5_hasTwinWithToll_25 : decode cX5_hasTwinWithToll 25 = .ok (.aload_n 0, 1) := by decide +kernel
theorem dX5_hasTwinWithToll_26 : decode cX5_hasTwinWithToll 26 = .ok (.iconst 1, 1) := by decide +kernel
theorem dX5_hasTwinWithToll_27 : decode cX5_hasTwinWithToll 27 = .ok (.iload_n 1, 1) := by decide +kernel
theorem dX5_hasTwinWithToll_28 : decode cX5_hasTwinWithToll 28 = .ok (.ishl, 1) := by decide +kernel
theorem dX5_hasTwinWithToll_29 : decode cX5_hasTwinWithToll 29 = .ok (.iconst 1, 1) := by decide +kernel
theorem dX5_hasTwinWithToll_30 : decode cX5_hasTwinWithToll 30 = .ok (.iload_n 3, 1) := by decide +kernel
theorem dX5_hasTwinWithToll_31 : decode cX5_hasTwinWithToll 31 = .ok (.ishl, 1) := by decide +kernel
theorem dX5_hasTwinWithToll_32 : decode cX5_hasTwinWithToll 32 = .ok (.ior, 1) := by decide +kernel
theorem dX5_hasTwinWithToll_33 : decode cX5_hasTwinWithToll 33 = .ok (.invokevirtual 128, 3) := by decide +kernel
theorem dX5_hasTwinWithToll_36 : decode cX5_hasTwinWithToll 36 = .ok (.ifCond .ne 5, 3) := by decide +kernel
theorem dX5_hasTwinWithToll_39 : decode cX5_hasTwinWithToll 39 = .ok (.iconst 1, 1) := by decide +kernel
theorem dX5_hasTwinWithToll_40 : decode cX5_hasTwinWithToll 40 = .ok (.ireturn, 1) := by decide +kernel
theorem dX5_hasTwinWithToll_41 : decode cX5_hasTwinWithToll 41 = .ok (.iinc 3 1, 3) := by decide +kernel
theorem dX5_hasTwinWithToll_44 : decode cX5_hasTwinWithToll 44 = .ok (.goto (-42), 3) := by decide +kernel
theorem dX5_hasTwinWithToll_47 : decode cX5_hasTwinWithToll 47 = .ok (.iconst 0, 1) := by decide +kernel
theorem dX5_hasTwinWithToll_48 : decode cX5_hasTwinWithToll 48 = .ok (.ireturn, 1) := by decide +kernel
theorem bX5_hasTwinWithToll_0 {d mc ms : Nat} {al : Bool} {bc bs : Nat} {Γ : am_G} {I : am_I} {L : am_L} {Q : am_Q} {v0 : Nat} {v1 : Int32} {v2 : Int32} (kk : am_W m_X5_hasTwinWithToll d mc ms al bc bs 2 [(0, .ref v0), (1, .int v1), (2, .int v2), (3, .int 0)] [] Γ I L Q) : am_W m_X5_hasTwinWithToll d mc ms al bc bs 0 [(0, .ref v0), (1, .int v1), (2, .int v2)] [] Γ I L Q := by
  refine aw_iconst dX5_hasTwinWithToll_0 ci_0 ?_
  refine aw_istore_n (ls' := [(0, .ref v0), (1, .int v1), (2, .int v2), (3, .int 0)]) dX5_hasTwinWithToll_1 (by decide) rfl ?_
  exact kk
theorem bX5_hasTwinWithToll_2 {d mc ms : Nat} {al : Bool} {bc bs : Nat} {Γ : am_G} {I : am_I} {L : am_L} {Q : am_Q} {v0 : Nat} {v1 : Int32} {v2 : Int32} {v3 : Int32} (o1 : am_ob Γ v0 5) (kt : (I v0 1) ≤ v3 → am_W m_X5_hasTwinWithToll d mc ms al bc bs 47 [(0, .ref v0), (1, .int v1), (2, .int v2), (3, .int v3)] [] Γ I L Q) (kf : ¬ (I v0 1) ≤ v3 → am_W m_X5_hasTwinWithToll d mc ms al bc bs 10 [(0, .ref v0), (1, .int v1), (2, .int v2), (3, .int v3)] [] Γ I L Q) : am_W m_X5_hasTwinWithToll d mc ms al bc bs 2 [(0, .ref v0), (1, .int v1), (2, .int v2), (3, .int v3)] [] Γ I L Q := by
  refine aw_iload_n dX5_hasTwinWithToll_2 rfl ?_
  refine aw_aload_n dX5_hasTwinWithToll_3 rfl ?_
  refine aw_getI dX5_hasTwinWithToll_4 f_X5_46 o1 rfl ?_
  exact aw_icmp_ge dX5_hasTwinWithToll_7 (by decide) kt kf
theorem bX5_hasTwinWithToll_10 {d mc ms : Nat} {al : Bool} {bc bs : Nat} {Γ : am_G} {I : am_I} {L : am_L} {Q : am_Q} {v0 : Nat} {v1 : Int32} {v2 : Int32} {v3 : Int32} (kt : v3 = v1 → am_W m_X5_hasTwinWithToll d mc ms al bc bs 41 [(0, .ref v0), (1, .int v1), (2, .int v2), (3, .int v3)] [] Γ I L Q) (kf : ¬ v3 = v1 → am_W m_X5_hasTwinWithToll d mc ms al bc bs 15 [(0, .ref v0), (1, .int v1), (2, .int v2), (3, .int v3)] [] Γ I L Q) : am_W m_X5_hasTwinWithToll d mc ms al bc bs 10 [(0, .ref v0), (1, .int v1), (2, .int v2), (3, .int v3)] [] Γ I L Q := by
  refine aw_iload_n dX5_hasTwinWithToll_10 rfl ?_
  refine aw_iload_n dX5_hasTwinWithToll_11 rfl ?_
  exact aw_icmp_eq dX5_hasTwinWithToll_12 (by decide) kt kf
theorem bX5_hasTwinWithToll_15 {d mc ms : Nat} {al : Bool} {bc bs : Nat} {Γ : am_G} {I : am_I} {L : am_L} {Q : am_Q} {v0 : Nat} {v1 : Int32} {v2 : Int32} {v3 : Int32} {r2 : Nat} {n_r2 : Nat} (o1 : am_ob Γ v0 5) (g3 : Γ.2.2 v0 8 = some r2) (a4 : am_ar Γ r2 1 n_r2 0) (i5 : vp_in v3 n_r2) (kt : ¬ (I r2 (v3.toNatClampNeg)) = v2 → am_W m_X5_hasTwinWithToll d mc ms al bc bs 41 [(0, .ref v0), (1, .int v1), (2, .int v2), (3, .int v3)] [] Γ I L Q) (kf : (I r2 (v3.toNatClampNeg)) = v2 → am_W m_X5_hasTwinWithToll d mc ms al bc bs 25 [(0, .ref v0), (1, .int v1), (2, .int v2), (3, .int v3)] [] Γ I L Q) : am_W m_X5_hasTwinWithToll d mc ms al bc bs 15 [(0, .ref v0), (1, .int v1), (2, .int v2), (3, .int v3)] [] Γ I L Q := by
  refine aw_aload_n dX5_hasTwinWithToll_15 rfl ?_
  refine aw_getR dX5_hasTwinWithToll_16 f_X5_25 o1 rfl g3 ?_
  refine aw_iload_n dX5_hasTwinWithToll_19 rfl ?_
  refine aw_iald dX5_hasTwinWithToll_20 a4 i5 ?_
  refine aw_iload_n dX5_hasTwinWithToll_21 rfl ?_
  exact aw_icmp_ne dX5_hasTwinWithToll_22 (by decide) kt kf
theorem bX5_hasTwinWithToll_25 {d mc ms : Nat} {al : Bool} {bc bs : Nat} {Γ : am_G} {I : am_I} {L : am_L} {Q : am_Q} {v0 : Nat} {v1 : Int32} {v2 : Int32} {v3 : Int32} {I' : am_I} {L' : am_L} {mc' : Nat} {ms' : Nat} {r : Int32} (o1 : am_ob Γ v0 5) (hbc : mc' ≤ bc) (hbs : ms' ≤ bs) (hC : am_E m_X5_isSplittable d mc' ms' [.ref v0, .int ((1 <<< (v1 &&& 31)) ||| (1 <<< (v3 &&& 31)))] Γ I L (.inl (some (.int r))) I' L') (kk : am_W m_X5_hasTwinWithToll (d + 1) mc ms al (bc - mc') (bs - ms') 36 [(0, .ref v0), (1, .int v1), (2, .int v2), (3, .int v3)] [.int r] Γ I' L' Q) : am_W m_X5_hasTwinWithToll (d + 1) mc ms al bc bs 25 [(0, .ref v0), (1, .int v1), (2, .int v2), (3, .int v3)] [] Γ I L Q := by
  refine aw_aload_n dX5_hasTwinWithToll_25 rfl ?_
  refine aw_iconst dX5_hasTwinWithToll_26 ci_1 ?_
  refine aw_iload_n dX5_hasTwinWithToll_27 rfl ?_
  refine aw_ishl dX5_hasTwinWithToll_28 ?_
  refine aw_iconst dX5_hasTwinWithToll_29 ci_1 ?_
  refine aw_iload_n dX5_hasTwinWithToll_30 rfl ?_
  refine aw_ishl dX5_hasTwinWithToll_31 ?_
  refine aw_ior dX5_hasTwinWithToll_32 ?_
  exact aw_askV (as := [.int ((1 <<< (v1 &&& 31)) ||| (1 <<< (v3 &&& 31)))]) (rst := []) k_X5_isSplittable l_X5_128 i_X5_isSplittable s_X5_isSplittable rfl o1 dX5_hasTwinWithToll_33 rfl (Nat.le_of_ble_eq_true rfl) hbc hbs hC rfl rfl kk
theorem bX5_hasTwinWithToll_36 {d mc ms : Nat} {al : Bool} {bc bs : Nat} {Γ : am_G} {I : am_I} {L : am_L} {Q : am_Q} {v0 : Nat} {v1 : Int32} {v2 : Int32} {v3 : Int32} {w0 : Int32} (kt : ¬ w0 = 0 → am_W m_X5_hasTwinWithToll d mc ms al bc bs 41 [(0, .ref v0), (1, .int v1), (2, .int v2), (3, .int v3)] [] Γ I L Q) (kf : w0 = 0 → am_W m_X5_hasTwinWithToll d mc ms al bc bs 39 [(0, .ref v0), (1, .int v1), (2, .int v2), (3, .int v3)] [] Γ I L Q) : am_W m_X5_hasTwinWithToll d mc ms al bc bs 36 [(0, .ref v0), (1, .int v1), (2, .int v2), (3, .int v3)] [.int w0] Γ I L Q := by
  exact aw_if_ne dX5_hasTwinWithToll_36 (by decide) kt kf
theorem bX5_hasTwinWithToll_39 {d mc ms : Nat} {al : Bool} {bc bs : Nat} {Γ : am_G} {I : am_I} {L : am_L} {Q : am_Q} {v0 : Nat} {v1 : Int32} {v2 : Int32} {v3 : Int32} (hq : Q (.inl (some (.int 1))) Γ I L) : am_W m_X5_hasTwinWithToll d mc ms al bc bs 39 [(0, .ref v0), (1, .int v1), (2, .int v2), (3, .int v3)] [] Γ I L Q := by
  refine aw_iconst dX5_hasTwinWithToll_39 ci_1 ?_
  exact aw_zret (ty := .boolean) dX5_hasTwinWithToll_40 rfl rfl hq
theorem bX5_hasTwinWithToll_41 {d mc ms : Nat} {al : Bool} {bc bs : Nat} {Γ : am_G} {I : am_I} {L : am_L} {Q : am_Q} {v0 : Nat} {v1 : Int32} {v2 : Int32} {v3 : Int32} (kk : am_W m_X5_hasTwinWithToll d mc ms al bc bs 2 [(0, .ref v0), (1, .int v1), (2, .int v2), (3, .int (v3 + 1))] [] Γ I L Q) : am_W m_X5_hasTwinWithToll d mc ms al bc bs 41 [(0, .ref v0), (1, .int v1), (2, .int v2), (3, .int v3)] [] Γ I L Q := by
  refine aw_iinc (ls' := [(0, .ref v0), (1, .int v1), (2, .int v2), (3, .int (v3 + 1))]) dX5_hasTwinWithToll_41 rfl (cn_1 _) (by decide) rfl ?_
  exact aw_goto dX5_hasTwinWithToll_44 (by decide) kk
theorem bX5_hasTwinWithToll_47 {d mc ms : Nat} {al : Bool} {bc bs : Nat} {Γ : am_G} {I : am_I} {L : am_L} {Q : am_Q} {v0 : Nat} {v1 : Int32} {v2 : Int32} {v3 : Int32} (hq : Q (.inl (some (.int 0))) Γ I L) : am_W m_X5_hasTwinWithToll d mc ms al bc bs 47 [(0, .ref v0), (1, .int v1), (2, .int v2), (3, .int v3)] [] Γ I L Q := by
  refine aw_iconst dX5_hasTwinWithToll_47 ci_0 ?_
  exact aw_zret (ty := .boolean) dX5_hasTwinWithToll_48 rfl rfl hq
theorem dX6_init_0 : decode cX6_init 0 = .ok (.aload_n 0, 1) := by decide +kernel
theorem dX6_init_1 : decode cX6_init 1 = .ok (.invokespecial 1, 3) := by decide +kernel
theorem dX6_init_4 : decode cX6_init 4 = .ok (.return_, 1) := by decide +kernel
theorem dX6_reset_0 : decode cX6_reset 0 = .ok (.aload_n 0, 1) := by decide +kernel
theorem dX6_reset_1 : decode cX6_reset 1 = .ok (.iconst 0, 1) := by decide +kernel
theorem dX6_reset_2 : decode cX6_reset 2 = .ok (.putfield 7, 3) := by decide +kernel
theorem dX6_reset_5 : decode cX6_reset 5 = .ok (.aload_n 0, 1) := by decide +kernel
theorem dX6_reset_6 : decode cX6_reset 6 = .ok (.iconst 0, 1) := by decide +kernel
theorem dX6_reset_7 : decode cX6_reset 7 = .ok (.putfield 13, 3) := by decide +kernel
theorem dX6_reset_10 : decode cX6_reset 10 = .ok (.aload_n 0, 1) := by decide +kernel
theorem dX6_reset_11 : decode cX6_reset 11 = .ok (.iconst 0, 1) := by decide +kernel
theorem dX6_reset_12 : decode cX6_reset 12 = .ok (.putfield 16, 3) := by decide +kernel
theorem dX6_reset_15 : decode cX6_reset 15 = .ok (.aload_n 0, 1) := by decide +kernel
theorem dX6_reset_16 : decode cX6_reset 16 = .ok (.iconst 0, 1) := by decide +kernel
theorem dX6_reset_17 : decode cX6_reset 17 = .ok (.putfield 19, 3) := by decide +kernel
theorem dX6_reset_20 : decode cX6_reset 20 = .ok (.aload_n 0, 1) := by decide +kernel
theorem dX6_reset_21 : decode cX6_reset 21 = .ok (.iconst 0, 1) := by decide +kernel
theorem dX6_reset_22 : decode cX6_reset 22 = .ok (.putfield 22, 3) := by decide +kernel
theorem dX6_reset_25 : decode cX6_reset 25 = .ok (.aload_n 0, 1) := by decide +kernel
theorem dX6_reset_26 : decode cX6_reset 26 = .ok (.iconst 0, 1) := by decide +kernel
theorem dX6_reset_27 : decode cX6_reset 27 = .ok (.putfield 25, 3) := by decide +kernel
theorem dX6_reset_30 : decode cX6_reset 30 = .ok (.aload_n 0, 1) := by decide +kernel
theorem dX6_reset_31 : decode cX6_reset 31 = .ok (.iconst 0, 1) := by decide +kernel
theorem dX6_reset_32 : decode cX6_reset 32 = .ok (.putfield 28, 3) := by decide +kernel
theorem dX6_reset_35 : decode cX6_reset 35 = .ok (.aload_n 0, 1) := by decide +kernel
theorem dX6_reset_36 : decode cX6_reset 36 = .ok (.iconst 0, 1) := by decide +kernel
theorem dX6_reset_37 : decode cX6_reset 37 = .ok (.putfield 31, 3) := by decide +kernel
theorem dX6_reset_40 : decode cX6_reset 40 = .ok (.return_, 1) := by decide +kernel
theorem bX6_reset_0 {d mc ms : Nat} {al : Bool} {bc bs : Nat} {Γ : am_G} {I : am_I} {L : am_L} {Q : am_Q} {v0 : Nat} (o1 : am_ob Γ v0 6) (hq : Q (.inl none) Γ (am_u (am_u (am_u (am_u (am_u (am_u (am_u (am_u I v0 0 0) v0 1 0) v0 2 0) v0 3 0) v0 4 0) v0 5 0) v0 6 0) v0 7 0) L) : am_W m_X6_reset d mc ms al bc bs 0 [(0, .ref v0)] [] Γ I L Q := by
  refine aw_aload_n dX6_reset_0 rfl ?_
  refine aw_iconst dX6_reset_1 ci_0 ?_
  refine aw_putI dX6_reset_2 p_X6_7 o1 rfl ?_
  refine aw_aload_n dX6_reset_5 rfl ?_
  refine aw_iconst dX6_reset_6 ci_0 ?_
  refine aw_putI dX6_reset_7 p_X6_13 o1 rfl ?_
  refine aw_aload_n dX6_reset_10 rfl ?_
  refine aw_iconst dX6_reset_11 ci_0 ?_
  refine aw_putI dX6_reset_12 p_X6_16 o1 rfl ?_
  refine aw_aload_n dX6_reset_15 rfl ?_
  refine aw_iconst dX6_reset_16 ci_0 ?_
  refine aw_putI dX6_reset_17 p_X6_19 o1 rfl ?_
  refine aw_aload_n dX6_reset_20 rfl ?_
  refine aw_iconst dX6_reset_21 ci_0 ?_
  refine aw_putI dX6_reset_22 p_X6_22 o1 rfl ?_
  refine aw_aload_n dX6_reset_25 rfl ?_
  refine aw_iconst dX6_reset_26 ci_0 ?_
  refine aw_putI dX6_reset_27 p_X6_25 o1 rfl ?_
  refine aw_aload_n dX6_reset_30 rfl ?_
  refine aw_iconst dX6_reset_31 ci_0 ?_
  refine aw_putI dX6_reset_32 p_X6_28 o1 rfl ?_
  refine aw_aload_n dX6_reset_35 rfl ?_
  refine aw_iconst dX6_reset_36 ci_0 ?_
  refine aw_putI dX6_reset_37 p_X6_31 o1 rfl ?_
  exact aw_vret dX6_reset_40 rfl hq
theorem dX6_copyFrom_0 : decode cX6_copyFrom 0 = .ok (.aload_n 0, 1) := by decide +kernel
theorem dX6_copyFrom_1 : decode cX6_copyFrom 1 = .ok (.aload_n 1, 1) := by decide +kernel
theorem dX6_copyFrom_2 : decode cX6_copyFrom 2 = .ok (.getfield 7, 3) := by decide +kernel
theorem dX6_copyFrom_5 : decode cX6_copyFrom 5 = .ok (.putfield 7, 3) := by decide +kernel
theorem dX6_copyFrom_8 : decode cX6_copyFrom 8 = .ok (.aload_n 0, 1) := by decide +kernel
theorem dX6_copyFrom_9 : decode cX6_copyFrom 9 = .ok (.aload_n 1, 1) := by decide +kernel
theorem dX6_copyFrom_10 : decode cX6_copyFrom 10 = .ok (.getfield 13, 3) := by decide +kernel
theorem dX6_copyFrom_13 : decode cX6_copyFrom 13 = .ok (.putfield 13, 3) := by decide +kernel
theorem dX6_copyFrom_16 : decode cX6_copyFrom 16 = .ok (.aload_n 0, 1) := by decide +kernel
theorem dX6_copyFrom_17 : decode cX6_copyFrom 17 = .ok (.aload_n 1, 1) := by decide +kernel
theorem dX6_copyFrom_18 : decode cX6_copyFrom 18 = .ok (.getfield 16, 3) := by decide +kernel
theorem dX6_copyFrom_21 : decode cX6_copyFrom 21 = .ok (.putfield 16, 3) := by decide +kernel
theorem dX6_copyFrom_24 : decode cX6_copyFrom 24 = .ok (.aload_n 0, 1) := by decide +kernel
theorem dX6_copyFrom_25 : decode cX6_copyFrom 25 = .ok (.aload_n 1, 1) := by decide +kernel
theorem dX6_copyFrom_26 : decode cX6_copyFrom 26 = .ok (.getfield 19, 3) := by decide +kernel
theorem dX6_copyFrom_29 : decode cX6_copyFrom 29 = .ok (.putfield 19, 3) := by decide +kernel
theorem dX6_copyFrom_32 : decode cX6_copyFrom 32 = .ok (.aload_n 0, 1) := by decide +kernel
theorem dX6_copyFrom_33 : decode cX6_copyFrom 33 = .ok (.aload_n 1, 1) := by decide +kernel
theorem dX6_copyFrom_34 : decode cX6_copyFrom 34 = .ok (.getfield 22, 3) := by decide +kernel
theorem dX6_copyFrom_37 : decode cX6_copyFrom 37 = .ok (.putfield 22, 3) := by decide +kernel
theorem dX6_copyFrom_40 : decode cX6_copyFrom 40 = .ok (.aload_n 0, 1) := by decide +kernel
theorem dX6_copyFrom_41 : decode cX6_copyFrom 41 = .ok (.aload_n 1, 1) := by decide +kernel
theorem dX6_copyFrom_42 : decode cX6_copyFrom 42 = .ok (.getfield 25, 3) := by decide +kernel
theorem dX6_copyFrom_45 : decode cX6_copyFrom 45 = .ok (.putfield 25, 3) := by decide +kernel
theorem dX6_copyFrom_48 : decode cX6_copyFrom 48 = .ok (.aload_n 0, 1) := by decide +kernel
theorem dX6_copyFrom_49 : decode cX6_copyFrom 49 = .ok (.aload_n 1, 1) := by decide +kernel
theorem dX6_copyFrom_50 : decode cX6_copyFrom 50 = .ok (.getfield 28, 3) := by decide +kernel
theorem dX6_copyFrom_53 : decode cX6_copyFrom 53 = .ok (.putfield 28, 3) := by decide +kernel
theorem dX6_copyFrom_56 : decode cX6_copyFrom 56 = .ok (.aload_n 0, 1) := by decide +kernel
theorem dX6_copyFrom_57 : decode cX6_copyFrom 57 = .ok (.aload_n 1, 1) := by decide +kernel
theorem dX6_copyFrom_58 : decode cX6_copyFrom 58 = .ok (.getfield 31, 3) := by decide +kernel
theorem dX6_copyFrom_61 : decode cX6_copyFrom 61 = .ok (.putfield 31, 3) := by decide +kernel
theorem dX6_copyFrom_64 : decode cX6_copyFrom 64 = .ok (.return_, 1) := by decide +kernel
theorem bX6_copyFrom_0 {d mc ms : Nat} {al : Bool} {bc bs : Nat} {Γ : am_G} {I : am_I} {L : am_L} {Q : am_Q} {v0 : Nat} {v1 : Nat} (o1 : am_ob Γ v1 6) (o2 : am_ob Γ v0 6) (hq : Q (.inl none) Γ (am_u (am_u (am_u (am_u (am_u (am_u (am_u (am_u I v0 0 (I v1 0)) v0 1 ((am_u I v0 0 (I v1 0)) v1 1)) v0 2 ((am_u (am_u I v0 0 (I v1 0)) v0 1 ((am_u I v0 0 (I v1 0)) v1 1)) v1 2)) v0 3 ((am_u (am_u (am_u I v0 0 (I v1 0)) v0 1 ((am_u I v0 0 (I v1 0)) v1 1)) v0 2 ((am_u (am_u I v0 0 (I v1 0)) v0 1 ((am_u I v0 0 (I v1 0)) v1 1)) v1 2)) v1 3)) v0 4 ((am_u (am_u (am_u (am_u I v0 0 (I v1 0)) v0 1 ((am_u I v0 0 (I v1 0)) v1 1)) v0 2 ((am_u (am_u I v0 0 (I v1 0)) v0 1 ((am_u I v0 0 (I v1 0)) v1 1)) v1 2)) v0 3 ((am_u (am_u (am_u I v0 0 (I v1 0)) v0 1 ((am_u I v0 0 (I v1 0)) v1 1)) v0 2 ((am_u (am_u I v0 0 (I v1 0)) v0 1 ((am_u I v0 0 (I v1 0)) v1 1)) v1 2)) v1 3)) v1 4)) v0 5 ((am_u (am_u (am_u (am_u (am_u I v0 0 (I v1 0)) v0 1 ((am_u I v0 0 (I v1 0)) v1 1)) v0 2 ((am_u (am_u I v0 0 (I v1 0)) v0 1 ((am_u I v0 0 (I v1 0)) v1 1)) v1 2)) v0 3 ((am_u (am_u (am_u I v0 0 (I v1 0)) v0 1 ((am_u I v0 0 (I v1 0)) v1 1)) v0 2 ((am_u (am_u I v0 0 (I v1 0)) v0 1 ((am_u I v0 0 (I v1 0)) v1 1)) v1 2)) v1 3)) v0 4 ((am_u (am_u (am_u (am_u I v0 0 (I v1 0)) v0 1 ((am_u I v0 0 (I v1 0)) v1 1)) v0 2 ((am_u (am_u I v0 0 (I v1 0)) v0 1 ((am_u I v0 0 (I v1 0)) v1 1)) v1 2)) v0 3 ((am_u (am_u (am_u I v0 0 (I v1 0)) v0 1 ((am_u I v0 0 (I v1 0)) v1 1)) v0 2 ((am_u (am_u I v0 0 (I v1 0)) v0 1 ((am_u I v0 0 (I v1 0)) v1 1)) v1 2)) v1 3)) v1 4)) v1 5)) v0 6 ((am_u (am_u (am_u (am_u (am_u (am_u I v0 0 (I v1 0)) v0 1 ((am_u I v0 0 (I v1 0)) v1 1)) v0 2 ((am_u (am_u I v0 0 (I v1 0)) v0 1 ((am_u I v0 0 (I v1 0)) v1 1)) v1 2)) v0 3 ((am_u (am_u (am_u I v0 0 (I v1 0)) v0 1 ((am_u I v0 0 (I v1 0)) v1 1)) v0 2 ((am_u (am_u I v0 0 (I v1 0)) v0 1 ((am_u I v0 0 (I v1 0)) v1 1)) v1 2)) v1 3)) v0 4 ((am_u (am_u (am_u (am_u I v0 0 (I v1 0)) v0 1 ((am_u I v0 0 (I v1 0)) v1 1)) v0 2 ((am_u (am_u I v0 0 (I v1 0)) v0 1 ((am_u I v0 0 (I v1 0)) v1 1)) v1 2)) v0 3 ((am_u (am_u (am_u I v0 0 (I v1 0)) v0 1 ((am_u I v0 0 (I v1 0)) v1 1)) v0 2 ((am_u (am_u I v0 0 (I v1 0)) v0 1 ((am_u I v0 0 (I v1 0)) v1 1)) v1 2)) v1 3)) v1 4)) v0 5 ((am_u (am_u (am_u (am_u (am_u I v0 0 (I v1 0)) v0 1 ((am_u I v0 0 (I v1 0)) v1 1)) v0 2 ((am_u (am_u I v0 0 (I v1 0)) v0 1 ((am_u I v0 0 (I v1 0)) v1 1)) v1 2)) v0 3 ((am_u (am_u (am_u I v0 0 (I v1 0)) v0 1 ((am_u I v0 0 (I v1 0)) v1 1)) v0 2 ((am_u (am_u I v0 0 (I v1 0)) v0 1 ((am_u I v0 0 (I v1 0)) v1 1)) v1 2)) v1 3)) v0 4 ((am_u (am_u (am_u (am_u I v0 0 (I v1 0)) v0 1 ((am_u I v0 0 (I v1 0)) v1 1)) v0 2 ((am_u (am_u I v0 0 (I v1 0)) v0 1 ((am_u I v0 0 (I v1 0)) v1 1)) v1 2)) v0 3 ((am_u (am_u (am_u I v0 0 (I v1 0)) v0 1 ((am_u I v0 0 (I v1 0)) v1 1)) v0 2 ((am_u (am_u I v0 0 (I v1 0)) v0 1 ((am_u I v0 0 (I v1 0)) v1 1)) v1 2)) v1 3)) v1 4)) v1 5)) v1 6)) v0 7 ((am_u (am_u (am_u (am_u (am_u (am_u (am_u I v0 0 (I v1 0)) v0 1 ((am_u I v0 0 (I v1 0)) v1 1)) v0 2 ((am_u (am_u I v0 0 (I v1 0)) v0 1 ((am_u I v0 0 (I v1 0)) v1 1)) v1 2)) v0 3 ((am_u (am_u (am_u I v0 0 (I v1 0)) v0 1 ((am_u I v0 0 (I v1 0)) v1 1)) v0 2 ((am_u (am_u I v0 0 (I v1 0)) v0 1 ((am_u I v0 0 (I v1 0)) v1 1)) v1 2)) v1 3)) v0 4 ((am_u (am_u (am_u (am_u I v0 0 (I v1 0)) v0 1 ((am_u I v0 0 (I v1 0)) v1 1)) v0 2 ((am_u (am_u I v0 0 (I v1 0)) v0 1 ((am_u I v0 0 (I v1 0)) v1 1)) v1 2)) v0 3 ((am_u (am_u (am_u I v0 0 (I v1 0)) v0 1 ((am_u I v0 0 (I v1 0)) v1 1)) v0 2 ((am_u (am_u I v0 0 (I v1 0)) v0 1 ((am_u I v0 0 (I v1 0)) v1 1)) v1 2)) v1 3)) v1 4)) v0 5 ((am_u (am_u (am_u (am_u (am_u I v0 0 (I v1 0)) v0 1 ((am_u I v0 0 (I v1 0)) v1 1)) v0 2 ((am_u (am_u I v0 0 (I v1 0)) v0 1 ((am_u I v0 0 (I v1 0)) v1 1)) v1 2)) v0 3 ((am_u (am_u (am_u I v0 0 (I v1 0)) v0 1 ((am_u I v0 0 (I v1 0)) v1 1)) v0 2 ((am_u (am_u I v0 0 (I v1 0)) v0 1 ((am_u I v0 0 (I v1 0)) v1 1)) v1 2)) v1 3)) v0 4 ((am_u (am_u (am_u (am_u I v0 0 (I v1 0)) v0 1 ((am_u I v0 0 (I v1 0)) v1 1)) v0 2 ((am_u (am_u I v0 0 (I v1 0)) v0 1 ((am_u I v0 0 (I v1 0)) v1 1)) v1 2)) v0 3 ((am_u (am_u (am_u I v0 0 (I v1 0)) v0 1 ((am_u I v0 0 (I v1 0)) v1 1)) v0 2 ((am_u (am_u I v0 0 (I v1 0)) v0 1 ((am_u I v0 0 (I v1 0)) v1 1)) v1 2)) v1 3)) v1 4)) v1 5)) v0 6 ((am_u (am_u (am_u (am_u (am_u (am_u I v0 0 (I v1 0)) v0 1 ((am_u I v0 0 (I v1 0)) v1 1)) v0 2 ((am_u (am_u I v0 0 (I v1 0)) v0 1 ((am_u I v0 0 (I v1 0)) v1 1)) v1 2)) v0 3 ((am_u (am_u (am_u I v0 0 (I v1 0)) v0 1 ((am_u I v0 0 (I v1 0)) v1 1)) v0 2 ((am_u (am_u I v0 0 (I v1 0)) v0 1 ((am_u I v0 0 (I v1 0)) v1 1)) v1 2)) v1 3)) v0 4 ((am_u (am_u (am_u (am_u I v0 0 (I v1 0)) v0 1 ((am_u I v0 0 (I v1 0)) v1 1)) v0 2 ((am_u (am_u I v0 0 (I v1 0)) v0 1 ((am_u I v0 0 (I v1 0)) v1 1)) v1 2)) v0 3 ((am_u (am_u (am_u I v0 0 (I v1 0)) v0 1 ((am_u I v0 0 (I v1 0)) v1 1)) v0 2 ((am_u (am_u I v0 0 (I v1 0)) v0 1 ((am_u I v0 0 (I v1 0)) v1 1)) v1 2)) v1 3)) v1 4)) v0 5 ((am_u (am_u (am_u (am_u (am_u I v0 0 (I v1 0)) v0 1 ((am_u I v0 0 (I v1 0)) v1 1)) v0 2 ((am_u (am_u I v0 0 (I v1 0)) v0 1 ((am_u I v0 0 (I v1 0)) v1 1)) v1 2)) v0 3 ((am_u (am_u (am_u I v0 0 (I v1 0)) v0 1 ((am_u I v0 0 (I v1 0)) v1 1)) v0 2 ((am_u (am_u I v0 0 (I v1 0)) v0 1 ((am_u I v0 0 (I v1 0)) v1 1)) v1 2)) v1 3)) v0 4 ((am_u (am_u (am_u (am_u I v0 0 (I v1 0)) v0 1 ((am_u I v0 0 (I v1 0)) v1 1)) v0 2 ((am_u (am_u I v0 0 (I v1 0)) v0 1 ((am_u I v0 0 (I v1 0)) v1 1)) v1 2)) v0 3 ((am_u (am_u (am_u I v0 0 (I v1 0)) v0 1 ((am_u I v0 0 (I v1 0)) v1 1)) v0 2 ((am_u (am_u I v0 0 (I v1 0)) v0 1 ((am_u I v0 0 (I v1 0)) v1 1)) v1 2)) v1 3)) v1 4)) v1 5)) v1 6)) v1 7)) L) : am_W m_X6_copyFrom d mc ms al bc bs 0 [(0, .ref v0), (1, .ref v1)] [] Γ I L Q := by
  refine aw_aload_n dX6_copyFrom_0 rfl ?_
  refine aw_aload_n dX6_copyFrom_1 rfl ?_
  refine aw_getI dX6_copyFrom_2 f_X6_7 o1 rfl ?_
  refine aw_putI dX6_copyFrom_5 p_X6_7 o2 rfl ?_
  refine aw_aload_n dX6_copyFrom_8 rfl ?_
  refine aw_aload_n dX6_copyFrom_9 rfl ?_
  refine aw_getI dX6_copyFrom_10 f_X6_13 o1 rfl ?_
  refine aw_putI dX6_copyFrom_13 p_X6_13 o2 rfl ?_
  refine aw_aload_n dX6_copyFrom_16 rfl ?_
  refine aw_aload_n dX6_copyFrom_17 rfl ?_
  refine aw_getI dX6_copyFrom_18 f_X6_16 o1 rfl ?_
  refine aw_putI dX6_copyFrom_21 p_X6_16 o2 rfl ?_
  refine aw_aload_n dX6_copyFrom_24 rfl ?_
  refine aw_aload_n dX6_copyFrom_25 rfl ?_
  refine aw_getI dX6_copyFrom_26 f_X6_19 o1 rfl ?_
  refine aw_putI dX6_copyFrom_29 p_X6_19 o2 rfl ?_
  refine aw_aload_n dX6_copyFrom_32 rfl ?_
  refine aw_aload_n dX6_copyFrom_33 rfl ?_
  refine aw_getI dX6_copyFrom_34 f_X6_22 o1 rfl ?_
  refine aw_putI dX6_copyFrom_37 p_X6_22 o2 rfl ?_
  refine aw_aload_n dX6_copyFrom_40 rfl ?_
  refine aw_aload_n dX6_copyFrom_41 rfl ?_
  refine aw_getI dX6_copyFrom_42 f_X6_25 o1 rfl ?_
  refine aw_putI dX6_copyFrom_45 p_X6_25 o2 rfl ?_
  refine aw_aload_n dX6_copyFrom_48 rfl ?_
  refine aw_aload_n dX6_copyFrom_49 rfl ?_
  refine aw_getI dX6_copyFrom_50 f_X6_28 o1 rfl ?_
  refine aw_putI dX6_copyFrom_53 p_X6_28 o2 rfl ?_
  refine aw_aload_n dX6_copyFrom_56 rfl ?_
  refine aw_aload_n dX6_copyFrom_57 rfl ?_
  refine aw_getI dX6_copyFrom_58 f_X6_31 o1 rfl ?_
  refine aw_putI dX6_copyFrom_61 p_X6_31 o2 rfl ?_
  exact aw_vret dX6_copyFrom_64 rfl hq
theorem dX6_add_0 : decode cX6_add 0 = .ok (.aload_n 0, 1) := by decide +kernel
theorem dX6_add_1 : decode cX6_add 1 = .ok (.dup, 1) := by decide +kernel
theorem dX6_add_2 : decode cX6_add 2 = .ok (.getfield 7, 3) := by decide +kernel
theorem dX6_add_5 : decode cX6_add 5 = .ok (.iload_n 1, 1) := by decide +kernel
theorem dX6_add_6 : decode cX6_add 6 = .ok (.iadd, 1) := by decide +kernel
theorem dX6_add_7 : decode cX6_add 7 = .ok (.putfield 7, 3) := by decide +kernel
theorem dX6_add_10 : decode cX6_add 10 = .ok (.aload_n 0, 1) := by decide +kernel
theorem dX6_add_11 : decode cX6_add 11 = .ok (.dup, 1) := by decide +kernel
theorem dX6_add_12 : decode cX6_add 12 = .ok (.getfield 13, 3) := by decide +kernel
theorem dX6_add_15 : decode cX6_add 15 = .ok (.iload_n 1, 1) := by decide +kernel
theorem dX6_add_16 : decode cX6_add 16 = .ok (.iload_n 2, 1) := by decide +kernel
theorem dX6_add_17 : decode cX6_add 17 = .ok (.imul, 1) := by decide +kernel
theorem dX6_add_18 : decode cX6_add 18 = .ok (.iadd, 1) := by decide +kernel
theorem dX6_add_19 : decode cX6_add 19 = .ok (.putfield 13, 3) := by decide +kernel
theorem dX6_add_22 : decode cX6_add 22 = .ok (.aload_n 0, 1) := by decide +kernel
theorem dX6_add_23 : decode cX6_add 23 = .ok (.dup, 1) := by decide +kernel
theorem dX6_add_24 : decode cX6_add 24 = .ok (.getfield 16, 3) := by decide +kernel
theorem dX6_add_27 : decode cX6_add 27 = .ok (.iload_n 1, 1) := by decide +kernel
theorem dX6_add_28 : decode cX6_add 28 = .ok (.iload_n 3, 1) := by decide +kernel
theorem dX6_add_29 : decode cX6_add 29 = .ok (.imul, 1) := by decide +kernel
theorem dX6_add_30 : decode cX6_add 30 = .ok (.iadd, 1) := by decide +kernel
theorem dX6_add_31 : decode cX6_add 31 = .ok (.putfield 16, 3) := by decide +kernel
theorem dX6_add_34 : decode cX6_add 34 = .ok (.aload_n 0, 1) := by decide +kernel
theorem dX6_add_35 : decode cX6_add 35 = .ok (.dup, 1) := by decide +kernel
theorem dX6_add_36 : decode cX6_add 36 = .ok (.getfield 19, 3) := by decide +kernel
theorem dX6_add_39 : decode cX6_add 39 = .ok (.iload_n 1, 1) := by decide +kernel
theorem dX6_add_40 : decode cX6_add 40 = .ok (.iload 4, 2) := by decide +kernel
theorem dX6_add_42 : decode cX6_add 42 = .ok (.imul, 1) := by decide +kernel
theorem dX6_add_43 : decode cX6_add 43 = .ok (.iadd, 1) := by decide +kernel
theorem dX6_add_44 : decode cX6_add 44 = .ok (.putfield 19, 3) := by decide +kernel
theorem dX6_add_47 : decode cX6_add 47 = .ok (.iload_n 3, 1) := by decide +kernel
theorem dX6_add_48 : decode cX6_add 48 = .ok (.iload 4, 2) := by decide +kernel
theorem dX6_add_50 : decode cX6_add 50 = .ok (.if_icmp .le 28, 3) := by decide +kernel
theorem dX6_add_53 : decode cX6_add 53 = .ok (.aload_n 0, 1) := by decide +kernel
theorem dX6_add_54 : decode cX6_add 54 = .ok (.dup, 1) := by decide +kernel
theorem dX6_add_55 : decode cX6_add 55 = .ok (.getfield 22, 3) := by decide +kernel
theorem dX6_add_58 : decode cX6_add 58 = .ok (.iload_n 1, 1) := by decide +kernel
theorem dX6_add_59 : decode cX6_add 59 = .ok (.iadd, 1) := by decide +kernel
theorem dX6_add_60 : decode cX6_add 60 = .ok (.putfield 22, 3) := by decide +kernel
theorem dX6_add_63 : decode cX6_add 63 = .ok (.aload_n 0, 1) := by decide +kernel
theorem dX6_add_64 : decode cX6_add 64 = .ok (.dup, 1) := by decide +kernel
theorem dX6_add_65 : decode cX6_add 65 = .ok (.getfield 28, 3) := by decide +kernel
theorem dX6_add_68 : decode cX6_add 68 = .ok (.iload_n 1, 1) := by decide +kernel
theorem dX6_add_69 : decode cX6_add 69 = .ok (.iload_n 3, 1) := by decide +kernel
theorem dX6_add_70 : decode cX6_add 70 = .ok (.iload 4, 2) := by decide +kernel
theorem dX6_add_72 : decode cX6_add 72 = .ok (.isub, 1) := by decide +kernel
theorem dX6_add_73 : decode cX6_add 73 = .ok (.imul, 1) := by decide +kernel
theorem dX6_add_74 : decode cX6_add 74 = .ok (.iadd, 1) := by decide +kernel
theorem dX6_add_75 : decode cX6_add 75 = .ok (.putfield 28, 3) := by decide +kernel
theorem dX6_add_78 : decode cX6_add 78 = .ok (.iload_n 3, 1) := by decide +kernel
theorem dX6_add_79 : decode cX6_add 79 = .ok (.iload 4, 2) := by decide +kernel
theorem dX6_add_81 : decode cX6_add 81 = .ok (.if_icmp .ge 28, 3) := by decide +kernel
theorem dX6_add_84 : decode cX6_add 84 = .ok (.aload_n 0, 1) := by decide +kernel
theorem dX6_add_85 : decode cX6_add 85 = .ok (.dup, 1) := by decide +kernel
theorem dX6_add_86 : decode cX6_add 86 = .ok (.getfield 25, 3) := by decide +kernel
theorem dX6_add_89 : decode cX6_add 89 = .ok (.iload_n 1, 1) := by decide +kernel
theorem dX6_add_90 : decode cX6_add 90 = .ok (.iadd, 1) := by decide +kernel
theorem dX6_add_91 : decode cX6_add 91 = .ok (.putfield 25, 3) := by decide +kernel
theorem dX6_add_94 : decode cX6_add 94 = .ok (.aload_n 0, 1) := by decide +kernel
theorem dX6_add_95 : decode cX6_add 95 = .ok (.dup, 1) := by decide +kernel
theorem dX6_add_96 : decode cX6_add 96 = .ok (.getfield 31, 3) := by decide +kernel
theorem dX6_add_99 : decode cX6_add 99 = .ok (.iload_n 1, 1) := by decide +kernel
theorem dX6_add_100 : decode cX6_add 100 = .ok (.iload 4, 2) := by decide +kernel
theorem dX6_add_102 : decode cX6_add 102 = .ok (.iload_n 3, 1) := by decide +kernel
theorem dX6_add_103 : decode cX6_add 103 = .ok (.isub, 1) := by decide +kernel
theorem dX6_add_104 : decode cX6_add 104 = .ok (.imul, 1) := by decide +kernel
theorem dX6_add_105 : decode cX6_add 105 = .ok (.iadd, 1) := by decide +kernel
theorem dX6_add_106 : decode cX6_add 106 = .ok (.putfield 31, 3) := by decide +kernel
theorem dX6_add_109 : decode cX6_add 109 = .ok (.return_, 1) := by decide +kernel
theorem bX6_add_0 {d mc ms : Nat} {al : Bool} {bc bs : Nat} {Γ : am_G} {I : am_I} {L : am_L} {Q : am_Q} {v0 : Nat} {v1 : Int32} {v2 : Int32} {v3 : Int32} {v4 : Int32} (o1 : am_ob Γ v0 6) (kt : v3 ≤ v4 → am_W m_X6_add d mc ms al bc bs 78 [(0, .ref v0), (1, .int v1), (2, .int v2), (3, .int v3), (4, .int v4)] [] Γ (am_u (am_u (am_u (am_u I v0 0 ((I v0 0) + v1)) v0 1 (((am_u I v0 0 ((I v0 0) + v1)) v0 1) + (v1 * v2))) v0 2 (((am_u (am_u I v0 0 ((I v0 0) + v1)) v0 1 (((am_u I v0 0 ((I v0 0) + v1)) v0 1) + (v1 * v2))) v0 2) + (v1 * v3))) v0 3 (((am_u (am_u (am_u I v0 0 ((I v0 0) + v1)) v0 1 (((am_u I v0 0 ((I v0 0) + v1)) v0 1) + (v1 * v2))) v0 2 (((am_u (am_u I v0 0 ((I v0 0) + v1)) v0 1 (((am_u I v0 0 ((I v0 0) + v1)) v0 1) + (v1 * v2))) v0 2) + (v1 * v3))) v0 3) + (v1 * v4))) L Q) (kf : ¬ v3 ≤ v4 → am_W m_X6_add d mc ms al bc bs 53 [(0, .ref v0), (1, .int v1), (2, .int v2), (3, .int v3), (4, .int v4)] [] Γ (am_u (am_u (am_u (am_u I v0 0 ((I v0 0) + v1)) v0 1 (((am_u I v0 0 ((I v0 0) + v1)) v0 1) + (v1 * v2))) v0 2 (((am_u (am_u I v0 0 ((I v0 0) + v1)) v0 1 (((am_u I v0 0 ((I v0 0) + v1)) v0 1) + (v1 * v2))) v0 2) + (v1 * v3))) v0 3 (((am_u (am_u (am_u I v0 0 ((I v0 0) + v1)) v0 1 (((am_u I v0 0 ((I v0 0) + v1)) v0 1) + (v1 * v2))) v0 2 (((am_u (am_u I v0 0 ((I v0 0) + v1)) v0 1 (((am_u I v0 0 ((I v0 0) + v1)) v0 1) + (v1 * v2))) v0 2) + (v1 * v3))) v0 3) + (v1 * v4))) L Q) : am_W m_X6_add d mc ms al bc bs 0 [(0, .ref v0), (1, .int v1), (2, .int v2), (3, .int v3), (4, .int v4)] [] Γ I L Q := by
  refine aw_aload_n dX6_add_0 rfl ?_
  refine aw_dup dX6_add_1 rfl ?_
  refine aw_getI dX6_add_2 f_X6_7 o1 rfl ?_
  refine aw_iload_n dX6_add_5 rfl ?_
  refine aw_iadd dX6_add_6 ?_
  refine aw_putI dX6_add_7 p_X6_7 o1 rfl ?_
  refine aw_aload_n dX6_add_10 rfl ?_
  refine aw_dup dX6_add_11 rfl ?_
  refine aw_getI dX6_add_12 f_X6_13 o1 rfl ?_
  refine aw_iload_n dX6_add_15 rfl ?_
  refine aw_iload_n dX6_add_16 rfl ?_
  refine aw_imul dX6_add_17 ?_
  refine aw_iadd dX6_add_18 ?_
  refine aw_putI dX6_add_19 p_X6_13 o1 rfl ?_
  refine aw_aload_n dX6_add_22 rfl ?_
  refine aw_dup dX6_add_23 rfl ?_
  refine aw_getI dX6_add_24 f_X6_16 o1 rfl ?_
  refine aw_iload_n dX6_add_27 rfl ?_
  refine aw_iload_n dX6_add_28 rfl ?_
  refine aw_imul dX6_add_29 ?_
  refine aw_iadd dX6_add_30 ?_
  refine aw_putI dX6_add_31 p_X6_16 o1 rfl ?_
  refine aw_aload_n dX6_add_34 rfl ?_
  refine aw_dup dX6_add_35 rfl ?_
  refine aw_getI dX6_add_36 f_X6_19 o1 rfl ?_
  refine aw_iload_n dX6_add_39 rfl ?_
  refine aw_iload dX6_add_40 rfl ?_
  refine aw_imul dX6_add_42 ?_
  refine aw_iadd dX6_add_43 ?_
  refine aw_putI dX6_add_44 p_X6_19 o1 rfl ?_
  refine aw_iload_n dX6_add_47 rfl ?_
  refine aw_iload dX6_add_48 rfl ?_
  exact aw_icmp_le dX6_add_50 (by decide) kt kf
theorem bX6_add_53 {d mc ms : Nat} {al : Bool} {bc bs : Nat} {Γ : am_G} {I : am_I} {L : am_L} {Q : am_Q} {v0 : Nat} {v1 : Int32} {v2 : Int32} {v3 : Int32} {v4 : Int32} (o1 : am_ob Γ v0 6) (kk : am_W m_X6_add d mc ms al bc bs 78 [(0, .ref v0), (1, .int v1), (2, .int v2), (3, .int v3), (4, .int v4)] [] Γ (am_u (am_u I v0 4 ((I v0 4) + v1)) v0 6 (((am_u I v0 4 ((I v0 4) + v1)) v0 6) + (v1 * (v3 - v4)))) L Q) : am_W m_X6_add d mc ms al bc bs 53 [(0, .ref v0), (1, .int v1), (2, .int v2), (3, .int v3), (4, .int v4)] [] Γ I L Q := by
  refine aw_aload_n dX6_add_53 rfl ?_
  refine aw_dup dX6_add_54 rfl ?_
  refine aw_getI dX6_add_55 f_X6_22 o1 rfl ?_
  refine aw_iload_n dX6_add_58 rfl ?_
  refine aw_iadd dX6_add_59 ?_
  refine aw_putI dX6_add_60 p_X6_22 o1 rfl ?_
  refine aw_aload_n dX6_add_63 rfl ?_
  refine aw_dup dX6_add_64 rfl ?_
  refine aw_getI dX6_add_65 f_X6_28 o1 rfl ?_
  refine aw_iload_n dX6_add_68 rfl ?_
  refine aw_iload_n dX6_add_69 rfl ?_
  refine aw_iload dX6_add_70 rfl ?_
  refine aw_isub dX6_add_72 ?_
  refine aw_imul dX6_add_73 ?_
  refine aw_iadd dX6_add_74 ?_
  refine aw_putI dX6_add_75 p_X6_28 o1 rfl ?_
  exact kk
theorem bX6_add_78 {d mc ms : Nat} {al : Bool} {bc bs : Nat} {Γ : am_G} {I : am_I} {L : am_L} {Q : am_Q} {v0 : Nat} {v1 : Int32} {v2 : Int32} {v3 : Int32} {v4 : Int32} (kt : v4 ≤ v3 → am_W m_X6_add d mc ms al bc bs 109 [(0, .ref v0), (1, .int v1), (2, .int v2), (3, .int v3), (4, .int v4)] [] Γ I L Q) (kf : ¬ v4 ≤ v3 → am_W m_X6_add d mc ms al bc bs 84 [(0, .ref v0), (1, .int v1), (2, .int v2), (3, .int v3), (4, .int v4)] [] Γ I L Q) : am_W m_X6_add d mc ms al bc bs 78 [(0, .ref v0), (1, .int v1), (2, .int v2), (3, .int v3), (4, .int v4)] [] Γ I L Q := by
  refine aw_iload_n dX6_add_78 rfl ?_
  refine aw_iload dX6_add_79 rfl ?_
  exact aw_icmp_ge dX6_add_81 (by decide) kt kf
theorem bX6_add_84 {d mc ms : Nat} {al : Bool} {bc bs : Nat} {Γ : am_G} {I : am_I} {L : am_L} {Q : am_Q} {v0 : Nat} {v1 : Int32} {v2 : Int32} {v3 : Int32} {v4 : Int32} (o1 : am_ob Γ v0 6) (kk : am_W m_X6_add d mc ms al bc bs 109 [(0, .ref v0), (1, .int v1), (2, .int v2), (3, .int v3), (4, .int v4)] [] Γ (am_u (am_u I v0 5 ((I v0 5) + v1)) v0 7 (((am_u I v0 5 ((I v0 5) + v1)) v0 7) + (v1 * (v4 - v3)))) L Q) : am_W m_X6_add d mc ms al bc bs 84 [(0, .ref v0), (1, .int v1), (2, .int v2), (3, .int v3), (4, .int v4)] [] Γ I L Q := by
  refine aw_aload_n dX6_add_84 rfl ?_
  refine aw_dup dX6_add_85 rfl ?_
  refine aw_getI dX6_add_86 f_X6_25 o1 rfl ?_
  refine aw_iload_n dX6_add_89 rfl ?_
  refine aw_iadd dX6_add_90 ?_
  refine aw_putI dX6_add_91 p_X6_25 o1 rfl ?_
  refine aw_aload_n dX6_add_94 rfl ?_
  refine aw_dup dX6_add_95 rfl ?_
  refine aw_getI dX6_add_96 f_X6_31 o1 rfl ?_
  refine aw_iload_n dX6_add_99 rfl ?_
  refine aw_iload dX6_add_100 rfl ?_
  refine aw_iload_n dX6_add_102 rfl ?_
  refine aw_isub dX6_add_103 ?_
  refine aw_imul dX6_add_104 ?_
  refine aw_iadd dX6_add_105 ?_
  refine aw_putI dX6_add_106 p_X6_31 o1 rfl ?_
  exact kk
theorem bX6_add_109 {d mc ms : Nat} {al : Bool} {bc bs : Nat} {Γ : am_G} {I : am_I} {L : am_L} {Q : am_Q} {v0 : Nat} {v1 : Int32} {v2 : Int32} {v3 : Int32} {v4 : Int32} (hq : Q (.inl none) Γ I L) : am_W m_X6_add d mc ms al bc bs 109 [(0, .ref v0), (1, .int v1), (2, .int v2), (3, .int v3), (4, .int v4)] [] Γ I L Q := by
  exact aw_vret dX6_add_109 rfl hq
theorem dX7_init_0 : decode cX7_init 0 = .ok (.aload_n 0, 1) := by decide +kernel
theorem dX7_init_1 : decode cX7_init 1 = .ok (.invokespecial 3, 3) := by decide +kernel
theorem dX7_init_4 : decode cX7_init 4 = .ok (.aload_n 0, 1) := by decide +kernel
theorem dX7_init_5 : decode cX7_init 5 = .ok (.bipush 15, 2) := by decide +kernel
theorem dX7_init_7 : decode cX7_init 7 = .ok (.newarray .int, 2) := by decide +kernel
theorem dX7_init_9 : decode cX7_init 9 = .ok (.putfield 9, 3) := by decide +kernel
theorem dX7_init_12 : decode cX7_init 12 = .ok (.aload_n 0, 1) := by decide +kernel
theorem dX7_init_13 : decode cX7_init 13 = .ok (.bipush 15, 2) := by decide +kernel
theorem dX7_init_15 : decode cX7_init 15 = .ok (.newarray .int, 2) := by decide +kernel
theorem dX7_init_17 : decode cX7_init 17 = .ok (.putfield 15, 3) := by decide +kernel
theorem dX7_init_20 : decode cX7_init 20 = .ok (.aload_n 0, 1) := by decide +kernel
theorem dX7_init_21 : decode cX7_init 21 = .ok (.bipush 15, 2) := by decide +kernel
theorem dX7_init_23 : decode cX7_init 23 = .ok (.newarray .int, 2) := by decide +kernel
theorem dX7_init_25 : decode cX7_init 25 = .ok (.putfield 18, 3) := by decide +kernel
theorem dX7_init_28 : decode cX7_init 28 = .ok (.aload_n 0, 1) := by decide +kernel
theorem dX7_init_29 : decode cX7_init 29 = .ok (.bipush 15, 2) := by decide +kernel
theorem dX7_init_31 : decode cX7_init 31 = .ok (.newarray .int, 2) := by decide +kernel
theorem dX7_init_33 : decode cX7_init 33 = .ok (.putfield 21, 3) := by decide +kernel
theorem dX7_init_36 : decode cX7_init 36 = .ok (.return_, 1) := by decide +kernel
theorem dX7_copyFrom_0 : decode cX7_copyFrom 0 = .ok (.aload_n 0, 1) := by decide +kernel
theorem dX7_copyFrom_1 : decode cX7_copyFrom 1 = .ok (.aload_n 1, 1) := by decide +kernel
theorem dX7_copyFrom_2 : decode cX7_copyFrom 2 = .ok (.getfield 24, 3) := by decide +kernel
theorem dX7_copyFrom_5 : decode cX7_copyFrom 5 = .ok (.putfield 24, 3) := by decide +kernel
theorem dX7_copyFrom_8 : decode cX7_copyFrom 8 = .ok (.aload_n 1, 1) := by decide +kernel
theorem dX7_copyFrom_9 : decode cX7_copyFrom 9 = .ok (.getfield 9, 3) := by decide +kernel
theorem dX7_copyFrom_12 : decode cX7_copyFrom 12 = .ok (.iconst 0, 1) := by decide +kernel
theorem dX7_copyFrom_13 : decode cX7_copyFrom 13 = .ok (.aload_n 0, 1) := by decide +kernel
theorem dX7_copyFrom_14 : decode cX7_copyFrom 14 = .ok (.getfield 9, 3) := by decide +kernel
theorem dX7_copyFrom_17 : decode cX7_copyFrom 17 = .ok (.iconst 0, 1) := by decide +kernel
theorem dX7_copyFrom_18 : decode cX7_copyFrom 18 = .ok (.bipush 15, 2) := by decide +kernel
theorem dX7_copyFrom_20 : decode cX7_copyFrom 20 = .ok (.invokestatic 28, 3) := by decide +kernel
theorem dX7_copyFrom_23 : decode cX7_copyFrom 23 = .ok (.aload_n 1, 1) := by decide +kernel
theorem dX7_copyFrom_24 : decode cX7_copyFrom 24 = .ok (.getfield 15, 3) := by decide +kernel
theorem dX7_copyFrom_27 : decode cX7_copyFrom 27 = .ok (.iconst 0, 1) := by decide +kernel
theorem dX7_copyFrom_28 : decode cX7_copyFrom 28 = .ok (.aload_n 0, 1) := by decide +kernel
theorem dX7_copyFrom_29 : decode cX7_copyFrom 29 = .ok (.getfield 15, 3) := by decide +kernel
theorem dX7_copyFrom_32 : decode cX7_copyFrom 32 = .ok (.iconst 0, 1) := by decide +kernel
theorem dX7_copyFrom_33 : decode cX7_copyFrom 33 = .ok (.bipush 15, 2) := by decide +kernel
theorem dX7_copyFrom_35 : decode cX7_copyFrom 35 = .ok (.invokestatic 28, 3) := by decide +kernel
theorem dX7_copyFrom_38 : decode cX7_copyFrom 38 = .ok (.aload_n 1, 1) := by decide +kernel
theorem dX7_copyFrom_39 : decode cX7_copyFrom 39 = .ok (.getfield 18, 3) := by decide +kernel
theorem dX7_copyFrom_42 : decode cX7_copyFrom 42 = .ok (.iconst 0, 1) := by decide +kernel
theorem dX7_copyFrom_43 : decode cX7_copyFrom 43 = .ok (.aload_n 0, 1) := by decide +kernel
theorem dX7_copyFrom_44 : decode cX7_copyFrom 44 = .ok (.getfield 18, 3) := by decide +kernel
theorem dX7_copyFrom_47 : decode cX7_copyFrom 47 = .ok (.iconst 0, 1) := by decide +kernel
theorem dX7_copyFrom_48 : decode cX7_copyFrom 48 = .ok (.bipush 15, 2) := by decide +kernel
theorem dX7_copyFrom_50 : decode cX7_copyFrom 50 = .ok (.invokestatic 28, 3) := by decide +kernel
theorem dX7_copyFrom_53 : decode cX7_copyFrom 53 = .ok (.aload_n 1, 1) := by decide +kernel
theorem dX7_copyFrom_54 : decode cX7_copyFrom 54 = .ok (.getfield 21, 3) := by decide +kernel
theorem dX7_copyFrom_57 : decode cX7_copyFrom 57 = .ok (.iconst 0, 1) := by decide +kernel
theorem dX7_copyFrom_58 : decode cX7_copyFrom 58 = .ok (.aload_n 0, 1) := by decide +kernel
theorem dX7_copyFrom_59 : decode cX7_copyFrom 59 = .ok (.getfield 21, 3) := by decide +kernel
theorem dX7_copyFrom_62 : decode cX7_copyFrom 62 = .ok (.iconst 0, 1) := by decide +kernel
theorem dX7_copyFrom_63 : decode cX7_copyFrom 63 = .ok (.bipush 15, 2) := by decide +kernel
theorem dX7_copyFrom_65 : decode cX7_copyFrom 65 = .ok (.invokestatic 28, 3) := by decide +kernel
theorem dX7_copyFrom_68 : decode cX7_copyFrom 68 = .ok (.return_, 1) := by decide +kernel
theorem bX7_copyFrom_0 {d mc ms : Nat} {al : Bool} {bc bs : Nat} {Γ : am_G} {I : am_I} {L : am_L} {Q : am_Q} {v0 : Nat} {v1 : Nat} {r3 : Nat} {r5 : Nat} {n_r3 : Nat} {n_r5 : Nat} {r11 : Nat} {r13 : Nat} {n_r11 : Nat} {n_r13 : Nat} {r19 : Nat} {r21 : Nat} {n_r19 : Nat} {n_r21 : Nat} {r27 : Nat} {r29 : Nat} {n_r27 : Nat} {n_r29 : Nat} (o1 : am_ob Γ v1 7) (o2 : am_ob Γ v0 7) (g4 : Γ.2.2 v1 1 = some r3) (g6 : Γ.2.2 v0 1 = some r5) (a7 : am_ar Γ r3 1 n_r3 0) (a8 : am_ar Γ r5 1 n_r5 0) (z9 : (0 : Int32).toNatClampNeg + (15 : Int32).toNatClampNeg ≤ n_r3) (z10 : (0 : Int32).toNatClampNeg + (15 : Int32).toNatClampNeg ≤ n_r5) (g12 : Γ.2.2 v1 2 = some r11) (g14 : Γ.2.2 v0 2 = some r13) (a15 : am_ar Γ r11 1 n_r11 0) (a16 : am_ar Γ r13 1 n_r13 0) (z17 : (0 : Int32).toNatClampNeg + (15 : Int32).toNatClampNeg ≤ n_r11) (z18 : (0 : Int32).toNatClampNeg + (15 : Int32).toNatClampNeg ≤ n_r13) (g20 : Γ.2.2 v1 3 = some r19) (g22 : Γ.2.2 v0 3 = some r21) (a23 : am_ar Γ r19 1 n_r19 0) (a24 : am_ar Γ r21 1 n_r21 0) (z25 : (0 : Int32).toNatClampNeg + (15 : Int32).toNatClampNeg ≤ n_r19) (z26 : (0 : Int32).toNatClampNeg + (15 : Int32).toNatClampNeg ≤ n_r21) (g28 : Γ.2.2 v1 4 = some r27) (g30 : Γ.2.2 v0 4 = some r29) (a31 : am_ar Γ r27 1 n_r27 0) (a32 : am_ar Γ r29 1 n_r29 0) (z33 : (0 : Int32).toNatClampNeg + (15 : Int32).toNatClampNeg ≤ n_r27) (z34 : (0 : Int32).toNatClampNeg + (15 : Int32).toNatClampNeg ≤ n_r29) (hq : Q (.inl none) Γ (am_cI (am_cI (am_cI (am_cI (am_u I v0 0 (I v1 0)) r3 r5 ((0 : Int32).toNatClampNeg) ((0 : Int32).toNatClampNeg) ((15 : Int32).toNatClampNeg)) r11 r13 ((0 : Int32).toNatClampNeg) ((0 : Int32).toNatClampNeg) ((15 : Int32).toNatClampNeg)) r19 r21 ((0 : Int32).toNatClampNeg) ((0 : Int32).toNatClampNeg) ((15 : Int32).toNatClampNeg)) r27 r29 ((0 : Int32).toNatClampNeg) ((0 : Int32).toNatClampNeg) ((15 : Int32).toNatClampNeg)) L) : am_W m_X7_copyFrom d mc ms al bc bs 0 [(0, .ref v0), (1, .ref v1)] [] Γ I L Q := by
  refine aw_aload_n dX7_copyFrom_0 rfl ?_
  refine aw_aload_n dX7_copyFrom_1 rfl ?_
  refine aw_getI dX7_copyFrom_2 f_X7_24 o1 rfl ?_
  refine aw_putI dX7_copyFrom_5 p_X7_24 o2 rfl ?_
  refine aw_aload_n dX7_copyFrom_8 rfl ?_
  refine aw_getR dX7_copyFrom_9 f_X7_9 o1 rfl g4 ?_
  refine aw_iconst dX7_copyFrom_12 ci_0 ?_
  refine aw_aload_n dX7_copyFrom_13 rfl ?_
  refine aw_getR dX7_copyFrom_14 f_X7_9 o2 rfl g6 ?_
  refine aw_iconst dX7_copyFrom_17 ci_0 ?_
  refine aw_bipush dX7_copyFrom_18 cb_15 ?_
  refine aw_copyi dX7_copyFrom_20 sk_X7_28 a7 a8 (by decide) (by decide) (by decide) z9 z10 (Nat.le_of_ble_eq_true rfl) ?_
  refine aw_aload_n dX7_copyFrom_23 rfl ?_
  refine aw_getR dX7_copyFrom_24 f_X7_15 o1 rfl g12 ?_
  refine aw_iconst dX7_copyFrom_27 ci_0 ?_
  refine aw_aload_n dX7_copyFrom_28 rfl ?_
  refine aw_getR dX7_copyFrom_29 f_X7_15 o2 rfl g14 ?_
  refine aw_iconst dX7_copyFrom_32 ci_0 ?_
  refine aw_bipush dX7_copyFrom_33 cb_15 ?_
  refine aw_copyi dX7_copyFrom_35 sk_X7_28 a15 a16 (by decide) (by decide) (by decide) z17 z18 (Nat.le_of_ble_eq_true rfl) ?_
  refine aw_aload_n dX7_copyFrom_38 rfl ?_
  refine aw_getR dX7_copyFrom_39 f_X7_18 o1 rfl g20 ?_
  refine aw_iconst dX7_copyFrom_42 ci_0 ?_
  refine aw_aload_n dX7_copyFrom_43 rfl ?_
  refine aw_getR dX7_copyFrom_44 f_X7_18 o2 rfl g22 ?_
  refine aw_iconst dX7_copyFrom_47 ci_0 ?_
  refine aw_bipush dX7_copyFrom_48 cb_15 ?_
  refine aw_copyi dX7_copyFrom_50 sk_X7_28 a23 a24 (by decide) (by decide) (by decide) z25 z26 (Nat.le_of_ble_eq_true rfl) ?_
  refine aw_aload_n dX7_copyFrom_53 rfl ?_
  refine aw_getR dX7_copyFrom_54 f_X7_21 o1 rfl g28 ?_
  refine aw_iconst dX7_copyFrom_57 ci_0 ?_
  refine aw_aload_n dX7_copyFrom_58 rfl ?_
  refine aw_getR dX7_copyFrom_59 f_X7_21 o2 rfl g30 ?_
  refine aw_iconst dX7_copyFrom_62 ci_0 ?_
  refine aw_bipush dX7_copyFrom_63 cb_15 ?_
  refine aw_copyi dX7_copyFrom_65 sk_X7_28 a31 a32 (by decide) (by decide) (by decide) z33 z34 (Nat.le_of_ble_eq_true rfl) ?_
  exact aw_vret dX7_copyFrom_68 rfl hq
theorem dX7_firstChild_0 : decode cX7_firstChild 0 = .ok (.aload_n 0, 1) := by decide +kernel
theorem dX7_firstChild_1 : decode cX7_firstChild 1 = .ok (.getfield 9, 3) := by decide +kernel
theorem dX7_firstChild_4 : decode cX7_firstChild 4 = .ok (.iload_n 1, 1) := by decide +kernel
theorem dX7_firstChild_5 : decode cX7_firstChild 5 = .ok (.iaload, 1) := by decide +kernel
theorem dX7_firstChild_6 : decode cX7_firstChild 6 = .ok (.iconst (-1), 1) := by decide +kernel
theorem dX7_firstChild_7 : decode cX7_firstChild 7 = .ok (.if_icmp .ne 7, 3) := by decide +kernel
theorem dX7_firstChild_10 : decode cX7_firstChild 10 = .ok (.iconst (-1), 1) := by decide +kernel
theorem dX7_firstChild_11 : decode cX7_firstChild 11 = .ok (.goto 6, 3) := by decide +kernel
theorem dX7_firstChild_14 : decode cX7_firstChild 14 = .ok (.iload_n 1, 1) := by decide +kernel
theorem dX7_firstChild_15 : decode cX7_firstChild 15 = .ok (.iconst 1, 1) := by decide +kernel
theorem dX7_firstChild_16 : decode cX7_firstChild 16 = .ok (.iadd, 1) := by decide +kernel
theorem dX7_firstChild_17 : decode cX7_firstChild 17 = .ok (.ireturn, 1) := by decide +kernel
theorem bX7_firstChild_0 {d mc ms : Nat} {al : Bool} {bc bs : Nat} {Γ : am_G} {I : am_I} {L : am_L} {Q : am_Q} {v0 : Nat} {v1 : Int32} {r2 : Nat} {n_r2 : Nat} (o1 : am_ob Γ v0 7) (g3 : Γ.2.2 v0 1 = some r2) (a4 : am_ar Γ r2 1 n_r2 0) (i5 : vp_in v1 n_r2) (kt : ¬ (I r2 (v1.toNatClampNeg)) = (-1) → am_W m_X7_firstChild d mc ms al bc bs 14 [(0, .ref v0), (1, .int v1)] [] Γ I L Q) (kf : (I r2 (v1.toNatClampNeg)) = (-1) → am_W m_X7_firstChild d mc ms al bc bs 10 [(0, .ref v0), (1, .int v1)] [] Γ I L Q) : am_W m_X7_firstChild d mc ms al bc bs 0 [(0, .ref v0), (1, .int v1)] [] Γ I L Q := by
  refine aw_aload_n dX7_firstChild_0 rfl ?_
  refine aw_getR dX7_firstChild_1 f_X7_9 o1 rfl g3 ?_
  refine aw_iload_n dX7_firstChild_4 rfl ?_
  refine aw_iald dX7_firstChild_5 a4 i5 ?_
  refine aw_iconst dX7_firstChild_6 ci_m1 ?_
  exact aw_icmp_ne dX7_firstChild_7 (by decide) kt kf
theorem bX7_firstChild_10 {d mc ms : Nat} {al : Bool} {bc bs : Nat} {Γ : am_G} {I : am_I} {L : am_L} {Q : am_Q} {v0 : Nat} {v1 : Int32} (kk : am_W m_X7_firstChild d mc ms al bc bs 17 [(0, .ref v0), (1, .int v1)] [.int (-1)] Γ I L Q) : am_W m_X7_firstChild d mc ms al bc bs 10 [(0, .ref v0), (1, .int v1)] [] Γ I L Q := by
  refine aw_iconst dX7_firstChild_10 ci_m1 ?_
  exact aw_goto dX7_firstChild_11 (by decide) kk
theorem bX7_firstChild_14 {d mc ms : Nat} {al : Bool} {bc bs : Nat} {Γ : am_G} {I : am_I} {L : am_L} {Q : am_Q} {v0 : Nat} {v1 : Int32} (kk : am_W m_X7_firstChild d mc ms al bc bs 17 [(0, .ref v0), (1, .int v1)] [.int (v1 + 1)] Γ I L Q) : am_W m_X7_firstChild d mc ms al bc bs 14 [(0, .ref v0), (1, .int v1)] [] Γ I L Q := by
  refine aw_iload_n dX7_firstChild_14 rfl ?_
  refine aw_iconst dX7_firstChild_15 ci_1 ?_
  refine aw_iadd dX7_firstChild_16 ?_
  exact kk
theorem bX7_firstChild_17 {d mc ms : Nat} {al : Bool} {bc bs : Nat} {Γ : am_G} {I : am_I} {L : am_L} {Q : am_Q} {v0 : Nat} {v1 : Int32} {w0 : Int32} (hq : Q (.inl (some (.int w0))) Γ I L) : am_W m_X7_firstChild d mc ms al bc bs 17 [(0, .ref v0), (1, .int v1)] [.int w0] Γ I L Q := by
  exact aw_iret dX7_firstChild_17 rfl hq
theorem dX7_leafHolding_0 : decode cX7_leafHolding 0 = .ok (.iconst 0, 1) := by decide +kernel
theorem dX7_leafHolding_1 : decode cX7_leafHolding 1 = .ok (.istore_n 2, 1) := by decide +kernel
theorem dX7_leafHolding_2 : decode cX7_leafHolding 2 = .ok (.iload_n 2, 1) := by decide +kernel
theorem dX7_leafHolding_3 : decode cX7_leafHolding 3 = .ok (.aload_n 0, 1) := by decide +kernel
theorem dX7_leafHolding_4 : decode cX7_leafHolding 4 = .ok (.getfield 24, 3) := by decide +kernel
theorem dX7_leafHolding_7 : decode cX7_leafHolding 7 = .ok (.if_icmp .ge 34, 3) := by decide +kernel
theorem dX7_leafHolding_10 : decode cX7_leafHolding 10 = .ok (.aload_n 0, 1) := by decide +kernel
theorem dX7_leafHolding_11 : decode cX7_leafHolding 11 = .ok (.getfield 9, 3) := by decide +kernel
theorem dX7_leafHolding_14 : decode cX7_leafHolding 14 = .ok (.iload_n 2, 1) := by decide +kernel
theorem dX7_leafHolding_15 : decode cX7_leafHolding 15 = .ok (.iaload, 1) := by decide +kernel
theorem dX7_leafHolding_16 : decode cX7_leafHolding 16 = .ok (.iconst (-1), 1) := by decide +kernel
theorem dX7_leafHolding_17 : decode cX7_leafHolding 17 = .ok (.if_icmp .ne 18, 3) := by decide +kernel
theorem dX7_leafHolding_20 : decode cX7_leafHolding 20 = .ok (.aload_n 0, 1) := by decide +kernel
theorem dX7_leafHolding_21 : decode cX7_leafHolding 21 = .ok (.getfield 21, 3) := by decide +kernel
theorem dX7_leafHolding_24 : decode cX7_leafHolding 24 = .ok (.iload_n 2, 1) := by decide +kernel
theorem dX7_leafHolding_25 : decode cX7_leafHolding 25 = .ok (.iaload, 1) := by decide +kernel
theorem dX7_leafHolding_26 : decode cX7_leafHolding 26 = .ok (.iload_n 1, 1) := by decide +kernel
theorem dX7_leafHolding_27 : decode cX7_leafHolding 27 = .ok (.ishr, 1) := by decide +kernel
theorem dX7_leafHolding_28 : decode cX7_leafHolding 28 = .ok (.iconst 1, 1) := by decide +kernel
theorem dX7_leafHolding_29 : decode cX7_leafHolding 29 = .ok (.iand, 1) := by decide +kernel
theorem dX7_leafHolding_30 : decode cX7_leafHolding 30 = .ok (.ifCond .eq 5, 3) := by decide +kernel
theorem dX7_leafHolding_33 : decode cX7_leafHolding 33 = .ok (.iload_n 2, 1) := by decide +kernel
theorem dX7_leafHolding_34 : decode cX7_leafHolding 34 = .ok (.ireturn, 1) := by decide +kernel
theorem dX7_leafHolding_35 : decode cX7_leafHolding 35 = .ok (.iinc 2 1, 3) := by decide +kernel
theorem dX7_leafHolding_38 : decode cX7_leafHolding 38 = .ok (.goto (-36), 3) := by decide +kernel
theorem dX7_leafHolding_41 : decode cX7_leafHolding 41 = .ok (.iconst 0, 1) := by decide +kernel
theorem dX7_leafHolding_42 : decode cX7_leafHolding 42 = .ok (.ireturn, 1) := by decide +kernel
theorem bX7_leafHolding_0 {d mc ms : Nat} {al : Bool} {bc bs : Nat} {Γ : am_G} {I : am_I} {L : am_L} {Q : am_Q} {v0 : Nat} {v1 : Int32} (kk : am_W m_X7_leafHolding d mc ms al bc bs 2 [(0, .ref v0), (1, .int v1), (2, .int 0)] [] Γ I L Q) : am_W m_X7_leafHolding d mc ms al bc bs 0 [(0, .ref v0), (1, .int v1)] [] Γ I L Q := by
  refine aw_iconst dX7_leafHolding_0 ci_0 ?_
  refine aw_istore_n (ls' := [(0, .ref v0), (1, .int v1), (2, .int 0)]) dX7_leafHolding_1 (by decide) rfl ?_
  exact kk
theorem bX7_leafHolding_2 {d mc ms : Nat} {al : Bool} {bc bs : Nat} {Γ : am_G} {I : am_I} {L : am_L} {Q : am_Q} {v0 : Nat} {v1 : Int32} {v2 : Int32} (o1 : am_ob Γ v0 7) (kt : (I v0 0) ≤ v2 → am_W m_X7_leafHolding d mc ms al bc bs 41 [(0, .ref v0), (1, .int v1), (2, .int v2)] [] Γ I L Q) (kf : ¬ (I v0 0) ≤ v2 → am_W m_X7_leafHolding d mc ms al bc bs 10 [(0, .ref v0), (1, .int v1), (2, .int v2)] [] Γ I L Q) : am_W m_X7_leafHolding d mc ms al bc bs 2 [(0, .ref v0), (1, .int v1), (2, .int v2)] [] Γ I L Q := by
  refine aw_iload_n dX7_leafHolding_2 rfl ?_
  refine aw_aload_n dX7_leafHolding_3 rfl ?_
  refine aw_getI dX7_leafHolding_4 f_X7_24 o1 rfl ?_
  exact aw_icmp_ge dX7_leafHolding_7 (by decide) kt kf
theorem bX7_leafHolding_10 {d mc ms : Nat} {al : Bool} {bc bs : Nat} {Γ : am_G} {I : am_I} {L : am_L} {Q : am_Q} {v0 : Nat} {v1 : Int32} {v2 : Int32} {r2 : Nat} {n_r2 : Nat} (o1 : am_ob Γ v0 7) (g3 : Γ.2.2 v0 1 = some r2) (a4 : am_ar Γ r2 1 n_r2 0) (i5 : vp_in v2 n_r2) (kt : ¬ (I r2 (v2.toNatClampNeg)) = (-1) → am_W m_X7_leafHolding d mc ms al bc bs 35 [(0, .ref v0), (1, .int v1), (2, .int v2)] [] Γ I L Q) (kf : (I r2 (v2.toNatClampNeg)) = (-1) → am_W m_X7_leafHolding d mc ms al bc bs 20 [(0, .ref v0), (1, .int v1), (2, .int v2)] [] Γ I L Q) : am_W m_X7_leafHolding d mc ms al bc bs 10 [(0, .ref v0), (1, .int v1), (2, .int v2)] [] Γ I L Q := by
  refine aw_aload_n dX7_leafHolding_10 rfl ?_
  refine aw_getR dX7_leafHolding_11 f_X7_9 o1 rfl g3 ?_
  refine aw_iload_n dX7_leafHolding_14 rfl ?_
  refine aw_iald dX7_leafHolding_15 a4 i5 ?_
  refine aw_iconst dX7_leafHolding_16 ci_m1 ?_
  exact aw_icmp_ne dX7_leafHolding_17 (by decide) kt kf
theorem bX7_leafHolding_20 {d mc ms : Nat} {al : Bool} {bc bs : Nat} {Γ : am_G} {I : am_I} {L : am_L} {Q : am_Q} {v0 : Nat} {v1 : Int32} {v2 : Int32} {r2 : Nat} {n_r2 : Nat} (o1 : am_ob Γ v0 7) (g3 : Γ.2.2 v0 4 = some r2) (a4 : am_ar Γ r2 1 n_r2 0) (i5 : vp_in v2 n_r2) (kt : (((I r2 (v2.toNatClampNeg)) >>> (v1 &&& 31)) &&& 1) = 0 → am_W m_X7_leafHolding d mc ms al bc bs 35 [(0, .ref v0), (1, .int v1), (2, .int v2)] [] Γ I L Q) (kf : ¬ (((I r2 (v2.toNatClampNeg)) >>> (v1 &&& 31)) &&& 1) = 0 → am_W m_X7_leafHolding d mc ms al bc bs 33 [(0, .ref v0), (1, .int v1), (2, .int v2)] [] Γ I L Q) : am_W m_X7_leafHolding d mc ms al bc bs 20 [(0, .ref v0), (1, .int v1), (2, .int v2)] [] Γ I L Q := by
  refine aw_aload_n dX7_leafHolding_20 rfl ?_
  refine aw_getR dX7_leafHolding_21 f_X7_21 o1 rfl g3 ?_
  refine aw_iload_n dX7_leafHolding_24 rfl ?_
  refine aw_iald dX7_leafHolding_25 a4 i5 ?_
  refine aw_iload_n dX7_leafHolding_26 rfl ?_
  refine aw_ishr dX7_leafHolding_27 ?_
  refine aw_iconst dX7_leafHolding_28 ci_1 ?_
  refine aw_iand dX7_leafHolding_29 ?_
  exact aw_if_eq dX7_leafHolding_30 (by decide) kt kf
theorem bX7_leafHolding_33 {d mc ms : Nat} {al : Bool} {bc bs : Nat} {Γ : am_G} {I : am_I} {L : am_L} {Q : am_Q} {v0 : Nat} {v1 : Int32} {v2 : Int32} (hq : Q (.inl (some (.int v2))) Γ I L) : am_W m_X7_leafHolding d mc ms al bc bs 33 [(0, .ref v0), (1, .int v1), (2, .int v2)] [] Γ I L Q := by
  refine aw_iload_n dX7_leafHolding_33 rfl ?_
  exact aw_iret dX7_leafHolding_34 rfl hq
theorem bX7_leafHolding_35 {d mc ms : Nat} {al : Bool} {bc bs : Nat} {Γ : am_G} {I : am_I} {L : am_L} {Q : am_Q} {v0 : Nat} {v1 : Int32} {v2 : Int32} (kk : am_W m_X7_leafHolding d mc ms al bc bs 2 [(0, .ref v0), (1, .int v1), (2, .int (v2 + 1))] [] Γ I L Q) : am_W m_X7_leafHolding d mc ms al bc bs 35 [(0, .ref v0), (1, .int v1), (2, .int v2)] [] Γ I L Q := by
  refine aw_iinc (ls' := [(0, .ref v0), (1, .int v1), (2, .int (v2 + 1))]) dX7_leafHolding_35 rfl (cn_1 _) (by decide) rfl ?_
  exact aw_goto dX7_leafHolding_38 (by decide) kk
theorem bX7_leafHolding_41 {d mc ms : Nat} {al : Bool} {bc bs : Nat} {Γ : am_G} {I : am_I} {L : am_L} {Q : am_Q} {v0 : Nat} {v1 : Int32} {v2 : Int32} (hq : Q (.inl (some (.int 0))) Γ I L) : am_W m_X7_leafHolding d mc ms al bc bs 41 [(0, .ref v0), (1, .int v1), (2, .int v2)] [] Γ I L Q := by
  refine aw_iconst dX7_leafHolding_41 ci_0 ?_
  exact aw_iret dX7_leafHolding_42 rfl hq
theorem dX7_tollFor_0 : decode cX7_tollFor 0 = .ok (.aload_n 0, 1) := by decide +kernel
theorem dX7_tollFor_1 : decode cX7_tollFor 1 = .ok (.getfield 15, 3) := by decide +kernel
theorem dX7_tollFor_4 : decode cX7_tollFor 4 = .ok (.aload_n 0, 1) := by decide +kernel
theorem dX7_tollFor_5 : decode cX7_tollFor 5 = .ok (.iload_n 1, 1) := by decide +kernel
theorem dX7_tollFor_6 : decode cX7_tollFor 6 = .ok (.invokevirtual 34, 3) := by decide +kernel
theorem dX7_tollFor_9 : decode cX7_tollFor 9 = .ok (.iaload, 1) := by decide +kernel
theorem dX7_tollFor_10 : decode cX7_tollFor 10 = .ok (.ireturn, 1) := by decide +kernel
theorem bX7_tollFor_0 {d mc ms : Nat} {al : Bool} {bc bs : Nat} {Γ : am_G} {I : am_I} {L : am_L} {Q : am_Q} {v0 : Nat} {v1 : Int32} {r2 : Nat} {I' : am_I} {L' : am_L} {mc' : Nat} {ms' : Nat} {r : Int32} (o1 : am_ob Γ v0 7) (g3 : Γ.2.2 v0 2 = some r2) (hbc : mc' ≤ bc) (hbs : ms' ≤ bs) (hC : am_E m_X7_leafHolding d mc' ms' [.ref v0, .int v1] Γ I L (.inl (some (.int r))) I' L') (kk : am_W m_X7_tollFor (d + 1) mc ms al (bc - mc') (bs - ms') 9 [(0, .ref v0), (1, .int v1)] [.int r, .ref r2] Γ I' L' Q) : am_W m_X7_tollFor (d + 1) mc ms al bc bs 0 [(0, .ref v0), (1, .int v1)] [] Γ I L Q := by
  refine aw_aload_n dX7_tollFor_0 rfl ?_
  refine aw_getR dX7_tollFor_1 f_X7_15 o1 rfl g3 ?_
  refine aw_aload_n dX7_tollFor_4 rfl ?_
  refine aw_iload_n dX7_tollFor_5 rfl ?_
  exact aw_askV (as := [.int v1]) (rst := [.ref r2]) k_X7_leafHolding l_X7_34 i_X7_leafHolding s_X7_leafHolding rfl o1 dX7_tollFor_6 rfl (Nat.le_of_ble_eq_true rfl) hbc hbs hC rfl rfl kk
theorem bX7_tollFor_9 {d mc ms : Nat} {al : Bool} {bc bs : Nat} {Γ : am_G} {I : am_I} {L : am_L} {Q : am_Q} {v0 : Nat} {v1 : Int32} {w0 : Nat} {w1 : Int32} {n_w0 : Nat} (a1 : am_ar Γ w0 1 n_w0 0) (i2 : vp_in w1 n_w0) (hq : Q (.inl (some (.int (I w0 (w1.toNatClampNeg))))) Γ I L) : am_W m_X7_tollFor d mc ms al bc bs 9 [(0, .ref v0), (1, .int v1)] [.int w1, .ref w0] Γ I L Q := by
  refine aw_iald dX7_tollFor_9 a1 i2 ?_
  exact aw_iret dX7_tollFor_10 rfl hq
theorem dX7_emptyLeaves_0 : decode cX7_emptyLeaves 0 = .ok (.iconst 0, 1) := by decide +kernel
theorem dX7_emptyLeaves_1 : decode cX7_emptyLeaves 1 = .ok (.istore_n 1, 1) := by decide +kernel
theorem dX7_emptyLeaves_2 : decode cX7_emptyLeaves 2 = .ok (.iconst 0, 1) := by decide +kernel
theorem dX7_emptyLeaves_3 : decode cX7_emptyLeaves 3 = .ok (.istore_n 2, 1) := by decide +kernel
theorem dX7_emptyLeaves_4 : decode cX7_emptyLeaves 4 = .ok (.iload_n 2, 1) := by decide +kernel
theorem dX7_emptyLeaves_5 : decode cX7_emptyLeaves 5 = .ok (.aload_n 0, 1) := by decide +kernel
theorem dX7_emptyLeaves_6 : decode cX7_emptyLeaves 6 = .ok (.getfield 24, 3) := by decide +kernel
theorem dX7_emptyLeaves_9 : decode cX7_emptyLeaves 9 = .ok (.if_icmp .ge 31, 3) := by decide +kernel
theorem dX7_emptyLeaves_12 : decode cX7_emptyLeaves 12 = .ok (.aload_n 0, 1) := by decide +kernel
theorem dX7_emptyLeaves_13 : decode cX7_emptyLeaves 13 = .ok (.getfield 9, 3) := by decide +kernel
theorem dX7_emptyLeaves_16 : decode cX7_emptyLeaves 16 = .ok (.iload_n 2, 1) := by decide +kernel
theorem dX7_emptyLeaves_17 : decode cX7_emptyLeaves 17 = .ok (.iaload, 1) := by decide +kernel
theorem dX7_emptyLeaves_18 : decode cX7_emptyLeaves 18 = .ok (.iconst (-1), 1) := by decide +kernel
theorem dX7_emptyLeaves_19 : decode cX7_emptyLeaves 19 = .ok (.if_icmp .ne 15, 3) := by decide +kernel
theorem dX7_emptyLeaves_22 : decode cX7_emptyLeaves 22 = .ok (.aload_n 0, 1) := by decide +kernel
theorem dX7_emptyLeaves_23 : decode cX7_emptyLeaves 23 = .ok (.getfield 21, 3) := by decide +kernel
theorem dX7_emptyLeaves_26 : decode cX7_emptyLeaves 26 = .ok (.iload_n 2, 1) := by decide +kernel
theorem dX7_emptyLeaves_27 : decode cX7_emptyLeaves 27 = .ok (.iaload, 1) := by decide +kernel
theorem dX7_emptyLeaves_28 : decode cX7_emptyLeaves 28 = .ok (.ifCond .ne 6, 3) := by decide +kernel
theorem dX7_emptyLeaves_31 : decode cX7_emptyLeaves 31 = .ok (.iinc 1 1, 3) := by decide +kernel
theorem dX7_emptyLeaves_34 : decode cX7_emptyLeaves 34 = .ok (.iinc 2 1, 3) := by decide +kernel
theorem dX7_emptyLeaves_37 : decode cX7_emptyLeaves 37 = .ok (.goto (-33), 3) := by decide +kernel
theorem dX7_emptyLeaves_40 : decode cX7_emptyLeaves 40 = .ok (.iload_n 1, 1) := by decide +kernel
theorem dX7_emptyLeaves_41 : decode cX7_emptyLeaves 41 = .ok (.ireturn, 1) := by decide +kernel
theorem bX7_emptyLeaves_0 {d mc ms : Nat} {al : Bool} {bc bs : Nat} {Γ : am_G} {I : am_I} {L : am_L} {Q : am_Q} {v0 : Nat} (kk : am_W m_X7_emptyLeaves d mc ms al bc bs 4 [(0, .ref v0), (1, .int 0), (2, .int 0)] [] Γ I L Q) : am_W m_X7_emptyLeaves d mc ms al bc bs 0 [(0, .ref v0)] [] Γ I L Q := by
  refine aw_iconst dX7_emptyLeaves_0 ci_0 ?_
  refine aw_istore_n (ls' := [(0, .ref v0), (1, .int 0)]) dX7_emptyLeaves_1 (by decide) rfl ?_
  refine aw_iconst dX7_emptyLeaves_2 ci_0 ?_
  refine aw_istore_n (ls' := [(0, .ref v0), (1, .int 0), (2, .int 0)]) dX7_emptyLeaves_3 (by decide) rfl ?_
  exact kk
theorem bX7_emptyLeaves_4 {d mc ms : Nat} {al : Bool} {bc bs : Nat} {Γ : am_G} {I : am_I} {L : am_L} {Q : am_Q} {v0 : Nat} {v1 : Int32} {v2 : Int32} (o1 : am_ob Γ v0 7) (kt : (I v0 0) ≤ v2 → am_W m_X7_emptyLeaves d mc ms al bc bs 40 [(0, .ref v0), (1, .int v1), (2, .int v2)] [] Γ I L Q) (kf : ¬ (I v0 0) ≤ v2 → am_W m_X7_emptyLeaves d mc ms al bc bs 12 [(0, .ref v0), (1, .int v1), (2, .int v2)] [] Γ I L Q) : am_W m_X7_emptyLeaves d mc ms al bc bs 4 [(0, .ref v0), (1, .int v1), (2, .int v2)] [] Γ I L Q := by
  refine aw_iload_n dX7_emptyLeaves_4 rfl ?_
  refine aw_aload_n dX7_emptyLeaves_5 rfl ?_
  refine aw_getI dX7_emptyLeaves_6 f_X7_24 o1 rfl ?_
  exact aw_icmp_ge dX7_emptyLeaves_9 (by decide) kt kf
theorem bX7_emptyLeaves_12 {d mc ms : Nat} {al : Bool} {bc bs : Nat} {Γ : am_G} {I : am_I} {L : am_L} {Q : am_Q} {v0 : Nat} {v1 : Int32} {v2 : Int32} {r2 : Nat} {n_r2 : Nat} (o1 : am_ob Γ v0 7) (g3 : Γ.2.2 v0 1 = some r2) (a4 : am_ar Γ r2 1 n_r2 0) (i5 : vp_in v2 n_r2) (kt : ¬ (I r2 (v2.toNatClampNeg)) = (-1) → am_W m_X7_emptyLeaves d mc ms al bc bs 34 [(0, .ref v0), (1, .int v1), (2, .int v2)] [] Γ I L Q) (kf : (I r2 (v2.toNatClampNeg)) = (-1) → am_W m_X7_emptyLeaves d mc ms al bc bs 22 [(0, .ref v0), (1, .int v1), (2, .int v2)] [] Γ I L Q) : am_W m_X7_emptyLeaves d mc ms al bc bs 12 [(0, .ref v0), (1, .int v1), (2, .int v2)] [] Γ I L Q := by
  refine aw_aload_n dX7_emptyLeaves_12 rfl ?_
  refine aw_getR dX7_emptyLeaves_13 f_X7_9 o1 rfl g3 ?_
  refine aw_iload_n dX7_emptyLeaves_16 rfl ?_
  refine aw_iald dX7_emptyLeaves_17 a4 i5 ?_
  refine aw_iconst dX7_emptyLeaves_18 ci_m1 ?_
  exact aw_icmp_ne dX7_emptyLeaves_19 (by decide) kt kf
theorem bX7_emptyLeaves_22 {d mc ms : Nat} {al : Bool} {bc bs : Nat} {Γ : am_G} {I : am_I} {L : am_L} {Q : am_Q} {v0 : Nat} {v1 : Int32} {v2 : Int32} {r2 : Nat} {n_r2 : Nat} (o1 : am_ob Γ v0 7) (g3 : Γ.2.2 v0 4 = some r2) (a4 : am_ar Γ r2 1 n_r2 0) (i5 : vp_in v2 n_r2) (kt : ¬ (I r2 (v2.toNatClampNeg)) = 0 → am_W m_X7_emptyLeaves d mc ms al bc bs 34 [(0, .ref v0), (1, .int v1), (2, .int v2)] [] Γ I L Q) (kf : (I r2 (v2.toNatClampNeg)) = 0 → am_W m_X7_emptyLeaves d mc ms al bc bs 31 [(0, .ref v0), (1, .int v1), (2, .int v2)] [] Γ I L Q) : am_W m_X7_emptyLeaves d mc ms al bc bs 22 [(0, .ref v0), (1, .int v1), (2, .int v2)] [] Γ I L Q := by
  refine aw_aload_n dX7_emptyLeaves_22 rfl ?_
  refine aw_getR dX7_emptyLeaves_23 f_X7_21 o1 rfl g3 ?_
  refine aw_iload_n dX7_emptyLeaves_26 rfl ?_
  refine aw_iald dX7_emptyLeaves_27 a4 i5 ?_
  exact aw_if_ne dX7_emptyLeaves_28 (by decide) kt kf
theorem bX7_emptyLeaves_31 {d mc ms : Nat} {al : Bool} {bc bs : Nat} {Γ : am_G} {I : am_I} {L : am_L} {Q : am_Q} {v0 : Nat} {v1 : Int32} {v2 : Int32} (kk : am_W m_X7_emptyLeaves d mc ms al bc bs 34 [(0, .ref v0), (1, .int (v1 + 1)), (2, .int v2)] [] Γ I L Q) : am_W m_X7_emptyLeaves d mc ms al bc bs 31 [(0, .ref v0), (1, .int v1), (2, .int v2)] [] Γ I L Q := by
  refine aw_iinc (ls' := [(0, .ref v0), (1, .int (v1 + 1)), (2, .int v2)]) dX7_emptyLeaves_31 rfl (cn_1 _) (by decide) rfl ?_
  exact kk
theorem bX7_emptyLeaves_34 {d mc ms : Nat} {al : Bool} {bc bs : Nat} {Γ : am_G} {I : am_I} {L : am_L} {Q : am_Q} {v0 : Nat} {v1 : Int32} {v2 : Int32} (kk : am_W m_X7_emptyLeaves d mc ms al bc bs 4 [(0, .ref v0), (1, .int v1), (2, .int (v2 + 1))] [] Γ I L Q) : am_W m_X7_emptyLeaves d mc ms al bc bs 34 [(0, .ref v0), (1, .int v1), (2, .int v2)] [] Γ I L Q := by
  refine aw_iinc (ls' := [(0, .ref v0), (1, .int v1), (2, .int (v2 + 1))]) dX7_emptyLeaves_34 rfl (cn_1 _) (by decide) rfl ?_
  exact aw_goto dX7_emptyLeaves_37 (by decide) kk
theorem bX7_emptyLeaves_40 {d mc ms : Nat} {al : Bool} {bc bs : Nat} {Γ : am_G} {I : am_I} {L : am_L} {Q : am_Q} {v0 : Nat} {v1 : Int32} {v2 : Int32} (hq : Q (.inl (some (.int v1))) Γ I L) : am_W m_X7_emptyLeaves d mc ms al bc bs 40 [(0, .ref v0), (1, .int v1), (2, .int v2)] [] Γ I L Q := by
  refine aw_iload_n dX7_emptyLeaves_40 rfl ?_
  exact aw_iret dX7_emptyLeaves_41 rfl hq
