/-! BLOCKS (printed by program): what each straight stretch of the code does in the numbered machine -/
theorem dX3_init_0 : decode cX3_init 0 = .ok (.aload_n 0, 1) := by decide +kernel
theorem dX3_init_1 : decode cX3_init 1 = .ok (.invokespecial 3, 3) := by decide +kernel
theorem dX3_init_4 : decode cX3_init 4 = .ok (.aload_n 0, 1) := by decide +kernel
theorem dX3_init_5 : decode cX3_init 5 = .ok (.sipush 700, 3) := by decide +kernel
theorem dX3_init_8 : decode cX3_init 8 = .ok (.newarray .byte, 2) := by decide +kernel
theorem dX3_init_10 : decode cX3_init 10 = .ok (.putfield 9, 3) := by decide +kernel
theorem dX3_init_13 : decode cX3_init 13 = .ok (.aload_n 0, 1) := by decide +kernel
theorem dX3_init_14 : decode cX3_init 14 = .ok (.iconst (-1), 1) := by decide +kernel
theorem dX3_init_15 : decode cX3_init 15 = .ok (.putfield 15, 3) := by decide +kernel
theorem dX3_init_18 : decode cX3_init 18 = .ok (.aload_n 0, 1) := by decide +kernel
theorem dX3_init_19 : decode cX3_init 19 = .ok (.aload_n 1, 1) := by decide +kernel
theorem dX3_init_20 : decode cX3_init 20 = .ok (.putfield 19, 3) := by decide +kernel
theorem dX3_init_23 : decode cX3_init 23 = .ok (.aload_n 0, 1) := by decide +kernel
theorem dX3_init_24 : decode cX3_init 24 = .ok (.aload_n 2, 1) := by decide +kernel
theorem dX3_init_25 : decode cX3_init 25 = .ok (.putfield 23, 3) := by decide +kernel
theorem dX3_init_28 : decode cX3_init 28 = .ok (.return_, 1) := by decide +kernel
theorem dX3_putByte_0 : decode cX3_putByte 0 = .ok (.aload_n 0, 1) := by decide +kernel
theorem dX3_putByte_1 : decode cX3_putByte 1 = .ok (.getfield 27, 3) := by decide +kernel
theorem dX3_putByte_4 : decode cX3_putByte 4 = .ok (.sipush 700, 3) := by decide +kernel
theorem dX3_putByte_7 : decode cX3_putByte 7 = .ok (.if_icmp .ge 24, 3) := by decide +kernel
theorem dX3_putByte_10 : decode cX3_putByte 10 = .ok (.aload_n 0, 1) := by decide +kernel
theorem dX3_putByte_11 : decode cX3_putByte 11 = .ok (.getfield 9, 3) := by decide +kernel
theorem dX3_putByte_14 : decode cX3_putByte 14 = .ok (.aload_n 0, 1) := by decide +kernel
theorem dX3_putByte_15 : decode cX3_putByte 15 = .ok (.getfield 27, 3) := by decide +kernel
theorem dX3_putByte_18 : decode cX3_putByte 18 = .ok (.iload_n 1, 1) := by decide +kernel
theorem dX3_putByte_19 : decode cX3_putByte 19 = .ok (.i2b, 1) := by decide +kernel
theorem dX3_putByte_20 : decode cX3_putByte 20 = .ok (.bastore, 1) := by decide +kernel
theorem dX3_putByte_21 : decode cX3_putByte 21 = .ok (.aload_n 0, 1) := by decide +kernel
theorem dX3_putByte_22 : decode cX3_putByte 22 = .ok (.dup, 1) := by decide +kernel
theorem dX3_putByte_23 : decode cX3_putByte 23 = .ok (.getfield 27, 3) := by decide +kernel
theorem dX3_putByte_26 : decode cX3_putByte 26 = .ok (.iconst 1, 1) := by decide +kernel
theorem dX3_putByte_27 : decode cX3_putByte 27 = .ok (.iadd, 1) := by decide +kernel
theorem dX3_putByte_28 : decode cX3_putByte 28 = .ok (.putfield 27, 3) := by decide +kernel
theorem dX3_putByte_31 : decode cX3_putByte 31 = .ok (.return_, 1) := by decide +kernel
theorem bX3_putByte_0 {d mc ms : Nat} {al : Bool} {bc bs : Nat} {Γ : am_G} {I : am_I} {L : am_L} {Q : am_Q} {v0 : Nat} {v1 : Int32} (o1 : am_ob Γ v0 3) (kt : 700 ≤ (I v0 1) → am_W m_X3_putByte d mc ms al bc bs 31 [(0, .ref v0), (1, .int v1)] [] Γ I L Q) (kf : ¬ 700 ≤ (I v0 1) → am_W m_X3_putByte d mc ms al bc bs 10 [(0, .ref v0), (1, .int v1)] [] Γ I L Q) : am_W m_X3_putByte d mc ms al bc bs 0 [(0, .ref v0), (1, .int v1)] [] Γ I L Q := by
  refine aw_aload_n dX3_putByte_0 rfl ?_
  refine aw_getI dX3_putByte_1 f_X3_27 o1 rfl ?_
  refine aw_sipush dX3_putByte_4 cs_700 ?_
  exact aw_icmp_ge dX3_putByte_7 (by decide) kt kf
theorem bX3_putByte_10 {d mc ms : Nat} {al : Bool} {bc bs : Nat} {Γ : am_G} {I : am_I} {L : am_L} {Q : am_Q} {v0 : Nat} {v1 : Int32} {r2 : Nat} {n_r2 : Nat} (o1 : am_ob Γ v0 3) (g3 : Γ.2.2 v0 0 = some r2) (a4 : am_ar Γ r2 2 n_r2 0) (i5 : vp_in (I v0 1) n_r2) (kk : am_W m_X3_putByte d mc ms al bc bs 31 [(0, .ref v0), (1, .int v1)] [] Γ (am_u (am_u I r2 ((I v0 1).toNatClampNeg) (vp_nar .byte ((v1 : Int32).toInt8.toInt32))) v0 1 (((am_u I r2 ((I v0 1).toNatClampNeg) (vp_nar .byte ((v1 : Int32).toInt8.toInt32))) v0 1) + 1)) L Q) : am_W m_X3_putByte d mc ms al bc bs 10 [(0, .ref v0), (1, .int v1)] [] Γ I L Q := by
  refine aw_aload_n dX3_putByte_10 rfl ?_
  refine aw_getR dX3_putByte_11 f_X3_9 o1 rfl g3 ?_
  refine aw_aload_n dX3_putByte_14 rfl ?_
  refine aw_getI dX3_putByte_15 f_X3_27 o1 rfl ?_
  refine aw_iload_n dX3_putByte_18 rfl ?_
  refine aw_i2b dX3_putByte_19 ?_
  refine aw_bast dX3_putByte_20 a4 i5 ?_
  refine aw_aload_n dX3_putByte_21 rfl ?_
  refine aw_dup dX3_putByte_22 rfl ?_
  refine aw_getI dX3_putByte_23 f_X3_27 o1 rfl ?_
  refine aw_iconst dX3_putByte_26 ci_1 ?_
  refine aw_iadd dX3_putByte_27 ?_
  refine aw_putI dX3_putByte_28 p_X3_27 o1 rfl ?_
  exact kk
theorem bX3_putByte_31 {d mc ms : Nat} {al : Bool} {bc bs : Nat} {Γ : am_G} {I : am_I} {L : am_L} {Q : am_Q} {v0 : Nat} {v1 : Int32} (hq : Q (.inl none) Γ I L) : am_W m_X3_putByte d mc ms al bc bs 31 [(0, .ref v0), (1, .int v1)] [] Γ I L Q := by
  exact aw_vret dX3_putByte_31 rfl hq
theorem dX3_putInt_0 : decode cX3_putInt 0 = .ok (.bipush 24, 2) := by decide +kernel
theorem dX3_putInt_2 : decode cX3_putInt 2 = .ok (.istore_n 2, 1) := by decide +kernel
theorem dX3_putInt_3 : decode cX3_putInt 3 = .ok (.iload_n 2, 1) := by decide +kernel
theorem dX3_putInt_4 : decode cX3_putInt 4 = .ok (.ifCond .lt 16, 3) := by decide +kernel
theorem dX3_putInt_7 : decode cX3_putInt 7 = .ok (.aload_n 0, 1) := by decide +kernel
theorem dX3_putInt_8 : decode cX3_putInt 8 = .ok (.iload_n 1, 1) := by decide +kernel
theorem dX3_putInt_9 : decode cX3_putInt 9 = .ok (.iload_n 2, 1) := by decide +kernel
theorem dX3_putInt_10 : decode cX3_putInt 10 = .ok (.ishr, 1) := by decide +kernel
theorem dX3_putInt_11 : decode cX3_putInt 11 = .ok (.invokevirtual 30, 3) := by decide +kernel
theorem dX3_putInt_14 : decode cX3_putInt 14 = .ok (.iinc 2 (-8), 3) := by decide +kernel
theorem dX3_putInt_17 : decode cX3_putInt 17 = .ok (.goto (-14), 3) := by decide +kernel
theorem dX3_putInt_20 : decode cX3_putInt 20 = .ok (.return_, 1) := by decide +kernel
theorem bX3_putInt_0 {d mc ms : Nat} {al : Bool} {bc bs : Nat} {Γ : am_G} {I : am_I} {L : am_L} {Q : am_Q} {v0 : Nat} {v1 : Int32} (kk : am_W m_X3_putInt d mc ms al bc bs 3 [(0, .ref v0), (1, .int v1), (2, .int 24)] [] Γ I L Q) : am_W m_X3_putInt d mc ms al bc bs 0 [(0, .ref v0), (1, .int v1)] [] Γ I L Q := by
  refine aw_bipush dX3_putInt_0 cb_24 ?_
  refine aw_istore_n (ls' := [(0, .ref v0), (1, .int v1), (2, .int 24)]) dX3_putInt_2 (by decide) rfl ?_
  exact kk
theorem bX3_putInt_3 {d mc ms : Nat} {al : Bool} {bc bs : Nat} {Γ : am_G} {I : am_I} {L : am_L} {Q : am_Q} {v0 : Nat} {v1 : Int32} {v2 : Int32} (kt : v2 < 0 → am_W m_X3_putInt d mc ms al bc bs 20 [(0, .ref v0), (1, .int v1), (2, .int v2)] [] Γ I L Q) (kf : ¬ v2 < 0 → am_W m_X3_putInt d mc ms al bc bs 7 [(0, .ref v0), (1, .int v1), (2, .int v2)] [] Γ I L Q) : am_W m_X3_putInt d mc ms al bc bs 3 [(0, .ref v0), (1, .int v1), (2, .int v2)] [] Γ I L Q := by
  refine aw_iload_n dX3_putInt_3 rfl ?_
  exact aw_if_lt dX3_putInt_4 (by decide) kt kf
theorem bX3_putInt_7 {d mc ms : Nat} {al : Bool} {bc bs : Nat} {Γ : am_G} {I : am_I} {L : am_L} {Q : am_Q} {v0 : Nat} {v1 : Int32} {v2 : Int32} {I' : am_I} {L' : am_L} {mc' : Nat} {ms' : Nat} (o1 : am_ob Γ v0 3) (hbc : mc' ≤ bc) (hbs : ms' ≤ bs) (hC : am_E m_X3_putByte d mc' ms' [.ref v0, .int (v1 >>> (v2 &&& 31))] Γ I L (.inl none) I' L') (kk : am_W m_X3_putInt (d + 1) mc ms al (bc - mc') (bs - ms') 14 [(0, .ref v0), (1, .int v1), (2, .int v2)] [] Γ I' L' Q) : am_W m_X3_putInt (d + 1) mc ms al bc bs 7 [(0, .ref v0), (1, .int v1), (2, .int v2)] [] Γ I L Q := by
  refine aw_aload_n dX3_putInt_7 rfl ?_
  refine aw_iload_n dX3_putInt_8 rfl ?_
  refine aw_iload_n dX3_putInt_9 rfl ?_
  refine aw_ishr dX3_putInt_10 ?_
  exact aw_askV (as := [.int (v1 >>> (v2 &&& 31))]) (rst := []) k_X3_putByte l_X3_30 i_X3_putByte s_X3_putByte rfl o1 dX3_putInt_11 rfl (Nat.le_of_ble_eq_true rfl) hbc hbs hC rfl rfl kk
theorem bX3_putInt_14 {d mc ms : Nat} {al : Bool} {bc bs : Nat} {Γ : am_G} {I : am_I} {L : am_L} {Q : am_Q} {v0 : Nat} {v1 : Int32} {v2 : Int32} (kk : am_W m_X3_putInt d mc ms al bc bs 3 [(0, .ref v0), (1, .int v1), (2, .int (v2 + (-8)))] [] Γ I L Q) : am_W m_X3_putInt d mc ms al bc bs 14 [(0, .ref v0), (1, .int v1), (2, .int v2)] [] Γ I L Q := by
  refine aw_iinc (ls' := [(0, .ref v0), (1, .int v1), (2, .int (v2 + (-8)))]) dX3_putInt_14 rfl (cn_m8 _) (by decide) rfl ?_
  exact aw_goto dX3_putInt_17 (by decide) kk
theorem bX3_putInt_20 {d mc ms : Nat} {al : Bool} {bc bs : Nat} {Γ : am_G} {I : am_I} {L : am_L} {Q : am_Q} {v0 : Nat} {v1 : Int32} {v2 : Int32} (hq : Q (.inl none) Γ I L) : am_W m_X3_putInt d mc ms al bc bs 20 [(0, .ref v0), (1, .int v1), (2, .int v2)] [] Γ I L Q := by
  exact aw_vret dX3_putInt_20 rfl hq
theorem dX3_begin_0 : decode cX3_begin 0 = .ok (.aload_n 0, 1) := by decide +kernel
theorem dX3_begin_1 : decode cX3_begin 1 = .ok (.iconst 0, 1) := by decide +kernel
theorem dX3_begin_2 : decode cX3_begin 2 = .ok (.putfield 34, 3) := by decide +kernel
theorem dX3_begin_5 : decode cX3_begin 5 = .ok (.aload_n 0, 1) := by decide +kernel
theorem dX3_begin_6 : decode cX3_begin 6 = .ok (.iconst (-1), 1) := by decide +kernel
theorem dX3_begin_7 : decode cX3_begin 7 = .ok (.putfield 15, 3) := by decide +kernel
theorem dX3_begin_10 : decode cX3_begin 10 = .ok (.aload_n 0, 1) := by decide +kernel
theorem dX3_begin_11 : decode cX3_begin 11 = .ok (.iconst 0, 1) := by decide +kernel
theorem dX3_begin_12 : decode cX3_begin 12 = .ok (.putfield 37, 3) := by decide +kernel
theorem dX3_begin_15 : decode cX3_begin 15 = .ok (.aload_n 0, 1) := by decide +kernel
theorem dX3_begin_16 : decode cX3_begin 16 = .ok (.iconst 0, 1) := by decide +kernel
theorem dX3_begin_17 : decode cX3_begin 17 = .ok (.putfield 40, 3) := by decide +kernel
theorem dX3_begin_20 : decode cX3_begin 20 = .ok (.aload_n 0, 1) := by decide +kernel
theorem dX3_begin_21 : decode cX3_begin 21 = .ok (.invokevirtual 43, 3) := by decide +kernel
theorem dX3_begin_24 : decode cX3_begin 24 = .ok (.return_, 1) := by decide +kernel
theorem bX3_begin_0 {d mc ms : Nat} {al : Bool} {bc bs : Nat} {Γ : am_G} {I : am_I} {L : am_L} {Q : am_Q} {v0 : Nat} {I' : am_I} {L' : am_L} {mc' : Nat} {ms' : Nat} (o1 : am_ob Γ v0 3) (hbc : mc' ≤ bc) (hbs : ms' ≤ bs) (hC : am_E m_X3_advance d mc' ms' [.ref v0] Γ (am_u (am_u (am_u (am_u I v0 2 0) v0 3 (-1)) v0 4 0) v0 9 0) L (.inl none) I' L') (kk : am_W m_X3_begin (d + 1) mc ms al (bc - mc') (bs - ms') 24 [(0, .ref v0)] [] Γ I' L' Q) : am_W m_X3_begin (d + 1) mc ms al bc bs 0 [(0, .ref v0)] [] Γ I L Q := by
  refine aw_aload_n dX3_begin_0 rfl ?_
  refine aw_iconst dX3_begin_1 ci_0 ?_
  refine aw_putI dX3_begin_2 p_X3_34 o1 rfl ?_
  refine aw_aload_n dX3_begin_5 rfl ?_
  refine aw_iconst dX3_begin_6 ci_m1 ?_
  refine aw_putI dX3_begin_7 p_X3_15 o1 rfl ?_
  refine aw_aload_n dX3_begin_10 rfl ?_
  refine aw_iconst dX3_begin_11 ci_0 ?_
  refine aw_putI dX3_begin_12 p_X3_37 o1 rfl ?_
  refine aw_aload_n dX3_begin_15 rfl ?_
  refine aw_iconst dX3_begin_16 ci_0 ?_
  refine aw_putI dX3_begin_17 p_X3_40 o1 rfl ?_
  refine aw_aload_n dX3_begin_20 rfl ?_
  exact aw_askV (as := []) (rst := []) k_X3_advance l_X3_43 i_X3_advance s_X3_advance rfl o1 dX3_begin_21 rfl (Nat.le_of_ble_eq_true rfl) hbc hbs hC rfl rfl kk
theorem bX3_begin_24 {d mc ms : Nat} {al : Bool} {bc bs : Nat} {Γ : am_G} {I : am_I} {L : am_L} {Q : am_Q} {v0 : Nat} (hq : Q (.inl none) Γ I L) : am_W m_X3_begin d mc ms al bc bs 24 [(0, .ref v0)] [] Γ I L Q := by
  exact aw_vret dX3_begin_24 rfl hq
theorem dX3_advance_0 : decode cX3_advance 0 = .ok (.aload_n 0, 1) := by decide +kernel
theorem dX3_advance_1 : decode cX3_advance 1 = .ok (.aload_n 0, 1) := by decide +kernel
theorem dX3_advance_2 : decode cX3_advance 2 = .ok (.getfield 40, 3) := by decide +kernel
theorem dX3_advance_5 : decode cX3_advance 5 = .ok (.putfield 46, 3) := by decide +kernel
theorem dX3_advance_8 : decode cX3_advance 8 = .ok (.aload_n 0, 1) := by decide +kernel
theorem dX3_advance_9 : decode cX3_advance 9 = .ok (.getfield 46, 3) := by decide +kernel
theorem dX3_advance_12 : decode cX3_advance 12 = .ok (.aload_n 0, 1) := by decide +kernel
theorem dX3_advance_13 : decode cX3_advance 13 = .ok (.getfield 27, 3) := by decide +kernel
theorem dX3_advance_16 : decode cX3_advance 16 = .ok (.if_icmp .ge 30, 3) := by decide +kernel
theorem dX3_advance_19 : decode cX3_advance 19 = .ok (.aload_n 0, 1) := by decide +kernel
theorem dX3_advance_20 : decode cX3_advance 20 = .ok (.getfield 9, 3) := by decide +kernel
theorem dX3_advance_23 : decode cX3_advance 23 = .ok (.aload_n 0, 1) := by decide +kernel
theorem dX3_advance_24 : decode cX3_advance 24 = .ok (.getfield 46, 3) := by decide +kernel
theorem dX3_advance_27 : decode cX3_advance 27 = .ok (.baload, 1) := by decide +kernel
theorem dX3_advance_28 : decode cX3_advance 28 = .ok (.bipush 32, 2) := by decide +kernel
theorem dX3_advance_30 : decode cX3_advance 30 = .ok (.if_icmp .ne 16, 3) := by decide +kernel
theorem dX3_advance_33 : decode cX3_advance 33 = .ok (.aload_n 0, 1) := by decide +kernel
theorem dX3_advance_34 : decode cX3_advance 34 = .ok (.dup, 1) := by decide +kernel
theorem dX3_advance_35 : decode cX3_advance 35 = .ok (.getfield 46, 3) := by decide +kernel
theorem dX3_advance_38 : decode cX3_advance 38 = .ok (.iconst 1, 1) := by decide +kernel
theorem dX3_advance_39 : decode cX3_advance 39 = .ok (.iadd, 1) := by decide +kernel
theorem dX3_advance_40 : decode cX3_advance 40 = .ok (.putfield 46, 3) := by decide +kernel
theorem dX3_advance_43 : decode cX3_advance 43 = .ok (.goto (-35), 3) := by decide +kernel
theorem dX3_advance_46 : decode cX3_advance 46 = .ok (.aload_n 0, 1) := by decide +kernel
theorem dX3_advance_47 : decode cX3_advance 47 = .ok (.aload_n 0, 1) := by decide +kernel
theorem dX3_advance_48 : decode cX3_advance 48 = .ok (.getfield 46, 3) := by decide +kernel
theorem dX3_advance_51 : decode cX3_advance 51 = .ok (.putfield 40, 3) := by decide +kernel
theorem dX3_advance_54 : decode cX3_advance 54 = .ok (.aload_n 0, 1) := by decide +kernel
theorem dX3_advance_55 : decode cX3_advance 55 = .ok (.getfield 46, 3) := by decide +kernel
theorem dX3_advance_58 : decode cX3_advance 58 = .ok (.aload_n 0, 1) := by decide +kernel
theorem dX3_advance_59 : decode cX3_advance 59 = .ok (.getfield 27, 3) := by decide +kernel
theorem dX3_advance_62 : decode cX3_advance 62 = .ok (.if_icmp .lt 9, 3) := by decide +kernel
theorem dX3_advance_65 : decode cX3_advance 65 = .ok (.aload_n 0, 1) := by decide +kernel
theorem dX3_advance_66 : decode cX3_advance 66 = .ok (.iconst 3, 1) := by decide +kernel
theorem dX3_advance_67 : decode cX3_advance 67 = .ok (.putfield 49, 3) := by decide +kernel
theorem dX3_advance_70 : decode cX3_advance 70 = .ok (.return_, 1) := by decide +kernel
theorem dX3_advance_71 : decode cX3_advance 71 = .ok (.aload_n 0, 1) := by decide +kernel
theorem dX3_advance_72 : decode cX3_advance 72 = .ok (.aload_n 0, 1) := by decide +kernel
theorem dX3_advance_73 : decode cX3_advance 73 = .ok (.getfield 9, 3) := by decide +kernel
theorem dX3_advance_76 : decode cX3_advance 76 = .ok (.aload_n 0, 1) := by decide +kernel
theorem dX3_advance_77 : decode cX3_advance 77 = .ok (.getfield 46, 3) := by decide +kernel
theorem dX3_advance_80 : decode cX3_advance 80 = .ok (.baload, 1) := by decide +kernel
theorem dX3_advance_81 : decode cX3_advance 81 = .ok (.invokestatic 52, 3) := by decide +kernel
theorem dX3_advance_84 : decode cX3_advance 84 = .ok (.putfield 49, 3) := by decide +kernel
theorem dX3_advance_87 : decode cX3_advance 87 = .ok (.aload_n 0, 1) := by decide +kernel
theorem dX3_advance_88 : decode cX3_advance 88 = .ok (.dup, 1) := by decide +kernel
theorem dX3_advance_89 : decode cX3_advance 89 = .ok (.getfield 40, 3) := by decide +kernel
theorem dX3_advance_92 : decode cX3_advance 92 = .ok (.iconst 1, 1) := by decide +kernel
theorem dX3_advance_93 : decode cX3_advance 93 = .ok (.iadd, 1) := by decide +kernel
theorem dX3_advance_94 : decode cX3_advance 94 = .ok (.putfield 40, 3) := by decide +kernel
theorem dX3_advance_97 : decode cX3_advance 97 = .ok (.aload_n 0, 1) := by decide +kernel
theorem dX3_advance_98 : decode cX3_advance 98 = .ok (.getfield 49, 3) := by decide +kernel
theorem dX3_advance_101 : decode cX3_advance 101 = .ok (.ifCond .ne 10, 3) := by decide +kernel
theorem dX3_advance_104 : decode cX3_advance 104 = .ok (.aload_n 0, 1) := by decide +kernel
theorem dX3_advance_105 : decode cX3_advance 105 = .ok (.invokevirtual 56, 3) := by decide +kernel
theorem dX3_advance_108 : decode cX3_advance 108 = .ok (.goto 15, 3) := by decide +kernel
theorem dX3_advance_111 : decode cX3_advance 111 = .ok (.aload_n 0, 1) := by decide +kernel
theorem dX3_advance_112 : decode cX3_advance 112 = .ok (.getfield 49, 3) := by decide +kernel
theorem dX3_advance_115 : decode cX3_advance 115 = .ok (.iconst 1, 1) := by decide +kernel
theorem dX3_advance_116 : decode cX3_advance 116 = .ok (.if_icmp .ne 7, 3) := by decide +kernel
theorem dX3_advance_119 : decode cX3_advance 119 = .ok (.aload_n 0, 1) := by decide +kernel
theorem dX3_advance_120 : decode cX3_advance 120 = .ok (.invokevirtual 59, 3) := by decide +kernel
theorem dX3_advance_123 : decode cX3_advance 123 = .ok (.return_, 1) := by decide +kernel
theorem bX3_advance_0 {d mc ms : Nat} {al : Bool} {bc bs : Nat} {Γ : am_G} {I : am_I} {L : am_L} {Q : am_Q} {v0 : Nat} (o1 : am_ob Γ v0 3) (kk : am_W m_X3_advance d mc ms al bc bs 8 [(0, .ref v0)] [] Γ (am_u I v0 8 (I v0 9)) L Q) : am_W m_X3_advance d mc ms al bc bs 0 [(0, .ref v0)] [] Γ I L Q := by
  refine aw_aload_n dX3_advance_0 rfl ?_
  refine aw_aload_n dX3_advance_1 rfl ?_
  refine aw_getI dX3_advance_2 f_X3_40 o1 rfl ?_
  refine aw_putI dX3_advance_5 p_X3_46 o1 rfl ?_
  exact kk
theorem bX3_advance_8 {d mc ms : Nat} {al : Bool} {bc bs : Nat} {Γ : am_G} {I : am_I} {L : am_L} {Q : am_Q} {v0 : Nat} (o1 : am_ob Γ v0 3) (kt : (I v0 1) ≤ (I v0 8) → am_W m_X3_advance d mc ms al bc bs 46 [(0, .ref v0)] [] Γ I L Q) (kf : ¬ (I v0 1) ≤ (I v0 8) → am_W m_X3_advance d mc ms al bc bs 19 [(0, .ref v0)] [] Γ I L Q) : am_W m_X3_advance d mc ms al bc bs 8 [(0, .ref v0)] [] Γ I L Q := by
  refine aw_aload_n dX3_advance_8 rfl ?_
  refine aw_getI dX3_advance_9 f_X3_46 o1 rfl ?_
  refine aw_aload_n dX3_advance_12 rfl ?_
  refine aw_getI dX3_advance_13 f_X3_27 o1 rfl ?_
  exact aw_icmp_ge dX3_advance_16 (by decide) kt kf
theorem bX3_advance_19 {d mc ms : Nat} {al : Bool} {bc bs : Nat} {Γ : am_G} {I : am_I} {L : am_L} {Q : am_Q} {v0 : Nat} {r2 : Nat} {n_r2 : Nat} (o1 : am_ob Γ v0 3) (g3 : Γ.2.2 v0 0 = some r2) (a4 : am_ar Γ r2 2 n_r2 0) (i5 : vp_in (I v0 8) n_r2) (kt : ¬ (I r2 ((I v0 8).toNatClampNeg)) = 32 → am_W m_X3_advance d mc ms al bc bs 46 [(0, .ref v0)] [] Γ I L Q) (kf : (I r2 ((I v0 8).toNatClampNeg)) = 32 → am_W m_X3_advance d mc ms al bc bs 33 [(0, .ref v0)] [] Γ I L Q) : am_W m_X3_advance d mc ms al bc bs 19 [(0, .ref v0)] [] Γ I L Q := by
  refine aw_aload_n dX3_advance_19 rfl ?_
  refine aw_getR dX3_advance_20 f_X3_9 o1 rfl g3 ?_
  refine aw_aload_n dX3_advance_23 rfl ?_
  refine aw_getI dX3_advance_24 f_X3_46 o1 rfl ?_
  refine aw_bald dX3_advance_27 a4 i5 ?_
  refine aw_bipush dX3_advance_28 cb_32 ?_
  exact aw_icmp_ne dX3_advance_30 (by decide) kt kf
theorem bX3_advance_33 {d mc ms : Nat} {al : Bool} {bc bs : Nat} {Γ : am_G} {I : am_I} {L : am_L} {Q : am_Q} {v0 : Nat} (o1 : am_ob Γ v0 3) (kk : am_W m_X3_advance d mc ms al bc bs 8 [(0, .ref v0)] [] Γ (am_u I v0 8 ((I v0 8) + 1)) L Q) : am_W m_X3_advance d mc ms al bc bs 33 [(0, .ref v0)] [] Γ I L Q := by
  refine aw_aload_n dX3_advance_33 rfl ?_
  refine aw_dup dX3_advance_34 rfl ?_
  refine aw_getI dX3_advance_35 f_X3_46 o1 rfl ?_
  refine aw_iconst dX3_advance_38 ci_1 ?_
  refine aw_iadd dX3_advance_39 ?_
  refine aw_putI dX3_advance_40 p_X3_46 o1 rfl ?_
  exact aw_goto dX3_advance_43 (by decide) kk
theorem bX3_advance_46 {d mc ms : Nat} {al : Bool} {bc bs : Nat} {Γ : am_G} {I : am_I} {L : am_L} {Q : am_Q} {v0 : Nat} (o1 : am_ob Γ v0 3) (kt : ((am_u I v0 9 (I v0 8)) v0 8) < ((am_u I v0 9 (I v0 8)) v0 1) → am_W m_X3_advance d mc ms al bc bs 71 [(0, .ref v0)] [] Γ (am_u I v0 9 (I v0 8)) L Q) (kf : ¬ ((am_u I v0 9 (I v0 8)) v0 8) < ((am_u I v0 9 (I v0 8)) v0 1) → am_W m_X3_advance d mc ms al bc bs 65 [(0, .ref v0)] [] Γ (am_u I v0 9 (I v0 8)) L Q) : am_W m_X3_advance d mc ms al bc bs 46 [(0, .ref v0)] [] Γ I L Q := by
  refine aw_aload_n dX3_advance_46 rfl ?_
  refine aw_aload_n dX3_advance_47 rfl ?_
  refine aw_getI dX3_advance_48 f_X3_46 o1 rfl ?_
  refine aw_putI dX3_advance_51 p_X3_40 o1 rfl ?_
  refine aw_aload_n dX3_advance_54 rfl ?_
  refine aw_getI dX3_advance_55 f_X3_46 o1 rfl ?_
  refine aw_aload_n dX3_advance_58 rfl ?_
  refine aw_getI dX3_advance_59 f_X3_27 o1 rfl ?_
  exact aw_icmp_lt dX3_advance_62 (by decide) kt kf
theorem bX3_advance_65 {d mc ms : Nat} {al : Bool} {bc bs : Nat} {Γ : am_G} {I : am_I} {L : am_L} {Q : am_Q} {v0 : Nat} (o1 : am_ob Γ v0 3) (hq : Q (.inl none) Γ (am_u I v0 7 3) L) : am_W m_X3_advance d mc ms al bc bs 65 [(0, .ref v0)] [] Γ I L Q := by
  refine aw_aload_n dX3_advance_65 rfl ?_
  refine aw_iconst dX3_advance_66 ci_3 ?_
  refine aw_putI dX3_advance_67 p_X3_49 o1 rfl ?_
  exact aw_vret dX3_advance_70 rfl hq
theorem bX3_advance_71 {d mc ms : Nat} {al : Bool} {bc bs : Nat} {Γ : am_G} {I : am_I} {L : am_L} {Q : am_Q} {v0 : Nat} {r2 : Nat} {n_r2 : Nat} {I' : am_I} {L' : am_L} {mc' : Nat} {ms' : Nat} {r : Int32} (o1 : am_ob Γ v0 3) (g3 : Γ.2.2 v0 0 = some r2) (a4 : am_ar Γ r2 2 n_r2 0) (i5 : vp_in (I v0 8) n_r2) (hbc : mc' ≤ bc) (hbs : ms' ≤ bs) (hC : am_E m_X3_kindOf d mc' ms' [.int (I r2 ((I v0 8).toNatClampNeg))] Γ I L (.inl (some (.int r))) I' L') (kk : am_W m_X3_advance (d + 1) mc ms al (bc - mc') (bs - ms') 84 [(0, .ref v0)] [.int r, .ref v0] Γ I' L' Q) : am_W m_X3_advance (d + 1) mc ms al bc bs 71 [(0, .ref v0)] [] Γ I L Q := by
  refine aw_aload_n dX3_advance_71 rfl ?_
  refine aw_aload_n dX3_advance_72 rfl ?_
  refine aw_getR dX3_advance_73 f_X3_9 o1 rfl g3 ?_
  refine aw_aload_n dX3_advance_76 rfl ?_
  refine aw_getI dX3_advance_77 f_X3_46 o1 rfl ?_
  refine aw_bald dX3_advance_80 a4 i5 ?_
  exact aw_askS (as := [.int (I r2 ((I v0 8).toNatClampNeg))]) (rst := [.ref v0]) k_X3_kindOf l_X3_52 t_X3_kindOf dX3_advance_81 rfl (Nat.le_of_ble_eq_true rfl) hbc hbs hC rfl rfl kk
theorem bX3_advance_84 {d mc ms : Nat} {al : Bool} {bc bs : Nat} {Γ : am_G} {I : am_I} {L : am_L} {Q : am_Q} {v0 : Nat} {w0 : Nat} {w1 : Int32} (o1 : am_ob Γ w0 3) (o2 : am_ob Γ v0 3) (kt : ¬ ((am_u (am_u I w0 7 w1) v0 9 (((am_u I w0 7 w1) v0 9) + 1)) v0 7) = 0 → am_W m_X3_advance d mc ms al bc bs 111 [(0, .ref v0)] [] Γ (am_u (am_u I w0 7 w1) v0 9 (((am_u I w0 7 w1) v0 9) + 1)) L Q) (kf : ((am_u (am_u I w0 7 w1) v0 9 (((am_u I w0 7 w1) v0 9) + 1)) v0 7) = 0 → am_W m_X3_advance d mc ms al bc bs 104 [(0, .ref v0)] [] Γ (am_u (am_u I w0 7 w1) v0 9 (((am_u I w0 7 w1) v0 9) + 1)) L Q) : am_W m_X3_advance d mc ms al bc bs 84 [(0, .ref v0)] [.int w1, .ref w0] Γ I L Q := by
  refine aw_putI dX3_advance_84 p_X3_49 o1 rfl ?_
  refine aw_aload_n dX3_advance_87 rfl ?_
  refine aw_dup dX3_advance_88 rfl ?_
  refine aw_getI dX3_advance_89 f_X3_40 o2 rfl ?_
  refine aw_iconst dX3_advance_92 ci_1 ?_
  refine aw_iadd dX3_advance_93 ?_
  refine aw_putI dX3_advance_94 p_X3_40 o2 rfl ?_
  refine aw_aload_n dX3_advance_97 rfl ?_
  refine aw_getI dX3_advance_98 f_X3_49 o2 rfl ?_
  exact aw_if_ne dX3_advance_101 (by decide) kt kf
theorem bX3_advance_104 {d mc ms : Nat} {al : Bool} {bc bs : Nat} {Γ : am_G} {I : am_I} {L : am_L} {Q : am_Q} {v0 : Nat} {I' : am_I} {L' : am_L} {mc' : Nat} {ms' : Nat} (o1 : am_ob Γ v0 3) (hbc : mc' ≤ bc) (hbs : ms' ≤ bs) (hC : am_E m_X3_readLetters d mc' ms' [.ref v0] Γ I L (.inl none) I' L') (kk : am_W m_X3_advance (d + 1) mc ms al (bc - mc') (bs - ms') 108 [(0, .ref v0)] [] Γ I' L' Q) : am_W m_X3_advance (d + 1) mc ms al bc bs 104 [(0, .ref v0)] [] Γ I L Q := by
  refine aw_aload_n dX3_advance_104 rfl ?_
  exact aw_askV (as := []) (rst := []) k_X3_readLetters l_X3_56 i_X3_readLetters s_X3_readLetters rfl o1 dX3_advance_105 rfl (Nat.le_of_ble_eq_true rfl) hbc hbs hC rfl rfl kk
theorem bX3_advance_108 {d mc ms : Nat} {al : Bool} {bc bs : Nat} {Γ : am_G} {I : am_I} {L : am_L} {Q : am_Q} {v0 : Nat} (kk : am_W m_X3_advance d mc ms al bc bs 123 [(0, .ref v0)] [] Γ I L Q) : am_W m_X3_advance d mc ms al bc bs 108 [(0, .ref v0)] [] Γ I L Q := by
  exact aw_goto dX3_advance_108 (by decide) kk
theorem bX3_advance_111 {d mc ms : Nat} {al : Bool} {bc bs : Nat} {Γ : am_G} {I : am_I} {L : am_L} {Q : am_Q} {v0 : Nat} (o1 : am_ob Γ v0 3) (kt : ¬ (I v0 7) = 1 → am_W m_X3_advance d mc ms al bc bs 123 [(0, .ref v0)] [] Γ I L Q) (kf : (I v0 7) = 1 → am_W m_X3_advance d mc ms al bc bs 119 [(0, .ref v0)] [] Γ I L Q) : am_W m_X3_advance d mc ms al bc bs 111 [(0, .ref v0)] [] Γ I L Q := by
  refine aw_aload_n dX3_advance_111 rfl ?_
  refine aw_getI dX3_advance_112 f_X3_49 o1 rfl ?_
  refine aw_iconst dX3_advance_115 ci_1 ?_
  exact aw_icmp_ne dX3_advance_116 (by decide) kt kf
theorem bX3_advance_119 {d mc ms : Nat} {al : Bool} {bc bs : Nat} {Γ : am_G} {I : am_I} {L : am_L} {Q : am_Q} {v0 : Nat} {I' : am_I} {L' : am_L} {mc' : Nat} {ms' : Nat} (o1 : am_ob Γ v0 3) (hbc : mc' ≤ bc) (hbs : ms' ≤ bs) (hC : am_E m_X3_readDigits d mc' ms' [.ref v0] Γ I L (.inl none) I' L') (kk : am_W m_X3_advance (d + 1) mc ms al (bc - mc') (bs - ms') 123 [(0, .ref v0)] [] Γ I' L' Q) : am_W m_X3_advance (d + 1) mc ms al bc bs 119 [(0, .ref v0)] [] Γ I L Q := by
  refine aw_aload_n dX3_advance_119 rfl ?_
  exact aw_askV (as := []) (rst := []) k_X3_readDigits l_X3_59 i_X3_readDigits s_X3_readDigits rfl o1 dX3_advance_120 rfl (Nat.le_of_ble_eq_true rfl) hbc hbs hC rfl rfl kk
theorem bX3_advance_123 {d mc ms : Nat} {al : Bool} {bc bs : Nat} {Γ : am_G} {I : am_I} {L : am_L} {Q : am_Q} {v0 : Nat} (hq : Q (.inl none) Γ I L) : am_W m_X3_advance d mc ms al bc bs 123 [(0, .ref v0)] [] Γ I L Q := by
  exact aw_vret dX3_advance_123 rfl hq
theorem dX3_kindOf_0 : decode cX3_kindOf 0 = .ok (.bipush 97, 2) := by decide +kernel
theorem dX3_kindOf_2 : decode cX3_kindOf 2 = .ok (.iload_n 0, 1) := by decide +kernel
theorem dX3_kindOf_3 : decode cX3_kindOf 3 = .ok (.if_icmp .gt 11, 3) := by decide +kernel
theorem dX3_kindOf_6 : decode cX3_kindOf 6 = .ok (.iload_n 0, 1) := by decide +kernel
theorem dX3_kindOf_7 : decode cX3_kindOf 7 = .ok (.bipush 122, 2) := by decide +kernel
theorem dX3_kindOf_9 : decode cX3_kindOf 9 = .ok (.if_icmp .gt 5, 3) := by decide +kernel
theorem dX3_kindOf_12 : decode cX3_kindOf 12 = .ok (.iconst 0, 1) := by decide +kernel
theorem dX3_kindOf_13 : decode cX3_kindOf 13 = .ok (.ireturn, 1) := by decide +kernel
theorem dX3_kindOf_14 : decode cX3_kindOf 14 = .ok (.bipush 48, 2) := by decide +kernel
theorem dX3_kindOf_16 : decode cX3_kindOf 16 = .ok (.iload_n 0, 1) := by decide +kernel
theorem dX3_kindOf_17 : decode cX3_kindOf 17 = .ok (.if_icmp .gt 11, 3) := by decide +kernel
theorem dX3_kindOf_20 : decode cX3_kindOf 20 = .ok (.iload_n 0, 1) := by decide +kernel
theorem dX3_kindOf_21 : decode cX3_kindOf 21 = .ok (.bipush 57, 2) := by decide +kernel
theorem dX3_kindOf_23 : decode cX3_kindOf 23 = .ok (.if_icmp .gt 5, 3) := by decide +kernel
theorem dX3_kindOf_26 : decode cX3_kindOf 26 = .ok (.iconst 1, 1) := by decide +kernel
theorem dX3_kindOf_27 : decode cX3_kindOf 27 = .ok (.ireturn, 1) := by decide +kernel
theorem dX3_kindOf_28 : decode cX3_kindOf 28 = .ok (.iload_n 0, 1) := by decide +kernel
theorem dX3_kindOf_29 : decode cX3_kindOf 29 = .ok (.bipush 59, 2) := by decide +kernel
theorem dX3_kindOf_31 : decode cX3_kindOf 31 = .ok (.if_icmp .ne 7, 3) := by decide +kernel
theorem dX3_kindOf_34 : decode cX3_kindOf 34 = .ok (.iconst 2, 1) := by decide +kernel
theorem dX3_kindOf_35 : decode cX3_kindOf 35 = .ok (.goto 4, 3) := by decide +kernel
theorem dX3_kindOf_38 : decode cX3_kindOf 38 = .ok (.iconst 4, 1) := by decide +kernel
theorem dX3_kindOf_39 : decode cX3_kindOf 39 = .ok (.ireturn, 1) := by decide +kernel
theorem bX3_kindOf_0 {d mc ms : Nat} {al : Bool} {bc bs : Nat} {Γ : am_G} {I : am_I} {L : am_L} {Q : am_Q} {v0 : Int32} (kt : v0 < 97 → am_W m_X3_kindOf d mc ms al bc bs 14 [(0, .int v0)] [] Γ I L Q) (kf : ¬ v0 < 97 → am_W m_X3_kindOf d mc ms al bc bs 6 [(0, .int v0)] [] Γ I L Q) : am_W m_X3_kindOf d mc ms al bc bs 0 [(0, .int v0)] [] Γ I L Q := by
  refine aw_bipush dX3_kindOf_0 cb_97 ?_
  refine aw_iload_n dX3_kindOf_2 rfl ?_
  exact aw_icmp_gt dX3_kindOf_3 (by decide) kt kf
theorem bX3_kindOf_6 {d mc ms : Nat} {al : Bool} {bc bs : Nat} {Γ : am_G} {I : am_I} {L : am_L} {Q : am_Q} {v0 : Int32} (kt : 122 < v0 → am_W m_X3_kindOf d mc ms al bc bs 14 [(0, .int v0)] [] Γ I L Q) (kf : ¬ 122 < v0 → am_W m_X3_kindOf d mc ms al bc bs 12 [(0, .int v0)] [] Γ I L Q) : am_W m_X3_kindOf d mc ms al bc bs 6 [(0, .int v0)] [] Γ I L Q := by
  refine aw_iload_n dX3_kindOf_6 rfl ?_
  refine aw_bipush dX3_kindOf_7 cb_122 ?_
  exact aw_icmp_gt dX3_kindOf_9 (by decide) kt kf
theorem bX3_kindOf_12 {d mc ms : Nat} {al : Bool} {bc bs : Nat} {Γ : am_G} {I : am_I} {L : am_L} {Q : am_Q} {v0 : Int32} (hq : Q (.inl (some (.int 0))) Γ I L) : am_W m_X3_kindOf d mc ms al bc bs 12 [(0, .int v0)] [] Γ I L Q := by
  refine aw_iconst dX3_kindOf_12 ci_0 ?_
  exact aw_iret dX3_kindOf_13 rfl hq
theorem bX3_kindOf_14 {d mc ms : Nat} {al : Bool} {bc bs : Nat} {Γ : am_G} {I : am_I} {L : am_L} {Q : am_Q} {v0 : Int32} (kt : v0 < 48 → am_W m_X3_kindOf d mc ms al bc bs 28 [(0, .int v0)] [] Γ I L Q) (kf : ¬ v0 < 48 → am_W m_X3_kindOf d mc ms al bc bs 20 [(0, .int v0)] [] Γ I L Q) : am_W m_X3_kindOf d mc ms al bc bs 14 [(0, .int v0)] [] Γ I L Q := by
  refine aw_bipush dX3_kindOf_14 cb_48 ?_
  refine aw_iload_n dX3_kindOf_16 rfl ?_
  exact aw_icmp_gt dX3_kindOf_17 (by decide) kt kf
theorem bX3_kindOf_20 {d mc ms : Nat} {al : Bool} {bc bs : Nat} {Γ : am_G} {I : am_I} {L : am_L} {Q : am_Q} {v0 : Int32} (kt : 57 < v0 → am_W m_X3_kindOf d mc ms al bc bs 28 [(0, .int v0)] [] Γ I L Q) (kf : ¬ 57 < v0 → am_W m_X3_kindOf d mc ms al bc bs 26 [(0, .int v0)] [] Γ I L Q) : am_W m_X3_kindOf d mc ms al bc bs 20 [(0, .int v0)] [] Γ I L Q := by
  refine aw_iload_n dX3_kindOf_20 rfl ?_
  refine aw_bipush dX3_kindOf_21 cb_57 ?_
  exact aw_icmp_gt dX3_kindOf_23 (by decide) kt kf
theorem bX3_kindOf_26 {d mc ms : Nat} {al : Bool} {bc bs : Nat} {Γ : am_G} {I : am_I} {L : am_L} {Q : am_Q} {v0 : Int32} (hq : Q (.inl (some (.int 1))) Γ I L) : am_W m_X3_kindOf d mc ms al bc bs 26 [(0, .int v0)] [] Γ I L Q := by
  refine aw_iconst dX3_kindOf_26 ci_1 ?_
  exact aw_iret dX3_kindOf_27 rfl hq
theorem bX3_kindOf_28 {d mc ms : Nat} {al : Bool} {bc bs : Nat} {Γ : am_G} {I : am_I} {L : am_L} {Q : am_Q} {v0 : Int32} (kt : ¬ v0 = 59 → am_W m_X3_kindOf d mc ms al bc bs 38 [(0, .int v0)] [] Γ I L Q) (kf : v0 = 59 → am_W m_X3_kindOf d mc ms al bc bs 34 [(0, .int v0)] [] Γ I L Q) : am_W m_X3_kindOf d mc ms al bc bs 28 [(0, .int v0)] [] Γ I L Q := by
  refine aw_iload_n dX3_kindOf_28 rfl ?_
  refine aw_bipush dX3_kindOf_29 cb_59 ?_
  exact aw_icmp_ne dX3_kindOf_31 (by decide) kt kf
theorem bX3_kindOf_34 {d mc ms : Nat} {al : Bool} {bc bs : Nat} {Γ : am_G} {I : am_I} {L : am_L} {Q : am_Q} {v0 : Int32} (kk : am_W m_X3_kindOf d mc ms al bc bs 39 [(0, .int v0)] [.int 2] Γ I L Q) : am_W m_X3_kindOf d mc ms al bc bs 34 [(0, .int v0)] [] Γ I L Q := by
  refine aw_iconst dX3_kindOf_34 ci_2 ?_
  exact aw_goto dX3_kindOf_35 (by decide) kk
theorem bX3_kindOf_38 {d mc ms : Nat} {al : Bool} {bc bs : Nat} {Γ : am_G} {I : am_I} {L : am_L} {Q : am_Q} {v0 : Int32} (kk : am_W m_X3_kindOf d mc ms al bc bs 39 [(0, .int v0)] [.int 4] Γ I L Q) : am_W m_X3_kindOf d mc ms al bc bs 38 [(0, .int v0)] [] Γ I L Q := by
  refine aw_iconst dX3_kindOf_38 ci_4 ?_
  exact kk
theorem bX3_kindOf_39 {d mc ms : Nat} {al : Bool} {bc bs : Nat} {Γ : am_G} {I : am_I} {L : am_L} {Q : am_Q} {v0 : Int32} {w0 : Int32} (hq : Q (.inl (some (.int w0))) Γ I L) : am_W m_X3_kindOf d mc ms al bc bs 39 [(0, .int v0)] [.int w0] Γ I L Q := by
  exact aw_iret dX3_kindOf_39 rfl hq
theorem dX3_readLetters_0 : decode cX3_readLetters 0 = .ok (.aload_n 0, 1) := by decide +kernel
theorem dX3_readLetters_1 : decode cX3_readLetters 1 = .ok (.lconst 0, 1) := by decide +kernel
theorem dX3_readLetters_2 : decode cX3_readLetters 2 = .ok (.putfield 62, 3) := by decide +kernel
theorem dX3_readLetters_5 : decode cX3_readLetters 5 = .ok (.aload_n 0, 1) := by decide +kernel
theorem dX3_readLetters_6 : decode cX3_readLetters 6 = .ok (.aload_n 0, 1) := by decide +kernel
theorem dX3_readLetters_7 : decode cX3_readLetters 7 = .ok (.getfield 46, 3) := by decide +kernel
theorem dX3_readLetters_10 : decode cX3_readLetters 10 = .ok (.putfield 40, 3) := by decide +kernel
theorem dX3_readLetters_13 : decode cX3_readLetters 13 = .ok (.aload_n 0, 1) := by decide +kernel
theorem dX3_readLetters_14 : decode cX3_readLetters 14 = .ok (.getfield 40, 3) := by decide +kernel
theorem dX3_readLetters_17 : decode cX3_readLetters 17 = .ok (.aload_n 0, 1) := by decide +kernel
theorem dX3_readLetters_18 : decode cX3_readLetters 18 = .ok (.getfield 27, 3) := by decide +kernel
theorem dX3_readLetters_21 : decode cX3_readLetters 21 = .ok (.if_icmp .ge 90, 3) := by decide +kernel
theorem dX3_readLetters_24 : decode cX3_readLetters 24 = .ok (.bipush 97, 2) := by decide +kernel
theorem dX3_readLetters_26 : decode cX3_readLetters 26 = .ok (.aload_n 0, 1) := by decide +kernel
theorem dX3_readLetters_27 : decode cX3_readLetters 27 = .ok (.getfield 9, 3) := by decide +kernel
theorem dX3_readLetters_30 : decode cX3_readLetters 30 = .ok (.aload_n 0, 1) := by decide +kernel
theorem dX3_readLetters_31 : decode cX3_readLetters 31 = .ok (.getfield 40, 3) := by decide +kernel
theorem dX3_readLetters_34 : decode cX3_readLetters 34 = .ok (.baload, 1) := by decide +kernel
theorem dX3_readLetters_35 : decode cX3_readLetters 35 = .ok (.if_icmp .gt 76, 3) := by decide +kernel
theorem dX3_readLetters_38 : decode cX3_readLetters 38 = .ok (.aload_n 0, 1) := by decide +kernel
theorem dX3_readLetters_39 : decode cX3_readLetters 39 = .ok (.getfield 9, 3) := by decide +kernel
theorem dX3_readLetters_42 : decode cX3_readLetters 42 = .ok (.aload_n 0, 1) := by decide +kernel
theorem dX3_readLetters_43 : decode cX3_readLetters 43 = .ok (.getfield 40, 3) := by decide +kernel
theorem dX3_readLetters_46 : decode cX3_readLetters 46 = .ok (.baload, 1) := by decide +kernel
theorem dX3_readLetters_47 : decode cX3_readLetters 47 = .ok (.bipush 122, 2) := by decide +kernel
theorem dX3_readLetters_49 : decode cX3_readLetters 49 = .ok (.if_icmp .gt 62, 3) := by decide +kernel
theorem dX3_readLetters_52 : decode cX3_readLetters 52 = .ok (.aload_n 0, 1) := by decide +kernel
theorem dX3_readLetters_53 : decode cX3_readLetters 53 = .ok (.getfield 40, 3) := by decide +kernel
theorem dX3_readLetters_56 : decode cX3_readLetters 56 = .ok (.aload_n 0, 1) := by decide +kernel
theorem dX3_readLetters_57 : decode cX3_readLetters 57 = .ok (.getfield 46, 3) := by decide +kernel
theorem dX3_readLetters_60 : decode cX3_readLetters 60 = .ok (.isub, 1) := by decide +kernel
theorem dX3_readLetters_61 : decode cX3_readLetters 61 = .ok (.bipush 6, 2) := by decide +kernel
theorem dX3_readLetters_63 : decode cX3_readLetters 63 = .ok (.if_icmp .ge 35, 3) := by decide +kernel
theorem dX3_readLetters_66 : decode cX3_readLetters 66 = .ok (.aload_n 0, 1) := by decide +kernel
theorem dX3_readLetters_67 : decode cX3_readLetters 67 = .ok (.dup, 1) := by decide +kernel
theorem dX3_readLetters_68 : decode cX3_readLetters 68 = .ok (.getfield 62, 3) := by decide +kernel
theorem dX3_readLetters_71 : decode cX3_readLetters 71 = .ok (.aload_n 0, 1) := by decide +kernel
theorem dX3_readLetters_72 : decode cX3_readLetters 72 = .ok (.getfield 9, 3) := by decide +kernel
theorem dX3_readLetters_75 : decode cX3_readLetters 75 = .ok (.aload_n 0, 1) := by decide +kernel
theorem dX3_readLetters_76 : decode cX3_readLetters 76 = .ok (.getfield 40, 3) := by decide +kernel
theorem dX3_readLetters_79 : decode cX3_readLetters 79 = .ok (.baload, 1) := by decide +kernel
theorem dX3_readLetters_80 : decode cX3_readLetters 80 = .ok (.i2l, 1) := by decide +kernel
theorem dX3_readLetters_81 : decode cX3_readLetters 81 = .ok (.bipush 8, 2) := by decide +kernel
theorem dX3_readLetters_83 : decode cX3_readLetters 83 = .ok (.aload_n 0, 1) := by decide +kernel
theorem dX3_readLetters_84 : decode cX3_readLetters 84 = .ok (.getfield 40, 3) := by decide +kernel
theorem dX3_readLetters_87 : decode cX3_readLetters 87 = .ok (.aload_n 0, 1) := by decide +kernel
theorem dX3_readLetters_88 : decode cX3_readLetters 88 = .ok (.getfield 46, 3) := by decide +kernel
theorem dX3_readLetters_91 : decode cX3_readLetters 91 = .ok (.isub, 1) := by decide +kernel
theorem dX3_readLetters_92 : decode cX3_readLetters 92 = .ok (.imul, 1) := by decide +kernel
theorem dX3_readLetters_93 : decode cX3_readLetters 93 = .ok (.lshl, 1) := by decide +kernel
theorem dX3_readLetters_94 : decode cX3_readLetters 94 = .ok (.lor, 1) := by decide +kernel
theorem dX3_readLetters_95 : decode cX3_readLetters 95 = .ok (.putfield 62, 3) := by decide +kernel
theorem dX3_readLetters_98 : decode cX3_readLetters 98 = .ok (.aload_n 0, 1) := by decide +kernel
theorem dX3_readLetters_99 : decode cX3_readLetters 99 = .ok (.dup, 1) := by decide +kernel
theorem dX3_readLetters_100 : decode cX3_readLetters 100 = .ok (.getfield 40, 3) := by decide +kernel
theorem dX3_readLetters_103 : decode cX3_readLetters 103 = .ok (.iconst 1, 1) := by decide +kernel
theorem dX3_readLetters_104 : decode cX3_readLetters 104 = .ok (.iadd, 1) := by decide +kernel
theorem dX3_readLetters_105 : decode cX3_readLetters 105 = .ok (.putfield 40, 3) := by decide +kernel
theorem dX3_readLetters_108 : decode cX3_readLetters 108 = .ok (.goto (-95), 3) := by decide +kernel
theorem dX3_readLetters_111 : decode cX3_readLetters 111 = .ok (.return_, 1) := by decide +kernel
theorem bX3_readLetters_0 {d mc ms : Nat} {al : Bool} {bc bs : Nat} {Γ : am_G} {I : am_I} {L : am_L} {Q : am_Q} {v0 : Nat} (o1 : am_ob Γ v0 3) (kk : am_W m_X3_readLetters d mc ms al bc bs 13 [(0, .ref v0)] [] Γ (am_u I v0 9 (I v0 8)) (am_ul L v0 10 0) Q) : am_W m_X3_readLetters d mc ms al bc bs 0 [(0, .ref v0)] [] Γ I L Q := by
  refine aw_aload_n dX3_readLetters_0 rfl ?_
  refine aw_lconst dX3_readLetters_1 cL_0 ?_
  refine aw_putL dX3_readLetters_2 p_X3_62 o1 rfl ?_
  refine aw_aload_n dX3_readLetters_5 rfl ?_
  refine aw_aload_n dX3_readLetters_6 rfl ?_
  refine aw_getI dX3_readLetters_7 f_X3_46 o1 rfl ?_
  refine aw_putI dX3_readLetters_10 p_X3_40 o1 rfl ?_
  exact kk
theorem bX3_readLetters_13 {d mc ms : Nat} {al : Bool} {bc bs : Nat} {Γ : am_G} {I : am_I} {L : am_L} {Q : am_Q} {v0 : Nat} (o1 : am_ob Γ v0 3) (kt : (I v0 1) ≤ (I v0 9) → am_W m_X3_readLetters d mc ms al bc bs 111 [(0, .ref v0)] [] Γ I L Q) (kf : ¬ (I v0 1) ≤ (I v0 9) → am_W m_X3_readLetters d mc ms al bc bs 24 [(0, .ref v0)] [] Γ I L Q) : am_W m_X3_readLetters d mc ms al bc bs 13 [(0, .ref v0)] [] Γ I L Q := by
  refine aw_aload_n dX3_readLetters_13 rfl ?_
  refine aw_getI dX3_readLetters_14 f_X3_40 o1 rfl ?_
  refine aw_aload_n dX3_readLetters_17 rfl ?_
  refine aw_getI dX3_readLetters_18 f_X3_27 o1 rfl ?_
  exact aw_icmp_ge dX3_readLetters_21 (by decide) kt kf
theorem bX3_readLetters_24 {d mc ms : Nat} {al : Bool} {bc bs : Nat} {Γ : am_G} {I : am_I} {L : am_L} {Q : am_Q} {v0 : Nat} {r2 : Nat} {n_r2 : Nat} (o1 : am_ob Γ v0 3) (g3 : Γ.2.2 v0 0 = some r2) (a4 : am_ar Γ r2 2 n_r2 0) (i5 : vp_in (I v0 9) n_r2) (kt : (I r2 ((I v0 9).toNatClampNeg)) < 97 → am_W m_X3_readLetters d mc ms al bc bs 111 [(0, .ref v0)] [] Γ I L Q) (kf : ¬ (I r2 ((I v0 9).toNatClampNeg)) < 97 → am_W m_X3_readLetters d mc ms al bc bs 38 [(0, .ref v0)] [] Γ I L Q) : am_W m_X3_readLetters d mc ms al bc bs 24 [(0, .ref v0)] [] Γ I L Q := by
  refine aw_bipush dX3_readLetters_24 cb_97 ?_
  refine aw_aload_n dX3_readLetters_26 rfl ?_
  refine aw_getR dX3_readLetters_27 f_X3_9 o1 rfl g3 ?_
  refine aw_aload_n dX3_readLetters_30 rfl ?_
  refine aw_getI dX3_readLetters_31 f_X3_40 o1 rfl ?_
  refine aw_bald dX3_readLetters_34 a4 i5 ?_
  exact aw_icmp_gt dX3_readLetters_35 (by decide) kt kf
theorem bX3_readLetters_38 {d mc ms : Nat} {al : Bool} {bc bs : Nat} {Γ : am_G} {I : am_I} {L : am_L} {Q : am_Q} {v0 : Nat} {r2 : Nat} {n_r2 : Nat} (o1 : am_ob Γ v0 3) (g3 : Γ.2.2 v0 0 = some r2) (a4 : am_ar Γ r2 2 n_r2 0) (i5 : vp_in (I v0 9) n_r2) (kt : 122 < (I r2 ((I v0 9).toNatClampNeg)) → am_W m_X3_readLetters d mc ms al bc bs 111 [(0, .ref v0)] [] Γ I L Q) (kf : ¬ 122 < (I r2 ((I v0 9).toNatClampNeg)) → am_W m_X3_readLetters d mc ms al bc bs 52 [(0, .ref v0)] [] Γ I L Q) : am_W m_X3_readLetters d mc ms al bc bs 38 [(0, .ref v0)] [] Γ I L Q := by
  refine aw_aload_n dX3_readLetters_38 rfl ?_
  refine aw_getR dX3_readLetters_39 f_X3_9 o1 rfl g3 ?_
  refine aw_aload_n dX3_readLetters_42 rfl ?_
  refine aw_getI dX3_readLetters_43 f_X3_40 o1 rfl ?_
  refine aw_bald dX3_readLetters_46 a4 i5 ?_
  refine aw_bipush dX3_readLetters_47 cb_122 ?_
  exact aw_icmp_gt dX3_readLetters_49 (by decide) kt kf
theorem bX3_readLetters_52 {d mc ms : Nat} {al : Bool} {bc bs : Nat} {Γ : am_G} {I : am_I} {L : am_L} {Q : am_Q} {v0 : Nat} (o1 : am_ob Γ v0 3) (kt : 6 ≤ ((I v0 9) - (I v0 8)) → am_W m_X3_readLetters d mc ms al bc bs 98 [(0, .ref v0)] [] Γ I L Q) (kf : ¬ 6 ≤ ((I v0 9) - (I v0 8)) → am_W m_X3_readLetters d mc ms al bc bs 66 [(0, .ref v0)] [] Γ I L Q) : am_W m_X3_readLetters d mc ms al bc bs 52 [(0, .ref v0)] [] Γ I L Q := by
  refine aw_aload_n dX3_readLetters_52 rfl ?_
  refine aw_getI dX3_readLetters_53 f_X3_40 o1 rfl ?_
  refine aw_aload_n dX3_readLetters_56 rfl ?_
  refine aw_getI dX3_readLetters_57 f_X3_46 o1 rfl ?_
  refine aw_isub dX3_readLetters_60 ?_
  refine aw_bipush dX3_readLetters_61 cb_6 ?_
  exact aw_icmp_ge dX3_readLetters_63 (by decide) kt kf
theorem bX3_readLetters_66 {d mc ms : Nat} {al : Bool} {bc bs : Nat} {Γ : am_G} {I : am_I} {L : am_L} {Q : am_Q} {v0 : Nat} {r2 : Nat} {n_r2 : Nat} (o1 : am_ob Γ v0 3) (g3 : Γ.2.2 v0 0 = some r2) (a4 : am_ar Γ r2 2 n_r2 0) (i5 : vp_in (I v0 9) n_r2) (kk : am_W m_X3_readLetters d mc ms al bc bs 98 [(0, .ref v0)] [] Γ I (am_ul L v0 10 ((L v0 10) ||| ((((I r2 ((I v0 9).toNatClampNeg)) : Int32).toInt64) <<< (((8 * ((I v0 9) - (I v0 8))) : Int32).toInt64 &&& 63)))) Q) : am_W m_X3_readLetters d mc ms al bc bs 66 [(0, .ref v0)] [] Γ I L Q := by
  refine aw_aload_n dX3_readLetters_66 rfl ?_
  refine aw_dup dX3_readLetters_67 rfl ?_
  refine aw_getL dX3_readLetters_68 f_X3_62 o1 rfl ?_
  refine aw_aload_n dX3_readLetters_71 rfl ?_
  refine aw_getR dX3_readLetters_72 f_X3_9 o1 rfl g3 ?_
  refine aw_aload_n dX3_readLetters_75 rfl ?_
  refine aw_getI dX3_readLetters_76 f_X3_40 o1 rfl ?_
  refine aw_bald dX3_readLetters_79 a4 i5 ?_
  refine aw_i2l dX3_readLetters_80 ?_
  refine aw_bipush dX3_readLetters_81 cb_8 ?_
  refine aw_aload_n dX3_readLetters_83 rfl ?_
  refine aw_getI dX3_readLetters_84 f_X3_40 o1 rfl ?_
  refine aw_aload_n dX3_readLetters_87 rfl ?_
  refine aw_getI dX3_readLetters_88 f_X3_46 o1 rfl ?_
  refine aw_isub dX3_readLetters_91 ?_
  refine aw_imul dX3_readLetters_92 ?_
  refine aw_lshl dX3_readLetters_93 ?_
  refine aw_lor dX3_readLetters_94 ?_
  refine aw_putL dX3_readLetters_95 p_X3_62 o1 rfl ?_
  exact kk
theorem bX3_readLetters_98 {d mc ms : Nat} {al : Bool} {bc bs : Nat} {Γ : am_G} {I : am_I} {L : am_L} {Q : am_Q} {v0 : Nat} (o1 : am_ob Γ v0 3) (kk : am_W m_X3_readLetters d mc ms al bc bs 13 [(0, .ref v0)] [] Γ (am_u I v0 9 ((I v0 9) + 1)) L Q) : am_W m_X3_readLetters d mc ms al bc bs 98 [(0, .ref v0)] [] Γ I L Q := by
  refine aw_aload_n dX3_readLetters_98 rfl ?_
  refine aw_dup dX3_readLetters_99 rfl ?_
  refine aw_getI dX3_readLetters_100 f_X3_40 o1 rfl ?_
  refine aw_iconst dX3_readLetters_103 ci_1 ?_
  refine aw_iadd dX3_readLetters_104 ?_
  refine aw_putI dX3_readLetters_105 p_X3_40 o1 rfl ?_
  exact aw_goto dX3_readLetters_108 (by decide) kk
theorem bX3_readLetters_111 {d mc ms : Nat} {al : Bool} {bc bs : Nat} {Γ : am_G} {I : am_I} {L : am_L} {Q : am_Q} {v0 : Nat} (hq : Q (.inl none) Γ I L) : am_W m_X3_readLetters d mc ms al bc bs 111 [(0, .ref v0)] [] Γ I L Q := by
  exact aw_vret dX3_readLetters_111 rfl hq
theorem dX3_readDigits_0 : decode cX3_readDigits 0 = .ok (.aload_n 0, 1) := by decide +kernel
theorem dX3_readDigits_1 : decode cX3_readDigits 1 = .ok (.iconst 0, 1) := by decide +kernel
theorem dX3_readDigits_2 : decode cX3_readDigits 2 = .ok (.putfield 66, 3) := by decide +kernel
theorem dX3_readDigits_5 : decode cX3_readDigits 5 = .ok (.aload_n 0, 1) := by decide +kernel
theorem dX3_readDigits_6 : decode cX3_readDigits 6 = .ok (.aload_n 0, 1) := by decide +kernel
theorem dX3_readDigits_7 : decode cX3_readDigits 7 = .ok (.getfield 46, 3) := by decide +kernel
theorem dX3_readDigits_10 : decode cX3_readDigits 10 = .ok (.putfield 40, 3) := by decide +kernel
theorem dX3_readDigits_13 : decode cX3_readDigits 13 = .ok (.aload_n 0, 1) := by decide +kernel
theorem dX3_readDigits_14 : decode cX3_readDigits 14 = .ok (.getfield 40, 3) := by decide +kernel
theorem dX3_readDigits_17 : decode cX3_readDigits 17 = .ok (.aload_n 0, 1) := by decide +kernel
theorem dX3_readDigits_18 : decode cX3_readDigits 18 = .ok (.getfield 27, 3) := by decide +kernel
theorem dX3_readDigits_21 : decode cX3_readDigits 21 = .ok (.if_icmp .ge 77, 3) := by decide +kernel
theorem dX3_readDigits_24 : decode cX3_readDigits 24 = .ok (.bipush 48, 2) := by decide +kernel
theorem dX3_readDigits_26 : decode cX3_readDigits 26 = .ok (.aload_n 0, 1) := by decide +kernel
theorem dX3_readDigits_27 : decode cX3_readDigits 27 = .ok (.getfield 9, 3) := by decide +kernel
theorem dX3_readDigits_30 : decode cX3_readDigits 30 = .ok (.aload_n 0, 1) := by decide +kernel
theorem dX3_readDigits_31 : decode cX3_readDigits 31 = .ok (.getfield 40, 3) := by decide +kernel
theorem dX3_readDigits_34 : decode cX3_readDigits 34 = .ok (.baload, 1) := by decide +kernel
theorem dX3_readDigits_35 : decode cX3_readDigits 35 = .ok (.if_icmp .gt 63, 3) := by decide +kernel
theorem dX3_readDigits_38 : decode cX3_readDigits 38 = .ok (.aload_n 0, 1) := by decide +kernel
theorem dX3_readDigits_39 : decode cX3_readDigits 39 = .ok (.getfield 9, 3) := by decide +kernel
theorem dX3_readDigits_42 : decode cX3_readDigits 42 = .ok (.aload_n 0, 1) := by decide +kernel
theorem dX3_readDigits_43 : decode cX3_readDigits 43 = .ok (.getfield 40, 3) := by decide +kernel
theorem dX3_readDigits_46 : decode cX3_readDigits 46 = .ok (.baload, 1) := by decide +kernel
theorem dX3_readDigits_47 : decode cX3_readDigits 47 = .ok (.bipush 57, 2) := by decide +kernel
theorem dX3_readDigits_49 : decode cX3_readDigits 49 = .ok (.if_icmp .gt 49, 3) := by decide +kernel
theorem dX3_readDigits_52 : decode cX3_readDigits 52 = .ok (.aload_n 0, 1) := by decide +kernel
theorem dX3_readDigits_53 : decode cX3_readDigits 53 = .ok (.getfield 66, 3) := by decide +kernel
theorem dX3_readDigits_56 : decode cX3_readDigits 56 = .ok (.ldc 69, 2) := by decide +kernel
theorem dX3_readDigits_58 : decode cX3_readDigits 58 = .ok (.if_icmp .ge 27, 3) := by decide +kernel
theorem dX3_readDigits_61 : decode cX3_readDigits 61 = .ok (.aload_n 0, 1) := by decide +kernel
theorem dX3_readDigits_62 : decode cX3_readDigits 62 = .ok (.aload_n 0, 1) := by decide +kernel
theorem dX3_readDigits_63 : decode cX3_readDigits 63 = .ok (.getfield 66, 3) := by decide +kernel
theorem dX3_readDigits_66 : decode cX3_readDigits 66 = .ok (.bipush 10, 2) := by decide +kernel
theorem dX3_readDigits_68 : decode cX3_readDigits 68 = .ok (.imul, 1) := by decide +kernel
theorem dX3_readDigits_69 : decode cX3_readDigits 69 = .ok (.aload_n 0, 1) := by decide +kernel
theorem dX3_readDigits_70 : decode cX3_readDigits 70 = .ok (.getfield 9, 3) := by decide +kernel
theorem dX3_readDigits_73 : decode cX3_readDigits 73 = .ok (.aload_n 0, 1) := by decide +kernel
theorem dX3_readDigits_74 : decode cX3_readDigits 74 = .ok (.getfield 40, 3) := by decide +kernel
theorem dX3_readDigits_77 : decode cX3_readDigits 77 = .ok (.baload, 1) := by decide +kernel
theorem dX3_readDigits_78 : decode cX3_readDigits 78 = .ok (.iadd, 1) := by decide +kernel
theorem dX3_readDigits_79 : decode cX3_readDigits 79 = .ok (.bipush 48, 2) := by decide +kernel
theorem dX3_readDigits_81 : decode cX3_readDigits 81 = .ok (.isub, 1) := by decide +kernel
theorem dX3_readDigits_82 : decode cX3_readDigits 82 = .ok (.putfield 66, 3) := by decide +kernel
theorem dX3_readDigits_85 : decode cX3_readDigits 85 = .ok (.aload_n 0, 1) := by decide +kernel
theorem dX3_readDigits_86 : decode cX3_readDigits 86 = .ok (.dup, 1) := by decide +kernel
theorem dX3_readDigits_87 : decode cX3_readDigits 87 = .ok (.getfield 40, 3) := by decide +kernel
theorem dX3_readDigits_90 : decode cX3_readDigits 90 = .ok (.iconst 1, 1) := by decide +kernel
theorem dX3_readDigits_91 : decode cX3_readDigits 91 = .ok (.iadd, 1) := by decide +kernel
theorem dX3_readDigits_92 : decode cX3_readDigits 92 = .ok (.putfield 40, 3) := by decide +kernel
theorem dX3_readDigits_95 : decode cX3_readDigits 95 = .ok (.goto (-82), 3) := by decide +kernel
theorem dX3_readDigits_98 : decode cX3_readDigits 98 = .ok (.return_, 1) := by decide +kernel
theorem bX3_readDigits_0 {d mc ms : Nat} {al : Bool} {bc bs : Nat} {Γ : am_G} {I : am_I} {L : am_L} {Q : am_Q} {v0 : Nat} (o1 : am_ob Γ v0 3) (kk : am_W m_X3_readDigits d mc ms al bc bs 13 [(0, .ref v0)] [] Γ (am_u (am_u I v0 11 0) v0 9 ((am_u I v0 11 0) v0 8)) L Q) : am_W m_X3_readDigits d mc ms al bc bs 0 [(0, .ref v0)] [] Γ I L Q := by
  refine aw_aload_n dX3_readDigits_0 rfl ?_
  refine aw_iconst dX3_readDigits_1 ci_0 ?_
  refine aw_putI dX3_readDigits_2 p_X3_66 o1 rfl ?_
  refine aw_aload_n dX3_readDigits_5 rfl ?_
  refine aw_aload_n dX3_readDigits_6 rfl ?_
  refine aw_getI dX3_readDigits_7 f_X3_46 o1 rfl ?_
  refine aw_putI dX3_readDigits_10 p_X3_40 o1 rfl ?_
  exact kk
theorem bX3_readDigits_13 {d mc ms : Nat} {al : Bool} {bc bs : Nat} {Γ : am_G} {I : am_I} {L : am_L} {Q : am_Q} {v0 : Nat} (o1 : am_ob Γ v0 3) (kt : (I v0 1) ≤ (I v0 9) → am_W m_X3_readDigits d mc ms al bc bs 98 [(0, .ref v0)] [] Γ I L Q) (kf : ¬ (I v0 1) ≤ (I v0 9) → am_W m_X3_readDigits d mc ms al bc bs 24 [(0, .ref v0)] [] Γ I L Q) : am_W m_X3_readDigits d mc ms al bc bs 13 [(0, .ref v0)] [] Γ I L Q := by
  refine aw_aload_n dX3_readDigits_13 rfl ?_
  refine aw_getI dX3_readDigits_14 f_X3_40 o1 rfl ?_
  refine aw_aload_n dX3_readDigits_17 rfl ?_
  refine aw_getI dX3_readDigits_18 f_X3_27 o1 rfl ?_
  exact aw_icmp_ge dX3_readDigits_21 (by decide) kt kf
theorem bX3_readDigits_24 {d mc ms : Nat} {al : Bool} {bc bs : Nat} {Γ : am_G} {I : am_I} {L : am_L} {Q : am_Q} {v0 : Nat} {r2 : Nat} {n_r2 : Nat} (o1 : am_ob Γ v0 3) (g3 : Γ.2.2 v0 0 = some r2) (a4 : am_ar Γ r2 2 n_r2 0) (i5 : vp_in (I v0 9) n_r2) (kt : (I r2 ((I v0 9).toNatClampNeg)) < 48 → am_W m_X3_readDigits d mc ms al bc bs 98 [(0, .ref v0)] [] Γ I L Q) (kf : ¬ (I r2 ((I v0 9).toNatClampNeg)) < 48 → am_W m_X3_readDigits d mc ms al bc bs 38 [(0, .ref v0)] [] Γ I L Q) : am_W m_X3_readDigits d mc ms al bc bs 24 [(0, .ref v0)] [] Γ I L Q := by
  refine aw_bipush dX3_readDigits_24 cb_48 ?_
  refine aw_aload_n dX3_readDigits_26 rfl ?_
  refine aw_getR dX3_readDigits_27 f_X3_9 o1 rfl g3 ?_
  refine aw_aload_n dX3_readDigits_30 rfl ?_
  refine aw_getI dX3_readDigits_31 f_X3_40 o1 rfl ?_
  refine aw_bald dX3_readDigits_34 a4 i5 ?_
  exact aw_icmp_gt dX3_readDigits_35 (by decide) kt kf
theorem bX3_readDigits_38 {d mc ms : Nat} {al : Bool} {bc bs : Nat} {Γ : am_G} {I : am_I} {L : am_L} {Q : am_Q} {v0 : Nat} {r2 : Nat} {n_r2 : Nat} (o1 : am_ob Γ v0 3) (g3 : Γ.2.2 v0 0 = some r2) (a4 : am_ar Γ r2 2 n_r2 0) (i5 : vp_in (I v0 9) n_r2) (kt : 57 < (I r2 ((I v0 9).toNatClampNeg)) → am_W m_X3_readDigits d mc ms al bc bs 98 [(0, .ref v0)] [] Γ I L Q) (kf : ¬ 57 < (I r2 ((I v0 9).toNatClampNeg)) → am_W m_X3_readDigits d mc ms al bc bs 52 [(0, .ref v0)] [] Γ I L Q) : am_W m_X3_readDigits d mc ms al bc bs 38 [(0, .ref v0)] [] Γ I L Q := by
  refine aw_aload_n dX3_readDigits_38 rfl ?_
  refine aw_getR dX3_readDigits_39 f_X3_9 o1 rfl g3 ?_
  refine aw_aload_n dX3_readDigits_42 rfl ?_
  refine aw_getI dX3_readDigits_43 f_X3_40 o1 rfl ?_
  refine aw_bald dX3_readDigits_46 a4 i5 ?_
  refine aw_bipush dX3_readDigits_47 cb_57 ?_
  exact aw_icmp_gt dX3_readDigits_49 (by decide) kt kf
theorem bX3_readDigits_52 {d mc ms : Nat} {al : Bool} {bc bs : Nat} {Γ : am_G} {I : am_I} {L : am_L} {Q : am_Q} {v0 : Nat} (o1 : am_ob Γ v0 3) (kt : 100000 ≤ (I v0 11) → am_W m_X3_readDigits d mc ms al bc bs 85 [(0, .ref v0)] [] Γ I L Q) (kf : ¬ 100000 ≤ (I v0 11) → am_W m_X3_readDigits d mc ms al bc bs 61 [(0, .ref v0)] [] Γ I L Q) : am_W m_X3_readDigits d mc ms al bc bs 52 [(0, .ref v0)] [] Γ I L Q := by
  refine aw_aload_n dX3_readDigits_52 rfl ?_
  refine aw_getI dX3_readDigits_53 f_X3_66 o1 rfl ?_
  refine aw_ldc dX3_readDigits_56 kc_X3_69 ?_
  exact aw_icmp_ge dX3_readDigits_58 (by decide) kt kf
theorem bX3_readDigits_61 {d mc ms : Nat} {al : Bool} {bc bs : Nat} {Γ : am_G} {I : am_I} {L : am_L} {Q : am_Q} {v0 : Nat} {r2 : Nat} {n_r2 : Nat} (o1 : am_ob Γ v0 3) (g3 : Γ.2.2 v0 0 = some r2) (a4 : am_ar Γ r2 2 n_r2 0) (i5 : vp_in (I v0 9) n_r2) (kk : am_W m_X3_readDigits d mc ms al bc bs 85 [(0, .ref v0)] [] Γ (am_u I v0 11 ((((I v0 11) * 10) + (I r2 ((I v0 9).toNatClampNeg))) - 48)) L Q) : am_W m_X3_readDigits d mc ms al bc bs 61 [(0, .ref v0)] [] Γ I L Q := by
  refine aw_aload_n dX3_readDigits_61 rfl ?_
  refine aw_aload_n dX3_readDigits_62 rfl ?_
  refine aw_getI dX3_readDigits_63 f_X3_66 o1 rfl ?_
  refine aw_bipush dX3_readDigits_66 cb_10 ?_
  refine aw_imul dX3_readDigits_68 ?_
  refine aw_aload_n dX3_readDigits_69 rfl ?_
  refine aw_getR dX3_readDigits_70 f_X3_9 o1 rfl g3 ?_
  refine aw_aload_n dX3_readDigits_73 rfl ?_
  refine aw_getI dX3_readDigits_74 f_X3_40 o1 rfl ?_
  refine aw_bald dX3_readDigits_77 a4 i5 ?_
  refine aw_iadd dX3_readDigits_78 ?_
  refine aw_bipush dX3_readDigits_79 cb_48 ?_
  refine aw_isub dX3_readDigits_81 ?_
  refine aw_putI dX3_readDigits_82 p_X3_66 o1 rfl ?_
  exact kk
theorem bX3_readDigits_85 {d mc ms : Nat} {al : Bool} {bc bs : Nat} {Γ : am_G} {I : am_I} {L : am_L} {Q : am_Q} {v0 : Nat} (o1 : am_ob Γ v0 3) (kk : am_W m_X3_readDigits d mc ms al bc bs 13 [(0, .ref v0)] [] Γ (am_u I v0 9 ((I v0 9) + 1)) L Q) : am_W m_X3_readDigits d mc ms al bc bs 85 [(0, .ref v0)] [] Γ I L Q := by
  refine aw_aload_n dX3_readDigits_85 rfl ?_
  refine aw_dup dX3_readDigits_86 rfl ?_
  refine aw_getI dX3_readDigits_87 f_X3_40 o1 rfl ?_
  refine aw_iconst dX3_readDigits_90 ci_1 ?_
  refine aw_iadd dX3_readDigits_91 ?_
  refine aw_putI dX3_readDigits_92 p_X3_40 o1 rfl ?_
  exact aw_goto dX3_readDigits_95 (by decide) kk
theorem bX3_readDigits_98 {d mc ms : Nat} {al : Bool} {bc bs : Nat} {Γ : am_G} {I : am_I} {L : am_L} {Q : am_Q} {v0 : Nat} (hq : Q (.inl none) Γ I L) : am_W m_X3_readDigits d mc ms al bc bs 98 [(0, .ref v0)] [] Γ I L Q := by
  exact aw_vret dX3_readDigits_98 rfl hq
theorem dX3_fail_0 : decode cX3_fail 0 = .ok (.aload_n 0, 1) := by decide +kernel
theorem dX3_fail_1 : decode cX3_fail 1 = .ok (.iload_n 1, 1) := by decide +kernel
theorem dX3_fail_2 : decode cX3_fail 2 = .ok (.putfield 34, 3) := by decide +kernel
theorem dX3_fail_5 : decode cX3_fail 5 = .ok (.aload_n 0, 1) := by decide +kernel
theorem dX3_fail_6 : decode cX3_fail 6 = .ok (.aload_n 0, 1) := by decide +kernel
theorem dX3_fail_7 : decode cX3_fail 7 = .ok (.getfield 46, 3) := by decide +kernel
theorem dX3_fail_10 : decode cX3_fail 10 = .ok (.putfield 15, 3) := by decide +kernel
theorem dX3_fail_13 : decode cX3_fail 13 = .ok (.iconst 0, 1) := by decide +kernel
theorem dX3_fail_14 : decode cX3_fail 14 = .ok (.ireturn, 1) := by decide +kernel
theorem bX3_fail_0 {d mc ms : Nat} {al : Bool} {bc bs : Nat} {Γ : am_G} {I : am_I} {L : am_L} {Q : am_Q} {v0 : Nat} {v1 : Int32} (o1 : am_ob Γ v0 3) (hq : Q (.inl (some (.int 0))) Γ (am_u (am_u I v0 2 v1) v0 3 ((am_u I v0 2 v1) v0 8)) L) : am_W m_X3_fail d mc ms al bc bs 0 [(0, .ref v0), (1, .int v1)] [] Γ I L Q := by
  refine aw_aload_n dX3_fail_0 rfl ?_
  refine aw_iload_n dX3_fail_1 rfl ?_
  refine aw_putI dX3_fail_2 p_X3_34 o1 rfl ?_
  refine aw_aload_n dX3_fail_5 rfl ?_
  refine aw_aload_n dX3_fail_6 rfl ?_
  refine aw_getI dX3_fail_7 f_X3_46 o1 rfl ?_
  refine aw_putI dX3_fail_10 p_X3_15 o1 rfl ?_
  refine aw_iconst dX3_fail_13 ci_0 ?_
  exact aw_zret (ty := .boolean) dX3_fail_14 rfl rfl hq
theorem dX3_isWord_0 : decode cX3_isWord 0 = .ok (.aload_n 0, 1) := by decide +kernel
theorem dX3_isWord_1 : decode cX3_isWord 1 = .ok (.getfield 49, 3) := by decide +kernel
theorem dX3_isWord_4 : decode cX3_isWord 4 = .ok (.ifCond .ne 19, 3) := by decide +kernel
theorem dX3_isWord_7 : decode cX3_isWord 7 = .ok (.aload_n 0, 1) := by decide +kernel
theorem dX3_isWord_8 : decode cX3_isWord 8 = .ok (.getfield 40, 3) := by decide +kernel
theorem dX3_isWord_11 : decode cX3_isWord 11 = .ok (.aload_n 0, 1) := by decide +kernel
theorem dX3_isWord_12 : decode cX3_isWord 12 = .ok (.getfield 46, 3) := by decide +kernel
theorem dX3_isWord_15 : decode cX3_isWord 15 = .ok (.isub, 1) := by decide +kernel
theorem dX3_isWord_16 : decode cX3_isWord 16 = .ok (.aload_n 1, 1) := by decide +kernel
theorem dX3_isWord_17 : decode cX3_isWord 17 = .ok (.invokevirtual 70, 3) := by decide +kernel
theorem dX3_isWord_20 : decode cX3_isWord 20 = .ok (.if_icmp .eq 5, 3) := by decide +kernel
theorem dX3_isWord_23 : decode cX3_isWord 23 = .ok (.iconst 0, 1) := by decide +kernel
theorem dX3_isWord_24 : decode cX3_isWord 24 = .ok (.ireturn, 1) := by decide +kernel
theorem dX3_isWord_25 : decode cX3_isWord 25 = .ok (.iconst 0, 1) := by decide +kernel
theorem dX3_isWord_26 : decode cX3_isWord 26 = .ok (.istore_n 2, 1) := by decide +kernel
theorem dX3_isWord_27 : decode cX3_isWord 27 = .ok (.iload_n 2, 1) := by decide +kernel
theorem dX3_isWord_28 : decode cX3_isWord 28 = .ok (.aload_n 1, 1) := by decide +kernel
theorem dX3_isWord_29 : decode cX3_isWord 29 = .ok (.invokevirtual 70, 3) := by decide +kernel
theorem dX3_isWord_32 : decode cX3_isWord 32 = .ok (.if_icmp .ge 30, 3) := by decide +kernel
theorem dX3_isWord_35 : decode cX3_isWord 35 = .ok (.aload_n 0, 1) := by decide +kernel
theorem dX3_isWord_36 : decode cX3_isWord 36 = .ok (.getfield 9, 3) := by decide +kernel
theorem dX3_isWord_39 : decode cX3_isWord 39 = .ok (.aload_n 0, 1) := by decide +kernel
theorem dX3_isWord_40 : decode cX3_isWord 40 = .ok (.getfield 46, 3) := by decide +kernel
theorem dX3_isWord_43 : decode cX3_isWord 43 = .ok (.iload_n 2, 1) := by decide +kernel
theorem dX3_isWord_44 : decode cX3_isWord 44 = .ok (.iadd, 1) := by decide +kernel
theorem dX3_isWord_45 : decode cX3_isWord 45 = .ok (.baload, 1) := by decide +kernel
theorem dX3_isWord_46 : decode cX3_isWord 46 = .ok (.aload_n 1, 1) := by decide +kernel
theorem dX3_isWord_47 : decode cX3_isWord 47 = .ok (.iload_n 2, 1) := by decide +kernel
theorem dX3_isWord_48 : decode cX3_isWord 48 = .ok (.invokevirtual 75, 3) := by decide +kernel
theorem dX3_isWord_51 : decode cX3_isWord 51 = .ok (.if_icmp .eq 5, 3) := by decide +kernel
theorem dX3_isWord_54 : decode cX3_isWord 54 = .ok (.iconst 0, 1) := by decide +kernel
theorem dX3_isWord_55 : decode cX3_isWord 55 = .ok (.ireturn, 1) := by decide +kernel
theorem dX3_isWord_56 : decode cX3_isWord 56 = .ok (.iinc 2 1, 3) := by decide +kernel
theorem dX3_isWord_59 : decode cX3_isWord 59 = .ok (.goto (-32), 3) := by decide +kernel
theorem dX3_isWord_62 : decode cX3_isWord 62 = .ok (.iconst 1, 1) := by decide +kernel
theorem dX3_isWord_63 : decode cX3_isWord 63 = .ok (.ireturn, 1) := by decide +kernel
theorem bX3_isWord_0 {d mc ms : Nat} {al : Bool} {bc bs : Nat} {Γ : am_G} {I : am_I} {L : am_L} {Q : am_Q} {v0 : Nat} {v1 : Nat} (o1 : am_ob Γ v0 3) (kt : ¬ (I v0 7) = 0 → am_W m_X3_isWord d mc ms al bc bs 23 [(0, .ref v0), (1, .retAddr v1)] [] Γ I L Q) (kf : (I v0 7) = 0 → am_W m_X3_isWord d mc ms al bc bs 7 [(0, .ref v0), (1, .retAddr v1)] [] Γ I L Q) : am_W m_X3_isWord d mc ms al bc bs 0 [(0, .ref v0), (1, .retAddr v1)] [] Γ I L Q := by
  refine aw_aload_n dX3_isWord_0 rfl ?_
  refine aw_getI dX3_isWord_1 f_X3_49 o1 rfl ?_
  exact aw_if_ne dX3_isWord_4 (by decide) kt kf
theorem bX3_isWord_7 {d mc ms : Nat} {al : Bool} {bc bs : Nat} {Γ : am_G} {I : am_I} {L : am_L} {Q : am_Q} {v0 : Nat} {v1 : Nat} {I' : am_I} {L' : am_L} {mc' : Nat} {ms' : Nat} {r : Int32} (o1 : am_ob Γ v0 3) (x2 : v1 < am_sn) (hbc : mc' ≤ bc) (hbs : ms' ≤ bs) (hC : am_E m_J0_length_8abf5 d mc' ms' [.retAddr v1] Γ I L (.inl (some (.int r))) I' L') (kk : am_W m_X3_isWord (d + 1) mc ms al (bc - mc') (bs - ms') 20 [(0, .ref v0), (1, .retAddr v1)] [.int r, .int ((I v0 9) - (I v0 8))] Γ I' L' Q) : am_W m_X3_isWord (d + 1) mc ms al bc bs 7 [(0, .ref v0), (1, .retAddr v1)] [] Γ I L Q := by
  refine aw_aload_n dX3_isWord_7 rfl ?_
  refine aw_getI dX3_isWord_8 f_X3_40 o1 rfl ?_
  refine aw_aload_n dX3_isWord_11 rfl ?_
  refine aw_getI dX3_isWord_12 f_X3_46 o1 rfl ?_
  refine aw_isub dX3_isWord_15 ?_
  refine aw_aload_nT dX3_isWord_16 rfl ?_
  exact aw_askT (as := []) (rst := [.int ((I v0 9) - (I v0 8))]) k_J0_length_8abf5 l_X3_70 i_J0_length_8abf5 s_J0_length_8abf5 rfl x2 dX3_isWord_17 rfl (Nat.le_of_ble_eq_true rfl) hbc hbs hC rfl rfl kk
theorem bX3_isWord_20 {d mc ms : Nat} {al : Bool} {bc bs : Nat} {Γ : am_G} {I : am_I} {L : am_L} {Q : am_Q} {v0 : Nat} {v1 : Nat} {w0 : Int32} {w1 : Int32} (kt : w0 = w1 → am_W m_X3_isWord d mc ms al bc bs 25 [(0, .ref v0), (1, .retAddr v1)] [] Γ I L Q) (kf : ¬ w0 = w1 → am_W m_X3_isWord d mc ms al bc bs 23 [(0, .ref v0), (1, .retAddr v1)] [] Γ I L Q) : am_W m_X3_isWord d mc ms al bc bs 20 [(0, .ref v0), (1, .retAddr v1)] [.int w1, .int w0] Γ I L Q := by
  exact aw_icmp_eq dX3_isWord_20 (by decide) kt kf
theorem bX3_isWord_23 {d mc ms : Nat} {al : Bool} {bc bs : Nat} {Γ : am_G} {I : am_I} {L : am_L} {Q : am_Q} {v0 : Nat} {v1 : Nat} (hq : Q (.inl (some (.int 0))) Γ I L) : am_W m_X3_isWord d mc ms al bc bs 23 [(0, .ref v0), (1, .retAddr v1)] [] Γ I L Q := by
  refine aw_iconst dX3_isWord_23 ci_0 ?_
  exact aw_zret (ty := .boolean) dX3_isWord_24 rfl rfl hq
theorem bX3_isWord_25 {d mc ms : Nat} {al : Bool} {bc bs : Nat} {Γ : am_G} {I : am_I} {L : am_L} {Q : am_Q} {v0 : Nat} {v1 : Nat} (kk : am_W m_X3_isWord d mc ms al bc bs 27 [(0, .ref v0), (1, .retAddr v1), (2, .int 0)] [] Γ I L Q) : am_W m_X3_isWord d mc ms al bc bs 25 [(0, .ref v0), (1, .retAddr v1)] [] Γ I L Q := by
  refine aw_iconst dX3_isWord_25 ci_0 ?_
  refine aw_istore_n (ls' := [(0, .ref v0), (1, .retAddr v1), (2, .int 0)]) dX3_isWord_26 (by decide) rfl ?_
  exact kk
theorem bX3_isWord_27 {d mc ms : Nat} {al : Bool} {bc bs : Nat} {Γ : am_G} {I : am_I} {L : am_L} {Q : am_Q} {v0 : Nat} {v1 : Nat} {v2 : Int32} {I' : am_I} {L' : am_L} {mc' : Nat} {ms' : Nat} {r : Int32} (x1 : v1 < am_sn) (hbc : mc' ≤ bc) (hbs : ms' ≤ bs) (hC : am_E m_J0_length_8abf5 d mc' ms' [.retAddr v1] Γ I L (.inl (some (.int r))) I' L') (kk : am_W m_X3_isWord (d + 1) mc ms al (bc - mc') (bs - ms') 32 [(0, .ref v0), (1, .retAddr v1), (2, .int v2)] [.int r, .int v2] Γ I' L' Q) : am_W m_X3_isWord (d + 1) mc ms al bc bs 27 [(0, .ref v0), (1, .retAddr v1), (2, .int v2)] [] Γ I L Q := by
  refine aw_iload_n dX3_isWord_27 rfl ?_
  refine aw_aload_nT dX3_isWord_28 rfl ?_
  exact aw_askT (as := []) (rst := [.int v2]) k_J0_length_8abf5 l_X3_70 i_J0_length_8abf5 s_J0_length_8abf5 rfl x1 dX3_isWord_29 rfl (Nat.le_of_ble_eq_true rfl) hbc hbs hC rfl rfl kk
theorem bX3_isWord_32 {d mc ms : Nat} {al : Bool} {bc bs : Nat} {Γ : am_G} {I : am_I} {L : am_L} {Q : am_Q} {v0 : Nat} {v1 : Nat} {v2 : Int32} {w0 : Int32} {w1 : Int32} (kt : w1 ≤ w0 → am_W m_X3_isWord d mc ms al bc bs 62 [(0, .ref v0), (1, .retAddr v1), (2, .int v2)] [] Γ I L Q) (kf : ¬ w1 ≤ w0 → am_W m_X3_isWord d mc ms al bc bs 35 [(0, .ref v0), (1, .retAddr v1), (2, .int v2)] [] Γ I L Q) : am_W m_X3_isWord d mc ms al bc bs 32 [(0, .ref v0), (1, .retAddr v1), (2, .int v2)] [.int w1, .int w0] Γ I L Q := by
  exact aw_icmp_ge dX3_isWord_32 (by decide) kt kf
theorem bX3_isWord_35 {d mc ms : Nat} {al : Bool} {bc bs : Nat} {Γ : am_G} {I : am_I} {L : am_L} {Q : am_Q} {v0 : Nat} {v1 : Nat} {v2 : Int32} {r2 : Nat} {n_r2 : Nat} {I' : am_I} {L' : am_L} {mc' : Nat} {ms' : Nat} {r : Int32} (o1 : am_ob Γ v0 3) (g3 : Γ.2.2 v0 0 = some r2) (a4 : am_ar Γ r2 2 n_r2 0) (i5 : vp_in ((I v0 8) + v2) n_r2) (x6 : v1 < am_sn) (hbc : mc' ≤ bc) (hbs : ms' ≤ bs) (hC : am_E m_J0_charAt_5068e d mc' ms' [.retAddr v1, .int v2] Γ I L (.inl (some (.int r))) I' L') (kk : am_W m_X3_isWord (d + 1) mc ms al (bc - mc') (bs - ms') 51 [(0, .ref v0), (1, .retAddr v1), (2, .int v2)] [.int r, .int (I r2 (((I v0 8) + v2).toNatClampNeg))] Γ I' L' Q) : am_W m_X3_isWord (d + 1) mc ms al bc bs 35 [(0, .ref v0), (1, .retAddr v1), (2, .int v2)] [] Γ I L Q := by
  refine aw_aload_n dX3_isWord_35 rfl ?_
  refine aw_getR dX3_isWord_36 f_X3_9 o1 rfl g3 ?_
  refine aw_aload_n dX3_isWord_39 rfl ?_
  refine aw_getI dX3_isWord_40 f_X3_46 o1 rfl ?_
  refine aw_iload_n dX3_isWord_43 rfl ?_
  refine aw_iadd dX3_isWord_44 ?_
  refine aw_bald dX3_isWord_45 a4 i5 ?_
  refine aw_aload_nT dX3_isWord_46 rfl ?_
  refine aw_iload_n dX3_isWord_47 rfl ?_
  exact aw_askT (as := [.int v2]) (rst := [.int (I r2 (((I v0 8) + v2).toNatClampNeg))]) k_J0_charAt_5068e l_X3_75 i_J0_charAt_5068e s_J0_charAt_5068e rfl x6 dX3_isWord_48 rfl (Nat.le_of_ble_eq_true rfl) hbc hbs hC rfl rfl kk
theorem bX3_isWord_51 {d mc ms : Nat} {al : Bool} {bc bs : Nat} {Γ : am_G} {I : am_I} {L : am_L} {Q : am_Q} {v0 : Nat} {v1 : Nat} {v2 : Int32} {w0 : Int32} {w1 : Int32} (kt : w0 = w1 → am_W m_X3_isWord d mc ms al bc bs 56 [(0, .ref v0), (1, .retAddr v1), (2, .int v2)] [] Γ I L Q) (kf : ¬ w0 = w1 → am_W m_X3_isWord d mc ms al bc bs 54 [(0, .ref v0), (1, .retAddr v1), (2, .int v2)] [] Γ I L Q) : am_W m_X3_isWord d mc ms al bc bs 51 [(0, .ref v0), (1, .retAddr v1), (2, .int v2)] [.int w1, .int w0] Γ I L Q := by
  exact aw_icmp_eq dX3_isWord_51 (by decide) kt kf
theorem bX3_isWord_54 {d mc ms : Nat} {al : Bool} {bc bs : Nat} {Γ : am_G} {I : am_I} {L : am_L} {Q : am_Q} {v0 : Nat} {v1 : Nat} {v2 : Int32} (hq : Q (.inl (some (.int 0))) Γ I L) : am_W m_X3_isWord d mc ms al bc bs 54 [(0, .ref v0), (1, .retAddr v1), (2, .int v2)] [] Γ I L Q := by
  refine aw_iconst dX3_isWord_54 ci_0 ?_
  exact aw_zret (ty := .boolean) dX3_isWord_55 rfl rfl hq
theorem bX3_isWord_56 {d mc ms : Nat} {al : Bool} {bc bs : Nat} {Γ : am_G} {I : am_I} {L : am_L} {Q : am_Q} {v0 : Nat} {v1 : Nat} {v2 : Int32} (kk : am_W m_X3_isWord d mc ms al bc bs 27 [(0, .ref v0), (1, .retAddr v1), (2, .int (v2 + 1))] [] Γ I L Q) : am_W m_X3_isWord d mc ms al bc bs 56 [(0, .ref v0), (1, .retAddr v1), (2, .int v2)] [] Γ I L Q := by
  refine aw_iinc (ls' := [(0, .ref v0), (1, .retAddr v1), (2, .int (v2 + 1))]) dX3_isWord_56 rfl (cn_1 _) (by decide) rfl ?_
  exact aw_goto dX3_isWord_59 (by decide) kk
theorem bX3_isWord_62 {d mc ms : Nat} {al : Bool} {bc bs : Nat} {Γ : am_G} {I : am_I} {L : am_L} {Q : am_Q} {v0 : Nat} {v1 : Nat} {v2 : Int32} (hq : Q (.inl (some (.int 1))) Γ I L) : am_W m_X3_isWord d mc ms al bc bs 62 [(0, .ref v0), (1, .retAddr v1), (2, .int v2)] [] Γ I L Q := by
  refine aw_iconst dX3_isWord_62 ci_1 ?_
  exact aw_zret (ty := .boolean) dX3_isWord_63 rfl rfl hq
theorem dX3_isName_0 : decode cX3_isName 0 = .ok (.aload_n 0, 1) := by decide +kernel
theorem dX3_isName_1 : decode cX3_isName 1 = .ok (.getfield 49, 3) := by decide +kernel
theorem dX3_isName_4 : decode cX3_isName 4 = .ok (.ifCond .ne 21, 3) := by decide +kernel
theorem dX3_isName_7 : decode cX3_isName 7 = .ok (.aload_n 0, 1) := by decide +kernel
theorem dX3_isName_8 : decode cX3_isName 8 = .ok (.getfield 40, 3) := by decide +kernel
theorem dX3_isName_11 : decode cX3_isName 11 = .ok (.aload_n 0, 1) := by decide +kernel
theorem dX3_isName_12 : decode cX3_isName 12 = .ok (.getfield 46, 3) := by decide +kernel
theorem dX3_isName_15 : decode cX3_isName 15 = .ok (.isub, 1) := by decide +kernel
theorem dX3_isName_16 : decode cX3_isName 16 = .ok (.bipush 6, 2) := by decide +kernel
theorem dX3_isName_18 : decode cX3_isName 18 = .ok (.if_icmp .gt 7, 3) := by decide +kernel
theorem dX3_isName_21 : decode cX3_isName 21 = .ok (.iconst 1, 1) := by decide +kernel
theorem dX3_isName_22 : decode cX3_isName 22 = .ok (.goto 4, 3) := by decide +kernel
theorem dX3_isName_25 : decode cX3_isName 25 = .ok (.iconst 0, 1) := by decide +kernel
theorem dX3_isName_26 : decode cX3_isName 26 = .ok (.ireturn, 1) := by decide +kernel
theorem bX3_isName_0 {d mc ms : Nat} {al : Bool} {bc bs : Nat} {Γ : am_G} {I : am_I} {L : am_L} {Q : am_Q} {v0 : Nat} (o1 : am_ob Γ v0 3) (kt : ¬ (I v0 7) = 0 → am_W m_X3_isName d mc ms al bc bs 25 [(0, .ref v0)] [] Γ I L Q) (kf : (I v0 7) = 0 → am_W m_X3_isName d mc ms al bc bs 7 [(0, .ref v0)] [] Γ I L Q) : am_W m_X3_isName d mc ms al bc bs 0 [(0, .ref v0)] [] Γ I L Q := by
  refine aw_aload_n dX3_isName_0 rfl ?_
  refine aw_getI dX3_isName_1 f_X3_49 o1 rfl ?_
  exact aw_if_ne dX3_isName_4 (by decide) kt kf
theorem bX3_isName_7 {d mc ms : Nat} {al : Bool} {bc bs : Nat} {Γ : am_G} {I : am_I} {L : am_L} {Q : am_Q} {v0 : Nat} (o1 : am_ob Γ v0 3) (kt : 6 < ((I v0 9) - (I v0 8)) → am_W m_X3_isName d mc ms al bc bs 25 [(0, .ref v0)] [] Γ I L Q) (kf : ¬ 6 < ((I v0 9) - (I v0 8)) → am_W m_X3_isName d mc ms al bc bs 21 [(0, .ref v0)] [] Γ I L Q) : am_W m_X3_isName d mc ms al bc bs 7 [(0, .ref v0)] [] Γ I L Q := by
  refine aw_aload_n dX3_isName_7 rfl ?_
  refine aw_getI dX3_isName_8 f_X3_40 o1 rfl ?_
  refine aw_aload_n dX3_isName_11 rfl ?_
  refine aw_getI dX3_isName_12 f_X3_46 o1 rfl ?_
  refine aw_isub dX3_isName_15 ?_
  refine aw_bipush dX3_isName_16 cb_6 ?_
  exact aw_icmp_gt dX3_isName_18 (by decide) kt kf
theorem bX3_isName_21 {d mc ms : Nat} {al : Bool} {bc bs : Nat} {Γ : am_G} {I : am_I} {L : am_L} {Q : am_Q} {v0 : Nat} (kk : am_W m_X3_isName d mc ms al bc bs 26 [(0, .ref v0)] [.int 1] Γ I L Q) : am_W m_X3_isName d mc ms al bc bs 21 [(0, .ref v0)] [] Γ I L Q := by
  refine aw_iconst dX3_isName_21 ci_1 ?_
  exact aw_goto dX3_isName_22 (by decide) kk
theorem bX3_isName_25 {d mc ms : Nat} {al : Bool} {bc bs : Nat} {Γ : am_G} {I : am_I} {L : am_L} {Q : am_Q} {v0 : Nat} (kk : am_W m_X3_isName d mc ms al bc bs 26 [(0, .ref v0)] [.int 0] Γ I L Q) : am_W m_X3_isName d mc ms al bc bs 25 [(0, .ref v0)] [] Γ I L Q := by
  refine aw_iconst dX3_isName_25 ci_0 ?_
  exact kk
theorem bX3_isName_26 {d mc ms : Nat} {al : Bool} {bc bs : Nat} {Γ : am_G} {I : am_I} {L : am_L} {Q : am_Q} {v0 : Nat} {w0 : Int32} (hz : narrow .boolean (.int w0) = .int w0) (hq : Q (.inl (some (.int w0))) Γ I L) : am_W m_X3_isName d mc ms al bc bs 26 [(0, .ref v0)] [.int w0] Γ I L Q := by
  exact aw_zret (ty := .boolean) dX3_isName_26 rfl hz hq
theorem dX3_takeWord_0 : decode cX3_takeWord 0 = .ok (.aload_n 0, 1) := by decide +kernel
theorem dX3_takeWord_1 : decode cX3_takeWord 1 = .ok (.aload_n 1, 1) := by decide +kernel
theorem dX3_takeWord_2 : decode cX3_takeWord 2 = .ok (.invokevirtual 79, 3) := by decide +kernel
theorem dX3_takeWord_5 : decode cX3_takeWord 5 = .ok (.ifCond .ne 9, 3) := by decide +kernel
theorem dX3_takeWord_8 : decode cX3_takeWord 8 = .ok (.aload_n 0, 1) := by decide +kernel
theorem dX3_takeWord_9 : decode cX3_takeWord 9 = .ok (.iconst 1, 1) := by decide +kernel
theorem dX3_takeWord_10 : decode cX3_takeWord 10 = .ok (.invokevirtual 83, 3) := by decide +kernel
theorem dX3_takeWord_13 : decode cX3_takeWord 13 = .ok (.ireturn, 1) := by decide +kernel
theorem dX3_takeWord_14 : decode cX3_takeWord 14 = .ok (.aload_n 0, 1) := by decide +kernel
theorem dX3_takeWord_15 : decode cX3_takeWord 15 = .ok (.invokevirtual 43, 3) := by decide +kernel
theorem dX3_takeWord_18 : decode cX3_takeWord 18 = .ok (.iconst 1, 1) := by decide +kernel
theorem dX3_takeWord_19 : decode cX3_takeWord 19 = .ok (.ireturn, 1) := by decide +kernel
theorem bX3_takeWord_0 {d mc ms : Nat} {al : Bool} {bc bs : Nat} {Γ : am_G} {I : am_I} {L : am_L} {Q : am_Q} {v0 : Nat} {v1 : Nat} {I' : am_I} {L' : am_L} {mc' : Nat} {ms' : Nat} {r : Int32} (o1 : am_ob Γ v0 3) (hbc : mc' ≤ bc) (hbs : ms' ≤ bs) (hC : am_E m_X3_isWord d mc' ms' [.ref v0, .retAddr v1] Γ I L (.inl (some (.int r))) I' L') (kk : am_W m_X3_takeWord (d + 1) mc ms al (bc - mc') (bs - ms') 5 [(0, .ref v0), (1, .retAddr v1)] [.int r] Γ I' L' Q) : am_W m_X3_takeWord (d + 1) mc ms al bc bs 0 [(0, .ref v0), (1, .retAddr v1)] [] Γ I L Q := by
  refine aw_aload_n dX3_takeWord_0 rfl ?_
  refine aw_aload_nT dX3_takeWord_1 rfl ?_
  exact aw_askV (as := [.retAddr v1]) (rst := []) k_X3_isWord l_X3_79 i_X3_isWord s_X3_isWord rfl o1 dX3_takeWord_2 rfl (Nat.le_of_ble_eq_true rfl) hbc hbs hC rfl rfl kk
theorem bX3_takeWord_5 {d mc ms : Nat} {al : Bool} {bc bs : Nat} {Γ : am_G} {I : am_I} {L : am_L} {Q : am_Q} {v0 : Nat} {v1 : Nat} {w0 : Int32} (kt : ¬ w0 = 0 → am_W m_X3_takeWord d mc ms al bc bs 14 [(0, .ref v0), (1, .retAddr v1)] [] Γ I L Q) (kf : w0 = 0 → am_W m_X3_takeWord d mc ms al bc bs 8 [(0, .ref v0), (1, .retAddr v1)] [] Γ I L Q) : am_W m_X3_takeWord d mc ms al bc bs 5 [(0, .ref v0), (1, .retAddr v1)] [.int w0] Γ I L Q := by
  exact aw_if_ne dX3_takeWord_5 (by decide) kt kf
theorem bX3_takeWord_8 {d mc ms : Nat} {al : Bool} {bc bs : Nat} {Γ : am_G} {I : am_I} {L : am_L} {Q : am_Q} {v0 : Nat} {v1 : Nat} {I' : am_I} {L' : am_L} {mc' : Nat} {ms' : Nat} {r : Int32} (o1 : am_ob Γ v0 3) (hbc : mc' ≤ bc) (hbs : ms' ≤ bs) (hC : am_E m_X3_fail d mc' ms' [.ref v0, .int 1] Γ I L (.inl (some (.int r))) I' L') (kk : am_W m_X3_takeWord (d + 1) mc ms al (bc - mc') (bs - ms') 13 [(0, .ref v0), (1, .retAddr v1)] [.int r] Γ I' L' Q) : am_W m_X3_takeWord (d + 1) mc ms al bc bs 8 [(0, .ref v0), (1, .retAddr v1)] [] Γ I L Q := by
  refine aw_aload_n dX3_takeWord_8 rfl ?_
  refine aw_iconst dX3_takeWord_9 ci_1 ?_
  exact aw_askV (as := [.int 1]) (rst := []) k_X3_fail l_X3_83 i_X3_fail s_X3_fail rfl o1 dX3_takeWord_10 rfl (Nat.le_of_ble_eq_true rfl) hbc hbs hC rfl rfl kk
theorem bX3_takeWord_13 {d mc ms : Nat} {al : Bool} {bc bs : Nat} {Γ : am_G} {I : am_I} {L : am_L} {Q : am_Q} {v0 : Nat} {v1 : Nat} {w0 : Int32} (hz : narrow .boolean (.int w0) = .int w0) (hq : Q (.inl (some (.int w0))) Γ I L) : am_W m_X3_takeWord d mc ms al bc bs 13 [(0, .ref v0), (1, .retAddr v1)] [.int w0] Γ I L Q := by
  exact aw_zret (ty := .boolean) dX3_takeWord_13 rfl hz hq
theorem bX3_takeWord_14 {d mc ms : Nat} {al : Bool} {bc bs : Nat} {Γ : am_G} {I : am_I} {L : am_L} {Q : am_Q} {v0 : Nat} {v1 : Nat} {I' : am_I} {L' : am_L} {mc' : Nat} {ms' : Nat} (o1 : am_ob Γ v0 3) (hbc : mc' ≤ bc) (hbs : ms' ≤ bs) (hC : am_E m_X3_advance d mc' ms' [.ref v0] Γ I L (.inl none) I' L') (kk : am_W m_X3_takeWord (d + 1) mc ms al (bc - mc') (bs - ms') 18 [(0, .ref v0), (1, .retAddr v1)] [] Γ I' L' Q) : am_W m_X3_takeWord (d + 1) mc ms al bc bs 14 [(0, .ref v0), (1, .retAddr v1)] [] Γ I L Q := by
  refine aw_aload_n dX3_takeWord_14 rfl ?_
  exact aw_askV (as := []) (rst := []) k_X3_advance l_X3_43 i_X3_advance s_X3_advance rfl o1 dX3_takeWord_15 rfl (Nat.le_of_ble_eq_true rfl) hbc hbs hC rfl rfl kk
theorem bX3_takeWord_18 {d mc ms : Nat} {al : Bool} {bc bs : Nat} {Γ : am_G} {I : am_I} {L : am_L} {Q : am_Q} {v0 : Nat} {v1 : Nat} (hq : Q (.inl (some (.int 1))) Γ I L) : am_W m_X3_takeWord d mc ms al bc bs 18 [(0, .ref v0), (1, .retAddr v1)] [] Γ I L Q := by
  refine aw_iconst dX3_takeWord_18 ci_1 ?_
  exact aw_zret (ty := .boolean) dX3_takeWord_19 rfl rfl hq
theorem dX3_takeSemicolon_0 : decode cX3_takeSemicolon 0 = .ok (.aload_n 0, 1) := by decide +kernel
theorem dX3_takeSemicolon_1 : decode cX3_takeSemicolon 1 = .ok (.getfield 49, 3) := by decide +kernel
theorem dX3_takeSemicolon_4 : decode cX3_takeSemicolon 4 = .ok (.iconst 2, 1) := by decide +kernel
theorem dX3_takeSemicolon_5 : decode cX3_takeSemicolon 5 = .ok (.if_icmp .eq 9, 3) := by decide +kernel
theorem dX3_takeSemicolon_8 : decode cX3_takeSemicolon 8 = .ok (.aload_n 0, 1) := by decide +kernel
theorem dX3_takeSemicolon_9 : decode cX3_takeSemicolon 9 = .ok (.iconst 1, 1) := by decide +kernel
theorem dX3_takeSemicolon_10 : decode cX3_takeSemicolon 10 = .ok (.invokevirtual 83, 3) := by decide +kernel
theorem dX3_takeSemicolon_13 : decode cX3_takeSemicolon 13 = .ok (.ireturn, 1) := by decide +kernel
theorem dX3_takeSemicolon_14 : decode cX3_takeSemicolon 14 = .ok (.aload_n 0, 1) := by decide +kernel
theorem dX3_takeSemicolon_15 : decode cX3_takeSemicolon 15 = .ok (.invokevirtual 43, 3) := by decide +kernel
theorem dX3_takeSemicolon_18 : decode cX3_takeSemicolon 18 = .ok (.iconst 1, 1) := by decide +kernel
theorem dX3_takeSemicolon_19 : decode cX3_takeSemicolon 19 = .ok (.ireturn, 1) := by decide +kernel
theorem bX3_takeSemicolon_0 {d mc ms : Nat} {al : Bool} {bc bs : Nat} {Γ : am_G} {I : am_I} {L : am_L} {Q : am_Q} {v0 : Nat} (o1 : am_ob Γ v0 3) (kt : (I v0 7) = 2 → am_W m_X3_takeSemicolon d mc ms al bc bs 14 [(0, .ref v0)] [] Γ I L Q) (kf : ¬ (I v0 7) = 2 → am_W m_X3_takeSemicolon d mc ms al bc bs 8 [(0, .ref v0)] [] Γ I L Q) : am_W m_X3_takeSemicolon d mc ms al bc bs 0 [(0, .ref v0)] [] Γ I L Q := by
  refine aw_aload_n dX3_takeSemicolon_0 rfl ?_
  refine aw_getI dX3_takeSemicolon_1 f_X3_49 o1 rfl ?_
  refine aw_iconst dX3_takeSemicolon_4 ci_2 ?_
  exact aw_icmp_eq dX3_takeSemicolon_5 (by decide) kt kf
theorem bX3_takeSemicolon_8 {d mc ms : Nat} {al : Bool} {bc bs : Nat} {Γ : am_G} {I : am_I} {L : am_L} {Q : am_Q} {v0 : Nat} {I' : am_I} {L' : am_L} {mc' : Nat} {ms' : Nat} {r : Int32} (o1 : am_ob Γ v0 3) (hbc : mc' ≤ bc) (hbs : ms' ≤ bs) (hC : am_E m_X3_fail d mc' ms' [.ref v0, .int 1] Γ I L (.inl (some (.int r))) I' L') (kk : am_W m_X3_takeSemicolon (d + 1) mc ms al (bc - mc') (bs - ms') 13 [(0, .ref v0)] [.int r] Γ I' L' Q) : am_W m_X3_takeSemicolon (d + 1) mc ms al bc bs 8 [(0, .ref v0)] [] Γ I L Q := by
  refine aw_aload_n dX3_takeSemicolon_8 rfl ?_
  refine aw_iconst dX3_takeSemicolon_9 ci_1 ?_
  exact aw_askV (as := [.int 1]) (rst := []) k_X3_fail l_X3_83 i_X3_fail s_X3_fail rfl o1 dX3_takeSemicolon_10 rfl (Nat.le_of_ble_eq_true rfl) hbc hbs hC rfl rfl kk
theorem bX3_takeSemicolon_13 {d mc ms : Nat} {al : Bool} {bc bs : Nat} {Γ : am_G} {I : am_I} {L : am_L} {Q : am_Q} {v0 : Nat} {w0 : Int32} (hz : narrow .boolean (.int w0) = .int w0) (hq : Q (.inl (some (.int w0))) Γ I L) : am_W m_X3_takeSemicolon d mc ms al bc bs 13 [(0, .ref v0)] [.int w0] Γ I L Q := by
  exact aw_zret (ty := .boolean) dX3_takeSemicolon_13 rfl hz hq
theorem bX3_takeSemicolon_14 {d mc ms : Nat} {al : Bool} {bc bs : Nat} {Γ : am_G} {I : am_I} {L : am_L} {Q : am_Q} {v0 : Nat} {I' : am_I} {L' : am_L} {mc' : Nat} {ms' : Nat} (o1 : am_ob Γ v0 3) (hbc : mc' ≤ bc) (hbs : ms' ≤ bs) (hC : am_E m_X3_advance d mc' ms' [.ref v0] Γ I L (.inl none) I' L') (kk : am_W m_X3_takeSemicolon (d + 1) mc ms al (bc - mc') (bs - ms') 18 [(0, .ref v0)] [] Γ I' L' Q) : am_W m_X3_takeSemicolon (d + 1) mc ms al bc bs 14 [(0, .ref v0)] [] Γ I L Q := by
  refine aw_aload_n dX3_takeSemicolon_14 rfl ?_
  exact aw_askV (as := []) (rst := []) k_X3_advance l_X3_43 i_X3_advance s_X3_advance rfl o1 dX3_takeSemicolon_15 rfl (Nat.le_of_ble_eq_true rfl) hbc hbs hC rfl rfl kk
theorem bX3_takeSemicolon_18 {d mc ms : Nat} {al : Bool} {bc bs : Nat} {Γ : am_G} {I : am_I} {L : am_L} {Q : am_Q} {v0 : Nat} (hq : Q (.inl (some (.int 1))) Γ I L) : am_W m_X3_takeSemicolon d mc ms al bc bs 18 [(0, .ref v0)] [] Γ I L Q := by
  refine aw_iconst dX3_takeSemicolon_18 ci_1 ?_
  exact aw_zret (ty := .boolean) dX3_takeSemicolon_19 rfl rfl hq
theorem dX3_isNumberIn_0 : decode cX3_isNumberIn 0 = .ok (.aload_n 0, 1) := by decide +kernel
theorem dX3_isNumberIn_1 : decode cX3_isNumberIn 1 = .ok (.getfield 49, 3) := by decide +kernel
theorem dX3_isNumberIn_4 : decode cX3_isNumberIn 4 = .ok (.iconst 1, 1) := by decide +kernel
theorem dX3_isNumberIn_5 : decode cX3_isNumberIn 5 = .ok (.if_icmp .eq 9, 3) := by decide +kernel
theorem dX3_isNumberIn_8 : decode cX3_isNumberIn 8 = .ok (.aload_n 0, 1) := by decide +kernel
theorem dX3_isNumberIn_9 : decode cX3_isNumberIn 9 = .ok (.iconst 1, 1) := by decide +kernel
theorem dX3_isNumberIn_10 : decode cX3_isNumberIn 10 = .ok (.invokevirtual 83, 3) := by decide +kernel
theorem dX3_isNumberIn_13 : decode cX3_isNumberIn 13 = .ok (.ireturn, 1) := by decide +kernel
theorem dX3_isNumberIn_14 : decode cX3_isNumberIn 14 = .ok (.aload_n 0, 1) := by decide +kernel
theorem dX3_isNumberIn_15 : decode cX3_isNumberIn 15 = .ok (.getfield 66, 3) := by decide +kernel
theorem dX3_isNumberIn_18 : decode cX3_isNumberIn 18 = .ok (.iload_n 1, 1) := by decide +kernel
theorem dX3_isNumberIn_19 : decode cX3_isNumberIn 19 = .ok (.if_icmp .lt 11, 3) := by decide +kernel
theorem dX3_isNumberIn_22 : decode cX3_isNumberIn 22 = .ok (.aload_n 0, 1) := by decide +kernel
theorem dX3_isNumberIn_23 : decode cX3_isNumberIn 23 = .ok (.getfield 66, 3) := by decide +kernel
theorem dX3_isNumberIn_26 : decode cX3_isNumberIn 26 = .ok (.iload_n 2, 1) := by decide +kernel
theorem dX3_isNumberIn_27 : decode cX3_isNumberIn 27 = .ok (.if_icmp .le 11, 3) := by decide +kernel
theorem dX3_isNumberIn_30 : decode cX3_isNumberIn 30 = .ok (.aload_n 0, 1) := by decide +kernel
theorem dX3_isNumberIn_31 : decode cX3_isNumberIn 31 = .ok (.iconst 2, 1) := by decide +kernel
theorem dX3_isNumberIn_32 : decode cX3_isNumberIn 32 = .ok (.invokevirtual 83, 3) := by decide +kernel
theorem dX3_isNumberIn_35 : decode cX3_isNumberIn 35 = .ok (.ifCond .eq 7, 3) := by decide +kernel
theorem dX3_isNumberIn_38 : decode cX3_isNumberIn 38 = .ok (.iconst 1, 1) := by decide +kernel
theorem dX3_isNumberIn_39 : decode cX3_isNumberIn 39 = .ok (.goto 4, 3) := by decide +kernel
theorem dX3_isNumberIn_42 : decode cX3_isNumberIn 42 = .ok (.iconst 0, 1) := by decide +kernel
theorem dX3_isNumberIn_43 : decode cX3_isNumberIn 43 = .ok (.ireturn, 1) := by decide +kernel
theorem bX3_isNumberIn_0 {d mc ms : Nat} {al : Bool} {bc bs : Nat} {Γ : am_G} {I : am_I} {L : am_L} {Q : am_Q} {v0 : Nat} {v1 : Int32} {v2 : Int32} (o1 : am_ob Γ v0 3) (kt : (I v0 7) = 1 → am_W m_X3_isNumberIn d mc ms al bc bs 14 [(0, .ref v0), (1, .int v1), (2, .int v2)] [] Γ I L Q) (kf : ¬ (I v0 7) = 1 → am_W m_X3_isNumberIn d mc ms al bc bs 8 [(0, .ref v0), (1, .int v1), (2, .int v2)] [] Γ I L Q) : am_W m_X3_isNumberIn d mc ms al bc bs 0 [(0, .ref v0), (1, .int v1), (2, .int v2)] [] Γ I L Q := by
  refine aw_aload_n dX3_isNumberIn_0 rfl ?_
  refine aw_getI dX3_isNumberIn_1 f_X3_49 o1 rfl ?_
  refine aw_iconst dX3_isNumberIn_4 ci_1 ?_
  exact aw_icmp_eq dX3_isNumberIn_5 (by decide) kt kf
theorem bX3_isNumberIn_8 {d mc ms : Nat} {al : Bool} {bc bs : Nat} {Γ : am_G} {I : am_I} {L : am_L} {Q : am_Q} {v0 : Nat} {v1 : Int32} {v2 : Int32} {I' : am_I} {L' : am_L} {mc' : Nat} {ms' : Nat} {r : Int32} (o1 : am_ob Γ v0 3) (hbc : mc' ≤ bc) (hbs : ms' ≤ bs) (hC : am_E m_X3_fail d mc' ms' [.ref v0, .int 1] Γ I L (.inl (some (.int r))) I' L') (kk : am_W m_X3_isNumberIn (d + 1) mc ms al (bc - mc') (bs - ms') 13 [(0, .ref v0), (1, .int v1), (2, .int v2)] [.int r] Γ I' L' Q) : am_W m_X3_isNumberIn (d + 1) mc ms al bc bs 8 [(0, .ref v0), (1, .int v1), (2, .int v2)] [] Γ I L Q := by
  refine aw_aload_n dX3_isNumberIn_8 rfl ?_
  refine aw_iconst dX3_isNumberIn_9 ci_1 ?_
  exact aw_askV (as := [.int 1]) (rst := []) k_X3_fail l_X3_83 i_X3_fail s_X3_fail rfl o1 dX3_isNumberIn_10 rfl (Nat.le_of_ble_eq_true rfl) hbc hbs hC rfl rfl kk
theorem bX3_isNumberIn_13 {d mc ms : Nat} {al : Bool} {bc bs : Nat} {Γ : am_G} {I : am_I} {L : am_L} {Q : am_Q} {v0 : Nat} {v1 : Int32} {v2 : Int32} {w0 : Int32} (hz : narrow .boolean (.int w0) = .int w0) (hq : Q (.inl (some (.int w0))) Γ I L) : am_W m_X3_isNumberIn d mc ms al bc bs 13 [(0, .ref v0), (1, .int v1), (2, .int v2)] [.int w0] Γ I L Q := by
  exact aw_zret (ty := .boolean) dX3_isNumberIn_13 rfl hz hq
theorem bX3_isNumberIn_14 {d mc ms : Nat} {al : Bool} {bc bs : Nat} {Γ : am_G} {I : am_I} {L : am_L} {Q : am_Q} {v0 : Nat} {v1 : Int32} {v2 : Int32} (o1 : am_ob Γ v0 3) (kt : (I v0 11) < v1 → am_W m_X3_isNumberIn d mc ms al bc bs 30 [(0, .ref v0), (1, .int v1), (2, .int v2)] [] Γ I L Q) (kf : ¬ (I v0 11) < v1 → am_W m_X3_isNumberIn d mc ms al bc bs 22 [(0, .ref v0), (1, .int v1), (2, .int v2)] [] Γ I L Q) : am_W m_X3_isNumberIn d mc ms al bc bs 14 [(0, .ref v0), (1, .int v1), (2, .int v2)] [] Γ I L Q := by
  refine aw_aload_n dX3_isNumberIn_14 rfl ?_
  refine aw_getI dX3_isNumberIn_15 f_X3_66 o1 rfl ?_
  refine aw_iload_n dX3_isNumberIn_18 rfl ?_
  exact aw_icmp_lt dX3_isNumberIn_19 (by decide) kt kf
theorem bX3_isNumberIn_22 {d mc ms : Nat} {al : Bool} {bc bs : Nat} {Γ : am_G} {I : am_I} {L : am_L} {Q : am_Q} {v0 : Nat} {v1 : Int32} {v2 : Int32} (o1 : am_ob Γ v0 3) (kt : (I v0 11) ≤ v2 → am_W m_X3_isNumberIn d mc ms al bc bs 38 [(0, .ref v0), (1, .int v1), (2, .int v2)] [] Γ I L Q) (kf : ¬ (I v0 11) ≤ v2 → am_W m_X3_isNumberIn d mc ms al bc bs 30 [(0, .ref v0), (1, .int v1), (2, .int v2)] [] Γ I L Q) : am_W m_X3_isNumberIn d mc ms al bc bs 22 [(0, .ref v0), (1, .int v1), (2, .int v2)] [] Γ I L Q := by
  refine aw_aload_n dX3_isNumberIn_22 rfl ?_
  refine aw_getI dX3_isNumberIn_23 f_X3_66 o1 rfl ?_
  refine aw_iload_n dX3_isNumberIn_26 rfl ?_
  exact aw_icmp_le dX3_isNumberIn_27 (by decide) kt kf
theorem bX3_isNumberIn_30 {d mc ms : Nat} {al : Bool} {bc bs : Nat} {Γ : am_G} {I : am_I} {L : am_L} {Q : am_Q} {v0 : Nat} {v1 : Int32} {v2 : Int32} {I' : am_I} {L' : am_L} {mc' : Nat} {ms' : Nat} {r : Int32} (o1 : am_ob Γ v0 3) (hbc : mc' ≤ bc) (hbs : ms' ≤ bs) (hC : am_E m_X3_fail d mc' ms' [.ref v0, .int 2] Γ I L (.inl (some (.int r))) I' L') (kk : am_W m_X3_isNumberIn (d + 1) mc ms al (bc - mc') (bs - ms') 35 [(0, .ref v0), (1, .int v1), (2, .int v2)] [.int r] Γ I' L' Q) : am_W m_X3_isNumberIn (d + 1) mc ms al bc bs 30 [(0, .ref v0), (1, .int v1), (2, .int v2)] [] Γ I L Q := by
  refine aw_aload_n dX3_isNumberIn_30 rfl ?_
  refine aw_iconst dX3_isNumberIn_31 ci_2 ?_
  exact aw_askV (as := [.int 2]) (rst := []) k_X3_fail l_X3_83 i_X3_fail s_X3_fail rfl o1 dX3_isNumberIn_32 rfl (Nat.le_of_ble_eq_true rfl) hbc hbs hC rfl rfl kk
theorem bX3_isNumberIn_35 {d mc ms : Nat} {al : Bool} {bc bs : Nat} {Γ : am_G} {I : am_I} {L : am_L} {Q : am_Q} {v0 : Nat} {v1 : Int32} {v2 : Int32} {w0 : Int32} (kt : w0 = 0 → am_W m_X3_isNumberIn d mc ms al bc bs 42 [(0, .ref v0), (1, .int v1), (2, .int v2)] [] Γ I L Q) (kf : ¬ w0 = 0 → am_W m_X3_isNumberIn d mc ms al bc bs 38 [(0, .ref v0), (1, .int v1), (2, .int v2)] [] Γ I L Q) : am_W m_X3_isNumberIn d mc ms al bc bs 35 [(0, .ref v0), (1, .int v1), (2, .int v2)] [.int w0] Γ I L Q := by
  exact aw_if_eq dX3_isNumberIn_35 (by decide) kt kf
theorem bX3_isNumberIn_38 {d mc ms : Nat} {al : Bool} {bc bs : Nat} {Γ : am_G} {I : am_I} {L : am_L} {Q : am_Q} {v0 : Nat} {v1 : Int32} {v2 : Int32} (kk : am_W m_X3_isNumberIn d mc ms al bc bs 43 [(0, .ref v0), (1, .int v1), (2, .int v2)] [.int 1] Γ I L Q) : am_W m_X3_isNumberIn d mc ms al bc bs 38 [(0, .ref v0), (1, .int v1), (2, .int v2)] [] Γ I L Q := by
  refine aw_iconst dX3_isNumberIn_38 ci_1 ?_
  exact aw_goto dX3_isNumberIn_39 (by decide) kk
theorem bX3_isNumberIn_42 {d mc ms : Nat} {al : Bool} {bc bs : Nat} {Γ : am_G} {I : am_I} {L : am_L} {Q : am_Q} {v0 : Nat} {v1 : Int32} {v2 : Int32} (kk : am_W m_X3_isNumberIn d mc ms al bc bs 43 [(0, .ref v0), (1, .int v1), (2, .int v2)] [.int 0] Γ I L Q) : am_W m_X3_isNumberIn d mc ms al bc bs 42 [(0, .ref v0), (1, .int v1), (2, .int v2)] [] Γ I L Q := by
  refine aw_iconst dX3_isNumberIn_42 ci_0 ?_
  exact kk
theorem bX3_isNumberIn_43 {d mc ms : Nat} {al : Bool} {bc bs : Nat} {Γ : am_G} {I : am_I} {L : am_L} {Q : am_Q} {v0 : Nat} {v1 : Int32} {v2 : Int32} {w0 : Int32} (hz : narrow .boolean (.int w0) = .int w0) (hq : Q (.inl (some (.int w0))) Γ I L) : am_W m_X3_isNumberIn d mc ms al bc bs 43 [(0, .ref v0), (1, .int v1), (2, .int v2)] [.int w0] Γ I L Q := by
  exact aw_zret (ty := .boolean) dX3_isNumberIn_43 rfl hz hq
theorem dX3_takeNumber_0 : decode cX3_takeNumber 0 = .ok (.aload_n 0, 1) := by decide +kernel
theorem dX3_takeNumber_1 : decode cX3_takeNumber 1 = .ok (.iload_n 1, 1) := by decide +kernel
theorem dX3_takeNumber_2 : decode cX3_takeNumber 2 = .ok (.iload_n 2, 1) := by decide +kernel
theorem dX3_takeNumber_3 : decode cX3_takeNumber 3 = .ok (.invokevirtual 87, 3) := by decide +kernel
theorem dX3_takeNumber_6 : decode cX3_takeNumber 6 = .ok (.ifCond .ne 5, 3) := by decide +kernel
theorem dX3_takeNumber_9 : decode cX3_takeNumber 9 = .ok (.iconst (-1), 1) := by decide +kernel
theorem dX3_takeNumber_10 : decode cX3_takeNumber 10 = .ok (.ireturn, 1) := by decide +kernel
theorem dX3_takeNumber_11 : decode cX3_takeNumber 11 = .ok (.aload_n 0, 1) := by decide +kernel
theorem dX3_takeNumber_12 : decode cX3_takeNumber 12 = .ok (.getfield 66, 3) := by decide +kernel
theorem dX3_takeNumber_15 : decode cX3_takeNumber 15 = .ok (.istore_n 3, 1) := by decide +kernel
theorem dX3_takeNumber_16 : decode cX3_takeNumber 16 = .ok (.aload_n 0, 1) := by decide +kernel
theorem dX3_takeNumber_17 : decode cX3_takeNumber 17 = .ok (.invokevirtual 43, 3) := by decide +kernel
theorem dX3_takeNumber_20 : decode cX3_takeNumber 20 = .ok (.iload_n 3, 1) := by decide +kernel
theorem dX3_takeNumber_21 : decode cX3_takeNumber 21 = .ok (.ireturn, 1) := by decide +kernel
theorem bX3_takeNumber_0 {d mc ms : Nat} {al : Bool} {bc bs : Nat} {Γ : am_G} {I : am_I} {L : am_L} {Q : am_Q} {v0 : Nat} {v1 : Int32} {v2 : Int32} {I' : am_I} {L' : am_L} {mc' : Nat} {ms' : Nat} {r : Int32} (o1 : am_ob Γ v0 3) (hbc : mc' ≤ bc) (hbs : ms' ≤ bs) (hC : am_E m_X3_isNumberIn d mc' ms' [.ref v0, .int v1, .int v2] Γ I L (.inl (some (.int r))) I' L') (kk : am_W m_X3_takeNumber (d + 1) mc ms al (bc - mc') (bs - ms') 6 [(0, .ref v0), (1, .int v1), (2, .int v2)] [.int r] Γ I' L' Q) : am_W m_X3_takeNumber (d + 1) mc ms al bc bs 0 [(0, .ref v0), (1, .int v1), (2, .int v2)] [] Γ I L Q := by
  refine aw_aload_n dX3_takeNumber_0 rfl ?_
  refine aw_iload_n dX3_takeNumber_1 rfl ?_
  refine aw_iload_n dX3_takeNumber_2 rfl ?_
  exact aw_askV (as := [.int v1, .int v2]) (rst := []) k_X3_isNumberIn l_X3_87 i_X3_isNumberIn s_X3_isNumberIn rfl o1 dX3_takeNumber_3 rfl (Nat.le_of_ble_eq_true rfl) hbc hbs hC rfl rfl kk
theorem bX3_takeNumber_6 {d mc ms : Nat} {al : Bool} {bc bs : Nat} {Γ : am_G} {I : am_I} {L : am_L} {Q : am_Q} {v0 : Nat} {v1 : Int32} {v2 : Int32} {w0 : Int32} (kt : ¬ w0 = 0 → am_W m_X3_takeNumber d mc ms al bc bs 11 [(0, .ref v0), (1, .int v1), (2, .int v2)] [] Γ I L Q) (kf : w0 = 0 → am_W m_X3_takeNumber d mc ms al bc bs 9 [(0, .ref v0), (1, .int v1), (2, .int v2)] [] Γ I L Q) : am_W m_X3_takeNumber d mc ms al bc bs 6 [(0, .ref v0), (1, .int v1), (2, .int v2)] [.int w0] Γ I L Q := by
  exact aw_if_ne dX3_takeNumber_6 (by decide) kt kf
theorem bX3_takeNumber_9 {d mc ms : Nat} {al : Bool} {bc bs : Nat} {Γ : am_G} {I : am_I} {L : am_L} {Q : am_Q} {v0 : Nat} {v1 : Int32} {v2 : Int32} (hq : Q (.inl (some (.int (-1)))) Γ I L) : am_W m_X3_takeNumber d mc ms al bc bs 9 [(0, .ref v0), (1, .int v1), (2, .int v2)] [] Γ I L Q := by
  refine aw_iconst dX3_takeNumber_9 ci_m1 ?_
  exact aw_iret dX3_takeNumber_10 rfl hq
theorem bX3_takeNumber_11 {d mc ms : Nat} {al : Bool} {bc bs : Nat} {Γ : am_G} {I : am_I} {L : am_L} {Q : am_Q} {v0 : Nat} {v1 : Int32} {v2 : Int32} {I' : am_I} {L' : am_L} {mc' : Nat} {ms' : Nat} (o1 : am_ob Γ v0 3) (hbc : mc' ≤ bc) (hbs : ms' ≤ bs) (hC : am_E m_X3_advance d mc' ms' [.ref v0] Γ I L (.inl none) I' L') (kk : am_W m_X3_takeNumber (d + 1) mc ms al (bc - mc') (bs - ms') 20 [(0, .ref v0), (1, .int v1), (2, .int v2), (3, .int (I v0 11))] [] Γ I' L' Q) : am_W m_X3_takeNumber (d + 1) mc ms al bc bs 11 [(0, .ref v0), (1, .int v1), (2, .int v2)] [] Γ I L Q := by
  refine aw_aload_n dX3_takeNumber_11 rfl ?_
  refine aw_getI dX3_takeNumber_12 f_X3_66 o1 rfl ?_
  refine aw_istore_n (ls' := [(0, .ref v0), (1, .int v1), (2, .int v2), (3, .int (I v0 11))]) dX3_takeNumber_15 (by decide) rfl ?_
  refine aw_aload_n dX3_takeNumber_16 rfl ?_
  exact aw_askV (as := []) (rst := []) k_X3_advance l_X3_43 i_X3_advance s_X3_advance rfl o1 dX3_takeNumber_17 rfl (Nat.le_of_ble_eq_true rfl) hbc hbs hC rfl rfl kk
theorem bX3_takeNumber_20 {d mc ms : Nat} {al : Bool} {bc bs : Nat} {Γ : am_G} {I : am_I} {L : am_L} {Q : am_Q} {v0 : Nat} {v1 : Int32} {v2 : Int32} {v3 : Int32} (hq : Q (.inl (some (.int v3))) Γ I L) : am_W m_X3_takeNumber d mc ms al bc bs 20 [(0, .ref v0), (1, .int v1), (2, .int v2), (3, .int v3)] [] Γ I L Q := by
  refine aw_iload_n dX3_takeNumber_20 rfl ?_
  exact aw_iret dX3_takeNumber_21 rfl hq
theorem dX3_isNewName_0 : decode cX3_isNewName 0 = .ok (.aload_n 0, 1) := by decide +kernel
theorem dX3_isNewName_1 : decode cX3_isNewName 1 = .ok (.invokevirtual 91, 3) := by decide +kernel
theorem dX3_isNewName_4 : decode cX3_isNewName 4 = .ok (.ifCond .ne 9, 3) := by decide +kernel
theorem dX3_isNewName_7 : decode cX3_isNewName 7 = .ok (.aload_n 0, 1) := by decide +kernel
theorem dX3_isNewName_8 : decode cX3_isNewName 8 = .ok (.iconst 1, 1) := by decide +kernel
theorem dX3_isNewName_9 : decode cX3_isNewName 9 = .ok (.invokevirtual 83, 3) := by decide +kernel
theorem dX3_isNewName_12 : decode cX3_isNewName 12 = .ok (.ireturn, 1) := by decide +kernel
theorem dX3_isNewName_13 : decode cX3_isNewName 13 = .ok (.iload_n 1, 1) := by decide +kernel
theorem dX3_isNewName_14 : decode cX3_isNewName 14 = .ok (.iconst (-1), 1) := by decide +kernel
theorem dX3_isNewName_15 : decode cX3_isNewName 15 = .ok (.if_icmp .eq 11, 3) := by decide +kernel
theorem dX3_isNewName_18 : decode cX3_isNewName 18 = .ok (.aload_n 0, 1) := by decide +kernel
theorem dX3_isNewName_19 : decode cX3_isNewName 19 = .ok (.iconst 4, 1) := by decide +kernel
theorem dX3_isNewName_20 : decode cX3_isNewName 20 = .ok (.invokevirtual 83, 3) := by decide +kernel
theorem dX3_isNewName_23 : decode cX3_isNewName 23 = .ok (.ifCond .eq 7, 3) := by decide +kernel
theorem dX3_isNewName_26 : decode cX3_isNewName 26 = .ok (.iconst 1, 1) := by decide +kernel
theorem dX3_isNewName_27 : decode cX3_isNewName 27 = .ok (.goto 4, 3) := by decide +kernel
theorem dX3_isNewName_30 : decode cX3_isNewName 30 = .ok (.iconst 0, 1) := by decide +kernel
theorem dX3_isNewName_31 : decode cX3_isNewName 31 = .ok (.ireturn, 1) := by decide +kernel
theorem bX3_isNewName_0 {d mc ms : Nat} {al : Bool} {bc bs : Nat} {Γ : am_G} {I : am_I} {L : am_L} {Q : am_Q} {v0 : Nat} {v1 : Int32} {I' : am_I} {L' : am_L} {mc' : Nat} {ms' : Nat} {r : Int32} (o1 : am_ob Γ v0 3) (hbc : mc' ≤ bc) (hbs : ms' ≤ bs) (hC : am_E m_X3_isName d mc' ms' [.ref v0] Γ I L (.inl (some (.int r))) I' L') (kk : am_W m_X3_isNewName (d + 1) mc ms al (bc - mc') (bs - ms') 4 [(0, .ref v0), (1, .int v1)] [.int r] Γ I' L' Q) : am_W m_X3_isNewName (d + 1) mc ms al bc bs 0 [(0, .ref v0), (1, .int v1)] [] Γ I L Q := by
  refine aw_aload_n dX3_isNewName_0 rfl ?_
  exact aw_askV (as := []) (rst := []) k_X3_isName l_X3_91 i_X3_isName s_X3_isName rfl o1 dX3_isNewName_1 rfl (Nat.le_of_ble_eq_true rfl) hbc hbs hC rfl rfl kk
theorem bX3_isNewName_4 {d mc ms : Nat} {al : Bool} {bc bs : Nat} {Γ : am_G} {I : am_I} {L : am_L} {Q : am_Q} {v0 : Nat} {v1 : Int32} {w0 : Int32} (kt : ¬ w0 = 0 → am_W m_X3_isNewName d mc ms al bc bs 13 [(0, .ref v0), (1, .int v1)] [] Γ I L Q) (kf : w0 = 0 → am_W m_X3_isNewName d mc ms al bc bs 7 [(0, .ref v0), (1, .int v1)] [] Γ I L Q) : am_W m_X3_isNewName d mc ms al bc bs 4 [(0, .ref v0), (1, .int v1)] [.int w0] Γ I L Q := by
  exact aw_if_ne dX3_isNewName_4 (by decide) kt kf
theorem bX3_isNewName_7 {d mc ms : Nat} {al : Bool} {bc bs : Nat} {Γ : am_G} {I : am_I} {L : am_L} {Q : am_Q} {v0 : Nat} {v1 : Int32} {I' : am_I} {L' : am_L} {mc' : Nat} {ms' : Nat} {r : Int32} (o1 : am_ob Γ v0 3) (hbc : mc' ≤ bc) (hbs : ms' ≤ bs) (hC : am_E m_X3_fail d mc' ms' [.ref v0, .int 1] Γ I L (.inl (some (.int r))) I' L') (kk : am_W m_X3_isNewName (d + 1) mc ms al (bc - mc') (bs - ms') 12 [(0, .ref v0), (1, .int v1)] [.int r] Γ I' L' Q) : am_W m_X3_isNewName (d + 1) mc ms al bc bs 7 [(0, .ref v0), (1, .int v1)] [] Γ I L Q := by
  refine aw_aload_n dX3_isNewName_7 rfl ?_
  refine aw_iconst dX3_isNewName_8 ci_1 ?_
  exact aw_askV (as := [.int 1]) (rst := []) k_X3_fail l_X3_83 i_X3_fail s_X3_fail rfl o1 dX3_isNewName_9 rfl (Nat.le_of_ble_eq_true rfl) hbc hbs hC rfl rfl kk
theorem bX3_isNewName_12 {d mc ms : Nat} {al : Bool} {bc bs : Nat} {Γ : am_G} {I : am_I} {L : am_L} {Q : am_Q} {v0 : Nat} {v1 : Int32} {w0 : Int32} (hz : narrow .boolean (.int w0) = .int w0) (hq : Q (.inl (some (.int w0))) Γ I L) : am_W m_X3_isNewName d mc ms al bc bs 12 [(0, .ref v0), (1, .int v1)] [.int w0] Γ I L Q := by
  exact aw_zret (ty := .boolean) dX3_isNewName_12 rfl hz hq
theorem bX3_isNewName_13 {d mc ms : Nat} {al : Bool} {bc bs : Nat} {Γ : am_G} {I : am_I} {L : am_L} {Q : am_Q} {v0 : Nat} {v1 : Int32} (kt : v1 = (-1) → am_W m_X3_isNewName d mc ms al bc bs 26 [(0, .ref v0), (1, .int v1)] [] Γ I L Q) (kf : ¬ v1 = (-1) → am_W m_X3_isNewName d mc ms al bc bs 18 [(0, .ref v0), (1, .int v1)] [] Γ I L Q) : am_W m_X3_isNewName d mc ms al bc bs 13 [(0, .ref v0), (1, .int v1)] [] Γ I L Q := by
  refine aw_iload_n dX3_isNewName_13 rfl ?_
  refine aw_iconst dX3_isNewName_14 ci_m1 ?_
  exact aw_icmp_eq dX3_isNewName_15 (by decide) kt kf
theorem bX3_isNewName_18 {d mc ms : Nat} {al : Bool} {bc bs : Nat} {Γ : am_G} {I : am_I} {L : am_L} {Q : am_Q} {v0 : Nat} {v1 : Int32} {I' : am_I} {L' : am_L} {mc' : Nat} {ms' : Nat} {r : Int32} (o1 : am_ob Γ v0 3) (hbc : mc' ≤ bc) (hbs : ms' ≤ bs) (hC : am_E m_X3_fail d mc' ms' [.ref v0, .int 4] Γ I L (.inl (some (.int r))) I' L') (kk : am_W m_X3_isNewName (d + 1) mc ms al (bc - mc') (bs - ms') 23 [(0, .ref v0), (1, .int v1)] [.int r] Γ I' L' Q) : am_W m_X3_isNewName (d + 1) mc ms al bc bs 18 [(0, .ref v0), (1, .int v1)] [] Γ I L Q := by
  refine aw_aload_n dX3_isNewName_18 rfl ?_
  refine aw_iconst dX3_isNewName_19 ci_4 ?_
  exact aw_askV (as := [.int 4]) (rst := []) k_X3_fail l_X3_83 i_X3_fail s_X3_fail rfl o1 dX3_isNewName_20 rfl (Nat.le_of_ble_eq_true rfl) hbc hbs hC rfl rfl kk
theorem bX3_isNewName_23 {d mc ms : Nat} {al : Bool} {bc bs : Nat} {Γ : am_G} {I : am_I} {L : am_L} {Q : am_Q} {v0 : Nat} {v1 : Int32} {w0 : Int32} (kt : w0 = 0 → am_W m_X3_isNewName d mc ms al bc bs 30 [(0, .ref v0), (1, .int v1)] [] Γ I L Q) (kf : ¬ w0 = 0 → am_W m_X3_isNewName d mc ms al bc bs 26 [(0, .ref v0), (1, .int v1)] [] Γ I L Q) : am_W m_X3_isNewName d mc ms al bc bs 23 [(0, .ref v0), (1, .int v1)] [.int w0] Γ I L Q := by
  exact aw_if_eq dX3_isNewName_23 (by decide) kt kf
theorem bX3_isNewName_26 {d mc ms : Nat} {al : Bool} {bc bs : Nat} {Γ : am_G} {I : am_I} {L : am_L} {Q : am_Q} {v0 : Nat} {v1 : Int32} (kk : am_W m_X3_isNewName d mc ms al bc bs 31 [(0, .ref v0), (1, .int v1)] [.int 1] Γ I L Q) : am_W m_X3_isNewName d mc ms al bc bs 26 [(0, .ref v0), (1, .int v1)] [] Γ I L Q := by
  refine aw_iconst dX3_isNewName_26 ci_1 ?_
  exact aw_goto dX3_isNewName_27 (by decide) kk
theorem bX3_isNewName_30 {d mc ms : Nat} {al : Bool} {bc bs : Nat} {Γ : am_G} {I : am_I} {L : am_L} {Q : am_Q} {v0 : Nat} {v1 : Int32} (kk : am_W m_X3_isNewName d mc ms al bc bs 31 [(0, .ref v0), (1, .int v1)] [.int 0] Γ I L Q) : am_W m_X3_isNewName d mc ms al bc bs 30 [(0, .ref v0), (1, .int v1)] [] Γ I L Q := by
  refine aw_iconst dX3_isNewName_30 ci_0 ?_
  exact kk
theorem bX3_isNewName_31 {d mc ms : Nat} {al : Bool} {bc bs : Nat} {Γ : am_G} {I : am_I} {L : am_L} {Q : am_Q} {v0 : Nat} {v1 : Int32} {w0 : Int32} (hz : narrow .boolean (.int w0) = .int w0) (hq : Q (.inl (some (.int w0))) Γ I L) : am_W m_X3_isNewName d mc ms al bc bs 31 [(0, .ref v0), (1, .int v1)] [.int w0] Γ I L Q := by
  exact aw_zret (ty := .boolean) dX3_isNewName_31 rfl hz hq
theorem dX3_isKnownName_0 : decode cX3_isKnownName 0 = .ok (.aload_n 0, 1) := by decide +kernel
theorem dX3_isKnownName_1 : decode cX3_isKnownName 1 = .ok (.invokevirtual 91, 3) := by decide +kernel
theorem dX3_isKnownName_4 : decode cX3_isKnownName 4 = .ok (.ifCond .ne 9, 3) := by decide +kernel
theorem dX3_isKnownName_7 : decode cX3_isKnownName 7 = .ok (.aload_n 0, 1) := by decide +kernel
theorem dX3_isKnownName_8 : decode cX3_isKnownName 8 = .ok (.iconst 1, 1) := by decide +kernel
theorem dX3_isKnownName_9 : decode cX3_isKnownName 9 = .ok (.invokevirtual 83, 3) := by decide +kernel
theorem dX3_isKnownName_12 : decode cX3_isKnownName 12 = .ok (.ireturn, 1) := by decide +kernel
theorem dX3_isKnownName_13 : decode cX3_isKnownName 13 = .ok (.iload_n 1, 1) := by decide +kernel
theorem dX3_isKnownName_14 : decode cX3_isKnownName 14 = .ok (.iconst (-1), 1) := by decide +kernel
theorem dX3_isKnownName_15 : decode cX3_isKnownName 15 = .ok (.if_icmp .ne 11, 3) := by decide +kernel
theorem dX3_isKnownName_18 : decode cX3_isKnownName 18 = .ok (.aload_n 0, 1) := by decide +kernel
theorem dX3_isKnownName_19 : decode cX3_isKnownName 19 = .ok (.iconst 3, 1) := by decide +kernel
theorem dX3_isKnownName_20 : decode cX3_isKnownName 20 = .ok (.invokevirtual 83, 3) := by decide +kernel
theorem dX3_isKnownName_23 : decode cX3_isKnownName 23 = .ok (.ifCond .eq 7, 3) := by decide +kernel
theorem dX3_isKnownName_26 : decode cX3_isKnownName 26 = .ok (.iconst 1, 1) := by decide +kernel
theorem dX3_isKnownName_27 : decode cX3_isKnownName 27 = .ok (.goto 4, 3) := by decide +kernel
theorem dX3_isKnownName_30 : decode cX3_isKnownName 30 = .ok (.iconst 0, 1) := by decide +kernel
theorem dX3_isKnownName_31 : decode cX3_isKnownName 31 = .ok (.ireturn, 1) := by decide +kernel
theorem bX3_isKnownName_0 {d mc ms : Nat} {al : Bool} {bc bs : Nat} {Γ : am_G} {I : am_I} {L : am_L} {Q : am_Q} {v0 : Nat} {v1 : Int32} {I' : am_I} {L' : am_L} {mc' : Nat} {ms' : Nat} {r : Int32} (o1 : am_ob Γ v0 3) (hbc : mc' ≤ bc) (hbs : ms' ≤ bs) (hC : am_E m_X3_isName d mc' ms' [.ref v0] Γ I L (.inl (some (.int r))) I' L') (kk : am_W m_X3_isKnownName (d + 1) mc ms al (bc - mc') (bs - ms') 4 [(0, .ref v0), (1, .int v1)] [.int r] Γ I' L' Q) : am_W m_X3_isKnownName (d + 1) mc ms al bc bs 0 [(0, .ref v0), (1, .int v1)] [] Γ I L Q := by
  refine aw_aload_n dX3_isKnownName_0 rfl ?_
  exact aw_askV (as := []) (rst := []) k_X3_isName l_X3_91 i_X3_isName s_X3_isName rfl o1 dX3_isKnownName_1 rfl (Nat.le_of_ble_eq_true rfl) hbc hbs hC rfl rfl kk
theorem bX3_isKnownName_4 {d mc ms : Nat} {al : Bool} {bc bs : Nat} {Γ : am_G} {I : am_I} {L : am_L} {Q : am_Q} {v0 : Nat} {v1 : Int32} {w0 : Int32} (kt : ¬ w0 = 0 → am_W m_X3_isKnownName d mc ms al bc bs 13 [(0, .ref v0), (1, .int v1)] [] Γ I L Q) (kf : w0 = 0 → am_W m_X3_isKnownName d mc ms al bc bs 7 [(0, .ref v0), (1, .int v1)] [] Γ I L Q) : am_W m_X3_isKnownName d mc ms al bc bs 4 [(0, .ref v0), (1, .int v1)] [.int w0] Γ I L Q := by
  exact aw_if_ne dX3_isKnownName_4 (by decide) kt kf
theorem bX3_isKnownName_7 {d mc ms : Nat} {al : Bool} {bc bs : Nat} {Γ : am_G} {I : am_I} {L : am_L} {Q : am_Q} {v0 : Nat} {v1 : Int32} {I' : am_I} {L' : am_L} {mc' : Nat} {ms' : Nat} {r : Int32} (o1 : am_ob Γ v0 3) (hbc : mc' ≤ bc) (hbs : ms' ≤ bs) (hC : am_E m_X3_fail d mc' ms' [.ref v0, .int 1] Γ I L (.inl (some (.int r))) I' L') (kk : am_W m_X3_isKnownName (d + 1) mc ms al (bc - mc') (bs - ms') 12 [(0, .ref v0), (1, .int v1)] [.int r] Γ I' L' Q) : am_W m_X3_isKnownName (d + 1) mc ms al bc bs 7 [(0, .ref v0), (1, .int v1)] [] Γ I L Q := by
  refine aw_aload_n dX3_isKnownName_7 rfl ?_
  refine aw_iconst dX3_isKnownName_8 ci_1 ?_
  exact aw_askV (as := [.int 1]) (rst := []) k_X3_fail l_X3_83 i_X3_fail s_X3_fail rfl o1 dX3_isKnownName_9 rfl (Nat.le_of_ble_eq_true rfl) hbc hbs hC rfl rfl kk
theorem bX3_isKnownName_12 {d mc ms : Nat} {al : Bool} {bc bs : Nat} {Γ : am_G} {I : am_I} {L : am_L} {Q : am_Q} {v0 : Nat} {v1 : Int32} {w0 : Int32} (hz : narrow .boolean (.int w0) = .int w0) (hq : Q (.inl (some (.int w0))) Γ I L) : am_W m_X3_isKnownName d mc ms al bc bs 12 [(0, .ref v0), (1, .int v1)] [.int w0] Γ I L Q := by
  exact aw_zret (ty := .boolean) dX3_isKnownName_12 rfl hz hq
theorem bX3_isKnownName_13 {d mc ms : Nat} {al : Bool} {bc bs : Nat} {Γ : am_G} {I : am_I} {L : am_L} {Q : am_Q} {v0 : Nat} {v1 : Int32} (kt : ¬ v1 = (-1) → am_W m_X3_isKnownName d mc ms al bc bs 26 [(0, .ref v0), (1, .int v1)] [] Γ I L Q) (kf : v1 = (-1) → am_W m_X3_isKnownName d mc ms al bc bs 18 [(0, .ref v0), (1, .int v1)] [] Γ I L Q) : am_W m_X3_isKnownName d mc ms al bc bs 13 [(0, .ref v0), (1, .int v1)] [] Γ I L Q := by
  refine aw_iload_n dX3_isKnownName_13 rfl ?_
  refine aw_iconst dX3_isKnownName_14 ci_m1 ?_
  exact aw_icmp_ne dX3_isKnownName_15 (by decide) kt kf
theorem bX3_isKnownName_18 {d mc ms : Nat} {al : Bool} {bc bs : Nat} {Γ : am_G} {I : am_I} {L : am_L} {Q : am_Q} {v0 : Nat} {v1 : Int32} {I' : am_I} {L' : am_L} {mc' : Nat} {ms' : Nat} {r : Int32} (o1 : am_ob Γ v0 3) (hbc : mc' ≤ bc) (hbs : ms' ≤ bs) (hC : am_E m_X3_fail d mc' ms' [.ref v0, .int 3] Γ I L (.inl (some (.int r))) I' L') (kk : am_W m_X3_isKnownName (d + 1) mc ms al (bc - mc') (bs - ms') 23 [(0, .ref v0), (1, .int v1)] [.int r] Γ I' L' Q) : am_W m_X3_isKnownName (d + 1) mc ms al bc bs 18 [(0, .ref v0), (1, .int v1)] [] Γ I L Q := by
  refine aw_aload_n dX3_isKnownName_18 rfl ?_
  refine aw_iconst dX3_isKnownName_19 ci_3 ?_
  exact aw_askV (as := [.int 3]) (rst := []) k_X3_fail l_X3_83 i_X3_fail s_X3_fail rfl o1 dX3_isKnownName_20 rfl (Nat.le_of_ble_eq_true rfl) hbc hbs hC rfl rfl kk
theorem bX3_isKnownName_23 {d mc ms : Nat} {al : Bool} {bc bs : Nat} {Γ : am_G} {I : am_I} {L : am_L} {Q : am_Q} {v0 : Nat} {v1 : Int32} {w0 : Int32} (kt : w0 = 0 → am_W m_X3_isKnownName d mc ms al bc bs 30 [(0, .ref v0), (1, .int v1)] [] Γ I L Q) (kf : ¬ w0 = 0 → am_W m_X3_isKnownName d mc ms al bc bs 26 [(0, .ref v0), (1, .int v1)] [] Γ I L Q) : am_W m_X3_isKnownName d mc ms al bc bs 23 [(0, .ref v0), (1, .int v1)] [.int w0] Γ I L Q := by
  exact aw_if_eq dX3_isKnownName_23 (by decide) kt kf
theorem bX3_isKnownName_26 {d mc ms : Nat} {al : Bool} {bc bs : Nat} {Γ : am_G} {I : am_I} {L : am_L} {Q : am_Q} {v0 : Nat} {v1 : Int32} (kk : am_W m_X3_isKnownName d mc ms al bc bs 31 [(0, .ref v0), (1, .int v1)] [.int 1] Γ I L Q) : am_W m_X3_isKnownName d mc ms al bc bs 26 [(0, .ref v0), (1, .int v1)] [] Γ I L Q := by
  refine aw_iconst dX3_isKnownName_26 ci_1 ?_
  exact aw_goto dX3_isKnownName_27 (by decide) kk
theorem bX3_isKnownName_30 {d mc ms : Nat} {al : Bool} {bc bs : Nat} {Γ : am_G} {I : am_I} {L : am_L} {Q : am_Q} {v0 : Nat} {v1 : Int32} (kk : am_W m_X3_isKnownName d mc ms al bc bs 31 [(0, .ref v0), (1, .int v1)] [.int 0] Γ I L Q) : am_W m_X3_isKnownName d mc ms al bc bs 30 [(0, .ref v0), (1, .int v1)] [] Γ I L Q := by
  refine aw_iconst dX3_isKnownName_30 ci_0 ?_
  exact kk
theorem bX3_isKnownName_31 {d mc ms : Nat} {al : Bool} {bc bs : Nat} {Γ : am_G} {I : am_I} {L : am_L} {Q : am_Q} {v0 : Nat} {v1 : Int32} {w0 : Int32} (hz : narrow .boolean (.int w0) = .int w0) (hq : Q (.inl (some (.int w0))) Γ I L) : am_W m_X3_isKnownName d mc ms al bc bs 31 [(0, .ref v0), (1, .int v1)] [.int w0] Γ I L Q := by
  exact aw_zret (ty := .boolean) dX3_isKnownName_31 rfl hz hq
theorem dX3_takeKnown_0 : decode cX3_takeKnown 0 = .ok (.aload_n 0, 1) := by decide +kernel
theorem dX3_takeKnown_1 : decode cX3_takeKnown 1 = .ok (.iload_n 1, 1) := by decide +kernel
theorem dX3_takeKnown_2 : decode cX3_takeKnown 2 = .ok (.invokevirtual 95, 3) := by decide +kernel
theorem dX3_takeKnown_5 : decode cX3_takeKnown 5 = .ok (.ifCond .ne 5, 3) := by decide +kernel
theorem dX3_takeKnown_8 : decode cX3_takeKnown 8 = .ok (.iconst (-1), 1) := by decide +kernel
theorem dX3_takeKnown_9 : decode cX3_takeKnown 9 = .ok (.ireturn, 1) := by decide +kernel
theorem dX3_takeKnown_10 : decode cX3_takeKnown 10 = .ok (.aload_n 0, 1) := by decide +kernel
theorem dX3_takeKnown_11 : decode cX3_takeKnown 11 = .ok (.invokevirtual 43, 3) := by decide +kernel
theorem dX3_takeKnown_14 : decode cX3_takeKnown 14 = .ok (.iload_n 1, 1) := by decide +kernel
theorem dX3_takeKnown_15 : decode cX3_takeKnown 15 = .ok (.ireturn, 1) := by decide +kernel
theorem bX3_takeKnown_0 {d mc ms : Nat} {al : Bool} {bc bs : Nat} {Γ : am_G} {I : am_I} {L : am_L} {Q : am_Q} {v0 : Nat} {v1 : Int32} {I' : am_I} {L' : am_L} {mc' : Nat} {ms' : Nat} {r : Int32} (o1 : am_ob Γ v0 3) (hbc : mc' ≤ bc) (hbs : ms' ≤ bs) (hC : am_E m_X3_isKnownName d mc' ms' [.ref v0, .int v1] Γ I L (.inl (some (.int r))) I' L') (kk : am_W m_X3_takeKnown (d + 1) mc ms al (bc - mc') (bs - ms') 5 [(0, .ref v0), (1, .int v1)] [.int r] Γ I' L' Q) : am_W m_X3_takeKnown (d + 1) mc ms al bc bs 0 [(0, .ref v0), (1, .int v1)] [] Γ I L Q := by
  refine aw_aload_n dX3_takeKnown_0 rfl ?_
  refine aw_iload_n dX3_takeKnown_1 rfl ?_
  exact aw_askV (as := [.int v1]) (rst := []) k_X3_isKnownName l_X3_95 i_X3_isKnownName s_X3_isKnownName rfl o1 dX3_takeKnown_2 rfl (Nat.le_of_ble_eq_true rfl) hbc hbs hC rfl rfl kk
theorem bX3_takeKnown_5 {d mc ms : Nat} {al : Bool} {bc bs : Nat} {Γ : am_G} {I : am_I} {L : am_L} {Q : am_Q} {v0 : Nat} {v1 : Int32} {w0 : Int32} (kt : ¬ w0 = 0 → am_W m_X3_takeKnown d mc ms al bc bs 10 [(0, .ref v0), (1, .int v1)] [] Γ I L Q) (kf : w0 = 0 → am_W m_X3_takeKnown d mc ms al bc bs 8 [(0, .ref v0), (1, .int v1)] [] Γ I L Q) : am_W m_X3_takeKnown d mc ms al bc bs 5 [(0, .ref v0), (1, .int v1)] [.int w0] Γ I L Q := by
  exact aw_if_ne dX3_takeKnown_5 (by decide) kt kf
theorem bX3_takeKnown_8 {d mc ms : Nat} {al : Bool} {bc bs : Nat} {Γ : am_G} {I : am_I} {L : am_L} {Q : am_Q} {v0 : Nat} {v1 : Int32} (hq : Q (.inl (some (.int (-1)))) Γ I L) : am_W m_X3_takeKnown d mc ms al bc bs 8 [(0, .ref v0), (1, .int v1)] [] Γ I L Q := by
  refine aw_iconst dX3_takeKnown_8 ci_m1 ?_
  exact aw_iret dX3_takeKnown_9 rfl hq
theorem bX3_takeKnown_10 {d mc ms : Nat} {al : Bool} {bc bs : Nat} {Γ : am_G} {I : am_I} {L : am_L} {Q : am_Q} {v0 : Nat} {v1 : Int32} {I' : am_I} {L' : am_L} {mc' : Nat} {ms' : Nat} (o1 : am_ob Γ v0 3) (hbc : mc' ≤ bc) (hbs : ms' ≤ bs) (hC : am_E m_X3_advance d mc' ms' [.ref v0] Γ I L (.inl none) I' L') (kk : am_W m_X3_takeKnown (d + 1) mc ms al (bc - mc') (bs - ms') 14 [(0, .ref v0), (1, .int v1)] [] Γ I' L' Q) : am_W m_X3_takeKnown (d + 1) mc ms al bc bs 10 [(0, .ref v0), (1, .int v1)] [] Γ I L Q := by
  refine aw_aload_n dX3_takeKnown_10 rfl ?_
  exact aw_askV (as := []) (rst := []) k_X3_advance l_X3_43 i_X3_advance s_X3_advance rfl o1 dX3_takeKnown_11 rfl (Nat.le_of_ble_eq_true rfl) hbc hbs hC rfl rfl kk
theorem bX3_takeKnown_14 {d mc ms : Nat} {al : Bool} {bc bs : Nat} {Γ : am_G} {I : am_I} {L : am_L} {Q : am_Q} {v0 : Nat} {v1 : Int32} (hq : Q (.inl (some (.int v1))) Γ I L) : am_W m_X3_takeKnown d mc ms al bc bs 14 [(0, .ref v0), (1, .int v1)] [] Γ I L Q := by
  refine aw_iload_n dX3_takeKnown_14 rfl ?_
  exact aw_iret dX3_takeKnown_15 rfl hq
theorem dX3_readSetup_0 : decode cX3_readSetup 0 = .ok (.aload_n 0, 1) := by decide +kernel
theorem dX3_readSetup_1 : decode cX3_readSetup 1 = .ok (.ldc 98, 2) := by decide +kernel
theorem dX3_readSetup_3 : decode cX3_readSetup 3 = .ok (.invokevirtual 100, 3) := by decide +kernel
theorem dX3_readSetup_6 : decode cX3_readSetup 6 = .ok (.ifCond .eq 35, 3) := by decide +kernel
theorem dX3_readSetup_9 : decode cX3_readSetup 9 = .ok (.aload_n 0, 1) := by decide +kernel
theorem dX3_readSetup_10 : decode cX3_readSetup 10 = .ok (.invokevirtual 103, 3) := by decide +kernel
theorem dX3_readSetup_13 : decode cX3_readSetup 13 = .ok (.ifCond .eq 28, 3) := by decide +kernel
theorem dX3_readSetup_16 : decode cX3_readSetup 16 = .ok (.aload_n 0, 1) := by decide +kernel
theorem dX3_readSetup_17 : decode cX3_readSetup 17 = .ok (.invokevirtual 106, 3) := by decide +kernel
theorem dX3_readSetup_20 : decode cX3_readSetup 20 = .ok (.ifCond .eq 21, 3) := by decide +kernel
theorem dX3_readSetup_23 : decode cX3_readSetup 23 = .ok (.aload_n 0, 1) := by decide +kernel
theorem dX3_readSetup_24 : decode cX3_readSetup 24 = .ok (.invokevirtual 109, 3) := by decide +kernel
theorem dX3_readSetup_27 : decode cX3_readSetup 27 = .ok (.ifCond .eq 14, 3) := by decide +kernel
theorem dX3_readSetup_30 : decode cX3_readSetup 30 = .ok (.aload_n 0, 1) := by decide +kernel
theorem dX3_readSetup_31 : decode cX3_readSetup 31 = .ok (.invokevirtual 112, 3) := by decide +kernel
theorem dX3_readSetup_34 : decode cX3_readSetup 34 = .ok (.ifCond .eq 7, 3) := by decide +kernel
theorem dX3_readSetup_37 : decode cX3_readSetup 37 = .ok (.iconst 1, 1) := by decide +kernel
theorem dX3_readSetup_38 : decode cX3_readSetup 38 = .ok (.goto 4, 3) := by decide +kernel
theorem dX3_readSetup_41 : decode cX3_readSetup 41 = .ok (.iconst 0, 1) := by decide +kernel
theorem dX3_readSetup_42 : decode cX3_readSetup 42 = .ok (.ireturn, 1) := by decide +kernel
theorem bX3_readSetup_0 {d mc ms : Nat} {al : Bool} {bc bs : Nat} {Γ : am_G} {I : am_I} {L : am_L} {Q : am_Q} {v0 : Nat} {I' : am_I} {L' : am_L} {mc' : Nat} {ms' : Nat} {r : Int32} (o1 : am_ob Γ v0 3) (hbc : mc' ≤ bc) (hbs : ms' ≤ bs) (hC : am_E m_X3_takeWord d mc' ms' [.ref v0, .retAddr 1] Γ I L (.inl (some (.int r))) I' L') (kk : am_W m_X3_readSetup (d + 1) mc ms al (bc - mc') (bs - ms') 6 [(0, .ref v0)] [.int r] Γ I' L' Q) : am_W m_X3_readSetup (d + 1) mc ms al bc bs 0 [(0, .ref v0)] [] Γ I L Q := by
  refine aw_aload_n dX3_readSetup_0 rfl ?_
  refine aw_ldcT dX3_readSetup_1 (i := 1) tx_X3_98 ?_
  exact aw_askV (as := [.retAddr 1]) (rst := []) k_X3_takeWord l_X3_100 i_X3_takeWord s_X3_takeWord rfl o1 dX3_readSetup_3 rfl (Nat.le_of_ble_eq_true rfl) hbc hbs hC rfl rfl kk
theorem bX3_readSetup_6 {d mc ms : Nat} {al : Bool} {bc bs : Nat} {Γ : am_G} {I : am_I} {L : am_L} {Q : am_Q} {v0 : Nat} {w0 : Int32} (kt : w0 = 0 → am_W m_X3_readSetup d mc ms al bc bs 41 [(0, .ref v0)] [] Γ I L Q) (kf : ¬ w0 = 0 → am_W m_X3_readSetup d mc ms al bc bs 9 [(0, .ref v0)] [] Γ I L Q) : am_W m_X3_readSetup d mc ms al bc bs 6 [(0, .ref v0)] [.int w0] Γ I L Q := by
  exact aw_if_eq dX3_readSetup_6 (by decide) kt kf
theorem bX3_readSetup_9 {d mc ms : Nat} {al : Bool} {bc bs : Nat} {Γ : am_G} {I : am_I} {L : am_L} {Q : am_Q} {v0 : Nat} {I' : am_I} {L' : am_L} {mc' : Nat} {ms' : Nat} {r : Int32} (o1 : am_ob Γ v0 3) (hbc : mc' ≤ bc) (hbs : ms' ≤ bs) (hC : am_E m_X3_takeSemicolon d mc' ms' [.ref v0] Γ I L (.inl (some (.int r))) I' L') (kk : am_W m_X3_readSetup (d + 1) mc ms al (bc - mc') (bs - ms') 13 [(0, .ref v0)] [.int r] Γ I' L' Q) : am_W m_X3_readSetup (d + 1) mc ms al bc bs 9 [(0, .ref v0)] [] Γ I L Q := by
  refine aw_aload_n dX3_readSetup_9 rfl ?_
  exact aw_askV (as := []) (rst := []) k_X3_takeSemicolon l_X3_103 i_X3_takeSemicolon s_X3_takeSemicolon rfl o1 dX3_readSetup_10 rfl (Nat.le_of_ble_eq_true rfl) hbc hbs hC rfl rfl kk
theorem bX3_readSetup_13 {d mc ms : Nat} {al : Bool} {bc bs : Nat} {Γ : am_G} {I : am_I} {L : am_L} {Q : am_Q} {v0 : Nat} {w0 : Int32} (kt : w0 = 0 → am_W m_X3_readSetup d mc ms al bc bs 41 [(0, .ref v0)] [] Γ I L Q) (kf : ¬ w0 = 0 → am_W m_X3_readSetup d mc ms al bc bs 16 [(0, .ref v0)] [] Γ I L Q) : am_W m_X3_readSetup d mc ms al bc bs 13 [(0, .ref v0)] [.int w0] Γ I L Q := by
  exact aw_if_eq dX3_readSetup_13 (by decide) kt kf
theorem bX3_readSetup_16 {d mc ms : Nat} {al : Bool} {bc bs : Nat} {Γ : am_G} {I : am_I} {L : am_L} {Q : am_Q} {v0 : Nat} {I' : am_I} {L' : am_L} {mc' : Nat} {ms' : Nat} {r : Int32} (o1 : am_ob Γ v0 3) (hbc : mc' ≤ bc) (hbs : ms' ≤ bs) (hC : am_E m_X3_readQuestions d mc' ms' [.ref v0] Γ I L (.inl (some (.int r))) I' L') (kk : am_W m_X3_readSetup (d + 1) mc ms al (bc - mc') (bs - ms') 20 [(0, .ref v0)] [.int r] Γ I' L' Q) : am_W m_X3_readSetup (d + 1) mc ms al bc bs 16 [(0, .ref v0)] [] Γ I L Q := by
  refine aw_aload_n dX3_readSetup_16 rfl ?_
  exact aw_askV (as := []) (rst := []) k_X3_readQuestions l_X3_106 i_X3_readQuestions s_X3_readQuestions rfl o1 dX3_readSetup_17 rfl (Nat.le_of_ble_eq_true rfl) hbc hbs hC rfl rfl kk
theorem bX3_readSetup_20 {d mc ms : Nat} {al : Bool} {bc bs : Nat} {Γ : am_G} {I : am_I} {L : am_L} {Q : am_Q} {v0 : Nat} {w0 : Int32} (kt : w0 = 0 → am_W m_X3_readSetup d mc ms al bc bs 41 [(0, .ref v0)] [] Γ I L Q) (kf : ¬ w0 = 0 → am_W m_X3_readSetup d mc ms al bc bs 23 [(0, .ref v0)] [] Γ I L Q) : am_W m_X3_readSetup d mc ms al bc bs 20 [(0, .ref v0)] [.int w0] Γ I L Q := by
  exact aw_if_eq dX3_readSetup_20 (by decide) kt kf
theorem bX3_readSetup_23 {d mc ms : Nat} {al : Bool} {bc bs : Nat} {Γ : am_G} {I : am_I} {L : am_L} {Q : am_Q} {v0 : Nat} {I' : am_I} {L' : am_L} {mc' : Nat} {ms' : Nat} {r : Int32} (o1 : am_ob Γ v0 3) (hbc : mc' ≤ bc) (hbs : ms' ≤ bs) (hC : am_E m_X3_readCarts d mc' ms' [.ref v0] Γ I L (.inl (some (.int r))) I' L') (kk : am_W m_X3_readSetup (d + 1) mc ms al (bc - mc') (bs - ms') 27 [(0, .ref v0)] [.int r] Γ I' L' Q) : am_W m_X3_readSetup (d + 1) mc ms al bc bs 23 [(0, .ref v0)] [] Γ I L Q := by
  refine aw_aload_n dX3_readSetup_23 rfl ?_
  exact aw_askV (as := []) (rst := []) k_X3_readCarts l_X3_109 i_X3_readCarts s_X3_readCarts rfl o1 dX3_readSetup_24 rfl (Nat.le_of_ble_eq_true rfl) hbc hbs hC rfl rfl kk
theorem bX3_readSetup_27 {d mc ms : Nat} {al : Bool} {bc bs : Nat} {Γ : am_G} {I : am_I} {L : am_L} {Q : am_Q} {v0 : Nat} {w0 : Int32} (kt : w0 = 0 → am_W m_X3_readSetup d mc ms al bc bs 41 [(0, .ref v0)] [] Γ I L Q) (kf : ¬ w0 = 0 → am_W m_X3_readSetup d mc ms al bc bs 30 [(0, .ref v0)] [] Γ I L Q) : am_W m_X3_readSetup d mc ms al bc bs 27 [(0, .ref v0)] [.int w0] Γ I L Q := by
  exact aw_if_eq dX3_readSetup_27 (by decide) kt kf
theorem bX3_readSetup_30 {d mc ms : Nat} {al : Bool} {bc bs : Nat} {Γ : am_G} {I : am_I} {L : am_L} {Q : am_Q} {v0 : Nat} {I' : am_I} {L' : am_L} {mc' : Nat} {ms' : Nat} {r : Int32} (o1 : am_ob Γ v0 3) (hbc : mc' ≤ bc) (hbs : ms' ≤ bs) (hC : am_E m_X3_readGates d mc' ms' [.ref v0] Γ I L (.inl (some (.int r))) I' L') (kk : am_W m_X3_readSetup (d + 1) mc ms al (bc - mc') (bs - ms') 34 [(0, .ref v0)] [.int r] Γ I' L' Q) : am_W m_X3_readSetup (d + 1) mc ms al bc bs 30 [(0, .ref v0)] [] Γ I L Q := by
  refine aw_aload_n dX3_readSetup_30 rfl ?_
  exact aw_askV (as := []) (rst := []) k_X3_readGates l_X3_112 i_X3_readGates s_X3_readGates rfl o1 dX3_readSetup_31 rfl (Nat.le_of_ble_eq_true rfl) hbc hbs hC rfl rfl kk
theorem bX3_readSetup_34 {d mc ms : Nat} {al : Bool} {bc bs : Nat} {Γ : am_G} {I : am_I} {L : am_L} {Q : am_Q} {v0 : Nat} {w0 : Int32} (kt : w0 = 0 → am_W m_X3_readSetup d mc ms al bc bs 41 [(0, .ref v0)] [] Γ I L Q) (kf : ¬ w0 = 0 → am_W m_X3_readSetup d mc ms al bc bs 37 [(0, .ref v0)] [] Γ I L Q) : am_W m_X3_readSetup d mc ms al bc bs 34 [(0, .ref v0)] [.int w0] Γ I L Q := by
  exact aw_if_eq dX3_readSetup_34 (by decide) kt kf
theorem bX3_readSetup_37 {d mc ms : Nat} {al : Bool} {bc bs : Nat} {Γ : am_G} {I : am_I} {L : am_L} {Q : am_Q} {v0 : Nat} (kk : am_W m_X3_readSetup d mc ms al bc bs 42 [(0, .ref v0)] [.int 1] Γ I L Q) : am_W m_X3_readSetup d mc ms al bc bs 37 [(0, .ref v0)] [] Γ I L Q := by
  refine aw_iconst dX3_readSetup_37 ci_1 ?_
  exact aw_goto dX3_readSetup_38 (by decide) kk
theorem bX3_readSetup_41 {d mc ms : Nat} {al : Bool} {bc bs : Nat} {Γ : am_G} {I : am_I} {L : am_L} {Q : am_Q} {v0 : Nat} (kk : am_W m_X3_readSetup d mc ms al bc bs 42 [(0, .ref v0)] [.int 0] Γ I L Q) : am_W m_X3_readSetup d mc ms al bc bs 41 [(0, .ref v0)] [] Γ I L Q := by
  refine aw_iconst dX3_readSetup_41 ci_0 ?_
  exact kk
theorem bX3_readSetup_42 {d mc ms : Nat} {al : Bool} {bc bs : Nat} {Γ : am_G} {I : am_I} {L : am_L} {Q : am_Q} {v0 : Nat} {w0 : Int32} (hz : narrow .boolean (.int w0) = .int w0) (hq : Q (.inl (some (.int w0))) Γ I L) : am_W m_X3_readSetup d mc ms al bc bs 42 [(0, .ref v0)] [.int w0] Γ I L Q := by
  exact aw_zret (ty := .boolean) dX3_readSetup_42 rfl hz hq
theorem dX3_readQuestions_0 : decode cX3_readQuestions 0 = .ok (.iconst 0, 1) := by decide +kernel
theorem dX3_readQuestions_1 : decode cX3_readQuestions 1 = .ok (.istore_n 1, 1) := by decide +kernel
theorem dX3_readQuestions_2 : decode cX3_readQuestions 2 = .ok (.iload_n 1, 1) := by decide +kernel
theorem dX3_readQuestions_3 : decode cX3_readQuestions 3 = .ok (.bipush 6, 2) := by decide +kernel
theorem dX3_readQuestions_5 : decode cX3_readQuestions 5 = .ok (.if_icmp .ge 43, 3) := by decide +kernel
theorem dX3_readQuestions_8 : decode cX3_readQuestions 8 = .ok (.iload_n 1, 1) := by decide +kernel
theorem dX3_readQuestions_9 : decode cX3_readQuestions 9 = .ok (.ifCond .le 14, 3) := by decide +kernel
theorem dX3_readQuestions_12 : decode cX3_readQuestions 12 = .ok (.aload_n 0, 1) := by decide +kernel
theorem dX3_readQuestions_13 : decode cX3_readQuestions 13 = .ok (.ldc 115, 2) := by decide +kernel
theorem dX3_readQuestions_15 : decode cX3_readQuestions 15 = .ok (.invokevirtual 79, 3) := by decide +kernel
theorem dX3_readQuestions_18 : decode cX3_readQuestions 18 = .ok (.ifCond .ne 5, 3) := by decide +kernel
theorem dX3_readQuestions_21 : decode cX3_readQuestions 21 = .ok (.iconst 1, 1) := by decide +kernel
theorem dX3_readQuestions_22 : decode cX3_readQuestions 22 = .ok (.ireturn, 1) := by decide +kernel
theorem dX3_readQuestions_23 : decode cX3_readQuestions 23 = .ok (.aload_n 0, 1) := by decide +kernel
theorem dX3_readQuestions_24 : decode cX3_readQuestions 24 = .ok (.ldc 115, 2) := by decide +kernel
theorem dX3_readQuestions_26 : decode cX3_readQuestions 26 = .ok (.invokevirtual 100, 3) := by decide +kernel
theorem dX3_readQuestions_29 : decode cX3_readQuestions 29 = .ok (.ifCond .eq 11, 3) := by decide +kernel
theorem dX3_readQuestions_32 : decode cX3_readQuestions 32 = .ok (.aload_n 0, 1) := by decide +kernel
theorem dX3_readQuestions_33 : decode cX3_readQuestions 33 = .ok (.iload_n 1, 1) := by decide +kernel
theorem dX3_readQuestions_34 : decode cX3_readQuestions 34 = .ok (.invokevirtual 117, 3) := by decide +kernel
theorem dX3_readQuestions_37 : decode cX3_readQuestions 37 = .ok (.ifCond .ne 5, 3) := by decide +kernel
theorem dX3_readQuestions_40 : decode cX3_readQuestions 40 = .ok (.iconst 0, 1) := by decide +kernel
theorem dX3_readQuestions_41 : decode cX3_readQuestions 41 = .ok (.ireturn, 1) := by decide +kernel
theorem dX3_readQuestions_42 : decode cX3_readQuestions 42 = .ok (.iinc 1 1, 3) := by decide +kernel
theorem dX3_readQuestions_45 : decode cX3_readQuestions 45 = .ok (.goto (-43), 3) := by decide +kernel
theorem dX3_readQuestions_48 : decode cX3_readQuestions 48 = .ok (.aload_n 0, 1) := by decide +kernel
theorem dX3_readQuestions_49 : decode cX3_readQuestions 49 = .ok (.ldc 115, 2) := by decide +kernel
theorem dX3_readQuestions_51 : decode cX3_readQuestions 51 = .ok (.invokevirtual 79, 3) := by decide +kernel
theorem dX3_readQuestions_54 : decode cX3_readQuestions 54 = .ok (.ifCond .eq 11, 3) := by decide +kernel
theorem dX3_readQuestions_57 : decode cX3_readQuestions 57 = .ok (.aload_n 0, 1) := by decide +kernel
theorem dX3_readQuestions_58 : decode cX3_readQuestions 58 = .ok (.iconst 5, 1) := by decide +kernel
theorem dX3_readQuestions_59 : decode cX3_readQuestions 59 = .ok (.invokevirtual 83, 3) := by decide +kernel
theorem dX3_readQuestions_62 : decode cX3_readQuestions 62 = .ok (.ifCond .eq 7, 3) := by decide +kernel
theorem dX3_readQuestions_65 : decode cX3_readQuestions 65 = .ok (.iconst 1, 1) := by decide +kernel
theorem dX3_readQuestions_66 : decode cX3_readQuestions 66 = .ok (.goto 4, 3) := by decide +kernel
theorem dX3_readQuestions_69 : decode cX3_readQuestions 69 = .ok (.iconst 0, 1) := by decide +kernel
theorem dX3_readQuestions_70 : decode cX3_readQuestions 70 = .ok (.ireturn, 1) := by decide +kernel
theorem bX3_readQuestions_0 {d mc ms : Nat} {al : Bool} {bc bs : Nat} {Γ : am_G} {I : am_I} {L : am_L} {Q : am_Q} {v0 : Nat} (kk : am_W m_X3_readQuestions d mc ms al bc bs 2 [(0, .ref v0), (1, .int 0)] [] Γ I L Q) : am_W m_X3_readQuestions d mc ms al bc bs 0 [(0, .ref v0)] [] Γ I L Q := by
  refine aw_iconst dX3_readQuestions_0 ci_0 ?_
  refine aw_istore_n (ls' := [(0, .ref v0), (1, .int 0)]) dX3_readQuestions_1 (by decide) rfl ?_
  exact kk
theorem bX3_readQuestions_2 {d mc ms : Nat} {al : Bool} {bc bs : Nat} {Γ : am_G} {I : am_I} {L : am_L} {Q : am_Q} {v0 : Nat} {v1 : Int32} (kt : 6 ≤ v1 → am_W m_X3_readQuestions d mc ms al bc bs 48 [(0, .ref v0), (1, .int v1)] [] Γ I L Q) (kf : ¬ 6 ≤ v1 → am_W m_X3_readQuestions d mc ms al bc bs 8 [(0, .ref v0), (1, .int v1)] [] Γ I L Q) : am_W m_X3_readQuestions d mc ms al bc bs 2 [(0, .ref v0), (1, .int v1)] [] Γ I L Q := by
  refine aw_iload_n dX3_readQuestions_2 rfl ?_
  refine aw_bipush dX3_readQuestions_3 cb_6 ?_
  exact aw_icmp_ge dX3_readQuestions_5 (by decide) kt kf
theorem bX3_readQuestions_8 {d mc ms : Nat} {al : Bool} {bc bs : Nat} {Γ : am_G} {I : am_I} {L : am_L} {Q : am_Q} {v0 : Nat} {v1 : Int32} (kt : v1 ≤ 0 → am_W m_X3_readQuestions d mc ms al bc bs 23 [(0, .ref v0), (1, .int v1)] [] Γ I L Q) (kf : ¬ v1 ≤ 0 → am_W m_X3_readQuestions d mc ms al bc bs 12 [(0, .ref v0), (1, .int v1)] [] Γ I L Q) : am_W m_X3_readQuestions d mc ms al bc bs 8 [(0, .ref v0), (1, .int v1)] [] Γ I L Q := by
  refine aw_iload_n dX3_readQuestions_8 rfl ?_
  exact aw_if_le dX3_readQuestions_9 (by decide) kt kf
theorem bX3_readQuestions_12 {d mc ms : Nat} {al : Bool} {bc bs : Nat} {Γ : am_G} {I : am_I} {L : am_L} {Q : am_Q} {v0 : Nat} {v1 : Int32} {I' : am_I} {L' : am_L} {mc' : Nat} {ms' : Nat} {r : Int32} (o1 : am_ob Γ v0 3) (hbc : mc' ≤ bc) (hbs : ms' ≤ bs) (hC : am_E m_X3_isWord d mc' ms' [.ref v0, .retAddr 2] Γ I L (.inl (some (.int r))) I' L') (kk : am_W m_X3_readQuestions (d + 1) mc ms al (bc - mc') (bs - ms') 18 [(0, .ref v0), (1, .int v1)] [.int r] Γ I' L' Q) : am_W m_X3_readQuestions (d + 1) mc ms al bc bs 12 [(0, .ref v0), (1, .int v1)] [] Γ I L Q := by
  refine aw_aload_n dX3_readQuestions_12 rfl ?_
  refine aw_ldcT dX3_readQuestions_13 (i := 2) tx_X3_115 ?_
  exact aw_askV (as := [.retAddr 2]) (rst := []) k_X3_isWord l_X3_79 i_X3_isWord s_X3_isWord rfl o1 dX3_readQuestions_15 rfl (Nat.le_of_ble_eq_true rfl) hbc hbs hC rfl rfl kk
theorem bX3_readQuestions_18 {d mc ms : Nat} {al : Bool} {bc bs : Nat} {Γ : am_G} {I : am_I} {L : am_L} {Q : am_Q} {v0 : Nat} {v1 : Int32} {w0 : Int32} (kt : ¬ w0 = 0 → am_W m_X3_readQuestions d mc ms al bc bs 23 [(0, .ref v0), (1, .int v1)] [] Γ I L Q) (kf : w0 = 0 → am_W m_X3_readQuestions d mc ms al bc bs 21 [(0, .ref v0), (1, .int v1)] [] Γ I L Q) : am_W m_X3_readQuestions d mc ms al bc bs 18 [(0, .ref v0), (1, .int v1)] [.int w0] Γ I L Q := by
  exact aw_if_ne dX3_readQuestions_18 (by decide) kt kf
theorem bX3_readQuestions_21 {d mc ms : Nat} {al : Bool} {bc bs : Nat} {Γ : am_G} {I : am_I} {L : am_L} {Q : am_Q} {v0 : Nat} {v1 : Int32} (hq : Q (.inl (some (.int 1))) Γ I L) : am_W m_X3_readQuestions d mc ms al bc bs 21 [(0, .ref v0), (1, .int v1)] [] Γ I L Q := by
  refine aw_iconst dX3_readQuestions_21 ci_1 ?_
  exact aw_zret (ty := .boolean) dX3_readQuestions_22 rfl rfl hq
theorem bX3_readQuestions_23 {d mc ms : Nat} {al : Bool} {bc bs : Nat} {Γ : am_G} {I : am_I} {L : am_L} {Q : am_Q} {v0 : Nat} {v1 : Int32} {I' : am_I} {L' : am_L} {mc' : Nat} {ms' : Nat} {r : Int32} (o1 : am_ob Γ v0 3) (hbc : mc' ≤ bc) (hbs : ms' ≤ bs) (hC : am_E m_X3_takeWord d mc' ms' [.ref v0, .retAddr 2] Γ I L (.inl (some (.int r))) I' L') (kk : am_W m_X3_readQuestions (d + 1) mc ms al (bc - mc') (bs - ms') 29 [(0, .ref v0), (1, .int v1)] [.int r] Γ I' L' Q) : am_W m_X3_readQuestions (d + 1) mc ms al bc bs 23 [(0, .ref v0), (1, .int v1)] [] Γ I L Q := by
  refine aw_aload_n dX3_readQuestions_23 rfl ?_
  refine aw_ldcT dX3_readQuestions_24 (i := 2) tx_X3_115 ?_
  exact aw_askV (as := [.retAddr 2]) (rst := []) k_X3_takeWord l_X3_100 i_X3_takeWord s_X3_takeWord rfl o1 dX3_readQuestions_26 rfl (Nat.le_of_ble_eq_true rfl) hbc hbs hC rfl rfl kk
theorem bX3_readQuestions_29 {d mc ms : Nat} {al : Bool} {bc bs : Nat} {Γ : am_G} {I : am_I} {L : am_L} {Q : am_Q} {v0 : Nat} {v1 : Int32} {w0 : Int32} (kt : w0 = 0 → am_W m_X3_readQuestions d mc ms al bc bs 40 [(0, .ref v0), (1, .int v1)] [] Γ I L Q) (kf : ¬ w0 = 0 → am_W m_X3_readQuestions d mc ms al bc bs 32 [(0, .ref v0), (1, .int v1)] [] Γ I L Q) : am_W m_X3_readQuestions d mc ms al bc bs 29 [(0, .ref v0), (1, .int v1)] [.int w0] Γ I L Q := by
  exact aw_if_eq dX3_readQuestions_29 (by decide) kt kf
theorem bX3_readQuestions_32 {d mc ms : Nat} {al : Bool} {bc bs : Nat} {Γ : am_G} {I : am_I} {L : am_L} {Q : am_Q} {v0 : Nat} {v1 : Int32} {I' : am_I} {L' : am_L} {mc' : Nat} {ms' : Nat} {r : Int32} (o1 : am_ob Γ v0 3) (hbc : mc' ≤ bc) (hbs : ms' ≤ bs) (hC : am_E m_X3_readQuestion d mc' ms' [.ref v0, .int v1] Γ I L (.inl (some (.int r))) I' L') (kk : am_W m_X3_readQuestions (d + 1) mc ms al (bc - mc') (bs - ms') 37 [(0, .ref v0), (1, .int v1)] [.int r] Γ I' L' Q) : am_W m_X3_readQuestions (d + 1) mc ms al bc bs 32 [(0, .ref v0), (1, .int v1)] [] Γ I L Q := by
  refine aw_aload_n dX3_readQuestions_32 rfl ?_
  refine aw_iload_n dX3_readQuestions_33 rfl ?_
  exact aw_askV (as := [.int v1]) (rst := []) k_X3_readQuestion l_X3_117 i_X3_readQuestion s_X3_readQuestion rfl o1 dX3_readQuestions_34 rfl (Nat.le_of_ble_eq_true rfl) hbc hbs hC rfl rfl kk
theorem bX3_readQuestions_37 {d mc ms : Nat} {al : Bool} {bc bs : Nat} {Γ : am_G} {I : am_I} {L : am_L} {Q : am_Q} {v0 : Nat} {v1 : Int32} {w0 : Int32} (kt : ¬ w0 = 0 → am_W m_X3_readQuestions d mc ms al bc bs 42 [(0, .ref v0), (1, .int v1)] [] Γ I L Q) (kf : w0 = 0 → am_W m_X3_readQuestions d mc ms al bc bs 40 [(0, .ref v0), (1, .int v1)] [] Γ I L Q) : am_W m_X3_readQuestions d mc ms al bc bs 37 [(0, .ref v0), (1, .int v1)] [.int w0] Γ I L Q := by
  exact aw_if_ne dX3_readQuestions_37 (by decide) kt kf
theorem bX3_readQuestions_40 {d mc ms : Nat} {al : Bool} {bc bs : Nat} {Γ : am_G} {I : am_I} {L : am_L} {Q : am_Q} {v0 : Nat} {v1 : Int32} (hq : Q (.inl (some (.int 0))) Γ I L) : am_W m_X3_readQuestions d mc ms al bc bs 40 [(0, .ref v0), (1, .int v1)] [] Γ I L Q := by
  refine aw_iconst dX3_readQuestions_40 ci_0 ?_
  exact aw_zret (ty := .boolean) dX3_readQuestions_41 rfl rfl hq
theorem bX3_readQuestions_42 {d mc ms : Nat} {al : Bool} {bc bs : Nat} {Γ : am_G} {I : am_I} {L : am_L} {Q : am_Q} {v0 : Nat} {v1 : Int32} (kk : am_W m_X3_readQuestions d mc ms al bc bs 2 [(0, .ref v0), (1, .int (v1 + 1))] [] Γ I L Q) : am_W m_X3_readQuestions d mc ms al bc bs 42 [(0, .ref v0), (1, .int v1)] [] Γ I L Q := by
  refine aw_iinc (ls' := [(0, .ref v0), (1, .int (v1 + 1))]) dX3_readQuestions_42 rfl (cn_1 _) (by decide) rfl ?_
  exact aw_goto dX3_readQuestions_45 (by decide) kk
theorem bX3_readQuestions_48 {d mc ms : Nat} {al : Bool} {bc bs : Nat} {Γ : am_G} {I : am_I} {L : am_L} {Q : am_Q} {v0 : Nat} {v1 : Int32} {I' : am_I} {L' : am_L} {mc' : Nat} {ms' : Nat} {r : Int32} (o1 : am_ob Γ v0 3) (hbc : mc' ≤ bc) (hbs : ms' ≤ bs) (hC : am_E m_X3_isWord d mc' ms' [.ref v0, .retAddr 2] Γ I L (.inl (some (.int r))) I' L') (kk : am_W m_X3_readQuestions (d + 1) mc ms al (bc - mc') (bs - ms') 54 [(0, .ref v0), (1, .int v1)] [.int r] Γ I' L' Q) : am_W m_X3_readQuestions (d + 1) mc ms al bc bs 48 [(0, .ref v0), (1, .int v1)] [] Γ I L Q := by
  refine aw_aload_n dX3_readQuestions_48 rfl ?_
  refine aw_ldcT dX3_readQuestions_49 (i := 2) tx_X3_115 ?_
  exact aw_askV (as := [.retAddr 2]) (rst := []) k_X3_isWord l_X3_79 i_X3_isWord s_X3_isWord rfl o1 dX3_readQuestions_51 rfl (Nat.le_of_ble_eq_true rfl) hbc hbs hC rfl rfl kk
theorem bX3_readQuestions_54 {d mc ms : Nat} {al : Bool} {bc bs : Nat} {Γ : am_G} {I : am_I} {L : am_L} {Q : am_Q} {v0 : Nat} {v1 : Int32} {w0 : Int32} (kt : w0 = 0 → am_W m_X3_readQuestions d mc ms al bc bs 65 [(0, .ref v0), (1, .int v1)] [] Γ I L Q) (kf : ¬ w0 = 0 → am_W m_X3_readQuestions d mc ms al bc bs 57 [(0, .ref v0), (1, .int v1)] [] Γ I L Q) : am_W m_X3_readQuestions d mc ms al bc bs 54 [(0, .ref v0), (1, .int v1)] [.int w0] Γ I L Q := by
  exact aw_if_eq dX3_readQuestions_54 (by decide) kt kf
theorem bX3_readQuestions_57 {d mc ms : Nat} {al : Bool} {bc bs : Nat} {Γ : am_G} {I : am_I} {L : am_L} {Q : am_Q} {v0 : Nat} {v1 : Int32} {I' : am_I} {L' : am_L} {mc' : Nat} {ms' : Nat} {r : Int32} (o1 : am_ob Γ v0 3) (hbc : mc' ≤ bc) (hbs : ms' ≤ bs) (hC : am_E m_X3_fail d mc' ms' [.ref v0, .int 5] Γ I L (.inl (some (.int r))) I' L') (kk : am_W m_X3_readQuestions (d + 1) mc ms al (bc - mc') (bs - ms') 62 [(0, .ref v0), (1, .int v1)] [.int r] Γ I' L' Q) : am_W m_X3_readQuestions (d + 1) mc ms al bc bs 57 [(0, .ref v0), (1, .int v1)] [] Γ I L Q := by
  refine aw_aload_n dX3_readQuestions_57 rfl ?_
  refine aw_iconst dX3_readQuestions_58 ci_5 ?_
  exact aw_askV (as := [.int 5]) (rst := []) k_X3_fail l_X3_83 i_X3_fail s_X3_fail rfl o1 dX3_readQuestions_59 rfl (Nat.le_of_ble_eq_true rfl) hbc hbs hC rfl rfl kk
theorem bX3_readQuestions_62 {d mc ms : Nat} {al : Bool} {bc bs : Nat} {Γ : am_G} {I : am_I} {L : am_L} {Q : am_Q} {v0 : Nat} {v1 : Int32} {w0 : Int32} (kt : w0 = 0 → am_W m_X3_readQuestions d mc ms al bc bs 69 [(0, .ref v0), (1, .int v1)] [] Γ I L Q) (kf : ¬ w0 = 0 → am_W m_X3_readQuestions d mc ms al bc bs 65 [(0, .ref v0), (1, .int v1)] [] Γ I L Q) : am_W m_X3_readQuestions d mc ms al bc bs 62 [(0, .ref v0), (1, .int v1)] [.int w0] Γ I L Q := by
  exact aw_if_eq dX3_readQuestions_62 (by decide) kt kf
theorem bX3_readQuestions_65 {d mc ms : Nat} {al : Bool} {bc bs : Nat} {Γ : am_G} {I : am_I} {L : am_L} {Q : am_Q} {v0 : Nat} {v1 : Int32} (kk : am_W m_X3_readQuestions d mc ms al bc bs 70 [(0, .ref v0), (1, .int v1)] [.int 1] Γ I L Q) : am_W m_X3_readQuestions d mc ms al bc bs 65 [(0, .ref v0), (1, .int v1)] [] Γ I L Q := by
  refine aw_iconst dX3_readQuestions_65 ci_1 ?_
  exact aw_goto dX3_readQuestions_66 (by decide) kk
theorem bX3_readQuestions_69 {d mc ms : Nat} {al : Bool} {bc bs : Nat} {Γ : am_G} {I : am_I} {L : am_L} {Q : am_Q} {v0 : Nat} {v1 : Int32} (kk : am_W m_X3_readQuestions d mc ms al bc bs 70 [(0, .ref v0), (1, .int v1)] [.int 0] Γ I L Q) : am_W m_X3_readQuestions d mc ms al bc bs 69 [(0, .ref v0), (1, .int v1)] [] Γ I L Q := by
  refine aw_iconst dX3_readQuestions_69 ci_0 ?_
  exact kk
theorem bX3_readQuestions_70 {d mc ms : Nat} {al : Bool} {bc bs : Nat} {Γ : am_G} {I : am_I} {L : am_L} {Q : am_Q} {v0 : Nat} {v1 : Int32} {w0 : Int32} (hz : narrow .boolean (.int w0) = .int w0) (hq : Q (.inl (some (.int w0))) Γ I L) : am_W m_X3_readQuestions d mc ms al bc bs 70 [(0, .ref v0), (1, .int v1)] [.int w0] Γ I L Q := by
  exact aw_zret (ty := .boolean) dX3_readQuestions_70 rfl hz hq
theorem dX3_readQuestion_0 : decode cX3_readQuestion 0 = .ok (.aload_n 0, 1) := by decide +kernel
theorem dX3_readQuestion_1 : decode cX3_readQuestion 1 = .ok (.aload_n 0, 1) := by decide +kernel
theorem dX3_readQuestion_2 : decode cX3_readQuestion 2 = .ok (.getfield 19, 3) := by decide +kernel
theorem dX3_readQuestion_5 : decode cX3_readQuestion 5 = .ok (.aload_n 0, 1) := by decide +kernel
theorem dX3_readQuestion_6 : decode cX3_readQuestion 6 = .ok (.getfield 62, 3) := by decide +kernel
theorem dX3_readQuestion_9 : decode cX3_readQuestion 9 = .ok (.invokevirtual 120, 3) := by decide +kernel
theorem dX3_readQuestion_12 : decode cX3_readQuestion 12 = .ok (.invokevirtual 126, 3) := by decide +kernel
theorem dX3_readQuestion_15 : decode cX3_readQuestion 15 = .ok (.ifCond .ne 5, 3) := by decide +kernel
theorem dX3_readQuestion_18 : decode cX3_readQuestion 18 = .ok (.iconst 0, 1) := by decide +kernel
theorem dX3_readQuestion_19 : decode cX3_readQuestion 19 = .ok (.ireturn, 1) := by decide +kernel
theorem dX3_readQuestion_20 : decode cX3_readQuestion 20 = .ok (.aload_n 0, 1) := by decide +kernel
theorem dX3_readQuestion_21 : decode cX3_readQuestion 21 = .ok (.getfield 19, 3) := by decide +kernel
theorem dX3_readQuestion_24 : decode cX3_readQuestion 24 = .ok (.getfield 129, 3) := by decide +kernel
theorem dX3_readQuestion_27 : decode cX3_readQuestion 27 = .ok (.iload_n 1, 1) := by decide +kernel
theorem dX3_readQuestion_28 : decode cX3_readQuestion 28 = .ok (.aload_n 0, 1) := by decide +kernel
theorem dX3_readQuestion_29 : decode cX3_readQuestion 29 = .ok (.getfield 62, 3) := by decide +kernel
theorem dX3_readQuestion_32 : decode cX3_readQuestion 32 = .ok (.lastore, 1) := by decide +kernel
theorem dX3_readQuestion_33 : decode cX3_readQuestion 33 = .ok (.aload_n 0, 1) := by decide +kernel
theorem dX3_readQuestion_34 : decode cX3_readQuestion 34 = .ok (.getfield 19, 3) := by decide +kernel
theorem dX3_readQuestion_37 : decode cX3_readQuestion 37 = .ok (.getfield 133, 3) := by decide +kernel
theorem dX3_readQuestion_40 : decode cX3_readQuestion 40 = .ok (.iload_n 1, 1) := by decide +kernel
theorem dX3_readQuestion_41 : decode cX3_readQuestion 41 = .ok (.iconst 0, 1) := by decide +kernel
theorem dX3_readQuestion_42 : decode cX3_readQuestion 42 = .ok (.iastore, 1) := by decide +kernel
theorem dX3_readQuestion_43 : decode cX3_readQuestion 43 = .ok (.aload_n 0, 1) := by decide +kernel
theorem dX3_readQuestion_44 : decode cX3_readQuestion 44 = .ok (.invokevirtual 43, 3) := by decide +kernel
theorem dX3_readQuestion_47 : decode cX3_readQuestion 47 = .ok (.aload_n 0, 1) := by decide +kernel
theorem dX3_readQuestion_48 : decode cX3_readQuestion 48 = .ok (.getfield 19, 3) := by decide +kernel
theorem dX3_readQuestion_51 : decode cX3_readQuestion 51 = .ok (.getfield 137, 3) := by decide +kernel
theorem dX3_readQuestion_54 : decode cX3_readQuestion 54 = .ok (.iload_n 1, 1) := by decide +kernel
theorem dX3_readQuestion_55 : decode cX3_readQuestion 55 = .ok (.aload_n 0, 1) := by decide +kernel
theorem dX3_readQuestion_56 : decode cX3_readQuestion 56 = .ok (.iconst 1, 1) := by decide +kernel
theorem dX3_readQuestion_57 : decode cX3_readQuestion 57 = .ok (.bipush 9, 2) := by decide +kernel
theorem dX3_readQuestion_59 : decode cX3_readQuestion 59 = .ok (.invokevirtual 140, 3) := by decide +kernel
theorem dX3_readQuestion_62 : decode cX3_readQuestion 62 = .ok (.iastore, 1) := by decide +kernel
theorem dX3_readQuestion_63 : decode cX3_readQuestion 63 = .ok (.aload_n 0, 1) := by decide +kernel
theorem dX3_readQuestion_64 : decode cX3_readQuestion 64 = .ok (.getfield 19, 3) := by decide +kernel
theorem dX3_readQuestion_67 : decode cX3_readQuestion 67 = .ok (.iload_n 1, 1) := by decide +kernel
theorem dX3_readQuestion_68 : decode cX3_readQuestion 68 = .ok (.iconst 1, 1) := by decide +kernel
theorem dX3_readQuestion_69 : decode cX3_readQuestion 69 = .ok (.iadd, 1) := by decide +kernel
theorem dX3_readQuestion_70 : decode cX3_readQuestion 70 = .ok (.putfield 144, 3) := by decide +kernel
theorem dX3_readQuestion_73 : decode cX3_readQuestion 73 = .ok (.aload_n 0, 1) := by decide +kernel
theorem dX3_readQuestion_74 : decode cX3_readQuestion 74 = .ok (.getfield 19, 3) := by decide +kernel
theorem dX3_readQuestion_77 : decode cX3_readQuestion 77 = .ok (.getfield 137, 3) := by decide +kernel
theorem dX3_readQuestion_80 : decode cX3_readQuestion 80 = .ok (.iload_n 1, 1) := by decide +kernel
theorem dX3_readQuestion_81 : decode cX3_readQuestion 81 = .ok (.iaload, 1) := by decide +kernel
theorem dX3_readQuestion_82 : decode cX3_readQuestion 82 = .ok (.iconst (-1), 1) := by decide +kernel
theorem dX3_readQuestion_83 : decode cX3_readQuestion 83 = .ok (.if_icmp .eq 14, 3) := by decide +kernel
theorem dX3_readQuestion_86 : decode cX3_readQuestion 86 = .ok (.aload_n 0, 1) := by decide +kernel
theorem dX3_readQuestion_87 : decode cX3_readQuestion 87 = .ok (.invokevirtual 103, 3) := by decide +kernel
theorem dX3_readQuestion_90 : decode cX3_readQuestion 90 = .ok (.ifCond .eq 7, 3) := by decide +kernel
theorem dX3_readQuestion_93 : decode cX3_readQuestion 93 = .ok (.iconst 1, 1) := by decide +kernel
theorem dX3_readQuestion_94 : decode cX3_readQuestion 94 = .ok (.goto 4, 3) := by decide +kernel
theorem dX3_readQuestion_97 : decode cX3_readQuestion 97 = .ok (.iconst 0, 1) := by decide +kernel
theorem dX3_readQuestion_98 : decode cX3_readQuestion 98 = .ok (.ireturn, 1) := by decide +kernel
theorem bX3_readQuestion_0 {d mc ms : Nat} {al : Bool} {bc bs : Nat} {Γ : am_G} {I : am_I} {L : am_L} {Q : am_Q} {v0 : Nat} {v1 : Int32} {r2 : Nat} {I' : am_I} {L' : am_L} {mc' : Nat} {ms' : Nat} {r : Int32} (o1 : am_ob Γ v0 3) (g3 : Γ.2.2 v0 5 = some r2) (o4 : am_ob Γ r2 5) (hbc : mc' ≤ bc) (hbs : ms' ≤ bs) (hC : am_E m_X5_questionNamed d mc' ms' [.ref r2, .long (L v0 10)] Γ I L (.inl (some (.int r))) I' L') (kk : am_W m_X3_readQuestion (d + 1) mc ms al (bc - mc') (bs - ms') 12 [(0, .ref v0), (1, .int v1)] [.int r, .ref v0] Γ I' L' Q) : am_W m_X3_readQuestion (d + 1) mc ms al bc bs 0 [(0, .ref v0), (1, .int v1)] [] Γ I L Q := by
  refine aw_aload_n dX3_readQuestion_0 rfl ?_
  refine aw_aload_n dX3_readQuestion_1 rfl ?_
  refine aw_getR dX3_readQuestion_2 f_X3_19 o1 rfl g3 ?_
  refine aw_aload_n dX3_readQuestion_5 rfl ?_
  refine aw_getL dX3_readQuestion_6 f_X3_62 o1 rfl ?_
  exact aw_askV (as := [.long (L v0 10)]) (rst := [.ref v0]) k_X5_questionNamed l_X3_120 i_X5_questionNamed s_X5_questionNamed rfl o4 dX3_readQuestion_9 rfl (Nat.le_of_ble_eq_true rfl) hbc hbs hC rfl rfl kk
theorem bX3_readQuestion_12 {d mc ms : Nat} {al : Bool} {bc bs : Nat} {Γ : am_G} {I : am_I} {L : am_L} {Q : am_Q} {v0 : Nat} {v1 : Int32} {w0 : Nat} {w1 : Int32} {I' : am_I} {L' : am_L} {mc' : Nat} {ms' : Nat} {r : Int32} (o1 : am_ob Γ w0 3) (hbc : mc' ≤ bc) (hbs : ms' ≤ bs) (hC : am_E m_X3_isNewName d mc' ms' [.ref w0, .int w1] Γ I L (.inl (some (.int r))) I' L') (kk : am_W m_X3_readQuestion (d + 1) mc ms al (bc - mc') (bs - ms') 15 [(0, .ref v0), (1, .int v1)] [.int r] Γ I' L' Q) : am_W m_X3_readQuestion (d + 1) mc ms al bc bs 12 [(0, .ref v0), (1, .int v1)] [.int w1, .ref w0] Γ I L Q := by
  exact aw_askV (as := [.int w1]) (rst := []) k_X3_isNewName l_X3_126 i_X3_isNewName s_X3_isNewName rfl o1 dX3_readQuestion_12 rfl (Nat.le_of_ble_eq_true rfl) hbc hbs hC rfl rfl kk
theorem bX3_readQuestion_15 {d mc ms : Nat} {al : Bool} {bc bs : Nat} {Γ : am_G} {I : am_I} {L : am_L} {Q : am_Q} {v0 : Nat} {v1 : Int32} {w0 : Int32} (kt : ¬ w0 = 0 → am_W m_X3_readQuestion d mc ms al bc bs 20 [(0, .ref v0), (1, .int v1)] [] Γ I L Q) (kf : w0 = 0 → am_W m_X3_readQuestion d mc ms al bc bs 18 [(0, .ref v0), (1, .int v1)] [] Γ I L Q) : am_W m_X3_readQuestion d mc ms al bc bs 15 [(0, .ref v0), (1, .int v1)] [.int w0] Γ I L Q := by
  exact aw_if_ne dX3_readQuestion_15 (by decide) kt kf
theorem bX3_readQuestion_18 {d mc ms : Nat} {al : Bool} {bc bs : Nat} {Γ : am_G} {I : am_I} {L : am_L} {Q : am_Q} {v0 : Nat} {v1 : Int32} (hq : Q (.inl (some (.int 0))) Γ I L) : am_W m_X3_readQuestion d mc ms al bc bs 18 [(0, .ref v0), (1, .int v1)] [] Γ I L Q := by
  refine aw_iconst dX3_readQuestion_18 ci_0 ?_
  exact aw_zret (ty := .boolean) dX3_readQuestion_19 rfl rfl hq
theorem bX3_readQuestion_20 {d mc ms : Nat} {al : Bool} {bc bs : Nat} {Γ : am_G} {I : am_I} {L : am_L} {Q : am_Q} {v0 : Nat} {v1 : Int32} {r2 : Nat} {r5 : Nat} {n_r5 : Nat} {r9 : Nat} {n_r9 : Nat} {I' : am_I} {L' : am_L} {mc' : Nat} {ms' : Nat} (o1 : am_ob Γ v0 3) (g3 : Γ.2.2 v0 5 = some r2) (o4 : am_ob Γ r2 5) (g6 : Γ.2.2 r2 4 = some r5) (a7 : am_ar Γ r5 4 n_r5 0) (i8 : vp_in v1 n_r5) (g10 : Γ.2.2 r2 6 = some r9) (a11 : am_ar Γ r9 1 n_r9 0) (i12 : vp_in v1 n_r9) (hbc : mc' ≤ bc) (hbs : ms' ≤ bs) (hC : am_E m_X3_advance d mc' ms' [.ref v0] Γ (am_u I r9 (v1.toNatClampNeg) 0) (am_ul L r5 (v1.toNatClampNeg) (L v0 10)) (.inl none) I' L') (kk : am_W m_X3_readQuestion (d + 1) mc ms al (bc - mc') (bs - ms') 47 [(0, .ref v0), (1, .int v1)] [] Γ I' L' Q) : am_W m_X3_readQuestion (d + 1) mc ms al bc bs 20 [(0, .ref v0), (1, .int v1)] [] Γ I L Q := by
  refine aw_aload_n dX3_readQuestion_20 rfl ?_
  refine aw_getR dX3_readQuestion_21 f_X3_19 o1 rfl g3 ?_
  refine aw_getR dX3_readQuestion_24 f_X3_129 o4 rfl g6 ?_
  refine aw_iload_n dX3_readQuestion_27 rfl ?_
  refine aw_aload_n dX3_readQuestion_28 rfl ?_
  refine aw_getL dX3_readQuestion_29 f_X3_62 o1 rfl ?_
  refine aw_last dX3_readQuestion_32 a7 i8 ?_
  refine aw_aload_n dX3_readQuestion_33 rfl ?_
  refine aw_getR dX3_readQuestion_34 f_X3_19 o1 rfl g3 ?_
  refine aw_getR dX3_readQuestion_37 f_X3_133 o4 rfl g10 ?_
  refine aw_iload_n dX3_readQuestion_40 rfl ?_
  refine aw_iconst dX3_readQuestion_41 ci_0 ?_
  refine aw_iast dX3_readQuestion_42 a11 i12 ?_
  refine aw_aload_n dX3_readQuestion_43 rfl ?_
  exact aw_askV (as := []) (rst := []) k_X3_advance l_X3_43 i_X3_advance s_X3_advance rfl o1 dX3_readQuestion_44 rfl (Nat.le_of_ble_eq_true rfl) hbc hbs hC rfl rfl kk
theorem bX3_readQuestion_47 {d mc ms : Nat} {al : Bool} {bc bs : Nat} {Γ : am_G} {I : am_I} {L : am_L} {Q : am_Q} {v0 : Nat} {v1 : Int32} {r2 : Nat} {r5 : Nat} {I' : am_I} {L' : am_L} {mc' : Nat} {ms' : Nat} {r : Int32} (o1 : am_ob Γ v0 3) (g3 : Γ.2.2 v0 5 = some r2) (o4 : am_ob Γ r2 5) (g6 : Γ.2.2 r2 5 = some r5) (hbc : mc' ≤ bc) (hbs : ms' ≤ bs) (hC : am_E m_X3_takeNumber d mc' ms' [.ref v0, .int 1, .int 9] Γ I L (.inl (some (.int r))) I' L') (kk : am_W m_X3_readQuestion (d + 1) mc ms al (bc - mc') (bs - ms') 62 [(0, .ref v0), (1, .int v1)] [.int r, .int v1, .ref r5] Γ I' L' Q) : am_W m_X3_readQuestion (d + 1) mc ms al bc bs 47 [(0, .ref v0), (1, .int v1)] [] Γ I L Q := by
  refine aw_aload_n dX3_readQuestion_47 rfl ?_
  refine aw_getR dX3_readQuestion_48 f_X3_19 o1 rfl g3 ?_
  refine aw_getR dX3_readQuestion_51 f_X3_137 o4 rfl g6 ?_
  refine aw_iload_n dX3_readQuestion_54 rfl ?_
  refine aw_aload_n dX3_readQuestion_55 rfl ?_
  refine aw_iconst dX3_readQuestion_56 ci_1 ?_
  refine aw_bipush dX3_readQuestion_57 cb_9 ?_
  exact aw_askV (as := [.int 1, .int 9]) (rst := [.int v1, .ref r5]) k_X3_takeNumber l_X3_140 i_X3_takeNumber s_X3_takeNumber rfl o1 dX3_readQuestion_59 rfl (Nat.le_of_ble_eq_true rfl) hbc hbs hC rfl rfl kk
theorem bX3_readQuestion_62 {d mc ms : Nat} {al : Bool} {bc bs : Nat} {Γ : am_G} {I : am_I} {L : am_L} {Q : am_Q} {v0 : Nat} {v1 : Int32} {w0 : Nat} {w1 : Int32} {w2 : Int32} {n_w0 : Nat} {r4 : Nat} {r7 : Nat} {n_r7 : Nat} (a1 : am_ar Γ w0 1 n_w0 0) (i2 : vp_in w1 n_w0) (o3 : am_ob Γ v0 3) (g5 : Γ.2.2 v0 5 = some r4) (o6 : am_ob Γ r4 5) (g8 : Γ.2.2 r4 5 = some r7) (a9 : am_ar Γ r7 1 n_r7 0) (i10 : vp_in v1 n_r7) (kt : ((am_u (am_u I w0 (w1.toNatClampNeg) w2) r4 0 (v1 + 1)) r7 (v1.toNatClampNeg)) = (-1) → am_W m_X3_readQuestion d mc ms al bc bs 97 [(0, .ref v0), (1, .int v1)] [] Γ (am_u (am_u I w0 (w1.toNatClampNeg) w2) r4 0 (v1 + 1)) L Q) (kf : ¬ ((am_u (am_u I w0 (w1.toNatClampNeg) w2) r4 0 (v1 + 1)) r7 (v1.toNatClampNeg)) = (-1) → am_W m_X3_readQuestion d mc ms al bc bs 86 [(0, .ref v0), (1, .int v1)] [] Γ (am_u (am_u I w0 (w1.toNatClampNeg) w2) r4 0 (v1 + 1)) L Q) : am_W m_X3_readQuestion d mc ms al bc bs 62 [(0, .ref v0), (1, .int v1)] [.int w2, .int w1, .ref w0] Γ I L Q := by
  refine aw_iast dX3_readQuestion_62 a1 i2 ?_
  refine aw_aload_n dX3_readQuestion_63 rfl ?_
  refine aw_getR dX3_readQuestion_64 f_X3_19 o3 rfl g5 ?_
  refine aw_iload_n dX3_readQuestion_67 rfl ?_
  refine aw_iconst dX3_readQuestion_68 ci_1 ?_
  refine aw_iadd dX3_readQuestion_69 ?_
  refine aw_putI dX3_readQuestion_70 pf_X3_144 o6 rfl ?_
  refine aw_aload_n dX3_readQuestion_73 rfl ?_
  refine aw_getR dX3_readQuestion_74 f_X3_19 o3 rfl g5 ?_
  refine aw_getR dX3_readQuestion_77 f_X3_137 o6 rfl g8 ?_
  refine aw_iload_n dX3_readQuestion_80 rfl ?_
  refine aw_iald dX3_readQuestion_81 a9 i10 ?_
  refine aw_iconst dX3_readQuestion_82 ci_m1 ?_
  exact aw_icmp_eq dX3_readQuestion_83 (by decide) kt kf
theorem bX3_readQuestion_86 {d mc ms : Nat} {al : Bool} {bc bs : Nat} {Γ : am_G} {I : am_I} {L : am_L} {Q : am_Q} {v0 : Nat} {v1 : Int32} {I' : am_I} {L' : am_L} {mc' : Nat} {ms' : Nat} {r : Int32} (o1 : am_ob Γ v0 3) (hbc : mc' ≤ bc) (hbs : ms' ≤ bs) (hC : am_E m_X3_takeSemicolon d mc' ms' [.ref v0] Γ I L (.inl (some (.int r))) I' L') (kk : am_W m_X3_readQuestion (d + 1) mc ms al (bc - mc') (bs - ms') 90 [(0, .ref v0), (1, .int v1)] [.int r] Γ I' L' Q) : am_W m_X3_readQuestion (d + 1) mc ms al bc bs 86 [(0, .ref v0), (1, .int v1)] [] Γ I L Q := by
  refine aw_aload_n dX3_readQuestion_86 rfl ?_
  exact aw_askV (as := []) (rst := []) k_X3_takeSemicolon l_X3_103 i_X3_takeSemicolon s_X3_takeSemicolon rfl o1 dX3_readQuestion_87 rfl (Nat.le_of_ble_eq_true rfl) hbc hbs hC rfl rfl kk
theorem bX3_readQuestion_90 {d mc ms : Nat} {al : Bool} {bc bs : Nat} {Γ : am_G} {I : am_I} {L : am_L} {Q : am_Q} {v0 : Nat} {v1 : Int32} {w0 : Int32} (kt : w0 = 0 → am_W m_X3_readQuestion d mc ms al bc bs 97 [(0, .ref v0), (1, .int v1)] [] Γ I L Q) (kf : ¬ w0 = 0 → am_W m_X3_readQuestion d mc ms al bc bs 93 [(0, .ref v0), (1, .int v1)] [] Γ I L Q) : am_W m_X3_readQuestion d mc ms al bc bs 90 [(0, .ref v0), (1, .int v1)] [.int w0] Γ I L Q := by
  exact aw_if_eq dX3_readQuestion_90 (by decide) kt kf
theorem bX3_readQuestion_93 {d mc ms : Nat} {al : Bool} {bc bs : Nat} {Γ : am_G} {I : am_I} {L : am_L} {Q : am_Q} {v0 : Nat} {v1 : Int32} (kk : am_W m_X3_readQuestion d mc ms al bc bs 98 [(0, .ref v0), (1, .int v1)] [.int 1] Γ I L Q) : am_W m_X3_readQuestion d mc ms al bc bs 93 [(0, .ref v0), (1, .int v1)] [] Γ I L Q := by
  refine aw_iconst dX3_readQuestion_93 ci_1 ?_
  exact aw_goto dX3_readQuestion_94 (by decide) kk
theorem bX3_readQuestion_97 {d mc ms : Nat} {al : Bool} {bc bs : Nat} {Γ : am_G} {I : am_I} {L : am_L} {Q : am_Q} {v0 : Nat} {v1 : Int32} (kk : am_W m_X3_readQuestion d mc ms al bc bs 98 [(0, .ref v0), (1, .int v1)] [.int 0] Γ I L Q) : am_W m_X3_readQuestion d mc ms al bc bs 97 [(0, .ref v0), (1, .int v1)] [] Γ I L Q := by
  refine aw_iconst dX3_readQuestion_97 ci_0 ?_
  exact kk
theorem bX3_readQuestion_98 {d mc ms : Nat} {al : Bool} {bc bs : Nat} {Γ : am_G} {I : am_I} {L : am_L} {Q : am_Q} {v0 : Nat} {v1 : Int32} {w0 : Int32} (hz : narrow .boolean (.int w0) = .int w0) (hq : Q (.inl (some (.int w0))) Γ I L) : am_W m_X3_readQuestion d mc ms al bc bs 98 [(0, .ref v0), (1, .int v1)] [.int w0] Γ I L Q := by
  exact aw_zret (ty := .boolean) dX3_readQuestion_98 rfl hz hq
theorem dX3_readCarts_0 : decode cX3_readCarts 0 = .ok (.iconst 0, 1) := by decide +kernel
theorem dX3_readCarts_1 : decode cX3_readCarts 1 = .ok (.istore_n 1, 1) := by decide +kernel
theorem dX3_readCarts_2 : decode cX3_readCarts 2 = .ok (.iload_n 1, 1) := by decide +kernel
theorem dX3_readCarts_3 : decode cX3_readCarts 3 = .ok (.bipush 8, 2) := by decide +kernel
theorem dX3_readCarts_5 : decode cX3_readCarts 5 = .ok (.if_icmp .ge 43, 3) := by decide +kernel
theorem dX3_readCarts_8 : decode cX3_readCarts 8 = .ok (.iload_n 1, 1) := by decide +kernel
theorem dX3_readCarts_9 : decode cX3_readCarts 9 = .ok (.ifCond .le 14, 3) := by decide +kernel
theorem dX3_readCarts_12 : decode cX3_readCarts 12 = .ok (.aload_n 0, 1) := by decide +kernel
theorem dX3_readCarts_13 : decode cX3_readCarts 13 = .ok (.ldc 147, 2) := by decide +kernel
theorem dX3_readCarts_15 : decode cX3_readCarts 15 = .ok (.invokevirtual 79, 3) := by decide +kernel
theorem dX3_readCarts_18 : decode cX3_readCarts 18 = .ok (.ifCond .ne 5, 3) := by decide +kernel
theorem dX3_readCarts_21 : decode cX3_readCarts 21 = .ok (.iconst 1, 1) := by decide +kernel
theorem dX3_readCarts_22 : decode cX3_readCarts 22 = .ok (.ireturn, 1) := by decide +kernel
theorem dX3_readCarts_23 : decode cX3_readCarts 23 = .ok (.aload_n 0, 1) := by decide +kernel
theorem dX3_readCarts_24 : decode cX3_readCarts 24 = .ok (.ldc 147, 2) := by decide +kernel
theorem dX3_readCarts_26 : decode cX3_readCarts 26 = .ok (.invokevirtual 100, 3) := by decide +kernel
theorem dX3_readCarts_29 : decode cX3_readCarts 29 = .ok (.ifCond .eq 11, 3) := by decide +kernel
theorem dX3_readCarts_32 : decode cX3_readCarts 32 = .ok (.aload_n 0, 1) := by decide +kernel
theorem dX3_readCarts_33 : decode cX3_readCarts 33 = .ok (.iload_n 1, 1) := by decide +kernel
theorem dX3_readCarts_34 : decode cX3_readCarts 34 = .ok (.invokevirtual 149, 3) := by decide +kernel
theorem dX3_readCarts_37 : decode cX3_readCarts 37 = .ok (.ifCond .ne 5, 3) := by decide +kernel
theorem dX3_readCarts_40 : decode cX3_readCarts 40 = .ok (.iconst 0, 1) := by decide +kernel
theorem dX3_readCarts_41 : decode cX3_readCarts 41 = .ok (.ireturn, 1) := by decide +kernel
theorem dX3_readCarts_42 : decode cX3_readCarts 42 = .ok (.iinc 1 1, 3) := by decide +kernel
theorem dX3_readCarts_45 : decode cX3_readCarts 45 = .ok (.goto (-43), 3) := by decide +kernel
theorem dX3_readCarts_48 : decode cX3_readCarts 48 = .ok (.aload_n 0, 1) := by decide +kernel
theorem dX3_readCarts_49 : decode cX3_readCarts 49 = .ok (.ldc 147, 2) := by decide +kernel
theorem dX3_readCarts_51 : decode cX3_readCarts 51 = .ok (.invokevirtual 79, 3) := by decide +kernel
theorem dX3_readCarts_54 : decode cX3_readCarts 54 = .ok (.ifCond .eq 11, 3) := by decide +kernel
theorem dX3_readCarts_57 : decode cX3_readCarts 57 = .ok (.aload_n 0, 1) := by decide +kernel
theorem dX3_readCarts_58 : decode cX3_readCarts 58 = .ok (.iconst 5, 1) := by decide +kernel
theorem dX3_readCarts_59 : decode cX3_readCarts 59 = .ok (.invokevirtual 83, 3) := by decide +kernel
theorem dX3_readCarts_62 : decode cX3_readCarts 62 = .ok (.ifCond .eq 7, 3) := by decide +kernel
theorem dX3_readCarts_65 : decode cX3_readCarts 65 = .ok (.iconst 1, 1) := by decide +kernel
theorem dX3_readCarts_66 : decode cX3_readCarts 66 = .ok (.goto 4, 3) := by decide +kernel
theorem dX3_readCarts_69 : decode cX3_readCarts 69 = .ok (.iconst 0, 1) := by decide +kernel
theorem dX3_readCarts_70 : decode cX3_readCarts 70 = .ok (.ireturn, 1) := by decide +kernel
theorem bX3_readCarts_0 {d mc ms : Nat} {al : Bool} {bc bs : Nat} {Γ : am_G} {I : am_I} {L : am_L} {Q : am_Q} {v0 : Nat} (kk : am_W m_X3_readCarts d mc ms al bc bs 2 [(0, .ref v0), (1, .int 0)] [] Γ I L Q) : am_W m_X3_readCarts d mc ms al bc bs 0 [(0, .ref v0)] [] Γ I L Q := by
  refine aw_iconst dX3_readCarts_0 ci_0 ?_
  refine aw_istore_n (ls' := [(0, .ref v0), (1, .int 0)]) dX3_readCarts_1 (by decide) rfl ?_
  exact kk
theorem bX3_readCarts_2 {d mc ms : Nat} {al : Bool} {bc bs : Nat} {Γ : am_G} {I : am_I} {L : am_L} {Q : am_Q} {v0 : Nat} {v1 : Int32} (kt : 8 ≤ v1 → am_W m_X3_readCarts d mc ms al bc bs 48 [(0, .ref v0), (1, .int v1)] [] Γ I L Q) (kf : ¬ 8 ≤ v1 → am_W m_X3_readCarts d mc ms al bc bs 8 [(0, .ref v0), (1, .int v1)] [] Γ I L Q) : am_W m_X3_readCarts d mc ms al bc bs 2 [(0, .ref v0), (1, .int v1)] [] Γ I L Q := by
  refine aw_iload_n dX3_readCarts_2 rfl ?_
  refine aw_bipush dX3_readCarts_3 cb_8 ?_
  exact aw_icmp_ge dX3_readCarts_5 (by decide) kt kf
theorem bX3_readCarts_8 {d mc ms : Nat} {al : Bool} {bc bs : Nat} {Γ : am_G} {I : am_I} {L : am_L} {Q : am_Q} {v0 : Nat} {v1 : Int32} (kt : v1 ≤ 0 → am_W m_X3_readCarts d mc ms al bc bs 23 [(0, .ref v0), (1, .int v1)] [] Γ I L Q) (kf : ¬ v1 ≤ 0 → am_W m_X3_readCarts d mc ms al bc bs 12 [(0, .ref v0), (1, .int v1)] [] Γ I L Q) : am_W m_X3_readCarts d mc ms al bc bs 8 [(0, .ref v0), (1, .int v1)] [] Γ I L Q := by
  refine aw_iload_n dX3_readCarts_8 rfl ?_
  exact aw_if_le dX3_readCarts_9 (by decide) kt kf
theorem bX3_readCarts_12 {d mc ms : Nat} {al : Bool} {bc bs : Nat} {Γ : am_G} {I : am_I} {L : am_L} {Q : am_Q} {v0 : Nat} {v1 : Int32} {I' : am_I} {L' : am_L} {mc' : Nat} {ms' : Nat} {r : Int32} (o1 : am_ob Γ v0 3) (hbc : mc' ≤ bc) (hbs : ms' ≤ bs) (hC : am_E m_X3_isWord d mc' ms' [.ref v0, .retAddr 3] Γ I L (.inl (some (.int r))) I' L') (kk : am_W m_X3_readCarts (d + 1) mc ms al (bc - mc') (bs - ms') 18 [(0, .ref v0), (1, .int v1)] [.int r] Γ I' L' Q) : am_W m_X3_readCarts (d + 1) mc ms al bc bs 12 [(0, .ref v0), (1, .int v1)] [] Γ I L Q := by
  refine aw_aload_n dX3_readCarts_12 rfl ?_
  refine aw_ldcT dX3_readCarts_13 (i := 3) tx_X3_147 ?_
  exact aw_askV (as := [.retAddr 3]) (rst := []) k_X3_isWord l_X3_79 i_X3_isWord s_X3_isWord rfl o1 dX3_readCarts_15 rfl (Nat.le_of_ble_eq_true rfl) hbc hbs hC rfl rfl kk
theorem bX3_readCarts_18 {d mc ms : Nat} {al : Bool} {bc bs : Nat} {Γ : am_G} {I : am_I} {L : am_L} {Q : am_Q} {v0 : Nat} {v1 : Int32} {w0 : Int32} (kt : ¬ w0 = 0 → am_W m_X3_readCarts d mc ms al bc bs 23 [(0, .ref v0), (1, .int v1)] [] Γ I L Q) (kf : w0 = 0 → am_W m_X3_readCarts d mc ms al bc bs 21 [(0, .ref v0), (1, .int v1)] [] Γ I L Q) : am_W m_X3_readCarts d mc ms al bc bs 18 [(0, .ref v0), (1, .int v1)] [.int w0] Γ I L Q := by
  exact aw_if_ne dX3_readCarts_18 (by decide) kt kf
theorem bX3_readCarts_21 {d mc ms : Nat} {al : Bool} {bc bs : Nat} {Γ : am_G} {I : am_I} {L : am_L} {Q : am_Q} {v0 : Nat} {v1 : Int32} (hq : Q (.inl (some (.int 1))) Γ I L) : am_W m_X3_readCarts d mc ms al bc bs 21 [(0, .ref v0), (1, .int v1)] [] Γ I L Q := by
  refine aw_iconst dX3_readCarts_21 ci_1 ?_
  exact aw_zret (ty := .boolean) dX3_readCarts_22 rfl rfl hq
theorem bX3_readCarts_23 {d mc ms : Nat} {al : Bool} {bc bs : Nat} {Γ : am_G} {I : am_I} {L : am_L} {Q : am_Q} {v0 : Nat} {v1 : Int32} {I' : am_I} {L' : am_L} {mc' : Nat} {ms' : Nat} {r : Int32} (o1 : am_ob Γ v0 3) (hbc : mc' ≤ bc) (hbs : ms' ≤ bs) (hC : am_E m_X3_takeWord d mc' ms' [.ref v0, .retAddr 3] Γ I L (.inl (some (.int r))) I' L') (kk : am_W m_X3_readCarts (d + 1) mc ms al (bc - mc') (bs - ms') 29 [(0, .ref v0), (1, .int v1)] [.int r] Γ I' L' Q) : am_W m_X3_readCarts (d + 1) mc ms al bc bs 23 [(0, .ref v0), (1, .int v1)] [] Γ I L Q := by
  refine aw_aload_n dX3_readCarts_23 rfl ?_
  refine aw_ldcT dX3_readCarts_24 (i := 3) tx_X3_147 ?_
  exact aw_askV (as := [.retAddr 3]) (rst := []) k_X3_takeWord l_X3_100 i_X3_takeWord s_X3_takeWord rfl o1 dX3_readCarts_26 rfl (Nat.le_of_ble_eq_true rfl) hbc hbs hC rfl rfl kk
theorem bX3_readCarts_29 {d mc ms : Nat} {al : Bool} {bc bs : Nat} {Γ : am_G} {I : am_I} {L : am_L} {Q : am_Q} {v0 : Nat} {v1 : Int32} {w0 : Int32} (kt : w0 = 0 → am_W m_X3_readCarts d mc ms al bc bs 40 [(0, .ref v0), (1, .int v1)] [] Γ I L Q) (kf : ¬ w0 = 0 → am_W m_X3_readCarts d mc ms al bc bs 32 [(0, .ref v0), (1, .int v1)] [] Γ I L Q) : am_W m_X3_readCarts d mc ms al bc bs 29 [(0, .ref v0), (1, .int v1)] [.int w0] Γ I L Q := by
  exact aw_if_eq dX3_readCarts_29 (by decide) kt kf
theorem bX3_readCarts_32 {d mc ms : Nat} {al : Bool} {bc bs : Nat} {Γ : am_G} {I : am_I} {L : am_L} {Q : am_Q} {v0 : Nat} {v1 : Int32} {I' : am_I} {L' : am_L} {mc' : Nat} {ms' : Nat} {r : Int32} (o1 : am_ob Γ v0 3) (hbc : mc' ≤ bc) (hbs : ms' ≤ bs) (hC : am_E m_X3_readCart d mc' ms' [.ref v0, .int v1] Γ I L (.inl (some (.int r))) I' L') (kk : am_W m_X3_readCarts (d + 1) mc ms al (bc - mc') (bs - ms') 37 [(0, .ref v0), (1, .int v1)] [.int r] Γ I' L' Q) : am_W m_X3_readCarts (d + 1) mc ms al bc bs 32 [(0, .ref v0), (1, .int v1)] [] Γ I L Q := by
  refine aw_aload_n dX3_readCarts_32 rfl ?_
  refine aw_iload_n dX3_readCarts_33 rfl ?_
  exact aw_askV (as := [.int v1]) (rst := []) k_X3_readCart l_X3_149 i_X3_readCart s_X3_readCart rfl o1 dX3_readCarts_34 rfl (Nat.le_of_ble_eq_true rfl) hbc hbs hC rfl rfl kk
theorem bX3_readCarts_37 {d mc ms : Nat} {al : Bool} {bc bs : Nat} {Γ : am_G} {I : am_I} {L : am_L} {Q : am_Q} {v0 : Nat} {v1 : Int32} {w0 : Int32} (kt : ¬ w0 = 0 → am_W m_X3_readCarts d mc ms al bc bs 42 [(0, .ref v0), (1, .int v1)] [] Γ I L Q) (kf : w0 = 0 → am_W m_X3_readCarts d mc ms al bc bs 40 [(0, .ref v0), (1, .int v1)] [] Γ I L Q) : am_W m_X3_readCarts d mc ms al bc bs 37 [(0, .ref v0), (1, .int v1)] [.int w0] Γ I L Q := by
  exact aw_if_ne dX3_readCarts_37 (by decide) kt kf
theorem bX3_readCarts_40 {d mc ms : Nat} {al : Bool} {bc bs : Nat} {Γ : am_G} {I : am_I} {L : am_L} {Q : am_Q} {v0 : Nat} {v1 : Int32} (hq : Q (.inl (some (.int 0))) Γ I L) : am_W m_X3_readCarts d mc ms al bc bs 40 [(0, .ref v0), (1, .int v1)] [] Γ I L Q := by
  refine aw_iconst dX3_readCarts_40 ci_0 ?_
  exact aw_zret (ty := .boolean) dX3_readCarts_41 rfl rfl hq
theorem bX3_readCarts_42 {d mc ms : Nat} {al : Bool} {bc bs : Nat} {Γ : am_G} {I : am_I} {L : am_L} {Q : am_Q} {v0 : Nat} {v1 : Int32} (kk : am_W m_X3_readCarts d mc ms al bc bs 2 [(0, .ref v0), (1, .int (v1 + 1))] [] Γ I L Q) : am_W m_X3_readCarts d mc ms al bc bs 42 [(0, .ref v0), (1, .int v1)] [] Γ I L Q := by
  refine aw_iinc (ls' := [(0, .ref v0), (1, .int (v1 + 1))]) dX3_readCarts_42 rfl (cn_1 _) (by decide) rfl ?_
  exact aw_goto dX3_readCarts_45 (by decide) kk
theorem bX3_readCarts_48 {d mc ms : Nat} {al : Bool} {bc bs : Nat} {Γ : am_G} {I : am_I} {L : am_L} {Q : am_Q} {v0 : Nat} {v1 : Int32} {I' : am_I} {L' : am_L} {mc' : Nat} {ms' : Nat} {r : Int32} (o1 : am_ob Γ v0 3) (hbc : mc' ≤ bc) (hbs : ms' ≤ bs) (hC : am_E m_X3_isWord d mc' ms' [.ref v0, .retAddr 3] Γ I L (.inl (some (.int r))) I' L') (kk : am_W m_X3_readCarts (d + 1) mc ms al (bc - mc') (bs - ms') 54 [(0, .ref v0), (1, .int v1)] [.int r] Γ I' L' Q) : am_W m_X3_readCarts (d + 1) mc ms al bc bs 48 [(0, .ref v0), (1, .int v1)] [] Γ I L Q := by
  refine aw_aload_n dX3_readCarts_48 rfl ?_
  refine aw_ldcT dX3_readCarts_49 (i := 3) tx_X3_147 ?_
  exact aw_askV (as := [.retAddr 3]) (rst := []) k_X3_isWord l_X3_79 i_X3_isWord s_X3_isWord rfl o1 dX3_readCarts_51 rfl (Nat.le_of_ble_eq_true rfl) hbc hbs hC rfl rfl kk
theorem bX3_readCarts_54 {d mc ms : Nat} {al : Bool} {bc bs : Nat} {Γ : am_G} {I : am_I} {L : am_L} {Q : am_Q} {v0 : Nat} {v1 : Int32} {w0 : Int32} (kt : w0 = 0 → am_W m_X3_readCarts d mc ms al bc bs 65 [(0, .ref v0), (1, .int v1)] [] Γ I L Q) (kf : ¬ w0 = 0 → am_W m_X3_readCarts d mc ms al bc bs 57 [(0, .ref v0), (1, .int v1)] [] Γ I L Q) : am_W m_X3_readCarts d mc ms al bc bs 54 [(0, .ref v0), (1, .int v1)] [.int w0] Γ I L Q := by
  exact aw_if_eq dX3_readCarts_54 (by decide) kt kf
theorem bX3_readCarts_57 {d mc ms : Nat} {al : Bool} {bc bs : Nat} {Γ : am_G} {I : am_I} {L : am_L} {Q : am_Q} {v0 : Nat} {v1 : Int32} {I' : am_I} {L' : am_L} {mc' : Nat} {ms' : Nat} {r : Int32} (o1 : am_ob Γ v0 3) (hbc : mc' ≤ bc) (hbs : ms' ≤ bs) (hC : am_E m_X3_fail d mc' ms' [.ref v0, .int 5] Γ I L (.inl (some (.int r))) I' L') (kk : am_W m_X3_readCarts (d + 1) mc ms al (bc - mc') (bs - ms') 62 [(0, .ref v0), (1, .int v1)] [.int r] Γ I' L' Q) : am_W m_X3_readCarts (d + 1) mc ms al bc bs 57 [(0, .ref v0), (1, .int v1)] [] Γ I L Q := by
  refine aw_aload_n dX3_readCarts_57 rfl ?_
  refine aw_iconst dX3_readCarts_58 ci_5 ?_
  exact aw_askV (as := [.int 5]) (rst := []) k_X3_fail l_X3_83 i_X3_fail s_X3_fail rfl o1 dX3_readCarts_59 rfl (Nat.le_of_ble_eq_true rfl) hbc hbs hC rfl rfl kk
theorem bX3_readCarts_62 {d mc ms : Nat} {al : Bool} {bc bs : Nat} {Γ : am_G} {I : am_I} {L : am_L} {Q : am_Q} {v0 : Nat} {v1 : Int32} {w0 : Int32} (kt : w0 = 0 → am_W m_X3_readCarts d mc ms al bc bs 69 [(0, .ref v0), (1, .int v1)] [] Γ I L Q) (kf : ¬ w0 = 0 → am_W m_X3_readCarts d mc ms al bc bs 65 [(0, .ref v0), (1, .int v1)] [] Γ I L Q) : am_W m_X3_readCarts d mc ms al bc bs 62 [(0, .ref v0), (1, .int v1)] [.int w0] Γ I L Q := by
  exact aw_if_eq dX3_readCarts_62 (by decide) kt kf
theorem bX3_readCarts_65 {d mc ms : Nat} {al : Bool} {bc bs : Nat} {Γ : am_G} {I : am_I} {L : am_L} {Q : am_Q} {v0 : Nat} {v1 : Int32} (kk : am_W m_X3_readCarts d mc ms al bc bs 70 [(0, .ref v0), (1, .int v1)] [.int 1] Γ I L Q) : am_W m_X3_readCarts d mc ms al bc bs 65 [(0, .ref v0), (1, .int v1)] [] Γ I L Q := by
  refine aw_iconst dX3_readCarts_65 ci_1 ?_
  exact aw_goto dX3_readCarts_66 (by decide) kk
theorem bX3_readCarts_69 {d mc ms : Nat} {al : Bool} {bc bs : Nat} {Γ : am_G} {I : am_I} {L : am_L} {Q : am_Q} {v0 : Nat} {v1 : Int32} (kk : am_W m_X3_readCarts d mc ms al bc bs 70 [(0, .ref v0), (1, .int v1)] [.int 0] Γ I L Q) : am_W m_X3_readCarts d mc ms al bc bs 69 [(0, .ref v0), (1, .int v1)] [] Γ I L Q := by
  refine aw_iconst dX3_readCarts_69 ci_0 ?_
  exact kk
theorem bX3_readCarts_70 {d mc ms : Nat} {al : Bool} {bc bs : Nat} {Γ : am_G} {I : am_I} {L : am_L} {Q : am_Q} {v0 : Nat} {v1 : Int32} {w0 : Int32} (hz : narrow .boolean (.int w0) = .int w0) (hq : Q (.inl (some (.int w0))) Γ I L) : am_W m_X3_readCarts d mc ms al bc bs 70 [(0, .ref v0), (1, .int v1)] [.int w0] Γ I L Q := by
  exact aw_zret (ty := .boolean) dX3_readCarts_70 rfl hz hq
theorem dX3_readCart_0 : decode cX3_readCart 0 = .ok (.aload_n 0, 1) := by decide +kernel
theorem dX3_readCart_1 : decode cX3_readCart 1 = .ok (.aload_n 0, 1) := by decide +kernel
theorem dX3_readCart_2 : decode cX3_readCart 2 = .ok (.getfield 19, 3) := by decide +kernel
theorem dX3_readCart_5 : decode cX3_readCart 5 = .ok (.aload_n 0, 1) := by decide +kernel
theorem dX3_readCart_6 : decode cX3_readCart 6 = .ok (.getfield 62, 3) := by decide +kernel
theorem dX3_readCart_9 : decode cX3_readCart 9 = .ok (.invokevirtual 152, 3) := by decide +kernel
theorem dX3_readCart_12 : decode cX3_readCart 12 = .ok (.invokevirtual 126, 3) := by decide +kernel
theorem dX3_readCart_15 : decode cX3_readCart 15 = .ok (.ifCond .ne 5, 3) := by decide +kernel
theorem dX3_readCart_18 : decode cX3_readCart 18 = .ok (.iconst 0, 1) := by decide +kernel
theorem dX3_readCart_19 : decode cX3_readCart 19 = .ok (.ireturn, 1) := by decide +kernel
theorem dX3_readCart_20 : decode cX3_readCart 20 = .ok (.aload_n 0, 1) := by decide +kernel
theorem dX3_readCart_21 : decode cX3_readCart 21 = .ok (.getfield 19, 3) := by decide +kernel
theorem dX3_readCart_24 : decode cX3_readCart 24 = .ok (.getfield 155, 3) := by decide +kernel
theorem dX3_readCart_27 : decode cX3_readCart 27 = .ok (.iload_n 1, 1) := by decide +kernel
theorem dX3_readCart_28 : decode cX3_readCart 28 = .ok (.aload_n 0, 1) := by decide +kernel
theorem dX3_readCart_29 : decode cX3_readCart 29 = .ok (.getfield 62, 3) := by decide +kernel
theorem dX3_readCart_32 : decode cX3_readCart 32 = .ok (.lastore, 1) := by decide +kernel
theorem dX3_readCart_33 : decode cX3_readCart 33 = .ok (.aload_n 0, 1) := by decide +kernel
theorem dX3_readCart_34 : decode cX3_readCart 34 = .ok (.invokevirtual 43, 3) := by decide +kernel
theorem dX3_readCart_37 : decode cX3_readCart 37 = .ok (.aload_n 0, 1) := by decide +kernel
theorem dX3_readCart_38 : decode cX3_readCart 38 = .ok (.getfield 19, 3) := by decide +kernel
theorem dX3_readCart_41 : decode cX3_readCart 41 = .ok (.getfield 158, 3) := by decide +kernel
theorem dX3_readCart_44 : decode cX3_readCart 44 = .ok (.iload_n 1, 1) := by decide +kernel
theorem dX3_readCart_45 : decode cX3_readCart 45 = .ok (.aload_n 0, 1) := by decide +kernel
theorem dX3_readCart_46 : decode cX3_readCart 46 = .ok (.iconst 0, 1) := by decide +kernel
theorem dX3_readCart_47 : decode cX3_readCart 47 = .ok (.bipush 99, 2) := by decide +kernel
theorem dX3_readCart_49 : decode cX3_readCart 49 = .ok (.invokevirtual 140, 3) := by decide +kernel
theorem dX3_readCart_52 : decode cX3_readCart 52 = .ok (.iastore, 1) := by decide +kernel
theorem dX3_readCart_53 : decode cX3_readCart 53 = .ok (.aload_n 0, 1) := by decide +kernel
theorem dX3_readCart_54 : decode cX3_readCart 54 = .ok (.getfield 19, 3) := by decide +kernel
theorem dX3_readCart_57 : decode cX3_readCart 57 = .ok (.iload_n 1, 1) := by decide +kernel
theorem dX3_readCart_58 : decode cX3_readCart 58 = .ok (.iconst 1, 1) := by decide +kernel
theorem dX3_readCart_59 : decode cX3_readCart 59 = .ok (.iadd, 1) := by decide +kernel
theorem dX3_readCart_60 : decode cX3_readCart 60 = .ok (.putfield 160, 3) := by decide +kernel
theorem dX3_readCart_63 : decode cX3_readCart 63 = .ok (.aload_n 0, 1) := by decide +kernel
theorem dX3_readCart_64 : decode cX3_readCart 64 = .ok (.getfield 19, 3) := by decide +kernel
theorem dX3_readCart_67 : decode cX3_readCart 67 = .ok (.getfield 158, 3) := by decide +kernel
theorem dX3_readCart_70 : decode cX3_readCart 70 = .ok (.iload_n 1, 1) := by decide +kernel
theorem dX3_readCart_71 : decode cX3_readCart 71 = .ok (.iaload, 1) := by decide +kernel
theorem dX3_readCart_72 : decode cX3_readCart 72 = .ok (.iconst (-1), 1) := by decide +kernel
theorem dX3_readCart_73 : decode cX3_readCart 73 = .ok (.if_icmp .eq 22, 3) := by decide +kernel
theorem dX3_readCart_76 : decode cX3_readCart 76 = .ok (.aload_n 0, 1) := by decide +kernel
theorem dX3_readCart_77 : decode cX3_readCart 77 = .ok (.iload_n 1, 1) := by decide +kernel
theorem dX3_readCart_78 : decode cX3_readCart 78 = .ok (.invokevirtual 163, 3) := by decide +kernel
theorem dX3_readCart_81 : decode cX3_readCart 81 = .ok (.ifCond .eq 14, 3) := by decide +kernel
theorem dX3_readCart_84 : decode cX3_readCart 84 = .ok (.aload_n 0, 1) := by decide +kernel
theorem dX3_readCart_85 : decode cX3_readCart 85 = .ok (.invokevirtual 103, 3) := by decide +kernel
theorem dX3_readCart_88 : decode cX3_readCart 88 = .ok (.ifCond .eq 7, 3) := by decide +kernel
theorem dX3_readCart_91 : decode cX3_readCart 91 = .ok (.iconst 1, 1) := by decide +kernel
theorem dX3_readCart_92 : decode cX3_readCart 92 = .ok (.goto 4, 3) := by decide +kernel
theorem dX3_readCart_95 : decode cX3_readCart 95 = .ok (.iconst 0, 1) := by decide +kernel
theorem dX3_readCart_96 : decode cX3_readCart 96 = .ok (.ireturn, 1) := by decide +kernel
theorem bX3_readCart_0 {d mc ms : Nat} {al : Bool} {bc bs : Nat} {Γ : am_G} {I : am_I} {L : am_L} {Q : am_Q} {v0 : Nat} {v1 : Int32} {r2 : Nat} {I' : am_I} {L' : am_L} {mc' : Nat} {ms' : Nat} {r : Int32} (o1 : am_ob Γ v0 3) (g3 : Γ.2.2 v0 5 = some r2) (o4 : am_ob Γ r2 5) (hbc : mc' ≤ bc) (hbs : ms' ≤ bs) (hC : am_E m_X5_typeNamed d mc' ms' [.ref r2, .long (L v0 10)] Γ I L (.inl (some (.int r))) I' L') (kk : am_W m_X3_readCart (d + 1) mc ms al (bc - mc') (bs - ms') 12 [(0, .ref v0), (1, .int v1)] [.int r, .ref v0] Γ I' L' Q) : am_W m_X3_readCart (d + 1) mc ms al bc bs 0 [(0, .ref v0), (1, .int v1)] [] Γ I L Q := by
  refine aw_aload_n dX3_readCart_0 rfl ?_
  refine aw_aload_n dX3_readCart_1 rfl ?_
  refine aw_getR dX3_readCart_2 f_X3_19 o1 rfl g3 ?_
  refine aw_aload_n dX3_readCart_5 rfl ?_
  refine aw_getL dX3_readCart_6 f_X3_62 o1 rfl ?_
  exact aw_askV (as := [.long (L v0 10)]) (rst := [.ref v0]) k_X5_typeNamed l_X3_152 i_X5_typeNamed s_X5_typeNamed rfl o4 dX3_readCart_9 rfl (Nat.le_of_ble_eq_true rfl) hbc hbs hC rfl rfl kk
theorem bX3_readCart_12 {d mc ms : Nat} {al : Bool} {bc bs : Nat} {Γ : am_G} {I : am_I} {L : am_L} {Q : am_Q} {v0 : Nat} {v1 : Int32} {w0 : Nat} {w1 : Int32} {I' : am_I} {L' : am_L} {mc' : Nat} {ms' : Nat} {r : Int32} (o1 : am_ob Γ w0 3) (hbc : mc' ≤ bc) (hbs : ms' ≤ bs) (hC : am_E m_X3_isNewName d mc' ms' [.ref w0, .int w1] Γ I L (.inl (some (.int r))) I' L') (kk : am_W m_X3_readCart (d + 1) mc ms al (bc - mc') (bs - ms') 15 [(0, .ref v0), (1, .int v1)] [.int r] Γ I' L' Q) : am_W m_X3_readCart (d + 1) mc ms al bc bs 12 [(0, .ref v0), (1, .int v1)] [.int w1, .ref w0] Γ I L Q := by
  exact aw_askV (as := [.int w1]) (rst := []) k_X3_isNewName l_X3_126 i_X3_isNewName s_X3_isNewName rfl o1 dX3_readCart_12 rfl (Nat.le_of_ble_eq_true rfl) hbc hbs hC rfl rfl kk
theorem bX3_readCart_15 {d mc ms : Nat} {al : Bool} {bc bs : Nat} {Γ : am_G} {I : am_I} {L : am_L} {Q : am_Q} {v0 : Nat} {v1 : Int32} {w0 : Int32} (kt : ¬ w0 = 0 → am_W m_X3_readCart d mc ms al bc bs 20 [(0, .ref v0), (1, .int v1)] [] Γ I L Q) (kf : w0 = 0 → am_W m_X3_readCart d mc ms al bc bs 18 [(0, .ref v0), (1, .int v1)] [] Γ I L Q) : am_W m_X3_readCart d mc ms al bc bs 15 [(0, .ref v0), (1, .int v1)] [.int w0] Γ I L Q := by
  exact aw_if_ne dX3_readCart_15 (by decide) kt kf
theorem bX3_readCart_18 {d mc ms : Nat} {al : Bool} {bc bs : Nat} {Γ : am_G} {I : am_I} {L : am_L} {Q : am_Q} {v0 : Nat} {v1 : Int32} (hq : Q (.inl (some (.int 0))) Γ I L) : am_W m_X3_readCart d mc ms al bc bs 18 [(0, .ref v0), (1, .int v1)] [] Γ I L Q := by
  refine aw_iconst dX3_readCart_18 ci_0 ?_
  exact aw_zret (ty := .boolean) dX3_readCart_19 rfl rfl hq
theorem bX3_readCart_20 {d mc ms : Nat} {al : Bool} {bc bs : Nat} {Γ : am_G} {I : am_I} {L : am_L} {Q : am_Q} {v0 : Nat} {v1 : Int32} {r2 : Nat} {r5 : Nat} {n_r5 : Nat} {I' : am_I} {L' : am_L} {mc' : Nat} {ms' : Nat} (o1 : am_ob Γ v0 3) (g3 : Γ.2.2 v0 5 = some r2) (o4 : am_ob Γ r2 5) (g6 : Γ.2.2 r2 7 = some r5) (a7 : am_ar Γ r5 4 n_r5 0) (i8 : vp_in v1 n_r5) (hbc : mc' ≤ bc) (hbs : ms' ≤ bs) (hC : am_E m_X3_advance d mc' ms' [.ref v0] Γ I (am_ul L r5 (v1.toNatClampNeg) (L v0 10)) (.inl none) I' L') (kk : am_W m_X3_readCart (d + 1) mc ms al (bc - mc') (bs - ms') 37 [(0, .ref v0), (1, .int v1)] [] Γ I' L' Q) : am_W m_X3_readCart (d + 1) mc ms al bc bs 20 [(0, .ref v0), (1, .int v1)] [] Γ I L Q := by
  refine aw_aload_n dX3_readCart_20 rfl ?_
  refine aw_getR dX3_readCart_21 f_X3_19 o1 rfl g3 ?_
  refine aw_getR dX3_readCart_24 f_X3_155 o4 rfl g6 ?_
  refine aw_iload_n dX3_readCart_27 rfl ?_
  refine aw_aload_n dX3_readCart_28 rfl ?_
  refine aw_getL dX3_readCart_29 f_X3_62 o1 rfl ?_
  refine aw_last dX3_readCart_32 a7 i8 ?_
  refine aw_aload_n dX3_readCart_33 rfl ?_
  exact aw_askV (as := []) (rst := []) k_X3_advance l_X3_43 i_X3_advance s_X3_advance rfl o1 dX3_readCart_34 rfl (Nat.le_of_ble_eq_true rfl) hbc hbs hC rfl rfl kk
theorem bX3_readCart_37 {d mc ms : Nat} {al : Bool} {bc bs : Nat} {Γ : am_G} {I : am_I} {L : am_L} {Q : am_Q} {v0 : Nat} {v1 : Int32} {r2 : Nat} {r5 : Nat} {I' : am_I} {L' : am_L} {mc' : Nat} {ms' : Nat} {r : Int32} (o1 : am_ob Γ v0 3) (g3 : Γ.2.2 v0 5 = some r2) (o4 : am_ob Γ r2 5) (g6 : Γ.2.2 r2 8 = some r5) (hbc : mc' ≤ bc) (hbs : ms' ≤ bs) (hC : am_E m_X3_takeNumber d mc' ms' [.ref v0, .int 0, .int 99] Γ I L (.inl (some (.int r))) I' L') (kk : am_W m_X3_readCart (d + 1) mc ms al (bc - mc') (bs - ms') 52 [(0, .ref v0), (1, .int v1)] [.int r, .int v1, .ref r5] Γ I' L' Q) : am_W m_X3_readCart (d + 1) mc ms al bc bs 37 [(0, .ref v0), (1, .int v1)] [] Γ I L Q := by
  refine aw_aload_n dX3_readCart_37 rfl ?_
  refine aw_getR dX3_readCart_38 f_X3_19 o1 rfl g3 ?_
  refine aw_getR dX3_readCart_41 f_X3_158 o4 rfl g6 ?_
  refine aw_iload_n dX3_readCart_44 rfl ?_
  refine aw_aload_n dX3_readCart_45 rfl ?_
  refine aw_iconst dX3_readCart_46 ci_0 ?_
  refine aw_bipush dX3_readCart_47 cb_99 ?_
  exact aw_askV (as := [.int 0, .int 99]) (rst := [.int v1, .ref r5]) k_X3_takeNumber l_X3_140 i_X3_takeNumber s_X3_takeNumber rfl o1 dX3_readCart_49 rfl (Nat.le_of_ble_eq_true rfl) hbc hbs hC rfl rfl kk
theorem bX3_readCart_52 {d mc ms : Nat} {al : Bool} {bc bs : Nat} {Γ : am_G} {I : am_I} {L : am_L} {Q : am_Q} {v0 : Nat} {v1 : Int32} {w0 : Nat} {w1 : Int32} {w2 : Int32} {n_w0 : Nat} {r4 : Nat} {r7 : Nat} {n_r7 : Nat} (a1 : am_ar Γ w0 1 n_w0 0) (i2 : vp_in w1 n_w0) (o3 : am_ob Γ v0 3) (g5 : Γ.2.2 v0 5 = some r4) (o6 : am_ob Γ r4 5) (g8 : Γ.2.2 r4 8 = some r7) (a9 : am_ar Γ r7 1 n_r7 0) (i10 : vp_in v1 n_r7) (kt : ((am_u (am_u I w0 (w1.toNatClampNeg) w2) r4 1 (v1 + 1)) r7 (v1.toNatClampNeg)) = (-1) → am_W m_X3_readCart d mc ms al bc bs 95 [(0, .ref v0), (1, .int v1)] [] Γ (am_u (am_u I w0 (w1.toNatClampNeg) w2) r4 1 (v1 + 1)) L Q) (kf : ¬ ((am_u (am_u I w0 (w1.toNatClampNeg) w2) r4 1 (v1 + 1)) r7 (v1.toNatClampNeg)) = (-1) → am_W m_X3_readCart d mc ms al bc bs 76 [(0, .ref v0), (1, .int v1)] [] Γ (am_u (am_u I w0 (w1.toNatClampNeg) w2) r4 1 (v1 + 1)) L Q) : am_W m_X3_readCart d mc ms al bc bs 52 [(0, .ref v0), (1, .int v1)] [.int w2, .int w1, .ref w0] Γ I L Q := by
  refine aw_iast dX3_readCart_52 a1 i2 ?_
  refine aw_aload_n dX3_readCart_53 rfl ?_
  refine aw_getR dX3_readCart_54 f_X3_19 o3 rfl g5 ?_
  refine aw_iload_n dX3_readCart_57 rfl ?_
  refine aw_iconst dX3_readCart_58 ci_1 ?_
  refine aw_iadd dX3_readCart_59 ?_
  refine aw_putI dX3_readCart_60 pf_X3_160 o6 rfl ?_
  refine aw_aload_n dX3_readCart_63 rfl ?_
  refine aw_getR dX3_readCart_64 f_X3_19 o3 rfl g5 ?_
  refine aw_getR dX3_readCart_67 f_X3_158 o6 rfl g8 ?_
  refine aw_iload_n dX3_readCart_70 rfl ?_
  refine aw_iald dX3_readCart_71 a9 i10 ?_
  refine aw_iconst dX3_readCart_72 ci_m1 ?_
  exact aw_icmp_eq dX3_readCart_73 (by decide) kt kf
theorem bX3_readCart_76 {d mc ms : Nat} {al : Bool} {bc bs : Nat} {Γ : am_G} {I : am_I} {L : am_L} {Q : am_Q} {v0 : Nat} {v1 : Int32} {I' : am_I} {L' : am_L} {mc' : Nat} {ms' : Nat} {r : Int32} (o1 : am_ob Γ v0 3) (hbc : mc' ≤ bc) (hbs : ms' ≤ bs) (hC : am_E m_X3_readTraits d mc' ms' [.ref v0, .int v1] Γ I L (.inl (some (.int r))) I' L') (kk : am_W m_X3_readCart (d + 1) mc ms al (bc - mc') (bs - ms') 81 [(0, .ref v0), (1, .int v1)] [.int r] Γ I' L' Q) : am_W m_X3_readCart (d + 1) mc ms al bc bs 76 [(0, .ref v0), (1, .int v1)] [] Γ I L Q := by
  refine aw_aload_n dX3_readCart_76 rfl ?_
  refine aw_iload_n dX3_readCart_77 rfl ?_
  exact aw_askV (as := [.int v1]) (rst := []) k_X3_readTraits l_X3_163 i_X3_readTraits s_X3_readTraits rfl o1 dX3_readCart_78 rfl (Nat.le_of_ble_eq_true rfl) hbc hbs hC rfl rfl kk
theorem bX3_readCart_81 {d mc ms : Nat} {al : Bool} {bc bs : Nat} {Γ : am_G} {I : am_I} {L : am_L} {Q : am_Q} {v0 : Nat} {v1 : Int32} {w0 : Int32} (kt : w0 = 0 → am_W m_X3_readCart d mc ms al bc bs 95 [(0, .ref v0), (1, .int v1)] [] Γ I L Q) (kf : ¬ w0 = 0 → am_W m_X3_readCart d mc ms al bc bs 84 [(0, .ref v0), (1, .int v1)] [] Γ I L Q) : am_W m_X3_readCart d mc ms al bc bs 81 [(0, .ref v0), (1, .int v1)] [.int w0] Γ I L Q := by
  exact aw_if_eq dX3_readCart_81 (by decide) kt kf
theorem bX3_readCart_84 {d mc ms : Nat} {al : Bool} {bc bs : Nat} {Γ : am_G} {I : am_I} {L : am_L} {Q : am_Q} {v0 : Nat} {v1 : Int32} {I' : am_I} {L' : am_L} {mc' : Nat} {ms' : Nat} {r : Int32} (o1 : am_ob Γ v0 3) (hbc : mc' ≤ bc) (hbs : ms' ≤ bs) (hC : am_E m_X3_takeSemicolon d mc' ms' [.ref v0] Γ I L (.inl (some (.int r))) I' L') (kk : am_W m_X3_readCart (d + 1) mc ms al (bc - mc') (bs - ms') 88 [(0, .ref v0), (1, .int v1)] [.int r] Γ I' L' Q) : am_W m_X3_readCart (d + 1) mc ms al bc bs 84 [(0, .ref v0), (1, .int v1)] [] Γ I L Q := by
  refine aw_aload_n dX3_readCart_84 rfl ?_
  exact aw_askV (as := []) (rst := []) k_X3_takeSemicolon l_X3_103 i_X3_takeSemicolon s_X3_takeSemicolon rfl o1 dX3_readCart_85 rfl (Nat.le_of_ble_eq_true rfl) hbc hbs hC rfl rfl kk
theorem bX3_readCart_88 {d mc ms : Nat} {al : Bool} {bc bs : Nat} {Γ : am_G} {I : am_I} {L : am_L} {Q : am_Q} {v0 : Nat} {v1 : Int32} {w0 : Int32} (kt : w0 = 0 → am_W m_X3_readCart d mc ms al bc bs 95 [(0, .ref v0), (1, .int v1)] [] Γ I L Q) (kf : ¬ w0 = 0 → am_W m_X3_readCart d mc ms al bc bs 91 [(0, .ref v0), (1, .int v1)] [] Γ I L Q) : am_W m_X3_readCart d mc ms al bc bs 88 [(0, .ref v0), (1, .int v1)] [.int w0] Γ I L Q := by
  exact aw_if_eq dX3_readCart_88 (by decide) kt kf
theorem bX3_readCart_91 {d mc ms : Nat} {al : Bool} {bc bs : Nat} {Γ : am_G} {I : am_I} {L : am_L} {Q : am_Q} {v0 : Nat} {v1 : Int32} (kk : am_W m_X3_readCart d mc ms al bc bs 96 [(0, .ref v0), (1, .int v1)] [.int 1] Γ I L Q) : am_W m_X3_readCart d mc ms al bc bs 91 [(0, .ref v0), (1, .int v1)] [] Γ I L Q := by
  refine aw_iconst dX3_readCart_91 ci_1 ?_
  exact aw_goto dX3_readCart_92 (by decide) kk
theorem bX3_readCart_95 {d mc ms : Nat} {al : Bool} {bc bs : Nat} {Γ : am_G} {I : am_I} {L : am_L} {Q : am_Q} {v0 : Nat} {v1 : Int32} (kk : am_W m_X3_readCart d mc ms al bc bs 96 [(0, .ref v0), (1, .int v1)] [.int 0] Γ I L Q) : am_W m_X3_readCart d mc ms al bc bs 95 [(0, .ref v0), (1, .int v1)] [] Γ I L Q := by
  refine aw_iconst dX3_readCart_95 ci_0 ?_
  exact kk
theorem bX3_readCart_96 {d mc ms : Nat} {al : Bool} {bc bs : Nat} {Γ : am_G} {I : am_I} {L : am_L} {Q : am_Q} {v0 : Nat} {v1 : Int32} {w0 : Int32} (hz : narrow .boolean (.int w0) = .int w0) (hq : Q (.inl (some (.int w0))) Γ I L) : am_W m_X3_readCart d mc ms al bc bs 96 [(0, .ref v0), (1, .int v1)] [.int w0] Γ I L Q := by
  exact aw_zret (ty := .boolean) dX3_readCart_96 rfl hz hq
theorem dX3_readTraits_0 : decode cX3_readTraits 0 = .ok (.iconst 0, 1) := by decide +kernel
theorem dX3_readTraits_1 : decode cX3_readTraits 1 = .ok (.istore_n 2, 1) := by decide +kernel
theorem dX3_readTraits_2 : decode cX3_readTraits 2 = .ok (.iload_n 2, 1) := by decide +kernel
theorem dX3_readTraits_3 : decode cX3_readTraits 3 = .ok (.bipush 6, 2) := by decide +kernel
theorem dX3_readTraits_5 : decode cX3_readTraits 5 = .ok (.if_icmp .gt 80, 3) := by decide +kernel
theorem dX3_readTraits_8 : decode cX3_readTraits 8 = .ok (.aload_n 0, 1) := by decide +kernel
theorem dX3_readTraits_9 : decode cX3_readTraits 9 = .ok (.getfield 49, 3) := by decide +kernel
theorem dX3_readTraits_12 : decode cX3_readTraits 12 = .ok (.iconst 2, 1) := by decide +kernel
theorem dX3_readTraits_13 : decode cX3_readTraits 13 = .ok (.if_icmp .eq 72, 3) := by decide +kernel
theorem dX3_readTraits_16 : decode cX3_readTraits 16 = .ok (.aload_n 0, 1) := by decide +kernel
theorem dX3_readTraits_17 : decode cX3_readTraits 17 = .ok (.getfield 19, 3) := by decide +kernel
theorem dX3_readTraits_20 : decode cX3_readTraits 20 = .ok (.aload_n 0, 1) := by decide +kernel
theorem dX3_readTraits_21 : decode cX3_readTraits 21 = .ok (.getfield 62, 3) := by decide +kernel
theorem dX3_readTraits_24 : decode cX3_readTraits 24 = .ok (.invokevirtual 120, 3) := by decide +kernel
theorem dX3_readTraits_27 : decode cX3_readTraits 27 = .ok (.istore_n 3, 1) := by decide +kernel
theorem dX3_readTraits_28 : decode cX3_readTraits 28 = .ok (.aload_n 0, 1) := by decide +kernel
theorem dX3_readTraits_29 : decode cX3_readTraits 29 = .ok (.iload_n 3, 1) := by decide +kernel
theorem dX3_readTraits_30 : decode cX3_readTraits 30 = .ok (.invokevirtual 95, 3) := by decide +kernel
theorem dX3_readTraits_33 : decode cX3_readTraits 33 = .ok (.ifCond .ne 5, 3) := by decide +kernel
theorem dX3_readTraits_36 : decode cX3_readTraits 36 = .ok (.iconst 0, 1) := by decide +kernel
theorem dX3_readTraits_37 : decode cX3_readTraits 37 = .ok (.ireturn, 1) := by decide +kernel
theorem dX3_readTraits_38 : decode cX3_readTraits 38 = .ok (.aload_n 0, 1) := by decide +kernel
theorem dX3_readTraits_39 : decode cX3_readTraits 39 = .ok (.getfield 19, 3) := by decide +kernel
theorem dX3_readTraits_42 : decode cX3_readTraits 42 = .ok (.getfield 133, 3) := by decide +kernel
theorem dX3_readTraits_45 : decode cX3_readTraits 45 = .ok (.iload_n 3, 1) := by decide +kernel
theorem dX3_readTraits_46 : decode cX3_readTraits 46 = .ok (.iaload, 1) := by decide +kernel
theorem dX3_readTraits_47 : decode cX3_readTraits 47 = .ok (.iload_n 1, 1) := by decide +kernel
theorem dX3_readTraits_48 : decode cX3_readTraits 48 = .ok (.invokestatic 166, 3) := by decide +kernel
theorem dX3_readTraits_51 : decode cX3_readTraits 51 = .ok (.ifCond .eq 9, 3) := by decide +kernel
theorem dX3_readTraits_54 : decode cX3_readTraits 54 = .ok (.aload_n 0, 1) := by decide +kernel
theorem dX3_readTraits_55 : decode cX3_readTraits 55 = .ok (.iconst 4, 1) := by decide +kernel
theorem dX3_readTraits_56 : decode cX3_readTraits 56 = .ok (.invokevirtual 83, 3) := by decide +kernel
theorem dX3_readTraits_59 : decode cX3_readTraits 59 = .ok (.ireturn, 1) := by decide +kernel
theorem dX3_readTraits_60 : decode cX3_readTraits 60 = .ok (.aload_n 0, 1) := by decide +kernel
theorem dX3_readTraits_61 : decode cX3_readTraits 61 = .ok (.getfield 19, 3) := by decide +kernel
theorem dX3_readTraits_64 : decode cX3_readTraits 64 = .ok (.getfield 133, 3) := by decide +kernel
theorem dX3_readTraits_67 : decode cX3_readTraits 67 = .ok (.iload_n 3, 1) := by decide +kernel
theorem dX3_readTraits_68 : decode cX3_readTraits 68 = .ok (.dup2, 1) := by decide +kernel
theorem dX3_readTraits_69 : decode cX3_readTraits 69 = .ok (.iaload, 1) := by decide +kernel
theorem dX3_readTraits_70 : decode cX3_readTraits 70 = .ok (.iconst 1, 1) := by decide +kernel
theorem dX3_readTraits_71 : decode cX3_readTraits 71 = .ok (.iload_n 1, 1) := by decide +kernel
theorem dX3_readTraits_72 : decode cX3_readTraits 72 = .ok (.ishl, 1) := by decide +kernel
theorem dX3_readTraits_73 : decode cX3_readTraits 73 = .ok (.ior, 1) := by decide +kernel
theorem dX3_readTraits_74 : decode cX3_readTraits 74 = .ok (.iastore, 1) := by decide +kernel
theorem dX3_readTraits_75 : decode cX3_readTraits 75 = .ok (.aload_n 0, 1) := by decide +kernel
theorem dX3_readTraits_76 : decode cX3_readTraits 76 = .ok (.invokevirtual 43, 3) := by decide +kernel
theorem dX3_readTraits_79 : decode cX3_readTraits 79 = .ok (.iinc 2 1, 3) := by decide +kernel
theorem dX3_readTraits_82 : decode cX3_readTraits 82 = .ok (.goto (-80), 3) := by decide +kernel
theorem dX3_readTraits_85 : decode cX3_readTraits 85 = .ok (.iconst 1, 1) := by decide +kernel
theorem dX3_readTraits_86 : decode cX3_readTraits 86 = .ok (.ireturn, 1) := by decide +kernel
theorem bX3_readTraits_0 {d mc ms : Nat} {al : Bool} {bc bs : Nat} {Γ : am_G} {I : am_I} {L : am_L} {Q : am_Q} {v0 : Nat} {v1 : Int32} (kk : am_W m_X3_readTraits d mc ms al bc bs 2 [(0, .ref v0), (1, .int v1), (2, .int 0)] [] Γ I L Q) : am_W m_X3_readTraits d mc ms al bc bs 0 [(0, .ref v0), (1, .int v1)] [] Γ I L Q := by
  refine aw_iconst dX3_readTraits_0 ci_0 ?_
  refine aw_istore_n (ls' := [(0, .ref v0), (1, .int v1), (2, .int 0)]) dX3_readTraits_1 (by decide) rfl ?_
  exact kk
theorem bX3_readTraits_2 {d mc ms : Nat} {al : Bool} {bc bs : Nat} {Γ : am_G} {I : am_I} {L : am_L} {Q : am_Q} {v0 : Nat} {v1 : Int32} {v2 : Int32} (kt : 6 < v2 → am_W m_X3_readTraits d mc ms al bc bs 85 [(0, .ref v0), (1, .int v1), (2, .int v2)] [] Γ I L Q) (kf : ¬ 6 < v2 → am_W m_X3_readTraits d mc ms al bc bs 8 [(0, .ref v0), (1, .int v1), (2, .int v2)] [] Γ I L Q) : am_W m_X3_readTraits d mc ms al bc bs 2 [(0, .ref v0), (1, .int v1), (2, .int v2)] [] Γ I L Q := by
  refine aw_iload_n dX3_readTraits_2 rfl ?_
  refine aw_bipush dX3_readTraits_3 cb_6 ?_
  exact aw_icmp_gt dX3_readTraits_5 (by decide) kt kf
theorem bX3_readTraits_8 {d mc ms : Nat} {al : Bool} {bc bs : Nat} {Γ : am_G} {I : am_I} {L : am_L} {Q : am_Q} {v0 : Nat} {v1 : Int32} {v2 : Int32} (o1 : am_ob Γ v0 3) (kt : (I v0 7) = 2 → am_W m_X3_readTraits d mc ms al bc bs 85 [(0, .ref v0), (1, .int v1), (2, .int v2)] [] Γ I L Q) (kf : ¬ (I v0 7) = 2 → am_W m_X3_readTraits d mc ms al bc bs 16 [(0, .ref v0), (1, .int v1), (2, .int v2)] [] Γ I L Q) : am_W m_X3_readTraits d mc ms al bc bs 8 [(0, .ref v0), (1, .int v1), (2, .int v2)] [] Γ I L Q := by
  refine aw_aload_n dX3_readTraits_8 rfl ?_
  refine aw_getI dX3_readTraits_9 f_X3_49 o1 rfl ?_
  refine aw_iconst dX3_readTraits_12 ci_2 ?_
  exact aw_icmp_eq dX3_readTraits_13 (by decide) kt kf
theorem bX3_readTraits_16 {d mc ms : Nat} {al : Bool} {bc bs : Nat} {Γ : am_G} {I : am_I} {L : am_L} {Q : am_Q} {v0 : Nat} {v1 : Int32} {v2 : Int32} {r2 : Nat} {I' : am_I} {L' : am_L} {mc' : Nat} {ms' : Nat} {r : Int32} (o1 : am_ob Γ v0 3) (g3 : Γ.2.2 v0 5 = some r2) (o4 : am_ob Γ r2 5) (hbc : mc' ≤ bc) (hbs : ms' ≤ bs) (hC : am_E m_X5_questionNamed d mc' ms' [.ref r2, .long (L v0 10)] Γ I L (.inl (some (.int r))) I' L') (kk : am_W m_X3_readTraits (d + 1) mc ms al (bc - mc') (bs - ms') 27 [(0, .ref v0), (1, .int v1), (2, .int v2)] [.int r] Γ I' L' Q) : am_W m_X3_readTraits (d + 1) mc ms al bc bs 16 [(0, .ref v0), (1, .int v1), (2, .int v2)] [] Γ I L Q := by
  refine aw_aload_n dX3_readTraits_16 rfl ?_
  refine aw_getR dX3_readTraits_17 f_X3_19 o1 rfl g3 ?_
  refine aw_aload_n dX3_readTraits_20 rfl ?_
  refine aw_getL dX3_readTraits_21 f_X3_62 o1 rfl ?_
  exact aw_askV (as := [.long (L v0 10)]) (rst := []) k_X5_questionNamed l_X3_120 i_X5_questionNamed s_X5_questionNamed rfl o4 dX3_readTraits_24 rfl (Nat.le_of_ble_eq_true rfl) hbc hbs hC rfl rfl kk
theorem bX3_readTraits_27 {d mc ms : Nat} {al : Bool} {bc bs : Nat} {Γ : am_G} {I : am_I} {L : am_L} {Q : am_Q} {v0 : Nat} {v1 : Int32} {v2 : Int32} {w0 : Int32} {I' : am_I} {L' : am_L} {mc' : Nat} {ms' : Nat} {r : Int32} (o1 : am_ob Γ v0 3) (hbc : mc' ≤ bc) (hbs : ms' ≤ bs) (hC : am_E m_X3_isKnownName d mc' ms' [.ref v0, .int w0] Γ I L (.inl (some (.int r))) I' L') (kk : am_W m_X3_readTraits (d + 1) mc ms al (bc - mc') (bs - ms') 33 [(0, .ref v0), (1, .int v1), (2, .int v2), (3, .int w0)] [.int r] Γ I' L' Q) : am_W m_X3_readTraits (d + 1) mc ms al bc bs 27 [(0, .ref v0), (1, .int v1), (2, .int v2)] [.int w0] Γ I L Q := by
  refine aw_istore_n (ls' := [(0, .ref v0), (1, .int v1), (2, .int v2), (3, .int w0)]) dX3_readTraits_27 (by decide) rfl ?_
  refine aw_aload_n dX3_readTraits_28 rfl ?_
  refine aw_iload_n dX3_readTraits_29 rfl ?_
  exact aw_askV (as := [.int w0]) (rst := []) k_X3_isKnownName l_X3_95 i_X3_isKnownName s_X3_isKnownName rfl o1 dX3_readTraits_30 rfl (Nat.le_of_ble_eq_true rfl) hbc hbs hC rfl rfl kk
theorem bX3_readTraits_33 {d mc ms : Nat} {al : Bool} {bc bs : Nat} {Γ : am_G} {I : am_I} {L : am_L} {Q : am_Q} {v0 : Nat} {v1 : Int32} {v2 : Int32} {v3 : Int32} {w0 : Int32} (kt : ¬ w0 = 0 → am_W m_X3_readTraits d mc ms al bc bs 38 [(0, .ref v0), (1, .int v1), (2, .int v2), (3, .int v3)] [] Γ I L Q) (kf : w0 = 0 → am_W m_X3_readTraits d mc ms al bc bs 36 [(0, .ref v0), (1, .int v1), (2, .int v2), (3, .int v3)] [] Γ I L Q) : am_W m_X3_readTraits d mc ms al bc bs 33 [(0, .ref v0), (1, .int v1), (2, .int v2), (3, .int v3)] [.int w0] Γ I L Q := by
  exact aw_if_ne dX3_readTraits_33 (by decide) kt kf
theorem bX3_readTraits_36 {d mc ms : Nat} {al : Bool} {bc bs : Nat} {Γ : am_G} {I : am_I} {L : am_L} {Q : am_Q} {v0 : Nat} {v1 : Int32} {v2 : Int32} {v3 : Int32} (hq : Q (.inl (some (.int 0))) Γ I L) : am_W m_X3_readTraits d mc ms al bc bs 36 [(0, .ref v0), (1, .int v1), (2, .int v2), (3, .int v3)] [] Γ I L Q := by
  refine aw_iconst dX3_readTraits_36 ci_0 ?_
  exact aw_zret (ty := .boolean) dX3_readTraits_37 rfl rfl hq
theorem bX3_readTraits_38 {d mc ms : Nat} {al : Bool} {bc bs : Nat} {Γ : am_G} {I : am_I} {L : am_L} {Q : am_Q} {v0 : Nat} {v1 : Int32} {v2 : Int32} {v3 : Int32} {r2 : Nat} {r5 : Nat} {n_r5 : Nat} {I' : am_I} {L' : am_L} {mc' : Nat} {ms' : Nat} {r : Int32} (o1 : am_ob Γ v0 3) (g3 : Γ.2.2 v0 5 = some r2) (o4 : am_ob Γ r2 5) (g6 : Γ.2.2 r2 6 = some r5) (a7 : am_ar Γ r5 1 n_r5 0) (i8 : vp_in v3 n_r5) (hbc : mc' ≤ bc) (hbs : ms' ≤ bs) (hC : am_E m_X8_holds d mc' ms' [.int (I r5 (v3.toNatClampNeg)), .int v1] Γ I L (.inl (some (.int r))) I' L') (kk : am_W m_X3_readTraits (d + 1) mc ms al (bc - mc') (bs - ms') 51 [(0, .ref v0), (1, .int v1), (2, .int v2), (3, .int v3)] [.int r] Γ I' L' Q) : am_W m_X3_readTraits (d + 1) mc ms al bc bs 38 [(0, .ref v0), (1, .int v1), (2, .int v2), (3, .int v3)] [] Γ I L Q := by
  refine aw_aload_n dX3_readTraits_38 rfl ?_
  refine aw_getR dX3_readTraits_39 f_X3_19 o1 rfl g3 ?_
  refine aw_getR dX3_readTraits_42 f_X3_133 o4 rfl g6 ?_
  refine aw_iload_n dX3_readTraits_45 rfl ?_
  refine aw_iald dX3_readTraits_46 a7 i8 ?_
  refine aw_iload_n dX3_readTraits_47 rfl ?_
  exact aw_askN (as := [.int (I r5 (v3.toNatClampNeg)), .int v1]) (rst := []) k_X8_holds ln_X3_166 t_X8_holds dX3_readTraits_48 rfl (Nat.le_of_ble_eq_true rfl) hbc hbs hC rfl rfl kk
theorem bX3_readTraits_51 {d mc ms : Nat} {al : Bool} {bc bs : Nat} {Γ : am_G} {I : am_I} {L : am_L} {Q : am_Q} {v0 : Nat} {v1 : Int32} {v2 : Int32} {v3 : Int32} {w0 : Int32} (kt : w0 = 0 → am_W m_X3_readTraits d mc ms al bc bs 60 [(0, .ref v0), (1, .int v1), (2, .int v2), (3, .int v3)] [] Γ I L Q) (kf : ¬ w0 = 0 → am_W m_X3_readTraits d mc ms al bc bs 54 [(0, .ref v0), (1, .int v1), (2, .int v2), (3, .int v3)] [] Γ I L Q) : am_W m_X3_readTraits d mc ms al bc bs 51 [(0, .ref v0), (1, .int v1), (2, .int v2), (3, .int v3)] [.int w0] Γ I L Q := by
  exact aw_if_eq dX3_readTraits_51 (by decide) kt kf
theorem bX3_readTraits_54 {d mc ms : Nat} {al : Bool} {bc bs : Nat} {Γ : am_G} {I : am_I} {L : am_L} {Q : am_Q} {v0 : Nat} {v1 : Int32} {v2 : Int32} {v3 : Int32} {I' : am_I} {L' : am_L} {mc' : Nat} {ms' : Nat} {r : Int32} (o1 : am_ob Γ v0 3) (hbc : mc' ≤ bc) (hbs : ms' ≤ bs) (hC : am_E m_X3_fail d mc' ms' [.ref v0, .int 4] Γ I L (.inl (some (.int r))) I' L') (kk : am_W m_X3_readTraits (d + 1) mc ms al (bc - mc') (bs - ms') 59 [(0, .ref v0), (1, .int v1), (2, .int v2), (3, .int v3)] [.int r] Γ I' L' Q) : am_W m_X3_readTraits (d + 1) mc ms al bc bs 54 [(0, .ref v0), (1, .int v1), (2, .int v2), (3, .int v3)] [] Γ I L Q := by
  refine aw_aload_n dX3_readTraits_54 rfl ?_
  refine aw_iconst dX3_readTraits_55 ci_4 ?_
  exact aw_askV (as := [.int 4]) (rst := []) k_X3_fail l_X3_83 i_X3_fail s_X3_fail rfl o1 dX3_readTraits_56 rfl (Nat.le_of_ble_eq_true rfl) hbc hbs hC rfl rfl kk
theorem bX3_readTraits_59 {d mc ms : Nat} {al : Bool} {bc bs : Nat} {Γ : am_G} {I : am_I} {L : am_L} {Q : am_Q} {v0 : Nat} {v1 : Int32} {v2 : Int32} {v3 : Int32} {w0 : Int32} (hz : narrow .boolean (.int w0) = .int w0) (hq : Q (.inl (some (.int w0))) Γ I L) : am_W m_X3_readTraits d mc ms al bc bs 59 [(0, .ref v0), (1, .int v1), (2, .int v2), (3, .int v3)] [.int w0] Γ I L Q := by
  exact aw_zret (ty := .boolean) dX3_readTraits_59 rfl hz hq
theorem bX3_readTraits_60 {d mc ms : Nat} {al : Bool} {bc bs : Nat} {Γ : am_G} {I : am_I} {L : am_L} {Q : am_Q} {v0 : Nat} {v1 : Int32} {v2 : Int32} {v3 : Int32} {r2 : Nat} {r5 : Nat} {n_r5 : Nat} {I' : am_I} {L' : am_L} {mc' : Nat} {ms' : Nat} (o1 : am_ob Γ v0 3) (g3 : Γ.2.2 v0 5 = some r2) (o4 : am_ob Γ r2 5) (g6 : Γ.2.2 r2 6 = some r5) (a7 : am_ar Γ r5 1 n_r5 0) (i8 : vp_in v3 n_r5) (hbc : mc' ≤ bc) (hbs : ms' ≤ bs) (hC : am_E m_X3_advance d mc' ms' [.ref v0] Γ (am_u I r5 (v3.toNatClampNeg) ((I r5 (v3.toNatClampNeg)) ||| (1 <<< (v1 &&& 31)))) L (.inl none) I' L') (kk : am_W m_X3_readTraits (d + 1) mc ms al (bc - mc') (bs - ms') 79 [(0, .ref v0), (1, .int v1), (2, .int v2), (3, .int v3)] [] Γ I' L' Q) : am_W m_X3_readTraits (d + 1) mc ms al bc bs 60 [(0, .ref v0), (1, .int v1), (2, .int v2), (3, .int v3)] [] Γ I L Q := by
  refine aw_aload_n dX3_readTraits_60 rfl ?_
  refine aw_getR dX3_readTraits_61 f_X3_19 o1 rfl g3 ?_
  refine aw_getR dX3_readTraits_64 f_X3_133 o4 rfl g6 ?_
  refine aw_iload_n dX3_readTraits_67 rfl ?_
  refine aw_dup2 dX3_readTraits_68 rfl rfl ?_
  refine aw_iald dX3_readTraits_69 a7 i8 ?_
  refine aw_iconst dX3_readTraits_70 ci_1 ?_
  refine aw_iload_n dX3_readTraits_71 rfl ?_
  refine aw_ishl dX3_readTraits_72 ?_
  refine aw_ior dX3_readTraits_73 ?_
  refine aw_iast dX3_readTraits_74 a7 i8 ?_
  refine aw_aload_n dX3_readTraits_75 rfl ?_
  exact aw_askV (as := []) (rst := []) k_X3_advance l_X3_43 i_X3_advance s_X3_advance rfl o1 dX3_readTraits_76 rfl (Nat.le_of_ble_eq_true rfl) hbc hbs hC rfl rfl kk
theorem bX3_readTraits_79 {d mc ms : Nat} {al : Bool} {bc bs : Nat} {Γ : am_G} {I : am_I} {L : am_L} {Q : am_Q} {v0 : Nat} {v1 : Int32} {v2 : Int32} {v3 : Int32} (kk : am_W m_X3_readTraits d mc ms al bc bs 2 [(0, .ref v0), (1, .int v1), (2, .int (v2 + 1)), (3, .int v3)] [] Γ I L Q) : am_W m_X3_readTraits d mc ms al bc bs 79 [(0, .ref v0), (1, .int v1), (2, .int v2), (3, .int v3)] [] Γ I L Q := by
  refine aw_iinc (ls' := [(0, .ref v0), (1, .int v1), (2, .int (v2 + 1)), (3, .int v3)]) dX3_readTraits_79 rfl (cn_1 _) (by decide) rfl ?_
  exact aw_goto dX3_readTraits_82 (by decide) kk
theorem bX3_readTraits_85 {d mc ms : Nat} {al : Bool} {bc bs : Nat} {Γ : am_G} {I : am_I} {L : am_L} {Q : am_Q} {v0 : Nat} {v1 : Int32} {v2 : Int32} (hq : Q (.inl (some (.int 1))) Γ I L) : am_W m_X3_readTraits d mc ms al bc bs 85 [(0, .ref v0), (1, .int v1), (2, .int v2)] [] Γ I L Q := by
  refine aw_iconst dX3_readTraits_85 ci_1 ?_
  exact aw_zret (ty := .boolean) dX3_readTraits_86 rfl rfl hq
theorem dX3_readGates_0 : decode cX3_readGates 0 = .ok (.iconst 0, 1) := by decide +kernel
theorem dX3_readGates_1 : decode cX3_readGates 1 = .ok (.istore_n 1, 1) := by decide +kernel
theorem dX3_readGates_2 : decode cX3_readGates 2 = .ok (.iload_n 1, 1) := by decide +kernel
theorem dX3_readGates_3 : decode cX3_readGates 3 = .ok (.iconst 4, 1) := by decide +kernel
theorem dX3_readGates_4 : decode cX3_readGates 4 = .ok (.if_icmp .ge 79, 3) := by decide +kernel
theorem dX3_readGates_7 : decode cX3_readGates 7 = .ok (.iload_n 1, 1) := by decide +kernel
theorem dX3_readGates_8 : decode cX3_readGates 8 = .ok (.ifCond .le 14, 3) := by decide +kernel
theorem dX3_readGates_11 : decode cX3_readGates 11 = .ok (.aload_n 0, 1) := by decide +kernel
theorem dX3_readGates_12 : decode cX3_readGates 12 = .ok (.ldc 169, 2) := by decide +kernel
theorem dX3_readGates_14 : decode cX3_readGates 14 = .ok (.invokevirtual 79, 3) := by decide +kernel
theorem dX3_readGates_17 : decode cX3_readGates 17 = .ok (.ifCond .ne 5, 3) := by decide +kernel
theorem dX3_readGates_20 : decode cX3_readGates 20 = .ok (.iconst 1, 1) := by decide +kernel
theorem dX3_readGates_21 : decode cX3_readGates 21 = .ok (.ireturn, 1) := by decide +kernel
theorem dX3_readGates_22 : decode cX3_readGates 22 = .ok (.aload_n 0, 1) := by decide +kernel
theorem dX3_readGates_23 : decode cX3_readGates 23 = .ok (.ldc 169, 2) := by decide +kernel
theorem dX3_readGates_25 : decode cX3_readGates 25 = .ok (.invokevirtual 100, 3) := by decide +kernel
theorem dX3_readGates_28 : decode cX3_readGates 28 = .ok (.ifCond .eq 27, 3) := by decide +kernel
theorem dX3_readGates_31 : decode cX3_readGates 31 = .ok (.aload_n 0, 1) := by decide +kernel
theorem dX3_readGates_32 : decode cX3_readGates 32 = .ok (.iload_n 1, 1) := by decide +kernel
theorem dX3_readGates_33 : decode cX3_readGates 33 = .ok (.invokevirtual 171, 3) := by decide +kernel
theorem dX3_readGates_36 : decode cX3_readGates 36 = .ok (.ifCond .eq 19, 3) := by decide +kernel
theorem dX3_readGates_39 : decode cX3_readGates 39 = .ok (.aload_n 0, 1) := by decide +kernel
theorem dX3_readGates_40 : decode cX3_readGates 40 = .ok (.aload_n 0, 1) := by decide +kernel
theorem dX3_readGates_41 : decode cX3_readGates 41 = .ok (.getfield 19, 3) := by decide +kernel
theorem dX3_readGates_44 : decode cX3_readGates 44 = .ok (.getfield 174, 3) := by decide +kernel
theorem dX3_readGates_47 : decode cX3_readGates 47 = .ok (.iload_n 1, 1) := by decide +kernel
theorem dX3_readGates_48 : decode cX3_readGates 48 = .ok (.aaload, 1) := by decide +kernel
theorem dX3_readGates_49 : decode cX3_readGates 49 = .ok (.invokevirtual 178, 3) := by decide +kernel
theorem dX3_readGates_52 : decode cX3_readGates 52 = .ok (.ifCond .ne 5, 3) := by decide +kernel
theorem dX3_readGates_55 : decode cX3_readGates 55 = .ok (.iconst 0, 1) := by decide +kernel
theorem dX3_readGates_56 : decode cX3_readGates 56 = .ok (.ireturn, 1) := by decide +kernel
theorem dX3_readGates_57 : decode cX3_readGates 57 = .ok (.aload_n 0, 1) := by decide +kernel
theorem dX3_readGates_58 : decode cX3_readGates 58 = .ok (.getfield 23, 3) := by decide +kernel
theorem dX3_readGates_61 : decode cX3_readGates 61 = .ok (.aload_n 0, 1) := by decide +kernel
theorem dX3_readGates_62 : decode cX3_readGates 62 = .ok (.getfield 19, 3) := by decide +kernel
theorem dX3_readGates_65 : decode cX3_readGates 65 = .ok (.aload_n 0, 1) := by decide +kernel
theorem dX3_readGates_66 : decode cX3_readGates 66 = .ok (.getfield 19, 3) := by decide +kernel
theorem dX3_readGates_69 : decode cX3_readGates 69 = .ok (.getfield 174, 3) := by decide +kernel
theorem dX3_readGates_72 : decode cX3_readGates 72 = .ok (.iload_n 1, 1) := by decide +kernel
theorem dX3_readGates_73 : decode cX3_readGates 73 = .ok (.aaload, 1) := by decide +kernel
theorem dX3_readGates_74 : decode cX3_readGates 74 = .ok (.invokevirtual 182, 3) := by decide +kernel
theorem dX3_readGates_77 : decode cX3_readGates 77 = .ok (.iinc 1 1, 3) := by decide +kernel
theorem dX3_readGates_80 : decode cX3_readGates 80 = .ok (.goto (-78), 3) := by decide +kernel
theorem dX3_readGates_83 : decode cX3_readGates 83 = .ok (.aload_n 0, 1) := by decide +kernel
theorem dX3_readGates_84 : decode cX3_readGates 84 = .ok (.ldc 169, 2) := by decide +kernel
theorem dX3_readGates_86 : decode cX3_readGates 86 = .ok (.invokevirtual 79, 3) := by decide +kernel
theorem dX3_readGates_89 : decode cX3_readGates 89 = .ok (.ifCond .eq 11, 3) := by decide +kernel
theorem dX3_readGates_92 : decode cX3_readGates 92 = .ok (.aload_n 0, 1) := by decide +kernel
theorem dX3_readGates_93 : decode cX3_readGates 93 = .ok (.iconst 5, 1) := by decide +kernel
theorem dX3_readGates_94 : decode cX3_readGates 94 = .ok (.invokevirtual 83, 3) := by decide +kernel
theorem dX3_readGates_97 : decode cX3_readGates 97 = .ok (.ifCond .eq 7, 3) := by decide +kernel
theorem dX3_readGates_100 : decode cX3_readGates 100 = .ok (.iconst 1, 1) := by decide +kernel
theorem dX3_readGates_101 : decode cX3_readGates 101 = .ok (.goto 4, 3) := by decide +kernel
theorem dX3_readGates_104 : decode cX3_readGates 104 = .ok (.iconst 0, 1) := by decide +kernel
theorem dX3_readGates_105 : decode cX3_readGates 105 = .ok (.ireturn, 1) := by decide +kernel
theorem bX3_readGates_0 {d mc ms : Nat} {al : Bool} {bc bs : Nat} {Γ : am_G} {I : am_I} {L : am_L} {Q : am_Q} {v0 : Nat} (kk : am_W m_X3_readGates d mc ms al bc bs 2 [(0, .ref v0), (1, .int 0)] [] Γ I L Q) : am_W m_X3_readGates d mc ms al bc bs 0 [(0, .ref v0)] [] Γ I L Q := by
  refine aw_iconst dX3_readGates_0 ci_0 ?_
  refine aw_istore_n (ls' := [(0, .ref v0), (1, .int 0)]) dX3_readGates_1 (by decide) rfl ?_
  exact kk
theorem bX3_readGates_2 {d mc ms : Nat} {al : Bool} {bc bs : Nat} {Γ : am_G} {I : am_I} {L : am_L} {Q : am_Q} {v0 : Nat} {v1 : Int32} (kt : 4 ≤ v1 → am_W m_X3_readGates d mc ms al bc bs 83 [(0, .ref v0), (1, .int v1)] [] Γ I L Q) (kf : ¬ 4 ≤ v1 → am_W m_X3_readGates d mc ms al bc bs 7 [(0, .ref v0), (1, .int v1)] [] Γ I L Q) : am_W m_X3_readGates d mc ms al bc bs 2 [(0, .ref v0), (1, .int v1)] [] Γ I L Q := by
  refine aw_iload_n dX3_readGates_2 rfl ?_
  refine aw_iconst dX3_readGates_3 ci_4 ?_
  exact aw_icmp_ge dX3_readGates_4 (by decide) kt kf
theorem bX3_readGates_7 {d mc ms : Nat} {al : Bool} {bc bs : Nat} {Γ : am_G} {I : am_I} {L : am_L} {Q : am_Q} {v0 : Nat} {v1 : Int32} (kt : v1 ≤ 0 → am_W m_X3_readGates d mc ms al bc bs 22 [(0, .ref v0), (1, .int v1)] [] Γ I L Q) (kf : ¬ v1 ≤ 0 → am_W m_X3_readGates d mc ms al bc bs 11 [(0, .ref v0), (1, .int v1)] [] Γ I L Q) : am_W m_X3_readGates d mc ms al bc bs 7 [(0, .ref v0), (1, .int v1)] [] Γ I L Q := by
  refine aw_iload_n dX3_readGates_7 rfl ?_
  exact aw_if_le dX3_readGates_8 (by decide) kt kf
theorem bX3_readGates_11 {d mc ms : Nat} {al : Bool} {bc bs : Nat} {Γ : am_G} {I : am_I} {L : am_L} {Q : am_Q} {v0 : Nat} {v1 : Int32} {I' : am_I} {L' : am_L} {mc' : Nat} {ms' : Nat} {r : Int32} (o1 : am_ob Γ v0 3) (hbc : mc' ≤ bc) (hbs : ms' ≤ bs) (hC : am_E m_X3_isWord d mc' ms' [.ref v0, .retAddr 4] Γ I L (.inl (some (.int r))) I' L') (kk : am_W m_X3_readGates (d + 1) mc ms al (bc - mc') (bs - ms') 17 [(0, .ref v0), (1, .int v1)] [.int r] Γ I' L' Q) : am_W m_X3_readGates (d + 1) mc ms al bc bs 11 [(0, .ref v0), (1, .int v1)] [] Γ I L Q := by
  refine aw_aload_n dX3_readGates_11 rfl ?_
  refine aw_ldcT dX3_readGates_12 (i := 4) tx_X3_169 ?_
  exact aw_askV (as := [.retAddr 4]) (rst := []) k_X3_isWord l_X3_79 i_X3_isWord s_X3_isWord rfl o1 dX3_readGates_14 rfl (Nat.le_of_ble_eq_true rfl) hbc hbs hC rfl rfl kk
theorem bX3_readGates_17 {d mc ms : Nat} {al : Bool} {bc bs : Nat} {Γ : am_G} {I : am_I} {L : am_L} {Q : am_Q} {v0 : Nat} {v1 : Int32} {w0 : Int32} (kt : ¬ w0 = 0 → am_W m_X3_readGates d mc ms al bc bs 22 [(0, .ref v0), (1, .int v1)] [] Γ I L Q) (kf : w0 = 0 → am_W m_X3_readGates d mc ms al bc bs 20 [(0, .ref v0), (1, .int v1)] [] Γ I L Q) : am_W m_X3_readGates d mc ms al bc bs 17 [(0, .ref v0), (1, .int v1)] [.int w0] Γ I L Q := by
  exact aw_if_ne dX3_readGates_17 (by decide) kt kf
theorem bX3_readGates_20 {d mc ms : Nat} {al : Bool} {bc bs : Nat} {Γ : am_G} {I : am_I} {L : am_L} {Q : am_Q} {v0 : Nat} {v1 : Int32} (hq : Q (.inl (some (.int 1))) Γ I L) : am_W m_X3_readGates d mc ms al bc bs 20 [(0, .ref v0), (1, .int v1)] [] Γ I L Q := by
  refine aw_iconst dX3_readGates_20 ci_1 ?_
  exact aw_zret (ty := .boolean) dX3_readGates_21 rfl rfl hq
theorem bX3_readGates_22 {d mc ms : Nat} {al : Bool} {bc bs : Nat} {Γ : am_G} {I : am_I} {L : am_L} {Q : am_Q} {v0 : Nat} {v1 : Int32} {I' : am_I} {L' : am_L} {mc' : Nat} {ms' : Nat} {r : Int32} (o1 : am_ob Γ v0 3) (hbc : mc' ≤ bc) (hbs : ms' ≤ bs) (hC : am_E m_X3_takeWord d mc' ms' [.ref v0, .retAddr 4] Γ I L (.inl (some (.int r))) I' L') (kk : am_W m_X3_readGates (d + 1) mc ms al (bc - mc') (bs - ms') 28 [(0, .ref v0), (1, .int v1)] [.int r] Γ I' L' Q) : am_W m_X3_readGates (d + 1) mc ms al bc bs 22 [(0, .ref v0), (1, .int v1)] [] Γ I L Q := by
  refine aw_aload_n dX3_readGates_22 rfl ?_
  refine aw_ldcT dX3_readGates_23 (i := 4) tx_X3_169 ?_
  exact aw_askV (as := [.retAddr 4]) (rst := []) k_X3_takeWord l_X3_100 i_X3_takeWord s_X3_takeWord rfl o1 dX3_readGates_25 rfl (Nat.le_of_ble_eq_true rfl) hbc hbs hC rfl rfl kk
theorem bX3_readGates_28 {d mc ms : Nat} {al : Bool} {bc bs : Nat} {Γ : am_G} {I : am_I} {L : am_L} {Q : am_Q} {v0 : Nat} {v1 : Int32} {w0 : Int32} (kt : w0 = 0 → am_W m_X3_readGates d mc ms al bc bs 55 [(0, .ref v0), (1, .int v1)] [] Γ I L Q) (kf : ¬ w0 = 0 → am_W m_X3_readGates d mc ms al bc bs 31 [(0, .ref v0), (1, .int v1)] [] Γ I L Q) : am_W m_X3_readGates d mc ms al bc bs 28 [(0, .ref v0), (1, .int v1)] [.int w0] Γ I L Q := by
  exact aw_if_eq dX3_readGates_28 (by decide) kt kf
theorem bX3_readGates_31 {d mc ms : Nat} {al : Bool} {bc bs : Nat} {Γ : am_G} {I : am_I} {L : am_L} {Q : am_Q} {v0 : Nat} {v1 : Int32} {I' : am_I} {L' : am_L} {mc' : Nat} {ms' : Nat} {r : Int32} (o1 : am_ob Γ v0 3) (hbc : mc' ≤ bc) (hbs : ms' ≤ bs) (hC : am_E m_X3_readGate d mc' ms' [.ref v0, .int v1] Γ I L (.inl (some (.int r))) I' L') (kk : am_W m_X3_readGates (d + 1) mc ms al (bc - mc') (bs - ms') 36 [(0, .ref v0), (1, .int v1)] [.int r] Γ I' L' Q) : am_W m_X3_readGates (d + 1) mc ms al bc bs 31 [(0, .ref v0), (1, .int v1)] [] Γ I L Q := by
  refine aw_aload_n dX3_readGates_31 rfl ?_
  refine aw_iload_n dX3_readGates_32 rfl ?_
  exact aw_askV (as := [.int v1]) (rst := []) k_X3_readGate l_X3_171 i_X3_readGate s_X3_readGate rfl o1 dX3_readGates_33 rfl (Nat.le_of_ble_eq_true rfl) hbc hbs hC rfl rfl kk
theorem bX3_readGates_36 {d mc ms : Nat} {al : Bool} {bc bs : Nat} {Γ : am_G} {I : am_I} {L : am_L} {Q : am_Q} {v0 : Nat} {v1 : Int32} {w0 : Int32} (kt : w0 = 0 → am_W m_X3_readGates d mc ms al bc bs 55 [(0, .ref v0), (1, .int v1)] [] Γ I L Q) (kf : ¬ w0 = 0 → am_W m_X3_readGates d mc ms al bc bs 39 [(0, .ref v0), (1, .int v1)] [] Γ I L Q) : am_W m_X3_readGates d mc ms al bc bs 36 [(0, .ref v0), (1, .int v1)] [.int w0] Γ I L Q := by
  exact aw_if_eq dX3_readGates_36 (by decide) kt kf
theorem bX3_readGates_39 {d mc ms : Nat} {al : Bool} {bc bs : Nat} {Γ : am_G} {I : am_I} {L : am_L} {Q : am_Q} {v0 : Nat} {v1 : Int32} {r2 : Nat} {r5 : Nat} {n_r5 : Nat} {r9 : Nat} {I' : am_I} {L' : am_L} {mc' : Nat} {ms' : Nat} {r : Int32} (o1 : am_ob Γ v0 3) (g3 : Γ.2.2 v0 5 = some r2) (o4 : am_ob Γ r2 5) (g6 : Γ.2.2 r2 9 = some r5) (a7 : am_ar Γ r5 6 n_r5 0) (i8 : vp_in v1 n_r5) (g10 : Γ.2.2 r5 (v1.toNatClampNeg) = some r9) (hbc : mc' ≤ bc) (hbs : ms' ≤ bs) (hC : am_E m_X3_readCounts d mc' ms' [.ref v0, .ref r9] Γ I L (.inl (some (.int r))) I' L') (kk : am_W m_X3_readGates (d + 1) mc ms al (bc - mc') (bs - ms') 52 [(0, .ref v0), (1, .int v1)] [.int r] Γ I' L' Q) : am_W m_X3_readGates (d + 1) mc ms al bc bs 39 [(0, .ref v0), (1, .int v1)] [] Γ I L Q := by
  refine aw_aload_n dX3_readGates_39 rfl ?_
  refine aw_aload_n dX3_readGates_40 rfl ?_
  refine aw_getR dX3_readGates_41 f_X3_19 o1 rfl g3 ?_
  refine aw_getR dX3_readGates_44 f_X3_174 o4 rfl g6 ?_
  refine aw_iload_n dX3_readGates_47 rfl ?_
  refine aw_aald dX3_readGates_48 a7 i8 g10 ?_
  exact aw_askV (as := [.ref r9]) (rst := []) k_X3_readCounts l_X3_178 i_X3_readCounts s_X3_readCounts rfl o1 dX3_readGates_49 rfl (Nat.le_of_ble_eq_true rfl) hbc hbs hC rfl rfl kk
theorem bX3_readGates_52 {d mc ms : Nat} {al : Bool} {bc bs : Nat} {Γ : am_G} {I : am_I} {L : am_L} {Q : am_Q} {v0 : Nat} {v1 : Int32} {w0 : Int32} (kt : ¬ w0 = 0 → am_W m_X3_readGates d mc ms al bc bs 57 [(0, .ref v0), (1, .int v1)] [] Γ I L Q) (kf : w0 = 0 → am_W m_X3_readGates d mc ms al bc bs 55 [(0, .ref v0), (1, .int v1)] [] Γ I L Q) : am_W m_X3_readGates d mc ms al bc bs 52 [(0, .ref v0), (1, .int v1)] [.int w0] Γ I L Q := by
  exact aw_if_ne dX3_readGates_52 (by decide) kt kf
theorem bX3_readGates_55 {d mc ms : Nat} {al : Bool} {bc bs : Nat} {Γ : am_G} {I : am_I} {L : am_L} {Q : am_Q} {v0 : Nat} {v1 : Int32} (hq : Q (.inl (some (.int 0))) Γ I L) : am_W m_X3_readGates d mc ms al bc bs 55 [(0, .ref v0), (1, .int v1)] [] Γ I L Q := by
  refine aw_iconst dX3_readGates_55 ci_0 ?_
  exact aw_zret (ty := .boolean) dX3_readGates_56 rfl rfl hq
theorem bX3_readGates_57 {d mc ms : Nat} {al : Bool} {bc bs : Nat} {Γ : am_G} {I : am_I} {L : am_L} {Q : am_Q} {v0 : Nat} {v1 : Int32} {r2 : Nat} {r4 : Nat} {r7 : Nat} {n_r7 : Nat} {r11 : Nat} {I' : am_I} {L' : am_L} {mc' : Nat} {ms' : Nat} (o1 : am_ob Γ v0 3) (g3 : Γ.2.2 v0 6 = some r2) (g5 : Γ.2.2 v0 5 = some r4) (o6 : am_ob Γ r4 5) (g8 : Γ.2.2 r4 9 = some r7) (a9 : am_ar Γ r7 6 n_r7 0) (i10 : vp_in v1 n_r7) (g12 : Γ.2.2 r7 (v1.toNatClampNeg) = some r11) (o13 : am_ob Γ r2 4) (hbc : mc' ≤ bc) (hbs : ms' ≤ bs) (hC : am_E m_X4_plant d mc' ms' [.ref r2, .ref r4, .ref r11] Γ I L (.inl none) I' L') (kk : am_W m_X3_readGates (d + 1) mc ms al (bc - mc') (bs - ms') 77 [(0, .ref v0), (1, .int v1)] [] Γ I' L' Q) : am_W m_X3_readGates (d + 1) mc ms al bc bs 57 [(0, .ref v0), (1, .int v1)] [] Γ I L Q := by
  refine aw_aload_n dX3_readGates_57 rfl ?_
  refine aw_getR dX3_readGates_58 f_X3_23 o1 rfl g3 ?_
  refine aw_aload_n dX3_readGates_61 rfl ?_
  refine aw_getR dX3_readGates_62 f_X3_19 o1 rfl g5 ?_
  refine aw_aload_n dX3_readGates_65 rfl ?_
  refine aw_getR dX3_readGates_66 f_X3_19 o1 rfl g5 ?_
  refine aw_getR dX3_readGates_69 f_X3_174 o6 rfl g8 ?_
  refine aw_iload_n dX3_readGates_72 rfl ?_
  refine aw_aald dX3_readGates_73 a9 i10 g12 ?_
  exact aw_askV (as := [.ref r4, .ref r11]) (rst := []) k_X4_plant l_X3_182 i_X4_plant s_X4_plant rfl o13 dX3_readGates_74 rfl (Nat.le_of_ble_eq_true rfl) hbc hbs hC rfl rfl kk
theorem bX3_readGates_77 {d mc ms : Nat} {al : Bool} {bc bs : Nat} {Γ : am_G} {I : am_I} {L : am_L} {Q : am_Q} {v0 : Nat} {v1 : Int32} (kk : am_W m_X3_readGates d mc ms al bc bs 2 [(0, .ref v0), (1, .int (v1 + 1))] [] Γ I L Q) : am_W m_X3_readGates d mc ms al bc bs 77 [(0, .ref v0), (1, .int v1)] [] Γ I L Q := by
  refine aw_iinc (ls' := [(0, .ref v0), (1, .int (v1 + 1))]) dX3_readGates_77 rfl (cn_1 _) (by decide) rfl ?_
  exact aw_goto dX3_readGates_80 (by decide) kk
theorem bX3_readGates_83 {d mc ms : Nat} {al : Bool} {bc bs : Nat} {Γ : am_G} {I : am_I} {L : am_L} {Q : am_Q} {v0 : Nat} {v1 : Int32} {I' : am_I} {L' : am_L} {mc' : Nat} {ms' : Nat} {r : Int32} (o1 : am_ob Γ v0 3) (hbc : mc' ≤ bc) (hbs : ms' ≤ bs) (hC : am_E m_X3_isWord d mc' ms' [.ref v0, .retAddr 4] Γ I L (.inl (some (.int r))) I' L') (kk : am_W m_X3_readGates (d + 1) mc ms al (bc - mc') (bs - ms') 89 [(0, .ref v0), (1, .int v1)] [.int r] Γ I' L' Q) : am_W m_X3_readGates (d + 1) mc ms al bc bs 83 [(0, .ref v0), (1, .int v1)] [] Γ I L Q := by
  refine aw_aload_n dX3_readGates_83 rfl ?_
  refine aw_ldcT dX3_readGates_84 (i := 4) tx_X3_169 ?_
  exact aw_askV (as := [.retAddr 4]) (rst := []) k_X3_isWord l_X3_79 i_X3_isWord s_X3_isWord rfl o1 dX3_readGates_86 rfl (Nat.le_of_ble_eq_true rfl) hbc hbs hC rfl rfl kk
theorem bX3_readGates_89 {d mc ms : Nat} {al : Bool} {bc bs : Nat} {Γ : am_G} {I : am_I} {L : am_L} {Q : am_Q} {v0 : Nat} {v1 : Int32} {w0 : Int32} (kt : w0 = 0 → am_W m_X3_readGates d mc ms al bc bs 100 [(0, .ref v0), (1, .int v1)] [] Γ I L Q) (kf : ¬ w0 = 0 → am_W m_X3_readGates d mc ms al bc bs 92 [(0, .ref v0), (1, .int v1)] [] Γ I L Q) : am_W m_X3_readGates d mc ms al bc bs 89 [(0, .ref v0), (1, .int v1)] [.int w0] Γ I L Q := by
  exact aw_if_eq dX3_readGates_89 (by decide) kt kf
theorem bX3_readGates_92 {d mc ms : Nat} {al : Bool} {bc bs : Nat} {Γ : am_G} {I : am_I} {L : am_L} {Q : am_Q} {v0 : Nat} {v1 : Int32} {I' : am_I} {L' : am_L} {mc' : Nat} {ms' : Nat} {r : Int32} (o1 : am_ob Γ v0 3) (hbc : mc' ≤ bc) (hbs : ms' ≤ bs) (hC : am_E m_X3_fail d mc' ms' [.ref v0, .int 5] Γ I L (.inl (some (.int r))) I' L') (kk : am_W m_X3_readGates (d + 1) mc ms al (bc - mc') (bs - ms') 97 [(0, .ref v0), (1, .int v1)] [.int r] Γ I' L' Q) : am_W m_X3_readGates (d + 1) mc ms al bc bs 92 [(0, .ref v0), (1, .int v1)] [] Γ I L Q := by
  refine aw_aload_n dX3_readGates_92 rfl ?_
  refine aw_iconst dX3_readGates_93 ci_5 ?_
  exact aw_askV (as := [.int 5]) (rst := []) k_X3_fail l_X3_83 i_X3_fail s_X3_fail rfl o1 dX3_readGates_94 rfl (Nat.le_of_ble_eq_true rfl) hbc hbs hC rfl rfl kk
theorem bX3_readGates_97 {d mc ms : Nat} {al : Bool} {bc bs : Nat} {Γ : am_G} {I : am_I} {L : am_L} {Q : am_Q} {v0 : Nat} {v1 : Int32} {w0 : Int32} (kt : w0 = 0 → am_W m_X3_readGates d mc ms al bc bs 104 [(0, .ref v0), (1, .int v1)] [] Γ I L Q) (kf : ¬ w0 = 0 → am_W m_X3_readGates d mc ms al bc bs 100 [(0, .ref v0), (1, .int v1)] [] Γ I L Q) : am_W m_X3_readGates d mc ms al bc bs 97 [(0, .ref v0), (1, .int v1)] [.int w0] Γ I L Q := by
  exact aw_if_eq dX3_readGates_97 (by decide) kt kf
theorem bX3_readGates_100 {d mc ms : Nat} {al : Bool} {bc bs : Nat} {Γ : am_G} {I : am_I} {L : am_L} {Q : am_Q} {v0 : Nat} {v1 : Int32} (kk : am_W m_X3_readGates d mc ms al bc bs 105 [(0, .ref v0), (1, .int v1)] [.int 1] Γ I L Q) : am_W m_X3_readGates d mc ms al bc bs 100 [(0, .ref v0), (1, .int v1)] [] Γ I L Q := by
  refine aw_iconst dX3_readGates_100 ci_1 ?_
  exact aw_goto dX3_readGates_101 (by decide) kk
theorem bX3_readGates_104 {d mc ms : Nat} {al : Bool} {bc bs : Nat} {Γ : am_G} {I : am_I} {L : am_L} {Q : am_Q} {v0 : Nat} {v1 : Int32} (kk : am_W m_X3_readGates d mc ms al bc bs 105 [(0, .ref v0), (1, .int v1)] [.int 0] Γ I L Q) : am_W m_X3_readGates d mc ms al bc bs 104 [(0, .ref v0), (1, .int v1)] [] Γ I L Q := by
  refine aw_iconst dX3_readGates_104 ci_0 ?_
  exact kk
theorem bX3_readGates_105 {d mc ms : Nat} {al : Bool} {bc bs : Nat} {Γ : am_G} {I : am_I} {L : am_L} {Q : am_Q} {v0 : Nat} {v1 : Int32} {w0 : Int32} (hz : narrow .boolean (.int w0) = .int w0) (hq : Q (.inl (some (.int w0))) Γ I L) : am_W m_X3_readGates d mc ms al bc bs 105 [(0, .ref v0), (1, .int v1)] [.int w0] Γ I L Q := by
  exact aw_zret (ty := .boolean) dX3_readGates_105 rfl hz hq
theorem dX3_readGate_0 : decode cX3_readGate 0 = .ok (.aload_n 0, 1) := by decide +kernel
theorem dX3_readGate_1 : decode cX3_readGate 1 = .ok (.aload_n 0, 1) := by decide +kernel
theorem dX3_readGate_2 : decode cX3_readGate 2 = .ok (.getfield 19, 3) := by decide +kernel
theorem dX3_readGate_5 : decode cX3_readGate 5 = .ok (.aload_n 0, 1) := by decide +kernel
theorem dX3_readGate_6 : decode cX3_readGate 6 = .ok (.getfield 62, 3) := by decide +kernel
theorem dX3_readGate_9 : decode cX3_readGate 9 = .ok (.invokevirtual 188, 3) := by decide +kernel
theorem dX3_readGate_12 : decode cX3_readGate 12 = .ok (.invokevirtual 126, 3) := by decide +kernel
theorem dX3_readGate_15 : decode cX3_readGate 15 = .ok (.ifCond .ne 5, 3) := by decide +kernel
theorem dX3_readGate_18 : decode cX3_readGate 18 = .ok (.iconst 0, 1) := by decide +kernel
theorem dX3_readGate_19 : decode cX3_readGate 19 = .ok (.ireturn, 1) := by decide +kernel
theorem dX3_readGate_20 : decode cX3_readGate 20 = .ok (.aload_n 0, 1) := by decide +kernel
theorem dX3_readGate_21 : decode cX3_readGate 21 = .ok (.getfield 19, 3) := by decide +kernel
theorem dX3_readGate_24 : decode cX3_readGate 24 = .ok (.getfield 174, 3) := by decide +kernel
theorem dX3_readGate_27 : decode cX3_readGate 27 = .ok (.iload_n 1, 1) := by decide +kernel
theorem dX3_readGate_28 : decode cX3_readGate 28 = .ok (.aaload, 1) := by decide +kernel
theorem dX3_readGate_29 : decode cX3_readGate 29 = .ok (.astore_n 2, 1) := by decide +kernel
theorem dX3_readGate_30 : decode cX3_readGate 30 = .ok (.aload_n 2, 1) := by decide +kernel
theorem dX3_readGate_31 : decode cX3_readGate 31 = .ok (.aload_n 0, 1) := by decide +kernel
theorem dX3_readGate_32 : decode cX3_readGate 32 = .ok (.getfield 62, 3) := by decide +kernel
theorem dX3_readGate_35 : decode cX3_readGate 35 = .ok (.putfield 191, 3) := by decide +kernel
theorem dX3_readGate_38 : decode cX3_readGate 38 = .ok (.aload_n 0, 1) := by decide +kernel
theorem dX3_readGate_39 : decode cX3_readGate 39 = .ok (.invokevirtual 43, 3) := by decide +kernel
theorem dX3_readGate_42 : decode cX3_readGate 42 = .ok (.aload_n 2, 1) := by decide +kernel
theorem dX3_readGate_43 : decode cX3_readGate 43 = .ok (.aload_n 0, 1) := by decide +kernel
theorem dX3_readGate_44 : decode cX3_readGate 44 = .ok (.iconst 0, 1) := by decide +kernel
theorem dX3_readGate_45 : decode cX3_readGate 45 = .ok (.bipush 23, 2) := by decide +kernel
theorem dX3_readGate_47 : decode cX3_readGate 47 = .ok (.invokevirtual 140, 3) := by decide +kernel
theorem dX3_readGate_50 : decode cX3_readGate 50 = .ok (.putfield 194, 3) := by decide +kernel
theorem dX3_readGate_53 : decode cX3_readGate 53 = .ok (.aload_n 2, 1) := by decide +kernel
theorem dX3_readGate_54 : decode cX3_readGate 54 = .ok (.getfield 194, 3) := by decide +kernel
theorem dX3_readGate_57 : decode cX3_readGate 57 = .ok (.iconst (-1), 1) := by decide +kernel
theorem dX3_readGate_58 : decode cX3_readGate 58 = .ok (.if_icmp .ne 5, 3) := by decide +kernel
theorem dX3_readGate_61 : decode cX3_readGate 61 = .ok (.iconst 0, 1) := by decide +kernel
theorem dX3_readGate_62 : decode cX3_readGate 62 = .ok (.ireturn, 1) := by decide +kernel
theorem dX3_readGate_63 : decode cX3_readGate 63 = .ok (.aload_n 2, 1) := by decide +kernel
theorem dX3_readGate_64 : decode cX3_readGate 64 = .ok (.aload_n 0, 1) := by decide +kernel
theorem dX3_readGate_65 : decode cX3_readGate 65 = .ok (.iconst 0, 1) := by decide +kernel
theorem dX3_readGate_66 : decode cX3_readGate 66 = .ok (.bipush 23, 2) := by decide +kernel
theorem dX3_readGate_68 : decode cX3_readGate 68 = .ok (.invokevirtual 140, 3) := by decide +kernel
theorem dX3_readGate_71 : decode cX3_readGate 71 = .ok (.putfield 197, 3) := by decide +kernel
theorem dX3_readGate_74 : decode cX3_readGate 74 = .ok (.aload_n 2, 1) := by decide +kernel
theorem dX3_readGate_75 : decode cX3_readGate 75 = .ok (.getfield 197, 3) := by decide +kernel
theorem dX3_readGate_78 : decode cX3_readGate 78 = .ok (.iconst (-1), 1) := by decide +kernel
theorem dX3_readGate_79 : decode cX3_readGate 79 = .ok (.if_icmp .ne 5, 3) := by decide +kernel
theorem dX3_readGate_82 : decode cX3_readGate 82 = .ok (.iconst 0, 1) := by decide +kernel
theorem dX3_readGate_83 : decode cX3_readGate 83 = .ok (.ireturn, 1) := by decide +kernel
theorem dX3_readGate_84 : decode cX3_readGate 84 = .ok (.aload_n 2, 1) := by decide +kernel
theorem dX3_readGate_85 : decode cX3_readGate 85 = .ok (.aload_n 0, 1) := by decide +kernel
theorem dX3_readGate_86 : decode cX3_readGate 86 = .ok (.iconst 0, 1) := by decide +kernel
theorem dX3_readGate_87 : decode cX3_readGate 87 = .ok (.bipush 30, 2) := by decide +kernel
theorem dX3_readGate_89 : decode cX3_readGate 89 = .ok (.invokevirtual 140, 3) := by decide +kernel
theorem dX3_readGate_92 : decode cX3_readGate 92 = .ok (.putfield 200, 3) := by decide +kernel
theorem dX3_readGate_95 : decode cX3_readGate 95 = .ok (.aload_n 0, 1) := by decide +kernel
theorem dX3_readGate_96 : decode cX3_readGate 96 = .ok (.getfield 19, 3) := by decide +kernel
theorem dX3_readGate_99 : decode cX3_readGate 99 = .ok (.iload_n 1, 1) := by decide +kernel
theorem dX3_readGate_100 : decode cX3_readGate 100 = .ok (.iconst 1, 1) := by decide +kernel
theorem dX3_readGate_101 : decode cX3_readGate 101 = .ok (.iadd, 1) := by decide +kernel
theorem dX3_readGate_102 : decode cX3_readGate 102 = .ok (.putfield 203, 3) := by decide +kernel
theorem dX3_readGate_105 : decode cX3_readGate 105 = .ok (.aload_n 2, 1) := by decide +kernel
theorem dX3_readGate_106 : decode cX3_readGate 106 = .ok (.getfield 200, 3) := by decide +kernel
theorem dX3_readGate_109 : decode cX3_readGate 109 = .ok (.iconst (-1), 1) := by decide +kernel
theorem dX3_readGate_110 : decode cX3_readGate 110 = .ok (.if_icmp .eq 7, 3) := by decide +kernel
theorem dX3_readGate_113 : decode cX3_readGate 113 = .ok (.iconst 1, 1) := by decide +kernel
theorem dX3_readGate_114 : decode cX3_readGate 114 = .ok (.goto 4, 3) := by decide +kernel
theorem dX3_readGate_117 : decode cX3_readGate 117 = .ok (.iconst 0, 1) := by decide +kernel
theorem dX3_readGate_118 : decode cX3_readGate 118 = .ok (.ireturn, 1) := by decide +kernel
theorem bX3_readGate_0 {d mc ms : Nat} {al : Bool} {bc bs : Nat} {Γ : am_G} {I : am_I} {L : am_L} {Q : am_Q} {v0 : Nat} {v1 : Int32} {r2 : Nat} {I' : am_I} {L' : am_L} {mc' : Nat} {ms' : Nat} {r : Int32} (o1 : am_ob Γ v0 3) (g3 : Γ.2.2 v0 5 = some r2) (o4 : am_ob Γ r2 5) (hbc : mc' ≤ bc) (hbs : ms' ≤ bs) (hC : am_E m_X5_gateNamed d mc' ms' [.ref r2, .long (L v0 10)] Γ I L (.inl (some (.int r))) I' L') (kk : am_W m_X3_readGate (d + 1) mc ms al (bc - mc') (bs - ms') 12 [(0, .ref v0), (1, .int v1)] [.int r, .ref v0] Γ I' L' Q) : am_W m_X3_readGate (d + 1) mc ms al bc bs 0 [(0, .ref v0), (1, .int v1)] [] Γ I L Q := by
  refine aw_aload_n dX3_readGate_0 rfl ?_
  refine aw_aload_n dX3_readGate_1 rfl ?_
  refine aw_getR dX3_readGate_2 f_X3_19 o1 rfl g3 ?_
  refine aw_aload_n dX3_readGate_5 rfl ?_
  refine aw_getL dX3_readGate_6 f_X3_62 o1 rfl ?_
  exact aw_askV (as := [.long (L v0 10)]) (rst := [.ref v0]) k_X5_gateNamed l_X3_188 i_X5_gateNamed s_X5_gateNamed rfl o4 dX3_readGate_9 rfl (Nat.le_of_ble_eq_true rfl) hbc hbs hC rfl rfl kk
theorem bX3_readGate_12 {d mc ms : Nat} {al : Bool} {bc bs : Nat} {Γ : am_G} {I : am_I} {L : am_L} {Q : am_Q} {v0 : Nat} {v1 : Int32} {w0 : Nat} {w1 : Int32} {I' : am_I} {L' : am_L} {mc' : Nat} {ms' : Nat} {r : Int32} (o1 : am_ob Γ w0 3) (hbc : mc' ≤ bc) (hbs : ms' ≤ bs) (hC : am_E m_X3_isNewName d mc' ms' [.ref w0, .int w1] Γ I L (.inl (some (.int r))) I' L') (kk : am_W m_X3_readGate (d + 1) mc ms al (bc - mc') (bs - ms') 15 [(0, .ref v0), (1, .int v1)] [.int r] Γ I' L' Q) : am_W m_X3_readGate (d + 1) mc ms al bc bs 12 [(0, .ref v0), (1, .int v1)] [.int w1, .ref w0] Γ I L Q := by
  exact aw_askV (as := [.int w1]) (rst := []) k_X3_isNewName l_X3_126 i_X3_isNewName s_X3_isNewName rfl o1 dX3_readGate_12 rfl (Nat.le_of_ble_eq_true rfl) hbc hbs hC rfl rfl kk
theorem bX3_readGate_15 {d mc ms : Nat} {al : Bool} {bc bs : Nat} {Γ : am_G} {I : am_I} {L : am_L} {Q : am_Q} {v0 : Nat} {v1 : Int32} {w0 : Int32} (kt : ¬ w0 = 0 → am_W m_X3_readGate d mc ms al bc bs 20 [(0, .ref v0), (1, .int v1)] [] Γ I L Q) (kf : w0 = 0 → am_W m_X3_readGate d mc ms al bc bs 18 [(0, .ref v0), (1, .int v1)] [] Γ I L Q) : am_W m_X3_readGate d mc ms al bc bs 15 [(0, .ref v0), (1, .int v1)] [.int w0] Γ I L Q := by
  exact aw_if_ne dX3_readGate_15 (by decide) kt kf
theorem bX3_readGate_18 {d mc ms : Nat} {al : Bool} {bc bs : Nat} {Γ : am_G} {I : am_I} {L : am_L} {Q : am_Q} {v0 : Nat} {v1 : Int32} (hq : Q (.inl (some (.int 0))) Γ I L) : am_W m_X3_readGate d mc ms al bc bs 18 [(0, .ref v0), (1, .int v1)] [] Γ I L Q := by
  refine aw_iconst dX3_readGate_18 ci_0 ?_
  exact aw_zret (ty := .boolean) dX3_readGate_19 rfl rfl hq
theorem bX3_readGate_20 {d mc ms : Nat} {al : Bool} {bc bs : Nat} {Γ : am_G} {I : am_I} {L : am_L} {Q : am_Q} {v0 : Nat} {v1 : Int32} {r2 : Nat} {r5 : Nat} {n_r5 : Nat} {r9 : Nat} {I' : am_I} {L' : am_L} {mc' : Nat} {ms' : Nat} (o1 : am_ob Γ v0 3) (g3 : Γ.2.2 v0 5 = some r2) (o4 : am_ob Γ r2 5) (g6 : Γ.2.2 r2 9 = some r5) (a7 : am_ar Γ r5 6 n_r5 0) (i8 : vp_in v1 n_r5) (g10 : Γ.2.2 r5 (v1.toNatClampNeg) = some r9) (o11 : am_ob Γ r9 0) (hbc : mc' ≤ bc) (hbs : ms' ≤ bs) (hC : am_E m_X3_advance d mc' ms' [.ref v0] Γ I (am_ul L r9 0 (L v0 10)) (.inl none) I' L') (kk : am_W m_X3_readGate (d + 1) mc ms al (bc - mc') (bs - ms') 42 [(0, .ref v0), (1, .int v1), (2, .ref r9)] [] Γ I' L' Q) : am_W m_X3_readGate (d + 1) mc ms al bc bs 20 [(0, .ref v0), (1, .int v1)] [] Γ I L Q := by
  refine aw_aload_n dX3_readGate_20 rfl ?_
  refine aw_getR dX3_readGate_21 f_X3_19 o1 rfl g3 ?_
  refine aw_getR dX3_readGate_24 f_X3_174 o4 rfl g6 ?_
  refine aw_iload_n dX3_readGate_27 rfl ?_
  refine aw_aald dX3_readGate_28 a7 i8 g10 ?_
  refine aw_astore_n (ls' := [(0, .ref v0), (1, .int v1), (2, .ref r9)]) dX3_readGate_29 (by decide) rfl ?_
  refine aw_aload_n dX3_readGate_30 rfl ?_
  refine aw_aload_n dX3_readGate_31 rfl ?_
  refine aw_getL dX3_readGate_32 f_X3_62 o1 rfl ?_
  refine aw_putL dX3_readGate_35 pf_X3_191 o11 rfl ?_
  refine aw_aload_n dX3_readGate_38 rfl ?_
  exact aw_askV (as := []) (rst := []) k_X3_advance l_X3_43 i_X3_advance s_X3_advance rfl o1 dX3_readGate_39 rfl (Nat.le_of_ble_eq_true rfl) hbc hbs hC rfl rfl kk
theorem bX3_readGate_42 {d mc ms : Nat} {al : Bool} {bc bs : Nat} {Γ : am_G} {I : am_I} {L : am_L} {Q : am_Q} {v0 : Nat} {v1 : Int32} {v2 : Nat} {I' : am_I} {L' : am_L} {mc' : Nat} {ms' : Nat} {r : Int32} (o1 : am_ob Γ v0 3) (hbc : mc' ≤ bc) (hbs : ms' ≤ bs) (hC : am_E m_X3_takeNumber d mc' ms' [.ref v0, .int 0, .int 23] Γ I L (.inl (some (.int r))) I' L') (kk : am_W m_X3_readGate (d + 1) mc ms al (bc - mc') (bs - ms') 50 [(0, .ref v0), (1, .int v1), (2, .ref v2)] [.int r, .ref v2] Γ I' L' Q) : am_W m_X3_readGate (d + 1) mc ms al bc bs 42 [(0, .ref v0), (1, .int v1), (2, .ref v2)] [] Γ I L Q := by
  refine aw_aload_n dX3_readGate_42 rfl ?_
  refine aw_aload_n dX3_readGate_43 rfl ?_
  refine aw_iconst dX3_readGate_44 ci_0 ?_
  refine aw_bipush dX3_readGate_45 cb_23 ?_
  exact aw_askV (as := [.int 0, .int 23]) (rst := [.ref v2]) k_X3_takeNumber l_X3_140 i_X3_takeNumber s_X3_takeNumber rfl o1 dX3_readGate_47 rfl (Nat.le_of_ble_eq_true rfl) hbc hbs hC rfl rfl kk
theorem bX3_readGate_50 {d mc ms : Nat} {al : Bool} {bc bs : Nat} {Γ : am_G} {I : am_I} {L : am_L} {Q : am_Q} {v0 : Nat} {v1 : Int32} {v2 : Nat} {w0 : Nat} {w1 : Int32} (o1 : am_ob Γ w0 0) (o2 : am_ob Γ v2 0) (kt : ¬ ((am_u I w0 1 w1) v2 1) = (-1) → am_W m_X3_readGate d mc ms al bc bs 63 [(0, .ref v0), (1, .int v1), (2, .ref v2)] [] Γ (am_u I w0 1 w1) L Q) (kf : ((am_u I w0 1 w1) v2 1) = (-1) → am_W m_X3_readGate d mc ms al bc bs 61 [(0, .ref v0), (1, .int v1), (2, .ref v2)] [] Γ (am_u I w0 1 w1) L Q) : am_W m_X3_readGate d mc ms al bc bs 50 [(0, .ref v0), (1, .int v1), (2, .ref v2)] [.int w1, .ref w0] Γ I L Q := by
  refine aw_putI dX3_readGate_50 pf_X3_194 o1 rfl ?_
  refine aw_aload_n dX3_readGate_53 rfl ?_
  refine aw_getI dX3_readGate_54 f_X3_194 o2 rfl ?_
  refine aw_iconst dX3_readGate_57 ci_m1 ?_
  exact aw_icmp_ne dX3_readGate_58 (by decide) kt kf
theorem bX3_readGate_61 {d mc ms : Nat} {al : Bool} {bc bs : Nat} {Γ : am_G} {I : am_I} {L : am_L} {Q : am_Q} {v0 : Nat} {v1 : Int32} {v2 : Nat} (hq : Q (.inl (some (.int 0))) Γ I L) : am_W m_X3_readGate d mc ms al bc bs 61 [(0, .ref v0), (1, .int v1), (2, .ref v2)] [] Γ I L Q := by
  refine aw_iconst dX3_readGate_61 ci_0 ?_
  exact aw_zret (ty := .boolean) dX3_readGate_62 rfl rfl hq
theorem bX3_readGate_63 {d mc ms : Nat} {al : Bool} {bc bs : Nat} {Γ : am_G} {I : am_I} {L : am_L} {Q : am_Q} {v0 : Nat} {v1 : Int32} {v2 : Nat} {I' : am_I} {L' : am_L} {mc' : Nat} {ms' : Nat} {r : Int32} (o1 : am_ob Γ v0 3) (hbc : mc' ≤ bc) (hbs : ms' ≤ bs) (hC : am_E m_X3_takeNumber d mc' ms' [.ref v0, .int 0, .int 23] Γ I L (.inl (some (.int r))) I' L') (kk : am_W m_X3_readGate (d + 1) mc ms al (bc - mc') (bs - ms') 71 [(0, .ref v0), (1, .int v1), (2, .ref v2)] [.int r, .ref v2] Γ I' L' Q) : am_W m_X3_readGate (d + 1) mc ms al bc bs 63 [(0, .ref v0), (1, .int v1), (2, .ref v2)] [] Γ I L Q := by
  refine aw_aload_n dX3_readGate_63 rfl ?_
  refine aw_aload_n dX3_readGate_64 rfl ?_
  refine aw_iconst dX3_readGate_65 ci_0 ?_
  refine aw_bipush dX3_readGate_66 cb_23 ?_
  exact aw_askV (as := [.int 0, .int 23]) (rst := [.ref v2]) k_X3_takeNumber l_X3_140 i_X3_takeNumber s_X3_takeNumber rfl o1 dX3_readGate_68 rfl (Nat.le_of_ble_eq_true rfl) hbc hbs hC rfl rfl kk
theorem bX3_readGate_71 {d mc ms : Nat} {al : Bool} {bc bs : Nat} {Γ : am_G} {I : am_I} {L : am_L} {Q : am_Q} {v0 : Nat} {v1 : Int32} {v2 : Nat} {w0 : Nat} {w1 : Int32} (o1 : am_ob Γ w0 0) (o2 : am_ob Γ v2 0) (kt : ¬ ((am_u I w0 2 w1) v2 2) = (-1) → am_W m_X3_readGate d mc ms al bc bs 84 [(0, .ref v0), (1, .int v1), (2, .ref v2)] [] Γ (am_u I w0 2 w1) L Q) (kf : ((am_u I w0 2 w1) v2 2) = (-1) → am_W m_X3_readGate d mc ms al bc bs 82 [(0, .ref v0), (1, .int v1), (2, .ref v2)] [] Γ (am_u I w0 2 w1) L Q) : am_W m_X3_readGate d mc ms al bc bs 71 [(0, .ref v0), (1, .int v1), (2, .ref v2)] [.int w1, .ref w0] Γ I L Q := by
  refine aw_putI dX3_readGate_71 pf_X3_197 o1 rfl ?_
  refine aw_aload_n dX3_readGate_74 rfl ?_
  refine aw_getI dX3_readGate_75 f_X3_197 o2 rfl ?_
  refine aw_iconst dX3_readGate_78 ci_m1 ?_
  exact aw_icmp_ne dX3_readGate_79 (by decide) kt kf
theorem bX3_readGate_82 {d mc ms : Nat} {al : Bool} {bc bs : Nat} {Γ : am_G} {I : am_I} {L : am_L} {Q : am_Q} {v0 : Nat} {v1 : Int32} {v2 : Nat} (hq : Q (.inl (some (.int 0))) Γ I L) : am_W m_X3_readGate d mc ms al bc bs 82 [(0, .ref v0), (1, .int v1), (2, .ref v2)] [] Γ I L Q := by
  refine aw_iconst dX3_readGate_82 ci_0 ?_
  exact aw_zret (ty := .boolean) dX3_readGate_83 rfl rfl hq
theorem bX3_readGate_84 {d mc ms : Nat} {al : Bool} {bc bs : Nat} {Γ : am_G} {I : am_I} {L : am_L} {Q : am_Q} {v0 : Nat} {v1 : Int32} {v2 : Nat} {I' : am_I} {L' : am_L} {mc' : Nat} {ms' : Nat} {r : Int32} (o1 : am_ob Γ v0 3) (hbc : mc' ≤ bc) (hbs : ms' ≤ bs) (hC : am_E m_X3_takeNumber d mc' ms' [.ref v0, .int 0, .int 30] Γ I L (.inl (some (.int r))) I' L') (kk : am_W m_X3_readGate (d + 1) mc ms al (bc - mc') (bs - ms') 92 [(0, .ref v0), (1, .int v1), (2, .ref v2)] [.int r, .ref v2] Γ I' L' Q) : am_W m_X3_readGate (d + 1) mc ms al bc bs 84 [(0, .ref v0), (1, .int v1), (2, .ref v2)] [] Γ I L Q := by
  refine aw_aload_n dX3_readGate_84 rfl ?_
  refine aw_aload_n dX3_readGate_85 rfl ?_
  refine aw_iconst dX3_readGate_86 ci_0 ?_
  refine aw_bipush dX3_readGate_87 cb_30 ?_
  exact aw_askV (as := [.int 0, .int 30]) (rst := [.ref v2]) k_X3_takeNumber l_X3_140 i_X3_takeNumber s_X3_takeNumber rfl o1 dX3_readGate_89 rfl (Nat.le_of_ble_eq_true rfl) hbc hbs hC rfl rfl kk
theorem bX3_readGate_92 {d mc ms : Nat} {al : Bool} {bc bs : Nat} {Γ : am_G} {I : am_I} {L : am_L} {Q : am_Q} {v0 : Nat} {v1 : Int32} {v2 : Nat} {w0 : Nat} {w1 : Int32} {r3 : Nat} (o1 : am_ob Γ w0 0) (o2 : am_ob Γ v0 3) (g4 : Γ.2.2 v0 5 = some r3) (o5 : am_ob Γ r3 5) (o6 : am_ob Γ v2 0) (kt : ((am_u (am_u I w0 3 w1) r3 2 (v1 + 1)) v2 3) = (-1) → am_W m_X3_readGate d mc ms al bc bs 117 [(0, .ref v0), (1, .int v1), (2, .ref v2)] [] Γ (am_u (am_u I w0 3 w1) r3 2 (v1 + 1)) L Q) (kf : ¬ ((am_u (am_u I w0 3 w1) r3 2 (v1 + 1)) v2 3) = (-1) → am_W m_X3_readGate d mc ms al bc bs 113 [(0, .ref v0), (1, .int v1), (2, .ref v2)] [] Γ (am_u (am_u I w0 3 w1) r3 2 (v1 + 1)) L Q) : am_W m_X3_readGate d mc ms al bc bs 92 [(0, .ref v0), (1, .int v1), (2, .ref v2)] [.int w1, .ref w0] Γ I L Q := by
  refine aw_putI dX3_readGate_92 pf_X3_200 o1 rfl ?_
  refine aw_aload_n dX3_readGate_95 rfl ?_
  refine aw_getR dX3_readGate_96 f_X3_19 o2 rfl g4 ?_
  refine aw_iload_n dX3_readGate_99 rfl ?_
  refine aw_iconst dX3_readGate_100 ci_1 ?_
  refine aw_iadd dX3_readGate_101 ?_
  refine aw_putI dX3_readGate_102 pf_X3_203 o5 rfl ?_
  refine aw_aload_n dX3_readGate_105 rfl ?_
  refine aw_getI dX3_readGate_106 f_X3_200 o6 rfl ?_
  refine aw_iconst dX3_readGate_109 ci_m1 ?_
  exact aw_icmp_eq dX3_readGate_110 (by decide) kt kf
theorem bX3_readGate_113 {d mc ms : Nat} {al : Bool} {bc bs : Nat} {Γ : am_G} {I : am_I} {L : am_L} {Q : am_Q} {v0 : Nat} {v1 : Int32} {v2 : Nat} (kk : am_W m_X3_readGate d mc ms al bc bs 118 [(0, .ref v0), (1, .int v1), (2, .ref v2)] [.int 1] Γ I L Q) : am_W m_X3_readGate d mc ms al bc bs 113 [(0, .ref v0), (1, .int v1), (2, .ref v2)] [] Γ I L Q := by
  refine aw_iconst dX3_readGate_113 ci_1 ?_
  exact aw_goto dX3_readGate_114 (by decide) kk
theorem bX3_readGate_117 {d mc ms : Nat} {al : Bool} {bc bs : Nat} {Γ : am_G} {I : am_I} {L : am_L} {Q : am_Q} {v0 : Nat} {v1 : Int32} {v2 : Nat} (kk : am_W m_X3_readGate d mc ms al bc bs 118 [(0, .ref v0), (1, .int v1), (2, .ref v2)] [.int 0] Γ I L Q) : am_W m_X3_readGate d mc ms al bc bs 117 [(0, .ref v0), (1, .int v1), (2, .ref v2)] [] Γ I L Q := by
  refine aw_iconst dX3_readGate_117 ci_0 ?_
  exact kk
theorem bX3_readGate_118 {d mc ms : Nat} {al : Bool} {bc bs : Nat} {Γ : am_G} {I : am_I} {L : am_L} {Q : am_Q} {v0 : Nat} {v1 : Int32} {v2 : Nat} {w0 : Int32} (hz : narrow .boolean (.int w0) = .int w0) (hq : Q (.inl (some (.int w0))) Γ I L) : am_W m_X3_readGate d mc ms al bc bs 118 [(0, .ref v0), (1, .int v1), (2, .ref v2)] [.int w0] Γ I L Q := by
  exact aw_zret (ty := .boolean) dX3_readGate_118 rfl hz hq
theorem dX3_readCounts_0 : decode cX3_readCounts 0 = .ok (.iconst 0, 1) := by decide +kernel
theorem dX3_readCounts_1 : decode cX3_readCounts 1 = .ok (.istore_n 2, 1) := by decide +kernel
theorem dX3_readCounts_2 : decode cX3_readCounts 2 = .ok (.iload_n 2, 1) := by decide +kernel
theorem dX3_readCounts_3 : decode cX3_readCounts 3 = .ok (.aload_n 0, 1) := by decide +kernel
theorem dX3_readCounts_4 : decode cX3_readCounts 4 = .ok (.getfield 19, 3) := by decide +kernel
theorem dX3_readCounts_7 : decode cX3_readCounts 7 = .ok (.getfield 160, 3) := by decide +kernel
theorem dX3_readCounts_10 : decode cX3_readCounts 10 = .ok (.if_icmp .ge 35, 3) := by decide +kernel
theorem dX3_readCounts_13 : decode cX3_readCounts 13 = .ok (.aload_n 1, 1) := by decide +kernel
theorem dX3_readCounts_14 : decode cX3_readCounts 14 = .ok (.getfield 206, 3) := by decide +kernel
theorem dX3_readCounts_17 : decode cX3_readCounts 17 = .ok (.iload_n 2, 1) := by decide +kernel
theorem dX3_readCounts_18 : decode cX3_readCounts 18 = .ok (.aload_n 0, 1) := by decide +kernel
theorem dX3_readCounts_19 : decode cX3_readCounts 19 = .ok (.iconst 0, 1) := by decide +kernel
theorem dX3_readCounts_20 : decode cX3_readCounts 20 = .ok (.sipush 9999, 3) := by decide +kernel
theorem dX3_readCounts_23 : decode cX3_readCounts 23 = .ok (.invokevirtual 140, 3) := by decide +kernel
theorem dX3_readCounts_26 : decode cX3_readCounts 26 = .ok (.iastore, 1) := by decide +kernel
theorem dX3_readCounts_27 : decode cX3_readCounts 27 = .ok (.aload_n 1, 1) := by decide +kernel
theorem dX3_readCounts_28 : decode cX3_readCounts 28 = .ok (.getfield 206, 3) := by decide +kernel
theorem dX3_readCounts_31 : decode cX3_readCounts 31 = .ok (.iload_n 2, 1) := by decide +kernel
theorem dX3_readCounts_32 : decode cX3_readCounts 32 = .ok (.iaload, 1) := by decide +kernel
theorem dX3_readCounts_33 : decode cX3_readCounts 33 = .ok (.iconst (-1), 1) := by decide +kernel
theorem dX3_readCounts_34 : decode cX3_readCounts 34 = .ok (.if_icmp .ne 5, 3) := by decide +kernel
theorem dX3_readCounts_37 : decode cX3_readCounts 37 = .ok (.iconst 0, 1) := by decide +kernel
theorem dX3_readCounts_38 : decode cX3_readCounts 38 = .ok (.ireturn, 1) := by decide +kernel
theorem dX3_readCounts_39 : decode cX3_readCounts 39 = .ok (.iinc 2 1, 3) := by decide +kernel
theorem dX3_readCounts_42 : decode cX3_readCounts 42 = .ok (.goto (-40), 3) := by decide +kernel
theorem dX3_readCounts_45 : decode cX3_readCounts 45 = .ok (.aload_n 0, 1) := by decide +kernel
theorem dX3_readCounts_46 : decode cX3_readCounts 46 = .ok (.getfield 49, 3) := by decide +kernel
theorem dX3_readCounts_49 : decode cX3_readCounts 49 = .ok (.iconst 1, 1) := by decide +kernel
theorem dX3_readCounts_50 : decode cX3_readCounts 50 = .ok (.if_icmp .ne 28, 3) := by decide +kernel
theorem dX3_readCounts_53 : decode cX3_readCounts 53 = .ok (.aload_n 0, 1) := by decide +kernel
theorem dX3_readCounts_54 : decode cX3_readCounts 54 = .ok (.iconst 0, 1) := by decide +kernel
theorem dX3_readCounts_55 : decode cX3_readCounts 55 = .ok (.sipush 9999, 3) := by decide +kernel
theorem dX3_readCounts_58 : decode cX3_readCounts 58 = .ok (.invokevirtual 87, 3) := by decide +kernel
theorem dX3_readCounts_61 : decode cX3_readCounts 61 = .ok (.ifCond .eq 15, 3) := by decide +kernel
theorem dX3_readCounts_64 : decode cX3_readCounts 64 = .ok (.aload_n 0, 1) := by decide +kernel
theorem dX3_readCounts_65 : decode cX3_readCounts 65 = .ok (.iconst 5, 1) := by decide +kernel
theorem dX3_readCounts_66 : decode cX3_readCounts 66 = .ok (.invokevirtual 83, 3) := by decide +kernel
theorem dX3_readCounts_69 : decode cX3_readCounts 69 = .ok (.ifCond .eq 7, 3) := by decide +kernel
theorem dX3_readCounts_72 : decode cX3_readCounts 72 = .ok (.iconst 1, 1) := by decide +kernel
theorem dX3_readCounts_73 : decode cX3_readCounts 73 = .ok (.goto 4, 3) := by decide +kernel
theorem dX3_readCounts_76 : decode cX3_readCounts 76 = .ok (.iconst 0, 1) := by decide +kernel
theorem dX3_readCounts_77 : decode cX3_readCounts 77 = .ok (.ireturn, 1) := by decide +kernel
theorem dX3_readCounts_78 : decode cX3_readCounts 78 = .ok (.aload_n 0, 1) := by decide +kernel
theorem dX3_readCounts_79 : decode cX3_readCounts 79 = .ok (.invokevirtual 103, 3) := by decide +kernel
theorem dX3_readCounts_82 : decode cX3_readCounts 82 = .ok (.ireturn, 1) := by decide +kernel
theorem bX3_readCounts_0 {d mc ms : Nat} {al : Bool} {bc bs : Nat} {Γ : am_G} {I : am_I} {L : am_L} {Q : am_Q} {v0 : Nat} {v1 : Nat} (kk : am_W m_X3_readCounts d mc ms al bc bs 2 [(0, .ref v0), (1, .ref v1), (2, .int 0)] [] Γ I L Q) : am_W m_X3_readCounts d mc ms al bc bs 0 [(0, .ref v0), (1, .ref v1)] [] Γ I L Q := by
  refine aw_iconst dX3_readCounts_0 ci_0 ?_
  refine aw_istore_n (ls' := [(0, .ref v0), (1, .ref v1), (2, .int 0)]) dX3_readCounts_1 (by decide) rfl ?_
  exact kk
theorem bX3_readCounts_2 {d mc ms : Nat} {al : Bool} {bc bs : Nat} {Γ : am_G} {I : am_I} {L : am_L} {Q : am_Q} {v0 : Nat} {v1 : Nat} {v2 : Int32} {r2 : Nat} (o1 : am_ob Γ v0 3) (g3 : Γ.2.2 v0 5 = some r2) (o4 : am_ob Γ r2 5) (kt : (I r2 1) ≤ v2 → am_W m_X3_readCounts d mc ms al bc bs 45 [(0, .ref v0), (1, .ref v1), (2, .int v2)] [] Γ I L Q) (kf : ¬ (I r2 1) ≤ v2 → am_W m_X3_readCounts d mc ms al bc bs 13 [(0, .ref v0), (1, .ref v1), (2, .int v2)] [] Γ I L Q) : am_W m_X3_readCounts d mc ms al bc bs 2 [(0, .ref v0), (1, .ref v1), (2, .int v2)] [] Γ I L Q := by
  refine aw_iload_n dX3_readCounts_2 rfl ?_
  refine aw_aload_n dX3_readCounts_3 rfl ?_
  refine aw_getR dX3_readCounts_4 f_X3_19 o1 rfl g3 ?_
  refine aw_getI dX3_readCounts_7 f_X3_160 o4 rfl ?_
  exact aw_icmp_ge dX3_readCounts_10 (by decide) kt kf
theorem bX3_readCounts_13 {d mc ms : Nat} {al : Bool} {bc bs : Nat} {Γ : am_G} {I : am_I} {L : am_L} {Q : am_Q} {v0 : Nat} {v1 : Nat} {v2 : Int32} {r2 : Nat} {I' : am_I} {L' : am_L} {mc' : Nat} {ms' : Nat} {r : Int32} (o1 : am_ob Γ v1 0) (g3 : Γ.2.2 v1 4 = some r2) (o4 : am_ob Γ v0 3) (hbc : mc' ≤ bc) (hbs : ms' ≤ bs) (hC : am_E m_X3_takeNumber d mc' ms' [.ref v0, .int 0, .int 9999] Γ I L (.inl (some (.int r))) I' L') (kk : am_W m_X3_readCounts (d + 1) mc ms al (bc - mc') (bs - ms') 26 [(0, .ref v0), (1, .ref v1), (2, .int v2)] [.int r, .int v2, .ref r2] Γ I' L' Q) : am_W m_X3_readCounts (d + 1) mc ms al bc bs 13 [(0, .ref v0), (1, .ref v1), (2, .int v2)] [] Γ I L Q := by
  refine aw_aload_n dX3_readCounts_13 rfl ?_
  refine aw_getR dX3_readCounts_14 f_X3_206 o1 rfl g3 ?_
  refine aw_iload_n dX3_readCounts_17 rfl ?_
  refine aw_aload_n dX3_readCounts_18 rfl ?_
  refine aw_iconst dX3_readCounts_19 ci_0 ?_
  refine aw_sipush dX3_readCounts_20 cs_9999 ?_
  exact aw_askV (as := [.int 0, .int 9999]) (rst := [.int v2, .ref r2]) k_X3_takeNumber l_X3_140 i_X3_takeNumber s_X3_takeNumber rfl o4 dX3_readCounts_23 rfl (Nat.le_of_ble_eq_true rfl) hbc hbs hC rfl rfl kk
theorem bX3_readCounts_26 {d mc ms : Nat} {al : Bool} {bc bs : Nat} {Γ : am_G} {I : am_I} {L : am_L} {Q : am_Q} {v0 : Nat} {v1 : Nat} {v2 : Int32} {w0 : Nat} {w1 : Int32} {w2 : Int32} {n_w0 : Nat} {r4 : Nat} {n_r4 : Nat} (a1 : am_ar Γ w0 1 n_w0 0) (i2 : vp_in w1 n_w0) (o3 : am_ob Γ v1 0) (g5 : Γ.2.2 v1 4 = some r4) (a6 : am_ar Γ r4 1 n_r4 0) (i7 : vp_in v2 n_r4) (kt : ¬ ((am_u I w0 (w1.toNatClampNeg) w2) r4 (v2.toNatClampNeg)) = (-1) → am_W m_X3_readCounts d mc ms al bc bs 39 [(0, .ref v0), (1, .ref v1), (2, .int v2)] [] Γ (am_u I w0 (w1.toNatClampNeg) w2) L Q) (kf : ((am_u I w0 (w1.toNatClampNeg) w2) r4 (v2.toNatClampNeg)) = (-1) → am_W m_X3_readCounts d mc ms al bc bs 37 [(0, .ref v0), (1, .ref v1), (2, .int v2)] [] Γ (am_u I w0 (w1.toNatClampNeg) w2) L Q) : am_W m_X3_readCounts d mc ms al bc bs 26 [(0, .ref v0), (1, .ref v1), (2, .int v2)] [.int w2, .int w1, .ref w0] Γ I L Q := by
  refine aw_iast dX3_readCounts_26 a1 i2 ?_
  refine aw_aload_n dX3_readCounts_27 rfl ?_
  refine aw_getR dX3_readCounts_28 f_X3_206 o3 rfl g5 ?_
  refine aw_iload_n dX3_readCounts_31 rfl ?_
  refine aw_iald dX3_readCounts_32 a6 i7 ?_
  refine aw_iconst dX3_readCounts_33 ci_m1 ?_
  exact aw_icmp_ne dX3_readCounts_34 (by decide) kt kf
theorem bX3_readCounts_37 {d mc ms : Nat} {al : Bool} {bc bs : Nat} {Γ : am_G} {I : am_I} {L : am_L} {Q : am_Q} {v0 : Nat} {v1 : Nat} {v2 : Int32} (hq : Q (.inl (some (.int 0))) Γ I L) : am_W m_X3_readCounts d mc ms al bc bs 37 [(0, .ref v0), (1, .ref v1), (2, .int v2)] [] Γ I L Q := by
  refine aw_iconst dX3_readCounts_37 ci_0 ?_
  exact aw_zret (ty := .boolean) dX3_readCounts_38 rfl rfl hq
theorem bX3_readCounts_39 {d mc ms : Nat} {al : Bool} {bc bs : Nat} {Γ : am_G} {I : am_I} {L : am_L} {Q : am_Q} {v0 : Nat} {v1 : Nat} {v2 : Int32} (kk : am_W m_X3_readCounts d mc ms al bc bs 2 [(0, .ref v0), (1, .ref v1), (2, .int (v2 + 1))] [] Γ I L Q) : am_W m_X3_readCounts d mc ms al bc bs 39 [(0, .ref v0), (1, .ref v1), (2, .int v2)] [] Γ I L Q := by
  refine aw_iinc (ls' := [(0, .ref v0), (1, .ref v1), (2, .int (v2 + 1))]) dX3_readCounts_39 rfl (cn_1 _) (by decide) rfl ?_
  exact aw_goto dX3_readCounts_42 (by decide) kk
theorem bX3_readCounts_45 {d mc ms : Nat} {al : Bool} {bc bs : Nat} {Γ : am_G} {I : am_I} {L : am_L} {Q : am_Q} {v0 : Nat} {v1 : Nat} {v2 : Int32} (o1 : am_ob Γ v0 3) (kt : ¬ (I v0 7) = 1 → am_W m_X3_readCounts d mc ms al bc bs 78 [(0, .ref v0), (1, .ref v1), (2, .int v2)] [] Γ I L Q) (kf : (I v0 7) = 1 → am_W m_X3_readCounts d mc ms al bc bs 53 [(0, .ref v0), (1, .ref v1), (2, .int v2)] [] Γ I L Q) : am_W m_X3_readCounts d mc ms al bc bs 45 [(0, .ref v0), (1, .ref v1), (2, .int v2)] [] Γ I L Q := by
  refine aw_aload_n dX3_readCounts_45 rfl ?_
  refine aw_getI dX3_readCounts_46 f_X3_49 o1 rfl ?_
  refine aw_iconst dX3_readCounts_49 ci_1 ?_
  exact aw_icmp_ne dX3_readCounts_50 (by decide) kt kf
theorem bX3_readCounts_53 {d mc ms : Nat} {al : Bool} {bc bs : Nat} {Γ : am_G} {I : am_I} {L : am_L} {Q : am_Q} {v0 : Nat} {v1 : Nat} {v2 : Int32} {I' : am_I} {L' : am_L} {mc' : Nat} {ms' : Nat} {r : Int32} (o1 : am_ob Γ v0 3) (hbc : mc' ≤ bc) (hbs : ms' ≤ bs) (hC : am_E m_X3_isNumberIn d mc' ms' [.ref v0, .int 0, .int 9999] Γ I L (.inl (some (.int r))) I' L') (kk : am_W m_X3_readCounts (d + 1) mc ms al (bc - mc') (bs - ms') 61 [(0, .ref v0), (1, .ref v1), (2, .int v2)] [.int r] Γ I' L' Q) : am_W m_X3_readCounts (d + 1) mc ms al bc bs 53 [(0, .ref v0), (1, .ref v1), (2, .int v2)] [] Γ I L Q := by
  refine aw_aload_n dX3_readCounts_53 rfl ?_
  refine aw_iconst dX3_readCounts_54 ci_0 ?_
  refine aw_sipush dX3_readCounts_55 cs_9999 ?_
  exact aw_askV (as := [.int 0, .int 9999]) (rst := []) k_X3_isNumberIn l_X3_87 i_X3_isNumberIn s_X3_isNumberIn rfl o1 dX3_readCounts_58 rfl (Nat.le_of_ble_eq_true rfl) hbc hbs hC rfl rfl kk
theorem bX3_readCounts_61 {d mc ms : Nat} {al : Bool} {bc bs : Nat} {Γ : am_G} {I : am_I} {L : am_L} {Q : am_Q} {v0 : Nat} {v1 : Nat} {v2 : Int32} {w0 : Int32} (kt : w0 = 0 → am_W m_X3_readCounts d mc ms al bc bs 76 [(0, .ref v0), (1, .ref v1), (2, .int v2)] [] Γ I L Q) (kf : ¬ w0 = 0 → am_W m_X3_readCounts d mc ms al bc bs 64 [(0, .ref v0), (1, .ref v1), (2, .int v2)] [] Γ I L Q) : am_W m_X3_readCounts d mc ms al bc bs 61 [(0, .ref v0), (1, .ref v1), (2, .int v2)] [.int w0] Γ I L Q := by
  exact aw_if_eq dX3_readCounts_61 (by decide) kt kf
theorem bX3_readCounts_64 {d mc ms : Nat} {al : Bool} {bc bs : Nat} {Γ : am_G} {I : am_I} {L : am_L} {Q : am_Q} {v0 : Nat} {v1 : Nat} {v2 : Int32} {I' : am_I} {L' : am_L} {mc' : Nat} {ms' : Nat} {r : Int32} (o1 : am_ob Γ v0 3) (hbc : mc' ≤ bc) (hbs : ms' ≤ bs) (hC : am_E m_X3_fail d mc' ms' [.ref v0, .int 5] Γ I L (.inl (some (.int r))) I' L') (kk : am_W m_X3_readCounts (d + 1) mc ms al (bc - mc') (bs - ms') 69 [(0, .ref v0), (1, .ref v1), (2, .int v2)] [.int r] Γ I' L' Q) : am_W m_X3_readCounts (d + 1) mc ms al bc bs 64 [(0, .ref v0), (1, .ref v1), (2, .int v2)] [] Γ I L Q := by
  refine aw_aload_n dX3_readCounts_64 rfl ?_
  refine aw_iconst dX3_readCounts_65 ci_5 ?_
  exact aw_askV (as := [.int 5]) (rst := []) k_X3_fail l_X3_83 i_X3_fail s_X3_fail rfl o1 dX3_readCounts_66 rfl (Nat.le_of_ble_eq_true rfl) hbc hbs hC rfl rfl kk
theorem bX3_readCounts_69 {d mc ms : Nat} {al : Bool} {bc bs : Nat} {Γ : am_G} {I : am_I} {L : am_L} {Q : am_Q} {v0 : Nat} {v1 : Nat} {v2 : Int32} {w0 : Int32} (kt : w0 = 0 → am_W m_X3_readCounts d mc ms al bc bs 76 [(0, .ref v0), (1, .ref v1), (2, .int v2)] [] Γ I L Q) (kf : ¬ w0 = 0 → am_W m_X3_readCounts d mc ms al bc bs 72 [(0, .ref v0), (1, .ref v1), (2, .int v2)] [] Γ I L Q) : am_W m_X3_readCounts d mc ms al bc bs 69 [(0, .ref v0), (1, .ref v1), (2, .int v2)] [.int w0] Γ I L Q := by
  exact aw_if_eq dX3_readCounts_69 (by decide) kt kf
theorem bX3_readCounts_72 {d mc ms : Nat} {al : Bool} {bc bs : Nat} {Γ : am_G} {I : am_I} {L : am_L} {Q : am_Q} {v0 : Nat} {v1 : Nat} {v2 : Int32} (kk : am_W m_X3_readCounts d mc ms al bc bs 77 [(0, .ref v0), (1, .ref v1), (2, .int v2)] [.int 1] Γ I L Q) : am_W m_X3_readCounts d mc ms al bc bs 72 [(0, .ref v0), (1, .ref v1), (2, .int v2)] [] Γ I L Q := by
  refine aw_iconst dX3_readCounts_72 ci_1 ?_
  exact aw_goto dX3_readCounts_73 (by decide) kk
theorem bX3_readCounts_76 {d mc ms : Nat} {al : Bool} {bc bs : Nat} {Γ : am_G} {I : am_I} {L : am_L} {Q : am_Q} {v0 : Nat} {v1 : Nat} {v2 : Int32} (kk : am_W m_X3_readCounts d mc ms al bc bs 77 [(0, .ref v0), (1, .ref v1), (2, .int v2)] [.int 0] Γ I L Q) : am_W m_X3_readCounts d mc ms al bc bs 76 [(0, .ref v0), (1, .ref v1), (2, .int v2)] [] Γ I L Q := by
  refine aw_iconst dX3_readCounts_76 ci_0 ?_
  exact kk
theorem bX3_readCounts_77 {d mc ms : Nat} {al : Bool} {bc bs : Nat} {Γ : am_G} {I : am_I} {L : am_L} {Q : am_Q} {v0 : Nat} {v1 : Nat} {v2 : Int32} {w0 : Int32} (hz : narrow .boolean (.int w0) = .int w0) (hq : Q (.inl (some (.int w0))) Γ I L) : am_W m_X3_readCounts d mc ms al bc bs 77 [(0, .ref v0), (1, .ref v1), (2, .int v2)] [.int w0] Γ I L Q := by
  exact aw_zret (ty := .boolean) dX3_readCounts_77 rfl hz hq
theorem bX3_readCounts_78 {d mc ms : Nat} {al : Bool} {bc bs : Nat} {Γ : am_G} {I : am_I} {L : am_L} {Q : am_Q} {v0 : Nat} {v1 : Nat} {v2 : Int32} {I' : am_I} {L' : am_L} {mc' : Nat} {ms' : Nat} {r : Int32} (o1 : am_ob Γ v0 3) (hbc : mc' ≤ bc) (hbs : ms' ≤ bs) (hC : am_E m_X3_takeSemicolon d mc' ms' [.ref v0] Γ I L (.inl (some (.int r))) I' L') (kk : am_W m_X3_readCounts (d + 1) mc ms al (bc - mc') (bs - ms') 82 [(0, .ref v0), (1, .ref v1), (2, .int v2)] [.int r] Γ I' L' Q) : am_W m_X3_readCounts (d + 1) mc ms al bc bs 78 [(0, .ref v0), (1, .ref v1), (2, .int v2)] [] Γ I L Q := by
  refine aw_aload_n dX3_readCounts_78 rfl ?_
  exact aw_askV (as := []) (rst := []) k_X3_takeSemicolon l_X3_103 i_X3_takeSemicolon s_X3_takeSemicolon rfl o1 dX3_readCounts_79 rfl (Nat.le_of_ble_eq_true rfl) hbc hbs hC rfl rfl kk
theorem bX3_readCounts_82 {d mc ms : Nat} {al : Bool} {bc bs : Nat} {Γ : am_G} {I : am_I} {L : am_L} {Q : am_Q} {v0 : Nat} {v1 : Nat} {v2 : Int32} {w0 : Int32} (hz : narrow .boolean (.int w0) = .int w0) (hq : Q (.inl (some (.int w0))) Γ I L) : am_W m_X3_readCounts d mc ms al bc bs 82 [(0, .ref v0), (1, .ref v1), (2, .int v2)] [.int w0] Γ I L Q := by
  exact aw_zret (ty := .boolean) dX3_readCounts_82 rfl hz hq
theorem dX3_readCommands_0 : decode cX3_readCommands 0 = .ok (.iconst 0, 1) := by decide +kernel
theorem dX3_readCommands_1 : decode cX3_readCommands 1 = .ok (.istore_n 1, 1) := by decide +kernel
theorem dX3_readCommands_2 : decode cX3_readCommands 2 = .ok (.iload_n 1, 1) := by decide +kernel
theorem dX3_readCommands_3 : decode cX3_readCommands 3 = .ok (.sipush 700, 3) := by decide +kernel
theorem dX3_readCommands_6 : decode cX3_readCommands 6 = .ok (.if_icmp .gt 43, 3) := by decide +kernel
theorem dX3_readCommands_9 : decode cX3_readCommands 9 = .ok (.aload_n 0, 1) := by decide +kernel
theorem dX3_readCommands_10 : decode cX3_readCommands 10 = .ok (.getfield 49, 3) := by decide +kernel
theorem dX3_readCommands_13 : decode cX3_readCommands 13 = .ok (.iconst 3, 1) := by decide +kernel
theorem dX3_readCommands_14 : decode cX3_readCommands 14 = .ok (.if_icmp .eq 35, 3) := by decide +kernel
theorem dX3_readCommands_17 : decode cX3_readCommands 17 = .ok (.aload_n 0, 1) := by decide +kernel
theorem dX3_readCommands_18 : decode cX3_readCommands 18 = .ok (.invokevirtual 209, 3) := by decide +kernel
theorem dX3_readCommands_21 : decode cX3_readCommands 21 = .ok (.ifCond .eq 10, 3) := by decide +kernel
theorem dX3_readCommands_24 : decode cX3_readCommands 24 = .ok (.aload_n 0, 1) := by decide +kernel
theorem dX3_readCommands_25 : decode cX3_readCommands 25 = .ok (.invokevirtual 103, 3) := by decide +kernel
theorem dX3_readCommands_28 : decode cX3_readCommands 28 = .ok (.ifCond .ne 5, 3) := by decide +kernel
theorem dX3_readCommands_31 : decode cX3_readCommands 31 = .ok (.iconst 0, 1) := by decide +kernel
theorem dX3_readCommands_32 : decode cX3_readCommands 32 = .ok (.ireturn, 1) := by decide +kernel
theorem dX3_readCommands_33 : decode cX3_readCommands 33 = .ok (.aload_n 0, 1) := by decide +kernel
theorem dX3_readCommands_34 : decode cX3_readCommands 34 = .ok (.dup, 1) := by decide +kernel
theorem dX3_readCommands_35 : decode cX3_readCommands 35 = .ok (.getfield 37, 3) := by decide +kernel
theorem dX3_readCommands_38 : decode cX3_readCommands 38 = .ok (.iconst 1, 1) := by decide +kernel
theorem dX3_readCommands_39 : decode cX3_readCommands 39 = .ok (.iadd, 1) := by decide +kernel
theorem dX3_readCommands_40 : decode cX3_readCommands 40 = .ok (.putfield 37, 3) := by decide +kernel
theorem dX3_readCommands_43 : decode cX3_readCommands 43 = .ok (.iinc 1 1, 3) := by decide +kernel
theorem dX3_readCommands_46 : decode cX3_readCommands 46 = .ok (.goto (-44), 3) := by decide +kernel
theorem dX3_readCommands_49 : decode cX3_readCommands 49 = .ok (.iconst 1, 1) := by decide +kernel
theorem dX3_readCommands_50 : decode cX3_readCommands 50 = .ok (.ireturn, 1) := by decide +kernel
theorem bX3_readCommands_0 {d mc ms : Nat} {al : Bool} {bc bs : Nat} {Γ : am_G} {I : am_I} {L : am_L} {Q : am_Q} {v0 : Nat} (kk : am_W m_X3_readCommands d mc ms al bc bs 2 [(0, .ref v0), (1, .int 0)] [] Γ I L Q) : am_W m_X3_readCommands d mc ms al bc bs 0 [(0, .ref v0)] [] Γ I L Q := by
  refine aw_iconst dX3_readCommands_0 ci_0 ?_
  refine aw_istore_n (ls' := [(0, .ref v0), (1, .int 0)]) dX3_readCommands_1 (by decide) rfl ?_
  exact kk
theorem bX3_readCommands_2 {d mc ms : Nat} {al : Bool} {bc bs : Nat} {Γ : am_G} {I : am_I} {L : am_L} {Q : am_Q} {v0 : Nat} {v1 : Int32} (kt : 700 < v1 → am_W m_X3_readCommands d mc ms al bc bs 49 [(0, .ref v0), (1, .int v1)] [] Γ I L Q) (kf : ¬ 700 < v1 → am_W m_X3_readCommands d mc ms al bc bs 9 [(0, .ref v0), (1, .int v1)] [] Γ I L Q) : am_W m_X3_readCommands d mc ms al bc bs 2 [(0, .ref v0), (1, .int v1)] [] Γ I L Q := by
  refine aw_iload_n dX3_readCommands_2 rfl ?_
  refine aw_sipush dX3_readCommands_3 cs_700 ?_
  exact aw_icmp_gt dX3_readCommands_6 (by decide) kt kf
theorem bX3_readCommands_9 {d mc ms : Nat} {al : Bool} {bc bs : Nat} {Γ : am_G} {I : am_I} {L : am_L} {Q : am_Q} {v0 : Nat} {v1 : Int32} (o1 : am_ob Γ v0 3) (kt : (I v0 7) = 3 → am_W m_X3_readCommands d mc ms al bc bs 49 [(0, .ref v0), (1, .int v1)] [] Γ I L Q) (kf : ¬ (I v0 7) = 3 → am_W m_X3_readCommands d mc ms al bc bs 17 [(0, .ref v0), (1, .int v1)] [] Γ I L Q) : am_W m_X3_readCommands d mc ms al bc bs 9 [(0, .ref v0), (1, .int v1)] [] Γ I L Q := by
  refine aw_aload_n dX3_readCommands_9 rfl ?_
  refine aw_getI dX3_readCommands_10 f_X3_49 o1 rfl ?_
  refine aw_iconst dX3_readCommands_13 ci_3 ?_
  exact aw_icmp_eq dX3_readCommands_14 (by decide) kt kf
theorem bX3_readCommands_17 {d mc ms : Nat} {al : Bool} {bc bs : Nat} {Γ : am_G} {I : am_I} {L : am_L} {Q : am_Q} {v0 : Nat} {v1 : Int32} {I' : am_I} {L' : am_L} {mc' : Nat} {ms' : Nat} {r : Int32} (o1 : am_ob Γ v0 3) (hbc : mc' ≤ bc) (hbs : ms' ≤ bs) (hC : am_E m_X3_readCommand d mc' ms' [.ref v0] Γ I L (.inl (some (.int r))) I' L') (kk : am_W m_X3_readCommands (d + 1) mc ms al (bc - mc') (bs - ms') 21 [(0, .ref v0), (1, .int v1)] [.int r] Γ I' L' Q) : am_W m_X3_readCommands (d + 1) mc ms al bc bs 17 [(0, .ref v0), (1, .int v1)] [] Γ I L Q := by
  refine aw_aload_n dX3_readCommands_17 rfl ?_
  exact aw_askV (as := []) (rst := []) k_X3_readCommand l_X3_209 i_X3_readCommand s_X3_readCommand rfl o1 dX3_readCommands_18 rfl (Nat.le_of_ble_eq_true rfl) hbc hbs hC rfl rfl kk
theorem bX3_readCommands_21 {d mc ms : Nat} {al : Bool} {bc bs : Nat} {Γ : am_G} {I : am_I} {L : am_L} {Q : am_Q} {v0 : Nat} {v1 : Int32} {w0 : Int32} (kt : w0 = 0 → am_W m_X3_readCommands d mc ms al bc bs 31 [(0, .ref v0), (1, .int v1)] [] Γ I L Q) (kf : ¬ w0 = 0 → am_W m_X3_readCommands d mc ms al bc bs 24 [(0, .ref v0), (1, .int v1)] [] Γ I L Q) : am_W m_X3_readCommands d mc ms al bc bs 21 [(0, .ref v0), (1, .int v1)] [.int w0] Γ I L Q := by
  exact aw_if_eq dX3_readCommands_21 (by decide) kt kf
theorem bX3_readCommands_24 {d mc ms : Nat} {al : Bool} {bc bs : Nat} {Γ : am_G} {I : am_I} {L : am_L} {Q : am_Q} {v0 : Nat} {v1 : Int32} {I' : am_I} {L' : am_L} {mc' : Nat} {ms' : Nat} {r : Int32} (o1 : am_ob Γ v0 3) (hbc : mc' ≤ bc) (hbs : ms' ≤ bs) (hC : am_E m_X3_takeSemicolon d mc' ms' [.ref v0] Γ I L (.inl (some (.int r))) I' L') (kk : am_W m_X3_readCommands (d + 1) mc ms al (bc - mc') (bs - ms') 28 [(0, .ref v0), (1, .int v1)] [.int r] Γ I' L' Q) : am_W m_X3_readCommands (d + 1) mc ms al bc bs 24 [(0, .ref v0), (1, .int v1)] [] Γ I L Q := by
  refine aw_aload_n dX3_readCommands_24 rfl ?_
  exact aw_askV (as := []) (rst := []) k_X3_takeSemicolon l_X3_103 i_X3_takeSemicolon s_X3_takeSemicolon rfl o1 dX3_readCommands_25 rfl (Nat.le_of_ble_eq_true rfl) hbc hbs hC rfl rfl kk
theorem bX3_readCommands_28 {d mc ms : Nat} {al : Bool} {bc bs : Nat} {Γ : am_G} {I : am_I} {L : am_L} {Q : am_Q} {v0 : Nat} {v1 : Int32} {w0 : Int32} (kt : ¬ w0 = 0 → am_W m_X3_readCommands d mc ms al bc bs 33 [(0, .ref v0), (1, .int v1)] [] Γ I L Q) (kf : w0 = 0 → am_W m_X3_readCommands d mc ms al bc bs 31 [(0, .ref v0), (1, .int v1)] [] Γ I L Q) : am_W m_X3_readCommands d mc ms al bc bs 28 [(0, .ref v0), (1, .int v1)] [.int w0] Γ I L Q := by
  exact aw_if_ne dX3_readCommands_28 (by decide) kt kf
theorem bX3_readCommands_31 {d mc ms : Nat} {al : Bool} {bc bs : Nat} {Γ : am_G} {I : am_I} {L : am_L} {Q : am_Q} {v0 : Nat} {v1 : Int32} (hq : Q (.inl (some (.int 0))) Γ I L) : am_W m_X3_readCommands d mc ms al bc bs 31 [(0, .ref v0), (1, .int v1)] [] Γ I L Q := by
  refine aw_iconst dX3_readCommands_31 ci_0 ?_
  exact aw_zret (ty := .boolean) dX3_readCommands_32 rfl rfl hq
theorem bX3_readCommands_33 {d mc ms : Nat} {al : Bool} {bc bs : Nat} {Γ : am_G} {I : am_I} {L : am_L} {Q : am_Q} {v0 : Nat} {v1 : Int32} (o1 : am_ob Γ v0 3) (kk : am_W m_X3_readCommands d mc ms al bc bs 2 [(0, .ref v0), (1, .int (v1 + 1))] [] Γ (am_u I v0 4 ((I v0 4) + 1)) L Q) : am_W m_X3_readCommands d mc ms al bc bs 33 [(0, .ref v0), (1, .int v1)] [] Γ I L Q := by
  refine aw_aload_n dX3_readCommands_33 rfl ?_
  refine aw_dup dX3_readCommands_34 rfl ?_
  refine aw_getI dX3_readCommands_35 f_X3_37 o1 rfl ?_
  refine aw_iconst dX3_readCommands_38 ci_1 ?_
  refine aw_iadd dX3_readCommands_39 ?_
  refine aw_putI dX3_readCommands_40 p_X3_37 o1 rfl ?_
  refine aw_iinc (ls' := [(0, .ref v0), (1, .int (v1 + 1))]) dX3_readCommands_43 rfl (cn_1 _) (by decide) rfl ?_
  exact aw_goto dX3_readCommands_46 (by decide) kk
theorem bX3_readCommands_49 {d mc ms : Nat} {al : Bool} {bc bs : Nat} {Γ : am_G} {I : am_I} {L : am_L} {Q : am_Q} {v0 : Nat} {v1 : Int32} (hq : Q (.inl (some (.int 1))) Γ I L) : am_W m_X3_readCommands d mc ms al bc bs 49 [(0, .ref v0), (1, .int v1)] [] Γ I L Q := by
  refine aw_iconst dX3_readCommands_49 ci_1 ?_
  exact aw_zret (ty := .boolean) dX3_readCommands_50 rfl rfl hq
theorem dX3_readCommand_0 : decode cX3_readCommand 0 = .ok (.aload_n 0, 1) := by decide +kernel
theorem dX3_readCommand_1 : decode cX3_readCommand 1 = .ok (.ldc 212, 2) := by decide +kernel
theorem dX3_readCommand_3 : decode cX3_readCommand 3 = .ok (.invokevirtual 79, 3) := by decide +kernel
theorem dX3_readCommand_6 : decode cX3_readCommand 6 = .ok (.ifCond .eq 8, 3) := by decide +kernel
theorem dX3_readCommand_9 : decode cX3_readCommand 9 = .ok (.aload_n 0, 1) := by decide +kernel
theorem dX3_readCommand_10 : decode cX3_readCommand 10 = .ok (.invokevirtual 214, 3) := by decide +kernel
theorem dX3_readCommand_13 : decode cX3_readCommand 13 = .ok (.ireturn, 1) := by decide +kernel
theorem dX3_readCommand_14 : decode cX3_readCommand 14 = .ok (.aload_n 0, 1) := by decide +kernel
theorem dX3_readCommand_15 : decode cX3_readCommand 15 = .ok (.ldc 217, 2) := by decide +kernel
theorem dX3_readCommand_17 : decode cX3_readCommand 17 = .ok (.invokevirtual 79, 3) := by decide +kernel
theorem dX3_readCommand_20 : decode cX3_readCommand 20 = .ok (.ifCond .eq 8, 3) := by decide +kernel
theorem dX3_readCommand_23 : decode cX3_readCommand 23 = .ok (.aload_n 0, 1) := by decide +kernel
theorem dX3_readCommand_24 : decode cX3_readCommand 24 = .ok (.invokevirtual 219, 3) := by decide +kernel
theorem dX3_readCommand_27 : decode cX3_readCommand 27 = .ok (.ireturn, 1) := by decide +kernel
theorem dX3_readCommand_28 : decode cX3_readCommand 28 = .ok (.aload_n 0, 1) := by decide +kernel
theorem dX3_readCommand_29 : decode cX3_readCommand 29 = .ok (.ldc 222, 2) := by decide +kernel
theorem dX3_readCommand_31 : decode cX3_readCommand 31 = .ok (.invokevirtual 79, 3) := by decide +kernel
theorem dX3_readCommand_34 : decode cX3_readCommand 34 = .ok (.ifCond .eq 8, 3) := by decide +kernel
theorem dX3_readCommand_37 : decode cX3_readCommand 37 = .ok (.aload_n 0, 1) := by decide +kernel
theorem dX3_readCommand_38 : decode cX3_readCommand 38 = .ok (.invokevirtual 224, 3) := by decide +kernel
theorem dX3_readCommand_41 : decode cX3_readCommand 41 = .ok (.ireturn, 1) := by decide +kernel
theorem dX3_readCommand_42 : decode cX3_readCommand 42 = .ok (.aload_n 0, 1) := by decide +kernel
theorem dX3_readCommand_43 : decode cX3_readCommand 43 = .ok (.ldc 227, 2) := by decide +kernel
theorem dX3_readCommand_45 : decode cX3_readCommand 45 = .ok (.invokevirtual 79, 3) := by decide +kernel
theorem dX3_readCommand_48 : decode cX3_readCommand 48 = .ok (.ifCond .eq 8, 3) := by decide +kernel
theorem dX3_readCommand_51 : decode cX3_readCommand 51 = .ok (.aload_n 0, 1) := by decide +kernel
theorem dX3_readCommand_52 : decode cX3_readCommand 52 = .ok (.invokevirtual 229, 3) := by decide +kernel
theorem dX3_readCommand_55 : decode cX3_readCommand 55 = .ok (.ireturn, 1) := by decide +kernel
theorem dX3_readCommand_56 : decode cX3_readCommand 56 = .ok (.aload_n 0, 1) := by decide +kernel
theorem dX3_readCommand_57 : decode cX3_readCommand 57 = .ok (.ldc 232, 2) := by decide +kernel
theorem dX3_readCommand_59 : decode cX3_readCommand 59 = .ok (.invokevirtual 79, 3) := by decide +kernel
theorem dX3_readCommand_62 : decode cX3_readCommand 62 = .ok (.ifCond .eq 8, 3) := by decide +kernel
theorem dX3_readCommand_65 : decode cX3_readCommand 65 = .ok (.aload_n 0, 1) := by decide +kernel
theorem dX3_readCommand_66 : decode cX3_readCommand 66 = .ok (.invokevirtual 233, 3) := by decide +kernel
theorem dX3_readCommand_69 : decode cX3_readCommand 69 = .ok (.ireturn, 1) := by decide +kernel
theorem dX3_readCommand_70 : decode cX3_readCommand 70 = .ok (.aload_n 0, 1) := by decide +kernel
theorem dX3_readCommand_71 : decode cX3_readCommand 71 = .ok (.ldc 236, 2) := by decide +kernel
theorem dX3_readCommand_73 : decode cX3_readCommand 73 = .ok (.invokevirtual 79, 3) := by decide +kernel
theorem dX3_readCommand_76 : decode cX3_readCommand 76 = .ok (.ifCond .eq 8, 3) := by decide +kernel
theorem dX3_readCommand_79 : decode cX3_readCommand 79 = .ok (.aload_n 0, 1) := by decide +kernel
theorem dX3_readCommand_80 : decode cX3_readCommand 80 = .ok (.invokevirtual 238, 3) := by decide +kernel
theorem dX3_readCommand_83 : decode cX3_readCommand 83 = .ok (.ireturn, 1) := by decide +kernel
theorem dX3_readCommand_84 : decode cX3_readCommand 84 = .ok (.aload_n 0, 1) := by decide +kernel
theorem dX3_readCommand_85 : decode cX3_readCommand 85 = .ok (.iconst 1, 1) := by decide +kernel
theorem dX3_readCommand_86 : decode cX3_readCommand 86 = .ok (.invokevirtual 83, 3) := by decide +kernel
theorem dX3_readCommand_89 : decode cX3_readCommand 89 = .ok (.ireturn, 1) := by decide +kernel
theorem bX3_readCommand_0 {d mc ms : Nat} {al : Bool} {bc bs : Nat} {Γ : am_G} {I : am_I} {L : am_L} {Q : am_Q} {v0 : Nat} {I' : am_I} {L' : am_L} {mc' : Nat} {ms' : Nat} {r : Int32} (o1 : am_ob Γ v0 3) (hbc : mc' ≤ bc) (hbs : ms' ≤ bs) (hC : am_E m_X3_isWord d mc' ms' [.ref v0, .retAddr 5] Γ I L (.inl (some (.int r))) I' L') (kk : am_W m_X3_readCommand (d + 1) mc ms al (bc - mc') (bs - ms') 6 [(0, .ref v0)] [.int r] Γ I' L' Q) : am_W m_X3_readCommand (d + 1) mc ms al bc bs 0 [(0, .ref v0)] [] Γ I L Q := by
  refine aw_aload_n dX3_readCommand_0 rfl ?_
  refine aw_ldcT dX3_readCommand_1 (i := 5) tx_X3_212 ?_
  exact aw_askV (as := [.retAddr 5]) (rst := []) k_X3_isWord l_X3_79 i_X3_isWord s_X3_isWord rfl o1 dX3_readCommand_3 rfl (Nat.le_of_ble_eq_true rfl) hbc hbs hC rfl rfl kk
theorem bX3_readCommand_6 {d mc ms : Nat} {al : Bool} {bc bs : Nat} {Γ : am_G} {I : am_I} {L : am_L} {Q : am_Q} {v0 : Nat} {w0 : Int32} (kt : w0 = 0 → am_W m_X3_readCommand d mc ms al bc bs 14 [(0, .ref v0)] [] Γ I L Q) (kf : ¬ w0 = 0 → am_W m_X3_readCommand d mc ms al bc bs 9 [(0, .ref v0)] [] Γ I L Q) : am_W m_X3_readCommand d mc ms al bc bs 6 [(0, .ref v0)] [.int w0] Γ I L Q := by
  exact aw_if_eq dX3_readCommand_6 (by decide) kt kf
theorem bX3_readCommand_9 {d mc ms : Nat} {al : Bool} {bc bs : Nat} {Γ : am_G} {I : am_I} {L : am_L} {Q : am_Q} {v0 : Nat} {I' : am_I} {L' : am_L} {mc' : Nat} {ms' : Nat} {r : Int32} (o1 : am_ob Γ v0 3) (hbc : mc' ≤ bc) (hbs : ms' ≤ bs) (hC : am_E m_X3_readPass d mc' ms' [.ref v0] Γ I L (.inl (some (.int r))) I' L') (kk : am_W m_X3_readCommand (d + 1) mc ms al (bc - mc') (bs - ms') 13 [(0, .ref v0)] [.int r] Γ I' L' Q) : am_W m_X3_readCommand (d + 1) mc ms al bc bs 9 [(0, .ref v0)] [] Γ I L Q := by
  refine aw_aload_n dX3_readCommand_9 rfl ?_
  exact aw_askV (as := []) (rst := []) k_X3_readPass l_X3_214 i_X3_readPass s_X3_readPass rfl o1 dX3_readCommand_10 rfl (Nat.le_of_ble_eq_true rfl) hbc hbs hC rfl rfl kk
theorem bX3_readCommand_13 {d mc ms : Nat} {al : Bool} {bc bs : Nat} {Γ : am_G} {I : am_I} {L : am_L} {Q : am_Q} {v0 : Nat} {w0 : Int32} (hz : narrow .boolean (.int w0) = .int w0) (hq : Q (.inl (some (.int w0))) Γ I L) : am_W m_X3_readCommand d mc ms al bc bs 13 [(0, .ref v0)] [.int w0] Γ I L Q := by
  exact aw_zret (ty := .boolean) dX3_readCommand_13 rfl hz hq
theorem bX3_readCommand_14 {d mc ms : Nat} {al : Bool} {bc bs : Nat} {Γ : am_G} {I : am_I} {L : am_L} {Q : am_Q} {v0 : Nat} {I' : am_I} {L' : am_L} {mc' : Nat} {ms' : Nat} {r : Int32} (o1 : am_ob Γ v0 3) (hbc : mc' ≤ bc) (hbs : ms' ≤ bs) (hC : am_E m_X3_isWord d mc' ms' [.ref v0, .retAddr 6] Γ I L (.inl (some (.int r))) I' L') (kk : am_W m_X3_readCommand (d + 1) mc ms al (bc - mc') (bs - ms') 20 [(0, .ref v0)] [.int r] Γ I' L' Q) : am_W m_X3_readCommand (d + 1) mc ms al bc bs 14 [(0, .ref v0)] [] Γ I L Q := by
  refine aw_aload_n dX3_readCommand_14 rfl ?_
  refine aw_ldcT dX3_readCommand_15 (i := 6) tx_X3_217 ?_
  exact aw_askV (as := [.retAddr 6]) (rst := []) k_X3_isWord l_X3_79 i_X3_isWord s_X3_isWord rfl o1 dX3_readCommand_17 rfl (Nat.le_of_ble_eq_true rfl) hbc hbs hC rfl rfl kk
theorem bX3_readCommand_20 {d mc ms : Nat} {al : Bool} {bc bs : Nat} {Γ : am_G} {I : am_I} {L : am_L} {Q : am_Q} {v0 : Nat} {w0 : Int32} (kt : w0 = 0 → am_W m_X3_readCommand d mc ms al bc bs 28 [(0, .ref v0)] [] Γ I L Q) (kf : ¬ w0 = 0 → am_W m_X3_readCommand d mc ms al bc bs 23 [(0, .ref v0)] [] Γ I L Q) : am_W m_X3_readCommand d mc ms al bc bs 20 [(0, .ref v0)] [.int w0] Γ I L Q := by
  exact aw_if_eq dX3_readCommand_20 (by decide) kt kf
theorem bX3_readCommand_23 {d mc ms : Nat} {al : Bool} {bc bs : Nat} {Γ : am_G} {I : am_I} {L : am_L} {Q : am_Q} {v0 : Nat} {I' : am_I} {L' : am_L} {mc' : Nat} {ms' : Nat} {r : Int32} (o1 : am_ob Γ v0 3) (hbc : mc' ≤ bc) (hbs : ms' ≤ bs) (hC : am_E m_X3_readBuild d mc' ms' [.ref v0] Γ I L (.inl (some (.int r))) I' L') (kk : am_W m_X3_readCommand (d + 1) mc ms al (bc - mc') (bs - ms') 27 [(0, .ref v0)] [.int r] Γ I' L' Q) : am_W m_X3_readCommand (d + 1) mc ms al bc bs 23 [(0, .ref v0)] [] Γ I L Q := by
  refine aw_aload_n dX3_readCommand_23 rfl ?_
  exact aw_askV (as := []) (rst := []) k_X3_readBuild l_X3_219 i_X3_readBuild s_X3_readBuild rfl o1 dX3_readCommand_24 rfl (Nat.le_of_ble_eq_true rfl) hbc hbs hC rfl rfl kk
theorem bX3_readCommand_27 {d mc ms : Nat} {al : Bool} {bc bs : Nat} {Γ : am_G} {I : am_I} {L : am_L} {Q : am_Q} {v0 : Nat} {w0 : Int32} (hz : narrow .boolean (.int w0) = .int w0) (hq : Q (.inl (some (.int w0))) Γ I L) : am_W m_X3_readCommand d mc ms al bc bs 27 [(0, .ref v0)] [.int w0] Γ I L Q := by
  exact aw_zret (ty := .boolean) dX3_readCommand_27 rfl hz hq
theorem bX3_readCommand_28 {d mc ms : Nat} {al : Bool} {bc bs : Nat} {Γ : am_G} {I : am_I} {L : am_L} {Q : am_Q} {v0 : Nat} {I' : am_I} {L' : am_L} {mc' : Nat} {ms' : Nat} {r : Int32} (o1 : am_ob Γ v0 3) (hbc : mc' ≤ bc) (hbs : ms' ≤ bs) (hC : am_E m_X3_isWord d mc' ms' [.ref v0, .retAddr 7] Γ I L (.inl (some (.int r))) I' L') (kk : am_W m_X3_readCommand (d + 1) mc ms al (bc - mc') (bs - ms') 34 [(0, .ref v0)] [.int r] Γ I' L' Q) : am_W m_X3_readCommand (d + 1) mc ms al bc bs 28 [(0, .ref v0)] [] Γ I L Q := by
  refine aw_aload_n dX3_readCommand_28 rfl ?_
  refine aw_ldcT dX3_readCommand_29 (i := 7) tx_X3_222 ?_
  exact aw_askV (as := [.retAddr 7]) (rst := []) k_X3_isWord l_X3_79 i_X3_isWord s_X3_isWord rfl o1 dX3_readCommand_31 rfl (Nat.le_of_ble_eq_true rfl) hbc hbs hC rfl rfl kk
theorem bX3_readCommand_34 {d mc ms : Nat} {al : Bool} {bc bs : Nat} {Γ : am_G} {I : am_I} {L : am_L} {Q : am_Q} {v0 : Nat} {w0 : Int32} (kt : w0 = 0 → am_W m_X3_readCommand d mc ms al bc bs 42 [(0, .ref v0)] [] Γ I L Q) (kf : ¬ w0 = 0 → am_W m_X3_readCommand d mc ms al bc bs 37 [(0, .ref v0)] [] Γ I L Q) : am_W m_X3_readCommand d mc ms al bc bs 34 [(0, .ref v0)] [.int w0] Γ I L Q := by
  exact aw_if_eq dX3_readCommand_34 (by decide) kt kf
theorem bX3_readCommand_37 {d mc ms : Nat} {al : Bool} {bc bs : Nat} {Γ : am_G} {I : am_I} {L : am_L} {Q : am_Q} {v0 : Nat} {I' : am_I} {L' : am_L} {mc' : Nat} {ms' : Nat} {r : Int32} (o1 : am_ob Γ v0 3) (hbc : mc' ≤ bc) (hbs : ms' ≤ bs) (hC : am_E m_X3_readHalve d mc' ms' [.ref v0] Γ I L (.inl (some (.int r))) I' L') (kk : am_W m_X3_readCommand (d + 1) mc ms al (bc - mc') (bs - ms') 41 [(0, .ref v0)] [.int r] Γ I' L' Q) : am_W m_X3_readCommand (d + 1) mc ms al bc bs 37 [(0, .ref v0)] [] Γ I L Q := by
  refine aw_aload_n dX3_readCommand_37 rfl ?_
  exact aw_askV (as := []) (rst := []) k_X3_readHalve l_X3_224 i_X3_readHalve s_X3_readHalve rfl o1 dX3_readCommand_38 rfl (Nat.le_of_ble_eq_true rfl) hbc hbs hC rfl rfl kk
theorem bX3_readCommand_41 {d mc ms : Nat} {al : Bool} {bc bs : Nat} {Γ : am_G} {I : am_I} {L : am_L} {Q : am_Q} {v0 : Nat} {w0 : Int32} (hz : narrow .boolean (.int w0) = .int w0) (hq : Q (.inl (some (.int w0))) Γ I L) : am_W m_X3_readCommand d mc ms al bc bs 41 [(0, .ref v0)] [.int w0] Γ I L Q := by
  exact aw_zret (ty := .boolean) dX3_readCommand_41 rfl hz hq
theorem bX3_readCommand_42 {d mc ms : Nat} {al : Bool} {bc bs : Nat} {Γ : am_G} {I : am_I} {L : am_L} {Q : am_Q} {v0 : Nat} {I' : am_I} {L' : am_L} {mc' : Nat} {ms' : Nat} {r : Int32} (o1 : am_ob Γ v0 3) (hbc : mc' ≤ bc) (hbs : ms' ≤ bs) (hC : am_E m_X3_isWord d mc' ms' [.ref v0, .retAddr 8] Γ I L (.inl (some (.int r))) I' L') (kk : am_W m_X3_readCommand (d + 1) mc ms al (bc - mc') (bs - ms') 48 [(0, .ref v0)] [.int r] Γ I' L' Q) : am_W m_X3_readCommand (d + 1) mc ms al bc bs 42 [(0, .ref v0)] [] Γ I L Q := by
  refine aw_aload_n dX3_readCommand_42 rfl ?_
  refine aw_ldcT dX3_readCommand_43 (i := 8) tx_X3_227 ?_
  exact aw_askV (as := [.retAddr 8]) (rst := []) k_X3_isWord l_X3_79 i_X3_isWord s_X3_isWord rfl o1 dX3_readCommand_45 rfl (Nat.le_of_ble_eq_true rfl) hbc hbs hC rfl rfl kk
theorem bX3_readCommand_48 {d mc ms : Nat} {al : Bool} {bc bs : Nat} {Γ : am_G} {I : am_I} {L : am_L} {Q : am_Q} {v0 : Nat} {w0 : Int32} (kt : w0 = 0 → am_W m_X3_readCommand d mc ms al bc bs 56 [(0, .ref v0)] [] Γ I L Q) (kf : ¬ w0 = 0 → am_W m_X3_readCommand d mc ms al bc bs 51 [(0, .ref v0)] [] Γ I L Q) : am_W m_X3_readCommand d mc ms al bc bs 48 [(0, .ref v0)] [.int w0] Γ I L Q := by
  exact aw_if_eq dX3_readCommand_48 (by decide) kt kf
theorem bX3_readCommand_51 {d mc ms : Nat} {al : Bool} {bc bs : Nat} {Γ : am_G} {I : am_I} {L : am_L} {Q : am_Q} {v0 : Nat} {I' : am_I} {L' : am_L} {mc' : Nat} {ms' : Nat} {r : Int32} (o1 : am_ob Γ v0 3) (hbc : mc' ≤ bc) (hbs : ms' ≤ bs) (hC : am_E m_X3_readToll d mc' ms' [.ref v0] Γ I L (.inl (some (.int r))) I' L') (kk : am_W m_X3_readCommand (d + 1) mc ms al (bc - mc') (bs - ms') 55 [(0, .ref v0)] [.int r] Γ I' L' Q) : am_W m_X3_readCommand (d + 1) mc ms al bc bs 51 [(0, .ref v0)] [] Γ I L Q := by
  refine aw_aload_n dX3_readCommand_51 rfl ?_
  exact aw_askV (as := []) (rst := []) k_X3_readToll l_X3_229 i_X3_readToll s_X3_readToll rfl o1 dX3_readCommand_52 rfl (Nat.le_of_ble_eq_true rfl) hbc hbs hC rfl rfl kk
theorem bX3_readCommand_55 {d mc ms : Nat} {al : Bool} {bc bs : Nat} {Γ : am_G} {I : am_I} {L : am_L} {Q : am_Q} {v0 : Nat} {w0 : Int32} (hz : narrow .boolean (.int w0) = .int w0) (hq : Q (.inl (some (.int w0))) Γ I L) : am_W m_X3_readCommand d mc ms al bc bs 55 [(0, .ref v0)] [.int w0] Γ I L Q := by
  exact aw_zret (ty := .boolean) dX3_readCommand_55 rfl hz hq
theorem bX3_readCommand_56 {d mc ms : Nat} {al : Bool} {bc bs : Nat} {Γ : am_G} {I : am_I} {L : am_L} {Q : am_Q} {v0 : Nat} {I' : am_I} {L' : am_L} {mc' : Nat} {ms' : Nat} {r : Int32} (o1 : am_ob Γ v0 3) (hbc : mc' ≤ bc) (hbs : ms' ≤ bs) (hC : am_E m_X3_isWord d mc' ms' [.ref v0, .retAddr 9] Γ I L (.inl (some (.int r))) I' L') (kk : am_W m_X3_readCommand (d + 1) mc ms al (bc - mc') (bs - ms') 62 [(0, .ref v0)] [.int r] Γ I' L' Q) : am_W m_X3_readCommand (d + 1) mc ms al bc bs 56 [(0, .ref v0)] [] Γ I L Q := by
  refine aw_aload_n dX3_readCommand_56 rfl ?_
  refine aw_ldcT dX3_readCommand_57 (i := 9) tx_X3_232 ?_
  exact aw_askV (as := [.retAddr 9]) (rst := []) k_X3_isWord l_X3_79 i_X3_isWord s_X3_isWord rfl o1 dX3_readCommand_59 rfl (Nat.le_of_ble_eq_true rfl) hbc hbs hC rfl rfl kk
theorem bX3_readCommand_62 {d mc ms : Nat} {al : Bool} {bc bs : Nat} {Γ : am_G} {I : am_I} {L : am_L} {Q : am_Q} {v0 : Nat} {w0 : Int32} (kt : w0 = 0 → am_W m_X3_readCommand d mc ms al bc bs 70 [(0, .ref v0)] [] Γ I L Q) (kf : ¬ w0 = 0 → am_W m_X3_readCommand d mc ms al bc bs 65 [(0, .ref v0)] [] Γ I L Q) : am_W m_X3_readCommand d mc ms al bc bs 62 [(0, .ref v0)] [.int w0] Γ I L Q := by
  exact aw_if_eq dX3_readCommand_62 (by decide) kt kf
theorem bX3_readCommand_65 {d mc ms : Nat} {al : Bool} {bc bs : Nat} {Γ : am_G} {I : am_I} {L : am_L} {Q : am_Q} {v0 : Nat} {I' : am_I} {L' : am_L} {mc' : Nat} {ms' : Nat} {r : Int32} (o1 : am_ob Γ v0 3) (hbc : mc' ≤ bc) (hbs : ms' ≤ bs) (hC : am_E m_X3_readLimit d mc' ms' [.ref v0] Γ I L (.inl (some (.int r))) I' L') (kk : am_W m_X3_readCommand (d + 1) mc ms al (bc - mc') (bs - ms') 69 [(0, .ref v0)] [.int r] Γ I' L' Q) : am_W m_X3_readCommand (d + 1) mc ms al bc bs 65 [(0, .ref v0)] [] Γ I L Q := by
  refine aw_aload_n dX3_readCommand_65 rfl ?_
  exact aw_askV (as := []) (rst := []) k_X3_readLimit l_X3_233 i_X3_readLimit s_X3_readLimit rfl o1 dX3_readCommand_66 rfl (Nat.le_of_ble_eq_true rfl) hbc hbs hC rfl rfl kk
theorem bX3_readCommand_69 {d mc ms : Nat} {al : Bool} {bc bs : Nat} {Γ : am_G} {I : am_I} {L : am_L} {Q : am_Q} {v0 : Nat} {w0 : Int32} (hz : narrow .boolean (.int w0) = .int w0) (hq : Q (.inl (some (.int w0))) Γ I L) : am_W m_X3_readCommand d mc ms al bc bs 69 [(0, .ref v0)] [.int w0] Γ I L Q := by
  exact aw_zret (ty := .boolean) dX3_readCommand_69 rfl hz hq
theorem bX3_readCommand_70 {d mc ms : Nat} {al : Bool} {bc bs : Nat} {Γ : am_G} {I : am_I} {L : am_L} {Q : am_Q} {v0 : Nat} {I' : am_I} {L' : am_L} {mc' : Nat} {ms' : Nat} {r : Int32} (o1 : am_ob Γ v0 3) (hbc : mc' ≤ bc) (hbs : ms' ≤ bs) (hC : am_E m_X3_isWord d mc' ms' [.ref v0, .retAddr 10] Γ I L (.inl (some (.int r))) I' L') (kk : am_W m_X3_readCommand (d + 1) mc ms al (bc - mc') (bs - ms') 76 [(0, .ref v0)] [.int r] Γ I' L' Q) : am_W m_X3_readCommand (d + 1) mc ms al bc bs 70 [(0, .ref v0)] [] Γ I L Q := by
  refine aw_aload_n dX3_readCommand_70 rfl ?_
  refine aw_ldcT dX3_readCommand_71 (i := 10) tx_X3_236 ?_
  exact aw_askV (as := [.retAddr 10]) (rst := []) k_X3_isWord l_X3_79 i_X3_isWord s_X3_isWord rfl o1 dX3_readCommand_73 rfl (Nat.le_of_ble_eq_true rfl) hbc hbs hC rfl rfl kk
theorem bX3_readCommand_76 {d mc ms : Nat} {al : Bool} {bc bs : Nat} {Γ : am_G} {I : am_I} {L : am_L} {Q : am_Q} {v0 : Nat} {w0 : Int32} (kt : w0 = 0 → am_W m_X3_readCommand d mc ms al bc bs 84 [(0, .ref v0)] [] Γ I L Q) (kf : ¬ w0 = 0 → am_W m_X3_readCommand d mc ms al bc bs 79 [(0, .ref v0)] [] Γ I L Q) : am_W m_X3_readCommand d mc ms al bc bs 76 [(0, .ref v0)] [.int w0] Γ I L Q := by
  exact aw_if_eq dX3_readCommand_76 (by decide) kt kf
theorem bX3_readCommand_79 {d mc ms : Nat} {al : Bool} {bc bs : Nat} {Γ : am_G} {I : am_I} {L : am_L} {Q : am_Q} {v0 : Nat} {I' : am_I} {L' : am_L} {mc' : Nat} {ms' : Nat} {r : Int32} (o1 : am_ob Γ v0 3) (hbc : mc' ≤ bc) (hbs : ms' ≤ bs) (hC : am_E m_X3_readHours d mc' ms' [.ref v0] Γ I L (.inl (some (.int r))) I' L') (kk : am_W m_X3_readCommand (d + 1) mc ms al (bc - mc') (bs - ms') 83 [(0, .ref v0)] [.int r] Γ I' L' Q) : am_W m_X3_readCommand (d + 1) mc ms al bc bs 79 [(0, .ref v0)] [] Γ I L Q := by
  refine aw_aload_n dX3_readCommand_79 rfl ?_
  exact aw_askV (as := []) (rst := []) k_X3_readHours l_X3_238 i_X3_readHours s_X3_readHours rfl o1 dX3_readCommand_80 rfl (Nat.le_of_ble_eq_true rfl) hbc hbs hC rfl rfl kk
theorem bX3_readCommand_83 {d mc ms : Nat} {al : Bool} {bc bs : Nat} {Γ : am_G} {I : am_I} {L : am_L} {Q : am_Q} {v0 : Nat} {w0 : Int32} (hz : narrow .boolean (.int w0) = .int w0) (hq : Q (.inl (some (.int w0))) Γ I L) : am_W m_X3_readCommand d mc ms al bc bs 83 [(0, .ref v0)] [.int w0] Γ I L Q := by
  exact aw_zret (ty := .boolean) dX3_readCommand_83 rfl hz hq
theorem bX3_readCommand_84 {d mc ms : Nat} {al : Bool} {bc bs : Nat} {Γ : am_G} {I : am_I} {L : am_L} {Q : am_Q} {v0 : Nat} {I' : am_I} {L' : am_L} {mc' : Nat} {ms' : Nat} {r : Int32} (o1 : am_ob Γ v0 3) (hbc : mc' ≤ bc) (hbs : ms' ≤ bs) (hC : am_E m_X3_fail d mc' ms' [.ref v0, .int 1] Γ I L (.inl (some (.int r))) I' L') (kk : am_W m_X3_readCommand (d + 1) mc ms al (bc - mc') (bs - ms') 89 [(0, .ref v0)] [.int r] Γ I' L' Q) : am_W m_X3_readCommand (d + 1) mc ms al bc bs 84 [(0, .ref v0)] [] Γ I L Q := by
  refine aw_aload_n dX3_readCommand_84 rfl ?_
  refine aw_iconst dX3_readCommand_85 ci_1 ?_
  exact aw_askV (as := [.int 1]) (rst := []) k_X3_fail l_X3_83 i_X3_fail s_X3_fail rfl o1 dX3_readCommand_86 rfl (Nat.le_of_ble_eq_true rfl) hbc hbs hC rfl rfl kk
theorem bX3_readCommand_89 {d mc ms : Nat} {al : Bool} {bc bs : Nat} {Γ : am_G} {I : am_I} {L : am_L} {Q : am_Q} {v0 : Nat} {w0 : Int32} (hz : narrow .boolean (.int w0) = .int w0) (hq : Q (.inl (some (.int w0))) Γ I L) : am_W m_X3_readCommand d mc ms al bc bs 89 [(0, .ref v0)] [.int w0] Γ I L Q := by
  exact aw_zret (ty := .boolean) dX3_readCommand_89 rfl hz hq
theorem dX3_readPass_0 : decode cX3_readPass 0 = .ok (.aload_n 0, 1) := by decide +kernel
theorem dX3_readPass_1 : decode cX3_readPass 1 = .ok (.invokevirtual 43, 3) := by decide +kernel
theorem dX3_readPass_4 : decode cX3_readPass 4 = .ok (.aload_n 0, 1) := by decide +kernel
theorem dX3_readPass_5 : decode cX3_readPass 5 = .ok (.aload_n 0, 1) := by decide +kernel
theorem dX3_readPass_6 : decode cX3_readPass 6 = .ok (.getfield 19, 3) := by decide +kernel
theorem dX3_readPass_9 : decode cX3_readPass 9 = .ok (.aload_n 0, 1) := by decide +kernel
theorem dX3_readPass_10 : decode cX3_readPass 10 = .ok (.getfield 62, 3) := by decide +kernel
theorem dX3_readPass_13 : decode cX3_readPass 13 = .ok (.invokevirtual 188, 3) := by decide +kernel
theorem dX3_readPass_16 : decode cX3_readPass 16 = .ok (.invokevirtual 241, 3) := by decide +kernel
theorem dX3_readPass_19 : decode cX3_readPass 19 = .ok (.istore_n 1, 1) := by decide +kernel
theorem dX3_readPass_20 : decode cX3_readPass 20 = .ok (.iload_n 1, 1) := by decide +kernel
theorem dX3_readPass_21 : decode cX3_readPass 21 = .ok (.iconst (-1), 1) := by decide +kernel
theorem dX3_readPass_22 : decode cX3_readPass 22 = .ok (.if_icmp .ne 5, 3) := by decide +kernel
theorem dX3_readPass_25 : decode cX3_readPass 25 = .ok (.iconst 0, 1) := by decide +kernel
theorem dX3_readPass_26 : decode cX3_readPass 26 = .ok (.ireturn, 1) := by decide +kernel
theorem dX3_readPass_27 : decode cX3_readPass 27 = .ok (.aload_n 0, 1) := by decide +kernel
theorem dX3_readPass_28 : decode cX3_readPass 28 = .ok (.aload_n 0, 1) := by decide +kernel
theorem dX3_readPass_29 : decode cX3_readPass 29 = .ok (.getfield 19, 3) := by decide +kernel
theorem dX3_readPass_32 : decode cX3_readPass 32 = .ok (.aload_n 0, 1) := by decide +kernel
theorem dX3_readPass_33 : decode cX3_readPass 33 = .ok (.getfield 62, 3) := by decide +kernel
theorem dX3_readPass_36 : decode cX3_readPass 36 = .ok (.invokevirtual 152, 3) := by decide +kernel
theorem dX3_readPass_39 : decode cX3_readPass 39 = .ok (.invokevirtual 241, 3) := by decide +kernel
theorem dX3_readPass_42 : decode cX3_readPass 42 = .ok (.istore_n 2, 1) := by decide +kernel
theorem dX3_readPass_43 : decode cX3_readPass 43 = .ok (.iload_n 2, 1) := by decide +kernel
theorem dX3_readPass_44 : decode cX3_readPass 44 = .ok (.iconst (-1), 1) := by decide +kernel
theorem dX3_readPass_45 : decode cX3_readPass 45 = .ok (.if_icmp .eq 14, 3) := by decide +kernel
theorem dX3_readPass_48 : decode cX3_readPass 48 = .ok (.aload_n 0, 1) := by decide +kernel
theorem dX3_readPass_49 : decode cX3_readPass 49 = .ok (.iconst 1, 1) := by decide +kernel
theorem dX3_readPass_50 : decode cX3_readPass 50 = .ok (.sipush 999, 3) := by decide +kernel
theorem dX3_readPass_53 : decode cX3_readPass 53 = .ok (.invokevirtual 87, 3) := by decide +kernel
theorem dX3_readPass_56 : decode cX3_readPass 56 = .ok (.ifCond .ne 5, 3) := by decide +kernel
theorem dX3_readPass_59 : decode cX3_readPass 59 = .ok (.iconst 0, 1) := by decide +kernel
theorem dX3_readPass_60 : decode cX3_readPass 60 = .ok (.ireturn, 1) := by decide +kernel
theorem dX3_readPass_61 : decode cX3_readPass 61 = .ok (.aload_n 0, 1) := by decide +kernel
theorem dX3_readPass_62 : decode cX3_readPass 62 = .ok (.getfield 19, 3) := by decide +kernel
theorem dX3_readPass_65 : decode cX3_readPass 65 = .ok (.getfield 174, 3) := by decide +kernel
theorem dX3_readPass_68 : decode cX3_readPass 68 = .ok (.iload_n 1, 1) := by decide +kernel
theorem dX3_readPass_69 : decode cX3_readPass 69 = .ok (.aaload, 1) := by decide +kernel
theorem dX3_readPass_70 : decode cX3_readPass 70 = .ok (.aload_n 0, 1) := by decide +kernel
theorem dX3_readPass_71 : decode cX3_readPass 71 = .ok (.getfield 19, 3) := by decide +kernel
theorem dX3_readPass_74 : decode cX3_readPass 74 = .ok (.invokevirtual 244, 3) := by decide +kernel
theorem dX3_readPass_77 : decode cX3_readPass 77 = .ok (.invokevirtual 247, 3) := by decide +kernel
theorem dX3_readPass_80 : decode cX3_readPass 80 = .ok (.ifCond .ne 10, 3) := by decide +kernel
theorem dX3_readPass_83 : decode cX3_readPass 83 = .ok (.aload_n 0, 1) := by decide +kernel
theorem dX3_readPass_84 : decode cX3_readPass 84 = .ok (.bipush 6, 2) := by decide +kernel
theorem dX3_readPass_86 : decode cX3_readPass 86 = .ok (.invokevirtual 83, 3) := by decide +kernel
theorem dX3_readPass_89 : decode cX3_readPass 89 = .ok (.ireturn, 1) := by decide +kernel
theorem dX3_readPass_90 : decode cX3_readPass 90 = .ok (.aload_n 0, 1) := by decide +kernel
theorem dX3_readPass_91 : decode cX3_readPass 91 = .ok (.getfield 19, 3) := by decide +kernel
theorem dX3_readPass_94 : decode cX3_readPass 94 = .ok (.iload_n 1, 1) := by decide +kernel
theorem dX3_readPass_95 : decode cX3_readPass 95 = .ok (.iload_n 2, 1) := by decide +kernel
theorem dX3_readPass_96 : decode cX3_readPass 96 = .ok (.aload_n 0, 1) := by decide +kernel
theorem dX3_readPass_97 : decode cX3_readPass 97 = .ok (.getfield 66, 3) := by decide +kernel
theorem dX3_readPass_100 : decode cX3_readPass 100 = .ok (.invokevirtual 250, 3) := by decide +kernel
theorem dX3_readPass_103 : decode cX3_readPass 103 = .ok (.pop, 1) := by decide +kernel
theorem dX3_readPass_104 : decode cX3_readPass 104 = .ok (.aload_n 0, 1) := by decide +kernel
theorem dX3_readPass_105 : decode cX3_readPass 105 = .ok (.invokevirtual 43, 3) := by decide +kernel
theorem dX3_readPass_108 : decode cX3_readPass 108 = .ok (.iconst 1, 1) := by decide +kernel
theorem dX3_readPass_109 : decode cX3_readPass 109 = .ok (.ireturn, 1) := by decide +kernel
theorem bX3_readPass_0 {d mc ms : Nat} {al : Bool} {bc bs : Nat} {Γ : am_G} {I : am_I} {L : am_L} {Q : am_Q} {v0 : Nat} {I' : am_I} {L' : am_L} {mc' : Nat} {ms' : Nat} (o1 : am_ob Γ v0 3) (hbc : mc' ≤ bc) (hbs : ms' ≤ bs) (hC : am_E m_X3_advance d mc' ms' [.ref v0] Γ I L (.inl none) I' L') (kk : am_W m_X3_readPass (d + 1) mc ms al (bc - mc') (bs - ms') 4 [(0, .ref v0)] [] Γ I' L' Q) : am_W m_X3_readPass (d + 1) mc ms al bc bs 0 [(0, .ref v0)] [] Γ I L Q := by
  refine aw_aload_n dX3_readPass_0 rfl ?_
  exact aw_askV (as := []) (rst := []) k_X3_advance l_X3_43 i_X3_advance s_X3_advance rfl o1 dX3_readPass_1 rfl (Nat.le_of_ble_eq_true rfl) hbc hbs hC rfl rfl kk
theorem bX3_readPass_4 {d mc ms : Nat} {al : Bool} {bc bs : Nat} {Γ : am_G} {I : am_I} {L : am_L} {Q : am_Q} {v0 : Nat} {r2 : Nat} {I' : am_I} {L' : am_L} {mc' : Nat} {ms' : Nat} {r : Int32} (o1 : am_ob Γ v0 3) (g3 : Γ.2.2 v0 5 = some r2) (o4 : am_ob Γ r2 5) (hbc : mc' ≤ bc) (hbs : ms' ≤ bs) (hC : am_E m_X5_gateNamed d mc' ms' [.ref r2, .long (L v0 10)] Γ I L (.inl (some (.int r))) I' L') (kk : am_W m_X3_readPass (d + 1) mc ms al (bc - mc') (bs - ms') 16 [(0, .ref v0)] [.int r, .ref v0] Γ I' L' Q) : am_W m_X3_readPass (d + 1) mc ms al bc bs 4 [(0, .ref v0)] [] Γ I L Q := by
  refine aw_aload_n dX3_readPass_4 rfl ?_
  refine aw_aload_n dX3_readPass_5 rfl ?_
  refine aw_getR dX3_readPass_6 f_X3_19 o1 rfl g3 ?_
  refine aw_aload_n dX3_readPass_9 rfl ?_
  refine aw_getL dX3_readPass_10 f_X3_62 o1 rfl ?_
  exact aw_askV (as := [.long (L v0 10)]) (rst := [.ref v0]) k_X5_gateNamed l_X3_188 i_X5_gateNamed s_X5_gateNamed rfl o4 dX3_readPass_13 rfl (Nat.le_of_ble_eq_true rfl) hbc hbs hC rfl rfl kk
theorem bX3_readPass_16 {d mc ms : Nat} {al : Bool} {bc bs : Nat} {Γ : am_G} {I : am_I} {L : am_L} {Q : am_Q} {v0 : Nat} {w0 : Nat} {w1 : Int32} {I' : am_I} {L' : am_L} {mc' : Nat} {ms' : Nat} {r : Int32} (o1 : am_ob Γ w0 3) (hbc : mc' ≤ bc) (hbs : ms' ≤ bs) (hC : am_E m_X3_takeKnown d mc' ms' [.ref w0, .int w1] Γ I L (.inl (some (.int r))) I' L') (kk : am_W m_X3_readPass (d + 1) mc ms al (bc - mc') (bs - ms') 19 [(0, .ref v0)] [.int r] Γ I' L' Q) : am_W m_X3_readPass (d + 1) mc ms al bc bs 16 [(0, .ref v0)] [.int w1, .ref w0] Γ I L Q := by
  exact aw_askV (as := [.int w1]) (rst := []) k_X3_takeKnown l_X3_241 i_X3_takeKnown s_X3_takeKnown rfl o1 dX3_readPass_16 rfl (Nat.le_of_ble_eq_true rfl) hbc hbs hC rfl rfl kk
theorem bX3_readPass_19 {d mc ms : Nat} {al : Bool} {bc bs : Nat} {Γ : am_G} {I : am_I} {L : am_L} {Q : am_Q} {v0 : Nat} {w0 : Int32} (kt : ¬ w0 = (-1) → am_W m_X3_readPass d mc ms al bc bs 27 [(0, .ref v0), (1, .int w0)] [] Γ I L Q) (kf : w0 = (-1) → am_W m_X3_readPass d mc ms al bc bs 25 [(0, .ref v0), (1, .int w0)] [] Γ I L Q) : am_W m_X3_readPass d mc ms al bc bs 19 [(0, .ref v0)] [.int w0] Γ I L Q := by
  refine aw_istore_n (ls' := [(0, .ref v0), (1, .int w0)]) dX3_readPass_19 (by decide) rfl ?_
  refine aw_iload_n dX3_readPass_20 rfl ?_
  refine aw_iconst dX3_readPass_21 ci_m1 ?_
  exact aw_icmp_ne dX3_readPass_22 (by decide) kt kf
theorem bX3_readPass_25 {d mc ms : Nat} {al : Bool} {bc bs : Nat} {Γ : am_G} {I : am_I} {L : am_L} {Q : am_Q} {v0 : Nat} {v1 : Int32} (hq : Q (.inl (some (.int 0))) Γ I L) : am_W m_X3_readPass d mc ms al bc bs 25 [(0, .ref v0), (1, .int v1)] [] Γ I L Q := by
  refine aw_iconst dX3_readPass_25 ci_0 ?_
  exact aw_zret (ty := .boolean) dX3_readPass_26 rfl rfl hq
theorem bX3_readPass_27 {d mc ms : Nat} {al : Bool} {bc bs : Nat} {Γ : am_G} {I : am_I} {L : am_L} {Q : am_Q} {v0 : Nat} {v1 : Int32} {r2 : Nat} {I' : am_I} {L' : am_L} {mc' : Nat} {ms' : Nat} {r : Int32} (o1 : am_ob Γ v0 3) (g3 : Γ.2.2 v0 5 = some r2) (o4 : am_ob Γ r2 5) (hbc : mc' ≤ bc) (hbs : ms' ≤ bs) (hC : am_E m_X5_typeNamed d mc' ms' [.ref r2, .long (L v0 10)] Γ I L (.inl (some (.int r))) I' L') (kk : am_W m_X3_readPass (d + 1) mc ms al (bc - mc') (bs - ms') 39 [(0, .ref v0), (1, .int v1)] [.int r, .ref v0] Γ I' L' Q) : am_W m_X3_readPass (d + 1) mc ms al bc bs 27 [(0, .ref v0), (1, .int v1)] [] Γ I L Q := by
  refine aw_aload_n dX3_readPass_27 rfl ?_
  refine aw_aload_n dX3_readPass_28 rfl ?_
  refine aw_getR dX3_readPass_29 f_X3_19 o1 rfl g3 ?_
  refine aw_aload_n dX3_readPass_32 rfl ?_
  refine aw_getL dX3_readPass_33 f_X3_62 o1 rfl ?_
  exact aw_askV (as := [.long (L v0 10)]) (rst := [.ref v0]) k_X5_typeNamed l_X3_152 i_X5_typeNamed s_X5_typeNamed rfl o4 dX3_readPass_36 rfl (Nat.le_of_ble_eq_true rfl) hbc hbs hC rfl rfl kk
theorem bX3_readPass_39 {d mc ms : Nat} {al : Bool} {bc bs : Nat} {Γ : am_G} {I : am_I} {L : am_L} {Q : am_Q} {v0 : Nat} {v1 : Int32} {w0 : Nat} {w1 : Int32} {I' : am_I} {L' : am_L} {mc' : Nat} {ms' : Nat} {r : Int32} (o1 : am_ob Γ w0 3) (hbc : mc' ≤ bc) (hbs : ms' ≤ bs) (hC : am_E m_X3_takeKnown d mc' ms' [.ref w0, .int w1] Γ I L (.inl (some (.int r))) I' L') (kk : am_W m_X3_readPass (d + 1) mc ms al (bc - mc') (bs - ms') 42 [(0, .ref v0), (1, .int v1)] [.int r] Γ I' L' Q) : am_W m_X3_readPass (d + 1) mc ms al bc bs 39 [(0, .ref v0), (1, .int v1)] [.int w1, .ref w0] Γ I L Q := by
  exact aw_askV (as := [.int w1]) (rst := []) k_X3_takeKnown l_X3_241 i_X3_takeKnown s_X3_takeKnown rfl o1 dX3_readPass_39 rfl (Nat.le_of_ble_eq_true rfl) hbc hbs hC rfl rfl kk
theorem bX3_readPass_42 {d mc ms : Nat} {al : Bool} {bc bs : Nat} {Γ : am_G} {I : am_I} {L : am_L} {Q : am_Q} {v0 : Nat} {v1 : Int32} {w0 : Int32} (kt : w0 = (-1) → am_W m_X3_readPass d mc ms al bc bs 59 [(0, .ref v0), (1, .int v1), (2, .int w0)] [] Γ I L Q) (kf : ¬ w0 = (-1) → am_W m_X3_readPass d mc ms al bc bs 48 [(0, .ref v0), (1, .int v1), (2, .int w0)] [] Γ I L Q) : am_W m_X3_readPass d mc ms al bc bs 42 [(0, .ref v0), (1, .int v1)] [.int w0] Γ I L Q := by
  refine aw_istore_n (ls' := [(0, .ref v0), (1, .int v1), (2, .int w0)]) dX3_readPass_42 (by decide) rfl ?_
  refine aw_iload_n dX3_readPass_43 rfl ?_
  refine aw_iconst dX3_readPass_44 ci_m1 ?_
  exact aw_icmp_eq dX3_readPass_45 (by decide) kt kf
theorem bX3_readPass_48 {d mc ms : Nat} {al : Bool} {bc bs : Nat} {Γ : am_G} {I : am_I} {L : am_L} {Q : am_Q} {v0 : Nat} {v1 : Int32} {v2 : Int32} {I' : am_I} {L' : am_L} {mc' : Nat} {ms' : Nat} {r : Int32} (o1 : am_ob Γ v0 3) (hbc : mc' ≤ bc) (hbs : ms' ≤ bs) (hC : am_E m_X3_isNumberIn d mc' ms' [.ref v0, .int 1, .int 999] Γ I L (.inl (some (.int r))) I' L') (kk : am_W m_X3_readPass (d + 1) mc ms al (bc - mc') (bs - ms') 56 [(0, .ref v0), (1, .int v1), (2, .int v2)] [.int r] Γ I' L' Q) : am_W m_X3_readPass (d + 1) mc ms al bc bs 48 [(0, .ref v0), (1, .int v1), (2, .int v2)] [] Γ I L Q := by
  refine aw_aload_n dX3_readPass_48 rfl ?_
  refine aw_iconst dX3_readPass_49 ci_1 ?_
  refine aw_sipush dX3_readPass_50 cs_999 ?_
  exact aw_askV (as := [.int 1, .int 999]) (rst := []) k_X3_isNumberIn l_X3_87 i_X3_isNumberIn s_X3_isNumberIn rfl o1 dX3_readPass_53 rfl (Nat.le_of_ble_eq_true rfl) hbc hbs hC rfl rfl kk
theorem bX3_readPass_56 {d mc ms : Nat} {al : Bool} {bc bs : Nat} {Γ : am_G} {I : am_I} {L : am_L} {Q : am_Q} {v0 : Nat} {v1 : Int32} {v2 : Int32} {w0 : Int32} (kt : ¬ w0 = 0 → am_W m_X3_readPass d mc ms al bc bs 61 [(0, .ref v0), (1, .int v1), (2, .int v2)] [] Γ I L Q) (kf : w0 = 0 → am_W m_X3_readPass d mc ms al bc bs 59 [(0, .ref v0), (1, .int v1), (2, .int v2)] [] Γ I L Q) : am_W m_X3_readPass d mc ms al bc bs 56 [(0, .ref v0), (1, .int v1), (2, .int v2)] [.int w0] Γ I L Q := by
  exact aw_if_ne dX3_readPass_56 (by decide) kt kf
theorem bX3_readPass_59 {d mc ms : Nat} {al : Bool} {bc bs : Nat} {Γ : am_G} {I : am_I} {L : am_L} {Q : am_Q} {v0 : Nat} {v1 : Int32} {v2 : Int32} (hq : Q (.inl (some (.int 0))) Γ I L) : am_W m_X3_readPass d mc ms al bc bs 59 [(0, .ref v0), (1, .int v1), (2, .int v2)] [] Γ I L Q := by
  refine aw_iconst dX3_readPass_59 ci_0 ?_
  exact aw_zret (ty := .boolean) dX3_readPass_60 rfl rfl hq
theorem bX3_readPass_61 {d mc ms : Nat} {al : Bool} {bc bs : Nat} {Γ : am_G} {I : am_I} {L : am_L} {Q : am_Q} {v0 : Nat} {v1 : Int32} {v2 : Int32} {r2 : Nat} {r5 : Nat} {n_r5 : Nat} {r9 : Nat} {I' : am_I} {L' : am_L} {mc' : Nat} {ms' : Nat} {r : Int32} (o1 : am_ob Γ v0 3) (g3 : Γ.2.2 v0 5 = some r2) (o4 : am_ob Γ r2 5) (g6 : Γ.2.2 r2 9 = some r5) (a7 : am_ar Γ r5 6 n_r5 0) (i8 : vp_in v1 n_r5) (g10 : Γ.2.2 r5 (v1.toNatClampNeg) = some r9) (hbc : mc' ≤ bc) (hbs : ms' ≤ bs) (hC : am_E m_X5_hourOfDay d mc' ms' [.ref r2] Γ I L (.inl (some (.int r))) I' L') (kk : am_W m_X3_readPass (d + 1) mc ms al (bc - mc') (bs - ms') 77 [(0, .ref v0), (1, .int v1), (2, .int v2)] [.int r, .ref r9] Γ I' L' Q) : am_W m_X3_readPass (d + 1) mc ms al bc bs 61 [(0, .ref v0), (1, .int v1), (2, .int v2)] [] Γ I L Q := by
  refine aw_aload_n dX3_readPass_61 rfl ?_
  refine aw_getR dX3_readPass_62 f_X3_19 o1 rfl g3 ?_
  refine aw_getR dX3_readPass_65 f_X3_174 o4 rfl g6 ?_
  refine aw_iload_n dX3_readPass_68 rfl ?_
  refine aw_aald dX3_readPass_69 a7 i8 g10 ?_
  refine aw_aload_n dX3_readPass_70 rfl ?_
  refine aw_getR dX3_readPass_71 f_X3_19 o1 rfl g3 ?_
  exact aw_askV (as := []) (rst := [.ref r9]) k_X5_hourOfDay l_X3_244 i_X5_hourOfDay s_X5_hourOfDay rfl o4 dX3_readPass_74 rfl (Nat.le_of_ble_eq_true rfl) hbc hbs hC rfl rfl kk
theorem bX3_readPass_77 {d mc ms : Nat} {al : Bool} {bc bs : Nat} {Γ : am_G} {I : am_I} {L : am_L} {Q : am_Q} {v0 : Nat} {v1 : Int32} {v2 : Int32} {w0 : Nat} {w1 : Int32} {I' : am_I} {L' : am_L} {mc' : Nat} {ms' : Nat} {r : Int32} (o1 : am_ob Γ w0 0) (hbc : mc' ≤ bc) (hbs : ms' ≤ bs) (hC : am_E m_X0_opensAt d mc' ms' [.ref w0, .int w1] Γ I L (.inl (some (.int r))) I' L') (kk : am_W m_X3_readPass (d + 1) mc ms al (bc - mc') (bs - ms') 80 [(0, .ref v0), (1, .int v1), (2, .int v2)] [.int r] Γ I' L' Q) : am_W m_X3_readPass (d + 1) mc ms al bc bs 77 [(0, .ref v0), (1, .int v1), (2, .int v2)] [.int w1, .ref w0] Γ I L Q := by
  exact aw_askV (as := [.int w1]) (rst := []) k_X0_opensAt l_X3_247 i_X0_opensAt s_X0_opensAt rfl o1 dX3_readPass_77 rfl (Nat.le_of_ble_eq_true rfl) hbc hbs hC rfl rfl kk
theorem bX3_readPass_80 {d mc ms : Nat} {al : Bool} {bc bs : Nat} {Γ : am_G} {I : am_I} {L : am_L} {Q : am_Q} {v0 : Nat} {v1 : Int32} {v2 : Int32} {w0 : Int32} (kt : ¬ w0 = 0 → am_W m_X3_readPass d mc ms al bc bs 90 [(0, .ref v0), (1, .int v1), (2, .int v2)] [] Γ I L Q) (kf : w0 = 0 → am_W m_X3_readPass d mc ms al bc bs 83 [(0, .ref v0), (1, .int v1), (2, .int v2)] [] Γ I L Q) : am_W m_X3_readPass d mc ms al bc bs 80 [(0, .ref v0), (1, .int v1), (2, .int v2)] [.int w0] Γ I L Q := by
  exact aw_if_ne dX3_readPass_80 (by decide) kt kf
theorem bX3_readPass_83 {d mc ms : Nat} {al : Bool} {bc bs : Nat} {Γ : am_G} {I : am_I} {L : am_L} {Q : am_Q} {v0 : Nat} {v1 : Int32} {v2 : Int32} {I' : am_I} {L' : am_L} {mc' : Nat} {ms' : Nat} {r : Int32} (o1 : am_ob Γ v0 3) (hbc : mc' ≤ bc) (hbs : ms' ≤ bs) (hC : am_E m_X3_fail d mc' ms' [.ref v0, .int 6] Γ I L (.inl (some (.int r))) I' L') (kk : am_W m_X3_readPass (d + 1) mc ms al (bc - mc') (bs - ms') 89 [(0, .ref v0), (1, .int v1), (2, .int v2)] [.int r] Γ I' L' Q) : am_W m_X3_readPass (d + 1) mc ms al bc bs 83 [(0, .ref v0), (1, .int v1), (2, .int v2)] [] Γ I L Q := by
  refine aw_aload_n dX3_readPass_83 rfl ?_
  refine aw_bipush dX3_readPass_84 cb_6 ?_
  exact aw_askV (as := [.int 6]) (rst := []) k_X3_fail l_X3_83 i_X3_fail s_X3_fail rfl o1 dX3_readPass_86 rfl (Nat.le_of_ble_eq_true rfl) hbc hbs hC rfl rfl kk
theorem bX3_readPass_89 {d mc ms : Nat} {al : Bool} {bc bs : Nat} {Γ : am_G} {I : am_I} {L : am_L} {Q : am_Q} {v0 : Nat} {v1 : Int32} {v2 : Int32} {w0 : Int32} (hz : narrow .boolean (.int w0) = .int w0) (hq : Q (.inl (some (.int w0))) Γ I L) : am_W m_X3_readPass d mc ms al bc bs 89 [(0, .ref v0), (1, .int v1), (2, .int v2)] [.int w0] Γ I L Q := by
  exact aw_zret (ty := .boolean) dX3_readPass_89 rfl hz hq
theorem bX3_readPass_90 {d mc ms : Nat} {al : Bool} {bc bs : Nat} {Γ : am_G} {I : am_I} {L : am_L} {Q : am_Q} {v0 : Nat} {v1 : Int32} {v2 : Int32} {r2 : Nat} {I' : am_I} {L' : am_L} {mc' : Nat} {ms' : Nat} {r : Int32} (o1 : am_ob Γ v0 3) (g3 : Γ.2.2 v0 5 = some r2) (o4 : am_ob Γ r2 5) (hbc : mc' ≤ bc) (hbs : ms' ≤ bs) (hC : am_E m_X5_letPass d mc' ms' [.ref r2, .int v1, .int v2, .int (I v0 11)] Γ I L (.inl (some (.int r))) I' L') (kk : am_W m_X3_readPass (d + 1) mc ms al (bc - mc') (bs - ms') 103 [(0, .ref v0), (1, .int v1), (2, .int v2)] [.int r] Γ I' L' Q) : am_W m_X3_readPass (d + 1) mc ms al bc bs 90 [(0, .ref v0), (1, .int v1), (2, .int v2)] [] Γ I L Q := by
  refine aw_aload_n dX3_readPass_90 rfl ?_
  refine aw_getR dX3_readPass_91 f_X3_19 o1 rfl g3 ?_
  refine aw_iload_n dX3_readPass_94 rfl ?_
  refine aw_iload_n dX3_readPass_95 rfl ?_
  refine aw_aload_n dX3_readPass_96 rfl ?_
  refine aw_getI dX3_readPass_97 f_X3_66 o1 rfl ?_
  exact aw_askV (as := [.int v1, .int v2, .int (I v0 11)]) (rst := []) k_X5_letPass l_X3_250 i_X5_letPass s_X5_letPass rfl o4 dX3_readPass_100 rfl (Nat.le_of_ble_eq_true rfl) hbc hbs hC rfl rfl kk
theorem bX3_readPass_103 {d mc ms : Nat} {al : Bool} {bc bs : Nat} {Γ : am_G} {I : am_I} {L : am_L} {Q : am_Q} {v0 : Nat} {v1 : Int32} {v2 : Int32} {w0 : Int32} {I' : am_I} {L' : am_L} {mc' : Nat} {ms' : Nat} (o1 : am_ob Γ v0 3) (hbc : mc' ≤ bc) (hbs : ms' ≤ bs) (hC : am_E m_X3_advance d mc' ms' [.ref v0] Γ I L (.inl none) I' L') (kk : am_W m_X3_readPass (d + 1) mc ms al (bc - mc') (bs - ms') 108 [(0, .ref v0), (1, .int v1), (2, .int v2)] [] Γ I' L' Q) : am_W m_X3_readPass (d + 1) mc ms al bc bs 103 [(0, .ref v0), (1, .int v1), (2, .int v2)] [.int w0] Γ I L Q := by
  refine aw_pop dX3_readPass_103 rfl ?_
  refine aw_aload_n dX3_readPass_104 rfl ?_
  exact aw_askV (as := []) (rst := []) k_X3_advance l_X3_43 i_X3_advance s_X3_advance rfl o1 dX3_readPass_105 rfl (Nat.le_of_ble_eq_true rfl) hbc hbs hC rfl rfl kk
theorem bX3_readPass_108 {d mc ms : Nat} {al : Bool} {bc bs : Nat} {Γ : am_G} {I : am_I} {L : am_L} {Q : am_Q} {v0 : Nat} {v1 : Int32} {v2 : Int32} (hq : Q (.inl (some (.int 1))) Γ I L) : am_W m_X3_readPass d mc ms al bc bs 108 [(0, .ref v0), (1, .int v1), (2, .int v2)] [] Γ I L Q := by
  refine aw_iconst dX3_readPass_108 ci_1 ?_
  exact aw_zret (ty := .boolean) dX3_readPass_109 rfl rfl hq
theorem dX3_readBuild_0 : decode cX3_readBuild 0 = .ok (.aload_n 0, 1) := by decide +kernel
theorem dX3_readBuild_1 : decode cX3_readBuild 1 = .ok (.invokevirtual 43, 3) := by decide +kernel
theorem dX3_readBuild_4 : decode cX3_readBuild 4 = .ok (.aload_n 0, 1) := by decide +kernel
theorem dX3_readBuild_5 : decode cX3_readBuild 5 = .ok (.aload_n 0, 1) := by decide +kernel
theorem dX3_readBuild_6 : decode cX3_readBuild 6 = .ok (.getfield 19, 3) := by decide +kernel
theorem dX3_readBuild_9 : decode cX3_readBuild 9 = .ok (.aload_n 0, 1) := by decide +kernel
theorem dX3_readBuild_10 : decode cX3_readBuild 10 = .ok (.getfield 62, 3) := by decide +kernel
theorem dX3_readBuild_13 : decode cX3_readBuild 13 = .ok (.invokevirtual 188, 3) := by decide +kernel
theorem dX3_readBuild_16 : decode cX3_readBuild 16 = .ok (.invokevirtual 241, 3) := by decide +kernel
theorem dX3_readBuild_19 : decode cX3_readBuild 19 = .ok (.istore_n 1, 1) := by decide +kernel
theorem dX3_readBuild_20 : decode cX3_readBuild 20 = .ok (.iload_n 1, 1) := by decide +kernel
theorem dX3_readBuild_21 : decode cX3_readBuild 21 = .ok (.iconst (-1), 1) := by decide +kernel
theorem dX3_readBuild_22 : decode cX3_readBuild 22 = .ok (.if_icmp .ne 5, 3) := by decide +kernel
theorem dX3_readBuild_25 : decode cX3_readBuild 25 = .ok (.iconst 0, 1) := by decide +kernel
theorem dX3_readBuild_26 : decode cX3_readBuild 26 = .ok (.ireturn, 1) := by decide +kernel
theorem dX3_readBuild_27 : decode cX3_readBuild 27 = .ok (.aload_n 0, 1) := by decide +kernel
theorem dX3_readBuild_28 : decode cX3_readBuild 28 = .ok (.getfield 23, 3) := by decide +kernel
theorem dX3_readBuild_31 : decode cX3_readBuild 31 = .ok (.aload_n 0, 1) := by decide +kernel
theorem dX3_readBuild_32 : decode cX3_readBuild 32 = .ok (.getfield 19, 3) := by decide +kernel
theorem dX3_readBuild_35 : decode cX3_readBuild 35 = .ok (.aload_n 0, 1) := by decide +kernel
theorem dX3_readBuild_36 : decode cX3_readBuild 36 = .ok (.getfield 19, 3) := by decide +kernel
theorem dX3_readBuild_39 : decode cX3_readBuild 39 = .ok (.getfield 174, 3) := by decide +kernel
theorem dX3_readBuild_42 : decode cX3_readBuild 42 = .ok (.iload_n 1, 1) := by decide +kernel
theorem dX3_readBuild_43 : decode cX3_readBuild 43 = .ok (.aaload, 1) := by decide +kernel
theorem dX3_readBuild_44 : decode cX3_readBuild 44 = .ok (.invokevirtual 182, 3) := by decide +kernel
theorem dX3_readBuild_47 : decode cX3_readBuild 47 = .ok (.iconst 1, 1) := by decide +kernel
theorem dX3_readBuild_48 : decode cX3_readBuild 48 = .ok (.ireturn, 1) := by decide +kernel
theorem bX3_readBuild_0 {d mc ms : Nat} {al : Bool} {bc bs : Nat} {Γ : am_G} {I : am_I} {L : am_L} {Q : am_Q} {v0 : Nat} {I' : am_I} {L' : am_L} {mc' : Nat} {ms' : Nat} (o1 : am_ob Γ v0 3) (hbc : mc' ≤ bc) (hbs : ms' ≤ bs) (hC : am_E m_X3_advance d mc' ms' [.ref v0] Γ I L (.inl none) I' L') (kk : am_W m_X3_readBuild (d + 1) mc ms al (bc - mc') (bs - ms') 4 [(0, .ref v0)] [] Γ I' L' Q) : am_W m_X3_readBuild (d + 1) mc ms al bc bs 0 [(0, .ref v0)] [] Γ I L Q := by
  refine aw_aload_n dX3_readBuild_0 rfl ?_
  exact aw_askV (as := []) (rst := []) k_X3_advance l_X3_43 i_X3_advance s_X3_advance rfl o1 dX3_readBuild_1 rfl (Nat.le_of_ble_eq_true rfl) hbc hbs hC rfl rfl kk
theorem bX3_readBuild_4 {d mc ms : Nat} {al : Bool} {bc bs : Nat} {Γ : am_G} {I : am_I} {L : am_L} {Q : am_Q} {v0 : Nat} {r2 : Nat} {I' : am_I} {L' : am_L} {mc' : Nat} {ms' : Nat} {r : Int32} (o1 : am_ob Γ v0 3) (g3 : Γ.2.2 v0 5 = some r2) (o4 : am_ob Γ r2 5) (hbc : mc' ≤ bc) (hbs : ms' ≤ bs) (hC : am_E m_X5_gateNamed d mc' ms' [.ref r2, .long (L v0 10)] Γ I L (.inl (some (.int r))) I' L') (kk : am_W m_X3_readBuild (d + 1) mc ms al (bc - mc') (bs - ms') 16 [(0, .ref v0)] [.int r, .ref v0] Γ I' L' Q) : am_W m_X3_readBuild (d + 1) mc ms al bc bs 4 [(0, .ref v0)] [] Γ I L Q := by
  refine aw_aload_n dX3_readBuild_4 rfl ?_
  refine aw_aload_n dX3_readBuild_5 rfl ?_
  refine aw_getR dX3_readBuild_6 f_X3_19 o1 rfl g3 ?_
  refine aw_aload_n dX3_readBuild_9 rfl ?_
  refine aw_getL dX3_readBuild_10 f_X3_62 o1 rfl ?_
  exact aw_askV (as := [.long (L v0 10)]) (rst := [.ref v0]) k_X5_gateNamed l_X3_188 i_X5_gateNamed s_X5_gateNamed rfl o4 dX3_readBuild_13 rfl (Nat.le_of_ble_eq_true rfl) hbc hbs hC rfl rfl kk
theorem bX3_readBuild_16 {d mc ms : Nat} {al : Bool} {bc bs : Nat} {Γ : am_G} {I : am_I} {L : am_L} {Q : am_Q} {v0 : Nat} {w0 : Nat} {w1 : Int32} {I' : am_I} {L' : am_L} {mc' : Nat} {ms' : Nat} {r : Int32} (o1 : am_ob Γ w0 3) (hbc : mc' ≤ bc) (hbs : ms' ≤ bs) (hC : am_E m_X3_takeKnown d mc' ms' [.ref w0, .int w1] Γ I L (.inl (some (.int r))) I' L') (kk : am_W m_X3_readBuild (d + 1) mc ms al (bc - mc') (bs - ms') 19 [(0, .ref v0)] [.int r] Γ I' L' Q) : am_W m_X3_readBuild (d + 1) mc ms al bc bs 16 [(0, .ref v0)] [.int w1, .ref w0] Γ I L Q := by
  exact aw_askV (as := [.int w1]) (rst := []) k_X3_takeKnown l_X3_241 i_X3_takeKnown s_X3_takeKnown rfl o1 dX3_readBuild_16 rfl (Nat.le_of_ble_eq_true rfl) hbc hbs hC rfl rfl kk
theorem bX3_readBuild_19 {d mc ms : Nat} {al : Bool} {bc bs : Nat} {Γ : am_G} {I : am_I} {L : am_L} {Q : am_Q} {v0 : Nat} {w0 : Int32} (kt : ¬ w0 = (-1) → am_W m_X3_readBuild d mc ms al bc bs 27 [(0, .ref v0), (1, .int w0)] [] Γ I L Q) (kf : w0 = (-1) → am_W m_X3_readBuild d mc ms al bc bs 25 [(0, .ref v0), (1, .int w0)] [] Γ I L Q) : am_W m_X3_readBuild d mc ms al bc bs 19 [(0, .ref v0)] [.int w0] Γ I L Q := by
  refine aw_istore_n (ls' := [(0, .ref v0), (1, .int w0)]) dX3_readBuild_19 (by decide) rfl ?_
  refine aw_iload_n dX3_readBuild_20 rfl ?_
  refine aw_iconst dX3_readBuild_21 ci_m1 ?_
  exact aw_icmp_ne dX3_readBuild_22 (by decide) kt kf
theorem bX3_readBuild_25 {d mc ms : Nat} {al : Bool} {bc bs : Nat} {Γ : am_G} {I : am_I} {L : am_L} {Q : am_Q} {v0 : Nat} {v1 : Int32} (hq : Q (.inl (some (.int 0))) Γ I L) : am_W m_X3_readBuild d mc ms al bc bs 25 [(0, .ref v0), (1, .int v1)] [] Γ I L Q := by
  refine aw_iconst dX3_readBuild_25 ci_0 ?_
  exact aw_zret (ty := .boolean) dX3_readBuild_26 rfl rfl hq
theorem bX3_readBuild_27 {d mc ms : Nat} {al : Bool} {bc bs : Nat} {Γ : am_G} {I : am_I} {L : am_L} {Q : am_Q} {v0 : Nat} {v1 : Int32} {r2 : Nat} {r4 : Nat} {r7 : Nat} {n_r7 : Nat} {r11 : Nat} {I' : am_I} {L' : am_L} {mc' : Nat} {ms' : Nat} (o1 : am_ob Γ v0 3) (g3 : Γ.2.2 v0 6 = some r2) (g5 : Γ.2.2 v0 5 = some r4) (o6 : am_ob Γ r4 5) (g8 : Γ.2.2 r4 9 = some r7) (a9 : am_ar Γ r7 6 n_r7 0) (i10 : vp_in v1 n_r7) (g12 : Γ.2.2 r7 (v1.toNatClampNeg) = some r11) (o13 : am_ob Γ r2 4) (hbc : mc' ≤ bc) (hbs : ms' ≤ bs) (hC : am_E m_X4_plant d mc' ms' [.ref r2, .ref r4, .ref r11] Γ I L (.inl none) I' L') (kk : am_W m_X3_readBuild (d + 1) mc ms al (bc - mc') (bs - ms') 47 [(0, .ref v0), (1, .int v1)] [] Γ I' L' Q) : am_W m_X3_readBuild (d + 1) mc ms al bc bs 27 [(0, .ref v0), (1, .int v1)] [] Γ I L Q := by
  refine aw_aload_n dX3_readBuild_27 rfl ?_
  refine aw_getR dX3_readBuild_28 f_X3_23 o1 rfl g3 ?_
  refine aw_aload_n dX3_readBuild_31 rfl ?_
  refine aw_getR dX3_readBuild_32 f_X3_19 o1 rfl g5 ?_
  refine aw_aload_n dX3_readBuild_35 rfl ?_
  refine aw_getR dX3_readBuild_36 f_X3_19 o1 rfl g5 ?_
  refine aw_getR dX3_readBuild_39 f_X3_174 o6 rfl g8 ?_
  refine aw_iload_n dX3_readBuild_42 rfl ?_
  refine aw_aald dX3_readBuild_43 a9 i10 g12 ?_
  exact aw_askV (as := [.ref r4, .ref r11]) (rst := []) k_X4_plant l_X3_182 i_X4_plant s_X4_plant rfl o13 dX3_readBuild_44 rfl (Nat.le_of_ble_eq_true rfl) hbc hbs hC rfl rfl kk
theorem bX3_readBuild_47 {d mc ms : Nat} {al : Bool} {bc bs : Nat} {Γ : am_G} {I : am_I} {L : am_L} {Q : am_Q} {v0 : Nat} {v1 : Int32} (hq : Q (.inl (some (.int 1))) Γ I L) : am_W m_X3_readBuild d mc ms al bc bs 47 [(0, .ref v0), (1, .int v1)] [] Γ I L Q := by
  refine aw_iconst dX3_readBuild_47 ci_1 ?_
  exact aw_zret (ty := .boolean) dX3_readBuild_48 rfl rfl hq
theorem dX3_readHalve_0 : decode cX3_readHalve 0 = .ok (.aload_n 0, 1) := by decide +kernel
theorem dX3_readHalve_1 : decode cX3_readHalve 1 = .ok (.invokevirtual 43, 3) := by decide +kernel
theorem dX3_readHalve_4 : decode cX3_readHalve 4 = .ok (.aload_n 0, 1) := by decide +kernel
theorem dX3_readHalve_5 : decode cX3_readHalve 5 = .ok (.aload_n 0, 1) := by decide +kernel
theorem dX3_readHalve_6 : decode cX3_readHalve 6 = .ok (.getfield 19, 3) := by decide +kernel
theorem dX3_readHalve_9 : decode cX3_readHalve 9 = .ok (.aload_n 0, 1) := by decide +kernel
theorem dX3_readHalve_10 : decode cX3_readHalve 10 = .ok (.getfield 62, 3) := by decide +kernel
theorem dX3_readHalve_13 : decode cX3_readHalve 13 = .ok (.invokevirtual 188, 3) := by decide +kernel
theorem dX3_readHalve_16 : decode cX3_readHalve 16 = .ok (.invokevirtual 241, 3) := by decide +kernel
theorem dX3_readHalve_19 : decode cX3_readHalve 19 = .ok (.istore_n 1, 1) := by decide +kernel
theorem dX3_readHalve_20 : decode cX3_readHalve 20 = .ok (.iload_n 1, 1) := by decide +kernel
theorem dX3_readHalve_21 : decode cX3_readHalve 21 = .ok (.iconst (-1), 1) := by decide +kernel
theorem dX3_readHalve_22 : decode cX3_readHalve 22 = .ok (.if_icmp .ne 5, 3) := by decide +kernel
theorem dX3_readHalve_25 : decode cX3_readHalve 25 = .ok (.iconst 0, 1) := by decide +kernel
theorem dX3_readHalve_26 : decode cX3_readHalve 26 = .ok (.ireturn, 1) := by decide +kernel
theorem dX3_readHalve_27 : decode cX3_readHalve 27 = .ok (.aload_n 0, 1) := by decide +kernel
theorem dX3_readHalve_28 : decode cX3_readHalve 28 = .ok (.getfield 19, 3) := by decide +kernel
theorem dX3_readHalve_31 : decode cX3_readHalve 31 = .ok (.getfield 174, 3) := by decide +kernel
theorem dX3_readHalve_34 : decode cX3_readHalve 34 = .ok (.iload_n 1, 1) := by decide +kernel
theorem dX3_readHalve_35 : decode cX3_readHalve 35 = .ok (.aaload, 1) := by decide +kernel
theorem dX3_readHalve_36 : decode cX3_readHalve 36 = .ok (.invokevirtual 254, 3) := by decide +kernel
theorem dX3_readHalve_39 : decode cX3_readHalve 39 = .ok (.iconst 1, 1) := by decide +kernel
theorem dX3_readHalve_40 : decode cX3_readHalve 40 = .ok (.ireturn, 1) := by decide +kernel
theorem bX3_readHalve_0 {d mc ms : Nat} {al : Bool} {bc bs : Nat} {Γ : am_G} {I : am_I} {L : am_L} {Q : am_Q} {v0 : Nat} {I' : am_I} {L' : am_L} {mc' : Nat} {ms' : Nat} (o1 : am_ob Γ v0 3) (hbc : mc' ≤ bc) (hbs : ms' ≤ bs) (hC : am_E m_X3_advance d mc' ms' [.ref v0] Γ I L (.inl none) I' L') (kk : am_W m_X3_readHalve (d + 1) mc ms al (bc - mc') (bs - ms') 4 [(0, .ref v0)] [] Γ I' L' Q) : am_W m_X3_readHalve (d + 1) mc ms al bc bs 0 [(0, .ref v0)] [] Γ I L Q := by
  refine aw_aload_n dX3_readHalve_0 rfl ?_
  exact aw_askV (as := []) (rst := []) k_X3_advance l_X3_43 i_X3_advance s_X3_advance rfl o1 dX3_readHalve_1 rfl (Nat.le_of_ble_eq_true rfl) hbc hbs hC rfl rfl kk
theorem bX3_readHalve_4 {d mc ms : Nat} {al : Bool} {bc bs : Nat} {Γ : am_G} {I : am_I} {L : am_L} {Q : am_Q} {v0 : Nat} {r2 : Nat} {I' : am_I} {L' : am_L} {mc' : Nat} {ms' : Nat} {r : Int32} (o1 : am_ob Γ v0 3) (g3 : Γ.2.2 v0 5 = some r2) (o4 : am_ob Γ r2 5) (hbc : mc' ≤ bc) (hbs : ms' ≤ bs) (hC : am_E m_X5_gateNamed d mc' ms' [.ref r2, .long (L v0 10)] Γ I L (.inl (some (.int r))) I' L') (kk : am_W m_X3_readHalve (d + 1) mc ms al (bc - mc') (bs - ms') 16 [(0, .ref v0)] [.int r, .ref v0] Γ I' L' Q) : am_W m_X3_readHalve (d + 1) mc ms al bc bs 4 [(0, .ref v0)] [] Γ I L Q := by
  refine aw_aload_n dX3_readHalve_4 rfl ?_
  refine aw_aload_n dX3_readHalve_5 rfl ?_
  refine aw_getR dX3_readHalve_6 f_X3_19 o1 rfl g3 ?_
  refine aw_aload_n dX3_readHalve_9 rfl ?_
  refine aw_getL dX3_readHalve_10 f_X3_62 o1 rfl ?_
  exact aw_askV (as := [.long (L v0 10)]) (rst := [.ref v0]) k_X5_gateNamed l_X3_188 i_X5_gateNamed s_X5_gateNamed rfl o4 dX3_readHalve_13 rfl (Nat.le_of_ble_eq_true rfl) hbc hbs hC rfl rfl kk
theorem bX3_readHalve_16 {d mc ms : Nat} {al : Bool} {bc bs : Nat} {Γ : am_G} {I : am_I} {L : am_L} {Q : am_Q} {v0 : Nat} {w0 : Nat} {w1 : Int32} {I' : am_I} {L' : am_L} {mc' : Nat} {ms' : Nat} {r : Int32} (o1 : am_ob Γ w0 3) (hbc : mc' ≤ bc) (hbs : ms' ≤ bs) (hC : am_E m_X3_takeKnown d mc' ms' [.ref w0, .int w1] Γ I L (.inl (some (.int r))) I' L') (kk : am_W m_X3_readHalve (d + 1) mc ms al (bc - mc') (bs - ms') 19 [(0, .ref v0)] [.int r] Γ I' L' Q) : am_W m_X3_readHalve (d + 1) mc ms al bc bs 16 [(0, .ref v0)] [.int w1, .ref w0] Γ I L Q := by
  exact aw_askV (as := [.int w1]) (rst := []) k_X3_takeKnown l_X3_241 i_X3_takeKnown s_X3_takeKnown rfl o1 dX3_readHalve_16 rfl (Nat.le_of_ble_eq_true rfl) hbc hbs hC rfl rfl kk
theorem bX3_readHalve_19 {d mc ms : Nat} {al : Bool} {bc bs : Nat} {Γ : am_G} {I : am_I} {L : am_L} {Q : am_Q} {v0 : Nat} {w0 : Int32} (kt : ¬ w0 = (-1) → am_W m_X3_readHalve d mc ms al bc bs 27 [(0, .ref v0), (1, .int w0)] [] Γ I L Q) (kf : w0 = (-1) → am_W m_X3_readHalve d mc ms al bc bs 25 [(0, .ref v0), (1, .int w0)] [] Γ I L Q) : am_W m_X3_readHalve d mc ms al bc bs 19 [(0, .ref v0)] [.int w0] Γ I L Q := by
  refine aw_istore_n (ls' := [(0, .ref v0), (1, .int w0)]) dX3_readHalve_19 (by decide) rfl ?_
  refine aw_iload_n dX3_readHalve_20 rfl ?_
  refine aw_iconst dX3_readHalve_21 ci_m1 ?_
  exact aw_icmp_ne dX3_readHalve_22 (by decide) kt kf
theorem bX3_readHalve_25 {d mc ms : Nat} {al : Bool} {bc bs : Nat} {Γ : am_G} {I : am_I} {L : am_L} {Q : am_Q} {v0 : Nat} {v1 : Int32} (hq : Q (.inl (some (.int 0))) Γ I L) : am_W m_X3_readHalve d mc ms al bc bs 25 [(0, .ref v0), (1, .int v1)] [] Γ I L Q := by
  refine aw_iconst dX3_readHalve_25 ci_0 ?_
  exact aw_zret (ty := .boolean) dX3_readHalve_26 rfl rfl hq
theorem bX3_readHalve_27 {d mc ms : Nat} {al : Bool} {bc bs : Nat} {Γ : am_G} {I : am_I} {L : am_L} {Q : am_Q} {v0 : Nat} {v1 : Int32} {r2 : Nat} {r5 : Nat} {n_r5 : Nat} {r9 : Nat} {I' : am_I} {L' : am_L} {mc' : Nat} {ms' : Nat} (o1 : am_ob Γ v0 3) (g3 : Γ.2.2 v0 5 = some r2) (o4 : am_ob Γ r2 5) (g6 : Γ.2.2 r2 9 = some r5) (a7 : am_ar Γ r5 6 n_r5 0) (i8 : vp_in v1 n_r5) (g10 : Γ.2.2 r5 (v1.toNatClampNeg) = some r9) (o11 : am_ob Γ r9 0) (hbc : mc' ≤ bc) (hbs : ms' ≤ bs) (hC : am_E m_X0_halve d mc' ms' [.ref r9] Γ I L (.inl none) I' L') (kk : am_W m_X3_readHalve (d + 1) mc ms al (bc - mc') (bs - ms') 39 [(0, .ref v0), (1, .int v1)] [] Γ I' L' Q) : am_W m_X3_readHalve (d + 1) mc ms al bc bs 27 [(0, .ref v0), (1, .int v1)] [] Γ I L Q := by
  refine aw_aload_n dX3_readHalve_27 rfl ?_
  refine aw_getR dX3_readHalve_28 f_X3_19 o1 rfl g3 ?_
  refine aw_getR dX3_readHalve_31 f_X3_174 o4 rfl g6 ?_
  refine aw_iload_n dX3_readHalve_34 rfl ?_
  refine aw_aald dX3_readHalve_35 a7 i8 g10 ?_
  exact aw_askV (as := []) (rst := []) k_X0_halve l_X3_254 i_X0_halve s_X0_halve rfl o11 dX3_readHalve_36 rfl (Nat.le_of_ble_eq_true rfl) hbc hbs hC rfl rfl kk
theorem bX3_readHalve_39 {d mc ms : Nat} {al : Bool} {bc bs : Nat} {Γ : am_G} {I : am_I} {L : am_L} {Q : am_Q} {v0 : Nat} {v1 : Int32} (hq : Q (.inl (some (.int 1))) Γ I L) : am_W m_X3_readHalve d mc ms al bc bs 39 [(0, .ref v0), (1, .int v1)] [] Γ I L Q := by
  refine aw_iconst dX3_readHalve_39 ci_1 ?_
  exact aw_zret (ty := .boolean) dX3_readHalve_40 rfl rfl hq
theorem dX3_readToll_0 : decode cX3_readToll 0 = .ok (.aload_n 0, 1) := by decide +kernel
theorem dX3_readToll_1 : decode cX3_readToll 1 = .ok (.invokevirtual 43, 3) := by decide +kernel
theorem dX3_readToll_4 : decode cX3_readToll 4 = .ok (.aload_n 0, 1) := by decide +kernel
theorem dX3_readToll_5 : decode cX3_readToll 5 = .ok (.aload_n 0, 1) := by decide +kernel
theorem dX3_readToll_6 : decode cX3_readToll 6 = .ok (.getfield 19, 3) := by decide +kernel
theorem dX3_readToll_9 : decode cX3_readToll 9 = .ok (.aload_n 0, 1) := by decide +kernel
theorem dX3_readToll_10 : decode cX3_readToll 10 = .ok (.getfield 62, 3) := by decide +kernel
theorem dX3_readToll_13 : decode cX3_readToll 13 = .ok (.invokevirtual 152, 3) := by decide +kernel
theorem dX3_readToll_16 : decode cX3_readToll 16 = .ok (.invokevirtual 241, 3) := by decide +kernel
theorem dX3_readToll_19 : decode cX3_readToll 19 = .ok (.istore_n 1, 1) := by decide +kernel
theorem dX3_readToll_20 : decode cX3_readToll 20 = .ok (.iload_n 1, 1) := by decide +kernel
theorem dX3_readToll_21 : decode cX3_readToll 21 = .ok (.iconst (-1), 1) := by decide +kernel
theorem dX3_readToll_22 : decode cX3_readToll 22 = .ok (.if_icmp .eq 13, 3) := by decide +kernel
theorem dX3_readToll_25 : decode cX3_readToll 25 = .ok (.aload_n 0, 1) := by decide +kernel
theorem dX3_readToll_26 : decode cX3_readToll 26 = .ok (.iconst 0, 1) := by decide +kernel
theorem dX3_readToll_27 : decode cX3_readToll 27 = .ok (.bipush 99, 2) := by decide +kernel
theorem dX3_readToll_29 : decode cX3_readToll 29 = .ok (.invokevirtual 87, 3) := by decide +kernel
theorem dX3_readToll_32 : decode cX3_readToll 32 = .ok (.ifCond .ne 5, 3) := by decide +kernel
theorem dX3_readToll_35 : decode cX3_readToll 35 = .ok (.iconst 0, 1) := by decide +kernel
theorem dX3_readToll_36 : decode cX3_readToll 36 = .ok (.ireturn, 1) := by decide +kernel
theorem dX3_readToll_37 : decode cX3_readToll 37 = .ok (.aload_n 0, 1) := by decide +kernel
theorem dX3_readToll_38 : decode cX3_readToll 38 = .ok (.getfield 19, 3) := by decide +kernel
theorem dX3_readToll_41 : decode cX3_readToll 41 = .ok (.getfield 158, 3) := by decide +kernel
theorem dX3_readToll_44 : decode cX3_readToll 44 = .ok (.iload_n 1, 1) := by decide +kernel
theorem dX3_readToll_45 : decode cX3_readToll 45 = .ok (.aload_n 0, 1) := by decide +kernel
theorem dX3_readToll_46 : decode cX3_readToll 46 = .ok (.getfield 66, 3) := by decide +kernel
theorem dX3_readToll_49 : decode cX3_readToll 49 = .ok (.iastore, 1) := by decide +kernel
theorem dX3_readToll_50 : decode cX3_readToll 50 = .ok (.aload_n 0, 1) := by decide +kernel
theorem dX3_readToll_51 : decode cX3_readToll 51 = .ok (.invokevirtual 43, 3) := by decide +kernel
theorem dX3_readToll_54 : decode cX3_readToll 54 = .ok (.iconst 1, 1) := by decide +kernel
theorem dX3_readToll_55 : decode cX3_readToll 55 = .ok (.ireturn, 1) := by decide +kernel
theorem bX3_readToll_0 {d mc ms : Nat} {al : Bool} {bc bs : Nat} {Γ : am_G} {I : am_I} {L : am_L} {Q : am_Q} {v0 : Nat} {I' : am_I} {L' : am_L} {mc' : Nat} {ms' : Nat} (o1 : am_ob Γ v0 3) (hbc : mc' ≤ bc) (hbs : ms' ≤ bs) (hC : am_E m_X3_advance d mc' ms' [.ref v0] Γ I L (.inl none) I' L') (kk : am_W m_X3_readToll (d + 1) mc ms al (bc - mc') (bs - ms') 4 [(0, .ref v0)] [] Γ I' L' Q) : am_W m_X3_readToll (d + 1) mc ms al bc bs 0 [(0, .ref v0)] [] Γ I L Q := by
  refine aw_aload_n dX3_readToll_0 rfl ?_
  exact aw_askV (as := []) (rst := []) k_X3_advance l_X3_43 i_X3_advance s_X3_advance rfl o1 dX3_readToll_1 rfl (Nat.le_of_ble_eq_true rfl) hbc hbs hC rfl rfl kk
theorem bX3_readToll_4 {d mc ms : Nat} {al : Bool} {bc bs : Nat} {Γ : am_G} {I : am_I} {L : am_L} {Q : am_Q} {v0 : Nat} {r2 : Nat} {I' : am_I} {L' : am_L} {mc' : Nat} {ms' : Nat} {r : Int32} (o1 : am_ob Γ v0 3) (g3 : Γ.2.2 v0 5 = some r2) (o4 : am_ob Γ r2 5) (hbc : mc' ≤ bc) (hbs : ms' ≤ bs) (hC : am_E m_X5_typeNamed d mc' ms' [.ref r2, .long (L v0 10)] Γ I L (.inl (some (.int r))) I' L') (kk : am_W m_X3_readToll (d + 1) mc ms al (bc - mc') (bs - ms') 16 [(0, .ref v0)] [.int r, .ref v0] Γ I' L' Q) : am_W m_X3_readToll (d + 1) mc ms al bc bs 4 [(0, .ref v0)] [] Γ I L Q := by
  refine aw_aload_n dX3_readToll_4 rfl ?_
  refine aw_aload_n dX3_readToll_5 rfl ?_
  refine aw_getR dX3_readToll_6 f_X3_19 o1 rfl g3 ?_
  refine aw_aload_n dX3_readToll_9 rfl ?_
  refine aw_getL dX3_readToll_10 f_X3_62 o1 rfl ?_
  exact aw_askV (as := [.long (L v0 10)]) (rst := [.ref v0]) k_X5_typeNamed l_X3_152 i_X5_typeNamed s_X5_typeNamed rfl o4 dX3_readToll_13 rfl (Nat.le_of_ble_eq_true rfl) hbc hbs hC rfl rfl kk
theorem bX3_readToll_16 {d mc ms : Nat} {al : Bool} {bc bs : Nat} {Γ : am_G} {I : am_I} {L : am_L} {Q : am_Q} {v0 : Nat} {w0 : Nat} {w1 : Int32} {I' : am_I} {L' : am_L} {mc' : Nat} {ms' : Nat} {r : Int32} (o1 : am_ob Γ w0 3) (hbc : mc' ≤ bc) (hbs : ms' ≤ bs) (hC : am_E m_X3_takeKnown d mc' ms' [.ref w0, .int w1] Γ I L (.inl (some (.int r))) I' L') (kk : am_W m_X3_readToll (d + 1) mc ms al (bc - mc') (bs - ms') 19 [(0, .ref v0)] [.int r] Γ I' L' Q) : am_W m_X3_readToll (d + 1) mc ms al bc bs 16 [(0, .ref v0)] [.int w1, .ref w0] Γ I L Q := by
  exact aw_askV (as := [.int w1]) (rst := []) k_X3_takeKnown l_X3_241 i_X3_takeKnown s_X3_takeKnown rfl o1 dX3_readToll_16 rfl (Nat.le_of_ble_eq_true rfl) hbc hbs hC rfl rfl kk
theorem bX3_readToll_19 {d mc ms : Nat} {al : Bool} {bc bs : Nat} {Γ : am_G} {I : am_I} {L : am_L} {Q : am_Q} {v0 : Nat} {w0 : Int32} (kt : w0 = (-1) → am_W m_X3_readToll d mc ms al bc bs 35 [(0, .ref v0), (1, .int w0)] [] Γ I L Q) (kf : ¬ w0 = (-1) → am_W m_X3_readToll d mc ms al bc bs 25 [(0, .ref v0), (1, .int w0)] [] Γ I L Q) : am_W m_X3_readToll d mc ms al bc bs 19 [(0, .ref v0)] [.int w0] Γ I L Q := by
  refine aw_istore_n (ls' := [(0, .ref v0), (1, .int w0)]) dX3_readToll_19 (by decide) rfl ?_
  refine aw_iload_n dX3_readToll_20 rfl ?_
  refine aw_iconst dX3_readToll_21 ci_m1 ?_
  exact aw_icmp_eq dX3_readToll_22 (by decide) kt kf
theorem bX3_readToll_25 {d mc ms : Nat} {al : Bool} {bc bs : Nat} {Γ : am_G} {I : am_I} {L : am_L} {Q : am_Q} {v0 : Nat} {v1 : Int32} {I' : am_I} {L' : am_L} {mc' : Nat} {ms' : Nat} {r : Int32} (o1 : am_ob Γ v0 3) (hbc : mc' ≤ bc) (hbs : ms' ≤ bs) (hC : am_E m_X3_isNumberIn d mc' ms' [.ref v0, .int 0, .int 99] Γ I L (.inl (some (.int r))) I' L') (kk : am_W m_X3_readToll (d + 1) mc ms al (bc - mc') (bs - ms') 32 [(0, .ref v0), (1, .int v1)] [.int r] Γ I' L' Q) : am_W m_X3_readToll (d + 1) mc ms al bc bs 25 [(0, .ref v0), (1, .int v1)] [] Γ I L Q := by
  refine aw_aload_n dX3_readToll_25 rfl ?_
  refine aw_iconst dX3_readToll_26 ci_0 ?_
  refine aw_bipush dX3_readToll_27 cb_99 ?_
  exact aw_askV (as := [.int 0, .int 99]) (rst := []) k_X3_isNumberIn l_X3_87 i_X3_isNumberIn s_X3_isNumberIn rfl o1 dX3_readToll_29 rfl (Nat.le_of_ble_eq_true rfl) hbc hbs hC rfl rfl kk
theorem bX3_readToll_32 {d mc ms : Nat} {al : Bool} {bc bs : Nat} {Γ : am_G} {I : am_I} {L : am_L} {Q : am_Q} {v0 : Nat} {v1 : Int32} {w0 : Int32} (kt : ¬ w0 = 0 → am_W m_X3_readToll d mc ms al bc bs 37 [(0, .ref v0), (1, .int v1)] [] Γ I L Q) (kf : w0 = 0 → am_W m_X3_readToll d mc ms al bc bs 35 [(0, .ref v0), (1, .int v1)] [] Γ I L Q) : am_W m_X3_readToll d mc ms al bc bs 32 [(0, .ref v0), (1, .int v1)] [.int w0] Γ I L Q := by
  exact aw_if_ne dX3_readToll_32 (by decide) kt kf
theorem bX3_readToll_35 {d mc ms : Nat} {al : Bool} {bc bs : Nat} {Γ : am_G} {I : am_I} {L : am_L} {Q : am_Q} {v0 : Nat} {v1 : Int32} (hq : Q (.inl (some (.int 0))) Γ I L) : am_W m_X3_readToll d mc ms al bc bs 35 [(0, .ref v0), (1, .int v1)] [] Γ I L Q := by
  refine aw_iconst dX3_readToll_35 ci_0 ?_
  exact aw_zret (ty := .boolean) dX3_readToll_36 rfl rfl hq
theorem bX3_readToll_37 {d mc ms : Nat} {al : Bool} {bc bs : Nat} {Γ : am_G} {I : am_I} {L : am_L} {Q : am_Q} {v0 : Nat} {v1 : Int32} {r2 : Nat} {r5 : Nat} {n_r5 : Nat} {I' : am_I} {L' : am_L} {mc' : Nat} {ms' : Nat} (o1 : am_ob Γ v0 3) (g3 : Γ.2.2 v0 5 = some r2) (o4 : am_ob Γ r2 5) (g6 : Γ.2.2 r2 8 = some r5) (a7 : am_ar Γ r5 1 n_r5 0) (i8 : vp_in v1 n_r5) (hbc : mc' ≤ bc) (hbs : ms' ≤ bs) (hC : am_E m_X3_advance d mc' ms' [.ref v0] Γ (am_u I r5 (v1.toNatClampNeg) (I v0 11)) L (.inl none) I' L') (kk : am_W m_X3_readToll (d + 1) mc ms al (bc - mc') (bs - ms') 54 [(0, .ref v0), (1, .int v1)] [] Γ I' L' Q) : am_W m_X3_readToll (d + 1) mc ms al bc bs 37 [(0, .ref v0), (1, .int v1)] [] Γ I L Q := by
  refine aw_aload_n dX3_readToll_37 rfl ?_
  refine aw_getR dX3_readToll_38 f_X3_19 o1 rfl g3 ?_
  refine aw_getR dX3_readToll_41 f_X3_158 o4 rfl g6 ?_
  refine aw_iload_n dX3_readToll_44 rfl ?_
  refine aw_aload_n dX3_readToll_45 rfl ?_
  refine aw_getI dX3_readToll_46 f_X3_66 o1 rfl ?_
  refine aw_iast dX3_readToll_49 a7 i8 ?_
  refine aw_aload_n dX3_readToll_50 rfl ?_
  exact aw_askV (as := []) (rst := []) k_X3_advance l_X3_43 i_X3_advance s_X3_advance rfl o1 dX3_readToll_51 rfl (Nat.le_of_ble_eq_true rfl) hbc hbs hC rfl rfl kk
theorem bX3_readToll_54 {d mc ms : Nat} {al : Bool} {bc bs : Nat} {Γ : am_G} {I : am_I} {L : am_L} {Q : am_Q} {v0 : Nat} {v1 : Int32} (hq : Q (.inl (some (.int 1))) Γ I L) : am_W m_X3_readToll d mc ms al bc bs 54 [(0, .ref v0), (1, .int v1)] [] Γ I L Q := by
  refine aw_iconst dX3_readToll_54 ci_1 ?_
  exact aw_zret (ty := .boolean) dX3_readToll_55 rfl rfl hq
theorem dX3_readLimit_0 : decode cX3_readLimit 0 = .ok (.aload_n 0, 1) := by decide +kernel
theorem dX3_readLimit_1 : decode cX3_readLimit 1 = .ok (.invokevirtual 43, 3) := by decide +kernel
theorem dX3_readLimit_4 : decode cX3_readLimit 4 = .ok (.aload_n 0, 1) := by decide +kernel
theorem dX3_readLimit_5 : decode cX3_readLimit 5 = .ok (.aload_n 0, 1) := by decide +kernel
theorem dX3_readLimit_6 : decode cX3_readLimit 6 = .ok (.getfield 19, 3) := by decide +kernel
theorem dX3_readLimit_9 : decode cX3_readLimit 9 = .ok (.aload_n 0, 1) := by decide +kernel
theorem dX3_readLimit_10 : decode cX3_readLimit 10 = .ok (.getfield 62, 3) := by decide +kernel
theorem dX3_readLimit_13 : decode cX3_readLimit 13 = .ok (.invokevirtual 188, 3) := by decide +kernel
theorem dX3_readLimit_16 : decode cX3_readLimit 16 = .ok (.invokevirtual 241, 3) := by decide +kernel
theorem dX3_readLimit_19 : decode cX3_readLimit 19 = .ok (.istore_n 1, 1) := by decide +kernel
theorem dX3_readLimit_20 : decode cX3_readLimit 20 = .ok (.iload_n 1, 1) := by decide +kernel
theorem dX3_readLimit_21 : decode cX3_readLimit 21 = .ok (.iconst (-1), 1) := by decide +kernel
theorem dX3_readLimit_22 : decode cX3_readLimit 22 = .ok (.if_icmp .eq 13, 3) := by decide +kernel
theorem dX3_readLimit_25 : decode cX3_readLimit 25 = .ok (.aload_n 0, 1) := by decide +kernel
theorem dX3_readLimit_26 : decode cX3_readLimit 26 = .ok (.iconst 0, 1) := by decide +kernel
theorem dX3_readLimit_27 : decode cX3_readLimit 27 = .ok (.bipush 30, 2) := by decide +kernel
theorem dX3_readLimit_29 : decode cX3_readLimit 29 = .ok (.invokevirtual 87, 3) := by decide +kernel
theorem dX3_readLimit_32 : decode cX3_readLimit 32 = .ok (.ifCond .ne 5, 3) := by decide +kernel
theorem dX3_readLimit_35 : decode cX3_readLimit 35 = .ok (.iconst 0, 1) := by decide +kernel
theorem dX3_readLimit_36 : decode cX3_readLimit 36 = .ok (.ireturn, 1) := by decide +kernel
theorem dX3_readLimit_37 : decode cX3_readLimit 37 = .ok (.aload_n 0, 1) := by decide +kernel
theorem dX3_readLimit_38 : decode cX3_readLimit 38 = .ok (.getfield 19, 3) := by decide +kernel
theorem dX3_readLimit_41 : decode cX3_readLimit 41 = .ok (.getfield 174, 3) := by decide +kernel
theorem dX3_readLimit_44 : decode cX3_readLimit 44 = .ok (.iload_n 1, 1) := by decide +kernel
theorem dX3_readLimit_45 : decode cX3_readLimit 45 = .ok (.aaload, 1) := by decide +kernel
theorem dX3_readLimit_46 : decode cX3_readLimit 46 = .ok (.aload_n 0, 1) := by decide +kernel
theorem dX3_readLimit_47 : decode cX3_readLimit 47 = .ok (.getfield 66, 3) := by decide +kernel
theorem dX3_readLimit_50 : decode cX3_readLimit 50 = .ok (.putfield 200, 3) := by decide +kernel
theorem dX3_readLimit_53 : decode cX3_readLimit 53 = .ok (.aload_n 0, 1) := by decide +kernel
theorem dX3_readLimit_54 : decode cX3_readLimit 54 = .ok (.invokevirtual 43, 3) := by decide +kernel
theorem dX3_readLimit_57 : decode cX3_readLimit 57 = .ok (.iconst 1, 1) := by decide +kernel
theorem dX3_readLimit_58 : decode cX3_readLimit 58 = .ok (.ireturn, 1) := by decide +kernel
theorem bX3_readLimit_0 {d mc ms : Nat} {al : Bool} {bc bs : Nat} {Γ : am_G} {I : am_I} {L : am_L} {Q : am_Q} {v0 : Nat} {I' : am_I} {L' : am_L} {mc' : Nat} {ms' : Nat} (o1 : am_ob Γ v0 3) (hbc : mc' ≤ bc) (hbs : ms' ≤ bs) (hC : am_E m_X3_advance d mc' ms' [.ref v0] Γ I L (.inl none) I' L') (kk : am_W m_X3_readLimit (d + 1) mc ms al (bc - mc') (bs - ms') 4 [(0, .ref v0)] [] Γ I' L' Q) : am_W m_X3_readLimit (d + 1) mc ms al bc bs 0 [(0, .ref v0)] [] Γ I L Q := by
  refine aw_aload_n dX3_readLimit_0 rfl ?_
  exact aw_askV (as := []) (rst := []) k_X3_advance l_X3_43 i_X3_advance s_X3_advance rfl o1 dX3_readLimit_1 rfl (Nat.le_of_ble_eq_true rfl) hbc hbs hC rfl rfl kk
theorem bX3_readLimit_4 {d mc ms : Nat} {al : Bool} {bc bs : Nat} {Γ : am_G} {I : am_I} {L : am_L} {Q : am_Q} {v0 : Nat} {r2 : Nat} {I' : am_I} {L' : am_L} {mc' : Nat} {ms' : Nat} {r : Int32} (o1 : am_ob Γ v0 3) (g3 : Γ.2.2 v0 5 = some r2) (o4 : am_ob Γ r2 5) (hbc : mc' ≤ bc) (hbs : ms' ≤ bs) (hC : am_E m_X5_gateNamed d mc' ms' [.ref r2, .long (L v0 10)] Γ I L (.inl (some (.int r))) I' L') (kk : am_W m_X3_readLimit (d + 1) mc ms al (bc - mc') (bs - ms') 16 [(0, .ref v0)] [.int r, .ref v0] Γ I' L' Q) : am_W m_X3_readLimit (d + 1) mc ms al bc bs 4 [(0, .ref v0)] [] Γ I L Q := by
  refine aw_aload_n dX3_readLimit_4 rfl ?_
  refine aw_aload_n dX3_readLimit_5 rfl ?_
  refine aw_getR dX3_readLimit_6 f_X3_19 o1 rfl g3 ?_
  refine aw_aload_n dX3_readLimit_9 rfl ?_
  refine aw_getL dX3_readLimit_10 f_X3_62 o1 rfl ?_
  exact aw_askV (as := [.long (L v0 10)]) (rst := [.ref v0]) k_X5_gateNamed l_X3_188 i_X5_gateNamed s_X5_gateNamed rfl o4 dX3_readLimit_13 rfl (Nat.le_of_ble_eq_true rfl) hbc hbs hC rfl rfl kk
theorem bX3_readLimit_16 {d mc ms : Nat} {al : Bool} {bc bs : Nat} {Γ : am_G} {I : am_I} {L : am_L} {Q : am_Q} {v0 : Nat} {w0 : Nat} {w1 : Int32} {I' : am_I} {L' : am_L} {mc' : Nat} {ms' : Nat} {r : Int32} (o1 : am_ob Γ w0 3) (hbc : mc' ≤ bc) (hbs : ms' ≤ bs) (hC : am_E m_X3_takeKnown d mc' ms' [.ref w0, .int w1] Γ I L (.inl (some (.int r))) I' L') (kk : am_W m_X3_readLimit (d + 1) mc ms al (bc - mc') (bs - ms') 19 [(0, .ref v0)] [.int r] Γ I' L' Q) : am_W m_X3_readLimit (d + 1) mc ms al bc bs 16 [(0, .ref v0)] [.int w1, .ref w0] Γ I L Q := by
  exact aw_askV (as := [.int w1]) (rst := []) k_X3_takeKnown l_X3_241 i_X3_takeKnown s_X3_takeKnown rfl o1 dX3_readLimit_16 rfl (Nat.le_of_ble_eq_true rfl) hbc hbs hC rfl rfl kk
theorem bX3_readLimit_19 {d mc ms : Nat} {al : Bool} {bc bs : Nat} {Γ : am_G} {I : am_I} {L : am_L} {Q : am_Q} {v0 : Nat} {w0 : Int32} (kt : w0 = (-1) → am_W m_X3_readLimit d mc ms al bc bs 35 [(0, .ref v0), (1, .int w0)] [] Γ I L Q) (kf : ¬ w0 = (-1) → am_W m_X3_readLimit d mc ms al bc bs 25 [(0, .ref v0), (1, .int w0)] [] Γ I L Q) : am_W m_X3_readLimit d mc ms al bc bs 19 [(0, .ref v0)] [.int w0] Γ I L Q := by
  refine aw_istore_n (ls' := [(0, .ref v0), (1, .int w0)]) dX3_readLimit_19 (by decide) rfl ?_
  refine aw_iload_n dX3_readLimit_20 rfl ?_
  refine aw_iconst dX3_readLimit_21 ci_m1 ?_
  exact aw_icmp_eq dX3_readLimit_22 (by decide) kt kf
theorem bX3_readLimit_25 {d mc ms : Nat} {al : Bool} {bc bs : Nat} {Γ : am_G} {I : am_I} {L : am_L} {Q : am_Q} {v0 : Nat} {v1 : Int32} {I' : am_I} {L' : am_L} {mc' : Nat} {ms' : Nat} {r : Int32} (o1 : am_ob Γ v0 3) (hbc : mc' ≤ bc) (hbs : ms' ≤ bs) (hC : am_E m_X3_isNumberIn d mc' ms' [.ref v0, .int 0, .int 30] Γ I L (.inl (some (.int r))) I' L') (kk : am_W m_X3_readLimit (d + 1) mc ms al (bc - mc') (bs - ms') 32 [(0, .ref v0), (1, .int v1)] [.int r] Γ I' L' Q) : am_W m_X3_readLimit (d + 1) mc ms al bc bs 25 [(0, .ref v0), (1, .int v1)] [] Γ I L Q := by
  refine aw_aload_n dX3_readLimit_25 rfl ?_
  refine aw_iconst dX3_readLimit_26 ci_0 ?_
  refine aw_bipush dX3_readLimit_27 cb_30 ?_
  exact aw_askV (as := [.int 0, .int 30]) (rst := []) k_X3_isNumberIn l_X3_87 i_X3_isNumberIn s_X3_isNumberIn rfl o1 dX3_readLimit_29 rfl (Nat.le_of_ble_eq_true rfl) hbc hbs hC rfl rfl kk
theorem bX3_readLimit_32 {d mc ms : Nat} {al : Bool} {bc bs : Nat} {Γ : am_G} {I : am_I} {L : am_L} {Q : am_Q} {v0 : Nat} {v1 : Int32} {w0 : Int32} (kt : ¬ w0 = 0 → am_W m_X3_readLimit d mc ms al bc bs 37 [(0, .ref v0), (1, .int v1)] [] Γ I L Q) (kf : w0 = 0 → am_W m_X3_readLimit d mc ms al bc bs 35 [(0, .ref v0), (1, .int v1)] [] Γ I L Q) : am_W m_X3_readLimit d mc ms al bc bs 32 [(0, .ref v0), (1, .int v1)] [.int w0] Γ I L Q := by
  exact aw_if_ne dX3_readLimit_32 (by decide) kt kf
theorem bX3_readLimit_35 {d mc ms : Nat} {al : Bool} {bc bs : Nat} {Γ : am_G} {I : am_I} {L : am_L} {Q : am_Q} {v0 : Nat} {v1 : Int32} (hq : Q (.inl (some (.int 0))) Γ I L) : am_W m_X3_readLimit d mc ms al bc bs 35 [(0, .ref v0), (1, .int v1)] [] Γ I L Q := by
  refine aw_iconst dX3_readLimit_35 ci_0 ?_
  exact aw_zret (ty := .boolean) dX3_readLimit_36 rfl rfl hq
theorem bX3_readLimit_37 {d mc ms : Nat} {al : Bool} {bc bs : Nat} {Γ : am_G} {I : am_I} {L : am_L} {Q : am_Q} {v0 : Nat} {v1 : Int32} {r2 : Nat} {r5 : Nat} {n_r5 : Nat} {r9 : Nat} {I' : am_I} {L' : am_L} {mc' : Nat} {ms' : Nat} (o1 : am_ob Γ v0 3) (g3 : Γ.2.2 v0 5 = some r2) (o4 : am_ob Γ r2 5) (g6 : Γ.2.2 r2 9 = some r5) (a7 : am_ar Γ r5 6 n_r5 0) (i8 : vp_in v1 n_r5) (g10 : Γ.2.2 r5 (v1.toNatClampNeg) = some r9) (o11 : am_ob Γ r9 0) (hbc : mc' ≤ bc) (hbs : ms' ≤ bs) (hC : am_E m_X3_advance d mc' ms' [.ref v0] Γ (am_u I r9 3 (I v0 11)) L (.inl none) I' L') (kk : am_W m_X3_readLimit (d + 1) mc ms al (bc - mc') (bs - ms') 57 [(0, .ref v0), (1, .int v1)] [] Γ I' L' Q) : am_W m_X3_readLimit (d + 1) mc ms al bc bs 37 [(0, .ref v0), (1, .int v1)] [] Γ I L Q := by
  refine aw_aload_n dX3_readLimit_37 rfl ?_
  refine aw_getR dX3_readLimit_38 f_X3_19 o1 rfl g3 ?_
  refine aw_getR dX3_readLimit_41 f_X3_174 o4 rfl g6 ?_
  refine aw_iload_n dX3_readLimit_44 rfl ?_
  refine aw_aald dX3_readLimit_45 a7 i8 g10 ?_
  refine aw_aload_n dX3_readLimit_46 rfl ?_
  refine aw_getI dX3_readLimit_47 f_X3_66 o1 rfl ?_
  refine aw_putI dX3_readLimit_50 pf_X3_200 o11 rfl ?_
  refine aw_aload_n dX3_readLimit_53 rfl ?_
  exact aw_askV (as := []) (rst := []) k_X3_advance l_X3_43 i_X3_advance s_X3_advance rfl o1 dX3_readLimit_54 rfl (Nat.le_of_ble_eq_true rfl) hbc hbs hC rfl rfl kk
theorem bX3_readLimit_57 {d mc ms : Nat} {al : Bool} {bc bs : Nat} {Γ : am_G} {I : am_I} {L : am_L} {Q : am_Q} {v0 : Nat} {v1 : Int32} (hq : Q (.inl (some (.int 1))) Γ I L) : am_W m_X3_readLimit d mc ms al bc bs 57 [(0, .ref v0), (1, .int v1)] [] Γ I L Q := by
  refine aw_iconst dX3_readLimit_57 ci_1 ?_
  exact aw_zret (ty := .boolean) dX3_readLimit_58 rfl rfl hq
theorem dX3_readHours_0 : decode cX3_readHours 0 = .ok (.aload_n 0, 1) := by decide +kernel
theorem dX3_readHours_1 : decode cX3_readHours 1 = .ok (.invokevirtual 43, 3) := by decide +kernel
theorem dX3_readHours_4 : decode cX3_readHours 4 = .ok (.aload_n 0, 1) := by decide +kernel
theorem dX3_readHours_5 : decode cX3_readHours 5 = .ok (.iconst 1, 1) := by decide +kernel
theorem dX3_readHours_6 : decode cX3_readHours 6 = .ok (.bipush 100, 2) := by decide +kernel
theorem dX3_readHours_8 : decode cX3_readHours 8 = .ok (.sipush 9999, 3) := by decide +kernel
theorem dX3_readHours_11 : decode cX3_readHours 11 = .ok (.aload_n 0, 1) := by decide +kernel
theorem dX3_readHours_12 : decode cX3_readHours 12 = .ok (.getfield 19, 3) := by decide +kernel
theorem dX3_readHours_15 : decode cX3_readHours 15 = .ok (.getfield 256, 3) := by decide +kernel
theorem dX3_readHours_18 : decode cX3_readHours 18 = .ok (.isub, 1) := by decide +kernel
theorem dX3_readHours_19 : decode cX3_readHours 19 = .ok (.invokestatic 258, 3) := by decide +kernel
theorem dX3_readHours_22 : decode cX3_readHours 22 = .ok (.invokevirtual 87, 3) := by decide +kernel
theorem dX3_readHours_25 : decode cX3_readHours 25 = .ok (.ifCond .ne 5, 3) := by decide +kernel
theorem dX3_readHours_28 : decode cX3_readHours 28 = .ok (.iconst 0, 1) := by decide +kernel
theorem dX3_readHours_29 : decode cX3_readHours 29 = .ok (.ireturn, 1) := by decide +kernel
theorem dX3_readHours_30 : decode cX3_readHours 30 = .ok (.aload_n 0, 1) := by decide +kernel
theorem dX3_readHours_31 : decode cX3_readHours 31 = .ok (.getfield 19, 3) := by decide +kernel
theorem dX3_readHours_34 : decode cX3_readHours 34 = .ok (.dup, 1) := by decide +kernel
theorem dX3_readHours_35 : decode cX3_readHours 35 = .ok (.getfield 256, 3) := by decide +kernel
theorem dX3_readHours_38 : decode cX3_readHours 38 = .ok (.aload_n 0, 1) := by decide +kernel
theorem dX3_readHours_39 : decode cX3_readHours 39 = .ok (.getfield 66, 3) := by decide +kernel
theorem dX3_readHours_42 : decode cX3_readHours 42 = .ok (.iadd, 1) := by decide +kernel
theorem dX3_readHours_43 : decode cX3_readHours 43 = .ok (.putfield 256, 3) := by decide +kernel
theorem dX3_readHours_46 : decode cX3_readHours 46 = .ok (.aload_n 0, 1) := by decide +kernel
theorem dX3_readHours_47 : decode cX3_readHours 47 = .ok (.invokevirtual 43, 3) := by decide +kernel
theorem dX3_readHours_50 : decode cX3_readHours 50 = .ok (.iconst 1, 1) := by decide +kernel
theorem dX3_readHours_51 : decode cX3_readHours 51 = .ok (.ireturn, 1) := by decide +kernel
theorem bX3_readHours_0 {d mc ms : Nat} {al : Bool} {bc bs : Nat} {Γ : am_G} {I : am_I} {L : am_L} {Q : am_Q} {v0 : Nat} {I' : am_I} {L' : am_L} {mc' : Nat} {ms' : Nat} (o1 : am_ob Γ v0 3) (hbc : mc' ≤ bc) (hbs : ms' ≤ bs) (hC : am_E m_X3_advance d mc' ms' [.ref v0] Γ I L (.inl none) I' L') (kk : am_W m_X3_readHours (d + 1) mc ms al (bc - mc') (bs - ms') 4 [(0, .ref v0)] [] Γ I' L' Q) : am_W m_X3_readHours (d + 1) mc ms al bc bs 0 [(0, .ref v0)] [] Γ I L Q := by
  refine aw_aload_n dX3_readHours_0 rfl ?_
  exact aw_askV (as := []) (rst := []) k_X3_advance l_X3_43 i_X3_advance s_X3_advance rfl o1 dX3_readHours_1 rfl (Nat.le_of_ble_eq_true rfl) hbc hbs hC rfl rfl kk
theorem bX3_readHours_4 {d mc ms : Nat} {al : Bool} {bc bs : Nat} {Γ : am_G} {I : am_I} {L : am_L} {Q : am_Q} {v0 : Nat} {r2 : Nat} {I' : am_I} {L' : am_L} {mc' : Nat} {ms' : Nat} {r : Int32} (o1 : am_ob Γ v0 3) (g3 : Γ.2.2 v0 5 = some r2) (o4 : am_ob Γ r2 5) (hbc : mc' ≤ bc) (hbs : ms' ≤ bs) (hC : am_E m_X3_isNumberIn d mc' ms' [.ref v0, .int 1, .int (if (9999 - (I r2 3)) < 100 then (9999 - (I r2 3)) else 100)] Γ I L (.inl (some (.int r))) I' L') (kk : am_W m_X3_readHours (d + 1) mc ms al (bc - mc') (bs - ms') 25 [(0, .ref v0)] [.int r] Γ I' L' Q) : am_W m_X3_readHours (d + 1) mc ms al bc bs 4 [(0, .ref v0)] [] Γ I L Q := by
  refine aw_aload_n dX3_readHours_4 rfl ?_
  refine aw_iconst dX3_readHours_5 ci_1 ?_
  refine aw_bipush dX3_readHours_6 cb_100 ?_
  refine aw_sipush dX3_readHours_8 cs_9999 ?_
  refine aw_aload_n dX3_readHours_11 rfl ?_
  refine aw_getR dX3_readHours_12 f_X3_19 o1 rfl g3 ?_
  refine aw_getI dX3_readHours_15 f_X3_256 o4 rfl ?_
  refine aw_isub dX3_readHours_18 ?_
  refine aw_min dX3_readHours_19 mf_X3_258 (Nat.le_of_ble_eq_true rfl) ?_
  exact aw_askV (as := [.int 1, .int (if (9999 - (I r2 3)) < 100 then (9999 - (I r2 3)) else 100)]) (rst := []) k_X3_isNumberIn l_X3_87 i_X3_isNumberIn s_X3_isNumberIn rfl o1 dX3_readHours_22 rfl (Nat.le_of_ble_eq_true rfl) hbc hbs hC rfl rfl kk
theorem bX3_readHours_25 {d mc ms : Nat} {al : Bool} {bc bs : Nat} {Γ : am_G} {I : am_I} {L : am_L} {Q : am_Q} {v0 : Nat} {w0 : Int32} (kt : ¬ w0 = 0 → am_W m_X3_readHours d mc ms al bc bs 30 [(0, .ref v0)] [] Γ I L Q) (kf : w0 = 0 → am_W m_X3_readHours d mc ms al bc bs 28 [(0, .ref v0)] [] Γ I L Q) : am_W m_X3_readHours d mc ms al bc bs 25 [(0, .ref v0)] [.int w0] Γ I L Q := by
  exact aw_if_ne dX3_readHours_25 (by decide) kt kf
theorem bX3_readHours_28 {d mc ms : Nat} {al : Bool} {bc bs : Nat} {Γ : am_G} {I : am_I} {L : am_L} {Q : am_Q} {v0 : Nat} (hq : Q (.inl (some (.int 0))) Γ I L) : am_W m_X3_readHours d mc ms al bc bs 28 [(0, .ref v0)] [] Γ I L Q := by
  refine aw_iconst dX3_readHours_28 ci_0 ?_
  exact aw_zret (ty := .boolean) dX3_readHours_29 rfl rfl hq
theorem bX3_readHours_30 {d mc ms : Nat} {al : Bool} {bc bs : Nat} {Γ : am_G} {I : am_I} {L : am_L} {Q : am_Q} {v0 : Nat} {r2 : Nat} {I' : am_I} {L' : am_L} {mc' : Nat} {ms' : Nat} (o1 : am_ob Γ v0 3) (g3 : Γ.2.2 v0 5 = some r2) (o4 : am_ob Γ r2 5) (hbc : mc' ≤ bc) (hbs : ms' ≤ bs) (hC : am_E m_X3_advance d mc' ms' [.ref v0] Γ (am_u I r2 3 ((I r2 3) + (I v0 11))) L (.inl none) I' L') (kk : am_W m_X3_readHours (d + 1) mc ms al (bc - mc') (bs - ms') 50 [(0, .ref v0)] [] Γ I' L' Q) : am_W m_X3_readHours (d + 1) mc ms al bc bs 30 [(0, .ref v0)] [] Γ I L Q := by
  refine aw_aload_n dX3_readHours_30 rfl ?_
  refine aw_getR dX3_readHours_31 f_X3_19 o1 rfl g3 ?_
  refine aw_dup dX3_readHours_34 rfl ?_
  refine aw_getI dX3_readHours_35 f_X3_256 o4 rfl ?_
  refine aw_aload_n dX3_readHours_38 rfl ?_
  refine aw_getI dX3_readHours_39 f_X3_66 o1 rfl ?_
  refine aw_iadd dX3_readHours_42 ?_
  refine aw_putI dX3_readHours_43 pf_X3_256 o4 rfl ?_
  refine aw_aload_n dX3_readHours_46 rfl ?_
  exact aw_askV (as := []) (rst := []) k_X3_advance l_X3_43 i_X3_advance s_X3_advance rfl o1 dX3_readHours_47 rfl (Nat.le_of_ble_eq_true rfl) hbc hbs hC rfl rfl kk
theorem bX3_readHours_50 {d mc ms : Nat} {al : Bool} {bc bs : Nat} {Γ : am_G} {I : am_I} {L : am_L} {Q : am_Q} {v0 : Nat} (hq : Q (.inl (some (.int 1))) Γ I L) : am_W m_X3_readHours d mc ms al bc bs 50 [(0, .ref v0)] [] Γ I L Q := by
  refine aw_iconst dX3_readHours_50 ci_1 ?_
  exact aw_zret (ty := .boolean) dX3_readHours_51 rfl rfl hq
