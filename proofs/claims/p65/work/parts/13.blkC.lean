/-! BLOCKS (printed by program): what each straight stretch of the code does in the numbered machine -/
theorem dX4_init_0 : decode cX4_init 0 = .ok (.aload_n 0, 1) := by decide +kernel
theorem dX4_init_1 : decode cX4_init 1 = .ok (.invokespecial 3, 3) := by decide +kernel
theorem dX4_init_4 : decode cX4_init 4 = .ok (.aload_n 0, 1) := by decide +kernel
theorem dX4_init_5 : decode cX4_init 5 = .ok (.sipush 7936, 3) := by decide +kernel
theorem dX4_init_8 : decode cX4_init 8 = .ok (.newarray .long, 2) := by decide +kernel
theorem dX4_init_10 : decode cX4_init 10 = .ok (.putfield 9, 3) := by decide +kernel
theorem dX4_init_13 : decode cX4_init 13 = .ok (.aload_n 0, 1) := by decide +kernel
theorem dX4_init_14 : decode cX4_init 14 = .ok (.sipush 256, 3) := by decide +kernel
theorem dX4_init_17 : decode cX4_init 17 = .ok (.newarray .int, 2) := by decide +kernel
theorem dX4_init_19 : decode cX4_init 19 = .ok (.putfield 15, 3) := by decide +kernel
theorem dX4_init_22 : decode cX4_init 22 = .ok (.aload_n 0, 1) := by decide +kernel
theorem dX4_init_23 : decode cX4_init 23 = .ok (.sipush 256, 3) := by decide +kernel
theorem dX4_init_26 : decode cX4_init 26 = .ok (.newarray .int, 2) := by decide +kernel
theorem dX4_init_28 : decode cX4_init 28 = .ok (.putfield 19, 3) := by decide +kernel
theorem dX4_init_31 : decode cX4_init 31 = .ok (.aload_n 0, 1) := by decide +kernel
theorem dX4_init_32 : decode cX4_init 32 = .ok (.bipush 8, 2) := by decide +kernel
theorem dX4_init_34 : decode cX4_init 34 = .ok (.newarray .int, 2) := by decide +kernel
theorem dX4_init_36 : decode cX4_init 36 = .ok (.putfield 22, 3) := by decide +kernel
theorem dX4_init_39 : decode cX4_init 39 = .ok (.aload_n 0, 1) := by decide +kernel
theorem dX4_init_40 : decode cX4_init 40 = .ok (.bipush 15, 2) := by decide +kernel
theorem dX4_init_42 : decode cX4_init 42 = .ok (.newarray .int, 2) := by decide +kernel
theorem dX4_init_44 : decode cX4_init 44 = .ok (.putfield 25, 3) := by decide +kernel
theorem dX4_init_47 : decode cX4_init 47 = .ok (.aload_n 0, 1) := by decide +kernel
theorem dX4_init_48 : decode cX4_init 48 = .ok (.bipush 15, 2) := by decide +kernel
theorem dX4_init_50 : decode cX4_init 50 = .ok (.newarray .int, 2) := by decide +kernel
theorem dX4_init_52 : decode cX4_init 52 = .ok (.putfield 28, 3) := by decide +kernel
theorem dX4_init_55 : decode cX4_init 55 = .ok (.aload_n 0, 1) := by decide +kernel
theorem dX4_init_56 : decode cX4_init 56 = .ok (.bipush 15, 2) := by decide +kernel
theorem dX4_init_58 : decode cX4_init 58 = .ok (.newarray .int, 2) := by decide +kernel
theorem dX4_init_60 : decode cX4_init 60 = .ok (.putfield 31, 3) := by decide +kernel
theorem dX4_init_63 : decode cX4_init 63 = .ok (.return_, 1) := by decide +kernel
theorem dX4_solve_0 : decode cX4_solve 0 = .ok (.aload_n 1, 1) := by decide +kernel
theorem dX4_solve_1 : decode cX4_solve 1 = .ok (.invokevirtual 34, 3) := by decide +kernel
theorem dX4_solve_4 : decode cX4_solve 4 = .ok (.istore 5, 2) := by decide +kernel
theorem dX4_solve_6 : decode cX4_solve 6 = .ok (.aload_n 0, 1) := by decide +kernel
theorem dX4_solve_7 : decode cX4_solve 7 = .ok (.aload_n 2, 1) := by decide +kernel
theorem dX4_solve_8 : decode cX4_solve 8 = .ok (.aload_n 1, 1) := by decide +kernel
theorem dX4_solve_9 : decode cX4_solve 9 = .ok (.getfield 40, 3) := by decide +kernel
theorem dX4_solve_12 : decode cX4_solve 12 = .ok (.invokevirtual 44, 3) := by decide +kernel
theorem dX4_solve_15 : decode cX4_solve 15 = .ok (.aload_n 0, 1) := by decide +kernel
theorem dX4_solve_16 : decode cX4_solve 16 = .ok (.aload_n 1, 1) := by decide +kernel
theorem dX4_solve_17 : decode cX4_solve 17 = .ok (.invokevirtual 48, 3) := by decide +kernel
theorem dX4_solve_20 : decode cX4_solve 20 = .ok (.aload_n 0, 1) := by decide +kernel
theorem dX4_solve_21 : decode cX4_solve 21 = .ok (.getfield 15, 3) := by decide +kernel
theorem dX4_solve_24 : decode cX4_solve 24 = .ok (.iconst 0, 1) := by decide +kernel
theorem dX4_solve_25 : decode cX4_solve 25 = .ok (.invokestatic 52, 3) := by decide +kernel
theorem dX4_solve_28 : decode cX4_solve 28 = .ok (.aload_n 0, 1) := by decide +kernel
theorem dX4_solve_29 : decode cX4_solve 29 = .ok (.getfield 15, 3) := by decide +kernel
theorem dX4_solve_32 : decode cX4_solve 32 = .ok (.iload 5, 2) := by decide +kernel
theorem dX4_solve_34 : decode cX4_solve 34 = .ok (.iload_n 3, 1) := by decide +kernel
theorem dX4_solve_35 : decode cX4_solve 35 = .ok (.iastore, 1) := by decide +kernel
theorem dX4_solve_36 : decode cX4_solve 36 = .ok (.iload 5, 2) := by decide +kernel
theorem dX4_solve_38 : decode cX4_solve 38 = .ok (.istore 6, 2) := by decide +kernel
theorem dX4_solve_40 : decode cX4_solve 40 = .ok (.iload 6, 2) := by decide +kernel
theorem dX4_solve_42 : decode cX4_solve 42 = .ok (.ifCond .le 18, 3) := by decide +kernel
theorem dX4_solve_45 : decode cX4_solve 45 = .ok (.aload_n 0, 1) := by decide +kernel
theorem dX4_solve_46 : decode cX4_solve 46 = .ok (.aload_n 1, 1) := by decide +kernel
theorem dX4_solve_47 : decode cX4_solve 47 = .ok (.iload 6, 2) := by decide +kernel
theorem dX4_solve_49 : decode cX4_solve 49 = .ok (.iload 4, 2) := by decide +kernel
theorem dX4_solve_51 : decode cX4_solve 51 = .ok (.invokevirtual 58, 3) := by decide +kernel
theorem dX4_solve_54 : decode cX4_solve 54 = .ok (.iinc 6 (-1), 3) := by decide +kernel
theorem dX4_solve_57 : decode cX4_solve 57 = .ok (.goto (-17), 3) := by decide +kernel
theorem dX4_solve_60 : decode cX4_solve 60 = .ok (.iconst 1, 1) := by decide +kernel
theorem dX4_solve_61 : decode cX4_solve 61 = .ok (.istore 6, 2) := by decide +kernel
theorem dX4_solve_63 : decode cX4_solve 63 = .ok (.iload 6, 2) := by decide +kernel
theorem dX4_solve_65 : decode cX4_solve 65 = .ok (.iload 5, 2) := by decide +kernel
theorem dX4_solve_67 : decode cX4_solve 67 = .ok (.if_icmp .gt 35, 3) := by decide +kernel
theorem dX4_solve_70 : decode cX4_solve 70 = .ok (.aload_n 0, 1) := by decide +kernel
theorem dX4_solve_71 : decode cX4_solve 71 = .ok (.getfield 15, 3) := by decide +kernel
theorem dX4_solve_74 : decode cX4_solve 74 = .ok (.iload 6, 2) := by decide +kernel
theorem dX4_solve_76 : decode cX4_solve 76 = .ok (.iaload, 1) := by decide +kernel
theorem dX4_solve_77 : decode cX4_solve 77 = .ok (.ifCond .eq 19, 3) := by decide +kernel
theorem dX4_solve_80 : decode cX4_solve 80 = .ok (.aload_n 0, 1) := by decide +kernel
theorem dX4_solve_81 : decode cX4_solve 81 = .ok (.aload_n 1, 1) := by decide +kernel
theorem dX4_solve_82 : decode cX4_solve 82 = .ok (.iload 6, 2) := by decide +kernel
theorem dX4_solve_84 : decode cX4_solve 84 = .ok (.aload_n 0, 1) := by decide +kernel
theorem dX4_solve_85 : decode cX4_solve 85 = .ok (.aload_n 1, 1) := by decide +kernel
theorem dX4_solve_86 : decode cX4_solve 86 = .ok (.iload 6, 2) := by decide +kernel
theorem dX4_solve_88 : decode cX4_solve 88 = .ok (.invokevirtual 62, 3) := by decide +kernel
theorem dX4_solve_91 : decode cX4_solve 91 = .ok (.iload 4, 2) := by decide +kernel
theorem dX4_solve_93 : decode cX4_solve 93 = .ok (.invokevirtual 66, 3) := by decide +kernel
theorem dX4_solve_96 : decode cX4_solve 96 = .ok (.iinc 6 1, 3) := by decide +kernel
theorem dX4_solve_99 : decode cX4_solve 99 = .ok (.goto (-36), 3) := by decide +kernel
theorem dX4_solve_102 : decode cX4_solve 102 = .ok (.return_, 1) := by decide +kernel
theorem bX4_solve_0 {d mc ms : Nat} {al : Bool} {bc bs : Nat} {Γ : am_G} {I : am_I} {L : am_L} {Q : am_Q} {v0 : Nat} {v1 : Nat} {v2 : Nat} {v3 : Int32} {v4 : Int32} {I' : am_I} {L' : am_L} {mc' : Nat} {ms' : Nat} {r : Int32} (o1 : am_ob Γ v1 5) (hbc : mc' ≤ bc) (hbs : ms' ≤ bs) (hC : am_E m_X5_allTypes d mc' ms' [.ref v1] Γ I L (.inl (some (.int r))) I' L') (kk : am_W m_X4_solve (d + 1) mc ms al (bc - mc') (bs - ms') 4 [(0, .ref v0), (1, .ref v1), (2, .ref v2), (3, .int v3), (4, .int v4)] [.int r] Γ I' L' Q) : am_W m_X4_solve (d + 1) mc ms al bc bs 0 [(0, .ref v0), (1, .ref v1), (2, .ref v2), (3, .int v3), (4, .int v4)] [] Γ I L Q := by
  refine aw_aload_n dX4_solve_0 rfl ?_
  exact aw_askV (as := []) (rst := []) k_X5_allTypes l_X4_34 i_X5_allTypes s_X5_allTypes rfl o1 dX4_solve_1 rfl (Nat.le_of_ble_eq_true rfl) hbc hbs hC rfl rfl kk
theorem bX4_solve_4 {d mc ms : Nat} {al : Bool} {bc bs : Nat} {Γ : am_G} {I : am_I} {L : am_L} {Q : am_Q} {v0 : Nat} {v1 : Nat} {v2 : Nat} {v3 : Int32} {v4 : Int32} {w0 : Int32} {I' : am_I} {L' : am_L} {mc' : Nat} {ms' : Nat} (o1 : am_ob Γ v1 5) (o2 : am_ob Γ v0 4) (hbc : mc' ≤ bc) (hbs : ms' ≤ bs) (hC : am_E m_X4_weighSets d mc' ms' [.ref v0, .ref v2, .int (I v1 1)] Γ I L (.inl none) I' L') (kk : am_W m_X4_solve (d + 1) mc ms al (bc - mc') (bs - ms') 15 [(0, .ref v0), (1, .ref v1), (2, .ref v2), (3, .int v3), (4, .int v4), (5, .int w0)] [] Γ I' L' Q) : am_W m_X4_solve (d + 1) mc ms al bc bs 4 [(0, .ref v0), (1, .ref v1), (2, .ref v2), (3, .int v3), (4, .int v4)] [.int w0] Γ I L Q := by
  refine aw_istore (ls' := [(0, .ref v0), (1, .ref v1), (2, .ref v2), (3, .int v3), (4, .int v4), (5, .int w0)]) dX4_solve_4 (by decide) rfl ?_
  refine aw_aload_n dX4_solve_6 rfl ?_
  refine aw_aload_n dX4_solve_7 rfl ?_
  refine aw_aload_n dX4_solve_8 rfl ?_
  refine aw_getI dX4_solve_9 f_X4_40 o1 rfl ?_
  exact aw_askV (as := [.ref v2, .int (I v1 1)]) (rst := []) k_X4_weighSets l_X4_44 i_X4_weighSets s_X4_weighSets rfl o2 dX4_solve_12 rfl (Nat.le_of_ble_eq_true rfl) hbc hbs hC rfl rfl kk
theorem bX4_solve_15 {d mc ms : Nat} {al : Bool} {bc bs : Nat} {Γ : am_G} {I : am_I} {L : am_L} {Q : am_Q} {v0 : Nat} {v1 : Nat} {v2 : Nat} {v3 : Int32} {v4 : Int32} {v5 : Int32} {I' : am_I} {L' : am_L} {mc' : Nat} {ms' : Nat} (o1 : am_ob Γ v0 4) (hbc : mc' ≤ bc) (hbs : ms' ≤ bs) (hC : am_E m_X4_groupTolls d mc' ms' [.ref v0, .ref v1] Γ I L (.inl none) I' L') (kk : am_W m_X4_solve (d + 1) mc ms al (bc - mc') (bs - ms') 20 [(0, .ref v0), (1, .ref v1), (2, .ref v2), (3, .int v3), (4, .int v4), (5, .int v5)] [] Γ I' L' Q) : am_W m_X4_solve (d + 1) mc ms al bc bs 15 [(0, .ref v0), (1, .ref v1), (2, .ref v2), (3, .int v3), (4, .int v4), (5, .int v5)] [] Γ I L Q := by
  refine aw_aload_n dX4_solve_15 rfl ?_
  refine aw_aload_n dX4_solve_16 rfl ?_
  exact aw_askV (as := [.ref v1]) (rst := []) k_X4_groupTolls l_X4_48 i_X4_groupTolls s_X4_groupTolls rfl o1 dX4_solve_17 rfl (Nat.le_of_ble_eq_true rfl) hbc hbs hC rfl rfl kk
theorem bX4_solve_20 {d mc ms : Nat} {al : Bool} {bc bs : Nat} {Γ : am_G} {I : am_I} {L : am_L} {Q : am_Q} {v0 : Nat} {v1 : Nat} {v2 : Nat} {v3 : Int32} {v4 : Int32} {v5 : Int32} {r2 : Nat} {I' : am_I} {L' : am_L} {mc' : Nat} {ms' : Nat} (o1 : am_ob Γ v0 4) (g3 : Γ.2.2 v0 1 = some r2) (hbc : mc' ≤ bc) (hbs : ms' ≤ bs) (hC : am_E m_J7_fill_53178 d mc' ms' [.ref r2, .int 0] Γ I L (.inl none) I' L') (kk : am_W m_X4_solve (d + 1) mc ms al (bc - mc') (bs - ms') 28 [(0, .ref v0), (1, .ref v1), (2, .ref v2), (3, .int v3), (4, .int v4), (5, .int v5)] [] Γ I' L' Q) : am_W m_X4_solve (d + 1) mc ms al bc bs 20 [(0, .ref v0), (1, .ref v1), (2, .ref v2), (3, .int v3), (4, .int v4), (5, .int v5)] [] Γ I L Q := by
  refine aw_aload_n dX4_solve_20 rfl ?_
  refine aw_getR dX4_solve_21 f_X4_15 o1 rfl g3 ?_
  refine aw_iconst dX4_solve_24 ci_0 ?_
  exact aw_askS (as := [.ref r2, .int 0]) (rst := []) k_J7_fill_53178 l_X4_52 t_J7_fill_53178 dX4_solve_25 rfl (Nat.le_of_ble_eq_true rfl) hbc hbs hC rfl rfl kk
theorem bX4_solve_28 {d mc ms : Nat} {al : Bool} {bc bs : Nat} {Γ : am_G} {I : am_I} {L : am_L} {Q : am_Q} {v0 : Nat} {v1 : Nat} {v2 : Nat} {v3 : Int32} {v4 : Int32} {v5 : Int32} {r2 : Nat} {n_r2 : Nat} (o1 : am_ob Γ v0 4) (g3 : Γ.2.2 v0 1 = some r2) (a4 : am_ar Γ r2 1 n_r2 0) (i5 : vp_in v5 n_r2) (kk : am_W m_X4_solve d mc ms al bc bs 40 [(0, .ref v0), (1, .ref v1), (2, .ref v2), (3, .int v3), (4, .int v4), (5, .int v5), (6, .int v5)] [] Γ (am_u I r2 (v5.toNatClampNeg) v3) L Q) : am_W m_X4_solve d mc ms al bc bs 28 [(0, .ref v0), (1, .ref v1), (2, .ref v2), (3, .int v3), (4, .int v4), (5, .int v5)] [] Γ I L Q := by
  refine aw_aload_n dX4_solve_28 rfl ?_
  refine aw_getR dX4_solve_29 f_X4_15 o1 rfl g3 ?_
  refine aw_iload dX4_solve_32 rfl ?_
  refine aw_iload_n dX4_solve_34 rfl ?_
  refine aw_iast dX4_solve_35 a4 i5 ?_
  refine aw_iload dX4_solve_36 rfl ?_
  refine aw_istore (ls' := [(0, .ref v0), (1, .ref v1), (2, .ref v2), (3, .int v3), (4, .int v4), (5, .int v5), (6, .int v5)]) dX4_solve_38 (by decide) rfl ?_
  exact kk
theorem bX4_solve_40 {d mc ms : Nat} {al : Bool} {bc bs : Nat} {Γ : am_G} {I : am_I} {L : am_L} {Q : am_Q} {v0 : Nat} {v1 : Nat} {v2 : Nat} {v3 : Int32} {v4 : Int32} {v5 : Int32} {v6 : Int32} (kt : v6 ≤ 0 → am_W m_X4_solve d mc ms al bc bs 60 [(0, .ref v0), (1, .ref v1), (2, .ref v2), (3, .int v3), (4, .int v4), (5, .int v5), (6, .int v6)] [] Γ I L Q) (kf : ¬ v6 ≤ 0 → am_W m_X4_solve d mc ms al bc bs 45 [(0, .ref v0), (1, .ref v1), (2, .ref v2), (3, .int v3), (4, .int v4), (5, .int v5), (6, .int v6)] [] Γ I L Q) : am_W m_X4_solve d mc ms al bc bs 40 [(0, .ref v0), (1, .ref v1), (2, .ref v2), (3, .int v3), (4, .int v4), (5, .int v5), (6, .int v6)] [] Γ I L Q := by
  refine aw_iload dX4_solve_40 rfl ?_
  exact aw_if_le dX4_solve_42 (by decide) kt kf
theorem bX4_solve_45 {d mc ms : Nat} {al : Bool} {bc bs : Nat} {Γ : am_G} {I : am_I} {L : am_L} {Q : am_Q} {v0 : Nat} {v1 : Nat} {v2 : Nat} {v3 : Int32} {v4 : Int32} {v5 : Int32} {v6 : Int32} {I' : am_I} {L' : am_L} {mc' : Nat} {ms' : Nat} (o1 : am_ob Γ v0 4) (hbc : mc' ≤ bc) (hbs : ms' ≤ bs) (hC : am_E m_X4_needChildren d mc' ms' [.ref v0, .ref v1, .int v6, .int v4] Γ I L (.inl none) I' L') (kk : am_W m_X4_solve (d + 1) mc ms al (bc - mc') (bs - ms') 54 [(0, .ref v0), (1, .ref v1), (2, .ref v2), (3, .int v3), (4, .int v4), (5, .int v5), (6, .int v6)] [] Γ I' L' Q) : am_W m_X4_solve (d + 1) mc ms al bc bs 45 [(0, .ref v0), (1, .ref v1), (2, .ref v2), (3, .int v3), (4, .int v4), (5, .int v5), (6, .int v6)] [] Γ I L Q := by
  refine aw_aload_n dX4_solve_45 rfl ?_
  refine aw_aload_n dX4_solve_46 rfl ?_
  refine aw_iload dX4_solve_47 rfl ?_
  refine aw_iload dX4_solve_49 rfl ?_
  exact aw_askV (as := [.ref v1, .int v6, .int v4]) (rst := []) k_X4_needChildren l_X4_58 i_X4_needChildren s_X4_needChildren rfl o1 dX4_solve_51 rfl (Nat.le_of_ble_eq_true rfl) hbc hbs hC rfl rfl kk
theorem bX4_solve_54 {d mc ms : Nat} {al : Bool} {bc bs : Nat} {Γ : am_G} {I : am_I} {L : am_L} {Q : am_Q} {v0 : Nat} {v1 : Nat} {v2 : Nat} {v3 : Int32} {v4 : Int32} {v5 : Int32} {v6 : Int32} (kk : am_W m_X4_solve d mc ms al bc bs 40 [(0, .ref v0), (1, .ref v1), (2, .ref v2), (3, .int v3), (4, .int v4), (5, .int v5), (6, .int (v6 + (-1)))] [] Γ I L Q) : am_W m_X4_solve d mc ms al bc bs 54 [(0, .ref v0), (1, .ref v1), (2, .ref v2), (3, .int v3), (4, .int v4), (5, .int v5), (6, .int v6)] [] Γ I L Q := by
  refine aw_iinc (ls' := [(0, .ref v0), (1, .ref v1), (2, .ref v2), (3, .int v3), (4, .int v4), (5, .int v5), (6, .int (v6 + (-1)))]) dX4_solve_54 rfl (cn_m1 _) (by decide) rfl ?_
  exact aw_goto dX4_solve_57 (by decide) kk
theorem bX4_solve_60 {d mc ms : Nat} {al : Bool} {bc bs : Nat} {Γ : am_G} {I : am_I} {L : am_L} {Q : am_Q} {v0 : Nat} {v1 : Nat} {v2 : Nat} {v3 : Int32} {v4 : Int32} {v5 : Int32} {v6 : Int32} (kk : am_W m_X4_solve d mc ms al bc bs 63 [(0, .ref v0), (1, .ref v1), (2, .ref v2), (3, .int v3), (4, .int v4), (5, .int v5), (6, .int 1)] [] Γ I L Q) : am_W m_X4_solve d mc ms al bc bs 60 [(0, .ref v0), (1, .ref v1), (2, .ref v2), (3, .int v3), (4, .int v4), (5, .int v5), (6, .int v6)] [] Γ I L Q := by
  refine aw_iconst dX4_solve_60 ci_1 ?_
  refine aw_istore (ls' := [(0, .ref v0), (1, .ref v1), (2, .ref v2), (3, .int v3), (4, .int v4), (5, .int v5), (6, .int 1)]) dX4_solve_61 (by decide) rfl ?_
  exact kk
theorem bX4_solve_63 {d mc ms : Nat} {al : Bool} {bc bs : Nat} {Γ : am_G} {I : am_I} {L : am_L} {Q : am_Q} {v0 : Nat} {v1 : Nat} {v2 : Nat} {v3 : Int32} {v4 : Int32} {v5 : Int32} {v6 : Int32} (kt : v5 < v6 → am_W m_X4_solve d mc ms al bc bs 102 [(0, .ref v0), (1, .ref v1), (2, .ref v2), (3, .int v3), (4, .int v4), (5, .int v5), (6, .int v6)] [] Γ I L Q) (kf : ¬ v5 < v6 → am_W m_X4_solve d mc ms al bc bs 70 [(0, .ref v0), (1, .ref v1), (2, .ref v2), (3, .int v3), (4, .int v4), (5, .int v5), (6, .int v6)] [] Γ I L Q) : am_W m_X4_solve d mc ms al bc bs 63 [(0, .ref v0), (1, .ref v1), (2, .ref v2), (3, .int v3), (4, .int v4), (5, .int v5), (6, .int v6)] [] Γ I L Q := by
  refine aw_iload dX4_solve_63 rfl ?_
  refine aw_iload dX4_solve_65 rfl ?_
  exact aw_icmp_gt dX4_solve_67 (by decide) kt kf
theorem bX4_solve_70 {d mc ms : Nat} {al : Bool} {bc bs : Nat} {Γ : am_G} {I : am_I} {L : am_L} {Q : am_Q} {v0 : Nat} {v1 : Nat} {v2 : Nat} {v3 : Int32} {v4 : Int32} {v5 : Int32} {v6 : Int32} {r2 : Nat} {n_r2 : Nat} (o1 : am_ob Γ v0 4) (g3 : Γ.2.2 v0 1 = some r2) (a4 : am_ar Γ r2 1 n_r2 0) (i5 : vp_in v6 n_r2) (kt : (I r2 (v6.toNatClampNeg)) = 0 → am_W m_X4_solve d mc ms al bc bs 96 [(0, .ref v0), (1, .ref v1), (2, .ref v2), (3, .int v3), (4, .int v4), (5, .int v5), (6, .int v6)] [] Γ I L Q) (kf : ¬ (I r2 (v6.toNatClampNeg)) = 0 → am_W m_X4_solve d mc ms al bc bs 80 [(0, .ref v0), (1, .ref v1), (2, .ref v2), (3, .int v3), (4, .int v4), (5, .int v5), (6, .int v6)] [] Γ I L Q) : am_W m_X4_solve d mc ms al bc bs 70 [(0, .ref v0), (1, .ref v1), (2, .ref v2), (3, .int v3), (4, .int v4), (5, .int v5), (6, .int v6)] [] Γ I L Q := by
  refine aw_aload_n dX4_solve_70 rfl ?_
  refine aw_getR dX4_solve_71 f_X4_15 o1 rfl g3 ?_
  refine aw_iload dX4_solve_74 rfl ?_
  refine aw_iald dX4_solve_76 a4 i5 ?_
  exact aw_if_eq dX4_solve_77 (by decide) kt kf
theorem bX4_solve_80 {d mc ms : Nat} {al : Bool} {bc bs : Nat} {Γ : am_G} {I : am_I} {L : am_L} {Q : am_Q} {v0 : Nat} {v1 : Nat} {v2 : Nat} {v3 : Int32} {v4 : Int32} {v5 : Int32} {v6 : Int32} {I' : am_I} {L' : am_L} {mc' : Nat} {ms' : Nat} {r : Int32} (o1 : am_ob Γ v0 4) (hbc : mc' ≤ bc) (hbs : ms' ≤ bs) (hC : am_E m_X4_fewestLeafErrors d mc' ms' [.ref v0, .ref v1, .int v6] Γ I L (.inl (some (.int r))) I' L') (kk : am_W m_X4_solve (d + 1) mc ms al (bc - mc') (bs - ms') 91 [(0, .ref v0), (1, .ref v1), (2, .ref v2), (3, .int v3), (4, .int v4), (5, .int v5), (6, .int v6)] [.int r, .int v6, .ref v1, .ref v0] Γ I' L' Q) : am_W m_X4_solve (d + 1) mc ms al bc bs 80 [(0, .ref v0), (1, .ref v1), (2, .ref v2), (3, .int v3), (4, .int v4), (5, .int v5), (6, .int v6)] [] Γ I L Q := by
  refine aw_aload_n dX4_solve_80 rfl ?_
  refine aw_aload_n dX4_solve_81 rfl ?_
  refine aw_iload dX4_solve_82 rfl ?_
  refine aw_aload_n dX4_solve_84 rfl ?_
  refine aw_aload_n dX4_solve_85 rfl ?_
  refine aw_iload dX4_solve_86 rfl ?_
  exact aw_askV (as := [.ref v1, .int v6]) (rst := [.int v6, .ref v1, .ref v0]) k_X4_fewestLeafErrors l_X4_62 i_X4_fewestLeafErrors s_X4_fewestLeafErrors rfl o1 dX4_solve_88 rfl (Nat.le_of_ble_eq_true rfl) hbc hbs hC rfl rfl kk
theorem bX4_solve_91 {d mc ms : Nat} {al : Bool} {bc bs : Nat} {Γ : am_G} {I : am_I} {L : am_L} {Q : am_Q} {v0 : Nat} {v1 : Nat} {v2 : Nat} {v3 : Int32} {v4 : Int32} {v5 : Int32} {v6 : Int32} {w0 : Nat} {w1 : Nat} {w2 : Int32} {w3 : Int32} {I' : am_I} {L' : am_L} {mc' : Nat} {ms' : Nat} (o1 : am_ob Γ w0 4) (hbc : mc' ≤ bc) (hbs : ms' ≤ bs) (hC : am_E m_X4_rankSet d mc' ms' [.ref w0, .ref w1, .int w2, .int w3, .int v4] Γ I L (.inl none) I' L') (kk : am_W m_X4_solve (d + 1) mc ms al (bc - mc') (bs - ms') 96 [(0, .ref v0), (1, .ref v1), (2, .ref v2), (3, .int v3), (4, .int v4), (5, .int v5), (6, .int v6)] [] Γ I' L' Q) : am_W m_X4_solve (d + 1) mc ms al bc bs 91 [(0, .ref v0), (1, .ref v1), (2, .ref v2), (3, .int v3), (4, .int v4), (5, .int v5), (6, .int v6)] [.int w3, .int w2, .ref w1, .ref w0] Γ I L Q := by
  refine aw_iload dX4_solve_91 rfl ?_
  exact aw_askV (as := [.ref w1, .int w2, .int w3, .int v4]) (rst := []) k_X4_rankSet l_X4_66 i_X4_rankSet s_X4_rankSet rfl o1 dX4_solve_93 rfl (Nat.le_of_ble_eq_true rfl) hbc hbs hC rfl rfl kk
theorem bX4_solve_96 {d mc ms : Nat} {al : Bool} {bc bs : Nat} {Γ : am_G} {I : am_I} {L : am_L} {Q : am_Q} {v0 : Nat} {v1 : Nat} {v2 : Nat} {v3 : Int32} {v4 : Int32} {v5 : Int32} {v6 : Int32} (kk : am_W m_X4_solve d mc ms al bc bs 63 [(0, .ref v0), (1, .ref v1), (2, .ref v2), (3, .int v3), (4, .int v4), (5, .int v5), (6, .int (v6 + 1))] [] Γ I L Q) : am_W m_X4_solve d mc ms al bc bs 96 [(0, .ref v0), (1, .ref v1), (2, .ref v2), (3, .int v3), (4, .int v4), (5, .int v5), (6, .int v6)] [] Γ I L Q := by
  refine aw_iinc (ls' := [(0, .ref v0), (1, .ref v1), (2, .ref v2), (3, .int v3), (4, .int v4), (5, .int v5), (6, .int (v6 + 1))]) dX4_solve_96 rfl (cn_1 _) (by decide) rfl ?_
  exact aw_goto dX4_solve_99 (by decide) kk
theorem bX4_solve_102 {d mc ms : Nat} {al : Bool} {bc bs : Nat} {Γ : am_G} {I : am_I} {L : am_L} {Q : am_Q} {v0 : Nat} {v1 : Nat} {v2 : Nat} {v3 : Int32} {v4 : Int32} {v5 : Int32} {v6 : Int32} (hq : Q (.inl none) Γ I L) : am_W m_X4_solve d mc ms al bc bs 102 [(0, .ref v0), (1, .ref v1), (2, .ref v2), (3, .int v3), (4, .int v4), (5, .int v5), (6, .int v6)] [] Γ I L Q := by
  exact aw_vret dX4_solve_102 rfl hq
theorem dX4_rankOf_0 : decode cX4_rankOf 0 = .ok (.aload_n 0, 1) := by decide +kernel
theorem dX4_rankOf_1 : decode cX4_rankOf 1 = .ok (.getfield 9, 3) := by decide +kernel
theorem dX4_rankOf_4 : decode cX4_rankOf 4 = .ok (.iload_n 1, 1) := by decide +kernel
theorem dX4_rankOf_5 : decode cX4_rankOf 5 = .ok (.bipush 31, 2) := by decide +kernel
theorem dX4_rankOf_7 : decode cX4_rankOf 7 = .ok (.imul, 1) := by decide +kernel
theorem dX4_rankOf_8 : decode cX4_rankOf 8 = .ok (.iload_n 2, 1) := by decide +kernel
theorem dX4_rankOf_9 : decode cX4_rankOf 9 = .ok (.iadd, 1) := by decide +kernel
theorem dX4_rankOf_10 : decode cX4_rankOf 10 = .ok (.laload, 1) := by decide +kernel
theorem dX4_rankOf_11 : decode cX4_rankOf 11 = .ok (.lreturn, 1) := by decide +kernel
theorem bX4_rankOf_0 {d mc ms : Nat} {al : Bool} {bc bs : Nat} {Γ : am_G} {I : am_I} {L : am_L} {Q : am_Q} {v0 : Nat} {v1 : Int32} {v2 : Int32} {r2 : Nat} {n_r2 : Nat} (o1 : am_ob Γ v0 4) (g3 : Γ.2.2 v0 0 = some r2) (a4 : am_ar Γ r2 4 n_r2 0) (i5 : vp_in ((v1 * 31) + v2) n_r2) (hq : Q (.inl (some (.long (L r2 (((v1 * 31) + v2).toNatClampNeg))))) Γ I L) : am_W m_X4_rankOf d mc ms al bc bs 0 [(0, .ref v0), (1, .int v1), (2, .int v2)] [] Γ I L Q := by
  refine aw_aload_n dX4_rankOf_0 rfl ?_
  refine aw_getR dX4_rankOf_1 f_X4_9 o1 rfl g3 ?_
  refine aw_iload_n dX4_rankOf_4 rfl ?_
  refine aw_bipush dX4_rankOf_5 cb_31 ?_
  refine aw_imul dX4_rankOf_7 ?_
  refine aw_iload_n dX4_rankOf_8 rfl ?_
  refine aw_iadd dX4_rankOf_9 ?_
  refine aw_lald dX4_rankOf_10 a4 i5 ?_
  exact aw_lret dX4_rankOf_11 rfl hq
theorem dX4_plant_0 : decode cX4_plant 0 = .ok (.aload_n 0, 1) := by decide +kernel
theorem dX4_plant_1 : decode cX4_plant 1 = .ok (.aload_n 1, 1) := by decide +kernel
theorem dX4_plant_2 : decode cX4_plant 2 = .ok (.aload_n 2, 1) := by decide +kernel
theorem dX4_plant_3 : decode cX4_plant 3 = .ok (.iconst 1, 1) := by decide +kernel
theorem dX4_plant_4 : decode cX4_plant 4 = .ok (.aload_n 2, 1) := by decide +kernel
theorem dX4_plant_5 : decode cX4_plant 5 = .ok (.getfield 70, 3) := by decide +kernel
theorem dX4_plant_8 : decode cX4_plant 8 = .ok (.ishl, 1) := by decide +kernel
theorem dX4_plant_9 : decode cX4_plant 9 = .ok (.iconst (-1), 1) := by decide +kernel
theorem dX4_plant_10 : decode cX4_plant 10 = .ok (.invokevirtual 75, 3) := by decide +kernel
theorem dX4_plant_13 : decode cX4_plant 13 = .ok (.aload_n 2, 1) := by decide +kernel
theorem dX4_plant_14 : decode cX4_plant 14 = .ok (.getfield 79, 3) := by decide +kernel
theorem dX4_plant_17 : decode cX4_plant 17 = .ok (.astore_n 3, 1) := by decide +kernel
theorem dX4_plant_18 : decode cX4_plant 18 = .ok (.aload_n 3, 1) := by decide +kernel
theorem dX4_plant_19 : decode cX4_plant 19 = .ok (.iconst 0, 1) := by decide +kernel
theorem dX4_plant_20 : decode cX4_plant 20 = .ok (.putfield 83, 3) := by decide +kernel
theorem dX4_plant_23 : decode cX4_plant 23 = .ok (.aload_n 0, 1) := by decide +kernel
theorem dX4_plant_24 : decode cX4_plant 24 = .ok (.iconst 0, 1) := by decide +kernel
theorem dX4_plant_25 : decode cX4_plant 25 = .ok (.putfield 88, 3) := by decide +kernel
theorem dX4_plant_28 : decode cX4_plant 28 = .ok (.aload_n 0, 1) := by decide +kernel
theorem dX4_plant_29 : decode cX4_plant 29 = .ok (.aload_n 1, 1) := by decide +kernel
theorem dX4_plant_30 : decode cX4_plant 30 = .ok (.invokevirtual 34, 3) := by decide +kernel
theorem dX4_plant_33 : decode cX4_plant 33 = .ok (.aload_n 2, 1) := by decide +kernel
theorem dX4_plant_34 : decode cX4_plant 34 = .ok (.getfield 70, 3) := by decide +kernel
theorem dX4_plant_37 : decode cX4_plant 37 = .ok (.iconst (-1), 1) := by decide +kernel
theorem dX4_plant_38 : decode cX4_plant 38 = .ok (.invokevirtual 91, 3) := by decide +kernel
theorem dX4_plant_41 : decode cX4_plant 41 = .ok (.iconst 0, 1) := by decide +kernel
theorem dX4_plant_42 : decode cX4_plant 42 = .ok (.istore 4, 2) := by decide +kernel
theorem dX4_plant_44 : decode cX4_plant 44 = .ok (.iload 4, 2) := by decide +kernel
theorem dX4_plant_46 : decode cX4_plant 46 = .ok (.bipush 15, 2) := by decide +kernel
theorem dX4_plant_48 : decode cX4_plant 48 = .ok (.if_icmp .ge 24, 3) := by decide +kernel
theorem dX4_plant_51 : decode cX4_plant 51 = .ok (.aload_n 0, 1) := by decide +kernel
theorem dX4_plant_52 : decode cX4_plant 52 = .ok (.getfield 88, 3) := by decide +kernel
theorem dX4_plant_55 : decode cX4_plant 55 = .ok (.ifCond .le 17, 3) := by decide +kernel
theorem dX4_plant_58 : decode cX4_plant 58 = .ok (.aload_n 0, 1) := by decide +kernel
theorem dX4_plant_59 : decode cX4_plant 59 = .ok (.aload_n 1, 1) := by decide +kernel
theorem dX4_plant_60 : decode cX4_plant 60 = .ok (.aload_n 3, 1) := by decide +kernel
theorem dX4_plant_61 : decode cX4_plant 61 = .ok (.iload 4, 2) := by decide +kernel
theorem dX4_plant_63 : decode cX4_plant 63 = .ok (.invokevirtual 95, 3) := by decide +kernel
theorem dX4_plant_66 : decode cX4_plant 66 = .ok (.iinc 4 1, 3) := by decide +kernel
theorem dX4_plant_69 : decode cX4_plant 69 = .ok (.goto (-25), 3) := by decide +kernel
theorem dX4_plant_72 : decode cX4_plant 72 = .ok (.return_, 1) := by decide +kernel
theorem bX4_plant_0 {d mc ms : Nat} {al : Bool} {bc bs : Nat} {Γ : am_G} {I : am_I} {L : am_L} {Q : am_Q} {v0 : Nat} {v1 : Nat} {v2 : Nat} {I' : am_I} {L' : am_L} {mc' : Nat} {ms' : Nat} (o1 : am_ob Γ v2 0) (o2 : am_ob Γ v0 4) (hbc : mc' ≤ bc) (hbs : ms' ≤ bs) (hC : am_E m_X4_solve d mc' ms' [.ref v0, .ref v1, .ref v2, .int (1 <<< ((I v2 3) &&& 31)), .int (-1)] Γ I L (.inl none) I' L') (kk : am_W m_X4_plant (d + 1) mc ms al (bc - mc') (bs - ms') 13 [(0, .ref v0), (1, .ref v1), (2, .ref v2)] [] Γ I' L' Q) : am_W m_X4_plant (d + 1) mc ms al bc bs 0 [(0, .ref v0), (1, .ref v1), (2, .ref v2)] [] Γ I L Q := by
  refine aw_aload_n dX4_plant_0 rfl ?_
  refine aw_aload_n dX4_plant_1 rfl ?_
  refine aw_aload_n dX4_plant_2 rfl ?_
  refine aw_iconst dX4_plant_3 ci_1 ?_
  refine aw_aload_n dX4_plant_4 rfl ?_
  refine aw_getI dX4_plant_5 f_X4_70 o1 rfl ?_
  refine aw_ishl dX4_plant_8 ?_
  refine aw_iconst dX4_plant_9 ci_m1 ?_
  exact aw_askV (as := [.ref v1, .ref v2, .int (1 <<< ((I v2 3) &&& 31)), .int (-1)]) (rst := []) k_X4_solve l_X4_75 i_X4_solve s_X4_solve rfl o2 dX4_plant_10 rfl (Nat.le_of_ble_eq_true rfl) hbc hbs hC rfl rfl kk
theorem bX4_plant_13 {d mc ms : Nat} {al : Bool} {bc bs : Nat} {Γ : am_G} {I : am_I} {L : am_L} {Q : am_Q} {v0 : Nat} {v1 : Nat} {v2 : Nat} {r2 : Nat} {I' : am_I} {L' : am_L} {mc' : Nat} {ms' : Nat} {r : Int32} (o1 : am_ob Γ v2 0) (g3 : Γ.2.2 v2 5 = some r2) (o4 : am_ob Γ r2 7) (o5 : am_ob Γ v0 4) (o6 : am_ob Γ v1 5) (hbc : mc' ≤ bc) (hbs : ms' ≤ bs) (hC : am_E m_X5_allTypes d mc' ms' [.ref v1] Γ (am_u (am_u I r2 0 0) v0 7 0) L (.inl (some (.int r))) I' L') (kk : am_W m_X4_plant (d + 1) mc ms al (bc - mc') (bs - ms') 33 [(0, .ref v0), (1, .ref v1), (2, .ref v2), (3, .ref r2)] [.int r, .ref v0] Γ I' L' Q) : am_W m_X4_plant (d + 1) mc ms al bc bs 13 [(0, .ref v0), (1, .ref v1), (2, .ref v2)] [] Γ I L Q := by
  refine aw_aload_n dX4_plant_13 rfl ?_
  refine aw_getR dX4_plant_14 f_X4_79 o1 rfl g3 ?_
  refine aw_astore_n (ls' := [(0, .ref v0), (1, .ref v1), (2, .ref v2), (3, .ref r2)]) dX4_plant_17 (by decide) rfl ?_
  refine aw_aload_n dX4_plant_18 rfl ?_
  refine aw_iconst dX4_plant_19 ci_0 ?_
  refine aw_putI dX4_plant_20 pf_X4_83 o4 rfl ?_
  refine aw_aload_n dX4_plant_23 rfl ?_
  refine aw_iconst dX4_plant_24 ci_0 ?_
  refine aw_putI dX4_plant_25 p_X4_88 o5 rfl ?_
  refine aw_aload_n dX4_plant_28 rfl ?_
  refine aw_aload_n dX4_plant_29 rfl ?_
  exact aw_askV (as := []) (rst := [.ref v0]) k_X5_allTypes l_X4_34 i_X5_allTypes s_X5_allTypes rfl o6 dX4_plant_30 rfl (Nat.le_of_ble_eq_true rfl) hbc hbs hC rfl rfl kk
theorem bX4_plant_33 {d mc ms : Nat} {al : Bool} {bc bs : Nat} {Γ : am_G} {I : am_I} {L : am_L} {Q : am_Q} {v0 : Nat} {v1 : Nat} {v2 : Nat} {v3 : Nat} {w0 : Nat} {w1 : Int32} {I' : am_I} {L' : am_L} {mc' : Nat} {ms' : Nat} (o1 : am_ob Γ v2 0) (o2 : am_ob Γ w0 4) (hbc : mc' ≤ bc) (hbs : ms' ≤ bs) (hC : am_E m_X4_await d mc' ms' [.ref w0, .int w1, .int (I v2 3), .int (-1)] Γ I L (.inl none) I' L') (kk : am_W m_X4_plant (d + 1) mc ms al (bc - mc') (bs - ms') 41 [(0, .ref v0), (1, .ref v1), (2, .ref v2), (3, .ref v3)] [] Γ I' L' Q) : am_W m_X4_plant (d + 1) mc ms al bc bs 33 [(0, .ref v0), (1, .ref v1), (2, .ref v2), (3, .ref v3)] [.int w1, .ref w0] Γ I L Q := by
  refine aw_aload_n dX4_plant_33 rfl ?_
  refine aw_getI dX4_plant_34 f_X4_70 o1 rfl ?_
  refine aw_iconst dX4_plant_37 ci_m1 ?_
  exact aw_askV (as := [.int w1, .int (I v2 3), .int (-1)]) (rst := []) k_X4_await l_X4_91 i_X4_await s_X4_await rfl o2 dX4_plant_38 rfl (Nat.le_of_ble_eq_true rfl) hbc hbs hC rfl rfl kk
theorem bX4_plant_41 {d mc ms : Nat} {al : Bool} {bc bs : Nat} {Γ : am_G} {I : am_I} {L : am_L} {Q : am_Q} {v0 : Nat} {v1 : Nat} {v2 : Nat} {v3 : Nat} (kk : am_W m_X4_plant d mc ms al bc bs 44 [(0, .ref v0), (1, .ref v1), (2, .ref v2), (3, .ref v3), (4, .int 0)] [] Γ I L Q) : am_W m_X4_plant d mc ms al bc bs 41 [(0, .ref v0), (1, .ref v1), (2, .ref v2), (3, .ref v3)] [] Γ I L Q := by
  refine aw_iconst dX4_plant_41 ci_0 ?_
  refine aw_istore (ls' := [(0, .ref v0), (1, .ref v1), (2, .ref v2), (3, .ref v3), (4, .int 0)]) dX4_plant_42 (by decide) rfl ?_
  exact kk
theorem bX4_plant_44 {d mc ms : Nat} {al : Bool} {bc bs : Nat} {Γ : am_G} {I : am_I} {L : am_L} {Q : am_Q} {v0 : Nat} {v1 : Nat} {v2 : Nat} {v3 : Nat} {v4 : Int32} (kt : 15 ≤ v4 → am_W m_X4_plant d mc ms al bc bs 72 [(0, .ref v0), (1, .ref v1), (2, .ref v2), (3, .ref v3), (4, .int v4)] [] Γ I L Q) (kf : ¬ 15 ≤ v4 → am_W m_X4_plant d mc ms al bc bs 51 [(0, .ref v0), (1, .ref v1), (2, .ref v2), (3, .ref v3), (4, .int v4)] [] Γ I L Q) : am_W m_X4_plant d mc ms al bc bs 44 [(0, .ref v0), (1, .ref v1), (2, .ref v2), (3, .ref v3), (4, .int v4)] [] Γ I L Q := by
  refine aw_iload dX4_plant_44 rfl ?_
  refine aw_bipush dX4_plant_46 cb_15 ?_
  exact aw_icmp_ge dX4_plant_48 (by decide) kt kf
theorem bX4_plant_51 {d mc ms : Nat} {al : Bool} {bc bs : Nat} {Γ : am_G} {I : am_I} {L : am_L} {Q : am_Q} {v0 : Nat} {v1 : Nat} {v2 : Nat} {v3 : Nat} {v4 : Int32} (o1 : am_ob Γ v0 4) (kt : (I v0 7) ≤ 0 → am_W m_X4_plant d mc ms al bc bs 72 [(0, .ref v0), (1, .ref v1), (2, .ref v2), (3, .ref v3), (4, .int v4)] [] Γ I L Q) (kf : ¬ (I v0 7) ≤ 0 → am_W m_X4_plant d mc ms al bc bs 58 [(0, .ref v0), (1, .ref v1), (2, .ref v2), (3, .ref v3), (4, .int v4)] [] Γ I L Q) : am_W m_X4_plant d mc ms al bc bs 51 [(0, .ref v0), (1, .ref v1), (2, .ref v2), (3, .ref v3), (4, .int v4)] [] Γ I L Q := by
  refine aw_aload_n dX4_plant_51 rfl ?_
  refine aw_getI dX4_plant_52 f_X4_88 o1 rfl ?_
  exact aw_if_le dX4_plant_55 (by decide) kt kf
theorem bX4_plant_58 {d mc ms : Nat} {al : Bool} {bc bs : Nat} {Γ : am_G} {I : am_I} {L : am_L} {Q : am_Q} {v0 : Nat} {v1 : Nat} {v2 : Nat} {v3 : Nat} {v4 : Int32} {I' : am_I} {L' : am_L} {mc' : Nat} {ms' : Nat} (o1 : am_ob Γ v0 4) (hbc : mc' ≤ bc) (hbs : ms' ≤ bs) (hC : am_E m_X4_plantNode d mc' ms' [.ref v0, .ref v1, .ref v3, .int v4] Γ I L (.inl none) I' L') (kk : am_W m_X4_plant (d + 1) mc ms al (bc - mc') (bs - ms') 66 [(0, .ref v0), (1, .ref v1), (2, .ref v2), (3, .ref v3), (4, .int v4)] [] Γ I' L' Q) : am_W m_X4_plant (d + 1) mc ms al bc bs 58 [(0, .ref v0), (1, .ref v1), (2, .ref v2), (3, .ref v3), (4, .int v4)] [] Γ I L Q := by
  refine aw_aload_n dX4_plant_58 rfl ?_
  refine aw_aload_n dX4_plant_59 rfl ?_
  refine aw_aload_n dX4_plant_60 rfl ?_
  refine aw_iload dX4_plant_61 rfl ?_
  exact aw_askV (as := [.ref v1, .ref v3, .int v4]) (rst := []) k_X4_plantNode l_X4_95 i_X4_plantNode s_X4_plantNode rfl o1 dX4_plant_63 rfl (Nat.le_of_ble_eq_true rfl) hbc hbs hC rfl rfl kk
theorem bX4_plant_66 {d mc ms : Nat} {al : Bool} {bc bs : Nat} {Γ : am_G} {I : am_I} {L : am_L} {Q : am_Q} {v0 : Nat} {v1 : Nat} {v2 : Nat} {v3 : Nat} {v4 : Int32} (kk : am_W m_X4_plant d mc ms al bc bs 44 [(0, .ref v0), (1, .ref v1), (2, .ref v2), (3, .ref v3), (4, .int (v4 + 1))] [] Γ I L Q) : am_W m_X4_plant d mc ms al bc bs 66 [(0, .ref v0), (1, .ref v1), (2, .ref v2), (3, .ref v3), (4, .int v4)] [] Γ I L Q := by
  refine aw_iinc (ls' := [(0, .ref v0), (1, .ref v1), (2, .ref v2), (3, .ref v3), (4, .int (v4 + 1))]) dX4_plant_66 rfl (cn_1 _) (by decide) rfl ?_
  exact aw_goto dX4_plant_69 (by decide) kk
theorem bX4_plant_72 {d mc ms : Nat} {al : Bool} {bc bs : Nat} {Γ : am_G} {I : am_I} {L : am_L} {Q : am_Q} {v0 : Nat} {v1 : Nat} {v2 : Nat} {v3 : Nat} {v4 : Int32} (hq : Q (.inl none) Γ I L) : am_W m_X4_plant d mc ms al bc bs 72 [(0, .ref v0), (1, .ref v1), (2, .ref v2), (3, .ref v3), (4, .int v4)] [] Γ I L Q := by
  exact aw_vret dX4_plant_72 rfl hq
theorem dX4_plantNode_0 : decode cX4_plantNode 0 = .ok (.aload_n 0, 1) := by decide +kernel
theorem dX4_plantNode_1 : decode cX4_plantNode 1 = .ok (.dup, 1) := by decide +kernel
theorem dX4_plantNode_2 : decode cX4_plantNode 2 = .ok (.getfield 88, 3) := by decide +kernel
theorem dX4_plantNode_5 : decode cX4_plantNode 5 = .ok (.iconst 1, 1) := by decide +kernel
theorem dX4_plantNode_6 : decode cX4_plantNode 6 = .ok (.isub, 1) := by decide +kernel
theorem dX4_plantNode_7 : decode cX4_plantNode 7 = .ok (.putfield 88, 3) := by decide +kernel
theorem dX4_plantNode_10 : decode cX4_plantNode 10 = .ok (.aload_n 0, 1) := by decide +kernel
theorem dX4_plantNode_11 : decode cX4_plantNode 11 = .ok (.getfield 25, 3) := by decide +kernel
theorem dX4_plantNode_14 : decode cX4_plantNode 14 = .ok (.aload_n 0, 1) := by decide +kernel
theorem dX4_plantNode_15 : decode cX4_plantNode 15 = .ok (.getfield 88, 3) := by decide +kernel
theorem dX4_plantNode_18 : decode cX4_plantNode 18 = .ok (.iaload, 1) := by decide +kernel
theorem dX4_plantNode_19 : decode cX4_plantNode 19 = .ok (.istore 4, 2) := by decide +kernel
theorem dX4_plantNode_21 : decode cX4_plantNode 21 = .ok (.aload_n 0, 1) := by decide +kernel
theorem dX4_plantNode_22 : decode cX4_plantNode 22 = .ok (.getfield 28, 3) := by decide +kernel
theorem dX4_plantNode_25 : decode cX4_plantNode 25 = .ok (.aload_n 0, 1) := by decide +kernel
theorem dX4_plantNode_26 : decode cX4_plantNode 26 = .ok (.getfield 88, 3) := by decide +kernel
theorem dX4_plantNode_29 : decode cX4_plantNode 29 = .ok (.iaload, 1) := by decide +kernel
theorem dX4_plantNode_30 : decode cX4_plantNode 30 = .ok (.istore 5, 2) := by decide +kernel
theorem dX4_plantNode_32 : decode cX4_plantNode 32 = .ok (.aload_n 0, 1) := by decide +kernel
theorem dX4_plantNode_33 : decode cX4_plantNode 33 = .ok (.getfield 31, 3) := by decide +kernel
theorem dX4_plantNode_36 : decode cX4_plantNode 36 = .ok (.aload_n 0, 1) := by decide +kernel
theorem dX4_plantNode_37 : decode cX4_plantNode 37 = .ok (.getfield 88, 3) := by decide +kernel
theorem dX4_plantNode_40 : decode cX4_plantNode 40 = .ok (.iaload, 1) := by decide +kernel
theorem dX4_plantNode_41 : decode cX4_plantNode 41 = .ok (.iconst (-1), 1) := by decide +kernel
theorem dX4_plantNode_42 : decode cX4_plantNode 42 = .ok (.if_icmp .eq 18, 3) := by decide +kernel
theorem dX4_plantNode_45 : decode cX4_plantNode 45 = .ok (.aload_n 2, 1) := by decide +kernel
theorem dX4_plantNode_46 : decode cX4_plantNode 46 = .ok (.getfield 99, 3) := by decide +kernel
theorem dX4_plantNode_49 : decode cX4_plantNode 49 = .ok (.aload_n 0, 1) := by decide +kernel
theorem dX4_plantNode_50 : decode cX4_plantNode 50 = .ok (.getfield 31, 3) := by decide +kernel
theorem dX4_plantNode_53 : decode cX4_plantNode 53 = .ok (.aload_n 0, 1) := by decide +kernel
theorem dX4_plantNode_54 : decode cX4_plantNode 54 = .ok (.getfield 88, 3) := by decide +kernel
theorem dX4_plantNode_57 : decode cX4_plantNode 57 = .ok (.iaload, 1) := by decide +kernel
theorem dX4_plantNode_58 : decode cX4_plantNode 58 = .ok (.iload_n 3, 1) := by decide +kernel
theorem dX4_plantNode_59 : decode cX4_plantNode 59 = .ok (.iastore, 1) := by decide +kernel
theorem dX4_plantNode_60 : decode cX4_plantNode 60 = .ok (.aload_n 0, 1) := by decide +kernel
theorem dX4_plantNode_61 : decode cX4_plantNode 61 = .ok (.iload 4, 2) := by decide +kernel
theorem dX4_plantNode_63 : decode cX4_plantNode 63 = .ok (.iload 5, 2) := by decide +kernel
theorem dX4_plantNode_65 : decode cX4_plantNode 65 = .ok (.invokevirtual 102, 3) := by decide +kernel
theorem dX4_plantNode_68 : decode cX4_plantNode 68 = .ok (.invokestatic 106, 3) := by decide +kernel
theorem dX4_plantNode_71 : decode cX4_plantNode 71 = .ok (.istore 6, 2) := by decide +kernel
theorem dX4_plantNode_73 : decode cX4_plantNode 73 = .ok (.aload_n 2, 1) := by decide +kernel
theorem dX4_plantNode_74 : decode cX4_plantNode 74 = .ok (.getfield 110, 3) := by decide +kernel
theorem dX4_plantNode_77 : decode cX4_plantNode 77 = .ok (.iload_n 3, 1) := by decide +kernel
theorem dX4_plantNode_78 : decode cX4_plantNode 78 = .ok (.iload 6, 2) := by decide +kernel
theorem dX4_plantNode_80 : decode cX4_plantNode 80 = .ok (.iastore, 1) := by decide +kernel
theorem dX4_plantNode_81 : decode cX4_plantNode 81 = .ok (.aload_n 2, 1) := by decide +kernel
theorem dX4_plantNode_82 : decode cX4_plantNode 82 = .ok (.getfield 99, 3) := by decide +kernel
theorem dX4_plantNode_85 : decode cX4_plantNode 85 = .ok (.iload_n 3, 1) := by decide +kernel
theorem dX4_plantNode_86 : decode cX4_plantNode 86 = .ok (.iconst (-1), 1) := by decide +kernel
theorem dX4_plantNode_87 : decode cX4_plantNode 87 = .ok (.iastore, 1) := by decide +kernel
theorem dX4_plantNode_88 : decode cX4_plantNode 88 = .ok (.aload_n 2, 1) := by decide +kernel
theorem dX4_plantNode_89 : decode cX4_plantNode 89 = .ok (.getfield 113, 3) := by decide +kernel
theorem dX4_plantNode_92 : decode cX4_plantNode 92 = .ok (.iload_n 3, 1) := by decide +kernel
theorem dX4_plantNode_93 : decode cX4_plantNode 93 = .ok (.iload 4, 2) := by decide +kernel
theorem dX4_plantNode_95 : decode cX4_plantNode 95 = .ok (.iastore, 1) := by decide +kernel
theorem dX4_plantNode_96 : decode cX4_plantNode 96 = .ok (.aload_n 2, 1) := by decide +kernel
theorem dX4_plantNode_97 : decode cX4_plantNode 97 = .ok (.iload_n 3, 1) := by decide +kernel
theorem dX4_plantNode_98 : decode cX4_plantNode 98 = .ok (.iconst 1, 1) := by decide +kernel
theorem dX4_plantNode_99 : decode cX4_plantNode 99 = .ok (.iadd, 1) := by decide +kernel
theorem dX4_plantNode_100 : decode cX4_plantNode 100 = .ok (.putfield 83, 3) := by decide +kernel
theorem dX4_plantNode_103 : decode cX4_plantNode 103 = .ok (.iload 6, 2) := by decide +kernel
theorem dX4_plantNode_105 : decode cX4_plantNode 105 = .ok (.iconst (-1), 1) := by decide +kernel
theorem dX4_plantNode_106 : decode cX4_plantNode 106 = .ok (.if_icmp .ne 17, 3) := by decide +kernel
theorem dX4_plantNode_109 : decode cX4_plantNode 109 = .ok (.aload_n 2, 1) := by decide +kernel
theorem dX4_plantNode_110 : decode cX4_plantNode 110 = .ok (.getfield 116, 3) := by decide +kernel
theorem dX4_plantNode_113 : decode cX4_plantNode 113 = .ok (.iload_n 3, 1) := by decide +kernel
theorem dX4_plantNode_114 : decode cX4_plantNode 114 = .ok (.aload_n 0, 1) := by decide +kernel
theorem dX4_plantNode_115 : decode cX4_plantNode 115 = .ok (.aload_n 1, 1) := by decide +kernel
theorem dX4_plantNode_116 : decode cX4_plantNode 116 = .ok (.iload 4, 2) := by decide +kernel
theorem dX4_plantNode_118 : decode cX4_plantNode 118 = .ok (.invokevirtual 119, 3) := by decide +kernel
theorem dX4_plantNode_121 : decode cX4_plantNode 121 = .ok (.iastore, 1) := by decide +kernel
theorem dX4_plantNode_122 : decode cX4_plantNode 122 = .ok (.return_, 1) := by decide +kernel
theorem dX4_plantNode_123 : decode cX4_plantNode 123 = .ok (.aload_n 2, 1) := by decide +kernel
theorem dX4_plantNode_124 : decode cX4_plantNode 124 = .ok (.getfield 116, 3) := by decide +kernel
theorem dX4_plantNode_127 : decode cX4_plantNode 127 = .ok (.iload_n 3, 1) := by decide +kernel
theorem dX4_plantNode_128 : decode cX4_plantNode 128 = .ok (.iconst (-1), 1) := by decide +kernel
theorem dX4_plantNode_129 : decode cX4_plantNode 129 = .ok (.iastore, 1) := by decide +kernel
theorem dX4_plantNode_130 : decode cX4_plantNode 130 = .ok (.iload 5, 2) := by decide +kernel
theorem dX4_plantNode_132 : decode cX4_plantNode 132 = .ok (.aload_n 1, 1) := by decide +kernel
theorem dX4_plantNode_133 : decode cX4_plantNode 133 = .ok (.getfield 122, 3) := by decide +kernel
theorem dX4_plantNode_136 : decode cX4_plantNode 136 = .ok (.iload 6, 2) := by decide +kernel
theorem dX4_plantNode_138 : decode cX4_plantNode 138 = .ok (.iaload, 1) := by decide +kernel
theorem dX4_plantNode_139 : decode cX4_plantNode 139 = .ok (.isub, 1) := by decide +kernel
theorem dX4_plantNode_140 : decode cX4_plantNode 140 = .ok (.istore 7, 2) := by decide +kernel
theorem dX4_plantNode_142 : decode cX4_plantNode 142 = .ok (.aload_n 0, 1) := by decide +kernel
theorem dX4_plantNode_143 : decode cX4_plantNode 143 = .ok (.iload 4, 2) := by decide +kernel
theorem dX4_plantNode_145 : decode cX4_plantNode 145 = .ok (.aload_n 1, 1) := by decide +kernel
theorem dX4_plantNode_146 : decode cX4_plantNode 146 = .ok (.getfield 125, 3) := by decide +kernel
theorem dX4_plantNode_149 : decode cX4_plantNode 149 = .ok (.iload 6, 2) := by decide +kernel
theorem dX4_plantNode_151 : decode cX4_plantNode 151 = .ok (.iaload, 1) := by decide +kernel
theorem dX4_plantNode_152 : decode cX4_plantNode 152 = .ok (.iconst (-1), 1) := by decide +kernel
theorem dX4_plantNode_153 : decode cX4_plantNode 153 = .ok (.ixor, 1) := by decide +kernel
theorem dX4_plantNode_154 : decode cX4_plantNode 154 = .ok (.iand, 1) := by decide +kernel
theorem dX4_plantNode_155 : decode cX4_plantNode 155 = .ok (.iload 7, 2) := by decide +kernel
theorem dX4_plantNode_157 : decode cX4_plantNode 157 = .ok (.iload_n 3, 1) := by decide +kernel
theorem dX4_plantNode_158 : decode cX4_plantNode 158 = .ok (.invokevirtual 91, 3) := by decide +kernel
theorem dX4_plantNode_161 : decode cX4_plantNode 161 = .ok (.aload_n 0, 1) := by decide +kernel
theorem dX4_plantNode_162 : decode cX4_plantNode 162 = .ok (.iload 4, 2) := by decide +kernel
theorem dX4_plantNode_164 : decode cX4_plantNode 164 = .ok (.aload_n 1, 1) := by decide +kernel
theorem dX4_plantNode_165 : decode cX4_plantNode 165 = .ok (.getfield 125, 3) := by decide +kernel
theorem dX4_plantNode_168 : decode cX4_plantNode 168 = .ok (.iload 6, 2) := by decide +kernel
theorem dX4_plantNode_170 : decode cX4_plantNode 170 = .ok (.iaload, 1) := by decide +kernel
theorem dX4_plantNode_171 : decode cX4_plantNode 171 = .ok (.iand, 1) := by decide +kernel
theorem dX4_plantNode_172 : decode cX4_plantNode 172 = .ok (.iload 7, 2) := by decide +kernel
theorem dX4_plantNode_174 : decode cX4_plantNode 174 = .ok (.iconst (-1), 1) := by decide +kernel
theorem dX4_plantNode_175 : decode cX4_plantNode 175 = .ok (.invokevirtual 91, 3) := by decide +kernel
theorem dX4_plantNode_178 : decode cX4_plantNode 178 = .ok (.return_, 1) := by decide +kernel
theorem bX4_plantNode_0 {d mc ms : Nat} {al : Bool} {bc bs : Nat} {Γ : am_G} {I : am_I} {L : am_L} {Q : am_Q} {v0 : Nat} {v1 : Nat} {v2 : Nat} {v3 : Int32} {r2 : Nat} {n_r2 : Nat} {r6 : Nat} {n_r6 : Nat} {r10 : Nat} {n_r10 : Nat} (o1 : am_ob Γ v0 4) (g3 : Γ.2.2 v0 4 = some r2) (a4 : am_ar Γ r2 1 n_r2 0) (i5 : vp_in ((am_u I v0 7 ((I v0 7) - 1)) v0 7) n_r2) (g7 : Γ.2.2 v0 5 = some r6) (a8 : am_ar Γ r6 1 n_r6 0) (i9 : vp_in ((am_u I v0 7 ((I v0 7) - 1)) v0 7) n_r6) (g11 : Γ.2.2 v0 6 = some r10) (a12 : am_ar Γ r10 1 n_r10 0) (i13 : vp_in ((am_u I v0 7 ((I v0 7) - 1)) v0 7) n_r10) (kt : ((am_u I v0 7 ((I v0 7) - 1)) r10 (((am_u I v0 7 ((I v0 7) - 1)) v0 7).toNatClampNeg)) = (-1) → am_W m_X4_plantNode d mc ms al bc bs 60 [(0, .ref v0), (1, .ref v1), (2, .ref v2), (3, .int v3), (4, .int ((am_u I v0 7 ((I v0 7) - 1)) r2 (((am_u I v0 7 ((I v0 7) - 1)) v0 7).toNatClampNeg))), (5, .int ((am_u I v0 7 ((I v0 7) - 1)) r6 (((am_u I v0 7 ((I v0 7) - 1)) v0 7).toNatClampNeg)))] [] Γ (am_u I v0 7 ((I v0 7) - 1)) L Q) (kf : ¬ ((am_u I v0 7 ((I v0 7) - 1)) r10 (((am_u I v0 7 ((I v0 7) - 1)) v0 7).toNatClampNeg)) = (-1) → am_W m_X4_plantNode d mc ms al bc bs 45 [(0, .ref v0), (1, .ref v1), (2, .ref v2), (3, .int v3), (4, .int ((am_u I v0 7 ((I v0 7) - 1)) r2 (((am_u I v0 7 ((I v0 7) - 1)) v0 7).toNatClampNeg))), (5, .int ((am_u I v0 7 ((I v0 7) - 1)) r6 (((am_u I v0 7 ((I v0 7) - 1)) v0 7).toNatClampNeg)))] [] Γ (am_u I v0 7 ((I v0 7) - 1)) L Q) : am_W m_X4_plantNode d mc ms al bc bs 0 [(0, .ref v0), (1, .ref v1), (2, .ref v2), (3, .int v3)] [] Γ I L Q := by
  refine aw_aload_n dX4_plantNode_0 rfl ?_
  refine aw_dup dX4_plantNode_1 rfl ?_
  refine aw_getI dX4_plantNode_2 f_X4_88 o1 rfl ?_
  refine aw_iconst dX4_plantNode_5 ci_1 ?_
  refine aw_isub dX4_plantNode_6 ?_
  refine aw_putI dX4_plantNode_7 p_X4_88 o1 rfl ?_
  refine aw_aload_n dX4_plantNode_10 rfl ?_
  refine aw_getR dX4_plantNode_11 f_X4_25 o1 rfl g3 ?_
  refine aw_aload_n dX4_plantNode_14 rfl ?_
  refine aw_getI dX4_plantNode_15 f_X4_88 o1 rfl ?_
  refine aw_iald dX4_plantNode_18 a4 i5 ?_
  refine aw_istore (ls' := [(0, .ref v0), (1, .ref v1), (2, .ref v2), (3, .int v3), (4, .int ((am_u I v0 7 ((I v0 7) - 1)) r2 (((am_u I v0 7 ((I v0 7) - 1)) v0 7).toNatClampNeg)))]) dX4_plantNode_19 (by decide) rfl ?_
  refine aw_aload_n dX4_plantNode_21 rfl ?_
  refine aw_getR dX4_plantNode_22 f_X4_28 o1 rfl g7 ?_
  refine aw_aload_n dX4_plantNode_25 rfl ?_
  refine aw_getI dX4_plantNode_26 f_X4_88 o1 rfl ?_
  refine aw_iald dX4_plantNode_29 a8 i9 ?_
  refine aw_istore (ls' := [(0, .ref v0), (1, .ref v1), (2, .ref v2), (3, .int v3), (4, .int ((am_u I v0 7 ((I v0 7) - 1)) r2 (((am_u I v0 7 ((I v0 7) - 1)) v0 7).toNatClampNeg))), (5, .int ((am_u I v0 7 ((I v0 7) - 1)) r6 (((am_u I v0 7 ((I v0 7) - 1)) v0 7).toNatClampNeg)))]) dX4_plantNode_30 (by decide) rfl ?_
  refine aw_aload_n dX4_plantNode_32 rfl ?_
  refine aw_getR dX4_plantNode_33 f_X4_31 o1 rfl g11 ?_
  refine aw_aload_n dX4_plantNode_36 rfl ?_
  refine aw_getI dX4_plantNode_37 f_X4_88 o1 rfl ?_
  refine aw_iald dX4_plantNode_40 a12 i13 ?_
  refine aw_iconst dX4_plantNode_41 ci_m1 ?_
  exact aw_icmp_eq dX4_plantNode_42 (by decide) kt kf
theorem bX4_plantNode_45 {d mc ms : Nat} {al : Bool} {bc bs : Nat} {Γ : am_G} {I : am_I} {L : am_L} {Q : am_Q} {v0 : Nat} {v1 : Nat} {v2 : Nat} {v3 : Int32} {v4 : Int32} {v5 : Int32} {r2 : Nat} {r5 : Nat} {n_r5 : Nat} {n_r2 : Nat} (o1 : am_ob Γ v2 7) (g3 : Γ.2.2 v2 3 = some r2) (o4 : am_ob Γ v0 4) (g6 : Γ.2.2 v0 6 = some r5) (a7 : am_ar Γ r5 1 n_r5 0) (i8 : vp_in (I v0 7) n_r5) (a9 : am_ar Γ r2 1 n_r2 0) (i10 : vp_in (I r5 ((I v0 7).toNatClampNeg)) n_r2) (kk : am_W m_X4_plantNode d mc ms al bc bs 60 [(0, .ref v0), (1, .ref v1), (2, .ref v2), (3, .int v3), (4, .int v4), (5, .int v5)] [] Γ (am_u I r2 ((I r5 ((I v0 7).toNatClampNeg)).toNatClampNeg) v3) L Q) : am_W m_X4_plantNode d mc ms al bc bs 45 [(0, .ref v0), (1, .ref v1), (2, .ref v2), (3, .int v3), (4, .int v4), (5, .int v5)] [] Γ I L Q := by
  refine aw_aload_n dX4_plantNode_45 rfl ?_
  refine aw_getR dX4_plantNode_46 f_X4_99 o1 rfl g3 ?_
  refine aw_aload_n dX4_plantNode_49 rfl ?_
  refine aw_getR dX4_plantNode_50 f_X4_31 o4 rfl g6 ?_
  refine aw_aload_n dX4_plantNode_53 rfl ?_
  refine aw_getI dX4_plantNode_54 f_X4_88 o4 rfl ?_
  refine aw_iald dX4_plantNode_57 a7 i8 ?_
  refine aw_iload_n dX4_plantNode_58 rfl ?_
  refine aw_iast dX4_plantNode_59 a9 i10 ?_
  exact kk
theorem bX4_plantNode_60 {d mc ms : Nat} {al : Bool} {bc bs : Nat} {Γ : am_G} {I : am_I} {L : am_L} {Q : am_Q} {v0 : Nat} {v1 : Nat} {v2 : Nat} {v3 : Int32} {v4 : Int32} {v5 : Int32} {I' : am_I} {L' : am_L} {mc' : Nat} {ms' : Nat} {r : Int64} (o1 : am_ob Γ v0 4) (hbc : mc' ≤ bc) (hbs : ms' ≤ bs) (hC : am_E m_X4_rankOf d mc' ms' [.ref v0, .int v4, .int v5] Γ I L (.inl (some (.long r))) I' L') (kk : am_W m_X4_plantNode (d + 1) mc ms al (bc - mc') (bs - ms') 68 [(0, .ref v0), (1, .ref v1), (2, .ref v2), (3, .int v3), (4, .int v4), (5, .int v5)] [.long r] Γ I' L' Q) : am_W m_X4_plantNode (d + 1) mc ms al bc bs 60 [(0, .ref v0), (1, .ref v1), (2, .ref v2), (3, .int v3), (4, .int v4), (5, .int v5)] [] Γ I L Q := by
  refine aw_aload_n dX4_plantNode_60 rfl ?_
  refine aw_iload dX4_plantNode_61 rfl ?_
  refine aw_iload dX4_plantNode_63 rfl ?_
  exact aw_askV (as := [.int v4, .int v5]) (rst := []) k_X4_rankOf l_X4_102 i_X4_rankOf s_X4_rankOf rfl o1 dX4_plantNode_65 rfl (Nat.le_of_ble_eq_true rfl) hbc hbs hC rfl rfl kk
theorem bX4_plantNode_68 {d mc ms : Nat} {al : Bool} {bc bs : Nat} {Γ : am_G} {I : am_I} {L : am_L} {Q : am_Q} {v0 : Nat} {v1 : Nat} {v2 : Nat} {v3 : Int32} {v4 : Int32} {v5 : Int32} {w0 : Int64} {I' : am_I} {L' : am_L} {mc' : Nat} {ms' : Nat} {r : Int32} (hbc : mc' ≤ bc) (hbs : ms' ≤ bs) (hC : am_E m_X8_rootOf d mc' ms' [.long w0] Γ I L (.inl (some (.int r))) I' L') (kk : am_W m_X4_plantNode (d + 1) mc ms al (bc - mc') (bs - ms') 71 [(0, .ref v0), (1, .ref v1), (2, .ref v2), (3, .int v3), (4, .int v4), (5, .int v5)] [.int r] Γ I' L' Q) : am_W m_X4_plantNode (d + 1) mc ms al bc bs 68 [(0, .ref v0), (1, .ref v1), (2, .ref v2), (3, .int v3), (4, .int v4), (5, .int v5)] [.long w0] Γ I L Q := by
  exact aw_askN (as := [.long w0]) (rst := []) k_X8_rootOf ln_X4_106 t_X8_rootOf dX4_plantNode_68 rfl (Nat.le_of_ble_eq_true rfl) hbc hbs hC rfl rfl kk
theorem bX4_plantNode_71 {d mc ms : Nat} {al : Bool} {bc bs : Nat} {Γ : am_G} {I : am_I} {L : am_L} {Q : am_Q} {v0 : Nat} {v1 : Nat} {v2 : Nat} {v3 : Int32} {v4 : Int32} {v5 : Int32} {w0 : Int32} {r2 : Nat} {n_r2 : Nat} {r6 : Nat} {n_r6 : Nat} {r10 : Nat} {n_r10 : Nat} (o1 : am_ob Γ v2 7) (g3 : Γ.2.2 v2 1 = some r2) (a4 : am_ar Γ r2 1 n_r2 0) (i5 : vp_in v3 n_r2) (g7 : Γ.2.2 v2 3 = some r6) (a8 : am_ar Γ r6 1 n_r6 0) (i9 : vp_in v3 n_r6) (g11 : Γ.2.2 v2 4 = some r10) (a12 : am_ar Γ r10 1 n_r10 0) (i13 : vp_in v3 n_r10) (kt : ¬ w0 = (-1) → am_W m_X4_plantNode d mc ms al bc bs 123 [(0, .ref v0), (1, .ref v1), (2, .ref v2), (3, .int v3), (4, .int v4), (5, .int v5), (6, .int w0)] [] Γ (am_u (am_u (am_u (am_u I r2 (v3.toNatClampNeg) w0) r6 (v3.toNatClampNeg) (-1)) r10 (v3.toNatClampNeg) v4) v2 0 (v3 + 1)) L Q) (kf : w0 = (-1) → am_W m_X4_plantNode d mc ms al bc bs 109 [(0, .ref v0), (1, .ref v1), (2, .ref v2), (3, .int v3), (4, .int v4), (5, .int v5), (6, .int w0)] [] Γ (am_u (am_u (am_u (am_u I r2 (v3.toNatClampNeg) w0) r6 (v3.toNatClampNeg) (-1)) r10 (v3.toNatClampNeg) v4) v2 0 (v3 + 1)) L Q) : am_W m_X4_plantNode d mc ms al bc bs 71 [(0, .ref v0), (1, .ref v1), (2, .ref v2), (3, .int v3), (4, .int v4), (5, .int v5)] [.int w0] Γ I L Q := by
  refine aw_istore (ls' := [(0, .ref v0), (1, .ref v1), (2, .ref v2), (3, .int v3), (4, .int v4), (5, .int v5), (6, .int w0)]) dX4_plantNode_71 (by decide) rfl ?_
  refine aw_aload_n dX4_plantNode_73 rfl ?_
  refine aw_getR dX4_plantNode_74 f_X4_110 o1 rfl g3 ?_
  refine aw_iload_n dX4_plantNode_77 rfl ?_
  refine aw_iload dX4_plantNode_78 rfl ?_
  refine aw_iast dX4_plantNode_80 a4 i5 ?_
  refine aw_aload_n dX4_plantNode_81 rfl ?_
  refine aw_getR dX4_plantNode_82 f_X4_99 o1 rfl g7 ?_
  refine aw_iload_n dX4_plantNode_85 rfl ?_
  refine aw_iconst dX4_plantNode_86 ci_m1 ?_
  refine aw_iast dX4_plantNode_87 a8 i9 ?_
  refine aw_aload_n dX4_plantNode_88 rfl ?_
  refine aw_getR dX4_plantNode_89 f_X4_113 o1 rfl g11 ?_
  refine aw_iload_n dX4_plantNode_92 rfl ?_
  refine aw_iload dX4_plantNode_93 rfl ?_
  refine aw_iast dX4_plantNode_95 a12 i13 ?_
  refine aw_aload_n dX4_plantNode_96 rfl ?_
  refine aw_iload_n dX4_plantNode_97 rfl ?_
  refine aw_iconst dX4_plantNode_98 ci_1 ?_
  refine aw_iadd dX4_plantNode_99 ?_
  refine aw_putI dX4_plantNode_100 pf_X4_83 o1 rfl ?_
  refine aw_iload dX4_plantNode_103 rfl ?_
  refine aw_iconst dX4_plantNode_105 ci_m1 ?_
  exact aw_icmp_ne dX4_plantNode_106 (by decide) kt kf
theorem bX4_plantNode_109 {d mc ms : Nat} {al : Bool} {bc bs : Nat} {Γ : am_G} {I : am_I} {L : am_L} {Q : am_Q} {v0 : Nat} {v1 : Nat} {v2 : Nat} {v3 : Int32} {v4 : Int32} {v5 : Int32} {v6 : Int32} {r2 : Nat} {I' : am_I} {L' : am_L} {mc' : Nat} {ms' : Nat} {r : Int32} (o1 : am_ob Γ v2 7) (g3 : Γ.2.2 v2 2 = some r2) (o4 : am_ob Γ v0 4) (hbc : mc' ≤ bc) (hbs : ms' ≤ bs) (hC : am_E m_X4_bestToll d mc' ms' [.ref v0, .ref v1, .int v4] Γ I L (.inl (some (.int r))) I' L') (kk : am_W m_X4_plantNode (d + 1) mc ms al (bc - mc') (bs - ms') 121 [(0, .ref v0), (1, .ref v1), (2, .ref v2), (3, .int v3), (4, .int v4), (5, .int v5), (6, .int v6)] [.int r, .int v3, .ref r2] Γ I' L' Q) : am_W m_X4_plantNode (d + 1) mc ms al bc bs 109 [(0, .ref v0), (1, .ref v1), (2, .ref v2), (3, .int v3), (4, .int v4), (5, .int v5), (6, .int v6)] [] Γ I L Q := by
  refine aw_aload_n dX4_plantNode_109 rfl ?_
  refine aw_getR dX4_plantNode_110 f_X4_116 o1 rfl g3 ?_
  refine aw_iload_n dX4_plantNode_113 rfl ?_
  refine aw_aload_n dX4_plantNode_114 rfl ?_
  refine aw_aload_n dX4_plantNode_115 rfl ?_
  refine aw_iload dX4_plantNode_116 rfl ?_
  exact aw_askV (as := [.ref v1, .int v4]) (rst := [.int v3, .ref r2]) k_X4_bestToll l_X4_119 i_X4_bestToll s_X4_bestToll rfl o4 dX4_plantNode_118 rfl (Nat.le_of_ble_eq_true rfl) hbc hbs hC rfl rfl kk
theorem bX4_plantNode_121 {d mc ms : Nat} {al : Bool} {bc bs : Nat} {Γ : am_G} {I : am_I} {L : am_L} {Q : am_Q} {v0 : Nat} {v1 : Nat} {v2 : Nat} {v3 : Int32} {v4 : Int32} {v5 : Int32} {v6 : Int32} {w0 : Nat} {w1 : Int32} {w2 : Int32} {n_w0 : Nat} (a1 : am_ar Γ w0 1 n_w0 0) (i2 : vp_in w1 n_w0) (hq : Q (.inl none) Γ (am_u I w0 (w1.toNatClampNeg) w2) L) : am_W m_X4_plantNode d mc ms al bc bs 121 [(0, .ref v0), (1, .ref v1), (2, .ref v2), (3, .int v3), (4, .int v4), (5, .int v5), (6, .int v6)] [.int w2, .int w1, .ref w0] Γ I L Q := by
  refine aw_iast dX4_plantNode_121 a1 i2 ?_
  exact aw_vret dX4_plantNode_122 rfl hq
theorem bX4_plantNode_123 {d mc ms : Nat} {al : Bool} {bc bs : Nat} {Γ : am_G} {I : am_I} {L : am_L} {Q : am_Q} {v0 : Nat} {v1 : Nat} {v2 : Nat} {v3 : Int32} {v4 : Int32} {v5 : Int32} {v6 : Int32} {r2 : Nat} {n_r2 : Nat} {r7 : Nat} {n_r7 : Nat} {r11 : Nat} {n_r11 : Nat} {I' : am_I} {L' : am_L} {mc' : Nat} {ms' : Nat} (o1 : am_ob Γ v2 7) (g3 : Γ.2.2 v2 2 = some r2) (a4 : am_ar Γ r2 1 n_r2 0) (i5 : vp_in v3 n_r2) (o6 : am_ob Γ v1 5) (g8 : Γ.2.2 v1 5 = some r7) (a9 : am_ar Γ r7 1 n_r7 0) (i10 : vp_in v6 n_r7) (g12 : Γ.2.2 v1 6 = some r11) (a13 : am_ar Γ r11 1 n_r11 0) (i14 : vp_in v6 n_r11) (o15 : am_ob Γ v0 4) (hbc : mc' ≤ bc) (hbs : ms' ≤ bs) (hC : am_E m_X4_await d mc' ms' [.ref v0, .int (v4 &&& (((am_u I r2 (v3.toNatClampNeg) (-1)) r11 (v6.toNatClampNeg)) ^^^ (-1))), .int (v5 - ((am_u I r2 (v3.toNatClampNeg) (-1)) r7 (v6.toNatClampNeg))), .int v3] Γ (am_u I r2 (v3.toNatClampNeg) (-1)) L (.inl none) I' L') (kk : am_W m_X4_plantNode (d + 1) mc ms al (bc - mc') (bs - ms') 161 [(0, .ref v0), (1, .ref v1), (2, .ref v2), (3, .int v3), (4, .int v4), (5, .int v5), (6, .int v6), (7, .int (v5 - ((am_u I r2 (v3.toNatClampNeg) (-1)) r7 (v6.toNatClampNeg))))] [] Γ I' L' Q) : am_W m_X4_plantNode (d + 1) mc ms al bc bs 123 [(0, .ref v0), (1, .ref v1), (2, .ref v2), (3, .int v3), (4, .int v4), (5, .int v5), (6, .int v6)] [] Γ I L Q := by
  refine aw_aload_n dX4_plantNode_123 rfl ?_
  refine aw_getR dX4_plantNode_124 f_X4_116 o1 rfl g3 ?_
  refine aw_iload_n dX4_plantNode_127 rfl ?_
  refine aw_iconst dX4_plantNode_128 ci_m1 ?_
  refine aw_iast dX4_plantNode_129 a4 i5 ?_
  refine aw_iload dX4_plantNode_130 rfl ?_
  refine aw_aload_n dX4_plantNode_132 rfl ?_
  refine aw_getR dX4_plantNode_133 f_X4_122 o6 rfl g8 ?_
  refine aw_iload dX4_plantNode_136 rfl ?_
  refine aw_iald dX4_plantNode_138 a9 i10 ?_
  refine aw_isub dX4_plantNode_139 ?_
  refine aw_istore (ls' := [(0, .ref v0), (1, .ref v1), (2, .ref v2), (3, .int v3), (4, .int v4), (5, .int v5), (6, .int v6), (7, .int (v5 - ((am_u I r2 (v3.toNatClampNeg) (-1)) r7 (v6.toNatClampNeg))))]) dX4_plantNode_140 (by decide) rfl ?_
  refine aw_aload_n dX4_plantNode_142 rfl ?_
  refine aw_iload dX4_plantNode_143 rfl ?_
  refine aw_aload_n dX4_plantNode_145 rfl ?_
  refine aw_getR dX4_plantNode_146 f_X4_125 o6 rfl g12 ?_
  refine aw_iload dX4_plantNode_149 rfl ?_
  refine aw_iald dX4_plantNode_151 a13 i14 ?_
  refine aw_iconst dX4_plantNode_152 ci_m1 ?_
  refine aw_ixor dX4_plantNode_153 ?_
  refine aw_iand dX4_plantNode_154 ?_
  refine aw_iload dX4_plantNode_155 rfl ?_
  refine aw_iload_n dX4_plantNode_157 rfl ?_
  exact aw_askV (as := [.int (v4 &&& (((am_u I r2 (v3.toNatClampNeg) (-1)) r11 (v6.toNatClampNeg)) ^^^ (-1))), .int (v5 - ((am_u I r2 (v3.toNatClampNeg) (-1)) r7 (v6.toNatClampNeg))), .int v3]) (rst := []) k_X4_await l_X4_91 i_X4_await s_X4_await rfl o15 dX4_plantNode_158 rfl (Nat.le_of_ble_eq_true rfl) hbc hbs hC rfl rfl kk
theorem bX4_plantNode_161 {d mc ms : Nat} {al : Bool} {bc bs : Nat} {Γ : am_G} {I : am_I} {L : am_L} {Q : am_Q} {v0 : Nat} {v1 : Nat} {v2 : Nat} {v3 : Int32} {v4 : Int32} {v5 : Int32} {v6 : Int32} {v7 : Int32} {r2 : Nat} {n_r2 : Nat} {I' : am_I} {L' : am_L} {mc' : Nat} {ms' : Nat} (o1 : am_ob Γ v1 5) (g3 : Γ.2.2 v1 6 = some r2) (a4 : am_ar Γ r2 1 n_r2 0) (i5 : vp_in v6 n_r2) (o6 : am_ob Γ v0 4) (hbc : mc' ≤ bc) (hbs : ms' ≤ bs) (hC : am_E m_X4_await d mc' ms' [.ref v0, .int (v4 &&& (I r2 (v6.toNatClampNeg))), .int v7, .int (-1)] Γ I L (.inl none) I' L') (kk : am_W m_X4_plantNode (d + 1) mc ms al (bc - mc') (bs - ms') 178 [(0, .ref v0), (1, .ref v1), (2, .ref v2), (3, .int v3), (4, .int v4), (5, .int v5), (6, .int v6), (7, .int v7)] [] Γ I' L' Q) : am_W m_X4_plantNode (d + 1) mc ms al bc bs 161 [(0, .ref v0), (1, .ref v1), (2, .ref v2), (3, .int v3), (4, .int v4), (5, .int v5), (6, .int v6), (7, .int v7)] [] Γ I L Q := by
  refine aw_aload_n dX4_plantNode_161 rfl ?_
  refine aw_iload dX4_plantNode_162 rfl ?_
  refine aw_aload_n dX4_plantNode_164 rfl ?_
  refine aw_getR dX4_plantNode_165 f_X4_125 o1 rfl g3 ?_
  refine aw_iload dX4_plantNode_168 rfl ?_
  refine aw_iald dX4_plantNode_170 a4 i5 ?_
  refine aw_iand dX4_plantNode_171 ?_
  refine aw_iload dX4_plantNode_172 rfl ?_
  refine aw_iconst dX4_plantNode_174 ci_m1 ?_
  exact aw_askV (as := [.int (v4 &&& (I r2 (v6.toNatClampNeg))), .int v7, .int (-1)]) (rst := []) k_X4_await l_X4_91 i_X4_await s_X4_await rfl o6 dX4_plantNode_175 rfl (Nat.le_of_ble_eq_true rfl) hbc hbs hC rfl rfl kk
theorem bX4_plantNode_178 {d mc ms : Nat} {al : Bool} {bc bs : Nat} {Γ : am_G} {I : am_I} {L : am_L} {Q : am_Q} {v0 : Nat} {v1 : Nat} {v2 : Nat} {v3 : Int32} {v4 : Int32} {v5 : Int32} {v6 : Int32} {v7 : Int32} (hq : Q (.inl none) Γ I L) : am_W m_X4_plantNode d mc ms al bc bs 178 [(0, .ref v0), (1, .ref v1), (2, .ref v2), (3, .int v3), (4, .int v4), (5, .int v5), (6, .int v6), (7, .int v7)] [] Γ I L Q := by
  exact aw_vret dX4_plantNode_178 rfl hq
theorem dX4_await_0 : decode cX4_await 0 = .ok (.aload_n 0, 1) := by decide +kernel
theorem dX4_await_1 : decode cX4_await 1 = .ok (.getfield 88, 3) := by decide +kernel
theorem dX4_await_4 : decode cX4_await 4 = .ok (.bipush 15, 2) := by decide +kernel
theorem dX4_await_6 : decode cX4_await 6 = .ok (.if_icmp .ge 43, 3) := by decide +kernel
theorem dX4_await_9 : decode cX4_await 9 = .ok (.aload_n 0, 1) := by decide +kernel
theorem dX4_await_10 : decode cX4_await 10 = .ok (.getfield 25, 3) := by decide +kernel
theorem dX4_await_13 : decode cX4_await 13 = .ok (.aload_n 0, 1) := by decide +kernel
theorem dX4_await_14 : decode cX4_await 14 = .ok (.getfield 88, 3) := by decide +kernel
theorem dX4_await_17 : decode cX4_await 17 = .ok (.iload_n 1, 1) := by decide +kernel
theorem dX4_await_18 : decode cX4_await 18 = .ok (.iastore, 1) := by decide +kernel
theorem dX4_await_19 : decode cX4_await 19 = .ok (.aload_n 0, 1) := by decide +kernel
theorem dX4_await_20 : decode cX4_await 20 = .ok (.getfield 28, 3) := by decide +kernel
theorem dX4_await_23 : decode cX4_await 23 = .ok (.aload_n 0, 1) := by decide +kernel
theorem dX4_await_24 : decode cX4_await 24 = .ok (.getfield 88, 3) := by decide +kernel
theorem dX4_await_27 : decode cX4_await 27 = .ok (.iload_n 2, 1) := by decide +kernel
theorem dX4_await_28 : decode cX4_await 28 = .ok (.iastore, 1) := by decide +kernel
theorem dX4_await_29 : decode cX4_await 29 = .ok (.aload_n 0, 1) := by decide +kernel
theorem dX4_await_30 : decode cX4_await 30 = .ok (.getfield 31, 3) := by decide +kernel
theorem dX4_await_33 : decode cX4_await 33 = .ok (.aload_n 0, 1) := by decide +kernel
theorem dX4_await_34 : decode cX4_await 34 = .ok (.getfield 88, 3) := by decide +kernel
theorem dX4_await_37 : decode cX4_await 37 = .ok (.iload_n 3, 1) := by decide +kernel
theorem dX4_await_38 : decode cX4_await 38 = .ok (.iastore, 1) := by decide +kernel
theorem dX4_await_39 : decode cX4_await 39 = .ok (.aload_n 0, 1) := by decide +kernel
theorem dX4_await_40 : decode cX4_await 40 = .ok (.dup, 1) := by decide +kernel
theorem dX4_await_41 : decode cX4_await 41 = .ok (.getfield 88, 3) := by decide +kernel
theorem dX4_await_44 : decode cX4_await 44 = .ok (.iconst 1, 1) := by decide +kernel
theorem dX4_await_45 : decode cX4_await 45 = .ok (.iadd, 1) := by decide +kernel
theorem dX4_await_46 : decode cX4_await 46 = .ok (.putfield 88, 3) := by decide +kernel
theorem dX4_await_49 : decode cX4_await 49 = .ok (.return_, 1) := by decide +kernel
theorem bX4_await_0 {d mc ms : Nat} {al : Bool} {bc bs : Nat} {Γ : am_G} {I : am_I} {L : am_L} {Q : am_Q} {v0 : Nat} {v1 : Int32} {v2 : Int32} {v3 : Int32} (o1 : am_ob Γ v0 4) (kt : 15 ≤ (I v0 7) → am_W m_X4_await d mc ms al bc bs 49 [(0, .ref v0), (1, .int v1), (2, .int v2), (3, .int v3)] [] Γ I L Q) (kf : ¬ 15 ≤ (I v0 7) → am_W m_X4_await d mc ms al bc bs 9 [(0, .ref v0), (1, .int v1), (2, .int v2), (3, .int v3)] [] Γ I L Q) : am_W m_X4_await d mc ms al bc bs 0 [(0, .ref v0), (1, .int v1), (2, .int v2), (3, .int v3)] [] Γ I L Q := by
  refine aw_aload_n dX4_await_0 rfl ?_
  refine aw_getI dX4_await_1 f_X4_88 o1 rfl ?_
  refine aw_bipush dX4_await_4 cb_15 ?_
  exact aw_icmp_ge dX4_await_6 (by decide) kt kf
theorem bX4_await_9 {d mc ms : Nat} {al : Bool} {bc bs : Nat} {Γ : am_G} {I : am_I} {L : am_L} {Q : am_Q} {v0 : Nat} {v1 : Int32} {v2 : Int32} {v3 : Int32} {r2 : Nat} {n_r2 : Nat} {r6 : Nat} {n_r6 : Nat} {r10 : Nat} {n_r10 : Nat} (o1 : am_ob Γ v0 4) (g3 : Γ.2.2 v0 4 = some r2) (a4 : am_ar Γ r2 1 n_r2 0) (i5 : vp_in (I v0 7) n_r2) (g7 : Γ.2.2 v0 5 = some r6) (a8 : am_ar Γ r6 1 n_r6 0) (i9 : vp_in ((am_u I r2 ((I v0 7).toNatClampNeg) v1) v0 7) n_r6) (g11 : Γ.2.2 v0 6 = some r10) (a12 : am_ar Γ r10 1 n_r10 0) (i13 : vp_in ((am_u (am_u I r2 ((I v0 7).toNatClampNeg) v1) r6 (((am_u I r2 ((I v0 7).toNatClampNeg) v1) v0 7).toNatClampNeg) v2) v0 7) n_r10) (kk : am_W m_X4_await d mc ms al bc bs 49 [(0, .ref v0), (1, .int v1), (2, .int v2), (3, .int v3)] [] Γ (am_u (am_u (am_u (am_u I r2 ((I v0 7).toNatClampNeg) v1) r6 (((am_u I r2 ((I v0 7).toNatClampNeg) v1) v0 7).toNatClampNeg) v2) r10 (((am_u (am_u I r2 ((I v0 7).toNatClampNeg) v1) r6 (((am_u I r2 ((I v0 7).toNatClampNeg) v1) v0 7).toNatClampNeg) v2) v0 7).toNatClampNeg) v3) v0 7 (((am_u (am_u (am_u I r2 ((I v0 7).toNatClampNeg) v1) r6 (((am_u I r2 ((I v0 7).toNatClampNeg) v1) v0 7).toNatClampNeg) v2) r10 (((am_u (am_u I r2 ((I v0 7).toNatClampNeg) v1) r6 (((am_u I r2 ((I v0 7).toNatClampNeg) v1) v0 7).toNatClampNeg) v2) v0 7).toNatClampNeg) v3) v0 7) + 1)) L Q) : am_W m_X4_await d mc ms al bc bs 9 [(0, .ref v0), (1, .int v1), (2, .int v2), (3, .int v3)] [] Γ I L Q := by
  refine aw_aload_n dX4_await_9 rfl ?_
  refine aw_getR dX4_await_10 f_X4_25 o1 rfl g3 ?_
  refine aw_aload_n dX4_await_13 rfl ?_
  refine aw_getI dX4_await_14 f_X4_88 o1 rfl ?_
  refine aw_iload_n dX4_await_17 rfl ?_
  refine aw_iast dX4_await_18 a4 i5 ?_
  refine aw_aload_n dX4_await_19 rfl ?_
  refine aw_getR dX4_await_20 f_X4_28 o1 rfl g7 ?_
  refine aw_aload_n dX4_await_23 rfl ?_
  refine aw_getI dX4_await_24 f_X4_88 o1 rfl ?_
  refine aw_iload_n dX4_await_27 rfl ?_
  refine aw_iast dX4_await_28 a8 i9 ?_
  refine aw_aload_n dX4_await_29 rfl ?_
  refine aw_getR dX4_await_30 f_X4_31 o1 rfl g11 ?_
  refine aw_aload_n dX4_await_33 rfl ?_
  refine aw_getI dX4_await_34 f_X4_88 o1 rfl ?_
  refine aw_iload_n dX4_await_37 rfl ?_
  refine aw_iast dX4_await_38 a12 i13 ?_
  refine aw_aload_n dX4_await_39 rfl ?_
  refine aw_dup dX4_await_40 rfl ?_
  refine aw_getI dX4_await_41 f_X4_88 o1 rfl ?_
  refine aw_iconst dX4_await_44 ci_1 ?_
  refine aw_iadd dX4_await_45 ?_
  refine aw_putI dX4_await_46 p_X4_88 o1 rfl ?_
  exact kk
theorem bX4_await_49 {d mc ms : Nat} {al : Bool} {bc bs : Nat} {Γ : am_G} {I : am_I} {L : am_L} {Q : am_Q} {v0 : Nat} {v1 : Int32} {v2 : Int32} {v3 : Int32} (hq : Q (.inl none) Γ I L) : am_W m_X4_await d mc ms al bc bs 49 [(0, .ref v0), (1, .int v1), (2, .int v2), (3, .int v3)] [] Γ I L Q := by
  exact aw_vret dX4_await_49 rfl hq
theorem dX4_weighSets_0 : decode cX4_weighSets 0 = .ok (.aload_n 0, 1) := by decide +kernel
theorem dX4_weighSets_1 : decode cX4_weighSets 1 = .ok (.getfield 19, 3) := by decide +kernel
theorem dX4_weighSets_4 : decode cX4_weighSets 4 = .ok (.iconst 0, 1) := by decide +kernel
theorem dX4_weighSets_5 : decode cX4_weighSets 5 = .ok (.iconst 0, 1) := by decide +kernel
theorem dX4_weighSets_6 : decode cX4_weighSets 6 = .ok (.iastore, 1) := by decide +kernel
theorem dX4_weighSets_7 : decode cX4_weighSets 7 = .ok (.iconst 0, 1) := by decide +kernel
theorem dX4_weighSets_8 : decode cX4_weighSets 8 = .ok (.istore_n 3, 1) := by decide +kernel
theorem dX4_weighSets_9 : decode cX4_weighSets 9 = .ok (.iload_n 3, 1) := by decide +kernel
theorem dX4_weighSets_10 : decode cX4_weighSets 10 = .ok (.iload_n 2, 1) := by decide +kernel
theorem dX4_weighSets_11 : decode cX4_weighSets 11 = .ok (.if_icmp .ge 51, 3) := by decide +kernel
theorem dX4_weighSets_14 : decode cX4_weighSets 14 = .ok (.iconst 0, 1) := by decide +kernel
theorem dX4_weighSets_15 : decode cX4_weighSets 15 = .ok (.istore 4, 2) := by decide +kernel
theorem dX4_weighSets_17 : decode cX4_weighSets 17 = .ok (.iload 4, 2) := by decide +kernel
theorem dX4_weighSets_19 : decode cX4_weighSets 19 = .ok (.iconst 1, 1) := by decide +kernel
theorem dX4_weighSets_20 : decode cX4_weighSets 20 = .ok (.iload_n 3, 1) := by decide +kernel
theorem dX4_weighSets_21 : decode cX4_weighSets 21 = .ok (.ishl, 1) := by decide +kernel
theorem dX4_weighSets_22 : decode cX4_weighSets 22 = .ok (.if_icmp .ge 34, 3) := by decide +kernel
theorem dX4_weighSets_25 : decode cX4_weighSets 25 = .ok (.aload_n 0, 1) := by decide +kernel
theorem dX4_weighSets_26 : decode cX4_weighSets 26 = .ok (.getfield 19, 3) := by decide +kernel
theorem dX4_weighSets_29 : decode cX4_weighSets 29 = .ok (.iload 4, 2) := by decide +kernel
theorem dX4_weighSets_31 : decode cX4_weighSets 31 = .ok (.iconst 1, 1) := by decide +kernel
theorem dX4_weighSets_32 : decode cX4_weighSets 32 = .ok (.iload_n 3, 1) := by decide +kernel
theorem dX4_weighSets_33 : decode cX4_weighSets 33 = .ok (.ishl, 1) := by decide +kernel
theorem dX4_weighSets_34 : decode cX4_weighSets 34 = .ok (.ior, 1) := by decide +kernel
theorem dX4_weighSets_35 : decode cX4_weighSets 35 = .ok (.aload_n 0, 1) := by decide +kernel
theorem dX4_weighSets_36 : decode cX4_weighSets 36 = .ok (.getfield 19, 3) := by decide +kernel
theorem dX4_weighSets_39 : decode cX4_weighSets 39 = .ok (.iload 4, 2) := by decide +kernel
theorem dX4_weighSets_41 : decode cX4_weighSets 41 = .ok (.iaload, 1) := by decide +kernel
theorem dX4_weighSets_42 : decode cX4_weighSets 42 = .ok (.aload_n 1, 1) := by decide +kernel
theorem dX4_weighSets_43 : decode cX4_weighSets 43 = .ok (.getfield 128, 3) := by decide +kernel
theorem dX4_weighSets_46 : decode cX4_weighSets 46 = .ok (.iload_n 3, 1) := by decide +kernel
theorem dX4_weighSets_47 : decode cX4_weighSets 47 = .ok (.iaload, 1) := by decide +kernel
theorem dX4_weighSets_48 : decode cX4_weighSets 48 = .ok (.iadd, 1) := by decide +kernel
theorem dX4_weighSets_49 : decode cX4_weighSets 49 = .ok (.iastore, 1) := by decide +kernel
theorem dX4_weighSets_50 : decode cX4_weighSets 50 = .ok (.iinc 4 1, 3) := by decide +kernel
theorem dX4_weighSets_53 : decode cX4_weighSets 53 = .ok (.goto (-36), 3) := by decide +kernel
theorem dX4_weighSets_56 : decode cX4_weighSets 56 = .ok (.iinc 3 1, 3) := by decide +kernel
theorem dX4_weighSets_59 : decode cX4_weighSets 59 = .ok (.goto (-50), 3) := by decide +kernel
theorem dX4_weighSets_62 : decode cX4_weighSets 62 = .ok (.return_, 1) := by decide +kernel
theorem bX4_weighSets_0 {d mc ms : Nat} {al : Bool} {bc bs : Nat} {Γ : am_G} {I : am_I} {L : am_L} {Q : am_Q} {v0 : Nat} {v1 : Nat} {v2 : Int32} {r2 : Nat} {n_r2 : Nat} (o1 : am_ob Γ v0 4) (g3 : Γ.2.2 v0 2 = some r2) (a4 : am_ar Γ r2 1 n_r2 0) (i5 : vp_in 0 n_r2) (kk : am_W m_X4_weighSets d mc ms al bc bs 9 [(0, .ref v0), (1, .ref v1), (2, .int v2), (3, .int 0)] [] Γ (am_u I r2 ((0 : Int32).toNatClampNeg) 0) L Q) : am_W m_X4_weighSets d mc ms al bc bs 0 [(0, .ref v0), (1, .ref v1), (2, .int v2)] [] Γ I L Q := by
  refine aw_aload_n dX4_weighSets_0 rfl ?_
  refine aw_getR dX4_weighSets_1 f_X4_19 o1 rfl g3 ?_
  refine aw_iconst dX4_weighSets_4 ci_0 ?_
  refine aw_iconst dX4_weighSets_5 ci_0 ?_
  refine aw_iast dX4_weighSets_6 a4 i5 ?_
  refine aw_iconst dX4_weighSets_7 ci_0 ?_
  refine aw_istore_n (ls' := [(0, .ref v0), (1, .ref v1), (2, .int v2), (3, .int 0)]) dX4_weighSets_8 (by decide) rfl ?_
  exact kk
theorem bX4_weighSets_9 {d mc ms : Nat} {al : Bool} {bc bs : Nat} {Γ : am_G} {I : am_I} {L : am_L} {Q : am_Q} {v0 : Nat} {v1 : Nat} {v2 : Int32} {v3 : Int32} (kt : v2 ≤ v3 → am_W m_X4_weighSets d mc ms al bc bs 62 [(0, .ref v0), (1, .ref v1), (2, .int v2), (3, .int v3)] [] Γ I L Q) (kf : ¬ v2 ≤ v3 → am_W m_X4_weighSets d mc ms al bc bs 14 [(0, .ref v0), (1, .ref v1), (2, .int v2), (3, .int v3)] [] Γ I L Q) : am_W m_X4_weighSets d mc ms al bc bs 9 [(0, .ref v0), (1, .ref v1), (2, .int v2), (3, .int v3)] [] Γ I L Q := by
  refine aw_iload_n dX4_weighSets_9 rfl ?_
  refine aw_iload_n dX4_weighSets_10 rfl ?_
  exact aw_icmp_ge dX4_weighSets_11 (by decide) kt kf
theorem bX4_weighSets_14 {d mc ms : Nat} {al : Bool} {bc bs : Nat} {Γ : am_G} {I : am_I} {L : am_L} {Q : am_Q} {v0 : Nat} {v1 : Nat} {v2 : Int32} {v3 : Int32} (kk : am_W m_X4_weighSets d mc ms al bc bs 17 [(0, .ref v0), (1, .ref v1), (2, .int v2), (3, .int v3), (4, .int 0)] [] Γ I L Q) : am_W m_X4_weighSets d mc ms al bc bs 14 [(0, .ref v0), (1, .ref v1), (2, .int v2), (3, .int v3)] [] Γ I L Q := by
  refine aw_iconst dX4_weighSets_14 ci_0 ?_
  refine aw_istore (ls' := [(0, .ref v0), (1, .ref v1), (2, .int v2), (3, .int v3), (4, .int 0)]) dX4_weighSets_15 (by decide) rfl ?_
  exact kk
theorem bX4_weighSets_17 {d mc ms : Nat} {al : Bool} {bc bs : Nat} {Γ : am_G} {I : am_I} {L : am_L} {Q : am_Q} {v0 : Nat} {v1 : Nat} {v2 : Int32} {v3 : Int32} {v4 : Int32} (kt : (1 <<< (v3 &&& 31)) ≤ v4 → am_W m_X4_weighSets d mc ms al bc bs 56 [(0, .ref v0), (1, .ref v1), (2, .int v2), (3, .int v3), (4, .int v4)] [] Γ I L Q) (kf : ¬ (1 <<< (v3 &&& 31)) ≤ v4 → am_W m_X4_weighSets d mc ms al bc bs 25 [(0, .ref v0), (1, .ref v1), (2, .int v2), (3, .int v3), (4, .int v4)] [] Γ I L Q) : am_W m_X4_weighSets d mc ms al bc bs 17 [(0, .ref v0), (1, .ref v1), (2, .int v2), (3, .int v3), (4, .int v4)] [] Γ I L Q := by
  refine aw_iload dX4_weighSets_17 rfl ?_
  refine aw_iconst dX4_weighSets_19 ci_1 ?_
  refine aw_iload_n dX4_weighSets_20 rfl ?_
  refine aw_ishl dX4_weighSets_21 ?_
  exact aw_icmp_ge dX4_weighSets_22 (by decide) kt kf
theorem bX4_weighSets_25 {d mc ms : Nat} {al : Bool} {bc bs : Nat} {Γ : am_G} {I : am_I} {L : am_L} {Q : am_Q} {v0 : Nat} {v1 : Nat} {v2 : Int32} {v3 : Int32} {v4 : Int32} {r2 : Nat} {n_r2 : Nat} {r7 : Nat} {n_r7 : Nat} (o1 : am_ob Γ v0 4) (g3 : Γ.2.2 v0 2 = some r2) (a4 : am_ar Γ r2 1 n_r2 0) (i5 : vp_in v4 n_r2) (o6 : am_ob Γ v1 0) (g8 : Γ.2.2 v1 4 = some r7) (a9 : am_ar Γ r7 1 n_r7 0) (i10 : vp_in v3 n_r7) (i11 : vp_in (v4 ||| (1 <<< (v3 &&& 31))) n_r2) (kk : am_W m_X4_weighSets d mc ms al bc bs 17 [(0, .ref v0), (1, .ref v1), (2, .int v2), (3, .int v3), (4, .int (v4 + 1))] [] Γ (am_u I r2 ((v4 ||| (1 <<< (v3 &&& 31))).toNatClampNeg) ((I r2 (v4.toNatClampNeg)) + (I r7 (v3.toNatClampNeg)))) L Q) : am_W m_X4_weighSets d mc ms al bc bs 25 [(0, .ref v0), (1, .ref v1), (2, .int v2), (3, .int v3), (4, .int v4)] [] Γ I L Q := by
  refine aw_aload_n dX4_weighSets_25 rfl ?_
  refine aw_getR dX4_weighSets_26 f_X4_19 o1 rfl g3 ?_
  refine aw_iload dX4_weighSets_29 rfl ?_
  refine aw_iconst dX4_weighSets_31 ci_1 ?_
  refine aw_iload_n dX4_weighSets_32 rfl ?_
  refine aw_ishl dX4_weighSets_33 ?_
  refine aw_ior dX4_weighSets_34 ?_
  refine aw_aload_n dX4_weighSets_35 rfl ?_
  refine aw_getR dX4_weighSets_36 f_X4_19 o1 rfl g3 ?_
  refine aw_iload dX4_weighSets_39 rfl ?_
  refine aw_iald dX4_weighSets_41 a4 i5 ?_
  refine aw_aload_n dX4_weighSets_42 rfl ?_
  refine aw_getR dX4_weighSets_43 f_X4_128 o6 rfl g8 ?_
  refine aw_iload_n dX4_weighSets_46 rfl ?_
  refine aw_iald dX4_weighSets_47 a9 i10 ?_
  refine aw_iadd dX4_weighSets_48 ?_
  refine aw_iast dX4_weighSets_49 a4 i11 ?_
  refine aw_iinc (ls' := [(0, .ref v0), (1, .ref v1), (2, .int v2), (3, .int v3), (4, .int (v4 + 1))]) dX4_weighSets_50 rfl (cn_1 _) (by decide) rfl ?_
  exact aw_goto dX4_weighSets_53 (by decide) kk
theorem bX4_weighSets_56 {d mc ms : Nat} {al : Bool} {bc bs : Nat} {Γ : am_G} {I : am_I} {L : am_L} {Q : am_Q} {v0 : Nat} {v1 : Nat} {v2 : Int32} {v3 : Int32} {v4 : Int32} (kk : am_W m_X4_weighSets d mc ms al bc bs 9 [(0, .ref v0), (1, .ref v1), (2, .int v2), (3, .int (v3 + 1)), (4, .int v4)] [] Γ I L Q) : am_W m_X4_weighSets d mc ms al bc bs 56 [(0, .ref v0), (1, .ref v1), (2, .int v2), (3, .int v3), (4, .int v4)] [] Γ I L Q := by
  refine aw_iinc (ls' := [(0, .ref v0), (1, .ref v1), (2, .int v2), (3, .int (v3 + 1)), (4, .int v4)]) dX4_weighSets_56 rfl (cn_1 _) (by decide) rfl ?_
  exact aw_goto dX4_weighSets_59 (by decide) kk
theorem bX4_weighSets_62 {d mc ms : Nat} {al : Bool} {bc bs : Nat} {Γ : am_G} {I : am_I} {L : am_L} {Q : am_Q} {v0 : Nat} {v1 : Nat} {v2 : Int32} {v3 : Int32} (hq : Q (.inl none) Γ I L) : am_W m_X4_weighSets d mc ms al bc bs 62 [(0, .ref v0), (1, .ref v1), (2, .int v2), (3, .int v3)] [] Γ I L Q := by
  exact aw_vret dX4_weighSets_62 rfl hq
theorem dX4_groupTolls_0 : decode cX4_groupTolls 0 = .ok (.iconst 0, 1) := by decide +kernel
theorem dX4_groupTolls_1 : decode cX4_groupTolls 1 = .ok (.istore_n 2, 1) := by decide +kernel
theorem dX4_groupTolls_2 : decode cX4_groupTolls 2 = .ok (.iload_n 2, 1) := by decide +kernel
theorem dX4_groupTolls_3 : decode cX4_groupTolls 3 = .ok (.aload_n 1, 1) := by decide +kernel
theorem dX4_groupTolls_4 : decode cX4_groupTolls 4 = .ok (.getfield 40, 3) := by decide +kernel
theorem dX4_groupTolls_7 : decode cX4_groupTolls 7 = .ok (.if_icmp .ge 59, 3) := by decide +kernel
theorem dX4_groupTolls_10 : decode cX4_groupTolls 10 = .ok (.aload_n 0, 1) := by decide +kernel
theorem dX4_groupTolls_11 : decode cX4_groupTolls 11 = .ok (.getfield 22, 3) := by decide +kernel
theorem dX4_groupTolls_14 : decode cX4_groupTolls 14 = .ok (.iload_n 2, 1) := by decide +kernel
theorem dX4_groupTolls_15 : decode cX4_groupTolls 15 = .ok (.iconst 0, 1) := by decide +kernel
theorem dX4_groupTolls_16 : decode cX4_groupTolls 16 = .ok (.iastore, 1) := by decide +kernel
theorem dX4_groupTolls_17 : decode cX4_groupTolls 17 = .ok (.iconst 0, 1) := by decide +kernel
theorem dX4_groupTolls_18 : decode cX4_groupTolls 18 = .ok (.istore_n 3, 1) := by decide +kernel
theorem dX4_groupTolls_19 : decode cX4_groupTolls 19 = .ok (.iload_n 3, 1) := by decide +kernel
theorem dX4_groupTolls_20 : decode cX4_groupTolls 20 = .ok (.aload_n 1, 1) := by decide +kernel
theorem dX4_groupTolls_21 : decode cX4_groupTolls 21 = .ok (.getfield 40, 3) := by decide +kernel
theorem dX4_groupTolls_24 : decode cX4_groupTolls 24 = .ok (.if_icmp .ge 36, 3) := by decide +kernel
theorem dX4_groupTolls_27 : decode cX4_groupTolls 27 = .ok (.aload_n 1, 1) := by decide +kernel
theorem dX4_groupTolls_28 : decode cX4_groupTolls 28 = .ok (.getfield 131, 3) := by decide +kernel
theorem dX4_groupTolls_31 : decode cX4_groupTolls 31 = .ok (.iload_n 3, 1) := by decide +kernel
theorem dX4_groupTolls_32 : decode cX4_groupTolls 32 = .ok (.iaload, 1) := by decide +kernel
theorem dX4_groupTolls_33 : decode cX4_groupTolls 33 = .ok (.aload_n 1, 1) := by decide +kernel
theorem dX4_groupTolls_34 : decode cX4_groupTolls 34 = .ok (.getfield 131, 3) := by decide +kernel
theorem dX4_groupTolls_37 : decode cX4_groupTolls 37 = .ok (.iload_n 2, 1) := by decide +kernel
theorem dX4_groupTolls_38 : decode cX4_groupTolls 38 = .ok (.iaload, 1) := by decide +kernel
theorem dX4_groupTolls_39 : decode cX4_groupTolls 39 = .ok (.if_icmp .ne 15, 3) := by decide +kernel
theorem dX4_groupTolls_42 : decode cX4_groupTolls 42 = .ok (.aload_n 0, 1) := by decide +kernel
theorem dX4_groupTolls_43 : decode cX4_groupTolls 43 = .ok (.getfield 22, 3) := by decide +kernel
theorem dX4_groupTolls_46 : decode cX4_groupTolls 46 = .ok (.iload_n 2, 1) := by decide +kernel
theorem dX4_groupTolls_47 : decode cX4_groupTolls 47 = .ok (.dup2, 1) := by decide +kernel
theorem dX4_groupTolls_48 : decode cX4_groupTolls 48 = .ok (.iaload, 1) := by decide +kernel
theorem dX4_groupTolls_49 : decode cX4_groupTolls 49 = .ok (.iconst 1, 1) := by decide +kernel
theorem dX4_groupTolls_50 : decode cX4_groupTolls 50 = .ok (.iload_n 3, 1) := by decide +kernel
theorem dX4_groupTolls_51 : decode cX4_groupTolls 51 = .ok (.ishl, 1) := by decide +kernel
theorem dX4_groupTolls_52 : decode cX4_groupTolls 52 = .ok (.ior, 1) := by decide +kernel
theorem dX4_groupTolls_53 : decode cX4_groupTolls 53 = .ok (.iastore, 1) := by decide +kernel
theorem dX4_groupTolls_54 : decode cX4_groupTolls 54 = .ok (.iinc 3 1, 3) := by decide +kernel
theorem dX4_groupTolls_57 : decode cX4_groupTolls 57 = .ok (.goto (-38), 3) := by decide +kernel
theorem dX4_groupTolls_60 : decode cX4_groupTolls 60 = .ok (.iinc 2 1, 3) := by decide +kernel
theorem dX4_groupTolls_63 : decode cX4_groupTolls 63 = .ok (.goto (-61), 3) := by decide +kernel
theorem dX4_groupTolls_66 : decode cX4_groupTolls 66 = .ok (.return_, 1) := by decide +kernel
theorem bX4_groupTolls_0 {d mc ms : Nat} {al : Bool} {bc bs : Nat} {Γ : am_G} {I : am_I} {L : am_L} {Q : am_Q} {v0 : Nat} {v1 : Nat} (kk : am_W m_X4_groupTolls d mc ms al bc bs 2 [(0, .ref v0), (1, .ref v1), (2, .int 0)] [] Γ I L Q) : am_W m_X4_groupTolls d mc ms al bc bs 0 [(0, .ref v0), (1, .ref v1)] [] Γ I L Q := by
  refine aw_iconst dX4_groupTolls_0 ci_0 ?_
  refine aw_istore_n (ls' := [(0, .ref v0), (1, .ref v1), (2, .int 0)]) dX4_groupTolls_1 (by decide) rfl ?_
  exact kk
theorem bX4_groupTolls_2 {d mc ms : Nat} {al : Bool} {bc bs : Nat} {Γ : am_G} {I : am_I} {L : am_L} {Q : am_Q} {v0 : Nat} {v1 : Nat} {v2 : Int32} (o1 : am_ob Γ v1 5) (kt : (I v1 1) ≤ v2 → am_W m_X4_groupTolls d mc ms al bc bs 66 [(0, .ref v0), (1, .ref v1), (2, .int v2)] [] Γ I L Q) (kf : ¬ (I v1 1) ≤ v2 → am_W m_X4_groupTolls d mc ms al bc bs 10 [(0, .ref v0), (1, .ref v1), (2, .int v2)] [] Γ I L Q) : am_W m_X4_groupTolls d mc ms al bc bs 2 [(0, .ref v0), (1, .ref v1), (2, .int v2)] [] Γ I L Q := by
  refine aw_iload_n dX4_groupTolls_2 rfl ?_
  refine aw_aload_n dX4_groupTolls_3 rfl ?_
  refine aw_getI dX4_groupTolls_4 f_X4_40 o1 rfl ?_
  exact aw_icmp_ge dX4_groupTolls_7 (by decide) kt kf
theorem bX4_groupTolls_10 {d mc ms : Nat} {al : Bool} {bc bs : Nat} {Γ : am_G} {I : am_I} {L : am_L} {Q : am_Q} {v0 : Nat} {v1 : Nat} {v2 : Int32} {r2 : Nat} {n_r2 : Nat} (o1 : am_ob Γ v0 4) (g3 : Γ.2.2 v0 3 = some r2) (a4 : am_ar Γ r2 1 n_r2 0) (i5 : vp_in v2 n_r2) (kk : am_W m_X4_groupTolls d mc ms al bc bs 19 [(0, .ref v0), (1, .ref v1), (2, .int v2), (3, .int 0)] [] Γ (am_u I r2 (v2.toNatClampNeg) 0) L Q) : am_W m_X4_groupTolls d mc ms al bc bs 10 [(0, .ref v0), (1, .ref v1), (2, .int v2)] [] Γ I L Q := by
  refine aw_aload_n dX4_groupTolls_10 rfl ?_
  refine aw_getR dX4_groupTolls_11 f_X4_22 o1 rfl g3 ?_
  refine aw_iload_n dX4_groupTolls_14 rfl ?_
  refine aw_iconst dX4_groupTolls_15 ci_0 ?_
  refine aw_iast dX4_groupTolls_16 a4 i5 ?_
  refine aw_iconst dX4_groupTolls_17 ci_0 ?_
  refine aw_istore_n (ls' := [(0, .ref v0), (1, .ref v1), (2, .int v2), (3, .int 0)]) dX4_groupTolls_18 (by decide) rfl ?_
  exact kk
theorem bX4_groupTolls_19 {d mc ms : Nat} {al : Bool} {bc bs : Nat} {Γ : am_G} {I : am_I} {L : am_L} {Q : am_Q} {v0 : Nat} {v1 : Nat} {v2 : Int32} {v3 : Int32} (o1 : am_ob Γ v1 5) (kt : (I v1 1) ≤ v3 → am_W m_X4_groupTolls d mc ms al bc bs 60 [(0, .ref v0), (1, .ref v1), (2, .int v2), (3, .int v3)] [] Γ I L Q) (kf : ¬ (I v1 1) ≤ v3 → am_W m_X4_groupTolls d mc ms al bc bs 27 [(0, .ref v0), (1, .ref v1), (2, .int v2), (3, .int v3)] [] Γ I L Q) : am_W m_X4_groupTolls d mc ms al bc bs 19 [(0, .ref v0), (1, .ref v1), (2, .int v2), (3, .int v3)] [] Γ I L Q := by
  refine aw_iload_n dX4_groupTolls_19 rfl ?_
  refine aw_aload_n dX4_groupTolls_20 rfl ?_
  refine aw_getI dX4_groupTolls_21 f_X4_40 o1 rfl ?_
  exact aw_icmp_ge dX4_groupTolls_24 (by decide) kt kf
theorem bX4_groupTolls_27 {d mc ms : Nat} {al : Bool} {bc bs : Nat} {Γ : am_G} {I : am_I} {L : am_L} {Q : am_Q} {v0 : Nat} {v1 : Nat} {v2 : Int32} {v3 : Int32} {r2 : Nat} {n_r2 : Nat} (o1 : am_ob Γ v1 5) (g3 : Γ.2.2 v1 8 = some r2) (a4 : am_ar Γ r2 1 n_r2 0) (i5 : vp_in v3 n_r2) (i6 : vp_in v2 n_r2) (kt : ¬ (I r2 (v3.toNatClampNeg)) = (I r2 (v2.toNatClampNeg)) → am_W m_X4_groupTolls d mc ms al bc bs 54 [(0, .ref v0), (1, .ref v1), (2, .int v2), (3, .int v3)] [] Γ I L Q) (kf : (I r2 (v3.toNatClampNeg)) = (I r2 (v2.toNatClampNeg)) → am_W m_X4_groupTolls d mc ms al bc bs 42 [(0, .ref v0), (1, .ref v1), (2, .int v2), (3, .int v3)] [] Γ I L Q) : am_W m_X4_groupTolls d mc ms al bc bs 27 [(0, .ref v0), (1, .ref v1), (2, .int v2), (3, .int v3)] [] Γ I L Q := by
  refine aw_aload_n dX4_groupTolls_27 rfl ?_
  refine aw_getR dX4_groupTolls_28 f_X4_131 o1 rfl g3 ?_
  refine aw_iload_n dX4_groupTolls_31 rfl ?_
  refine aw_iald dX4_groupTolls_32 a4 i5 ?_
  refine aw_aload_n dX4_groupTolls_33 rfl ?_
  refine aw_getR dX4_groupTolls_34 f_X4_131 o1 rfl g3 ?_
  refine aw_iload_n dX4_groupTolls_37 rfl ?_
  refine aw_iald dX4_groupTolls_38 a4 i6 ?_
  exact aw_icmp_ne dX4_groupTolls_39 (by decide) kt kf
theorem bX4_groupTolls_42 {d mc ms : Nat} {al : Bool} {bc bs : Nat} {Γ : am_G} {I : am_I} {L : am_L} {Q : am_Q} {v0 : Nat} {v1 : Nat} {v2 : Int32} {v3 : Int32} {r2 : Nat} {n_r2 : Nat} (o1 : am_ob Γ v0 4) (g3 : Γ.2.2 v0 3 = some r2) (a4 : am_ar Γ r2 1 n_r2 0) (i5 : vp_in v2 n_r2) (kk : am_W m_X4_groupTolls d mc ms al bc bs 54 [(0, .ref v0), (1, .ref v1), (2, .int v2), (3, .int v3)] [] Γ (am_u I r2 (v2.toNatClampNeg) ((I r2 (v2.toNatClampNeg)) ||| (1 <<< (v3 &&& 31)))) L Q) : am_W m_X4_groupTolls d mc ms al bc bs 42 [(0, .ref v0), (1, .ref v1), (2, .int v2), (3, .int v3)] [] Γ I L Q := by
  refine aw_aload_n dX4_groupTolls_42 rfl ?_
  refine aw_getR dX4_groupTolls_43 f_X4_22 o1 rfl g3 ?_
  refine aw_iload_n dX4_groupTolls_46 rfl ?_
  refine aw_dup2 dX4_groupTolls_47 rfl rfl ?_
  refine aw_iald dX4_groupTolls_48 a4 i5 ?_
  refine aw_iconst dX4_groupTolls_49 ci_1 ?_
  refine aw_iload_n dX4_groupTolls_50 rfl ?_
  refine aw_ishl dX4_groupTolls_51 ?_
  refine aw_ior dX4_groupTolls_52 ?_
  refine aw_iast dX4_groupTolls_53 a4 i5 ?_
  exact kk
theorem bX4_groupTolls_54 {d mc ms : Nat} {al : Bool} {bc bs : Nat} {Γ : am_G} {I : am_I} {L : am_L} {Q : am_Q} {v0 : Nat} {v1 : Nat} {v2 : Int32} {v3 : Int32} (kk : am_W m_X4_groupTolls d mc ms al bc bs 19 [(0, .ref v0), (1, .ref v1), (2, .int v2), (3, .int (v3 + 1))] [] Γ I L Q) : am_W m_X4_groupTolls d mc ms al bc bs 54 [(0, .ref v0), (1, .ref v1), (2, .int v2), (3, .int v3)] [] Γ I L Q := by
  refine aw_iinc (ls' := [(0, .ref v0), (1, .ref v1), (2, .int v2), (3, .int (v3 + 1))]) dX4_groupTolls_54 rfl (cn_1 _) (by decide) rfl ?_
  exact aw_goto dX4_groupTolls_57 (by decide) kk
theorem bX4_groupTolls_60 {d mc ms : Nat} {al : Bool} {bc bs : Nat} {Γ : am_G} {I : am_I} {L : am_L} {Q : am_Q} {v0 : Nat} {v1 : Nat} {v2 : Int32} {v3 : Int32} (kk : am_W m_X4_groupTolls d mc ms al bc bs 2 [(0, .ref v0), (1, .ref v1), (2, .int (v2 + 1)), (3, .int v3)] [] Γ I L Q) : am_W m_X4_groupTolls d mc ms al bc bs 60 [(0, .ref v0), (1, .ref v1), (2, .int v2), (3, .int v3)] [] Γ I L Q := by
  refine aw_iinc (ls' := [(0, .ref v0), (1, .ref v1), (2, .int (v2 + 1)), (3, .int v3)]) dX4_groupTolls_60 rfl (cn_1 _) (by decide) rfl ?_
  exact aw_goto dX4_groupTolls_63 (by decide) kk
theorem bX4_groupTolls_66 {d mc ms : Nat} {al : Bool} {bc bs : Nat} {Γ : am_G} {I : am_I} {L : am_L} {Q : am_Q} {v0 : Nat} {v1 : Nat} {v2 : Int32} (hq : Q (.inl none) Γ I L) : am_W m_X4_groupTolls d mc ms al bc bs 66 [(0, .ref v0), (1, .ref v1), (2, .int v2)] [] Γ I L Q := by
  exact aw_vret dX4_groupTolls_66 rfl hq
theorem dX4_needChildren_0 : decode cX4_needChildren 0 = .ok (.aload_n 0, 1) := by decide +kernel
theorem dX4_needChildren_1 : decode cX4_needChildren 1 = .ok (.getfield 15, 3) := by decide +kernel
theorem dX4_needChildren_4 : decode cX4_needChildren 4 = .ok (.iload_n 2, 1) := by decide +kernel
theorem dX4_needChildren_5 : decode cX4_needChildren 5 = .ok (.iaload, 1) := by decide +kernel
theorem dX4_needChildren_6 : decode cX4_needChildren 6 = .ok (.ifCond .ne 4, 3) := by decide +kernel
theorem dX4_needChildren_9 : decode cX4_needChildren 9 = .ok (.return_, 1) := by decide +kernel
theorem dX4_needChildren_10 : decode cX4_needChildren 10 = .ok (.iconst 0, 1) := by decide +kernel
theorem dX4_needChildren_11 : decode cX4_needChildren 11 = .ok (.istore 4, 2) := by decide +kernel
theorem dX4_needChildren_13 : decode cX4_needChildren 13 = .ok (.iload 4, 2) := by decide +kernel
theorem dX4_needChildren_15 : decode cX4_needChildren 15 = .ok (.aload_n 1, 1) := by decide +kernel
theorem dX4_needChildren_16 : decode cX4_needChildren 16 = .ok (.getfield 132, 3) := by decide +kernel
theorem dX4_needChildren_19 : decode cX4_needChildren 19 = .ok (.if_icmp .ge 89, 3) := by decide +kernel
theorem dX4_needChildren_22 : decode cX4_needChildren 22 = .ok (.iload_n 2, 1) := by decide +kernel
theorem dX4_needChildren_23 : decode cX4_needChildren 23 = .ok (.aload_n 1, 1) := by decide +kernel
theorem dX4_needChildren_24 : decode cX4_needChildren 24 = .ok (.getfield 125, 3) := by decide +kernel
theorem dX4_needChildren_27 : decode cX4_needChildren 27 = .ok (.iload 4, 2) := by decide +kernel
theorem dX4_needChildren_29 : decode cX4_needChildren 29 = .ok (.iaload, 1) := by decide +kernel
theorem dX4_needChildren_30 : decode cX4_needChildren 30 = .ok (.iand, 1) := by decide +kernel
theorem dX4_needChildren_31 : decode cX4_needChildren 31 = .ok (.istore 5, 2) := by decide +kernel
theorem dX4_needChildren_33 : decode cX4_needChildren 33 = .ok (.iload_n 2, 1) := by decide +kernel
theorem dX4_needChildren_34 : decode cX4_needChildren 34 = .ok (.aload_n 1, 1) := by decide +kernel
theorem dX4_needChildren_35 : decode cX4_needChildren 35 = .ok (.getfield 125, 3) := by decide +kernel
theorem dX4_needChildren_38 : decode cX4_needChildren 38 = .ok (.iload 4, 2) := by decide +kernel
theorem dX4_needChildren_40 : decode cX4_needChildren 40 = .ok (.iaload, 1) := by decide +kernel
theorem dX4_needChildren_41 : decode cX4_needChildren 41 = .ok (.iconst (-1), 1) := by decide +kernel
theorem dX4_needChildren_42 : decode cX4_needChildren 42 = .ok (.ixor, 1) := by decide +kernel
theorem dX4_needChildren_43 : decode cX4_needChildren 43 = .ok (.iand, 1) := by decide +kernel
theorem dX4_needChildren_44 : decode cX4_needChildren 44 = .ok (.istore 6, 2) := by decide +kernel
theorem dX4_needChildren_46 : decode cX4_needChildren 46 = .ok (.iload 4, 2) := by decide +kernel
theorem dX4_needChildren_48 : decode cX4_needChildren 48 = .ok (.iload_n 3, 1) := by decide +kernel
theorem dX4_needChildren_49 : decode cX4_needChildren 49 = .ok (.if_icmp .eq 53, 3) := by decide +kernel
theorem dX4_needChildren_52 : decode cX4_needChildren 52 = .ok (.iload 5, 2) := by decide +kernel
theorem dX4_needChildren_54 : decode cX4_needChildren 54 = .ok (.ifCond .eq 48, 3) := by decide +kernel
theorem dX4_needChildren_57 : decode cX4_needChildren 57 = .ok (.iload 6, 2) := by decide +kernel
theorem dX4_needChildren_59 : decode cX4_needChildren 59 = .ok (.ifCond .eq 43, 3) := by decide +kernel
theorem dX4_needChildren_62 : decode cX4_needChildren 62 = .ok (.aload_n 0, 1) := by decide +kernel
theorem dX4_needChildren_63 : decode cX4_needChildren 63 = .ok (.getfield 15, 3) := by decide +kernel
theorem dX4_needChildren_66 : decode cX4_needChildren 66 = .ok (.iload_n 2, 1) := by decide +kernel
theorem dX4_needChildren_67 : decode cX4_needChildren 67 = .ok (.iaload, 1) := by decide +kernel
theorem dX4_needChildren_68 : decode cX4_needChildren 68 = .ok (.aload_n 1, 1) := by decide +kernel
theorem dX4_needChildren_69 : decode cX4_needChildren 69 = .ok (.getfield 122, 3) := by decide +kernel
theorem dX4_needChildren_72 : decode cX4_needChildren 72 = .ok (.iload 4, 2) := by decide +kernel
theorem dX4_needChildren_74 : decode cX4_needChildren 74 = .ok (.iaload, 1) := by decide +kernel
theorem dX4_needChildren_75 : decode cX4_needChildren 75 = .ok (.ishr, 1) := by decide +kernel
theorem dX4_needChildren_76 : decode cX4_needChildren 76 = .ok (.istore 7, 2) := by decide +kernel
theorem dX4_needChildren_78 : decode cX4_needChildren 78 = .ok (.aload_n 0, 1) := by decide +kernel
theorem dX4_needChildren_79 : decode cX4_needChildren 79 = .ok (.getfield 15, 3) := by decide +kernel
theorem dX4_needChildren_82 : decode cX4_needChildren 82 = .ok (.iload 5, 2) := by decide +kernel
theorem dX4_needChildren_84 : decode cX4_needChildren 84 = .ok (.dup2, 1) := by decide +kernel
theorem dX4_needChildren_85 : decode cX4_needChildren 85 = .ok (.iaload, 1) := by decide +kernel
theorem dX4_needChildren_86 : decode cX4_needChildren 86 = .ok (.iload 7, 2) := by decide +kernel
theorem dX4_needChildren_88 : decode cX4_needChildren 88 = .ok (.ior, 1) := by decide +kernel
theorem dX4_needChildren_89 : decode cX4_needChildren 89 = .ok (.iastore, 1) := by decide +kernel
theorem dX4_needChildren_90 : decode cX4_needChildren 90 = .ok (.aload_n 0, 1) := by decide +kernel
theorem dX4_needChildren_91 : decode cX4_needChildren 91 = .ok (.getfield 15, 3) := by decide +kernel
theorem dX4_needChildren_94 : decode cX4_needChildren 94 = .ok (.iload 6, 2) := by decide +kernel
theorem dX4_needChildren_96 : decode cX4_needChildren 96 = .ok (.dup2, 1) := by decide +kernel
theorem dX4_needChildren_97 : decode cX4_needChildren 97 = .ok (.iaload, 1) := by decide +kernel
theorem dX4_needChildren_98 : decode cX4_needChildren 98 = .ok (.iload 7, 2) := by decide +kernel
theorem dX4_needChildren_100 : decode cX4_needChildren 100 = .ok (.ior, 1) := by decide +kernel
theorem dX4_needChildren_101 : decode cX4_needChildren 101 = .ok (.iastore, 1) := by decide +kernel
theorem dX4_needChildren_102 : decode cX4_needChildren 102 = .ok (.iinc 4 1, 3) := by decide +kernel
theorem dX4_needChildren_105 : decode cX4_needChildren 105 = .ok (.goto (-92), 3) := by decide +kernel
theorem dX4_needChildren_108 : decode cX4_needChildren 108 = .ok (.return_, 1) := by decide +kernel
theorem bX4_needChildren_0 {d mc ms : Nat} {al : Bool} {bc bs : Nat} {Γ : am_G} {I : am_I} {L : am_L} {Q : am_Q} {v0 : Nat} {v1 : Nat} {v2 : Int32} {v3 : Int32} {r2 : Nat} {n_r2 : Nat} (o1 : am_ob Γ v0 4) (g3 : Γ.2.2 v0 1 = some r2) (a4 : am_ar Γ r2 1 n_r2 0) (i5 : vp_in v2 n_r2) (kt : ¬ (I r2 (v2.toNatClampNeg)) = 0 → am_W m_X4_needChildren d mc ms al bc bs 10 [(0, .ref v0), (1, .ref v1), (2, .int v2), (3, .int v3)] [] Γ I L Q) (kf : (I r2 (v2.toNatClampNeg)) = 0 → am_W m_X4_needChildren d mc ms al bc bs 9 [(0, .ref v0), (1, .ref v1), (2, .int v2), (3, .int v3)] [] Γ I L Q) : am_W m_X4_needChildren d mc ms al bc bs 0 [(0, .ref v0), (1, .ref v1), (2, .int v2), (3, .int v3)] [] Γ I L Q := by
  refine aw_aload_n dX4_needChildren_0 rfl ?_
  refine aw_getR dX4_needChildren_1 f_X4_15 o1 rfl g3 ?_
  refine aw_iload_n dX4_needChildren_4 rfl ?_
  refine aw_iald dX4_needChildren_5 a4 i5 ?_
  exact aw_if_ne dX4_needChildren_6 (by decide) kt kf
theorem bX4_needChildren_9 {d mc ms : Nat} {al : Bool} {bc bs : Nat} {Γ : am_G} {I : am_I} {L : am_L} {Q : am_Q} {v0 : Nat} {v1 : Nat} {v2 : Int32} {v3 : Int32} (hq : Q (.inl none) Γ I L) : am_W m_X4_needChildren d mc ms al bc bs 9 [(0, .ref v0), (1, .ref v1), (2, .int v2), (3, .int v3)] [] Γ I L Q := by
  exact aw_vret dX4_needChildren_9 rfl hq
theorem bX4_needChildren_10 {d mc ms : Nat} {al : Bool} {bc bs : Nat} {Γ : am_G} {I : am_I} {L : am_L} {Q : am_Q} {v0 : Nat} {v1 : Nat} {v2 : Int32} {v3 : Int32} (kk : am_W m_X4_needChildren d mc ms al bc bs 13 [(0, .ref v0), (1, .ref v1), (2, .int v2), (3, .int v3), (4, .int 0)] [] Γ I L Q) : am_W m_X4_needChildren d mc ms al bc bs 10 [(0, .ref v0), (1, .ref v1), (2, .int v2), (3, .int v3)] [] Γ I L Q := by
  refine aw_iconst dX4_needChildren_10 ci_0 ?_
  refine aw_istore (ls' := [(0, .ref v0), (1, .ref v1), (2, .int v2), (3, .int v3), (4, .int 0)]) dX4_needChildren_11 (by decide) rfl ?_
  exact kk
theorem bX4_needChildren_13 {d mc ms : Nat} {al : Bool} {bc bs : Nat} {Γ : am_G} {I : am_I} {L : am_L} {Q : am_Q} {v0 : Nat} {v1 : Nat} {v2 : Int32} {v3 : Int32} {v4 : Int32} (o1 : am_ob Γ v1 5) (kt : (I v1 0) ≤ v4 → am_W m_X4_needChildren d mc ms al bc bs 108 [(0, .ref v0), (1, .ref v1), (2, .int v2), (3, .int v3), (4, .int v4)] [] Γ I L Q) (kf : ¬ (I v1 0) ≤ v4 → am_W m_X4_needChildren d mc ms al bc bs 22 [(0, .ref v0), (1, .ref v1), (2, .int v2), (3, .int v3), (4, .int v4)] [] Γ I L Q) : am_W m_X4_needChildren d mc ms al bc bs 13 [(0, .ref v0), (1, .ref v1), (2, .int v2), (3, .int v3), (4, .int v4)] [] Γ I L Q := by
  refine aw_iload dX4_needChildren_13 rfl ?_
  refine aw_aload_n dX4_needChildren_15 rfl ?_
  refine aw_getI dX4_needChildren_16 f_X4_132 o1 rfl ?_
  exact aw_icmp_ge dX4_needChildren_19 (by decide) kt kf
theorem bX4_needChildren_22 {d mc ms : Nat} {al : Bool} {bc bs : Nat} {Γ : am_G} {I : am_I} {L : am_L} {Q : am_Q} {v0 : Nat} {v1 : Nat} {v2 : Int32} {v3 : Int32} {v4 : Int32} {r2 : Nat} {n_r2 : Nat} (o1 : am_ob Γ v1 5) (g3 : Γ.2.2 v1 6 = some r2) (a4 : am_ar Γ r2 1 n_r2 0) (i5 : vp_in v4 n_r2) (kt : v4 = v3 → am_W m_X4_needChildren d mc ms al bc bs 102 [(0, .ref v0), (1, .ref v1), (2, .int v2), (3, .int v3), (4, .int v4), (5, .int (v2 &&& (I r2 (v4.toNatClampNeg)))), (6, .int (v2 &&& ((I r2 (v4.toNatClampNeg)) ^^^ (-1))))] [] Γ I L Q) (kf : ¬ v4 = v3 → am_W m_X4_needChildren d mc ms al bc bs 52 [(0, .ref v0), (1, .ref v1), (2, .int v2), (3, .int v3), (4, .int v4), (5, .int (v2 &&& (I r2 (v4.toNatClampNeg)))), (6, .int (v2 &&& ((I r2 (v4.toNatClampNeg)) ^^^ (-1))))] [] Γ I L Q) : am_W m_X4_needChildren d mc ms al bc bs 22 [(0, .ref v0), (1, .ref v1), (2, .int v2), (3, .int v3), (4, .int v4)] [] Γ I L Q := by
  refine aw_iload_n dX4_needChildren_22 rfl ?_
  refine aw_aload_n dX4_needChildren_23 rfl ?_
  refine aw_getR dX4_needChildren_24 f_X4_125 o1 rfl g3 ?_
  refine aw_iload dX4_needChildren_27 rfl ?_
  refine aw_iald dX4_needChildren_29 a4 i5 ?_
  refine aw_iand dX4_needChildren_30 ?_
  refine aw_istore (ls' := [(0, .ref v0), (1, .ref v1), (2, .int v2), (3, .int v3), (4, .int v4), (5, .int (v2 &&& (I r2 (v4.toNatClampNeg))))]) dX4_needChildren_31 (by decide) rfl ?_
  refine aw_iload_n dX4_needChildren_33 rfl ?_
  refine aw_aload_n dX4_needChildren_34 rfl ?_
  refine aw_getR dX4_needChildren_35 f_X4_125 o1 rfl g3 ?_
  refine aw_iload dX4_needChildren_38 rfl ?_
  refine aw_iald dX4_needChildren_40 a4 i5 ?_
  refine aw_iconst dX4_needChildren_41 ci_m1 ?_
  refine aw_ixor dX4_needChildren_42 ?_
  refine aw_iand dX4_needChildren_43 ?_
  refine aw_istore (ls' := [(0, .ref v0), (1, .ref v1), (2, .int v2), (3, .int v3), (4, .int v4), (5, .int (v2 &&& (I r2 (v4.toNatClampNeg)))), (6, .int (v2 &&& ((I r2 (v4.toNatClampNeg)) ^^^ (-1))))]) dX4_needChildren_44 (by decide) rfl ?_
  refine aw_iload dX4_needChildren_46 rfl ?_
  refine aw_iload_n dX4_needChildren_48 rfl ?_
  exact aw_icmp_eq dX4_needChildren_49 (by decide) kt kf
theorem bX4_needChildren_52 {d mc ms : Nat} {al : Bool} {bc bs : Nat} {Γ : am_G} {I : am_I} {L : am_L} {Q : am_Q} {v0 : Nat} {v1 : Nat} {v2 : Int32} {v3 : Int32} {v4 : Int32} {v5 : Int32} {v6 : Int32} (kt : v5 = 0 → am_W m_X4_needChildren d mc ms al bc bs 102 [(0, .ref v0), (1, .ref v1), (2, .int v2), (3, .int v3), (4, .int v4), (5, .int v5), (6, .int v6)] [] Γ I L Q) (kf : ¬ v5 = 0 → am_W m_X4_needChildren d mc ms al bc bs 57 [(0, .ref v0), (1, .ref v1), (2, .int v2), (3, .int v3), (4, .int v4), (5, .int v5), (6, .int v6)] [] Γ I L Q) : am_W m_X4_needChildren d mc ms al bc bs 52 [(0, .ref v0), (1, .ref v1), (2, .int v2), (3, .int v3), (4, .int v4), (5, .int v5), (6, .int v6)] [] Γ I L Q := by
  refine aw_iload dX4_needChildren_52 rfl ?_
  exact aw_if_eq dX4_needChildren_54 (by decide) kt kf
theorem bX4_needChildren_57 {d mc ms : Nat} {al : Bool} {bc bs : Nat} {Γ : am_G} {I : am_I} {L : am_L} {Q : am_Q} {v0 : Nat} {v1 : Nat} {v2 : Int32} {v3 : Int32} {v4 : Int32} {v5 : Int32} {v6 : Int32} (kt : v6 = 0 → am_W m_X4_needChildren d mc ms al bc bs 102 [(0, .ref v0), (1, .ref v1), (2, .int v2), (3, .int v3), (4, .int v4), (5, .int v5), (6, .int v6)] [] Γ I L Q) (kf : ¬ v6 = 0 → am_W m_X4_needChildren d mc ms al bc bs 62 [(0, .ref v0), (1, .ref v1), (2, .int v2), (3, .int v3), (4, .int v4), (5, .int v5), (6, .int v6)] [] Γ I L Q) : am_W m_X4_needChildren d mc ms al bc bs 57 [(0, .ref v0), (1, .ref v1), (2, .int v2), (3, .int v3), (4, .int v4), (5, .int v5), (6, .int v6)] [] Γ I L Q := by
  refine aw_iload dX4_needChildren_57 rfl ?_
  exact aw_if_eq dX4_needChildren_59 (by decide) kt kf
theorem bX4_needChildren_62 {d mc ms : Nat} {al : Bool} {bc bs : Nat} {Γ : am_G} {I : am_I} {L : am_L} {Q : am_Q} {v0 : Nat} {v1 : Nat} {v2 : Int32} {v3 : Int32} {v4 : Int32} {v5 : Int32} {v6 : Int32} {r2 : Nat} {n_r2 : Nat} {r7 : Nat} {n_r7 : Nat} (o1 : am_ob Γ v0 4) (g3 : Γ.2.2 v0 1 = some r2) (a4 : am_ar Γ r2 1 n_r2 0) (i5 : vp_in v2 n_r2) (o6 : am_ob Γ v1 5) (g8 : Γ.2.2 v1 5 = some r7) (a9 : am_ar Γ r7 1 n_r7 0) (i10 : vp_in v4 n_r7) (i11 : vp_in v5 n_r2) (i12 : vp_in v6 n_r2) (kk : am_W m_X4_needChildren d mc ms al bc bs 102 [(0, .ref v0), (1, .ref v1), (2, .int v2), (3, .int v3), (4, .int v4), (5, .int v5), (6, .int v6), (7, .int ((I r2 (v2.toNatClampNeg)) >>> ((I r7 (v4.toNatClampNeg)) &&& 31)))] [] Γ (am_u (am_u I r2 (v5.toNatClampNeg) ((I r2 (v5.toNatClampNeg)) ||| ((I r2 (v2.toNatClampNeg)) >>> ((I r7 (v4.toNatClampNeg)) &&& 31)))) r2 (v6.toNatClampNeg) (((am_u I r2 (v5.toNatClampNeg) ((I r2 (v5.toNatClampNeg)) ||| ((I r2 (v2.toNatClampNeg)) >>> ((I r7 (v4.toNatClampNeg)) &&& 31)))) r2 (v6.toNatClampNeg)) ||| ((I r2 (v2.toNatClampNeg)) >>> ((I r7 (v4.toNatClampNeg)) &&& 31)))) L Q) : am_W m_X4_needChildren d mc ms al bc bs 62 [(0, .ref v0), (1, .ref v1), (2, .int v2), (3, .int v3), (4, .int v4), (5, .int v5), (6, .int v6)] [] Γ I L Q := by
  refine aw_aload_n dX4_needChildren_62 rfl ?_
  refine aw_getR dX4_needChildren_63 f_X4_15 o1 rfl g3 ?_
  refine aw_iload_n dX4_needChildren_66 rfl ?_
  refine aw_iald dX4_needChildren_67 a4 i5 ?_
  refine aw_aload_n dX4_needChildren_68 rfl ?_
  refine aw_getR dX4_needChildren_69 f_X4_122 o6 rfl g8 ?_
  refine aw_iload dX4_needChildren_72 rfl ?_
  refine aw_iald dX4_needChildren_74 a9 i10 ?_
  refine aw_ishr dX4_needChildren_75 ?_
  refine aw_istore (ls' := [(0, .ref v0), (1, .ref v1), (2, .int v2), (3, .int v3), (4, .int v4), (5, .int v5), (6, .int v6), (7, .int ((I r2 (v2.toNatClampNeg)) >>> ((I r7 (v4.toNatClampNeg)) &&& 31)))]) dX4_needChildren_76 (by decide) rfl ?_
  refine aw_aload_n dX4_needChildren_78 rfl ?_
  refine aw_getR dX4_needChildren_79 f_X4_15 o1 rfl g3 ?_
  refine aw_iload dX4_needChildren_82 rfl ?_
  refine aw_dup2 dX4_needChildren_84 rfl rfl ?_
  refine aw_iald dX4_needChildren_85 a4 i11 ?_
  refine aw_iload dX4_needChildren_86 rfl ?_
  refine aw_ior dX4_needChildren_88 ?_
  refine aw_iast dX4_needChildren_89 a4 i11 ?_
  refine aw_aload_n dX4_needChildren_90 rfl ?_
  refine aw_getR dX4_needChildren_91 f_X4_15 o1 rfl g3 ?_
  refine aw_iload dX4_needChildren_94 rfl ?_
  refine aw_dup2 dX4_needChildren_96 rfl rfl ?_
  refine aw_iald dX4_needChildren_97 a4 i12 ?_
  refine aw_iload dX4_needChildren_98 rfl ?_
  refine aw_ior dX4_needChildren_100 ?_
  refine aw_iast dX4_needChildren_101 a4 i12 ?_
  exact kk
theorem bX4_needChildren_102 {d mc ms : Nat} {al : Bool} {bc bs : Nat} {Γ : am_G} {I : am_I} {L : am_L} {Q : am_Q} {v0 : Nat} {v1 : Nat} {v2 : Int32} {v3 : Int32} {v4 : Int32} {v5 : Int32} {v6 : Int32} (kk : am_W m_X4_needChildren d mc ms al bc bs 13 [(0, .ref v0), (1, .ref v1), (2, .int v2), (3, .int v3), (4, .int (v4 + 1)), (5, .int v5), (6, .int v6)] [] Γ I L Q) : am_W m_X4_needChildren d mc ms al bc bs 102 [(0, .ref v0), (1, .ref v1), (2, .int v2), (3, .int v3), (4, .int v4), (5, .int v5), (6, .int v6)] [] Γ I L Q := by
  refine aw_iinc (ls' := [(0, .ref v0), (1, .ref v1), (2, .int v2), (3, .int v3), (4, .int (v4 + 1)), (5, .int v5), (6, .int v6)]) dX4_needChildren_102 rfl (cn_1 _) (by decide) rfl ?_
  exact aw_goto dX4_needChildren_105 (by decide) kk
theorem bX4_needChildren_108 {d mc ms : Nat} {al : Bool} {bc bs : Nat} {Γ : am_G} {I : am_I} {L : am_L} {Q : am_Q} {v0 : Nat} {v1 : Nat} {v2 : Int32} {v3 : Int32} {v4 : Int32} (hq : Q (.inl none) Γ I L) : am_W m_X4_needChildren d mc ms al bc bs 108 [(0, .ref v0), (1, .ref v1), (2, .int v2), (3, .int v3), (4, .int v4)] [] Γ I L Q := by
  exact aw_vret dX4_needChildren_108 rfl hq
theorem dX4_fewestLeafErrors_0 : decode cX4_fewestLeafErrors 0 = .ok (.iconst 0, 1) := by decide +kernel
theorem dX4_fewestLeafErrors_1 : decode cX4_fewestLeafErrors 1 = .ok (.istore_n 3, 1) := by decide +kernel
theorem dX4_fewestLeafErrors_2 : decode cX4_fewestLeafErrors 2 = .ok (.iconst 0, 1) := by decide +kernel
theorem dX4_fewestLeafErrors_3 : decode cX4_fewestLeafErrors 3 = .ok (.istore 4, 2) := by decide +kernel
theorem dX4_fewestLeafErrors_5 : decode cX4_fewestLeafErrors 5 = .ok (.iload 4, 2) := by decide +kernel
theorem dX4_fewestLeafErrors_7 : decode cX4_fewestLeafErrors 7 = .ok (.aload_n 1, 1) := by decide +kernel
theorem dX4_fewestLeafErrors_8 : decode cX4_fewestLeafErrors 8 = .ok (.getfield 40, 3) := by decide +kernel
theorem dX4_fewestLeafErrors_11 : decode cX4_fewestLeafErrors 11 = .ok (.if_icmp .ge 28, 3) := by decide +kernel
theorem dX4_fewestLeafErrors_14 : decode cX4_fewestLeafErrors 14 = .ok (.iload_n 3, 1) := by decide +kernel
theorem dX4_fewestLeafErrors_15 : decode cX4_fewestLeafErrors 15 = .ok (.aload_n 0, 1) := by decide +kernel
theorem dX4_fewestLeafErrors_16 : decode cX4_fewestLeafErrors 16 = .ok (.getfield 19, 3) := by decide +kernel
theorem dX4_fewestLeafErrors_19 : decode cX4_fewestLeafErrors 19 = .ok (.iload_n 2, 1) := by decide +kernel
theorem dX4_fewestLeafErrors_20 : decode cX4_fewestLeafErrors 20 = .ok (.aload_n 0, 1) := by decide +kernel
theorem dX4_fewestLeafErrors_21 : decode cX4_fewestLeafErrors 21 = .ok (.getfield 22, 3) := by decide +kernel
theorem dX4_fewestLeafErrors_24 : decode cX4_fewestLeafErrors 24 = .ok (.iload 4, 2) := by decide +kernel
theorem dX4_fewestLeafErrors_26 : decode cX4_fewestLeafErrors 26 = .ok (.iaload, 1) := by decide +kernel
theorem dX4_fewestLeafErrors_27 : decode cX4_fewestLeafErrors 27 = .ok (.iand, 1) := by decide +kernel
theorem dX4_fewestLeafErrors_28 : decode cX4_fewestLeafErrors 28 = .ok (.iaload, 1) := by decide +kernel
theorem dX4_fewestLeafErrors_29 : decode cX4_fewestLeafErrors 29 = .ok (.invokestatic 135, 3) := by decide +kernel
theorem dX4_fewestLeafErrors_32 : decode cX4_fewestLeafErrors 32 = .ok (.istore_n 3, 1) := by decide +kernel
theorem dX4_fewestLeafErrors_33 : decode cX4_fewestLeafErrors 33 = .ok (.iinc 4 1, 3) := by decide +kernel
theorem dX4_fewestLeafErrors_36 : decode cX4_fewestLeafErrors 36 = .ok (.goto (-31), 3) := by decide +kernel
theorem dX4_fewestLeafErrors_39 : decode cX4_fewestLeafErrors 39 = .ok (.aload_n 0, 1) := by decide +kernel
theorem dX4_fewestLeafErrors_40 : decode cX4_fewestLeafErrors 40 = .ok (.getfield 19, 3) := by decide +kernel
theorem dX4_fewestLeafErrors_43 : decode cX4_fewestLeafErrors 43 = .ok (.iload_n 2, 1) := by decide +kernel
theorem dX4_fewestLeafErrors_44 : decode cX4_fewestLeafErrors 44 = .ok (.iaload, 1) := by decide +kernel
theorem dX4_fewestLeafErrors_45 : decode cX4_fewestLeafErrors 45 = .ok (.iload_n 3, 1) := by decide +kernel
theorem dX4_fewestLeafErrors_46 : decode cX4_fewestLeafErrors 46 = .ok (.isub, 1) := by decide +kernel
theorem dX4_fewestLeafErrors_47 : decode cX4_fewestLeafErrors 47 = .ok (.ireturn, 1) := by decide +kernel
theorem bX4_fewestLeafErrors_0 {d mc ms : Nat} {al : Bool} {bc bs : Nat} {Γ : am_G} {I : am_I} {L : am_L} {Q : am_Q} {v0 : Nat} {v1 : Nat} {v2 : Int32} (kk : am_W m_X4_fewestLeafErrors d mc ms al bc bs 5 [(0, .ref v0), (1, .ref v1), (2, .int v2), (3, .int 0), (4, .int 0)] [] Γ I L Q) : am_W m_X4_fewestLeafErrors d mc ms al bc bs 0 [(0, .ref v0), (1, .ref v1), (2, .int v2)] [] Γ I L Q := by
  refine aw_iconst dX4_fewestLeafErrors_0 ci_0 ?_
  refine aw_istore_n (ls' := [(0, .ref v0), (1, .ref v1), (2, .int v2), (3, .int 0)]) dX4_fewestLeafErrors_1 (by decide) rfl ?_
  refine aw_iconst dX4_fewestLeafErrors_2 ci_0 ?_
  refine aw_istore (ls' := [(0, .ref v0), (1, .ref v1), (2, .int v2), (3, .int 0), (4, .int 0)]) dX4_fewestLeafErrors_3 (by decide) rfl ?_
  exact kk
theorem bX4_fewestLeafErrors_5 {d mc ms : Nat} {al : Bool} {bc bs : Nat} {Γ : am_G} {I : am_I} {L : am_L} {Q : am_Q} {v0 : Nat} {v1 : Nat} {v2 : Int32} {v3 : Int32} {v4 : Int32} (o1 : am_ob Γ v1 5) (kt : (I v1 1) ≤ v4 → am_W m_X4_fewestLeafErrors d mc ms al bc bs 39 [(0, .ref v0), (1, .ref v1), (2, .int v2), (3, .int v3), (4, .int v4)] [] Γ I L Q) (kf : ¬ (I v1 1) ≤ v4 → am_W m_X4_fewestLeafErrors d mc ms al bc bs 14 [(0, .ref v0), (1, .ref v1), (2, .int v2), (3, .int v3), (4, .int v4)] [] Γ I L Q) : am_W m_X4_fewestLeafErrors d mc ms al bc bs 5 [(0, .ref v0), (1, .ref v1), (2, .int v2), (3, .int v3), (4, .int v4)] [] Γ I L Q := by
  refine aw_iload dX4_fewestLeafErrors_5 rfl ?_
  refine aw_aload_n dX4_fewestLeafErrors_7 rfl ?_
  refine aw_getI dX4_fewestLeafErrors_8 f_X4_40 o1 rfl ?_
  exact aw_icmp_ge dX4_fewestLeafErrors_11 (by decide) kt kf
theorem bX4_fewestLeafErrors_14 {d mc ms : Nat} {al : Bool} {bc bs : Nat} {Γ : am_G} {I : am_I} {L : am_L} {Q : am_Q} {v0 : Nat} {v1 : Nat} {v2 : Int32} {v3 : Int32} {v4 : Int32} {r2 : Nat} {r4 : Nat} {n_r4 : Nat} {n_r2 : Nat} (o1 : am_ob Γ v0 4) (g3 : Γ.2.2 v0 2 = some r2) (g5 : Γ.2.2 v0 3 = some r4) (a6 : am_ar Γ r4 1 n_r4 0) (i7 : vp_in v4 n_r4) (a8 : am_ar Γ r2 1 n_r2 0) (i9 : vp_in (v2 &&& (I r4 (v4.toNatClampNeg))) n_r2) (kk : am_W m_X4_fewestLeafErrors d mc ms al bc bs 5 [(0, .ref v0), (1, .ref v1), (2, .int v2), (3, .int (if v3 < (I r2 ((v2 &&& (I r4 (v4.toNatClampNeg))).toNatClampNeg)) then (I r2 ((v2 &&& (I r4 (v4.toNatClampNeg))).toNatClampNeg)) else v3)), (4, .int (v4 + 1))] [] Γ I L Q) : am_W m_X4_fewestLeafErrors d mc ms al bc bs 14 [(0, .ref v0), (1, .ref v1), (2, .int v2), (3, .int v3), (4, .int v4)] [] Γ I L Q := by
  refine aw_iload_n dX4_fewestLeafErrors_14 rfl ?_
  refine aw_aload_n dX4_fewestLeafErrors_15 rfl ?_
  refine aw_getR dX4_fewestLeafErrors_16 f_X4_19 o1 rfl g3 ?_
  refine aw_iload_n dX4_fewestLeafErrors_19 rfl ?_
  refine aw_aload_n dX4_fewestLeafErrors_20 rfl ?_
  refine aw_getR dX4_fewestLeafErrors_21 f_X4_22 o1 rfl g5 ?_
  refine aw_iload dX4_fewestLeafErrors_24 rfl ?_
  refine aw_iald dX4_fewestLeafErrors_26 a6 i7 ?_
  refine aw_iand dX4_fewestLeafErrors_27 ?_
  refine aw_iald dX4_fewestLeafErrors_28 a8 i9 ?_
  refine aw_max dX4_fewestLeafErrors_29 mf_X4_135 (Nat.le_of_ble_eq_true rfl) ?_
  refine aw_istore_n (ls' := [(0, .ref v0), (1, .ref v1), (2, .int v2), (3, .int (if v3 < (I r2 ((v2 &&& (I r4 (v4.toNatClampNeg))).toNatClampNeg)) then (I r2 ((v2 &&& (I r4 (v4.toNatClampNeg))).toNatClampNeg)) else v3)), (4, .int v4)]) dX4_fewestLeafErrors_32 (by decide) rfl ?_
  refine aw_iinc (ls' := [(0, .ref v0), (1, .ref v1), (2, .int v2), (3, .int (if v3 < (I r2 ((v2 &&& (I r4 (v4.toNatClampNeg))).toNatClampNeg)) then (I r2 ((v2 &&& (I r4 (v4.toNatClampNeg))).toNatClampNeg)) else v3)), (4, .int (v4 + 1))]) dX4_fewestLeafErrors_33 rfl (cn_1 _) (by decide) rfl ?_
  exact aw_goto dX4_fewestLeafErrors_36 (by decide) kk
theorem bX4_fewestLeafErrors_39 {d mc ms : Nat} {al : Bool} {bc bs : Nat} {Γ : am_G} {I : am_I} {L : am_L} {Q : am_Q} {v0 : Nat} {v1 : Nat} {v2 : Int32} {v3 : Int32} {v4 : Int32} {r2 : Nat} {n_r2 : Nat} (o1 : am_ob Γ v0 4) (g3 : Γ.2.2 v0 2 = some r2) (a4 : am_ar Γ r2 1 n_r2 0) (i5 : vp_in v2 n_r2) (hq : Q (.inl (some (.int ((I r2 (v2.toNatClampNeg)) - v3)))) Γ I L) : am_W m_X4_fewestLeafErrors d mc ms al bc bs 39 [(0, .ref v0), (1, .ref v1), (2, .int v2), (3, .int v3), (4, .int v4)] [] Γ I L Q := by
  refine aw_aload_n dX4_fewestLeafErrors_39 rfl ?_
  refine aw_getR dX4_fewestLeafErrors_40 f_X4_19 o1 rfl g3 ?_
  refine aw_iload_n dX4_fewestLeafErrors_43 rfl ?_
  refine aw_iald dX4_fewestLeafErrors_44 a4 i5 ?_
  refine aw_iload_n dX4_fewestLeafErrors_45 rfl ?_
  refine aw_isub dX4_fewestLeafErrors_46 ?_
  exact aw_iret dX4_fewestLeafErrors_47 rfl hq
theorem dX4_rankSet_0 : decode cX4_rankSet 0 = .ok (.iconst 0, 1) := by decide +kernel
theorem dX4_rankSet_1 : decode cX4_rankSet 1 = .ok (.istore 5, 2) := by decide +kernel
theorem dX4_rankSet_3 : decode cX4_rankSet 3 = .ok (.iload 5, 2) := by decide +kernel
theorem dX4_rankSet_5 : decode cX4_rankSet 5 = .ok (.bipush 30, 2) := by decide +kernel
theorem dX4_rankSet_7 : decode cX4_rankSet 7 = .ok (.if_icmp .gt 189, 3) := by decide +kernel
theorem dX4_rankSet_10 : decode cX4_rankSet 10 = .ok (.aload_n 0, 1) := by decide +kernel
theorem dX4_rankSet_11 : decode cX4_rankSet 11 = .ok (.getfield 15, 3) := by decide +kernel
theorem dX4_rankSet_14 : decode cX4_rankSet 14 = .ok (.iload_n 2, 1) := by decide +kernel
theorem dX4_rankSet_15 : decode cX4_rankSet 15 = .ok (.iaload, 1) := by decide +kernel
theorem dX4_rankSet_16 : decode cX4_rankSet 16 = .ok (.iload 5, 2) := by decide +kernel
theorem dX4_rankSet_18 : decode cX4_rankSet 18 = .ok (.ishr, 1) := by decide +kernel
theorem dX4_rankSet_19 : decode cX4_rankSet 19 = .ok (.iconst 1, 1) := by decide +kernel
theorem dX4_rankSet_20 : decode cX4_rankSet 20 = .ok (.iand, 1) := by decide +kernel
theorem dX4_rankSet_21 : decode cX4_rankSet 21 = .ok (.ifCond .ne 6, 3) := by decide +kernel
theorem dX4_rankSet_24 : decode cX4_rankSet 24 = .ok (.goto 166, 3) := by decide +kernel
theorem dX4_rankSet_27 : decode cX4_rankSet 27 = .ok (.iload_n 3, 1) := by decide +kernel
theorem dX4_rankSet_28 : decode cX4_rankSet 28 = .ok (.i2l, 1) := by decide +kernel
theorem dX4_rankSet_29 : decode cX4_rankSet 29 = .ok (.bipush 25, 2) := by decide +kernel
theorem dX4_rankSet_31 : decode cX4_rankSet 31 = .ok (.lshl, 1) := by decide +kernel
theorem dX4_rankSet_32 : decode cX4_rankSet 32 = .ok (.lstore 6, 2) := by decide +kernel
theorem dX4_rankSet_34 : decode cX4_rankSet 34 = .ok (.iconst 0, 1) := by decide +kernel
theorem dX4_rankSet_35 : decode cX4_rankSet 35 = .ok (.istore 8, 2) := by decide +kernel
theorem dX4_rankSet_37 : decode cX4_rankSet 37 = .ok (.iload 8, 2) := by decide +kernel
theorem dX4_rankSet_39 : decode cX4_rankSet 39 = .ok (.aload_n 1, 1) := by decide +kernel
theorem dX4_rankSet_40 : decode cX4_rankSet 40 = .ok (.getfield 132, 3) := by decide +kernel
theorem dX4_rankSet_43 : decode cX4_rankSet 43 = .ok (.if_icmp .ge 133, 3) := by decide +kernel
theorem dX4_rankSet_46 : decode cX4_rankSet 46 = .ok (.iload_n 2, 1) := by decide +kernel
theorem dX4_rankSet_47 : decode cX4_rankSet 47 = .ok (.aload_n 1, 1) := by decide +kernel
theorem dX4_rankSet_48 : decode cX4_rankSet 48 = .ok (.getfield 125, 3) := by decide +kernel
theorem dX4_rankSet_51 : decode cX4_rankSet 51 = .ok (.iload 8, 2) := by decide +kernel
theorem dX4_rankSet_53 : decode cX4_rankSet 53 = .ok (.iaload, 1) := by decide +kernel
theorem dX4_rankSet_54 : decode cX4_rankSet 54 = .ok (.iand, 1) := by decide +kernel
theorem dX4_rankSet_55 : decode cX4_rankSet 55 = .ok (.istore 9, 2) := by decide +kernel
theorem dX4_rankSet_57 : decode cX4_rankSet 57 = .ok (.iload_n 2, 1) := by decide +kernel
theorem dX4_rankSet_58 : decode cX4_rankSet 58 = .ok (.aload_n 1, 1) := by decide +kernel
theorem dX4_rankSet_59 : decode cX4_rankSet 59 = .ok (.getfield 125, 3) := by decide +kernel
theorem dX4_rankSet_62 : decode cX4_rankSet 62 = .ok (.iload 8, 2) := by decide +kernel
theorem dX4_rankSet_64 : decode cX4_rankSet 64 = .ok (.iaload, 1) := by decide +kernel
theorem dX4_rankSet_65 : decode cX4_rankSet 65 = .ok (.iconst (-1), 1) := by decide +kernel
theorem dX4_rankSet_66 : decode cX4_rankSet 66 = .ok (.ixor, 1) := by decide +kernel
theorem dX4_rankSet_67 : decode cX4_rankSet 67 = .ok (.iand, 1) := by decide +kernel
theorem dX4_rankSet_68 : decode cX4_rankSet 68 = .ok (.istore 10, 2) := by decide +kernel
theorem dX4_rankSet_70 : decode cX4_rankSet 70 = .ok (.iload 5, 2) := by decide +kernel
theorem dX4_rankSet_72 : decode cX4_rankSet 72 = .ok (.aload_n 1, 1) := by decide +kernel
theorem dX4_rankSet_73 : decode cX4_rankSet 73 = .ok (.getfield 122, 3) := by decide +kernel
theorem dX4_rankSet_76 : decode cX4_rankSet 76 = .ok (.iload 8, 2) := by decide +kernel
theorem dX4_rankSet_78 : decode cX4_rankSet 78 = .ok (.iaload, 1) := by decide +kernel
theorem dX4_rankSet_79 : decode cX4_rankSet 79 = .ok (.isub, 1) := by decide +kernel
theorem dX4_rankSet_80 : decode cX4_rankSet 80 = .ok (.istore 11, 2) := by decide +kernel
theorem dX4_rankSet_82 : decode cX4_rankSet 82 = .ok (.iload 8, 2) := by decide +kernel
theorem dX4_rankSet_84 : decode cX4_rankSet 84 = .ok (.iload 4, 2) := by decide +kernel
theorem dX4_rankSet_86 : decode cX4_rankSet 86 = .ok (.if_icmp .eq 84, 3) := by decide +kernel
theorem dX4_rankSet_89 : decode cX4_rankSet 89 = .ok (.iload 9, 2) := by decide +kernel
theorem dX4_rankSet_91 : decode cX4_rankSet 91 = .ok (.ifCond .eq 79, 3) := by decide +kernel
theorem dX4_rankSet_94 : decode cX4_rankSet 94 = .ok (.iload 10, 2) := by decide +kernel
theorem dX4_rankSet_96 : decode cX4_rankSet 96 = .ok (.ifCond .eq 74, 3) := by decide +kernel
theorem dX4_rankSet_99 : decode cX4_rankSet 99 = .ok (.iload 11, 2) := by decide +kernel
theorem dX4_rankSet_101 : decode cX4_rankSet 101 = .ok (.ifCond .lt 69, 3) := by decide +kernel
theorem dX4_rankSet_104 : decode cX4_rankSet 104 = .ok (.aload_n 0, 1) := by decide +kernel
theorem dX4_rankSet_105 : decode cX4_rankSet 105 = .ok (.getfield 9, 3) := by decide +kernel
theorem dX4_rankSet_108 : decode cX4_rankSet 108 = .ok (.iload 9, 2) := by decide +kernel
theorem dX4_rankSet_110 : decode cX4_rankSet 110 = .ok (.bipush 31, 2) := by decide +kernel
theorem dX4_rankSet_112 : decode cX4_rankSet 112 = .ok (.imul, 1) := by decide +kernel
theorem dX4_rankSet_113 : decode cX4_rankSet 113 = .ok (.iload 11, 2) := by decide +kernel
theorem dX4_rankSet_115 : decode cX4_rankSet 115 = .ok (.iadd, 1) := by decide +kernel
theorem dX4_rankSet_116 : decode cX4_rankSet 116 = .ok (.laload, 1) := by decide +kernel
theorem dX4_rankSet_117 : decode cX4_rankSet 117 = .ok (.iconst 3, 1) := by decide +kernel
theorem dX4_rankSet_118 : decode cX4_rankSet 118 = .ok (.lshr, 1) := by decide +kernel
theorem dX4_rankSet_119 : decode cX4_rankSet 119 = .ok (.aload_n 0, 1) := by decide +kernel
theorem dX4_rankSet_120 : decode cX4_rankSet 120 = .ok (.getfield 9, 3) := by decide +kernel
theorem dX4_rankSet_123 : decode cX4_rankSet 123 = .ok (.iload 10, 2) := by decide +kernel
theorem dX4_rankSet_125 : decode cX4_rankSet 125 = .ok (.bipush 31, 2) := by decide +kernel
theorem dX4_rankSet_127 : decode cX4_rankSet 127 = .ok (.imul, 1) := by decide +kernel
theorem dX4_rankSet_128 : decode cX4_rankSet 128 = .ok (.iload 11, 2) := by decide +kernel
theorem dX4_rankSet_130 : decode cX4_rankSet 130 = .ok (.iadd, 1) := by decide +kernel
theorem dX4_rankSet_131 : decode cX4_rankSet 131 = .ok (.laload, 1) := by decide +kernel
theorem dX4_rankSet_132 : decode cX4_rankSet 132 = .ok (.iconst 3, 1) := by decide +kernel
theorem dX4_rankSet_133 : decode cX4_rankSet 133 = .ok (.lshr, 1) := by decide +kernel
theorem dX4_rankSet_134 : decode cX4_rankSet 134 = .ok (.ladd, 1) := by decide +kernel
theorem dX4_rankSet_135 : decode cX4_rankSet 135 = .ok (.aload_n 1, 1) := by decide +kernel
theorem dX4_rankSet_136 : decode cX4_rankSet 136 = .ok (.getfield 122, 3) := by decide +kernel
theorem dX4_rankSet_139 : decode cX4_rankSet 139 = .ok (.iload 8, 2) := by decide +kernel
theorem dX4_rankSet_141 : decode cX4_rankSet 141 = .ok (.iaload, 1) := by decide +kernel
theorem dX4_rankSet_142 : decode cX4_rankSet 142 = .ok (.aload_n 0, 1) := by decide +kernel
theorem dX4_rankSet_143 : decode cX4_rankSet 143 = .ok (.getfield 19, 3) := by decide +kernel
theorem dX4_rankSet_146 : decode cX4_rankSet 146 = .ok (.iload_n 2, 1) := by decide +kernel
theorem dX4_rankSet_147 : decode cX4_rankSet 147 = .ok (.iaload, 1) := by decide +kernel
theorem dX4_rankSet_148 : decode cX4_rankSet 148 = .ok (.imul, 1) := by decide +kernel
theorem dX4_rankSet_149 : decode cX4_rankSet 149 = .ok (.i2l, 1) := by decide +kernel
theorem dX4_rankSet_150 : decode cX4_rankSet 150 = .ok (.ladd, 1) := by decide +kernel
theorem dX4_rankSet_151 : decode cX4_rankSet 151 = .ok (.lstore 12, 2) := by decide +kernel
theorem dX4_rankSet_153 : decode cX4_rankSet 153 = .ok (.lload 6, 2) := by decide +kernel
theorem dX4_rankSet_155 : decode cX4_rankSet 155 = .ok (.lload 12, 2) := by decide +kernel
theorem dX4_rankSet_157 : decode cX4_rankSet 157 = .ok (.iconst 3, 1) := by decide +kernel
theorem dX4_rankSet_158 : decode cX4_rankSet 158 = .ok (.lshl, 1) := by decide +kernel
theorem dX4_rankSet_159 : decode cX4_rankSet 159 = .ok (.iload 8, 2) := by decide +kernel
theorem dX4_rankSet_161 : decode cX4_rankSet 161 = .ok (.iconst 1, 1) := by decide +kernel
theorem dX4_rankSet_162 : decode cX4_rankSet 162 = .ok (.iadd, 1) := by decide +kernel
theorem dX4_rankSet_163 : decode cX4_rankSet 163 = .ok (.i2l, 1) := by decide +kernel
theorem dX4_rankSet_164 : decode cX4_rankSet 164 = .ok (.lor, 1) := by decide +kernel
theorem dX4_rankSet_165 : decode cX4_rankSet 165 = .ok (.invokestatic 141, 3) := by decide +kernel
theorem dX4_rankSet_168 : decode cX4_rankSet 168 = .ok (.lstore 6, 2) := by decide +kernel
theorem dX4_rankSet_170 : decode cX4_rankSet 170 = .ok (.iinc 8 1, 3) := by decide +kernel
theorem dX4_rankSet_173 : decode cX4_rankSet 173 = .ok (.goto (-136), 3) := by decide +kernel
theorem dX4_rankSet_176 : decode cX4_rankSet 176 = .ok (.aload_n 0, 1) := by decide +kernel
theorem dX4_rankSet_177 : decode cX4_rankSet 177 = .ok (.getfield 9, 3) := by decide +kernel
theorem dX4_rankSet_180 : decode cX4_rankSet 180 = .ok (.iload_n 2, 1) := by decide +kernel
theorem dX4_rankSet_181 : decode cX4_rankSet 181 = .ok (.bipush 31, 2) := by decide +kernel
theorem dX4_rankSet_183 : decode cX4_rankSet 183 = .ok (.imul, 1) := by decide +kernel
theorem dX4_rankSet_184 : decode cX4_rankSet 184 = .ok (.iload 5, 2) := by decide +kernel
theorem dX4_rankSet_186 : decode cX4_rankSet 186 = .ok (.iadd, 1) := by decide +kernel
theorem dX4_rankSet_187 : decode cX4_rankSet 187 = .ok (.lload 6, 2) := by decide +kernel
theorem dX4_rankSet_189 : decode cX4_rankSet 189 = .ok (.lastore, 1) := by decide +kernel
theorem dX4_rankSet_190 : decode cX4_rankSet 190 = .ok (.iinc 5 1, 3) := by decide +kernel
theorem dX4_rankSet_193 : decode cX4_rankSet 193 = .ok (.goto (-190), 3) := by decide +kernel
theorem dX4_rankSet_196 : decode cX4_rankSet 196 = .ok (.return_, 1) := by decide +kernel
theorem bX4_rankSet_0 {d mc ms : Nat} {al : Bool} {bc bs : Nat} {Γ : am_G} {I : am_I} {L : am_L} {Q : am_Q} {v0 : Nat} {v1 : Nat} {v2 : Int32} {v3 : Int32} {v4 : Int32} (kk : am_W m_X4_rankSet d mc ms al bc bs 3 [(0, .ref v0), (1, .ref v1), (2, .int v2), (3, .int v3), (4, .int v4), (5, .int 0)] [] Γ I L Q) : am_W m_X4_rankSet d mc ms al bc bs 0 [(0, .ref v0), (1, .ref v1), (2, .int v2), (3, .int v3), (4, .int v4)] [] Γ I L Q := by
  refine aw_iconst dX4_rankSet_0 ci_0 ?_
  refine aw_istore (ls' := [(0, .ref v0), (1, .ref v1), (2, .int v2), (3, .int v3), (4, .int v4), (5, .int 0)]) dX4_rankSet_1 (by decide) rfl ?_
  exact kk
theorem bX4_rankSet_3 {d mc ms : Nat} {al : Bool} {bc bs : Nat} {Γ : am_G} {I : am_I} {L : am_L} {Q : am_Q} {v0 : Nat} {v1 : Nat} {v2 : Int32} {v3 : Int32} {v4 : Int32} {v5 : Int32} (kt : 30 < v5 → am_W m_X4_rankSet d mc ms al bc bs 196 [(0, .ref v0), (1, .ref v1), (2, .int v2), (3, .int v3), (4, .int v4), (5, .int v5)] [] Γ I L Q) (kf : ¬ 30 < v5 → am_W m_X4_rankSet d mc ms al bc bs 10 [(0, .ref v0), (1, .ref v1), (2, .int v2), (3, .int v3), (4, .int v4), (5, .int v5)] [] Γ I L Q) : am_W m_X4_rankSet d mc ms al bc bs 3 [(0, .ref v0), (1, .ref v1), (2, .int v2), (3, .int v3), (4, .int v4), (5, .int v5)] [] Γ I L Q := by
  refine aw_iload dX4_rankSet_3 rfl ?_
  refine aw_bipush dX4_rankSet_5 cb_30 ?_
  exact aw_icmp_gt dX4_rankSet_7 (by decide) kt kf
theorem bX4_rankSet_10 {d mc ms : Nat} {al : Bool} {bc bs : Nat} {Γ : am_G} {I : am_I} {L : am_L} {Q : am_Q} {v0 : Nat} {v1 : Nat} {v2 : Int32} {v3 : Int32} {v4 : Int32} {v5 : Int32} {r2 : Nat} {n_r2 : Nat} (o1 : am_ob Γ v0 4) (g3 : Γ.2.2 v0 1 = some r2) (a4 : am_ar Γ r2 1 n_r2 0) (i5 : vp_in v2 n_r2) (kt : ¬ (((I r2 (v2.toNatClampNeg)) >>> (v5 &&& 31)) &&& 1) = 0 → am_W m_X4_rankSet d mc ms al bc bs 27 [(0, .ref v0), (1, .ref v1), (2, .int v2), (3, .int v3), (4, .int v4), (5, .int v5)] [] Γ I L Q) (kf : (((I r2 (v2.toNatClampNeg)) >>> (v5 &&& 31)) &&& 1) = 0 → am_W m_X4_rankSet d mc ms al bc bs 24 [(0, .ref v0), (1, .ref v1), (2, .int v2), (3, .int v3), (4, .int v4), (5, .int v5)] [] Γ I L Q) : am_W m_X4_rankSet d mc ms al bc bs 10 [(0, .ref v0), (1, .ref v1), (2, .int v2), (3, .int v3), (4, .int v4), (5, .int v5)] [] Γ I L Q := by
  refine aw_aload_n dX4_rankSet_10 rfl ?_
  refine aw_getR dX4_rankSet_11 f_X4_15 o1 rfl g3 ?_
  refine aw_iload_n dX4_rankSet_14 rfl ?_
  refine aw_iald dX4_rankSet_15 a4 i5 ?_
  refine aw_iload dX4_rankSet_16 rfl ?_
  refine aw_ishr dX4_rankSet_18 ?_
  refine aw_iconst dX4_rankSet_19 ci_1 ?_
  refine aw_iand dX4_rankSet_20 ?_
  exact aw_if_ne dX4_rankSet_21 (by decide) kt kf
theorem bX4_rankSet_24 {d mc ms : Nat} {al : Bool} {bc bs : Nat} {Γ : am_G} {I : am_I} {L : am_L} {Q : am_Q} {v0 : Nat} {v1 : Nat} {v2 : Int32} {v3 : Int32} {v4 : Int32} {v5 : Int32} (kk : am_W m_X4_rankSet d mc ms al bc bs 190 [(0, .ref v0), (1, .ref v1), (2, .int v2), (3, .int v3), (4, .int v4), (5, .int v5)] [] Γ I L Q) : am_W m_X4_rankSet d mc ms al bc bs 24 [(0, .ref v0), (1, .ref v1), (2, .int v2), (3, .int v3), (4, .int v4), (5, .int v5)] [] Γ I L Q := by
  exact aw_goto dX4_rankSet_24 (by decide) kk
theorem bX4_rankSet_27 {d mc ms : Nat} {al : Bool} {bc bs : Nat} {Γ : am_G} {I : am_I} {L : am_L} {Q : am_Q} {v0 : Nat} {v1 : Nat} {v2 : Int32} {v3 : Int32} {v4 : Int32} {v5 : Int32} (kk : am_W m_X4_rankSet d mc ms al bc bs 37 [(0, .ref v0), (1, .ref v1), (2, .int v2), (3, .int v3), (4, .int v4), (5, .int v5), (6, .long ((v3.toInt64) <<< ((25 : Int32).toInt64 &&& 63))), (8, .int 0)] [] Γ I L Q) : am_W m_X4_rankSet d mc ms al bc bs 27 [(0, .ref v0), (1, .ref v1), (2, .int v2), (3, .int v3), (4, .int v4), (5, .int v5)] [] Γ I L Q := by
  refine aw_iload_n dX4_rankSet_27 rfl ?_
  refine aw_i2l dX4_rankSet_28 ?_
  refine aw_bipush dX4_rankSet_29 cb_25 ?_
  refine aw_lshl dX4_rankSet_31 ?_
  refine aw_lstore (ls' := [(0, .ref v0), (1, .ref v1), (2, .int v2), (3, .int v3), (4, .int v4), (5, .int v5), (6, .long ((v3.toInt64) <<< ((25 : Int32).toInt64 &&& 63)))]) dX4_rankSet_32 (by decide) rfl ?_
  refine aw_iconst dX4_rankSet_34 ci_0 ?_
  refine aw_istore (ls' := [(0, .ref v0), (1, .ref v1), (2, .int v2), (3, .int v3), (4, .int v4), (5, .int v5), (6, .long ((v3.toInt64) <<< ((25 : Int32).toInt64 &&& 63))), (8, .int 0)]) dX4_rankSet_35 (by decide) rfl ?_
  exact kk
theorem bX4_rankSet_37 {d mc ms : Nat} {al : Bool} {bc bs : Nat} {Γ : am_G} {I : am_I} {L : am_L} {Q : am_Q} {v0 : Nat} {v1 : Nat} {v2 : Int32} {v3 : Int32} {v4 : Int32} {v5 : Int32} {v6 : Int64} {v8 : Int32} (o1 : am_ob Γ v1 5) (kt : (I v1 0) ≤ v8 → am_W m_X4_rankSet d mc ms al bc bs 176 [(0, .ref v0), (1, .ref v1), (2, .int v2), (3, .int v3), (4, .int v4), (5, .int v5), (6, .long v6), (8, .int v8)] [] Γ I L Q) (kf : ¬ (I v1 0) ≤ v8 → am_W m_X4_rankSet d mc ms al bc bs 46 [(0, .ref v0), (1, .ref v1), (2, .int v2), (3, .int v3), (4, .int v4), (5, .int v5), (6, .long v6), (8, .int v8)] [] Γ I L Q) : am_W m_X4_rankSet d mc ms al bc bs 37 [(0, .ref v0), (1, .ref v1), (2, .int v2), (3, .int v3), (4, .int v4), (5, .int v5), (6, .long v6), (8, .int v8)] [] Γ I L Q := by
  refine aw_iload dX4_rankSet_37 rfl ?_
  refine aw_aload_n dX4_rankSet_39 rfl ?_
  refine aw_getI dX4_rankSet_40 f_X4_132 o1 rfl ?_
  exact aw_icmp_ge dX4_rankSet_43 (by decide) kt kf
theorem bX4_rankSet_46 {d mc ms : Nat} {al : Bool} {bc bs : Nat} {Γ : am_G} {I : am_I} {L : am_L} {Q : am_Q} {v0 : Nat} {v1 : Nat} {v2 : Int32} {v3 : Int32} {v4 : Int32} {v5 : Int32} {v6 : Int64} {v8 : Int32} {r2 : Nat} {n_r2 : Nat} {r6 : Nat} {n_r6 : Nat} (o1 : am_ob Γ v1 5) (g3 : Γ.2.2 v1 6 = some r2) (a4 : am_ar Γ r2 1 n_r2 0) (i5 : vp_in v8 n_r2) (g7 : Γ.2.2 v1 5 = some r6) (a8 : am_ar Γ r6 1 n_r6 0) (i9 : vp_in v8 n_r6) (kt : v8 = v4 → am_W m_X4_rankSet d mc ms al bc bs 170 [(0, .ref v0), (1, .ref v1), (2, .int v2), (3, .int v3), (4, .int v4), (5, .int v5), (6, .long v6), (8, .int v8), (9, .int (v2 &&& (I r2 (v8.toNatClampNeg)))), (10, .int (v2 &&& ((I r2 (v8.toNatClampNeg)) ^^^ (-1)))), (11, .int (v5 - (I r6 (v8.toNatClampNeg))))] [] Γ I L Q) (kf : ¬ v8 = v4 → am_W m_X4_rankSet d mc ms al bc bs 89 [(0, .ref v0), (1, .ref v1), (2, .int v2), (3, .int v3), (4, .int v4), (5, .int v5), (6, .long v6), (8, .int v8), (9, .int (v2 &&& (I r2 (v8.toNatClampNeg)))), (10, .int (v2 &&& ((I r2 (v8.toNatClampNeg)) ^^^ (-1)))), (11, .int (v5 - (I r6 (v8.toNatClampNeg))))] [] Γ I L Q) : am_W m_X4_rankSet d mc ms al bc bs 46 [(0, .ref v0), (1, .ref v1), (2, .int v2), (3, .int v3), (4, .int v4), (5, .int v5), (6, .long v6), (8, .int v8)] [] Γ I L Q := by
  refine aw_iload_n dX4_rankSet_46 rfl ?_
  refine aw_aload_n dX4_rankSet_47 rfl ?_
  refine aw_getR dX4_rankSet_48 f_X4_125 o1 rfl g3 ?_
  refine aw_iload dX4_rankSet_51 rfl ?_
  refine aw_iald dX4_rankSet_53 a4 i5 ?_
  refine aw_iand dX4_rankSet_54 ?_
  refine aw_istore (ls' := [(0, .ref v0), (1, .ref v1), (2, .int v2), (3, .int v3), (4, .int v4), (5, .int v5), (6, .long v6), (8, .int v8), (9, .int (v2 &&& (I r2 (v8.toNatClampNeg))))]) dX4_rankSet_55 (by decide) rfl ?_
  refine aw_iload_n dX4_rankSet_57 rfl ?_
  refine aw_aload_n dX4_rankSet_58 rfl ?_
  refine aw_getR dX4_rankSet_59 f_X4_125 o1 rfl g3 ?_
  refine aw_iload dX4_rankSet_62 rfl ?_
  refine aw_iald dX4_rankSet_64 a4 i5 ?_
  refine aw_iconst dX4_rankSet_65 ci_m1 ?_
  refine aw_ixor dX4_rankSet_66 ?_
  refine aw_iand dX4_rankSet_67 ?_
  refine aw_istore (ls' := [(0, .ref v0), (1, .ref v1), (2, .int v2), (3, .int v3), (4, .int v4), (5, .int v5), (6, .long v6), (8, .int v8), (9, .int (v2 &&& (I r2 (v8.toNatClampNeg)))), (10, .int (v2 &&& ((I r2 (v8.toNatClampNeg)) ^^^ (-1))))]) dX4_rankSet_68 (by decide) rfl ?_
  refine aw_iload dX4_rankSet_70 rfl ?_
  refine aw_aload_n dX4_rankSet_72 rfl ?_
  refine aw_getR dX4_rankSet_73 f_X4_122 o1 rfl g7 ?_
  refine aw_iload dX4_rankSet_76 rfl ?_
  refine aw_iald dX4_rankSet_78 a8 i9 ?_
  refine aw_isub dX4_rankSet_79 ?_
  refine aw_istore (ls' := [(0, .ref v0), (1, .ref v1), (2, .int v2), (3, .int v3), (4, .int v4), (5, .int v5), (6, .long v6), (8, .int v8), (9, .int (v2 &&& (I r2 (v8.toNatClampNeg)))), (10, .int (v2 &&& ((I r2 (v8.toNatClampNeg)) ^^^ (-1)))), (11, .int (v5 - (I r6 (v8.toNatClampNeg))))]) dX4_rankSet_80 (by decide) rfl ?_
  refine aw_iload dX4_rankSet_82 rfl ?_
  refine aw_iload dX4_rankSet_84 rfl ?_
  exact aw_icmp_eq dX4_rankSet_86 (by decide) kt kf
theorem bX4_rankSet_89 {d mc ms : Nat} {al : Bool} {bc bs : Nat} {Γ : am_G} {I : am_I} {L : am_L} {Q : am_Q} {v0 : Nat} {v1 : Nat} {v2 : Int32} {v3 : Int32} {v4 : Int32} {v5 : Int32} {v6 : Int64} {v8 : Int32} {v9 : Int32} {v10 : Int32} {v11 : Int32} (kt : v9 = 0 → am_W m_X4_rankSet d mc ms al bc bs 170 [(0, .ref v0), (1, .ref v1), (2, .int v2), (3, .int v3), (4, .int v4), (5, .int v5), (6, .long v6), (8, .int v8), (9, .int v9), (10, .int v10), (11, .int v11)] [] Γ I L Q) (kf : ¬ v9 = 0 → am_W m_X4_rankSet d mc ms al bc bs 94 [(0, .ref v0), (1, .ref v1), (2, .int v2), (3, .int v3), (4, .int v4), (5, .int v5), (6, .long v6), (8, .int v8), (9, .int v9), (10, .int v10), (11, .int v11)] [] Γ I L Q) : am_W m_X4_rankSet d mc ms al bc bs 89 [(0, .ref v0), (1, .ref v1), (2, .int v2), (3, .int v3), (4, .int v4), (5, .int v5), (6, .long v6), (8, .int v8), (9, .int v9), (10, .int v10), (11, .int v11)] [] Γ I L Q := by
  refine aw_iload dX4_rankSet_89 rfl ?_
  exact aw_if_eq dX4_rankSet_91 (by decide) kt kf
theorem bX4_rankSet_94 {d mc ms : Nat} {al : Bool} {bc bs : Nat} {Γ : am_G} {I : am_I} {L : am_L} {Q : am_Q} {v0 : Nat} {v1 : Nat} {v2 : Int32} {v3 : Int32} {v4 : Int32} {v5 : Int32} {v6 : Int64} {v8 : Int32} {v9 : Int32} {v10 : Int32} {v11 : Int32} (kt : v10 = 0 → am_W m_X4_rankSet d mc ms al bc bs 170 [(0, .ref v0), (1, .ref v1), (2, .int v2), (3, .int v3), (4, .int v4), (5, .int v5), (6, .long v6), (8, .int v8), (9, .int v9), (10, .int v10), (11, .int v11)] [] Γ I L Q) (kf : ¬ v10 = 0 → am_W m_X4_rankSet d mc ms al bc bs 99 [(0, .ref v0), (1, .ref v1), (2, .int v2), (3, .int v3), (4, .int v4), (5, .int v5), (6, .long v6), (8, .int v8), (9, .int v9), (10, .int v10), (11, .int v11)] [] Γ I L Q) : am_W m_X4_rankSet d mc ms al bc bs 94 [(0, .ref v0), (1, .ref v1), (2, .int v2), (3, .int v3), (4, .int v4), (5, .int v5), (6, .long v6), (8, .int v8), (9, .int v9), (10, .int v10), (11, .int v11)] [] Γ I L Q := by
  refine aw_iload dX4_rankSet_94 rfl ?_
  exact aw_if_eq dX4_rankSet_96 (by decide) kt kf
theorem bX4_rankSet_99 {d mc ms : Nat} {al : Bool} {bc bs : Nat} {Γ : am_G} {I : am_I} {L : am_L} {Q : am_Q} {v0 : Nat} {v1 : Nat} {v2 : Int32} {v3 : Int32} {v4 : Int32} {v5 : Int32} {v6 : Int64} {v8 : Int32} {v9 : Int32} {v10 : Int32} {v11 : Int32} (kt : v11 < 0 → am_W m_X4_rankSet d mc ms al bc bs 170 [(0, .ref v0), (1, .ref v1), (2, .int v2), (3, .int v3), (4, .int v4), (5, .int v5), (6, .long v6), (8, .int v8), (9, .int v9), (10, .int v10), (11, .int v11)] [] Γ I L Q) (kf : ¬ v11 < 0 → am_W m_X4_rankSet d mc ms al bc bs 104 [(0, .ref v0), (1, .ref v1), (2, .int v2), (3, .int v3), (4, .int v4), (5, .int v5), (6, .long v6), (8, .int v8), (9, .int v9), (10, .int v10), (11, .int v11)] [] Γ I L Q) : am_W m_X4_rankSet d mc ms al bc bs 99 [(0, .ref v0), (1, .ref v1), (2, .int v2), (3, .int v3), (4, .int v4), (5, .int v5), (6, .long v6), (8, .int v8), (9, .int v9), (10, .int v10), (11, .int v11)] [] Γ I L Q := by
  refine aw_iload dX4_rankSet_99 rfl ?_
  exact aw_if_lt dX4_rankSet_101 (by decide) kt kf
theorem bX4_rankSet_104 {d mc ms : Nat} {al : Bool} {bc bs : Nat} {Γ : am_G} {I : am_I} {L : am_L} {Q : am_Q} {v0 : Nat} {v1 : Nat} {v2 : Int32} {v3 : Int32} {v4 : Int32} {v5 : Int32} {v6 : Int64} {v8 : Int32} {v9 : Int32} {v10 : Int32} {v11 : Int32} {r2 : Nat} {n_r2 : Nat} {r8 : Nat} {n_r8 : Nat} {r12 : Nat} {n_r12 : Nat} (o1 : am_ob Γ v0 4) (g3 : Γ.2.2 v0 0 = some r2) (a4 : am_ar Γ r2 4 n_r2 0) (i5 : vp_in ((v9 * 31) + v11) n_r2) (i6 : vp_in ((v10 * 31) + v11) n_r2) (o7 : am_ob Γ v1 5) (g9 : Γ.2.2 v1 5 = some r8) (a10 : am_ar Γ r8 1 n_r8 0) (i11 : vp_in v8 n_r8) (g13 : Γ.2.2 v0 2 = some r12) (a14 : am_ar Γ r12 1 n_r12 0) (i15 : vp_in v2 n_r12) (kk : am_W m_X4_rankSet d mc ms al bc bs 170 [(0, .ref v0), (1, .ref v1), (2, .int v2), (3, .int v3), (4, .int v4), (5, .int v5), (6, .long (if ((((((L r2 (((v9 * 31) + v11).toNatClampNeg)) >>> ((3 : Int32).toInt64 &&& 63)) + ((L r2 (((v10 * 31) + v11).toNatClampNeg)) >>> ((3 : Int32).toInt64 &&& 63))) + ((((I r8 (v8.toNatClampNeg)) * (I r12 (v2.toNatClampNeg))) : Int32).toInt64)) <<< ((3 : Int32).toInt64 &&& 63)) ||| (((v8 + 1) : Int32).toInt64)) < v6 then ((((((L r2 (((v9 * 31) + v11).toNatClampNeg)) >>> ((3 : Int32).toInt64 &&& 63)) + ((L r2 (((v10 * 31) + v11).toNatClampNeg)) >>> ((3 : Int32).toInt64 &&& 63))) + ((((I r8 (v8.toNatClampNeg)) * (I r12 (v2.toNatClampNeg))) : Int32).toInt64)) <<< ((3 : Int32).toInt64 &&& 63)) ||| (((v8 + 1) : Int32).toInt64)) else v6)), (8, .int v8), (9, .int v9), (10, .int v10), (11, .int v11), (12, .long ((((L r2 (((v9 * 31) + v11).toNatClampNeg)) >>> ((3 : Int32).toInt64 &&& 63)) + ((L r2 (((v10 * 31) + v11).toNatClampNeg)) >>> ((3 : Int32).toInt64 &&& 63))) + ((((I r8 (v8.toNatClampNeg)) * (I r12 (v2.toNatClampNeg))) : Int32).toInt64)))] [] Γ I L Q) : am_W m_X4_rankSet d mc ms al bc bs 104 [(0, .ref v0), (1, .ref v1), (2, .int v2), (3, .int v3), (4, .int v4), (5, .int v5), (6, .long v6), (8, .int v8), (9, .int v9), (10, .int v10), (11, .int v11)] [] Γ I L Q := by
  refine aw_aload_n dX4_rankSet_104 rfl ?_
  refine aw_getR dX4_rankSet_105 f_X4_9 o1 rfl g3 ?_
  refine aw_iload dX4_rankSet_108 rfl ?_
  refine aw_bipush dX4_rankSet_110 cb_31 ?_
  refine aw_imul dX4_rankSet_112 ?_
  refine aw_iload dX4_rankSet_113 rfl ?_
  refine aw_iadd dX4_rankSet_115 ?_
  refine aw_lald dX4_rankSet_116 a4 i5 ?_
  refine aw_iconst dX4_rankSet_117 ci_3 ?_
  refine aw_lshr dX4_rankSet_118 ?_
  refine aw_aload_n dX4_rankSet_119 rfl ?_
  refine aw_getR dX4_rankSet_120 f_X4_9 o1 rfl g3 ?_
  refine aw_iload dX4_rankSet_123 rfl ?_
  refine aw_bipush dX4_rankSet_125 cb_31 ?_
  refine aw_imul dX4_rankSet_127 ?_
  refine aw_iload dX4_rankSet_128 rfl ?_
  refine aw_iadd dX4_rankSet_130 ?_
  refine aw_lald dX4_rankSet_131 a4 i6 ?_
  refine aw_iconst dX4_rankSet_132 ci_3 ?_
  refine aw_lshr dX4_rankSet_133 ?_
  refine aw_ladd dX4_rankSet_134 ?_
  refine aw_aload_n dX4_rankSet_135 rfl ?_
  refine aw_getR dX4_rankSet_136 f_X4_122 o7 rfl g9 ?_
  refine aw_iload dX4_rankSet_139 rfl ?_
  refine aw_iald dX4_rankSet_141 a10 i11 ?_
  refine aw_aload_n dX4_rankSet_142 rfl ?_
  refine aw_getR dX4_rankSet_143 f_X4_19 o1 rfl g13 ?_
  refine aw_iload_n dX4_rankSet_146 rfl ?_
  refine aw_iald dX4_rankSet_147 a14 i15 ?_
  refine aw_imul dX4_rankSet_148 ?_
  refine aw_i2l dX4_rankSet_149 ?_
  refine aw_ladd dX4_rankSet_150 ?_
  refine aw_lstore (ls' := [(0, .ref v0), (1, .ref v1), (2, .int v2), (3, .int v3), (4, .int v4), (5, .int v5), (6, .long v6), (8, .int v8), (9, .int v9), (10, .int v10), (11, .int v11), (12, .long ((((L r2 (((v9 * 31) + v11).toNatClampNeg)) >>> ((3 : Int32).toInt64 &&& 63)) + ((L r2 (((v10 * 31) + v11).toNatClampNeg)) >>> ((3 : Int32).toInt64 &&& 63))) + ((((I r8 (v8.toNatClampNeg)) * (I r12 (v2.toNatClampNeg))) : Int32).toInt64)))]) dX4_rankSet_151 (by decide) rfl ?_
  refine aw_lload dX4_rankSet_153 rfl ?_
  refine aw_lload dX4_rankSet_155 rfl ?_
  refine aw_iconst dX4_rankSet_157 ci_3 ?_
  refine aw_lshl dX4_rankSet_158 ?_
  refine aw_iload dX4_rankSet_159 rfl ?_
  refine aw_iconst dX4_rankSet_161 ci_1 ?_
  refine aw_iadd dX4_rankSet_162 ?_
  refine aw_i2l dX4_rankSet_163 ?_
  refine aw_lor dX4_rankSet_164 ?_
  refine aw_minl dX4_rankSet_165 mf_X4_141 (Nat.le_of_ble_eq_true rfl) ?_
  refine aw_lstore (ls' := [(0, .ref v0), (1, .ref v1), (2, .int v2), (3, .int v3), (4, .int v4), (5, .int v5), (6, .long (if ((((((L r2 (((v9 * 31) + v11).toNatClampNeg)) >>> ((3 : Int32).toInt64 &&& 63)) + ((L r2 (((v10 * 31) + v11).toNatClampNeg)) >>> ((3 : Int32).toInt64 &&& 63))) + ((((I r8 (v8.toNatClampNeg)) * (I r12 (v2.toNatClampNeg))) : Int32).toInt64)) <<< ((3 : Int32).toInt64 &&& 63)) ||| (((v8 + 1) : Int32).toInt64)) < v6 then ((((((L r2 (((v9 * 31) + v11).toNatClampNeg)) >>> ((3 : Int32).toInt64 &&& 63)) + ((L r2 (((v10 * 31) + v11).toNatClampNeg)) >>> ((3 : Int32).toInt64 &&& 63))) + ((((I r8 (v8.toNatClampNeg)) * (I r12 (v2.toNatClampNeg))) : Int32).toInt64)) <<< ((3 : Int32).toInt64 &&& 63)) ||| (((v8 + 1) : Int32).toInt64)) else v6)), (8, .int v8), (9, .int v9), (10, .int v10), (11, .int v11), (12, .long ((((L r2 (((v9 * 31) + v11).toNatClampNeg)) >>> ((3 : Int32).toInt64 &&& 63)) + ((L r2 (((v10 * 31) + v11).toNatClampNeg)) >>> ((3 : Int32).toInt64 &&& 63))) + ((((I r8 (v8.toNatClampNeg)) * (I r12 (v2.toNatClampNeg))) : Int32).toInt64)))]) dX4_rankSet_168 (by decide) rfl ?_
  exact kk
theorem bX4_rankSet_170 {d mc ms : Nat} {al : Bool} {bc bs : Nat} {Γ : am_G} {I : am_I} {L : am_L} {Q : am_Q} {v0 : Nat} {v1 : Nat} {v2 : Int32} {v3 : Int32} {v4 : Int32} {v5 : Int32} {v6 : Int64} {v8 : Int32} {v9 : Int32} {v10 : Int32} {v11 : Int32} (kk : am_W m_X4_rankSet d mc ms al bc bs 37 [(0, .ref v0), (1, .ref v1), (2, .int v2), (3, .int v3), (4, .int v4), (5, .int v5), (6, .long v6), (8, .int (v8 + 1)), (9, .int v9), (10, .int v10), (11, .int v11)] [] Γ I L Q) : am_W m_X4_rankSet d mc ms al bc bs 170 [(0, .ref v0), (1, .ref v1), (2, .int v2), (3, .int v3), (4, .int v4), (5, .int v5), (6, .long v6), (8, .int v8), (9, .int v9), (10, .int v10), (11, .int v11)] [] Γ I L Q := by
  refine aw_iinc (ls' := [(0, .ref v0), (1, .ref v1), (2, .int v2), (3, .int v3), (4, .int v4), (5, .int v5), (6, .long v6), (8, .int (v8 + 1)), (9, .int v9), (10, .int v10), (11, .int v11)]) dX4_rankSet_170 rfl (cn_1 _) (by decide) rfl ?_
  exact aw_goto dX4_rankSet_173 (by decide) kk
theorem bX4_rankSet_176 {d mc ms : Nat} {al : Bool} {bc bs : Nat} {Γ : am_G} {I : am_I} {L : am_L} {Q : am_Q} {v0 : Nat} {v1 : Nat} {v2 : Int32} {v3 : Int32} {v4 : Int32} {v5 : Int32} {v6 : Int64} {v8 : Int32} {r2 : Nat} {n_r2 : Nat} (o1 : am_ob Γ v0 4) (g3 : Γ.2.2 v0 0 = some r2) (a4 : am_ar Γ r2 4 n_r2 0) (i5 : vp_in ((v2 * 31) + v5) n_r2) (kk : am_W m_X4_rankSet d mc ms al bc bs 190 [(0, .ref v0), (1, .ref v1), (2, .int v2), (3, .int v3), (4, .int v4), (5, .int v5), (6, .long v6), (8, .int v8)] [] Γ I (am_ul L r2 (((v2 * 31) + v5).toNatClampNeg) v6) Q) : am_W m_X4_rankSet d mc ms al bc bs 176 [(0, .ref v0), (1, .ref v1), (2, .int v2), (3, .int v3), (4, .int v4), (5, .int v5), (6, .long v6), (8, .int v8)] [] Γ I L Q := by
  refine aw_aload_n dX4_rankSet_176 rfl ?_
  refine aw_getR dX4_rankSet_177 f_X4_9 o1 rfl g3 ?_
  refine aw_iload_n dX4_rankSet_180 rfl ?_
  refine aw_bipush dX4_rankSet_181 cb_31 ?_
  refine aw_imul dX4_rankSet_183 ?_
  refine aw_iload dX4_rankSet_184 rfl ?_
  refine aw_iadd dX4_rankSet_186 ?_
  refine aw_lload dX4_rankSet_187 rfl ?_
  refine aw_last dX4_rankSet_189 a4 i5 ?_
  exact kk
theorem bX4_rankSet_190 {d mc ms : Nat} {al : Bool} {bc bs : Nat} {Γ : am_G} {I : am_I} {L : am_L} {Q : am_Q} {v0 : Nat} {v1 : Nat} {v2 : Int32} {v3 : Int32} {v4 : Int32} {v5 : Int32} (kk : am_W m_X4_rankSet d mc ms al bc bs 3 [(0, .ref v0), (1, .ref v1), (2, .int v2), (3, .int v3), (4, .int v4), (5, .int (v5 + 1))] [] Γ I L Q) : am_W m_X4_rankSet d mc ms al bc bs 190 [(0, .ref v0), (1, .ref v1), (2, .int v2), (3, .int v3), (4, .int v4), (5, .int v5)] [] Γ I L Q := by
  refine aw_iinc (ls' := [(0, .ref v0), (1, .ref v1), (2, .int v2), (3, .int v3), (4, .int v4), (5, .int (v5 + 1))]) dX4_rankSet_190 rfl (cn_1 _) (by decide) rfl ?_
  exact aw_goto dX4_rankSet_193 (by decide) kk
theorem bX4_rankSet_196 {d mc ms : Nat} {al : Bool} {bc bs : Nat} {Γ : am_G} {I : am_I} {L : am_L} {Q : am_Q} {v0 : Nat} {v1 : Nat} {v2 : Int32} {v3 : Int32} {v4 : Int32} {v5 : Int32} (hq : Q (.inl none) Γ I L) : am_W m_X4_rankSet d mc ms al bc bs 196 [(0, .ref v0), (1, .ref v1), (2, .int v2), (3, .int v3), (4, .int v4), (5, .int v5)] [] Γ I L Q := by
  exact aw_vret dX4_rankSet_196 rfl hq
theorem dX4_bestToll_0 : decode cX4_bestToll 0 = .ok (.iconst (-1), 1) := by decide +kernel
theorem dX4_bestToll_1 : decode cX4_bestToll 1 = .ok (.istore_n 3, 1) := by decide +kernel
theorem dX4_bestToll_2 : decode cX4_bestToll 2 = .ok (.iconst 0, 1) := by decide +kernel
theorem dX4_bestToll_3 : decode cX4_bestToll 3 = .ok (.istore 4, 2) := by decide +kernel
theorem dX4_bestToll_5 : decode cX4_bestToll 5 = .ok (.iconst 0, 1) := by decide +kernel
theorem dX4_bestToll_6 : decode cX4_bestToll 6 = .ok (.istore 5, 2) := by decide +kernel
theorem dX4_bestToll_8 : decode cX4_bestToll 8 = .ok (.iload 5, 2) := by decide +kernel
theorem dX4_bestToll_10 : decode cX4_bestToll 10 = .ok (.aload_n 1, 1) := by decide +kernel
theorem dX4_bestToll_11 : decode cX4_bestToll 11 = .ok (.getfield 40, 3) := by decide +kernel
theorem dX4_bestToll_14 : decode cX4_bestToll 14 = .ok (.if_icmp .ge 94, 3) := by decide +kernel
theorem dX4_bestToll_17 : decode cX4_bestToll 17 = .ok (.iload_n 2, 1) := by decide +kernel
theorem dX4_bestToll_18 : decode cX4_bestToll 18 = .ok (.aload_n 0, 1) := by decide +kernel
theorem dX4_bestToll_19 : decode cX4_bestToll 19 = .ok (.getfield 22, 3) := by decide +kernel
theorem dX4_bestToll_22 : decode cX4_bestToll 22 = .ok (.iload 5, 2) := by decide +kernel
theorem dX4_bestToll_24 : decode cX4_bestToll 24 = .ok (.iaload, 1) := by decide +kernel
theorem dX4_bestToll_25 : decode cX4_bestToll 25 = .ok (.iand, 1) := by decide +kernel
theorem dX4_bestToll_26 : decode cX4_bestToll 26 = .ok (.istore 6, 2) := by decide +kernel
theorem dX4_bestToll_28 : decode cX4_bestToll 28 = .ok (.aload_n 0, 1) := by decide +kernel
theorem dX4_bestToll_29 : decode cX4_bestToll 29 = .ok (.getfield 19, 3) := by decide +kernel
theorem dX4_bestToll_32 : decode cX4_bestToll 32 = .ok (.iload 6, 2) := by decide +kernel
theorem dX4_bestToll_34 : decode cX4_bestToll 34 = .ok (.iaload, 1) := by decide +kernel
theorem dX4_bestToll_35 : decode cX4_bestToll 35 = .ok (.iload 4, 2) := by decide +kernel
theorem dX4_bestToll_37 : decode cX4_bestToll 37 = .ok (.if_icmp .ne 18, 3) := by decide +kernel
theorem dX4_bestToll_40 : decode cX4_bestToll 40 = .ok (.aload_n 1, 1) := by decide +kernel
theorem dX4_bestToll_41 : decode cX4_bestToll 41 = .ok (.getfield 131, 3) := by decide +kernel
theorem dX4_bestToll_44 : decode cX4_bestToll 44 = .ok (.iload 5, 2) := by decide +kernel
theorem dX4_bestToll_46 : decode cX4_bestToll 46 = .ok (.iaload, 1) := by decide +kernel
theorem dX4_bestToll_47 : decode cX4_bestToll 47 = .ok (.iload_n 3, 1) := by decide +kernel
theorem dX4_bestToll_48 : decode cX4_bestToll 48 = .ok (.if_icmp .ge 7, 3) := by decide +kernel
theorem dX4_bestToll_51 : decode cX4_bestToll 51 = .ok (.iconst 1, 1) := by decide +kernel
theorem dX4_bestToll_52 : decode cX4_bestToll 52 = .ok (.goto 4, 3) := by decide +kernel
theorem dX4_bestToll_55 : decode cX4_bestToll 55 = .ok (.iconst 0, 1) := by decide +kernel
theorem dX4_bestToll_56 : decode cX4_bestToll 56 = .ok (.istore 7, 2) := by decide +kernel
theorem dX4_bestToll_58 : decode cX4_bestToll 58 = .ok (.iload 6, 2) := by decide +kernel
theorem dX4_bestToll_60 : decode cX4_bestToll 60 = .ok (.ifCond .eq 42, 3) := by decide +kernel
theorem dX4_bestToll_63 : decode cX4_bestToll 63 = .ok (.iload_n 3, 1) := by decide +kernel
theorem dX4_bestToll_64 : decode cX4_bestToll 64 = .ok (.iconst (-1), 1) := by decide +kernel
theorem dX4_bestToll_65 : decode cX4_bestToll 65 = .ok (.if_icmp .eq 20, 3) := by decide +kernel
theorem dX4_bestToll_68 : decode cX4_bestToll 68 = .ok (.aload_n 0, 1) := by decide +kernel
theorem dX4_bestToll_69 : decode cX4_bestToll 69 = .ok (.getfield 19, 3) := by decide +kernel
theorem dX4_bestToll_72 : decode cX4_bestToll 72 = .ok (.iload 6, 2) := by decide +kernel
theorem dX4_bestToll_74 : decode cX4_bestToll 74 = .ok (.iaload, 1) := by decide +kernel
theorem dX4_bestToll_75 : decode cX4_bestToll 75 = .ok (.iload 4, 2) := by decide +kernel
theorem dX4_bestToll_77 : decode cX4_bestToll 77 = .ok (.if_icmp .gt 8, 3) := by decide +kernel
theorem dX4_bestToll_80 : decode cX4_bestToll 80 = .ok (.iload 7, 2) := by decide +kernel
theorem dX4_bestToll_82 : decode cX4_bestToll 82 = .ok (.ifCond .eq 20, 3) := by decide +kernel
theorem dX4_bestToll_85 : decode cX4_bestToll 85 = .ok (.aload_n 1, 1) := by decide +kernel
theorem dX4_bestToll_86 : decode cX4_bestToll 86 = .ok (.getfield 131, 3) := by decide +kernel
theorem dX4_bestToll_89 : decode cX4_bestToll 89 = .ok (.iload 5, 2) := by decide +kernel
theorem dX4_bestToll_91 : decode cX4_bestToll 91 = .ok (.iaload, 1) := by decide +kernel
theorem dX4_bestToll_92 : decode cX4_bestToll 92 = .ok (.istore_n 3, 1) := by decide +kernel
theorem dX4_bestToll_93 : decode cX4_bestToll 93 = .ok (.aload_n 0, 1) := by decide +kernel
theorem dX4_bestToll_94 : decode cX4_bestToll 94 = .ok (.getfield 19, 3) := by decide +kernel
theorem dX4_bestToll_97 : decode cX4_bestToll 97 = .ok (.iload 6, 2) := by decide +kernel
theorem dX4_bestToll_99 : decode cX4_bestToll 99 = .ok (.iaload, 1) := by decide +kernel
theorem dX4_bestToll_100 : decode cX4_bestToll 100 = .ok (.istore 4, 2) := by decide +kernel
theorem dX4_bestToll_102 : decode cX4_bestToll 102 = .ok (.iinc 5 1, 3) := by decide +kernel
theorem dX4_bestToll_105 : decode cX4_bestToll 105 = .ok (.goto (-97), 3) := by decide +kernel
theorem dX4_bestToll_108 : decode cX4_bestToll 108 = .ok (.iload_n 3, 1) := by decide +kernel
theorem dX4_bestToll_109 : decode cX4_bestToll 109 = .ok (.ireturn, 1) := by decide +kernel
theorem bX4_bestToll_0 {d mc ms : Nat} {al : Bool} {bc bs : Nat} {Γ : am_G} {I : am_I} {L : am_L} {Q : am_Q} {v0 : Nat} {v1 : Nat} {v2 : Int32} (kk : am_W m_X4_bestToll d mc ms al bc bs 8 [(0, .ref v0), (1, .ref v1), (2, .int v2), (3, .int (-1)), (4, .int 0), (5, .int 0)] [] Γ I L Q) : am_W m_X4_bestToll d mc ms al bc bs 0 [(0, .ref v0), (1, .ref v1), (2, .int v2)] [] Γ I L Q := by
  refine aw_iconst dX4_bestToll_0 ci_m1 ?_
  refine aw_istore_n (ls' := [(0, .ref v0), (1, .ref v1), (2, .int v2), (3, .int (-1))]) dX4_bestToll_1 (by decide) rfl ?_
  refine aw_iconst dX4_bestToll_2 ci_0 ?_
  refine aw_istore (ls' := [(0, .ref v0), (1, .ref v1), (2, .int v2), (3, .int (-1)), (4, .int 0)]) dX4_bestToll_3 (by decide) rfl ?_
  refine aw_iconst dX4_bestToll_5 ci_0 ?_
  refine aw_istore (ls' := [(0, .ref v0), (1, .ref v1), (2, .int v2), (3, .int (-1)), (4, .int 0), (5, .int 0)]) dX4_bestToll_6 (by decide) rfl ?_
  exact kk
theorem bX4_bestToll_8 {d mc ms : Nat} {al : Bool} {bc bs : Nat} {Γ : am_G} {I : am_I} {L : am_L} {Q : am_Q} {v0 : Nat} {v1 : Nat} {v2 : Int32} {v3 : Int32} {v4 : Int32} {v5 : Int32} (o1 : am_ob Γ v1 5) (kt : (I v1 1) ≤ v5 → am_W m_X4_bestToll d mc ms al bc bs 108 [(0, .ref v0), (1, .ref v1), (2, .int v2), (3, .int v3), (4, .int v4), (5, .int v5)] [] Γ I L Q) (kf : ¬ (I v1 1) ≤ v5 → am_W m_X4_bestToll d mc ms al bc bs 17 [(0, .ref v0), (1, .ref v1), (2, .int v2), (3, .int v3), (4, .int v4), (5, .int v5)] [] Γ I L Q) : am_W m_X4_bestToll d mc ms al bc bs 8 [(0, .ref v0), (1, .ref v1), (2, .int v2), (3, .int v3), (4, .int v4), (5, .int v5)] [] Γ I L Q := by
  refine aw_iload dX4_bestToll_8 rfl ?_
  refine aw_aload_n dX4_bestToll_10 rfl ?_
  refine aw_getI dX4_bestToll_11 f_X4_40 o1 rfl ?_
  exact aw_icmp_ge dX4_bestToll_14 (by decide) kt kf
theorem bX4_bestToll_17 {d mc ms : Nat} {al : Bool} {bc bs : Nat} {Γ : am_G} {I : am_I} {L : am_L} {Q : am_Q} {v0 : Nat} {v1 : Nat} {v2 : Int32} {v3 : Int32} {v4 : Int32} {v5 : Int32} {r2 : Nat} {n_r2 : Nat} {r6 : Nat} {n_r6 : Nat} (o1 : am_ob Γ v0 4) (g3 : Γ.2.2 v0 3 = some r2) (a4 : am_ar Γ r2 1 n_r2 0) (i5 : vp_in v5 n_r2) (g7 : Γ.2.2 v0 2 = some r6) (a8 : am_ar Γ r6 1 n_r6 0) (i9 : vp_in (v2 &&& (I r2 (v5.toNatClampNeg))) n_r6) (kt : ¬ (I r6 ((v2 &&& (I r2 (v5.toNatClampNeg))).toNatClampNeg)) = v4 → am_W m_X4_bestToll d mc ms al bc bs 55 [(0, .ref v0), (1, .ref v1), (2, .int v2), (3, .int v3), (4, .int v4), (5, .int v5), (6, .int (v2 &&& (I r2 (v5.toNatClampNeg))))] [] Γ I L Q) (kf : (I r6 ((v2 &&& (I r2 (v5.toNatClampNeg))).toNatClampNeg)) = v4 → am_W m_X4_bestToll d mc ms al bc bs 40 [(0, .ref v0), (1, .ref v1), (2, .int v2), (3, .int v3), (4, .int v4), (5, .int v5), (6, .int (v2 &&& (I r2 (v5.toNatClampNeg))))] [] Γ I L Q) : am_W m_X4_bestToll d mc ms al bc bs 17 [(0, .ref v0), (1, .ref v1), (2, .int v2), (3, .int v3), (4, .int v4), (5, .int v5)] [] Γ I L Q := by
  refine aw_iload_n dX4_bestToll_17 rfl ?_
  refine aw_aload_n dX4_bestToll_18 rfl ?_
  refine aw_getR dX4_bestToll_19 f_X4_22 o1 rfl g3 ?_
  refine aw_iload dX4_bestToll_22 rfl ?_
  refine aw_iald dX4_bestToll_24 a4 i5 ?_
  refine aw_iand dX4_bestToll_25 ?_
  refine aw_istore (ls' := [(0, .ref v0), (1, .ref v1), (2, .int v2), (3, .int v3), (4, .int v4), (5, .int v5), (6, .int (v2 &&& (I r2 (v5.toNatClampNeg))))]) dX4_bestToll_26 (by decide) rfl ?_
  refine aw_aload_n dX4_bestToll_28 rfl ?_
  refine aw_getR dX4_bestToll_29 f_X4_19 o1 rfl g7 ?_
  refine aw_iload dX4_bestToll_32 rfl ?_
  refine aw_iald dX4_bestToll_34 a8 i9 ?_
  refine aw_iload dX4_bestToll_35 rfl ?_
  exact aw_icmp_ne dX4_bestToll_37 (by decide) kt kf
theorem bX4_bestToll_40 {d mc ms : Nat} {al : Bool} {bc bs : Nat} {Γ : am_G} {I : am_I} {L : am_L} {Q : am_Q} {v0 : Nat} {v1 : Nat} {v2 : Int32} {v3 : Int32} {v4 : Int32} {v5 : Int32} {v6 : Int32} {r2 : Nat} {n_r2 : Nat} (o1 : am_ob Γ v1 5) (g3 : Γ.2.2 v1 8 = some r2) (a4 : am_ar Γ r2 1 n_r2 0) (i5 : vp_in v5 n_r2) (kt : v3 ≤ (I r2 (v5.toNatClampNeg)) → am_W m_X4_bestToll d mc ms al bc bs 55 [(0, .ref v0), (1, .ref v1), (2, .int v2), (3, .int v3), (4, .int v4), (5, .int v5), (6, .int v6)] [] Γ I L Q) (kf : ¬ v3 ≤ (I r2 (v5.toNatClampNeg)) → am_W m_X4_bestToll d mc ms al bc bs 51 [(0, .ref v0), (1, .ref v1), (2, .int v2), (3, .int v3), (4, .int v4), (5, .int v5), (6, .int v6)] [] Γ I L Q) : am_W m_X4_bestToll d mc ms al bc bs 40 [(0, .ref v0), (1, .ref v1), (2, .int v2), (3, .int v3), (4, .int v4), (5, .int v5), (6, .int v6)] [] Γ I L Q := by
  refine aw_aload_n dX4_bestToll_40 rfl ?_
  refine aw_getR dX4_bestToll_41 f_X4_131 o1 rfl g3 ?_
  refine aw_iload dX4_bestToll_44 rfl ?_
  refine aw_iald dX4_bestToll_46 a4 i5 ?_
  refine aw_iload_n dX4_bestToll_47 rfl ?_
  exact aw_icmp_ge dX4_bestToll_48 (by decide) kt kf
theorem bX4_bestToll_51 {d mc ms : Nat} {al : Bool} {bc bs : Nat} {Γ : am_G} {I : am_I} {L : am_L} {Q : am_Q} {v0 : Nat} {v1 : Nat} {v2 : Int32} {v3 : Int32} {v4 : Int32} {v5 : Int32} {v6 : Int32} (kk : am_W m_X4_bestToll d mc ms al bc bs 56 [(0, .ref v0), (1, .ref v1), (2, .int v2), (3, .int v3), (4, .int v4), (5, .int v5), (6, .int v6)] [.int 1] Γ I L Q) : am_W m_X4_bestToll d mc ms al bc bs 51 [(0, .ref v0), (1, .ref v1), (2, .int v2), (3, .int v3), (4, .int v4), (5, .int v5), (6, .int v6)] [] Γ I L Q := by
  refine aw_iconst dX4_bestToll_51 ci_1 ?_
  exact aw_goto dX4_bestToll_52 (by decide) kk
theorem bX4_bestToll_55 {d mc ms : Nat} {al : Bool} {bc bs : Nat} {Γ : am_G} {I : am_I} {L : am_L} {Q : am_Q} {v0 : Nat} {v1 : Nat} {v2 : Int32} {v3 : Int32} {v4 : Int32} {v5 : Int32} {v6 : Int32} (kk : am_W m_X4_bestToll d mc ms al bc bs 56 [(0, .ref v0), (1, .ref v1), (2, .int v2), (3, .int v3), (4, .int v4), (5, .int v5), (6, .int v6)] [.int 0] Γ I L Q) : am_W m_X4_bestToll d mc ms al bc bs 55 [(0, .ref v0), (1, .ref v1), (2, .int v2), (3, .int v3), (4, .int v4), (5, .int v5), (6, .int v6)] [] Γ I L Q := by
  refine aw_iconst dX4_bestToll_55 ci_0 ?_
  exact kk
theorem bX4_bestToll_56 {d mc ms : Nat} {al : Bool} {bc bs : Nat} {Γ : am_G} {I : am_I} {L : am_L} {Q : am_Q} {v0 : Nat} {v1 : Nat} {v2 : Int32} {v3 : Int32} {v4 : Int32} {v5 : Int32} {v6 : Int32} {w0 : Int32} (kt : v6 = 0 → am_W m_X4_bestToll d mc ms al bc bs 102 [(0, .ref v0), (1, .ref v1), (2, .int v2), (3, .int v3), (4, .int v4), (5, .int v5), (6, .int v6), (7, .int w0)] [] Γ I L Q) (kf : ¬ v6 = 0 → am_W m_X4_bestToll d mc ms al bc bs 63 [(0, .ref v0), (1, .ref v1), (2, .int v2), (3, .int v3), (4, .int v4), (5, .int v5), (6, .int v6), (7, .int w0)] [] Γ I L Q) : am_W m_X4_bestToll d mc ms al bc bs 56 [(0, .ref v0), (1, .ref v1), (2, .int v2), (3, .int v3), (4, .int v4), (5, .int v5), (6, .int v6)] [.int w0] Γ I L Q := by
  refine aw_istore (ls' := [(0, .ref v0), (1, .ref v1), (2, .int v2), (3, .int v3), (4, .int v4), (5, .int v5), (6, .int v6), (7, .int w0)]) dX4_bestToll_56 (by decide) rfl ?_
  refine aw_iload dX4_bestToll_58 rfl ?_
  exact aw_if_eq dX4_bestToll_60 (by decide) kt kf
theorem bX4_bestToll_63 {d mc ms : Nat} {al : Bool} {bc bs : Nat} {Γ : am_G} {I : am_I} {L : am_L} {Q : am_Q} {v0 : Nat} {v1 : Nat} {v2 : Int32} {v3 : Int32} {v4 : Int32} {v5 : Int32} {v6 : Int32} {v7 : Int32} (kt : v3 = (-1) → am_W m_X4_bestToll d mc ms al bc bs 85 [(0, .ref v0), (1, .ref v1), (2, .int v2), (3, .int v3), (4, .int v4), (5, .int v5), (6, .int v6), (7, .int v7)] [] Γ I L Q) (kf : ¬ v3 = (-1) → am_W m_X4_bestToll d mc ms al bc bs 68 [(0, .ref v0), (1, .ref v1), (2, .int v2), (3, .int v3), (4, .int v4), (5, .int v5), (6, .int v6), (7, .int v7)] [] Γ I L Q) : am_W m_X4_bestToll d mc ms al bc bs 63 [(0, .ref v0), (1, .ref v1), (2, .int v2), (3, .int v3), (4, .int v4), (5, .int v5), (6, .int v6), (7, .int v7)] [] Γ I L Q := by
  refine aw_iload_n dX4_bestToll_63 rfl ?_
  refine aw_iconst dX4_bestToll_64 ci_m1 ?_
  exact aw_icmp_eq dX4_bestToll_65 (by decide) kt kf
theorem bX4_bestToll_68 {d mc ms : Nat} {al : Bool} {bc bs : Nat} {Γ : am_G} {I : am_I} {L : am_L} {Q : am_Q} {v0 : Nat} {v1 : Nat} {v2 : Int32} {v3 : Int32} {v4 : Int32} {v5 : Int32} {v6 : Int32} {v7 : Int32} {r2 : Nat} {n_r2 : Nat} (o1 : am_ob Γ v0 4) (g3 : Γ.2.2 v0 2 = some r2) (a4 : am_ar Γ r2 1 n_r2 0) (i5 : vp_in v6 n_r2) (kt : v4 < (I r2 (v6.toNatClampNeg)) → am_W m_X4_bestToll d mc ms al bc bs 85 [(0, .ref v0), (1, .ref v1), (2, .int v2), (3, .int v3), (4, .int v4), (5, .int v5), (6, .int v6), (7, .int v7)] [] Γ I L Q) (kf : ¬ v4 < (I r2 (v6.toNatClampNeg)) → am_W m_X4_bestToll d mc ms al bc bs 80 [(0, .ref v0), (1, .ref v1), (2, .int v2), (3, .int v3), (4, .int v4), (5, .int v5), (6, .int v6), (7, .int v7)] [] Γ I L Q) : am_W m_X4_bestToll d mc ms al bc bs 68 [(0, .ref v0), (1, .ref v1), (2, .int v2), (3, .int v3), (4, .int v4), (5, .int v5), (6, .int v6), (7, .int v7)] [] Γ I L Q := by
  refine aw_aload_n dX4_bestToll_68 rfl ?_
  refine aw_getR dX4_bestToll_69 f_X4_19 o1 rfl g3 ?_
  refine aw_iload dX4_bestToll_72 rfl ?_
  refine aw_iald dX4_bestToll_74 a4 i5 ?_
  refine aw_iload dX4_bestToll_75 rfl ?_
  exact aw_icmp_gt dX4_bestToll_77 (by decide) kt kf
theorem bX4_bestToll_80 {d mc ms : Nat} {al : Bool} {bc bs : Nat} {Γ : am_G} {I : am_I} {L : am_L} {Q : am_Q} {v0 : Nat} {v1 : Nat} {v2 : Int32} {v3 : Int32} {v4 : Int32} {v5 : Int32} {v6 : Int32} {v7 : Int32} (kt : v7 = 0 → am_W m_X4_bestToll d mc ms al bc bs 102 [(0, .ref v0), (1, .ref v1), (2, .int v2), (3, .int v3), (4, .int v4), (5, .int v5), (6, .int v6), (7, .int v7)] [] Γ I L Q) (kf : ¬ v7 = 0 → am_W m_X4_bestToll d mc ms al bc bs 85 [(0, .ref v0), (1, .ref v1), (2, .int v2), (3, .int v3), (4, .int v4), (5, .int v5), (6, .int v6), (7, .int v7)] [] Γ I L Q) : am_W m_X4_bestToll d mc ms al bc bs 80 [(0, .ref v0), (1, .ref v1), (2, .int v2), (3, .int v3), (4, .int v4), (5, .int v5), (6, .int v6), (7, .int v7)] [] Γ I L Q := by
  refine aw_iload dX4_bestToll_80 rfl ?_
  exact aw_if_eq dX4_bestToll_82 (by decide) kt kf
theorem bX4_bestToll_85 {d mc ms : Nat} {al : Bool} {bc bs : Nat} {Γ : am_G} {I : am_I} {L : am_L} {Q : am_Q} {v0 : Nat} {v1 : Nat} {v2 : Int32} {v3 : Int32} {v4 : Int32} {v5 : Int32} {v6 : Int32} {v7 : Int32} {r2 : Nat} {n_r2 : Nat} {r7 : Nat} {n_r7 : Nat} (o1 : am_ob Γ v1 5) (g3 : Γ.2.2 v1 8 = some r2) (a4 : am_ar Γ r2 1 n_r2 0) (i5 : vp_in v5 n_r2) (o6 : am_ob Γ v0 4) (g8 : Γ.2.2 v0 2 = some r7) (a9 : am_ar Γ r7 1 n_r7 0) (i10 : vp_in v6 n_r7) (kk : am_W m_X4_bestToll d mc ms al bc bs 102 [(0, .ref v0), (1, .ref v1), (2, .int v2), (3, .int (I r2 (v5.toNatClampNeg))), (4, .int (I r7 (v6.toNatClampNeg))), (5, .int v5), (6, .int v6), (7, .int v7)] [] Γ I L Q) : am_W m_X4_bestToll d mc ms al bc bs 85 [(0, .ref v0), (1, .ref v1), (2, .int v2), (3, .int v3), (4, .int v4), (5, .int v5), (6, .int v6), (7, .int v7)] [] Γ I L Q := by
  refine aw_aload_n dX4_bestToll_85 rfl ?_
  refine aw_getR dX4_bestToll_86 f_X4_131 o1 rfl g3 ?_
  refine aw_iload dX4_bestToll_89 rfl ?_
  refine aw_iald dX4_bestToll_91 a4 i5 ?_
  refine aw_istore_n (ls' := [(0, .ref v0), (1, .ref v1), (2, .int v2), (3, .int (I r2 (v5.toNatClampNeg))), (4, .int v4), (5, .int v5), (6, .int v6), (7, .int v7)]) dX4_bestToll_92 (by decide) rfl ?_
  refine aw_aload_n dX4_bestToll_93 rfl ?_
  refine aw_getR dX4_bestToll_94 f_X4_19 o6 rfl g8 ?_
  refine aw_iload dX4_bestToll_97 rfl ?_
  refine aw_iald dX4_bestToll_99 a9 i10 ?_
  refine aw_istore (ls' := [(0, .ref v0), (1, .ref v1), (2, .int v2), (3, .int (I r2 (v5.toNatClampNeg))), (4, .int (I r7 (v6.toNatClampNeg))), (5, .int v5), (6, .int v6), (7, .int v7)]) dX4_bestToll_100 (by decide) rfl ?_
  exact kk
theorem bX4_bestToll_102 {d mc ms : Nat} {al : Bool} {bc bs : Nat} {Γ : am_G} {I : am_I} {L : am_L} {Q : am_Q} {v0 : Nat} {v1 : Nat} {v2 : Int32} {v3 : Int32} {v4 : Int32} {v5 : Int32} {v6 : Int32} {v7 : Int32} (kk : am_W m_X4_bestToll d mc ms al bc bs 8 [(0, .ref v0), (1, .ref v1), (2, .int v2), (3, .int v3), (4, .int v4), (5, .int (v5 + 1)), (6, .int v6), (7, .int v7)] [] Γ I L Q) : am_W m_X4_bestToll d mc ms al bc bs 102 [(0, .ref v0), (1, .ref v1), (2, .int v2), (3, .int v3), (4, .int v4), (5, .int v5), (6, .int v6), (7, .int v7)] [] Γ I L Q := by
  refine aw_iinc (ls' := [(0, .ref v0), (1, .ref v1), (2, .int v2), (3, .int v3), (4, .int v4), (5, .int (v5 + 1)), (6, .int v6), (7, .int v7)]) dX4_bestToll_102 rfl (cn_1 _) (by decide) rfl ?_
  exact aw_goto dX4_bestToll_105 (by decide) kk
theorem bX4_bestToll_108 {d mc ms : Nat} {al : Bool} {bc bs : Nat} {Γ : am_G} {I : am_I} {L : am_L} {Q : am_Q} {v0 : Nat} {v1 : Nat} {v2 : Int32} {v3 : Int32} {v4 : Int32} {v5 : Int32} (hq : Q (.inl (some (.int v3))) Γ I L) : am_W m_X4_bestToll d mc ms al bc bs 108 [(0, .ref v0), (1, .ref v1), (2, .int v2), (3, .int v3), (4, .int v4), (5, .int v5)] [] Γ I L Q := by
  refine aw_iload_n dX4_bestToll_108 rfl ?_
  exact aw_iret dX4_bestToll_109 rfl hq
