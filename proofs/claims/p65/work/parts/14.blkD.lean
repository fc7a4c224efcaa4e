/-! BLOCKS (printed by program): what each straight stretch of the code does in the numbered machine -/
theorem dX8_init_0 : decode cX8_init 0 = .ok (.aload_n 0, 1) := by decide +kernel
theorem dX8_init_1 : decode cX8_init 1 = .ok (.invokespecial 3, 3) := by decide +kernel
theorem dX8_init_4 : decode cX8_init 4 = .ok (.aload_n 0, 1) := by decide +kernel
theorem dX8_init_5 : decode cX8_init 5 = .ok (.new 9, 3) := by decide +kernel
theorem dX8_init_8 : decode cX8_init 8 = .ok (.dup, 1) := by decide +kernel
theorem dX8_init_9 : decode cX8_init 9 = .ok (.invokespecial 11, 3) := by decide +kernel
theorem dX8_init_12 : decode cX8_init 12 = .ok (.putfield 12, 3) := by decide +kernel
theorem dX8_init_15 : decode cX8_init 15 = .ok (.aload_n 0, 1) := by decide +kernel
theorem dX8_init_16 : decode cX8_init 16 = .ok (.new 16, 3) := by decide +kernel
theorem dX8_init_19 : decode cX8_init 19 = .ok (.dup, 1) := by decide +kernel
theorem dX8_init_20 : decode cX8_init 20 = .ok (.invokespecial 18, 3) := by decide +kernel
theorem dX8_init_23 : decode cX8_init 23 = .ok (.putfield 19, 3) := by decide +kernel
theorem dX8_init_26 : decode cX8_init 26 = .ok (.aload_n 0, 1) := by decide +kernel
theorem dX8_init_27 : decode cX8_init 27 = .ok (.new 16, 3) := by decide +kernel
theorem dX8_init_30 : decode cX8_init 30 = .ok (.dup, 1) := by decide +kernel
theorem dX8_init_31 : decode cX8_init 31 = .ok (.invokespecial 18, 3) := by decide +kernel
theorem dX8_init_34 : decode cX8_init 34 = .ok (.putfield 23, 3) := by decide +kernel
theorem dX8_init_37 : decode cX8_init 37 = .ok (.aload_n 0, 1) := by decide +kernel
theorem dX8_init_38 : decode cX8_init 38 = .ok (.new 26, 3) := by decide +kernel
theorem dX8_init_41 : decode cX8_init 41 = .ok (.dup, 1) := by decide +kernel
theorem dX8_init_42 : decode cX8_init 42 = .ok (.aload_n 0, 1) := by decide +kernel
theorem dX8_init_43 : decode cX8_init 43 = .ok (.getfield 23, 3) := by decide +kernel
theorem dX8_init_46 : decode cX8_init 46 = .ok (.aload_n 0, 1) := by decide +kernel
theorem dX8_init_47 : decode cX8_init 47 = .ok (.getfield 12, 3) := by decide +kernel
theorem dX8_init_50 : decode cX8_init 50 = .ok (.invokespecial 28, 3) := by decide +kernel
theorem dX8_init_53 : decode cX8_init 53 = .ok (.putfield 31, 3) := by decide +kernel
theorem dX8_init_56 : decode cX8_init 56 = .ok (.aload_n 0, 1) := by decide +kernel
theorem dX8_init_57 : decode cX8_init 57 = .ok (.new 35, 3) := by decide +kernel
theorem dX8_init_60 : decode cX8_init 60 = .ok (.dup, 1) := by decide +kernel
theorem dX8_init_61 : decode cX8_init 61 = .ok (.invokespecial 37, 3) := by decide +kernel
theorem dX8_init_64 : decode cX8_init 64 = .ok (.putfield 38, 3) := by decide +kernel
theorem dX8_init_67 : decode cX8_init 67 = .ok (.aload_n 0, 1) := by decide +kernel
theorem dX8_init_68 : decode cX8_init 68 = .ok (.iconst 2, 1) := by decide +kernel
theorem dX8_init_69 : decode cX8_init 69 = .ok (.anewarray 16, 3) := by decide +kernel
theorem dX8_init_72 : decode cX8_init 72 = .ok (.putfield 42, 3) := by decide +kernel
theorem dX8_init_75 : decode cX8_init 75 = .ok (.iconst 0, 1) := by decide +kernel
theorem dX8_init_76 : decode cX8_init 76 = .ok (.istore_n 1, 1) := by decide +kernel
theorem dX8_init_77 : decode cX8_init 77 = .ok (.iload_n 1, 1) := by decide +kernel
theorem dX8_init_78 : decode cX8_init 78 = .ok (.iconst 2, 1) := by decide +kernel
theorem dX8_init_79 : decode cX8_init 79 = .ok (.if_icmp .ge 22, 3) := by decide +kernel
theorem dX8_init_82 : decode cX8_init 82 = .ok (.aload_n 0, 1) := by decide +kernel
theorem dX8_init_83 : decode cX8_init 83 = .ok (.getfield 42, 3) := by decide +kernel
theorem dX8_init_86 : decode cX8_init 86 = .ok (.iload_n 1, 1) := by decide +kernel
theorem dX8_init_87 : decode cX8_init 87 = .ok (.new 16, 3) := by decide +kernel
theorem dX8_init_90 : decode cX8_init 90 = .ok (.dup, 1) := by decide +kernel
theorem dX8_init_91 : decode cX8_init 91 = .ok (.invokespecial 18, 3) := by decide +kernel
theorem dX8_init_94 : decode cX8_init 94 = .ok (.aastore, 1) := by decide +kernel
theorem dX8_init_95 : decode cX8_init 95 = .ok (.iinc 1 1, 3) := by decide +kernel
theorem dX8_init_98 : decode cX8_init 98 = .ok (.goto (-21), 3) := by decide +kernel
theorem dX8_init_101 : decode cX8_init 101 = .ok (.aload_n 0, 1) := by decide +kernel
theorem dX8_init_102 : decode cX8_init 102 = .ok (.iconst 2, 1) := by decide +kernel
theorem dX8_init_103 : decode cX8_init 103 = .ok (.newarray .boolean, 2) := by decide +kernel
theorem dX8_init_105 : decode cX8_init 105 = .ok (.putfield 46, 3) := by decide +kernel
theorem dX8_init_108 : decode cX8_init 108 = .ok (.aload_n 0, 1) := by decide +kernel
theorem dX8_init_109 : decode cX8_init 109 = .ok (.new 50, 3) := by decide +kernel
theorem dX8_init_112 : decode cX8_init 112 = .ok (.dup, 1) := by decide +kernel
theorem dX8_init_113 : decode cX8_init 113 = .ok (.invokespecial 52, 3) := by decide +kernel
theorem dX8_init_116 : decode cX8_init 116 = .ok (.putfield 53, 3) := by decide +kernel
theorem dX8_init_119 : decode cX8_init 119 = .ok (.iconst 0, 1) := by decide +kernel
theorem dX8_init_120 : decode cX8_init 120 = .ok (.istore_n 1, 1) := by decide +kernel
theorem dX8_init_121 : decode cX8_init 121 = .ok (.iload_n 1, 1) := by decide +kernel
theorem dX8_init_122 : decode cX8_init 122 = .ok (.ldc 57, 2) := by decide +kernel
theorem dX8_init_124 : decode cX8_init 124 = .ok (.invokevirtual 59, 3) := by decide +kernel
theorem dX8_init_127 : decode cX8_init 127 = .ok (.if_icmp .ge 22, 3) := by decide +kernel
theorem dX8_init_130 : decode cX8_init 130 = .ok (.aload_n 0, 1) := by decide +kernel
theorem dX8_init_131 : decode cX8_init 131 = .ok (.getfield 31, 3) := by decide +kernel
theorem dX8_init_134 : decode cX8_init 134 = .ok (.ldc 57, 2) := by decide +kernel
theorem dX8_init_136 : decode cX8_init 136 = .ok (.iload_n 1, 1) := by decide +kernel
theorem dX8_init_137 : decode cX8_init 137 = .ok (.invokevirtual 65, 3) := by decide +kernel
theorem dX8_init_140 : decode cX8_init 140 = .ok (.invokevirtual 69, 3) := by decide +kernel
theorem dX8_init_143 : decode cX8_init 143 = .ok (.iinc 1 1, 3) := by decide +kernel
theorem dX8_init_146 : decode cX8_init 146 = .ok (.goto (-25), 3) := by decide +kernel
theorem dX8_init_149 : decode cX8_init 149 = .ok (.aload_n 0, 1) := by decide +kernel
theorem dX8_init_150 : decode cX8_init 150 = .ok (.getfield 31, 3) := by decide +kernel
theorem dX8_init_153 : decode cX8_init 153 = .ok (.invokevirtual 73, 3) := by decide +kernel
theorem dX8_init_156 : decode cX8_init 156 = .ok (.aload_n 0, 1) := by decide +kernel
theorem dX8_init_157 : decode cX8_init 157 = .ok (.getfield 31, 3) := by decide +kernel
theorem dX8_init_160 : decode cX8_init 160 = .ok (.invokevirtual 76, 3) := by decide +kernel
theorem dX8_init_163 : decode cX8_init 163 = .ok (.pop, 1) := by decide +kernel
theorem dX8_init_164 : decode cX8_init 164 = .ok (.aload_n 0, 1) := by decide +kernel
theorem dX8_init_165 : decode cX8_init 165 = .ok (.getfield 31, 3) := by decide +kernel
theorem dX8_init_168 : decode cX8_init 168 = .ok (.iconst 0, 1) := by decide +kernel
theorem dX8_init_169 : decode cX8_init 169 = .ok (.putfield 80, 3) := by decide +kernel
theorem dX8_init_172 : decode cX8_init 172 = .ok (.aload_n 0, 1) := by decide +kernel
theorem dX8_init_173 : decode cX8_init 173 = .ok (.getfield 19, 3) := by decide +kernel
theorem dX8_init_176 : decode cX8_init 176 = .ok (.aload_n 0, 1) := by decide +kernel
theorem dX8_init_177 : decode cX8_init 177 = .ok (.getfield 23, 3) := by decide +kernel
theorem dX8_init_180 : decode cX8_init 180 = .ok (.invokevirtual 83, 3) := by decide +kernel
theorem dX8_init_183 : decode cX8_init 183 = .ok (.return_, 1) := by decide +kernel
theorem bX8_init_77 {d mc ms : Nat} {al : Bool} {bc bs : Nat} {Γ : am_G} {I : am_I} {L : am_L} {Q : am_Q} {v0 : Nat} {v1 : Int32} (kt : 2 ≤ v1 → am_W m_X8_init d mc ms al bc bs 101 [(0, .ref v0), (1, .int v1)] [] Γ I L Q) (kf : ¬ 2 ≤ v1 → am_W m_X8_init d mc ms al bc bs 82 [(0, .ref v0), (1, .int v1)] [] Γ I L Q) : am_W m_X8_init d mc ms al bc bs 77 [(0, .ref v0), (1, .int v1)] [] Γ I L Q := by
  refine aw_iload_n dX8_init_77 rfl ?_
  refine aw_iconst dX8_init_78 ci_2 ?_
  exact aw_icmp_ge dX8_init_79 (by decide) kt kf
theorem bX8_init_121 {d mc ms : Nat} {al : Bool} {bc bs : Nat} {Γ : am_G} {I : am_I} {L : am_L} {Q : am_Q} {v0 : Nat} {v1 : Int32} {I' : am_I} {L' : am_L} {mc' : Nat} {ms' : Nat} {r : Int32} (hbc : mc' ≤ bc) (hbs : ms' ≤ bs) (hC : am_E m_J0_length_8abf5 d mc' ms' [.retAddr 0] Γ I L (.inl (some (.int r))) I' L') (kk : am_W m_X8_init (d + 1) mc ms al (bc - mc') (bs - ms') 127 [(0, .ref v0), (1, .int v1)] [.int r, .int v1] Γ I' L' Q) : am_W m_X8_init (d + 1) mc ms al bc bs 121 [(0, .ref v0), (1, .int v1)] [] Γ I L Q := by
  refine aw_iload_n dX8_init_121 rfl ?_
  refine aw_ldcT dX8_init_122 (i := 0) tx_X8_57 ?_
  exact aw_askT (as := []) (rst := [.int v1]) k_J0_length_8abf5 l_X8_59 i_J0_length_8abf5 s_J0_length_8abf5 rfl (by decide) dX8_init_124 rfl (Nat.le_of_ble_eq_true rfl) hbc hbs hC rfl rfl kk
theorem bX8_init_127 {d mc ms : Nat} {al : Bool} {bc bs : Nat} {Γ : am_G} {I : am_I} {L : am_L} {Q : am_Q} {v0 : Nat} {v1 : Int32} {w0 : Int32} {w1 : Int32} (kt : w1 ≤ w0 → am_W m_X8_init d mc ms al bc bs 149 [(0, .ref v0), (1, .int v1)] [] Γ I L Q) (kf : ¬ w1 ≤ w0 → am_W m_X8_init d mc ms al bc bs 130 [(0, .ref v0), (1, .int v1)] [] Γ I L Q) : am_W m_X8_init d mc ms al bc bs 127 [(0, .ref v0), (1, .int v1)] [.int w1, .int w0] Γ I L Q := by
  exact aw_icmp_ge dX8_init_127 (by decide) kt kf
theorem bX8_init_130 {d mc ms : Nat} {al : Bool} {bc bs : Nat} {Γ : am_G} {I : am_I} {L : am_L} {Q : am_Q} {v0 : Nat} {v1 : Int32} {r2 : Nat} {I' : am_I} {L' : am_L} {mc' : Nat} {ms' : Nat} {r : Int32} (o1 : am_ob Γ v0 8) (g3 : Γ.2.2 v0 3 = some r2) (hbc : mc' ≤ bc) (hbs : ms' ≤ bs) (hC : am_E m_J0_charAt_5068e d mc' ms' [.retAddr 0, .int v1] Γ I L (.inl (some (.int r))) I' L') (kk : am_W m_X8_init (d + 1) mc ms al (bc - mc') (bs - ms') 140 [(0, .ref v0), (1, .int v1)] [.int r, .ref r2] Γ I' L' Q) : am_W m_X8_init (d + 1) mc ms al bc bs 130 [(0, .ref v0), (1, .int v1)] [] Γ I L Q := by
  refine aw_aload_n dX8_init_130 rfl ?_
  refine aw_getR dX8_init_131 f_X8_31 o1 rfl g3 ?_
  refine aw_ldcT dX8_init_134 (i := 0) tx_X8_57 ?_
  refine aw_iload_n dX8_init_136 rfl ?_
  exact aw_askT (as := [.int v1]) (rst := [.ref r2]) k_J0_charAt_5068e l_X8_65 i_J0_charAt_5068e s_J0_charAt_5068e rfl (by decide) dX8_init_137 rfl (Nat.le_of_ble_eq_true rfl) hbc hbs hC rfl rfl kk
theorem bX8_init_140 {d mc ms : Nat} {al : Bool} {bc bs : Nat} {Γ : am_G} {I : am_I} {L : am_L} {Q : am_Q} {v0 : Nat} {v1 : Int32} {w0 : Nat} {w1 : Int32} {I' : am_I} {L' : am_L} {mc' : Nat} {ms' : Nat} (o1 : am_ob Γ w0 3) (hbc : mc' ≤ bc) (hbs : ms' ≤ bs) (hC : am_E m_X3_putByte d mc' ms' [.ref w0, .int w1] Γ I L (.inl none) I' L') (kk : am_W m_X8_init (d + 1) mc ms al (bc - mc') (bs - ms') 143 [(0, .ref v0), (1, .int v1)] [] Γ I' L' Q) : am_W m_X8_init (d + 1) mc ms al bc bs 140 [(0, .ref v0), (1, .int v1)] [.int w1, .ref w0] Γ I L Q := by
  exact aw_askV (as := [.int w1]) (rst := []) k_X3_putByte l_X8_69 i_X3_putByte s_X3_putByte rfl o1 dX8_init_140 rfl (Nat.le_of_ble_eq_true rfl) hbc hbs hC rfl rfl kk
theorem bX8_init_143 {d mc ms : Nat} {al : Bool} {bc bs : Nat} {Γ : am_G} {I : am_I} {L : am_L} {Q : am_Q} {v0 : Nat} {v1 : Int32} (kk : am_W m_X8_init d mc ms al bc bs 121 [(0, .ref v0), (1, .int (v1 + 1))] [] Γ I L Q) : am_W m_X8_init d mc ms al bc bs 143 [(0, .ref v0), (1, .int v1)] [] Γ I L Q := by
  refine aw_iinc (ls' := [(0, .ref v0), (1, .int (v1 + 1))]) dX8_init_143 rfl (cn_1 _) (by decide) rfl ?_
  exact aw_goto dX8_init_146 (by decide) kk
theorem bX8_init_149 {d mc ms : Nat} {al : Bool} {bc bs : Nat} {Γ : am_G} {I : am_I} {L : am_L} {Q : am_Q} {v0 : Nat} {v1 : Int32} {r2 : Nat} {I' : am_I} {L' : am_L} {mc' : Nat} {ms' : Nat} (o1 : am_ob Γ v0 8) (g3 : Γ.2.2 v0 3 = some r2) (o4 : am_ob Γ r2 3) (hbc : mc' ≤ bc) (hbs : ms' ≤ bs) (hC : am_E m_X3_begin d mc' ms' [.ref r2] Γ I L (.inl none) I' L') (kk : am_W m_X8_init (d + 1) mc ms al (bc - mc') (bs - ms') 156 [(0, .ref v0), (1, .int v1)] [] Γ I' L' Q) : am_W m_X8_init (d + 1) mc ms al bc bs 149 [(0, .ref v0), (1, .int v1)] [] Γ I L Q := by
  refine aw_aload_n dX8_init_149 rfl ?_
  refine aw_getR dX8_init_150 f_X8_31 o1 rfl g3 ?_
  exact aw_askV (as := []) (rst := []) k_X3_begin l_X8_73 i_X3_begin s_X3_begin rfl o4 dX8_init_153 rfl (Nat.le_of_ble_eq_true rfl) hbc hbs hC rfl rfl kk
theorem bX8_init_156 {d mc ms : Nat} {al : Bool} {bc bs : Nat} {Γ : am_G} {I : am_I} {L : am_L} {Q : am_Q} {v0 : Nat} {v1 : Int32} {r2 : Nat} {I' : am_I} {L' : am_L} {mc' : Nat} {ms' : Nat} {r : Int32} (o1 : am_ob Γ v0 8) (g3 : Γ.2.2 v0 3 = some r2) (o4 : am_ob Γ r2 3) (hbc : mc' ≤ bc) (hbs : ms' ≤ bs) (hC : am_E m_X3_readSetup d mc' ms' [.ref r2] Γ I L (.inl (some (.int r))) I' L') (kk : am_W m_X8_init (d + 1) mc ms al (bc - mc') (bs - ms') 163 [(0, .ref v0), (1, .int v1)] [.int r] Γ I' L' Q) : am_W m_X8_init (d + 1) mc ms al bc bs 156 [(0, .ref v0), (1, .int v1)] [] Γ I L Q := by
  refine aw_aload_n dX8_init_156 rfl ?_
  refine aw_getR dX8_init_157 f_X8_31 o1 rfl g3 ?_
  exact aw_askV (as := []) (rst := []) k_X3_readSetup l_X8_76 i_X3_readSetup s_X3_readSetup rfl o4 dX8_init_160 rfl (Nat.le_of_ble_eq_true rfl) hbc hbs hC rfl rfl kk
theorem bX8_init_163 {d mc ms : Nat} {al : Bool} {bc bs : Nat} {Γ : am_G} {I : am_I} {L : am_L} {Q : am_Q} {v0 : Nat} {v1 : Int32} {w0 : Int32} {r2 : Nat} {r5 : Nat} {r7 : Nat} {I' : am_I} {L' : am_L} {mc' : Nat} {ms' : Nat} (o1 : am_ob Γ v0 8) (g3 : Γ.2.2 v0 3 = some r2) (o4 : am_ob Γ r2 3) (g6 : Γ.2.2 v0 1 = some r5) (g8 : Γ.2.2 v0 2 = some r7) (o9 : am_ob Γ r5 5) (hbc : mc' ≤ bc) (hbs : ms' ≤ bs) (hC : am_E m_X5_copyFrom d mc' ms' [.ref r5, .ref r7] Γ (am_u I r2 1 0) L (.inl none) I' L') (kk : am_W m_X8_init (d + 1) mc ms al (bc - mc') (bs - ms') 183 [(0, .ref v0), (1, .int v1)] [] Γ I' L' Q) : am_W m_X8_init (d + 1) mc ms al bc bs 163 [(0, .ref v0), (1, .int v1)] [.int w0] Γ I L Q := by
  refine aw_pop dX8_init_163 rfl ?_
  refine aw_aload_n dX8_init_164 rfl ?_
  refine aw_getR dX8_init_165 f_X8_31 o1 rfl g3 ?_
  refine aw_iconst dX8_init_168 ci_0 ?_
  refine aw_putI dX8_init_169 pf_X8_80 o4 rfl ?_
  refine aw_aload_n dX8_init_172 rfl ?_
  refine aw_getR dX8_init_173 f_X8_19 o1 rfl g6 ?_
  refine aw_aload_n dX8_init_176 rfl ?_
  refine aw_getR dX8_init_177 f_X8_23 o1 rfl g8 ?_
  exact aw_askV (as := [.ref r7]) (rst := []) k_X5_copyFrom l_X8_83 i_X5_copyFrom s_X5_copyFrom rfl o9 dX8_init_180 rfl (Nat.le_of_ble_eq_true rfl) hbc hbs hC rfl rfl kk
theorem bX8_init_183 {d mc ms : Nat} {al : Bool} {bc bs : Nat} {Γ : am_G} {I : am_I} {L : am_L} {Q : am_Q} {v0 : Nat} {v1 : Int32} (hq : Q (.inl none) Γ I L) : am_W m_X8_init d mc ms al bc bs 183 [(0, .ref v0), (1, .int v1)] [] Γ I L Q := by
  exact aw_vret dX8_init_183 rfl hq
theorem dX8_append_0 : decode cX8_append 0 = .ok (.aload_n 0, 1) := by decide +kernel
theorem dX8_append_1 : decode cX8_append 1 = .ok (.getfield 31, 3) := by decide +kernel
theorem dX8_append_4 : decode cX8_append 4 = .ok (.getfield 80, 3) := by decide +kernel
theorem dX8_append_7 : decode cX8_append 7 = .ok (.bipush 20, 2) := by decide +kernel
theorem dX8_append_9 : decode cX8_append 9 = .ok (.iadd, 1) := by decide +kernel
theorem dX8_append_10 : decode cX8_append 10 = .ok (.sipush 700, 3) := by decide +kernel
theorem dX8_append_13 : decode cX8_append 13 = .ok (.if_icmp .le 5, 3) := by decide +kernel
theorem dX8_append_16 : decode cX8_append 16 = .ok (.iconst (-1), 1) := by decide +kernel
theorem dX8_append_17 : decode cX8_append 17 = .ok (.ireturn, 1) := by decide +kernel
theorem dX8_append_18 : decode cX8_append 18 = .ok (.aload_n 0, 1) := by decide +kernel
theorem dX8_append_19 : decode cX8_append 19 = .ok (.getfield 31, 3) := by decide +kernel
theorem dX8_append_22 : decode cX8_append 22 = .ok (.iload_n 1, 1) := by decide +kernel
theorem dX8_append_23 : decode cX8_append 23 = .ok (.invokevirtual 87, 3) := by decide +kernel
theorem dX8_append_26 : decode cX8_append 26 = .ok (.aload_n 0, 1) := by decide +kernel
theorem dX8_append_27 : decode cX8_append 27 = .ok (.getfield 31, 3) := by decide +kernel
theorem dX8_append_30 : decode cX8_append 30 = .ok (.iload_n 2, 1) := by decide +kernel
theorem dX8_append_31 : decode cX8_append 31 = .ok (.invokevirtual 87, 3) := by decide +kernel
theorem dX8_append_34 : decode cX8_append 34 = .ok (.aload_n 0, 1) := by decide +kernel
theorem dX8_append_35 : decode cX8_append 35 = .ok (.getfield 31, 3) := by decide +kernel
theorem dX8_append_38 : decode cX8_append 38 = .ok (.iload_n 3, 1) := by decide +kernel
theorem dX8_append_39 : decode cX8_append 39 = .ok (.invokevirtual 87, 3) := by decide +kernel
theorem dX8_append_42 : decode cX8_append 42 = .ok (.aload_n 0, 1) := by decide +kernel
theorem dX8_append_43 : decode cX8_append 43 = .ok (.getfield 31, 3) := by decide +kernel
theorem dX8_append_46 : decode cX8_append 46 = .ok (.iload 4, 2) := by decide +kernel
theorem dX8_append_48 : decode cX8_append 48 = .ok (.invokevirtual 87, 3) := by decide +kernel
theorem dX8_append_51 : decode cX8_append 51 = .ok (.aload_n 0, 1) := by decide +kernel
theorem dX8_append_52 : decode cX8_append 52 = .ok (.getfield 31, 3) := by decide +kernel
theorem dX8_append_55 : decode cX8_append 55 = .ok (.iload 5, 2) := by decide +kernel
theorem dX8_append_57 : decode cX8_append 57 = .ok (.invokevirtual 87, 3) := by decide +kernel
theorem dX8_append_60 : decode cX8_append 60 = .ok (.aload_n 0, 1) := by decide +kernel
theorem dX8_append_61 : decode cX8_append 61 = .ok (.getfield 31, 3) := by decide +kernel
theorem dX8_append_64 : decode cX8_append 64 = .ok (.getfield 80, 3) := by decide +kernel
theorem dX8_append_67 : decode cX8_append 67 = .ok (.ireturn, 1) := by decide +kernel
theorem bX8_append_0 {d mc ms : Nat} {al : Bool} {bc bs : Nat} {Γ : am_G} {I : am_I} {L : am_L} {Q : am_Q} {v0 : Nat} {v1 : Int32} {v2 : Int32} {v3 : Int32} {v4 : Int32} {v5 : Int32} {r2 : Nat} (o1 : am_ob Γ v0 8) (g3 : Γ.2.2 v0 3 = some r2) (o4 : am_ob Γ r2 3) (kt : ((I r2 1) + 20) ≤ 700 → am_W m_X8_append d mc ms al bc bs 18 [(0, .ref v0), (1, .int v1), (2, .int v2), (3, .int v3), (4, .int v4), (5, .int v5)] [] Γ I L Q) (kf : ¬ ((I r2 1) + 20) ≤ 700 → am_W m_X8_append d mc ms al bc bs 16 [(0, .ref v0), (1, .int v1), (2, .int v2), (3, .int v3), (4, .int v4), (5, .int v5)] [] Γ I L Q) : am_W m_X8_append d mc ms al bc bs 0 [(0, .ref v0), (1, .int v1), (2, .int v2), (3, .int v3), (4, .int v4), (5, .int v5)] [] Γ I L Q := by
  refine aw_aload_n dX8_append_0 rfl ?_
  refine aw_getR dX8_append_1 f_X8_31 o1 rfl g3 ?_
  refine aw_getI dX8_append_4 f_X8_80 o4 rfl ?_
  refine aw_bipush dX8_append_7 cb_20 ?_
  refine aw_iadd dX8_append_9 ?_
  refine aw_sipush dX8_append_10 cs_700 ?_
  exact aw_icmp_le dX8_append_13 (by decide) kt kf
theorem bX8_append_16 {d mc ms : Nat} {al : Bool} {bc bs : Nat} {Γ : am_G} {I : am_I} {L : am_L} {Q : am_Q} {v0 : Nat} {v1 : Int32} {v2 : Int32} {v3 : Int32} {v4 : Int32} {v5 : Int32} (hq : Q (.inl (some (.int (-1)))) Γ I L) : am_W m_X8_append d mc ms al bc bs 16 [(0, .ref v0), (1, .int v1), (2, .int v2), (3, .int v3), (4, .int v4), (5, .int v5)] [] Γ I L Q := by
  refine aw_iconst dX8_append_16 ci_m1 ?_
  exact aw_iret dX8_append_17 rfl hq
theorem bX8_append_18 {d mc ms : Nat} {al : Bool} {bc bs : Nat} {Γ : am_G} {I : am_I} {L : am_L} {Q : am_Q} {v0 : Nat} {v1 : Int32} {v2 : Int32} {v3 : Int32} {v4 : Int32} {v5 : Int32} {r2 : Nat} {I' : am_I} {L' : am_L} {mc' : Nat} {ms' : Nat} (o1 : am_ob Γ v0 8) (g3 : Γ.2.2 v0 3 = some r2) (o4 : am_ob Γ r2 3) (hbc : mc' ≤ bc) (hbs : ms' ≤ bs) (hC : am_E m_X3_putInt d mc' ms' [.ref r2, .int v1] Γ I L (.inl none) I' L') (kk : am_W m_X8_append (d + 1) mc ms al (bc - mc') (bs - ms') 26 [(0, .ref v0), (1, .int v1), (2, .int v2), (3, .int v3), (4, .int v4), (5, .int v5)] [] Γ I' L' Q) : am_W m_X8_append (d + 1) mc ms al bc bs 18 [(0, .ref v0), (1, .int v1), (2, .int v2), (3, .int v3), (4, .int v4), (5, .int v5)] [] Γ I L Q := by
  refine aw_aload_n dX8_append_18 rfl ?_
  refine aw_getR dX8_append_19 f_X8_31 o1 rfl g3 ?_
  refine aw_iload_n dX8_append_22 rfl ?_
  exact aw_askV (as := [.int v1]) (rst := []) k_X3_putInt l_X8_87 i_X3_putInt s_X3_putInt rfl o4 dX8_append_23 rfl (Nat.le_of_ble_eq_true rfl) hbc hbs hC rfl rfl kk
theorem bX8_append_26 {d mc ms : Nat} {al : Bool} {bc bs : Nat} {Γ : am_G} {I : am_I} {L : am_L} {Q : am_Q} {v0 : Nat} {v1 : Int32} {v2 : Int32} {v3 : Int32} {v4 : Int32} {v5 : Int32} {r2 : Nat} {I' : am_I} {L' : am_L} {mc' : Nat} {ms' : Nat} (o1 : am_ob Γ v0 8) (g3 : Γ.2.2 v0 3 = some r2) (o4 : am_ob Γ r2 3) (hbc : mc' ≤ bc) (hbs : ms' ≤ bs) (hC : am_E m_X3_putInt d mc' ms' [.ref r2, .int v2] Γ I L (.inl none) I' L') (kk : am_W m_X8_append (d + 1) mc ms al (bc - mc') (bs - ms') 34 [(0, .ref v0), (1, .int v1), (2, .int v2), (3, .int v3), (4, .int v4), (5, .int v5)] [] Γ I' L' Q) : am_W m_X8_append (d + 1) mc ms al bc bs 26 [(0, .ref v0), (1, .int v1), (2, .int v2), (3, .int v3), (4, .int v4), (5, .int v5)] [] Γ I L Q := by
  refine aw_aload_n dX8_append_26 rfl ?_
  refine aw_getR dX8_append_27 f_X8_31 o1 rfl g3 ?_
  refine aw_iload_n dX8_append_30 rfl ?_
  exact aw_askV (as := [.int v2]) (rst := []) k_X3_putInt l_X8_87 i_X3_putInt s_X3_putInt rfl o4 dX8_append_31 rfl (Nat.le_of_ble_eq_true rfl) hbc hbs hC rfl rfl kk
theorem bX8_append_34 {d mc ms : Nat} {al : Bool} {bc bs : Nat} {Γ : am_G} {I : am_I} {L : am_L} {Q : am_Q} {v0 : Nat} {v1 : Int32} {v2 : Int32} {v3 : Int32} {v4 : Int32} {v5 : Int32} {r2 : Nat} {I' : am_I} {L' : am_L} {mc' : Nat} {ms' : Nat} (o1 : am_ob Γ v0 8) (g3 : Γ.2.2 v0 3 = some r2) (o4 : am_ob Γ r2 3) (hbc : mc' ≤ bc) (hbs : ms' ≤ bs) (hC : am_E m_X3_putInt d mc' ms' [.ref r2, .int v3] Γ I L (.inl none) I' L') (kk : am_W m_X8_append (d + 1) mc ms al (bc - mc') (bs - ms') 42 [(0, .ref v0), (1, .int v1), (2, .int v2), (3, .int v3), (4, .int v4), (5, .int v5)] [] Γ I' L' Q) : am_W m_X8_append (d + 1) mc ms al bc bs 34 [(0, .ref v0), (1, .int v1), (2, .int v2), (3, .int v3), (4, .int v4), (5, .int v5)] [] Γ I L Q := by
  refine aw_aload_n dX8_append_34 rfl ?_
  refine aw_getR dX8_append_35 f_X8_31 o1 rfl g3 ?_
  refine aw_iload_n dX8_append_38 rfl ?_
  exact aw_askV (as := [.int v3]) (rst := []) k_X3_putInt l_X8_87 i_X3_putInt s_X3_putInt rfl o4 dX8_append_39 rfl (Nat.le_of_ble_eq_true rfl) hbc hbs hC rfl rfl kk
theorem bX8_append_42 {d mc ms : Nat} {al : Bool} {bc bs : Nat} {Γ : am_G} {I : am_I} {L : am_L} {Q : am_Q} {v0 : Nat} {v1 : Int32} {v2 : Int32} {v3 : Int32} {v4 : Int32} {v5 : Int32} {r2 : Nat} {I' : am_I} {L' : am_L} {mc' : Nat} {ms' : Nat} (o1 : am_ob Γ v0 8) (g3 : Γ.2.2 v0 3 = some r2) (o4 : am_ob Γ r2 3) (hbc : mc' ≤ bc) (hbs : ms' ≤ bs) (hC : am_E m_X3_putInt d mc' ms' [.ref r2, .int v4] Γ I L (.inl none) I' L') (kk : am_W m_X8_append (d + 1) mc ms al (bc - mc') (bs - ms') 51 [(0, .ref v0), (1, .int v1), (2, .int v2), (3, .int v3), (4, .int v4), (5, .int v5)] [] Γ I' L' Q) : am_W m_X8_append (d + 1) mc ms al bc bs 42 [(0, .ref v0), (1, .int v1), (2, .int v2), (3, .int v3), (4, .int v4), (5, .int v5)] [] Γ I L Q := by
  refine aw_aload_n dX8_append_42 rfl ?_
  refine aw_getR dX8_append_43 f_X8_31 o1 rfl g3 ?_
  refine aw_iload dX8_append_46 rfl ?_
  exact aw_askV (as := [.int v4]) (rst := []) k_X3_putInt l_X8_87 i_X3_putInt s_X3_putInt rfl o4 dX8_append_48 rfl (Nat.le_of_ble_eq_true rfl) hbc hbs hC rfl rfl kk
theorem bX8_append_51 {d mc ms : Nat} {al : Bool} {bc bs : Nat} {Γ : am_G} {I : am_I} {L : am_L} {Q : am_Q} {v0 : Nat} {v1 : Int32} {v2 : Int32} {v3 : Int32} {v4 : Int32} {v5 : Int32} {r2 : Nat} {I' : am_I} {L' : am_L} {mc' : Nat} {ms' : Nat} (o1 : am_ob Γ v0 8) (g3 : Γ.2.2 v0 3 = some r2) (o4 : am_ob Γ r2 3) (hbc : mc' ≤ bc) (hbs : ms' ≤ bs) (hC : am_E m_X3_putInt d mc' ms' [.ref r2, .int v5] Γ I L (.inl none) I' L') (kk : am_W m_X8_append (d + 1) mc ms al (bc - mc') (bs - ms') 60 [(0, .ref v0), (1, .int v1), (2, .int v2), (3, .int v3), (4, .int v4), (5, .int v5)] [] Γ I' L' Q) : am_W m_X8_append (d + 1) mc ms al bc bs 51 [(0, .ref v0), (1, .int v1), (2, .int v2), (3, .int v3), (4, .int v4), (5, .int v5)] [] Γ I L Q := by
  refine aw_aload_n dX8_append_51 rfl ?_
  refine aw_getR dX8_append_52 f_X8_31 o1 rfl g3 ?_
  refine aw_iload dX8_append_55 rfl ?_
  exact aw_askV (as := [.int v5]) (rst := []) k_X3_putInt l_X8_87 i_X3_putInt s_X3_putInt rfl o4 dX8_append_57 rfl (Nat.le_of_ble_eq_true rfl) hbc hbs hC rfl rfl kk
theorem bX8_append_60 {d mc ms : Nat} {al : Bool} {bc bs : Nat} {Γ : am_G} {I : am_I} {L : am_L} {Q : am_Q} {v0 : Nat} {v1 : Int32} {v2 : Int32} {v3 : Int32} {v4 : Int32} {v5 : Int32} {r2 : Nat} (o1 : am_ob Γ v0 8) (g3 : Γ.2.2 v0 3 = some r2) (o4 : am_ob Γ r2 3) (hq : Q (.inl (some (.int (I r2 1)))) Γ I L) : am_W m_X8_append d mc ms al bc bs 60 [(0, .ref v0), (1, .int v1), (2, .int v2), (3, .int v3), (4, .int v4), (5, .int v5)] [] Γ I L Q := by
  refine aw_aload_n dX8_append_60 rfl ?_
  refine aw_getR dX8_append_61 f_X8_31 o1 rfl g3 ?_
  refine aw_getI dX8_append_64 f_X8_80 o4 rfl ?_
  exact aw_iret dX8_append_67 rfl hq
theorem dX8_truncateInput_0 : decode cX8_truncateInput 0 = .ok (.iload_n 1, 1) := by decide +kernel
theorem dX8_truncateInput_1 : decode cX8_truncateInput 1 = .ok (.iconst 0, 1) := by decide +kernel
theorem dX8_truncateInput_2 : decode cX8_truncateInput 2 = .ok (.aload_n 0, 1) := by decide +kernel
theorem dX8_truncateInput_3 : decode cX8_truncateInput 3 = .ok (.getfield 31, 3) := by decide +kernel
theorem dX8_truncateInput_6 : decode cX8_truncateInput 6 = .ok (.getfield 80, 3) := by decide +kernel
theorem dX8_truncateInput_9 : decode cX8_truncateInput 9 = .ok (.invokestatic 90, 3) := by decide +kernel
theorem dX8_truncateInput_12 : decode cX8_truncateInput 12 = .ok (.aload_n 0, 1) := by decide +kernel
theorem dX8_truncateInput_13 : decode cX8_truncateInput 13 = .ok (.getfield 31, 3) := by decide +kernel
theorem dX8_truncateInput_16 : decode cX8_truncateInput 16 = .ok (.iload_n 1, 1) := by decide +kernel
theorem dX8_truncateInput_17 : decode cX8_truncateInput 17 = .ok (.putfield 80, 3) := by decide +kernel
theorem dX8_truncateInput_20 : decode cX8_truncateInput 20 = .ok (.iload_n 1, 1) := by decide +kernel
theorem dX8_truncateInput_21 : decode cX8_truncateInput 21 = .ok (.ireturn, 1) := by decide +kernel
theorem bX8_truncateInput_0 {d mc ms : Nat} {al : Bool} {bc bs : Nat} {Γ : am_G} {I : am_I} {L : am_L} {Q : am_Q} {v0 : Nat} {v1 : Int32} {r2 : Nat} {I' : am_I} {L' : am_L} {mc' : Nat} {ms' : Nat} (o1 : am_ob Γ v0 8) (g3 : Γ.2.2 v0 3 = some r2) (o4 : am_ob Γ r2 3) (hbc : mc' ≤ bc) (hbs : ms' ≤ bs) (hC : am_E m_X8_requireRange d mc' ms' [.int v1, .int 0, .int (I r2 1)] Γ I L (.inl none) I' L') (kk : am_W m_X8_truncateInput (d + 1) mc ms al (bc - mc') (bs - ms') 12 [(0, .ref v0), (1, .int v1)] [] Γ I' L' Q) : am_W m_X8_truncateInput (d + 1) mc ms al bc bs 0 [(0, .ref v0), (1, .int v1)] [] Γ I L Q := by
  refine aw_iload_n dX8_truncateInput_0 rfl ?_
  refine aw_iconst dX8_truncateInput_1 ci_0 ?_
  refine aw_aload_n dX8_truncateInput_2 rfl ?_
  refine aw_getR dX8_truncateInput_3 f_X8_31 o1 rfl g3 ?_
  refine aw_getI dX8_truncateInput_6 f_X8_80 o4 rfl ?_
  exact aw_askS (as := [.int v1, .int 0, .int (I r2 1)]) (rst := []) k_X8_requireRange l_X8_90 t_X8_requireRange dX8_truncateInput_9 rfl (Nat.le_of_ble_eq_true rfl) hbc hbs hC rfl rfl kk
theorem bX8_truncateInput_0x {d mc ms : Nat} {al : Bool} {bc bs : Nat} {Γ : am_G} {I : am_I} {L : am_L} {Q : am_Q} {v0 : Nat} {v1 : Int32} {r2 : Nat} {I' : am_I} {L' : am_L} {mc' : Nat} {ms' : Nat} {E : String} (o1 : am_ob Γ v0 8) (g3 : Γ.2.2 v0 3 = some r2) (o4 : am_ob Γ r2 3) (hbc : mc' ≤ bc) (hbs : ms' ≤ bs) (hC : am_E m_X8_requireRange d mc' ms' [.int v1, .int 0, .int (I r2 1)] Γ I L (.inr E) I' L') (hq : Q (.inr E) Γ I' L') : am_W m_X8_truncateInput (d + 1) mc ms al bc bs 0 [(0, .ref v0), (1, .int v1)] [] Γ I L Q := by
  refine aw_iload_n dX8_truncateInput_0 rfl ?_
  refine aw_iconst dX8_truncateInput_1 ci_0 ?_
  refine aw_aload_n dX8_truncateInput_2 rfl ?_
  refine aw_getR dX8_truncateInput_3 f_X8_31 o1 rfl g3 ?_
  refine aw_getI dX8_truncateInput_6 f_X8_80 o4 rfl ?_
  exact aw_fallS (as := [.int v1, .int 0, .int (I r2 1)]) (rst := []) k_X8_requireRange l_X8_90 t_X8_requireRange dX8_truncateInput_9 rfl (Nat.le_of_ble_eq_true rfl) hbc hbs rfl hC rfl hq
theorem bX8_truncateInput_12 {d mc ms : Nat} {al : Bool} {bc bs : Nat} {Γ : am_G} {I : am_I} {L : am_L} {Q : am_Q} {v0 : Nat} {v1 : Int32} {r2 : Nat} (o1 : am_ob Γ v0 8) (g3 : Γ.2.2 v0 3 = some r2) (o4 : am_ob Γ r2 3) (hq : Q (.inl (some (.int v1))) Γ (am_u I r2 1 v1) L) : am_W m_X8_truncateInput d mc ms al bc bs 12 [(0, .ref v0), (1, .int v1)] [] Γ I L Q := by
  refine aw_aload_n dX8_truncateInput_12 rfl ?_
  refine aw_getR dX8_truncateInput_13 f_X8_31 o1 rfl g3 ?_
  refine aw_iload_n dX8_truncateInput_16 rfl ?_
  refine aw_putI dX8_truncateInput_17 pf_X8_80 o4 rfl ?_
  refine aw_iload_n dX8_truncateInput_20 rfl ?_
  exact aw_iret dX8_truncateInput_21 rfl hq
theorem dX8_load_0 : decode cX8_load 0 = .ok (.aload_n 0, 1) := by decide +kernel
theorem dX8_load_1 : decode cX8_load 1 = .ok (.getfield 23, 3) := by decide +kernel
theorem dX8_load_4 : decode cX8_load 4 = .ok (.invokevirtual 94, 3) := by decide +kernel
theorem dX8_load_7 : decode cX8_load 7 = .ok (.aload_n 0, 1) := by decide +kernel
theorem dX8_load_8 : decode cX8_load 8 = .ok (.getfield 31, 3) := by decide +kernel
theorem dX8_load_11 : decode cX8_load 11 = .ok (.invokevirtual 73, 3) := by decide +kernel
theorem dX8_load_14 : decode cX8_load 14 = .ok (.aload_n 0, 1) := by decide +kernel
theorem dX8_load_15 : decode cX8_load 15 = .ok (.getfield 31, 3) := by decide +kernel
theorem dX8_load_18 : decode cX8_load 18 = .ok (.invokevirtual 76, 3) := by decide +kernel
theorem dX8_load_21 : decode cX8_load 21 = .ok (.ifCond .eq 17, 3) := by decide +kernel
theorem dX8_load_24 : decode cX8_load 24 = .ok (.aload_n 0, 1) := by decide +kernel
theorem dX8_load_25 : decode cX8_load 25 = .ok (.getfield 31, 3) := by decide +kernel
theorem dX8_load_28 : decode cX8_load 28 = .ok (.invokevirtual 97, 3) := by decide +kernel
theorem dX8_load_31 : decode cX8_load 31 = .ok (.ifCond .eq 7, 3) := by decide +kernel
theorem dX8_load_34 : decode cX8_load 34 = .ok (.iconst 1, 1) := by decide +kernel
theorem dX8_load_35 : decode cX8_load 35 = .ok (.goto 4, 3) := by decide +kernel
theorem dX8_load_38 : decode cX8_load 38 = .ok (.iconst 0, 1) := by decide +kernel
theorem dX8_load_39 : decode cX8_load 39 = .ok (.istore_n 1, 1) := by decide +kernel
theorem dX8_load_40 : decode cX8_load 40 = .ok (.aload_n 0, 1) := by decide +kernel
theorem dX8_load_41 : decode cX8_load 41 = .ok (.getfield 31, 3) := by decide +kernel
theorem dX8_load_44 : decode cX8_load 44 = .ok (.iconst 0, 1) := by decide +kernel
theorem dX8_load_45 : decode cX8_load 45 = .ok (.putfield 80, 3) := by decide +kernel
theorem dX8_load_48 : decode cX8_load 48 = .ok (.iload_n 1, 1) := by decide +kernel
theorem dX8_load_49 : decode cX8_load 49 = .ok (.ifCond .ne 5, 3) := by decide +kernel
theorem dX8_load_52 : decode cX8_load 52 = .ok (.iconst (-1), 1) := by decide +kernel
theorem dX8_load_53 : decode cX8_load 53 = .ok (.ireturn, 1) := by decide +kernel
theorem dX8_load_54 : decode cX8_load 54 = .ok (.aload_n 0, 1) := by decide +kernel
theorem dX8_load_55 : decode cX8_load 55 = .ok (.invokevirtual 100, 3) := by decide +kernel
theorem dX8_load_58 : decode cX8_load 58 = .ok (.aload_n 0, 1) := by decide +kernel
theorem dX8_load_59 : decode cX8_load 59 = .ok (.getfield 19, 3) := by decide +kernel
theorem dX8_load_62 : decode cX8_load 62 = .ok (.getfield 103, 3) := by decide +kernel
theorem dX8_load_65 : decode cX8_load 65 = .ok (.ireturn, 1) := by decide +kernel
theorem bX8_load_0 {d mc ms : Nat} {al : Bool} {bc bs : Nat} {Γ : am_G} {I : am_I} {L : am_L} {Q : am_Q} {v0 : Nat} {r2 : Nat} {I' : am_I} {L' : am_L} {mc' : Nat} {ms' : Nat} (o1 : am_ob Γ v0 8) (g3 : Γ.2.2 v0 2 = some r2) (o4 : am_ob Γ r2 5) (hbc : mc' ≤ bc) (hbs : ms' ≤ bs) (hC : am_E m_X5_empty d mc' ms' [.ref r2] Γ I L (.inl none) I' L') (kk : am_W m_X8_load (d + 1) mc ms al (bc - mc') (bs - ms') 7 [(0, .ref v0)] [] Γ I' L' Q) : am_W m_X8_load (d + 1) mc ms al bc bs 0 [(0, .ref v0)] [] Γ I L Q := by
  refine aw_aload_n dX8_load_0 rfl ?_
  refine aw_getR dX8_load_1 f_X8_23 o1 rfl g3 ?_
  exact aw_askV (as := []) (rst := []) k_X5_empty l_X8_94 i_X5_empty s_X5_empty rfl o4 dX8_load_4 rfl (Nat.le_of_ble_eq_true rfl) hbc hbs hC rfl rfl kk
theorem bX8_load_7 {d mc ms : Nat} {al : Bool} {bc bs : Nat} {Γ : am_G} {I : am_I} {L : am_L} {Q : am_Q} {v0 : Nat} {r2 : Nat} {I' : am_I} {L' : am_L} {mc' : Nat} {ms' : Nat} (o1 : am_ob Γ v0 8) (g3 : Γ.2.2 v0 3 = some r2) (o4 : am_ob Γ r2 3) (hbc : mc' ≤ bc) (hbs : ms' ≤ bs) (hC : am_E m_X3_begin d mc' ms' [.ref r2] Γ I L (.inl none) I' L') (kk : am_W m_X8_load (d + 1) mc ms al (bc - mc') (bs - ms') 14 [(0, .ref v0)] [] Γ I' L' Q) : am_W m_X8_load (d + 1) mc ms al bc bs 7 [(0, .ref v0)] [] Γ I L Q := by
  refine aw_aload_n dX8_load_7 rfl ?_
  refine aw_getR dX8_load_8 f_X8_31 o1 rfl g3 ?_
  exact aw_askV (as := []) (rst := []) k_X3_begin l_X8_73 i_X3_begin s_X3_begin rfl o4 dX8_load_11 rfl (Nat.le_of_ble_eq_true rfl) hbc hbs hC rfl rfl kk
theorem bX8_load_14 {d mc ms : Nat} {al : Bool} {bc bs : Nat} {Γ : am_G} {I : am_I} {L : am_L} {Q : am_Q} {v0 : Nat} {r2 : Nat} {I' : am_I} {L' : am_L} {mc' : Nat} {ms' : Nat} {r : Int32} (o1 : am_ob Γ v0 8) (g3 : Γ.2.2 v0 3 = some r2) (o4 : am_ob Γ r2 3) (hbc : mc' ≤ bc) (hbs : ms' ≤ bs) (hC : am_E m_X3_readSetup d mc' ms' [.ref r2] Γ I L (.inl (some (.int r))) I' L') (kk : am_W m_X8_load (d + 1) mc ms al (bc - mc') (bs - ms') 21 [(0, .ref v0)] [.int r] Γ I' L' Q) : am_W m_X8_load (d + 1) mc ms al bc bs 14 [(0, .ref v0)] [] Γ I L Q := by
  refine aw_aload_n dX8_load_14 rfl ?_
  refine aw_getR dX8_load_15 f_X8_31 o1 rfl g3 ?_
  exact aw_askV (as := []) (rst := []) k_X3_readSetup l_X8_76 i_X3_readSetup s_X3_readSetup rfl o4 dX8_load_18 rfl (Nat.le_of_ble_eq_true rfl) hbc hbs hC rfl rfl kk
theorem bX8_load_21 {d mc ms : Nat} {al : Bool} {bc bs : Nat} {Γ : am_G} {I : am_I} {L : am_L} {Q : am_Q} {v0 : Nat} {w0 : Int32} (kt : w0 = 0 → am_W m_X8_load d mc ms al bc bs 38 [(0, .ref v0)] [] Γ I L Q) (kf : ¬ w0 = 0 → am_W m_X8_load d mc ms al bc bs 24 [(0, .ref v0)] [] Γ I L Q) : am_W m_X8_load d mc ms al bc bs 21 [(0, .ref v0)] [.int w0] Γ I L Q := by
  exact aw_if_eq dX8_load_21 (by decide) kt kf
theorem bX8_load_24 {d mc ms : Nat} {al : Bool} {bc bs : Nat} {Γ : am_G} {I : am_I} {L : am_L} {Q : am_Q} {v0 : Nat} {r2 : Nat} {I' : am_I} {L' : am_L} {mc' : Nat} {ms' : Nat} {r : Int32} (o1 : am_ob Γ v0 8) (g3 : Γ.2.2 v0 3 = some r2) (o4 : am_ob Γ r2 3) (hbc : mc' ≤ bc) (hbs : ms' ≤ bs) (hC : am_E m_X3_readCommands d mc' ms' [.ref r2] Γ I L (.inl (some (.int r))) I' L') (kk : am_W m_X8_load (d + 1) mc ms al (bc - mc') (bs - ms') 31 [(0, .ref v0)] [.int r] Γ I' L' Q) : am_W m_X8_load (d + 1) mc ms al bc bs 24 [(0, .ref v0)] [] Γ I L Q := by
  refine aw_aload_n dX8_load_24 rfl ?_
  refine aw_getR dX8_load_25 f_X8_31 o1 rfl g3 ?_
  exact aw_askV (as := []) (rst := []) k_X3_readCommands l_X8_97 i_X3_readCommands s_X3_readCommands rfl o4 dX8_load_28 rfl (Nat.le_of_ble_eq_true rfl) hbc hbs hC rfl rfl kk
theorem bX8_load_31 {d mc ms : Nat} {al : Bool} {bc bs : Nat} {Γ : am_G} {I : am_I} {L : am_L} {Q : am_Q} {v0 : Nat} {w0 : Int32} (kt : w0 = 0 → am_W m_X8_load d mc ms al bc bs 38 [(0, .ref v0)] [] Γ I L Q) (kf : ¬ w0 = 0 → am_W m_X8_load d mc ms al bc bs 34 [(0, .ref v0)] [] Γ I L Q) : am_W m_X8_load d mc ms al bc bs 31 [(0, .ref v0)] [.int w0] Γ I L Q := by
  exact aw_if_eq dX8_load_31 (by decide) kt kf
theorem bX8_load_34 {d mc ms : Nat} {al : Bool} {bc bs : Nat} {Γ : am_G} {I : am_I} {L : am_L} {Q : am_Q} {v0 : Nat} (kk : am_W m_X8_load d mc ms al bc bs 39 [(0, .ref v0)] [.int 1] Γ I L Q) : am_W m_X8_load d mc ms al bc bs 34 [(0, .ref v0)] [] Γ I L Q := by
  refine aw_iconst dX8_load_34 ci_1 ?_
  exact aw_goto dX8_load_35 (by decide) kk
theorem bX8_load_38 {d mc ms : Nat} {al : Bool} {bc bs : Nat} {Γ : am_G} {I : am_I} {L : am_L} {Q : am_Q} {v0 : Nat} (kk : am_W m_X8_load d mc ms al bc bs 39 [(0, .ref v0)] [.int 0] Γ I L Q) : am_W m_X8_load d mc ms al bc bs 38 [(0, .ref v0)] [] Γ I L Q := by
  refine aw_iconst dX8_load_38 ci_0 ?_
  exact kk
theorem bX8_load_39 {d mc ms : Nat} {al : Bool} {bc bs : Nat} {Γ : am_G} {I : am_I} {L : am_L} {Q : am_Q} {v0 : Nat} {w0 : Int32} {r2 : Nat} (o1 : am_ob Γ v0 8) (g3 : Γ.2.2 v0 3 = some r2) (o4 : am_ob Γ r2 3) (kt : ¬ w0 = 0 → am_W m_X8_load d mc ms al bc bs 54 [(0, .ref v0), (1, .int w0)] [] Γ (am_u I r2 1 0) L Q) (kf : w0 = 0 → am_W m_X8_load d mc ms al bc bs 52 [(0, .ref v0), (1, .int w0)] [] Γ (am_u I r2 1 0) L Q) : am_W m_X8_load d mc ms al bc bs 39 [(0, .ref v0)] [.int w0] Γ I L Q := by
  refine aw_istore_n (ls' := [(0, .ref v0), (1, .int w0)]) dX8_load_39 (by decide) rfl ?_
  refine aw_aload_n dX8_load_40 rfl ?_
  refine aw_getR dX8_load_41 f_X8_31 o1 rfl g3 ?_
  refine aw_iconst dX8_load_44 ci_0 ?_
  refine aw_putI dX8_load_45 pf_X8_80 o4 rfl ?_
  refine aw_iload_n dX8_load_48 rfl ?_
  exact aw_if_ne dX8_load_49 (by decide) kt kf
theorem bX8_load_52 {d mc ms : Nat} {al : Bool} {bc bs : Nat} {Γ : am_G} {I : am_I} {L : am_L} {Q : am_Q} {v0 : Nat} {v1 : Int32} (hq : Q (.inl (some (.int (-1)))) Γ I L) : am_W m_X8_load d mc ms al bc bs 52 [(0, .ref v0), (1, .int v1)] [] Γ I L Q := by
  refine aw_iconst dX8_load_52 ci_m1 ?_
  exact aw_iret dX8_load_53 rfl hq
theorem bX8_load_54 {d mc ms : Nat} {al : Bool} {bc bs : Nat} {Γ : am_G} {I : am_I} {L : am_L} {Q : am_Q} {v0 : Nat} {v1 : Int32} {I' : am_I} {L' : am_L} {mc' : Nat} {ms' : Nat} (o1 : am_ob Γ v0 8) (hbc : mc' ≤ bc) (hbs : ms' ≤ bs) (hC : am_E m_X8_acceptDraft d mc' ms' [.ref v0] Γ I L (.inl none) I' L') (kk : am_W m_X8_load (d + 1) mc ms al (bc - mc') (bs - ms') 58 [(0, .ref v0), (1, .int v1)] [] Γ I' L' Q) : am_W m_X8_load (d + 1) mc ms al bc bs 54 [(0, .ref v0), (1, .int v1)] [] Γ I L Q := by
  refine aw_aload_n dX8_load_54 rfl ?_
  exact aw_askV (as := []) (rst := []) k_X8_acceptDraft l_X8_100 i_X8_acceptDraft s_X8_acceptDraft rfl o1 dX8_load_55 rfl (Nat.le_of_ble_eq_true rfl) hbc hbs hC rfl rfl kk
theorem bX8_load_58 {d mc ms : Nat} {al : Bool} {bc bs : Nat} {Γ : am_G} {I : am_I} {L : am_L} {Q : am_Q} {v0 : Nat} {v1 : Int32} {r2 : Nat} (o1 : am_ob Γ v0 8) (g3 : Γ.2.2 v0 1 = some r2) (o4 : am_ob Γ r2 5) (hq : Q (.inl (some (.int (I r2 1)))) Γ I L) : am_W m_X8_load d mc ms al bc bs 58 [(0, .ref v0), (1, .int v1)] [] Γ I L Q := by
  refine aw_aload_n dX8_load_58 rfl ?_
  refine aw_getR dX8_load_59 f_X8_19 o1 rfl g3 ?_
  refine aw_getI dX8_load_62 f_X8_103 o4 rfl ?_
  exact aw_iret dX8_load_65 rfl hq
theorem dX8_passCarts_0 : decode cX8_passCarts 0 = .ok (.aload_n 0, 1) := by decide +kernel
theorem dX8_passCarts_1 : decode cX8_passCarts 1 = .ok (.iload_n 1, 1) := by decide +kernel
theorem dX8_passCarts_2 : decode cX8_passCarts 2 = .ok (.invokevirtual 115, 3) := by decide +kernel
theorem dX8_passCarts_5 : decode cX8_passCarts 5 = .ok (.aload_n 0, 1) := by decide +kernel
theorem dX8_passCarts_6 : decode cX8_passCarts 6 = .ok (.iload_n 2, 1) := by decide +kernel
theorem dX8_passCarts_7 : decode cX8_passCarts 7 = .ok (.invokevirtual 118, 3) := by decide +kernel
theorem dX8_passCarts_10 : decode cX8_passCarts 10 = .ok (.iload_n 3, 1) := by decide +kernel
theorem dX8_passCarts_11 : decode cX8_passCarts 11 = .ok (.iconst 1, 1) := by decide +kernel
theorem dX8_passCarts_12 : decode cX8_passCarts 12 = .ok (.sipush 999, 3) := by decide +kernel
theorem dX8_passCarts_15 : decode cX8_passCarts 15 = .ok (.invokestatic 90, 3) := by decide +kernel
theorem dX8_passCarts_18 : decode cX8_passCarts 18 = .ok (.aload_n 0, 1) := by decide +kernel
theorem dX8_passCarts_19 : decode cX8_passCarts 19 = .ok (.getfield 19, 3) := by decide +kernel
theorem dX8_passCarts_22 : decode cX8_passCarts 22 = .ok (.getfield 121, 3) := by decide +kernel
theorem dX8_passCarts_25 : decode cX8_passCarts 25 = .ok (.iload_n 1, 1) := by decide +kernel
theorem dX8_passCarts_26 : decode cX8_passCarts 26 = .ok (.aaload, 1) := by decide +kernel
theorem dX8_passCarts_27 : decode cX8_passCarts 27 = .ok (.aload_n 0, 1) := by decide +kernel
theorem dX8_passCarts_28 : decode cX8_passCarts 28 = .ok (.getfield 19, 3) := by decide +kernel
theorem dX8_passCarts_31 : decode cX8_passCarts 31 = .ok (.invokevirtual 125, 3) := by decide +kernel
theorem dX8_passCarts_34 : decode cX8_passCarts 34 = .ok (.invokevirtual 128, 3) := by decide +kernel
theorem dX8_passCarts_37 : decode cX8_passCarts 37 = .ok (.ifCond .ne 11, 3) := by decide +kernel
theorem dX8_passCarts_40 : decode cX8_passCarts 40 = .ok (.new 134, 3) := by decide +kernel
theorem dX8_passCarts_43 : decode cX8_passCarts 43 = .ok (.dup, 1) := by decide +kernel
theorem dX8_passCarts_44 : decode cX8_passCarts 44 = .ok (.invokespecial 136, 3) := by decide +kernel
theorem dX8_passCarts_47 : decode cX8_passCarts 47 = .ok (.athrow, 1) := by decide +kernel
theorem dX8_passCarts_48 : decode cX8_passCarts 48 = .ok (.aload_n 0, 1) := by decide +kernel
theorem dX8_passCarts_49 : decode cX8_passCarts 49 = .ok (.getfield 38, 3) := by decide +kernel
theorem dX8_passCarts_52 : decode cX8_passCarts 52 = .ok (.aload_n 0, 1) := by decide +kernel
theorem dX8_passCarts_53 : decode cX8_passCarts 53 = .ok (.getfield 19, 3) := by decide +kernel
theorem dX8_passCarts_56 : decode cX8_passCarts 56 = .ok (.invokevirtual 137, 3) := by decide +kernel
theorem dX8_passCarts_59 : decode cX8_passCarts 59 = .ok (.aload_n 0, 1) := by decide +kernel
theorem dX8_passCarts_60 : decode cX8_passCarts 60 = .ok (.getfield 19, 3) := by decide +kernel
theorem dX8_passCarts_63 : decode cX8_passCarts 63 = .ok (.iload_n 1, 1) := by decide +kernel
theorem dX8_passCarts_64 : decode cX8_passCarts 64 = .ok (.iload_n 2, 1) := by decide +kernel
theorem dX8_passCarts_65 : decode cX8_passCarts 65 = .ok (.iload_n 3, 1) := by decide +kernel
theorem dX8_passCarts_66 : decode cX8_passCarts 66 = .ok (.invokevirtual 140, 3) := by decide +kernel
theorem dX8_passCarts_69 : decode cX8_passCarts 69 = .ok (.ireturn, 1) := by decide +kernel
theorem bX8_passCarts_0 {d mc ms : Nat} {al : Bool} {bc bs : Nat} {Γ : am_G} {I : am_I} {L : am_L} {Q : am_Q} {v0 : Nat} {v1 : Int32} {v2 : Int32} {v3 : Int32} {I' : am_I} {L' : am_L} {mc' : Nat} {ms' : Nat} (o1 : am_ob Γ v0 8) (hbc : mc' ≤ bc) (hbs : ms' ≤ bs) (hC : am_E m_X8_requireGate d mc' ms' [.ref v0, .int v1] Γ I L (.inl none) I' L') (kk : am_W m_X8_passCarts (d + 1) mc ms al (bc - mc') (bs - ms') 5 [(0, .ref v0), (1, .int v1), (2, .int v2), (3, .int v3)] [] Γ I' L' Q) : am_W m_X8_passCarts (d + 1) mc ms al bc bs 0 [(0, .ref v0), (1, .int v1), (2, .int v2), (3, .int v3)] [] Γ I L Q := by
  refine aw_aload_n dX8_passCarts_0 rfl ?_
  refine aw_iload_n dX8_passCarts_1 rfl ?_
  exact aw_askV (as := [.int v1]) (rst := []) k_X8_requireGate l_X8_115 i_X8_requireGate s_X8_requireGate rfl o1 dX8_passCarts_2 rfl (Nat.le_of_ble_eq_true rfl) hbc hbs hC rfl rfl kk
theorem bX8_passCarts_0x {d mc ms : Nat} {al : Bool} {bc bs : Nat} {Γ : am_G} {I : am_I} {L : am_L} {Q : am_Q} {v0 : Nat} {v1 : Int32} {v2 : Int32} {v3 : Int32} {I' : am_I} {L' : am_L} {mc' : Nat} {ms' : Nat} {E : String} (o1 : am_ob Γ v0 8) (hbc : mc' ≤ bc) (hbs : ms' ≤ bs) (hC : am_E m_X8_requireGate d mc' ms' [.ref v0, .int v1] Γ I L (.inr E) I' L') (hq : Q (.inr E) Γ I' L') : am_W m_X8_passCarts (d + 1) mc ms al bc bs 0 [(0, .ref v0), (1, .int v1), (2, .int v2), (3, .int v3)] [] Γ I L Q := by
  refine aw_aload_n dX8_passCarts_0 rfl ?_
  refine aw_iload_n dX8_passCarts_1 rfl ?_
  exact aw_fallV (as := [.int v1]) (rst := []) k_X8_requireGate l_X8_115 i_X8_requireGate s_X8_requireGate rfl o1 dX8_passCarts_2 rfl (Nat.le_of_ble_eq_true rfl) hbc hbs rfl hC rfl hq
theorem bX8_passCarts_5 {d mc ms : Nat} {al : Bool} {bc bs : Nat} {Γ : am_G} {I : am_I} {L : am_L} {Q : am_Q} {v0 : Nat} {v1 : Int32} {v2 : Int32} {v3 : Int32} {I' : am_I} {L' : am_L} {mc' : Nat} {ms' : Nat} (o1 : am_ob Γ v0 8) (hbc : mc' ≤ bc) (hbs : ms' ≤ bs) (hC : am_E m_X8_requireType d mc' ms' [.ref v0, .int v2] Γ I L (.inl none) I' L') (kk : am_W m_X8_passCarts (d + 1) mc ms al (bc - mc') (bs - ms') 10 [(0, .ref v0), (1, .int v1), (2, .int v2), (3, .int v3)] [] Γ I' L' Q) : am_W m_X8_passCarts (d + 1) mc ms al bc bs 5 [(0, .ref v0), (1, .int v1), (2, .int v2), (3, .int v3)] [] Γ I L Q := by
  refine aw_aload_n dX8_passCarts_5 rfl ?_
  refine aw_iload_n dX8_passCarts_6 rfl ?_
  exact aw_askV (as := [.int v2]) (rst := []) k_X8_requireType l_X8_118 i_X8_requireType s_X8_requireType rfl o1 dX8_passCarts_7 rfl (Nat.le_of_ble_eq_true rfl) hbc hbs hC rfl rfl kk
theorem bX8_passCarts_5x {d mc ms : Nat} {al : Bool} {bc bs : Nat} {Γ : am_G} {I : am_I} {L : am_L} {Q : am_Q} {v0 : Nat} {v1 : Int32} {v2 : Int32} {v3 : Int32} {I' : am_I} {L' : am_L} {mc' : Nat} {ms' : Nat} {E : String} (o1 : am_ob Γ v0 8) (hbc : mc' ≤ bc) (hbs : ms' ≤ bs) (hC : am_E m_X8_requireType d mc' ms' [.ref v0, .int v2] Γ I L (.inr E) I' L') (hq : Q (.inr E) Γ I' L') : am_W m_X8_passCarts (d + 1) mc ms al bc bs 5 [(0, .ref v0), (1, .int v1), (2, .int v2), (3, .int v3)] [] Γ I L Q := by
  refine aw_aload_n dX8_passCarts_5 rfl ?_
  refine aw_iload_n dX8_passCarts_6 rfl ?_
  exact aw_fallV (as := [.int v2]) (rst := []) k_X8_requireType l_X8_118 i_X8_requireType s_X8_requireType rfl o1 dX8_passCarts_7 rfl (Nat.le_of_ble_eq_true rfl) hbc hbs rfl hC rfl hq
theorem bX8_passCarts_10 {d mc ms : Nat} {al : Bool} {bc bs : Nat} {Γ : am_G} {I : am_I} {L : am_L} {Q : am_Q} {v0 : Nat} {v1 : Int32} {v2 : Int32} {v3 : Int32} {I' : am_I} {L' : am_L} {mc' : Nat} {ms' : Nat} (hbc : mc' ≤ bc) (hbs : ms' ≤ bs) (hC : am_E m_X8_requireRange d mc' ms' [.int v3, .int 1, .int 999] Γ I L (.inl none) I' L') (kk : am_W m_X8_passCarts (d + 1) mc ms al (bc - mc') (bs - ms') 18 [(0, .ref v0), (1, .int v1), (2, .int v2), (3, .int v3)] [] Γ I' L' Q) : am_W m_X8_passCarts (d + 1) mc ms al bc bs 10 [(0, .ref v0), (1, .int v1), (2, .int v2), (3, .int v3)] [] Γ I L Q := by
  refine aw_iload_n dX8_passCarts_10 rfl ?_
  refine aw_iconst dX8_passCarts_11 ci_1 ?_
  refine aw_sipush dX8_passCarts_12 cs_999 ?_
  exact aw_askS (as := [.int v3, .int 1, .int 999]) (rst := []) k_X8_requireRange l_X8_90 t_X8_requireRange dX8_passCarts_15 rfl (Nat.le_of_ble_eq_true rfl) hbc hbs hC rfl rfl kk
theorem bX8_passCarts_10x {d mc ms : Nat} {al : Bool} {bc bs : Nat} {Γ : am_G} {I : am_I} {L : am_L} {Q : am_Q} {v0 : Nat} {v1 : Int32} {v2 : Int32} {v3 : Int32} {I' : am_I} {L' : am_L} {mc' : Nat} {ms' : Nat} {E : String} (hbc : mc' ≤ bc) (hbs : ms' ≤ bs) (hC : am_E m_X8_requireRange d mc' ms' [.int v3, .int 1, .int 999] Γ I L (.inr E) I' L') (hq : Q (.inr E) Γ I' L') : am_W m_X8_passCarts (d + 1) mc ms al bc bs 10 [(0, .ref v0), (1, .int v1), (2, .int v2), (3, .int v3)] [] Γ I L Q := by
  refine aw_iload_n dX8_passCarts_10 rfl ?_
  refine aw_iconst dX8_passCarts_11 ci_1 ?_
  refine aw_sipush dX8_passCarts_12 cs_999 ?_
  exact aw_fallS (as := [.int v3, .int 1, .int 999]) (rst := []) k_X8_requireRange l_X8_90 t_X8_requireRange dX8_passCarts_15 rfl (Nat.le_of_ble_eq_true rfl) hbc hbs rfl hC rfl hq
theorem bX8_passCarts_18 {d mc ms : Nat} {al : Bool} {bc bs : Nat} {Γ : am_G} {I : am_I} {L : am_L} {Q : am_Q} {v0 : Nat} {v1 : Int32} {v2 : Int32} {v3 : Int32} {r2 : Nat} {r5 : Nat} {n_r5 : Nat} {r9 : Nat} {I' : am_I} {L' : am_L} {mc' : Nat} {ms' : Nat} {r : Int32} (o1 : am_ob Γ v0 8) (g3 : Γ.2.2 v0 1 = some r2) (o4 : am_ob Γ r2 5) (g6 : Γ.2.2 r2 9 = some r5) (a7 : am_ar Γ r5 6 n_r5 0) (i8 : vp_in v1 n_r5) (g10 : Γ.2.2 r5 (v1.toNatClampNeg) = some r9) (hbc : mc' ≤ bc) (hbs : ms' ≤ bs) (hC : am_E m_X5_hourOfDay d mc' ms' [.ref r2] Γ I L (.inl (some (.int r))) I' L') (kk : am_W m_X8_passCarts (d + 1) mc ms al (bc - mc') (bs - ms') 34 [(0, .ref v0), (1, .int v1), (2, .int v2), (3, .int v3)] [.int r, .ref r9] Γ I' L' Q) : am_W m_X8_passCarts (d + 1) mc ms al bc bs 18 [(0, .ref v0), (1, .int v1), (2, .int v2), (3, .int v3)] [] Γ I L Q := by
  refine aw_aload_n dX8_passCarts_18 rfl ?_
  refine aw_getR dX8_passCarts_19 f_X8_19 o1 rfl g3 ?_
  refine aw_getR dX8_passCarts_22 f_X8_121 o4 rfl g6 ?_
  refine aw_iload_n dX8_passCarts_25 rfl ?_
  refine aw_aald dX8_passCarts_26 a7 i8 g10 ?_
  refine aw_aload_n dX8_passCarts_27 rfl ?_
  refine aw_getR dX8_passCarts_28 f_X8_19 o1 rfl g3 ?_
  exact aw_askV (as := []) (rst := [.ref r9]) k_X5_hourOfDay l_X8_125 i_X5_hourOfDay s_X5_hourOfDay rfl o4 dX8_passCarts_31 rfl (Nat.le_of_ble_eq_true rfl) hbc hbs hC rfl rfl kk
theorem bX8_passCarts_34 {d mc ms : Nat} {al : Bool} {bc bs : Nat} {Γ : am_G} {I : am_I} {L : am_L} {Q : am_Q} {v0 : Nat} {v1 : Int32} {v2 : Int32} {v3 : Int32} {w0 : Nat} {w1 : Int32} {I' : am_I} {L' : am_L} {mc' : Nat} {ms' : Nat} {r : Int32} (o1 : am_ob Γ w0 0) (hbc : mc' ≤ bc) (hbs : ms' ≤ bs) (hC : am_E m_X0_opensAt d mc' ms' [.ref w0, .int w1] Γ I L (.inl (some (.int r))) I' L') (kk : am_W m_X8_passCarts (d + 1) mc ms al (bc - mc') (bs - ms') 37 [(0, .ref v0), (1, .int v1), (2, .int v2), (3, .int v3)] [.int r] Γ I' L' Q) : am_W m_X8_passCarts (d + 1) mc ms al bc bs 34 [(0, .ref v0), (1, .int v1), (2, .int v2), (3, .int v3)] [.int w1, .ref w0] Γ I L Q := by
  exact aw_askV (as := [.int w1]) (rst := []) k_X0_opensAt l_X8_128 i_X0_opensAt s_X0_opensAt rfl o1 dX8_passCarts_34 rfl (Nat.le_of_ble_eq_true rfl) hbc hbs hC rfl rfl kk
theorem bX8_passCarts_37 {d mc ms : Nat} {al : Bool} {bc bs : Nat} {Γ : am_G} {I : am_I} {L : am_L} {Q : am_Q} {v0 : Nat} {v1 : Int32} {v2 : Int32} {v3 : Int32} {w0 : Int32} (kt : ¬ w0 = 0 → am_W m_X8_passCarts d mc ms al bc bs 48 [(0, .ref v0), (1, .int v1), (2, .int v2), (3, .int v3)] [] Γ I L Q) (kf : w0 = 0 → am_W m_X8_passCarts d mc ms al bc bs 40 [(0, .ref v0), (1, .int v1), (2, .int v2), (3, .int v3)] [] Γ I L Q) : am_W m_X8_passCarts d mc ms al bc bs 37 [(0, .ref v0), (1, .int v1), (2, .int v2), (3, .int v3)] [.int w0] Γ I L Q := by
  exact aw_if_ne dX8_passCarts_37 (by decide) kt kf
theorem bX8_passCarts_40 {d mc ms : Nat} {al : Bool} {bc bs : Nat} {Γ : am_G} {I : am_I} {L : am_L} {Q : am_Q} {v0 : Nat} {v1 : Int32} {v2 : Int32} {v3 : Int32} (hb : 1 ≤ bc) (hb2 : 6 ≤ bs) (hq : Q (.inr "java/lang/IllegalStateException") Γ I L) : am_W m_X8_passCarts d mc ms al bc bs 40 [(0, .ref v0), (1, .int v1), (2, .int v2), (3, .int v3)] [] Γ I L Q := by
  have e1 : bc - 1 + 1 = bc := by omega
  have e2 : bs - 6 + 6 = bs := by omega
  have k9 := aw_throw (mi := m_X8_passCarts) (d := d) (mc := mc) (ms := ms) (al := al) (bc := bc - 1) (bs := bs - 6) (ls := [(0, .ref v0), (1, .int v1), (2, .int v2), (3, .int v3)]) (st := []) (Γ := Γ) (I := I) (L := L) (Q := Q) tk_X8_134_136 rfl dX8_passCarts_40 dX8_passCarts_43 dX8_passCarts_44 dX8_passCarts_47 (Nat.le_of_ble_eq_true rfl) hq
  rw [e1, e2] at k9
  exact k9
theorem bX8_passCarts_48 {d mc ms : Nat} {al : Bool} {bc bs : Nat} {Γ : am_G} {I : am_I} {L : am_L} {Q : am_Q} {v0 : Nat} {v1 : Int32} {v2 : Int32} {v3 : Int32} {r2 : Nat} {r4 : Nat} {I' : am_I} {L' : am_L} {mc' : Nat} {ms' : Nat} (o1 : am_ob Γ v0 8) (g3 : Γ.2.2 v0 4 = some r2) (g5 : Γ.2.2 v0 1 = some r4) (o6 : am_ob Γ r2 1) (hbc : mc' ≤ bc) (hbs : ms' ≤ bs) (hC : am_E m_X1_remember d mc' ms' [.ref r2, .ref r4] Γ I L (.inl none) I' L') (kk : am_W m_X8_passCarts (d + 1) mc ms al (bc - mc') (bs - ms') 59 [(0, .ref v0), (1, .int v1), (2, .int v2), (3, .int v3)] [] Γ I' L' Q) : am_W m_X8_passCarts (d + 1) mc ms al bc bs 48 [(0, .ref v0), (1, .int v1), (2, .int v2), (3, .int v3)] [] Γ I L Q := by
  refine aw_aload_n dX8_passCarts_48 rfl ?_
  refine aw_getR dX8_passCarts_49 f_X8_38 o1 rfl g3 ?_
  refine aw_aload_n dX8_passCarts_52 rfl ?_
  refine aw_getR dX8_passCarts_53 f_X8_19 o1 rfl g5 ?_
  exact aw_askV (as := [.ref r4]) (rst := []) k_X1_remember l_X8_137 i_X1_remember s_X1_remember rfl o6 dX8_passCarts_56 rfl (Nat.le_of_ble_eq_true rfl) hbc hbs hC rfl rfl kk
theorem bX8_passCarts_59 {d mc ms : Nat} {al : Bool} {bc bs : Nat} {Γ : am_G} {I : am_I} {L : am_L} {Q : am_Q} {v0 : Nat} {v1 : Int32} {v2 : Int32} {v3 : Int32} {r2 : Nat} {I' : am_I} {L' : am_L} {mc' : Nat} {ms' : Nat} {r : Int32} (o1 : am_ob Γ v0 8) (g3 : Γ.2.2 v0 1 = some r2) (o4 : am_ob Γ r2 5) (hbc : mc' ≤ bc) (hbs : ms' ≤ bs) (hC : am_E m_X5_letPass d mc' ms' [.ref r2, .int v1, .int v2, .int v3] Γ I L (.inl (some (.int r))) I' L') (kk : am_W m_X8_passCarts (d + 1) mc ms al (bc - mc') (bs - ms') 69 [(0, .ref v0), (1, .int v1), (2, .int v2), (3, .int v3)] [.int r] Γ I' L' Q) : am_W m_X8_passCarts (d + 1) mc ms al bc bs 59 [(0, .ref v0), (1, .int v1), (2, .int v2), (3, .int v3)] [] Γ I L Q := by
  refine aw_aload_n dX8_passCarts_59 rfl ?_
  refine aw_getR dX8_passCarts_60 f_X8_19 o1 rfl g3 ?_
  refine aw_iload_n dX8_passCarts_63 rfl ?_
  refine aw_iload_n dX8_passCarts_64 rfl ?_
  refine aw_iload_n dX8_passCarts_65 rfl ?_
  exact aw_askV (as := [.int v1, .int v2, .int v3]) (rst := []) k_X5_letPass l_X8_140 i_X5_letPass s_X5_letPass rfl o4 dX8_passCarts_66 rfl (Nat.le_of_ble_eq_true rfl) hbc hbs hC rfl rfl kk
theorem bX8_passCarts_69 {d mc ms : Nat} {al : Bool} {bc bs : Nat} {Γ : am_G} {I : am_I} {L : am_L} {Q : am_Q} {v0 : Nat} {v1 : Int32} {v2 : Int32} {v3 : Int32} {w0 : Int32} (hq : Q (.inl (some (.int w0))) Γ I L) : am_W m_X8_passCarts d mc ms al bc bs 69 [(0, .ref v0), (1, .int v1), (2, .int v2), (3, .int v3)] [.int w0] Γ I L Q := by
  exact aw_iret dX8_passCarts_69 rfl hq
theorem dX8_buildTree_0 : decode cX8_buildTree 0 = .ok (.aload_n 0, 1) := by decide +kernel
theorem dX8_buildTree_1 : decode cX8_buildTree 1 = .ok (.iload_n 1, 1) := by decide +kernel
theorem dX8_buildTree_2 : decode cX8_buildTree 2 = .ok (.invokevirtual 115, 3) := by decide +kernel
theorem dX8_buildTree_5 : decode cX8_buildTree 5 = .ok (.aload_n 0, 1) := by decide +kernel
theorem dX8_buildTree_6 : decode cX8_buildTree 6 = .ok (.getfield 38, 3) := by decide +kernel
theorem dX8_buildTree_9 : decode cX8_buildTree 9 = .ok (.aload_n 0, 1) := by decide +kernel
theorem dX8_buildTree_10 : decode cX8_buildTree 10 = .ok (.getfield 19, 3) := by decide +kernel
theorem dX8_buildTree_13 : decode cX8_buildTree 13 = .ok (.invokevirtual 137, 3) := by decide +kernel
theorem dX8_buildTree_16 : decode cX8_buildTree 16 = .ok (.aload_n 0, 1) := by decide +kernel
theorem dX8_buildTree_17 : decode cX8_buildTree 17 = .ok (.getfield 12, 3) := by decide +kernel
theorem dX8_buildTree_20 : decode cX8_buildTree 20 = .ok (.aload_n 0, 1) := by decide +kernel
theorem dX8_buildTree_21 : decode cX8_buildTree 21 = .ok (.getfield 19, 3) := by decide +kernel
theorem dX8_buildTree_24 : decode cX8_buildTree 24 = .ok (.aload_n 0, 1) := by decide +kernel
theorem dX8_buildTree_25 : decode cX8_buildTree 25 = .ok (.getfield 19, 3) := by decide +kernel
theorem dX8_buildTree_28 : decode cX8_buildTree 28 = .ok (.getfield 121, 3) := by decide +kernel
theorem dX8_buildTree_31 : decode cX8_buildTree 31 = .ok (.iload_n 1, 1) := by decide +kernel
theorem dX8_buildTree_32 : decode cX8_buildTree 32 = .ok (.aaload, 1) := by decide +kernel
theorem dX8_buildTree_33 : decode cX8_buildTree 33 = .ok (.invokevirtual 144, 3) := by decide +kernel
theorem dX8_buildTree_36 : decode cX8_buildTree 36 = .ok (.aload_n 0, 1) := by decide +kernel
theorem dX8_buildTree_37 : decode cX8_buildTree 37 = .ok (.getfield 19, 3) := by decide +kernel
theorem dX8_buildTree_40 : decode cX8_buildTree 40 = .ok (.getfield 121, 3) := by decide +kernel
theorem dX8_buildTree_43 : decode cX8_buildTree 43 = .ok (.iload_n 1, 1) := by decide +kernel
theorem dX8_buildTree_44 : decode cX8_buildTree 44 = .ok (.aaload, 1) := by decide +kernel
theorem dX8_buildTree_45 : decode cX8_buildTree 45 = .ok (.getfield 148, 3) := by decide +kernel
theorem dX8_buildTree_48 : decode cX8_buildTree 48 = .ok (.getfield 152, 3) := by decide +kernel
theorem dX8_buildTree_51 : decode cX8_buildTree 51 = .ok (.ireturn, 1) := by decide +kernel
theorem bX8_buildTree_0 {d mc ms : Nat} {al : Bool} {bc bs : Nat} {Γ : am_G} {I : am_I} {L : am_L} {Q : am_Q} {v0 : Nat} {v1 : Int32} {I' : am_I} {L' : am_L} {mc' : Nat} {ms' : Nat} (o1 : am_ob Γ v0 8) (hbc : mc' ≤ bc) (hbs : ms' ≤ bs) (hC : am_E m_X8_requireGate d mc' ms' [.ref v0, .int v1] Γ I L (.inl none) I' L') (kk : am_W m_X8_buildTree (d + 1) mc ms al (bc - mc') (bs - ms') 5 [(0, .ref v0), (1, .int v1)] [] Γ I' L' Q) : am_W m_X8_buildTree (d + 1) mc ms al bc bs 0 [(0, .ref v0), (1, .int v1)] [] Γ I L Q := by
  refine aw_aload_n dX8_buildTree_0 rfl ?_
  refine aw_iload_n dX8_buildTree_1 rfl ?_
  exact aw_askV (as := [.int v1]) (rst := []) k_X8_requireGate l_X8_115 i_X8_requireGate s_X8_requireGate rfl o1 dX8_buildTree_2 rfl (Nat.le_of_ble_eq_true rfl) hbc hbs hC rfl rfl kk
theorem bX8_buildTree_0x {d mc ms : Nat} {al : Bool} {bc bs : Nat} {Γ : am_G} {I : am_I} {L : am_L} {Q : am_Q} {v0 : Nat} {v1 : Int32} {I' : am_I} {L' : am_L} {mc' : Nat} {ms' : Nat} {E : String} (o1 : am_ob Γ v0 8) (hbc : mc' ≤ bc) (hbs : ms' ≤ bs) (hC : am_E m_X8_requireGate d mc' ms' [.ref v0, .int v1] Γ I L (.inr E) I' L') (hq : Q (.inr E) Γ I' L') : am_W m_X8_buildTree (d + 1) mc ms al bc bs 0 [(0, .ref v0), (1, .int v1)] [] Γ I L Q := by
  refine aw_aload_n dX8_buildTree_0 rfl ?_
  refine aw_iload_n dX8_buildTree_1 rfl ?_
  exact aw_fallV (as := [.int v1]) (rst := []) k_X8_requireGate l_X8_115 i_X8_requireGate s_X8_requireGate rfl o1 dX8_buildTree_2 rfl (Nat.le_of_ble_eq_true rfl) hbc hbs rfl hC rfl hq
theorem bX8_buildTree_5 {d mc ms : Nat} {al : Bool} {bc bs : Nat} {Γ : am_G} {I : am_I} {L : am_L} {Q : am_Q} {v0 : Nat} {v1 : Int32} {r2 : Nat} {r4 : Nat} {I' : am_I} {L' : am_L} {mc' : Nat} {ms' : Nat} (o1 : am_ob Γ v0 8) (g3 : Γ.2.2 v0 4 = some r2) (g5 : Γ.2.2 v0 1 = some r4) (o6 : am_ob Γ r2 1) (hbc : mc' ≤ bc) (hbs : ms' ≤ bs) (hC : am_E m_X1_remember d mc' ms' [.ref r2, .ref r4] Γ I L (.inl none) I' L') (kk : am_W m_X8_buildTree (d + 1) mc ms al (bc - mc') (bs - ms') 16 [(0, .ref v0), (1, .int v1)] [] Γ I' L' Q) : am_W m_X8_buildTree (d + 1) mc ms al bc bs 5 [(0, .ref v0), (1, .int v1)] [] Γ I L Q := by
  refine aw_aload_n dX8_buildTree_5 rfl ?_
  refine aw_getR dX8_buildTree_6 f_X8_38 o1 rfl g3 ?_
  refine aw_aload_n dX8_buildTree_9 rfl ?_
  refine aw_getR dX8_buildTree_10 f_X8_19 o1 rfl g5 ?_
  exact aw_askV (as := [.ref r4]) (rst := []) k_X1_remember l_X8_137 i_X1_remember s_X1_remember rfl o6 dX8_buildTree_13 rfl (Nat.le_of_ble_eq_true rfl) hbc hbs hC rfl rfl kk
theorem bX8_buildTree_16 {d mc ms : Nat} {al : Bool} {bc bs : Nat} {Γ : am_G} {I : am_I} {L : am_L} {Q : am_Q} {v0 : Nat} {v1 : Int32} {r2 : Nat} {r4 : Nat} {r7 : Nat} {n_r7 : Nat} {r11 : Nat} {I' : am_I} {L' : am_L} {mc' : Nat} {ms' : Nat} (o1 : am_ob Γ v0 8) (g3 : Γ.2.2 v0 0 = some r2) (g5 : Γ.2.2 v0 1 = some r4) (o6 : am_ob Γ r4 5) (g8 : Γ.2.2 r4 9 = some r7) (a9 : am_ar Γ r7 6 n_r7 0) (i10 : vp_in v1 n_r7) (g12 : Γ.2.2 r7 (v1.toNatClampNeg) = some r11) (o13 : am_ob Γ r2 4) (hbc : mc' ≤ bc) (hbs : ms' ≤ bs) (hC : am_E m_X4_plant d mc' ms' [.ref r2, .ref r4, .ref r11] Γ I L (.inl none) I' L') (kk : am_W m_X8_buildTree (d + 1) mc ms al (bc - mc') (bs - ms') 36 [(0, .ref v0), (1, .int v1)] [] Γ I' L' Q) : am_W m_X8_buildTree (d + 1) mc ms al bc bs 16 [(0, .ref v0), (1, .int v1)] [] Γ I L Q := by
  refine aw_aload_n dX8_buildTree_16 rfl ?_
  refine aw_getR dX8_buildTree_17 f_X8_12 o1 rfl g3 ?_
  refine aw_aload_n dX8_buildTree_20 rfl ?_
  refine aw_getR dX8_buildTree_21 f_X8_19 o1 rfl g5 ?_
  refine aw_aload_n dX8_buildTree_24 rfl ?_
  refine aw_getR dX8_buildTree_25 f_X8_19 o1 rfl g5 ?_
  refine aw_getR dX8_buildTree_28 f_X8_121 o6 rfl g8 ?_
  refine aw_iload_n dX8_buildTree_31 rfl ?_
  refine aw_aald dX8_buildTree_32 a9 i10 g12 ?_
  exact aw_askV (as := [.ref r4, .ref r11]) (rst := []) k_X4_plant l_X8_144 i_X4_plant s_X4_plant rfl o13 dX8_buildTree_33 rfl (Nat.le_of_ble_eq_true rfl) hbc hbs hC rfl rfl kk
theorem bX8_buildTree_36 {d mc ms : Nat} {al : Bool} {bc bs : Nat} {Γ : am_G} {I : am_I} {L : am_L} {Q : am_Q} {v0 : Nat} {v1 : Int32} {r2 : Nat} {r5 : Nat} {n_r5 : Nat} {r9 : Nat} {r12 : Nat} (o1 : am_ob Γ v0 8) (g3 : Γ.2.2 v0 1 = some r2) (o4 : am_ob Γ r2 5) (g6 : Γ.2.2 r2 9 = some r5) (a7 : am_ar Γ r5 6 n_r5 0) (i8 : vp_in v1 n_r5) (g10 : Γ.2.2 r5 (v1.toNatClampNeg) = some r9) (o11 : am_ob Γ r9 0) (g13 : Γ.2.2 r9 5 = some r12) (o14 : am_ob Γ r12 7) (hq : Q (.inl (some (.int (I r12 0)))) Γ I L) : am_W m_X8_buildTree d mc ms al bc bs 36 [(0, .ref v0), (1, .int v1)] [] Γ I L Q := by
  refine aw_aload_n dX8_buildTree_36 rfl ?_
  refine aw_getR dX8_buildTree_37 f_X8_19 o1 rfl g3 ?_
  refine aw_getR dX8_buildTree_40 f_X8_121 o4 rfl g6 ?_
  refine aw_iload_n dX8_buildTree_43 rfl ?_
  refine aw_aald dX8_buildTree_44 a7 i8 g10 ?_
  refine aw_getR dX8_buildTree_45 f_X8_148 o11 rfl g13 ?_
  refine aw_getI dX8_buildTree_48 f_X8_152 o14 rfl ?_
  exact aw_iret dX8_buildTree_51 rfl hq
theorem dX8_halveCounts_0 : decode cX8_halveCounts 0 = .ok (.aload_n 0, 1) := by decide +kernel
theorem dX8_halveCounts_1 : decode cX8_halveCounts 1 = .ok (.iload_n 1, 1) := by decide +kernel
theorem dX8_halveCounts_2 : decode cX8_halveCounts 2 = .ok (.invokevirtual 115, 3) := by decide +kernel
theorem dX8_halveCounts_5 : decode cX8_halveCounts 5 = .ok (.aload_n 0, 1) := by decide +kernel
theorem dX8_halveCounts_6 : decode cX8_halveCounts 6 = .ok (.getfield 38, 3) := by decide +kernel
theorem dX8_halveCounts_9 : decode cX8_halveCounts 9 = .ok (.aload_n 0, 1) := by decide +kernel
theorem dX8_halveCounts_10 : decode cX8_halveCounts 10 = .ok (.getfield 19, 3) := by decide +kernel
theorem dX8_halveCounts_13 : decode cX8_halveCounts 13 = .ok (.invokevirtual 137, 3) := by decide +kernel
theorem dX8_halveCounts_16 : decode cX8_halveCounts 16 = .ok (.aload_n 0, 1) := by decide +kernel
theorem dX8_halveCounts_17 : decode cX8_halveCounts 17 = .ok (.getfield 19, 3) := by decide +kernel
theorem dX8_halveCounts_20 : decode cX8_halveCounts 20 = .ok (.getfield 121, 3) := by decide +kernel
theorem dX8_halveCounts_23 : decode cX8_halveCounts 23 = .ok (.iload_n 1, 1) := by decide +kernel
theorem dX8_halveCounts_24 : decode cX8_halveCounts 24 = .ok (.aaload, 1) := by decide +kernel
theorem dX8_halveCounts_25 : decode cX8_halveCounts 25 = .ok (.invokevirtual 157, 3) := by decide +kernel
theorem dX8_halveCounts_28 : decode cX8_halveCounts 28 = .ok (.aload_n 0, 1) := by decide +kernel
theorem dX8_halveCounts_29 : decode cX8_halveCounts 29 = .ok (.getfield 19, 3) := by decide +kernel
theorem dX8_halveCounts_32 : decode cX8_halveCounts 32 = .ok (.getfield 121, 3) := by decide +kernel
theorem dX8_halveCounts_35 : decode cX8_halveCounts 35 = .ok (.iload_n 1, 1) := by decide +kernel
theorem dX8_halveCounts_36 : decode cX8_halveCounts 36 = .ok (.aaload, 1) := by decide +kernel
theorem dX8_halveCounts_37 : decode cX8_halveCounts 37 = .ok (.aload_n 0, 1) := by decide +kernel
theorem dX8_halveCounts_38 : decode cX8_halveCounts 38 = .ok (.getfield 19, 3) := by decide +kernel
theorem dX8_halveCounts_41 : decode cX8_halveCounts 41 = .ok (.invokevirtual 160, 3) := by decide +kernel
theorem dX8_halveCounts_44 : decode cX8_halveCounts 44 = .ok (.invokevirtual 163, 3) := by decide +kernel
theorem dX8_halveCounts_47 : decode cX8_halveCounts 47 = .ok (.ireturn, 1) := by decide +kernel
theorem bX8_halveCounts_0 {d mc ms : Nat} {al : Bool} {bc bs : Nat} {Γ : am_G} {I : am_I} {L : am_L} {Q : am_Q} {v0 : Nat} {v1 : Int32} {I' : am_I} {L' : am_L} {mc' : Nat} {ms' : Nat} (o1 : am_ob Γ v0 8) (hbc : mc' ≤ bc) (hbs : ms' ≤ bs) (hC : am_E m_X8_requireGate d mc' ms' [.ref v0, .int v1] Γ I L (.inl none) I' L') (kk : am_W m_X8_halveCounts (d + 1) mc ms al (bc - mc') (bs - ms') 5 [(0, .ref v0), (1, .int v1)] [] Γ I' L' Q) : am_W m_X8_halveCounts (d + 1) mc ms al bc bs 0 [(0, .ref v0), (1, .int v1)] [] Γ I L Q := by
  refine aw_aload_n dX8_halveCounts_0 rfl ?_
  refine aw_iload_n dX8_halveCounts_1 rfl ?_
  exact aw_askV (as := [.int v1]) (rst := []) k_X8_requireGate l_X8_115 i_X8_requireGate s_X8_requireGate rfl o1 dX8_halveCounts_2 rfl (Nat.le_of_ble_eq_true rfl) hbc hbs hC rfl rfl kk
theorem bX8_halveCounts_0x {d mc ms : Nat} {al : Bool} {bc bs : Nat} {Γ : am_G} {I : am_I} {L : am_L} {Q : am_Q} {v0 : Nat} {v1 : Int32} {I' : am_I} {L' : am_L} {mc' : Nat} {ms' : Nat} {E : String} (o1 : am_ob Γ v0 8) (hbc : mc' ≤ bc) (hbs : ms' ≤ bs) (hC : am_E m_X8_requireGate d mc' ms' [.ref v0, .int v1] Γ I L (.inr E) I' L') (hq : Q (.inr E) Γ I' L') : am_W m_X8_halveCounts (d + 1) mc ms al bc bs 0 [(0, .ref v0), (1, .int v1)] [] Γ I L Q := by
  refine aw_aload_n dX8_halveCounts_0 rfl ?_
  refine aw_iload_n dX8_halveCounts_1 rfl ?_
  exact aw_fallV (as := [.int v1]) (rst := []) k_X8_requireGate l_X8_115 i_X8_requireGate s_X8_requireGate rfl o1 dX8_halveCounts_2 rfl (Nat.le_of_ble_eq_true rfl) hbc hbs rfl hC rfl hq
theorem bX8_halveCounts_5 {d mc ms : Nat} {al : Bool} {bc bs : Nat} {Γ : am_G} {I : am_I} {L : am_L} {Q : am_Q} {v0 : Nat} {v1 : Int32} {r2 : Nat} {r4 : Nat} {I' : am_I} {L' : am_L} {mc' : Nat} {ms' : Nat} (o1 : am_ob Γ v0 8) (g3 : Γ.2.2 v0 4 = some r2) (g5 : Γ.2.2 v0 1 = some r4) (o6 : am_ob Γ r2 1) (hbc : mc' ≤ bc) (hbs : ms' ≤ bs) (hC : am_E m_X1_remember d mc' ms' [.ref r2, .ref r4] Γ I L (.inl none) I' L') (kk : am_W m_X8_halveCounts (d + 1) mc ms al (bc - mc') (bs - ms') 16 [(0, .ref v0), (1, .int v1)] [] Γ I' L' Q) : am_W m_X8_halveCounts (d + 1) mc ms al bc bs 5 [(0, .ref v0), (1, .int v1)] [] Γ I L Q := by
  refine aw_aload_n dX8_halveCounts_5 rfl ?_
  refine aw_getR dX8_halveCounts_6 f_X8_38 o1 rfl g3 ?_
  refine aw_aload_n dX8_halveCounts_9 rfl ?_
  refine aw_getR dX8_halveCounts_10 f_X8_19 o1 rfl g5 ?_
  exact aw_askV (as := [.ref r4]) (rst := []) k_X1_remember l_X8_137 i_X1_remember s_X1_remember rfl o6 dX8_halveCounts_13 rfl (Nat.le_of_ble_eq_true rfl) hbc hbs hC rfl rfl kk
theorem bX8_halveCounts_16 {d mc ms : Nat} {al : Bool} {bc bs : Nat} {Γ : am_G} {I : am_I} {L : am_L} {Q : am_Q} {v0 : Nat} {v1 : Int32} {r2 : Nat} {r5 : Nat} {n_r5 : Nat} {r9 : Nat} {I' : am_I} {L' : am_L} {mc' : Nat} {ms' : Nat} (o1 : am_ob Γ v0 8) (g3 : Γ.2.2 v0 1 = some r2) (o4 : am_ob Γ r2 5) (g6 : Γ.2.2 r2 9 = some r5) (a7 : am_ar Γ r5 6 n_r5 0) (i8 : vp_in v1 n_r5) (g10 : Γ.2.2 r5 (v1.toNatClampNeg) = some r9) (o11 : am_ob Γ r9 0) (hbc : mc' ≤ bc) (hbs : ms' ≤ bs) (hC : am_E m_X0_halve d mc' ms' [.ref r9] Γ I L (.inl none) I' L') (kk : am_W m_X8_halveCounts (d + 1) mc ms al (bc - mc') (bs - ms') 28 [(0, .ref v0), (1, .int v1)] [] Γ I' L' Q) : am_W m_X8_halveCounts (d + 1) mc ms al bc bs 16 [(0, .ref v0), (1, .int v1)] [] Γ I L Q := by
  refine aw_aload_n dX8_halveCounts_16 rfl ?_
  refine aw_getR dX8_halveCounts_17 f_X8_19 o1 rfl g3 ?_
  refine aw_getR dX8_halveCounts_20 f_X8_121 o4 rfl g6 ?_
  refine aw_iload_n dX8_halveCounts_23 rfl ?_
  refine aw_aald dX8_halveCounts_24 a7 i8 g10 ?_
  exact aw_askV (as := []) (rst := []) k_X0_halve l_X8_157 i_X0_halve s_X0_halve rfl o11 dX8_halveCounts_25 rfl (Nat.le_of_ble_eq_true rfl) hbc hbs hC rfl rfl kk
theorem bX8_halveCounts_28 {d mc ms : Nat} {al : Bool} {bc bs : Nat} {Γ : am_G} {I : am_I} {L : am_L} {Q : am_Q} {v0 : Nat} {v1 : Int32} {r2 : Nat} {r5 : Nat} {n_r5 : Nat} {r9 : Nat} {I' : am_I} {L' : am_L} {mc' : Nat} {ms' : Nat} {r : Int32} (o1 : am_ob Γ v0 8) (g3 : Γ.2.2 v0 1 = some r2) (o4 : am_ob Γ r2 5) (g6 : Γ.2.2 r2 9 = some r5) (a7 : am_ar Γ r5 6 n_r5 0) (i8 : vp_in v1 n_r5) (g10 : Γ.2.2 r5 (v1.toNatClampNeg) = some r9) (hbc : mc' ≤ bc) (hbs : ms' ≤ bs) (hC : am_E m_X5_allTypes d mc' ms' [.ref r2] Γ I L (.inl (some (.int r))) I' L') (kk : am_W m_X8_halveCounts (d + 1) mc ms al (bc - mc') (bs - ms') 44 [(0, .ref v0), (1, .int v1)] [.int r, .ref r9] Γ I' L' Q) : am_W m_X8_halveCounts (d + 1) mc ms al bc bs 28 [(0, .ref v0), (1, .int v1)] [] Γ I L Q := by
  refine aw_aload_n dX8_halveCounts_28 rfl ?_
  refine aw_getR dX8_halveCounts_29 f_X8_19 o1 rfl g3 ?_
  refine aw_getR dX8_halveCounts_32 f_X8_121 o4 rfl g6 ?_
  refine aw_iload_n dX8_halveCounts_35 rfl ?_
  refine aw_aald dX8_halveCounts_36 a7 i8 g10 ?_
  refine aw_aload_n dX8_halveCounts_37 rfl ?_
  refine aw_getR dX8_halveCounts_38 f_X8_19 o1 rfl g3 ?_
  exact aw_askV (as := []) (rst := [.ref r9]) k_X5_allTypes l_X8_160 i_X5_allTypes s_X5_allTypes rfl o4 dX8_halveCounts_41 rfl (Nat.le_of_ble_eq_true rfl) hbc hbs hC rfl rfl kk
theorem bX8_halveCounts_44 {d mc ms : Nat} {al : Bool} {bc bs : Nat} {Γ : am_G} {I : am_I} {L : am_L} {Q : am_Q} {v0 : Nat} {v1 : Int32} {w0 : Nat} {w1 : Int32} {I' : am_I} {L' : am_L} {mc' : Nat} {ms' : Nat} {r : Int32} (o1 : am_ob Γ w0 0) (hbc : mc' ≤ bc) (hbs : ms' ≤ bs) (hC : am_E m_X0_weight d mc' ms' [.ref w0, .int w1] Γ I L (.inl (some (.int r))) I' L') (kk : am_W m_X8_halveCounts (d + 1) mc ms al (bc - mc') (bs - ms') 47 [(0, .ref v0), (1, .int v1)] [.int r] Γ I' L' Q) : am_W m_X8_halveCounts (d + 1) mc ms al bc bs 44 [(0, .ref v0), (1, .int v1)] [.int w1, .ref w0] Γ I L Q := by
  exact aw_askV (as := [.int w1]) (rst := []) k_X0_weight l_X8_163 i_X0_weight s_X0_weight rfl o1 dX8_halveCounts_44 rfl (Nat.le_of_ble_eq_true rfl) hbc hbs hC rfl rfl kk
theorem bX8_halveCounts_47 {d mc ms : Nat} {al : Bool} {bc bs : Nat} {Γ : am_G} {I : am_I} {L : am_L} {Q : am_Q} {v0 : Nat} {v1 : Int32} {w0 : Int32} (hq : Q (.inl (some (.int w0))) Γ I L) : am_W m_X8_halveCounts d mc ms al bc bs 47 [(0, .ref v0), (1, .int v1)] [.int w0] Γ I L Q := by
  exact aw_iret dX8_halveCounts_47 rfl hq
theorem dX8_setToll_0 : decode cX8_setToll 0 = .ok (.aload_n 0, 1) := by decide +kernel
theorem dX8_setToll_1 : decode cX8_setToll 1 = .ok (.iload_n 1, 1) := by decide +kernel
theorem dX8_setToll_2 : decode cX8_setToll 2 = .ok (.invokevirtual 118, 3) := by decide +kernel
theorem dX8_setToll_5 : decode cX8_setToll 5 = .ok (.iload_n 2, 1) := by decide +kernel
theorem dX8_setToll_6 : decode cX8_setToll 6 = .ok (.iconst 0, 1) := by decide +kernel
theorem dX8_setToll_7 : decode cX8_setToll 7 = .ok (.bipush 99, 2) := by decide +kernel
theorem dX8_setToll_9 : decode cX8_setToll 9 = .ok (.invokestatic 90, 3) := by decide +kernel
theorem dX8_setToll_12 : decode cX8_setToll 12 = .ok (.aload_n 0, 1) := by decide +kernel
theorem dX8_setToll_13 : decode cX8_setToll 13 = .ok (.getfield 38, 3) := by decide +kernel
theorem dX8_setToll_16 : decode cX8_setToll 16 = .ok (.aload_n 0, 1) := by decide +kernel
theorem dX8_setToll_17 : decode cX8_setToll 17 = .ok (.getfield 19, 3) := by decide +kernel
theorem dX8_setToll_20 : decode cX8_setToll 20 = .ok (.invokevirtual 137, 3) := by decide +kernel
theorem dX8_setToll_23 : decode cX8_setToll 23 = .ok (.aload_n 0, 1) := by decide +kernel
theorem dX8_setToll_24 : decode cX8_setToll 24 = .ok (.getfield 19, 3) := by decide +kernel
theorem dX8_setToll_27 : decode cX8_setToll 27 = .ok (.getfield 167, 3) := by decide +kernel
theorem dX8_setToll_30 : decode cX8_setToll 30 = .ok (.iload_n 1, 1) := by decide +kernel
theorem dX8_setToll_31 : decode cX8_setToll 31 = .ok (.iaload, 1) := by decide +kernel
theorem dX8_setToll_32 : decode cX8_setToll 32 = .ok (.istore_n 3, 1) := by decide +kernel
theorem dX8_setToll_33 : decode cX8_setToll 33 = .ok (.aload_n 0, 1) := by decide +kernel
theorem dX8_setToll_34 : decode cX8_setToll 34 = .ok (.getfield 19, 3) := by decide +kernel
theorem dX8_setToll_37 : decode cX8_setToll 37 = .ok (.getfield 167, 3) := by decide +kernel
theorem dX8_setToll_40 : decode cX8_setToll 40 = .ok (.iload_n 1, 1) := by decide +kernel
theorem dX8_setToll_41 : decode cX8_setToll 41 = .ok (.iload_n 2, 1) := by decide +kernel
theorem dX8_setToll_42 : decode cX8_setToll 42 = .ok (.iastore, 1) := by decide +kernel
theorem dX8_setToll_43 : decode cX8_setToll 43 = .ok (.iload_n 3, 1) := by decide +kernel
theorem dX8_setToll_44 : decode cX8_setToll 44 = .ok (.ireturn, 1) := by decide +kernel
theorem bX8_setToll_0 {d mc ms : Nat} {al : Bool} {bc bs : Nat} {Γ : am_G} {I : am_I} {L : am_L} {Q : am_Q} {v0 : Nat} {v1 : Int32} {v2 : Int32} {I' : am_I} {L' : am_L} {mc' : Nat} {ms' : Nat} (o1 : am_ob Γ v0 8) (hbc : mc' ≤ bc) (hbs : ms' ≤ bs) (hC : am_E m_X8_requireType d mc' ms' [.ref v0, .int v1] Γ I L (.inl none) I' L') (kk : am_W m_X8_setToll (d + 1) mc ms al (bc - mc') (bs - ms') 5 [(0, .ref v0), (1, .int v1), (2, .int v2)] [] Γ I' L' Q) : am_W m_X8_setToll (d + 1) mc ms al bc bs 0 [(0, .ref v0), (1, .int v1), (2, .int v2)] [] Γ I L Q := by
  refine aw_aload_n dX8_setToll_0 rfl ?_
  refine aw_iload_n dX8_setToll_1 rfl ?_
  exact aw_askV (as := [.int v1]) (rst := []) k_X8_requireType l_X8_118 i_X8_requireType s_X8_requireType rfl o1 dX8_setToll_2 rfl (Nat.le_of_ble_eq_true rfl) hbc hbs hC rfl rfl kk
theorem bX8_setToll_0x {d mc ms : Nat} {al : Bool} {bc bs : Nat} {Γ : am_G} {I : am_I} {L : am_L} {Q : am_Q} {v0 : Nat} {v1 : Int32} {v2 : Int32} {I' : am_I} {L' : am_L} {mc' : Nat} {ms' : Nat} {E : String} (o1 : am_ob Γ v0 8) (hbc : mc' ≤ bc) (hbs : ms' ≤ bs) (hC : am_E m_X8_requireType d mc' ms' [.ref v0, .int v1] Γ I L (.inr E) I' L') (hq : Q (.inr E) Γ I' L') : am_W m_X8_setToll (d + 1) mc ms al bc bs 0 [(0, .ref v0), (1, .int v1), (2, .int v2)] [] Γ I L Q := by
  refine aw_aload_n dX8_setToll_0 rfl ?_
  refine aw_iload_n dX8_setToll_1 rfl ?_
  exact aw_fallV (as := [.int v1]) (rst := []) k_X8_requireType l_X8_118 i_X8_requireType s_X8_requireType rfl o1 dX8_setToll_2 rfl (Nat.le_of_ble_eq_true rfl) hbc hbs rfl hC rfl hq
theorem bX8_setToll_5 {d mc ms : Nat} {al : Bool} {bc bs : Nat} {Γ : am_G} {I : am_I} {L : am_L} {Q : am_Q} {v0 : Nat} {v1 : Int32} {v2 : Int32} {I' : am_I} {L' : am_L} {mc' : Nat} {ms' : Nat} (hbc : mc' ≤ bc) (hbs : ms' ≤ bs) (hC : am_E m_X8_requireRange d mc' ms' [.int v2, .int 0, .int 99] Γ I L (.inl none) I' L') (kk : am_W m_X8_setToll (d + 1) mc ms al (bc - mc') (bs - ms') 12 [(0, .ref v0), (1, .int v1), (2, .int v2)] [] Γ I' L' Q) : am_W m_X8_setToll (d + 1) mc ms al bc bs 5 [(0, .ref v0), (1, .int v1), (2, .int v2)] [] Γ I L Q := by
  refine aw_iload_n dX8_setToll_5 rfl ?_
  refine aw_iconst dX8_setToll_6 ci_0 ?_
  refine aw_bipush dX8_setToll_7 cb_99 ?_
  exact aw_askS (as := [.int v2, .int 0, .int 99]) (rst := []) k_X8_requireRange l_X8_90 t_X8_requireRange dX8_setToll_9 rfl (Nat.le_of_ble_eq_true rfl) hbc hbs hC rfl rfl kk
theorem bX8_setToll_5x {d mc ms : Nat} {al : Bool} {bc bs : Nat} {Γ : am_G} {I : am_I} {L : am_L} {Q : am_Q} {v0 : Nat} {v1 : Int32} {v2 : Int32} {I' : am_I} {L' : am_L} {mc' : Nat} {ms' : Nat} {E : String} (hbc : mc' ≤ bc) (hbs : ms' ≤ bs) (hC : am_E m_X8_requireRange d mc' ms' [.int v2, .int 0, .int 99] Γ I L (.inr E) I' L') (hq : Q (.inr E) Γ I' L') : am_W m_X8_setToll (d + 1) mc ms al bc bs 5 [(0, .ref v0), (1, .int v1), (2, .int v2)] [] Γ I L Q := by
  refine aw_iload_n dX8_setToll_5 rfl ?_
  refine aw_iconst dX8_setToll_6 ci_0 ?_
  refine aw_bipush dX8_setToll_7 cb_99 ?_
  exact aw_fallS (as := [.int v2, .int 0, .int 99]) (rst := []) k_X8_requireRange l_X8_90 t_X8_requireRange dX8_setToll_9 rfl (Nat.le_of_ble_eq_true rfl) hbc hbs rfl hC rfl hq
theorem bX8_setToll_12 {d mc ms : Nat} {al : Bool} {bc bs : Nat} {Γ : am_G} {I : am_I} {L : am_L} {Q : am_Q} {v0 : Nat} {v1 : Int32} {v2 : Int32} {r2 : Nat} {r4 : Nat} {I' : am_I} {L' : am_L} {mc' : Nat} {ms' : Nat} (o1 : am_ob Γ v0 8) (g3 : Γ.2.2 v0 4 = some r2) (g5 : Γ.2.2 v0 1 = some r4) (o6 : am_ob Γ r2 1) (hbc : mc' ≤ bc) (hbs : ms' ≤ bs) (hC : am_E m_X1_remember d mc' ms' [.ref r2, .ref r4] Γ I L (.inl none) I' L') (kk : am_W m_X8_setToll (d + 1) mc ms al (bc - mc') (bs - ms') 23 [(0, .ref v0), (1, .int v1), (2, .int v2)] [] Γ I' L' Q) : am_W m_X8_setToll (d + 1) mc ms al bc bs 12 [(0, .ref v0), (1, .int v1), (2, .int v2)] [] Γ I L Q := by
  refine aw_aload_n dX8_setToll_12 rfl ?_
  refine aw_getR dX8_setToll_13 f_X8_38 o1 rfl g3 ?_
  refine aw_aload_n dX8_setToll_16 rfl ?_
  refine aw_getR dX8_setToll_17 f_X8_19 o1 rfl g5 ?_
  exact aw_askV (as := [.ref r4]) (rst := []) k_X1_remember l_X8_137 i_X1_remember s_X1_remember rfl o6 dX8_setToll_20 rfl (Nat.le_of_ble_eq_true rfl) hbc hbs hC rfl rfl kk
theorem bX8_setToll_23 {d mc ms : Nat} {al : Bool} {bc bs : Nat} {Γ : am_G} {I : am_I} {L : am_L} {Q : am_Q} {v0 : Nat} {v1 : Int32} {v2 : Int32} {r2 : Nat} {r5 : Nat} {n_r5 : Nat} (o1 : am_ob Γ v0 8) (g3 : Γ.2.2 v0 1 = some r2) (o4 : am_ob Γ r2 5) (g6 : Γ.2.2 r2 8 = some r5) (a7 : am_ar Γ r5 1 n_r5 0) (i8 : vp_in v1 n_r5) (hq : Q (.inl (some (.int (I r5 (v1.toNatClampNeg))))) Γ (am_u I r5 (v1.toNatClampNeg) v2) L) : am_W m_X8_setToll d mc ms al bc bs 23 [(0, .ref v0), (1, .int v1), (2, .int v2)] [] Γ I L Q := by
  refine aw_aload_n dX8_setToll_23 rfl ?_
  refine aw_getR dX8_setToll_24 f_X8_19 o1 rfl g3 ?_
  refine aw_getR dX8_setToll_27 f_X8_167 o4 rfl g6 ?_
  refine aw_iload_n dX8_setToll_30 rfl ?_
  refine aw_iald dX8_setToll_31 a7 i8 ?_
  refine aw_istore_n (ls' := [(0, .ref v0), (1, .int v1), (2, .int v2), (3, .int (I r5 (v1.toNatClampNeg)))]) dX8_setToll_32 (by decide) rfl ?_
  refine aw_aload_n dX8_setToll_33 rfl ?_
  refine aw_getR dX8_setToll_34 f_X8_19 o1 rfl g3 ?_
  refine aw_getR dX8_setToll_37 f_X8_167 o4 rfl g6 ?_
  refine aw_iload_n dX8_setToll_40 rfl ?_
  refine aw_iload_n dX8_setToll_41 rfl ?_
  refine aw_iast dX8_setToll_42 a7 i8 ?_
  refine aw_iload_n dX8_setToll_43 rfl ?_
  exact aw_iret dX8_setToll_44 rfl hq
theorem dX8_setCostLimit_0 : decode cX8_setCostLimit 0 = .ok (.aload_n 0, 1) := by decide +kernel
theorem dX8_setCostLimit_1 : decode cX8_setCostLimit 1 = .ok (.iload_n 1, 1) := by decide +kernel
theorem dX8_setCostLimit_2 : decode cX8_setCostLimit 2 = .ok (.invokevirtual 115, 3) := by decide +kernel
theorem dX8_setCostLimit_5 : decode cX8_setCostLimit 5 = .ok (.iload_n 2, 1) := by decide +kernel
theorem dX8_setCostLimit_6 : decode cX8_setCostLimit 6 = .ok (.iconst 0, 1) := by decide +kernel
theorem dX8_setCostLimit_7 : decode cX8_setCostLimit 7 = .ok (.bipush 30, 2) := by decide +kernel
theorem dX8_setCostLimit_9 : decode cX8_setCostLimit 9 = .ok (.invokestatic 90, 3) := by decide +kernel
theorem dX8_setCostLimit_12 : decode cX8_setCostLimit 12 = .ok (.aload_n 0, 1) := by decide +kernel
theorem dX8_setCostLimit_13 : decode cX8_setCostLimit 13 = .ok (.getfield 38, 3) := by decide +kernel
theorem dX8_setCostLimit_16 : decode cX8_setCostLimit 16 = .ok (.aload_n 0, 1) := by decide +kernel
theorem dX8_setCostLimit_17 : decode cX8_setCostLimit 17 = .ok (.getfield 19, 3) := by decide +kernel
theorem dX8_setCostLimit_20 : decode cX8_setCostLimit 20 = .ok (.invokevirtual 137, 3) := by decide +kernel
theorem dX8_setCostLimit_23 : decode cX8_setCostLimit 23 = .ok (.aload_n 0, 1) := by decide +kernel
theorem dX8_setCostLimit_24 : decode cX8_setCostLimit 24 = .ok (.getfield 19, 3) := by decide +kernel
theorem dX8_setCostLimit_27 : decode cX8_setCostLimit 27 = .ok (.getfield 121, 3) := by decide +kernel
theorem dX8_setCostLimit_30 : decode cX8_setCostLimit 30 = .ok (.iload_n 1, 1) := by decide +kernel
theorem dX8_setCostLimit_31 : decode cX8_setCostLimit 31 = .ok (.aaload, 1) := by decide +kernel
theorem dX8_setCostLimit_32 : decode cX8_setCostLimit 32 = .ok (.getfield 171, 3) := by decide +kernel
theorem dX8_setCostLimit_35 : decode cX8_setCostLimit 35 = .ok (.istore_n 3, 1) := by decide +kernel
theorem dX8_setCostLimit_36 : decode cX8_setCostLimit 36 = .ok (.aload_n 0, 1) := by decide +kernel
theorem dX8_setCostLimit_37 : decode cX8_setCostLimit 37 = .ok (.getfield 19, 3) := by decide +kernel
theorem dX8_setCostLimit_40 : decode cX8_setCostLimit 40 = .ok (.getfield 121, 3) := by decide +kernel
theorem dX8_setCostLimit_43 : decode cX8_setCostLimit 43 = .ok (.iload_n 1, 1) := by decide +kernel
theorem dX8_setCostLimit_44 : decode cX8_setCostLimit 44 = .ok (.aaload, 1) := by decide +kernel
theorem dX8_setCostLimit_45 : decode cX8_setCostLimit 45 = .ok (.iload_n 2, 1) := by decide +kernel
theorem dX8_setCostLimit_46 : decode cX8_setCostLimit 46 = .ok (.putfield 171, 3) := by decide +kernel
theorem dX8_setCostLimit_49 : decode cX8_setCostLimit 49 = .ok (.iload_n 3, 1) := by decide +kernel
theorem dX8_setCostLimit_50 : decode cX8_setCostLimit 50 = .ok (.ireturn, 1) := by decide +kernel
theorem bX8_setCostLimit_0 {d mc ms : Nat} {al : Bool} {bc bs : Nat} {Γ : am_G} {I : am_I} {L : am_L} {Q : am_Q} {v0 : Nat} {v1 : Int32} {v2 : Int32} {I' : am_I} {L' : am_L} {mc' : Nat} {ms' : Nat} (o1 : am_ob Γ v0 8) (hbc : mc' ≤ bc) (hbs : ms' ≤ bs) (hC : am_E m_X8_requireGate d mc' ms' [.ref v0, .int v1] Γ I L (.inl none) I' L') (kk : am_W m_X8_setCostLimit (d + 1) mc ms al (bc - mc') (bs - ms') 5 [(0, .ref v0), (1, .int v1), (2, .int v2)] [] Γ I' L' Q) : am_W m_X8_setCostLimit (d + 1) mc ms al bc bs 0 [(0, .ref v0), (1, .int v1), (2, .int v2)] [] Γ I L Q := by
  refine aw_aload_n dX8_setCostLimit_0 rfl ?_
  refine aw_iload_n dX8_setCostLimit_1 rfl ?_
  exact aw_askV (as := [.int v1]) (rst := []) k_X8_requireGate l_X8_115 i_X8_requireGate s_X8_requireGate rfl o1 dX8_setCostLimit_2 rfl (Nat.le_of_ble_eq_true rfl) hbc hbs hC rfl rfl kk
theorem bX8_setCostLimit_0x {d mc ms : Nat} {al : Bool} {bc bs : Nat} {Γ : am_G} {I : am_I} {L : am_L} {Q : am_Q} {v0 : Nat} {v1 : Int32} {v2 : Int32} {I' : am_I} {L' : am_L} {mc' : Nat} {ms' : Nat} {E : String} (o1 : am_ob Γ v0 8) (hbc : mc' ≤ bc) (hbs : ms' ≤ bs) (hC : am_E m_X8_requireGate d mc' ms' [.ref v0, .int v1] Γ I L (.inr E) I' L') (hq : Q (.inr E) Γ I' L') : am_W m_X8_setCostLimit (d + 1) mc ms al bc bs 0 [(0, .ref v0), (1, .int v1), (2, .int v2)] [] Γ I L Q := by
  refine aw_aload_n dX8_setCostLimit_0 rfl ?_
  refine aw_iload_n dX8_setCostLimit_1 rfl ?_
  exact aw_fallV (as := [.int v1]) (rst := []) k_X8_requireGate l_X8_115 i_X8_requireGate s_X8_requireGate rfl o1 dX8_setCostLimit_2 rfl (Nat.le_of_ble_eq_true rfl) hbc hbs rfl hC rfl hq
theorem bX8_setCostLimit_5 {d mc ms : Nat} {al : Bool} {bc bs : Nat} {Γ : am_G} {I : am_I} {L : am_L} {Q : am_Q} {v0 : Nat} {v1 : Int32} {v2 : Int32} {I' : am_I} {L' : am_L} {mc' : Nat} {ms' : Nat} (hbc : mc' ≤ bc) (hbs : ms' ≤ bs) (hC : am_E m_X8_requireRange d mc' ms' [.int v2, .int 0, .int 30] Γ I L (.inl none) I' L') (kk : am_W m_X8_setCostLimit (d + 1) mc ms al (bc - mc') (bs - ms') 12 [(0, .ref v0), (1, .int v1), (2, .int v2)] [] Γ I' L' Q) : am_W m_X8_setCostLimit (d + 1) mc ms al bc bs 5 [(0, .ref v0), (1, .int v1), (2, .int v2)] [] Γ I L Q := by
  refine aw_iload_n dX8_setCostLimit_5 rfl ?_
  refine aw_iconst dX8_setCostLimit_6 ci_0 ?_
  refine aw_bipush dX8_setCostLimit_7 cb_30 ?_
  exact aw_askS (as := [.int v2, .int 0, .int 30]) (rst := []) k_X8_requireRange l_X8_90 t_X8_requireRange dX8_setCostLimit_9 rfl (Nat.le_of_ble_eq_true rfl) hbc hbs hC rfl rfl kk
theorem bX8_setCostLimit_5x {d mc ms : Nat} {al : Bool} {bc bs : Nat} {Γ : am_G} {I : am_I} {L : am_L} {Q : am_Q} {v0 : Nat} {v1 : Int32} {v2 : Int32} {I' : am_I} {L' : am_L} {mc' : Nat} {ms' : Nat} {E : String} (hbc : mc' ≤ bc) (hbs : ms' ≤ bs) (hC : am_E m_X8_requireRange d mc' ms' [.int v2, .int 0, .int 30] Γ I L (.inr E) I' L') (hq : Q (.inr E) Γ I' L') : am_W m_X8_setCostLimit (d + 1) mc ms al bc bs 5 [(0, .ref v0), (1, .int v1), (2, .int v2)] [] Γ I L Q := by
  refine aw_iload_n dX8_setCostLimit_5 rfl ?_
  refine aw_iconst dX8_setCostLimit_6 ci_0 ?_
  refine aw_bipush dX8_setCostLimit_7 cb_30 ?_
  exact aw_fallS (as := [.int v2, .int 0, .int 30]) (rst := []) k_X8_requireRange l_X8_90 t_X8_requireRange dX8_setCostLimit_9 rfl (Nat.le_of_ble_eq_true rfl) hbc hbs rfl hC rfl hq
theorem bX8_setCostLimit_12 {d mc ms : Nat} {al : Bool} {bc bs : Nat} {Γ : am_G} {I : am_I} {L : am_L} {Q : am_Q} {v0 : Nat} {v1 : Int32} {v2 : Int32} {r2 : Nat} {r4 : Nat} {I' : am_I} {L' : am_L} {mc' : Nat} {ms' : Nat} (o1 : am_ob Γ v0 8) (g3 : Γ.2.2 v0 4 = some r2) (g5 : Γ.2.2 v0 1 = some r4) (o6 : am_ob Γ r2 1) (hbc : mc' ≤ bc) (hbs : ms' ≤ bs) (hC : am_E m_X1_remember d mc' ms' [.ref r2, .ref r4] Γ I L (.inl none) I' L') (kk : am_W m_X8_setCostLimit (d + 1) mc ms al (bc - mc') (bs - ms') 23 [(0, .ref v0), (1, .int v1), (2, .int v2)] [] Γ I' L' Q) : am_W m_X8_setCostLimit (d + 1) mc ms al bc bs 12 [(0, .ref v0), (1, .int v1), (2, .int v2)] [] Γ I L Q := by
  refine aw_aload_n dX8_setCostLimit_12 rfl ?_
  refine aw_getR dX8_setCostLimit_13 f_X8_38 o1 rfl g3 ?_
  refine aw_aload_n dX8_setCostLimit_16 rfl ?_
  refine aw_getR dX8_setCostLimit_17 f_X8_19 o1 rfl g5 ?_
  exact aw_askV (as := [.ref r4]) (rst := []) k_X1_remember l_X8_137 i_X1_remember s_X1_remember rfl o6 dX8_setCostLimit_20 rfl (Nat.le_of_ble_eq_true rfl) hbc hbs hC rfl rfl kk
theorem bX8_setCostLimit_23 {d mc ms : Nat} {al : Bool} {bc bs : Nat} {Γ : am_G} {I : am_I} {L : am_L} {Q : am_Q} {v0 : Nat} {v1 : Int32} {v2 : Int32} {r2 : Nat} {r5 : Nat} {n_r5 : Nat} {r9 : Nat} (o1 : am_ob Γ v0 8) (g3 : Γ.2.2 v0 1 = some r2) (o4 : am_ob Γ r2 5) (g6 : Γ.2.2 r2 9 = some r5) (a7 : am_ar Γ r5 6 n_r5 0) (i8 : vp_in v1 n_r5) (g10 : Γ.2.2 r5 (v1.toNatClampNeg) = some r9) (o11 : am_ob Γ r9 0) (hq : Q (.inl (some (.int (I r9 3)))) Γ (am_u I r9 3 v2) L) : am_W m_X8_setCostLimit d mc ms al bc bs 23 [(0, .ref v0), (1, .int v1), (2, .int v2)] [] Γ I L Q := by
  refine aw_aload_n dX8_setCostLimit_23 rfl ?_
  refine aw_getR dX8_setCostLimit_24 f_X8_19 o1 rfl g3 ?_
  refine aw_getR dX8_setCostLimit_27 f_X8_121 o4 rfl g6 ?_
  refine aw_iload_n dX8_setCostLimit_30 rfl ?_
  refine aw_aald dX8_setCostLimit_31 a7 i8 g10 ?_
  refine aw_getI dX8_setCostLimit_32 f_X8_171 o11 rfl ?_
  refine aw_istore_n (ls' := [(0, .ref v0), (1, .int v1), (2, .int v2), (3, .int (I r9 3))]) dX8_setCostLimit_35 (by decide) rfl ?_
  refine aw_aload_n dX8_setCostLimit_36 rfl ?_
  refine aw_getR dX8_setCostLimit_37 f_X8_19 o1 rfl g3 ?_
  refine aw_getR dX8_setCostLimit_40 f_X8_121 o4 rfl g6 ?_
  refine aw_iload_n dX8_setCostLimit_43 rfl ?_
  refine aw_aald dX8_setCostLimit_44 a7 i8 g10 ?_
  refine aw_iload_n dX8_setCostLimit_45 rfl ?_
  refine aw_putI dX8_setCostLimit_46 pf_X8_171 o11 rfl ?_
  refine aw_iload_n dX8_setCostLimit_49 rfl ?_
  exact aw_iret dX8_setCostLimit_50 rfl hq
theorem dX8_advanceClock_0 : decode cX8_advanceClock 0 = .ok (.iload_n 1, 1) := by decide +kernel
theorem dX8_advanceClock_1 : decode cX8_advanceClock 1 = .ok (.iconst 1, 1) := by decide +kernel
theorem dX8_advanceClock_2 : decode cX8_advanceClock 2 = .ok (.bipush 100, 2) := by decide +kernel
theorem dX8_advanceClock_4 : decode cX8_advanceClock 4 = .ok (.invokestatic 90, 3) := by decide +kernel
theorem dX8_advanceClock_7 : decode cX8_advanceClock 7 = .ok (.aload_n 0, 1) := by decide +kernel
theorem dX8_advanceClock_8 : decode cX8_advanceClock 8 = .ok (.getfield 19, 3) := by decide +kernel
theorem dX8_advanceClock_11 : decode cX8_advanceClock 11 = .ok (.getfield 174, 3) := by decide +kernel
theorem dX8_advanceClock_14 : decode cX8_advanceClock 14 = .ok (.iload_n 1, 1) := by decide +kernel
theorem dX8_advanceClock_15 : decode cX8_advanceClock 15 = .ok (.iadd, 1) := by decide +kernel
theorem dX8_advanceClock_16 : decode cX8_advanceClock 16 = .ok (.sipush 9999, 3) := by decide +kernel
theorem dX8_advanceClock_19 : decode cX8_advanceClock 19 = .ok (.if_icmp .le 11, 3) := by decide +kernel
theorem dX8_advanceClock_22 : decode cX8_advanceClock 22 = .ok (.new 134, 3) := by decide +kernel
theorem dX8_advanceClock_25 : decode cX8_advanceClock 25 = .ok (.dup, 1) := by decide +kernel
theorem dX8_advanceClock_26 : decode cX8_advanceClock 26 = .ok (.invokespecial 136, 3) := by decide +kernel
theorem dX8_advanceClock_29 : decode cX8_advanceClock 29 = .ok (.athrow, 1) := by decide +kernel
theorem dX8_advanceClock_30 : decode cX8_advanceClock 30 = .ok (.aload_n 0, 1) := by decide +kernel
theorem dX8_advanceClock_31 : decode cX8_advanceClock 31 = .ok (.getfield 38, 3) := by decide +kernel
theorem dX8_advanceClock_34 : decode cX8_advanceClock 34 = .ok (.aload_n 0, 1) := by decide +kernel
theorem dX8_advanceClock_35 : decode cX8_advanceClock 35 = .ok (.getfield 19, 3) := by decide +kernel
theorem dX8_advanceClock_38 : decode cX8_advanceClock 38 = .ok (.invokevirtual 137, 3) := by decide +kernel
theorem dX8_advanceClock_41 : decode cX8_advanceClock 41 = .ok (.aload_n 0, 1) := by decide +kernel
theorem dX8_advanceClock_42 : decode cX8_advanceClock 42 = .ok (.getfield 19, 3) := by decide +kernel
theorem dX8_advanceClock_45 : decode cX8_advanceClock 45 = .ok (.dup, 1) := by decide +kernel
theorem dX8_advanceClock_46 : decode cX8_advanceClock 46 = .ok (.getfield 174, 3) := by decide +kernel
theorem dX8_advanceClock_49 : decode cX8_advanceClock 49 = .ok (.iload_n 1, 1) := by decide +kernel
theorem dX8_advanceClock_50 : decode cX8_advanceClock 50 = .ok (.iadd, 1) := by decide +kernel
theorem dX8_advanceClock_51 : decode cX8_advanceClock 51 = .ok (.putfield 174, 3) := by decide +kernel
theorem dX8_advanceClock_54 : decode cX8_advanceClock 54 = .ok (.aload_n 0, 1) := by decide +kernel
theorem dX8_advanceClock_55 : decode cX8_advanceClock 55 = .ok (.getfield 19, 3) := by decide +kernel
theorem dX8_advanceClock_58 : decode cX8_advanceClock 58 = .ok (.invokevirtual 177, 3) := by decide +kernel
theorem dX8_advanceClock_61 : decode cX8_advanceClock 61 = .ok (.ireturn, 1) := by decide +kernel
theorem bX8_advanceClock_0 {d mc ms : Nat} {al : Bool} {bc bs : Nat} {Γ : am_G} {I : am_I} {L : am_L} {Q : am_Q} {v0 : Nat} {v1 : Int32} {I' : am_I} {L' : am_L} {mc' : Nat} {ms' : Nat} (hbc : mc' ≤ bc) (hbs : ms' ≤ bs) (hC : am_E m_X8_requireRange d mc' ms' [.int v1, .int 1, .int 100] Γ I L (.inl none) I' L') (kk : am_W m_X8_advanceClock (d + 1) mc ms al (bc - mc') (bs - ms') 7 [(0, .ref v0), (1, .int v1)] [] Γ I' L' Q) : am_W m_X8_advanceClock (d + 1) mc ms al bc bs 0 [(0, .ref v0), (1, .int v1)] [] Γ I L Q := by
  refine aw_iload_n dX8_advanceClock_0 rfl ?_
  refine aw_iconst dX8_advanceClock_1 ci_1 ?_
  refine aw_bipush dX8_advanceClock_2 cb_100 ?_
  exact aw_askS (as := [.int v1, .int 1, .int 100]) (rst := []) k_X8_requireRange l_X8_90 t_X8_requireRange dX8_advanceClock_4 rfl (Nat.le_of_ble_eq_true rfl) hbc hbs hC rfl rfl kk
theorem bX8_advanceClock_0x {d mc ms : Nat} {al : Bool} {bc bs : Nat} {Γ : am_G} {I : am_I} {L : am_L} {Q : am_Q} {v0 : Nat} {v1 : Int32} {I' : am_I} {L' : am_L} {mc' : Nat} {ms' : Nat} {E : String} (hbc : mc' ≤ bc) (hbs : ms' ≤ bs) (hC : am_E m_X8_requireRange d mc' ms' [.int v1, .int 1, .int 100] Γ I L (.inr E) I' L') (hq : Q (.inr E) Γ I' L') : am_W m_X8_advanceClock (d + 1) mc ms al bc bs 0 [(0, .ref v0), (1, .int v1)] [] Γ I L Q := by
  refine aw_iload_n dX8_advanceClock_0 rfl ?_
  refine aw_iconst dX8_advanceClock_1 ci_1 ?_
  refine aw_bipush dX8_advanceClock_2 cb_100 ?_
  exact aw_fallS (as := [.int v1, .int 1, .int 100]) (rst := []) k_X8_requireRange l_X8_90 t_X8_requireRange dX8_advanceClock_4 rfl (Nat.le_of_ble_eq_true rfl) hbc hbs rfl hC rfl hq
theorem bX8_advanceClock_7 {d mc ms : Nat} {al : Bool} {bc bs : Nat} {Γ : am_G} {I : am_I} {L : am_L} {Q : am_Q} {v0 : Nat} {v1 : Int32} {r2 : Nat} (o1 : am_ob Γ v0 8) (g3 : Γ.2.2 v0 1 = some r2) (o4 : am_ob Γ r2 5) (kt : ((I r2 3) + v1) ≤ 9999 → am_W m_X8_advanceClock d mc ms al bc bs 30 [(0, .ref v0), (1, .int v1)] [] Γ I L Q) (kf : ¬ ((I r2 3) + v1) ≤ 9999 → am_W m_X8_advanceClock d mc ms al bc bs 22 [(0, .ref v0), (1, .int v1)] [] Γ I L Q) : am_W m_X8_advanceClock d mc ms al bc bs 7 [(0, .ref v0), (1, .int v1)] [] Γ I L Q := by
  refine aw_aload_n dX8_advanceClock_7 rfl ?_
  refine aw_getR dX8_advanceClock_8 f_X8_19 o1 rfl g3 ?_
  refine aw_getI dX8_advanceClock_11 f_X8_174 o4 rfl ?_
  refine aw_iload_n dX8_advanceClock_14 rfl ?_
  refine aw_iadd dX8_advanceClock_15 ?_
  refine aw_sipush dX8_advanceClock_16 cs_9999 ?_
  exact aw_icmp_le dX8_advanceClock_19 (by decide) kt kf
theorem bX8_advanceClock_22 {d mc ms : Nat} {al : Bool} {bc bs : Nat} {Γ : am_G} {I : am_I} {L : am_L} {Q : am_Q} {v0 : Nat} {v1 : Int32} (hb : 1 ≤ bc) (hb2 : 6 ≤ bs) (hq : Q (.inr "java/lang/IllegalStateException") Γ I L) : am_W m_X8_advanceClock d mc ms al bc bs 22 [(0, .ref v0), (1, .int v1)] [] Γ I L Q := by
  have e1 : bc - 1 + 1 = bc := by omega
  have e2 : bs - 6 + 6 = bs := by omega
  have k9 := aw_throw (mi := m_X8_advanceClock) (d := d) (mc := mc) (ms := ms) (al := al) (bc := bc - 1) (bs := bs - 6) (ls := [(0, .ref v0), (1, .int v1)]) (st := []) (Γ := Γ) (I := I) (L := L) (Q := Q) tk_X8_134_136 rfl dX8_advanceClock_22 dX8_advanceClock_25 dX8_advanceClock_26 dX8_advanceClock_29 (Nat.le_of_ble_eq_true rfl) hq
  rw [e1, e2] at k9
  exact k9
theorem bX8_advanceClock_30 {d mc ms : Nat} {al : Bool} {bc bs : Nat} {Γ : am_G} {I : am_I} {L : am_L} {Q : am_Q} {v0 : Nat} {v1 : Int32} {r2 : Nat} {r4 : Nat} {I' : am_I} {L' : am_L} {mc' : Nat} {ms' : Nat} (o1 : am_ob Γ v0 8) (g3 : Γ.2.2 v0 4 = some r2) (g5 : Γ.2.2 v0 1 = some r4) (o6 : am_ob Γ r2 1) (hbc : mc' ≤ bc) (hbs : ms' ≤ bs) (hC : am_E m_X1_remember d mc' ms' [.ref r2, .ref r4] Γ I L (.inl none) I' L') (kk : am_W m_X8_advanceClock (d + 1) mc ms al (bc - mc') (bs - ms') 41 [(0, .ref v0), (1, .int v1)] [] Γ I' L' Q) : am_W m_X8_advanceClock (d + 1) mc ms al bc bs 30 [(0, .ref v0), (1, .int v1)] [] Γ I L Q := by
  refine aw_aload_n dX8_advanceClock_30 rfl ?_
  refine aw_getR dX8_advanceClock_31 f_X8_38 o1 rfl g3 ?_
  refine aw_aload_n dX8_advanceClock_34 rfl ?_
  refine aw_getR dX8_advanceClock_35 f_X8_19 o1 rfl g5 ?_
  exact aw_askV (as := [.ref r4]) (rst := []) k_X1_remember l_X8_137 i_X1_remember s_X1_remember rfl o6 dX8_advanceClock_38 rfl (Nat.le_of_ble_eq_true rfl) hbc hbs hC rfl rfl kk
theorem bX8_advanceClock_41 {d mc ms : Nat} {al : Bool} {bc bs : Nat} {Γ : am_G} {I : am_I} {L : am_L} {Q : am_Q} {v0 : Nat} {v1 : Int32} {r2 : Nat} {I' : am_I} {L' : am_L} {mc' : Nat} {ms' : Nat} {r : Int32} (o1 : am_ob Γ v0 8) (g3 : Γ.2.2 v0 1 = some r2) (o4 : am_ob Γ r2 5) (hbc : mc' ≤ bc) (hbs : ms' ≤ bs) (hC : am_E m_X5_openGates d mc' ms' [.ref r2] Γ (am_u I r2 3 ((I r2 3) + v1)) L (.inl (some (.int r))) I' L') (kk : am_W m_X8_advanceClock (d + 1) mc ms al (bc - mc') (bs - ms') 61 [(0, .ref v0), (1, .int v1)] [.int r] Γ I' L' Q) : am_W m_X8_advanceClock (d + 1) mc ms al bc bs 41 [(0, .ref v0), (1, .int v1)] [] Γ I L Q := by
  refine aw_aload_n dX8_advanceClock_41 rfl ?_
  refine aw_getR dX8_advanceClock_42 f_X8_19 o1 rfl g3 ?_
  refine aw_dup dX8_advanceClock_45 rfl ?_
  refine aw_getI dX8_advanceClock_46 f_X8_174 o4 rfl ?_
  refine aw_iload_n dX8_advanceClock_49 rfl ?_
  refine aw_iadd dX8_advanceClock_50 ?_
  refine aw_putI dX8_advanceClock_51 pf_X8_174 o4 rfl ?_
  refine aw_aload_n dX8_advanceClock_54 rfl ?_
  refine aw_getR dX8_advanceClock_55 f_X8_19 o1 rfl g3 ?_
  exact aw_askV (as := []) (rst := []) k_X5_openGates l_X8_177 i_X5_openGates s_X5_openGates rfl o4 dX8_advanceClock_58 rfl (Nat.le_of_ble_eq_true rfl) hbc hbs hC rfl rfl kk
theorem bX8_advanceClock_61 {d mc ms : Nat} {al : Bool} {bc bs : Nat} {Γ : am_G} {I : am_I} {L : am_L} {Q : am_Q} {v0 : Nat} {v1 : Int32} {w0 : Int32} (hq : Q (.inl (some (.int w0))) Γ I L) : am_W m_X8_advanceClock d mc ms al bc bs 61 [(0, .ref v0), (1, .int v1)] [.int w0] Γ I L Q := by
  exact aw_iret dX8_advanceClock_61 rfl hq
theorem dX8_undo_0 : decode cX8_undo 0 = .ok (.aload_n 0, 1) := by decide +kernel
theorem dX8_undo_1 : decode cX8_undo 1 = .ok (.getfield 38, 3) := by decide +kernel
theorem dX8_undo_4 : decode cX8_undo 4 = .ok (.getfield 180, 3) := by decide +kernel
theorem dX8_undo_7 : decode cX8_undo 7 = .ok (.ifCond .ne 11, 3) := by decide +kernel
theorem dX8_undo_10 : decode cX8_undo 10 = .ok (.new 134, 3) := by decide +kernel
theorem dX8_undo_13 : decode cX8_undo 13 = .ok (.dup, 1) := by decide +kernel
theorem dX8_undo_14 : decode cX8_undo 14 = .ok (.invokespecial 136, 3) := by decide +kernel
theorem dX8_undo_17 : decode cX8_undo 17 = .ok (.athrow, 1) := by decide +kernel
theorem dX8_undo_18 : decode cX8_undo 18 = .ok (.aload_n 0, 1) := by decide +kernel
theorem dX8_undo_19 : decode cX8_undo 19 = .ok (.getfield 38, 3) := by decide +kernel
theorem dX8_undo_22 : decode cX8_undo 22 = .ok (.aload_n 0, 1) := by decide +kernel
theorem dX8_undo_23 : decode cX8_undo 23 = .ok (.getfield 19, 3) := by decide +kernel
theorem dX8_undo_26 : decode cX8_undo 26 = .ok (.invokevirtual 181, 3) := by decide +kernel
theorem dX8_undo_29 : decode cX8_undo 29 = .ok (.aload_n 0, 1) := by decide +kernel
theorem dX8_undo_30 : decode cX8_undo 30 = .ok (.getfield 38, 3) := by decide +kernel
theorem dX8_undo_33 : decode cX8_undo 33 = .ok (.getfield 180, 3) := by decide +kernel
theorem dX8_undo_36 : decode cX8_undo 36 = .ok (.ireturn, 1) := by decide +kernel
theorem bX8_undo_0 {d mc ms : Nat} {al : Bool} {bc bs : Nat} {Γ : am_G} {I : am_I} {L : am_L} {Q : am_Q} {v0 : Nat} {r2 : Nat} (o1 : am_ob Γ v0 8) (g3 : Γ.2.2 v0 4 = some r2) (o4 : am_ob Γ r2 1) (kt : ¬ (I r2 2) = 0 → am_W m_X8_undo d mc ms al bc bs 18 [(0, .ref v0)] [] Γ I L Q) (kf : (I r2 2) = 0 → am_W m_X8_undo d mc ms al bc bs 10 [(0, .ref v0)] [] Γ I L Q) : am_W m_X8_undo d mc ms al bc bs 0 [(0, .ref v0)] [] Γ I L Q := by
  refine aw_aload_n dX8_undo_0 rfl ?_
  refine aw_getR dX8_undo_1 f_X8_38 o1 rfl g3 ?_
  refine aw_getI dX8_undo_4 f_X8_180 o4 rfl ?_
  exact aw_if_ne dX8_undo_7 (by decide) kt kf
theorem bX8_undo_10 {d mc ms : Nat} {al : Bool} {bc bs : Nat} {Γ : am_G} {I : am_I} {L : am_L} {Q : am_Q} {v0 : Nat} (hb : 1 ≤ bc) (hb2 : 6 ≤ bs) (hq : Q (.inr "java/lang/IllegalStateException") Γ I L) : am_W m_X8_undo d mc ms al bc bs 10 [(0, .ref v0)] [] Γ I L Q := by
  have e1 : bc - 1 + 1 = bc := by omega
  have e2 : bs - 6 + 6 = bs := by omega
  have k9 := aw_throw (mi := m_X8_undo) (d := d) (mc := mc) (ms := ms) (al := al) (bc := bc - 1) (bs := bs - 6) (ls := [(0, .ref v0)]) (st := []) (Γ := Γ) (I := I) (L := L) (Q := Q) tk_X8_134_136 rfl dX8_undo_10 dX8_undo_13 dX8_undo_14 dX8_undo_17 (Nat.le_of_ble_eq_true rfl) hq
  rw [e1, e2] at k9
  exact k9
theorem bX8_undo_18 {d mc ms : Nat} {al : Bool} {bc bs : Nat} {Γ : am_G} {I : am_I} {L : am_L} {Q : am_Q} {v0 : Nat} {r2 : Nat} {r4 : Nat} {I' : am_I} {L' : am_L} {mc' : Nat} {ms' : Nat} (o1 : am_ob Γ v0 8) (g3 : Γ.2.2 v0 4 = some r2) (g5 : Γ.2.2 v0 1 = some r4) (o6 : am_ob Γ r2 1) (hbc : mc' ≤ bc) (hbs : ms' ≤ bs) (hC : am_E m_X1_recallInto d mc' ms' [.ref r2, .ref r4] Γ I L (.inl none) I' L') (kk : am_W m_X8_undo (d + 1) mc ms al (bc - mc') (bs - ms') 29 [(0, .ref v0)] [] Γ I' L' Q) : am_W m_X8_undo (d + 1) mc ms al bc bs 18 [(0, .ref v0)] [] Γ I L Q := by
  refine aw_aload_n dX8_undo_18 rfl ?_
  refine aw_getR dX8_undo_19 f_X8_38 o1 rfl g3 ?_
  refine aw_aload_n dX8_undo_22 rfl ?_
  refine aw_getR dX8_undo_23 f_X8_19 o1 rfl g5 ?_
  exact aw_askV (as := [.ref r4]) (rst := []) k_X1_recallInto l_X8_181 i_X1_recallInto s_X1_recallInto rfl o6 dX8_undo_26 rfl (Nat.le_of_ble_eq_true rfl) hbc hbs hC rfl rfl kk
theorem bX8_undo_29 {d mc ms : Nat} {al : Bool} {bc bs : Nat} {Γ : am_G} {I : am_I} {L : am_L} {Q : am_Q} {v0 : Nat} {r2 : Nat} (o1 : am_ob Γ v0 8) (g3 : Γ.2.2 v0 4 = some r2) (o4 : am_ob Γ r2 1) (hq : Q (.inl (some (.int (I r2 2)))) Γ I L) : am_W m_X8_undo d mc ms al bc bs 29 [(0, .ref v0)] [] Γ I L Q := by
  refine aw_aload_n dX8_undo_29 rfl ?_
  refine aw_getR dX8_undo_30 f_X8_38 o1 rfl g3 ?_
  refine aw_getI dX8_undo_33 f_X8_180 o4 rfl ?_
  exact aw_iret dX8_undo_36 rfl hq
theorem dX8_questionCount_0 : decode cX8_questionCount 0 = .ok (.aload_n 0, 1) := by decide +kernel
theorem dX8_questionCount_1 : decode cX8_questionCount 1 = .ok (.getfield 19, 3) := by decide +kernel
theorem dX8_questionCount_4 : decode cX8_questionCount 4 = .ok (.getfield 184, 3) := by decide +kernel
theorem dX8_questionCount_7 : decode cX8_questionCount 7 = .ok (.ireturn, 1) := by decide +kernel
theorem bX8_questionCount_0 {d mc ms : Nat} {al : Bool} {bc bs : Nat} {Γ : am_G} {I : am_I} {L : am_L} {Q : am_Q} {v0 : Nat} {r2 : Nat} (o1 : am_ob Γ v0 8) (g3 : Γ.2.2 v0 1 = some r2) (o4 : am_ob Γ r2 5) (hq : Q (.inl (some (.int (I r2 0)))) Γ I L) : am_W m_X8_questionCount d mc ms al bc bs 0 [(0, .ref v0)] [] Γ I L Q := by
  refine aw_aload_n dX8_questionCount_0 rfl ?_
  refine aw_getR dX8_questionCount_1 f_X8_19 o1 rfl g3 ?_
  refine aw_getI dX8_questionCount_4 f_X8_184 o4 rfl ?_
  exact aw_iret dX8_questionCount_7 rfl hq
theorem dX8_typeCount_0 : decode cX8_typeCount 0 = .ok (.aload_n 0, 1) := by decide +kernel
theorem dX8_typeCount_1 : decode cX8_typeCount 1 = .ok (.getfield 19, 3) := by decide +kernel
theorem dX8_typeCount_4 : decode cX8_typeCount 4 = .ok (.getfield 103, 3) := by decide +kernel
theorem dX8_typeCount_7 : decode cX8_typeCount 7 = .ok (.ireturn, 1) := by decide +kernel
theorem bX8_typeCount_0 {d mc ms : Nat} {al : Bool} {bc bs : Nat} {Γ : am_G} {I : am_I} {L : am_L} {Q : am_Q} {v0 : Nat} {r2 : Nat} (o1 : am_ob Γ v0 8) (g3 : Γ.2.2 v0 1 = some r2) (o4 : am_ob Γ r2 5) (hq : Q (.inl (some (.int (I r2 1)))) Γ I L) : am_W m_X8_typeCount d mc ms al bc bs 0 [(0, .ref v0)] [] Γ I L Q := by
  refine aw_aload_n dX8_typeCount_0 rfl ?_
  refine aw_getR dX8_typeCount_1 f_X8_19 o1 rfl g3 ?_
  refine aw_getI dX8_typeCount_4 f_X8_103 o4 rfl ?_
  exact aw_iret dX8_typeCount_7 rfl hq
theorem dX8_gateCount_0 : decode cX8_gateCount 0 = .ok (.aload_n 0, 1) := by decide +kernel
theorem dX8_gateCount_1 : decode cX8_gateCount 1 = .ok (.getfield 19, 3) := by decide +kernel
theorem dX8_gateCount_4 : decode cX8_gateCount 4 = .ok (.getfield 187, 3) := by decide +kernel
theorem dX8_gateCount_7 : decode cX8_gateCount 7 = .ok (.ireturn, 1) := by decide +kernel
theorem bX8_gateCount_0 {d mc ms : Nat} {al : Bool} {bc bs : Nat} {Γ : am_G} {I : am_I} {L : am_L} {Q : am_Q} {v0 : Nat} {r2 : Nat} (o1 : am_ob Γ v0 8) (g3 : Γ.2.2 v0 1 = some r2) (o4 : am_ob Γ r2 5) (hq : Q (.inl (some (.int (I r2 2)))) Γ I L) : am_W m_X8_gateCount d mc ms al bc bs 0 [(0, .ref v0)] [] Γ I L Q := by
  refine aw_aload_n dX8_gateCount_0 rfl ?_
  refine aw_getR dX8_gateCount_1 f_X8_19 o1 rfl g3 ?_
  refine aw_getI dX8_gateCount_4 f_X8_187 o4 rfl ?_
  exact aw_iret dX8_gateCount_7 rfl hq
theorem dX8_clock_0 : decode cX8_clock 0 = .ok (.aload_n 0, 1) := by decide +kernel
theorem dX8_clock_1 : decode cX8_clock 1 = .ok (.getfield 19, 3) := by decide +kernel
theorem dX8_clock_4 : decode cX8_clock 4 = .ok (.getfield 174, 3) := by decide +kernel
theorem dX8_clock_7 : decode cX8_clock 7 = .ok (.ireturn, 1) := by decide +kernel
theorem bX8_clock_0 {d mc ms : Nat} {al : Bool} {bc bs : Nat} {Γ : am_G} {I : am_I} {L : am_L} {Q : am_Q} {v0 : Nat} {r2 : Nat} (o1 : am_ob Γ v0 8) (g3 : Γ.2.2 v0 1 = some r2) (o4 : am_ob Γ r2 5) (hq : Q (.inl (some (.int (I r2 3)))) Γ I L) : am_W m_X8_clock d mc ms al bc bs 0 [(0, .ref v0)] [] Γ I L Q := by
  refine aw_aload_n dX8_clock_0 rfl ?_
  refine aw_getR dX8_clock_1 f_X8_19 o1 rfl g3 ?_
  refine aw_getI dX8_clock_4 f_X8_174 o4 rfl ?_
  exact aw_iret dX8_clock_7 rfl hq
theorem dX8_undoableChanges_0 : decode cX8_undoableChanges 0 = .ok (.aload_n 0, 1) := by decide +kernel
theorem dX8_undoableChanges_1 : decode cX8_undoableChanges 1 = .ok (.getfield 38, 3) := by decide +kernel
theorem dX8_undoableChanges_4 : decode cX8_undoableChanges 4 = .ok (.getfield 180, 3) := by decide +kernel
theorem dX8_undoableChanges_7 : decode cX8_undoableChanges 7 = .ok (.ireturn, 1) := by decide +kernel
theorem bX8_undoableChanges_0 {d mc ms : Nat} {al : Bool} {bc bs : Nat} {Γ : am_G} {I : am_I} {L : am_L} {Q : am_Q} {v0 : Nat} {r2 : Nat} (o1 : am_ob Γ v0 8) (g3 : Γ.2.2 v0 4 = some r2) (o4 : am_ob Γ r2 1) (hq : Q (.inl (some (.int (I r2 2)))) Γ I L) : am_W m_X8_undoableChanges d mc ms al bc bs 0 [(0, .ref v0)] [] Γ I L Q := by
  refine aw_aload_n dX8_undoableChanges_0 rfl ?_
  refine aw_getR dX8_undoableChanges_1 f_X8_38 o1 rfl g3 ?_
  refine aw_getI dX8_undoableChanges_4 f_X8_180 o4 rfl ?_
  exact aw_iret dX8_undoableChanges_7 rfl hq
theorem dX8_questionCost_0 : decode cX8_questionCost 0 = .ok (.aload_n 0, 1) := by decide +kernel
theorem dX8_questionCost_1 : decode cX8_questionCost 1 = .ok (.iload_n 1, 1) := by decide +kernel
theorem dX8_questionCost_2 : decode cX8_questionCost 2 = .ok (.invokevirtual 190, 3) := by decide +kernel
theorem dX8_questionCost_5 : decode cX8_questionCost 5 = .ok (.aload_n 0, 1) := by decide +kernel
theorem dX8_questionCost_6 : decode cX8_questionCost 6 = .ok (.getfield 19, 3) := by decide +kernel
theorem dX8_questionCost_9 : decode cX8_questionCost 9 = .ok (.getfield 193, 3) := by decide +kernel
theorem dX8_questionCost_12 : decode cX8_questionCost 12 = .ok (.iload_n 1, 1) := by decide +kernel
theorem dX8_questionCost_13 : decode cX8_questionCost 13 = .ok (.iaload, 1) := by decide +kernel
theorem dX8_questionCost_14 : decode cX8_questionCost 14 = .ok (.ireturn, 1) := by decide +kernel
theorem bX8_questionCost_0 {d mc ms : Nat} {al : Bool} {bc bs : Nat} {Γ : am_G} {I : am_I} {L : am_L} {Q : am_Q} {v0 : Nat} {v1 : Int32} {I' : am_I} {L' : am_L} {mc' : Nat} {ms' : Nat} (o1 : am_ob Γ v0 8) (hbc : mc' ≤ bc) (hbs : ms' ≤ bs) (hC : am_E m_X8_requireQuestion d mc' ms' [.ref v0, .int v1] Γ I L (.inl none) I' L') (kk : am_W m_X8_questionCost (d + 1) mc ms al (bc - mc') (bs - ms') 5 [(0, .ref v0), (1, .int v1)] [] Γ I' L' Q) : am_W m_X8_questionCost (d + 1) mc ms al bc bs 0 [(0, .ref v0), (1, .int v1)] [] Γ I L Q := by
  refine aw_aload_n dX8_questionCost_0 rfl ?_
  refine aw_iload_n dX8_questionCost_1 rfl ?_
  exact aw_askV (as := [.int v1]) (rst := []) k_X8_requireQuestion l_X8_190 i_X8_requireQuestion s_X8_requireQuestion rfl o1 dX8_questionCost_2 rfl (Nat.le_of_ble_eq_true rfl) hbc hbs hC rfl rfl kk
theorem bX8_questionCost_0x {d mc ms : Nat} {al : Bool} {bc bs : Nat} {Γ : am_G} {I : am_I} {L : am_L} {Q : am_Q} {v0 : Nat} {v1 : Int32} {I' : am_I} {L' : am_L} {mc' : Nat} {ms' : Nat} {E : String} (o1 : am_ob Γ v0 8) (hbc : mc' ≤ bc) (hbs : ms' ≤ bs) (hC : am_E m_X8_requireQuestion d mc' ms' [.ref v0, .int v1] Γ I L (.inr E) I' L') (hq : Q (.inr E) Γ I' L') : am_W m_X8_questionCost (d + 1) mc ms al bc bs 0 [(0, .ref v0), (1, .int v1)] [] Γ I L Q := by
  refine aw_aload_n dX8_questionCost_0 rfl ?_
  refine aw_iload_n dX8_questionCost_1 rfl ?_
  exact aw_fallV (as := [.int v1]) (rst := []) k_X8_requireQuestion l_X8_190 i_X8_requireQuestion s_X8_requireQuestion rfl o1 dX8_questionCost_2 rfl (Nat.le_of_ble_eq_true rfl) hbc hbs rfl hC rfl hq
theorem bX8_questionCost_5 {d mc ms : Nat} {al : Bool} {bc bs : Nat} {Γ : am_G} {I : am_I} {L : am_L} {Q : am_Q} {v0 : Nat} {v1 : Int32} {r2 : Nat} {r5 : Nat} {n_r5 : Nat} (o1 : am_ob Γ v0 8) (g3 : Γ.2.2 v0 1 = some r2) (o4 : am_ob Γ r2 5) (g6 : Γ.2.2 r2 5 = some r5) (a7 : am_ar Γ r5 1 n_r5 0) (i8 : vp_in v1 n_r5) (hq : Q (.inl (some (.int (I r5 (v1.toNatClampNeg))))) Γ I L) : am_W m_X8_questionCost d mc ms al bc bs 5 [(0, .ref v0), (1, .int v1)] [] Γ I L Q := by
  refine aw_aload_n dX8_questionCost_5 rfl ?_
  refine aw_getR dX8_questionCost_6 f_X8_19 o1 rfl g3 ?_
  refine aw_getR dX8_questionCost_9 f_X8_193 o4 rfl g6 ?_
  refine aw_iload_n dX8_questionCost_12 rfl ?_
  refine aw_iald dX8_questionCost_13 a7 i8 ?_
  exact aw_iret dX8_questionCost_14 rfl hq
theorem dX8_hasTrait_0 : decode cX8_hasTrait 0 = .ok (.aload_n 0, 1) := by decide +kernel
theorem dX8_hasTrait_1 : decode cX8_hasTrait 1 = .ok (.iload_n 1, 1) := by decide +kernel
theorem dX8_hasTrait_2 : decode cX8_hasTrait 2 = .ok (.invokevirtual 118, 3) := by decide +kernel
theorem dX8_hasTrait_5 : decode cX8_hasTrait 5 = .ok (.aload_n 0, 1) := by decide +kernel
theorem dX8_hasTrait_6 : decode cX8_hasTrait 6 = .ok (.iload_n 2, 1) := by decide +kernel
theorem dX8_hasTrait_7 : decode cX8_hasTrait 7 = .ok (.invokevirtual 190, 3) := by decide +kernel
theorem dX8_hasTrait_10 : decode cX8_hasTrait 10 = .ok (.aload_n 0, 1) := by decide +kernel
theorem dX8_hasTrait_11 : decode cX8_hasTrait 11 = .ok (.getfield 19, 3) := by decide +kernel
theorem dX8_hasTrait_14 : decode cX8_hasTrait 14 = .ok (.getfield 196, 3) := by decide +kernel
theorem dX8_hasTrait_17 : decode cX8_hasTrait 17 = .ok (.iload_n 2, 1) := by decide +kernel
theorem dX8_hasTrait_18 : decode cX8_hasTrait 18 = .ok (.iaload, 1) := by decide +kernel
theorem dX8_hasTrait_19 : decode cX8_hasTrait 19 = .ok (.iload_n 1, 1) := by decide +kernel
theorem dX8_hasTrait_20 : decode cX8_hasTrait 20 = .ok (.invokestatic 199, 3) := by decide +kernel
theorem dX8_hasTrait_23 : decode cX8_hasTrait 23 = .ok (.ireturn, 1) := by decide +kernel
theorem bX8_hasTrait_0 {d mc ms : Nat} {al : Bool} {bc bs : Nat} {Γ : am_G} {I : am_I} {L : am_L} {Q : am_Q} {v0 : Nat} {v1 : Int32} {v2 : Int32} {I' : am_I} {L' : am_L} {mc' : Nat} {ms' : Nat} (o1 : am_ob Γ v0 8) (hbc : mc' ≤ bc) (hbs : ms' ≤ bs) (hC : am_E m_X8_requireType d mc' ms' [.ref v0, .int v1] Γ I L (.inl none) I' L') (kk : am_W m_X8_hasTrait (d + 1) mc ms al (bc - mc') (bs - ms') 5 [(0, .ref v0), (1, .int v1), (2, .int v2)] [] Γ I' L' Q) : am_W m_X8_hasTrait (d + 1) mc ms al bc bs 0 [(0, .ref v0), (1, .int v1), (2, .int v2)] [] Γ I L Q := by
  refine aw_aload_n dX8_hasTrait_0 rfl ?_
  refine aw_iload_n dX8_hasTrait_1 rfl ?_
  exact aw_askV (as := [.int v1]) (rst := []) k_X8_requireType l_X8_118 i_X8_requireType s_X8_requireType rfl o1 dX8_hasTrait_2 rfl (Nat.le_of_ble_eq_true rfl) hbc hbs hC rfl rfl kk
theorem bX8_hasTrait_0x {d mc ms : Nat} {al : Bool} {bc bs : Nat} {Γ : am_G} {I : am_I} {L : am_L} {Q : am_Q} {v0 : Nat} {v1 : Int32} {v2 : Int32} {I' : am_I} {L' : am_L} {mc' : Nat} {ms' : Nat} {E : String} (o1 : am_ob Γ v0 8) (hbc : mc' ≤ bc) (hbs : ms' ≤ bs) (hC : am_E m_X8_requireType d mc' ms' [.ref v0, .int v1] Γ I L (.inr E) I' L') (hq : Q (.inr E) Γ I' L') : am_W m_X8_hasTrait (d + 1) mc ms al bc bs 0 [(0, .ref v0), (1, .int v1), (2, .int v2)] [] Γ I L Q := by
  refine aw_aload_n dX8_hasTrait_0 rfl ?_
  refine aw_iload_n dX8_hasTrait_1 rfl ?_
  exact aw_fallV (as := [.int v1]) (rst := []) k_X8_requireType l_X8_118 i_X8_requireType s_X8_requireType rfl o1 dX8_hasTrait_2 rfl (Nat.le_of_ble_eq_true rfl) hbc hbs rfl hC rfl hq
theorem bX8_hasTrait_5 {d mc ms : Nat} {al : Bool} {bc bs : Nat} {Γ : am_G} {I : am_I} {L : am_L} {Q : am_Q} {v0 : Nat} {v1 : Int32} {v2 : Int32} {I' : am_I} {L' : am_L} {mc' : Nat} {ms' : Nat} (o1 : am_ob Γ v0 8) (hbc : mc' ≤ bc) (hbs : ms' ≤ bs) (hC : am_E m_X8_requireQuestion d mc' ms' [.ref v0, .int v2] Γ I L (.inl none) I' L') (kk : am_W m_X8_hasTrait (d + 1) mc ms al (bc - mc') (bs - ms') 10 [(0, .ref v0), (1, .int v1), (2, .int v2)] [] Γ I' L' Q) : am_W m_X8_hasTrait (d + 1) mc ms al bc bs 5 [(0, .ref v0), (1, .int v1), (2, .int v2)] [] Γ I L Q := by
  refine aw_aload_n dX8_hasTrait_5 rfl ?_
  refine aw_iload_n dX8_hasTrait_6 rfl ?_
  exact aw_askV (as := [.int v2]) (rst := []) k_X8_requireQuestion l_X8_190 i_X8_requireQuestion s_X8_requireQuestion rfl o1 dX8_hasTrait_7 rfl (Nat.le_of_ble_eq_true rfl) hbc hbs hC rfl rfl kk
theorem bX8_hasTrait_5x {d mc ms : Nat} {al : Bool} {bc bs : Nat} {Γ : am_G} {I : am_I} {L : am_L} {Q : am_Q} {v0 : Nat} {v1 : Int32} {v2 : Int32} {I' : am_I} {L' : am_L} {mc' : Nat} {ms' : Nat} {E : String} (o1 : am_ob Γ v0 8) (hbc : mc' ≤ bc) (hbs : ms' ≤ bs) (hC : am_E m_X8_requireQuestion d mc' ms' [.ref v0, .int v2] Γ I L (.inr E) I' L') (hq : Q (.inr E) Γ I' L') : am_W m_X8_hasTrait (d + 1) mc ms al bc bs 5 [(0, .ref v0), (1, .int v1), (2, .int v2)] [] Γ I L Q := by
  refine aw_aload_n dX8_hasTrait_5 rfl ?_
  refine aw_iload_n dX8_hasTrait_6 rfl ?_
  exact aw_fallV (as := [.int v2]) (rst := []) k_X8_requireQuestion l_X8_190 i_X8_requireQuestion s_X8_requireQuestion rfl o1 dX8_hasTrait_7 rfl (Nat.le_of_ble_eq_true rfl) hbc hbs rfl hC rfl hq
theorem bX8_hasTrait_10 {d mc ms : Nat} {al : Bool} {bc bs : Nat} {Γ : am_G} {I : am_I} {L : am_L} {Q : am_Q} {v0 : Nat} {v1 : Int32} {v2 : Int32} {r2 : Nat} {r5 : Nat} {n_r5 : Nat} {I' : am_I} {L' : am_L} {mc' : Nat} {ms' : Nat} {r : Int32} (o1 : am_ob Γ v0 8) (g3 : Γ.2.2 v0 1 = some r2) (o4 : am_ob Γ r2 5) (g6 : Γ.2.2 r2 6 = some r5) (a7 : am_ar Γ r5 1 n_r5 0) (i8 : vp_in v2 n_r5) (hbc : mc' ≤ bc) (hbs : ms' ≤ bs) (hC : am_E m_X8_holds d mc' ms' [.int (I r5 (v2.toNatClampNeg)), .int v1] Γ I L (.inl (some (.int r))) I' L') (kk : am_W m_X8_hasTrait (d + 1) mc ms al (bc - mc') (bs - ms') 23 [(0, .ref v0), (1, .int v1), (2, .int v2)] [.int r] Γ I' L' Q) : am_W m_X8_hasTrait (d + 1) mc ms al bc bs 10 [(0, .ref v0), (1, .int v1), (2, .int v2)] [] Γ I L Q := by
  refine aw_aload_n dX8_hasTrait_10 rfl ?_
  refine aw_getR dX8_hasTrait_11 f_X8_19 o1 rfl g3 ?_
  refine aw_getR dX8_hasTrait_14 f_X8_196 o4 rfl g6 ?_
  refine aw_iload_n dX8_hasTrait_17 rfl ?_
  refine aw_iald dX8_hasTrait_18 a7 i8 ?_
  refine aw_iload_n dX8_hasTrait_19 rfl ?_
  exact aw_askS (as := [.int (I r5 (v2.toNatClampNeg)), .int v1]) (rst := []) k_X8_holds l_X8_199 t_X8_holds dX8_hasTrait_20 rfl (Nat.le_of_ble_eq_true rfl) hbc hbs hC rfl rfl kk
theorem bX8_hasTrait_23 {d mc ms : Nat} {al : Bool} {bc bs : Nat} {Γ : am_G} {I : am_I} {L : am_L} {Q : am_Q} {v0 : Nat} {v1 : Int32} {v2 : Int32} {w0 : Int32} (hz : narrow .boolean (.int w0) = .int w0) (hq : Q (.inl (some (.int w0))) Γ I L) : am_W m_X8_hasTrait d mc ms al bc bs 23 [(0, .ref v0), (1, .int v1), (2, .int v2)] [.int w0] Γ I L Q := by
  exact aw_zret (ty := .boolean) dX8_hasTrait_23 rfl hz hq
theorem dX8_toll_0 : decode cX8_toll 0 = .ok (.aload_n 0, 1) := by decide +kernel
theorem dX8_toll_1 : decode cX8_toll 1 = .ok (.iload_n 1, 1) := by decide +kernel
theorem dX8_toll_2 : decode cX8_toll 2 = .ok (.invokevirtual 118, 3) := by decide +kernel
theorem dX8_toll_5 : decode cX8_toll 5 = .ok (.aload_n 0, 1) := by decide +kernel
theorem dX8_toll_6 : decode cX8_toll 6 = .ok (.getfield 19, 3) := by decide +kernel
theorem dX8_toll_9 : decode cX8_toll 9 = .ok (.getfield 167, 3) := by decide +kernel
theorem dX8_toll_12 : decode cX8_toll 12 = .ok (.iload_n 1, 1) := by decide +kernel
theorem dX8_toll_13 : decode cX8_toll 13 = .ok (.iaload, 1) := by decide +kernel
theorem dX8_toll_14 : decode cX8_toll 14 = .ok (.ireturn, 1) := by decide +kernel
theorem bX8_toll_0 {d mc ms : Nat} {al : Bool} {bc bs : Nat} {Γ : am_G} {I : am_I} {L : am_L} {Q : am_Q} {v0 : Nat} {v1 : Int32} {I' : am_I} {L' : am_L} {mc' : Nat} {ms' : Nat} (o1 : am_ob Γ v0 8) (hbc : mc' ≤ bc) (hbs : ms' ≤ bs) (hC : am_E m_X8_requireType d mc' ms' [.ref v0, .int v1] Γ I L (.inl none) I' L') (kk : am_W m_X8_toll (d + 1) mc ms al (bc - mc') (bs - ms') 5 [(0, .ref v0), (1, .int v1)] [] Γ I' L' Q) : am_W m_X8_toll (d + 1) mc ms al bc bs 0 [(0, .ref v0), (1, .int v1)] [] Γ I L Q := by
  refine aw_aload_n dX8_toll_0 rfl ?_
  refine aw_iload_n dX8_toll_1 rfl ?_
  exact aw_askV (as := [.int v1]) (rst := []) k_X8_requireType l_X8_118 i_X8_requireType s_X8_requireType rfl o1 dX8_toll_2 rfl (Nat.le_of_ble_eq_true rfl) hbc hbs hC rfl rfl kk
theorem bX8_toll_0x {d mc ms : Nat} {al : Bool} {bc bs : Nat} {Γ : am_G} {I : am_I} {L : am_L} {Q : am_Q} {v0 : Nat} {v1 : Int32} {I' : am_I} {L' : am_L} {mc' : Nat} {ms' : Nat} {E : String} (o1 : am_ob Γ v0 8) (hbc : mc' ≤ bc) (hbs : ms' ≤ bs) (hC : am_E m_X8_requireType d mc' ms' [.ref v0, .int v1] Γ I L (.inr E) I' L') (hq : Q (.inr E) Γ I' L') : am_W m_X8_toll (d + 1) mc ms al bc bs 0 [(0, .ref v0), (1, .int v1)] [] Γ I L Q := by
  refine aw_aload_n dX8_toll_0 rfl ?_
  refine aw_iload_n dX8_toll_1 rfl ?_
  exact aw_fallV (as := [.int v1]) (rst := []) k_X8_requireType l_X8_118 i_X8_requireType s_X8_requireType rfl o1 dX8_toll_2 rfl (Nat.le_of_ble_eq_true rfl) hbc hbs rfl hC rfl hq
theorem bX8_toll_5 {d mc ms : Nat} {al : Bool} {bc bs : Nat} {Γ : am_G} {I : am_I} {L : am_L} {Q : am_Q} {v0 : Nat} {v1 : Int32} {r2 : Nat} {r5 : Nat} {n_r5 : Nat} (o1 : am_ob Γ v0 8) (g3 : Γ.2.2 v0 1 = some r2) (o4 : am_ob Γ r2 5) (g6 : Γ.2.2 r2 8 = some r5) (a7 : am_ar Γ r5 1 n_r5 0) (i8 : vp_in v1 n_r5) (hq : Q (.inl (some (.int (I r5 (v1.toNatClampNeg))))) Γ I L) : am_W m_X8_toll d mc ms al bc bs 5 [(0, .ref v0), (1, .int v1)] [] Γ I L Q := by
  refine aw_aload_n dX8_toll_5 rfl ?_
  refine aw_getR dX8_toll_6 f_X8_19 o1 rfl g3 ?_
  refine aw_getR dX8_toll_9 f_X8_167 o4 rfl g6 ?_
  refine aw_iload_n dX8_toll_12 rfl ?_
  refine aw_iald dX8_toll_13 a7 i8 ?_
  exact aw_iret dX8_toll_14 rfl hq
theorem dX8_countAt_0 : decode cX8_countAt 0 = .ok (.aload_n 0, 1) := by decide +kernel
theorem dX8_countAt_1 : decode cX8_countAt 1 = .ok (.iload_n 1, 1) := by decide +kernel
theorem dX8_countAt_2 : decode cX8_countAt 2 = .ok (.invokevirtual 115, 3) := by decide +kernel
theorem dX8_countAt_5 : decode cX8_countAt 5 = .ok (.aload_n 0, 1) := by decide +kernel
theorem dX8_countAt_6 : decode cX8_countAt 6 = .ok (.iload_n 2, 1) := by decide +kernel
theorem dX8_countAt_7 : decode cX8_countAt 7 = .ok (.invokevirtual 118, 3) := by decide +kernel
theorem dX8_countAt_10 : decode cX8_countAt 10 = .ok (.aload_n 0, 1) := by decide +kernel
theorem dX8_countAt_11 : decode cX8_countAt 11 = .ok (.getfield 19, 3) := by decide +kernel
theorem dX8_countAt_14 : decode cX8_countAt 14 = .ok (.getfield 121, 3) := by decide +kernel
theorem dX8_countAt_17 : decode cX8_countAt 17 = .ok (.iload_n 1, 1) := by decide +kernel
theorem dX8_countAt_18 : decode cX8_countAt 18 = .ok (.aaload, 1) := by decide +kernel
theorem dX8_countAt_19 : decode cX8_countAt 19 = .ok (.getfield 203, 3) := by decide +kernel
theorem dX8_countAt_22 : decode cX8_countAt 22 = .ok (.iload_n 2, 1) := by decide +kernel
theorem dX8_countAt_23 : decode cX8_countAt 23 = .ok (.iaload, 1) := by decide +kernel
theorem dX8_countAt_24 : decode cX8_countAt 24 = .ok (.ireturn, 1) := by decide +kernel
theorem bX8_countAt_0 {d mc ms : Nat} {al : Bool} {bc bs : Nat} {Γ : am_G} {I : am_I} {L : am_L} {Q : am_Q} {v0 : Nat} {v1 : Int32} {v2 : Int32} {I' : am_I} {L' : am_L} {mc' : Nat} {ms' : Nat} (o1 : am_ob Γ v0 8) (hbc : mc' ≤ bc) (hbs : ms' ≤ bs) (hC : am_E m_X8_requireGate d mc' ms' [.ref v0, .int v1] Γ I L (.inl none) I' L') (kk : am_W m_X8_countAt (d + 1) mc ms al (bc - mc') (bs - ms') 5 [(0, .ref v0), (1, .int v1), (2, .int v2)] [] Γ I' L' Q) : am_W m_X8_countAt (d + 1) mc ms al bc bs 0 [(0, .ref v0), (1, .int v1), (2, .int v2)] [] Γ I L Q := by
  refine aw_aload_n dX8_countAt_0 rfl ?_
  refine aw_iload_n dX8_countAt_1 rfl ?_
  exact aw_askV (as := [.int v1]) (rst := []) k_X8_requireGate l_X8_115 i_X8_requireGate s_X8_requireGate rfl o1 dX8_countAt_2 rfl (Nat.le_of_ble_eq_true rfl) hbc hbs hC rfl rfl kk
theorem bX8_countAt_0x {d mc ms : Nat} {al : Bool} {bc bs : Nat} {Γ : am_G} {I : am_I} {L : am_L} {Q : am_Q} {v0 : Nat} {v1 : Int32} {v2 : Int32} {I' : am_I} {L' : am_L} {mc' : Nat} {ms' : Nat} {E : String} (o1 : am_ob Γ v0 8) (hbc : mc' ≤ bc) (hbs : ms' ≤ bs) (hC : am_E m_X8_requireGate d mc' ms' [.ref v0, .int v1] Γ I L (.inr E) I' L') (hq : Q (.inr E) Γ I' L') : am_W m_X8_countAt (d + 1) mc ms al bc bs 0 [(0, .ref v0), (1, .int v1), (2, .int v2)] [] Γ I L Q := by
  refine aw_aload_n dX8_countAt_0 rfl ?_
  refine aw_iload_n dX8_countAt_1 rfl ?_
  exact aw_fallV (as := [.int v1]) (rst := []) k_X8_requireGate l_X8_115 i_X8_requireGate s_X8_requireGate rfl o1 dX8_countAt_2 rfl (Nat.le_of_ble_eq_true rfl) hbc hbs rfl hC rfl hq
theorem bX8_countAt_5 {d mc ms : Nat} {al : Bool} {bc bs : Nat} {Γ : am_G} {I : am_I} {L : am_L} {Q : am_Q} {v0 : Nat} {v1 : Int32} {v2 : Int32} {I' : am_I} {L' : am_L} {mc' : Nat} {ms' : Nat} (o1 : am_ob Γ v0 8) (hbc : mc' ≤ bc) (hbs : ms' ≤ bs) (hC : am_E m_X8_requireType d mc' ms' [.ref v0, .int v2] Γ I L (.inl none) I' L') (kk : am_W m_X8_countAt (d + 1) mc ms al (bc - mc') (bs - ms') 10 [(0, .ref v0), (1, .int v1), (2, .int v2)] [] Γ I' L' Q) : am_W m_X8_countAt (d + 1) mc ms al bc bs 5 [(0, .ref v0), (1, .int v1), (2, .int v2)] [] Γ I L Q := by
  refine aw_aload_n dX8_countAt_5 rfl ?_
  refine aw_iload_n dX8_countAt_6 rfl ?_
  exact aw_askV (as := [.int v2]) (rst := []) k_X8_requireType l_X8_118 i_X8_requireType s_X8_requireType rfl o1 dX8_countAt_7 rfl (Nat.le_of_ble_eq_true rfl) hbc hbs hC rfl rfl kk
theorem bX8_countAt_5x {d mc ms : Nat} {al : Bool} {bc bs : Nat} {Γ : am_G} {I : am_I} {L : am_L} {Q : am_Q} {v0 : Nat} {v1 : Int32} {v2 : Int32} {I' : am_I} {L' : am_L} {mc' : Nat} {ms' : Nat} {E : String} (o1 : am_ob Γ v0 8) (hbc : mc' ≤ bc) (hbs : ms' ≤ bs) (hC : am_E m_X8_requireType d mc' ms' [.ref v0, .int v2] Γ I L (.inr E) I' L') (hq : Q (.inr E) Γ I' L') : am_W m_X8_countAt (d + 1) mc ms al bc bs 5 [(0, .ref v0), (1, .int v1), (2, .int v2)] [] Γ I L Q := by
  refine aw_aload_n dX8_countAt_5 rfl ?_
  refine aw_iload_n dX8_countAt_6 rfl ?_
  exact aw_fallV (as := [.int v2]) (rst := []) k_X8_requireType l_X8_118 i_X8_requireType s_X8_requireType rfl o1 dX8_countAt_7 rfl (Nat.le_of_ble_eq_true rfl) hbc hbs rfl hC rfl hq
theorem bX8_countAt_10 {d mc ms : Nat} {al : Bool} {bc bs : Nat} {Γ : am_G} {I : am_I} {L : am_L} {Q : am_Q} {v0 : Nat} {v1 : Int32} {v2 : Int32} {r2 : Nat} {r5 : Nat} {n_r5 : Nat} {r9 : Nat} {r12 : Nat} {n_r12 : Nat} (o1 : am_ob Γ v0 8) (g3 : Γ.2.2 v0 1 = some r2) (o4 : am_ob Γ r2 5) (g6 : Γ.2.2 r2 9 = some r5) (a7 : am_ar Γ r5 6 n_r5 0) (i8 : vp_in v1 n_r5) (g10 : Γ.2.2 r5 (v1.toNatClampNeg) = some r9) (o11 : am_ob Γ r9 0) (g13 : Γ.2.2 r9 4 = some r12) (a14 : am_ar Γ r12 1 n_r12 0) (i15 : vp_in v2 n_r12) (hq : Q (.inl (some (.int (I r12 (v2.toNatClampNeg))))) Γ I L) : am_W m_X8_countAt d mc ms al bc bs 10 [(0, .ref v0), (1, .int v1), (2, .int v2)] [] Γ I L Q := by
  refine aw_aload_n dX8_countAt_10 rfl ?_
  refine aw_getR dX8_countAt_11 f_X8_19 o1 rfl g3 ?_
  refine aw_getR dX8_countAt_14 f_X8_121 o4 rfl g6 ?_
  refine aw_iload_n dX8_countAt_17 rfl ?_
  refine aw_aald dX8_countAt_18 a7 i8 g10 ?_
  refine aw_getR dX8_countAt_19 f_X8_203 o11 rfl g13 ?_
  refine aw_iload_n dX8_countAt_22 rfl ?_
  refine aw_iald dX8_countAt_23 a14 i15 ?_
  exact aw_iret dX8_countAt_24 rfl hq
theorem dX8_costLimit_0 : decode cX8_costLimit 0 = .ok (.aload_n 0, 1) := by decide +kernel
theorem dX8_costLimit_1 : decode cX8_costLimit 1 = .ok (.iload_n 1, 1) := by decide +kernel
theorem dX8_costLimit_2 : decode cX8_costLimit 2 = .ok (.invokevirtual 115, 3) := by decide +kernel
theorem dX8_costLimit_5 : decode cX8_costLimit 5 = .ok (.aload_n 0, 1) := by decide +kernel
theorem dX8_costLimit_6 : decode cX8_costLimit 6 = .ok (.getfield 19, 3) := by decide +kernel
theorem dX8_costLimit_9 : decode cX8_costLimit 9 = .ok (.getfield 121, 3) := by decide +kernel
theorem dX8_costLimit_12 : decode cX8_costLimit 12 = .ok (.iload_n 1, 1) := by decide +kernel
theorem dX8_costLimit_13 : decode cX8_costLimit 13 = .ok (.aaload, 1) := by decide +kernel
theorem dX8_costLimit_14 : decode cX8_costLimit 14 = .ok (.getfield 171, 3) := by decide +kernel
theorem dX8_costLimit_17 : decode cX8_costLimit 17 = .ok (.ireturn, 1) := by decide +kernel
theorem bX8_costLimit_0 {d mc ms : Nat} {al : Bool} {bc bs : Nat} {Γ : am_G} {I : am_I} {L : am_L} {Q : am_Q} {v0 : Nat} {v1 : Int32} {I' : am_I} {L' : am_L} {mc' : Nat} {ms' : Nat} (o1 : am_ob Γ v0 8) (hbc : mc' ≤ bc) (hbs : ms' ≤ bs) (hC : am_E m_X8_requireGate d mc' ms' [.ref v0, .int v1] Γ I L (.inl none) I' L') (kk : am_W m_X8_costLimit (d + 1) mc ms al (bc - mc') (bs - ms') 5 [(0, .ref v0), (1, .int v1)] [] Γ I' L' Q) : am_W m_X8_costLimit (d + 1) mc ms al bc bs 0 [(0, .ref v0), (1, .int v1)] [] Γ I L Q := by
  refine aw_aload_n dX8_costLimit_0 rfl ?_
  refine aw_iload_n dX8_costLimit_1 rfl ?_
  exact aw_askV (as := [.int v1]) (rst := []) k_X8_requireGate l_X8_115 i_X8_requireGate s_X8_requireGate rfl o1 dX8_costLimit_2 rfl (Nat.le_of_ble_eq_true rfl) hbc hbs hC rfl rfl kk
theorem bX8_costLimit_0x {d mc ms : Nat} {al : Bool} {bc bs : Nat} {Γ : am_G} {I : am_I} {L : am_L} {Q : am_Q} {v0 : Nat} {v1 : Int32} {I' : am_I} {L' : am_L} {mc' : Nat} {ms' : Nat} {E : String} (o1 : am_ob Γ v0 8) (hbc : mc' ≤ bc) (hbs : ms' ≤ bs) (hC : am_E m_X8_requireGate d mc' ms' [.ref v0, .int v1] Γ I L (.inr E) I' L') (hq : Q (.inr E) Γ I' L') : am_W m_X8_costLimit (d + 1) mc ms al bc bs 0 [(0, .ref v0), (1, .int v1)] [] Γ I L Q := by
  refine aw_aload_n dX8_costLimit_0 rfl ?_
  refine aw_iload_n dX8_costLimit_1 rfl ?_
  exact aw_fallV (as := [.int v1]) (rst := []) k_X8_requireGate l_X8_115 i_X8_requireGate s_X8_requireGate rfl o1 dX8_costLimit_2 rfl (Nat.le_of_ble_eq_true rfl) hbc hbs rfl hC rfl hq
theorem bX8_costLimit_5 {d mc ms : Nat} {al : Bool} {bc bs : Nat} {Γ : am_G} {I : am_I} {L : am_L} {Q : am_Q} {v0 : Nat} {v1 : Int32} {r2 : Nat} {r5 : Nat} {n_r5 : Nat} {r9 : Nat} (o1 : am_ob Γ v0 8) (g3 : Γ.2.2 v0 1 = some r2) (o4 : am_ob Γ r2 5) (g6 : Γ.2.2 r2 9 = some r5) (a7 : am_ar Γ r5 6 n_r5 0) (i8 : vp_in v1 n_r5) (g10 : Γ.2.2 r5 (v1.toNatClampNeg) = some r9) (o11 : am_ob Γ r9 0) (hq : Q (.inl (some (.int (I r9 3)))) Γ I L) : am_W m_X8_costLimit d mc ms al bc bs 5 [(0, .ref v0), (1, .int v1)] [] Γ I L Q := by
  refine aw_aload_n dX8_costLimit_5 rfl ?_
  refine aw_getR dX8_costLimit_6 f_X8_19 o1 rfl g3 ?_
  refine aw_getR dX8_costLimit_9 f_X8_121 o4 rfl g6 ?_
  refine aw_iload_n dX8_costLimit_12 rfl ?_
  refine aw_aald dX8_costLimit_13 a7 i8 g10 ?_
  refine aw_getI dX8_costLimit_14 f_X8_171 o11 rfl ?_
  exact aw_iret dX8_costLimit_17 rfl hq
theorem dX8_isOpen_0 : decode cX8_isOpen 0 = .ok (.aload_n 0, 1) := by decide +kernel
theorem dX8_isOpen_1 : decode cX8_isOpen 1 = .ok (.iload_n 1, 1) := by decide +kernel
theorem dX8_isOpen_2 : decode cX8_isOpen 2 = .ok (.invokevirtual 115, 3) := by decide +kernel
theorem dX8_isOpen_5 : decode cX8_isOpen 5 = .ok (.aload_n 0, 1) := by decide +kernel
theorem dX8_isOpen_6 : decode cX8_isOpen 6 = .ok (.getfield 19, 3) := by decide +kernel
theorem dX8_isOpen_9 : decode cX8_isOpen 9 = .ok (.getfield 121, 3) := by decide +kernel
theorem dX8_isOpen_12 : decode cX8_isOpen 12 = .ok (.iload_n 1, 1) := by decide +kernel
theorem dX8_isOpen_13 : decode cX8_isOpen 13 = .ok (.aaload, 1) := by decide +kernel
theorem dX8_isOpen_14 : decode cX8_isOpen 14 = .ok (.aload_n 0, 1) := by decide +kernel
theorem dX8_isOpen_15 : decode cX8_isOpen 15 = .ok (.getfield 19, 3) := by decide +kernel
theorem dX8_isOpen_18 : decode cX8_isOpen 18 = .ok (.invokevirtual 125, 3) := by decide +kernel
theorem dX8_isOpen_21 : decode cX8_isOpen 21 = .ok (.invokevirtual 128, 3) := by decide +kernel
theorem dX8_isOpen_24 : decode cX8_isOpen 24 = .ok (.ireturn, 1) := by decide +kernel
theorem bX8_isOpen_0 {d mc ms : Nat} {al : Bool} {bc bs : Nat} {Γ : am_G} {I : am_I} {L : am_L} {Q : am_Q} {v0 : Nat} {v1 : Int32} {I' : am_I} {L' : am_L} {mc' : Nat} {ms' : Nat} (o1 : am_ob Γ v0 8) (hbc : mc' ≤ bc) (hbs : ms' ≤ bs) (hC : am_E m_X8_requireGate d mc' ms' [.ref v0, .int v1] Γ I L (.inl none) I' L') (kk : am_W m_X8_isOpen (d + 1) mc ms al (bc - mc') (bs - ms') 5 [(0, .ref v0), (1, .int v1)] [] Γ I' L' Q) : am_W m_X8_isOpen (d + 1) mc ms al bc bs 0 [(0, .ref v0), (1, .int v1)] [] Γ I L Q := by
  refine aw_aload_n dX8_isOpen_0 rfl ?_
  refine aw_iload_n dX8_isOpen_1 rfl ?_
  exact aw_askV (as := [.int v1]) (rst := []) k_X8_requireGate l_X8_115 i_X8_requireGate s_X8_requireGate rfl o1 dX8_isOpen_2 rfl (Nat.le_of_ble_eq_true rfl) hbc hbs hC rfl rfl kk
theorem bX8_isOpen_0x {d mc ms : Nat} {al : Bool} {bc bs : Nat} {Γ : am_G} {I : am_I} {L : am_L} {Q : am_Q} {v0 : Nat} {v1 : Int32} {I' : am_I} {L' : am_L} {mc' : Nat} {ms' : Nat} {E : String} (o1 : am_ob Γ v0 8) (hbc : mc' ≤ bc) (hbs : ms' ≤ bs) (hC : am_E m_X8_requireGate d mc' ms' [.ref v0, .int v1] Γ I L (.inr E) I' L') (hq : Q (.inr E) Γ I' L') : am_W m_X8_isOpen (d + 1) mc ms al bc bs 0 [(0, .ref v0), (1, .int v1)] [] Γ I L Q := by
  refine aw_aload_n dX8_isOpen_0 rfl ?_
  refine aw_iload_n dX8_isOpen_1 rfl ?_
  exact aw_fallV (as := [.int v1]) (rst := []) k_X8_requireGate l_X8_115 i_X8_requireGate s_X8_requireGate rfl o1 dX8_isOpen_2 rfl (Nat.le_of_ble_eq_true rfl) hbc hbs rfl hC rfl hq
theorem bX8_isOpen_5 {d mc ms : Nat} {al : Bool} {bc bs : Nat} {Γ : am_G} {I : am_I} {L : am_L} {Q : am_Q} {v0 : Nat} {v1 : Int32} {r2 : Nat} {r5 : Nat} {n_r5 : Nat} {r9 : Nat} {I' : am_I} {L' : am_L} {mc' : Nat} {ms' : Nat} {r : Int32} (o1 : am_ob Γ v0 8) (g3 : Γ.2.2 v0 1 = some r2) (o4 : am_ob Γ r2 5) (g6 : Γ.2.2 r2 9 = some r5) (a7 : am_ar Γ r5 6 n_r5 0) (i8 : vp_in v1 n_r5) (g10 : Γ.2.2 r5 (v1.toNatClampNeg) = some r9) (hbc : mc' ≤ bc) (hbs : ms' ≤ bs) (hC : am_E m_X5_hourOfDay d mc' ms' [.ref r2] Γ I L (.inl (some (.int r))) I' L') (kk : am_W m_X8_isOpen (d + 1) mc ms al (bc - mc') (bs - ms') 21 [(0, .ref v0), (1, .int v1)] [.int r, .ref r9] Γ I' L' Q) : am_W m_X8_isOpen (d + 1) mc ms al bc bs 5 [(0, .ref v0), (1, .int v1)] [] Γ I L Q := by
  refine aw_aload_n dX8_isOpen_5 rfl ?_
  refine aw_getR dX8_isOpen_6 f_X8_19 o1 rfl g3 ?_
  refine aw_getR dX8_isOpen_9 f_X8_121 o4 rfl g6 ?_
  refine aw_iload_n dX8_isOpen_12 rfl ?_
  refine aw_aald dX8_isOpen_13 a7 i8 g10 ?_
  refine aw_aload_n dX8_isOpen_14 rfl ?_
  refine aw_getR dX8_isOpen_15 f_X8_19 o1 rfl g3 ?_
  exact aw_askV (as := []) (rst := [.ref r9]) k_X5_hourOfDay l_X8_125 i_X5_hourOfDay s_X5_hourOfDay rfl o4 dX8_isOpen_18 rfl (Nat.le_of_ble_eq_true rfl) hbc hbs hC rfl rfl kk
theorem bX8_isOpen_21 {d mc ms : Nat} {al : Bool} {bc bs : Nat} {Γ : am_G} {I : am_I} {L : am_L} {Q : am_Q} {v0 : Nat} {v1 : Int32} {w0 : Nat} {w1 : Int32} {I' : am_I} {L' : am_L} {mc' : Nat} {ms' : Nat} {r : Int32} (o1 : am_ob Γ w0 0) (hbc : mc' ≤ bc) (hbs : ms' ≤ bs) (hC : am_E m_X0_opensAt d mc' ms' [.ref w0, .int w1] Γ I L (.inl (some (.int r))) I' L') (kk : am_W m_X8_isOpen (d + 1) mc ms al (bc - mc') (bs - ms') 24 [(0, .ref v0), (1, .int v1)] [.int r] Γ I' L' Q) : am_W m_X8_isOpen (d + 1) mc ms al bc bs 21 [(0, .ref v0), (1, .int v1)] [.int w1, .ref w0] Γ I L Q := by
  exact aw_askV (as := [.int w1]) (rst := []) k_X0_opensAt l_X8_128 i_X0_opensAt s_X0_opensAt rfl o1 dX8_isOpen_21 rfl (Nat.le_of_ble_eq_true rfl) hbc hbs hC rfl rfl kk
theorem bX8_isOpen_24 {d mc ms : Nat} {al : Bool} {bc bs : Nat} {Γ : am_G} {I : am_I} {L : am_L} {Q : am_Q} {v0 : Nat} {v1 : Int32} {w0 : Int32} (hz : narrow .boolean (.int w0) = .int w0) (hq : Q (.inl (some (.int w0))) Γ I L) : am_W m_X8_isOpen d mc ms al bc bs 24 [(0, .ref v0), (1, .int v1)] [.int w0] Γ I L Q := by
  exact aw_zret (ty := .boolean) dX8_isOpen_24 rfl hz hq
theorem dX8_hoursUntilOpen_0 : decode cX8_hoursUntilOpen 0 = .ok (.aload_n 0, 1) := by decide +kernel
theorem dX8_hoursUntilOpen_1 : decode cX8_hoursUntilOpen 1 = .ok (.iload_n 1, 1) := by decide +kernel
theorem dX8_hoursUntilOpen_2 : decode cX8_hoursUntilOpen 2 = .ok (.invokevirtual 115, 3) := by decide +kernel
theorem dX8_hoursUntilOpen_5 : decode cX8_hoursUntilOpen 5 = .ok (.aload_n 0, 1) := by decide +kernel
theorem dX8_hoursUntilOpen_6 : decode cX8_hoursUntilOpen 6 = .ok (.getfield 19, 3) := by decide +kernel
theorem dX8_hoursUntilOpen_9 : decode cX8_hoursUntilOpen 9 = .ok (.getfield 121, 3) := by decide +kernel
theorem dX8_hoursUntilOpen_12 : decode cX8_hoursUntilOpen 12 = .ok (.iload_n 1, 1) := by decide +kernel
theorem dX8_hoursUntilOpen_13 : decode cX8_hoursUntilOpen 13 = .ok (.aaload, 1) := by decide +kernel
theorem dX8_hoursUntilOpen_14 : decode cX8_hoursUntilOpen 14 = .ok (.aload_n 0, 1) := by decide +kernel
theorem dX8_hoursUntilOpen_15 : decode cX8_hoursUntilOpen 15 = .ok (.getfield 19, 3) := by decide +kernel
theorem dX8_hoursUntilOpen_18 : decode cX8_hoursUntilOpen 18 = .ok (.invokevirtual 125, 3) := by decide +kernel
theorem dX8_hoursUntilOpen_21 : decode cX8_hoursUntilOpen 21 = .ok (.invokevirtual 206, 3) := by decide +kernel
theorem dX8_hoursUntilOpen_24 : decode cX8_hoursUntilOpen 24 = .ok (.ireturn, 1) := by decide +kernel
theorem bX8_hoursUntilOpen_0 {d mc ms : Nat} {al : Bool} {bc bs : Nat} {Γ : am_G} {I : am_I} {L : am_L} {Q : am_Q} {v0 : Nat} {v1 : Int32} {I' : am_I} {L' : am_L} {mc' : Nat} {ms' : Nat} (o1 : am_ob Γ v0 8) (hbc : mc' ≤ bc) (hbs : ms' ≤ bs) (hC : am_E m_X8_requireGate d mc' ms' [.ref v0, .int v1] Γ I L (.inl none) I' L') (kk : am_W m_X8_hoursUntilOpen (d + 1) mc ms al (bc - mc') (bs - ms') 5 [(0, .ref v0), (1, .int v1)] [] Γ I' L' Q) : am_W m_X8_hoursUntilOpen (d + 1) mc ms al bc bs 0 [(0, .ref v0), (1, .int v1)] [] Γ I L Q := by
  refine aw_aload_n dX8_hoursUntilOpen_0 rfl ?_
  refine aw_iload_n dX8_hoursUntilOpen_1 rfl ?_
  exact aw_askV (as := [.int v1]) (rst := []) k_X8_requireGate l_X8_115 i_X8_requireGate s_X8_requireGate rfl o1 dX8_hoursUntilOpen_2 rfl (Nat.le_of_ble_eq_true rfl) hbc hbs hC rfl rfl kk
theorem bX8_hoursUntilOpen_0x {d mc ms : Nat} {al : Bool} {bc bs : Nat} {Γ : am_G} {I : am_I} {L : am_L} {Q : am_Q} {v0 : Nat} {v1 : Int32} {I' : am_I} {L' : am_L} {mc' : Nat} {ms' : Nat} {E : String} (o1 : am_ob Γ v0 8) (hbc : mc' ≤ bc) (hbs : ms' ≤ bs) (hC : am_E m_X8_requireGate d mc' ms' [.ref v0, .int v1] Γ I L (.inr E) I' L') (hq : Q (.inr E) Γ I' L') : am_W m_X8_hoursUntilOpen (d + 1) mc ms al bc bs 0 [(0, .ref v0), (1, .int v1)] [] Γ I L Q := by
  refine aw_aload_n dX8_hoursUntilOpen_0 rfl ?_
  refine aw_iload_n dX8_hoursUntilOpen_1 rfl ?_
  exact aw_fallV (as := [.int v1]) (rst := []) k_X8_requireGate l_X8_115 i_X8_requireGate s_X8_requireGate rfl o1 dX8_hoursUntilOpen_2 rfl (Nat.le_of_ble_eq_true rfl) hbc hbs rfl hC rfl hq
theorem bX8_hoursUntilOpen_5 {d mc ms : Nat} {al : Bool} {bc bs : Nat} {Γ : am_G} {I : am_I} {L : am_L} {Q : am_Q} {v0 : Nat} {v1 : Int32} {r2 : Nat} {r5 : Nat} {n_r5 : Nat} {r9 : Nat} {I' : am_I} {L' : am_L} {mc' : Nat} {ms' : Nat} {r : Int32} (o1 : am_ob Γ v0 8) (g3 : Γ.2.2 v0 1 = some r2) (o4 : am_ob Γ r2 5) (g6 : Γ.2.2 r2 9 = some r5) (a7 : am_ar Γ r5 6 n_r5 0) (i8 : vp_in v1 n_r5) (g10 : Γ.2.2 r5 (v1.toNatClampNeg) = some r9) (hbc : mc' ≤ bc) (hbs : ms' ≤ bs) (hC : am_E m_X5_hourOfDay d mc' ms' [.ref r2] Γ I L (.inl (some (.int r))) I' L') (kk : am_W m_X8_hoursUntilOpen (d + 1) mc ms al (bc - mc') (bs - ms') 21 [(0, .ref v0), (1, .int v1)] [.int r, .ref r9] Γ I' L' Q) : am_W m_X8_hoursUntilOpen (d + 1) mc ms al bc bs 5 [(0, .ref v0), (1, .int v1)] [] Γ I L Q := by
  refine aw_aload_n dX8_hoursUntilOpen_5 rfl ?_
  refine aw_getR dX8_hoursUntilOpen_6 f_X8_19 o1 rfl g3 ?_
  refine aw_getR dX8_hoursUntilOpen_9 f_X8_121 o4 rfl g6 ?_
  refine aw_iload_n dX8_hoursUntilOpen_12 rfl ?_
  refine aw_aald dX8_hoursUntilOpen_13 a7 i8 g10 ?_
  refine aw_aload_n dX8_hoursUntilOpen_14 rfl ?_
  refine aw_getR dX8_hoursUntilOpen_15 f_X8_19 o1 rfl g3 ?_
  exact aw_askV (as := []) (rst := [.ref r9]) k_X5_hourOfDay l_X8_125 i_X5_hourOfDay s_X5_hourOfDay rfl o4 dX8_hoursUntilOpen_18 rfl (Nat.le_of_ble_eq_true rfl) hbc hbs hC rfl rfl kk
theorem bX8_hoursUntilOpen_21 {d mc ms : Nat} {al : Bool} {bc bs : Nat} {Γ : am_G} {I : am_I} {L : am_L} {Q : am_Q} {v0 : Nat} {v1 : Int32} {w0 : Nat} {w1 : Int32} {I' : am_I} {L' : am_L} {mc' : Nat} {ms' : Nat} {r : Int32} (o1 : am_ob Γ w0 0) (hbc : mc' ≤ bc) (hbs : ms' ≤ bs) (hC : am_E m_X0_waitFrom d mc' ms' [.ref w0, .int w1] Γ I L (.inl (some (.int r))) I' L') (kk : am_W m_X8_hoursUntilOpen (d + 1) mc ms al (bc - mc') (bs - ms') 24 [(0, .ref v0), (1, .int v1)] [.int r] Γ I' L' Q) : am_W m_X8_hoursUntilOpen (d + 1) mc ms al bc bs 21 [(0, .ref v0), (1, .int v1)] [.int w1, .ref w0] Γ I L Q := by
  exact aw_askV (as := [.int w1]) (rst := []) k_X0_waitFrom l_X8_206 i_X0_waitFrom s_X0_waitFrom rfl o1 dX8_hoursUntilOpen_21 rfl (Nat.le_of_ble_eq_true rfl) hbc hbs hC rfl rfl kk
theorem bX8_hoursUntilOpen_24 {d mc ms : Nat} {al : Bool} {bc bs : Nat} {Γ : am_G} {I : am_I} {L : am_L} {Q : am_Q} {v0 : Nat} {v1 : Int32} {w0 : Int32} (hq : Q (.inl (some (.int w0))) Γ I L) : am_W m_X8_hoursUntilOpen d mc ms al bc bs 24 [(0, .ref v0), (1, .int v1)] [.int w0] Γ I L Q := by
  exact aw_iret dX8_hoursUntilOpen_24 rfl hq
theorem dX8_cartsPassed_0 : decode cX8_cartsPassed 0 = .ok (.aload_n 0, 1) := by decide +kernel
theorem dX8_cartsPassed_1 : decode cX8_cartsPassed 1 = .ok (.getfield 19, 3) := by decide +kernel
theorem dX8_cartsPassed_4 : decode cX8_cartsPassed 4 = .ok (.getfield 224, 3) := by decide +kernel
theorem dX8_cartsPassed_7 : decode cX8_cartsPassed 7 = .ok (.getfield 228, 3) := by decide +kernel
theorem dX8_cartsPassed_10 : decode cX8_cartsPassed 10 = .ok (.ireturn, 1) := by decide +kernel
theorem bX8_cartsPassed_0 {d mc ms : Nat} {al : Bool} {bc bs : Nat} {Γ : am_G} {I : am_I} {L : am_L} {Q : am_Q} {v0 : Nat} {r2 : Nat} {r5 : Nat} (o1 : am_ob Γ v0 8) (g3 : Γ.2.2 v0 1 = some r2) (o4 : am_ob Γ r2 5) (g6 : Γ.2.2 r2 10 = some r5) (o7 : am_ob Γ r5 6) (hq : Q (.inl (some (.int (I r5 0)))) Γ I L) : am_W m_X8_cartsPassed d mc ms al bc bs 0 [(0, .ref v0)] [] Γ I L Q := by
  refine aw_aload_n dX8_cartsPassed_0 rfl ?_
  refine aw_getR dX8_cartsPassed_1 f_X8_19 o1 rfl g3 ?_
  refine aw_getR dX8_cartsPassed_4 f_X8_224 o4 rfl g6 ?_
  refine aw_getI dX8_cartsPassed_7 f_X8_228 o7 rfl ?_
  exact aw_iret dX8_cartsPassed_10 rfl hq
theorem dX8_costAsked_0 : decode cX8_costAsked 0 = .ok (.aload_n 0, 1) := by decide +kernel
theorem dX8_costAsked_1 : decode cX8_costAsked 1 = .ok (.getfield 19, 3) := by decide +kernel
theorem dX8_costAsked_4 : decode cX8_costAsked 4 = .ok (.getfield 224, 3) := by decide +kernel
theorem dX8_costAsked_7 : decode cX8_costAsked 7 = .ok (.getfield 233, 3) := by decide +kernel
theorem dX8_costAsked_10 : decode cX8_costAsked 10 = .ok (.ireturn, 1) := by decide +kernel
theorem bX8_costAsked_0 {d mc ms : Nat} {al : Bool} {bc bs : Nat} {Γ : am_G} {I : am_I} {L : am_L} {Q : am_Q} {v0 : Nat} {r2 : Nat} {r5 : Nat} (o1 : am_ob Γ v0 8) (g3 : Γ.2.2 v0 1 = some r2) (o4 : am_ob Γ r2 5) (g6 : Γ.2.2 r2 10 = some r5) (o7 : am_ob Γ r5 6) (hq : Q (.inl (some (.int (I r5 1)))) Γ I L) : am_W m_X8_costAsked d mc ms al bc bs 0 [(0, .ref v0)] [] Γ I L Q := by
  refine aw_aload_n dX8_costAsked_0 rfl ?_
  refine aw_getR dX8_costAsked_1 f_X8_19 o1 rfl g3 ?_
  refine aw_getR dX8_costAsked_4 f_X8_224 o4 rfl g6 ?_
  refine aw_getI dX8_costAsked_7 f_X8_233 o7 rfl ?_
  exact aw_iret dX8_costAsked_10 rfl hq
theorem dX8_tollsPaid_0 : decode cX8_tollsPaid 0 = .ok (.aload_n 0, 1) := by decide +kernel
theorem dX8_tollsPaid_1 : decode cX8_tollsPaid 1 = .ok (.getfield 19, 3) := by decide +kernel
theorem dX8_tollsPaid_4 : decode cX8_tollsPaid 4 = .ok (.getfield 224, 3) := by decide +kernel
theorem dX8_tollsPaid_7 : decode cX8_tollsPaid 7 = .ok (.getfield 236, 3) := by decide +kernel
theorem dX8_tollsPaid_10 : decode cX8_tollsPaid 10 = .ok (.ireturn, 1) := by decide +kernel
theorem bX8_tollsPaid_0 {d mc ms : Nat} {al : Bool} {bc bs : Nat} {Γ : am_G} {I : am_I} {L : am_L} {Q : am_Q} {v0 : Nat} {r2 : Nat} {r5 : Nat} (o1 : am_ob Γ v0 8) (g3 : Γ.2.2 v0 1 = some r2) (o4 : am_ob Γ r2 5) (g6 : Γ.2.2 r2 10 = some r5) (o7 : am_ob Γ r5 6) (hq : Q (.inl (some (.int (I r5 2)))) Γ I L) : am_W m_X8_tollsPaid d mc ms al bc bs 0 [(0, .ref v0)] [] Γ I L Q := by
  refine aw_aload_n dX8_tollsPaid_0 rfl ?_
  refine aw_getR dX8_tollsPaid_1 f_X8_19 o1 rfl g3 ?_
  refine aw_getR dX8_tollsPaid_4 f_X8_224 o4 rfl g6 ?_
  refine aw_getI dX8_tollsPaid_7 f_X8_236 o7 rfl ?_
  exact aw_iret dX8_tollsPaid_10 rfl hq
theorem dX8_tollsDue_0 : decode cX8_tollsDue 0 = .ok (.aload_n 0, 1) := by decide +kernel
theorem dX8_tollsDue_1 : decode cX8_tollsDue 1 = .ok (.getfield 19, 3) := by decide +kernel
theorem dX8_tollsDue_4 : decode cX8_tollsDue 4 = .ok (.getfield 224, 3) := by decide +kernel
theorem dX8_tollsDue_7 : decode cX8_tollsDue 7 = .ok (.getfield 239, 3) := by decide +kernel
theorem dX8_tollsDue_10 : decode cX8_tollsDue 10 = .ok (.ireturn, 1) := by decide +kernel
theorem bX8_tollsDue_0 {d mc ms : Nat} {al : Bool} {bc bs : Nat} {Γ : am_G} {I : am_I} {L : am_L} {Q : am_Q} {v0 : Nat} {r2 : Nat} {r5 : Nat} (o1 : am_ob Γ v0 8) (g3 : Γ.2.2 v0 1 = some r2) (o4 : am_ob Γ r2 5) (g6 : Γ.2.2 r2 10 = some r5) (o7 : am_ob Γ r5 6) (hq : Q (.inl (some (.int (I r5 3)))) Γ I L) : am_W m_X8_tollsDue d mc ms al bc bs 0 [(0, .ref v0)] [] Γ I L Q := by
  refine aw_aload_n dX8_tollsDue_0 rfl ?_
  refine aw_getR dX8_tollsDue_1 f_X8_19 o1 rfl g3 ?_
  refine aw_getR dX8_tollsDue_4 f_X8_224 o4 rfl g6 ?_
  refine aw_getI dX8_tollsDue_7 f_X8_239 o7 rfl ?_
  exact aw_iret dX8_tollsDue_10 rfl hq
theorem dX8_cartsOvercharged_0 : decode cX8_cartsOvercharged 0 = .ok (.aload_n 0, 1) := by decide +kernel
theorem dX8_cartsOvercharged_1 : decode cX8_cartsOvercharged 1 = .ok (.getfield 19, 3) := by decide +kernel
theorem dX8_cartsOvercharged_4 : decode cX8_cartsOvercharged 4 = .ok (.getfield 224, 3) := by decide +kernel
theorem dX8_cartsOvercharged_7 : decode cX8_cartsOvercharged 7 = .ok (.getfield 242, 3) := by decide +kernel
theorem dX8_cartsOvercharged_10 : decode cX8_cartsOvercharged 10 = .ok (.ireturn, 1) := by decide +kernel
theorem bX8_cartsOvercharged_0 {d mc ms : Nat} {al : Bool} {bc bs : Nat} {Γ : am_G} {I : am_I} {L : am_L} {Q : am_Q} {v0 : Nat} {r2 : Nat} {r5 : Nat} (o1 : am_ob Γ v0 8) (g3 : Γ.2.2 v0 1 = some r2) (o4 : am_ob Γ r2 5) (g6 : Γ.2.2 r2 10 = some r5) (o7 : am_ob Γ r5 6) (hq : Q (.inl (some (.int (I r5 4)))) Γ I L) : am_W m_X8_cartsOvercharged d mc ms al bc bs 0 [(0, .ref v0)] [] Γ I L Q := by
  refine aw_aload_n dX8_cartsOvercharged_0 rfl ?_
  refine aw_getR dX8_cartsOvercharged_1 f_X8_19 o1 rfl g3 ?_
  refine aw_getR dX8_cartsOvercharged_4 f_X8_224 o4 rfl g6 ?_
  refine aw_getI dX8_cartsOvercharged_7 f_X8_242 o7 rfl ?_
  exact aw_iret dX8_cartsOvercharged_10 rfl hq
theorem dX8_cartsUndercharged_0 : decode cX8_cartsUndercharged 0 = .ok (.aload_n 0, 1) := by decide +kernel
theorem dX8_cartsUndercharged_1 : decode cX8_cartsUndercharged 1 = .ok (.getfield 19, 3) := by decide +kernel
theorem dX8_cartsUndercharged_4 : decode cX8_cartsUndercharged 4 = .ok (.getfield 224, 3) := by decide +kernel
theorem dX8_cartsUndercharged_7 : decode cX8_cartsUndercharged 7 = .ok (.getfield 245, 3) := by decide +kernel
theorem dX8_cartsUndercharged_10 : decode cX8_cartsUndercharged 10 = .ok (.ireturn, 1) := by decide +kernel
theorem bX8_cartsUndercharged_0 {d mc ms : Nat} {al : Bool} {bc bs : Nat} {Γ : am_G} {I : am_I} {L : am_L} {Q : am_Q} {v0 : Nat} {r2 : Nat} {r5 : Nat} (o1 : am_ob Γ v0 8) (g3 : Γ.2.2 v0 1 = some r2) (o4 : am_ob Γ r2 5) (g6 : Γ.2.2 r2 10 = some r5) (o7 : am_ob Γ r5 6) (hq : Q (.inl (some (.int (I r5 5)))) Γ I L) : am_W m_X8_cartsUndercharged d mc ms al bc bs 0 [(0, .ref v0)] [] Γ I L Q := by
  refine aw_aload_n dX8_cartsUndercharged_0 rfl ?_
  refine aw_getR dX8_cartsUndercharged_1 f_X8_19 o1 rfl g3 ?_
  refine aw_getR dX8_cartsUndercharged_4 f_X8_224 o4 rfl g6 ?_
  refine aw_getI dX8_cartsUndercharged_7 f_X8_245 o7 rfl ?_
  exact aw_iret dX8_cartsUndercharged_10 rfl hq
theorem dX8_overcharge_0 : decode cX8_overcharge 0 = .ok (.aload_n 0, 1) := by decide +kernel
theorem dX8_overcharge_1 : decode cX8_overcharge 1 = .ok (.getfield 19, 3) := by decide +kernel
theorem dX8_overcharge_4 : decode cX8_overcharge 4 = .ok (.getfield 224, 3) := by decide +kernel
theorem dX8_overcharge_7 : decode cX8_overcharge 7 = .ok (.getfield 248, 3) := by decide +kernel
theorem dX8_overcharge_10 : decode cX8_overcharge 10 = .ok (.ireturn, 1) := by decide +kernel
theorem bX8_overcharge_0 {d mc ms : Nat} {al : Bool} {bc bs : Nat} {Γ : am_G} {I : am_I} {L : am_L} {Q : am_Q} {v0 : Nat} {r2 : Nat} {r5 : Nat} (o1 : am_ob Γ v0 8) (g3 : Γ.2.2 v0 1 = some r2) (o4 : am_ob Γ r2 5) (g6 : Γ.2.2 r2 10 = some r5) (o7 : am_ob Γ r5 6) (hq : Q (.inl (some (.int (I r5 6)))) Γ I L) : am_W m_X8_overcharge d mc ms al bc bs 0 [(0, .ref v0)] [] Γ I L Q := by
  refine aw_aload_n dX8_overcharge_0 rfl ?_
  refine aw_getR dX8_overcharge_1 f_X8_19 o1 rfl g3 ?_
  refine aw_getR dX8_overcharge_4 f_X8_224 o4 rfl g6 ?_
  refine aw_getI dX8_overcharge_7 f_X8_248 o7 rfl ?_
  exact aw_iret dX8_overcharge_10 rfl hq
theorem dX8_undercharge_0 : decode cX8_undercharge 0 = .ok (.aload_n 0, 1) := by decide +kernel
theorem dX8_undercharge_1 : decode cX8_undercharge 1 = .ok (.getfield 19, 3) := by decide +kernel
theorem dX8_undercharge_4 : decode cX8_undercharge 4 = .ok (.getfield 224, 3) := by decide +kernel
theorem dX8_undercharge_7 : decode cX8_undercharge 7 = .ok (.getfield 251, 3) := by decide +kernel
theorem dX8_undercharge_10 : decode cX8_undercharge 10 = .ok (.ireturn, 1) := by decide +kernel
theorem bX8_undercharge_0 {d mc ms : Nat} {al : Bool} {bc bs : Nat} {Γ : am_G} {I : am_I} {L : am_L} {Q : am_Q} {v0 : Nat} {r2 : Nat} {r5 : Nat} (o1 : am_ob Γ v0 8) (g3 : Γ.2.2 v0 1 = some r2) (o4 : am_ob Γ r2 5) (g6 : Γ.2.2 r2 10 = some r5) (o7 : am_ob Γ r5 6) (hq : Q (.inl (some (.int (I r5 7)))) Γ I L) : am_W m_X8_undercharge d mc ms al bc bs 0 [(0, .ref v0)] [] Γ I L Q := by
  refine aw_aload_n dX8_undercharge_0 rfl ?_
  refine aw_getR dX8_undercharge_1 f_X8_19 o1 rfl g3 ?_
  refine aw_getR dX8_undercharge_4 f_X8_224 o4 rfl g6 ?_
  refine aw_getI dX8_undercharge_7 f_X8_251 o7 rfl ?_
  exact aw_iret dX8_undercharge_10 rfl hq
theorem dX8_nodeCount_0 : decode cX8_nodeCount 0 = .ok (.aload_n 0, 1) := by decide +kernel
theorem dX8_nodeCount_1 : decode cX8_nodeCount 1 = .ok (.iload_n 1, 1) := by decide +kernel
theorem dX8_nodeCount_2 : decode cX8_nodeCount 2 = .ok (.invokevirtual 115, 3) := by decide +kernel
theorem dX8_nodeCount_5 : decode cX8_nodeCount 5 = .ok (.aload_n 0, 1) := by decide +kernel
theorem dX8_nodeCount_6 : decode cX8_nodeCount 6 = .ok (.getfield 19, 3) := by decide +kernel
theorem dX8_nodeCount_9 : decode cX8_nodeCount 9 = .ok (.getfield 121, 3) := by decide +kernel
theorem dX8_nodeCount_12 : decode cX8_nodeCount 12 = .ok (.iload_n 1, 1) := by decide +kernel
theorem dX8_nodeCount_13 : decode cX8_nodeCount 13 = .ok (.aaload, 1) := by decide +kernel
theorem dX8_nodeCount_14 : decode cX8_nodeCount 14 = .ok (.getfield 148, 3) := by decide +kernel
theorem dX8_nodeCount_17 : decode cX8_nodeCount 17 = .ok (.getfield 152, 3) := by decide +kernel
theorem dX8_nodeCount_20 : decode cX8_nodeCount 20 = .ok (.ireturn, 1) := by decide +kernel
theorem bX8_nodeCount_0 {d mc ms : Nat} {al : Bool} {bc bs : Nat} {Γ : am_G} {I : am_I} {L : am_L} {Q : am_Q} {v0 : Nat} {v1 : Int32} {I' : am_I} {L' : am_L} {mc' : Nat} {ms' : Nat} (o1 : am_ob Γ v0 8) (hbc : mc' ≤ bc) (hbs : ms' ≤ bs) (hC : am_E m_X8_requireGate d mc' ms' [.ref v0, .int v1] Γ I L (.inl none) I' L') (kk : am_W m_X8_nodeCount (d + 1) mc ms al (bc - mc') (bs - ms') 5 [(0, .ref v0), (1, .int v1)] [] Γ I' L' Q) : am_W m_X8_nodeCount (d + 1) mc ms al bc bs 0 [(0, .ref v0), (1, .int v1)] [] Γ I L Q := by
  refine aw_aload_n dX8_nodeCount_0 rfl ?_
  refine aw_iload_n dX8_nodeCount_1 rfl ?_
  exact aw_askV (as := [.int v1]) (rst := []) k_X8_requireGate l_X8_115 i_X8_requireGate s_X8_requireGate rfl o1 dX8_nodeCount_2 rfl (Nat.le_of_ble_eq_true rfl) hbc hbs hC rfl rfl kk
theorem bX8_nodeCount_0x {d mc ms : Nat} {al : Bool} {bc bs : Nat} {Γ : am_G} {I : am_I} {L : am_L} {Q : am_Q} {v0 : Nat} {v1 : Int32} {I' : am_I} {L' : am_L} {mc' : Nat} {ms' : Nat} {E : String} (o1 : am_ob Γ v0 8) (hbc : mc' ≤ bc) (hbs : ms' ≤ bs) (hC : am_E m_X8_requireGate d mc' ms' [.ref v0, .int v1] Γ I L (.inr E) I' L') (hq : Q (.inr E) Γ I' L') : am_W m_X8_nodeCount (d + 1) mc ms al bc bs 0 [(0, .ref v0), (1, .int v1)] [] Γ I L Q := by
  refine aw_aload_n dX8_nodeCount_0 rfl ?_
  refine aw_iload_n dX8_nodeCount_1 rfl ?_
  exact aw_fallV (as := [.int v1]) (rst := []) k_X8_requireGate l_X8_115 i_X8_requireGate s_X8_requireGate rfl o1 dX8_nodeCount_2 rfl (Nat.le_of_ble_eq_true rfl) hbc hbs rfl hC rfl hq
theorem bX8_nodeCount_5 {d mc ms : Nat} {al : Bool} {bc bs : Nat} {Γ : am_G} {I : am_I} {L : am_L} {Q : am_Q} {v0 : Nat} {v1 : Int32} {r2 : Nat} {r5 : Nat} {n_r5 : Nat} {r9 : Nat} {r12 : Nat} (o1 : am_ob Γ v0 8) (g3 : Γ.2.2 v0 1 = some r2) (o4 : am_ob Γ r2 5) (g6 : Γ.2.2 r2 9 = some r5) (a7 : am_ar Γ r5 6 n_r5 0) (i8 : vp_in v1 n_r5) (g10 : Γ.2.2 r5 (v1.toNatClampNeg) = some r9) (o11 : am_ob Γ r9 0) (g13 : Γ.2.2 r9 5 = some r12) (o14 : am_ob Γ r12 7) (hq : Q (.inl (some (.int (I r12 0)))) Γ I L) : am_W m_X8_nodeCount d mc ms al bc bs 5 [(0, .ref v0), (1, .int v1)] [] Γ I L Q := by
  refine aw_aload_n dX8_nodeCount_5 rfl ?_
  refine aw_getR dX8_nodeCount_6 f_X8_19 o1 rfl g3 ?_
  refine aw_getR dX8_nodeCount_9 f_X8_121 o4 rfl g6 ?_
  refine aw_iload_n dX8_nodeCount_12 rfl ?_
  refine aw_aald dX8_nodeCount_13 a7 i8 g10 ?_
  refine aw_getR dX8_nodeCount_14 f_X8_148 o11 rfl g13 ?_
  refine aw_getI dX8_nodeCount_17 f_X8_152 o14 rfl ?_
  exact aw_iret dX8_nodeCount_20 rfl hq
theorem dX8_nodeQuestion_0 : decode cX8_nodeQuestion 0 = .ok (.aload_n 0, 1) := by decide +kernel
theorem dX8_nodeQuestion_1 : decode cX8_nodeQuestion 1 = .ok (.iload_n 1, 1) := by decide +kernel
theorem dX8_nodeQuestion_2 : decode cX8_nodeQuestion 2 = .ok (.iload_n 2, 1) := by decide +kernel
theorem dX8_nodeQuestion_3 : decode cX8_nodeQuestion 3 = .ok (.invokevirtual 254, 3) := by decide +kernel
theorem dX8_nodeQuestion_6 : decode cX8_nodeQuestion 6 = .ok (.aload_n 0, 1) := by decide +kernel
theorem dX8_nodeQuestion_7 : decode cX8_nodeQuestion 7 = .ok (.getfield 19, 3) := by decide +kernel
theorem dX8_nodeQuestion_10 : decode cX8_nodeQuestion 10 = .ok (.getfield 121, 3) := by decide +kernel
theorem dX8_nodeQuestion_13 : decode cX8_nodeQuestion 13 = .ok (.iload_n 1, 1) := by decide +kernel
theorem dX8_nodeQuestion_14 : decode cX8_nodeQuestion 14 = .ok (.aaload, 1) := by decide +kernel
theorem dX8_nodeQuestion_15 : decode cX8_nodeQuestion 15 = .ok (.getfield 148, 3) := by decide +kernel
theorem dX8_nodeQuestion_18 : decode cX8_nodeQuestion 18 = .ok (.getfield 258, 3) := by decide +kernel
theorem dX8_nodeQuestion_21 : decode cX8_nodeQuestion 21 = .ok (.iload_n 2, 1) := by decide +kernel
theorem dX8_nodeQuestion_22 : decode cX8_nodeQuestion 22 = .ok (.iaload, 1) := by decide +kernel
theorem dX8_nodeQuestion_23 : decode cX8_nodeQuestion 23 = .ok (.ireturn, 1) := by decide +kernel
theorem bX8_nodeQuestion_0 {d mc ms : Nat} {al : Bool} {bc bs : Nat} {Γ : am_G} {I : am_I} {L : am_L} {Q : am_Q} {v0 : Nat} {v1 : Int32} {v2 : Int32} {I' : am_I} {L' : am_L} {mc' : Nat} {ms' : Nat} (o1 : am_ob Γ v0 8) (hbc : mc' ≤ bc) (hbs : ms' ≤ bs) (hC : am_E m_X8_requireNode d mc' ms' [.ref v0, .int v1, .int v2] Γ I L (.inl none) I' L') (kk : am_W m_X8_nodeQuestion (d + 1) mc ms al (bc - mc') (bs - ms') 6 [(0, .ref v0), (1, .int v1), (2, .int v2)] [] Γ I' L' Q) : am_W m_X8_nodeQuestion (d + 1) mc ms al bc bs 0 [(0, .ref v0), (1, .int v1), (2, .int v2)] [] Γ I L Q := by
  refine aw_aload_n dX8_nodeQuestion_0 rfl ?_
  refine aw_iload_n dX8_nodeQuestion_1 rfl ?_
  refine aw_iload_n dX8_nodeQuestion_2 rfl ?_
  exact aw_askV (as := [.int v1, .int v2]) (rst := []) k_X8_requireNode l_X8_254 i_X8_requireNode s_X8_requireNode rfl o1 dX8_nodeQuestion_3 rfl (Nat.le_of_ble_eq_true rfl) hbc hbs hC rfl rfl kk
theorem bX8_nodeQuestion_0x {d mc ms : Nat} {al : Bool} {bc bs : Nat} {Γ : am_G} {I : am_I} {L : am_L} {Q : am_Q} {v0 : Nat} {v1 : Int32} {v2 : Int32} {I' : am_I} {L' : am_L} {mc' : Nat} {ms' : Nat} {E : String} (o1 : am_ob Γ v0 8) (hbc : mc' ≤ bc) (hbs : ms' ≤ bs) (hC : am_E m_X8_requireNode d mc' ms' [.ref v0, .int v1, .int v2] Γ I L (.inr E) I' L') (hq : Q (.inr E) Γ I' L') : am_W m_X8_nodeQuestion (d + 1) mc ms al bc bs 0 [(0, .ref v0), (1, .int v1), (2, .int v2)] [] Γ I L Q := by
  refine aw_aload_n dX8_nodeQuestion_0 rfl ?_
  refine aw_iload_n dX8_nodeQuestion_1 rfl ?_
  refine aw_iload_n dX8_nodeQuestion_2 rfl ?_
  exact aw_fallV (as := [.int v1, .int v2]) (rst := []) k_X8_requireNode l_X8_254 i_X8_requireNode s_X8_requireNode rfl o1 dX8_nodeQuestion_3 rfl (Nat.le_of_ble_eq_true rfl) hbc hbs rfl hC rfl hq
theorem bX8_nodeQuestion_6 {d mc ms : Nat} {al : Bool} {bc bs : Nat} {Γ : am_G} {I : am_I} {L : am_L} {Q : am_Q} {v0 : Nat} {v1 : Int32} {v2 : Int32} {r2 : Nat} {r5 : Nat} {n_r5 : Nat} {r9 : Nat} {r12 : Nat} {r15 : Nat} {n_r15 : Nat} (o1 : am_ob Γ v0 8) (g3 : Γ.2.2 v0 1 = some r2) (o4 : am_ob Γ r2 5) (g6 : Γ.2.2 r2 9 = some r5) (a7 : am_ar Γ r5 6 n_r5 0) (i8 : vp_in v1 n_r5) (g10 : Γ.2.2 r5 (v1.toNatClampNeg) = some r9) (o11 : am_ob Γ r9 0) (g13 : Γ.2.2 r9 5 = some r12) (o14 : am_ob Γ r12 7) (g16 : Γ.2.2 r12 1 = some r15) (a17 : am_ar Γ r15 1 n_r15 0) (i18 : vp_in v2 n_r15) (hq : Q (.inl (some (.int (I r15 (v2.toNatClampNeg))))) Γ I L) : am_W m_X8_nodeQuestion d mc ms al bc bs 6 [(0, .ref v0), (1, .int v1), (2, .int v2)] [] Γ I L Q := by
  refine aw_aload_n dX8_nodeQuestion_6 rfl ?_
  refine aw_getR dX8_nodeQuestion_7 f_X8_19 o1 rfl g3 ?_
  refine aw_getR dX8_nodeQuestion_10 f_X8_121 o4 rfl g6 ?_
  refine aw_iload_n dX8_nodeQuestion_13 rfl ?_
  refine aw_aald dX8_nodeQuestion_14 a7 i8 g10 ?_
  refine aw_getR dX8_nodeQuestion_15 f_X8_148 o11 rfl g13 ?_
  refine aw_getR dX8_nodeQuestion_18 f_X8_258 o14 rfl g16 ?_
  refine aw_iload_n dX8_nodeQuestion_21 rfl ?_
  refine aw_iald dX8_nodeQuestion_22 a17 i18 ?_
  exact aw_iret dX8_nodeQuestion_23 rfl hq
theorem dX8_leafToll_0 : decode cX8_leafToll 0 = .ok (.aload_n 0, 1) := by decide +kernel
theorem dX8_leafToll_1 : decode cX8_leafToll 1 = .ok (.iload_n 1, 1) := by decide +kernel
theorem dX8_leafToll_2 : decode cX8_leafToll 2 = .ok (.iload_n 2, 1) := by decide +kernel
theorem dX8_leafToll_3 : decode cX8_leafToll 3 = .ok (.invokevirtual 254, 3) := by decide +kernel
theorem dX8_leafToll_6 : decode cX8_leafToll 6 = .ok (.aload_n 0, 1) := by decide +kernel
theorem dX8_leafToll_7 : decode cX8_leafToll 7 = .ok (.getfield 19, 3) := by decide +kernel
theorem dX8_leafToll_10 : decode cX8_leafToll 10 = .ok (.getfield 121, 3) := by decide +kernel
theorem dX8_leafToll_13 : decode cX8_leafToll 13 = .ok (.iload_n 1, 1) := by decide +kernel
theorem dX8_leafToll_14 : decode cX8_leafToll 14 = .ok (.aaload, 1) := by decide +kernel
theorem dX8_leafToll_15 : decode cX8_leafToll 15 = .ok (.getfield 148, 3) := by decide +kernel
theorem dX8_leafToll_18 : decode cX8_leafToll 18 = .ok (.getfield 261, 3) := by decide +kernel
theorem dX8_leafToll_21 : decode cX8_leafToll 21 = .ok (.iload_n 2, 1) := by decide +kernel
theorem dX8_leafToll_22 : decode cX8_leafToll 22 = .ok (.iaload, 1) := by decide +kernel
theorem dX8_leafToll_23 : decode cX8_leafToll 23 = .ok (.ireturn, 1) := by decide +kernel
theorem bX8_leafToll_0 {d mc ms : Nat} {al : Bool} {bc bs : Nat} {Γ : am_G} {I : am_I} {L : am_L} {Q : am_Q} {v0 : Nat} {v1 : Int32} {v2 : Int32} {I' : am_I} {L' : am_L} {mc' : Nat} {ms' : Nat} (o1 : am_ob Γ v0 8) (hbc : mc' ≤ bc) (hbs : ms' ≤ bs) (hC : am_E m_X8_requireNode d mc' ms' [.ref v0, .int v1, .int v2] Γ I L (.inl none) I' L') (kk : am_W m_X8_leafToll (d + 1) mc ms al (bc - mc') (bs - ms') 6 [(0, .ref v0), (1, .int v1), (2, .int v2)] [] Γ I' L' Q) : am_W m_X8_leafToll (d + 1) mc ms al bc bs 0 [(0, .ref v0), (1, .int v1), (2, .int v2)] [] Γ I L Q := by
  refine aw_aload_n dX8_leafToll_0 rfl ?_
  refine aw_iload_n dX8_leafToll_1 rfl ?_
  refine aw_iload_n dX8_leafToll_2 rfl ?_
  exact aw_askV (as := [.int v1, .int v2]) (rst := []) k_X8_requireNode l_X8_254 i_X8_requireNode s_X8_requireNode rfl o1 dX8_leafToll_3 rfl (Nat.le_of_ble_eq_true rfl) hbc hbs hC rfl rfl kk
theorem bX8_leafToll_0x {d mc ms : Nat} {al : Bool} {bc bs : Nat} {Γ : am_G} {I : am_I} {L : am_L} {Q : am_Q} {v0 : Nat} {v1 : Int32} {v2 : Int32} {I' : am_I} {L' : am_L} {mc' : Nat} {ms' : Nat} {E : String} (o1 : am_ob Γ v0 8) (hbc : mc' ≤ bc) (hbs : ms' ≤ bs) (hC : am_E m_X8_requireNode d mc' ms' [.ref v0, .int v1, .int v2] Γ I L (.inr E) I' L') (hq : Q (.inr E) Γ I' L') : am_W m_X8_leafToll (d + 1) mc ms al bc bs 0 [(0, .ref v0), (1, .int v1), (2, .int v2)] [] Γ I L Q := by
  refine aw_aload_n dX8_leafToll_0 rfl ?_
  refine aw_iload_n dX8_leafToll_1 rfl ?_
  refine aw_iload_n dX8_leafToll_2 rfl ?_
  exact aw_fallV (as := [.int v1, .int v2]) (rst := []) k_X8_requireNode l_X8_254 i_X8_requireNode s_X8_requireNode rfl o1 dX8_leafToll_3 rfl (Nat.le_of_ble_eq_true rfl) hbc hbs rfl hC rfl hq
theorem bX8_leafToll_6 {d mc ms : Nat} {al : Bool} {bc bs : Nat} {Γ : am_G} {I : am_I} {L : am_L} {Q : am_Q} {v0 : Nat} {v1 : Int32} {v2 : Int32} {r2 : Nat} {r5 : Nat} {n_r5 : Nat} {r9 : Nat} {r12 : Nat} {r15 : Nat} {n_r15 : Nat} (o1 : am_ob Γ v0 8) (g3 : Γ.2.2 v0 1 = some r2) (o4 : am_ob Γ r2 5) (g6 : Γ.2.2 r2 9 = some r5) (a7 : am_ar Γ r5 6 n_r5 0) (i8 : vp_in v1 n_r5) (g10 : Γ.2.2 r5 (v1.toNatClampNeg) = some r9) (o11 : am_ob Γ r9 0) (g13 : Γ.2.2 r9 5 = some r12) (o14 : am_ob Γ r12 7) (g16 : Γ.2.2 r12 2 = some r15) (a17 : am_ar Γ r15 1 n_r15 0) (i18 : vp_in v2 n_r15) (hq : Q (.inl (some (.int (I r15 (v2.toNatClampNeg))))) Γ I L) : am_W m_X8_leafToll d mc ms al bc bs 6 [(0, .ref v0), (1, .int v1), (2, .int v2)] [] Γ I L Q := by
  refine aw_aload_n dX8_leafToll_6 rfl ?_
  refine aw_getR dX8_leafToll_7 f_X8_19 o1 rfl g3 ?_
  refine aw_getR dX8_leafToll_10 f_X8_121 o4 rfl g6 ?_
  refine aw_iload_n dX8_leafToll_13 rfl ?_
  refine aw_aald dX8_leafToll_14 a7 i8 g10 ?_
  refine aw_getR dX8_leafToll_15 f_X8_148 o11 rfl g13 ?_
  refine aw_getR dX8_leafToll_18 f_X8_261 o14 rfl g16 ?_
  refine aw_iload_n dX8_leafToll_21 rfl ?_
  refine aw_iald dX8_leafToll_22 a17 i18 ?_
  exact aw_iret dX8_leafToll_23 rfl hq
theorem dX8_yesChild_0 : decode cX8_yesChild 0 = .ok (.aload_n 0, 1) := by decide +kernel
theorem dX8_yesChild_1 : decode cX8_yesChild 1 = .ok (.iload_n 1, 1) := by decide +kernel
theorem dX8_yesChild_2 : decode cX8_yesChild 2 = .ok (.iload_n 2, 1) := by decide +kernel
theorem dX8_yesChild_3 : decode cX8_yesChild 3 = .ok (.invokevirtual 254, 3) := by decide +kernel
theorem dX8_yesChild_6 : decode cX8_yesChild 6 = .ok (.aload_n 0, 1) := by decide +kernel
theorem dX8_yesChild_7 : decode cX8_yesChild 7 = .ok (.getfield 19, 3) := by decide +kernel
theorem dX8_yesChild_10 : decode cX8_yesChild 10 = .ok (.getfield 121, 3) := by decide +kernel
theorem dX8_yesChild_13 : decode cX8_yesChild 13 = .ok (.iload_n 1, 1) := by decide +kernel
theorem dX8_yesChild_14 : decode cX8_yesChild 14 = .ok (.aaload, 1) := by decide +kernel
theorem dX8_yesChild_15 : decode cX8_yesChild 15 = .ok (.getfield 148, 3) := by decide +kernel
theorem dX8_yesChild_18 : decode cX8_yesChild 18 = .ok (.iload_n 2, 1) := by decide +kernel
theorem dX8_yesChild_19 : decode cX8_yesChild 19 = .ok (.invokevirtual 262, 3) := by decide +kernel
theorem dX8_yesChild_22 : decode cX8_yesChild 22 = .ok (.ireturn, 1) := by decide +kernel
theorem bX8_yesChild_0 {d mc ms : Nat} {al : Bool} {bc bs : Nat} {Γ : am_G} {I : am_I} {L : am_L} {Q : am_Q} {v0 : Nat} {v1 : Int32} {v2 : Int32} {I' : am_I} {L' : am_L} {mc' : Nat} {ms' : Nat} (o1 : am_ob Γ v0 8) (hbc : mc' ≤ bc) (hbs : ms' ≤ bs) (hC : am_E m_X8_requireNode d mc' ms' [.ref v0, .int v1, .int v2] Γ I L (.inl none) I' L') (kk : am_W m_X8_yesChild (d + 1) mc ms al (bc - mc') (bs - ms') 6 [(0, .ref v0), (1, .int v1), (2, .int v2)] [] Γ I' L' Q) : am_W m_X8_yesChild (d + 1) mc ms al bc bs 0 [(0, .ref v0), (1, .int v1), (2, .int v2)] [] Γ I L Q := by
  refine aw_aload_n dX8_yesChild_0 rfl ?_
  refine aw_iload_n dX8_yesChild_1 rfl ?_
  refine aw_iload_n dX8_yesChild_2 rfl ?_
  exact aw_askV (as := [.int v1, .int v2]) (rst := []) k_X8_requireNode l_X8_254 i_X8_requireNode s_X8_requireNode rfl o1 dX8_yesChild_3 rfl (Nat.le_of_ble_eq_true rfl) hbc hbs hC rfl rfl kk
theorem bX8_yesChild_0x {d mc ms : Nat} {al : Bool} {bc bs : Nat} {Γ : am_G} {I : am_I} {L : am_L} {Q : am_Q} {v0 : Nat} {v1 : Int32} {v2 : Int32} {I' : am_I} {L' : am_L} {mc' : Nat} {ms' : Nat} {E : String} (o1 : am_ob Γ v0 8) (hbc : mc' ≤ bc) (hbs : ms' ≤ bs) (hC : am_E m_X8_requireNode d mc' ms' [.ref v0, .int v1, .int v2] Γ I L (.inr E) I' L') (hq : Q (.inr E) Γ I' L') : am_W m_X8_yesChild (d + 1) mc ms al bc bs 0 [(0, .ref v0), (1, .int v1), (2, .int v2)] [] Γ I L Q := by
  refine aw_aload_n dX8_yesChild_0 rfl ?_
  refine aw_iload_n dX8_yesChild_1 rfl ?_
  refine aw_iload_n dX8_yesChild_2 rfl ?_
  exact aw_fallV (as := [.int v1, .int v2]) (rst := []) k_X8_requireNode l_X8_254 i_X8_requireNode s_X8_requireNode rfl o1 dX8_yesChild_3 rfl (Nat.le_of_ble_eq_true rfl) hbc hbs rfl hC rfl hq
theorem bX8_yesChild_6 {d mc ms : Nat} {al : Bool} {bc bs : Nat} {Γ : am_G} {I : am_I} {L : am_L} {Q : am_Q} {v0 : Nat} {v1 : Int32} {v2 : Int32} {r2 : Nat} {r5 : Nat} {n_r5 : Nat} {r9 : Nat} {r12 : Nat} {I' : am_I} {L' : am_L} {mc' : Nat} {ms' : Nat} {r : Int32} (o1 : am_ob Γ v0 8) (g3 : Γ.2.2 v0 1 = some r2) (o4 : am_ob Γ r2 5) (g6 : Γ.2.2 r2 9 = some r5) (a7 : am_ar Γ r5 6 n_r5 0) (i8 : vp_in v1 n_r5) (g10 : Γ.2.2 r5 (v1.toNatClampNeg) = some r9) (o11 : am_ob Γ r9 0) (g13 : Γ.2.2 r9 5 = some r12) (o14 : am_ob Γ r12 7) (hbc : mc' ≤ bc) (hbs : ms' ≤ bs) (hC : am_E m_X7_firstChild d mc' ms' [.ref r12, .int v2] Γ I L (.inl (some (.int r))) I' L') (kk : am_W m_X8_yesChild (d + 1) mc ms al (bc - mc') (bs - ms') 22 [(0, .ref v0), (1, .int v1), (2, .int v2)] [.int r] Γ I' L' Q) : am_W m_X8_yesChild (d + 1) mc ms al bc bs 6 [(0, .ref v0), (1, .int v1), (2, .int v2)] [] Γ I L Q := by
  refine aw_aload_n dX8_yesChild_6 rfl ?_
  refine aw_getR dX8_yesChild_7 f_X8_19 o1 rfl g3 ?_
  refine aw_getR dX8_yesChild_10 f_X8_121 o4 rfl g6 ?_
  refine aw_iload_n dX8_yesChild_13 rfl ?_
  refine aw_aald dX8_yesChild_14 a7 i8 g10 ?_
  refine aw_getR dX8_yesChild_15 f_X8_148 o11 rfl g13 ?_
  refine aw_iload_n dX8_yesChild_18 rfl ?_
  exact aw_askV (as := [.int v2]) (rst := []) k_X7_firstChild l_X8_262 i_X7_firstChild s_X7_firstChild rfl o14 dX8_yesChild_19 rfl (Nat.le_of_ble_eq_true rfl) hbc hbs hC rfl rfl kk
theorem bX8_yesChild_22 {d mc ms : Nat} {al : Bool} {bc bs : Nat} {Γ : am_G} {I : am_I} {L : am_L} {Q : am_Q} {v0 : Nat} {v1 : Int32} {v2 : Int32} {w0 : Int32} (hq : Q (.inl (some (.int w0))) Γ I L) : am_W m_X8_yesChild d mc ms al bc bs 22 [(0, .ref v0), (1, .int v1), (2, .int v2)] [.int w0] Γ I L Q := by
  exact aw_iret dX8_yesChild_22 rfl hq
theorem dX8_noChild_0 : decode cX8_noChild 0 = .ok (.aload_n 0, 1) := by decide +kernel
theorem dX8_noChild_1 : decode cX8_noChild 1 = .ok (.iload_n 1, 1) := by decide +kernel
theorem dX8_noChild_2 : decode cX8_noChild 2 = .ok (.iload_n 2, 1) := by decide +kernel
theorem dX8_noChild_3 : decode cX8_noChild 3 = .ok (.invokevirtual 254, 3) := by decide +kernel
theorem dX8_noChild_6 : decode cX8_noChild 6 = .ok (.aload_n 0, 1) := by decide +kernel
theorem dX8_noChild_7 : decode cX8_noChild 7 = .ok (.getfield 19, 3) := by decide +kernel
theorem dX8_noChild_10 : decode cX8_noChild 10 = .ok (.getfield 121, 3) := by decide +kernel
theorem dX8_noChild_13 : decode cX8_noChild 13 = .ok (.iload_n 1, 1) := by decide +kernel
theorem dX8_noChild_14 : decode cX8_noChild 14 = .ok (.aaload, 1) := by decide +kernel
theorem dX8_noChild_15 : decode cX8_noChild 15 = .ok (.getfield 148, 3) := by decide +kernel
theorem dX8_noChild_18 : decode cX8_noChild 18 = .ok (.getfield 265, 3) := by decide +kernel
theorem dX8_noChild_21 : decode cX8_noChild 21 = .ok (.iload_n 2, 1) := by decide +kernel
theorem dX8_noChild_22 : decode cX8_noChild 22 = .ok (.iaload, 1) := by decide +kernel
theorem dX8_noChild_23 : decode cX8_noChild 23 = .ok (.ireturn, 1) := by decide +kernel
theorem bX8_noChild_0 {d mc ms : Nat} {al : Bool} {bc bs : Nat} {Γ : am_G} {I : am_I} {L : am_L} {Q : am_Q} {v0 : Nat} {v1 : Int32} {v2 : Int32} {I' : am_I} {L' : am_L} {mc' : Nat} {ms' : Nat} (o1 : am_ob Γ v0 8) (hbc : mc' ≤ bc) (hbs : ms' ≤ bs) (hC : am_E m_X8_requireNode d mc' ms' [.ref v0, .int v1, .int v2] Γ I L (.inl none) I' L') (kk : am_W m_X8_noChild (d + 1) mc ms al (bc - mc') (bs - ms') 6 [(0, .ref v0), (1, .int v1), (2, .int v2)] [] Γ I' L' Q) : am_W m_X8_noChild (d + 1) mc ms al bc bs 0 [(0, .ref v0), (1, .int v1), (2, .int v2)] [] Γ I L Q := by
  refine aw_aload_n dX8_noChild_0 rfl ?_
  refine aw_iload_n dX8_noChild_1 rfl ?_
  refine aw_iload_n dX8_noChild_2 rfl ?_
  exact aw_askV (as := [.int v1, .int v2]) (rst := []) k_X8_requireNode l_X8_254 i_X8_requireNode s_X8_requireNode rfl o1 dX8_noChild_3 rfl (Nat.le_of_ble_eq_true rfl) hbc hbs hC rfl rfl kk
theorem bX8_noChild_0x {d mc ms : Nat} {al : Bool} {bc bs : Nat} {Γ : am_G} {I : am_I} {L : am_L} {Q : am_Q} {v0 : Nat} {v1 : Int32} {v2 : Int32} {I' : am_I} {L' : am_L} {mc' : Nat} {ms' : Nat} {E : String} (o1 : am_ob Γ v0 8) (hbc : mc' ≤ bc) (hbs : ms' ≤ bs) (hC : am_E m_X8_requireNode d mc' ms' [.ref v0, .int v1, .int v2] Γ I L (.inr E) I' L') (hq : Q (.inr E) Γ I' L') : am_W m_X8_noChild (d + 1) mc ms al bc bs 0 [(0, .ref v0), (1, .int v1), (2, .int v2)] [] Γ I L Q := by
  refine aw_aload_n dX8_noChild_0 rfl ?_
  refine aw_iload_n dX8_noChild_1 rfl ?_
  refine aw_iload_n dX8_noChild_2 rfl ?_
  exact aw_fallV (as := [.int v1, .int v2]) (rst := []) k_X8_requireNode l_X8_254 i_X8_requireNode s_X8_requireNode rfl o1 dX8_noChild_3 rfl (Nat.le_of_ble_eq_true rfl) hbc hbs rfl hC rfl hq
theorem bX8_noChild_6 {d mc ms : Nat} {al : Bool} {bc bs : Nat} {Γ : am_G} {I : am_I} {L : am_L} {Q : am_Q} {v0 : Nat} {v1 : Int32} {v2 : Int32} {r2 : Nat} {r5 : Nat} {n_r5 : Nat} {r9 : Nat} {r12 : Nat} {r15 : Nat} {n_r15 : Nat} (o1 : am_ob Γ v0 8) (g3 : Γ.2.2 v0 1 = some r2) (o4 : am_ob Γ r2 5) (g6 : Γ.2.2 r2 9 = some r5) (a7 : am_ar Γ r5 6 n_r5 0) (i8 : vp_in v1 n_r5) (g10 : Γ.2.2 r5 (v1.toNatClampNeg) = some r9) (o11 : am_ob Γ r9 0) (g13 : Γ.2.2 r9 5 = some r12) (o14 : am_ob Γ r12 7) (g16 : Γ.2.2 r12 3 = some r15) (a17 : am_ar Γ r15 1 n_r15 0) (i18 : vp_in v2 n_r15) (hq : Q (.inl (some (.int (I r15 (v2.toNatClampNeg))))) Γ I L) : am_W m_X8_noChild d mc ms al bc bs 6 [(0, .ref v0), (1, .int v1), (2, .int v2)] [] Γ I L Q := by
  refine aw_aload_n dX8_noChild_6 rfl ?_
  refine aw_getR dX8_noChild_7 f_X8_19 o1 rfl g3 ?_
  refine aw_getR dX8_noChild_10 f_X8_121 o4 rfl g6 ?_
  refine aw_iload_n dX8_noChild_13 rfl ?_
  refine aw_aald dX8_noChild_14 a7 i8 g10 ?_
  refine aw_getR dX8_noChild_15 f_X8_148 o11 rfl g13 ?_
  refine aw_getR dX8_noChild_18 f_X8_265 o14 rfl g16 ?_
  refine aw_iload_n dX8_noChild_21 rfl ?_
  refine aw_iald dX8_noChild_22 a17 i18 ?_
  exact aw_iret dX8_noChild_23 rfl hq
theorem dX8_typesAt_0 : decode cX8_typesAt 0 = .ok (.aload_n 0, 1) := by decide +kernel
theorem dX8_typesAt_1 : decode cX8_typesAt 1 = .ok (.iload_n 1, 1) := by decide +kernel
theorem dX8_typesAt_2 : decode cX8_typesAt 2 = .ok (.iload_n 2, 1) := by decide +kernel
theorem dX8_typesAt_3 : decode cX8_typesAt 3 = .ok (.invokevirtual 254, 3) := by decide +kernel
theorem dX8_typesAt_6 : decode cX8_typesAt 6 = .ok (.aload_n 0, 1) := by decide +kernel
theorem dX8_typesAt_7 : decode cX8_typesAt 7 = .ok (.getfield 19, 3) := by decide +kernel
theorem dX8_typesAt_10 : decode cX8_typesAt 10 = .ok (.getfield 121, 3) := by decide +kernel
theorem dX8_typesAt_13 : decode cX8_typesAt 13 = .ok (.iload_n 1, 1) := by decide +kernel
theorem dX8_typesAt_14 : decode cX8_typesAt 14 = .ok (.aaload, 1) := by decide +kernel
theorem dX8_typesAt_15 : decode cX8_typesAt 15 = .ok (.getfield 148, 3) := by decide +kernel
theorem dX8_typesAt_18 : decode cX8_typesAt 18 = .ok (.getfield 268, 3) := by decide +kernel
theorem dX8_typesAt_21 : decode cX8_typesAt 21 = .ok (.iload_n 2, 1) := by decide +kernel
theorem dX8_typesAt_22 : decode cX8_typesAt 22 = .ok (.iaload, 1) := by decide +kernel
theorem dX8_typesAt_23 : decode cX8_typesAt 23 = .ok (.ireturn, 1) := by decide +kernel
theorem bX8_typesAt_0 {d mc ms : Nat} {al : Bool} {bc bs : Nat} {Γ : am_G} {I : am_I} {L : am_L} {Q : am_Q} {v0 : Nat} {v1 : Int32} {v2 : Int32} {I' : am_I} {L' : am_L} {mc' : Nat} {ms' : Nat} (o1 : am_ob Γ v0 8) (hbc : mc' ≤ bc) (hbs : ms' ≤ bs) (hC : am_E m_X8_requireNode d mc' ms' [.ref v0, .int v1, .int v2] Γ I L (.inl none) I' L') (kk : am_W m_X8_typesAt (d + 1) mc ms al (bc - mc') (bs - ms') 6 [(0, .ref v0), (1, .int v1), (2, .int v2)] [] Γ I' L' Q) : am_W m_X8_typesAt (d + 1) mc ms al bc bs 0 [(0, .ref v0), (1, .int v1), (2, .int v2)] [] Γ I L Q := by
  refine aw_aload_n dX8_typesAt_0 rfl ?_
  refine aw_iload_n dX8_typesAt_1 rfl ?_
  refine aw_iload_n dX8_typesAt_2 rfl ?_
  exact aw_askV (as := [.int v1, .int v2]) (rst := []) k_X8_requireNode l_X8_254 i_X8_requireNode s_X8_requireNode rfl o1 dX8_typesAt_3 rfl (Nat.le_of_ble_eq_true rfl) hbc hbs hC rfl rfl kk
theorem bX8_typesAt_0x {d mc ms : Nat} {al : Bool} {bc bs : Nat} {Γ : am_G} {I : am_I} {L : am_L} {Q : am_Q} {v0 : Nat} {v1 : Int32} {v2 : Int32} {I' : am_I} {L' : am_L} {mc' : Nat} {ms' : Nat} {E : String} (o1 : am_ob Γ v0 8) (hbc : mc' ≤ bc) (hbs : ms' ≤ bs) (hC : am_E m_X8_requireNode d mc' ms' [.ref v0, .int v1, .int v2] Γ I L (.inr E) I' L') (hq : Q (.inr E) Γ I' L') : am_W m_X8_typesAt (d + 1) mc ms al bc bs 0 [(0, .ref v0), (1, .int v1), (2, .int v2)] [] Γ I L Q := by
  refine aw_aload_n dX8_typesAt_0 rfl ?_
  refine aw_iload_n dX8_typesAt_1 rfl ?_
  refine aw_iload_n dX8_typesAt_2 rfl ?_
  exact aw_fallV (as := [.int v1, .int v2]) (rst := []) k_X8_requireNode l_X8_254 i_X8_requireNode s_X8_requireNode rfl o1 dX8_typesAt_3 rfl (Nat.le_of_ble_eq_true rfl) hbc hbs rfl hC rfl hq
theorem bX8_typesAt_6 {d mc ms : Nat} {al : Bool} {bc bs : Nat} {Γ : am_G} {I : am_I} {L : am_L} {Q : am_Q} {v0 : Nat} {v1 : Int32} {v2 : Int32} {r2 : Nat} {r5 : Nat} {n_r5 : Nat} {r9 : Nat} {r12 : Nat} {r15 : Nat} {n_r15 : Nat} (o1 : am_ob Γ v0 8) (g3 : Γ.2.2 v0 1 = some r2) (o4 : am_ob Γ r2 5) (g6 : Γ.2.2 r2 9 = some r5) (a7 : am_ar Γ r5 6 n_r5 0) (i8 : vp_in v1 n_r5) (g10 : Γ.2.2 r5 (v1.toNatClampNeg) = some r9) (o11 : am_ob Γ r9 0) (g13 : Γ.2.2 r9 5 = some r12) (o14 : am_ob Γ r12 7) (g16 : Γ.2.2 r12 4 = some r15) (a17 : am_ar Γ r15 1 n_r15 0) (i18 : vp_in v2 n_r15) (hq : Q (.inl (some (.int (I r15 (v2.toNatClampNeg))))) Γ I L) : am_W m_X8_typesAt d mc ms al bc bs 6 [(0, .ref v0), (1, .int v1), (2, .int v2)] [] Γ I L Q := by
  refine aw_aload_n dX8_typesAt_6 rfl ?_
  refine aw_getR dX8_typesAt_7 f_X8_19 o1 rfl g3 ?_
  refine aw_getR dX8_typesAt_10 f_X8_121 o4 rfl g6 ?_
  refine aw_iload_n dX8_typesAt_13 rfl ?_
  refine aw_aald dX8_typesAt_14 a7 i8 g10 ?_
  refine aw_getR dX8_typesAt_15 f_X8_148 o11 rfl g13 ?_
  refine aw_getR dX8_typesAt_18 f_X8_268 o14 rfl g16 ?_
  refine aw_iload_n dX8_typesAt_21 rfl ?_
  refine aw_iald dX8_typesAt_22 a17 i18 ?_
  exact aw_iret dX8_typesAt_23 rfl hq
theorem dX8_leafOf_0 : decode cX8_leafOf 0 = .ok (.aload_n 0, 1) := by decide +kernel
theorem dX8_leafOf_1 : decode cX8_leafOf 1 = .ok (.iload_n 1, 1) := by decide +kernel
theorem dX8_leafOf_2 : decode cX8_leafOf 2 = .ok (.invokevirtual 115, 3) := by decide +kernel
theorem dX8_leafOf_5 : decode cX8_leafOf 5 = .ok (.aload_n 0, 1) := by decide +kernel
theorem dX8_leafOf_6 : decode cX8_leafOf 6 = .ok (.iload_n 2, 1) := by decide +kernel
theorem dX8_leafOf_7 : decode cX8_leafOf 7 = .ok (.invokevirtual 118, 3) := by decide +kernel
theorem dX8_leafOf_10 : decode cX8_leafOf 10 = .ok (.aload_n 0, 1) := by decide +kernel
theorem dX8_leafOf_11 : decode cX8_leafOf 11 = .ok (.getfield 19, 3) := by decide +kernel
theorem dX8_leafOf_14 : decode cX8_leafOf 14 = .ok (.getfield 121, 3) := by decide +kernel
theorem dX8_leafOf_17 : decode cX8_leafOf 17 = .ok (.iload_n 1, 1) := by decide +kernel
theorem dX8_leafOf_18 : decode cX8_leafOf 18 = .ok (.aaload, 1) := by decide +kernel
theorem dX8_leafOf_19 : decode cX8_leafOf 19 = .ok (.getfield 148, 3) := by decide +kernel
theorem dX8_leafOf_22 : decode cX8_leafOf 22 = .ok (.iload_n 2, 1) := by decide +kernel
theorem dX8_leafOf_23 : decode cX8_leafOf 23 = .ok (.invokevirtual 271, 3) := by decide +kernel
theorem dX8_leafOf_26 : decode cX8_leafOf 26 = .ok (.ireturn, 1) := by decide +kernel
theorem bX8_leafOf_0 {d mc ms : Nat} {al : Bool} {bc bs : Nat} {Γ : am_G} {I : am_I} {L : am_L} {Q : am_Q} {v0 : Nat} {v1 : Int32} {v2 : Int32} {I' : am_I} {L' : am_L} {mc' : Nat} {ms' : Nat} (o1 : am_ob Γ v0 8) (hbc : mc' ≤ bc) (hbs : ms' ≤ bs) (hC : am_E m_X8_requireGate d mc' ms' [.ref v0, .int v1] Γ I L (.inl none) I' L') (kk : am_W m_X8_leafOf (d + 1) mc ms al (bc - mc') (bs - ms') 5 [(0, .ref v0), (1, .int v1), (2, .int v2)] [] Γ I' L' Q) : am_W m_X8_leafOf (d + 1) mc ms al bc bs 0 [(0, .ref v0), (1, .int v1), (2, .int v2)] [] Γ I L Q := by
  refine aw_aload_n dX8_leafOf_0 rfl ?_
  refine aw_iload_n dX8_leafOf_1 rfl ?_
  exact aw_askV (as := [.int v1]) (rst := []) k_X8_requireGate l_X8_115 i_X8_requireGate s_X8_requireGate rfl o1 dX8_leafOf_2 rfl (Nat.le_of_ble_eq_true rfl) hbc hbs hC rfl rfl kk
theorem bX8_leafOf_0x {d mc ms : Nat} {al : Bool} {bc bs : Nat} {Γ : am_G} {I : am_I} {L : am_L} {Q : am_Q} {v0 : Nat} {v1 : Int32} {v2 : Int32} {I' : am_I} {L' : am_L} {mc' : Nat} {ms' : Nat} {E : String} (o1 : am_ob Γ v0 8) (hbc : mc' ≤ bc) (hbs : ms' ≤ bs) (hC : am_E m_X8_requireGate d mc' ms' [.ref v0, .int v1] Γ I L (.inr E) I' L') (hq : Q (.inr E) Γ I' L') : am_W m_X8_leafOf (d + 1) mc ms al bc bs 0 [(0, .ref v0), (1, .int v1), (2, .int v2)] [] Γ I L Q := by
  refine aw_aload_n dX8_leafOf_0 rfl ?_
  refine aw_iload_n dX8_leafOf_1 rfl ?_
  exact aw_fallV (as := [.int v1]) (rst := []) k_X8_requireGate l_X8_115 i_X8_requireGate s_X8_requireGate rfl o1 dX8_leafOf_2 rfl (Nat.le_of_ble_eq_true rfl) hbc hbs rfl hC rfl hq
theorem bX8_leafOf_5 {d mc ms : Nat} {al : Bool} {bc bs : Nat} {Γ : am_G} {I : am_I} {L : am_L} {Q : am_Q} {v0 : Nat} {v1 : Int32} {v2 : Int32} {I' : am_I} {L' : am_L} {mc' : Nat} {ms' : Nat} (o1 : am_ob Γ v0 8) (hbc : mc' ≤ bc) (hbs : ms' ≤ bs) (hC : am_E m_X8_requireType d mc' ms' [.ref v0, .int v2] Γ I L (.inl none) I' L') (kk : am_W m_X8_leafOf (d + 1) mc ms al (bc - mc') (bs - ms') 10 [(0, .ref v0), (1, .int v1), (2, .int v2)] [] Γ I' L' Q) : am_W m_X8_leafOf (d + 1) mc ms al bc bs 5 [(0, .ref v0), (1, .int v1), (2, .int v2)] [] Γ I L Q := by
  refine aw_aload_n dX8_leafOf_5 rfl ?_
  refine aw_iload_n dX8_leafOf_6 rfl ?_
  exact aw_askV (as := [.int v2]) (rst := []) k_X8_requireType l_X8_118 i_X8_requireType s_X8_requireType rfl o1 dX8_leafOf_7 rfl (Nat.le_of_ble_eq_true rfl) hbc hbs hC rfl rfl kk
theorem bX8_leafOf_5x {d mc ms : Nat} {al : Bool} {bc bs : Nat} {Γ : am_G} {I : am_I} {L : am_L} {Q : am_Q} {v0 : Nat} {v1 : Int32} {v2 : Int32} {I' : am_I} {L' : am_L} {mc' : Nat} {ms' : Nat} {E : String} (o1 : am_ob Γ v0 8) (hbc : mc' ≤ bc) (hbs : ms' ≤ bs) (hC : am_E m_X8_requireType d mc' ms' [.ref v0, .int v2] Γ I L (.inr E) I' L') (hq : Q (.inr E) Γ I' L') : am_W m_X8_leafOf (d + 1) mc ms al bc bs 5 [(0, .ref v0), (1, .int v1), (2, .int v2)] [] Γ I L Q := by
  refine aw_aload_n dX8_leafOf_5 rfl ?_
  refine aw_iload_n dX8_leafOf_6 rfl ?_
  exact aw_fallV (as := [.int v2]) (rst := []) k_X8_requireType l_X8_118 i_X8_requireType s_X8_requireType rfl o1 dX8_leafOf_7 rfl (Nat.le_of_ble_eq_true rfl) hbc hbs rfl hC rfl hq
theorem bX8_leafOf_10 {d mc ms : Nat} {al : Bool} {bc bs : Nat} {Γ : am_G} {I : am_I} {L : am_L} {Q : am_Q} {v0 : Nat} {v1 : Int32} {v2 : Int32} {r2 : Nat} {r5 : Nat} {n_r5 : Nat} {r9 : Nat} {r12 : Nat} {I' : am_I} {L' : am_L} {mc' : Nat} {ms' : Nat} {r : Int32} (o1 : am_ob Γ v0 8) (g3 : Γ.2.2 v0 1 = some r2) (o4 : am_ob Γ r2 5) (g6 : Γ.2.2 r2 9 = some r5) (a7 : am_ar Γ r5 6 n_r5 0) (i8 : vp_in v1 n_r5) (g10 : Γ.2.2 r5 (v1.toNatClampNeg) = some r9) (o11 : am_ob Γ r9 0) (g13 : Γ.2.2 r9 5 = some r12) (o14 : am_ob Γ r12 7) (hbc : mc' ≤ bc) (hbs : ms' ≤ bs) (hC : am_E m_X7_leafHolding d mc' ms' [.ref r12, .int v2] Γ I L (.inl (some (.int r))) I' L') (kk : am_W m_X8_leafOf (d + 1) mc ms al (bc - mc') (bs - ms') 26 [(0, .ref v0), (1, .int v1), (2, .int v2)] [.int r] Γ I' L' Q) : am_W m_X8_leafOf (d + 1) mc ms al bc bs 10 [(0, .ref v0), (1, .int v1), (2, .int v2)] [] Γ I L Q := by
  refine aw_aload_n dX8_leafOf_10 rfl ?_
  refine aw_getR dX8_leafOf_11 f_X8_19 o1 rfl g3 ?_
  refine aw_getR dX8_leafOf_14 f_X8_121 o4 rfl g6 ?_
  refine aw_iload_n dX8_leafOf_17 rfl ?_
  refine aw_aald dX8_leafOf_18 a7 i8 g10 ?_
  refine aw_getR dX8_leafOf_19 f_X8_148 o11 rfl g13 ?_
  refine aw_iload_n dX8_leafOf_22 rfl ?_
  exact aw_askV (as := [.int v2]) (rst := []) k_X7_leafHolding l_X8_271 i_X7_leafHolding s_X7_leafHolding rfl o14 dX8_leafOf_23 rfl (Nat.le_of_ble_eq_true rfl) hbc hbs hC rfl rfl kk
theorem bX8_leafOf_26 {d mc ms : Nat} {al : Bool} {bc bs : Nat} {Γ : am_G} {I : am_I} {L : am_L} {Q : am_Q} {v0 : Nat} {v1 : Int32} {v2 : Int32} {w0 : Int32} (hq : Q (.inl (some (.int w0))) Γ I L) : am_W m_X8_leafOf d mc ms al bc bs 26 [(0, .ref v0), (1, .int v1), (2, .int v2)] [.int w0] Γ I L Q := by
  exact aw_iret dX8_leafOf_26 rfl hq
theorem dX8_chargedToll_0 : decode cX8_chargedToll 0 = .ok (.aload_n 0, 1) := by decide +kernel
theorem dX8_chargedToll_1 : decode cX8_chargedToll 1 = .ok (.iload_n 1, 1) := by decide +kernel
theorem dX8_chargedToll_2 : decode cX8_chargedToll 2 = .ok (.invokevirtual 115, 3) := by decide +kernel
theorem dX8_chargedToll_5 : decode cX8_chargedToll 5 = .ok (.aload_n 0, 1) := by decide +kernel
theorem dX8_chargedToll_6 : decode cX8_chargedToll 6 = .ok (.iload_n 2, 1) := by decide +kernel
theorem dX8_chargedToll_7 : decode cX8_chargedToll 7 = .ok (.invokevirtual 118, 3) := by decide +kernel
theorem dX8_chargedToll_10 : decode cX8_chargedToll 10 = .ok (.aload_n 0, 1) := by decide +kernel
theorem dX8_chargedToll_11 : decode cX8_chargedToll 11 = .ok (.getfield 19, 3) := by decide +kernel
theorem dX8_chargedToll_14 : decode cX8_chargedToll 14 = .ok (.getfield 121, 3) := by decide +kernel
theorem dX8_chargedToll_17 : decode cX8_chargedToll 17 = .ok (.iload_n 1, 1) := by decide +kernel
theorem dX8_chargedToll_18 : decode cX8_chargedToll 18 = .ok (.aaload, 1) := by decide +kernel
theorem dX8_chargedToll_19 : decode cX8_chargedToll 19 = .ok (.getfield 148, 3) := by decide +kernel
theorem dX8_chargedToll_22 : decode cX8_chargedToll 22 = .ok (.iload_n 2, 1) := by decide +kernel
theorem dX8_chargedToll_23 : decode cX8_chargedToll 23 = .ok (.invokevirtual 274, 3) := by decide +kernel
theorem dX8_chargedToll_26 : decode cX8_chargedToll 26 = .ok (.ireturn, 1) := by decide +kernel
theorem bX8_chargedToll_0 {d mc ms : Nat} {al : Bool} {bc bs : Nat} {Γ : am_G} {I : am_I} {L : am_L} {Q : am_Q} {v0 : Nat} {v1 : Int32} {v2 : Int32} {I' : am_I} {L' : am_L} {mc' : Nat} {ms' : Nat} (o1 : am_ob Γ v0 8) (hbc : mc' ≤ bc) (hbs : ms' ≤ bs) (hC : am_E m_X8_requireGate d mc' ms' [.ref v0, .int v1] Γ I L (.inl none) I' L') (kk : am_W m_X8_chargedToll (d + 1) mc ms al (bc - mc') (bs - ms') 5 [(0, .ref v0), (1, .int v1), (2, .int v2)] [] Γ I' L' Q) : am_W m_X8_chargedToll (d + 1) mc ms al bc bs 0 [(0, .ref v0), (1, .int v1), (2, .int v2)] [] Γ I L Q := by
  refine aw_aload_n dX8_chargedToll_0 rfl ?_
  refine aw_iload_n dX8_chargedToll_1 rfl ?_
  exact aw_askV (as := [.int v1]) (rst := []) k_X8_requireGate l_X8_115 i_X8_requireGate s_X8_requireGate rfl o1 dX8_chargedToll_2 rfl (Nat.le_of_ble_eq_true rfl) hbc hbs hC rfl rfl kk
theorem bX8_chargedToll_0x {d mc ms : Nat} {al : Bool} {bc bs : Nat} {Γ : am_G} {I : am_I} {L : am_L} {Q : am_Q} {v0 : Nat} {v1 : Int32} {v2 : Int32} {I' : am_I} {L' : am_L} {mc' : Nat} {ms' : Nat} {E : String} (o1 : am_ob Γ v0 8) (hbc : mc' ≤ bc) (hbs : ms' ≤ bs) (hC : am_E m_X8_requireGate d mc' ms' [.ref v0, .int v1] Γ I L (.inr E) I' L') (hq : Q (.inr E) Γ I' L') : am_W m_X8_chargedToll (d + 1) mc ms al bc bs 0 [(0, .ref v0), (1, .int v1), (2, .int v2)] [] Γ I L Q := by
  refine aw_aload_n dX8_chargedToll_0 rfl ?_
  refine aw_iload_n dX8_chargedToll_1 rfl ?_
  exact aw_fallV (as := [.int v1]) (rst := []) k_X8_requireGate l_X8_115 i_X8_requireGate s_X8_requireGate rfl o1 dX8_chargedToll_2 rfl (Nat.le_of_ble_eq_true rfl) hbc hbs rfl hC rfl hq
theorem bX8_chargedToll_5 {d mc ms : Nat} {al : Bool} {bc bs : Nat} {Γ : am_G} {I : am_I} {L : am_L} {Q : am_Q} {v0 : Nat} {v1 : Int32} {v2 : Int32} {I' : am_I} {L' : am_L} {mc' : Nat} {ms' : Nat} (o1 : am_ob Γ v0 8) (hbc : mc' ≤ bc) (hbs : ms' ≤ bs) (hC : am_E m_X8_requireType d mc' ms' [.ref v0, .int v2] Γ I L (.inl none) I' L') (kk : am_W m_X8_chargedToll (d + 1) mc ms al (bc - mc') (bs - ms') 10 [(0, .ref v0), (1, .int v1), (2, .int v2)] [] Γ I' L' Q) : am_W m_X8_chargedToll (d + 1) mc ms al bc bs 5 [(0, .ref v0), (1, .int v1), (2, .int v2)] [] Γ I L Q := by
  refine aw_aload_n dX8_chargedToll_5 rfl ?_
  refine aw_iload_n dX8_chargedToll_6 rfl ?_
  exact aw_askV (as := [.int v2]) (rst := []) k_X8_requireType l_X8_118 i_X8_requireType s_X8_requireType rfl o1 dX8_chargedToll_7 rfl (Nat.le_of_ble_eq_true rfl) hbc hbs hC rfl rfl kk
theorem bX8_chargedToll_5x {d mc ms : Nat} {al : Bool} {bc bs : Nat} {Γ : am_G} {I : am_I} {L : am_L} {Q : am_Q} {v0 : Nat} {v1 : Int32} {v2 : Int32} {I' : am_I} {L' : am_L} {mc' : Nat} {ms' : Nat} {E : String} (o1 : am_ob Γ v0 8) (hbc : mc' ≤ bc) (hbs : ms' ≤ bs) (hC : am_E m_X8_requireType d mc' ms' [.ref v0, .int v2] Γ I L (.inr E) I' L') (hq : Q (.inr E) Γ I' L') : am_W m_X8_chargedToll (d + 1) mc ms al bc bs 5 [(0, .ref v0), (1, .int v1), (2, .int v2)] [] Γ I L Q := by
  refine aw_aload_n dX8_chargedToll_5 rfl ?_
  refine aw_iload_n dX8_chargedToll_6 rfl ?_
  exact aw_fallV (as := [.int v2]) (rst := []) k_X8_requireType l_X8_118 i_X8_requireType s_X8_requireType rfl o1 dX8_chargedToll_7 rfl (Nat.le_of_ble_eq_true rfl) hbc hbs rfl hC rfl hq
theorem bX8_chargedToll_10 {d mc ms : Nat} {al : Bool} {bc bs : Nat} {Γ : am_G} {I : am_I} {L : am_L} {Q : am_Q} {v0 : Nat} {v1 : Int32} {v2 : Int32} {r2 : Nat} {r5 : Nat} {n_r5 : Nat} {r9 : Nat} {r12 : Nat} {I' : am_I} {L' : am_L} {mc' : Nat} {ms' : Nat} {r : Int32} (o1 : am_ob Γ v0 8) (g3 : Γ.2.2 v0 1 = some r2) (o4 : am_ob Γ r2 5) (g6 : Γ.2.2 r2 9 = some r5) (a7 : am_ar Γ r5 6 n_r5 0) (i8 : vp_in v1 n_r5) (g10 : Γ.2.2 r5 (v1.toNatClampNeg) = some r9) (o11 : am_ob Γ r9 0) (g13 : Γ.2.2 r9 5 = some r12) (o14 : am_ob Γ r12 7) (hbc : mc' ≤ bc) (hbs : ms' ≤ bs) (hC : am_E m_X7_tollFor d mc' ms' [.ref r12, .int v2] Γ I L (.inl (some (.int r))) I' L') (kk : am_W m_X8_chargedToll (d + 1) mc ms al (bc - mc') (bs - ms') 26 [(0, .ref v0), (1, .int v1), (2, .int v2)] [.int r] Γ I' L' Q) : am_W m_X8_chargedToll (d + 1) mc ms al bc bs 10 [(0, .ref v0), (1, .int v1), (2, .int v2)] [] Γ I L Q := by
  refine aw_aload_n dX8_chargedToll_10 rfl ?_
  refine aw_getR dX8_chargedToll_11 f_X8_19 o1 rfl g3 ?_
  refine aw_getR dX8_chargedToll_14 f_X8_121 o4 rfl g6 ?_
  refine aw_iload_n dX8_chargedToll_17 rfl ?_
  refine aw_aald dX8_chargedToll_18 a7 i8 g10 ?_
  refine aw_getR dX8_chargedToll_19 f_X8_148 o11 rfl g13 ?_
  refine aw_iload_n dX8_chargedToll_22 rfl ?_
  exact aw_askV (as := [.int v2]) (rst := []) k_X7_tollFor l_X8_274 i_X7_tollFor s_X7_tollFor rfl o14 dX8_chargedToll_23 rfl (Nat.le_of_ble_eq_true rfl) hbc hbs hC rfl rfl kk
theorem bX8_chargedToll_26 {d mc ms : Nat} {al : Bool} {bc bs : Nat} {Γ : am_G} {I : am_I} {L : am_L} {Q : am_Q} {v0 : Nat} {v1 : Int32} {v2 : Int32} {w0 : Int32} (hq : Q (.inl (some (.int w0))) Γ I L) : am_W m_X8_chargedToll d mc ms al bc bs 26 [(0, .ref v0), (1, .int v1), (2, .int v2)] [.int w0] Γ I L Q := by
  exact aw_iret dX8_chargedToll_26 rfl hq
theorem dX8_pathCost_0 : decode cX8_pathCost 0 = .ok (.aload_n 0, 1) := by decide +kernel
theorem dX8_pathCost_1 : decode cX8_pathCost 1 = .ok (.iload_n 1, 1) := by decide +kernel
theorem dX8_pathCost_2 : decode cX8_pathCost 2 = .ok (.invokevirtual 115, 3) := by decide +kernel
theorem dX8_pathCost_5 : decode cX8_pathCost 5 = .ok (.aload_n 0, 1) := by decide +kernel
theorem dX8_pathCost_6 : decode cX8_pathCost 6 = .ok (.iload_n 2, 1) := by decide +kernel
theorem dX8_pathCost_7 : decode cX8_pathCost 7 = .ok (.invokevirtual 118, 3) := by decide +kernel
theorem dX8_pathCost_10 : decode cX8_pathCost 10 = .ok (.aload_n 0, 1) := by decide +kernel
theorem dX8_pathCost_11 : decode cX8_pathCost 11 = .ok (.getfield 19, 3) := by decide +kernel
theorem dX8_pathCost_14 : decode cX8_pathCost 14 = .ok (.iload_n 1, 1) := by decide +kernel
theorem dX8_pathCost_15 : decode cX8_pathCost 15 = .ok (.iload_n 2, 1) := by decide +kernel
theorem dX8_pathCost_16 : decode cX8_pathCost 16 = .ok (.invokevirtual 277, 3) := by decide +kernel
theorem dX8_pathCost_19 : decode cX8_pathCost 19 = .ok (.ireturn, 1) := by decide +kernel
theorem bX8_pathCost_0 {d mc ms : Nat} {al : Bool} {bc bs : Nat} {Γ : am_G} {I : am_I} {L : am_L} {Q : am_Q} {v0 : Nat} {v1 : Int32} {v2 : Int32} {I' : am_I} {L' : am_L} {mc' : Nat} {ms' : Nat} (o1 : am_ob Γ v0 8) (hbc : mc' ≤ bc) (hbs : ms' ≤ bs) (hC : am_E m_X8_requireGate d mc' ms' [.ref v0, .int v1] Γ I L (.inl none) I' L') (kk : am_W m_X8_pathCost (d + 1) mc ms al (bc - mc') (bs - ms') 5 [(0, .ref v0), (1, .int v1), (2, .int v2)] [] Γ I' L' Q) : am_W m_X8_pathCost (d + 1) mc ms al bc bs 0 [(0, .ref v0), (1, .int v1), (2, .int v2)] [] Γ I L Q := by
  refine aw_aload_n dX8_pathCost_0 rfl ?_
  refine aw_iload_n dX8_pathCost_1 rfl ?_
  exact aw_askV (as := [.int v1]) (rst := []) k_X8_requireGate l_X8_115 i_X8_requireGate s_X8_requireGate rfl o1 dX8_pathCost_2 rfl (Nat.le_of_ble_eq_true rfl) hbc hbs hC rfl rfl kk
theorem bX8_pathCost_0x {d mc ms : Nat} {al : Bool} {bc bs : Nat} {Γ : am_G} {I : am_I} {L : am_L} {Q : am_Q} {v0 : Nat} {v1 : Int32} {v2 : Int32} {I' : am_I} {L' : am_L} {mc' : Nat} {ms' : Nat} {E : String} (o1 : am_ob Γ v0 8) (hbc : mc' ≤ bc) (hbs : ms' ≤ bs) (hC : am_E m_X8_requireGate d mc' ms' [.ref v0, .int v1] Γ I L (.inr E) I' L') (hq : Q (.inr E) Γ I' L') : am_W m_X8_pathCost (d + 1) mc ms al bc bs 0 [(0, .ref v0), (1, .int v1), (2, .int v2)] [] Γ I L Q := by
  refine aw_aload_n dX8_pathCost_0 rfl ?_
  refine aw_iload_n dX8_pathCost_1 rfl ?_
  exact aw_fallV (as := [.int v1]) (rst := []) k_X8_requireGate l_X8_115 i_X8_requireGate s_X8_requireGate rfl o1 dX8_pathCost_2 rfl (Nat.le_of_ble_eq_true rfl) hbc hbs rfl hC rfl hq
theorem bX8_pathCost_5 {d mc ms : Nat} {al : Bool} {bc bs : Nat} {Γ : am_G} {I : am_I} {L : am_L} {Q : am_Q} {v0 : Nat} {v1 : Int32} {v2 : Int32} {I' : am_I} {L' : am_L} {mc' : Nat} {ms' : Nat} (o1 : am_ob Γ v0 8) (hbc : mc' ≤ bc) (hbs : ms' ≤ bs) (hC : am_E m_X8_requireType d mc' ms' [.ref v0, .int v2] Γ I L (.inl none) I' L') (kk : am_W m_X8_pathCost (d + 1) mc ms al (bc - mc') (bs - ms') 10 [(0, .ref v0), (1, .int v1), (2, .int v2)] [] Γ I' L' Q) : am_W m_X8_pathCost (d + 1) mc ms al bc bs 5 [(0, .ref v0), (1, .int v1), (2, .int v2)] [] Γ I L Q := by
  refine aw_aload_n dX8_pathCost_5 rfl ?_
  refine aw_iload_n dX8_pathCost_6 rfl ?_
  exact aw_askV (as := [.int v2]) (rst := []) k_X8_requireType l_X8_118 i_X8_requireType s_X8_requireType rfl o1 dX8_pathCost_7 rfl (Nat.le_of_ble_eq_true rfl) hbc hbs hC rfl rfl kk
theorem bX8_pathCost_5x {d mc ms : Nat} {al : Bool} {bc bs : Nat} {Γ : am_G} {I : am_I} {L : am_L} {Q : am_Q} {v0 : Nat} {v1 : Int32} {v2 : Int32} {I' : am_I} {L' : am_L} {mc' : Nat} {ms' : Nat} {E : String} (o1 : am_ob Γ v0 8) (hbc : mc' ≤ bc) (hbs : ms' ≤ bs) (hC : am_E m_X8_requireType d mc' ms' [.ref v0, .int v2] Γ I L (.inr E) I' L') (hq : Q (.inr E) Γ I' L') : am_W m_X8_pathCost (d + 1) mc ms al bc bs 5 [(0, .ref v0), (1, .int v1), (2, .int v2)] [] Γ I L Q := by
  refine aw_aload_n dX8_pathCost_5 rfl ?_
  refine aw_iload_n dX8_pathCost_6 rfl ?_
  exact aw_fallV (as := [.int v2]) (rst := []) k_X8_requireType l_X8_118 i_X8_requireType s_X8_requireType rfl o1 dX8_pathCost_7 rfl (Nat.le_of_ble_eq_true rfl) hbc hbs rfl hC rfl hq
theorem bX8_pathCost_10 {d mc ms : Nat} {al : Bool} {bc bs : Nat} {Γ : am_G} {I : am_I} {L : am_L} {Q : am_Q} {v0 : Nat} {v1 : Int32} {v2 : Int32} {r2 : Nat} {I' : am_I} {L' : am_L} {mc' : Nat} {ms' : Nat} {r : Int32} (o1 : am_ob Γ v0 8) (g3 : Γ.2.2 v0 1 = some r2) (o4 : am_ob Γ r2 5) (hbc : mc' ≤ bc) (hbs : ms' ≤ bs) (hC : am_E m_X5_costOfPath d mc' ms' [.ref r2, .int v1, .int v2] Γ I L (.inl (some (.int r))) I' L') (kk : am_W m_X8_pathCost (d + 1) mc ms al (bc - mc') (bs - ms') 19 [(0, .ref v0), (1, .int v1), (2, .int v2)] [.int r] Γ I' L' Q) : am_W m_X8_pathCost (d + 1) mc ms al bc bs 10 [(0, .ref v0), (1, .int v1), (2, .int v2)] [] Γ I L Q := by
  refine aw_aload_n dX8_pathCost_10 rfl ?_
  refine aw_getR dX8_pathCost_11 f_X8_19 o1 rfl g3 ?_
  refine aw_iload_n dX8_pathCost_14 rfl ?_
  refine aw_iload_n dX8_pathCost_15 rfl ?_
  exact aw_askV (as := [.int v1, .int v2]) (rst := []) k_X5_costOfPath l_X8_277 i_X5_costOfPath s_X5_costOfPath rfl o4 dX8_pathCost_16 rfl (Nat.le_of_ble_eq_true rfl) hbc hbs hC rfl rfl kk
theorem bX8_pathCost_19 {d mc ms : Nat} {al : Bool} {bc bs : Nat} {Γ : am_G} {I : am_I} {L : am_L} {Q : am_Q} {v0 : Nat} {v1 : Int32} {v2 : Int32} {w0 : Int32} (hq : Q (.inl (some (.int w0))) Γ I L) : am_W m_X8_pathCost d mc ms al bc bs 19 [(0, .ref v0), (1, .int v1), (2, .int v2)] [.int w0] Γ I L Q := by
  exact aw_iret dX8_pathCost_19 rfl hq
theorem dX8_errors_0 : decode cX8_errors 0 = .ok (.aload_n 0, 1) := by decide +kernel
theorem dX8_errors_1 : decode cX8_errors 1 = .ok (.iload_n 1, 1) := by decide +kernel
theorem dX8_errors_2 : decode cX8_errors 2 = .ok (.invokevirtual 115, 3) := by decide +kernel
theorem dX8_errors_5 : decode cX8_errors 5 = .ok (.aload_n 0, 1) := by decide +kernel
theorem dX8_errors_6 : decode cX8_errors 6 = .ok (.getfield 19, 3) := by decide +kernel
theorem dX8_errors_9 : decode cX8_errors 9 = .ok (.iload_n 1, 1) := by decide +kernel
theorem dX8_errors_10 : decode cX8_errors 10 = .ok (.invokevirtual 281, 3) := by decide +kernel
theorem dX8_errors_13 : decode cX8_errors 13 = .ok (.ireturn, 1) := by decide +kernel
theorem bX8_errors_0 {d mc ms : Nat} {al : Bool} {bc bs : Nat} {Γ : am_G} {I : am_I} {L : am_L} {Q : am_Q} {v0 : Nat} {v1 : Int32} {I' : am_I} {L' : am_L} {mc' : Nat} {ms' : Nat} (o1 : am_ob Γ v0 8) (hbc : mc' ≤ bc) (hbs : ms' ≤ bs) (hC : am_E m_X8_requireGate d mc' ms' [.ref v0, .int v1] Γ I L (.inl none) I' L') (kk : am_W m_X8_errors (d + 1) mc ms al (bc - mc') (bs - ms') 5 [(0, .ref v0), (1, .int v1)] [] Γ I' L' Q) : am_W m_X8_errors (d + 1) mc ms al bc bs 0 [(0, .ref v0), (1, .int v1)] [] Γ I L Q := by
  refine aw_aload_n dX8_errors_0 rfl ?_
  refine aw_iload_n dX8_errors_1 rfl ?_
  exact aw_askV (as := [.int v1]) (rst := []) k_X8_requireGate l_X8_115 i_X8_requireGate s_X8_requireGate rfl o1 dX8_errors_2 rfl (Nat.le_of_ble_eq_true rfl) hbc hbs hC rfl rfl kk
theorem bX8_errors_0x {d mc ms : Nat} {al : Bool} {bc bs : Nat} {Γ : am_G} {I : am_I} {L : am_L} {Q : am_Q} {v0 : Nat} {v1 : Int32} {I' : am_I} {L' : am_L} {mc' : Nat} {ms' : Nat} {E : String} (o1 : am_ob Γ v0 8) (hbc : mc' ≤ bc) (hbs : ms' ≤ bs) (hC : am_E m_X8_requireGate d mc' ms' [.ref v0, .int v1] Γ I L (.inr E) I' L') (hq : Q (.inr E) Γ I' L') : am_W m_X8_errors (d + 1) mc ms al bc bs 0 [(0, .ref v0), (1, .int v1)] [] Γ I L Q := by
  refine aw_aload_n dX8_errors_0 rfl ?_
  refine aw_iload_n dX8_errors_1 rfl ?_
  exact aw_fallV (as := [.int v1]) (rst := []) k_X8_requireGate l_X8_115 i_X8_requireGate s_X8_requireGate rfl o1 dX8_errors_2 rfl (Nat.le_of_ble_eq_true rfl) hbc hbs rfl hC rfl hq
theorem bX8_errors_5 {d mc ms : Nat} {al : Bool} {bc bs : Nat} {Γ : am_G} {I : am_I} {L : am_L} {Q : am_Q} {v0 : Nat} {v1 : Int32} {r2 : Nat} {I' : am_I} {L' : am_L} {mc' : Nat} {ms' : Nat} {r : Int32} (o1 : am_ob Γ v0 8) (g3 : Γ.2.2 v0 1 = some r2) (o4 : am_ob Γ r2 5) (hbc : mc' ≤ bc) (hbs : ms' ≤ bs) (hC : am_E m_X5_errorsNow d mc' ms' [.ref r2, .int v1] Γ I L (.inl (some (.int r))) I' L') (kk : am_W m_X8_errors (d + 1) mc ms al (bc - mc') (bs - ms') 13 [(0, .ref v0), (1, .int v1)] [.int r] Γ I' L' Q) : am_W m_X8_errors (d + 1) mc ms al bc bs 5 [(0, .ref v0), (1, .int v1)] [] Γ I L Q := by
  refine aw_aload_n dX8_errors_5 rfl ?_
  refine aw_getR dX8_errors_6 f_X8_19 o1 rfl g3 ?_
  refine aw_iload_n dX8_errors_9 rfl ?_
  exact aw_askV (as := [.int v1]) (rst := []) k_X5_errorsNow l_X8_281 i_X5_errorsNow s_X5_errorsNow rfl o4 dX8_errors_10 rfl (Nat.le_of_ble_eq_true rfl) hbc hbs hC rfl rfl kk
theorem bX8_errors_13 {d mc ms : Nat} {al : Bool} {bc bs : Nat} {Γ : am_G} {I : am_I} {L : am_L} {Q : am_Q} {v0 : Nat} {v1 : Int32} {w0 : Int32} (hq : Q (.inl (some (.int w0))) Γ I L) : am_W m_X8_errors d mc ms al bc bs 13 [(0, .ref v0), (1, .int v1)] [.int w0] Γ I L Q := by
  exact aw_iret dX8_errors_13 rfl hq
theorem dX8_work_0 : decode cX8_work 0 = .ok (.aload_n 0, 1) := by decide +kernel
theorem dX8_work_1 : decode cX8_work 1 = .ok (.iload_n 1, 1) := by decide +kernel
theorem dX8_work_2 : decode cX8_work 2 = .ok (.invokevirtual 115, 3) := by decide +kernel
theorem dX8_work_5 : decode cX8_work 5 = .ok (.aload_n 0, 1) := by decide +kernel
theorem dX8_work_6 : decode cX8_work 6 = .ok (.getfield 19, 3) := by decide +kernel
theorem dX8_work_9 : decode cX8_work 9 = .ok (.iload_n 1, 1) := by decide +kernel
theorem dX8_work_10 : decode cX8_work 10 = .ok (.invokevirtual 284, 3) := by decide +kernel
theorem dX8_work_13 : decode cX8_work 13 = .ok (.ireturn, 1) := by decide +kernel
theorem bX8_work_0 {d mc ms : Nat} {al : Bool} {bc bs : Nat} {Γ : am_G} {I : am_I} {L : am_L} {Q : am_Q} {v0 : Nat} {v1 : Int32} {I' : am_I} {L' : am_L} {mc' : Nat} {ms' : Nat} (o1 : am_ob Γ v0 8) (hbc : mc' ≤ bc) (hbs : ms' ≤ bs) (hC : am_E m_X8_requireGate d mc' ms' [.ref v0, .int v1] Γ I L (.inl none) I' L') (kk : am_W m_X8_work (d + 1) mc ms al (bc - mc') (bs - ms') 5 [(0, .ref v0), (1, .int v1)] [] Γ I' L' Q) : am_W m_X8_work (d + 1) mc ms al bc bs 0 [(0, .ref v0), (1, .int v1)] [] Γ I L Q := by
  refine aw_aload_n dX8_work_0 rfl ?_
  refine aw_iload_n dX8_work_1 rfl ?_
  exact aw_askV (as := [.int v1]) (rst := []) k_X8_requireGate l_X8_115 i_X8_requireGate s_X8_requireGate rfl o1 dX8_work_2 rfl (Nat.le_of_ble_eq_true rfl) hbc hbs hC rfl rfl kk
theorem bX8_work_0x {d mc ms : Nat} {al : Bool} {bc bs : Nat} {Γ : am_G} {I : am_I} {L : am_L} {Q : am_Q} {v0 : Nat} {v1 : Int32} {I' : am_I} {L' : am_L} {mc' : Nat} {ms' : Nat} {E : String} (o1 : am_ob Γ v0 8) (hbc : mc' ≤ bc) (hbs : ms' ≤ bs) (hC : am_E m_X8_requireGate d mc' ms' [.ref v0, .int v1] Γ I L (.inr E) I' L') (hq : Q (.inr E) Γ I' L') : am_W m_X8_work (d + 1) mc ms al bc bs 0 [(0, .ref v0), (1, .int v1)] [] Γ I L Q := by
  refine aw_aload_n dX8_work_0 rfl ?_
  refine aw_iload_n dX8_work_1 rfl ?_
  exact aw_fallV (as := [.int v1]) (rst := []) k_X8_requireGate l_X8_115 i_X8_requireGate s_X8_requireGate rfl o1 dX8_work_2 rfl (Nat.le_of_ble_eq_true rfl) hbc hbs rfl hC rfl hq
theorem bX8_work_5 {d mc ms : Nat} {al : Bool} {bc bs : Nat} {Γ : am_G} {I : am_I} {L : am_L} {Q : am_Q} {v0 : Nat} {v1 : Int32} {r2 : Nat} {I' : am_I} {L' : am_L} {mc' : Nat} {ms' : Nat} {r : Int32} (o1 : am_ob Γ v0 8) (g3 : Γ.2.2 v0 1 = some r2) (o4 : am_ob Γ r2 5) (hbc : mc' ≤ bc) (hbs : ms' ≤ bs) (hC : am_E m_X5_workNow d mc' ms' [.ref r2, .int v1] Γ I L (.inl (some (.int r))) I' L') (kk : am_W m_X8_work (d + 1) mc ms al (bc - mc') (bs - ms') 13 [(0, .ref v0), (1, .int v1)] [.int r] Γ I' L' Q) : am_W m_X8_work (d + 1) mc ms al bc bs 5 [(0, .ref v0), (1, .int v1)] [] Γ I L Q := by
  refine aw_aload_n dX8_work_5 rfl ?_
  refine aw_getR dX8_work_6 f_X8_19 o1 rfl g3 ?_
  refine aw_iload_n dX8_work_9 rfl ?_
  exact aw_askV (as := [.int v1]) (rst := []) k_X5_workNow l_X8_284 i_X5_workNow s_X5_workNow rfl o4 dX8_work_10 rfl (Nat.le_of_ble_eq_true rfl) hbc hbs hC rfl rfl kk
theorem bX8_work_13 {d mc ms : Nat} {al : Bool} {bc bs : Nat} {Γ : am_G} {I : am_I} {L : am_L} {Q : am_Q} {v0 : Nat} {v1 : Int32} {w0 : Int32} (hq : Q (.inl (some (.int w0))) Γ I L) : am_W m_X8_work d mc ms al bc bs 13 [(0, .ref v0), (1, .int v1)] [.int w0] Γ I L Q := by
  exact aw_iret dX8_work_13 rfl hq
theorem dX8_mischargeReason_0 : decode cX8_mischargeReason 0 = .ok (.aload_n 0, 1) := by decide +kernel
theorem dX8_mischargeReason_1 : decode cX8_mischargeReason 1 = .ok (.iload_n 1, 1) := by decide +kernel
theorem dX8_mischargeReason_2 : decode cX8_mischargeReason 2 = .ok (.invokevirtual 115, 3) := by decide +kernel
theorem dX8_mischargeReason_5 : decode cX8_mischargeReason 5 = .ok (.aload_n 0, 1) := by decide +kernel
theorem dX8_mischargeReason_6 : decode cX8_mischargeReason 6 = .ok (.iload_n 2, 1) := by decide +kernel
theorem dX8_mischargeReason_7 : decode cX8_mischargeReason 7 = .ok (.invokevirtual 118, 3) := by decide +kernel
theorem dX8_mischargeReason_10 : decode cX8_mischargeReason 10 = .ok (.aload_n 0, 1) := by decide +kernel
theorem dX8_mischargeReason_11 : decode cX8_mischargeReason 11 = .ok (.getfield 19, 3) := by decide +kernel
theorem dX8_mischargeReason_14 : decode cX8_mischargeReason 14 = .ok (.getfield 121, 3) := by decide +kernel
theorem dX8_mischargeReason_17 : decode cX8_mischargeReason 17 = .ok (.iload_n 1, 1) := by decide +kernel
theorem dX8_mischargeReason_18 : decode cX8_mischargeReason 18 = .ok (.aaload, 1) := by decide +kernel
theorem dX8_mischargeReason_19 : decode cX8_mischargeReason 19 = .ok (.getfield 148, 3) := by decide +kernel
theorem dX8_mischargeReason_22 : decode cX8_mischargeReason 22 = .ok (.astore_n 3, 1) := by decide +kernel
theorem dX8_mischargeReason_23 : decode cX8_mischargeReason 23 = .ok (.aload_n 3, 1) := by decide +kernel
theorem dX8_mischargeReason_24 : decode cX8_mischargeReason 24 = .ok (.iload_n 2, 1) := by decide +kernel
theorem dX8_mischargeReason_25 : decode cX8_mischargeReason 25 = .ok (.invokevirtual 274, 3) := by decide +kernel
theorem dX8_mischargeReason_28 : decode cX8_mischargeReason 28 = .ok (.istore 4, 2) := by decide +kernel
theorem dX8_mischargeReason_30 : decode cX8_mischargeReason 30 = .ok (.iload 4, 2) := by decide +kernel
theorem dX8_mischargeReason_32 : decode cX8_mischargeReason 32 = .ok (.aload_n 0, 1) := by decide +kernel
theorem dX8_mischargeReason_33 : decode cX8_mischargeReason 33 = .ok (.getfield 19, 3) := by decide +kernel
theorem dX8_mischargeReason_36 : decode cX8_mischargeReason 36 = .ok (.getfield 167, 3) := by decide +kernel
theorem dX8_mischargeReason_39 : decode cX8_mischargeReason 39 = .ok (.iload_n 2, 1) := by decide +kernel
theorem dX8_mischargeReason_40 : decode cX8_mischargeReason 40 = .ok (.iaload, 1) := by decide +kernel
theorem dX8_mischargeReason_41 : decode cX8_mischargeReason 41 = .ok (.if_icmp .ne 5, 3) := by decide +kernel
theorem dX8_mischargeReason_44 : decode cX8_mischargeReason 44 = .ok (.iconst 0, 1) := by decide +kernel
theorem dX8_mischargeReason_45 : decode cX8_mischargeReason 45 = .ok (.ireturn, 1) := by decide +kernel
theorem dX8_mischargeReason_46 : decode cX8_mischargeReason 46 = .ok (.aload_n 0, 1) := by decide +kernel
theorem dX8_mischargeReason_47 : decode cX8_mischargeReason 47 = .ok (.getfield 19, 3) := by decide +kernel
theorem dX8_mischargeReason_50 : decode cX8_mischargeReason 50 = .ok (.iload_n 2, 1) := by decide +kernel
theorem dX8_mischargeReason_51 : decode cX8_mischargeReason 51 = .ok (.iload 4, 2) := by decide +kernel
theorem dX8_mischargeReason_53 : decode cX8_mischargeReason 53 = .ok (.invokevirtual 287, 3) := by decide +kernel
theorem dX8_mischargeReason_56 : decode cX8_mischargeReason 56 = .ok (.ifCond .eq 5, 3) := by decide +kernel
theorem dX8_mischargeReason_59 : decode cX8_mischargeReason 59 = .ok (.iconst 1, 1) := by decide +kernel
theorem dX8_mischargeReason_60 : decode cX8_mischargeReason 60 = .ok (.ireturn, 1) := by decide +kernel
theorem dX8_mischargeReason_61 : decode cX8_mischargeReason 61 = .ok (.aload_n 0, 1) := by decide +kernel
theorem dX8_mischargeReason_62 : decode cX8_mischargeReason 62 = .ok (.getfield 19, 3) := by decide +kernel
theorem dX8_mischargeReason_65 : decode cX8_mischargeReason 65 = .ok (.aload_n 3, 1) := by decide +kernel
theorem dX8_mischargeReason_66 : decode cX8_mischargeReason 66 = .ok (.getfield 268, 3) := by decide +kernel
theorem dX8_mischargeReason_69 : decode cX8_mischargeReason 69 = .ok (.aload_n 3, 1) := by decide +kernel
theorem dX8_mischargeReason_70 : decode cX8_mischargeReason 70 = .ok (.iload_n 2, 1) := by decide +kernel
theorem dX8_mischargeReason_71 : decode cX8_mischargeReason 71 = .ok (.invokevirtual 271, 3) := by decide +kernel
theorem dX8_mischargeReason_74 : decode cX8_mischargeReason 74 = .ok (.iaload, 1) := by decide +kernel
theorem dX8_mischargeReason_75 : decode cX8_mischargeReason 75 = .ok (.invokevirtual 290, 3) := by decide +kernel
theorem dX8_mischargeReason_78 : decode cX8_mischargeReason 78 = .ok (.ifCond .eq 7, 3) := by decide +kernel
theorem dX8_mischargeReason_81 : decode cX8_mischargeReason 81 = .ok (.iconst 2, 1) := by decide +kernel
theorem dX8_mischargeReason_82 : decode cX8_mischargeReason 82 = .ok (.goto 4, 3) := by decide +kernel
theorem dX8_mischargeReason_85 : decode cX8_mischargeReason 85 = .ok (.iconst 3, 1) := by decide +kernel
theorem dX8_mischargeReason_86 : decode cX8_mischargeReason 86 = .ok (.ireturn, 1) := by decide +kernel
theorem bX8_mischargeReason_0 {d mc ms : Nat} {al : Bool} {bc bs : Nat} {Γ : am_G} {I : am_I} {L : am_L} {Q : am_Q} {v0 : Nat} {v1 : Int32} {v2 : Int32} {I' : am_I} {L' : am_L} {mc' : Nat} {ms' : Nat} (o1 : am_ob Γ v0 8) (hbc : mc' ≤ bc) (hbs : ms' ≤ bs) (hC : am_E m_X8_requireGate d mc' ms' [.ref v0, .int v1] Γ I L (.inl none) I' L') (kk : am_W m_X8_mischargeReason (d + 1) mc ms al (bc - mc') (bs - ms') 5 [(0, .ref v0), (1, .int v1), (2, .int v2)] [] Γ I' L' Q) : am_W m_X8_mischargeReason (d + 1) mc ms al bc bs 0 [(0, .ref v0), (1, .int v1), (2, .int v2)] [] Γ I L Q := by
  refine aw_aload_n dX8_mischargeReason_0 rfl ?_
  refine aw_iload_n dX8_mischargeReason_1 rfl ?_
  exact aw_askV (as := [.int v1]) (rst := []) k_X8_requireGate l_X8_115 i_X8_requireGate s_X8_requireGate rfl o1 dX8_mischargeReason_2 rfl (Nat.le_of_ble_eq_true rfl) hbc hbs hC rfl rfl kk
theorem bX8_mischargeReason_0x {d mc ms : Nat} {al : Bool} {bc bs : Nat} {Γ : am_G} {I : am_I} {L : am_L} {Q : am_Q} {v0 : Nat} {v1 : Int32} {v2 : Int32} {I' : am_I} {L' : am_L} {mc' : Nat} {ms' : Nat} {E : String} (o1 : am_ob Γ v0 8) (hbc : mc' ≤ bc) (hbs : ms' ≤ bs) (hC : am_E m_X8_requireGate d mc' ms' [.ref v0, .int v1] Γ I L (.inr E) I' L') (hq : Q (.inr E) Γ I' L') : am_W m_X8_mischargeReason (d + 1) mc ms al bc bs 0 [(0, .ref v0), (1, .int v1), (2, .int v2)] [] Γ I L Q := by
  refine aw_aload_n dX8_mischargeReason_0 rfl ?_
  refine aw_iload_n dX8_mischargeReason_1 rfl ?_
  exact aw_fallV (as := [.int v1]) (rst := []) k_X8_requireGate l_X8_115 i_X8_requireGate s_X8_requireGate rfl o1 dX8_mischargeReason_2 rfl (Nat.le_of_ble_eq_true rfl) hbc hbs rfl hC rfl hq
theorem bX8_mischargeReason_5 {d mc ms : Nat} {al : Bool} {bc bs : Nat} {Γ : am_G} {I : am_I} {L : am_L} {Q : am_Q} {v0 : Nat} {v1 : Int32} {v2 : Int32} {I' : am_I} {L' : am_L} {mc' : Nat} {ms' : Nat} (o1 : am_ob Γ v0 8) (hbc : mc' ≤ bc) (hbs : ms' ≤ bs) (hC : am_E m_X8_requireType d mc' ms' [.ref v0, .int v2] Γ I L (.inl none) I' L') (kk : am_W m_X8_mischargeReason (d + 1) mc ms al (bc - mc') (bs - ms') 10 [(0, .ref v0), (1, .int v1), (2, .int v2)] [] Γ I' L' Q) : am_W m_X8_mischargeReason (d + 1) mc ms al bc bs 5 [(0, .ref v0), (1, .int v1), (2, .int v2)] [] Γ I L Q := by
  refine aw_aload_n dX8_mischargeReason_5 rfl ?_
  refine aw_iload_n dX8_mischargeReason_6 rfl ?_
  exact aw_askV (as := [.int v2]) (rst := []) k_X8_requireType l_X8_118 i_X8_requireType s_X8_requireType rfl o1 dX8_mischargeReason_7 rfl (Nat.le_of_ble_eq_true rfl) hbc hbs hC rfl rfl kk
theorem bX8_mischargeReason_5x {d mc ms : Nat} {al : Bool} {bc bs : Nat} {Γ : am_G} {I : am_I} {L : am_L} {Q : am_Q} {v0 : Nat} {v1 : Int32} {v2 : Int32} {I' : am_I} {L' : am_L} {mc' : Nat} {ms' : Nat} {E : String} (o1 : am_ob Γ v0 8) (hbc : mc' ≤ bc) (hbs : ms' ≤ bs) (hC : am_E m_X8_requireType d mc' ms' [.ref v0, .int v2] Γ I L (.inr E) I' L') (hq : Q (.inr E) Γ I' L') : am_W m_X8_mischargeReason (d + 1) mc ms al bc bs 5 [(0, .ref v0), (1, .int v1), (2, .int v2)] [] Γ I L Q := by
  refine aw_aload_n dX8_mischargeReason_5 rfl ?_
  refine aw_iload_n dX8_mischargeReason_6 rfl ?_
  exact aw_fallV (as := [.int v2]) (rst := []) k_X8_requireType l_X8_118 i_X8_requireType s_X8_requireType rfl o1 dX8_mischargeReason_7 rfl (Nat.le_of_ble_eq_true rfl) hbc hbs rfl hC rfl hq
theorem bX8_mischargeReason_10 {d mc ms : Nat} {al : Bool} {bc bs : Nat} {Γ : am_G} {I : am_I} {L : am_L} {Q : am_Q} {v0 : Nat} {v1 : Int32} {v2 : Int32} {r2 : Nat} {r5 : Nat} {n_r5 : Nat} {r9 : Nat} {r12 : Nat} {I' : am_I} {L' : am_L} {mc' : Nat} {ms' : Nat} {r : Int32} (o1 : am_ob Γ v0 8) (g3 : Γ.2.2 v0 1 = some r2) (o4 : am_ob Γ r2 5) (g6 : Γ.2.2 r2 9 = some r5) (a7 : am_ar Γ r5 6 n_r5 0) (i8 : vp_in v1 n_r5) (g10 : Γ.2.2 r5 (v1.toNatClampNeg) = some r9) (o11 : am_ob Γ r9 0) (g13 : Γ.2.2 r9 5 = some r12) (o14 : am_ob Γ r12 7) (hbc : mc' ≤ bc) (hbs : ms' ≤ bs) (hC : am_E m_X7_tollFor d mc' ms' [.ref r12, .int v2] Γ I L (.inl (some (.int r))) I' L') (kk : am_W m_X8_mischargeReason (d + 1) mc ms al (bc - mc') (bs - ms') 28 [(0, .ref v0), (1, .int v1), (2, .int v2), (3, .ref r12)] [.int r] Γ I' L' Q) : am_W m_X8_mischargeReason (d + 1) mc ms al bc bs 10 [(0, .ref v0), (1, .int v1), (2, .int v2)] [] Γ I L Q := by
  refine aw_aload_n dX8_mischargeReason_10 rfl ?_
  refine aw_getR dX8_mischargeReason_11 f_X8_19 o1 rfl g3 ?_
  refine aw_getR dX8_mischargeReason_14 f_X8_121 o4 rfl g6 ?_
  refine aw_iload_n dX8_mischargeReason_17 rfl ?_
  refine aw_aald dX8_mischargeReason_18 a7 i8 g10 ?_
  refine aw_getR dX8_mischargeReason_19 f_X8_148 o11 rfl g13 ?_
  refine aw_astore_n (ls' := [(0, .ref v0), (1, .int v1), (2, .int v2), (3, .ref r12)]) dX8_mischargeReason_22 (by decide) rfl ?_
  refine aw_aload_n dX8_mischargeReason_23 rfl ?_
  refine aw_iload_n dX8_mischargeReason_24 rfl ?_
  exact aw_askV (as := [.int v2]) (rst := []) k_X7_tollFor l_X8_274 i_X7_tollFor s_X7_tollFor rfl o14 dX8_mischargeReason_25 rfl (Nat.le_of_ble_eq_true rfl) hbc hbs hC rfl rfl kk
theorem bX8_mischargeReason_28 {d mc ms : Nat} {al : Bool} {bc bs : Nat} {Γ : am_G} {I : am_I} {L : am_L} {Q : am_Q} {v0 : Nat} {v1 : Int32} {v2 : Int32} {v3 : Nat} {w0 : Int32} {r2 : Nat} {r5 : Nat} {n_r5 : Nat} (o1 : am_ob Γ v0 8) (g3 : Γ.2.2 v0 1 = some r2) (o4 : am_ob Γ r2 5) (g6 : Γ.2.2 r2 8 = some r5) (a7 : am_ar Γ r5 1 n_r5 0) (i8 : vp_in v2 n_r5) (kt : ¬ w0 = (I r5 (v2.toNatClampNeg)) → am_W m_X8_mischargeReason d mc ms al bc bs 46 [(0, .ref v0), (1, .int v1), (2, .int v2), (3, .ref v3), (4, .int w0)] [] Γ I L Q) (kf : w0 = (I r5 (v2.toNatClampNeg)) → am_W m_X8_mischargeReason d mc ms al bc bs 44 [(0, .ref v0), (1, .int v1), (2, .int v2), (3, .ref v3), (4, .int w0)] [] Γ I L Q) : am_W m_X8_mischargeReason d mc ms al bc bs 28 [(0, .ref v0), (1, .int v1), (2, .int v2), (3, .ref v3)] [.int w0] Γ I L Q := by
  refine aw_istore (ls' := [(0, .ref v0), (1, .int v1), (2, .int v2), (3, .ref v3), (4, .int w0)]) dX8_mischargeReason_28 (by decide) rfl ?_
  refine aw_iload dX8_mischargeReason_30 rfl ?_
  refine aw_aload_n dX8_mischargeReason_32 rfl ?_
  refine aw_getR dX8_mischargeReason_33 f_X8_19 o1 rfl g3 ?_
  refine aw_getR dX8_mischargeReason_36 f_X8_167 o4 rfl g6 ?_
  refine aw_iload_n dX8_mischargeReason_39 rfl ?_
  refine aw_iald dX8_mischargeReason_40 a7 i8 ?_
  exact aw_icmp_ne dX8_mischargeReason_41 (by decide) kt kf
theorem bX8_mischargeReason_44 {d mc ms : Nat} {al : Bool} {bc bs : Nat} {Γ : am_G} {I : am_I} {L : am_L} {Q : am_Q} {v0 : Nat} {v1 : Int32} {v2 : Int32} {v3 : Nat} {v4 : Int32} (hq : Q (.inl (some (.int 0))) Γ I L) : am_W m_X8_mischargeReason d mc ms al bc bs 44 [(0, .ref v0), (1, .int v1), (2, .int v2), (3, .ref v3), (4, .int v4)] [] Γ I L Q := by
  refine aw_iconst dX8_mischargeReason_44 ci_0 ?_
  exact aw_iret dX8_mischargeReason_45 rfl hq
theorem bX8_mischargeReason_46 {d mc ms : Nat} {al : Bool} {bc bs : Nat} {Γ : am_G} {I : am_I} {L : am_L} {Q : am_Q} {v0 : Nat} {v1 : Int32} {v2 : Int32} {v3 : Nat} {v4 : Int32} {r2 : Nat} {I' : am_I} {L' : am_L} {mc' : Nat} {ms' : Nat} {r : Int32} (o1 : am_ob Γ v0 8) (g3 : Γ.2.2 v0 1 = some r2) (o4 : am_ob Γ r2 5) (hbc : mc' ≤ bc) (hbs : ms' ≤ bs) (hC : am_E m_X5_hasTwinWithToll d mc' ms' [.ref r2, .int v2, .int v4] Γ I L (.inl (some (.int r))) I' L') (kk : am_W m_X8_mischargeReason (d + 1) mc ms al (bc - mc') (bs - ms') 56 [(0, .ref v0), (1, .int v1), (2, .int v2), (3, .ref v3), (4, .int v4)] [.int r] Γ I' L' Q) : am_W m_X8_mischargeReason (d + 1) mc ms al bc bs 46 [(0, .ref v0), (1, .int v1), (2, .int v2), (3, .ref v3), (4, .int v4)] [] Γ I L Q := by
  refine aw_aload_n dX8_mischargeReason_46 rfl ?_
  refine aw_getR dX8_mischargeReason_47 f_X8_19 o1 rfl g3 ?_
  refine aw_iload_n dX8_mischargeReason_50 rfl ?_
  refine aw_iload dX8_mischargeReason_51 rfl ?_
  exact aw_askV (as := [.int v2, .int v4]) (rst := []) k_X5_hasTwinWithToll l_X8_287 i_X5_hasTwinWithToll s_X5_hasTwinWithToll rfl o4 dX8_mischargeReason_53 rfl (Nat.le_of_ble_eq_true rfl) hbc hbs hC rfl rfl kk
theorem bX8_mischargeReason_56 {d mc ms : Nat} {al : Bool} {bc bs : Nat} {Γ : am_G} {I : am_I} {L : am_L} {Q : am_Q} {v0 : Nat} {v1 : Int32} {v2 : Int32} {v3 : Nat} {v4 : Int32} {w0 : Int32} (kt : w0 = 0 → am_W m_X8_mischargeReason d mc ms al bc bs 61 [(0, .ref v0), (1, .int v1), (2, .int v2), (3, .ref v3), (4, .int v4)] [] Γ I L Q) (kf : ¬ w0 = 0 → am_W m_X8_mischargeReason d mc ms al bc bs 59 [(0, .ref v0), (1, .int v1), (2, .int v2), (3, .ref v3), (4, .int v4)] [] Γ I L Q) : am_W m_X8_mischargeReason d mc ms al bc bs 56 [(0, .ref v0), (1, .int v1), (2, .int v2), (3, .ref v3), (4, .int v4)] [.int w0] Γ I L Q := by
  exact aw_if_eq dX8_mischargeReason_56 (by decide) kt kf
theorem bX8_mischargeReason_59 {d mc ms : Nat} {al : Bool} {bc bs : Nat} {Γ : am_G} {I : am_I} {L : am_L} {Q : am_Q} {v0 : Nat} {v1 : Int32} {v2 : Int32} {v3 : Nat} {v4 : Int32} (hq : Q (.inl (some (.int 1))) Γ I L) : am_W m_X8_mischargeReason d mc ms al bc bs 59 [(0, .ref v0), (1, .int v1), (2, .int v2), (3, .ref v3), (4, .int v4)] [] Γ I L Q := by
  refine aw_iconst dX8_mischargeReason_59 ci_1 ?_
  exact aw_iret dX8_mischargeReason_60 rfl hq
theorem bX8_mischargeReason_61 {d mc ms : Nat} {al : Bool} {bc bs : Nat} {Γ : am_G} {I : am_I} {L : am_L} {Q : am_Q} {v0 : Nat} {v1 : Int32} {v2 : Int32} {v3 : Nat} {v4 : Int32} {r2 : Nat} {r5 : Nat} {I' : am_I} {L' : am_L} {mc' : Nat} {ms' : Nat} {r : Int32} (o1 : am_ob Γ v0 8) (g3 : Γ.2.2 v0 1 = some r2) (o4 : am_ob Γ v3 7) (g6 : Γ.2.2 v3 4 = some r5) (hbc : mc' ≤ bc) (hbs : ms' ≤ bs) (hC : am_E m_X7_leafHolding d mc' ms' [.ref v3, .int v2] Γ I L (.inl (some (.int r))) I' L') (kk : am_W m_X8_mischargeReason (d + 1) mc ms al (bc - mc') (bs - ms') 74 [(0, .ref v0), (1, .int v1), (2, .int v2), (3, .ref v3), (4, .int v4)] [.int r, .ref r5, .ref r2] Γ I' L' Q) : am_W m_X8_mischargeReason (d + 1) mc ms al bc bs 61 [(0, .ref v0), (1, .int v1), (2, .int v2), (3, .ref v3), (4, .int v4)] [] Γ I L Q := by
  refine aw_aload_n dX8_mischargeReason_61 rfl ?_
  refine aw_getR dX8_mischargeReason_62 f_X8_19 o1 rfl g3 ?_
  refine aw_aload_n dX8_mischargeReason_65 rfl ?_
  refine aw_getR dX8_mischargeReason_66 f_X8_268 o4 rfl g6 ?_
  refine aw_aload_n dX8_mischargeReason_69 rfl ?_
  refine aw_iload_n dX8_mischargeReason_70 rfl ?_
  exact aw_askV (as := [.int v2]) (rst := [.ref r5, .ref r2]) k_X7_leafHolding l_X8_271 i_X7_leafHolding s_X7_leafHolding rfl o4 dX8_mischargeReason_71 rfl (Nat.le_of_ble_eq_true rfl) hbc hbs hC rfl rfl kk
theorem bX8_mischargeReason_74 {d mc ms : Nat} {al : Bool} {bc bs : Nat} {Γ : am_G} {I : am_I} {L : am_L} {Q : am_Q} {v0 : Nat} {v1 : Int32} {v2 : Int32} {v3 : Nat} {v4 : Int32} {w0 : Nat} {w1 : Nat} {w2 : Int32} {n_w1 : Nat} {I' : am_I} {L' : am_L} {mc' : Nat} {ms' : Nat} {r : Int32} (a1 : am_ar Γ w1 1 n_w1 0) (i2 : vp_in w2 n_w1) (o3 : am_ob Γ w0 5) (hbc : mc' ≤ bc) (hbs : ms' ≤ bs) (hC : am_E m_X5_isSplittable d mc' ms' [.ref w0, .int (I w1 (w2.toNatClampNeg))] Γ I L (.inl (some (.int r))) I' L') (kk : am_W m_X8_mischargeReason (d + 1) mc ms al (bc - mc') (bs - ms') 78 [(0, .ref v0), (1, .int v1), (2, .int v2), (3, .ref v3), (4, .int v4)] [.int r] Γ I' L' Q) : am_W m_X8_mischargeReason (d + 1) mc ms al bc bs 74 [(0, .ref v0), (1, .int v1), (2, .int v2), (3, .ref v3), (4, .int v4)] [.int w2, .ref w1, .ref w0] Γ I L Q := by
  refine aw_iald dX8_mischargeReason_74 a1 i2 ?_
  exact aw_askV (as := [.int (I w1 (w2.toNatClampNeg))]) (rst := []) k_X5_isSplittable l_X8_290 i_X5_isSplittable s_X5_isSplittable rfl o3 dX8_mischargeReason_75 rfl (Nat.le_of_ble_eq_true rfl) hbc hbs hC rfl rfl kk
theorem bX8_mischargeReason_78 {d mc ms : Nat} {al : Bool} {bc bs : Nat} {Γ : am_G} {I : am_I} {L : am_L} {Q : am_Q} {v0 : Nat} {v1 : Int32} {v2 : Int32} {v3 : Nat} {v4 : Int32} {w0 : Int32} (kt : w0 = 0 → am_W m_X8_mischargeReason d mc ms al bc bs 85 [(0, .ref v0), (1, .int v1), (2, .int v2), (3, .ref v3), (4, .int v4)] [] Γ I L Q) (kf : ¬ w0 = 0 → am_W m_X8_mischargeReason d mc ms al bc bs 81 [(0, .ref v0), (1, .int v1), (2, .int v2), (3, .ref v3), (4, .int v4)] [] Γ I L Q) : am_W m_X8_mischargeReason d mc ms al bc bs 78 [(0, .ref v0), (1, .int v1), (2, .int v2), (3, .ref v3), (4, .int v4)] [.int w0] Γ I L Q := by
  exact aw_if_eq dX8_mischargeReason_78 (by decide) kt kf
theorem bX8_mischargeReason_81 {d mc ms : Nat} {al : Bool} {bc bs : Nat} {Γ : am_G} {I : am_I} {L : am_L} {Q : am_Q} {v0 : Nat} {v1 : Int32} {v2 : Int32} {v3 : Nat} {v4 : Int32} (kk : am_W m_X8_mischargeReason d mc ms al bc bs 86 [(0, .ref v0), (1, .int v1), (2, .int v2), (3, .ref v3), (4, .int v4)] [.int 2] Γ I L Q) : am_W m_X8_mischargeReason d mc ms al bc bs 81 [(0, .ref v0), (1, .int v1), (2, .int v2), (3, .ref v3), (4, .int v4)] [] Γ I L Q := by
  refine aw_iconst dX8_mischargeReason_81 ci_2 ?_
  exact aw_goto dX8_mischargeReason_82 (by decide) kk
theorem bX8_mischargeReason_85 {d mc ms : Nat} {al : Bool} {bc bs : Nat} {Γ : am_G} {I : am_I} {L : am_L} {Q : am_Q} {v0 : Nat} {v1 : Int32} {v2 : Int32} {v3 : Nat} {v4 : Int32} (kk : am_W m_X8_mischargeReason d mc ms al bc bs 86 [(0, .ref v0), (1, .int v1), (2, .int v2), (3, .ref v3), (4, .int v4)] [.int 3] Γ I L Q) : am_W m_X8_mischargeReason d mc ms al bc bs 85 [(0, .ref v0), (1, .int v1), (2, .int v2), (3, .ref v3), (4, .int v4)] [] Γ I L Q := by
  refine aw_iconst dX8_mischargeReason_85 ci_3 ?_
  exact kk
theorem bX8_mischargeReason_86 {d mc ms : Nat} {al : Bool} {bc bs : Nat} {Γ : am_G} {I : am_I} {L : am_L} {Q : am_Q} {v0 : Nat} {v1 : Int32} {v2 : Int32} {v3 : Nat} {v4 : Int32} {w0 : Int32} (hq : Q (.inl (some (.int w0))) Γ I L) : am_W m_X8_mischargeReason d mc ms al bc bs 86 [(0, .ref v0), (1, .int v1), (2, .int v2), (3, .ref v3), (4, .int v4)] [.int w0] Γ I L Q := by
  exact aw_iret dX8_mischargeReason_86 rfl hq
theorem dX8_bestErrors_0 : decode cX8_bestErrors 0 = .ok (.aload_n 0, 1) := by decide +kernel
theorem dX8_bestErrors_1 : decode cX8_bestErrors 1 = .ok (.iload_n 1, 1) := by decide +kernel
theorem dX8_bestErrors_2 : decode cX8_bestErrors 2 = .ok (.iload_n 2, 1) := by decide +kernel
theorem dX8_bestErrors_3 : decode cX8_bestErrors 3 = .ok (.invokevirtual 293, 3) := by decide +kernel
theorem dX8_bestErrors_6 : decode cX8_bestErrors 6 = .ok (.invokestatic 297, 3) := by decide +kernel
theorem dX8_bestErrors_9 : decode cX8_bestErrors 9 = .ok (.ireturn, 1) := by decide +kernel
theorem bX8_bestErrors_0 {d mc ms : Nat} {al : Bool} {bc bs : Nat} {Γ : am_G} {I : am_I} {L : am_L} {Q : am_Q} {v0 : Nat} {v1 : Int32} {v2 : Int32} {I' : am_I} {L' : am_L} {mc' : Nat} {ms' : Nat} {r : Int64} (o1 : am_ob Γ v0 8) (hbc : mc' ≤ bc) (hbs : ms' ≤ bs) (hC : am_E m_X8_bestRank d mc' ms' [.ref v0, .int v1, .int v2] Γ I L (.inl (some (.long r))) I' L') (kk : am_W m_X8_bestErrors (d + 1) mc ms al (bc - mc') (bs - ms') 6 [(0, .ref v0), (1, .int v1), (2, .int v2)] [.long r] Γ I' L' Q) : am_W m_X8_bestErrors (d + 1) mc ms al bc bs 0 [(0, .ref v0), (1, .int v1), (2, .int v2)] [] Γ I L Q := by
  refine aw_aload_n dX8_bestErrors_0 rfl ?_
  refine aw_iload_n dX8_bestErrors_1 rfl ?_
  refine aw_iload_n dX8_bestErrors_2 rfl ?_
  exact aw_askV (as := [.int v1, .int v2]) (rst := []) k_X8_bestRank l_X8_293 i_X8_bestRank s_X8_bestRank rfl o1 dX8_bestErrors_3 rfl (Nat.le_of_ble_eq_true rfl) hbc hbs hC rfl rfl kk
theorem bX8_bestErrors_0x {d mc ms : Nat} {al : Bool} {bc bs : Nat} {Γ : am_G} {I : am_I} {L : am_L} {Q : am_Q} {v0 : Nat} {v1 : Int32} {v2 : Int32} {I' : am_I} {L' : am_L} {mc' : Nat} {ms' : Nat} {E : String} (o1 : am_ob Γ v0 8) (hbc : mc' ≤ bc) (hbs : ms' ≤ bs) (hC : am_E m_X8_bestRank d mc' ms' [.ref v0, .int v1, .int v2] Γ I L (.inr E) I' L') (hq : Q (.inr E) Γ I' L') : am_W m_X8_bestErrors (d + 1) mc ms al bc bs 0 [(0, .ref v0), (1, .int v1), (2, .int v2)] [] Γ I L Q := by
  refine aw_aload_n dX8_bestErrors_0 rfl ?_
  refine aw_iload_n dX8_bestErrors_1 rfl ?_
  refine aw_iload_n dX8_bestErrors_2 rfl ?_
  exact aw_fallV (as := [.int v1, .int v2]) (rst := []) k_X8_bestRank l_X8_293 i_X8_bestRank s_X8_bestRank rfl o1 dX8_bestErrors_3 rfl (Nat.le_of_ble_eq_true rfl) hbc hbs rfl hC rfl hq
theorem bX8_bestErrors_6 {d mc ms : Nat} {al : Bool} {bc bs : Nat} {Γ : am_G} {I : am_I} {L : am_L} {Q : am_Q} {v0 : Nat} {v1 : Int32} {v2 : Int32} {w0 : Int64} {I' : am_I} {L' : am_L} {mc' : Nat} {ms' : Nat} {r : Int32} (hbc : mc' ≤ bc) (hbs : ms' ≤ bs) (hC : am_E m_X8_errorsOf d mc' ms' [.long w0] Γ I L (.inl (some (.int r))) I' L') (kk : am_W m_X8_bestErrors (d + 1) mc ms al (bc - mc') (bs - ms') 9 [(0, .ref v0), (1, .int v1), (2, .int v2)] [.int r] Γ I' L' Q) : am_W m_X8_bestErrors (d + 1) mc ms al bc bs 6 [(0, .ref v0), (1, .int v1), (2, .int v2)] [.long w0] Γ I L Q := by
  exact aw_askS (as := [.long w0]) (rst := []) k_X8_errorsOf l_X8_297 t_X8_errorsOf dX8_bestErrors_6 rfl (Nat.le_of_ble_eq_true rfl) hbc hbs hC rfl rfl kk
theorem bX8_bestErrors_9 {d mc ms : Nat} {al : Bool} {bc bs : Nat} {Γ : am_G} {I : am_I} {L : am_L} {Q : am_Q} {v0 : Nat} {v1 : Int32} {v2 : Int32} {w0 : Int32} (hq : Q (.inl (some (.int w0))) Γ I L) : am_W m_X8_bestErrors d mc ms al bc bs 9 [(0, .ref v0), (1, .int v1), (2, .int v2)] [.int w0] Γ I L Q := by
  exact aw_iret dX8_bestErrors_9 rfl hq
theorem dX8_bestWork_0 : decode cX8_bestWork 0 = .ok (.aload_n 0, 1) := by decide +kernel
theorem dX8_bestWork_1 : decode cX8_bestWork 1 = .ok (.iload_n 1, 1) := by decide +kernel
theorem dX8_bestWork_2 : decode cX8_bestWork 2 = .ok (.iload_n 2, 1) := by decide +kernel
theorem dX8_bestWork_3 : decode cX8_bestWork 3 = .ok (.invokevirtual 293, 3) := by decide +kernel
theorem dX8_bestWork_6 : decode cX8_bestWork 6 = .ok (.invokestatic 301, 3) := by decide +kernel
theorem dX8_bestWork_9 : decode cX8_bestWork 9 = .ok (.ireturn, 1) := by decide +kernel
theorem bX8_bestWork_0 {d mc ms : Nat} {al : Bool} {bc bs : Nat} {Γ : am_G} {I : am_I} {L : am_L} {Q : am_Q} {v0 : Nat} {v1 : Int32} {v2 : Int32} {I' : am_I} {L' : am_L} {mc' : Nat} {ms' : Nat} {r : Int64} (o1 : am_ob Γ v0 8) (hbc : mc' ≤ bc) (hbs : ms' ≤ bs) (hC : am_E m_X8_bestRank d mc' ms' [.ref v0, .int v1, .int v2] Γ I L (.inl (some (.long r))) I' L') (kk : am_W m_X8_bestWork (d + 1) mc ms al (bc - mc') (bs - ms') 6 [(0, .ref v0), (1, .int v1), (2, .int v2)] [.long r] Γ I' L' Q) : am_W m_X8_bestWork (d + 1) mc ms al bc bs 0 [(0, .ref v0), (1, .int v1), (2, .int v2)] [] Γ I L Q := by
  refine aw_aload_n dX8_bestWork_0 rfl ?_
  refine aw_iload_n dX8_bestWork_1 rfl ?_
  refine aw_iload_n dX8_bestWork_2 rfl ?_
  exact aw_askV (as := [.int v1, .int v2]) (rst := []) k_X8_bestRank l_X8_293 i_X8_bestRank s_X8_bestRank rfl o1 dX8_bestWork_3 rfl (Nat.le_of_ble_eq_true rfl) hbc hbs hC rfl rfl kk
theorem bX8_bestWork_0x {d mc ms : Nat} {al : Bool} {bc bs : Nat} {Γ : am_G} {I : am_I} {L : am_L} {Q : am_Q} {v0 : Nat} {v1 : Int32} {v2 : Int32} {I' : am_I} {L' : am_L} {mc' : Nat} {ms' : Nat} {E : String} (o1 : am_ob Γ v0 8) (hbc : mc' ≤ bc) (hbs : ms' ≤ bs) (hC : am_E m_X8_bestRank d mc' ms' [.ref v0, .int v1, .int v2] Γ I L (.inr E) I' L') (hq : Q (.inr E) Γ I' L') : am_W m_X8_bestWork (d + 1) mc ms al bc bs 0 [(0, .ref v0), (1, .int v1), (2, .int v2)] [] Γ I L Q := by
  refine aw_aload_n dX8_bestWork_0 rfl ?_
  refine aw_iload_n dX8_bestWork_1 rfl ?_
  refine aw_iload_n dX8_bestWork_2 rfl ?_
  exact aw_fallV (as := [.int v1, .int v2]) (rst := []) k_X8_bestRank l_X8_293 i_X8_bestRank s_X8_bestRank rfl o1 dX8_bestWork_3 rfl (Nat.le_of_ble_eq_true rfl) hbc hbs rfl hC rfl hq
theorem bX8_bestWork_6 {d mc ms : Nat} {al : Bool} {bc bs : Nat} {Γ : am_G} {I : am_I} {L : am_L} {Q : am_Q} {v0 : Nat} {v1 : Int32} {v2 : Int32} {w0 : Int64} {I' : am_I} {L' : am_L} {mc' : Nat} {ms' : Nat} {r : Int32} (hbc : mc' ≤ bc) (hbs : ms' ≤ bs) (hC : am_E m_X8_workOf d mc' ms' [.long w0] Γ I L (.inl (some (.int r))) I' L') (kk : am_W m_X8_bestWork (d + 1) mc ms al (bc - mc') (bs - ms') 9 [(0, .ref v0), (1, .int v1), (2, .int v2)] [.int r] Γ I' L' Q) : am_W m_X8_bestWork (d + 1) mc ms al bc bs 6 [(0, .ref v0), (1, .int v1), (2, .int v2)] [.long w0] Γ I L Q := by
  exact aw_askS (as := [.long w0]) (rst := []) k_X8_workOf l_X8_301 t_X8_workOf dX8_bestWork_6 rfl (Nat.le_of_ble_eq_true rfl) hbc hbs hC rfl rfl kk
theorem bX8_bestWork_9 {d mc ms : Nat} {al : Bool} {bc bs : Nat} {Γ : am_G} {I : am_I} {L : am_L} {Q : am_Q} {v0 : Nat} {v1 : Int32} {v2 : Int32} {w0 : Int32} (hq : Q (.inl (some (.int w0))) Γ I L) : am_W m_X8_bestWork d mc ms al bc bs 9 [(0, .ref v0), (1, .int v1), (2, .int v2)] [.int w0] Γ I L Q := by
  exact aw_iret dX8_bestWork_9 rfl hq
theorem dX8_bestRootQuestion_0 : decode cX8_bestRootQuestion 0 = .ok (.aload_n 0, 1) := by decide +kernel
theorem dX8_bestRootQuestion_1 : decode cX8_bestRootQuestion 1 = .ok (.iload_n 1, 1) := by decide +kernel
theorem dX8_bestRootQuestion_2 : decode cX8_bestRootQuestion 2 = .ok (.iload_n 2, 1) := by decide +kernel
theorem dX8_bestRootQuestion_3 : decode cX8_bestRootQuestion 3 = .ok (.invokevirtual 293, 3) := by decide +kernel
theorem dX8_bestRootQuestion_6 : decode cX8_bestRootQuestion 6 = .ok (.invokestatic 304, 3) := by decide +kernel
theorem dX8_bestRootQuestion_9 : decode cX8_bestRootQuestion 9 = .ok (.ireturn, 1) := by decide +kernel
theorem bX8_bestRootQuestion_0 {d mc ms : Nat} {al : Bool} {bc bs : Nat} {Γ : am_G} {I : am_I} {L : am_L} {Q : am_Q} {v0 : Nat} {v1 : Int32} {v2 : Int32} {I' : am_I} {L' : am_L} {mc' : Nat} {ms' : Nat} {r : Int64} (o1 : am_ob Γ v0 8) (hbc : mc' ≤ bc) (hbs : ms' ≤ bs) (hC : am_E m_X8_bestRank d mc' ms' [.ref v0, .int v1, .int v2] Γ I L (.inl (some (.long r))) I' L') (kk : am_W m_X8_bestRootQuestion (d + 1) mc ms al (bc - mc') (bs - ms') 6 [(0, .ref v0), (1, .int v1), (2, .int v2)] [.long r] Γ I' L' Q) : am_W m_X8_bestRootQuestion (d + 1) mc ms al bc bs 0 [(0, .ref v0), (1, .int v1), (2, .int v2)] [] Γ I L Q := by
  refine aw_aload_n dX8_bestRootQuestion_0 rfl ?_
  refine aw_iload_n dX8_bestRootQuestion_1 rfl ?_
  refine aw_iload_n dX8_bestRootQuestion_2 rfl ?_
  exact aw_askV (as := [.int v1, .int v2]) (rst := []) k_X8_bestRank l_X8_293 i_X8_bestRank s_X8_bestRank rfl o1 dX8_bestRootQuestion_3 rfl (Nat.le_of_ble_eq_true rfl) hbc hbs hC rfl rfl kk
theorem bX8_bestRootQuestion_0x {d mc ms : Nat} {al : Bool} {bc bs : Nat} {Γ : am_G} {I : am_I} {L : am_L} {Q : am_Q} {v0 : Nat} {v1 : Int32} {v2 : Int32} {I' : am_I} {L' : am_L} {mc' : Nat} {ms' : Nat} {E : String} (o1 : am_ob Γ v0 8) (hbc : mc' ≤ bc) (hbs : ms' ≤ bs) (hC : am_E m_X8_bestRank d mc' ms' [.ref v0, .int v1, .int v2] Γ I L (.inr E) I' L') (hq : Q (.inr E) Γ I' L') : am_W m_X8_bestRootQuestion (d + 1) mc ms al bc bs 0 [(0, .ref v0), (1, .int v1), (2, .int v2)] [] Γ I L Q := by
  refine aw_aload_n dX8_bestRootQuestion_0 rfl ?_
  refine aw_iload_n dX8_bestRootQuestion_1 rfl ?_
  refine aw_iload_n dX8_bestRootQuestion_2 rfl ?_
  exact aw_fallV (as := [.int v1, .int v2]) (rst := []) k_X8_bestRank l_X8_293 i_X8_bestRank s_X8_bestRank rfl o1 dX8_bestRootQuestion_3 rfl (Nat.le_of_ble_eq_true rfl) hbc hbs rfl hC rfl hq
theorem bX8_bestRootQuestion_6 {d mc ms : Nat} {al : Bool} {bc bs : Nat} {Γ : am_G} {I : am_I} {L : am_L} {Q : am_Q} {v0 : Nat} {v1 : Int32} {v2 : Int32} {w0 : Int64} {I' : am_I} {L' : am_L} {mc' : Nat} {ms' : Nat} {r : Int32} (hbc : mc' ≤ bc) (hbs : ms' ≤ bs) (hC : am_E m_X8_rootOf d mc' ms' [.long w0] Γ I L (.inl (some (.int r))) I' L') (kk : am_W m_X8_bestRootQuestion (d + 1) mc ms al (bc - mc') (bs - ms') 9 [(0, .ref v0), (1, .int v1), (2, .int v2)] [.int r] Γ I' L' Q) : am_W m_X8_bestRootQuestion (d + 1) mc ms al bc bs 6 [(0, .ref v0), (1, .int v1), (2, .int v2)] [.long w0] Γ I L Q := by
  exact aw_askS (as := [.long w0]) (rst := []) k_X8_rootOf l_X8_304 t_X8_rootOf dX8_bestRootQuestion_6 rfl (Nat.le_of_ble_eq_true rfl) hbc hbs hC rfl rfl kk
theorem bX8_bestRootQuestion_9 {d mc ms : Nat} {al : Bool} {bc bs : Nat} {Γ : am_G} {I : am_I} {L : am_L} {Q : am_Q} {v0 : Nat} {v1 : Int32} {v2 : Int32} {w0 : Int32} (hq : Q (.inl (some (.int w0))) Γ I L) : am_W m_X8_bestRootQuestion d mc ms al bc bs 9 [(0, .ref v0), (1, .int v1), (2, .int v2)] [.int w0] Γ I L Q := by
  exact aw_iret dX8_bestRootQuestion_9 rfl hq
theorem dX8_errorsWithout_0 : decode cX8_errorsWithout 0 = .ok (.aload_n 0, 1) := by decide +kernel
theorem dX8_errorsWithout_1 : decode cX8_errorsWithout 1 = .ok (.iload_n 1, 1) := by decide +kernel
theorem dX8_errorsWithout_2 : decode cX8_errorsWithout 2 = .ok (.invokevirtual 115, 3) := by decide +kernel
theorem dX8_errorsWithout_5 : decode cX8_errorsWithout 5 = .ok (.aload_n 0, 1) := by decide +kernel
theorem dX8_errorsWithout_6 : decode cX8_errorsWithout 6 = .ok (.iload_n 2, 1) := by decide +kernel
theorem dX8_errorsWithout_7 : decode cX8_errorsWithout 7 = .ok (.invokevirtual 190, 3) := by decide +kernel
theorem dX8_errorsWithout_10 : decode cX8_errorsWithout 10 = .ok (.aload_n 0, 1) := by decide +kernel
theorem dX8_errorsWithout_11 : decode cX8_errorsWithout 11 = .ok (.getfield 19, 3) := by decide +kernel
theorem dX8_errorsWithout_14 : decode cX8_errorsWithout 14 = .ok (.getfield 121, 3) := by decide +kernel
theorem dX8_errorsWithout_17 : decode cX8_errorsWithout 17 = .ok (.iload_n 1, 1) := by decide +kernel
theorem dX8_errorsWithout_18 : decode cX8_errorsWithout 18 = .ok (.aaload, 1) := by decide +kernel
theorem dX8_errorsWithout_19 : decode cX8_errorsWithout 19 = .ok (.getfield 171, 3) := by decide +kernel
theorem dX8_errorsWithout_22 : decode cX8_errorsWithout 22 = .ok (.istore_n 3, 1) := by decide +kernel
theorem dX8_errorsWithout_23 : decode cX8_errorsWithout 23 = .ok (.aload_n 0, 1) := by decide +kernel
theorem dX8_errorsWithout_24 : decode cX8_errorsWithout 24 = .ok (.getfield 12, 3) := by decide +kernel
theorem dX8_errorsWithout_27 : decode cX8_errorsWithout 27 = .ok (.aload_n 0, 1) := by decide +kernel
theorem dX8_errorsWithout_28 : decode cX8_errorsWithout 28 = .ok (.getfield 19, 3) := by decide +kernel
theorem dX8_errorsWithout_31 : decode cX8_errorsWithout 31 = .ok (.aload_n 0, 1) := by decide +kernel
theorem dX8_errorsWithout_32 : decode cX8_errorsWithout 32 = .ok (.getfield 19, 3) := by decide +kernel
theorem dX8_errorsWithout_35 : decode cX8_errorsWithout 35 = .ok (.getfield 121, 3) := by decide +kernel
theorem dX8_errorsWithout_38 : decode cX8_errorsWithout 38 = .ok (.iload_n 1, 1) := by decide +kernel
theorem dX8_errorsWithout_39 : decode cX8_errorsWithout 39 = .ok (.aaload, 1) := by decide +kernel
theorem dX8_errorsWithout_40 : decode cX8_errorsWithout 40 = .ok (.iconst 1, 1) := by decide +kernel
theorem dX8_errorsWithout_41 : decode cX8_errorsWithout 41 = .ok (.iload_n 3, 1) := by decide +kernel
theorem dX8_errorsWithout_42 : decode cX8_errorsWithout 42 = .ok (.ishl, 1) := by decide +kernel
theorem dX8_errorsWithout_43 : decode cX8_errorsWithout 43 = .ok (.iload_n 2, 1) := by decide +kernel
theorem dX8_errorsWithout_44 : decode cX8_errorsWithout 44 = .ok (.invokevirtual 307, 3) := by decide +kernel
theorem dX8_errorsWithout_47 : decode cX8_errorsWithout 47 = .ok (.aload_n 0, 1) := by decide +kernel
theorem dX8_errorsWithout_48 : decode cX8_errorsWithout 48 = .ok (.getfield 12, 3) := by decide +kernel
theorem dX8_errorsWithout_51 : decode cX8_errorsWithout 51 = .ok (.aload_n 0, 1) := by decide +kernel
theorem dX8_errorsWithout_52 : decode cX8_errorsWithout 52 = .ok (.getfield 19, 3) := by decide +kernel
theorem dX8_errorsWithout_55 : decode cX8_errorsWithout 55 = .ok (.invokevirtual 160, 3) := by decide +kernel
theorem dX8_errorsWithout_58 : decode cX8_errorsWithout 58 = .ok (.iload_n 3, 1) := by decide +kernel
theorem dX8_errorsWithout_59 : decode cX8_errorsWithout 59 = .ok (.invokevirtual 311, 3) := by decide +kernel
theorem dX8_errorsWithout_62 : decode cX8_errorsWithout 62 = .ok (.invokestatic 297, 3) := by decide +kernel
theorem dX8_errorsWithout_65 : decode cX8_errorsWithout 65 = .ok (.ireturn, 1) := by decide +kernel
theorem bX8_errorsWithout_0 {d mc ms : Nat} {al : Bool} {bc bs : Nat} {Γ : am_G} {I : am_I} {L : am_L} {Q : am_Q} {v0 : Nat} {v1 : Int32} {v2 : Int32} {I' : am_I} {L' : am_L} {mc' : Nat} {ms' : Nat} (o1 : am_ob Γ v0 8) (hbc : mc' ≤ bc) (hbs : ms' ≤ bs) (hC : am_E m_X8_requireGate d mc' ms' [.ref v0, .int v1] Γ I L (.inl none) I' L') (kk : am_W m_X8_errorsWithout (d + 1) mc ms al (bc - mc') (bs - ms') 5 [(0, .ref v0), (1, .int v1), (2, .int v2)] [] Γ I' L' Q) : am_W m_X8_errorsWithout (d + 1) mc ms al bc bs 0 [(0, .ref v0), (1, .int v1), (2, .int v2)] [] Γ I L Q := by
  refine aw_aload_n dX8_errorsWithout_0 rfl ?_
  refine aw_iload_n dX8_errorsWithout_1 rfl ?_
  exact aw_askV (as := [.int v1]) (rst := []) k_X8_requireGate l_X8_115 i_X8_requireGate s_X8_requireGate rfl o1 dX8_errorsWithout_2 rfl (Nat.le_of_ble_eq_true rfl) hbc hbs hC rfl rfl kk
theorem bX8_errorsWithout_0x {d mc ms : Nat} {al : Bool} {bc bs : Nat} {Γ : am_G} {I : am_I} {L : am_L} {Q : am_Q} {v0 : Nat} {v1 : Int32} {v2 : Int32} {I' : am_I} {L' : am_L} {mc' : Nat} {ms' : Nat} {E : String} (o1 : am_ob Γ v0 8) (hbc : mc' ≤ bc) (hbs : ms' ≤ bs) (hC : am_E m_X8_requireGate d mc' ms' [.ref v0, .int v1] Γ I L (.inr E) I' L') (hq : Q (.inr E) Γ I' L') : am_W m_X8_errorsWithout (d + 1) mc ms al bc bs 0 [(0, .ref v0), (1, .int v1), (2, .int v2)] [] Γ I L Q := by
  refine aw_aload_n dX8_errorsWithout_0 rfl ?_
  refine aw_iload_n dX8_errorsWithout_1 rfl ?_
  exact aw_fallV (as := [.int v1]) (rst := []) k_X8_requireGate l_X8_115 i_X8_requireGate s_X8_requireGate rfl o1 dX8_errorsWithout_2 rfl (Nat.le_of_ble_eq_true rfl) hbc hbs rfl hC rfl hq
theorem bX8_errorsWithout_5 {d mc ms : Nat} {al : Bool} {bc bs : Nat} {Γ : am_G} {I : am_I} {L : am_L} {Q : am_Q} {v0 : Nat} {v1 : Int32} {v2 : Int32} {I' : am_I} {L' : am_L} {mc' : Nat} {ms' : Nat} (o1 : am_ob Γ v0 8) (hbc : mc' ≤ bc) (hbs : ms' ≤ bs) (hC : am_E m_X8_requireQuestion d mc' ms' [.ref v0, .int v2] Γ I L (.inl none) I' L') (kk : am_W m_X8_errorsWithout (d + 1) mc ms al (bc - mc') (bs - ms') 10 [(0, .ref v0), (1, .int v1), (2, .int v2)] [] Γ I' L' Q) : am_W m_X8_errorsWithout (d + 1) mc ms al bc bs 5 [(0, .ref v0), (1, .int v1), (2, .int v2)] [] Γ I L Q := by
  refine aw_aload_n dX8_errorsWithout_5 rfl ?_
  refine aw_iload_n dX8_errorsWithout_6 rfl ?_
  exact aw_askV (as := [.int v2]) (rst := []) k_X8_requireQuestion l_X8_190 i_X8_requireQuestion s_X8_requireQuestion rfl o1 dX8_errorsWithout_7 rfl (Nat.le_of_ble_eq_true rfl) hbc hbs hC rfl rfl kk
theorem bX8_errorsWithout_5x {d mc ms : Nat} {al : Bool} {bc bs : Nat} {Γ : am_G} {I : am_I} {L : am_L} {Q : am_Q} {v0 : Nat} {v1 : Int32} {v2 : Int32} {I' : am_I} {L' : am_L} {mc' : Nat} {ms' : Nat} {E : String} (o1 : am_ob Γ v0 8) (hbc : mc' ≤ bc) (hbs : ms' ≤ bs) (hC : am_E m_X8_requireQuestion d mc' ms' [.ref v0, .int v2] Γ I L (.inr E) I' L') (hq : Q (.inr E) Γ I' L') : am_W m_X8_errorsWithout (d + 1) mc ms al bc bs 5 [(0, .ref v0), (1, .int v1), (2, .int v2)] [] Γ I L Q := by
  refine aw_aload_n dX8_errorsWithout_5 rfl ?_
  refine aw_iload_n dX8_errorsWithout_6 rfl ?_
  exact aw_fallV (as := [.int v2]) (rst := []) k_X8_requireQuestion l_X8_190 i_X8_requireQuestion s_X8_requireQuestion rfl o1 dX8_errorsWithout_7 rfl (Nat.le_of_ble_eq_true rfl) hbc hbs rfl hC rfl hq
theorem bX8_errorsWithout_10 {d mc ms : Nat} {al : Bool} {bc bs : Nat} {Γ : am_G} {I : am_I} {L : am_L} {Q : am_Q} {v0 : Nat} {v1 : Int32} {v2 : Int32} {r2 : Nat} {r5 : Nat} {n_r5 : Nat} {r9 : Nat} {r12 : Nat} {I' : am_I} {L' : am_L} {mc' : Nat} {ms' : Nat} (o1 : am_ob Γ v0 8) (g3 : Γ.2.2 v0 1 = some r2) (o4 : am_ob Γ r2 5) (g6 : Γ.2.2 r2 9 = some r5) (a7 : am_ar Γ r5 6 n_r5 0) (i8 : vp_in v1 n_r5) (g10 : Γ.2.2 r5 (v1.toNatClampNeg) = some r9) (o11 : am_ob Γ r9 0) (g13 : Γ.2.2 v0 0 = some r12) (o14 : am_ob Γ r12 4) (hbc : mc' ≤ bc) (hbs : ms' ≤ bs) (hC : am_E m_X4_solve d mc' ms' [.ref r12, .ref r2, .ref r9, .int (1 <<< ((I r9 3) &&& 31)), .int v2] Γ I L (.inl none) I' L') (kk : am_W m_X8_errorsWithout (d + 1) mc ms al (bc - mc') (bs - ms') 47 [(0, .ref v0), (1, .int v1), (2, .int v2), (3, .int (I r9 3))] [] Γ I' L' Q) : am_W m_X8_errorsWithout (d + 1) mc ms al bc bs 10 [(0, .ref v0), (1, .int v1), (2, .int v2)] [] Γ I L Q := by
  refine aw_aload_n dX8_errorsWithout_10 rfl ?_
  refine aw_getR dX8_errorsWithout_11 f_X8_19 o1 rfl g3 ?_
  refine aw_getR dX8_errorsWithout_14 f_X8_121 o4 rfl g6 ?_
  refine aw_iload_n dX8_errorsWithout_17 rfl ?_
  refine aw_aald dX8_errorsWithout_18 a7 i8 g10 ?_
  refine aw_getI dX8_errorsWithout_19 f_X8_171 o11 rfl ?_
  refine aw_istore_n (ls' := [(0, .ref v0), (1, .int v1), (2, .int v2), (3, .int (I r9 3))]) dX8_errorsWithout_22 (by decide) rfl ?_
  refine aw_aload_n dX8_errorsWithout_23 rfl ?_
  refine aw_getR dX8_errorsWithout_24 f_X8_12 o1 rfl g13 ?_
  refine aw_aload_n dX8_errorsWithout_27 rfl ?_
  refine aw_getR dX8_errorsWithout_28 f_X8_19 o1 rfl g3 ?_
  refine aw_aload_n dX8_errorsWithout_31 rfl ?_
  refine aw_getR dX8_errorsWithout_32 f_X8_19 o1 rfl g3 ?_
  refine aw_getR dX8_errorsWithout_35 f_X8_121 o4 rfl g6 ?_
  refine aw_iload_n dX8_errorsWithout_38 rfl ?_
  refine aw_aald dX8_errorsWithout_39 a7 i8 g10 ?_
  refine aw_iconst dX8_errorsWithout_40 ci_1 ?_
  refine aw_iload_n dX8_errorsWithout_41 rfl ?_
  refine aw_ishl dX8_errorsWithout_42 ?_
  refine aw_iload_n dX8_errorsWithout_43 rfl ?_
  exact aw_askV (as := [.ref r2, .ref r9, .int (1 <<< ((I r9 3) &&& 31)), .int v2]) (rst := []) k_X4_solve l_X8_307 i_X4_solve s_X4_solve rfl o14 dX8_errorsWithout_44 rfl (Nat.le_of_ble_eq_true rfl) hbc hbs hC rfl rfl kk
theorem bX8_errorsWithout_47 {d mc ms : Nat} {al : Bool} {bc bs : Nat} {Γ : am_G} {I : am_I} {L : am_L} {Q : am_Q} {v0 : Nat} {v1 : Int32} {v2 : Int32} {v3 : Int32} {r2 : Nat} {r4 : Nat} {I' : am_I} {L' : am_L} {mc' : Nat} {ms' : Nat} {r : Int32} (o1 : am_ob Γ v0 8) (g3 : Γ.2.2 v0 0 = some r2) (g5 : Γ.2.2 v0 1 = some r4) (o6 : am_ob Γ r4 5) (hbc : mc' ≤ bc) (hbs : ms' ≤ bs) (hC : am_E m_X5_allTypes d mc' ms' [.ref r4] Γ I L (.inl (some (.int r))) I' L') (kk : am_W m_X8_errorsWithout (d + 1) mc ms al (bc - mc') (bs - ms') 58 [(0, .ref v0), (1, .int v1), (2, .int v2), (3, .int v3)] [.int r, .ref r2] Γ I' L' Q) : am_W m_X8_errorsWithout (d + 1) mc ms al bc bs 47 [(0, .ref v0), (1, .int v1), (2, .int v2), (3, .int v3)] [] Γ I L Q := by
  refine aw_aload_n dX8_errorsWithout_47 rfl ?_
  refine aw_getR dX8_errorsWithout_48 f_X8_12 o1 rfl g3 ?_
  refine aw_aload_n dX8_errorsWithout_51 rfl ?_
  refine aw_getR dX8_errorsWithout_52 f_X8_19 o1 rfl g5 ?_
  exact aw_askV (as := []) (rst := [.ref r2]) k_X5_allTypes l_X8_160 i_X5_allTypes s_X5_allTypes rfl o6 dX8_errorsWithout_55 rfl (Nat.le_of_ble_eq_true rfl) hbc hbs hC rfl rfl kk
theorem bX8_errorsWithout_58 {d mc ms : Nat} {al : Bool} {bc bs : Nat} {Γ : am_G} {I : am_I} {L : am_L} {Q : am_Q} {v0 : Nat} {v1 : Int32} {v2 : Int32} {v3 : Int32} {w0 : Nat} {w1 : Int32} {I' : am_I} {L' : am_L} {mc' : Nat} {ms' : Nat} {r : Int64} (o1 : am_ob Γ w0 4) (hbc : mc' ≤ bc) (hbs : ms' ≤ bs) (hC : am_E m_X4_rankOf d mc' ms' [.ref w0, .int w1, .int v3] Γ I L (.inl (some (.long r))) I' L') (kk : am_W m_X8_errorsWithout (d + 1) mc ms al (bc - mc') (bs - ms') 62 [(0, .ref v0), (1, .int v1), (2, .int v2), (3, .int v3)] [.long r] Γ I' L' Q) : am_W m_X8_errorsWithout (d + 1) mc ms al bc bs 58 [(0, .ref v0), (1, .int v1), (2, .int v2), (3, .int v3)] [.int w1, .ref w0] Γ I L Q := by
  refine aw_iload_n dX8_errorsWithout_58 rfl ?_
  exact aw_askV (as := [.int w1, .int v3]) (rst := []) k_X4_rankOf l_X8_311 i_X4_rankOf s_X4_rankOf rfl o1 dX8_errorsWithout_59 rfl (Nat.le_of_ble_eq_true rfl) hbc hbs hC rfl rfl kk
theorem bX8_errorsWithout_62 {d mc ms : Nat} {al : Bool} {bc bs : Nat} {Γ : am_G} {I : am_I} {L : am_L} {Q : am_Q} {v0 : Nat} {v1 : Int32} {v2 : Int32} {v3 : Int32} {w0 : Int64} {I' : am_I} {L' : am_L} {mc' : Nat} {ms' : Nat} {r : Int32} (hbc : mc' ≤ bc) (hbs : ms' ≤ bs) (hC : am_E m_X8_errorsOf d mc' ms' [.long w0] Γ I L (.inl (some (.int r))) I' L') (kk : am_W m_X8_errorsWithout (d + 1) mc ms al (bc - mc') (bs - ms') 65 [(0, .ref v0), (1, .int v1), (2, .int v2), (3, .int v3)] [.int r] Γ I' L' Q) : am_W m_X8_errorsWithout (d + 1) mc ms al bc bs 62 [(0, .ref v0), (1, .int v1), (2, .int v2), (3, .int v3)] [.long w0] Γ I L Q := by
  exact aw_askS (as := [.long w0]) (rst := []) k_X8_errorsOf l_X8_297 t_X8_errorsOf dX8_errorsWithout_62 rfl (Nat.le_of_ble_eq_true rfl) hbc hbs hC rfl rfl kk
theorem bX8_errorsWithout_65 {d mc ms : Nat} {al : Bool} {bc bs : Nat} {Γ : am_G} {I : am_I} {L : am_L} {Q : am_Q} {v0 : Nat} {v1 : Int32} {v2 : Int32} {v3 : Int32} {w0 : Int32} (hq : Q (.inl (some (.int w0))) Γ I L) : am_W m_X8_errorsWithout d mc ms al bc bs 65 [(0, .ref v0), (1, .int v1), (2, .int v2), (3, .int v3)] [.int w0] Γ I L Q := by
  exact aw_iret dX8_errorsWithout_65 rfl hq
theorem dX8_sufficientLimit_0 : decode cX8_sufficientLimit 0 = .ok (.aload_n 0, 1) := by decide +kernel
theorem dX8_sufficientLimit_1 : decode cX8_sufficientLimit 1 = .ok (.iload_n 1, 1) := by decide +kernel
theorem dX8_sufficientLimit_2 : decode cX8_sufficientLimit 2 = .ok (.invokevirtual 115, 3) := by decide +kernel
theorem dX8_sufficientLimit_5 : decode cX8_sufficientLimit 5 = .ok (.aload_n 0, 1) := by decide +kernel
theorem dX8_sufficientLimit_6 : decode cX8_sufficientLimit 6 = .ok (.getfield 12, 3) := by decide +kernel
theorem dX8_sufficientLimit_9 : decode cX8_sufficientLimit 9 = .ok (.aload_n 0, 1) := by decide +kernel
theorem dX8_sufficientLimit_10 : decode cX8_sufficientLimit 10 = .ok (.getfield 19, 3) := by decide +kernel
theorem dX8_sufficientLimit_13 : decode cX8_sufficientLimit 13 = .ok (.aload_n 0, 1) := by decide +kernel
theorem dX8_sufficientLimit_14 : decode cX8_sufficientLimit 14 = .ok (.getfield 19, 3) := by decide +kernel
theorem dX8_sufficientLimit_17 : decode cX8_sufficientLimit 17 = .ok (.getfield 121, 3) := by decide +kernel
theorem dX8_sufficientLimit_20 : decode cX8_sufficientLimit 20 = .ok (.iload_n 1, 1) := by decide +kernel
theorem dX8_sufficientLimit_21 : decode cX8_sufficientLimit 21 = .ok (.aaload, 1) := by decide +kernel
theorem dX8_sufficientLimit_22 : decode cX8_sufficientLimit 22 = .ok (.ldc_w 314, 3) := by decide +kernel
theorem dX8_sufficientLimit_25 : decode cX8_sufficientLimit 25 = .ok (.iconst (-1), 1) := by decide +kernel
theorem dX8_sufficientLimit_26 : decode cX8_sufficientLimit 26 = .ok (.invokevirtual 307, 3) := by decide +kernel
theorem dX8_sufficientLimit_29 : decode cX8_sufficientLimit 29 = .ok (.aload_n 0, 1) := by decide +kernel
theorem dX8_sufficientLimit_30 : decode cX8_sufficientLimit 30 = .ok (.getfield 19, 3) := by decide +kernel
theorem dX8_sufficientLimit_33 : decode cX8_sufficientLimit 33 = .ok (.invokevirtual 160, 3) := by decide +kernel
theorem dX8_sufficientLimit_36 : decode cX8_sufficientLimit 36 = .ok (.istore_n 2, 1) := by decide +kernel
theorem dX8_sufficientLimit_37 : decode cX8_sufficientLimit 37 = .ok (.aload_n 0, 1) := by decide +kernel
theorem dX8_sufficientLimit_38 : decode cX8_sufficientLimit 38 = .ok (.getfield 12, 3) := by decide +kernel
theorem dX8_sufficientLimit_41 : decode cX8_sufficientLimit 41 = .ok (.iload_n 2, 1) := by decide +kernel
theorem dX8_sufficientLimit_42 : decode cX8_sufficientLimit 42 = .ok (.bipush 30, 2) := by decide +kernel
theorem dX8_sufficientLimit_44 : decode cX8_sufficientLimit 44 = .ok (.invokevirtual 311, 3) := by decide +kernel
theorem dX8_sufficientLimit_47 : decode cX8_sufficientLimit 47 = .ok (.invokestatic 297, 3) := by decide +kernel
theorem dX8_sufficientLimit_50 : decode cX8_sufficientLimit 50 = .ok (.istore_n 3, 1) := by decide +kernel
theorem dX8_sufficientLimit_51 : decode cX8_sufficientLimit 51 = .ok (.iconst 0, 1) := by decide +kernel
theorem dX8_sufficientLimit_52 : decode cX8_sufficientLimit 52 = .ok (.istore 4, 2) := by decide +kernel
theorem dX8_sufficientLimit_54 : decode cX8_sufficientLimit 54 = .ok (.iload 4, 2) := by decide +kernel
theorem dX8_sufficientLimit_56 : decode cX8_sufficientLimit 56 = .ok (.bipush 30, 2) := by decide +kernel
theorem dX8_sufficientLimit_58 : decode cX8_sufficientLimit 58 = .ok (.if_icmp .ge 29, 3) := by decide +kernel
theorem dX8_sufficientLimit_61 : decode cX8_sufficientLimit 61 = .ok (.aload_n 0, 1) := by decide +kernel
theorem dX8_sufficientLimit_62 : decode cX8_sufficientLimit 62 = .ok (.getfield 12, 3) := by decide +kernel
theorem dX8_sufficientLimit_65 : decode cX8_sufficientLimit 65 = .ok (.iload_n 2, 1) := by decide +kernel
theorem dX8_sufficientLimit_66 : decode cX8_sufficientLimit 66 = .ok (.iload 4, 2) := by decide +kernel
theorem dX8_sufficientLimit_68 : decode cX8_sufficientLimit 68 = .ok (.invokevirtual 311, 3) := by decide +kernel
theorem dX8_sufficientLimit_71 : decode cX8_sufficientLimit 71 = .ok (.invokestatic 297, 3) := by decide +kernel
theorem dX8_sufficientLimit_74 : decode cX8_sufficientLimit 74 = .ok (.iload_n 3, 1) := by decide +kernel
theorem dX8_sufficientLimit_75 : decode cX8_sufficientLimit 75 = .ok (.if_icmp .ne 6, 3) := by decide +kernel
theorem dX8_sufficientLimit_78 : decode cX8_sufficientLimit 78 = .ok (.iload 4, 2) := by decide +kernel
theorem dX8_sufficientLimit_80 : decode cX8_sufficientLimit 80 = .ok (.ireturn, 1) := by decide +kernel
theorem dX8_sufficientLimit_81 : decode cX8_sufficientLimit 81 = .ok (.iinc 4 1, 3) := by decide +kernel
theorem dX8_sufficientLimit_84 : decode cX8_sufficientLimit 84 = .ok (.goto (-30), 3) := by decide +kernel
theorem dX8_sufficientLimit_87 : decode cX8_sufficientLimit 87 = .ok (.bipush 30, 2) := by decide +kernel
theorem dX8_sufficientLimit_89 : decode cX8_sufficientLimit 89 = .ok (.ireturn, 1) := by decide +kernel
theorem bX8_sufficientLimit_0 {d mc ms : Nat} {al : Bool} {bc bs : Nat} {Γ : am_G} {I : am_I} {L : am_L} {Q : am_Q} {v0 : Nat} {v1 : Int32} {I' : am_I} {L' : am_L} {mc' : Nat} {ms' : Nat} (o1 : am_ob Γ v0 8) (hbc : mc' ≤ bc) (hbs : ms' ≤ bs) (hC : am_E m_X8_requireGate d mc' ms' [.ref v0, .int v1] Γ I L (.inl none) I' L') (kk : am_W m_X8_sufficientLimit (d + 1) mc ms al (bc - mc') (bs - ms') 5 [(0, .ref v0), (1, .int v1)] [] Γ I' L' Q) : am_W m_X8_sufficientLimit (d + 1) mc ms al bc bs 0 [(0, .ref v0), (1, .int v1)] [] Γ I L Q := by
  refine aw_aload_n dX8_sufficientLimit_0 rfl ?_
  refine aw_iload_n dX8_sufficientLimit_1 rfl ?_
  exact aw_askV (as := [.int v1]) (rst := []) k_X8_requireGate l_X8_115 i_X8_requireGate s_X8_requireGate rfl o1 dX8_sufficientLimit_2 rfl (Nat.le_of_ble_eq_true rfl) hbc hbs hC rfl rfl kk
theorem bX8_sufficientLimit_0x {d mc ms : Nat} {al : Bool} {bc bs : Nat} {Γ : am_G} {I : am_I} {L : am_L} {Q : am_Q} {v0 : Nat} {v1 : Int32} {I' : am_I} {L' : am_L} {mc' : Nat} {ms' : Nat} {E : String} (o1 : am_ob Γ v0 8) (hbc : mc' ≤ bc) (hbs : ms' ≤ bs) (hC : am_E m_X8_requireGate d mc' ms' [.ref v0, .int v1] Γ I L (.inr E) I' L') (hq : Q (.inr E) Γ I' L') : am_W m_X8_sufficientLimit (d + 1) mc ms al bc bs 0 [(0, .ref v0), (1, .int v1)] [] Γ I L Q := by
  refine aw_aload_n dX8_sufficientLimit_0 rfl ?_
  refine aw_iload_n dX8_sufficientLimit_1 rfl ?_
  exact aw_fallV (as := [.int v1]) (rst := []) k_X8_requireGate l_X8_115 i_X8_requireGate s_X8_requireGate rfl o1 dX8_sufficientLimit_2 rfl (Nat.le_of_ble_eq_true rfl) hbc hbs rfl hC rfl hq
theorem bX8_sufficientLimit_5 {d mc ms : Nat} {al : Bool} {bc bs : Nat} {Γ : am_G} {I : am_I} {L : am_L} {Q : am_Q} {v0 : Nat} {v1 : Int32} {r2 : Nat} {r4 : Nat} {r7 : Nat} {n_r7 : Nat} {r11 : Nat} {I' : am_I} {L' : am_L} {mc' : Nat} {ms' : Nat} (o1 : am_ob Γ v0 8) (g3 : Γ.2.2 v0 0 = some r2) (g5 : Γ.2.2 v0 1 = some r4) (o6 : am_ob Γ r4 5) (g8 : Γ.2.2 r4 9 = some r7) (a9 : am_ar Γ r7 6 n_r7 0) (i10 : vp_in v1 n_r7) (g12 : Γ.2.2 r7 (v1.toNatClampNeg) = some r11) (o13 : am_ob Γ r2 4) (hbc : mc' ≤ bc) (hbs : ms' ≤ bs) (hC : am_E m_X4_solve d mc' ms' [.ref r2, .ref r4, .ref r11, .int 2147483647, .int (-1)] Γ I L (.inl none) I' L') (kk : am_W m_X8_sufficientLimit (d + 1) mc ms al (bc - mc') (bs - ms') 29 [(0, .ref v0), (1, .int v1)] [] Γ I' L' Q) : am_W m_X8_sufficientLimit (d + 1) mc ms al bc bs 5 [(0, .ref v0), (1, .int v1)] [] Γ I L Q := by
  refine aw_aload_n dX8_sufficientLimit_5 rfl ?_
  refine aw_getR dX8_sufficientLimit_6 f_X8_12 o1 rfl g3 ?_
  refine aw_aload_n dX8_sufficientLimit_9 rfl ?_
  refine aw_getR dX8_sufficientLimit_10 f_X8_19 o1 rfl g5 ?_
  refine aw_aload_n dX8_sufficientLimit_13 rfl ?_
  refine aw_getR dX8_sufficientLimit_14 f_X8_19 o1 rfl g5 ?_
  refine aw_getR dX8_sufficientLimit_17 f_X8_121 o6 rfl g8 ?_
  refine aw_iload_n dX8_sufficientLimit_20 rfl ?_
  refine aw_aald dX8_sufficientLimit_21 a9 i10 g12 ?_
  refine aw_ldcW dX8_sufficientLimit_22 kc_X8_314 ?_
  refine aw_iconst dX8_sufficientLimit_25 ci_m1 ?_
  exact aw_askV (as := [.ref r4, .ref r11, .int 2147483647, .int (-1)]) (rst := []) k_X4_solve l_X8_307 i_X4_solve s_X4_solve rfl o13 dX8_sufficientLimit_26 rfl (Nat.le_of_ble_eq_true rfl) hbc hbs hC rfl rfl kk
theorem bX8_sufficientLimit_29 {d mc ms : Nat} {al : Bool} {bc bs : Nat} {Γ : am_G} {I : am_I} {L : am_L} {Q : am_Q} {v0 : Nat} {v1 : Int32} {r2 : Nat} {I' : am_I} {L' : am_L} {mc' : Nat} {ms' : Nat} {r : Int32} (o1 : am_ob Γ v0 8) (g3 : Γ.2.2 v0 1 = some r2) (o4 : am_ob Γ r2 5) (hbc : mc' ≤ bc) (hbs : ms' ≤ bs) (hC : am_E m_X5_allTypes d mc' ms' [.ref r2] Γ I L (.inl (some (.int r))) I' L') (kk : am_W m_X8_sufficientLimit (d + 1) mc ms al (bc - mc') (bs - ms') 36 [(0, .ref v0), (1, .int v1)] [.int r] Γ I' L' Q) : am_W m_X8_sufficientLimit (d + 1) mc ms al bc bs 29 [(0, .ref v0), (1, .int v1)] [] Γ I L Q := by
  refine aw_aload_n dX8_sufficientLimit_29 rfl ?_
  refine aw_getR dX8_sufficientLimit_30 f_X8_19 o1 rfl g3 ?_
  exact aw_askV (as := []) (rst := []) k_X5_allTypes l_X8_160 i_X5_allTypes s_X5_allTypes rfl o4 dX8_sufficientLimit_33 rfl (Nat.le_of_ble_eq_true rfl) hbc hbs hC rfl rfl kk
theorem bX8_sufficientLimit_36 {d mc ms : Nat} {al : Bool} {bc bs : Nat} {Γ : am_G} {I : am_I} {L : am_L} {Q : am_Q} {v0 : Nat} {v1 : Int32} {w0 : Int32} {r2 : Nat} {I' : am_I} {L' : am_L} {mc' : Nat} {ms' : Nat} {r : Int64} (o1 : am_ob Γ v0 8) (g3 : Γ.2.2 v0 0 = some r2) (o4 : am_ob Γ r2 4) (hbc : mc' ≤ bc) (hbs : ms' ≤ bs) (hC : am_E m_X4_rankOf d mc' ms' [.ref r2, .int w0, .int 30] Γ I L (.inl (some (.long r))) I' L') (kk : am_W m_X8_sufficientLimit (d + 1) mc ms al (bc - mc') (bs - ms') 47 [(0, .ref v0), (1, .int v1), (2, .int w0)] [.long r] Γ I' L' Q) : am_W m_X8_sufficientLimit (d + 1) mc ms al bc bs 36 [(0, .ref v0), (1, .int v1)] [.int w0] Γ I L Q := by
  refine aw_istore_n (ls' := [(0, .ref v0), (1, .int v1), (2, .int w0)]) dX8_sufficientLimit_36 (by decide) rfl ?_
  refine aw_aload_n dX8_sufficientLimit_37 rfl ?_
  refine aw_getR dX8_sufficientLimit_38 f_X8_12 o1 rfl g3 ?_
  refine aw_iload_n dX8_sufficientLimit_41 rfl ?_
  refine aw_bipush dX8_sufficientLimit_42 cb_30 ?_
  exact aw_askV (as := [.int w0, .int 30]) (rst := []) k_X4_rankOf l_X8_311 i_X4_rankOf s_X4_rankOf rfl o4 dX8_sufficientLimit_44 rfl (Nat.le_of_ble_eq_true rfl) hbc hbs hC rfl rfl kk
theorem bX8_sufficientLimit_47 {d mc ms : Nat} {al : Bool} {bc bs : Nat} {Γ : am_G} {I : am_I} {L : am_L} {Q : am_Q} {v0 : Nat} {v1 : Int32} {v2 : Int32} {w0 : Int64} {I' : am_I} {L' : am_L} {mc' : Nat} {ms' : Nat} {r : Int32} (hbc : mc' ≤ bc) (hbs : ms' ≤ bs) (hC : am_E m_X8_errorsOf d mc' ms' [.long w0] Γ I L (.inl (some (.int r))) I' L') (kk : am_W m_X8_sufficientLimit (d + 1) mc ms al (bc - mc') (bs - ms') 50 [(0, .ref v0), (1, .int v1), (2, .int v2)] [.int r] Γ I' L' Q) : am_W m_X8_sufficientLimit (d + 1) mc ms al bc bs 47 [(0, .ref v0), (1, .int v1), (2, .int v2)] [.long w0] Γ I L Q := by
  exact aw_askS (as := [.long w0]) (rst := []) k_X8_errorsOf l_X8_297 t_X8_errorsOf dX8_sufficientLimit_47 rfl (Nat.le_of_ble_eq_true rfl) hbc hbs hC rfl rfl kk
theorem bX8_sufficientLimit_50 {d mc ms : Nat} {al : Bool} {bc bs : Nat} {Γ : am_G} {I : am_I} {L : am_L} {Q : am_Q} {v0 : Nat} {v1 : Int32} {v2 : Int32} {w0 : Int32} (kk : am_W m_X8_sufficientLimit d mc ms al bc bs 54 [(0, .ref v0), (1, .int v1), (2, .int v2), (3, .int w0), (4, .int 0)] [] Γ I L Q) : am_W m_X8_sufficientLimit d mc ms al bc bs 50 [(0, .ref v0), (1, .int v1), (2, .int v2)] [.int w0] Γ I L Q := by
  refine aw_istore_n (ls' := [(0, .ref v0), (1, .int v1), (2, .int v2), (3, .int w0)]) dX8_sufficientLimit_50 (by decide) rfl ?_
  refine aw_iconst dX8_sufficientLimit_51 ci_0 ?_
  refine aw_istore (ls' := [(0, .ref v0), (1, .int v1), (2, .int v2), (3, .int w0), (4, .int 0)]) dX8_sufficientLimit_52 (by decide) rfl ?_
  exact kk
theorem bX8_sufficientLimit_54 {d mc ms : Nat} {al : Bool} {bc bs : Nat} {Γ : am_G} {I : am_I} {L : am_L} {Q : am_Q} {v0 : Nat} {v1 : Int32} {v2 : Int32} {v3 : Int32} {v4 : Int32} (kt : 30 ≤ v4 → am_W m_X8_sufficientLimit d mc ms al bc bs 87 [(0, .ref v0), (1, .int v1), (2, .int v2), (3, .int v3), (4, .int v4)] [] Γ I L Q) (kf : ¬ 30 ≤ v4 → am_W m_X8_sufficientLimit d mc ms al bc bs 61 [(0, .ref v0), (1, .int v1), (2, .int v2), (3, .int v3), (4, .int v4)] [] Γ I L Q) : am_W m_X8_sufficientLimit d mc ms al bc bs 54 [(0, .ref v0), (1, .int v1), (2, .int v2), (3, .int v3), (4, .int v4)] [] Γ I L Q := by
  refine aw_iload dX8_sufficientLimit_54 rfl ?_
  refine aw_bipush dX8_sufficientLimit_56 cb_30 ?_
  exact aw_icmp_ge dX8_sufficientLimit_58 (by decide) kt kf
theorem bX8_sufficientLimit_61 {d mc ms : Nat} {al : Bool} {bc bs : Nat} {Γ : am_G} {I : am_I} {L : am_L} {Q : am_Q} {v0 : Nat} {v1 : Int32} {v2 : Int32} {v3 : Int32} {v4 : Int32} {r2 : Nat} {I' : am_I} {L' : am_L} {mc' : Nat} {ms' : Nat} {r : Int64} (o1 : am_ob Γ v0 8) (g3 : Γ.2.2 v0 0 = some r2) (o4 : am_ob Γ r2 4) (hbc : mc' ≤ bc) (hbs : ms' ≤ bs) (hC : am_E m_X4_rankOf d mc' ms' [.ref r2, .int v2, .int v4] Γ I L (.inl (some (.long r))) I' L') (kk : am_W m_X8_sufficientLimit (d + 1) mc ms al (bc - mc') (bs - ms') 71 [(0, .ref v0), (1, .int v1), (2, .int v2), (3, .int v3), (4, .int v4)] [.long r] Γ I' L' Q) : am_W m_X8_sufficientLimit (d + 1) mc ms al bc bs 61 [(0, .ref v0), (1, .int v1), (2, .int v2), (3, .int v3), (4, .int v4)] [] Γ I L Q := by
  refine aw_aload_n dX8_sufficientLimit_61 rfl ?_
  refine aw_getR dX8_sufficientLimit_62 f_X8_12 o1 rfl g3 ?_
  refine aw_iload_n dX8_sufficientLimit_65 rfl ?_
  refine aw_iload dX8_sufficientLimit_66 rfl ?_
  exact aw_askV (as := [.int v2, .int v4]) (rst := []) k_X4_rankOf l_X8_311 i_X4_rankOf s_X4_rankOf rfl o4 dX8_sufficientLimit_68 rfl (Nat.le_of_ble_eq_true rfl) hbc hbs hC rfl rfl kk
theorem bX8_sufficientLimit_71 {d mc ms : Nat} {al : Bool} {bc bs : Nat} {Γ : am_G} {I : am_I} {L : am_L} {Q : am_Q} {v0 : Nat} {v1 : Int32} {v2 : Int32} {v3 : Int32} {v4 : Int32} {w0 : Int64} {I' : am_I} {L' : am_L} {mc' : Nat} {ms' : Nat} {r : Int32} (hbc : mc' ≤ bc) (hbs : ms' ≤ bs) (hC : am_E m_X8_errorsOf d mc' ms' [.long w0] Γ I L (.inl (some (.int r))) I' L') (kk : am_W m_X8_sufficientLimit (d + 1) mc ms al (bc - mc') (bs - ms') 74 [(0, .ref v0), (1, .int v1), (2, .int v2), (3, .int v3), (4, .int v4)] [.int r] Γ I' L' Q) : am_W m_X8_sufficientLimit (d + 1) mc ms al bc bs 71 [(0, .ref v0), (1, .int v1), (2, .int v2), (3, .int v3), (4, .int v4)] [.long w0] Γ I L Q := by
  exact aw_askS (as := [.long w0]) (rst := []) k_X8_errorsOf l_X8_297 t_X8_errorsOf dX8_sufficientLimit_71 rfl (Nat.le_of_ble_eq_true rfl) hbc hbs hC rfl rfl kk
theorem bX8_sufficientLimit_74 {d mc ms : Nat} {al : Bool} {bc bs : Nat} {Γ : am_G} {I : am_I} {L : am_L} {Q : am_Q} {v0 : Nat} {v1 : Int32} {v2 : Int32} {v3 : Int32} {v4 : Int32} {w0 : Int32} (kt : ¬ w0 = v3 → am_W m_X8_sufficientLimit d mc ms al bc bs 81 [(0, .ref v0), (1, .int v1), (2, .int v2), (3, .int v3), (4, .int v4)] [] Γ I L Q) (kf : w0 = v3 → am_W m_X8_sufficientLimit d mc ms al bc bs 78 [(0, .ref v0), (1, .int v1), (2, .int v2), (3, .int v3), (4, .int v4)] [] Γ I L Q) : am_W m_X8_sufficientLimit d mc ms al bc bs 74 [(0, .ref v0), (1, .int v1), (2, .int v2), (3, .int v3), (4, .int v4)] [.int w0] Γ I L Q := by
  refine aw_iload_n dX8_sufficientLimit_74 rfl ?_
  exact aw_icmp_ne dX8_sufficientLimit_75 (by decide) kt kf
theorem bX8_sufficientLimit_78 {d mc ms : Nat} {al : Bool} {bc bs : Nat} {Γ : am_G} {I : am_I} {L : am_L} {Q : am_Q} {v0 : Nat} {v1 : Int32} {v2 : Int32} {v3 : Int32} {v4 : Int32} (hq : Q (.inl (some (.int v4))) Γ I L) : am_W m_X8_sufficientLimit d mc ms al bc bs 78 [(0, .ref v0), (1, .int v1), (2, .int v2), (3, .int v3), (4, .int v4)] [] Γ I L Q := by
  refine aw_iload dX8_sufficientLimit_78 rfl ?_
  exact aw_iret dX8_sufficientLimit_80 rfl hq
theorem bX8_sufficientLimit_81 {d mc ms : Nat} {al : Bool} {bc bs : Nat} {Γ : am_G} {I : am_I} {L : am_L} {Q : am_Q} {v0 : Nat} {v1 : Int32} {v2 : Int32} {v3 : Int32} {v4 : Int32} (kk : am_W m_X8_sufficientLimit d mc ms al bc bs 54 [(0, .ref v0), (1, .int v1), (2, .int v2), (3, .int v3), (4, .int (v4 + 1))] [] Γ I L Q) : am_W m_X8_sufficientLimit d mc ms al bc bs 81 [(0, .ref v0), (1, .int v1), (2, .int v2), (3, .int v3), (4, .int v4)] [] Γ I L Q := by
  refine aw_iinc (ls' := [(0, .ref v0), (1, .int v1), (2, .int v2), (3, .int v3), (4, .int (v4 + 1))]) dX8_sufficientLimit_81 rfl (cn_1 _) (by decide) rfl ?_
  exact aw_goto dX8_sufficientLimit_84 (by decide) kk
theorem bX8_sufficientLimit_87 {d mc ms : Nat} {al : Bool} {bc bs : Nat} {Γ : am_G} {I : am_I} {L : am_L} {Q : am_Q} {v0 : Nat} {v1 : Int32} {v2 : Int32} {v3 : Int32} {v4 : Int32} (hq : Q (.inl (some (.int 30))) Γ I L) : am_W m_X8_sufficientLimit d mc ms al bc bs 87 [(0, .ref v0), (1, .int v1), (2, .int v2), (3, .int v3), (4, .int v4)] [] Γ I L Q := by
  refine aw_bipush dX8_sufficientLimit_87 cb_30 ?_
  exact aw_iret dX8_sufficientLimit_89 rfl hq
theorem dX8_stalestGate_0 : decode cX8_stalestGate 0 = .ok (.iconst (-1), 1) := by decide +kernel
theorem dX8_stalestGate_1 : decode cX8_stalestGate 1 = .ok (.istore_n 1, 1) := by decide +kernel
theorem dX8_stalestGate_2 : decode cX8_stalestGate 2 = .ok (.iconst 0, 1) := by decide +kernel
theorem dX8_stalestGate_3 : decode cX8_stalestGate 3 = .ok (.istore_n 2, 1) := by decide +kernel
theorem dX8_stalestGate_4 : decode cX8_stalestGate 4 = .ok (.iconst 0, 1) := by decide +kernel
theorem dX8_stalestGate_5 : decode cX8_stalestGate 5 = .ok (.istore_n 3, 1) := by decide +kernel
theorem dX8_stalestGate_6 : decode cX8_stalestGate 6 = .ok (.iconst 0, 1) := by decide +kernel
theorem dX8_stalestGate_7 : decode cX8_stalestGate 7 = .ok (.istore 4, 2) := by decide +kernel
theorem dX8_stalestGate_9 : decode cX8_stalestGate 9 = .ok (.iload 4, 2) := by decide +kernel
theorem dX8_stalestGate_11 : decode cX8_stalestGate 11 = .ok (.aload_n 0, 1) := by decide +kernel
theorem dX8_stalestGate_12 : decode cX8_stalestGate 12 = .ok (.getfield 19, 3) := by decide +kernel
theorem dX8_stalestGate_15 : decode cX8_stalestGate 15 = .ok (.getfield 187, 3) := by decide +kernel
theorem dX8_stalestGate_18 : decode cX8_stalestGate 18 = .ok (.if_icmp .ge 91, 3) := by decide +kernel
theorem dX8_stalestGate_21 : decode cX8_stalestGate 21 = .ok (.aload_n 0, 1) := by decide +kernel
theorem dX8_stalestGate_22 : decode cX8_stalestGate 22 = .ok (.iload 4, 2) := by decide +kernel
theorem dX8_stalestGate_24 : decode cX8_stalestGate 24 = .ok (.aload_n 0, 1) := by decide +kernel
theorem dX8_stalestGate_25 : decode cX8_stalestGate 25 = .ok (.getfield 19, 3) := by decide +kernel
theorem dX8_stalestGate_28 : decode cX8_stalestGate 28 = .ok (.getfield 121, 3) := by decide +kernel
theorem dX8_stalestGate_31 : decode cX8_stalestGate 31 = .ok (.iload 4, 2) := by decide +kernel
theorem dX8_stalestGate_33 : decode cX8_stalestGate 33 = .ok (.aaload, 1) := by decide +kernel
theorem dX8_stalestGate_34 : decode cX8_stalestGate 34 = .ok (.getfield 171, 3) := by decide +kernel
theorem dX8_stalestGate_37 : decode cX8_stalestGate 37 = .ok (.invokevirtual 293, 3) := by decide +kernel
theorem dX8_stalestGate_40 : decode cX8_stalestGate 40 = .ok (.lstore 5, 2) := by decide +kernel
theorem dX8_stalestGate_42 : decode cX8_stalestGate 42 = .ok (.aload_n 0, 1) := by decide +kernel
theorem dX8_stalestGate_43 : decode cX8_stalestGate 43 = .ok (.getfield 19, 3) := by decide +kernel
theorem dX8_stalestGate_46 : decode cX8_stalestGate 46 = .ok (.iload 4, 2) := by decide +kernel
theorem dX8_stalestGate_48 : decode cX8_stalestGate 48 = .ok (.invokevirtual 281, 3) := by decide +kernel
theorem dX8_stalestGate_51 : decode cX8_stalestGate 51 = .ok (.lload 5, 2) := by decide +kernel
theorem dX8_stalestGate_53 : decode cX8_stalestGate 53 = .ok (.invokestatic 297, 3) := by decide +kernel
theorem dX8_stalestGate_56 : decode cX8_stalestGate 56 = .ok (.isub, 1) := by decide +kernel
theorem dX8_stalestGate_57 : decode cX8_stalestGate 57 = .ok (.istore 7, 2) := by decide +kernel
theorem dX8_stalestGate_59 : decode cX8_stalestGate 59 = .ok (.aload_n 0, 1) := by decide +kernel
theorem dX8_stalestGate_60 : decode cX8_stalestGate 60 = .ok (.getfield 19, 3) := by decide +kernel
theorem dX8_stalestGate_63 : decode cX8_stalestGate 63 = .ok (.iload 4, 2) := by decide +kernel
theorem dX8_stalestGate_65 : decode cX8_stalestGate 65 = .ok (.invokevirtual 284, 3) := by decide +kernel
theorem dX8_stalestGate_68 : decode cX8_stalestGate 68 = .ok (.lload 5, 2) := by decide +kernel
theorem dX8_stalestGate_70 : decode cX8_stalestGate 70 = .ok (.invokestatic 301, 3) := by decide +kernel
theorem dX8_stalestGate_73 : decode cX8_stalestGate 73 = .ok (.isub, 1) := by decide +kernel
theorem dX8_stalestGate_74 : decode cX8_stalestGate 74 = .ok (.istore 8, 2) := by decide +kernel
theorem dX8_stalestGate_76 : decode cX8_stalestGate 76 = .ok (.iload 7, 2) := by decide +kernel
theorem dX8_stalestGate_78 : decode cX8_stalestGate 78 = .ok (.iload_n 2, 1) := by decide +kernel
theorem dX8_stalestGate_79 : decode cX8_stalestGate 79 = .ok (.if_icmp .gt 15, 3) := by decide +kernel
theorem dX8_stalestGate_82 : decode cX8_stalestGate 82 = .ok (.iload 7, 2) := by decide +kernel
theorem dX8_stalestGate_84 : decode cX8_stalestGate 84 = .ok (.iload_n 2, 1) := by decide +kernel
theorem dX8_stalestGate_85 : decode cX8_stalestGate 85 = .ok (.if_icmp .ne 18, 3) := by decide +kernel
theorem dX8_stalestGate_88 : decode cX8_stalestGate 88 = .ok (.iload 8, 2) := by decide +kernel
theorem dX8_stalestGate_90 : decode cX8_stalestGate 90 = .ok (.iload_n 3, 1) := by decide +kernel
theorem dX8_stalestGate_91 : decode cX8_stalestGate 91 = .ok (.if_icmp .le 12, 3) := by decide +kernel
theorem dX8_stalestGate_94 : decode cX8_stalestGate 94 = .ok (.iload 4, 2) := by decide +kernel
theorem dX8_stalestGate_96 : decode cX8_stalestGate 96 = .ok (.istore_n 1, 1) := by decide +kernel
theorem dX8_stalestGate_97 : decode cX8_stalestGate 97 = .ok (.iload 7, 2) := by decide +kernel
theorem dX8_stalestGate_99 : decode cX8_stalestGate 99 = .ok (.istore_n 2, 1) := by decide +kernel
theorem dX8_stalestGate_100 : decode cX8_stalestGate 100 = .ok (.iload 8, 2) := by decide +kernel
theorem dX8_stalestGate_102 : decode cX8_stalestGate 102 = .ok (.istore_n 3, 1) := by decide +kernel
theorem dX8_stalestGate_103 : decode cX8_stalestGate 103 = .ok (.iinc 4 1, 3) := by decide +kernel
theorem dX8_stalestGate_106 : decode cX8_stalestGate 106 = .ok (.goto (-97), 3) := by decide +kernel
theorem dX8_stalestGate_109 : decode cX8_stalestGate 109 = .ok (.iload_n 1, 1) := by decide +kernel
theorem dX8_stalestGate_110 : decode cX8_stalestGate 110 = .ok (.ireturn, 1) := by decide +kernel
theorem bX8_stalestGate_0 {d mc ms : Nat} {al : Bool} {bc bs : Nat} {Γ : am_G} {I : am_I} {L : am_L} {Q : am_Q} {v0 : Nat} (kk : am_W m_X8_stalestGate d mc ms al bc bs 9 [(0, .ref v0), (1, .int (-1)), (2, .int 0), (3, .int 0), (4, .int 0)] [] Γ I L Q) : am_W m_X8_stalestGate d mc ms al bc bs 0 [(0, .ref v0)] [] Γ I L Q := by
  refine aw_iconst dX8_stalestGate_0 ci_m1 ?_
  refine aw_istore_n (ls' := [(0, .ref v0), (1, .int (-1))]) dX8_stalestGate_1 (by decide) rfl ?_
  refine aw_iconst dX8_stalestGate_2 ci_0 ?_
  refine aw_istore_n (ls' := [(0, .ref v0), (1, .int (-1)), (2, .int 0)]) dX8_stalestGate_3 (by decide) rfl ?_
  refine aw_iconst dX8_stalestGate_4 ci_0 ?_
  refine aw_istore_n (ls' := [(0, .ref v0), (1, .int (-1)), (2, .int 0), (3, .int 0)]) dX8_stalestGate_5 (by decide) rfl ?_
  refine aw_iconst dX8_stalestGate_6 ci_0 ?_
  refine aw_istore (ls' := [(0, .ref v0), (1, .int (-1)), (2, .int 0), (3, .int 0), (4, .int 0)]) dX8_stalestGate_7 (by decide) rfl ?_
  exact kk
theorem bX8_stalestGate_9 {d mc ms : Nat} {al : Bool} {bc bs : Nat} {Γ : am_G} {I : am_I} {L : am_L} {Q : am_Q} {v0 : Nat} {v1 : Int32} {v2 : Int32} {v3 : Int32} {v4 : Int32} {r2 : Nat} (o1 : am_ob Γ v0 8) (g3 : Γ.2.2 v0 1 = some r2) (o4 : am_ob Γ r2 5) (kt : (I r2 2) ≤ v4 → am_W m_X8_stalestGate d mc ms al bc bs 109 [(0, .ref v0), (1, .int v1), (2, .int v2), (3, .int v3), (4, .int v4)] [] Γ I L Q) (kf : ¬ (I r2 2) ≤ v4 → am_W m_X8_stalestGate d mc ms al bc bs 21 [(0, .ref v0), (1, .int v1), (2, .int v2), (3, .int v3), (4, .int v4)] [] Γ I L Q) : am_W m_X8_stalestGate d mc ms al bc bs 9 [(0, .ref v0), (1, .int v1), (2, .int v2), (3, .int v3), (4, .int v4)] [] Γ I L Q := by
  refine aw_iload dX8_stalestGate_9 rfl ?_
  refine aw_aload_n dX8_stalestGate_11 rfl ?_
  refine aw_getR dX8_stalestGate_12 f_X8_19 o1 rfl g3 ?_
  refine aw_getI dX8_stalestGate_15 f_X8_187 o4 rfl ?_
  exact aw_icmp_ge dX8_stalestGate_18 (by decide) kt kf
theorem bX8_stalestGate_21 {d mc ms : Nat} {al : Bool} {bc bs : Nat} {Γ : am_G} {I : am_I} {L : am_L} {Q : am_Q} {v0 : Nat} {v1 : Int32} {v2 : Int32} {v3 : Int32} {v4 : Int32} {r2 : Nat} {r5 : Nat} {n_r5 : Nat} {r9 : Nat} {I' : am_I} {L' : am_L} {mc' : Nat} {ms' : Nat} {r : Int64} (o1 : am_ob Γ v0 8) (g3 : Γ.2.2 v0 1 = some r2) (o4 : am_ob Γ r2 5) (g6 : Γ.2.2 r2 9 = some r5) (a7 : am_ar Γ r5 6 n_r5 0) (i8 : vp_in v4 n_r5) (g10 : Γ.2.2 r5 (v4.toNatClampNeg) = some r9) (o11 : am_ob Γ r9 0) (hbc : mc' ≤ bc) (hbs : ms' ≤ bs) (hC : am_E m_X8_bestRank d mc' ms' [.ref v0, .int v4, .int (I r9 3)] Γ I L (.inl (some (.long r))) I' L') (kk : am_W m_X8_stalestGate (d + 1) mc ms al (bc - mc') (bs - ms') 40 [(0, .ref v0), (1, .int v1), (2, .int v2), (3, .int v3), (4, .int v4)] [.long r] Γ I' L' Q) : am_W m_X8_stalestGate (d + 1) mc ms al bc bs 21 [(0, .ref v0), (1, .int v1), (2, .int v2), (3, .int v3), (4, .int v4)] [] Γ I L Q := by
  refine aw_aload_n dX8_stalestGate_21 rfl ?_
  refine aw_iload dX8_stalestGate_22 rfl ?_
  refine aw_aload_n dX8_stalestGate_24 rfl ?_
  refine aw_getR dX8_stalestGate_25 f_X8_19 o1 rfl g3 ?_
  refine aw_getR dX8_stalestGate_28 f_X8_121 o4 rfl g6 ?_
  refine aw_iload dX8_stalestGate_31 rfl ?_
  refine aw_aald dX8_stalestGate_33 a7 i8 g10 ?_
  refine aw_getI dX8_stalestGate_34 f_X8_171 o11 rfl ?_
  exact aw_askV (as := [.int v4, .int (I r9 3)]) (rst := []) k_X8_bestRank l_X8_293 i_X8_bestRank s_X8_bestRank rfl o1 dX8_stalestGate_37 rfl (Nat.le_of_ble_eq_true rfl) hbc hbs hC rfl rfl kk
theorem bX8_stalestGate_21x {d mc ms : Nat} {al : Bool} {bc bs : Nat} {Γ : am_G} {I : am_I} {L : am_L} {Q : am_Q} {v0 : Nat} {v1 : Int32} {v2 : Int32} {v3 : Int32} {v4 : Int32} {r2 : Nat} {r5 : Nat} {n_r5 : Nat} {r9 : Nat} {I' : am_I} {L' : am_L} {mc' : Nat} {ms' : Nat} {E : String} (o1 : am_ob Γ v0 8) (g3 : Γ.2.2 v0 1 = some r2) (o4 : am_ob Γ r2 5) (g6 : Γ.2.2 r2 9 = some r5) (a7 : am_ar Γ r5 6 n_r5 0) (i8 : vp_in v4 n_r5) (g10 : Γ.2.2 r5 (v4.toNatClampNeg) = some r9) (o11 : am_ob Γ r9 0) (hbc : mc' ≤ bc) (hbs : ms' ≤ bs) (hC : am_E m_X8_bestRank d mc' ms' [.ref v0, .int v4, .int (I r9 3)] Γ I L (.inr E) I' L') (hq : Q (.inr E) Γ I' L') : am_W m_X8_stalestGate (d + 1) mc ms al bc bs 21 [(0, .ref v0), (1, .int v1), (2, .int v2), (3, .int v3), (4, .int v4)] [] Γ I L Q := by
  refine aw_aload_n dX8_stalestGate_21 rfl ?_
  refine aw_iload dX8_stalestGate_22 rfl ?_
  refine aw_aload_n dX8_stalestGate_24 rfl ?_
  refine aw_getR dX8_stalestGate_25 f_X8_19 o1 rfl g3 ?_
  refine aw_getR dX8_stalestGate_28 f_X8_121 o4 rfl g6 ?_
  refine aw_iload dX8_stalestGate_31 rfl ?_
  refine aw_aald dX8_stalestGate_33 a7 i8 g10 ?_
  refine aw_getI dX8_stalestGate_34 f_X8_171 o11 rfl ?_
  exact aw_fallV (as := [.int v4, .int (I r9 3)]) (rst := []) k_X8_bestRank l_X8_293 i_X8_bestRank s_X8_bestRank rfl o1 dX8_stalestGate_37 rfl (Nat.le_of_ble_eq_true rfl) hbc hbs rfl hC rfl hq
theorem bX8_stalestGate_40 {d mc ms : Nat} {al : Bool} {bc bs : Nat} {Γ : am_G} {I : am_I} {L : am_L} {Q : am_Q} {v0 : Nat} {v1 : Int32} {v2 : Int32} {v3 : Int32} {v4 : Int32} {w0 : Int64} {r2 : Nat} {I' : am_I} {L' : am_L} {mc' : Nat} {ms' : Nat} {r : Int32} (o1 : am_ob Γ v0 8) (g3 : Γ.2.2 v0 1 = some r2) (o4 : am_ob Γ r2 5) (hbc : mc' ≤ bc) (hbs : ms' ≤ bs) (hC : am_E m_X5_errorsNow d mc' ms' [.ref r2, .int v4] Γ I L (.inl (some (.int r))) I' L') (kk : am_W m_X8_stalestGate (d + 1) mc ms al (bc - mc') (bs - ms') 51 [(0, .ref v0), (1, .int v1), (2, .int v2), (3, .int v3), (4, .int v4), (5, .long w0)] [.int r] Γ I' L' Q) : am_W m_X8_stalestGate (d + 1) mc ms al bc bs 40 [(0, .ref v0), (1, .int v1), (2, .int v2), (3, .int v3), (4, .int v4)] [.long w0] Γ I L Q := by
  refine aw_lstore (ls' := [(0, .ref v0), (1, .int v1), (2, .int v2), (3, .int v3), (4, .int v4), (5, .long w0)]) dX8_stalestGate_40 (by decide) rfl ?_
  refine aw_aload_n dX8_stalestGate_42 rfl ?_
  refine aw_getR dX8_stalestGate_43 f_X8_19 o1 rfl g3 ?_
  refine aw_iload dX8_stalestGate_46 rfl ?_
  exact aw_askV (as := [.int v4]) (rst := []) k_X5_errorsNow l_X8_281 i_X5_errorsNow s_X5_errorsNow rfl o4 dX8_stalestGate_48 rfl (Nat.le_of_ble_eq_true rfl) hbc hbs hC rfl rfl kk
theorem bX8_stalestGate_51 {d mc ms : Nat} {al : Bool} {bc bs : Nat} {Γ : am_G} {I : am_I} {L : am_L} {Q : am_Q} {v0 : Nat} {v1 : Int32} {v2 : Int32} {v3 : Int32} {v4 : Int32} {v5 : Int64} {w0 : Int32} {I' : am_I} {L' : am_L} {mc' : Nat} {ms' : Nat} {r : Int32} (hbc : mc' ≤ bc) (hbs : ms' ≤ bs) (hC : am_E m_X8_errorsOf d mc' ms' [.long v5] Γ I L (.inl (some (.int r))) I' L') (kk : am_W m_X8_stalestGate (d + 1) mc ms al (bc - mc') (bs - ms') 56 [(0, .ref v0), (1, .int v1), (2, .int v2), (3, .int v3), (4, .int v4), (5, .long v5)] [.int r, .int w0] Γ I' L' Q) : am_W m_X8_stalestGate (d + 1) mc ms al bc bs 51 [(0, .ref v0), (1, .int v1), (2, .int v2), (3, .int v3), (4, .int v4), (5, .long v5)] [.int w0] Γ I L Q := by
  refine aw_lload dX8_stalestGate_51 rfl ?_
  exact aw_askS (as := [.long v5]) (rst := [.int w0]) k_X8_errorsOf l_X8_297 t_X8_errorsOf dX8_stalestGate_53 rfl (Nat.le_of_ble_eq_true rfl) hbc hbs hC rfl rfl kk
theorem bX8_stalestGate_56 {d mc ms : Nat} {al : Bool} {bc bs : Nat} {Γ : am_G} {I : am_I} {L : am_L} {Q : am_Q} {v0 : Nat} {v1 : Int32} {v2 : Int32} {v3 : Int32} {v4 : Int32} {v5 : Int64} {w0 : Int32} {w1 : Int32} {r2 : Nat} {I' : am_I} {L' : am_L} {mc' : Nat} {ms' : Nat} {r : Int32} (o1 : am_ob Γ v0 8) (g3 : Γ.2.2 v0 1 = some r2) (o4 : am_ob Γ r2 5) (hbc : mc' ≤ bc) (hbs : ms' ≤ bs) (hC : am_E m_X5_workNow d mc' ms' [.ref r2, .int v4] Γ I L (.inl (some (.int r))) I' L') (kk : am_W m_X8_stalestGate (d + 1) mc ms al (bc - mc') (bs - ms') 68 [(0, .ref v0), (1, .int v1), (2, .int v2), (3, .int v3), (4, .int v4), (5, .long v5), (7, .int (w0 - w1))] [.int r] Γ I' L' Q) : am_W m_X8_stalestGate (d + 1) mc ms al bc bs 56 [(0, .ref v0), (1, .int v1), (2, .int v2), (3, .int v3), (4, .int v4), (5, .long v5)] [.int w1, .int w0] Γ I L Q := by
  refine aw_isub dX8_stalestGate_56 ?_
  refine aw_istore (ls' := [(0, .ref v0), (1, .int v1), (2, .int v2), (3, .int v3), (4, .int v4), (5, .long v5), (7, .int (w0 - w1))]) dX8_stalestGate_57 (by decide) rfl ?_
  refine aw_aload_n dX8_stalestGate_59 rfl ?_
  refine aw_getR dX8_stalestGate_60 f_X8_19 o1 rfl g3 ?_
  refine aw_iload dX8_stalestGate_63 rfl ?_
  exact aw_askV (as := [.int v4]) (rst := []) k_X5_workNow l_X8_284 i_X5_workNow s_X5_workNow rfl o4 dX8_stalestGate_65 rfl (Nat.le_of_ble_eq_true rfl) hbc hbs hC rfl rfl kk
theorem bX8_stalestGate_68 {d mc ms : Nat} {al : Bool} {bc bs : Nat} {Γ : am_G} {I : am_I} {L : am_L} {Q : am_Q} {v0 : Nat} {v1 : Int32} {v2 : Int32} {v3 : Int32} {v4 : Int32} {v5 : Int64} {v7 : Int32} {w0 : Int32} {I' : am_I} {L' : am_L} {mc' : Nat} {ms' : Nat} {r : Int32} (hbc : mc' ≤ bc) (hbs : ms' ≤ bs) (hC : am_E m_X8_workOf d mc' ms' [.long v5] Γ I L (.inl (some (.int r))) I' L') (kk : am_W m_X8_stalestGate (d + 1) mc ms al (bc - mc') (bs - ms') 73 [(0, .ref v0), (1, .int v1), (2, .int v2), (3, .int v3), (4, .int v4), (5, .long v5), (7, .int v7)] [.int r, .int w0] Γ I' L' Q) : am_W m_X8_stalestGate (d + 1) mc ms al bc bs 68 [(0, .ref v0), (1, .int v1), (2, .int v2), (3, .int v3), (4, .int v4), (5, .long v5), (7, .int v7)] [.int w0] Γ I L Q := by
  refine aw_lload dX8_stalestGate_68 rfl ?_
  exact aw_askS (as := [.long v5]) (rst := [.int w0]) k_X8_workOf l_X8_301 t_X8_workOf dX8_stalestGate_70 rfl (Nat.le_of_ble_eq_true rfl) hbc hbs hC rfl rfl kk
theorem bX8_stalestGate_73 {d mc ms : Nat} {al : Bool} {bc bs : Nat} {Γ : am_G} {I : am_I} {L : am_L} {Q : am_Q} {v0 : Nat} {v1 : Int32} {v2 : Int32} {v3 : Int32} {v4 : Int32} {v5 : Int64} {v7 : Int32} {w0 : Int32} {w1 : Int32} (kt : v2 < v7 → am_W m_X8_stalestGate d mc ms al bc bs 94 [(0, .ref v0), (1, .int v1), (2, .int v2), (3, .int v3), (4, .int v4), (5, .long v5), (7, .int v7), (8, .int (w0 - w1))] [] Γ I L Q) (kf : ¬ v2 < v7 → am_W m_X8_stalestGate d mc ms al bc bs 82 [(0, .ref v0), (1, .int v1), (2, .int v2), (3, .int v3), (4, .int v4), (5, .long v5), (7, .int v7), (8, .int (w0 - w1))] [] Γ I L Q) : am_W m_X8_stalestGate d mc ms al bc bs 73 [(0, .ref v0), (1, .int v1), (2, .int v2), (3, .int v3), (4, .int v4), (5, .long v5), (7, .int v7)] [.int w1, .int w0] Γ I L Q := by
  refine aw_isub dX8_stalestGate_73 ?_
  refine aw_istore (ls' := [(0, .ref v0), (1, .int v1), (2, .int v2), (3, .int v3), (4, .int v4), (5, .long v5), (7, .int v7), (8, .int (w0 - w1))]) dX8_stalestGate_74 (by decide) rfl ?_
  refine aw_iload dX8_stalestGate_76 rfl ?_
  refine aw_iload_n dX8_stalestGate_78 rfl ?_
  exact aw_icmp_gt dX8_stalestGate_79 (by decide) kt kf
theorem bX8_stalestGate_82 {d mc ms : Nat} {al : Bool} {bc bs : Nat} {Γ : am_G} {I : am_I} {L : am_L} {Q : am_Q} {v0 : Nat} {v1 : Int32} {v2 : Int32} {v3 : Int32} {v4 : Int32} {v5 : Int64} {v7 : Int32} {v8 : Int32} (kt : ¬ v7 = v2 → am_W m_X8_stalestGate d mc ms al bc bs 103 [(0, .ref v0), (1, .int v1), (2, .int v2), (3, .int v3), (4, .int v4), (5, .long v5), (7, .int v7), (8, .int v8)] [] Γ I L Q) (kf : v7 = v2 → am_W m_X8_stalestGate d mc ms al bc bs 88 [(0, .ref v0), (1, .int v1), (2, .int v2), (3, .int v3), (4, .int v4), (5, .long v5), (7, .int v7), (8, .int v8)] [] Γ I L Q) : am_W m_X8_stalestGate d mc ms al bc bs 82 [(0, .ref v0), (1, .int v1), (2, .int v2), (3, .int v3), (4, .int v4), (5, .long v5), (7, .int v7), (8, .int v8)] [] Γ I L Q := by
  refine aw_iload dX8_stalestGate_82 rfl ?_
  refine aw_iload_n dX8_stalestGate_84 rfl ?_
  exact aw_icmp_ne dX8_stalestGate_85 (by decide) kt kf
theorem bX8_stalestGate_88 {d mc ms : Nat} {al : Bool} {bc bs : Nat} {Γ : am_G} {I : am_I} {L : am_L} {Q : am_Q} {v0 : Nat} {v1 : Int32} {v2 : Int32} {v3 : Int32} {v4 : Int32} {v5 : Int64} {v7 : Int32} {v8 : Int32} (kt : v8 ≤ v3 → am_W m_X8_stalestGate d mc ms al bc bs 103 [(0, .ref v0), (1, .int v1), (2, .int v2), (3, .int v3), (4, .int v4), (5, .long v5), (7, .int v7), (8, .int v8)] [] Γ I L Q) (kf : ¬ v8 ≤ v3 → am_W m_X8_stalestGate d mc ms al bc bs 94 [(0, .ref v0), (1, .int v1), (2, .int v2), (3, .int v3), (4, .int v4), (5, .long v5), (7, .int v7), (8, .int v8)] [] Γ I L Q) : am_W m_X8_stalestGate d mc ms al bc bs 88 [(0, .ref v0), (1, .int v1), (2, .int v2), (3, .int v3), (4, .int v4), (5, .long v5), (7, .int v7), (8, .int v8)] [] Γ I L Q := by
  refine aw_iload dX8_stalestGate_88 rfl ?_
  refine aw_iload_n dX8_stalestGate_90 rfl ?_
  exact aw_icmp_le dX8_stalestGate_91 (by decide) kt kf
theorem bX8_stalestGate_94 {d mc ms : Nat} {al : Bool} {bc bs : Nat} {Γ : am_G} {I : am_I} {L : am_L} {Q : am_Q} {v0 : Nat} {v1 : Int32} {v2 : Int32} {v3 : Int32} {v4 : Int32} {v5 : Int64} {v7 : Int32} {v8 : Int32} (kk : am_W m_X8_stalestGate d mc ms al bc bs 103 [(0, .ref v0), (1, .int v4), (2, .int v7), (3, .int v8), (4, .int v4), (5, .long v5), (7, .int v7), (8, .int v8)] [] Γ I L Q) : am_W m_X8_stalestGate d mc ms al bc bs 94 [(0, .ref v0), (1, .int v1), (2, .int v2), (3, .int v3), (4, .int v4), (5, .long v5), (7, .int v7), (8, .int v8)] [] Γ I L Q := by
  refine aw_iload dX8_stalestGate_94 rfl ?_
  refine aw_istore_n (ls' := [(0, .ref v0), (1, .int v4), (2, .int v2), (3, .int v3), (4, .int v4), (5, .long v5), (7, .int v7), (8, .int v8)]) dX8_stalestGate_96 (by decide) rfl ?_
  refine aw_iload dX8_stalestGate_97 rfl ?_
  refine aw_istore_n (ls' := [(0, .ref v0), (1, .int v4), (2, .int v7), (3, .int v3), (4, .int v4), (5, .long v5), (7, .int v7), (8, .int v8)]) dX8_stalestGate_99 (by decide) rfl ?_
  refine aw_iload dX8_stalestGate_100 rfl ?_
  refine aw_istore_n (ls' := [(0, .ref v0), (1, .int v4), (2, .int v7), (3, .int v8), (4, .int v4), (5, .long v5), (7, .int v7), (8, .int v8)]) dX8_stalestGate_102 (by decide) rfl ?_
  exact kk
theorem bX8_stalestGate_103 {d mc ms : Nat} {al : Bool} {bc bs : Nat} {Γ : am_G} {I : am_I} {L : am_L} {Q : am_Q} {v0 : Nat} {v1 : Int32} {v2 : Int32} {v3 : Int32} {v4 : Int32} {v5 : Int64} {v7 : Int32} {v8 : Int32} (kk : am_W m_X8_stalestGate d mc ms al bc bs 9 [(0, .ref v0), (1, .int v1), (2, .int v2), (3, .int v3), (4, .int (v4 + 1)), (5, .long v5), (7, .int v7), (8, .int v8)] [] Γ I L Q) : am_W m_X8_stalestGate d mc ms al bc bs 103 [(0, .ref v0), (1, .int v1), (2, .int v2), (3, .int v3), (4, .int v4), (5, .long v5), (7, .int v7), (8, .int v8)] [] Γ I L Q := by
  refine aw_iinc (ls' := [(0, .ref v0), (1, .int v1), (2, .int v2), (3, .int v3), (4, .int (v4 + 1)), (5, .long v5), (7, .int v7), (8, .int v8)]) dX8_stalestGate_103 rfl (cn_1 _) (by decide) rfl ?_
  exact aw_goto dX8_stalestGate_106 (by decide) kk
theorem bX8_stalestGate_109 {d mc ms : Nat} {al : Bool} {bc bs : Nat} {Γ : am_G} {I : am_I} {L : am_L} {Q : am_Q} {v0 : Nat} {v1 : Int32} {v2 : Int32} {v3 : Int32} {v4 : Int32} (hq : Q (.inl (some (.int v1))) Γ I L) : am_W m_X8_stalestGate d mc ms al bc bs 109 [(0, .ref v0), (1, .int v1), (2, .int v2), (3, .int v3), (4, .int v4)] [] Γ I L Q := by
  refine aw_iload_n dX8_stalestGate_109 rfl ?_
  exact aw_iret dX8_stalestGate_110 rfl hq
theorem dX8_quickestGate_0 : decode cX8_quickestGate 0 = .ok (.aload_n 0, 1) := by decide +kernel
theorem dX8_quickestGate_1 : decode cX8_quickestGate 1 = .ok (.iload_n 1, 1) := by decide +kernel
theorem dX8_quickestGate_2 : decode cX8_quickestGate 2 = .ok (.invokevirtual 118, 3) := by decide +kernel
theorem dX8_quickestGate_5 : decode cX8_quickestGate 5 = .ok (.iconst (-1), 1) := by decide +kernel
theorem dX8_quickestGate_6 : decode cX8_quickestGate 6 = .ok (.istore_n 2, 1) := by decide +kernel
theorem dX8_quickestGate_7 : decode cX8_quickestGate 7 = .ok (.iconst 0, 1) := by decide +kernel
theorem dX8_quickestGate_8 : decode cX8_quickestGate 8 = .ok (.istore_n 3, 1) := by decide +kernel
theorem dX8_quickestGate_9 : decode cX8_quickestGate 9 = .ok (.iconst 0, 1) := by decide +kernel
theorem dX8_quickestGate_10 : decode cX8_quickestGate 10 = .ok (.istore 4, 2) := by decide +kernel
theorem dX8_quickestGate_12 : decode cX8_quickestGate 12 = .ok (.iconst 0, 1) := by decide +kernel
theorem dX8_quickestGate_13 : decode cX8_quickestGate 13 = .ok (.istore 5, 2) := by decide +kernel
theorem dX8_quickestGate_15 : decode cX8_quickestGate 15 = .ok (.iload 5, 2) := by decide +kernel
theorem dX8_quickestGate_17 : decode cX8_quickestGate 17 = .ok (.aload_n 0, 1) := by decide +kernel
theorem dX8_quickestGate_18 : decode cX8_quickestGate 18 = .ok (.getfield 19, 3) := by decide +kernel
theorem dX8_quickestGate_21 : decode cX8_quickestGate 21 = .ok (.getfield 187, 3) := by decide +kernel
theorem dX8_quickestGate_24 : decode cX8_quickestGate 24 = .ok (.if_icmp .ge 100, 3) := by decide +kernel
theorem dX8_quickestGate_27 : decode cX8_quickestGate 27 = .ok (.aload_n 0, 1) := by decide +kernel
theorem dX8_quickestGate_28 : decode cX8_quickestGate 28 = .ok (.getfield 19, 3) := by decide +kernel
theorem dX8_quickestGate_31 : decode cX8_quickestGate 31 = .ok (.getfield 121, 3) := by decide +kernel
theorem dX8_quickestGate_34 : decode cX8_quickestGate 34 = .ok (.iload 5, 2) := by decide +kernel
theorem dX8_quickestGate_36 : decode cX8_quickestGate 36 = .ok (.aaload, 1) := by decide +kernel
theorem dX8_quickestGate_37 : decode cX8_quickestGate 37 = .ok (.aload_n 0, 1) := by decide +kernel
theorem dX8_quickestGate_38 : decode cX8_quickestGate 38 = .ok (.getfield 19, 3) := by decide +kernel
theorem dX8_quickestGate_41 : decode cX8_quickestGate 41 = .ok (.invokevirtual 125, 3) := by decide +kernel
theorem dX8_quickestGate_44 : decode cX8_quickestGate 44 = .ok (.invokevirtual 128, 3) := by decide +kernel
theorem dX8_quickestGate_47 : decode cX8_quickestGate 47 = .ok (.ifCond .ne 6, 3) := by decide +kernel
theorem dX8_quickestGate_50 : decode cX8_quickestGate 50 = .ok (.goto 68, 3) := by decide +kernel
theorem dX8_quickestGate_53 : decode cX8_quickestGate 53 = .ok (.aload_n 0, 1) := by decide +kernel
theorem dX8_quickestGate_54 : decode cX8_quickestGate 54 = .ok (.getfield 19, 3) := by decide +kernel
theorem dX8_quickestGate_57 : decode cX8_quickestGate 57 = .ok (.iload 5, 2) := by decide +kernel
theorem dX8_quickestGate_59 : decode cX8_quickestGate 59 = .ok (.iload_n 1, 1) := by decide +kernel
theorem dX8_quickestGate_60 : decode cX8_quickestGate 60 = .ok (.invokevirtual 277, 3) := by decide +kernel
theorem dX8_quickestGate_63 : decode cX8_quickestGate 63 = .ok (.istore 6, 2) := by decide +kernel
theorem dX8_quickestGate_65 : decode cX8_quickestGate 65 = .ok (.aload_n 0, 1) := by decide +kernel
theorem dX8_quickestGate_66 : decode cX8_quickestGate 66 = .ok (.getfield 19, 3) := by decide +kernel
theorem dX8_quickestGate_69 : decode cX8_quickestGate 69 = .ok (.getfield 121, 3) := by decide +kernel
theorem dX8_quickestGate_72 : decode cX8_quickestGate 72 = .ok (.iload 5, 2) := by decide +kernel
theorem dX8_quickestGate_74 : decode cX8_quickestGate 74 = .ok (.aaload, 1) := by decide +kernel
theorem dX8_quickestGate_75 : decode cX8_quickestGate 75 = .ok (.getfield 148, 3) := by decide +kernel
theorem dX8_quickestGate_78 : decode cX8_quickestGate 78 = .ok (.iload_n 1, 1) := by decide +kernel
theorem dX8_quickestGate_79 : decode cX8_quickestGate 79 = .ok (.invokevirtual 274, 3) := by decide +kernel
theorem dX8_quickestGate_82 : decode cX8_quickestGate 82 = .ok (.istore 7, 2) := by decide +kernel
theorem dX8_quickestGate_84 : decode cX8_quickestGate 84 = .ok (.iload_n 2, 1) := by decide +kernel
theorem dX8_quickestGate_85 : decode cX8_quickestGate 85 = .ok (.iconst (-1), 1) := by decide +kernel
theorem dX8_quickestGate_86 : decode cX8_quickestGate 86 = .ok (.if_icmp .eq 22, 3) := by decide +kernel
theorem dX8_quickestGate_89 : decode cX8_quickestGate 89 = .ok (.iload 6, 2) := by decide +kernel
theorem dX8_quickestGate_91 : decode cX8_quickestGate 91 = .ok (.iload_n 3, 1) := by decide +kernel
theorem dX8_quickestGate_92 : decode cX8_quickestGate 92 = .ok (.if_icmp .lt 16, 3) := by decide +kernel
theorem dX8_quickestGate_95 : decode cX8_quickestGate 95 = .ok (.iload 6, 2) := by decide +kernel
theorem dX8_quickestGate_97 : decode cX8_quickestGate 97 = .ok (.iload_n 3, 1) := by decide +kernel
theorem dX8_quickestGate_98 : decode cX8_quickestGate 98 = .ok (.if_icmp .ne 20, 3) := by decide +kernel
theorem dX8_quickestGate_101 : decode cX8_quickestGate 101 = .ok (.iload 7, 2) := by decide +kernel
theorem dX8_quickestGate_103 : decode cX8_quickestGate 103 = .ok (.iload 4, 2) := by decide +kernel
theorem dX8_quickestGate_105 : decode cX8_quickestGate 105 = .ok (.if_icmp .ge 13, 3) := by decide +kernel
theorem dX8_quickestGate_108 : decode cX8_quickestGate 108 = .ok (.iload 5, 2) := by decide +kernel
theorem dX8_quickestGate_110 : decode cX8_quickestGate 110 = .ok (.istore_n 2, 1) := by decide +kernel
theorem dX8_quickestGate_111 : decode cX8_quickestGate 111 = .ok (.iload 6, 2) := by decide +kernel
theorem dX8_quickestGate_113 : decode cX8_quickestGate 113 = .ok (.istore_n 3, 1) := by decide +kernel
theorem dX8_quickestGate_114 : decode cX8_quickestGate 114 = .ok (.iload 7, 2) := by decide +kernel
theorem dX8_quickestGate_116 : decode cX8_quickestGate 116 = .ok (.istore 4, 2) := by decide +kernel
theorem dX8_quickestGate_118 : decode cX8_quickestGate 118 = .ok (.iinc 5 1, 3) := by decide +kernel
theorem dX8_quickestGate_121 : decode cX8_quickestGate 121 = .ok (.goto (-106), 3) := by decide +kernel
theorem dX8_quickestGate_124 : decode cX8_quickestGate 124 = .ok (.iload_n 2, 1) := by decide +kernel
theorem dX8_quickestGate_125 : decode cX8_quickestGate 125 = .ok (.ireturn, 1) := by decide +kernel
theorem bX8_quickestGate_0 {d mc ms : Nat} {al : Bool} {bc bs : Nat} {Γ : am_G} {I : am_I} {L : am_L} {Q : am_Q} {v0 : Nat} {v1 : Int32} {I' : am_I} {L' : am_L} {mc' : Nat} {ms' : Nat} (o1 : am_ob Γ v0 8) (hbc : mc' ≤ bc) (hbs : ms' ≤ bs) (hC : am_E m_X8_requireType d mc' ms' [.ref v0, .int v1] Γ I L (.inl none) I' L') (kk : am_W m_X8_quickestGate (d + 1) mc ms al (bc - mc') (bs - ms') 5 [(0, .ref v0), (1, .int v1)] [] Γ I' L' Q) : am_W m_X8_quickestGate (d + 1) mc ms al bc bs 0 [(0, .ref v0), (1, .int v1)] [] Γ I L Q := by
  refine aw_aload_n dX8_quickestGate_0 rfl ?_
  refine aw_iload_n dX8_quickestGate_1 rfl ?_
  exact aw_askV (as := [.int v1]) (rst := []) k_X8_requireType l_X8_118 i_X8_requireType s_X8_requireType rfl o1 dX8_quickestGate_2 rfl (Nat.le_of_ble_eq_true rfl) hbc hbs hC rfl rfl kk
theorem bX8_quickestGate_0x {d mc ms : Nat} {al : Bool} {bc bs : Nat} {Γ : am_G} {I : am_I} {L : am_L} {Q : am_Q} {v0 : Nat} {v1 : Int32} {I' : am_I} {L' : am_L} {mc' : Nat} {ms' : Nat} {E : String} (o1 : am_ob Γ v0 8) (hbc : mc' ≤ bc) (hbs : ms' ≤ bs) (hC : am_E m_X8_requireType d mc' ms' [.ref v0, .int v1] Γ I L (.inr E) I' L') (hq : Q (.inr E) Γ I' L') : am_W m_X8_quickestGate (d + 1) mc ms al bc bs 0 [(0, .ref v0), (1, .int v1)] [] Γ I L Q := by
  refine aw_aload_n dX8_quickestGate_0 rfl ?_
  refine aw_iload_n dX8_quickestGate_1 rfl ?_
  exact aw_fallV (as := [.int v1]) (rst := []) k_X8_requireType l_X8_118 i_X8_requireType s_X8_requireType rfl o1 dX8_quickestGate_2 rfl (Nat.le_of_ble_eq_true rfl) hbc hbs rfl hC rfl hq
theorem bX8_quickestGate_5 {d mc ms : Nat} {al : Bool} {bc bs : Nat} {Γ : am_G} {I : am_I} {L : am_L} {Q : am_Q} {v0 : Nat} {v1 : Int32} (kk : am_W m_X8_quickestGate d mc ms al bc bs 15 [(0, .ref v0), (1, .int v1), (2, .int (-1)), (3, .int 0), (4, .int 0), (5, .int 0)] [] Γ I L Q) : am_W m_X8_quickestGate d mc ms al bc bs 5 [(0, .ref v0), (1, .int v1)] [] Γ I L Q := by
  refine aw_iconst dX8_quickestGate_5 ci_m1 ?_
  refine aw_istore_n (ls' := [(0, .ref v0), (1, .int v1), (2, .int (-1))]) dX8_quickestGate_6 (by decide) rfl ?_
  refine aw_iconst dX8_quickestGate_7 ci_0 ?_
  refine aw_istore_n (ls' := [(0, .ref v0), (1, .int v1), (2, .int (-1)), (3, .int 0)]) dX8_quickestGate_8 (by decide) rfl ?_
  refine aw_iconst dX8_quickestGate_9 ci_0 ?_
  refine aw_istore (ls' := [(0, .ref v0), (1, .int v1), (2, .int (-1)), (3, .int 0), (4, .int 0)]) dX8_quickestGate_10 (by decide) rfl ?_
  refine aw_iconst dX8_quickestGate_12 ci_0 ?_
  refine aw_istore (ls' := [(0, .ref v0), (1, .int v1), (2, .int (-1)), (3, .int 0), (4, .int 0), (5, .int 0)]) dX8_quickestGate_13 (by decide) rfl ?_
  exact kk
theorem bX8_quickestGate_15 {d mc ms : Nat} {al : Bool} {bc bs : Nat} {Γ : am_G} {I : am_I} {L : am_L} {Q : am_Q} {v0 : Nat} {v1 : Int32} {v2 : Int32} {v3 : Int32} {v4 : Int32} {v5 : Int32} {r2 : Nat} (o1 : am_ob Γ v0 8) (g3 : Γ.2.2 v0 1 = some r2) (o4 : am_ob Γ r2 5) (kt : (I r2 2) ≤ v5 → am_W m_X8_quickestGate d mc ms al bc bs 124 [(0, .ref v0), (1, .int v1), (2, .int v2), (3, .int v3), (4, .int v4), (5, .int v5)] [] Γ I L Q) (kf : ¬ (I r2 2) ≤ v5 → am_W m_X8_quickestGate d mc ms al bc bs 27 [(0, .ref v0), (1, .int v1), (2, .int v2), (3, .int v3), (4, .int v4), (5, .int v5)] [] Γ I L Q) : am_W m_X8_quickestGate d mc ms al bc bs 15 [(0, .ref v0), (1, .int v1), (2, .int v2), (3, .int v3), (4, .int v4), (5, .int v5)] [] Γ I L Q := by
  refine aw_iload dX8_quickestGate_15 rfl ?_
  refine aw_aload_n dX8_quickestGate_17 rfl ?_
  refine aw_getR dX8_quickestGate_18 f_X8_19 o1 rfl g3 ?_
  refine aw_getI dX8_quickestGate_21 f_X8_187 o4 rfl ?_
  exact aw_icmp_ge dX8_quickestGate_24 (by decide) kt kf
theorem bX8_quickestGate_27 {d mc ms : Nat} {al : Bool} {bc bs : Nat} {Γ : am_G} {I : am_I} {L : am_L} {Q : am_Q} {v0 : Nat} {v1 : Int32} {v2 : Int32} {v3 : Int32} {v4 : Int32} {v5 : Int32} {r2 : Nat} {r5 : Nat} {n_r5 : Nat} {r9 : Nat} {I' : am_I} {L' : am_L} {mc' : Nat} {ms' : Nat} {r : Int32} (o1 : am_ob Γ v0 8) (g3 : Γ.2.2 v0 1 = some r2) (o4 : am_ob Γ r2 5) (g6 : Γ.2.2 r2 9 = some r5) (a7 : am_ar Γ r5 6 n_r5 0) (i8 : vp_in v5 n_r5) (g10 : Γ.2.2 r5 (v5.toNatClampNeg) = some r9) (hbc : mc' ≤ bc) (hbs : ms' ≤ bs) (hC : am_E m_X5_hourOfDay d mc' ms' [.ref r2] Γ I L (.inl (some (.int r))) I' L') (kk : am_W m_X8_quickestGate (d + 1) mc ms al (bc - mc') (bs - ms') 44 [(0, .ref v0), (1, .int v1), (2, .int v2), (3, .int v3), (4, .int v4), (5, .int v5)] [.int r, .ref r9] Γ I' L' Q) : am_W m_X8_quickestGate (d + 1) mc ms al bc bs 27 [(0, .ref v0), (1, .int v1), (2, .int v2), (3, .int v3), (4, .int v4), (5, .int v5)] [] Γ I L Q := by
  refine aw_aload_n dX8_quickestGate_27 rfl ?_
  refine aw_getR dX8_quickestGate_28 f_X8_19 o1 rfl g3 ?_
  refine aw_getR dX8_quickestGate_31 f_X8_121 o4 rfl g6 ?_
  refine aw_iload dX8_quickestGate_34 rfl ?_
  refine aw_aald dX8_quickestGate_36 a7 i8 g10 ?_
  refine aw_aload_n dX8_quickestGate_37 rfl ?_
  refine aw_getR dX8_quickestGate_38 f_X8_19 o1 rfl g3 ?_
  exact aw_askV (as := []) (rst := [.ref r9]) k_X5_hourOfDay l_X8_125 i_X5_hourOfDay s_X5_hourOfDay rfl o4 dX8_quickestGate_41 rfl (Nat.le_of_ble_eq_true rfl) hbc hbs hC rfl rfl kk
theorem bX8_quickestGate_44 {d mc ms : Nat} {al : Bool} {bc bs : Nat} {Γ : am_G} {I : am_I} {L : am_L} {Q : am_Q} {v0 : Nat} {v1 : Int32} {v2 : Int32} {v3 : Int32} {v4 : Int32} {v5 : Int32} {w0 : Nat} {w1 : Int32} {I' : am_I} {L' : am_L} {mc' : Nat} {ms' : Nat} {r : Int32} (o1 : am_ob Γ w0 0) (hbc : mc' ≤ bc) (hbs : ms' ≤ bs) (hC : am_E m_X0_opensAt d mc' ms' [.ref w0, .int w1] Γ I L (.inl (some (.int r))) I' L') (kk : am_W m_X8_quickestGate (d + 1) mc ms al (bc - mc') (bs - ms') 47 [(0, .ref v0), (1, .int v1), (2, .int v2), (3, .int v3), (4, .int v4), (5, .int v5)] [.int r] Γ I' L' Q) : am_W m_X8_quickestGate (d + 1) mc ms al bc bs 44 [(0, .ref v0), (1, .int v1), (2, .int v2), (3, .int v3), (4, .int v4), (5, .int v5)] [.int w1, .ref w0] Γ I L Q := by
  exact aw_askV (as := [.int w1]) (rst := []) k_X0_opensAt l_X8_128 i_X0_opensAt s_X0_opensAt rfl o1 dX8_quickestGate_44 rfl (Nat.le_of_ble_eq_true rfl) hbc hbs hC rfl rfl kk
theorem bX8_quickestGate_47 {d mc ms : Nat} {al : Bool} {bc bs : Nat} {Γ : am_G} {I : am_I} {L : am_L} {Q : am_Q} {v0 : Nat} {v1 : Int32} {v2 : Int32} {v3 : Int32} {v4 : Int32} {v5 : Int32} {w0 : Int32} (kt : ¬ w0 = 0 → am_W m_X8_quickestGate d mc ms al bc bs 53 [(0, .ref v0), (1, .int v1), (2, .int v2), (3, .int v3), (4, .int v4), (5, .int v5)] [] Γ I L Q) (kf : w0 = 0 → am_W m_X8_quickestGate d mc ms al bc bs 50 [(0, .ref v0), (1, .int v1), (2, .int v2), (3, .int v3), (4, .int v4), (5, .int v5)] [] Γ I L Q) : am_W m_X8_quickestGate d mc ms al bc bs 47 [(0, .ref v0), (1, .int v1), (2, .int v2), (3, .int v3), (4, .int v4), (5, .int v5)] [.int w0] Γ I L Q := by
  exact aw_if_ne dX8_quickestGate_47 (by decide) kt kf
theorem bX8_quickestGate_50 {d mc ms : Nat} {al : Bool} {bc bs : Nat} {Γ : am_G} {I : am_I} {L : am_L} {Q : am_Q} {v0 : Nat} {v1 : Int32} {v2 : Int32} {v3 : Int32} {v4 : Int32} {v5 : Int32} (kk : am_W m_X8_quickestGate d mc ms al bc bs 118 [(0, .ref v0), (1, .int v1), (2, .int v2), (3, .int v3), (4, .int v4), (5, .int v5)] [] Γ I L Q) : am_W m_X8_quickestGate d mc ms al bc bs 50 [(0, .ref v0), (1, .int v1), (2, .int v2), (3, .int v3), (4, .int v4), (5, .int v5)] [] Γ I L Q := by
  exact aw_goto dX8_quickestGate_50 (by decide) kk
theorem bX8_quickestGate_53 {d mc ms : Nat} {al : Bool} {bc bs : Nat} {Γ : am_G} {I : am_I} {L : am_L} {Q : am_Q} {v0 : Nat} {v1 : Int32} {v2 : Int32} {v3 : Int32} {v4 : Int32} {v5 : Int32} {r2 : Nat} {I' : am_I} {L' : am_L} {mc' : Nat} {ms' : Nat} {r : Int32} (o1 : am_ob Γ v0 8) (g3 : Γ.2.2 v0 1 = some r2) (o4 : am_ob Γ r2 5) (hbc : mc' ≤ bc) (hbs : ms' ≤ bs) (hC : am_E m_X5_costOfPath d mc' ms' [.ref r2, .int v5, .int v1] Γ I L (.inl (some (.int r))) I' L') (kk : am_W m_X8_quickestGate (d + 1) mc ms al (bc - mc') (bs - ms') 63 [(0, .ref v0), (1, .int v1), (2, .int v2), (3, .int v3), (4, .int v4), (5, .int v5)] [.int r] Γ I' L' Q) : am_W m_X8_quickestGate (d + 1) mc ms al bc bs 53 [(0, .ref v0), (1, .int v1), (2, .int v2), (3, .int v3), (4, .int v4), (5, .int v5)] [] Γ I L Q := by
  refine aw_aload_n dX8_quickestGate_53 rfl ?_
  refine aw_getR dX8_quickestGate_54 f_X8_19 o1 rfl g3 ?_
  refine aw_iload dX8_quickestGate_57 rfl ?_
  refine aw_iload_n dX8_quickestGate_59 rfl ?_
  exact aw_askV (as := [.int v5, .int v1]) (rst := []) k_X5_costOfPath l_X8_277 i_X5_costOfPath s_X5_costOfPath rfl o4 dX8_quickestGate_60 rfl (Nat.le_of_ble_eq_true rfl) hbc hbs hC rfl rfl kk
theorem bX8_quickestGate_63 {d mc ms : Nat} {al : Bool} {bc bs : Nat} {Γ : am_G} {I : am_I} {L : am_L} {Q : am_Q} {v0 : Nat} {v1 : Int32} {v2 : Int32} {v3 : Int32} {v4 : Int32} {v5 : Int32} {w0 : Int32} {r2 : Nat} {r5 : Nat} {n_r5 : Nat} {r9 : Nat} {r12 : Nat} {I' : am_I} {L' : am_L} {mc' : Nat} {ms' : Nat} {r : Int32} (o1 : am_ob Γ v0 8) (g3 : Γ.2.2 v0 1 = some r2) (o4 : am_ob Γ r2 5) (g6 : Γ.2.2 r2 9 = some r5) (a7 : am_ar Γ r5 6 n_r5 0) (i8 : vp_in v5 n_r5) (g10 : Γ.2.2 r5 (v5.toNatClampNeg) = some r9) (o11 : am_ob Γ r9 0) (g13 : Γ.2.2 r9 5 = some r12) (o14 : am_ob Γ r12 7) (hbc : mc' ≤ bc) (hbs : ms' ≤ bs) (hC : am_E m_X7_tollFor d mc' ms' [.ref r12, .int v1] Γ I L (.inl (some (.int r))) I' L') (kk : am_W m_X8_quickestGate (d + 1) mc ms al (bc - mc') (bs - ms') 82 [(0, .ref v0), (1, .int v1), (2, .int v2), (3, .int v3), (4, .int v4), (5, .int v5), (6, .int w0)] [.int r] Γ I' L' Q) : am_W m_X8_quickestGate (d + 1) mc ms al bc bs 63 [(0, .ref v0), (1, .int v1), (2, .int v2), (3, .int v3), (4, .int v4), (5, .int v5)] [.int w0] Γ I L Q := by
  refine aw_istore (ls' := [(0, .ref v0), (1, .int v1), (2, .int v2), (3, .int v3), (4, .int v4), (5, .int v5), (6, .int w0)]) dX8_quickestGate_63 (by decide) rfl ?_
  refine aw_aload_n dX8_quickestGate_65 rfl ?_
  refine aw_getR dX8_quickestGate_66 f_X8_19 o1 rfl g3 ?_
  refine aw_getR dX8_quickestGate_69 f_X8_121 o4 rfl g6 ?_
  refine aw_iload dX8_quickestGate_72 rfl ?_
  refine aw_aald dX8_quickestGate_74 a7 i8 g10 ?_
  refine aw_getR dX8_quickestGate_75 f_X8_148 o11 rfl g13 ?_
  refine aw_iload_n dX8_quickestGate_78 rfl ?_
  exact aw_askV (as := [.int v1]) (rst := []) k_X7_tollFor l_X8_274 i_X7_tollFor s_X7_tollFor rfl o14 dX8_quickestGate_79 rfl (Nat.le_of_ble_eq_true rfl) hbc hbs hC rfl rfl kk
theorem bX8_quickestGate_82 {d mc ms : Nat} {al : Bool} {bc bs : Nat} {Γ : am_G} {I : am_I} {L : am_L} {Q : am_Q} {v0 : Nat} {v1 : Int32} {v2 : Int32} {v3 : Int32} {v4 : Int32} {v5 : Int32} {v6 : Int32} {w0 : Int32} (kt : v2 = (-1) → am_W m_X8_quickestGate d mc ms al bc bs 108 [(0, .ref v0), (1, .int v1), (2, .int v2), (3, .int v3), (4, .int v4), (5, .int v5), (6, .int v6), (7, .int w0)] [] Γ I L Q) (kf : ¬ v2 = (-1) → am_W m_X8_quickestGate d mc ms al bc bs 89 [(0, .ref v0), (1, .int v1), (2, .int v2), (3, .int v3), (4, .int v4), (5, .int v5), (6, .int v6), (7, .int w0)] [] Γ I L Q) : am_W m_X8_quickestGate d mc ms al bc bs 82 [(0, .ref v0), (1, .int v1), (2, .int v2), (3, .int v3), (4, .int v4), (5, .int v5), (6, .int v6)] [.int w0] Γ I L Q := by
  refine aw_istore (ls' := [(0, .ref v0), (1, .int v1), (2, .int v2), (3, .int v3), (4, .int v4), (5, .int v5), (6, .int v6), (7, .int w0)]) dX8_quickestGate_82 (by decide) rfl ?_
  refine aw_iload_n dX8_quickestGate_84 rfl ?_
  refine aw_iconst dX8_quickestGate_85 ci_m1 ?_
  exact aw_icmp_eq dX8_quickestGate_86 (by decide) kt kf
theorem bX8_quickestGate_89 {d mc ms : Nat} {al : Bool} {bc bs : Nat} {Γ : am_G} {I : am_I} {L : am_L} {Q : am_Q} {v0 : Nat} {v1 : Int32} {v2 : Int32} {v3 : Int32} {v4 : Int32} {v5 : Int32} {v6 : Int32} {v7 : Int32} (kt : v6 < v3 → am_W m_X8_quickestGate d mc ms al bc bs 108 [(0, .ref v0), (1, .int v1), (2, .int v2), (3, .int v3), (4, .int v4), (5, .int v5), (6, .int v6), (7, .int v7)] [] Γ I L Q) (kf : ¬ v6 < v3 → am_W m_X8_quickestGate d mc ms al bc bs 95 [(0, .ref v0), (1, .int v1), (2, .int v2), (3, .int v3), (4, .int v4), (5, .int v5), (6, .int v6), (7, .int v7)] [] Γ I L Q) : am_W m_X8_quickestGate d mc ms al bc bs 89 [(0, .ref v0), (1, .int v1), (2, .int v2), (3, .int v3), (4, .int v4), (5, .int v5), (6, .int v6), (7, .int v7)] [] Γ I L Q := by
  refine aw_iload dX8_quickestGate_89 rfl ?_
  refine aw_iload_n dX8_quickestGate_91 rfl ?_
  exact aw_icmp_lt dX8_quickestGate_92 (by decide) kt kf
theorem bX8_quickestGate_95 {d mc ms : Nat} {al : Bool} {bc bs : Nat} {Γ : am_G} {I : am_I} {L : am_L} {Q : am_Q} {v0 : Nat} {v1 : Int32} {v2 : Int32} {v3 : Int32} {v4 : Int32} {v5 : Int32} {v6 : Int32} {v7 : Int32} (kt : ¬ v6 = v3 → am_W m_X8_quickestGate d mc ms al bc bs 118 [(0, .ref v0), (1, .int v1), (2, .int v2), (3, .int v3), (4, .int v4), (5, .int v5), (6, .int v6), (7, .int v7)] [] Γ I L Q) (kf : v6 = v3 → am_W m_X8_quickestGate d mc ms al bc bs 101 [(0, .ref v0), (1, .int v1), (2, .int v2), (3, .int v3), (4, .int v4), (5, .int v5), (6, .int v6), (7, .int v7)] [] Γ I L Q) : am_W m_X8_quickestGate d mc ms al bc bs 95 [(0, .ref v0), (1, .int v1), (2, .int v2), (3, .int v3), (4, .int v4), (5, .int v5), (6, .int v6), (7, .int v7)] [] Γ I L Q := by
  refine aw_iload dX8_quickestGate_95 rfl ?_
  refine aw_iload_n dX8_quickestGate_97 rfl ?_
  exact aw_icmp_ne dX8_quickestGate_98 (by decide) kt kf
theorem bX8_quickestGate_101 {d mc ms : Nat} {al : Bool} {bc bs : Nat} {Γ : am_G} {I : am_I} {L : am_L} {Q : am_Q} {v0 : Nat} {v1 : Int32} {v2 : Int32} {v3 : Int32} {v4 : Int32} {v5 : Int32} {v6 : Int32} {v7 : Int32} (kt : v4 ≤ v7 → am_W m_X8_quickestGate d mc ms al bc bs 118 [(0, .ref v0), (1, .int v1), (2, .int v2), (3, .int v3), (4, .int v4), (5, .int v5), (6, .int v6), (7, .int v7)] [] Γ I L Q) (kf : ¬ v4 ≤ v7 → am_W m_X8_quickestGate d mc ms al bc bs 108 [(0, .ref v0), (1, .int v1), (2, .int v2), (3, .int v3), (4, .int v4), (5, .int v5), (6, .int v6), (7, .int v7)] [] Γ I L Q) : am_W m_X8_quickestGate d mc ms al bc bs 101 [(0, .ref v0), (1, .int v1), (2, .int v2), (3, .int v3), (4, .int v4), (5, .int v5), (6, .int v6), (7, .int v7)] [] Γ I L Q := by
  refine aw_iload dX8_quickestGate_101 rfl ?_
  refine aw_iload dX8_quickestGate_103 rfl ?_
  exact aw_icmp_ge dX8_quickestGate_105 (by decide) kt kf
theorem bX8_quickestGate_108 {d mc ms : Nat} {al : Bool} {bc bs : Nat} {Γ : am_G} {I : am_I} {L : am_L} {Q : am_Q} {v0 : Nat} {v1 : Int32} {v2 : Int32} {v3 : Int32} {v4 : Int32} {v5 : Int32} {v6 : Int32} {v7 : Int32} (kk : am_W m_X8_quickestGate d mc ms al bc bs 118 [(0, .ref v0), (1, .int v1), (2, .int v5), (3, .int v6), (4, .int v7), (5, .int v5), (6, .int v6), (7, .int v7)] [] Γ I L Q) : am_W m_X8_quickestGate d mc ms al bc bs 108 [(0, .ref v0), (1, .int v1), (2, .int v2), (3, .int v3), (4, .int v4), (5, .int v5), (6, .int v6), (7, .int v7)] [] Γ I L Q := by
  refine aw_iload dX8_quickestGate_108 rfl ?_
  refine aw_istore_n (ls' := [(0, .ref v0), (1, .int v1), (2, .int v5), (3, .int v3), (4, .int v4), (5, .int v5), (6, .int v6), (7, .int v7)]) dX8_quickestGate_110 (by decide) rfl ?_
  refine aw_iload dX8_quickestGate_111 rfl ?_
  refine aw_istore_n (ls' := [(0, .ref v0), (1, .int v1), (2, .int v5), (3, .int v6), (4, .int v4), (5, .int v5), (6, .int v6), (7, .int v7)]) dX8_quickestGate_113 (by decide) rfl ?_
  refine aw_iload dX8_quickestGate_114 rfl ?_
  refine aw_istore (ls' := [(0, .ref v0), (1, .int v1), (2, .int v5), (3, .int v6), (4, .int v7), (5, .int v5), (6, .int v6), (7, .int v7)]) dX8_quickestGate_116 (by decide) rfl ?_
  exact kk
theorem bX8_quickestGate_118 {d mc ms : Nat} {al : Bool} {bc bs : Nat} {Γ : am_G} {I : am_I} {L : am_L} {Q : am_Q} {v0 : Nat} {v1 : Int32} {v2 : Int32} {v3 : Int32} {v4 : Int32} {v5 : Int32} (kk : am_W m_X8_quickestGate d mc ms al bc bs 15 [(0, .ref v0), (1, .int v1), (2, .int v2), (3, .int v3), (4, .int v4), (5, .int (v5 + 1))] [] Γ I L Q) : am_W m_X8_quickestGate d mc ms al bc bs 118 [(0, .ref v0), (1, .int v1), (2, .int v2), (3, .int v3), (4, .int v4), (5, .int v5)] [] Γ I L Q := by
  refine aw_iinc (ls' := [(0, .ref v0), (1, .int v1), (2, .int v2), (3, .int v3), (4, .int v4), (5, .int (v5 + 1))]) dX8_quickestGate_118 rfl (cn_1 _) (by decide) rfl ?_
  exact aw_goto dX8_quickestGate_121 (by decide) kk
theorem bX8_quickestGate_124 {d mc ms : Nat} {al : Bool} {bc bs : Nat} {Γ : am_G} {I : am_I} {L : am_L} {Q : am_Q} {v0 : Nat} {v1 : Int32} {v2 : Int32} {v3 : Int32} {v4 : Int32} {v5 : Int32} (hq : Q (.inl (some (.int v2))) Γ I L) : am_W m_X8_quickestGate d mc ms al bc bs 124 [(0, .ref v0), (1, .int v1), (2, .int v2), (3, .int v3), (4, .int v4), (5, .int v5)] [] Γ I L Q := by
  refine aw_iload_n dX8_quickestGate_124 rfl ?_
  exact aw_iret dX8_quickestGate_125 rfl hq
theorem dX8_inconsistencies_0 : decode cX8_inconsistencies 0 = .ok (.aload_n 0, 1) := by decide +kernel
theorem dX8_inconsistencies_1 : decode cX8_inconsistencies 1 = .ok (.getfield 19, 3) := by decide +kernel
theorem dX8_inconsistencies_4 : decode cX8_inconsistencies 4 = .ok (.getfield 224, 3) := by decide +kernel
theorem dX8_inconsistencies_7 : decode cX8_inconsistencies 7 = .ok (.astore_n 1, 1) := by decide +kernel
theorem dX8_inconsistencies_8 : decode cX8_inconsistencies 8 = .ok (.aload_n 1, 1) := by decide +kernel
theorem dX8_inconsistencies_9 : decode cX8_inconsistencies 9 = .ok (.getfield 236, 3) := by decide +kernel
theorem dX8_inconsistencies_12 : decode cX8_inconsistencies 12 = .ok (.aload_n 1, 1) := by decide +kernel
theorem dX8_inconsistencies_13 : decode cX8_inconsistencies 13 = .ok (.getfield 239, 3) := by decide +kernel
theorem dX8_inconsistencies_16 : decode cX8_inconsistencies 16 = .ok (.isub, 1) := by decide +kernel
theorem dX8_inconsistencies_17 : decode cX8_inconsistencies 17 = .ok (.aload_n 1, 1) := by decide +kernel
theorem dX8_inconsistencies_18 : decode cX8_inconsistencies 18 = .ok (.getfield 248, 3) := by decide +kernel
theorem dX8_inconsistencies_21 : decode cX8_inconsistencies 21 = .ok (.isub, 1) := by decide +kernel
theorem dX8_inconsistencies_22 : decode cX8_inconsistencies 22 = .ok (.aload_n 1, 1) := by decide +kernel
theorem dX8_inconsistencies_23 : decode cX8_inconsistencies 23 = .ok (.getfield 251, 3) := by decide +kernel
theorem dX8_inconsistencies_26 : decode cX8_inconsistencies 26 = .ok (.iadd, 1) := by decide +kernel
theorem dX8_inconsistencies_27 : decode cX8_inconsistencies 27 = .ok (.invokestatic 315, 3) := by decide +kernel
theorem dX8_inconsistencies_30 : decode cX8_inconsistencies 30 = .ok (.istore_n 2, 1) := by decide +kernel
theorem dX8_inconsistencies_31 : decode cX8_inconsistencies 31 = .ok (.iconst 0, 1) := by decide +kernel
theorem dX8_inconsistencies_32 : decode cX8_inconsistencies 32 = .ok (.istore_n 3, 1) := by decide +kernel
theorem dX8_inconsistencies_33 : decode cX8_inconsistencies 33 = .ok (.iload_n 3, 1) := by decide +kernel
theorem dX8_inconsistencies_34 : decode cX8_inconsistencies 34 = .ok (.aload_n 0, 1) := by decide +kernel
theorem dX8_inconsistencies_35 : decode cX8_inconsistencies 35 = .ok (.getfield 19, 3) := by decide +kernel
theorem dX8_inconsistencies_38 : decode cX8_inconsistencies 38 = .ok (.getfield 187, 3) := by decide +kernel
theorem dX8_inconsistencies_41 : decode cX8_inconsistencies 41 = .ok (.if_icmp .ge 50, 3) := by decide +kernel
theorem dX8_inconsistencies_44 : decode cX8_inconsistencies 44 = .ok (.iload_n 2, 1) := by decide +kernel
theorem dX8_inconsistencies_45 : decode cX8_inconsistencies 45 = .ok (.aload_n 0, 1) := by decide +kernel
theorem dX8_inconsistencies_46 : decode cX8_inconsistencies 46 = .ok (.getfield 19, 3) := by decide +kernel
theorem dX8_inconsistencies_49 : decode cX8_inconsistencies 49 = .ok (.iload_n 3, 1) := by decide +kernel
theorem dX8_inconsistencies_50 : decode cX8_inconsistencies 50 = .ok (.invokevirtual 284, 3) := by decide +kernel
theorem dX8_inconsistencies_53 : decode cX8_inconsistencies 53 = .ok (.aload_n 0, 1) := by decide +kernel
theorem dX8_inconsistencies_54 : decode cX8_inconsistencies 54 = .ok (.getfield 19, 3) := by decide +kernel
theorem dX8_inconsistencies_57 : decode cX8_inconsistencies 57 = .ok (.iload_n 3, 1) := by decide +kernel
theorem dX8_inconsistencies_58 : decode cX8_inconsistencies 58 = .ok (.invokevirtual 320, 3) := by decide +kernel
theorem dX8_inconsistencies_61 : decode cX8_inconsistencies 61 = .ok (.isub, 1) := by decide +kernel
theorem dX8_inconsistencies_62 : decode cX8_inconsistencies 62 = .ok (.invokestatic 315, 3) := by decide +kernel
theorem dX8_inconsistencies_65 : decode cX8_inconsistencies 65 = .ok (.iadd, 1) := by decide +kernel
theorem dX8_inconsistencies_66 : decode cX8_inconsistencies 66 = .ok (.istore_n 2, 1) := by decide +kernel
theorem dX8_inconsistencies_67 : decode cX8_inconsistencies 67 = .ok (.iload_n 2, 1) := by decide +kernel
theorem dX8_inconsistencies_68 : decode cX8_inconsistencies 68 = .ok (.aload_n 0, 1) := by decide +kernel
theorem dX8_inconsistencies_69 : decode cX8_inconsistencies 69 = .ok (.getfield 19, 3) := by decide +kernel
theorem dX8_inconsistencies_72 : decode cX8_inconsistencies 72 = .ok (.getfield 121, 3) := by decide +kernel
theorem dX8_inconsistencies_75 : decode cX8_inconsistencies 75 = .ok (.iload_n 3, 1) := by decide +kernel
theorem dX8_inconsistencies_76 : decode cX8_inconsistencies 76 = .ok (.aaload, 1) := by decide +kernel
theorem dX8_inconsistencies_77 : decode cX8_inconsistencies 77 = .ok (.getfield 148, 3) := by decide +kernel
theorem dX8_inconsistencies_80 : decode cX8_inconsistencies 80 = .ok (.invokevirtual 323, 3) := by decide +kernel
theorem dX8_inconsistencies_83 : decode cX8_inconsistencies 83 = .ok (.iadd, 1) := by decide +kernel
theorem dX8_inconsistencies_84 : decode cX8_inconsistencies 84 = .ok (.istore_n 2, 1) := by decide +kernel
theorem dX8_inconsistencies_85 : decode cX8_inconsistencies 85 = .ok (.iinc 3 1, 3) := by decide +kernel
theorem dX8_inconsistencies_88 : decode cX8_inconsistencies 88 = .ok (.goto (-55), 3) := by decide +kernel
theorem dX8_inconsistencies_91 : decode cX8_inconsistencies 91 = .ok (.iload_n 2, 1) := by decide +kernel
theorem dX8_inconsistencies_92 : decode cX8_inconsistencies 92 = .ok (.ireturn, 1) := by decide +kernel
theorem bX8_inconsistencies_0 {d mc ms : Nat} {al : Bool} {bc bs : Nat} {Γ : am_G} {I : am_I} {L : am_L} {Q : am_Q} {v0 : Nat} {r2 : Nat} {r5 : Nat} (o1 : am_ob Γ v0 8) (g3 : Γ.2.2 v0 1 = some r2) (o4 : am_ob Γ r2 5) (g6 : Γ.2.2 r2 10 = some r5) (o7 : am_ob Γ r5 6) (kk : am_W m_X8_inconsistencies d mc ms al bc bs 33 [(0, .ref v0), (1, .ref r5), (2, .int (if 0 ≤ ((((I r5 2) - (I r5 3)) - (I r5 6)) + (I r5 7)) then ((((I r5 2) - (I r5 3)) - (I r5 6)) + (I r5 7)) else 0 - ((((I r5 2) - (I r5 3)) - (I r5 6)) + (I r5 7)))), (3, .int 0)] [] Γ I L Q) : am_W m_X8_inconsistencies d mc ms al bc bs 0 [(0, .ref v0)] [] Γ I L Q := by
  refine aw_aload_n dX8_inconsistencies_0 rfl ?_
  refine aw_getR dX8_inconsistencies_1 f_X8_19 o1 rfl g3 ?_
  refine aw_getR dX8_inconsistencies_4 f_X8_224 o4 rfl g6 ?_
  refine aw_astore_n (ls' := [(0, .ref v0), (1, .ref r5)]) dX8_inconsistencies_7 (by decide) rfl ?_
  refine aw_aload_n dX8_inconsistencies_8 rfl ?_
  refine aw_getI dX8_inconsistencies_9 f_X8_236 o7 rfl ?_
  refine aw_aload_n dX8_inconsistencies_12 rfl ?_
  refine aw_getI dX8_inconsistencies_13 f_X8_239 o7 rfl ?_
  refine aw_isub dX8_inconsistencies_16 ?_
  refine aw_aload_n dX8_inconsistencies_17 rfl ?_
  refine aw_getI dX8_inconsistencies_18 f_X8_248 o7 rfl ?_
  refine aw_isub dX8_inconsistencies_21 ?_
  refine aw_aload_n dX8_inconsistencies_22 rfl ?_
  refine aw_getI dX8_inconsistencies_23 f_X8_251 o7 rfl ?_
  refine aw_iadd dX8_inconsistencies_26 ?_
  refine aw_abs dX8_inconsistencies_27 mf_X8_315 (Nat.le_of_ble_eq_true rfl) ?_
  refine aw_istore_n (ls' := [(0, .ref v0), (1, .ref r5), (2, .int (if 0 ≤ ((((I r5 2) - (I r5 3)) - (I r5 6)) + (I r5 7)) then ((((I r5 2) - (I r5 3)) - (I r5 6)) + (I r5 7)) else 0 - ((((I r5 2) - (I r5 3)) - (I r5 6)) + (I r5 7))))]) dX8_inconsistencies_30 (by decide) rfl ?_
  refine aw_iconst dX8_inconsistencies_31 ci_0 ?_
  refine aw_istore_n (ls' := [(0, .ref v0), (1, .ref r5), (2, .int (if 0 ≤ ((((I r5 2) - (I r5 3)) - (I r5 6)) + (I r5 7)) then ((((I r5 2) - (I r5 3)) - (I r5 6)) + (I r5 7)) else 0 - ((((I r5 2) - (I r5 3)) - (I r5 6)) + (I r5 7)))), (3, .int 0)]) dX8_inconsistencies_32 (by decide) rfl ?_
  exact kk
theorem bX8_inconsistencies_33 {d mc ms : Nat} {al : Bool} {bc bs : Nat} {Γ : am_G} {I : am_I} {L : am_L} {Q : am_Q} {v0 : Nat} {v1 : Nat} {v2 : Int32} {v3 : Int32} {r2 : Nat} (o1 : am_ob Γ v0 8) (g3 : Γ.2.2 v0 1 = some r2) (o4 : am_ob Γ r2 5) (kt : (I r2 2) ≤ v3 → am_W m_X8_inconsistencies d mc ms al bc bs 91 [(0, .ref v0), (1, .ref v1), (2, .int v2), (3, .int v3)] [] Γ I L Q) (kf : ¬ (I r2 2) ≤ v3 → am_W m_X8_inconsistencies d mc ms al bc bs 44 [(0, .ref v0), (1, .ref v1), (2, .int v2), (3, .int v3)] [] Γ I L Q) : am_W m_X8_inconsistencies d mc ms al bc bs 33 [(0, .ref v0), (1, .ref v1), (2, .int v2), (3, .int v3)] [] Γ I L Q := by
  refine aw_iload_n dX8_inconsistencies_33 rfl ?_
  refine aw_aload_n dX8_inconsistencies_34 rfl ?_
  refine aw_getR dX8_inconsistencies_35 f_X8_19 o1 rfl g3 ?_
  refine aw_getI dX8_inconsistencies_38 f_X8_187 o4 rfl ?_
  exact aw_icmp_ge dX8_inconsistencies_41 (by decide) kt kf
theorem bX8_inconsistencies_44 {d mc ms : Nat} {al : Bool} {bc bs : Nat} {Γ : am_G} {I : am_I} {L : am_L} {Q : am_Q} {v0 : Nat} {v1 : Nat} {v2 : Int32} {v3 : Int32} {r2 : Nat} {I' : am_I} {L' : am_L} {mc' : Nat} {ms' : Nat} {r : Int32} (o1 : am_ob Γ v0 8) (g3 : Γ.2.2 v0 1 = some r2) (o4 : am_ob Γ r2 5) (hbc : mc' ≤ bc) (hbs : ms' ≤ bs) (hC : am_E m_X5_workNow d mc' ms' [.ref r2, .int v3] Γ I L (.inl (some (.int r))) I' L') (kk : am_W m_X8_inconsistencies (d + 1) mc ms al (bc - mc') (bs - ms') 53 [(0, .ref v0), (1, .ref v1), (2, .int v2), (3, .int v3)] [.int r, .int v2] Γ I' L' Q) : am_W m_X8_inconsistencies (d + 1) mc ms al bc bs 44 [(0, .ref v0), (1, .ref v1), (2, .int v2), (3, .int v3)] [] Γ I L Q := by
  refine aw_iload_n dX8_inconsistencies_44 rfl ?_
  refine aw_aload_n dX8_inconsistencies_45 rfl ?_
  refine aw_getR dX8_inconsistencies_46 f_X8_19 o1 rfl g3 ?_
  refine aw_iload_n dX8_inconsistencies_49 rfl ?_
  exact aw_askV (as := [.int v3]) (rst := [.int v2]) k_X5_workNow l_X8_284 i_X5_workNow s_X5_workNow rfl o4 dX8_inconsistencies_50 rfl (Nat.le_of_ble_eq_true rfl) hbc hbs hC rfl rfl kk
theorem bX8_inconsistencies_53 {d mc ms : Nat} {al : Bool} {bc bs : Nat} {Γ : am_G} {I : am_I} {L : am_L} {Q : am_Q} {v0 : Nat} {v1 : Nat} {v2 : Int32} {v3 : Int32} {w0 : Int32} {w1 : Int32} {r2 : Nat} {I' : am_I} {L' : am_L} {mc' : Nat} {ms' : Nat} {r : Int32} (o1 : am_ob Γ v0 8) (g3 : Γ.2.2 v0 1 = some r2) (o4 : am_ob Γ r2 5) (hbc : mc' ≤ bc) (hbs : ms' ≤ bs) (hC : am_E m_X5_workByTypes d mc' ms' [.ref r2, .int v3] Γ I L (.inl (some (.int r))) I' L') (kk : am_W m_X8_inconsistencies (d + 1) mc ms al (bc - mc') (bs - ms') 61 [(0, .ref v0), (1, .ref v1), (2, .int v2), (3, .int v3)] [.int r, .int w1, .int w0] Γ I' L' Q) : am_W m_X8_inconsistencies (d + 1) mc ms al bc bs 53 [(0, .ref v0), (1, .ref v1), (2, .int v2), (3, .int v3)] [.int w1, .int w0] Γ I L Q := by
  refine aw_aload_n dX8_inconsistencies_53 rfl ?_
  refine aw_getR dX8_inconsistencies_54 f_X8_19 o1 rfl g3 ?_
  refine aw_iload_n dX8_inconsistencies_57 rfl ?_
  exact aw_askV (as := [.int v3]) (rst := [.int w1, .int w0]) k_X5_workByTypes l_X8_320 i_X5_workByTypes s_X5_workByTypes rfl o4 dX8_inconsistencies_58 rfl (Nat.le_of_ble_eq_true rfl) hbc hbs hC rfl rfl kk
theorem bX8_inconsistencies_61 {d mc ms : Nat} {al : Bool} {bc bs : Nat} {Γ : am_G} {I : am_I} {L : am_L} {Q : am_Q} {v0 : Nat} {v1 : Nat} {v2 : Int32} {v3 : Int32} {w0 : Int32} {w1 : Int32} {w2 : Int32} {r2 : Nat} {r5 : Nat} {n_r5 : Nat} {r9 : Nat} {r12 : Nat} {I' : am_I} {L' : am_L} {mc' : Nat} {ms' : Nat} {r : Int32} (o1 : am_ob Γ v0 8) (g3 : Γ.2.2 v0 1 = some r2) (o4 : am_ob Γ r2 5) (g6 : Γ.2.2 r2 9 = some r5) (a7 : am_ar Γ r5 6 n_r5 0) (i8 : vp_in v3 n_r5) (g10 : Γ.2.2 r5 (v3.toNatClampNeg) = some r9) (o11 : am_ob Γ r9 0) (g13 : Γ.2.2 r9 5 = some r12) (o14 : am_ob Γ r12 7) (hbc : mc' ≤ bc) (hbs : ms' ≤ bs) (hC : am_E m_X7_emptyLeaves d mc' ms' [.ref r12] Γ I L (.inl (some (.int r))) I' L') (kk : am_W m_X8_inconsistencies (d + 1) mc ms al (bc - mc') (bs - ms') 83 [(0, .ref v0), (1, .ref v1), (2, .int (w0 + (if 0 ≤ (w1 - w2) then (w1 - w2) else 0 - (w1 - w2)))), (3, .int v3)] [.int r, .int (w0 + (if 0 ≤ (w1 - w2) then (w1 - w2) else 0 - (w1 - w2)))] Γ I' L' Q) : am_W m_X8_inconsistencies (d + 1) mc ms al bc bs 61 [(0, .ref v0), (1, .ref v1), (2, .int v2), (3, .int v3)] [.int w2, .int w1, .int w0] Γ I L Q := by
  refine aw_isub dX8_inconsistencies_61 ?_
  refine aw_abs dX8_inconsistencies_62 mf_X8_315 (Nat.le_of_ble_eq_true rfl) ?_
  refine aw_iadd dX8_inconsistencies_65 ?_
  refine aw_istore_n (ls' := [(0, .ref v0), (1, .ref v1), (2, .int (w0 + (if 0 ≤ (w1 - w2) then (w1 - w2) else 0 - (w1 - w2)))), (3, .int v3)]) dX8_inconsistencies_66 (by decide) rfl ?_
  refine aw_iload_n dX8_inconsistencies_67 rfl ?_
  refine aw_aload_n dX8_inconsistencies_68 rfl ?_
  refine aw_getR dX8_inconsistencies_69 f_X8_19 o1 rfl g3 ?_
  refine aw_getR dX8_inconsistencies_72 f_X8_121 o4 rfl g6 ?_
  refine aw_iload_n dX8_inconsistencies_75 rfl ?_
  refine aw_aald dX8_inconsistencies_76 a7 i8 g10 ?_
  refine aw_getR dX8_inconsistencies_77 f_X8_148 o11 rfl g13 ?_
  exact aw_askV (as := []) (rst := [.int (w0 + (if 0 ≤ (w1 - w2) then (w1 - w2) else 0 - (w1 - w2)))]) k_X7_emptyLeaves l_X8_323 i_X7_emptyLeaves s_X7_emptyLeaves rfl o14 dX8_inconsistencies_80 rfl (Nat.le_of_ble_eq_true rfl) hbc hbs hC rfl rfl kk
theorem bX8_inconsistencies_83 {d mc ms : Nat} {al : Bool} {bc bs : Nat} {Γ : am_G} {I : am_I} {L : am_L} {Q : am_Q} {v0 : Nat} {v1 : Nat} {v2 : Int32} {v3 : Int32} {w0 : Int32} {w1 : Int32} (kk : am_W m_X8_inconsistencies d mc ms al bc bs 33 [(0, .ref v0), (1, .ref v1), (2, .int (w0 + w1)), (3, .int (v3 + 1))] [] Γ I L Q) : am_W m_X8_inconsistencies d mc ms al bc bs 83 [(0, .ref v0), (1, .ref v1), (2, .int v2), (3, .int v3)] [.int w1, .int w0] Γ I L Q := by
  refine aw_iadd dX8_inconsistencies_83 ?_
  refine aw_istore_n (ls' := [(0, .ref v0), (1, .ref v1), (2, .int (w0 + w1)), (3, .int v3)]) dX8_inconsistencies_84 (by decide) rfl ?_
  refine aw_iinc (ls' := [(0, .ref v0), (1, .ref v1), (2, .int (w0 + w1)), (3, .int (v3 + 1))]) dX8_inconsistencies_85 rfl (cn_1 _) (by decide) rfl ?_
  exact aw_goto dX8_inconsistencies_88 (by decide) kk
theorem bX8_inconsistencies_91 {d mc ms : Nat} {al : Bool} {bc bs : Nat} {Γ : am_G} {I : am_I} {L : am_L} {Q : am_Q} {v0 : Nat} {v1 : Nat} {v2 : Int32} {v3 : Int32} (hq : Q (.inl (some (.int v2))) Γ I L) : am_W m_X8_inconsistencies d mc ms al bc bs 91 [(0, .ref v0), (1, .ref v1), (2, .int v2), (3, .int v3)] [] Γ I L Q := by
  refine aw_iload_n dX8_inconsistencies_91 rfl ?_
  exact aw_iret dX8_inconsistencies_92 rfl hq
theorem dX8_acceptDraft_0 : decode cX8_acceptDraft 0 = .ok (.aload_n 0, 1) := by decide +kernel
theorem dX8_acceptDraft_1 : decode cX8_acceptDraft 1 = .ok (.getfield 38, 3) := by decide +kernel
theorem dX8_acceptDraft_4 : decode cX8_acceptDraft 4 = .ok (.aload_n 0, 1) := by decide +kernel
theorem dX8_acceptDraft_5 : decode cX8_acceptDraft 5 = .ok (.getfield 19, 3) := by decide +kernel
theorem dX8_acceptDraft_8 : decode cX8_acceptDraft 8 = .ok (.invokevirtual 137, 3) := by decide +kernel
theorem dX8_acceptDraft_11 : decode cX8_acceptDraft 11 = .ok (.aload_n 0, 1) := by decide +kernel
theorem dX8_acceptDraft_12 : decode cX8_acceptDraft 12 = .ok (.getfield 19, 3) := by decide +kernel
theorem dX8_acceptDraft_15 : decode cX8_acceptDraft 15 = .ok (.aload_n 0, 1) := by decide +kernel
theorem dX8_acceptDraft_16 : decode cX8_acceptDraft 16 = .ok (.getfield 23, 3) := by decide +kernel
theorem dX8_acceptDraft_19 : decode cX8_acceptDraft 19 = .ok (.invokevirtual 83, 3) := by decide +kernel
theorem dX8_acceptDraft_22 : decode cX8_acceptDraft 22 = .ok (.return_, 1) := by decide +kernel
theorem bX8_acceptDraft_0 {d mc ms : Nat} {al : Bool} {bc bs : Nat} {Γ : am_G} {I : am_I} {L : am_L} {Q : am_Q} {v0 : Nat} {r2 : Nat} {r4 : Nat} {I' : am_I} {L' : am_L} {mc' : Nat} {ms' : Nat} (o1 : am_ob Γ v0 8) (g3 : Γ.2.2 v0 4 = some r2) (g5 : Γ.2.2 v0 1 = some r4) (o6 : am_ob Γ r2 1) (hbc : mc' ≤ bc) (hbs : ms' ≤ bs) (hC : am_E m_X1_remember d mc' ms' [.ref r2, .ref r4] Γ I L (.inl none) I' L') (kk : am_W m_X8_acceptDraft (d + 1) mc ms al (bc - mc') (bs - ms') 11 [(0, .ref v0)] [] Γ I' L' Q) : am_W m_X8_acceptDraft (d + 1) mc ms al bc bs 0 [(0, .ref v0)] [] Γ I L Q := by
  refine aw_aload_n dX8_acceptDraft_0 rfl ?_
  refine aw_getR dX8_acceptDraft_1 f_X8_38 o1 rfl g3 ?_
  refine aw_aload_n dX8_acceptDraft_4 rfl ?_
  refine aw_getR dX8_acceptDraft_5 f_X8_19 o1 rfl g5 ?_
  exact aw_askV (as := [.ref r4]) (rst := []) k_X1_remember l_X8_137 i_X1_remember s_X1_remember rfl o6 dX8_acceptDraft_8 rfl (Nat.le_of_ble_eq_true rfl) hbc hbs hC rfl rfl kk
theorem bX8_acceptDraft_11 {d mc ms : Nat} {al : Bool} {bc bs : Nat} {Γ : am_G} {I : am_I} {L : am_L} {Q : am_Q} {v0 : Nat} {r2 : Nat} {r4 : Nat} {I' : am_I} {L' : am_L} {mc' : Nat} {ms' : Nat} (o1 : am_ob Γ v0 8) (g3 : Γ.2.2 v0 1 = some r2) (g5 : Γ.2.2 v0 2 = some r4) (o6 : am_ob Γ r2 5) (hbc : mc' ≤ bc) (hbs : ms' ≤ bs) (hC : am_E m_X5_copyFrom d mc' ms' [.ref r2, .ref r4] Γ I L (.inl none) I' L') (kk : am_W m_X8_acceptDraft (d + 1) mc ms al (bc - mc') (bs - ms') 22 [(0, .ref v0)] [] Γ I' L' Q) : am_W m_X8_acceptDraft (d + 1) mc ms al bc bs 11 [(0, .ref v0)] [] Γ I L Q := by
  refine aw_aload_n dX8_acceptDraft_11 rfl ?_
  refine aw_getR dX8_acceptDraft_12 f_X8_19 o1 rfl g3 ?_
  refine aw_aload_n dX8_acceptDraft_15 rfl ?_
  refine aw_getR dX8_acceptDraft_16 f_X8_23 o1 rfl g5 ?_
  exact aw_askV (as := [.ref r4]) (rst := []) k_X5_copyFrom l_X8_83 i_X5_copyFrom s_X5_copyFrom rfl o6 dX8_acceptDraft_19 rfl (Nat.le_of_ble_eq_true rfl) hbc hbs hC rfl rfl kk
theorem bX8_acceptDraft_22 {d mc ms : Nat} {al : Bool} {bc bs : Nat} {Γ : am_G} {I : am_I} {L : am_L} {Q : am_Q} {v0 : Nat} (hq : Q (.inl none) Γ I L) : am_W m_X8_acceptDraft d mc ms al bc bs 22 [(0, .ref v0)] [] Γ I L Q := by
  exact aw_vret dX8_acceptDraft_22 rfl hq
theorem dX8_bestRank_0 : decode cX8_bestRank 0 = .ok (.aload_n 0, 1) := by decide +kernel
theorem dX8_bestRank_1 : decode cX8_bestRank 1 = .ok (.iload_n 1, 1) := by decide +kernel
theorem dX8_bestRank_2 : decode cX8_bestRank 2 = .ok (.invokevirtual 115, 3) := by decide +kernel
theorem dX8_bestRank_5 : decode cX8_bestRank 5 = .ok (.iload_n 2, 1) := by decide +kernel
theorem dX8_bestRank_6 : decode cX8_bestRank 6 = .ok (.iconst 0, 1) := by decide +kernel
theorem dX8_bestRank_7 : decode cX8_bestRank 7 = .ok (.bipush 30, 2) := by decide +kernel
theorem dX8_bestRank_9 : decode cX8_bestRank 9 = .ok (.invokestatic 90, 3) := by decide +kernel
theorem dX8_bestRank_12 : decode cX8_bestRank 12 = .ok (.aload_n 0, 1) := by decide +kernel
theorem dX8_bestRank_13 : decode cX8_bestRank 13 = .ok (.getfield 12, 3) := by decide +kernel
theorem dX8_bestRank_16 : decode cX8_bestRank 16 = .ok (.aload_n 0, 1) := by decide +kernel
theorem dX8_bestRank_17 : decode cX8_bestRank 17 = .ok (.getfield 19, 3) := by decide +kernel
theorem dX8_bestRank_20 : decode cX8_bestRank 20 = .ok (.aload_n 0, 1) := by decide +kernel
theorem dX8_bestRank_21 : decode cX8_bestRank 21 = .ok (.getfield 19, 3) := by decide +kernel
theorem dX8_bestRank_24 : decode cX8_bestRank 24 = .ok (.getfield 121, 3) := by decide +kernel
theorem dX8_bestRank_27 : decode cX8_bestRank 27 = .ok (.iload_n 1, 1) := by decide +kernel
theorem dX8_bestRank_28 : decode cX8_bestRank 28 = .ok (.aaload, 1) := by decide +kernel
theorem dX8_bestRank_29 : decode cX8_bestRank 29 = .ok (.iconst 1, 1) := by decide +kernel
theorem dX8_bestRank_30 : decode cX8_bestRank 30 = .ok (.iload_n 2, 1) := by decide +kernel
theorem dX8_bestRank_31 : decode cX8_bestRank 31 = .ok (.ishl, 1) := by decide +kernel
theorem dX8_bestRank_32 : decode cX8_bestRank 32 = .ok (.iconst (-1), 1) := by decide +kernel
theorem dX8_bestRank_33 : decode cX8_bestRank 33 = .ok (.invokevirtual 307, 3) := by decide +kernel
theorem dX8_bestRank_36 : decode cX8_bestRank 36 = .ok (.aload_n 0, 1) := by decide +kernel
theorem dX8_bestRank_37 : decode cX8_bestRank 37 = .ok (.getfield 12, 3) := by decide +kernel
theorem dX8_bestRank_40 : decode cX8_bestRank 40 = .ok (.aload_n 0, 1) := by decide +kernel
theorem dX8_bestRank_41 : decode cX8_bestRank 41 = .ok (.getfield 19, 3) := by decide +kernel
theorem dX8_bestRank_44 : decode cX8_bestRank 44 = .ok (.invokevirtual 160, 3) := by decide +kernel
theorem dX8_bestRank_47 : decode cX8_bestRank 47 = .ok (.iload_n 2, 1) := by decide +kernel
theorem dX8_bestRank_48 : decode cX8_bestRank 48 = .ok (.invokevirtual 311, 3) := by decide +kernel
theorem dX8_bestRank_51 : decode cX8_bestRank 51 = .ok (.lreturn, 1) := by decide +kernel
theorem bX8_bestRank_0 {d mc ms : Nat} {al : Bool} {bc bs : Nat} {Γ : am_G} {I : am_I} {L : am_L} {Q : am_Q} {v0 : Nat} {v1 : Int32} {v2 : Int32} {I' : am_I} {L' : am_L} {mc' : Nat} {ms' : Nat} (o1 : am_ob Γ v0 8) (hbc : mc' ≤ bc) (hbs : ms' ≤ bs) (hC : am_E m_X8_requireGate d mc' ms' [.ref v0, .int v1] Γ I L (.inl none) I' L') (kk : am_W m_X8_bestRank (d + 1) mc ms al (bc - mc') (bs - ms') 5 [(0, .ref v0), (1, .int v1), (2, .int v2)] [] Γ I' L' Q) : am_W m_X8_bestRank (d + 1) mc ms al bc bs 0 [(0, .ref v0), (1, .int v1), (2, .int v2)] [] Γ I L Q := by
  refine aw_aload_n dX8_bestRank_0 rfl ?_
  refine aw_iload_n dX8_bestRank_1 rfl ?_
  exact aw_askV (as := [.int v1]) (rst := []) k_X8_requireGate l_X8_115 i_X8_requireGate s_X8_requireGate rfl o1 dX8_bestRank_2 rfl (Nat.le_of_ble_eq_true rfl) hbc hbs hC rfl rfl kk
theorem bX8_bestRank_0x {d mc ms : Nat} {al : Bool} {bc bs : Nat} {Γ : am_G} {I : am_I} {L : am_L} {Q : am_Q} {v0 : Nat} {v1 : Int32} {v2 : Int32} {I' : am_I} {L' : am_L} {mc' : Nat} {ms' : Nat} {E : String} (o1 : am_ob Γ v0 8) (hbc : mc' ≤ bc) (hbs : ms' ≤ bs) (hC : am_E m_X8_requireGate d mc' ms' [.ref v0, .int v1] Γ I L (.inr E) I' L') (hq : Q (.inr E) Γ I' L') : am_W m_X8_bestRank (d + 1) mc ms al bc bs 0 [(0, .ref v0), (1, .int v1), (2, .int v2)] [] Γ I L Q := by
  refine aw_aload_n dX8_bestRank_0 rfl ?_
  refine aw_iload_n dX8_bestRank_1 rfl ?_
  exact aw_fallV (as := [.int v1]) (rst := []) k_X8_requireGate l_X8_115 i_X8_requireGate s_X8_requireGate rfl o1 dX8_bestRank_2 rfl (Nat.le_of_ble_eq_true rfl) hbc hbs rfl hC rfl hq
theorem bX8_bestRank_5 {d mc ms : Nat} {al : Bool} {bc bs : Nat} {Γ : am_G} {I : am_I} {L : am_L} {Q : am_Q} {v0 : Nat} {v1 : Int32} {v2 : Int32} {I' : am_I} {L' : am_L} {mc' : Nat} {ms' : Nat} (hbc : mc' ≤ bc) (hbs : ms' ≤ bs) (hC : am_E m_X8_requireRange d mc' ms' [.int v2, .int 0, .int 30] Γ I L (.inl none) I' L') (kk : am_W m_X8_bestRank (d + 1) mc ms al (bc - mc') (bs - ms') 12 [(0, .ref v0), (1, .int v1), (2, .int v2)] [] Γ I' L' Q) : am_W m_X8_bestRank (d + 1) mc ms al bc bs 5 [(0, .ref v0), (1, .int v1), (2, .int v2)] [] Γ I L Q := by
  refine aw_iload_n dX8_bestRank_5 rfl ?_
  refine aw_iconst dX8_bestRank_6 ci_0 ?_
  refine aw_bipush dX8_bestRank_7 cb_30 ?_
  exact aw_askS (as := [.int v2, .int 0, .int 30]) (rst := []) k_X8_requireRange l_X8_90 t_X8_requireRange dX8_bestRank_9 rfl (Nat.le_of_ble_eq_true rfl) hbc hbs hC rfl rfl kk
theorem bX8_bestRank_5x {d mc ms : Nat} {al : Bool} {bc bs : Nat} {Γ : am_G} {I : am_I} {L : am_L} {Q : am_Q} {v0 : Nat} {v1 : Int32} {v2 : Int32} {I' : am_I} {L' : am_L} {mc' : Nat} {ms' : Nat} {E : String} (hbc : mc' ≤ bc) (hbs : ms' ≤ bs) (hC : am_E m_X8_requireRange d mc' ms' [.int v2, .int 0, .int 30] Γ I L (.inr E) I' L') (hq : Q (.inr E) Γ I' L') : am_W m_X8_bestRank (d + 1) mc ms al bc bs 5 [(0, .ref v0), (1, .int v1), (2, .int v2)] [] Γ I L Q := by
  refine aw_iload_n dX8_bestRank_5 rfl ?_
  refine aw_iconst dX8_bestRank_6 ci_0 ?_
  refine aw_bipush dX8_bestRank_7 cb_30 ?_
  exact aw_fallS (as := [.int v2, .int 0, .int 30]) (rst := []) k_X8_requireRange l_X8_90 t_X8_requireRange dX8_bestRank_9 rfl (Nat.le_of_ble_eq_true rfl) hbc hbs rfl hC rfl hq
theorem bX8_bestRank_12 {d mc ms : Nat} {al : Bool} {bc bs : Nat} {Γ : am_G} {I : am_I} {L : am_L} {Q : am_Q} {v0 : Nat} {v1 : Int32} {v2 : Int32} {r2 : Nat} {r4 : Nat} {r7 : Nat} {n_r7 : Nat} {r11 : Nat} {I' : am_I} {L' : am_L} {mc' : Nat} {ms' : Nat} (o1 : am_ob Γ v0 8) (g3 : Γ.2.2 v0 0 = some r2) (g5 : Γ.2.2 v0 1 = some r4) (o6 : am_ob Γ r4 5) (g8 : Γ.2.2 r4 9 = some r7) (a9 : am_ar Γ r7 6 n_r7 0) (i10 : vp_in v1 n_r7) (g12 : Γ.2.2 r7 (v1.toNatClampNeg) = some r11) (o13 : am_ob Γ r2 4) (hbc : mc' ≤ bc) (hbs : ms' ≤ bs) (hC : am_E m_X4_solve d mc' ms' [.ref r2, .ref r4, .ref r11, .int (1 <<< (v2 &&& 31)), .int (-1)] Γ I L (.inl none) I' L') (kk : am_W m_X8_bestRank (d + 1) mc ms al (bc - mc') (bs - ms') 36 [(0, .ref v0), (1, .int v1), (2, .int v2)] [] Γ I' L' Q) : am_W m_X8_bestRank (d + 1) mc ms al bc bs 12 [(0, .ref v0), (1, .int v1), (2, .int v2)] [] Γ I L Q := by
  refine aw_aload_n dX8_bestRank_12 rfl ?_
  refine aw_getR dX8_bestRank_13 f_X8_12 o1 rfl g3 ?_
  refine aw_aload_n dX8_bestRank_16 rfl ?_
  refine aw_getR dX8_bestRank_17 f_X8_19 o1 rfl g5 ?_
  refine aw_aload_n dX8_bestRank_20 rfl ?_
  refine aw_getR dX8_bestRank_21 f_X8_19 o1 rfl g5 ?_
  refine aw_getR dX8_bestRank_24 f_X8_121 o6 rfl g8 ?_
  refine aw_iload_n dX8_bestRank_27 rfl ?_
  refine aw_aald dX8_bestRank_28 a9 i10 g12 ?_
  refine aw_iconst dX8_bestRank_29 ci_1 ?_
  refine aw_iload_n dX8_bestRank_30 rfl ?_
  refine aw_ishl dX8_bestRank_31 ?_
  refine aw_iconst dX8_bestRank_32 ci_m1 ?_
  exact aw_askV (as := [.ref r4, .ref r11, .int (1 <<< (v2 &&& 31)), .int (-1)]) (rst := []) k_X4_solve l_X8_307 i_X4_solve s_X4_solve rfl o13 dX8_bestRank_33 rfl (Nat.le_of_ble_eq_true rfl) hbc hbs hC rfl rfl kk
theorem bX8_bestRank_36 {d mc ms : Nat} {al : Bool} {bc bs : Nat} {Γ : am_G} {I : am_I} {L : am_L} {Q : am_Q} {v0 : Nat} {v1 : Int32} {v2 : Int32} {r2 : Nat} {r4 : Nat} {I' : am_I} {L' : am_L} {mc' : Nat} {ms' : Nat} {r : Int32} (o1 : am_ob Γ v0 8) (g3 : Γ.2.2 v0 0 = some r2) (g5 : Γ.2.2 v0 1 = some r4) (o6 : am_ob Γ r4 5) (hbc : mc' ≤ bc) (hbs : ms' ≤ bs) (hC : am_E m_X5_allTypes d mc' ms' [.ref r4] Γ I L (.inl (some (.int r))) I' L') (kk : am_W m_X8_bestRank (d + 1) mc ms al (bc - mc') (bs - ms') 47 [(0, .ref v0), (1, .int v1), (2, .int v2)] [.int r, .ref r2] Γ I' L' Q) : am_W m_X8_bestRank (d + 1) mc ms al bc bs 36 [(0, .ref v0), (1, .int v1), (2, .int v2)] [] Γ I L Q := by
  refine aw_aload_n dX8_bestRank_36 rfl ?_
  refine aw_getR dX8_bestRank_37 f_X8_12 o1 rfl g3 ?_
  refine aw_aload_n dX8_bestRank_40 rfl ?_
  refine aw_getR dX8_bestRank_41 f_X8_19 o1 rfl g5 ?_
  exact aw_askV (as := []) (rst := [.ref r2]) k_X5_allTypes l_X8_160 i_X5_allTypes s_X5_allTypes rfl o6 dX8_bestRank_44 rfl (Nat.le_of_ble_eq_true rfl) hbc hbs hC rfl rfl kk
theorem bX8_bestRank_47 {d mc ms : Nat} {al : Bool} {bc bs : Nat} {Γ : am_G} {I : am_I} {L : am_L} {Q : am_Q} {v0 : Nat} {v1 : Int32} {v2 : Int32} {w0 : Nat} {w1 : Int32} {I' : am_I} {L' : am_L} {mc' : Nat} {ms' : Nat} {r : Int64} (o1 : am_ob Γ w0 4) (hbc : mc' ≤ bc) (hbs : ms' ≤ bs) (hC : am_E m_X4_rankOf d mc' ms' [.ref w0, .int w1, .int v2] Γ I L (.inl (some (.long r))) I' L') (kk : am_W m_X8_bestRank (d + 1) mc ms al (bc - mc') (bs - ms') 51 [(0, .ref v0), (1, .int v1), (2, .int v2)] [.long r] Γ I' L' Q) : am_W m_X8_bestRank (d + 1) mc ms al bc bs 47 [(0, .ref v0), (1, .int v1), (2, .int v2)] [.int w1, .ref w0] Γ I L Q := by
  refine aw_iload_n dX8_bestRank_47 rfl ?_
  exact aw_askV (as := [.int w1, .int v2]) (rst := []) k_X4_rankOf l_X8_311 i_X4_rankOf s_X4_rankOf rfl o1 dX8_bestRank_48 rfl (Nat.le_of_ble_eq_true rfl) hbc hbs hC rfl rfl kk
theorem bX8_bestRank_51 {d mc ms : Nat} {al : Bool} {bc bs : Nat} {Γ : am_G} {I : am_I} {L : am_L} {Q : am_Q} {v0 : Nat} {v1 : Int32} {v2 : Int32} {w0 : Int64} (hq : Q (.inl (some (.long w0))) Γ I L) : am_W m_X8_bestRank d mc ms al bc bs 51 [(0, .ref v0), (1, .int v1), (2, .int v2)] [.long w0] Γ I L Q := by
  exact aw_lret dX8_bestRank_51 rfl hq
theorem dX8_requireQuestion_0 : decode cX8_requireQuestion 0 = .ok (.iload_n 1, 1) := by decide +kernel
theorem dX8_requireQuestion_1 : decode cX8_requireQuestion 1 = .ok (.ifCond .lt 14, 3) := by decide +kernel
theorem dX8_requireQuestion_4 : decode cX8_requireQuestion 4 = .ok (.iload_n 1, 1) := by decide +kernel
theorem dX8_requireQuestion_5 : decode cX8_requireQuestion 5 = .ok (.aload_n 0, 1) := by decide +kernel
theorem dX8_requireQuestion_6 : decode cX8_requireQuestion 6 = .ok (.getfield 19, 3) := by decide +kernel
theorem dX8_requireQuestion_9 : decode cX8_requireQuestion 9 = .ok (.getfield 184, 3) := by decide +kernel
theorem dX8_requireQuestion_12 : decode cX8_requireQuestion 12 = .ok (.if_icmp .lt 11, 3) := by decide +kernel
theorem dX8_requireQuestion_15 : decode cX8_requireQuestion 15 = .ok (.new 335, 3) := by decide +kernel
theorem dX8_requireQuestion_18 : decode cX8_requireQuestion 18 = .ok (.dup, 1) := by decide +kernel
theorem dX8_requireQuestion_19 : decode cX8_requireQuestion 19 = .ok (.invokespecial 337, 3) := by decide +kernel
theorem dX8_requireQuestion_22 : decode cX8_requireQuestion 22 = .ok (.athrow, 1) := by decide +kernel
theorem dX8_requireQuestion_23 : decode cX8_requireQuestion 23 = .ok (.return_, 1) := by decide +kernel
theorem bX8_requireQuestion_0 {d mc ms : Nat} {al : Bool} {bc bs : Nat} {Γ : am_G} {I : am_I} {L : am_L} {Q : am_Q} {v0 : Nat} {v1 : Int32} (kt : v1 < 0 → am_W m_X8_requireQuestion d mc ms al bc bs 15 [(0, .ref v0), (1, .int v1)] [] Γ I L Q) (kf : ¬ v1 < 0 → am_W m_X8_requireQuestion d mc ms al bc bs 4 [(0, .ref v0), (1, .int v1)] [] Γ I L Q) : am_W m_X8_requireQuestion d mc ms al bc bs 0 [(0, .ref v0), (1, .int v1)] [] Γ I L Q := by
  refine aw_iload_n dX8_requireQuestion_0 rfl ?_
  exact aw_if_lt dX8_requireQuestion_1 (by decide) kt kf
theorem bX8_requireQuestion_4 {d mc ms : Nat} {al : Bool} {bc bs : Nat} {Γ : am_G} {I : am_I} {L : am_L} {Q : am_Q} {v0 : Nat} {v1 : Int32} {r2 : Nat} (o1 : am_ob Γ v0 8) (g3 : Γ.2.2 v0 1 = some r2) (o4 : am_ob Γ r2 5) (kt : v1 < (I r2 0) → am_W m_X8_requireQuestion d mc ms al bc bs 23 [(0, .ref v0), (1, .int v1)] [] Γ I L Q) (kf : ¬ v1 < (I r2 0) → am_W m_X8_requireQuestion d mc ms al bc bs 15 [(0, .ref v0), (1, .int v1)] [] Γ I L Q) : am_W m_X8_requireQuestion d mc ms al bc bs 4 [(0, .ref v0), (1, .int v1)] [] Γ I L Q := by
  refine aw_iload_n dX8_requireQuestion_4 rfl ?_
  refine aw_aload_n dX8_requireQuestion_5 rfl ?_
  refine aw_getR dX8_requireQuestion_6 f_X8_19 o1 rfl g3 ?_
  refine aw_getI dX8_requireQuestion_9 f_X8_184 o4 rfl ?_
  exact aw_icmp_lt dX8_requireQuestion_12 (by decide) kt kf
theorem bX8_requireQuestion_15 {d mc ms : Nat} {al : Bool} {bc bs : Nat} {Γ : am_G} {I : am_I} {L : am_L} {Q : am_Q} {v0 : Nat} {v1 : Int32} (hb : 1 ≤ bc) (hb2 : 6 ≤ bs) (hq : Q (.inr "java/lang/IndexOutOfBoundsException") Γ I L) : am_W m_X8_requireQuestion d mc ms al bc bs 15 [(0, .ref v0), (1, .int v1)] [] Γ I L Q := by
  have e1 : bc - 1 + 1 = bc := by omega
  have e2 : bs - 6 + 6 = bs := by omega
  have k9 := aw_throw (mi := m_X8_requireQuestion) (d := d) (mc := mc) (ms := ms) (al := al) (bc := bc - 1) (bs := bs - 6) (ls := [(0, .ref v0), (1, .int v1)]) (st := []) (Γ := Γ) (I := I) (L := L) (Q := Q) tk_X8_335_337 rfl dX8_requireQuestion_15 dX8_requireQuestion_18 dX8_requireQuestion_19 dX8_requireQuestion_22 (Nat.le_of_ble_eq_true rfl) hq
  rw [e1, e2] at k9
  exact k9
theorem bX8_requireQuestion_23 {d mc ms : Nat} {al : Bool} {bc bs : Nat} {Γ : am_G} {I : am_I} {L : am_L} {Q : am_Q} {v0 : Nat} {v1 : Int32} (hq : Q (.inl none) Γ I L) : am_W m_X8_requireQuestion d mc ms al bc bs 23 [(0, .ref v0), (1, .int v1)] [] Γ I L Q := by
  exact aw_vret dX8_requireQuestion_23 rfl hq
theorem dX8_requireType_0 : decode cX8_requireType 0 = .ok (.iload_n 1, 1) := by decide +kernel
theorem dX8_requireType_1 : decode cX8_requireType 1 = .ok (.ifCond .lt 14, 3) := by decide +kernel
theorem dX8_requireType_4 : decode cX8_requireType 4 = .ok (.iload_n 1, 1) := by decide +kernel
theorem dX8_requireType_5 : decode cX8_requireType 5 = .ok (.aload_n 0, 1) := by decide +kernel
theorem dX8_requireType_6 : decode cX8_requireType 6 = .ok (.getfield 19, 3) := by decide +kernel
theorem dX8_requireType_9 : decode cX8_requireType 9 = .ok (.getfield 103, 3) := by decide +kernel
theorem dX8_requireType_12 : decode cX8_requireType 12 = .ok (.if_icmp .lt 11, 3) := by decide +kernel
theorem dX8_requireType_15 : decode cX8_requireType 15 = .ok (.new 335, 3) := by decide +kernel
theorem dX8_requireType_18 : decode cX8_requireType 18 = .ok (.dup, 1) := by decide +kernel
theorem dX8_requireType_19 : decode cX8_requireType 19 = .ok (.invokespecial 337, 3) := by decide +kernel
theorem dX8_requireType_22 : decode cX8_requireType 22 = .ok (.athrow, 1) := by decide +kernel
theorem dX8_requireType_23 : decode cX8_requireType 23 = .ok (.return_, 1) := by decide +kernel
theorem bX8_requireType_0 {d mc ms : Nat} {al : Bool} {bc bs : Nat} {Γ : am_G} {I : am_I} {L : am_L} {Q : am_Q} {v0 : Nat} {v1 : Int32} (kt : v1 < 0 → am_W m_X8_requireType d mc ms al bc bs 15 [(0, .ref v0), (1, .int v1)] [] Γ I L Q) (kf : ¬ v1 < 0 → am_W m_X8_requireType d mc ms al bc bs 4 [(0, .ref v0), (1, .int v1)] [] Γ I L Q) : am_W m_X8_requireType d mc ms al bc bs 0 [(0, .ref v0), (1, .int v1)] [] Γ I L Q := by
  refine aw_iload_n dX8_requireType_0 rfl ?_
  exact aw_if_lt dX8_requireType_1 (by decide) kt kf
theorem bX8_requireType_4 {d mc ms : Nat} {al : Bool} {bc bs : Nat} {Γ : am_G} {I : am_I} {L : am_L} {Q : am_Q} {v0 : Nat} {v1 : Int32} {r2 : Nat} (o1 : am_ob Γ v0 8) (g3 : Γ.2.2 v0 1 = some r2) (o4 : am_ob Γ r2 5) (kt : v1 < (I r2 1) → am_W m_X8_requireType d mc ms al bc bs 23 [(0, .ref v0), (1, .int v1)] [] Γ I L Q) (kf : ¬ v1 < (I r2 1) → am_W m_X8_requireType d mc ms al bc bs 15 [(0, .ref v0), (1, .int v1)] [] Γ I L Q) : am_W m_X8_requireType d mc ms al bc bs 4 [(0, .ref v0), (1, .int v1)] [] Γ I L Q := by
  refine aw_iload_n dX8_requireType_4 rfl ?_
  refine aw_aload_n dX8_requireType_5 rfl ?_
  refine aw_getR dX8_requireType_6 f_X8_19 o1 rfl g3 ?_
  refine aw_getI dX8_requireType_9 f_X8_103 o4 rfl ?_
  exact aw_icmp_lt dX8_requireType_12 (by decide) kt kf
theorem bX8_requireType_15 {d mc ms : Nat} {al : Bool} {bc bs : Nat} {Γ : am_G} {I : am_I} {L : am_L} {Q : am_Q} {v0 : Nat} {v1 : Int32} (hb : 1 ≤ bc) (hb2 : 6 ≤ bs) (hq : Q (.inr "java/lang/IndexOutOfBoundsException") Γ I L) : am_W m_X8_requireType d mc ms al bc bs 15 [(0, .ref v0), (1, .int v1)] [] Γ I L Q := by
  have e1 : bc - 1 + 1 = bc := by omega
  have e2 : bs - 6 + 6 = bs := by omega
  have k9 := aw_throw (mi := m_X8_requireType) (d := d) (mc := mc) (ms := ms) (al := al) (bc := bc - 1) (bs := bs - 6) (ls := [(0, .ref v0), (1, .int v1)]) (st := []) (Γ := Γ) (I := I) (L := L) (Q := Q) tk_X8_335_337 rfl dX8_requireType_15 dX8_requireType_18 dX8_requireType_19 dX8_requireType_22 (Nat.le_of_ble_eq_true rfl) hq
  rw [e1, e2] at k9
  exact k9
theorem bX8_requireType_23 {d mc ms : Nat} {al : Bool} {bc bs : Nat} {Γ : am_G} {I : am_I} {L : am_L} {Q : am_Q} {v0 : Nat} {v1 : Int32} (hq : Q (.inl none) Γ I L) : am_W m_X8_requireType d mc ms al bc bs 23 [(0, .ref v0), (1, .int v1)] [] Γ I L Q := by
  exact aw_vret dX8_requireType_23 rfl hq
theorem dX8_requireGate_0 : decode cX8_requireGate 0 = .ok (.iload_n 1, 1) := by decide +kernel
theorem dX8_requireGate_1 : decode cX8_requireGate 1 = .ok (.ifCond .lt 14, 3) := by decide +kernel
theorem dX8_requireGate_4 : decode cX8_requireGate 4 = .ok (.iload_n 1, 1) := by decide +kernel
theorem dX8_requireGate_5 : decode cX8_requireGate 5 = .ok (.aload_n 0, 1) := by decide +kernel
theorem dX8_requireGate_6 : decode cX8_requireGate 6 = .ok (.getfield 19, 3) := by decide +kernel
theorem dX8_requireGate_9 : decode cX8_requireGate 9 = .ok (.getfield 187, 3) := by decide +kernel
theorem dX8_requireGate_12 : decode cX8_requireGate 12 = .ok (.if_icmp .lt 11, 3) := by decide +kernel
theorem dX8_requireGate_15 : decode cX8_requireGate 15 = .ok (.new 335, 3) := by decide +kernel
theorem dX8_requireGate_18 : decode cX8_requireGate 18 = .ok (.dup, 1) := by decide +kernel
theorem dX8_requireGate_19 : decode cX8_requireGate 19 = .ok (.invokespecial 337, 3) := by decide +kernel
theorem dX8_requireGate_22 : decode cX8_requireGate 22 = .ok (.athrow, 1) := by decide +kernel
theorem dX8_requireGate_23 : decode cX8_requireGate 23 = .ok (.return_, 1) := by decide +kernel
theorem bX8_requireGate_0 {d mc ms : Nat} {al : Bool} {bc bs : Nat} {Γ : am_G} {I : am_I} {L : am_L} {Q : am_Q} {v0 : Nat} {v1 : Int32} (kt : v1 < 0 → am_W m_X8_requireGate d mc ms al bc bs 15 [(0, .ref v0), (1, .int v1)] [] Γ I L Q) (kf : ¬ v1 < 0 → am_W m_X8_requireGate d mc ms al bc bs 4 [(0, .ref v0), (1, .int v1)] [] Γ I L Q) : am_W m_X8_requireGate d mc ms al bc bs 0 [(0, .ref v0), (1, .int v1)] [] Γ I L Q := by
  refine aw_iload_n dX8_requireGate_0 rfl ?_
  exact aw_if_lt dX8_requireGate_1 (by decide) kt kf
theorem bX8_requireGate_4 {d mc ms : Nat} {al : Bool} {bc bs : Nat} {Γ : am_G} {I : am_I} {L : am_L} {Q : am_Q} {v0 : Nat} {v1 : Int32} {r2 : Nat} (o1 : am_ob Γ v0 8) (g3 : Γ.2.2 v0 1 = some r2) (o4 : am_ob Γ r2 5) (kt : v1 < (I r2 2) → am_W m_X8_requireGate d mc ms al bc bs 23 [(0, .ref v0), (1, .int v1)] [] Γ I L Q) (kf : ¬ v1 < (I r2 2) → am_W m_X8_requireGate d mc ms al bc bs 15 [(0, .ref v0), (1, .int v1)] [] Γ I L Q) : am_W m_X8_requireGate d mc ms al bc bs 4 [(0, .ref v0), (1, .int v1)] [] Γ I L Q := by
  refine aw_iload_n dX8_requireGate_4 rfl ?_
  refine aw_aload_n dX8_requireGate_5 rfl ?_
  refine aw_getR dX8_requireGate_6 f_X8_19 o1 rfl g3 ?_
  refine aw_getI dX8_requireGate_9 f_X8_187 o4 rfl ?_
  exact aw_icmp_lt dX8_requireGate_12 (by decide) kt kf
theorem bX8_requireGate_15 {d mc ms : Nat} {al : Bool} {bc bs : Nat} {Γ : am_G} {I : am_I} {L : am_L} {Q : am_Q} {v0 : Nat} {v1 : Int32} (hb : 1 ≤ bc) (hb2 : 6 ≤ bs) (hq : Q (.inr "java/lang/IndexOutOfBoundsException") Γ I L) : am_W m_X8_requireGate d mc ms al bc bs 15 [(0, .ref v0), (1, .int v1)] [] Γ I L Q := by
  have e1 : bc - 1 + 1 = bc := by omega
  have e2 : bs - 6 + 6 = bs := by omega
  have k9 := aw_throw (mi := m_X8_requireGate) (d := d) (mc := mc) (ms := ms) (al := al) (bc := bc - 1) (bs := bs - 6) (ls := [(0, .ref v0), (1, .int v1)]) (st := []) (Γ := Γ) (I := I) (L := L) (Q := Q) tk_X8_335_337 rfl dX8_requireGate_15 dX8_requireGate_18 dX8_requireGate_19 dX8_requireGate_22 (Nat.le_of_ble_eq_true rfl) hq
  rw [e1, e2] at k9
  exact k9
theorem bX8_requireGate_23 {d mc ms : Nat} {al : Bool} {bc bs : Nat} {Γ : am_G} {I : am_I} {L : am_L} {Q : am_Q} {v0 : Nat} {v1 : Int32} (hq : Q (.inl none) Γ I L) : am_W m_X8_requireGate d mc ms al bc bs 23 [(0, .ref v0), (1, .int v1)] [] Γ I L Q := by
  exact aw_vret dX8_requireGate_23 rfl hq
theorem dX8_requireNode_0 : decode cX8_requireNode 0 = .ok (.aload_n 0, 1) := by decide +kernel
theorem dX8_requireNode_1 : decode cX8_requireNode 1 = .ok (.iload_n 1, 1) := by decide +kernel
theorem dX8_requireNode_2 : decode cX8_requireNode 2 = .ok (.invokevirtual 115, 3) := by decide +kernel
theorem dX8_requireNode_5 : decode cX8_requireNode 5 = .ok (.iload_n 2, 1) := by decide +kernel
theorem dX8_requireNode_6 : decode cX8_requireNode 6 = .ok (.ifCond .lt 22, 3) := by decide +kernel
theorem dX8_requireNode_9 : decode cX8_requireNode 9 = .ok (.iload_n 2, 1) := by decide +kernel
theorem dX8_requireNode_10 : decode cX8_requireNode 10 = .ok (.aload_n 0, 1) := by decide +kernel
theorem dX8_requireNode_11 : decode cX8_requireNode 11 = .ok (.getfield 19, 3) := by decide +kernel
theorem dX8_requireNode_14 : decode cX8_requireNode 14 = .ok (.getfield 121, 3) := by decide +kernel
theorem dX8_requireNode_17 : decode cX8_requireNode 17 = .ok (.iload_n 1, 1) := by decide +kernel
theorem dX8_requireNode_18 : decode cX8_requireNode 18 = .ok (.aaload, 1) := by decide +kernel
theorem dX8_requireNode_19 : decode cX8_requireNode 19 = .ok (.getfield 148, 3) := by decide +kernel
theorem dX8_requireNode_22 : decode cX8_requireNode 22 = .ok (.getfield 152, 3) := by decide +kernel
theorem dX8_requireNode_25 : decode cX8_requireNode 25 = .ok (.if_icmp .lt 11, 3) := by decide +kernel
theorem dX8_requireNode_28 : decode cX8_requireNode 28 = .ok (.new 335, 3) := by decide +kernel
theorem dX8_requireNode_31 : decode cX8_requireNode 31 = .ok (.dup, 1) := by decide +kernel
theorem dX8_requireNode_32 : decode cX8_requireNode 32 = .ok (.invokespecial 337, 3) := by decide +kernel
theorem dX8_requireNode_35 : decode cX8_requireNode 35 = .ok (.athrow, 1) := by decide +kernel
theorem dX8_requireNode_36 : decode cX8_requireNode 36 = .ok (.return_, 1) := by decide +kernel
theorem bX8_requireNode_0 {d mc ms : Nat} {al : Bool} {bc bs : Nat} {Γ : am_G} {I : am_I} {L : am_L} {Q : am_Q} {v0 : Nat} {v1 : Int32} {v2 : Int32} {I' : am_I} {L' : am_L} {mc' : Nat} {ms' : Nat} (o1 : am_ob Γ v0 8) (hbc : mc' ≤ bc) (hbs : ms' ≤ bs) (hC : am_E m_X8_requireGate d mc' ms' [.ref v0, .int v1] Γ I L (.inl none) I' L') (kk : am_W m_X8_requireNode (d + 1) mc ms al (bc - mc') (bs - ms') 5 [(0, .ref v0), (1, .int v1), (2, .int v2)] [] Γ I' L' Q) : am_W m_X8_requireNode (d + 1) mc ms al bc bs 0 [(0, .ref v0), (1, .int v1), (2, .int v2)] [] Γ I L Q := by
  refine aw_aload_n dX8_requireNode_0 rfl ?_
  refine aw_iload_n dX8_requireNode_1 rfl ?_
  exact aw_askV (as := [.int v1]) (rst := []) k_X8_requireGate l_X8_115 i_X8_requireGate s_X8_requireGate rfl o1 dX8_requireNode_2 rfl (Nat.le_of_ble_eq_true rfl) hbc hbs hC rfl rfl kk
theorem bX8_requireNode_0x {d mc ms : Nat} {al : Bool} {bc bs : Nat} {Γ : am_G} {I : am_I} {L : am_L} {Q : am_Q} {v0 : Nat} {v1 : Int32} {v2 : Int32} {I' : am_I} {L' : am_L} {mc' : Nat} {ms' : Nat} {E : String} (o1 : am_ob Γ v0 8) (hbc : mc' ≤ bc) (hbs : ms' ≤ bs) (hC : am_E m_X8_requireGate d mc' ms' [.ref v0, .int v1] Γ I L (.inr E) I' L') (hq : Q (.inr E) Γ I' L') : am_W m_X8_requireNode (d + 1) mc ms al bc bs 0 [(0, .ref v0), (1, .int v1), (2, .int v2)] [] Γ I L Q := by
  refine aw_aload_n dX8_requireNode_0 rfl ?_
  refine aw_iload_n dX8_requireNode_1 rfl ?_
  exact aw_fallV (as := [.int v1]) (rst := []) k_X8_requireGate l_X8_115 i_X8_requireGate s_X8_requireGate rfl o1 dX8_requireNode_2 rfl (Nat.le_of_ble_eq_true rfl) hbc hbs rfl hC rfl hq
theorem bX8_requireNode_5 {d mc ms : Nat} {al : Bool} {bc bs : Nat} {Γ : am_G} {I : am_I} {L : am_L} {Q : am_Q} {v0 : Nat} {v1 : Int32} {v2 : Int32} (kt : v2 < 0 → am_W m_X8_requireNode d mc ms al bc bs 28 [(0, .ref v0), (1, .int v1), (2, .int v2)] [] Γ I L Q) (kf : ¬ v2 < 0 → am_W m_X8_requireNode d mc ms al bc bs 9 [(0, .ref v0), (1, .int v1), (2, .int v2)] [] Γ I L Q) : am_W m_X8_requireNode d mc ms al bc bs 5 [(0, .ref v0), (1, .int v1), (2, .int v2)] [] Γ I L Q := by
  refine aw_iload_n dX8_requireNode_5 rfl ?_
  exact aw_if_lt dX8_requireNode_6 (by decide) kt kf
theorem bX8_requireNode_9 {d mc ms : Nat} {al : Bool} {bc bs : Nat} {Γ : am_G} {I : am_I} {L : am_L} {Q : am_Q} {v0 : Nat} {v1 : Int32} {v2 : Int32} {r2 : Nat} {r5 : Nat} {n_r5 : Nat} {r9 : Nat} {r12 : Nat} (o1 : am_ob Γ v0 8) (g3 : Γ.2.2 v0 1 = some r2) (o4 : am_ob Γ r2 5) (g6 : Γ.2.2 r2 9 = some r5) (a7 : am_ar Γ r5 6 n_r5 0) (i8 : vp_in v1 n_r5) (g10 : Γ.2.2 r5 (v1.toNatClampNeg) = some r9) (o11 : am_ob Γ r9 0) (g13 : Γ.2.2 r9 5 = some r12) (o14 : am_ob Γ r12 7) (kt : v2 < (I r12 0) → am_W m_X8_requireNode d mc ms al bc bs 36 [(0, .ref v0), (1, .int v1), (2, .int v2)] [] Γ I L Q) (kf : ¬ v2 < (I r12 0) → am_W m_X8_requireNode d mc ms al bc bs 28 [(0, .ref v0), (1, .int v1), (2, .int v2)] [] Γ I L Q) : am_W m_X8_requireNode d mc ms al bc bs 9 [(0, .ref v0), (1, .int v1), (2, .int v2)] [] Γ I L Q := by
  refine aw_iload_n dX8_requireNode_9 rfl ?_
  refine aw_aload_n dX8_requireNode_10 rfl ?_
  refine aw_getR dX8_requireNode_11 f_X8_19 o1 rfl g3 ?_
  refine aw_getR dX8_requireNode_14 f_X8_121 o4 rfl g6 ?_
  refine aw_iload_n dX8_requireNode_17 rfl ?_
  refine aw_aald dX8_requireNode_18 a7 i8 g10 ?_
  refine aw_getR dX8_requireNode_19 f_X8_148 o11 rfl g13 ?_
  refine aw_getI dX8_requireNode_22 f_X8_152 o14 rfl ?_
  exact aw_icmp_lt dX8_requireNode_25 (by decide) kt kf
theorem bX8_requireNode_28 {d mc ms : Nat} {al : Bool} {bc bs : Nat} {Γ : am_G} {I : am_I} {L : am_L} {Q : am_Q} {v0 : Nat} {v1 : Int32} {v2 : Int32} (hb : 1 ≤ bc) (hb2 : 6 ≤ bs) (hq : Q (.inr "java/lang/IndexOutOfBoundsException") Γ I L) : am_W m_X8_requireNode d mc ms al bc bs 28 [(0, .ref v0), (1, .int v1), (2, .int v2)] [] Γ I L Q := by
  have e1 : bc - 1 + 1 = bc := by omega
  have e2 : bs - 6 + 6 = bs := by omega
  have k9 := aw_throw (mi := m_X8_requireNode) (d := d) (mc := mc) (ms := ms) (al := al) (bc := bc - 1) (bs := bs - 6) (ls := [(0, .ref v0), (1, .int v1), (2, .int v2)]) (st := []) (Γ := Γ) (I := I) (L := L) (Q := Q) tk_X8_335_337 rfl dX8_requireNode_28 dX8_requireNode_31 dX8_requireNode_32 dX8_requireNode_35 (Nat.le_of_ble_eq_true rfl) hq
  rw [e1, e2] at k9
  exact k9
theorem bX8_requireNode_36 {d mc ms : Nat} {al : Bool} {bc bs : Nat} {Γ : am_G} {I : am_I} {L : am_L} {Q : am_Q} {v0 : Nat} {v1 : Int32} {v2 : Int32} (hq : Q (.inl none) Γ I L) : am_W m_X8_requireNode d mc ms al bc bs 36 [(0, .ref v0), (1, .int v1), (2, .int v2)] [] Γ I L Q := by
  exact aw_vret dX8_requireNode_36 rfl hq
theorem dX8_requireRange_0 : decode cX8_requireRange 0 = .ok (.iload_n 0, 1) := by decide +kernel
theorem dX8_requireRange_1 : decode cX8_requireRange 1 = .ok (.iload_n 1, 1) := by decide +kernel
theorem dX8_requireRange_2 : decode cX8_requireRange 2 = .ok (.if_icmp .lt 8, 3) := by decide +kernel
theorem dX8_requireRange_5 : decode cX8_requireRange 5 = .ok (.iload_n 0, 1) := by decide +kernel
theorem dX8_requireRange_6 : decode cX8_requireRange 6 = .ok (.iload_n 2, 1) := by decide +kernel
theorem dX8_requireRange_7 : decode cX8_requireRange 7 = .ok (.if_icmp .le 11, 3) := by decide +kernel
theorem dX8_requireRange_10 : decode cX8_requireRange 10 = .ok (.new 338, 3) := by decide +kernel
theorem dX8_requireRange_13 : decode cX8_requireRange 13 = .ok (.dup, 1) := by decide +kernel
theorem dX8_requireRange_14 : decode cX8_requireRange 14 = .ok (.invokespecial 340, 3) := by decide +kernel
theorem dX8_requireRange_17 : decode cX8_requireRange 17 = .ok (.athrow, 1) := by decide +kernel
theorem dX8_requireRange_18 : decode cX8_requireRange 18 = .ok (.return_, 1) := by decide +kernel
theorem bX8_requireRange_0 {d mc ms : Nat} {al : Bool} {bc bs : Nat} {Γ : am_G} {I : am_I} {L : am_L} {Q : am_Q} {v0 : Int32} {v1 : Int32} {v2 : Int32} (kt : v0 < v1 → am_W m_X8_requireRange d mc ms al bc bs 10 [(0, .int v0), (1, .int v1), (2, .int v2)] [] Γ I L Q) (kf : ¬ v0 < v1 → am_W m_X8_requireRange d mc ms al bc bs 5 [(0, .int v0), (1, .int v1), (2, .int v2)] [] Γ I L Q) : am_W m_X8_requireRange d mc ms al bc bs 0 [(0, .int v0), (1, .int v1), (2, .int v2)] [] Γ I L Q := by
  refine aw_iload_n dX8_requireRange_0 rfl ?_
  refine aw_iload_n dX8_requireRange_1 rfl ?_
  exact aw_icmp_lt dX8_requireRange_2 (by decide) kt kf
theorem bX8_requireRange_5 {d mc ms : Nat} {al : Bool} {bc bs : Nat} {Γ : am_G} {I : am_I} {L : am_L} {Q : am_Q} {v0 : Int32} {v1 : Int32} {v2 : Int32} (kt : v0 ≤ v2 → am_W m_X8_requireRange d mc ms al bc bs 18 [(0, .int v0), (1, .int v1), (2, .int v2)] [] Γ I L Q) (kf : ¬ v0 ≤ v2 → am_W m_X8_requireRange d mc ms al bc bs 10 [(0, .int v0), (1, .int v1), (2, .int v2)] [] Γ I L Q) : am_W m_X8_requireRange d mc ms al bc bs 5 [(0, .int v0), (1, .int v1), (2, .int v2)] [] Γ I L Q := by
  refine aw_iload_n dX8_requireRange_5 rfl ?_
  refine aw_iload_n dX8_requireRange_6 rfl ?_
  exact aw_icmp_le dX8_requireRange_7 (by decide) kt kf
theorem bX8_requireRange_10 {d mc ms : Nat} {al : Bool} {bc bs : Nat} {Γ : am_G} {I : am_I} {L : am_L} {Q : am_Q} {v0 : Int32} {v1 : Int32} {v2 : Int32} (hb : 1 ≤ bc) (hb2 : 6 ≤ bs) (hq : Q (.inr "java/lang/IllegalArgumentException") Γ I L) : am_W m_X8_requireRange d mc ms al bc bs 10 [(0, .int v0), (1, .int v1), (2, .int v2)] [] Γ I L Q := by
  have e1 : bc - 1 + 1 = bc := by omega
  have e2 : bs - 6 + 6 = bs := by omega
  have k9 := aw_throw (mi := m_X8_requireRange) (d := d) (mc := mc) (ms := ms) (al := al) (bc := bc - 1) (bs := bs - 6) (ls := [(0, .int v0), (1, .int v1), (2, .int v2)]) (st := []) (Γ := Γ) (I := I) (L := L) (Q := Q) tk_X8_338_340 rfl dX8_requireRange_10 dX8_requireRange_13 dX8_requireRange_14 dX8_requireRange_17 (Nat.le_of_ble_eq_true rfl) hq
  rw [e1, e2] at k9
  exact k9
theorem bX8_requireRange_18 {d mc ms : Nat} {al : Bool} {bc bs : Nat} {Γ : am_G} {I : am_I} {L : am_L} {Q : am_Q} {v0 : Int32} {v1 : Int32} {v2 : Int32} (hq : Q (.inl none) Γ I L) : am_W m_X8_requireRange d mc ms al bc bs 18 [(0, .int v0), (1, .int v1), (2, .int v2)] [] Γ I L Q := by
  exact aw_vret dX8_requireRange_18 rfl hq
theorem dX8_holds_0 : decode cX8_holds 0 = .ok (.iload_n 0, 1) := by decide +kernel
theorem dX8_holds_1 : decode cX8_holds 1 = .ok (.iload_n 1, 1) := by decide +kernel
theorem dX8_holds_2 : decode cX8_holds 2 = .ok (.ishr, 1) := by decide +kernel
theorem dX8_holds_3 : decode cX8_holds 3 = .ok (.iconst 1, 1) := by decide +kernel
theorem dX8_holds_4 : decode cX8_holds 4 = .ok (.iand, 1) := by decide +kernel
theorem dX8_holds_5 : decode cX8_holds 5 = .ok (.ifCond .eq 7, 3) := by decide +kernel
theorem dX8_holds_8 : decode cX8_holds 8 = .ok (.iconst 1, 1) := by decide +kernel
theorem dX8_holds_9 : decode cX8_holds 9 = .ok (.goto 4, 3) := by decide +kernel
theorem dX8_holds_12 : decode cX8_holds 12 = .ok (.iconst 0, 1) := by decide +kernel
theorem dX8_holds_13 : decode cX8_holds 13 = .ok (.ireturn, 1) := by decide +kernel
theorem bX8_holds_0 {d mc ms : Nat} {al : Bool} {bc bs : Nat} {Γ : am_G} {I : am_I} {L : am_L} {Q : am_Q} {v0 : Int32} {v1 : Int32} (kt : ((v0 >>> (v1 &&& 31)) &&& 1) = 0 → am_W m_X8_holds d mc ms al bc bs 12 [(0, .int v0), (1, .int v1)] [] Γ I L Q) (kf : ¬ ((v0 >>> (v1 &&& 31)) &&& 1) = 0 → am_W m_X8_holds d mc ms al bc bs 8 [(0, .int v0), (1, .int v1)] [] Γ I L Q) : am_W m_X8_holds d mc ms al bc bs 0 [(0, .int v0), (1, .int v1)] [] Γ I L Q := by
  refine aw_iload_n dX8_holds_0 rfl ?_
  refine aw_iload_n dX8_holds_1 rfl ?_
  refine aw_ishr dX8_holds_2 ?_
  refine aw_iconst dX8_holds_3 ci_1 ?_
  refine aw_iand dX8_holds_4 ?_
  exact aw_if_eq dX8_holds_5 (by decide) kt kf
theorem bX8_holds_8 {d mc ms : Nat} {al : Bool} {bc bs : Nat} {Γ : am_G} {I : am_I} {L : am_L} {Q : am_Q} {v0 : Int32} {v1 : Int32} (kk : am_W m_X8_holds d mc ms al bc bs 13 [(0, .int v0), (1, .int v1)] [.int 1] Γ I L Q) : am_W m_X8_holds d mc ms al bc bs 8 [(0, .int v0), (1, .int v1)] [] Γ I L Q := by
  refine aw_iconst dX8_holds_8 ci_1 ?_
  exact aw_goto dX8_holds_9 (by decide) kk
theorem bX8_holds_12 {d mc ms : Nat} {al : Bool} {bc bs : Nat} {Γ : am_G} {I : am_I} {L : am_L} {Q : am_Q} {v0 : Int32} {v1 : Int32} (kk : am_W m_X8_holds d mc ms al bc bs 13 [(0, .int v0), (1, .int v1)] [.int 0] Γ I L Q) : am_W m_X8_holds d mc ms al bc bs 12 [(0, .int v0), (1, .int v1)] [] Γ I L Q := by
  refine aw_iconst dX8_holds_12 ci_0 ?_
  exact kk
theorem bX8_holds_13 {d mc ms : Nat} {al : Bool} {bc bs : Nat} {Γ : am_G} {I : am_I} {L : am_L} {Q : am_Q} {v0 : Int32} {v1 : Int32} {w0 : Int32} (hz : narrow .boolean (.int w0) = .int w0) (hq : Q (.inl (some (.int w0))) Γ I L) : am_W m_X8_holds d mc ms al bc bs 13 [(0, .int v0), (1, .int v1)] [.int w0] Γ I L Q := by
  exact aw_zret (ty := .boolean) dX8_holds_13 rfl hz hq
theorem dX8_errorsOf_0 : decode cX8_errorsOf 0 = .ok (.lload_n 0, 1) := by decide +kernel
theorem dX8_errorsOf_1 : decode cX8_errorsOf 1 = .ok (.bipush 25, 2) := by decide +kernel
theorem dX8_errorsOf_3 : decode cX8_errorsOf 3 = .ok (.lshr, 1) := by decide +kernel
theorem dX8_errorsOf_4 : decode cX8_errorsOf 4 = .ok (.l2i, 1) := by decide +kernel
theorem dX8_errorsOf_5 : decode cX8_errorsOf 5 = .ok (.ireturn, 1) := by decide +kernel
theorem bX8_errorsOf_0 {d mc ms : Nat} {al : Bool} {bc bs : Nat} {Γ : am_G} {I : am_I} {L : am_L} {Q : am_Q} {v0 : Int64} (hq : Q (.inl (some (.int (((v0 >>> ((25 : Int32).toInt64 &&& 63)) : Int64).toInt32)))) Γ I L) : am_W m_X8_errorsOf d mc ms al bc bs 0 [(0, .long v0)] [] Γ I L Q := by
  refine aw_lload_n dX8_errorsOf_0 rfl ?_
  refine aw_bipush dX8_errorsOf_1 cb_25 ?_
  refine aw_lshr dX8_errorsOf_3 ?_
  refine aw_l2i dX8_errorsOf_4 ?_
  exact aw_iret dX8_errorsOf_5 rfl hq
theorem dX8_workOf_0 : decode cX8_workOf 0 = .ok (.lload_n 0, 1) := by decide +kernel
theorem dX8_workOf_1 : decode cX8_workOf 1 = .ok (.iconst 3, 1) := by decide +kernel
theorem dX8_workOf_2 : decode cX8_workOf 2 = .ok (.lshr, 1) := by decide +kernel
theorem dX8_workOf_3 : decode cX8_workOf 3 = .ok (.l2i, 1) := by decide +kernel
theorem dX8_workOf_4 : decode cX8_workOf 4 = .ok (.ldc_w 341, 3) := by decide +kernel
theorem dX8_workOf_7 : decode cX8_workOf 7 = .ok (.iand, 1) := by decide +kernel
theorem dX8_workOf_8 : decode cX8_workOf 8 = .ok (.ireturn, 1) := by decide +kernel
theorem bX8_workOf_0 {d mc ms : Nat} {al : Bool} {bc bs : Nat} {Γ : am_G} {I : am_I} {L : am_L} {Q : am_Q} {v0 : Int64} (hq : Q (.inl (some (.int ((((v0 >>> ((3 : Int32).toInt64 &&& 63)) : Int64).toInt32) &&& 4194303)))) Γ I L) : am_W m_X8_workOf d mc ms al bc bs 0 [(0, .long v0)] [] Γ I L Q := by
  refine aw_lload_n dX8_workOf_0 rfl ?_
  refine aw_iconst dX8_workOf_1 ci_3 ?_
  refine aw_lshr dX8_workOf_2 ?_
  refine aw_l2i dX8_workOf_3 ?_
  refine aw_ldcW dX8_workOf_4 kc_X8_341 ?_
  refine aw_iand dX8_workOf_7 ?_
  exact aw_iret dX8_workOf_8 rfl hq
theorem dX8_rootOf_0 : decode cX8_rootOf 0 = .ok (.lload_n 0, 1) := by decide +kernel
theorem dX8_rootOf_1 : decode cX8_rootOf 1 = .ok (.l2i, 1) := by decide +kernel
theorem dX8_rootOf_2 : decode cX8_rootOf 2 = .ok (.bipush 7, 2) := by decide +kernel
theorem dX8_rootOf_4 : decode cX8_rootOf 4 = .ok (.iand, 1) := by decide +kernel
theorem dX8_rootOf_5 : decode cX8_rootOf 5 = .ok (.iconst 1, 1) := by decide +kernel
theorem dX8_rootOf_6 : decode cX8_rootOf 6 = .ok (.isub, 1) := by decide +kernel
theorem dX8_rootOf_7 : decode cX8_rootOf 7 = .ok (.ireturn, 1) := by decide +kernel
theorem bX8_rootOf_0 {d mc ms : Nat} {al : Bool} {bc bs : Nat} {Γ : am_G} {I : am_I} {L : am_L} {Q : am_Q} {v0 : Int64} (hq : Q (.inl (some (.int ((((v0 : Int64).toInt32) &&& 7) - 1)))) Γ I L) : am_W m_X8_rootOf d mc ms al bc bs 0 [(0, .long v0)] [] Γ I L Q := by
  refine aw_lload_n dX8_rootOf_0 rfl ?_
  refine aw_l2i dX8_rootOf_1 ?_
  refine aw_bipush dX8_rootOf_2 cb_7 ?_
  refine aw_iand dX8_rootOf_4 ?_
  refine aw_iconst dX8_rootOf_5 ci_1 ?_
  refine aw_isub dX8_rootOf_6 ?_
  exact aw_iret dX8_rootOf_7 rfl hq
