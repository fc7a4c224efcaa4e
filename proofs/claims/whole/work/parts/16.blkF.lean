/-! BLOCKS (printed by program): what each straight stretch of the code does in the numbered machine -/
theorem dL_truncateInput_0 : decode cL_truncateInput 0 = .ok (.aload_n 2, 1) := by decide +kernel
theorem dL_truncateInput_1 : decode cL_truncateInput 1 = .ok (.iconst 0, 1) := by decide +kernel
theorem dL_truncateInput_2 : decode cL_truncateInput 2 = .ok (.aload_n 0, 1) := by decide +kernel
theorem dL_truncateInput_3 : decode cL_truncateInput 3 = .ok (.iload_n 1, 1) := by decide +kernel
theorem dL_truncateInput_4 : decode cL_truncateInput 4 = .ok (.invokevirtual 7, 3) := by decide +kernel
theorem dL_truncateInput_7 : decode cL_truncateInput 7 = .ok (.i2l, 1) := by decide +kernel
theorem dL_truncateInput_8 : decode cL_truncateInput 8 = .ok (.lastore, 1) := by decide +kernel
theorem dL_truncateInput_9 : decode cL_truncateInput 9 = .ok (.goto 6, 3) := by decide +kernel
theorem dL_truncateInput_12 : decode cL_truncateInput 12 = .ok (.astore_n 3, 1) := by decide +kernel
theorem dL_truncateInput_13 : decode cL_truncateInput 13 = .ok (.iconst 1, 1) := by decide +kernel
theorem dL_truncateInput_14 : decode cL_truncateInput 14 = .ok (.ireturn, 1) := by decide +kernel
theorem dL_truncateInput_15 : decode cL_truncateInput 15 = .ok (.iconst 0, 1) := by decide +kernel
theorem dL_truncateInput_16 : decode cL_truncateInput 16 = .ok (.ireturn, 1) := by decide +kernel
theorem bL_truncateInput_0 {d mc ms : Nat} {al : Bool} {bc bs : Nat} {Γ : am_G} {I : am_I} {L : am_L} {Q : am_Q} {v0 : Nat} {v1 : Int32} {v2 : Nat} {I' : am_I} {L' : am_L} {mc' : Nat} {ms' : Nat} {r : Int32} (o1 : am_ob Γ v0 8) (hbc : mc' ≤ bc) (hbs : ms' ≤ bs) (hC : am_E m_X8_truncateInput d mc' ms' [.ref v0, .int v1] Γ I L (.inl (some (.int r))) I' L') (kk : am_W m_L_truncateInput (d + 1) mc ms al (bc - mc') (bs - ms') 7 [(0, .ref v0), (1, .int v1), (2, .ref v2)] [.int r, .int 0, .ref v2] Γ I' L' Q) : am_W m_L_truncateInput (d + 1) mc ms al bc bs 0 [(0, .ref v0), (1, .int v1), (2, .ref v2)] [] Γ I L Q := by
  refine aw_aload_n dL_truncateInput_0 rfl ?_
  refine aw_iconst dL_truncateInput_1 ci_0 ?_
  refine aw_aload_n dL_truncateInput_2 rfl ?_
  refine aw_iload_n dL_truncateInput_3 rfl ?_
  exact aw_askV (as := [.int v1]) (rst := [.int 0, .ref v2]) k_X8_truncateInput l_L_7 i_X8_truncateInput s_X8_truncateInput rfl o1 dL_truncateInput_4 rfl (Nat.le_of_ble_eq_true rfl) hbc hbs hC rfl rfl kk
theorem bL_truncateInput_0c1 {d mc ms : Nat} {al : Bool} {bc bs : Nat} {Γ : am_G} {I : am_I} {L : am_L} {Q : am_Q} {v0 : Nat} {v1 : Int32} {v2 : Nat} {I' : am_I} {L' : am_L} {mc' : Nat} {ms' : Nat} (o1 : am_ob Γ v0 8) (hbc : mc' ≤ bc) (hbs : ms' ≤ bs) (hC : am_E m_X8_truncateInput d mc' ms' [.ref v0, .int v1] Γ I L (.inr "java/lang/IllegalArgumentException") I' L') (kk : am_W m_L_truncateInput (d + 1) mc ms al (bc - mc') (bs - ms') 13 [(0, .ref v0), (1, .int v1), (2, .ref v2)] [] Γ I' L' Q) : am_W m_L_truncateInput (d + 1) mc ms al bc bs 0 [(0, .ref v0), (1, .int v1), (2, .ref v2)] [] Γ I L Q := by
  refine aw_aload_n dL_truncateInput_0 rfl ?_
  refine aw_iconst dL_truncateInput_1 ci_0 ?_
  refine aw_aload_n dL_truncateInput_2 rfl ?_
  refine aw_iload_n dL_truncateInput_3 rfl ?_
  refine aw_catchV (as := [.int v1]) (rst := [.int 0, .ref v2]) (nm := "java/lang/IllegalArgumentException") (k := 3) (len := 1) (ls' := [(0, .ref v0), (1, .int v1), (2, .ref v2)]) k_X8_truncateInput l_L_7 i_X8_truncateInput s_X8_truncateInput rfl o1 dL_truncateInput_4 rfl (Nat.le_of_ble_eq_true rfl) hbc hbs hC rfl [] (0, 9, 12, 13) [] rfl ?_ (by decide) (by decide) cl_L_13 ca_IllegalArgumentException (Or.inl ⟨3, rfl, dL_truncateInput_12, rfl⟩) (by decide) ?_ kk
  · intro z hz
    cases hz
  · intro q hq
    simp only [List.mem_cons, List.not_mem_nil, or_false] at hq
    rcases hq with rfl | rfl | rfl
    · exact List.mem_filter.mpr ⟨by simp, rfl⟩
    · exact List.mem_filter.mpr ⟨by simp, rfl⟩
    · exact List.mem_filter.mpr ⟨by simp, rfl⟩
theorem bL_truncateInput_7 {d mc ms : Nat} {al : Bool} {bc bs : Nat} {Γ : am_G} {I : am_I} {L : am_L} {Q : am_Q} {v0 : Nat} {v1 : Int32} {v2 : Nat} {w0 : Nat} {w1 : Int32} {w2 : Int32} {n_w0 : Nat} (a1 : am_ar Γ w0 4 n_w0 0) (i2 : vp_in w1 n_w0) (kk : am_W m_L_truncateInput d mc ms al bc bs 15 [(0, .ref v0), (1, .int v1), (2, .ref v2)] [] Γ I (am_ul L w0 (w1.toNatClampNeg) (w2.toInt64)) Q) : am_W m_L_truncateInput d mc ms al bc bs 7 [(0, .ref v0), (1, .int v1), (2, .ref v2)] [.int w2, .int w1, .ref w0] Γ I L Q := by
  refine aw_i2l dL_truncateInput_7 ?_
  refine aw_last dL_truncateInput_8 a1 i2 ?_
  exact aw_goto dL_truncateInput_9 (by decide) kk
theorem bL_truncateInput_13 {d mc ms : Nat} {al : Bool} {bc bs : Nat} {Γ : am_G} {I : am_I} {L : am_L} {Q : am_Q} {v0 : Nat} {v1 : Int32} {v2 : Nat} (hq : Q (.inl (some (.int 1))) Γ I L) : am_W m_L_truncateInput d mc ms al bc bs 13 [(0, .ref v0), (1, .int v1), (2, .ref v2)] [] Γ I L Q := by
  refine aw_iconst dL_truncateInput_13 ci_1 ?_
  exact aw_iret dL_truncateInput_14 rfl hq
theorem bL_truncateInput_15 {d mc ms : Nat} {al : Bool} {bc bs : Nat} {Γ : am_G} {I : am_I} {L : am_L} {Q : am_Q} {v0 : Nat} {v1 : Int32} {v2 : Nat} (hq : Q (.inl (some (.int 0))) Γ I L) : am_W m_L_truncateInput d mc ms al bc bs 15 [(0, .ref v0), (1, .int v1), (2, .ref v2)] [] Γ I L Q := by
  refine aw_iconst dL_truncateInput_15 ci_0 ?_
  exact aw_iret dL_truncateInput_16 rfl hq
theorem dL_passCarts_0 : decode cL_passCarts 0 = .ok (.aload 4, 2) := by decide +kernel
theorem dL_passCarts_2 : decode cL_passCarts 2 = .ok (.iconst 0, 1) := by decide +kernel
theorem dL_passCarts_3 : decode cL_passCarts 3 = .ok (.aload_n 0, 1) := by decide +kernel
theorem dL_passCarts_4 : decode cL_passCarts 4 = .ok (.iload_n 1, 1) := by decide +kernel
theorem dL_passCarts_5 : decode cL_passCarts 5 = .ok (.iload_n 2, 1) := by decide +kernel
theorem dL_passCarts_6 : decode cL_passCarts 6 = .ok (.iload_n 3, 1) := by decide +kernel
theorem dL_passCarts_7 : decode cL_passCarts 7 = .ok (.invokevirtual 15, 3) := by decide +kernel
theorem dL_passCarts_10 : decode cL_passCarts 10 = .ok (.i2l, 1) := by decide +kernel
theorem dL_passCarts_11 : decode cL_passCarts 11 = .ok (.lastore, 1) := by decide +kernel
theorem dL_passCarts_12 : decode cL_passCarts 12 = .ok (.goto 15, 3) := by decide +kernel
theorem dL_passCarts_15 : decode cL_passCarts 15 = .ok (.astore 5, 2) := by decide +kernel
theorem dL_passCarts_17 : decode cL_passCarts 17 = .ok (.iconst 1, 1) := by decide +kernel
theorem dL_passCarts_18 : decode cL_passCarts 18 = .ok (.ireturn, 1) := by decide +kernel
theorem dL_passCarts_19 : decode cL_passCarts 19 = .ok (.astore 5, 2) := by decide +kernel
theorem dL_passCarts_21 : decode cL_passCarts 21 = .ok (.iconst 2, 1) := by decide +kernel
theorem dL_passCarts_22 : decode cL_passCarts 22 = .ok (.ireturn, 1) := by decide +kernel
theorem dL_passCarts_23 : decode cL_passCarts 23 = .ok (.astore 5, 2) := by decide +kernel
theorem dL_passCarts_25 : decode cL_passCarts 25 = .ok (.iconst 3, 1) := by decide +kernel
theorem dL_passCarts_26 : decode cL_passCarts 26 = .ok (.ireturn, 1) := by decide +kernel
theorem dL_passCarts_27 : decode cL_passCarts 27 = .ok (.iconst 0, 1) := by decide +kernel
theorem dL_passCarts_28 : decode cL_passCarts 28 = .ok (.ireturn, 1) := by decide +kernel
theorem bL_passCarts_0 {d mc ms : Nat} {al : Bool} {bc bs : Nat} {Γ : am_G} {I : am_I} {L : am_L} {Q : am_Q} {v0 : Nat} {v1 : Int32} {v2 : Int32} {v3 : Int32} {v4 : Nat} {I' : am_I} {L' : am_L} {mc' : Nat} {ms' : Nat} {r : Int32} (o1 : am_ob Γ v0 8) (hbc : mc' ≤ bc) (hbs : ms' ≤ bs) (hC : am_E m_X8_passCarts d mc' ms' [.ref v0, .int v1, .int v2, .int v3] Γ I L (.inl (some (.int r))) I' L') (kk : am_W m_L_passCarts (d + 1) mc ms al (bc - mc') (bs - ms') 10 [(0, .ref v0), (1, .int v1), (2, .int v2), (3, .int v3), (4, .ref v4)] [.int r, .int 0, .ref v4] Γ I' L' Q) : am_W m_L_passCarts (d + 1) mc ms al bc bs 0 [(0, .ref v0), (1, .int v1), (2, .int v2), (3, .int v3), (4, .ref v4)] [] Γ I L Q := by
  refine aw_aload dL_passCarts_0 rfl ?_
  refine aw_iconst dL_passCarts_2 ci_0 ?_
  refine aw_aload_n dL_passCarts_3 rfl ?_
  refine aw_iload_n dL_passCarts_4 rfl ?_
  refine aw_iload_n dL_passCarts_5 rfl ?_
  refine aw_iload_n dL_passCarts_6 rfl ?_
  exact aw_askV (as := [.int v1, .int v2, .int v3]) (rst := [.int 0, .ref v4]) k_X8_passCarts l_L_15 i_X8_passCarts s_X8_passCarts rfl o1 dL_passCarts_7 rfl (Nat.le_of_ble_eq_true rfl) hbc hbs hC rfl rfl kk
theorem bL_passCarts_0c1 {d mc ms : Nat} {al : Bool} {bc bs : Nat} {Γ : am_G} {I : am_I} {L : am_L} {Q : am_Q} {v0 : Nat} {v1 : Int32} {v2 : Int32} {v3 : Int32} {v4 : Nat} {I' : am_I} {L' : am_L} {mc' : Nat} {ms' : Nat} (o1 : am_ob Γ v0 8) (hbc : mc' ≤ bc) (hbs : ms' ≤ bs) (hC : am_E m_X8_passCarts d mc' ms' [.ref v0, .int v1, .int v2, .int v3] Γ I L (.inr "java/lang/IndexOutOfBoundsException") I' L') (kk : am_W m_L_passCarts (d + 1) mc ms al (bc - mc') (bs - ms') 17 [(0, .ref v0), (1, .int v1), (2, .int v2), (3, .int v3), (4, .ref v4)] [] Γ I' L' Q) : am_W m_L_passCarts (d + 1) mc ms al bc bs 0 [(0, .ref v0), (1, .int v1), (2, .int v2), (3, .int v3), (4, .ref v4)] [] Γ I L Q := by
  refine aw_aload dL_passCarts_0 rfl ?_
  refine aw_iconst dL_passCarts_2 ci_0 ?_
  refine aw_aload_n dL_passCarts_3 rfl ?_
  refine aw_iload_n dL_passCarts_4 rfl ?_
  refine aw_iload_n dL_passCarts_5 rfl ?_
  refine aw_iload_n dL_passCarts_6 rfl ?_
  refine aw_catchV (as := [.int v1, .int v2, .int v3]) (rst := [.int 0, .ref v4]) (nm := "java/lang/IndexOutOfBoundsException") (k := 5) (len := 2) (ls' := [(0, .ref v0), (1, .int v1), (2, .int v2), (3, .int v3), (4, .ref v4)]) k_X8_passCarts l_L_15 i_X8_passCarts s_X8_passCarts rfl o1 dL_passCarts_7 rfl (Nat.le_of_ble_eq_true rfl) hbc hbs hC rfl [] (0, 12, 15, 19) [(0, 12, 19, 13), (0, 12, 23, 21)] rfl ?_ (by decide) (by decide) cl_L_19 ca_IndexOutOfBoundsException (Or.inr ⟨dL_passCarts_15, rfl⟩) (by decide) ?_ kk
  · intro z hz
    cases hz
  · intro q hq
    simp only [List.mem_cons, List.not_mem_nil, or_false] at hq
    rcases hq with rfl | rfl | rfl | rfl | rfl
    · exact List.mem_filter.mpr ⟨by simp, rfl⟩
    · exact List.mem_filter.mpr ⟨by simp, rfl⟩
    · exact List.mem_filter.mpr ⟨by simp, rfl⟩
    · exact List.mem_filter.mpr ⟨by simp, rfl⟩
    · exact List.mem_filter.mpr ⟨by simp, rfl⟩
theorem bL_passCarts_0c2 {d mc ms : Nat} {al : Bool} {bc bs : Nat} {Γ : am_G} {I : am_I} {L : am_L} {Q : am_Q} {v0 : Nat} {v1 : Int32} {v2 : Int32} {v3 : Int32} {v4 : Nat} {I' : am_I} {L' : am_L} {mc' : Nat} {ms' : Nat} (o1 : am_ob Γ v0 8) (hbc : mc' ≤ bc) (hbs : ms' ≤ bs) (hC : am_E m_X8_passCarts d mc' ms' [.ref v0, .int v1, .int v2, .int v3] Γ I L (.inr "java/lang/IllegalArgumentException") I' L') (kk : am_W m_L_passCarts (d + 1) mc ms al (bc - mc') (bs - ms') 21 [(0, .ref v0), (1, .int v1), (2, .int v2), (3, .int v3), (4, .ref v4)] [] Γ I' L' Q) : am_W m_L_passCarts (d + 1) mc ms al bc bs 0 [(0, .ref v0), (1, .int v1), (2, .int v2), (3, .int v3), (4, .ref v4)] [] Γ I L Q := by
  refine aw_aload dL_passCarts_0 rfl ?_
  refine aw_iconst dL_passCarts_2 ci_0 ?_
  refine aw_aload_n dL_passCarts_3 rfl ?_
  refine aw_iload_n dL_passCarts_4 rfl ?_
  refine aw_iload_n dL_passCarts_5 rfl ?_
  refine aw_iload_n dL_passCarts_6 rfl ?_
  refine aw_catchV (as := [.int v1, .int v2, .int v3]) (rst := [.int 0, .ref v4]) (nm := "java/lang/IllegalArgumentException") (k := 5) (len := 2) (ls' := [(0, .ref v0), (1, .int v1), (2, .int v2), (3, .int v3), (4, .ref v4)]) k_X8_passCarts l_L_15 i_X8_passCarts s_X8_passCarts rfl o1 dL_passCarts_7 rfl (Nat.le_of_ble_eq_true rfl) hbc hbs hC rfl [(0, 12, 15, 19)] (0, 12, 19, 13) [(0, 12, 23, 21)] rfl ?_ (by decide) (by decide) cl_L_13 ca_IllegalArgumentException (Or.inr ⟨dL_passCarts_19, rfl⟩) (by decide) ?_ kk
  · intro z hz
    simp only [List.mem_cons, List.not_mem_nil, or_false] at hz
    rcases hz with rfl
    · exact ⟨by decide, _, cl_L_19, by decide⟩
  · intro q hq
    simp only [List.mem_cons, List.not_mem_nil, or_false] at hq
    rcases hq with rfl | rfl | rfl | rfl | rfl
    · exact List.mem_filter.mpr ⟨by simp, rfl⟩
    · exact List.mem_filter.mpr ⟨by simp, rfl⟩
    · exact List.mem_filter.mpr ⟨by simp, rfl⟩
    · exact List.mem_filter.mpr ⟨by simp, rfl⟩
    · exact List.mem_filter.mpr ⟨by simp, rfl⟩
theorem bL_passCarts_0c3 {d mc ms : Nat} {al : Bool} {bc bs : Nat} {Γ : am_G} {I : am_I} {L : am_L} {Q : am_Q} {v0 : Nat} {v1 : Int32} {v2 : Int32} {v3 : Int32} {v4 : Nat} {I' : am_I} {L' : am_L} {mc' : Nat} {ms' : Nat} (o1 : am_ob Γ v0 8) (hbc : mc' ≤ bc) (hbs : ms' ≤ bs) (hC : am_E m_X8_passCarts d mc' ms' [.ref v0, .int v1, .int v2, .int v3] Γ I L (.inr "java/lang/IllegalStateException") I' L') (kk : am_W m_L_passCarts (d + 1) mc ms al (bc - mc') (bs - ms') 25 [(0, .ref v0), (1, .int v1), (2, .int v2), (3, .int v3), (4, .ref v4)] [] Γ I' L' Q) : am_W m_L_passCarts (d + 1) mc ms al bc bs 0 [(0, .ref v0), (1, .int v1), (2, .int v2), (3, .int v3), (4, .ref v4)] [] Γ I L Q := by
  refine aw_aload dL_passCarts_0 rfl ?_
  refine aw_iconst dL_passCarts_2 ci_0 ?_
  refine aw_aload_n dL_passCarts_3 rfl ?_
  refine aw_iload_n dL_passCarts_4 rfl ?_
  refine aw_iload_n dL_passCarts_5 rfl ?_
  refine aw_iload_n dL_passCarts_6 rfl ?_
  refine aw_catchV (as := [.int v1, .int v2, .int v3]) (rst := [.int 0, .ref v4]) (nm := "java/lang/IllegalStateException") (k := 5) (len := 2) (ls' := [(0, .ref v0), (1, .int v1), (2, .int v2), (3, .int v3), (4, .ref v4)]) k_X8_passCarts l_L_15 i_X8_passCarts s_X8_passCarts rfl o1 dL_passCarts_7 rfl (Nat.le_of_ble_eq_true rfl) hbc hbs hC rfl [(0, 12, 15, 19), (0, 12, 19, 13)] (0, 12, 23, 21) [] rfl ?_ (by decide) (by decide) cl_L_21 ca_IllegalStateException (Or.inr ⟨dL_passCarts_23, rfl⟩) (by decide) ?_ kk
  · intro z hz
    simp only [List.mem_cons, List.not_mem_nil, or_false] at hz
    rcases hz with rfl | rfl
    · exact ⟨by decide, _, cl_L_19, by decide⟩
    · exact ⟨by decide, _, cl_L_13, by decide⟩
  · intro q hq
    simp only [List.mem_cons, List.not_mem_nil, or_false] at hq
    rcases hq with rfl | rfl | rfl | rfl | rfl
    · exact List.mem_filter.mpr ⟨by simp, rfl⟩
    · exact List.mem_filter.mpr ⟨by simp, rfl⟩
    · exact List.mem_filter.mpr ⟨by simp, rfl⟩
    · exact List.mem_filter.mpr ⟨by simp, rfl⟩
    · exact List.mem_filter.mpr ⟨by simp, rfl⟩
theorem bL_passCarts_10 {d mc ms : Nat} {al : Bool} {bc bs : Nat} {Γ : am_G} {I : am_I} {L : am_L} {Q : am_Q} {v0 : Nat} {v1 : Int32} {v2 : Int32} {v3 : Int32} {v4 : Nat} {w0 : Nat} {w1 : Int32} {w2 : Int32} {n_w0 : Nat} (a1 : am_ar Γ w0 4 n_w0 0) (i2 : vp_in w1 n_w0) (kk : am_W m_L_passCarts d mc ms al bc bs 27 [(0, .ref v0), (1, .int v1), (2, .int v2), (3, .int v3), (4, .ref v4)] [] Γ I (am_ul L w0 (w1.toNatClampNeg) (w2.toInt64)) Q) : am_W m_L_passCarts d mc ms al bc bs 10 [(0, .ref v0), (1, .int v1), (2, .int v2), (3, .int v3), (4, .ref v4)] [.int w2, .int w1, .ref w0] Γ I L Q := by
  refine aw_i2l dL_passCarts_10 ?_
  refine aw_last dL_passCarts_11 a1 i2 ?_
  exact aw_goto dL_passCarts_12 (by decide) kk
theorem bL_passCarts_17 {d mc ms : Nat} {al : Bool} {bc bs : Nat} {Γ : am_G} {I : am_I} {L : am_L} {Q : am_Q} {v0 : Nat} {v1 : Int32} {v2 : Int32} {v3 : Int32} {v4 : Nat} (hq : Q (.inl (some (.int 1))) Γ I L) : am_W m_L_passCarts d mc ms al bc bs 17 [(0, .ref v0), (1, .int v1), (2, .int v2), (3, .int v3), (4, .ref v4)] [] Γ I L Q := by
  refine aw_iconst dL_passCarts_17 ci_1 ?_
  exact aw_iret dL_passCarts_18 rfl hq
theorem bL_passCarts_21 {d mc ms : Nat} {al : Bool} {bc bs : Nat} {Γ : am_G} {I : am_I} {L : am_L} {Q : am_Q} {v0 : Nat} {v1 : Int32} {v2 : Int32} {v3 : Int32} {v4 : Nat} (hq : Q (.inl (some (.int 2))) Γ I L) : am_W m_L_passCarts d mc ms al bc bs 21 [(0, .ref v0), (1, .int v1), (2, .int v2), (3, .int v3), (4, .ref v4)] [] Γ I L Q := by
  refine aw_iconst dL_passCarts_21 ci_2 ?_
  exact aw_iret dL_passCarts_22 rfl hq
theorem bL_passCarts_25 {d mc ms : Nat} {al : Bool} {bc bs : Nat} {Γ : am_G} {I : am_I} {L : am_L} {Q : am_Q} {v0 : Nat} {v1 : Int32} {v2 : Int32} {v3 : Int32} {v4 : Nat} (hq : Q (.inl (some (.int 3))) Γ I L) : am_W m_L_passCarts d mc ms al bc bs 25 [(0, .ref v0), (1, .int v1), (2, .int v2), (3, .int v3), (4, .ref v4)] [] Γ I L Q := by
  refine aw_iconst dL_passCarts_25 ci_3 ?_
  exact aw_iret dL_passCarts_26 rfl hq
theorem bL_passCarts_27 {d mc ms : Nat} {al : Bool} {bc bs : Nat} {Γ : am_G} {I : am_I} {L : am_L} {Q : am_Q} {v0 : Nat} {v1 : Int32} {v2 : Int32} {v3 : Int32} {v4 : Nat} (hq : Q (.inl (some (.int 0))) Γ I L) : am_W m_L_passCarts d mc ms al bc bs 27 [(0, .ref v0), (1, .int v1), (2, .int v2), (3, .int v3), (4, .ref v4)] [] Γ I L Q := by
  refine aw_iconst dL_passCarts_27 ci_0 ?_
  exact aw_iret dL_passCarts_28 rfl hq
theorem dL_buildTree_0 : decode cL_buildTree 0 = .ok (.aload_n 2, 1) := by decide +kernel
theorem dL_buildTree_1 : decode cL_buildTree 1 = .ok (.iconst 0, 1) := by decide +kernel
theorem dL_buildTree_2 : decode cL_buildTree 2 = .ok (.aload_n 0, 1) := by decide +kernel
theorem dL_buildTree_3 : decode cL_buildTree 3 = .ok (.iload_n 1, 1) := by decide +kernel
theorem dL_buildTree_4 : decode cL_buildTree 4 = .ok (.invokevirtual 23, 3) := by decide +kernel
theorem dL_buildTree_7 : decode cL_buildTree 7 = .ok (.i2l, 1) := by decide +kernel
theorem dL_buildTree_8 : decode cL_buildTree 8 = .ok (.lastore, 1) := by decide +kernel
theorem dL_buildTree_9 : decode cL_buildTree 9 = .ok (.goto 6, 3) := by decide +kernel
theorem dL_buildTree_12 : decode cL_buildTree 12 = .ok (.astore_n 3, 1) := by decide +kernel
theorem dL_buildTree_13 : decode cL_buildTree 13 = .ok (.iconst 1, 1) := by decide +kernel
theorem dL_buildTree_14 : decode cL_buildTree 14 = .ok (.ireturn, 1) := by decide +kernel
theorem dL_buildTree_15 : decode cL_buildTree 15 = .ok (.iconst 0, 1) := by decide +kernel
theorem dL_buildTree_16 : decode cL_buildTree 16 = .ok (.ireturn, 1) := by decide +kernel
theorem bL_buildTree_0 {d mc ms : Nat} {al : Bool} {bc bs : Nat} {Γ : am_G} {I : am_I} {L : am_L} {Q : am_Q} {v0 : Nat} {v1 : Int32} {v2 : Nat} {I' : am_I} {L' : am_L} {mc' : Nat} {ms' : Nat} {r : Int32} (o1 : am_ob Γ v0 8) (hbc : mc' ≤ bc) (hbs : ms' ≤ bs) (hC : am_E m_X8_buildTree d mc' ms' [.ref v0, .int v1] Γ I L (.inl (some (.int r))) I' L') (kk : am_W m_L_buildTree (d + 1) mc ms al (bc - mc') (bs - ms') 7 [(0, .ref v0), (1, .int v1), (2, .ref v2)] [.int r, .int 0, .ref v2] Γ I' L' Q) : am_W m_L_buildTree (d + 1) mc ms al bc bs 0 [(0, .ref v0), (1, .int v1), (2, .ref v2)] [] Γ I L Q := by
  refine aw_aload_n dL_buildTree_0 rfl ?_
  refine aw_iconst dL_buildTree_1 ci_0 ?_
  refine aw_aload_n dL_buildTree_2 rfl ?_
  refine aw_iload_n dL_buildTree_3 rfl ?_
  exact aw_askV (as := [.int v1]) (rst := [.int 0, .ref v2]) k_X8_buildTree l_L_23 i_X8_buildTree s_X8_buildTree rfl o1 dL_buildTree_4 rfl (Nat.le_of_ble_eq_true rfl) hbc hbs hC rfl rfl kk
theorem bL_buildTree_0c1 {d mc ms : Nat} {al : Bool} {bc bs : Nat} {Γ : am_G} {I : am_I} {L : am_L} {Q : am_Q} {v0 : Nat} {v1 : Int32} {v2 : Nat} {I' : am_I} {L' : am_L} {mc' : Nat} {ms' : Nat} (o1 : am_ob Γ v0 8) (hbc : mc' ≤ bc) (hbs : ms' ≤ bs) (hC : am_E m_X8_buildTree d mc' ms' [.ref v0, .int v1] Γ I L (.inr "java/lang/IndexOutOfBoundsException") I' L') (kk : am_W m_L_buildTree (d + 1) mc ms al (bc - mc') (bs - ms') 13 [(0, .ref v0), (1, .int v1), (2, .ref v2)] [] Γ I' L' Q) : am_W m_L_buildTree (d + 1) mc ms al bc bs 0 [(0, .ref v0), (1, .int v1), (2, .ref v2)] [] Γ I L Q := by
  refine aw_aload_n dL_buildTree_0 rfl ?_
  refine aw_iconst dL_buildTree_1 ci_0 ?_
  refine aw_aload_n dL_buildTree_2 rfl ?_
  refine aw_iload_n dL_buildTree_3 rfl ?_
  refine aw_catchV (as := [.int v1]) (rst := [.int 0, .ref v2]) (nm := "java/lang/IndexOutOfBoundsException") (k := 3) (len := 1) (ls' := [(0, .ref v0), (1, .int v1), (2, .ref v2)]) k_X8_buildTree l_L_23 i_X8_buildTree s_X8_buildTree rfl o1 dL_buildTree_4 rfl (Nat.le_of_ble_eq_true rfl) hbc hbs hC rfl [] (0, 9, 12, 19) [] rfl ?_ (by decide) (by decide) cl_L_19 ca_IndexOutOfBoundsException (Or.inl ⟨3, rfl, dL_buildTree_12, rfl⟩) (by decide) ?_ kk
  · intro z hz
    cases hz
  · intro q hq
    simp only [List.mem_cons, List.not_mem_nil, or_false] at hq
    rcases hq with rfl | rfl | rfl
    · exact List.mem_filter.mpr ⟨by simp, rfl⟩
    · exact List.mem_filter.mpr ⟨by simp, rfl⟩
    · exact List.mem_filter.mpr ⟨by simp, rfl⟩
theorem bL_buildTree_7 {d mc ms : Nat} {al : Bool} {bc bs : Nat} {Γ : am_G} {I : am_I} {L : am_L} {Q : am_Q} {v0 : Nat} {v1 : Int32} {v2 : Nat} {w0 : Nat} {w1 : Int32} {w2 : Int32} {n_w0 : Nat} (a1 : am_ar Γ w0 4 n_w0 0) (i2 : vp_in w1 n_w0) (kk : am_W m_L_buildTree d mc ms al bc bs 15 [(0, .ref v0), (1, .int v1), (2, .ref v2)] [] Γ I (am_ul L w0 (w1.toNatClampNeg) (w2.toInt64)) Q) : am_W m_L_buildTree d mc ms al bc bs 7 [(0, .ref v0), (1, .int v1), (2, .ref v2)] [.int w2, .int w1, .ref w0] Γ I L Q := by
  refine aw_i2l dL_buildTree_7 ?_
  refine aw_last dL_buildTree_8 a1 i2 ?_
  exact aw_goto dL_buildTree_9 (by decide) kk
theorem bL_buildTree_13 {d mc ms : Nat} {al : Bool} {bc bs : Nat} {Γ : am_G} {I : am_I} {L : am_L} {Q : am_Q} {v0 : Nat} {v1 : Int32} {v2 : Nat} (hq : Q (.inl (some (.int 1))) Γ I L) : am_W m_L_buildTree d mc ms al bc bs 13 [(0, .ref v0), (1, .int v1), (2, .ref v2)] [] Γ I L Q := by
  refine aw_iconst dL_buildTree_13 ci_1 ?_
  exact aw_iret dL_buildTree_14 rfl hq
theorem bL_buildTree_15 {d mc ms : Nat} {al : Bool} {bc bs : Nat} {Γ : am_G} {I : am_I} {L : am_L} {Q : am_Q} {v0 : Nat} {v1 : Int32} {v2 : Nat} (hq : Q (.inl (some (.int 0))) Γ I L) : am_W m_L_buildTree d mc ms al bc bs 15 [(0, .ref v0), (1, .int v1), (2, .ref v2)] [] Γ I L Q := by
  refine aw_iconst dL_buildTree_15 ci_0 ?_
  exact aw_iret dL_buildTree_16 rfl hq
theorem dL_halveCounts_0 : decode cL_halveCounts 0 = .ok (.aload_n 2, 1) := by decide +kernel
theorem dL_halveCounts_1 : decode cL_halveCounts 1 = .ok (.iconst 0, 1) := by decide +kernel
theorem dL_halveCounts_2 : decode cL_halveCounts 2 = .ok (.aload_n 0, 1) := by decide +kernel
theorem dL_halveCounts_3 : decode cL_halveCounts 3 = .ok (.iload_n 1, 1) := by decide +kernel
theorem dL_halveCounts_4 : decode cL_halveCounts 4 = .ok (.invokevirtual 26, 3) := by decide +kernel
theorem dL_halveCounts_7 : decode cL_halveCounts 7 = .ok (.i2l, 1) := by decide +kernel
theorem dL_halveCounts_8 : decode cL_halveCounts 8 = .ok (.lastore, 1) := by decide +kernel
theorem dL_halveCounts_9 : decode cL_halveCounts 9 = .ok (.goto 6, 3) := by decide +kernel
theorem dL_halveCounts_12 : decode cL_halveCounts 12 = .ok (.astore_n 3, 1) := by decide +kernel
theorem dL_halveCounts_13 : decode cL_halveCounts 13 = .ok (.iconst 1, 1) := by decide +kernel
theorem dL_halveCounts_14 : decode cL_halveCounts 14 = .ok (.ireturn, 1) := by decide +kernel
theorem dL_halveCounts_15 : decode cL_halveCounts 15 = .ok (.iconst 0, 1) := by decide +kernel
theorem dL_halveCounts_16 : decode cL_halveCounts 16 = .ok (.ireturn, 1) := by decide +kernel
theorem bL_halveCounts_0 {d mc ms : Nat} {al : Bool} {bc bs : Nat} {Γ : am_G} {I : am_I} {L : am_L} {Q : am_Q} {v0 : Nat} {v1 : Int32} {v2 : Nat} {I' : am_I} {L' : am_L} {mc' : Nat} {ms' : Nat} {r : Int32} (o1 : am_ob Γ v0 8) (hbc : mc' ≤ bc) (hbs : ms' ≤ bs) (hC : am_E m_X8_halveCounts d mc' ms' [.ref v0, .int v1] Γ I L (.inl (some (.int r))) I' L') (kk : am_W m_L_halveCounts (d + 1) mc ms al (bc - mc') (bs - ms') 7 [(0, .ref v0), (1, .int v1), (2, .ref v2)] [.int r, .int 0, .ref v2] Γ I' L' Q) : am_W m_L_halveCounts (d + 1) mc ms al bc bs 0 [(0, .ref v0), (1, .int v1), (2, .ref v2)] [] Γ I L Q := by
  refine aw_aload_n dL_halveCounts_0 rfl ?_
  refine aw_iconst dL_halveCounts_1 ci_0 ?_
  refine aw_aload_n dL_halveCounts_2 rfl ?_
  refine aw_iload_n dL_halveCounts_3 rfl ?_
  exact aw_askV (as := [.int v1]) (rst := [.int 0, .ref v2]) k_X8_halveCounts l_L_26 i_X8_halveCounts s_X8_halveCounts rfl o1 dL_halveCounts_4 rfl (Nat.le_of_ble_eq_true rfl) hbc hbs hC rfl rfl kk
theorem bL_halveCounts_0c1 {d mc ms : Nat} {al : Bool} {bc bs : Nat} {Γ : am_G} {I : am_I} {L : am_L} {Q : am_Q} {v0 : Nat} {v1 : Int32} {v2 : Nat} {I' : am_I} {L' : am_L} {mc' : Nat} {ms' : Nat} (o1 : am_ob Γ v0 8) (hbc : mc' ≤ bc) (hbs : ms' ≤ bs) (hC : am_E m_X8_halveCounts d mc' ms' [.ref v0, .int v1] Γ I L (.inr "java/lang/IndexOutOfBoundsException") I' L') (kk : am_W m_L_halveCounts (d + 1) mc ms al (bc - mc') (bs - ms') 13 [(0, .ref v0), (1, .int v1), (2, .ref v2)] [] Γ I' L' Q) : am_W m_L_halveCounts (d + 1) mc ms al bc bs 0 [(0, .ref v0), (1, .int v1), (2, .ref v2)] [] Γ I L Q := by
  refine aw_aload_n dL_halveCounts_0 rfl ?_
  refine aw_iconst dL_halveCounts_1 ci_0 ?_
  refine aw_aload_n dL_halveCounts_2 rfl ?_
  refine aw_iload_n dL_halveCounts_3 rfl ?_
  refine aw_catchV (as := [.int v1]) (rst := [.int 0, .ref v2]) (nm := "java/lang/IndexOutOfBoundsException") (k := 3) (len := 1) (ls' := [(0, .ref v0), (1, .int v1), (2, .ref v2)]) k_X8_halveCounts l_L_26 i_X8_halveCounts s_X8_halveCounts rfl o1 dL_halveCounts_4 rfl (Nat.le_of_ble_eq_true rfl) hbc hbs hC rfl [] (0, 9, 12, 19) [] rfl ?_ (by decide) (by decide) cl_L_19 ca_IndexOutOfBoundsException (Or.inl ⟨3, rfl, dL_halveCounts_12, rfl⟩) (by decide) ?_ kk
  · intro z hz
    cases hz
  · intro q hq
    simp only [List.mem_cons, List.not_mem_nil, or_false] at hq
    rcases hq with rfl | rfl | rfl
    · exact List.mem_filter.mpr ⟨by simp, rfl⟩
    · exact List.mem_filter.mpr ⟨by simp, rfl⟩
    · exact List.mem_filter.mpr ⟨by simp, rfl⟩
theorem bL_halveCounts_7 {d mc ms : Nat} {al : Bool} {bc bs : Nat} {Γ : am_G} {I : am_I} {L : am_L} {Q : am_Q} {v0 : Nat} {v1 : Int32} {v2 : Nat} {w0 : Nat} {w1 : Int32} {w2 : Int32} {n_w0 : Nat} (a1 : am_ar Γ w0 4 n_w0 0) (i2 : vp_in w1 n_w0) (kk : am_W m_L_halveCounts d mc ms al bc bs 15 [(0, .ref v0), (1, .int v1), (2, .ref v2)] [] Γ I (am_ul L w0 (w1.toNatClampNeg) (w2.toInt64)) Q) : am_W m_L_halveCounts d mc ms al bc bs 7 [(0, .ref v0), (1, .int v1), (2, .ref v2)] [.int w2, .int w1, .ref w0] Γ I L Q := by
  refine aw_i2l dL_halveCounts_7 ?_
  refine aw_last dL_halveCounts_8 a1 i2 ?_
  exact aw_goto dL_halveCounts_9 (by decide) kk
theorem bL_halveCounts_13 {d mc ms : Nat} {al : Bool} {bc bs : Nat} {Γ : am_G} {I : am_I} {L : am_L} {Q : am_Q} {v0 : Nat} {v1 : Int32} {v2 : Nat} (hq : Q (.inl (some (.int 1))) Γ I L) : am_W m_L_halveCounts d mc ms al bc bs 13 [(0, .ref v0), (1, .int v1), (2, .ref v2)] [] Γ I L Q := by
  refine aw_iconst dL_halveCounts_13 ci_1 ?_
  exact aw_iret dL_halveCounts_14 rfl hq
theorem bL_halveCounts_15 {d mc ms : Nat} {al : Bool} {bc bs : Nat} {Γ : am_G} {I : am_I} {L : am_L} {Q : am_Q} {v0 : Nat} {v1 : Int32} {v2 : Nat} (hq : Q (.inl (some (.int 0))) Γ I L) : am_W m_L_halveCounts d mc ms al bc bs 15 [(0, .ref v0), (1, .int v1), (2, .ref v2)] [] Γ I L Q := by
  refine aw_iconst dL_halveCounts_15 ci_0 ?_
  exact aw_iret dL_halveCounts_16 rfl hq
theorem dL_setToll_0 : decode cL_setToll 0 = .ok (.aload_n 3, 1) := by decide +kernel
theorem dL_setToll_1 : decode cL_setToll 1 = .ok (.iconst 0, 1) := by decide +kernel
theorem dL_setToll_2 : decode cL_setToll 2 = .ok (.aload_n 0, 1) := by decide +kernel
theorem dL_setToll_3 : decode cL_setToll 3 = .ok (.iload_n 1, 1) := by decide +kernel
theorem dL_setToll_4 : decode cL_setToll 4 = .ok (.iload_n 2, 1) := by decide +kernel
theorem dL_setToll_5 : decode cL_setToll 5 = .ok (.invokevirtual 29, 3) := by decide +kernel
theorem dL_setToll_8 : decode cL_setToll 8 = .ok (.i2l, 1) := by decide +kernel
theorem dL_setToll_9 : decode cL_setToll 9 = .ok (.lastore, 1) := by decide +kernel
theorem dL_setToll_10 : decode cL_setToll 10 = .ok (.goto 11, 3) := by decide +kernel
theorem dL_setToll_13 : decode cL_setToll 13 = .ok (.astore 4, 2) := by decide +kernel
theorem dL_setToll_15 : decode cL_setToll 15 = .ok (.iconst 1, 1) := by decide +kernel
theorem dL_setToll_16 : decode cL_setToll 16 = .ok (.ireturn, 1) := by decide +kernel
theorem dL_setToll_17 : decode cL_setToll 17 = .ok (.astore 4, 2) := by decide +kernel
theorem dL_setToll_19 : decode cL_setToll 19 = .ok (.iconst 2, 1) := by decide +kernel
theorem dL_setToll_20 : decode cL_setToll 20 = .ok (.ireturn, 1) := by decide +kernel
theorem dL_setToll_21 : decode cL_setToll 21 = .ok (.iconst 0, 1) := by decide +kernel
theorem dL_setToll_22 : decode cL_setToll 22 = .ok (.ireturn, 1) := by decide +kernel
theorem bL_setToll_0 {d mc ms : Nat} {al : Bool} {bc bs : Nat} {Γ : am_G} {I : am_I} {L : am_L} {Q : am_Q} {v0 : Nat} {v1 : Int32} {v2 : Int32} {v3 : Nat} {I' : am_I} {L' : am_L} {mc' : Nat} {ms' : Nat} {r : Int32} (o1 : am_ob Γ v0 8) (hbc : mc' ≤ bc) (hbs : ms' ≤ bs) (hC : am_E m_X8_setToll d mc' ms' [.ref v0, .int v1, .int v2] Γ I L (.inl (some (.int r))) I' L') (kk : am_W m_L_setToll (d + 1) mc ms al (bc - mc') (bs - ms') 8 [(0, .ref v0), (1, .int v1), (2, .int v2), (3, .ref v3)] [.int r, .int 0, .ref v3] Γ I' L' Q) : am_W m_L_setToll (d + 1) mc ms al bc bs 0 [(0, .ref v0), (1, .int v1), (2, .int v2), (3, .ref v3)] [] Γ I L Q := by
  refine aw_aload_n dL_setToll_0 rfl ?_
  refine aw_iconst dL_setToll_1 ci_0 ?_
  refine aw_aload_n dL_setToll_2 rfl ?_
  refine aw_iload_n dL_setToll_3 rfl ?_
  refine aw_iload_n dL_setToll_4 rfl ?_
  exact aw_askV (as := [.int v1, .int v2]) (rst := [.int 0, .ref v3]) k_X8_setToll l_L_29 i_X8_setToll s_X8_setToll rfl o1 dL_setToll_5 rfl (Nat.le_of_ble_eq_true rfl) hbc hbs hC rfl rfl kk
theorem bL_setToll_0c1 {d mc ms : Nat} {al : Bool} {bc bs : Nat} {Γ : am_G} {I : am_I} {L : am_L} {Q : am_Q} {v0 : Nat} {v1 : Int32} {v2 : Int32} {v3 : Nat} {I' : am_I} {L' : am_L} {mc' : Nat} {ms' : Nat} (o1 : am_ob Γ v0 8) (hbc : mc' ≤ bc) (hbs : ms' ≤ bs) (hC : am_E m_X8_setToll d mc' ms' [.ref v0, .int v1, .int v2] Γ I L (.inr "java/lang/IndexOutOfBoundsException") I' L') (kk : am_W m_L_setToll (d + 1) mc ms al (bc - mc') (bs - ms') 15 [(0, .ref v0), (1, .int v1), (2, .int v2), (3, .ref v3)] [] Γ I' L' Q) : am_W m_L_setToll (d + 1) mc ms al bc bs 0 [(0, .ref v0), (1, .int v1), (2, .int v2), (3, .ref v3)] [] Γ I L Q := by
  refine aw_aload_n dL_setToll_0 rfl ?_
  refine aw_iconst dL_setToll_1 ci_0 ?_
  refine aw_aload_n dL_setToll_2 rfl ?_
  refine aw_iload_n dL_setToll_3 rfl ?_
  refine aw_iload_n dL_setToll_4 rfl ?_
  refine aw_catchV (as := [.int v1, .int v2]) (rst := [.int 0, .ref v3]) (nm := "java/lang/IndexOutOfBoundsException") (k := 4) (len := 2) (ls' := [(0, .ref v0), (1, .int v1), (2, .int v2), (3, .ref v3)]) k_X8_setToll l_L_29 i_X8_setToll s_X8_setToll rfl o1 dL_setToll_5 rfl (Nat.le_of_ble_eq_true rfl) hbc hbs hC rfl [] (0, 10, 13, 19) [(0, 10, 17, 13)] rfl ?_ (by decide) (by decide) cl_L_19 ca_IndexOutOfBoundsException (Or.inr ⟨dL_setToll_13, rfl⟩) (by decide) ?_ kk
  · intro z hz
    cases hz
  · intro q hq
    simp only [List.mem_cons, List.not_mem_nil, or_false] at hq
    rcases hq with rfl | rfl | rfl | rfl
    · exact List.mem_filter.mpr ⟨by simp, rfl⟩
    · exact List.mem_filter.mpr ⟨by simp, rfl⟩
    · exact List.mem_filter.mpr ⟨by simp, rfl⟩
    · exact List.mem_filter.mpr ⟨by simp, rfl⟩
theorem bL_setToll_0c2 {d mc ms : Nat} {al : Bool} {bc bs : Nat} {Γ : am_G} {I : am_I} {L : am_L} {Q : am_Q} {v0 : Nat} {v1 : Int32} {v2 : Int32} {v3 : Nat} {I' : am_I} {L' : am_L} {mc' : Nat} {ms' : Nat} (o1 : am_ob Γ v0 8) (hbc : mc' ≤ bc) (hbs : ms' ≤ bs) (hC : am_E m_X8_setToll d mc' ms' [.ref v0, .int v1, .int v2] Γ I L (.inr "java/lang/IllegalArgumentException") I' L') (kk : am_W m_L_setToll (d + 1) mc ms al (bc - mc') (bs - ms') 19 [(0, .ref v0), (1, .int v1), (2, .int v2), (3, .ref v3)] [] Γ I' L' Q) : am_W m_L_setToll (d + 1) mc ms al bc bs 0 [(0, .ref v0), (1, .int v1), (2, .int v2), (3, .ref v3)] [] Γ I L Q := by
  refine aw_aload_n dL_setToll_0 rfl ?_
  refine aw_iconst dL_setToll_1 ci_0 ?_
  refine aw_aload_n dL_setToll_2 rfl ?_
  refine aw_iload_n dL_setToll_3 rfl ?_
  refine aw_iload_n dL_setToll_4 rfl ?_
  refine aw_catchV (as := [.int v1, .int v2]) (rst := [.int 0, .ref v3]) (nm := "java/lang/IllegalArgumentException") (k := 4) (len := 2) (ls' := [(0, .ref v0), (1, .int v1), (2, .int v2), (3, .ref v3)]) k_X8_setToll l_L_29 i_X8_setToll s_X8_setToll rfl o1 dL_setToll_5 rfl (Nat.le_of_ble_eq_true rfl) hbc hbs hC rfl [(0, 10, 13, 19)] (0, 10, 17, 13) [] rfl ?_ (by decide) (by decide) cl_L_13 ca_IllegalArgumentException (Or.inr ⟨dL_setToll_17, rfl⟩) (by decide) ?_ kk
  · intro z hz
    simp only [List.mem_cons, List.not_mem_nil, or_false] at hz
    rcases hz with rfl
    · exact ⟨by decide, _, cl_L_19, by decide⟩
  · intro q hq
    simp only [List.mem_cons, List.not_mem_nil, or_false] at hq
    rcases hq with rfl | rfl | rfl | rfl
    · exact List.mem_filter.mpr ⟨by simp, rfl⟩
    · exact List.mem_filter.mpr ⟨by simp, rfl⟩
    · exact List.mem_filter.mpr ⟨by simp, rfl⟩
    · exact List.mem_filter.mpr ⟨by simp, rfl⟩
theorem bL_setToll_8 {d mc ms : Nat} {al : Bool} {bc bs : Nat} {Γ : am_G} {I : am_I} {L : am_L} {Q : am_Q} {v0 : Nat} {v1 : Int32} {v2 : Int32} {v3 : Nat} {w0 : Nat} {w1 : Int32} {w2 : Int32} {n_w0 : Nat} (a1 : am_ar Γ w0 4 n_w0 0) (i2 : vp_in w1 n_w0) (kk : am_W m_L_setToll d mc ms al bc bs 21 [(0, .ref v0), (1, .int v1), (2, .int v2), (3, .ref v3)] [] Γ I (am_ul L w0 (w1.toNatClampNeg) (w2.toInt64)) Q) : am_W m_L_setToll d mc ms al bc bs 8 [(0, .ref v0), (1, .int v1), (2, .int v2), (3, .ref v3)] [.int w2, .int w1, .ref w0] Γ I L Q := by
  refine aw_i2l dL_setToll_8 ?_
  refine aw_last dL_setToll_9 a1 i2 ?_
  exact aw_goto dL_setToll_10 (by decide) kk
theorem bL_setToll_15 {d mc ms : Nat} {al : Bool} {bc bs : Nat} {Γ : am_G} {I : am_I} {L : am_L} {Q : am_Q} {v0 : Nat} {v1 : Int32} {v2 : Int32} {v3 : Nat} (hq : Q (.inl (some (.int 1))) Γ I L) : am_W m_L_setToll d mc ms al bc bs 15 [(0, .ref v0), (1, .int v1), (2, .int v2), (3, .ref v3)] [] Γ I L Q := by
  refine aw_iconst dL_setToll_15 ci_1 ?_
  exact aw_iret dL_setToll_16 rfl hq
theorem bL_setToll_19 {d mc ms : Nat} {al : Bool} {bc bs : Nat} {Γ : am_G} {I : am_I} {L : am_L} {Q : am_Q} {v0 : Nat} {v1 : Int32} {v2 : Int32} {v3 : Nat} (hq : Q (.inl (some (.int 2))) Γ I L) : am_W m_L_setToll d mc ms al bc bs 19 [(0, .ref v0), (1, .int v1), (2, .int v2), (3, .ref v3)] [] Γ I L Q := by
  refine aw_iconst dL_setToll_19 ci_2 ?_
  exact aw_iret dL_setToll_20 rfl hq
theorem bL_setToll_21 {d mc ms : Nat} {al : Bool} {bc bs : Nat} {Γ : am_G} {I : am_I} {L : am_L} {Q : am_Q} {v0 : Nat} {v1 : Int32} {v2 : Int32} {v3 : Nat} (hq : Q (.inl (some (.int 0))) Γ I L) : am_W m_L_setToll d mc ms al bc bs 21 [(0, .ref v0), (1, .int v1), (2, .int v2), (3, .ref v3)] [] Γ I L Q := by
  refine aw_iconst dL_setToll_21 ci_0 ?_
  exact aw_iret dL_setToll_22 rfl hq
theorem dL_setCostLimit_0 : decode cL_setCostLimit 0 = .ok (.aload_n 3, 1) := by decide +kernel
theorem dL_setCostLimit_1 : decode cL_setCostLimit 1 = .ok (.iconst 0, 1) := by decide +kernel
theorem dL_setCostLimit_2 : decode cL_setCostLimit 2 = .ok (.aload_n 0, 1) := by decide +kernel
theorem dL_setCostLimit_3 : decode cL_setCostLimit 3 = .ok (.iload_n 1, 1) := by decide +kernel
theorem dL_setCostLimit_4 : decode cL_setCostLimit 4 = .ok (.iload_n 2, 1) := by decide +kernel
theorem dL_setCostLimit_5 : decode cL_setCostLimit 5 = .ok (.invokevirtual 33, 3) := by decide +kernel
theorem dL_setCostLimit_8 : decode cL_setCostLimit 8 = .ok (.i2l, 1) := by decide +kernel
theorem dL_setCostLimit_9 : decode cL_setCostLimit 9 = .ok (.lastore, 1) := by decide +kernel
theorem dL_setCostLimit_10 : decode cL_setCostLimit 10 = .ok (.goto 11, 3) := by decide +kernel
theorem dL_setCostLimit_13 : decode cL_setCostLimit 13 = .ok (.astore 4, 2) := by decide +kernel
theorem dL_setCostLimit_15 : decode cL_setCostLimit 15 = .ok (.iconst 1, 1) := by decide +kernel
theorem dL_setCostLimit_16 : decode cL_setCostLimit 16 = .ok (.ireturn, 1) := by decide +kernel
theorem dL_setCostLimit_17 : decode cL_setCostLimit 17 = .ok (.astore 4, 2) := by decide +kernel
theorem dL_setCostLimit_19 : decode cL_setCostLimit 19 = .ok (.iconst 2, 1) := by decide +kernel
theorem dL_setCostLimit_20 : decode cL_setCostLimit 20 = .ok (.ireturn, 1) := by decide +kernel
theorem dL_setCostLimit_21 : decode cL_setCostLimit 21 = .ok (.iconst 0, 1) := by decide +kernel
theorem dL_setCostLimit_22 : decode cL_setCostLimit 22 = .ok (.ireturn, 1) := by decide +kernel
theorem bL_setCostLimit_0 {d mc ms : Nat} {al : Bool} {bc bs : Nat} {Γ : am_G} {I : am_I} {L : am_L} {Q : am_Q} {v0 : Nat} {v1 : Int32} {v2 : Int32} {v3 : Nat} {I' : am_I} {L' : am_L} {mc' : Nat} {ms' : Nat} {r : Int32} (o1 : am_ob Γ v0 8) (hbc : mc' ≤ bc) (hbs : ms' ≤ bs) (hC : am_E m_X8_setCostLimit d mc' ms' [.ref v0, .int v1, .int v2] Γ I L (.inl (some (.int r))) I' L') (kk : am_W m_L_setCostLimit (d + 1) mc ms al (bc - mc') (bs - ms') 8 [(0, .ref v0), (1, .int v1), (2, .int v2), (3, .ref v3)] [.int r, .int 0, .ref v3] Γ I' L' Q) : am_W m_L_setCostLimit (d + 1) mc ms al bc bs 0 [(0, .ref v0), (1, .int v1), (2, .int v2), (3, .ref v3)] [] Γ I L Q := by
  refine aw_aload_n dL_setCostLimit_0 rfl ?_
  refine aw_iconst dL_setCostLimit_1 ci_0 ?_
  refine aw_aload_n dL_setCostLimit_2 rfl ?_
  refine aw_iload_n dL_setCostLimit_3 rfl ?_
  refine aw_iload_n dL_setCostLimit_4 rfl ?_
  exact aw_askV (as := [.int v1, .int v2]) (rst := [.int 0, .ref v3]) k_X8_setCostLimit l_L_33 i_X8_setCostLimit s_X8_setCostLimit rfl o1 dL_setCostLimit_5 rfl (Nat.le_of_ble_eq_true rfl) hbc hbs hC rfl rfl kk
theorem bL_setCostLimit_0c1 {d mc ms : Nat} {al : Bool} {bc bs : Nat} {Γ : am_G} {I : am_I} {L : am_L} {Q : am_Q} {v0 : Nat} {v1 : Int32} {v2 : Int32} {v3 : Nat} {I' : am_I} {L' : am_L} {mc' : Nat} {ms' : Nat} (o1 : am_ob Γ v0 8) (hbc : mc' ≤ bc) (hbs : ms' ≤ bs) (hC : am_E m_X8_setCostLimit d mc' ms' [.ref v0, .int v1, .int v2] Γ I L (.inr "java/lang/IndexOutOfBoundsException") I' L') (kk : am_W m_L_setCostLimit (d + 1) mc ms al (bc - mc') (bs - ms') 15 [(0, .ref v0), (1, .int v1), (2, .int v2), (3, .ref v3)] [] Γ I' L' Q) : am_W m_L_setCostLimit (d + 1) mc ms al bc bs 0 [(0, .ref v0), (1, .int v1), (2, .int v2), (3, .ref v3)] [] Γ I L Q := by
  refine aw_aload_n dL_setCostLimit_0 rfl ?_
  refine aw_iconst dL_setCostLimit_1 ci_0 ?_
  refine aw_aload_n dL_setCostLimit_2 rfl ?_
  refine aw_iload_n dL_setCostLimit_3 rfl ?_
  refine aw_iload_n dL_setCostLimit_4 rfl ?_
  refine aw_catchV (as := [.int v1, .int v2]) (rst := [.int 0, .ref v3]) (nm := "java/lang/IndexOutOfBoundsException") (k := 4) (len := 2) (ls' := [(0, .ref v0), (1, .int v1), (2, .int v2), (3, .ref v3)]) k_X8_setCostLimit l_L_33 i_X8_setCostLimit s_X8_setCostLimit rfl o1 dL_setCostLimit_5 rfl (Nat.le_of_ble_eq_true rfl) hbc hbs hC rfl [] (0, 10, 13, 19) [(0, 10, 17, 13)] rfl ?_ (by decide) (by decide) cl_L_19 ca_IndexOutOfBoundsException (Or.inr ⟨dL_setCostLimit_13, rfl⟩) (by decide) ?_ kk
  · intro z hz
    cases hz
  · intro q hq
    simp only [List.mem_cons, List.not_mem_nil, or_false] at hq
    rcases hq with rfl | rfl | rfl | rfl
    · exact List.mem_filter.mpr ⟨by simp, rfl⟩
    · exact List.mem_filter.mpr ⟨by simp, rfl⟩
    · exact List.mem_filter.mpr ⟨by simp, rfl⟩
    · exact List.mem_filter.mpr ⟨by simp, rfl⟩
theorem bL_setCostLimit_0c2 {d mc ms : Nat} {al : Bool} {bc bs : Nat} {Γ : am_G} {I : am_I} {L : am_L} {Q : am_Q} {v0 : Nat} {v1 : Int32} {v2 : Int32} {v3 : Nat} {I' : am_I} {L' : am_L} {mc' : Nat} {ms' : Nat} (o1 : am_ob Γ v0 8) (hbc : mc' ≤ bc) (hbs : ms' ≤ bs) (hC : am_E m_X8_setCostLimit d mc' ms' [.ref v0, .int v1, .int v2] Γ I L (.inr "java/lang/IllegalArgumentException") I' L') (kk : am_W m_L_setCostLimit (d + 1) mc ms al (bc - mc') (bs - ms') 19 [(0, .ref v0), (1, .int v1), (2, .int v2), (3, .ref v3)] [] Γ I' L' Q) : am_W m_L_setCostLimit (d + 1) mc ms al bc bs 0 [(0, .ref v0), (1, .int v1), (2, .int v2), (3, .ref v3)] [] Γ I L Q := by
  refine aw_aload_n dL_setCostLimit_0 rfl ?_
  refine aw_iconst dL_setCostLimit_1 ci_0 ?_
  refine aw_aload_n dL_setCostLimit_2 rfl ?_
  refine aw_iload_n dL_setCostLimit_3 rfl ?_
  refine aw_iload_n dL_setCostLimit_4 rfl ?_
  refine aw_catchV (as := [.int v1, .int v2]) (rst := [.int 0, .ref v3]) (nm := "java/lang/IllegalArgumentException") (k := 4) (len := 2) (ls' := [(0, .ref v0), (1, .int v1), (2, .int v2), (3, .ref v3)]) k_X8_setCostLimit l_L_33 i_X8_setCostLimit s_X8_setCostLimit rfl o1 dL_setCostLimit_5 rfl (Nat.le_of_ble_eq_true rfl) hbc hbs hC rfl [(0, 10, 13, 19)] (0, 10, 17, 13) [] rfl ?_ (by decide) (by decide) cl_L_13 ca_IllegalArgumentException (Or.inr ⟨dL_setCostLimit_17, rfl⟩) (by decide) ?_ kk
  · intro z hz
    simp only [List.mem_cons, List.not_mem_nil, or_false] at hz
    rcases hz with rfl
    · exact ⟨by decide, _, cl_L_19, by decide⟩
  · intro q hq
    simp only [List.mem_cons, List.not_mem_nil, or_false] at hq
    rcases hq with rfl | rfl | rfl | rfl
    · exact List.mem_filter.mpr ⟨by simp, rfl⟩
    · exact List.mem_filter.mpr ⟨by simp, rfl⟩
    · exact List.mem_filter.mpr ⟨by simp, rfl⟩
    · exact List.mem_filter.mpr ⟨by simp, rfl⟩
theorem bL_setCostLimit_8 {d mc ms : Nat} {al : Bool} {bc bs : Nat} {Γ : am_G} {I : am_I} {L : am_L} {Q : am_Q} {v0 : Nat} {v1 : Int32} {v2 : Int32} {v3 : Nat} {w0 : Nat} {w1 : Int32} {w2 : Int32} {n_w0 : Nat} (a1 : am_ar Γ w0 4 n_w0 0) (i2 : vp_in w1 n_w0) (kk : am_W m_L_setCostLimit d mc ms al bc bs 21 [(0, .ref v0), (1, .int v1), (2, .int v2), (3, .ref v3)] [] Γ I (am_ul L w0 (w1.toNatClampNeg) (w2.toInt64)) Q) : am_W m_L_setCostLimit d mc ms al bc bs 8 [(0, .ref v0), (1, .int v1), (2, .int v2), (3, .ref v3)] [.int w2, .int w1, .ref w0] Γ I L Q := by
  refine aw_i2l dL_setCostLimit_8 ?_
  refine aw_last dL_setCostLimit_9 a1 i2 ?_
  exact aw_goto dL_setCostLimit_10 (by decide) kk
theorem bL_setCostLimit_15 {d mc ms : Nat} {al : Bool} {bc bs : Nat} {Γ : am_G} {I : am_I} {L : am_L} {Q : am_Q} {v0 : Nat} {v1 : Int32} {v2 : Int32} {v3 : Nat} (hq : Q (.inl (some (.int 1))) Γ I L) : am_W m_L_setCostLimit d mc ms al bc bs 15 [(0, .ref v0), (1, .int v1), (2, .int v2), (3, .ref v3)] [] Γ I L Q := by
  refine aw_iconst dL_setCostLimit_15 ci_1 ?_
  exact aw_iret dL_setCostLimit_16 rfl hq
theorem bL_setCostLimit_19 {d mc ms : Nat} {al : Bool} {bc bs : Nat} {Γ : am_G} {I : am_I} {L : am_L} {Q : am_Q} {v0 : Nat} {v1 : Int32} {v2 : Int32} {v3 : Nat} (hq : Q (.inl (some (.int 2))) Γ I L) : am_W m_L_setCostLimit d mc ms al bc bs 19 [(0, .ref v0), (1, .int v1), (2, .int v2), (3, .ref v3)] [] Γ I L Q := by
  refine aw_iconst dL_setCostLimit_19 ci_2 ?_
  exact aw_iret dL_setCostLimit_20 rfl hq
theorem bL_setCostLimit_21 {d mc ms : Nat} {al : Bool} {bc bs : Nat} {Γ : am_G} {I : am_I} {L : am_L} {Q : am_Q} {v0 : Nat} {v1 : Int32} {v2 : Int32} {v3 : Nat} (hq : Q (.inl (some (.int 0))) Γ I L) : am_W m_L_setCostLimit d mc ms al bc bs 21 [(0, .ref v0), (1, .int v1), (2, .int v2), (3, .ref v3)] [] Γ I L Q := by
  refine aw_iconst dL_setCostLimit_21 ci_0 ?_
  exact aw_iret dL_setCostLimit_22 rfl hq
theorem dL_advanceClock_0 : decode cL_advanceClock 0 = .ok (.aload_n 2, 1) := by decide +kernel
theorem dL_advanceClock_1 : decode cL_advanceClock 1 = .ok (.iconst 0, 1) := by decide +kernel
theorem dL_advanceClock_2 : decode cL_advanceClock 2 = .ok (.aload_n 0, 1) := by decide +kernel
theorem dL_advanceClock_3 : decode cL_advanceClock 3 = .ok (.iload_n 1, 1) := by decide +kernel
theorem dL_advanceClock_4 : decode cL_advanceClock 4 = .ok (.invokevirtual 36, 3) := by decide +kernel
theorem dL_advanceClock_7 : decode cL_advanceClock 7 = .ok (.i2l, 1) := by decide +kernel
theorem dL_advanceClock_8 : decode cL_advanceClock 8 = .ok (.lastore, 1) := by decide +kernel
theorem dL_advanceClock_9 : decode cL_advanceClock 9 = .ok (.goto 9, 3) := by decide +kernel
theorem dL_advanceClock_12 : decode cL_advanceClock 12 = .ok (.astore_n 3, 1) := by decide +kernel
theorem dL_advanceClock_13 : decode cL_advanceClock 13 = .ok (.iconst 1, 1) := by decide +kernel
theorem dL_advanceClock_14 : decode cL_advanceClock 14 = .ok (.ireturn, 1) := by decide +kernel
theorem dL_advanceClock_15 : decode cL_advanceClock 15 = .ok (.astore_n 3, 1) := by decide +kernel
theorem dL_advanceClock_16 : decode cL_advanceClock 16 = .ok (.iconst 2, 1) := by decide +kernel
theorem dL_advanceClock_17 : decode cL_advanceClock 17 = .ok (.ireturn, 1) := by decide +kernel
theorem dL_advanceClock_18 : decode cL_advanceClock 18 = .ok (.iconst 0, 1) := by decide +kernel
theorem dL_advanceClock_19 : decode cL_advanceClock 19 = .ok (.ireturn, 1) := by decide +kernel
theorem bL_advanceClock_0 {d mc ms : Nat} {al : Bool} {bc bs : Nat} {Γ : am_G} {I : am_I} {L : am_L} {Q : am_Q} {v0 : Nat} {v1 : Int32} {v2 : Nat} {I' : am_I} {L' : am_L} {mc' : Nat} {ms' : Nat} {r : Int32} (o1 : am_ob Γ v0 8) (hbc : mc' ≤ bc) (hbs : ms' ≤ bs) (hC : am_E m_X8_advanceClock d mc' ms' [.ref v0, .int v1] Γ I L (.inl (some (.int r))) I' L') (kk : am_W m_L_advanceClock (d + 1) mc ms al (bc - mc') (bs - ms') 7 [(0, .ref v0), (1, .int v1), (2, .ref v2)] [.int r, .int 0, .ref v2] Γ I' L' Q) : am_W m_L_advanceClock (d + 1) mc ms al bc bs 0 [(0, .ref v0), (1, .int v1), (2, .ref v2)] [] Γ I L Q := by
  refine aw_aload_n dL_advanceClock_0 rfl ?_
  refine aw_iconst dL_advanceClock_1 ci_0 ?_
  refine aw_aload_n dL_advanceClock_2 rfl ?_
  refine aw_iload_n dL_advanceClock_3 rfl ?_
  exact aw_askV (as := [.int v1]) (rst := [.int 0, .ref v2]) k_X8_advanceClock l_L_36 i_X8_advanceClock s_X8_advanceClock rfl o1 dL_advanceClock_4 rfl (Nat.le_of_ble_eq_true rfl) hbc hbs hC rfl rfl kk
theorem bL_advanceClock_0c1 {d mc ms : Nat} {al : Bool} {bc bs : Nat} {Γ : am_G} {I : am_I} {L : am_L} {Q : am_Q} {v0 : Nat} {v1 : Int32} {v2 : Nat} {I' : am_I} {L' : am_L} {mc' : Nat} {ms' : Nat} (o1 : am_ob Γ v0 8) (hbc : mc' ≤ bc) (hbs : ms' ≤ bs) (hC : am_E m_X8_advanceClock d mc' ms' [.ref v0, .int v1] Γ I L (.inr "java/lang/IllegalArgumentException") I' L') (kk : am_W m_L_advanceClock (d + 1) mc ms al (bc - mc') (bs - ms') 13 [(0, .ref v0), (1, .int v1), (2, .ref v2)] [] Γ I' L' Q) : am_W m_L_advanceClock (d + 1) mc ms al bc bs 0 [(0, .ref v0), (1, .int v1), (2, .ref v2)] [] Γ I L Q := by
  refine aw_aload_n dL_advanceClock_0 rfl ?_
  refine aw_iconst dL_advanceClock_1 ci_0 ?_
  refine aw_aload_n dL_advanceClock_2 rfl ?_
  refine aw_iload_n dL_advanceClock_3 rfl ?_
  refine aw_catchV (as := [.int v1]) (rst := [.int 0, .ref v2]) (nm := "java/lang/IllegalArgumentException") (k := 3) (len := 1) (ls' := [(0, .ref v0), (1, .int v1), (2, .ref v2)]) k_X8_advanceClock l_L_36 i_X8_advanceClock s_X8_advanceClock rfl o1 dL_advanceClock_4 rfl (Nat.le_of_ble_eq_true rfl) hbc hbs hC rfl [] (0, 9, 12, 13) [(0, 9, 15, 21)] rfl ?_ (by decide) (by decide) cl_L_13 ca_IllegalArgumentException (Or.inl ⟨3, rfl, dL_advanceClock_12, rfl⟩) (by decide) ?_ kk
  · intro z hz
    cases hz
  · intro q hq
    simp only [List.mem_cons, List.not_mem_nil, or_false] at hq
    rcases hq with rfl | rfl | rfl
    · exact List.mem_filter.mpr ⟨by simp, rfl⟩
    · exact List.mem_filter.mpr ⟨by simp, rfl⟩
    · exact List.mem_filter.mpr ⟨by simp, rfl⟩
theorem bL_advanceClock_0c2 {d mc ms : Nat} {al : Bool} {bc bs : Nat} {Γ : am_G} {I : am_I} {L : am_L} {Q : am_Q} {v0 : Nat} {v1 : Int32} {v2 : Nat} {I' : am_I} {L' : am_L} {mc' : Nat} {ms' : Nat} (o1 : am_ob Γ v0 8) (hbc : mc' ≤ bc) (hbs : ms' ≤ bs) (hC : am_E m_X8_advanceClock d mc' ms' [.ref v0, .int v1] Γ I L (.inr "java/lang/IllegalStateException") I' L') (kk : am_W m_L_advanceClock (d + 1) mc ms al (bc - mc') (bs - ms') 16 [(0, .ref v0), (1, .int v1), (2, .ref v2)] [] Γ I' L' Q) : am_W m_L_advanceClock (d + 1) mc ms al bc bs 0 [(0, .ref v0), (1, .int v1), (2, .ref v2)] [] Γ I L Q := by
  refine aw_aload_n dL_advanceClock_0 rfl ?_
  refine aw_iconst dL_advanceClock_1 ci_0 ?_
  refine aw_aload_n dL_advanceClock_2 rfl ?_
  refine aw_iload_n dL_advanceClock_3 rfl ?_
  refine aw_catchV (as := [.int v1]) (rst := [.int 0, .ref v2]) (nm := "java/lang/IllegalStateException") (k := 3) (len := 1) (ls' := [(0, .ref v0), (1, .int v1), (2, .ref v2)]) k_X8_advanceClock l_L_36 i_X8_advanceClock s_X8_advanceClock rfl o1 dL_advanceClock_4 rfl (Nat.le_of_ble_eq_true rfl) hbc hbs hC rfl [(0, 9, 12, 13)] (0, 9, 15, 21) [] rfl ?_ (by decide) (by decide) cl_L_21 ca_IllegalStateException (Or.inl ⟨3, rfl, dL_advanceClock_15, rfl⟩) (by decide) ?_ kk
  · intro z hz
    simp only [List.mem_cons, List.not_mem_nil, or_false] at hz
    rcases hz with rfl
    · exact ⟨by decide, _, cl_L_13, by decide⟩
  · intro q hq
    simp only [List.mem_cons, List.not_mem_nil, or_false] at hq
    rcases hq with rfl | rfl | rfl
    · exact List.mem_filter.mpr ⟨by simp, rfl⟩
    · exact List.mem_filter.mpr ⟨by simp, rfl⟩
    · exact List.mem_filter.mpr ⟨by simp, rfl⟩
theorem bL_advanceClock_7 {d mc ms : Nat} {al : Bool} {bc bs : Nat} {Γ : am_G} {I : am_I} {L : am_L} {Q : am_Q} {v0 : Nat} {v1 : Int32} {v2 : Nat} {w0 : Nat} {w1 : Int32} {w2 : Int32} {n_w0 : Nat} (a1 : am_ar Γ w0 4 n_w0 0) (i2 : vp_in w1 n_w0) (kk : am_W m_L_advanceClock d mc ms al bc bs 18 [(0, .ref v0), (1, .int v1), (2, .ref v2)] [] Γ I (am_ul L w0 (w1.toNatClampNeg) (w2.toInt64)) Q) : am_W m_L_advanceClock d mc ms al bc bs 7 [(0, .ref v0), (1, .int v1), (2, .ref v2)] [.int w2, .int w1, .ref w0] Γ I L Q := by
  refine aw_i2l dL_advanceClock_7 ?_
  refine aw_last dL_advanceClock_8 a1 i2 ?_
  exact aw_goto dL_advanceClock_9 (by decide) kk
theorem bL_advanceClock_13 {d mc ms : Nat} {al : Bool} {bc bs : Nat} {Γ : am_G} {I : am_I} {L : am_L} {Q : am_Q} {v0 : Nat} {v1 : Int32} {v2 : Nat} (hq : Q (.inl (some (.int 1))) Γ I L) : am_W m_L_advanceClock d mc ms al bc bs 13 [(0, .ref v0), (1, .int v1), (2, .ref v2)] [] Γ I L Q := by
  refine aw_iconst dL_advanceClock_13 ci_1 ?_
  exact aw_iret dL_advanceClock_14 rfl hq
theorem bL_advanceClock_16 {d mc ms : Nat} {al : Bool} {bc bs : Nat} {Γ : am_G} {I : am_I} {L : am_L} {Q : am_Q} {v0 : Nat} {v1 : Int32} {v2 : Nat} (hq : Q (.inl (some (.int 2))) Γ I L) : am_W m_L_advanceClock d mc ms al bc bs 16 [(0, .ref v0), (1, .int v1), (2, .ref v2)] [] Γ I L Q := by
  refine aw_iconst dL_advanceClock_16 ci_2 ?_
  exact aw_iret dL_advanceClock_17 rfl hq
theorem bL_advanceClock_18 {d mc ms : Nat} {al : Bool} {bc bs : Nat} {Γ : am_G} {I : am_I} {L : am_L} {Q : am_Q} {v0 : Nat} {v1 : Int32} {v2 : Nat} (hq : Q (.inl (some (.int 0))) Γ I L) : am_W m_L_advanceClock d mc ms al bc bs 18 [(0, .ref v0), (1, .int v1), (2, .ref v2)] [] Γ I L Q := by
  refine aw_iconst dL_advanceClock_18 ci_0 ?_
  exact aw_iret dL_advanceClock_19 rfl hq
theorem dL_undo_0 : decode cL_undo 0 = .ok (.aload_n 1, 1) := by decide +kernel
theorem dL_undo_1 : decode cL_undo 1 = .ok (.iconst 0, 1) := by decide +kernel
theorem dL_undo_2 : decode cL_undo 2 = .ok (.aload_n 0, 1) := by decide +kernel
theorem dL_undo_3 : decode cL_undo 3 = .ok (.invokevirtual 39, 3) := by decide +kernel
theorem dL_undo_6 : decode cL_undo 6 = .ok (.i2l, 1) := by decide +kernel
theorem dL_undo_7 : decode cL_undo 7 = .ok (.lastore, 1) := by decide +kernel
theorem dL_undo_8 : decode cL_undo 8 = .ok (.goto 6, 3) := by decide +kernel
theorem dL_undo_11 : decode cL_undo 11 = .ok (.astore_n 2, 1) := by decide +kernel
theorem dL_undo_12 : decode cL_undo 12 = .ok (.iconst 1, 1) := by decide +kernel
theorem dL_undo_13 : decode cL_undo 13 = .ok (.ireturn, 1) := by decide +kernel
theorem dL_undo_14 : decode cL_undo 14 = .ok (.iconst 0, 1) := by decide +kernel
theorem dL_undo_15 : decode cL_undo 15 = .ok (.ireturn, 1) := by decide +kernel
theorem bL_undo_0 {d mc ms : Nat} {al : Bool} {bc bs : Nat} {Γ : am_G} {I : am_I} {L : am_L} {Q : am_Q} {v0 : Nat} {v1 : Nat} {I' : am_I} {L' : am_L} {mc' : Nat} {ms' : Nat} {r : Int32} (o1 : am_ob Γ v0 8) (hbc : mc' ≤ bc) (hbs : ms' ≤ bs) (hC : am_E m_X8_undo d mc' ms' [.ref v0] Γ I L (.inl (some (.int r))) I' L') (kk : am_W m_L_undo (d + 1) mc ms al (bc - mc') (bs - ms') 6 [(0, .ref v0), (1, .ref v1)] [.int r, .int 0, .ref v1] Γ I' L' Q) : am_W m_L_undo (d + 1) mc ms al bc bs 0 [(0, .ref v0), (1, .ref v1)] [] Γ I L Q := by
  refine aw_aload_n dL_undo_0 rfl ?_
  refine aw_iconst dL_undo_1 ci_0 ?_
  refine aw_aload_n dL_undo_2 rfl ?_
  exact aw_askV (as := []) (rst := [.int 0, .ref v1]) k_X8_undo l_L_39 i_X8_undo s_X8_undo rfl o1 dL_undo_3 rfl (Nat.le_of_ble_eq_true rfl) hbc hbs hC rfl rfl kk
theorem bL_undo_0c1 {d mc ms : Nat} {al : Bool} {bc bs : Nat} {Γ : am_G} {I : am_I} {L : am_L} {Q : am_Q} {v0 : Nat} {v1 : Nat} {I' : am_I} {L' : am_L} {mc' : Nat} {ms' : Nat} (o1 : am_ob Γ v0 8) (hbc : mc' ≤ bc) (hbs : ms' ≤ bs) (hC : am_E m_X8_undo d mc' ms' [.ref v0] Γ I L (.inr "java/lang/IllegalStateException") I' L') (kk : am_W m_L_undo (d + 1) mc ms al (bc - mc') (bs - ms') 12 [(0, .ref v0), (1, .ref v1)] [] Γ I' L' Q) : am_W m_L_undo (d + 1) mc ms al bc bs 0 [(0, .ref v0), (1, .ref v1)] [] Γ I L Q := by
  refine aw_aload_n dL_undo_0 rfl ?_
  refine aw_iconst dL_undo_1 ci_0 ?_
  refine aw_aload_n dL_undo_2 rfl ?_
  refine aw_catchV (as := []) (rst := [.int 0, .ref v1]) (nm := "java/lang/IllegalStateException") (k := 2) (len := 1) (ls' := [(0, .ref v0), (1, .ref v1)]) k_X8_undo l_L_39 i_X8_undo s_X8_undo rfl o1 dL_undo_3 rfl (Nat.le_of_ble_eq_true rfl) hbc hbs hC rfl [] (0, 8, 11, 21) [] rfl ?_ (by decide) (by decide) cl_L_21 ca_IllegalStateException (Or.inl ⟨2, rfl, dL_undo_11, rfl⟩) (by decide) ?_ kk
  · intro z hz
    cases hz
  · intro q hq
    simp only [List.mem_cons, List.not_mem_nil, or_false] at hq
    rcases hq with rfl | rfl
    · exact List.mem_filter.mpr ⟨by simp, rfl⟩
    · exact List.mem_filter.mpr ⟨by simp, rfl⟩
theorem bL_undo_6 {d mc ms : Nat} {al : Bool} {bc bs : Nat} {Γ : am_G} {I : am_I} {L : am_L} {Q : am_Q} {v0 : Nat} {v1 : Nat} {w0 : Nat} {w1 : Int32} {w2 : Int32} {n_w0 : Nat} (a1 : am_ar Γ w0 4 n_w0 0) (i2 : vp_in w1 n_w0) (kk : am_W m_L_undo d mc ms al bc bs 14 [(0, .ref v0), (1, .ref v1)] [] Γ I (am_ul L w0 (w1.toNatClampNeg) (w2.toInt64)) Q) : am_W m_L_undo d mc ms al bc bs 6 [(0, .ref v0), (1, .ref v1)] [.int w2, .int w1, .ref w0] Γ I L Q := by
  refine aw_i2l dL_undo_6 ?_
  refine aw_last dL_undo_7 a1 i2 ?_
  exact aw_goto dL_undo_8 (by decide) kk
theorem bL_undo_12 {d mc ms : Nat} {al : Bool} {bc bs : Nat} {Γ : am_G} {I : am_I} {L : am_L} {Q : am_Q} {v0 : Nat} {v1 : Nat} (hq : Q (.inl (some (.int 1))) Γ I L) : am_W m_L_undo d mc ms al bc bs 12 [(0, .ref v0), (1, .ref v1)] [] Γ I L Q := by
  refine aw_iconst dL_undo_12 ci_1 ?_
  exact aw_iret dL_undo_13 rfl hq
theorem bL_undo_14 {d mc ms : Nat} {al : Bool} {bc bs : Nat} {Γ : am_G} {I : am_I} {L : am_L} {Q : am_Q} {v0 : Nat} {v1 : Nat} (hq : Q (.inl (some (.int 0))) Γ I L) : am_W m_L_undo d mc ms al bc bs 14 [(0, .ref v0), (1, .ref v1)] [] Γ I L Q := by
  refine aw_iconst dL_undo_14 ci_0 ?_
  exact aw_iret dL_undo_15 rfl hq
theorem dL_save_0 : decode cL_save 0 = .ok (.aload_n 2, 1) := by decide +kernel
theorem dL_save_1 : decode cL_save 1 = .ok (.iconst 0, 1) := by decide +kernel
theorem dL_save_2 : decode cL_save 2 = .ok (.aload_n 0, 1) := by decide +kernel
theorem dL_save_3 : decode cL_save 3 = .ok (.iload_n 1, 1) := by decide +kernel
theorem dL_save_4 : decode cL_save 4 = .ok (.invokevirtual 43, 3) := by decide +kernel
theorem dL_save_7 : decode cL_save 7 = .ok (.i2l, 1) := by decide +kernel
theorem dL_save_8 : decode cL_save 8 = .ok (.lastore, 1) := by decide +kernel
theorem dL_save_9 : decode cL_save 9 = .ok (.goto 6, 3) := by decide +kernel
theorem dL_save_12 : decode cL_save 12 = .ok (.astore_n 3, 1) := by decide +kernel
theorem dL_save_13 : decode cL_save 13 = .ok (.iconst 1, 1) := by decide +kernel
theorem dL_save_14 : decode cL_save 14 = .ok (.ireturn, 1) := by decide +kernel
theorem dL_save_15 : decode cL_save 15 = .ok (.iconst 0, 1) := by decide +kernel
theorem dL_save_16 : decode cL_save 16 = .ok (.ireturn, 1) := by decide +kernel
theorem bL_save_0 {d mc ms : Nat} {al : Bool} {bc bs : Nat} {Γ : am_G} {I : am_I} {L : am_L} {Q : am_Q} {v0 : Nat} {v1 : Int32} {v2 : Nat} {I' : am_I} {L' : am_L} {mc' : Nat} {ms' : Nat} {r : Int32} (o1 : am_ob Γ v0 8) (hbc : mc' ≤ bc) (hbs : ms' ≤ bs) (hC : am_E m_X8_save d mc' ms' [.ref v0, .int v1] Γ I L (.inl (some (.int r))) I' L') (kk : am_W m_L_save (d + 1) mc ms al (bc - mc') (bs - ms') 7 [(0, .ref v0), (1, .int v1), (2, .ref v2)] [.int r, .int 0, .ref v2] Γ I' L' Q) : am_W m_L_save (d + 1) mc ms al bc bs 0 [(0, .ref v0), (1, .int v1), (2, .ref v2)] [] Γ I L Q := by
  refine aw_aload_n dL_save_0 rfl ?_
  refine aw_iconst dL_save_1 ci_0 ?_
  refine aw_aload_n dL_save_2 rfl ?_
  refine aw_iload_n dL_save_3 rfl ?_
  exact aw_askV (as := [.int v1]) (rst := [.int 0, .ref v2]) k_X8_save l_L_43 i_X8_save s_X8_save rfl o1 dL_save_4 rfl (Nat.le_of_ble_eq_true rfl) hbc hbs hC rfl rfl kk
theorem bL_save_0c1 {d mc ms : Nat} {al : Bool} {bc bs : Nat} {Γ : am_G} {I : am_I} {L : am_L} {Q : am_Q} {v0 : Nat} {v1 : Int32} {v2 : Nat} {I' : am_I} {L' : am_L} {mc' : Nat} {ms' : Nat} (o1 : am_ob Γ v0 8) (hbc : mc' ≤ bc) (hbs : ms' ≤ bs) (hC : am_E m_X8_save d mc' ms' [.ref v0, .int v1] Γ I L (.inr "java/lang/IllegalArgumentException") I' L') (kk : am_W m_L_save (d + 1) mc ms al (bc - mc') (bs - ms') 13 [(0, .ref v0), (1, .int v1), (2, .ref v2)] [] Γ I' L' Q) : am_W m_L_save (d + 1) mc ms al bc bs 0 [(0, .ref v0), (1, .int v1), (2, .ref v2)] [] Γ I L Q := by
  refine aw_aload_n dL_save_0 rfl ?_
  refine aw_iconst dL_save_1 ci_0 ?_
  refine aw_aload_n dL_save_2 rfl ?_
  refine aw_iload_n dL_save_3 rfl ?_
  refine aw_catchV (as := [.int v1]) (rst := [.int 0, .ref v2]) (nm := "java/lang/IllegalArgumentException") (k := 3) (len := 1) (ls' := [(0, .ref v0), (1, .int v1), (2, .ref v2)]) k_X8_save l_L_43 i_X8_save s_X8_save rfl o1 dL_save_4 rfl (Nat.le_of_ble_eq_true rfl) hbc hbs hC rfl [] (0, 9, 12, 13) [] rfl ?_ (by decide) (by decide) cl_L_13 ca_IllegalArgumentException (Or.inl ⟨3, rfl, dL_save_12, rfl⟩) (by decide) ?_ kk
  · intro z hz
    cases hz
  · intro q hq
    simp only [List.mem_cons, List.not_mem_nil, or_false] at hq
    rcases hq with rfl | rfl | rfl
    · exact List.mem_filter.mpr ⟨by simp, rfl⟩
    · exact List.mem_filter.mpr ⟨by simp, rfl⟩
    · exact List.mem_filter.mpr ⟨by simp, rfl⟩
theorem bL_save_7 {d mc ms : Nat} {al : Bool} {bc bs : Nat} {Γ : am_G} {I : am_I} {L : am_L} {Q : am_Q} {v0 : Nat} {v1 : Int32} {v2 : Nat} {w0 : Nat} {w1 : Int32} {w2 : Int32} {n_w0 : Nat} (a1 : am_ar Γ w0 4 n_w0 0) (i2 : vp_in w1 n_w0) (kk : am_W m_L_save d mc ms al bc bs 15 [(0, .ref v0), (1, .int v1), (2, .ref v2)] [] Γ I (am_ul L w0 (w1.toNatClampNeg) (w2.toInt64)) Q) : am_W m_L_save d mc ms al bc bs 7 [(0, .ref v0), (1, .int v1), (2, .ref v2)] [.int w2, .int w1, .ref w0] Γ I L Q := by
  refine aw_i2l dL_save_7 ?_
  refine aw_last dL_save_8 a1 i2 ?_
  exact aw_goto dL_save_9 (by decide) kk
theorem bL_save_13 {d mc ms : Nat} {al : Bool} {bc bs : Nat} {Γ : am_G} {I : am_I} {L : am_L} {Q : am_Q} {v0 : Nat} {v1 : Int32} {v2 : Nat} (hq : Q (.inl (some (.int 1))) Γ I L) : am_W m_L_save d mc ms al bc bs 13 [(0, .ref v0), (1, .int v1), (2, .ref v2)] [] Γ I L Q := by
  refine aw_iconst dL_save_13 ci_1 ?_
  exact aw_iret dL_save_14 rfl hq
theorem bL_save_15 {d mc ms : Nat} {al : Bool} {bc bs : Nat} {Γ : am_G} {I : am_I} {L : am_L} {Q : am_Q} {v0 : Nat} {v1 : Int32} {v2 : Nat} (hq : Q (.inl (some (.int 0))) Γ I L) : am_W m_L_save d mc ms al bc bs 15 [(0, .ref v0), (1, .int v1), (2, .ref v2)] [] Γ I L Q := by
  refine aw_iconst dL_save_15 ci_0 ?_
  exact aw_iret dL_save_16 rfl hq
theorem dL_restore_0 : decode cL_restore 0 = .ok (.aload_n 2, 1) := by decide +kernel
theorem dL_restore_1 : decode cL_restore 1 = .ok (.iconst 0, 1) := by decide +kernel
theorem dL_restore_2 : decode cL_restore 2 = .ok (.aload_n 0, 1) := by decide +kernel
theorem dL_restore_3 : decode cL_restore 3 = .ok (.iload_n 1, 1) := by decide +kernel
theorem dL_restore_4 : decode cL_restore 4 = .ok (.invokevirtual 46, 3) := by decide +kernel
theorem dL_restore_7 : decode cL_restore 7 = .ok (.i2l, 1) := by decide +kernel
theorem dL_restore_8 : decode cL_restore 8 = .ok (.lastore, 1) := by decide +kernel
theorem dL_restore_9 : decode cL_restore 9 = .ok (.goto 9, 3) := by decide +kernel
theorem dL_restore_12 : decode cL_restore 12 = .ok (.astore_n 3, 1) := by decide +kernel
theorem dL_restore_13 : decode cL_restore 13 = .ok (.iconst 1, 1) := by decide +kernel
theorem dL_restore_14 : decode cL_restore 14 = .ok (.ireturn, 1) := by decide +kernel
theorem dL_restore_15 : decode cL_restore 15 = .ok (.astore_n 3, 1) := by decide +kernel
theorem dL_restore_16 : decode cL_restore 16 = .ok (.iconst 2, 1) := by decide +kernel
theorem dL_restore_17 : decode cL_restore 17 = .ok (.ireturn, 1) := by decide +kernel
theorem dL_restore_18 : decode cL_restore 18 = .ok (.iconst 0, 1) := by decide +kernel
theorem dL_restore_19 : decode cL_restore 19 = .ok (.ireturn, 1) := by decide +kernel
theorem bL_restore_0 {d mc ms : Nat} {al : Bool} {bc bs : Nat} {Γ : am_G} {I : am_I} {L : am_L} {Q : am_Q} {v0 : Nat} {v1 : Int32} {v2 : Nat} {I' : am_I} {L' : am_L} {mc' : Nat} {ms' : Nat} {r : Int32} (o1 : am_ob Γ v0 8) (hbc : mc' ≤ bc) (hbs : ms' ≤ bs) (hC : am_E m_X8_restore d mc' ms' [.ref v0, .int v1] Γ I L (.inl (some (.int r))) I' L') (kk : am_W m_L_restore (d + 1) mc ms al (bc - mc') (bs - ms') 7 [(0, .ref v0), (1, .int v1), (2, .ref v2)] [.int r, .int 0, .ref v2] Γ I' L' Q) : am_W m_L_restore (d + 1) mc ms al bc bs 0 [(0, .ref v0), (1, .int v1), (2, .ref v2)] [] Γ I L Q := by
  refine aw_aload_n dL_restore_0 rfl ?_
  refine aw_iconst dL_restore_1 ci_0 ?_
  refine aw_aload_n dL_restore_2 rfl ?_
  refine aw_iload_n dL_restore_3 rfl ?_
  exact aw_askV (as := [.int v1]) (rst := [.int 0, .ref v2]) k_X8_restore l_L_46 i_X8_restore s_X8_restore rfl o1 dL_restore_4 rfl (Nat.le_of_ble_eq_true rfl) hbc hbs hC rfl rfl kk
theorem bL_restore_0c1 {d mc ms : Nat} {al : Bool} {bc bs : Nat} {Γ : am_G} {I : am_I} {L : am_L} {Q : am_Q} {v0 : Nat} {v1 : Int32} {v2 : Nat} {I' : am_I} {L' : am_L} {mc' : Nat} {ms' : Nat} (o1 : am_ob Γ v0 8) (hbc : mc' ≤ bc) (hbs : ms' ≤ bs) (hC : am_E m_X8_restore d mc' ms' [.ref v0, .int v1] Γ I L (.inr "java/lang/IllegalArgumentException") I' L') (kk : am_W m_L_restore (d + 1) mc ms al (bc - mc') (bs - ms') 13 [(0, .ref v0), (1, .int v1), (2, .ref v2)] [] Γ I' L' Q) : am_W m_L_restore (d + 1) mc ms al bc bs 0 [(0, .ref v0), (1, .int v1), (2, .ref v2)] [] Γ I L Q := by
  refine aw_aload_n dL_restore_0 rfl ?_
  refine aw_iconst dL_restore_1 ci_0 ?_
  refine aw_aload_n dL_restore_2 rfl ?_
  refine aw_iload_n dL_restore_3 rfl ?_
  refine aw_catchV (as := [.int v1]) (rst := [.int 0, .ref v2]) (nm := "java/lang/IllegalArgumentException") (k := 3) (len := 1) (ls' := [(0, .ref v0), (1, .int v1), (2, .ref v2)]) k_X8_restore l_L_46 i_X8_restore s_X8_restore rfl o1 dL_restore_4 rfl (Nat.le_of_ble_eq_true rfl) hbc hbs hC rfl [] (0, 9, 12, 13) [(0, 9, 15, 21)] rfl ?_ (by decide) (by decide) cl_L_13 ca_IllegalArgumentException (Or.inl ⟨3, rfl, dL_restore_12, rfl⟩) (by decide) ?_ kk
  · intro z hz
    cases hz
  · intro q hq
    simp only [List.mem_cons, List.not_mem_nil, or_false] at hq
    rcases hq with rfl | rfl | rfl
    · exact List.mem_filter.mpr ⟨by simp, rfl⟩
    · exact List.mem_filter.mpr ⟨by simp, rfl⟩
    · exact List.mem_filter.mpr ⟨by simp, rfl⟩
theorem bL_restore_0c2 {d mc ms : Nat} {al : Bool} {bc bs : Nat} {Γ : am_G} {I : am_I} {L : am_L} {Q : am_Q} {v0 : Nat} {v1 : Int32} {v2 : Nat} {I' : am_I} {L' : am_L} {mc' : Nat} {ms' : Nat} (o1 : am_ob Γ v0 8) (hbc : mc' ≤ bc) (hbs : ms' ≤ bs) (hC : am_E m_X8_restore d mc' ms' [.ref v0, .int v1] Γ I L (.inr "java/lang/IllegalStateException") I' L') (kk : am_W m_L_restore (d + 1) mc ms al (bc - mc') (bs - ms') 16 [(0, .ref v0), (1, .int v1), (2, .ref v2)] [] Γ I' L' Q) : am_W m_L_restore (d + 1) mc ms al bc bs 0 [(0, .ref v0), (1, .int v1), (2, .ref v2)] [] Γ I L Q := by
  refine aw_aload_n dL_restore_0 rfl ?_
  refine aw_iconst dL_restore_1 ci_0 ?_
  refine aw_aload_n dL_restore_2 rfl ?_
  refine aw_iload_n dL_restore_3 rfl ?_
  refine aw_catchV (as := [.int v1]) (rst := [.int 0, .ref v2]) (nm := "java/lang/IllegalStateException") (k := 3) (len := 1) (ls' := [(0, .ref v0), (1, .int v1), (2, .ref v2)]) k_X8_restore l_L_46 i_X8_restore s_X8_restore rfl o1 dL_restore_4 rfl (Nat.le_of_ble_eq_true rfl) hbc hbs hC rfl [(0, 9, 12, 13)] (0, 9, 15, 21) [] rfl ?_ (by decide) (by decide) cl_L_21 ca_IllegalStateException (Or.inl ⟨3, rfl, dL_restore_15, rfl⟩) (by decide) ?_ kk
  · intro z hz
    simp only [List.mem_cons, List.not_mem_nil, or_false] at hz
    rcases hz with rfl
    · exact ⟨by decide, _, cl_L_13, by decide⟩
  · intro q hq
    simp only [List.mem_cons, List.not_mem_nil, or_false] at hq
    rcases hq with rfl | rfl | rfl
    · exact List.mem_filter.mpr ⟨by simp, rfl⟩
    · exact List.mem_filter.mpr ⟨by simp, rfl⟩
    · exact List.mem_filter.mpr ⟨by simp, rfl⟩
theorem bL_restore_7 {d mc ms : Nat} {al : Bool} {bc bs : Nat} {Γ : am_G} {I : am_I} {L : am_L} {Q : am_Q} {v0 : Nat} {v1 : Int32} {v2 : Nat} {w0 : Nat} {w1 : Int32} {w2 : Int32} {n_w0 : Nat} (a1 : am_ar Γ w0 4 n_w0 0) (i2 : vp_in w1 n_w0) (kk : am_W m_L_restore d mc ms al bc bs 18 [(0, .ref v0), (1, .int v1), (2, .ref v2)] [] Γ I (am_ul L w0 (w1.toNatClampNeg) (w2.toInt64)) Q) : am_W m_L_restore d mc ms al bc bs 7 [(0, .ref v0), (1, .int v1), (2, .ref v2)] [.int w2, .int w1, .ref w0] Γ I L Q := by
  refine aw_i2l dL_restore_7 ?_
  refine aw_last dL_restore_8 a1 i2 ?_
  exact aw_goto dL_restore_9 (by decide) kk
theorem bL_restore_13 {d mc ms : Nat} {al : Bool} {bc bs : Nat} {Γ : am_G} {I : am_I} {L : am_L} {Q : am_Q} {v0 : Nat} {v1 : Int32} {v2 : Nat} (hq : Q (.inl (some (.int 1))) Γ I L) : am_W m_L_restore d mc ms al bc bs 13 [(0, .ref v0), (1, .int v1), (2, .ref v2)] [] Γ I L Q := by
  refine aw_iconst dL_restore_13 ci_1 ?_
  exact aw_iret dL_restore_14 rfl hq
theorem bL_restore_16 {d mc ms : Nat} {al : Bool} {bc bs : Nat} {Γ : am_G} {I : am_I} {L : am_L} {Q : am_Q} {v0 : Nat} {v1 : Int32} {v2 : Nat} (hq : Q (.inl (some (.int 2))) Γ I L) : am_W m_L_restore d mc ms al bc bs 16 [(0, .ref v0), (1, .int v1), (2, .ref v2)] [] Γ I L Q := by
  refine aw_iconst dL_restore_16 ci_2 ?_
  exact aw_iret dL_restore_17 rfl hq
theorem bL_restore_18 {d mc ms : Nat} {al : Bool} {bc bs : Nat} {Γ : am_G} {I : am_I} {L : am_L} {Q : am_Q} {v0 : Nat} {v1 : Int32} {v2 : Nat} (hq : Q (.inl (some (.int 0))) Γ I L) : am_W m_L_restore d mc ms al bc bs 18 [(0, .ref v0), (1, .int v1), (2, .ref v2)] [] Γ I L Q := by
  refine aw_iconst dL_restore_18 ci_0 ?_
  exact aw_iret dL_restore_19 rfl hq
theorem dL_questionCost_0 : decode cL_questionCost 0 = .ok (.aload_n 2, 1) := by decide +kernel
theorem dL_questionCost_1 : decode cL_questionCost 1 = .ok (.iconst 0, 1) := by decide +kernel
theorem dL_questionCost_2 : decode cL_questionCost 2 = .ok (.aload_n 0, 1) := by decide +kernel
theorem dL_questionCost_3 : decode cL_questionCost 3 = .ok (.iload_n 1, 1) := by decide +kernel
theorem dL_questionCost_4 : decode cL_questionCost 4 = .ok (.invokevirtual 49, 3) := by decide +kernel
theorem dL_questionCost_7 : decode cL_questionCost 7 = .ok (.i2l, 1) := by decide +kernel
theorem dL_questionCost_8 : decode cL_questionCost 8 = .ok (.lastore, 1) := by decide +kernel
theorem dL_questionCost_9 : decode cL_questionCost 9 = .ok (.goto 6, 3) := by decide +kernel
theorem dL_questionCost_12 : decode cL_questionCost 12 = .ok (.astore_n 3, 1) := by decide +kernel
theorem dL_questionCost_13 : decode cL_questionCost 13 = .ok (.iconst 1, 1) := by decide +kernel
theorem dL_questionCost_14 : decode cL_questionCost 14 = .ok (.ireturn, 1) := by decide +kernel
theorem dL_questionCost_15 : decode cL_questionCost 15 = .ok (.iconst 0, 1) := by decide +kernel
theorem dL_questionCost_16 : decode cL_questionCost 16 = .ok (.ireturn, 1) := by decide +kernel
theorem bL_questionCost_0 {d mc ms : Nat} {al : Bool} {bc bs : Nat} {Γ : am_G} {I : am_I} {L : am_L} {Q : am_Q} {v0 : Nat} {v1 : Int32} {v2 : Nat} {I' : am_I} {L' : am_L} {mc' : Nat} {ms' : Nat} {r : Int32} (o1 : am_ob Γ v0 8) (hbc : mc' ≤ bc) (hbs : ms' ≤ bs) (hC : am_E m_X8_questionCost d mc' ms' [.ref v0, .int v1] Γ I L (.inl (some (.int r))) I' L') (kk : am_W m_L_questionCost (d + 1) mc ms al (bc - mc') (bs - ms') 7 [(0, .ref v0), (1, .int v1), (2, .ref v2)] [.int r, .int 0, .ref v2] Γ I' L' Q) : am_W m_L_questionCost (d + 1) mc ms al bc bs 0 [(0, .ref v0), (1, .int v1), (2, .ref v2)] [] Γ I L Q := by
  refine aw_aload_n dL_questionCost_0 rfl ?_
  refine aw_iconst dL_questionCost_1 ci_0 ?_
  refine aw_aload_n dL_questionCost_2 rfl ?_
  refine aw_iload_n dL_questionCost_3 rfl ?_
  exact aw_askV (as := [.int v1]) (rst := [.int 0, .ref v2]) k_X8_questionCost l_L_49 i_X8_questionCost s_X8_questionCost rfl o1 dL_questionCost_4 rfl (Nat.le_of_ble_eq_true rfl) hbc hbs hC rfl rfl kk
theorem bL_questionCost_0c1 {d mc ms : Nat} {al : Bool} {bc bs : Nat} {Γ : am_G} {I : am_I} {L : am_L} {Q : am_Q} {v0 : Nat} {v1 : Int32} {v2 : Nat} {I' : am_I} {L' : am_L} {mc' : Nat} {ms' : Nat} (o1 : am_ob Γ v0 8) (hbc : mc' ≤ bc) (hbs : ms' ≤ bs) (hC : am_E m_X8_questionCost d mc' ms' [.ref v0, .int v1] Γ I L (.inr "java/lang/IndexOutOfBoundsException") I' L') (kk : am_W m_L_questionCost (d + 1) mc ms al (bc - mc') (bs - ms') 13 [(0, .ref v0), (1, .int v1), (2, .ref v2)] [] Γ I' L' Q) : am_W m_L_questionCost (d + 1) mc ms al bc bs 0 [(0, .ref v0), (1, .int v1), (2, .ref v2)] [] Γ I L Q := by
  refine aw_aload_n dL_questionCost_0 rfl ?_
  refine aw_iconst dL_questionCost_1 ci_0 ?_
  refine aw_aload_n dL_questionCost_2 rfl ?_
  refine aw_iload_n dL_questionCost_3 rfl ?_
  refine aw_catchV (as := [.int v1]) (rst := [.int 0, .ref v2]) (nm := "java/lang/IndexOutOfBoundsException") (k := 3) (len := 1) (ls' := [(0, .ref v0), (1, .int v1), (2, .ref v2)]) k_X8_questionCost l_L_49 i_X8_questionCost s_X8_questionCost rfl o1 dL_questionCost_4 rfl (Nat.le_of_ble_eq_true rfl) hbc hbs hC rfl [] (0, 9, 12, 19) [] rfl ?_ (by decide) (by decide) cl_L_19 ca_IndexOutOfBoundsException (Or.inl ⟨3, rfl, dL_questionCost_12, rfl⟩) (by decide) ?_ kk
  · intro z hz
    cases hz
  · intro q hq
    simp only [List.mem_cons, List.not_mem_nil, or_false] at hq
    rcases hq with rfl | rfl | rfl
    · exact List.mem_filter.mpr ⟨by simp, rfl⟩
    · exact List.mem_filter.mpr ⟨by simp, rfl⟩
    · exact List.mem_filter.mpr ⟨by simp, rfl⟩
theorem bL_questionCost_7 {d mc ms : Nat} {al : Bool} {bc bs : Nat} {Γ : am_G} {I : am_I} {L : am_L} {Q : am_Q} {v0 : Nat} {v1 : Int32} {v2 : Nat} {w0 : Nat} {w1 : Int32} {w2 : Int32} {n_w0 : Nat} (a1 : am_ar Γ w0 4 n_w0 0) (i2 : vp_in w1 n_w0) (kk : am_W m_L_questionCost d mc ms al bc bs 15 [(0, .ref v0), (1, .int v1), (2, .ref v2)] [] Γ I (am_ul L w0 (w1.toNatClampNeg) (w2.toInt64)) Q) : am_W m_L_questionCost d mc ms al bc bs 7 [(0, .ref v0), (1, .int v1), (2, .ref v2)] [.int w2, .int w1, .ref w0] Γ I L Q := by
  refine aw_i2l dL_questionCost_7 ?_
  refine aw_last dL_questionCost_8 a1 i2 ?_
  exact aw_goto dL_questionCost_9 (by decide) kk
theorem bL_questionCost_13 {d mc ms : Nat} {al : Bool} {bc bs : Nat} {Γ : am_G} {I : am_I} {L : am_L} {Q : am_Q} {v0 : Nat} {v1 : Int32} {v2 : Nat} (hq : Q (.inl (some (.int 1))) Γ I L) : am_W m_L_questionCost d mc ms al bc bs 13 [(0, .ref v0), (1, .int v1), (2, .ref v2)] [] Γ I L Q := by
  refine aw_iconst dL_questionCost_13 ci_1 ?_
  exact aw_iret dL_questionCost_14 rfl hq
theorem bL_questionCost_15 {d mc ms : Nat} {al : Bool} {bc bs : Nat} {Γ : am_G} {I : am_I} {L : am_L} {Q : am_Q} {v0 : Nat} {v1 : Int32} {v2 : Nat} (hq : Q (.inl (some (.int 0))) Γ I L) : am_W m_L_questionCost d mc ms al bc bs 15 [(0, .ref v0), (1, .int v1), (2, .ref v2)] [] Γ I L Q := by
  refine aw_iconst dL_questionCost_15 ci_0 ?_
  exact aw_iret dL_questionCost_16 rfl hq
theorem dL_hasTrait_0 : decode cL_hasTrait 0 = .ok (.aload_n 3, 1) := by decide +kernel
theorem dL_hasTrait_1 : decode cL_hasTrait 1 = .ok (.iconst 0, 1) := by decide +kernel
theorem dL_hasTrait_2 : decode cL_hasTrait 2 = .ok (.aload_n 0, 1) := by decide +kernel
theorem dL_hasTrait_3 : decode cL_hasTrait 3 = .ok (.iload_n 1, 1) := by decide +kernel
theorem dL_hasTrait_4 : decode cL_hasTrait 4 = .ok (.iload_n 2, 1) := by decide +kernel
theorem dL_hasTrait_5 : decode cL_hasTrait 5 = .ok (.invokevirtual 52, 3) := by decide +kernel
theorem dL_hasTrait_8 : decode cL_hasTrait 8 = .ok (.ifCond .eq 7, 3) := by decide +kernel
theorem dL_hasTrait_11 : decode cL_hasTrait 11 = .ok (.lconst 1, 1) := by decide +kernel
theorem dL_hasTrait_12 : decode cL_hasTrait 12 = .ok (.goto 4, 3) := by decide +kernel
theorem dL_hasTrait_15 : decode cL_hasTrait 15 = .ok (.lconst 0, 1) := by decide +kernel
theorem dL_hasTrait_16 : decode cL_hasTrait 16 = .ok (.lastore, 1) := by decide +kernel
theorem dL_hasTrait_17 : decode cL_hasTrait 17 = .ok (.goto 7, 3) := by decide +kernel
theorem dL_hasTrait_20 : decode cL_hasTrait 20 = .ok (.astore 4, 2) := by decide +kernel
theorem dL_hasTrait_22 : decode cL_hasTrait 22 = .ok (.iconst 1, 1) := by decide +kernel
theorem dL_hasTrait_23 : decode cL_hasTrait 23 = .ok (.ireturn, 1) := by decide +kernel
theorem dL_hasTrait_24 : decode cL_hasTrait 24 = .ok (.iconst 0, 1) := by decide +kernel
theorem dL_hasTrait_25 : decode cL_hasTrait 25 = .ok (.ireturn, 1) := by decide +kernel
theorem bL_hasTrait_0 {d mc ms : Nat} {al : Bool} {bc bs : Nat} {Γ : am_G} {I : am_I} {L : am_L} {Q : am_Q} {v0 : Nat} {v1 : Int32} {v2 : Int32} {v3 : Nat} {I' : am_I} {L' : am_L} {mc' : Nat} {ms' : Nat} {r : Int32} (o1 : am_ob Γ v0 8) (hbc : mc' ≤ bc) (hbs : ms' ≤ bs) (hC : am_E m_X8_hasTrait d mc' ms' [.ref v0, .int v1, .int v2] Γ I L (.inl (some (.int r))) I' L') (kk : am_W m_L_hasTrait (d + 1) mc ms al (bc - mc') (bs - ms') 8 [(0, .ref v0), (1, .int v1), (2, .int v2), (3, .ref v3)] [.int r, .int 0, .ref v3] Γ I' L' Q) : am_W m_L_hasTrait (d + 1) mc ms al bc bs 0 [(0, .ref v0), (1, .int v1), (2, .int v2), (3, .ref v3)] [] Γ I L Q := by
  refine aw_aload_n dL_hasTrait_0 rfl ?_
  refine aw_iconst dL_hasTrait_1 ci_0 ?_
  refine aw_aload_n dL_hasTrait_2 rfl ?_
  refine aw_iload_n dL_hasTrait_3 rfl ?_
  refine aw_iload_n dL_hasTrait_4 rfl ?_
  exact aw_askV (as := [.int v1, .int v2]) (rst := [.int 0, .ref v3]) k_X8_hasTrait l_L_52 i_X8_hasTrait s_X8_hasTrait rfl o1 dL_hasTrait_5 rfl (Nat.le_of_ble_eq_true rfl) hbc hbs hC rfl rfl kk
theorem bL_hasTrait_0c1 {d mc ms : Nat} {al : Bool} {bc bs : Nat} {Γ : am_G} {I : am_I} {L : am_L} {Q : am_Q} {v0 : Nat} {v1 : Int32} {v2 : Int32} {v3 : Nat} {I' : am_I} {L' : am_L} {mc' : Nat} {ms' : Nat} (o1 : am_ob Γ v0 8) (hbc : mc' ≤ bc) (hbs : ms' ≤ bs) (hC : am_E m_X8_hasTrait d mc' ms' [.ref v0, .int v1, .int v2] Γ I L (.inr "java/lang/IndexOutOfBoundsException") I' L') (kk : am_W m_L_hasTrait (d + 1) mc ms al (bc - mc') (bs - ms') 22 [(0, .ref v0), (1, .int v1), (2, .int v2), (3, .ref v3)] [] Γ I' L' Q) : am_W m_L_hasTrait (d + 1) mc ms al bc bs 0 [(0, .ref v0), (1, .int v1), (2, .int v2), (3, .ref v3)] [] Γ I L Q := by
  refine aw_aload_n dL_hasTrait_0 rfl ?_
  refine aw_iconst dL_hasTrait_1 ci_0 ?_
  refine aw_aload_n dL_hasTrait_2 rfl ?_
  refine aw_iload_n dL_hasTrait_3 rfl ?_
  refine aw_iload_n dL_hasTrait_4 rfl ?_
  refine aw_catchV (as := [.int v1, .int v2]) (rst := [.int 0, .ref v3]) (nm := "java/lang/IndexOutOfBoundsException") (k := 4) (len := 2) (ls' := [(0, .ref v0), (1, .int v1), (2, .int v2), (3, .ref v3)]) k_X8_hasTrait l_L_52 i_X8_hasTrait s_X8_hasTrait rfl o1 dL_hasTrait_5 rfl (Nat.le_of_ble_eq_true rfl) hbc hbs hC rfl [] (0, 17, 20, 19) [] rfl ?_ (by decide) (by decide) cl_L_19 ca_IndexOutOfBoundsException (Or.inr ⟨dL_hasTrait_20, rfl⟩) (by decide) ?_ kk
  · intro z hz
    cases hz
  · intro q hq
    simp only [List.mem_cons, List.not_mem_nil, or_false] at hq
    rcases hq with rfl | rfl | rfl | rfl
    · exact List.mem_filter.mpr ⟨by simp, rfl⟩
    · exact List.mem_filter.mpr ⟨by simp, rfl⟩
    · exact List.mem_filter.mpr ⟨by simp, rfl⟩
    · exact List.mem_filter.mpr ⟨by simp, rfl⟩
theorem bL_hasTrait_8 {d mc ms : Nat} {al : Bool} {bc bs : Nat} {Γ : am_G} {I : am_I} {L : am_L} {Q : am_Q} {v0 : Nat} {v1 : Int32} {v2 : Int32} {v3 : Nat} {w0 : Nat} {w1 : Int32} {w2 : Int32} (kt : w2 = 0 → am_W m_L_hasTrait d mc ms al bc bs 15 [(0, .ref v0), (1, .int v1), (2, .int v2), (3, .ref v3)] [.int w1, .ref w0] Γ I L Q) (kf : ¬ w2 = 0 → am_W m_L_hasTrait d mc ms al bc bs 11 [(0, .ref v0), (1, .int v1), (2, .int v2), (3, .ref v3)] [.int w1, .ref w0] Γ I L Q) : am_W m_L_hasTrait d mc ms al bc bs 8 [(0, .ref v0), (1, .int v1), (2, .int v2), (3, .ref v3)] [.int w2, .int w1, .ref w0] Γ I L Q := by
  exact aw_if_eq dL_hasTrait_8 (by decide) kt kf
theorem bL_hasTrait_11 {d mc ms : Nat} {al : Bool} {bc bs : Nat} {Γ : am_G} {I : am_I} {L : am_L} {Q : am_Q} {v0 : Nat} {v1 : Int32} {v2 : Int32} {v3 : Nat} {w0 : Nat} {w1 : Int32} (kk : am_W m_L_hasTrait d mc ms al bc bs 16 [(0, .ref v0), (1, .int v1), (2, .int v2), (3, .ref v3)] [.long 1, .int w1, .ref w0] Γ I L Q) : am_W m_L_hasTrait d mc ms al bc bs 11 [(0, .ref v0), (1, .int v1), (2, .int v2), (3, .ref v3)] [.int w1, .ref w0] Γ I L Q := by
  refine aw_lconst dL_hasTrait_11 cL_1 ?_
  exact aw_goto dL_hasTrait_12 (by decide) kk
theorem bL_hasTrait_15 {d mc ms : Nat} {al : Bool} {bc bs : Nat} {Γ : am_G} {I : am_I} {L : am_L} {Q : am_Q} {v0 : Nat} {v1 : Int32} {v2 : Int32} {v3 : Nat} {w0 : Nat} {w1 : Int32} (kk : am_W m_L_hasTrait d mc ms al bc bs 16 [(0, .ref v0), (1, .int v1), (2, .int v2), (3, .ref v3)] [.long 0, .int w1, .ref w0] Γ I L Q) : am_W m_L_hasTrait d mc ms al bc bs 15 [(0, .ref v0), (1, .int v1), (2, .int v2), (3, .ref v3)] [.int w1, .ref w0] Γ I L Q := by
  refine aw_lconst dL_hasTrait_15 cL_0 ?_
  exact kk
theorem bL_hasTrait_16 {d mc ms : Nat} {al : Bool} {bc bs : Nat} {Γ : am_G} {I : am_I} {L : am_L} {Q : am_Q} {v0 : Nat} {v1 : Int32} {v2 : Int32} {v3 : Nat} {w0 : Nat} {w1 : Int32} {w2 : Int64} {n_w0 : Nat} (a1 : am_ar Γ w0 4 n_w0 0) (i2 : vp_in w1 n_w0) (kk : am_W m_L_hasTrait d mc ms al bc bs 24 [(0, .ref v0), (1, .int v1), (2, .int v2), (3, .ref v3)] [] Γ I (am_ul L w0 (w1.toNatClampNeg) w2) Q) : am_W m_L_hasTrait d mc ms al bc bs 16 [(0, .ref v0), (1, .int v1), (2, .int v2), (3, .ref v3)] [.long w2, .int w1, .ref w0] Γ I L Q := by
  refine aw_last dL_hasTrait_16 a1 i2 ?_
  exact aw_goto dL_hasTrait_17 (by decide) kk
theorem bL_hasTrait_22 {d mc ms : Nat} {al : Bool} {bc bs : Nat} {Γ : am_G} {I : am_I} {L : am_L} {Q : am_Q} {v0 : Nat} {v1 : Int32} {v2 : Int32} {v3 : Nat} (hq : Q (.inl (some (.int 1))) Γ I L) : am_W m_L_hasTrait d mc ms al bc bs 22 [(0, .ref v0), (1, .int v1), (2, .int v2), (3, .ref v3)] [] Γ I L Q := by
  refine aw_iconst dL_hasTrait_22 ci_1 ?_
  exact aw_iret dL_hasTrait_23 rfl hq
theorem bL_hasTrait_24 {d mc ms : Nat} {al : Bool} {bc bs : Nat} {Γ : am_G} {I : am_I} {L : am_L} {Q : am_Q} {v0 : Nat} {v1 : Int32} {v2 : Int32} {v3 : Nat} (hq : Q (.inl (some (.int 0))) Γ I L) : am_W m_L_hasTrait d mc ms al bc bs 24 [(0, .ref v0), (1, .int v1), (2, .int v2), (3, .ref v3)] [] Γ I L Q := by
  refine aw_iconst dL_hasTrait_24 ci_0 ?_
  exact aw_iret dL_hasTrait_25 rfl hq
theorem dL_toll_0 : decode cL_toll 0 = .ok (.aload_n 2, 1) := by decide +kernel
theorem dL_toll_1 : decode cL_toll 1 = .ok (.iconst 0, 1) := by decide +kernel
theorem dL_toll_2 : decode cL_toll 2 = .ok (.aload_n 0, 1) := by decide +kernel
theorem dL_toll_3 : decode cL_toll 3 = .ok (.iload_n 1, 1) := by decide +kernel
theorem dL_toll_4 : decode cL_toll 4 = .ok (.invokevirtual 56, 3) := by decide +kernel
theorem dL_toll_7 : decode cL_toll 7 = .ok (.i2l, 1) := by decide +kernel
theorem dL_toll_8 : decode cL_toll 8 = .ok (.lastore, 1) := by decide +kernel
theorem dL_toll_9 : decode cL_toll 9 = .ok (.goto 6, 3) := by decide +kernel
theorem dL_toll_12 : decode cL_toll 12 = .ok (.astore_n 3, 1) := by decide +kernel
theorem dL_toll_13 : decode cL_toll 13 = .ok (.iconst 1, 1) := by decide +kernel
theorem dL_toll_14 : decode cL_toll 14 = .ok (.ireturn, 1) := by decide +kernel
theorem dL_toll_15 : decode cL_toll 15 = .ok (.iconst 0, 1) := by decide +kernel
theorem dL_toll_16 : decode cL_toll 16 = .ok (.ireturn, 1) := by decide +kernel
theorem bL_toll_0 {d mc ms : Nat} {al : Bool} {bc bs : Nat} {Γ : am_G} {I : am_I} {L : am_L} {Q : am_Q} {v0 : Nat} {v1 : Int32} {v2 : Nat} {I' : am_I} {L' : am_L} {mc' : Nat} {ms' : Nat} {r : Int32} (o1 : am_ob Γ v0 8) (hbc : mc' ≤ bc) (hbs : ms' ≤ bs) (hC : am_E m_X8_toll d mc' ms' [.ref v0, .int v1] Γ I L (.inl (some (.int r))) I' L') (kk : am_W m_L_toll (d + 1) mc ms al (bc - mc') (bs - ms') 7 [(0, .ref v0), (1, .int v1), (2, .ref v2)] [.int r, .int 0, .ref v2] Γ I' L' Q) : am_W m_L_toll (d + 1) mc ms al bc bs 0 [(0, .ref v0), (1, .int v1), (2, .ref v2)] [] Γ I L Q := by
  refine aw_aload_n dL_toll_0 rfl ?_
  refine aw_iconst dL_toll_1 ci_0 ?_
  refine aw_aload_n dL_toll_2 rfl ?_
  refine aw_iload_n dL_toll_3 rfl ?_
  exact aw_askV (as := [.int v1]) (rst := [.int 0, .ref v2]) k_X8_toll l_L_56 i_X8_toll s_X8_toll rfl o1 dL_toll_4 rfl (Nat.le_of_ble_eq_true rfl) hbc hbs hC rfl rfl kk
theorem bL_toll_0c1 {d mc ms : Nat} {al : Bool} {bc bs : Nat} {Γ : am_G} {I : am_I} {L : am_L} {Q : am_Q} {v0 : Nat} {v1 : Int32} {v2 : Nat} {I' : am_I} {L' : am_L} {mc' : Nat} {ms' : Nat} (o1 : am_ob Γ v0 8) (hbc : mc' ≤ bc) (hbs : ms' ≤ bs) (hC : am_E m_X8_toll d mc' ms' [.ref v0, .int v1] Γ I L (.inr "java/lang/IndexOutOfBoundsException") I' L') (kk : am_W m_L_toll (d + 1) mc ms al (bc - mc') (bs - ms') 13 [(0, .ref v0), (1, .int v1), (2, .ref v2)] [] Γ I' L' Q) : am_W m_L_toll (d + 1) mc ms al bc bs 0 [(0, .ref v0), (1, .int v1), (2, .ref v2)] [] Γ I L Q := by
  refine aw_aload_n dL_toll_0 rfl ?_
  refine aw_iconst dL_toll_1 ci_0 ?_
  refine aw_aload_n dL_toll_2 rfl ?_
  refine aw_iload_n dL_toll_3 rfl ?_
  refine aw_catchV (as := [.int v1]) (rst := [.int 0, .ref v2]) (nm := "java/lang/IndexOutOfBoundsException") (k := 3) (len := 1) (ls' := [(0, .ref v0), (1, .int v1), (2, .ref v2)]) k_X8_toll l_L_56 i_X8_toll s_X8_toll rfl o1 dL_toll_4 rfl (Nat.le_of_ble_eq_true rfl) hbc hbs hC rfl [] (0, 9, 12, 19) [] rfl ?_ (by decide) (by decide) cl_L_19 ca_IndexOutOfBoundsException (Or.inl ⟨3, rfl, dL_toll_12, rfl⟩) (by decide) ?_ kk
  · intro z hz
    cases hz
  · intro q hq
    simp only [List.mem_cons, List.not_mem_nil, or_false] at hq
    rcases hq with rfl | rfl | rfl
    · exact List.mem_filter.mpr ⟨by simp, rfl⟩
    · exact List.mem_filter.mpr ⟨by simp, rfl⟩
    · exact List.mem_filter.mpr ⟨by simp, rfl⟩
theorem bL_toll_7 {d mc ms : Nat} {al : Bool} {bc bs : Nat} {Γ : am_G} {I : am_I} {L : am_L} {Q : am_Q} {v0 : Nat} {v1 : Int32} {v2 : Nat} {w0 : Nat} {w1 : Int32} {w2 : Int32} {n_w0 : Nat} (a1 : am_ar Γ w0 4 n_w0 0) (i2 : vp_in w1 n_w0) (kk : am_W m_L_toll d mc ms al bc bs 15 [(0, .ref v0), (1, .int v1), (2, .ref v2)] [] Γ I (am_ul L w0 (w1.toNatClampNeg) (w2.toInt64)) Q) : am_W m_L_toll d mc ms al bc bs 7 [(0, .ref v0), (1, .int v1), (2, .ref v2)] [.int w2, .int w1, .ref w0] Γ I L Q := by
  refine aw_i2l dL_toll_7 ?_
  refine aw_last dL_toll_8 a1 i2 ?_
  exact aw_goto dL_toll_9 (by decide) kk
theorem bL_toll_13 {d mc ms : Nat} {al : Bool} {bc bs : Nat} {Γ : am_G} {I : am_I} {L : am_L} {Q : am_Q} {v0 : Nat} {v1 : Int32} {v2 : Nat} (hq : Q (.inl (some (.int 1))) Γ I L) : am_W m_L_toll d mc ms al bc bs 13 [(0, .ref v0), (1, .int v1), (2, .ref v2)] [] Γ I L Q := by
  refine aw_iconst dL_toll_13 ci_1 ?_
  exact aw_iret dL_toll_14 rfl hq
theorem bL_toll_15 {d mc ms : Nat} {al : Bool} {bc bs : Nat} {Γ : am_G} {I : am_I} {L : am_L} {Q : am_Q} {v0 : Nat} {v1 : Int32} {v2 : Nat} (hq : Q (.inl (some (.int 0))) Γ I L) : am_W m_L_toll d mc ms al bc bs 15 [(0, .ref v0), (1, .int v1), (2, .ref v2)] [] Γ I L Q := by
  refine aw_iconst dL_toll_15 ci_0 ?_
  exact aw_iret dL_toll_16 rfl hq
theorem dL_countAt_0 : decode cL_countAt 0 = .ok (.aload_n 3, 1) := by decide +kernel
theorem dL_countAt_1 : decode cL_countAt 1 = .ok (.iconst 0, 1) := by decide +kernel
theorem dL_countAt_2 : decode cL_countAt 2 = .ok (.aload_n 0, 1) := by decide +kernel
theorem dL_countAt_3 : decode cL_countAt 3 = .ok (.iload_n 1, 1) := by decide +kernel
theorem dL_countAt_4 : decode cL_countAt 4 = .ok (.iload_n 2, 1) := by decide +kernel
theorem dL_countAt_5 : decode cL_countAt 5 = .ok (.invokevirtual 59, 3) := by decide +kernel
theorem dL_countAt_8 : decode cL_countAt 8 = .ok (.i2l, 1) := by decide +kernel
theorem dL_countAt_9 : decode cL_countAt 9 = .ok (.lastore, 1) := by decide +kernel
theorem dL_countAt_10 : decode cL_countAt 10 = .ok (.goto 7, 3) := by decide +kernel
theorem dL_countAt_13 : decode cL_countAt 13 = .ok (.astore 4, 2) := by decide +kernel
theorem dL_countAt_15 : decode cL_countAt 15 = .ok (.iconst 1, 1) := by decide +kernel
theorem dL_countAt_16 : decode cL_countAt 16 = .ok (.ireturn, 1) := by decide +kernel
theorem dL_countAt_17 : decode cL_countAt 17 = .ok (.iconst 0, 1) := by decide +kernel
theorem dL_countAt_18 : decode cL_countAt 18 = .ok (.ireturn, 1) := by decide +kernel
theorem bL_countAt_0 {d mc ms : Nat} {al : Bool} {bc bs : Nat} {Γ : am_G} {I : am_I} {L : am_L} {Q : am_Q} {v0 : Nat} {v1 : Int32} {v2 : Int32} {v3 : Nat} {I' : am_I} {L' : am_L} {mc' : Nat} {ms' : Nat} {r : Int32} (o1 : am_ob Γ v0 8) (hbc : mc' ≤ bc) (hbs : ms' ≤ bs) (hC : am_E m_X8_countAt d mc' ms' [.ref v0, .int v1, .int v2] Γ I L (.inl (some (.int r))) I' L') (kk : am_W m_L_countAt (d + 1) mc ms al (bc - mc') (bs - ms') 8 [(0, .ref v0), (1, .int v1), (2, .int v2), (3, .ref v3)] [.int r, .int 0, .ref v3] Γ I' L' Q) : am_W m_L_countAt (d + 1) mc ms al bc bs 0 [(0, .ref v0), (1, .int v1), (2, .int v2), (3, .ref v3)] [] Γ I L Q := by
  refine aw_aload_n dL_countAt_0 rfl ?_
  refine aw_iconst dL_countAt_1 ci_0 ?_
  refine aw_aload_n dL_countAt_2 rfl ?_
  refine aw_iload_n dL_countAt_3 rfl ?_
  refine aw_iload_n dL_countAt_4 rfl ?_
  exact aw_askV (as := [.int v1, .int v2]) (rst := [.int 0, .ref v3]) k_X8_countAt l_L_59 i_X8_countAt s_X8_countAt rfl o1 dL_countAt_5 rfl (Nat.le_of_ble_eq_true rfl) hbc hbs hC rfl rfl kk
theorem bL_countAt_0c1 {d mc ms : Nat} {al : Bool} {bc bs : Nat} {Γ : am_G} {I : am_I} {L : am_L} {Q : am_Q} {v0 : Nat} {v1 : Int32} {v2 : Int32} {v3 : Nat} {I' : am_I} {L' : am_L} {mc' : Nat} {ms' : Nat} (o1 : am_ob Γ v0 8) (hbc : mc' ≤ bc) (hbs : ms' ≤ bs) (hC : am_E m_X8_countAt d mc' ms' [.ref v0, .int v1, .int v2] Γ I L (.inr "java/lang/IndexOutOfBoundsException") I' L') (kk : am_W m_L_countAt (d + 1) mc ms al (bc - mc') (bs - ms') 15 [(0, .ref v0), (1, .int v1), (2, .int v2), (3, .ref v3)] [] Γ I' L' Q) : am_W m_L_countAt (d + 1) mc ms al bc bs 0 [(0, .ref v0), (1, .int v1), (2, .int v2), (3, .ref v3)] [] Γ I L Q := by
  refine aw_aload_n dL_countAt_0 rfl ?_
  refine aw_iconst dL_countAt_1 ci_0 ?_
  refine aw_aload_n dL_countAt_2 rfl ?_
  refine aw_iload_n dL_countAt_3 rfl ?_
  refine aw_iload_n dL_countAt_4 rfl ?_
  refine aw_catchV (as := [.int v1, .int v2]) (rst := [.int 0, .ref v3]) (nm := "java/lang/IndexOutOfBoundsException") (k := 4) (len := 2) (ls' := [(0, .ref v0), (1, .int v1), (2, .int v2), (3, .ref v3)]) k_X8_countAt l_L_59 i_X8_countAt s_X8_countAt rfl o1 dL_countAt_5 rfl (Nat.le_of_ble_eq_true rfl) hbc hbs hC rfl [] (0, 10, 13, 19) [] rfl ?_ (by decide) (by decide) cl_L_19 ca_IndexOutOfBoundsException (Or.inr ⟨dL_countAt_13, rfl⟩) (by decide) ?_ kk
  · intro z hz
    cases hz
  · intro q hq
    simp only [List.mem_cons, List.not_mem_nil, or_false] at hq
    rcases hq with rfl | rfl | rfl | rfl
    · exact List.mem_filter.mpr ⟨by simp, rfl⟩
    · exact List.mem_filter.mpr ⟨by simp, rfl⟩
    · exact List.mem_filter.mpr ⟨by simp, rfl⟩
    · exact List.mem_filter.mpr ⟨by simp, rfl⟩
theorem bL_countAt_8 {d mc ms : Nat} {al : Bool} {bc bs : Nat} {Γ : am_G} {I : am_I} {L : am_L} {Q : am_Q} {v0 : Nat} {v1 : Int32} {v2 : Int32} {v3 : Nat} {w0 : Nat} {w1 : Int32} {w2 : Int32} {n_w0 : Nat} (a1 : am_ar Γ w0 4 n_w0 0) (i2 : vp_in w1 n_w0) (kk : am_W m_L_countAt d mc ms al bc bs 17 [(0, .ref v0), (1, .int v1), (2, .int v2), (3, .ref v3)] [] Γ I (am_ul L w0 (w1.toNatClampNeg) (w2.toInt64)) Q) : am_W m_L_countAt d mc ms al bc bs 8 [(0, .ref v0), (1, .int v1), (2, .int v2), (3, .ref v3)] [.int w2, .int w1, .ref w0] Γ I L Q := by
  refine aw_i2l dL_countAt_8 ?_
  refine aw_last dL_countAt_9 a1 i2 ?_
  exact aw_goto dL_countAt_10 (by decide) kk
theorem bL_countAt_15 {d mc ms : Nat} {al : Bool} {bc bs : Nat} {Γ : am_G} {I : am_I} {L : am_L} {Q : am_Q} {v0 : Nat} {v1 : Int32} {v2 : Int32} {v3 : Nat} (hq : Q (.inl (some (.int 1))) Γ I L) : am_W m_L_countAt d mc ms al bc bs 15 [(0, .ref v0), (1, .int v1), (2, .int v2), (3, .ref v3)] [] Γ I L Q := by
  refine aw_iconst dL_countAt_15 ci_1 ?_
  exact aw_iret dL_countAt_16 rfl hq
theorem bL_countAt_17 {d mc ms : Nat} {al : Bool} {bc bs : Nat} {Γ : am_G} {I : am_I} {L : am_L} {Q : am_Q} {v0 : Nat} {v1 : Int32} {v2 : Int32} {v3 : Nat} (hq : Q (.inl (some (.int 0))) Γ I L) : am_W m_L_countAt d mc ms al bc bs 17 [(0, .ref v0), (1, .int v1), (2, .int v2), (3, .ref v3)] [] Γ I L Q := by
  refine aw_iconst dL_countAt_17 ci_0 ?_
  exact aw_iret dL_countAt_18 rfl hq
theorem dL_costLimit_0 : decode cL_costLimit 0 = .ok (.aload_n 2, 1) := by decide +kernel
theorem dL_costLimit_1 : decode cL_costLimit 1 = .ok (.iconst 0, 1) := by decide +kernel
theorem dL_costLimit_2 : decode cL_costLimit 2 = .ok (.aload_n 0, 1) := by decide +kernel
theorem dL_costLimit_3 : decode cL_costLimit 3 = .ok (.iload_n 1, 1) := by decide +kernel
theorem dL_costLimit_4 : decode cL_costLimit 4 = .ok (.invokevirtual 62, 3) := by decide +kernel
theorem dL_costLimit_7 : decode cL_costLimit 7 = .ok (.i2l, 1) := by decide +kernel
theorem dL_costLimit_8 : decode cL_costLimit 8 = .ok (.lastore, 1) := by decide +kernel
theorem dL_costLimit_9 : decode cL_costLimit 9 = .ok (.goto 6, 3) := by decide +kernel
theorem dL_costLimit_12 : decode cL_costLimit 12 = .ok (.astore_n 3, 1) := by decide +kernel
theorem dL_costLimit_13 : decode cL_costLimit 13 = .ok (.iconst 1, 1) := by decide +kernel
theorem dL_costLimit_14 : decode cL_costLimit 14 = .ok (.ireturn, 1) := by decide +kernel
theorem dL_costLimit_15 : decode cL_costLimit 15 = .ok (.iconst 0, 1) := by decide +kernel
theorem dL_costLimit_16 : decode cL_costLimit 16 = .ok (.ireturn, 1) := by decide +kernel
theorem bL_costLimit_0 {d mc ms : Nat} {al : Bool} {bc bs : Nat} {Γ : am_G} {I : am_I} {L : am_L} {Q : am_Q} {v0 : Nat} {v1 : Int32} {v2 : Nat} {I' : am_I} {L' : am_L} {mc' : Nat} {ms' : Nat} {r : Int32} (o1 : am_ob Γ v0 8) (hbc : mc' ≤ bc) (hbs : ms' ≤ bs) (hC : am_E m_X8_costLimit d mc' ms' [.ref v0, .int v1] Γ I L (.inl (some (.int r))) I' L') (kk : am_W m_L_costLimit (d + 1) mc ms al (bc - mc') (bs - ms') 7 [(0, .ref v0), (1, .int v1), (2, .ref v2)] [.int r, .int 0, .ref v2] Γ I' L' Q) : am_W m_L_costLimit (d + 1) mc ms al bc bs 0 [(0, .ref v0), (1, .int v1), (2, .ref v2)] [] Γ I L Q := by
  refine aw_aload_n dL_costLimit_0 rfl ?_
  refine aw_iconst dL_costLimit_1 ci_0 ?_
  refine aw_aload_n dL_costLimit_2 rfl ?_
  refine aw_iload_n dL_costLimit_3 rfl ?_
  exact aw_askV (as := [.int v1]) (rst := [.int 0, .ref v2]) k_X8_costLimit l_L_62 i_X8_costLimit s_X8_costLimit rfl o1 dL_costLimit_4 rfl (Nat.le_of_ble_eq_true rfl) hbc hbs hC rfl rfl kk
theorem bL_costLimit_0c1 {d mc ms : Nat} {al : Bool} {bc bs : Nat} {Γ : am_G} {I : am_I} {L : am_L} {Q : am_Q} {v0 : Nat} {v1 : Int32} {v2 : Nat} {I' : am_I} {L' : am_L} {mc' : Nat} {ms' : Nat} (o1 : am_ob Γ v0 8) (hbc : mc' ≤ bc) (hbs : ms' ≤ bs) (hC : am_E m_X8_costLimit d mc' ms' [.ref v0, .int v1] Γ I L (.inr "java/lang/IndexOutOfBoundsException") I' L') (kk : am_W m_L_costLimit (d + 1) mc ms al (bc - mc') (bs - ms') 13 [(0, .ref v0), (1, .int v1), (2, .ref v2)] [] Γ I' L' Q) : am_W m_L_costLimit (d + 1) mc ms al bc bs 0 [(0, .ref v0), (1, .int v1), (2, .ref v2)] [] Γ I L Q := by
  refine aw_aload_n dL_costLimit_0 rfl ?_
  refine aw_iconst dL_costLimit_1 ci_0 ?_
  refine aw_aload_n dL_costLimit_2 rfl ?_
  refine aw_iload_n dL_costLimit_3 rfl ?_
  refine aw_catchV (as := [.int v1]) (rst := [.int 0, .ref v2]) (nm := "java/lang/IndexOutOfBoundsException") (k := 3) (len := 1) (ls' := [(0, .ref v0), (1, .int v1), (2, .ref v2)]) k_X8_costLimit l_L_62 i_X8_costLimit s_X8_costLimit rfl o1 dL_costLimit_4 rfl (Nat.le_of_ble_eq_true rfl) hbc hbs hC rfl [] (0, 9, 12, 19) [] rfl ?_ (by decide) (by decide) cl_L_19 ca_IndexOutOfBoundsException (Or.inl ⟨3, rfl, dL_costLimit_12, rfl⟩) (by decide) ?_ kk
  · intro z hz
    cases hz
  · intro q hq
    simp only [List.mem_cons, List.not_mem_nil, or_false] at hq
    rcases hq with rfl | rfl | rfl
    · exact List.mem_filter.mpr ⟨by simp, rfl⟩
    · exact List.mem_filter.mpr ⟨by simp, rfl⟩
    · exact List.mem_filter.mpr ⟨by simp, rfl⟩
theorem bL_costLimit_7 {d mc ms : Nat} {al : Bool} {bc bs : Nat} {Γ : am_G} {I : am_I} {L : am_L} {Q : am_Q} {v0 : Nat} {v1 : Int32} {v2 : Nat} {w0 : Nat} {w1 : Int32} {w2 : Int32} {n_w0 : Nat} (a1 : am_ar Γ w0 4 n_w0 0) (i2 : vp_in w1 n_w0) (kk : am_W m_L_costLimit d mc ms al bc bs 15 [(0, .ref v0), (1, .int v1), (2, .ref v2)] [] Γ I (am_ul L w0 (w1.toNatClampNeg) (w2.toInt64)) Q) : am_W m_L_costLimit d mc ms al bc bs 7 [(0, .ref v0), (1, .int v1), (2, .ref v2)] [.int w2, .int w1, .ref w0] Γ I L Q := by
  refine aw_i2l dL_costLimit_7 ?_
  refine aw_last dL_costLimit_8 a1 i2 ?_
  exact aw_goto dL_costLimit_9 (by decide) kk
theorem bL_costLimit_13 {d mc ms : Nat} {al : Bool} {bc bs : Nat} {Γ : am_G} {I : am_I} {L : am_L} {Q : am_Q} {v0 : Nat} {v1 : Int32} {v2 : Nat} (hq : Q (.inl (some (.int 1))) Γ I L) : am_W m_L_costLimit d mc ms al bc bs 13 [(0, .ref v0), (1, .int v1), (2, .ref v2)] [] Γ I L Q := by
  refine aw_iconst dL_costLimit_13 ci_1 ?_
  exact aw_iret dL_costLimit_14 rfl hq
theorem bL_costLimit_15 {d mc ms : Nat} {al : Bool} {bc bs : Nat} {Γ : am_G} {I : am_I} {L : am_L} {Q : am_Q} {v0 : Nat} {v1 : Int32} {v2 : Nat} (hq : Q (.inl (some (.int 0))) Γ I L) : am_W m_L_costLimit d mc ms al bc bs 15 [(0, .ref v0), (1, .int v1), (2, .ref v2)] [] Γ I L Q := by
  refine aw_iconst dL_costLimit_15 ci_0 ?_
  exact aw_iret dL_costLimit_16 rfl hq
theorem dL_isOpen_0 : decode cL_isOpen 0 = .ok (.aload_n 2, 1) := by decide +kernel
theorem dL_isOpen_1 : decode cL_isOpen 1 = .ok (.iconst 0, 1) := by decide +kernel
theorem dL_isOpen_2 : decode cL_isOpen 2 = .ok (.aload_n 0, 1) := by decide +kernel
theorem dL_isOpen_3 : decode cL_isOpen 3 = .ok (.iload_n 1, 1) := by decide +kernel
theorem dL_isOpen_4 : decode cL_isOpen 4 = .ok (.invokevirtual 65, 3) := by decide +kernel
theorem dL_isOpen_7 : decode cL_isOpen 7 = .ok (.ifCond .eq 7, 3) := by decide +kernel
theorem dL_isOpen_10 : decode cL_isOpen 10 = .ok (.lconst 1, 1) := by decide +kernel
theorem dL_isOpen_11 : decode cL_isOpen 11 = .ok (.goto 4, 3) := by decide +kernel
theorem dL_isOpen_14 : decode cL_isOpen 14 = .ok (.lconst 0, 1) := by decide +kernel
theorem dL_isOpen_15 : decode cL_isOpen 15 = .ok (.lastore, 1) := by decide +kernel
theorem dL_isOpen_16 : decode cL_isOpen 16 = .ok (.goto 6, 3) := by decide +kernel
theorem dL_isOpen_19 : decode cL_isOpen 19 = .ok (.astore_n 3, 1) := by decide +kernel
theorem dL_isOpen_20 : decode cL_isOpen 20 = .ok (.iconst 1, 1) := by decide +kernel
theorem dL_isOpen_21 : decode cL_isOpen 21 = .ok (.ireturn, 1) := by decide +kernel
theorem dL_isOpen_22 : decode cL_isOpen 22 = .ok (.iconst 0, 1) := by decide +kernel
theorem dL_isOpen_23 : decode cL_isOpen 23 = .ok (.ireturn, 1) := by decide +kernel
theorem bL_isOpen_0 {d mc ms : Nat} {al : Bool} {bc bs : Nat} {Γ : am_G} {I : am_I} {L : am_L} {Q : am_Q} {v0 : Nat} {v1 : Int32} {v2 : Nat} {I' : am_I} {L' : am_L} {mc' : Nat} {ms' : Nat} {r : Int32} (o1 : am_ob Γ v0 8) (hbc : mc' ≤ bc) (hbs : ms' ≤ bs) (hC : am_E m_X8_isOpen d mc' ms' [.ref v0, .int v1] Γ I L (.inl (some (.int r))) I' L') (kk : am_W m_L_isOpen (d + 1) mc ms al (bc - mc') (bs - ms') 7 [(0, .ref v0), (1, .int v1), (2, .ref v2)] [.int r, .int 0, .ref v2] Γ I' L' Q) : am_W m_L_isOpen (d + 1) mc ms al bc bs 0 [(0, .ref v0), (1, .int v1), (2, .ref v2)] [] Γ I L Q := by
  refine aw_aload_n dL_isOpen_0 rfl ?_
  refine aw_iconst dL_isOpen_1 ci_0 ?_
  refine aw_aload_n dL_isOpen_2 rfl ?_
  refine aw_iload_n dL_isOpen_3 rfl ?_
  exact aw_askV (as := [.int v1]) (rst := [.int 0, .ref v2]) k_X8_isOpen l_L_65 i_X8_isOpen s_X8_isOpen rfl o1 dL_isOpen_4 rfl (Nat.le_of_ble_eq_true rfl) hbc hbs hC rfl rfl kk
theorem bL_isOpen_0c1 {d mc ms : Nat} {al : Bool} {bc bs : Nat} {Γ : am_G} {I : am_I} {L : am_L} {Q : am_Q} {v0 : Nat} {v1 : Int32} {v2 : Nat} {I' : am_I} {L' : am_L} {mc' : Nat} {ms' : Nat} (o1 : am_ob Γ v0 8) (hbc : mc' ≤ bc) (hbs : ms' ≤ bs) (hC : am_E m_X8_isOpen d mc' ms' [.ref v0, .int v1] Γ I L (.inr "java/lang/IndexOutOfBoundsException") I' L') (kk : am_W m_L_isOpen (d + 1) mc ms al (bc - mc') (bs - ms') 20 [(0, .ref v0), (1, .int v1), (2, .ref v2)] [] Γ I' L' Q) : am_W m_L_isOpen (d + 1) mc ms al bc bs 0 [(0, .ref v0), (1, .int v1), (2, .ref v2)] [] Γ I L Q := by
  refine aw_aload_n dL_isOpen_0 rfl ?_
  refine aw_iconst dL_isOpen_1 ci_0 ?_
  refine aw_aload_n dL_isOpen_2 rfl ?_
  refine aw_iload_n dL_isOpen_3 rfl ?_
  refine aw_catchV (as := [.int v1]) (rst := [.int 0, .ref v2]) (nm := "java/lang/IndexOutOfBoundsException") (k := 3) (len := 1) (ls' := [(0, .ref v0), (1, .int v1), (2, .ref v2)]) k_X8_isOpen l_L_65 i_X8_isOpen s_X8_isOpen rfl o1 dL_isOpen_4 rfl (Nat.le_of_ble_eq_true rfl) hbc hbs hC rfl [] (0, 16, 19, 19) [] rfl ?_ (by decide) (by decide) cl_L_19 ca_IndexOutOfBoundsException (Or.inl ⟨3, rfl, dL_isOpen_19, rfl⟩) (by decide) ?_ kk
  · intro z hz
    cases hz
  · intro q hq
    simp only [List.mem_cons, List.not_mem_nil, or_false] at hq
    rcases hq with rfl | rfl | rfl
    · exact List.mem_filter.mpr ⟨by simp, rfl⟩
    · exact List.mem_filter.mpr ⟨by simp, rfl⟩
    · exact List.mem_filter.mpr ⟨by simp, rfl⟩
theorem bL_isOpen_7 {d mc ms : Nat} {al : Bool} {bc bs : Nat} {Γ : am_G} {I : am_I} {L : am_L} {Q : am_Q} {v0 : Nat} {v1 : Int32} {v2 : Nat} {w0 : Nat} {w1 : Int32} {w2 : Int32} (kt : w2 = 0 → am_W m_L_isOpen d mc ms al bc bs 14 [(0, .ref v0), (1, .int v1), (2, .ref v2)] [.int w1, .ref w0] Γ I L Q) (kf : ¬ w2 = 0 → am_W m_L_isOpen d mc ms al bc bs 10 [(0, .ref v0), (1, .int v1), (2, .ref v2)] [.int w1, .ref w0] Γ I L Q) : am_W m_L_isOpen d mc ms al bc bs 7 [(0, .ref v0), (1, .int v1), (2, .ref v2)] [.int w2, .int w1, .ref w0] Γ I L Q := by
  exact aw_if_eq dL_isOpen_7 (by decide) kt kf
theorem bL_isOpen_10 {d mc ms : Nat} {al : Bool} {bc bs : Nat} {Γ : am_G} {I : am_I} {L : am_L} {Q : am_Q} {v0 : Nat} {v1 : Int32} {v2 : Nat} {w0 : Nat} {w1 : Int32} (kk : am_W m_L_isOpen d mc ms al bc bs 15 [(0, .ref v0), (1, .int v1), (2, .ref v2)] [.long 1, .int w1, .ref w0] Γ I L Q) : am_W m_L_isOpen d mc ms al bc bs 10 [(0, .ref v0), (1, .int v1), (2, .ref v2)] [.int w1, .ref w0] Γ I L Q := by
  refine aw_lconst dL_isOpen_10 cL_1 ?_
  exact aw_goto dL_isOpen_11 (by decide) kk
theorem bL_isOpen_14 {d mc ms : Nat} {al : Bool} {bc bs : Nat} {Γ : am_G} {I : am_I} {L : am_L} {Q : am_Q} {v0 : Nat} {v1 : Int32} {v2 : Nat} {w0 : Nat} {w1 : Int32} (kk : am_W m_L_isOpen d mc ms al bc bs 15 [(0, .ref v0), (1, .int v1), (2, .ref v2)] [.long 0, .int w1, .ref w0] Γ I L Q) : am_W m_L_isOpen d mc ms al bc bs 14 [(0, .ref v0), (1, .int v1), (2, .ref v2)] [.int w1, .ref w0] Γ I L Q := by
  refine aw_lconst dL_isOpen_14 cL_0 ?_
  exact kk
theorem bL_isOpen_15 {d mc ms : Nat} {al : Bool} {bc bs : Nat} {Γ : am_G} {I : am_I} {L : am_L} {Q : am_Q} {v0 : Nat} {v1 : Int32} {v2 : Nat} {w0 : Nat} {w1 : Int32} {w2 : Int64} {n_w0 : Nat} (a1 : am_ar Γ w0 4 n_w0 0) (i2 : vp_in w1 n_w0) (kk : am_W m_L_isOpen d mc ms al bc bs 22 [(0, .ref v0), (1, .int v1), (2, .ref v2)] [] Γ I (am_ul L w0 (w1.toNatClampNeg) w2) Q) : am_W m_L_isOpen d mc ms al bc bs 15 [(0, .ref v0), (1, .int v1), (2, .ref v2)] [.long w2, .int w1, .ref w0] Γ I L Q := by
  refine aw_last dL_isOpen_15 a1 i2 ?_
  exact aw_goto dL_isOpen_16 (by decide) kk
theorem bL_isOpen_20 {d mc ms : Nat} {al : Bool} {bc bs : Nat} {Γ : am_G} {I : am_I} {L : am_L} {Q : am_Q} {v0 : Nat} {v1 : Int32} {v2 : Nat} (hq : Q (.inl (some (.int 1))) Γ I L) : am_W m_L_isOpen d mc ms al bc bs 20 [(0, .ref v0), (1, .int v1), (2, .ref v2)] [] Γ I L Q := by
  refine aw_iconst dL_isOpen_20 ci_1 ?_
  exact aw_iret dL_isOpen_21 rfl hq
theorem bL_isOpen_22 {d mc ms : Nat} {al : Bool} {bc bs : Nat} {Γ : am_G} {I : am_I} {L : am_L} {Q : am_Q} {v0 : Nat} {v1 : Int32} {v2 : Nat} (hq : Q (.inl (some (.int 0))) Γ I L) : am_W m_L_isOpen d mc ms al bc bs 22 [(0, .ref v0), (1, .int v1), (2, .ref v2)] [] Γ I L Q := by
  refine aw_iconst dL_isOpen_22 ci_0 ?_
  exact aw_iret dL_isOpen_23 rfl hq
theorem dL_hoursUntilOpen_0 : decode cL_hoursUntilOpen 0 = .ok (.aload_n 2, 1) := by decide +kernel
theorem dL_hoursUntilOpen_1 : decode cL_hoursUntilOpen 1 = .ok (.iconst 0, 1) := by decide +kernel
theorem dL_hoursUntilOpen_2 : decode cL_hoursUntilOpen 2 = .ok (.aload_n 0, 1) := by decide +kernel
theorem dL_hoursUntilOpen_3 : decode cL_hoursUntilOpen 3 = .ok (.iload_n 1, 1) := by decide +kernel
theorem dL_hoursUntilOpen_4 : decode cL_hoursUntilOpen 4 = .ok (.invokevirtual 69, 3) := by decide +kernel
theorem dL_hoursUntilOpen_7 : decode cL_hoursUntilOpen 7 = .ok (.i2l, 1) := by decide +kernel
theorem dL_hoursUntilOpen_8 : decode cL_hoursUntilOpen 8 = .ok (.lastore, 1) := by decide +kernel
theorem dL_hoursUntilOpen_9 : decode cL_hoursUntilOpen 9 = .ok (.goto 6, 3) := by decide +kernel
theorem dL_hoursUntilOpen_12 : decode cL_hoursUntilOpen 12 = .ok (.astore_n 3, 1) := by decide +kernel
theorem dL_hoursUntilOpen_13 : decode cL_hoursUntilOpen 13 = .ok (.iconst 1, 1) := by decide +kernel
theorem dL_hoursUntilOpen_14 : decode cL_hoursUntilOpen 14 = .ok (.ireturn, 1) := by decide +kernel
theorem dL_hoursUntilOpen_15 : decode cL_hoursUntilOpen 15 = .ok (.iconst 0, 1) := by decide +kernel
theorem dL_hoursUntilOpen_16 : decode cL_hoursUntilOpen 16 = .ok (.ireturn, 1) := by decide +kernel
theorem bL_hoursUntilOpen_0 {d mc ms : Nat} {al : Bool} {bc bs : Nat} {Γ : am_G} {I : am_I} {L : am_L} {Q : am_Q} {v0 : Nat} {v1 : Int32} {v2 : Nat} {I' : am_I} {L' : am_L} {mc' : Nat} {ms' : Nat} {r : Int32} (o1 : am_ob Γ v0 8) (hbc : mc' ≤ bc) (hbs : ms' ≤ bs) (hC : am_E m_X8_hoursUntilOpen d mc' ms' [.ref v0, .int v1] Γ I L (.inl (some (.int r))) I' L') (kk : am_W m_L_hoursUntilOpen (d + 1) mc ms al (bc - mc') (bs - ms') 7 [(0, .ref v0), (1, .int v1), (2, .ref v2)] [.int r, .int 0, .ref v2] Γ I' L' Q) : am_W m_L_hoursUntilOpen (d + 1) mc ms al bc bs 0 [(0, .ref v0), (1, .int v1), (2, .ref v2)] [] Γ I L Q := by
  refine aw_aload_n dL_hoursUntilOpen_0 rfl ?_
  refine aw_iconst dL_hoursUntilOpen_1 ci_0 ?_
  refine aw_aload_n dL_hoursUntilOpen_2 rfl ?_
  refine aw_iload_n dL_hoursUntilOpen_3 rfl ?_
  exact aw_askV (as := [.int v1]) (rst := [.int 0, .ref v2]) k_X8_hoursUntilOpen l_L_69 i_X8_hoursUntilOpen s_X8_hoursUntilOpen rfl o1 dL_hoursUntilOpen_4 rfl (Nat.le_of_ble_eq_true rfl) hbc hbs hC rfl rfl kk
theorem bL_hoursUntilOpen_0c1 {d mc ms : Nat} {al : Bool} {bc bs : Nat} {Γ : am_G} {I : am_I} {L : am_L} {Q : am_Q} {v0 : Nat} {v1 : Int32} {v2 : Nat} {I' : am_I} {L' : am_L} {mc' : Nat} {ms' : Nat} (o1 : am_ob Γ v0 8) (hbc : mc' ≤ bc) (hbs : ms' ≤ bs) (hC : am_E m_X8_hoursUntilOpen d mc' ms' [.ref v0, .int v1] Γ I L (.inr "java/lang/IndexOutOfBoundsException") I' L') (kk : am_W m_L_hoursUntilOpen (d + 1) mc ms al (bc - mc') (bs - ms') 13 [(0, .ref v0), (1, .int v1), (2, .ref v2)] [] Γ I' L' Q) : am_W m_L_hoursUntilOpen (d + 1) mc ms al bc bs 0 [(0, .ref v0), (1, .int v1), (2, .ref v2)] [] Γ I L Q := by
  refine aw_aload_n dL_hoursUntilOpen_0 rfl ?_
  refine aw_iconst dL_hoursUntilOpen_1 ci_0 ?_
  refine aw_aload_n dL_hoursUntilOpen_2 rfl ?_
  refine aw_iload_n dL_hoursUntilOpen_3 rfl ?_
  refine aw_catchV (as := [.int v1]) (rst := [.int 0, .ref v2]) (nm := "java/lang/IndexOutOfBoundsException") (k := 3) (len := 1) (ls' := [(0, .ref v0), (1, .int v1), (2, .ref v2)]) k_X8_hoursUntilOpen l_L_69 i_X8_hoursUntilOpen s_X8_hoursUntilOpen rfl o1 dL_hoursUntilOpen_4 rfl (Nat.le_of_ble_eq_true rfl) hbc hbs hC rfl [] (0, 9, 12, 19) [] rfl ?_ (by decide) (by decide) cl_L_19 ca_IndexOutOfBoundsException (Or.inl ⟨3, rfl, dL_hoursUntilOpen_12, rfl⟩) (by decide) ?_ kk
  · intro z hz
    cases hz
  · intro q hq
    simp only [List.mem_cons, List.not_mem_nil, or_false] at hq
    rcases hq with rfl | rfl | rfl
    · exact List.mem_filter.mpr ⟨by simp, rfl⟩
    · exact List.mem_filter.mpr ⟨by simp, rfl⟩
    · exact List.mem_filter.mpr ⟨by simp, rfl⟩
theorem bL_hoursUntilOpen_7 {d mc ms : Nat} {al : Bool} {bc bs : Nat} {Γ : am_G} {I : am_I} {L : am_L} {Q : am_Q} {v0 : Nat} {v1 : Int32} {v2 : Nat} {w0 : Nat} {w1 : Int32} {w2 : Int32} {n_w0 : Nat} (a1 : am_ar Γ w0 4 n_w0 0) (i2 : vp_in w1 n_w0) (kk : am_W m_L_hoursUntilOpen d mc ms al bc bs 15 [(0, .ref v0), (1, .int v1), (2, .ref v2)] [] Γ I (am_ul L w0 (w1.toNatClampNeg) (w2.toInt64)) Q) : am_W m_L_hoursUntilOpen d mc ms al bc bs 7 [(0, .ref v0), (1, .int v1), (2, .ref v2)] [.int w2, .int w1, .ref w0] Γ I L Q := by
  refine aw_i2l dL_hoursUntilOpen_7 ?_
  refine aw_last dL_hoursUntilOpen_8 a1 i2 ?_
  exact aw_goto dL_hoursUntilOpen_9 (by decide) kk
theorem bL_hoursUntilOpen_13 {d mc ms : Nat} {al : Bool} {bc bs : Nat} {Γ : am_G} {I : am_I} {L : am_L} {Q : am_Q} {v0 : Nat} {v1 : Int32} {v2 : Nat} (hq : Q (.inl (some (.int 1))) Γ I L) : am_W m_L_hoursUntilOpen d mc ms al bc bs 13 [(0, .ref v0), (1, .int v1), (2, .ref v2)] [] Γ I L Q := by
  refine aw_iconst dL_hoursUntilOpen_13 ci_1 ?_
  exact aw_iret dL_hoursUntilOpen_14 rfl hq
theorem bL_hoursUntilOpen_15 {d mc ms : Nat} {al : Bool} {bc bs : Nat} {Γ : am_G} {I : am_I} {L : am_L} {Q : am_Q} {v0 : Nat} {v1 : Int32} {v2 : Nat} (hq : Q (.inl (some (.int 0))) Γ I L) : am_W m_L_hoursUntilOpen d mc ms al bc bs 15 [(0, .ref v0), (1, .int v1), (2, .ref v2)] [] Γ I L Q := by
  refine aw_iconst dL_hoursUntilOpen_15 ci_0 ?_
  exact aw_iret dL_hoursUntilOpen_16 rfl hq
theorem dL_questionNameByte_0 : decode cL_questionNameByte 0 = .ok (.aload_n 3, 1) := by decide +kernel
theorem dL_questionNameByte_1 : decode cL_questionNameByte 1 = .ok (.iconst 0, 1) := by decide +kernel
theorem dL_questionNameByte_2 : decode cL_questionNameByte 2 = .ok (.aload_n 0, 1) := by decide +kernel
theorem dL_questionNameByte_3 : decode cL_questionNameByte 3 = .ok (.iload_n 1, 1) := by decide +kernel
theorem dL_questionNameByte_4 : decode cL_questionNameByte 4 = .ok (.iload_n 2, 1) := by decide +kernel
theorem dL_questionNameByte_5 : decode cL_questionNameByte 5 = .ok (.invokevirtual 72, 3) := by decide +kernel
theorem dL_questionNameByte_8 : decode cL_questionNameByte 8 = .ok (.i2l, 1) := by decide +kernel
theorem dL_questionNameByte_9 : decode cL_questionNameByte 9 = .ok (.lastore, 1) := by decide +kernel
theorem dL_questionNameByte_10 : decode cL_questionNameByte 10 = .ok (.goto 7, 3) := by decide +kernel
theorem dL_questionNameByte_13 : decode cL_questionNameByte 13 = .ok (.astore 4, 2) := by decide +kernel
theorem dL_questionNameByte_15 : decode cL_questionNameByte 15 = .ok (.iconst 1, 1) := by decide +kernel
theorem dL_questionNameByte_16 : decode cL_questionNameByte 16 = .ok (.ireturn, 1) := by decide +kernel
theorem dL_questionNameByte_17 : decode cL_questionNameByte 17 = .ok (.iconst 0, 1) := by decide +kernel
theorem dL_questionNameByte_18 : decode cL_questionNameByte 18 = .ok (.ireturn, 1) := by decide +kernel
theorem bL_questionNameByte_0 {d mc ms : Nat} {al : Bool} {bc bs : Nat} {Γ : am_G} {I : am_I} {L : am_L} {Q : am_Q} {v0 : Nat} {v1 : Int32} {v2 : Int32} {v3 : Nat} {I' : am_I} {L' : am_L} {mc' : Nat} {ms' : Nat} {r : Int32} (o1 : am_ob Γ v0 8) (hbc : mc' ≤ bc) (hbs : ms' ≤ bs) (hC : am_E m_X8_questionNameByte d mc' ms' [.ref v0, .int v1, .int v2] Γ I L (.inl (some (.int r))) I' L') (kk : am_W m_L_questionNameByte (d + 1) mc ms al (bc - mc') (bs - ms') 8 [(0, .ref v0), (1, .int v1), (2, .int v2), (3, .ref v3)] [.int r, .int 0, .ref v3] Γ I' L' Q) : am_W m_L_questionNameByte (d + 1) mc ms al bc bs 0 [(0, .ref v0), (1, .int v1), (2, .int v2), (3, .ref v3)] [] Γ I L Q := by
  refine aw_aload_n dL_questionNameByte_0 rfl ?_
  refine aw_iconst dL_questionNameByte_1 ci_0 ?_
  refine aw_aload_n dL_questionNameByte_2 rfl ?_
  refine aw_iload_n dL_questionNameByte_3 rfl ?_
  refine aw_iload_n dL_questionNameByte_4 rfl ?_
  exact aw_askV (as := [.int v1, .int v2]) (rst := [.int 0, .ref v3]) k_X8_questionNameByte l_L_72 i_X8_questionNameByte s_X8_questionNameByte rfl o1 dL_questionNameByte_5 rfl (Nat.le_of_ble_eq_true rfl) hbc hbs hC rfl rfl kk
theorem bL_questionNameByte_0c1 {d mc ms : Nat} {al : Bool} {bc bs : Nat} {Γ : am_G} {I : am_I} {L : am_L} {Q : am_Q} {v0 : Nat} {v1 : Int32} {v2 : Int32} {v3 : Nat} {I' : am_I} {L' : am_L} {mc' : Nat} {ms' : Nat} (o1 : am_ob Γ v0 8) (hbc : mc' ≤ bc) (hbs : ms' ≤ bs) (hC : am_E m_X8_questionNameByte d mc' ms' [.ref v0, .int v1, .int v2] Γ I L (.inr "java/lang/IndexOutOfBoundsException") I' L') (kk : am_W m_L_questionNameByte (d + 1) mc ms al (bc - mc') (bs - ms') 15 [(0, .ref v0), (1, .int v1), (2, .int v2), (3, .ref v3)] [] Γ I' L' Q) : am_W m_L_questionNameByte (d + 1) mc ms al bc bs 0 [(0, .ref v0), (1, .int v1), (2, .int v2), (3, .ref v3)] [] Γ I L Q := by
  refine aw_aload_n dL_questionNameByte_0 rfl ?_
  refine aw_iconst dL_questionNameByte_1 ci_0 ?_
  refine aw_aload_n dL_questionNameByte_2 rfl ?_
  refine aw_iload_n dL_questionNameByte_3 rfl ?_
  refine aw_iload_n dL_questionNameByte_4 rfl ?_
  refine aw_catchV (as := [.int v1, .int v2]) (rst := [.int 0, .ref v3]) (nm := "java/lang/IndexOutOfBoundsException") (k := 4) (len := 2) (ls' := [(0, .ref v0), (1, .int v1), (2, .int v2), (3, .ref v3)]) k_X8_questionNameByte l_L_72 i_X8_questionNameByte s_X8_questionNameByte rfl o1 dL_questionNameByte_5 rfl (Nat.le_of_ble_eq_true rfl) hbc hbs hC rfl [] (0, 10, 13, 19) [] rfl ?_ (by decide) (by decide) cl_L_19 ca_IndexOutOfBoundsException (Or.inr ⟨dL_questionNameByte_13, rfl⟩) (by decide) ?_ kk
  · intro z hz
    cases hz
  · intro q hq
    simp only [List.mem_cons, List.not_mem_nil, or_false] at hq
    rcases hq with rfl | rfl | rfl | rfl
    · exact List.mem_filter.mpr ⟨by simp, rfl⟩
    · exact List.mem_filter.mpr ⟨by simp, rfl⟩
    · exact List.mem_filter.mpr ⟨by simp, rfl⟩
    · exact List.mem_filter.mpr ⟨by simp, rfl⟩
theorem bL_questionNameByte_8 {d mc ms : Nat} {al : Bool} {bc bs : Nat} {Γ : am_G} {I : am_I} {L : am_L} {Q : am_Q} {v0 : Nat} {v1 : Int32} {v2 : Int32} {v3 : Nat} {w0 : Nat} {w1 : Int32} {w2 : Int32} {n_w0 : Nat} (a1 : am_ar Γ w0 4 n_w0 0) (i2 : vp_in w1 n_w0) (kk : am_W m_L_questionNameByte d mc ms al bc bs 17 [(0, .ref v0), (1, .int v1), (2, .int v2), (3, .ref v3)] [] Γ I (am_ul L w0 (w1.toNatClampNeg) (w2.toInt64)) Q) : am_W m_L_questionNameByte d mc ms al bc bs 8 [(0, .ref v0), (1, .int v1), (2, .int v2), (3, .ref v3)] [.int w2, .int w1, .ref w0] Γ I L Q := by
  refine aw_i2l dL_questionNameByte_8 ?_
  refine aw_last dL_questionNameByte_9 a1 i2 ?_
  exact aw_goto dL_questionNameByte_10 (by decide) kk
theorem bL_questionNameByte_15 {d mc ms : Nat} {al : Bool} {bc bs : Nat} {Γ : am_G} {I : am_I} {L : am_L} {Q : am_Q} {v0 : Nat} {v1 : Int32} {v2 : Int32} {v3 : Nat} (hq : Q (.inl (some (.int 1))) Γ I L) : am_W m_L_questionNameByte d mc ms al bc bs 15 [(0, .ref v0), (1, .int v1), (2, .int v2), (3, .ref v3)] [] Γ I L Q := by
  refine aw_iconst dL_questionNameByte_15 ci_1 ?_
  exact aw_iret dL_questionNameByte_16 rfl hq
theorem bL_questionNameByte_17 {d mc ms : Nat} {al : Bool} {bc bs : Nat} {Γ : am_G} {I : am_I} {L : am_L} {Q : am_Q} {v0 : Nat} {v1 : Int32} {v2 : Int32} {v3 : Nat} (hq : Q (.inl (some (.int 0))) Γ I L) : am_W m_L_questionNameByte d mc ms al bc bs 17 [(0, .ref v0), (1, .int v1), (2, .int v2), (3, .ref v3)] [] Γ I L Q := by
  refine aw_iconst dL_questionNameByte_17 ci_0 ?_
  exact aw_iret dL_questionNameByte_18 rfl hq
theorem dL_typeNameByte_0 : decode cL_typeNameByte 0 = .ok (.aload_n 3, 1) := by decide +kernel
theorem dL_typeNameByte_1 : decode cL_typeNameByte 1 = .ok (.iconst 0, 1) := by decide +kernel
theorem dL_typeNameByte_2 : decode cL_typeNameByte 2 = .ok (.aload_n 0, 1) := by decide +kernel
theorem dL_typeNameByte_3 : decode cL_typeNameByte 3 = .ok (.iload_n 1, 1) := by decide +kernel
theorem dL_typeNameByte_4 : decode cL_typeNameByte 4 = .ok (.iload_n 2, 1) := by decide +kernel
theorem dL_typeNameByte_5 : decode cL_typeNameByte 5 = .ok (.invokevirtual 75, 3) := by decide +kernel
theorem dL_typeNameByte_8 : decode cL_typeNameByte 8 = .ok (.i2l, 1) := by decide +kernel
theorem dL_typeNameByte_9 : decode cL_typeNameByte 9 = .ok (.lastore, 1) := by decide +kernel
theorem dL_typeNameByte_10 : decode cL_typeNameByte 10 = .ok (.goto 7, 3) := by decide +kernel
theorem dL_typeNameByte_13 : decode cL_typeNameByte 13 = .ok (.astore 4, 2) := by decide +kernel
theorem dL_typeNameByte_15 : decode cL_typeNameByte 15 = .ok (.iconst 1, 1) := by decide +kernel
theorem dL_typeNameByte_16 : decode cL_typeNameByte 16 = .ok (.ireturn, 1) := by decide +kernel
theorem dL_typeNameByte_17 : decode cL_typeNameByte 17 = .ok (.iconst 0, 1) := by decide +kernel
theorem dL_typeNameByte_18 : decode cL_typeNameByte 18 = .ok (.ireturn, 1) := by decide +kernel
theorem bL_typeNameByte_0 {d mc ms : Nat} {al : Bool} {bc bs : Nat} {Γ : am_G} {I : am_I} {L : am_L} {Q : am_Q} {v0 : Nat} {v1 : Int32} {v2 : Int32} {v3 : Nat} {I' : am_I} {L' : am_L} {mc' : Nat} {ms' : Nat} {r : Int32} (o1 : am_ob Γ v0 8) (hbc : mc' ≤ bc) (hbs : ms' ≤ bs) (hC : am_E m_X8_typeNameByte d mc' ms' [.ref v0, .int v1, .int v2] Γ I L (.inl (some (.int r))) I' L') (kk : am_W m_L_typeNameByte (d + 1) mc ms al (bc - mc') (bs - ms') 8 [(0, .ref v0), (1, .int v1), (2, .int v2), (3, .ref v3)] [.int r, .int 0, .ref v3] Γ I' L' Q) : am_W m_L_typeNameByte (d + 1) mc ms al bc bs 0 [(0, .ref v0), (1, .int v1), (2, .int v2), (3, .ref v3)] [] Γ I L Q := by
  refine aw_aload_n dL_typeNameByte_0 rfl ?_
  refine aw_iconst dL_typeNameByte_1 ci_0 ?_
  refine aw_aload_n dL_typeNameByte_2 rfl ?_
  refine aw_iload_n dL_typeNameByte_3 rfl ?_
  refine aw_iload_n dL_typeNameByte_4 rfl ?_
  exact aw_askV (as := [.int v1, .int v2]) (rst := [.int 0, .ref v3]) k_X8_typeNameByte l_L_75 i_X8_typeNameByte s_X8_typeNameByte rfl o1 dL_typeNameByte_5 rfl (Nat.le_of_ble_eq_true rfl) hbc hbs hC rfl rfl kk
theorem bL_typeNameByte_0c1 {d mc ms : Nat} {al : Bool} {bc bs : Nat} {Γ : am_G} {I : am_I} {L : am_L} {Q : am_Q} {v0 : Nat} {v1 : Int32} {v2 : Int32} {v3 : Nat} {I' : am_I} {L' : am_L} {mc' : Nat} {ms' : Nat} (o1 : am_ob Γ v0 8) (hbc : mc' ≤ bc) (hbs : ms' ≤ bs) (hC : am_E m_X8_typeNameByte d mc' ms' [.ref v0, .int v1, .int v2] Γ I L (.inr "java/lang/IndexOutOfBoundsException") I' L') (kk : am_W m_L_typeNameByte (d + 1) mc ms al (bc - mc') (bs - ms') 15 [(0, .ref v0), (1, .int v1), (2, .int v2), (3, .ref v3)] [] Γ I' L' Q) : am_W m_L_typeNameByte (d + 1) mc ms al bc bs 0 [(0, .ref v0), (1, .int v1), (2, .int v2), (3, .ref v3)] [] Γ I L Q := by
  refine aw_aload_n dL_typeNameByte_0 rfl ?_
  refine aw_iconst dL_typeNameByte_1 ci_0 ?_
  refine aw_aload_n dL_typeNameByte_2 rfl ?_
  refine aw_iload_n dL_typeNameByte_3 rfl ?_
  refine aw_iload_n dL_typeNameByte_4 rfl ?_
  refine aw_catchV (as := [.int v1, .int v2]) (rst := [.int 0, .ref v3]) (nm := "java/lang/IndexOutOfBoundsException") (k := 4) (len := 2) (ls' := [(0, .ref v0), (1, .int v1), (2, .int v2), (3, .ref v3)]) k_X8_typeNameByte l_L_75 i_X8_typeNameByte s_X8_typeNameByte rfl o1 dL_typeNameByte_5 rfl (Nat.le_of_ble_eq_true rfl) hbc hbs hC rfl [] (0, 10, 13, 19) [] rfl ?_ (by decide) (by decide) cl_L_19 ca_IndexOutOfBoundsException (Or.inr ⟨dL_typeNameByte_13, rfl⟩) (by decide) ?_ kk
  · intro z hz
    cases hz
  · intro q hq
    simp only [List.mem_cons, List.not_mem_nil, or_false] at hq
    rcases hq with rfl | rfl | rfl | rfl
    · exact List.mem_filter.mpr ⟨by simp, rfl⟩
    · exact List.mem_filter.mpr ⟨by simp, rfl⟩
    · exact List.mem_filter.mpr ⟨by simp, rfl⟩
    · exact List.mem_filter.mpr ⟨by simp, rfl⟩
theorem bL_typeNameByte_8 {d mc ms : Nat} {al : Bool} {bc bs : Nat} {Γ : am_G} {I : am_I} {L : am_L} {Q : am_Q} {v0 : Nat} {v1 : Int32} {v2 : Int32} {v3 : Nat} {w0 : Nat} {w1 : Int32} {w2 : Int32} {n_w0 : Nat} (a1 : am_ar Γ w0 4 n_w0 0) (i2 : vp_in w1 n_w0) (kk : am_W m_L_typeNameByte d mc ms al bc bs 17 [(0, .ref v0), (1, .int v1), (2, .int v2), (3, .ref v3)] [] Γ I (am_ul L w0 (w1.toNatClampNeg) (w2.toInt64)) Q) : am_W m_L_typeNameByte d mc ms al bc bs 8 [(0, .ref v0), (1, .int v1), (2, .int v2), (3, .ref v3)] [.int w2, .int w1, .ref w0] Γ I L Q := by
  refine aw_i2l dL_typeNameByte_8 ?_
  refine aw_last dL_typeNameByte_9 a1 i2 ?_
  exact aw_goto dL_typeNameByte_10 (by decide) kk
theorem bL_typeNameByte_15 {d mc ms : Nat} {al : Bool} {bc bs : Nat} {Γ : am_G} {I : am_I} {L : am_L} {Q : am_Q} {v0 : Nat} {v1 : Int32} {v2 : Int32} {v3 : Nat} (hq : Q (.inl (some (.int 1))) Γ I L) : am_W m_L_typeNameByte d mc ms al bc bs 15 [(0, .ref v0), (1, .int v1), (2, .int v2), (3, .ref v3)] [] Γ I L Q := by
  refine aw_iconst dL_typeNameByte_15 ci_1 ?_
  exact aw_iret dL_typeNameByte_16 rfl hq
theorem bL_typeNameByte_17 {d mc ms : Nat} {al : Bool} {bc bs : Nat} {Γ : am_G} {I : am_I} {L : am_L} {Q : am_Q} {v0 : Nat} {v1 : Int32} {v2 : Int32} {v3 : Nat} (hq : Q (.inl (some (.int 0))) Γ I L) : am_W m_L_typeNameByte d mc ms al bc bs 17 [(0, .ref v0), (1, .int v1), (2, .int v2), (3, .ref v3)] [] Γ I L Q := by
  refine aw_iconst dL_typeNameByte_17 ci_0 ?_
  exact aw_iret dL_typeNameByte_18 rfl hq
theorem dL_gateNameByte_0 : decode cL_gateNameByte 0 = .ok (.aload_n 3, 1) := by decide +kernel
theorem dL_gateNameByte_1 : decode cL_gateNameByte 1 = .ok (.iconst 0, 1) := by decide +kernel
theorem dL_gateNameByte_2 : decode cL_gateNameByte 2 = .ok (.aload_n 0, 1) := by decide +kernel
theorem dL_gateNameByte_3 : decode cL_gateNameByte 3 = .ok (.iload_n 1, 1) := by decide +kernel
theorem dL_gateNameByte_4 : decode cL_gateNameByte 4 = .ok (.iload_n 2, 1) := by decide +kernel
theorem dL_gateNameByte_5 : decode cL_gateNameByte 5 = .ok (.invokevirtual 78, 3) := by decide +kernel
theorem dL_gateNameByte_8 : decode cL_gateNameByte 8 = .ok (.i2l, 1) := by decide +kernel
theorem dL_gateNameByte_9 : decode cL_gateNameByte 9 = .ok (.lastore, 1) := by decide +kernel
theorem dL_gateNameByte_10 : decode cL_gateNameByte 10 = .ok (.goto 7, 3) := by decide +kernel
theorem dL_gateNameByte_13 : decode cL_gateNameByte 13 = .ok (.astore 4, 2) := by decide +kernel
theorem dL_gateNameByte_15 : decode cL_gateNameByte 15 = .ok (.iconst 1, 1) := by decide +kernel
theorem dL_gateNameByte_16 : decode cL_gateNameByte 16 = .ok (.ireturn, 1) := by decide +kernel
theorem dL_gateNameByte_17 : decode cL_gateNameByte 17 = .ok (.iconst 0, 1) := by decide +kernel
theorem dL_gateNameByte_18 : decode cL_gateNameByte 18 = .ok (.ireturn, 1) := by decide +kernel
theorem bL_gateNameByte_0 {d mc ms : Nat} {al : Bool} {bc bs : Nat} {Γ : am_G} {I : am_I} {L : am_L} {Q : am_Q} {v0 : Nat} {v1 : Int32} {v2 : Int32} {v3 : Nat} {I' : am_I} {L' : am_L} {mc' : Nat} {ms' : Nat} {r : Int32} (o1 : am_ob Γ v0 8) (hbc : mc' ≤ bc) (hbs : ms' ≤ bs) (hC : am_E m_X8_gateNameByte d mc' ms' [.ref v0, .int v1, .int v2] Γ I L (.inl (some (.int r))) I' L') (kk : am_W m_L_gateNameByte (d + 1) mc ms al (bc - mc') (bs - ms') 8 [(0, .ref v0), (1, .int v1), (2, .int v2), (3, .ref v3)] [.int r, .int 0, .ref v3] Γ I' L' Q) : am_W m_L_gateNameByte (d + 1) mc ms al bc bs 0 [(0, .ref v0), (1, .int v1), (2, .int v2), (3, .ref v3)] [] Γ I L Q := by
  refine aw_aload_n dL_gateNameByte_0 rfl ?_
  refine aw_iconst dL_gateNameByte_1 ci_0 ?_
  refine aw_aload_n dL_gateNameByte_2 rfl ?_
  refine aw_iload_n dL_gateNameByte_3 rfl ?_
  refine aw_iload_n dL_gateNameByte_4 rfl ?_
  exact aw_askV (as := [.int v1, .int v2]) (rst := [.int 0, .ref v3]) k_X8_gateNameByte l_L_78 i_X8_gateNameByte s_X8_gateNameByte rfl o1 dL_gateNameByte_5 rfl (Nat.le_of_ble_eq_true rfl) hbc hbs hC rfl rfl kk
theorem bL_gateNameByte_0c1 {d mc ms : Nat} {al : Bool} {bc bs : Nat} {Γ : am_G} {I : am_I} {L : am_L} {Q : am_Q} {v0 : Nat} {v1 : Int32} {v2 : Int32} {v3 : Nat} {I' : am_I} {L' : am_L} {mc' : Nat} {ms' : Nat} (o1 : am_ob Γ v0 8) (hbc : mc' ≤ bc) (hbs : ms' ≤ bs) (hC : am_E m_X8_gateNameByte d mc' ms' [.ref v0, .int v1, .int v2] Γ I L (.inr "java/lang/IndexOutOfBoundsException") I' L') (kk : am_W m_L_gateNameByte (d + 1) mc ms al (bc - mc') (bs - ms') 15 [(0, .ref v0), (1, .int v1), (2, .int v2), (3, .ref v3)] [] Γ I' L' Q) : am_W m_L_gateNameByte (d + 1) mc ms al bc bs 0 [(0, .ref v0), (1, .int v1), (2, .int v2), (3, .ref v3)] [] Γ I L Q := by
  refine aw_aload_n dL_gateNameByte_0 rfl ?_
  refine aw_iconst dL_gateNameByte_1 ci_0 ?_
  refine aw_aload_n dL_gateNameByte_2 rfl ?_
  refine aw_iload_n dL_gateNameByte_3 rfl ?_
  refine aw_iload_n dL_gateNameByte_4 rfl ?_
  refine aw_catchV (as := [.int v1, .int v2]) (rst := [.int 0, .ref v3]) (nm := "java/lang/IndexOutOfBoundsException") (k := 4) (len := 2) (ls' := [(0, .ref v0), (1, .int v1), (2, .int v2), (3, .ref v3)]) k_X8_gateNameByte l_L_78 i_X8_gateNameByte s_X8_gateNameByte rfl o1 dL_gateNameByte_5 rfl (Nat.le_of_ble_eq_true rfl) hbc hbs hC rfl [] (0, 10, 13, 19) [] rfl ?_ (by decide) (by decide) cl_L_19 ca_IndexOutOfBoundsException (Or.inr ⟨dL_gateNameByte_13, rfl⟩) (by decide) ?_ kk
  · intro z hz
    cases hz
  · intro q hq
    simp only [List.mem_cons, List.not_mem_nil, or_false] at hq
    rcases hq with rfl | rfl | rfl | rfl
    · exact List.mem_filter.mpr ⟨by simp, rfl⟩
    · exact List.mem_filter.mpr ⟨by simp, rfl⟩
    · exact List.mem_filter.mpr ⟨by simp, rfl⟩
    · exact List.mem_filter.mpr ⟨by simp, rfl⟩
theorem bL_gateNameByte_8 {d mc ms : Nat} {al : Bool} {bc bs : Nat} {Γ : am_G} {I : am_I} {L : am_L} {Q : am_Q} {v0 : Nat} {v1 : Int32} {v2 : Int32} {v3 : Nat} {w0 : Nat} {w1 : Int32} {w2 : Int32} {n_w0 : Nat} (a1 : am_ar Γ w0 4 n_w0 0) (i2 : vp_in w1 n_w0) (kk : am_W m_L_gateNameByte d mc ms al bc bs 17 [(0, .ref v0), (1, .int v1), (2, .int v2), (3, .ref v3)] [] Γ I (am_ul L w0 (w1.toNatClampNeg) (w2.toInt64)) Q) : am_W m_L_gateNameByte d mc ms al bc bs 8 [(0, .ref v0), (1, .int v1), (2, .int v2), (3, .ref v3)] [.int w2, .int w1, .ref w0] Γ I L Q := by
  refine aw_i2l dL_gateNameByte_8 ?_
  refine aw_last dL_gateNameByte_9 a1 i2 ?_
  exact aw_goto dL_gateNameByte_10 (by decide) kk
theorem bL_gateNameByte_15 {d mc ms : Nat} {al : Bool} {bc bs : Nat} {Γ : am_G} {I : am_I} {L : am_L} {Q : am_Q} {v0 : Nat} {v1 : Int32} {v2 : Int32} {v3 : Nat} (hq : Q (.inl (some (.int 1))) Γ I L) : am_W m_L_gateNameByte d mc ms al bc bs 15 [(0, .ref v0), (1, .int v1), (2, .int v2), (3, .ref v3)] [] Γ I L Q := by
  refine aw_iconst dL_gateNameByte_15 ci_1 ?_
  exact aw_iret dL_gateNameByte_16 rfl hq
theorem bL_gateNameByte_17 {d mc ms : Nat} {al : Bool} {bc bs : Nat} {Γ : am_G} {I : am_I} {L : am_L} {Q : am_Q} {v0 : Nat} {v1 : Int32} {v2 : Int32} {v3 : Nat} (hq : Q (.inl (some (.int 0))) Γ I L) : am_W m_L_gateNameByte d mc ms al bc bs 17 [(0, .ref v0), (1, .int v1), (2, .int v2), (3, .ref v3)] [] Γ I L Q := by
  refine aw_iconst dL_gateNameByte_17 ci_0 ?_
  exact aw_iret dL_gateNameByte_18 rfl hq
theorem dL_nodeCount_0 : decode cL_nodeCount 0 = .ok (.aload_n 2, 1) := by decide +kernel
theorem dL_nodeCount_1 : decode cL_nodeCount 1 = .ok (.iconst 0, 1) := by decide +kernel
theorem dL_nodeCount_2 : decode cL_nodeCount 2 = .ok (.aload_n 0, 1) := by decide +kernel
theorem dL_nodeCount_3 : decode cL_nodeCount 3 = .ok (.iload_n 1, 1) := by decide +kernel
theorem dL_nodeCount_4 : decode cL_nodeCount 4 = .ok (.invokevirtual 81, 3) := by decide +kernel
theorem dL_nodeCount_7 : decode cL_nodeCount 7 = .ok (.i2l, 1) := by decide +kernel
theorem dL_nodeCount_8 : decode cL_nodeCount 8 = .ok (.lastore, 1) := by decide +kernel
theorem dL_nodeCount_9 : decode cL_nodeCount 9 = .ok (.goto 6, 3) := by decide +kernel
theorem dL_nodeCount_12 : decode cL_nodeCount 12 = .ok (.astore_n 3, 1) := by decide +kernel
theorem dL_nodeCount_13 : decode cL_nodeCount 13 = .ok (.iconst 1, 1) := by decide +kernel
theorem dL_nodeCount_14 : decode cL_nodeCount 14 = .ok (.ireturn, 1) := by decide +kernel
theorem dL_nodeCount_15 : decode cL_nodeCount 15 = .ok (.iconst 0, 1) := by decide +kernel
theorem dL_nodeCount_16 : decode cL_nodeCount 16 = .ok (.ireturn, 1) := by decide +kernel
theorem bL_nodeCount_0 {d mc ms : Nat} {al : Bool} {bc bs : Nat} {Γ : am_G} {I : am_I} {L : am_L} {Q : am_Q} {v0 : Nat} {v1 : Int32} {v2 : Nat} {I' : am_I} {L' : am_L} {mc' : Nat} {ms' : Nat} {r : Int32} (o1 : am_ob Γ v0 8) (hbc : mc' ≤ bc) (hbs : ms' ≤ bs) (hC : am_E m_X8_nodeCount d mc' ms' [.ref v0, .int v1] Γ I L (.inl (some (.int r))) I' L') (kk : am_W m_L_nodeCount (d + 1) mc ms al (bc - mc') (bs - ms') 7 [(0, .ref v0), (1, .int v1), (2, .ref v2)] [.int r, .int 0, .ref v2] Γ I' L' Q) : am_W m_L_nodeCount (d + 1) mc ms al bc bs 0 [(0, .ref v0), (1, .int v1), (2, .ref v2)] [] Γ I L Q := by
  refine aw_aload_n dL_nodeCount_0 rfl ?_
  refine aw_iconst dL_nodeCount_1 ci_0 ?_
  refine aw_aload_n dL_nodeCount_2 rfl ?_
  refine aw_iload_n dL_nodeCount_3 rfl ?_
  exact aw_askV (as := [.int v1]) (rst := [.int 0, .ref v2]) k_X8_nodeCount l_L_81 i_X8_nodeCount s_X8_nodeCount rfl o1 dL_nodeCount_4 rfl (Nat.le_of_ble_eq_true rfl) hbc hbs hC rfl rfl kk
theorem bL_nodeCount_0c1 {d mc ms : Nat} {al : Bool} {bc bs : Nat} {Γ : am_G} {I : am_I} {L : am_L} {Q : am_Q} {v0 : Nat} {v1 : Int32} {v2 : Nat} {I' : am_I} {L' : am_L} {mc' : Nat} {ms' : Nat} (o1 : am_ob Γ v0 8) (hbc : mc' ≤ bc) (hbs : ms' ≤ bs) (hC : am_E m_X8_nodeCount d mc' ms' [.ref v0, .int v1] Γ I L (.inr "java/lang/IndexOutOfBoundsException") I' L') (kk : am_W m_L_nodeCount (d + 1) mc ms al (bc - mc') (bs - ms') 13 [(0, .ref v0), (1, .int v1), (2, .ref v2)] [] Γ I' L' Q) : am_W m_L_nodeCount (d + 1) mc ms al bc bs 0 [(0, .ref v0), (1, .int v1), (2, .ref v2)] [] Γ I L Q := by
  refine aw_aload_n dL_nodeCount_0 rfl ?_
  refine aw_iconst dL_nodeCount_1 ci_0 ?_
  refine aw_aload_n dL_nodeCount_2 rfl ?_
  refine aw_iload_n dL_nodeCount_3 rfl ?_
  refine aw_catchV (as := [.int v1]) (rst := [.int 0, .ref v2]) (nm := "java/lang/IndexOutOfBoundsException") (k := 3) (len := 1) (ls' := [(0, .ref v0), (1, .int v1), (2, .ref v2)]) k_X8_nodeCount l_L_81 i_X8_nodeCount s_X8_nodeCount rfl o1 dL_nodeCount_4 rfl (Nat.le_of_ble_eq_true rfl) hbc hbs hC rfl [] (0, 9, 12, 19) [] rfl ?_ (by decide) (by decide) cl_L_19 ca_IndexOutOfBoundsException (Or.inl ⟨3, rfl, dL_nodeCount_12, rfl⟩) (by decide) ?_ kk
  · intro z hz
    cases hz
  · intro q hq
    simp only [List.mem_cons, List.not_mem_nil, or_false] at hq
    rcases hq with rfl | rfl | rfl
    · exact List.mem_filter.mpr ⟨by simp, rfl⟩
    · exact List.mem_filter.mpr ⟨by simp, rfl⟩
    · exact List.mem_filter.mpr ⟨by simp, rfl⟩
theorem bL_nodeCount_7 {d mc ms : Nat} {al : Bool} {bc bs : Nat} {Γ : am_G} {I : am_I} {L : am_L} {Q : am_Q} {v0 : Nat} {v1 : Int32} {v2 : Nat} {w0 : Nat} {w1 : Int32} {w2 : Int32} {n_w0 : Nat} (a1 : am_ar Γ w0 4 n_w0 0) (i2 : vp_in w1 n_w0) (kk : am_W m_L_nodeCount d mc ms al bc bs 15 [(0, .ref v0), (1, .int v1), (2, .ref v2)] [] Γ I (am_ul L w0 (w1.toNatClampNeg) (w2.toInt64)) Q) : am_W m_L_nodeCount d mc ms al bc bs 7 [(0, .ref v0), (1, .int v1), (2, .ref v2)] [.int w2, .int w1, .ref w0] Γ I L Q := by
  refine aw_i2l dL_nodeCount_7 ?_
  refine aw_last dL_nodeCount_8 a1 i2 ?_
  exact aw_goto dL_nodeCount_9 (by decide) kk
theorem bL_nodeCount_13 {d mc ms : Nat} {al : Bool} {bc bs : Nat} {Γ : am_G} {I : am_I} {L : am_L} {Q : am_Q} {v0 : Nat} {v1 : Int32} {v2 : Nat} (hq : Q (.inl (some (.int 1))) Γ I L) : am_W m_L_nodeCount d mc ms al bc bs 13 [(0, .ref v0), (1, .int v1), (2, .ref v2)] [] Γ I L Q := by
  refine aw_iconst dL_nodeCount_13 ci_1 ?_
  exact aw_iret dL_nodeCount_14 rfl hq
theorem bL_nodeCount_15 {d mc ms : Nat} {al : Bool} {bc bs : Nat} {Γ : am_G} {I : am_I} {L : am_L} {Q : am_Q} {v0 : Nat} {v1 : Int32} {v2 : Nat} (hq : Q (.inl (some (.int 0))) Γ I L) : am_W m_L_nodeCount d mc ms al bc bs 15 [(0, .ref v0), (1, .int v1), (2, .ref v2)] [] Γ I L Q := by
  refine aw_iconst dL_nodeCount_15 ci_0 ?_
  exact aw_iret dL_nodeCount_16 rfl hq
theorem dL_nodeQuestion_0 : decode cL_nodeQuestion 0 = .ok (.aload_n 3, 1) := by decide +kernel
theorem dL_nodeQuestion_1 : decode cL_nodeQuestion 1 = .ok (.iconst 0, 1) := by decide +kernel
theorem dL_nodeQuestion_2 : decode cL_nodeQuestion 2 = .ok (.aload_n 0, 1) := by decide +kernel
theorem dL_nodeQuestion_3 : decode cL_nodeQuestion 3 = .ok (.iload_n 1, 1) := by decide +kernel
theorem dL_nodeQuestion_4 : decode cL_nodeQuestion 4 = .ok (.iload_n 2, 1) := by decide +kernel
theorem dL_nodeQuestion_5 : decode cL_nodeQuestion 5 = .ok (.invokevirtual 84, 3) := by decide +kernel
theorem dL_nodeQuestion_8 : decode cL_nodeQuestion 8 = .ok (.i2l, 1) := by decide +kernel
theorem dL_nodeQuestion_9 : decode cL_nodeQuestion 9 = .ok (.lastore, 1) := by decide +kernel
theorem dL_nodeQuestion_10 : decode cL_nodeQuestion 10 = .ok (.goto 7, 3) := by decide +kernel
theorem dL_nodeQuestion_13 : decode cL_nodeQuestion 13 = .ok (.astore 4, 2) := by decide +kernel
theorem dL_nodeQuestion_15 : decode cL_nodeQuestion 15 = .ok (.iconst 1, 1) := by decide +kernel
theorem dL_nodeQuestion_16 : decode cL_nodeQuestion 16 = .ok (.ireturn, 1) := by decide +kernel
theorem dL_nodeQuestion_17 : decode cL_nodeQuestion 17 = .ok (.iconst 0, 1) := by decide +kernel
theorem dL_nodeQuestion_18 : decode cL_nodeQuestion 18 = .ok (.ireturn, 1) := by decide +kernel
theorem bL_nodeQuestion_0 {d mc ms : Nat} {al : Bool} {bc bs : Nat} {Γ : am_G} {I : am_I} {L : am_L} {Q : am_Q} {v0 : Nat} {v1 : Int32} {v2 : Int32} {v3 : Nat} {I' : am_I} {L' : am_L} {mc' : Nat} {ms' : Nat} {r : Int32} (o1 : am_ob Γ v0 8) (hbc : mc' ≤ bc) (hbs : ms' ≤ bs) (hC : am_E m_X8_nodeQuestion d mc' ms' [.ref v0, .int v1, .int v2] Γ I L (.inl (some (.int r))) I' L') (kk : am_W m_L_nodeQuestion (d + 1) mc ms al (bc - mc') (bs - ms') 8 [(0, .ref v0), (1, .int v1), (2, .int v2), (3, .ref v3)] [.int r, .int 0, .ref v3] Γ I' L' Q) : am_W m_L_nodeQuestion (d + 1) mc ms al bc bs 0 [(0, .ref v0), (1, .int v1), (2, .int v2), (3, .ref v3)] [] Γ I L Q := by
  refine aw_aload_n dL_nodeQuestion_0 rfl ?_
  refine aw_iconst dL_nodeQuestion_1 ci_0 ?_
  refine aw_aload_n dL_nodeQuestion_2 rfl ?_
  refine aw_iload_n dL_nodeQuestion_3 rfl ?_
  refine aw_iload_n dL_nodeQuestion_4 rfl ?_
  exact aw_askV (as := [.int v1, .int v2]) (rst := [.int 0, .ref v3]) k_X8_nodeQuestion l_L_84 i_X8_nodeQuestion s_X8_nodeQuestion rfl o1 dL_nodeQuestion_5 rfl (Nat.le_of_ble_eq_true rfl) hbc hbs hC rfl rfl kk
theorem bL_nodeQuestion_0c1 {d mc ms : Nat} {al : Bool} {bc bs : Nat} {Γ : am_G} {I : am_I} {L : am_L} {Q : am_Q} {v0 : Nat} {v1 : Int32} {v2 : Int32} {v3 : Nat} {I' : am_I} {L' : am_L} {mc' : Nat} {ms' : Nat} (o1 : am_ob Γ v0 8) (hbc : mc' ≤ bc) (hbs : ms' ≤ bs) (hC : am_E m_X8_nodeQuestion d mc' ms' [.ref v0, .int v1, .int v2] Γ I L (.inr "java/lang/IndexOutOfBoundsException") I' L') (kk : am_W m_L_nodeQuestion (d + 1) mc ms al (bc - mc') (bs - ms') 15 [(0, .ref v0), (1, .int v1), (2, .int v2), (3, .ref v3)] [] Γ I' L' Q) : am_W m_L_nodeQuestion (d + 1) mc ms al bc bs 0 [(0, .ref v0), (1, .int v1), (2, .int v2), (3, .ref v3)] [] Γ I L Q := by
  refine aw_aload_n dL_nodeQuestion_0 rfl ?_
  refine aw_iconst dL_nodeQuestion_1 ci_0 ?_
  refine aw_aload_n dL_nodeQuestion_2 rfl ?_
  refine aw_iload_n dL_nodeQuestion_3 rfl ?_
  refine aw_iload_n dL_nodeQuestion_4 rfl ?_
  refine aw_catchV (as := [.int v1, .int v2]) (rst := [.int 0, .ref v3]) (nm := "java/lang/IndexOutOfBoundsException") (k := 4) (len := 2) (ls' := [(0, .ref v0), (1, .int v1), (2, .int v2), (3, .ref v3)]) k_X8_nodeQuestion l_L_84 i_X8_nodeQuestion s_X8_nodeQuestion rfl o1 dL_nodeQuestion_5 rfl (Nat.le_of_ble_eq_true rfl) hbc hbs hC rfl [] (0, 10, 13, 19) [] rfl ?_ (by decide) (by decide) cl_L_19 ca_IndexOutOfBoundsException (Or.inr ⟨dL_nodeQuestion_13, rfl⟩) (by decide) ?_ kk
  · intro z hz
    cases hz
  · intro q hq
    simp only [List.mem_cons, List.not_mem_nil, or_false] at hq
    rcases hq with rfl | rfl | rfl | rfl
    · exact List.mem_filter.mpr ⟨by simp, rfl⟩
    · exact List.mem_filter.mpr ⟨by simp, rfl⟩
    · exact List.mem_filter.mpr ⟨by simp, rfl⟩
    · exact List.mem_filter.mpr ⟨by simp, rfl⟩
theorem bL_nodeQuestion_8 {d mc ms : Nat} {al : Bool} {bc bs : Nat} {Γ : am_G} {I : am_I} {L : am_L} {Q : am_Q} {v0 : Nat} {v1 : Int32} {v2 : Int32} {v3 : Nat} {w0 : Nat} {w1 : Int32} {w2 : Int32} {n_w0 : Nat} (a1 : am_ar Γ w0 4 n_w0 0) (i2 : vp_in w1 n_w0) (kk : am_W m_L_nodeQuestion d mc ms al bc bs 17 [(0, .ref v0), (1, .int v1), (2, .int v2), (3, .ref v3)] [] Γ I (am_ul L w0 (w1.toNatClampNeg) (w2.toInt64)) Q) : am_W m_L_nodeQuestion d mc ms al bc bs 8 [(0, .ref v0), (1, .int v1), (2, .int v2), (3, .ref v3)] [.int w2, .int w1, .ref w0] Γ I L Q := by
  refine aw_i2l dL_nodeQuestion_8 ?_
  refine aw_last dL_nodeQuestion_9 a1 i2 ?_
  exact aw_goto dL_nodeQuestion_10 (by decide) kk
theorem bL_nodeQuestion_15 {d mc ms : Nat} {al : Bool} {bc bs : Nat} {Γ : am_G} {I : am_I} {L : am_L} {Q : am_Q} {v0 : Nat} {v1 : Int32} {v2 : Int32} {v3 : Nat} (hq : Q (.inl (some (.int 1))) Γ I L) : am_W m_L_nodeQuestion d mc ms al bc bs 15 [(0, .ref v0), (1, .int v1), (2, .int v2), (3, .ref v3)] [] Γ I L Q := by
  refine aw_iconst dL_nodeQuestion_15 ci_1 ?_
  exact aw_iret dL_nodeQuestion_16 rfl hq
theorem bL_nodeQuestion_17 {d mc ms : Nat} {al : Bool} {bc bs : Nat} {Γ : am_G} {I : am_I} {L : am_L} {Q : am_Q} {v0 : Nat} {v1 : Int32} {v2 : Int32} {v3 : Nat} (hq : Q (.inl (some (.int 0))) Γ I L) : am_W m_L_nodeQuestion d mc ms al bc bs 17 [(0, .ref v0), (1, .int v1), (2, .int v2), (3, .ref v3)] [] Γ I L Q := by
  refine aw_iconst dL_nodeQuestion_17 ci_0 ?_
  exact aw_iret dL_nodeQuestion_18 rfl hq
theorem dL_leafToll_0 : decode cL_leafToll 0 = .ok (.aload_n 3, 1) := by decide +kernel
theorem dL_leafToll_1 : decode cL_leafToll 1 = .ok (.iconst 0, 1) := by decide +kernel
theorem dL_leafToll_2 : decode cL_leafToll 2 = .ok (.aload_n 0, 1) := by decide +kernel
theorem dL_leafToll_3 : decode cL_leafToll 3 = .ok (.iload_n 1, 1) := by decide +kernel
theorem dL_leafToll_4 : decode cL_leafToll 4 = .ok (.iload_n 2, 1) := by decide +kernel
theorem dL_leafToll_5 : decode cL_leafToll 5 = .ok (.invokevirtual 87, 3) := by decide +kernel
theorem dL_leafToll_8 : decode cL_leafToll 8 = .ok (.i2l, 1) := by decide +kernel
theorem dL_leafToll_9 : decode cL_leafToll 9 = .ok (.lastore, 1) := by decide +kernel
theorem dL_leafToll_10 : decode cL_leafToll 10 = .ok (.goto 7, 3) := by decide +kernel
theorem dL_leafToll_13 : decode cL_leafToll 13 = .ok (.astore 4, 2) := by decide +kernel
theorem dL_leafToll_15 : decode cL_leafToll 15 = .ok (.iconst 1, 1) := by decide +kernel
theorem dL_leafToll_16 : decode cL_leafToll 16 = .ok (.ireturn, 1) := by decide +kernel
theorem dL_leafToll_17 : decode cL_leafToll 17 = .ok (.iconst 0, 1) := by decide +kernel
theorem dL_leafToll_18 : decode cL_leafToll 18 = .ok (.ireturn, 1) := by decide +kernel
theorem bL_leafToll_0 {d mc ms : Nat} {al : Bool} {bc bs : Nat} {Γ : am_G} {I : am_I} {L : am_L} {Q : am_Q} {v0 : Nat} {v1 : Int32} {v2 : Int32} {v3 : Nat} {I' : am_I} {L' : am_L} {mc' : Nat} {ms' : Nat} {r : Int32} (o1 : am_ob Γ v0 8) (hbc : mc' ≤ bc) (hbs : ms' ≤ bs) (hC : am_E m_X8_leafToll d mc' ms' [.ref v0, .int v1, .int v2] Γ I L (.inl (some (.int r))) I' L') (kk : am_W m_L_leafToll (d + 1) mc ms al (bc - mc') (bs - ms') 8 [(0, .ref v0), (1, .int v1), (2, .int v2), (3, .ref v3)] [.int r, .int 0, .ref v3] Γ I' L' Q) : am_W m_L_leafToll (d + 1) mc ms al bc bs 0 [(0, .ref v0), (1, .int v1), (2, .int v2), (3, .ref v3)] [] Γ I L Q := by
  refine aw_aload_n dL_leafToll_0 rfl ?_
  refine aw_iconst dL_leafToll_1 ci_0 ?_
  refine aw_aload_n dL_leafToll_2 rfl ?_
  refine aw_iload_n dL_leafToll_3 rfl ?_
  refine aw_iload_n dL_leafToll_4 rfl ?_
  exact aw_askV (as := [.int v1, .int v2]) (rst := [.int 0, .ref v3]) k_X8_leafToll l_L_87 i_X8_leafToll s_X8_leafToll rfl o1 dL_leafToll_5 rfl (Nat.le_of_ble_eq_true rfl) hbc hbs hC rfl rfl kk
theorem bL_leafToll_0c1 {d mc ms : Nat} {al : Bool} {bc bs : Nat} {Γ : am_G} {I : am_I} {L : am_L} {Q : am_Q} {v0 : Nat} {v1 : Int32} {v2 : Int32} {v3 : Nat} {I' : am_I} {L' : am_L} {mc' : Nat} {ms' : Nat} (o1 : am_ob Γ v0 8) (hbc : mc' ≤ bc) (hbs : ms' ≤ bs) (hC : am_E m_X8_leafToll d mc' ms' [.ref v0, .int v1, .int v2] Γ I L (.inr "java/lang/IndexOutOfBoundsException") I' L') (kk : am_W m_L_leafToll (d + 1) mc ms al (bc - mc') (bs - ms') 15 [(0, .ref v0), (1, .int v1), (2, .int v2), (3, .ref v3)] [] Γ I' L' Q) : am_W m_L_leafToll (d + 1) mc ms al bc bs 0 [(0, .ref v0), (1, .int v1), (2, .int v2), (3, .ref v3)] [] Γ I L Q := by
  refine aw_aload_n dL_leafToll_0 rfl ?_
  refine aw_iconst dL_leafToll_1 ci_0 ?_
  refine aw_aload_n dL_leafToll_2 rfl ?_
  refine aw_iload_n dL_leafToll_3 rfl ?_
  refine aw_iload_n dL_leafToll_4 rfl ?_
  refine aw_catchV (as := [.int v1, .int v2]) (rst := [.int 0, .ref v3]) (nm := "java/lang/IndexOutOfBoundsException") (k := 4) (len := 2) (ls' := [(0, .ref v0), (1, .int v1), (2, .int v2), (3, .ref v3)]) k_X8_leafToll l_L_87 i_X8_leafToll s_X8_leafToll rfl o1 dL_leafToll_5 rfl (Nat.le_of_ble_eq_true rfl) hbc hbs hC rfl [] (0, 10, 13, 19) [] rfl ?_ (by decide) (by decide) cl_L_19 ca_IndexOutOfBoundsException (Or.inr ⟨dL_leafToll_13, rfl⟩) (by decide) ?_ kk
  · intro z hz
    cases hz
  · intro q hq
    simp only [List.mem_cons, List.not_mem_nil, or_false] at hq
    rcases hq with rfl | rfl | rfl | rfl
    · exact List.mem_filter.mpr ⟨by simp, rfl⟩
    · exact List.mem_filter.mpr ⟨by simp, rfl⟩
    · exact List.mem_filter.mpr ⟨by simp, rfl⟩
    · exact List.mem_filter.mpr ⟨by simp, rfl⟩
theorem bL_leafToll_8 {d mc ms : Nat} {al : Bool} {bc bs : Nat} {Γ : am_G} {I : am_I} {L : am_L} {Q : am_Q} {v0 : Nat} {v1 : Int32} {v2 : Int32} {v3 : Nat} {w0 : Nat} {w1 : Int32} {w2 : Int32} {n_w0 : Nat} (a1 : am_ar Γ w0 4 n_w0 0) (i2 : vp_in w1 n_w0) (kk : am_W m_L_leafToll d mc ms al bc bs 17 [(0, .ref v0), (1, .int v1), (2, .int v2), (3, .ref v3)] [] Γ I (am_ul L w0 (w1.toNatClampNeg) (w2.toInt64)) Q) : am_W m_L_leafToll d mc ms al bc bs 8 [(0, .ref v0), (1, .int v1), (2, .int v2), (3, .ref v3)] [.int w2, .int w1, .ref w0] Γ I L Q := by
  refine aw_i2l dL_leafToll_8 ?_
  refine aw_last dL_leafToll_9 a1 i2 ?_
  exact aw_goto dL_leafToll_10 (by decide) kk
theorem bL_leafToll_15 {d mc ms : Nat} {al : Bool} {bc bs : Nat} {Γ : am_G} {I : am_I} {L : am_L} {Q : am_Q} {v0 : Nat} {v1 : Int32} {v2 : Int32} {v3 : Nat} (hq : Q (.inl (some (.int 1))) Γ I L) : am_W m_L_leafToll d mc ms al bc bs 15 [(0, .ref v0), (1, .int v1), (2, .int v2), (3, .ref v3)] [] Γ I L Q := by
  refine aw_iconst dL_leafToll_15 ci_1 ?_
  exact aw_iret dL_leafToll_16 rfl hq
theorem bL_leafToll_17 {d mc ms : Nat} {al : Bool} {bc bs : Nat} {Γ : am_G} {I : am_I} {L : am_L} {Q : am_Q} {v0 : Nat} {v1 : Int32} {v2 : Int32} {v3 : Nat} (hq : Q (.inl (some (.int 0))) Γ I L) : am_W m_L_leafToll d mc ms al bc bs 17 [(0, .ref v0), (1, .int v1), (2, .int v2), (3, .ref v3)] [] Γ I L Q := by
  refine aw_iconst dL_leafToll_17 ci_0 ?_
  exact aw_iret dL_leafToll_18 rfl hq
theorem dL_yesChild_0 : decode cL_yesChild 0 = .ok (.aload_n 3, 1) := by decide +kernel
theorem dL_yesChild_1 : decode cL_yesChild 1 = .ok (.iconst 0, 1) := by decide +kernel
theorem dL_yesChild_2 : decode cL_yesChild 2 = .ok (.aload_n 0, 1) := by decide +kernel
theorem dL_yesChild_3 : decode cL_yesChild 3 = .ok (.iload_n 1, 1) := by decide +kernel
theorem dL_yesChild_4 : decode cL_yesChild 4 = .ok (.iload_n 2, 1) := by decide +kernel
theorem dL_yesChild_5 : decode cL_yesChild 5 = .ok (.invokevirtual 90, 3) := by decide +kernel
theorem dL_yesChild_8 : decode cL_yesChild 8 = .ok (.i2l, 1) := by decide +kernel
theorem dL_yesChild_9 : decode cL_yesChild 9 = .ok (.lastore, 1) := by decide +kernel
theorem dL_yesChild_10 : decode cL_yesChild 10 = .ok (.goto 7, 3) := by decide +kernel
theorem dL_yesChild_13 : decode cL_yesChild 13 = .ok (.astore 4, 2) := by decide +kernel
theorem dL_yesChild_15 : decode cL_yesChild 15 = .ok (.iconst 1, 1) := by decide +kernel
theorem dL_yesChild_16 : decode cL_yesChild 16 = .ok (.ireturn, 1) := by decide +kernel
theorem dL_yesChild_17 : decode cL_yesChild 17 = .ok (.iconst 0, 1) := by decide +kernel
theorem dL_yesChild_18 : decode cL_yesChild 18 = .ok (.ireturn, 1) := by decide +kernel
theorem bL_yesChild_0 {d mc ms : Nat} {al : Bool} {bc bs : Nat} {Γ : am_G} {I : am_I} {L : am_L} {Q : am_Q} {v0 : Nat} {v1 : Int32} {v2 : Int32} {v3 : Nat} {I' : am_I} {L' : am_L} {mc' : Nat} {ms' : Nat} {r : Int32} (o1 : am_ob Γ v0 8) (hbc : mc' ≤ bc) (hbs : ms' ≤ bs) (hC : am_E m_X8_yesChild d mc' ms' [.ref v0, .int v1, .int v2] Γ I L (.inl (some (.int r))) I' L') (kk : am_W m_L_yesChild (d + 1) mc ms al (bc - mc') (bs - ms') 8 [(0, .ref v0), (1, .int v1), (2, .int v2), (3, .ref v3)] [.int r, .int 0, .ref v3] Γ I' L' Q) : am_W m_L_yesChild (d + 1) mc ms al bc bs 0 [(0, .ref v0), (1, .int v1), (2, .int v2), (3, .ref v3)] [] Γ I L Q := by
  refine aw_aload_n dL_yesChild_0 rfl ?_
  refine aw_iconst dL_yesChild_1 ci_0 ?_
  refine aw_aload_n dL_yesChild_2 rfl ?_
  refine aw_iload_n dL_yesChild_3 rfl ?_
  refine aw_iload_n dL_yesChild_4 rfl ?_
  exact aw_askV (as := [.int v1, .int v2]) (rst := [.int 0, .ref v3]) k_X8_yesChild l_L_90 i_X8_yesChild s_X8_yesChild rfl o1 dL_yesChild_5 rfl (Nat.le_of_ble_eq_true rfl) hbc hbs hC rfl rfl kk
theorem bL_yesChild_0c1 {d mc ms : Nat} {al : Bool} {bc bs : Nat} {Γ : am_G} {I : am_I} {L : am_L} {Q : am_Q} {v0 : Nat} {v1 : Int32} {v2 : Int32} {v3 : Nat} {I' : am_I} {L' : am_L} {mc' : Nat} {ms' : Nat} (o1 : am_ob Γ v0 8) (hbc : mc' ≤ bc) (hbs : ms' ≤ bs) (hC : am_E m_X8_yesChild d mc' ms' [.ref v0, .int v1, .int v2] Γ I L (.inr "java/lang/IndexOutOfBoundsException") I' L') (kk : am_W m_L_yesChild (d + 1) mc ms al (bc - mc') (bs - ms') 15 [(0, .ref v0), (1, .int v1), (2, .int v2), (3, .ref v3)] [] Γ I' L' Q) : am_W m_L_yesChild (d + 1) mc ms al bc bs 0 [(0, .ref v0), (1, .int v1), (2, .int v2), (3, .ref v3)] [] Γ I L Q := by
  refine aw_aload_n dL_yesChild_0 rfl ?_
  refine aw_iconst dL_yesChild_1 ci_0 ?_
  refine aw_aload_n dL_yesChild_2 rfl ?_
  refine aw_iload_n dL_yesChild_3 rfl ?_
  refine aw_iload_n dL_yesChild_4 rfl ?_
  refine aw_catchV (as := [.int v1, .int v2]) (rst := [.int 0, .ref v3]) (nm := "java/lang/IndexOutOfBoundsException") (k := 4) (len := 2) (ls' := [(0, .ref v0), (1, .int v1), (2, .int v2), (3, .ref v3)]) k_X8_yesChild l_L_90 i_X8_yesChild s_X8_yesChild rfl o1 dL_yesChild_5 rfl (Nat.le_of_ble_eq_true rfl) hbc hbs hC rfl [] (0, 10, 13, 19) [] rfl ?_ (by decide) (by decide) cl_L_19 ca_IndexOutOfBoundsException (Or.inr ⟨dL_yesChild_13, rfl⟩) (by decide) ?_ kk
  · intro z hz
    cases hz
  · intro q hq
    simp only [List.mem_cons, List.not_mem_nil, or_false] at hq
    rcases hq with rfl | rfl | rfl | rfl
    · exact List.mem_filter.mpr ⟨by simp, rfl⟩
    · exact List.mem_filter.mpr ⟨by simp, rfl⟩
    · exact List.mem_filter.mpr ⟨by simp, rfl⟩
    · exact List.mem_filter.mpr ⟨by simp, rfl⟩
theorem bL_yesChild_8 {d mc ms : Nat} {al : Bool} {bc bs : Nat} {Γ : am_G} {I : am_I} {L : am_L} {Q : am_Q} {v0 : Nat} {v1 : Int32} {v2 : Int32} {v3 : Nat} {w0 : Nat} {w1 : Int32} {w2 : Int32} {n_w0 : Nat} (a1 : am_ar Γ w0 4 n_w0 0) (i2 : vp_in w1 n_w0) (kk : am_W m_L_yesChild d mc ms al bc bs 17 [(0, .ref v0), (1, .int v1), (2, .int v2), (3, .ref v3)] [] Γ I (am_ul L w0 (w1.toNatClampNeg) (w2.toInt64)) Q) : am_W m_L_yesChild d mc ms al bc bs 8 [(0, .ref v0), (1, .int v1), (2, .int v2), (3, .ref v3)] [.int w2, .int w1, .ref w0] Γ I L Q := by
  refine aw_i2l dL_yesChild_8 ?_
  refine aw_last dL_yesChild_9 a1 i2 ?_
  exact aw_goto dL_yesChild_10 (by decide) kk
theorem bL_yesChild_15 {d mc ms : Nat} {al : Bool} {bc bs : Nat} {Γ : am_G} {I : am_I} {L : am_L} {Q : am_Q} {v0 : Nat} {v1 : Int32} {v2 : Int32} {v3 : Nat} (hq : Q (.inl (some (.int 1))) Γ I L) : am_W m_L_yesChild d mc ms al bc bs 15 [(0, .ref v0), (1, .int v1), (2, .int v2), (3, .ref v3)] [] Γ I L Q := by
  refine aw_iconst dL_yesChild_15 ci_1 ?_
  exact aw_iret dL_yesChild_16 rfl hq
theorem bL_yesChild_17 {d mc ms : Nat} {al : Bool} {bc bs : Nat} {Γ : am_G} {I : am_I} {L : am_L} {Q : am_Q} {v0 : Nat} {v1 : Int32} {v2 : Int32} {v3 : Nat} (hq : Q (.inl (some (.int 0))) Γ I L) : am_W m_L_yesChild d mc ms al bc bs 17 [(0, .ref v0), (1, .int v1), (2, .int v2), (3, .ref v3)] [] Γ I L Q := by
  refine aw_iconst dL_yesChild_17 ci_0 ?_
  exact aw_iret dL_yesChild_18 rfl hq
theorem dL_noChild_0 : decode cL_noChild 0 = .ok (.aload_n 3, 1) := by decide +kernel
theorem dL_noChild_1 : decode cL_noChild 1 = .ok (.iconst 0, 1) := by decide +kernel
theorem dL_noChild_2 : decode cL_noChild 2 = .ok (.aload_n 0, 1) := by decide +kernel
theorem dL_noChild_3 : decode cL_noChild 3 = .ok (.iload_n 1, 1) := by decide +kernel
theorem dL_noChild_4 : decode cL_noChild 4 = .ok (.iload_n 2, 1) := by decide +kernel
theorem dL_noChild_5 : decode cL_noChild 5 = .ok (.invokevirtual 93, 3) := by decide +kernel
theorem dL_noChild_8 : decode cL_noChild 8 = .ok (.i2l, 1) := by decide +kernel
theorem dL_noChild_9 : decode cL_noChild 9 = .ok (.lastore, 1) := by decide +kernel
theorem dL_noChild_10 : decode cL_noChild 10 = .ok (.goto 7, 3) := by decide +kernel
theorem dL_noChild_13 : decode cL_noChild 13 = .ok (.astore 4, 2) := by decide +kernel
theorem dL_noChild_15 : decode cL_noChild 15 = .ok (.iconst 1, 1) := by decide +kernel
theorem dL_noChild_16 : decode cL_noChild 16 = .ok (.ireturn, 1) := by decide +kernel
theorem dL_noChild_17 : decode cL_noChild 17 = .ok (.iconst 0, 1) := by decide +kernel
theorem dL_noChild_18 : decode cL_noChild 18 = .ok (.ireturn, 1) := by decide +kernel
theorem bL_noChild_0 {d mc ms : Nat} {al : Bool} {bc bs : Nat} {Γ : am_G} {I : am_I} {L : am_L} {Q : am_Q} {v0 : Nat} {v1 : Int32} {v2 : Int32} {v3 : Nat} {I' : am_I} {L' : am_L} {mc' : Nat} {ms' : Nat} {r : Int32} (o1 : am_ob Γ v0 8) (hbc : mc' ≤ bc) (hbs : ms' ≤ bs) (hC : am_E m_X8_noChild d mc' ms' [.ref v0, .int v1, .int v2] Γ I L (.inl (some (.int r))) I' L') (kk : am_W m_L_noChild (d + 1) mc ms al (bc - mc') (bs - ms') 8 [(0, .ref v0), (1, .int v1), (2, .int v2), (3, .ref v3)] [.int r, .int 0, .ref v3] Γ I' L' Q) : am_W m_L_noChild (d + 1) mc ms al bc bs 0 [(0, .ref v0), (1, .int v1), (2, .int v2), (3, .ref v3)] [] Γ I L Q := by
  refine aw_aload_n dL_noChild_0 rfl ?_
  refine aw_iconst dL_noChild_1 ci_0 ?_
  refine aw_aload_n dL_noChild_2 rfl ?_
  refine aw_iload_n dL_noChild_3 rfl ?_
  refine aw_iload_n dL_noChild_4 rfl ?_
  exact aw_askV (as := [.int v1, .int v2]) (rst := [.int 0, .ref v3]) k_X8_noChild l_L_93 i_X8_noChild s_X8_noChild rfl o1 dL_noChild_5 rfl (Nat.le_of_ble_eq_true rfl) hbc hbs hC rfl rfl kk
theorem bL_noChild_0c1 {d mc ms : Nat} {al : Bool} {bc bs : Nat} {Γ : am_G} {I : am_I} {L : am_L} {Q : am_Q} {v0 : Nat} {v1 : Int32} {v2 : Int32} {v3 : Nat} {I' : am_I} {L' : am_L} {mc' : Nat} {ms' : Nat} (o1 : am_ob Γ v0 8) (hbc : mc' ≤ bc) (hbs : ms' ≤ bs) (hC : am_E m_X8_noChild d mc' ms' [.ref v0, .int v1, .int v2] Γ I L (.inr "java/lang/IndexOutOfBoundsException") I' L') (kk : am_W m_L_noChild (d + 1) mc ms al (bc - mc') (bs - ms') 15 [(0, .ref v0), (1, .int v1), (2, .int v2), (3, .ref v3)] [] Γ I' L' Q) : am_W m_L_noChild (d + 1) mc ms al bc bs 0 [(0, .ref v0), (1, .int v1), (2, .int v2), (3, .ref v3)] [] Γ I L Q := by
  refine aw_aload_n dL_noChild_0 rfl ?_
  refine aw_iconst dL_noChild_1 ci_0 ?_
  refine aw_aload_n dL_noChild_2 rfl ?_
  refine aw_iload_n dL_noChild_3 rfl ?_
  refine aw_iload_n dL_noChild_4 rfl ?_
  refine aw_catchV (as := [.int v1, .int v2]) (rst := [.int 0, .ref v3]) (nm := "java/lang/IndexOutOfBoundsException") (k := 4) (len := 2) (ls' := [(0, .ref v0), (1, .int v1), (2, .int v2), (3, .ref v3)]) k_X8_noChild l_L_93 i_X8_noChild s_X8_noChild rfl o1 dL_noChild_5 rfl (Nat.le_of_ble_eq_true rfl) hbc hbs hC rfl [] (0, 10, 13, 19) [] rfl ?_ (by decide) (by decide) cl_L_19 ca_IndexOutOfBoundsException (Or.inr ⟨dL_noChild_13, rfl⟩) (by decide) ?_ kk
  · intro z hz
    cases hz
  · intro q hq
    simp only [List.mem_cons, List.not_mem_nil, or_false] at hq
    rcases hq with rfl | rfl | rfl | rfl
    · exact List.mem_filter.mpr ⟨by simp, rfl⟩
    · exact List.mem_filter.mpr ⟨by simp, rfl⟩
    · exact List.mem_filter.mpr ⟨by simp, rfl⟩
    · exact List.mem_filter.mpr ⟨by simp, rfl⟩
theorem bL_noChild_8 {d mc ms : Nat} {al : Bool} {bc bs : Nat} {Γ : am_G} {I : am_I} {L : am_L} {Q : am_Q} {v0 : Nat} {v1 : Int32} {v2 : Int32} {v3 : Nat} {w0 : Nat} {w1 : Int32} {w2 : Int32} {n_w0 : Nat} (a1 : am_ar Γ w0 4 n_w0 0) (i2 : vp_in w1 n_w0) (kk : am_W m_L_noChild d mc ms al bc bs 17 [(0, .ref v0), (1, .int v1), (2, .int v2), (3, .ref v3)] [] Γ I (am_ul L w0 (w1.toNatClampNeg) (w2.toInt64)) Q) : am_W m_L_noChild d mc ms al bc bs 8 [(0, .ref v0), (1, .int v1), (2, .int v2), (3, .ref v3)] [.int w2, .int w1, .ref w0] Γ I L Q := by
  refine aw_i2l dL_noChild_8 ?_
  refine aw_last dL_noChild_9 a1 i2 ?_
  exact aw_goto dL_noChild_10 (by decide) kk
theorem bL_noChild_15 {d mc ms : Nat} {al : Bool} {bc bs : Nat} {Γ : am_G} {I : am_I} {L : am_L} {Q : am_Q} {v0 : Nat} {v1 : Int32} {v2 : Int32} {v3 : Nat} (hq : Q (.inl (some (.int 1))) Γ I L) : am_W m_L_noChild d mc ms al bc bs 15 [(0, .ref v0), (1, .int v1), (2, .int v2), (3, .ref v3)] [] Γ I L Q := by
  refine aw_iconst dL_noChild_15 ci_1 ?_
  exact aw_iret dL_noChild_16 rfl hq
theorem bL_noChild_17 {d mc ms : Nat} {al : Bool} {bc bs : Nat} {Γ : am_G} {I : am_I} {L : am_L} {Q : am_Q} {v0 : Nat} {v1 : Int32} {v2 : Int32} {v3 : Nat} (hq : Q (.inl (some (.int 0))) Γ I L) : am_W m_L_noChild d mc ms al bc bs 17 [(0, .ref v0), (1, .int v1), (2, .int v2), (3, .ref v3)] [] Γ I L Q := by
  refine aw_iconst dL_noChild_17 ci_0 ?_
  exact aw_iret dL_noChild_18 rfl hq
theorem dL_typesAt_0 : decode cL_typesAt 0 = .ok (.aload_n 3, 1) := by decide +kernel
theorem dL_typesAt_1 : decode cL_typesAt 1 = .ok (.iconst 0, 1) := by decide +kernel
theorem dL_typesAt_2 : decode cL_typesAt 2 = .ok (.aload_n 0, 1) := by decide +kernel
theorem dL_typesAt_3 : decode cL_typesAt 3 = .ok (.iload_n 1, 1) := by decide +kernel
theorem dL_typesAt_4 : decode cL_typesAt 4 = .ok (.iload_n 2, 1) := by decide +kernel
theorem dL_typesAt_5 : decode cL_typesAt 5 = .ok (.invokevirtual 96, 3) := by decide +kernel
theorem dL_typesAt_8 : decode cL_typesAt 8 = .ok (.i2l, 1) := by decide +kernel
theorem dL_typesAt_9 : decode cL_typesAt 9 = .ok (.lastore, 1) := by decide +kernel
theorem dL_typesAt_10 : decode cL_typesAt 10 = .ok (.goto 7, 3) := by decide +kernel
theorem dL_typesAt_13 : decode cL_typesAt 13 = .ok (.astore 4, 2) := by decide +kernel
theorem dL_typesAt_15 : decode cL_typesAt 15 = .ok (.iconst 1, 1) := by decide +kernel
theorem dL_typesAt_16 : decode cL_typesAt 16 = .ok (.ireturn, 1) := by decide +kernel
theorem dL_typesAt_17 : decode cL_typesAt 17 = .ok (.iconst 0, 1) := by decide +kernel
theorem dL_typesAt_18 : decode cL_typesAt 18 = .ok (.ireturn, 1) := by decide +kernel
theorem bL_typesAt_0 {d mc ms : Nat} {al : Bool} {bc bs : Nat} {Γ : am_G} {I : am_I} {L : am_L} {Q : am_Q} {v0 : Nat} {v1 : Int32} {v2 : Int32} {v3 : Nat} {I' : am_I} {L' : am_L} {mc' : Nat} {ms' : Nat} {r : Int32} (o1 : am_ob Γ v0 8) (hbc : mc' ≤ bc) (hbs : ms' ≤ bs) (hC : am_E m_X8_typesAt d mc' ms' [.ref v0, .int v1, .int v2] Γ I L (.inl (some (.int r))) I' L') (kk : am_W m_L_typesAt (d + 1) mc ms al (bc - mc') (bs - ms') 8 [(0, .ref v0), (1, .int v1), (2, .int v2), (3, .ref v3)] [.int r, .int 0, .ref v3] Γ I' L' Q) : am_W m_L_typesAt (d + 1) mc ms al bc bs 0 [(0, .ref v0), (1, .int v1), (2, .int v2), (3, .ref v3)] [] Γ I L Q := by
  refine aw_aload_n dL_typesAt_0 rfl ?_
  refine aw_iconst dL_typesAt_1 ci_0 ?_
  refine aw_aload_n dL_typesAt_2 rfl ?_
  refine aw_iload_n dL_typesAt_3 rfl ?_
  refine aw_iload_n dL_typesAt_4 rfl ?_
  exact aw_askV (as := [.int v1, .int v2]) (rst := [.int 0, .ref v3]) k_X8_typesAt l_L_96 i_X8_typesAt s_X8_typesAt rfl o1 dL_typesAt_5 rfl (Nat.le_of_ble_eq_true rfl) hbc hbs hC rfl rfl kk
theorem bL_typesAt_0c1 {d mc ms : Nat} {al : Bool} {bc bs : Nat} {Γ : am_G} {I : am_I} {L : am_L} {Q : am_Q} {v0 : Nat} {v1 : Int32} {v2 : Int32} {v3 : Nat} {I' : am_I} {L' : am_L} {mc' : Nat} {ms' : Nat} (o1 : am_ob Γ v0 8) (hbc : mc' ≤ bc) (hbs : ms' ≤ bs) (hC : am_E m_X8_typesAt d mc' ms' [.ref v0, .int v1, .int v2] Γ I L (.inr "java/lang/IndexOutOfBoundsException") I' L') (kk : am_W m_L_typesAt (d + 1) mc ms al (bc - mc') (bs - ms') 15 [(0, .ref v0), (1, .int v1), (2, .int v2), (3, .ref v3)] [] Γ I' L' Q) : am_W m_L_typesAt (d + 1) mc ms al bc bs 0 [(0, .ref v0), (1, .int v1), (2, .int v2), (3, .ref v3)] [] Γ I L Q := by
  refine aw_aload_n dL_typesAt_0 rfl ?_
  refine aw_iconst dL_typesAt_1 ci_0 ?_
  refine aw_aload_n dL_typesAt_2 rfl ?_
  refine aw_iload_n dL_typesAt_3 rfl ?_
  refine aw_iload_n dL_typesAt_4 rfl ?_
  refine aw_catchV (as := [.int v1, .int v2]) (rst := [.int 0, .ref v3]) (nm := "java/lang/IndexOutOfBoundsException") (k := 4) (len := 2) (ls' := [(0, .ref v0), (1, .int v1), (2, .int v2), (3, .ref v3)]) k_X8_typesAt l_L_96 i_X8_typesAt s_X8_typesAt rfl o1 dL_typesAt_5 rfl (Nat.le_of_ble_eq_true rfl) hbc hbs hC rfl [] (0, 10, 13, 19) [] rfl ?_ (by decide) (by decide) cl_L_19 ca_IndexOutOfBoundsException (Or.inr ⟨dL_typesAt_13, rfl⟩) (by decide) ?_ kk
  · intro z hz
    cases hz
  · intro q hq
    simp only [List.mem_cons, List.not_mem_nil, or_false] at hq
    rcases hq with rfl | rfl | rfl | rfl
    · exact List.mem_filter.mpr ⟨by simp, rfl⟩
    · exact List.mem_filter.mpr ⟨by simp, rfl⟩
    · exact List.mem_filter.mpr ⟨by simp, rfl⟩
    · exact List.mem_filter.mpr ⟨by simp, rfl⟩
theorem bL_typesAt_8 {d mc ms : Nat} {al : Bool} {bc bs : Nat} {Γ : am_G} {I : am_I} {L : am_L} {Q : am_Q} {v0 : Nat} {v1 : Int32} {v2 : Int32} {v3 : Nat} {w0 : Nat} {w1 : Int32} {w2 : Int32} {n_w0 : Nat} (a1 : am_ar Γ w0 4 n_w0 0) (i2 : vp_in w1 n_w0) (kk : am_W m_L_typesAt d mc ms al bc bs 17 [(0, .ref v0), (1, .int v1), (2, .int v2), (3, .ref v3)] [] Γ I (am_ul L w0 (w1.toNatClampNeg) (w2.toInt64)) Q) : am_W m_L_typesAt d mc ms al bc bs 8 [(0, .ref v0), (1, .int v1), (2, .int v2), (3, .ref v3)] [.int w2, .int w1, .ref w0] Γ I L Q := by
  refine aw_i2l dL_typesAt_8 ?_
  refine aw_last dL_typesAt_9 a1 i2 ?_
  exact aw_goto dL_typesAt_10 (by decide) kk
theorem bL_typesAt_15 {d mc ms : Nat} {al : Bool} {bc bs : Nat} {Γ : am_G} {I : am_I} {L : am_L} {Q : am_Q} {v0 : Nat} {v1 : Int32} {v2 : Int32} {v3 : Nat} (hq : Q (.inl (some (.int 1))) Γ I L) : am_W m_L_typesAt d mc ms al bc bs 15 [(0, .ref v0), (1, .int v1), (2, .int v2), (3, .ref v3)] [] Γ I L Q := by
  refine aw_iconst dL_typesAt_15 ci_1 ?_
  exact aw_iret dL_typesAt_16 rfl hq
theorem bL_typesAt_17 {d mc ms : Nat} {al : Bool} {bc bs : Nat} {Γ : am_G} {I : am_I} {L : am_L} {Q : am_Q} {v0 : Nat} {v1 : Int32} {v2 : Int32} {v3 : Nat} (hq : Q (.inl (some (.int 0))) Γ I L) : am_W m_L_typesAt d mc ms al bc bs 17 [(0, .ref v0), (1, .int v1), (2, .int v2), (3, .ref v3)] [] Γ I L Q := by
  refine aw_iconst dL_typesAt_17 ci_0 ?_
  exact aw_iret dL_typesAt_18 rfl hq
theorem dL_leafOf_0 : decode cL_leafOf 0 = .ok (.aload_n 3, 1) := by decide +kernel
theorem dL_leafOf_1 : decode cL_leafOf 1 = .ok (.iconst 0, 1) := by decide +kernel
theorem dL_leafOf_2 : decode cL_leafOf 2 = .ok (.aload_n 0, 1) := by decide +kernel
theorem dL_leafOf_3 : decode cL_leafOf 3 = .ok (.iload_n 1, 1) := by decide +kernel
theorem dL_leafOf_4 : decode cL_leafOf 4 = .ok (.iload_n 2, 1) := by decide +kernel
theorem dL_leafOf_5 : decode cL_leafOf 5 = .ok (.invokevirtual 99, 3) := by decide +kernel
theorem dL_leafOf_8 : decode cL_leafOf 8 = .ok (.i2l, 1) := by decide +kernel
theorem dL_leafOf_9 : decode cL_leafOf 9 = .ok (.lastore, 1) := by decide +kernel
theorem dL_leafOf_10 : decode cL_leafOf 10 = .ok (.goto 7, 3) := by decide +kernel
theorem dL_leafOf_13 : decode cL_leafOf 13 = .ok (.astore 4, 2) := by decide +kernel
theorem dL_leafOf_15 : decode cL_leafOf 15 = .ok (.iconst 1, 1) := by decide +kernel
theorem dL_leafOf_16 : decode cL_leafOf 16 = .ok (.ireturn, 1) := by decide +kernel
theorem dL_leafOf_17 : decode cL_leafOf 17 = .ok (.iconst 0, 1) := by decide +kernel
theorem dL_leafOf_18 : decode cL_leafOf 18 = .ok (.ireturn, 1) := by decide +kernel
theorem bL_leafOf_0 {d mc ms : Nat} {al : Bool} {bc bs : Nat} {Γ : am_G} {I : am_I} {L : am_L} {Q : am_Q} {v0 : Nat} {v1 : Int32} {v2 : Int32} {v3 : Nat} {I' : am_I} {L' : am_L} {mc' : Nat} {ms' : Nat} {r : Int32} (o1 : am_ob Γ v0 8) (hbc : mc' ≤ bc) (hbs : ms' ≤ bs) (hC : am_E m_X8_leafOf d mc' ms' [.ref v0, .int v1, .int v2] Γ I L (.inl (some (.int r))) I' L') (kk : am_W m_L_leafOf (d + 1) mc ms al (bc - mc') (bs - ms') 8 [(0, .ref v0), (1, .int v1), (2, .int v2), (3, .ref v3)] [.int r, .int 0, .ref v3] Γ I' L' Q) : am_W m_L_leafOf (d + 1) mc ms al bc bs 0 [(0, .ref v0), (1, .int v1), (2, .int v2), (3, .ref v3)] [] Γ I L Q := by
  refine aw_aload_n dL_leafOf_0 rfl ?_
  refine aw_iconst dL_leafOf_1 ci_0 ?_
  refine aw_aload_n dL_leafOf_2 rfl ?_
  refine aw_iload_n dL_leafOf_3 rfl ?_
  refine aw_iload_n dL_leafOf_4 rfl ?_
  exact aw_askV (as := [.int v1, .int v2]) (rst := [.int 0, .ref v3]) k_X8_leafOf l_L_99 i_X8_leafOf s_X8_leafOf rfl o1 dL_leafOf_5 rfl (Nat.le_of_ble_eq_true rfl) hbc hbs hC rfl rfl kk
theorem bL_leafOf_0c1 {d mc ms : Nat} {al : Bool} {bc bs : Nat} {Γ : am_G} {I : am_I} {L : am_L} {Q : am_Q} {v0 : Nat} {v1 : Int32} {v2 : Int32} {v3 : Nat} {I' : am_I} {L' : am_L} {mc' : Nat} {ms' : Nat} (o1 : am_ob Γ v0 8) (hbc : mc' ≤ bc) (hbs : ms' ≤ bs) (hC : am_E m_X8_leafOf d mc' ms' [.ref v0, .int v1, .int v2] Γ I L (.inr "java/lang/IndexOutOfBoundsException") I' L') (kk : am_W m_L_leafOf (d + 1) mc ms al (bc - mc') (bs - ms') 15 [(0, .ref v0), (1, .int v1), (2, .int v2), (3, .ref v3)] [] Γ I' L' Q) : am_W m_L_leafOf (d + 1) mc ms al bc bs 0 [(0, .ref v0), (1, .int v1), (2, .int v2), (3, .ref v3)] [] Γ I L Q := by
  refine aw_aload_n dL_leafOf_0 rfl ?_
  refine aw_iconst dL_leafOf_1 ci_0 ?_
  refine aw_aload_n dL_leafOf_2 rfl ?_
  refine aw_iload_n dL_leafOf_3 rfl ?_
  refine aw_iload_n dL_leafOf_4 rfl ?_
  refine aw_catchV (as := [.int v1, .int v2]) (rst := [.int 0, .ref v3]) (nm := "java/lang/IndexOutOfBoundsException") (k := 4) (len := 2) (ls' := [(0, .ref v0), (1, .int v1), (2, .int v2), (3, .ref v3)]) k_X8_leafOf l_L_99 i_X8_leafOf s_X8_leafOf rfl o1 dL_leafOf_5 rfl (Nat.le_of_ble_eq_true rfl) hbc hbs hC rfl [] (0, 10, 13, 19) [] rfl ?_ (by decide) (by decide) cl_L_19 ca_IndexOutOfBoundsException (Or.inr ⟨dL_leafOf_13, rfl⟩) (by decide) ?_ kk
  · intro z hz
    cases hz
  · intro q hq
    simp only [List.mem_cons, List.not_mem_nil, or_false] at hq
    rcases hq with rfl | rfl | rfl | rfl
    · exact List.mem_filter.mpr ⟨by simp, rfl⟩
    · exact List.mem_filter.mpr ⟨by simp, rfl⟩
    · exact List.mem_filter.mpr ⟨by simp, rfl⟩
    · exact List.mem_filter.mpr ⟨by simp, rfl⟩
theorem bL_leafOf_8 {d mc ms : Nat} {al : Bool} {bc bs : Nat} {Γ : am_G} {I : am_I} {L : am_L} {Q : am_Q} {v0 : Nat} {v1 : Int32} {v2 : Int32} {v3 : Nat} {w0 : Nat} {w1 : Int32} {w2 : Int32} {n_w0 : Nat} (a1 : am_ar Γ w0 4 n_w0 0) (i2 : vp_in w1 n_w0) (kk : am_W m_L_leafOf d mc ms al bc bs 17 [(0, .ref v0), (1, .int v1), (2, .int v2), (3, .ref v3)] [] Γ I (am_ul L w0 (w1.toNatClampNeg) (w2.toInt64)) Q) : am_W m_L_leafOf d mc ms al bc bs 8 [(0, .ref v0), (1, .int v1), (2, .int v2), (3, .ref v3)] [.int w2, .int w1, .ref w0] Γ I L Q := by
  refine aw_i2l dL_leafOf_8 ?_
  refine aw_last dL_leafOf_9 a1 i2 ?_
  exact aw_goto dL_leafOf_10 (by decide) kk
theorem bL_leafOf_15 {d mc ms : Nat} {al : Bool} {bc bs : Nat} {Γ : am_G} {I : am_I} {L : am_L} {Q : am_Q} {v0 : Nat} {v1 : Int32} {v2 : Int32} {v3 : Nat} (hq : Q (.inl (some (.int 1))) Γ I L) : am_W m_L_leafOf d mc ms al bc bs 15 [(0, .ref v0), (1, .int v1), (2, .int v2), (3, .ref v3)] [] Γ I L Q := by
  refine aw_iconst dL_leafOf_15 ci_1 ?_
  exact aw_iret dL_leafOf_16 rfl hq
theorem bL_leafOf_17 {d mc ms : Nat} {al : Bool} {bc bs : Nat} {Γ : am_G} {I : am_I} {L : am_L} {Q : am_Q} {v0 : Nat} {v1 : Int32} {v2 : Int32} {v3 : Nat} (hq : Q (.inl (some (.int 0))) Γ I L) : am_W m_L_leafOf d mc ms al bc bs 17 [(0, .ref v0), (1, .int v1), (2, .int v2), (3, .ref v3)] [] Γ I L Q := by
  refine aw_iconst dL_leafOf_17 ci_0 ?_
  exact aw_iret dL_leafOf_18 rfl hq
theorem dL_chargedToll_0 : decode cL_chargedToll 0 = .ok (.aload_n 3, 1) := by decide +kernel
theorem dL_chargedToll_1 : decode cL_chargedToll 1 = .ok (.iconst 0, 1) := by decide +kernel
theorem dL_chargedToll_2 : decode cL_chargedToll 2 = .ok (.aload_n 0, 1) := by decide +kernel
theorem dL_chargedToll_3 : decode cL_chargedToll 3 = .ok (.iload_n 1, 1) := by decide +kernel
theorem dL_chargedToll_4 : decode cL_chargedToll 4 = .ok (.iload_n 2, 1) := by decide +kernel
theorem dL_chargedToll_5 : decode cL_chargedToll 5 = .ok (.invokevirtual 102, 3) := by decide +kernel
theorem dL_chargedToll_8 : decode cL_chargedToll 8 = .ok (.i2l, 1) := by decide +kernel
theorem dL_chargedToll_9 : decode cL_chargedToll 9 = .ok (.lastore, 1) := by decide +kernel
theorem dL_chargedToll_10 : decode cL_chargedToll 10 = .ok (.goto 7, 3) := by decide +kernel
theorem dL_chargedToll_13 : decode cL_chargedToll 13 = .ok (.astore 4, 2) := by decide +kernel
theorem dL_chargedToll_15 : decode cL_chargedToll 15 = .ok (.iconst 1, 1) := by decide +kernel
theorem dL_chargedToll_16 : decode cL_chargedToll 16 = .ok (.ireturn, 1) := by decide +kernel
theorem dL_chargedToll_17 : decode cL_chargedToll 17 = .ok (.iconst 0, 1) := by decide +kernel
theorem dL_chargedToll_18 : decode cL_chargedToll 18 = .ok (.ireturn, 1) := by decide +kernel
theorem bL_chargedToll_0 {d mc ms : Nat} {al : Bool} {bc bs : Nat} {Γ : am_G} {I : am_I} {L : am_L} {Q : am_Q} {v0 : Nat} {v1 : Int32} {v2 : Int32} {v3 : Nat} {I' : am_I} {L' : am_L} {mc' : Nat} {ms' : Nat} {r : Int32} (o1 : am_ob Γ v0 8) (hbc : mc' ≤ bc) (hbs : ms' ≤ bs) (hC : am_E m_X8_chargedToll d mc' ms' [.ref v0, .int v1, .int v2] Γ I L (.inl (some (.int r))) I' L') (kk : am_W m_L_chargedToll (d + 1) mc ms al (bc - mc') (bs - ms') 8 [(0, .ref v0), (1, .int v1), (2, .int v2), (3, .ref v3)] [.int r, .int 0, .ref v3] Γ I' L' Q) : am_W m_L_chargedToll (d + 1) mc ms al bc bs 0 [(0, .ref v0), (1, .int v1), (2, .int v2), (3, .ref v3)] [] Γ I L Q := by
  refine aw_aload_n dL_chargedToll_0 rfl ?_
  refine aw_iconst dL_chargedToll_1 ci_0 ?_
  refine aw_aload_n dL_chargedToll_2 rfl ?_
  refine aw_iload_n dL_chargedToll_3 rfl ?_
  refine aw_iload_n dL_chargedToll_4 rfl ?_
  exact aw_askV (as := [.int v1, .int v2]) (rst := [.int 0, .ref v3]) k_X8_chargedToll l_L_102 i_X8_chargedToll s_X8_chargedToll rfl o1 dL_chargedToll_5 rfl (Nat.le_of_ble_eq_true rfl) hbc hbs hC rfl rfl kk
theorem bL_chargedToll_0c1 {d mc ms : Nat} {al : Bool} {bc bs : Nat} {Γ : am_G} {I : am_I} {L : am_L} {Q : am_Q} {v0 : Nat} {v1 : Int32} {v2 : Int32} {v3 : Nat} {I' : am_I} {L' : am_L} {mc' : Nat} {ms' : Nat} (o1 : am_ob Γ v0 8) (hbc : mc' ≤ bc) (hbs : ms' ≤ bs) (hC : am_E m_X8_chargedToll d mc' ms' [.ref v0, .int v1, .int v2] Γ I L (.inr "java/lang/IndexOutOfBoundsException") I' L') (kk : am_W m_L_chargedToll (d + 1) mc ms al (bc - mc') (bs - ms') 15 [(0, .ref v0), (1, .int v1), (2, .int v2), (3, .ref v3)] [] Γ I' L' Q) : am_W m_L_chargedToll (d + 1) mc ms al bc bs 0 [(0, .ref v0), (1, .int v1), (2, .int v2), (3, .ref v3)] [] Γ I L Q := by
  refine aw_aload_n dL_chargedToll_0 rfl ?_
  refine aw_iconst dL_chargedToll_1 ci_0 ?_
  refine aw_aload_n dL_chargedToll_2 rfl ?_
  refine aw_iload_n dL_chargedToll_3 rfl ?_
  refine aw_iload_n dL_chargedToll_4 rfl ?_
  refine aw_catchV (as := [.int v1, .int v2]) (rst := [.int 0, .ref v3]) (nm := "java/lang/IndexOutOfBoundsException") (k := 4) (len := 2) (ls' := [(0, .ref v0), (1, .int v1), (2, .int v2), (3, .ref v3)]) k_X8_chargedToll l_L_102 i_X8_chargedToll s_X8_chargedToll rfl o1 dL_chargedToll_5 rfl (Nat.le_of_ble_eq_true rfl) hbc hbs hC rfl [] (0, 10, 13, 19) [] rfl ?_ (by decide) (by decide) cl_L_19 ca_IndexOutOfBoundsException (Or.inr ⟨dL_chargedToll_13, rfl⟩) (by decide) ?_ kk
  · intro z hz
    cases hz
  · intro q hq
    simp only [List.mem_cons, List.not_mem_nil, or_false] at hq
    rcases hq with rfl | rfl | rfl | rfl
    · exact List.mem_filter.mpr ⟨by simp, rfl⟩
    · exact List.mem_filter.mpr ⟨by simp, rfl⟩
    · exact List.mem_filter.mpr ⟨by simp, rfl⟩
    · exact List.mem_filter.mpr ⟨by simp, rfl⟩
theorem bL_chargedToll_8 {d mc ms : Nat} {al : Bool} {bc bs : Nat} {Γ : am_G} {I : am_I} {L : am_L} {Q : am_Q} {v0 : Nat} {v1 : Int32} {v2 : Int32} {v3 : Nat} {w0 : Nat} {w1 : Int32} {w2 : Int32} {n_w0 : Nat} (a1 : am_ar Γ w0 4 n_w0 0) (i2 : vp_in w1 n_w0) (kk : am_W m_L_chargedToll d mc ms al bc bs 17 [(0, .ref v0), (1, .int v1), (2, .int v2), (3, .ref v3)] [] Γ I (am_ul L w0 (w1.toNatClampNeg) (w2.toInt64)) Q) : am_W m_L_chargedToll d mc ms al bc bs 8 [(0, .ref v0), (1, .int v1), (2, .int v2), (3, .ref v3)] [.int w2, .int w1, .ref w0] Γ I L Q := by
  refine aw_i2l dL_chargedToll_8 ?_
  refine aw_last dL_chargedToll_9 a1 i2 ?_
  exact aw_goto dL_chargedToll_10 (by decide) kk
theorem bL_chargedToll_15 {d mc ms : Nat} {al : Bool} {bc bs : Nat} {Γ : am_G} {I : am_I} {L : am_L} {Q : am_Q} {v0 : Nat} {v1 : Int32} {v2 : Int32} {v3 : Nat} (hq : Q (.inl (some (.int 1))) Γ I L) : am_W m_L_chargedToll d mc ms al bc bs 15 [(0, .ref v0), (1, .int v1), (2, .int v2), (3, .ref v3)] [] Γ I L Q := by
  refine aw_iconst dL_chargedToll_15 ci_1 ?_
  exact aw_iret dL_chargedToll_16 rfl hq
theorem bL_chargedToll_17 {d mc ms : Nat} {al : Bool} {bc bs : Nat} {Γ : am_G} {I : am_I} {L : am_L} {Q : am_Q} {v0 : Nat} {v1 : Int32} {v2 : Int32} {v3 : Nat} (hq : Q (.inl (some (.int 0))) Γ I L) : am_W m_L_chargedToll d mc ms al bc bs 17 [(0, .ref v0), (1, .int v1), (2, .int v2), (3, .ref v3)] [] Γ I L Q := by
  refine aw_iconst dL_chargedToll_17 ci_0 ?_
  exact aw_iret dL_chargedToll_18 rfl hq
theorem dL_pathCost_0 : decode cL_pathCost 0 = .ok (.aload_n 3, 1) := by decide +kernel
theorem dL_pathCost_1 : decode cL_pathCost 1 = .ok (.iconst 0, 1) := by decide +kernel
theorem dL_pathCost_2 : decode cL_pathCost 2 = .ok (.aload_n 0, 1) := by decide +kernel
theorem dL_pathCost_3 : decode cL_pathCost 3 = .ok (.iload_n 1, 1) := by decide +kernel
theorem dL_pathCost_4 : decode cL_pathCost 4 = .ok (.iload_n 2, 1) := by decide +kernel
theorem dL_pathCost_5 : decode cL_pathCost 5 = .ok (.invokevirtual 105, 3) := by decide +kernel
theorem dL_pathCost_8 : decode cL_pathCost 8 = .ok (.i2l, 1) := by decide +kernel
theorem dL_pathCost_9 : decode cL_pathCost 9 = .ok (.lastore, 1) := by decide +kernel
theorem dL_pathCost_10 : decode cL_pathCost 10 = .ok (.goto 7, 3) := by decide +kernel
theorem dL_pathCost_13 : decode cL_pathCost 13 = .ok (.astore 4, 2) := by decide +kernel
theorem dL_pathCost_15 : decode cL_pathCost 15 = .ok (.iconst 1, 1) := by decide +kernel
theorem dL_pathCost_16 : decode cL_pathCost 16 = .ok (.ireturn, 1) := by decide +kernel
theorem dL_pathCost_17 : decode cL_pathCost 17 = .ok (.iconst 0, 1) := by decide +kernel
theorem dL_pathCost_18 : decode cL_pathCost 18 = .ok (.ireturn, 1) := by decide +kernel
theorem bL_pathCost_0 {d mc ms : Nat} {al : Bool} {bc bs : Nat} {Γ : am_G} {I : am_I} {L : am_L} {Q : am_Q} {v0 : Nat} {v1 : Int32} {v2 : Int32} {v3 : Nat} {I' : am_I} {L' : am_L} {mc' : Nat} {ms' : Nat} {r : Int32} (o1 : am_ob Γ v0 8) (hbc : mc' ≤ bc) (hbs : ms' ≤ bs) (hC : am_E m_X8_pathCost d mc' ms' [.ref v0, .int v1, .int v2] Γ I L (.inl (some (.int r))) I' L') (kk : am_W m_L_pathCost (d + 1) mc ms al (bc - mc') (bs - ms') 8 [(0, .ref v0), (1, .int v1), (2, .int v2), (3, .ref v3)] [.int r, .int 0, .ref v3] Γ I' L' Q) : am_W m_L_pathCost (d + 1) mc ms al bc bs 0 [(0, .ref v0), (1, .int v1), (2, .int v2), (3, .ref v3)] [] Γ I L Q := by
  refine aw_aload_n dL_pathCost_0 rfl ?_
  refine aw_iconst dL_pathCost_1 ci_0 ?_
  refine aw_aload_n dL_pathCost_2 rfl ?_
  refine aw_iload_n dL_pathCost_3 rfl ?_
  refine aw_iload_n dL_pathCost_4 rfl ?_
  exact aw_askV (as := [.int v1, .int v2]) (rst := [.int 0, .ref v3]) k_X8_pathCost l_L_105 i_X8_pathCost s_X8_pathCost rfl o1 dL_pathCost_5 rfl (Nat.le_of_ble_eq_true rfl) hbc hbs hC rfl rfl kk
theorem bL_pathCost_0c1 {d mc ms : Nat} {al : Bool} {bc bs : Nat} {Γ : am_G} {I : am_I} {L : am_L} {Q : am_Q} {v0 : Nat} {v1 : Int32} {v2 : Int32} {v3 : Nat} {I' : am_I} {L' : am_L} {mc' : Nat} {ms' : Nat} (o1 : am_ob Γ v0 8) (hbc : mc' ≤ bc) (hbs : ms' ≤ bs) (hC : am_E m_X8_pathCost d mc' ms' [.ref v0, .int v1, .int v2] Γ I L (.inr "java/lang/IndexOutOfBoundsException") I' L') (kk : am_W m_L_pathCost (d + 1) mc ms al (bc - mc') (bs - ms') 15 [(0, .ref v0), (1, .int v1), (2, .int v2), (3, .ref v3)] [] Γ I' L' Q) : am_W m_L_pathCost (d + 1) mc ms al bc bs 0 [(0, .ref v0), (1, .int v1), (2, .int v2), (3, .ref v3)] [] Γ I L Q := by
  refine aw_aload_n dL_pathCost_0 rfl ?_
  refine aw_iconst dL_pathCost_1 ci_0 ?_
  refine aw_aload_n dL_pathCost_2 rfl ?_
  refine aw_iload_n dL_pathCost_3 rfl ?_
  refine aw_iload_n dL_pathCost_4 rfl ?_
  refine aw_catchV (as := [.int v1, .int v2]) (rst := [.int 0, .ref v3]) (nm := "java/lang/IndexOutOfBoundsException") (k := 4) (len := 2) (ls' := [(0, .ref v0), (1, .int v1), (2, .int v2), (3, .ref v3)]) k_X8_pathCost l_L_105 i_X8_pathCost s_X8_pathCost rfl o1 dL_pathCost_5 rfl (Nat.le_of_ble_eq_true rfl) hbc hbs hC rfl [] (0, 10, 13, 19) [] rfl ?_ (by decide) (by decide) cl_L_19 ca_IndexOutOfBoundsException (Or.inr ⟨dL_pathCost_13, rfl⟩) (by decide) ?_ kk
  · intro z hz
    cases hz
  · intro q hq
    simp only [List.mem_cons, List.not_mem_nil, or_false] at hq
    rcases hq with rfl | rfl | rfl | rfl
    · exact List.mem_filter.mpr ⟨by simp, rfl⟩
    · exact List.mem_filter.mpr ⟨by simp, rfl⟩
    · exact List.mem_filter.mpr ⟨by simp, rfl⟩
    · exact List.mem_filter.mpr ⟨by simp, rfl⟩
theorem bL_pathCost_8 {d mc ms : Nat} {al : Bool} {bc bs : Nat} {Γ : am_G} {I : am_I} {L : am_L} {Q : am_Q} {v0 : Nat} {v1 : Int32} {v2 : Int32} {v3 : Nat} {w0 : Nat} {w1 : Int32} {w2 : Int32} {n_w0 : Nat} (a1 : am_ar Γ w0 4 n_w0 0) (i2 : vp_in w1 n_w0) (kk : am_W m_L_pathCost d mc ms al bc bs 17 [(0, .ref v0), (1, .int v1), (2, .int v2), (3, .ref v3)] [] Γ I (am_ul L w0 (w1.toNatClampNeg) (w2.toInt64)) Q) : am_W m_L_pathCost d mc ms al bc bs 8 [(0, .ref v0), (1, .int v1), (2, .int v2), (3, .ref v3)] [.int w2, .int w1, .ref w0] Γ I L Q := by
  refine aw_i2l dL_pathCost_8 ?_
  refine aw_last dL_pathCost_9 a1 i2 ?_
  exact aw_goto dL_pathCost_10 (by decide) kk
theorem bL_pathCost_15 {d mc ms : Nat} {al : Bool} {bc bs : Nat} {Γ : am_G} {I : am_I} {L : am_L} {Q : am_Q} {v0 : Nat} {v1 : Int32} {v2 : Int32} {v3 : Nat} (hq : Q (.inl (some (.int 1))) Γ I L) : am_W m_L_pathCost d mc ms al bc bs 15 [(0, .ref v0), (1, .int v1), (2, .int v2), (3, .ref v3)] [] Γ I L Q := by
  refine aw_iconst dL_pathCost_15 ci_1 ?_
  exact aw_iret dL_pathCost_16 rfl hq
theorem bL_pathCost_17 {d mc ms : Nat} {al : Bool} {bc bs : Nat} {Γ : am_G} {I : am_I} {L : am_L} {Q : am_Q} {v0 : Nat} {v1 : Int32} {v2 : Int32} {v3 : Nat} (hq : Q (.inl (some (.int 0))) Γ I L) : am_W m_L_pathCost d mc ms al bc bs 17 [(0, .ref v0), (1, .int v1), (2, .int v2), (3, .ref v3)] [] Γ I L Q := by
  refine aw_iconst dL_pathCost_17 ci_0 ?_
  exact aw_iret dL_pathCost_18 rfl hq
theorem dL_errors_0 : decode cL_errors 0 = .ok (.aload_n 2, 1) := by decide +kernel
theorem dL_errors_1 : decode cL_errors 1 = .ok (.iconst 0, 1) := by decide +kernel
theorem dL_errors_2 : decode cL_errors 2 = .ok (.aload_n 0, 1) := by decide +kernel
theorem dL_errors_3 : decode cL_errors 3 = .ok (.iload_n 1, 1) := by decide +kernel
theorem dL_errors_4 : decode cL_errors 4 = .ok (.invokevirtual 108, 3) := by decide +kernel
theorem dL_errors_7 : decode cL_errors 7 = .ok (.i2l, 1) := by decide +kernel
theorem dL_errors_8 : decode cL_errors 8 = .ok (.lastore, 1) := by decide +kernel
theorem dL_errors_9 : decode cL_errors 9 = .ok (.goto 6, 3) := by decide +kernel
theorem dL_errors_12 : decode cL_errors 12 = .ok (.astore_n 3, 1) := by decide +kernel
theorem dL_errors_13 : decode cL_errors 13 = .ok (.iconst 1, 1) := by decide +kernel
theorem dL_errors_14 : decode cL_errors 14 = .ok (.ireturn, 1) := by decide +kernel
theorem dL_errors_15 : decode cL_errors 15 = .ok (.iconst 0, 1) := by decide +kernel
theorem dL_errors_16 : decode cL_errors 16 = .ok (.ireturn, 1) := by decide +kernel
theorem bL_errors_0 {d mc ms : Nat} {al : Bool} {bc bs : Nat} {Γ : am_G} {I : am_I} {L : am_L} {Q : am_Q} {v0 : Nat} {v1 : Int32} {v2 : Nat} {I' : am_I} {L' : am_L} {mc' : Nat} {ms' : Nat} {r : Int32} (o1 : am_ob Γ v0 8) (hbc : mc' ≤ bc) (hbs : ms' ≤ bs) (hC : am_E m_X8_errors d mc' ms' [.ref v0, .int v1] Γ I L (.inl (some (.int r))) I' L') (kk : am_W m_L_errors (d + 1) mc ms al (bc - mc') (bs - ms') 7 [(0, .ref v0), (1, .int v1), (2, .ref v2)] [.int r, .int 0, .ref v2] Γ I' L' Q) : am_W m_L_errors (d + 1) mc ms al bc bs 0 [(0, .ref v0), (1, .int v1), (2, .ref v2)] [] Γ I L Q := by
  refine aw_aload_n dL_errors_0 rfl ?_
  refine aw_iconst dL_errors_1 ci_0 ?_
  refine aw_aload_n dL_errors_2 rfl ?_
  refine aw_iload_n dL_errors_3 rfl ?_
  exact aw_askV (as := [.int v1]) (rst := [.int 0, .ref v2]) k_X8_errors l_L_108 i_X8_errors s_X8_errors rfl o1 dL_errors_4 rfl (Nat.le_of_ble_eq_true rfl) hbc hbs hC rfl rfl kk
theorem bL_errors_0c1 {d mc ms : Nat} {al : Bool} {bc bs : Nat} {Γ : am_G} {I : am_I} {L : am_L} {Q : am_Q} {v0 : Nat} {v1 : Int32} {v2 : Nat} {I' : am_I} {L' : am_L} {mc' : Nat} {ms' : Nat} (o1 : am_ob Γ v0 8) (hbc : mc' ≤ bc) (hbs : ms' ≤ bs) (hC : am_E m_X8_errors d mc' ms' [.ref v0, .int v1] Γ I L (.inr "java/lang/IndexOutOfBoundsException") I' L') (kk : am_W m_L_errors (d + 1) mc ms al (bc - mc') (bs - ms') 13 [(0, .ref v0), (1, .int v1), (2, .ref v2)] [] Γ I' L' Q) : am_W m_L_errors (d + 1) mc ms al bc bs 0 [(0, .ref v0), (1, .int v1), (2, .ref v2)] [] Γ I L Q := by
  refine aw_aload_n dL_errors_0 rfl ?_
  refine aw_iconst dL_errors_1 ci_0 ?_
  refine aw_aload_n dL_errors_2 rfl ?_
  refine aw_iload_n dL_errors_3 rfl ?_
  refine aw_catchV (as := [.int v1]) (rst := [.int 0, .ref v2]) (nm := "java/lang/IndexOutOfBoundsException") (k := 3) (len := 1) (ls' := [(0, .ref v0), (1, .int v1), (2, .ref v2)]) k_X8_errors l_L_108 i_X8_errors s_X8_errors rfl o1 dL_errors_4 rfl (Nat.le_of_ble_eq_true rfl) hbc hbs hC rfl [] (0, 9, 12, 19) [] rfl ?_ (by decide) (by decide) cl_L_19 ca_IndexOutOfBoundsException (Or.inl ⟨3, rfl, dL_errors_12, rfl⟩) (by decide) ?_ kk
  · intro z hz
    cases hz
  · intro q hq
    simp only [List.mem_cons, List.not_mem_nil, or_false] at hq
    rcases hq with rfl | rfl | rfl
    · exact List.mem_filter.mpr ⟨by simp, rfl⟩
    · exact List.mem_filter.mpr ⟨by simp, rfl⟩
    · exact List.mem_filter.mpr ⟨by simp, rfl⟩
theorem bL_errors_7 {d mc ms : Nat} {al : Bool} {bc bs : Nat} {Γ : am_G} {I : am_I} {L : am_L} {Q : am_Q} {v0 : Nat} {v1 : Int32} {v2 : Nat} {w0 : Nat} {w1 : Int32} {w2 : Int32} {n_w0 : Nat} (a1 : am_ar Γ w0 4 n_w0 0) (i2 : vp_in w1 n_w0) (kk : am_W m_L_errors d mc ms al bc bs 15 [(0, .ref v0), (1, .int v1), (2, .ref v2)] [] Γ I (am_ul L w0 (w1.toNatClampNeg) (w2.toInt64)) Q) : am_W m_L_errors d mc ms al bc bs 7 [(0, .ref v0), (1, .int v1), (2, .ref v2)] [.int w2, .int w1, .ref w0] Γ I L Q := by
  refine aw_i2l dL_errors_7 ?_
  refine aw_last dL_errors_8 a1 i2 ?_
  exact aw_goto dL_errors_9 (by decide) kk
theorem bL_errors_13 {d mc ms : Nat} {al : Bool} {bc bs : Nat} {Γ : am_G} {I : am_I} {L : am_L} {Q : am_Q} {v0 : Nat} {v1 : Int32} {v2 : Nat} (hq : Q (.inl (some (.int 1))) Γ I L) : am_W m_L_errors d mc ms al bc bs 13 [(0, .ref v0), (1, .int v1), (2, .ref v2)] [] Γ I L Q := by
  refine aw_iconst dL_errors_13 ci_1 ?_
  exact aw_iret dL_errors_14 rfl hq
theorem bL_errors_15 {d mc ms : Nat} {al : Bool} {bc bs : Nat} {Γ : am_G} {I : am_I} {L : am_L} {Q : am_Q} {v0 : Nat} {v1 : Int32} {v2 : Nat} (hq : Q (.inl (some (.int 0))) Γ I L) : am_W m_L_errors d mc ms al bc bs 15 [(0, .ref v0), (1, .int v1), (2, .ref v2)] [] Γ I L Q := by
  refine aw_iconst dL_errors_15 ci_0 ?_
  exact aw_iret dL_errors_16 rfl hq
theorem dL_work_0 : decode cL_work 0 = .ok (.aload_n 2, 1) := by decide +kernel
theorem dL_work_1 : decode cL_work 1 = .ok (.iconst 0, 1) := by decide +kernel
theorem dL_work_2 : decode cL_work 2 = .ok (.aload_n 0, 1) := by decide +kernel
theorem dL_work_3 : decode cL_work 3 = .ok (.iload_n 1, 1) := by decide +kernel
theorem dL_work_4 : decode cL_work 4 = .ok (.invokevirtual 111, 3) := by decide +kernel
theorem dL_work_7 : decode cL_work 7 = .ok (.i2l, 1) := by decide +kernel
theorem dL_work_8 : decode cL_work 8 = .ok (.lastore, 1) := by decide +kernel
theorem dL_work_9 : decode cL_work 9 = .ok (.goto 6, 3) := by decide +kernel
theorem dL_work_12 : decode cL_work 12 = .ok (.astore_n 3, 1) := by decide +kernel
theorem dL_work_13 : decode cL_work 13 = .ok (.iconst 1, 1) := by decide +kernel
theorem dL_work_14 : decode cL_work 14 = .ok (.ireturn, 1) := by decide +kernel
theorem dL_work_15 : decode cL_work 15 = .ok (.iconst 0, 1) := by decide +kernel
theorem dL_work_16 : decode cL_work 16 = .ok (.ireturn, 1) := by decide +kernel
theorem bL_work_0 {d mc ms : Nat} {al : Bool} {bc bs : Nat} {Γ : am_G} {I : am_I} {L : am_L} {Q : am_Q} {v0 : Nat} {v1 : Int32} {v2 : Nat} {I' : am_I} {L' : am_L} {mc' : Nat} {ms' : Nat} {r : Int32} (o1 : am_ob Γ v0 8) (hbc : mc' ≤ bc) (hbs : ms' ≤ bs) (hC : am_E m_X8_work d mc' ms' [.ref v0, .int v1] Γ I L (.inl (some (.int r))) I' L') (kk : am_W m_L_work (d + 1) mc ms al (bc - mc') (bs - ms') 7 [(0, .ref v0), (1, .int v1), (2, .ref v2)] [.int r, .int 0, .ref v2] Γ I' L' Q) : am_W m_L_work (d + 1) mc ms al bc bs 0 [(0, .ref v0), (1, .int v1), (2, .ref v2)] [] Γ I L Q := by
  refine aw_aload_n dL_work_0 rfl ?_
  refine aw_iconst dL_work_1 ci_0 ?_
  refine aw_aload_n dL_work_2 rfl ?_
  refine aw_iload_n dL_work_3 rfl ?_
  exact aw_askV (as := [.int v1]) (rst := [.int 0, .ref v2]) k_X8_work l_L_111 i_X8_work s_X8_work rfl o1 dL_work_4 rfl (Nat.le_of_ble_eq_true rfl) hbc hbs hC rfl rfl kk
theorem bL_work_0c1 {d mc ms : Nat} {al : Bool} {bc bs : Nat} {Γ : am_G} {I : am_I} {L : am_L} {Q : am_Q} {v0 : Nat} {v1 : Int32} {v2 : Nat} {I' : am_I} {L' : am_L} {mc' : Nat} {ms' : Nat} (o1 : am_ob Γ v0 8) (hbc : mc' ≤ bc) (hbs : ms' ≤ bs) (hC : am_E m_X8_work d mc' ms' [.ref v0, .int v1] Γ I L (.inr "java/lang/IndexOutOfBoundsException") I' L') (kk : am_W m_L_work (d + 1) mc ms al (bc - mc') (bs - ms') 13 [(0, .ref v0), (1, .int v1), (2, .ref v2)] [] Γ I' L' Q) : am_W m_L_work (d + 1) mc ms al bc bs 0 [(0, .ref v0), (1, .int v1), (2, .ref v2)] [] Γ I L Q := by
  refine aw_aload_n dL_work_0 rfl ?_
  refine aw_iconst dL_work_1 ci_0 ?_
  refine aw_aload_n dL_work_2 rfl ?_
  refine aw_iload_n dL_work_3 rfl ?_
  refine aw_catchV (as := [.int v1]) (rst := [.int 0, .ref v2]) (nm := "java/lang/IndexOutOfBoundsException") (k := 3) (len := 1) (ls' := [(0, .ref v0), (1, .int v1), (2, .ref v2)]) k_X8_work l_L_111 i_X8_work s_X8_work rfl o1 dL_work_4 rfl (Nat.le_of_ble_eq_true rfl) hbc hbs hC rfl [] (0, 9, 12, 19) [] rfl ?_ (by decide) (by decide) cl_L_19 ca_IndexOutOfBoundsException (Or.inl ⟨3, rfl, dL_work_12, rfl⟩) (by decide) ?_ kk
  · intro z hz
    cases hz
  · intro q hq
    simp only [List.mem_cons, List.not_mem_nil, or_false] at hq
    rcases hq with rfl | rfl | rfl
    · exact List.mem_filter.mpr ⟨by simp, rfl⟩
    · exact List.mem_filter.mpr ⟨by simp, rfl⟩
    · exact List.mem_filter.mpr ⟨by simp, rfl⟩
theorem bL_work_7 {d mc ms : Nat} {al : Bool} {bc bs : Nat} {Γ : am_G} {I : am_I} {L : am_L} {Q : am_Q} {v0 : Nat} {v1 : Int32} {v2 : Nat} {w0 : Nat} {w1 : Int32} {w2 : Int32} {n_w0 : Nat} (a1 : am_ar Γ w0 4 n_w0 0) (i2 : vp_in w1 n_w0) (kk : am_W m_L_work d mc ms al bc bs 15 [(0, .ref v0), (1, .int v1), (2, .ref v2)] [] Γ I (am_ul L w0 (w1.toNatClampNeg) (w2.toInt64)) Q) : am_W m_L_work d mc ms al bc bs 7 [(0, .ref v0), (1, .int v1), (2, .ref v2)] [.int w2, .int w1, .ref w0] Γ I L Q := by
  refine aw_i2l dL_work_7 ?_
  refine aw_last dL_work_8 a1 i2 ?_
  exact aw_goto dL_work_9 (by decide) kk
theorem bL_work_13 {d mc ms : Nat} {al : Bool} {bc bs : Nat} {Γ : am_G} {I : am_I} {L : am_L} {Q : am_Q} {v0 : Nat} {v1 : Int32} {v2 : Nat} (hq : Q (.inl (some (.int 1))) Γ I L) : am_W m_L_work d mc ms al bc bs 13 [(0, .ref v0), (1, .int v1), (2, .ref v2)] [] Γ I L Q := by
  refine aw_iconst dL_work_13 ci_1 ?_
  exact aw_iret dL_work_14 rfl hq
theorem bL_work_15 {d mc ms : Nat} {al : Bool} {bc bs : Nat} {Γ : am_G} {I : am_I} {L : am_L} {Q : am_Q} {v0 : Nat} {v1 : Int32} {v2 : Nat} (hq : Q (.inl (some (.int 0))) Γ I L) : am_W m_L_work d mc ms al bc bs 15 [(0, .ref v0), (1, .int v1), (2, .ref v2)] [] Γ I L Q := by
  refine aw_iconst dL_work_15 ci_0 ?_
  exact aw_iret dL_work_16 rfl hq
theorem dL_mischargeReason_0 : decode cL_mischargeReason 0 = .ok (.aload_n 3, 1) := by decide +kernel
theorem dL_mischargeReason_1 : decode cL_mischargeReason 1 = .ok (.iconst 0, 1) := by decide +kernel
theorem dL_mischargeReason_2 : decode cL_mischargeReason 2 = .ok (.aload_n 0, 1) := by decide +kernel
theorem dL_mischargeReason_3 : decode cL_mischargeReason 3 = .ok (.iload_n 1, 1) := by decide +kernel
theorem dL_mischargeReason_4 : decode cL_mischargeReason 4 = .ok (.iload_n 2, 1) := by decide +kernel
theorem dL_mischargeReason_5 : decode cL_mischargeReason 5 = .ok (.invokevirtual 114, 3) := by decide +kernel
theorem dL_mischargeReason_8 : decode cL_mischargeReason 8 = .ok (.i2l, 1) := by decide +kernel
theorem dL_mischargeReason_9 : decode cL_mischargeReason 9 = .ok (.lastore, 1) := by decide +kernel
theorem dL_mischargeReason_10 : decode cL_mischargeReason 10 = .ok (.goto 7, 3) := by decide +kernel
theorem dL_mischargeReason_13 : decode cL_mischargeReason 13 = .ok (.astore 4, 2) := by decide +kernel
theorem dL_mischargeReason_15 : decode cL_mischargeReason 15 = .ok (.iconst 1, 1) := by decide +kernel
theorem dL_mischargeReason_16 : decode cL_mischargeReason 16 = .ok (.ireturn, 1) := by decide +kernel
theorem dL_mischargeReason_17 : decode cL_mischargeReason 17 = .ok (.iconst 0, 1) := by decide +kernel
theorem dL_mischargeReason_18 : decode cL_mischargeReason 18 = .ok (.ireturn, 1) := by decide +kernel
theorem bL_mischargeReason_0 {d mc ms : Nat} {al : Bool} {bc bs : Nat} {Γ : am_G} {I : am_I} {L : am_L} {Q : am_Q} {v0 : Nat} {v1 : Int32} {v2 : Int32} {v3 : Nat} {I' : am_I} {L' : am_L} {mc' : Nat} {ms' : Nat} {r : Int32} (o1 : am_ob Γ v0 8) (hbc : mc' ≤ bc) (hbs : ms' ≤ bs) (hC : am_E m_X8_mischargeReason d mc' ms' [.ref v0, .int v1, .int v2] Γ I L (.inl (some (.int r))) I' L') (kk : am_W m_L_mischargeReason (d + 1) mc ms al (bc - mc') (bs - ms') 8 [(0, .ref v0), (1, .int v1), (2, .int v2), (3, .ref v3)] [.int r, .int 0, .ref v3] Γ I' L' Q) : am_W m_L_mischargeReason (d + 1) mc ms al bc bs 0 [(0, .ref v0), (1, .int v1), (2, .int v2), (3, .ref v3)] [] Γ I L Q := by
  refine aw_aload_n dL_mischargeReason_0 rfl ?_
  refine aw_iconst dL_mischargeReason_1 ci_0 ?_
  refine aw_aload_n dL_mischargeReason_2 rfl ?_
  refine aw_iload_n dL_mischargeReason_3 rfl ?_
  refine aw_iload_n dL_mischargeReason_4 rfl ?_
  exact aw_askV (as := [.int v1, .int v2]) (rst := [.int 0, .ref v3]) k_X8_mischargeReason l_L_114 i_X8_mischargeReason s_X8_mischargeReason rfl o1 dL_mischargeReason_5 rfl (Nat.le_of_ble_eq_true rfl) hbc hbs hC rfl rfl kk
theorem bL_mischargeReason_0c1 {d mc ms : Nat} {al : Bool} {bc bs : Nat} {Γ : am_G} {I : am_I} {L : am_L} {Q : am_Q} {v0 : Nat} {v1 : Int32} {v2 : Int32} {v3 : Nat} {I' : am_I} {L' : am_L} {mc' : Nat} {ms' : Nat} (o1 : am_ob Γ v0 8) (hbc : mc' ≤ bc) (hbs : ms' ≤ bs) (hC : am_E m_X8_mischargeReason d mc' ms' [.ref v0, .int v1, .int v2] Γ I L (.inr "java/lang/IndexOutOfBoundsException") I' L') (kk : am_W m_L_mischargeReason (d + 1) mc ms al (bc - mc') (bs - ms') 15 [(0, .ref v0), (1, .int v1), (2, .int v2), (3, .ref v3)] [] Γ I' L' Q) : am_W m_L_mischargeReason (d + 1) mc ms al bc bs 0 [(0, .ref v0), (1, .int v1), (2, .int v2), (3, .ref v3)] [] Γ I L Q := by
  refine aw_aload_n dL_mischargeReason_0 rfl ?_
  refine aw_iconst dL_mischargeReason_1 ci_0 ?_
  refine aw_aload_n dL_mischargeReason_2 rfl ?_
  refine aw_iload_n dL_mischargeReason_3 rfl ?_
  refine aw_iload_n dL_mischargeReason_4 rfl ?_
  refine aw_catchV (as := [.int v1, .int v2]) (rst := [.int 0, .ref v3]) (nm := "java/lang/IndexOutOfBoundsException") (k := 4) (len := 2) (ls' := [(0, .ref v0), (1, .int v1), (2, .int v2), (3, .ref v3)]) k_X8_mischargeReason l_L_114 i_X8_mischargeReason s_X8_mischargeReason rfl o1 dL_mischargeReason_5 rfl (Nat.le_of_ble_eq_true rfl) hbc hbs hC rfl [] (0, 10, 13, 19) [] rfl ?_ (by decide) (by decide) cl_L_19 ca_IndexOutOfBoundsException (Or.inr ⟨dL_mischargeReason_13, rfl⟩) (by decide) ?_ kk
  · intro z hz
    cases hz
  · intro q hq
    simp only [List.mem_cons, List.not_mem_nil, or_false] at hq
    rcases hq with rfl | rfl | rfl | rfl
    · exact List.mem_filter.mpr ⟨by simp, rfl⟩
    · exact List.mem_filter.mpr ⟨by simp, rfl⟩
    · exact List.mem_filter.mpr ⟨by simp, rfl⟩
    · exact List.mem_filter.mpr ⟨by simp, rfl⟩
theorem bL_mischargeReason_8 {d mc ms : Nat} {al : Bool} {bc bs : Nat} {Γ : am_G} {I : am_I} {L : am_L} {Q : am_Q} {v0 : Nat} {v1 : Int32} {v2 : Int32} {v3 : Nat} {w0 : Nat} {w1 : Int32} {w2 : Int32} {n_w0 : Nat} (a1 : am_ar Γ w0 4 n_w0 0) (i2 : vp_in w1 n_w0) (kk : am_W m_L_mischargeReason d mc ms al bc bs 17 [(0, .ref v0), (1, .int v1), (2, .int v2), (3, .ref v3)] [] Γ I (am_ul L w0 (w1.toNatClampNeg) (w2.toInt64)) Q) : am_W m_L_mischargeReason d mc ms al bc bs 8 [(0, .ref v0), (1, .int v1), (2, .int v2), (3, .ref v3)] [.int w2, .int w1, .ref w0] Γ I L Q := by
  refine aw_i2l dL_mischargeReason_8 ?_
  refine aw_last dL_mischargeReason_9 a1 i2 ?_
  exact aw_goto dL_mischargeReason_10 (by decide) kk
theorem bL_mischargeReason_15 {d mc ms : Nat} {al : Bool} {bc bs : Nat} {Γ : am_G} {I : am_I} {L : am_L} {Q : am_Q} {v0 : Nat} {v1 : Int32} {v2 : Int32} {v3 : Nat} (hq : Q (.inl (some (.int 1))) Γ I L) : am_W m_L_mischargeReason d mc ms al bc bs 15 [(0, .ref v0), (1, .int v1), (2, .int v2), (3, .ref v3)] [] Γ I L Q := by
  refine aw_iconst dL_mischargeReason_15 ci_1 ?_
  exact aw_iret dL_mischargeReason_16 rfl hq
theorem bL_mischargeReason_17 {d mc ms : Nat} {al : Bool} {bc bs : Nat} {Γ : am_G} {I : am_I} {L : am_L} {Q : am_Q} {v0 : Nat} {v1 : Int32} {v2 : Int32} {v3 : Nat} (hq : Q (.inl (some (.int 0))) Γ I L) : am_W m_L_mischargeReason d mc ms al bc bs 17 [(0, .ref v0), (1, .int v1), (2, .int v2), (3, .ref v3)] [] Γ I L Q := by
  refine aw_iconst dL_mischargeReason_17 ci_0 ?_
  exact aw_iret dL_mischargeReason_18 rfl hq
theorem dL_bestErrors_0 : decode cL_bestErrors 0 = .ok (.aload_n 3, 1) := by decide +kernel
theorem dL_bestErrors_1 : decode cL_bestErrors 1 = .ok (.iconst 0, 1) := by decide +kernel
theorem dL_bestErrors_2 : decode cL_bestErrors 2 = .ok (.aload_n 0, 1) := by decide +kernel
theorem dL_bestErrors_3 : decode cL_bestErrors 3 = .ok (.iload_n 1, 1) := by decide +kernel
theorem dL_bestErrors_4 : decode cL_bestErrors 4 = .ok (.iload_n 2, 1) := by decide +kernel
theorem dL_bestErrors_5 : decode cL_bestErrors 5 = .ok (.invokevirtual 117, 3) := by decide +kernel
theorem dL_bestErrors_8 : decode cL_bestErrors 8 = .ok (.i2l, 1) := by decide +kernel
theorem dL_bestErrors_9 : decode cL_bestErrors 9 = .ok (.lastore, 1) := by decide +kernel
theorem dL_bestErrors_10 : decode cL_bestErrors 10 = .ok (.goto 11, 3) := by decide +kernel
theorem dL_bestErrors_13 : decode cL_bestErrors 13 = .ok (.astore 4, 2) := by decide +kernel
theorem dL_bestErrors_15 : decode cL_bestErrors 15 = .ok (.iconst 1, 1) := by decide +kernel
theorem dL_bestErrors_16 : decode cL_bestErrors 16 = .ok (.ireturn, 1) := by decide +kernel
theorem dL_bestErrors_17 : decode cL_bestErrors 17 = .ok (.astore 4, 2) := by decide +kernel
theorem dL_bestErrors_19 : decode cL_bestErrors 19 = .ok (.iconst 2, 1) := by decide +kernel
theorem dL_bestErrors_20 : decode cL_bestErrors 20 = .ok (.ireturn, 1) := by decide +kernel
theorem dL_bestErrors_21 : decode cL_bestErrors 21 = .ok (.iconst 0, 1) := by decide +kernel
theorem dL_bestErrors_22 : decode cL_bestErrors 22 = .ok (.ireturn, 1) := by decide +kernel
theorem bL_bestErrors_0 {d mc ms : Nat} {al : Bool} {bc bs : Nat} {Γ : am_G} {I : am_I} {L : am_L} {Q : am_Q} {v0 : Nat} {v1 : Int32} {v2 : Int32} {v3 : Nat} {I' : am_I} {L' : am_L} {mc' : Nat} {ms' : Nat} {r : Int32} (o1 : am_ob Γ v0 8) (hbc : mc' ≤ bc) (hbs : ms' ≤ bs) (hC : am_E m_X8_bestErrors d mc' ms' [.ref v0, .int v1, .int v2] Γ I L (.inl (some (.int r))) I' L') (kk : am_W m_L_bestErrors (d + 1) mc ms al (bc - mc') (bs - ms') 8 [(0, .ref v0), (1, .int v1), (2, .int v2), (3, .ref v3)] [.int r, .int 0, .ref v3] Γ I' L' Q) : am_W m_L_bestErrors (d + 1) mc ms al bc bs 0 [(0, .ref v0), (1, .int v1), (2, .int v2), (3, .ref v3)] [] Γ I L Q := by
  refine aw_aload_n dL_bestErrors_0 rfl ?_
  refine aw_iconst dL_bestErrors_1 ci_0 ?_
  refine aw_aload_n dL_bestErrors_2 rfl ?_
  refine aw_iload_n dL_bestErrors_3 rfl ?_
  refine aw_iload_n dL_bestErrors_4 rfl ?_
  exact aw_askV (as := [.int v1, .int v2]) (rst := [.int 0, .ref v3]) k_X8_bestErrors l_L_117 i_X8_bestErrors s_X8_bestErrors rfl o1 dL_bestErrors_5 rfl (Nat.le_of_ble_eq_true rfl) hbc hbs hC rfl rfl kk
theorem bL_bestErrors_0c1 {d mc ms : Nat} {al : Bool} {bc bs : Nat} {Γ : am_G} {I : am_I} {L : am_L} {Q : am_Q} {v0 : Nat} {v1 : Int32} {v2 : Int32} {v3 : Nat} {I' : am_I} {L' : am_L} {mc' : Nat} {ms' : Nat} (o1 : am_ob Γ v0 8) (hbc : mc' ≤ bc) (hbs : ms' ≤ bs) (hC : am_E m_X8_bestErrors d mc' ms' [.ref v0, .int v1, .int v2] Γ I L (.inr "java/lang/IndexOutOfBoundsException") I' L') (kk : am_W m_L_bestErrors (d + 1) mc ms al (bc - mc') (bs - ms') 15 [(0, .ref v0), (1, .int v1), (2, .int v2), (3, .ref v3)] [] Γ I' L' Q) : am_W m_L_bestErrors (d + 1) mc ms al bc bs 0 [(0, .ref v0), (1, .int v1), (2, .int v2), (3, .ref v3)] [] Γ I L Q := by
  refine aw_aload_n dL_bestErrors_0 rfl ?_
  refine aw_iconst dL_bestErrors_1 ci_0 ?_
  refine aw_aload_n dL_bestErrors_2 rfl ?_
  refine aw_iload_n dL_bestErrors_3 rfl ?_
  refine aw_iload_n dL_bestErrors_4 rfl ?_
  refine aw_catchV (as := [.int v1, .int v2]) (rst := [.int 0, .ref v3]) (nm := "java/lang/IndexOutOfBoundsException") (k := 4) (len := 2) (ls' := [(0, .ref v0), (1, .int v1), (2, .int v2), (3, .ref v3)]) k_X8_bestErrors l_L_117 i_X8_bestErrors s_X8_bestErrors rfl o1 dL_bestErrors_5 rfl (Nat.le_of_ble_eq_true rfl) hbc hbs hC rfl [] (0, 10, 13, 19) [(0, 10, 17, 13)] rfl ?_ (by decide) (by decide) cl_L_19 ca_IndexOutOfBoundsException (Or.inr ⟨dL_bestErrors_13, rfl⟩) (by decide) ?_ kk
  · intro z hz
    cases hz
  · intro q hq
    simp only [List.mem_cons, List.not_mem_nil, or_false] at hq
    rcases hq with rfl | rfl | rfl | rfl
    · exact List.mem_filter.mpr ⟨by simp, rfl⟩
    · exact List.mem_filter.mpr ⟨by simp, rfl⟩
    · exact List.mem_filter.mpr ⟨by simp, rfl⟩
    · exact List.mem_filter.mpr ⟨by simp, rfl⟩
theorem bL_bestErrors_0c2 {d mc ms : Nat} {al : Bool} {bc bs : Nat} {Γ : am_G} {I : am_I} {L : am_L} {Q : am_Q} {v0 : Nat} {v1 : Int32} {v2 : Int32} {v3 : Nat} {I' : am_I} {L' : am_L} {mc' : Nat} {ms' : Nat} (o1 : am_ob Γ v0 8) (hbc : mc' ≤ bc) (hbs : ms' ≤ bs) (hC : am_E m_X8_bestErrors d mc' ms' [.ref v0, .int v1, .int v2] Γ I L (.inr "java/lang/IllegalArgumentException") I' L') (kk : am_W m_L_bestErrors (d + 1) mc ms al (bc - mc') (bs - ms') 19 [(0, .ref v0), (1, .int v1), (2, .int v2), (3, .ref v3)] [] Γ I' L' Q) : am_W m_L_bestErrors (d + 1) mc ms al bc bs 0 [(0, .ref v0), (1, .int v1), (2, .int v2), (3, .ref v3)] [] Γ I L Q := by
  refine aw_aload_n dL_bestErrors_0 rfl ?_
  refine aw_iconst dL_bestErrors_1 ci_0 ?_
  refine aw_aload_n dL_bestErrors_2 rfl ?_
  refine aw_iload_n dL_bestErrors_3 rfl ?_
  refine aw_iload_n dL_bestErrors_4 rfl ?_
  refine aw_catchV (as := [.int v1, .int v2]) (rst := [.int 0, .ref v3]) (nm := "java/lang/IllegalArgumentException") (k := 4) (len := 2) (ls' := [(0, .ref v0), (1, .int v1), (2, .int v2), (3, .ref v3)]) k_X8_bestErrors l_L_117 i_X8_bestErrors s_X8_bestErrors rfl o1 dL_bestErrors_5 rfl (Nat.le_of_ble_eq_true rfl) hbc hbs hC rfl [(0, 10, 13, 19)] (0, 10, 17, 13) [] rfl ?_ (by decide) (by decide) cl_L_13 ca_IllegalArgumentException (Or.inr ⟨dL_bestErrors_17, rfl⟩) (by decide) ?_ kk
  · intro z hz
    simp only [List.mem_cons, List.not_mem_nil, or_false] at hz
    rcases hz with rfl
    · exact ⟨by decide, _, cl_L_19, by decide⟩
  · intro q hq
    simp only [List.mem_cons, List.not_mem_nil, or_false] at hq
    rcases hq with rfl | rfl | rfl | rfl
    · exact List.mem_filter.mpr ⟨by simp, rfl⟩
    · exact List.mem_filter.mpr ⟨by simp, rfl⟩
    · exact List.mem_filter.mpr ⟨by simp, rfl⟩
    · exact List.mem_filter.mpr ⟨by simp, rfl⟩
theorem bL_bestErrors_8 {d mc ms : Nat} {al : Bool} {bc bs : Nat} {Γ : am_G} {I : am_I} {L : am_L} {Q : am_Q} {v0 : Nat} {v1 : Int32} {v2 : Int32} {v3 : Nat} {w0 : Nat} {w1 : Int32} {w2 : Int32} {n_w0 : Nat} (a1 : am_ar Γ w0 4 n_w0 0) (i2 : vp_in w1 n_w0) (kk : am_W m_L_bestErrors d mc ms al bc bs 21 [(0, .ref v0), (1, .int v1), (2, .int v2), (3, .ref v3)] [] Γ I (am_ul L w0 (w1.toNatClampNeg) (w2.toInt64)) Q) : am_W m_L_bestErrors d mc ms al bc bs 8 [(0, .ref v0), (1, .int v1), (2, .int v2), (3, .ref v3)] [.int w2, .int w1, .ref w0] Γ I L Q := by
  refine aw_i2l dL_bestErrors_8 ?_
  refine aw_last dL_bestErrors_9 a1 i2 ?_
  exact aw_goto dL_bestErrors_10 (by decide) kk
theorem bL_bestErrors_15 {d mc ms : Nat} {al : Bool} {bc bs : Nat} {Γ : am_G} {I : am_I} {L : am_L} {Q : am_Q} {v0 : Nat} {v1 : Int32} {v2 : Int32} {v3 : Nat} (hq : Q (.inl (some (.int 1))) Γ I L) : am_W m_L_bestErrors d mc ms al bc bs 15 [(0, .ref v0), (1, .int v1), (2, .int v2), (3, .ref v3)] [] Γ I L Q := by
  refine aw_iconst dL_bestErrors_15 ci_1 ?_
  exact aw_iret dL_bestErrors_16 rfl hq
theorem bL_bestErrors_19 {d mc ms : Nat} {al : Bool} {bc bs : Nat} {Γ : am_G} {I : am_I} {L : am_L} {Q : am_Q} {v0 : Nat} {v1 : Int32} {v2 : Int32} {v3 : Nat} (hq : Q (.inl (some (.int 2))) Γ I L) : am_W m_L_bestErrors d mc ms al bc bs 19 [(0, .ref v0), (1, .int v1), (2, .int v2), (3, .ref v3)] [] Γ I L Q := by
  refine aw_iconst dL_bestErrors_19 ci_2 ?_
  exact aw_iret dL_bestErrors_20 rfl hq
theorem bL_bestErrors_21 {d mc ms : Nat} {al : Bool} {bc bs : Nat} {Γ : am_G} {I : am_I} {L : am_L} {Q : am_Q} {v0 : Nat} {v1 : Int32} {v2 : Int32} {v3 : Nat} (hq : Q (.inl (some (.int 0))) Γ I L) : am_W m_L_bestErrors d mc ms al bc bs 21 [(0, .ref v0), (1, .int v1), (2, .int v2), (3, .ref v3)] [] Γ I L Q := by
  refine aw_iconst dL_bestErrors_21 ci_0 ?_
  exact aw_iret dL_bestErrors_22 rfl hq
theorem dL_bestWork_0 : decode cL_bestWork 0 = .ok (.aload_n 3, 1) := by decide +kernel
theorem dL_bestWork_1 : decode cL_bestWork 1 = .ok (.iconst 0, 1) := by decide +kernel
theorem dL_bestWork_2 : decode cL_bestWork 2 = .ok (.aload_n 0, 1) := by decide +kernel
theorem dL_bestWork_3 : decode cL_bestWork 3 = .ok (.iload_n 1, 1) := by decide +kernel
theorem dL_bestWork_4 : decode cL_bestWork 4 = .ok (.iload_n 2, 1) := by decide +kernel
theorem dL_bestWork_5 : decode cL_bestWork 5 = .ok (.invokevirtual 120, 3) := by decide +kernel
theorem dL_bestWork_8 : decode cL_bestWork 8 = .ok (.i2l, 1) := by decide +kernel
theorem dL_bestWork_9 : decode cL_bestWork 9 = .ok (.lastore, 1) := by decide +kernel
theorem dL_bestWork_10 : decode cL_bestWork 10 = .ok (.goto 11, 3) := by decide +kernel
theorem dL_bestWork_13 : decode cL_bestWork 13 = .ok (.astore 4, 2) := by decide +kernel
theorem dL_bestWork_15 : decode cL_bestWork 15 = .ok (.iconst 1, 1) := by decide +kernel
theorem dL_bestWork_16 : decode cL_bestWork 16 = .ok (.ireturn, 1) := by decide +kernel
theorem dL_bestWork_17 : decode cL_bestWork 17 = .ok (.astore 4, 2) := by decide +kernel
theorem dL_bestWork_19 : decode cL_bestWork 19 = .ok (.iconst 2, 1) := by decide +kernel
theorem dL_bestWork_20 : decode cL_bestWork 20 = .ok (.ireturn, 1) := by decide +kernel
theorem dL_bestWork_21 : decode cL_bestWork 21 = .ok (.iconst 0, 1) := by decide +kernel
theorem dL_bestWork_22 : decode cL_bestWork 22 = .ok (.ireturn, 1) := by decide +kernel
theorem bL_bestWork_0 {d mc ms : Nat} {al : Bool} {bc bs : Nat} {Γ : am_G} {I : am_I} {L : am_L} {Q : am_Q} {v0 : Nat} {v1 : Int32} {v2 : Int32} {v3 : Nat} {I' : am_I} {L' : am_L} {mc' : Nat} {ms' : Nat} {r : Int32} (o1 : am_ob Γ v0 8) (hbc : mc' ≤ bc) (hbs : ms' ≤ bs) (hC : am_E m_X8_bestWork d mc' ms' [.ref v0, .int v1, .int v2] Γ I L (.inl (some (.int r))) I' L') (kk : am_W m_L_bestWork (d + 1) mc ms al (bc - mc') (bs - ms') 8 [(0, .ref v0), (1, .int v1), (2, .int v2), (3, .ref v3)] [.int r, .int 0, .ref v3] Γ I' L' Q) : am_W m_L_bestWork (d + 1) mc ms al bc bs 0 [(0, .ref v0), (1, .int v1), (2, .int v2), (3, .ref v3)] [] Γ I L Q := by
  refine aw_aload_n dL_bestWork_0 rfl ?_
  refine aw_iconst dL_bestWork_1 ci_0 ?_
  refine aw_aload_n dL_bestWork_2 rfl ?_
  refine aw_iload_n dL_bestWork_3 rfl ?_
  refine aw_iload_n dL_bestWork_4 rfl ?_
  exact aw_askV (as := [.int v1, .int v2]) (rst := [.int 0, .ref v3]) k_X8_bestWork l_L_120 i_X8_bestWork s_X8_bestWork rfl o1 dL_bestWork_5 rfl (Nat.le_of_ble_eq_true rfl) hbc hbs hC rfl rfl kk
theorem bL_bestWork_0c1 {d mc ms : Nat} {al : Bool} {bc bs : Nat} {Γ : am_G} {I : am_I} {L : am_L} {Q : am_Q} {v0 : Nat} {v1 : Int32} {v2 : Int32} {v3 : Nat} {I' : am_I} {L' : am_L} {mc' : Nat} {ms' : Nat} (o1 : am_ob Γ v0 8) (hbc : mc' ≤ bc) (hbs : ms' ≤ bs) (hC : am_E m_X8_bestWork d mc' ms' [.ref v0, .int v1, .int v2] Γ I L (.inr "java/lang/IndexOutOfBoundsException") I' L') (kk : am_W m_L_bestWork (d + 1) mc ms al (bc - mc') (bs - ms') 15 [(0, .ref v0), (1, .int v1), (2, .int v2), (3, .ref v3)] [] Γ I' L' Q) : am_W m_L_bestWork (d + 1) mc ms al bc bs 0 [(0, .ref v0), (1, .int v1), (2, .int v2), (3, .ref v3)] [] Γ I L Q := by
  refine aw_aload_n dL_bestWork_0 rfl ?_
  refine aw_iconst dL_bestWork_1 ci_0 ?_
  refine aw_aload_n dL_bestWork_2 rfl ?_
  refine aw_iload_n dL_bestWork_3 rfl ?_
  refine aw_iload_n dL_bestWork_4 rfl ?_
  refine aw_catchV (as := [.int v1, .int v2]) (rst := [.int 0, .ref v3]) (nm := "java/lang/IndexOutOfBoundsException") (k := 4) (len := 2) (ls' := [(0, .ref v0), (1, .int v1), (2, .int v2), (3, .ref v3)]) k_X8_bestWork l_L_120 i_X8_bestWork s_X8_bestWork rfl o1 dL_bestWork_5 rfl (Nat.le_of_ble_eq_true rfl) hbc hbs hC rfl [] (0, 10, 13, 19) [(0, 10, 17, 13)] rfl ?_ (by decide) (by decide) cl_L_19 ca_IndexOutOfBoundsException (Or.inr ⟨dL_bestWork_13, rfl⟩) (by decide) ?_ kk
  · intro z hz
    cases hz
  · intro q hq
    simp only [List.mem_cons, List.not_mem_nil, or_false] at hq
    rcases hq with rfl | rfl | rfl | rfl
    · exact List.mem_filter.mpr ⟨by simp, rfl⟩
    · exact List.mem_filter.mpr ⟨by simp, rfl⟩
    · exact List.mem_filter.mpr ⟨by simp, rfl⟩
    · exact List.mem_filter.mpr ⟨by simp, rfl⟩
theorem bL_bestWork_0c2 {d mc ms : Nat} {al : Bool} {bc bs : Nat} {Γ : am_G} {I : am_I} {L : am_L} {Q : am_Q} {v0 : Nat} {v1 : Int32} {v2 : Int32} {v3 : Nat} {I' : am_I} {L' : am_L} {mc' : Nat} {ms' : Nat} (o1 : am_ob Γ v0 8) (hbc : mc' ≤ bc) (hbs : ms' ≤ bs) (hC : am_E m_X8_bestWork d mc' ms' [.ref v0, .int v1, .int v2] Γ I L (.inr "java/lang/IllegalArgumentException") I' L') (kk : am_W m_L_bestWork (d + 1) mc ms al (bc - mc') (bs - ms') 19 [(0, .ref v0), (1, .int v1), (2, .int v2), (3, .ref v3)] [] Γ I' L' Q) : am_W m_L_bestWork (d + 1) mc ms al bc bs 0 [(0, .ref v0), (1, .int v1), (2, .int v2), (3, .ref v3)] [] Γ I L Q := by
  refine aw_aload_n dL_bestWork_0 rfl ?_
  refine aw_iconst dL_bestWork_1 ci_0 ?_
  refine aw_aload_n dL_bestWork_2 rfl ?_
  refine aw_iload_n dL_bestWork_3 rfl ?_
  refine aw_iload_n dL_bestWork_4 rfl ?_
  refine aw_catchV (as := [.int v1, .int v2]) (rst := [.int 0, .ref v3]) (nm := "java/lang/IllegalArgumentException") (k := 4) (len := 2) (ls' := [(0, .ref v0), (1, .int v1), (2, .int v2), (3, .ref v3)]) k_X8_bestWork l_L_120 i_X8_bestWork s_X8_bestWork rfl o1 dL_bestWork_5 rfl (Nat.le_of_ble_eq_true rfl) hbc hbs hC rfl [(0, 10, 13, 19)] (0, 10, 17, 13) [] rfl ?_ (by decide) (by decide) cl_L_13 ca_IllegalArgumentException (Or.inr ⟨dL_bestWork_17, rfl⟩) (by decide) ?_ kk
  · intro z hz
    simp only [List.mem_cons, List.not_mem_nil, or_false] at hz
    rcases hz with rfl
    · exact ⟨by decide, _, cl_L_19, by decide⟩
  · intro q hq
    simp only [List.mem_cons, List.not_mem_nil, or_false] at hq
    rcases hq with rfl | rfl | rfl | rfl
    · exact List.mem_filter.mpr ⟨by simp, rfl⟩
    · exact List.mem_filter.mpr ⟨by simp, rfl⟩
    · exact List.mem_filter.mpr ⟨by simp, rfl⟩
    · exact List.mem_filter.mpr ⟨by simp, rfl⟩
theorem bL_bestWork_8 {d mc ms : Nat} {al : Bool} {bc bs : Nat} {Γ : am_G} {I : am_I} {L : am_L} {Q : am_Q} {v0 : Nat} {v1 : Int32} {v2 : Int32} {v3 : Nat} {w0 : Nat} {w1 : Int32} {w2 : Int32} {n_w0 : Nat} (a1 : am_ar Γ w0 4 n_w0 0) (i2 : vp_in w1 n_w0) (kk : am_W m_L_bestWork d mc ms al bc bs 21 [(0, .ref v0), (1, .int v1), (2, .int v2), (3, .ref v3)] [] Γ I (am_ul L w0 (w1.toNatClampNeg) (w2.toInt64)) Q) : am_W m_L_bestWork d mc ms al bc bs 8 [(0, .ref v0), (1, .int v1), (2, .int v2), (3, .ref v3)] [.int w2, .int w1, .ref w0] Γ I L Q := by
  refine aw_i2l dL_bestWork_8 ?_
  refine aw_last dL_bestWork_9 a1 i2 ?_
  exact aw_goto dL_bestWork_10 (by decide) kk
theorem bL_bestWork_15 {d mc ms : Nat} {al : Bool} {bc bs : Nat} {Γ : am_G} {I : am_I} {L : am_L} {Q : am_Q} {v0 : Nat} {v1 : Int32} {v2 : Int32} {v3 : Nat} (hq : Q (.inl (some (.int 1))) Γ I L) : am_W m_L_bestWork d mc ms al bc bs 15 [(0, .ref v0), (1, .int v1), (2, .int v2), (3, .ref v3)] [] Γ I L Q := by
  refine aw_iconst dL_bestWork_15 ci_1 ?_
  exact aw_iret dL_bestWork_16 rfl hq
theorem bL_bestWork_19 {d mc ms : Nat} {al : Bool} {bc bs : Nat} {Γ : am_G} {I : am_I} {L : am_L} {Q : am_Q} {v0 : Nat} {v1 : Int32} {v2 : Int32} {v3 : Nat} (hq : Q (.inl (some (.int 2))) Γ I L) : am_W m_L_bestWork d mc ms al bc bs 19 [(0, .ref v0), (1, .int v1), (2, .int v2), (3, .ref v3)] [] Γ I L Q := by
  refine aw_iconst dL_bestWork_19 ci_2 ?_
  exact aw_iret dL_bestWork_20 rfl hq
theorem bL_bestWork_21 {d mc ms : Nat} {al : Bool} {bc bs : Nat} {Γ : am_G} {I : am_I} {L : am_L} {Q : am_Q} {v0 : Nat} {v1 : Int32} {v2 : Int32} {v3 : Nat} (hq : Q (.inl (some (.int 0))) Γ I L) : am_W m_L_bestWork d mc ms al bc bs 21 [(0, .ref v0), (1, .int v1), (2, .int v2), (3, .ref v3)] [] Γ I L Q := by
  refine aw_iconst dL_bestWork_21 ci_0 ?_
  exact aw_iret dL_bestWork_22 rfl hq
theorem dL_bestRootQuestion_0 : decode cL_bestRootQuestion 0 = .ok (.aload_n 3, 1) := by decide +kernel
theorem dL_bestRootQuestion_1 : decode cL_bestRootQuestion 1 = .ok (.iconst 0, 1) := by decide +kernel
theorem dL_bestRootQuestion_2 : decode cL_bestRootQuestion 2 = .ok (.aload_n 0, 1) := by decide +kernel
theorem dL_bestRootQuestion_3 : decode cL_bestRootQuestion 3 = .ok (.iload_n 1, 1) := by decide +kernel
theorem dL_bestRootQuestion_4 : decode cL_bestRootQuestion 4 = .ok (.iload_n 2, 1) := by decide +kernel
theorem dL_bestRootQuestion_5 : decode cL_bestRootQuestion 5 = .ok (.invokevirtual 123, 3) := by decide +kernel
theorem dL_bestRootQuestion_8 : decode cL_bestRootQuestion 8 = .ok (.i2l, 1) := by decide +kernel
theorem dL_bestRootQuestion_9 : decode cL_bestRootQuestion 9 = .ok (.lastore, 1) := by decide +kernel
theorem dL_bestRootQuestion_10 : decode cL_bestRootQuestion 10 = .ok (.goto 11, 3) := by decide +kernel
theorem dL_bestRootQuestion_13 : decode cL_bestRootQuestion 13 = .ok (.astore 4, 2) := by decide +kernel
theorem dL_bestRootQuestion_15 : decode cL_bestRootQuestion 15 = .ok (.iconst 1, 1) := by decide +kernel
theorem dL_bestRootQuestion_16 : decode cL_bestRootQuestion 16 = .ok (.ireturn, 1) := by decide +kernel
theorem dL_bestRootQuestion_17 : decode cL_bestRootQuestion 17 = .ok (.astore 4, 2) := by decide +kernel
theorem dL_bestRootQuestion_19 : decode cL_bestRootQuestion 19 = .ok (.iconst 2, 1) := by decide +kernel
theorem dL_bestRootQuestion_20 : decode cL_bestRootQuestion 20 = .ok (.ireturn, 1) := by decide +kernel
theorem dL_bestRootQuestion_21 : decode cL_bestRootQuestion 21 = .ok (.iconst 0, 1) := by decide +kernel
theorem dL_bestRootQuestion_22 : decode cL_bestRootQuestion 22 = .ok (.ireturn, 1) := by decide +kernel
theorem bL_bestRootQuestion_0 {d mc ms : Nat} {al : Bool} {bc bs : Nat} {Γ : am_G} {I : am_I} {L : am_L} {Q : am_Q} {v0 : Nat} {v1 : Int32} {v2 : Int32} {v3 : Nat} {I' : am_I} {L' : am_L} {mc' : Nat} {ms' : Nat} {r : Int32} (o1 : am_ob Γ v0 8) (hbc : mc' ≤ bc) (hbs : ms' ≤ bs) (hC : am_E m_X8_bestRootQuestion d mc' ms' [.ref v0, .int v1, .int v2] Γ I L (.inl (some (.int r))) I' L') (kk : am_W m_L_bestRootQuestion (d + 1) mc ms al (bc - mc') (bs - ms') 8 [(0, .ref v0), (1, .int v1), (2, .int v2), (3, .ref v3)] [.int r, .int 0, .ref v3] Γ I' L' Q) : am_W m_L_bestRootQuestion (d + 1) mc ms al bc bs 0 [(0, .ref v0), (1, .int v1), (2, .int v2), (3, .ref v3)] [] Γ I L Q := by
  refine aw_aload_n dL_bestRootQuestion_0 rfl ?_
  refine aw_iconst dL_bestRootQuestion_1 ci_0 ?_
  refine aw_aload_n dL_bestRootQuestion_2 rfl ?_
  refine aw_iload_n dL_bestRootQuestion_3 rfl ?_
  refine aw_iload_n dL_bestRootQuestion_4 rfl ?_
  exact aw_askV (as := [.int v1, .int v2]) (rst := [.int 0, .ref v3]) k_X8_bestRootQuestion l_L_123 i_X8_bestRootQuestion s_X8_bestRootQuestion rfl o1 dL_bestRootQuestion_5 rfl (Nat.le_of_ble_eq_true rfl) hbc hbs hC rfl rfl kk
theorem bL_bestRootQuestion_0c1 {d mc ms : Nat} {al : Bool} {bc bs : Nat} {Γ : am_G} {I : am_I} {L : am_L} {Q : am_Q} {v0 : Nat} {v1 : Int32} {v2 : Int32} {v3 : Nat} {I' : am_I} {L' : am_L} {mc' : Nat} {ms' : Nat} (o1 : am_ob Γ v0 8) (hbc : mc' ≤ bc) (hbs : ms' ≤ bs) (hC : am_E m_X8_bestRootQuestion d mc' ms' [.ref v0, .int v1, .int v2] Γ I L (.inr "java/lang/IndexOutOfBoundsException") I' L') (kk : am_W m_L_bestRootQuestion (d + 1) mc ms al (bc - mc') (bs - ms') 15 [(0, .ref v0), (1, .int v1), (2, .int v2), (3, .ref v3)] [] Γ I' L' Q) : am_W m_L_bestRootQuestion (d + 1) mc ms al bc bs 0 [(0, .ref v0), (1, .int v1), (2, .int v2), (3, .ref v3)] [] Γ I L Q := by
  refine aw_aload_n dL_bestRootQuestion_0 rfl ?_
  refine aw_iconst dL_bestRootQuestion_1 ci_0 ?_
  refine aw_aload_n dL_bestRootQuestion_2 rfl ?_
  refine aw_iload_n dL_bestRootQuestion_3 rfl ?_
  refine aw_iload_n dL_bestRootQuestion_4 rfl ?_
  refine aw_catchV (as := [.int v1, .int v2]) (rst := [.int 0, .ref v3]) (nm := "java/lang/IndexOutOfBoundsException") (k := 4) (len := 2) (ls' := [(0, .ref v0), (1, .int v1), (2, .int v2), (3, .ref v3)]) k_X8_bestRootQuestion l_L_123 i_X8_bestRootQuestion s_X8_bestRootQuestion rfl o1 dL_bestRootQuestion_5 rfl (Nat.le_of_ble_eq_true rfl) hbc hbs hC rfl [] (0, 10, 13, 19) [(0, 10, 17, 13)] rfl ?_ (by decide) (by decide) cl_L_19 ca_IndexOutOfBoundsException (Or.inr ⟨dL_bestRootQuestion_13, rfl⟩) (by decide) ?_ kk
  · intro z hz
    cases hz
  · intro q hq
    simp only [List.mem_cons, List.not_mem_nil, or_false] at hq
    rcases hq with rfl | rfl | rfl | rfl
    · exact List.mem_filter.mpr ⟨by simp, rfl⟩
    · exact List.mem_filter.mpr ⟨by simp, rfl⟩
    · exact List.mem_filter.mpr ⟨by simp, rfl⟩
    · exact List.mem_filter.mpr ⟨by simp, rfl⟩
theorem bL_bestRootQuestion_0c2 {d mc ms : Nat} {al : Bool} {bc bs : Nat} {Γ : am_G} {I : am_I} {L : am_L} {Q : am_Q} {v0 : Nat} {v1 : Int32} {v2 : Int32} {v3 : Nat} {I' : am_I} {L' : am_L} {mc' : Nat} {ms' : Nat} (o1 : am_ob Γ v0 8) (hbc : mc' ≤ bc) (hbs : ms' ≤ bs) (hC : am_E m_X8_bestRootQuestion d mc' ms' [.ref v0, .int v1, .int v2] Γ I L (.inr "java/lang/IllegalArgumentException") I' L') (kk : am_W m_L_bestRootQuestion (d + 1) mc ms al (bc - mc') (bs - ms') 19 [(0, .ref v0), (1, .int v1), (2, .int v2), (3, .ref v3)] [] Γ I' L' Q) : am_W m_L_bestRootQuestion (d + 1) mc ms al bc bs 0 [(0, .ref v0), (1, .int v1), (2, .int v2), (3, .ref v3)] [] Γ I L Q := by
  refine aw_aload_n dL_bestRootQuestion_0 rfl ?_
  refine aw_iconst dL_bestRootQuestion_1 ci_0 ?_
  refine aw_aload_n dL_bestRootQuestion_2 rfl ?_
  refine aw_iload_n dL_bestRootQuestion_3 rfl ?_
  refine aw_iload_n dL_bestRootQuestion_4 rfl ?_
  refine aw_catchV (as := [.int v1, .int v2]) (rst := [.int 0, .ref v3]) (nm := "java/lang/IllegalArgumentException") (k := 4) (len := 2) (ls' := [(0, .ref v0), (1, .int v1), (2, .int v2), (3, .ref v3)]) k_X8_bestRootQuestion l_L_123 i_X8_bestRootQuestion s_X8_bestRootQuestion rfl o1 dL_bestRootQuestion_5 rfl (Nat.le_of_ble_eq_true rfl) hbc hbs hC rfl [(0, 10, 13, 19)] (0, 10, 17, 13) [] rfl ?_ (by decide) (by decide) cl_L_13 ca_IllegalArgumentException (Or.inr ⟨dL_bestRootQuestion_17, rfl⟩) (by decide) ?_ kk
  · intro z hz
    simp only [List.mem_cons, List.not_mem_nil, or_false] at hz
    rcases hz with rfl
    · exact ⟨by decide, _, cl_L_19, by decide⟩
  · intro q hq
    simp only [List.mem_cons, List.not_mem_nil, or_false] at hq
    rcases hq with rfl | rfl | rfl | rfl
    · exact List.mem_filter.mpr ⟨by simp, rfl⟩
    · exact List.mem_filter.mpr ⟨by simp, rfl⟩
    · exact List.mem_filter.mpr ⟨by simp, rfl⟩
    · exact List.mem_filter.mpr ⟨by simp, rfl⟩
theorem bL_bestRootQuestion_8 {d mc ms : Nat} {al : Bool} {bc bs : Nat} {Γ : am_G} {I : am_I} {L : am_L} {Q : am_Q} {v0 : Nat} {v1 : Int32} {v2 : Int32} {v3 : Nat} {w0 : Nat} {w1 : Int32} {w2 : Int32} {n_w0 : Nat} (a1 : am_ar Γ w0 4 n_w0 0) (i2 : vp_in w1 n_w0) (kk : am_W m_L_bestRootQuestion d mc ms al bc bs 21 [(0, .ref v0), (1, .int v1), (2, .int v2), (3, .ref v3)] [] Γ I (am_ul L w0 (w1.toNatClampNeg) (w2.toInt64)) Q) : am_W m_L_bestRootQuestion d mc ms al bc bs 8 [(0, .ref v0), (1, .int v1), (2, .int v2), (3, .ref v3)] [.int w2, .int w1, .ref w0] Γ I L Q := by
  refine aw_i2l dL_bestRootQuestion_8 ?_
  refine aw_last dL_bestRootQuestion_9 a1 i2 ?_
  exact aw_goto dL_bestRootQuestion_10 (by decide) kk
theorem bL_bestRootQuestion_15 {d mc ms : Nat} {al : Bool} {bc bs : Nat} {Γ : am_G} {I : am_I} {L : am_L} {Q : am_Q} {v0 : Nat} {v1 : Int32} {v2 : Int32} {v3 : Nat} (hq : Q (.inl (some (.int 1))) Γ I L) : am_W m_L_bestRootQuestion d mc ms al bc bs 15 [(0, .ref v0), (1, .int v1), (2, .int v2), (3, .ref v3)] [] Γ I L Q := by
  refine aw_iconst dL_bestRootQuestion_15 ci_1 ?_
  exact aw_iret dL_bestRootQuestion_16 rfl hq
theorem bL_bestRootQuestion_19 {d mc ms : Nat} {al : Bool} {bc bs : Nat} {Γ : am_G} {I : am_I} {L : am_L} {Q : am_Q} {v0 : Nat} {v1 : Int32} {v2 : Int32} {v3 : Nat} (hq : Q (.inl (some (.int 2))) Γ I L) : am_W m_L_bestRootQuestion d mc ms al bc bs 19 [(0, .ref v0), (1, .int v1), (2, .int v2), (3, .ref v3)] [] Γ I L Q := by
  refine aw_iconst dL_bestRootQuestion_19 ci_2 ?_
  exact aw_iret dL_bestRootQuestion_20 rfl hq
theorem bL_bestRootQuestion_21 {d mc ms : Nat} {al : Bool} {bc bs : Nat} {Γ : am_G} {I : am_I} {L : am_L} {Q : am_Q} {v0 : Nat} {v1 : Int32} {v2 : Int32} {v3 : Nat} (hq : Q (.inl (some (.int 0))) Γ I L) : am_W m_L_bestRootQuestion d mc ms al bc bs 21 [(0, .ref v0), (1, .int v1), (2, .int v2), (3, .ref v3)] [] Γ I L Q := by
  refine aw_iconst dL_bestRootQuestion_21 ci_0 ?_
  exact aw_iret dL_bestRootQuestion_22 rfl hq
theorem dL_errorsWithout_0 : decode cL_errorsWithout 0 = .ok (.aload_n 3, 1) := by decide +kernel
theorem dL_errorsWithout_1 : decode cL_errorsWithout 1 = .ok (.iconst 0, 1) := by decide +kernel
theorem dL_errorsWithout_2 : decode cL_errorsWithout 2 = .ok (.aload_n 0, 1) := by decide +kernel
theorem dL_errorsWithout_3 : decode cL_errorsWithout 3 = .ok (.iload_n 1, 1) := by decide +kernel
theorem dL_errorsWithout_4 : decode cL_errorsWithout 4 = .ok (.iload_n 2, 1) := by decide +kernel
theorem dL_errorsWithout_5 : decode cL_errorsWithout 5 = .ok (.invokevirtual 126, 3) := by decide +kernel
theorem dL_errorsWithout_8 : decode cL_errorsWithout 8 = .ok (.i2l, 1) := by decide +kernel
theorem dL_errorsWithout_9 : decode cL_errorsWithout 9 = .ok (.lastore, 1) := by decide +kernel
theorem dL_errorsWithout_10 : decode cL_errorsWithout 10 = .ok (.goto 7, 3) := by decide +kernel
theorem dL_errorsWithout_13 : decode cL_errorsWithout 13 = .ok (.astore 4, 2) := by decide +kernel
theorem dL_errorsWithout_15 : decode cL_errorsWithout 15 = .ok (.iconst 1, 1) := by decide +kernel
theorem dL_errorsWithout_16 : decode cL_errorsWithout 16 = .ok (.ireturn, 1) := by decide +kernel
theorem dL_errorsWithout_17 : decode cL_errorsWithout 17 = .ok (.iconst 0, 1) := by decide +kernel
theorem dL_errorsWithout_18 : decode cL_errorsWithout 18 = .ok (.ireturn, 1) := by decide +kernel
theorem bL_errorsWithout_0 {d mc ms : Nat} {al : Bool} {bc bs : Nat} {Γ : am_G} {I : am_I} {L : am_L} {Q : am_Q} {v0 : Nat} {v1 : Int32} {v2 : Int32} {v3 : Nat} {I' : am_I} {L' : am_L} {mc' : Nat} {ms' : Nat} {r : Int32} (o1 : am_ob Γ v0 8) (hbc : mc' ≤ bc) (hbs : ms' ≤ bs) (hC : am_E m_X8_errorsWithout d mc' ms' [.ref v0, .int v1, .int v2] Γ I L (.inl (some (.int r))) I' L') (kk : am_W m_L_errorsWithout (d + 1) mc ms al (bc - mc') (bs - ms') 8 [(0, .ref v0), (1, .int v1), (2, .int v2), (3, .ref v3)] [.int r, .int 0, .ref v3] Γ I' L' Q) : am_W m_L_errorsWithout (d + 1) mc ms al bc bs 0 [(0, .ref v0), (1, .int v1), (2, .int v2), (3, .ref v3)] [] Γ I L Q := by
  refine aw_aload_n dL_errorsWithout_0 rfl ?_
  refine aw_iconst dL_errorsWithout_1 ci_0 ?_
  refine aw_aload_n dL_errorsWithout_2 rfl ?_
  refine aw_iload_n dL_errorsWithout_3 rfl ?_
  refine aw_iload_n dL_errorsWithout_4 rfl ?_
  exact aw_askV (as := [.int v1, .int v2]) (rst := [.int 0, .ref v3]) k_X8_errorsWithout l_L_126 i_X8_errorsWithout s_X8_errorsWithout rfl o1 dL_errorsWithout_5 rfl (Nat.le_of_ble_eq_true rfl) hbc hbs hC rfl rfl kk
theorem bL_errorsWithout_0c1 {d mc ms : Nat} {al : Bool} {bc bs : Nat} {Γ : am_G} {I : am_I} {L : am_L} {Q : am_Q} {v0 : Nat} {v1 : Int32} {v2 : Int32} {v3 : Nat} {I' : am_I} {L' : am_L} {mc' : Nat} {ms' : Nat} (o1 : am_ob Γ v0 8) (hbc : mc' ≤ bc) (hbs : ms' ≤ bs) (hC : am_E m_X8_errorsWithout d mc' ms' [.ref v0, .int v1, .int v2] Γ I L (.inr "java/lang/IndexOutOfBoundsException") I' L') (kk : am_W m_L_errorsWithout (d + 1) mc ms al (bc - mc') (bs - ms') 15 [(0, .ref v0), (1, .int v1), (2, .int v2), (3, .ref v3)] [] Γ I' L' Q) : am_W m_L_errorsWithout (d + 1) mc ms al bc bs 0 [(0, .ref v0), (1, .int v1), (2, .int v2), (3, .ref v3)] [] Γ I L Q := by
  refine aw_aload_n dL_errorsWithout_0 rfl ?_
  refine aw_iconst dL_errorsWithout_1 ci_0 ?_
  refine aw_aload_n dL_errorsWithout_2 rfl ?_
  refine aw_iload_n dL_errorsWithout_3 rfl ?_
  refine aw_iload_n dL_errorsWithout_4 rfl ?_
  refine aw_catchV (as := [.int v1, .int v2]) (rst := [.int 0, .ref v3]) (nm := "java/lang/IndexOutOfBoundsException") (k := 4) (len := 2) (ls' := [(0, .ref v0), (1, .int v1), (2, .int v2), (3, .ref v3)]) k_X8_errorsWithout l_L_126 i_X8_errorsWithout s_X8_errorsWithout rfl o1 dL_errorsWithout_5 rfl (Nat.le_of_ble_eq_true rfl) hbc hbs hC rfl [] (0, 10, 13, 19) [] rfl ?_ (by decide) (by decide) cl_L_19 ca_IndexOutOfBoundsException (Or.inr ⟨dL_errorsWithout_13, rfl⟩) (by decide) ?_ kk
  · intro z hz
    cases hz
  · intro q hq
    simp only [List.mem_cons, List.not_mem_nil, or_false] at hq
    rcases hq with rfl | rfl | rfl | rfl
    · exact List.mem_filter.mpr ⟨by simp, rfl⟩
    · exact List.mem_filter.mpr ⟨by simp, rfl⟩
    · exact List.mem_filter.mpr ⟨by simp, rfl⟩
    · exact List.mem_filter.mpr ⟨by simp, rfl⟩
theorem bL_errorsWithout_8 {d mc ms : Nat} {al : Bool} {bc bs : Nat} {Γ : am_G} {I : am_I} {L : am_L} {Q : am_Q} {v0 : Nat} {v1 : Int32} {v2 : Int32} {v3 : Nat} {w0 : Nat} {w1 : Int32} {w2 : Int32} {n_w0 : Nat} (a1 : am_ar Γ w0 4 n_w0 0) (i2 : vp_in w1 n_w0) (kk : am_W m_L_errorsWithout d mc ms al bc bs 17 [(0, .ref v0), (1, .int v1), (2, .int v2), (3, .ref v3)] [] Γ I (am_ul L w0 (w1.toNatClampNeg) (w2.toInt64)) Q) : am_W m_L_errorsWithout d mc ms al bc bs 8 [(0, .ref v0), (1, .int v1), (2, .int v2), (3, .ref v3)] [.int w2, .int w1, .ref w0] Γ I L Q := by
  refine aw_i2l dL_errorsWithout_8 ?_
  refine aw_last dL_errorsWithout_9 a1 i2 ?_
  exact aw_goto dL_errorsWithout_10 (by decide) kk
theorem bL_errorsWithout_15 {d mc ms : Nat} {al : Bool} {bc bs : Nat} {Γ : am_G} {I : am_I} {L : am_L} {Q : am_Q} {v0 : Nat} {v1 : Int32} {v2 : Int32} {v3 : Nat} (hq : Q (.inl (some (.int 1))) Γ I L) : am_W m_L_errorsWithout d mc ms al bc bs 15 [(0, .ref v0), (1, .int v1), (2, .int v2), (3, .ref v3)] [] Γ I L Q := by
  refine aw_iconst dL_errorsWithout_15 ci_1 ?_
  exact aw_iret dL_errorsWithout_16 rfl hq
theorem bL_errorsWithout_17 {d mc ms : Nat} {al : Bool} {bc bs : Nat} {Γ : am_G} {I : am_I} {L : am_L} {Q : am_Q} {v0 : Nat} {v1 : Int32} {v2 : Int32} {v3 : Nat} (hq : Q (.inl (some (.int 0))) Γ I L) : am_W m_L_errorsWithout d mc ms al bc bs 17 [(0, .ref v0), (1, .int v1), (2, .int v2), (3, .ref v3)] [] Γ I L Q := by
  refine aw_iconst dL_errorsWithout_17 ci_0 ?_
  exact aw_iret dL_errorsWithout_18 rfl hq
theorem dL_sufficientLimit_0 : decode cL_sufficientLimit 0 = .ok (.aload_n 2, 1) := by decide +kernel
theorem dL_sufficientLimit_1 : decode cL_sufficientLimit 1 = .ok (.iconst 0, 1) := by decide +kernel
theorem dL_sufficientLimit_2 : decode cL_sufficientLimit 2 = .ok (.aload_n 0, 1) := by decide +kernel
theorem dL_sufficientLimit_3 : decode cL_sufficientLimit 3 = .ok (.iload_n 1, 1) := by decide +kernel
theorem dL_sufficientLimit_4 : decode cL_sufficientLimit 4 = .ok (.invokevirtual 129, 3) := by decide +kernel
theorem dL_sufficientLimit_7 : decode cL_sufficientLimit 7 = .ok (.i2l, 1) := by decide +kernel
theorem dL_sufficientLimit_8 : decode cL_sufficientLimit 8 = .ok (.lastore, 1) := by decide +kernel
theorem dL_sufficientLimit_9 : decode cL_sufficientLimit 9 = .ok (.goto 6, 3) := by decide +kernel
theorem dL_sufficientLimit_12 : decode cL_sufficientLimit 12 = .ok (.astore_n 3, 1) := by decide +kernel
theorem dL_sufficientLimit_13 : decode cL_sufficientLimit 13 = .ok (.iconst 1, 1) := by decide +kernel
theorem dL_sufficientLimit_14 : decode cL_sufficientLimit 14 = .ok (.ireturn, 1) := by decide +kernel
theorem dL_sufficientLimit_15 : decode cL_sufficientLimit 15 = .ok (.iconst 0, 1) := by decide +kernel
theorem dL_sufficientLimit_16 : decode cL_sufficientLimit 16 = .ok (.ireturn, 1) := by decide +kernel
theorem bL_sufficientLimit_0 {d mc ms : Nat} {al : Bool} {bc bs : Nat} {Γ : am_G} {I : am_I} {L : am_L} {Q : am_Q} {v0 : Nat} {v1 : Int32} {v2 : Nat} {I' : am_I} {L' : am_L} {mc' : Nat} {ms' : Nat} {r : Int32} (o1 : am_ob Γ v0 8) (hbc : mc' ≤ bc) (hbs : ms' ≤ bs) (hC : am_E m_X8_sufficientLimit d mc' ms' [.ref v0, .int v1] Γ I L (.inl (some (.int r))) I' L') (kk : am_W m_L_sufficientLimit (d + 1) mc ms al (bc - mc') (bs - ms') 7 [(0, .ref v0), (1, .int v1), (2, .ref v2)] [.int r, .int 0, .ref v2] Γ I' L' Q) : am_W m_L_sufficientLimit (d + 1) mc ms al bc bs 0 [(0, .ref v0), (1, .int v1), (2, .ref v2)] [] Γ I L Q := by
  refine aw_aload_n dL_sufficientLimit_0 rfl ?_
  refine aw_iconst dL_sufficientLimit_1 ci_0 ?_
  refine aw_aload_n dL_sufficientLimit_2 rfl ?_
  refine aw_iload_n dL_sufficientLimit_3 rfl ?_
  exact aw_askV (as := [.int v1]) (rst := [.int 0, .ref v2]) k_X8_sufficientLimit l_L_129 i_X8_sufficientLimit s_X8_sufficientLimit rfl o1 dL_sufficientLimit_4 rfl (Nat.le_of_ble_eq_true rfl) hbc hbs hC rfl rfl kk
theorem bL_sufficientLimit_0c1 {d mc ms : Nat} {al : Bool} {bc bs : Nat} {Γ : am_G} {I : am_I} {L : am_L} {Q : am_Q} {v0 : Nat} {v1 : Int32} {v2 : Nat} {I' : am_I} {L' : am_L} {mc' : Nat} {ms' : Nat} (o1 : am_ob Γ v0 8) (hbc : mc' ≤ bc) (hbs : ms' ≤ bs) (hC : am_E m_X8_sufficientLimit d mc' ms' [.ref v0, .int v1] Γ I L (.inr "java/lang/IndexOutOfBoundsException") I' L') (kk : am_W m_L_sufficientLimit (d + 1) mc ms al (bc - mc') (bs - ms') 13 [(0, .ref v0), (1, .int v1), (2, .ref v2)] [] Γ I' L' Q) : am_W m_L_sufficientLimit (d + 1) mc ms al bc bs 0 [(0, .ref v0), (1, .int v1), (2, .ref v2)] [] Γ I L Q := by
  refine aw_aload_n dL_sufficientLimit_0 rfl ?_
  refine aw_iconst dL_sufficientLimit_1 ci_0 ?_
  refine aw_aload_n dL_sufficientLimit_2 rfl ?_
  refine aw_iload_n dL_sufficientLimit_3 rfl ?_
  refine aw_catchV (as := [.int v1]) (rst := [.int 0, .ref v2]) (nm := "java/lang/IndexOutOfBoundsException") (k := 3) (len := 1) (ls' := [(0, .ref v0), (1, .int v1), (2, .ref v2)]) k_X8_sufficientLimit l_L_129 i_X8_sufficientLimit s_X8_sufficientLimit rfl o1 dL_sufficientLimit_4 rfl (Nat.le_of_ble_eq_true rfl) hbc hbs hC rfl [] (0, 9, 12, 19) [] rfl ?_ (by decide) (by decide) cl_L_19 ca_IndexOutOfBoundsException (Or.inl ⟨3, rfl, dL_sufficientLimit_12, rfl⟩) (by decide) ?_ kk
  · intro z hz
    cases hz
  · intro q hq
    simp only [List.mem_cons, List.not_mem_nil, or_false] at hq
    rcases hq with rfl | rfl | rfl
    · exact List.mem_filter.mpr ⟨by simp, rfl⟩
    · exact List.mem_filter.mpr ⟨by simp, rfl⟩
    · exact List.mem_filter.mpr ⟨by simp, rfl⟩
theorem bL_sufficientLimit_7 {d mc ms : Nat} {al : Bool} {bc bs : Nat} {Γ : am_G} {I : am_I} {L : am_L} {Q : am_Q} {v0 : Nat} {v1 : Int32} {v2 : Nat} {w0 : Nat} {w1 : Int32} {w2 : Int32} {n_w0 : Nat} (a1 : am_ar Γ w0 4 n_w0 0) (i2 : vp_in w1 n_w0) (kk : am_W m_L_sufficientLimit d mc ms al bc bs 15 [(0, .ref v0), (1, .int v1), (2, .ref v2)] [] Γ I (am_ul L w0 (w1.toNatClampNeg) (w2.toInt64)) Q) : am_W m_L_sufficientLimit d mc ms al bc bs 7 [(0, .ref v0), (1, .int v1), (2, .ref v2)] [.int w2, .int w1, .ref w0] Γ I L Q := by
  refine aw_i2l dL_sufficientLimit_7 ?_
  refine aw_last dL_sufficientLimit_8 a1 i2 ?_
  exact aw_goto dL_sufficientLimit_9 (by decide) kk
theorem bL_sufficientLimit_13 {d mc ms : Nat} {al : Bool} {bc bs : Nat} {Γ : am_G} {I : am_I} {L : am_L} {Q : am_Q} {v0 : Nat} {v1 : Int32} {v2 : Nat} (hq : Q (.inl (some (.int 1))) Γ I L) : am_W m_L_sufficientLimit d mc ms al bc bs 13 [(0, .ref v0), (1, .int v1), (2, .ref v2)] [] Γ I L Q := by
  refine aw_iconst dL_sufficientLimit_13 ci_1 ?_
  exact aw_iret dL_sufficientLimit_14 rfl hq
theorem bL_sufficientLimit_15 {d mc ms : Nat} {al : Bool} {bc bs : Nat} {Γ : am_G} {I : am_I} {L : am_L} {Q : am_Q} {v0 : Nat} {v1 : Int32} {v2 : Nat} (hq : Q (.inl (some (.int 0))) Γ I L) : am_W m_L_sufficientLimit d mc ms al bc bs 15 [(0, .ref v0), (1, .int v1), (2, .ref v2)] [] Γ I L Q := by
  refine aw_iconst dL_sufficientLimit_15 ci_0 ?_
  exact aw_iret dL_sufficientLimit_16 rfl hq
theorem dL_quickestGate_0 : decode cL_quickestGate 0 = .ok (.aload_n 2, 1) := by decide +kernel
theorem dL_quickestGate_1 : decode cL_quickestGate 1 = .ok (.iconst 0, 1) := by decide +kernel
theorem dL_quickestGate_2 : decode cL_quickestGate 2 = .ok (.aload_n 0, 1) := by decide +kernel
theorem dL_quickestGate_3 : decode cL_quickestGate 3 = .ok (.iload_n 1, 1) := by decide +kernel
theorem dL_quickestGate_4 : decode cL_quickestGate 4 = .ok (.invokevirtual 132, 3) := by decide +kernel
theorem dL_quickestGate_7 : decode cL_quickestGate 7 = .ok (.i2l, 1) := by decide +kernel
theorem dL_quickestGate_8 : decode cL_quickestGate 8 = .ok (.lastore, 1) := by decide +kernel
theorem dL_quickestGate_9 : decode cL_quickestGate 9 = .ok (.goto 6, 3) := by decide +kernel
theorem dL_quickestGate_12 : decode cL_quickestGate 12 = .ok (.astore_n 3, 1) := by decide +kernel
theorem dL_quickestGate_13 : decode cL_quickestGate 13 = .ok (.iconst 1, 1) := by decide +kernel
theorem dL_quickestGate_14 : decode cL_quickestGate 14 = .ok (.ireturn, 1) := by decide +kernel
theorem dL_quickestGate_15 : decode cL_quickestGate 15 = .ok (.iconst 0, 1) := by decide +kernel
theorem dL_quickestGate_16 : decode cL_quickestGate 16 = .ok (.ireturn, 1) := by decide +kernel
theorem bL_quickestGate_0 {d mc ms : Nat} {al : Bool} {bc bs : Nat} {Γ : am_G} {I : am_I} {L : am_L} {Q : am_Q} {v0 : Nat} {v1 : Int32} {v2 : Nat} {I' : am_I} {L' : am_L} {mc' : Nat} {ms' : Nat} {r : Int32} (o1 : am_ob Γ v0 8) (hbc : mc' ≤ bc) (hbs : ms' ≤ bs) (hC : am_E m_X8_quickestGate d mc' ms' [.ref v0, .int v1] Γ I L (.inl (some (.int r))) I' L') (kk : am_W m_L_quickestGate (d + 1) mc ms al (bc - mc') (bs - ms') 7 [(0, .ref v0), (1, .int v1), (2, .ref v2)] [.int r, .int 0, .ref v2] Γ I' L' Q) : am_W m_L_quickestGate (d + 1) mc ms al bc bs 0 [(0, .ref v0), (1, .int v1), (2, .ref v2)] [] Γ I L Q := by
  refine aw_aload_n dL_quickestGate_0 rfl ?_
  refine aw_iconst dL_quickestGate_1 ci_0 ?_
  refine aw_aload_n dL_quickestGate_2 rfl ?_
  refine aw_iload_n dL_quickestGate_3 rfl ?_
  exact aw_askV (as := [.int v1]) (rst := [.int 0, .ref v2]) k_X8_quickestGate l_L_132 i_X8_quickestGate s_X8_quickestGate rfl o1 dL_quickestGate_4 rfl (Nat.le_of_ble_eq_true rfl) hbc hbs hC rfl rfl kk
theorem bL_quickestGate_0c1 {d mc ms : Nat} {al : Bool} {bc bs : Nat} {Γ : am_G} {I : am_I} {L : am_L} {Q : am_Q} {v0 : Nat} {v1 : Int32} {v2 : Nat} {I' : am_I} {L' : am_L} {mc' : Nat} {ms' : Nat} (o1 : am_ob Γ v0 8) (hbc : mc' ≤ bc) (hbs : ms' ≤ bs) (hC : am_E m_X8_quickestGate d mc' ms' [.ref v0, .int v1] Γ I L (.inr "java/lang/IndexOutOfBoundsException") I' L') (kk : am_W m_L_quickestGate (d + 1) mc ms al (bc - mc') (bs - ms') 13 [(0, .ref v0), (1, .int v1), (2, .ref v2)] [] Γ I' L' Q) : am_W m_L_quickestGate (d + 1) mc ms al bc bs 0 [(0, .ref v0), (1, .int v1), (2, .ref v2)] [] Γ I L Q := by
  refine aw_aload_n dL_quickestGate_0 rfl ?_
  refine aw_iconst dL_quickestGate_1 ci_0 ?_
  refine aw_aload_n dL_quickestGate_2 rfl ?_
  refine aw_iload_n dL_quickestGate_3 rfl ?_
  refine aw_catchV (as := [.int v1]) (rst := [.int 0, .ref v2]) (nm := "java/lang/IndexOutOfBoundsException") (k := 3) (len := 1) (ls' := [(0, .ref v0), (1, .int v1), (2, .ref v2)]) k_X8_quickestGate l_L_132 i_X8_quickestGate s_X8_quickestGate rfl o1 dL_quickestGate_4 rfl (Nat.le_of_ble_eq_true rfl) hbc hbs hC rfl [] (0, 9, 12, 19) [] rfl ?_ (by decide) (by decide) cl_L_19 ca_IndexOutOfBoundsException (Or.inl ⟨3, rfl, dL_quickestGate_12, rfl⟩) (by decide) ?_ kk
  · intro z hz
    cases hz
  · intro q hq
    simp only [List.mem_cons, List.not_mem_nil, or_false] at hq
    rcases hq with rfl | rfl | rfl
    · exact List.mem_filter.mpr ⟨by simp, rfl⟩
    · exact List.mem_filter.mpr ⟨by simp, rfl⟩
    · exact List.mem_filter.mpr ⟨by simp, rfl⟩
theorem bL_quickestGate_7 {d mc ms : Nat} {al : Bool} {bc bs : Nat} {Γ : am_G} {I : am_I} {L : am_L} {Q : am_Q} {v0 : Nat} {v1 : Int32} {v2 : Nat} {w0 : Nat} {w1 : Int32} {w2 : Int32} {n_w0 : Nat} (a1 : am_ar Γ w0 4 n_w0 0) (i2 : vp_in w1 n_w0) (kk : am_W m_L_quickestGate d mc ms al bc bs 15 [(0, .ref v0), (1, .int v1), (2, .ref v2)] [] Γ I (am_ul L w0 (w1.toNatClampNeg) (w2.toInt64)) Q) : am_W m_L_quickestGate d mc ms al bc bs 7 [(0, .ref v0), (1, .int v1), (2, .ref v2)] [.int w2, .int w1, .ref w0] Γ I L Q := by
  refine aw_i2l dL_quickestGate_7 ?_
  refine aw_last dL_quickestGate_8 a1 i2 ?_
  exact aw_goto dL_quickestGate_9 (by decide) kk
theorem bL_quickestGate_13 {d mc ms : Nat} {al : Bool} {bc bs : Nat} {Γ : am_G} {I : am_I} {L : am_L} {Q : am_Q} {v0 : Nat} {v1 : Int32} {v2 : Nat} (hq : Q (.inl (some (.int 1))) Γ I L) : am_W m_L_quickestGate d mc ms al bc bs 13 [(0, .ref v0), (1, .int v1), (2, .ref v2)] [] Γ I L Q := by
  refine aw_iconst dL_quickestGate_13 ci_1 ?_
  exact aw_iret dL_quickestGate_14 rfl hq
theorem bL_quickestGate_15 {d mc ms : Nat} {al : Bool} {bc bs : Nat} {Γ : am_G} {I : am_I} {L : am_L} {Q : am_Q} {v0 : Nat} {v1 : Int32} {v2 : Nat} (hq : Q (.inl (some (.int 0))) Γ I L) : am_W m_L_quickestGate d mc ms al bc bs 15 [(0, .ref v0), (1, .int v1), (2, .ref v2)] [] Γ I L Q := by
  refine aw_iconst dL_quickestGate_15 ci_0 ?_
  exact aw_iret dL_quickestGate_16 rfl hq
theorem dL_meanPathCost_0 : decode cL_meanPathCost 0 = .ok (.aload_n 2, 1) := by decide +kernel
theorem dL_meanPathCost_1 : decode cL_meanPathCost 1 = .ok (.iconst 0, 1) := by decide +kernel
theorem dL_meanPathCost_2 : decode cL_meanPathCost 2 = .ok (.aload_n 0, 1) := by decide +kernel
theorem dL_meanPathCost_3 : decode cL_meanPathCost 3 = .ok (.iload_n 1, 1) := by decide +kernel
theorem dL_meanPathCost_4 : decode cL_meanPathCost 4 = .ok (.invokevirtual 135, 3) := by decide +kernel
theorem dL_meanPathCost_7 : decode cL_meanPathCost 7 = .ok (.dastore, 1) := by decide +kernel
theorem dL_meanPathCost_8 : decode cL_meanPathCost 8 = .ok (.goto 6, 3) := by decide +kernel
theorem dL_meanPathCost_11 : decode cL_meanPathCost 11 = .ok (.astore_n 3, 1) := by decide +kernel
theorem dL_meanPathCost_12 : decode cL_meanPathCost 12 = .ok (.iconst 1, 1) := by decide +kernel
theorem dL_meanPathCost_13 : decode cL_meanPathCost 13 = .ok (.ireturn, 1) := by decide +kernel
theorem dL_meanPathCost_14 : decode cL_meanPathCost 14 = .ok (.iconst 0, 1) := by decide +kernel
theorem dL_meanPathCost_15 : decode cL_meanPathCost 15 = .ok (.ireturn, 1) := by decide +kernel
theorem bL_meanPathCost_0 {d mc ms : Nat} {al : Bool} {bc bs : Nat} {Γ : am_G} {I : am_I} {L : am_L} {Q : am_Q} {v0 : Nat} {v1 : Int32} {v2 : Nat} {I' : am_I} {L' : am_L} {mc' : Nat} {ms' : Nat} {r : UInt64} (o1 : am_ob Γ v0 8) (hbc : mc' ≤ bc) (hbs : ms' ≤ bs) (hC : am_E m_X8_meanPathCost d mc' ms' [.ref v0, .int v1] Γ I L (.inl (some (.double r))) I' L') (kk : am_W m_L_meanPathCost (d + 1) mc ms al (bc - mc') (bs - ms') 7 [(0, .ref v0), (1, .int v1), (2, .ref v2)] [.double r, .int 0, .ref v2] Γ I' L' Q) : am_W m_L_meanPathCost (d + 1) mc ms al bc bs 0 [(0, .ref v0), (1, .int v1), (2, .ref v2)] [] Γ I L Q := by
  refine aw_aload_n dL_meanPathCost_0 rfl ?_
  refine aw_iconst dL_meanPathCost_1 ci_0 ?_
  refine aw_aload_n dL_meanPathCost_2 rfl ?_
  refine aw_iload_n dL_meanPathCost_3 rfl ?_
  exact aw_askV (as := [.int v1]) (rst := [.int 0, .ref v2]) k_X8_meanPathCost l_L_135 i_X8_meanPathCost s_X8_meanPathCost rfl o1 dL_meanPathCost_4 rfl (Nat.le_of_ble_eq_true rfl) hbc hbs hC rfl rfl kk
theorem bL_meanPathCost_0c1 {d mc ms : Nat} {al : Bool} {bc bs : Nat} {Γ : am_G} {I : am_I} {L : am_L} {Q : am_Q} {v0 : Nat} {v1 : Int32} {v2 : Nat} {I' : am_I} {L' : am_L} {mc' : Nat} {ms' : Nat} (o1 : am_ob Γ v0 8) (hbc : mc' ≤ bc) (hbs : ms' ≤ bs) (hC : am_E m_X8_meanPathCost d mc' ms' [.ref v0, .int v1] Γ I L (.inr "java/lang/IndexOutOfBoundsException") I' L') (kk : am_W m_L_meanPathCost (d + 1) mc ms al (bc - mc') (bs - ms') 12 [(0, .ref v0), (1, .int v1), (2, .ref v2)] [] Γ I' L' Q) : am_W m_L_meanPathCost (d + 1) mc ms al bc bs 0 [(0, .ref v0), (1, .int v1), (2, .ref v2)] [] Γ I L Q := by
  refine aw_aload_n dL_meanPathCost_0 rfl ?_
  refine aw_iconst dL_meanPathCost_1 ci_0 ?_
  refine aw_aload_n dL_meanPathCost_2 rfl ?_
  refine aw_iload_n dL_meanPathCost_3 rfl ?_
  refine aw_catchV (as := [.int v1]) (rst := [.int 0, .ref v2]) (nm := "java/lang/IndexOutOfBoundsException") (k := 3) (len := 1) (ls' := [(0, .ref v0), (1, .int v1), (2, .ref v2)]) k_X8_meanPathCost l_L_135 i_X8_meanPathCost s_X8_meanPathCost rfl o1 dL_meanPathCost_4 rfl (Nat.le_of_ble_eq_true rfl) hbc hbs hC rfl [] (0, 8, 11, 19) [] rfl ?_ (by decide) (by decide) cl_L_19 ca_IndexOutOfBoundsException (Or.inl ⟨3, rfl, dL_meanPathCost_11, rfl⟩) (by decide) ?_ kk
  · intro z hz
    cases hz
  · intro q hq
    simp only [List.mem_cons, List.not_mem_nil, or_false] at hq
    rcases hq with rfl | rfl | rfl
    · exact List.mem_filter.mpr ⟨by simp, rfl⟩
    · exact List.mem_filter.mpr ⟨by simp, rfl⟩
    · exact List.mem_filter.mpr ⟨by simp, rfl⟩
theorem bL_meanPathCost_7 {d mc ms : Nat} {al : Bool} {bc bs : Nat} {Γ : am_G} {I : am_I} {L : am_L} {Q : am_Q} {v0 : Nat} {v1 : Int32} {v2 : Nat} {w0 : Nat} {w1 : Int32} {w2 : UInt64} {n_w0 : Nat} (a1 : am_ar Γ w0 5 n_w0 0) (i2 : vp_in w1 n_w0) (kk : am_W m_L_meanPathCost d mc ms al bc bs 14 [(0, .ref v0), (1, .int v1), (2, .ref v2)] [] Γ I (am_ul L w0 (w1.toNatClampNeg) (w2 : UInt64).toInt64) Q) : am_W m_L_meanPathCost d mc ms al bc bs 7 [(0, .ref v0), (1, .int v1), (2, .ref v2)] [.double w2, .int w1, .ref w0] Γ I L Q := by
  refine aw_dast dL_meanPathCost_7 a1 i2 ?_
  exact aw_goto dL_meanPathCost_8 (by decide) kk
theorem bL_meanPathCost_12 {d mc ms : Nat} {al : Bool} {bc bs : Nat} {Γ : am_G} {I : am_I} {L : am_L} {Q : am_Q} {v0 : Nat} {v1 : Int32} {v2 : Nat} (hq : Q (.inl (some (.int 1))) Γ I L) : am_W m_L_meanPathCost d mc ms al bc bs 12 [(0, .ref v0), (1, .int v1), (2, .ref v2)] [] Γ I L Q := by
  refine aw_iconst dL_meanPathCost_12 ci_1 ?_
  exact aw_iret dL_meanPathCost_13 rfl hq
theorem bL_meanPathCost_14 {d mc ms : Nat} {al : Bool} {bc bs : Nat} {Γ : am_G} {I : am_I} {L : am_L} {Q : am_Q} {v0 : Nat} {v1 : Int32} {v2 : Nat} (hq : Q (.inl (some (.int 0))) Γ I L) : am_W m_L_meanPathCost d mc ms al bc bs 14 [(0, .ref v0), (1, .int v1), (2, .ref v2)] [] Γ I L Q := by
  refine aw_iconst dL_meanPathCost_14 ci_0 ?_
  exact aw_iret dL_meanPathCost_15 rfl hq
theorem dL_writeTree_0 : decode cL_writeTree 0 = .ok (.aload_n 2, 1) := by decide +kernel
theorem dL_writeTree_1 : decode cL_writeTree 1 = .ok (.iconst 0, 1) := by decide +kernel
theorem dL_writeTree_2 : decode cL_writeTree 2 = .ok (.aload_n 0, 1) := by decide +kernel
theorem dL_writeTree_3 : decode cL_writeTree 3 = .ok (.iload_n 1, 1) := by decide +kernel
theorem dL_writeTree_4 : decode cL_writeTree 4 = .ok (.invokevirtual 139, 3) := by decide +kernel
theorem dL_writeTree_7 : decode cL_writeTree 7 = .ok (.i2l, 1) := by decide +kernel
theorem dL_writeTree_8 : decode cL_writeTree 8 = .ok (.lastore, 1) := by decide +kernel
theorem dL_writeTree_9 : decode cL_writeTree 9 = .ok (.goto 6, 3) := by decide +kernel
theorem dL_writeTree_12 : decode cL_writeTree 12 = .ok (.astore_n 3, 1) := by decide +kernel
theorem dL_writeTree_13 : decode cL_writeTree 13 = .ok (.iconst 1, 1) := by decide +kernel
theorem dL_writeTree_14 : decode cL_writeTree 14 = .ok (.ireturn, 1) := by decide +kernel
theorem dL_writeTree_15 : decode cL_writeTree 15 = .ok (.iconst 0, 1) := by decide +kernel
theorem dL_writeTree_16 : decode cL_writeTree 16 = .ok (.ireturn, 1) := by decide +kernel
theorem bL_writeTree_0 {d mc ms : Nat} {al : Bool} {bc bs : Nat} {Γ : am_G} {I : am_I} {L : am_L} {Q : am_Q} {v0 : Nat} {v1 : Int32} {v2 : Nat} {I' : am_I} {L' : am_L} {mc' : Nat} {ms' : Nat} {r : Int32} (o1 : am_ob Γ v0 8) (hbc : mc' ≤ bc) (hbs : ms' ≤ bs) (hC : am_E m_X8_writeTree d mc' ms' [.ref v0, .int v1] Γ I L (.inl (some (.int r))) I' L') (kk : am_W m_L_writeTree (d + 1) mc ms al (bc - mc') (bs - ms') 7 [(0, .ref v0), (1, .int v1), (2, .ref v2)] [.int r, .int 0, .ref v2] Γ I' L' Q) : am_W m_L_writeTree (d + 1) mc ms al bc bs 0 [(0, .ref v0), (1, .int v1), (2, .ref v2)] [] Γ I L Q := by
  refine aw_aload_n dL_writeTree_0 rfl ?_
  refine aw_iconst dL_writeTree_1 ci_0 ?_
  refine aw_aload_n dL_writeTree_2 rfl ?_
  refine aw_iload_n dL_writeTree_3 rfl ?_
  exact aw_askV (as := [.int v1]) (rst := [.int 0, .ref v2]) k_X8_writeTree l_L_139 i_X8_writeTree s_X8_writeTree rfl o1 dL_writeTree_4 rfl (Nat.le_of_ble_eq_true rfl) hbc hbs hC rfl rfl kk
theorem bL_writeTree_0c1 {d mc ms : Nat} {al : Bool} {bc bs : Nat} {Γ : am_G} {I : am_I} {L : am_L} {Q : am_Q} {v0 : Nat} {v1 : Int32} {v2 : Nat} {I' : am_I} {L' : am_L} {mc' : Nat} {ms' : Nat} (o1 : am_ob Γ v0 8) (hbc : mc' ≤ bc) (hbs : ms' ≤ bs) (hC : am_E m_X8_writeTree d mc' ms' [.ref v0, .int v1] Γ I L (.inr "java/lang/IndexOutOfBoundsException") I' L') (kk : am_W m_L_writeTree (d + 1) mc ms al (bc - mc') (bs - ms') 13 [(0, .ref v0), (1, .int v1), (2, .ref v2)] [] Γ I' L' Q) : am_W m_L_writeTree (d + 1) mc ms al bc bs 0 [(0, .ref v0), (1, .int v1), (2, .ref v2)] [] Γ I L Q := by
  refine aw_aload_n dL_writeTree_0 rfl ?_
  refine aw_iconst dL_writeTree_1 ci_0 ?_
  refine aw_aload_n dL_writeTree_2 rfl ?_
  refine aw_iload_n dL_writeTree_3 rfl ?_
  refine aw_catchV (as := [.int v1]) (rst := [.int 0, .ref v2]) (nm := "java/lang/IndexOutOfBoundsException") (k := 3) (len := 1) (ls' := [(0, .ref v0), (1, .int v1), (2, .ref v2)]) k_X8_writeTree l_L_139 i_X8_writeTree s_X8_writeTree rfl o1 dL_writeTree_4 rfl (Nat.le_of_ble_eq_true rfl) hbc hbs hC rfl [] (0, 9, 12, 19) [] rfl ?_ (by decide) (by decide) cl_L_19 ca_IndexOutOfBoundsException (Or.inl ⟨3, rfl, dL_writeTree_12, rfl⟩) (by decide) ?_ kk
  · intro z hz
    cases hz
  · intro q hq
    simp only [List.mem_cons, List.not_mem_nil, or_false] at hq
    rcases hq with rfl | rfl | rfl
    · exact List.mem_filter.mpr ⟨by simp, rfl⟩
    · exact List.mem_filter.mpr ⟨by simp, rfl⟩
    · exact List.mem_filter.mpr ⟨by simp, rfl⟩
theorem bL_writeTree_7 {d mc ms : Nat} {al : Bool} {bc bs : Nat} {Γ : am_G} {I : am_I} {L : am_L} {Q : am_Q} {v0 : Nat} {v1 : Int32} {v2 : Nat} {w0 : Nat} {w1 : Int32} {w2 : Int32} {n_w0 : Nat} (a1 : am_ar Γ w0 4 n_w0 0) (i2 : vp_in w1 n_w0) (kk : am_W m_L_writeTree d mc ms al bc bs 15 [(0, .ref v0), (1, .int v1), (2, .ref v2)] [] Γ I (am_ul L w0 (w1.toNatClampNeg) (w2.toInt64)) Q) : am_W m_L_writeTree d mc ms al bc bs 7 [(0, .ref v0), (1, .int v1), (2, .ref v2)] [.int w2, .int w1, .ref w0] Γ I L Q := by
  refine aw_i2l dL_writeTree_7 ?_
  refine aw_last dL_writeTree_8 a1 i2 ?_
  exact aw_goto dL_writeTree_9 (by decide) kk
theorem bL_writeTree_13 {d mc ms : Nat} {al : Bool} {bc bs : Nat} {Γ : am_G} {I : am_I} {L : am_L} {Q : am_Q} {v0 : Nat} {v1 : Int32} {v2 : Nat} (hq : Q (.inl (some (.int 1))) Γ I L) : am_W m_L_writeTree d mc ms al bc bs 13 [(0, .ref v0), (1, .int v1), (2, .ref v2)] [] Γ I L Q := by
  refine aw_iconst dL_writeTree_13 ci_1 ?_
  exact aw_iret dL_writeTree_14 rfl hq
theorem bL_writeTree_15 {d mc ms : Nat} {al : Bool} {bc bs : Nat} {Γ : am_G} {I : am_I} {L : am_L} {Q : am_Q} {v0 : Nat} {v1 : Int32} {v2 : Nat} (hq : Q (.inl (some (.int 0))) Γ I L) : am_W m_L_writeTree d mc ms al bc bs 15 [(0, .ref v0), (1, .int v1), (2, .ref v2)] [] Γ I L Q := by
  refine aw_iconst dL_writeTree_15 ci_0 ?_
  exact aw_iret dL_writeTree_16 rfl hq
