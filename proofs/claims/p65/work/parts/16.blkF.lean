/-! BLOCKS (printed by program): what each straight stretch of the code does in the numbered machine -/
theorem dL_truncateInput_0 : decode cL_truncateInput 0 = .ok (.aload_n 0, 1) := by decide +kernel
theorem dL_truncateInput_1 : decode cL_truncateInput 1 = .ok (.iload_n 1, 1) := by decide +kernel
theorem dL_truncateInput_2 : decode cL_truncateInput 2 = .ok (.invokevirtual 7, 3) := by decide +kernel
theorem dL_truncateInput_5 : decode cL_truncateInput 5 = .ok (.ireturn, 1) := by decide +kernel
theorem dL_truncateInput_6 : decode cL_truncateInput 6 = .ok (.astore_n 2, 1) := by decide +kernel
theorem dL_truncateInput_7 : decode cL_truncateInput 7 = .ok (.bipush (-18), 2) := by decide +kernel
theorem dL_truncateInput_9 : decode cL_truncateInput 9 = .ok (.ireturn, 1) := by decide +kernel
theorem bL_truncateInput_0 {d mc ms : Nat} {al : Bool} {bc bs : Nat} {Γ : am_G} {I : am_I} {L : am_L} {Q : am_Q} {v0 : Nat} {v1 : Int32} {I' : am_I} {L' : am_L} {mc' : Nat} {ms' : Nat} {r : Int32} (o1 : am_ob Γ v0 8) (hbc : mc' ≤ bc) (hbs : ms' ≤ bs) (hC : am_E m_X8_truncateInput d mc' ms' [.ref v0, .int v1] Γ I L (.inl (some (.int r))) I' L') (kk : am_W m_L_truncateInput (d + 1) mc ms al (bc - mc') (bs - ms') 5 [(0, .ref v0), (1, .int v1)] [.int r] Γ I' L' Q) : am_W m_L_truncateInput (d + 1) mc ms al bc bs 0 [(0, .ref v0), (1, .int v1)] [] Γ I L Q := by
  refine aw_aload_n dL_truncateInput_0 rfl ?_
  refine aw_iload_n dL_truncateInput_1 rfl ?_
  exact aw_askV (as := [.int v1]) (rst := []) k_X8_truncateInput l_L_7 i_X8_truncateInput s_X8_truncateInput rfl o1 dL_truncateInput_2 rfl (Nat.le_of_ble_eq_true rfl) hbc hbs hC rfl rfl kk
theorem bL_truncateInput_0c1 {d mc ms : Nat} {al : Bool} {bc bs : Nat} {Γ : am_G} {I : am_I} {L : am_L} {Q : am_Q} {v0 : Nat} {v1 : Int32} {I' : am_I} {L' : am_L} {mc' : Nat} {ms' : Nat} (o1 : am_ob Γ v0 8) (hbc : mc' ≤ bc) (hbs : ms' ≤ bs) (hC : am_E m_X8_truncateInput d mc' ms' [.ref v0, .int v1] Γ I L (.inr "java/lang/IllegalArgumentException") I' L') (kk : am_W m_L_truncateInput (d + 1) mc ms al (bc - mc') (bs - ms') 7 [(0, .ref v0), (1, .int v1)] [] Γ I' L' Q) : am_W m_L_truncateInput (d + 1) mc ms al bc bs 0 [(0, .ref v0), (1, .int v1)] [] Γ I L Q := by
  refine aw_aload_n dL_truncateInput_0 rfl ?_
  refine aw_iload_n dL_truncateInput_1 rfl ?_
  refine aw_catchV (as := [.int v1]) (rst := []) (nm := "java/lang/IllegalArgumentException") (k := 2) (len := 1) (ls' := [(0, .ref v0), (1, .int v1)]) k_X8_truncateInput l_L_7 i_X8_truncateInput s_X8_truncateInput rfl o1 dL_truncateInput_2 rfl (Nat.le_of_ble_eq_true rfl) hbc hbs hC rfl [] (0, 5, 6, 13) [] rfl ?_ (by decide) (by decide) cl_L_13 ca_IllegalArgumentException (Or.inl ⟨2, rfl, dL_truncateInput_6, rfl⟩) (by decide) ?_ kk
  · intro z hz
    cases hz
  · intro q hq
    simp only [List.mem_cons, List.not_mem_nil, or_false] at hq
    rcases hq with rfl | rfl
    · exact List.mem_filter.mpr ⟨by simp, rfl⟩
    · exact List.mem_filter.mpr ⟨by simp, rfl⟩
theorem bL_truncateInput_5 {d mc ms : Nat} {al : Bool} {bc bs : Nat} {Γ : am_G} {I : am_I} {L : am_L} {Q : am_Q} {v0 : Nat} {v1 : Int32} {w0 : Int32} (hq : Q (.inl (some (.int w0))) Γ I L) : am_W m_L_truncateInput d mc ms al bc bs 5 [(0, .ref v0), (1, .int v1)] [.int w0] Γ I L Q := by
  exact aw_iret dL_truncateInput_5 rfl hq
theorem bL_truncateInput_7 {d mc ms : Nat} {al : Bool} {bc bs : Nat} {Γ : am_G} {I : am_I} {L : am_L} {Q : am_Q} {v0 : Nat} {v1 : Int32} (hq : Q (.inl (some (.int (-18)))) Γ I L) : am_W m_L_truncateInput d mc ms al bc bs 7 [(0, .ref v0), (1, .int v1)] [] Γ I L Q := by
  refine aw_bipush dL_truncateInput_7 cb_m18 ?_
  exact aw_iret dL_truncateInput_9 rfl hq
theorem dL_passCarts_0 : decode cL_passCarts 0 = .ok (.aload_n 0, 1) := by decide +kernel
theorem dL_passCarts_1 : decode cL_passCarts 1 = .ok (.iload_n 1, 1) := by decide +kernel
theorem dL_passCarts_2 : decode cL_passCarts 2 = .ok (.iload_n 2, 1) := by decide +kernel
theorem dL_passCarts_3 : decode cL_passCarts 3 = .ok (.iload_n 3, 1) := by decide +kernel
theorem dL_passCarts_4 : decode cL_passCarts 4 = .ok (.invokevirtual 15, 3) := by decide +kernel
theorem dL_passCarts_7 : decode cL_passCarts 7 = .ok (.ireturn, 1) := by decide +kernel
theorem dL_passCarts_8 : decode cL_passCarts 8 = .ok (.astore 4, 2) := by decide +kernel
theorem dL_passCarts_10 : decode cL_passCarts 10 = .ok (.bipush (-17), 2) := by decide +kernel
theorem dL_passCarts_12 : decode cL_passCarts 12 = .ok (.ireturn, 1) := by decide +kernel
theorem dL_passCarts_13 : decode cL_passCarts 13 = .ok (.astore 4, 2) := by decide +kernel
theorem dL_passCarts_15 : decode cL_passCarts 15 = .ok (.bipush (-18), 2) := by decide +kernel
theorem dL_passCarts_17 : decode cL_passCarts 17 = .ok (.ireturn, 1) := by decide +kernel
theorem dL_passCarts_18 : decode cL_passCarts 18 = .ok (.astore 4, 2) := by decide +kernel
theorem dL_passCarts_20 : decode cL_passCarts 20 = .ok (.bipush (-19), 2) := by decide +kernel
theorem dL_passCarts_22 : decode cL_passCarts 22 = .ok (.ireturn, 1) := by decide +kernel
theorem bL_passCarts_0 {d mc ms : Nat} {al : Bool} {bc bs : Nat} {Γ : am_G} {I : am_I} {L : am_L} {Q : am_Q} {v0 : Nat} {v1 : Int32} {v2 : Int32} {v3 : Int32} {I' : am_I} {L' : am_L} {mc' : Nat} {ms' : Nat} {r : Int32} (o1 : am_ob Γ v0 8) (hbc : mc' ≤ bc) (hbs : ms' ≤ bs) (hC : am_E m_X8_passCarts d mc' ms' [.ref v0, .int v1, .int v2, .int v3] Γ I L (.inl (some (.int r))) I' L') (kk : am_W m_L_passCarts (d + 1) mc ms al (bc - mc') (bs - ms') 7 [(0, .ref v0), (1, .int v1), (2, .int v2), (3, .int v3)] [.int r] Γ I' L' Q) : am_W m_L_passCarts (d + 1) mc ms al bc bs 0 [(0, .ref v0), (1, .int v1), (2, .int v2), (3, .int v3)] [] Γ I L Q := by
  refine aw_aload_n dL_passCarts_0 rfl ?_
  refine aw_iload_n dL_passCarts_1 rfl ?_
  refine aw_iload_n dL_passCarts_2 rfl ?_
  refine aw_iload_n dL_passCarts_3 rfl ?_
  exact aw_askV (as := [.int v1, .int v2, .int v3]) (rst := []) k_X8_passCarts l_L_15 i_X8_passCarts s_X8_passCarts rfl o1 dL_passCarts_4 rfl (Nat.le_of_ble_eq_true rfl) hbc hbs hC rfl rfl kk
theorem bL_passCarts_0c1 {d mc ms : Nat} {al : Bool} {bc bs : Nat} {Γ : am_G} {I : am_I} {L : am_L} {Q : am_Q} {v0 : Nat} {v1 : Int32} {v2 : Int32} {v3 : Int32} {I' : am_I} {L' : am_L} {mc' : Nat} {ms' : Nat} (o1 : am_ob Γ v0 8) (hbc : mc' ≤ bc) (hbs : ms' ≤ bs) (hC : am_E m_X8_passCarts d mc' ms' [.ref v0, .int v1, .int v2, .int v3] Γ I L (.inr "java/lang/IndexOutOfBoundsException") I' L') (kk : am_W m_L_passCarts (d + 1) mc ms al (bc - mc') (bs - ms') 10 [(0, .ref v0), (1, .int v1), (2, .int v2), (3, .int v3)] [] Γ I' L' Q) : am_W m_L_passCarts (d + 1) mc ms al bc bs 0 [(0, .ref v0), (1, .int v1), (2, .int v2), (3, .int v3)] [] Γ I L Q := by
  refine aw_aload_n dL_passCarts_0 rfl ?_
  refine aw_iload_n dL_passCarts_1 rfl ?_
  refine aw_iload_n dL_passCarts_2 rfl ?_
  refine aw_iload_n dL_passCarts_3 rfl ?_
  refine aw_catchV (as := [.int v1, .int v2, .int v3]) (rst := []) (nm := "java/lang/IndexOutOfBoundsException") (k := 4) (len := 2) (ls' := [(0, .ref v0), (1, .int v1), (2, .int v2), (3, .int v3)]) k_X8_passCarts l_L_15 i_X8_passCarts s_X8_passCarts rfl o1 dL_passCarts_4 rfl (Nat.le_of_ble_eq_true rfl) hbc hbs hC rfl [] (0, 7, 8, 19) [(0, 7, 13, 13), (0, 7, 18, 21)] rfl ?_ (by decide) (by decide) cl_L_19 ca_IndexOutOfBoundsException (Or.inr ⟨dL_passCarts_8, rfl⟩) (by decide) ?_ kk
  · intro z hz
    cases hz
  · intro q hq
    simp only [List.mem_cons, List.not_mem_nil, or_false] at hq
    rcases hq with rfl | rfl | rfl | rfl
    · exact List.mem_filter.mpr ⟨by simp, rfl⟩
    · exact List.mem_filter.mpr ⟨by simp, rfl⟩
    · exact List.mem_filter.mpr ⟨by simp, rfl⟩
    · exact List.mem_filter.mpr ⟨by simp, rfl⟩
theorem bL_passCarts_0c2 {d mc ms : Nat} {al : Bool} {bc bs : Nat} {Γ : am_G} {I : am_I} {L : am_L} {Q : am_Q} {v0 : Nat} {v1 : Int32} {v2 : Int32} {v3 : Int32} {I' : am_I} {L' : am_L} {mc' : Nat} {ms' : Nat} (o1 : am_ob Γ v0 8) (hbc : mc' ≤ bc) (hbs : ms' ≤ bs) (hC : am_E m_X8_passCarts d mc' ms' [.ref v0, .int v1, .int v2, .int v3] Γ I L (.inr "java/lang/IllegalArgumentException") I' L') (kk : am_W m_L_passCarts (d + 1) mc ms al (bc - mc') (bs - ms') 15 [(0, .ref v0), (1, .int v1), (2, .int v2), (3, .int v3)] [] Γ I' L' Q) : am_W m_L_passCarts (d + 1) mc ms al bc bs 0 [(0, .ref v0), (1, .int v1), (2, .int v2), (3, .int v3)] [] Γ I L Q := by
  refine aw_aload_n dL_passCarts_0 rfl ?_
  refine aw_iload_n dL_passCarts_1 rfl ?_
  refine aw_iload_n dL_passCarts_2 rfl ?_
  refine aw_iload_n dL_passCarts_3 rfl ?_
  refine aw_catchV (as := [.int v1, .int v2, .int v3]) (rst := []) (nm := "java/lang/IllegalArgumentException") (k := 4) (len := 2) (ls' := [(0, .ref v0), (1, .int v1), (2, .int v2), (3, .int v3)]) k_X8_passCarts l_L_15 i_X8_passCarts s_X8_passCarts rfl o1 dL_passCarts_4 rfl (Nat.le_of_ble_eq_true rfl) hbc hbs hC rfl [(0, 7, 8, 19)] (0, 7, 13, 13) [(0, 7, 18, 21)] rfl ?_ (by decide) (by decide) cl_L_13 ca_IllegalArgumentException (Or.inr ⟨dL_passCarts_13, rfl⟩) (by decide) ?_ kk
  · intro z hz
    simp only [List.mem_cons, List.not_mem_nil, or_false] at hz
    rcases hz with rfl
    · exact ⟨by decide, _, cl_L_19, by decide⟩
  · intro q hq
    simp only [List.mem_cons, List.not_mem_nil, or_false] at hq
    rcases hq with rfl | rfl | rfl | rfl
    · exact List.mem_filter.mpr ⟨by simp, rfl⟩
    · exact List.mem_filter.mpr ⟨by simp, rfl⟩
    · exact List.mem_filter.mpr ⟨by simp, rfl⟩
    · exact List.mem_filter.mpr ⟨by simp, rfl⟩
theorem bL_passCarts_0c3 {d mc ms : Nat} {al : Bool} {bc bs : Nat} {Γ : am_G} {I : am_I} {L : am_L} {Q : am_Q} {v0 : Nat} {v1 : Int32} {v2 : Int32} {v3 : Int32} {I' : am_I} {L' : am_L} {mc' : Nat} {ms' : Nat} (o1 : am_ob Γ v0 8) (hbc : mc' ≤ bc) (hbs : ms' ≤ bs) (hC : am_E m_X8_passCarts d mc' ms' [.ref v0, .int v1, .int v2, .int v3] Γ I L (.inr "java/lang/IllegalStateException") I' L') (kk : am_W m_L_passCarts (d + 1) mc ms al (bc - mc') (bs - ms') 20 [(0, .ref v0), (1, .int v1), (2, .int v2), (3, .int v3)] [] Γ I' L' Q) : am_W m_L_passCarts (d + 1) mc ms al bc bs 0 [(0, .ref v0), (1, .int v1), (2, .int v2), (3, .int v3)] [] Γ I L Q := by
  refine aw_aload_n dL_passCarts_0 rfl ?_
  refine aw_iload_n dL_passCarts_1 rfl ?_
  refine aw_iload_n dL_passCarts_2 rfl ?_
  refine aw_iload_n dL_passCarts_3 rfl ?_
  refine aw_catchV (as := [.int v1, .int v2, .int v3]) (rst := []) (nm := "java/lang/IllegalStateException") (k := 4) (len := 2) (ls' := [(0, .ref v0), (1, .int v1), (2, .int v2), (3, .int v3)]) k_X8_passCarts l_L_15 i_X8_passCarts s_X8_passCarts rfl o1 dL_passCarts_4 rfl (Nat.le_of_ble_eq_true rfl) hbc hbs hC rfl [(0, 7, 8, 19), (0, 7, 13, 13)] (0, 7, 18, 21) [] rfl ?_ (by decide) (by decide) cl_L_21 ca_IllegalStateException (Or.inr ⟨dL_passCarts_18, rfl⟩) (by decide) ?_ kk
  · intro z hz
    simp only [List.mem_cons, List.not_mem_nil, or_false] at hz
    rcases hz with rfl | rfl
    · exact ⟨by decide, _, cl_L_19, by decide⟩
    · exact ⟨by decide, _, cl_L_13, by decide⟩
  · intro q hq
    simp only [List.mem_cons, List.not_mem_nil, or_false] at hq
    rcases hq with rfl | rfl | rfl | rfl
    · exact List.mem_filter.mpr ⟨by simp, rfl⟩
    · exact List.mem_filter.mpr ⟨by simp, rfl⟩
    · exact List.mem_filter.mpr ⟨by simp, rfl⟩
    · exact List.mem_filter.mpr ⟨by simp, rfl⟩
theorem bL_passCarts_7 {d mc ms : Nat} {al : Bool} {bc bs : Nat} {Γ : am_G} {I : am_I} {L : am_L} {Q : am_Q} {v0 : Nat} {v1 : Int32} {v2 : Int32} {v3 : Int32} {w0 : Int32} (hq : Q (.inl (some (.int w0))) Γ I L) : am_W m_L_passCarts d mc ms al bc bs 7 [(0, .ref v0), (1, .int v1), (2, .int v2), (3, .int v3)] [.int w0] Γ I L Q := by
  exact aw_iret dL_passCarts_7 rfl hq
theorem bL_passCarts_10 {d mc ms : Nat} {al : Bool} {bc bs : Nat} {Γ : am_G} {I : am_I} {L : am_L} {Q : am_Q} {v0 : Nat} {v1 : Int32} {v2 : Int32} {v3 : Int32} (hq : Q (.inl (some (.int (-17)))) Γ I L) : am_W m_L_passCarts d mc ms al bc bs 10 [(0, .ref v0), (1, .int v1), (2, .int v2), (3, .int v3)] [] Γ I L Q := by
  refine aw_bipush dL_passCarts_10 cb_m17 ?_
  exact aw_iret dL_passCarts_12 rfl hq
theorem bL_passCarts_15 {d mc ms : Nat} {al : Bool} {bc bs : Nat} {Γ : am_G} {I : am_I} {L : am_L} {Q : am_Q} {v0 : Nat} {v1 : Int32} {v2 : Int32} {v3 : Int32} (hq : Q (.inl (some (.int (-18)))) Γ I L) : am_W m_L_passCarts d mc ms al bc bs 15 [(0, .ref v0), (1, .int v1), (2, .int v2), (3, .int v3)] [] Γ I L Q := by
  refine aw_bipush dL_passCarts_15 cb_m18 ?_
  exact aw_iret dL_passCarts_17 rfl hq
theorem bL_passCarts_20 {d mc ms : Nat} {al : Bool} {bc bs : Nat} {Γ : am_G} {I : am_I} {L : am_L} {Q : am_Q} {v0 : Nat} {v1 : Int32} {v2 : Int32} {v3 : Int32} (hq : Q (.inl (some (.int (-19)))) Γ I L) : am_W m_L_passCarts d mc ms al bc bs 20 [(0, .ref v0), (1, .int v1), (2, .int v2), (3, .int v3)] [] Γ I L Q := by
  refine aw_bipush dL_passCarts_20 cb_m19 ?_
  exact aw_iret dL_passCarts_22 rfl hq
theorem dL_buildTree_0 : decode cL_buildTree 0 = .ok (.aload_n 0, 1) := by decide +kernel
theorem dL_buildTree_1 : decode cL_buildTree 1 = .ok (.iload_n 1, 1) := by decide +kernel
theorem dL_buildTree_2 : decode cL_buildTree 2 = .ok (.invokevirtual 23, 3) := by decide +kernel
theorem dL_buildTree_5 : decode cL_buildTree 5 = .ok (.ireturn, 1) := by decide +kernel
theorem dL_buildTree_6 : decode cL_buildTree 6 = .ok (.astore_n 2, 1) := by decide +kernel
theorem dL_buildTree_7 : decode cL_buildTree 7 = .ok (.bipush (-17), 2) := by decide +kernel
theorem dL_buildTree_9 : decode cL_buildTree 9 = .ok (.ireturn, 1) := by decide +kernel
theorem bL_buildTree_0 {d mc ms : Nat} {al : Bool} {bc bs : Nat} {Γ : am_G} {I : am_I} {L : am_L} {Q : am_Q} {v0 : Nat} {v1 : Int32} {I' : am_I} {L' : am_L} {mc' : Nat} {ms' : Nat} {r : Int32} (o1 : am_ob Γ v0 8) (hbc : mc' ≤ bc) (hbs : ms' ≤ bs) (hC : am_E m_X8_buildTree d mc' ms' [.ref v0, .int v1] Γ I L (.inl (some (.int r))) I' L') (kk : am_W m_L_buildTree (d + 1) mc ms al (bc - mc') (bs - ms') 5 [(0, .ref v0), (1, .int v1)] [.int r] Γ I' L' Q) : am_W m_L_buildTree (d + 1) mc ms al bc bs 0 [(0, .ref v0), (1, .int v1)] [] Γ I L Q := by
  refine aw_aload_n dL_buildTree_0 rfl ?_
  refine aw_iload_n dL_buildTree_1 rfl ?_
  exact aw_askV (as := [.int v1]) (rst := []) k_X8_buildTree l_L_23 i_X8_buildTree s_X8_buildTree rfl o1 dL_buildTree_2 rfl (Nat.le_of_ble_eq_true rfl) hbc hbs hC rfl rfl kk
theorem bL_buildTree_0c1 {d mc ms : Nat} {al : Bool} {bc bs : Nat} {Γ : am_G} {I : am_I} {L : am_L} {Q : am_Q} {v0 : Nat} {v1 : Int32} {I' : am_I} {L' : am_L} {mc' : Nat} {ms' : Nat} (o1 : am_ob Γ v0 8) (hbc : mc' ≤ bc) (hbs : ms' ≤ bs) (hC : am_E m_X8_buildTree d mc' ms' [.ref v0, .int v1] Γ I L (.inr "java/lang/IndexOutOfBoundsException") I' L') (kk : am_W m_L_buildTree (d + 1) mc ms al (bc - mc') (bs - ms') 7 [(0, .ref v0), (1, .int v1)] [] Γ I' L' Q) : am_W m_L_buildTree (d + 1) mc ms al bc bs 0 [(0, .ref v0), (1, .int v1)] [] Γ I L Q := by
  refine aw_aload_n dL_buildTree_0 rfl ?_
  refine aw_iload_n dL_buildTree_1 rfl ?_
  refine aw_catchV (as := [.int v1]) (rst := []) (nm := "java/lang/IndexOutOfBoundsException") (k := 2) (len := 1) (ls' := [(0, .ref v0), (1, .int v1)]) k_X8_buildTree l_L_23 i_X8_buildTree s_X8_buildTree rfl o1 dL_buildTree_2 rfl (Nat.le_of_ble_eq_true rfl) hbc hbs hC rfl [] (0, 5, 6, 19) [] rfl ?_ (by decide) (by decide) cl_L_19 ca_IndexOutOfBoundsException (Or.inl ⟨2, rfl, dL_buildTree_6, rfl⟩) (by decide) ?_ kk
  · intro z hz
    cases hz
  · intro q hq
    simp only [List.mem_cons, List.not_mem_nil, or_false] at hq
    rcases hq with rfl | rfl
    · exact List.mem_filter.mpr ⟨by simp, rfl⟩
    · exact List.mem_filter.mpr ⟨by simp, rfl⟩
theorem bL_buildTree_5 {d mc ms : Nat} {al : Bool} {bc bs : Nat} {Γ : am_G} {I : am_I} {L : am_L} {Q : am_Q} {v0 : Nat} {v1 : Int32} {w0 : Int32} (hq : Q (.inl (some (.int w0))) Γ I L) : am_W m_L_buildTree d mc ms al bc bs 5 [(0, .ref v0), (1, .int v1)] [.int w0] Γ I L Q := by
  exact aw_iret dL_buildTree_5 rfl hq
theorem bL_buildTree_7 {d mc ms : Nat} {al : Bool} {bc bs : Nat} {Γ : am_G} {I : am_I} {L : am_L} {Q : am_Q} {v0 : Nat} {v1 : Int32} (hq : Q (.inl (some (.int (-17)))) Γ I L) : am_W m_L_buildTree d mc ms al bc bs 7 [(0, .ref v0), (1, .int v1)] [] Γ I L Q := by
  refine aw_bipush dL_buildTree_7 cb_m17 ?_
  exact aw_iret dL_buildTree_9 rfl hq
theorem dL_halveCounts_0 : decode cL_halveCounts 0 = .ok (.aload_n 0, 1) := by decide +kernel
theorem dL_halveCounts_1 : decode cL_halveCounts 1 = .ok (.iload_n 1, 1) := by decide +kernel
theorem dL_halveCounts_2 : decode cL_halveCounts 2 = .ok (.invokevirtual 26, 3) := by decide +kernel
theorem dL_halveCounts_5 : decode cL_halveCounts 5 = .ok (.ireturn, 1) := by decide +kernel
theorem dL_halveCounts_6 : decode cL_halveCounts 6 = .ok (.astore_n 2, 1) := by decide +kernel
theorem dL_halveCounts_7 : decode cL_halveCounts 7 = .ok (.bipush (-17), 2) := by decide +kernel
theorem dL_halveCounts_9 : decode cL_halveCounts 9 = .ok (.ireturn, 1) := by decide +kernel
theorem bL_halveCounts_0 {d mc ms : Nat} {al : Bool} {bc bs : Nat} {Γ : am_G} {I : am_I} {L : am_L} {Q : am_Q} {v0 : Nat} {v1 : Int32} {I' : am_I} {L' : am_L} {mc' : Nat} {ms' : Nat} {r : Int32} (o1 : am_ob Γ v0 8) (hbc : mc' ≤ bc) (hbs : ms' ≤ bs) (hC : am_E m_X8_halveCounts d mc' ms' [.ref v0, .int v1] Γ I L (.inl (some (.int r))) I' L') (kk : am_W m_L_halveCounts (d + 1) mc ms al (bc - mc') (bs - ms') 5 [(0, .ref v0), (1, .int v1)] [.int r] Γ I' L' Q) : am_W m_L_halveCounts (d + 1) mc ms al bc bs 0 [(0, .ref v0), (1, .int v1)] [] Γ I L Q := by
  refine aw_aload_n dL_halveCounts_0 rfl ?_
  refine aw_iload_n dL_halveCounts_1 rfl ?_
  exact aw_askV (as := [.int v1]) (rst := []) k_X8_halveCounts l_L_26 i_X8_halveCounts s_X8_halveCounts rfl o1 dL_halveCounts_2 rfl (Nat.le_of_ble_eq_true rfl) hbc hbs hC rfl rfl kk
theorem bL_halveCounts_0c1 {d mc ms : Nat} {al : Bool} {bc bs : Nat} {Γ : am_G} {I : am_I} {L : am_L} {Q : am_Q} {v0 : Nat} {v1 : Int32} {I' : am_I} {L' : am_L} {mc' : Nat} {ms' : Nat} (o1 : am_ob Γ v0 8) (hbc : mc' ≤ bc) (hbs : ms' ≤ bs) (hC : am_E m_X8_halveCounts d mc' ms' [.ref v0, .int v1] Γ I L (.inr "java/lang/IndexOutOfBoundsException") I' L') (kk : am_W m_L_halveCounts (d + 1) mc ms al (bc - mc') (bs - ms') 7 [(0, .ref v0), (1, .int v1)] [] Γ I' L' Q) : am_W m_L_halveCounts (d + 1) mc ms al bc bs 0 [(0, .ref v0), (1, .int v1)] [] Γ I L Q := by
  refine aw_aload_n dL_halveCounts_0 rfl ?_
  refine aw_iload_n dL_halveCounts_1 rfl ?_
  refine aw_catchV (as := [.int v1]) (rst := []) (nm := "java/lang/IndexOutOfBoundsException") (k := 2) (len := 1) (ls' := [(0, .ref v0), (1, .int v1)]) k_X8_halveCounts l_L_26 i_X8_halveCounts s_X8_halveCounts rfl o1 dL_halveCounts_2 rfl (Nat.le_of_ble_eq_true rfl) hbc hbs hC rfl [] (0, 5, 6, 19) [] rfl ?_ (by decide) (by decide) cl_L_19 ca_IndexOutOfBoundsException (Or.inl ⟨2, rfl, dL_halveCounts_6, rfl⟩) (by decide) ?_ kk
  · intro z hz
    cases hz
  · intro q hq
    simp only [List.mem_cons, List.not_mem_nil, or_false] at hq
    rcases hq with rfl | rfl
    · exact List.mem_filter.mpr ⟨by simp, rfl⟩
    · exact List.mem_filter.mpr ⟨by simp, rfl⟩
theorem bL_halveCounts_5 {d mc ms : Nat} {al : Bool} {bc bs : Nat} {Γ : am_G} {I : am_I} {L : am_L} {Q : am_Q} {v0 : Nat} {v1 : Int32} {w0 : Int32} (hq : Q (.inl (some (.int w0))) Γ I L) : am_W m_L_halveCounts d mc ms al bc bs 5 [(0, .ref v0), (1, .int v1)] [.int w0] Γ I L Q := by
  exact aw_iret dL_halveCounts_5 rfl hq
theorem bL_halveCounts_7 {d mc ms : Nat} {al : Bool} {bc bs : Nat} {Γ : am_G} {I : am_I} {L : am_L} {Q : am_Q} {v0 : Nat} {v1 : Int32} (hq : Q (.inl (some (.int (-17)))) Γ I L) : am_W m_L_halveCounts d mc ms al bc bs 7 [(0, .ref v0), (1, .int v1)] [] Γ I L Q := by
  refine aw_bipush dL_halveCounts_7 cb_m17 ?_
  exact aw_iret dL_halveCounts_9 rfl hq
theorem dL_setToll_0 : decode cL_setToll 0 = .ok (.aload_n 0, 1) := by decide +kernel
theorem dL_setToll_1 : decode cL_setToll 1 = .ok (.iload_n 1, 1) := by decide +kernel
theorem dL_setToll_2 : decode cL_setToll 2 = .ok (.iload_n 2, 1) := by decide +kernel
theorem dL_setToll_3 : decode cL_setToll 3 = .ok (.invokevirtual 29, 3) := by decide +kernel
theorem dL_setToll_6 : decode cL_setToll 6 = .ok (.ireturn, 1) := by decide +kernel
theorem dL_setToll_7 : decode cL_setToll 7 = .ok (.astore_n 3, 1) := by decide +kernel
theorem dL_setToll_8 : decode cL_setToll 8 = .ok (.bipush (-17), 2) := by decide +kernel
theorem dL_setToll_10 : decode cL_setToll 10 = .ok (.ireturn, 1) := by decide +kernel
theorem dL_setToll_11 : decode cL_setToll 11 = .ok (.astore_n 3, 1) := by decide +kernel
theorem dL_setToll_12 : decode cL_setToll 12 = .ok (.bipush (-18), 2) := by decide +kernel
theorem dL_setToll_14 : decode cL_setToll 14 = .ok (.ireturn, 1) := by decide +kernel
theorem bL_setToll_0 {d mc ms : Nat} {al : Bool} {bc bs : Nat} {Γ : am_G} {I : am_I} {L : am_L} {Q : am_Q} {v0 : Nat} {v1 : Int32} {v2 : Int32} {I' : am_I} {L' : am_L} {mc' : Nat} {ms' : Nat} {r : Int32} (o1 : am_ob Γ v0 8) (hbc : mc' ≤ bc) (hbs : ms' ≤ bs) (hC : am_E m_X8_setToll d mc' ms' [.ref v0, .int v1, .int v2] Γ I L (.inl (some (.int r))) I' L') (kk : am_W m_L_setToll (d + 1) mc ms al (bc - mc') (bs - ms') 6 [(0, .ref v0), (1, .int v1), (2, .int v2)] [.int r] Γ I' L' Q) : am_W m_L_setToll (d + 1) mc ms al bc bs 0 [(0, .ref v0), (1, .int v1), (2, .int v2)] [] Γ I L Q := by
  refine aw_aload_n dL_setToll_0 rfl ?_
  refine aw_iload_n dL_setToll_1 rfl ?_
  refine aw_iload_n dL_setToll_2 rfl ?_
  exact aw_askV (as := [.int v1, .int v2]) (rst := []) k_X8_setToll l_L_29 i_X8_setToll s_X8_setToll rfl o1 dL_setToll_3 rfl (Nat.le_of_ble_eq_true rfl) hbc hbs hC rfl rfl kk
theorem bL_setToll_0c1 {d mc ms : Nat} {al : Bool} {bc bs : Nat} {Γ : am_G} {I : am_I} {L : am_L} {Q : am_Q} {v0 : Nat} {v1 : Int32} {v2 : Int32} {I' : am_I} {L' : am_L} {mc' : Nat} {ms' : Nat} (o1 : am_ob Γ v0 8) (hbc : mc' ≤ bc) (hbs : ms' ≤ bs) (hC : am_E m_X8_setToll d mc' ms' [.ref v0, .int v1, .int v2] Γ I L (.inr "java/lang/IndexOutOfBoundsException") I' L') (kk : am_W m_L_setToll (d + 1) mc ms al (bc - mc') (bs - ms') 8 [(0, .ref v0), (1, .int v1), (2, .int v2)] [] Γ I' L' Q) : am_W m_L_setToll (d + 1) mc ms al bc bs 0 [(0, .ref v0), (1, .int v1), (2, .int v2)] [] Γ I L Q := by
  refine aw_aload_n dL_setToll_0 rfl ?_
  refine aw_iload_n dL_setToll_1 rfl ?_
  refine aw_iload_n dL_setToll_2 rfl ?_
  refine aw_catchV (as := [.int v1, .int v2]) (rst := []) (nm := "java/lang/IndexOutOfBoundsException") (k := 3) (len := 1) (ls' := [(0, .ref v0), (1, .int v1), (2, .int v2)]) k_X8_setToll l_L_29 i_X8_setToll s_X8_setToll rfl o1 dL_setToll_3 rfl (Nat.le_of_ble_eq_true rfl) hbc hbs hC rfl [] (0, 6, 7, 19) [(0, 6, 11, 13)] rfl ?_ (by decide) (by decide) cl_L_19 ca_IndexOutOfBoundsException (Or.inl ⟨3, rfl, dL_setToll_7, rfl⟩) (by decide) ?_ kk
  · intro z hz
    cases hz
  · intro q hq
    simp only [List.mem_cons, List.not_mem_nil, or_false] at hq
    rcases hq with rfl | rfl | rfl
    · exact List.mem_filter.mpr ⟨by simp, rfl⟩
    · exact List.mem_filter.mpr ⟨by simp, rfl⟩
    · exact List.mem_filter.mpr ⟨by simp, rfl⟩
theorem bL_setToll_0c2 {d mc ms : Nat} {al : Bool} {bc bs : Nat} {Γ : am_G} {I : am_I} {L : am_L} {Q : am_Q} {v0 : Nat} {v1 : Int32} {v2 : Int32} {I' : am_I} {L' : am_L} {mc' : Nat} {ms' : Nat} (o1 : am_ob Γ v0 8) (hbc : mc' ≤ bc) (hbs : ms' ≤ bs) (hC : am_E m_X8_setToll d mc' ms' [.ref v0, .int v1, .int v2] Γ I L (.inr "java/lang/IllegalArgumentException") I' L') (kk : am_W m_L_setToll (d + 1) mc ms al (bc - mc') (bs - ms') 12 [(0, .ref v0), (1, .int v1), (2, .int v2)] [] Γ I' L' Q) : am_W m_L_setToll (d + 1) mc ms al bc bs 0 [(0, .ref v0), (1, .int v1), (2, .int v2)] [] Γ I L Q := by
  refine aw_aload_n dL_setToll_0 rfl ?_
  refine aw_iload_n dL_setToll_1 rfl ?_
  refine aw_iload_n dL_setToll_2 rfl ?_
  refine aw_catchV (as := [.int v1, .int v2]) (rst := []) (nm := "java/lang/IllegalArgumentException") (k := 3) (len := 1) (ls' := [(0, .ref v0), (1, .int v1), (2, .int v2)]) k_X8_setToll l_L_29 i_X8_setToll s_X8_setToll rfl o1 dL_setToll_3 rfl (Nat.le_of_ble_eq_true rfl) hbc hbs hC rfl [(0, 6, 7, 19)] (0, 6, 11, 13) [] rfl ?_ (by decide) (by decide) cl_L_13 ca_IllegalArgumentException (Or.inl ⟨3, rfl, dL_setToll_11, rfl⟩) (by decide) ?_ kk
  · intro z hz
    simp only [List.mem_cons, List.not_mem_nil, or_false] at hz
    rcases hz with rfl
    · exact ⟨by decide, _, cl_L_19, by decide⟩
  · intro q hq
    simp only [List.mem_cons, List.not_mem_nil, or_false] at hq
    rcases hq with rfl | rfl | rfl
    · exact List.mem_filter.mpr ⟨by simp, rfl⟩
    · exact List.mem_filter.mpr ⟨by simp, rfl⟩
    · exact List.mem_filter.mpr ⟨by simp, rfl⟩
theorem bL_setToll_6 {d mc ms : Nat} {al : Bool} {bc bs : Nat} {Γ : am_G} {I : am_I} {L : am_L} {Q : am_Q} {v0 : Nat} {v1 : Int32} {v2 : Int32} {w0 : Int32} (hq : Q (.inl (some (.int w0))) Γ I L) : am_W m_L_setToll d mc ms al bc bs 6 [(0, .ref v0), (1, .int v1), (2, .int v2)] [.int w0] Γ I L Q := by
  exact aw_iret dL_setToll_6 rfl hq
theorem bL_setToll_8 {d mc ms : Nat} {al : Bool} {bc bs : Nat} {Γ : am_G} {I : am_I} {L : am_L} {Q : am_Q} {v0 : Nat} {v1 : Int32} {v2 : Int32} (hq : Q (.inl (some (.int (-17)))) Γ I L) : am_W m_L_setToll d mc ms al bc bs 8 [(0, .ref v0), (1, .int v1), (2, .int v2)] [] Γ I L Q := by
  refine aw_bipush dL_setToll_8 cb_m17 ?_
  exact aw_iret dL_setToll_10 rfl hq
theorem bL_setToll_12 {d mc ms : Nat} {al : Bool} {bc bs : Nat} {Γ : am_G} {I : am_I} {L : am_L} {Q : am_Q} {v0 : Nat} {v1 : Int32} {v2 : Int32} (hq : Q (.inl (some (.int (-18)))) Γ I L) : am_W m_L_setToll d mc ms al bc bs 12 [(0, .ref v0), (1, .int v1), (2, .int v2)] [] Γ I L Q := by
  refine aw_bipush dL_setToll_12 cb_m18 ?_
  exact aw_iret dL_setToll_14 rfl hq
theorem dL_setCostLimit_0 : decode cL_setCostLimit 0 = .ok (.aload_n 0, 1) := by decide +kernel
theorem dL_setCostLimit_1 : decode cL_setCostLimit 1 = .ok (.iload_n 1, 1) := by decide +kernel
theorem dL_setCostLimit_2 : decode cL_setCostLimit 2 = .ok (.iload_n 2, 1) := by decide +kernel
theorem dL_setCostLimit_3 : decode cL_setCostLimit 3 = .ok (.invokevirtual 33, 3) := by decide +kernel
theorem dL_setCostLimit_6 : decode cL_setCostLimit 6 = .ok (.ireturn, 1) := by decide +kernel
theorem dL_setCostLimit_7 : decode cL_setCostLimit 7 = .ok (.astore_n 3, 1) := by decide +kernel
theorem dL_setCostLimit_8 : decode cL_setCostLimit 8 = .ok (.bipush (-17), 2) := by decide +kernel
theorem dL_setCostLimit_10 : decode cL_setCostLimit 10 = .ok (.ireturn, 1) := by decide +kernel
theorem dL_setCostLimit_11 : decode cL_setCostLimit 11 = .ok (.astore_n 3, 1) := by decide +kernel
theorem dL_setCostLimit_12 : decode cL_setCostLimit 12 = .ok (.bipush (-18), 2) := by decide +kernel
theorem dL_setCostLimit_14 : decode cL_setCostLimit 14 = .ok (.ireturn, 1) := by decide +kernel
theorem bL_setCostLimit_0 {d mc ms : Nat} {al : Bool} {bc bs : Nat} {Γ : am_G} {I : am_I} {L : am_L} {Q : am_Q} {v0 : Nat} {v1 : Int32} {v2 : Int32} {I' : am_I} {L' : am_L} {mc' : Nat} {ms' : Nat} {r : Int32} (o1 : am_ob Γ v0 8) (hbc : mc' ≤ bc) (hbs : ms' ≤ bs) (hC : am_E m_X8_setCostLimit d mc' ms' [.ref v0, .int v1, .int v2] Γ I L (.inl (some (.int r))) I' L') (kk : am_W m_L_setCostLimit (d + 1) mc ms al (bc - mc') (bs - ms') 6 [(0, .ref v0), (1, .int v1), (2, .int v2)] [.int r] Γ I' L' Q) : am_W m_L_setCostLimit (d + 1) mc ms al bc bs 0 [(0, .ref v0), (1, .int v1), (2, .int v2)] [] Γ I L Q := by
  refine aw_aload_n dL_setCostLimit_0 rfl ?_
  refine aw_iload_n dL_setCostLimit_1 rfl ?_
  refine aw_iload_n dL_setCostLimit_2 rfl ?_
  exact aw_askV (as := [.int v1, .int v2]) (rst := []) k_X8_setCostLimit l_L_33 i_X8_setCostLimit s_X8_setCostLimit rfl o1 dL_setCostLimit_3 rfl (Nat.le_of_ble_eq_true rfl) hbc hbs hC rfl rfl kk
theorem bL_setCostLimit_0c1 {d mc ms : Nat} {al : Bool} {bc bs : Nat} {Γ : am_G} {I : am_I} {L : am_L} {Q : am_Q} {v0 : Nat} {v1 : Int32} {v2 : Int32} {I' : am_I} {L' : am_L} {mc' : Nat} {ms' : Nat} (o1 : am_ob Γ v0 8) (hbc : mc' ≤ bc) (hbs : ms' ≤ bs) (hC : am_E m_X8_setCostLimit d mc' ms' [.ref v0, .int v1, .int v2] Γ I L (.inr "java/lang/IndexOutOfBoundsException") I' L') (kk : am_W m_L_setCostLimit (d + 1) mc ms al (bc - mc') (bs - ms') 8 [(0, .ref v0), (1, .int v1), (2, .int v2)] [] Γ I' L' Q) : am_W m_L_setCostLimit (d + 1) mc ms al bc bs 0 [(0, .ref v0), (1, .int v1), (2, .int v2)] [] Γ I L Q := by
  refine aw_aload_n dL_setCostLimit_0 rfl ?_
  refine aw_iload_n dL_setCostLimit_1 rfl ?_
  refine aw_iload_n dL_setCostLimit_2 rfl ?_
  refine aw_catchV (as := [.int v1, .int v2]) (rst := []) (nm := "java/lang/IndexOutOfBoundsException") (k := 3) (len := 1) (ls' := [(0, .ref v0), (1, .int v1), (2, .int v2)]) k_X8_setCostLimit l_L_33 i_X8_setCostLimit s_X8_setCostLimit rfl o1 dL_setCostLimit_3 rfl (Nat.le_of_ble_eq_true rfl) hbc hbs hC rfl [] (0, 6, 7, 19) [(0, 6, 11, 13)] rfl ?_ (by decide) (by decide) cl_L_19 ca_IndexOutOfBoundsException (Or.inl ⟨3, rfl, dL_setCostLimit_7, rfl⟩) (by decide) ?_ kk
  · intro z hz
    cases hz
  · intro q hq
    simp only [List.mem_cons, List.not_mem_nil, or_false] at hq
    rcases hq with rfl | rfl | rfl
    · exact List.mem_filter.mpr ⟨by simp, rfl⟩
    · exact List.mem_filter.mpr ⟨by simp, rfl⟩
    · exact List.mem_filter.mpr ⟨by simp, rfl⟩
theorem bL_setCostLimit_0c2 {d mc ms : Nat} {al : Bool} {bc bs : Nat} {Γ : am_G} {I : am_I} {L : am_L} {Q : am_Q} {v0 : Nat} {v1 : Int32} {v2 : Int32} {I' : am_I} {L' : am_L} {mc' : Nat} {ms' : Nat} (o1 : am_ob Γ v0 8) (hbc : mc' ≤ bc) (hbs : ms' ≤ bs) (hC : am_E m_X8_setCostLimit d mc' ms' [.ref v0, .int v1, .int v2] Γ I L (.inr "java/lang/IllegalArgumentException") I' L') (kk : am_W m_L_setCostLimit (d + 1) mc ms al (bc - mc') (bs - ms') 12 [(0, .ref v0), (1, .int v1), (2, .int v2)] [] Γ I' L' Q) : am_W m_L_setCostLimit (d + 1) mc ms al bc bs 0 [(0, .ref v0), (1, .int v1), (2, .int v2)] [] Γ I L Q := by
  refine aw_aload_n dL_setCostLimit_0 rfl ?_
  refine aw_iload_n dL_setCostLimit_1 rfl ?_
  refine aw_iload_n dL_setCostLimit_2 rfl ?_
  refine aw_catchV (as := [.int v1, .int v2]) (rst := []) (nm := "java/lang/IllegalArgumentException") (k := 3) (len := 1) (ls' := [(0, .ref v0), (1, .int v1), (2, .int v2)]) k_X8_setCostLimit l_L_33 i_X8_setCostLimit s_X8_setCostLimit rfl o1 dL_setCostLimit_3 rfl (Nat.le_of_ble_eq_true rfl) hbc hbs hC rfl [(0, 6, 7, 19)] (0, 6, 11, 13) [] rfl ?_ (by decide) (by decide) cl_L_13 ca_IllegalArgumentException (Or.inl ⟨3, rfl, dL_setCostLimit_11, rfl⟩) (by decide) ?_ kk
  · intro z hz
    simp only [List.mem_cons, List.not_mem_nil, or_false] at hz
    rcases hz with rfl
    · exact ⟨by decide, _, cl_L_19, by decide⟩
  · intro q hq
    simp only [List.mem_cons, List.not_mem_nil, or_false] at hq
    rcases hq with rfl | rfl | rfl
    · exact List.mem_filter.mpr ⟨by simp, rfl⟩
    · exact List.mem_filter.mpr ⟨by simp, rfl⟩
    · exact List.mem_filter.mpr ⟨by simp, rfl⟩
theorem bL_setCostLimit_6 {d mc ms : Nat} {al : Bool} {bc bs : Nat} {Γ : am_G} {I : am_I} {L : am_L} {Q : am_Q} {v0 : Nat} {v1 : Int32} {v2 : Int32} {w0 : Int32} (hq : Q (.inl (some (.int w0))) Γ I L) : am_W m_L_setCostLimit d mc ms al bc bs 6 [(0, .ref v0), (1, .int v1), (2, .int v2)] [.int w0] Γ I L Q := by
  exact aw_iret dL_setCostLimit_6 rfl hq
theorem bL_setCostLimit_8 {d mc ms : Nat} {al : Bool} {bc bs : Nat} {Γ : am_G} {I : am_I} {L : am_L} {Q : am_Q} {v0 : Nat} {v1 : Int32} {v2 : Int32} (hq : Q (.inl (some (.int (-17)))) Γ I L) : am_W m_L_setCostLimit d mc ms al bc bs 8 [(0, .ref v0), (1, .int v1), (2, .int v2)] [] Γ I L Q := by
  refine aw_bipush dL_setCostLimit_8 cb_m17 ?_
  exact aw_iret dL_setCostLimit_10 rfl hq
theorem bL_setCostLimit_12 {d mc ms : Nat} {al : Bool} {bc bs : Nat} {Γ : am_G} {I : am_I} {L : am_L} {Q : am_Q} {v0 : Nat} {v1 : Int32} {v2 : Int32} (hq : Q (.inl (some (.int (-18)))) Γ I L) : am_W m_L_setCostLimit d mc ms al bc bs 12 [(0, .ref v0), (1, .int v1), (2, .int v2)] [] Γ I L Q := by
  refine aw_bipush dL_setCostLimit_12 cb_m18 ?_
  exact aw_iret dL_setCostLimit_14 rfl hq
theorem dL_advanceClock_0 : decode cL_advanceClock 0 = .ok (.aload_n 0, 1) := by decide +kernel
theorem dL_advanceClock_1 : decode cL_advanceClock 1 = .ok (.iload_n 1, 1) := by decide +kernel
theorem dL_advanceClock_2 : decode cL_advanceClock 2 = .ok (.invokevirtual 36, 3) := by decide +kernel
theorem dL_advanceClock_5 : decode cL_advanceClock 5 = .ok (.ireturn, 1) := by decide +kernel
theorem dL_advanceClock_6 : decode cL_advanceClock 6 = .ok (.astore_n 2, 1) := by decide +kernel
theorem dL_advanceClock_7 : decode cL_advanceClock 7 = .ok (.bipush (-18), 2) := by decide +kernel
theorem dL_advanceClock_9 : decode cL_advanceClock 9 = .ok (.ireturn, 1) := by decide +kernel
theorem dL_advanceClock_10 : decode cL_advanceClock 10 = .ok (.astore_n 2, 1) := by decide +kernel
theorem dL_advanceClock_11 : decode cL_advanceClock 11 = .ok (.bipush (-19), 2) := by decide +kernel
theorem dL_advanceClock_13 : decode cL_advanceClock 13 = .ok (.ireturn, 1) := by decide +kernel
theorem bL_advanceClock_0 {d mc ms : Nat} {al : Bool} {bc bs : Nat} {Γ : am_G} {I : am_I} {L : am_L} {Q : am_Q} {v0 : Nat} {v1 : Int32} {I' : am_I} {L' : am_L} {mc' : Nat} {ms' : Nat} {r : Int32} (o1 : am_ob Γ v0 8) (hbc : mc' ≤ bc) (hbs : ms' ≤ bs) (hC : am_E m_X8_advanceClock d mc' ms' [.ref v0, .int v1] Γ I L (.inl (some (.int r))) I' L') (kk : am_W m_L_advanceClock (d + 1) mc ms al (bc - mc') (bs - ms') 5 [(0, .ref v0), (1, .int v1)] [.int r] Γ I' L' Q) : am_W m_L_advanceClock (d + 1) mc ms al bc bs 0 [(0, .ref v0), (1, .int v1)] [] Γ I L Q := by
  refine aw_aload_n dL_advanceClock_0 rfl ?_
  refine aw_iload_n dL_advanceClock_1 rfl ?_
  exact aw_askV (as := [.int v1]) (rst := []) k_X8_advanceClock l_L_36 i_X8_advanceClock s_X8_advanceClock rfl o1 dL_advanceClock_2 rfl (Nat.le_of_ble_eq_true rfl) hbc hbs hC rfl rfl kk
theorem bL_advanceClock_0c1 {d mc ms : Nat} {al : Bool} {bc bs : Nat} {Γ : am_G} {I : am_I} {L : am_L} {Q : am_Q} {v0 : Nat} {v1 : Int32} {I' : am_I} {L' : am_L} {mc' : Nat} {ms' : Nat} (o1 : am_ob Γ v0 8) (hbc : mc' ≤ bc) (hbs : ms' ≤ bs) (hC : am_E m_X8_advanceClock d mc' ms' [.ref v0, .int v1] Γ I L (.inr "java/lang/IllegalArgumentException") I' L') (kk : am_W m_L_advanceClock (d + 1) mc ms al (bc - mc') (bs - ms') 7 [(0, .ref v0), (1, .int v1)] [] Γ I' L' Q) : am_W m_L_advanceClock (d + 1) mc ms al bc bs 0 [(0, .ref v0), (1, .int v1)] [] Γ I L Q := by
  refine aw_aload_n dL_advanceClock_0 rfl ?_
  refine aw_iload_n dL_advanceClock_1 rfl ?_
  refine aw_catchV (as := [.int v1]) (rst := []) (nm := "java/lang/IllegalArgumentException") (k := 2) (len := 1) (ls' := [(0, .ref v0), (1, .int v1)]) k_X8_advanceClock l_L_36 i_X8_advanceClock s_X8_advanceClock rfl o1 dL_advanceClock_2 rfl (Nat.le_of_ble_eq_true rfl) hbc hbs hC rfl [] (0, 5, 6, 13) [(0, 5, 10, 21)] rfl ?_ (by decide) (by decide) cl_L_13 ca_IllegalArgumentException (Or.inl ⟨2, rfl, dL_advanceClock_6, rfl⟩) (by decide) ?_ kk
  · intro z hz
    cases hz
  · intro q hq
    simp only [List.mem_cons, List.not_mem_nil, or_false] at hq
    rcases hq with rfl | rfl
    · exact List.mem_filter.mpr ⟨by simp, rfl⟩
    · exact List.mem_filter.mpr ⟨by simp, rfl⟩
theorem bL_advanceClock_0c2 {d mc ms : Nat} {al : Bool} {bc bs : Nat} {Γ : am_G} {I : am_I} {L : am_L} {Q : am_Q} {v0 : Nat} {v1 : Int32} {I' : am_I} {L' : am_L} {mc' : Nat} {ms' : Nat} (o1 : am_ob Γ v0 8) (hbc : mc' ≤ bc) (hbs : ms' ≤ bs) (hC : am_E m_X8_advanceClock d mc' ms' [.ref v0, .int v1] Γ I L (.inr "java/lang/IllegalStateException") I' L') (kk : am_W m_L_advanceClock (d + 1) mc ms al (bc - mc') (bs - ms') 11 [(0, .ref v0), (1, .int v1)] [] Γ I' L' Q) : am_W m_L_advanceClock (d + 1) mc ms al bc bs 0 [(0, .ref v0), (1, .int v1)] [] Γ I L Q := by
  refine aw_aload_n dL_advanceClock_0 rfl ?_
  refine aw_iload_n dL_advanceClock_1 rfl ?_
  refine aw_catchV (as := [.int v1]) (rst := []) (nm := "java/lang/IllegalStateException") (k := 2) (len := 1) (ls' := [(0, .ref v0), (1, .int v1)]) k_X8_advanceClock l_L_36 i_X8_advanceClock s_X8_advanceClock rfl o1 dL_advanceClock_2 rfl (Nat.le_of_ble_eq_true rfl) hbc hbs hC rfl [(0, 5, 6, 13)] (0, 5, 10, 21) [] rfl ?_ (by decide) (by decide) cl_L_21 ca_IllegalStateException (Or.inl ⟨2, rfl, dL_advanceClock_10, rfl⟩) (by decide) ?_ kk
  · intro z hz
    simp only [List.mem_cons, List.not_mem_nil, or_false] at hz
    rcases hz with rfl
    · exact ⟨by decide, _, cl_L_13, by decide⟩
  · intro q hq
    simp only [List.mem_cons, List.not_mem_nil, or_false] at hq
    rcases hq with rfl | rfl
    · exact List.mem_filter.mpr ⟨by simp, rfl⟩
    · exact List.mem_filter.mpr ⟨by simp, rfl⟩
theorem bL_advanceClock_5 {d mc ms : Nat} {al : Bool} {bc bs : Nat} {Γ : am_G} {I : am_I} {L : am_L} {Q : am_Q} {v0 : Nat} {v1 : Int32} {w0 : Int32} (hq : Q (.inl (some (.int w0))) Γ I L) : am_W m_L_advanceClock d mc ms al bc bs 5 [(0, .ref v0), (1, .int v1)] [.int w0] Γ I L Q := by
  exact aw_iret dL_advanceClock_5 rfl hq
theorem bL_advanceClock_7 {d mc ms : Nat} {al : Bool} {bc bs : Nat} {Γ : am_G} {I : am_I} {L : am_L} {Q : am_Q} {v0 : Nat} {v1 : Int32} (hq : Q (.inl (some (.int (-18)))) Γ I L) : am_W m_L_advanceClock d mc ms al bc bs 7 [(0, .ref v0), (1, .int v1)] [] Γ I L Q := by
  refine aw_bipush dL_advanceClock_7 cb_m18 ?_
  exact aw_iret dL_advanceClock_9 rfl hq
theorem bL_advanceClock_11 {d mc ms : Nat} {al : Bool} {bc bs : Nat} {Γ : am_G} {I : am_I} {L : am_L} {Q : am_Q} {v0 : Nat} {v1 : Int32} (hq : Q (.inl (some (.int (-19)))) Γ I L) : am_W m_L_advanceClock d mc ms al bc bs 11 [(0, .ref v0), (1, .int v1)] [] Γ I L Q := by
  refine aw_bipush dL_advanceClock_11 cb_m19 ?_
  exact aw_iret dL_advanceClock_13 rfl hq
theorem dL_undo_0 : decode cL_undo 0 = .ok (.aload_n 0, 1) := by decide +kernel
theorem dL_undo_1 : decode cL_undo 1 = .ok (.invokevirtual 39, 3) := by decide +kernel
theorem dL_undo_4 : decode cL_undo 4 = .ok (.ireturn, 1) := by decide +kernel
theorem dL_undo_5 : decode cL_undo 5 = .ok (.astore_n 1, 1) := by decide +kernel
theorem dL_undo_6 : decode cL_undo 6 = .ok (.bipush (-19), 2) := by decide +kernel
theorem dL_undo_8 : decode cL_undo 8 = .ok (.ireturn, 1) := by decide +kernel
theorem bL_undo_0 {d mc ms : Nat} {al : Bool} {bc bs : Nat} {Γ : am_G} {I : am_I} {L : am_L} {Q : am_Q} {v0 : Nat} {I' : am_I} {L' : am_L} {mc' : Nat} {ms' : Nat} {r : Int32} (o1 : am_ob Γ v0 8) (hbc : mc' ≤ bc) (hbs : ms' ≤ bs) (hC : am_E m_X8_undo d mc' ms' [.ref v0] Γ I L (.inl (some (.int r))) I' L') (kk : am_W m_L_undo (d + 1) mc ms al (bc - mc') (bs - ms') 4 [(0, .ref v0)] [.int r] Γ I' L' Q) : am_W m_L_undo (d + 1) mc ms al bc bs 0 [(0, .ref v0)] [] Γ I L Q := by
  refine aw_aload_n dL_undo_0 rfl ?_
  exact aw_askV (as := []) (rst := []) k_X8_undo l_L_39 i_X8_undo s_X8_undo rfl o1 dL_undo_1 rfl (Nat.le_of_ble_eq_true rfl) hbc hbs hC rfl rfl kk
theorem bL_undo_0c1 {d mc ms : Nat} {al : Bool} {bc bs : Nat} {Γ : am_G} {I : am_I} {L : am_L} {Q : am_Q} {v0 : Nat} {I' : am_I} {L' : am_L} {mc' : Nat} {ms' : Nat} (o1 : am_ob Γ v0 8) (hbc : mc' ≤ bc) (hbs : ms' ≤ bs) (hC : am_E m_X8_undo d mc' ms' [.ref v0] Γ I L (.inr "java/lang/IllegalStateException") I' L') (kk : am_W m_L_undo (d + 1) mc ms al (bc - mc') (bs - ms') 6 [(0, .ref v0)] [] Γ I' L' Q) : am_W m_L_undo (d + 1) mc ms al bc bs 0 [(0, .ref v0)] [] Γ I L Q := by
  refine aw_aload_n dL_undo_0 rfl ?_
  refine aw_catchV (as := []) (rst := []) (nm := "java/lang/IllegalStateException") (k := 1) (len := 1) (ls' := [(0, .ref v0)]) k_X8_undo l_L_39 i_X8_undo s_X8_undo rfl o1 dL_undo_1 rfl (Nat.le_of_ble_eq_true rfl) hbc hbs hC rfl [] (0, 4, 5, 21) [] rfl ?_ (by decide) (by decide) cl_L_21 ca_IllegalStateException (Or.inl ⟨1, rfl, dL_undo_5, rfl⟩) (by decide) ?_ kk
  · intro z hz
    cases hz
  · intro q hq
    simp only [List.mem_cons, List.not_mem_nil, or_false] at hq
    rcases hq with rfl
    · exact List.mem_filter.mpr ⟨by simp, rfl⟩
theorem bL_undo_4 {d mc ms : Nat} {al : Bool} {bc bs : Nat} {Γ : am_G} {I : am_I} {L : am_L} {Q : am_Q} {v0 : Nat} {w0 : Int32} (hq : Q (.inl (some (.int w0))) Γ I L) : am_W m_L_undo d mc ms al bc bs 4 [(0, .ref v0)] [.int w0] Γ I L Q := by
  exact aw_iret dL_undo_4 rfl hq
theorem bL_undo_6 {d mc ms : Nat} {al : Bool} {bc bs : Nat} {Γ : am_G} {I : am_I} {L : am_L} {Q : am_Q} {v0 : Nat} (hq : Q (.inl (some (.int (-19)))) Γ I L) : am_W m_L_undo d mc ms al bc bs 6 [(0, .ref v0)] [] Γ I L Q := by
  refine aw_bipush dL_undo_6 cb_m19 ?_
  exact aw_iret dL_undo_8 rfl hq
theorem dL_questionCost_0 : decode cL_questionCost 0 = .ok (.aload_n 0, 1) := by decide +kernel
theorem dL_questionCost_1 : decode cL_questionCost 1 = .ok (.iload_n 1, 1) := by decide +kernel
theorem dL_questionCost_2 : decode cL_questionCost 2 = .ok (.invokevirtual 43, 3) := by decide +kernel
theorem dL_questionCost_5 : decode cL_questionCost 5 = .ok (.ireturn, 1) := by decide +kernel
theorem dL_questionCost_6 : decode cL_questionCost 6 = .ok (.astore_n 2, 1) := by decide +kernel
theorem dL_questionCost_7 : decode cL_questionCost 7 = .ok (.bipush (-17), 2) := by decide +kernel
theorem dL_questionCost_9 : decode cL_questionCost 9 = .ok (.ireturn, 1) := by decide +kernel
theorem bL_questionCost_0 {d mc ms : Nat} {al : Bool} {bc bs : Nat} {Γ : am_G} {I : am_I} {L : am_L} {Q : am_Q} {v0 : Nat} {v1 : Int32} {I' : am_I} {L' : am_L} {mc' : Nat} {ms' : Nat} {r : Int32} (o1 : am_ob Γ v0 8) (hbc : mc' ≤ bc) (hbs : ms' ≤ bs) (hC : am_E m_X8_questionCost d mc' ms' [.ref v0, .int v1] Γ I L (.inl (some (.int r))) I' L') (kk : am_W m_L_questionCost (d + 1) mc ms al (bc - mc') (bs - ms') 5 [(0, .ref v0), (1, .int v1)] [.int r] Γ I' L' Q) : am_W m_L_questionCost (d + 1) mc ms al bc bs 0 [(0, .ref v0), (1, .int v1)] [] Γ I L Q := by
  refine aw_aload_n dL_questionCost_0 rfl ?_
  refine aw_iload_n dL_questionCost_1 rfl ?_
  exact aw_askV (as := [.int v1]) (rst := []) k_X8_questionCost l_L_43 i_X8_questionCost s_X8_questionCost rfl o1 dL_questionCost_2 rfl (Nat.le_of_ble_eq_true rfl) hbc hbs hC rfl rfl kk
theorem bL_questionCost_0c1 {d mc ms : Nat} {al : Bool} {bc bs : Nat} {Γ : am_G} {I : am_I} {L : am_L} {Q : am_Q} {v0 : Nat} {v1 : Int32} {I' : am_I} {L' : am_L} {mc' : Nat} {ms' : Nat} (o1 : am_ob Γ v0 8) (hbc : mc' ≤ bc) (hbs : ms' ≤ bs) (hC : am_E m_X8_questionCost d mc' ms' [.ref v0, .int v1] Γ I L (.inr "java/lang/IndexOutOfBoundsException") I' L') (kk : am_W m_L_questionCost (d + 1) mc ms al (bc - mc') (bs - ms') 7 [(0, .ref v0), (1, .int v1)] [] Γ I' L' Q) : am_W m_L_questionCost (d + 1) mc ms al bc bs 0 [(0, .ref v0), (1, .int v1)] [] Γ I L Q := by
  refine aw_aload_n dL_questionCost_0 rfl ?_
  refine aw_iload_n dL_questionCost_1 rfl ?_
  refine aw_catchV (as := [.int v1]) (rst := []) (nm := "java/lang/IndexOutOfBoundsException") (k := 2) (len := 1) (ls' := [(0, .ref v0), (1, .int v1)]) k_X8_questionCost l_L_43 i_X8_questionCost s_X8_questionCost rfl o1 dL_questionCost_2 rfl (Nat.le_of_ble_eq_true rfl) hbc hbs hC rfl [] (0, 5, 6, 19) [] rfl ?_ (by decide) (by decide) cl_L_19 ca_IndexOutOfBoundsException (Or.inl ⟨2, rfl, dL_questionCost_6, rfl⟩) (by decide) ?_ kk
  · intro z hz
    cases hz
  · intro q hq
    simp only [List.mem_cons, List.not_mem_nil, or_false] at hq
    rcases hq with rfl | rfl
    · exact List.mem_filter.mpr ⟨by simp, rfl⟩
    · exact List.mem_filter.mpr ⟨by simp, rfl⟩
theorem bL_questionCost_5 {d mc ms : Nat} {al : Bool} {bc bs : Nat} {Γ : am_G} {I : am_I} {L : am_L} {Q : am_Q} {v0 : Nat} {v1 : Int32} {w0 : Int32} (hq : Q (.inl (some (.int w0))) Γ I L) : am_W m_L_questionCost d mc ms al bc bs 5 [(0, .ref v0), (1, .int v1)] [.int w0] Γ I L Q := by
  exact aw_iret dL_questionCost_5 rfl hq
theorem bL_questionCost_7 {d mc ms : Nat} {al : Bool} {bc bs : Nat} {Γ : am_G} {I : am_I} {L : am_L} {Q : am_Q} {v0 : Nat} {v1 : Int32} (hq : Q (.inl (some (.int (-17)))) Γ I L) : am_W m_L_questionCost d mc ms al bc bs 7 [(0, .ref v0), (1, .int v1)] [] Γ I L Q := by
  refine aw_bipush dL_questionCost_7 cb_m17 ?_
  exact aw_iret dL_questionCost_9 rfl hq
theorem dL_hasTrait_0 : decode cL_hasTrait 0 = .ok (.aload_n 0, 1) := by decide +kernel
theorem dL_hasTrait_1 : decode cL_hasTrait 1 = .ok (.iload_n 1, 1) := by decide +kernel
theorem dL_hasTrait_2 : decode cL_hasTrait 2 = .ok (.iload_n 2, 1) := by decide +kernel
theorem dL_hasTrait_3 : decode cL_hasTrait 3 = .ok (.invokevirtual 46, 3) := by decide +kernel
theorem dL_hasTrait_6 : decode cL_hasTrait 6 = .ok (.ifCond .eq 7, 3) := by decide +kernel
theorem dL_hasTrait_9 : decode cL_hasTrait 9 = .ok (.iconst 1, 1) := by decide +kernel
theorem dL_hasTrait_10 : decode cL_hasTrait 10 = .ok (.goto 4, 3) := by decide +kernel
theorem dL_hasTrait_13 : decode cL_hasTrait 13 = .ok (.iconst 0, 1) := by decide +kernel
theorem dL_hasTrait_14 : decode cL_hasTrait 14 = .ok (.ireturn, 1) := by decide +kernel
theorem dL_hasTrait_15 : decode cL_hasTrait 15 = .ok (.astore_n 3, 1) := by decide +kernel
theorem dL_hasTrait_16 : decode cL_hasTrait 16 = .ok (.bipush (-17), 2) := by decide +kernel
theorem dL_hasTrait_18 : decode cL_hasTrait 18 = .ok (.ireturn, 1) := by decide +kernel
theorem bL_hasTrait_0 {d mc ms : Nat} {al : Bool} {bc bs : Nat} {Γ : am_G} {I : am_I} {L : am_L} {Q : am_Q} {v0 : Nat} {v1 : Int32} {v2 : Int32} {I' : am_I} {L' : am_L} {mc' : Nat} {ms' : Nat} {r : Int32} (o1 : am_ob Γ v0 8) (hbc : mc' ≤ bc) (hbs : ms' ≤ bs) (hC : am_E m_X8_hasTrait d mc' ms' [.ref v0, .int v1, .int v2] Γ I L (.inl (some (.int r))) I' L') (kk : am_W m_L_hasTrait (d + 1) mc ms al (bc - mc') (bs - ms') 6 [(0, .ref v0), (1, .int v1), (2, .int v2)] [.int r] Γ I' L' Q) : am_W m_L_hasTrait (d + 1) mc ms al bc bs 0 [(0, .ref v0), (1, .int v1), (2, .int v2)] [] Γ I L Q := by
  refine aw_aload_n dL_hasTrait_0 rfl ?_
  refine aw_iload_n dL_hasTrait_1 rfl ?_
  refine aw_iload_n dL_hasTrait_2 rfl ?_
  exact aw_askV (as := [.int v1, .int v2]) (rst := []) k_X8_hasTrait l_L_46 i_X8_hasTrait s_X8_hasTrait rfl o1 dL_hasTrait_3 rfl (Nat.le_of_ble_eq_true rfl) hbc hbs hC rfl rfl kk
theorem bL_hasTrait_0c1 {d mc ms : Nat} {al : Bool} {bc bs : Nat} {Γ : am_G} {I : am_I} {L : am_L} {Q : am_Q} {v0 : Nat} {v1 : Int32} {v2 : Int32} {I' : am_I} {L' : am_L} {mc' : Nat} {ms' : Nat} (o1 : am_ob Γ v0 8) (hbc : mc' ≤ bc) (hbs : ms' ≤ bs) (hC : am_E m_X8_hasTrait d mc' ms' [.ref v0, .int v1, .int v2] Γ I L (.inr "java/lang/IndexOutOfBoundsException") I' L') (kk : am_W m_L_hasTrait (d + 1) mc ms al (bc - mc') (bs - ms') 16 [(0, .ref v0), (1, .int v1), (2, .int v2)] [] Γ I' L' Q) : am_W m_L_hasTrait (d + 1) mc ms al bc bs 0 [(0, .ref v0), (1, .int v1), (2, .int v2)] [] Γ I L Q := by
  refine aw_aload_n dL_hasTrait_0 rfl ?_
  refine aw_iload_n dL_hasTrait_1 rfl ?_
  refine aw_iload_n dL_hasTrait_2 rfl ?_
  refine aw_catchV (as := [.int v1, .int v2]) (rst := []) (nm := "java/lang/IndexOutOfBoundsException") (k := 3) (len := 1) (ls' := [(0, .ref v0), (1, .int v1), (2, .int v2)]) k_X8_hasTrait l_L_46 i_X8_hasTrait s_X8_hasTrait rfl o1 dL_hasTrait_3 rfl (Nat.le_of_ble_eq_true rfl) hbc hbs hC rfl [] (0, 14, 15, 19) [] rfl ?_ (by decide) (by decide) cl_L_19 ca_IndexOutOfBoundsException (Or.inl ⟨3, rfl, dL_hasTrait_15, rfl⟩) (by decide) ?_ kk
  · intro z hz
    cases hz
  · intro q hq
    simp only [List.mem_cons, List.not_mem_nil, or_false] at hq
    rcases hq with rfl | rfl | rfl
    · exact List.mem_filter.mpr ⟨by simp, rfl⟩
    · exact List.mem_filter.mpr ⟨by simp, rfl⟩
    · exact List.mem_filter.mpr ⟨by simp, rfl⟩
theorem bL_hasTrait_6 {d mc ms : Nat} {al : Bool} {bc bs : Nat} {Γ : am_G} {I : am_I} {L : am_L} {Q : am_Q} {v0 : Nat} {v1 : Int32} {v2 : Int32} {w0 : Int32} (kt : w0 = 0 → am_W m_L_hasTrait d mc ms al bc bs 13 [(0, .ref v0), (1, .int v1), (2, .int v2)] [] Γ I L Q) (kf : ¬ w0 = 0 → am_W m_L_hasTrait d mc ms al bc bs 9 [(0, .ref v0), (1, .int v1), (2, .int v2)] [] Γ I L Q) : am_W m_L_hasTrait d mc ms al bc bs 6 [(0, .ref v0), (1, .int v1), (2, .int v2)] [.int w0] Γ I L Q := by
  exact aw_if_eq dL_hasTrait_6 (by decide) kt kf
theorem bL_hasTrait_9 {d mc ms : Nat} {al : Bool} {bc bs : Nat} {Γ : am_G} {I : am_I} {L : am_L} {Q : am_Q} {v0 : Nat} {v1 : Int32} {v2 : Int32} (kk : am_W m_L_hasTrait d mc ms al bc bs 14 [(0, .ref v0), (1, .int v1), (2, .int v2)] [.int 1] Γ I L Q) : am_W m_L_hasTrait d mc ms al bc bs 9 [(0, .ref v0), (1, .int v1), (2, .int v2)] [] Γ I L Q := by
  refine aw_iconst dL_hasTrait_9 ci_1 ?_
  exact aw_goto dL_hasTrait_10 (by decide) kk
theorem bL_hasTrait_13 {d mc ms : Nat} {al : Bool} {bc bs : Nat} {Γ : am_G} {I : am_I} {L : am_L} {Q : am_Q} {v0 : Nat} {v1 : Int32} {v2 : Int32} (kk : am_W m_L_hasTrait d mc ms al bc bs 14 [(0, .ref v0), (1, .int v1), (2, .int v2)] [.int 0] Γ I L Q) : am_W m_L_hasTrait d mc ms al bc bs 13 [(0, .ref v0), (1, .int v1), (2, .int v2)] [] Γ I L Q := by
  refine aw_iconst dL_hasTrait_13 ci_0 ?_
  exact kk
theorem bL_hasTrait_14 {d mc ms : Nat} {al : Bool} {bc bs : Nat} {Γ : am_G} {I : am_I} {L : am_L} {Q : am_Q} {v0 : Nat} {v1 : Int32} {v2 : Int32} {w0 : Int32} (hq : Q (.inl (some (.int w0))) Γ I L) : am_W m_L_hasTrait d mc ms al bc bs 14 [(0, .ref v0), (1, .int v1), (2, .int v2)] [.int w0] Γ I L Q := by
  exact aw_iret dL_hasTrait_14 rfl hq
theorem bL_hasTrait_16 {d mc ms : Nat} {al : Bool} {bc bs : Nat} {Γ : am_G} {I : am_I} {L : am_L} {Q : am_Q} {v0 : Nat} {v1 : Int32} {v2 : Int32} (hq : Q (.inl (some (.int (-17)))) Γ I L) : am_W m_L_hasTrait d mc ms al bc bs 16 [(0, .ref v0), (1, .int v1), (2, .int v2)] [] Γ I L Q := by
  refine aw_bipush dL_hasTrait_16 cb_m17 ?_
  exact aw_iret dL_hasTrait_18 rfl hq
theorem dL_toll_0 : decode cL_toll 0 = .ok (.aload_n 0, 1) := by decide +kernel
theorem dL_toll_1 : decode cL_toll 1 = .ok (.iload_n 1, 1) := by decide +kernel
theorem dL_toll_2 : decode cL_toll 2 = .ok (.invokevirtual 50, 3) := by decide +kernel
theorem dL_toll_5 : decode cL_toll 5 = .ok (.ireturn, 1) := by decide +kernel
theorem dL_toll_6 : decode cL_toll 6 = .ok (.astore_n 2, 1) := by decide +kernel
theorem dL_toll_7 : decode cL_toll 7 = .ok (.bipush (-17), 2) := by decide +kernel
theorem dL_toll_9 : decode cL_toll 9 = .ok (.ireturn, 1) := by decide +kernel
theorem bL_toll_0 {d mc ms : Nat} {al : Bool} {bc bs : Nat} {Γ : am_G} {I : am_I} {L : am_L} {Q : am_Q} {v0 : Nat} {v1 : Int32} {I' : am_I} {L' : am_L} {mc' : Nat} {ms' : Nat} {r : Int32} (o1 : am_ob Γ v0 8) (hbc : mc' ≤ bc) (hbs : ms' ≤ bs) (hC : am_E m_X8_toll d mc' ms' [.ref v0, .int v1] Γ I L (.inl (some (.int r))) I' L') (kk : am_W m_L_toll (d + 1) mc ms al (bc - mc') (bs - ms') 5 [(0, .ref v0), (1, .int v1)] [.int r] Γ I' L' Q) : am_W m_L_toll (d + 1) mc ms al bc bs 0 [(0, .ref v0), (1, .int v1)] [] Γ I L Q := by
  refine aw_aload_n dL_toll_0 rfl ?_
  refine aw_iload_n dL_toll_1 rfl ?_
  exact aw_askV (as := [.int v1]) (rst := []) k_X8_toll l_L_50 i_X8_toll s_X8_toll rfl o1 dL_toll_2 rfl (Nat.le_of_ble_eq_true rfl) hbc hbs hC rfl rfl kk
theorem bL_toll_0c1 {d mc ms : Nat} {al : Bool} {bc bs : Nat} {Γ : am_G} {I : am_I} {L : am_L} {Q : am_Q} {v0 : Nat} {v1 : Int32} {I' : am_I} {L' : am_L} {mc' : Nat} {ms' : Nat} (o1 : am_ob Γ v0 8) (hbc : mc' ≤ bc) (hbs : ms' ≤ bs) (hC : am_E m_X8_toll d mc' ms' [.ref v0, .int v1] Γ I L (.inr "java/lang/IndexOutOfBoundsException") I' L') (kk : am_W m_L_toll (d + 1) mc ms al (bc - mc') (bs - ms') 7 [(0, .ref v0), (1, .int v1)] [] Γ I' L' Q) : am_W m_L_toll (d + 1) mc ms al bc bs 0 [(0, .ref v0), (1, .int v1)] [] Γ I L Q := by
  refine aw_aload_n dL_toll_0 rfl ?_
  refine aw_iload_n dL_toll_1 rfl ?_
  refine aw_catchV (as := [.int v1]) (rst := []) (nm := "java/lang/IndexOutOfBoundsException") (k := 2) (len := 1) (ls' := [(0, .ref v0), (1, .int v1)]) k_X8_toll l_L_50 i_X8_toll s_X8_toll rfl o1 dL_toll_2 rfl (Nat.le_of_ble_eq_true rfl) hbc hbs hC rfl [] (0, 5, 6, 19) [] rfl ?_ (by decide) (by decide) cl_L_19 ca_IndexOutOfBoundsException (Or.inl ⟨2, rfl, dL_toll_6, rfl⟩) (by decide) ?_ kk
  · intro z hz
    cases hz
  · intro q hq
    simp only [List.mem_cons, List.not_mem_nil, or_false] at hq
    rcases hq with rfl | rfl
    · exact List.mem_filter.mpr ⟨by simp, rfl⟩
    · exact List.mem_filter.mpr ⟨by simp, rfl⟩
theorem bL_toll_5 {d mc ms : Nat} {al : Bool} {bc bs : Nat} {Γ : am_G} {I : am_I} {L : am_L} {Q : am_Q} {v0 : Nat} {v1 : Int32} {w0 : Int32} (hq : Q (.inl (some (.int w0))) Γ I L) : am_W m_L_toll d mc ms al bc bs 5 [(0, .ref v0), (1, .int v1)] [.int w0] Γ I L Q := by
  exact aw_iret dL_toll_5 rfl hq
theorem bL_toll_7 {d mc ms : Nat} {al : Bool} {bc bs : Nat} {Γ : am_G} {I : am_I} {L : am_L} {Q : am_Q} {v0 : Nat} {v1 : Int32} (hq : Q (.inl (some (.int (-17)))) Γ I L) : am_W m_L_toll d mc ms al bc bs 7 [(0, .ref v0), (1, .int v1)] [] Γ I L Q := by
  refine aw_bipush dL_toll_7 cb_m17 ?_
  exact aw_iret dL_toll_9 rfl hq
theorem dL_countAt_0 : decode cL_countAt 0 = .ok (.aload_n 0, 1) := by decide +kernel
theorem dL_countAt_1 : decode cL_countAt 1 = .ok (.iload_n 1, 1) := by decide +kernel
theorem dL_countAt_2 : decode cL_countAt 2 = .ok (.iload_n 2, 1) := by decide +kernel
theorem dL_countAt_3 : decode cL_countAt 3 = .ok (.invokevirtual 53, 3) := by decide +kernel
theorem dL_countAt_6 : decode cL_countAt 6 = .ok (.ireturn, 1) := by decide +kernel
theorem dL_countAt_7 : decode cL_countAt 7 = .ok (.astore_n 3, 1) := by decide +kernel
theorem dL_countAt_8 : decode cL_countAt 8 = .ok (.bipush (-17), 2) := by decide +kernel
theorem dL_countAt_10 : decode cL_countAt 10 = .ok (.ireturn, 1) := by decide +kernel
theorem bL_countAt_0 {d mc ms : Nat} {al : Bool} {bc bs : Nat} {Γ : am_G} {I : am_I} {L : am_L} {Q : am_Q} {v0 : Nat} {v1 : Int32} {v2 : Int32} {I' : am_I} {L' : am_L} {mc' : Nat} {ms' : Nat} {r : Int32} (o1 : am_ob Γ v0 8) (hbc : mc' ≤ bc) (hbs : ms' ≤ bs) (hC : am_E m_X8_countAt d mc' ms' [.ref v0, .int v1, .int v2] Γ I L (.inl (some (.int r))) I' L') (kk : am_W m_L_countAt (d + 1) mc ms al (bc - mc') (bs - ms') 6 [(0, .ref v0), (1, .int v1), (2, .int v2)] [.int r] Γ I' L' Q) : am_W m_L_countAt (d + 1) mc ms al bc bs 0 [(0, .ref v0), (1, .int v1), (2, .int v2)] [] Γ I L Q := by
  refine aw_aload_n dL_countAt_0 rfl ?_
  refine aw_iload_n dL_countAt_1 rfl ?_
  refine aw_iload_n dL_countAt_2 rfl ?_
  exact aw_askV (as := [.int v1, .int v2]) (rst := []) k_X8_countAt l_L_53 i_X8_countAt s_X8_countAt rfl o1 dL_countAt_3 rfl (Nat.le_of_ble_eq_true rfl) hbc hbs hC rfl rfl kk
theorem bL_countAt_0c1 {d mc ms : Nat} {al : Bool} {bc bs : Nat} {Γ : am_G} {I : am_I} {L : am_L} {Q : am_Q} {v0 : Nat} {v1 : Int32} {v2 : Int32} {I' : am_I} {L' : am_L} {mc' : Nat} {ms' : Nat} (o1 : am_ob Γ v0 8) (hbc : mc' ≤ bc) (hbs : ms' ≤ bs) (hC : am_E m_X8_countAt d mc' ms' [.ref v0, .int v1, .int v2] Γ I L (.inr "java/lang/IndexOutOfBoundsException") I' L') (kk : am_W m_L_countAt (d + 1) mc ms al (bc - mc') (bs - ms') 8 [(0, .ref v0), (1, .int v1), (2, .int v2)] [] Γ I' L' Q) : am_W m_L_countAt (d + 1) mc ms al bc bs 0 [(0, .ref v0), (1, .int v1), (2, .int v2)] [] Γ I L Q := by
  refine aw_aload_n dL_countAt_0 rfl ?_
  refine aw_iload_n dL_countAt_1 rfl ?_
  refine aw_iload_n dL_countAt_2 rfl ?_
  refine aw_catchV (as := [.int v1, .int v2]) (rst := []) (nm := "java/lang/IndexOutOfBoundsException") (k := 3) (len := 1) (ls' := [(0, .ref v0), (1, .int v1), (2, .int v2)]) k_X8_countAt l_L_53 i_X8_countAt s_X8_countAt rfl o1 dL_countAt_3 rfl (Nat.le_of_ble_eq_true rfl) hbc hbs hC rfl [] (0, 6, 7, 19) [] rfl ?_ (by decide) (by decide) cl_L_19 ca_IndexOutOfBoundsException (Or.inl ⟨3, rfl, dL_countAt_7, rfl⟩) (by decide) ?_ kk
  · intro z hz
    cases hz
  · intro q hq
    simp only [List.mem_cons, List.not_mem_nil, or_false] at hq
    rcases hq with rfl | rfl | rfl
    · exact List.mem_filter.mpr ⟨by simp, rfl⟩
    · exact List.mem_filter.mpr ⟨by simp, rfl⟩
    · exact List.mem_filter.mpr ⟨by simp, rfl⟩
theorem bL_countAt_6 {d mc ms : Nat} {al : Bool} {bc bs : Nat} {Γ : am_G} {I : am_I} {L : am_L} {Q : am_Q} {v0 : Nat} {v1 : Int32} {v2 : Int32} {w0 : Int32} (hq : Q (.inl (some (.int w0))) Γ I L) : am_W m_L_countAt d mc ms al bc bs 6 [(0, .ref v0), (1, .int v1), (2, .int v2)] [.int w0] Γ I L Q := by
  exact aw_iret dL_countAt_6 rfl hq
theorem bL_countAt_8 {d mc ms : Nat} {al : Bool} {bc bs : Nat} {Γ : am_G} {I : am_I} {L : am_L} {Q : am_Q} {v0 : Nat} {v1 : Int32} {v2 : Int32} (hq : Q (.inl (some (.int (-17)))) Γ I L) : am_W m_L_countAt d mc ms al bc bs 8 [(0, .ref v0), (1, .int v1), (2, .int v2)] [] Γ I L Q := by
  refine aw_bipush dL_countAt_8 cb_m17 ?_
  exact aw_iret dL_countAt_10 rfl hq
theorem dL_costLimit_0 : decode cL_costLimit 0 = .ok (.aload_n 0, 1) := by decide +kernel
theorem dL_costLimit_1 : decode cL_costLimit 1 = .ok (.iload_n 1, 1) := by decide +kernel
theorem dL_costLimit_2 : decode cL_costLimit 2 = .ok (.invokevirtual 56, 3) := by decide +kernel
theorem dL_costLimit_5 : decode cL_costLimit 5 = .ok (.ireturn, 1) := by decide +kernel
theorem dL_costLimit_6 : decode cL_costLimit 6 = .ok (.astore_n 2, 1) := by decide +kernel
theorem dL_costLimit_7 : decode cL_costLimit 7 = .ok (.bipush (-17), 2) := by decide +kernel
theorem dL_costLimit_9 : decode cL_costLimit 9 = .ok (.ireturn, 1) := by decide +kernel
theorem bL_costLimit_0 {d mc ms : Nat} {al : Bool} {bc bs : Nat} {Γ : am_G} {I : am_I} {L : am_L} {Q : am_Q} {v0 : Nat} {v1 : Int32} {I' : am_I} {L' : am_L} {mc' : Nat} {ms' : Nat} {r : Int32} (o1 : am_ob Γ v0 8) (hbc : mc' ≤ bc) (hbs : ms' ≤ bs) (hC : am_E m_X8_costLimit d mc' ms' [.ref v0, .int v1] Γ I L (.inl (some (.int r))) I' L') (kk : am_W m_L_costLimit (d + 1) mc ms al (bc - mc') (bs - ms') 5 [(0, .ref v0), (1, .int v1)] [.int r] Γ I' L' Q) : am_W m_L_costLimit (d + 1) mc ms al bc bs 0 [(0, .ref v0), (1, .int v1)] [] Γ I L Q := by
  refine aw_aload_n dL_costLimit_0 rfl ?_
  refine aw_iload_n dL_costLimit_1 rfl ?_
  exact aw_askV (as := [.int v1]) (rst := []) k_X8_costLimit l_L_56 i_X8_costLimit s_X8_costLimit rfl o1 dL_costLimit_2 rfl (Nat.le_of_ble_eq_true rfl) hbc hbs hC rfl rfl kk
theorem bL_costLimit_0c1 {d mc ms : Nat} {al : Bool} {bc bs : Nat} {Γ : am_G} {I : am_I} {L : am_L} {Q : am_Q} {v0 : Nat} {v1 : Int32} {I' : am_I} {L' : am_L} {mc' : Nat} {ms' : Nat} (o1 : am_ob Γ v0 8) (hbc : mc' ≤ bc) (hbs : ms' ≤ bs) (hC : am_E m_X8_costLimit d mc' ms' [.ref v0, .int v1] Γ I L (.inr "java/lang/IndexOutOfBoundsException") I' L') (kk : am_W m_L_costLimit (d + 1) mc ms al (bc - mc') (bs - ms') 7 [(0, .ref v0), (1, .int v1)] [] Γ I' L' Q) : am_W m_L_costLimit (d + 1) mc ms al bc bs 0 [(0, .ref v0), (1, .int v1)] [] Γ I L Q := by
  refine aw_aload_n dL_costLimit_0 rfl ?_
  refine aw_iload_n dL_costLimit_1 rfl ?_
  refine aw_catchV (as := [.int v1]) (rst := []) (nm := "java/lang/IndexOutOfBoundsException") (k := 2) (len := 1) (ls' := [(0, .ref v0), (1, .int v1)]) k_X8_costLimit l_L_56 i_X8_costLimit s_X8_costLimit rfl o1 dL_costLimit_2 rfl (Nat.le_of_ble_eq_true rfl) hbc hbs hC rfl [] (0, 5, 6, 19) [] rfl ?_ (by decide) (by decide) cl_L_19 ca_IndexOutOfBoundsException (Or.inl ⟨2, rfl, dL_costLimit_6, rfl⟩) (by decide) ?_ kk
  · intro z hz
    cases hz
  · intro q hq
    simp only [List.mem_cons, List.not_mem_nil, or_false] at hq
    rcases hq with rfl | rfl
    · exact List.mem_filter.mpr ⟨by simp, rfl⟩
    · exact List.mem_filter.mpr ⟨by simp, rfl⟩
theorem bL_costLimit_5 {d mc ms : Nat} {al : Bool} {bc bs : Nat} {Γ : am_G} {I : am_I} {L : am_L} {Q : am_Q} {v0 : Nat} {v1 : Int32} {w0 : Int32} (hq : Q (.inl (some (.int w0))) Γ I L) : am_W m_L_costLimit d mc ms al bc bs 5 [(0, .ref v0), (1, .int v1)] [.int w0] Γ I L Q := by
  exact aw_iret dL_costLimit_5 rfl hq
theorem bL_costLimit_7 {d mc ms : Nat} {al : Bool} {bc bs : Nat} {Γ : am_G} {I : am_I} {L : am_L} {Q : am_Q} {v0 : Nat} {v1 : Int32} (hq : Q (.inl (some (.int (-17)))) Γ I L) : am_W m_L_costLimit d mc ms al bc bs 7 [(0, .ref v0), (1, .int v1)] [] Γ I L Q := by
  refine aw_bipush dL_costLimit_7 cb_m17 ?_
  exact aw_iret dL_costLimit_9 rfl hq
theorem dL_isOpen_0 : decode cL_isOpen 0 = .ok (.aload_n 0, 1) := by decide +kernel
theorem dL_isOpen_1 : decode cL_isOpen 1 = .ok (.iload_n 1, 1) := by decide +kernel
theorem dL_isOpen_2 : decode cL_isOpen 2 = .ok (.invokevirtual 59, 3) := by decide +kernel
theorem dL_isOpen_5 : decode cL_isOpen 5 = .ok (.ifCond .eq 7, 3) := by decide +kernel
theorem dL_isOpen_8 : decode cL_isOpen 8 = .ok (.iconst 1, 1) := by decide +kernel
theorem dL_isOpen_9 : decode cL_isOpen 9 = .ok (.goto 4, 3) := by decide +kernel
theorem dL_isOpen_12 : decode cL_isOpen 12 = .ok (.iconst 0, 1) := by decide +kernel
theorem dL_isOpen_13 : decode cL_isOpen 13 = .ok (.ireturn, 1) := by decide +kernel
theorem dL_isOpen_14 : decode cL_isOpen 14 = .ok (.astore_n 2, 1) := by decide +kernel
theorem dL_isOpen_15 : decode cL_isOpen 15 = .ok (.bipush (-17), 2) := by decide +kernel
theorem dL_isOpen_17 : decode cL_isOpen 17 = .ok (.ireturn, 1) := by decide +kernel
theorem bL_isOpen_0 {d mc ms : Nat} {al : Bool} {bc bs : Nat} {Γ : am_G} {I : am_I} {L : am_L} {Q : am_Q} {v0 : Nat} {v1 : Int32} {I' : am_I} {L' : am_L} {mc' : Nat} {ms' : Nat} {r : Int32} (o1 : am_ob Γ v0 8) (hbc : mc' ≤ bc) (hbs : ms' ≤ bs) (hC : am_E m_X8_isOpen d mc' ms' [.ref v0, .int v1] Γ I L (.inl (some (.int r))) I' L') (kk : am_W m_L_isOpen (d + 1) mc ms al (bc - mc') (bs - ms') 5 [(0, .ref v0), (1, .int v1)] [.int r] Γ I' L' Q) : am_W m_L_isOpen (d + 1) mc ms al bc bs 0 [(0, .ref v0), (1, .int v1)] [] Γ I L Q := by
  refine aw_aload_n dL_isOpen_0 rfl ?_
  refine aw_iload_n dL_isOpen_1 rfl ?_
  exact aw_askV (as := [.int v1]) (rst := []) k_X8_isOpen l_L_59 i_X8_isOpen s_X8_isOpen rfl o1 dL_isOpen_2 rfl (Nat.le_of_ble_eq_true rfl) hbc hbs hC rfl rfl kk
theorem bL_isOpen_0c1 {d mc ms : Nat} {al : Bool} {bc bs : Nat} {Γ : am_G} {I : am_I} {L : am_L} {Q : am_Q} {v0 : Nat} {v1 : Int32} {I' : am_I} {L' : am_L} {mc' : Nat} {ms' : Nat} (o1 : am_ob Γ v0 8) (hbc : mc' ≤ bc) (hbs : ms' ≤ bs) (hC : am_E m_X8_isOpen d mc' ms' [.ref v0, .int v1] Γ I L (.inr "java/lang/IndexOutOfBoundsException") I' L') (kk : am_W m_L_isOpen (d + 1) mc ms al (bc - mc') (bs - ms') 15 [(0, .ref v0), (1, .int v1)] [] Γ I' L' Q) : am_W m_L_isOpen (d + 1) mc ms al bc bs 0 [(0, .ref v0), (1, .int v1)] [] Γ I L Q := by
  refine aw_aload_n dL_isOpen_0 rfl ?_
  refine aw_iload_n dL_isOpen_1 rfl ?_
  refine aw_catchV (as := [.int v1]) (rst := []) (nm := "java/lang/IndexOutOfBoundsException") (k := 2) (len := 1) (ls' := [(0, .ref v0), (1, .int v1)]) k_X8_isOpen l_L_59 i_X8_isOpen s_X8_isOpen rfl o1 dL_isOpen_2 rfl (Nat.le_of_ble_eq_true rfl) hbc hbs hC rfl [] (0, 13, 14, 19) [] rfl ?_ (by decide) (by decide) cl_L_19 ca_IndexOutOfBoundsException (Or.inl ⟨2, rfl, dL_isOpen_14, rfl⟩) (by decide) ?_ kk
  · intro z hz
    cases hz
  · intro q hq
    simp only [List.mem_cons, List.not_mem_nil, or_false] at hq
    rcases hq with rfl | rfl
    · exact List.mem_filter.mpr ⟨by simp, rfl⟩
    · exact List.mem_filter.mpr ⟨by simp, rfl⟩
theorem bL_isOpen_5 {d mc ms : Nat} {al : Bool} {bc bs : Nat} {Γ : am_G} {I : am_I} {L : am_L} {Q : am_Q} {v0 : Nat} {v1 : Int32} {w0 : Int32} (kt : w0 = 0 → am_W m_L_isOpen d mc ms al bc bs 12 [(0, .ref v0), (1, .int v1)] [] Γ I L Q) (kf : ¬ w0 = 0 → am_W m_L_isOpen d mc ms al bc bs 8 [(0, .ref v0), (1, .int v1)] [] Γ I L Q) : am_W m_L_isOpen d mc ms al bc bs 5 [(0, .ref v0), (1, .int v1)] [.int w0] Γ I L Q := by
  exact aw_if_eq dL_isOpen_5 (by decide) kt kf
theorem bL_isOpen_8 {d mc ms : Nat} {al : Bool} {bc bs : Nat} {Γ : am_G} {I : am_I} {L : am_L} {Q : am_Q} {v0 : Nat} {v1 : Int32} (kk : am_W m_L_isOpen d mc ms al bc bs 13 [(0, .ref v0), (1, .int v1)] [.int 1] Γ I L Q) : am_W m_L_isOpen d mc ms al bc bs 8 [(0, .ref v0), (1, .int v1)] [] Γ I L Q := by
  refine aw_iconst dL_isOpen_8 ci_1 ?_
  exact aw_goto dL_isOpen_9 (by decide) kk
theorem bL_isOpen_12 {d mc ms : Nat} {al : Bool} {bc bs : Nat} {Γ : am_G} {I : am_I} {L : am_L} {Q : am_Q} {v0 : Nat} {v1 : Int32} (kk : am_W m_L_isOpen d mc ms al bc bs 13 [(0, .ref v0), (1, .int v1)] [.int 0] Γ I L Q) : am_W m_L_isOpen d mc ms al bc bs 12 [(0, .ref v0), (1, .int v1)] [] Γ I L Q := by
  refine aw_iconst dL_isOpen_12 ci_0 ?_
  exact kk
theorem bL_isOpen_13 {d mc ms : Nat} {al : Bool} {bc bs : Nat} {Γ : am_G} {I : am_I} {L : am_L} {Q : am_Q} {v0 : Nat} {v1 : Int32} {w0 : Int32} (hq : Q (.inl (some (.int w0))) Γ I L) : am_W m_L_isOpen d mc ms al bc bs 13 [(0, .ref v0), (1, .int v1)] [.int w0] Γ I L Q := by
  exact aw_iret dL_isOpen_13 rfl hq
theorem bL_isOpen_15 {d mc ms : Nat} {al : Bool} {bc bs : Nat} {Γ : am_G} {I : am_I} {L : am_L} {Q : am_Q} {v0 : Nat} {v1 : Int32} (hq : Q (.inl (some (.int (-17)))) Γ I L) : am_W m_L_isOpen d mc ms al bc bs 15 [(0, .ref v0), (1, .int v1)] [] Γ I L Q := by
  refine aw_bipush dL_isOpen_15 cb_m17 ?_
  exact aw_iret dL_isOpen_17 rfl hq
theorem dL_hoursUntilOpen_0 : decode cL_hoursUntilOpen 0 = .ok (.aload_n 0, 1) := by decide +kernel
theorem dL_hoursUntilOpen_1 : decode cL_hoursUntilOpen 1 = .ok (.iload_n 1, 1) := by decide +kernel
theorem dL_hoursUntilOpen_2 : decode cL_hoursUntilOpen 2 = .ok (.invokevirtual 63, 3) := by decide +kernel
theorem dL_hoursUntilOpen_5 : decode cL_hoursUntilOpen 5 = .ok (.ireturn, 1) := by decide +kernel
theorem dL_hoursUntilOpen_6 : decode cL_hoursUntilOpen 6 = .ok (.astore_n 2, 1) := by decide +kernel
theorem dL_hoursUntilOpen_7 : decode cL_hoursUntilOpen 7 = .ok (.bipush (-17), 2) := by decide +kernel
theorem dL_hoursUntilOpen_9 : decode cL_hoursUntilOpen 9 = .ok (.ireturn, 1) := by decide +kernel
theorem bL_hoursUntilOpen_0 {d mc ms : Nat} {al : Bool} {bc bs : Nat} {Γ : am_G} {I : am_I} {L : am_L} {Q : am_Q} {v0 : Nat} {v1 : Int32} {I' : am_I} {L' : am_L} {mc' : Nat} {ms' : Nat} {r : Int32} (o1 : am_ob Γ v0 8) (hbc : mc' ≤ bc) (hbs : ms' ≤ bs) (hC : am_E m_X8_hoursUntilOpen d mc' ms' [.ref v0, .int v1] Γ I L (.inl (some (.int r))) I' L') (kk : am_W m_L_hoursUntilOpen (d + 1) mc ms al (bc - mc') (bs - ms') 5 [(0, .ref v0), (1, .int v1)] [.int r] Γ I' L' Q) : am_W m_L_hoursUntilOpen (d + 1) mc ms al bc bs 0 [(0, .ref v0), (1, .int v1)] [] Γ I L Q := by
  refine aw_aload_n dL_hoursUntilOpen_0 rfl ?_
  refine aw_iload_n dL_hoursUntilOpen_1 rfl ?_
  exact aw_askV (as := [.int v1]) (rst := []) k_X8_hoursUntilOpen l_L_63 i_X8_hoursUntilOpen s_X8_hoursUntilOpen rfl o1 dL_hoursUntilOpen_2 rfl (Nat.le_of_ble_eq_true rfl) hbc hbs hC rfl rfl kk
theorem bL_hoursUntilOpen_0c1 {d mc ms : Nat} {al : Bool} {bc bs : Nat} {Γ : am_G} {I : am_I} {L : am_L} {Q : am_Q} {v0 : Nat} {v1 : Int32} {I' : am_I} {L' : am_L} {mc' : Nat} {ms' : Nat} (o1 : am_ob Γ v0 8) (hbc : mc' ≤ bc) (hbs : ms' ≤ bs) (hC : am_E m_X8_hoursUntilOpen d mc' ms' [.ref v0, .int v1] Γ I L (.inr "java/lang/IndexOutOfBoundsException") I' L') (kk : am_W m_L_hoursUntilOpen (d + 1) mc ms al (bc - mc') (bs - ms') 7 [(0, .ref v0), (1, .int v1)] [] Γ I' L' Q) : am_W m_L_hoursUntilOpen (d + 1) mc ms al bc bs 0 [(0, .ref v0), (1, .int v1)] [] Γ I L Q := by
  refine aw_aload_n dL_hoursUntilOpen_0 rfl ?_
  refine aw_iload_n dL_hoursUntilOpen_1 rfl ?_
  refine aw_catchV (as := [.int v1]) (rst := []) (nm := "java/lang/IndexOutOfBoundsException") (k := 2) (len := 1) (ls' := [(0, .ref v0), (1, .int v1)]) k_X8_hoursUntilOpen l_L_63 i_X8_hoursUntilOpen s_X8_hoursUntilOpen rfl o1 dL_hoursUntilOpen_2 rfl (Nat.le_of_ble_eq_true rfl) hbc hbs hC rfl [] (0, 5, 6, 19) [] rfl ?_ (by decide) (by decide) cl_L_19 ca_IndexOutOfBoundsException (Or.inl ⟨2, rfl, dL_hoursUntilOpen_6, rfl⟩) (by decide) ?_ kk
  · intro z hz
    cases hz
  · intro q hq
    simp only [List.mem_cons, List.not_mem_nil, or_false] at hq
    rcases hq with rfl | rfl
    · exact List.mem_filter.mpr ⟨by simp, rfl⟩
    · exact List.mem_filter.mpr ⟨by simp, rfl⟩
theorem bL_hoursUntilOpen_5 {d mc ms : Nat} {al : Bool} {bc bs : Nat} {Γ : am_G} {I : am_I} {L : am_L} {Q : am_Q} {v0 : Nat} {v1 : Int32} {w0 : Int32} (hq : Q (.inl (some (.int w0))) Γ I L) : am_W m_L_hoursUntilOpen d mc ms al bc bs 5 [(0, .ref v0), (1, .int v1)] [.int w0] Γ I L Q := by
  exact aw_iret dL_hoursUntilOpen_5 rfl hq
theorem bL_hoursUntilOpen_7 {d mc ms : Nat} {al : Bool} {bc bs : Nat} {Γ : am_G} {I : am_I} {L : am_L} {Q : am_Q} {v0 : Nat} {v1 : Int32} (hq : Q (.inl (some (.int (-17)))) Γ I L) : am_W m_L_hoursUntilOpen d mc ms al bc bs 7 [(0, .ref v0), (1, .int v1)] [] Γ I L Q := by
  refine aw_bipush dL_hoursUntilOpen_7 cb_m17 ?_
  exact aw_iret dL_hoursUntilOpen_9 rfl hq
theorem dL_nodeCount_0 : decode cL_nodeCount 0 = .ok (.aload_n 0, 1) := by decide +kernel
theorem dL_nodeCount_1 : decode cL_nodeCount 1 = .ok (.iload_n 1, 1) := by decide +kernel
theorem dL_nodeCount_2 : decode cL_nodeCount 2 = .ok (.invokevirtual 66, 3) := by decide +kernel
theorem dL_nodeCount_5 : decode cL_nodeCount 5 = .ok (.ireturn, 1) := by decide +kernel
theorem dL_nodeCount_6 : decode cL_nodeCount 6 = .ok (.astore_n 2, 1) := by decide +kernel
theorem dL_nodeCount_7 : decode cL_nodeCount 7 = .ok (.bipush (-17), 2) := by decide +kernel
theorem dL_nodeCount_9 : decode cL_nodeCount 9 = .ok (.ireturn, 1) := by decide +kernel
theorem bL_nodeCount_0 {d mc ms : Nat} {al : Bool} {bc bs : Nat} {Γ : am_G} {I : am_I} {L : am_L} {Q : am_Q} {v0 : Nat} {v1 : Int32} {I' : am_I} {L' : am_L} {mc' : Nat} {ms' : Nat} {r : Int32} (o1 : am_ob Γ v0 8) (hbc : mc' ≤ bc) (hbs : ms' ≤ bs) (hC : am_E m_X8_nodeCount d mc' ms' [.ref v0, .int v1] Γ I L (.inl (some (.int r))) I' L') (kk : am_W m_L_nodeCount (d + 1) mc ms al (bc - mc') (bs - ms') 5 [(0, .ref v0), (1, .int v1)] [.int r] Γ I' L' Q) : am_W m_L_nodeCount (d + 1) mc ms al bc bs 0 [(0, .ref v0), (1, .int v1)] [] Γ I L Q := by
  refine aw_aload_n dL_nodeCount_0 rfl ?_
  refine aw_iload_n dL_nodeCount_1 rfl ?_
  exact aw_askV (as := [.int v1]) (rst := []) k_X8_nodeCount l_L_66 i_X8_nodeCount s_X8_nodeCount rfl o1 dL_nodeCount_2 rfl (Nat.le_of_ble_eq_true rfl) hbc hbs hC rfl rfl kk
theorem bL_nodeCount_0c1 {d mc ms : Nat} {al : Bool} {bc bs : Nat} {Γ : am_G} {I : am_I} {L : am_L} {Q : am_Q} {v0 : Nat} {v1 : Int32} {I' : am_I} {L' : am_L} {mc' : Nat} {ms' : Nat} (o1 : am_ob Γ v0 8) (hbc : mc' ≤ bc) (hbs : ms' ≤ bs) (hC : am_E m_X8_nodeCount d mc' ms' [.ref v0, .int v1] Γ I L (.inr "java/lang/IndexOutOfBoundsException") I' L') (kk : am_W m_L_nodeCount (d + 1) mc ms al (bc - mc') (bs - ms') 7 [(0, .ref v0), (1, .int v1)] [] Γ I' L' Q) : am_W m_L_nodeCount (d + 1) mc ms al bc bs 0 [(0, .ref v0), (1, .int v1)] [] Γ I L Q := by
  refine aw_aload_n dL_nodeCount_0 rfl ?_
  refine aw_iload_n dL_nodeCount_1 rfl ?_
  refine aw_catchV (as := [.int v1]) (rst := []) (nm := "java/lang/IndexOutOfBoundsException") (k := 2) (len := 1) (ls' := [(0, .ref v0), (1, .int v1)]) k_X8_nodeCount l_L_66 i_X8_nodeCount s_X8_nodeCount rfl o1 dL_nodeCount_2 rfl (Nat.le_of_ble_eq_true rfl) hbc hbs hC rfl [] (0, 5, 6, 19) [] rfl ?_ (by decide) (by decide) cl_L_19 ca_IndexOutOfBoundsException (Or.inl ⟨2, rfl, dL_nodeCount_6, rfl⟩) (by decide) ?_ kk
  · intro z hz
    cases hz
  · intro q hq
    simp only [List.mem_cons, List.not_mem_nil, or_false] at hq
    rcases hq with rfl | rfl
    · exact List.mem_filter.mpr ⟨by simp, rfl⟩
    · exact List.mem_filter.mpr ⟨by simp, rfl⟩
theorem bL_nodeCount_5 {d mc ms : Nat} {al : Bool} {bc bs : Nat} {Γ : am_G} {I : am_I} {L : am_L} {Q : am_Q} {v0 : Nat} {v1 : Int32} {w0 : Int32} (hq : Q (.inl (some (.int w0))) Γ I L) : am_W m_L_nodeCount d mc ms al bc bs 5 [(0, .ref v0), (1, .int v1)] [.int w0] Γ I L Q := by
  exact aw_iret dL_nodeCount_5 rfl hq
theorem bL_nodeCount_7 {d mc ms : Nat} {al : Bool} {bc bs : Nat} {Γ : am_G} {I : am_I} {L : am_L} {Q : am_Q} {v0 : Nat} {v1 : Int32} (hq : Q (.inl (some (.int (-17)))) Γ I L) : am_W m_L_nodeCount d mc ms al bc bs 7 [(0, .ref v0), (1, .int v1)] [] Γ I L Q := by
  refine aw_bipush dL_nodeCount_7 cb_m17 ?_
  exact aw_iret dL_nodeCount_9 rfl hq
theorem dL_nodeQuestion_0 : decode cL_nodeQuestion 0 = .ok (.aload_n 0, 1) := by decide +kernel
theorem dL_nodeQuestion_1 : decode cL_nodeQuestion 1 = .ok (.iload_n 1, 1) := by decide +kernel
theorem dL_nodeQuestion_2 : decode cL_nodeQuestion 2 = .ok (.iload_n 2, 1) := by decide +kernel
theorem dL_nodeQuestion_3 : decode cL_nodeQuestion 3 = .ok (.invokevirtual 69, 3) := by decide +kernel
theorem dL_nodeQuestion_6 : decode cL_nodeQuestion 6 = .ok (.ireturn, 1) := by decide +kernel
theorem dL_nodeQuestion_7 : decode cL_nodeQuestion 7 = .ok (.astore_n 3, 1) := by decide +kernel
theorem dL_nodeQuestion_8 : decode cL_nodeQuestion 8 = .ok (.bipush (-17), 2) := by decide +kernel
theorem dL_nodeQuestion_10 : decode cL_nodeQuestion 10 = .ok (.ireturn, 1) := by decide +kernel
theorem bL_nodeQuestion_0 {d mc ms : Nat} {al : Bool} {bc bs : Nat} {Γ : am_G} {I : am_I} {L : am_L} {Q : am_Q} {v0 : Nat} {v1 : Int32} {v2 : Int32} {I' : am_I} {L' : am_L} {mc' : Nat} {ms' : Nat} {r : Int32} (o1 : am_ob Γ v0 8) (hbc : mc' ≤ bc) (hbs : ms' ≤ bs) (hC : am_E m_X8_nodeQuestion d mc' ms' [.ref v0, .int v1, .int v2] Γ I L (.inl (some (.int r))) I' L') (kk : am_W m_L_nodeQuestion (d + 1) mc ms al (bc - mc') (bs - ms') 6 [(0, .ref v0), (1, .int v1), (2, .int v2)] [.int r] Γ I' L' Q) : am_W m_L_nodeQuestion (d + 1) mc ms al bc bs 0 [(0, .ref v0), (1, .int v1), (2, .int v2)] [] Γ I L Q := by
  refine aw_aload_n dL_nodeQuestion_0 rfl ?_
  refine aw_iload_n dL_nodeQuestion_1 rfl ?_
  refine aw_iload_n dL_nodeQuestion_2 rfl ?_
  exact aw_askV (as := [.int v1, .int v2]) (rst := []) k_X8_nodeQuestion l_L_69 i_X8_nodeQuestion s_X8_nodeQuestion rfl o1 dL_nodeQuestion_3 rfl (Nat.le_of_ble_eq_true rfl) hbc hbs hC rfl rfl kk
theorem bL_nodeQuestion_0c1 {d mc ms : Nat} {al : Bool} {bc bs : Nat} {Γ : am_G} {I : am_I} {L : am_L} {Q : am_Q} {v0 : Nat} {v1 : Int32} {v2 : Int32} {I' : am_I} {L' : am_L} {mc' : Nat} {ms' : Nat} (o1 : am_ob Γ v0 8) (hbc : mc' ≤ bc) (hbs : ms' ≤ bs) (hC : am_E m_X8_nodeQuestion d mc' ms' [.ref v0, .int v1, .int v2] Γ I L (.inr "java/lang/IndexOutOfBoundsException") I' L') (kk : am_W m_L_nodeQuestion (d + 1) mc ms al (bc - mc') (bs - ms') 8 [(0, .ref v0), (1, .int v1), (2, .int v2)] [] Γ I' L' Q) : am_W m_L_nodeQuestion (d + 1) mc ms al bc bs 0 [(0, .ref v0), (1, .int v1), (2, .int v2)] [] Γ I L Q := by
  refine aw_aload_n dL_nodeQuestion_0 rfl ?_
  refine aw_iload_n dL_nodeQuestion_1 rfl ?_
  refine aw_iload_n dL_nodeQuestion_2 rfl ?_
  refine aw_catchV (as := [.int v1, .int v2]) (rst := []) (nm := "java/lang/IndexOutOfBoundsException") (k := 3) (len := 1) (ls' := [(0, .ref v0), (1, .int v1), (2, .int v2)]) k_X8_nodeQuestion l_L_69 i_X8_nodeQuestion s_X8_nodeQuestion rfl o1 dL_nodeQuestion_3 rfl (Nat.le_of_ble_eq_true rfl) hbc hbs hC rfl [] (0, 6, 7, 19) [] rfl ?_ (by decide) (by decide) cl_L_19 ca_IndexOutOfBoundsException (Or.inl ⟨3, rfl, dL_nodeQuestion_7, rfl⟩) (by decide) ?_ kk
  · intro z hz
    cases hz
  · intro q hq
    simp only [List.mem_cons, List.not_mem_nil, or_false] at hq
    rcases hq with rfl | rfl | rfl
    · exact List.mem_filter.mpr ⟨by simp, rfl⟩
    · exact List.mem_filter.mpr ⟨by simp, rfl⟩
    · exact List.mem_filter.mpr ⟨by simp, rfl⟩
theorem bL_nodeQuestion_6 {d mc ms : Nat} {al : Bool} {bc bs : Nat} {Γ : am_G} {I : am_I} {L : am_L} {Q : am_Q} {v0 : Nat} {v1 : Int32} {v2 : Int32} {w0 : Int32} (hq : Q (.inl (some (.int w0))) Γ I L) : am_W m_L_nodeQuestion d mc ms al bc bs 6 [(0, .ref v0), (1, .int v1), (2, .int v2)] [.int w0] Γ I L Q := by
  exact aw_iret dL_nodeQuestion_6 rfl hq
theorem bL_nodeQuestion_8 {d mc ms : Nat} {al : Bool} {bc bs : Nat} {Γ : am_G} {I : am_I} {L : am_L} {Q : am_Q} {v0 : Nat} {v1 : Int32} {v2 : Int32} (hq : Q (.inl (some (.int (-17)))) Γ I L) : am_W m_L_nodeQuestion d mc ms al bc bs 8 [(0, .ref v0), (1, .int v1), (2, .int v2)] [] Γ I L Q := by
  refine aw_bipush dL_nodeQuestion_8 cb_m17 ?_
  exact aw_iret dL_nodeQuestion_10 rfl hq
theorem dL_leafToll_0 : decode cL_leafToll 0 = .ok (.aload_n 0, 1) := by decide +kernel
theorem dL_leafToll_1 : decode cL_leafToll 1 = .ok (.iload_n 1, 1) := by decide +kernel
theorem dL_leafToll_2 : decode cL_leafToll 2 = .ok (.iload_n 2, 1) := by decide +kernel
theorem dL_leafToll_3 : decode cL_leafToll 3 = .ok (.invokevirtual 72, 3) := by decide +kernel
theorem dL_leafToll_6 : decode cL_leafToll 6 = .ok (.ireturn, 1) := by decide +kernel
theorem dL_leafToll_7 : decode cL_leafToll 7 = .ok (.astore_n 3, 1) := by decide +kernel
theorem dL_leafToll_8 : decode cL_leafToll 8 = .ok (.bipush (-17), 2) := by decide +kernel
theorem dL_leafToll_10 : decode cL_leafToll 10 = .ok (.ireturn, 1) := by decide +kernel
theorem bL_leafToll_0 {d mc ms : Nat} {al : Bool} {bc bs : Nat} {Γ : am_G} {I : am_I} {L : am_L} {Q : am_Q} {v0 : Nat} {v1 : Int32} {v2 : Int32} {I' : am_I} {L' : am_L} {mc' : Nat} {ms' : Nat} {r : Int32} (o1 : am_ob Γ v0 8) (hbc : mc' ≤ bc) (hbs : ms' ≤ bs) (hC : am_E m_X8_leafToll d mc' ms' [.ref v0, .int v1, .int v2] Γ I L (.inl (some (.int r))) I' L') (kk : am_W m_L_leafToll (d + 1) mc ms al (bc - mc') (bs - ms') 6 [(0, .ref v0), (1, .int v1), (2, .int v2)] [.int r] Γ I' L' Q) : am_W m_L_leafToll (d + 1) mc ms al bc bs 0 [(0, .ref v0), (1, .int v1), (2, .int v2)] [] Γ I L Q := by
  refine aw_aload_n dL_leafToll_0 rfl ?_
  refine aw_iload_n dL_leafToll_1 rfl ?_
  refine aw_iload_n dL_leafToll_2 rfl ?_
  exact aw_askV (as := [.int v1, .int v2]) (rst := []) k_X8_leafToll l_L_72 i_X8_leafToll s_X8_leafToll rfl o1 dL_leafToll_3 rfl (Nat.le_of_ble_eq_true rfl) hbc hbs hC rfl rfl kk
theorem bL_leafToll_0c1 {d mc ms : Nat} {al : Bool} {bc bs : Nat} {Γ : am_G} {I : am_I} {L : am_L} {Q : am_Q} {v0 : Nat} {v1 : Int32} {v2 : Int32} {I' : am_I} {L' : am_L} {mc' : Nat} {ms' : Nat} (o1 : am_ob Γ v0 8) (hbc : mc' ≤ bc) (hbs : ms' ≤ bs) (hC : am_E m_X8_leafToll d mc' ms' [.ref v0, .int v1, .int v2] Γ I L (.inr "java/lang/IndexOutOfBoundsException") I' L') (kk : am_W m_L_leafToll (d + 1) mc ms al (bc - mc') (bs - ms') 8 [(0, .ref v0), (1, .int v1), (2, .int v2)] [] Γ I' L' Q) : am_W m_L_leafToll (d + 1) mc ms al bc bs 0 [(0, .ref v0), (1, .int v1), (2, .int v2)] [] Γ I L Q := by
  refine aw_aload_n dL_leafToll_0 rfl ?_
  refine aw_iload_n dL_leafToll_1 rfl ?_
  refine aw_iload_n dL_leafToll_2 rfl ?_
  refine aw_catchV (as := [.int v1, .int v2]) (rst := []) (nm := "java/lang/IndexOutOfBoundsException") (k := 3) (len := 1) (ls' := [(0, .ref v0), (1, .int v1), (2, .int v2)]) k_X8_leafToll l_L_72 i_X8_leafToll s_X8_leafToll rfl o1 dL_leafToll_3 rfl (Nat.le_of_ble_eq_true rfl) hbc hbs hC rfl [] (0, 6, 7, 19) [] rfl ?_ (by decide) (by decide) cl_L_19 ca_IndexOutOfBoundsException (Or.inl ⟨3, rfl, dL_leafToll_7, rfl⟩) (by decide) ?_ kk
  · intro z hz
    cases hz
  · intro q hq
    simp only [List.mem_cons, List.not_mem_nil, or_false] at hq
    rcases hq with rfl | rfl | rfl
    · exact List.mem_filter.mpr ⟨by simp, rfl⟩
    · exact List.mem_filter.mpr ⟨by simp, rfl⟩
    · exact List.mem_filter.mpr ⟨by simp, rfl⟩
theorem bL_leafToll_6 {d mc ms : Nat} {al : Bool} {bc bs : Nat} {Γ : am_G} {I : am_I} {L : am_L} {Q : am_Q} {v0 : Nat} {v1 : Int32} {v2 : Int32} {w0 : Int32} (hq : Q (.inl (some (.int w0))) Γ I L) : am_W m_L_leafToll d mc ms al bc bs 6 [(0, .ref v0), (1, .int v1), (2, .int v2)] [.int w0] Γ I L Q := by
  exact aw_iret dL_leafToll_6 rfl hq
theorem bL_leafToll_8 {d mc ms : Nat} {al : Bool} {bc bs : Nat} {Γ : am_G} {I : am_I} {L : am_L} {Q : am_Q} {v0 : Nat} {v1 : Int32} {v2 : Int32} (hq : Q (.inl (some (.int (-17)))) Γ I L) : am_W m_L_leafToll d mc ms al bc bs 8 [(0, .ref v0), (1, .int v1), (2, .int v2)] [] Γ I L Q := by
  refine aw_bipush dL_leafToll_8 cb_m17 ?_
  exact aw_iret dL_leafToll_10 rfl hq
theorem dL_yesChild_0 : decode cL_yesChild 0 = .ok (.aload_n 0, 1) := by decide +kernel
theorem dL_yesChild_1 : decode cL_yesChild 1 = .ok (.iload_n 1, 1) := by decide +kernel
theorem dL_yesChild_2 : decode cL_yesChild 2 = .ok (.iload_n 2, 1) := by decide +kernel
theorem dL_yesChild_3 : decode cL_yesChild 3 = .ok (.invokevirtual 75, 3) := by decide +kernel
theorem dL_yesChild_6 : decode cL_yesChild 6 = .ok (.ireturn, 1) := by decide +kernel
theorem dL_yesChild_7 : decode cL_yesChild 7 = .ok (.astore_n 3, 1) := by decide +kernel
theorem dL_yesChild_8 : decode cL_yesChild 8 = .ok (.bipush (-17), 2) := by decide +kernel
theorem dL_yesChild_10 : decode cL_yesChild 10 = .ok (.ireturn, 1) := by decide +kernel
theorem bL_yesChild_0 {d mc ms : Nat} {al : Bool} {bc bs : Nat} {Γ : am_G} {I : am_I} {L : am_L} {Q : am_Q} {v0 : Nat} {v1 : Int32} {v2 : Int32} {I' : am_I} {L' : am_L} {mc' : Nat} {ms' : Nat} {r : Int32} (o1 : am_ob Γ v0 8) (hbc : mc' ≤ bc) (hbs : ms' ≤ bs) (hC : am_E m_X8_yesChild d mc' ms' [.ref v0, .int v1, .int v2] Γ I L (.inl (some (.int r))) I' L') (kk : am_W m_L_yesChild (d + 1) mc ms al (bc - mc') (bs - ms') 6 [(0, .ref v0), (1, .int v1), (2, .int v2)] [.int r] Γ I' L' Q) : am_W m_L_yesChild (d + 1) mc ms al bc bs 0 [(0, .ref v0), (1, .int v1), (2, .int v2)] [] Γ I L Q := by
  refine aw_aload_n dL_yesChild_0 rfl ?_
  refine aw_iload_n dL_yesChild_1 rfl ?_
  refine aw_iload_n dL_yesChild_2 rfl ?_
  exact aw_askV (as := [.int v1, .int v2]) (rst := []) k_X8_yesChild l_L_75 i_X8_yesChild s_X8_yesChild rfl o1 dL_yesChild_3 rfl (Nat.le_of_ble_eq_true rfl) hbc hbs hC rfl rfl kk
theorem bL_yesChild_0c1 {d mc ms : Nat} {al : Bool} {bc bs : Nat} {Γ : am_G} {I : am_I} {L : am_L} {Q : am_Q} {v0 : Nat} {v1 : Int32} {v2 : Int32} {I' : am_I} {L' : am_L} {mc' : Nat} {ms' : Nat} (o1 : am_ob Γ v0 8) (hbc : mc' ≤ bc) (hbs : ms' ≤ bs) (hC : am_E m_X8_yesChild d mc' ms' [.ref v0, .int v1, .int v2] Γ I L (.inr "java/lang/IndexOutOfBoundsException") I' L') (kk : am_W m_L_yesChild (d + 1) mc ms al (bc - mc') (bs - ms') 8 [(0, .ref v0), (1, .int v1), (2, .int v2)] [] Γ I' L' Q) : am_W m_L_yesChild (d + 1) mc ms al bc bs 0 [(0, .ref v0), (1, .int v1), (2, .int v2)] [] Γ I L Q := by
  refine aw_aload_n dL_yesChild_0 rfl ?_
  refine aw_iload_n dL_yesChild_1 rfl ?_
  refine aw_iload_n dL_yesChild_2 rfl ?_
  refine aw_catchV (as := [.int v1, .int v2]) (rst := []) (nm := "java/lang/IndexOutOfBoundsException") (k := 3) (len := 1) (ls' := [(0, .ref v0), (1, .int v1), (2, .int v2)]) k_X8_yesChild l_L_75 i_X8_yesChild s_X8_yesChild rfl o1 dL_yesChild_3 rfl (Nat.le_of_ble_eq_true rfl) hbc hbs hC rfl [] (0, 6, 7, 19) [] rfl ?_ (by decide) (by decide) cl_L_19 ca_IndexOutOfBoundsException (Or.inl ⟨3, rfl, dL_yesChild_7, rfl⟩) (by decide) ?_ kk
  · intro z hz
    cases hz
  · intro q hq
    simp only [List.mem_cons, List.not_mem_nil, or_false] at hq
    rcases hq with rfl | rfl | rfl
    · exact List.mem_filter.mpr ⟨by simp, rfl⟩
    · exact List.mem_filter.mpr ⟨by simp, rfl⟩
    · exact List.mem_filter.mpr ⟨by simp, rfl⟩
theorem bL_yesChild_6 {d mc ms : Nat} {al : Bool} {bc bs : Nat} {Γ : am_G} {I : am_I} {L : am_L} {Q : am_Q} {v0 : Nat} {v1 : Int32} {v2 : Int32} {w0 : Int32} (hq : Q (.inl (some (.int w0))) Γ I L) : am_W m_L_yesChild d mc ms al bc bs 6 [(0, .ref v0), (1, .int v1), (2, .int v2)] [.int w0] Γ I L Q := by
  exact aw_iret dL_yesChild_6 rfl hq
theorem bL_yesChild_8 {d mc ms : Nat} {al : Bool} {bc bs : Nat} {Γ : am_G} {I : am_I} {L : am_L} {Q : am_Q} {v0 : Nat} {v1 : Int32} {v2 : Int32} (hq : Q (.inl (some (.int (-17)))) Γ I L) : am_W m_L_yesChild d mc ms al bc bs 8 [(0, .ref v0), (1, .int v1), (2, .int v2)] [] Γ I L Q := by
  refine aw_bipush dL_yesChild_8 cb_m17 ?_
  exact aw_iret dL_yesChild_10 rfl hq
theorem dL_noChild_0 : decode cL_noChild 0 = .ok (.aload_n 0, 1) := by decide +kernel
theorem dL_noChild_1 : decode cL_noChild 1 = .ok (.iload_n 1, 1) := by decide +kernel
theorem dL_noChild_2 : decode cL_noChild 2 = .ok (.iload_n 2, 1) := by decide +kernel
theorem dL_noChild_3 : decode cL_noChild 3 = .ok (.invokevirtual 78, 3) := by decide +kernel
theorem dL_noChild_6 : decode cL_noChild 6 = .ok (.ireturn, 1) := by decide +kernel
theorem dL_noChild_7 : decode cL_noChild 7 = .ok (.astore_n 3, 1) := by decide +kernel
theorem dL_noChild_8 : decode cL_noChild 8 = .ok (.bipush (-17), 2) := by decide +kernel
theorem dL_noChild_10 : decode cL_noChild 10 = .ok (.ireturn, 1) := by decide +kernel
theorem bL_noChild_0 {d mc ms : Nat} {al : Bool} {bc bs : Nat} {Γ : am_G} {I : am_I} {L : am_L} {Q : am_Q} {v0 : Nat} {v1 : Int32} {v2 : Int32} {I' : am_I} {L' : am_L} {mc' : Nat} {ms' : Nat} {r : Int32} (o1 : am_ob Γ v0 8) (hbc : mc' ≤ bc) (hbs : ms' ≤ bs) (hC : am_E m_X8_noChild d mc' ms' [.ref v0, .int v1, .int v2] Γ I L (.inl (some (.int r))) I' L') (kk : am_W m_L_noChild (d + 1) mc ms al (bc - mc') (bs - ms') 6 [(0, .ref v0), (1, .int v1), (2, .int v2)] [.int r] Γ I' L' Q) : am_W m_L_noChild (d + 1) mc ms al bc bs 0 [(0, .ref v0), (1, .int v1), (2, .int v2)] [] Γ I L Q := by
  refine aw_aload_n dL_noChild_0 rfl ?_
  refine aw_iload_n dL_noChild_1 rfl ?_
  refine aw_iload_n dL_noChild_2 rfl ?_
  exact aw_askV (as := [.int v1, .int v2]) (rst := []) k_X8_noChild l_L_78 i_X8_noChild s_X8_noChild rfl o1 dL_noChild_3 rfl (Nat.le_of_ble_eq_true rfl) hbc hbs hC rfl rfl kk
theorem bL_noChild_0c1 {d mc ms : Nat} {al : Bool} {bc bs : Nat} {Γ : am_G} {I : am_I} {L : am_L} {Q : am_Q} {v0 : Nat} {v1 : Int32} {v2 : Int32} {I' : am_I} {L' : am_L} {mc' : Nat} {ms' : Nat} (o1 : am_ob Γ v0 8) (hbc : mc' ≤ bc) (hbs : ms' ≤ bs) (hC : am_E m_X8_noChild d mc' ms' [.ref v0, .int v1, .int v2] Γ I L (.inr "java/lang/IndexOutOfBoundsException") I' L') (kk : am_W m_L_noChild (d + 1) mc ms al (bc - mc') (bs - ms') 8 [(0, .ref v0), (1, .int v1), (2, .int v2)] [] Γ I' L' Q) : am_W m_L_noChild (d + 1) mc ms al bc bs 0 [(0, .ref v0), (1, .int v1), (2, .int v2)] [] Γ I L Q := by
  refine aw_aload_n dL_noChild_0 rfl ?_
  refine aw_iload_n dL_noChild_1 rfl ?_
  refine aw_iload_n dL_noChild_2 rfl ?_
  refine aw_catchV (as := [.int v1, .int v2]) (rst := []) (nm := "java/lang/IndexOutOfBoundsException") (k := 3) (len := 1) (ls' := [(0, .ref v0), (1, .int v1), (2, .int v2)]) k_X8_noChild l_L_78 i_X8_noChild s_X8_noChild rfl o1 dL_noChild_3 rfl (Nat.le_of_ble_eq_true rfl) hbc hbs hC rfl [] (0, 6, 7, 19) [] rfl ?_ (by decide) (by decide) cl_L_19 ca_IndexOutOfBoundsException (Or.inl ⟨3, rfl, dL_noChild_7, rfl⟩) (by decide) ?_ kk
  · intro z hz
    cases hz
  · intro q hq
    simp only [List.mem_cons, List.not_mem_nil, or_false] at hq
    rcases hq with rfl | rfl | rfl
    · exact List.mem_filter.mpr ⟨by simp, rfl⟩
    · exact List.mem_filter.mpr ⟨by simp, rfl⟩
    · exact List.mem_filter.mpr ⟨by simp, rfl⟩
theorem bL_noChild_6 {d mc ms : Nat} {al : Bool} {bc bs : Nat} {Γ : am_G} {I : am_I} {L : am_L} {Q : am_Q} {v0 : Nat} {v1 : Int32} {v2 : Int32} {w0 : Int32} (hq : Q (.inl (some (.int w0))) Γ I L) : am_W m_L_noChild d mc ms al bc bs 6 [(0, .ref v0), (1, .int v1), (2, .int v2)] [.int w0] Γ I L Q := by
  exact aw_iret dL_noChild_6 rfl hq
theorem bL_noChild_8 {d mc ms : Nat} {al : Bool} {bc bs : Nat} {Γ : am_G} {I : am_I} {L : am_L} {Q : am_Q} {v0 : Nat} {v1 : Int32} {v2 : Int32} (hq : Q (.inl (some (.int (-17)))) Γ I L) : am_W m_L_noChild d mc ms al bc bs 8 [(0, .ref v0), (1, .int v1), (2, .int v2)] [] Γ I L Q := by
  refine aw_bipush dL_noChild_8 cb_m17 ?_
  exact aw_iret dL_noChild_10 rfl hq
theorem dL_typesAt_0 : decode cL_typesAt 0 = .ok (.aload_n 0, 1) := by decide +kernel
theorem dL_typesAt_1 : decode cL_typesAt 1 = .ok (.iload_n 1, 1) := by decide +kernel
theorem dL_typesAt_2 : decode cL_typesAt 2 = .ok (.iload_n 2, 1) := by decide +kernel
theorem dL_typesAt_3 : decode cL_typesAt 3 = .ok (.invokevirtual 81, 3) := by decide +kernel
theorem dL_typesAt_6 : decode cL_typesAt 6 = .ok (.ireturn, 1) := by decide +kernel
theorem dL_typesAt_7 : decode cL_typesAt 7 = .ok (.astore_n 3, 1) := by decide +kernel
theorem dL_typesAt_8 : decode cL_typesAt 8 = .ok (.bipush (-17), 2) := by decide +kernel
theorem dL_typesAt_10 : decode cL_typesAt 10 = .ok (.ireturn, 1) := by decide +kernel
theorem bL_typesAt_0 {d mc ms : Nat} {al : Bool} {bc bs : Nat} {Γ : am_G} {I : am_I} {L : am_L} {Q : am_Q} {v0 : Nat} {v1 : Int32} {v2 : Int32} {I' : am_I} {L' : am_L} {mc' : Nat} {ms' : Nat} {r : Int32} (o1 : am_ob Γ v0 8) (hbc : mc' ≤ bc) (hbs : ms' ≤ bs) (hC : am_E m_X8_typesAt d mc' ms' [.ref v0, .int v1, .int v2] Γ I L (.inl (some (.int r))) I' L') (kk : am_W m_L_typesAt (d + 1) mc ms al (bc - mc') (bs - ms') 6 [(0, .ref v0), (1, .int v1), (2, .int v2)] [.int r] Γ I' L' Q) : am_W m_L_typesAt (d + 1) mc ms al bc bs 0 [(0, .ref v0), (1, .int v1), (2, .int v2)] [] Γ I L Q := by
  refine aw_aload_n dL_typesAt_0 rfl ?_
  refine aw_iload_n dL_typesAt_1 rfl ?_
  refine aw_iload_n dL_typesAt_2 rfl ?_
  exact aw_askV (as := [.int v1, .int v2]) (rst := []) k_X8_typesAt l_L_81 i_X8_typesAt s_X8_typesAt rfl o1 dL_typesAt_3 rfl (Nat.le_of_ble_eq_true rfl) hbc hbs hC rfl rfl kk
theorem bL_typesAt_0c1 {d mc ms : Nat} {al : Bool} {bc bs : Nat} {Γ : am_G} {I : am_I} {L : am_L} {Q : am_Q} {v0 : Nat} {v1 : Int32} {v2 : Int32} {I' : am_I} {L' : am_L} {mc' : Nat} {ms' : Nat} (o1 : am_ob Γ v0 8) (hbc : mc' ≤ bc) (hbs : ms' ≤ bs) (hC : am_E m_X8_typesAt d mc' ms' [.ref v0, .int v1, .int v2] Γ I L (.inr "java/lang/IndexOutOfBoundsException") I' L') (kk : am_W m_L_typesAt (d + 1) mc ms al (bc - mc') (bs - ms') 8 [(0, .ref v0), (1, .int v1), (2, .int v2)] [] Γ I' L' Q) : am_W m_L_typesAt (d + 1) mc ms al bc bs 0 [(0, .ref v0), (1, .int v1), (2, .int v2)] [] Γ I L Q := by
  refine aw_aload_n dL_typesAt_0 rfl ?_
  refine aw_iload_n dL_typesAt_1 rfl ?_
  refine aw_iload_n dL_typesAt_2 rfl ?_
  refine aw_catchV (as := [.int v1, .int v2]) (rst := []) (nm := "java/lang/IndexOutOfBoundsException") (k := 3) (len := 1) (ls' := [(0, .ref v0), (1, .int v1), (2, .int v2)]) k_X8_typesAt l_L_81 i_X8_typesAt s_X8_typesAt rfl o1 dL_typesAt_3 rfl (Nat.le_of_ble_eq_true rfl) hbc hbs hC rfl [] (0, 6, 7, 19) [] rfl ?_ (by decide) (by decide) cl_L_19 ca_IndexOutOfBoundsException (Or.inl ⟨3, rfl, dL_typesAt_7, rfl⟩) (by decide) ?_ kk
  · intro z hz
    cases hz
  · intro q hq
    simp only [List.mem_cons, List.not_mem_nil, or_false] at hq
    rcases hq with rfl | rfl | rfl
    · exact List.mem_filter.mpr ⟨by simp, rfl⟩
    · exact List.mem_filter.mpr ⟨by simp, rfl⟩
    · exact List.mem_filter.mpr ⟨by simp, rfl⟩
theorem bL_typesAt_6 {d mc ms : Nat} {al : Bool} {bc bs : Nat} {Γ : am_G} {I : am_I} {L : am_L} {Q : am_Q} {v0 : Nat} {v1 : Int32} {v2 : Int32} {w0 : Int32} (hq : Q (.inl (some (.int w0))) Γ I L) : am_W m_L_typesAt d mc ms al bc bs 6 [(0, .ref v0), (1, .int v1), (2, .int v2)] [.int w0] Γ I L Q := by
  exact aw_iret dL_typesAt_6 rfl hq
theorem bL_typesAt_8 {d mc ms : Nat} {al : Bool} {bc bs : Nat} {Γ : am_G} {I : am_I} {L : am_L} {Q : am_Q} {v0 : Nat} {v1 : Int32} {v2 : Int32} (hq : Q (.inl (some (.int (-17)))) Γ I L) : am_W m_L_typesAt d mc ms al bc bs 8 [(0, .ref v0), (1, .int v1), (2, .int v2)] [] Γ I L Q := by
  refine aw_bipush dL_typesAt_8 cb_m17 ?_
  exact aw_iret dL_typesAt_10 rfl hq
theorem dL_leafOf_0 : decode cL_leafOf 0 = .ok (.aload_n 0, 1) := by decide +kernel
theorem dL_leafOf_1 : decode cL_leafOf 1 = .ok (.iload_n 1, 1) := by decide +kernel
theorem dL_leafOf_2 : decode cL_leafOf 2 = .ok (.iload_n 2, 1) := by decide +kernel
theorem dL_leafOf_3 : decode cL_leafOf 3 = .ok (.invokevirtual 84, 3) := by decide +kernel
theorem dL_leafOf_6 : decode cL_leafOf 6 = .ok (.ireturn, 1) := by decide +kernel
theorem dL_leafOf_7 : decode cL_leafOf 7 = .ok (.astore_n 3, 1) := by decide +kernel
theorem dL_leafOf_8 : decode cL_leafOf 8 = .ok (.bipush (-17), 2) := by decide +kernel
theorem dL_leafOf_10 : decode cL_leafOf 10 = .ok (.ireturn, 1) := by decide +kernel
theorem bL_leafOf_0 {d mc ms : Nat} {al : Bool} {bc bs : Nat} {Γ : am_G} {I : am_I} {L : am_L} {Q : am_Q} {v0 : Nat} {v1 : Int32} {v2 : Int32} {I' : am_I} {L' : am_L} {mc' : Nat} {ms' : Nat} {r : Int32} (o1 : am_ob Γ v0 8) (hbc : mc' ≤ bc) (hbs : ms' ≤ bs) (hC : am_E m_X8_leafOf d mc' ms' [.ref v0, .int v1, .int v2] Γ I L (.inl (some (.int r))) I' L') (kk : am_W m_L_leafOf (d + 1) mc ms al (bc - mc') (bs - ms') 6 [(0, .ref v0), (1, .int v1), (2, .int v2)] [.int r] Γ I' L' Q) : am_W m_L_leafOf (d + 1) mc ms al bc bs 0 [(0, .ref v0), (1, .int v1), (2, .int v2)] [] Γ I L Q := by
  refine aw_aload_n dL_leafOf_0 rfl ?_
  refine aw_iload_n dL_leafOf_1 rfl ?_
  refine aw_iload_n dL_leafOf_2 rfl ?_
  exact aw_askV (as := [.int v1, .int v2]) (rst := []) k_X8_leafOf l_L_84 i_X8_leafOf s_X8_leafOf rfl o1 dL_leafOf_3 rfl (Nat.le_of_ble_eq_true rfl) hbc hbs hC rfl rfl kk
theorem bL_leafOf_0c1 {d mc ms : Nat} {al : Bool} {bc bs : Nat} {Γ : am_G} {I : am_I} {L : am_L} {Q : am_Q} {v0 : Nat} {v1 : Int32} {v2 : Int32} {I' : am_I} {L' : am_L} {mc' : Nat} {ms' : Nat} (o1 : am_ob Γ v0 8) (hbc : mc' ≤ bc) (hbs : ms' ≤ bs) (hC : am_E m_X8_leafOf d mc' ms' [.ref v0, .int v1, .int v2] Γ I L (.inr "java/lang/IndexOutOfBoundsException") I' L') (kk : am_W m_L_leafOf (d + 1) mc ms al (bc - mc') (bs - ms') 8 [(0, .ref v0), (1, .int v1), (2, .int v2)] [] Γ I' L' Q) : am_W m_L_leafOf (d + 1) mc ms al bc bs 0 [(0, .ref v0), (1, .int v1), (2, .int v2)] [] Γ I L Q := by
  refine aw_aload_n dL_leafOf_0 rfl ?_
  refine aw_iload_n dL_leafOf_1 rfl ?_
  refine aw_iload_n dL_leafOf_2 rfl ?_
  refine aw_catchV (as := [.int v1, .int v2]) (rst := []) (nm := "java/lang/IndexOutOfBoundsException") (k := 3) (len := 1) (ls' := [(0, .ref v0), (1, .int v1), (2, .int v2)]) k_X8_leafOf l_L_84 i_X8_leafOf s_X8_leafOf rfl o1 dL_leafOf_3 rfl (Nat.le_of_ble_eq_true rfl) hbc hbs hC rfl [] (0, 6, 7, 19) [] rfl ?_ (by decide) (by decide) cl_L_19 ca_IndexOutOfBoundsException (Or.inl ⟨3, rfl, dL_leafOf_7, rfl⟩) (by decide) ?_ kk
  · intro z hz
    cases hz
  · intro q hq
    simp only [List.mem_cons, List.not_mem_nil, or_false] at hq
    rcases hq with rfl | rfl | rfl
    · exact List.mem_filter.mpr ⟨by simp, rfl⟩
    · exact List.mem_filter.mpr ⟨by simp, rfl⟩
    · exact List.mem_filter.mpr ⟨by simp, rfl⟩
theorem bL_leafOf_6 {d mc ms : Nat} {al : Bool} {bc bs : Nat} {Γ : am_G} {I : am_I} {L : am_L} {Q : am_Q} {v0 : Nat} {v1 : Int32} {v2 : Int32} {w0 : Int32} (hq : Q (.inl (some (.int w0))) Γ I L) : am_W m_L_leafOf d mc ms al bc bs 6 [(0, .ref v0), (1, .int v1), (2, .int v2)] [.int w0] Γ I L Q := by
  exact aw_iret dL_leafOf_6 rfl hq
theorem bL_leafOf_8 {d mc ms : Nat} {al : Bool} {bc bs : Nat} {Γ : am_G} {I : am_I} {L : am_L} {Q : am_Q} {v0 : Nat} {v1 : Int32} {v2 : Int32} (hq : Q (.inl (some (.int (-17)))) Γ I L) : am_W m_L_leafOf d mc ms al bc bs 8 [(0, .ref v0), (1, .int v1), (2, .int v2)] [] Γ I L Q := by
  refine aw_bipush dL_leafOf_8 cb_m17 ?_
  exact aw_iret dL_leafOf_10 rfl hq
theorem dL_chargedToll_0 : decode cL_chargedToll 0 = .ok (.aload_n 0, 1) := by decide +kernel
theorem dL_chargedToll_1 : decode cL_chargedToll 1 = .ok (.iload_n 1, 1) := by decide +kernel
theorem dL_chargedToll_2 : decode cL_chargedToll 2 = .ok (.iload_n 2, 1) := by decide +kernel
theorem dL_chargedToll_3 : decode cL_chargedToll 3 = .ok (.invokevirtual 87, 3) := by decide +kernel
theorem dL_chargedToll_6 : decode cL_chargedToll 6 = .ok (.ireturn, 1) := by decide +kernel
theorem dL_chargedToll_7 : decode cL_chargedToll 7 = .ok (.astore_n 3, 1) := by decide +kernel
theorem dL_chargedToll_8 : decode cL_chargedToll 8 = .ok (.bipush (-17), 2) := by decide +kernel
theorem dL_chargedToll_10 : decode cL_chargedToll 10 = .ok (.ireturn, 1) := by decide +kernel
theorem bL_chargedToll_0 {d mc ms : Nat} {al : Bool} {bc bs : Nat} {Γ : am_G} {I : am_I} {L : am_L} {Q : am_Q} {v0 : Nat} {v1 : Int32} {v2 : Int32} {I' : am_I} {L' : am_L} {mc' : Nat} {ms' : Nat} {r : Int32} (o1 : am_ob Γ v0 8) (hbc : mc' ≤ bc) (hbs : ms' ≤ bs) (hC : am_E m_X8_chargedToll d mc' ms' [.ref v0, .int v1, .int v2] Γ I L (.inl (some (.int r))) I' L') (kk : am_W m_L_chargedToll (d + 1) mc ms al (bc - mc') (bs - ms') 6 [(0, .ref v0), (1, .int v1), (2, .int v2)] [.int r] Γ I' L' Q) : am_W m_L_chargedToll (d + 1) mc ms al bc bs 0 [(0, .ref v0), (1, .int v1), (2, .int v2)] [] Γ I L Q := by
  refine aw_aload_n dL_chargedToll_0 rfl ?_
  refine aw_iload_n dL_chargedToll_1 rfl ?_
  refine aw_iload_n dL_chargedToll_2 rfl ?_
  exact aw_askV (as := [.int v1, .int v2]) (rst := []) k_X8_chargedToll l_L_87 i_X8_chargedToll s_X8_chargedToll rfl o1 dL_chargedToll_3 rfl (Nat.le_of_ble_eq_true rfl) hbc hbs hC rfl rfl kk
theorem bL_chargedToll_0c1 {d mc ms : Nat} {al : Bool} {bc bs : Nat} {Γ : am_G} {I : am_I} {L : am_L} {Q : am_Q} {v0 : Nat} {v1 : Int32} {v2 : Int32} {I' : am_I} {L' : am_L} {mc' : Nat} {ms' : Nat} (o1 : am_ob Γ v0 8) (hbc : mc' ≤ bc) (hbs : ms' ≤ bs) (hC : am_E m_X8_chargedToll d mc' ms' [.ref v0, .int v1, .int v2] Γ I L (.inr "java/lang/IndexOutOfBoundsException") I' L') (kk : am_W m_L_chargedToll (d + 1) mc ms al (bc - mc') (bs - ms') 8 [(0, .ref v0), (1, .int v1), (2, .int v2)] [] Γ I' L' Q) : am_W m_L_chargedToll (d + 1) mc ms al bc bs 0 [(0, .ref v0), (1, .int v1), (2, .int v2)] [] Γ I L Q := by
  refine aw_aload_n dL_chargedToll_0 rfl ?_
  refine aw_iload_n dL_chargedToll_1 rfl ?_
  refine aw_iload_n dL_chargedToll_2 rfl ?_
  refine aw_catchV (as := [.int v1, .int v2]) (rst := []) (nm := "java/lang/IndexOutOfBoundsException") (k := 3) (len := 1) (ls' := [(0, .ref v0), (1, .int v1), (2, .int v2)]) k_X8_chargedToll l_L_87 i_X8_chargedToll s_X8_chargedToll rfl o1 dL_chargedToll_3 rfl (Nat.le_of_ble_eq_true rfl) hbc hbs hC rfl [] (0, 6, 7, 19) [] rfl ?_ (by decide) (by decide) cl_L_19 ca_IndexOutOfBoundsException (Or.inl ⟨3, rfl, dL_chargedToll_7, rfl⟩) (by decide) ?_ kk
  · intro z hz
    cases hz
  · intro q hq
    simp only [List.mem_cons, List.not_mem_nil, or_false] at hq
    rcases hq with rfl | rfl | rfl
    · exact List.mem_filter.mpr ⟨by simp, rfl⟩
    · exact List.mem_filter.mpr ⟨by simp, rfl⟩
    · exact List.mem_filter.mpr ⟨by simp, rfl⟩
theorem bL_chargedToll_6 {d mc ms : Nat} {al : Bool} {bc bs : Nat} {Γ : am_G} {I : am_I} {L : am_L} {Q : am_Q} {v0 : Nat} {v1 : Int32} {v2 : Int32} {w0 : Int32} (hq : Q (.inl (some (.int w0))) Γ I L) : am_W m_L_chargedToll d mc ms al bc bs 6 [(0, .ref v0), (1, .int v1), (2, .int v2)] [.int w0] Γ I L Q := by
  exact aw_iret dL_chargedToll_6 rfl hq
theorem bL_chargedToll_8 {d mc ms : Nat} {al : Bool} {bc bs : Nat} {Γ : am_G} {I : am_I} {L : am_L} {Q : am_Q} {v0 : Nat} {v1 : Int32} {v2 : Int32} (hq : Q (.inl (some (.int (-17)))) Γ I L) : am_W m_L_chargedToll d mc ms al bc bs 8 [(0, .ref v0), (1, .int v1), (2, .int v2)] [] Γ I L Q := by
  refine aw_bipush dL_chargedToll_8 cb_m17 ?_
  exact aw_iret dL_chargedToll_10 rfl hq
theorem dL_pathCost_0 : decode cL_pathCost 0 = .ok (.aload_n 0, 1) := by decide +kernel
theorem dL_pathCost_1 : decode cL_pathCost 1 = .ok (.iload_n 1, 1) := by decide +kernel
theorem dL_pathCost_2 : decode cL_pathCost 2 = .ok (.iload_n 2, 1) := by decide +kernel
theorem dL_pathCost_3 : decode cL_pathCost 3 = .ok (.invokevirtual 90, 3) := by decide +kernel
theorem dL_pathCost_6 : decode cL_pathCost 6 = .ok (.ireturn, 1) := by decide +kernel
theorem dL_pathCost_7 : decode cL_pathCost 7 = .ok (.astore_n 3, 1) := by decide +kernel
theorem dL_pathCost_8 : decode cL_pathCost 8 = .ok (.bipush (-17), 2) := by decide +kernel
theorem dL_pathCost_10 : decode cL_pathCost 10 = .ok (.ireturn, 1) := by decide +kernel
theorem bL_pathCost_0 {d mc ms : Nat} {al : Bool} {bc bs : Nat} {Γ : am_G} {I : am_I} {L : am_L} {Q : am_Q} {v0 : Nat} {v1 : Int32} {v2 : Int32} {I' : am_I} {L' : am_L} {mc' : Nat} {ms' : Nat} {r : Int32} (o1 : am_ob Γ v0 8) (hbc : mc' ≤ bc) (hbs : ms' ≤ bs) (hC : am_E m_X8_pathCost d mc' ms' [.ref v0, .int v1, .int v2] Γ I L (.inl (some (.int r))) I' L') (kk : am_W m_L_pathCost (d + 1) mc ms al (bc - mc') (bs - ms') 6 [(0, .ref v0), (1, .int v1), (2, .int v2)] [.int r] Γ I' L' Q) : am_W m_L_pathCost (d + 1) mc ms al bc bs 0 [(0, .ref v0), (1, .int v1), (2, .int v2)] [] Γ I L Q := by
  refine aw_aload_n dL_pathCost_0 rfl ?_
  refine aw_iload_n dL_pathCost_1 rfl ?_
  refine aw_iload_n dL_pathCost_2 rfl ?_
  exact aw_askV (as := [.int v1, .int v2]) (rst := []) k_X8_pathCost l_L_90 i_X8_pathCost s_X8_pathCost rfl o1 dL_pathCost_3 rfl (Nat.le_of_ble_eq_true rfl) hbc hbs hC rfl rfl kk
theorem bL_pathCost_0c1 {d mc ms : Nat} {al : Bool} {bc bs : Nat} {Γ : am_G} {I : am_I} {L : am_L} {Q : am_Q} {v0 : Nat} {v1 : Int32} {v2 : Int32} {I' : am_I} {L' : am_L} {mc' : Nat} {ms' : Nat} (o1 : am_ob Γ v0 8) (hbc : mc' ≤ bc) (hbs : ms' ≤ bs) (hC : am_E m_X8_pathCost d mc' ms' [.ref v0, .int v1, .int v2] Γ I L (.inr "java/lang/IndexOutOfBoundsException") I' L') (kk : am_W m_L_pathCost (d + 1) mc ms al (bc - mc') (bs - ms') 8 [(0, .ref v0), (1, .int v1), (2, .int v2)] [] Γ I' L' Q) : am_W m_L_pathCost (d + 1) mc ms al bc bs 0 [(0, .ref v0), (1, .int v1), (2, .int v2)] [] Γ I L Q := by
  refine aw_aload_n dL_pathCost_0 rfl ?_
  refine aw_iload_n dL_pathCost_1 rfl ?_
  refine aw_iload_n dL_pathCost_2 rfl ?_
  refine aw_catchV (as := [.int v1, .int v2]) (rst := []) (nm := "java/lang/IndexOutOfBoundsException") (k := 3) (len := 1) (ls' := [(0, .ref v0), (1, .int v1), (2, .int v2)]) k_X8_pathCost l_L_90 i_X8_pathCost s_X8_pathCost rfl o1 dL_pathCost_3 rfl (Nat.le_of_ble_eq_true rfl) hbc hbs hC rfl [] (0, 6, 7, 19) [] rfl ?_ (by decide) (by decide) cl_L_19 ca_IndexOutOfBoundsException (Or.inl ⟨3, rfl, dL_pathCost_7, rfl⟩) (by decide) ?_ kk
  · intro z hz
    cases hz
  · intro q hq
    simp only [List.mem_cons, List.not_mem_nil, or_false] at hq
    rcases hq with rfl | rfl | rfl
    · exact List.mem_filter.mpr ⟨by simp, rfl⟩
    · exact List.mem_filter.mpr ⟨by simp, rfl⟩
    · exact List.mem_filter.mpr ⟨by simp, rfl⟩
theorem bL_pathCost_6 {d mc ms : Nat} {al : Bool} {bc bs : Nat} {Γ : am_G} {I : am_I} {L : am_L} {Q : am_Q} {v0 : Nat} {v1 : Int32} {v2 : Int32} {w0 : Int32} (hq : Q (.inl (some (.int w0))) Γ I L) : am_W m_L_pathCost d mc ms al bc bs 6 [(0, .ref v0), (1, .int v1), (2, .int v2)] [.int w0] Γ I L Q := by
  exact aw_iret dL_pathCost_6 rfl hq
theorem bL_pathCost_8 {d mc ms : Nat} {al : Bool} {bc bs : Nat} {Γ : am_G} {I : am_I} {L : am_L} {Q : am_Q} {v0 : Nat} {v1 : Int32} {v2 : Int32} (hq : Q (.inl (some (.int (-17)))) Γ I L) : am_W m_L_pathCost d mc ms al bc bs 8 [(0, .ref v0), (1, .int v1), (2, .int v2)] [] Γ I L Q := by
  refine aw_bipush dL_pathCost_8 cb_m17 ?_
  exact aw_iret dL_pathCost_10 rfl hq
theorem dL_errors_0 : decode cL_errors 0 = .ok (.aload_n 0, 1) := by decide +kernel
theorem dL_errors_1 : decode cL_errors 1 = .ok (.iload_n 1, 1) := by decide +kernel
theorem dL_errors_2 : decode cL_errors 2 = .ok (.invokevirtual 93, 3) := by decide +kernel
theorem dL_errors_5 : decode cL_errors 5 = .ok (.ireturn, 1) := by decide +kernel
theorem dL_errors_6 : decode cL_errors 6 = .ok (.astore_n 2, 1) := by decide +kernel
theorem dL_errors_7 : decode cL_errors 7 = .ok (.bipush (-17), 2) := by decide +kernel
theorem dL_errors_9 : decode cL_errors 9 = .ok (.ireturn, 1) := by decide +kernel
theorem bL_errors_0 {d mc ms : Nat} {al : Bool} {bc bs : Nat} {Γ : am_G} {I : am_I} {L : am_L} {Q : am_Q} {v0 : Nat} {v1 : Int32} {I' : am_I} {L' : am_L} {mc' : Nat} {ms' : Nat} {r : Int32} (o1 : am_ob Γ v0 8) (hbc : mc' ≤ bc) (hbs : ms' ≤ bs) (hC : am_E m_X8_errors d mc' ms' [.ref v0, .int v1] Γ I L (.inl (some (.int r))) I' L') (kk : am_W m_L_errors (d + 1) mc ms al (bc - mc') (bs - ms') 5 [(0, .ref v0), (1, .int v1)] [.int r] Γ I' L' Q) : am_W m_L_errors (d + 1) mc ms al bc bs 0 [(0, .ref v0), (1, .int v1)] [] Γ I L Q := by
  refine aw_aload_n dL_errors_0 rfl ?_
  refine aw_iload_n dL_errors_1 rfl ?_
  exact aw_askV (as := [.int v1]) (rst := []) k_X8_errors l_L_93 i_X8_errors s_X8_errors rfl o1 dL_errors_2 rfl (Nat.le_of_ble_eq_true rfl) hbc hbs hC rfl rfl kk
theorem bL_errors_0c1 {d mc ms : Nat} {al : Bool} {bc bs : Nat} {Γ : am_G} {I : am_I} {L : am_L} {Q : am_Q} {v0 : Nat} {v1 : Int32} {I' : am_I} {L' : am_L} {mc' : Nat} {ms' : Nat} (o1 : am_ob Γ v0 8) (hbc : mc' ≤ bc) (hbs : ms' ≤ bs) (hC : am_E m_X8_errors d mc' ms' [.ref v0, .int v1] Γ I L (.inr "java/lang/IndexOutOfBoundsException") I' L') (kk : am_W m_L_errors (d + 1) mc ms al (bc - mc') (bs - ms') 7 [(0, .ref v0), (1, .int v1)] [] Γ I' L' Q) : am_W m_L_errors (d + 1) mc ms al bc bs 0 [(0, .ref v0), (1, .int v1)] [] Γ I L Q := by
  refine aw_aload_n dL_errors_0 rfl ?_
  refine aw_iload_n dL_errors_1 rfl ?_
  refine aw_catchV (as := [.int v1]) (rst := []) (nm := "java/lang/IndexOutOfBoundsException") (k := 2) (len := 1) (ls' := [(0, .ref v0), (1, .int v1)]) k_X8_errors l_L_93 i_X8_errors s_X8_errors rfl o1 dL_errors_2 rfl (Nat.le_of_ble_eq_true rfl) hbc hbs hC rfl [] (0, 5, 6, 19) [] rfl ?_ (by decide) (by decide) cl_L_19 ca_IndexOutOfBoundsException (Or.inl ⟨2, rfl, dL_errors_6, rfl⟩) (by decide) ?_ kk
  · intro z hz
    cases hz
  · intro q hq
    simp only [List.mem_cons, List.not_mem_nil, or_false] at hq
    rcases hq with rfl | rfl
    · exact List.mem_filter.mpr ⟨by simp, rfl⟩
    · exact List.mem_filter.mpr ⟨by simp, rfl⟩
theorem bL_errors_5 {d mc ms : Nat} {al : Bool} {bc bs : Nat} {Γ : am_G} {I : am_I} {L : am_L} {Q : am_Q} {v0 : Nat} {v1 : Int32} {w0 : Int32} (hq : Q (.inl (some (.int w0))) Γ I L) : am_W m_L_errors d mc ms al bc bs 5 [(0, .ref v0), (1, .int v1)] [.int w0] Γ I L Q := by
  exact aw_iret dL_errors_5 rfl hq
theorem bL_errors_7 {d mc ms : Nat} {al : Bool} {bc bs : Nat} {Γ : am_G} {I : am_I} {L : am_L} {Q : am_Q} {v0 : Nat} {v1 : Int32} (hq : Q (.inl (some (.int (-17)))) Γ I L) : am_W m_L_errors d mc ms al bc bs 7 [(0, .ref v0), (1, .int v1)] [] Γ I L Q := by
  refine aw_bipush dL_errors_7 cb_m17 ?_
  exact aw_iret dL_errors_9 rfl hq
theorem dL_work_0 : decode cL_work 0 = .ok (.aload_n 0, 1) := by decide +kernel
theorem dL_work_1 : decode cL_work 1 = .ok (.iload_n 1, 1) := by decide +kernel
theorem dL_work_2 : decode cL_work 2 = .ok (.invokevirtual 96, 3) := by decide +kernel
theorem dL_work_5 : decode cL_work 5 = .ok (.ireturn, 1) := by decide +kernel
theorem dL_work_6 : decode cL_work 6 = .ok (.astore_n 2, 1) := by decide +kernel
theorem dL_work_7 : decode cL_work 7 = .ok (.bipush (-17), 2) := by decide +kernel
theorem dL_work_9 : decode cL_work 9 = .ok (.ireturn, 1) := by decide +kernel
theorem bL_work_0 {d mc ms : Nat} {al : Bool} {bc bs : Nat} {Γ : am_G} {I : am_I} {L : am_L} {Q : am_Q} {v0 : Nat} {v1 : Int32} {I' : am_I} {L' : am_L} {mc' : Nat} {ms' : Nat} {r : Int32} (o1 : am_ob Γ v0 8) (hbc : mc' ≤ bc) (hbs : ms' ≤ bs) (hC : am_E m_X8_work d mc' ms' [.ref v0, .int v1] Γ I L (.inl (some (.int r))) I' L') (kk : am_W m_L_work (d + 1) mc ms al (bc - mc') (bs - ms') 5 [(0, .ref v0), (1, .int v1)] [.int r] Γ I' L' Q) : am_W m_L_work (d + 1) mc ms al bc bs 0 [(0, .ref v0), (1, .int v1)] [] Γ I L Q := by
  refine aw_aload_n dL_work_0 rfl ?_
  refine aw_iload_n dL_work_1 rfl ?_
  exact aw_askV (as := [.int v1]) (rst := []) k_X8_work l_L_96 i_X8_work s_X8_work rfl o1 dL_work_2 rfl (Nat.le_of_ble_eq_true rfl) hbc hbs hC rfl rfl kk
theorem bL_work_0c1 {d mc ms : Nat} {al : Bool} {bc bs : Nat} {Γ : am_G} {I : am_I} {L : am_L} {Q : am_Q} {v0 : Nat} {v1 : Int32} {I' : am_I} {L' : am_L} {mc' : Nat} {ms' : Nat} (o1 : am_ob Γ v0 8) (hbc : mc' ≤ bc) (hbs : ms' ≤ bs) (hC : am_E m_X8_work d mc' ms' [.ref v0, .int v1] Γ I L (.inr "java/lang/IndexOutOfBoundsException") I' L') (kk : am_W m_L_work (d + 1) mc ms al (bc - mc') (bs - ms') 7 [(0, .ref v0), (1, .int v1)] [] Γ I' L' Q) : am_W m_L_work (d + 1) mc ms al bc bs 0 [(0, .ref v0), (1, .int v1)] [] Γ I L Q := by
  refine aw_aload_n dL_work_0 rfl ?_
  refine aw_iload_n dL_work_1 rfl ?_
  refine aw_catchV (as := [.int v1]) (rst := []) (nm := "java/lang/IndexOutOfBoundsException") (k := 2) (len := 1) (ls' := [(0, .ref v0), (1, .int v1)]) k_X8_work l_L_96 i_X8_work s_X8_work rfl o1 dL_work_2 rfl (Nat.le_of_ble_eq_true rfl) hbc hbs hC rfl [] (0, 5, 6, 19) [] rfl ?_ (by decide) (by decide) cl_L_19 ca_IndexOutOfBoundsException (Or.inl ⟨2, rfl, dL_work_6, rfl⟩) (by decide) ?_ kk
  · intro z hz
    cases hz
  · intro q hq
    simp only [List.mem_cons, List.not_mem_nil, or_false] at hq
    rcases hq with rfl | rfl
    · exact List.mem_filter.mpr ⟨by simp, rfl⟩
    · exact List.mem_filter.mpr ⟨by simp, rfl⟩
theorem bL_work_5 {d mc ms : Nat} {al : Bool} {bc bs : Nat} {Γ : am_G} {I : am_I} {L : am_L} {Q : am_Q} {v0 : Nat} {v1 : Int32} {w0 : Int32} (hq : Q (.inl (some (.int w0))) Γ I L) : am_W m_L_work d mc ms al bc bs 5 [(0, .ref v0), (1, .int v1)] [.int w0] Γ I L Q := by
  exact aw_iret dL_work_5 rfl hq
theorem bL_work_7 {d mc ms : Nat} {al : Bool} {bc bs : Nat} {Γ : am_G} {I : am_I} {L : am_L} {Q : am_Q} {v0 : Nat} {v1 : Int32} (hq : Q (.inl (some (.int (-17)))) Γ I L) : am_W m_L_work d mc ms al bc bs 7 [(0, .ref v0), (1, .int v1)] [] Γ I L Q := by
  refine aw_bipush dL_work_7 cb_m17 ?_
  exact aw_iret dL_work_9 rfl hq
theorem dL_mischargeReason_0 : decode cL_mischargeReason 0 = .ok (.aload_n 0, 1) := by decide +kernel
theorem dL_mischargeReason_1 : decode cL_mischargeReason 1 = .ok (.iload_n 1, 1) := by decide +kernel
theorem dL_mischargeReason_2 : decode cL_mischargeReason 2 = .ok (.iload_n 2, 1) := by decide +kernel
theorem dL_mischargeReason_3 : decode cL_mischargeReason 3 = .ok (.invokevirtual 99, 3) := by decide +kernel
theorem dL_mischargeReason_6 : decode cL_mischargeReason 6 = .ok (.ireturn, 1) := by decide +kernel
theorem dL_mischargeReason_7 : decode cL_mischargeReason 7 = .ok (.astore_n 3, 1) := by decide +kernel
theorem dL_mischargeReason_8 : decode cL_mischargeReason 8 = .ok (.bipush (-17), 2) := by decide +kernel
theorem dL_mischargeReason_10 : decode cL_mischargeReason 10 = .ok (.ireturn, 1) := by decide +kernel
theorem bL_mischargeReason_0 {d mc ms : Nat} {al : Bool} {bc bs : Nat} {Γ : am_G} {I : am_I} {L : am_L} {Q : am_Q} {v0 : Nat} {v1 : Int32} {v2 : Int32} {I' : am_I} {L' : am_L} {mc' : Nat} {ms' : Nat} {r : Int32} (o1 : am_ob Γ v0 8) (hbc : mc' ≤ bc) (hbs : ms' ≤ bs) (hC : am_E m_X8_mischargeReason d mc' ms' [.ref v0, .int v1, .int v2] Γ I L (.inl (some (.int r))) I' L') (kk : am_W m_L_mischargeReason (d + 1) mc ms al (bc - mc') (bs - ms') 6 [(0, .ref v0), (1, .int v1), (2, .int v2)] [.int r] Γ I' L' Q) : am_W m_L_mischargeReason (d + 1) mc ms al bc bs 0 [(0, .ref v0), (1, .int v1), (2, .int v2)] [] Γ I L Q := by
  refine aw_aload_n dL_mischargeReason_0 rfl ?_
  refine aw_iload_n dL_mischargeReason_1 rfl ?_
  refine aw_iload_n dL_mischargeReason_2 rfl ?_
  exact aw_askV (as := [.int v1, .int v2]) (rst := []) k_X8_mischargeReason l_L_99 i_X8_mischargeReason s_X8_mischargeReason rfl o1 dL_mischargeReason_3 rfl (Nat.le_of_ble_eq_true rfl) hbc hbs hC rfl rfl kk
theorem bL_mischargeReason_0c1 {d mc ms : Nat} {al : Bool} {bc bs : Nat} {Γ : am_G} {I : am_I} {L : am_L} {Q : am_Q} {v0 : Nat} {v1 : Int32} {v2 : Int32} {I' : am_I} {L' : am_L} {mc' : Nat} {ms' : Nat} (o1 : am_ob Γ v0 8) (hbc : mc' ≤ bc) (hbs : ms' ≤ bs) (hC : am_E m_X8_mischargeReason d mc' ms' [.ref v0, .int v1, .int v2] Γ I L (.inr "java/lang/IndexOutOfBoundsException") I' L') (kk : am_W m_L_mischargeReason (d + 1) mc ms al (bc - mc') (bs - ms') 8 [(0, .ref v0), (1, .int v1), (2, .int v2)] [] Γ I' L' Q) : am_W m_L_mischargeReason (d + 1) mc ms al bc bs 0 [(0, .ref v0), (1, .int v1), (2, .int v2)] [] Γ I L Q := by
  refine aw_aload_n dL_mischargeReason_0 rfl ?_
  refine aw_iload_n dL_mischargeReason_1 rfl ?_
  refine aw_iload_n dL_mischargeReason_2 rfl ?_
  refine aw_catchV (as := [.int v1, .int v2]) (rst := []) (nm := "java/lang/IndexOutOfBoundsException") (k := 3) (len := 1) (ls' := [(0, .ref v0), (1, .int v1), (2, .int v2)]) k_X8_mischargeReason l_L_99 i_X8_mischargeReason s_X8_mischargeReason rfl o1 dL_mischargeReason_3 rfl (Nat.le_of_ble_eq_true rfl) hbc hbs hC rfl [] (0, 6, 7, 19) [] rfl ?_ (by decide) (by decide) cl_L_19 ca_IndexOutOfBoundsException (Or.inl ⟨3, rfl, dL_mischargeReason_7, rfl⟩) (by decide) ?_ kk
  · intro z hz
    cases hz
  · intro q hq
    simp only [List.mem_cons, List.not_mem_nil, or_false] at hq
    rcases hq with rfl | rfl | rfl
    · exact List.mem_filter.mpr ⟨by simp, rfl⟩
    · exact List.mem_filter.mpr ⟨by simp, rfl⟩
    · exact List.mem_filter.mpr ⟨by simp, rfl⟩
theorem bL_mischargeReason_6 {d mc ms : Nat} {al : Bool} {bc bs : Nat} {Γ : am_G} {I : am_I} {L : am_L} {Q : am_Q} {v0 : Nat} {v1 : Int32} {v2 : Int32} {w0 : Int32} (hq : Q (.inl (some (.int w0))) Γ I L) : am_W m_L_mischargeReason d mc ms al bc bs 6 [(0, .ref v0), (1, .int v1), (2, .int v2)] [.int w0] Γ I L Q := by
  exact aw_iret dL_mischargeReason_6 rfl hq
theorem bL_mischargeReason_8 {d mc ms : Nat} {al : Bool} {bc bs : Nat} {Γ : am_G} {I : am_I} {L : am_L} {Q : am_Q} {v0 : Nat} {v1 : Int32} {v2 : Int32} (hq : Q (.inl (some (.int (-17)))) Γ I L) : am_W m_L_mischargeReason d mc ms al bc bs 8 [(0, .ref v0), (1, .int v1), (2, .int v2)] [] Γ I L Q := by
  refine aw_bipush dL_mischargeReason_8 cb_m17 ?_
  exact aw_iret dL_mischargeReason_10 rfl hq
theorem dL_bestErrors_0 : decode cL_bestErrors 0 = .ok (.aload_n 0, 1) := by decide +kernel
theorem dL_bestErrors_1 : decode cL_bestErrors 1 = .ok (.iload_n 1, 1) := by decide +kernel
theorem dL_bestErrors_2 : decode cL_bestErrors 2 = .ok (.iload_n 2, 1) := by decide +kernel
theorem dL_bestErrors_3 : decode cL_bestErrors 3 = .ok (.invokevirtual 102, 3) := by decide +kernel
theorem dL_bestErrors_6 : decode cL_bestErrors 6 = .ok (.ireturn, 1) := by decide +kernel
theorem dL_bestErrors_7 : decode cL_bestErrors 7 = .ok (.astore_n 3, 1) := by decide +kernel
theorem dL_bestErrors_8 : decode cL_bestErrors 8 = .ok (.bipush (-17), 2) := by decide +kernel
theorem dL_bestErrors_10 : decode cL_bestErrors 10 = .ok (.ireturn, 1) := by decide +kernel
theorem dL_bestErrors_11 : decode cL_bestErrors 11 = .ok (.astore_n 3, 1) := by decide +kernel
theorem dL_bestErrors_12 : decode cL_bestErrors 12 = .ok (.bipush (-18), 2) := by decide +kernel
theorem dL_bestErrors_14 : decode cL_bestErrors 14 = .ok (.ireturn, 1) := by decide +kernel
theorem bL_bestErrors_0 {d mc ms : Nat} {al : Bool} {bc bs : Nat} {Γ : am_G} {I : am_I} {L : am_L} {Q : am_Q} {v0 : Nat} {v1 : Int32} {v2 : Int32} {I' : am_I} {L' : am_L} {mc' : Nat} {ms' : Nat} {r : Int32} (o1 : am_ob Γ v0 8) (hbc : mc' ≤ bc) (hbs : ms' ≤ bs) (hC : am_E m_X8_bestErrors d mc' ms' [.ref v0, .int v1, .int v2] Γ I L (.inl (some (.int r))) I' L') (kk : am_W m_L_bestErrors (d + 1) mc ms al (bc - mc') (bs - ms') 6 [(0, .ref v0), (1, .int v1), (2, .int v2)] [.int r] Γ I' L' Q) : am_W m_L_bestErrors (d + 1) mc ms al bc bs 0 [(0, .ref v0), (1, .int v1), (2, .int v2)] [] Γ I L Q := by
  refine aw_aload_n dL_bestErrors_0 rfl ?_
  refine aw_iload_n dL_bestErrors_1 rfl ?_
  refine aw_iload_n dL_bestErrors_2 rfl ?_
  exact aw_askV (as := [.int v1, .int v2]) (rst := []) k_X8_bestErrors l_L_102 i_X8_bestErrors s_X8_bestErrors rfl o1 dL_bestErrors_3 rfl (Nat.le_of_ble_eq_true rfl) hbc hbs hC rfl rfl kk
theorem bL_bestErrors_0c1 {d mc ms : Nat} {al : Bool} {bc bs : Nat} {Γ : am_G} {I : am_I} {L : am_L} {Q : am_Q} {v0 : Nat} {v1 : Int32} {v2 : Int32} {I' : am_I} {L' : am_L} {mc' : Nat} {ms' : Nat} (o1 : am_ob Γ v0 8) (hbc : mc' ≤ bc) (hbs : ms' ≤ bs) (hC : am_E m_X8_bestErrors d mc' ms' [.ref v0, .int v1, .int v2] Γ I L (.inr "java/lang/IndexOutOfBoundsException") I' L') (kk : am_W m_L_bestErrors (d + 1) mc ms al (bc - mc') (bs - ms') 8 [(0, .ref v0), (1, .int v1), (2, .int v2)] [] Γ I' L' Q) : am_W m_L_bestErrors (d + 1) mc ms al bc bs 0 [(0, .ref v0), (1, .int v1), (2, .int v2)] [] Γ I L Q := by
  refine aw_aload_n dL_bestErrors_0 rfl ?_
  refine aw_iload_n dL_bestErrors_1 rfl ?_
  refine aw_iload_n dL_bestErrors_2 rfl ?_
  refine aw_catchV (as := [.int v1, .int v2]) (rst := []) (nm := "java/lang/IndexOutOfBoundsException") (k := 3) (len := 1) (ls' := [(0, .ref v0), (1, .int v1), (2, .int v2)]) k_X8_bestErrors l_L_102 i_X8_bestErrors s_X8_bestErrors rfl o1 dL_bestErrors_3 rfl (Nat.le_of_ble_eq_true rfl) hbc hbs hC rfl [] (0, 6, 7, 19) [(0, 6, 11, 13)] rfl ?_ (by decide) (by decide) cl_L_19 ca_IndexOutOfBoundsException (Or.inl ⟨3, rfl, dL_bestErrors_7, rfl⟩) (by decide) ?_ kk
  · intro z hz
    cases hz
  · intro q hq
    simp only [List.mem_cons, List.not_mem_nil, or_false] at hq
    rcases hq with rfl | rfl | rfl
    · exact List.mem_filter.mpr ⟨by simp, rfl⟩
    · exact List.mem_filter.mpr ⟨by simp, rfl⟩
    · exact List.mem_filter.mpr ⟨by simp, rfl⟩
theorem bL_bestErrors_0c2 {d mc ms : Nat} {al : Bool} {bc bs : Nat} {Γ : am_G} {I : am_I} {L : am_L} {Q : am_Q} {v0 : Nat} {v1 : Int32} {v2 : Int32} {I' : am_I} {L' : am_L} {mc' : Nat} {ms' : Nat} (o1 : am_ob Γ v0 8) (hbc : mc' ≤ bc) (hbs : ms' ≤ bs) (hC : am_E m_X8_bestErrors d mc' ms' [.ref v0, .int v1, .int v2] Γ I L (.inr "java/lang/IllegalArgumentException") I' L') (kk : am_W m_L_bestErrors (d + 1) mc ms al (bc - mc') (bs - ms') 12 [(0, .ref v0), (1, .int v1), (2, .int v2)] [] Γ I' L' Q) : am_W m_L_bestErrors (d + 1) mc ms al bc bs 0 [(0, .ref v0), (1, .int v1), (2, .int v2)] [] Γ I L Q := by
  refine aw_aload_n dL_bestErrors_0 rfl ?_
  refine aw_iload_n dL_bestErrors_1 rfl ?_
  refine aw_iload_n dL_bestErrors_2 rfl ?_
  refine aw_catchV (as := [.int v1, .int v2]) (rst := []) (nm := "java/lang/IllegalArgumentException") (k := 3) (len := 1) (ls' := [(0, .ref v0), (1, .int v1), (2, .int v2)]) k_X8_bestErrors l_L_102 i_X8_bestErrors s_X8_bestErrors rfl o1 dL_bestErrors_3 rfl (Nat.le_of_ble_eq_true rfl) hbc hbs hC rfl [(0, 6, 7, 19)] (0, 6, 11, 13) [] rfl ?_ (by decide) (by decide) cl_L_13 ca_IllegalArgumentException (Or.inl ⟨3, rfl, dL_bestErrors_11, rfl⟩) (by decide) ?_ kk
  · intro z hz
    simp only [List.mem_cons, List.not_mem_nil, or_false] at hz
    rcases hz with rfl
    · exact ⟨by decide, _, cl_L_19, by decide⟩
  · intro q hq
    simp only [List.mem_cons, List.not_mem_nil, or_false] at hq
    rcases hq with rfl | rfl | rfl
    · exact List.mem_filter.mpr ⟨by simp, rfl⟩
    · exact List.mem_filter.mpr ⟨by simp, rfl⟩
    · exact List.mem_filter.mpr ⟨by simp, rfl⟩
theorem bL_bestErrors_6 {d mc ms : Nat} {al : Bool} {bc bs : Nat} {Γ : am_G} {I : am_I} {L : am_L} {Q : am_Q} {v0 : Nat} {v1 : Int32} {v2 : Int32} {w0 : Int32} (hq : Q (.inl (some (.int w0))) Γ I L) : am_W m_L_bestErrors d mc ms al bc bs 6 [(0, .ref v0), (1, .int v1), (2, .int v2)] [.int w0] Γ I L Q := by
  exact aw_iret dL_bestErrors_6 rfl hq
theorem bL_bestErrors_8 {d mc ms : Nat} {al : Bool} {bc bs : Nat} {Γ : am_G} {I : am_I} {L : am_L} {Q : am_Q} {v0 : Nat} {v1 : Int32} {v2 : Int32} (hq : Q (.inl (some (.int (-17)))) Γ I L) : am_W m_L_bestErrors d mc ms al bc bs 8 [(0, .ref v0), (1, .int v1), (2, .int v2)] [] Γ I L Q := by
  refine aw_bipush dL_bestErrors_8 cb_m17 ?_
  exact aw_iret dL_bestErrors_10 rfl hq
theorem bL_bestErrors_12 {d mc ms : Nat} {al : Bool} {bc bs : Nat} {Γ : am_G} {I : am_I} {L : am_L} {Q : am_Q} {v0 : Nat} {v1 : Int32} {v2 : Int32} (hq : Q (.inl (some (.int (-18)))) Γ I L) : am_W m_L_bestErrors d mc ms al bc bs 12 [(0, .ref v0), (1, .int v1), (2, .int v2)] [] Γ I L Q := by
  refine aw_bipush dL_bestErrors_12 cb_m18 ?_
  exact aw_iret dL_bestErrors_14 rfl hq
theorem dL_bestWork_0 : decode cL_bestWork 0 = .ok (.aload_n 0, 1) := by decide +kernel
theorem dL_bestWork_1 : decode cL_bestWork 1 = .ok (.iload_n 1, 1) := by decide +kernel
theorem dL_bestWork_2 : decode cL_bestWork 2 = .ok (.iload_n 2, 1) := by decide +kernel
theorem dL_bestWork_3 : decode cL_bestWork 3 = .ok (.invokevirtual 105, 3) := by decide +kernel
theorem dL_bestWork_6 : decode cL_bestWork 6 = .ok (.ireturn, 1) := by decide +kernel
theorem dL_bestWork_7 : decode cL_bestWork 7 = .ok (.astore_n 3, 1) := by decide +kernel
theorem dL_bestWork_8 : decode cL_bestWork 8 = .ok (.bipush (-17), 2) := by decide +kernel
theorem dL_bestWork_10 : decode cL_bestWork 10 = .ok (.ireturn, 1) := by decide +kernel
theorem dL_bestWork_11 : decode cL_bestWork 11 = .ok (.astore_n 3, 1) := by decide +kernel
theorem dL_bestWork_12 : decode cL_bestWork 12 = .ok (.bipush (-18), 2) := by decide +kernel
theorem dL_bestWork_14 : decode cL_bestWork 14 = .ok (.ireturn, 1) := by decide +kernel
theorem bL_bestWork_0 {d mc ms : Nat} {al : Bool} {bc bs : Nat} {Γ : am_G} {I : am_I} {L : am_L} {Q : am_Q} {v0 : Nat} {v1 : Int32} {v2 : Int32} {I' : am_I} {L' : am_L} {mc' : Nat} {ms' : Nat} {r : Int32} (o1 : am_ob Γ v0 8) (hbc : mc' ≤ bc) (hbs : ms' ≤ bs) (hC : am_E m_X8_bestWork d mc' ms' [.ref v0, .int v1, .int v2] Γ I L (.inl (some (.int r))) I' L') (kk : am_W m_L_bestWork (d + 1) mc ms al (bc - mc') (bs - ms') 6 [(0, .ref v0), (1, .int v1), (2, .int v2)] [.int r] Γ I' L' Q) : am_W m_L_bestWork (d + 1) mc ms al bc bs 0 [(0, .ref v0), (1, .int v1), (2, .int v2)] [] Γ I L Q := by
  refine aw_aload_n dL_bestWork_0 rfl ?_
  refine aw_iload_n dL_bestWork_1 rfl ?_
  refine aw_iload_n dL_bestWork_2 rfl ?_
  exact aw_askV (as := [.int v1, .int v2]) (rst := []) k_X8_bestWork l_L_105 i_X8_bestWork s_X8_bestWork rfl o1 dL_bestWork_3 rfl (Nat.le_of_ble_eq_true rfl) hbc hbs hC rfl rfl kk
theorem bL_bestWork_0c1 {d mc ms : Nat} {al : Bool} {bc bs : Nat} {Γ : am_G} {I : am_I} {L : am_L} {Q : am_Q} {v0 : Nat} {v1 : Int32} {v2 : Int32} {I' : am_I} {L' : am_L} {mc' : Nat} {ms' : Nat} (o1 : am_ob Γ v0 8) (hbc : mc' ≤ bc) (hbs : ms' ≤ bs) (hC : am_E m_X8_bestWork d mc' ms' [.ref v0, .int v1, .int v2] Γ I L (.inr "java/lang/IndexOutOfBoundsException") I' L') (kk : am_W m_L_bestWork (d + 1) mc ms al (bc - mc') (bs - ms') 8 [(0, .ref v0), (1, .int v1), (2, .int v2)] [] Γ I' L' Q) : am_W m_L_bestWork (d + 1) mc ms al bc bs 0 [(0, .ref v0), (1, .int v1), (2, .int v2)] [] Γ I L Q := by
  refine aw_aload_n dL_bestWork_0 rfl ?_
  refine aw_iload_n dL_bestWork_1 rfl ?_
  refine aw_iload_n dL_bestWork_2 rfl ?_
  refine aw_catchV (as := [.int v1, .int v2]) (rst := []) (nm := "java/lang/IndexOutOfBoundsException") (k := 3) (len := 1) (ls' := [(0, .ref v0), (1, .int v1), (2, .int v2)]) k_X8_bestWork l_L_105 i_X8_bestWork s_X8_bestWork rfl o1 dL_bestWork_3 rfl (Nat.le_of_ble_eq_true rfl) hbc hbs hC rfl [] (0, 6, 7, 19) [(0, 6, 11, 13)] rfl ?_ (by decide) (by decide) cl_L_19 ca_IndexOutOfBoundsException (Or.inl ⟨3, rfl, dL_bestWork_7, rfl⟩) (by decide) ?_ kk
  · intro z hz
    cases hz
  · intro q hq
    simp only [List.mem_cons, List.not_mem_nil, or_false] at hq
    rcases hq with rfl | rfl | rfl
    · exact List.mem_filter.mpr ⟨by simp, rfl⟩
    · exact List.mem_filter.mpr ⟨by simp, rfl⟩
    · exact List.mem_filter.mpr ⟨by simp, rfl⟩
theorem bL_bestWork_0c2 {d mc ms : Nat} {al : Bool} {bc bs : Nat} {Γ : am_G} {I : am_I} {L : am_L} {Q : am_Q} {v0 : Nat} {v1 : Int32} {v2 : Int32} {I' : am_I} {L' : am_L} {mc' : Nat} {ms' : Nat} (o1 : am_ob Γ v0 8) (hbc : mc' ≤ bc) (hbs : ms' ≤ bs) (hC : am_E m_X8_bestWork d mc' ms' [.ref v0, .int v1, .int v2] Γ I L (.inr "java/lang/IllegalArgumentException") I' L') (kk : am_W m_L_bestWork (d + 1) mc ms al (bc - mc') (bs - ms') 12 [(0, .ref v0), (1, .int v1), (2, .int v2)] [] Γ I' L' Q) : am_W m_L_bestWork (d + 1) mc ms al bc bs 0 [(0, .ref v0), (1, .int v1), (2, .int v2)] [] Γ I L Q := by
  refine aw_aload_n dL_bestWork_0 rfl ?_
  refine aw_iload_n dL_bestWork_1 rfl ?_
  refine aw_iload_n dL_bestWork_2 rfl ?_
  refine aw_catchV (as := [.int v1, .int v2]) (rst := []) (nm := "java/lang/IllegalArgumentException") (k := 3) (len := 1) (ls' := [(0, .ref v0), (1, .int v1), (2, .int v2)]) k_X8_bestWork l_L_105 i_X8_bestWork s_X8_bestWork rfl o1 dL_bestWork_3 rfl (Nat.le_of_ble_eq_true rfl) hbc hbs hC rfl [(0, 6, 7, 19)] (0, 6, 11, 13) [] rfl ?_ (by decide) (by decide) cl_L_13 ca_IllegalArgumentException (Or.inl ⟨3, rfl, dL_bestWork_11, rfl⟩) (by decide) ?_ kk
  · intro z hz
    simp only [List.mem_cons, List.not_mem_nil, or_false] at hz
    rcases hz with rfl
    · exact ⟨by decide, _, cl_L_19, by decide⟩
  · intro q hq
    simp only [List.mem_cons, List.not_mem_nil, or_false] at hq
    rcases hq with rfl | rfl | rfl
    · exact List.mem_filter.mpr ⟨by simp, rfl⟩
    · exact List.mem_filter.mpr ⟨by simp, rfl⟩
    · exact List.mem_filter.mpr ⟨by simp, rfl⟩
theorem bL_bestWork_6 {d mc ms : Nat} {al : Bool} {bc bs : Nat} {Γ : am_G} {I : am_I} {L : am_L} {Q : am_Q} {v0 : Nat} {v1 : Int32} {v2 : Int32} {w0 : Int32} (hq : Q (.inl (some (.int w0))) Γ I L) : am_W m_L_bestWork d mc ms al bc bs 6 [(0, .ref v0), (1, .int v1), (2, .int v2)] [.int w0] Γ I L Q := by
  exact aw_iret dL_bestWork_6 rfl hq
theorem bL_bestWork_8 {d mc ms : Nat} {al : Bool} {bc bs : Nat} {Γ : am_G} {I : am_I} {L : am_L} {Q : am_Q} {v0 : Nat} {v1 : Int32} {v2 : Int32} (hq : Q (.inl (some (.int (-17)))) Γ I L) : am_W m_L_bestWork d mc ms al bc bs 8 [(0, .ref v0), (1, .int v1), (2, .int v2)] [] Γ I L Q := by
  refine aw_bipush dL_bestWork_8 cb_m17 ?_
  exact aw_iret dL_bestWork_10 rfl hq
theorem bL_bestWork_12 {d mc ms : Nat} {al : Bool} {bc bs : Nat} {Γ : am_G} {I : am_I} {L : am_L} {Q : am_Q} {v0 : Nat} {v1 : Int32} {v2 : Int32} (hq : Q (.inl (some (.int (-18)))) Γ I L) : am_W m_L_bestWork d mc ms al bc bs 12 [(0, .ref v0), (1, .int v1), (2, .int v2)] [] Γ I L Q := by
  refine aw_bipush dL_bestWork_12 cb_m18 ?_
  exact aw_iret dL_bestWork_14 rfl hq
theorem dL_bestRootQuestion_0 : decode cL_bestRootQuestion 0 = .ok (.aload_n 0, 1) := by decide +kernel
theorem dL_bestRootQuestion_1 : decode cL_bestRootQuestion 1 = .ok (.iload_n 1, 1) := by decide +kernel
theorem dL_bestRootQuestion_2 : decode cL_bestRootQuestion 2 = .ok (.iload_n 2, 1) := by decide +kernel
theorem dL_bestRootQuestion_3 : decode cL_bestRootQuestion 3 = .ok (.invokevirtual 108, 3) := by decide +kernel
theorem dL_bestRootQuestion_6 : decode cL_bestRootQuestion 6 = .ok (.ireturn, 1) := by decide +kernel
theorem dL_bestRootQuestion_7 : decode cL_bestRootQuestion 7 = .ok (.astore_n 3, 1) := by decide +kernel
theorem dL_bestRootQuestion_8 : decode cL_bestRootQuestion 8 = .ok (.bipush (-17), 2) := by decide +kernel
theorem dL_bestRootQuestion_10 : decode cL_bestRootQuestion 10 = .ok (.ireturn, 1) := by decide +kernel
theorem dL_bestRootQuestion_11 : decode cL_bestRootQuestion 11 = .ok (.astore_n 3, 1) := by decide +kernel
theorem dL_bestRootQuestion_12 : decode cL_bestRootQuestion 12 = .ok (.bipush (-18), 2) := by decide +kernel
theorem dL_bestRootQuestion_14 : decode cL_bestRootQuestion 14 = .ok (.ireturn, 1) := by decide +kernel
theorem bL_bestRootQuestion_0 {d mc ms : Nat} {al : Bool} {bc bs : Nat} {Γ : am_G} {I : am_I} {L : am_L} {Q : am_Q} {v0 : Nat} {v1 : Int32} {v2 : Int32} {I' : am_I} {L' : am_L} {mc' : Nat} {ms' : Nat} {r : Int32} (o1 : am_ob Γ v0 8) (hbc : mc' ≤ bc) (hbs : ms' ≤ bs) (hC : am_E m_X8_bestRootQuestion d mc' ms' [.ref v0, .int v1, .int v2] Γ I L (.inl (some (.int r))) I' L') (kk : am_W m_L_bestRootQuestion (d + 1) mc ms al (bc - mc') (bs - ms') 6 [(0, .ref v0), (1, .int v1), (2, .int v2)] [.int r] Γ I' L' Q) : am_W m_L_bestRootQuestion (d + 1) mc ms al bc bs 0 [(0, .ref v0), (1, .int v1), (2, .int v2)] [] Γ I L Q := by
  refine aw_aload_n dL_bestRootQuestion_0 rfl ?_
  refine aw_iload_n dL_bestRootQuestion_1 rfl ?_
  refine aw_iload_n dL_bestRootQuestion_2 rfl ?_
  exact aw_askV (as := [.int v1, .int v2]) (rst := []) k_X8_bestRootQuestion l_L_108 i_X8_bestRootQuestion s_X8_bestRootQuestion rfl o1 dL_bestRootQuestion_3 rfl (Nat.le_of_ble_eq_true rfl) hbc hbs hC rfl rfl kk
theorem bL_bestRootQuestion_0c1 {d mc ms : Nat} {al : Bool} {bc bs : Nat} {Γ : am_G} {I : am_I} {L : am_L} {Q : am_Q} {v0 : Nat} {v1 : Int32} {v2 : Int32} {I' : am_I} {L' : am_L} {mc' : Nat} {ms' : Nat} (o1 : am_ob Γ v0 8) (hbc : mc' ≤ bc) (hbs : ms' ≤ bs) (hC : am_E m_X8_bestRootQuestion d mc' ms' [.ref v0, .int v1, .int v2] Γ I L (.inr "java/lang/IndexOutOfBoundsException") I' L') (kk : am_W m_L_bestRootQuestion (d + 1) mc ms al (bc - mc') (bs - ms') 8 [(0, .ref v0), (1, .int v1), (2, .int v2)] [] Γ I' L' Q) : am_W m_L_bestRootQuestion (d + 1) mc ms al bc bs 0 [(0, .ref v0), (1, .int v1), (2, .int v2)] [] Γ I L Q := by
  refine aw_aload_n dL_bestRootQuestion_0 rfl ?_
  refine aw_iload_n dL_bestRootQuestion_1 rfl ?_
  refine aw_iload_n dL_bestRootQuestion_2 rfl ?_
  refine aw_catchV (as := [.int v1, .int v2]) (rst := []) (nm := "java/lang/IndexOutOfBoundsException") (k := 3) (len := 1) (ls' := [(0, .ref v0), (1, .int v1), (2, .int v2)]) k_X8_bestRootQuestion l_L_108 i_X8_bestRootQuestion s_X8_bestRootQuestion rfl o1 dL_bestRootQuestion_3 rfl (Nat.le_of_ble_eq_true rfl) hbc hbs hC rfl [] (0, 6, 7, 19) [(0, 6, 11, 13)] rfl ?_ (by decide) (by decide) cl_L_19 ca_IndexOutOfBoundsException (Or.inl ⟨3, rfl, dL_bestRootQuestion_7, rfl⟩) (by decide) ?_ kk
  · intro z hz
    cases hz
  · intro q hq
    simp only [List.mem_cons, List.not_mem_nil, or_false] at hq
    rcases hq with rfl | rfl | rfl
    · exact List.mem_filter.mpr ⟨by simp, rfl⟩
    · exact List.mem_filter.mpr ⟨by simp, rfl⟩
    · exact List.mem_filter.mpr ⟨by simp, rfl⟩
theorem bL_bestRootQuestion_0c2 {d mc ms : Nat} {al : Bool} {bc bs : Nat} {Γ : am_G} {I : am_I} {L : am_L} {Q : am_Q} {v0 : Nat} {v1 : Int32} {v2 : Int32} {I' : am_I} {L' : am_L} {mc' : Nat} {ms' : Nat} (o1 : am_ob Γ v0 8) (hbc : mc' ≤ bc) (hbs : ms' ≤ bs) (hC : am_E m_X8_bestRootQuestion d mc' ms' [.ref v0, .int v1, .int v2] Γ I L (.inr "java/lang/IllegalArgumentException") I' L') (kk : am_W m_L_bestRootQuestion (d + 1) mc ms al (bc - mc') (bs - ms') 12 [(0, .ref v0), (1, .int v1), (2, .int v2)] [] Γ I' L' Q) : am_W m_L_bestRootQuestion (d + 1) mc ms al bc bs 0 [(0, .ref v0), (1, .int v1), (2, .int v2)] [] Γ I L Q := by
  refine aw_aload_n dL_bestRootQuestion_0 rfl ?_
  refine aw_iload_n dL_bestRootQuestion_1 rfl ?_
  refine aw_iload_n dL_bestRootQuestion_2 rfl ?_
  refine aw_catchV (as := [.int v1, .int v2]) (rst := []) (nm := "java/lang/IllegalArgumentException") (k := 3) (len := 1) (ls' := [(0, .ref v0), (1, .int v1), (2, .int v2)]) k_X8_bestRootQuestion l_L_108 i_X8_bestRootQuestion s_X8_bestRootQuestion rfl o1 dL_bestRootQuestion_3 rfl (Nat.le_of_ble_eq_true rfl) hbc hbs hC rfl [(0, 6, 7, 19)] (0, 6, 11, 13) [] rfl ?_ (by decide) (by decide) cl_L_13 ca_IllegalArgumentException (Or.inl ⟨3, rfl, dL_bestRootQuestion_11, rfl⟩) (by decide) ?_ kk
  · intro z hz
    simp only [List.mem_cons, List.not_mem_nil, or_false] at hz
    rcases hz with rfl
    · exact ⟨by decide, _, cl_L_19, by decide⟩
  · intro q hq
    simp only [List.mem_cons, List.not_mem_nil, or_false] at hq
    rcases hq with rfl | rfl | rfl
    · exact List.mem_filter.mpr ⟨by simp, rfl⟩
    · exact List.mem_filter.mpr ⟨by simp, rfl⟩
    · exact List.mem_filter.mpr ⟨by simp, rfl⟩
theorem bL_bestRootQuestion_6 {d mc ms : Nat} {al : Bool} {bc bs : Nat} {Γ : am_G} {I : am_I} {L : am_L} {Q : am_Q} {v0 : Nat} {v1 : Int32} {v2 : Int32} {w0 : Int32} (hq : Q (.inl (some (.int w0))) Γ I L) : am_W m_L_bestRootQuestion d mc ms al bc bs 6 [(0, .ref v0), (1, .int v1), (2, .int v2)] [.int w0] Γ I L Q := by
  exact aw_iret dL_bestRootQuestion_6 rfl hq
theorem bL_bestRootQuestion_8 {d mc ms : Nat} {al : Bool} {bc bs : Nat} {Γ : am_G} {I : am_I} {L : am_L} {Q : am_Q} {v0 : Nat} {v1 : Int32} {v2 : Int32} (hq : Q (.inl (some (.int (-17)))) Γ I L) : am_W m_L_bestRootQuestion d mc ms al bc bs 8 [(0, .ref v0), (1, .int v1), (2, .int v2)] [] Γ I L Q := by
  refine aw_bipush dL_bestRootQuestion_8 cb_m17 ?_
  exact aw_iret dL_bestRootQuestion_10 rfl hq
theorem bL_bestRootQuestion_12 {d mc ms : Nat} {al : Bool} {bc bs : Nat} {Γ : am_G} {I : am_I} {L : am_L} {Q : am_Q} {v0 : Nat} {v1 : Int32} {v2 : Int32} (hq : Q (.inl (some (.int (-18)))) Γ I L) : am_W m_L_bestRootQuestion d mc ms al bc bs 12 [(0, .ref v0), (1, .int v1), (2, .int v2)] [] Γ I L Q := by
  refine aw_bipush dL_bestRootQuestion_12 cb_m18 ?_
  exact aw_iret dL_bestRootQuestion_14 rfl hq
theorem dL_errorsWithout_0 : decode cL_errorsWithout 0 = .ok (.aload_n 0, 1) := by decide +kernel
theorem dL_errorsWithout_1 : decode cL_errorsWithout 1 = .ok (.iload_n 1, 1) := by decide +kernel
theorem dL_errorsWithout_2 : decode cL_errorsWithout 2 = .ok (.iload_n 2, 1) := by decide +kernel
theorem dL_errorsWithout_3 : decode cL_errorsWithout 3 = .ok (.invokevirtual 111, 3) := by decide +kernel
theorem dL_errorsWithout_6 : decode cL_errorsWithout 6 = .ok (.ireturn, 1) := by decide +kernel
theorem dL_errorsWithout_7 : decode cL_errorsWithout 7 = .ok (.astore_n 3, 1) := by decide +kernel
theorem dL_errorsWithout_8 : decode cL_errorsWithout 8 = .ok (.bipush (-17), 2) := by decide +kernel
theorem dL_errorsWithout_10 : decode cL_errorsWithout 10 = .ok (.ireturn, 1) := by decide +kernel
theorem bL_errorsWithout_0 {d mc ms : Nat} {al : Bool} {bc bs : Nat} {Γ : am_G} {I : am_I} {L : am_L} {Q : am_Q} {v0 : Nat} {v1 : Int32} {v2 : Int32} {I' : am_I} {L' : am_L} {mc' : Nat} {ms' : Nat} {r : Int32} (o1 : am_ob Γ v0 8) (hbc : mc' ≤ bc) (hbs : ms' ≤ bs) (hC : am_E m_X8_errorsWithout d mc' ms' [.ref v0, .int v1, .int v2] Γ I L (.inl (some (.int r))) I' L') (kk : am_W m_L_errorsWithout (d + 1) mc ms al (bc - mc') (bs - ms') 6 [(0, .ref v0), (1, .int v1), (2, .int v2)] [.int r] Γ I' L' Q) : am_W m_L_errorsWithout (d + 1) mc ms al bc bs 0 [(0, .ref v0), (1, .int v1), (2, .int v2)] [] Γ I L Q := by
  refine aw_aload_n dL_errorsWithout_0 rfl ?_
  refine aw_iload_n dL_errorsWithout_1 rfl ?_
  refine aw_iload_n dL_errorsWithout_2 rfl ?_
  exact aw_askV (as := [.int v1, .int v2]) (rst := []) k_X8_errorsWithout l_L_111 i_X8_errorsWithout s_X8_errorsWithout rfl o1 dL_errorsWithout_3 rfl (Nat.le_of_ble_eq_true rfl) hbc hbs hC rfl rfl kk
theorem bL_errorsWithout_0c1 {d mc ms : Nat} {al : Bool} {bc bs : Nat} {Γ : am_G} {I : am_I} {L : am_L} {Q : am_Q} {v0 : Nat} {v1 : Int32} {v2 : Int32} {I' : am_I} {L' : am_L} {mc' : Nat} {ms' : Nat} (o1 : am_ob Γ v0 8) (hbc : mc' ≤ bc) (hbs : ms' ≤ bs) (hC : am_E m_X8_errorsWithout d mc' ms' [.ref v0, .int v1, .int v2] Γ I L (.inr "java/lang/IndexOutOfBoundsException") I' L') (kk : am_W m_L_errorsWithout (d + 1) mc ms al (bc - mc') (bs - ms') 8 [(0, .ref v0), (1, .int v1), (2, .int v2)] [] Γ I' L' Q) : am_W m_L_errorsWithout (d + 1) mc ms al bc bs 0 [(0, .ref v0), (1, .int v1), (2, .int v2)] [] Γ I L Q := by
  refine aw_aload_n dL_errorsWithout_0 rfl ?_
  refine aw_iload_n dL_errorsWithout_1 rfl ?_
  refine aw_iload_n dL_errorsWithout_2 rfl ?_
  refine aw_catchV (as := [.int v1, .int v2]) (rst := []) (nm := "java/lang/IndexOutOfBoundsException") (k := 3) (len := 1) (ls' := [(0, .ref v0), (1, .int v1), (2, .int v2)]) k_X8_errorsWithout l_L_111 i_X8_errorsWithout s_X8_errorsWithout rfl o1 dL_errorsWithout_3 rfl (Nat.le_of_ble_eq_true rfl) hbc hbs hC rfl [] (0, 6, 7, 19) [] rfl ?_ (by decide) (by decide) cl_L_19 ca_IndexOutOfBoundsException (Or.inl ⟨3, rfl, dL_errorsWithout_7, rfl⟩) (by decide) ?_ kk
  · intro z hz
    cases hz
  · intro q hq
    simp only [List.mem_cons, List.not_mem_nil, or_false] at hq
    rcases hq with rfl | rfl | rfl
    · exact List.mem_filter.mpr ⟨by simp, rfl⟩
    · exact List.mem_filter.mpr ⟨by simp, rfl⟩
    · exact List.mem_filter.mpr ⟨by simp, rfl⟩
theorem bL_errorsWithout_6 {d mc ms : Nat} {al : Bool} {bc bs : Nat} {Γ : am_G} {I : am_I} {L : am_L} {Q : am_Q} {v0 : Nat} {v1 : Int32} {v2 : Int32} {w0 : Int32} (hq : Q (.inl (some (.int w0))) Γ I L) : am_W m_L_errorsWithout d mc ms al bc bs 6 [(0, .ref v0), (1, .int v1), (2, .int v2)] [.int w0] Γ I L Q := by
  exact aw_iret dL_errorsWithout_6 rfl hq
theorem bL_errorsWithout_8 {d mc ms : Nat} {al : Bool} {bc bs : Nat} {Γ : am_G} {I : am_I} {L : am_L} {Q : am_Q} {v0 : Nat} {v1 : Int32} {v2 : Int32} (hq : Q (.inl (some (.int (-17)))) Γ I L) : am_W m_L_errorsWithout d mc ms al bc bs 8 [(0, .ref v0), (1, .int v1), (2, .int v2)] [] Γ I L Q := by
  refine aw_bipush dL_errorsWithout_8 cb_m17 ?_
  exact aw_iret dL_errorsWithout_10 rfl hq
theorem dL_sufficientLimit_0 : decode cL_sufficientLimit 0 = .ok (.aload_n 0, 1) := by decide +kernel
theorem dL_sufficientLimit_1 : decode cL_sufficientLimit 1 = .ok (.iload_n 1, 1) := by decide +kernel
theorem dL_sufficientLimit_2 : decode cL_sufficientLimit 2 = .ok (.invokevirtual 114, 3) := by decide +kernel
theorem dL_sufficientLimit_5 : decode cL_sufficientLimit 5 = .ok (.ireturn, 1) := by decide +kernel
theorem dL_sufficientLimit_6 : decode cL_sufficientLimit 6 = .ok (.astore_n 2, 1) := by decide +kernel
theorem dL_sufficientLimit_7 : decode cL_sufficientLimit 7 = .ok (.bipush (-17), 2) := by decide +kernel
theorem dL_sufficientLimit_9 : decode cL_sufficientLimit 9 = .ok (.ireturn, 1) := by decide +kernel
theorem bL_sufficientLimit_0 {d mc ms : Nat} {al : Bool} {bc bs : Nat} {Γ : am_G} {I : am_I} {L : am_L} {Q : am_Q} {v0 : Nat} {v1 : Int32} {I' : am_I} {L' : am_L} {mc' : Nat} {ms' : Nat} {r : Int32} (o1 : am_ob Γ v0 8) (hbc : mc' ≤ bc) (hbs : ms' ≤ bs) (hC : am_E m_X8_sufficientLimit d mc' ms' [.ref v0, .int v1] Γ I L (.inl (some (.int r))) I' L') (kk : am_W m_L_sufficientLimit (d + 1) mc ms al (bc - mc') (bs - ms') 5 [(0, .ref v0), (1, .int v1)] [.int r] Γ I' L' Q) : am_W m_L_sufficientLimit (d + 1) mc ms al bc bs 0 [(0, .ref v0), (1, .int v1)] [] Γ I L Q := by
  refine aw_aload_n dL_sufficientLimit_0 rfl ?_
  refine aw_iload_n dL_sufficientLimit_1 rfl ?_
  exact aw_askV (as := [.int v1]) (rst := []) k_X8_sufficientLimit l_L_114 i_X8_sufficientLimit s_X8_sufficientLimit rfl o1 dL_sufficientLimit_2 rfl (Nat.le_of_ble_eq_true rfl) hbc hbs hC rfl rfl kk
theorem bL_sufficientLimit_0c1 {d mc ms : Nat} {al : Bool} {bc bs : Nat} {Γ : am_G} {I : am_I} {L : am_L} {Q : am_Q} {v0 : Nat} {v1 : Int32} {I' : am_I} {L' : am_L} {mc' : Nat} {ms' : Nat} (o1 : am_ob Γ v0 8) (hbc : mc' ≤ bc) (hbs : ms' ≤ bs) (hC : am_E m_X8_sufficientLimit d mc' ms' [.ref v0, .int v1] Γ I L (.inr "java/lang/IndexOutOfBoundsException") I' L') (kk : am_W m_L_sufficientLimit (d + 1) mc ms al (bc - mc') (bs - ms') 7 [(0, .ref v0), (1, .int v1)] [] Γ I' L' Q) : am_W m_L_sufficientLimit (d + 1) mc ms al bc bs 0 [(0, .ref v0), (1, .int v1)] [] Γ I L Q := by
  refine aw_aload_n dL_sufficientLimit_0 rfl ?_
  refine aw_iload_n dL_sufficientLimit_1 rfl ?_
  refine aw_catchV (as := [.int v1]) (rst := []) (nm := "java/lang/IndexOutOfBoundsException") (k := 2) (len := 1) (ls' := [(0, .ref v0), (1, .int v1)]) k_X8_sufficientLimit l_L_114 i_X8_sufficientLimit s_X8_sufficientLimit rfl o1 dL_sufficientLimit_2 rfl (Nat.le_of_ble_eq_true rfl) hbc hbs hC rfl [] (0, 5, 6, 19) [] rfl ?_ (by decide) (by decide) cl_L_19 ca_IndexOutOfBoundsException (Or.inl ⟨2, rfl, dL_sufficientLimit_6, rfl⟩) (by decide) ?_ kk
  · intro z hz
    cases hz
  · intro q hq
    simp only [List.mem_cons, List.not_mem_nil, or_false] at hq
    rcases hq with rfl | rfl
    · exact List.mem_filter.mpr ⟨by simp, rfl⟩
    · exact List.mem_filter.mpr ⟨by simp, rfl⟩
theorem bL_sufficientLimit_5 {d mc ms : Nat} {al : Bool} {bc bs : Nat} {Γ : am_G} {I : am_I} {L : am_L} {Q : am_Q} {v0 : Nat} {v1 : Int32} {w0 : Int32} (hq : Q (.inl (some (.int w0))) Γ I L) : am_W m_L_sufficientLimit d mc ms al bc bs 5 [(0, .ref v0), (1, .int v1)] [.int w0] Γ I L Q := by
  exact aw_iret dL_sufficientLimit_5 rfl hq
theorem bL_sufficientLimit_7 {d mc ms : Nat} {al : Bool} {bc bs : Nat} {Γ : am_G} {I : am_I} {L : am_L} {Q : am_Q} {v0 : Nat} {v1 : Int32} (hq : Q (.inl (some (.int (-17)))) Γ I L) : am_W m_L_sufficientLimit d mc ms al bc bs 7 [(0, .ref v0), (1, .int v1)] [] Γ I L Q := by
  refine aw_bipush dL_sufficientLimit_7 cb_m17 ?_
  exact aw_iret dL_sufficientLimit_9 rfl hq
theorem dL_quickestGate_0 : decode cL_quickestGate 0 = .ok (.aload_n 0, 1) := by decide +kernel
theorem dL_quickestGate_1 : decode cL_quickestGate 1 = .ok (.iload_n 1, 1) := by decide +kernel
theorem dL_quickestGate_2 : decode cL_quickestGate 2 = .ok (.invokevirtual 117, 3) := by decide +kernel
theorem dL_quickestGate_5 : decode cL_quickestGate 5 = .ok (.ireturn, 1) := by decide +kernel
theorem dL_quickestGate_6 : decode cL_quickestGate 6 = .ok (.astore_n 2, 1) := by decide +kernel
theorem dL_quickestGate_7 : decode cL_quickestGate 7 = .ok (.bipush (-17), 2) := by decide +kernel
theorem dL_quickestGate_9 : decode cL_quickestGate 9 = .ok (.ireturn, 1) := by decide +kernel
theorem bL_quickestGate_0 {d mc ms : Nat} {al : Bool} {bc bs : Nat} {Γ : am_G} {I : am_I} {L : am_L} {Q : am_Q} {v0 : Nat} {v1 : Int32} {I' : am_I} {L' : am_L} {mc' : Nat} {ms' : Nat} {r : Int32} (o1 : am_ob Γ v0 8) (hbc : mc' ≤ bc) (hbs : ms' ≤ bs) (hC : am_E m_X8_quickestGate d mc' ms' [.ref v0, .int v1] Γ I L (.inl (some (.int r))) I' L') (kk : am_W m_L_quickestGate (d + 1) mc ms al (bc - mc') (bs - ms') 5 [(0, .ref v0), (1, .int v1)] [.int r] Γ I' L' Q) : am_W m_L_quickestGate (d + 1) mc ms al bc bs 0 [(0, .ref v0), (1, .int v1)] [] Γ I L Q := by
  refine aw_aload_n dL_quickestGate_0 rfl ?_
  refine aw_iload_n dL_quickestGate_1 rfl ?_
  exact aw_askV (as := [.int v1]) (rst := []) k_X8_quickestGate l_L_117 i_X8_quickestGate s_X8_quickestGate rfl o1 dL_quickestGate_2 rfl (Nat.le_of_ble_eq_true rfl) hbc hbs hC rfl rfl kk
theorem bL_quickestGate_0c1 {d mc ms : Nat} {al : Bool} {bc bs : Nat} {Γ : am_G} {I : am_I} {L : am_L} {Q : am_Q} {v0 : Nat} {v1 : Int32} {I' : am_I} {L' : am_L} {mc' : Nat} {ms' : Nat} (o1 : am_ob Γ v0 8) (hbc : mc' ≤ bc) (hbs : ms' ≤ bs) (hC : am_E m_X8_quickestGate d mc' ms' [.ref v0, .int v1] Γ I L (.inr "java/lang/IndexOutOfBoundsException") I' L') (kk : am_W m_L_quickestGate (d + 1) mc ms al (bc - mc') (bs - ms') 7 [(0, .ref v0), (1, .int v1)] [] Γ I' L' Q) : am_W m_L_quickestGate (d + 1) mc ms al bc bs 0 [(0, .ref v0), (1, .int v1)] [] Γ I L Q := by
  refine aw_aload_n dL_quickestGate_0 rfl ?_
  refine aw_iload_n dL_quickestGate_1 rfl ?_
  refine aw_catchV (as := [.int v1]) (rst := []) (nm := "java/lang/IndexOutOfBoundsException") (k := 2) (len := 1) (ls' := [(0, .ref v0), (1, .int v1)]) k_X8_quickestGate l_L_117 i_X8_quickestGate s_X8_quickestGate rfl o1 dL_quickestGate_2 rfl (Nat.le_of_ble_eq_true rfl) hbc hbs hC rfl [] (0, 5, 6, 19) [] rfl ?_ (by decide) (by decide) cl_L_19 ca_IndexOutOfBoundsException (Or.inl ⟨2, rfl, dL_quickestGate_6, rfl⟩) (by decide) ?_ kk
  · intro z hz
    cases hz
  · intro q hq
    simp only [List.mem_cons, List.not_mem_nil, or_false] at hq
    rcases hq with rfl | rfl
    · exact List.mem_filter.mpr ⟨by simp, rfl⟩
    · exact List.mem_filter.mpr ⟨by simp, rfl⟩
theorem bL_quickestGate_5 {d mc ms : Nat} {al : Bool} {bc bs : Nat} {Γ : am_G} {I : am_I} {L : am_L} {Q : am_Q} {v0 : Nat} {v1 : Int32} {w0 : Int32} (hq : Q (.inl (some (.int w0))) Γ I L) : am_W m_L_quickestGate d mc ms al bc bs 5 [(0, .ref v0), (1, .int v1)] [.int w0] Γ I L Q := by
  exact aw_iret dL_quickestGate_5 rfl hq
theorem bL_quickestGate_7 {d mc ms : Nat} {al : Bool} {bc bs : Nat} {Γ : am_G} {I : am_I} {L : am_L} {Q : am_Q} {v0 : Nat} {v1 : Int32} (hq : Q (.inl (some (.int (-17)))) Γ I L) : am_W m_L_quickestGate d mc ms al bc bs 7 [(0, .ref v0), (1, .int v1)] [] Γ I L Q := by
  refine aw_bipush dL_quickestGate_7 cb_m17 ?_
  exact aw_iret dL_quickestGate_9 rfl hq
theorem dL_word_0 : decode cL_word 0 = .ok (.iconst 0, 1) := by decide +kernel
theorem dL_word_1 : decode cL_word 1 = .ok (.istore_n 2, 1) := by decide +kernel
theorem dL_word_2 : decode cL_word 2 = .ok (.iload_n 1, 1) := by decide +kernel
theorem dL_word_3 : decode cL_word 3 = .ok (.istore_n 3, 1) := by decide +kernel
theorem dL_word_4 : decode cL_word 4 = .ok (.iload_n 3, 1) := by decide +kernel
theorem dL_word_5 : decode cL_word 5 = .ok (.iload_n 1, 1) := by decide +kernel
theorem dL_word_6 : decode cL_word 6 = .ok (.iconst 4, 1) := by decide +kernel
theorem dL_word_7 : decode cL_word 7 = .ok (.iadd, 1) := by decide +kernel
theorem dL_word_8 : decode cL_word 8 = .ok (.if_icmp .ge 32, 3) := by decide +kernel
theorem dL_word_11 : decode cL_word 11 = .ok (.iload_n 2, 1) := by decide +kernel
theorem dL_word_12 : decode cL_word 12 = .ok (.bipush 8, 2) := by decide +kernel
theorem dL_word_14 : decode cL_word 14 = .ok (.ishl, 1) := by decide +kernel
theorem dL_word_15 : decode cL_word 15 = .ok (.iload_n 3, 1) := by decide +kernel
theorem dL_word_16 : decode cL_word 16 = .ok (.aload_n 0, 1) := by decide +kernel
theorem dL_word_17 : decode cL_word 17 = .ok (.invokevirtual 120, 3) := by decide +kernel
theorem dL_word_20 : decode cL_word 20 = .ok (.if_icmp .ge 11, 3) := by decide +kernel
theorem dL_word_23 : decode cL_word 23 = .ok (.aload_n 0, 1) := by decide +kernel
theorem dL_word_24 : decode cL_word 24 = .ok (.iload_n 3, 1) := by decide +kernel
theorem dL_word_25 : decode cL_word 25 = .ok (.invokevirtual 125, 3) := by decide +kernel
theorem dL_word_28 : decode cL_word 28 = .ok (.goto 4, 3) := by decide +kernel
theorem dL_word_31 : decode cL_word 31 = .ok (.iconst 0, 1) := by decide +kernel
theorem dL_word_32 : decode cL_word 32 = .ok (.ior, 1) := by decide +kernel
theorem dL_word_33 : decode cL_word 33 = .ok (.istore_n 2, 1) := by decide +kernel
theorem dL_word_34 : decode cL_word 34 = .ok (.iinc 3 1, 3) := by decide +kernel
theorem dL_word_37 : decode cL_word 37 = .ok (.goto (-33), 3) := by decide +kernel
theorem dL_word_40 : decode cL_word 40 = .ok (.iload_n 2, 1) := by decide +kernel
theorem dL_word_41 : decode cL_word 41 = .ok (.ireturn, 1) := by decide +kernel
theorem bL_word_0 {d mc ms : Nat} {al : Bool} {bc bs : Nat} {Γ : am_G} {I : am_I} {L : am_L} {Q : am_Q} {v0 : Nat} {v1 : Int32} (kk : am_W m_L_word d mc ms al bc bs 4 [(0, .ref v0), (1, .int v1), (2, .int 0), (3, .int v1)] [] Γ I L Q) : am_W m_L_word d mc ms al bc bs 0 [(0, .ref v0), (1, .int v1)] [] Γ I L Q := by
  refine aw_iconst dL_word_0 ci_0 ?_
  refine aw_istore_n (ls' := [(0, .ref v0), (1, .int v1), (2, .int 0)]) dL_word_1 (by decide) rfl ?_
  refine aw_iload_n dL_word_2 rfl ?_
  refine aw_istore_n (ls' := [(0, .ref v0), (1, .int v1), (2, .int 0), (3, .int v1)]) dL_word_3 (by decide) rfl ?_
  exact kk
theorem bL_word_4 {d mc ms : Nat} {al : Bool} {bc bs : Nat} {Γ : am_G} {I : am_I} {L : am_L} {Q : am_Q} {v0 : Nat} {v1 : Int32} {v2 : Int32} {v3 : Int32} (kt : (v1 + 4) ≤ v3 → am_W m_L_word d mc ms al bc bs 40 [(0, .ref v0), (1, .int v1), (2, .int v2), (3, .int v3)] [] Γ I L Q) (kf : ¬ (v1 + 4) ≤ v3 → am_W m_L_word d mc ms al bc bs 11 [(0, .ref v0), (1, .int v1), (2, .int v2), (3, .int v3)] [] Γ I L Q) : am_W m_L_word d mc ms al bc bs 4 [(0, .ref v0), (1, .int v1), (2, .int v2), (3, .int v3)] [] Γ I L Q := by
  refine aw_iload_n dL_word_4 rfl ?_
  refine aw_iload_n dL_word_5 rfl ?_
  refine aw_iconst dL_word_6 ci_4 ?_
  refine aw_iadd dL_word_7 ?_
  exact aw_icmp_ge dL_word_8 (by decide) kt kf
theorem bL_word_11 {d mc ms : Nat} {al : Bool} {bc bs : Nat} {Γ : am_G} {I : am_I} {L : am_L} {Q : am_Q} {v0 : Nat} {v1 : Int32} {v2 : Int32} {v3 : Int32} {I' : am_I} {L' : am_L} {mc' : Nat} {ms' : Nat} {r : Int32} (o1 : am_ob Γ v0 9) (hbc : mc' ≤ bc) (hbs : ms' ≤ bs) (hC : am_E m_J0_length_8abf5 d mc' ms' [.ref v0] Γ I L (.inl (some (.int r))) I' L') (kk : am_W m_L_word (d + 1) mc ms al (bc - mc') (bs - ms') 20 [(0, .ref v0), (1, .int v1), (2, .int v2), (3, .int v3)] [.int r, .int v3, .int (v2 <<< (8 &&& 31))] Γ I' L' Q) : am_W m_L_word (d + 1) mc ms al bc bs 11 [(0, .ref v0), (1, .int v1), (2, .int v2), (3, .int v3)] [] Γ I L Q := by
  refine aw_iload_n dL_word_11 rfl ?_
  refine aw_bipush dL_word_12 cb_8 ?_
  refine aw_ishl dL_word_14 ?_
  refine aw_iload_n dL_word_15 rfl ?_
  refine aw_aload_n dL_word_16 rfl ?_
  exact aw_askV (as := []) (rst := [.int v3, .int (v2 <<< (8 &&& 31))]) k_J0_length_8abf5 l_L_120 i_J0_length_8abf5 s_J0_length_8abf5 rfl o1 dL_word_17 rfl (Nat.le_of_ble_eq_true rfl) hbc hbs hC rfl rfl kk
theorem bL_word_20 {d mc ms : Nat} {al : Bool} {bc bs : Nat} {Γ : am_G} {I : am_I} {L : am_L} {Q : am_Q} {v0 : Nat} {v1 : Int32} {v2 : Int32} {v3 : Int32} {w0 : Int32} {w1 : Int32} {w2 : Int32} (kt : w2 ≤ w1 → am_W m_L_word d mc ms al bc bs 31 [(0, .ref v0), (1, .int v1), (2, .int v2), (3, .int v3)] [.int w0] Γ I L Q) (kf : ¬ w2 ≤ w1 → am_W m_L_word d mc ms al bc bs 23 [(0, .ref v0), (1, .int v1), (2, .int v2), (3, .int v3)] [.int w0] Γ I L Q) : am_W m_L_word d mc ms al bc bs 20 [(0, .ref v0), (1, .int v1), (2, .int v2), (3, .int v3)] [.int w2, .int w1, .int w0] Γ I L Q := by
  exact aw_icmp_ge dL_word_20 (by decide) kt kf
theorem bL_word_23 {d mc ms : Nat} {al : Bool} {bc bs : Nat} {Γ : am_G} {I : am_I} {L : am_L} {Q : am_Q} {v0 : Nat} {v1 : Int32} {v2 : Int32} {v3 : Int32} {w0 : Int32} {I' : am_I} {L' : am_L} {mc' : Nat} {ms' : Nat} {r : Int32} (o1 : am_ob Γ v0 9) (hbc : mc' ≤ bc) (hbs : ms' ≤ bs) (hC : am_E m_J0_charAt_5068e d mc' ms' [.ref v0, .int v3] Γ I L (.inl (some (.int r))) I' L') (kk : am_W m_L_word (d + 1) mc ms al (bc - mc') (bs - ms') 28 [(0, .ref v0), (1, .int v1), (2, .int v2), (3, .int v3)] [.int r, .int w0] Γ I' L' Q) : am_W m_L_word (d + 1) mc ms al bc bs 23 [(0, .ref v0), (1, .int v1), (2, .int v2), (3, .int v3)] [.int w0] Γ I L Q := by
  refine aw_aload_n dL_word_23 rfl ?_
  refine aw_iload_n dL_word_24 rfl ?_
  exact aw_askV (as := [.int v3]) (rst := [.int w0]) k_J0_charAt_5068e l_L_125 i_J0_charAt_5068e s_J0_charAt_5068e rfl o1 dL_word_25 rfl (Nat.le_of_ble_eq_true rfl) hbc hbs hC rfl rfl kk
theorem bL_word_28 {d mc ms : Nat} {al : Bool} {bc bs : Nat} {Γ : am_G} {I : am_I} {L : am_L} {Q : am_Q} {v0 : Nat} {v1 : Int32} {v2 : Int32} {v3 : Int32} {w0 : Int32} {w1 : Int32} (kk : am_W m_L_word d mc ms al bc bs 32 [(0, .ref v0), (1, .int v1), (2, .int v2), (3, .int v3)] [.int w1, .int w0] Γ I L Q) : am_W m_L_word d mc ms al bc bs 28 [(0, .ref v0), (1, .int v1), (2, .int v2), (3, .int v3)] [.int w1, .int w0] Γ I L Q := by
  exact aw_goto dL_word_28 (by decide) kk
theorem bL_word_31 {d mc ms : Nat} {al : Bool} {bc bs : Nat} {Γ : am_G} {I : am_I} {L : am_L} {Q : am_Q} {v0 : Nat} {v1 : Int32} {v2 : Int32} {v3 : Int32} {w0 : Int32} (kk : am_W m_L_word d mc ms al bc bs 32 [(0, .ref v0), (1, .int v1), (2, .int v2), (3, .int v3)] [.int 0, .int w0] Γ I L Q) : am_W m_L_word d mc ms al bc bs 31 [(0, .ref v0), (1, .int v1), (2, .int v2), (3, .int v3)] [.int w0] Γ I L Q := by
  refine aw_iconst dL_word_31 ci_0 ?_
  exact kk
theorem bL_word_32 {d mc ms : Nat} {al : Bool} {bc bs : Nat} {Γ : am_G} {I : am_I} {L : am_L} {Q : am_Q} {v0 : Nat} {v1 : Int32} {v2 : Int32} {v3 : Int32} {w0 : Int32} {w1 : Int32} (kk : am_W m_L_word d mc ms al bc bs 4 [(0, .ref v0), (1, .int v1), (2, .int (w0 ||| w1)), (3, .int (v3 + 1))] [] Γ I L Q) : am_W m_L_word d mc ms al bc bs 32 [(0, .ref v0), (1, .int v1), (2, .int v2), (3, .int v3)] [.int w1, .int w0] Γ I L Q := by
  refine aw_ior dL_word_32 ?_
  refine aw_istore_n (ls' := [(0, .ref v0), (1, .int v1), (2, .int (w0 ||| w1)), (3, .int v3)]) dL_word_33 (by decide) rfl ?_
  refine aw_iinc (ls' := [(0, .ref v0), (1, .int v1), (2, .int (w0 ||| w1)), (3, .int (v3 + 1))]) dL_word_34 rfl (cn_1 _) (by decide) rfl ?_
  exact aw_goto dL_word_37 (by decide) kk
theorem bL_word_40 {d mc ms : Nat} {al : Bool} {bc bs : Nat} {Γ : am_G} {I : am_I} {L : am_L} {Q : am_Q} {v0 : Nat} {v1 : Int32} {v2 : Int32} {v3 : Int32} (hq : Q (.inl (some (.int v2))) Γ I L) : am_W m_L_word d mc ms al bc bs 40 [(0, .ref v0), (1, .int v1), (2, .int v2), (3, .int v3)] [] Γ I L Q := by
  refine aw_iload_n dL_word_40 rfl ?_
  exact aw_iret dL_word_41 rfl hq
theorem dL_write_0 : decode cL_write 0 = .ok (.aload_n 0, 1) := by decide +kernel
theorem dL_write_1 : decode cL_write 1 = .ok (.iconst 0, 1) := by decide +kernel
theorem dL_write_2 : decode cL_write 2 = .ok (.invokestatic 129, 3) := by decide +kernel
theorem dL_write_5 : decode cL_write 5 = .ok (.ifCond .eq 5, 3) := by decide +kernel
theorem dL_write_8 : decode cL_write 8 = .ok (.iconst 0, 1) := by decide +kernel
theorem dL_write_9 : decode cL_write 9 = .ok (.ireturn, 1) := by decide +kernel
theorem dL_write_10 : decode cL_write 10 = .ok (.iconst 0, 1) := by decide +kernel
theorem dL_write_11 : decode cL_write 11 = .ok (.istore_n 2, 1) := by decide +kernel
theorem dL_write_12 : decode cL_write 12 = .ok (.iload_n 2, 1) := by decide +kernel
theorem dL_write_13 : decode cL_write 13 = .ok (.aload_n 1, 1) := by decide +kernel
theorem dL_write_14 : decode cL_write 14 = .ok (.invokevirtual 120, 3) := by decide +kernel
theorem dL_write_17 : decode cL_write 17 = .ok (.if_icmp .ge 58, 3) := by decide +kernel
theorem dL_write_20 : decode cL_write 20 = .ok (.aload_n 0, 1) := by decide +kernel
theorem dL_write_21 : decode cL_write 21 = .ok (.aload_n 1, 1) := by decide +kernel
theorem dL_write_22 : decode cL_write 22 = .ok (.iload_n 2, 1) := by decide +kernel
theorem dL_write_23 : decode cL_write 23 = .ok (.invokestatic 134, 3) := by decide +kernel
theorem dL_write_26 : decode cL_write 26 = .ok (.aload_n 1, 1) := by decide +kernel
theorem dL_write_27 : decode cL_write 27 = .ok (.iload_n 2, 1) := by decide +kernel
theorem dL_write_28 : decode cL_write 28 = .ok (.iconst 4, 1) := by decide +kernel
theorem dL_write_29 : decode cL_write 29 = .ok (.iadd, 1) := by decide +kernel
theorem dL_write_30 : decode cL_write 30 = .ok (.invokestatic 134, 3) := by decide +kernel
theorem dL_write_33 : decode cL_write 33 = .ok (.aload_n 1, 1) := by decide +kernel
theorem dL_write_34 : decode cL_write 34 = .ok (.iload_n 2, 1) := by decide +kernel
theorem dL_write_35 : decode cL_write 35 = .ok (.bipush 8, 2) := by decide +kernel
theorem dL_write_37 : decode cL_write 37 = .ok (.iadd, 1) := by decide +kernel
theorem dL_write_38 : decode cL_write 38 = .ok (.invokestatic 134, 3) := by decide +kernel
theorem dL_write_41 : decode cL_write 41 = .ok (.aload_n 1, 1) := by decide +kernel
theorem dL_write_42 : decode cL_write 42 = .ok (.iload_n 2, 1) := by decide +kernel
theorem dL_write_43 : decode cL_write 43 = .ok (.bipush 12, 2) := by decide +kernel
theorem dL_write_45 : decode cL_write 45 = .ok (.iadd, 1) := by decide +kernel
theorem dL_write_46 : decode cL_write 46 = .ok (.invokestatic 134, 3) := by decide +kernel
theorem dL_write_49 : decode cL_write 49 = .ok (.aload_n 1, 1) := by decide +kernel
theorem dL_write_50 : decode cL_write 50 = .ok (.iload_n 2, 1) := by decide +kernel
theorem dL_write_51 : decode cL_write 51 = .ok (.bipush 16, 2) := by decide +kernel
theorem dL_write_53 : decode cL_write 53 = .ok (.iadd, 1) := by decide +kernel
theorem dL_write_54 : decode cL_write 54 = .ok (.invokestatic 134, 3) := by decide +kernel
theorem dL_write_57 : decode cL_write 57 = .ok (.invokevirtual 138, 3) := by decide +kernel
theorem dL_write_60 : decode cL_write 60 = .ok (.iload_n 2, 1) := by decide +kernel
theorem dL_write_61 : decode cL_write 61 = .ok (.bipush 20, 2) := by decide +kernel
theorem dL_write_63 : decode cL_write 63 = .ok (.iadd, 1) := by decide +kernel
theorem dL_write_64 : decode cL_write 64 = .ok (.if_icmp .eq 5, 3) := by decide +kernel
theorem dL_write_67 : decode cL_write 67 = .ok (.iconst 0, 1) := by decide +kernel
theorem dL_write_68 : decode cL_write 68 = .ok (.ireturn, 1) := by decide +kernel
theorem dL_write_69 : decode cL_write 69 = .ok (.iinc 2 20, 3) := by decide +kernel
theorem dL_write_72 : decode cL_write 72 = .ok (.goto (-60), 3) := by decide +kernel
theorem dL_write_75 : decode cL_write 75 = .ok (.aload_n 0, 1) := by decide +kernel
theorem dL_write_76 : decode cL_write 76 = .ok (.aload_n 1, 1) := by decide +kernel
theorem dL_write_77 : decode cL_write 77 = .ok (.invokevirtual 120, 3) := by decide +kernel
theorem dL_write_80 : decode cL_write 80 = .ok (.invokestatic 129, 3) := by decide +kernel
theorem dL_write_83 : decode cL_write 83 = .ok (.aload_n 1, 1) := by decide +kernel
theorem dL_write_84 : decode cL_write 84 = .ok (.invokevirtual 120, 3) := by decide +kernel
theorem dL_write_87 : decode cL_write 87 = .ok (.if_icmp .ne 7, 3) := by decide +kernel
theorem dL_write_90 : decode cL_write 90 = .ok (.iconst 1, 1) := by decide +kernel
theorem dL_write_91 : decode cL_write 91 = .ok (.goto 4, 3) := by decide +kernel
theorem dL_write_94 : decode cL_write 94 = .ok (.iconst 0, 1) := by decide +kernel
theorem dL_write_95 : decode cL_write 95 = .ok (.ireturn, 1) := by decide +kernel
theorem bL_write_0 {d mc ms : Nat} {al : Bool} {bc bs : Nat} {Γ : am_G} {I : am_I} {L : am_L} {Q : am_Q} {v0 : Nat} {v1 : Nat} {I' : am_I} {L' : am_L} {mc' : Nat} {ms' : Nat} {r : Int32} (hbc : mc' ≤ bc) (hbs : ms' ≤ bs) (hC : am_E m_L_truncateInput d mc' ms' [.ref v0, .int 0] Γ I L (.inl (some (.int r))) I' L') (kk : am_W m_L_write (d + 1) mc ms al (bc - mc') (bs - ms') 5 [(0, .ref v0), (1, .ref v1)] [.int r] Γ I' L' Q) : am_W m_L_write (d + 1) mc ms al bc bs 0 [(0, .ref v0), (1, .ref v1)] [] Γ I L Q := by
  refine aw_aload_n dL_write_0 rfl ?_
  refine aw_iconst dL_write_1 ci_0 ?_
  exact aw_askSW (as := [.ref v0, .int 0]) (rst := []) kw_L_truncateInput (by decide) rfl l_L_129 t_L_truncateInput dL_write_2 rfl (Nat.le_of_ble_eq_true rfl) hbc hbs hC rfl rfl kk
theorem bL_write_5 {d mc ms : Nat} {al : Bool} {bc bs : Nat} {Γ : am_G} {I : am_I} {L : am_L} {Q : am_Q} {v0 : Nat} {v1 : Nat} {w0 : Int32} (kt : w0 = 0 → am_W m_L_write d mc ms al bc bs 10 [(0, .ref v0), (1, .ref v1)] [] Γ I L Q) (kf : ¬ w0 = 0 → am_W m_L_write d mc ms al bc bs 8 [(0, .ref v0), (1, .ref v1)] [] Γ I L Q) : am_W m_L_write d mc ms al bc bs 5 [(0, .ref v0), (1, .ref v1)] [.int w0] Γ I L Q := by
  exact aw_if_eq dL_write_5 (by decide) kt kf
theorem bL_write_8 {d mc ms : Nat} {al : Bool} {bc bs : Nat} {Γ : am_G} {I : am_I} {L : am_L} {Q : am_Q} {v0 : Nat} {v1 : Nat} (hq : Q (.inl (some (.int 0))) Γ I L) : am_W m_L_write d mc ms al bc bs 8 [(0, .ref v0), (1, .ref v1)] [] Γ I L Q := by
  refine aw_iconst dL_write_8 ci_0 ?_
  exact aw_zret (ty := .boolean) dL_write_9 rfl rfl hq
theorem bL_write_10 {d mc ms : Nat} {al : Bool} {bc bs : Nat} {Γ : am_G} {I : am_I} {L : am_L} {Q : am_Q} {v0 : Nat} {v1 : Nat} (kk : am_W m_L_write d mc ms al bc bs 12 [(0, .ref v0), (1, .ref v1), (2, .int 0)] [] Γ I L Q) : am_W m_L_write d mc ms al bc bs 10 [(0, .ref v0), (1, .ref v1)] [] Γ I L Q := by
  refine aw_iconst dL_write_10 ci_0 ?_
  refine aw_istore_n (ls' := [(0, .ref v0), (1, .ref v1), (2, .int 0)]) dL_write_11 (by decide) rfl ?_
  exact kk
theorem bL_write_12 {d mc ms : Nat} {al : Bool} {bc bs : Nat} {Γ : am_G} {I : am_I} {L : am_L} {Q : am_Q} {v0 : Nat} {v1 : Nat} {v2 : Int32} {I' : am_I} {L' : am_L} {mc' : Nat} {ms' : Nat} {r : Int32} (o1 : am_ob Γ v1 9) (hbc : mc' ≤ bc) (hbs : ms' ≤ bs) (hC : am_E m_J0_length_8abf5 d mc' ms' [.ref v1] Γ I L (.inl (some (.int r))) I' L') (kk : am_W m_L_write (d + 1) mc ms al (bc - mc') (bs - ms') 17 [(0, .ref v0), (1, .ref v1), (2, .int v2)] [.int r, .int v2] Γ I' L' Q) : am_W m_L_write (d + 1) mc ms al bc bs 12 [(0, .ref v0), (1, .ref v1), (2, .int v2)] [] Γ I L Q := by
  refine aw_iload_n dL_write_12 rfl ?_
  refine aw_aload_n dL_write_13 rfl ?_
  exact aw_askV (as := []) (rst := [.int v2]) k_J0_length_8abf5 l_L_120 i_J0_length_8abf5 s_J0_length_8abf5 rfl o1 dL_write_14 rfl (Nat.le_of_ble_eq_true rfl) hbc hbs hC rfl rfl kk
theorem bL_write_17 {d mc ms : Nat} {al : Bool} {bc bs : Nat} {Γ : am_G} {I : am_I} {L : am_L} {Q : am_Q} {v0 : Nat} {v1 : Nat} {v2 : Int32} {w0 : Int32} {w1 : Int32} (kt : w1 ≤ w0 → am_W m_L_write d mc ms al bc bs 75 [(0, .ref v0), (1, .ref v1), (2, .int v2)] [] Γ I L Q) (kf : ¬ w1 ≤ w0 → am_W m_L_write d mc ms al bc bs 20 [(0, .ref v0), (1, .ref v1), (2, .int v2)] [] Γ I L Q) : am_W m_L_write d mc ms al bc bs 17 [(0, .ref v0), (1, .ref v1), (2, .int v2)] [.int w1, .int w0] Γ I L Q := by
  exact aw_icmp_ge dL_write_17 (by decide) kt kf
theorem bL_write_20 {d mc ms : Nat} {al : Bool} {bc bs : Nat} {Γ : am_G} {I : am_I} {L : am_L} {Q : am_Q} {v0 : Nat} {v1 : Nat} {v2 : Int32} {I' : am_I} {L' : am_L} {mc' : Nat} {ms' : Nat} {r : Int32} (hbc : mc' ≤ bc) (hbs : ms' ≤ bs) (hC : am_E m_L_word d mc' ms' [.ref v1, .int v2] Γ I L (.inl (some (.int r))) I' L') (kk : am_W m_L_write (d + 1) mc ms al (bc - mc') (bs - ms') 26 [(0, .ref v0), (1, .ref v1), (2, .int v2)] [.int r, .ref v0] Γ I' L' Q) : am_W m_L_write (d + 1) mc ms al bc bs 20 [(0, .ref v0), (1, .ref v1), (2, .int v2)] [] Γ I L Q := by
  refine aw_aload_n dL_write_20 rfl ?_
  refine aw_aload_n dL_write_21 rfl ?_
  refine aw_iload_n dL_write_22 rfl ?_
  exact aw_askS (as := [.ref v1, .int v2]) (rst := [.ref v0]) k_L_word l_L_134 t_L_word dL_write_23 rfl (Nat.le_of_ble_eq_true rfl) hbc hbs hC rfl rfl kk
theorem bL_write_26 {d mc ms : Nat} {al : Bool} {bc bs : Nat} {Γ : am_G} {I : am_I} {L : am_L} {Q : am_Q} {v0 : Nat} {v1 : Nat} {v2 : Int32} {w0 : Nat} {w1 : Int32} {I' : am_I} {L' : am_L} {mc' : Nat} {ms' : Nat} {r : Int32} (hbc : mc' ≤ bc) (hbs : ms' ≤ bs) (hC : am_E m_L_word d mc' ms' [.ref v1, .int (v2 + 4)] Γ I L (.inl (some (.int r))) I' L') (kk : am_W m_L_write (d + 1) mc ms al (bc - mc') (bs - ms') 33 [(0, .ref v0), (1, .ref v1), (2, .int v2)] [.int r, .int w1, .ref w0] Γ I' L' Q) : am_W m_L_write (d + 1) mc ms al bc bs 26 [(0, .ref v0), (1, .ref v1), (2, .int v2)] [.int w1, .ref w0] Γ I L Q := by
  refine aw_aload_n dL_write_26 rfl ?_
  refine aw_iload_n dL_write_27 rfl ?_
  refine aw_iconst dL_write_28 ci_4 ?_
  refine aw_iadd dL_write_29 ?_
  exact aw_askS (as := [.ref v1, .int (v2 + 4)]) (rst := [.int w1, .ref w0]) k_L_word l_L_134 t_L_word dL_write_30 rfl (Nat.le_of_ble_eq_true rfl) hbc hbs hC rfl rfl kk
theorem bL_write_33 {d mc ms : Nat} {al : Bool} {bc bs : Nat} {Γ : am_G} {I : am_I} {L : am_L} {Q : am_Q} {v0 : Nat} {v1 : Nat} {v2 : Int32} {w0 : Nat} {w1 : Int32} {w2 : Int32} {I' : am_I} {L' : am_L} {mc' : Nat} {ms' : Nat} {r : Int32} (hbc : mc' ≤ bc) (hbs : ms' ≤ bs) (hC : am_E m_L_word d mc' ms' [.ref v1, .int (v2 + 8)] Γ I L (.inl (some (.int r))) I' L') (kk : am_W m_L_write (d + 1) mc ms al (bc - mc') (bs - ms') 41 [(0, .ref v0), (1, .ref v1), (2, .int v2)] [.int r, .int w2, .int w1, .ref w0] Γ I' L' Q) : am_W m_L_write (d + 1) mc ms al bc bs 33 [(0, .ref v0), (1, .ref v1), (2, .int v2)] [.int w2, .int w1, .ref w0] Γ I L Q := by
  refine aw_aload_n dL_write_33 rfl ?_
  refine aw_iload_n dL_write_34 rfl ?_
  refine aw_bipush dL_write_35 cb_8 ?_
  refine aw_iadd dL_write_37 ?_
  exact aw_askS (as := [.ref v1, .int (v2 + 8)]) (rst := [.int w2, .int w1, .ref w0]) k_L_word l_L_134 t_L_word dL_write_38 rfl (Nat.le_of_ble_eq_true rfl) hbc hbs hC rfl rfl kk
theorem bL_write_41 {d mc ms : Nat} {al : Bool} {bc bs : Nat} {Γ : am_G} {I : am_I} {L : am_L} {Q : am_Q} {v0 : Nat} {v1 : Nat} {v2 : Int32} {w0 : Nat} {w1 : Int32} {w2 : Int32} {w3 : Int32} {I' : am_I} {L' : am_L} {mc' : Nat} {ms' : Nat} {r : Int32} (hbc : mc' ≤ bc) (hbs : ms' ≤ bs) (hC : am_E m_L_word d mc' ms' [.ref v1, .int (v2 + 12)] Γ I L (.inl (some (.int r))) I' L') (kk : am_W m_L_write (d + 1) mc ms al (bc - mc') (bs - ms') 49 [(0, .ref v0), (1, .ref v1), (2, .int v2)] [.int r, .int w3, .int w2, .int w1, .ref w0] Γ I' L' Q) : am_W m_L_write (d + 1) mc ms al bc bs 41 [(0, .ref v0), (1, .ref v1), (2, .int v2)] [.int w3, .int w2, .int w1, .ref w0] Γ I L Q := by
  refine aw_aload_n dL_write_41 rfl ?_
  refine aw_iload_n dL_write_42 rfl ?_
  refine aw_bipush dL_write_43 cb_12 ?_
  refine aw_iadd dL_write_45 ?_
  exact aw_askS (as := [.ref v1, .int (v2 + 12)]) (rst := [.int w3, .int w2, .int w1, .ref w0]) k_L_word l_L_134 t_L_word dL_write_46 rfl (Nat.le_of_ble_eq_true rfl) hbc hbs hC rfl rfl kk
theorem bL_write_49 {d mc ms : Nat} {al : Bool} {bc bs : Nat} {Γ : am_G} {I : am_I} {L : am_L} {Q : am_Q} {v0 : Nat} {v1 : Nat} {v2 : Int32} {w0 : Nat} {w1 : Int32} {w2 : Int32} {w3 : Int32} {w4 : Int32} {I' : am_I} {L' : am_L} {mc' : Nat} {ms' : Nat} {r : Int32} (hbc : mc' ≤ bc) (hbs : ms' ≤ bs) (hC : am_E m_L_word d mc' ms' [.ref v1, .int (v2 + 16)] Γ I L (.inl (some (.int r))) I' L') (kk : am_W m_L_write (d + 1) mc ms al (bc - mc') (bs - ms') 57 [(0, .ref v0), (1, .ref v1), (2, .int v2)] [.int r, .int w4, .int w3, .int w2, .int w1, .ref w0] Γ I' L' Q) : am_W m_L_write (d + 1) mc ms al bc bs 49 [(0, .ref v0), (1, .ref v1), (2, .int v2)] [.int w4, .int w3, .int w2, .int w1, .ref w0] Γ I L Q := by
  refine aw_aload_n dL_write_49 rfl ?_
  refine aw_iload_n dL_write_50 rfl ?_
  refine aw_bipush dL_write_51 cb_16 ?_
  refine aw_iadd dL_write_53 ?_
  exact aw_askS (as := [.ref v1, .int (v2 + 16)]) (rst := [.int w4, .int w3, .int w2, .int w1, .ref w0]) k_L_word l_L_134 t_L_word dL_write_54 rfl (Nat.le_of_ble_eq_true rfl) hbc hbs hC rfl rfl kk
theorem bL_write_57 {d mc ms : Nat} {al : Bool} {bc bs : Nat} {Γ : am_G} {I : am_I} {L : am_L} {Q : am_Q} {v0 : Nat} {v1 : Nat} {v2 : Int32} {w0 : Nat} {w1 : Int32} {w2 : Int32} {w3 : Int32} {w4 : Int32} {w5 : Int32} {I' : am_I} {L' : am_L} {mc' : Nat} {ms' : Nat} {r : Int32} (o1 : am_ob Γ w0 8) (hbc : mc' ≤ bc) (hbs : ms' ≤ bs) (hC : am_E m_X8_append d mc' ms' [.ref w0, .int w1, .int w2, .int w3, .int w4, .int w5] Γ I L (.inl (some (.int r))) I' L') (kk : am_W m_L_write (d + 1) mc ms al (bc - mc') (bs - ms') 60 [(0, .ref v0), (1, .ref v1), (2, .int v2)] [.int r] Γ I' L' Q) : am_W m_L_write (d + 1) mc ms al bc bs 57 [(0, .ref v0), (1, .ref v1), (2, .int v2)] [.int w5, .int w4, .int w3, .int w2, .int w1, .ref w0] Γ I L Q := by
  exact aw_askV (as := [.int w1, .int w2, .int w3, .int w4, .int w5]) (rst := []) k_X8_append l_L_138 i_X8_append s_X8_append rfl o1 dL_write_57 rfl (Nat.le_of_ble_eq_true rfl) hbc hbs hC rfl rfl kk
theorem bL_write_60 {d mc ms : Nat} {al : Bool} {bc bs : Nat} {Γ : am_G} {I : am_I} {L : am_L} {Q : am_Q} {v0 : Nat} {v1 : Nat} {v2 : Int32} {w0 : Int32} (kt : w0 = (v2 + 20) → am_W m_L_write d mc ms al bc bs 69 [(0, .ref v0), (1, .ref v1), (2, .int v2)] [] Γ I L Q) (kf : ¬ w0 = (v2 + 20) → am_W m_L_write d mc ms al bc bs 67 [(0, .ref v0), (1, .ref v1), (2, .int v2)] [] Γ I L Q) : am_W m_L_write d mc ms al bc bs 60 [(0, .ref v0), (1, .ref v1), (2, .int v2)] [.int w0] Γ I L Q := by
  refine aw_iload_n dL_write_60 rfl ?_
  refine aw_bipush dL_write_61 cb_20 ?_
  refine aw_iadd dL_write_63 ?_
  exact aw_icmp_eq dL_write_64 (by decide) kt kf
theorem bL_write_67 {d mc ms : Nat} {al : Bool} {bc bs : Nat} {Γ : am_G} {I : am_I} {L : am_L} {Q : am_Q} {v0 : Nat} {v1 : Nat} {v2 : Int32} (hq : Q (.inl (some (.int 0))) Γ I L) : am_W m_L_write d mc ms al bc bs 67 [(0, .ref v0), (1, .ref v1), (2, .int v2)] [] Γ I L Q := by
  refine aw_iconst dL_write_67 ci_0 ?_
  exact aw_zret (ty := .boolean) dL_write_68 rfl rfl hq
theorem bL_write_69 {d mc ms : Nat} {al : Bool} {bc bs : Nat} {Γ : am_G} {I : am_I} {L : am_L} {Q : am_Q} {v0 : Nat} {v1 : Nat} {v2 : Int32} (kk : am_W m_L_write d mc ms al bc bs 12 [(0, .ref v0), (1, .ref v1), (2, .int (v2 + 20))] [] Γ I L Q) : am_W m_L_write d mc ms al bc bs 69 [(0, .ref v0), (1, .ref v1), (2, .int v2)] [] Γ I L Q := by
  refine aw_iinc (ls' := [(0, .ref v0), (1, .ref v1), (2, .int (v2 + 20))]) dL_write_69 rfl (cn_20 _) (by decide) rfl ?_
  exact aw_goto dL_write_72 (by decide) kk
theorem bL_write_75 {d mc ms : Nat} {al : Bool} {bc bs : Nat} {Γ : am_G} {I : am_I} {L : am_L} {Q : am_Q} {v0 : Nat} {v1 : Nat} {v2 : Int32} {I' : am_I} {L' : am_L} {mc' : Nat} {ms' : Nat} {r : Int32} (o1 : am_ob Γ v1 9) (hbc : mc' ≤ bc) (hbs : ms' ≤ bs) (hC : am_E m_J0_length_8abf5 d mc' ms' [.ref v1] Γ I L (.inl (some (.int r))) I' L') (kk : am_W m_L_write (d + 1) mc ms al (bc - mc') (bs - ms') 80 [(0, .ref v0), (1, .ref v1), (2, .int v2)] [.int r, .ref v0] Γ I' L' Q) : am_W m_L_write (d + 1) mc ms al bc bs 75 [(0, .ref v0), (1, .ref v1), (2, .int v2)] [] Γ I L Q := by
  refine aw_aload_n dL_write_75 rfl ?_
  refine aw_aload_n dL_write_76 rfl ?_
  exact aw_askV (as := []) (rst := [.ref v0]) k_J0_length_8abf5 l_L_120 i_J0_length_8abf5 s_J0_length_8abf5 rfl o1 dL_write_77 rfl (Nat.le_of_ble_eq_true rfl) hbc hbs hC rfl rfl kk
theorem bL_write_80 {d mc ms : Nat} {al : Bool} {bc bs : Nat} {Γ : am_G} {I : am_I} {L : am_L} {Q : am_Q} {v0 : Nat} {v1 : Nat} {v2 : Int32} {w0 : Nat} {w1 : Int32} {I' : am_I} {L' : am_L} {mc' : Nat} {ms' : Nat} {r : Int32} (hbc : mc' ≤ bc) (hbs : ms' ≤ bs) (hC : am_E m_L_truncateInput d mc' ms' [.ref w0, .int w1] Γ I L (.inl (some (.int r))) I' L') (kk : am_W m_L_write (d + 1) mc ms al (bc - mc') (bs - ms') 83 [(0, .ref v0), (1, .ref v1), (2, .int v2)] [.int r] Γ I' L' Q) : am_W m_L_write (d + 1) mc ms al bc bs 80 [(0, .ref v0), (1, .ref v1), (2, .int v2)] [.int w1, .ref w0] Γ I L Q := by
  exact aw_askSW (as := [.ref w0, .int w1]) (rst := []) kw_L_truncateInput (by decide) rfl l_L_129 t_L_truncateInput dL_write_80 rfl (Nat.le_of_ble_eq_true rfl) hbc hbs hC rfl rfl kk
theorem bL_write_83 {d mc ms : Nat} {al : Bool} {bc bs : Nat} {Γ : am_G} {I : am_I} {L : am_L} {Q : am_Q} {v0 : Nat} {v1 : Nat} {v2 : Int32} {w0 : Int32} {I' : am_I} {L' : am_L} {mc' : Nat} {ms' : Nat} {r : Int32} (o1 : am_ob Γ v1 9) (hbc : mc' ≤ bc) (hbs : ms' ≤ bs) (hC : am_E m_J0_length_8abf5 d mc' ms' [.ref v1] Γ I L (.inl (some (.int r))) I' L') (kk : am_W m_L_write (d + 1) mc ms al (bc - mc') (bs - ms') 87 [(0, .ref v0), (1, .ref v1), (2, .int v2)] [.int r, .int w0] Γ I' L' Q) : am_W m_L_write (d + 1) mc ms al bc bs 83 [(0, .ref v0), (1, .ref v1), (2, .int v2)] [.int w0] Γ I L Q := by
  refine aw_aload_n dL_write_83 rfl ?_
  exact aw_askV (as := []) (rst := [.int w0]) k_J0_length_8abf5 l_L_120 i_J0_length_8abf5 s_J0_length_8abf5 rfl o1 dL_write_84 rfl (Nat.le_of_ble_eq_true rfl) hbc hbs hC rfl rfl kk
theorem bL_write_87 {d mc ms : Nat} {al : Bool} {bc bs : Nat} {Γ : am_G} {I : am_I} {L : am_L} {Q : am_Q} {v0 : Nat} {v1 : Nat} {v2 : Int32} {w0 : Int32} {w1 : Int32} (kt : ¬ w0 = w1 → am_W m_L_write d mc ms al bc bs 94 [(0, .ref v0), (1, .ref v1), (2, .int v2)] [] Γ I L Q) (kf : w0 = w1 → am_W m_L_write d mc ms al bc bs 90 [(0, .ref v0), (1, .ref v1), (2, .int v2)] [] Γ I L Q) : am_W m_L_write d mc ms al bc bs 87 [(0, .ref v0), (1, .ref v1), (2, .int v2)] [.int w1, .int w0] Γ I L Q := by
  exact aw_icmp_ne dL_write_87 (by decide) kt kf
theorem bL_write_90 {d mc ms : Nat} {al : Bool} {bc bs : Nat} {Γ : am_G} {I : am_I} {L : am_L} {Q : am_Q} {v0 : Nat} {v1 : Nat} {v2 : Int32} (kk : am_W m_L_write d mc ms al bc bs 95 [(0, .ref v0), (1, .ref v1), (2, .int v2)] [.int 1] Γ I L Q) : am_W m_L_write d mc ms al bc bs 90 [(0, .ref v0), (1, .ref v1), (2, .int v2)] [] Γ I L Q := by
  refine aw_iconst dL_write_90 ci_1 ?_
  exact aw_goto dL_write_91 (by decide) kk
theorem bL_write_94 {d mc ms : Nat} {al : Bool} {bc bs : Nat} {Γ : am_G} {I : am_I} {L : am_L} {Q : am_Q} {v0 : Nat} {v1 : Nat} {v2 : Int32} (kk : am_W m_L_write d mc ms al bc bs 95 [(0, .ref v0), (1, .ref v1), (2, .int v2)] [.int 0] Γ I L Q) : am_W m_L_write d mc ms al bc bs 94 [(0, .ref v0), (1, .ref v1), (2, .int v2)] [] Γ I L Q := by
  refine aw_iconst dL_write_94 ci_0 ?_
  exact kk
theorem bL_write_95 {d mc ms : Nat} {al : Bool} {bc bs : Nat} {Γ : am_G} {I : am_I} {L : am_L} {Q : am_Q} {v0 : Nat} {v1 : Nat} {v2 : Int32} {w0 : Int32} (hz : narrow .boolean (.int w0) = .int w0) (hq : Q (.inl (some (.int w0))) Γ I L) : am_W m_L_write d mc ms al bc bs 95 [(0, .ref v0), (1, .ref v1), (2, .int v2)] [.int w0] Γ I L Q := by
  exact aw_zret (ty := .boolean) dL_write_95 rfl hz hq
theorem dL_draw_0 : decode cL_draw 0 = .ok (.aload_n 0, 1) := by decide +kernel
theorem dL_draw_1 : decode cL_draw 1 = .ok (.iconst 0, 1) := by decide +kernel
theorem dL_draw_2 : decode cL_draw 2 = .ok (.aload_n 0, 1) := by decide +kernel
theorem dL_draw_3 : decode cL_draw 3 = .ok (.iconst 0, 1) := by decide +kernel
theorem dL_draw_4 : decode cL_draw 4 = .ok (.iaload, 1) := by decide +kernel
theorem dL_draw_5 : decode cL_draw 5 = .ok (.ldc 142, 2) := by decide +kernel
theorem dL_draw_7 : decode cL_draw 7 = .ok (.imul, 1) := by decide +kernel
theorem dL_draw_8 : decode cL_draw 8 = .ok (.sipush 12345, 3) := by decide +kernel
theorem dL_draw_11 : decode cL_draw 11 = .ok (.iadd, 1) := by decide +kernel
theorem dL_draw_12 : decode cL_draw 12 = .ok (.iastore, 1) := by decide +kernel
theorem dL_draw_13 : decode cL_draw 13 = .ok (.aload_n 0, 1) := by decide +kernel
theorem dL_draw_14 : decode cL_draw 14 = .ok (.iconst 0, 1) := by decide +kernel
theorem dL_draw_15 : decode cL_draw 15 = .ok (.iaload, 1) := by decide +kernel
theorem dL_draw_16 : decode cL_draw 16 = .ok (.bipush 8, 2) := by decide +kernel
theorem dL_draw_18 : decode cL_draw 18 = .ok (.iushr, 1) := by decide +kernel
theorem dL_draw_19 : decode cL_draw 19 = .ok (.iload_n 1, 1) := by decide +kernel
theorem dL_draw_20 : decode cL_draw 20 = .ok (.irem, 1) := by decide +kernel
theorem dL_draw_21 : decode cL_draw 21 = .ok (.ireturn, 1) := by decide +kernel
theorem bL_draw_0 {d mc ms : Nat} {al : Bool} {bc bs : Nat} {Γ : am_G} {I : am_I} {L : am_L} {Q : am_Q} {v0 : Nat} {v1 : Int32} {n_v0 : Nat} (a1 : am_ar Γ v0 1 n_v0 0) (i2 : vp_in 0 n_v0) (z3 : ¬ v1 = 0) (hq : Q (.inl (some (.int ((iush ((am_u I v0 ((0 : Int32).toNatClampNeg) (((I v0 ((0 : Int32).toNatClampNeg)) * 1103515245) + 12345)) v0 ((0 : Int32).toNatClampNeg)) 8) - (iush ((am_u I v0 ((0 : Int32).toNatClampNeg) (((I v0 ((0 : Int32).toNatClampNeg)) * 1103515245) + 12345)) v0 ((0 : Int32).toNatClampNeg)) 8) / v1 * v1)))) Γ (am_u I v0 ((0 : Int32).toNatClampNeg) (((I v0 ((0 : Int32).toNatClampNeg)) * 1103515245) + 12345)) L) : am_W m_L_draw d mc ms al bc bs 0 [(0, .ref v0), (1, .int v1)] [] Γ I L Q := by
  refine aw_aload_n dL_draw_0 rfl ?_
  refine aw_iconst dL_draw_1 ci_0 ?_
  refine aw_aload_n dL_draw_2 rfl ?_
  refine aw_iconst dL_draw_3 ci_0 ?_
  refine aw_iald dL_draw_4 a1 i2 ?_
  refine aw_ldc dL_draw_5 kc_L_142 ?_
  refine aw_imul dL_draw_7 ?_
  refine aw_sipush dL_draw_8 cs_12345 ?_
  refine aw_iadd dL_draw_11 ?_
  refine aw_iast dL_draw_12 a1 i2 ?_
  refine aw_aload_n dL_draw_13 rfl ?_
  refine aw_iconst dL_draw_14 ci_0 ?_
  refine aw_iald dL_draw_15 a1 i2 ?_
  refine aw_bipush dL_draw_16 cb_8 ?_
  refine aw_iushr dL_draw_18 ?_
  refine aw_iload_n dL_draw_19 rfl ?_
  refine aw_irem dL_draw_20 z3 ?_
  exact aw_iret dL_draw_21 rfl hq
theorem dL_weight_0 : decode cL_weight 0 = .ok (.iconst 0, 1) := by decide +kernel
theorem dL_weight_1 : decode cL_weight 1 = .ok (.istore_n 2, 1) := by decide +kernel
theorem dL_weight_2 : decode cL_weight 2 = .ok (.iconst 0, 1) := by decide +kernel
theorem dL_weight_3 : decode cL_weight 3 = .ok (.istore_n 3, 1) := by decide +kernel
theorem dL_weight_4 : decode cL_weight 4 = .ok (.iload_n 3, 1) := by decide +kernel
theorem dL_weight_5 : decode cL_weight 5 = .ok (.aload_n 0, 1) := by decide +kernel
theorem dL_weight_6 : decode cL_weight 6 = .ok (.invokevirtual 143, 3) := by decide +kernel
theorem dL_weight_9 : decode cL_weight 9 = .ok (.if_icmp .ge 18, 3) := by decide +kernel
theorem dL_weight_12 : decode cL_weight 12 = .ok (.iload_n 2, 1) := by decide +kernel
theorem dL_weight_13 : decode cL_weight 13 = .ok (.aload_n 0, 1) := by decide +kernel
theorem dL_weight_14 : decode cL_weight 14 = .ok (.iload_n 1, 1) := by decide +kernel
theorem dL_weight_15 : decode cL_weight 15 = .ok (.iload_n 3, 1) := by decide +kernel
theorem dL_weight_16 : decode cL_weight 16 = .ok (.invokestatic 146, 3) := by decide +kernel
theorem dL_weight_19 : decode cL_weight 19 = .ok (.iadd, 1) := by decide +kernel
theorem dL_weight_20 : decode cL_weight 20 = .ok (.istore_n 2, 1) := by decide +kernel
theorem dL_weight_21 : decode cL_weight 21 = .ok (.iinc 3 1, 3) := by decide +kernel
theorem dL_weight_24 : decode cL_weight 24 = .ok (.goto (-20), 3) := by decide +kernel
theorem dL_weight_27 : decode cL_weight 27 = .ok (.iload_n 2, 1) := by decide +kernel
theorem dL_weight_28 : decode cL_weight 28 = .ok (.ireturn, 1) := by decide +kernel
theorem bL_weight_0 {d mc ms : Nat} {al : Bool} {bc bs : Nat} {Γ : am_G} {I : am_I} {L : am_L} {Q : am_Q} {v0 : Nat} {v1 : Int32} (kk : am_W m_L_weight d mc ms al bc bs 4 [(0, .ref v0), (1, .int v1), (2, .int 0), (3, .int 0)] [] Γ I L Q) : am_W m_L_weight d mc ms al bc bs 0 [(0, .ref v0), (1, .int v1)] [] Γ I L Q := by
  refine aw_iconst dL_weight_0 ci_0 ?_
  refine aw_istore_n (ls' := [(0, .ref v0), (1, .int v1), (2, .int 0)]) dL_weight_1 (by decide) rfl ?_
  refine aw_iconst dL_weight_2 ci_0 ?_
  refine aw_istore_n (ls' := [(0, .ref v0), (1, .int v1), (2, .int 0), (3, .int 0)]) dL_weight_3 (by decide) rfl ?_
  exact kk
theorem bL_weight_4 {d mc ms : Nat} {al : Bool} {bc bs : Nat} {Γ : am_G} {I : am_I} {L : am_L} {Q : am_Q} {v0 : Nat} {v1 : Int32} {v2 : Int32} {v3 : Int32} {I' : am_I} {L' : am_L} {mc' : Nat} {ms' : Nat} {r : Int32} (o1 : am_ob Γ v0 8) (hbc : mc' ≤ bc) (hbs : ms' ≤ bs) (hC : am_E m_X8_typeCount d mc' ms' [.ref v0] Γ I L (.inl (some (.int r))) I' L') (kk : am_W m_L_weight (d + 1) mc ms al (bc - mc') (bs - ms') 9 [(0, .ref v0), (1, .int v1), (2, .int v2), (3, .int v3)] [.int r, .int v3] Γ I' L' Q) : am_W m_L_weight (d + 1) mc ms al bc bs 4 [(0, .ref v0), (1, .int v1), (2, .int v2), (3, .int v3)] [] Γ I L Q := by
  refine aw_iload_n dL_weight_4 rfl ?_
  refine aw_aload_n dL_weight_5 rfl ?_
  exact aw_askV (as := []) (rst := [.int v3]) k_X8_typeCount l_L_143 i_X8_typeCount s_X8_typeCount rfl o1 dL_weight_6 rfl (Nat.le_of_ble_eq_true rfl) hbc hbs hC rfl rfl kk
theorem bL_weight_9 {d mc ms : Nat} {al : Bool} {bc bs : Nat} {Γ : am_G} {I : am_I} {L : am_L} {Q : am_Q} {v0 : Nat} {v1 : Int32} {v2 : Int32} {v3 : Int32} {w0 : Int32} {w1 : Int32} (kt : w1 ≤ w0 → am_W m_L_weight d mc ms al bc bs 27 [(0, .ref v0), (1, .int v1), (2, .int v2), (3, .int v3)] [] Γ I L Q) (kf : ¬ w1 ≤ w0 → am_W m_L_weight d mc ms al bc bs 12 [(0, .ref v0), (1, .int v1), (2, .int v2), (3, .int v3)] [] Γ I L Q) : am_W m_L_weight d mc ms al bc bs 9 [(0, .ref v0), (1, .int v1), (2, .int v2), (3, .int v3)] [.int w1, .int w0] Γ I L Q := by
  exact aw_icmp_ge dL_weight_9 (by decide) kt kf
theorem bL_weight_12 {d mc ms : Nat} {al : Bool} {bc bs : Nat} {Γ : am_G} {I : am_I} {L : am_L} {Q : am_Q} {v0 : Nat} {v1 : Int32} {v2 : Int32} {v3 : Int32} {I' : am_I} {L' : am_L} {mc' : Nat} {ms' : Nat} {r : Int32} (hbc : mc' ≤ bc) (hbs : ms' ≤ bs) (hC : am_E m_L_countAt d mc' ms' [.ref v0, .int v1, .int v3] Γ I L (.inl (some (.int r))) I' L') (kk : am_W m_L_weight (d + 1) mc ms al (bc - mc') (bs - ms') 19 [(0, .ref v0), (1, .int v1), (2, .int v2), (3, .int v3)] [.int r, .int v2] Γ I' L' Q) : am_W m_L_weight (d + 1) mc ms al bc bs 12 [(0, .ref v0), (1, .int v1), (2, .int v2), (3, .int v3)] [] Γ I L Q := by
  refine aw_iload_n dL_weight_12 rfl ?_
  refine aw_aload_n dL_weight_13 rfl ?_
  refine aw_iload_n dL_weight_14 rfl ?_
  refine aw_iload_n dL_weight_15 rfl ?_
  exact aw_askSW (as := [.ref v0, .int v1, .int v3]) (rst := [.int v2]) kw_L_countAt (by decide) rfl l_L_146 t_L_countAt dL_weight_16 rfl (Nat.le_of_ble_eq_true rfl) hbc hbs hC rfl rfl kk
theorem bL_weight_19 {d mc ms : Nat} {al : Bool} {bc bs : Nat} {Γ : am_G} {I : am_I} {L : am_L} {Q : am_Q} {v0 : Nat} {v1 : Int32} {v2 : Int32} {v3 : Int32} {w0 : Int32} {w1 : Int32} (kk : am_W m_L_weight d mc ms al bc bs 4 [(0, .ref v0), (1, .int v1), (2, .int (w0 + w1)), (3, .int (v3 + 1))] [] Γ I L Q) : am_W m_L_weight d mc ms al bc bs 19 [(0, .ref v0), (1, .int v1), (2, .int v2), (3, .int v3)] [.int w1, .int w0] Γ I L Q := by
  refine aw_iadd dL_weight_19 ?_
  refine aw_istore_n (ls' := [(0, .ref v0), (1, .int v1), (2, .int (w0 + w1)), (3, .int v3)]) dL_weight_20 (by decide) rfl ?_
  refine aw_iinc (ls' := [(0, .ref v0), (1, .int v1), (2, .int (w0 + w1)), (3, .int (v3 + 1))]) dL_weight_21 rfl (cn_1 _) (by decide) rfl ?_
  exact aw_goto dL_weight_24 (by decide) kk
theorem bL_weight_27 {d mc ms : Nat} {al : Bool} {bc bs : Nat} {Γ : am_G} {I : am_I} {L : am_L} {Q : am_Q} {v0 : Nat} {v1 : Int32} {v2 : Int32} {v3 : Int32} (hq : Q (.inl (some (.int v2))) Γ I L) : am_W m_L_weight d mc ms al bc bs 27 [(0, .ref v0), (1, .int v1), (2, .int v2), (3, .int v3)] [] Γ I L Q := by
  refine aw_iload_n dL_weight_27 rfl ?_
  exact aw_iret dL_weight_28 rfl hq
theorem dL_isTree_0 : decode cL_isTree 0 = .ok (.aload_n 0, 1) := by decide +kernel
theorem dL_isTree_1 : decode cL_isTree 1 = .ok (.iload_n 1, 1) := by decide +kernel
theorem dL_isTree_2 : decode cL_isTree 2 = .ok (.invokestatic 149, 3) := by decide +kernel
theorem dL_isTree_5 : decode cL_isTree 5 = .ok (.istore_n 2, 1) := by decide +kernel
theorem dL_isTree_6 : decode cL_isTree 6 = .ok (.iconst 0, 1) := by decide +kernel
theorem dL_isTree_7 : decode cL_isTree 7 = .ok (.istore_n 3, 1) := by decide +kernel
theorem dL_isTree_8 : decode cL_isTree 8 = .ok (.iconst 0, 1) := by decide +kernel
theorem dL_isTree_9 : decode cL_isTree 9 = .ok (.istore 4, 2) := by decide +kernel
theorem dL_isTree_11 : decode cL_isTree 11 = .ok (.iconst 0, 1) := by decide +kernel
theorem dL_isTree_12 : decode cL_isTree 12 = .ok (.istore 5, 2) := by decide +kernel
theorem dL_isTree_14 : decode cL_isTree 14 = .ok (.iload 5, 2) := by decide +kernel
theorem dL_isTree_16 : decode cL_isTree 16 = .ok (.iload_n 2, 1) := by decide +kernel
theorem dL_isTree_17 : decode cL_isTree 17 = .ok (.if_icmp .ge 173, 3) := by decide +kernel
theorem dL_isTree_20 : decode cL_isTree 20 = .ok (.aload_n 0, 1) := by decide +kernel
theorem dL_isTree_21 : decode cL_isTree 21 = .ok (.iload_n 1, 1) := by decide +kernel
theorem dL_isTree_22 : decode cL_isTree 22 = .ok (.iload 5, 2) := by decide +kernel
theorem dL_isTree_24 : decode cL_isTree 24 = .ok (.invokestatic 151, 3) := by decide +kernel
theorem dL_isTree_27 : decode cL_isTree 27 = .ok (.istore 6, 2) := by decide +kernel
theorem dL_isTree_29 : decode cL_isTree 29 = .ok (.aload_n 0, 1) := by decide +kernel
theorem dL_isTree_30 : decode cL_isTree 30 = .ok (.iload_n 1, 1) := by decide +kernel
theorem dL_isTree_31 : decode cL_isTree 31 = .ok (.iload 5, 2) := by decide +kernel
theorem dL_isTree_33 : decode cL_isTree 33 = .ok (.invokestatic 153, 3) := by decide +kernel
theorem dL_isTree_36 : decode cL_isTree 36 = .ok (.istore 7, 2) := by decide +kernel
theorem dL_isTree_38 : decode cL_isTree 38 = .ok (.iload 6, 2) := by decide +kernel
theorem dL_isTree_40 : decode cL_isTree 40 = .ok (.iconst (-1), 1) := by decide +kernel
theorem dL_isTree_41 : decode cL_isTree 41 = .ok (.if_icmp .ne 52, 3) := by decide +kernel
theorem dL_isTree_44 : decode cL_isTree 44 = .ok (.iinc 3 1, 3) := by decide +kernel
theorem dL_isTree_47 : decode cL_isTree 47 = .ok (.iload 4, 2) := by decide +kernel
theorem dL_isTree_49 : decode cL_isTree 49 = .ok (.iload 7, 2) := by decide +kernel
theorem dL_isTree_51 : decode cL_isTree 51 = .ok (.iadd, 1) := by decide +kernel
theorem dL_isTree_52 : decode cL_isTree 52 = .ok (.istore 4, 2) := by decide +kernel
theorem dL_isTree_54 : decode cL_isTree 54 = .ok (.aload_n 0, 1) := by decide +kernel
theorem dL_isTree_55 : decode cL_isTree 55 = .ok (.iload_n 1, 1) := by decide +kernel
theorem dL_isTree_56 : decode cL_isTree 56 = .ok (.iload 5, 2) := by decide +kernel
theorem dL_isTree_58 : decode cL_isTree 58 = .ok (.invokestatic 155, 3) := by decide +kernel
theorem dL_isTree_61 : decode cL_isTree 61 = .ok (.ifCond .lt 30, 3) := by decide +kernel
theorem dL_isTree_64 : decode cL_isTree 64 = .ok (.aload_n 0, 1) := by decide +kernel
theorem dL_isTree_65 : decode cL_isTree 65 = .ok (.iload_n 1, 1) := by decide +kernel
theorem dL_isTree_66 : decode cL_isTree 66 = .ok (.iload 5, 2) := by decide +kernel
theorem dL_isTree_68 : decode cL_isTree 68 = .ok (.invokestatic 157, 3) := by decide +kernel
theorem dL_isTree_71 : decode cL_isTree 71 = .ok (.iconst (-1), 1) := by decide +kernel
theorem dL_isTree_72 : decode cL_isTree 72 = .ok (.if_icmp .ne 19, 3) := by decide +kernel
theorem dL_isTree_75 : decode cL_isTree 75 = .ok (.aload_n 0, 1) := by decide +kernel
theorem dL_isTree_76 : decode cL_isTree 76 = .ok (.iload_n 1, 1) := by decide +kernel
theorem dL_isTree_77 : decode cL_isTree 77 = .ok (.iload 5, 2) := by decide +kernel
theorem dL_isTree_79 : decode cL_isTree 79 = .ok (.invokestatic 159, 3) := by decide +kernel
theorem dL_isTree_82 : decode cL_isTree 82 = .ok (.iconst (-1), 1) := by decide +kernel
theorem dL_isTree_83 : decode cL_isTree 83 = .ok (.if_icmp .ne 8, 3) := by decide +kernel
theorem dL_isTree_86 : decode cL_isTree 86 = .ok (.iload 7, 2) := by decide +kernel
theorem dL_isTree_88 : decode cL_isTree 88 = .ok (.ifCond .ne 96, 3) := by decide +kernel
theorem dL_isTree_91 : decode cL_isTree 91 = .ok (.iconst 0, 1) := by decide +kernel
theorem dL_isTree_92 : decode cL_isTree 92 = .ok (.ireturn, 1) := by decide +kernel
theorem dL_isTree_93 : decode cL_isTree 93 = .ok (.aload_n 0, 1) := by decide +kernel
theorem dL_isTree_94 : decode cL_isTree 94 = .ok (.iload_n 1, 1) := by decide +kernel
theorem dL_isTree_95 : decode cL_isTree 95 = .ok (.iload 5, 2) := by decide +kernel
theorem dL_isTree_97 : decode cL_isTree 97 = .ok (.invokestatic 157, 3) := by decide +kernel
theorem dL_isTree_100 : decode cL_isTree 100 = .ok (.istore 8, 2) := by decide +kernel
theorem dL_isTree_102 : decode cL_isTree 102 = .ok (.aload_n 0, 1) := by decide +kernel
theorem dL_isTree_103 : decode cL_isTree 103 = .ok (.iload_n 1, 1) := by decide +kernel
theorem dL_isTree_104 : decode cL_isTree 104 = .ok (.iload 5, 2) := by decide +kernel
theorem dL_isTree_106 : decode cL_isTree 106 = .ok (.invokestatic 159, 3) := by decide +kernel
theorem dL_isTree_109 : decode cL_isTree 109 = .ok (.istore 9, 2) := by decide +kernel
theorem dL_isTree_111 : decode cL_isTree 111 = .ok (.iload 8, 2) := by decide +kernel
theorem dL_isTree_113 : decode cL_isTree 113 = .ok (.iload 5, 2) := by decide +kernel
theorem dL_isTree_115 : decode cL_isTree 115 = .ok (.iconst 1, 1) := by decide +kernel
theorem dL_isTree_116 : decode cL_isTree 116 = .ok (.iadd, 1) := by decide +kernel
theorem dL_isTree_117 : decode cL_isTree 117 = .ok (.if_icmp .ne 65, 3) := by decide +kernel
theorem dL_isTree_120 : decode cL_isTree 120 = .ok (.iload 9, 2) := by decide +kernel
theorem dL_isTree_122 : decode cL_isTree 122 = .ok (.iload 8, 2) := by decide +kernel
theorem dL_isTree_124 : decode cL_isTree 124 = .ok (.if_icmp .le 58, 3) := by decide +kernel
theorem dL_isTree_127 : decode cL_isTree 127 = .ok (.iload 9, 2) := by decide +kernel
theorem dL_isTree_129 : decode cL_isTree 129 = .ok (.iload_n 2, 1) := by decide +kernel
theorem dL_isTree_130 : decode cL_isTree 130 = .ok (.if_icmp .ge 52, 3) := by decide +kernel
theorem dL_isTree_133 : decode cL_isTree 133 = .ok (.aload_n 0, 1) := by decide +kernel
theorem dL_isTree_134 : decode cL_isTree 134 = .ok (.iload_n 1, 1) := by decide +kernel
theorem dL_isTree_135 : decode cL_isTree 135 = .ok (.iload 5, 2) := by decide +kernel
theorem dL_isTree_137 : decode cL_isTree 137 = .ok (.invokestatic 155, 3) := by decide +kernel
theorem dL_isTree_140 : decode cL_isTree 140 = .ok (.iconst (-1), 1) := by decide +kernel
theorem dL_isTree_141 : decode cL_isTree 141 = .ok (.if_icmp .ne 41, 3) := by decide +kernel
theorem dL_isTree_144 : decode cL_isTree 144 = .ok (.aload_n 0, 1) := by decide +kernel
theorem dL_isTree_145 : decode cL_isTree 145 = .ok (.iload_n 1, 1) := by decide +kernel
theorem dL_isTree_146 : decode cL_isTree 146 = .ok (.iload 8, 2) := by decide +kernel
theorem dL_isTree_148 : decode cL_isTree 148 = .ok (.invokestatic 153, 3) := by decide +kernel
theorem dL_isTree_151 : decode cL_isTree 151 = .ok (.aload_n 0, 1) := by decide +kernel
theorem dL_isTree_152 : decode cL_isTree 152 = .ok (.iload_n 1, 1) := by decide +kernel
theorem dL_isTree_153 : decode cL_isTree 153 = .ok (.iload 9, 2) := by decide +kernel
theorem dL_isTree_155 : decode cL_isTree 155 = .ok (.invokestatic 153, 3) := by decide +kernel
theorem dL_isTree_158 : decode cL_isTree 158 = .ok (.iand, 1) := by decide +kernel
theorem dL_isTree_159 : decode cL_isTree 159 = .ok (.ifCond .ne 23, 3) := by decide +kernel
theorem dL_isTree_162 : decode cL_isTree 162 = .ok (.aload_n 0, 1) := by decide +kernel
theorem dL_isTree_163 : decode cL_isTree 163 = .ok (.iload_n 1, 1) := by decide +kernel
theorem dL_isTree_164 : decode cL_isTree 164 = .ok (.iload 8, 2) := by decide +kernel
theorem dL_isTree_166 : decode cL_isTree 166 = .ok (.invokestatic 153, 3) := by decide +kernel
theorem dL_isTree_169 : decode cL_isTree 169 = .ok (.aload_n 0, 1) := by decide +kernel
theorem dL_isTree_170 : decode cL_isTree 170 = .ok (.iload_n 1, 1) := by decide +kernel
theorem dL_isTree_171 : decode cL_isTree 171 = .ok (.iload 9, 2) := by decide +kernel
theorem dL_isTree_173 : decode cL_isTree 173 = .ok (.invokestatic 153, 3) := by decide +kernel
theorem dL_isTree_176 : decode cL_isTree 176 = .ok (.iadd, 1) := by decide +kernel
theorem dL_isTree_177 : decode cL_isTree 177 = .ok (.iload 7, 2) := by decide +kernel
theorem dL_isTree_179 : decode cL_isTree 179 = .ok (.if_icmp .eq 5, 3) := by decide +kernel
theorem dL_isTree_182 : decode cL_isTree 182 = .ok (.iconst 0, 1) := by decide +kernel
theorem dL_isTree_183 : decode cL_isTree 183 = .ok (.ireturn, 1) := by decide +kernel
theorem dL_isTree_184 : decode cL_isTree 184 = .ok (.iinc 5 1, 3) := by decide +kernel
theorem dL_isTree_187 : decode cL_isTree 187 = .ok (.goto (-173), 3) := by decide +kernel
theorem dL_isTree_190 : decode cL_isTree 190 = .ok (.iload 4, 2) := by decide +kernel
theorem dL_isTree_192 : decode cL_isTree 192 = .ok (.aload_n 0, 1) := by decide +kernel
theorem dL_isTree_193 : decode cL_isTree 193 = .ok (.iload_n 1, 1) := by decide +kernel
theorem dL_isTree_194 : decode cL_isTree 194 = .ok (.iconst 0, 1) := by decide +kernel
theorem dL_isTree_195 : decode cL_isTree 195 = .ok (.invokestatic 153, 3) := by decide +kernel
theorem dL_isTree_198 : decode cL_isTree 198 = .ok (.if_icmp .ne 36, 3) := by decide +kernel
theorem dL_isTree_201 : decode cL_isTree 201 = .ok (.iload 4, 2) := by decide +kernel
theorem dL_isTree_203 : decode cL_isTree 203 = .ok (.iconst 1, 1) := by decide +kernel
theorem dL_isTree_204 : decode cL_isTree 204 = .ok (.aload_n 0, 1) := by decide +kernel
theorem dL_isTree_205 : decode cL_isTree 205 = .ok (.invokevirtual 143, 3) := by decide +kernel
theorem dL_isTree_208 : decode cL_isTree 208 = .ok (.ishl, 1) := by decide +kernel
theorem dL_isTree_209 : decode cL_isTree 209 = .ok (.iconst 1, 1) := by decide +kernel
theorem dL_isTree_210 : decode cL_isTree 210 = .ok (.isub, 1) := by decide +kernel
theorem dL_isTree_211 : decode cL_isTree 211 = .ok (.if_icmp .ne 23, 3) := by decide +kernel
theorem dL_isTree_214 : decode cL_isTree 214 = .ok (.iload_n 2, 1) := by decide +kernel
theorem dL_isTree_215 : decode cL_isTree 215 = .ok (.iconst 2, 1) := by decide +kernel
theorem dL_isTree_216 : decode cL_isTree 216 = .ok (.iload_n 3, 1) := by decide +kernel
theorem dL_isTree_217 : decode cL_isTree 217 = .ok (.imul, 1) := by decide +kernel
theorem dL_isTree_218 : decode cL_isTree 218 = .ok (.iconst 1, 1) := by decide +kernel
theorem dL_isTree_219 : decode cL_isTree 219 = .ok (.isub, 1) := by decide +kernel
theorem dL_isTree_220 : decode cL_isTree 220 = .ok (.if_icmp .ne 14, 3) := by decide +kernel
theorem dL_isTree_223 : decode cL_isTree 223 = .ok (.aload_n 0, 1) := by decide +kernel
theorem dL_isTree_224 : decode cL_isTree 224 = .ok (.iload_n 1, 1) := by decide +kernel
theorem dL_isTree_225 : decode cL_isTree 225 = .ok (.iload_n 2, 1) := by decide +kernel
theorem dL_isTree_226 : decode cL_isTree 226 = .ok (.invokestatic 151, 3) := by decide +kernel
theorem dL_isTree_229 : decode cL_isTree 229 = .ok (.bipush (-17), 2) := by decide +kernel
theorem dL_isTree_231 : decode cL_isTree 231 = .ok (.if_icmp .eq 5, 3) := by decide +kernel
theorem dL_isTree_234 : decode cL_isTree 234 = .ok (.iconst 0, 1) := by decide +kernel
theorem dL_isTree_235 : decode cL_isTree 235 = .ok (.ireturn, 1) := by decide +kernel
theorem dL_isTree_236 : decode cL_isTree 236 = .ok (.iconst 0, 1) := by decide +kernel
theorem dL_isTree_237 : decode cL_isTree 237 = .ok (.istore 5, 2) := by decide +kernel
theorem dL_isTree_239 : decode cL_isTree 239 = .ok (.iconst 0, 1) := by decide +kernel
theorem dL_isTree_240 : decode cL_isTree 240 = .ok (.istore 6, 2) := by decide +kernel
theorem dL_isTree_242 : decode cL_isTree 242 = .ok (.iconst 0, 1) := by decide +kernel
theorem dL_isTree_243 : decode cL_isTree 243 = .ok (.istore 7, 2) := by decide +kernel
theorem dL_isTree_245 : decode cL_isTree 245 = .ok (.iload 7, 2) := by decide +kernel
theorem dL_isTree_247 : decode cL_isTree 247 = .ok (.aload_n 0, 1) := by decide +kernel
theorem dL_isTree_248 : decode cL_isTree 248 = .ok (.invokevirtual 143, 3) := by decide +kernel
theorem dL_isTree_251 : decode cL_isTree 251 = .ok (.if_icmp .ge 218, 3) := by decide +kernel
theorem dL_isTree_254 : decode cL_isTree 254 = .ok (.iconst 0, 1) := by decide +kernel
theorem dL_isTree_255 : decode cL_isTree 255 = .ok (.istore 8, 2) := by decide +kernel
theorem dL_isTree_257 : decode cL_isTree 257 = .ok (.iconst 0, 1) := by decide +kernel
theorem dL_isTree_258 : decode cL_isTree 258 = .ok (.istore 9, 2) := by decide +kernel
theorem dL_isTree_260 : decode cL_isTree 260 = .ok (.aload_n 0, 1) := by decide +kernel
theorem dL_isTree_261 : decode cL_isTree 261 = .ok (.iload_n 1, 1) := by decide +kernel
theorem dL_isTree_262 : decode cL_isTree 262 = .ok (.iload 8, 2) := by decide +kernel
theorem dL_isTree_264 : decode cL_isTree 264 = .ok (.invokestatic 151, 3) := by decide +kernel
theorem dL_isTree_267 : decode cL_isTree 267 = .ok (.ifCond .lt 76, 3) := by decide +kernel
theorem dL_isTree_270 : decode cL_isTree 270 = .ok (.aload_n 0, 1) := by decide +kernel
theorem dL_isTree_271 : decode cL_isTree 271 = .ok (.iload_n 1, 1) := by decide +kernel
theorem dL_isTree_272 : decode cL_isTree 272 = .ok (.iload 8, 2) := by decide +kernel
theorem dL_isTree_274 : decode cL_isTree 274 = .ok (.invokestatic 153, 3) := by decide +kernel
theorem dL_isTree_277 : decode cL_isTree 277 = .ok (.iload 7, 2) := by decide +kernel
theorem dL_isTree_279 : decode cL_isTree 279 = .ok (.ishr, 1) := by decide +kernel
theorem dL_isTree_280 : decode cL_isTree 280 = .ok (.iconst 1, 1) := by decide +kernel
theorem dL_isTree_281 : decode cL_isTree 281 = .ok (.iand, 1) := by decide +kernel
theorem dL_isTree_282 : decode cL_isTree 282 = .ok (.iconst 1, 1) := by decide +kernel
theorem dL_isTree_283 : decode cL_isTree 283 = .ok (.if_icmp .eq 5, 3) := by decide +kernel
theorem dL_isTree_286 : decode cL_isTree 286 = .ok (.iconst 0, 1) := by decide +kernel
theorem dL_isTree_287 : decode cL_isTree 287 = .ok (.ireturn, 1) := by decide +kernel
theorem dL_isTree_288 : decode cL_isTree 288 = .ok (.iload 9, 2) := by decide +kernel
theorem dL_isTree_290 : decode cL_isTree 290 = .ok (.aload_n 0, 1) := by decide +kernel
theorem dL_isTree_291 : decode cL_isTree 291 = .ok (.aload_n 0, 1) := by decide +kernel
theorem dL_isTree_292 : decode cL_isTree 292 = .ok (.iload_n 1, 1) := by decide +kernel
theorem dL_isTree_293 : decode cL_isTree 293 = .ok (.iload 8, 2) := by decide +kernel
theorem dL_isTree_295 : decode cL_isTree 295 = .ok (.invokestatic 151, 3) := by decide +kernel
theorem dL_isTree_298 : decode cL_isTree 298 = .ok (.invokestatic 161, 3) := by decide +kernel
theorem dL_isTree_301 : decode cL_isTree 301 = .ok (.iadd, 1) := by decide +kernel
theorem dL_isTree_302 : decode cL_isTree 302 = .ok (.istore 9, 2) := by decide +kernel
theorem dL_isTree_304 : decode cL_isTree 304 = .ok (.aload_n 0, 1) := by decide +kernel
theorem dL_isTree_305 : decode cL_isTree 305 = .ok (.iload 7, 2) := by decide +kernel
theorem dL_isTree_307 : decode cL_isTree 307 = .ok (.aload_n 0, 1) := by decide +kernel
theorem dL_isTree_308 : decode cL_isTree 308 = .ok (.iload_n 1, 1) := by decide +kernel
theorem dL_isTree_309 : decode cL_isTree 309 = .ok (.iload 8, 2) := by decide +kernel
theorem dL_isTree_311 : decode cL_isTree 311 = .ok (.invokestatic 151, 3) := by decide +kernel
theorem dL_isTree_314 : decode cL_isTree 314 = .ok (.invokestatic 163, 3) := by decide +kernel
theorem dL_isTree_317 : decode cL_isTree 317 = .ok (.iconst 1, 1) := by decide +kernel
theorem dL_isTree_318 : decode cL_isTree 318 = .ok (.if_icmp .ne 13, 3) := by decide +kernel
theorem dL_isTree_321 : decode cL_isTree 321 = .ok (.aload_n 0, 1) := by decide +kernel
theorem dL_isTree_322 : decode cL_isTree 322 = .ok (.iload_n 1, 1) := by decide +kernel
theorem dL_isTree_323 : decode cL_isTree 323 = .ok (.iload 8, 2) := by decide +kernel
theorem dL_isTree_325 : decode cL_isTree 325 = .ok (.invokestatic 157, 3) := by decide +kernel
theorem dL_isTree_328 : decode cL_isTree 328 = .ok (.goto 10, 3) := by decide +kernel
theorem dL_isTree_331 : decode cL_isTree 331 = .ok (.aload_n 0, 1) := by decide +kernel
theorem dL_isTree_332 : decode cL_isTree 332 = .ok (.iload_n 1, 1) := by decide +kernel
theorem dL_isTree_333 : decode cL_isTree 333 = .ok (.iload 8, 2) := by decide +kernel
theorem dL_isTree_335 : decode cL_isTree 335 = .ok (.invokestatic 159, 3) := by decide +kernel
theorem dL_isTree_338 : decode cL_isTree 338 = .ok (.istore 8, 2) := by decide +kernel
theorem dL_isTree_340 : decode cL_isTree 340 = .ok (.goto (-80), 3) := by decide +kernel
theorem dL_isTree_343 : decode cL_isTree 343 = .ok (.aload_n 0, 1) := by decide +kernel
theorem dL_isTree_344 : decode cL_isTree 344 = .ok (.iload_n 1, 1) := by decide +kernel
theorem dL_isTree_345 : decode cL_isTree 345 = .ok (.iload 7, 2) := by decide +kernel
theorem dL_isTree_347 : decode cL_isTree 347 = .ok (.invokestatic 165, 3) := by decide +kernel
theorem dL_isTree_350 : decode cL_isTree 350 = .ok (.iload 8, 2) := by decide +kernel
theorem dL_isTree_352 : decode cL_isTree 352 = .ok (.if_icmp .ne 32, 3) := by decide +kernel
theorem dL_isTree_355 : decode cL_isTree 355 = .ok (.aload_n 0, 1) := by decide +kernel
theorem dL_isTree_356 : decode cL_isTree 356 = .ok (.iload_n 1, 1) := by decide +kernel
theorem dL_isTree_357 : decode cL_isTree 357 = .ok (.iload 7, 2) := by decide +kernel
theorem dL_isTree_359 : decode cL_isTree 359 = .ok (.invokestatic 167, 3) := by decide +kernel
theorem dL_isTree_362 : decode cL_isTree 362 = .ok (.iload 9, 2) := by decide +kernel
theorem dL_isTree_364 : decode cL_isTree 364 = .ok (.if_icmp .ne 20, 3) := by decide +kernel
theorem dL_isTree_367 : decode cL_isTree 367 = .ok (.aload_n 0, 1) := by decide +kernel
theorem dL_isTree_368 : decode cL_isTree 368 = .ok (.iload_n 1, 1) := by decide +kernel
theorem dL_isTree_369 : decode cL_isTree 369 = .ok (.iload 7, 2) := by decide +kernel
theorem dL_isTree_371 : decode cL_isTree 371 = .ok (.invokestatic 169, 3) := by decide +kernel
theorem dL_isTree_374 : decode cL_isTree 374 = .ok (.aload_n 0, 1) := by decide +kernel
theorem dL_isTree_375 : decode cL_isTree 375 = .ok (.iload_n 1, 1) := by decide +kernel
theorem dL_isTree_376 : decode cL_isTree 376 = .ok (.iload 8, 2) := by decide +kernel
theorem dL_isTree_378 : decode cL_isTree 378 = .ok (.invokestatic 155, 3) := by decide +kernel
theorem dL_isTree_381 : decode cL_isTree 381 = .ok (.if_icmp .eq 5, 3) := by decide +kernel
theorem dL_isTree_384 : decode cL_isTree 384 = .ok (.iconst 0, 1) := by decide +kernel
theorem dL_isTree_385 : decode cL_isTree 385 = .ok (.ireturn, 1) := by decide +kernel
theorem dL_isTree_386 : decode cL_isTree 386 = .ok (.aload_n 0, 1) := by decide +kernel
theorem dL_isTree_387 : decode cL_isTree 387 = .ok (.iload_n 1, 1) := by decide +kernel
theorem dL_isTree_388 : decode cL_isTree 388 = .ok (.iload 7, 2) := by decide +kernel
theorem dL_isTree_390 : decode cL_isTree 390 = .ok (.invokestatic 169, 3) := by decide +kernel
theorem dL_isTree_393 : decode cL_isTree 393 = .ok (.aload_n 0, 1) := by decide +kernel
theorem dL_isTree_394 : decode cL_isTree 394 = .ok (.iload 7, 2) := by decide +kernel
theorem dL_isTree_396 : decode cL_isTree 396 = .ok (.invokestatic 171, 3) := by decide +kernel
theorem dL_isTree_399 : decode cL_isTree 399 = .ok (.if_icmp .eq 7, 3) := by decide +kernel
theorem dL_isTree_402 : decode cL_isTree 402 = .ok (.iconst 1, 1) := by decide +kernel
theorem dL_isTree_403 : decode cL_isTree 403 = .ok (.goto 4, 3) := by decide +kernel
theorem dL_isTree_406 : decode cL_isTree 406 = .ok (.iconst 0, 1) := by decide +kernel
theorem dL_isTree_407 : decode cL_isTree 407 = .ok (.istore 10, 2) := by decide +kernel
theorem dL_isTree_409 : decode cL_isTree 409 = .ok (.iload 10, 2) := by decide +kernel
theorem dL_isTree_411 : decode cL_isTree 411 = .ok (.ifCond .eq 15, 3) := by decide +kernel
theorem dL_isTree_414 : decode cL_isTree 414 = .ok (.iload 5, 2) := by decide +kernel
theorem dL_isTree_416 : decode cL_isTree 416 = .ok (.aload_n 0, 1) := by decide +kernel
theorem dL_isTree_417 : decode cL_isTree 417 = .ok (.iload_n 1, 1) := by decide +kernel
theorem dL_isTree_418 : decode cL_isTree 418 = .ok (.iload 7, 2) := by decide +kernel
theorem dL_isTree_420 : decode cL_isTree 420 = .ok (.invokestatic 146, 3) := by decide +kernel
theorem dL_isTree_423 : decode cL_isTree 423 = .ok (.iadd, 1) := by decide +kernel
theorem dL_isTree_424 : decode cL_isTree 424 = .ok (.istore 5, 2) := by decide +kernel
theorem dL_isTree_426 : decode cL_isTree 426 = .ok (.iload 6, 2) := by decide +kernel
theorem dL_isTree_428 : decode cL_isTree 428 = .ok (.iload 9, 2) := by decide +kernel
theorem dL_isTree_430 : decode cL_isTree 430 = .ok (.aload_n 0, 1) := by decide +kernel
theorem dL_isTree_431 : decode cL_isTree 431 = .ok (.iload_n 1, 1) := by decide +kernel
theorem dL_isTree_432 : decode cL_isTree 432 = .ok (.iload 7, 2) := by decide +kernel
theorem dL_isTree_434 : decode cL_isTree 434 = .ok (.invokestatic 146, 3) := by decide +kernel
theorem dL_isTree_437 : decode cL_isTree 437 = .ok (.imul, 1) := by decide +kernel
theorem dL_isTree_438 : decode cL_isTree 438 = .ok (.iadd, 1) := by decide +kernel
theorem dL_isTree_439 : decode cL_isTree 439 = .ok (.istore 6, 2) := by decide +kernel
theorem dL_isTree_441 : decode cL_isTree 441 = .ok (.iload 10, 2) := by decide +kernel
theorem dL_isTree_443 : decode cL_isTree 443 = .ok (.aload_n 0, 1) := by decide +kernel
theorem dL_isTree_444 : decode cL_isTree 444 = .ok (.iload_n 1, 1) := by decide +kernel
theorem dL_isTree_445 : decode cL_isTree 445 = .ok (.iload 7, 2) := by decide +kernel
theorem dL_isTree_447 : decode cL_isTree 447 = .ok (.invokestatic 173, 3) := by decide +kernel
theorem dL_isTree_450 : decode cL_isTree 450 = .ok (.ifCond .le 7, 3) := by decide +kernel
theorem dL_isTree_453 : decode cL_isTree 453 = .ok (.iconst 1, 1) := by decide +kernel
theorem dL_isTree_454 : decode cL_isTree 454 = .ok (.goto 4, 3) := by decide +kernel
theorem dL_isTree_457 : decode cL_isTree 457 = .ok (.iconst 0, 1) := by decide +kernel
theorem dL_isTree_458 : decode cL_isTree 458 = .ok (.if_icmp .eq 5, 3) := by decide +kernel
theorem dL_isTree_461 : decode cL_isTree 461 = .ok (.iconst 0, 1) := by decide +kernel
theorem dL_isTree_462 : decode cL_isTree 462 = .ok (.ireturn, 1) := by decide +kernel
theorem dL_isTree_463 : decode cL_isTree 463 = .ok (.iinc 7 1, 3) := by decide +kernel
theorem dL_isTree_466 : decode cL_isTree 466 = .ok (.goto (-221), 3) := by decide +kernel
theorem dL_isTree_469 : decode cL_isTree 469 = .ok (.aload_n 0, 1) := by decide +kernel
theorem dL_isTree_470 : decode cL_isTree 470 = .ok (.iload_n 1, 1) := by decide +kernel
theorem dL_isTree_471 : decode cL_isTree 471 = .ok (.invokestatic 175, 3) := by decide +kernel
theorem dL_isTree_474 : decode cL_isTree 474 = .ok (.iload 5, 2) := by decide +kernel
theorem dL_isTree_476 : decode cL_isTree 476 = .ok (.if_icmp .ne 17, 3) := by decide +kernel
theorem dL_isTree_479 : decode cL_isTree 479 = .ok (.aload_n 0, 1) := by decide +kernel
theorem dL_isTree_480 : decode cL_isTree 480 = .ok (.iload_n 1, 1) := by decide +kernel
theorem dL_isTree_481 : decode cL_isTree 481 = .ok (.invokestatic 177, 3) := by decide +kernel
theorem dL_isTree_484 : decode cL_isTree 484 = .ok (.iload 6, 2) := by decide +kernel
theorem dL_isTree_486 : decode cL_isTree 486 = .ok (.if_icmp .ne 7, 3) := by decide +kernel
theorem dL_isTree_489 : decode cL_isTree 489 = .ok (.iconst 1, 1) := by decide +kernel
theorem dL_isTree_490 : decode cL_isTree 490 = .ok (.goto 4, 3) := by decide +kernel
theorem dL_isTree_493 : decode cL_isTree 493 = .ok (.iconst 0, 1) := by decide +kernel
theorem dL_isTree_494 : decode cL_isTree 494 = .ok (.ireturn, 1) := by decide +kernel
theorem bL_isTree_0 {d mc ms : Nat} {al : Bool} {bc bs : Nat} {Γ : am_G} {I : am_I} {L : am_L} {Q : am_Q} {v0 : Nat} {v1 : Int32} {I' : am_I} {L' : am_L} {mc' : Nat} {ms' : Nat} {r : Int32} (hbc : mc' ≤ bc) (hbs : ms' ≤ bs) (hC : am_E m_L_nodeCount d mc' ms' [.ref v0, .int v1] Γ I L (.inl (some (.int r))) I' L') (kk : am_W m_L_isTree (d + 1) mc ms al (bc - mc') (bs - ms') 5 [(0, .ref v0), (1, .int v1)] [.int r] Γ I' L' Q) : am_W m_L_isTree (d + 1) mc ms al bc bs 0 [(0, .ref v0), (1, .int v1)] [] Γ I L Q := by
  refine aw_aload_n dL_isTree_0 rfl ?_
  refine aw_iload_n dL_isTree_1 rfl ?_
  exact aw_askSW (as := [.ref v0, .int v1]) (rst := []) kw_L_nodeCount (by decide) rfl l_L_149 t_L_nodeCount dL_isTree_2 rfl (Nat.le_of_ble_eq_true rfl) hbc hbs hC rfl rfl kk
theorem bL_isTree_5 {d mc ms : Nat} {al : Bool} {bc bs : Nat} {Γ : am_G} {I : am_I} {L : am_L} {Q : am_Q} {v0 : Nat} {v1 : Int32} {w0 : Int32} (kk : am_W m_L_isTree d mc ms al bc bs 14 [(0, .ref v0), (1, .int v1), (2, .int w0), (3, .int 0), (4, .int 0), (5, .int 0)] [] Γ I L Q) : am_W m_L_isTree d mc ms al bc bs 5 [(0, .ref v0), (1, .int v1)] [.int w0] Γ I L Q := by
  refine aw_istore_n (ls' := [(0, .ref v0), (1, .int v1), (2, .int w0)]) dL_isTree_5 (by decide) rfl ?_
  refine aw_iconst dL_isTree_6 ci_0 ?_
  refine aw_istore_n (ls' := [(0, .ref v0), (1, .int v1), (2, .int w0), (3, .int 0)]) dL_isTree_7 (by decide) rfl ?_
  refine aw_iconst dL_isTree_8 ci_0 ?_
  refine aw_istore (ls' := [(0, .ref v0), (1, .int v1), (2, .int w0), (3, .int 0), (4, .int 0)]) dL_isTree_9 (by decide) rfl ?_
  refine aw_iconst dL_isTree_11 ci_0 ?_
  refine aw_istore (ls' := [(0, .ref v0), (1, .int v1), (2, .int w0), (3, .int 0), (4, .int 0), (5, .int 0)]) dL_isTree_12 (by decide) rfl ?_
  exact kk
theorem bL_isTree_14 {d mc ms : Nat} {al : Bool} {bc bs : Nat} {Γ : am_G} {I : am_I} {L : am_L} {Q : am_Q} {v0 : Nat} {v1 : Int32} {v2 : Int32} {v3 : Int32} {v4 : Int32} {v5 : Int32} (kt : v2 ≤ v5 → am_W m_L_isTree d mc ms al bc bs 190 [(0, .ref v0), (1, .int v1), (2, .int v2), (3, .int v3), (4, .int v4), (5, .int v5)] [] Γ I L Q) (kf : ¬ v2 ≤ v5 → am_W m_L_isTree d mc ms al bc bs 20 [(0, .ref v0), (1, .int v1), (2, .int v2), (3, .int v3), (4, .int v4), (5, .int v5)] [] Γ I L Q) : am_W m_L_isTree d mc ms al bc bs 14 [(0, .ref v0), (1, .int v1), (2, .int v2), (3, .int v3), (4, .int v4), (5, .int v5)] [] Γ I L Q := by
  refine aw_iload dL_isTree_14 rfl ?_
  refine aw_iload_n dL_isTree_16 rfl ?_
  exact aw_icmp_ge dL_isTree_17 (by decide) kt kf
theorem bL_isTree_20 {d mc ms : Nat} {al : Bool} {bc bs : Nat} {Γ : am_G} {I : am_I} {L : am_L} {Q : am_Q} {v0 : Nat} {v1 : Int32} {v2 : Int32} {v3 : Int32} {v4 : Int32} {v5 : Int32} {I' : am_I} {L' : am_L} {mc' : Nat} {ms' : Nat} {r : Int32} (hbc : mc' ≤ bc) (hbs : ms' ≤ bs) (hC : am_E m_L_nodeQuestion d mc' ms' [.ref v0, .int v1, .int v5] Γ I L (.inl (some (.int r))) I' L') (kk : am_W m_L_isTree (d + 1) mc ms al (bc - mc') (bs - ms') 27 [(0, .ref v0), (1, .int v1), (2, .int v2), (3, .int v3), (4, .int v4), (5, .int v5)] [.int r] Γ I' L' Q) : am_W m_L_isTree (d + 1) mc ms al bc bs 20 [(0, .ref v0), (1, .int v1), (2, .int v2), (3, .int v3), (4, .int v4), (5, .int v5)] [] Γ I L Q := by
  refine aw_aload_n dL_isTree_20 rfl ?_
  refine aw_iload_n dL_isTree_21 rfl ?_
  refine aw_iload dL_isTree_22 rfl ?_
  exact aw_askSW (as := [.ref v0, .int v1, .int v5]) (rst := []) kw_L_nodeQuestion (by decide) rfl l_L_151 t_L_nodeQuestion dL_isTree_24 rfl (Nat.le_of_ble_eq_true rfl) hbc hbs hC rfl rfl kk
theorem bL_isTree_27 {d mc ms : Nat} {al : Bool} {bc bs : Nat} {Γ : am_G} {I : am_I} {L : am_L} {Q : am_Q} {v0 : Nat} {v1 : Int32} {v2 : Int32} {v3 : Int32} {v4 : Int32} {v5 : Int32} {w0 : Int32} {I' : am_I} {L' : am_L} {mc' : Nat} {ms' : Nat} {r : Int32} (hbc : mc' ≤ bc) (hbs : ms' ≤ bs) (hC : am_E m_L_typesAt d mc' ms' [.ref v0, .int v1, .int v5] Γ I L (.inl (some (.int r))) I' L') (kk : am_W m_L_isTree (d + 1) mc ms al (bc - mc') (bs - ms') 36 [(0, .ref v0), (1, .int v1), (2, .int v2), (3, .int v3), (4, .int v4), (5, .int v5), (6, .int w0)] [.int r] Γ I' L' Q) : am_W m_L_isTree (d + 1) mc ms al bc bs 27 [(0, .ref v0), (1, .int v1), (2, .int v2), (3, .int v3), (4, .int v4), (5, .int v5)] [.int w0] Γ I L Q := by
  refine aw_istore (ls' := [(0, .ref v0), (1, .int v1), (2, .int v2), (3, .int v3), (4, .int v4), (5, .int v5), (6, .int w0)]) dL_isTree_27 (by decide) rfl ?_
  refine aw_aload_n dL_isTree_29 rfl ?_
  refine aw_iload_n dL_isTree_30 rfl ?_
  refine aw_iload dL_isTree_31 rfl ?_
  exact aw_askSW (as := [.ref v0, .int v1, .int v5]) (rst := []) kw_L_typesAt (by decide) rfl l_L_153 t_L_typesAt dL_isTree_33 rfl (Nat.le_of_ble_eq_true rfl) hbc hbs hC rfl rfl kk
theorem bL_isTree_36 {d mc ms : Nat} {al : Bool} {bc bs : Nat} {Γ : am_G} {I : am_I} {L : am_L} {Q : am_Q} {v0 : Nat} {v1 : Int32} {v2 : Int32} {v3 : Int32} {v4 : Int32} {v5 : Int32} {v6 : Int32} {w0 : Int32} (kt : ¬ v6 = (-1) → am_W m_L_isTree d mc ms al bc bs 93 [(0, .ref v0), (1, .int v1), (2, .int v2), (3, .int v3), (4, .int v4), (5, .int v5), (6, .int v6), (7, .int w0)] [] Γ I L Q) (kf : v6 = (-1) → am_W m_L_isTree d mc ms al bc bs 44 [(0, .ref v0), (1, .int v1), (2, .int v2), (3, .int v3), (4, .int v4), (5, .int v5), (6, .int v6), (7, .int w0)] [] Γ I L Q) : am_W m_L_isTree d mc ms al bc bs 36 [(0, .ref v0), (1, .int v1), (2, .int v2), (3, .int v3), (4, .int v4), (5, .int v5), (6, .int v6)] [.int w0] Γ I L Q := by
  refine aw_istore (ls' := [(0, .ref v0), (1, .int v1), (2, .int v2), (3, .int v3), (4, .int v4), (5, .int v5), (6, .int v6), (7, .int w0)]) dL_isTree_36 (by decide) rfl ?_
  refine aw_iload dL_isTree_38 rfl ?_
  refine aw_iconst dL_isTree_40 ci_m1 ?_
  exact aw_icmp_ne dL_isTree_41 (by decide) kt kf
theorem bL_isTree_44 {d mc ms : Nat} {al : Bool} {bc bs : Nat} {Γ : am_G} {I : am_I} {L : am_L} {Q : am_Q} {v0 : Nat} {v1 : Int32} {v2 : Int32} {v3 : Int32} {v4 : Int32} {v5 : Int32} {v6 : Int32} {v7 : Int32} {I' : am_I} {L' : am_L} {mc' : Nat} {ms' : Nat} {r : Int32} (hbc : mc' ≤ bc) (hbs : ms' ≤ bs) (hC : am_E m_L_leafToll d mc' ms' [.ref v0, .int v1, .int v5] Γ I L (.inl (some (.int r))) I' L') (kk : am_W m_L_isTree (d + 1) mc ms al (bc - mc') (bs - ms') 61 [(0, .ref v0), (1, .int v1), (2, .int v2), (3, .int (v3 + 1)), (4, .int (v4 + v7)), (5, .int v5), (6, .int v6), (7, .int v7)] [.int r] Γ I' L' Q) : am_W m_L_isTree (d + 1) mc ms al bc bs 44 [(0, .ref v0), (1, .int v1), (2, .int v2), (3, .int v3), (4, .int v4), (5, .int v5), (6, .int v6), (7, .int v7)] [] Γ I L Q := by
  refine aw_iinc (ls' := [(0, .ref v0), (1, .int v1), (2, .int v2), (3, .int (v3 + 1)), (4, .int v4), (5, .int v5), (6, .int v6), (7, .int v7)]) dL_isTree_44 rfl (cn_1 _) (by decide) rfl ?_
  refine aw_iload dL_isTree_47 rfl ?_
  refine aw_iload dL_isTree_49 rfl ?_
  refine aw_iadd dL_isTree_51 ?_
  refine aw_istore (ls' := [(0, .ref v0), (1, .int v1), (2, .int v2), (3, .int (v3 + 1)), (4, .int (v4 + v7)), (5, .int v5), (6, .int v6), (7, .int v7)]) dL_isTree_52 (by decide) rfl ?_
  refine aw_aload_n dL_isTree_54 rfl ?_
  refine aw_iload_n dL_isTree_55 rfl ?_
  refine aw_iload dL_isTree_56 rfl ?_
  exact aw_askSW (as := [.ref v0, .int v1, .int v5]) (rst := []) kw_L_leafToll (by decide) rfl l_L_155 t_L_leafToll dL_isTree_58 rfl (Nat.le_of_ble_eq_true rfl) hbc hbs hC rfl rfl kk
theorem bL_isTree_61 {d mc ms : Nat} {al : Bool} {bc bs : Nat} {Γ : am_G} {I : am_I} {L : am_L} {Q : am_Q} {v0 : Nat} {v1 : Int32} {v2 : Int32} {v3 : Int32} {v4 : Int32} {v5 : Int32} {v6 : Int32} {v7 : Int32} {w0 : Int32} (kt : w0 < 0 → am_W m_L_isTree d mc ms al bc bs 91 [(0, .ref v0), (1, .int v1), (2, .int v2), (3, .int v3), (4, .int v4), (5, .int v5), (6, .int v6), (7, .int v7)] [] Γ I L Q) (kf : ¬ w0 < 0 → am_W m_L_isTree d mc ms al bc bs 64 [(0, .ref v0), (1, .int v1), (2, .int v2), (3, .int v3), (4, .int v4), (5, .int v5), (6, .int v6), (7, .int v7)] [] Γ I L Q) : am_W m_L_isTree d mc ms al bc bs 61 [(0, .ref v0), (1, .int v1), (2, .int v2), (3, .int v3), (4, .int v4), (5, .int v5), (6, .int v6), (7, .int v7)] [.int w0] Γ I L Q := by
  exact aw_if_lt dL_isTree_61 (by decide) kt kf
theorem bL_isTree_64 {d mc ms : Nat} {al : Bool} {bc bs : Nat} {Γ : am_G} {I : am_I} {L : am_L} {Q : am_Q} {v0 : Nat} {v1 : Int32} {v2 : Int32} {v3 : Int32} {v4 : Int32} {v5 : Int32} {v6 : Int32} {v7 : Int32} {I' : am_I} {L' : am_L} {mc' : Nat} {ms' : Nat} {r : Int32} (hbc : mc' ≤ bc) (hbs : ms' ≤ bs) (hC : am_E m_L_yesChild d mc' ms' [.ref v0, .int v1, .int v5] Γ I L (.inl (some (.int r))) I' L') (kk : am_W m_L_isTree (d + 1) mc ms al (bc - mc') (bs - ms') 71 [(0, .ref v0), (1, .int v1), (2, .int v2), (3, .int v3), (4, .int v4), (5, .int v5), (6, .int v6), (7, .int v7)] [.int r] Γ I' L' Q) : am_W m_L_isTree (d + 1) mc ms al bc bs 64 [(0, .ref v0), (1, .int v1), (2, .int v2), (3, .int v3), (4, .int v4), (5, .int v5), (6, .int v6), (7, .int v7)] [] Γ I L Q := by
  refine aw_aload_n dL_isTree_64 rfl ?_
  refine aw_iload_n dL_isTree_65 rfl ?_
  refine aw_iload dL_isTree_66 rfl ?_
  exact aw_askSW (as := [.ref v0, .int v1, .int v5]) (rst := []) kw_L_yesChild (by decide) rfl l_L_157 t_L_yesChild dL_isTree_68 rfl (Nat.le_of_ble_eq_true rfl) hbc hbs hC rfl rfl kk
theorem bL_isTree_71 {d mc ms : Nat} {al : Bool} {bc bs : Nat} {Γ : am_G} {I : am_I} {L : am_L} {Q : am_Q} {v0 : Nat} {v1 : Int32} {v2 : Int32} {v3 : Int32} {v4 : Int32} {v5 : Int32} {v6 : Int32} {v7 : Int32} {w0 : Int32} (kt : ¬ w0 = (-1) → am_W m_L_isTree d mc ms al bc bs 91 [(0, .ref v0), (1, .int v1), (2, .int v2), (3, .int v3), (4, .int v4), (5, .int v5), (6, .int v6), (7, .int v7)] [] Γ I L Q) (kf : w0 = (-1) → am_W m_L_isTree d mc ms al bc bs 75 [(0, .ref v0), (1, .int v1), (2, .int v2), (3, .int v3), (4, .int v4), (5, .int v5), (6, .int v6), (7, .int v7)] [] Γ I L Q) : am_W m_L_isTree d mc ms al bc bs 71 [(0, .ref v0), (1, .int v1), (2, .int v2), (3, .int v3), (4, .int v4), (5, .int v5), (6, .int v6), (7, .int v7)] [.int w0] Γ I L Q := by
  refine aw_iconst dL_isTree_71 ci_m1 ?_
  exact aw_icmp_ne dL_isTree_72 (by decide) kt kf
theorem bL_isTree_75 {d mc ms : Nat} {al : Bool} {bc bs : Nat} {Γ : am_G} {I : am_I} {L : am_L} {Q : am_Q} {v0 : Nat} {v1 : Int32} {v2 : Int32} {v3 : Int32} {v4 : Int32} {v5 : Int32} {v6 : Int32} {v7 : Int32} {I' : am_I} {L' : am_L} {mc' : Nat} {ms' : Nat} {r : Int32} (hbc : mc' ≤ bc) (hbs : ms' ≤ bs) (hC : am_E m_L_noChild d mc' ms' [.ref v0, .int v1, .int v5] Γ I L (.inl (some (.int r))) I' L') (kk : am_W m_L_isTree (d + 1) mc ms al (bc - mc') (bs - ms') 82 [(0, .ref v0), (1, .int v1), (2, .int v2), (3, .int v3), (4, .int v4), (5, .int v5), (6, .int v6), (7, .int v7)] [.int r] Γ I' L' Q) : am_W m_L_isTree (d + 1) mc ms al bc bs 75 [(0, .ref v0), (1, .int v1), (2, .int v2), (3, .int v3), (4, .int v4), (5, .int v5), (6, .int v6), (7, .int v7)] [] Γ I L Q := by
  refine aw_aload_n dL_isTree_75 rfl ?_
  refine aw_iload_n dL_isTree_76 rfl ?_
  refine aw_iload dL_isTree_77 rfl ?_
  exact aw_askSW (as := [.ref v0, .int v1, .int v5]) (rst := []) kw_L_noChild (by decide) rfl l_L_159 t_L_noChild dL_isTree_79 rfl (Nat.le_of_ble_eq_true rfl) hbc hbs hC rfl rfl kk
theorem bL_isTree_82 {d mc ms : Nat} {al : Bool} {bc bs : Nat} {Γ : am_G} {I : am_I} {L : am_L} {Q : am_Q} {v0 : Nat} {v1 : Int32} {v2 : Int32} {v3 : Int32} {v4 : Int32} {v5 : Int32} {v6 : Int32} {v7 : Int32} {w0 : Int32} (kt : ¬ w0 = (-1) → am_W m_L_isTree d mc ms al bc bs 91 [(0, .ref v0), (1, .int v1), (2, .int v2), (3, .int v3), (4, .int v4), (5, .int v5), (6, .int v6), (7, .int v7)] [] Γ I L Q) (kf : w0 = (-1) → am_W m_L_isTree d mc ms al bc bs 86 [(0, .ref v0), (1, .int v1), (2, .int v2), (3, .int v3), (4, .int v4), (5, .int v5), (6, .int v6), (7, .int v7)] [] Γ I L Q) : am_W m_L_isTree d mc ms al bc bs 82 [(0, .ref v0), (1, .int v1), (2, .int v2), (3, .int v3), (4, .int v4), (5, .int v5), (6, .int v6), (7, .int v7)] [.int w0] Γ I L Q := by
  refine aw_iconst dL_isTree_82 ci_m1 ?_
  exact aw_icmp_ne dL_isTree_83 (by decide) kt kf
theorem bL_isTree_86 {d mc ms : Nat} {al : Bool} {bc bs : Nat} {Γ : am_G} {I : am_I} {L : am_L} {Q : am_Q} {v0 : Nat} {v1 : Int32} {v2 : Int32} {v3 : Int32} {v4 : Int32} {v5 : Int32} {v6 : Int32} {v7 : Int32} (kt : ¬ v7 = 0 → am_W m_L_isTree d mc ms al bc bs 184 [(0, .ref v0), (1, .int v1), (2, .int v2), (3, .int v3), (4, .int v4), (5, .int v5), (6, .int v6), (7, .int v7)] [] Γ I L Q) (kf : v7 = 0 → am_W m_L_isTree d mc ms al bc bs 91 [(0, .ref v0), (1, .int v1), (2, .int v2), (3, .int v3), (4, .int v4), (5, .int v5), (6, .int v6), (7, .int v7)] [] Γ I L Q) : am_W m_L_isTree d mc ms al bc bs 86 [(0, .ref v0), (1, .int v1), (2, .int v2), (3, .int v3), (4, .int v4), (5, .int v5), (6, .int v6), (7, .int v7)] [] Γ I L Q := by
  refine aw_iload dL_isTree_86 rfl ?_
  exact aw_if_ne dL_isTree_88 (by decide) kt kf
theorem bL_isTree_91 {d mc ms : Nat} {al : Bool} {bc bs : Nat} {Γ : am_G} {I : am_I} {L : am_L} {Q : am_Q} {v0 : Nat} {v1 : Int32} {v2 : Int32} {v3 : Int32} {v4 : Int32} {v5 : Int32} {v6 : Int32} {v7 : Int32} (hq : Q (.inl (some (.int 0))) Γ I L) : am_W m_L_isTree d mc ms al bc bs 91 [(0, .ref v0), (1, .int v1), (2, .int v2), (3, .int v3), (4, .int v4), (5, .int v5), (6, .int v6), (7, .int v7)] [] Γ I L Q := by
  refine aw_iconst dL_isTree_91 ci_0 ?_
  exact aw_zret (ty := .boolean) dL_isTree_92 rfl rfl hq
theorem bL_isTree_93 {d mc ms : Nat} {al : Bool} {bc bs : Nat} {Γ : am_G} {I : am_I} {L : am_L} {Q : am_Q} {v0 : Nat} {v1 : Int32} {v2 : Int32} {v3 : Int32} {v4 : Int32} {v5 : Int32} {v6 : Int32} {v7 : Int32} {I' : am_I} {L' : am_L} {mc' : Nat} {ms' : Nat} {r : Int32} (hbc : mc' ≤ bc) (hbs : ms' ≤ bs) (hC : am_E m_L_yesChild d mc' ms' [.ref v0, .int v1, .int v5] Γ I L (.inl (some (.int r))) I' L') (kk : am_W m_L_isTree (d + 1) mc ms al (bc - mc') (bs - ms') 100 [(0, .ref v0), (1, .int v1), (2, .int v2), (3, .int v3), (4, .int v4), (5, .int v5), (6, .int v6), (7, .int v7)] [.int r] Γ I' L' Q) : am_W m_L_isTree (d + 1) mc ms al bc bs 93 [(0, .ref v0), (1, .int v1), (2, .int v2), (3, .int v3), (4, .int v4), (5, .int v5), (6, .int v6), (7, .int v7)] [] Γ I L Q := by
  refine aw_aload_n dL_isTree_93 rfl ?_
  refine aw_iload_n dL_isTree_94 rfl ?_
  refine aw_iload dL_isTree_95 rfl ?_
  exact aw_askSW (as := [.ref v0, .int v1, .int v5]) (rst := []) kw_L_yesChild (by decide) rfl l_L_157 t_L_yesChild dL_isTree_97 rfl (Nat.le_of_ble_eq_true rfl) hbc hbs hC rfl rfl kk
theorem bL_isTree_100 {d mc ms : Nat} {al : Bool} {bc bs : Nat} {Γ : am_G} {I : am_I} {L : am_L} {Q : am_Q} {v0 : Nat} {v1 : Int32} {v2 : Int32} {v3 : Int32} {v4 : Int32} {v5 : Int32} {v6 : Int32} {v7 : Int32} {w0 : Int32} {I' : am_I} {L' : am_L} {mc' : Nat} {ms' : Nat} {r : Int32} (hbc : mc' ≤ bc) (hbs : ms' ≤ bs) (hC : am_E m_L_noChild d mc' ms' [.ref v0, .int v1, .int v5] Γ I L (.inl (some (.int r))) I' L') (kk : am_W m_L_isTree (d + 1) mc ms al (bc - mc') (bs - ms') 109 [(0, .ref v0), (1, .int v1), (2, .int v2), (3, .int v3), (4, .int v4), (5, .int v5), (6, .int v6), (7, .int v7), (8, .int w0)] [.int r] Γ I' L' Q) : am_W m_L_isTree (d + 1) mc ms al bc bs 100 [(0, .ref v0), (1, .int v1), (2, .int v2), (3, .int v3), (4, .int v4), (5, .int v5), (6, .int v6), (7, .int v7)] [.int w0] Γ I L Q := by
  refine aw_istore (ls' := [(0, .ref v0), (1, .int v1), (2, .int v2), (3, .int v3), (4, .int v4), (5, .int v5), (6, .int v6), (7, .int v7), (8, .int w0)]) dL_isTree_100 (by decide) rfl ?_
  refine aw_aload_n dL_isTree_102 rfl ?_
  refine aw_iload_n dL_isTree_103 rfl ?_
  refine aw_iload dL_isTree_104 rfl ?_
  exact aw_askSW (as := [.ref v0, .int v1, .int v5]) (rst := []) kw_L_noChild (by decide) rfl l_L_159 t_L_noChild dL_isTree_106 rfl (Nat.le_of_ble_eq_true rfl) hbc hbs hC rfl rfl kk
theorem bL_isTree_109 {d mc ms : Nat} {al : Bool} {bc bs : Nat} {Γ : am_G} {I : am_I} {L : am_L} {Q : am_Q} {v0 : Nat} {v1 : Int32} {v2 : Int32} {v3 : Int32} {v4 : Int32} {v5 : Int32} {v6 : Int32} {v7 : Int32} {v8 : Int32} {w0 : Int32} (kt : ¬ v8 = (v5 + 1) → am_W m_L_isTree d mc ms al bc bs 182 [(0, .ref v0), (1, .int v1), (2, .int v2), (3, .int v3), (4, .int v4), (5, .int v5), (6, .int v6), (7, .int v7), (8, .int v8), (9, .int w0)] [] Γ I L Q) (kf : v8 = (v5 + 1) → am_W m_L_isTree d mc ms al bc bs 120 [(0, .ref v0), (1, .int v1), (2, .int v2), (3, .int v3), (4, .int v4), (5, .int v5), (6, .int v6), (7, .int v7), (8, .int v8), (9, .int w0)] [] Γ I L Q) : am_W m_L_isTree d mc ms al bc bs 109 [(0, .ref v0), (1, .int v1), (2, .int v2), (3, .int v3), (4, .int v4), (5, .int v5), (6, .int v6), (7, .int v7), (8, .int v8)] [.int w0] Γ I L Q := by
  refine aw_istore (ls' := [(0, .ref v0), (1, .int v1), (2, .int v2), (3, .int v3), (4, .int v4), (5, .int v5), (6, .int v6), (7, .int v7), (8, .int v8), (9, .int w0)]) dL_isTree_109 (by decide) rfl ?_
  refine aw_iload dL_isTree_111 rfl ?_
  refine aw_iload dL_isTree_113 rfl ?_
  refine aw_iconst dL_isTree_115 ci_1 ?_
  refine aw_iadd dL_isTree_116 ?_
  exact aw_icmp_ne dL_isTree_117 (by decide) kt kf
theorem bL_isTree_120 {d mc ms : Nat} {al : Bool} {bc bs : Nat} {Γ : am_G} {I : am_I} {L : am_L} {Q : am_Q} {v0 : Nat} {v1 : Int32} {v2 : Int32} {v3 : Int32} {v4 : Int32} {v5 : Int32} {v6 : Int32} {v7 : Int32} {v8 : Int32} {v9 : Int32} (kt : v9 ≤ v8 → am_W m_L_isTree d mc ms al bc bs 182 [(0, .ref v0), (1, .int v1), (2, .int v2), (3, .int v3), (4, .int v4), (5, .int v5), (6, .int v6), (7, .int v7), (8, .int v8), (9, .int v9)] [] Γ I L Q) (kf : ¬ v9 ≤ v8 → am_W m_L_isTree d mc ms al bc bs 127 [(0, .ref v0), (1, .int v1), (2, .int v2), (3, .int v3), (4, .int v4), (5, .int v5), (6, .int v6), (7, .int v7), (8, .int v8), (9, .int v9)] [] Γ I L Q) : am_W m_L_isTree d mc ms al bc bs 120 [(0, .ref v0), (1, .int v1), (2, .int v2), (3, .int v3), (4, .int v4), (5, .int v5), (6, .int v6), (7, .int v7), (8, .int v8), (9, .int v9)] [] Γ I L Q := by
  refine aw_iload dL_isTree_120 rfl ?_
  refine aw_iload dL_isTree_122 rfl ?_
  exact aw_icmp_le dL_isTree_124 (by decide) kt kf
theorem bL_isTree_127 {d mc ms : Nat} {al : Bool} {bc bs : Nat} {Γ : am_G} {I : am_I} {L : am_L} {Q : am_Q} {v0 : Nat} {v1 : Int32} {v2 : Int32} {v3 : Int32} {v4 : Int32} {v5 : Int32} {v6 : Int32} {v7 : Int32} {v8 : Int32} {v9 : Int32} (kt : v2 ≤ v9 → am_W m_L_isTree d mc ms al bc bs 182 [(0, .ref v0), (1, .int v1), (2, .int v2), (3, .int v3), (4, .int v4), (5, .int v5), (6, .int v6), (7, .int v7), (8, .int v8), (9, .int v9)] [] Γ I L Q) (kf : ¬ v2 ≤ v9 → am_W m_L_isTree d mc ms al bc bs 133 [(0, .ref v0), (1, .int v1), (2, .int v2), (3, .int v3), (4, .int v4), (5, .int v5), (6, .int v6), (7, .int v7), (8, .int v8), (9, .int v9)] [] Γ I L Q) : am_W m_L_isTree d mc ms al bc bs 127 [(0, .ref v0), (1, .int v1), (2, .int v2), (3, .int v3), (4, .int v4), (5, .int v5), (6, .int v6), (7, .int v7), (8, .int v8), (9, .int v9)] [] Γ I L Q := by
  refine aw_iload dL_isTree_127 rfl ?_
  refine aw_iload_n dL_isTree_129 rfl ?_
  exact aw_icmp_ge dL_isTree_130 (by decide) kt kf
theorem bL_isTree_133 {d mc ms : Nat} {al : Bool} {bc bs : Nat} {Γ : am_G} {I : am_I} {L : am_L} {Q : am_Q} {v0 : Nat} {v1 : Int32} {v2 : Int32} {v3 : Int32} {v4 : Int32} {v5 : Int32} {v6 : Int32} {v7 : Int32} {v8 : Int32} {v9 : Int32} {I' : am_I} {L' : am_L} {mc' : Nat} {ms' : Nat} {r : Int32} (hbc : mc' ≤ bc) (hbs : ms' ≤ bs) (hC : am_E m_L_leafToll d mc' ms' [.ref v0, .int v1, .int v5] Γ I L (.inl (some (.int r))) I' L') (kk : am_W m_L_isTree (d + 1) mc ms al (bc - mc') (bs - ms') 140 [(0, .ref v0), (1, .int v1), (2, .int v2), (3, .int v3), (4, .int v4), (5, .int v5), (6, .int v6), (7, .int v7), (8, .int v8), (9, .int v9)] [.int r] Γ I' L' Q) : am_W m_L_isTree (d + 1) mc ms al bc bs 133 [(0, .ref v0), (1, .int v1), (2, .int v2), (3, .int v3), (4, .int v4), (5, .int v5), (6, .int v6), (7, .int v7), (8, .int v8), (9, .int v9)] [] Γ I L Q := by
  refine aw_aload_n dL_isTree_133 rfl ?_
  refine aw_iload_n dL_isTree_134 rfl ?_
  refine aw_iload dL_isTree_135 rfl ?_
  exact aw_askSW (as := [.ref v0, .int v1, .int v5]) (rst := []) kw_L_leafToll (by decide) rfl l_L_155 t_L_leafToll dL_isTree_137 rfl (Nat.le_of_ble_eq_true rfl) hbc hbs hC rfl rfl kk
theorem bL_isTree_140 {d mc ms : Nat} {al : Bool} {bc bs : Nat} {Γ : am_G} {I : am_I} {L : am_L} {Q : am_Q} {v0 : Nat} {v1 : Int32} {v2 : Int32} {v3 : Int32} {v4 : Int32} {v5 : Int32} {v6 : Int32} {v7 : Int32} {v8 : Int32} {v9 : Int32} {w0 : Int32} (kt : ¬ w0 = (-1) → am_W m_L_isTree d mc ms al bc bs 182 [(0, .ref v0), (1, .int v1), (2, .int v2), (3, .int v3), (4, .int v4), (5, .int v5), (6, .int v6), (7, .int v7), (8, .int v8), (9, .int v9)] [] Γ I L Q) (kf : w0 = (-1) → am_W m_L_isTree d mc ms al bc bs 144 [(0, .ref v0), (1, .int v1), (2, .int v2), (3, .int v3), (4, .int v4), (5, .int v5), (6, .int v6), (7, .int v7), (8, .int v8), (9, .int v9)] [] Γ I L Q) : am_W m_L_isTree d mc ms al bc bs 140 [(0, .ref v0), (1, .int v1), (2, .int v2), (3, .int v3), (4, .int v4), (5, .int v5), (6, .int v6), (7, .int v7), (8, .int v8), (9, .int v9)] [.int w0] Γ I L Q := by
  refine aw_iconst dL_isTree_140 ci_m1 ?_
  exact aw_icmp_ne dL_isTree_141 (by decide) kt kf
theorem bL_isTree_144 {d mc ms : Nat} {al : Bool} {bc bs : Nat} {Γ : am_G} {I : am_I} {L : am_L} {Q : am_Q} {v0 : Nat} {v1 : Int32} {v2 : Int32} {v3 : Int32} {v4 : Int32} {v5 : Int32} {v6 : Int32} {v7 : Int32} {v8 : Int32} {v9 : Int32} {I' : am_I} {L' : am_L} {mc' : Nat} {ms' : Nat} {r : Int32} (hbc : mc' ≤ bc) (hbs : ms' ≤ bs) (hC : am_E m_L_typesAt d mc' ms' [.ref v0, .int v1, .int v8] Γ I L (.inl (some (.int r))) I' L') (kk : am_W m_L_isTree (d + 1) mc ms al (bc - mc') (bs - ms') 151 [(0, .ref v0), (1, .int v1), (2, .int v2), (3, .int v3), (4, .int v4), (5, .int v5), (6, .int v6), (7, .int v7), (8, .int v8), (9, .int v9)] [.int r] Γ I' L' Q) : am_W m_L_isTree (d + 1) mc ms al bc bs 144 [(0, .ref v0), (1, .int v1), (2, .int v2), (3, .int v3), (4, .int v4), (5, .int v5), (6, .int v6), (7, .int v7), (8, .int v8), (9, .int v9)] [] Γ I L Q := by
  refine aw_aload_n dL_isTree_144 rfl ?_
  refine aw_iload_n dL_isTree_145 rfl ?_
  refine aw_iload dL_isTree_146 rfl ?_
  exact aw_askSW (as := [.ref v0, .int v1, .int v8]) (rst := []) kw_L_typesAt (by decide) rfl l_L_153 t_L_typesAt dL_isTree_148 rfl (Nat.le_of_ble_eq_true rfl) hbc hbs hC rfl rfl kk
theorem bL_isTree_151 {d mc ms : Nat} {al : Bool} {bc bs : Nat} {Γ : am_G} {I : am_I} {L : am_L} {Q : am_Q} {v0 : Nat} {v1 : Int32} {v2 : Int32} {v3 : Int32} {v4 : Int32} {v5 : Int32} {v6 : Int32} {v7 : Int32} {v8 : Int32} {v9 : Int32} {w0 : Int32} {I' : am_I} {L' : am_L} {mc' : Nat} {ms' : Nat} {r : Int32} (hbc : mc' ≤ bc) (hbs : ms' ≤ bs) (hC : am_E m_L_typesAt d mc' ms' [.ref v0, .int v1, .int v9] Γ I L (.inl (some (.int r))) I' L') (kk : am_W m_L_isTree (d + 1) mc ms al (bc - mc') (bs - ms') 158 [(0, .ref v0), (1, .int v1), (2, .int v2), (3, .int v3), (4, .int v4), (5, .int v5), (6, .int v6), (7, .int v7), (8, .int v8), (9, .int v9)] [.int r, .int w0] Γ I' L' Q) : am_W m_L_isTree (d + 1) mc ms al bc bs 151 [(0, .ref v0), (1, .int v1), (2, .int v2), (3, .int v3), (4, .int v4), (5, .int v5), (6, .int v6), (7, .int v7), (8, .int v8), (9, .int v9)] [.int w0] Γ I L Q := by
  refine aw_aload_n dL_isTree_151 rfl ?_
  refine aw_iload_n dL_isTree_152 rfl ?_
  refine aw_iload dL_isTree_153 rfl ?_
  exact aw_askSW (as := [.ref v0, .int v1, .int v9]) (rst := [.int w0]) kw_L_typesAt (by decide) rfl l_L_153 t_L_typesAt dL_isTree_155 rfl (Nat.le_of_ble_eq_true rfl) hbc hbs hC rfl rfl kk
theorem bL_isTree_158 {d mc ms : Nat} {al : Bool} {bc bs : Nat} {Γ : am_G} {I : am_I} {L : am_L} {Q : am_Q} {v0 : Nat} {v1 : Int32} {v2 : Int32} {v3 : Int32} {v4 : Int32} {v5 : Int32} {v6 : Int32} {v7 : Int32} {v8 : Int32} {v9 : Int32} {w0 : Int32} {w1 : Int32} (kt : ¬ (w0 &&& w1) = 0 → am_W m_L_isTree d mc ms al bc bs 182 [(0, .ref v0), (1, .int v1), (2, .int v2), (3, .int v3), (4, .int v4), (5, .int v5), (6, .int v6), (7, .int v7), (8, .int v8), (9, .int v9)] [] Γ I L Q) (kf : (w0 &&& w1) = 0 → am_W m_L_isTree d mc ms al bc bs 162 [(0, .ref v0), (1, .int v1), (2, .int v2), (3, .int v3), (4, .int v4), (5, .int v5), (6, .int v6), (7, .int v7), (8, .int v8), (9, .int v9)] [] Γ I L Q) : am_W m_L_isTree d mc ms al bc bs 158 [(0, .ref v0), (1, .int v1), (2, .int v2), (3, .int v3), (4, .int v4), (5, .int v5), (6, .int v6), (7, .int v7), (8, .int v8), (9, .int v9)] [.int w1, .int w0] Γ I L Q := by
  refine aw_iand dL_isTree_158 ?_
  exact aw_if_ne dL_isTree_159 (by decide) kt kf
theorem bL_isTree_162 {d mc ms : Nat} {al : Bool} {bc bs : Nat} {Γ : am_G} {I : am_I} {L : am_L} {Q : am_Q} {v0 : Nat} {v1 : Int32} {v2 : Int32} {v3 : Int32} {v4 : Int32} {v5 : Int32} {v6 : Int32} {v7 : Int32} {v8 : Int32} {v9 : Int32} {I' : am_I} {L' : am_L} {mc' : Nat} {ms' : Nat} {r : Int32} (hbc : mc' ≤ bc) (hbs : ms' ≤ bs) (hC : am_E m_L_typesAt d mc' ms' [.ref v0, .int v1, .int v8] Γ I L (.inl (some (.int r))) I' L') (kk : am_W m_L_isTree (d + 1) mc ms al (bc - mc') (bs - ms') 169 [(0, .ref v0), (1, .int v1), (2, .int v2), (3, .int v3), (4, .int v4), (5, .int v5), (6, .int v6), (7, .int v7), (8, .int v8), (9, .int v9)] [.int r] Γ I' L' Q) : am_W m_L_isTree (d + 1) mc ms al bc bs 162 [(0, .ref v0), (1, .int v1), (2, .int v2), (3, .int v3), (4, .int v4), (5, .int v5), (6, .int v6), (7, .int v7), (8, .int v8), (9, .int v9)] [] Γ I L Q := by
  refine aw_aload_n dL_isTree_162 rfl ?_
  refine aw_iload_n dL_isTree_163 rfl ?_
  refine aw_iload dL_isTree_164 rfl ?_
  exact aw_askSW (as := [.ref v0, .int v1, .int v8]) (rst := []) kw_L_typesAt (by decide) rfl l_L_153 t_L_typesAt dL_isTree_166 rfl (Nat.le_of_ble_eq_true rfl) hbc hbs hC rfl rfl kk
theorem bL_isTree_169 {d mc ms : Nat} {al : Bool} {bc bs : Nat} {Γ : am_G} {I : am_I} {L : am_L} {Q : am_Q} {v0 : Nat} {v1 : Int32} {v2 : Int32} {v3 : Int32} {v4 : Int32} {v5 : Int32} {v6 : Int32} {v7 : Int32} {v8 : Int32} {v9 : Int32} {w0 : Int32} {I' : am_I} {L' : am_L} {mc' : Nat} {ms' : Nat} {r : Int32} (hbc : mc' ≤ bc) (hbs : ms' ≤ bs) (hC : am_E m_L_typesAt d mc' ms' [.ref v0, .int v1, .int v9] Γ I L (.inl (some (.int r))) I' L') (kk : am_W m_L_isTree (d + 1) mc ms al (bc - mc') (bs - ms') 176 [(0, .ref v0), (1, .int v1), (2, .int v2), (3, .int v3), (4, .int v4), (5, .int v5), (6, .int v6), (7, .int v7), (8, .int v8), (9, .int v9)] [.int r, .int w0] Γ I' L' Q) : am_W m_L_isTree (d + 1) mc ms al bc bs 169 [(0, .ref v0), (1, .int v1), (2, .int v2), (3, .int v3), (4, .int v4), (5, .int v5), (6, .int v6), (7, .int v7), (8, .int v8), (9, .int v9)] [.int w0] Γ I L Q := by
  refine aw_aload_n dL_isTree_169 rfl ?_
  refine aw_iload_n dL_isTree_170 rfl ?_
  refine aw_iload dL_isTree_171 rfl ?_
  exact aw_askSW (as := [.ref v0, .int v1, .int v9]) (rst := [.int w0]) kw_L_typesAt (by decide) rfl l_L_153 t_L_typesAt dL_isTree_173 rfl (Nat.le_of_ble_eq_true rfl) hbc hbs hC rfl rfl kk
theorem bL_isTree_176 {d mc ms : Nat} {al : Bool} {bc bs : Nat} {Γ : am_G} {I : am_I} {L : am_L} {Q : am_Q} {v0 : Nat} {v1 : Int32} {v2 : Int32} {v3 : Int32} {v4 : Int32} {v5 : Int32} {v6 : Int32} {v7 : Int32} {v8 : Int32} {v9 : Int32} {w0 : Int32} {w1 : Int32} (kt : (w0 + w1) = v7 → am_W m_L_isTree d mc ms al bc bs 184 [(0, .ref v0), (1, .int v1), (2, .int v2), (3, .int v3), (4, .int v4), (5, .int v5), (6, .int v6), (7, .int v7), (8, .int v8), (9, .int v9)] [] Γ I L Q) (kf : ¬ (w0 + w1) = v7 → am_W m_L_isTree d mc ms al bc bs 182 [(0, .ref v0), (1, .int v1), (2, .int v2), (3, .int v3), (4, .int v4), (5, .int v5), (6, .int v6), (7, .int v7), (8, .int v8), (9, .int v9)] [] Γ I L Q) : am_W m_L_isTree d mc ms al bc bs 176 [(0, .ref v0), (1, .int v1), (2, .int v2), (3, .int v3), (4, .int v4), (5, .int v5), (6, .int v6), (7, .int v7), (8, .int v8), (9, .int v9)] [.int w1, .int w0] Γ I L Q := by
  refine aw_iadd dL_isTree_176 ?_
  refine aw_iload dL_isTree_177 rfl ?_
  exact aw_icmp_eq dL_isTree_179 (by decide) kt kf
theorem bL_isTree_182 {d mc ms : Nat} {al : Bool} {bc bs : Nat} {Γ : am_G} {I : am_I} {L : am_L} {Q : am_Q} {v0 : Nat} {v1 : Int32} {v2 : Int32} {v3 : Int32} {v4 : Int32} {v5 : Int32} {v6 : Int32} {v7 : Int32} {v8 : Int32} {v9 : Int32} (hq : Q (.inl (some (.int 0))) Γ I L) : am_W m_L_isTree d mc ms al bc bs 182 [(0, .ref v0), (1, .int v1), (2, .int v2), (3, .int v3), (4, .int v4), (5, .int v5), (6, .int v6), (7, .int v7), (8, .int v8), (9, .int v9)] [] Γ I L Q := by
  refine aw_iconst dL_isTree_182 ci_0 ?_
  exact aw_zret (ty := .boolean) dL_isTree_183 rfl rfl hq
theorem bL_isTree_184 {d mc ms : Nat} {al : Bool} {bc bs : Nat} {Γ : am_G} {I : am_I} {L : am_L} {Q : am_Q} {v0 : Nat} {v1 : Int32} {v2 : Int32} {v3 : Int32} {v4 : Int32} {v5 : Int32} {v6 : Int32} {v7 : Int32} (kk : am_W m_L_isTree d mc ms al bc bs 14 [(0, .ref v0), (1, .int v1), (2, .int v2), (3, .int v3), (4, .int v4), (5, .int (v5 + 1)), (6, .int v6), (7, .int v7)] [] Γ I L Q) : am_W m_L_isTree d mc ms al bc bs 184 [(0, .ref v0), (1, .int v1), (2, .int v2), (3, .int v3), (4, .int v4), (5, .int v5), (6, .int v6), (7, .int v7)] [] Γ I L Q := by
  refine aw_iinc (ls' := [(0, .ref v0), (1, .int v1), (2, .int v2), (3, .int v3), (4, .int v4), (5, .int (v5 + 1)), (6, .int v6), (7, .int v7)]) dL_isTree_184 rfl (cn_1 _) (by decide) rfl ?_
  exact aw_goto dL_isTree_187 (by decide) kk
theorem bL_isTree_190 {d mc ms : Nat} {al : Bool} {bc bs : Nat} {Γ : am_G} {I : am_I} {L : am_L} {Q : am_Q} {v0 : Nat} {v1 : Int32} {v2 : Int32} {v3 : Int32} {v4 : Int32} {v5 : Int32} {I' : am_I} {L' : am_L} {mc' : Nat} {ms' : Nat} {r : Int32} (hbc : mc' ≤ bc) (hbs : ms' ≤ bs) (hC : am_E m_L_typesAt d mc' ms' [.ref v0, .int v1, .int 0] Γ I L (.inl (some (.int r))) I' L') (kk : am_W m_L_isTree (d + 1) mc ms al (bc - mc') (bs - ms') 198 [(0, .ref v0), (1, .int v1), (2, .int v2), (3, .int v3), (4, .int v4), (5, .int v5)] [.int r, .int v4] Γ I' L' Q) : am_W m_L_isTree (d + 1) mc ms al bc bs 190 [(0, .ref v0), (1, .int v1), (2, .int v2), (3, .int v3), (4, .int v4), (5, .int v5)] [] Γ I L Q := by
  refine aw_iload dL_isTree_190 rfl ?_
  refine aw_aload_n dL_isTree_192 rfl ?_
  refine aw_iload_n dL_isTree_193 rfl ?_
  refine aw_iconst dL_isTree_194 ci_0 ?_
  exact aw_askSW (as := [.ref v0, .int v1, .int 0]) (rst := [.int v4]) kw_L_typesAt (by decide) rfl l_L_153 t_L_typesAt dL_isTree_195 rfl (Nat.le_of_ble_eq_true rfl) hbc hbs hC rfl rfl kk
theorem bL_isTree_198 {d mc ms : Nat} {al : Bool} {bc bs : Nat} {Γ : am_G} {I : am_I} {L : am_L} {Q : am_Q} {v0 : Nat} {v1 : Int32} {v2 : Int32} {v3 : Int32} {v4 : Int32} {v5 : Int32} {w0 : Int32} {w1 : Int32} (kt : ¬ w0 = w1 → am_W m_L_isTree d mc ms al bc bs 234 [(0, .ref v0), (1, .int v1), (2, .int v2), (3, .int v3), (4, .int v4), (5, .int v5)] [] Γ I L Q) (kf : w0 = w1 → am_W m_L_isTree d mc ms al bc bs 201 [(0, .ref v0), (1, .int v1), (2, .int v2), (3, .int v3), (4, .int v4), (5, .int v5)] [] Γ I L Q) : am_W m_L_isTree d mc ms al bc bs 198 [(0, .ref v0), (1, .int v1), (2, .int v2), (3, .int v3), (4, .int v4), (5, .int v5)] [.int w1, .int w0] Γ I L Q := by
  exact aw_icmp_ne dL_isTree_198 (by decide) kt kf
theorem bL_isTree_201 {d mc ms : Nat} {al : Bool} {bc bs : Nat} {Γ : am_G} {I : am_I} {L : am_L} {Q : am_Q} {v0 : Nat} {v1 : Int32} {v2 : Int32} {v3 : Int32} {v4 : Int32} {v5 : Int32} {I' : am_I} {L' : am_L} {mc' : Nat} {ms' : Nat} {r : Int32} (o1 : am_ob Γ v0 8) (hbc : mc' ≤ bc) (hbs : ms' ≤ bs) (hC : am_E m_X8_typeCount d mc' ms' [.ref v0] Γ I L (.inl (some (.int r))) I' L') (kk : am_W m_L_isTree (d + 1) mc ms al (bc - mc') (bs - ms') 208 [(0, .ref v0), (1, .int v1), (2, .int v2), (3, .int v3), (4, .int v4), (5, .int v5)] [.int r, .int 1, .int v4] Γ I' L' Q) : am_W m_L_isTree (d + 1) mc ms al bc bs 201 [(0, .ref v0), (1, .int v1), (2, .int v2), (3, .int v3), (4, .int v4), (5, .int v5)] [] Γ I L Q := by
  refine aw_iload dL_isTree_201 rfl ?_
  refine aw_iconst dL_isTree_203 ci_1 ?_
  refine aw_aload_n dL_isTree_204 rfl ?_
  exact aw_askV (as := []) (rst := [.int 1, .int v4]) k_X8_typeCount l_L_143 i_X8_typeCount s_X8_typeCount rfl o1 dL_isTree_205 rfl (Nat.le_of_ble_eq_true rfl) hbc hbs hC rfl rfl kk
theorem bL_isTree_208 {d mc ms : Nat} {al : Bool} {bc bs : Nat} {Γ : am_G} {I : am_I} {L : am_L} {Q : am_Q} {v0 : Nat} {v1 : Int32} {v2 : Int32} {v3 : Int32} {v4 : Int32} {v5 : Int32} {w0 : Int32} {w1 : Int32} {w2 : Int32} (kt : ¬ w0 = ((w1 <<< (w2 &&& 31)) - 1) → am_W m_L_isTree d mc ms al bc bs 234 [(0, .ref v0), (1, .int v1), (2, .int v2), (3, .int v3), (4, .int v4), (5, .int v5)] [] Γ I L Q) (kf : w0 = ((w1 <<< (w2 &&& 31)) - 1) → am_W m_L_isTree d mc ms al bc bs 214 [(0, .ref v0), (1, .int v1), (2, .int v2), (3, .int v3), (4, .int v4), (5, .int v5)] [] Γ I L Q) : am_W m_L_isTree d mc ms al bc bs 208 [(0, .ref v0), (1, .int v1), (2, .int v2), (3, .int v3), (4, .int v4), (5, .int v5)] [.int w2, .int w1, .int w0] Γ I L Q := by
  refine aw_ishl dL_isTree_208 ?_
  refine aw_iconst dL_isTree_209 ci_1 ?_
  refine aw_isub dL_isTree_210 ?_
  exact aw_icmp_ne dL_isTree_211 (by decide) kt kf
theorem bL_isTree_214 {d mc ms : Nat} {al : Bool} {bc bs : Nat} {Γ : am_G} {I : am_I} {L : am_L} {Q : am_Q} {v0 : Nat} {v1 : Int32} {v2 : Int32} {v3 : Int32} {v4 : Int32} {v5 : Int32} (kt : ¬ v2 = ((2 * v3) - 1) → am_W m_L_isTree d mc ms al bc bs 234 [(0, .ref v0), (1, .int v1), (2, .int v2), (3, .int v3), (4, .int v4), (5, .int v5)] [] Γ I L Q) (kf : v2 = ((2 * v3) - 1) → am_W m_L_isTree d mc ms al bc bs 223 [(0, .ref v0), (1, .int v1), (2, .int v2), (3, .int v3), (4, .int v4), (5, .int v5)] [] Γ I L Q) : am_W m_L_isTree d mc ms al bc bs 214 [(0, .ref v0), (1, .int v1), (2, .int v2), (3, .int v3), (4, .int v4), (5, .int v5)] [] Γ I L Q := by
  refine aw_iload_n dL_isTree_214 rfl ?_
  refine aw_iconst dL_isTree_215 ci_2 ?_
  refine aw_iload_n dL_isTree_216 rfl ?_
  refine aw_imul dL_isTree_217 ?_
  refine aw_iconst dL_isTree_218 ci_1 ?_
  refine aw_isub dL_isTree_219 ?_
  exact aw_icmp_ne dL_isTree_220 (by decide) kt kf
theorem bL_isTree_223 {d mc ms : Nat} {al : Bool} {bc bs : Nat} {Γ : am_G} {I : am_I} {L : am_L} {Q : am_Q} {v0 : Nat} {v1 : Int32} {v2 : Int32} {v3 : Int32} {v4 : Int32} {v5 : Int32} {I' : am_I} {L' : am_L} {mc' : Nat} {ms' : Nat} {r : Int32} (hbc : mc' ≤ bc) (hbs : ms' ≤ bs) (hC : am_E m_L_nodeQuestion d mc' ms' [.ref v0, .int v1, .int v2] Γ I L (.inl (some (.int r))) I' L') (kk : am_W m_L_isTree (d + 1) mc ms al (bc - mc') (bs - ms') 229 [(0, .ref v0), (1, .int v1), (2, .int v2), (3, .int v3), (4, .int v4), (5, .int v5)] [.int r] Γ I' L' Q) : am_W m_L_isTree (d + 1) mc ms al bc bs 223 [(0, .ref v0), (1, .int v1), (2, .int v2), (3, .int v3), (4, .int v4), (5, .int v5)] [] Γ I L Q := by
  refine aw_aload_n dL_isTree_223 rfl ?_
  refine aw_iload_n dL_isTree_224 rfl ?_
  refine aw_iload_n dL_isTree_225 rfl ?_
  exact aw_askSW (as := [.ref v0, .int v1, .int v2]) (rst := []) kw_L_nodeQuestion (by decide) rfl l_L_151 t_L_nodeQuestion dL_isTree_226 rfl (Nat.le_of_ble_eq_true rfl) hbc hbs hC rfl rfl kk
theorem bL_isTree_229 {d mc ms : Nat} {al : Bool} {bc bs : Nat} {Γ : am_G} {I : am_I} {L : am_L} {Q : am_Q} {v0 : Nat} {v1 : Int32} {v2 : Int32} {v3 : Int32} {v4 : Int32} {v5 : Int32} {w0 : Int32} (kt : w0 = (-17) → am_W m_L_isTree d mc ms al bc bs 236 [(0, .ref v0), (1, .int v1), (2, .int v2), (3, .int v3), (4, .int v4), (5, .int v5)] [] Γ I L Q) (kf : ¬ w0 = (-17) → am_W m_L_isTree d mc ms al bc bs 234 [(0, .ref v0), (1, .int v1), (2, .int v2), (3, .int v3), (4, .int v4), (5, .int v5)] [] Γ I L Q) : am_W m_L_isTree d mc ms al bc bs 229 [(0, .ref v0), (1, .int v1), (2, .int v2), (3, .int v3), (4, .int v4), (5, .int v5)] [.int w0] Γ I L Q := by
  refine aw_bipush dL_isTree_229 cb_m17 ?_
  exact aw_icmp_eq dL_isTree_231 (by decide) kt kf
theorem bL_isTree_234 {d mc ms : Nat} {al : Bool} {bc bs : Nat} {Γ : am_G} {I : am_I} {L : am_L} {Q : am_Q} {v0 : Nat} {v1 : Int32} {v2 : Int32} {v3 : Int32} {v4 : Int32} {v5 : Int32} (hq : Q (.inl (some (.int 0))) Γ I L) : am_W m_L_isTree d mc ms al bc bs 234 [(0, .ref v0), (1, .int v1), (2, .int v2), (3, .int v3), (4, .int v4), (5, .int v5)] [] Γ I L Q := by
  refine aw_iconst dL_isTree_234 ci_0 ?_
  exact aw_zret (ty := .boolean) dL_isTree_235 rfl rfl hq
theorem bL_isTree_236 {d mc ms : Nat} {al : Bool} {bc bs : Nat} {Γ : am_G} {I : am_I} {L : am_L} {Q : am_Q} {v0 : Nat} {v1 : Int32} {v2 : Int32} {v3 : Int32} {v4 : Int32} {v5 : Int32} (kk : am_W m_L_isTree d mc ms al bc bs 245 [(0, .ref v0), (1, .int v1), (2, .int v2), (3, .int v3), (4, .int v4), (5, .int 0), (6, .int 0), (7, .int 0)] [] Γ I L Q) : am_W m_L_isTree d mc ms al bc bs 236 [(0, .ref v0), (1, .int v1), (2, .int v2), (3, .int v3), (4, .int v4), (5, .int v5)] [] Γ I L Q := by
  refine aw_iconst dL_isTree_236 ci_0 ?_
  refine aw_istore (ls' := [(0, .ref v0), (1, .int v1), (2, .int v2), (3, .int v3), (4, .int v4), (5, .int 0)]) dL_isTree_237 (by decide) rfl ?_
  refine aw_iconst dL_isTree_239 ci_0 ?_
  refine aw_istore (ls' := [(0, .ref v0), (1, .int v1), (2, .int v2), (3, .int v3), (4, .int v4), (5, .int 0), (6, .int 0)]) dL_isTree_240 (by decide) rfl ?_
  refine aw_iconst dL_isTree_242 ci_0 ?_
  refine aw_istore (ls' := [(0, .ref v0), (1, .int v1), (2, .int v2), (3, .int v3), (4, .int v4), (5, .int 0), (6, .int 0), (7, .int 0)]) dL_isTree_243 (by decide) rfl ?_
  exact kk
theorem bL_isTree_245 {d mc ms : Nat} {al : Bool} {bc bs : Nat} {Γ : am_G} {I : am_I} {L : am_L} {Q : am_Q} {v0 : Nat} {v1 : Int32} {v2 : Int32} {v3 : Int32} {v4 : Int32} {v5 : Int32} {v6 : Int32} {v7 : Int32} {I' : am_I} {L' : am_L} {mc' : Nat} {ms' : Nat} {r : Int32} (o1 : am_ob Γ v0 8) (hbc : mc' ≤ bc) (hbs : ms' ≤ bs) (hC : am_E m_X8_typeCount d mc' ms' [.ref v0] Γ I L (.inl (some (.int r))) I' L') (kk : am_W m_L_isTree (d + 1) mc ms al (bc - mc') (bs - ms') 251 [(0, .ref v0), (1, .int v1), (2, .int v2), (3, .int v3), (4, .int v4), (5, .int v5), (6, .int v6), (7, .int v7)] [.int r, .int v7] Γ I' L' Q) : am_W m_L_isTree (d + 1) mc ms al bc bs 245 [(0, .ref v0), (1, .int v1), (2, .int v2), (3, .int v3), (4, .int v4), (5, .int v5), (6, .int v6), (7, .int v7)] [] Γ I L Q := by
  refine aw_iload dL_isTree_245 rfl ?_
  refine aw_aload_n dL_isTree_247 rfl ?_
  exact aw_askV (as := []) (rst := [.int v7]) k_X8_typeCount l_L_143 i_X8_typeCount s_X8_typeCount rfl o1 dL_isTree_248 rfl (Nat.le_of_ble_eq_true rfl) hbc hbs hC rfl rfl kk
theorem bL_isTree_251 {d mc ms : Nat} {al : Bool} {bc bs : Nat} {Γ : am_G} {I : am_I} {L : am_L} {Q : am_Q} {v0 : Nat} {v1 : Int32} {v2 : Int32} {v3 : Int32} {v4 : Int32} {v5 : Int32} {v6 : Int32} {v7 : Int32} {w0 : Int32} {w1 : Int32} (kt : w1 ≤ w0 → am_W m_L_isTree d mc ms al bc bs 469 [(0, .ref v0), (1, .int v1), (2, .int v2), (3, .int v3), (4, .int v4), (5, .int v5), (6, .int v6), (7, .int v7)] [] Γ I L Q) (kf : ¬ w1 ≤ w0 → am_W m_L_isTree d mc ms al bc bs 254 [(0, .ref v0), (1, .int v1), (2, .int v2), (3, .int v3), (4, .int v4), (5, .int v5), (6, .int v6), (7, .int v7)] [] Γ I L Q) : am_W m_L_isTree d mc ms al bc bs 251 [(0, .ref v0), (1, .int v1), (2, .int v2), (3, .int v3), (4, .int v4), (5, .int v5), (6, .int v6), (7, .int v7)] [.int w1, .int w0] Γ I L Q := by
  exact aw_icmp_ge dL_isTree_251 (by decide) kt kf
theorem bL_isTree_254 {d mc ms : Nat} {al : Bool} {bc bs : Nat} {Γ : am_G} {I : am_I} {L : am_L} {Q : am_Q} {v0 : Nat} {v1 : Int32} {v2 : Int32} {v3 : Int32} {v4 : Int32} {v5 : Int32} {v6 : Int32} {v7 : Int32} (kk : am_W m_L_isTree d mc ms al bc bs 260 [(0, .ref v0), (1, .int v1), (2, .int v2), (3, .int v3), (4, .int v4), (5, .int v5), (6, .int v6), (7, .int v7), (8, .int 0), (9, .int 0)] [] Γ I L Q) : am_W m_L_isTree d mc ms al bc bs 254 [(0, .ref v0), (1, .int v1), (2, .int v2), (3, .int v3), (4, .int v4), (5, .int v5), (6, .int v6), (7, .int v7)] [] Γ I L Q := by
  refine aw_iconst dL_isTree_254 ci_0 ?_
  refine aw_istore (ls' := [(0, .ref v0), (1, .int v1), (2, .int v2), (3, .int v3), (4, .int v4), (5, .int v5), (6, .int v6), (7, .int v7), (8, .int 0)]) dL_isTree_255 (by decide) rfl ?_
  refine aw_iconst dL_isTree_257 ci_0 ?_
  refine aw_istore (ls' := [(0, .ref v0), (1, .int v1), (2, .int v2), (3, .int v3), (4, .int v4), (5, .int v5), (6, .int v6), (7, .int v7), (8, .int 0), (9, .int 0)]) dL_isTree_258 (by decide) rfl ?_
  exact kk
theorem bL_isTree_260 {d mc ms : Nat} {al : Bool} {bc bs : Nat} {Γ : am_G} {I : am_I} {L : am_L} {Q : am_Q} {v0 : Nat} {v1 : Int32} {v2 : Int32} {v3 : Int32} {v4 : Int32} {v5 : Int32} {v6 : Int32} {v7 : Int32} {v8 : Int32} {v9 : Int32} {I' : am_I} {L' : am_L} {mc' : Nat} {ms' : Nat} {r : Int32} (hbc : mc' ≤ bc) (hbs : ms' ≤ bs) (hC : am_E m_L_nodeQuestion d mc' ms' [.ref v0, .int v1, .int v8] Γ I L (.inl (some (.int r))) I' L') (kk : am_W m_L_isTree (d + 1) mc ms al (bc - mc') (bs - ms') 267 [(0, .ref v0), (1, .int v1), (2, .int v2), (3, .int v3), (4, .int v4), (5, .int v5), (6, .int v6), (7, .int v7), (8, .int v8), (9, .int v9)] [.int r] Γ I' L' Q) : am_W m_L_isTree (d + 1) mc ms al bc bs 260 [(0, .ref v0), (1, .int v1), (2, .int v2), (3, .int v3), (4, .int v4), (5, .int v5), (6, .int v6), (7, .int v7), (8, .int v8), (9, .int v9)] [] Γ I L Q := by
  refine aw_aload_n dL_isTree_260 rfl ?_
  refine aw_iload_n dL_isTree_261 rfl ?_
  refine aw_iload dL_isTree_262 rfl ?_
  exact aw_askSW (as := [.ref v0, .int v1, .int v8]) (rst := []) kw_L_nodeQuestion (by decide) rfl l_L_151 t_L_nodeQuestion dL_isTree_264 rfl (Nat.le_of_ble_eq_true rfl) hbc hbs hC rfl rfl kk
theorem bL_isTree_267 {d mc ms : Nat} {al : Bool} {bc bs : Nat} {Γ : am_G} {I : am_I} {L : am_L} {Q : am_Q} {v0 : Nat} {v1 : Int32} {v2 : Int32} {v3 : Int32} {v4 : Int32} {v5 : Int32} {v6 : Int32} {v7 : Int32} {v8 : Int32} {v9 : Int32} {w0 : Int32} (kt : w0 < 0 → am_W m_L_isTree d mc ms al bc bs 343 [(0, .ref v0), (1, .int v1), (2, .int v2), (3, .int v3), (4, .int v4), (5, .int v5), (6, .int v6), (7, .int v7), (8, .int v8), (9, .int v9)] [] Γ I L Q) (kf : ¬ w0 < 0 → am_W m_L_isTree d mc ms al bc bs 270 [(0, .ref v0), (1, .int v1), (2, .int v2), (3, .int v3), (4, .int v4), (5, .int v5), (6, .int v6), (7, .int v7), (8, .int v8), (9, .int v9)] [] Γ I L Q) : am_W m_L_isTree d mc ms al bc bs 267 [(0, .ref v0), (1, .int v1), (2, .int v2), (3, .int v3), (4, .int v4), (5, .int v5), (6, .int v6), (7, .int v7), (8, .int v8), (9, .int v9)] [.int w0] Γ I L Q := by
  exact aw_if_lt dL_isTree_267 (by decide) kt kf
theorem bL_isTree_270 {d mc ms : Nat} {al : Bool} {bc bs : Nat} {Γ : am_G} {I : am_I} {L : am_L} {Q : am_Q} {v0 : Nat} {v1 : Int32} {v2 : Int32} {v3 : Int32} {v4 : Int32} {v5 : Int32} {v6 : Int32} {v7 : Int32} {v8 : Int32} {v9 : Int32} {I' : am_I} {L' : am_L} {mc' : Nat} {ms' : Nat} {r : Int32} (hbc : mc' ≤ bc) (hbs : ms' ≤ bs) (hC : am_E m_L_typesAt d mc' ms' [.ref v0, .int v1, .int v8] Γ I L (.inl (some (.int r))) I' L') (kk : am_W m_L_isTree (d + 1) mc ms al (bc - mc') (bs - ms') 277 [(0, .ref v0), (1, .int v1), (2, .int v2), (3, .int v3), (4, .int v4), (5, .int v5), (6, .int v6), (7, .int v7), (8, .int v8), (9, .int v9)] [.int r] Γ I' L' Q) : am_W m_L_isTree (d + 1) mc ms al bc bs 270 [(0, .ref v0), (1, .int v1), (2, .int v2), (3, .int v3), (4, .int v4), (5, .int v5), (6, .int v6), (7, .int v7), (8, .int v8), (9, .int v9)] [] Γ I L Q := by
  refine aw_aload_n dL_isTree_270 rfl ?_
  refine aw_iload_n dL_isTree_271 rfl ?_
  refine aw_iload dL_isTree_272 rfl ?_
  exact aw_askSW (as := [.ref v0, .int v1, .int v8]) (rst := []) kw_L_typesAt (by decide) rfl l_L_153 t_L_typesAt dL_isTree_274 rfl (Nat.le_of_ble_eq_true rfl) hbc hbs hC rfl rfl kk
theorem bL_isTree_277 {d mc ms : Nat} {al : Bool} {bc bs : Nat} {Γ : am_G} {I : am_I} {L : am_L} {Q : am_Q} {v0 : Nat} {v1 : Int32} {v2 : Int32} {v3 : Int32} {v4 : Int32} {v5 : Int32} {v6 : Int32} {v7 : Int32} {v8 : Int32} {v9 : Int32} {w0 : Int32} (kt : ((w0 >>> (v7 &&& 31)) &&& 1) = 1 → am_W m_L_isTree d mc ms al bc bs 288 [(0, .ref v0), (1, .int v1), (2, .int v2), (3, .int v3), (4, .int v4), (5, .int v5), (6, .int v6), (7, .int v7), (8, .int v8), (9, .int v9)] [] Γ I L Q) (kf : ¬ ((w0 >>> (v7 &&& 31)) &&& 1) = 1 → am_W m_L_isTree d mc ms al bc bs 286 [(0, .ref v0), (1, .int v1), (2, .int v2), (3, .int v3), (4, .int v4), (5, .int v5), (6, .int v6), (7, .int v7), (8, .int v8), (9, .int v9)] [] Γ I L Q) : am_W m_L_isTree d mc ms al bc bs 277 [(0, .ref v0), (1, .int v1), (2, .int v2), (3, .int v3), (4, .int v4), (5, .int v5), (6, .int v6), (7, .int v7), (8, .int v8), (9, .int v9)] [.int w0] Γ I L Q := by
  refine aw_iload dL_isTree_277 rfl ?_
  refine aw_ishr dL_isTree_279 ?_
  refine aw_iconst dL_isTree_280 ci_1 ?_
  refine aw_iand dL_isTree_281 ?_
  refine aw_iconst dL_isTree_282 ci_1 ?_
  exact aw_icmp_eq dL_isTree_283 (by decide) kt kf
theorem bL_isTree_286 {d mc ms : Nat} {al : Bool} {bc bs : Nat} {Γ : am_G} {I : am_I} {L : am_L} {Q : am_Q} {v0 : Nat} {v1 : Int32} {v2 : Int32} {v3 : Int32} {v4 : Int32} {v5 : Int32} {v6 : Int32} {v7 : Int32} {v8 : Int32} {v9 : Int32} (hq : Q (.inl (some (.int 0))) Γ I L) : am_W m_L_isTree d mc ms al bc bs 286 [(0, .ref v0), (1, .int v1), (2, .int v2), (3, .int v3), (4, .int v4), (5, .int v5), (6, .int v6), (7, .int v7), (8, .int v8), (9, .int v9)] [] Γ I L Q := by
  refine aw_iconst dL_isTree_286 ci_0 ?_
  exact aw_zret (ty := .boolean) dL_isTree_287 rfl rfl hq
theorem bL_isTree_288 {d mc ms : Nat} {al : Bool} {bc bs : Nat} {Γ : am_G} {I : am_I} {L : am_L} {Q : am_Q} {v0 : Nat} {v1 : Int32} {v2 : Int32} {v3 : Int32} {v4 : Int32} {v5 : Int32} {v6 : Int32} {v7 : Int32} {v8 : Int32} {v9 : Int32} {I' : am_I} {L' : am_L} {mc' : Nat} {ms' : Nat} {r : Int32} (hbc : mc' ≤ bc) (hbs : ms' ≤ bs) (hC : am_E m_L_nodeQuestion d mc' ms' [.ref v0, .int v1, .int v8] Γ I L (.inl (some (.int r))) I' L') (kk : am_W m_L_isTree (d + 1) mc ms al (bc - mc') (bs - ms') 298 [(0, .ref v0), (1, .int v1), (2, .int v2), (3, .int v3), (4, .int v4), (5, .int v5), (6, .int v6), (7, .int v7), (8, .int v8), (9, .int v9)] [.int r, .ref v0, .int v9] Γ I' L' Q) : am_W m_L_isTree (d + 1) mc ms al bc bs 288 [(0, .ref v0), (1, .int v1), (2, .int v2), (3, .int v3), (4, .int v4), (5, .int v5), (6, .int v6), (7, .int v7), (8, .int v8), (9, .int v9)] [] Γ I L Q := by
  refine aw_iload dL_isTree_288 rfl ?_
  refine aw_aload_n dL_isTree_290 rfl ?_
  refine aw_aload_n dL_isTree_291 rfl ?_
  refine aw_iload_n dL_isTree_292 rfl ?_
  refine aw_iload dL_isTree_293 rfl ?_
  exact aw_askSW (as := [.ref v0, .int v1, .int v8]) (rst := [.ref v0, .int v9]) kw_L_nodeQuestion (by decide) rfl l_L_151 t_L_nodeQuestion dL_isTree_295 rfl (Nat.le_of_ble_eq_true rfl) hbc hbs hC rfl rfl kk
theorem bL_isTree_298 {d mc ms : Nat} {al : Bool} {bc bs : Nat} {Γ : am_G} {I : am_I} {L : am_L} {Q : am_Q} {v0 : Nat} {v1 : Int32} {v2 : Int32} {v3 : Int32} {v4 : Int32} {v5 : Int32} {v6 : Int32} {v7 : Int32} {v8 : Int32} {v9 : Int32} {w0 : Int32} {w1 : Nat} {w2 : Int32} {I' : am_I} {L' : am_L} {mc' : Nat} {ms' : Nat} {r : Int32} (hbc : mc' ≤ bc) (hbs : ms' ≤ bs) (hC : am_E m_L_questionCost d mc' ms' [.ref w1, .int w2] Γ I L (.inl (some (.int r))) I' L') (kk : am_W m_L_isTree (d + 1) mc ms al (bc - mc') (bs - ms') 301 [(0, .ref v0), (1, .int v1), (2, .int v2), (3, .int v3), (4, .int v4), (5, .int v5), (6, .int v6), (7, .int v7), (8, .int v8), (9, .int v9)] [.int r, .int w0] Γ I' L' Q) : am_W m_L_isTree (d + 1) mc ms al bc bs 298 [(0, .ref v0), (1, .int v1), (2, .int v2), (3, .int v3), (4, .int v4), (5, .int v5), (6, .int v6), (7, .int v7), (8, .int v8), (9, .int v9)] [.int w2, .ref w1, .int w0] Γ I L Q := by
  exact aw_askSW (as := [.ref w1, .int w2]) (rst := [.int w0]) kw_L_questionCost (by decide) rfl l_L_161 t_L_questionCost dL_isTree_298 rfl (Nat.le_of_ble_eq_true rfl) hbc hbs hC rfl rfl kk
theorem bL_isTree_301 {d mc ms : Nat} {al : Bool} {bc bs : Nat} {Γ : am_G} {I : am_I} {L : am_L} {Q : am_Q} {v0 : Nat} {v1 : Int32} {v2 : Int32} {v3 : Int32} {v4 : Int32} {v5 : Int32} {v6 : Int32} {v7 : Int32} {v8 : Int32} {v9 : Int32} {w0 : Int32} {w1 : Int32} {I' : am_I} {L' : am_L} {mc' : Nat} {ms' : Nat} {r : Int32} (hbc : mc' ≤ bc) (hbs : ms' ≤ bs) (hC : am_E m_L_nodeQuestion d mc' ms' [.ref v0, .int v1, .int v8] Γ I L (.inl (some (.int r))) I' L') (kk : am_W m_L_isTree (d + 1) mc ms al (bc - mc') (bs - ms') 314 [(0, .ref v0), (1, .int v1), (2, .int v2), (3, .int v3), (4, .int v4), (5, .int v5), (6, .int v6), (7, .int v7), (8, .int v8), (9, .int (w0 + w1))] [.int r, .int v7, .ref v0] Γ I' L' Q) : am_W m_L_isTree (d + 1) mc ms al bc bs 301 [(0, .ref v0), (1, .int v1), (2, .int v2), (3, .int v3), (4, .int v4), (5, .int v5), (6, .int v6), (7, .int v7), (8, .int v8), (9, .int v9)] [.int w1, .int w0] Γ I L Q := by
  refine aw_iadd dL_isTree_301 ?_
  refine aw_istore (ls' := [(0, .ref v0), (1, .int v1), (2, .int v2), (3, .int v3), (4, .int v4), (5, .int v5), (6, .int v6), (7, .int v7), (8, .int v8), (9, .int (w0 + w1))]) dL_isTree_302 (by decide) rfl ?_
  refine aw_aload_n dL_isTree_304 rfl ?_
  refine aw_iload dL_isTree_305 rfl ?_
  refine aw_aload_n dL_isTree_307 rfl ?_
  refine aw_iload_n dL_isTree_308 rfl ?_
  refine aw_iload dL_isTree_309 rfl ?_
  exact aw_askSW (as := [.ref v0, .int v1, .int v8]) (rst := [.int v7, .ref v0]) kw_L_nodeQuestion (by decide) rfl l_L_151 t_L_nodeQuestion dL_isTree_311 rfl (Nat.le_of_ble_eq_true rfl) hbc hbs hC rfl rfl kk
theorem bL_isTree_314 {d mc ms : Nat} {al : Bool} {bc bs : Nat} {Γ : am_G} {I : am_I} {L : am_L} {Q : am_Q} {v0 : Nat} {v1 : Int32} {v2 : Int32} {v3 : Int32} {v4 : Int32} {v5 : Int32} {v6 : Int32} {v7 : Int32} {v8 : Int32} {v9 : Int32} {w0 : Nat} {w1 : Int32} {w2 : Int32} {I' : am_I} {L' : am_L} {mc' : Nat} {ms' : Nat} {r : Int32} (hbc : mc' ≤ bc) (hbs : ms' ≤ bs) (hC : am_E m_L_hasTrait d mc' ms' [.ref w0, .int w1, .int w2] Γ I L (.inl (some (.int r))) I' L') (kk : am_W m_L_isTree (d + 1) mc ms al (bc - mc') (bs - ms') 317 [(0, .ref v0), (1, .int v1), (2, .int v2), (3, .int v3), (4, .int v4), (5, .int v5), (6, .int v6), (7, .int v7), (8, .int v8), (9, .int v9)] [.int r] Γ I' L' Q) : am_W m_L_isTree (d + 1) mc ms al bc bs 314 [(0, .ref v0), (1, .int v1), (2, .int v2), (3, .int v3), (4, .int v4), (5, .int v5), (6, .int v6), (7, .int v7), (8, .int v8), (9, .int v9)] [.int w2, .int w1, .ref w0] Γ I L Q := by
  exact aw_askSW (as := [.ref w0, .int w1, .int w2]) (rst := []) kw_L_hasTrait (by decide) rfl l_L_163 t_L_hasTrait dL_isTree_314 rfl (Nat.le_of_ble_eq_true rfl) hbc hbs hC rfl rfl kk
theorem bL_isTree_317 {d mc ms : Nat} {al : Bool} {bc bs : Nat} {Γ : am_G} {I : am_I} {L : am_L} {Q : am_Q} {v0 : Nat} {v1 : Int32} {v2 : Int32} {v3 : Int32} {v4 : Int32} {v5 : Int32} {v6 : Int32} {v7 : Int32} {v8 : Int32} {v9 : Int32} {w0 : Int32} (kt : ¬ w0 = 1 → am_W m_L_isTree d mc ms al bc bs 331 [(0, .ref v0), (1, .int v1), (2, .int v2), (3, .int v3), (4, .int v4), (5, .int v5), (6, .int v6), (7, .int v7), (8, .int v8), (9, .int v9)] [] Γ I L Q) (kf : w0 = 1 → am_W m_L_isTree d mc ms al bc bs 321 [(0, .ref v0), (1, .int v1), (2, .int v2), (3, .int v3), (4, .int v4), (5, .int v5), (6, .int v6), (7, .int v7), (8, .int v8), (9, .int v9)] [] Γ I L Q) : am_W m_L_isTree d mc ms al bc bs 317 [(0, .ref v0), (1, .int v1), (2, .int v2), (3, .int v3), (4, .int v4), (5, .int v5), (6, .int v6), (7, .int v7), (8, .int v8), (9, .int v9)] [.int w0] Γ I L Q := by
  refine aw_iconst dL_isTree_317 ci_1 ?_
  exact aw_icmp_ne dL_isTree_318 (by decide) kt kf
theorem bL_isTree_321 {d mc ms : Nat} {al : Bool} {bc bs : Nat} {Γ : am_G} {I : am_I} {L : am_L} {Q : am_Q} {v0 : Nat} {v1 : Int32} {v2 : Int32} {v3 : Int32} {v4 : Int32} {v5 : Int32} {v6 : Int32} {v7 : Int32} {v8 : Int32} {v9 : Int32} {I' : am_I} {L' : am_L} {mc' : Nat} {ms' : Nat} {r : Int32} (hbc : mc' ≤ bc) (hbs : ms' ≤ bs) (hC : am_E m_L_yesChild d mc' ms' [.ref v0, .int v1, .int v8] Γ I L (.inl (some (.int r))) I' L') (kk : am_W m_L_isTree (d + 1) mc ms al (bc - mc') (bs - ms') 328 [(0, .ref v0), (1, .int v1), (2, .int v2), (3, .int v3), (4, .int v4), (5, .int v5), (6, .int v6), (7, .int v7), (8, .int v8), (9, .int v9)] [.int r] Γ I' L' Q) : am_W m_L_isTree (d + 1) mc ms al bc bs 321 [(0, .ref v0), (1, .int v1), (2, .int v2), (3, .int v3), (4, .int v4), (5, .int v5), (6, .int v6), (7, .int v7), (8, .int v8), (9, .int v9)] [] Γ I L Q := by
  refine aw_aload_n dL_isTree_321 rfl ?_
  refine aw_iload_n dL_isTree_322 rfl ?_
  refine aw_iload dL_isTree_323 rfl ?_
  exact aw_askSW (as := [.ref v0, .int v1, .int v8]) (rst := []) kw_L_yesChild (by decide) rfl l_L_157 t_L_yesChild dL_isTree_325 rfl (Nat.le_of_ble_eq_true rfl) hbc hbs hC rfl rfl kk
theorem bL_isTree_328 {d mc ms : Nat} {al : Bool} {bc bs : Nat} {Γ : am_G} {I : am_I} {L : am_L} {Q : am_Q} {v0 : Nat} {v1 : Int32} {v2 : Int32} {v3 : Int32} {v4 : Int32} {v5 : Int32} {v6 : Int32} {v7 : Int32} {v8 : Int32} {v9 : Int32} {w0 : Int32} (kk : am_W m_L_isTree d mc ms al bc bs 338 [(0, .ref v0), (1, .int v1), (2, .int v2), (3, .int v3), (4, .int v4), (5, .int v5), (6, .int v6), (7, .int v7), (8, .int v8), (9, .int v9)] [.int w0] Γ I L Q) : am_W m_L_isTree d mc ms al bc bs 328 [(0, .ref v0), (1, .int v1), (2, .int v2), (3, .int v3), (4, .int v4), (5, .int v5), (6, .int v6), (7, .int v7), (8, .int v8), (9, .int v9)] [.int w0] Γ I L Q := by
  exact aw_goto dL_isTree_328 (by decide) kk
theorem bL_isTree_331 {d mc ms : Nat} {al : Bool} {bc bs : Nat} {Γ : am_G} {I : am_I} {L : am_L} {Q : am_Q} {v0 : Nat} {v1 : Int32} {v2 : Int32} {v3 : Int32} {v4 : Int32} {v5 : Int32} {v6 : Int32} {v7 : Int32} {v8 : Int32} {v9 : Int32} {I' : am_I} {L' : am_L} {mc' : Nat} {ms' : Nat} {r : Int32} (hbc : mc' ≤ bc) (hbs : ms' ≤ bs) (hC : am_E m_L_noChild d mc' ms' [.ref v0, .int v1, .int v8] Γ I L (.inl (some (.int r))) I' L') (kk : am_W m_L_isTree (d + 1) mc ms al (bc - mc') (bs - ms') 338 [(0, .ref v0), (1, .int v1), (2, .int v2), (3, .int v3), (4, .int v4), (5, .int v5), (6, .int v6), (7, .int v7), (8, .int v8), (9, .int v9)] [.int r] Γ I' L' Q) : am_W m_L_isTree (d + 1) mc ms al bc bs 331 [(0, .ref v0), (1, .int v1), (2, .int v2), (3, .int v3), (4, .int v4), (5, .int v5), (6, .int v6), (7, .int v7), (8, .int v8), (9, .int v9)] [] Γ I L Q := by
  refine aw_aload_n dL_isTree_331 rfl ?_
  refine aw_iload_n dL_isTree_332 rfl ?_
  refine aw_iload dL_isTree_333 rfl ?_
  exact aw_askSW (as := [.ref v0, .int v1, .int v8]) (rst := []) kw_L_noChild (by decide) rfl l_L_159 t_L_noChild dL_isTree_335 rfl (Nat.le_of_ble_eq_true rfl) hbc hbs hC rfl rfl kk
theorem bL_isTree_338 {d mc ms : Nat} {al : Bool} {bc bs : Nat} {Γ : am_G} {I : am_I} {L : am_L} {Q : am_Q} {v0 : Nat} {v1 : Int32} {v2 : Int32} {v3 : Int32} {v4 : Int32} {v5 : Int32} {v6 : Int32} {v7 : Int32} {v8 : Int32} {v9 : Int32} {w0 : Int32} (kk : am_W m_L_isTree d mc ms al bc bs 260 [(0, .ref v0), (1, .int v1), (2, .int v2), (3, .int v3), (4, .int v4), (5, .int v5), (6, .int v6), (7, .int v7), (8, .int w0), (9, .int v9)] [] Γ I L Q) : am_W m_L_isTree d mc ms al bc bs 338 [(0, .ref v0), (1, .int v1), (2, .int v2), (3, .int v3), (4, .int v4), (5, .int v5), (6, .int v6), (7, .int v7), (8, .int v8), (9, .int v9)] [.int w0] Γ I L Q := by
  refine aw_istore (ls' := [(0, .ref v0), (1, .int v1), (2, .int v2), (3, .int v3), (4, .int v4), (5, .int v5), (6, .int v6), (7, .int v7), (8, .int w0), (9, .int v9)]) dL_isTree_338 (by decide) rfl ?_
  exact aw_goto dL_isTree_340 (by decide) kk
theorem bL_isTree_343 {d mc ms : Nat} {al : Bool} {bc bs : Nat} {Γ : am_G} {I : am_I} {L : am_L} {Q : am_Q} {v0 : Nat} {v1 : Int32} {v2 : Int32} {v3 : Int32} {v4 : Int32} {v5 : Int32} {v6 : Int32} {v7 : Int32} {v8 : Int32} {v9 : Int32} {I' : am_I} {L' : am_L} {mc' : Nat} {ms' : Nat} {r : Int32} (hbc : mc' ≤ bc) (hbs : ms' ≤ bs) (hC : am_E m_L_leafOf d mc' ms' [.ref v0, .int v1, .int v7] Γ I L (.inl (some (.int r))) I' L') (kk : am_W m_L_isTree (d + 1) mc ms al (bc - mc') (bs - ms') 350 [(0, .ref v0), (1, .int v1), (2, .int v2), (3, .int v3), (4, .int v4), (5, .int v5), (6, .int v6), (7, .int v7), (8, .int v8), (9, .int v9)] [.int r] Γ I' L' Q) : am_W m_L_isTree (d + 1) mc ms al bc bs 343 [(0, .ref v0), (1, .int v1), (2, .int v2), (3, .int v3), (4, .int v4), (5, .int v5), (6, .int v6), (7, .int v7), (8, .int v8), (9, .int v9)] [] Γ I L Q := by
  refine aw_aload_n dL_isTree_343 rfl ?_
  refine aw_iload_n dL_isTree_344 rfl ?_
  refine aw_iload dL_isTree_345 rfl ?_
  exact aw_askSW (as := [.ref v0, .int v1, .int v7]) (rst := []) kw_L_leafOf (by decide) rfl l_L_165 t_L_leafOf dL_isTree_347 rfl (Nat.le_of_ble_eq_true rfl) hbc hbs hC rfl rfl kk
theorem bL_isTree_350 {d mc ms : Nat} {al : Bool} {bc bs : Nat} {Γ : am_G} {I : am_I} {L : am_L} {Q : am_Q} {v0 : Nat} {v1 : Int32} {v2 : Int32} {v3 : Int32} {v4 : Int32} {v5 : Int32} {v6 : Int32} {v7 : Int32} {v8 : Int32} {v9 : Int32} {w0 : Int32} (kt : ¬ w0 = v8 → am_W m_L_isTree d mc ms al bc bs 384 [(0, .ref v0), (1, .int v1), (2, .int v2), (3, .int v3), (4, .int v4), (5, .int v5), (6, .int v6), (7, .int v7), (8, .int v8), (9, .int v9)] [] Γ I L Q) (kf : w0 = v8 → am_W m_L_isTree d mc ms al bc bs 355 [(0, .ref v0), (1, .int v1), (2, .int v2), (3, .int v3), (4, .int v4), (5, .int v5), (6, .int v6), (7, .int v7), (8, .int v8), (9, .int v9)] [] Γ I L Q) : am_W m_L_isTree d mc ms al bc bs 350 [(0, .ref v0), (1, .int v1), (2, .int v2), (3, .int v3), (4, .int v4), (5, .int v5), (6, .int v6), (7, .int v7), (8, .int v8), (9, .int v9)] [.int w0] Γ I L Q := by
  refine aw_iload dL_isTree_350 rfl ?_
  exact aw_icmp_ne dL_isTree_352 (by decide) kt kf
theorem bL_isTree_355 {d mc ms : Nat} {al : Bool} {bc bs : Nat} {Γ : am_G} {I : am_I} {L : am_L} {Q : am_Q} {v0 : Nat} {v1 : Int32} {v2 : Int32} {v3 : Int32} {v4 : Int32} {v5 : Int32} {v6 : Int32} {v7 : Int32} {v8 : Int32} {v9 : Int32} {I' : am_I} {L' : am_L} {mc' : Nat} {ms' : Nat} {r : Int32} (hbc : mc' ≤ bc) (hbs : ms' ≤ bs) (hC : am_E m_L_pathCost d mc' ms' [.ref v0, .int v1, .int v7] Γ I L (.inl (some (.int r))) I' L') (kk : am_W m_L_isTree (d + 1) mc ms al (bc - mc') (bs - ms') 362 [(0, .ref v0), (1, .int v1), (2, .int v2), (3, .int v3), (4, .int v4), (5, .int v5), (6, .int v6), (7, .int v7), (8, .int v8), (9, .int v9)] [.int r] Γ I' L' Q) : am_W m_L_isTree (d + 1) mc ms al bc bs 355 [(0, .ref v0), (1, .int v1), (2, .int v2), (3, .int v3), (4, .int v4), (5, .int v5), (6, .int v6), (7, .int v7), (8, .int v8), (9, .int v9)] [] Γ I L Q := by
  refine aw_aload_n dL_isTree_355 rfl ?_
  refine aw_iload_n dL_isTree_356 rfl ?_
  refine aw_iload dL_isTree_357 rfl ?_
  exact aw_askSW (as := [.ref v0, .int v1, .int v7]) (rst := []) kw_L_pathCost (by decide) rfl l_L_167 t_L_pathCost dL_isTree_359 rfl (Nat.le_of_ble_eq_true rfl) hbc hbs hC rfl rfl kk
theorem bL_isTree_362 {d mc ms : Nat} {al : Bool} {bc bs : Nat} {Γ : am_G} {I : am_I} {L : am_L} {Q : am_Q} {v0 : Nat} {v1 : Int32} {v2 : Int32} {v3 : Int32} {v4 : Int32} {v5 : Int32} {v6 : Int32} {v7 : Int32} {v8 : Int32} {v9 : Int32} {w0 : Int32} (kt : ¬ w0 = v9 → am_W m_L_isTree d mc ms al bc bs 384 [(0, .ref v0), (1, .int v1), (2, .int v2), (3, .int v3), (4, .int v4), (5, .int v5), (6, .int v6), (7, .int v7), (8, .int v8), (9, .int v9)] [] Γ I L Q) (kf : w0 = v9 → am_W m_L_isTree d mc ms al bc bs 367 [(0, .ref v0), (1, .int v1), (2, .int v2), (3, .int v3), (4, .int v4), (5, .int v5), (6, .int v6), (7, .int v7), (8, .int v8), (9, .int v9)] [] Γ I L Q) : am_W m_L_isTree d mc ms al bc bs 362 [(0, .ref v0), (1, .int v1), (2, .int v2), (3, .int v3), (4, .int v4), (5, .int v5), (6, .int v6), (7, .int v7), (8, .int v8), (9, .int v9)] [.int w0] Γ I L Q := by
  refine aw_iload dL_isTree_362 rfl ?_
  exact aw_icmp_ne dL_isTree_364 (by decide) kt kf
theorem bL_isTree_367 {d mc ms : Nat} {al : Bool} {bc bs : Nat} {Γ : am_G} {I : am_I} {L : am_L} {Q : am_Q} {v0 : Nat} {v1 : Int32} {v2 : Int32} {v3 : Int32} {v4 : Int32} {v5 : Int32} {v6 : Int32} {v7 : Int32} {v8 : Int32} {v9 : Int32} {I' : am_I} {L' : am_L} {mc' : Nat} {ms' : Nat} {r : Int32} (hbc : mc' ≤ bc) (hbs : ms' ≤ bs) (hC : am_E m_L_chargedToll d mc' ms' [.ref v0, .int v1, .int v7] Γ I L (.inl (some (.int r))) I' L') (kk : am_W m_L_isTree (d + 1) mc ms al (bc - mc') (bs - ms') 374 [(0, .ref v0), (1, .int v1), (2, .int v2), (3, .int v3), (4, .int v4), (5, .int v5), (6, .int v6), (7, .int v7), (8, .int v8), (9, .int v9)] [.int r] Γ I' L' Q) : am_W m_L_isTree (d + 1) mc ms al bc bs 367 [(0, .ref v0), (1, .int v1), (2, .int v2), (3, .int v3), (4, .int v4), (5, .int v5), (6, .int v6), (7, .int v7), (8, .int v8), (9, .int v9)] [] Γ I L Q := by
  refine aw_aload_n dL_isTree_367 rfl ?_
  refine aw_iload_n dL_isTree_368 rfl ?_
  refine aw_iload dL_isTree_369 rfl ?_
  exact aw_askSW (as := [.ref v0, .int v1, .int v7]) (rst := []) kw_L_chargedToll (by decide) rfl l_L_169 t_L_chargedToll dL_isTree_371 rfl (Nat.le_of_ble_eq_true rfl) hbc hbs hC rfl rfl kk
theorem bL_isTree_374 {d mc ms : Nat} {al : Bool} {bc bs : Nat} {Γ : am_G} {I : am_I} {L : am_L} {Q : am_Q} {v0 : Nat} {v1 : Int32} {v2 : Int32} {v3 : Int32} {v4 : Int32} {v5 : Int32} {v6 : Int32} {v7 : Int32} {v8 : Int32} {v9 : Int32} {w0 : Int32} {I' : am_I} {L' : am_L} {mc' : Nat} {ms' : Nat} {r : Int32} (hbc : mc' ≤ bc) (hbs : ms' ≤ bs) (hC : am_E m_L_leafToll d mc' ms' [.ref v0, .int v1, .int v8] Γ I L (.inl (some (.int r))) I' L') (kk : am_W m_L_isTree (d + 1) mc ms al (bc - mc') (bs - ms') 381 [(0, .ref v0), (1, .int v1), (2, .int v2), (3, .int v3), (4, .int v4), (5, .int v5), (6, .int v6), (7, .int v7), (8, .int v8), (9, .int v9)] [.int r, .int w0] Γ I' L' Q) : am_W m_L_isTree (d + 1) mc ms al bc bs 374 [(0, .ref v0), (1, .int v1), (2, .int v2), (3, .int v3), (4, .int v4), (5, .int v5), (6, .int v6), (7, .int v7), (8, .int v8), (9, .int v9)] [.int w0] Γ I L Q := by
  refine aw_aload_n dL_isTree_374 rfl ?_
  refine aw_iload_n dL_isTree_375 rfl ?_
  refine aw_iload dL_isTree_376 rfl ?_
  exact aw_askSW (as := [.ref v0, .int v1, .int v8]) (rst := [.int w0]) kw_L_leafToll (by decide) rfl l_L_155 t_L_leafToll dL_isTree_378 rfl (Nat.le_of_ble_eq_true rfl) hbc hbs hC rfl rfl kk
theorem bL_isTree_381 {d mc ms : Nat} {al : Bool} {bc bs : Nat} {Γ : am_G} {I : am_I} {L : am_L} {Q : am_Q} {v0 : Nat} {v1 : Int32} {v2 : Int32} {v3 : Int32} {v4 : Int32} {v5 : Int32} {v6 : Int32} {v7 : Int32} {v8 : Int32} {v9 : Int32} {w0 : Int32} {w1 : Int32} (kt : w0 = w1 → am_W m_L_isTree d mc ms al bc bs 386 [(0, .ref v0), (1, .int v1), (2, .int v2), (3, .int v3), (4, .int v4), (5, .int v5), (6, .int v6), (7, .int v7), (8, .int v8), (9, .int v9)] [] Γ I L Q) (kf : ¬ w0 = w1 → am_W m_L_isTree d mc ms al bc bs 384 [(0, .ref v0), (1, .int v1), (2, .int v2), (3, .int v3), (4, .int v4), (5, .int v5), (6, .int v6), (7, .int v7), (8, .int v8), (9, .int v9)] [] Γ I L Q) : am_W m_L_isTree d mc ms al bc bs 381 [(0, .ref v0), (1, .int v1), (2, .int v2), (3, .int v3), (4, .int v4), (5, .int v5), (6, .int v6), (7, .int v7), (8, .int v8), (9, .int v9)] [.int w1, .int w0] Γ I L Q := by
  exact aw_icmp_eq dL_isTree_381 (by decide) kt kf
theorem bL_isTree_384 {d mc ms : Nat} {al : Bool} {bc bs : Nat} {Γ : am_G} {I : am_I} {L : am_L} {Q : am_Q} {v0 : Nat} {v1 : Int32} {v2 : Int32} {v3 : Int32} {v4 : Int32} {v5 : Int32} {v6 : Int32} {v7 : Int32} {v8 : Int32} {v9 : Int32} (hq : Q (.inl (some (.int 0))) Γ I L) : am_W m_L_isTree d mc ms al bc bs 384 [(0, .ref v0), (1, .int v1), (2, .int v2), (3, .int v3), (4, .int v4), (5, .int v5), (6, .int v6), (7, .int v7), (8, .int v8), (9, .int v9)] [] Γ I L Q := by
  refine aw_iconst dL_isTree_384 ci_0 ?_
  exact aw_zret (ty := .boolean) dL_isTree_385 rfl rfl hq
theorem bL_isTree_386 {d mc ms : Nat} {al : Bool} {bc bs : Nat} {Γ : am_G} {I : am_I} {L : am_L} {Q : am_Q} {v0 : Nat} {v1 : Int32} {v2 : Int32} {v3 : Int32} {v4 : Int32} {v5 : Int32} {v6 : Int32} {v7 : Int32} {v8 : Int32} {v9 : Int32} {I' : am_I} {L' : am_L} {mc' : Nat} {ms' : Nat} {r : Int32} (hbc : mc' ≤ bc) (hbs : ms' ≤ bs) (hC : am_E m_L_chargedToll d mc' ms' [.ref v0, .int v1, .int v7] Γ I L (.inl (some (.int r))) I' L') (kk : am_W m_L_isTree (d + 1) mc ms al (bc - mc') (bs - ms') 393 [(0, .ref v0), (1, .int v1), (2, .int v2), (3, .int v3), (4, .int v4), (5, .int v5), (6, .int v6), (7, .int v7), (8, .int v8), (9, .int v9)] [.int r] Γ I' L' Q) : am_W m_L_isTree (d + 1) mc ms al bc bs 386 [(0, .ref v0), (1, .int v1), (2, .int v2), (3, .int v3), (4, .int v4), (5, .int v5), (6, .int v6), (7, .int v7), (8, .int v8), (9, .int v9)] [] Γ I L Q := by
  refine aw_aload_n dL_isTree_386 rfl ?_
  refine aw_iload_n dL_isTree_387 rfl ?_
  refine aw_iload dL_isTree_388 rfl ?_
  exact aw_askSW (as := [.ref v0, .int v1, .int v7]) (rst := []) kw_L_chargedToll (by decide) rfl l_L_169 t_L_chargedToll dL_isTree_390 rfl (Nat.le_of_ble_eq_true rfl) hbc hbs hC rfl rfl kk
theorem bL_isTree_393 {d mc ms : Nat} {al : Bool} {bc bs : Nat} {Γ : am_G} {I : am_I} {L : am_L} {Q : am_Q} {v0 : Nat} {v1 : Int32} {v2 : Int32} {v3 : Int32} {v4 : Int32} {v5 : Int32} {v6 : Int32} {v7 : Int32} {v8 : Int32} {v9 : Int32} {w0 : Int32} {I' : am_I} {L' : am_L} {mc' : Nat} {ms' : Nat} {r : Int32} (hbc : mc' ≤ bc) (hbs : ms' ≤ bs) (hC : am_E m_L_toll d mc' ms' [.ref v0, .int v7] Γ I L (.inl (some (.int r))) I' L') (kk : am_W m_L_isTree (d + 1) mc ms al (bc - mc') (bs - ms') 399 [(0, .ref v0), (1, .int v1), (2, .int v2), (3, .int v3), (4, .int v4), (5, .int v5), (6, .int v6), (7, .int v7), (8, .int v8), (9, .int v9)] [.int r, .int w0] Γ I' L' Q) : am_W m_L_isTree (d + 1) mc ms al bc bs 393 [(0, .ref v0), (1, .int v1), (2, .int v2), (3, .int v3), (4, .int v4), (5, .int v5), (6, .int v6), (7, .int v7), (8, .int v8), (9, .int v9)] [.int w0] Γ I L Q := by
  refine aw_aload_n dL_isTree_393 rfl ?_
  refine aw_iload dL_isTree_394 rfl ?_
  exact aw_askSW (as := [.ref v0, .int v7]) (rst := [.int w0]) kw_L_toll (by decide) rfl l_L_171 t_L_toll dL_isTree_396 rfl (Nat.le_of_ble_eq_true rfl) hbc hbs hC rfl rfl kk
theorem bL_isTree_399 {d mc ms : Nat} {al : Bool} {bc bs : Nat} {Γ : am_G} {I : am_I} {L : am_L} {Q : am_Q} {v0 : Nat} {v1 : Int32} {v2 : Int32} {v3 : Int32} {v4 : Int32} {v5 : Int32} {v6 : Int32} {v7 : Int32} {v8 : Int32} {v9 : Int32} {w0 : Int32} {w1 : Int32} (kt : w0 = w1 → am_W m_L_isTree d mc ms al bc bs 406 [(0, .ref v0), (1, .int v1), (2, .int v2), (3, .int v3), (4, .int v4), (5, .int v5), (6, .int v6), (7, .int v7), (8, .int v8), (9, .int v9)] [] Γ I L Q) (kf : ¬ w0 = w1 → am_W m_L_isTree d mc ms al bc bs 402 [(0, .ref v0), (1, .int v1), (2, .int v2), (3, .int v3), (4, .int v4), (5, .int v5), (6, .int v6), (7, .int v7), (8, .int v8), (9, .int v9)] [] Γ I L Q) : am_W m_L_isTree d mc ms al bc bs 399 [(0, .ref v0), (1, .int v1), (2, .int v2), (3, .int v3), (4, .int v4), (5, .int v5), (6, .int v6), (7, .int v7), (8, .int v8), (9, .int v9)] [.int w1, .int w0] Γ I L Q := by
  exact aw_icmp_eq dL_isTree_399 (by decide) kt kf
theorem bL_isTree_402 {d mc ms : Nat} {al : Bool} {bc bs : Nat} {Γ : am_G} {I : am_I} {L : am_L} {Q : am_Q} {v0 : Nat} {v1 : Int32} {v2 : Int32} {v3 : Int32} {v4 : Int32} {v5 : Int32} {v6 : Int32} {v7 : Int32} {v8 : Int32} {v9 : Int32} (kk : am_W m_L_isTree d mc ms al bc bs 407 [(0, .ref v0), (1, .int v1), (2, .int v2), (3, .int v3), (4, .int v4), (5, .int v5), (6, .int v6), (7, .int v7), (8, .int v8), (9, .int v9)] [.int 1] Γ I L Q) : am_W m_L_isTree d mc ms al bc bs 402 [(0, .ref v0), (1, .int v1), (2, .int v2), (3, .int v3), (4, .int v4), (5, .int v5), (6, .int v6), (7, .int v7), (8, .int v8), (9, .int v9)] [] Γ I L Q := by
  refine aw_iconst dL_isTree_402 ci_1 ?_
  exact aw_goto dL_isTree_403 (by decide) kk
theorem bL_isTree_406 {d mc ms : Nat} {al : Bool} {bc bs : Nat} {Γ : am_G} {I : am_I} {L : am_L} {Q : am_Q} {v0 : Nat} {v1 : Int32} {v2 : Int32} {v3 : Int32} {v4 : Int32} {v5 : Int32} {v6 : Int32} {v7 : Int32} {v8 : Int32} {v9 : Int32} (kk : am_W m_L_isTree d mc ms al bc bs 407 [(0, .ref v0), (1, .int v1), (2, .int v2), (3, .int v3), (4, .int v4), (5, .int v5), (6, .int v6), (7, .int v7), (8, .int v8), (9, .int v9)] [.int 0] Γ I L Q) : am_W m_L_isTree d mc ms al bc bs 406 [(0, .ref v0), (1, .int v1), (2, .int v2), (3, .int v3), (4, .int v4), (5, .int v5), (6, .int v6), (7, .int v7), (8, .int v8), (9, .int v9)] [] Γ I L Q := by
  refine aw_iconst dL_isTree_406 ci_0 ?_
  exact kk
theorem bL_isTree_407 {d mc ms : Nat} {al : Bool} {bc bs : Nat} {Γ : am_G} {I : am_I} {L : am_L} {Q : am_Q} {v0 : Nat} {v1 : Int32} {v2 : Int32} {v3 : Int32} {v4 : Int32} {v5 : Int32} {v6 : Int32} {v7 : Int32} {v8 : Int32} {v9 : Int32} {w0 : Int32} (kt : w0 = 0 → am_W m_L_isTree d mc ms al bc bs 426 [(0, .ref v0), (1, .int v1), (2, .int v2), (3, .int v3), (4, .int v4), (5, .int v5), (6, .int v6), (7, .int v7), (8, .int v8), (9, .int v9), (10, .int w0)] [] Γ I L Q) (kf : ¬ w0 = 0 → am_W m_L_isTree d mc ms al bc bs 414 [(0, .ref v0), (1, .int v1), (2, .int v2), (3, .int v3), (4, .int v4), (5, .int v5), (6, .int v6), (7, .int v7), (8, .int v8), (9, .int v9), (10, .int w0)] [] Γ I L Q) : am_W m_L_isTree d mc ms al bc bs 407 [(0, .ref v0), (1, .int v1), (2, .int v2), (3, .int v3), (4, .int v4), (5, .int v5), (6, .int v6), (7, .int v7), (8, .int v8), (9, .int v9)] [.int w0] Γ I L Q := by
  refine aw_istore (ls' := [(0, .ref v0), (1, .int v1), (2, .int v2), (3, .int v3), (4, .int v4), (5, .int v5), (6, .int v6), (7, .int v7), (8, .int v8), (9, .int v9), (10, .int w0)]) dL_isTree_407 (by decide) rfl ?_
  refine aw_iload dL_isTree_409 rfl ?_
  exact aw_if_eq dL_isTree_411 (by decide) kt kf
theorem bL_isTree_414 {d mc ms : Nat} {al : Bool} {bc bs : Nat} {Γ : am_G} {I : am_I} {L : am_L} {Q : am_Q} {v0 : Nat} {v1 : Int32} {v2 : Int32} {v3 : Int32} {v4 : Int32} {v5 : Int32} {v6 : Int32} {v7 : Int32} {v8 : Int32} {v9 : Int32} {v10 : Int32} {I' : am_I} {L' : am_L} {mc' : Nat} {ms' : Nat} {r : Int32} (hbc : mc' ≤ bc) (hbs : ms' ≤ bs) (hC : am_E m_L_countAt d mc' ms' [.ref v0, .int v1, .int v7] Γ I L (.inl (some (.int r))) I' L') (kk : am_W m_L_isTree (d + 1) mc ms al (bc - mc') (bs - ms') 423 [(0, .ref v0), (1, .int v1), (2, .int v2), (3, .int v3), (4, .int v4), (5, .int v5), (6, .int v6), (7, .int v7), (8, .int v8), (9, .int v9), (10, .int v10)] [.int r, .int v5] Γ I' L' Q) : am_W m_L_isTree (d + 1) mc ms al bc bs 414 [(0, .ref v0), (1, .int v1), (2, .int v2), (3, .int v3), (4, .int v4), (5, .int v5), (6, .int v6), (7, .int v7), (8, .int v8), (9, .int v9), (10, .int v10)] [] Γ I L Q := by
  refine aw_iload dL_isTree_414 rfl ?_
  refine aw_aload_n dL_isTree_416 rfl ?_
  refine aw_iload_n dL_isTree_417 rfl ?_
  refine aw_iload dL_isTree_418 rfl ?_
  exact aw_askSW (as := [.ref v0, .int v1, .int v7]) (rst := [.int v5]) kw_L_countAt (by decide) rfl l_L_146 t_L_countAt dL_isTree_420 rfl (Nat.le_of_ble_eq_true rfl) hbc hbs hC rfl rfl kk
theorem bL_isTree_423 {d mc ms : Nat} {al : Bool} {bc bs : Nat} {Γ : am_G} {I : am_I} {L : am_L} {Q : am_Q} {v0 : Nat} {v1 : Int32} {v2 : Int32} {v3 : Int32} {v4 : Int32} {v5 : Int32} {v6 : Int32} {v7 : Int32} {v8 : Int32} {v9 : Int32} {v10 : Int32} {w0 : Int32} {w1 : Int32} (kk : am_W m_L_isTree d mc ms al bc bs 426 [(0, .ref v0), (1, .int v1), (2, .int v2), (3, .int v3), (4, .int v4), (5, .int (w0 + w1)), (6, .int v6), (7, .int v7), (8, .int v8), (9, .int v9), (10, .int v10)] [] Γ I L Q) : am_W m_L_isTree d mc ms al bc bs 423 [(0, .ref v0), (1, .int v1), (2, .int v2), (3, .int v3), (4, .int v4), (5, .int v5), (6, .int v6), (7, .int v7), (8, .int v8), (9, .int v9), (10, .int v10)] [.int w1, .int w0] Γ I L Q := by
  refine aw_iadd dL_isTree_423 ?_
  refine aw_istore (ls' := [(0, .ref v0), (1, .int v1), (2, .int v2), (3, .int v3), (4, .int v4), (5, .int (w0 + w1)), (6, .int v6), (7, .int v7), (8, .int v8), (9, .int v9), (10, .int v10)]) dL_isTree_424 (by decide) rfl ?_
  exact kk
theorem bL_isTree_426 {d mc ms : Nat} {al : Bool} {bc bs : Nat} {Γ : am_G} {I : am_I} {L : am_L} {Q : am_Q} {v0 : Nat} {v1 : Int32} {v2 : Int32} {v3 : Int32} {v4 : Int32} {v5 : Int32} {v6 : Int32} {v7 : Int32} {v8 : Int32} {v9 : Int32} {v10 : Int32} {I' : am_I} {L' : am_L} {mc' : Nat} {ms' : Nat} {r : Int32} (hbc : mc' ≤ bc) (hbs : ms' ≤ bs) (hC : am_E m_L_countAt d mc' ms' [.ref v0, .int v1, .int v7] Γ I L (.inl (some (.int r))) I' L') (kk : am_W m_L_isTree (d + 1) mc ms al (bc - mc') (bs - ms') 437 [(0, .ref v0), (1, .int v1), (2, .int v2), (3, .int v3), (4, .int v4), (5, .int v5), (6, .int v6), (7, .int v7), (8, .int v8), (9, .int v9), (10, .int v10)] [.int r, .int v9, .int v6] Γ I' L' Q) : am_W m_L_isTree (d + 1) mc ms al bc bs 426 [(0, .ref v0), (1, .int v1), (2, .int v2), (3, .int v3), (4, .int v4), (5, .int v5), (6, .int v6), (7, .int v7), (8, .int v8), (9, .int v9), (10, .int v10)] [] Γ I L Q := by
  refine aw_iload dL_isTree_426 rfl ?_
  refine aw_iload dL_isTree_428 rfl ?_
  refine aw_aload_n dL_isTree_430 rfl ?_
  refine aw_iload_n dL_isTree_431 rfl ?_
  refine aw_iload dL_isTree_432 rfl ?_
  exact aw_askSW (as := [.ref v0, .int v1, .int v7]) (rst := [.int v9, .int v6]) kw_L_countAt (by decide) rfl l_L_146 t_L_countAt dL_isTree_434 rfl (Nat.le_of_ble_eq_true rfl) hbc hbs hC rfl rfl kk
theorem bL_isTree_437 {d mc ms : Nat} {al : Bool} {bc bs : Nat} {Γ : am_G} {I : am_I} {L : am_L} {Q : am_Q} {v0 : Nat} {v1 : Int32} {v2 : Int32} {v3 : Int32} {v4 : Int32} {v5 : Int32} {v6 : Int32} {v7 : Int32} {v8 : Int32} {v9 : Int32} {v10 : Int32} {w0 : Int32} {w1 : Int32} {w2 : Int32} {I' : am_I} {L' : am_L} {mc' : Nat} {ms' : Nat} {r : Int32} (hbc : mc' ≤ bc) (hbs : ms' ≤ bs) (hC : am_E m_L_mischargeReason d mc' ms' [.ref v0, .int v1, .int v7] Γ I L (.inl (some (.int r))) I' L') (kk : am_W m_L_isTree (d + 1) mc ms al (bc - mc') (bs - ms') 450 [(0, .ref v0), (1, .int v1), (2, .int v2), (3, .int v3), (4, .int v4), (5, .int v5), (6, .int (w0 + (w1 * w2))), (7, .int v7), (8, .int v8), (9, .int v9), (10, .int v10)] [.int r, .int v10] Γ I' L' Q) : am_W m_L_isTree (d + 1) mc ms al bc bs 437 [(0, .ref v0), (1, .int v1), (2, .int v2), (3, .int v3), (4, .int v4), (5, .int v5), (6, .int v6), (7, .int v7), (8, .int v8), (9, .int v9), (10, .int v10)] [.int w2, .int w1, .int w0] Γ I L Q := by
  refine aw_imul dL_isTree_437 ?_
  refine aw_iadd dL_isTree_438 ?_
  refine aw_istore (ls' := [(0, .ref v0), (1, .int v1), (2, .int v2), (3, .int v3), (4, .int v4), (5, .int v5), (6, .int (w0 + (w1 * w2))), (7, .int v7), (8, .int v8), (9, .int v9), (10, .int v10)]) dL_isTree_439 (by decide) rfl ?_
  refine aw_iload dL_isTree_441 rfl ?_
  refine aw_aload_n dL_isTree_443 rfl ?_
  refine aw_iload_n dL_isTree_444 rfl ?_
  refine aw_iload dL_isTree_445 rfl ?_
  exact aw_askSW (as := [.ref v0, .int v1, .int v7]) (rst := [.int v10]) kw_L_mischargeReason (by decide) rfl l_L_173 t_L_mischargeReason dL_isTree_447 rfl (Nat.le_of_ble_eq_true rfl) hbc hbs hC rfl rfl kk
theorem bL_isTree_450 {d mc ms : Nat} {al : Bool} {bc bs : Nat} {Γ : am_G} {I : am_I} {L : am_L} {Q : am_Q} {v0 : Nat} {v1 : Int32} {v2 : Int32} {v3 : Int32} {v4 : Int32} {v5 : Int32} {v6 : Int32} {v7 : Int32} {v8 : Int32} {v9 : Int32} {v10 : Int32} {w0 : Int32} {w1 : Int32} (kt : w1 ≤ 0 → am_W m_L_isTree d mc ms al bc bs 457 [(0, .ref v0), (1, .int v1), (2, .int v2), (3, .int v3), (4, .int v4), (5, .int v5), (6, .int v6), (7, .int v7), (8, .int v8), (9, .int v9), (10, .int v10)] [.int w0] Γ I L Q) (kf : ¬ w1 ≤ 0 → am_W m_L_isTree d mc ms al bc bs 453 [(0, .ref v0), (1, .int v1), (2, .int v2), (3, .int v3), (4, .int v4), (5, .int v5), (6, .int v6), (7, .int v7), (8, .int v8), (9, .int v9), (10, .int v10)] [.int w0] Γ I L Q) : am_W m_L_isTree d mc ms al bc bs 450 [(0, .ref v0), (1, .int v1), (2, .int v2), (3, .int v3), (4, .int v4), (5, .int v5), (6, .int v6), (7, .int v7), (8, .int v8), (9, .int v9), (10, .int v10)] [.int w1, .int w0] Γ I L Q := by
  exact aw_if_le dL_isTree_450 (by decide) kt kf
theorem bL_isTree_453 {d mc ms : Nat} {al : Bool} {bc bs : Nat} {Γ : am_G} {I : am_I} {L : am_L} {Q : am_Q} {v0 : Nat} {v1 : Int32} {v2 : Int32} {v3 : Int32} {v4 : Int32} {v5 : Int32} {v6 : Int32} {v7 : Int32} {v8 : Int32} {v9 : Int32} {v10 : Int32} {w0 : Int32} (kk : am_W m_L_isTree d mc ms al bc bs 458 [(0, .ref v0), (1, .int v1), (2, .int v2), (3, .int v3), (4, .int v4), (5, .int v5), (6, .int v6), (7, .int v7), (8, .int v8), (9, .int v9), (10, .int v10)] [.int 1, .int w0] Γ I L Q) : am_W m_L_isTree d mc ms al bc bs 453 [(0, .ref v0), (1, .int v1), (2, .int v2), (3, .int v3), (4, .int v4), (5, .int v5), (6, .int v6), (7, .int v7), (8, .int v8), (9, .int v9), (10, .int v10)] [.int w0] Γ I L Q := by
  refine aw_iconst dL_isTree_453 ci_1 ?_
  exact aw_goto dL_isTree_454 (by decide) kk
theorem bL_isTree_457 {d mc ms : Nat} {al : Bool} {bc bs : Nat} {Γ : am_G} {I : am_I} {L : am_L} {Q : am_Q} {v0 : Nat} {v1 : Int32} {v2 : Int32} {v3 : Int32} {v4 : Int32} {v5 : Int32} {v6 : Int32} {v7 : Int32} {v8 : Int32} {v9 : Int32} {v10 : Int32} {w0 : Int32} (kk : am_W m_L_isTree d mc ms al bc bs 458 [(0, .ref v0), (1, .int v1), (2, .int v2), (3, .int v3), (4, .int v4), (5, .int v5), (6, .int v6), (7, .int v7), (8, .int v8), (9, .int v9), (10, .int v10)] [.int 0, .int w0] Γ I L Q) : am_W m_L_isTree d mc ms al bc bs 457 [(0, .ref v0), (1, .int v1), (2, .int v2), (3, .int v3), (4, .int v4), (5, .int v5), (6, .int v6), (7, .int v7), (8, .int v8), (9, .int v9), (10, .int v10)] [.int w0] Γ I L Q := by
  refine aw_iconst dL_isTree_457 ci_0 ?_
  exact kk
theorem bL_isTree_458 {d mc ms : Nat} {al : Bool} {bc bs : Nat} {Γ : am_G} {I : am_I} {L : am_L} {Q : am_Q} {v0 : Nat} {v1 : Int32} {v2 : Int32} {v3 : Int32} {v4 : Int32} {v5 : Int32} {v6 : Int32} {v7 : Int32} {v8 : Int32} {v9 : Int32} {v10 : Int32} {w0 : Int32} {w1 : Int32} (kt : w0 = w1 → am_W m_L_isTree d mc ms al bc bs 463 [(0, .ref v0), (1, .int v1), (2, .int v2), (3, .int v3), (4, .int v4), (5, .int v5), (6, .int v6), (7, .int v7), (8, .int v8), (9, .int v9), (10, .int v10)] [] Γ I L Q) (kf : ¬ w0 = w1 → am_W m_L_isTree d mc ms al bc bs 461 [(0, .ref v0), (1, .int v1), (2, .int v2), (3, .int v3), (4, .int v4), (5, .int v5), (6, .int v6), (7, .int v7), (8, .int v8), (9, .int v9), (10, .int v10)] [] Γ I L Q) : am_W m_L_isTree d mc ms al bc bs 458 [(0, .ref v0), (1, .int v1), (2, .int v2), (3, .int v3), (4, .int v4), (5, .int v5), (6, .int v6), (7, .int v7), (8, .int v8), (9, .int v9), (10, .int v10)] [.int w1, .int w0] Γ I L Q := by
  exact aw_icmp_eq dL_isTree_458 (by decide) kt kf
theorem bL_isTree_461 {d mc ms : Nat} {al : Bool} {bc bs : Nat} {Γ : am_G} {I : am_I} {L : am_L} {Q : am_Q} {v0 : Nat} {v1 : Int32} {v2 : Int32} {v3 : Int32} {v4 : Int32} {v5 : Int32} {v6 : Int32} {v7 : Int32} {v8 : Int32} {v9 : Int32} {v10 : Int32} (hq : Q (.inl (some (.int 0))) Γ I L) : am_W m_L_isTree d mc ms al bc bs 461 [(0, .ref v0), (1, .int v1), (2, .int v2), (3, .int v3), (4, .int v4), (5, .int v5), (6, .int v6), (7, .int v7), (8, .int v8), (9, .int v9), (10, .int v10)] [] Γ I L Q := by
  refine aw_iconst dL_isTree_461 ci_0 ?_
  exact aw_zret (ty := .boolean) dL_isTree_462 rfl rfl hq
theorem bL_isTree_463 {d mc ms : Nat} {al : Bool} {bc bs : Nat} {Γ : am_G} {I : am_I} {L : am_L} {Q : am_Q} {v0 : Nat} {v1 : Int32} {v2 : Int32} {v3 : Int32} {v4 : Int32} {v5 : Int32} {v6 : Int32} {v7 : Int32} {v8 : Int32} {v9 : Int32} {v10 : Int32} (kk : am_W m_L_isTree d mc ms al bc bs 245 [(0, .ref v0), (1, .int v1), (2, .int v2), (3, .int v3), (4, .int v4), (5, .int v5), (6, .int v6), (7, .int (v7 + 1)), (8, .int v8), (9, .int v9), (10, .int v10)] [] Γ I L Q) : am_W m_L_isTree d mc ms al bc bs 463 [(0, .ref v0), (1, .int v1), (2, .int v2), (3, .int v3), (4, .int v4), (5, .int v5), (6, .int v6), (7, .int v7), (8, .int v8), (9, .int v9), (10, .int v10)] [] Γ I L Q := by
  refine aw_iinc (ls' := [(0, .ref v0), (1, .int v1), (2, .int v2), (3, .int v3), (4, .int v4), (5, .int v5), (6, .int v6), (7, .int (v7 + 1)), (8, .int v8), (9, .int v9), (10, .int v10)]) dL_isTree_463 rfl (cn_1 _) (by decide) rfl ?_
  exact aw_goto dL_isTree_466 (by decide) kk
theorem bL_isTree_469 {d mc ms : Nat} {al : Bool} {bc bs : Nat} {Γ : am_G} {I : am_I} {L : am_L} {Q : am_Q} {v0 : Nat} {v1 : Int32} {v2 : Int32} {v3 : Int32} {v4 : Int32} {v5 : Int32} {v6 : Int32} {v7 : Int32} {I' : am_I} {L' : am_L} {mc' : Nat} {ms' : Nat} {r : Int32} (hbc : mc' ≤ bc) (hbs : ms' ≤ bs) (hC : am_E m_L_errors d mc' ms' [.ref v0, .int v1] Γ I L (.inl (some (.int r))) I' L') (kk : am_W m_L_isTree (d + 1) mc ms al (bc - mc') (bs - ms') 474 [(0, .ref v0), (1, .int v1), (2, .int v2), (3, .int v3), (4, .int v4), (5, .int v5), (6, .int v6), (7, .int v7)] [.int r] Γ I' L' Q) : am_W m_L_isTree (d + 1) mc ms al bc bs 469 [(0, .ref v0), (1, .int v1), (2, .int v2), (3, .int v3), (4, .int v4), (5, .int v5), (6, .int v6), (7, .int v7)] [] Γ I L Q := by
  refine aw_aload_n dL_isTree_469 rfl ?_
  refine aw_iload_n dL_isTree_470 rfl ?_
  exact aw_askSW (as := [.ref v0, .int v1]) (rst := []) kw_L_errors (by decide) rfl l_L_175 t_L_errors dL_isTree_471 rfl (Nat.le_of_ble_eq_true rfl) hbc hbs hC rfl rfl kk
theorem bL_isTree_474 {d mc ms : Nat} {al : Bool} {bc bs : Nat} {Γ : am_G} {I : am_I} {L : am_L} {Q : am_Q} {v0 : Nat} {v1 : Int32} {v2 : Int32} {v3 : Int32} {v4 : Int32} {v5 : Int32} {v6 : Int32} {v7 : Int32} {w0 : Int32} (kt : ¬ w0 = v5 → am_W m_L_isTree d mc ms al bc bs 493 [(0, .ref v0), (1, .int v1), (2, .int v2), (3, .int v3), (4, .int v4), (5, .int v5), (6, .int v6), (7, .int v7)] [] Γ I L Q) (kf : w0 = v5 → am_W m_L_isTree d mc ms al bc bs 479 [(0, .ref v0), (1, .int v1), (2, .int v2), (3, .int v3), (4, .int v4), (5, .int v5), (6, .int v6), (7, .int v7)] [] Γ I L Q) : am_W m_L_isTree d mc ms al bc bs 474 [(0, .ref v0), (1, .int v1), (2, .int v2), (3, .int v3), (4, .int v4), (5, .int v5), (6, .int v6), (7, .int v7)] [.int w0] Γ I L Q := by
  refine aw_iload dL_isTree_474 rfl ?_
  exact aw_icmp_ne dL_isTree_476 (by decide) kt kf
theorem bL_isTree_479 {d mc ms : Nat} {al : Bool} {bc bs : Nat} {Γ : am_G} {I : am_I} {L : am_L} {Q : am_Q} {v0 : Nat} {v1 : Int32} {v2 : Int32} {v3 : Int32} {v4 : Int32} {v5 : Int32} {v6 : Int32} {v7 : Int32} {I' : am_I} {L' : am_L} {mc' : Nat} {ms' : Nat} {r : Int32} (hbc : mc' ≤ bc) (hbs : ms' ≤ bs) (hC : am_E m_L_work d mc' ms' [.ref v0, .int v1] Γ I L (.inl (some (.int r))) I' L') (kk : am_W m_L_isTree (d + 1) mc ms al (bc - mc') (bs - ms') 484 [(0, .ref v0), (1, .int v1), (2, .int v2), (3, .int v3), (4, .int v4), (5, .int v5), (6, .int v6), (7, .int v7)] [.int r] Γ I' L' Q) : am_W m_L_isTree (d + 1) mc ms al bc bs 479 [(0, .ref v0), (1, .int v1), (2, .int v2), (3, .int v3), (4, .int v4), (5, .int v5), (6, .int v6), (7, .int v7)] [] Γ I L Q := by
  refine aw_aload_n dL_isTree_479 rfl ?_
  refine aw_iload_n dL_isTree_480 rfl ?_
  exact aw_askSW (as := [.ref v0, .int v1]) (rst := []) kw_L_work (by decide) rfl l_L_177 t_L_work dL_isTree_481 rfl (Nat.le_of_ble_eq_true rfl) hbc hbs hC rfl rfl kk
theorem bL_isTree_484 {d mc ms : Nat} {al : Bool} {bc bs : Nat} {Γ : am_G} {I : am_I} {L : am_L} {Q : am_Q} {v0 : Nat} {v1 : Int32} {v2 : Int32} {v3 : Int32} {v4 : Int32} {v5 : Int32} {v6 : Int32} {v7 : Int32} {w0 : Int32} (kt : ¬ w0 = v6 → am_W m_L_isTree d mc ms al bc bs 493 [(0, .ref v0), (1, .int v1), (2, .int v2), (3, .int v3), (4, .int v4), (5, .int v5), (6, .int v6), (7, .int v7)] [] Γ I L Q) (kf : w0 = v6 → am_W m_L_isTree d mc ms al bc bs 489 [(0, .ref v0), (1, .int v1), (2, .int v2), (3, .int v3), (4, .int v4), (5, .int v5), (6, .int v6), (7, .int v7)] [] Γ I L Q) : am_W m_L_isTree d mc ms al bc bs 484 [(0, .ref v0), (1, .int v1), (2, .int v2), (3, .int v3), (4, .int v4), (5, .int v5), (6, .int v6), (7, .int v7)] [.int w0] Γ I L Q := by
  refine aw_iload dL_isTree_484 rfl ?_
  exact aw_icmp_ne dL_isTree_486 (by decide) kt kf
theorem bL_isTree_489 {d mc ms : Nat} {al : Bool} {bc bs : Nat} {Γ : am_G} {I : am_I} {L : am_L} {Q : am_Q} {v0 : Nat} {v1 : Int32} {v2 : Int32} {v3 : Int32} {v4 : Int32} {v5 : Int32} {v6 : Int32} {v7 : Int32} (kk : am_W m_L_isTree d mc ms al bc bs 494 [(0, .ref v0), (1, .int v1), (2, .int v2), (3, .int v3), (4, .int v4), (5, .int v5), (6, .int v6), (7, .int v7)] [.int 1] Γ I L Q) : am_W m_L_isTree d mc ms al bc bs 489 [(0, .ref v0), (1, .int v1), (2, .int v2), (3, .int v3), (4, .int v4), (5, .int v5), (6, .int v6), (7, .int v7)] [] Γ I L Q := by
  refine aw_iconst dL_isTree_489 ci_1 ?_
  exact aw_goto dL_isTree_490 (by decide) kk
theorem bL_isTree_493 {d mc ms : Nat} {al : Bool} {bc bs : Nat} {Γ : am_G} {I : am_I} {L : am_L} {Q : am_Q} {v0 : Nat} {v1 : Int32} {v2 : Int32} {v3 : Int32} {v4 : Int32} {v5 : Int32} {v6 : Int32} {v7 : Int32} (kk : am_W m_L_isTree d mc ms al bc bs 494 [(0, .ref v0), (1, .int v1), (2, .int v2), (3, .int v3), (4, .int v4), (5, .int v5), (6, .int v6), (7, .int v7)] [.int 0] Γ I L Q) : am_W m_L_isTree d mc ms al bc bs 493 [(0, .ref v0), (1, .int v1), (2, .int v2), (3, .int v3), (4, .int v4), (5, .int v5), (6, .int v6), (7, .int v7)] [] Γ I L Q := by
  refine aw_iconst dL_isTree_493 ci_0 ?_
  exact kk
theorem bL_isTree_494 {d mc ms : Nat} {al : Bool} {bc bs : Nat} {Γ : am_G} {I : am_I} {L : am_L} {Q : am_Q} {v0 : Nat} {v1 : Int32} {v2 : Int32} {v3 : Int32} {v4 : Int32} {v5 : Int32} {v6 : Int32} {v7 : Int32} {w0 : Int32} (hz : narrow .boolean (.int w0) = .int w0) (hq : Q (.inl (some (.int w0))) Γ I L) : am_W m_L_isTree d mc ms al bc bs 494 [(0, .ref v0), (1, .int v1), (2, .int v2), (3, .int v3), (4, .int v4), (5, .int v5), (6, .int v6), (7, .int v7)] [.int w0] Γ I L Q := by
  exact aw_zret (ty := .boolean) dL_isTree_494 rfl hz hq
theorem dL_isSound_0 : decode cL_isSound 0 = .ok (.iconst 0, 1) := by decide +kernel
theorem dL_isSound_1 : decode cL_isSound 1 = .ok (.istore_n 1, 1) := by decide +kernel
theorem dL_isSound_2 : decode cL_isSound 2 = .ok (.iload_n 1, 1) := by decide +kernel
theorem dL_isSound_3 : decode cL_isSound 3 = .ok (.aload_n 0, 1) := by decide +kernel
theorem dL_isSound_4 : decode cL_isSound 4 = .ok (.invokevirtual 179, 3) := by decide +kernel
theorem dL_isSound_7 : decode cL_isSound 7 = .ok (.if_icmp .ge 194, 3) := by decide +kernel
theorem dL_isSound_10 : decode cL_isSound 10 = .ok (.aload_n 0, 1) := by decide +kernel
theorem dL_isSound_11 : decode cL_isSound 11 = .ok (.iload_n 1, 1) := by decide +kernel
theorem dL_isSound_12 : decode cL_isSound 12 = .ok (.invokestatic 182, 3) := by decide +kernel
theorem dL_isSound_15 : decode cL_isSound 15 = .ok (.ifCond .eq 33, 3) := by decide +kernel
theorem dL_isSound_18 : decode cL_isSound 18 = .ok (.aload_n 0, 1) := by decide +kernel
theorem dL_isSound_19 : decode cL_isSound 19 = .ok (.iload_n 1, 1) := by decide +kernel
theorem dL_isSound_20 : decode cL_isSound 20 = .ok (.invokestatic 186, 3) := by decide +kernel
theorem dL_isSound_23 : decode cL_isSound 23 = .ok (.ifCond .ne 7, 3) := by decide +kernel
theorem dL_isSound_26 : decode cL_isSound 26 = .ok (.iconst 1, 1) := by decide +kernel
theorem dL_isSound_27 : decode cL_isSound 27 = .ok (.goto 4, 3) := by decide +kernel
theorem dL_isSound_30 : decode cL_isSound 30 = .ok (.iconst 0, 1) := by decide +kernel
theorem dL_isSound_31 : decode cL_isSound 31 = .ok (.aload_n 0, 1) := by decide +kernel
theorem dL_isSound_32 : decode cL_isSound 32 = .ok (.iload_n 1, 1) := by decide +kernel
theorem dL_isSound_33 : decode cL_isSound 33 = .ok (.invokestatic 188, 3) := by decide +kernel
theorem dL_isSound_36 : decode cL_isSound 36 = .ok (.iconst 1, 1) := by decide +kernel
theorem dL_isSound_37 : decode cL_isSound 37 = .ok (.if_icmp .ne 7, 3) := by decide +kernel
theorem dL_isSound_40 : decode cL_isSound 40 = .ok (.iconst 1, 1) := by decide +kernel
theorem dL_isSound_41 : decode cL_isSound 41 = .ok (.goto 4, 3) := by decide +kernel
theorem dL_isSound_44 : decode cL_isSound 44 = .ok (.iconst 0, 1) := by decide +kernel
theorem dL_isSound_45 : decode cL_isSound 45 = .ok (.if_icmp .eq 5, 3) := by decide +kernel
theorem dL_isSound_48 : decode cL_isSound 48 = .ok (.iconst 0, 1) := by decide +kernel
theorem dL_isSound_49 : decode cL_isSound 49 = .ok (.ireturn, 1) := by decide +kernel
theorem dL_isSound_50 : decode cL_isSound 50 = .ok (.aload_n 0, 1) := by decide +kernel
theorem dL_isSound_51 : decode cL_isSound 51 = .ok (.iload_n 1, 1) := by decide +kernel
theorem dL_isSound_52 : decode cL_isSound 52 = .ok (.invokestatic 190, 3) := by decide +kernel
theorem dL_isSound_55 : decode cL_isSound 55 = .ok (.istore_n 2, 1) := by decide +kernel
theorem dL_isSound_56 : decode cL_isSound 56 = .ok (.aload_n 0, 1) := by decide +kernel
theorem dL_isSound_57 : decode cL_isSound 57 = .ok (.iload_n 1, 1) := by decide +kernel
theorem dL_isSound_58 : decode cL_isSound 58 = .ok (.iload_n 2, 1) := by decide +kernel
theorem dL_isSound_59 : decode cL_isSound 59 = .ok (.invokestatic 192, 3) := by decide +kernel
theorem dL_isSound_62 : decode cL_isSound 62 = .ok (.aload_n 0, 1) := by decide +kernel
theorem dL_isSound_63 : decode cL_isSound 63 = .ok (.iload_n 1, 1) := by decide +kernel
theorem dL_isSound_64 : decode cL_isSound 64 = .ok (.bipush 30, 2) := by decide +kernel
theorem dL_isSound_66 : decode cL_isSound 66 = .ok (.invokestatic 192, 3) := by decide +kernel
theorem dL_isSound_69 : decode cL_isSound 69 = .ok (.if_icmp .ne 25, 3) := by decide +kernel
theorem dL_isSound_72 : decode cL_isSound 72 = .ok (.iload_n 2, 1) := by decide +kernel
theorem dL_isSound_73 : decode cL_isSound 73 = .ok (.ifCond .le 23, 3) := by decide +kernel
theorem dL_isSound_76 : decode cL_isSound 76 = .ok (.aload_n 0, 1) := by decide +kernel
theorem dL_isSound_77 : decode cL_isSound 77 = .ok (.iload_n 1, 1) := by decide +kernel
theorem dL_isSound_78 : decode cL_isSound 78 = .ok (.iload_n 2, 1) := by decide +kernel
theorem dL_isSound_79 : decode cL_isSound 79 = .ok (.iconst 1, 1) := by decide +kernel
theorem dL_isSound_80 : decode cL_isSound 80 = .ok (.isub, 1) := by decide +kernel
theorem dL_isSound_81 : decode cL_isSound 81 = .ok (.invokestatic 192, 3) := by decide +kernel
theorem dL_isSound_84 : decode cL_isSound 84 = .ok (.aload_n 0, 1) := by decide +kernel
theorem dL_isSound_85 : decode cL_isSound 85 = .ok (.iload_n 1, 1) := by decide +kernel
theorem dL_isSound_86 : decode cL_isSound 86 = .ok (.bipush 30, 2) := by decide +kernel
theorem dL_isSound_88 : decode cL_isSound 88 = .ok (.invokestatic 192, 3) := by decide +kernel
theorem dL_isSound_91 : decode cL_isSound 91 = .ok (.if_icmp .gt 5, 3) := by decide +kernel
theorem dL_isSound_94 : decode cL_isSound 94 = .ok (.iconst 0, 1) := by decide +kernel
theorem dL_isSound_95 : decode cL_isSound 95 = .ok (.ireturn, 1) := by decide +kernel
theorem dL_isSound_96 : decode cL_isSound 96 = .ok (.aload_n 0, 1) := by decide +kernel
theorem dL_isSound_97 : decode cL_isSound 97 = .ok (.iload_n 1, 1) := by decide +kernel
theorem dL_isSound_98 : decode cL_isSound 98 = .ok (.invokestatic 194, 3) := by decide +kernel
theorem dL_isSound_101 : decode cL_isSound 101 = .ok (.istore_n 3, 1) := by decide +kernel
theorem dL_isSound_102 : decode cL_isSound 102 = .ok (.iconst 0, 1) := by decide +kernel
theorem dL_isSound_103 : decode cL_isSound 103 = .ok (.istore 4, 2) := by decide +kernel
theorem dL_isSound_105 : decode cL_isSound 105 = .ok (.iload 4, 2) := by decide +kernel
theorem dL_isSound_107 : decode cL_isSound 107 = .ok (.aload_n 0, 1) := by decide +kernel
theorem dL_isSound_108 : decode cL_isSound 108 = .ok (.invokevirtual 196, 3) := by decide +kernel
theorem dL_isSound_111 : decode cL_isSound 111 = .ok (.if_icmp .ge 27, 3) := by decide +kernel
theorem dL_isSound_114 : decode cL_isSound 114 = .ok (.aload_n 0, 1) := by decide +kernel
theorem dL_isSound_115 : decode cL_isSound 115 = .ok (.iload_n 1, 1) := by decide +kernel
theorem dL_isSound_116 : decode cL_isSound 116 = .ok (.iload 4, 2) := by decide +kernel
theorem dL_isSound_118 : decode cL_isSound 118 = .ok (.invokestatic 199, 3) := by decide +kernel
theorem dL_isSound_121 : decode cL_isSound 121 = .ok (.aload_n 0, 1) := by decide +kernel
theorem dL_isSound_122 : decode cL_isSound 122 = .ok (.iload_n 1, 1) := by decide +kernel
theorem dL_isSound_123 : decode cL_isSound 123 = .ok (.iload_n 3, 1) := by decide +kernel
theorem dL_isSound_124 : decode cL_isSound 124 = .ok (.invokestatic 192, 3) := by decide +kernel
theorem dL_isSound_127 : decode cL_isSound 127 = .ok (.if_icmp .ge 5, 3) := by decide +kernel
theorem dL_isSound_130 : decode cL_isSound 130 = .ok (.iconst 0, 1) := by decide +kernel
theorem dL_isSound_131 : decode cL_isSound 131 = .ok (.ireturn, 1) := by decide +kernel
theorem dL_isSound_132 : decode cL_isSound 132 = .ok (.iinc 4 1, 3) := by decide +kernel
theorem dL_isSound_135 : decode cL_isSound 135 = .ok (.goto (-30), 3) := by decide +kernel
theorem dL_isSound_138 : decode cL_isSound 138 = .ok (.aload_n 0, 1) := by decide +kernel
theorem dL_isSound_139 : decode cL_isSound 139 = .ok (.iload_n 1, 1) := by decide +kernel
theorem dL_isSound_140 : decode cL_isSound 140 = .ok (.iload_n 3, 1) := by decide +kernel
theorem dL_isSound_141 : decode cL_isSound 141 = .ok (.invokestatic 192, 3) := by decide +kernel
theorem dL_isSound_144 : decode cL_isSound 144 = .ok (.aload_n 0, 1) := by decide +kernel
theorem dL_isSound_145 : decode cL_isSound 145 = .ok (.iload_n 1, 1) := by decide +kernel
theorem dL_isSound_146 : decode cL_isSound 146 = .ok (.iconst 0, 1) := by decide +kernel
theorem dL_isSound_147 : decode cL_isSound 147 = .ok (.invokestatic 192, 3) := by decide +kernel
theorem dL_isSound_150 : decode cL_isSound 150 = .ok (.if_icmp .gt 43, 3) := by decide +kernel
theorem dL_isSound_153 : decode cL_isSound 153 = .ok (.iload_n 3, 1) := by decide +kernel
theorem dL_isSound_154 : decode cL_isSound 154 = .ok (.ifCond .le 20, 3) := by decide +kernel
theorem dL_isSound_157 : decode cL_isSound 157 = .ok (.aload_n 0, 1) := by decide +kernel
theorem dL_isSound_158 : decode cL_isSound 158 = .ok (.iload_n 1, 1) := by decide +kernel
theorem dL_isSound_159 : decode cL_isSound 159 = .ok (.iload_n 3, 1) := by decide +kernel
theorem dL_isSound_160 : decode cL_isSound 160 = .ok (.invokestatic 192, 3) := by decide +kernel
theorem dL_isSound_163 : decode cL_isSound 163 = .ok (.aload_n 0, 1) := by decide +kernel
theorem dL_isSound_164 : decode cL_isSound 164 = .ok (.iload_n 1, 1) := by decide +kernel
theorem dL_isSound_165 : decode cL_isSound 165 = .ok (.iload_n 3, 1) := by decide +kernel
theorem dL_isSound_166 : decode cL_isSound 166 = .ok (.iconst 1, 1) := by decide +kernel
theorem dL_isSound_167 : decode cL_isSound 167 = .ok (.isub, 1) := by decide +kernel
theorem dL_isSound_168 : decode cL_isSound 168 = .ok (.invokestatic 192, 3) := by decide +kernel
theorem dL_isSound_171 : decode cL_isSound 171 = .ok (.if_icmp .gt 22, 3) := by decide +kernel
theorem dL_isSound_174 : decode cL_isSound 174 = .ok (.aload_n 0, 1) := by decide +kernel
theorem dL_isSound_175 : decode cL_isSound 175 = .ok (.iload_n 1, 1) := by decide +kernel
theorem dL_isSound_176 : decode cL_isSound 176 = .ok (.iconst 0, 1) := by decide +kernel
theorem dL_isSound_177 : decode cL_isSound 177 = .ok (.invokestatic 201, 3) := by decide +kernel
theorem dL_isSound_180 : decode cL_isSound 180 = .ok (.ifCond .ne 13, 3) := by decide +kernel
theorem dL_isSound_183 : decode cL_isSound 183 = .ok (.aload_n 0, 1) := by decide +kernel
theorem dL_isSound_184 : decode cL_isSound 184 = .ok (.iload_n 1, 1) := by decide +kernel
theorem dL_isSound_185 : decode cL_isSound 185 = .ok (.iconst 0, 1) := by decide +kernel
theorem dL_isSound_186 : decode cL_isSound 186 = .ok (.invokestatic 203, 3) := by decide +kernel
theorem dL_isSound_189 : decode cL_isSound 189 = .ok (.iconst (-1), 1) := by decide +kernel
theorem dL_isSound_190 : decode cL_isSound 190 = .ok (.if_icmp .eq 5, 3) := by decide +kernel
theorem dL_isSound_193 : decode cL_isSound 193 = .ok (.iconst 0, 1) := by decide +kernel
theorem dL_isSound_194 : decode cL_isSound 194 = .ok (.ireturn, 1) := by decide +kernel
theorem dL_isSound_195 : decode cL_isSound 195 = .ok (.iinc 1 1, 3) := by decide +kernel
theorem dL_isSound_198 : decode cL_isSound 198 = .ok (.goto (-196), 3) := by decide +kernel
theorem dL_isSound_201 : decode cL_isSound 201 = .ok (.aload_n 0, 1) := by decide +kernel
theorem dL_isSound_202 : decode cL_isSound 202 = .ok (.invokevirtual 205, 3) := by decide +kernel
theorem dL_isSound_205 : decode cL_isSound 205 = .ok (.ifCond .ne 44, 3) := by decide +kernel
theorem dL_isSound_208 : decode cL_isSound 208 = .ok (.aload_n 0, 1) := by decide +kernel
theorem dL_isSound_209 : decode cL_isSound 209 = .ok (.invokevirtual 208, 3) := by decide +kernel
theorem dL_isSound_212 : decode cL_isSound 212 = .ok (.aload_n 0, 1) := by decide +kernel
theorem dL_isSound_213 : decode cL_isSound 213 = .ok (.invokevirtual 211, 3) := by decide +kernel
theorem dL_isSound_216 : decode cL_isSound 216 = .ok (.isub, 1) := by decide +kernel
theorem dL_isSound_217 : decode cL_isSound 217 = .ok (.aload_n 0, 1) := by decide +kernel
theorem dL_isSound_218 : decode cL_isSound 218 = .ok (.invokevirtual 214, 3) := by decide +kernel
theorem dL_isSound_221 : decode cL_isSound 221 = .ok (.aload_n 0, 1) := by decide +kernel
theorem dL_isSound_222 : decode cL_isSound 222 = .ok (.invokevirtual 217, 3) := by decide +kernel
theorem dL_isSound_225 : decode cL_isSound 225 = .ok (.isub, 1) := by decide +kernel
theorem dL_isSound_226 : decode cL_isSound 226 = .ok (.if_icmp .ne 23, 3) := by decide +kernel
theorem dL_isSound_229 : decode cL_isSound 229 = .ok (.aload_n 0, 1) := by decide +kernel
theorem dL_isSound_230 : decode cL_isSound 230 = .ok (.invokevirtual 220, 3) := by decide +kernel
theorem dL_isSound_233 : decode cL_isSound 233 = .ok (.aload_n 0, 1) := by decide +kernel
theorem dL_isSound_234 : decode cL_isSound 234 = .ok (.invokevirtual 223, 3) := by decide +kernel
theorem dL_isSound_237 : decode cL_isSound 237 = .ok (.iadd, 1) := by decide +kernel
theorem dL_isSound_238 : decode cL_isSound 238 = .ok (.aload_n 0, 1) := by decide +kernel
theorem dL_isSound_239 : decode cL_isSound 239 = .ok (.invokevirtual 226, 3) := by decide +kernel
theorem dL_isSound_242 : decode cL_isSound 242 = .ok (.if_icmp .gt 7, 3) := by decide +kernel
theorem dL_isSound_245 : decode cL_isSound 245 = .ok (.iconst 1, 1) := by decide +kernel
theorem dL_isSound_246 : decode cL_isSound 246 = .ok (.goto 4, 3) := by decide +kernel
theorem dL_isSound_249 : decode cL_isSound 249 = .ok (.iconst 0, 1) := by decide +kernel
theorem dL_isSound_250 : decode cL_isSound 250 = .ok (.ireturn, 1) := by decide +kernel
theorem bL_isSound_0 {d mc ms : Nat} {al : Bool} {bc bs : Nat} {Γ : am_G} {I : am_I} {L : am_L} {Q : am_Q} {v0 : Nat} (kk : am_W m_L_isSound d mc ms al bc bs 2 [(0, .ref v0), (1, .int 0)] [] Γ I L Q) : am_W m_L_isSound d mc ms al bc bs 0 [(0, .ref v0)] [] Γ I L Q := by
  refine aw_iconst dL_isSound_0 ci_0 ?_
  refine aw_istore_n (ls' := [(0, .ref v0), (1, .int 0)]) dL_isSound_1 (by decide) rfl ?_
  exact kk
theorem bL_isSound_2 {d mc ms : Nat} {al : Bool} {bc bs : Nat} {Γ : am_G} {I : am_I} {L : am_L} {Q : am_Q} {v0 : Nat} {v1 : Int32} {I' : am_I} {L' : am_L} {mc' : Nat} {ms' : Nat} {r : Int32} (o1 : am_ob Γ v0 8) (hbc : mc' ≤ bc) (hbs : ms' ≤ bs) (hC : am_E m_X8_gateCount d mc' ms' [.ref v0] Γ I L (.inl (some (.int r))) I' L') (kk : am_W m_L_isSound (d + 1) mc ms al (bc - mc') (bs - ms') 7 [(0, .ref v0), (1, .int v1)] [.int r, .int v1] Γ I' L' Q) : am_W m_L_isSound (d + 1) mc ms al bc bs 2 [(0, .ref v0), (1, .int v1)] [] Γ I L Q := by
  refine aw_iload_n dL_isSound_2 rfl ?_
  refine aw_aload_n dL_isSound_3 rfl ?_
  exact aw_askV (as := []) (rst := [.int v1]) k_X8_gateCount l_L_179 i_X8_gateCount s_X8_gateCount rfl o1 dL_isSound_4 rfl (Nat.le_of_ble_eq_true rfl) hbc hbs hC rfl rfl kk
theorem bL_isSound_7 {d mc ms : Nat} {al : Bool} {bc bs : Nat} {Γ : am_G} {I : am_I} {L : am_L} {Q : am_Q} {v0 : Nat} {v1 : Int32} {w0 : Int32} {w1 : Int32} (kt : w1 ≤ w0 → am_W m_L_isSound d mc ms al bc bs 201 [(0, .ref v0), (1, .int v1)] [] Γ I L Q) (kf : ¬ w1 ≤ w0 → am_W m_L_isSound d mc ms al bc bs 10 [(0, .ref v0), (1, .int v1)] [] Γ I L Q) : am_W m_L_isSound d mc ms al bc bs 7 [(0, .ref v0), (1, .int v1)] [.int w1, .int w0] Γ I L Q := by
  exact aw_icmp_ge dL_isSound_7 (by decide) kt kf
theorem bL_isSound_10 {d mc ms : Nat} {al : Bool} {bc bs : Nat} {Γ : am_G} {I : am_I} {L : am_L} {Q : am_Q} {v0 : Nat} {v1 : Int32} {I' : am_I} {L' : am_L} {mc' : Nat} {ms' : Nat} {r : Int32} (hbc : mc' ≤ bc) (hbs : ms' ≤ bs) (hC : am_E m_L_isTree d mc' ms' [.ref v0, .int v1] Γ I L (.inl (some (.int r))) I' L') (kk : am_W m_L_isSound (d + 1) mc ms al (bc - mc') (bs - ms') 15 [(0, .ref v0), (1, .int v1)] [.int r] Γ I' L' Q) : am_W m_L_isSound (d + 1) mc ms al bc bs 10 [(0, .ref v0), (1, .int v1)] [] Γ I L Q := by
  refine aw_aload_n dL_isSound_10 rfl ?_
  refine aw_iload_n dL_isSound_11 rfl ?_
  exact aw_askS (as := [.ref v0, .int v1]) (rst := []) k_L_isTree l_L_182 t_L_isTree dL_isSound_12 rfl (Nat.le_of_ble_eq_true rfl) hbc hbs hC rfl rfl kk
theorem bL_isSound_15 {d mc ms : Nat} {al : Bool} {bc bs : Nat} {Γ : am_G} {I : am_I} {L : am_L} {Q : am_Q} {v0 : Nat} {v1 : Int32} {w0 : Int32} (kt : w0 = 0 → am_W m_L_isSound d mc ms al bc bs 48 [(0, .ref v0), (1, .int v1)] [] Γ I L Q) (kf : ¬ w0 = 0 → am_W m_L_isSound d mc ms al bc bs 18 [(0, .ref v0), (1, .int v1)] [] Γ I L Q) : am_W m_L_isSound d mc ms al bc bs 15 [(0, .ref v0), (1, .int v1)] [.int w0] Γ I L Q := by
  exact aw_if_eq dL_isSound_15 (by decide) kt kf
theorem bL_isSound_18 {d mc ms : Nat} {al : Bool} {bc bs : Nat} {Γ : am_G} {I : am_I} {L : am_L} {Q : am_Q} {v0 : Nat} {v1 : Int32} {I' : am_I} {L' : am_L} {mc' : Nat} {ms' : Nat} {r : Int32} (hbc : mc' ≤ bc) (hbs : ms' ≤ bs) (hC : am_E m_L_hoursUntilOpen d mc' ms' [.ref v0, .int v1] Γ I L (.inl (some (.int r))) I' L') (kk : am_W m_L_isSound (d + 1) mc ms al (bc - mc') (bs - ms') 23 [(0, .ref v0), (1, .int v1)] [.int r] Γ I' L' Q) : am_W m_L_isSound (d + 1) mc ms al bc bs 18 [(0, .ref v0), (1, .int v1)] [] Γ I L Q := by
  refine aw_aload_n dL_isSound_18 rfl ?_
  refine aw_iload_n dL_isSound_19 rfl ?_
  exact aw_askSW (as := [.ref v0, .int v1]) (rst := []) kw_L_hoursUntilOpen (by decide) rfl l_L_186 t_L_hoursUntilOpen dL_isSound_20 rfl (Nat.le_of_ble_eq_true rfl) hbc hbs hC rfl rfl kk
theorem bL_isSound_23 {d mc ms : Nat} {al : Bool} {bc bs : Nat} {Γ : am_G} {I : am_I} {L : am_L} {Q : am_Q} {v0 : Nat} {v1 : Int32} {w0 : Int32} (kt : ¬ w0 = 0 → am_W m_L_isSound d mc ms al bc bs 30 [(0, .ref v0), (1, .int v1)] [] Γ I L Q) (kf : w0 = 0 → am_W m_L_isSound d mc ms al bc bs 26 [(0, .ref v0), (1, .int v1)] [] Γ I L Q) : am_W m_L_isSound d mc ms al bc bs 23 [(0, .ref v0), (1, .int v1)] [.int w0] Γ I L Q := by
  exact aw_if_ne dL_isSound_23 (by decide) kt kf
theorem bL_isSound_26 {d mc ms : Nat} {al : Bool} {bc bs : Nat} {Γ : am_G} {I : am_I} {L : am_L} {Q : am_Q} {v0 : Nat} {v1 : Int32} (kk : am_W m_L_isSound d mc ms al bc bs 31 [(0, .ref v0), (1, .int v1)] [.int 1] Γ I L Q) : am_W m_L_isSound d mc ms al bc bs 26 [(0, .ref v0), (1, .int v1)] [] Γ I L Q := by
  refine aw_iconst dL_isSound_26 ci_1 ?_
  exact aw_goto dL_isSound_27 (by decide) kk
theorem bL_isSound_30 {d mc ms : Nat} {al : Bool} {bc bs : Nat} {Γ : am_G} {I : am_I} {L : am_L} {Q : am_Q} {v0 : Nat} {v1 : Int32} (kk : am_W m_L_isSound d mc ms al bc bs 31 [(0, .ref v0), (1, .int v1)] [.int 0] Γ I L Q) : am_W m_L_isSound d mc ms al bc bs 30 [(0, .ref v0), (1, .int v1)] [] Γ I L Q := by
  refine aw_iconst dL_isSound_30 ci_0 ?_
  exact kk
theorem bL_isSound_31 {d mc ms : Nat} {al : Bool} {bc bs : Nat} {Γ : am_G} {I : am_I} {L : am_L} {Q : am_Q} {v0 : Nat} {v1 : Int32} {w0 : Int32} {I' : am_I} {L' : am_L} {mc' : Nat} {ms' : Nat} {r : Int32} (hbc : mc' ≤ bc) (hbs : ms' ≤ bs) (hC : am_E m_L_isOpen d mc' ms' [.ref v0, .int v1] Γ I L (.inl (some (.int r))) I' L') (kk : am_W m_L_isSound (d + 1) mc ms al (bc - mc') (bs - ms') 36 [(0, .ref v0), (1, .int v1)] [.int r, .int w0] Γ I' L' Q) : am_W m_L_isSound (d + 1) mc ms al bc bs 31 [(0, .ref v0), (1, .int v1)] [.int w0] Γ I L Q := by
  refine aw_aload_n dL_isSound_31 rfl ?_
  refine aw_iload_n dL_isSound_32 rfl ?_
  exact aw_askSW (as := [.ref v0, .int v1]) (rst := [.int w0]) kw_L_isOpen (by decide) rfl l_L_188 t_L_isOpen dL_isSound_33 rfl (Nat.le_of_ble_eq_true rfl) hbc hbs hC rfl rfl kk
theorem bL_isSound_36 {d mc ms : Nat} {al : Bool} {bc bs : Nat} {Γ : am_G} {I : am_I} {L : am_L} {Q : am_Q} {v0 : Nat} {v1 : Int32} {w0 : Int32} {w1 : Int32} (kt : ¬ w1 = 1 → am_W m_L_isSound d mc ms al bc bs 44 [(0, .ref v0), (1, .int v1)] [.int w0] Γ I L Q) (kf : w1 = 1 → am_W m_L_isSound d mc ms al bc bs 40 [(0, .ref v0), (1, .int v1)] [.int w0] Γ I L Q) : am_W m_L_isSound d mc ms al bc bs 36 [(0, .ref v0), (1, .int v1)] [.int w1, .int w0] Γ I L Q := by
  refine aw_iconst dL_isSound_36 ci_1 ?_
  exact aw_icmp_ne dL_isSound_37 (by decide) kt kf
theorem bL_isSound_40 {d mc ms : Nat} {al : Bool} {bc bs : Nat} {Γ : am_G} {I : am_I} {L : am_L} {Q : am_Q} {v0 : Nat} {v1 : Int32} {w0 : Int32} (kk : am_W m_L_isSound d mc ms al bc bs 45 [(0, .ref v0), (1, .int v1)] [.int 1, .int w0] Γ I L Q) : am_W m_L_isSound d mc ms al bc bs 40 [(0, .ref v0), (1, .int v1)] [.int w0] Γ I L Q := by
  refine aw_iconst dL_isSound_40 ci_1 ?_
  exact aw_goto dL_isSound_41 (by decide) kk
theorem bL_isSound_44 {d mc ms : Nat} {al : Bool} {bc bs : Nat} {Γ : am_G} {I : am_I} {L : am_L} {Q : am_Q} {v0 : Nat} {v1 : Int32} {w0 : Int32} (kk : am_W m_L_isSound d mc ms al bc bs 45 [(0, .ref v0), (1, .int v1)] [.int 0, .int w0] Γ I L Q) : am_W m_L_isSound d mc ms al bc bs 44 [(0, .ref v0), (1, .int v1)] [.int w0] Γ I L Q := by
  refine aw_iconst dL_isSound_44 ci_0 ?_
  exact kk
theorem bL_isSound_45 {d mc ms : Nat} {al : Bool} {bc bs : Nat} {Γ : am_G} {I : am_I} {L : am_L} {Q : am_Q} {v0 : Nat} {v1 : Int32} {w0 : Int32} {w1 : Int32} (kt : w0 = w1 → am_W m_L_isSound d mc ms al bc bs 50 [(0, .ref v0), (1, .int v1)] [] Γ I L Q) (kf : ¬ w0 = w1 → am_W m_L_isSound d mc ms al bc bs 48 [(0, .ref v0), (1, .int v1)] [] Γ I L Q) : am_W m_L_isSound d mc ms al bc bs 45 [(0, .ref v0), (1, .int v1)] [.int w1, .int w0] Γ I L Q := by
  exact aw_icmp_eq dL_isSound_45 (by decide) kt kf
theorem bL_isSound_48 {d mc ms : Nat} {al : Bool} {bc bs : Nat} {Γ : am_G} {I : am_I} {L : am_L} {Q : am_Q} {v0 : Nat} {v1 : Int32} (hq : Q (.inl (some (.int 0))) Γ I L) : am_W m_L_isSound d mc ms al bc bs 48 [(0, .ref v0), (1, .int v1)] [] Γ I L Q := by
  refine aw_iconst dL_isSound_48 ci_0 ?_
  exact aw_zret (ty := .boolean) dL_isSound_49 rfl rfl hq
theorem bL_isSound_50 {d mc ms : Nat} {al : Bool} {bc bs : Nat} {Γ : am_G} {I : am_I} {L : am_L} {Q : am_Q} {v0 : Nat} {v1 : Int32} {I' : am_I} {L' : am_L} {mc' : Nat} {ms' : Nat} {r : Int32} (hbc : mc' ≤ bc) (hbs : ms' ≤ bs) (hC : am_E m_L_sufficientLimit d mc' ms' [.ref v0, .int v1] Γ I L (.inl (some (.int r))) I' L') (kk : am_W m_L_isSound (d + 1) mc ms al (bc - mc') (bs - ms') 55 [(0, .ref v0), (1, .int v1)] [.int r] Γ I' L' Q) : am_W m_L_isSound (d + 1) mc ms al bc bs 50 [(0, .ref v0), (1, .int v1)] [] Γ I L Q := by
  refine aw_aload_n dL_isSound_50 rfl ?_
  refine aw_iload_n dL_isSound_51 rfl ?_
  exact aw_askSW (as := [.ref v0, .int v1]) (rst := []) kw_L_sufficientLimit (by decide) rfl l_L_190 t_L_sufficientLimit dL_isSound_52 rfl (Nat.le_of_ble_eq_true rfl) hbc hbs hC rfl rfl kk
theorem bL_isSound_55 {d mc ms : Nat} {al : Bool} {bc bs : Nat} {Γ : am_G} {I : am_I} {L : am_L} {Q : am_Q} {v0 : Nat} {v1 : Int32} {w0 : Int32} {I' : am_I} {L' : am_L} {mc' : Nat} {ms' : Nat} {r : Int32} (hbc : mc' ≤ bc) (hbs : ms' ≤ bs) (hC : am_E m_L_bestErrors d mc' ms' [.ref v0, .int v1, .int w0] Γ I L (.inl (some (.int r))) I' L') (kk : am_W m_L_isSound (d + 1) mc ms al (bc - mc') (bs - ms') 62 [(0, .ref v0), (1, .int v1), (2, .int w0)] [.int r] Γ I' L' Q) : am_W m_L_isSound (d + 1) mc ms al bc bs 55 [(0, .ref v0), (1, .int v1)] [.int w0] Γ I L Q := by
  refine aw_istore_n (ls' := [(0, .ref v0), (1, .int v1), (2, .int w0)]) dL_isSound_55 (by decide) rfl ?_
  refine aw_aload_n dL_isSound_56 rfl ?_
  refine aw_iload_n dL_isSound_57 rfl ?_
  refine aw_iload_n dL_isSound_58 rfl ?_
  exact aw_askSW (as := [.ref v0, .int v1, .int w0]) (rst := []) kw_L_bestErrors (by decide) rfl l_L_192 t_L_bestErrors dL_isSound_59 rfl (Nat.le_of_ble_eq_true rfl) hbc hbs hC rfl rfl kk
theorem bL_isSound_62 {d mc ms : Nat} {al : Bool} {bc bs : Nat} {Γ : am_G} {I : am_I} {L : am_L} {Q : am_Q} {v0 : Nat} {v1 : Int32} {v2 : Int32} {w0 : Int32} {I' : am_I} {L' : am_L} {mc' : Nat} {ms' : Nat} {r : Int32} (hbc : mc' ≤ bc) (hbs : ms' ≤ bs) (hC : am_E m_L_bestErrors d mc' ms' [.ref v0, .int v1, .int 30] Γ I L (.inl (some (.int r))) I' L') (kk : am_W m_L_isSound (d + 1) mc ms al (bc - mc') (bs - ms') 69 [(0, .ref v0), (1, .int v1), (2, .int v2)] [.int r, .int w0] Γ I' L' Q) : am_W m_L_isSound (d + 1) mc ms al bc bs 62 [(0, .ref v0), (1, .int v1), (2, .int v2)] [.int w0] Γ I L Q := by
  refine aw_aload_n dL_isSound_62 rfl ?_
  refine aw_iload_n dL_isSound_63 rfl ?_
  refine aw_bipush dL_isSound_64 cb_30 ?_
  exact aw_askSW (as := [.ref v0, .int v1, .int 30]) (rst := [.int w0]) kw_L_bestErrors (by decide) rfl l_L_192 t_L_bestErrors dL_isSound_66 rfl (Nat.le_of_ble_eq_true rfl) hbc hbs hC rfl rfl kk
theorem bL_isSound_69 {d mc ms : Nat} {al : Bool} {bc bs : Nat} {Γ : am_G} {I : am_I} {L : am_L} {Q : am_Q} {v0 : Nat} {v1 : Int32} {v2 : Int32} {w0 : Int32} {w1 : Int32} (kt : ¬ w0 = w1 → am_W m_L_isSound d mc ms al bc bs 94 [(0, .ref v0), (1, .int v1), (2, .int v2)] [] Γ I L Q) (kf : w0 = w1 → am_W m_L_isSound d mc ms al bc bs 72 [(0, .ref v0), (1, .int v1), (2, .int v2)] [] Γ I L Q) : am_W m_L_isSound d mc ms al bc bs 69 [(0, .ref v0), (1, .int v1), (2, .int v2)] [.int w1, .int w0] Γ I L Q := by
  exact aw_icmp_ne dL_isSound_69 (by decide) kt kf
theorem bL_isSound_72 {d mc ms : Nat} {al : Bool} {bc bs : Nat} {Γ : am_G} {I : am_I} {L : am_L} {Q : am_Q} {v0 : Nat} {v1 : Int32} {v2 : Int32} (kt : v2 ≤ 0 → am_W m_L_isSound d mc ms al bc bs 96 [(0, .ref v0), (1, .int v1), (2, .int v2)] [] Γ I L Q) (kf : ¬ v2 ≤ 0 → am_W m_L_isSound d mc ms al bc bs 76 [(0, .ref v0), (1, .int v1), (2, .int v2)] [] Γ I L Q) : am_W m_L_isSound d mc ms al bc bs 72 [(0, .ref v0), (1, .int v1), (2, .int v2)] [] Γ I L Q := by
  refine aw_iload_n dL_isSound_72 rfl ?_
  exact aw_if_le dL_isSound_73 (by decide) kt kf
theorem bL_isSound_76 {d mc ms : Nat} {al : Bool} {bc bs : Nat} {Γ : am_G} {I : am_I} {L : am_L} {Q : am_Q} {v0 : Nat} {v1 : Int32} {v2 : Int32} {I' : am_I} {L' : am_L} {mc' : Nat} {ms' : Nat} {r : Int32} (hbc : mc' ≤ bc) (hbs : ms' ≤ bs) (hC : am_E m_L_bestErrors d mc' ms' [.ref v0, .int v1, .int (v2 - 1)] Γ I L (.inl (some (.int r))) I' L') (kk : am_W m_L_isSound (d + 1) mc ms al (bc - mc') (bs - ms') 84 [(0, .ref v0), (1, .int v1), (2, .int v2)] [.int r] Γ I' L' Q) : am_W m_L_isSound (d + 1) mc ms al bc bs 76 [(0, .ref v0), (1, .int v1), (2, .int v2)] [] Γ I L Q := by
  refine aw_aload_n dL_isSound_76 rfl ?_
  refine aw_iload_n dL_isSound_77 rfl ?_
  refine aw_iload_n dL_isSound_78 rfl ?_
  refine aw_iconst dL_isSound_79 ci_1 ?_
  refine aw_isub dL_isSound_80 ?_
  exact aw_askSW (as := [.ref v0, .int v1, .int (v2 - 1)]) (rst := []) kw_L_bestErrors (by decide) rfl l_L_192 t_L_bestErrors dL_isSound_81 rfl (Nat.le_of_ble_eq_true rfl) hbc hbs hC rfl rfl kk
theorem bL_isSound_84 {d mc ms : Nat} {al : Bool} {bc bs : Nat} {Γ : am_G} {I : am_I} {L : am_L} {Q : am_Q} {v0 : Nat} {v1 : Int32} {v2 : Int32} {w0 : Int32} {I' : am_I} {L' : am_L} {mc' : Nat} {ms' : Nat} {r : Int32} (hbc : mc' ≤ bc) (hbs : ms' ≤ bs) (hC : am_E m_L_bestErrors d mc' ms' [.ref v0, .int v1, .int 30] Γ I L (.inl (some (.int r))) I' L') (kk : am_W m_L_isSound (d + 1) mc ms al (bc - mc') (bs - ms') 91 [(0, .ref v0), (1, .int v1), (2, .int v2)] [.int r, .int w0] Γ I' L' Q) : am_W m_L_isSound (d + 1) mc ms al bc bs 84 [(0, .ref v0), (1, .int v1), (2, .int v2)] [.int w0] Γ I L Q := by
  refine aw_aload_n dL_isSound_84 rfl ?_
  refine aw_iload_n dL_isSound_85 rfl ?_
  refine aw_bipush dL_isSound_86 cb_30 ?_
  exact aw_askSW (as := [.ref v0, .int v1, .int 30]) (rst := [.int w0]) kw_L_bestErrors (by decide) rfl l_L_192 t_L_bestErrors dL_isSound_88 rfl (Nat.le_of_ble_eq_true rfl) hbc hbs hC rfl rfl kk
theorem bL_isSound_91 {d mc ms : Nat} {al : Bool} {bc bs : Nat} {Γ : am_G} {I : am_I} {L : am_L} {Q : am_Q} {v0 : Nat} {v1 : Int32} {v2 : Int32} {w0 : Int32} {w1 : Int32} (kt : w1 < w0 → am_W m_L_isSound d mc ms al bc bs 96 [(0, .ref v0), (1, .int v1), (2, .int v2)] [] Γ I L Q) (kf : ¬ w1 < w0 → am_W m_L_isSound d mc ms al bc bs 94 [(0, .ref v0), (1, .int v1), (2, .int v2)] [] Γ I L Q) : am_W m_L_isSound d mc ms al bc bs 91 [(0, .ref v0), (1, .int v1), (2, .int v2)] [.int w1, .int w0] Γ I L Q := by
  exact aw_icmp_gt dL_isSound_91 (by decide) kt kf
theorem bL_isSound_94 {d mc ms : Nat} {al : Bool} {bc bs : Nat} {Γ : am_G} {I : am_I} {L : am_L} {Q : am_Q} {v0 : Nat} {v1 : Int32} {v2 : Int32} (hq : Q (.inl (some (.int 0))) Γ I L) : am_W m_L_isSound d mc ms al bc bs 94 [(0, .ref v0), (1, .int v1), (2, .int v2)] [] Γ I L Q := by
  refine aw_iconst dL_isSound_94 ci_0 ?_
  exact aw_zret (ty := .boolean) dL_isSound_95 rfl rfl hq
theorem bL_isSound_96 {d mc ms : Nat} {al : Bool} {bc bs : Nat} {Γ : am_G} {I : am_I} {L : am_L} {Q : am_Q} {v0 : Nat} {v1 : Int32} {v2 : Int32} {I' : am_I} {L' : am_L} {mc' : Nat} {ms' : Nat} {r : Int32} (hbc : mc' ≤ bc) (hbs : ms' ≤ bs) (hC : am_E m_L_costLimit d mc' ms' [.ref v0, .int v1] Γ I L (.inl (some (.int r))) I' L') (kk : am_W m_L_isSound (d + 1) mc ms al (bc - mc') (bs - ms') 101 [(0, .ref v0), (1, .int v1), (2, .int v2)] [.int r] Γ I' L' Q) : am_W m_L_isSound (d + 1) mc ms al bc bs 96 [(0, .ref v0), (1, .int v1), (2, .int v2)] [] Γ I L Q := by
  refine aw_aload_n dL_isSound_96 rfl ?_
  refine aw_iload_n dL_isSound_97 rfl ?_
  exact aw_askSW (as := [.ref v0, .int v1]) (rst := []) kw_L_costLimit (by decide) rfl l_L_194 t_L_costLimit dL_isSound_98 rfl (Nat.le_of_ble_eq_true rfl) hbc hbs hC rfl rfl kk
theorem bL_isSound_101 {d mc ms : Nat} {al : Bool} {bc bs : Nat} {Γ : am_G} {I : am_I} {L : am_L} {Q : am_Q} {v0 : Nat} {v1 : Int32} {v2 : Int32} {w0 : Int32} (kk : am_W m_L_isSound d mc ms al bc bs 105 [(0, .ref v0), (1, .int v1), (2, .int v2), (3, .int w0), (4, .int 0)] [] Γ I L Q) : am_W m_L_isSound d mc ms al bc bs 101 [(0, .ref v0), (1, .int v1), (2, .int v2)] [.int w0] Γ I L Q := by
  refine aw_istore_n (ls' := [(0, .ref v0), (1, .int v1), (2, .int v2), (3, .int w0)]) dL_isSound_101 (by decide) rfl ?_
  refine aw_iconst dL_isSound_102 ci_0 ?_
  refine aw_istore (ls' := [(0, .ref v0), (1, .int v1), (2, .int v2), (3, .int w0), (4, .int 0)]) dL_isSound_103 (by decide) rfl ?_
  exact kk
theorem bL_isSound_105 {d mc ms : Nat} {al : Bool} {bc bs : Nat} {Γ : am_G} {I : am_I} {L : am_L} {Q : am_Q} {v0 : Nat} {v1 : Int32} {v2 : Int32} {v3 : Int32} {v4 : Int32} {I' : am_I} {L' : am_L} {mc' : Nat} {ms' : Nat} {r : Int32} (o1 : am_ob Γ v0 8) (hbc : mc' ≤ bc) (hbs : ms' ≤ bs) (hC : am_E m_X8_questionCount d mc' ms' [.ref v0] Γ I L (.inl (some (.int r))) I' L') (kk : am_W m_L_isSound (d + 1) mc ms al (bc - mc') (bs - ms') 111 [(0, .ref v0), (1, .int v1), (2, .int v2), (3, .int v3), (4, .int v4)] [.int r, .int v4] Γ I' L' Q) : am_W m_L_isSound (d + 1) mc ms al bc bs 105 [(0, .ref v0), (1, .int v1), (2, .int v2), (3, .int v3), (4, .int v4)] [] Γ I L Q := by
  refine aw_iload dL_isSound_105 rfl ?_
  refine aw_aload_n dL_isSound_107 rfl ?_
  exact aw_askV (as := []) (rst := [.int v4]) k_X8_questionCount l_L_196 i_X8_questionCount s_X8_questionCount rfl o1 dL_isSound_108 rfl (Nat.le_of_ble_eq_true rfl) hbc hbs hC rfl rfl kk
theorem bL_isSound_111 {d mc ms : Nat} {al : Bool} {bc bs : Nat} {Γ : am_G} {I : am_I} {L : am_L} {Q : am_Q} {v0 : Nat} {v1 : Int32} {v2 : Int32} {v3 : Int32} {v4 : Int32} {w0 : Int32} {w1 : Int32} (kt : w1 ≤ w0 → am_W m_L_isSound d mc ms al bc bs 138 [(0, .ref v0), (1, .int v1), (2, .int v2), (3, .int v3), (4, .int v4)] [] Γ I L Q) (kf : ¬ w1 ≤ w0 → am_W m_L_isSound d mc ms al bc bs 114 [(0, .ref v0), (1, .int v1), (2, .int v2), (3, .int v3), (4, .int v4)] [] Γ I L Q) : am_W m_L_isSound d mc ms al bc bs 111 [(0, .ref v0), (1, .int v1), (2, .int v2), (3, .int v3), (4, .int v4)] [.int w1, .int w0] Γ I L Q := by
  exact aw_icmp_ge dL_isSound_111 (by decide) kt kf
theorem bL_isSound_114 {d mc ms : Nat} {al : Bool} {bc bs : Nat} {Γ : am_G} {I : am_I} {L : am_L} {Q : am_Q} {v0 : Nat} {v1 : Int32} {v2 : Int32} {v3 : Int32} {v4 : Int32} {I' : am_I} {L' : am_L} {mc' : Nat} {ms' : Nat} {r : Int32} (hbc : mc' ≤ bc) (hbs : ms' ≤ bs) (hC : am_E m_L_errorsWithout d mc' ms' [.ref v0, .int v1, .int v4] Γ I L (.inl (some (.int r))) I' L') (kk : am_W m_L_isSound (d + 1) mc ms al (bc - mc') (bs - ms') 121 [(0, .ref v0), (1, .int v1), (2, .int v2), (3, .int v3), (4, .int v4)] [.int r] Γ I' L' Q) : am_W m_L_isSound (d + 1) mc ms al bc bs 114 [(0, .ref v0), (1, .int v1), (2, .int v2), (3, .int v3), (4, .int v4)] [] Γ I L Q := by
  refine aw_aload_n dL_isSound_114 rfl ?_
  refine aw_iload_n dL_isSound_115 rfl ?_
  refine aw_iload dL_isSound_116 rfl ?_
  exact aw_askSW (as := [.ref v0, .int v1, .int v4]) (rst := []) kw_L_errorsWithout (by decide) rfl l_L_199 t_L_errorsWithout dL_isSound_118 rfl (Nat.le_of_ble_eq_true rfl) hbc hbs hC rfl rfl kk
theorem bL_isSound_121 {d mc ms : Nat} {al : Bool} {bc bs : Nat} {Γ : am_G} {I : am_I} {L : am_L} {Q : am_Q} {v0 : Nat} {v1 : Int32} {v2 : Int32} {v3 : Int32} {v4 : Int32} {w0 : Int32} {I' : am_I} {L' : am_L} {mc' : Nat} {ms' : Nat} {r : Int32} (hbc : mc' ≤ bc) (hbs : ms' ≤ bs) (hC : am_E m_L_bestErrors d mc' ms' [.ref v0, .int v1, .int v3] Γ I L (.inl (some (.int r))) I' L') (kk : am_W m_L_isSound (d + 1) mc ms al (bc - mc') (bs - ms') 127 [(0, .ref v0), (1, .int v1), (2, .int v2), (3, .int v3), (4, .int v4)] [.int r, .int w0] Γ I' L' Q) : am_W m_L_isSound (d + 1) mc ms al bc bs 121 [(0, .ref v0), (1, .int v1), (2, .int v2), (3, .int v3), (4, .int v4)] [.int w0] Γ I L Q := by
  refine aw_aload_n dL_isSound_121 rfl ?_
  refine aw_iload_n dL_isSound_122 rfl ?_
  refine aw_iload_n dL_isSound_123 rfl ?_
  exact aw_askSW (as := [.ref v0, .int v1, .int v3]) (rst := [.int w0]) kw_L_bestErrors (by decide) rfl l_L_192 t_L_bestErrors dL_isSound_124 rfl (Nat.le_of_ble_eq_true rfl) hbc hbs hC rfl rfl kk
theorem bL_isSound_127 {d mc ms : Nat} {al : Bool} {bc bs : Nat} {Γ : am_G} {I : am_I} {L : am_L} {Q : am_Q} {v0 : Nat} {v1 : Int32} {v2 : Int32} {v3 : Int32} {v4 : Int32} {w0 : Int32} {w1 : Int32} (kt : w1 ≤ w0 → am_W m_L_isSound d mc ms al bc bs 132 [(0, .ref v0), (1, .int v1), (2, .int v2), (3, .int v3), (4, .int v4)] [] Γ I L Q) (kf : ¬ w1 ≤ w0 → am_W m_L_isSound d mc ms al bc bs 130 [(0, .ref v0), (1, .int v1), (2, .int v2), (3, .int v3), (4, .int v4)] [] Γ I L Q) : am_W m_L_isSound d mc ms al bc bs 127 [(0, .ref v0), (1, .int v1), (2, .int v2), (3, .int v3), (4, .int v4)] [.int w1, .int w0] Γ I L Q := by
  exact aw_icmp_ge dL_isSound_127 (by decide) kt kf
theorem bL_isSound_130 {d mc ms : Nat} {al : Bool} {bc bs : Nat} {Γ : am_G} {I : am_I} {L : am_L} {Q : am_Q} {v0 : Nat} {v1 : Int32} {v2 : Int32} {v3 : Int32} {v4 : Int32} (hq : Q (.inl (some (.int 0))) Γ I L) : am_W m_L_isSound d mc ms al bc bs 130 [(0, .ref v0), (1, .int v1), (2, .int v2), (3, .int v3), (4, .int v4)] [] Γ I L Q := by
  refine aw_iconst dL_isSound_130 ci_0 ?_
  exact aw_zret (ty := .boolean) dL_isSound_131 rfl rfl hq
theorem bL_isSound_132 {d mc ms : Nat} {al : Bool} {bc bs : Nat} {Γ : am_G} {I : am_I} {L : am_L} {Q : am_Q} {v0 : Nat} {v1 : Int32} {v2 : Int32} {v3 : Int32} {v4 : Int32} (kk : am_W m_L_isSound d mc ms al bc bs 105 [(0, .ref v0), (1, .int v1), (2, .int v2), (3, .int v3), (4, .int (v4 + 1))] [] Γ I L Q) : am_W m_L_isSound d mc ms al bc bs 132 [(0, .ref v0), (1, .int v1), (2, .int v2), (3, .int v3), (4, .int v4)] [] Γ I L Q := by
  refine aw_iinc (ls' := [(0, .ref v0), (1, .int v1), (2, .int v2), (3, .int v3), (4, .int (v4 + 1))]) dL_isSound_132 rfl (cn_1 _) (by decide) rfl ?_
  exact aw_goto dL_isSound_135 (by decide) kk
theorem bL_isSound_138 {d mc ms : Nat} {al : Bool} {bc bs : Nat} {Γ : am_G} {I : am_I} {L : am_L} {Q : am_Q} {v0 : Nat} {v1 : Int32} {v2 : Int32} {v3 : Int32} {v4 : Int32} {I' : am_I} {L' : am_L} {mc' : Nat} {ms' : Nat} {r : Int32} (hbc : mc' ≤ bc) (hbs : ms' ≤ bs) (hC : am_E m_L_bestErrors d mc' ms' [.ref v0, .int v1, .int v3] Γ I L (.inl (some (.int r))) I' L') (kk : am_W m_L_isSound (d + 1) mc ms al (bc - mc') (bs - ms') 144 [(0, .ref v0), (1, .int v1), (2, .int v2), (3, .int v3), (4, .int v4)] [.int r] Γ I' L' Q) : am_W m_L_isSound (d + 1) mc ms al bc bs 138 [(0, .ref v0), (1, .int v1), (2, .int v2), (3, .int v3), (4, .int v4)] [] Γ I L Q := by
  refine aw_aload_n dL_isSound_138 rfl ?_
  refine aw_iload_n dL_isSound_139 rfl ?_
  refine aw_iload_n dL_isSound_140 rfl ?_
  exact aw_askSW (as := [.ref v0, .int v1, .int v3]) (rst := []) kw_L_bestErrors (by decide) rfl l_L_192 t_L_bestErrors dL_isSound_141 rfl (Nat.le_of_ble_eq_true rfl) hbc hbs hC rfl rfl kk
theorem bL_isSound_144 {d mc ms : Nat} {al : Bool} {bc bs : Nat} {Γ : am_G} {I : am_I} {L : am_L} {Q : am_Q} {v0 : Nat} {v1 : Int32} {v2 : Int32} {v3 : Int32} {v4 : Int32} {w0 : Int32} {I' : am_I} {L' : am_L} {mc' : Nat} {ms' : Nat} {r : Int32} (hbc : mc' ≤ bc) (hbs : ms' ≤ bs) (hC : am_E m_L_bestErrors d mc' ms' [.ref v0, .int v1, .int 0] Γ I L (.inl (some (.int r))) I' L') (kk : am_W m_L_isSound (d + 1) mc ms al (bc - mc') (bs - ms') 150 [(0, .ref v0), (1, .int v1), (2, .int v2), (3, .int v3), (4, .int v4)] [.int r, .int w0] Γ I' L' Q) : am_W m_L_isSound (d + 1) mc ms al bc bs 144 [(0, .ref v0), (1, .int v1), (2, .int v2), (3, .int v3), (4, .int v4)] [.int w0] Γ I L Q := by
  refine aw_aload_n dL_isSound_144 rfl ?_
  refine aw_iload_n dL_isSound_145 rfl ?_
  refine aw_iconst dL_isSound_146 ci_0 ?_
  exact aw_askSW (as := [.ref v0, .int v1, .int 0]) (rst := [.int w0]) kw_L_bestErrors (by decide) rfl l_L_192 t_L_bestErrors dL_isSound_147 rfl (Nat.le_of_ble_eq_true rfl) hbc hbs hC rfl rfl kk
theorem bL_isSound_150 {d mc ms : Nat} {al : Bool} {bc bs : Nat} {Γ : am_G} {I : am_I} {L : am_L} {Q : am_Q} {v0 : Nat} {v1 : Int32} {v2 : Int32} {v3 : Int32} {v4 : Int32} {w0 : Int32} {w1 : Int32} (kt : w1 < w0 → am_W m_L_isSound d mc ms al bc bs 193 [(0, .ref v0), (1, .int v1), (2, .int v2), (3, .int v3), (4, .int v4)] [] Γ I L Q) (kf : ¬ w1 < w0 → am_W m_L_isSound d mc ms al bc bs 153 [(0, .ref v0), (1, .int v1), (2, .int v2), (3, .int v3), (4, .int v4)] [] Γ I L Q) : am_W m_L_isSound d mc ms al bc bs 150 [(0, .ref v0), (1, .int v1), (2, .int v2), (3, .int v3), (4, .int v4)] [.int w1, .int w0] Γ I L Q := by
  exact aw_icmp_gt dL_isSound_150 (by decide) kt kf
theorem bL_isSound_153 {d mc ms : Nat} {al : Bool} {bc bs : Nat} {Γ : am_G} {I : am_I} {L : am_L} {Q : am_Q} {v0 : Nat} {v1 : Int32} {v2 : Int32} {v3 : Int32} {v4 : Int32} (kt : v3 ≤ 0 → am_W m_L_isSound d mc ms al bc bs 174 [(0, .ref v0), (1, .int v1), (2, .int v2), (3, .int v3), (4, .int v4)] [] Γ I L Q) (kf : ¬ v3 ≤ 0 → am_W m_L_isSound d mc ms al bc bs 157 [(0, .ref v0), (1, .int v1), (2, .int v2), (3, .int v3), (4, .int v4)] [] Γ I L Q) : am_W m_L_isSound d mc ms al bc bs 153 [(0, .ref v0), (1, .int v1), (2, .int v2), (3, .int v3), (4, .int v4)] [] Γ I L Q := by
  refine aw_iload_n dL_isSound_153 rfl ?_
  exact aw_if_le dL_isSound_154 (by decide) kt kf
theorem bL_isSound_157 {d mc ms : Nat} {al : Bool} {bc bs : Nat} {Γ : am_G} {I : am_I} {L : am_L} {Q : am_Q} {v0 : Nat} {v1 : Int32} {v2 : Int32} {v3 : Int32} {v4 : Int32} {I' : am_I} {L' : am_L} {mc' : Nat} {ms' : Nat} {r : Int32} (hbc : mc' ≤ bc) (hbs : ms' ≤ bs) (hC : am_E m_L_bestErrors d mc' ms' [.ref v0, .int v1, .int v3] Γ I L (.inl (some (.int r))) I' L') (kk : am_W m_L_isSound (d + 1) mc ms al (bc - mc') (bs - ms') 163 [(0, .ref v0), (1, .int v1), (2, .int v2), (3, .int v3), (4, .int v4)] [.int r] Γ I' L' Q) : am_W m_L_isSound (d + 1) mc ms al bc bs 157 [(0, .ref v0), (1, .int v1), (2, .int v2), (3, .int v3), (4, .int v4)] [] Γ I L Q := by
  refine aw_aload_n dL_isSound_157 rfl ?_
  refine aw_iload_n dL_isSound_158 rfl ?_
  refine aw_iload_n dL_isSound_159 rfl ?_
  exact aw_askSW (as := [.ref v0, .int v1, .int v3]) (rst := []) kw_L_bestErrors (by decide) rfl l_L_192 t_L_bestErrors dL_isSound_160 rfl (Nat.le_of_ble_eq_true rfl) hbc hbs hC rfl rfl kk
theorem bL_isSound_163 {d mc ms : Nat} {al : Bool} {bc bs : Nat} {Γ : am_G} {I : am_I} {L : am_L} {Q : am_Q} {v0 : Nat} {v1 : Int32} {v2 : Int32} {v3 : Int32} {v4 : Int32} {w0 : Int32} {I' : am_I} {L' : am_L} {mc' : Nat} {ms' : Nat} {r : Int32} (hbc : mc' ≤ bc) (hbs : ms' ≤ bs) (hC : am_E m_L_bestErrors d mc' ms' [.ref v0, .int v1, .int (v3 - 1)] Γ I L (.inl (some (.int r))) I' L') (kk : am_W m_L_isSound (d + 1) mc ms al (bc - mc') (bs - ms') 171 [(0, .ref v0), (1, .int v1), (2, .int v2), (3, .int v3), (4, .int v4)] [.int r, .int w0] Γ I' L' Q) : am_W m_L_isSound (d + 1) mc ms al bc bs 163 [(0, .ref v0), (1, .int v1), (2, .int v2), (3, .int v3), (4, .int v4)] [.int w0] Γ I L Q := by
  refine aw_aload_n dL_isSound_163 rfl ?_
  refine aw_iload_n dL_isSound_164 rfl ?_
  refine aw_iload_n dL_isSound_165 rfl ?_
  refine aw_iconst dL_isSound_166 ci_1 ?_
  refine aw_isub dL_isSound_167 ?_
  exact aw_askSW (as := [.ref v0, .int v1, .int (v3 - 1)]) (rst := [.int w0]) kw_L_bestErrors (by decide) rfl l_L_192 t_L_bestErrors dL_isSound_168 rfl (Nat.le_of_ble_eq_true rfl) hbc hbs hC rfl rfl kk
theorem bL_isSound_171 {d mc ms : Nat} {al : Bool} {bc bs : Nat} {Γ : am_G} {I : am_I} {L : am_L} {Q : am_Q} {v0 : Nat} {v1 : Int32} {v2 : Int32} {v3 : Int32} {v4 : Int32} {w0 : Int32} {w1 : Int32} (kt : w1 < w0 → am_W m_L_isSound d mc ms al bc bs 193 [(0, .ref v0), (1, .int v1), (2, .int v2), (3, .int v3), (4, .int v4)] [] Γ I L Q) (kf : ¬ w1 < w0 → am_W m_L_isSound d mc ms al bc bs 174 [(0, .ref v0), (1, .int v1), (2, .int v2), (3, .int v3), (4, .int v4)] [] Γ I L Q) : am_W m_L_isSound d mc ms al bc bs 171 [(0, .ref v0), (1, .int v1), (2, .int v2), (3, .int v3), (4, .int v4)] [.int w1, .int w0] Γ I L Q := by
  exact aw_icmp_gt dL_isSound_171 (by decide) kt kf
theorem bL_isSound_174 {d mc ms : Nat} {al : Bool} {bc bs : Nat} {Γ : am_G} {I : am_I} {L : am_L} {Q : am_Q} {v0 : Nat} {v1 : Int32} {v2 : Int32} {v3 : Int32} {v4 : Int32} {I' : am_I} {L' : am_L} {mc' : Nat} {ms' : Nat} {r : Int32} (hbc : mc' ≤ bc) (hbs : ms' ≤ bs) (hC : am_E m_L_bestWork d mc' ms' [.ref v0, .int v1, .int 0] Γ I L (.inl (some (.int r))) I' L') (kk : am_W m_L_isSound (d + 1) mc ms al (bc - mc') (bs - ms') 180 [(0, .ref v0), (1, .int v1), (2, .int v2), (3, .int v3), (4, .int v4)] [.int r] Γ I' L' Q) : am_W m_L_isSound (d + 1) mc ms al bc bs 174 [(0, .ref v0), (1, .int v1), (2, .int v2), (3, .int v3), (4, .int v4)] [] Γ I L Q := by
  refine aw_aload_n dL_isSound_174 rfl ?_
  refine aw_iload_n dL_isSound_175 rfl ?_
  refine aw_iconst dL_isSound_176 ci_0 ?_
  exact aw_askSW (as := [.ref v0, .int v1, .int 0]) (rst := []) kw_L_bestWork (by decide) rfl l_L_201 t_L_bestWork dL_isSound_177 rfl (Nat.le_of_ble_eq_true rfl) hbc hbs hC rfl rfl kk
theorem bL_isSound_180 {d mc ms : Nat} {al : Bool} {bc bs : Nat} {Γ : am_G} {I : am_I} {L : am_L} {Q : am_Q} {v0 : Nat} {v1 : Int32} {v2 : Int32} {v3 : Int32} {v4 : Int32} {w0 : Int32} (kt : ¬ w0 = 0 → am_W m_L_isSound d mc ms al bc bs 193 [(0, .ref v0), (1, .int v1), (2, .int v2), (3, .int v3), (4, .int v4)] [] Γ I L Q) (kf : w0 = 0 → am_W m_L_isSound d mc ms al bc bs 183 [(0, .ref v0), (1, .int v1), (2, .int v2), (3, .int v3), (4, .int v4)] [] Γ I L Q) : am_W m_L_isSound d mc ms al bc bs 180 [(0, .ref v0), (1, .int v1), (2, .int v2), (3, .int v3), (4, .int v4)] [.int w0] Γ I L Q := by
  exact aw_if_ne dL_isSound_180 (by decide) kt kf
theorem bL_isSound_183 {d mc ms : Nat} {al : Bool} {bc bs : Nat} {Γ : am_G} {I : am_I} {L : am_L} {Q : am_Q} {v0 : Nat} {v1 : Int32} {v2 : Int32} {v3 : Int32} {v4 : Int32} {I' : am_I} {L' : am_L} {mc' : Nat} {ms' : Nat} {r : Int32} (hbc : mc' ≤ bc) (hbs : ms' ≤ bs) (hC : am_E m_L_bestRootQuestion d mc' ms' [.ref v0, .int v1, .int 0] Γ I L (.inl (some (.int r))) I' L') (kk : am_W m_L_isSound (d + 1) mc ms al (bc - mc') (bs - ms') 189 [(0, .ref v0), (1, .int v1), (2, .int v2), (3, .int v3), (4, .int v4)] [.int r] Γ I' L' Q) : am_W m_L_isSound (d + 1) mc ms al bc bs 183 [(0, .ref v0), (1, .int v1), (2, .int v2), (3, .int v3), (4, .int v4)] [] Γ I L Q := by
  refine aw_aload_n dL_isSound_183 rfl ?_
  refine aw_iload_n dL_isSound_184 rfl ?_
  refine aw_iconst dL_isSound_185 ci_0 ?_
  exact aw_askSW (as := [.ref v0, .int v1, .int 0]) (rst := []) kw_L_bestRootQuestion (by decide) rfl l_L_203 t_L_bestRootQuestion dL_isSound_186 rfl (Nat.le_of_ble_eq_true rfl) hbc hbs hC rfl rfl kk
theorem bL_isSound_189 {d mc ms : Nat} {al : Bool} {bc bs : Nat} {Γ : am_G} {I : am_I} {L : am_L} {Q : am_Q} {v0 : Nat} {v1 : Int32} {v2 : Int32} {v3 : Int32} {v4 : Int32} {w0 : Int32} (kt : w0 = (-1) → am_W m_L_isSound d mc ms al bc bs 195 [(0, .ref v0), (1, .int v1), (2, .int v2), (3, .int v3), (4, .int v4)] [] Γ I L Q) (kf : ¬ w0 = (-1) → am_W m_L_isSound d mc ms al bc bs 193 [(0, .ref v0), (1, .int v1), (2, .int v2), (3, .int v3), (4, .int v4)] [] Γ I L Q) : am_W m_L_isSound d mc ms al bc bs 189 [(0, .ref v0), (1, .int v1), (2, .int v2), (3, .int v3), (4, .int v4)] [.int w0] Γ I L Q := by
  refine aw_iconst dL_isSound_189 ci_m1 ?_
  exact aw_icmp_eq dL_isSound_190 (by decide) kt kf
theorem bL_isSound_193 {d mc ms : Nat} {al : Bool} {bc bs : Nat} {Γ : am_G} {I : am_I} {L : am_L} {Q : am_Q} {v0 : Nat} {v1 : Int32} {v2 : Int32} {v3 : Int32} {v4 : Int32} (hq : Q (.inl (some (.int 0))) Γ I L) : am_W m_L_isSound d mc ms al bc bs 193 [(0, .ref v0), (1, .int v1), (2, .int v2), (3, .int v3), (4, .int v4)] [] Γ I L Q := by
  refine aw_iconst dL_isSound_193 ci_0 ?_
  exact aw_zret (ty := .boolean) dL_isSound_194 rfl rfl hq
theorem bL_isSound_195 {d mc ms : Nat} {al : Bool} {bc bs : Nat} {Γ : am_G} {I : am_I} {L : am_L} {Q : am_Q} {v0 : Nat} {v1 : Int32} {v2 : Int32} {v3 : Int32} {v4 : Int32} (kk : am_W m_L_isSound d mc ms al bc bs 2 [(0, .ref v0), (1, .int (v1 + 1)), (2, .int v2), (3, .int v3), (4, .int v4)] [] Γ I L Q) : am_W m_L_isSound d mc ms al bc bs 195 [(0, .ref v0), (1, .int v1), (2, .int v2), (3, .int v3), (4, .int v4)] [] Γ I L Q := by
  refine aw_iinc (ls' := [(0, .ref v0), (1, .int (v1 + 1)), (2, .int v2), (3, .int v3), (4, .int v4)]) dL_isSound_195 rfl (cn_1 _) (by decide) rfl ?_
  exact aw_goto dL_isSound_198 (by decide) kk
theorem bL_isSound_201 {d mc ms : Nat} {al : Bool} {bc bs : Nat} {Γ : am_G} {I : am_I} {L : am_L} {Q : am_Q} {v0 : Nat} {v1 : Int32} {I' : am_I} {L' : am_L} {mc' : Nat} {ms' : Nat} {r : Int32} (o1 : am_ob Γ v0 8) (hbc : mc' ≤ bc) (hbs : ms' ≤ bs) (hC : am_E m_X8_inconsistencies d mc' ms' [.ref v0] Γ I L (.inl (some (.int r))) I' L') (kk : am_W m_L_isSound (d + 1) mc ms al (bc - mc') (bs - ms') 205 [(0, .ref v0), (1, .int v1)] [.int r] Γ I' L' Q) : am_W m_L_isSound (d + 1) mc ms al bc bs 201 [(0, .ref v0), (1, .int v1)] [] Γ I L Q := by
  refine aw_aload_n dL_isSound_201 rfl ?_
  exact aw_askV (as := []) (rst := []) k_X8_inconsistencies l_L_205 i_X8_inconsistencies s_X8_inconsistencies rfl o1 dL_isSound_202 rfl (Nat.le_of_ble_eq_true rfl) hbc hbs hC rfl rfl kk
theorem bL_isSound_205 {d mc ms : Nat} {al : Bool} {bc bs : Nat} {Γ : am_G} {I : am_I} {L : am_L} {Q : am_Q} {v0 : Nat} {v1 : Int32} {w0 : Int32} (kt : ¬ w0 = 0 → am_W m_L_isSound d mc ms al bc bs 249 [(0, .ref v0), (1, .int v1)] [] Γ I L Q) (kf : w0 = 0 → am_W m_L_isSound d mc ms al bc bs 208 [(0, .ref v0), (1, .int v1)] [] Γ I L Q) : am_W m_L_isSound d mc ms al bc bs 205 [(0, .ref v0), (1, .int v1)] [.int w0] Γ I L Q := by
  exact aw_if_ne dL_isSound_205 (by decide) kt kf
theorem bL_isSound_208 {d mc ms : Nat} {al : Bool} {bc bs : Nat} {Γ : am_G} {I : am_I} {L : am_L} {Q : am_Q} {v0 : Nat} {v1 : Int32} {I' : am_I} {L' : am_L} {mc' : Nat} {ms' : Nat} {r : Int32} (o1 : am_ob Γ v0 8) (hbc : mc' ≤ bc) (hbs : ms' ≤ bs) (hC : am_E m_X8_tollsPaid d mc' ms' [.ref v0] Γ I L (.inl (some (.int r))) I' L') (kk : am_W m_L_isSound (d + 1) mc ms al (bc - mc') (bs - ms') 212 [(0, .ref v0), (1, .int v1)] [.int r] Γ I' L' Q) : am_W m_L_isSound (d + 1) mc ms al bc bs 208 [(0, .ref v0), (1, .int v1)] [] Γ I L Q := by
  refine aw_aload_n dL_isSound_208 rfl ?_
  exact aw_askV (as := []) (rst := []) k_X8_tollsPaid l_L_208 i_X8_tollsPaid s_X8_tollsPaid rfl o1 dL_isSound_209 rfl (Nat.le_of_ble_eq_true rfl) hbc hbs hC rfl rfl kk
theorem bL_isSound_212 {d mc ms : Nat} {al : Bool} {bc bs : Nat} {Γ : am_G} {I : am_I} {L : am_L} {Q : am_Q} {v0 : Nat} {v1 : Int32} {w0 : Int32} {I' : am_I} {L' : am_L} {mc' : Nat} {ms' : Nat} {r : Int32} (o1 : am_ob Γ v0 8) (hbc : mc' ≤ bc) (hbs : ms' ≤ bs) (hC : am_E m_X8_tollsDue d mc' ms' [.ref v0] Γ I L (.inl (some (.int r))) I' L') (kk : am_W m_L_isSound (d + 1) mc ms al (bc - mc') (bs - ms') 216 [(0, .ref v0), (1, .int v1)] [.int r, .int w0] Γ I' L' Q) : am_W m_L_isSound (d + 1) mc ms al bc bs 212 [(0, .ref v0), (1, .int v1)] [.int w0] Γ I L Q := by
  refine aw_aload_n dL_isSound_212 rfl ?_
  exact aw_askV (as := []) (rst := [.int w0]) k_X8_tollsDue l_L_211 i_X8_tollsDue s_X8_tollsDue rfl o1 dL_isSound_213 rfl (Nat.le_of_ble_eq_true rfl) hbc hbs hC rfl rfl kk
theorem bL_isSound_216 {d mc ms : Nat} {al : Bool} {bc bs : Nat} {Γ : am_G} {I : am_I} {L : am_L} {Q : am_Q} {v0 : Nat} {v1 : Int32} {w0 : Int32} {w1 : Int32} {I' : am_I} {L' : am_L} {mc' : Nat} {ms' : Nat} {r : Int32} (o1 : am_ob Γ v0 8) (hbc : mc' ≤ bc) (hbs : ms' ≤ bs) (hC : am_E m_X8_overcharge d mc' ms' [.ref v0] Γ I L (.inl (some (.int r))) I' L') (kk : am_W m_L_isSound (d + 1) mc ms al (bc - mc') (bs - ms') 221 [(0, .ref v0), (1, .int v1)] [.int r, .int (w0 - w1)] Γ I' L' Q) : am_W m_L_isSound (d + 1) mc ms al bc bs 216 [(0, .ref v0), (1, .int v1)] [.int w1, .int w0] Γ I L Q := by
  refine aw_isub dL_isSound_216 ?_
  refine aw_aload_n dL_isSound_217 rfl ?_
  exact aw_askV (as := []) (rst := [.int (w0 - w1)]) k_X8_overcharge l_L_214 i_X8_overcharge s_X8_overcharge rfl o1 dL_isSound_218 rfl (Nat.le_of_ble_eq_true rfl) hbc hbs hC rfl rfl kk
theorem bL_isSound_221 {d mc ms : Nat} {al : Bool} {bc bs : Nat} {Γ : am_G} {I : am_I} {L : am_L} {Q : am_Q} {v0 : Nat} {v1 : Int32} {w0 : Int32} {w1 : Int32} {I' : am_I} {L' : am_L} {mc' : Nat} {ms' : Nat} {r : Int32} (o1 : am_ob Γ v0 8) (hbc : mc' ≤ bc) (hbs : ms' ≤ bs) (hC : am_E m_X8_undercharge d mc' ms' [.ref v0] Γ I L (.inl (some (.int r))) I' L') (kk : am_W m_L_isSound (d + 1) mc ms al (bc - mc') (bs - ms') 225 [(0, .ref v0), (1, .int v1)] [.int r, .int w1, .int w0] Γ I' L' Q) : am_W m_L_isSound (d + 1) mc ms al bc bs 221 [(0, .ref v0), (1, .int v1)] [.int w1, .int w0] Γ I L Q := by
  refine aw_aload_n dL_isSound_221 rfl ?_
  exact aw_askV (as := []) (rst := [.int w1, .int w0]) k_X8_undercharge l_L_217 i_X8_undercharge s_X8_undercharge rfl o1 dL_isSound_222 rfl (Nat.le_of_ble_eq_true rfl) hbc hbs hC rfl rfl kk
theorem bL_isSound_225 {d mc ms : Nat} {al : Bool} {bc bs : Nat} {Γ : am_G} {I : am_I} {L : am_L} {Q : am_Q} {v0 : Nat} {v1 : Int32} {w0 : Int32} {w1 : Int32} {w2 : Int32} (kt : ¬ w0 = (w1 - w2) → am_W m_L_isSound d mc ms al bc bs 249 [(0, .ref v0), (1, .int v1)] [] Γ I L Q) (kf : w0 = (w1 - w2) → am_W m_L_isSound d mc ms al bc bs 229 [(0, .ref v0), (1, .int v1)] [] Γ I L Q) : am_W m_L_isSound d mc ms al bc bs 225 [(0, .ref v0), (1, .int v1)] [.int w2, .int w1, .int w0] Γ I L Q := by
  refine aw_isub dL_isSound_225 ?_
  exact aw_icmp_ne dL_isSound_226 (by decide) kt kf
theorem bL_isSound_229 {d mc ms : Nat} {al : Bool} {bc bs : Nat} {Γ : am_G} {I : am_I} {L : am_L} {Q : am_Q} {v0 : Nat} {v1 : Int32} {I' : am_I} {L' : am_L} {mc' : Nat} {ms' : Nat} {r : Int32} (o1 : am_ob Γ v0 8) (hbc : mc' ≤ bc) (hbs : ms' ≤ bs) (hC : am_E m_X8_cartsOvercharged d mc' ms' [.ref v0] Γ I L (.inl (some (.int r))) I' L') (kk : am_W m_L_isSound (d + 1) mc ms al (bc - mc') (bs - ms') 233 [(0, .ref v0), (1, .int v1)] [.int r] Γ I' L' Q) : am_W m_L_isSound (d + 1) mc ms al bc bs 229 [(0, .ref v0), (1, .int v1)] [] Γ I L Q := by
  refine aw_aload_n dL_isSound_229 rfl ?_
  exact aw_askV (as := []) (rst := []) k_X8_cartsOvercharged l_L_220 i_X8_cartsOvercharged s_X8_cartsOvercharged rfl o1 dL_isSound_230 rfl (Nat.le_of_ble_eq_true rfl) hbc hbs hC rfl rfl kk
theorem bL_isSound_233 {d mc ms : Nat} {al : Bool} {bc bs : Nat} {Γ : am_G} {I : am_I} {L : am_L} {Q : am_Q} {v0 : Nat} {v1 : Int32} {w0 : Int32} {I' : am_I} {L' : am_L} {mc' : Nat} {ms' : Nat} {r : Int32} (o1 : am_ob Γ v0 8) (hbc : mc' ≤ bc) (hbs : ms' ≤ bs) (hC : am_E m_X8_cartsUndercharged d mc' ms' [.ref v0] Γ I L (.inl (some (.int r))) I' L') (kk : am_W m_L_isSound (d + 1) mc ms al (bc - mc') (bs - ms') 237 [(0, .ref v0), (1, .int v1)] [.int r, .int w0] Γ I' L' Q) : am_W m_L_isSound (d + 1) mc ms al bc bs 233 [(0, .ref v0), (1, .int v1)] [.int w0] Γ I L Q := by
  refine aw_aload_n dL_isSound_233 rfl ?_
  exact aw_askV (as := []) (rst := [.int w0]) k_X8_cartsUndercharged l_L_223 i_X8_cartsUndercharged s_X8_cartsUndercharged rfl o1 dL_isSound_234 rfl (Nat.le_of_ble_eq_true rfl) hbc hbs hC rfl rfl kk
theorem bL_isSound_237 {d mc ms : Nat} {al : Bool} {bc bs : Nat} {Γ : am_G} {I : am_I} {L : am_L} {Q : am_Q} {v0 : Nat} {v1 : Int32} {w0 : Int32} {w1 : Int32} {I' : am_I} {L' : am_L} {mc' : Nat} {ms' : Nat} {r : Int32} (o1 : am_ob Γ v0 8) (hbc : mc' ≤ bc) (hbs : ms' ≤ bs) (hC : am_E m_X8_cartsPassed d mc' ms' [.ref v0] Γ I L (.inl (some (.int r))) I' L') (kk : am_W m_L_isSound (d + 1) mc ms al (bc - mc') (bs - ms') 242 [(0, .ref v0), (1, .int v1)] [.int r, .int (w0 + w1)] Γ I' L' Q) : am_W m_L_isSound (d + 1) mc ms al bc bs 237 [(0, .ref v0), (1, .int v1)] [.int w1, .int w0] Γ I L Q := by
  refine aw_iadd dL_isSound_237 ?_
  refine aw_aload_n dL_isSound_238 rfl ?_
  exact aw_askV (as := []) (rst := [.int (w0 + w1)]) k_X8_cartsPassed l_L_226 i_X8_cartsPassed s_X8_cartsPassed rfl o1 dL_isSound_239 rfl (Nat.le_of_ble_eq_true rfl) hbc hbs hC rfl rfl kk
theorem bL_isSound_242 {d mc ms : Nat} {al : Bool} {bc bs : Nat} {Γ : am_G} {I : am_I} {L : am_L} {Q : am_Q} {v0 : Nat} {v1 : Int32} {w0 : Int32} {w1 : Int32} (kt : w1 < w0 → am_W m_L_isSound d mc ms al bc bs 249 [(0, .ref v0), (1, .int v1)] [] Γ I L Q) (kf : ¬ w1 < w0 → am_W m_L_isSound d mc ms al bc bs 245 [(0, .ref v0), (1, .int v1)] [] Γ I L Q) : am_W m_L_isSound d mc ms al bc bs 242 [(0, .ref v0), (1, .int v1)] [.int w1, .int w0] Γ I L Q := by
  exact aw_icmp_gt dL_isSound_242 (by decide) kt kf
theorem bL_isSound_245 {d mc ms : Nat} {al : Bool} {bc bs : Nat} {Γ : am_G} {I : am_I} {L : am_L} {Q : am_Q} {v0 : Nat} {v1 : Int32} (kk : am_W m_L_isSound d mc ms al bc bs 250 [(0, .ref v0), (1, .int v1)] [.int 1] Γ I L Q) : am_W m_L_isSound d mc ms al bc bs 245 [(0, .ref v0), (1, .int v1)] [] Γ I L Q := by
  refine aw_iconst dL_isSound_245 ci_1 ?_
  exact aw_goto dL_isSound_246 (by decide) kk
theorem bL_isSound_249 {d mc ms : Nat} {al : Bool} {bc bs : Nat} {Γ : am_G} {I : am_I} {L : am_L} {Q : am_Q} {v0 : Nat} {v1 : Int32} (kk : am_W m_L_isSound d mc ms al bc bs 250 [(0, .ref v0), (1, .int v1)] [.int 0] Γ I L Q) : am_W m_L_isSound d mc ms al bc bs 249 [(0, .ref v0), (1, .int v1)] [] Γ I L Q := by
  refine aw_iconst dL_isSound_249 ci_0 ?_
  exact kk
theorem bL_isSound_250 {d mc ms : Nat} {al : Bool} {bc bs : Nat} {Γ : am_G} {I : am_I} {L : am_L} {Q : am_Q} {v0 : Nat} {v1 : Int32} {w0 : Int32} (hz : narrow .boolean (.int w0) = .int w0) (hq : Q (.inl (some (.int w0))) Γ I L) : am_W m_L_isSound d mc ms al bc bs 250 [(0, .ref v0), (1, .int v1)] [.int w0] Γ I L Q := by
  exact aw_zret (ty := .boolean) dL_isSound_250 rfl hz hq
theorem dL_builds_0 : decode cL_builds 0 = .ok (.aload_n 0, 1) := by decide +kernel
theorem dL_builds_1 : decode cL_builds 1 = .ok (.iload_n 1, 1) := by decide +kernel
theorem dL_builds_2 : decode cL_builds 2 = .ok (.invokestatic 194, 3) := by decide +kernel
theorem dL_builds_5 : decode cL_builds 5 = .ok (.istore_n 2, 1) := by decide +kernel
theorem dL_builds_6 : decode cL_builds 6 = .ok (.aload_n 0, 1) := by decide +kernel
theorem dL_builds_7 : decode cL_builds 7 = .ok (.iload_n 1, 1) := by decide +kernel
theorem dL_builds_8 : decode cL_builds 8 = .ok (.iload_n 2, 1) := by decide +kernel
theorem dL_builds_9 : decode cL_builds 9 = .ok (.invokestatic 192, 3) := by decide +kernel
theorem dL_builds_12 : decode cL_builds 12 = .ok (.istore_n 3, 1) := by decide +kernel
theorem dL_builds_13 : decode cL_builds 13 = .ok (.aload_n 0, 1) := by decide +kernel
theorem dL_builds_14 : decode cL_builds 14 = .ok (.iload_n 1, 1) := by decide +kernel
theorem dL_builds_15 : decode cL_builds 15 = .ok (.iload_n 2, 1) := by decide +kernel
theorem dL_builds_16 : decode cL_builds 16 = .ok (.invokestatic 201, 3) := by decide +kernel
theorem dL_builds_19 : decode cL_builds 19 = .ok (.istore 4, 2) := by decide +kernel
theorem dL_builds_21 : decode cL_builds 21 = .ok (.aload_n 0, 1) := by decide +kernel
theorem dL_builds_22 : decode cL_builds 22 = .ok (.iload_n 1, 1) := by decide +kernel
theorem dL_builds_23 : decode cL_builds 23 = .ok (.iload_n 2, 1) := by decide +kernel
theorem dL_builds_24 : decode cL_builds 24 = .ok (.invokestatic 203, 3) := by decide +kernel
theorem dL_builds_27 : decode cL_builds 27 = .ok (.istore 5, 2) := by decide +kernel
theorem dL_builds_29 : decode cL_builds 29 = .ok (.aload_n 0, 1) := by decide +kernel
theorem dL_builds_30 : decode cL_builds 30 = .ok (.iload_n 1, 1) := by decide +kernel
theorem dL_builds_31 : decode cL_builds 31 = .ok (.invokestatic 229, 3) := by decide +kernel
theorem dL_builds_34 : decode cL_builds 34 = .ok (.aload_n 0, 1) := by decide +kernel
theorem dL_builds_35 : decode cL_builds 35 = .ok (.iload_n 1, 1) := by decide +kernel
theorem dL_builds_36 : decode cL_builds 36 = .ok (.invokestatic 149, 3) := by decide +kernel
theorem dL_builds_39 : decode cL_builds 39 = .ok (.if_icmp .ne 33, 3) := by decide +kernel
theorem dL_builds_42 : decode cL_builds 42 = .ok (.aload_n 0, 1) := by decide +kernel
theorem dL_builds_43 : decode cL_builds 43 = .ok (.iload_n 1, 1) := by decide +kernel
theorem dL_builds_44 : decode cL_builds 44 = .ok (.invokestatic 175, 3) := by decide +kernel
theorem dL_builds_47 : decode cL_builds 47 = .ok (.iload_n 3, 1) := by decide +kernel
theorem dL_builds_48 : decode cL_builds 48 = .ok (.if_icmp .ne 24, 3) := by decide +kernel
theorem dL_builds_51 : decode cL_builds 51 = .ok (.aload_n 0, 1) := by decide +kernel
theorem dL_builds_52 : decode cL_builds 52 = .ok (.iload_n 1, 1) := by decide +kernel
theorem dL_builds_53 : decode cL_builds 53 = .ok (.invokestatic 177, 3) := by decide +kernel
theorem dL_builds_56 : decode cL_builds 56 = .ok (.iload 4, 2) := by decide +kernel
theorem dL_builds_58 : decode cL_builds 58 = .ok (.if_icmp .ne 14, 3) := by decide +kernel
theorem dL_builds_61 : decode cL_builds 61 = .ok (.aload_n 0, 1) := by decide +kernel
theorem dL_builds_62 : decode cL_builds 62 = .ok (.iload_n 1, 1) := by decide +kernel
theorem dL_builds_63 : decode cL_builds 63 = .ok (.iconst 0, 1) := by decide +kernel
theorem dL_builds_64 : decode cL_builds 64 = .ok (.invokestatic 151, 3) := by decide +kernel
theorem dL_builds_67 : decode cL_builds 67 = .ok (.iload 5, 2) := by decide +kernel
theorem dL_builds_69 : decode cL_builds 69 = .ok (.if_icmp .eq 5, 3) := by decide +kernel
theorem dL_builds_72 : decode cL_builds 72 = .ok (.iconst 0, 1) := by decide +kernel
theorem dL_builds_73 : decode cL_builds 73 = .ok (.ireturn, 1) := by decide +kernel
theorem dL_builds_74 : decode cL_builds 74 = .ok (.iconst 0, 1) := by decide +kernel
theorem dL_builds_75 : decode cL_builds 75 = .ok (.istore 6, 2) := by decide +kernel
theorem dL_builds_77 : decode cL_builds 77 = .ok (.iload 6, 2) := by decide +kernel
theorem dL_builds_79 : decode cL_builds 79 = .ok (.aload_n 0, 1) := by decide +kernel
theorem dL_builds_80 : decode cL_builds 80 = .ok (.invokevirtual 143, 3) := by decide +kernel
theorem dL_builds_83 : decode cL_builds 83 = .ok (.if_icmp .ge 22, 3) := by decide +kernel
theorem dL_builds_86 : decode cL_builds 86 = .ok (.aload_n 0, 1) := by decide +kernel
theorem dL_builds_87 : decode cL_builds 87 = .ok (.iload_n 1, 1) := by decide +kernel
theorem dL_builds_88 : decode cL_builds 88 = .ok (.iload 6, 2) := by decide +kernel
theorem dL_builds_90 : decode cL_builds 90 = .ok (.invokestatic 167, 3) := by decide +kernel
theorem dL_builds_93 : decode cL_builds 93 = .ok (.iload_n 2, 1) := by decide +kernel
theorem dL_builds_94 : decode cL_builds 94 = .ok (.if_icmp .le 5, 3) := by decide +kernel
theorem dL_builds_97 : decode cL_builds 97 = .ok (.iconst 0, 1) := by decide +kernel
theorem dL_builds_98 : decode cL_builds 98 = .ok (.ireturn, 1) := by decide +kernel
theorem dL_builds_99 : decode cL_builds 99 = .ok (.iinc 6 1, 3) := by decide +kernel
theorem dL_builds_102 : decode cL_builds 102 = .ok (.goto (-25), 3) := by decide +kernel
theorem dL_builds_105 : decode cL_builds 105 = .ok (.aload_n 0, 1) := by decide +kernel
theorem dL_builds_106 : decode cL_builds 106 = .ok (.invokevirtual 231, 3) := by decide +kernel
theorem dL_builds_109 : decode cL_builds 109 = .ok (.iload_n 1, 1) := by decide +kernel
theorem dL_builds_110 : decode cL_builds 110 = .ok (.if_icmp .eq 7, 3) := by decide +kernel
theorem dL_builds_113 : decode cL_builds 113 = .ok (.iconst 1, 1) := by decide +kernel
theorem dL_builds_114 : decode cL_builds 114 = .ok (.goto 4, 3) := by decide +kernel
theorem dL_builds_117 : decode cL_builds 117 = .ok (.iconst 0, 1) := by decide +kernel
theorem dL_builds_118 : decode cL_builds 118 = .ok (.ireturn, 1) := by decide +kernel
theorem bL_builds_0 {d mc ms : Nat} {al : Bool} {bc bs : Nat} {Γ : am_G} {I : am_I} {L : am_L} {Q : am_Q} {v0 : Nat} {v1 : Int32} {I' : am_I} {L' : am_L} {mc' : Nat} {ms' : Nat} {r : Int32} (hbc : mc' ≤ bc) (hbs : ms' ≤ bs) (hC : am_E m_L_costLimit d mc' ms' [.ref v0, .int v1] Γ I L (.inl (some (.int r))) I' L') (kk : am_W m_L_builds (d + 1) mc ms al (bc - mc') (bs - ms') 5 [(0, .ref v0), (1, .int v1)] [.int r] Γ I' L' Q) : am_W m_L_builds (d + 1) mc ms al bc bs 0 [(0, .ref v0), (1, .int v1)] [] Γ I L Q := by
  refine aw_aload_n dL_builds_0 rfl ?_
  refine aw_iload_n dL_builds_1 rfl ?_
  exact aw_askSW (as := [.ref v0, .int v1]) (rst := []) kw_L_costLimit (by decide) rfl l_L_194 t_L_costLimit dL_builds_2 rfl (Nat.le_of_ble_eq_true rfl) hbc hbs hC rfl rfl kk
theorem bL_builds_5 {d mc ms : Nat} {al : Bool} {bc bs : Nat} {Γ : am_G} {I : am_I} {L : am_L} {Q : am_Q} {v0 : Nat} {v1 : Int32} {w0 : Int32} {I' : am_I} {L' : am_L} {mc' : Nat} {ms' : Nat} {r : Int32} (hbc : mc' ≤ bc) (hbs : ms' ≤ bs) (hC : am_E m_L_bestErrors d mc' ms' [.ref v0, .int v1, .int w0] Γ I L (.inl (some (.int r))) I' L') (kk : am_W m_L_builds (d + 1) mc ms al (bc - mc') (bs - ms') 12 [(0, .ref v0), (1, .int v1), (2, .int w0)] [.int r] Γ I' L' Q) : am_W m_L_builds (d + 1) mc ms al bc bs 5 [(0, .ref v0), (1, .int v1)] [.int w0] Γ I L Q := by
  refine aw_istore_n (ls' := [(0, .ref v0), (1, .int v1), (2, .int w0)]) dL_builds_5 (by decide) rfl ?_
  refine aw_aload_n dL_builds_6 rfl ?_
  refine aw_iload_n dL_builds_7 rfl ?_
  refine aw_iload_n dL_builds_8 rfl ?_
  exact aw_askSW (as := [.ref v0, .int v1, .int w0]) (rst := []) kw_L_bestErrors (by decide) rfl l_L_192 t_L_bestErrors dL_builds_9 rfl (Nat.le_of_ble_eq_true rfl) hbc hbs hC rfl rfl kk
theorem bL_builds_12 {d mc ms : Nat} {al : Bool} {bc bs : Nat} {Γ : am_G} {I : am_I} {L : am_L} {Q : am_Q} {v0 : Nat} {v1 : Int32} {v2 : Int32} {w0 : Int32} {I' : am_I} {L' : am_L} {mc' : Nat} {ms' : Nat} {r : Int32} (hbc : mc' ≤ bc) (hbs : ms' ≤ bs) (hC : am_E m_L_bestWork d mc' ms' [.ref v0, .int v1, .int v2] Γ I L (.inl (some (.int r))) I' L') (kk : am_W m_L_builds (d + 1) mc ms al (bc - mc') (bs - ms') 19 [(0, .ref v0), (1, .int v1), (2, .int v2), (3, .int w0)] [.int r] Γ I' L' Q) : am_W m_L_builds (d + 1) mc ms al bc bs 12 [(0, .ref v0), (1, .int v1), (2, .int v2)] [.int w0] Γ I L Q := by
  refine aw_istore_n (ls' := [(0, .ref v0), (1, .int v1), (2, .int v2), (3, .int w0)]) dL_builds_12 (by decide) rfl ?_
  refine aw_aload_n dL_builds_13 rfl ?_
  refine aw_iload_n dL_builds_14 rfl ?_
  refine aw_iload_n dL_builds_15 rfl ?_
  exact aw_askSW (as := [.ref v0, .int v1, .int v2]) (rst := []) kw_L_bestWork (by decide) rfl l_L_201 t_L_bestWork dL_builds_16 rfl (Nat.le_of_ble_eq_true rfl) hbc hbs hC rfl rfl kk
theorem bL_builds_19 {d mc ms : Nat} {al : Bool} {bc bs : Nat} {Γ : am_G} {I : am_I} {L : am_L} {Q : am_Q} {v0 : Nat} {v1 : Int32} {v2 : Int32} {v3 : Int32} {w0 : Int32} {I' : am_I} {L' : am_L} {mc' : Nat} {ms' : Nat} {r : Int32} (hbc : mc' ≤ bc) (hbs : ms' ≤ bs) (hC : am_E m_L_bestRootQuestion d mc' ms' [.ref v0, .int v1, .int v2] Γ I L (.inl (some (.int r))) I' L') (kk : am_W m_L_builds (d + 1) mc ms al (bc - mc') (bs - ms') 27 [(0, .ref v0), (1, .int v1), (2, .int v2), (3, .int v3), (4, .int w0)] [.int r] Γ I' L' Q) : am_W m_L_builds (d + 1) mc ms al bc bs 19 [(0, .ref v0), (1, .int v1), (2, .int v2), (3, .int v3)] [.int w0] Γ I L Q := by
  refine aw_istore (ls' := [(0, .ref v0), (1, .int v1), (2, .int v2), (3, .int v3), (4, .int w0)]) dL_builds_19 (by decide) rfl ?_
  refine aw_aload_n dL_builds_21 rfl ?_
  refine aw_iload_n dL_builds_22 rfl ?_
  refine aw_iload_n dL_builds_23 rfl ?_
  exact aw_askSW (as := [.ref v0, .int v1, .int v2]) (rst := []) kw_L_bestRootQuestion (by decide) rfl l_L_203 t_L_bestRootQuestion dL_builds_24 rfl (Nat.le_of_ble_eq_true rfl) hbc hbs hC rfl rfl kk
theorem bL_builds_27 {d mc ms : Nat} {al : Bool} {bc bs : Nat} {Γ : am_G} {I : am_I} {L : am_L} {Q : am_Q} {v0 : Nat} {v1 : Int32} {v2 : Int32} {v3 : Int32} {v4 : Int32} {w0 : Int32} {I' : am_I} {L' : am_L} {mc' : Nat} {ms' : Nat} {r : Int32} (hbc : mc' ≤ bc) (hbs : ms' ≤ bs) (hC : am_E m_L_buildTree d mc' ms' [.ref v0, .int v1] Γ I L (.inl (some (.int r))) I' L') (kk : am_W m_L_builds (d + 1) mc ms al (bc - mc') (bs - ms') 34 [(0, .ref v0), (1, .int v1), (2, .int v2), (3, .int v3), (4, .int v4), (5, .int w0)] [.int r] Γ I' L' Q) : am_W m_L_builds (d + 1) mc ms al bc bs 27 [(0, .ref v0), (1, .int v1), (2, .int v2), (3, .int v3), (4, .int v4)] [.int w0] Γ I L Q := by
  refine aw_istore (ls' := [(0, .ref v0), (1, .int v1), (2, .int v2), (3, .int v3), (4, .int v4), (5, .int w0)]) dL_builds_27 (by decide) rfl ?_
  refine aw_aload_n dL_builds_29 rfl ?_
  refine aw_iload_n dL_builds_30 rfl ?_
  exact aw_askSW (as := [.ref v0, .int v1]) (rst := []) kw_L_buildTree (by decide) rfl l_L_229 t_L_buildTree dL_builds_31 rfl (Nat.le_of_ble_eq_true rfl) hbc hbs hC rfl rfl kk
theorem bL_builds_34 {d mc ms : Nat} {al : Bool} {bc bs : Nat} {Γ : am_G} {I : am_I} {L : am_L} {Q : am_Q} {v0 : Nat} {v1 : Int32} {v2 : Int32} {v3 : Int32} {v4 : Int32} {v5 : Int32} {w0 : Int32} {I' : am_I} {L' : am_L} {mc' : Nat} {ms' : Nat} {r : Int32} (hbc : mc' ≤ bc) (hbs : ms' ≤ bs) (hC : am_E m_L_nodeCount d mc' ms' [.ref v0, .int v1] Γ I L (.inl (some (.int r))) I' L') (kk : am_W m_L_builds (d + 1) mc ms al (bc - mc') (bs - ms') 39 [(0, .ref v0), (1, .int v1), (2, .int v2), (3, .int v3), (4, .int v4), (5, .int v5)] [.int r, .int w0] Γ I' L' Q) : am_W m_L_builds (d + 1) mc ms al bc bs 34 [(0, .ref v0), (1, .int v1), (2, .int v2), (3, .int v3), (4, .int v4), (5, .int v5)] [.int w0] Γ I L Q := by
  refine aw_aload_n dL_builds_34 rfl ?_
  refine aw_iload_n dL_builds_35 rfl ?_
  exact aw_askSW (as := [.ref v0, .int v1]) (rst := [.int w0]) kw_L_nodeCount (by decide) rfl l_L_149 t_L_nodeCount dL_builds_36 rfl (Nat.le_of_ble_eq_true rfl) hbc hbs hC rfl rfl kk
theorem bL_builds_39 {d mc ms : Nat} {al : Bool} {bc bs : Nat} {Γ : am_G} {I : am_I} {L : am_L} {Q : am_Q} {v0 : Nat} {v1 : Int32} {v2 : Int32} {v3 : Int32} {v4 : Int32} {v5 : Int32} {w0 : Int32} {w1 : Int32} (kt : ¬ w0 = w1 → am_W m_L_builds d mc ms al bc bs 72 [(0, .ref v0), (1, .int v1), (2, .int v2), (3, .int v3), (4, .int v4), (5, .int v5)] [] Γ I L Q) (kf : w0 = w1 → am_W m_L_builds d mc ms al bc bs 42 [(0, .ref v0), (1, .int v1), (2, .int v2), (3, .int v3), (4, .int v4), (5, .int v5)] [] Γ I L Q) : am_W m_L_builds d mc ms al bc bs 39 [(0, .ref v0), (1, .int v1), (2, .int v2), (3, .int v3), (4, .int v4), (5, .int v5)] [.int w1, .int w0] Γ I L Q := by
  exact aw_icmp_ne dL_builds_39 (by decide) kt kf
theorem bL_builds_42 {d mc ms : Nat} {al : Bool} {bc bs : Nat} {Γ : am_G} {I : am_I} {L : am_L} {Q : am_Q} {v0 : Nat} {v1 : Int32} {v2 : Int32} {v3 : Int32} {v4 : Int32} {v5 : Int32} {I' : am_I} {L' : am_L} {mc' : Nat} {ms' : Nat} {r : Int32} (hbc : mc' ≤ bc) (hbs : ms' ≤ bs) (hC : am_E m_L_errors d mc' ms' [.ref v0, .int v1] Γ I L (.inl (some (.int r))) I' L') (kk : am_W m_L_builds (d + 1) mc ms al (bc - mc') (bs - ms') 47 [(0, .ref v0), (1, .int v1), (2, .int v2), (3, .int v3), (4, .int v4), (5, .int v5)] [.int r] Γ I' L' Q) : am_W m_L_builds (d + 1) mc ms al bc bs 42 [(0, .ref v0), (1, .int v1), (2, .int v2), (3, .int v3), (4, .int v4), (5, .int v5)] [] Γ I L Q := by
  refine aw_aload_n dL_builds_42 rfl ?_
  refine aw_iload_n dL_builds_43 rfl ?_
  exact aw_askSW (as := [.ref v0, .int v1]) (rst := []) kw_L_errors (by decide) rfl l_L_175 t_L_errors dL_builds_44 rfl (Nat.le_of_ble_eq_true rfl) hbc hbs hC rfl rfl kk
theorem bL_builds_47 {d mc ms : Nat} {al : Bool} {bc bs : Nat} {Γ : am_G} {I : am_I} {L : am_L} {Q : am_Q} {v0 : Nat} {v1 : Int32} {v2 : Int32} {v3 : Int32} {v4 : Int32} {v5 : Int32} {w0 : Int32} (kt : ¬ w0 = v3 → am_W m_L_builds d mc ms al bc bs 72 [(0, .ref v0), (1, .int v1), (2, .int v2), (3, .int v3), (4, .int v4), (5, .int v5)] [] Γ I L Q) (kf : w0 = v3 → am_W m_L_builds d mc ms al bc bs 51 [(0, .ref v0), (1, .int v1), (2, .int v2), (3, .int v3), (4, .int v4), (5, .int v5)] [] Γ I L Q) : am_W m_L_builds d mc ms al bc bs 47 [(0, .ref v0), (1, .int v1), (2, .int v2), (3, .int v3), (4, .int v4), (5, .int v5)] [.int w0] Γ I L Q := by
  refine aw_iload_n dL_builds_47 rfl ?_
  exact aw_icmp_ne dL_builds_48 (by decide) kt kf
theorem bL_builds_51 {d mc ms : Nat} {al : Bool} {bc bs : Nat} {Γ : am_G} {I : am_I} {L : am_L} {Q : am_Q} {v0 : Nat} {v1 : Int32} {v2 : Int32} {v3 : Int32} {v4 : Int32} {v5 : Int32} {I' : am_I} {L' : am_L} {mc' : Nat} {ms' : Nat} {r : Int32} (hbc : mc' ≤ bc) (hbs : ms' ≤ bs) (hC : am_E m_L_work d mc' ms' [.ref v0, .int v1] Γ I L (.inl (some (.int r))) I' L') (kk : am_W m_L_builds (d + 1) mc ms al (bc - mc') (bs - ms') 56 [(0, .ref v0), (1, .int v1), (2, .int v2), (3, .int v3), (4, .int v4), (5, .int v5)] [.int r] Γ I' L' Q) : am_W m_L_builds (d + 1) mc ms al bc bs 51 [(0, .ref v0), (1, .int v1), (2, .int v2), (3, .int v3), (4, .int v4), (5, .int v5)] [] Γ I L Q := by
  refine aw_aload_n dL_builds_51 rfl ?_
  refine aw_iload_n dL_builds_52 rfl ?_
  exact aw_askSW (as := [.ref v0, .int v1]) (rst := []) kw_L_work (by decide) rfl l_L_177 t_L_work dL_builds_53 rfl (Nat.le_of_ble_eq_true rfl) hbc hbs hC rfl rfl kk
theorem bL_builds_56 {d mc ms : Nat} {al : Bool} {bc bs : Nat} {Γ : am_G} {I : am_I} {L : am_L} {Q : am_Q} {v0 : Nat} {v1 : Int32} {v2 : Int32} {v3 : Int32} {v4 : Int32} {v5 : Int32} {w0 : Int32} (kt : ¬ w0 = v4 → am_W m_L_builds d mc ms al bc bs 72 [(0, .ref v0), (1, .int v1), (2, .int v2), (3, .int v3), (4, .int v4), (5, .int v5)] [] Γ I L Q) (kf : w0 = v4 → am_W m_L_builds d mc ms al bc bs 61 [(0, .ref v0), (1, .int v1), (2, .int v2), (3, .int v3), (4, .int v4), (5, .int v5)] [] Γ I L Q) : am_W m_L_builds d mc ms al bc bs 56 [(0, .ref v0), (1, .int v1), (2, .int v2), (3, .int v3), (4, .int v4), (5, .int v5)] [.int w0] Γ I L Q := by
  refine aw_iload dL_builds_56 rfl ?_
  exact aw_icmp_ne dL_builds_58 (by decide) kt kf
theorem bL_builds_61 {d mc ms : Nat} {al : Bool} {bc bs : Nat} {Γ : am_G} {I : am_I} {L : am_L} {Q : am_Q} {v0 : Nat} {v1 : Int32} {v2 : Int32} {v3 : Int32} {v4 : Int32} {v5 : Int32} {I' : am_I} {L' : am_L} {mc' : Nat} {ms' : Nat} {r : Int32} (hbc : mc' ≤ bc) (hbs : ms' ≤ bs) (hC : am_E m_L_nodeQuestion d mc' ms' [.ref v0, .int v1, .int 0] Γ I L (.inl (some (.int r))) I' L') (kk : am_W m_L_builds (d + 1) mc ms al (bc - mc') (bs - ms') 67 [(0, .ref v0), (1, .int v1), (2, .int v2), (3, .int v3), (4, .int v4), (5, .int v5)] [.int r] Γ I' L' Q) : am_W m_L_builds (d + 1) mc ms al bc bs 61 [(0, .ref v0), (1, .int v1), (2, .int v2), (3, .int v3), (4, .int v4), (5, .int v5)] [] Γ I L Q := by
  refine aw_aload_n dL_builds_61 rfl ?_
  refine aw_iload_n dL_builds_62 rfl ?_
  refine aw_iconst dL_builds_63 ci_0 ?_
  exact aw_askSW (as := [.ref v0, .int v1, .int 0]) (rst := []) kw_L_nodeQuestion (by decide) rfl l_L_151 t_L_nodeQuestion dL_builds_64 rfl (Nat.le_of_ble_eq_true rfl) hbc hbs hC rfl rfl kk
theorem bL_builds_67 {d mc ms : Nat} {al : Bool} {bc bs : Nat} {Γ : am_G} {I : am_I} {L : am_L} {Q : am_Q} {v0 : Nat} {v1 : Int32} {v2 : Int32} {v3 : Int32} {v4 : Int32} {v5 : Int32} {w0 : Int32} (kt : w0 = v5 → am_W m_L_builds d mc ms al bc bs 74 [(0, .ref v0), (1, .int v1), (2, .int v2), (3, .int v3), (4, .int v4), (5, .int v5)] [] Γ I L Q) (kf : ¬ w0 = v5 → am_W m_L_builds d mc ms al bc bs 72 [(0, .ref v0), (1, .int v1), (2, .int v2), (3, .int v3), (4, .int v4), (5, .int v5)] [] Γ I L Q) : am_W m_L_builds d mc ms al bc bs 67 [(0, .ref v0), (1, .int v1), (2, .int v2), (3, .int v3), (4, .int v4), (5, .int v5)] [.int w0] Γ I L Q := by
  refine aw_iload dL_builds_67 rfl ?_
  exact aw_icmp_eq dL_builds_69 (by decide) kt kf
theorem bL_builds_72 {d mc ms : Nat} {al : Bool} {bc bs : Nat} {Γ : am_G} {I : am_I} {L : am_L} {Q : am_Q} {v0 : Nat} {v1 : Int32} {v2 : Int32} {v3 : Int32} {v4 : Int32} {v5 : Int32} (hq : Q (.inl (some (.int 0))) Γ I L) : am_W m_L_builds d mc ms al bc bs 72 [(0, .ref v0), (1, .int v1), (2, .int v2), (3, .int v3), (4, .int v4), (5, .int v5)] [] Γ I L Q := by
  refine aw_iconst dL_builds_72 ci_0 ?_
  exact aw_zret (ty := .boolean) dL_builds_73 rfl rfl hq
theorem bL_builds_74 {d mc ms : Nat} {al : Bool} {bc bs : Nat} {Γ : am_G} {I : am_I} {L : am_L} {Q : am_Q} {v0 : Nat} {v1 : Int32} {v2 : Int32} {v3 : Int32} {v4 : Int32} {v5 : Int32} (kk : am_W m_L_builds d mc ms al bc bs 77 [(0, .ref v0), (1, .int v1), (2, .int v2), (3, .int v3), (4, .int v4), (5, .int v5), (6, .int 0)] [] Γ I L Q) : am_W m_L_builds d mc ms al bc bs 74 [(0, .ref v0), (1, .int v1), (2, .int v2), (3, .int v3), (4, .int v4), (5, .int v5)] [] Γ I L Q := by
  refine aw_iconst dL_builds_74 ci_0 ?_
  refine aw_istore (ls' := [(0, .ref v0), (1, .int v1), (2, .int v2), (3, .int v3), (4, .int v4), (5, .int v5), (6, .int 0)]) dL_builds_75 (by decide) rfl ?_
  exact kk
theorem bL_builds_77 {d mc ms : Nat} {al : Bool} {bc bs : Nat} {Γ : am_G} {I : am_I} {L : am_L} {Q : am_Q} {v0 : Nat} {v1 : Int32} {v2 : Int32} {v3 : Int32} {v4 : Int32} {v5 : Int32} {v6 : Int32} {I' : am_I} {L' : am_L} {mc' : Nat} {ms' : Nat} {r : Int32} (o1 : am_ob Γ v0 8) (hbc : mc' ≤ bc) (hbs : ms' ≤ bs) (hC : am_E m_X8_typeCount d mc' ms' [.ref v0] Γ I L (.inl (some (.int r))) I' L') (kk : am_W m_L_builds (d + 1) mc ms al (bc - mc') (bs - ms') 83 [(0, .ref v0), (1, .int v1), (2, .int v2), (3, .int v3), (4, .int v4), (5, .int v5), (6, .int v6)] [.int r, .int v6] Γ I' L' Q) : am_W m_L_builds (d + 1) mc ms al bc bs 77 [(0, .ref v0), (1, .int v1), (2, .int v2), (3, .int v3), (4, .int v4), (5, .int v5), (6, .int v6)] [] Γ I L Q := by
  refine aw_iload dL_builds_77 rfl ?_
  refine aw_aload_n dL_builds_79 rfl ?_
  exact aw_askV (as := []) (rst := [.int v6]) k_X8_typeCount l_L_143 i_X8_typeCount s_X8_typeCount rfl o1 dL_builds_80 rfl (Nat.le_of_ble_eq_true rfl) hbc hbs hC rfl rfl kk
theorem bL_builds_83 {d mc ms : Nat} {al : Bool} {bc bs : Nat} {Γ : am_G} {I : am_I} {L : am_L} {Q : am_Q} {v0 : Nat} {v1 : Int32} {v2 : Int32} {v3 : Int32} {v4 : Int32} {v5 : Int32} {v6 : Int32} {w0 : Int32} {w1 : Int32} (kt : w1 ≤ w0 → am_W m_L_builds d mc ms al bc bs 105 [(0, .ref v0), (1, .int v1), (2, .int v2), (3, .int v3), (4, .int v4), (5, .int v5), (6, .int v6)] [] Γ I L Q) (kf : ¬ w1 ≤ w0 → am_W m_L_builds d mc ms al bc bs 86 [(0, .ref v0), (1, .int v1), (2, .int v2), (3, .int v3), (4, .int v4), (5, .int v5), (6, .int v6)] [] Γ I L Q) : am_W m_L_builds d mc ms al bc bs 83 [(0, .ref v0), (1, .int v1), (2, .int v2), (3, .int v3), (4, .int v4), (5, .int v5), (6, .int v6)] [.int w1, .int w0] Γ I L Q := by
  exact aw_icmp_ge dL_builds_83 (by decide) kt kf
theorem bL_builds_86 {d mc ms : Nat} {al : Bool} {bc bs : Nat} {Γ : am_G} {I : am_I} {L : am_L} {Q : am_Q} {v0 : Nat} {v1 : Int32} {v2 : Int32} {v3 : Int32} {v4 : Int32} {v5 : Int32} {v6 : Int32} {I' : am_I} {L' : am_L} {mc' : Nat} {ms' : Nat} {r : Int32} (hbc : mc' ≤ bc) (hbs : ms' ≤ bs) (hC : am_E m_L_pathCost d mc' ms' [.ref v0, .int v1, .int v6] Γ I L (.inl (some (.int r))) I' L') (kk : am_W m_L_builds (d + 1) mc ms al (bc - mc') (bs - ms') 93 [(0, .ref v0), (1, .int v1), (2, .int v2), (3, .int v3), (4, .int v4), (5, .int v5), (6, .int v6)] [.int r] Γ I' L' Q) : am_W m_L_builds (d + 1) mc ms al bc bs 86 [(0, .ref v0), (1, .int v1), (2, .int v2), (3, .int v3), (4, .int v4), (5, .int v5), (6, .int v6)] [] Γ I L Q := by
  refine aw_aload_n dL_builds_86 rfl ?_
  refine aw_iload_n dL_builds_87 rfl ?_
  refine aw_iload dL_builds_88 rfl ?_
  exact aw_askSW (as := [.ref v0, .int v1, .int v6]) (rst := []) kw_L_pathCost (by decide) rfl l_L_167 t_L_pathCost dL_builds_90 rfl (Nat.le_of_ble_eq_true rfl) hbc hbs hC rfl rfl kk
theorem bL_builds_93 {d mc ms : Nat} {al : Bool} {bc bs : Nat} {Γ : am_G} {I : am_I} {L : am_L} {Q : am_Q} {v0 : Nat} {v1 : Int32} {v2 : Int32} {v3 : Int32} {v4 : Int32} {v5 : Int32} {v6 : Int32} {w0 : Int32} (kt : w0 ≤ v2 → am_W m_L_builds d mc ms al bc bs 99 [(0, .ref v0), (1, .int v1), (2, .int v2), (3, .int v3), (4, .int v4), (5, .int v5), (6, .int v6)] [] Γ I L Q) (kf : ¬ w0 ≤ v2 → am_W m_L_builds d mc ms al bc bs 97 [(0, .ref v0), (1, .int v1), (2, .int v2), (3, .int v3), (4, .int v4), (5, .int v5), (6, .int v6)] [] Γ I L Q) : am_W m_L_builds d mc ms al bc bs 93 [(0, .ref v0), (1, .int v1), (2, .int v2), (3, .int v3), (4, .int v4), (5, .int v5), (6, .int v6)] [.int w0] Γ I L Q := by
  refine aw_iload_n dL_builds_93 rfl ?_
  exact aw_icmp_le dL_builds_94 (by decide) kt kf
theorem bL_builds_97 {d mc ms : Nat} {al : Bool} {bc bs : Nat} {Γ : am_G} {I : am_I} {L : am_L} {Q : am_Q} {v0 : Nat} {v1 : Int32} {v2 : Int32} {v3 : Int32} {v4 : Int32} {v5 : Int32} {v6 : Int32} (hq : Q (.inl (some (.int 0))) Γ I L) : am_W m_L_builds d mc ms al bc bs 97 [(0, .ref v0), (1, .int v1), (2, .int v2), (3, .int v3), (4, .int v4), (5, .int v5), (6, .int v6)] [] Γ I L Q := by
  refine aw_iconst dL_builds_97 ci_0 ?_
  exact aw_zret (ty := .boolean) dL_builds_98 rfl rfl hq
theorem bL_builds_99 {d mc ms : Nat} {al : Bool} {bc bs : Nat} {Γ : am_G} {I : am_I} {L : am_L} {Q : am_Q} {v0 : Nat} {v1 : Int32} {v2 : Int32} {v3 : Int32} {v4 : Int32} {v5 : Int32} {v6 : Int32} (kk : am_W m_L_builds d mc ms al bc bs 77 [(0, .ref v0), (1, .int v1), (2, .int v2), (3, .int v3), (4, .int v4), (5, .int v5), (6, .int (v6 + 1))] [] Γ I L Q) : am_W m_L_builds d mc ms al bc bs 99 [(0, .ref v0), (1, .int v1), (2, .int v2), (3, .int v3), (4, .int v4), (5, .int v5), (6, .int v6)] [] Γ I L Q := by
  refine aw_iinc (ls' := [(0, .ref v0), (1, .int v1), (2, .int v2), (3, .int v3), (4, .int v4), (5, .int v5), (6, .int (v6 + 1))]) dL_builds_99 rfl (cn_1 _) (by decide) rfl ?_
  exact aw_goto dL_builds_102 (by decide) kk
theorem bL_builds_105 {d mc ms : Nat} {al : Bool} {bc bs : Nat} {Γ : am_G} {I : am_I} {L : am_L} {Q : am_Q} {v0 : Nat} {v1 : Int32} {v2 : Int32} {v3 : Int32} {v4 : Int32} {v5 : Int32} {v6 : Int32} {I' : am_I} {L' : am_L} {mc' : Nat} {ms' : Nat} {r : Int32} (o1 : am_ob Γ v0 8) (hbc : mc' ≤ bc) (hbs : ms' ≤ bs) (hC : am_E m_X8_stalestGate d mc' ms' [.ref v0] Γ I L (.inl (some (.int r))) I' L') (kk : am_W m_L_builds (d + 1) mc ms al (bc - mc') (bs - ms') 109 [(0, .ref v0), (1, .int v1), (2, .int v2), (3, .int v3), (4, .int v4), (5, .int v5), (6, .int v6)] [.int r] Γ I' L' Q) : am_W m_L_builds (d + 1) mc ms al bc bs 105 [(0, .ref v0), (1, .int v1), (2, .int v2), (3, .int v3), (4, .int v4), (5, .int v5), (6, .int v6)] [] Γ I L Q := by
  refine aw_aload_n dL_builds_105 rfl ?_
  exact aw_askV (as := []) (rst := []) k_X8_stalestGate l_L_231 i_X8_stalestGate s_X8_stalestGate rfl o1 dL_builds_106 rfl (Nat.le_of_ble_eq_true rfl) hbc hbs hC rfl rfl kk
theorem bL_builds_109 {d mc ms : Nat} {al : Bool} {bc bs : Nat} {Γ : am_G} {I : am_I} {L : am_L} {Q : am_Q} {v0 : Nat} {v1 : Int32} {v2 : Int32} {v3 : Int32} {v4 : Int32} {v5 : Int32} {v6 : Int32} {w0 : Int32} (kt : w0 = v1 → am_W m_L_builds d mc ms al bc bs 117 [(0, .ref v0), (1, .int v1), (2, .int v2), (3, .int v3), (4, .int v4), (5, .int v5), (6, .int v6)] [] Γ I L Q) (kf : ¬ w0 = v1 → am_W m_L_builds d mc ms al bc bs 113 [(0, .ref v0), (1, .int v1), (2, .int v2), (3, .int v3), (4, .int v4), (5, .int v5), (6, .int v6)] [] Γ I L Q) : am_W m_L_builds d mc ms al bc bs 109 [(0, .ref v0), (1, .int v1), (2, .int v2), (3, .int v3), (4, .int v4), (5, .int v5), (6, .int v6)] [.int w0] Γ I L Q := by
  refine aw_iload_n dL_builds_109 rfl ?_
  exact aw_icmp_eq dL_builds_110 (by decide) kt kf
theorem bL_builds_113 {d mc ms : Nat} {al : Bool} {bc bs : Nat} {Γ : am_G} {I : am_I} {L : am_L} {Q : am_Q} {v0 : Nat} {v1 : Int32} {v2 : Int32} {v3 : Int32} {v4 : Int32} {v5 : Int32} {v6 : Int32} (kk : am_W m_L_builds d mc ms al bc bs 118 [(0, .ref v0), (1, .int v1), (2, .int v2), (3, .int v3), (4, .int v4), (5, .int v5), (6, .int v6)] [.int 1] Γ I L Q) : am_W m_L_builds d mc ms al bc bs 113 [(0, .ref v0), (1, .int v1), (2, .int v2), (3, .int v3), (4, .int v4), (5, .int v5), (6, .int v6)] [] Γ I L Q := by
  refine aw_iconst dL_builds_113 ci_1 ?_
  exact aw_goto dL_builds_114 (by decide) kk
theorem bL_builds_117 {d mc ms : Nat} {al : Bool} {bc bs : Nat} {Γ : am_G} {I : am_I} {L : am_L} {Q : am_Q} {v0 : Nat} {v1 : Int32} {v2 : Int32} {v3 : Int32} {v4 : Int32} {v5 : Int32} {v6 : Int32} (kk : am_W m_L_builds d mc ms al bc bs 118 [(0, .ref v0), (1, .int v1), (2, .int v2), (3, .int v3), (4, .int v4), (5, .int v5), (6, .int v6)] [.int 0] Γ I L Q) : am_W m_L_builds d mc ms al bc bs 117 [(0, .ref v0), (1, .int v1), (2, .int v2), (3, .int v3), (4, .int v4), (5, .int v5), (6, .int v6)] [] Γ I L Q := by
  refine aw_iconst dL_builds_117 ci_0 ?_
  exact kk
theorem bL_builds_118 {d mc ms : Nat} {al : Bool} {bc bs : Nat} {Γ : am_G} {I : am_I} {L : am_L} {Q : am_Q} {v0 : Nat} {v1 : Int32} {v2 : Int32} {v3 : Int32} {v4 : Int32} {v5 : Int32} {v6 : Int32} {w0 : Int32} (hz : narrow .boolean (.int w0) = .int w0) (hq : Q (.inl (some (.int w0))) Γ I L) : am_W m_L_builds d mc ms al bc bs 118 [(0, .ref v0), (1, .int v1), (2, .int v2), (3, .int v3), (4, .int v4), (5, .int v5), (6, .int v6)] [.int w0] Γ I L Q := by
  exact aw_zret (ty := .boolean) dL_builds_118 rfl hz hq
theorem dL_acts_0 : decode cL_acts 0 = .ok (.aload_n 1, 1) := by decide +kernel
theorem dL_acts_1 : decode cL_acts 1 = .ok (.aload_n 0, 1) := by decide +kernel
theorem dL_acts_2 : decode cL_acts 2 = .ok (.invokevirtual 179, 3) := by decide +kernel
theorem dL_acts_5 : decode cL_acts 5 = .ok (.invokestatic 234, 3) := by decide +kernel
theorem dL_acts_8 : decode cL_acts 8 = .ok (.istore_n 2, 1) := by decide +kernel
theorem dL_acts_9 : decode cL_acts 9 = .ok (.aload_n 1, 1) := by decide +kernel
theorem dL_acts_10 : decode cL_acts 10 = .ok (.aload_n 0, 1) := by decide +kernel
theorem dL_acts_11 : decode cL_acts 11 = .ok (.invokevirtual 143, 3) := by decide +kernel
theorem dL_acts_14 : decode cL_acts 14 = .ok (.invokestatic 234, 3) := by decide +kernel
theorem dL_acts_17 : decode cL_acts 17 = .ok (.istore_n 3, 1) := by decide +kernel
theorem dL_acts_18 : decode cL_acts 18 = .ok (.aload_n 1, 1) := by decide +kernel
theorem dL_acts_19 : decode cL_acts 19 = .ok (.bipush 7, 2) := by decide +kernel
theorem dL_acts_21 : decode cL_acts 21 = .ok (.invokestatic 234, 3) := by decide +kernel
theorem dL_acts_24 : decode cL_acts 24 = .ok (.tableswitch 317 0 5 #[40, 40, 202, 208, 247, 288], 40) := by decide +kernel
theorem dL_acts_64 : decode cL_acts 64 = .ok (.iconst 1, 1) := by decide +kernel
theorem dL_acts_65 : decode cL_acts 65 = .ok (.aload_n 1, 1) := by decide +kernel
theorem dL_acts_66 : decode cL_acts 66 = .ok (.bipush 99, 2) := by decide +kernel
theorem dL_acts_68 : decode cL_acts 68 = .ok (.invokestatic 234, 3) := by decide +kernel
theorem dL_acts_71 : decode cL_acts 71 = .ok (.iadd, 1) := by decide +kernel
theorem dL_acts_72 : decode cL_acts 72 = .ok (.istore 4, 2) := by decide +kernel
theorem dL_acts_74 : decode cL_acts 74 = .ok (.aload_n 0, 1) := by decide +kernel
theorem dL_acts_75 : decode cL_acts 75 = .ok (.iload_n 2, 1) := by decide +kernel
theorem dL_acts_76 : decode cL_acts 76 = .ok (.iload_n 3, 1) := by decide +kernel
theorem dL_acts_77 : decode cL_acts 77 = .ok (.invokestatic 146, 3) := by decide +kernel
theorem dL_acts_80 : decode cL_acts 80 = .ok (.istore 5, 2) := by decide +kernel
theorem dL_acts_82 : decode cL_acts 82 = .ok (.aload_n 0, 1) := by decide +kernel
theorem dL_acts_83 : decode cL_acts 83 = .ok (.invokevirtual 226, 3) := by decide +kernel
theorem dL_acts_86 : decode cL_acts 86 = .ok (.istore 6, 2) := by decide +kernel
theorem dL_acts_88 : decode cL_acts 88 = .ok (.aload_n 0, 1) := by decide +kernel
theorem dL_acts_89 : decode cL_acts 89 = .ok (.invokevirtual 208, 3) := by decide +kernel
theorem dL_acts_92 : decode cL_acts 92 = .ok (.istore 7, 2) := by decide +kernel
theorem dL_acts_94 : decode cL_acts 94 = .ok (.aload_n 0, 1) := by decide +kernel
theorem dL_acts_95 : decode cL_acts 95 = .ok (.invokevirtual 238, 3) := by decide +kernel
theorem dL_acts_98 : decode cL_acts 98 = .ok (.istore 8, 2) := by decide +kernel
theorem dL_acts_100 : decode cL_acts 100 = .ok (.aload_n 0, 1) := by decide +kernel
theorem dL_acts_101 : decode cL_acts 101 = .ok (.iload_n 2, 1) := by decide +kernel
theorem dL_acts_102 : decode cL_acts 102 = .ok (.iload_n 3, 1) := by decide +kernel
theorem dL_acts_103 : decode cL_acts 103 = .ok (.iload 4, 2) := by decide +kernel
theorem dL_acts_105 : decode cL_acts 105 = .ok (.invokestatic 241, 3) := by decide +kernel
theorem dL_acts_108 : decode cL_acts 108 = .ok (.istore 9, 2) := by decide +kernel
theorem dL_acts_110 : decode cL_acts 110 = .ok (.aload_n 0, 1) := by decide +kernel
theorem dL_acts_111 : decode cL_acts 111 = .ok (.iload_n 2, 1) := by decide +kernel
theorem dL_acts_112 : decode cL_acts 112 = .ok (.invokestatic 188, 3) := by decide +kernel
theorem dL_acts_115 : decode cL_acts 115 = .ok (.iconst 1, 1) := by decide +kernel
theorem dL_acts_116 : decode cL_acts 116 = .ok (.if_icmp .eq 27, 3) := by decide +kernel
theorem dL_acts_119 : decode cL_acts 119 = .ok (.iload 9, 2) := by decide +kernel
theorem dL_acts_121 : decode cL_acts 121 = .ok (.bipush (-19), 2) := by decide +kernel
theorem dL_acts_123 : decode cL_acts 123 = .ok (.if_icmp .ne 18, 3) := by decide +kernel
theorem dL_acts_126 : decode cL_acts 126 = .ok (.aload_n 0, 1) := by decide +kernel
theorem dL_acts_127 : decode cL_acts 127 = .ok (.iload_n 2, 1) := by decide +kernel
theorem dL_acts_128 : decode cL_acts 128 = .ok (.iload_n 3, 1) := by decide +kernel
theorem dL_acts_129 : decode cL_acts 129 = .ok (.invokestatic 146, 3) := by decide +kernel
theorem dL_acts_132 : decode cL_acts 132 = .ok (.iload 5, 2) := by decide +kernel
theorem dL_acts_134 : decode cL_acts 134 = .ok (.if_icmp .ne 7, 3) := by decide +kernel
theorem dL_acts_137 : decode cL_acts 137 = .ok (.iconst 1, 1) := by decide +kernel
theorem dL_acts_138 : decode cL_acts 138 = .ok (.goto 4, 3) := by decide +kernel
theorem dL_acts_141 : decode cL_acts 141 = .ok (.iconst 0, 1) := by decide +kernel
theorem dL_acts_142 : decode cL_acts 142 = .ok (.ireturn, 1) := by decide +kernel
theorem dL_acts_143 : decode cL_acts 143 = .ok (.iload 9, 2) := by decide +kernel
theorem dL_acts_145 : decode cL_acts 145 = .ok (.aload_n 0, 1) := by decide +kernel
theorem dL_acts_146 : decode cL_acts 146 = .ok (.iload_n 2, 1) := by decide +kernel
theorem dL_acts_147 : decode cL_acts 147 = .ok (.iload_n 3, 1) := by decide +kernel
theorem dL_acts_148 : decode cL_acts 148 = .ok (.invokestatic 169, 3) := by decide +kernel
theorem dL_acts_151 : decode cL_acts 151 = .ok (.if_icmp .ne 73, 3) := by decide +kernel
theorem dL_acts_154 : decode cL_acts 154 = .ok (.aload_n 0, 1) := by decide +kernel
theorem dL_acts_155 : decode cL_acts 155 = .ok (.iload_n 2, 1) := by decide +kernel
theorem dL_acts_156 : decode cL_acts 156 = .ok (.iload_n 3, 1) := by decide +kernel
theorem dL_acts_157 : decode cL_acts 157 = .ok (.invokestatic 146, 3) := by decide +kernel
theorem dL_acts_160 : decode cL_acts 160 = .ok (.sipush 9999, 3) := by decide +kernel
theorem dL_acts_163 : decode cL_acts 163 = .ok (.iload 5, 2) := by decide +kernel
theorem dL_acts_165 : decode cL_acts 165 = .ok (.iload 4, 2) := by decide +kernel
theorem dL_acts_167 : decode cL_acts 167 = .ok (.iadd, 1) := by decide +kernel
theorem dL_acts_168 : decode cL_acts 168 = .ok (.invokestatic 244, 3) := by decide +kernel
theorem dL_acts_171 : decode cL_acts 171 = .ok (.if_icmp .ne 53, 3) := by decide +kernel
theorem dL_acts_174 : decode cL_acts 174 = .ok (.aload_n 0, 1) := by decide +kernel
theorem dL_acts_175 : decode cL_acts 175 = .ok (.invokevirtual 226, 3) := by decide +kernel
theorem dL_acts_178 : decode cL_acts 178 = .ok (.iload 6, 2) := by decide +kernel
theorem dL_acts_180 : decode cL_acts 180 = .ok (.iload 4, 2) := by decide +kernel
theorem dL_acts_182 : decode cL_acts 182 = .ok (.iadd, 1) := by decide +kernel
theorem dL_acts_183 : decode cL_acts 183 = .ok (.if_icmp .ne 41, 3) := by decide +kernel
theorem dL_acts_186 : decode cL_acts 186 = .ok (.aload_n 0, 1) := by decide +kernel
theorem dL_acts_187 : decode cL_acts 187 = .ok (.invokevirtual 208, 3) := by decide +kernel
theorem dL_acts_190 : decode cL_acts 190 = .ok (.iload 7, 2) := by decide +kernel
theorem dL_acts_192 : decode cL_acts 192 = .ok (.iload 4, 2) := by decide +kernel
theorem dL_acts_194 : decode cL_acts 194 = .ok (.iload 9, 2) := by decide +kernel
theorem dL_acts_196 : decode cL_acts 196 = .ok (.imul, 1) := by decide +kernel
theorem dL_acts_197 : decode cL_acts 197 = .ok (.iadd, 1) := by decide +kernel
theorem dL_acts_198 : decode cL_acts 198 = .ok (.if_icmp .ne 26, 3) := by decide +kernel
theorem dL_acts_201 : decode cL_acts 201 = .ok (.aload_n 0, 1) := by decide +kernel
theorem dL_acts_202 : decode cL_acts 202 = .ok (.invokevirtual 238, 3) := by decide +kernel
theorem dL_acts_205 : decode cL_acts 205 = .ok (.iload 8, 2) := by decide +kernel
theorem dL_acts_207 : decode cL_acts 207 = .ok (.iload 4, 2) := by decide +kernel
theorem dL_acts_209 : decode cL_acts 209 = .ok (.aload_n 0, 1) := by decide +kernel
theorem dL_acts_210 : decode cL_acts 210 = .ok (.iload_n 2, 1) := by decide +kernel
theorem dL_acts_211 : decode cL_acts 211 = .ok (.iload_n 3, 1) := by decide +kernel
theorem dL_acts_212 : decode cL_acts 212 = .ok (.invokestatic 167, 3) := by decide +kernel
theorem dL_acts_215 : decode cL_acts 215 = .ok (.imul, 1) := by decide +kernel
theorem dL_acts_216 : decode cL_acts 216 = .ok (.iadd, 1) := by decide +kernel
theorem dL_acts_217 : decode cL_acts 217 = .ok (.if_icmp .ne 7, 3) := by decide +kernel
theorem dL_acts_220 : decode cL_acts 220 = .ok (.iconst 1, 1) := by decide +kernel
theorem dL_acts_221 : decode cL_acts 221 = .ok (.goto 4, 3) := by decide +kernel
theorem dL_acts_224 : decode cL_acts 224 = .ok (.iconst 0, 1) := by decide +kernel
theorem dL_acts_225 : decode cL_acts 225 = .ok (.ireturn, 1) := by decide +kernel
theorem dL_acts_226 : decode cL_acts 226 = .ok (.aload_n 0, 1) := by decide +kernel
theorem dL_acts_227 : decode cL_acts 227 = .ok (.iload_n 2, 1) := by decide +kernel
theorem dL_acts_228 : decode cL_acts 228 = .ok (.invokestatic 249, 3) := by decide +kernel
theorem dL_acts_231 : decode cL_acts 231 = .ok (.ireturn, 1) := by decide +kernel
theorem dL_acts_232 : decode cL_acts 232 = .ok (.aload_n 0, 1) := by decide +kernel
theorem dL_acts_233 : decode cL_acts 233 = .ok (.iload_n 2, 1) := by decide +kernel
theorem dL_acts_234 : decode cL_acts 234 = .ok (.invokestatic 252, 3) := by decide +kernel
theorem dL_acts_237 : decode cL_acts 237 = .ok (.istore 4, 2) := by decide +kernel
theorem dL_acts_239 : decode cL_acts 239 = .ok (.aload_n 0, 1) := by decide +kernel
theorem dL_acts_240 : decode cL_acts 240 = .ok (.iload_n 2, 1) := by decide +kernel
theorem dL_acts_241 : decode cL_acts 241 = .ok (.invokestatic 255, 3) := by decide +kernel
theorem dL_acts_244 : decode cL_acts 244 = .ok (.istore 5, 2) := by decide +kernel
theorem dL_acts_246 : decode cL_acts 246 = .ok (.iload 5, 2) := by decide +kernel
theorem dL_acts_248 : decode cL_acts 248 = .ok (.aload_n 0, 1) := by decide +kernel
theorem dL_acts_249 : decode cL_acts 249 = .ok (.iload_n 2, 1) := by decide +kernel
theorem dL_acts_250 : decode cL_acts 250 = .ok (.invokestatic 252, 3) := by decide +kernel
theorem dL_acts_253 : decode cL_acts 253 = .ok (.if_icmp .ne 16, 3) := by decide +kernel
theorem dL_acts_256 : decode cL_acts 256 = .ok (.iload 5, 2) := by decide +kernel
theorem dL_acts_258 : decode cL_acts 258 = .ok (.iload 4, 2) := by decide +kernel
theorem dL_acts_260 : decode cL_acts 260 = .ok (.iconst 2, 1) := by decide +kernel
theorem dL_acts_261 : decode cL_acts 261 = .ok (.idiv, 1) := by decide +kernel
theorem dL_acts_262 : decode cL_acts 262 = .ok (.if_icmp .gt 7, 3) := by decide +kernel
theorem dL_acts_265 : decode cL_acts 265 = .ok (.iconst 1, 1) := by decide +kernel
theorem dL_acts_266 : decode cL_acts 266 = .ok (.goto 4, 3) := by decide +kernel
theorem dL_acts_269 : decode cL_acts 269 = .ok (.iconst 0, 1) := by decide +kernel
theorem dL_acts_270 : decode cL_acts 270 = .ok (.ireturn, 1) := by decide +kernel
theorem dL_acts_271 : decode cL_acts 271 = .ok (.aload_n 0, 1) := by decide +kernel
theorem dL_acts_272 : decode cL_acts 272 = .ok (.iload_n 3, 1) := by decide +kernel
theorem dL_acts_273 : decode cL_acts 273 = .ok (.invokestatic 171, 3) := by decide +kernel
theorem dL_acts_276 : decode cL_acts 276 = .ok (.istore 4, 2) := by decide +kernel
theorem dL_acts_278 : decode cL_acts 278 = .ok (.aload_n 0, 1) := by decide +kernel
theorem dL_acts_279 : decode cL_acts 279 = .ok (.iload_n 3, 1) := by decide +kernel
theorem dL_acts_280 : decode cL_acts 280 = .ok (.aload_n 1, 1) := by decide +kernel
theorem dL_acts_281 : decode cL_acts 281 = .ok (.bipush 12, 2) := by decide +kernel
theorem dL_acts_283 : decode cL_acts 283 = .ok (.invokestatic 234, 3) := by decide +kernel
theorem dL_acts_286 : decode cL_acts 286 = .ok (.invokestatic 257, 3) := by decide +kernel
theorem dL_acts_289 : decode cL_acts 289 = .ok (.iload 4, 2) := by decide +kernel
theorem dL_acts_291 : decode cL_acts 291 = .ok (.if_icmp .ne 19, 3) := by decide +kernel
theorem dL_acts_294 : decode cL_acts 294 = .ok (.aload_n 0, 1) := by decide +kernel
theorem dL_acts_295 : decode cL_acts 295 = .ok (.iload_n 3, 1) := by decide +kernel
theorem dL_acts_296 : decode cL_acts 296 = .ok (.bipush 100, 2) := by decide +kernel
theorem dL_acts_298 : decode cL_acts 298 = .ok (.invokestatic 257, 3) := by decide +kernel
theorem dL_acts_301 : decode cL_acts 301 = .ok (.bipush (-18), 2) := by decide +kernel
theorem dL_acts_303 : decode cL_acts 303 = .ok (.if_icmp .ne 7, 3) := by decide +kernel
theorem dL_acts_306 : decode cL_acts 306 = .ok (.iconst 1, 1) := by decide +kernel
theorem dL_acts_307 : decode cL_acts 307 = .ok (.goto 4, 3) := by decide +kernel
theorem dL_acts_310 : decode cL_acts 310 = .ok (.iconst 0, 1) := by decide +kernel
theorem dL_acts_311 : decode cL_acts 311 = .ok (.ireturn, 1) := by decide +kernel
theorem dL_acts_312 : decode cL_acts 312 = .ok (.aload_n 0, 1) := by decide +kernel
theorem dL_acts_313 : decode cL_acts 313 = .ok (.iload_n 2, 1) := by decide +kernel
theorem dL_acts_314 : decode cL_acts 314 = .ok (.invokestatic 194, 3) := by decide +kernel
theorem dL_acts_317 : decode cL_acts 317 = .ok (.istore 4, 2) := by decide +kernel
theorem dL_acts_319 : decode cL_acts 319 = .ok (.aload_n 0, 1) := by decide +kernel
theorem dL_acts_320 : decode cL_acts 320 = .ok (.iload_n 2, 1) := by decide +kernel
theorem dL_acts_321 : decode cL_acts 321 = .ok (.aload_n 1, 1) := by decide +kernel
theorem dL_acts_322 : decode cL_acts 322 = .ok (.bipush 12, 2) := by decide +kernel
theorem dL_acts_324 : decode cL_acts 324 = .ok (.invokestatic 234, 3) := by decide +kernel
theorem dL_acts_327 : decode cL_acts 327 = .ok (.invokestatic 259, 3) := by decide +kernel
theorem dL_acts_330 : decode cL_acts 330 = .ok (.iload 4, 2) := by decide +kernel
theorem dL_acts_332 : decode cL_acts 332 = .ok (.if_icmp .ne 7, 3) := by decide +kernel
theorem dL_acts_335 : decode cL_acts 335 = .ok (.iconst 1, 1) := by decide +kernel
theorem dL_acts_336 : decode cL_acts 336 = .ok (.goto 4, 3) := by decide +kernel
theorem dL_acts_339 : decode cL_acts 339 = .ok (.iconst 0, 1) := by decide +kernel
theorem dL_acts_340 : decode cL_acts 340 = .ok (.ireturn, 1) := by decide +kernel
theorem dL_acts_341 : decode cL_acts 341 = .ok (.iconst 1, 1) := by decide +kernel
theorem dL_acts_342 : decode cL_acts 342 = .ok (.aload_n 1, 1) := by decide +kernel
theorem dL_acts_343 : decode cL_acts 343 = .ok (.bipush 20, 2) := by decide +kernel
theorem dL_acts_345 : decode cL_acts 345 = .ok (.invokestatic 234, 3) := by decide +kernel
theorem dL_acts_348 : decode cL_acts 348 = .ok (.iadd, 1) := by decide +kernel
theorem dL_acts_349 : decode cL_acts 349 = .ok (.istore 4, 2) := by decide +kernel
theorem dL_acts_351 : decode cL_acts 351 = .ok (.aload_n 0, 1) := by decide +kernel
theorem dL_acts_352 : decode cL_acts 352 = .ok (.invokevirtual 261, 3) := by decide +kernel
theorem dL_acts_355 : decode cL_acts 355 = .ok (.istore 5, 2) := by decide +kernel
theorem dL_acts_357 : decode cL_acts 357 = .ok (.aload_n 0, 1) := by decide +kernel
theorem dL_acts_358 : decode cL_acts 358 = .ok (.iload 4, 2) := by decide +kernel
theorem dL_acts_360 : decode cL_acts 360 = .ok (.invokestatic 264, 3) := by decide +kernel
theorem dL_acts_363 : decode cL_acts 363 = .ok (.istore 6, 2) := by decide +kernel
theorem dL_acts_365 : decode cL_acts 365 = .ok (.iconst 0, 1) := by decide +kernel
theorem dL_acts_366 : decode cL_acts 366 = .ok (.istore 7, 2) := by decide +kernel
theorem dL_acts_368 : decode cL_acts 368 = .ok (.iload 7, 2) := by decide +kernel
theorem dL_acts_370 : decode cL_acts 370 = .ok (.aload_n 0, 1) := by decide +kernel
theorem dL_acts_371 : decode cL_acts 371 = .ok (.invokevirtual 179, 3) := by decide +kernel
theorem dL_acts_374 : decode cL_acts 374 = .ok (.if_icmp .ge 20, 3) := by decide +kernel
theorem dL_acts_377 : decode cL_acts 377 = .ok (.iload 6, 2) := by decide +kernel
theorem dL_acts_379 : decode cL_acts 379 = .ok (.aload_n 0, 1) := by decide +kernel
theorem dL_acts_380 : decode cL_acts 380 = .ok (.iload 7, 2) := by decide +kernel
theorem dL_acts_382 : decode cL_acts 382 = .ok (.invokestatic 188, 3) := by decide +kernel
theorem dL_acts_385 : decode cL_acts 385 = .ok (.isub, 1) := by decide +kernel
theorem dL_acts_386 : decode cL_acts 386 = .ok (.istore 6, 2) := by decide +kernel
theorem dL_acts_388 : decode cL_acts 388 = .ok (.iinc 7 1, 3) := by decide +kernel
theorem dL_acts_391 : decode cL_acts 391 = .ok (.goto (-23), 3) := by decide +kernel
theorem dL_acts_394 : decode cL_acts 394 = .ok (.aload_n 0, 1) := by decide +kernel
theorem dL_acts_395 : decode cL_acts 395 = .ok (.iload_n 3, 1) := by decide +kernel
theorem dL_acts_396 : decode cL_acts 396 = .ok (.invokestatic 266, 3) := by decide +kernel
theorem dL_acts_399 : decode cL_acts 399 = .ok (.istore 7, 2) := by decide +kernel
theorem dL_acts_401 : decode cL_acts 401 = .ok (.iload 6, 2) := by decide +kernel
theorem dL_acts_403 : decode cL_acts 403 = .ok (.ifCond .ne 30, 3) := by decide +kernel
theorem dL_acts_406 : decode cL_acts 406 = .ok (.aload_n 0, 1) := by decide +kernel
theorem dL_acts_407 : decode cL_acts 407 = .ok (.invokevirtual 261, 3) := by decide +kernel
theorem dL_acts_410 : decode cL_acts 410 = .ok (.iload 5, 2) := by decide +kernel
theorem dL_acts_412 : decode cL_acts 412 = .ok (.iload 4, 2) := by decide +kernel
theorem dL_acts_414 : decode cL_acts 414 = .ok (.iadd, 1) := by decide +kernel
theorem dL_acts_415 : decode cL_acts 415 = .ok (.if_icmp .ne 18, 3) := by decide +kernel
theorem dL_acts_418 : decode cL_acts 418 = .ok (.iload 7, 2) := by decide +kernel
theorem dL_acts_420 : decode cL_acts 420 = .ok (.ifCond .lt 15, 3) := by decide +kernel
theorem dL_acts_423 : decode cL_acts 423 = .ok (.aload_n 0, 1) := by decide +kernel
theorem dL_acts_424 : decode cL_acts 424 = .ok (.iload 7, 2) := by decide +kernel
theorem dL_acts_426 : decode cL_acts 426 = .ok (.invokestatic 188, 3) := by decide +kernel
theorem dL_acts_429 : decode cL_acts 429 = .ok (.iconst 1, 1) := by decide +kernel
theorem dL_acts_430 : decode cL_acts 430 = .ok (.if_icmp .eq 5, 3) := by decide +kernel
theorem dL_acts_433 : decode cL_acts 433 = .ok (.iconst 0, 1) := by decide +kernel
theorem dL_acts_434 : decode cL_acts 434 = .ok (.ireturn, 1) := by decide +kernel
theorem dL_acts_435 : decode cL_acts 435 = .ok (.iconst 0, 1) := by decide +kernel
theorem dL_acts_436 : decode cL_acts 436 = .ok (.istore 8, 2) := by decide +kernel
theorem dL_acts_438 : decode cL_acts 438 = .ok (.iload 8, 2) := by decide +kernel
theorem dL_acts_440 : decode cL_acts 440 = .ok (.aload_n 0, 1) := by decide +kernel
theorem dL_acts_441 : decode cL_acts 441 = .ok (.invokevirtual 179, 3) := by decide +kernel
theorem dL_acts_444 : decode cL_acts 444 = .ok (.if_icmp .ge 43, 3) := by decide +kernel
theorem dL_acts_447 : decode cL_acts 447 = .ok (.aload_n 0, 1) := by decide +kernel
theorem dL_acts_448 : decode cL_acts 448 = .ok (.iload 8, 2) := by decide +kernel
theorem dL_acts_450 : decode cL_acts 450 = .ok (.invokestatic 188, 3) := by decide +kernel
theorem dL_acts_453 : decode cL_acts 453 = .ok (.iconst 1, 1) := by decide +kernel
theorem dL_acts_454 : decode cL_acts 454 = .ok (.if_icmp .ne 27, 3) := by decide +kernel
theorem dL_acts_457 : decode cL_acts 457 = .ok (.iload 7, 2) := by decide +kernel
theorem dL_acts_459 : decode cL_acts 459 = .ok (.ifCond .lt 20, 3) := by decide +kernel
theorem dL_acts_462 : decode cL_acts 462 = .ok (.aload_n 0, 1) := by decide +kernel
theorem dL_acts_463 : decode cL_acts 463 = .ok (.iload 8, 2) := by decide +kernel
theorem dL_acts_465 : decode cL_acts 465 = .ok (.iload_n 3, 1) := by decide +kernel
theorem dL_acts_466 : decode cL_acts 466 = .ok (.invokestatic 167, 3) := by decide +kernel
theorem dL_acts_469 : decode cL_acts 469 = .ok (.aload_n 0, 1) := by decide +kernel
theorem dL_acts_470 : decode cL_acts 470 = .ok (.iload 7, 2) := by decide +kernel
theorem dL_acts_472 : decode cL_acts 472 = .ok (.iload_n 3, 1) := by decide +kernel
theorem dL_acts_473 : decode cL_acts 473 = .ok (.invokestatic 167, 3) := by decide +kernel
theorem dL_acts_476 : decode cL_acts 476 = .ok (.if_icmp .ge 5, 3) := by decide +kernel
theorem dL_acts_479 : decode cL_acts 479 = .ok (.iconst 0, 1) := by decide +kernel
theorem dL_acts_480 : decode cL_acts 480 = .ok (.ireturn, 1) := by decide +kernel
theorem dL_acts_481 : decode cL_acts 481 = .ok (.iinc 8 1, 3) := by decide +kernel
theorem dL_acts_484 : decode cL_acts 484 = .ok (.goto (-46), 3) := by decide +kernel
theorem dL_acts_487 : decode cL_acts 487 = .ok (.iconst 1, 1) := by decide +kernel
theorem dL_acts_488 : decode cL_acts 488 = .ok (.ireturn, 1) := by decide +kernel
theorem bL_acts_0 {d mc ms : Nat} {al : Bool} {bc bs : Nat} {Γ : am_G} {I : am_I} {L : am_L} {Q : am_Q} {v0 : Nat} {v1 : Nat} {I' : am_I} {L' : am_L} {mc' : Nat} {ms' : Nat} {r : Int32} (o1 : am_ob Γ v0 8) (hbc : mc' ≤ bc) (hbs : ms' ≤ bs) (hC : am_E m_X8_gateCount d mc' ms' [.ref v0] Γ I L (.inl (some (.int r))) I' L') (kk : am_W m_L_acts (d + 1) mc ms al (bc - mc') (bs - ms') 5 [(0, .ref v0), (1, .ref v1)] [.int r, .ref v1] Γ I' L' Q) : am_W m_L_acts (d + 1) mc ms al bc bs 0 [(0, .ref v0), (1, .ref v1)] [] Γ I L Q := by
  refine aw_aload_n dL_acts_0 rfl ?_
  refine aw_aload_n dL_acts_1 rfl ?_
  exact aw_askV (as := []) (rst := [.ref v1]) k_X8_gateCount l_L_179 i_X8_gateCount s_X8_gateCount rfl o1 dL_acts_2 rfl (Nat.le_of_ble_eq_true rfl) hbc hbs hC rfl rfl kk
theorem bL_acts_5 {d mc ms : Nat} {al : Bool} {bc bs : Nat} {Γ : am_G} {I : am_I} {L : am_L} {Q : am_Q} {v0 : Nat} {v1 : Nat} {w0 : Nat} {w1 : Int32} {I' : am_I} {L' : am_L} {mc' : Nat} {ms' : Nat} {r : Int32} (hbc : mc' ≤ bc) (hbs : ms' ≤ bs) (hC : am_E m_L_draw d mc' ms' [.ref w0, .int w1] Γ I L (.inl (some (.int r))) I' L') (kk : am_W m_L_acts (d + 1) mc ms al (bc - mc') (bs - ms') 8 [(0, .ref v0), (1, .ref v1)] [.int r] Γ I' L' Q) : am_W m_L_acts (d + 1) mc ms al bc bs 5 [(0, .ref v0), (1, .ref v1)] [.int w1, .ref w0] Γ I L Q := by
  exact aw_askS (as := [.ref w0, .int w1]) (rst := []) k_L_draw l_L_234 t_L_draw dL_acts_5 rfl (Nat.le_of_ble_eq_true rfl) hbc hbs hC rfl rfl kk
theorem bL_acts_8 {d mc ms : Nat} {al : Bool} {bc bs : Nat} {Γ : am_G} {I : am_I} {L : am_L} {Q : am_Q} {v0 : Nat} {v1 : Nat} {w0 : Int32} {I' : am_I} {L' : am_L} {mc' : Nat} {ms' : Nat} {r : Int32} (o1 : am_ob Γ v0 8) (hbc : mc' ≤ bc) (hbs : ms' ≤ bs) (hC : am_E m_X8_typeCount d mc' ms' [.ref v0] Γ I L (.inl (some (.int r))) I' L') (kk : am_W m_L_acts (d + 1) mc ms al (bc - mc') (bs - ms') 14 [(0, .ref v0), (1, .ref v1), (2, .int w0)] [.int r, .ref v1] Γ I' L' Q) : am_W m_L_acts (d + 1) mc ms al bc bs 8 [(0, .ref v0), (1, .ref v1)] [.int w0] Γ I L Q := by
  refine aw_istore_n (ls' := [(0, .ref v0), (1, .ref v1), (2, .int w0)]) dL_acts_8 (by decide) rfl ?_
  refine aw_aload_n dL_acts_9 rfl ?_
  refine aw_aload_n dL_acts_10 rfl ?_
  exact aw_askV (as := []) (rst := [.ref v1]) k_X8_typeCount l_L_143 i_X8_typeCount s_X8_typeCount rfl o1 dL_acts_11 rfl (Nat.le_of_ble_eq_true rfl) hbc hbs hC rfl rfl kk
theorem bL_acts_14 {d mc ms : Nat} {al : Bool} {bc bs : Nat} {Γ : am_G} {I : am_I} {L : am_L} {Q : am_Q} {v0 : Nat} {v1 : Nat} {v2 : Int32} {w0 : Nat} {w1 : Int32} {I' : am_I} {L' : am_L} {mc' : Nat} {ms' : Nat} {r : Int32} (hbc : mc' ≤ bc) (hbs : ms' ≤ bs) (hC : am_E m_L_draw d mc' ms' [.ref w0, .int w1] Γ I L (.inl (some (.int r))) I' L') (kk : am_W m_L_acts (d + 1) mc ms al (bc - mc') (bs - ms') 17 [(0, .ref v0), (1, .ref v1), (2, .int v2)] [.int r] Γ I' L' Q) : am_W m_L_acts (d + 1) mc ms al bc bs 14 [(0, .ref v0), (1, .ref v1), (2, .int v2)] [.int w1, .ref w0] Γ I L Q := by
  exact aw_askS (as := [.ref w0, .int w1]) (rst := []) k_L_draw l_L_234 t_L_draw dL_acts_14 rfl (Nat.le_of_ble_eq_true rfl) hbc hbs hC rfl rfl kk
theorem bL_acts_17 {d mc ms : Nat} {al : Bool} {bc bs : Nat} {Γ : am_G} {I : am_I} {L : am_L} {Q : am_Q} {v0 : Nat} {v1 : Nat} {v2 : Int32} {w0 : Int32} {I' : am_I} {L' : am_L} {mc' : Nat} {ms' : Nat} {r : Int32} (hbc : mc' ≤ bc) (hbs : ms' ≤ bs) (hC : am_E m_L_draw d mc' ms' [.ref v1, .int 7] Γ I L (.inl (some (.int r))) I' L') (kk : am_W m_L_acts (d + 1) mc ms al (bc - mc') (bs - ms') 24 [(0, .ref v0), (1, .ref v1), (2, .int v2), (3, .int w0)] [.int r] Γ I' L' Q) : am_W m_L_acts (d + 1) mc ms al bc bs 17 [(0, .ref v0), (1, .ref v1), (2, .int v2)] [.int w0] Γ I L Q := by
  refine aw_istore_n (ls' := [(0, .ref v0), (1, .ref v1), (2, .int v2), (3, .int w0)]) dL_acts_17 (by decide) rfl ?_
  refine aw_aload_n dL_acts_18 rfl ?_
  refine aw_bipush dL_acts_19 cb_7 ?_
  exact aw_askS (as := [.ref v1, .int 7]) (rst := []) k_L_draw l_L_234 t_L_draw dL_acts_21 rfl (Nat.le_of_ble_eq_true rfl) hbc hbs hC rfl rfl kk
theorem bL_acts_64 {d mc ms : Nat} {al : Bool} {bc bs : Nat} {Γ : am_G} {I : am_I} {L : am_L} {Q : am_Q} {v0 : Nat} {v1 : Nat} {v2 : Int32} {v3 : Int32} {I' : am_I} {L' : am_L} {mc' : Nat} {ms' : Nat} {r : Int32} (hbc : mc' ≤ bc) (hbs : ms' ≤ bs) (hC : am_E m_L_draw d mc' ms' [.ref v1, .int 99] Γ I L (.inl (some (.int r))) I' L') (kk : am_W m_L_acts (d + 1) mc ms al (bc - mc') (bs - ms') 71 [(0, .ref v0), (1, .ref v1), (2, .int v2), (3, .int v3)] [.int r, .int 1] Γ I' L' Q) : am_W m_L_acts (d + 1) mc ms al bc bs 64 [(0, .ref v0), (1, .ref v1), (2, .int v2), (3, .int v3)] [] Γ I L Q := by
  refine aw_iconst dL_acts_64 ci_1 ?_
  refine aw_aload_n dL_acts_65 rfl ?_
  refine aw_bipush dL_acts_66 cb_99 ?_
  exact aw_askS (as := [.ref v1, .int 99]) (rst := [.int 1]) k_L_draw l_L_234 t_L_draw dL_acts_68 rfl (Nat.le_of_ble_eq_true rfl) hbc hbs hC rfl rfl kk
theorem bL_acts_71 {d mc ms : Nat} {al : Bool} {bc bs : Nat} {Γ : am_G} {I : am_I} {L : am_L} {Q : am_Q} {v0 : Nat} {v1 : Nat} {v2 : Int32} {v3 : Int32} {w0 : Int32} {w1 : Int32} {I' : am_I} {L' : am_L} {mc' : Nat} {ms' : Nat} {r : Int32} (hbc : mc' ≤ bc) (hbs : ms' ≤ bs) (hC : am_E m_L_countAt d mc' ms' [.ref v0, .int v2, .int v3] Γ I L (.inl (some (.int r))) I' L') (kk : am_W m_L_acts (d + 1) mc ms al (bc - mc') (bs - ms') 80 [(0, .ref v0), (1, .ref v1), (2, .int v2), (3, .int v3), (4, .int (w0 + w1))] [.int r] Γ I' L' Q) : am_W m_L_acts (d + 1) mc ms al bc bs 71 [(0, .ref v0), (1, .ref v1), (2, .int v2), (3, .int v3)] [.int w1, .int w0] Γ I L Q := by
  refine aw_iadd dL_acts_71 ?_
  refine aw_istore (ls' := [(0, .ref v0), (1, .ref v1), (2, .int v2), (3, .int v3), (4, .int (w0 + w1))]) dL_acts_72 (by decide) rfl ?_
  refine aw_aload_n dL_acts_74 rfl ?_
  refine aw_iload_n dL_acts_75 rfl ?_
  refine aw_iload_n dL_acts_76 rfl ?_
  exact aw_askSW (as := [.ref v0, .int v2, .int v3]) (rst := []) kw_L_countAt (by decide) rfl l_L_146 t_L_countAt dL_acts_77 rfl (Nat.le_of_ble_eq_true rfl) hbc hbs hC rfl rfl kk
theorem bL_acts_80 {d mc ms : Nat} {al : Bool} {bc bs : Nat} {Γ : am_G} {I : am_I} {L : am_L} {Q : am_Q} {v0 : Nat} {v1 : Nat} {v2 : Int32} {v3 : Int32} {v4 : Int32} {w0 : Int32} {I' : am_I} {L' : am_L} {mc' : Nat} {ms' : Nat} {r : Int32} (o1 : am_ob Γ v0 8) (hbc : mc' ≤ bc) (hbs : ms' ≤ bs) (hC : am_E m_X8_cartsPassed d mc' ms' [.ref v0] Γ I L (.inl (some (.int r))) I' L') (kk : am_W m_L_acts (d + 1) mc ms al (bc - mc') (bs - ms') 86 [(0, .ref v0), (1, .ref v1), (2, .int v2), (3, .int v3), (4, .int v4), (5, .int w0)] [.int r] Γ I' L' Q) : am_W m_L_acts (d + 1) mc ms al bc bs 80 [(0, .ref v0), (1, .ref v1), (2, .int v2), (3, .int v3), (4, .int v4)] [.int w0] Γ I L Q := by
  refine aw_istore (ls' := [(0, .ref v0), (1, .ref v1), (2, .int v2), (3, .int v3), (4, .int v4), (5, .int w0)]) dL_acts_80 (by decide) rfl ?_
  refine aw_aload_n dL_acts_82 rfl ?_
  exact aw_askV (as := []) (rst := []) k_X8_cartsPassed l_L_226 i_X8_cartsPassed s_X8_cartsPassed rfl o1 dL_acts_83 rfl (Nat.le_of_ble_eq_true rfl) hbc hbs hC rfl rfl kk
theorem bL_acts_86 {d mc ms : Nat} {al : Bool} {bc bs : Nat} {Γ : am_G} {I : am_I} {L : am_L} {Q : am_Q} {v0 : Nat} {v1 : Nat} {v2 : Int32} {v3 : Int32} {v4 : Int32} {v5 : Int32} {w0 : Int32} {I' : am_I} {L' : am_L} {mc' : Nat} {ms' : Nat} {r : Int32} (o1 : am_ob Γ v0 8) (hbc : mc' ≤ bc) (hbs : ms' ≤ bs) (hC : am_E m_X8_tollsPaid d mc' ms' [.ref v0] Γ I L (.inl (some (.int r))) I' L') (kk : am_W m_L_acts (d + 1) mc ms al (bc - mc') (bs - ms') 92 [(0, .ref v0), (1, .ref v1), (2, .int v2), (3, .int v3), (4, .int v4), (5, .int v5), (6, .int w0)] [.int r] Γ I' L' Q) : am_W m_L_acts (d + 1) mc ms al bc bs 86 [(0, .ref v0), (1, .ref v1), (2, .int v2), (3, .int v3), (4, .int v4), (5, .int v5)] [.int w0] Γ I L Q := by
  refine aw_istore (ls' := [(0, .ref v0), (1, .ref v1), (2, .int v2), (3, .int v3), (4, .int v4), (5, .int v5), (6, .int w0)]) dL_acts_86 (by decide) rfl ?_
  refine aw_aload_n dL_acts_88 rfl ?_
  exact aw_askV (as := []) (rst := []) k_X8_tollsPaid l_L_208 i_X8_tollsPaid s_X8_tollsPaid rfl o1 dL_acts_89 rfl (Nat.le_of_ble_eq_true rfl) hbc hbs hC rfl rfl kk
theorem bL_acts_92 {d mc ms : Nat} {al : Bool} {bc bs : Nat} {Γ : am_G} {I : am_I} {L : am_L} {Q : am_Q} {v0 : Nat} {v1 : Nat} {v2 : Int32} {v3 : Int32} {v4 : Int32} {v5 : Int32} {v6 : Int32} {w0 : Int32} {I' : am_I} {L' : am_L} {mc' : Nat} {ms' : Nat} {r : Int32} (o1 : am_ob Γ v0 8) (hbc : mc' ≤ bc) (hbs : ms' ≤ bs) (hC : am_E m_X8_costAsked d mc' ms' [.ref v0] Γ I L (.inl (some (.int r))) I' L') (kk : am_W m_L_acts (d + 1) mc ms al (bc - mc') (bs - ms') 98 [(0, .ref v0), (1, .ref v1), (2, .int v2), (3, .int v3), (4, .int v4), (5, .int v5), (6, .int v6), (7, .int w0)] [.int r] Γ I' L' Q) : am_W m_L_acts (d + 1) mc ms al bc bs 92 [(0, .ref v0), (1, .ref v1), (2, .int v2), (3, .int v3), (4, .int v4), (5, .int v5), (6, .int v6)] [.int w0] Γ I L Q := by
  refine aw_istore (ls' := [(0, .ref v0), (1, .ref v1), (2, .int v2), (3, .int v3), (4, .int v4), (5, .int v5), (6, .int v6), (7, .int w0)]) dL_acts_92 (by decide) rfl ?_
  refine aw_aload_n dL_acts_94 rfl ?_
  exact aw_askV (as := []) (rst := []) k_X8_costAsked l_L_238 i_X8_costAsked s_X8_costAsked rfl o1 dL_acts_95 rfl (Nat.le_of_ble_eq_true rfl) hbc hbs hC rfl rfl kk
theorem bL_acts_98 {d mc ms : Nat} {al : Bool} {bc bs : Nat} {Γ : am_G} {I : am_I} {L : am_L} {Q : am_Q} {v0 : Nat} {v1 : Nat} {v2 : Int32} {v3 : Int32} {v4 : Int32} {v5 : Int32} {v6 : Int32} {v7 : Int32} {w0 : Int32} {I' : am_I} {L' : am_L} {mc' : Nat} {ms' : Nat} {r : Int32} (hbc : mc' ≤ bc) (hbs : ms' ≤ bs) (hC : am_E m_L_passCarts d mc' ms' [.ref v0, .int v2, .int v3, .int v4] Γ I L (.inl (some (.int r))) I' L') (kk : am_W m_L_acts (d + 1) mc ms al (bc - mc') (bs - ms') 108 [(0, .ref v0), (1, .ref v1), (2, .int v2), (3, .int v3), (4, .int v4), (5, .int v5), (6, .int v6), (7, .int v7), (8, .int w0)] [.int r] Γ I' L' Q) : am_W m_L_acts (d + 1) mc ms al bc bs 98 [(0, .ref v0), (1, .ref v1), (2, .int v2), (3, .int v3), (4, .int v4), (5, .int v5), (6, .int v6), (7, .int v7)] [.int w0] Γ I L Q := by
  refine aw_istore (ls' := [(0, .ref v0), (1, .ref v1), (2, .int v2), (3, .int v3), (4, .int v4), (5, .int v5), (6, .int v6), (7, .int v7), (8, .int w0)]) dL_acts_98 (by decide) rfl ?_
  refine aw_aload_n dL_acts_100 rfl ?_
  refine aw_iload_n dL_acts_101 rfl ?_
  refine aw_iload_n dL_acts_102 rfl ?_
  refine aw_iload dL_acts_103 rfl ?_
  exact aw_askSW (as := [.ref v0, .int v2, .int v3, .int v4]) (rst := []) kw_L_passCarts (by decide) rfl l_L_241 t_L_passCarts dL_acts_105 rfl (Nat.le_of_ble_eq_true rfl) hbc hbs hC rfl rfl kk
theorem bL_acts_108 {d mc ms : Nat} {al : Bool} {bc bs : Nat} {Γ : am_G} {I : am_I} {L : am_L} {Q : am_Q} {v0 : Nat} {v1 : Nat} {v2 : Int32} {v3 : Int32} {v4 : Int32} {v5 : Int32} {v6 : Int32} {v7 : Int32} {v8 : Int32} {w0 : Int32} {I' : am_I} {L' : am_L} {mc' : Nat} {ms' : Nat} {r : Int32} (hbc : mc' ≤ bc) (hbs : ms' ≤ bs) (hC : am_E m_L_isOpen d mc' ms' [.ref v0, .int v2] Γ I L (.inl (some (.int r))) I' L') (kk : am_W m_L_acts (d + 1) mc ms al (bc - mc') (bs - ms') 115 [(0, .ref v0), (1, .ref v1), (2, .int v2), (3, .int v3), (4, .int v4), (5, .int v5), (6, .int v6), (7, .int v7), (8, .int v8), (9, .int w0)] [.int r] Γ I' L' Q) : am_W m_L_acts (d + 1) mc ms al bc bs 108 [(0, .ref v0), (1, .ref v1), (2, .int v2), (3, .int v3), (4, .int v4), (5, .int v5), (6, .int v6), (7, .int v7), (8, .int v8)] [.int w0] Γ I L Q := by
  refine aw_istore (ls' := [(0, .ref v0), (1, .ref v1), (2, .int v2), (3, .int v3), (4, .int v4), (5, .int v5), (6, .int v6), (7, .int v7), (8, .int v8), (9, .int w0)]) dL_acts_108 (by decide) rfl ?_
  refine aw_aload_n dL_acts_110 rfl ?_
  refine aw_iload_n dL_acts_111 rfl ?_
  exact aw_askSW (as := [.ref v0, .int v2]) (rst := []) kw_L_isOpen (by decide) rfl l_L_188 t_L_isOpen dL_acts_112 rfl (Nat.le_of_ble_eq_true rfl) hbc hbs hC rfl rfl kk
theorem bL_acts_115 {d mc ms : Nat} {al : Bool} {bc bs : Nat} {Γ : am_G} {I : am_I} {L : am_L} {Q : am_Q} {v0 : Nat} {v1 : Nat} {v2 : Int32} {v3 : Int32} {v4 : Int32} {v5 : Int32} {v6 : Int32} {v7 : Int32} {v8 : Int32} {v9 : Int32} {w0 : Int32} (kt : w0 = 1 → am_W m_L_acts d mc ms al bc bs 143 [(0, .ref v0), (1, .ref v1), (2, .int v2), (3, .int v3), (4, .int v4), (5, .int v5), (6, .int v6), (7, .int v7), (8, .int v8), (9, .int v9)] [] Γ I L Q) (kf : ¬ w0 = 1 → am_W m_L_acts d mc ms al bc bs 119 [(0, .ref v0), (1, .ref v1), (2, .int v2), (3, .int v3), (4, .int v4), (5, .int v5), (6, .int v6), (7, .int v7), (8, .int v8), (9, .int v9)] [] Γ I L Q) : am_W m_L_acts d mc ms al bc bs 115 [(0, .ref v0), (1, .ref v1), (2, .int v2), (3, .int v3), (4, .int v4), (5, .int v5), (6, .int v6), (7, .int v7), (8, .int v8), (9, .int v9)] [.int w0] Γ I L Q := by
  refine aw_iconst dL_acts_115 ci_1 ?_
  exact aw_icmp_eq dL_acts_116 (by decide) kt kf
theorem bL_acts_119 {d mc ms : Nat} {al : Bool} {bc bs : Nat} {Γ : am_G} {I : am_I} {L : am_L} {Q : am_Q} {v0 : Nat} {v1 : Nat} {v2 : Int32} {v3 : Int32} {v4 : Int32} {v5 : Int32} {v6 : Int32} {v7 : Int32} {v8 : Int32} {v9 : Int32} (kt : ¬ v9 = (-19) → am_W m_L_acts d mc ms al bc bs 141 [(0, .ref v0), (1, .ref v1), (2, .int v2), (3, .int v3), (4, .int v4), (5, .int v5), (6, .int v6), (7, .int v7), (8, .int v8), (9, .int v9)] [] Γ I L Q) (kf : v9 = (-19) → am_W m_L_acts d mc ms al bc bs 126 [(0, .ref v0), (1, .ref v1), (2, .int v2), (3, .int v3), (4, .int v4), (5, .int v5), (6, .int v6), (7, .int v7), (8, .int v8), (9, .int v9)] [] Γ I L Q) : am_W m_L_acts d mc ms al bc bs 119 [(0, .ref v0), (1, .ref v1), (2, .int v2), (3, .int v3), (4, .int v4), (5, .int v5), (6, .int v6), (7, .int v7), (8, .int v8), (9, .int v9)] [] Γ I L Q := by
  refine aw_iload dL_acts_119 rfl ?_
  refine aw_bipush dL_acts_121 cb_m19 ?_
  exact aw_icmp_ne dL_acts_123 (by decide) kt kf
theorem bL_acts_126 {d mc ms : Nat} {al : Bool} {bc bs : Nat} {Γ : am_G} {I : am_I} {L : am_L} {Q : am_Q} {v0 : Nat} {v1 : Nat} {v2 : Int32} {v3 : Int32} {v4 : Int32} {v5 : Int32} {v6 : Int32} {v7 : Int32} {v8 : Int32} {v9 : Int32} {I' : am_I} {L' : am_L} {mc' : Nat} {ms' : Nat} {r : Int32} (hbc : mc' ≤ bc) (hbs : ms' ≤ bs) (hC : am_E m_L_countAt d mc' ms' [.ref v0, .int v2, .int v3] Γ I L (.inl (some (.int r))) I' L') (kk : am_W m_L_acts (d + 1) mc ms al (bc - mc') (bs - ms') 132 [(0, .ref v0), (1, .ref v1), (2, .int v2), (3, .int v3), (4, .int v4), (5, .int v5), (6, .int v6), (7, .int v7), (8, .int v8), (9, .int v9)] [.int r] Γ I' L' Q) : am_W m_L_acts (d + 1) mc ms al bc bs 126 [(0, .ref v0), (1, .ref v1), (2, .int v2), (3, .int v3), (4, .int v4), (5, .int v5), (6, .int v6), (7, .int v7), (8, .int v8), (9, .int v9)] [] Γ I L Q := by
  refine aw_aload_n dL_acts_126 rfl ?_
  refine aw_iload_n dL_acts_127 rfl ?_
  refine aw_iload_n dL_acts_128 rfl ?_
  exact aw_askSW (as := [.ref v0, .int v2, .int v3]) (rst := []) kw_L_countAt (by decide) rfl l_L_146 t_L_countAt dL_acts_129 rfl (Nat.le_of_ble_eq_true rfl) hbc hbs hC rfl rfl kk
theorem bL_acts_132 {d mc ms : Nat} {al : Bool} {bc bs : Nat} {Γ : am_G} {I : am_I} {L : am_L} {Q : am_Q} {v0 : Nat} {v1 : Nat} {v2 : Int32} {v3 : Int32} {v4 : Int32} {v5 : Int32} {v6 : Int32} {v7 : Int32} {v8 : Int32} {v9 : Int32} {w0 : Int32} (kt : ¬ w0 = v5 → am_W m_L_acts d mc ms al bc bs 141 [(0, .ref v0), (1, .ref v1), (2, .int v2), (3, .int v3), (4, .int v4), (5, .int v5), (6, .int v6), (7, .int v7), (8, .int v8), (9, .int v9)] [] Γ I L Q) (kf : w0 = v5 → am_W m_L_acts d mc ms al bc bs 137 [(0, .ref v0), (1, .ref v1), (2, .int v2), (3, .int v3), (4, .int v4), (5, .int v5), (6, .int v6), (7, .int v7), (8, .int v8), (9, .int v9)] [] Γ I L Q) : am_W m_L_acts d mc ms al bc bs 132 [(0, .ref v0), (1, .ref v1), (2, .int v2), (3, .int v3), (4, .int v4), (5, .int v5), (6, .int v6), (7, .int v7), (8, .int v8), (9, .int v9)] [.int w0] Γ I L Q := by
  refine aw_iload dL_acts_132 rfl ?_
  exact aw_icmp_ne dL_acts_134 (by decide) kt kf
theorem bL_acts_137 {d mc ms : Nat} {al : Bool} {bc bs : Nat} {Γ : am_G} {I : am_I} {L : am_L} {Q : am_Q} {v0 : Nat} {v1 : Nat} {v2 : Int32} {v3 : Int32} {v4 : Int32} {v5 : Int32} {v6 : Int32} {v7 : Int32} {v8 : Int32} {v9 : Int32} (kk : am_W m_L_acts d mc ms al bc bs 142 [(0, .ref v0), (1, .ref v1), (2, .int v2), (3, .int v3), (4, .int v4), (5, .int v5), (6, .int v6), (7, .int v7), (8, .int v8), (9, .int v9)] [.int 1] Γ I L Q) : am_W m_L_acts d mc ms al bc bs 137 [(0, .ref v0), (1, .ref v1), (2, .int v2), (3, .int v3), (4, .int v4), (5, .int v5), (6, .int v6), (7, .int v7), (8, .int v8), (9, .int v9)] [] Γ I L Q := by
  refine aw_iconst dL_acts_137 ci_1 ?_
  exact aw_goto dL_acts_138 (by decide) kk
theorem bL_acts_141 {d mc ms : Nat} {al : Bool} {bc bs : Nat} {Γ : am_G} {I : am_I} {L : am_L} {Q : am_Q} {v0 : Nat} {v1 : Nat} {v2 : Int32} {v3 : Int32} {v4 : Int32} {v5 : Int32} {v6 : Int32} {v7 : Int32} {v8 : Int32} {v9 : Int32} (kk : am_W m_L_acts d mc ms al bc bs 142 [(0, .ref v0), (1, .ref v1), (2, .int v2), (3, .int v3), (4, .int v4), (5, .int v5), (6, .int v6), (7, .int v7), (8, .int v8), (9, .int v9)] [.int 0] Γ I L Q) : am_W m_L_acts d mc ms al bc bs 141 [(0, .ref v0), (1, .ref v1), (2, .int v2), (3, .int v3), (4, .int v4), (5, .int v5), (6, .int v6), (7, .int v7), (8, .int v8), (9, .int v9)] [] Γ I L Q := by
  refine aw_iconst dL_acts_141 ci_0 ?_
  exact kk
theorem bL_acts_142 {d mc ms : Nat} {al : Bool} {bc bs : Nat} {Γ : am_G} {I : am_I} {L : am_L} {Q : am_Q} {v0 : Nat} {v1 : Nat} {v2 : Int32} {v3 : Int32} {v4 : Int32} {v5 : Int32} {v6 : Int32} {v7 : Int32} {v8 : Int32} {v9 : Int32} {w0 : Int32} (hz : narrow .boolean (.int w0) = .int w0) (hq : Q (.inl (some (.int w0))) Γ I L) : am_W m_L_acts d mc ms al bc bs 142 [(0, .ref v0), (1, .ref v1), (2, .int v2), (3, .int v3), (4, .int v4), (5, .int v5), (6, .int v6), (7, .int v7), (8, .int v8), (9, .int v9)] [.int w0] Γ I L Q := by
  exact aw_zret (ty := .boolean) dL_acts_142 rfl hz hq
theorem bL_acts_143 {d mc ms : Nat} {al : Bool} {bc bs : Nat} {Γ : am_G} {I : am_I} {L : am_L} {Q : am_Q} {v0 : Nat} {v1 : Nat} {v2 : Int32} {v3 : Int32} {v4 : Int32} {v5 : Int32} {v6 : Int32} {v7 : Int32} {v8 : Int32} {v9 : Int32} {I' : am_I} {L' : am_L} {mc' : Nat} {ms' : Nat} {r : Int32} (hbc : mc' ≤ bc) (hbs : ms' ≤ bs) (hC : am_E m_L_chargedToll d mc' ms' [.ref v0, .int v2, .int v3] Γ I L (.inl (some (.int r))) I' L') (kk : am_W m_L_acts (d + 1) mc ms al (bc - mc') (bs - ms') 151 [(0, .ref v0), (1, .ref v1), (2, .int v2), (3, .int v3), (4, .int v4), (5, .int v5), (6, .int v6), (7, .int v7), (8, .int v8), (9, .int v9)] [.int r, .int v9] Γ I' L' Q) : am_W m_L_acts (d + 1) mc ms al bc bs 143 [(0, .ref v0), (1, .ref v1), (2, .int v2), (3, .int v3), (4, .int v4), (5, .int v5), (6, .int v6), (7, .int v7), (8, .int v8), (9, .int v9)] [] Γ I L Q := by
  refine aw_iload dL_acts_143 rfl ?_
  refine aw_aload_n dL_acts_145 rfl ?_
  refine aw_iload_n dL_acts_146 rfl ?_
  refine aw_iload_n dL_acts_147 rfl ?_
  exact aw_askSW (as := [.ref v0, .int v2, .int v3]) (rst := [.int v9]) kw_L_chargedToll (by decide) rfl l_L_169 t_L_chargedToll dL_acts_148 rfl (Nat.le_of_ble_eq_true rfl) hbc hbs hC rfl rfl kk
theorem bL_acts_151 {d mc ms : Nat} {al : Bool} {bc bs : Nat} {Γ : am_G} {I : am_I} {L : am_L} {Q : am_Q} {v0 : Nat} {v1 : Nat} {v2 : Int32} {v3 : Int32} {v4 : Int32} {v5 : Int32} {v6 : Int32} {v7 : Int32} {v8 : Int32} {v9 : Int32} {w0 : Int32} {w1 : Int32} (kt : ¬ w0 = w1 → am_W m_L_acts d mc ms al bc bs 224 [(0, .ref v0), (1, .ref v1), (2, .int v2), (3, .int v3), (4, .int v4), (5, .int v5), (6, .int v6), (7, .int v7), (8, .int v8), (9, .int v9)] [] Γ I L Q) (kf : w0 = w1 → am_W m_L_acts d mc ms al bc bs 154 [(0, .ref v0), (1, .ref v1), (2, .int v2), (3, .int v3), (4, .int v4), (5, .int v5), (6, .int v6), (7, .int v7), (8, .int v8), (9, .int v9)] [] Γ I L Q) : am_W m_L_acts d mc ms al bc bs 151 [(0, .ref v0), (1, .ref v1), (2, .int v2), (3, .int v3), (4, .int v4), (5, .int v5), (6, .int v6), (7, .int v7), (8, .int v8), (9, .int v9)] [.int w1, .int w0] Γ I L Q := by
  exact aw_icmp_ne dL_acts_151 (by decide) kt kf
theorem bL_acts_154 {d mc ms : Nat} {al : Bool} {bc bs : Nat} {Γ : am_G} {I : am_I} {L : am_L} {Q : am_Q} {v0 : Nat} {v1 : Nat} {v2 : Int32} {v3 : Int32} {v4 : Int32} {v5 : Int32} {v6 : Int32} {v7 : Int32} {v8 : Int32} {v9 : Int32} {I' : am_I} {L' : am_L} {mc' : Nat} {ms' : Nat} {r : Int32} (hbc : mc' ≤ bc) (hbs : ms' ≤ bs) (hC : am_E m_L_countAt d mc' ms' [.ref v0, .int v2, .int v3] Γ I L (.inl (some (.int r))) I' L') (kk : am_W m_L_acts (d + 1) mc ms al (bc - mc') (bs - ms') 160 [(0, .ref v0), (1, .ref v1), (2, .int v2), (3, .int v3), (4, .int v4), (5, .int v5), (6, .int v6), (7, .int v7), (8, .int v8), (9, .int v9)] [.int r] Γ I' L' Q) : am_W m_L_acts (d + 1) mc ms al bc bs 154 [(0, .ref v0), (1, .ref v1), (2, .int v2), (3, .int v3), (4, .int v4), (5, .int v5), (6, .int v6), (7, .int v7), (8, .int v8), (9, .int v9)] [] Γ I L Q := by
  refine aw_aload_n dL_acts_154 rfl ?_
  refine aw_iload_n dL_acts_155 rfl ?_
  refine aw_iload_n dL_acts_156 rfl ?_
  exact aw_askSW (as := [.ref v0, .int v2, .int v3]) (rst := []) kw_L_countAt (by decide) rfl l_L_146 t_L_countAt dL_acts_157 rfl (Nat.le_of_ble_eq_true rfl) hbc hbs hC rfl rfl kk
theorem bL_acts_160 {d mc ms : Nat} {al : Bool} {bc bs : Nat} {Γ : am_G} {I : am_I} {L : am_L} {Q : am_Q} {v0 : Nat} {v1 : Nat} {v2 : Int32} {v3 : Int32} {v4 : Int32} {v5 : Int32} {v6 : Int32} {v7 : Int32} {v8 : Int32} {v9 : Int32} {w0 : Int32} (kt : ¬ w0 = (if (v5 + v4) < 9999 then (v5 + v4) else 9999) → am_W m_L_acts d mc ms al bc bs 224 [(0, .ref v0), (1, .ref v1), (2, .int v2), (3, .int v3), (4, .int v4), (5, .int v5), (6, .int v6), (7, .int v7), (8, .int v8), (9, .int v9)] [] Γ I L Q) (kf : w0 = (if (v5 + v4) < 9999 then (v5 + v4) else 9999) → am_W m_L_acts d mc ms al bc bs 174 [(0, .ref v0), (1, .ref v1), (2, .int v2), (3, .int v3), (4, .int v4), (5, .int v5), (6, .int v6), (7, .int v7), (8, .int v8), (9, .int v9)] [] Γ I L Q) : am_W m_L_acts d mc ms al bc bs 160 [(0, .ref v0), (1, .ref v1), (2, .int v2), (3, .int v3), (4, .int v4), (5, .int v5), (6, .int v6), (7, .int v7), (8, .int v8), (9, .int v9)] [.int w0] Γ I L Q := by
  refine aw_sipush dL_acts_160 cs_9999 ?_
  refine aw_iload dL_acts_163 rfl ?_
  refine aw_iload dL_acts_165 rfl ?_
  refine aw_iadd dL_acts_167 ?_
  refine aw_min dL_acts_168 mf_L_244 (Nat.le_of_ble_eq_true rfl) ?_
  exact aw_icmp_ne dL_acts_171 (by decide) kt kf
theorem bL_acts_174 {d mc ms : Nat} {al : Bool} {bc bs : Nat} {Γ : am_G} {I : am_I} {L : am_L} {Q : am_Q} {v0 : Nat} {v1 : Nat} {v2 : Int32} {v3 : Int32} {v4 : Int32} {v5 : Int32} {v6 : Int32} {v7 : Int32} {v8 : Int32} {v9 : Int32} {I' : am_I} {L' : am_L} {mc' : Nat} {ms' : Nat} {r : Int32} (o1 : am_ob Γ v0 8) (hbc : mc' ≤ bc) (hbs : ms' ≤ bs) (hC : am_E m_X8_cartsPassed d mc' ms' [.ref v0] Γ I L (.inl (some (.int r))) I' L') (kk : am_W m_L_acts (d + 1) mc ms al (bc - mc') (bs - ms') 178 [(0, .ref v0), (1, .ref v1), (2, .int v2), (3, .int v3), (4, .int v4), (5, .int v5), (6, .int v6), (7, .int v7), (8, .int v8), (9, .int v9)] [.int r] Γ I' L' Q) : am_W m_L_acts (d + 1) mc ms al bc bs 174 [(0, .ref v0), (1, .ref v1), (2, .int v2), (3, .int v3), (4, .int v4), (5, .int v5), (6, .int v6), (7, .int v7), (8, .int v8), (9, .int v9)] [] Γ I L Q := by
  refine aw_aload_n dL_acts_174 rfl ?_
  exact aw_askV (as := []) (rst := []) k_X8_cartsPassed l_L_226 i_X8_cartsPassed s_X8_cartsPassed rfl o1 dL_acts_175 rfl (Nat.le_of_ble_eq_true rfl) hbc hbs hC rfl rfl kk
theorem bL_acts_178 {d mc ms : Nat} {al : Bool} {bc bs : Nat} {Γ : am_G} {I : am_I} {L : am_L} {Q : am_Q} {v0 : Nat} {v1 : Nat} {v2 : Int32} {v3 : Int32} {v4 : Int32} {v5 : Int32} {v6 : Int32} {v7 : Int32} {v8 : Int32} {v9 : Int32} {w0 : Int32} (kt : ¬ w0 = (v6 + v4) → am_W m_L_acts d mc ms al bc bs 224 [(0, .ref v0), (1, .ref v1), (2, .int v2), (3, .int v3), (4, .int v4), (5, .int v5), (6, .int v6), (7, .int v7), (8, .int v8), (9, .int v9)] [] Γ I L Q) (kf : w0 = (v6 + v4) → am_W m_L_acts d mc ms al bc bs 186 [(0, .ref v0), (1, .ref v1), (2, .int v2), (3, .int v3), (4, .int v4), (5, .int v5), (6, .int v6), (7, .int v7), (8, .int v8), (9, .int v9)] [] Γ I L Q) : am_W m_L_acts d mc ms al bc bs 178 [(0, .ref v0), (1, .ref v1), (2, .int v2), (3, .int v3), (4, .int v4), (5, .int v5), (6, .int v6), (7, .int v7), (8, .int v8), (9, .int v9)] [.int w0] Γ I L Q := by
  refine aw_iload dL_acts_178 rfl ?_
  refine aw_iload dL_acts_180 rfl ?_
  refine aw_iadd dL_acts_182 ?_
  exact aw_icmp_ne dL_acts_183 (by decide) kt kf
theorem bL_acts_186 {d mc ms : Nat} {al : Bool} {bc bs : Nat} {Γ : am_G} {I : am_I} {L : am_L} {Q : am_Q} {v0 : Nat} {v1 : Nat} {v2 : Int32} {v3 : Int32} {v4 : Int32} {v5 : Int32} {v6 : Int32} {v7 : Int32} {v8 : Int32} {v9 : Int32} {I' : am_I} {L' : am_L} {mc' : Nat} {ms' : Nat} {r : Int32} (o1 : am_ob Γ v0 8) (hbc : mc' ≤ bc) (hbs : ms' ≤ bs) (hC : am_E m_X8_tollsPaid d mc' ms' [.ref v0] Γ I L (.inl (some (.int r))) I' L') (kk : am_W m_L_acts (d + 1) mc ms al (bc - mc') (bs - ms') 190 [(0, .ref v0), (1, .ref v1), (2, .int v2), (3, .int v3), (4, .int v4), (5, .int v5), (6, .int v6), (7, .int v7), (8, .int v8), (9, .int v9)] [.int r] Γ I' L' Q) : am_W m_L_acts (d + 1) mc ms al bc bs 186 [(0, .ref v0), (1, .ref v1), (2, .int v2), (3, .int v3), (4, .int v4), (5, .int v5), (6, .int v6), (7, .int v7), (8, .int v8), (9, .int v9)] [] Γ I L Q := by
  refine aw_aload_n dL_acts_186 rfl ?_
  exact aw_askV (as := []) (rst := []) k_X8_tollsPaid l_L_208 i_X8_tollsPaid s_X8_tollsPaid rfl o1 dL_acts_187 rfl (Nat.le_of_ble_eq_true rfl) hbc hbs hC rfl rfl kk
theorem bL_acts_190 {d mc ms : Nat} {al : Bool} {bc bs : Nat} {Γ : am_G} {I : am_I} {L : am_L} {Q : am_Q} {v0 : Nat} {v1 : Nat} {v2 : Int32} {v3 : Int32} {v4 : Int32} {v5 : Int32} {v6 : Int32} {v7 : Int32} {v8 : Int32} {v9 : Int32} {w0 : Int32} (kt : ¬ w0 = (v7 + (v4 * v9)) → am_W m_L_acts d mc ms al bc bs 224 [(0, .ref v0), (1, .ref v1), (2, .int v2), (3, .int v3), (4, .int v4), (5, .int v5), (6, .int v6), (7, .int v7), (8, .int v8), (9, .int v9)] [] Γ I L Q) (kf : w0 = (v7 + (v4 * v9)) → am_W m_L_acts d mc ms al bc bs 201 [(0, .ref v0), (1, .ref v1), (2, .int v2), (3, .int v3), (4, .int v4), (5, .int v5), (6, .int v6), (7, .int v7), (8, .int v8), (9, .int v9)] [] Γ I L Q) : am_W m_L_acts d mc ms al bc bs 190 [(0, .ref v0), (1, .ref v1), (2, .int v2), (3, .int v3), (4, .int v4), (5, .int v5), (6, .int v6), (7, .int v7), (8, .int v8), (9, .int v9)] [.int w0] Γ I L Q := by
  refine aw_iload dL_acts_190 rfl ?_
  refine aw_iload dL_acts_192 rfl ?_
  refine aw_iload dL_acts_194 rfl ?_
  refine aw_imul dL_acts_196 ?_
  refine aw_iadd dL_acts_197 ?_
  exact aw_icmp_ne dL_acts_198 (by decide) kt kf
theorem bL_acts_201 {d mc ms : Nat} {al : Bool} {bc bs : Nat} {Γ : am_G} {I : am_I} {L : am_L} {Q : am_Q} {v0 : Nat} {v1 : Nat} {v2 : Int32} {v3 : Int32} {v4 : Int32} {v5 : Int32} {v6 : Int32} {v7 : Int32} {v8 : Int32} {v9 : Int32} {I' : am_I} {L' : am_L} {mc' : Nat} {ms' : Nat} {r : Int32} (o1 : am_ob Γ v0 8) (hbc : mc' ≤ bc) (hbs : ms' ≤ bs) (hC : am_E m_X8_costAsked d mc' ms' [.ref v0] Γ I L (.inl (some (.int r))) I' L') (kk : am_W m_L_acts (d + 1) mc ms al (bc - mc') (bs - ms') 205 [(0, .ref v0), (1, .ref v1), (2, .int v2), (3, .int v3), (4, .int v4), (5, .int v5), (6, .int v6), (7, .int v7), (8, .int v8), (9, .int v9)] [.int r] Γ I' L' Q) : am_W m_L_acts (d + 1) mc ms al bc bs 201 [(0, .ref v0), (1, .ref v1), (2, .int v2), (3, .int v3), (4, .int v4), (5, .int v5), (6, .int v6), (7, .int v7), (8, .int v8), (9, .int v9)] [] Γ I L Q := by
  refine aw_aload_n dL_acts_201 rfl ?_
  exact aw_askV (as := []) (rst := []) k_X8_costAsked l_L_238 i_X8_costAsked s_X8_costAsked rfl o1 dL_acts_202 rfl (Nat.le_of_ble_eq_true rfl) hbc hbs hC rfl rfl kk
theorem bL_acts_205 {d mc ms : Nat} {al : Bool} {bc bs : Nat} {Γ : am_G} {I : am_I} {L : am_L} {Q : am_Q} {v0 : Nat} {v1 : Nat} {v2 : Int32} {v3 : Int32} {v4 : Int32} {v5 : Int32} {v6 : Int32} {v7 : Int32} {v8 : Int32} {v9 : Int32} {w0 : Int32} {I' : am_I} {L' : am_L} {mc' : Nat} {ms' : Nat} {r : Int32} (hbc : mc' ≤ bc) (hbs : ms' ≤ bs) (hC : am_E m_L_pathCost d mc' ms' [.ref v0, .int v2, .int v3] Γ I L (.inl (some (.int r))) I' L') (kk : am_W m_L_acts (d + 1) mc ms al (bc - mc') (bs - ms') 215 [(0, .ref v0), (1, .ref v1), (2, .int v2), (3, .int v3), (4, .int v4), (5, .int v5), (6, .int v6), (7, .int v7), (8, .int v8), (9, .int v9)] [.int r, .int v4, .int v8, .int w0] Γ I' L' Q) : am_W m_L_acts (d + 1) mc ms al bc bs 205 [(0, .ref v0), (1, .ref v1), (2, .int v2), (3, .int v3), (4, .int v4), (5, .int v5), (6, .int v6), (7, .int v7), (8, .int v8), (9, .int v9)] [.int w0] Γ I L Q := by
  refine aw_iload dL_acts_205 rfl ?_
  refine aw_iload dL_acts_207 rfl ?_
  refine aw_aload_n dL_acts_209 rfl ?_
  refine aw_iload_n dL_acts_210 rfl ?_
  refine aw_iload_n dL_acts_211 rfl ?_
  exact aw_askSW (as := [.ref v0, .int v2, .int v3]) (rst := [.int v4, .int v8, .int w0]) kw_L_pathCost (by decide) rfl l_L_167 t_L_pathCost dL_acts_212 rfl (Nat.le_of_ble_eq_true rfl) hbc hbs hC rfl rfl kk
theorem bL_acts_215 {d mc ms : Nat} {al : Bool} {bc bs : Nat} {Γ : am_G} {I : am_I} {L : am_L} {Q : am_Q} {v0 : Nat} {v1 : Nat} {v2 : Int32} {v3 : Int32} {v4 : Int32} {v5 : Int32} {v6 : Int32} {v7 : Int32} {v8 : Int32} {v9 : Int32} {w0 : Int32} {w1 : Int32} {w2 : Int32} {w3 : Int32} (kt : ¬ w0 = (w1 + (w2 * w3)) → am_W m_L_acts d mc ms al bc bs 224 [(0, .ref v0), (1, .ref v1), (2, .int v2), (3, .int v3), (4, .int v4), (5, .int v5), (6, .int v6), (7, .int v7), (8, .int v8), (9, .int v9)] [] Γ I L Q) (kf : w0 = (w1 + (w2 * w3)) → am_W m_L_acts d mc ms al bc bs 220 [(0, .ref v0), (1, .ref v1), (2, .int v2), (3, .int v3), (4, .int v4), (5, .int v5), (6, .int v6), (7, .int v7), (8, .int v8), (9, .int v9)] [] Γ I L Q) : am_W m_L_acts d mc ms al bc bs 215 [(0, .ref v0), (1, .ref v1), (2, .int v2), (3, .int v3), (4, .int v4), (5, .int v5), (6, .int v6), (7, .int v7), (8, .int v8), (9, .int v9)] [.int w3, .int w2, .int w1, .int w0] Γ I L Q := by
  refine aw_imul dL_acts_215 ?_
  refine aw_iadd dL_acts_216 ?_
  exact aw_icmp_ne dL_acts_217 (by decide) kt kf
theorem bL_acts_220 {d mc ms : Nat} {al : Bool} {bc bs : Nat} {Γ : am_G} {I : am_I} {L : am_L} {Q : am_Q} {v0 : Nat} {v1 : Nat} {v2 : Int32} {v3 : Int32} {v4 : Int32} {v5 : Int32} {v6 : Int32} {v7 : Int32} {v8 : Int32} {v9 : Int32} (kk : am_W m_L_acts d mc ms al bc bs 225 [(0, .ref v0), (1, .ref v1), (2, .int v2), (3, .int v3), (4, .int v4), (5, .int v5), (6, .int v6), (7, .int v7), (8, .int v8), (9, .int v9)] [.int 1] Γ I L Q) : am_W m_L_acts d mc ms al bc bs 220 [(0, .ref v0), (1, .ref v1), (2, .int v2), (3, .int v3), (4, .int v4), (5, .int v5), (6, .int v6), (7, .int v7), (8, .int v8), (9, .int v9)] [] Γ I L Q := by
  refine aw_iconst dL_acts_220 ci_1 ?_
  exact aw_goto dL_acts_221 (by decide) kk
theorem bL_acts_224 {d mc ms : Nat} {al : Bool} {bc bs : Nat} {Γ : am_G} {I : am_I} {L : am_L} {Q : am_Q} {v0 : Nat} {v1 : Nat} {v2 : Int32} {v3 : Int32} {v4 : Int32} {v5 : Int32} {v6 : Int32} {v7 : Int32} {v8 : Int32} {v9 : Int32} (kk : am_W m_L_acts d mc ms al bc bs 225 [(0, .ref v0), (1, .ref v1), (2, .int v2), (3, .int v3), (4, .int v4), (5, .int v5), (6, .int v6), (7, .int v7), (8, .int v8), (9, .int v9)] [.int 0] Γ I L Q) : am_W m_L_acts d mc ms al bc bs 224 [(0, .ref v0), (1, .ref v1), (2, .int v2), (3, .int v3), (4, .int v4), (5, .int v5), (6, .int v6), (7, .int v7), (8, .int v8), (9, .int v9)] [] Γ I L Q := by
  refine aw_iconst dL_acts_224 ci_0 ?_
  exact kk
theorem bL_acts_225 {d mc ms : Nat} {al : Bool} {bc bs : Nat} {Γ : am_G} {I : am_I} {L : am_L} {Q : am_Q} {v0 : Nat} {v1 : Nat} {v2 : Int32} {v3 : Int32} {v4 : Int32} {v5 : Int32} {v6 : Int32} {v7 : Int32} {v8 : Int32} {v9 : Int32} {w0 : Int32} (hz : narrow .boolean (.int w0) = .int w0) (hq : Q (.inl (some (.int w0))) Γ I L) : am_W m_L_acts d mc ms al bc bs 225 [(0, .ref v0), (1, .ref v1), (2, .int v2), (3, .int v3), (4, .int v4), (5, .int v5), (6, .int v6), (7, .int v7), (8, .int v8), (9, .int v9)] [.int w0] Γ I L Q := by
  exact aw_zret (ty := .boolean) dL_acts_225 rfl hz hq
theorem bL_acts_226 {d mc ms : Nat} {al : Bool} {bc bs : Nat} {Γ : am_G} {I : am_I} {L : am_L} {Q : am_Q} {v0 : Nat} {v1 : Nat} {v2 : Int32} {v3 : Int32} {I' : am_I} {L' : am_L} {mc' : Nat} {ms' : Nat} {r : Int32} (hbc : mc' ≤ bc) (hbs : ms' ≤ bs) (hC : am_E m_L_builds d mc' ms' [.ref v0, .int v2] Γ I L (.inl (some (.int r))) I' L') (kk : am_W m_L_acts (d + 1) mc ms al (bc - mc') (bs - ms') 231 [(0, .ref v0), (1, .ref v1), (2, .int v2), (3, .int v3)] [.int r] Γ I' L' Q) : am_W m_L_acts (d + 1) mc ms al bc bs 226 [(0, .ref v0), (1, .ref v1), (2, .int v2), (3, .int v3)] [] Γ I L Q := by
  refine aw_aload_n dL_acts_226 rfl ?_
  refine aw_iload_n dL_acts_227 rfl ?_
  exact aw_askS (as := [.ref v0, .int v2]) (rst := []) k_L_builds l_L_249 t_L_builds dL_acts_228 rfl (Nat.le_of_ble_eq_true rfl) hbc hbs hC rfl rfl kk
theorem bL_acts_231 {d mc ms : Nat} {al : Bool} {bc bs : Nat} {Γ : am_G} {I : am_I} {L : am_L} {Q : am_Q} {v0 : Nat} {v1 : Nat} {v2 : Int32} {v3 : Int32} {w0 : Int32} (hz : narrow .boolean (.int w0) = .int w0) (hq : Q (.inl (some (.int w0))) Γ I L) : am_W m_L_acts d mc ms al bc bs 231 [(0, .ref v0), (1, .ref v1), (2, .int v2), (3, .int v3)] [.int w0] Γ I L Q := by
  exact aw_zret (ty := .boolean) dL_acts_231 rfl hz hq
theorem bL_acts_232 {d mc ms : Nat} {al : Bool} {bc bs : Nat} {Γ : am_G} {I : am_I} {L : am_L} {Q : am_Q} {v0 : Nat} {v1 : Nat} {v2 : Int32} {v3 : Int32} {I' : am_I} {L' : am_L} {mc' : Nat} {ms' : Nat} {r : Int32} (hbc : mc' ≤ bc) (hbs : ms' ≤ bs) (hC : am_E m_L_weight d mc' ms' [.ref v0, .int v2] Γ I L (.inl (some (.int r))) I' L') (kk : am_W m_L_acts (d + 1) mc ms al (bc - mc') (bs - ms') 237 [(0, .ref v0), (1, .ref v1), (2, .int v2), (3, .int v3)] [.int r] Γ I' L' Q) : am_W m_L_acts (d + 1) mc ms al bc bs 232 [(0, .ref v0), (1, .ref v1), (2, .int v2), (3, .int v3)] [] Γ I L Q := by
  refine aw_aload_n dL_acts_232 rfl ?_
  refine aw_iload_n dL_acts_233 rfl ?_
  exact aw_askS (as := [.ref v0, .int v2]) (rst := []) k_L_weight l_L_252 t_L_weight dL_acts_234 rfl (Nat.le_of_ble_eq_true rfl) hbc hbs hC rfl rfl kk
theorem bL_acts_237 {d mc ms : Nat} {al : Bool} {bc bs : Nat} {Γ : am_G} {I : am_I} {L : am_L} {Q : am_Q} {v0 : Nat} {v1 : Nat} {v2 : Int32} {v3 : Int32} {w0 : Int32} {I' : am_I} {L' : am_L} {mc' : Nat} {ms' : Nat} {r : Int32} (hbc : mc' ≤ bc) (hbs : ms' ≤ bs) (hC : am_E m_L_halveCounts d mc' ms' [.ref v0, .int v2] Γ I L (.inl (some (.int r))) I' L') (kk : am_W m_L_acts (d + 1) mc ms al (bc - mc') (bs - ms') 244 [(0, .ref v0), (1, .ref v1), (2, .int v2), (3, .int v3), (4, .int w0)] [.int r] Γ I' L' Q) : am_W m_L_acts (d + 1) mc ms al bc bs 237 [(0, .ref v0), (1, .ref v1), (2, .int v2), (3, .int v3)] [.int w0] Γ I L Q := by
  refine aw_istore (ls' := [(0, .ref v0), (1, .ref v1), (2, .int v2), (3, .int v3), (4, .int w0)]) dL_acts_237 (by decide) rfl ?_
  refine aw_aload_n dL_acts_239 rfl ?_
  refine aw_iload_n dL_acts_240 rfl ?_
  exact aw_askSW (as := [.ref v0, .int v2]) (rst := []) kw_L_halveCounts (by decide) rfl l_L_255 t_L_halveCounts dL_acts_241 rfl (Nat.le_of_ble_eq_true rfl) hbc hbs hC rfl rfl kk
theorem bL_acts_244 {d mc ms : Nat} {al : Bool} {bc bs : Nat} {Γ : am_G} {I : am_I} {L : am_L} {Q : am_Q} {v0 : Nat} {v1 : Nat} {v2 : Int32} {v3 : Int32} {v4 : Int32} {w0 : Int32} {I' : am_I} {L' : am_L} {mc' : Nat} {ms' : Nat} {r : Int32} (hbc : mc' ≤ bc) (hbs : ms' ≤ bs) (hC : am_E m_L_weight d mc' ms' [.ref v0, .int v2] Γ I L (.inl (some (.int r))) I' L') (kk : am_W m_L_acts (d + 1) mc ms al (bc - mc') (bs - ms') 253 [(0, .ref v0), (1, .ref v1), (2, .int v2), (3, .int v3), (4, .int v4), (5, .int w0)] [.int r, .int w0] Γ I' L' Q) : am_W m_L_acts (d + 1) mc ms al bc bs 244 [(0, .ref v0), (1, .ref v1), (2, .int v2), (3, .int v3), (4, .int v4)] [.int w0] Γ I L Q := by
  refine aw_istore (ls' := [(0, .ref v0), (1, .ref v1), (2, .int v2), (3, .int v3), (4, .int v4), (5, .int w0)]) dL_acts_244 (by decide) rfl ?_
  refine aw_iload dL_acts_246 rfl ?_
  refine aw_aload_n dL_acts_248 rfl ?_
  refine aw_iload_n dL_acts_249 rfl ?_
  exact aw_askS (as := [.ref v0, .int v2]) (rst := [.int w0]) k_L_weight l_L_252 t_L_weight dL_acts_250 rfl (Nat.le_of_ble_eq_true rfl) hbc hbs hC rfl rfl kk
theorem bL_acts_253 {d mc ms : Nat} {al : Bool} {bc bs : Nat} {Γ : am_G} {I : am_I} {L : am_L} {Q : am_Q} {v0 : Nat} {v1 : Nat} {v2 : Int32} {v3 : Int32} {v4 : Int32} {v5 : Int32} {w0 : Int32} {w1 : Int32} (kt : ¬ w0 = w1 → am_W m_L_acts d mc ms al bc bs 269 [(0, .ref v0), (1, .ref v1), (2, .int v2), (3, .int v3), (4, .int v4), (5, .int v5)] [] Γ I L Q) (kf : w0 = w1 → am_W m_L_acts d mc ms al bc bs 256 [(0, .ref v0), (1, .ref v1), (2, .int v2), (3, .int v3), (4, .int v4), (5, .int v5)] [] Γ I L Q) : am_W m_L_acts d mc ms al bc bs 253 [(0, .ref v0), (1, .ref v1), (2, .int v2), (3, .int v3), (4, .int v4), (5, .int v5)] [.int w1, .int w0] Γ I L Q := by
  exact aw_icmp_ne dL_acts_253 (by decide) kt kf
theorem bL_acts_256 {d mc ms : Nat} {al : Bool} {bc bs : Nat} {Γ : am_G} {I : am_I} {L : am_L} {Q : am_Q} {v0 : Nat} {v1 : Nat} {v2 : Int32} {v3 : Int32} {v4 : Int32} {v5 : Int32} (kt : (v4 / 2) < v5 → am_W m_L_acts d mc ms al bc bs 269 [(0, .ref v0), (1, .ref v1), (2, .int v2), (3, .int v3), (4, .int v4), (5, .int v5)] [] Γ I L Q) (kf : ¬ (v4 / 2) < v5 → am_W m_L_acts d mc ms al bc bs 265 [(0, .ref v0), (1, .ref v1), (2, .int v2), (3, .int v3), (4, .int v4), (5, .int v5)] [] Γ I L Q) : am_W m_L_acts d mc ms al bc bs 256 [(0, .ref v0), (1, .ref v1), (2, .int v2), (3, .int v3), (4, .int v4), (5, .int v5)] [] Γ I L Q := by
  refine aw_iload dL_acts_256 rfl ?_
  refine aw_iload dL_acts_258 rfl ?_
  refine aw_iconst dL_acts_260 ci_2 ?_
  refine aw_idiv dL_acts_261 (by decide) ?_
  exact aw_icmp_gt dL_acts_262 (by decide) kt kf
theorem bL_acts_265 {d mc ms : Nat} {al : Bool} {bc bs : Nat} {Γ : am_G} {I : am_I} {L : am_L} {Q : am_Q} {v0 : Nat} {v1 : Nat} {v2 : Int32} {v3 : Int32} {v4 : Int32} {v5 : Int32} (kk : am_W m_L_acts d mc ms al bc bs 270 [(0, .ref v0), (1, .ref v1), (2, .int v2), (3, .int v3), (4, .int v4), (5, .int v5)] [.int 1] Γ I L Q) : am_W m_L_acts d mc ms al bc bs 265 [(0, .ref v0), (1, .ref v1), (2, .int v2), (3, .int v3), (4, .int v4), (5, .int v5)] [] Γ I L Q := by
  refine aw_iconst dL_acts_265 ci_1 ?_
  exact aw_goto dL_acts_266 (by decide) kk
theorem bL_acts_269 {d mc ms : Nat} {al : Bool} {bc bs : Nat} {Γ : am_G} {I : am_I} {L : am_L} {Q : am_Q} {v0 : Nat} {v1 : Nat} {v2 : Int32} {v3 : Int32} {v4 : Int32} {v5 : Int32} (kk : am_W m_L_acts d mc ms al bc bs 270 [(0, .ref v0), (1, .ref v1), (2, .int v2), (3, .int v3), (4, .int v4), (5, .int v5)] [.int 0] Γ I L Q) : am_W m_L_acts d mc ms al bc bs 269 [(0, .ref v0), (1, .ref v1), (2, .int v2), (3, .int v3), (4, .int v4), (5, .int v5)] [] Γ I L Q := by
  refine aw_iconst dL_acts_269 ci_0 ?_
  exact kk
theorem bL_acts_270 {d mc ms : Nat} {al : Bool} {bc bs : Nat} {Γ : am_G} {I : am_I} {L : am_L} {Q : am_Q} {v0 : Nat} {v1 : Nat} {v2 : Int32} {v3 : Int32} {v4 : Int32} {v5 : Int32} {w0 : Int32} (hz : narrow .boolean (.int w0) = .int w0) (hq : Q (.inl (some (.int w0))) Γ I L) : am_W m_L_acts d mc ms al bc bs 270 [(0, .ref v0), (1, .ref v1), (2, .int v2), (3, .int v3), (4, .int v4), (5, .int v5)] [.int w0] Γ I L Q := by
  exact aw_zret (ty := .boolean) dL_acts_270 rfl hz hq
theorem bL_acts_271 {d mc ms : Nat} {al : Bool} {bc bs : Nat} {Γ : am_G} {I : am_I} {L : am_L} {Q : am_Q} {v0 : Nat} {v1 : Nat} {v2 : Int32} {v3 : Int32} {I' : am_I} {L' : am_L} {mc' : Nat} {ms' : Nat} {r : Int32} (hbc : mc' ≤ bc) (hbs : ms' ≤ bs) (hC : am_E m_L_toll d mc' ms' [.ref v0, .int v3] Γ I L (.inl (some (.int r))) I' L') (kk : am_W m_L_acts (d + 1) mc ms al (bc - mc') (bs - ms') 276 [(0, .ref v0), (1, .ref v1), (2, .int v2), (3, .int v3)] [.int r] Γ I' L' Q) : am_W m_L_acts (d + 1) mc ms al bc bs 271 [(0, .ref v0), (1, .ref v1), (2, .int v2), (3, .int v3)] [] Γ I L Q := by
  refine aw_aload_n dL_acts_271 rfl ?_
  refine aw_iload_n dL_acts_272 rfl ?_
  exact aw_askSW (as := [.ref v0, .int v3]) (rst := []) kw_L_toll (by decide) rfl l_L_171 t_L_toll dL_acts_273 rfl (Nat.le_of_ble_eq_true rfl) hbc hbs hC rfl rfl kk
theorem bL_acts_276 {d mc ms : Nat} {al : Bool} {bc bs : Nat} {Γ : am_G} {I : am_I} {L : am_L} {Q : am_Q} {v0 : Nat} {v1 : Nat} {v2 : Int32} {v3 : Int32} {w0 : Int32} {I' : am_I} {L' : am_L} {mc' : Nat} {ms' : Nat} {r : Int32} (hbc : mc' ≤ bc) (hbs : ms' ≤ bs) (hC : am_E m_L_draw d mc' ms' [.ref v1, .int 12] Γ I L (.inl (some (.int r))) I' L') (kk : am_W m_L_acts (d + 1) mc ms al (bc - mc') (bs - ms') 286 [(0, .ref v0), (1, .ref v1), (2, .int v2), (3, .int v3), (4, .int w0)] [.int r, .int v3, .ref v0] Γ I' L' Q) : am_W m_L_acts (d + 1) mc ms al bc bs 276 [(0, .ref v0), (1, .ref v1), (2, .int v2), (3, .int v3)] [.int w0] Γ I L Q := by
  refine aw_istore (ls' := [(0, .ref v0), (1, .ref v1), (2, .int v2), (3, .int v3), (4, .int w0)]) dL_acts_276 (by decide) rfl ?_
  refine aw_aload_n dL_acts_278 rfl ?_
  refine aw_iload_n dL_acts_279 rfl ?_
  refine aw_aload_n dL_acts_280 rfl ?_
  refine aw_bipush dL_acts_281 cb_12 ?_
  exact aw_askS (as := [.ref v1, .int 12]) (rst := [.int v3, .ref v0]) k_L_draw l_L_234 t_L_draw dL_acts_283 rfl (Nat.le_of_ble_eq_true rfl) hbc hbs hC rfl rfl kk
theorem bL_acts_286 {d mc ms : Nat} {al : Bool} {bc bs : Nat} {Γ : am_G} {I : am_I} {L : am_L} {Q : am_Q} {v0 : Nat} {v1 : Nat} {v2 : Int32} {v3 : Int32} {v4 : Int32} {w0 : Nat} {w1 : Int32} {w2 : Int32} {I' : am_I} {L' : am_L} {mc' : Nat} {ms' : Nat} {r : Int32} (hbc : mc' ≤ bc) (hbs : ms' ≤ bs) (hC : am_E m_L_setToll d mc' ms' [.ref w0, .int w1, .int w2] Γ I L (.inl (some (.int r))) I' L') (kk : am_W m_L_acts (d + 1) mc ms al (bc - mc') (bs - ms') 289 [(0, .ref v0), (1, .ref v1), (2, .int v2), (3, .int v3), (4, .int v4)] [.int r] Γ I' L' Q) : am_W m_L_acts (d + 1) mc ms al bc bs 286 [(0, .ref v0), (1, .ref v1), (2, .int v2), (3, .int v3), (4, .int v4)] [.int w2, .int w1, .ref w0] Γ I L Q := by
  exact aw_askSW (as := [.ref w0, .int w1, .int w2]) (rst := []) kw_L_setToll (by decide) rfl l_L_257 t_L_setToll dL_acts_286 rfl (Nat.le_of_ble_eq_true rfl) hbc hbs hC rfl rfl kk
theorem bL_acts_289 {d mc ms : Nat} {al : Bool} {bc bs : Nat} {Γ : am_G} {I : am_I} {L : am_L} {Q : am_Q} {v0 : Nat} {v1 : Nat} {v2 : Int32} {v3 : Int32} {v4 : Int32} {w0 : Int32} (kt : ¬ w0 = v4 → am_W m_L_acts d mc ms al bc bs 310 [(0, .ref v0), (1, .ref v1), (2, .int v2), (3, .int v3), (4, .int v4)] [] Γ I L Q) (kf : w0 = v4 → am_W m_L_acts d mc ms al bc bs 294 [(0, .ref v0), (1, .ref v1), (2, .int v2), (3, .int v3), (4, .int v4)] [] Γ I L Q) : am_W m_L_acts d mc ms al bc bs 289 [(0, .ref v0), (1, .ref v1), (2, .int v2), (3, .int v3), (4, .int v4)] [.int w0] Γ I L Q := by
  refine aw_iload dL_acts_289 rfl ?_
  exact aw_icmp_ne dL_acts_291 (by decide) kt kf
theorem bL_acts_294 {d mc ms : Nat} {al : Bool} {bc bs : Nat} {Γ : am_G} {I : am_I} {L : am_L} {Q : am_Q} {v0 : Nat} {v1 : Nat} {v2 : Int32} {v3 : Int32} {v4 : Int32} {I' : am_I} {L' : am_L} {mc' : Nat} {ms' : Nat} {r : Int32} (hbc : mc' ≤ bc) (hbs : ms' ≤ bs) (hC : am_E m_L_setToll d mc' ms' [.ref v0, .int v3, .int 100] Γ I L (.inl (some (.int r))) I' L') (kk : am_W m_L_acts (d + 1) mc ms al (bc - mc') (bs - ms') 301 [(0, .ref v0), (1, .ref v1), (2, .int v2), (3, .int v3), (4, .int v4)] [.int r] Γ I' L' Q) : am_W m_L_acts (d + 1) mc ms al bc bs 294 [(0, .ref v0), (1, .ref v1), (2, .int v2), (3, .int v3), (4, .int v4)] [] Γ I L Q := by
  refine aw_aload_n dL_acts_294 rfl ?_
  refine aw_iload_n dL_acts_295 rfl ?_
  refine aw_bipush dL_acts_296 cb_100 ?_
  exact aw_askSW (as := [.ref v0, .int v3, .int 100]) (rst := []) kw_L_setToll (by decide) rfl l_L_257 t_L_setToll dL_acts_298 rfl (Nat.le_of_ble_eq_true rfl) hbc hbs hC rfl rfl kk
theorem bL_acts_301 {d mc ms : Nat} {al : Bool} {bc bs : Nat} {Γ : am_G} {I : am_I} {L : am_L} {Q : am_Q} {v0 : Nat} {v1 : Nat} {v2 : Int32} {v3 : Int32} {v4 : Int32} {w0 : Int32} (kt : ¬ w0 = (-18) → am_W m_L_acts d mc ms al bc bs 310 [(0, .ref v0), (1, .ref v1), (2, .int v2), (3, .int v3), (4, .int v4)] [] Γ I L Q) (kf : w0 = (-18) → am_W m_L_acts d mc ms al bc bs 306 [(0, .ref v0), (1, .ref v1), (2, .int v2), (3, .int v3), (4, .int v4)] [] Γ I L Q) : am_W m_L_acts d mc ms al bc bs 301 [(0, .ref v0), (1, .ref v1), (2, .int v2), (3, .int v3), (4, .int v4)] [.int w0] Γ I L Q := by
  refine aw_bipush dL_acts_301 cb_m18 ?_
  exact aw_icmp_ne dL_acts_303 (by decide) kt kf
theorem bL_acts_306 {d mc ms : Nat} {al : Bool} {bc bs : Nat} {Γ : am_G} {I : am_I} {L : am_L} {Q : am_Q} {v0 : Nat} {v1 : Nat} {v2 : Int32} {v3 : Int32} {v4 : Int32} (kk : am_W m_L_acts d mc ms al bc bs 311 [(0, .ref v0), (1, .ref v1), (2, .int v2), (3, .int v3), (4, .int v4)] [.int 1] Γ I L Q) : am_W m_L_acts d mc ms al bc bs 306 [(0, .ref v0), (1, .ref v1), (2, .int v2), (3, .int v3), (4, .int v4)] [] Γ I L Q := by
  refine aw_iconst dL_acts_306 ci_1 ?_
  exact aw_goto dL_acts_307 (by decide) kk
theorem bL_acts_310 {d mc ms : Nat} {al : Bool} {bc bs : Nat} {Γ : am_G} {I : am_I} {L : am_L} {Q : am_Q} {v0 : Nat} {v1 : Nat} {v2 : Int32} {v3 : Int32} {v4 : Int32} (kk : am_W m_L_acts d mc ms al bc bs 311 [(0, .ref v0), (1, .ref v1), (2, .int v2), (3, .int v3), (4, .int v4)] [.int 0] Γ I L Q) : am_W m_L_acts d mc ms al bc bs 310 [(0, .ref v0), (1, .ref v1), (2, .int v2), (3, .int v3), (4, .int v4)] [] Γ I L Q := by
  refine aw_iconst dL_acts_310 ci_0 ?_
  exact kk
theorem bL_acts_311 {d mc ms : Nat} {al : Bool} {bc bs : Nat} {Γ : am_G} {I : am_I} {L : am_L} {Q : am_Q} {v0 : Nat} {v1 : Nat} {v2 : Int32} {v3 : Int32} {v4 : Int32} {w0 : Int32} (hz : narrow .boolean (.int w0) = .int w0) (hq : Q (.inl (some (.int w0))) Γ I L) : am_W m_L_acts d mc ms al bc bs 311 [(0, .ref v0), (1, .ref v1), (2, .int v2), (3, .int v3), (4, .int v4)] [.int w0] Γ I L Q := by
  exact aw_zret (ty := .boolean) dL_acts_311 rfl hz hq
theorem bL_acts_312 {d mc ms : Nat} {al : Bool} {bc bs : Nat} {Γ : am_G} {I : am_I} {L : am_L} {Q : am_Q} {v0 : Nat} {v1 : Nat} {v2 : Int32} {v3 : Int32} {I' : am_I} {L' : am_L} {mc' : Nat} {ms' : Nat} {r : Int32} (hbc : mc' ≤ bc) (hbs : ms' ≤ bs) (hC : am_E m_L_costLimit d mc' ms' [.ref v0, .int v2] Γ I L (.inl (some (.int r))) I' L') (kk : am_W m_L_acts (d + 1) mc ms al (bc - mc') (bs - ms') 317 [(0, .ref v0), (1, .ref v1), (2, .int v2), (3, .int v3)] [.int r] Γ I' L' Q) : am_W m_L_acts (d + 1) mc ms al bc bs 312 [(0, .ref v0), (1, .ref v1), (2, .int v2), (3, .int v3)] [] Γ I L Q := by
  refine aw_aload_n dL_acts_312 rfl ?_
  refine aw_iload_n dL_acts_313 rfl ?_
  exact aw_askSW (as := [.ref v0, .int v2]) (rst := []) kw_L_costLimit (by decide) rfl l_L_194 t_L_costLimit dL_acts_314 rfl (Nat.le_of_ble_eq_true rfl) hbc hbs hC rfl rfl kk
theorem bL_acts_317 {d mc ms : Nat} {al : Bool} {bc bs : Nat} {Γ : am_G} {I : am_I} {L : am_L} {Q : am_Q} {v0 : Nat} {v1 : Nat} {v2 : Int32} {v3 : Int32} {w0 : Int32} {I' : am_I} {L' : am_L} {mc' : Nat} {ms' : Nat} {r : Int32} (hbc : mc' ≤ bc) (hbs : ms' ≤ bs) (hC : am_E m_L_draw d mc' ms' [.ref v1, .int 12] Γ I L (.inl (some (.int r))) I' L') (kk : am_W m_L_acts (d + 1) mc ms al (bc - mc') (bs - ms') 327 [(0, .ref v0), (1, .ref v1), (2, .int v2), (3, .int v3), (4, .int w0)] [.int r, .int v2, .ref v0] Γ I' L' Q) : am_W m_L_acts (d + 1) mc ms al bc bs 317 [(0, .ref v0), (1, .ref v1), (2, .int v2), (3, .int v3)] [.int w0] Γ I L Q := by
  refine aw_istore (ls' := [(0, .ref v0), (1, .ref v1), (2, .int v2), (3, .int v3), (4, .int w0)]) dL_acts_317 (by decide) rfl ?_
  refine aw_aload_n dL_acts_319 rfl ?_
  refine aw_iload_n dL_acts_320 rfl ?_
  refine aw_aload_n dL_acts_321 rfl ?_
  refine aw_bipush dL_acts_322 cb_12 ?_
  exact aw_askS (as := [.ref v1, .int 12]) (rst := [.int v2, .ref v0]) k_L_draw l_L_234 t_L_draw dL_acts_324 rfl (Nat.le_of_ble_eq_true rfl) hbc hbs hC rfl rfl kk
theorem bL_acts_327 {d mc ms : Nat} {al : Bool} {bc bs : Nat} {Γ : am_G} {I : am_I} {L : am_L} {Q : am_Q} {v0 : Nat} {v1 : Nat} {v2 : Int32} {v3 : Int32} {v4 : Int32} {w0 : Nat} {w1 : Int32} {w2 : Int32} {I' : am_I} {L' : am_L} {mc' : Nat} {ms' : Nat} {r : Int32} (hbc : mc' ≤ bc) (hbs : ms' ≤ bs) (hC : am_E m_L_setCostLimit d mc' ms' [.ref w0, .int w1, .int w2] Γ I L (.inl (some (.int r))) I' L') (kk : am_W m_L_acts (d + 1) mc ms al (bc - mc') (bs - ms') 330 [(0, .ref v0), (1, .ref v1), (2, .int v2), (3, .int v3), (4, .int v4)] [.int r] Γ I' L' Q) : am_W m_L_acts (d + 1) mc ms al bc bs 327 [(0, .ref v0), (1, .ref v1), (2, .int v2), (3, .int v3), (4, .int v4)] [.int w2, .int w1, .ref w0] Γ I L Q := by
  exact aw_askSW (as := [.ref w0, .int w1, .int w2]) (rst := []) kw_L_setCostLimit (by decide) rfl l_L_259 t_L_setCostLimit dL_acts_327 rfl (Nat.le_of_ble_eq_true rfl) hbc hbs hC rfl rfl kk
theorem bL_acts_330 {d mc ms : Nat} {al : Bool} {bc bs : Nat} {Γ : am_G} {I : am_I} {L : am_L} {Q : am_Q} {v0 : Nat} {v1 : Nat} {v2 : Int32} {v3 : Int32} {v4 : Int32} {w0 : Int32} (kt : ¬ w0 = v4 → am_W m_L_acts d mc ms al bc bs 339 [(0, .ref v0), (1, .ref v1), (2, .int v2), (3, .int v3), (4, .int v4)] [] Γ I L Q) (kf : w0 = v4 → am_W m_L_acts d mc ms al bc bs 335 [(0, .ref v0), (1, .ref v1), (2, .int v2), (3, .int v3), (4, .int v4)] [] Γ I L Q) : am_W m_L_acts d mc ms al bc bs 330 [(0, .ref v0), (1, .ref v1), (2, .int v2), (3, .int v3), (4, .int v4)] [.int w0] Γ I L Q := by
  refine aw_iload dL_acts_330 rfl ?_
  exact aw_icmp_ne dL_acts_332 (by decide) kt kf
theorem bL_acts_335 {d mc ms : Nat} {al : Bool} {bc bs : Nat} {Γ : am_G} {I : am_I} {L : am_L} {Q : am_Q} {v0 : Nat} {v1 : Nat} {v2 : Int32} {v3 : Int32} {v4 : Int32} (kk : am_W m_L_acts d mc ms al bc bs 340 [(0, .ref v0), (1, .ref v1), (2, .int v2), (3, .int v3), (4, .int v4)] [.int 1] Γ I L Q) : am_W m_L_acts d mc ms al bc bs 335 [(0, .ref v0), (1, .ref v1), (2, .int v2), (3, .int v3), (4, .int v4)] [] Γ I L Q := by
  refine aw_iconst dL_acts_335 ci_1 ?_
  exact aw_goto dL_acts_336 (by decide) kk
theorem bL_acts_339 {d mc ms : Nat} {al : Bool} {bc bs : Nat} {Γ : am_G} {I : am_I} {L : am_L} {Q : am_Q} {v0 : Nat} {v1 : Nat} {v2 : Int32} {v3 : Int32} {v4 : Int32} (kk : am_W m_L_acts d mc ms al bc bs 340 [(0, .ref v0), (1, .ref v1), (2, .int v2), (3, .int v3), (4, .int v4)] [.int 0] Γ I L Q) : am_W m_L_acts d mc ms al bc bs 339 [(0, .ref v0), (1, .ref v1), (2, .int v2), (3, .int v3), (4, .int v4)] [] Γ I L Q := by
  refine aw_iconst dL_acts_339 ci_0 ?_
  exact kk
theorem bL_acts_340 {d mc ms : Nat} {al : Bool} {bc bs : Nat} {Γ : am_G} {I : am_I} {L : am_L} {Q : am_Q} {v0 : Nat} {v1 : Nat} {v2 : Int32} {v3 : Int32} {v4 : Int32} {w0 : Int32} (hz : narrow .boolean (.int w0) = .int w0) (hq : Q (.inl (some (.int w0))) Γ I L) : am_W m_L_acts d mc ms al bc bs 340 [(0, .ref v0), (1, .ref v1), (2, .int v2), (3, .int v3), (4, .int v4)] [.int w0] Γ I L Q := by
  exact aw_zret (ty := .boolean) dL_acts_340 rfl hz hq
theorem bL_acts_341 {d mc ms : Nat} {al : Bool} {bc bs : Nat} {Γ : am_G} {I : am_I} {L : am_L} {Q : am_Q} {v0 : Nat} {v1 : Nat} {v2 : Int32} {v3 : Int32} {I' : am_I} {L' : am_L} {mc' : Nat} {ms' : Nat} {r : Int32} (hbc : mc' ≤ bc) (hbs : ms' ≤ bs) (hC : am_E m_L_draw d mc' ms' [.ref v1, .int 20] Γ I L (.inl (some (.int r))) I' L') (kk : am_W m_L_acts (d + 1) mc ms al (bc - mc') (bs - ms') 348 [(0, .ref v0), (1, .ref v1), (2, .int v2), (3, .int v3)] [.int r, .int 1] Γ I' L' Q) : am_W m_L_acts (d + 1) mc ms al bc bs 341 [(0, .ref v0), (1, .ref v1), (2, .int v2), (3, .int v3)] [] Γ I L Q := by
  refine aw_iconst dL_acts_341 ci_1 ?_
  refine aw_aload_n dL_acts_342 rfl ?_
  refine aw_bipush dL_acts_343 cb_20 ?_
  exact aw_askS (as := [.ref v1, .int 20]) (rst := [.int 1]) k_L_draw l_L_234 t_L_draw dL_acts_345 rfl (Nat.le_of_ble_eq_true rfl) hbc hbs hC rfl rfl kk
theorem bL_acts_348 {d mc ms : Nat} {al : Bool} {bc bs : Nat} {Γ : am_G} {I : am_I} {L : am_L} {Q : am_Q} {v0 : Nat} {v1 : Nat} {v2 : Int32} {v3 : Int32} {w0 : Int32} {w1 : Int32} {I' : am_I} {L' : am_L} {mc' : Nat} {ms' : Nat} {r : Int32} (o1 : am_ob Γ v0 8) (hbc : mc' ≤ bc) (hbs : ms' ≤ bs) (hC : am_E m_X8_clock d mc' ms' [.ref v0] Γ I L (.inl (some (.int r))) I' L') (kk : am_W m_L_acts (d + 1) mc ms al (bc - mc') (bs - ms') 355 [(0, .ref v0), (1, .ref v1), (2, .int v2), (3, .int v3), (4, .int (w0 + w1))] [.int r] Γ I' L' Q) : am_W m_L_acts (d + 1) mc ms al bc bs 348 [(0, .ref v0), (1, .ref v1), (2, .int v2), (3, .int v3)] [.int w1, .int w0] Γ I L Q := by
  refine aw_iadd dL_acts_348 ?_
  refine aw_istore (ls' := [(0, .ref v0), (1, .ref v1), (2, .int v2), (3, .int v3), (4, .int (w0 + w1))]) dL_acts_349 (by decide) rfl ?_
  refine aw_aload_n dL_acts_351 rfl ?_
  exact aw_askV (as := []) (rst := []) k_X8_clock l_L_261 i_X8_clock s_X8_clock rfl o1 dL_acts_352 rfl (Nat.le_of_ble_eq_true rfl) hbc hbs hC rfl rfl kk
theorem bL_acts_355 {d mc ms : Nat} {al : Bool} {bc bs : Nat} {Γ : am_G} {I : am_I} {L : am_L} {Q : am_Q} {v0 : Nat} {v1 : Nat} {v2 : Int32} {v3 : Int32} {v4 : Int32} {w0 : Int32} {I' : am_I} {L' : am_L} {mc' : Nat} {ms' : Nat} {r : Int32} (hbc : mc' ≤ bc) (hbs : ms' ≤ bs) (hC : am_E m_L_advanceClock d mc' ms' [.ref v0, .int v4] Γ I L (.inl (some (.int r))) I' L') (kk : am_W m_L_acts (d + 1) mc ms al (bc - mc') (bs - ms') 363 [(0, .ref v0), (1, .ref v1), (2, .int v2), (3, .int v3), (4, .int v4), (5, .int w0)] [.int r] Γ I' L' Q) : am_W m_L_acts (d + 1) mc ms al bc bs 355 [(0, .ref v0), (1, .ref v1), (2, .int v2), (3, .int v3), (4, .int v4)] [.int w0] Γ I L Q := by
  refine aw_istore (ls' := [(0, .ref v0), (1, .ref v1), (2, .int v2), (3, .int v3), (4, .int v4), (5, .int w0)]) dL_acts_355 (by decide) rfl ?_
  refine aw_aload_n dL_acts_357 rfl ?_
  refine aw_iload dL_acts_358 rfl ?_
  exact aw_askSW (as := [.ref v0, .int v4]) (rst := []) kw_L_advanceClock (by decide) rfl l_L_264 t_L_advanceClock dL_acts_360 rfl (Nat.le_of_ble_eq_true rfl) hbc hbs hC rfl rfl kk
theorem bL_acts_363 {d mc ms : Nat} {al : Bool} {bc bs : Nat} {Γ : am_G} {I : am_I} {L : am_L} {Q : am_Q} {v0 : Nat} {v1 : Nat} {v2 : Int32} {v3 : Int32} {v4 : Int32} {v5 : Int32} {w0 : Int32} (kk : am_W m_L_acts d mc ms al bc bs 368 [(0, .ref v0), (1, .ref v1), (2, .int v2), (3, .int v3), (4, .int v4), (5, .int v5), (6, .int w0), (7, .int 0)] [] Γ I L Q) : am_W m_L_acts d mc ms al bc bs 363 [(0, .ref v0), (1, .ref v1), (2, .int v2), (3, .int v3), (4, .int v4), (5, .int v5)] [.int w0] Γ I L Q := by
  refine aw_istore (ls' := [(0, .ref v0), (1, .ref v1), (2, .int v2), (3, .int v3), (4, .int v4), (5, .int v5), (6, .int w0)]) dL_acts_363 (by decide) rfl ?_
  refine aw_iconst dL_acts_365 ci_0 ?_
  refine aw_istore (ls' := [(0, .ref v0), (1, .ref v1), (2, .int v2), (3, .int v3), (4, .int v4), (5, .int v5), (6, .int w0), (7, .int 0)]) dL_acts_366 (by decide) rfl ?_
  exact kk
theorem bL_acts_368 {d mc ms : Nat} {al : Bool} {bc bs : Nat} {Γ : am_G} {I : am_I} {L : am_L} {Q : am_Q} {v0 : Nat} {v1 : Nat} {v2 : Int32} {v3 : Int32} {v4 : Int32} {v5 : Int32} {v6 : Int32} {v7 : Int32} {I' : am_I} {L' : am_L} {mc' : Nat} {ms' : Nat} {r : Int32} (o1 : am_ob Γ v0 8) (hbc : mc' ≤ bc) (hbs : ms' ≤ bs) (hC : am_E m_X8_gateCount d mc' ms' [.ref v0] Γ I L (.inl (some (.int r))) I' L') (kk : am_W m_L_acts (d + 1) mc ms al (bc - mc') (bs - ms') 374 [(0, .ref v0), (1, .ref v1), (2, .int v2), (3, .int v3), (4, .int v4), (5, .int v5), (6, .int v6), (7, .int v7)] [.int r, .int v7] Γ I' L' Q) : am_W m_L_acts (d + 1) mc ms al bc bs 368 [(0, .ref v0), (1, .ref v1), (2, .int v2), (3, .int v3), (4, .int v4), (5, .int v5), (6, .int v6), (7, .int v7)] [] Γ I L Q := by
  refine aw_iload dL_acts_368 rfl ?_
  refine aw_aload_n dL_acts_370 rfl ?_
  exact aw_askV (as := []) (rst := [.int v7]) k_X8_gateCount l_L_179 i_X8_gateCount s_X8_gateCount rfl o1 dL_acts_371 rfl (Nat.le_of_ble_eq_true rfl) hbc hbs hC rfl rfl kk
theorem bL_acts_374 {d mc ms : Nat} {al : Bool} {bc bs : Nat} {Γ : am_G} {I : am_I} {L : am_L} {Q : am_Q} {v0 : Nat} {v1 : Nat} {v2 : Int32} {v3 : Int32} {v4 : Int32} {v5 : Int32} {v6 : Int32} {v7 : Int32} {w0 : Int32} {w1 : Int32} (kt : w1 ≤ w0 → am_W m_L_acts d mc ms al bc bs 394 [(0, .ref v0), (1, .ref v1), (2, .int v2), (3, .int v3), (4, .int v4), (5, .int v5), (6, .int v6), (7, .int v7)] [] Γ I L Q) (kf : ¬ w1 ≤ w0 → am_W m_L_acts d mc ms al bc bs 377 [(0, .ref v0), (1, .ref v1), (2, .int v2), (3, .int v3), (4, .int v4), (5, .int v5), (6, .int v6), (7, .int v7)] [] Γ I L Q) : am_W m_L_acts d mc ms al bc bs 374 [(0, .ref v0), (1, .ref v1), (2, .int v2), (3, .int v3), (4, .int v4), (5, .int v5), (6, .int v6), (7, .int v7)] [.int w1, .int w0] Γ I L Q := by
  exact aw_icmp_ge dL_acts_374 (by decide) kt kf
theorem bL_acts_377 {d mc ms : Nat} {al : Bool} {bc bs : Nat} {Γ : am_G} {I : am_I} {L : am_L} {Q : am_Q} {v0 : Nat} {v1 : Nat} {v2 : Int32} {v3 : Int32} {v4 : Int32} {v5 : Int32} {v6 : Int32} {v7 : Int32} {I' : am_I} {L' : am_L} {mc' : Nat} {ms' : Nat} {r : Int32} (hbc : mc' ≤ bc) (hbs : ms' ≤ bs) (hC : am_E m_L_isOpen d mc' ms' [.ref v0, .int v7] Γ I L (.inl (some (.int r))) I' L') (kk : am_W m_L_acts (d + 1) mc ms al (bc - mc') (bs - ms') 385 [(0, .ref v0), (1, .ref v1), (2, .int v2), (3, .int v3), (4, .int v4), (5, .int v5), (6, .int v6), (7, .int v7)] [.int r, .int v6] Γ I' L' Q) : am_W m_L_acts (d + 1) mc ms al bc bs 377 [(0, .ref v0), (1, .ref v1), (2, .int v2), (3, .int v3), (4, .int v4), (5, .int v5), (6, .int v6), (7, .int v7)] [] Γ I L Q := by
  refine aw_iload dL_acts_377 rfl ?_
  refine aw_aload_n dL_acts_379 rfl ?_
  refine aw_iload dL_acts_380 rfl ?_
  exact aw_askSW (as := [.ref v0, .int v7]) (rst := [.int v6]) kw_L_isOpen (by decide) rfl l_L_188 t_L_isOpen dL_acts_382 rfl (Nat.le_of_ble_eq_true rfl) hbc hbs hC rfl rfl kk
theorem bL_acts_385 {d mc ms : Nat} {al : Bool} {bc bs : Nat} {Γ : am_G} {I : am_I} {L : am_L} {Q : am_Q} {v0 : Nat} {v1 : Nat} {v2 : Int32} {v3 : Int32} {v4 : Int32} {v5 : Int32} {v6 : Int32} {v7 : Int32} {w0 : Int32} {w1 : Int32} (kk : am_W m_L_acts d mc ms al bc bs 368 [(0, .ref v0), (1, .ref v1), (2, .int v2), (3, .int v3), (4, .int v4), (5, .int v5), (6, .int (w0 - w1)), (7, .int (v7 + 1))] [] Γ I L Q) : am_W m_L_acts d mc ms al bc bs 385 [(0, .ref v0), (1, .ref v1), (2, .int v2), (3, .int v3), (4, .int v4), (5, .int v5), (6, .int v6), (7, .int v7)] [.int w1, .int w0] Γ I L Q := by
  refine aw_isub dL_acts_385 ?_
  refine aw_istore (ls' := [(0, .ref v0), (1, .ref v1), (2, .int v2), (3, .int v3), (4, .int v4), (5, .int v5), (6, .int (w0 - w1)), (7, .int v7)]) dL_acts_386 (by decide) rfl ?_
  refine aw_iinc (ls' := [(0, .ref v0), (1, .ref v1), (2, .int v2), (3, .int v3), (4, .int v4), (5, .int v5), (6, .int (w0 - w1)), (7, .int (v7 + 1))]) dL_acts_388 rfl (cn_1 _) (by decide) rfl ?_
  exact aw_goto dL_acts_391 (by decide) kk
theorem bL_acts_394 {d mc ms : Nat} {al : Bool} {bc bs : Nat} {Γ : am_G} {I : am_I} {L : am_L} {Q : am_Q} {v0 : Nat} {v1 : Nat} {v2 : Int32} {v3 : Int32} {v4 : Int32} {v5 : Int32} {v6 : Int32} {v7 : Int32} {I' : am_I} {L' : am_L} {mc' : Nat} {ms' : Nat} {r : Int32} (hbc : mc' ≤ bc) (hbs : ms' ≤ bs) (hC : am_E m_L_quickestGate d mc' ms' [.ref v0, .int v3] Γ I L (.inl (some (.int r))) I' L') (kk : am_W m_L_acts (d + 1) mc ms al (bc - mc') (bs - ms') 399 [(0, .ref v0), (1, .ref v1), (2, .int v2), (3, .int v3), (4, .int v4), (5, .int v5), (6, .int v6), (7, .int v7)] [.int r] Γ I' L' Q) : am_W m_L_acts (d + 1) mc ms al bc bs 394 [(0, .ref v0), (1, .ref v1), (2, .int v2), (3, .int v3), (4, .int v4), (5, .int v5), (6, .int v6), (7, .int v7)] [] Γ I L Q := by
  refine aw_aload_n dL_acts_394 rfl ?_
  refine aw_iload_n dL_acts_395 rfl ?_
  exact aw_askSW (as := [.ref v0, .int v3]) (rst := []) kw_L_quickestGate (by decide) rfl l_L_266 t_L_quickestGate dL_acts_396 rfl (Nat.le_of_ble_eq_true rfl) hbc hbs hC rfl rfl kk
theorem bL_acts_399 {d mc ms : Nat} {al : Bool} {bc bs : Nat} {Γ : am_G} {I : am_I} {L : am_L} {Q : am_Q} {v0 : Nat} {v1 : Nat} {v2 : Int32} {v3 : Int32} {v4 : Int32} {v5 : Int32} {v6 : Int32} {v7 : Int32} {w0 : Int32} (kt : ¬ v6 = 0 → am_W m_L_acts d mc ms al bc bs 433 [(0, .ref v0), (1, .ref v1), (2, .int v2), (3, .int v3), (4, .int v4), (5, .int v5), (6, .int v6), (7, .int w0)] [] Γ I L Q) (kf : v6 = 0 → am_W m_L_acts d mc ms al bc bs 406 [(0, .ref v0), (1, .ref v1), (2, .int v2), (3, .int v3), (4, .int v4), (5, .int v5), (6, .int v6), (7, .int w0)] [] Γ I L Q) : am_W m_L_acts d mc ms al bc bs 399 [(0, .ref v0), (1, .ref v1), (2, .int v2), (3, .int v3), (4, .int v4), (5, .int v5), (6, .int v6), (7, .int v7)] [.int w0] Γ I L Q := by
  refine aw_istore (ls' := [(0, .ref v0), (1, .ref v1), (2, .int v2), (3, .int v3), (4, .int v4), (5, .int v5), (6, .int v6), (7, .int w0)]) dL_acts_399 (by decide) rfl ?_
  refine aw_iload dL_acts_401 rfl ?_
  exact aw_if_ne dL_acts_403 (by decide) kt kf
theorem bL_acts_406 {d mc ms : Nat} {al : Bool} {bc bs : Nat} {Γ : am_G} {I : am_I} {L : am_L} {Q : am_Q} {v0 : Nat} {v1 : Nat} {v2 : Int32} {v3 : Int32} {v4 : Int32} {v5 : Int32} {v6 : Int32} {v7 : Int32} {I' : am_I} {L' : am_L} {mc' : Nat} {ms' : Nat} {r : Int32} (o1 : am_ob Γ v0 8) (hbc : mc' ≤ bc) (hbs : ms' ≤ bs) (hC : am_E m_X8_clock d mc' ms' [.ref v0] Γ I L (.inl (some (.int r))) I' L') (kk : am_W m_L_acts (d + 1) mc ms al (bc - mc') (bs - ms') 410 [(0, .ref v0), (1, .ref v1), (2, .int v2), (3, .int v3), (4, .int v4), (5, .int v5), (6, .int v6), (7, .int v7)] [.int r] Γ I' L' Q) : am_W m_L_acts (d + 1) mc ms al bc bs 406 [(0, .ref v0), (1, .ref v1), (2, .int v2), (3, .int v3), (4, .int v4), (5, .int v5), (6, .int v6), (7, .int v7)] [] Γ I L Q := by
  refine aw_aload_n dL_acts_406 rfl ?_
  exact aw_askV (as := []) (rst := []) k_X8_clock l_L_261 i_X8_clock s_X8_clock rfl o1 dL_acts_407 rfl (Nat.le_of_ble_eq_true rfl) hbc hbs hC rfl rfl kk
theorem bL_acts_410 {d mc ms : Nat} {al : Bool} {bc bs : Nat} {Γ : am_G} {I : am_I} {L : am_L} {Q : am_Q} {v0 : Nat} {v1 : Nat} {v2 : Int32} {v3 : Int32} {v4 : Int32} {v5 : Int32} {v6 : Int32} {v7 : Int32} {w0 : Int32} (kt : ¬ w0 = (v5 + v4) → am_W m_L_acts d mc ms al bc bs 433 [(0, .ref v0), (1, .ref v1), (2, .int v2), (3, .int v3), (4, .int v4), (5, .int v5), (6, .int v6), (7, .int v7)] [] Γ I L Q) (kf : w0 = (v5 + v4) → am_W m_L_acts d mc ms al bc bs 418 [(0, .ref v0), (1, .ref v1), (2, .int v2), (3, .int v3), (4, .int v4), (5, .int v5), (6, .int v6), (7, .int v7)] [] Γ I L Q) : am_W m_L_acts d mc ms al bc bs 410 [(0, .ref v0), (1, .ref v1), (2, .int v2), (3, .int v3), (4, .int v4), (5, .int v5), (6, .int v6), (7, .int v7)] [.int w0] Γ I L Q := by
  refine aw_iload dL_acts_410 rfl ?_
  refine aw_iload dL_acts_412 rfl ?_
  refine aw_iadd dL_acts_414 ?_
  exact aw_icmp_ne dL_acts_415 (by decide) kt kf
theorem bL_acts_418 {d mc ms : Nat} {al : Bool} {bc bs : Nat} {Γ : am_G} {I : am_I} {L : am_L} {Q : am_Q} {v0 : Nat} {v1 : Nat} {v2 : Int32} {v3 : Int32} {v4 : Int32} {v5 : Int32} {v6 : Int32} {v7 : Int32} (kt : v7 < 0 → am_W m_L_acts d mc ms al bc bs 435 [(0, .ref v0), (1, .ref v1), (2, .int v2), (3, .int v3), (4, .int v4), (5, .int v5), (6, .int v6), (7, .int v7)] [] Γ I L Q) (kf : ¬ v7 < 0 → am_W m_L_acts d mc ms al bc bs 423 [(0, .ref v0), (1, .ref v1), (2, .int v2), (3, .int v3), (4, .int v4), (5, .int v5), (6, .int v6), (7, .int v7)] [] Γ I L Q) : am_W m_L_acts d mc ms al bc bs 418 [(0, .ref v0), (1, .ref v1), (2, .int v2), (3, .int v3), (4, .int v4), (5, .int v5), (6, .int v6), (7, .int v7)] [] Γ I L Q := by
  refine aw_iload dL_acts_418 rfl ?_
  exact aw_if_lt dL_acts_420 (by decide) kt kf
theorem bL_acts_423 {d mc ms : Nat} {al : Bool} {bc bs : Nat} {Γ : am_G} {I : am_I} {L : am_L} {Q : am_Q} {v0 : Nat} {v1 : Nat} {v2 : Int32} {v3 : Int32} {v4 : Int32} {v5 : Int32} {v6 : Int32} {v7 : Int32} {I' : am_I} {L' : am_L} {mc' : Nat} {ms' : Nat} {r : Int32} (hbc : mc' ≤ bc) (hbs : ms' ≤ bs) (hC : am_E m_L_isOpen d mc' ms' [.ref v0, .int v7] Γ I L (.inl (some (.int r))) I' L') (kk : am_W m_L_acts (d + 1) mc ms al (bc - mc') (bs - ms') 429 [(0, .ref v0), (1, .ref v1), (2, .int v2), (3, .int v3), (4, .int v4), (5, .int v5), (6, .int v6), (7, .int v7)] [.int r] Γ I' L' Q) : am_W m_L_acts (d + 1) mc ms al bc bs 423 [(0, .ref v0), (1, .ref v1), (2, .int v2), (3, .int v3), (4, .int v4), (5, .int v5), (6, .int v6), (7, .int v7)] [] Γ I L Q := by
  refine aw_aload_n dL_acts_423 rfl ?_
  refine aw_iload dL_acts_424 rfl ?_
  exact aw_askSW (as := [.ref v0, .int v7]) (rst := []) kw_L_isOpen (by decide) rfl l_L_188 t_L_isOpen dL_acts_426 rfl (Nat.le_of_ble_eq_true rfl) hbc hbs hC rfl rfl kk
theorem bL_acts_429 {d mc ms : Nat} {al : Bool} {bc bs : Nat} {Γ : am_G} {I : am_I} {L : am_L} {Q : am_Q} {v0 : Nat} {v1 : Nat} {v2 : Int32} {v3 : Int32} {v4 : Int32} {v5 : Int32} {v6 : Int32} {v7 : Int32} {w0 : Int32} (kt : w0 = 1 → am_W m_L_acts d mc ms al bc bs 435 [(0, .ref v0), (1, .ref v1), (2, .int v2), (3, .int v3), (4, .int v4), (5, .int v5), (6, .int v6), (7, .int v7)] [] Γ I L Q) (kf : ¬ w0 = 1 → am_W m_L_acts d mc ms al bc bs 433 [(0, .ref v0), (1, .ref v1), (2, .int v2), (3, .int v3), (4, .int v4), (5, .int v5), (6, .int v6), (7, .int v7)] [] Γ I L Q) : am_W m_L_acts d mc ms al bc bs 429 [(0, .ref v0), (1, .ref v1), (2, .int v2), (3, .int v3), (4, .int v4), (5, .int v5), (6, .int v6), (7, .int v7)] [.int w0] Γ I L Q := by
  refine aw_iconst dL_acts_429 ci_1 ?_
  exact aw_icmp_eq dL_acts_430 (by decide) kt kf
theorem bL_acts_433 {d mc ms : Nat} {al : Bool} {bc bs : Nat} {Γ : am_G} {I : am_I} {L : am_L} {Q : am_Q} {v0 : Nat} {v1 : Nat} {v2 : Int32} {v3 : Int32} {v4 : Int32} {v5 : Int32} {v6 : Int32} {v7 : Int32} (hq : Q (.inl (some (.int 0))) Γ I L) : am_W m_L_acts d mc ms al bc bs 433 [(0, .ref v0), (1, .ref v1), (2, .int v2), (3, .int v3), (4, .int v4), (5, .int v5), (6, .int v6), (7, .int v7)] [] Γ I L Q := by
  refine aw_iconst dL_acts_433 ci_0 ?_
  exact aw_zret (ty := .boolean) dL_acts_434 rfl rfl hq
theorem bL_acts_435 {d mc ms : Nat} {al : Bool} {bc bs : Nat} {Γ : am_G} {I : am_I} {L : am_L} {Q : am_Q} {v0 : Nat} {v1 : Nat} {v2 : Int32} {v3 : Int32} {v4 : Int32} {v5 : Int32} {v6 : Int32} {v7 : Int32} (kk : am_W m_L_acts d mc ms al bc bs 438 [(0, .ref v0), (1, .ref v1), (2, .int v2), (3, .int v3), (4, .int v4), (5, .int v5), (6, .int v6), (7, .int v7), (8, .int 0)] [] Γ I L Q) : am_W m_L_acts d mc ms al bc bs 435 [(0, .ref v0), (1, .ref v1), (2, .int v2), (3, .int v3), (4, .int v4), (5, .int v5), (6, .int v6), (7, .int v7)] [] Γ I L Q := by
  refine aw_iconst dL_acts_435 ci_0 ?_
  refine aw_istore (ls' := [(0, .ref v0), (1, .ref v1), (2, .int v2), (3, .int v3), (4, .int v4), (5, .int v5), (6, .int v6), (7, .int v7), (8, .int 0)]) dL_acts_436 (by decide) rfl ?_
  exact kk
theorem bL_acts_438 {d mc ms : Nat} {al : Bool} {bc bs : Nat} {Γ : am_G} {I : am_I} {L : am_L} {Q : am_Q} {v0 : Nat} {v1 : Nat} {v2 : Int32} {v3 : Int32} {v4 : Int32} {v5 : Int32} {v6 : Int32} {v7 : Int32} {v8 : Int32} {I' : am_I} {L' : am_L} {mc' : Nat} {ms' : Nat} {r : Int32} (o1 : am_ob Γ v0 8) (hbc : mc' ≤ bc) (hbs : ms' ≤ bs) (hC : am_E m_X8_gateCount d mc' ms' [.ref v0] Γ I L (.inl (some (.int r))) I' L') (kk : am_W m_L_acts (d + 1) mc ms al (bc - mc') (bs - ms') 444 [(0, .ref v0), (1, .ref v1), (2, .int v2), (3, .int v3), (4, .int v4), (5, .int v5), (6, .int v6), (7, .int v7), (8, .int v8)] [.int r, .int v8] Γ I' L' Q) : am_W m_L_acts (d + 1) mc ms al bc bs 438 [(0, .ref v0), (1, .ref v1), (2, .int v2), (3, .int v3), (4, .int v4), (5, .int v5), (6, .int v6), (7, .int v7), (8, .int v8)] [] Γ I L Q := by
  refine aw_iload dL_acts_438 rfl ?_
  refine aw_aload_n dL_acts_440 rfl ?_
  exact aw_askV (as := []) (rst := [.int v8]) k_X8_gateCount l_L_179 i_X8_gateCount s_X8_gateCount rfl o1 dL_acts_441 rfl (Nat.le_of_ble_eq_true rfl) hbc hbs hC rfl rfl kk
theorem bL_acts_444 {d mc ms : Nat} {al : Bool} {bc bs : Nat} {Γ : am_G} {I : am_I} {L : am_L} {Q : am_Q} {v0 : Nat} {v1 : Nat} {v2 : Int32} {v3 : Int32} {v4 : Int32} {v5 : Int32} {v6 : Int32} {v7 : Int32} {v8 : Int32} {w0 : Int32} {w1 : Int32} (kt : w1 ≤ w0 → am_W m_L_acts d mc ms al bc bs 487 [(0, .ref v0), (1, .ref v1), (2, .int v2), (3, .int v3), (4, .int v4), (5, .int v5), (6, .int v6), (7, .int v7), (8, .int v8)] [] Γ I L Q) (kf : ¬ w1 ≤ w0 → am_W m_L_acts d mc ms al bc bs 447 [(0, .ref v0), (1, .ref v1), (2, .int v2), (3, .int v3), (4, .int v4), (5, .int v5), (6, .int v6), (7, .int v7), (8, .int v8)] [] Γ I L Q) : am_W m_L_acts d mc ms al bc bs 444 [(0, .ref v0), (1, .ref v1), (2, .int v2), (3, .int v3), (4, .int v4), (5, .int v5), (6, .int v6), (7, .int v7), (8, .int v8)] [.int w1, .int w0] Γ I L Q := by
  exact aw_icmp_ge dL_acts_444 (by decide) kt kf
theorem bL_acts_447 {d mc ms : Nat} {al : Bool} {bc bs : Nat} {Γ : am_G} {I : am_I} {L : am_L} {Q : am_Q} {v0 : Nat} {v1 : Nat} {v2 : Int32} {v3 : Int32} {v4 : Int32} {v5 : Int32} {v6 : Int32} {v7 : Int32} {v8 : Int32} {I' : am_I} {L' : am_L} {mc' : Nat} {ms' : Nat} {r : Int32} (hbc : mc' ≤ bc) (hbs : ms' ≤ bs) (hC : am_E m_L_isOpen d mc' ms' [.ref v0, .int v8] Γ I L (.inl (some (.int r))) I' L') (kk : am_W m_L_acts (d + 1) mc ms al (bc - mc') (bs - ms') 453 [(0, .ref v0), (1, .ref v1), (2, .int v2), (3, .int v3), (4, .int v4), (5, .int v5), (6, .int v6), (7, .int v7), (8, .int v8)] [.int r] Γ I' L' Q) : am_W m_L_acts (d + 1) mc ms al bc bs 447 [(0, .ref v0), (1, .ref v1), (2, .int v2), (3, .int v3), (4, .int v4), (5, .int v5), (6, .int v6), (7, .int v7), (8, .int v8)] [] Γ I L Q := by
  refine aw_aload_n dL_acts_447 rfl ?_
  refine aw_iload dL_acts_448 rfl ?_
  exact aw_askSW (as := [.ref v0, .int v8]) (rst := []) kw_L_isOpen (by decide) rfl l_L_188 t_L_isOpen dL_acts_450 rfl (Nat.le_of_ble_eq_true rfl) hbc hbs hC rfl rfl kk
theorem bL_acts_453 {d mc ms : Nat} {al : Bool} {bc bs : Nat} {Γ : am_G} {I : am_I} {L : am_L} {Q : am_Q} {v0 : Nat} {v1 : Nat} {v2 : Int32} {v3 : Int32} {v4 : Int32} {v5 : Int32} {v6 : Int32} {v7 : Int32} {v8 : Int32} {w0 : Int32} (kt : ¬ w0 = 1 → am_W m_L_acts d mc ms al bc bs 481 [(0, .ref v0), (1, .ref v1), (2, .int v2), (3, .int v3), (4, .int v4), (5, .int v5), (6, .int v6), (7, .int v7), (8, .int v8)] [] Γ I L Q) (kf : w0 = 1 → am_W m_L_acts d mc ms al bc bs 457 [(0, .ref v0), (1, .ref v1), (2, .int v2), (3, .int v3), (4, .int v4), (5, .int v5), (6, .int v6), (7, .int v7), (8, .int v8)] [] Γ I L Q) : am_W m_L_acts d mc ms al bc bs 453 [(0, .ref v0), (1, .ref v1), (2, .int v2), (3, .int v3), (4, .int v4), (5, .int v5), (6, .int v6), (7, .int v7), (8, .int v8)] [.int w0] Γ I L Q := by
  refine aw_iconst dL_acts_453 ci_1 ?_
  exact aw_icmp_ne dL_acts_454 (by decide) kt kf
theorem bL_acts_457 {d mc ms : Nat} {al : Bool} {bc bs : Nat} {Γ : am_G} {I : am_I} {L : am_L} {Q : am_Q} {v0 : Nat} {v1 : Nat} {v2 : Int32} {v3 : Int32} {v4 : Int32} {v5 : Int32} {v6 : Int32} {v7 : Int32} {v8 : Int32} (kt : v7 < 0 → am_W m_L_acts d mc ms al bc bs 479 [(0, .ref v0), (1, .ref v1), (2, .int v2), (3, .int v3), (4, .int v4), (5, .int v5), (6, .int v6), (7, .int v7), (8, .int v8)] [] Γ I L Q) (kf : ¬ v7 < 0 → am_W m_L_acts d mc ms al bc bs 462 [(0, .ref v0), (1, .ref v1), (2, .int v2), (3, .int v3), (4, .int v4), (5, .int v5), (6, .int v6), (7, .int v7), (8, .int v8)] [] Γ I L Q) : am_W m_L_acts d mc ms al bc bs 457 [(0, .ref v0), (1, .ref v1), (2, .int v2), (3, .int v3), (4, .int v4), (5, .int v5), (6, .int v6), (7, .int v7), (8, .int v8)] [] Γ I L Q := by
  refine aw_iload dL_acts_457 rfl ?_
  exact aw_if_lt dL_acts_459 (by decide) kt kf
theorem bL_acts_462 {d mc ms : Nat} {al : Bool} {bc bs : Nat} {Γ : am_G} {I : am_I} {L : am_L} {Q : am_Q} {v0 : Nat} {v1 : Nat} {v2 : Int32} {v3 : Int32} {v4 : Int32} {v5 : Int32} {v6 : Int32} {v7 : Int32} {v8 : Int32} {I' : am_I} {L' : am_L} {mc' : Nat} {ms' : Nat} {r : Int32} (hbc : mc' ≤ bc) (hbs : ms' ≤ bs) (hC : am_E m_L_pathCost d mc' ms' [.ref v0, .int v8, .int v3] Γ I L (.inl (some (.int r))) I' L') (kk : am_W m_L_acts (d + 1) mc ms al (bc - mc') (bs - ms') 469 [(0, .ref v0), (1, .ref v1), (2, .int v2), (3, .int v3), (4, .int v4), (5, .int v5), (6, .int v6), (7, .int v7), (8, .int v8)] [.int r] Γ I' L' Q) : am_W m_L_acts (d + 1) mc ms al bc bs 462 [(0, .ref v0), (1, .ref v1), (2, .int v2), (3, .int v3), (4, .int v4), (5, .int v5), (6, .int v6), (7, .int v7), (8, .int v8)] [] Γ I L Q := by
  refine aw_aload_n dL_acts_462 rfl ?_
  refine aw_iload dL_acts_463 rfl ?_
  refine aw_iload_n dL_acts_465 rfl ?_
  exact aw_askSW (as := [.ref v0, .int v8, .int v3]) (rst := []) kw_L_pathCost (by decide) rfl l_L_167 t_L_pathCost dL_acts_466 rfl (Nat.le_of_ble_eq_true rfl) hbc hbs hC rfl rfl kk
theorem bL_acts_469 {d mc ms : Nat} {al : Bool} {bc bs : Nat} {Γ : am_G} {I : am_I} {L : am_L} {Q : am_Q} {v0 : Nat} {v1 : Nat} {v2 : Int32} {v3 : Int32} {v4 : Int32} {v5 : Int32} {v6 : Int32} {v7 : Int32} {v8 : Int32} {w0 : Int32} {I' : am_I} {L' : am_L} {mc' : Nat} {ms' : Nat} {r : Int32} (hbc : mc' ≤ bc) (hbs : ms' ≤ bs) (hC : am_E m_L_pathCost d mc' ms' [.ref v0, .int v7, .int v3] Γ I L (.inl (some (.int r))) I' L') (kk : am_W m_L_acts (d + 1) mc ms al (bc - mc') (bs - ms') 476 [(0, .ref v0), (1, .ref v1), (2, .int v2), (3, .int v3), (4, .int v4), (5, .int v5), (6, .int v6), (7, .int v7), (8, .int v8)] [.int r, .int w0] Γ I' L' Q) : am_W m_L_acts (d + 1) mc ms al bc bs 469 [(0, .ref v0), (1, .ref v1), (2, .int v2), (3, .int v3), (4, .int v4), (5, .int v5), (6, .int v6), (7, .int v7), (8, .int v8)] [.int w0] Γ I L Q := by
  refine aw_aload_n dL_acts_469 rfl ?_
  refine aw_iload dL_acts_470 rfl ?_
  refine aw_iload_n dL_acts_472 rfl ?_
  exact aw_askSW (as := [.ref v0, .int v7, .int v3]) (rst := [.int w0]) kw_L_pathCost (by decide) rfl l_L_167 t_L_pathCost dL_acts_473 rfl (Nat.le_of_ble_eq_true rfl) hbc hbs hC rfl rfl kk
theorem bL_acts_476 {d mc ms : Nat} {al : Bool} {bc bs : Nat} {Γ : am_G} {I : am_I} {L : am_L} {Q : am_Q} {v0 : Nat} {v1 : Nat} {v2 : Int32} {v3 : Int32} {v4 : Int32} {v5 : Int32} {v6 : Int32} {v7 : Int32} {v8 : Int32} {w0 : Int32} {w1 : Int32} (kt : w1 ≤ w0 → am_W m_L_acts d mc ms al bc bs 481 [(0, .ref v0), (1, .ref v1), (2, .int v2), (3, .int v3), (4, .int v4), (5, .int v5), (6, .int v6), (7, .int v7), (8, .int v8)] [] Γ I L Q) (kf : ¬ w1 ≤ w0 → am_W m_L_acts d mc ms al bc bs 479 [(0, .ref v0), (1, .ref v1), (2, .int v2), (3, .int v3), (4, .int v4), (5, .int v5), (6, .int v6), (7, .int v7), (8, .int v8)] [] Γ I L Q) : am_W m_L_acts d mc ms al bc bs 476 [(0, .ref v0), (1, .ref v1), (2, .int v2), (3, .int v3), (4, .int v4), (5, .int v5), (6, .int v6), (7, .int v7), (8, .int v8)] [.int w1, .int w0] Γ I L Q := by
  exact aw_icmp_ge dL_acts_476 (by decide) kt kf
theorem bL_acts_479 {d mc ms : Nat} {al : Bool} {bc bs : Nat} {Γ : am_G} {I : am_I} {L : am_L} {Q : am_Q} {v0 : Nat} {v1 : Nat} {v2 : Int32} {v3 : Int32} {v4 : Int32} {v5 : Int32} {v6 : Int32} {v7 : Int32} {v8 : Int32} (hq : Q (.inl (some (.int 0))) Γ I L) : am_W m_L_acts d mc ms al bc bs 479 [(0, .ref v0), (1, .ref v1), (2, .int v2), (3, .int v3), (4, .int v4), (5, .int v5), (6, .int v6), (7, .int v7), (8, .int v8)] [] Γ I L Q := by
  refine aw_iconst dL_acts_479 ci_0 ?_
  exact aw_zret (ty := .boolean) dL_acts_480 rfl rfl hq
theorem bL_acts_481 {d mc ms : Nat} {al : Bool} {bc bs : Nat} {Γ : am_G} {I : am_I} {L : am_L} {Q : am_Q} {v0 : Nat} {v1 : Nat} {v2 : Int32} {v3 : Int32} {v4 : Int32} {v5 : Int32} {v6 : Int32} {v7 : Int32} {v8 : Int32} (kk : am_W m_L_acts d mc ms al bc bs 438 [(0, .ref v0), (1, .ref v1), (2, .int v2), (3, .int v3), (4, .int v4), (5, .int v5), (6, .int v6), (7, .int v7), (8, .int (v8 + 1))] [] Γ I L Q) : am_W m_L_acts d mc ms al bc bs 481 [(0, .ref v0), (1, .ref v1), (2, .int v2), (3, .int v3), (4, .int v4), (5, .int v5), (6, .int v6), (7, .int v7), (8, .int v8)] [] Γ I L Q := by
  refine aw_iinc (ls' := [(0, .ref v0), (1, .ref v1), (2, .int v2), (3, .int v3), (4, .int v4), (5, .int v5), (6, .int v6), (7, .int v7), (8, .int (v8 + 1))]) dL_acts_481 rfl (cn_1 _) (by decide) rfl ?_
  exact aw_goto dL_acts_484 (by decide) kk
theorem bL_acts_487 {d mc ms : Nat} {al : Bool} {bc bs : Nat} {Γ : am_G} {I : am_I} {L : am_L} {Q : am_Q} {v0 : Nat} {v1 : Nat} {v2 : Int32} {v3 : Int32} {v4 : Int32} {v5 : Int32} {v6 : Int32} {v7 : Int32} {v8 : Int32} (hq : Q (.inl (some (.int 1))) Γ I L) : am_W m_L_acts d mc ms al bc bs 487 [(0, .ref v0), (1, .ref v1), (2, .int v2), (3, .int v3), (4, .int v4), (5, .int v5), (6, .int v6), (7, .int v7), (8, .int v8)] [] Γ I L Q := by
  refine aw_iconst dL_acts_487 ci_1 ?_
  exact aw_zret (ty := .boolean) dL_acts_488 rfl rfl hq
