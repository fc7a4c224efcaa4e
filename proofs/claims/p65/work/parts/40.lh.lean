/-! THE LAW'S HELPERS -/
/-- a contract with one answer, out of a body with handlers -/
theorem am_ofEH {mi : am_M} {d mc ms : Nat} {args : List Value} {Γ : am_G} {I I' : am_I} {L L' : am_L} {o : am_O} {h0 : Nat × Nat × Nat × Nat} {hh : List (Nat × Nat × Nat × Nat)} (hy : plainName mi.1.cls = true) (ht : mi.2.2.2.2.1 = h0 :: hh) (hsc : mi.2.2.2.2.2 = none) (hn : am_sz args ≤ mi.2.2.1)
    (h : am_W mi d mc ms false mc ms 0 (lv_args 0 args) [] Γ I L (am_R o I' L')) : am_E mi d mc ms args Γ I L o I' L' := by
  intro l hl D A x
  have hwd : am_wd mi = .codeWith mi.1 mi.2.1 mi.2.2.1 mi.2.2.2.1 mi.2.2.2.2.1 := by unfold am_wd; rw [ht]
  refine vx_ofWH (cc := mi.2.1) (maxL := mi.2.2.1) (ret := mi.2.2.2.1) (hh := mi.2.2.2.2.1) hy (by rw [hwd]) ?_
  intro p e s m args' below meth c s₁ B hml hv
  obtain ⟨rfl, hA, hSx, hB⟩ := hv
  have hts := atoms_spec (ws := am_wd mi :: am_Gl) B.pre
  have hcs : ((args.map (am_cv D x)).map fun v => v.category).sum = am_sz args := by rw [am_cats]; rfl
  have hlen : (lg_sl (args.map (am_cv D x))).length ≤ mi.2.2.1 := by rw [am_sl_len]; exact Nat.le_trans (Nat.le_of_eq hcs) hn
  have hloc := lv_entry (args.map (am_cv D x)) (n := mi.2.2.1) hlen
  rw [am_args_map] at hloc
  have htab : c.exceptionTable.toList = tableOf mi.2.2.2.2.1 := vx_table (x := mi.1) B (by
    have z := hts _ List.mem_cons_self
    rw [hwd] at z
    exact z)
  have hown : s.vm.findClass mi.1.cls = some m.cls := findClass_of_methodNamed B.named
  have hnm : meth.name = mi.1.name := (name_of_methodNamed B.named B.method).1
  rw [lg_entry_eq]
  exact h p l e s m _ below meth c D A Γ x ⟨B.exec, B.bytes, hml, B.returns, htab, hown, fun w hw => hts w (List.mem_cons_of_mem _ hw), B.notSynchronized, hnm, hl, ⟨hA, fun n xs h => by rw [hsc] at h; cases h⟩, hSx⟩ x s.heap [] 0 0 _ am_agr.rf hB va_S.rf (Nat.le_of_eq (Nat.zero_add _)) (Nat.le_of_eq (Nat.zero_add _)) hloc
section LH
variable {d mc ms : Nat} {Γ : am_G} {I I1 : am_I} {L L1 : am_L}
theorem hL_truncateInput {p0 : Int32} (o : am_ob Γ 0 8) {v : Int32} (h : am_E m_X8_truncateInput d mc ms [.ref 0, .int p0] Γ I L (.inl (some (.int v))) I1 L1) : am_E m_L_truncateInput (d + 1) mc ms [.ref 0, .int p0] Γ I L (.inl (some (.int v))) I1 L1 := by
  refine am_ofEH rfl rfl rfl (Nat.le_of_ble_eq_true rfl) ?_
  refine bL_truncateInput_0 o (Nat.le_refl _) (Nat.le_refl _) h ?_
  exact bL_truncateInput_5 ⟨rfl, rfl, rfl⟩
theorem hL_passCarts {p0 p1 p2 : Int32} (o : am_ob Γ 0 8) {v : Int32} (h : am_E m_X8_passCarts d mc ms [.ref 0, .int p0, .int p1, .int p2] Γ I L (.inl (some (.int v))) I1 L1) : am_E m_L_passCarts (d + 1) mc ms [.ref 0, .int p0, .int p1, .int p2] Γ I L (.inl (some (.int v))) I1 L1 := by
  refine am_ofEH rfl rfl rfl (Nat.le_of_ble_eq_true rfl) ?_
  refine bL_passCarts_0 o (Nat.le_refl _) (Nat.le_refl _) h ?_
  exact bL_passCarts_7 ⟨rfl, rfl, rfl⟩
theorem hL_passCarts_x {p0 p1 p2 : Int32} (o : am_ob Γ 0 8) (h : am_E m_X8_passCarts d mc ms [.ref 0, .int p0, .int p1, .int p2] Γ I L (.inr "java/lang/IllegalStateException") I1 L1) : am_E m_L_passCarts (d + 1) mc ms [.ref 0, .int p0, .int p1, .int p2] Γ I L (.inl (some (.int (-19)))) I1 L1 := by
  refine am_ofEH rfl rfl rfl (Nat.le_of_ble_eq_true rfl) ?_
  refine bL_passCarts_0c3 o (Nat.le_refl _) (Nat.le_refl _) h ?_
  exact bL_passCarts_20 ⟨rfl, rfl, rfl⟩
theorem hL_buildTree {p0 : Int32} (o : am_ob Γ 0 8) {v : Int32} (h : am_E m_X8_buildTree d mc ms [.ref 0, .int p0] Γ I L (.inl (some (.int v))) I1 L1) : am_E m_L_buildTree (d + 1) mc ms [.ref 0, .int p0] Γ I L (.inl (some (.int v))) I1 L1 := by
  refine am_ofEH rfl rfl rfl (Nat.le_of_ble_eq_true rfl) ?_
  refine bL_buildTree_0 o (Nat.le_refl _) (Nat.le_refl _) h ?_
  exact bL_buildTree_5 ⟨rfl, rfl, rfl⟩
theorem hL_halveCounts {p0 : Int32} (o : am_ob Γ 0 8) {v : Int32} (h : am_E m_X8_halveCounts d mc ms [.ref 0, .int p0] Γ I L (.inl (some (.int v))) I1 L1) : am_E m_L_halveCounts (d + 1) mc ms [.ref 0, .int p0] Γ I L (.inl (some (.int v))) I1 L1 := by
  refine am_ofEH rfl rfl rfl (Nat.le_of_ble_eq_true rfl) ?_
  refine bL_halveCounts_0 o (Nat.le_refl _) (Nat.le_refl _) h ?_
  exact bL_halveCounts_5 ⟨rfl, rfl, rfl⟩
theorem hL_setToll {p0 p1 : Int32} (o : am_ob Γ 0 8) {v : Int32} (h : am_E m_X8_setToll d mc ms [.ref 0, .int p0, .int p1] Γ I L (.inl (some (.int v))) I1 L1) : am_E m_L_setToll (d + 1) mc ms [.ref 0, .int p0, .int p1] Γ I L (.inl (some (.int v))) I1 L1 := by
  refine am_ofEH rfl rfl rfl (Nat.le_of_ble_eq_true rfl) ?_
  refine bL_setToll_0 o (Nat.le_refl _) (Nat.le_refl _) h ?_
  exact bL_setToll_6 ⟨rfl, rfl, rfl⟩
theorem hL_setToll_x {p0 p1 : Int32} (o : am_ob Γ 0 8) (h : am_E m_X8_setToll d mc ms [.ref 0, .int p0, .int p1] Γ I L (.inr "java/lang/IllegalArgumentException") I1 L1) : am_E m_L_setToll (d + 1) mc ms [.ref 0, .int p0, .int p1] Γ I L (.inl (some (.int (-18)))) I1 L1 := by
  refine am_ofEH rfl rfl rfl (Nat.le_of_ble_eq_true rfl) ?_
  refine bL_setToll_0c2 o (Nat.le_refl _) (Nat.le_refl _) h ?_
  exact bL_setToll_12 ⟨rfl, rfl, rfl⟩
theorem hL_setCostLimit {p0 p1 : Int32} (o : am_ob Γ 0 8) {v : Int32} (h : am_E m_X8_setCostLimit d mc ms [.ref 0, .int p0, .int p1] Γ I L (.inl (some (.int v))) I1 L1) : am_E m_L_setCostLimit (d + 1) mc ms [.ref 0, .int p0, .int p1] Γ I L (.inl (some (.int v))) I1 L1 := by
  refine am_ofEH rfl rfl rfl (Nat.le_of_ble_eq_true rfl) ?_
  refine bL_setCostLimit_0 o (Nat.le_refl _) (Nat.le_refl _) h ?_
  exact bL_setCostLimit_6 ⟨rfl, rfl, rfl⟩
theorem hL_advanceClock {p0 : Int32} (o : am_ob Γ 0 8) {v : Int32} (h : am_E m_X8_advanceClock d mc ms [.ref 0, .int p0] Γ I L (.inl (some (.int v))) I1 L1) : am_E m_L_advanceClock (d + 1) mc ms [.ref 0, .int p0] Γ I L (.inl (some (.int v))) I1 L1 := by
  refine am_ofEH rfl rfl rfl (Nat.le_of_ble_eq_true rfl) ?_
  refine bL_advanceClock_0 o (Nat.le_refl _) (Nat.le_refl _) h ?_
  exact bL_advanceClock_5 ⟨rfl, rfl, rfl⟩
theorem hL_undo (o : am_ob Γ 0 8) {v : Int32} (h : am_E m_X8_undo d mc ms [.ref 0] Γ I L (.inl (some (.int v))) I1 L1) : am_E m_L_undo (d + 1) mc ms [.ref 0] Γ I L (.inl (some (.int v))) I1 L1 := by
  refine am_ofEH rfl rfl rfl (Nat.le_of_ble_eq_true rfl) ?_
  refine bL_undo_0 o (Nat.le_refl _) (Nat.le_refl _) h ?_
  exact bL_undo_4 ⟨rfl, rfl, rfl⟩
theorem hL_questionCost {p0 : Int32} (o : am_ob Γ 0 8) {v : Int32} (h : am_E m_X8_questionCost d mc ms [.ref 0, .int p0] Γ I L (.inl (some (.int v))) I1 L1) : am_E m_L_questionCost (d + 1) mc ms [.ref 0, .int p0] Γ I L (.inl (some (.int v))) I1 L1 := by
  refine am_ofEH rfl rfl rfl (Nat.le_of_ble_eq_true rfl) ?_
  refine bL_questionCost_0 o (Nat.le_refl _) (Nat.le_refl _) h ?_
  exact bL_questionCost_5 ⟨rfl, rfl, rfl⟩
theorem hL_hasTrait {p0 p1 : Int32} (o : am_ob Γ 0 8) {v : Bool} (h : am_E m_X8_hasTrait d mc ms [.ref 0, .int p0, .int p1] Γ I L (.inl (some (.int (bi v)))) I1 L1) : am_E m_L_hasTrait (d + 1) mc ms [.ref 0, .int p0, .int p1] Γ I L (.inl (some (.int (bi v)))) I1 L1 := by
  refine am_ofEH rfl rfl rfl (Nat.le_of_ble_eq_true rfl) ?_
  refine bL_hasTrait_0 o (Nat.le_refl _) (Nat.le_refl _) h ?_
  cases v
  · refine bL_hasTrait_6 (fun _ => ?_) (fun z => absurd rfl z)
    refine bL_hasTrait_13 ?_
    exact bL_hasTrait_14 ⟨rfl, rfl, rfl⟩
  · refine bL_hasTrait_6 (fun z => absurd z (by decide)) (fun _ => ?_)
    refine bL_hasTrait_9 ?_
    exact bL_hasTrait_14 ⟨rfl, rfl, rfl⟩
theorem hL_toll {p0 : Int32} (o : am_ob Γ 0 8) {v : Int32} (h : am_E m_X8_toll d mc ms [.ref 0, .int p0] Γ I L (.inl (some (.int v))) I1 L1) : am_E m_L_toll (d + 1) mc ms [.ref 0, .int p0] Γ I L (.inl (some (.int v))) I1 L1 := by
  refine am_ofEH rfl rfl rfl (Nat.le_of_ble_eq_true rfl) ?_
  refine bL_toll_0 o (Nat.le_refl _) (Nat.le_refl _) h ?_
  exact bL_toll_5 ⟨rfl, rfl, rfl⟩
theorem hL_countAt {p0 p1 : Int32} (o : am_ob Γ 0 8) {v : Int32} (h : am_E m_X8_countAt d mc ms [.ref 0, .int p0, .int p1] Γ I L (.inl (some (.int v))) I1 L1) : am_E m_L_countAt (d + 1) mc ms [.ref 0, .int p0, .int p1] Γ I L (.inl (some (.int v))) I1 L1 := by
  refine am_ofEH rfl rfl rfl (Nat.le_of_ble_eq_true rfl) ?_
  refine bL_countAt_0 o (Nat.le_refl _) (Nat.le_refl _) h ?_
  exact bL_countAt_6 ⟨rfl, rfl, rfl⟩
theorem hL_costLimit {p0 : Int32} (o : am_ob Γ 0 8) {v : Int32} (h : am_E m_X8_costLimit d mc ms [.ref 0, .int p0] Γ I L (.inl (some (.int v))) I1 L1) : am_E m_L_costLimit (d + 1) mc ms [.ref 0, .int p0] Γ I L (.inl (some (.int v))) I1 L1 := by
  refine am_ofEH rfl rfl rfl (Nat.le_of_ble_eq_true rfl) ?_
  refine bL_costLimit_0 o (Nat.le_refl _) (Nat.le_refl _) h ?_
  exact bL_costLimit_5 ⟨rfl, rfl, rfl⟩
theorem hL_isOpen {p0 : Int32} (o : am_ob Γ 0 8) {v : Bool} (h : am_E m_X8_isOpen d mc ms [.ref 0, .int p0] Γ I L (.inl (some (.int (bi v)))) I1 L1) : am_E m_L_isOpen (d + 1) mc ms [.ref 0, .int p0] Γ I L (.inl (some (.int (bi v)))) I1 L1 := by
  refine am_ofEH rfl rfl rfl (Nat.le_of_ble_eq_true rfl) ?_
  refine bL_isOpen_0 o (Nat.le_refl _) (Nat.le_refl _) h ?_
  cases v
  · refine bL_isOpen_5 (fun _ => ?_) (fun z => absurd rfl z)
    refine bL_isOpen_12 ?_
    exact bL_isOpen_13 ⟨rfl, rfl, rfl⟩
  · refine bL_isOpen_5 (fun z => absurd z (by decide)) (fun _ => ?_)
    refine bL_isOpen_8 ?_
    exact bL_isOpen_13 ⟨rfl, rfl, rfl⟩
theorem hL_hoursUntilOpen {p0 : Int32} (o : am_ob Γ 0 8) {v : Int32} (h : am_E m_X8_hoursUntilOpen d mc ms [.ref 0, .int p0] Γ I L (.inl (some (.int v))) I1 L1) : am_E m_L_hoursUntilOpen (d + 1) mc ms [.ref 0, .int p0] Γ I L (.inl (some (.int v))) I1 L1 := by
  refine am_ofEH rfl rfl rfl (Nat.le_of_ble_eq_true rfl) ?_
  refine bL_hoursUntilOpen_0 o (Nat.le_refl _) (Nat.le_refl _) h ?_
  exact bL_hoursUntilOpen_5 ⟨rfl, rfl, rfl⟩
theorem hL_nodeCount {p0 : Int32} (o : am_ob Γ 0 8) {v : Int32} (h : am_E m_X8_nodeCount d mc ms [.ref 0, .int p0] Γ I L (.inl (some (.int v))) I1 L1) : am_E m_L_nodeCount (d + 1) mc ms [.ref 0, .int p0] Γ I L (.inl (some (.int v))) I1 L1 := by
  refine am_ofEH rfl rfl rfl (Nat.le_of_ble_eq_true rfl) ?_
  refine bL_nodeCount_0 o (Nat.le_refl _) (Nat.le_refl _) h ?_
  exact bL_nodeCount_5 ⟨rfl, rfl, rfl⟩
theorem hL_nodeQuestion {p0 p1 : Int32} (o : am_ob Γ 0 8) {v : Int32} (h : am_E m_X8_nodeQuestion d mc ms [.ref 0, .int p0, .int p1] Γ I L (.inl (some (.int v))) I1 L1) : am_E m_L_nodeQuestion (d + 1) mc ms [.ref 0, .int p0, .int p1] Γ I L (.inl (some (.int v))) I1 L1 := by
  refine am_ofEH rfl rfl rfl (Nat.le_of_ble_eq_true rfl) ?_
  refine bL_nodeQuestion_0 o (Nat.le_refl _) (Nat.le_refl _) h ?_
  exact bL_nodeQuestion_6 ⟨rfl, rfl, rfl⟩
theorem hL_nodeQuestion_x {p0 p1 : Int32} (o : am_ob Γ 0 8) (h : am_E m_X8_nodeQuestion d mc ms [.ref 0, .int p0, .int p1] Γ I L (.inr "java/lang/IndexOutOfBoundsException") I1 L1) : am_E m_L_nodeQuestion (d + 1) mc ms [.ref 0, .int p0, .int p1] Γ I L (.inl (some (.int (-17)))) I1 L1 := by
  refine am_ofEH rfl rfl rfl (Nat.le_of_ble_eq_true rfl) ?_
  refine bL_nodeQuestion_0c1 o (Nat.le_refl _) (Nat.le_refl _) h ?_
  exact bL_nodeQuestion_8 ⟨rfl, rfl, rfl⟩
theorem hL_leafToll {p0 p1 : Int32} (o : am_ob Γ 0 8) {v : Int32} (h : am_E m_X8_leafToll d mc ms [.ref 0, .int p0, .int p1] Γ I L (.inl (some (.int v))) I1 L1) : am_E m_L_leafToll (d + 1) mc ms [.ref 0, .int p0, .int p1] Γ I L (.inl (some (.int v))) I1 L1 := by
  refine am_ofEH rfl rfl rfl (Nat.le_of_ble_eq_true rfl) ?_
  refine bL_leafToll_0 o (Nat.le_refl _) (Nat.le_refl _) h ?_
  exact bL_leafToll_6 ⟨rfl, rfl, rfl⟩
theorem hL_yesChild {p0 p1 : Int32} (o : am_ob Γ 0 8) {v : Int32} (h : am_E m_X8_yesChild d mc ms [.ref 0, .int p0, .int p1] Γ I L (.inl (some (.int v))) I1 L1) : am_E m_L_yesChild (d + 1) mc ms [.ref 0, .int p0, .int p1] Γ I L (.inl (some (.int v))) I1 L1 := by
  refine am_ofEH rfl rfl rfl (Nat.le_of_ble_eq_true rfl) ?_
  refine bL_yesChild_0 o (Nat.le_refl _) (Nat.le_refl _) h ?_
  exact bL_yesChild_6 ⟨rfl, rfl, rfl⟩
theorem hL_noChild {p0 p1 : Int32} (o : am_ob Γ 0 8) {v : Int32} (h : am_E m_X8_noChild d mc ms [.ref 0, .int p0, .int p1] Γ I L (.inl (some (.int v))) I1 L1) : am_E m_L_noChild (d + 1) mc ms [.ref 0, .int p0, .int p1] Γ I L (.inl (some (.int v))) I1 L1 := by
  refine am_ofEH rfl rfl rfl (Nat.le_of_ble_eq_true rfl) ?_
  refine bL_noChild_0 o (Nat.le_refl _) (Nat.le_refl _) h ?_
  exact bL_noChild_6 ⟨rfl, rfl, rfl⟩
theorem hL_typesAt {p0 p1 : Int32} (o : am_ob Γ 0 8) {v : Int32} (h : am_E m_X8_typesAt d mc ms [.ref 0, .int p0, .int p1] Γ I L (.inl (some (.int v))) I1 L1) : am_E m_L_typesAt (d + 1) mc ms [.ref 0, .int p0, .int p1] Γ I L (.inl (some (.int v))) I1 L1 := by
  refine am_ofEH rfl rfl rfl (Nat.le_of_ble_eq_true rfl) ?_
  refine bL_typesAt_0 o (Nat.le_refl _) (Nat.le_refl _) h ?_
  exact bL_typesAt_6 ⟨rfl, rfl, rfl⟩
theorem hL_leafOf {p0 p1 : Int32} (o : am_ob Γ 0 8) {v : Int32} (h : am_E m_X8_leafOf d mc ms [.ref 0, .int p0, .int p1] Γ I L (.inl (some (.int v))) I1 L1) : am_E m_L_leafOf (d + 1) mc ms [.ref 0, .int p0, .int p1] Γ I L (.inl (some (.int v))) I1 L1 := by
  refine am_ofEH rfl rfl rfl (Nat.le_of_ble_eq_true rfl) ?_
  refine bL_leafOf_0 o (Nat.le_refl _) (Nat.le_refl _) h ?_
  exact bL_leafOf_6 ⟨rfl, rfl, rfl⟩
theorem hL_chargedToll {p0 p1 : Int32} (o : am_ob Γ 0 8) {v : Int32} (h : am_E m_X8_chargedToll d mc ms [.ref 0, .int p0, .int p1] Γ I L (.inl (some (.int v))) I1 L1) : am_E m_L_chargedToll (d + 1) mc ms [.ref 0, .int p0, .int p1] Γ I L (.inl (some (.int v))) I1 L1 := by
  refine am_ofEH rfl rfl rfl (Nat.le_of_ble_eq_true rfl) ?_
  refine bL_chargedToll_0 o (Nat.le_refl _) (Nat.le_refl _) h ?_
  exact bL_chargedToll_6 ⟨rfl, rfl, rfl⟩
theorem hL_pathCost {p0 p1 : Int32} (o : am_ob Γ 0 8) {v : Int32} (h : am_E m_X8_pathCost d mc ms [.ref 0, .int p0, .int p1] Γ I L (.inl (some (.int v))) I1 L1) : am_E m_L_pathCost (d + 1) mc ms [.ref 0, .int p0, .int p1] Γ I L (.inl (some (.int v))) I1 L1 := by
  refine am_ofEH rfl rfl rfl (Nat.le_of_ble_eq_true rfl) ?_
  refine bL_pathCost_0 o (Nat.le_refl _) (Nat.le_refl _) h ?_
  exact bL_pathCost_6 ⟨rfl, rfl, rfl⟩
theorem hL_errors {p0 : Int32} (o : am_ob Γ 0 8) {v : Int32} (h : am_E m_X8_errors d mc ms [.ref 0, .int p0] Γ I L (.inl (some (.int v))) I1 L1) : am_E m_L_errors (d + 1) mc ms [.ref 0, .int p0] Γ I L (.inl (some (.int v))) I1 L1 := by
  refine am_ofEH rfl rfl rfl (Nat.le_of_ble_eq_true rfl) ?_
  refine bL_errors_0 o (Nat.le_refl _) (Nat.le_refl _) h ?_
  exact bL_errors_5 ⟨rfl, rfl, rfl⟩
theorem hL_work {p0 : Int32} (o : am_ob Γ 0 8) {v : Int32} (h : am_E m_X8_work d mc ms [.ref 0, .int p0] Γ I L (.inl (some (.int v))) I1 L1) : am_E m_L_work (d + 1) mc ms [.ref 0, .int p0] Γ I L (.inl (some (.int v))) I1 L1 := by
  refine am_ofEH rfl rfl rfl (Nat.le_of_ble_eq_true rfl) ?_
  refine bL_work_0 o (Nat.le_refl _) (Nat.le_refl _) h ?_
  exact bL_work_5 ⟨rfl, rfl, rfl⟩
theorem hL_mischargeReason {p0 p1 : Int32} (o : am_ob Γ 0 8) {v : Int32} (h : am_E m_X8_mischargeReason d mc ms [.ref 0, .int p0, .int p1] Γ I L (.inl (some (.int v))) I1 L1) : am_E m_L_mischargeReason (d + 1) mc ms [.ref 0, .int p0, .int p1] Γ I L (.inl (some (.int v))) I1 L1 := by
  refine am_ofEH rfl rfl rfl (Nat.le_of_ble_eq_true rfl) ?_
  refine bL_mischargeReason_0 o (Nat.le_refl _) (Nat.le_refl _) h ?_
  exact bL_mischargeReason_6 ⟨rfl, rfl, rfl⟩
theorem hL_bestErrors {p0 p1 : Int32} (o : am_ob Γ 0 8) {v : Int32} (h : am_E m_X8_bestErrors d mc ms [.ref 0, .int p0, .int p1] Γ I L (.inl (some (.int v))) I1 L1) : am_E m_L_bestErrors (d + 1) mc ms [.ref 0, .int p0, .int p1] Γ I L (.inl (some (.int v))) I1 L1 := by
  refine am_ofEH rfl rfl rfl (Nat.le_of_ble_eq_true rfl) ?_
  refine bL_bestErrors_0 o (Nat.le_refl _) (Nat.le_refl _) h ?_
  exact bL_bestErrors_6 ⟨rfl, rfl, rfl⟩
theorem hL_bestWork {p0 p1 : Int32} (o : am_ob Γ 0 8) {v : Int32} (h : am_E m_X8_bestWork d mc ms [.ref 0, .int p0, .int p1] Γ I L (.inl (some (.int v))) I1 L1) : am_E m_L_bestWork (d + 1) mc ms [.ref 0, .int p0, .int p1] Γ I L (.inl (some (.int v))) I1 L1 := by
  refine am_ofEH rfl rfl rfl (Nat.le_of_ble_eq_true rfl) ?_
  refine bL_bestWork_0 o (Nat.le_refl _) (Nat.le_refl _) h ?_
  exact bL_bestWork_6 ⟨rfl, rfl, rfl⟩
theorem hL_bestRootQuestion {p0 p1 : Int32} (o : am_ob Γ 0 8) {v : Int32} (h : am_E m_X8_bestRootQuestion d mc ms [.ref 0, .int p0, .int p1] Γ I L (.inl (some (.int v))) I1 L1) : am_E m_L_bestRootQuestion (d + 1) mc ms [.ref 0, .int p0, .int p1] Γ I L (.inl (some (.int v))) I1 L1 := by
  refine am_ofEH rfl rfl rfl (Nat.le_of_ble_eq_true rfl) ?_
  refine bL_bestRootQuestion_0 o (Nat.le_refl _) (Nat.le_refl _) h ?_
  exact bL_bestRootQuestion_6 ⟨rfl, rfl, rfl⟩
theorem hL_errorsWithout {p0 p1 : Int32} (o : am_ob Γ 0 8) {v : Int32} (h : am_E m_X8_errorsWithout d mc ms [.ref 0, .int p0, .int p1] Γ I L (.inl (some (.int v))) I1 L1) : am_E m_L_errorsWithout (d + 1) mc ms [.ref 0, .int p0, .int p1] Γ I L (.inl (some (.int v))) I1 L1 := by
  refine am_ofEH rfl rfl rfl (Nat.le_of_ble_eq_true rfl) ?_
  refine bL_errorsWithout_0 o (Nat.le_refl _) (Nat.le_refl _) h ?_
  exact bL_errorsWithout_6 ⟨rfl, rfl, rfl⟩
theorem hL_sufficientLimit {p0 : Int32} (o : am_ob Γ 0 8) {v : Int32} (h : am_E m_X8_sufficientLimit d mc ms [.ref 0, .int p0] Γ I L (.inl (some (.int v))) I1 L1) : am_E m_L_sufficientLimit (d + 1) mc ms [.ref 0, .int p0] Γ I L (.inl (some (.int v))) I1 L1 := by
  refine am_ofEH rfl rfl rfl (Nat.le_of_ble_eq_true rfl) ?_
  refine bL_sufficientLimit_0 o (Nat.le_refl _) (Nat.le_refl _) h ?_
  exact bL_sufficientLimit_5 ⟨rfl, rfl, rfl⟩
theorem hL_quickestGate {p0 : Int32} (o : am_ob Γ 0 8) {v : Int32} (h : am_E m_X8_quickestGate d mc ms [.ref 0, .int p0] Γ I L (.inl (some (.int v))) I1 L1) : am_E m_L_quickestGate (d + 1) mc ms [.ref 0, .int p0] Γ I L (.inl (some (.int v))) I1 L1 := by
  refine am_ofEH rfl rfl rfl (Nat.le_of_ble_eq_true rfl) ?_
  refine bL_quickestGate_0 o (Nat.le_refl _) (Nat.le_refl _) h ?_
  exact bL_quickestGate_5 ⟨rfl, rfl, rfl⟩
end LH
/-! what is drawn -/
theorem iush_ex (x : Int32) : ∃ y, y < 16777216 ∧ iush x 8 = nn y := by
  refine ⟨x.toBitVec.toNat / 256, ?_, ?_⟩
  · have := x.toBitVec.isLt
    omega
  · refine Int32.toBitVec_inj.mp (BitVec.eq_of_toNat_eq ?_)
    rw [nn_bv, BitVec.toNat_ofNat, Nat.mod_eq_of_lt (by have := x.toBitVec.isLt; omega)]
    show (x.toBitVec >>> (((8 : Int32).toUInt32 &&& Int32.toUInt32 31).toBitVec.umod 32#32)).toNat = _
    rw [show ((8 : Int32).toUInt32 &&& Int32.toUInt32 31).toBitVec.umod 32#32 = 8#32 from by decide]
    rw [BitVec.ushiftRight_eq', BitVec.toNat_ushiftRight, Nat.shiftRight_eq_div_pow]
    rfl
theorem eL_draw {d : Nat} {Γ : am_G} {I : am_I} {L : am_L} {c k : Nat} (a : am_ar Γ c 1 1 0) (hk : 0 < k) (hk2 : k < 1000) : ∃ r x, r < k ∧ am_E m_L_draw d 0 0 [.ref c, .int (nn k)] Γ I L (.inl (some (.int (nn r)))) (am_u I c 0 x) L := by
  obtain ⟨y, y1, y2⟩ := iush_ex (I c 0 * 1103515245 + 12345)
  refine ⟨y % k, I c 0 * 1103515245 + 12345, Nat.mod_lt _ hk, am_ofE rfl rfl rfl (Nat.le_of_ble_eq_true rfl) ?_⟩
  refine bL_draw_0 a (vp_in_0 (by decide)) (by rw [nl_0, nn_eq (by omega) (by decide)]; omega) ?_
  have e0 : ((0 : Int32)).toNatClampNeg = 0 := by decide
  rw [e0]
  have e1 : am_u I c 0 (I c 0 * 1103515245 + 12345) c 0 = I c 0 * 1103515245 + 12345 := by rw [am_u_at, if_pos ⟨rfl, rfl⟩]
  rw [e1, y2, nn_rem (by omega) (by omega)]
  exact ⟨rfl, rfl, rfl⟩
