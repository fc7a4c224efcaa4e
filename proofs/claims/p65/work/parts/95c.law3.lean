/-! THE LAW: from the text that is written to the end -/
def lC (Gn : Nat) (r : List (Nat × Value)) : List (Nat × Value) := (0, .retAddr 60) :: (1, .int 0) :: (2, .ref 450) :: (3, .ref 0) :: (7, .int (nn Gn)) :: r
section LWC
variable {n mc ms bc bs Gn : Nat} {xs : Nat → Int32} {Γ : am_G} {I : am_I} {L : am_L} {Q : am_Q} {w : Nat → Int32} {h : Nat → Nat → Int32} {s : Nat}
/-- the end -/
theorem law_end (fin : ∀ Γ I L, Q (.inl (some (.int 1))) Γ I L) {ls : List (Nat × Value)} : am_W (m_W n xs) 290 mc ms true bc bs 577 ls [] Γ I L Q := by
  refine aw_iconst (v := 1) dL_law_577 (by decide) ?_
  exact aw_zret dL_law_578 rfl rfl (fin _ _ _)
/-- once more round: there is no more than one -/
theorem law_571 (fin : ∀ Γ I L, Q (.inl (some (.int 1))) Γ I L) (hn : n < 2147483648) {r : List (Nat × Value)} : am_W (m_W n xs) 290 mc ms true bc bs 571 (lC Gn r) [] Γ I L Q := by
  refine aw_ls (ls' := [(0, .retAddr 60), (1, .int 0)]) (fun q hq => ?_) ?_
  · rcases List.mem_cons.mp hq with e | e
    · rw [e]; exact List.mem_cons_self
    · rw [List.mem_singleton.mp e]; exact List.mem_cons_of_mem _ List.mem_cons_self
  refine aw_iinc (v := 1) (ls' := [(0, .retAddr 60), (1, .int 1)]) dL_law_571 rfl (by decide) (Nat.le_of_ble_eq_true rfl) rfl ?_
  refine aw_goto dL_law_574 rfl ?_
  refine aw_iload_n dL_law_2 rfl ?_
  refine aw_aload_nT dL_law_3 rfl ?_
  refine aw_slen rfl dL_law_4 (v := nn n) rfl ?_
  refine aw_icmp_ge dL_law_5 rfl (fun _ => law_end fin) (fun _ => ?_)
  refine aw_iload_n dL_law_8 rfl ?_
  refine aw_iconst (v := 1) dL_law_9 (by decide) ?_
  exact aw_icmp_ge dL_law_10 rfl (fun _ => law_end fin) (fun z => absurd (Int32.le_refl _) z)
/-- a build, undone -/
theorem law_474 (fin : ∀ Γ I L, Q (.inl (some (.int 1))) Γ I L) (hn : n < 2147483648) (hF : wF Γ) (a450 : am_ar Γ 450 1 1 0) (R : CS I L w h s) (hG : vG w = Gn) {k : Nat} (hi : invW w k) (hk : k ≤ 400) {v8 : Int32} : am_W (m_W n xs) 290 mc ms true (bc + 8) (bs + 48) 474 (lC Gn [(8, .int v8)]) [] Γ I L Q := by
  have ox := hF.1.1
  have g0 : 0 < vG w := R.1.2.2.2
  have g4 := R.1.1.2.2.1.2
  refine aw_aload_n dL_law_474 rfl ?_
  obtain ⟨I1, L1, E1, R1, -⟩ := eL_isSound (d := 0) hF R hi.1 (by omega)
  refine aw_askS (mc' := 4) (ms' := 24) (as := [.ref 0]) (rst := []) k_L_isSound l_L_308 t_L_isSound dL_law_475 rfl (Nat.le_of_ble_eq_true rfl) (by omega) (by omega) (E1.up (by decide)) rfl rfl ?_
  refine aw_if_ne dL_law_478 rfl (fun _ => ?_) (fun z => absurd z (by decide))
  refine aw_aload_n dL_law_483 rfl ?_
  refine aw_askV (mc' := 0) (ms' := 0) (as := []) (rst := []) k_X8_undoableChanges l_L_312 i_X8_undoableChanges s_X8_undoableChanges rfl ox dL_law_484 rfl (Nat.le_of_ble_eq_true rfl) (Nat.zero_le _) (Nat.zero_le _) ((qX_undoableChanges (d := 0) hF R1).up (by decide)) rfl rfl ?_
  refine aw_istore (ls' := lC Gn [(8, .int (nn s))]) dL_law_487 (Nat.le_of_ble_eq_true rfl) rfl ?_
  refine aw_aload_n dL_law_489 rfl ?_
  refine aw_iload dL_law_490 rfl ?_
  refine lw_draw (k := Gn) dL_law_492 rfl a450 (by omega) (by omega) (Nat.le_of_ble_eq_true rfl) (fun r x hr => ?_)
  have R2 := R1.drw (c := 450) (x := x) (by decide)
  have hr2 : r < vG w := by omega
  refine aw_istore (ls' := lC Gn [(8, .int (nn s)), (9, .int (nn r))]) dL_law_495 (Nat.le_of_ble_eq_true rfl) rfl ?_
  refine aw_aload_n dL_law_497 rfl ?_
  refine aw_iload dL_law_498 rfl ?_
  refine aw_askSW (mc' := 0) (ms' := 0) (as := [.ref 0, .int (nn r)]) (rst := []) kw_L_errors (by decide) rfl l_L_175 t_L_errors dL_law_500 rfl (Nat.le_of_ble_eq_true rfl) (Nat.zero_le _) (Nat.zero_le _) ((hL_errors ox (qX_errors (d := 0) hF R2 hr2)).up (by decide)) rfl rfl ?_
  refine aw_istore (ls' := lC Gn [(8, .int (nn s)), (9, .int (nn r)), (10, .int (mErr w r (teW w r) (vT w)))]) dL_law_503 (Nat.le_of_ble_eq_true rfl) rfl ?_
  refine aw_aload_n dL_law_505 rfl ?_
  refine aw_iload dL_law_506 rfl ?_
  refine aw_askSW (mc' := 0) (ms' := 0) (as := [.ref 0, .int (nn r)]) (rst := []) kw_L_nodeCount (by decide) rfl l_L_149 t_L_nodeCount dL_law_508 rfl (Nat.le_of_ble_eq_true rfl) (Nat.zero_le _) (Nat.zero_le _) ((hL_nodeCount ox (qX_nodeCount (d := 0) hF R2 hr2)).up (by decide)) rfl rfl ?_
  refine aw_istore (ls' := lC Gn [(8, .int (nn s)), (9, .int (nn r)), (10, .int (mErr w r (teW w r) (vT w))), (11, .int (w (132 + r * 94 + 18)))]) dL_law_511 (Nat.le_of_ble_eq_true rfl) rfl ?_
  refine aw_aload_n dL_law_513 rfl ?_
  refine aw_iload dL_law_514 rfl ?_
  obtain ⟨I3, L3, E3, w3, hb3, R3⟩ := eL_builds (d := 0) hF R2 hr2
  refine aw_askS (mc' := 0) (ms' := 0) (as := [.ref 0, .int (nn r)]) (rst := []) k_L_builds l_L_249 t_L_builds dL_law_516 rfl (Nat.le_of_ble_eq_true rfl) (Nat.zero_le _) (Nat.zero_le _) (E3.up (by decide)) rfl rfl ?_
  refine aw_if_eq dL_law_519 rfl (fun z => absurd z (by decide)) (fun _ => ?_)
  obtain ⟨o8, -, -, -, hs8, -⟩ := R.2.2
  have hsp : spu s = (spu s - 1) + 1 := by unfold spu; split <;> omega
  have hmin : (if nn (s + 1) < nn 8 then nn (s + 1) else nn 8) - nn 1 = nn (spu s - 1) := by
    unfold spu
    by_cases e : s = 8
    · subst e
      rfl
    · rw [if_neg e]
      by_cases e7 : s = 7
      · subst e7
        rfl
      · rw [if_pos ((nn_lt (by omega) (by decide)).mpr (by omega)), nn_sub (by omega)]
  have hback : hpu h s w (spu s - 1) = w := by
    unfold spu
    by_cases e : s = 8
    · subst e
      exact hpu_a h w
    · rw [if_neg e, Nat.add_sub_cancel]
      exact hpu_c e
  rw [hsp] at R3
  obtain ⟨I4, L4, E4, R4, -⟩ := qX_undo (d := 0) hF R3
  rw [hback] at R4
  refine aw_aload_n dL_law_522 rfl ?_
  refine aw_askSW (mc' := 0) (ms' := 0) (as := [.ref 0]) (rst := []) kw_L_undo (by decide) rfl l_L_315 t_L_undo dL_law_523 rfl (Nat.le_of_ble_eq_true rfl) (Nat.zero_le _) (Nat.zero_le _) ((hL_undo ox E4).up (by decide)) rfl rfl ?_
  refine aw_bipush (v := nn 8) dL_law_526 (by decide) ?_
  refine aw_iload dL_law_528 rfl ?_
  refine aw_iconst (v := nn 1) dL_law_530 (by decide) ?_
  refine aw_iadd dL_law_531 ?_
  rw [nn_add]
  refine aw_min dL_law_532 mf_L_244 (Nat.le_of_ble_eq_true rfl) ?_
  refine aw_iconst (v := nn 1) dL_law_535 (by decide) ?_
  refine aw_isub dL_law_536 ?_
  rw [hmin]
  refine aw_icmp_ne dL_law_537 rfl (fun z => absurd rfl z) (fun _ => ?_)
  refine aw_aload_n dL_law_540 rfl ?_
  refine aw_iload dL_law_541 rfl ?_
  refine aw_askSW (mc' := 0) (ms' := 0) (as := [.ref 0, .int (nn r)]) (rst := []) kw_L_errors (by decide) rfl l_L_175 t_L_errors dL_law_543 rfl (Nat.le_of_ble_eq_true rfl) (Nat.zero_le _) (Nat.zero_le _) ((hL_errors ox (qX_errors (d := 0) hF R4 hr2)).up (by decide)) rfl rfl ?_
  refine aw_iload dL_law_546 rfl ?_
  refine aw_icmp_ne dL_law_548 rfl (fun z => absurd rfl z) (fun _ => ?_)
  refine aw_aload_n dL_law_551 rfl ?_
  refine aw_iload dL_law_552 rfl ?_
  refine aw_askSW (mc' := 0) (ms' := 0) (as := [.ref 0, .int (nn r)]) (rst := []) kw_L_nodeCount (by decide) rfl l_L_149 t_L_nodeCount dL_law_554 rfl (Nat.le_of_ble_eq_true rfl) (Nat.zero_le _) (Nat.zero_le _) ((hL_nodeCount ox (qX_nodeCount (d := 0) hF R4 hr2)).up (by decide)) rfl rfl ?_
  refine aw_iload dL_law_557 rfl ?_
  refine aw_icmp_ne dL_law_559 rfl (fun z => absurd rfl z) (fun _ => ?_)
  refine aw_aload_n dL_law_562 rfl ?_
  obtain ⟨I5, L5, E5, R5, -⟩ := eL_isSound (d := 0) hF R4 hi.1 (by omega)
  refine aw_askS (mc' := 4) (ms' := 24) (as := [.ref 0]) (rst := []) k_L_isSound l_L_308 t_L_isSound dL_law_563 rfl (Nat.le_of_ble_eq_true rfl) (by omega) (by omega) (E5.up (by decide)) rfl rfl ?_
  refine aw_if_ne dL_law_566 rfl (fun _ => ?_) (fun z => absurd z (by decide))
  exact law_571 fin hn
/-- the steps -/
theorem law_434 (fin : ∀ Γ I L, Q (.inl (some (.int 1))) Γ I L) (hn : n < 2147483648) (hF : wF Γ) (a450 : am_ar Γ 450 1 1 0) : ∀ f k (I : am_I) (L : am_L) (w : Nat → Int32) (h : Nat → Nat → Int32) (s : Nat), k + f = 24 → CS I L w h s → vG w = Gn → invW w k → am_W (m_W n xs) 290 mc ms true (bc + 8 + 5 * f) (bs + 48 + 30 * f) 434 (lC Gn [(8, .int (nn k))]) [] Γ I L Q := by
  intro f
  induction f with
  | zero =>
    intro k I L w h s hk R hG hi
    obtain rfl : k = 24 := by omega
    refine aw_iload dL_law_434 rfl ?_
    refine aw_bipush (v := nn 24) dL_law_436 (by decide) ?_
    exact aw_icmp_ge dL_law_438 rfl (fun _ => law_474 fin hn hF a450 R hG hi (by decide)) (fun z => absurd (Int32.le_refl _) z)
  | succ f ih =>
    intro k I L w h s hk R hG hi
    refine aw_iload dL_law_434 rfl ?_
    refine aw_bipush (v := nn 24) dL_law_436 (by decide) ?_
    refine aw_icmp_ge dL_law_438 rfl (fun z => absurd z (by rw [nn_le (by decide) (by omega)]; omega)) (fun _ => ?_)
    refine aw_aload_n dL_law_441 rfl ?_
    refine aw_aload_n dL_law_442 rfl ?_
    obtain ⟨I1, L1, E1, w1, h1, s1, R1, i1, t1, v1⟩ := eL_acts (d := 0) hF a450 R hi (by omega)
    refine aw_askS (mc' := 1) (ms' := 6) (as := [.ref 0, .ref 450]) (rst := []) k_L_acts l_L_304 t_L_acts dL_law_443 rfl (Nat.le_of_ble_eq_true rfl) (by omega) (by omega) (E1.up (by decide)) rfl rfl ?_
    refine aw_if_ne dL_law_446 rfl (fun _ => ?_) (fun z => absurd z (by decide))
    refine aw_iload dL_law_451 rfl ?_
    refine aw_bipush (v := nn 6) dL_law_453 (by decide) ?_
    refine aw_irem dL_law_455 (by decide) ?_
    rw [nn_rem (by omega) (by decide)]
    have next : ∀ (I : am_I) (L : am_L) (h : Nat → Nat → Int32) (s : Nat), CS I L w1 h s → am_W (m_W n xs) 290 mc ms true (bc + 8 + 5 * f) (bs + 48 + 30 * f) 468 (lC Gn [(8, .int (nn k))]) [] Γ I L Q := by
      intro I L h s R
      refine aw_iinc (v := nn (k + 1)) (ls' := lC Gn [(8, .int (nn (k + 1)))]) dL_law_468 rfl (by rw [show Int32.ofInt 1 = nn 1 from rfl, nn_add]) (Nat.le_of_ble_eq_true rfl) rfl ?_
      refine aw_goto dL_law_471 rfl ?_
      exact ih (k + 1) _ _ w1 h s (by omega) R (v1.trans hG) i1
    refine aw_if_ne dL_law_456 rfl (fun _ => aw_bcs (by omega) (by omega) (next _ _ _ _ R1)) (fun _ => ?_)
    refine aw_aload_n dL_law_459 rfl ?_
    obtain ⟨I2, L2, E2, R2, -⟩ := eL_isSound (d := 0) hF R1 i1.1 (by omega)
    refine aw_askS (mc' := 4) (ms' := 24) (as := [.ref 0]) (rst := []) k_L_isSound l_L_308 t_L_isSound dL_law_460 rfl (Nat.le_of_ble_eq_true rfl) (by omega) (by omega) (E2.up (by decide)) rfl rfl ?_
    refine aw_if_ne dL_law_463 rfl (fun _ => ?_) (fun z => absurd z (by decide))
    exact aw_bcs (by omega) (by omega) (next _ _ _ _ R2)
/-- each gate's tree is a best one -/
theorem law_374 (fin : ∀ Γ I L, Q (.inl (some (.int 1))) Γ I L) (hn : n < 2147483648) (hF : wF Γ) (a450 : am_ar Γ 450 1 1 0) (hG : vG w = Gn) (hi : invW w 0) (hb : ∀ g, g < vG w → bstW w g) : ∀ f g (I : am_I) (L : am_L), g + f = Gn → CS I L w h s → am_W (m_W n xs) 290 mc ms true (bc + 8 + 5 * 24) (bs + 48 + 30 * 24) 374 (lC Gn [(8, .int (nn g))]) [] Γ I L Q := by
  intro f
  induction f with
  | zero =>
    intro g I L hg R
    have g4 := R.1.1.2.2.1.2
    obtain rfl : g = Gn := by omega
    refine aw_iload dL_law_374 rfl ?_
    refine aw_iload dL_law_376 rfl ?_
    refine aw_icmp_ge dL_law_378 rfl (fun _ => ?_) (fun z => absurd (Int32.le_refl _) z)
    refine aw_iconst (v := nn 0) dL_law_431 (by decide) ?_
    refine aw_istore (ls' := lC g [(8, .int (nn 0))]) dL_law_432 (Nat.le_of_ble_eq_true rfl) rfl ?_
    exact law_434 fin hn hF a450 24 0 I L w h s (by decide) R hG hi
  | succ f ih =>
    intro g I L hg R
    have ox := hF.1.1
    have g4 := R.1.1.2.2.1.2
    have hg2 : g < vG w := by omega
    obtain ⟨lm1, lm2⟩ := (R.1.1.2.2.2.2.2.2 g hg2).2.2.1
    obtain ⟨b1, b2, -, -⟩ := bst_facts R.1 hg2 (hb g hg2)
    refine aw_iload dL_law_374 rfl ?_
    refine aw_iload dL_law_376 rfl ?_
    refine aw_icmp_ge dL_law_378 rfl (fun z => absurd z (by rw [nn_le (by omega) (by omega)]; omega)) (fun _ => ?_)
    have cl : am_E m_L_costLimit 289 0 0 [.ref 0, .int (nn g)] Γ I L (.inl (some (.int (nn (lmW w g))))) I L := by
      rw [← lm1]
      exact (hL_costLimit ox (qX_costLimit (d := 0) hF R hg2)).up (by decide)
    refine aw_aload_n dL_law_381 rfl ?_
    refine aw_iload dL_law_382 rfl ?_
    refine aw_askSW (mc' := 0) (ms' := 0) (as := [.ref 0, .int (nn g)]) (rst := []) kw_L_errors (by decide) rfl l_L_175 t_L_errors dL_law_384 rfl (Nat.le_of_ble_eq_true rfl) (Nat.zero_le _) (Nat.zero_le _) ((hL_errors ox (qX_errors (d := 0) hF R hg2)).up (by decide)) rfl rfl ?_
    refine aw_aload_n dL_law_387 rfl ?_
    refine aw_iload dL_law_388 rfl ?_
    refine aw_aload_n dL_law_390 rfl ?_
    refine aw_iload dL_law_391 rfl ?_
    refine aw_askSW (mc' := 0) (ms' := 0) (as := [.ref 0, .int (nn g)]) (rst := [.int (nn g), .ref 0, .int (mErr w g (teW w g) (vT w))]) kw_L_costLimit (by decide) rfl l_L_194 t_L_costLimit dL_law_393 rfl (Nat.le_of_ble_eq_true rfl) (Nat.zero_le _) (Nat.zero_le _) cl rfl rfl ?_
    obtain ⟨I1, L1, E1, f1⟩ := qX_bestErrors (d := 0) hF R hg2 lm2
    have R1 := R.sol f1
    refine aw_askSW (mc' := 0) (ms' := 0) (as := [.ref 0, .int (nn g), .int (nn (lmW w g))]) (rst := [.int (mErr w g (teW w g) (vT w))]) kw_L_bestErrors (by decide) rfl l_L_192 t_L_bestErrors dL_law_396 rfl (Nat.le_of_ble_eq_true rfl) (Nat.zero_le _) (Nat.zero_le _) ((hL_bestErrors ox E1).up (by decide)) rfl rfl ?_
    refine aw_icmp_ne dL_law_399 rfl (fun z => absurd b1 z) (fun _ => ?_)
    have cl1 : am_E m_L_costLimit 289 0 0 [.ref 0, .int (nn g)] Γ I1 L1 (.inl (some (.int (nn (lmW w g))))) I1 L1 := by
      rw [← lm1]
      exact (hL_costLimit ox (qX_costLimit (d := 0) hF R1 hg2)).up (by decide)
    refine aw_aload_n dL_law_402 rfl ?_
    refine aw_iload dL_law_403 rfl ?_
    refine aw_askSW (mc' := 0) (ms' := 0) (as := [.ref 0, .int (nn g)]) (rst := []) kw_L_work (by decide) rfl l_L_177 t_L_work dL_law_405 rfl (Nat.le_of_ble_eq_true rfl) (Nat.zero_le _) (Nat.zero_le _) ((hL_work ox (qX_work (d := 0) hF R1 hg2)).up (by decide)) rfl rfl ?_
    refine aw_aload_n dL_law_408 rfl ?_
    refine aw_iload dL_law_409 rfl ?_
    refine aw_aload_n dL_law_411 rfl ?_
    refine aw_iload dL_law_412 rfl ?_
    refine aw_askSW (mc' := 0) (ms' := 0) (as := [.ref 0, .int (nn g)]) (rst := [.int (nn g), .ref 0, .int (mWrk w g (vT w) (teW w g))]) kw_L_costLimit (by decide) rfl l_L_194 t_L_costLimit dL_law_414 rfl (Nat.le_of_ble_eq_true rfl) (Nat.zero_le _) (Nat.zero_le _) cl1 rfl rfl ?_
    obtain ⟨I2, L2, E2, f2⟩ := qX_bestWork (d := 0) hF R1 hg2 lm2
    have R2 := R1.sol f2
    refine aw_askSW (mc' := 0) (ms' := 0) (as := [.ref 0, .int (nn g), .int (nn (lmW w g))]) (rst := [.int (mWrk w g (vT w) (teW w g))]) kw_L_bestWork (by decide) rfl l_L_201 t_L_bestWork dL_law_417 rfl (Nat.le_of_ble_eq_true rfl) (Nat.zero_le _) (Nat.zero_le _) ((hL_bestWork ox E2).up (by decide)) rfl rfl ?_
    refine aw_icmp_eq dL_law_420 rfl (fun _ => ?_) (fun z => absurd b2 z)
    refine aw_iinc (v := nn (g + 1)) (ls' := lC Gn [(8, .int (nn (g + 1)))]) dL_law_425 rfl (by rw [show Int32.ofInt 1 = nn 1 from rfl, nn_add]) (Nat.le_of_ble_eq_true rfl) rfl ?_
    refine aw_goto dL_law_428 rfl ?_
    exact ih (g + 1) I2 L2 (by omega) R2
end LWC
