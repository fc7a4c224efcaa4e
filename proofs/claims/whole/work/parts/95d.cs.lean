/-! THE LAW'S BODY: CASES 2 TO 19 -/
section LWC
variable {n k mc ms bc bs : Nat} {xs : Nat → Int32} {G Γ : am_G} {I : am_I} {L : am_L} {Q : am_Q}
theorem cs_2 (W : wld G Γ) (R : REL I L) (hk : 6 * k + 6 ≤ n) (hn : n ≤ 3072) (post : ∀ I' L', REL I' L' → am_W (m_W n xs) 282 mc ms true bc bs 3223 (lwL k) [] Γ I' L' Q) : am_W (m_W n xs) 282 mc ms true (bc + 1) (bs + 6) 437 (lwL k) [] Γ I L Q := by
  obtain ⟨I1, L1, I2, v, hC, hM, hR⟩ := dX_of W (fX_load W.F R)
  refine aw_aload_n dW_437 rfl ?_
  refine aw_askV (as := []) (rst := []) k_X8_load l_L_160 i_X8_load s_X8_load rfl W.ox dW_438 rfl (Nat.le_of_ble_eq_true rfl) (Nat.le_add_left _ _) (Nat.le_add_left _ _) hC rfl rfl ?_
  refine aw_aload_n dW_441 rfl ?_
  refine aw_askV (as := []) (rst := [.int v]) k_X9_load l_L_163 i_X9_load s_X9_load rfl W.m dW_442 rfl (Nat.le_of_ble_eq_true rfl) (Nat.zero_le _) (Nat.zero_le _) hM rfl rfl ?_
  refine aw_icmp_eq (tgt := 3223) dW_445 (by decide) (fun _ => ?_) (fun z => absurd rfl z)
  exact aw_less (Nat.le_of_eq (Nat.add_sub_cancel _ _).symm) (Nat.le_of_eq (Nat.add_sub_cancel _ _).symm) (post I2 L1 hR)
theorem cs_3 (W : wld G Γ) (R : REL I L) (hk : 6 * k + 6 ≤ n) (hn : n ≤ 3072) (post : ∀ I' L', REL I' L' → am_W (m_W n xs) 282 mc ms true bc bs 3223 (lwL k) [] Γ I' L' Q) : am_W (m_W n xs) 282 mc ms true (bc + 1) (bs + 6) 450 (lwL k) [] Γ I L Q := by
  obtain ⟨I1, L1, I2, v, hC, hM, hR⟩ := dX_of W (fX_play W.F R)
  refine aw_aload_n dW_450 rfl ?_
  refine aw_askV (as := []) (rst := []) k_X8_play l_L_164 i_X8_play s_X8_play rfl W.ox dW_451 rfl (Nat.le_of_ble_eq_true rfl) (Nat.le_add_left _ _) (Nat.le_add_left _ _) hC rfl rfl ?_
  refine aw_aload_n dW_454 rfl ?_
  refine aw_askV (as := []) (rst := [.int v]) k_X9_play l_L_167 i_X9_play s_X9_play rfl W.m dW_455 rfl (Nat.le_of_ble_eq_true rfl) (Nat.zero_le _) (Nat.zero_le _) hM rfl rfl ?_
  refine aw_icmp_eq (tgt := 3223) dW_458 (by decide) (fun _ => ?_) (fun z => absurd rfl z)
  exact aw_less (Nat.le_of_eq (Nat.add_sub_cancel _ _).symm) (Nat.le_of_eq (Nat.add_sub_cancel _ _).symm) (post I2 L1 hR)
theorem cs_4 (W : wld G Γ) (R : REL I L) (hk : 6 * k + 6 ≤ n) (hn : n ≤ 3072) (post : ∀ I' L', REL I' L' → am_W (m_W n xs) 282 mc ms true bc bs 3223 (lwL k) [] Γ I' L' Q) : am_W (m_W n xs) 282 mc ms true (bc + 1) (bs + 6) 463 (lwL k) [] Γ I L Q := by
  obtain ⟨I1, L1, I2, v, hC, hM, hR⟩ := dX_of W (fX_errorCode W.F R)
  refine aw_aload_n dW_463 rfl ?_
  refine aw_askV (as := []) (rst := []) k_X8_errorCode l_L_168 i_X8_errorCode s_X8_errorCode rfl W.ox dW_464 rfl (Nat.le_of_ble_eq_true rfl) (Nat.le_add_left _ _) (Nat.le_add_left _ _) hC rfl rfl ?_
  refine aw_aload_n dW_467 rfl ?_
  refine aw_askV (as := []) (rst := [.int v]) k_X9_errorCode l_L_171 i_X9_errorCode s_X9_errorCode rfl W.m dW_468 rfl (Nat.le_of_ble_eq_true rfl) (Nat.zero_le _) (Nat.zero_le _) hM rfl rfl ?_
  refine aw_icmp_eq (tgt := 3223) dW_471 (by decide) (fun _ => ?_) (fun z => absurd rfl z)
  exact aw_less (Nat.le_of_eq (Nat.add_sub_cancel _ _).symm) (Nat.le_of_eq (Nat.add_sub_cancel _ _).symm) (post I2 L1 hR)
theorem cs_5 (W : wld G Γ) (R : REL I L) (hk : 6 * k + 6 ≤ n) (hn : n ≤ 3072) (post : ∀ I' L', REL I' L' → am_W (m_W n xs) 282 mc ms true bc bs 3223 (lwL k) [] Γ I' L' Q) : am_W (m_W n xs) 282 mc ms true (bc + 1) (bs + 6) 476 (lwL k) [] Γ I L Q := by
  obtain ⟨I1, L1, I2, v, hC, hM, hR⟩ := dX_of W (fX_errorOffset W.F R)
  refine aw_aload_n dW_476 rfl ?_
  refine aw_askV (as := []) (rst := []) k_X8_errorOffset l_L_172 i_X8_errorOffset s_X8_errorOffset rfl W.ox dW_477 rfl (Nat.le_of_ble_eq_true rfl) (Nat.le_add_left _ _) (Nat.le_add_left _ _) hC rfl rfl ?_
  refine aw_aload_n dW_480 rfl ?_
  refine aw_askV (as := []) (rst := [.int v]) k_X9_errorOffset l_L_175 i_X9_errorOffset s_X9_errorOffset rfl W.m dW_481 rfl (Nat.le_of_ble_eq_true rfl) (Nat.zero_le _) (Nat.zero_le _) hM rfl rfl ?_
  refine aw_icmp_eq (tgt := 3223) dW_484 (by decide) (fun _ => ?_) (fun z => absurd rfl z)
  exact aw_less (Nat.le_of_eq (Nat.add_sub_cancel _ _).symm) (Nat.le_of_eq (Nat.add_sub_cancel _ _).symm) (post I2 L1 hR)
theorem cs_6 (W : wld G Γ) (R : REL I L) (hk : 6 * k + 6 ≤ n) (hn : n ≤ 3072) (post : ∀ I' L', REL I' L' → am_W (m_W n xs) 282 mc ms true bc bs 3223 (lwL k) [] Γ I' L' Q) : am_W (m_W n xs) 282 mc ms true (bc + 1) (bs + 6) 489 (lwL k) [] Γ I L Q := by
  obtain ⟨I1, L1, I2, c, v, hc3, hC, hM, hR, ht, h0⟩ := hx_passCarts W R (xs (nn (6 * k) + 1).toNatClampNeg) (xs (nn (6 * k) + 2).toNatClampNeg) (xs (nn (6 * k) + 3).toNatClampNeg)
  refine aw_aload_n dW_489 rfl ?_
  refine aw_aload_nT dW_490 rfl ?_
  refine aw_iload dW_491 rfl ?_
  refine aw_iconst dW_493 ci_1 ?_
  refine aw_iadd dW_494 ?_
  refine aw_sld rfl dW_495 (sa_in1 hk hn) ?_
  refine aw_aload_nT dW_496 rfl ?_
  refine aw_iload dW_497 rfl ?_
  refine aw_iconst dW_499 ci_2 ?_
  refine aw_iadd dW_500 ?_
  refine aw_sld rfl dW_501 (sa_in2 hk hn) ?_
  refine aw_aload_nT dW_502 rfl ?_
  refine aw_iload dW_503 rfl ?_
  refine aw_iconst dW_505 ci_3 ?_
  refine aw_iadd dW_506 ?_
  refine aw_sld rfl dW_507 (sa_in3 hk hn) ?_
  refine aw_aload_n dW_508 rfl ?_
  refine aw_askSW (as := [.ref 0, .int (xs (nn (6 * k) + 1).toNatClampNeg), .int (xs (nn (6 * k) + 2).toNatClampNeg), .int (xs (nn (6 * k) + 3).toNatClampNeg), .ref 463]) (rst := []) kw_L_passCarts (by decide) rfl l_L_176 t_L_passCarts dW_509 rfl (Nat.le_of_ble_eq_true rfl) (Nat.le_add_left _ _) (Nat.le_add_left _ _) hC rfl rfl ?_
  refine aw_istore (ls' := [(0, .retAddr 60), (1, .ref 0), (2, .ref 450), (3, .ref 463), (4, .ref 464), (5, .int (nn (6 * k))), (6, .int (nn c))]) dW_512 (show (6 : Nat) < 10 by decide) rfl ?_
  refine aw_aload_n dW_514 rfl ?_
  refine aw_aload_nT dW_515 rfl ?_
  refine aw_iload dW_516 rfl ?_
  refine aw_iconst dW_518 ci_1 ?_
  refine aw_iadd dW_519 ?_
  refine aw_sld rfl dW_520 (sa_in1 hk hn) ?_
  refine aw_aload_nT dW_521 rfl ?_
  refine aw_iload dW_522 rfl ?_
  refine aw_iconst dW_524 ci_2 ?_
  refine aw_iadd dW_525 ?_
  refine aw_sld rfl dW_526 (sa_in2 hk hn) ?_
  refine aw_aload_nT dW_527 rfl ?_
  refine aw_iload dW_528 rfl ?_
  refine aw_iconst dW_530 ci_3 ?_
  refine aw_iadd dW_531 ?_
  refine aw_sld rfl dW_532 (sa_in3 hk hn) ?_
  refine aw_askV (as := [.int (xs (nn (6 * k) + 1).toNatClampNeg), .int (xs (nn (6 * k) + 2).toNatClampNeg), .int (xs (nn (6 * k) + 3).toNatClampNeg)]) (rst := []) k_X9_passCarts l_L_179 i_X9_passCarts s_X9_passCarts rfl W.m dW_533 rfl (Nat.le_of_ble_eq_true rfl) (Nat.zero_le _) (Nat.zero_le _) hM rfl rfl ?_
  refine aw_istore (ls' := [(0, .retAddr 60), (1, .ref 0), (2, .ref 450), (3, .ref 463), (4, .ref 464), (5, .int (nn (6 * k))), (6, .int (nn c)), (7, .int v)]) dW_536 (show (7 : Nat) < 10 by decide) rfl ?_
  refine aw_aload_n dW_538 rfl ?_
  refine aw_askV (as := []) (rst := []) k_X9_thrown l_L_157 i_X9_thrown s_X9_thrown rfl W.m dW_539 rfl (Nat.le_of_ble_eq_true rfl) (Nat.zero_le _) (Nat.zero_le _) (eXW_thrown W.m) rfl rfl ?_
  refine aw_iload dW_542 rfl ?_
  refine aw_icmp_eq (tgt := 549) dW_544 (by decide) (fun _ => ?_) (fun z => absurd ht z)
  refine aw_iload dW_549 rfl ?_
  have fin : am_W (m_W n xs) 282 mc ms true (bc + 1 - 1 - 0 - 0) (bs + 6 - 6 - 0 - 0) 566 ([(0, .retAddr 60), (1, .ref 0), (2, .ref 450), (3, .ref 463), (4, .ref 464), (5, .int (nn (6 * k))), (6, .int (nn c)), (7, .int v)]) [] Γ I2 L1 Q := by
    refine aw_goto (tgt := 3223) dW_566 (by decide) ?_
    refine aw_ls (ls' := lwL k) (fun q hq => List.mem_append_left [(6, _), (7, _)] hq) ?_
    exact aw_less (by omega) (by omega) (post I2 L1 hR)
  refine aw_if_ne (tgt := 566) dW_551 (by decide) (fun _ => fin) (fun z => ?_)
  have hv := h0 ((nn0_iff hc3).mp z)
  refine aw_aload_n dW_554 rfl ?_
  refine aw_iconst dW_555 ci_0 ?_
  refine aw_lald dW_556 W.a (nn_in (k := 0) (by decide) (by decide)) ?_
  rw [c0, hv]
  refine aw_iload dW_557 rfl ?_
  refine aw_i2l dW_559 ?_
  refine aw_lcmp dW_560 ?_
  exact aw_if_eq (tgt := 566) dW_561 (by decide) (fun _ => fin) (fun z2 => absurd (lgc_eq.mpr rfl) z2)
theorem cs_7 (W : wld G Γ) (R : REL I L) (hk : 6 * k + 6 ≤ n) (hn : n ≤ 3072) (post : ∀ I' L', REL I' L' → am_W (m_W n xs) 282 mc ms true bc bs 3223 (lwL k) [] Γ I' L' Q) : am_W (m_W n xs) 282 mc ms true (bc + 1) (bs + 6) 569 (lwL k) [] Γ I L Q := by
  obtain ⟨I1, L1, I2, c, v, hc3, hC, hM, hR, ht, h0⟩ := hx_buildTree W R (xs (nn (6 * k) + 1).toNatClampNeg)
  refine aw_aload_n dW_569 rfl ?_
  refine aw_aload_nT dW_570 rfl ?_
  refine aw_iload dW_571 rfl ?_
  refine aw_iconst dW_573 ci_1 ?_
  refine aw_iadd dW_574 ?_
  refine aw_sld rfl dW_575 (sa_in1 hk hn) ?_
  refine aw_aload_n dW_576 rfl ?_
  refine aw_askSW (as := [.ref 0, .int (xs (nn (6 * k) + 1).toNatClampNeg), .ref 463]) (rst := []) kw_L_buildTree (by decide) rfl l_L_180 t_L_buildTree dW_577 rfl (Nat.le_of_ble_eq_true rfl) (Nat.le_add_left _ _) (Nat.le_add_left _ _) hC rfl rfl ?_
  refine aw_istore (ls' := [(0, .retAddr 60), (1, .ref 0), (2, .ref 450), (3, .ref 463), (4, .ref 464), (5, .int (nn (6 * k))), (6, .int (nn c))]) dW_580 (show (6 : Nat) < 10 by decide) rfl ?_
  refine aw_aload_n dW_582 rfl ?_
  refine aw_aload_nT dW_583 rfl ?_
  refine aw_iload dW_584 rfl ?_
  refine aw_iconst dW_586 ci_1 ?_
  refine aw_iadd dW_587 ?_
  refine aw_sld rfl dW_588 (sa_in1 hk hn) ?_
  refine aw_askV (as := [.int (xs (nn (6 * k) + 1).toNatClampNeg)]) (rst := []) k_X9_buildTree l_L_182 i_X9_buildTree s_X9_buildTree rfl W.m dW_589 rfl (Nat.le_of_ble_eq_true rfl) (Nat.zero_le _) (Nat.zero_le _) hM rfl rfl ?_
  refine aw_istore (ls' := [(0, .retAddr 60), (1, .ref 0), (2, .ref 450), (3, .ref 463), (4, .ref 464), (5, .int (nn (6 * k))), (6, .int (nn c)), (7, .int v)]) dW_592 (show (7 : Nat) < 10 by decide) rfl ?_
  refine aw_aload_n dW_594 rfl ?_
  refine aw_askV (as := []) (rst := []) k_X9_thrown l_L_157 i_X9_thrown s_X9_thrown rfl W.m dW_595 rfl (Nat.le_of_ble_eq_true rfl) (Nat.zero_le _) (Nat.zero_le _) (eXW_thrown W.m) rfl rfl ?_
  refine aw_iload dW_598 rfl ?_
  refine aw_icmp_eq (tgt := 605) dW_600 (by decide) (fun _ => ?_) (fun z => absurd ht z)
  refine aw_iload dW_605 rfl ?_
  have fin : am_W (m_W n xs) 282 mc ms true (bc + 1 - 1 - 0 - 0) (bs + 6 - 6 - 0 - 0) 622 ([(0, .retAddr 60), (1, .ref 0), (2, .ref 450), (3, .ref 463), (4, .ref 464), (5, .int (nn (6 * k))), (6, .int (nn c)), (7, .int v)]) [] Γ I2 L1 Q := by
    refine aw_goto (tgt := 3223) dW_622 (by decide) ?_
    refine aw_ls (ls' := lwL k) (fun q hq => List.mem_append_left [(6, _), (7, _)] hq) ?_
    exact aw_less (by omega) (by omega) (post I2 L1 hR)
  refine aw_if_ne (tgt := 622) dW_607 (by decide) (fun _ => fin) (fun z => ?_)
  have hv := h0 ((nn0_iff hc3).mp z)
  refine aw_aload_n dW_610 rfl ?_
  refine aw_iconst dW_611 ci_0 ?_
  refine aw_lald dW_612 W.a (nn_in (k := 0) (by decide) (by decide)) ?_
  rw [c0, hv]
  refine aw_iload dW_613 rfl ?_
  refine aw_i2l dW_615 ?_
  refine aw_lcmp dW_616 ?_
  exact aw_if_eq (tgt := 622) dW_617 (by decide) (fun _ => fin) (fun z2 => absurd (lgc_eq.mpr rfl) z2)
theorem cs_8 (W : wld G Γ) (R : REL I L) (hk : 6 * k + 6 ≤ n) (hn : n ≤ 3072) (post : ∀ I' L', REL I' L' → am_W (m_W n xs) 282 mc ms true bc bs 3223 (lwL k) [] Γ I' L' Q) : am_W (m_W n xs) 282 mc ms true (bc + 1) (bs + 6) 625 (lwL k) [] Γ I L Q := by
  obtain ⟨I1, L1, I2, c, v, hc3, hC, hM, hR, ht, h0⟩ := hx_halveCounts W R (xs (nn (6 * k) + 1).toNatClampNeg)
  refine aw_aload_n dW_625 rfl ?_
  refine aw_aload_nT dW_626 rfl ?_
  refine aw_iload dW_627 rfl ?_
  refine aw_iconst dW_629 ci_1 ?_
  refine aw_iadd dW_630 ?_
  refine aw_sld rfl dW_631 (sa_in1 hk hn) ?_
  refine aw_aload_n dW_632 rfl ?_
  refine aw_askSW (as := [.ref 0, .int (xs (nn (6 * k) + 1).toNatClampNeg), .ref 463]) (rst := []) kw_L_halveCounts (by decide) rfl l_L_183 t_L_halveCounts dW_633 rfl (Nat.le_of_ble_eq_true rfl) (Nat.le_add_left _ _) (Nat.le_add_left _ _) hC rfl rfl ?_
  refine aw_istore (ls' := [(0, .retAddr 60), (1, .ref 0), (2, .ref 450), (3, .ref 463), (4, .ref 464), (5, .int (nn (6 * k))), (6, .int (nn c))]) dW_636 (show (6 : Nat) < 10 by decide) rfl ?_
  refine aw_aload_n dW_638 rfl ?_
  refine aw_aload_nT dW_639 rfl ?_
  refine aw_iload dW_640 rfl ?_
  refine aw_iconst dW_642 ci_1 ?_
  refine aw_iadd dW_643 ?_
  refine aw_sld rfl dW_644 (sa_in1 hk hn) ?_
  refine aw_askV (as := [.int (xs (nn (6 * k) + 1).toNatClampNeg)]) (rst := []) k_X9_halveCounts l_L_185 i_X9_halveCounts s_X9_halveCounts rfl W.m dW_645 rfl (Nat.le_of_ble_eq_true rfl) (Nat.zero_le _) (Nat.zero_le _) hM rfl rfl ?_
  refine aw_istore (ls' := [(0, .retAddr 60), (1, .ref 0), (2, .ref 450), (3, .ref 463), (4, .ref 464), (5, .int (nn (6 * k))), (6, .int (nn c)), (7, .int v)]) dW_648 (show (7 : Nat) < 10 by decide) rfl ?_
  refine aw_aload_n dW_650 rfl ?_
  refine aw_askV (as := []) (rst := []) k_X9_thrown l_L_157 i_X9_thrown s_X9_thrown rfl W.m dW_651 rfl (Nat.le_of_ble_eq_true rfl) (Nat.zero_le _) (Nat.zero_le _) (eXW_thrown W.m) rfl rfl ?_
  refine aw_iload dW_654 rfl ?_
  refine aw_icmp_eq (tgt := 661) dW_656 (by decide) (fun _ => ?_) (fun z => absurd ht z)
  refine aw_iload dW_661 rfl ?_
  have fin : am_W (m_W n xs) 282 mc ms true (bc + 1 - 1 - 0 - 0) (bs + 6 - 6 - 0 - 0) 678 ([(0, .retAddr 60), (1, .ref 0), (2, .ref 450), (3, .ref 463), (4, .ref 464), (5, .int (nn (6 * k))), (6, .int (nn c)), (7, .int v)]) [] Γ I2 L1 Q := by
    refine aw_goto (tgt := 3223) dW_678 (by decide) ?_
    refine aw_ls (ls' := lwL k) (fun q hq => List.mem_append_left [(6, _), (7, _)] hq) ?_
    exact aw_less (by omega) (by omega) (post I2 L1 hR)
  refine aw_if_ne (tgt := 678) dW_663 (by decide) (fun _ => fin) (fun z => ?_)
  have hv := h0 ((nn0_iff hc3).mp z)
  refine aw_aload_n dW_666 rfl ?_
  refine aw_iconst dW_667 ci_0 ?_
  refine aw_lald dW_668 W.a (nn_in (k := 0) (by decide) (by decide)) ?_
  rw [c0, hv]
  refine aw_iload dW_669 rfl ?_
  refine aw_i2l dW_671 ?_
  refine aw_lcmp dW_672 ?_
  exact aw_if_eq (tgt := 678) dW_673 (by decide) (fun _ => fin) (fun z2 => absurd (lgc_eq.mpr rfl) z2)
theorem cs_9 (W : wld G Γ) (R : REL I L) (hk : 6 * k + 6 ≤ n) (hn : n ≤ 3072) (post : ∀ I' L', REL I' L' → am_W (m_W n xs) 282 mc ms true bc bs 3223 (lwL k) [] Γ I' L' Q) : am_W (m_W n xs) 282 mc ms true (bc + 1) (bs + 6) 681 (lwL k) [] Γ I L Q := by
  obtain ⟨I1, L1, I2, c, v, hc3, hC, hM, hR, ht, h0⟩ := hx_setToll W R (xs (nn (6 * k) + 1).toNatClampNeg) (xs (nn (6 * k) + 2).toNatClampNeg)
  refine aw_aload_n dW_681 rfl ?_
  refine aw_aload_nT dW_682 rfl ?_
  refine aw_iload dW_683 rfl ?_
  refine aw_iconst dW_685 ci_1 ?_
  refine aw_iadd dW_686 ?_
  refine aw_sld rfl dW_687 (sa_in1 hk hn) ?_
  refine aw_aload_nT dW_688 rfl ?_
  refine aw_iload dW_689 rfl ?_
  refine aw_iconst dW_691 ci_2 ?_
  refine aw_iadd dW_692 ?_
  refine aw_sld rfl dW_693 (sa_in2 hk hn) ?_
  refine aw_aload_n dW_694 rfl ?_
  refine aw_askSW (as := [.ref 0, .int (xs (nn (6 * k) + 1).toNatClampNeg), .int (xs (nn (6 * k) + 2).toNatClampNeg), .ref 463]) (rst := []) kw_L_setToll (by decide) rfl l_L_186 t_L_setToll dW_695 rfl (Nat.le_of_ble_eq_true rfl) (Nat.le_add_left _ _) (Nat.le_add_left _ _) hC rfl rfl ?_
  refine aw_istore (ls' := [(0, .retAddr 60), (1, .ref 0), (2, .ref 450), (3, .ref 463), (4, .ref 464), (5, .int (nn (6 * k))), (6, .int (nn c))]) dW_698 (show (6 : Nat) < 10 by decide) rfl ?_
  refine aw_aload_n dW_700 rfl ?_
  refine aw_aload_nT dW_701 rfl ?_
  refine aw_iload dW_702 rfl ?_
  refine aw_iconst dW_704 ci_1 ?_
  refine aw_iadd dW_705 ?_
  refine aw_sld rfl dW_706 (sa_in1 hk hn) ?_
  refine aw_aload_nT dW_707 rfl ?_
  refine aw_iload dW_708 rfl ?_
  refine aw_iconst dW_710 ci_2 ?_
  refine aw_iadd dW_711 ?_
  refine aw_sld rfl dW_712 (sa_in2 hk hn) ?_
  refine aw_askV (as := [.int (xs (nn (6 * k) + 1).toNatClampNeg), .int (xs (nn (6 * k) + 2).toNatClampNeg)]) (rst := []) k_X9_setToll l_L_189 i_X9_setToll s_X9_setToll rfl W.m dW_713 rfl (Nat.le_of_ble_eq_true rfl) (Nat.zero_le _) (Nat.zero_le _) hM rfl rfl ?_
  refine aw_istore (ls' := [(0, .retAddr 60), (1, .ref 0), (2, .ref 450), (3, .ref 463), (4, .ref 464), (5, .int (nn (6 * k))), (6, .int (nn c)), (7, .int v)]) dW_716 (show (7 : Nat) < 10 by decide) rfl ?_
  refine aw_aload_n dW_718 rfl ?_
  refine aw_askV (as := []) (rst := []) k_X9_thrown l_L_157 i_X9_thrown s_X9_thrown rfl W.m dW_719 rfl (Nat.le_of_ble_eq_true rfl) (Nat.zero_le _) (Nat.zero_le _) (eXW_thrown W.m) rfl rfl ?_
  refine aw_iload dW_722 rfl ?_
  refine aw_icmp_eq (tgt := 729) dW_724 (by decide) (fun _ => ?_) (fun z => absurd ht z)
  refine aw_iload dW_729 rfl ?_
  have fin : am_W (m_W n xs) 282 mc ms true (bc + 1 - 1 - 0 - 0) (bs + 6 - 6 - 0 - 0) 746 ([(0, .retAddr 60), (1, .ref 0), (2, .ref 450), (3, .ref 463), (4, .ref 464), (5, .int (nn (6 * k))), (6, .int (nn c)), (7, .int v)]) [] Γ I2 L1 Q := by
    refine aw_goto (tgt := 3223) dW_746 (by decide) ?_
    refine aw_ls (ls' := lwL k) (fun q hq => List.mem_append_left [(6, _), (7, _)] hq) ?_
    exact aw_less (by omega) (by omega) (post I2 L1 hR)
  refine aw_if_ne (tgt := 746) dW_731 (by decide) (fun _ => fin) (fun z => ?_)
  have hv := h0 ((nn0_iff hc3).mp z)
  refine aw_aload_n dW_734 rfl ?_
  refine aw_iconst dW_735 ci_0 ?_
  refine aw_lald dW_736 W.a (nn_in (k := 0) (by decide) (by decide)) ?_
  rw [c0, hv]
  refine aw_iload dW_737 rfl ?_
  refine aw_i2l dW_739 ?_
  refine aw_lcmp dW_740 ?_
  exact aw_if_eq (tgt := 746) dW_741 (by decide) (fun _ => fin) (fun z2 => absurd (lgc_eq.mpr rfl) z2)
theorem cs_10 (W : wld G Γ) (R : REL I L) (hk : 6 * k + 6 ≤ n) (hn : n ≤ 3072) (post : ∀ I' L', REL I' L' → am_W (m_W n xs) 282 mc ms true bc bs 3223 (lwL k) [] Γ I' L' Q) : am_W (m_W n xs) 282 mc ms true (bc + 1) (bs + 6) 749 (lwL k) [] Γ I L Q := by
  obtain ⟨I1, L1, I2, c, v, hc3, hC, hM, hR, ht, h0⟩ := hx_setCostLimit W R (xs (nn (6 * k) + 1).toNatClampNeg) (xs (nn (6 * k) + 2).toNatClampNeg)
  refine aw_aload_n dW_749 rfl ?_
  refine aw_aload_nT dW_750 rfl ?_
  refine aw_iload dW_751 rfl ?_
  refine aw_iconst dW_753 ci_1 ?_
  refine aw_iadd dW_754 ?_
  refine aw_sld rfl dW_755 (sa_in1 hk hn) ?_
  refine aw_aload_nT dW_756 rfl ?_
  refine aw_iload dW_757 rfl ?_
  refine aw_iconst dW_759 ci_2 ?_
  refine aw_iadd dW_760 ?_
  refine aw_sld rfl dW_761 (sa_in2 hk hn) ?_
  refine aw_aload_n dW_762 rfl ?_
  refine aw_askSW (as := [.ref 0, .int (xs (nn (6 * k) + 1).toNatClampNeg), .int (xs (nn (6 * k) + 2).toNatClampNeg), .ref 463]) (rst := []) kw_L_setCostLimit (by decide) rfl l_L_190 t_L_setCostLimit dW_763 rfl (Nat.le_of_ble_eq_true rfl) (Nat.le_add_left _ _) (Nat.le_add_left _ _) hC rfl rfl ?_
  refine aw_istore (ls' := [(0, .retAddr 60), (1, .ref 0), (2, .ref 450), (3, .ref 463), (4, .ref 464), (5, .int (nn (6 * k))), (6, .int (nn c))]) dW_766 (show (6 : Nat) < 10 by decide) rfl ?_
  refine aw_aload_n dW_768 rfl ?_
  refine aw_aload_nT dW_769 rfl ?_
  refine aw_iload dW_770 rfl ?_
  refine aw_iconst dW_772 ci_1 ?_
  refine aw_iadd dW_773 ?_
  refine aw_sld rfl dW_774 (sa_in1 hk hn) ?_
  refine aw_aload_nT dW_775 rfl ?_
  refine aw_iload dW_776 rfl ?_
  refine aw_iconst dW_778 ci_2 ?_
  refine aw_iadd dW_779 ?_
  refine aw_sld rfl dW_780 (sa_in2 hk hn) ?_
  refine aw_askV (as := [.int (xs (nn (6 * k) + 1).toNatClampNeg), .int (xs (nn (6 * k) + 2).toNatClampNeg)]) (rst := []) k_X9_setCostLimit l_L_192 i_X9_setCostLimit s_X9_setCostLimit rfl W.m dW_781 rfl (Nat.le_of_ble_eq_true rfl) (Nat.zero_le _) (Nat.zero_le _) hM rfl rfl ?_
  refine aw_istore (ls' := [(0, .retAddr 60), (1, .ref 0), (2, .ref 450), (3, .ref 463), (4, .ref 464), (5, .int (nn (6 * k))), (6, .int (nn c)), (7, .int v)]) dW_784 (show (7 : Nat) < 10 by decide) rfl ?_
  refine aw_aload_n dW_786 rfl ?_
  refine aw_askV (as := []) (rst := []) k_X9_thrown l_L_157 i_X9_thrown s_X9_thrown rfl W.m dW_787 rfl (Nat.le_of_ble_eq_true rfl) (Nat.zero_le _) (Nat.zero_le _) (eXW_thrown W.m) rfl rfl ?_
  refine aw_iload dW_790 rfl ?_
  refine aw_icmp_eq (tgt := 797) dW_792 (by decide) (fun _ => ?_) (fun z => absurd ht z)
  refine aw_iload dW_797 rfl ?_
  have fin : am_W (m_W n xs) 282 mc ms true (bc + 1 - 1 - 0 - 0) (bs + 6 - 6 - 0 - 0) 814 ([(0, .retAddr 60), (1, .ref 0), (2, .ref 450), (3, .ref 463), (4, .ref 464), (5, .int (nn (6 * k))), (6, .int (nn c)), (7, .int v)]) [] Γ I2 L1 Q := by
    refine aw_goto (tgt := 3223) dW_814 (by decide) ?_
    refine aw_ls (ls' := lwL k) (fun q hq => List.mem_append_left [(6, _), (7, _)] hq) ?_
    exact aw_less (by omega) (by omega) (post I2 L1 hR)
  refine aw_if_ne (tgt := 814) dW_799 (by decide) (fun _ => fin) (fun z => ?_)
  have hv := h0 ((nn0_iff hc3).mp z)
  refine aw_aload_n dW_802 rfl ?_
  refine aw_iconst dW_803 ci_0 ?_
  refine aw_lald dW_804 W.a (nn_in (k := 0) (by decide) (by decide)) ?_
  rw [c0, hv]
  refine aw_iload dW_805 rfl ?_
  refine aw_i2l dW_807 ?_
  refine aw_lcmp dW_808 ?_
  exact aw_if_eq (tgt := 814) dW_809 (by decide) (fun _ => fin) (fun z2 => absurd (lgc_eq.mpr rfl) z2)
theorem cs_11 (W : wld G Γ) (R : REL I L) (hk : 6 * k + 6 ≤ n) (hn : n ≤ 3072) (post : ∀ I' L', REL I' L' → am_W (m_W n xs) 282 mc ms true bc bs 3223 (lwL k) [] Γ I' L' Q) : am_W (m_W n xs) 282 mc ms true (bc + 1) (bs + 6) 817 (lwL k) [] Γ I L Q := by
  obtain ⟨I1, L1, I2, c, v, hc3, hC, hM, hR, ht, h0⟩ := hx_advanceClock W R (xs (nn (6 * k) + 1).toNatClampNeg)
  refine aw_aload_n dW_817 rfl ?_
  refine aw_aload_nT dW_818 rfl ?_
  refine aw_iload dW_819 rfl ?_
  refine aw_iconst dW_821 ci_1 ?_
  refine aw_iadd dW_822 ?_
  refine aw_sld rfl dW_823 (sa_in1 hk hn) ?_
  refine aw_aload_n dW_824 rfl ?_
  refine aw_askSW (as := [.ref 0, .int (xs (nn (6 * k) + 1).toNatClampNeg), .ref 463]) (rst := []) kw_L_advanceClock (by decide) rfl l_L_193 t_L_advanceClock dW_825 rfl (Nat.le_of_ble_eq_true rfl) (Nat.le_add_left _ _) (Nat.le_add_left _ _) hC rfl rfl ?_
  refine aw_istore (ls' := [(0, .retAddr 60), (1, .ref 0), (2, .ref 450), (3, .ref 463), (4, .ref 464), (5, .int (nn (6 * k))), (6, .int (nn c))]) dW_828 (show (6 : Nat) < 10 by decide) rfl ?_
  refine aw_aload_n dW_830 rfl ?_
  refine aw_aload_nT dW_831 rfl ?_
  refine aw_iload dW_832 rfl ?_
  refine aw_iconst dW_834 ci_1 ?_
  refine aw_iadd dW_835 ?_
  refine aw_sld rfl dW_836 (sa_in1 hk hn) ?_
  refine aw_askV (as := [.int (xs (nn (6 * k) + 1).toNatClampNeg)]) (rst := []) k_X9_advanceClock l_L_195 i_X9_advanceClock s_X9_advanceClock rfl W.m dW_837 rfl (Nat.le_of_ble_eq_true rfl) (Nat.zero_le _) (Nat.zero_le _) hM rfl rfl ?_
  refine aw_istore (ls' := [(0, .retAddr 60), (1, .ref 0), (2, .ref 450), (3, .ref 463), (4, .ref 464), (5, .int (nn (6 * k))), (6, .int (nn c)), (7, .int v)]) dW_840 (show (7 : Nat) < 10 by decide) rfl ?_
  refine aw_aload_n dW_842 rfl ?_
  refine aw_askV (as := []) (rst := []) k_X9_thrown l_L_157 i_X9_thrown s_X9_thrown rfl W.m dW_843 rfl (Nat.le_of_ble_eq_true rfl) (Nat.zero_le _) (Nat.zero_le _) (eXW_thrown W.m) rfl rfl ?_
  refine aw_iload dW_846 rfl ?_
  refine aw_icmp_eq (tgt := 853) dW_848 (by decide) (fun _ => ?_) (fun z => absurd ht z)
  refine aw_iload dW_853 rfl ?_
  have fin : am_W (m_W n xs) 282 mc ms true (bc + 1 - 1 - 0 - 0) (bs + 6 - 6 - 0 - 0) 870 ([(0, .retAddr 60), (1, .ref 0), (2, .ref 450), (3, .ref 463), (4, .ref 464), (5, .int (nn (6 * k))), (6, .int (nn c)), (7, .int v)]) [] Γ I2 L1 Q := by
    refine aw_goto (tgt := 3223) dW_870 (by decide) ?_
    refine aw_ls (ls' := lwL k) (fun q hq => List.mem_append_left [(6, _), (7, _)] hq) ?_
    exact aw_less (by omega) (by omega) (post I2 L1 hR)
  refine aw_if_ne (tgt := 870) dW_855 (by decide) (fun _ => fin) (fun z => ?_)
  have hv := h0 ((nn0_iff hc3).mp z)
  refine aw_aload_n dW_858 rfl ?_
  refine aw_iconst dW_859 ci_0 ?_
  refine aw_lald dW_860 W.a (nn_in (k := 0) (by decide) (by decide)) ?_
  rw [c0, hv]
  refine aw_iload dW_861 rfl ?_
  refine aw_i2l dW_863 ?_
  refine aw_lcmp dW_864 ?_
  exact aw_if_eq (tgt := 870) dW_865 (by decide) (fun _ => fin) (fun z2 => absurd (lgc_eq.mpr rfl) z2)
theorem cs_12 (W : wld G Γ) (R : REL I L) (hk : 6 * k + 6 ≤ n) (hn : n ≤ 3072) (post : ∀ I' L', REL I' L' → am_W (m_W n xs) 282 mc ms true bc bs 3223 (lwL k) [] Γ I' L' Q) : am_W (m_W n xs) 282 mc ms true (bc + 1) (bs + 6) 873 (lwL k) [] Γ I L Q := by
  obtain ⟨I1, L1, I2, c, v, hc3, hC, hM, hR, ht, h0⟩ := hx_undo W R
  refine aw_aload_n dW_873 rfl ?_
  refine aw_aload_n dW_874 rfl ?_
  refine aw_askSW (as := [.ref 0, .ref 463]) (rst := []) kw_L_undo (by decide) rfl l_L_196 t_L_undo dW_875 rfl (Nat.le_of_ble_eq_true rfl) (Nat.le_add_left _ _) (Nat.le_add_left _ _) hC rfl rfl ?_
  refine aw_istore (ls' := [(0, .retAddr 60), (1, .ref 0), (2, .ref 450), (3, .ref 463), (4, .ref 464), (5, .int (nn (6 * k))), (6, .int (nn c))]) dW_878 (show (6 : Nat) < 10 by decide) rfl ?_
  refine aw_aload_n dW_880 rfl ?_
  refine aw_askV (as := []) (rst := []) k_X9_undo l_L_199 i_X9_undo s_X9_undo rfl W.m dW_881 rfl (Nat.le_of_ble_eq_true rfl) (Nat.zero_le _) (Nat.zero_le _) hM rfl rfl ?_
  refine aw_istore (ls' := [(0, .retAddr 60), (1, .ref 0), (2, .ref 450), (3, .ref 463), (4, .ref 464), (5, .int (nn (6 * k))), (6, .int (nn c)), (7, .int v)]) dW_884 (show (7 : Nat) < 10 by decide) rfl ?_
  refine aw_aload_n dW_886 rfl ?_
  refine aw_askV (as := []) (rst := []) k_X9_thrown l_L_157 i_X9_thrown s_X9_thrown rfl W.m dW_887 rfl (Nat.le_of_ble_eq_true rfl) (Nat.zero_le _) (Nat.zero_le _) (eXW_thrown W.m) rfl rfl ?_
  refine aw_iload dW_890 rfl ?_
  refine aw_icmp_eq (tgt := 897) dW_892 (by decide) (fun _ => ?_) (fun z => absurd ht z)
  refine aw_iload dW_897 rfl ?_
  have fin : am_W (m_W n xs) 282 mc ms true (bc + 1 - 1 - 0 - 0) (bs + 6 - 6 - 0 - 0) 914 ([(0, .retAddr 60), (1, .ref 0), (2, .ref 450), (3, .ref 463), (4, .ref 464), (5, .int (nn (6 * k))), (6, .int (nn c)), (7, .int v)]) [] Γ I2 L1 Q := by
    refine aw_goto (tgt := 3223) dW_914 (by decide) ?_
    refine aw_ls (ls' := lwL k) (fun q hq => List.mem_append_left [(6, _), (7, _)] hq) ?_
    exact aw_less (by omega) (by omega) (post I2 L1 hR)
  refine aw_if_ne (tgt := 914) dW_899 (by decide) (fun _ => fin) (fun z => ?_)
  have hv := h0 ((nn0_iff hc3).mp z)
  refine aw_aload_n dW_902 rfl ?_
  refine aw_iconst dW_903 ci_0 ?_
  refine aw_lald dW_904 W.a (nn_in (k := 0) (by decide) (by decide)) ?_
  rw [c0, hv]
  refine aw_iload dW_905 rfl ?_
  refine aw_i2l dW_907 ?_
  refine aw_lcmp dW_908 ?_
  exact aw_if_eq (tgt := 914) dW_909 (by decide) (fun _ => fin) (fun z2 => absurd (lgc_eq.mpr rfl) z2)
theorem cs_13 (W : wld G Γ) (R : REL I L) (hk : 6 * k + 6 ≤ n) (hn : n ≤ 3072) (post : ∀ I' L', REL I' L' → am_W (m_W n xs) 282 mc ms true bc bs 3223 (lwL k) [] Γ I' L' Q) : am_W (m_W n xs) 282 mc ms true (bc + 1) (bs + 6) 917 (lwL k) [] Γ I L Q := by
  obtain ⟨I1, L1, I2, c, v, hc3, hC, hM, hR, ht, h0⟩ := hx_save W R (xs (nn (6 * k) + 1).toNatClampNeg)
  refine aw_aload_n dW_917 rfl ?_
  refine aw_aload_nT dW_918 rfl ?_
  refine aw_iload dW_919 rfl ?_
  refine aw_iconst dW_921 ci_1 ?_
  refine aw_iadd dW_922 ?_
  refine aw_sld rfl dW_923 (sa_in1 hk hn) ?_
  refine aw_aload_n dW_924 rfl ?_
  refine aw_askSW (as := [.ref 0, .int (xs (nn (6 * k) + 1).toNatClampNeg), .ref 463]) (rst := []) kw_L_save (by decide) rfl l_L_200 t_L_save dW_925 rfl (Nat.le_of_ble_eq_true rfl) (Nat.le_add_left _ _) (Nat.le_add_left _ _) hC rfl rfl ?_
  refine aw_istore (ls' := [(0, .retAddr 60), (1, .ref 0), (2, .ref 450), (3, .ref 463), (4, .ref 464), (5, .int (nn (6 * k))), (6, .int (nn c))]) dW_928 (show (6 : Nat) < 10 by decide) rfl ?_
  refine aw_aload_n dW_930 rfl ?_
  refine aw_aload_nT dW_931 rfl ?_
  refine aw_iload dW_932 rfl ?_
  refine aw_iconst dW_934 ci_1 ?_
  refine aw_iadd dW_935 ?_
  refine aw_sld rfl dW_936 (sa_in1 hk hn) ?_
  refine aw_askV (as := [.int (xs (nn (6 * k) + 1).toNatClampNeg)]) (rst := []) k_X9_save l_L_202 i_X9_save s_X9_save rfl W.m dW_937 rfl (Nat.le_of_ble_eq_true rfl) (Nat.zero_le _) (Nat.zero_le _) hM rfl rfl ?_
  refine aw_istore (ls' := [(0, .retAddr 60), (1, .ref 0), (2, .ref 450), (3, .ref 463), (4, .ref 464), (5, .int (nn (6 * k))), (6, .int (nn c)), (7, .int v)]) dW_940 (show (7 : Nat) < 10 by decide) rfl ?_
  refine aw_aload_n dW_942 rfl ?_
  refine aw_askV (as := []) (rst := []) k_X9_thrown l_L_157 i_X9_thrown s_X9_thrown rfl W.m dW_943 rfl (Nat.le_of_ble_eq_true rfl) (Nat.zero_le _) (Nat.zero_le _) (eXW_thrown W.m) rfl rfl ?_
  refine aw_iload dW_946 rfl ?_
  refine aw_icmp_eq (tgt := 953) dW_948 (by decide) (fun _ => ?_) (fun z => absurd ht z)
  refine aw_iload dW_953 rfl ?_
  have fin : am_W (m_W n xs) 282 mc ms true (bc + 1 - 1 - 0 - 0) (bs + 6 - 6 - 0 - 0) 970 ([(0, .retAddr 60), (1, .ref 0), (2, .ref 450), (3, .ref 463), (4, .ref 464), (5, .int (nn (6 * k))), (6, .int (nn c)), (7, .int v)]) [] Γ I2 L1 Q := by
    refine aw_goto (tgt := 3223) dW_970 (by decide) ?_
    refine aw_ls (ls' := lwL k) (fun q hq => List.mem_append_left [(6, _), (7, _)] hq) ?_
    exact aw_less (by omega) (by omega) (post I2 L1 hR)
  refine aw_if_ne (tgt := 970) dW_955 (by decide) (fun _ => fin) (fun z => ?_)
  have hv := h0 ((nn0_iff hc3).mp z)
  refine aw_aload_n dW_958 rfl ?_
  refine aw_iconst dW_959 ci_0 ?_
  refine aw_lald dW_960 W.a (nn_in (k := 0) (by decide) (by decide)) ?_
  rw [c0, hv]
  refine aw_iload dW_961 rfl ?_
  refine aw_i2l dW_963 ?_
  refine aw_lcmp dW_964 ?_
  exact aw_if_eq (tgt := 970) dW_965 (by decide) (fun _ => fin) (fun z2 => absurd (lgc_eq.mpr rfl) z2)
theorem cs_14 (W : wld G Γ) (R : REL I L) (hk : 6 * k + 6 ≤ n) (hn : n ≤ 3072) (post : ∀ I' L', REL I' L' → am_W (m_W n xs) 282 mc ms true bc bs 3223 (lwL k) [] Γ I' L' Q) : am_W (m_W n xs) 282 mc ms true (bc + 1) (bs + 6) 973 (lwL k) [] Γ I L Q := by
  obtain ⟨I1, L1, I2, c, v, hc3, hC, hM, hR, ht, h0⟩ := hx_restore W R (xs (nn (6 * k) + 1).toNatClampNeg)
  refine aw_aload_n dW_973 rfl ?_
  refine aw_aload_nT dW_974 rfl ?_
  refine aw_iload dW_975 rfl ?_
  refine aw_iconst dW_977 ci_1 ?_
  refine aw_iadd dW_978 ?_
  refine aw_sld rfl dW_979 (sa_in1 hk hn) ?_
  refine aw_aload_n dW_980 rfl ?_
  refine aw_askSW (as := [.ref 0, .int (xs (nn (6 * k) + 1).toNatClampNeg), .ref 463]) (rst := []) kw_L_restore (by decide) rfl l_L_203 t_L_restore dW_981 rfl (Nat.le_of_ble_eq_true rfl) (Nat.le_add_left _ _) (Nat.le_add_left _ _) hC rfl rfl ?_
  refine aw_istore (ls' := [(0, .retAddr 60), (1, .ref 0), (2, .ref 450), (3, .ref 463), (4, .ref 464), (5, .int (nn (6 * k))), (6, .int (nn c))]) dW_984 (show (6 : Nat) < 10 by decide) rfl ?_
  refine aw_aload_n dW_986 rfl ?_
  refine aw_aload_nT dW_987 rfl ?_
  refine aw_iload dW_988 rfl ?_
  refine aw_iconst dW_990 ci_1 ?_
  refine aw_iadd dW_991 ?_
  refine aw_sld rfl dW_992 (sa_in1 hk hn) ?_
  refine aw_askV (as := [.int (xs (nn (6 * k) + 1).toNatClampNeg)]) (rst := []) k_X9_restore l_L_205 i_X9_restore s_X9_restore rfl W.m dW_993 rfl (Nat.le_of_ble_eq_true rfl) (Nat.zero_le _) (Nat.zero_le _) hM rfl rfl ?_
  refine aw_istore (ls' := [(0, .retAddr 60), (1, .ref 0), (2, .ref 450), (3, .ref 463), (4, .ref 464), (5, .int (nn (6 * k))), (6, .int (nn c)), (7, .int v)]) dW_996 (show (7 : Nat) < 10 by decide) rfl ?_
  refine aw_aload_n dW_998 rfl ?_
  refine aw_askV (as := []) (rst := []) k_X9_thrown l_L_157 i_X9_thrown s_X9_thrown rfl W.m dW_999 rfl (Nat.le_of_ble_eq_true rfl) (Nat.zero_le _) (Nat.zero_le _) (eXW_thrown W.m) rfl rfl ?_
  refine aw_iload dW_1002 rfl ?_
  refine aw_icmp_eq (tgt := 1009) dW_1004 (by decide) (fun _ => ?_) (fun z => absurd ht z)
  refine aw_iload dW_1009 rfl ?_
  have fin : am_W (m_W n xs) 282 mc ms true (bc + 1 - 1 - 0 - 0) (bs + 6 - 6 - 0 - 0) 1026 ([(0, .retAddr 60), (1, .ref 0), (2, .ref 450), (3, .ref 463), (4, .ref 464), (5, .int (nn (6 * k))), (6, .int (nn c)), (7, .int v)]) [] Γ I2 L1 Q := by
    refine aw_goto (tgt := 3223) dW_1026 (by decide) ?_
    refine aw_ls (ls' := lwL k) (fun q hq => List.mem_append_left [(6, _), (7, _)] hq) ?_
    exact aw_less (by omega) (by omega) (post I2 L1 hR)
  refine aw_if_ne (tgt := 1026) dW_1011 (by decide) (fun _ => fin) (fun z => ?_)
  have hv := h0 ((nn0_iff hc3).mp z)
  refine aw_aload_n dW_1014 rfl ?_
  refine aw_iconst dW_1015 ci_0 ?_
  refine aw_lald dW_1016 W.a (nn_in (k := 0) (by decide) (by decide)) ?_
  rw [c0, hv]
  refine aw_iload dW_1017 rfl ?_
  refine aw_i2l dW_1019 ?_
  refine aw_lcmp dW_1020 ?_
  exact aw_if_eq (tgt := 1026) dW_1021 (by decide) (fun _ => fin) (fun z2 => absurd (lgc_eq.mpr rfl) z2)
theorem cs_15 (W : wld G Γ) (R : REL I L) (hk : 6 * k + 6 ≤ n) (hn : n ≤ 3072) (post : ∀ I' L', REL I' L' → am_W (m_W n xs) 282 mc ms true bc bs 3223 (lwL k) [] Γ I' L' Q) : am_W (m_W n xs) 282 mc ms true (bc + 1) (bs + 6) 1029 (lwL k) [] Γ I L Q := by
  obtain ⟨I1, L1, I2, v, hC, hM, hR⟩ := dX_of W (fX_questionCount W.F R)
  refine aw_aload_n dW_1029 rfl ?_
  refine aw_askV (as := []) (rst := []) k_X8_questionCount l_L_206 i_X8_questionCount s_X8_questionCount rfl W.ox dW_1030 rfl (Nat.le_of_ble_eq_true rfl) (Nat.le_add_left _ _) (Nat.le_add_left _ _) hC rfl rfl ?_
  refine aw_aload_n dW_1033 rfl ?_
  refine aw_askV (as := []) (rst := [.int v]) k_X9_questionCount l_L_209 i_X9_questionCount s_X9_questionCount rfl W.m dW_1034 rfl (Nat.le_of_ble_eq_true rfl) (Nat.zero_le _) (Nat.zero_le _) hM rfl rfl ?_
  refine aw_icmp_eq (tgt := 3223) dW_1037 (by decide) (fun _ => ?_) (fun z => absurd rfl z)
  exact aw_less (Nat.le_of_eq (Nat.add_sub_cancel _ _).symm) (Nat.le_of_eq (Nat.add_sub_cancel _ _).symm) (post I2 L1 hR)
theorem cs_16 (W : wld G Γ) (R : REL I L) (hk : 6 * k + 6 ≤ n) (hn : n ≤ 3072) (post : ∀ I' L', REL I' L' → am_W (m_W n xs) 282 mc ms true bc bs 3223 (lwL k) [] Γ I' L' Q) : am_W (m_W n xs) 282 mc ms true (bc + 1) (bs + 6) 1042 (lwL k) [] Γ I L Q := by
  obtain ⟨I1, L1, I2, v, hC, hM, hR⟩ := dX_of W (fX_typeCount W.F R)
  refine aw_aload_n dW_1042 rfl ?_
  refine aw_askV (as := []) (rst := []) k_X8_typeCount l_L_210 i_X8_typeCount s_X8_typeCount rfl W.ox dW_1043 rfl (Nat.le_of_ble_eq_true rfl) (Nat.le_add_left _ _) (Nat.le_add_left _ _) hC rfl rfl ?_
  refine aw_aload_n dW_1046 rfl ?_
  refine aw_askV (as := []) (rst := [.int v]) k_X9_typeCount l_L_213 i_X9_typeCount s_X9_typeCount rfl W.m dW_1047 rfl (Nat.le_of_ble_eq_true rfl) (Nat.zero_le _) (Nat.zero_le _) hM rfl rfl ?_
  refine aw_icmp_eq (tgt := 3223) dW_1050 (by decide) (fun _ => ?_) (fun z => absurd rfl z)
  exact aw_less (Nat.le_of_eq (Nat.add_sub_cancel _ _).symm) (Nat.le_of_eq (Nat.add_sub_cancel _ _).symm) (post I2 L1 hR)
theorem cs_17 (W : wld G Γ) (R : REL I L) (hk : 6 * k + 6 ≤ n) (hn : n ≤ 3072) (post : ∀ I' L', REL I' L' → am_W (m_W n xs) 282 mc ms true bc bs 3223 (lwL k) [] Γ I' L' Q) : am_W (m_W n xs) 282 mc ms true (bc + 1) (bs + 6) 1055 (lwL k) [] Γ I L Q := by
  obtain ⟨I1, L1, I2, v, hC, hM, hR⟩ := dX_of W (fX_gateCount W.F R)
  refine aw_aload_n dW_1055 rfl ?_
  refine aw_askV (as := []) (rst := []) k_X8_gateCount l_L_214 i_X8_gateCount s_X8_gateCount rfl W.ox dW_1056 rfl (Nat.le_of_ble_eq_true rfl) (Nat.le_add_left _ _) (Nat.le_add_left _ _) hC rfl rfl ?_
  refine aw_aload_n dW_1059 rfl ?_
  refine aw_askV (as := []) (rst := [.int v]) k_X9_gateCount l_L_217 i_X9_gateCount s_X9_gateCount rfl W.m dW_1060 rfl (Nat.le_of_ble_eq_true rfl) (Nat.zero_le _) (Nat.zero_le _) hM rfl rfl ?_
  refine aw_icmp_eq (tgt := 3223) dW_1063 (by decide) (fun _ => ?_) (fun z => absurd rfl z)
  exact aw_less (Nat.le_of_eq (Nat.add_sub_cancel _ _).symm) (Nat.le_of_eq (Nat.add_sub_cancel _ _).symm) (post I2 L1 hR)
theorem cs_18 (W : wld G Γ) (R : REL I L) (hk : 6 * k + 6 ≤ n) (hn : n ≤ 3072) (post : ∀ I' L', REL I' L' → am_W (m_W n xs) 282 mc ms true bc bs 3223 (lwL k) [] Γ I' L' Q) : am_W (m_W n xs) 282 mc ms true (bc + 1) (bs + 6) 1068 (lwL k) [] Γ I L Q := by
  obtain ⟨I1, L1, I2, v, hC, hM, hR⟩ := dX_of W (fX_clock W.F R)
  refine aw_aload_n dW_1068 rfl ?_
  refine aw_askV (as := []) (rst := []) k_X8_clock l_L_218 i_X8_clock s_X8_clock rfl W.ox dW_1069 rfl (Nat.le_of_ble_eq_true rfl) (Nat.le_add_left _ _) (Nat.le_add_left _ _) hC rfl rfl ?_
  refine aw_aload_n dW_1072 rfl ?_
  refine aw_askV (as := []) (rst := [.int v]) k_X9_clock l_L_221 i_X9_clock s_X9_clock rfl W.m dW_1073 rfl (Nat.le_of_ble_eq_true rfl) (Nat.zero_le _) (Nat.zero_le _) hM rfl rfl ?_
  refine aw_icmp_eq (tgt := 3223) dW_1076 (by decide) (fun _ => ?_) (fun z => absurd rfl z)
  exact aw_less (Nat.le_of_eq (Nat.add_sub_cancel _ _).symm) (Nat.le_of_eq (Nat.add_sub_cancel _ _).symm) (post I2 L1 hR)
theorem cs_19 (W : wld G Γ) (R : REL I L) (hk : 6 * k + 6 ≤ n) (hn : n ≤ 3072) (post : ∀ I' L', REL I' L' → am_W (m_W n xs) 282 mc ms true bc bs 3223 (lwL k) [] Γ I' L' Q) : am_W (m_W n xs) 282 mc ms true (bc + 1) (bs + 6) 1081 (lwL k) [] Γ I L Q := by
  obtain ⟨I1, L1, I2, v, hC, hM, hR⟩ := dX_of W (fX_undoableChanges W.F R)
  refine aw_aload_n dW_1081 rfl ?_
  refine aw_askV (as := []) (rst := []) k_X8_undoableChanges l_L_222 i_X8_undoableChanges s_X8_undoableChanges rfl W.ox dW_1082 rfl (Nat.le_of_ble_eq_true rfl) (Nat.le_add_left _ _) (Nat.le_add_left _ _) hC rfl rfl ?_
  refine aw_aload_n dW_1085 rfl ?_
  refine aw_askV (as := []) (rst := [.int v]) k_X9_undoableChanges l_L_225 i_X9_undoableChanges s_X9_undoableChanges rfl W.m dW_1086 rfl (Nat.le_of_ble_eq_true rfl) (Nat.zero_le _) (Nat.zero_le _) hM rfl rfl ?_
  refine aw_icmp_eq (tgt := 3223) dW_1089 (by decide) (fun _ => ?_) (fun z => absurd rfl z)
  exact aw_less (Nat.le_of_eq (Nat.add_sub_cancel _ _).symm) (Nat.le_of_eq (Nat.add_sub_cancel _ _).symm) (post I2 L1 hR)
end LWC
