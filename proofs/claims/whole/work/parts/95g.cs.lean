/-! THE LAW'S BODY: CASES 46 TO 61 -/
section LWC
variable {n k mc ms bc bs : Nat} {xs : Nat → Int32} {G Γ : am_G} {I : am_I} {L : am_L} {Q : am_Q}
theorem cs_46 (W : wld G Γ) (R : REL I L) (hk : 6 * k + 6 ≤ n) (hn : n ≤ 3072) (post : ∀ I' L', REL I' L' → am_W (m_W n xs) 282 mc ms true bc bs 3223 (lwL k) [] Γ I' L' Q) : am_W (m_W n xs) 282 mc ms true (bc + 1) (bs + 6) 2364 (lwL k) [] Γ I L Q := by
  obtain ⟨I1, L1, I2, c, v, hc3, hC, hM, hR, ht, h0⟩ := hx_pathCost W R (xs (nn (6 * k) + 1).toNatClampNeg) (xs (nn (6 * k) + 2).toNatClampNeg)
  refine aw_aload_n dW_2364 rfl ?_
  refine aw_aload_nT dW_2365 rfl ?_
  refine aw_iload dW_2366 rfl ?_
  refine aw_iconst dW_2368 ci_1 ?_
  refine aw_iadd dW_2369 ?_
  refine aw_sld rfl dW_2370 (sa_in1 hk hn) ?_
  refine aw_aload_nT dW_2371 rfl ?_
  refine aw_iload dW_2372 rfl ?_
  refine aw_iconst dW_2374 ci_2 ?_
  refine aw_iadd dW_2375 ?_
  refine aw_sld rfl dW_2376 (sa_in2 hk hn) ?_
  refine aw_aload_n dW_2377 rfl ?_
  refine aw_askSW (as := [.ref 0, .int (xs (nn (6 * k) + 1).toNatClampNeg), .int (xs (nn (6 * k) + 2).toNatClampNeg), .ref 463]) (rst := []) kw_L_pathCost (by decide) rfl l_L_312 t_L_pathCost dW_2378 rfl (Nat.le_of_ble_eq_true rfl) (Nat.le_add_left _ _) (Nat.le_add_left _ _) hC rfl rfl ?_
  refine aw_istore (ls' := [(0, .retAddr 60), (1, .ref 0), (2, .ref 450), (3, .ref 463), (4, .ref 464), (5, .int (nn (6 * k))), (6, .int (nn c))]) dW_2381 (show (6 : Nat) < 10 by decide) rfl ?_
  refine aw_aload_n dW_2383 rfl ?_
  refine aw_aload_nT dW_2384 rfl ?_
  refine aw_iload dW_2385 rfl ?_
  refine aw_iconst dW_2387 ci_1 ?_
  refine aw_iadd dW_2388 ?_
  refine aw_sld rfl dW_2389 (sa_in1 hk hn) ?_
  refine aw_aload_nT dW_2390 rfl ?_
  refine aw_iload dW_2391 rfl ?_
  refine aw_iconst dW_2393 ci_2 ?_
  refine aw_iadd dW_2394 ?_
  refine aw_sld rfl dW_2395 (sa_in2 hk hn) ?_
  refine aw_askV (as := [.int (xs (nn (6 * k) + 1).toNatClampNeg), .int (xs (nn (6 * k) + 2).toNatClampNeg)]) (rst := []) k_X9_pathCost l_L_314 i_X9_pathCost s_X9_pathCost rfl W.m dW_2396 rfl (Nat.le_of_ble_eq_true rfl) (Nat.zero_le _) (Nat.zero_le _) hM rfl rfl ?_
  refine aw_istore (ls' := [(0, .retAddr 60), (1, .ref 0), (2, .ref 450), (3, .ref 463), (4, .ref 464), (5, .int (nn (6 * k))), (6, .int (nn c)), (7, .int v)]) dW_2399 (show (7 : Nat) < 10 by decide) rfl ?_
  refine aw_aload_n dW_2401 rfl ?_
  refine aw_askV (as := []) (rst := []) k_X9_thrown l_L_157 i_X9_thrown s_X9_thrown rfl W.m dW_2402 rfl (Nat.le_of_ble_eq_true rfl) (Nat.zero_le _) (Nat.zero_le _) (eXW_thrown W.m) rfl rfl ?_
  refine aw_iload dW_2405 rfl ?_
  refine aw_icmp_eq (tgt := 2412) dW_2407 (by decide) (fun _ => ?_) (fun z => absurd ht z)
  refine aw_iload dW_2412 rfl ?_
  have fin : am_W (m_W n xs) 282 mc ms true (bc + 1 - 1 - 0 - 0) (bs + 6 - 6 - 0 - 0) 2429 ([(0, .retAddr 60), (1, .ref 0), (2, .ref 450), (3, .ref 463), (4, .ref 464), (5, .int (nn (6 * k))), (6, .int (nn c)), (7, .int v)]) [] Γ I2 L1 Q := by
    refine aw_goto (tgt := 3223) dW_2429 (by decide) ?_
    refine aw_ls (ls' := lwL k) (fun q hq => List.mem_append_left [(6, _), (7, _)] hq) ?_
    exact aw_less (by omega) (by omega) (post I2 L1 hR)
  refine aw_if_ne (tgt := 2429) dW_2414 (by decide) (fun _ => fin) (fun z => ?_)
  have hv := h0 ((nn0_iff hc3).mp z)
  refine aw_aload_n dW_2417 rfl ?_
  refine aw_iconst dW_2418 ci_0 ?_
  refine aw_lald dW_2419 W.a (nn_in (k := 0) (by decide) (by decide)) ?_
  rw [c0, hv]
  refine aw_iload dW_2420 rfl ?_
  refine aw_i2l dW_2422 ?_
  refine aw_lcmp dW_2423 ?_
  exact aw_if_eq (tgt := 2429) dW_2424 (by decide) (fun _ => fin) (fun z2 => absurd (lgc_eq.mpr rfl) z2)
theorem cs_47 (W : wld G Γ) (R : REL I L) (hk : 6 * k + 6 ≤ n) (hn : n ≤ 3072) (post : ∀ I' L', REL I' L' → am_W (m_W n xs) 282 mc ms true bc bs 3223 (lwL k) [] Γ I' L' Q) : am_W (m_W n xs) 282 mc ms true (bc + 1) (bs + 6) 2432 (lwL k) [] Γ I L Q := by
  obtain ⟨I1, L1, I2, c, v, hc3, hC, hM, hR, ht, h0⟩ := hx_errors W R (xs (nn (6 * k) + 1).toNatClampNeg)
  refine aw_aload_n dW_2432 rfl ?_
  refine aw_aload_nT dW_2433 rfl ?_
  refine aw_iload dW_2434 rfl ?_
  refine aw_iconst dW_2436 ci_1 ?_
  refine aw_iadd dW_2437 ?_
  refine aw_sld rfl dW_2438 (sa_in1 hk hn) ?_
  refine aw_aload_n dW_2439 rfl ?_
  refine aw_askSW (as := [.ref 0, .int (xs (nn (6 * k) + 1).toNatClampNeg), .ref 463]) (rst := []) kw_L_errors (by decide) rfl l_L_315 t_L_errors dW_2440 rfl (Nat.le_of_ble_eq_true rfl) (Nat.le_add_left _ _) (Nat.le_add_left _ _) hC rfl rfl ?_
  refine aw_istore (ls' := [(0, .retAddr 60), (1, .ref 0), (2, .ref 450), (3, .ref 463), (4, .ref 464), (5, .int (nn (6 * k))), (6, .int (nn c))]) dW_2443 (show (6 : Nat) < 10 by decide) rfl ?_
  refine aw_aload_n dW_2445 rfl ?_
  refine aw_aload_nT dW_2446 rfl ?_
  refine aw_iload dW_2447 rfl ?_
  refine aw_iconst dW_2449 ci_1 ?_
  refine aw_iadd dW_2450 ?_
  refine aw_sld rfl dW_2451 (sa_in1 hk hn) ?_
  refine aw_askV (as := [.int (xs (nn (6 * k) + 1).toNatClampNeg)]) (rst := []) k_X9_errors l_L_317 i_X9_errors s_X9_errors rfl W.m dW_2452 rfl (Nat.le_of_ble_eq_true rfl) (Nat.zero_le _) (Nat.zero_le _) hM rfl rfl ?_
  refine aw_istore (ls' := [(0, .retAddr 60), (1, .ref 0), (2, .ref 450), (3, .ref 463), (4, .ref 464), (5, .int (nn (6 * k))), (6, .int (nn c)), (7, .int v)]) dW_2455 (show (7 : Nat) < 10 by decide) rfl ?_
  refine aw_aload_n dW_2457 rfl ?_
  refine aw_askV (as := []) (rst := []) k_X9_thrown l_L_157 i_X9_thrown s_X9_thrown rfl W.m dW_2458 rfl (Nat.le_of_ble_eq_true rfl) (Nat.zero_le _) (Nat.zero_le _) (eXW_thrown W.m) rfl rfl ?_
  refine aw_iload dW_2461 rfl ?_
  refine aw_icmp_eq (tgt := 2468) dW_2463 (by decide) (fun _ => ?_) (fun z => absurd ht z)
  refine aw_iload dW_2468 rfl ?_
  have fin : am_W (m_W n xs) 282 mc ms true (bc + 1 - 1 - 0 - 0) (bs + 6 - 6 - 0 - 0) 2485 ([(0, .retAddr 60), (1, .ref 0), (2, .ref 450), (3, .ref 463), (4, .ref 464), (5, .int (nn (6 * k))), (6, .int (nn c)), (7, .int v)]) [] Γ I2 L1 Q := by
    refine aw_goto (tgt := 3223) dW_2485 (by decide) ?_
    refine aw_ls (ls' := lwL k) (fun q hq => List.mem_append_left [(6, _), (7, _)] hq) ?_
    exact aw_less (by omega) (by omega) (post I2 L1 hR)
  refine aw_if_ne (tgt := 2485) dW_2470 (by decide) (fun _ => fin) (fun z => ?_)
  have hv := h0 ((nn0_iff hc3).mp z)
  refine aw_aload_n dW_2473 rfl ?_
  refine aw_iconst dW_2474 ci_0 ?_
  refine aw_lald dW_2475 W.a (nn_in (k := 0) (by decide) (by decide)) ?_
  rw [c0, hv]
  refine aw_iload dW_2476 rfl ?_
  refine aw_i2l dW_2478 ?_
  refine aw_lcmp dW_2479 ?_
  exact aw_if_eq (tgt := 2485) dW_2480 (by decide) (fun _ => fin) (fun z2 => absurd (lgc_eq.mpr rfl) z2)
theorem cs_48 (W : wld G Γ) (R : REL I L) (hk : 6 * k + 6 ≤ n) (hn : n ≤ 3072) (post : ∀ I' L', REL I' L' → am_W (m_W n xs) 282 mc ms true bc bs 3223 (lwL k) [] Γ I' L' Q) : am_W (m_W n xs) 282 mc ms true (bc + 1) (bs + 6) 2488 (lwL k) [] Γ I L Q := by
  obtain ⟨I1, L1, I2, c, v, hc3, hC, hM, hR, ht, h0⟩ := hx_work W R (xs (nn (6 * k) + 1).toNatClampNeg)
  refine aw_aload_n dW_2488 rfl ?_
  refine aw_aload_nT dW_2489 rfl ?_
  refine aw_iload dW_2490 rfl ?_
  refine aw_iconst dW_2492 ci_1 ?_
  refine aw_iadd dW_2493 ?_
  refine aw_sld rfl dW_2494 (sa_in1 hk hn) ?_
  refine aw_aload_n dW_2495 rfl ?_
  refine aw_askSW (as := [.ref 0, .int (xs (nn (6 * k) + 1).toNatClampNeg), .ref 463]) (rst := []) kw_L_work (by decide) rfl l_L_318 t_L_work dW_2496 rfl (Nat.le_of_ble_eq_true rfl) (Nat.le_add_left _ _) (Nat.le_add_left _ _) hC rfl rfl ?_
  refine aw_istore (ls' := [(0, .retAddr 60), (1, .ref 0), (2, .ref 450), (3, .ref 463), (4, .ref 464), (5, .int (nn (6 * k))), (6, .int (nn c))]) dW_2499 (show (6 : Nat) < 10 by decide) rfl ?_
  refine aw_aload_n dW_2501 rfl ?_
  refine aw_aload_nT dW_2502 rfl ?_
  refine aw_iload dW_2503 rfl ?_
  refine aw_iconst dW_2505 ci_1 ?_
  refine aw_iadd dW_2506 ?_
  refine aw_sld rfl dW_2507 (sa_in1 hk hn) ?_
  refine aw_askV (as := [.int (xs (nn (6 * k) + 1).toNatClampNeg)]) (rst := []) k_X9_work l_L_320 i_X9_work s_X9_work rfl W.m dW_2508 rfl (Nat.le_of_ble_eq_true rfl) (Nat.zero_le _) (Nat.zero_le _) hM rfl rfl ?_
  refine aw_istore (ls' := [(0, .retAddr 60), (1, .ref 0), (2, .ref 450), (3, .ref 463), (4, .ref 464), (5, .int (nn (6 * k))), (6, .int (nn c)), (7, .int v)]) dW_2511 (show (7 : Nat) < 10 by decide) rfl ?_
  refine aw_aload_n dW_2513 rfl ?_
  refine aw_askV (as := []) (rst := []) k_X9_thrown l_L_157 i_X9_thrown s_X9_thrown rfl W.m dW_2514 rfl (Nat.le_of_ble_eq_true rfl) (Nat.zero_le _) (Nat.zero_le _) (eXW_thrown W.m) rfl rfl ?_
  refine aw_iload dW_2517 rfl ?_
  refine aw_icmp_eq (tgt := 2524) dW_2519 (by decide) (fun _ => ?_) (fun z => absurd ht z)
  refine aw_iload dW_2524 rfl ?_
  have fin : am_W (m_W n xs) 282 mc ms true (bc + 1 - 1 - 0 - 0) (bs + 6 - 6 - 0 - 0) 2541 ([(0, .retAddr 60), (1, .ref 0), (2, .ref 450), (3, .ref 463), (4, .ref 464), (5, .int (nn (6 * k))), (6, .int (nn c)), (7, .int v)]) [] Γ I2 L1 Q := by
    refine aw_goto (tgt := 3223) dW_2541 (by decide) ?_
    refine aw_ls (ls' := lwL k) (fun q hq => List.mem_append_left [(6, _), (7, _)] hq) ?_
    exact aw_less (by omega) (by omega) (post I2 L1 hR)
  refine aw_if_ne (tgt := 2541) dW_2526 (by decide) (fun _ => fin) (fun z => ?_)
  have hv := h0 ((nn0_iff hc3).mp z)
  refine aw_aload_n dW_2529 rfl ?_
  refine aw_iconst dW_2530 ci_0 ?_
  refine aw_lald dW_2531 W.a (nn_in (k := 0) (by decide) (by decide)) ?_
  rw [c0, hv]
  refine aw_iload dW_2532 rfl ?_
  refine aw_i2l dW_2534 ?_
  refine aw_lcmp dW_2535 ?_
  exact aw_if_eq (tgt := 2541) dW_2536 (by decide) (fun _ => fin) (fun z2 => absurd (lgc_eq.mpr rfl) z2)
theorem cs_49 (W : wld G Γ) (R : REL I L) (hk : 6 * k + 6 ≤ n) (hn : n ≤ 3072) (post : ∀ I' L', REL I' L' → am_W (m_W n xs) 282 mc ms true bc bs 3223 (lwL k) [] Γ I' L' Q) : am_W (m_W n xs) 282 mc ms true (bc + 1) (bs + 6) 2544 (lwL k) [] Γ I L Q := by
  obtain ⟨I1, L1, I2, c, v, hc3, hC, hM, hR, ht, h0⟩ := hx_mischargeReason W R (xs (nn (6 * k) + 1).toNatClampNeg) (xs (nn (6 * k) + 2).toNatClampNeg)
  refine aw_aload_n dW_2544 rfl ?_
  refine aw_aload_nT dW_2545 rfl ?_
  refine aw_iload dW_2546 rfl ?_
  refine aw_iconst dW_2548 ci_1 ?_
  refine aw_iadd dW_2549 ?_
  refine aw_sld rfl dW_2550 (sa_in1 hk hn) ?_
  refine aw_aload_nT dW_2551 rfl ?_
  refine aw_iload dW_2552 rfl ?_
  refine aw_iconst dW_2554 ci_2 ?_
  refine aw_iadd dW_2555 ?_
  refine aw_sld rfl dW_2556 (sa_in2 hk hn) ?_
  refine aw_aload_n dW_2557 rfl ?_
  refine aw_askSW (as := [.ref 0, .int (xs (nn (6 * k) + 1).toNatClampNeg), .int (xs (nn (6 * k) + 2).toNatClampNeg), .ref 463]) (rst := []) kw_L_mischargeReason (by decide) rfl l_L_321 t_L_mischargeReason dW_2558 rfl (Nat.le_of_ble_eq_true rfl) (Nat.le_add_left _ _) (Nat.le_add_left _ _) hC rfl rfl ?_
  refine aw_istore (ls' := [(0, .retAddr 60), (1, .ref 0), (2, .ref 450), (3, .ref 463), (4, .ref 464), (5, .int (nn (6 * k))), (6, .int (nn c))]) dW_2561 (show (6 : Nat) < 10 by decide) rfl ?_
  refine aw_aload_n dW_2563 rfl ?_
  refine aw_aload_nT dW_2564 rfl ?_
  refine aw_iload dW_2565 rfl ?_
  refine aw_iconst dW_2567 ci_1 ?_
  refine aw_iadd dW_2568 ?_
  refine aw_sld rfl dW_2569 (sa_in1 hk hn) ?_
  refine aw_aload_nT dW_2570 rfl ?_
  refine aw_iload dW_2571 rfl ?_
  refine aw_iconst dW_2573 ci_2 ?_
  refine aw_iadd dW_2574 ?_
  refine aw_sld rfl dW_2575 (sa_in2 hk hn) ?_
  refine aw_askV (as := [.int (xs (nn (6 * k) + 1).toNatClampNeg), .int (xs (nn (6 * k) + 2).toNatClampNeg)]) (rst := []) k_X9_mischargeReason l_L_323 i_X9_mischargeReason s_X9_mischargeReason rfl W.m dW_2576 rfl (Nat.le_of_ble_eq_true rfl) (Nat.zero_le _) (Nat.zero_le _) hM rfl rfl ?_
  refine aw_istore (ls' := [(0, .retAddr 60), (1, .ref 0), (2, .ref 450), (3, .ref 463), (4, .ref 464), (5, .int (nn (6 * k))), (6, .int (nn c)), (7, .int v)]) dW_2579 (show (7 : Nat) < 10 by decide) rfl ?_
  refine aw_aload_n dW_2581 rfl ?_
  refine aw_askV (as := []) (rst := []) k_X9_thrown l_L_157 i_X9_thrown s_X9_thrown rfl W.m dW_2582 rfl (Nat.le_of_ble_eq_true rfl) (Nat.zero_le _) (Nat.zero_le _) (eXW_thrown W.m) rfl rfl ?_
  refine aw_iload dW_2585 rfl ?_
  refine aw_icmp_eq (tgt := 2592) dW_2587 (by decide) (fun _ => ?_) (fun z => absurd ht z)
  refine aw_iload dW_2592 rfl ?_
  have fin : am_W (m_W n xs) 282 mc ms true (bc + 1 - 1 - 0 - 0) (bs + 6 - 6 - 0 - 0) 2609 ([(0, .retAddr 60), (1, .ref 0), (2, .ref 450), (3, .ref 463), (4, .ref 464), (5, .int (nn (6 * k))), (6, .int (nn c)), (7, .int v)]) [] Γ I2 L1 Q := by
    refine aw_goto (tgt := 3223) dW_2609 (by decide) ?_
    refine aw_ls (ls' := lwL k) (fun q hq => List.mem_append_left [(6, _), (7, _)] hq) ?_
    exact aw_less (by omega) (by omega) (post I2 L1 hR)
  refine aw_if_ne (tgt := 2609) dW_2594 (by decide) (fun _ => fin) (fun z => ?_)
  have hv := h0 ((nn0_iff hc3).mp z)
  refine aw_aload_n dW_2597 rfl ?_
  refine aw_iconst dW_2598 ci_0 ?_
  refine aw_lald dW_2599 W.a (nn_in (k := 0) (by decide) (by decide)) ?_
  rw [c0, hv]
  refine aw_iload dW_2600 rfl ?_
  refine aw_i2l dW_2602 ?_
  refine aw_lcmp dW_2603 ?_
  exact aw_if_eq (tgt := 2609) dW_2604 (by decide) (fun _ => fin) (fun z2 => absurd (lgc_eq.mpr rfl) z2)
theorem cs_50 (W : wld G Γ) (R : REL I L) (hk : 6 * k + 6 ≤ n) (hn : n ≤ 3072) (post : ∀ I' L', REL I' L' → am_W (m_W n xs) 282 mc ms true bc bs 3223 (lwL k) [] Γ I' L' Q) : am_W (m_W n xs) 282 mc ms true (bc + 1) (bs + 6) 2612 (lwL k) [] Γ I L Q := by
  obtain ⟨I1, L1, I2, c, v, hc3, hC, hM, hR, ht, h0⟩ := hx_bestErrors W R (xs (nn (6 * k) + 1).toNatClampNeg) (xs (nn (6 * k) + 2).toNatClampNeg)
  refine aw_aload_n dW_2612 rfl ?_
  refine aw_aload_nT dW_2613 rfl ?_
  refine aw_iload dW_2614 rfl ?_
  refine aw_iconst dW_2616 ci_1 ?_
  refine aw_iadd dW_2617 ?_
  refine aw_sld rfl dW_2618 (sa_in1 hk hn) ?_
  refine aw_aload_nT dW_2619 rfl ?_
  refine aw_iload dW_2620 rfl ?_
  refine aw_iconst dW_2622 ci_2 ?_
  refine aw_iadd dW_2623 ?_
  refine aw_sld rfl dW_2624 (sa_in2 hk hn) ?_
  refine aw_aload_n dW_2625 rfl ?_
  refine aw_askSW (as := [.ref 0, .int (xs (nn (6 * k) + 1).toNatClampNeg), .int (xs (nn (6 * k) + 2).toNatClampNeg), .ref 463]) (rst := []) kw_L_bestErrors (by decide) rfl l_L_324 t_L_bestErrors dW_2626 rfl (Nat.le_of_ble_eq_true rfl) (Nat.le_add_left _ _) (Nat.le_add_left _ _) hC rfl rfl ?_
  refine aw_istore (ls' := [(0, .retAddr 60), (1, .ref 0), (2, .ref 450), (3, .ref 463), (4, .ref 464), (5, .int (nn (6 * k))), (6, .int (nn c))]) dW_2629 (show (6 : Nat) < 10 by decide) rfl ?_
  refine aw_aload_n dW_2631 rfl ?_
  refine aw_aload_nT dW_2632 rfl ?_
  refine aw_iload dW_2633 rfl ?_
  refine aw_iconst dW_2635 ci_1 ?_
  refine aw_iadd dW_2636 ?_
  refine aw_sld rfl dW_2637 (sa_in1 hk hn) ?_
  refine aw_aload_nT dW_2638 rfl ?_
  refine aw_iload dW_2639 rfl ?_
  refine aw_iconst dW_2641 ci_2 ?_
  refine aw_iadd dW_2642 ?_
  refine aw_sld rfl dW_2643 (sa_in2 hk hn) ?_
  refine aw_askV (as := [.int (xs (nn (6 * k) + 1).toNatClampNeg), .int (xs (nn (6 * k) + 2).toNatClampNeg)]) (rst := []) k_X9_bestErrors l_L_326 i_X9_bestErrors s_X9_bestErrors rfl W.m dW_2644 rfl (Nat.le_of_ble_eq_true rfl) (Nat.zero_le _) (Nat.zero_le _) hM rfl rfl ?_
  refine aw_istore (ls' := [(0, .retAddr 60), (1, .ref 0), (2, .ref 450), (3, .ref 463), (4, .ref 464), (5, .int (nn (6 * k))), (6, .int (nn c)), (7, .int v)]) dW_2647 (show (7 : Nat) < 10 by decide) rfl ?_
  refine aw_aload_n dW_2649 rfl ?_
  refine aw_askV (as := []) (rst := []) k_X9_thrown l_L_157 i_X9_thrown s_X9_thrown rfl W.m dW_2650 rfl (Nat.le_of_ble_eq_true rfl) (Nat.zero_le _) (Nat.zero_le _) (eXW_thrown W.m) rfl rfl ?_
  refine aw_iload dW_2653 rfl ?_
  refine aw_icmp_eq (tgt := 2660) dW_2655 (by decide) (fun _ => ?_) (fun z => absurd ht z)
  refine aw_iload dW_2660 rfl ?_
  have fin : am_W (m_W n xs) 282 mc ms true (bc + 1 - 1 - 0 - 0) (bs + 6 - 6 - 0 - 0) 2677 ([(0, .retAddr 60), (1, .ref 0), (2, .ref 450), (3, .ref 463), (4, .ref 464), (5, .int (nn (6 * k))), (6, .int (nn c)), (7, .int v)]) [] Γ I2 L1 Q := by
    refine aw_goto (tgt := 3223) dW_2677 (by decide) ?_
    refine aw_ls (ls' := lwL k) (fun q hq => List.mem_append_left [(6, _), (7, _)] hq) ?_
    exact aw_less (by omega) (by omega) (post I2 L1 hR)
  refine aw_if_ne (tgt := 2677) dW_2662 (by decide) (fun _ => fin) (fun z => ?_)
  have hv := h0 ((nn0_iff hc3).mp z)
  refine aw_aload_n dW_2665 rfl ?_
  refine aw_iconst dW_2666 ci_0 ?_
  refine aw_lald dW_2667 W.a (nn_in (k := 0) (by decide) (by decide)) ?_
  rw [c0, hv]
  refine aw_iload dW_2668 rfl ?_
  refine aw_i2l dW_2670 ?_
  refine aw_lcmp dW_2671 ?_
  exact aw_if_eq (tgt := 2677) dW_2672 (by decide) (fun _ => fin) (fun z2 => absurd (lgc_eq.mpr rfl) z2)
theorem cs_51 (W : wld G Γ) (R : REL I L) (hk : 6 * k + 6 ≤ n) (hn : n ≤ 3072) (post : ∀ I' L', REL I' L' → am_W (m_W n xs) 282 mc ms true bc bs 3223 (lwL k) [] Γ I' L' Q) : am_W (m_W n xs) 282 mc ms true (bc + 1) (bs + 6) 2680 (lwL k) [] Γ I L Q := by
  obtain ⟨I1, L1, I2, c, v, hc3, hC, hM, hR, ht, h0⟩ := hx_bestWork W R (xs (nn (6 * k) + 1).toNatClampNeg) (xs (nn (6 * k) + 2).toNatClampNeg)
  refine aw_aload_n dW_2680 rfl ?_
  refine aw_aload_nT dW_2681 rfl ?_
  refine aw_iload dW_2682 rfl ?_
  refine aw_iconst dW_2684 ci_1 ?_
  refine aw_iadd dW_2685 ?_
  refine aw_sld rfl dW_2686 (sa_in1 hk hn) ?_
  refine aw_aload_nT dW_2687 rfl ?_
  refine aw_iload dW_2688 rfl ?_
  refine aw_iconst dW_2690 ci_2 ?_
  refine aw_iadd dW_2691 ?_
  refine aw_sld rfl dW_2692 (sa_in2 hk hn) ?_
  refine aw_aload_n dW_2693 rfl ?_
  refine aw_askSW (as := [.ref 0, .int (xs (nn (6 * k) + 1).toNatClampNeg), .int (xs (nn (6 * k) + 2).toNatClampNeg), .ref 463]) (rst := []) kw_L_bestWork (by decide) rfl l_L_327 t_L_bestWork dW_2694 rfl (Nat.le_of_ble_eq_true rfl) (Nat.le_add_left _ _) (Nat.le_add_left _ _) hC rfl rfl ?_
  refine aw_istore (ls' := [(0, .retAddr 60), (1, .ref 0), (2, .ref 450), (3, .ref 463), (4, .ref 464), (5, .int (nn (6 * k))), (6, .int (nn c))]) dW_2697 (show (6 : Nat) < 10 by decide) rfl ?_
  refine aw_aload_n dW_2699 rfl ?_
  refine aw_aload_nT dW_2700 rfl ?_
  refine aw_iload dW_2701 rfl ?_
  refine aw_iconst dW_2703 ci_1 ?_
  refine aw_iadd dW_2704 ?_
  refine aw_sld rfl dW_2705 (sa_in1 hk hn) ?_
  refine aw_aload_nT dW_2706 rfl ?_
  refine aw_iload dW_2707 rfl ?_
  refine aw_iconst dW_2709 ci_2 ?_
  refine aw_iadd dW_2710 ?_
  refine aw_sld rfl dW_2711 (sa_in2 hk hn) ?_
  refine aw_askV (as := [.int (xs (nn (6 * k) + 1).toNatClampNeg), .int (xs (nn (6 * k) + 2).toNatClampNeg)]) (rst := []) k_X9_bestWork l_L_329 i_X9_bestWork s_X9_bestWork rfl W.m dW_2712 rfl (Nat.le_of_ble_eq_true rfl) (Nat.zero_le _) (Nat.zero_le _) hM rfl rfl ?_
  refine aw_istore (ls' := [(0, .retAddr 60), (1, .ref 0), (2, .ref 450), (3, .ref 463), (4, .ref 464), (5, .int (nn (6 * k))), (6, .int (nn c)), (7, .int v)]) dW_2715 (show (7 : Nat) < 10 by decide) rfl ?_
  refine aw_aload_n dW_2717 rfl ?_
  refine aw_askV (as := []) (rst := []) k_X9_thrown l_L_157 i_X9_thrown s_X9_thrown rfl W.m dW_2718 rfl (Nat.le_of_ble_eq_true rfl) (Nat.zero_le _) (Nat.zero_le _) (eXW_thrown W.m) rfl rfl ?_
  refine aw_iload dW_2721 rfl ?_
  refine aw_icmp_eq (tgt := 2728) dW_2723 (by decide) (fun _ => ?_) (fun z => absurd ht z)
  refine aw_iload dW_2728 rfl ?_
  have fin : am_W (m_W n xs) 282 mc ms true (bc + 1 - 1 - 0 - 0) (bs + 6 - 6 - 0 - 0) 2745 ([(0, .retAddr 60), (1, .ref 0), (2, .ref 450), (3, .ref 463), (4, .ref 464), (5, .int (nn (6 * k))), (6, .int (nn c)), (7, .int v)]) [] Γ I2 L1 Q := by
    refine aw_goto (tgt := 3223) dW_2745 (by decide) ?_
    refine aw_ls (ls' := lwL k) (fun q hq => List.mem_append_left [(6, _), (7, _)] hq) ?_
    exact aw_less (by omega) (by omega) (post I2 L1 hR)
  refine aw_if_ne (tgt := 2745) dW_2730 (by decide) (fun _ => fin) (fun z => ?_)
  have hv := h0 ((nn0_iff hc3).mp z)
  refine aw_aload_n dW_2733 rfl ?_
  refine aw_iconst dW_2734 ci_0 ?_
  refine aw_lald dW_2735 W.a (nn_in (k := 0) (by decide) (by decide)) ?_
  rw [c0, hv]
  refine aw_iload dW_2736 rfl ?_
  refine aw_i2l dW_2738 ?_
  refine aw_lcmp dW_2739 ?_
  exact aw_if_eq (tgt := 2745) dW_2740 (by decide) (fun _ => fin) (fun z2 => absurd (lgc_eq.mpr rfl) z2)
theorem cs_52 (W : wld G Γ) (R : REL I L) (hk : 6 * k + 6 ≤ n) (hn : n ≤ 3072) (post : ∀ I' L', REL I' L' → am_W (m_W n xs) 282 mc ms true bc bs 3223 (lwL k) [] Γ I' L' Q) : am_W (m_W n xs) 282 mc ms true (bc + 1) (bs + 6) 2748 (lwL k) [] Γ I L Q := by
  obtain ⟨I1, L1, I2, c, v, hc3, hC, hM, hR, ht, h0⟩ := hx_bestRootQuestion W R (xs (nn (6 * k) + 1).toNatClampNeg) (xs (nn (6 * k) + 2).toNatClampNeg)
  refine aw_aload_n dW_2748 rfl ?_
  refine aw_aload_nT dW_2749 rfl ?_
  refine aw_iload dW_2750 rfl ?_
  refine aw_iconst dW_2752 ci_1 ?_
  refine aw_iadd dW_2753 ?_
  refine aw_sld rfl dW_2754 (sa_in1 hk hn) ?_
  refine aw_aload_nT dW_2755 rfl ?_
  refine aw_iload dW_2756 rfl ?_
  refine aw_iconst dW_2758 ci_2 ?_
  refine aw_iadd dW_2759 ?_
  refine aw_sld rfl dW_2760 (sa_in2 hk hn) ?_
  refine aw_aload_n dW_2761 rfl ?_
  refine aw_askSW (as := [.ref 0, .int (xs (nn (6 * k) + 1).toNatClampNeg), .int (xs (nn (6 * k) + 2).toNatClampNeg), .ref 463]) (rst := []) kw_L_bestRootQuestion (by decide) rfl l_L_330 t_L_bestRootQuestion dW_2762 rfl (Nat.le_of_ble_eq_true rfl) (Nat.le_add_left _ _) (Nat.le_add_left _ _) hC rfl rfl ?_
  refine aw_istore (ls' := [(0, .retAddr 60), (1, .ref 0), (2, .ref 450), (3, .ref 463), (4, .ref 464), (5, .int (nn (6 * k))), (6, .int (nn c))]) dW_2765 (show (6 : Nat) < 10 by decide) rfl ?_
  refine aw_aload_n dW_2767 rfl ?_
  refine aw_aload_nT dW_2768 rfl ?_
  refine aw_iload dW_2769 rfl ?_
  refine aw_iconst dW_2771 ci_1 ?_
  refine aw_iadd dW_2772 ?_
  refine aw_sld rfl dW_2773 (sa_in1 hk hn) ?_
  refine aw_aload_nT dW_2774 rfl ?_
  refine aw_iload dW_2775 rfl ?_
  refine aw_iconst dW_2777 ci_2 ?_
  refine aw_iadd dW_2778 ?_
  refine aw_sld rfl dW_2779 (sa_in2 hk hn) ?_
  refine aw_askV (as := [.int (xs (nn (6 * k) + 1).toNatClampNeg), .int (xs (nn (6 * k) + 2).toNatClampNeg)]) (rst := []) k_X9_bestRootQuestion l_L_332 i_X9_bestRootQuestion s_X9_bestRootQuestion rfl W.m dW_2780 rfl (Nat.le_of_ble_eq_true rfl) (Nat.zero_le _) (Nat.zero_le _) hM rfl rfl ?_
  refine aw_istore (ls' := [(0, .retAddr 60), (1, .ref 0), (2, .ref 450), (3, .ref 463), (4, .ref 464), (5, .int (nn (6 * k))), (6, .int (nn c)), (7, .int v)]) dW_2783 (show (7 : Nat) < 10 by decide) rfl ?_
  refine aw_aload_n dW_2785 rfl ?_
  refine aw_askV (as := []) (rst := []) k_X9_thrown l_L_157 i_X9_thrown s_X9_thrown rfl W.m dW_2786 rfl (Nat.le_of_ble_eq_true rfl) (Nat.zero_le _) (Nat.zero_le _) (eXW_thrown W.m) rfl rfl ?_
  refine aw_iload dW_2789 rfl ?_
  refine aw_icmp_eq (tgt := 2796) dW_2791 (by decide) (fun _ => ?_) (fun z => absurd ht z)
  refine aw_iload dW_2796 rfl ?_
  have fin : am_W (m_W n xs) 282 mc ms true (bc + 1 - 1 - 0 - 0) (bs + 6 - 6 - 0 - 0) 2813 ([(0, .retAddr 60), (1, .ref 0), (2, .ref 450), (3, .ref 463), (4, .ref 464), (5, .int (nn (6 * k))), (6, .int (nn c)), (7, .int v)]) [] Γ I2 L1 Q := by
    refine aw_goto (tgt := 3223) dW_2813 (by decide) ?_
    refine aw_ls (ls' := lwL k) (fun q hq => List.mem_append_left [(6, _), (7, _)] hq) ?_
    exact aw_less (by omega) (by omega) (post I2 L1 hR)
  refine aw_if_ne (tgt := 2813) dW_2798 (by decide) (fun _ => fin) (fun z => ?_)
  have hv := h0 ((nn0_iff hc3).mp z)
  refine aw_aload_n dW_2801 rfl ?_
  refine aw_iconst dW_2802 ci_0 ?_
  refine aw_lald dW_2803 W.a (nn_in (k := 0) (by decide) (by decide)) ?_
  rw [c0, hv]
  refine aw_iload dW_2804 rfl ?_
  refine aw_i2l dW_2806 ?_
  refine aw_lcmp dW_2807 ?_
  exact aw_if_eq (tgt := 2813) dW_2808 (by decide) (fun _ => fin) (fun z2 => absurd (lgc_eq.mpr rfl) z2)
theorem cs_53 (W : wld G Γ) (R : REL I L) (hk : 6 * k + 6 ≤ n) (hn : n ≤ 3072) (post : ∀ I' L', REL I' L' → am_W (m_W n xs) 282 mc ms true bc bs 3223 (lwL k) [] Γ I' L' Q) : am_W (m_W n xs) 282 mc ms true (bc + 1) (bs + 6) 2816 (lwL k) [] Γ I L Q := by
  obtain ⟨I1, L1, I2, c, v, hc3, hC, hM, hR, ht, h0⟩ := hx_errorsWithout W R (xs (nn (6 * k) + 1).toNatClampNeg) (xs (nn (6 * k) + 2).toNatClampNeg)
  refine aw_aload_n dW_2816 rfl ?_
  refine aw_aload_nT dW_2817 rfl ?_
  refine aw_iload dW_2818 rfl ?_
  refine aw_iconst dW_2820 ci_1 ?_
  refine aw_iadd dW_2821 ?_
  refine aw_sld rfl dW_2822 (sa_in1 hk hn) ?_
  refine aw_aload_nT dW_2823 rfl ?_
  refine aw_iload dW_2824 rfl ?_
  refine aw_iconst dW_2826 ci_2 ?_
  refine aw_iadd dW_2827 ?_
  refine aw_sld rfl dW_2828 (sa_in2 hk hn) ?_
  refine aw_aload_n dW_2829 rfl ?_
  refine aw_askSW (as := [.ref 0, .int (xs (nn (6 * k) + 1).toNatClampNeg), .int (xs (nn (6 * k) + 2).toNatClampNeg), .ref 463]) (rst := []) kw_L_errorsWithout (by decide) rfl l_L_333 t_L_errorsWithout dW_2830 rfl (Nat.le_of_ble_eq_true rfl) (Nat.le_add_left _ _) (Nat.le_add_left _ _) hC rfl rfl ?_
  refine aw_istore (ls' := [(0, .retAddr 60), (1, .ref 0), (2, .ref 450), (3, .ref 463), (4, .ref 464), (5, .int (nn (6 * k))), (6, .int (nn c))]) dW_2833 (show (6 : Nat) < 10 by decide) rfl ?_
  refine aw_aload_n dW_2835 rfl ?_
  refine aw_aload_nT dW_2836 rfl ?_
  refine aw_iload dW_2837 rfl ?_
  refine aw_iconst dW_2839 ci_1 ?_
  refine aw_iadd dW_2840 ?_
  refine aw_sld rfl dW_2841 (sa_in1 hk hn) ?_
  refine aw_aload_nT dW_2842 rfl ?_
  refine aw_iload dW_2843 rfl ?_
  refine aw_iconst dW_2845 ci_2 ?_
  refine aw_iadd dW_2846 ?_
  refine aw_sld rfl dW_2847 (sa_in2 hk hn) ?_
  refine aw_askV (as := [.int (xs (nn (6 * k) + 1).toNatClampNeg), .int (xs (nn (6 * k) + 2).toNatClampNeg)]) (rst := []) k_X9_errorsWithout l_L_335 i_X9_errorsWithout s_X9_errorsWithout rfl W.m dW_2848 rfl (Nat.le_of_ble_eq_true rfl) (Nat.zero_le _) (Nat.zero_le _) hM rfl rfl ?_
  refine aw_istore (ls' := [(0, .retAddr 60), (1, .ref 0), (2, .ref 450), (3, .ref 463), (4, .ref 464), (5, .int (nn (6 * k))), (6, .int (nn c)), (7, .int v)]) dW_2851 (show (7 : Nat) < 10 by decide) rfl ?_
  refine aw_aload_n dW_2853 rfl ?_
  refine aw_askV (as := []) (rst := []) k_X9_thrown l_L_157 i_X9_thrown s_X9_thrown rfl W.m dW_2854 rfl (Nat.le_of_ble_eq_true rfl) (Nat.zero_le _) (Nat.zero_le _) (eXW_thrown W.m) rfl rfl ?_
  refine aw_iload dW_2857 rfl ?_
  refine aw_icmp_eq (tgt := 2864) dW_2859 (by decide) (fun _ => ?_) (fun z => absurd ht z)
  refine aw_iload dW_2864 rfl ?_
  have fin : am_W (m_W n xs) 282 mc ms true (bc + 1 - 1 - 0 - 0) (bs + 6 - 6 - 0 - 0) 2881 ([(0, .retAddr 60), (1, .ref 0), (2, .ref 450), (3, .ref 463), (4, .ref 464), (5, .int (nn (6 * k))), (6, .int (nn c)), (7, .int v)]) [] Γ I2 L1 Q := by
    refine aw_goto (tgt := 3223) dW_2881 (by decide) ?_
    refine aw_ls (ls' := lwL k) (fun q hq => List.mem_append_left [(6, _), (7, _)] hq) ?_
    exact aw_less (by omega) (by omega) (post I2 L1 hR)
  refine aw_if_ne (tgt := 2881) dW_2866 (by decide) (fun _ => fin) (fun z => ?_)
  have hv := h0 ((nn0_iff hc3).mp z)
  refine aw_aload_n dW_2869 rfl ?_
  refine aw_iconst dW_2870 ci_0 ?_
  refine aw_lald dW_2871 W.a (nn_in (k := 0) (by decide) (by decide)) ?_
  rw [c0, hv]
  refine aw_iload dW_2872 rfl ?_
  refine aw_i2l dW_2874 ?_
  refine aw_lcmp dW_2875 ?_
  exact aw_if_eq (tgt := 2881) dW_2876 (by decide) (fun _ => fin) (fun z2 => absurd (lgc_eq.mpr rfl) z2)
theorem cs_54 (W : wld G Γ) (R : REL I L) (hk : 6 * k + 6 ≤ n) (hn : n ≤ 3072) (post : ∀ I' L', REL I' L' → am_W (m_W n xs) 282 mc ms true bc bs 3223 (lwL k) [] Γ I' L' Q) : am_W (m_W n xs) 282 mc ms true (bc + 1) (bs + 6) 2884 (lwL k) [] Γ I L Q := by
  obtain ⟨I1, L1, I2, c, v, hc3, hC, hM, hR, ht, h0⟩ := hx_sufficientLimit W R (xs (nn (6 * k) + 1).toNatClampNeg)
  refine aw_aload_n dW_2884 rfl ?_
  refine aw_aload_nT dW_2885 rfl ?_
  refine aw_iload dW_2886 rfl ?_
  refine aw_iconst dW_2888 ci_1 ?_
  refine aw_iadd dW_2889 ?_
  refine aw_sld rfl dW_2890 (sa_in1 hk hn) ?_
  refine aw_aload_n dW_2891 rfl ?_
  refine aw_askSW (as := [.ref 0, .int (xs (nn (6 * k) + 1).toNatClampNeg), .ref 463]) (rst := []) kw_L_sufficientLimit (by decide) rfl l_L_336 t_L_sufficientLimit dW_2892 rfl (Nat.le_of_ble_eq_true rfl) (Nat.le_add_left _ _) (Nat.le_add_left _ _) hC rfl rfl ?_
  refine aw_istore (ls' := [(0, .retAddr 60), (1, .ref 0), (2, .ref 450), (3, .ref 463), (4, .ref 464), (5, .int (nn (6 * k))), (6, .int (nn c))]) dW_2895 (show (6 : Nat) < 10 by decide) rfl ?_
  refine aw_aload_n dW_2897 rfl ?_
  refine aw_aload_nT dW_2898 rfl ?_
  refine aw_iload dW_2899 rfl ?_
  refine aw_iconst dW_2901 ci_1 ?_
  refine aw_iadd dW_2902 ?_
  refine aw_sld rfl dW_2903 (sa_in1 hk hn) ?_
  refine aw_askV (as := [.int (xs (nn (6 * k) + 1).toNatClampNeg)]) (rst := []) k_X9_sufficientLimit l_L_338 i_X9_sufficientLimit s_X9_sufficientLimit rfl W.m dW_2904 rfl (Nat.le_of_ble_eq_true rfl) (Nat.zero_le _) (Nat.zero_le _) hM rfl rfl ?_
  refine aw_istore (ls' := [(0, .retAddr 60), (1, .ref 0), (2, .ref 450), (3, .ref 463), (4, .ref 464), (5, .int (nn (6 * k))), (6, .int (nn c)), (7, .int v)]) dW_2907 (show (7 : Nat) < 10 by decide) rfl ?_
  refine aw_aload_n dW_2909 rfl ?_
  refine aw_askV (as := []) (rst := []) k_X9_thrown l_L_157 i_X9_thrown s_X9_thrown rfl W.m dW_2910 rfl (Nat.le_of_ble_eq_true rfl) (Nat.zero_le _) (Nat.zero_le _) (eXW_thrown W.m) rfl rfl ?_
  refine aw_iload dW_2913 rfl ?_
  refine aw_icmp_eq (tgt := 2920) dW_2915 (by decide) (fun _ => ?_) (fun z => absurd ht z)
  refine aw_iload dW_2920 rfl ?_
  have fin : am_W (m_W n xs) 282 mc ms true (bc + 1 - 1 - 0 - 0) (bs + 6 - 6 - 0 - 0) 2937 ([(0, .retAddr 60), (1, .ref 0), (2, .ref 450), (3, .ref 463), (4, .ref 464), (5, .int (nn (6 * k))), (6, .int (nn c)), (7, .int v)]) [] Γ I2 L1 Q := by
    refine aw_goto (tgt := 3223) dW_2937 (by decide) ?_
    refine aw_ls (ls' := lwL k) (fun q hq => List.mem_append_left [(6, _), (7, _)] hq) ?_
    exact aw_less (by omega) (by omega) (post I2 L1 hR)
  refine aw_if_ne (tgt := 2937) dW_2922 (by decide) (fun _ => fin) (fun z => ?_)
  have hv := h0 ((nn0_iff hc3).mp z)
  refine aw_aload_n dW_2925 rfl ?_
  refine aw_iconst dW_2926 ci_0 ?_
  refine aw_lald dW_2927 W.a (nn_in (k := 0) (by decide) (by decide)) ?_
  rw [c0, hv]
  refine aw_iload dW_2928 rfl ?_
  refine aw_i2l dW_2930 ?_
  refine aw_lcmp dW_2931 ?_
  exact aw_if_eq (tgt := 2937) dW_2932 (by decide) (fun _ => fin) (fun z2 => absurd (lgc_eq.mpr rfl) z2)
theorem cs_55 (W : wld G Γ) (R : REL I L) (hk : 6 * k + 6 ≤ n) (hn : n ≤ 3072) (post : ∀ I' L', REL I' L' → am_W (m_W n xs) 282 mc ms true bc bs 3223 (lwL k) [] Γ I' L' Q) : am_W (m_W n xs) 282 mc ms true (bc + 1) (bs + 6) 2940 (lwL k) [] Γ I L Q := by
  obtain ⟨I1, L1, I2, v, hC, hM, hR⟩ := dX_of W (fX_stalestGate W.F R)
  refine aw_aload_n dW_2940 rfl ?_
  refine aw_askV (as := []) (rst := []) k_X8_stalestGate l_L_339 i_X8_stalestGate s_X8_stalestGate rfl W.ox dW_2941 rfl (Nat.le_of_ble_eq_true rfl) (Nat.le_add_left _ _) (Nat.le_add_left _ _) hC rfl rfl ?_
  refine aw_aload_n dW_2944 rfl ?_
  refine aw_askV (as := []) (rst := [.int v]) k_X9_stalestGate l_L_342 i_X9_stalestGate s_X9_stalestGate rfl W.m dW_2945 rfl (Nat.le_of_ble_eq_true rfl) (Nat.zero_le _) (Nat.zero_le _) hM rfl rfl ?_
  refine aw_icmp_eq (tgt := 3223) dW_2948 (by decide) (fun _ => ?_) (fun z => absurd rfl z)
  exact aw_less (Nat.le_of_eq (Nat.add_sub_cancel _ _).symm) (Nat.le_of_eq (Nat.add_sub_cancel _ _).symm) (post I2 L1 hR)
theorem cs_56 (W : wld G Γ) (R : REL I L) (hk : 6 * k + 6 ≤ n) (hn : n ≤ 3072) (post : ∀ I' L', REL I' L' → am_W (m_W n xs) 282 mc ms true bc bs 3223 (lwL k) [] Γ I' L' Q) : am_W (m_W n xs) 282 mc ms true (bc + 1) (bs + 6) 2953 (lwL k) [] Γ I L Q := by
  obtain ⟨I1, L1, I2, c, v, hc3, hC, hM, hR, ht, h0⟩ := hx_quickestGate W R (xs (nn (6 * k) + 1).toNatClampNeg)
  refine aw_aload_n dW_2953 rfl ?_
  refine aw_aload_nT dW_2954 rfl ?_
  refine aw_iload dW_2955 rfl ?_
  refine aw_iconst dW_2957 ci_1 ?_
  refine aw_iadd dW_2958 ?_
  refine aw_sld rfl dW_2959 (sa_in1 hk hn) ?_
  refine aw_aload_n dW_2960 rfl ?_
  refine aw_askSW (as := [.ref 0, .int (xs (nn (6 * k) + 1).toNatClampNeg), .ref 463]) (rst := []) kw_L_quickestGate (by decide) rfl l_L_343 t_L_quickestGate dW_2961 rfl (Nat.le_of_ble_eq_true rfl) (Nat.le_add_left _ _) (Nat.le_add_left _ _) hC rfl rfl ?_
  refine aw_istore (ls' := [(0, .retAddr 60), (1, .ref 0), (2, .ref 450), (3, .ref 463), (4, .ref 464), (5, .int (nn (6 * k))), (6, .int (nn c))]) dW_2964 (show (6 : Nat) < 10 by decide) rfl ?_
  refine aw_aload_n dW_2966 rfl ?_
  refine aw_aload_nT dW_2967 rfl ?_
  refine aw_iload dW_2968 rfl ?_
  refine aw_iconst dW_2970 ci_1 ?_
  refine aw_iadd dW_2971 ?_
  refine aw_sld rfl dW_2972 (sa_in1 hk hn) ?_
  refine aw_askV (as := [.int (xs (nn (6 * k) + 1).toNatClampNeg)]) (rst := []) k_X9_quickestGate l_L_345 i_X9_quickestGate s_X9_quickestGate rfl W.m dW_2973 rfl (Nat.le_of_ble_eq_true rfl) (Nat.zero_le _) (Nat.zero_le _) hM rfl rfl ?_
  refine aw_istore (ls' := [(0, .retAddr 60), (1, .ref 0), (2, .ref 450), (3, .ref 463), (4, .ref 464), (5, .int (nn (6 * k))), (6, .int (nn c)), (7, .int v)]) dW_2976 (show (7 : Nat) < 10 by decide) rfl ?_
  refine aw_aload_n dW_2978 rfl ?_
  refine aw_askV (as := []) (rst := []) k_X9_thrown l_L_157 i_X9_thrown s_X9_thrown rfl W.m dW_2979 rfl (Nat.le_of_ble_eq_true rfl) (Nat.zero_le _) (Nat.zero_le _) (eXW_thrown W.m) rfl rfl ?_
  refine aw_iload dW_2982 rfl ?_
  refine aw_icmp_eq (tgt := 2989) dW_2984 (by decide) (fun _ => ?_) (fun z => absurd ht z)
  refine aw_iload dW_2989 rfl ?_
  have fin : am_W (m_W n xs) 282 mc ms true (bc + 1 - 1 - 0 - 0) (bs + 6 - 6 - 0 - 0) 3006 ([(0, .retAddr 60), (1, .ref 0), (2, .ref 450), (3, .ref 463), (4, .ref 464), (5, .int (nn (6 * k))), (6, .int (nn c)), (7, .int v)]) [] Γ I2 L1 Q := by
    refine aw_goto (tgt := 3223) dW_3006 (by decide) ?_
    refine aw_ls (ls' := lwL k) (fun q hq => List.mem_append_left [(6, _), (7, _)] hq) ?_
    exact aw_less (by omega) (by omega) (post I2 L1 hR)
  refine aw_if_ne (tgt := 3006) dW_2991 (by decide) (fun _ => fin) (fun z => ?_)
  have hv := h0 ((nn0_iff hc3).mp z)
  refine aw_aload_n dW_2994 rfl ?_
  refine aw_iconst dW_2995 ci_0 ?_
  refine aw_lald dW_2996 W.a (nn_in (k := 0) (by decide) (by decide)) ?_
  rw [c0, hv]
  refine aw_iload dW_2997 rfl ?_
  refine aw_i2l dW_2999 ?_
  refine aw_lcmp dW_3000 ?_
  exact aw_if_eq (tgt := 3006) dW_3001 (by decide) (fun _ => fin) (fun z2 => absurd (lgc_eq.mpr rfl) z2)
theorem cs_57 (W : wld G Γ) (R : REL I L) (hk : 6 * k + 6 ≤ n) (hn : n ≤ 3072) (post : ∀ I' L', REL I' L' → am_W (m_W n xs) 282 mc ms true bc bs 3223 (lwL k) [] Γ I' L' Q) : am_W (m_W n xs) 282 mc ms true (bc + 1) (bs + 6) 3009 (lwL k) [] Γ I L Q := by
  obtain ⟨I1, L1, I2, v, hC, hM, hR⟩ := dX_of W (fX_inconsistencies W.F R)
  refine aw_aload_n dW_3009 rfl ?_
  refine aw_askV (as := []) (rst := []) k_X8_inconsistencies l_L_346 i_X8_inconsistencies s_X8_inconsistencies rfl W.ox dW_3010 rfl (Nat.le_of_ble_eq_true rfl) (Nat.le_add_left _ _) (Nat.le_add_left _ _) hC rfl rfl ?_
  refine aw_aload_n dW_3013 rfl ?_
  refine aw_askV (as := []) (rst := [.int v]) k_X9_inconsistencies l_L_349 i_X9_inconsistencies s_X9_inconsistencies rfl W.m dW_3014 rfl (Nat.le_of_ble_eq_true rfl) (Nat.zero_le _) (Nat.zero_le _) hM rfl rfl ?_
  refine aw_icmp_eq (tgt := 3223) dW_3017 (by decide) (fun _ => ?_) (fun z => absurd rfl z)
  exact aw_less (Nat.le_of_eq (Nat.add_sub_cancel _ _).symm) (Nat.le_of_eq (Nat.add_sub_cancel _ _).symm) (post I2 L1 hR)
theorem cs_58 (W : wld G Γ) (R : REL I L) (hk : 6 * k + 6 ≤ n) (hn : n ≤ 3072) (post : ∀ I' L', REL I' L' → am_W (m_W n xs) 282 mc ms true bc bs 3223 (lwL k) [] Γ I' L' Q) : am_W (m_W n xs) 282 mc ms true (bc + 1) (bs + 6) 3022 (lwL k) [] Γ I L Q := by
  obtain ⟨I1, L1, I2, c, v, hc3, hC, hM, hR, ht, h0⟩ := hx_meanPathCost W R (xs (nn (6 * k) + 1).toNatClampNeg)
  refine aw_aload_n dW_3022 rfl ?_
  refine aw_aload_nT dW_3023 rfl ?_
  refine aw_iload dW_3024 rfl ?_
  refine aw_iconst dW_3026 ci_1 ?_
  refine aw_iadd dW_3027 ?_
  refine aw_sld rfl dW_3028 (sa_in1 hk hn) ?_
  refine aw_aload dW_3029 rfl ?_
  refine aw_askSW (as := [.ref 0, .int (xs (nn (6 * k) + 1).toNatClampNeg), .ref 464]) (rst := []) kw_L_meanPathCost (by decide) rfl l_L_350 t_L_meanPathCost dW_3031 rfl (Nat.le_of_ble_eq_true rfl) (Nat.le_add_left _ _) (Nat.le_add_left _ _) hC rfl rfl ?_
  refine aw_istore (ls' := [(0, .retAddr 60), (1, .ref 0), (2, .ref 450), (3, .ref 463), (4, .ref 464), (5, .int (nn (6 * k))), (6, .int (nn c))]) dW_3034 (show (6 : Nat) < 10 by decide) rfl ?_
  refine aw_aload_n dW_3036 rfl ?_
  refine aw_aload_nT dW_3037 rfl ?_
  refine aw_iload dW_3038 rfl ?_
  refine aw_iconst dW_3040 ci_1 ?_
  refine aw_iadd dW_3041 ?_
  refine aw_sld rfl dW_3042 (sa_in1 hk hn) ?_
  refine aw_askV (as := [.int (xs (nn (6 * k) + 1).toNatClampNeg)]) (rst := []) k_X9_meanPathCost l_L_353 i_X9_meanPathCost s_X9_meanPathCost rfl W.m dW_3043 rfl (Nat.le_of_ble_eq_true rfl) (Nat.zero_le _) (Nat.zero_le _) hM rfl rfl ?_
  refine aw_dstore (ls' := [(0, .retAddr 60), (1, .ref 0), (2, .ref 450), (3, .ref 463), (4, .ref 464), (5, .int (nn (6 * k))), (6, .int (nn c)), (7, .double v)]) dW_3046 (show (8 : Nat) < 10 by decide) rfl ?_
  refine aw_aload_n dW_3048 rfl ?_
  refine aw_askV (as := []) (rst := []) k_X9_thrown l_L_157 i_X9_thrown s_X9_thrown rfl W.m dW_3049 rfl (Nat.le_of_ble_eq_true rfl) (Nat.zero_le _) (Nat.zero_le _) (eXW_thrown W.m) rfl rfl ?_
  refine aw_iload dW_3052 rfl ?_
  refine aw_icmp_eq (tgt := 3059) dW_3054 (by decide) (fun _ => ?_) (fun z => absurd ht z)
  refine aw_iload dW_3059 rfl ?_
  have fin : am_W (m_W n xs) 282 mc ms true (bc + 1 - 1 - 0 - 0) (bs + 6 - 6 - 0 - 0) 3096 ([(0, .retAddr 60), (1, .ref 0), (2, .ref 450), (3, .ref 463), (4, .ref 464), (5, .int (nn (6 * k))), (6, .int (nn c)), (7, .double v)]) [] Γ I2 L1 Q := by
    refine aw_goto (tgt := 3223) dW_3096 (by decide) ?_
    refine aw_ls (ls' := lwL k) (fun q hq => List.mem_append_left [(6, _), (7, _)] hq) ?_
    exact aw_less (by omega) (by omega) (post I2 L1 hR)
  refine aw_if_ne (tgt := 3096) dW_3061 (by decide) (fun _ => fin) (fun z => ?_)
  have hv := h0 ((nn0_iff hc3).mp z)
  refine aw_aload dW_3064 rfl ?_
  refine aw_iconst dW_3066 ci_0 ?_
  refine aw_dald dW_3067 W.b (nn_in (k := 0) (by decide) (by decide)) ?_
  rw [c0, hv, UInt64.toUInt64_toInt64]
  refine aw_dload dW_3068 rfl ?_
  refine aw_dcmp dW_3070 ?_
  refine aw_if_eq (tgt := 3096) dW_3071 (by decide) (fun _ => fin) (fun z2 => ?_)
  refine aw_aload dW_3074 rfl ?_
  refine aw_iconst dW_3076 ci_0 ?_
  refine aw_dald dW_3077 W.b (nn_in (k := 0) (by decide) (by decide)) ?_
  refine aw_aload dW_3078 rfl ?_
  refine aw_iconst dW_3080 ci_0 ?_
  refine aw_dald dW_3081 W.b (nn_in (k := 0) (by decide) (by decide)) ?_
  rw [c0, hv, UInt64.toUInt64_toInt64]
  refine aw_dcmp dW_3082 ?_
  refine aw_if_eq (tgt := 3094) dW_3083 (by decide) (fun z3 => absurd z3 z2) (fun _ => ?_)
  refine aw_dload dW_3086 rfl ?_
  refine aw_dload dW_3088 rfl ?_
  refine aw_dcmp dW_3090 ?_
  exact aw_if_ne (tgt := 3096) dW_3091 (by decide) (fun _ => fin) (fun z3 => absurd z3 z2)
theorem cs_59 (W : wld G Γ) (R : REL I L) (hk : 6 * k + 6 ≤ n) (hn : n ≤ 3072) (post : ∀ I' L', REL I' L' → am_W (m_W n xs) 282 mc ms true bc bs 3223 (lwL k) [] Γ I' L' Q) : am_W (m_W n xs) 282 mc ms true (bc + 1) (bs + 6) 3099 (lwL k) [] Γ I L Q := by
  obtain ⟨I2, v, hC, hM, hR, hv, -⟩ := fX_correctShare W.F R
  have hq : vf_n64 (FP.f2d v) := by
    rcases hv with rfl | ⟨a, b, h0, rfl⟩
    · exact fp_one
    · exact fp_c a h0
  have e1 := (W.fr (J := I) (M := L) hC (fun _ _ => rfl) (fun _ _ => rfl)).up (d' := 281) (by decide)
  have e2 := (W.fr (J := I) (M := L) hM (fun _ _ => rfl) (fun _ _ => rfl)).up (d' := 281) (by decide)
  rw [pch_id (f := I) (fun _ _ => rfl), pch_id (f := L) (fun _ _ => rfl)] at e1
  rw [pch_id (f := L) (fun _ _ => rfl)] at e2
  refine aw_aload_n dW_3099 rfl ?_
  refine aw_askV (as := []) (rst := []) k_X8_correctShare l_L_354 i_X8_correctShare s_X8_correctShare rfl W.ox dW_3100 rfl (Nat.le_of_ble_eq_true rfl) (Nat.le_add_left _ _) (Nat.le_add_left _ _) e1 rfl rfl ?_
  refine aw_f2d dW_3103 hq ?_
  refine aw_dstore (ls' := [(0, .retAddr 60), (1, .ref 0), (2, .ref 450), (3, .ref 463), (4, .ref 464), (5, .int (nn (6 * k))), (6, .double (FP.f2d v))]) dW_3104 (show (7 : Nat) < 10 by decide) rfl ?_
  refine aw_aload_n dW_3106 rfl ?_
  refine aw_askV (as := []) (rst := []) k_X9_correctShare l_L_358 i_X9_correctShare s_X9_correctShare rfl W.m dW_3107 rfl (Nat.le_of_ble_eq_true rfl) (Nat.zero_le _) (Nat.zero_le _) e2 rfl rfl ?_
  refine aw_f2d dW_3110 hq ?_
  refine aw_dstore (ls' := [(0, .retAddr 60), (1, .ref 0), (2, .ref 450), (3, .ref 463), (4, .ref 464), (5, .int (nn (6 * k))), (6, .double (FP.f2d v)), (8, .double (FP.f2d v))]) dW_3111 (show (9 : Nat) < 10 by decide) rfl ?_
  have fin : am_W (m_W n xs) 282 mc ms true (bc + 1 - 1 - 0) (bs + 6 - 6 - 0) 3139 ([(0, .retAddr 60), (1, .ref 0), (2, .ref 450), (3, .ref 463), (4, .ref 464), (5, .int (nn (6 * k))), (6, .double (FP.f2d v)), (8, .double (FP.f2d v))]) [] Γ (pch 463 I2 I) L Q := by
    refine aw_goto (tgt := 3223) dW_3139 (by decide) ?_
    refine aw_ls (ls' := lwL k) (fun q hq => List.mem_append_left [(6, _), (8, _)] hq) ?_
    exact aw_less (by omega) (by omega) (post _ _ (hR.cg (fun j hj => pch_lt hj) (fun _ _ => rfl)))
  refine aw_dload dW_3113 rfl ?_
  refine aw_dload dW_3115 rfl ?_
  refine aw_dcmp dW_3117 ?_
  refine aw_if_eq (tgt := 3139) dW_3118 (by decide) (fun _ => fin) (fun z => ?_)
  refine aw_dload dW_3121 rfl ?_
  refine aw_dload dW_3123 rfl ?_
  refine aw_dcmp dW_3125 ?_
  refine aw_if_eq (tgt := 3137) dW_3126 (by decide) (fun z2 => absurd z2 z) (fun _ => ?_)
  refine aw_dload dW_3129 rfl ?_
  refine aw_dload dW_3131 rfl ?_
  refine aw_dcmp dW_3133 ?_
  exact aw_if_ne (tgt := 3139) dW_3134 (by decide) (fun _ => fin) (fun z2 => absurd z2 z)
theorem cs_60 (W : wld G Γ) (R : REL I L) (hk : 6 * k + 6 ≤ n) (hn : n ≤ 3072) (post : ∀ I' L', REL I' L' → am_W (m_W n xs) 282 mc ms true bc bs 3223 (lwL k) [] Γ I' L' Q) : am_W (m_W n xs) 282 mc ms true (bc + 1) (bs + 6) 3142 (lwL k) [] Γ I L Q := by
  obtain ⟨I1, L1, I2, c, v, hc3, hC, hM, hR, ht, h0⟩ := hx_writeTree W R (xs (nn (6 * k) + 1).toNatClampNeg)
  refine aw_aload_n dW_3142 rfl ?_
  refine aw_aload_nT dW_3143 rfl ?_
  refine aw_iload dW_3144 rfl ?_
  refine aw_iconst dW_3146 ci_1 ?_
  refine aw_iadd dW_3147 ?_
  refine aw_sld rfl dW_3148 (sa_in1 hk hn) ?_
  refine aw_aload_n dW_3149 rfl ?_
  refine aw_askSW (as := [.ref 0, .int (xs (nn (6 * k) + 1).toNatClampNeg), .ref 463]) (rst := []) kw_L_writeTree (by decide) rfl l_L_359 t_L_writeTree dW_3150 rfl (Nat.le_of_ble_eq_true rfl) (Nat.le_add_left _ _) (Nat.le_add_left _ _) hC rfl rfl ?_
  refine aw_istore (ls' := [(0, .retAddr 60), (1, .ref 0), (2, .ref 450), (3, .ref 463), (4, .ref 464), (5, .int (nn (6 * k))), (6, .int (nn c))]) dW_3153 (show (6 : Nat) < 10 by decide) rfl ?_
  refine aw_aload_n dW_3155 rfl ?_
  refine aw_aload_nT dW_3156 rfl ?_
  refine aw_iload dW_3157 rfl ?_
  refine aw_iconst dW_3159 ci_1 ?_
  refine aw_iadd dW_3160 ?_
  refine aw_sld rfl dW_3161 (sa_in1 hk hn) ?_
  refine aw_askV (as := [.int (xs (nn (6 * k) + 1).toNatClampNeg)]) (rst := []) k_X9_writeTree l_L_361 i_X9_writeTree s_X9_writeTree rfl W.m dW_3162 rfl (Nat.le_of_ble_eq_true rfl) (Nat.zero_le _) (Nat.zero_le _) hM rfl rfl ?_
  refine aw_istore (ls' := [(0, .retAddr 60), (1, .ref 0), (2, .ref 450), (3, .ref 463), (4, .ref 464), (5, .int (nn (6 * k))), (6, .int (nn c)), (7, .int v)]) dW_3165 (show (7 : Nat) < 10 by decide) rfl ?_
  refine aw_aload_n dW_3167 rfl ?_
  refine aw_askV (as := []) (rst := []) k_X9_thrown l_L_157 i_X9_thrown s_X9_thrown rfl W.m dW_3168 rfl (Nat.le_of_ble_eq_true rfl) (Nat.zero_le _) (Nat.zero_le _) (eXW_thrown W.m) rfl rfl ?_
  refine aw_iload dW_3171 rfl ?_
  refine aw_icmp_eq (tgt := 3178) dW_3173 (by decide) (fun _ => ?_) (fun z => absurd ht z)
  refine aw_iload dW_3178 rfl ?_
  have fin : am_W (m_W n xs) 282 mc ms true (bc + 1 - 1 - 0 - 0) (bs + 6 - 6 - 0 - 0) 3195 ([(0, .retAddr 60), (1, .ref 0), (2, .ref 450), (3, .ref 463), (4, .ref 464), (5, .int (nn (6 * k))), (6, .int (nn c)), (7, .int v)]) [] Γ I2 L1 Q := by
    refine aw_goto (tgt := 3223) dW_3195 (by decide) ?_
    refine aw_ls (ls' := lwL k) (fun q hq => List.mem_append_left [(6, _), (7, _)] hq) ?_
    exact aw_less (by omega) (by omega) (post I2 L1 hR)
  refine aw_if_ne (tgt := 3195) dW_3180 (by decide) (fun _ => fin) (fun z => ?_)
  have hv := h0 ((nn0_iff hc3).mp z)
  refine aw_aload_n dW_3183 rfl ?_
  refine aw_iconst dW_3184 ci_0 ?_
  refine aw_lald dW_3185 W.a (nn_in (k := 0) (by decide) (by decide)) ?_
  rw [c0, hv]
  refine aw_iload dW_3186 rfl ?_
  refine aw_i2l dW_3188 ?_
  refine aw_lcmp dW_3189 ?_
  exact aw_if_eq (tgt := 3195) dW_3190 (by decide) (fun _ => fin) (fun z2 => absurd (lgc_eq.mpr rfl) z2)
theorem cs_61 (W : wld G Γ) (R : REL I L) (hk : 6 * k + 6 ≤ n) (hn : n ≤ 3072) (post : ∀ I' L', REL I' L' → am_W (m_W n xs) 282 mc ms true bc bs 3223 (lwL k) [] Γ I' L' Q) : am_W (m_W n xs) 282 mc ms true (bc + 1) (bs + 6) 3198 (lwL k) [] Γ I L Q := by
  obtain ⟨I1, L1, I2, v, hC, hM, hR⟩ := dX_of W (fX_outputByte W.F R (xs (nn (6 * k) + 1).toNatClampNeg))
  refine aw_aload_n dW_3198 rfl ?_
  refine aw_aload_nT dW_3199 rfl ?_
  refine aw_iload dW_3200 rfl ?_
  refine aw_iconst dW_3202 ci_1 ?_
  refine aw_iadd dW_3203 ?_
  refine aw_sld rfl dW_3204 (sa_in1 hk hn) ?_
  refine aw_askV (as := [.int (xs (nn (6 * k) + 1).toNatClampNeg)]) (rst := []) k_X8_outputByte l_L_362 i_X8_outputByte s_X8_outputByte rfl W.ox dW_3205 rfl (Nat.le_of_ble_eq_true rfl) (Nat.le_add_left _ _) (Nat.le_add_left _ _) hC rfl rfl ?_
  refine aw_aload_n dW_3208 rfl ?_
  refine aw_aload_nT dW_3209 rfl ?_
  refine aw_iload dW_3210 rfl ?_
  refine aw_iconst dW_3212 ci_1 ?_
  refine aw_iadd dW_3213 ?_
  refine aw_sld rfl dW_3214 (sa_in1 hk hn) ?_
  refine aw_askV (as := [.int (xs (nn (6 * k) + 1).toNatClampNeg)]) (rst := [.int v]) k_X9_outputByte l_L_365 i_X9_outputByte s_X9_outputByte rfl W.m dW_3215 rfl (Nat.le_of_ble_eq_true rfl) (Nat.zero_le _) (Nat.zero_le _) hM rfl rfl ?_
  refine aw_icmp_eq (tgt := 3223) dW_3218 (by decide) (fun _ => ?_) (fun z => absurd rfl z)
  exact aw_less (Nat.le_of_eq (Nat.add_sub_cancel _ _).symm) (Nat.le_of_eq (Nat.add_sub_cancel _ _).symm) (post I2 L1 hR)
end LWC
