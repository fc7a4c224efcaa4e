/-! THE LAW'S BODY: CASES 0 TO 1 -/
section LWC
variable {n k mc ms bc bs : Nat} {xs : Nat → Int32} {G Γ : am_G} {I : am_I} {L : am_L} {Q : am_Q}
theorem sa_in (h : 6 * k + 6 ≤ n) (h2 : n ≤ 3072) (c : Nat) (hc : c < 6) : vp_in (nn (6 * k) + nn c) n := by
  rw [nn_add]
  exact nn_in (by omega) (by omega)
theorem sa_in1 (h : 6 * k + 6 ≤ n) (h2 : n ≤ 3072) : vp_in (nn (6 * k) + 1) n := sa_in h h2 1 (by decide)
theorem sa_in2 (h : 6 * k + 6 ≤ n) (h2 : n ≤ 3072) : vp_in (nn (6 * k) + 2) n := sa_in h h2 2 (by decide)
theorem sa_in3 (h : 6 * k + 6 ≤ n) (h2 : n ≤ 3072) : vp_in (nn (6 * k) + 3) n := sa_in h h2 3 (by decide)
theorem sa_in4 (h : 6 * k + 6 ≤ n) (h2 : n ≤ 3072) : vp_in (nn (6 * k) + 4) n := sa_in h h2 4 (by decide)
theorem sa_in5 (h : 6 * k + 6 ≤ n) (h2 : n ≤ 3072) : vp_in (nn (6 * k) + 5) n := sa_in h h2 5 (by decide)
theorem nn0_iff {k : Nat} (h : k ≤ 3) : nn k = 0 ↔ k = 0 := by
  rw [show (0 : Int32) = nn 0 from rfl, nn_eq (by omega) (by decide)]
theorem cs_0 (W : wld G Γ) (R : REL I L) (hk : 6 * k + 6 ≤ n) (hn : n ≤ 3072) (post : ∀ I' L', REL I' L' → am_W (m_W n xs) 282 mc ms true bc bs 3223 (lwL k) [] Γ I' L' Q) : am_W (m_W n xs) 282 mc ms true (bc + 1) (bs + 6) 308 (lwL k) [] Γ I L Q := by
  obtain ⟨I1, L1, I2, v, hC, hM, hR⟩ := dX_of W (fX_append W.F R (xs (nn (6 * k) + 1).toNatClampNeg) (xs (nn (6 * k) + 2).toNatClampNeg) (xs (nn (6 * k) + 3).toNatClampNeg) (xs (nn (6 * k) + 4).toNatClampNeg) (xs (nn (6 * k) + 5).toNatClampNeg))
  refine aw_aload_n dW_308 rfl ?_
  refine aw_aload_nT dW_309 rfl ?_
  refine aw_iload dW_310 rfl ?_
  refine aw_iconst dW_312 ci_1 ?_
  refine aw_iadd dW_313 ?_
  refine aw_sld rfl dW_314 (sa_in1 hk hn) ?_
  refine aw_aload_nT dW_315 rfl ?_
  refine aw_iload dW_316 rfl ?_
  refine aw_iconst dW_318 ci_2 ?_
  refine aw_iadd dW_319 ?_
  refine aw_sld rfl dW_320 (sa_in2 hk hn) ?_
  refine aw_aload_nT dW_321 rfl ?_
  refine aw_iload dW_322 rfl ?_
  refine aw_iconst dW_324 ci_3 ?_
  refine aw_iadd dW_325 ?_
  refine aw_sld rfl dW_326 (sa_in3 hk hn) ?_
  refine aw_aload_nT dW_327 rfl ?_
  refine aw_iload dW_328 rfl ?_
  refine aw_iconst dW_330 ci_4 ?_
  refine aw_iadd dW_331 ?_
  refine aw_sld rfl dW_332 (sa_in4 hk hn) ?_
  refine aw_aload_nT dW_333 rfl ?_
  refine aw_iload dW_334 rfl ?_
  refine aw_iconst dW_336 ci_5 ?_
  refine aw_iadd dW_337 ?_
  refine aw_sld rfl dW_338 (sa_in5 hk hn) ?_
  refine aw_askV (as := [.int (xs (nn (6 * k) + 1).toNatClampNeg), .int (xs (nn (6 * k) + 2).toNatClampNeg), .int (xs (nn (6 * k) + 3).toNatClampNeg), .int (xs (nn (6 * k) + 4).toNatClampNeg), .int (xs (nn (6 * k) + 5).toNatClampNeg)]) (rst := []) k_X8_append l_L_146 i_X8_append s_X8_append rfl W.ox dW_339 rfl (Nat.le_of_ble_eq_true rfl) (Nat.le_add_left _ _) (Nat.le_add_left _ _) hC rfl rfl ?_
  refine aw_aload_n dW_342 rfl ?_
  refine aw_aload_nT dW_343 rfl ?_
  refine aw_iload dW_344 rfl ?_
  refine aw_iconst dW_346 ci_1 ?_
  refine aw_iadd dW_347 ?_
  refine aw_sld rfl dW_348 (sa_in1 hk hn) ?_
  refine aw_aload_nT dW_349 rfl ?_
  refine aw_iload dW_350 rfl ?_
  refine aw_iconst dW_352 ci_2 ?_
  refine aw_iadd dW_353 ?_
  refine aw_sld rfl dW_354 (sa_in2 hk hn) ?_
  refine aw_aload_nT dW_355 rfl ?_
  refine aw_iload dW_356 rfl ?_
  refine aw_iconst dW_358 ci_3 ?_
  refine aw_iadd dW_359 ?_
  refine aw_sld rfl dW_360 (sa_in3 hk hn) ?_
  refine aw_aload_nT dW_361 rfl ?_
  refine aw_iload dW_362 rfl ?_
  refine aw_iconst dW_364 ci_4 ?_
  refine aw_iadd dW_365 ?_
  refine aw_sld rfl dW_366 (sa_in4 hk hn) ?_
  refine aw_aload_nT dW_367 rfl ?_
  refine aw_iload dW_368 rfl ?_
  refine aw_iconst dW_370 ci_5 ?_
  refine aw_iadd dW_371 ?_
  refine aw_sld rfl dW_372 (sa_in5 hk hn) ?_
  refine aw_askV (as := [.int (xs (nn (6 * k) + 1).toNatClampNeg), .int (xs (nn (6 * k) + 2).toNatClampNeg), .int (xs (nn (6 * k) + 3).toNatClampNeg), .int (xs (nn (6 * k) + 4).toNatClampNeg), .int (xs (nn (6 * k) + 5).toNatClampNeg)]) (rst := [.int v]) k_X9_append l_L_150 i_X9_append s_X9_append rfl W.m dW_373 rfl (Nat.le_of_ble_eq_true rfl) (Nat.zero_le _) (Nat.zero_le _) hM rfl rfl ?_
  refine aw_icmp_eq (tgt := 3223) dW_376 (by decide) (fun _ => ?_) (fun z => absurd rfl z)
  exact aw_less (Nat.le_of_eq (Nat.add_sub_cancel _ _).symm) (Nat.le_of_eq (Nat.add_sub_cancel _ _).symm) (post I2 L1 hR)
theorem cs_1 (W : wld G Γ) (R : REL I L) (hk : 6 * k + 6 ≤ n) (hn : n ≤ 3072) (post : ∀ I' L', REL I' L' → am_W (m_W n xs) 282 mc ms true bc bs 3223 (lwL k) [] Γ I' L' Q) : am_W (m_W n xs) 282 mc ms true (bc + 1) (bs + 6) 381 (lwL k) [] Γ I L Q := by
  obtain ⟨I1, L1, I2, c, v, hc3, hC, hM, hR, ht, h0⟩ := hx_truncateInput W R (xs (nn (6 * k) + 1).toNatClampNeg)
  refine aw_aload_n dW_381 rfl ?_
  refine aw_aload_nT dW_382 rfl ?_
  refine aw_iload dW_383 rfl ?_
  refine aw_iconst dW_385 ci_1 ?_
  refine aw_iadd dW_386 ?_
  refine aw_sld rfl dW_387 (sa_in1 hk hn) ?_
  refine aw_aload_n dW_388 rfl ?_
  refine aw_askSW (as := [.ref 0, .int (xs (nn (6 * k) + 1).toNatClampNeg), .ref 463]) (rst := []) kw_L_truncateInput (by decide) rfl l_L_151 t_L_truncateInput dW_389 rfl (Nat.le_of_ble_eq_true rfl) (Nat.le_add_left _ _) (Nat.le_add_left _ _) hC rfl rfl ?_
  refine aw_istore (ls' := [(0, .retAddr 60), (1, .ref 0), (2, .ref 450), (3, .ref 463), (4, .ref 464), (5, .int (nn (6 * k))), (6, .int (nn c))]) dW_392 (show (6 : Nat) < 10 by decide) rfl ?_
  refine aw_aload_n dW_394 rfl ?_
  refine aw_aload_nT dW_395 rfl ?_
  refine aw_iload dW_396 rfl ?_
  refine aw_iconst dW_398 ci_1 ?_
  refine aw_iadd dW_399 ?_
  refine aw_sld rfl dW_400 (sa_in1 hk hn) ?_
  refine aw_askV (as := [.int (xs (nn (6 * k) + 1).toNatClampNeg)]) (rst := []) k_X9_truncateInput l_L_156 i_X9_truncateInput s_X9_truncateInput rfl W.m dW_401 rfl (Nat.le_of_ble_eq_true rfl) (Nat.zero_le _) (Nat.zero_le _) hM rfl rfl ?_
  refine aw_istore (ls' := [(0, .retAddr 60), (1, .ref 0), (2, .ref 450), (3, .ref 463), (4, .ref 464), (5, .int (nn (6 * k))), (6, .int (nn c)), (7, .int v)]) dW_404 (show (7 : Nat) < 10 by decide) rfl ?_
  refine aw_aload_n dW_406 rfl ?_
  refine aw_askV (as := []) (rst := []) k_X9_thrown l_L_157 i_X9_thrown s_X9_thrown rfl W.m dW_407 rfl (Nat.le_of_ble_eq_true rfl) (Nat.zero_le _) (Nat.zero_le _) (eXW_thrown W.m) rfl rfl ?_
  refine aw_iload dW_410 rfl ?_
  refine aw_icmp_eq (tgt := 417) dW_412 (by decide) (fun _ => ?_) (fun z => absurd ht z)
  refine aw_iload dW_417 rfl ?_
  have fin : am_W (m_W n xs) 282 mc ms true (bc + 1 - 1 - 0 - 0) (bs + 6 - 6 - 0 - 0) 434 ([(0, .retAddr 60), (1, .ref 0), (2, .ref 450), (3, .ref 463), (4, .ref 464), (5, .int (nn (6 * k))), (6, .int (nn c)), (7, .int v)]) [] Γ I2 L1 Q := by
    refine aw_goto (tgt := 3223) dW_434 (by decide) ?_
    refine aw_ls (ls' := lwL k) (fun q hq => List.mem_append_left [(6, _), (7, _)] hq) ?_
    exact aw_less (by omega) (by omega) (post I2 L1 hR)
  refine aw_if_ne (tgt := 434) dW_419 (by decide) (fun _ => fin) (fun z => ?_)
  have hv := h0 ((nn0_iff hc3).mp z)
  refine aw_aload_n dW_422 rfl ?_
  refine aw_iconst dW_423 ci_0 ?_
  refine aw_lald dW_424 W.a (nn_in (k := 0) (by decide) (by decide)) ?_
  rw [c0, hv]
  refine aw_iload dW_425 rfl ?_
  refine aw_i2l dW_427 ?_
  refine aw_lcmp dW_428 ?_
  exact aw_if_eq (tgt := 434) dW_429 (by decide) (fun _ => fin) (fun z2 => absurd (lgc_eq.mpr rfl) z2)
end LWC
