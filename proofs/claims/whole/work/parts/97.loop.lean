/-! THE LAW: switch, loop, beginning -/
theorem nn_all (x : Int32) : ∃ a, x = nn a := ⟨x.toBitVec.toNat, by
  first
  | (apply Int32.toBitVec_inj.mp; show x.toBitVec = BitVec.ofNat 32 x.toBitVec.toNat; simp; done)
  | (apply Int32.toBitVec_inj.mp; show x.toBitVec = BitVec.ofNat 32 x.toBitVec.toNat; exact (BitVec.ofNat_toNat 32 x.toBitVec).symm ▸ rfl)
  | (cases x; rename_i u; cases u; simp [nn, Int32.ofNat])⟩
theorem and63 (x : Int32) : ∃ t, t < 64 ∧ x &&& 63 = nn t := by
  obtain ⟨a, rfl⟩ := nn_all x
  refine ⟨a % 64, Nat.mod_lt _ (by decide), ?_⟩
  rw [show (63 : Int32) = nn 63 from rfl, nn_and]
  exact congrArg nn (Nat.and_two_pow_sub_one_eq_mod a 6)
theorem neg_n {n k : Nat} (h : n < 6) (hk : 6 * k < 2147483648) : nn n - 6 < nn (6 * k) := by
  have h1 : nn n - 6 < 0 := by
    rcases (show n = 0 ∨ n = 1 ∨ n = 2 ∨ n = 3 ∨ n = 4 ∨ n = 5 by omega) with rfl | rfl | rfl | rfl | rfl | rfl <;> decide
  have h2 : (0 : Int32) ≤ nn (6 * k) := (nn_le (a := 0) (by decide) hk).mpr (Nat.zero_le _)
  first
  | exact Int32.lt_of_lt_of_le h1 h2
  | (rw [Int32.lt_iff_toInt_lt] at h1 ⊢; rw [Int32.le_iff_toInt_le] at h2; omega)
section LWL
variable {n k mc ms bc bs : Nat} {xs : Nat → Int32} {G Γ : am_G} {I : am_I} {L : am_L} {Q : am_Q}
theorem W_3223 (post : am_W (m_W n xs) 282 mc ms true bc bs 28 (lwL (k + 1)) [] Γ I L Q) : am_W (m_W n xs) 282 mc ms true bc bs 3223 (lwL k) [] Γ I L Q := by
  refine aw_iinc (v := nn (6 * (k + 1))) (ls' := lwL (k + 1)) dW_3223 rfl ?_ (show (5 : Nat) < 10 by decide) rfl ?_
  · rw [show Int32.ofInt 6 = nn 6 by decide, nn_add]
    rfl
  · exact aw_goto (tgt := 28) dW_3226 (by decide) post
theorem W_38 (W : wld G Γ) (R : REL I L) (hk : 6 * k + 6 ≤ n) (hn : n ≤ 3072) (post : ∀ I' L', REL I' L' → am_W (m_W n xs) 282 mc ms true bc bs 3223 (lwL k) [] Γ I' L' Q) : am_W (m_W n xs) 282 mc ms true (bc + 1) (bs + 6) 38 (lwL k) [] Γ I L Q := by
  refine aw_aload_nT dW_38 rfl ?_
  refine aw_iload dW_39 rfl ?_
  refine aw_sld rfl dW_41 (nn_in (by omega) (by omega)) ?_
  refine aw_bipush dW_42 cb_63 ?_
  refine aw_iand dW_44 ?_
  obtain ⟨t, ht, e⟩ := and63 (xs (nn (6 * k)).toNatClampNeg)
  rw [e]
  by_cases h0 : t = 0
  · subst h0
    exact aw_tblIn (off := 263) (tgt := 308) dW_45 (by decide) (by decide) rfl (by decide) (cs_0 W R hk hn post)
  by_cases h1 : t = 1
  · subst h1
    exact aw_tblIn (off := 336) (tgt := 381) dW_45 (by decide) (by decide) rfl (by decide) (cs_1 W R hk hn post)
  by_cases h2 : t = 2
  · subst h2
    exact aw_tblIn (off := 392) (tgt := 437) dW_45 (by decide) (by decide) rfl (by decide) (cs_2 W R hk hn post)
  by_cases h3 : t = 3
  · subst h3
    exact aw_tblIn (off := 405) (tgt := 450) dW_45 (by decide) (by decide) rfl (by decide) (cs_3 W R hk hn post)
  by_cases h4 : t = 4
  · subst h4
    exact aw_tblIn (off := 418) (tgt := 463) dW_45 (by decide) (by decide) rfl (by decide) (cs_4 W R hk hn post)
  by_cases h5 : t = 5
  · subst h5
    exact aw_tblIn (off := 431) (tgt := 476) dW_45 (by decide) (by decide) rfl (by decide) (cs_5 W R hk hn post)
  by_cases h6 : t = 6
  · subst h6
    exact aw_tblIn (off := 444) (tgt := 489) dW_45 (by decide) (by decide) rfl (by decide) (cs_6 W R hk hn post)
  by_cases h7 : t = 7
  · subst h7
    exact aw_tblIn (off := 524) (tgt := 569) dW_45 (by decide) (by decide) rfl (by decide) (cs_7 W R hk hn post)
  by_cases h8 : t = 8
  · subst h8
    exact aw_tblIn (off := 580) (tgt := 625) dW_45 (by decide) (by decide) rfl (by decide) (cs_8 W R hk hn post)
  by_cases h9 : t = 9
  · subst h9
    exact aw_tblIn (off := 636) (tgt := 681) dW_45 (by decide) (by decide) rfl (by decide) (cs_9 W R hk hn post)
  by_cases h10 : t = 10
  · subst h10
    exact aw_tblIn (off := 704) (tgt := 749) dW_45 (by decide) (by decide) rfl (by decide) (cs_10 W R hk hn post)
  by_cases h11 : t = 11
  · subst h11
    exact aw_tblIn (off := 772) (tgt := 817) dW_45 (by decide) (by decide) rfl (by decide) (cs_11 W R hk hn post)
  by_cases h12 : t = 12
  · subst h12
    exact aw_tblIn (off := 828) (tgt := 873) dW_45 (by decide) (by decide) rfl (by decide) (cs_12 W R hk hn post)
  by_cases h13 : t = 13
  · subst h13
    exact aw_tblIn (off := 872) (tgt := 917) dW_45 (by decide) (by decide) rfl (by decide) (cs_13 W R hk hn post)
  by_cases h14 : t = 14
  · subst h14
    exact aw_tblIn (off := 928) (tgt := 973) dW_45 (by decide) (by decide) rfl (by decide) (cs_14 W R hk hn post)
  by_cases h15 : t = 15
  · subst h15
    exact aw_tblIn (off := 984) (tgt := 1029) dW_45 (by decide) (by decide) rfl (by decide) (cs_15 W R hk hn post)
  by_cases h16 : t = 16
  · subst h16
    exact aw_tblIn (off := 997) (tgt := 1042) dW_45 (by decide) (by decide) rfl (by decide) (cs_16 W R hk hn post)
  by_cases h17 : t = 17
  · subst h17
    exact aw_tblIn (off := 1010) (tgt := 1055) dW_45 (by decide) (by decide) rfl (by decide) (cs_17 W R hk hn post)
  by_cases h18 : t = 18
  · subst h18
    exact aw_tblIn (off := 1023) (tgt := 1068) dW_45 (by decide) (by decide) rfl (by decide) (cs_18 W R hk hn post)
  by_cases h19 : t = 19
  · subst h19
    exact aw_tblIn (off := 1036) (tgt := 1081) dW_45 (by decide) (by decide) rfl (by decide) (cs_19 W R hk hn post)
  by_cases h20 : t = 20
  · subst h20
    exact aw_tblIn (off := 1049) (tgt := 1094) dW_45 (by decide) (by decide) rfl (by decide) (cs_20 W R hk hn post)
  by_cases h21 : t = 21
  · subst h21
    exact aw_tblIn (off := 1105) (tgt := 1150) dW_45 (by decide) (by decide) rfl (by decide) (cs_21 W R hk hn post)
  by_cases h22 : t = 22
  · subst h22
    exact aw_tblIn (off := 1180) (tgt := 1225) dW_45 (by decide) (by decide) rfl (by decide) (cs_22 W R hk hn post)
  by_cases h23 : t = 23
  · subst h23
    exact aw_tblIn (off := 1236) (tgt := 1281) dW_45 (by decide) (by decide) rfl (by decide) (cs_23 W R hk hn post)
  by_cases h24 : t = 24
  · subst h24
    exact aw_tblIn (off := 1304) (tgt := 1349) dW_45 (by decide) (by decide) rfl (by decide) (cs_24 W R hk hn post)
  by_cases h25 : t = 25
  · subst h25
    exact aw_tblIn (off := 1360) (tgt := 1405) dW_45 (by decide) (by decide) rfl (by decide) (cs_25 W R hk hn post)
  by_cases h26 : t = 26
  · subst h26
    exact aw_tblIn (off := 1423) (tgt := 1468) dW_45 (by decide) (by decide) rfl (by decide) (cs_26 W R hk hn post)
  by_cases h27 : t = 27
  · subst h27
    exact aw_tblIn (off := 1479) (tgt := 1524) dW_45 (by decide) (by decide) rfl (by decide) (cs_27 W R hk hn post)
  by_cases h28 : t = 28
  · subst h28
    exact aw_tblIn (off := 1547) (tgt := 1592) dW_45 (by decide) (by decide) rfl (by decide) (cs_28 W R hk hn post)
  by_cases h29 : t = 29
  · subst h29
    exact aw_tblIn (off := 1615) (tgt := 1660) dW_45 (by decide) (by decide) rfl (by decide) (cs_29 W R hk hn post)
  by_cases h30 : t = 30
  · subst h30
    exact aw_tblIn (off := 1683) (tgt := 1728) dW_45 (by decide) (by decide) rfl (by decide) (cs_30 W R hk hn post)
  by_cases h31 : t = 31
  · subst h31
    exact aw_tblIn (off := 1696) (tgt := 1741) dW_45 (by decide) (by decide) rfl (by decide) (cs_31 W R hk hn post)
  by_cases h32 : t = 32
  · subst h32
    exact aw_tblIn (off := 1709) (tgt := 1754) dW_45 (by decide) (by decide) rfl (by decide) (cs_32 W R hk hn post)
  by_cases h33 : t = 33
  · subst h33
    exact aw_tblIn (off := 1722) (tgt := 1767) dW_45 (by decide) (by decide) rfl (by decide) (cs_33 W R hk hn post)
  by_cases h34 : t = 34
  · subst h34
    exact aw_tblIn (off := 1735) (tgt := 1780) dW_45 (by decide) (by decide) rfl (by decide) (cs_34 W R hk hn post)
  by_cases h35 : t = 35
  · subst h35
    exact aw_tblIn (off := 1748) (tgt := 1793) dW_45 (by decide) (by decide) rfl (by decide) (cs_35 W R hk hn post)
  by_cases h36 : t = 36
  · subst h36
    exact aw_tblIn (off := 1761) (tgt := 1806) dW_45 (by decide) (by decide) rfl (by decide) (cs_36 W R hk hn post)
  by_cases h37 : t = 37
  · subst h37
    exact aw_tblIn (off := 1774) (tgt := 1819) dW_45 (by decide) (by decide) rfl (by decide) (cs_37 W R hk hn post)
  by_cases h38 : t = 38
  · subst h38
    exact aw_tblIn (off := 1787) (tgt := 1832) dW_45 (by decide) (by decide) rfl (by decide) (cs_38 W R hk hn post)
  by_cases h39 : t = 39
  · subst h39
    exact aw_tblIn (off := 1843) (tgt := 1888) dW_45 (by decide) (by decide) rfl (by decide) (cs_39 W R hk hn post)
  by_cases h40 : t = 40
  · subst h40
    exact aw_tblIn (off := 1911) (tgt := 1956) dW_45 (by decide) (by decide) rfl (by decide) (cs_40 W R hk hn post)
  by_cases h41 : t = 41
  · subst h41
    exact aw_tblIn (off := 1979) (tgt := 2024) dW_45 (by decide) (by decide) rfl (by decide) (cs_41 W R hk hn post)
  by_cases h42 : t = 42
  · subst h42
    exact aw_tblIn (off := 2047) (tgt := 2092) dW_45 (by decide) (by decide) rfl (by decide) (cs_42 W R hk hn post)
  by_cases h43 : t = 43
  · subst h43
    exact aw_tblIn (off := 2115) (tgt := 2160) dW_45 (by decide) (by decide) rfl (by decide) (cs_43 W R hk hn post)
  by_cases h44 : t = 44
  · subst h44
    exact aw_tblIn (off := 2183) (tgt := 2228) dW_45 (by decide) (by decide) rfl (by decide) (cs_44 W R hk hn post)
  by_cases h45 : t = 45
  · subst h45
    exact aw_tblIn (off := 2251) (tgt := 2296) dW_45 (by decide) (by decide) rfl (by decide) (cs_45 W R hk hn post)
  by_cases h46 : t = 46
  · subst h46
    exact aw_tblIn (off := 2319) (tgt := 2364) dW_45 (by decide) (by decide) rfl (by decide) (cs_46 W R hk hn post)
  by_cases h47 : t = 47
  · subst h47
    exact aw_tblIn (off := 2387) (tgt := 2432) dW_45 (by decide) (by decide) rfl (by decide) (cs_47 W R hk hn post)
  by_cases h48 : t = 48
  · subst h48
    exact aw_tblIn (off := 2443) (tgt := 2488) dW_45 (by decide) (by decide) rfl (by decide) (cs_48 W R hk hn post)
  by_cases h49 : t = 49
  · subst h49
    exact aw_tblIn (off := 2499) (tgt := 2544) dW_45 (by decide) (by decide) rfl (by decide) (cs_49 W R hk hn post)
  by_cases h50 : t = 50
  · subst h50
    exact aw_tblIn (off := 2567) (tgt := 2612) dW_45 (by decide) (by decide) rfl (by decide) (cs_50 W R hk hn post)
  by_cases h51 : t = 51
  · subst h51
    exact aw_tblIn (off := 2635) (tgt := 2680) dW_45 (by decide) (by decide) rfl (by decide) (cs_51 W R hk hn post)
  by_cases h52 : t = 52
  · subst h52
    exact aw_tblIn (off := 2703) (tgt := 2748) dW_45 (by decide) (by decide) rfl (by decide) (cs_52 W R hk hn post)
  by_cases h53 : t = 53
  · subst h53
    exact aw_tblIn (off := 2771) (tgt := 2816) dW_45 (by decide) (by decide) rfl (by decide) (cs_53 W R hk hn post)
  by_cases h54 : t = 54
  · subst h54
    exact aw_tblIn (off := 2839) (tgt := 2884) dW_45 (by decide) (by decide) rfl (by decide) (cs_54 W R hk hn post)
  by_cases h55 : t = 55
  · subst h55
    exact aw_tblIn (off := 2895) (tgt := 2940) dW_45 (by decide) (by decide) rfl (by decide) (cs_55 W R hk hn post)
  by_cases h56 : t = 56
  · subst h56
    exact aw_tblIn (off := 2908) (tgt := 2953) dW_45 (by decide) (by decide) rfl (by decide) (cs_56 W R hk hn post)
  by_cases h57 : t = 57
  · subst h57
    exact aw_tblIn (off := 2964) (tgt := 3009) dW_45 (by decide) (by decide) rfl (by decide) (cs_57 W R hk hn post)
  by_cases h58 : t = 58
  · subst h58
    exact aw_tblIn (off := 2977) (tgt := 3022) dW_45 (by decide) (by decide) rfl (by decide) (cs_58 W R hk hn post)
  by_cases h59 : t = 59
  · subst h59
    exact aw_tblIn (off := 3054) (tgt := 3099) dW_45 (by decide) (by decide) rfl (by decide) (cs_59 W R hk hn post)
  by_cases h60 : t = 60
  · subst h60
    exact aw_tblIn (off := 3097) (tgt := 3142) dW_45 (by decide) (by decide) rfl (by decide) (cs_60 W R hk hn post)
  by_cases h61 : t = 61
  · subst h61
    exact aw_tblIn (off := 3153) (tgt := 3198) dW_45 (by decide) (by decide) rfl (by decide) (cs_61 W R hk hn post)
  have out : am_W (m_W n xs) 282 mc ms true (bc + 1) (bs + 6) 3223 (lwL k) [] Γ I L Q := aw_less (Nat.le_succ _) (Nat.le_add_right _ _) (post I L R)
  rcases (show t = 62 ∨ t = 63 by omega) with rfl | rfl
  · exact aw_tblOut (tgt := 3223) dW_45 (Or.inr (by decide)) (by decide) out
  · exact aw_tblOut (tgt := 3223) dW_45 (Or.inr (by decide)) (by decide) out
theorem W_28 (hk : 6 * k < 2147483648) (hn : n ≤ 3072) (fin : Q (.inl (some (.int 1))) Γ I L) (go : 6 * k + 6 ≤ n → am_W (m_W n xs) 282 mc ms true bc bs 38 (lwL k) [] Γ I L Q) : am_W (m_W n xs) 282 mc ms true bc bs 28 (lwL k) [] Γ I L Q := by
  refine aw_iload dW_28 rfl ?_
  refine aw_aload_nT dW_30 rfl ?_
  refine aw_slen rfl dW_31 (v := nn n) rfl ?_
  refine aw_bipush dW_32 cb_6 ?_
  refine aw_isub dW_34 ?_
  by_cases h : 6 * k + 6 ≤ n
  · refine aw_icmp_gt (tgt := 3229) dW_35 (by decide) (fun z => ?_) (fun _ => go h)
    rw [show (6 : Int32) = nn 6 from rfl, nn_sub (by omega), nn_lt (by omega) (by omega)] at z
    omega
  · refine aw_icmp_gt (tgt := 3229) dW_35 (by decide) (fun _ => ?_) (fun z => absurd ?_ z)
    · refine aw_iconst dW_3229 ci_1 ?_
      exact aw_zret (ty := .boolean) dW_3230 rfl rfl fin
    · by_cases h6 : n < 6
      · exact neg_n h6 hk
      · rw [show (6 : Int32) = nn 6 from rfl, nn_sub (by omega), nn_lt (by omega) (by omega)]
        omega
theorem W_loop (W : wld G Γ) (hn : n ≤ 3072) (fin : ∀ I L, Q (.inl (some (.int 1))) Γ I L) (R : REL I L) : am_W (m_W n xs) 282 mc ms true 512 3072 28 (lwL 0) [] Γ I L Q := by
  have key := nn_loop (fun k => ∀ I L, REL I L → am_W (m_W n xs) 282 mc ms true (512 - k) ((512 - k) * 6) 28 (lwL k) [] Γ I L Q) 512 ?_ (fun k hk ih => ?_)
  · exact key I L R
  · intro I L R
    exact W_28 (by decide) hn (fin I L) (fun h => absurd h (by omega))
  · intro I L R
    refine W_28 (by omega) hn (fin I L) (fun h => ?_)
    refine aw_less (bc' := 512 - (k + 1) + 1) (bs' := (512 - (k + 1)) * 6 + 6) (by omega) (by omega) ?_
    exact W_38 W R h hn (fun I' L' R' => W_3223 (ih I' L' R'))
/-- the empty world -/
def g0 : am_G := (0, fun _ => (0, 0, 0), fun _ _ => none)
theorem otF.keep {Γ0 : am_G} {I0 : am_I} {L0 : am_L} {b : Nat} (h : otF Γ0) (w : nwR Γ0 Γ I0 I L0 L b) (hb : b ≠ 447) : otF Γ := by
  obtain ⟨o, r1, r2, a1, a2⟩ := h
  have e := w.re o.1 (Ne.symm hb)
  exact ⟨w.ob o, by rw [e]; exact r1, by rw [e]; exact r2, w.ar a1, w.ar a2⟩
theorem okn1 {ls : List (Nat × Value)} (h : ∀ z ∈ ls, am_ok Γ z.2) {k r : Nat} (hr : r < Γ.1) : ∀ z ∈ (k, Value.ref r) :: ls, am_ok Γ z.2 := fun z hz => by
  rcases List.mem_cons.mp hz with rfl | hz
  · exact hr
  · exact h z hz
theorem ok0 : ∀ z ∈ [((0 : Nat), Value.retAddr 60)], am_ok Γ z.2 := fun z hz => by
  rcases List.mem_cons.mp hz with rfl | hz
  · trivial
  · exact nomatch hz
theorem okc {a : Nat × Value} {ls : List (Nat × Value)} (h : am_ok Γ a.2) (hs : ∀ z ∈ ls, am_ok Γ z.2) : ∀ z ∈ a :: ls, am_ok Γ z.2 := fun z hz => by
  rcases List.mem_cons.mp hz with rfl | hz
  · exact h
  · exact hs z hz
theorem ok_n : ∀ z ∈ ([] : List (Nat × Value)), am_ok Γ z.2 := fun z hz => nomatch hz
theorem okv_n : ∀ z ∈ ([] : List Value), am_ok Γ z := fun z hz => nomatch hz
theorem wld_mk {Γ2 : am_G} (h : Γ2.1 = 463) (hcl : am_cl Γ2) (hF : wF Γ2) : wld Γ2 (am_nG (am_nG Γ2 (4, 1, 0)) (5, 1, 0)) := by
  have h1 : (am_nG Γ2 (4, 1, 0)).1 = 464 := by show Γ2.1 + 1 = 464; omega
  refine ⟨h, by show Γ2.1 + 1 + 1 = 465; omega, fun j hj => ⟨?_, ?_⟩, hcl, ⟨by show 463 < Γ2.1 + 1 + 1; omega, ?_⟩, ⟨by show 464 < Γ2.1 + 1 + 1; omega, ?_⟩, hF⟩
  · exact (va_up_ne _ _ (by rw [h1]; omega)).trans (va_up_ne _ _ (by rw [h]; omega))
  · exact (va_up_ne _ _ (by rw [h1]; omega)).trans (va_up_ne _ _ (by rw [h]; omega))
  · refine (va_up_ne _ _ (by rw [h1]; decide)).trans ?_
    rw [← h]
    exact va_up_self _ _ _
  · rw [← h1]
    exact va_up_self _ _ _
theorem W_0 (hn : n ≤ 3072) (fin : ∀ Γ I L, Q (.inl (some (.int 1))) Γ I L) : am_W (m_W n xs) 282 mc ms true 977 48100 0 [(0, .retAddr 60)] [] g0 I L Q := by
  obtain ⟨w', hU⟩ := setup0
  have hw := uSet_wfs (zrow_inv (fun _ => 0)).1 hU
  refine aw_less (bc' := 527 + 449 + 1) (bs' := 34267 + 13825 + 8) (by decide) (by decide) ?_
  refine aw_new (ci := 8) (N := 8) (C := RX8) (T := TX8) dW_0 rfl cl_L_8 mk_X8 n_X8 ok0 okv_n ?_
  refine aw_dup dW_3 rfl ?_
  refine aw_callI (bc := 527) (bs := 34267) (mc' := 449) (ms' := 13825) (as := []) (b := 0) (rst := [.ref 0]) dW_4 k_X8_init l_L_142 i_X8_init rfl rfl rfl rfl (Nat.le_of_ble_eq_true rfl) (cX8 (d := 273) (ob_at 8) rfl hU) ok0 (okS1 (show 0 < 0 + 1 by decide)) (fun v G1 J1 M1 hq => ?_) (fun E _ _ _ hq => nomatch hq.1)
  obtain ⟨hv, c1, cF1, hi1, sv1, ot1, s9, c8, z8⟩ := hq
  obtain rfl : v = none := Sum.inl.inj hv
  refine aw_astore_n (ls' := [(0, .retAddr 60), (1, .ref 0)]) dW_7 (show (1 : Nat) < 10 by decide) rfl ?_
  obtain ⟨g1, t1, r1⟩ := G1
  obtain rfl : g1 = 450 := c1
  refine aw_less (bc' := 514 + 12 + 1) (bs' := 3074 + 31168 + 25) (by decide) (by decide) ?_
  refine aw_new (ci := 9) (N := 25) (C := RX9) (T := TX9) dW_8 rfl cl_L_143 mk_X9 n_X9 (okc trivial (okc (show 0 < 450 by decide) ok_n)) okv_n ?_
  refine aw_dup dW_11 rfl ?_
  refine aw_callI (bc := 514) (bs := 3074) (mc' := 12) (ms' := 31168) (as := []) (b := 450) (rst := [.ref 450]) dW_12 k_X9_init l_L_145 i_X9_init rfl rfl rfl rfl (Nat.le_of_ble_eq_true rfl) (cX9 (d := 15) (ob_at 9) rfl (va_up_self _ _ _) hU kd_229) (okc trivial (okc (show 0 < 450 + 1 by decide) ok_n)) (okS1 (show 450 < 450 + 1 by decide)) (fun v G2 J2 M2 hq => ?_) (fun E _ _ _ hq => nomatch hq.1)
  obtain ⟨hv, c2, hN, hm, hk, m455, m451, m5, m9, m10, m11, m12⟩ := hq
  obtain rfl : v = none := Sum.inl.inj hv
  refine aw_astore_n (ls' := [(0, .retAddr 60), (1, .ref 0), (2, .ref 450)]) dW_15 (show (2 : Nat) < 10 by decide) rfl ?_
  have nT : nwR (450, t1, r1) G2 (fun _ _ => 0) (fun _ _ => 0) (fun _ _ => 0) (fun _ _ => 0) 450 := ((nwR.rf (Γ := (450, t1, r1)) (I := fun _ _ => 0) (L := fun _ _ => 0) (b := 450)).new (0, 9, 0)).z.trb hN
  have hF : wF G2 := by
    obtain ⟨⟨o, f0, f1, f2, f3, f4, f5, f6, f7⟩, so, st, dr, rd, -⟩ := cF1
    obtain ⟨sa, sb, sc, sd, se, sf⟩ := sv1
    have e0 := nT.re (k := 0) (show 0 < 450 by decide) (by decide)
    have e3 := nT.re (k := 373) (show 373 < 450 by decide) (by decide)
    exact ⟨⟨nT.ob o, (congrFun e0 0).trans f0, (congrFun e0 1).trans f1, (congrFun e0 2).trans f2, (congrFun e0 3).trans f3, (congrFun e0 4).trans f4, (congrFun e0 5).trans f5, (congrFun e0 6).trans f6, (congrFun e0 7).trans f7⟩, so.keep nT (by omega), st.keep nT (by omega), dr.keep nT (by omega), rd.keep nT (by decide), hi1.keep nT (by omega), ⟨nT.ar sa, (congrFun e3 0).trans sb, (congrFun e3 1).trans sc, sd.keep nT (by omega), se.keep nT (by omega), nT.ar sf⟩, ot1.keep nT (by decide), hm, trivial, trivial⟩
  have e1 : ∀ k, k < 450 → J2 k = J1 k ∧ M2 k = M1 k := fun k hk0 => ⟨(hk k hk0).1.trans (va_up_ne _ _ (Nat.ne_of_lt hk0)), (hk k hk0).2.trans (va_up_ne _ _ (Nat.ne_of_lt hk0))⟩
  have hR : REL J2 M2 := rel_0 hw (s9.fr hw.1.2.2.1.2 (fun c _ c2 => (e1 c (by omega)).1) (fun c _ c2 => (e1 c (by omega)).2)) (by rw [(e1 81 (by decide)).1]; exact c8) (fun k k1 k2 => by rw [(e1 k k2).1]; exact (z8 k k1 k2).1) m455 m451 m5 m9 m10 m11 m12
  refine aw_cl (fun hcl => ?_)
  have W := wld_mk c2 hcl hF
  obtain ⟨g2, t2, r2⟩ := G2
  obtain rfl : g2 = 463 := c2
  refine aw_iconst dW_16 ci_1 ?_
  refine aw_newL (n := 1) dW_17 ac_long (by decide) (by decide) (by decide) (okc trivial (okc (show 0 < 463 by decide) (okc (show 450 < 463 by decide) ok_n))) okv_n ?_
  refine aw_astore_n (ls' := [(0, .retAddr 60), (1, .ref 0), (2, .ref 450), (3, .ref 463)]) dW_19 (show (3 : Nat) < 10 by decide) rfl ?_
  refine aw_iconst dW_20 ci_1 ?_
  refine aw_newD (n := 1) dW_21 ac_double (by decide) (by decide) (by decide) (okc trivial (okc (show 0 < 463 + 1 by decide) (okc (show 450 < 463 + 1 by decide) (okc (show 463 < 463 + 1 by decide) ok_n)))) okv_n ?_
  refine aw_astore (ls' := [(0, .retAddr 60), (1, .ref 0), (2, .ref 450), (3, .ref 463), (4, .ref 464)]) dW_23 (show (4 : Nat) < 10 by decide) rfl ?_
  refine aw_iconst dW_25 ci_0 ?_
  refine aw_istore (ls' := lwL 0) dW_26 (show (5 : Nat) < 10 by decide) rfl ?_
  refine W_loop W hn (fun I L => fin _ I L) (hR.cg (fun j hj => ?_) (fun j hj => ?_))
  · exact (va_up_ne _ _ (show j ≠ 463 + 1 by omega)).trans (va_up_ne _ _ (show j ≠ 463 by omega))
  · exact (va_up_ne _ _ (show j ≠ 463 + 1 by omega)).trans (va_up_ne _ _ (show j ≠ 463 by omega))
end LWL
