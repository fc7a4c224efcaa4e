/-! THE LAW: from the class that is made to the end -/
section LWD
variable {n mc ms bc bs : Nat} {xs : Nat → Int32} {Γb Γ : am_G} {Ib I : am_I} {Lb L : am_L} {Q : am_Q} {w : Nat → Int32} {h : Nat → Nat → Int32} {s : Nat}
theorem wF_mk {Γ0 Γ : am_G} (nT : nwR Γ0 Γ (fun _ _ => 0) (fun _ _ => 0) (fun _ _ => 0) (fun _ _ => 0) 450) (h450 : 450 ≤ Γ0.1) (cF1 : cF Γ0) (hi1 : hiF Γ0 83) (sv1 : am_ar Γ0 373 6 2 5 ∧ Γ0.2.2 373 0 = some 374 ∧ Γ0.2.2 373 1 = some 410 ∧ stF Γ0 374 ∧ stF Γ0 410 ∧ am_ar Γ0 446 3 2 0) (ot1 : otF Γ0) : wF Γ := by
  obtain ⟨⟨o, f0, f1, f2, f3, f4, f5, f6, f7⟩, so, st, dr, rd, -⟩ := cF1
  obtain ⟨sa, sb, sc, sd, se, sf⟩ := sv1
  obtain ⟨oo, o0, o2, oa, oa2⟩ := ot1
  have e0 := nT.re (k := 0) (by omega) (by decide)
  have e3 := nT.re (k := 373) (by omega) (by decide)
  have e4 := nT.re (k := 447) (by omega) (by decide)
  exact ⟨⟨nT.ob o, (congrFun e0 0).trans f0, (congrFun e0 1).trans f1, (congrFun e0 2).trans f2, (congrFun e0 3).trans f3, (congrFun e0 4).trans f4, (congrFun e0 5).trans f5, (congrFun e0 6).trans f6, (congrFun e0 7).trans f7⟩, so.keep nT (by omega), st.keep nT (by omega), dr.keep nT (by omega), rd.keep nT (by decide), hi1.keep nT (by omega), ⟨nT.ar sa, (congrFun e3 0).trans sb, (congrFun e3 1).trans sc, sd.keep nT (by omega), se.keep nT (by omega), nT.ar sf⟩, ⟨nT.ob oo, (congrFun e4 0).trans o0, (congrFun e4 2).trans o2, nT.ar oa, nT.ar oa2⟩, trivial, trivial, trivial⟩
theorem wF_kp (hF : wF Γb) (h1 : Γb.1 = 451) (ab : am_ar Γb 450 1 1 0) (k : kpN 450 Γb Γ Ib I Lb L) (a : am_ar Γ 450 1 1 0) : wF Γ := by
  obtain ⟨c1, so, st, dr, rd, hi, sv, ot, -⟩ := id hF
  refine wF_mk (Γ0 := Γb) ⟨k.1, fun j hj => ⟨?_, fun hne => (k.2 j (by omega)).2.1, rfl, rfl⟩, fun _ _ _ => ⟨rfl, rfl⟩⟩ (by omega) ⟨c1, so, st, dr, rd, trivial⟩ hi sv ot
  by_cases e : j = 450
  · subst e
    exact a.2.trans ab.2.symm
  · exact (k.2 j (by omega)).1
/-- the text is written, and loaded -/
theorem law_346 (fin : ∀ Γ I L, Q (.inl (some (.int 1))) Γ I L) (hn : n < 2147483648) (hF : wF Γ) (a450 : am_ar Γ 450 1 1 0) (R : CS I L w h s) (h81 : I 81 1 = 0) {Qn Tn Gn c b : Nat} {t : List Nat} (hs : strS Γ I c t) (hP : PG Qn Tn Gn t) (hQ : Qn ≤ 4) (hT : Tn ≤ 6) (hG0 : 0 < Gn) (hG : Gn ≤ 3) : am_W (m_W n xs) 290 mc ms true 200 2000 346 (lB b [(5, .int (nn Qn)), (6, .int (nn Tn)), (7, .int (nn Gn))]) [.ref c, .ref 0] Γ I L Q := by
  have ox := hF.1.1
  obtain ⟨w', hU, hw', vt, vg, hz, hb⟩ := PG_end hP hG0 (by omega)
  have hlen : t.length ≤ 600 := by have := hP.2.1; omega
  obtain ⟨I1, L1, E1, rfl, rb, k1⟩ := eL_write (d := 0) (L := L) hF hs hP.1 hlen h81
  have R1 : CS I1 L1 w h s := R.fr (fun k a b c => k1 k (by omega) (by omega)) (fun _ _ _ _ => rfl)
  refine aw_askS (mc' := 0) (ms' := 0) (as := [.ref 0, .ref c]) (rst := []) k_L_write l_L_297 t_L_write dL_law_346 rfl (Nat.le_of_ble_eq_true rfl) (Nat.zero_le _) (Nat.zero_le _) (E1.up (by decide)) rfl rfl ?_
  refine aw_if_eq dL_law_349 rfl (fun z => absurd z (by decide)) (fun _ => ?_)
  refine aw_aload_n dL_law_352 rfl ?_
  obtain ⟨I2, L2, E2, R2, -, -⟩ := qX_load hF R1 rb hU
  have ew : w' 1 = nn Tn := by rw [hw'.1.2.1.1, vt]
  rw [ew] at E2
  refine aw_askV (mc' := 1) (ms' := 6) (as := []) (rst := []) k_X8_load l_L_301 i_X8_load s_X8_load rfl ox dL_law_353 rfl (Nat.le_of_ble_eq_true rfl) (by decide) (by decide) (E2.up (by decide)) rfl rfl ?_
  refine aw_iload dL_law_356 rfl ?_
  refine aw_icmp_ne dL_law_358 rfl (fun z => absurd rfl z) (fun _ => ?_)
  refine aw_aload_n dL_law_361 rfl ?_
  obtain ⟨I3, L3, E3, f3⟩ := qX_stalestGate (d := 0) hF R2
  have R3 := R2.sol f3
  have est : (stl (stA w') (stB w') (vG w')).1 = -1 := by
    rcases (stl_sp (stA w') (stB w') (vG w')).2 with e | ⟨g, g1, -, g3⟩
    · exact e
    · exact absurd (bst_st hw' g1 (hb g g1)) g3
  rw [est] at E3
  refine aw_askV (mc' := 0) (ms' := 0) (as := []) (rst := []) k_X8_stalestGate l_L_231 i_X8_stalestGate s_X8_stalestGate rfl ox dL_law_362 rfl (Nat.le_of_ble_eq_true rfl) (Nat.zero_le _) (Nat.zero_le _) (E3.up (by decide)) rfl rfl ?_
  refine aw_iconst (v := -1) dL_law_365 (by decide) ?_
  refine aw_icmp_eq dL_law_366 rfl (fun _ => ?_) (fun z => absurd rfl z)
  refine aw_iconst (v := nn 0) dL_law_371 (by decide) ?_
  refine aw_istore (ls' := lB b [(5, .int (nn Qn)), (6, .int (nn Tn)), (7, .int (nn Gn)), (8, .int (nn 0))]) dL_law_372 (Nat.le_of_ble_eq_true rfl) rfl ?_
  refine aw_ls (ls' := lC Gn [(8, .int (nn 0))]) (fun q hq => ?_) ?_
  · have hq' : q = (0, .retAddr 60) ∨ q = (1, .int 0) ∨ q = (2, .ref 450) ∨ q = (3, .ref 0) ∨ q = (7, .int (nn Gn)) ∨ q = (8, .int (nn 0)) := by
      simpa [lC] using hq
    unfold lB
    rcases hq' with e | e | e | e | e | e <;> rw [e] <;> simp
  have hi : invW w' 0 := by
    have v3 : vC w' = 0 := by unfold vC; rw [hz 3 (by decide) (by decide)]; rfl
    refine ⟨⟨by rw [hz 6 (by decide) (by decide), hz 7 (by decide) (by decide), hz 10 (by decide) (by decide), hz 11 (by decide) (by decide)], 0, 0, 0, hz 4 (by decide) (by decide), hz 8 (by decide) (by decide), hz 9 (by decide) (by decide), Nat.le_refl _, Nat.zero_le _⟩, by omega⟩
  exact aw_bcs (by decide) (by decide) (law_374 (bc := 0) (bs := 0) fin hn hF a450 vg hi hb Gn 0 I3 L3 (by omega) R3)
/-- from the class that is made: the text, and all that follows -/
theorem law_30 (fin : ∀ Γ I L, Q (.inl (some (.int 1))) Γ I L) (hn : n < 2147483648) (hF : wF Γb) (h1 : Γb.1 = 451) (ab : am_ar Γb 450 1 1 0) (R : CS Ib Lb w h s) (h81 : Ib 81 1 = 0) : am_W (m_W n xs) 290 mc ms true 400 220000 30 [(0, .retAddr 60), (1, .int 0), (2, .ref 450)] [.ref 0] Γb Ib Lb Q := by
  have h0 : 0 < Γb.1 := by omega
  have h4 : 450 < Γb.1 := by omega
  refine aw_astore_n (ls' := [(0, .retAddr 60), (1, .int 0), (2, .ref 450), (3, .ref 0)]) dL_law_30 (Nat.le_of_ble_eq_true rfl) rfl ?_
  refine aw_bcs (bc' := 399 + 1) (bs' := 219000 + 4) (by decide) (by decide) ?_
  refine aw_new (ci := 10) (N := 4) (C := RJ4) (T := TJ4) dL_law_31 rfl cl_L_269 mk_J4 n_J4 (okl_c trivial (okl_c trivial (okl_c h4 (okl_c h0 okl_nil)))) oks_nil ?_
  refine aw_dup dL_law_34 rfl ?_
  refine aw_ldcTW (tx := "tolls;") (i := 11) dL_law_35 ld_11 ?_
  have hz : am_nI Γb Ib Γb.1 = fun _ => 0 := va_up_self _ _ _
  refine aw_grI (mc' := 2) (ms' := 1400) (as := [.retAddr 11]) (rst := [.ref Γb.1]) k_J4_init_a7421 l_L_273 i_J4_init_a7421 rfl rfl dL_law_38 rfl (Nat.le_of_ble_eq_true rfl) (by decide) (by decide) (am_C.up (eB4_init (d := 0) (N := 451) (i := 11) (ob_at 10) (by omega) (by show 451 ≤ Γb.1 + 1; omega) (by rw [hz]) (by rw [hz]) (by decide) (by decide)) (by decide)) rfl (okl_c trivial (okl_c trivial (okl_c (Nat.lt_succ_of_lt h4) (okl_c (Nat.lt_succ_of_lt h0) okl_nil)))) (oks_c (Nat.lt_succ_self _) oks_nil) (fun _ _ _ _ z => nomatch z.1) ?_
  rintro v G J M ⟨e1, kp, hs⟩
  cases e1
  have X : txS Γb Ib Lb G J M Γb.1 (tl 11) := by
    refine ⟨⟨Nat.le_trans (Nat.le_succ _) kp.1, fun k hk => ?_⟩, by have : Γb.1 + 1 ≤ G.1 := kp.1; omega, ⟨Nat.lt_of_lt_of_le (Nat.lt_succ_of_lt h4) kp.1, ((kp.2 450 (by decide)).1.trans (va_up_ne _ _ (by omega))).trans ab.2⟩, hs⟩
    obtain ⟨x1, x2, x3, x4⟩ := kp.2 k (by omega)
    exact ⟨x1.trans (va_up_ne _ _ (by omega)), x2.trans (va_up_ne _ _ (by omega)), x3.trans (va_up_ne _ _ (by omega)), x4.trans (va_up_ne _ _ (by omega))⟩
  clear kp hs
  refine aw_astore (ls' := lB Γb.1 []) dL_law_41 (Nat.le_of_ble_eq_true rfl) rfl ?_
  refine aw_iconst (v := nn 1) dL_law_43 (by decide) ?_
  refine aw_aload_n dL_law_44 rfl ?_
  refine aw_iconst (v := nn 4) dL_law_45 (by decide) ?_
  refine lw_draw (k := 4) dL_law_46 rfl X.2.2.1 (by decide) (by decide) (Nat.le_of_ble_eq_true rfl) (fun r1 x1 hr1 => ?_)
  replace X := X.dr x1
  refine aw_iadd dL_law_49 ?_
  rw [nn_1a]
  refine aw_istore (ls' := lB Γb.1 [(5, .int (nn (1 + r1)))]) dL_law_50 (Nat.le_of_ble_eq_true rfl) rfl ?_
  refine aw_iconst (v := nn 0) dL_law_52 (by decide) ?_
  refine aw_istore (ls' := lB Γb.1 [(5, .int (nn (1 + r1))), (6, .int (nn 0))]) dL_law_53 (Nat.le_of_ble_eq_true rfl) rfl ?_
  refine aw_bcs (bc' := 350 + 5 * (1 + r1)) (bs' := 190000 + 6500 * (1 + r1)) (by omega) (by omega) ?_
  refine law_q (Γb := Γb) (Ib := Ib) (Lb := Lb) (by omega) (fun Γ2 I2 L2 t2 X2 P2 => ?_) (1 + r1) 0 _ _ _ _ (by omega) X PQ_0
  clear X
  refine aw_iconst (v := nn 1) dL_law_106 (by decide) ?_
  refine aw_aload_n dL_law_107 rfl ?_
  refine aw_bipush (v := nn 6) dL_law_108 (by decide) ?_
  refine lw_draw (k := 6) dL_law_110 rfl X2.2.2.1 (by decide) (by decide) (Nat.le_of_ble_eq_true rfl) (fun r2 x2 hr2 => ?_)
  replace X2 := X2.dr x2
  refine aw_iadd dL_law_113 ?_
  rw [nn_1a]
  refine aw_istore (ls' := lB Γb.1 [(5, .int (nn (1 + r1))), (6, .int (nn (1 + r2)))]) dL_law_114 (Nat.le_of_ble_eq_true rfl) rfl ?_
  refine aw_iconst (v := nn 0) dL_law_116 (by decide) ?_
  refine aw_istore (ls' := lB Γb.1 [(5, .int (nn (1 + r1))), (6, .int (nn (1 + r2))), (7, .int (nn 0))]) dL_law_117 (Nat.le_of_ble_eq_true rfl) rfl ?_
  refine aw_bcs (bc' := 270 + 13 * (1 + r2)) (bs' := 86000 + 16900 * (1 + r2)) (by omega) (by omega) ?_
  refine law_t (Γb := Γb) (Ib := Ib) (Lb := Lb) (Qn := 1 + r1) (by omega) (by omega) (fun Γ3 I3 L3 t3 X3 P3 => ?_) (1 + r2) 0 _ _ _ _ (by omega) X2 (PT_0 P2 (by omega) (by omega))
  clear X2 P2
  refine aw_iconst (v := nn 1) dL_law_214 (by decide) ?_
  refine aw_aload_n dL_law_215 rfl ?_
  refine aw_iconst (v := nn 3) dL_law_216 (by decide) ?_
  refine lw_draw (k := 3) dL_law_217 rfl X3.2.2.1 (by decide) (by decide) (Nat.le_of_ble_eq_true rfl) (fun r3 x3 hr3 => ?_)
  replace X3 := X3.dr x3
  refine aw_iadd dL_law_220 ?_
  rw [nn_1a]
  refine aw_istore (ls' := lB Γb.1 [(5, .int (nn (1 + r1))), (6, .int (nn (1 + r2))), (7, .int (nn (1 + r3)))]) dL_law_221 (Nat.le_of_ble_eq_true rfl) rfl ?_
  refine aw_iconst (v := nn 0) dL_law_223 (by decide) ?_
  refine aw_istore (ls' := lB Γb.1 [(5, .int (nn (1 + r1))), (6, .int (nn (1 + r2))), (7, .int (nn (1 + r3))), (8, .int (nn 0))]) dL_law_224 (Nat.le_of_ble_eq_true rfl) rfl ?_
  refine aw_bcs (bc' := 202 + 21 * (1 + r3)) (bs' := 3400 + 27300 * (1 + r3)) (by omega) (by omega) ?_
  refine law_g (Γb := Γb) (Ib := Ib) (Lb := Lb) (Qn := 1 + r1) (Tn := 1 + r2) (by omega) (by omega) (by omega) (fun Γ4 I4 L4 t4 X4 P4 => ?_) (1 + r3) 0 _ _ _ _ (by omega) X3 (PG_0 P3 (by omega) (by omega))
  clear X3 P3
  have hlen : t4.length ≤ 600 := by have := P4.2.1; omega
  refine aw_aload_n dL_law_340 rfl ?_
  refine aw_aload dL_law_341 rfl ?_
  refine aw_grB (ci := 10) (mc' := 2) (ms' := 1310) (as := []) (rst := [.ref 0]) k_J4_toString_0e30d l_L_293 i_J4_toString_0e30d s_J4_toString_0e30d rfl rfl X4.bu dL_law_343 rfl (Nat.le_of_ble_eq_true rfl) (by decide) (by decide) (am_C.up (eB4_toString (d := 0) (by have := X4.2.1; omega) X4.2.2.2 hlen) (by decide)) rfl (okB X4 (okl_c trivial (okl_c trivial (okl_c trivial okl_nil)))) (oks_c (show 0 < Γ4.1 from Nat.lt_of_lt_of_le (by decide) X4.2.1) oks_nil) (fun _ _ _ _ z => nomatch z.1) ?_
  rintro v5 G5 J5 M5 ⟨e5, k5, s5⟩
  cases e5
  have c451 := X4.2.1
  have kk : kpN 450 Γb G5 Ib J5 Lb M5 := X4.1.tr ⟨k5.1, fun k hk => k5.2 k (by omega)⟩
  have a5 : am_ar G5 450 1 1 0 := ⟨Nat.lt_of_lt_of_le X4.2.2.1.1 k5.1, (k5.2 450 (by omega)).1.trans X4.2.2.1.2⟩
  have R5 : CS J5 M5 w h s := R.fr (fun k a b c => (kk.2 k (by omega)).2.2.1) (fun k a b c => (kk.2 k (by omega)).2.2.2)
  exact aw_bcs (by decide) (by decide) (law_346 fin hn (wF_kp hF h1 ab kk a5) a5 R5 (by rw [(kk.2 81 (by decide)).2.2.1]; exact h81) s5 P4 (by omega) (by omega) (by omega) (by omega))
end LWD
