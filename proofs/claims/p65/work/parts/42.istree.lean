/-! THE LAW: isTree -/
section TI
variable {d : Nat} {Γ : am_G} {I : am_I} {L : am_L} {w : Nat → Int32} {h : Nat → Nat → Int32} {s : Nat}
theorem i32_rc {a b c : Int32} (h : a + c = b + c) : a = b := by rw [← Int32.add_sub_cancel a c, h, Int32.add_sub_cancel]
theorem tva_root {Q : Nat} {ys : Nat → Nat} {tq tt ty tn ts : Nat → Int32} : ∀ {f n S e : Nat}, tva Q ys tq tt ty tn ts f n S e → ts n = nn S
  | 0, _, _, _, h => h.elim
  | _ + 1, _, _, _, h => h.1
/-- a type walks down to its leaf -/
theorem isTree_walk (hF : wF Γ) (R : CS I L w h s) {g t : Nat} (hg : g < vG w) (ht : t < vT w) {vl vc ve vw : Int32} :
    ∀ {f n S e' : Nat}, tva (vQ w) (yse (vT w) (tyW w)) (rw5 w g 0) (rw5 w g 1) (rw5 w g 2) (rw5 w g 3) (rw5 w g 4) f n S e' → e' ≤ teW w g → S < 2147483648 → S.testBit t = true → ∀ (c : Int32),
      (∀ l, l < teW w g → rw5 w g 0 l = -1 → ib (rw5 w g 4 l) (nn t) = true → ∀ c' : Int32, c' + fsum (fun j => if rw5 w g 0 j ≠ -1 ∧ ib (rw5 w g 4 j) (nn t) = true then csW w (rw5 w g 0 j).toNatClampNeg else 0) n = c + fsum (fun j => if rw5 w g 0 j ≠ -1 ∧ ib (rw5 w g 4 j) (nn t) = true then csW w (rw5 w g 0 j).toNatClampNeg else 0) e' →
        am_W m_L_isTree (d + 22) 1 6 false 0 0 343 [(0, .ref 0), (1, .int (nn g)), (2, .int (nn (teW w g))), (3, .int vl), (4, .int vc), (5, .int ve), (6, .int vw), (7, .int (nn t)), (8, .int (nn l)), (9, .int c')] [] Γ I L (am_R (.inl (some (.int 1))) I L)) →
      am_W m_L_isTree (d + 22) 1 6 false 0 0 260 [(0, .ref 0), (1, .int (nn g)), (2, .int (nn (teW w g))), (3, .int vl), (4, .int vc), (5, .int ve), (6, .int vw), (7, .int (nn t)), (8, .int (nn n)), (9, .int c)] [] Γ I L (am_R (.inl (some (.int 1))) I L)
  | 0, _, _, _, hT, _, _, _, _, _ => hT.elim
  | f + 1, n, S, e', hT, he, hS, hb, c, K => by
    obtain ⟨⟨n0, n1, n2, n3⟩, ⟨w0, w1, w2⟩, q6, t8, g4, q0, t0, g0⟩ := R.nums
    have ox := hF.1.1
    have gt := tva_gt hT
    have e15 := (R.1.1.tr hg).2.2.1
    obtain ⟨hs, hT | ⟨q, m, hq, s1, s2, e1, e2, e3, e4, ha, hb2⟩⟩ := hT
    · obtain ⟨a1, a2, a3, a4, rfl⟩ := hT
      refine bL_isTree_260 (Nat.zero_le _) (Nat.zero_le _) (am_E_e (hL_nodeQuestion ox (qX_nodeQuestion (d := d) (n := n) hF R hg (by omega))) a1 rfl) ?_
      refine bL_isTree_267 (fun _ => ?_) (fun z => absurd (by decide) z)
      refine K n (by omega) a1 (by rw [hs, ib_nn hS (by omega)]; exact hb) c ?_
      show c + fsum _ n = c + (fsum _ n + (if rw5 w g 0 n ≠ -1 ∧ ib (rw5 w g 4 n) (nn t) = true then csW w (rw5 w g 0 n).toNatClampNeg else 0))
      rw [if_neg (fun z => z.1 a1), Int32.add_zero]
    · have g1 := tva_gt ha
      have g2 := tva_gt hb2
      have sp := and_nots S (yse (vT w) (tyW w) q)
      have hn : n < teW w g := by omega
      have hib : ib (rw5 w g 4 n) (nn t) = true := by rw [hs, ib_nn hS (by omega)]; exact hb
      have hne : rw5 w g 0 n ≠ -1 := by rw [e1]; exact nn_none (by omega)
      have hbit : ¬ ¬ ((rw5 w g 4 n >>> (nn t &&& 31)) &&& 1) = 1 := by
        intro z
        rw [hs, nn_bit hS (by omega)] at z
        have := nb_1.mpr hb
        rw [this] at z
        exact z rfl
      have hbit' : ((rw5 w g 4 n >>> (nn t &&& 31)) &&& 1) = 1 := Decidable.byContradiction hbit
      have cost : am_E m_L_questionCost (d + 21) 0 0 [.ref 0, .int (nn q)] Γ I L (.inl (some (.int (csW w q)))) I L := hL_questionCost ox (qX_questionCost (d := d) hF R hq)
      have nq : am_E m_L_nodeQuestion (d + 21) 0 0 [.ref 0, .int (nn g), .int (nn n)] Γ I L (.inl (some (.int (nn q)))) I L := am_E_e (hL_nodeQuestion ox (qX_nodeQuestion (d := d) (n := n) hF R hg hn)) e1 rfl
      have F1 : fsum (fun j => if rw5 w g 0 j ≠ -1 ∧ ib (rw5 w g 4 j) (nn t) = true then csW w (rw5 w g 0 j).toNatClampNeg else 0) (n + 1) = fsum (fun j => if rw5 w g 0 j ≠ -1 ∧ ib (rw5 w g 4 j) (nn t) = true then csW w (rw5 w g 0 j).toNatClampNeg else 0) n + csW w q := by
        show fsum _ n + (if rw5 w g 0 n ≠ -1 ∧ ib (rw5 w g 4 n) (nn t) = true then csW w (rw5 w g 0 n).toNatClampNeg else 0) = _
        rw [if_pos ⟨hne, hib⟩, e1, nn_nat (by omega)]
      have b1 : (S &&& yse (vT w) (tyW w) q).testBit t = (S.testBit t && (yse (vT w) (tyW w) q).testBit t) := Nat.testBit_and ..
      have b2 : (nots S (yse (vT w) (tyW w) q)).testBit t = (S.testBit t && !(yse (vT w) (tyW w) q).testBit t) := nots_bit _ _ _
      have b3 := yse_bit (T := vT w) (ty := tyW w) (q := q) ht
      rw [hb, b3, Bool.true_and] at b1 b2
      have tr : am_E m_L_hasTrait (d + 21) 0 0 [.ref 0, .int (nn t), .int (nn q)] Γ I L (.inl (some (.int (bi ((tyW w t).testBit q))))) I L := hL_hasTrait ox (qX_hasTrait (d := d) hF R ht hq)
      refine bL_isTree_260 (Nat.zero_le _) (Nat.zero_le _) nq ?_
      refine bL_isTree_267 (fun z => absurd z (nn_neg_lt (by omega))) (fun _ => ?_)
      refine bL_isTree_270 (Nat.zero_le _) (Nat.zero_le _) (hL_typesAt ox (qX_typesAt (d := d) (n := n) hF R hg hn)) ?_
      refine bL_isTree_277 (fun _ => ?_) (fun z => absurd hbit' z)
      refine bL_isTree_288 (Nat.zero_le _) (Nat.zero_le _) nq ?_
      refine bL_isTree_298 (Nat.zero_le _) (Nat.zero_le _) cost ?_
      refine bL_isTree_301 (Nat.zero_le _) (Nat.zero_le _) nq ?_
      refine bL_isTree_314 (Nat.zero_le _) (Nat.zero_le _) tr ?_
      cases hy : (tyW w t).testBit q
      · rw [hy] at b1 b2
        refine bL_isTree_317 (fun _ => ?_) (fun z => absurd z (by decide))
        refine bL_isTree_331 (Nat.zero_le _) (Nat.zero_le _) (am_E_e (hL_noChild ox (qX_noChild (d := d) (n := n) hF R hg hn)) e4 rfl) ?_
        refine bL_isTree_338 ?_
        refine isTree_walk hF R hg ht hb2 he (by omega) b2 _ (fun l l1 l2 l3 c' hc => K l l1 l2 l3 c' ?_)
        have F2 : fsum (fun j => if rw5 w g 0 j ≠ -1 ∧ ib (rw5 w g 4 j) (nn t) = true then csW w (rw5 w g 0 j).toNatClampNeg else 0) m = fsum (fun j => if rw5 w g 0 j ≠ -1 ∧ ib (rw5 w g 4 j) (nn t) = true then csW w (rw5 w g 0 j).toNatClampNeg else 0) (n + 1) :=
          fsum_z (n := n + 1) (by omega) (fun j j1 j2 => by
            rw [if_neg (fun z => ?_)]
            have := tva_out (show t < 32 by omega) ha (by omega) (by rw [b1]) j j1 j2
            rw [this] at z
            exact absurd z.2 (by decide))
        rw [F2, F1] at hc
        have h9 : c' + fsum (fun j => if rw5 w g 0 j ≠ -1 ∧ ib (rw5 w g 4 j) (nn t) = true then csW w (rw5 w g 0 j).toNatClampNeg else 0) n + csW w q = c + fsum (fun j => if rw5 w g 0 j ≠ -1 ∧ ib (rw5 w g 4 j) (nn t) = true then csW w (rw5 w g 0 j).toNatClampNeg else 0) e' + csW w q := by
          rw [Int32.add_assoc, hc, Int32.add_assoc, Int32.add_assoc, Int32.add_comm (csW w q)]
        exact i32_rc h9
      · rw [hy] at b1 b2
        refine bL_isTree_317 (fun z => absurd rfl z) (fun _ => ?_)
        refine bL_isTree_321 (Nat.zero_le _) (Nat.zero_le _) (am_E_e (hL_yesChild ox (qX_yesChild (d := d) (n := n) hF R hg hn)) e3 rfl) ?_
        refine bL_isTree_328 ?_
        refine bL_isTree_338 ?_
        refine isTree_walk hF R hg ht ha (by omega) (by omega) b1 _ (fun l l1 l2 l3 c' hc => K l l1 l2 l3 c' ?_)
        have F2 : fsum (fun j => if rw5 w g 0 j ≠ -1 ∧ ib (rw5 w g 4 j) (nn t) = true then csW w (rw5 w g 0 j).toNatClampNeg else 0) e' = fsum (fun j => if rw5 w g 0 j ≠ -1 ∧ ib (rw5 w g 4 j) (nn t) = true then csW w (rw5 w g 0 j).toNatClampNeg else 0) m :=
          fsum_z (n := m) (by omega) (fun j j1 j2 => by
            rw [if_neg (fun z => ?_)]
            have := tva_out (show t < 32 by omega) hb2 (by omega) (by rw [b2]; rfl) j j1 j2
            rw [this] at z
            exact absurd z.2 (by decide))
        rw [F1] at hc
        rw [F2]
        have h9 : c' + fsum (fun j => if rw5 w g 0 j ≠ -1 ∧ ib (rw5 w g 4 j) (nn t) = true then csW w (rw5 w g 0 j).toNatClampNeg else 0) n + csW w q = c + fsum (fun j => if rw5 w g 0 j ≠ -1 ∧ ib (rw5 w g 4 j) (nn t) = true then csW w (rw5 w g 0 j).toNatClampNeg else 0) m + csW w q := by
          rw [Int32.add_assoc, hc, Int32.add_assoc, Int32.add_assoc, Int32.add_comm (csW w q)]
        exact i32_rc h9
theorem eL_isTree (hF : wF Γ) (R : CS I L w h s) {g : Nat} (hg : g < vG w) : am_E m_L_isTree (d + 22) 1 6 [.ref 0, .int (nn g)] Γ I L (.inl (some (.int 1))) I L := by
  obtain ⟨⟨n0, n1, n2, n3⟩, ⟨w0, w1, w2⟩, q6, t8, g4, q0, t0, g0⟩ := R.nums
  have ox := hF.1.1
  obtain ⟨ew, e0, e15, tv⟩ := R.1.1.tr hg
  have p8 := two_le8 t8
  have p2 : 2 ^ 1 ≤ 2 ^ vT w := Nat.pow_le_pow_right (n := 2) (by decide) t0
  have nd := tva_node q6 tv (by omega)
  have cov := tva_cov q6 tv (by omega)
  have rt := tva_root tv
  have hm : 0 < 1 := by decide
  refine am_ofE rfl rfl rfl (Nat.le_of_ble_eq_true rfl) ?_
  refine bL_isTree_0 (Nat.zero_le _) (Nat.zero_le _) (am_E_e (hL_nodeCount ox (qX_nodeCount (d := d) hF R hg)) ew rfl) ?_
  refine bL_isTree_5 ?_
  have loop1 := nn_loop (fun k => am_W m_L_isTree (d + 22) 1 6 false 1 6 14 [(0, .ref 0), (1, .int (nn g)), (2, .int (nn (teW w g))), (3, .int (nn (nsum (fun j => if rw5 w g 0 j = -1 then 1 else 0) k))), (4, .int (nn (nsum (fun j => if rw5 w g 0 j = -1 then (rw5 w g 4 j).toNatClampNeg else 0) k))), (5, .int (nn k))] [] Γ I L (am_R (.inl (some (.int 1))) I L)) (teW w g) ?_ (fun k hk ih => ?_)
  · exact loop1
  · refine bL_isTree_14 (fun _ => ?_) (fun z => absurd (by rw [nn_le (by omega) (by omega)]; exact Nat.le_refl _) z)
    refine bL_isTree_190 (Nat.zero_le _) (Nat.zero_le _) (am_E_e (hL_typesAt ox (qX_typesAt (d := d) (n := 0) hF R hg e0)) rt rfl) ?_
    have c1 : nsum (fun j => if rw5 w g 0 j = -1 then (rw5 w g 4 j).toNatClampNeg else 0) (teW w g) = 2 ^ vT w - 1 := by
      have := cov.1
      rw [this]
      show 0 + _ = _
      omega
    have c2 : 2 * nsum (fun j => if rw5 w g 0 j = -1 then 1 else 0) (teW w g) = teW w g + 1 := by
      have := cov.2
      rw [this]
      show 2 * 0 + _ + 1 = _
      omega
    rw [c1]
    refine bL_isTree_198 (fun z => absurd rfl z) (fun _ => ?_)
    refine bL_isTree_201 ox (Nat.zero_le _) (Nat.zero_le _) (am_E_e (qX_typeCount (d := d + 1) hF R) w1 rfl) ?_
    refine bL_isTree_208 (fun z => absurd (by rw [nl_1, nn_shl (by omega), Nat.one_mul, nn_sub (by omega)]) z) (fun _ => ?_)
    refine bL_isTree_214 (fun z => absurd ((fun x (hx : 2 * x = teW w g + 1) => (show nn (teW w g) = 2 * nn x - 1 by rw [nl_2, nl_1, nn_mul, hx, nn_sub (by omega), Nat.add_sub_cancel])) _ c2) z) (fun _ => ?_)
    refine bL_isTree_223 (by decide) (by decide) (hL_nodeQuestion_x ox (qX_nodeQuestion_x (d := d) hF R hg (fun ⟨n, z1, z2⟩ => by rw [nn_eq (by omega) (by omega)] at z2; omega))) ?_
    refine bL_isTree_229 (fun _ => ?_) (fun z => absurd rfl z)
    refine bL_isTree_236 ?_
    generalize nn (nsum (fun j => if rw5 w g 0 j = -1 then 1 else 0) (teW w g)) = vl
    generalize nn (2 ^ vT w - 1) = vc
    have loop2 := nn_loop (fun t => am_W m_L_isTree (d + 22) 1 6 false 0 0 245 [(0, .ref 0), (1, .int (nn g)), (2, .int (nn (teW w g))), (3, .int vl), (4, .int vc), (5, .int (mErr w g (teW w g) t)), (6, .int (wbM w g (teW w g) t)), (7, .int (nn t))] [] Γ I L (am_R (.inl (some (.int 1))) I L)) (vT w) ?_ (fun t ht ih => ?_)
    · exact loop2
    · refine bL_isTree_245 ox (Nat.zero_le _) (Nat.zero_le _) (am_E_e (qX_typeCount (d := d + 1) hF R) w1 rfl) ?_
      refine bL_isTree_251 (fun _ => ?_) (fun z => absurd (by rw [nn_le (by omega) (by omega)]; exact Nat.le_refl _) z)
      refine bL_isTree_469 (Nat.zero_le _) (Nat.zero_le _) (hL_errors ox (qX_errors (d := d) hF R hg)) ?_
      refine bL_isTree_474 (fun z => absurd rfl z) (fun _ => ?_)
      refine bL_isTree_479 (Nat.zero_le _) (Nat.zero_le _) (hL_work ox (qX_work (d := d) hF R hg)) ?_
      refine bL_isTree_484 (fun z => absurd (mWrk_wbM w g (vT w) (teW w g)) z) (fun _ => ?_)
      refine bL_isTree_489 ?_
      exact bL_isTree_494 rfl ⟨rfl, rfl, rfl⟩
    · refine bL_isTree_245 ox (Nat.zero_le _) (Nat.zero_le _) (am_E_e (qX_typeCount (d := d + 1) hF R) w1 rfl) ?_
      refine bL_isTree_251 (fun z => absurd z (by rw [nn_le (by omega) (by omega)]; omega)) (fun _ => ?_)
      refine bL_isTree_254 ?_
      refine isTree_walk (f := 256) (n := 0) hF R hg ht tv (Nat.le_refl _) (by omega) (all_bit ht) 0 (fun l l1 l2 l3 c' hc => ?_)
      obtain ⟨k1, k2, k3, k4⟩ := lfA_sp q6 (show t < 32 by omega) tv (by omega) (all_bit ht)
      have hl := k4 l l1 l2 l3
      have hc2 : c' = pcW w g t := by
        have e9 : c' + 0 = 0 + pcW w g t := hc
        rw [Int32.add_zero, Int32.zero_add] at e9
        exact e9
      subst hc2
      have eP : ptW w g t = rw5 w g 1 l := by unfold ptW; rw [← hl]
      have ct : am_E m_L_chargedToll (d + 21) 0 0 [.ref 0, .int (nn g), .int (nn t)] Γ I L (.inl (some (.int (ptW w g t)))) I L := hL_chargedToll ox (qX_chargedToll (d := d) hF R hg ht)
      have cA : am_E m_L_countAt (d + 21) 0 0 [.ref 0, .int (nn g), .int (nn t)] Γ I L (.inl (some (.int (w (132 + g * 94 + (10 + t)))))) I L := hL_countAt ox (qX_countAt (d := d) hF R hg ht)
      obtain ⟨v, hv, v1, v2⟩ := qX_mischargeReason (d := d) hF R hg ht
      refine bL_isTree_343 (Nat.zero_le _) (Nat.zero_le _) (am_E_e (hL_leafOf ox (qX_leafOf (d := d) hF R hg ht)) (by rw [← hl]) rfl) ?_
      refine bL_isTree_350 (fun z => absurd rfl z) (fun _ => ?_)
      refine bL_isTree_355 (Nat.zero_le _) (Nat.zero_le _) (hL_pathCost ox (qX_pathCost (d := d) hF R hg ht)) ?_
      refine bL_isTree_362 (fun z => absurd rfl z) (fun _ => ?_)
      refine bL_isTree_367 (Nat.zero_le _) (Nat.zero_le _) ct ?_
      refine bL_isTree_374 (Nat.zero_le _) (Nat.zero_le _) (hL_leafToll ox (qX_leafToll (d := d) (n := l) hF R hg l1)) ?_
      refine bL_isTree_381 (fun _ => ?_) (fun z => absurd eP z)
      refine bL_isTree_386 (Nat.zero_le _) (Nat.zero_le _) ct ?_
      refine bL_isTree_393 (Nat.zero_le _) (Nat.zero_le _) (hL_toll ox (qX_toll (d := d) hF R ht)) ?_
      have eE : mErr w g (teW w g) (t + 1) = mErr w g (teW w g) t + (if ptW w g t = w (60 + t * 9 + 0) then 0 else w (132 + g * 94 + (10 + t))) := rfl
      have eW : wbM w g (teW w g) (t + 1) = wbM w g (teW w g) t + pcW w g t * w (132 + g * 94 + (10 + t)) := by
        show wbM w g (teW w g) t + w (132 + g * 94 + (10 + t)) * pcW w g t = _
        rw [Int32.mul_comm]
      by_cases hz : ptW w g t = w (60 + t * 9 + 0)
      · have v0 : v = 0 := v1.mpr hz
        subst v0
        rw [if_pos hz, Int32.add_zero] at eE
        refine bL_isTree_399 (fun _ => ?_) (fun z => absurd hz z)
        refine bL_isTree_406 ?_
        refine bL_isTree_407 (fun _ => ?_) (fun z => absurd rfl z)
        refine bL_isTree_426 (Nat.zero_le _) (Nat.zero_le _) cA ?_
        refine bL_isTree_437 (Nat.zero_le _) (Nat.zero_le _) (hL_mischargeReason ox hv) ?_
        refine bL_isTree_450 (fun _ => ?_) (fun z => absurd (by decide) z)
        refine bL_isTree_457 ?_
        refine bL_isTree_458 (fun _ => ?_) (fun z => absurd rfl z)
        refine bL_isTree_463 ?_
        exact aw_take 8 (aw_els ih (by rw [eE, eW, ← nn_s1 t]; rfl))
      · have vp : ¬ v ≤ 0 := by
          have hv0 : v ≠ 0 := fun z => hz (v1.mp z)
          rcases v2 with rfl | rfl | rfl | rfl
          · exact absurd rfl hv0
          · decide
          · decide
          · decide
        rw [if_neg hz] at eE
        refine bL_isTree_399 (fun z => absurd z hz) (fun _ => ?_)
        refine bL_isTree_402 ?_
        refine bL_isTree_407 (fun z => absurd z (by decide)) (fun _ => ?_)
        refine bL_isTree_414 (Nat.zero_le _) (Nat.zero_le _) cA ?_
        refine bL_isTree_423 ?_
        refine bL_isTree_426 (Nat.zero_le _) (Nat.zero_le _) cA ?_
        refine bL_isTree_437 (Nat.zero_le _) (Nat.zero_le _) (hL_mischargeReason ox hv) ?_
        refine bL_isTree_450 (fun z => absurd z vp) (fun _ => ?_)
        refine bL_isTree_453 ?_
        refine bL_isTree_458 (fun _ => ?_) (fun z => absurd rfl z)
        refine bL_isTree_463 ?_
        exact aw_take 8 (aw_els ih (by rw [eE, eW, ← nn_s1 t]; rfl))
  · have l3 : nsum (fun j => if rw5 w g 0 j = -1 then 1 else 0) (k + 1) = nsum (fun j => if rw5 w g 0 j = -1 then 1 else 0) k + (if rw5 w g 0 k = -1 then 1 else 0) := rfl
    have l4 : nsum (fun j => if rw5 w g 0 j = -1 then (rw5 w g 4 j).toNatClampNeg else 0) (k + 1) = nsum (fun j => if rw5 w g 0 j = -1 then (rw5 w g 4 j).toNatClampNeg else 0) k + (if rw5 w g 0 k = -1 then (rw5 w g 4 k).toNatClampNeg else 0) := rfl
    refine bL_isTree_14 (fun z => absurd z (by rw [nn_le (by omega) (by omega)]; omega)) (fun _ => ?_)
    refine bL_isTree_20 (Nat.zero_le _) (Nat.zero_le _) (hL_nodeQuestion ox (qX_nodeQuestion (d := d) (n := k) hF R hg hk)) ?_
    refine bL_isTree_27 (Nat.zero_le _) (Nat.zero_le _) (hL_typesAt ox (qX_typesAt (d := d) (n := k) hF R hg hk)) ?_
    rcases nd k (Nat.zero_le _) hk with ⟨a1, ⟨v, v1, v2⟩, a3, a4, S', s0, s1, s2⟩ | ⟨q, m, S', x1, x2, x3, x4, x5, x6, x7, x8, x9, x10, x11⟩
    · rw [if_pos a1] at l3 l4
      have hS0 : ¬ rw5 w g 4 k = 0 := by rw [s2, nl_0, nn_eq (by omega) (by decide)]; exact s0
      refine bL_isTree_36 (fun z => absurd a1 z) (fun _ => ?_)
      refine bL_isTree_44 (Nat.zero_le _) (Nat.zero_le _) (am_E_e (hL_leafToll ox (qX_leafToll (d := d) (n := k) hF R hg hk)) v2 rfl) ?_
      refine bL_isTree_61 (fun z => absurd z (nn_neg_lt (by omega))) (fun _ => ?_)
      refine bL_isTree_64 (Nat.zero_le _) (Nat.zero_le _) (am_E_e (hL_yesChild ox (qX_yesChild (d := d) (n := k) hF R hg hk)) a3 rfl) ?_
      refine bL_isTree_71 (fun z => absurd rfl z) (fun _ => ?_)
      refine bL_isTree_75 (Nat.zero_le _) (Nat.zero_le _) (am_E_e (hL_noChild ox (qX_noChild (d := d) (n := k) hF R hg hk)) a4 rfl) ?_
      refine bL_isTree_82 (fun z => absurd rfl z) (fun _ => ?_)
      refine bL_isTree_86 (fun _ => ?_) (fun z => absurd z hS0)
      refine bL_isTree_184 ?_
      have hts : rw5 w g 4 k = nn (rw5 w g 4 k).toNatClampNeg := by rw [s2, nn_nat (by omega)]
      exact aw_take 6 (aw_els ih (by rw [l3, l4, ← nn_add, ← nn_add, ← hts, ← nn_s1 k]; rfl))
    · have hne : ¬ rw5 w g 0 k = -1 := by rw [x2]; exact nn_none (by omega)
      rw [if_neg hne, Nat.add_zero] at l3 l4
      have sp := and_nots S' (yse (vT w) (tyW w) q)
      have c1 : am_E m_L_typesAt (d + 21) 0 0 [.ref 0, .int (nn g), .int (nn (k + 1))] Γ I L (.inl (some (.int (nn (S' &&& yse (vT w) (tyW w) q))))) I L := am_E_e (hL_typesAt ox (qX_typesAt (d := d) (n := k + 1) hF R hg (by omega))) x10 rfl
      have c2 : am_E m_L_typesAt (d + 21) 0 0 [.ref 0, .int (nn g), .int (nn m)] Γ I L (.inl (some (.int (nn (nots S' (yse (vT w) (tyW w) q)))))) I L := am_E_e (hL_typesAt ox (qX_typesAt (d := d) (n := m) hF R hg x7)) x11 rfl
      have hz : (S' &&& yse (vT w) (tyW w) q) &&& nots S' (yse (vT w) (tyW w) q) = 0 := by
        refine Nat.eq_of_testBit_eq (fun i => ?_)
        rw [Nat.testBit_and, nots_bit, Nat.testBit_and, Nat.zero_testBit]
        cases S'.testBit i <;> cases (yse (vT w) (tyW w) q).testBit i <;> rfl
      refine bL_isTree_36 (fun _ => ?_) (fun z => absurd z hne)
      refine bL_isTree_93 (Nat.zero_le _) (Nat.zero_le _) (am_E_e (hL_yesChild ox (qX_yesChild (d := d) (n := k) hF R hg hk)) x4 rfl) ?_
      refine bL_isTree_100 (Nat.zero_le _) (Nat.zero_le _) (am_E_e (hL_noChild ox (qX_noChild (d := d) (n := k) hF R hg hk)) x5 rfl) ?_
      refine bL_isTree_109 (fun z => absurd (nn_s1 k).symm z) (fun _ => ?_)
      refine bL_isTree_120 (fun z => absurd z (by rw [nn_le (by omega) (by omega)]; omega)) (fun _ => ?_)
      refine bL_isTree_127 (fun z => absurd z (by rw [nn_le (by omega) (by omega)]; omega)) (fun _ => ?_)
      refine bL_isTree_133 (Nat.zero_le _) (Nat.zero_le _) (am_E_e (hL_leafToll ox (qX_leafToll (d := d) (n := k) hF R hg hk)) x3 rfl) ?_
      refine bL_isTree_140 (fun z => absurd rfl z) (fun _ => ?_)
      refine bL_isTree_144 (Nat.zero_le _) (Nat.zero_le _) c1 ?_
      refine bL_isTree_151 (Nat.zero_le _) (Nat.zero_le _) c2 ?_
      refine bL_isTree_158 (fun z => absurd (by rw [nn_and, hz]; rfl) z) (fun _ => ?_)
      refine bL_isTree_162 (Nat.zero_le _) (Nat.zero_le _) c1 ?_
      refine bL_isTree_169 (Nat.zero_le _) (Nat.zero_le _) c2 ?_
      refine bL_isTree_176 (fun _ => ?_) (fun z => absurd (by rw [nn_add, sp, x9]) z)
      refine aw_take 8 ?_
      refine bL_isTree_184 ?_
      exact aw_take 6 (aw_els ih (by rw [l3, l4, ← nn_s1 k]; rfl))
end TI
