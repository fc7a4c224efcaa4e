/-! CLASS AND MODEL SIDE BY SIDE: the quickest, the stalest, what disagrees -/
/-- the quickest of the first k gates, plus one -/
def qkb (op : Nat → Bool) (c p : Nat → Nat) : Nat → Nat
  | 0 => 0
  | k + 1 => if op k = true ∧ (qkb op c p k = 0 ∨ c k < c (qkb op c p k - 1) ∨ (c k = c (qkb op c p k - 1) ∧ p k < p (qkb op c p k - 1))) then k + 1 else qkb op c p k
def qkv (n : Nat) : Int32 := if n = 0 then -1 else nn (n - 1)
theorem qkb_le (op : Nat → Bool) (c p : Nat → Nat) : ∀ k, qkb op c p k ≤ k
  | 0 => Nat.le_refl _
  | k + 1 => by
    have := qkb_le op c p k
    unfold qkb
    by_cases h : op k = true ∧ (qkb op c p k = 0 ∨ c k < c (qkb op c p k - 1) ∨ (c k = c (qkb op c p k - 1) ∧ p k < p (qkb op c p k - 1)))
    · rw [if_pos h]; exact Nat.le_refl _
    · rw [if_neg h]; omega
theorem qkv_neg {n : Nat} (h : n ≤ 5) : (qkv n = -1 ↔ n = 0) := by
  unfold qkv
  by_cases h0 : n = 0
  · rw [if_pos h0]; exact ⟨fun _ => h0, fun _ => rfl⟩
  · rw [if_neg h0]
    have : ∀ k, k < 5 → ¬ nn k = -1 := by decide
    exact ⟨fun z => absurd z (this _ (by omega)), fun z => absurd z h0⟩
theorem qkv_s (k : Nat) : qkv (k + 1) = nn k := by
  unfold qkv
  rw [if_neg (by omega), Nat.add_sub_cancel]
/-- the stalest of the first k gates -/
def stl (a b : Nat → Int32) : Nat → Int32 × Int32 × Int32
  | 0 => (-1, 0, 0)
  | k + 1 => if (stl a b k).2.1 < a k ∨ (a k = (stl a b k).2.1 ∧ ¬ b k ≤ (stl a b k).2.2) then (nn k, a k, b k) else stl a b k
def iac (A : Int32) (F : Nat → Int32) : Nat → Int32
  | 0 => A
  | k + 1 => iac A F k + F k
theorem am_u_same (I : am_I) (c j : Nat) : am_u I c j (I c j) = I := by
  funext a b
  rw [am_u_at]
  by_cases h : a = c ∧ b = j
  · rw [if_pos h, h.1, h.2]
  · rw [if_neg h]
section F9
variable {d mc ms : Nat} {Γ : am_G} {I : am_I} {L : am_L} {m : Nat}
theorem fX_quickestGate (hF : wF Γ) (R : REL I L) (p0 : Int32) : gX Γ I L m_X8_quickestGate m_X9_quickestGate [.int p0] ["java/lang/IndexOutOfBoundsException"] := by
  obtain ⟨⟨o, f0, f1, f2, f3, f4, f5, f6, f7⟩, so, st, dr, ⟨ro, rr0, rr5, rr6, ra⟩, hi, sv, ⟨oo, or0, or2, oa, oa2⟩, hm, am, am2⟩ := id hF
  obtain ⟨ob, s4, s5, s6, s7, s8, s9, s10, b1, b2, b3, b4, b5, b6, o7, hg⟩ := id st
  obtain ⟨mo, r0, r1, r2, r3, r4, r7, r8, r13, r14, r15, r16, r17, a1, a2, a3, a4, a5, a6, a7, a8, a9, a10, a11, a12⟩ := id hm
  obtain ⟨⟨n0, n1, n2, n3⟩, ⟨w0, w1, w2⟩, q6, t8, g4, q0, t0, g0⟩ := R.nums
  obtain ⟨ho83, hi1, hi2, hi3⟩ := id hi
  have hJ : ∀ v : Int32, am_u I 450 6 v (450 + 1) = I 451 := fun v => am_u_ne (by decide)
  by_cases c0 : ∃ t, t < vT (I 451) ∧ p0 = nn t
  case neg =>
    refine ⟨I, L, am_u I 450 6 1, .inr "java/lang/IndexOutOfBoundsException", 0, am_ofE rfl rfl rfl (Nat.le_of_ble_eq_true rfl) ?_, am_ofE rfl rfl rfl (Nat.le_of_ble_eq_true rfl) ?_, R.thr 1, Or.inr ⟨0, _, rfl, rfl, by rw [am_u_at, if_pos ⟨rfl, rfl⟩]; rfl⟩⟩
    · refine bX8_quickestGate_0x (by assumption) (by decide) (by decide) (eX8_requireType_f hF n1 c0 (by omega)) ?_
      exact ⟨rfl, rfl, rfl⟩
    · refine bX9_quickestGate_0 (by assumption) (Nat.zero_le _) (Nat.zero_le _) (eX9_noType_f hm w1 c0 (by omega)) ?_
      refine bX9_quickestGate_6 (by assumption) (Nat.zero_le _) (Nat.zero_le _) (eX9_fails1 hm) ?_
      refine bX9_quickestGate_11 (fun h => absurd h (by decide)) (fun _ => ?_)
      refine bX9_quickestGate_14 ?_
      exact ⟨rfl, rfl, rfl⟩
  obtain ⟨t, ht, rfl⟩ := c0
  have t31 : t < 32 := by omega
  have p8 := two_le8 t8
  -- what the gates answer
  have data : ∀ g, g < vG (I 451) → ∃ (b : Bool) (c p : Nat), c < 136 ∧ p < 136 ∧ opens (I 451 (132 + g * 94 + 0)) (I 451 (132 + g * 94 + 1)) (I 451 3 - I 451 3 / 24 * 24) = b ∧ wcA (rw5 (I 451) g 0) (rw5 (I 451) g 4) (csW (I 451)) (nn t) (teW (I 451) g) = nn c ∧ rw5 (I 451) g 1 (lfA (rw5 (I 451) g 0) (rw5 (I 451) g 4) (nn t) (teW (I 451) g)) = nn p := by
    intro g hgv
    obtain ⟨c, c1, c2⟩ := R.way hgv (nn t)
    have tw := R.1.1.tr hgv
    obtain ⟨l1, l2, l3, l4⟩ := lfA_sp q6 t31 tw.2.2.2 (by omega) (all_bit ht)
    obtain ⟨p, p1, p2⟩ := tva_toll q6 tw.2.2.2 _ (Nat.zero_le _) l1 l2
    exact ⟨_, c, p, c1, by omega, rfl, c2, p2⟩
  obtain ⟨op, cf, pf, hd⟩ : ∃ (op : Nat → Bool) (cf pf : Nat → Nat), ∀ g, g < vG (I 451) → cf g < 136 ∧ pf g < 136 ∧ opens (I 451 (132 + g * 94 + 0)) (I 451 (132 + g * 94 + 1)) (I 451 3 - I 451 3 / 24 * 24) = op g ∧ wcA (rw5 (I 451) g 0) (rw5 (I 451) g 4) (csW (I 451)) (nn t) (teW (I 451) g) = nn (cf g) ∧ rw5 (I 451) g 1 (lfA (rw5 (I 451) g 0) (rw5 (I 451) g 4) (nn t) (teW (I 451) g)) = nn (pf g) :=
    ⟨fun g => if h : g < vG (I 451) then (data g h).choose else false, fun g => if h : g < vG (I 451) then (data g h).choose_spec.choose else 0, fun g => if h : g < vG (I 451) then (data g h).choose_spec.choose_spec.choose else 0, fun g h => by
      simp only [dif_pos h]
      exact (data g h).choose_spec.choose_spec.choose_spec⟩
  refine ⟨I, L, am_u I 450 6 0, .inl (some (.int (qkv (qkb op cf pf (vG (I 451)))))), qkv (qkb op cf pf (vG (I 451))), am_ofE rfl rfl rfl (Nat.le_of_ble_eq_true rfl) ?_, am_ofE rfl rfl rfl (Nat.le_of_ble_eq_true rfl) ?_, R.thr 0, Or.inl ⟨rfl, by rw [am_u_at, if_pos ⟨rfl, rfl⟩]⟩⟩
  · refine bX8_quickestGate_0 (by assumption) (Nat.zero_le _) (Nat.zero_le _) (eX8_requireType_t (mc := 0) (ms := 0) hF n1 ht (by omega)) ?_
    refine bX8_quickestGate_5 ?_
    have loop := nn_loop (fun g => ∀ c p : Int32, (qkb op cf pf g ≠ 0 → c = nn (cf (qkb op cf pf g - 1)) ∧ p = nn (pf (qkb op cf pf g - 1))) → am_W m_X8_quickestGate 270 1 6 false 1 6 15 [(0, .ref 0), (1, .int (nn t)), (2, .int (qkv (qkb op cf pf g))), (3, .int c), (4, .int p), (5, .int (nn g))] [] Γ I L (am_R (.inl (some (.int (qkv (qkb op cf pf (vG (I 451))))))) I L)) (vG (I 451)) ?_ (fun g hgv ih => ?_)
    · exact loop 0 0 (fun z => absurd rfl z)
    · intro c p _
      refine bX8_quickestGate_15 o f1 ob (fun _ => ?_) (fun h => absurd (Int32.le_of_eq n2) h)
      refine bX8_quickestGate_124 ?_
      exact ⟨rfl, rfl, rfl⟩
    · intro c p hcp
      have hgx : g < 4 := by omega
      obtain ⟨hg1, hgg⟩ := hg g hgx
      obtain ⟨og, gg4, gg5, ga, tr⟩ := id hgg
      obtain ⟨ot, tr1, tr2, tr3, tr4, ta1, ta2, ta3, ta4⟩ := id tr
      obtain ⟨y0, y1, y2, y3, y4, y5, y6⟩ := R.2.1.2.2.2.2 g hgv
      obtain ⟨e, e15, e0, ee, ew, ec, tw, h6, tok, sets⟩ := R.gate hgv
      have md : mda (I 451) g (vQ (I 451)) (vT (I 451)) (qcW (I 451)) (tyW (I 451)) (tlW (I 451)) (ctW (I 451) g) := R.1.1.mda t0 hgv
      have gE : gc 9 g = 9 + (8 + 7 * g) := rfl
      obtain ⟨d1, d2, d3, d4, d5⟩ := hd g hgv
      have qle := qkb_le op cf pf g
      have hOp : opens (I (gc 9 g) 1) (I (gc 9 g) 2) (I 9 3 - I 9 3 / 24 * 24) = op g := by rw [y1, y2, n3]; exact d3
      refine bX8_quickestGate_15 o f1 ob (fun h => absurd h (by rw [n2, nn_le (by omega) (by omega)]; omega)) (fun _ => ?_)
      refine bX8_quickestGate_27 o f1 ob s9 b6 (nn_in (by omega) (by omega)) (by rw [nn_nat (by omega)]; exact hg1) (Nat.zero_le _) (Nat.zero_le _) (eX5_hourOfDay st) ?_
      refine bX8_quickestGate_44 hgg.1 (Nat.zero_le _) (Nat.zero_le _) (eX0_opensAt_b hgg hOp) ?_
      have skip : ∀ ls : List (Nat × Value), ls.take 6 = [(0, .ref 0), (1, .int (nn t)), (2, .int (qkv (qkb op cf pf g))), (3, .int c), (4, .int p), (5, .int (nn g))] → qkb op cf pf (g + 1) = qkb op cf pf g → am_W m_X8_quickestGate 270 1 6 false 1 6 118 ls [] Γ I L (am_R (.inl (some (.int (qkv (qkb op cf pf (vG (I 451))))))) I L) := by
        intro ls hls hq
        refine aw_take 6 ?_
        rw [hls]
        refine bX8_quickestGate_118 ?_
        rw [nn_s1, ← hq]
        exact ih c p (by rw [hq]; exact hcp)
      refine bX8_quickestGate_47 (fun ho => ?_) (fun ho => ?_)
      · have op1 := bi_nz.mp ho
        have hWay : am_E m_X5_costOfPath 269 0 0 [.ref 9, .int (nn g), .int (nn t)] Γ I L (.inl (some (.int (nn (cf g))))) I L := am_E_e (eX5_costOfPath st hgx e15 ec tok (nn t)) (by rw [R.wc hgv ee h6, ee]; exact d4) rfl
        have hTol : am_E m_X7_tollFor 269 0 0 [.ref (gc 9 g + 2), .int (nn t)] Γ I L (.inl (some (.int (nn (pf g))))) I L := am_E_e (eX7_tollFor tr e15 e0 ec (nn t)) (by rw [R.lf h6, ee, ← d5]; exact (h6 _ (by rw [ee]; exact (lfA_sp q6 t31 (R.1.1.tr hgv).2.2.2 (by omega) (all_bit ht)).1)).2.1) rfl
        refine bX8_quickestGate_53 o f1 ob (Nat.zero_le _) (Nat.zero_le _) hWay ?_
        refine bX8_quickestGate_63 o f1 ob s9 b6 (nn_in (by omega) (by omega)) (by rw [nn_nat (by omega)]; exact hg1) og gg5 ot (Nat.zero_le _) (Nat.zero_le _) hTol ?_
        have upd : qkb op cf pf (g + 1) = g + 1 → am_W m_X8_quickestGate 270 1 6 false 1 6 108 [(0, .ref 0), (1, .int (nn t)), (2, .int (qkv (qkb op cf pf g))), (3, .int c), (4, .int p), (5, .int (nn g)), (6, .int (nn (cf g))), (7, .int (nn (pf g)))] [] Γ I L (am_R (.inl (some (.int (qkv (qkb op cf pf (vG (I 451))))))) I L) := by
          intro hq
          refine bX8_quickestGate_108 ?_
          refine aw_take 6 ?_
          refine bX8_quickestGate_118 ?_
          rw [nn_s1]
          have := ih (nn (cf g)) (nn (pf g)) (fun _ => by rw [hq, Nat.add_sub_cancel]; exact ⟨rfl, rfl⟩)
          rw [hq, qkv_s] at this
          exact this
        refine bX8_quickestGate_82 (fun h => ?_) (fun h => ?_)
        · exact upd (by unfold qkb; rw [if_pos ⟨op1, Or.inl ((qkv_neg (by omega)).mp h)⟩])
        · have hn0 : qkb op cf pf g ≠ 0 := fun z => h ((qkv_neg (by omega)).mpr z)
          obtain ⟨hc1, hp1⟩ := hcp hn0
          obtain ⟨b1x, b2x, -⟩ := hd (qkb op cf pf g - 1) (by omega)
          subst hc1 hp1
          refine bX8_quickestGate_89 (fun h2 => ?_) (fun h2 => ?_)
          · rw [nn_lt (by omega) (by omega)] at h2
            exact upd (by unfold qkb; rw [if_pos ⟨op1, Or.inr (Or.inl h2)⟩])
          · rw [nn_lt (by omega) (by omega)] at h2
            refine bX8_quickestGate_95 (fun h3 => ?_) (fun h3 => ?_)
            · rw [nn_eq (by omega) (by omega)] at h3
              refine skip _ rfl (by conv => lhs; unfold qkb
                                    rw [if_neg (fun z => by rcases z.2 with a | a | a; exact hn0 a; exact h2 a; exact h3 a.1)])
            · rw [nn_eq (by omega) (by omega)] at h3
              refine bX8_quickestGate_101 (fun h4 => ?_) (fun h4 => ?_)
              · rw [nn_le (by omega) (by omega)] at h4
                refine skip _ rfl (by conv => lhs; unfold qkb
                                      rw [if_neg (fun z => by rcases z.2 with a | a | a; exact hn0 a; exact h2 a; omega)])
              · rw [nn_le (by omega) (by omega)] at h4
                exact upd (by unfold qkb; rw [if_pos ⟨op1, Or.inr (Or.inr ⟨h3, by omega⟩)⟩])
      · have op0 := bi_z.mp ho
        refine bX8_quickestGate_50 ?_
        refine skip _ rfl (by conv => lhs; unfold qkb
                              rw [if_neg (fun z => by rw [op0] at z; exact absurd z.1 (by decide))])
  · refine bX9_quickestGate_0 mo (Nat.zero_le _) (Nat.zero_le _) (eX9_noType_t hm w1 ht (by omega)) ?_
    refine bX9_quickestGate_6 mo (Nat.zero_le _) (Nat.zero_le _) (eX9_fails0 hm) ?_
    refine bX9_quickestGate_11 (fun _ => ?_) (fun h => absurd rfl h)
    refine bX9_quickestGate_16 ?_
    have loop := nn_loop (fun g => am_W m_X9_quickestGate 280 0 0 false 0 0 20 [(0, .ref 450), (1, .int (nn t)), (2, .int (qkv (qkb op cf pf g))), (3, .int (nn g))] [] Γ (am_u I 450 6 0) L (am_R (.inl (some (.int (qkv (qkb op cf pf (vG (I 451))))))) (am_u I 450 6 0) L)) (vG (I 451)) ?_ (fun g hgv ih => ?_)
    · exact loop
    · refine bX9_quickestGate_20 mo r0 a1 (nn_in (k := 2) (by decide) (by decide)) (fun _ => ?_) (fun h => absurd (Int32.le_of_eq (show am_u I 450 6 0 (450 + 1) 2 = nn (vG (I 451)) by rw [hJ]; exact w2)) h)
      refine bX9_quickestGate_98 ?_
      exact ⟨rfl, rfl, rfl⟩
    · have hgx : g < 4 := by omega
      obtain ⟨d1, d2, d3, d4, d5⟩ := hd g hgv
      have qle := qkb_le op cf pf g
      have mdJ : ∀ g, g < vG (I 451) → mda (am_u I 450 6 0 (450 + 1)) g (vQ (I 451)) (vT (I 451)) (qcW (I 451)) (tyW (I 451)) (tlW (I 451)) (ctW (I 451) g) := fun g h => by rw [hJ]; exact R.1.1.mda t0 h
      have twJ : ∀ g, g < vG (I 451) → trW (am_u I 450 6 0 (450 + 1)) g (vQ (I 451)) (vT (I 451)) (tyW (I 451)) (teW (I 451) g) := fun g h => by rw [hJ]; exact R.1.1.tr h
      have way : ∀ g, g < vG (I 451) → am_E m_X9_wayCost 279 0 0 [.ref 450, .int (nn g), .int (nn t)] Γ (am_u I 450 6 0) L (.inl (some (.int (nn (cf g))))) (am_u I 450 6 0) L := fun g h => am_E_e (eX9_wayCost hm (by omega) (mdJ g h) (twJ g h) ht) (by rw [hJ]; exact (hd g h).2.2.2.1) rfl
      have tol : ∀ g, g < vG (I 451) → am_E m_X9_charged 279 0 0 [.ref 450, .int (nn g), .int (nn t)] Γ (am_u I 450 6 0) L (.inl (some (.int (nn (pf g))))) (am_u I 450 6 0) L := fun g h => am_E_e (eX9_charged hm (by omega) (mdJ g h) (twJ g h) ht) (by rw [hJ]; exact (hd g h).2.2.2.2) rfl
      refine bX9_quickestGate_20 mo r0 a1 (nn_in (k := 2) (by decide) (by decide)) (fun h => absurd h (by show ¬ am_u I 450 6 0 (450 + 1) 2 ≤ nn g; rw [hJ, w2, nn_le (by omega) (by omega)]; omega)) (fun _ => ?_)
      refine bX9_quickestGate_30 mo (Nat.zero_le _) (Nat.zero_le _) (eX9_isOpenNow_b (b := op g) hm hgx (by rw [hJ]; exact d3)) ?_
      have skip : ∀ ls : List (Nat × Value), ls.take 4 = [(0, .ref 450), (1, .int (nn t)), (2, .int (qkv (qkb op cf pf g))), (3, .int (nn g))] → qkb op cf pf (g + 1) = qkb op cf pf g → am_W m_X9_quickestGate 280 0 0 false 0 0 92 ls [] Γ (am_u I 450 6 0) L (am_R (.inl (some (.int (qkv (qkb op cf pf (vG (I 451))))))) (am_u I 450 6 0) L) := by
        intro ls hls hq
        refine aw_take 4 ?_
        rw [hls]
        refine bX9_quickestGate_92 ?_
        rw [nn_s1, ← hq]
        exact ih
      have upd : qkb op cf pf (g + 1) = g + 1 → ∀ x, am_W m_X9_quickestGate 280 0 0 false 0 0 90 [(0, .ref 450), (1, .int (nn t)), (2, .int (qkv (qkb op cf pf g))), (3, .int (nn g)), (4, .int x)] [] Γ (am_u I 450 6 0) L (am_R (.inl (some (.int (qkv (qkb op cf pf (vG (I 451))))))) (am_u I 450 6 0) L) := by
        intro hq x
        refine bX9_quickestGate_90 ?_
        refine aw_take 4 ?_
        refine bX9_quickestGate_92 ?_
        rw [nn_s1]
        have := ih
        rw [hq, qkv_s] at this
        exact this
      refine bX9_quickestGate_35 (fun ho => ?_) (fun ho => ?_)
      · have op1 := bi_nz.mp ho
        refine bX9_quickestGate_41 (fun h => ?_) (fun h => ?_)
        · have hn0 : qkb op cf pf g ≠ 0 := fun z => h ((qkv_neg (by omega)).mpr z)
          obtain ⟨b1x, b2x, -⟩ := hd (qkb op cf pf g - 1) (by omega)
          have eq : qkv (qkb op cf pf g) = nn (qkb op cf pf g - 1) := by unfold qkv; rw [if_neg hn0]
          have S := sub136 _ d1 _ b1x
          refine bX9_quickestGate_50 mo (Nat.zero_le _) (Nat.zero_le _) (way g hgv) ?_
          refine bX9_quickestGate_56 mo (Nat.zero_le _) (Nat.zero_le _) (by rw [eq]; exact way _ (by omega)) ?_
          refine bX9_quickestGate_62 ?_
          refine bX9_quickestGate_63 (fun h2 => ?_) (fun h2 => ?_)
          · exact upd (by unfold qkb; rw [if_pos ⟨op1, Or.inr (Or.inl (S.1.mp h2))⟩]) _
          · rw [S.1] at h2
            refine bX9_quickestGate_70 (fun h3 => ?_) (fun h3 => ?_)
            · rw [S.2] at h3
              refine skip _ rfl (by conv => lhs; unfold qkb
                                    rw [if_neg (fun z => by rcases z.2 with a | a | a; exact hn0 a; exact h2 a; exact h3 a.1)])
            · rw [S.2] at h3
              refine bX9_quickestGate_75 mo (Nat.zero_le _) (Nat.zero_le _) (tol g hgv) ?_
              refine bX9_quickestGate_81 mo (Nat.zero_le _) (Nat.zero_le _) (by rw [eq]; exact tol _ (by omega)) ?_
              refine bX9_quickestGate_87 (fun h4 => ?_) (fun h4 => ?_)
              · rw [nn_le (by omega) (by omega)] at h4
                refine skip _ rfl (by conv => lhs; unfold qkb
                                      rw [if_neg (fun z => by rcases z.2 with a | a | a; exact hn0 a; exact h2 a; omega)])
              · rw [nn_le (by omega) (by omega)] at h4
                exact upd (by unfold qkb; rw [if_pos ⟨op1, Or.inr (Or.inr ⟨h3, by omega⟩)⟩]) _
        · refine bX9_quickestGate_46 ?_
          refine bX9_quickestGate_63 (fun _ => ?_) (fun h2 => absurd (by decide) h2)
          exact upd (by unfold qkb; rw [if_pos ⟨op1, Or.inl ((qkv_neg (by omega)).mp h)⟩]) _
      · have op0 := bi_z.mp ho
        refine bX9_quickestGate_38 ?_
        refine skip _ rfl (by conv => lhs; unfold qkb
                              rw [if_neg (fun z => by rw [op0] at z; exact absurd z.1 (by decide))])
end F9

