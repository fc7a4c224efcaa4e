/-! THE CLASS ALONE: the quickest, the stalest, what disagrees -/
/-- the quickest of the first k gates, plus one -/
def qkb (op : Nat → Bool) (c p : Nat → Nat) : Nat → Nat
  | 0 => 0
  | k + 1 => if op k = true ∧ (qkb op c p k = 0 ∨ c k < c (qkb op c p k - 1) ∨ (c k = c (qkb op c p k - 1) ∧ p k < p (qkb op c p k - 1))) then k + 1 else qkb op c p k
def qkv (n : Nat) : Int32 := if n = 0 then -1 else nn (n - 1)
theorem qkb_le (op : Nat → Bool) (c p : Nat → Nat) : ∀ k, qkb op c p k ≤ k
  | 0 => Nat.le_refl _
  | k + 1 => by
    have := qkb_le op c p k
    unfold qkb
    by_cases h : op k = true ∧ (qkb op c p k = 0 ∨ c k < c (qkb op c p k - 1) ∨ (c k = c (qkb op c p k - 1) ∧ p k < p (qkb op c p k - 1)))
    · rw [if_pos h]; exact Nat.le_refl _
    · rw [if_neg h]; omega
theorem qkv_neg {n : Nat} (h : n ≤ 5) : (qkv n = -1 ↔ n = 0) := by
  unfold qkv
  by_cases h0 : n = 0
  · rw [if_pos h0]; exact ⟨fun _ => h0, fun _ => rfl⟩
  · rw [if_neg h0]
    have : ∀ k, k < 5 → ¬ nn k = -1 := by decide
    exact ⟨fun z => absurd z (this _ (by omega)), fun z => absurd z h0⟩
theorem qkv_s (k : Nat) : qkv (k + 1) = nn k := by
  unfold qkv
  rw [if_neg (by omega), Nat.add_sub_cancel]
/-- the stalest of the first k gates -/
def stl (a b : Nat → Int32) : Nat → Int32 × Int32 × Int32
  | 0 => (-1, 0, 0)
  | k + 1 => if (stl a b k).2.1 < a k ∨ (a k = (stl a b k).2.1 ∧ ¬ b k ≤ (stl a b k).2.2) then (nn k, a k, b k) else stl a b k
def iac (A : Int32) (F : Nat → Int32) : Nat → Int32
  | 0 => A
  | k + 1 => iac A F k + F k
def ab32 (a : Int32) : Int32 := if 0 ≤ a then a else 0 - a
theorem qkb_sp (op : Nat → Bool) (c p : Nat → Nat) : ∀ k, (qkb op c p k = 0 → ∀ g, g < k → op g = false) ∧ (qkb op c p k ≠ 0 → op (qkb op c p k - 1) = true ∧ ∀ g, g < k → op g = true → c (qkb op c p k - 1) ≤ c g)
  | 0 => ⟨fun _ g hg => absurd hg (Nat.not_lt_zero _), fun h => absurd rfl h⟩
  | k + 1 => by
    obtain ⟨i1, i2⟩ := qkb_sp op c p k
    unfold qkb
    by_cases h : op k = true ∧ (qkb op c p k = 0 ∨ c k < c (qkb op c p k - 1) ∨ (c k = c (qkb op c p k - 1) ∧ p k < p (qkb op c p k - 1)))
    · rw [if_pos h]
      refine ⟨fun z => absurd z (by omega), fun _ => ?_⟩
      rw [Nat.add_sub_cancel]
      refine ⟨h.1, fun g hg ho => ?_⟩
      by_cases hgk : g = k
      · rw [hgk]; exact Nat.le_refl _
      · by_cases h0 : qkb op c p k = 0
        · have := i1 h0 g (by omega); rw [this] at ho; cases ho
        · have := (i2 h0).2 g (by omega) ho
          have h2 := h.2
          omega
    · rw [if_neg h]
      refine ⟨fun z g hg => ?_, fun z => ⟨(i2 z).1, fun g hg ho => ?_⟩⟩
      · by_cases hgk : g = k
        · subst hgk
          cases ho : op g
          · rfl
          · exact absurd ⟨ho, Or.inl z⟩ h
        · exact i1 z g (by omega)
      · by_cases hgk : g = k
        · subst hgk
          refine Nat.le_of_not_lt (fun hl => h ⟨ho, Or.inr (Or.inl hl)⟩)
        · exact (i2 z).2 g (by omega) ho
/-- a gate that gains nothing isn't the stalest -/
theorem stl_sp (a b : Nat → Int32) : ∀ k, (0 ≤ (stl a b k).2.1.toInt ∧ ((stl a b k).2.1.toInt = 0 → 0 ≤ (stl a b k).2.2.toInt)) ∧ ((stl a b k).1 = -1 ∨ ∃ g, g < k ∧ (stl a b k).1 = nn g ∧ ¬ (a g = 0 ∧ b g = 0))
  | 0 => ⟨⟨by show 0 ≤ (0 : Int32).toInt; decide, fun _ => by show 0 ≤ (0 : Int32).toInt; decide⟩, Or.inl rfl⟩
  | k + 1 => by
    obtain ⟨⟨i1, i2⟩, i3⟩ := stl_sp a b k
    unfold stl
    by_cases h : (stl a b k).2.1 < a k ∨ (a k = (stl a b k).2.1 ∧ ¬ b k ≤ (stl a b k).2.2)
    · rw [if_pos h]
      have hh : (stl a b k).2.1.toInt < (a k).toInt ∨ (a k = (stl a b k).2.1 ∧ (stl a b k).2.2.toInt < (b k).toInt) := h.imp (fun z => Int32.lt_iff_toInt_lt.mp z) (fun z => ⟨z.1, by have := z.2; rw [Int32.le_iff_toInt_le] at this; omega⟩)
      refine ⟨⟨?_, fun z => ?_⟩, Or.inr ⟨k, Nat.lt_succ_self k, rfl, fun z => ?_⟩⟩
      · show 0 ≤ (a k).toInt
        rcases hh with z | z
        · omega
        · rw [z.1]; exact i1
      · show 0 ≤ (b k).toInt
        have z' : (a k).toInt = 0 := z
        rcases hh with y | y
        · omega
        · rw [y.1] at z'
          have := i2 z'
          omega
      · rw [z.1, z.2] at hh
        have e0 : (0 : Int32).toInt = 0 := by decide
        rcases hh with y | y
        · omega
        · have := i2 (by rw [← y.1]; exact e0)
          omega
    · rw [if_neg h]
      refine ⟨⟨i1, i2⟩, i3.imp id (fun ⟨g, g1, g2⟩ => ⟨g, by omega, g2⟩)⟩
/-- both sides' work by types -/
def wbM (w : Nat → Int32) (g e : Nat) : Nat → Int32 := fsum (fun t => w (132 + g * 94 + (10 + t)) * wcA (rw5 w g 0) (rw5 w g 4) (csW w) (nn t) e)
def rB (w : Nat → Int32) (g l : Nat) : Nat := bB (vQ w) (vT w) (qcW w) (yse (vT w) (tyW w)) (tlW w) (ctW w g) (fbq (-1)) (2 ^ vT w - 1) l
def stA (w : Nat → Int32) (g : Nat) : Int32 := mErr w g (teW w g) (vT w) - nn (rB w g (lmW w g) / 33554432)
def stB (w : Nat → Int32) (g : Nat) : Int32 := mWrk w g (vT w) (teW w g) - nn (rB w g (lmW w g) / 8 % 4194304)
def icA (w : Nat → Int32) : Int32 := ab32 (w 6 - w 7 - w 10 + w 11)
def icF (w : Nat → Int32) (g : Nat) : Int32 := ab32 (mWrk w g (vT w) (teW w g) - wbM w g (teW w g) (vT w))
section Q5
variable {d mc ms : Nat} {Γ : am_G} {I : am_I} {L : am_L} {w : Nat → Int32} {h : Nat → Nat → Int32} {s : Nat}
theorem qX_quickestGate (hF : wF Γ) (R : CS I L w h s) {t : Nat} (ht : t < vT w) : ∃ v : Int32, am_E m_X8_quickestGate (d + 20) 0 0 [.ref 0, .int (nn t)] Γ I L (.inl (some (.int v))) I L ∧ ((v = -1 ∧ ∀ g, g < vG w → opW' w g = false) ∨ ∃ q, q < vG w ∧ v = nn q ∧ opW' w q = true ∧ ∀ g, g < vG w → opW' w g = true → ¬ pcW w g t < pcW w q t) := by
  obtain ⟨⟨o, f0, f1, f2, f3, f4, f5, f6, f7⟩, so, st, dr, ⟨ro, rr0, rr5, rr6, ra⟩, hi, sv, ⟨oo, or0, or2, oa, oa2⟩, hm, am, am2⟩ := id hF
  obtain ⟨ob, s4, s5, s6, s7, s8, s9, s10, b1, b2, b3, b4, b5, b6, o7, hg⟩ := id st
  obtain ⟨⟨n0, n1, n2, n3⟩, ⟨w0, w1, w2⟩, q6, t8, g4, q0, t0, g0⟩ := R.nums
  have t31 : t < 32 := by omega
  have p8 := two_le8 t8
  -- what the gates answer
  have data : ∀ g, g < vG w → ∃ (b : Bool) (c p : Nat), c < 136 ∧ p < 136 ∧ opens (w (132 + g * 94 + 0)) (w (132 + g * 94 + 1)) (w 3 - w 3 / 24 * 24) = b ∧ wcA (rw5 w g 0) (rw5 w g 4) (csW w) (nn t) (teW w g) = nn c ∧ rw5 w g 1 (lfA (rw5 w g 0) (rw5 w g 4) (nn t) (teW w g)) = nn p := by
    intro g hgv
    obtain ⟨c, c1, c2⟩ := R.way hgv (nn t)
    have tw := R.1.1.tr hgv
    obtain ⟨l1, l2, l3, l4⟩ := lfA_sp q6 t31 tw.2.2.2 (by omega) (all_bit ht)
    obtain ⟨p, p1, p2⟩ := tva_toll q6 tw.2.2.2 _ (Nat.zero_le _) l1 l2
    exact ⟨_, c, p, c1, by omega, rfl, c2, p2⟩
  obtain ⟨op, cf, pf, hd⟩ : ∃ (op : Nat → Bool) (cf pf : Nat → Nat), ∀ g, g < vG w → cf g < 136 ∧ pf g < 136 ∧ opens (w (132 + g * 94 + 0)) (w (132 + g * 94 + 1)) (w 3 - w 3 / 24 * 24) = op g ∧ wcA (rw5 w g 0) (rw5 w g 4) (csW w) (nn t) (teW w g) = nn (cf g) ∧ rw5 w g 1 (lfA (rw5 w g 0) (rw5 w g 4) (nn t) (teW w g)) = nn (pf g) :=
    ⟨fun g => if h : g < vG w then (data g h).choose else false, fun g => if h : g < vG w then (data g h).choose_spec.choose else 0, fun g => if h : g < vG w then (data g h).choose_spec.choose_spec.choose else 0, fun g h => by
      simp only [dif_pos h]
      exact (data g h).choose_spec.choose_spec.choose_spec⟩
  refine ⟨qkv (qkb op cf pf (vG w)), am_ofE rfl rfl rfl (Nat.le_of_ble_eq_true rfl) ?_, ?_⟩
  case refine_2 =>
    have sp := qkb_sp op cf pf (vG w)
    have le := qkb_le op cf pf (vG w)
    by_cases z : qkb op cf pf (vG w) = 0
    · exact Or.inl ⟨by rw [z]; rfl, fun g hg => (hd g hg).2.2.1.trans (sp.1 z g hg)⟩
    · refine Or.inr ⟨qkb op cf pf (vG w) - 1, by omega, by unfold qkv; rw [if_neg z], (hd _ (by omega)).2.2.1.trans (sp.2 z).1, fun g hg ho => ?_⟩
      have ho' : op g = true := by rw [← (hd g hg).2.2.1]; exact ho
      have := (sp.2 z).2 g hg ho'
      obtain ⟨a1, a2, a3, a4, a5⟩ := hd g hg
      obtain ⟨b1, b2, b3, b4, b5⟩ := hd (qkb op cf pf (vG w) - 1) (by omega)
      unfold pcW
      rw [a4, b4, nn_lt (by omega) (by omega)]
      omega
  refine bX8_quickestGate_0 (by assumption) (Nat.zero_le _) (Nat.zero_le _) (eX8_requireType_t (mc := 0) (ms := 0) hF n1 ht (by omega)) ?_
  refine bX8_quickestGate_5 ?_
  have loop := nn_loop (fun g => ∀ c p : Int32, (qkb op cf pf g ≠ 0 → c = nn (cf (qkb op cf pf g - 1)) ∧ p = nn (pf (qkb op cf pf g - 1))) → am_W m_X8_quickestGate (d + 20) 0 0 false 0 0 15 [(0, .ref 0), (1, .int (nn t)), (2, .int (qkv (qkb op cf pf g))), (3, .int c), (4, .int p), (5, .int (nn g))] [] Γ I L (am_R (.inl (some (.int (qkv (qkb op cf pf (vG w)))))) I L)) (vG w) ?_ (fun g hgv ih => ?_)
  · exact loop 0 0 (fun z => absurd rfl z)
  · intro c p _
    refine bX8_quickestGate_15 o f1 ob (fun _ => ?_) (fun h => absurd (Int32.le_of_eq n2) h)
    refine bX8_quickestGate_124 ?_
    exact ⟨rfl, rfl, rfl⟩
  · intro c p hcp
    have hgx : g < 4 := by omega
    obtain ⟨hg1, hgg⟩ := hg g hgx
    obtain ⟨og, gg4, gg5, ga, tr⟩ := id hgg
    obtain ⟨ot, tr1, tr2, tr3, tr4, ta1, ta2, ta3, ta4⟩ := id tr
    obtain ⟨y0, y1, y2, y3, y4, y5, y6⟩ := R.2.1.2.2.2.2 g hgv
    obtain ⟨e, e15, e0, ee, ew, ec, tw, h6, tok, sets⟩ := R.gate hgv
    have md : mda w g (vQ w) (vT w) (qcW w) (tyW w) (tlW w) (ctW w g) := R.1.1.mda t0 hgv
    have gE : gc 9 g = 9 + (8 + 7 * g) := rfl
    obtain ⟨d1, d2, d3, d4, d5⟩ := hd g hgv
    have qle := qkb_le op cf pf g
    have hOp : opens (I (gc 9 g) 1) (I (gc 9 g) 2) (I 9 3 - I 9 3 / 24 * 24) = op g := by rw [y1, y2, n3]; exact d3
    refine bX8_quickestGate_15 o f1 ob (fun h => absurd h (by rw [n2, nn_le (by omega) (by omega)]; omega)) (fun _ => ?_)
    refine bX8_quickestGate_27 o f1 ob s9 b6 (nn_in (by omega) (by omega)) (by rw [nn_nat (by omega)]; exact hg1) (Nat.zero_le _) (Nat.zero_le _) (eX5_hourOfDay st) ?_
    refine bX8_quickestGate_44 hgg.1 (Nat.zero_le _) (Nat.zero_le _) (eX0_opensAt_b hgg hOp) ?_
    have skip : ∀ ls : List (Nat × Value), ls.take 6 = [(0, .ref 0), (1, .int (nn t)), (2, .int (qkv (qkb op cf pf g))), (3, .int c), (4, .int p), (5, .int (nn g))] → qkb op cf pf (g + 1) = qkb op cf pf g → am_W m_X8_quickestGate (d + 20) 0 0 false 0 0 118 ls [] Γ I L (am_R (.inl (some (.int (qkv (qkb op cf pf (vG w)))))) I L) := by
      intro ls hls hq
      refine aw_take 6 ?_
      rw [hls]
      refine bX8_quickestGate_118 ?_
      rw [nn_s1, ← hq]
      exact ih c p (by rw [hq]; exact hcp)
    refine bX8_quickestGate_47 (fun ho => ?_) (fun ho => ?_)
    · have op1 := bi_nz.mp ho
      have hWay : am_E m_X5_costOfPath (d + 19) 0 0 [.ref 9, .int (nn g), .int (nn t)] Γ I L (.inl (some (.int (nn (cf g))))) I L := am_E_e (eX5_costOfPath st hgx e15 ec tok (nn t)) (by rw [R.wc hgv ee h6, ee]; exact d4) rfl
      have hTol : am_E m_X7_tollFor (d + 19) 0 0 [.ref (gc 9 g + 2), .int (nn t)] Γ I L (.inl (some (.int (nn (pf g))))) I L := am_E_e (eX7_tollFor tr e15 e0 ec (nn t)) (by rw [R.lf h6, ee, ← d5]; exact (h6 _ (by rw [ee]; exact (lfA_sp q6 t31 (R.1.1.tr hgv).2.2.2 (by omega) (all_bit ht)).1)).2.1) rfl
      refine bX8_quickestGate_53 o f1 ob (Nat.zero_le _) (Nat.zero_le _) hWay ?_
      refine bX8_quickestGate_63 o f1 ob s9 b6 (nn_in (by omega) (by omega)) (by rw [nn_nat (by omega)]; exact hg1) og gg5 ot (Nat.zero_le _) (Nat.zero_le _) hTol ?_
      have upd : qkb op cf pf (g + 1) = g + 1 → am_W m_X8_quickestGate (d + 20) 0 0 false 0 0 108 [(0, .ref 0), (1, .int (nn t)), (2, .int (qkv (qkb op cf pf g))), (3, .int c), (4, .int p), (5, .int (nn g)), (6, .int (nn (cf g))), (7, .int (nn (pf g)))] [] Γ I L (am_R (.inl (some (.int (qkv (qkb op cf pf (vG w)))))) I L) := by
        intro hq
        refine bX8_quickestGate_108 ?_
        refine aw_take 6 ?_
        refine bX8_quickestGate_118 ?_
        rw [nn_s1]
        have := ih (nn (cf g)) (nn (pf g)) (fun _ => by rw [hq, Nat.add_sub_cancel]; exact ⟨rfl, rfl⟩)
        rw [hq, qkv_s] at this
        exact this
      refine bX8_quickestGate_82 (fun h => ?_) (fun h => ?_)
      · exact upd (by unfold qkb; rw [if_pos ⟨op1, Or.inl ((qkv_neg (by omega)).mp h)⟩])
      · have hn0 : qkb op cf pf g ≠ 0 := fun z => h ((qkv_neg (by omega)).mpr z)
        obtain ⟨hc1, hp1⟩ := hcp hn0
        obtain ⟨b1x, b2x, -⟩ := hd (qkb op cf pf g - 1) (by omega)
        subst hc1 hp1
        refine bX8_quickestGate_89 (fun h2 => ?_) (fun h2 => ?_)
        · rw [nn_lt (by omega) (by omega)] at h2
          exact upd (by unfold qkb; rw [if_pos ⟨op1, Or.inr (Or.inl h2)⟩])
        · rw [nn_lt (by omega) (by omega)] at h2
          refine bX8_quickestGate_95 (fun h3 => ?_) (fun h3 => ?_)
          · rw [nn_eq (by omega) (by omega)] at h3
            refine skip _ rfl (by conv => lhs; unfold qkb
                                  rw [if_neg (fun z => by rcases z.2 with a | a | a; exact hn0 a; exact h2 a; exact h3 a.1)])
          · rw [nn_eq (by omega) (by omega)] at h3
            refine bX8_quickestGate_101 (fun h4 => ?_) (fun h4 => ?_)
            · rw [nn_le (by omega) (by omega)] at h4
              refine skip _ rfl (by conv => lhs; unfold qkb
                                    rw [if_neg (fun z => by rcases z.2 with a | a | a; exact hn0 a; exact h2 a; omega)])
            · rw [nn_le (by omega) (by omega)] at h4
              exact upd (by unfold qkb; rw [if_pos ⟨op1, Or.inr (Or.inr ⟨h3, by omega⟩)⟩])
    · have op0 := bi_z.mp ho
      refine bX8_quickestGate_50 ?_
      refine skip _ rfl (by conv => lhs; unfold qkb
                            rw [if_neg (fun z => by rw [op0] at z; exact absurd z.1 (by decide))])
theorem CS.frC (R : CS I L w h s) {I1 : am_I} {L1 : am_L} (f1 : ∀ c, c ≠ 3 → c ≠ 4 → c ≠ 5 → I1 c = I c) (fL : ∀ c, c ≠ 2 → L1 c = L c) : CS I1 L1 w h s := R.fr (fun c c1 c2 c3 => f1 c (by omega) (by omega) (by omega)) (fun c c1 c2 c3 => fL c (by omega))
theorem qX_stalestGate (hF : wF Γ) (R : CS I L w h s) : ∃ I' L', am_E m_X8_stalestGate (d + 20) 0 0 [.ref 0] Γ I L (.inl (some (.int (stl (stA w) (stB w) (vG w)).1))) I' L' ∧ slF I I' L L' := by
  obtain ⟨⟨o, f0, f1, f2, f3, f4, f5, f6, f7⟩, so, st, dr, ⟨ro, rr0, rr5, rr6, ra⟩, hi, sv, ⟨oo, or0, or2, oa, oa2⟩, hm, am, am2⟩ := id hF
  obtain ⟨ob, s4, s5, s6, s7, s8, s9, s10, b1, b2, b3, b4, b5, b6, o7, hg⟩ := id st
  obtain ⟨⟨n0, n1, n2, n3⟩, ⟨w0, w1, w2⟩, q6, t8, g4, q0, t0, g0⟩ := R.nums
  have p8 := two_le8 t8
  have l30 : ∀ g, g < vG w → lmW w g ≤ 30 ∧ w (132 + g * 94 + 2) = nn (lmW w g) := fun g h => ⟨(R.1.1.2.2.2.2.2.2 g h).2.2.1.2, (R.1.1.2.2.2.2.2.2 g h).2.2.1.1⟩
  have hC : ∃ I1 L1, am_E m_X8_stalestGate (d + 20) 0 0 [.ref 0] Γ I L (.inl (some (.int (stl (stA w) (stB w) (vG w)).1))) I1 L1 ∧ (∀ c, c ≠ 3 → c ≠ 4 → c ≠ 5 → I1 c = I c) ∧ ∀ c, c ≠ 2 → L1 c = L c := by
    refine am_ofX rfl rfl rfl (Nat.le_of_ble_eq_true rfl) ?_
    have loop := nn_loop (fun g => ∀ I1 L1, (∀ c, c ≠ 3 → c ≠ 4 → c ≠ 5 → I1 c = I c) → (∀ c, c ≠ 2 → L1 c = L c) → ∃ I' L', am_W m_X8_stalestGate (d + 20) 0 0 false 0 0 9 [(0, .ref 0), (1, .int (stl (stA w) (stB w) g).1), (2, .int (stl (stA w) (stB w) g).2.1), (3, .int (stl (stA w) (stB w) g).2.2), (4, .int (nn g))] [] Γ I1 L1 (am_R (.inl (some (.int (stl (stA w) (stB w) (vG w)).1))) I' L') ∧ (∀ c, c ≠ 3 → c ≠ 4 → c ≠ 5 → I' c = I c) ∧ ∀ c, c ≠ 2 → L' c = L c) (vG w) ?_ (fun g hgv ih => ?_)
    · obtain ⟨I', L', hW, hP⟩ := loop I L (fun _ _ _ _ => rfl) (fun _ _ => rfl)
      exact ⟨I', L', bX8_stalestGate_0 hW, hP⟩
    · intro I1 L1 e1 e2
      refine ⟨I1, L1, ?_, e1, e2⟩
      refine bX8_stalestGate_9 o f1 ob (fun _ => ?_) (fun h => absurd (Int32.le_of_eq (by rw [e1 9 (by decide) (by decide) (by decide)]; exact n2)) h)
      refine bX8_stalestGate_109 ?_
      exact ⟨rfl, rfl, rfl⟩
    · intro I1 L1 e1 e2
      have R1 := R.frC e1 e2
      have hgv1 := hgv
      obtain ⟨I2, L2, hB, g1, g2⟩ := eX8_bestRank_t (d := d + 17) (mc := 0) (ms := 0) hF R1 hgv1 (show lmW w g ≤ 30 from (l30 g hgv).1)
      have g1' : ∀ c, c ≠ 3 → c ≠ 4 → c ≠ 5 → I2 c = I c := fun c a b c' => (g1 c a b c').trans (e1 c a b c')
      have g2' : ∀ c, c ≠ 2 → L2 c = L c := fun c a => (g2 c a).trans (e2 c a)
      have R2 := R.frC g1' g2'
      have hgv2 := hgv
      have hgx : g < 4 := by omega
      obtain ⟨hg1, hgg⟩ := hg g hgx
      obtain ⟨og, gg4, gg5, ga, tr⟩ := id hgg
      obtain ⟨e, e15, e0, ee, ew, ec, tw, h6, tok, sets⟩ := R2.gate hgv2
      have gE : gc 9 g = 9 + (8 + 7 * g) := rfl
      have lim : I1 (gc 9 g) 3 = nn (lmW w g) := by rw [e1 _ (by omega) (by omega) (by omega), (R.2.1.2.2.2.2 g hgv).2.2.2.1]; exact (l30 g hgv).2
      have rl := R1.rank_lt hgv1 (-1) (l := lmW w g) (l30 g hgv).1
      have hErr : am_E m_X5_errorsNow (d + 19) 0 0 [.ref 9, .int (nn g)] Γ I2 L2 (.inl (some (.int (mErr w g (teW w g) (vT w))))) I2 L2 := am_E_e (eX5_errorsNow st hgx e15 e0 ec R2.nums.1.2.1 t8) (by rw [R2.err hgv2 ee h6, ee]) rfl
      have hWrk : am_E m_X5_workNow (d + 19) 0 0 [.ref 9, .int (nn g)] Γ I2 L2 (.inl (some (.int (mWrk w g (vT w) (teW w g))))) I2 L2 := am_E_e (eX5_workNow st hgx e15 ec tok) (by rw [R2.wrk hgv2 ee h6, ee]) rfl
      have go : ∀ ls : List (Nat × Value), ls.take 5 = [(0, .ref 0), (1, .int (stl (stA w) (stB w) (g + 1)).1), (2, .int (stl (stA w) (stB w) (g + 1)).2.1), (3, .int (stl (stA w) (stB w) (g + 1)).2.2), (4, .int (nn (g + 1)))] → ∃ I' L', am_W m_X8_stalestGate (d + 20) 0 0 false 0 0 9 ls [] Γ I2 L2 (am_R (.inl (some (.int (stl (stA w) (stB w) (vG w)).1))) I' L') ∧ (∀ c, c ≠ 3 → c ≠ 4 → c ≠ 5 → I' c = I c) ∧ ∀ c, c ≠ 2 → L' c = L c := by
        intro ls hls
        obtain ⟨I', L', hW, hP⟩ := ih I2 L2 g1' g2'
        exact ⟨I', L', aw_take 5 (by rw [hls]; exact hW), hP⟩
      have head : ∀ I' L', (¬ ((stl (stA w) (stB w) g).2.1 < stA w g ∨ (stA w g = (stl (stA w) (stB w) g).2.1 ∧ ¬ stB w g ≤ (stl (stA w) (stB w) g).2.2)) → am_W m_X8_stalestGate (d + 20) 0 0 false 0 0 103 [(0, .ref 0), (1, .int (stl (stA w) (stB w) g).1), (2, .int (stl (stA w) (stB w) g).2.1), (3, .int (stl (stA w) (stB w) g).2.2), (4, .int (nn g)), (5, .long (ll (rB w g (lmW w g)))), (7, .int (stA w g)), (8, .int (stB w g))] [] Γ I2 L2 (am_R (.inl (some (.int (stl (stA w) (stB w) (vG w)).1))) I' L')) → (((stl (stA w) (stB w) g).2.1 < stA w g ∨ (stA w g = (stl (stA w) (stB w) g).2.1 ∧ ¬ stB w g ≤ (stl (stA w) (stB w) g).2.2)) → am_W m_X8_stalestGate (d + 20) 0 0 false 0 0 103 [(0, .ref 0), (1, .int (nn g)), (2, .int (stA w g)), (3, .int (stB w g)), (4, .int (nn g)), (5, .long (ll (rB w g (lmW w g)))), (7, .int (stA w g)), (8, .int (stB w g))] [] Γ I2 L2 (am_R (.inl (some (.int (stl (stA w) (stB w) (vG w)).1))) I' L')) → am_W m_X8_stalestGate (d + 20) 0 0 false 0 0 9 [(0, .ref 0), (1, .int (stl (stA w) (stB w) g).1), (2, .int (stl (stA w) (stB w) g).2.1), (3, .int (stl (stA w) (stB w) g).2.2), (4, .int (nn g))] [] Γ I1 L1 (am_R (.inl (some (.int (stl (stA w) (stB w) (vG w)).1))) I' L') := by
        intro I' L' hno hyes
        refine bX8_stalestGate_9 o f1 ob (fun h => absurd h (by rw [e1 9 (by decide) (by decide) (by decide), n2, nn_le (by omega) (by omega)]; omega)) (fun _ => ?_)
        refine bX8_stalestGate_21 o f1 ob s9 b6 (nn_in (by omega) (by omega)) (by rw [nn_nat (by omega)]; exact hg1) og (Nat.zero_le _) (Nat.zero_le _) (by rw [lim]; exact hB) ?_
        refine bX8_stalestGate_40 o f1 ob (Nat.zero_le _) (Nat.zero_le _) hErr ?_
        refine bX8_stalestGate_51 (Nat.zero_le _) (Nat.zero_le _) (eX8_errorsOf rl) ?_
        refine bX8_stalestGate_56 o f1 ob (Nat.zero_le _) (Nat.zero_le _) hWrk ?_
        refine bX8_stalestGate_68 (Nat.zero_le _) (Nat.zero_le _) (eX8_workOf rl) ?_
        refine bX8_stalestGate_73 (fun h => ?_) (fun h => ?_)
        · refine bX8_stalestGate_94 ?_
          exact hyes (Or.inl h)
        · refine bX8_stalestGate_82 (fun h2 => ?_) (fun h2 => ?_)
          · exact hno (fun z => z.elim h (fun z => h2 z.1))
          · refine bX8_stalestGate_88 (fun h3 => ?_) (fun h3 => ?_)
            · exact hno (fun z => z.elim h (fun z => z.2 h3))
            · refine bX8_stalestGate_94 ?_
              exact hyes (Or.inr ⟨h2, h3⟩)
      by_cases hc : (stl (stA w) (stB w) g).2.1 < stA w g ∨ (stA w g = (stl (stA w) (stB w) g).2.1 ∧ ¬ stB w g ≤ (stl (stA w) (stB w) g).2.2)
      · have es : stl (stA w) (stB w) (g + 1) = (nn g, stA w g, stB w g) := if_pos hc
        obtain ⟨I', L', hW, hP⟩ := go [(0, .ref 0), (1, .int (nn g)), (2, .int (stA w g)), (3, .int (stB w g)), (4, .int (nn g + 1)), (5, .long (ll (rB w g (lmW w g)))), (7, .int (stA w g)), (8, .int (stB w g))] (by rw [es, nn_s1]; rfl)
        exact ⟨I', L', head I' L' (fun z => absurd hc z) (fun _ => bX8_stalestGate_103 hW), hP⟩
      · have es : stl (stA w) (stB w) (g + 1) = stl (stA w) (stB w) g := if_neg hc
        obtain ⟨I', L', hW, hP⟩ := go [(0, .ref 0), (1, .int (stl (stA w) (stB w) g).1), (2, .int (stl (stA w) (stB w) g).2.1), (3, .int (stl (stA w) (stB w) g).2.2), (4, .int (nn g + 1)), (5, .long (ll (rB w g (lmW w g)))), (7, .int (stA w g)), (8, .int (stB w g))] (by rw [es, nn_s1]; rfl)
        exact ⟨I', L', head I' L' (fun _ => bX8_stalestGate_103 hW) (fun z => absurd z hc), hP⟩
  obtain ⟨I1, L1, hC1, fC, fL⟩ := hC
  exact ⟨I1, L1, hC1, fun c hc => fC c (by omega) (by omega) (by omega), fun c hc => fL c (by omega)⟩
theorem qX_inconsistencies (hF : wF Γ) (R : CS I L w h s) : am_E m_X8_inconsistencies (d + 20) 0 0 [.ref 0] Γ I L (.inl (some (.int (iac (icA w) (icF w) (vG w))))) I L := by
  obtain ⟨⟨o, f0, f1, f2, f3, f4, f5, f6, f7⟩, so, st, dr, ⟨ro, rr0, rr5, rr6, ra⟩, hi, sv, ⟨oo, or0, or2, oa, oa2⟩, hm, am, am2⟩ := id hF
  obtain ⟨ob, s4, s5, s6, s7, s8, s9, s10, b1, b2, b3, b4, b5, b6, o7, hg⟩ := id st
  obtain ⟨⟨n0, n1, n2, n3⟩, ⟨w0, w1, w2⟩, q6, t8, g4, q0, t0, g0⟩ := R.nums
  have tot : ∀ j, j < 8 → I 16 j = w (4 + j) := R.2.1.2.2.2.1
  have eA : ab32 (I 16 2 - I 16 3 - I 16 6 + I 16 7) = icA w := by unfold icA; rw [tot 2 (by decide), tot 3 (by decide), tot 6 (by decide), tot 7 (by decide)]
  refine am_ofE rfl rfl rfl (Nat.le_of_ble_eq_true rfl) ?_
  refine bX8_inconsistencies_0 o f1 ob (by assumption) o7 ?_
  have loop := nn_loop (fun g => am_W m_X8_inconsistencies (d + 20) 0 0 false 0 0 33 [(0, .ref 0), (1, .ref 16), (2, .int (iac (icA w) (icF w) g)), (3, .int (nn g))] [] Γ I L (am_R (.inl (some (.int (iac (icA w) (icF w) (vG w))))) I L)) (vG w) ?_ (fun g hgv ih => ?_)
  · refine aw_els loop ?_
    rw [← eA]
    rfl
  · refine bX8_inconsistencies_33 o f1 ob (fun _ => ?_) (fun h => absurd (Int32.le_of_eq n2) h)
    refine bX8_inconsistencies_91 ?_
    exact ⟨rfl, rfl, rfl⟩
  ·
    have hgx : g < 4 := by omega
    obtain ⟨hg1, hgg⟩ := hg g hgx
    obtain ⟨og, gg4, gg5, ga, tr⟩ := id hgg
    obtain ⟨ot, tr1, tr2, tr3, tr4, ta1, ta2, ta3, ta4⟩ := id tr
    obtain ⟨y0, y1, y2, y3, y4, y5, y6⟩ := R.2.1.2.2.2.2 g hgv
    obtain ⟨e, e15, e0, ee, ew, ec, tw, h6, tok, sets⟩ := R.gate hgv
    have md : mda w g (vQ w) (vT w) (qcW w) (tyW w) (tlW w) (ctW w g) := R.1.1.mda t0 hgv
    have gE : gc 9 g = 9 + (8 + 7 * g) := rfl
    have hWrk : am_E m_X5_workNow (d + 19) 0 0 [.ref 9, .int (nn g)] Γ I L (.inl (some (.int (mWrk w g (vT w) (teW w g))))) I L := am_E_e (eX5_workNow st hgx e15 ec tok) (by rw [R.wrk hgv ee h6, ee]) rfl
    have hWbt : am_E m_X5_workByTypes (d + 19) 0 0 [.ref 9, .int (nn g)] Γ I L (.inl (some (.int (wbM w g (teW w g) (vT w))))) I L := am_E_e (eX5_workByTypes st hgx e15 ec tok n1 t8) (fsum_congr _ (fun t ht => by rw [y4 t ht, R.wc hgv ee h6, ee])) rfl
    have hEm : am_E m_X7_emptyLeaves (d + 19) 0 0 [.ref (gc 9 g + 2)] Γ I L (.inl (some (.int 0))) I L := am_E_e (eX7_emptyLeaves tr e15 ec) (fsum_z (n := 0) (Nat.zero_le _) (fun n _ hn => by
      obtain ⟨S', s1, s2, s3, s4, s5⟩ := sets n hn
      have := two_le8 t8
      rw [(h6 n hn).2.2.2, s3]
      exact if_neg (fun z => s1 ((nn_eq (b := 0) (by omega) (by decide)).mp z.2)))) rfl
    refine bX8_inconsistencies_33 o f1 ob (fun h => absurd h (by rw [n2, nn_le (by omega) (by omega)]; omega)) (fun _ => ?_)
    refine bX8_inconsistencies_44 o f1 ob (Nat.zero_le _) (Nat.zero_le _) hWrk ?_
    refine bX8_inconsistencies_53 o f1 ob (Nat.zero_le _) (Nat.zero_le _) hWbt ?_
    refine bX8_inconsistencies_61 o f1 ob s9 b6 (nn_in (by omega) (by omega)) (by rw [nn_nat (by omega)]; exact hg1) og gg5 ot (Nat.zero_le _) (Nat.zero_le _) hEm ?_
    refine bX8_inconsistencies_83 ?_
    rw [nn_s1, Int32.add_zero]
    exact ih
end Q5
