/-! A TREE AS TEXT: the class writes it; side by side -/
def wq (I I' : am_I) (c : Nat) (xs : List Int32) : Prop := I' 447 1 = nn (c + xs.length) ∧ (∀ j, I' 448 j = if c ≤ j ∧ j < c + xs.length then xs.getD (j - c) 0 else I 448 j) ∧ ∀ k, k ≠ 447 → k ≠ 448 → k ≠ 449 → I' k = I k
theorem wq.of {I : am_I} {c : Nat} (h : I 447 1 = nn c) (xs : List Int32) : wq I (wrx 448 447 1 I c xs) c xs := ⟨(wrx_o 448 447 1 (by decide) xs I c h).1, wrx_a 448 447 1 (by decide) xs I c, fun k h1 h2 _ => wrx_ne 448 447 1 xs I c k h2 h1⟩
theorem wq.app {I I1 I2 : am_I} {c : Nat} {xs ys : List Int32} (h1 : wq I I1 c xs) (h2 : wq I1 I2 (c + xs.length) ys) : wq I I2 c (xs ++ ys) := by
  obtain ⟨a1, a2, a3⟩ := h1
  obtain ⟨b1, b2, b3⟩ := h2
  refine ⟨by rw [b1, List.length_append, Nat.add_assoc], fun j => ?_, fun k x y z => (b3 k x y z).trans (a3 k x y z)⟩
  rw [b2, a2, List.length_append]
  by_cases hj : c + xs.length ≤ j ∧ j < c + xs.length + ys.length
  · rw [if_pos hj, if_pos (by omega), List.getD_eq_getElem?_getD, List.getD_eq_getElem?_getD, List.getElem?_append_right (by omega), show j - c - xs.length = j - (c + xs.length) by omega]
  · rw [if_neg hj]
    by_cases hk : c ≤ j ∧ j < c + xs.length
    · rw [if_pos hk, if_pos (by omega), List.getD_eq_getElem?_getD, List.getD_eq_getElem?_getD, List.getElem?_append_left (by omega)]
    · rw [if_neg hk, if_neg (by omega)]
theorem wq.st {I I1 I2 : am_I} {c : Nat} {xs : List Int32} (h : wq I I1 c xs) (e1 : I2 447 1 = I1 447 1) (e2 : I2 448 = I1 448) (e3 : ∀ k, k ≠ 447 → k ≠ 448 → k ≠ 449 → I2 k = I1 k) : wq I I2 c xs :=
  ⟨e1.trans h.1, fun j => by rw [e2]; exact h.2.1 j, fun k a b c' => (e3 k a b c').trans (h.2.2 k a b c')⟩
theorem wq.nil {I I2 : am_I} {c : Nat} (h : I 447 1 = nn c) (e1 : I2 447 1 = I 447 1) (e2 : I2 448 = I 448) (e3 : ∀ k, k ≠ 447 → k ≠ 448 → k ≠ 449 → I2 k = I k) : wq I I2 c [] :=
  ⟨e1.trans h, fun j => by rw [e2, if_neg (fun z => by have := z.1; have := z.2; simp at *; omega)], e3⟩
theorem chr_id : ∀ c, c < 128 → (nn c).toInt8.toInt32 = nn c := by decide
section O2
variable {d mc ms : Nat} {Γ : am_G} {I : am_I} {L : am_L} {m : Nat}
theorem eX2_put (ho : otF Γ) {c : Nat} (hc : I 447 1 = nn c) (h7 : c < 87) {x : Int32} (hx : x.toInt8.toInt32 = x) : am_E m_X2_put d 0 0 [.ref 447, .int x] Γ I L (.inl none) (wrx 448 447 1 I c [x]) L := by
  obtain ⟨oo, or0, or2, oa, oa2⟩ := ho
  refine am_ofE rfl rfl rfl (Nat.le_of_ble_eq_true rfl) ?_
  refine bX2_put_0 oo (fun h => absurd h (by rw [hc]; show ¬ nn 87 ≤ nn c; rw [nn_le (by decide) (by omega)]; omega)) (fun _ => ?_)
  refine bX2_put_9 oo or0 oa (by rw [hc]; exact nn_in (by omega) h7) ?_
  refine bX2_put_30 ?_
  rw [am_u_ne (by omega), hc, nn_s1, nn_nat (by omega), by_c, hx]
  exact ⟨rfl, rfl, rfl⟩
theorem eX2_await (ho : otF Γ) {k : Nat} (hk : I 447 3 = nn k) (h7 : k < 22) (x : Int32) : am_E m_X2_await d 0 0 [.ref 447, .int x] Γ I L (.inl none) (am_u (am_u I 449 k x) 447 3 (nn (k + 1))) L := by
  obtain ⟨oo, or0, or2, oa, oa2⟩ := ho
  refine am_ofE rfl rfl rfl (Nat.le_of_ble_eq_true rfl) ?_
  refine bX2_await_0 oo (fun h => absurd h (by rw [hk]; show ¬ nn 22 ≤ nn k; rw [nn_le (by decide) (by omega)]; omega)) (fun _ => ?_)
  refine bX2_await_9 oo or2 oa2 (by rw [hk]; exact nn_in (by omega) h7) ?_
  refine bX2_await_29 ?_
  rw [am_u_ne (by omega), hk, nn_s1, nn_nat (by omega)]
  exact ⟨rfl, rfl, rfl⟩
theorem dg_chr : ∀ v, v ≤ 99 → (48 + nn v / 10 : Int32).toInt8.toInt32 = 48 + nn v / 10 ∧ (48 + (nn v - nn v / 10 * 10) : Int32).toInt8.toInt32 = 48 + (nn v - nn v / 10 * 10) := fun v hv => (by decide +kernel : ∀ v, v < 100 → (48 + nn v / 10 : Int32).toInt8.toInt32 = 48 + nn v / 10 ∧ (48 + (nn v - nn v / 10 * 10) : Int32).toInt8.toInt32 = 48 + (nn v - nn v / 10 * 10)) v (by omega)
theorem eX2_putLeaf (ho : otF Γ) {c v : Nat} (hc : I 447 1 = nn c) (hv : v ≤ 99) (h7 : c + 1 + (dgs (nn v)).length ≤ 87) : am_E m_X2_putLeaf (d + 1) 0 0 [.ref 447, .int (nn v)] Γ I L (.inl none) (wrx 448 447 1 I c (61 :: dgs (nn v))) L := by
  have oo := ho.1
  have cc : ∀ xs, wrx 448 447 1 I c xs 447 1 = nn (c + xs.length) := fun xs => (wrx_o 448 447 1 (by decide) xs I c hc).1
  have al : ∀ (xs ys : List Int32), wrx 448 447 1 (wrx 448 447 1 I c xs) (c + xs.length) ys = wrx 448 447 1 I c (xs ++ ys) := fun xs ys => (wrx_app _ _ _ xs ys I c).symm
  refine am_ofE rfl rfl rfl (Nat.le_of_ble_eq_true rfl) ?_
  refine bX2_putLeaf_0 oo (Nat.zero_le _) (Nat.zero_le _) (eX2_put ho hc (by omega) (by decide)) ?_
  by_cases h9 : v ≤ 9
  · have h9' : nn v ≤ 9 := (nn_le (b := 9) (by omega) (by decide)).mpr h9
    have h10 : nn v < 10 := (nn_lt (b := 10) (by omega) (by decide)).mpr (by omega)
    have l1 : (dgs (nn v)).length = 1 := by unfold dgs; rw [if_pos h9']; rfl
    refine bX2_putLeaf_6 (fun _ => ?_) (fun h => absurd h10 h)
    refine bX2_putLeaf_23 oo (Nat.zero_le _) (Nat.zero_le _) (eX2_put ho (cc _) (by show c + (0 + 1) < 87; omega) (dg_chr v hv).2) ?_
    refine bX2_putLeaf_34 ?_
    rw [al]
    unfold dgs
    rw [if_pos h9']
    exact ⟨rfl, rfl, rfl⟩
  · have h9' : ¬ nn v ≤ 9 := fun z => h9 ((nn_le (b := 9) (by omega) (by decide)).mp z)
    have h10 : ¬ nn v < 10 := fun z => h9 (by have := (nn_lt (b := 10) (by omega) (by decide)).mp z; omega)
    have l2 : (dgs (nn v)).length = 2 := by unfold dgs; rw [if_neg h9']; rfl
    refine bX2_putLeaf_6 (fun h => absurd h h10) (fun _ => ?_)
    refine bX2_putLeaf_12 oo (Nat.zero_le _) (Nat.zero_le _) (eX2_put ho (cc _) (by show c + (0 + 1) < 87; omega) (dg_chr v hv).1) ?_
    rw [al]
    refine bX2_putLeaf_23 oo (Nat.zero_le _) (Nat.zero_le _) (eX2_put ho (cc _) (by show c + (0 + 1 + 1) < 87; omega) (dg_chr v hv).2) ?_
    refine bX2_putLeaf_34 ?_
    rw [al]
    unfold dgs
    rw [if_neg h9']
    exact ⟨rfl, rfl, rfl⟩
theorem eX2_putName (ho : otF Γ) {w : Nat → Int32} {a c : Nat} (hn : nmO w a) (hc : I 447 1 = nn c) (h7 : c + lnW w a ≤ 87) : am_E m_X2_putName (d + 1) 0 0 [.ref 447, .long (pnm w a)] Γ I L (.inl none) (wrx 448 447 1 I c (lts w a)) L := by
  have oo := ho.1
  obtain ⟨h1, h2, h3, h4⟩ := id hn
  have cc : ∀ xs, wrx 448 447 1 I c xs 447 1 = nn (c + xs.length) := fun xs => (wrx_o 448 447 1 (by decide) xs I c hc).1
  have al : ∀ (xs ys : List Int32), wrx 448 447 1 (wrx 448 447 1 I c xs) (c + xs.length) ys = wrx 448 447 1 I c (xs ++ ys) := fun xs ys => (wrx_app _ _ _ xs ys I c).symm
  refine am_ofE rfl rfl rfl (Nat.le_of_ble_eq_true rfl) ?_
  refine bX2_putName_0 ?_
  have loop := nn_loop (fun i => am_W m_X2_putName (d + 1) 0 0 false 0 0 2 [(0, .ref 447), (1, .long (pnm w a)), (3, .int (nn i))] [] Γ (wrx 448 447 1 I c ((List.range i).map (fun i => w (a + 1 + i)))) L (am_R (.inl none) (wrx 448 447 1 I c (lts w a)) L)) (lnW w a) ?_ (fun i hi ih => ?_)
  · exact loop
  · show am_W m_X2_putName (d + 1) 0 0 false 0 0 2 _ [] Γ (wrx 448 447 1 I c (lts w a)) L _
    refine bX2_putName_2 (fun _ => ?_) (fun _ => ?_)
    · refine bX2_putName_32 ?_
      exact ⟨rfl, rfl, rfl⟩
    · refine bX2_putName_8 (Nat.zero_le _) (Nat.zero_le _) (eX8_byteOfName_f (mc := 0) (ms := 0) hn (fun z => by obtain ⟨j, j1, j2⟩ := z; rw [nn_eq (by omega) (by omega)] at j2; omega)) ?_
      refine bX2_putName_13 (fun _ => ?_) (fun h => absurd rfl h)
      refine bX2_putName_32 ?_
      exact ⟨rfl, rfl, rfl⟩
  · have li : ((List.range i).map (fun i => w (a + 1 + i))).length = i := by rw [List.length_map, List.length_range]
    obtain ⟨e1, e2, e3⟩ := h4 i hi
    have hb := eX8_byteOfName_t (d := d) (mc := 0) (ms := 0) (Γ := Γ) (I := wrx 448 447 1 I c ((List.range i).map (fun i => w (a + 1 + i)))) (L := L) hn hi
    refine bX2_putName_2 (fun h => absurd h (by show ¬ nn 6 ≤ nn i; rw [nn_le (by decide) (by omega)]; omega)) (fun _ => ?_)
    refine bX2_putName_8 (Nat.zero_le _) (Nat.zero_le _) hb ?_
    refine bX2_putName_13 (fun h => absurd h (by rw [e1]; exact (fun k (hk : k < 128) => (by decide : ∀ k, k < 128 → ¬ nn k = -1) k hk) _ (by omega))) (fun _ => ?_)
    refine bX2_putName_17 (Nat.zero_le _) (Nat.zero_le _) hb ?_
    refine bX2_putName_23 oo (Nat.zero_le _) (Nat.zero_le _) (eX2_put ho (cc _) (by rw [li]; omega) (by rw [e1]; exact chr_id _ (by omega))) ?_
    refine bX2_putName_26 ?_
    rw [al, nn_s1]
    rw [List.range_succ, List.map_append] at ih
    exact ih
set_option maxHeartbeats 6000000 in
/-- a tree's text, in a loop of steps over what waits -/
theorem eX2_tree (hF : wF Γ) {t g Q : Nat} {ys : Nat → Nat} {w : Nat → Int32} (ht : trF Γ t) (t45 : 9 ≤ t ∧ t + 5 ≤ 45) (hQ : Q ≤ 6) (hn : ∀ q, q < Q → nmO w (12 + q * 8 + 1)) (hL : ∀ q, q < Q → L 10 q = pnm w (12 + q * 8 + 1)) {Pr : am_I → Prop} :
    ∀ {f n S e : Nat}, tva Q ys (rw5 w g 0) (rw5 w g 1) (rw5 w g 2) (rw5 w g 3) (rw5 w g 4) f n S e → e ≤ 15 → ∀ {I : am_I} {c b k : Nat} {ls : List (Nat × Value)}, (∀ j, j < e → I (t + 1) j = rw5 w g 0 j ∧ I (t + 2) j = rw5 w g 1 j ∧ I (t + 3) j = rw5 w g 3 j) → I 447 1 = nn c → I 447 3 = nn (b + 1) → I 449 b = nn n → c + 6 * (e - n) ≤ 90 → 2 * b + 3 * (e - n) ≤ 45 → k + 2 * (e - n) ≤ 88 → ls.take 4 = [(0, .ref 447), (1, .ref 9), (2, .ref t), (3, .int (nn k))] →
    (∀ (I' : am_I) (ls' : List (Nat × Value)), wq I I' c (otx w g f n) → I' 447 3 = nn b → (∀ j, j < b → I' 449 j = I 449 j) → ls'.take 4 = [(0, .ref 447), (1, .ref 9), (2, .ref t), (3, .int (nn (k + 2 * (e - n) - 1)))] → ∃ If, am_W m_X2_writeTreeOf (d + 2) 0 0 false 0 0 17 ls' [] Γ I' L (am_R (.inl none) If L) ∧ Pr If) →
    ∃ If, am_W m_X2_writeTreeOf (d + 2) 0 0 false 0 0 17 ls [] Γ I L (am_R (.inl none) If L) ∧ Pr If
  | 0, _, _, _, h, _, _, _, _, _, _, _, _, _, _, _, _, _, _, _ => h.elim
  | f + 1, n, S, e, h, h15, I, c, b, k, ls, htr, hc, hb, htop, l1, l2, l3, hls, K => by
    obtain ⟨⟨o, f0, f1, f2, f3, f4, f5, f6, f7⟩, so, st, dr, ⟨ro, rr0, rr5, rr6, ra⟩, hi, sv, ⟨oo, or0, or2, oa, oa2⟩, hm, am, am2⟩ := id hF
    obtain ⟨ob, s4, s5, s6, s7, s8, s9, s10, b1, b2, b3, b4, b5, b6, o7, hg⟩ := id st
    have ho : otF Γ := ⟨oo, or0, or2, oa, oa2⟩
    obtain ⟨ot, tr1, tr2, tr3, tr4, ta1, ta2, ta3, ta4⟩ := id ht
    have hgt := tva_gt h
    have ln := otx_len hQ (fun q hq => (hn q hq).2.2.1) h h15
    -- one step begins
    have step : ∀ {J : am_I} {k' b' : Nat} {v : Int32} {ls1 : List (Nat × Value)} {If : am_I}, J 447 3 = nn (b' + 1) → J 449 b' = v → b' < 22 → k' < 87 → ls1.take 4 = [(0, .ref 447), (1, .ref 9), (2, .ref t), (3, .int (nn k'))] →
        (v = -2 → am_W m_X2_writeTreeOf (d + 2) 0 0 false 0 0 58 [(0, .ref 447), (1, .ref 9), (2, .ref t), (3, .int (nn k')), (4, .int v)] [] Γ (am_u J 447 3 (nn b')) L (am_R (.inl none) If L)) → (¬ v = -2 → am_W m_X2_writeTreeOf (d + 2) 0 0 false 0 0 67 [(0, .ref 447), (1, .ref 9), (2, .ref t), (3, .int (nn k')), (4, .int v)] [] Γ (am_u J 447 3 (nn b')) L (am_R (.inl none) If L)) →
        am_W m_X2_writeTreeOf (d + 2) 0 0 false 0 0 17 ls1 [] Γ J L (am_R (.inl none) If L) := by
      intro J k' b' v ls1 If e1 e2 h22 h87 hls1 y1 y2
      refine aw_take 4 ?_
      rw [hls1]
      have ep : J 447 3 - 1 = nn b' := by rw [e1, nl_1, nn_sub (by omega), Nat.add_sub_cancel]
      have e5 : am_u J 447 3 (J 447 3 - 1) 447 3 = nn b' := by rw [am_u_at, if_pos ⟨rfl, rfl⟩, ep]
      refine bX2_writeTreeOf_17 (fun h => absurd h (by show ¬ nn 87 ≤ nn k'; rw [nn_le (by decide) (by omega)]; omega)) (fun _ => ?_)
      refine bX2_writeTreeOf_23 oo (fun h => absurd h (by rw [e1]; show ¬ nn (b' + 1) ≤ nn 0; rw [nn_le (by omega) (by decide)]; omega)) (fun _ => ?_)
      refine bX2_writeTreeOf_30 oo or2 oa2 (by rw [e5]; exact nn_in (by omega) h22) (fun h => ?_) (fun h => ?_)
      · rw [e5, nn_nat (by omega), am_u_ne (by decide), e2] at h ⊢
        rw [ep]
        exact y2 h
      · rw [e5, nn_nat (by omega), am_u_ne (by decide), e2] at h ⊢
        rw [ep]
        exact y1 h
    obtain ⟨-, ⟨h1, ⟨v, v99, h2⟩, -, -, h5⟩ | ⟨q, mm, hq, -, -, h1, -, h3, h4, hl1, hr1⟩⟩ := h
    · have eo : otx w g (f + 1) n = 61 :: dgs (nn v) := by unfold otx; rw [if_pos h1, h2]
      rw [eo] at ln K
      rw [List.length_cons] at ln
      have j1 : am_u I 447 3 (nn b) 447 1 = nn c := by rw [am_u_at, if_neg (by decide)]; exact hc
      obtain ⟨If, hW, hP⟩ := K (wrx 448 447 1 (am_u I 447 3 (nn b)) c (61 :: dgs (nn v))) [(0, .ref 447), (1, .ref 9), (2, .ref t), (3, .int (nn (k + 1))), (4, .int (nn n))] ((wq.nil (I2 := am_u I 447 3 (nn b)) hc (by rw [am_u_at, if_neg (by decide)]) (am_u_ne (by decide)) (fun k a b' c' => am_u_ne a)).app (wq.of j1 _)) (by rw [(wrx_o 448 447 1 (by decide) _ _ _ j1).2 3 (by decide), am_u_at, if_pos ⟨rfl, rfl⟩]) (fun j hj => by rw [wrx_ne _ _ _ _ _ _ _ (by decide) (by decide), am_u_ne (by decide)]) (by rw [show k + 2 * (e - n) - 1 = k + 1 by omega]; rfl)
      refine ⟨If, step hb htop (by omega) (by omega) hls (fun z => absurd z ((fun k (hk : k < 15) => (by decide : ∀ k, k < 15 → ¬ nn k = -2) k hk) n (by omega))) (fun _ => ?_), hP⟩
      refine bX2_writeTreeOf_67 (fun _ => ?_) (fun z => absurd z ((fun k (hk : k < 15) => (by decide : ∀ k, k < 15 → ¬ nn k = -3) k hk) n (by omega)))
      refine bX2_writeTreeOf_83 ot tr1 ta1 (nn_in (by omega) (by omega)) (fun z => absurd (by rw [nn_nat (by omega), am_u_ne (by omega), (htr n (by omega)).1]; exact h1) z) (fun _ => ?_)
      refine bX2_writeTreeOf_94 ot tr2 ta2 (nn_in (by omega) (by omega)) oo (Nat.zero_le _) (Nat.zero_le _) (by rw [nn_nat (by omega), am_u_ne (by omega), (htr n (by omega)).2.1, h2]; exact eX2_putLeaf ho j1 v99 (by omega)) ?_
      refine bX2_writeTreeOf_105 ?_
      refine bX2_writeTreeOf_163 ?_
      rw [nn_s1]
      exact hW
    · have g1 := tva_gt hl1
      have g2 := tva_gt hr1
      obtain ⟨a1', a2', a3', a4'⟩ := hn q hq
      have eo : otx w g (f + 1) n = lts w (12 + q * 8 + 1) ++ (40 :: (otx w g f (n + 1) ++ (44 :: (otx w g f mm ++ [41])))) := by
        rw [show otx w g (f + 1) n = _ from if_neg (by rw [h1]; exact neg1 (by omega)), h1, h3, h4, nn_nat (by omega), nn_nat (by omega), nn_nat (by omega)]
      have el : lts w (12 + q * 8 + 1) ++ [40] ++ otx w g f (n + 1) ++ [44] ++ otx w g f mm ++ [41] = lts w (12 + q * 8 + 1) ++ (40 :: (otx w g f (n + 1) ++ (44 :: (otx w g f mm ++ [41])))) := by simp only [List.append_assoc, List.cons_append, List.nil_append]
      have ll1 := otx_len hQ (fun q hq => (hn q hq).2.2.1) hl1 (by omega)
      have ll2 := otx_len hQ (fun q hq => (hn q hq).2.2.1) hr1 h15
      have lw := lts_len w (12 + q * 8 + 1)
      rw [eo, ← el] at K
      -- the states up to the left child
      obtain ⟨J1, hJ1⟩ : ∃ J1, J1 = wrx 448 447 1 (wrx 448 447 1 (am_u I 447 3 (nn b)) c (lts w (12 + q * 8 + 1))) (c + (lts w (12 + q * 8 + 1)).length) [40] := ⟨_, rfl⟩
      have j0 : am_u I 447 3 (nn b) 447 1 = nn c := by rw [am_u_at, if_neg (by decide)]; exact hc
      have j0' := (wrx_o 448 447 1 (by decide) (lts w (12 + q * 8 + 1)) _ _ j0)
      have q1 : wq I J1 c (lts w (12 + q * 8 + 1) ++ [40]) := by
        rw [hJ1]
        exact ((wq.nil (I2 := am_u I 447 3 (nn b)) hc (by rw [am_u_at, if_neg (by decide)]) (am_u_ne (by decide)) (fun k a b' c' => am_u_ne a)).app (wq.of j0 _)).app (wq.of j0'.1 _)
      have c1 : J1 447 3 = nn b := by rw [hJ1, (wrx_o 448 447 1 (by decide) _ _ _ j0'.1).2 3 (by decide), j0'.2 3 (by decide), am_u_at, if_pos ⟨rfl, rfl⟩]
      have s1 : J1 449 = I 449 := by rw [hJ1, wrx_ne _ _ _ _ _ _ _ (by decide) (by decide), wrx_ne _ _ _ _ _ _ _ (by decide) (by decide), am_u_ne (by decide)]
      obtain ⟨J2, hJ2⟩ : ∃ J2, J2 = am_u (am_u (am_u (am_u (am_u (am_u (am_u (am_u J1 449 b (-3)) 447 3 (nn (b + 1))) 449 (b + 1) (nn mm)) 447 3 (nn (b + 1 + 1))) 449 (b + 1 + 1) (-2)) 447 3 (nn (b + 1 + 1 + 1))) 449 (b + 1 + 1 + 1) (nn (n + 1))) 447 3 (nn (b + 1 + 1 + 1 + 1)) := ⟨_, rfl⟩
      have n2 : ∀ k, k ≠ 447 → k ≠ 449 → J2 k = J1 k := fun k a b' => by rw [hJ2, am_u_ne a, am_u_ne b', am_u_ne a, am_u_ne b', am_u_ne a, am_u_ne b', am_u_ne a, am_u_ne b']
      have c2 : J2 447 3 = nn (b + 3 + 1) := by rw [hJ2, am_u_at, if_pos ⟨rfl, rfl⟩]
      have up447 : ∀ (J : am_I) (k : Nat) (v w : Int32), am_u (am_u J 449 k v) 447 3 w 447 1 = J 447 1 := fun J k v w => by rw [am_u_at, if_neg (by decide), am_u_ne (by decide)]
      have x2 : J2 447 1 = J1 447 1 := by rw [hJ2, up447, up447, up447, up447]
      have t2 : ∀ j, J2 449 j = if j = b + 3 then nn (n + 1) else if j = b + 2 then -2 else if j = b + 1 then nn mm else if j = b then -3 else I 449 j := fun j => by
        rw [hJ2]
        simp only [am_u_at, show ((449 : Nat) = 447) = False from eq_false (by decide), false_and, if_false, true_and, s1]
      have q2 : wq I J2 c (lts w (12 + q * 8 + 1) ++ [40]) := q1.st x2 (n2 448 (by decide) (by decide)) (fun k a _ c' => n2 k a c')
      have z1 : (lts w (12 + q * 8 + 1) ++ [40]).length = lnW w (12 + q * 8 + 1) + 1 := by rw [List.length_append, lw]; rfl
      have trJ : ∀ {J : am_I} {c' : Nat} {xs : List Int32}, wq I J c' xs → ∀ j, j < e → J (t + 1) j = rw5 w g 0 j ∧ J (t + 2) j = rw5 w g 1 j ∧ J (t + 3) j = rw5 w g 3 j := fun h j hj => by
        rw [h.2.2 (t + 1) (by omega) (by omega) (by omega), h.2.2 (t + 2) (by omega) (by omega) (by omega), h.2.2 (t + 3) (by omega) (by omega) (by omega)]
        exact htr j hj
      -- the left child, the comma, the right child, the bracket
      have left := eX2_tree hF ht t45 hQ hn hL (Pr := Pr) hl1 (by omega) (I := J2) (c := c + (lts w (12 + q * 8 + 1) ++ [40]).length) (b := b + 3) (k := k + 1) (ls := [(0, .ref 447), (1, .ref 9), (2, .ref t), (3, .int (nn (k + 1))), (4, .int (nn n))]) (fun j hj => trJ q2 j (by omega)) q2.1 c2 (by rw [t2, if_pos rfl]) (by omega) (by omega) (by omega) rfl (by
        intro J3 ls3 q3 c3 t3 hls3
        have q3' := q2.app q3
        have top3 : J3 449 (b + 2) = -2 := by rw [t3 (b + 2) (by omega), t2, if_neg (by omega), if_pos rfl]
        have z3 : (lts w (12 + q * 8 + 1) ++ [40] ++ otx w g f (n + 1)).length = lnW w (12 + q * 8 + 1) + 1 + (otx w g f (n + 1)).length := by rw [List.length_append, z1]
        have j3 : am_u J3 447 3 (nn (b + 2)) 447 1 = nn (c + (lts w (12 + q * 8 + 1) ++ [40] ++ otx w g f (n + 1)).length) := by rw [am_u_at, if_neg (by decide)]; exact q3'.1
        have q3s : wq I (am_u J3 447 3 (nn (b + 2))) c (lts w (12 + q * 8 + 1) ++ [40] ++ otx w g f (n + 1)) := q3'.st (by rw [am_u_at, if_neg (by decide)]) (am_u_ne (by decide)) (fun k a b' c' => am_u_ne a)
        have q4 := q3s.app (wq.of j3 [44])
        have o4 := wrx_o 448 447 1 (by decide) [44] _ _ j3
        have right := eX2_tree hF ht t45 hQ hn hL (Pr := Pr) hr1 h15 (I := wrx 448 447 1 (am_u J3 447 3 (nn (b + 2))) (c + (lts w (12 + q * 8 + 1) ++ [40] ++ otx w g f (n + 1)).length) [44]) (c := c + (lts w (12 + q * 8 + 1) ++ [40] ++ otx w g f (n + 1) ++ [44]).length) (b := b + 1) (k := k + 1 + 2 * (mm - (n + 1)) - 1 + 1) (ls := [(0, .ref 447), (1, .ref 9), (2, .ref t), (3, .int (nn (k + 1 + 2 * (mm - (n + 1)) - 1 + 1))), (4, .int (-2))]) (trJ q4) q4.1 (by rw [o4.2 3 (by decide), am_u_at, if_pos ⟨rfl, rfl⟩]) (by rw [wrx_ne _ _ _ _ _ _ _ (by decide) (by decide), am_u_ne (by decide), t3 (b + 1) (by omega), t2, if_neg (by omega), if_neg (by omega), if_pos rfl]) (by rw [List.length_append, z3]; show c + (_ + 1) + _ ≤ 90; omega) (by omega) (by omega) rfl (by
          intro J5 ls5 q5 c5 t5 hls5
          have q5' := q4.app q5
          have top5 : J5 449 b = -3 := by rw [t5 b (by omega), wrx_ne _ _ _ _ _ _ _ (by decide) (by decide), am_u_ne (by decide), t3 b (by omega), t2, if_neg (by omega), if_neg (by omega), if_neg (by omega), if_pos rfl]
          have z5 : (lts w (12 + q * 8 + 1) ++ [40] ++ otx w g f (n + 1) ++ [44] ++ otx w g f mm).length = lnW w (12 + q * 8 + 1) + 1 + (otx w g f (n + 1)).length + 1 + (otx w g f mm).length := by rw [List.length_append, List.length_append, z3]; rfl
          have j5 : am_u J5 447 3 (nn b) 447 1 = nn (c + (lts w (12 + q * 8 + 1) ++ [40] ++ otx w g f (n + 1) ++ [44] ++ otx w g f mm).length) := by rw [am_u_at, if_neg (by decide)]; exact q5'.1
          have q5s : wq I (am_u J5 447 3 (nn b)) c (lts w (12 + q * 8 + 1) ++ [40] ++ otx w g f (n + 1) ++ [44] ++ otx w g f mm) := q5'.st (by rw [am_u_at, if_neg (by decide)]) (am_u_ne (by decide)) (fun k a b' c' => am_u_ne a)
          have o6 := wrx_o 448 447 1 (by decide) [41] _ _ j5
          obtain ⟨If, hW, hP⟩ := K _ [(0, .ref 447), (1, .ref 9), (2, .ref t), (3, .int (nn (k + 1 + 2 * (mm - (n + 1)) - 1 + 1 + 2 * (e - mm) - 1 + 1))), (4, .int (-3))] (q5s.app (wq.of j5 [41])) (by rw [o6.2 3 (by decide), am_u_at, if_pos ⟨rfl, rfl⟩]) (fun j hj => by rw [wrx_ne _ _ _ _ _ _ _ (by decide) (by decide), am_u_ne (by decide), t5 j (by omega), wrx_ne _ _ _ _ _ _ _ (by decide) (by decide), am_u_ne (by decide), t3 j (by omega), t2, if_neg (by omega), if_neg (by omega), if_neg (by omega), if_neg (by omega)]) (by rw [show k + 1 + 2 * (mm - (n + 1)) - 1 + 1 + 2 * (e - mm) - 1 + 1 = k + 2 * (e - n) - 1 by omega]; rfl)
          refine ⟨If, step (k' := k + 1 + 2 * (mm - (n + 1)) - 1 + 1 + 2 * (e - mm) - 1) (b' := b) c5 top5 (by omega) (by omega) hls5 (fun z => absurd z (by decide)) (fun _ => ?_), hP⟩
          refine bX2_writeTreeOf_67 (fun z => absurd rfl z) (fun _ => ?_)
          refine bX2_writeTreeOf_74 oo (Nat.zero_le _) (Nat.zero_le _) (eX2_put ho j5 (by omega) (by decide)) ?_
          refine bX2_writeTreeOf_80 ?_
          refine bX2_writeTreeOf_163 ?_
          rw [nn_s1]
          exact hW)
        obtain ⟨If, hW, hP⟩ := right
        refine ⟨If, step (k' := k + 1 + 2 * (mm - (n + 1)) - 1) (b' := b + 2) c3 top3 (by omega) (by omega) hls3 (fun _ => ?_) (fun z => absurd rfl z), hP⟩
        refine bX2_writeTreeOf_58 oo (Nat.zero_le _) (Nat.zero_le _) (eX2_put ho j3 (by omega) (by decide)) ?_
        refine bX2_writeTreeOf_64 ?_
        refine bX2_writeTreeOf_163 ?_
        rw [nn_s1]
        exact hW)
      obtain ⟨If, hW, hP⟩ := left
      refine ⟨If, step hb htop (by omega) (by omega) hls (fun z => absurd z ((fun k (hk : k < 15) => (by decide : ∀ k, k < 15 → ¬ nn k = -2) k hk) n (by omega))) (fun _ => ?_), hP⟩
      have i1 : am_u I 447 3 (nn b) (t + 1) n = nn q := by rw [am_u_ne (by omega), (htr n (by omega)).1]; exact h1
      refine bX2_writeTreeOf_67 (fun _ => ?_) (fun z => absurd z ((fun k (hk : k < 15) => (by decide : ∀ k, k < 15 → ¬ nn k = -3) k hk) n (by omega)))
      refine bX2_writeTreeOf_83 ot tr1 ta1 (nn_in (by omega) (by omega)) (fun _ => ?_) (fun z => absurd z (by rw [nn_nat (by omega), i1]; exact neg1 (by omega)))
      refine bX2_writeTreeOf_108 ob s4 ot tr1 ta1 (nn_in (by omega) (by omega)) (by assumption) (by rw [nn_nat (by omega), i1]; exact nn_in (by omega) (by omega)) oo (Nat.zero_le _) (Nat.zero_le _) (by rw [nn_nat (by omega), i1, nn_nat (by omega), hL q hq]; exact eX2_putName ho (hn q hq) j0 (by omega)) ?_
      refine bX2_writeTreeOf_124 oo (Nat.zero_le _) (Nat.zero_le _) (eX2_put ho j0'.1 (by omega) (by decide)) ?_
      rw [← hJ1]
      refine bX2_writeTreeOf_130 oo (Nat.zero_le _) (Nat.zero_le _) (eX2_await ho c1 (by omega) _) ?_
      have b1x : am_u (am_u J1 449 b (-3)) 447 3 (nn (b + 1)) (t + 3) (nn n).toNatClampNeg = nn mm := by
        rw [nn_nat (by omega), am_u_ne (by omega), am_u_ne (by omega), (trJ q1 n (by omega)).2.2]
        exact h4
      refine bX2_writeTreeOf_136 ot tr3 ta3 (nn_in (by omega) (by omega)) oo (Nat.zero_le _) (Nat.zero_le _) (by rw [b1x]; exact eX2_await ho (by rw [am_u_at, if_pos ⟨rfl, rfl⟩]) (by omega) _) ?_
      refine bX2_writeTreeOf_147 oo (Nat.zero_le _) (Nat.zero_le _) (eX2_await ho (by rw [am_u_at, if_pos ⟨rfl, rfl⟩]) (by omega) _) ?_
      have fc := eX7_firstChild (d := d + 1) (Γ := Γ) (L := L) (t := t) (n := n) ht (by omega) (I := am_u (am_u (am_u (am_u (am_u (am_u J1 449 b (-3)) 447 3 (nn (b + 1))) 449 (b + 1) (nn mm)) 447 3 (nn (b + 1 + 1))) 449 (b + 1 + 1) (-2)) 447 3 (nn (b + 1 + 1 + 1)))
      rw [am_u_ne (by omega), am_u_ne (by omega), am_u_ne (by omega), am_u_ne (by omega), am_u_ne (by omega), am_u_ne (by omega), (trJ q1 n (by omega)).1, h1, if_neg (neg1 (by omega))] at fc
      refine bX2_writeTreeOf_153 ot (Nat.zero_le _) (Nat.zero_le _) fc ?_
      refine bX2_writeTreeOf_160 oo (Nat.zero_le _) (Nat.zero_le _) (eX2_await ho (by rw [am_u_at, if_pos ⟨rfl, rfl⟩]) (by omega) _) ?_
      rw [← hJ2]
      refine bX2_writeTreeOf_163 ?_
      rw [nn_s1]
      exact hW
end O2
