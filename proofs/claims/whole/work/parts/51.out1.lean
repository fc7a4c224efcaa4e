/-! A TREE AS TEXT: the text; the model writes it -/
def dgs (v : Int32) : List Int32 := if v ≤ 9 then [48 + (v - v / 10 * 10)] else [48 + v / 10, 48 + (v - v / 10 * 10)]
def lts (w : Nat → Int32) (a : Nat) : List Int32 := (List.range (lnW w a)).map (fun i => w (a + 1 + i))
def otx (w : Nat → Int32) (g : Nat) : Nat → Nat → List Int32
  | 0, _ => []
  | f + 1, n => if rw5 w g 0 n = -1 then 61 :: dgs (rw5 w g 1 n) else lts w (12 + (rw5 w g 0 n).toNatClampNeg * 8 + 1) ++ (40 :: (otx w g f (rw5 w g 2 n).toNatClampNeg ++ (44 :: (otx w g f (rw5 w g 3 n).toNatClampNeg ++ [41]))))
theorem dgs_len (v : Int32) : (dgs v).length ≤ 2 := by
  unfold dgs
  by_cases h : v ≤ 9
  · rw [if_pos h]; exact (by decide : 1 ≤ 2)
  · rw [if_neg h]; exact Nat.le_refl _
theorem lts_len (w : Nat → Int32) (a : Nat) : (lts w a).length = lnW w a := by
  unfold lts
  rw [List.length_map, List.length_range]
theorem otx_len {Q : Nat} {ys : Nat → Nat} {w : Nat → Int32} {g : Nat} (hQ : Q ≤ 6) (hn : ∀ q, q < Q → lnW w (12 + q * 8 + 1) ≤ 6) : ∀ {f n S e : Nat}, tva Q ys (rw5 w g 0) (rw5 w g 1) (rw5 w g 2) (rw5 w g 3) (rw5 w g 4) f n S e → e ≤ 15 → (otx w g f n).length + 3 ≤ 6 * (e - n)
  | 0, _, _, _, h, _ => h.elim
  | f + 1, n, S, e, h, h15 => by
    have hgt := tva_gt h
    obtain ⟨-, ⟨h1, -, -, -, h5⟩ | ⟨q, m, hq, -, -, h1, -, h3, h4, hl, hr⟩⟩ := h
    · have := dgs_len (rw5 w g 1 n)
      unfold otx
      rw [if_pos h1, List.length_cons]
      omega
    · have g1 := tva_gt hl
      have g2 := tva_gt hr
      have i1 := otx_len hQ hn hl (by omega)
      have i2 := otx_len hQ hn hr h15
      have hne : ¬ rw5 w g 0 n = -1 := by rw [h1]; exact (fun k (hk : k < 6) => (by decide : ∀ k, k < 6 → ¬ nn k = -1) k hk) q (by omega)
      unfold otx
      rw [if_neg hne, h1, h3, h4, nn_nat (by omega), nn_nat (by omega), nn_nat (by omega), List.length_append, lts_len, List.length_cons, List.length_append, List.length_cons, List.length_append]
      have := hn q hq
      show _ + (_ + (_ + 1 + 1) + 1) + 3 ≤ _
      omega
section OT
variable {d mc ms : Nat} {Γ : am_G} {I : am_I} {L : am_L} {m b : Nat}
theorem eX9_out (hm : mdF Γ m) {c : Nat} (hc : I m 10 = nn c) (h7 : c < 87) (x : Int32) : am_E m_X9_out d 0 0 [.ref m, .int x] Γ I L (.inl none) (wrx (m + 7) m 10 I c [x]) L := by
  obtain ⟨mo, r0, r1, r2, r3, r4, r7, r8, r13, r14, r15, r16, r17, a1, a2, a3, a4, a5, a6, a7, a8, a9, a10, a11, a12⟩ := id hm
  refine am_ofE rfl rfl rfl (Nat.le_of_ble_eq_true rfl) ?_
  refine bX9_out_0 mo (by assumption) (by assumption) (by rw [hc]; exact nn_in (by omega) (by omega)) ?_
  rw [am_u_ne (by omega), hc, nn_s1, nn_nat (by omega)]
  exact ⟨rfl, rfl, rfl⟩
theorem wrx_c {m : Nat} {I : am_I} {c : Nat} (hc : I m 10 = nn c) (xs : List Int32) : wrx (m + 7) m 10 I c xs m 10 = nn (c + xs.length) := (wrx_o (m + 7) m 10 (by omega) xs I c hc).1
theorem wrx_r {m : Nat} {I : am_I} {c : Nat} (xs : List Int32) : wrx (m + 7) m 10 I c xs (m + 1) = I (m + 1) := wrx_ne _ _ _ _ _ _ _ (by omega) (by omega)
theorem neg1 {q : Nat} (h : q < 6) : ¬ nn q = -1 := (by decide : ∀ k, k < 6 → ¬ nn k = -1) q h
theorem eX9_outNode (hm : mdF Γ m) {g Q : Nat} {ys : Nat → Nat} {w : Nat → Int32} (hg : g < 4) (hQ : Q ≤ 6) (hn : ∀ q, q < Q → nmO w (12 + q * 8 + 1)) : ∀ {f n S e : Nat}, tva Q ys (rw5 w g 0) (rw5 w g 1) (rw5 w g 2) (rw5 w g 3) (rw5 w g 4) f n S e → e ≤ 15 → ∀ {I : am_I} {c : Nat}, I (m + 1) = w → I m 10 = nn c → c + 6 * (e - n) ≤ 90 → am_E m_X9_outNode (d + f + 1) 0 0 [.ref m, .int (nn g), .int (nn n)] Γ I L (.inl none) (wrx (m + 7) m 10 I c (otx w g f n)) L
  | 0, _, _, _, h, _, _, _, _, _, _ => h.elim
  | f + 1, n, S, e, h, h15, I, c, hw, hc, hl => by
    obtain ⟨mo, r0, r1, r2, r3, r4, r7, r8, r13, r14, r15, r16, r17, a1, a2, a3, a4, a5, a6, a7, a8, a9, a10, a11, a12⟩ := id hm
    have hgt := tva_gt h
    have ln := otx_len hQ (fun q hq => (hn q hq).2.2.1) h h15
    have nd : ∀ (J : am_I) (k : Nat), J (m + 1) = w → k < 5 → am_E m_X9_ofNode (d + f + 1) 0 0 [.ref m, .int (nn g), .int (nn n), .int (nn k)] Γ J L (.inl (some (.int (rw5 w g k n)))) J L := fun J k hJ hk => am_E_e (eX9_ofNode hm hg (by omega) hk) (by rw [hJ]; exact congrArg w (by omega)) rfl
    have al : ∀ (xs ys : List Int32), wrx (m + 7) m 10 (wrx (m + 7) m 10 I c xs) (c + xs.length) ys = wrx (m + 7) m 10 I c (xs ++ ys) := fun xs ys => (wrx_app _ _ _ xs ys I c).symm
    obtain ⟨-, ⟨h1, ⟨v, v99, h2⟩, -, -, h5⟩ | ⟨q, mm, hq, -, -, h1, -, h3, h4, hl1, hr1⟩⟩ := h
    · have eo : otx w g (f + 1) n = 61 :: dgs (nn v) := by unfold otx; rw [if_pos h1, h2]
      have nd0 := nd I 0 hw (by decide)
      have nd1 := nd I 1 hw (by decide)
      rw [h1] at nd0
      rw [h2] at nd1
      rw [eo] at ln ⊢
      refine am_ofE rfl rfl rfl (Nat.le_of_ble_eq_true rfl) ?_
      refine bX9_outNode_0 mo (Nat.zero_le _) (Nat.zero_le _) nd0 ?_
      refine bX9_outNode_7 (fun h => absurd rfl h) (fun _ => ?_)
      refine bX9_outNode_13 mo (Nat.zero_le _) (Nat.zero_le _) nd1 ?_
      refine bX9_outNode_20 mo (Nat.zero_le _) (Nat.zero_le _) (eX9_out hm hc (by rw [List.length_cons] at ln; omega) _) ?_
      by_cases h9 : v ≤ 9
      · have h9' : nn v ≤ 9 := (nn_le (b := 9) (by omega) (by decide)).mpr h9
        refine bX9_outNode_28 (fun _ => ?_) (fun h => absurd h9' h)
        have l1 : (dgs (nn v)).length = 1 := by unfold dgs; rw [if_pos h9']; rfl
        rw [List.length_cons, l1] at ln
        refine bX9_outNode_47 mo (Nat.zero_le _) (Nat.zero_le _) (eX9_out hm (wrx_c hc _) (by show c + (0 + 1) < 87; omega) _) ?_
        refine bX9_outNode_59 ?_
        rw [al]
        unfold dgs
        rw [if_pos h9']
        exact ⟨rfl, rfl, rfl⟩
      · have h9' : ¬ nn v ≤ 9 := fun z => h9 ((nn_le (b := 9) (by omega) (by decide)).mp z)
        have l2 : (dgs (nn v)).length = 2 := by unfold dgs; rw [if_neg h9']; rfl
        rw [List.length_cons, l2] at ln
        refine bX9_outNode_28 (fun h => absurd h h9') (fun _ => ?_)
        refine bX9_outNode_35 mo (Nat.zero_le _) (Nat.zero_le _) (eX9_out hm (wrx_c hc _) (by show c + (0 + 1) < 87; omega) _) ?_
        rw [al]
        refine bX9_outNode_47 mo (Nat.zero_le _) (Nat.zero_le _) (eX9_out hm (wrx_c hc _) (by show c + (0 + 1 + 1) < 87; omega) _) ?_
        refine bX9_outNode_59 ?_
        rw [al]
        unfold dgs
        rw [if_neg h9']
        exact ⟨rfl, rfl, rfl⟩
    · have hne : ¬ rw5 w g 0 n = -1 := by rw [h1]; exact neg1 (by omega)
      have g1 := tva_gt hl1
      have g2 := tva_gt hr1
      obtain ⟨a1', a2', a3', a4'⟩ := hn q hq
      have eo : otx w g (f + 1) n = lts w (12 + q * 8 + 1) ++ (40 :: (otx w g f (n + 1) ++ (44 :: (otx w g f mm ++ [41])))) := by
        rw [show otx w g (f + 1) n = _ from if_neg hne, h1, h3, h4, nn_nat (by omega), nn_nat (by omega), nn_nat (by omega)]
      have ll1 := otx_len hQ (fun q hq => (hn q hq).2.2.1) hl1 (by omega)
      have ll2 := otx_len hQ (fun q hq => (hn q hq).2.2.1) hr1 h15
      have lw := lts_len w (12 + q * 8 + 1)
      have nd0 := nd I 0 hw (by decide)
      rw [h1] at nd0
      rw [eo] at ln ⊢
      refine am_ofE rfl rfl rfl (Nat.le_of_ble_eq_true rfl) ?_
      refine bX9_outNode_0 mo (Nat.zero_le _) (Nat.zero_le _) nd0 ?_
      refine bX9_outNode_7 (fun _ => ?_) (fun h => absurd h (neg1 (by omega)))
      refine bX9_outNode_60 ?_
      have eidx : (12 + nn q * 8 + 1 : Int32) = nn (12 + q * 8 + 1) := by
        show nn 12 + nn q * nn 8 + nn 1 = _
        rw [nn_mul, nn_add, nn_add]
      rw [eidx]
      -- the letters
      have loop := nn_loop (fun i => am_W m_X9_outNode (d + (f + 1) + 1) 0 0 false 0 0 74 [(0, .ref m), (1, .int (nn g)), (2, .int (nn n)), (3, .int (nn q)), (4, .int (nn (12 + q * 8 + 1))), (5, .int (nn i))] [] Γ (wrx (m + 7) m 10 I c ((List.range i).map (fun i => w (12 + q * 8 + 1 + 1 + i)))) L (am_R (.inl none) (wrx (m + 7) m 10 I c (lts w (12 + q * 8 + 1) ++ (40 :: (otx w g f (n + 1) ++ (44 :: (otx w g f mm ++ [41])))))) L)) (lnW w (12 + q * 8 + 1)) ?_ (fun i hi ih => ?_)
      · exact loop
      · show am_W m_X9_outNode (d + (f + 1) + 1) 0 0 false 0 0 74 _ [] Γ (wrx (m + 7) m 10 I c (lts w (12 + q * 8 + 1))) L _
        refine bX9_outNode_74 mo r0 a1 (nn_in (by omega) (by omega)) (fun _ => ?_) (fun h => absurd (Int32.le_of_eq (by rw [nn_nat (by omega), wrx_r, hw]; exact a1')) h)
        refine bX9_outNode_108 mo (Nat.zero_le _) (Nat.zero_le _) (eX9_out hm (wrx_c hc _) (by omega) _) ?_
        rw [al]
        have x1 : wrx (m + 7) m 10 I c (lts w (12 + q * 8 + 1) ++ [40]) (m + 1) = w := (wrx_r _).trans hw
        have nd2 := nd _ 2 x1 (by decide)
        rw [h3] at nd2
        have y1 := wrx_c hc (lts w (12 + q * 8 + 1) ++ [40])
        have z1 : (lts w (12 + q * 8 + 1) ++ [40]).length = lnW w (12 + q * 8 + 1) + 1 := by rw [List.length_append, lw]; rfl
        have out1 := eX9_outNode hm hg hQ hn hl1 (by omega) x1 y1 (by omega)
        rw [al] at out1
        refine bX9_outNode_114 mo (Nat.zero_le _) (Nat.zero_le _) nd2 ?_
        refine bX9_outNode_123 mo (Nat.zero_le _) (Nat.zero_le _) out1 ?_
        have z2 : (lts w (12 + q * 8 + 1) ++ [40] ++ otx w g f (n + 1)).length = lnW w (12 + q * 8 + 1) + 1 + (otx w g f (n + 1)).length := by rw [List.length_append, z1]
        refine bX9_outNode_126 mo (Nat.zero_le _) (Nat.zero_le _) (eX9_out hm (wrx_c hc _) (by omega) _) ?_
        rw [al]
        have x3 : wrx (m + 7) m 10 I c (lts w (12 + q * 8 + 1) ++ [40] ++ otx w g f (n + 1) ++ [44]) (m + 1) = w := (wrx_r _).trans hw
        have nd3 := nd _ 3 x3 (by decide)
        rw [h4] at nd3
        have y3 := wrx_c hc (lts w (12 + q * 8 + 1) ++ [40] ++ otx w g f (n + 1) ++ [44])
        have z3 : (lts w (12 + q * 8 + 1) ++ [40] ++ otx w g f (n + 1) ++ [44]).length = lnW w (12 + q * 8 + 1) + 1 + (otx w g f (n + 1)).length + 1 := by rw [List.length_append, z2]; rfl
        have out3 := eX9_outNode hm hg hQ hn hr1 h15 x3 y3 (by omega)
        rw [al] at out3
        refine bX9_outNode_132 mo (Nat.zero_le _) (Nat.zero_le _) nd3 ?_
        refine bX9_outNode_141 mo (Nat.zero_le _) (Nat.zero_le _) out3 ?_
        have z4 : (lts w (12 + q * 8 + 1) ++ [40] ++ otx w g f (n + 1) ++ [44] ++ otx w g f mm).length = lnW w (12 + q * 8 + 1) + 1 + (otx w g f (n + 1)).length + 1 + (otx w g f mm).length := by rw [List.length_append, z3]
        refine bX9_outNode_144 mo (Nat.zero_le _) (Nat.zero_le _) (eX9_out hm (wrx_c hc _) (by omega) _) ?_
        rw [al]
        refine bX9_outNode_150 ?_
        have el : lts w (12 + q * 8 + 1) ++ [40] ++ otx w g f (n + 1) ++ [44] ++ otx w g f mm ++ [41] = lts w (12 + q * 8 + 1) ++ (40 :: (otx w g f (n + 1) ++ (44 :: (otx w g f mm ++ [41])))) := by simp only [List.append_assoc, List.cons_append, List.nil_append]
        rw [el]
        exact ⟨rfl, rfl, rfl⟩
      · have li : ((List.range i).map (fun i => w (12 + q * 8 + 1 + 1 + i))).length = i := by rw [List.length_map, List.length_range]
        refine bX9_outNode_74 mo r0 a1 (nn_in (by omega) (by omega)) (fun h => absurd h (by rw [nn_nat (by omega), wrx_r, hw, a1', nn_le (by omega) (by omega)]; omega)) (fun _ => ?_)
        have ei : (nn (12 + q * 8 + 1) + 1 + nn i : Int32) = nn (12 + q * 8 + 1 + 1 + i) := by rw [nn_s1, nn_add]
        refine bX9_outNode_86 mo r0 a1 (by rw [ei]; exact nn_in (by omega) (by omega)) (Nat.zero_le _) (Nat.zero_le _) (eX9_out hm (wrx_c hc _) (by rw [li]; omega) _) ?_
        refine bX9_outNode_102 ?_
        rw [al, ei, nn_nat (by omega), wrx_r, hw, nn_s1]
        rw [List.range_succ, List.map_append] at ih
        exact ih
end OT
