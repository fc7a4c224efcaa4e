/-! THE CLASS ALONE: the text is written and loaded -/
theorem i32_nn (x : Int32) : x = nn x.toBitVec.toNat := by
  refine Int32.toBitVec_inj.mp ?_
  show x.toBitVec = BitVec.ofNat 32 x.toBitVec.toNat
  rw [BitVec.ofNat_toNat, BitVec.setWidth_eq]
theorem by_m (x : Int32) : ∃ c, c < 256 ∧ x &&& 255 = nn c ∧ x.toInt8 = (nn c).toInt8 := by
  refine ⟨x.toBitVec.toNat &&& 255, Nat.lt_of_le_of_lt Nat.and_le_right (by decide), ?_, ?_⟩
  · show x &&& nn 255 = _
    rw [← nn_and, ← i32_nn]
  · rw [← nn_and, ← i32_nn, Int32.toInt8_and, show (nn 255).toInt8 = -1 from rfl, Int8.and_neg_one]
theorem by_c (x : Int32) : vp_nar .byte (x.toInt8.toInt32) = x.toInt8.toInt32 := by
  rw [vp_nar_byte, Int8.toInt8_toInt32]
def wrx (a o f : Nat) : am_I → Nat → List Int32 → am_I
  | I, _, [] => I
  | I, n, x :: xs => wrx a o f (am_u (am_u I a n x) o f (nn (n + 1))) (n + 1) xs
theorem wrx_app (a o f : Nat) : ∀ (xs ys : List Int32) (I : am_I) (n : Nat), wrx a o f I n (xs ++ ys) = wrx a o f (wrx a o f I n xs) (n + xs.length) ys
  | [], _, _, _ => rfl
  | x :: xs, ys, I, n => by
    show wrx a o f _ (n + 1) (xs ++ ys) = _
    rw [wrx_app a o f xs ys, show n + 1 + xs.length = n + (x :: xs).length from by rw [List.length_cons]; omega]
    rfl
theorem wrx_ne (a o f : Nat) : ∀ (xs : List Int32) (I : am_I) (n c : Nat), c ≠ a → c ≠ o → wrx a o f I n xs c = I c
  | [], _, _, _, _, _ => rfl
  | x :: xs, I, n, c, h1, h2 => by
    show wrx a o f _ (n + 1) xs c = _
    rw [wrx_ne a o f xs _ _ c h1 h2, am_u_ne h2, am_u_ne h1]
theorem wrx_o (a o f : Nat) (h : a ≠ o) : ∀ (xs : List Int32) (I : am_I) (n : Nat), I o f = nn n → wrx a o f I n xs o f = nn (n + xs.length) ∧ ∀ j, j ≠ f → wrx a o f I n xs o j = I o j
  | [], _, _, e => ⟨e, fun _ _ => rfl⟩
  | x :: xs, I, n, e => by
    obtain ⟨h1, h2⟩ := wrx_o a o f h xs (am_u (am_u I a n x) o f (nn (n + 1))) (n + 1) (by rw [am_u_at, if_pos ⟨rfl, rfl⟩])
    refine ⟨h1.trans (by rw [List.length_cons]; exact congrArg nn (by omega)), fun j hj => (h2 j hj).trans ?_⟩
    rw [am_u_at, if_neg (fun z => hj z.2), am_u_ne (fun z => h z.symm)]
theorem wrx_a (a o f : Nat) (h : a ≠ o) : ∀ (xs : List Int32) (I : am_I) (n j : Nat), wrx a o f I n xs a j = if n ≤ j ∧ j < n + xs.length then xs.getD (j - n) 0 else I a j
  | [], I, n, j => by
    rw [if_neg (fun z => by have := z.1; have := z.2; simp at *; omega)]
    rfl
  | x :: xs, I, n, j => by
    show wrx a o f _ (n + 1) xs a j = _
    rw [wrx_a a o f h xs, List.length_cons]
    by_cases h1 : n + 1 ≤ j ∧ j < n + 1 + xs.length
    · rw [if_pos h1, if_pos (by omega), show j - n = (j - (n + 1)) + 1 by omega]
      rfl
    · rw [if_neg h1, am_u_ne h, am_u_at]
      by_cases h2 : j = n
      · subst h2
        rw [if_pos ⟨rfl, rfl⟩, if_pos (by omega), Nat.sub_self]
        rfl
      · rw [if_neg (fun z => h2 z.2), if_neg (by omega)]
def w4c (x : Int32) : List Int32 := [(x >>> (24 &&& 31)).toInt8.toInt32, (x >>> (16 &&& 31)).toInt8.toInt32, (x >>> (8 &&& 31)).toInt8.toInt32, (x >>> (0 &&& 31)).toInt8.toInt32]
section LT
variable {d mc ms : Nat} {Γ : am_G} {I : am_I} {L : am_L} {m b : Nat}
theorem eX3_putByte (ob : am_ob Γ b 3) (g0 : Γ.2.2 b 0 = some (b + 1)) (ha : am_ar Γ (b + 1) 2 700 0) {n : Nat} (hn : I b 1 = nn n) (h7 : n < 700) (x : Int32) : am_E m_X3_putByte d 0 0 [.ref b, .int x] Γ I L (.inl none) (am_u (am_u I (b + 1) n x.toInt8.toInt32) b 1 (nn (n + 1))) L := by
  refine am_ofE rfl rfl rfl (Nat.le_of_ble_eq_true rfl) ?_
  refine bX3_putByte_0 ob (fun h => absurd h (by rw [hn]; show ¬ nn 700 ≤ nn n; rw [nn_le (by decide) (by omega)]; omega)) (fun _ => ?_)
  refine bX3_putByte_10 ob g0 ha (by rw [hn]; exact nn_in (by omega) h7) ?_
  refine bX3_putByte_31 ?_
  rw [am_u_ne (by omega), hn, nn_s1, nn_nat (by omega), by_c]
  exact ⟨rfl, rfl, rfl⟩
theorem eX3_putInt (ob : am_ob Γ b 3) (g0 : Γ.2.2 b 0 = some (b + 1)) (ha : am_ar Γ (b + 1) 2 700 0) {n : Nat} (hn : I b 1 = nn n) (h7 : n + 4 ≤ 700) (x : Int32) : am_E m_X3_putInt (d + 1) 0 0 [.ref b, .int x] Γ I L (.inl none) (wrx (b + 1) b 1 I n (w4c x)) L := by
  have at1 : ∀ (J : am_I) (k : Nat) (v : Int32), am_u (am_u J (b + 1) k v) b 1 (nn (k + 1)) b 1 = nn (k + 1) := fun J k v => by rw [am_u_at, if_pos ⟨rfl, rfl⟩]
  refine am_ofE rfl rfl rfl (Nat.le_of_ble_eq_true rfl) ?_
  refine bX3_putInt_0 ?_
  refine bX3_putInt_3 (fun h => absurd h (by decide)) (fun _ => ?_)
  refine bX3_putInt_7 ob (Nat.zero_le _) (Nat.zero_le _) (eX3_putByte ob g0 ha hn (by omega) _) ?_
  refine bX3_putInt_14 ?_
  refine bX3_putInt_3 (fun h => absurd h (by decide)) (fun _ => ?_)
  refine bX3_putInt_7 ob (Nat.zero_le _) (Nat.zero_le _) (eX3_putByte ob g0 ha (at1 _ _ _) (by omega) _) ?_
  refine bX3_putInt_14 ?_
  refine bX3_putInt_3 (fun h => absurd h (by decide)) (fun _ => ?_)
  refine bX3_putInt_7 ob (Nat.zero_le _) (Nat.zero_le _) (eX3_putByte ob g0 ha (at1 _ _ _) (by omega) _) ?_
  refine bX3_putInt_14 ?_
  refine bX3_putInt_3 (fun h => absurd h (by decide)) (fun _ => ?_)
  refine bX3_putInt_7 ob (Nat.zero_le _) (Nat.zero_le _) (eX3_putByte ob g0 ha (at1 _ _ _) (by omega) _) ?_
  refine bX3_putInt_14 ?_
  refine bX3_putInt_3 (fun _ => ?_) (fun h => absurd (by decide) h)
  refine bX3_putInt_20 ?_
  exact ⟨rfl, rfl, rfl⟩
theorem qX_truncateInput (hF : wF Γ) {n k : Nat} (hn : I 81 1 = nn n) (h7 : n ≤ 700) (hk : k ≤ n) : am_E m_X8_truncateInput (d + 1) 0 0 [.ref 0, .int (nn k)] Γ I L (.inl (some (.int (nn k)))) (am_u I 81 1 (nn k)) L := by
  obtain ⟨⟨o, f0, f1, f2, f3, f4, f5, f6, f7⟩, so, st, dr, ⟨ro, rr0, rr5, rr6, ra⟩, -⟩ := id hF
  refine am_ofE rfl rfl rfl (Nat.le_of_ble_eq_true rfl) ?_
  refine bX8_truncateInput_0 o f3 ro (Nat.zero_le _) (Nat.zero_le _) (eX8_requireRange_t (nn_neg_lt (by omega)) (by rw [hn, nn_le (by omega) (by omega)]; exact hk)) ?_
  refine bX8_truncateInput_12 o f3 ro ?_
  exact ⟨rfl, rfl, rfl⟩
theorem qX_append (hF : wF Γ) {n : Nat} (hn : I 81 1 = nn n) (h7 : n + 20 ≤ 700) (p0 p1 p2 p3 p4 : Int32) : am_E m_X8_append (d + 2) 0 0 [.ref 0, .int p0, .int p1, .int p2, .int p3, .int p4] Γ I L (.inl (some (.int (nn (n + 20))))) (wrx 82 81 1 I n (w4c p0 ++ (w4c p1 ++ (w4c p2 ++ (w4c p3 ++ w4c p4))))) L := by
  obtain ⟨⟨o, f0, f1, f2, f3, f4, f5, f6, f7⟩, so, st, dr, ⟨ro, rr0, rr5, rr6, ra⟩, -⟩ := id hF
  have h20 : nn n + 20 ≤ 700 := by
    show nn n + nn 20 ≤ nn 700
    rw [nn_add, nn_le (by omega) (by decide)]
    exact h7
  have l4 : ∀ x, (w4c x).length = 4 := fun _ => rfl
  have cA : ∀ (J : am_I) (k : Nat) (x : Int32), J 81 1 = nn k → wrx 82 81 1 J k (w4c x) 81 1 = nn (k + 4) := fun J k x h => (wrx_o 82 81 1 (by decide) (w4c x) J k h).1
  obtain ⟨I1, hI1⟩ : ∃ I1, I1 = wrx 82 81 1 (wrx 82 81 1 (wrx 82 81 1 (wrx 82 81 1 (wrx 82 81 1 I n (w4c p0)) (n + 4) (w4c p1)) (n + 4 + 4) (w4c p2)) (n + 4 + 4 + 4) (w4c p3)) (n + 4 + 4 + 4 + 4) (w4c p4) := ⟨_, rfl⟩
  have eI1 : I1 = wrx 82 81 1 I n (w4c p0 ++ (w4c p1 ++ (w4c p2 ++ (w4c p3 ++ w4c p4)))) := by
    rw [hI1, wrx_app, wrx_app, wrx_app, wrx_app, l4, l4, l4, l4]
  have o1 := wrx_o 82 81 1 (by decide) (w4c p0 ++ (w4c p1 ++ (w4c p2 ++ (w4c p3 ++ w4c p4)))) I n hn
  rw [← eI1] at o1 ⊢
  refine am_ofE rfl rfl rfl (Nat.le_of_ble_eq_true rfl) ?_
  refine bX8_append_0 o f3 ro (fun _ => ?_) (fun h => absurd (by rw [hn]; exact h20) h)
  refine bX8_append_18 o f3 ro (Nat.zero_le _) (Nat.zero_le _) (eX3_putInt ro rr0 ra hn (by omega) _) ?_
  refine bX8_append_26 o f3 ro (Nat.zero_le _) (Nat.zero_le _) (eX3_putInt ro rr0 ra (cA _ _ _ hn) (by omega) _) ?_
  refine bX8_append_34 o f3 ro (Nat.zero_le _) (Nat.zero_le _) (eX3_putInt ro rr0 ra (cA _ _ _ (cA _ _ _ hn)) (by omega) _) ?_
  refine bX8_append_42 o f3 ro (Nat.zero_le _) (Nat.zero_le _) (eX3_putInt ro rr0 ra (cA _ _ _ (cA _ _ _ (cA _ _ _ hn))) (by omega) _) ?_
  refine bX8_append_51 o f3 ro (Nat.zero_le _) (Nat.zero_le _) (eX3_putInt ro rr0 ra (cA _ _ _ (cA _ _ _ (cA _ _ _ (cA _ _ _ hn)))) (by omega) _) ?_
  refine bX8_append_60 o f3 ro ?_
  rw [show wrx (81 + 1) 81 1 _ (n + 4 + 4 + 4 + 4) (w4c p4) = I1 from hI1.symm]
  exact am_R_e o1.1 rfl rfl
end LT
/-! texts: lists of letters -/
def tb (t : List Nat) (k : Nat) : Nat := t.getD k 0
def asc (t : List Nat) : Prop := ∀ c ∈ t, c < 128
theorem tb_asc {t : List Nat} (h : asc t) (k : Nat) : tb t k < 128 := by
  unfold tb
  rw [List.getD_eq_getElem?_getD]
  cases hk : t[k]? with
  | none => exact Nat.zero_lt_succ _
  | some c => exact h c (List.mem_of_getElem? hk)
theorem tb_out {t : List Nat} {k : Nat} (h : t.length ≤ k) : tb t k = 0 := by
  unfold tb
  rw [List.getD_eq_getElem?_getD, List.getElem?_eq_none h]
  rfl
def wd4 (t : List Nat) (p : Nat) : Nat := ((tb t p * 256 + tb t (p + 1)) * 256 + tb t (p + 2)) * 256 + tb t (p + 3)
theorem nn_b8 (a b : Nat) : (nn (a * 256 + b)).toInt8 = (nn b).toInt8 := by
  have e : ∀ y : Nat, (nn y).toInt8 = (nn (y % 256)).toInt8 := fun y => by
    have h : y &&& 255 = y % 256 := Nat.and_two_pow_sub_one_eq_mod y 8
    rw [← h, ← nn_and, Int32.toInt8_and, show (nn 255).toInt8 = -1 from rfl, Int8.and_neg_one]
  rw [e, e b, show (a * 256 + b) % 256 = b % 256 by omega]
theorem wd4_lt {t : List Nat} (h : asc t) (p : Nat) : wd4 t p < 2147483648 := by
  have h0 := tb_asc h p
  have h1 := tb_asc h (p + 1)
  have h2 := tb_asc h (p + 2)
  have h3 := tb_asc h (p + 3)
  unfold wd4
  omega
def by1 (c : Nat) : Int32 := (nn c).toInt8.toInt32
theorem w4c_wd {t : List Nat} (h : asc t) (p : Nat) : w4c (nn (wd4 t p)) = [by1 (tb t p), by1 (tb t (p + 1)), by1 (tb t (p + 2)), by1 (tb t (p + 3))] := by
  have h0 := tb_asc h p
  have h1 := tb_asc h (p + 1)
  have h2 := tb_asc h (p + 2)
  have h3 := tb_asc h (p + 3)
  have hl := wd4_lt h p
  have e0 : wd4 t p >>> 24 = tb t p := by
    rw [Nat.shiftRight_eq_div_pow]
    unfold wd4
    omega
  have e1 : wd4 t p >>> 16 = tb t p * 256 + tb t (p + 1) := by
    rw [Nat.shiftRight_eq_div_pow]
    unfold wd4
    omega
  have e2 : wd4 t p >>> 8 = (tb t p * 256 + tb t (p + 1)) * 256 + tb t (p + 2) := by
    rw [Nat.shiftRight_eq_div_pow]
    unfold wd4
    omega
  have e3 : wd4 t p >>> 0 = ((tb t p * 256 + tb t (p + 1)) * 256 + tb t (p + 2)) * 256 + tb t (p + 3) := rfl
  have s0 : nn (wd4 t p) >>> (24 &&& 31) = nn (wd4 t p >>> 24) := nn_shr (t := 24) hl (by decide)
  have s1 : nn (wd4 t p) >>> (16 &&& 31) = nn (wd4 t p >>> 16) := nn_shr (t := 16) hl (by decide)
  have s2 : nn (wd4 t p) >>> (8 &&& 31) = nn (wd4 t p >>> 8) := nn_shr (t := 8) hl (by decide)
  have s3 : nn (wd4 t p) >>> (0 &&& 31) = nn (wd4 t p >>> 0) := nn_shr (t := 0) hl (by decide)
  unfold w4c
  rw [s0, s1, s2, s3, e0, e1, e2, e3, nn_b8, nn_b8, nn_b8]
  rfl
/-- the String in the cell c holds the letters t -/
def strS (Γ : am_G) (I : am_I) (c : Nat) (t : List Nat) : Prop := ∃ v, 450 ≤ c ∧ 450 ≤ v ∧ am_ob Γ c 9 ∧ Γ.2.2 c 0 = some v ∧ am_ar Γ v 2 t.length 0 ∧ I c 1 = 0 ∧ ∀ j, j < t.length → I v j = nn (tb t j)
theorem strS.fr {Γ : am_G} {I I' : am_I} {c : Nat} {t : List Nat} (h : strS Γ I c t) (e : ∀ k, 450 ≤ k → I' k = I k) : strS Γ I' c t := by
  obtain ⟨v, h1, h2, h3, h4, h5, h6, h7⟩ := h
  exact ⟨v, h1, h2, h3, h4, h5, by rw [e c h1]; exact h6, fun j hj => by rw [e v h2]; exact h7 j hj⟩
section LS
variable {d : Nat} {Γ : am_G} {I : am_I} {L : am_L} {c : Nat} {t : List Nat}
theorem eS_coder (o : am_ob Γ c 9) (h : I c 1 = 0) : am_E m_J0_coder_7d493 d 0 0 [.ref c] Γ I L (.inl (some (.int 0))) I L := by
  refine am_ofE rfl rfl rfl (Nat.le_of_ble_eq_true rfl) ?_
  refine aw_getsC dJ0_coder_7d493_0 fJ0_compact ?_
  refine aw_if_eq dJ0_coder_7d493_3 rfl (fun h => absurd h (by decide)) (fun _ => ?_)
  refine aw_aload_n dJ0_coder_7d493_6 rfl ?_
  refine aw_getI dJ0_coder_7d493_7 f_J0_15 o rfl ?_
  rw [h]
  refine aw_goto dJ0_coder_7d493_10 rfl ?_
  exact aw_zret dJ0_coder_7d493_14 rfl rfl ⟨rfl, rfl, rfl⟩
theorem eS_isLatin1 (o : am_ob Γ c 9) (h : I c 1 = 0) : am_E m_J0_isLatin1_aae02 d 0 0 [.ref c] Γ I L (.inl (some (.int 1))) I L := by
  refine am_ofE rfl rfl rfl (Nat.le_of_ble_eq_true rfl) ?_
  refine aw_getsC dJ0_isLatin1_aae02_0 fJ0_compact ?_
  refine aw_if_eq dJ0_isLatin1_aae02_3 rfl (fun h => absurd h (by decide)) (fun _ => ?_)
  refine aw_aload_n dJ0_isLatin1_aae02_6 rfl ?_
  refine aw_getI dJ0_isLatin1_aae02_7 f_J0_15 o rfl ?_
  rw [h]
  refine aw_if_ne dJ0_isLatin1_aae02_10 rfl (fun h => absurd rfl h) (fun _ => ?_)
  refine aw_iconst dJ0_isLatin1_aae02_13 ci_1 ?_
  refine aw_goto dJ0_isLatin1_aae02_14 rfl ?_
  exact aw_zret dJ0_isLatin1_aae02_18 rfl rfl ⟨rfl, rfl, rfl⟩
theorem eS_length (h : strS Γ I c t) (hN : t.length ≤ 600) : am_E m_J0_length_8abf5 (d + 1) 0 0 [.ref c] Γ I L (.inl (some (.int (nn t.length)))) I L := by
  obtain ⟨v, h1, h2, o, h4, h5, h6, h7⟩ := h
  refine am_ofE rfl rfl rfl (Nat.le_of_ble_eq_true rfl) ?_
  refine aw_aload_n dJ0_length_8abf5_0 rfl ?_
  refine aw_getR dJ0_length_8abf5_1 f_J0_9 o rfl h4 ?_
  refine aw_alen dJ0_length_8abf5_4 h5 (Or.inr (Or.inl rfl)) (v := nn t.length) rfl ?_
  refine aw_aload_n dJ0_length_8abf5_5 rfl ?_
  refine aw_askV (as := []) (rst := [.int (nn t.length)]) k_J0_coder_7d493 l_J0_335 i_J0_coder_7d493 s_J0_coder_7d493 rfl o dJ0_length_8abf5_6 rfl (Nat.le_of_ble_eq_true rfl) (Nat.zero_le _) (Nat.zero_le _) (eS_coder o h6) rfl rfl ?_
  refine aw_ishr dJ0_length_8abf5_9 ?_
  exact aw_iret dJ0_length_8abf5_10 rfl (am_R_e (by rw [nl_0, nn_shr (by omega) (by decide)]; rfl) rfl rfl)
theorem chr_ok : ∀ k, k < 128 → ((nn k &&& 255).toUInt32 % 65536).toInt32 = nn k := by decide
theorem eS1_charAt {v n j k : Nat} (a : am_ar Γ v 2 n 0) (hn : n ≤ 600) (hj : j < n) (hk : I v j = nn k) (k1 : k < 128) : am_E m_J1_charAt_3b067 (d + 2) 0 0 [.ref v, .int (nn j)] Γ I L (.inl (some (.int (nn k)))) I L := by
  refine am_ofE rfl rfl rfl (Nat.le_of_ble_eq_true rfl) ?_
  refine aw_iload_n dJ1_charAt_3b067_0 rfl ?_
  refine aw_aload_n dJ1_charAt_3b067_1 rfl ?_
  refine aw_alen dJ1_charAt_3b067_2 a (Or.inr (Or.inl rfl)) (v := nn n) rfl ?_
  refine aw_askS (as := [.int (nn j), .int (nn n)]) (rst := []) k_J0_checkIndex_df160 l_J1_9 t_J0_checkIndex_df160 dJ1_charAt_3b067_3 rfl (Nat.le_of_ble_eq_true rfl) (Nat.zero_le _) (Nat.zero_le _) (eJ0_checkIndex hj (by omega)) rfl rfl ?_
  refine aw_aload_n dJ1_charAt_3b067_6 rfl ?_
  refine aw_iload_n dJ1_charAt_3b067_7 rfl ?_
  refine aw_bald dJ1_charAt_3b067_8 a (nn_in (by omega) hj) ?_
  refine aw_sipush dJ1_charAt_3b067_9 cs_255 ?_
  refine aw_iand dJ1_charAt_3b067_12 ?_
  refine aw_i2c dJ1_charAt_3b067_13 ?_
  rw [nn_nat (by omega), hk, chr_ok k k1]
  refine aw_zret dJ1_charAt_3b067_14 rfl ?_ ⟨rfl, rfl, rfl⟩
  rw [← chr_ok k k1]
  exact pk_nc _
theorem eS_charAt (h : strS Γ I c t) (ha : asc t) (hN : t.length ≤ 600) {j : Nat} (hj : j < t.length) : am_E m_J0_charAt_5068e (d + 3) 0 0 [.ref c, .int (nn j)] Γ I L (.inl (some (.int (nn (tb t j))))) I L := by
  obtain ⟨v, h1, h2, o, h4, h5, h6, h7⟩ := h
  refine am_ofE rfl rfl rfl (Nat.le_of_ble_eq_true rfl) ?_
  refine aw_aload_n dJ0_charAt_5068e_0 rfl ?_
  refine aw_askV (as := []) (rst := []) k_J0_isLatin1_aae02 l_J0_492 i_J0_isLatin1_aae02 s_J0_isLatin1_aae02 rfl o dJ0_charAt_5068e_1 rfl (Nat.le_of_ble_eq_true rfl) (Nat.zero_le _) (Nat.zero_le _) (eS_isLatin1 o h6) rfl rfl ?_
  refine aw_if_eq dJ0_charAt_5068e_4 rfl (fun h => absurd h (by decide)) (fun _ => ?_)
  refine aw_aload_n dJ0_charAt_5068e_7 rfl ?_
  refine aw_getR dJ0_charAt_5068e_8 f_J0_9 o rfl h4 ?_
  refine aw_iload_n dJ0_charAt_5068e_11 rfl ?_
  refine aw_askS (as := [.ref v, .int (nn j)]) (rst := []) k_J1_charAt_3b067 l_J0_495 t_J1_charAt_3b067 dJ0_charAt_5068e_12 rfl (Nat.le_of_ble_eq_true rfl) (Nat.zero_le _) (Nat.zero_le _) (eS1_charAt h5 hN hj (h7 j hj) (tb_asc ha j)) rfl rfl ?_
  refine aw_zret dJ0_charAt_5068e_15 rfl ?_ ⟨rfl, rfl, rfl⟩
  rw [← chr_ok _ (tb_asc ha j)]
  exact pk_nc _
theorem eL_word (h : strS Γ I c t) (ha : asc t) (hN : t.length ≤ 600) {p : Nat} (hp : p ≤ 1000) : am_E m_L_word (d + 4) 0 0 [.ref c, .int (nn p)] Γ I L (.inl (some (.int (nn (wd4 t p))))) I L := by
  have o : am_ob Γ c 9 := h.choose_spec.2.2.1
  have ep : nn p + 4 = nn (p + 4) := nn_add p 4
  have step : ∀ V k, V < 8388608 → p ≤ k → k < p + 4 → am_W m_L_word (d + 4) 0 0 false 0 0 4 [(0, .ref c), (1, .int (nn p)), (2, .int (nn (V * 256 + tb t k))), (3, .int (nn (k + 1)))] [] Γ I L (am_R (.inl (some (.int (nn (wd4 t p))))) I L) → am_W m_L_word (d + 4) 0 0 false 0 0 4 [(0, .ref c), (1, .int (nn p)), (2, .int (nn V)), (3, .int (nn k))] [] Γ I L (am_R (.inl (some (.int (nn (wd4 t p))))) I L) := by
    intro V k hV h0 hk kk
    have hb := tb_asc ha k
    have es : nn V <<< (8 &&& 31) = nn (V * 256) := nn_shl (t := 8) (by decide)
    have eo : nn (V * 256) ||| nn (tb t k) = nn (V * 256 + tb t k) := by
      rw [nn_or]
      have := Nat.shiftLeft_add_eq_or_of_lt (i := 8) (b := tb t k) (show tb t k < 2 ^ 8 by omega) V
      rw [Nat.shiftLeft_eq] at this
      exact congrArg nn this.symm
    refine bL_word_4 (fun z => absurd z (by rw [ep, nn_le (by omega) (by omega)]; omega)) (fun _ => ?_)
    refine bL_word_11 o (Nat.zero_le _) (Nat.zero_le _) (eS_length (d := d + 2) h hN) ?_
    rw [es]
    refine bL_word_20 (fun z => ?_) (fun z => ?_)
    · have hz : t.length ≤ k := (nn_le (by omega) (by omega)).mp z
      refine bL_word_31 ?_
      refine bL_word_32 ?_
      rw [tb_out hz] at kk eo
      rw [show (0 : Int32) = nn 0 from rfl, eo, nn_s1]
      exact kk
    · have hz : k < t.length := by
        rcases Nat.lt_or_ge k t.length with q | q
        · exact q
        · exact absurd ((nn_le (by omega) (by omega)).mpr q) z
      refine bL_word_23 o (Nat.zero_le _) (Nat.zero_le _) (eS_charAt (d := d) h ha hN hz) ?_
      refine bL_word_28 ?_
      refine bL_word_32 ?_
      rw [eo, nn_s1]
      exact kk
  have b0 := tb_asc ha p
  have b1 := tb_asc ha (p + 1)
  have b2 := tb_asc ha (p + 2)
  refine am_ofE rfl rfl rfl (Nat.le_of_ble_eq_true rfl) ?_
  refine bL_word_0 ?_
  refine step 0 p (by omega) (by omega) (by omega) ?_
  refine step _ (p + 1) (by omega) (by omega) (by omega) ?_
  refine step _ (p + 2) (by omega) (by omega) (by omega) ?_
  refine step _ (p + 3) (by omega) (by omega) (by omega) ?_
  refine bL_word_4 (fun _ => ?_) (fun z => absurd (by rw [ep]; exact Int32.le_refl _) z)
  refine bL_word_40 ?_
  exact am_R_e (by unfold wd4; rw [Nat.zero_mul, Nat.zero_add]) rfl rfl
end LS
