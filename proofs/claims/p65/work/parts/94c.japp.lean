/-! THE JDK: what a StringBuilder takes: a letter, a number below 100, a text -/
theorem tb_l {t s : List Nat} {j : Nat} (h : j < t.length) : tb (t ++ s) j = tb t j := by
  unfold tb
  rw [List.getD_eq_getElem?_getD, List.getD_eq_getElem?_getD, List.getElem?_append_left h]
theorem tb_r {t s : List Nat} {j : Nat} (h : t.length ≤ j) : tb (t ++ s) j = tb s (j - t.length) := by
  unfold tb
  rw [List.getD_eq_getElem?_getD, List.getD_eq_getElem?_getD, List.getElem?_append_right h]
theorem asc_app {t s : List Nat} (h : asc t) (h2 : asc s) : asc (t ++ s) := fun c hc => by
  rcases List.mem_append.mp hc with e | e
  · exact h c e
  · exact h2 c e
/-- the digits of a number below 100 -/
def dig (c : Nat) : List Nat := if c < 10 then [48 + c] else [48 + c / 10, 48 + c % 10]
theorem dig_asc {c : Nat} (h : c < 100) : asc (dig c) := fun x hx => by
  unfold dig at hx
  split at hx
  · simp only [List.mem_cons, List.mem_nil_iff, or_false] at hx; omega
  · simp only [List.mem_cons, List.mem_nil_iff, or_false] at hx; omega
theorem dig_len (c : Nat) : (dig c).length = if c < 10 then 1 else 2 := by
  unfold dig
  split <;> rfl
/-- the letters of a text that stands in the code -/
def tl (i : Nat) : List Nat := (am_sb.getD i []).map (fun x => x.toNatClampNeg)
theorem tl_all : ∀ i, i < am_sn → tlen i = (tl i).length ∧ (List.range (tlen i)).all (fun j => decide (tbyte i j = nn (tb (tl i) j) ∧ tb (tl i) j < 128)) = true := by decide +kernel
theorem tl_len {i : Nat} (h : i < am_sn) : tlen i = (tl i).length := (tl_all i h).1
theorem tl_at {i j : Nat} (h : i < am_sn) (hj : j < tlen i) : tbyte i j = nn (tb (tl i) j) ∧ tb (tl i) j < 128 := of_decide_eq_true (List.all_eq_true.mp (tl_all i h).2 j (List.mem_range.mpr hj))
theorem tl_asc {i : Nat} (h : i < am_sn) : asc (tl i) := fun c hc => by
  obtain ⟨j, hj⟩ := List.getElem?_of_mem hc
  have hl : j < (tl i).length := (List.getElem?_eq_some_iff.mp hj).1
  have := (tl_at h (by rw [tl_len h]; exact hl)).2
  unfold tb at this
  rw [List.getD_eq_getElem?_getD, hj] at this
  exact this
theorem neg_a : ∀ c, c < 10 → ¬ (-(nn c)) ≤ -10 := by decide
theorem neg_b : ∀ c, c < 100 → 10 ≤ c → (-(nn c)) ≤ -10 := by decide
theorem neg_c : ∀ c, c < 100 → ¬ (-(nn c)) ≤ -100 := by decide
theorem neg_d : ∀ c, c < 10 → (-9 : Int32) ≤ -(nn c) := by decide
theorem neg_e : ∀ c, c < 100 → 10 ≤ c → ¬ (-9 : Int32) ≤ -(nn c) := by decide
theorem neg_f : ∀ c, c < 100 → (-100 : Int32) < -(nn c) := by decide
theorem nn_p1 {p : Nat} (h : 0 < p) : nn p + Int32.ofInt (-1) = nn (p - 1) := by
  rw [show Int32.ofInt (-1) = -(nn 1) from by decide, ← Int32.sub_eq_add_neg, nn_sub h]
theorem cpd_in {f g : Nat → Int32} {dp n j : Nat} (h : dp ≤ j) (h2 : j < dp + n) : va_cpy f g 0 dp n j = f (j - dp) := by
  unfold va_cpy
  rw [if_pos ⟨h, h2⟩]
  congr 1
  omega
theorem cpd_out {f g : Nat → Int32} {dp n j : Nat} (h : ¬ (dp ≤ j ∧ j < dp + n)) : va_cpy f g 0 dp n j = g j := by
  unfold va_cpy
  rw [if_neg h]
section JP
variable {d N : Nat} {Γ : am_G} {I : am_I} {L : am_L} {b q : Nat} {t : List Nat}
/-- what an append says -/
def apQ (N b : Nat) (t : List Nat) (Γ : am_G) (I : am_I) (L : am_L) : am_Q := fun o Γ' I' L' => o = .inl (some (.ref b)) ∧ kpN N Γ Γ' I I' L L' ∧ sbC N Γ' I' b t.length t
theorem eB_appendC (h : sbC N Γ I b t.length t) (hN : N ≤ Γ.1) (ht : t.length < 600) {c : Nat} (hc : c < 128) : am_C m_J5_append_3fe6f (d + 3) 1 1300 true [.ref b, .int (nn c)] Γ I L (apQ N b (t ++ [c]) Γ I L) := by
  obtain ⟨v0, m0, g1, g2, g3, o0, g4, a0, g5, g6, g7, g8, g9, g10, g11, g12⟩ := id h
  refine am_of rfl rfl rfl (Nat.le_of_ble_eq_true rfl) ?_
  refine aw_aload_n dJ5_append_3fe6f_0 rfl ?_
  refine aw_aload_n dJ5_append_3fe6f_1 rfl ?_
  refine aw_getI dJ5_append_3fe6f_2 f_J5_79 o0 rfl ?_
  rw [g9]
  refine aw_iconst dJ5_append_3fe6f_5 ci_1 ?_
  refine aw_iadd dJ5_append_3fe6f_6 ?_
  rw [nn_s1]
  refine aw_grB (ci := 10) (mc' := 1) (ms' := 1300) (as := [.int (nn (t.length + 1))]) (rst := []) k_J5_ensureCapacityInternal_d00df l_J5_100 i_J5_ensureCapacityInternal_d00df sj_ensureCapacityInternal rfl rfl o0 dJ5_append_3fe6f_7 rfl (Nat.le_of_ble_eq_true rfl) (Nat.le_refl _) (Nat.le_refl _) (eB_ensure h hN (show t.length + 1 ≤ 640 by omega)) rfl (okl_c o0.1 (okl_c trivial okl_nil)) oks_nil (fun _ _ _ _ z => nomatch z.1) ?_
  rintro w G J M ⟨e1, kp, v, m, h1, h2, h3, o, h4, a, h5, h6, h7, h8, h9, h10, h11, h12⟩
  cases e1
  refine aw_aload_n dJ5_append_3fe6f_10 rfl ?_
  refine aw_askB (ci := 10) (as := []) (rst := []) k_J5_isLatin1_aae02 l_J5_83 i_J5_isLatin1_aae02 sl_isLatin1 rfl rfl o dJ5_append_3fe6f_11 rfl (Nat.le_of_ble_eq_true rfl) (Nat.zero_le _) (Nat.zero_le _) (eB_isLatin1 o h8) rfl rfl ?_
  refine aw_if_eq dJ5_append_3fe6f_14 rfl (fun z => absurd z (by decide)) (fun _ => ?_)
  refine aw_iload_n dJ5_append_3fe6f_17 rfl ?_
  refine aw_askS (as := [.int (nn c)]) (rst := []) k_J1_canEncode_fc78d l_J5_191 t_J1_canEncode_fc78d dJ5_append_3fe6f_18 rfl (Nat.le_of_ble_eq_true rfl) (Nat.zero_le _) (Nat.zero_le _) (eJ1_canEncode hc) rfl rfl ?_
  refine aw_if_eq dJ5_append_3fe6f_21 rfl (fun z => absurd z (by decide)) (fun _ => ?_)
  refine aw_aload_n dJ5_append_3fe6f_24 rfl ?_
  refine aw_getR dJ5_append_3fe6f_25 f_J5_15 o rfl h4 ?_
  refine aw_aload_n dJ5_append_3fe6f_28 rfl ?_
  refine aw_dup dJ5_append_3fe6f_29 rfl ?_
  refine aw_getI dJ5_append_3fe6f_30 f_J5_79 o rfl ?_
  rw [h9]
  refine aw_dupx dJ5_append_3fe6f_33 rfl rfl ?_
  refine aw_iconst dJ5_append_3fe6f_34 ci_1 ?_
  refine aw_iadd dJ5_append_3fe6f_35 ?_
  rw [nn_s1]
  refine aw_putI dJ5_append_3fe6f_36 p_J5_79 o rfl ?_
  refine aw_iload_n dJ5_append_3fe6f_39 rfl ?_
  refine aw_i2b dJ5_append_3fe6f_40 ?_
  refine aw_bast dJ5_append_3fe6f_41 a (nn_in (by omega) (by omega)) ?_
  rw [nn_nat (by omega), narb_n hc]
  refine aw_goto dJ5_append_3fe6f_42 rfl ?_
  refine aw_aload_n dJ5_append_3fe6f_75 rfl ?_
  have tl : (t ++ [c]).length = t.length + 1 := by rw [List.length_append]; rfl
  refine aw_aret dJ5_append_3fe6f_76 rfl (Or.inl ⟨_, rfl⟩) ⟨rfl, kp.tr ⟨Nat.le_refl _, fun k hk => ⟨rfl, rfl, ?_, rfl⟩⟩, v, m, h1, h2, h3, o, h4, a, by omega, h6, by omega, ?_, ?_, asc_app h10 (fun x hx => by rw [List.mem_singleton.mp hx]; exact hc), fun j hj => ?_, fun j hj => ?_⟩
  · rw [am_u_ne (by omega), am_u_ne (by omega)]
  · rw [am_u_ne (Ne.symm h3), am_u_at, if_neg (fun z => absurd z.2 (by decide))]; exact h8
  · rw [am_u_ne (Ne.symm h3), am_u_at, if_pos ⟨rfl, rfl⟩, tl]
  · rw [am_u_at]
    by_cases e : j = t.length
    · subst e
      rw [if_pos ⟨rfl, rfl⟩, tb_r (Nat.le_refl _), Nat.sub_self]
      rfl
    · rw [if_neg (fun z => e z.2), am_u_ne h3, tb_l (by omega)]
      exact h11 j (by omega)
  · rw [am_u_at]
    by_cases e : j = t.length
    · rw [if_pos ⟨rfl, e⟩]; exact fitb_n c hc
    · rw [if_neg (fun z => e z.2), am_u_ne h3]; exact h12 j hj
theorem eB4_appendC (h : sbC N Γ I b t.length t) (hN : N ≤ Γ.1) (ht : t.length < 600) {c : Nat} (hc : c < 128) : am_C m_J4_append_cf468 (d + 4) 1 1300 true [.ref b, .int (nn c)] Γ I L (apQ N b (t ++ [c]) Γ I L) := by
  have o0 : am_ob Γ b 10 := h.choose_spec.choose_spec.2.2.2.1
  refine am_of rfl rfl rfl (Nat.le_of_ble_eq_true rfl) ?_
  refine aw_aload_n dJ4_append_cf468_0 rfl ?_
  refine aw_iload_n dJ4_append_cf468_1 rfl ?_
  refine aw_grSU (ci := 10) (mc' := 1) (ms' := 1300) (as := [.int (nn c)]) (rst := []) k_J5_append_3fe6f l_J4_50 sm_appC su_sb i_J5_append_3fe6f (by decide) rfl o0 dJ4_append_cf468_2 rfl (Nat.le_of_ble_eq_true rfl) (Nat.le_refl _) (Nat.le_refl _) (eB_appendC h hN ht hc) rfl (okl_c o0.1 (okl_c trivial okl_nil)) oks_nil (fun _ _ _ _ z => nomatch z.1) ?_
  rintro w G J M ⟨e1, kp, h2⟩
  cases e1
  refine aw_pop dJ4_append_cf468_5 rfl ?_
  refine aw_aload_n dJ4_append_cf468_6 rfl ?_
  exact aw_aret dJ4_append_cf468_7 rfl (Or.inl ⟨_, rfl⟩) ⟨rfl, kp, h2⟩
theorem eJ6_stringSize {c : Nat} (hc : c < 100) : am_E m_J6_stringSize_0f7a4 d 0 0 [.int (nn c)] Γ I L (.inl (some (.int (nn (dig c).length)))) I L := by
  rw [dig_len]
  have two : ¬ c < 10 → am_W m_J6_stringSize_0f7a4 d 0 0 false 0 0 16 [(0, .int (-(nn c))), (1, .int 0), (2, .int (-100)), (3, .int 2)] [] Γ I L (am_R (.inl (some (.int (nn (if c < 10 then 1 else 2))))) I L) := by
    intro h10
    refine aw_iload_n dJ6_stringSize_0f7a4_16 rfl ?_
    refine aw_bipush (v := 10) dJ6_stringSize_0f7a4_17 (by decide) ?_
    refine aw_icmp_ge dJ6_stringSize_0f7a4_19 rfl (fun z => absurd z (by decide)) (fun _ => ?_)
    refine aw_iload_n dJ6_stringSize_0f7a4_22 rfl ?_
    refine aw_iload_n dJ6_stringSize_0f7a4_23 rfl ?_
    refine aw_icmp_le dJ6_stringSize_0f7a4_24 rfl (fun z => absurd z (neg_c c hc)) (fun _ => ?_)
    refine aw_iload_n dJ6_stringSize_0f7a4_27 rfl ?_
    refine aw_iload_n dJ6_stringSize_0f7a4_28 rfl ?_
    refine aw_iadd dJ6_stringSize_0f7a4_29 ?_
    exact aw_iret dJ6_stringSize_0f7a4_30 rfl (am_R_e (by rw [if_neg h10]; rfl) rfl rfl)
  have one : am_W m_J6_stringSize_0f7a4 d 0 0 false 0 0 16 [(0, .int (-(nn c))), (1, .int 0), (2, .int (-10)), (3, .int 1)] [] Γ I L (am_R (.inl (some (.int (nn (if c < 10 then 1 else 2))))) I L) := by
    refine aw_iload_n dJ6_stringSize_0f7a4_16 rfl ?_
    refine aw_bipush (v := 10) dJ6_stringSize_0f7a4_17 (by decide) ?_
    refine aw_icmp_ge dJ6_stringSize_0f7a4_19 rfl (fun z => absurd z (by decide)) (fun _ => ?_)
    refine aw_iload_n dJ6_stringSize_0f7a4_22 rfl ?_
    refine aw_iload_n dJ6_stringSize_0f7a4_23 rfl ?_
    refine aw_icmp_le dJ6_stringSize_0f7a4_24 rfl (fun z => ?_) (fun z => ?_)
    · have h10 : ¬ c < 10 := fun y => neg_a c y z
      refine aw_bipush (v := 10) dJ6_stringSize_0f7a4_31 (by decide) ?_
      refine aw_iload_n dJ6_stringSize_0f7a4_33 rfl ?_
      refine aw_imul dJ6_stringSize_0f7a4_34 ?_
      rw [show (10 : Int32) * -10 = -100 from by decide]
      refine aw_istore_n (ls' := [(0, .int (-(nn c))), (1, .int 0), (2, .int (-100)), (3, .int 1)]) dJ6_stringSize_0f7a4_35 (Nat.le_of_ble_eq_true rfl) rfl ?_
      refine aw_iinc (v := 2) (ls' := [(0, .int (-(nn c))), (1, .int 0), (2, .int (-100)), (3, .int 2)]) dJ6_stringSize_0f7a4_36 rfl (by decide) (Nat.le_of_ble_eq_true rfl) rfl ?_
      exact aw_goto dJ6_stringSize_0f7a4_39 rfl (two h10)
    · have h10 : c < 10 := by
        rcases Nat.lt_or_ge c 10 with y | y
        · exact y
        · exact absurd (neg_b c hc y) z
      refine aw_iload_n dJ6_stringSize_0f7a4_27 rfl ?_
      refine aw_iload_n dJ6_stringSize_0f7a4_28 rfl ?_
      refine aw_iadd dJ6_stringSize_0f7a4_29 ?_
      exact aw_iret dJ6_stringSize_0f7a4_30 rfl (am_R_e (by rw [if_pos h10]; rfl) rfl rfl)
  refine am_ofE rfl rfl rfl (Nat.le_of_ble_eq_true rfl) ?_
  refine aw_iconst dJ6_stringSize_0f7a4_0 ci_1 ?_
  refine aw_istore_n (ls' := [(0, .int (nn c)), (1, .int 1)]) dJ6_stringSize_0f7a4_1 (Nat.le_of_ble_eq_true rfl) rfl ?_
  refine aw_iload_n dJ6_stringSize_0f7a4_2 rfl ?_
  refine aw_if_lt dJ6_stringSize_0f7a4_3 rfl (fun z => absurd z (nn_neg_lt (by omega))) (fun _ => ?_)
  refine aw_iconst dJ6_stringSize_0f7a4_6 ci_0 ?_
  refine aw_istore_n (ls' := [(0, .int (nn c)), (1, .int 0)]) dJ6_stringSize_0f7a4_7 (Nat.le_of_ble_eq_true rfl) rfl ?_
  refine aw_iload_n dJ6_stringSize_0f7a4_8 rfl ?_
  refine aw_ineg dJ6_stringSize_0f7a4_9 ?_
  refine aw_istore_n (ls' := [(0, .int (-(nn c))), (1, .int 0)]) dJ6_stringSize_0f7a4_10 (Nat.le_of_ble_eq_true rfl) rfl ?_
  refine aw_bipush (v := -10) dJ6_stringSize_0f7a4_11 (by decide) ?_
  refine aw_istore_n (ls' := [(0, .int (-(nn c))), (1, .int 0), (2, .int (-10))]) dJ6_stringSize_0f7a4_13 (Nat.le_of_ble_eq_true rfl) rfl ?_
  refine aw_iconst dJ6_stringSize_0f7a4_14 ci_1 ?_
  refine aw_istore_n (ls' := [(0, .int (-(nn c))), (1, .int 0), (2, .int (-10)), (3, .int 1)]) dJ6_stringSize_0f7a4_15 (Nat.le_of_ble_eq_true rfl) rfl ?_
  exact one
theorem eJ6_getChars {c n v m : Nat} (hc : c < 100) (a : am_ar Γ v 2 m 0) (hn : n + (dig c).length ≤ m) (hm : m ≤ 1300) : ∃ I', am_E m_J6_getChars_ba4f3 d 0 0 [.int (nn c), .int (nn (n + (dig c).length)), .ref v] Γ I L (.inl (some (.int (nn n)))) I' L ∧ (∀ k, k ≠ v → I' k = I k) ∧ (∀ j, (j < n ∨ n + (dig c).length ≤ j) → I' v j = I v j) ∧ ∀ i, i < (dig c).length → I' v (n + i) = nn (tb (dig c) i) := by
  have head : ∀ I', am_W m_J6_getChars_ba4f3 d 0 0 false 0 0 72 [(0, .int (-(nn c))), (1, .int (nn (n + (dig c).length))), (2, .ref v), (5, .int (nn (n + (dig c).length))), (6, .int 0)] [] Γ I L (am_R (.inl (some (.int (nn n)))) I' L) → am_E m_J6_getChars_ba4f3 d 0 0 [.int (nn c), .int (nn (n + (dig c).length)), .ref v] Γ I L (.inl (some (.int (nn n)))) I' L := by
    intro I' kk
    refine am_ofE rfl rfl rfl (Nat.le_of_ble_eq_true rfl) ?_
    refine aw_iload_n dJ6_getChars_ba4f3_0 rfl ?_
    refine aw_istore dJ6_getChars_ba4f3_1 (Nat.le_of_ble_eq_true rfl) rfl ?_
    refine aw_iload_n dJ6_getChars_ba4f3_3 rfl ?_
    refine aw_if_ge dJ6_getChars_ba4f3_4 rfl (fun _ => ?_) (fun z => absurd (nn_neg_le (by omega)) z)
    refine aw_iconst dJ6_getChars_ba4f3_11 ci_0 ?_
    refine aw_istore dJ6_getChars_ba4f3_12 (Nat.le_of_ble_eq_true rfl) rfl ?_
    refine aw_iload dJ6_getChars_ba4f3_14 rfl ?_
    refine aw_if_ne dJ6_getChars_ba4f3_16 rfl (fun z => absurd rfl z) (fun _ => ?_)
    refine aw_iload_n dJ6_getChars_ba4f3_19 rfl ?_
    refine aw_ineg dJ6_getChars_ba4f3_20 ?_
    refine aw_istore_n dJ6_getChars_ba4f3_21 (Nat.le_of_ble_eq_true rfl) rfl ?_
    refine aw_iload_n dJ6_getChars_ba4f3_22 rfl ?_
    refine aw_bipush (v := -100) dJ6_getChars_ba4f3_23 (by decide) ?_
    exact aw_icmp_gt dJ6_getChars_ba4f3_25 rfl (fun _ => kk) (fun z => absurd (neg_f c hc) z)
  have hd := dig_len c
  by_cases h10 : c < 10
  · rw [if_pos h10] at hd
    have ed : dig c = [48 + c] := if_pos h10
    rw [hd] at head hn ⊢
    refine ⟨am_u I v n (nn (48 + c)), head _ ?_, fun k hk => am_u_ne hk, fun j hj => ?_, fun i hi => ?_⟩
    · refine aw_aload_n dJ6_getChars_ba4f3_72 rfl ?_
      refine aw_iinc dJ6_getChars_ba4f3_73 rfl (nn_p1 (by omega)) (Nat.le_of_ble_eq_true rfl) rfl ?_
      refine aw_iload dJ6_getChars_ba4f3_76 rfl ?_
      refine aw_gets1 dJ6_getChars_ba4f3_78 fJ6_ones ?_
      refine aw_iload_n dJ6_getChars_ba4f3_81 rfl ?_
      refine aw_ineg dJ6_getChars_ba4f3_82 ?_
      rw [Int32.neg_neg]
      refine aw_bald1 dJ6_getChars_ba4f3_83 (nn_in (by omega) hc) ?_
      rw [nn_nat (by omega), Nat.mod_eq_of_lt h10, show n + 1 - 1 = n by omega]
      refine aw_bast dJ6_getChars_ba4f3_84 a (nn_in (by omega) (by omega)) ?_
      rw [nn_nat (by omega), narb_m (by omega)]
      refine aw_iload_n dJ6_getChars_ba4f3_85 rfl ?_
      refine aw_bipush (v := -9) dJ6_getChars_ba4f3_86 (by decide) ?_
      refine aw_icmp_ge dJ6_getChars_ba4f3_88 rfl (fun _ => ?_) (fun z => absurd (neg_d c h10) z)
      refine aw_iload dJ6_getChars_ba4f3_104 rfl ?_
      refine aw_if_eq dJ6_getChars_ba4f3_106 rfl (fun _ => ?_) (fun z => absurd rfl z)
      refine aw_iload dJ6_getChars_ba4f3_118 rfl ?_
      exact aw_iret dJ6_getChars_ba4f3_120 rfl ⟨rfl, rfl, rfl⟩
    · rw [am_u_at, if_neg (fun z => by omega)]
    · have : i = 0 := by omega
      subst this
      rw [am_u_at, if_pos ⟨rfl, rfl⟩, ed]
      rfl
  · rw [if_neg h10] at hd
    have ed : dig c = [48 + c / 10, 48 + c % 10] := if_neg h10
    rw [hd] at head hn ⊢
    have q1 : c / 10 < 10 := by omega
    have q2 : c % 10 < 10 := by omega
    refine ⟨am_u (am_u I v (n + 1) (nn (48 + c % 10))) v n (nn (48 + c / 10)), head _ ?_, fun k hk => by rw [am_u_ne hk, am_u_ne hk], fun j hj => ?_, fun i hi => ?_⟩
    · refine aw_aload_n dJ6_getChars_ba4f3_72 rfl ?_
      refine aw_iinc dJ6_getChars_ba4f3_73 rfl (nn_p1 (by omega)) (Nat.le_of_ble_eq_true rfl) rfl ?_
      refine aw_iload dJ6_getChars_ba4f3_76 rfl ?_
      refine aw_gets1 dJ6_getChars_ba4f3_78 fJ6_ones ?_
      refine aw_iload_n dJ6_getChars_ba4f3_81 rfl ?_
      refine aw_ineg dJ6_getChars_ba4f3_82 ?_
      rw [Int32.neg_neg]
      refine aw_bald1 dJ6_getChars_ba4f3_83 (nn_in (by omega) hc) ?_
      rw [nn_nat (by omega), show n + 2 - 1 = n + 1 by omega]
      refine aw_bast dJ6_getChars_ba4f3_84 a (nn_in (by omega) (by omega)) ?_
      rw [nn_nat (by omega), narb_m (by omega)]
      refine aw_iload_n dJ6_getChars_ba4f3_85 rfl ?_
      refine aw_bipush (v := -9) dJ6_getChars_ba4f3_86 (by decide) ?_
      refine aw_icmp_ge dJ6_getChars_ba4f3_88 rfl (fun z => absurd z (neg_e c hc (by omega))) (fun _ => ?_)
      refine aw_aload_n dJ6_getChars_ba4f3_91 rfl ?_
      refine aw_iinc dJ6_getChars_ba4f3_92 rfl (nn_p1 (by omega)) (Nat.le_of_ble_eq_true rfl) rfl ?_
      refine aw_iload dJ6_getChars_ba4f3_95 rfl ?_
      refine aw_gets2 dJ6_getChars_ba4f3_97 fJ6_tens ?_
      refine aw_iload_n dJ6_getChars_ba4f3_100 rfl ?_
      refine aw_ineg dJ6_getChars_ba4f3_101 ?_
      rw [Int32.neg_neg]
      refine aw_bald2 dJ6_getChars_ba4f3_102 (nn_in (by omega) hc) ?_
      rw [nn_nat (by omega), show n + 1 - 1 = n by omega]
      refine aw_bast dJ6_getChars_ba4f3_103 a (nn_in (by omega) (by omega)) ?_
      rw [nn_nat (by omega), narb_m (by omega)]
      refine aw_iload dJ6_getChars_ba4f3_104 rfl ?_
      refine aw_if_eq dJ6_getChars_ba4f3_106 rfl (fun _ => ?_) (fun z => absurd rfl z)
      refine aw_iload dJ6_getChars_ba4f3_118 rfl ?_
      exact aw_iret dJ6_getChars_ba4f3_120 rfl ⟨rfl, rfl, rfl⟩
    · rw [am_u_at, if_neg (fun z => by omega), am_u_at, if_neg (fun z => by omega)]
    · have hi2 : i = 0 ∨ i = 1 := by omega
      rw [ed]
      rcases hi2 with rfl | rfl
      · rw [am_u_at, if_pos ⟨rfl, rfl⟩]
        rfl
      · rw [am_u_at, if_neg (fun z => by omega), am_u_at, if_pos ⟨rfl, rfl⟩]
        rfl
end JP
