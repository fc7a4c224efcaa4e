/-! CONTRACTS OF THE CLASS: a cart passes; the history -/
def hs (h i : Nat) : Nat := h + (2 + 36 * i)
def hiF (Γ : am_G) (h : Nat) : Prop := am_ob Γ h 1 ∧ Γ.2.2 h 0 = some (h + 1) ∧ am_ar Γ (h + 1) 6 8 5 ∧ ∀ i, i < 8 → Γ.2.2 (h + 1) i = some (hs h i) ∧ stF Γ (hs h i)
section C4
variable {d : Nat} {Γ : am_G} {I : am_I} {L : am_L} {b : Nat}
theorem eX5_letPass {g t N : Nat} (hb : stF Γ b) (hg4 : g < 4) (ht : t < 8) (hN : N ≤ 15) (h0 : 0 < N) (hs : I (gc b g + 2) 0 = nn N) (hq : tOK I (gc b g + 2) N) (n : Int32) : ∃ I', am_E m_X5_letPass (d + 2) 0 0 [.ref b, .int (nn g), .int (nn t), .int n] Γ I L (.inl (some (.int (I (gc b g + 2 + 2) (tLh I (gc b g + 2) (nn t) N))))) I' L ∧
    (∀ j, j < 8 → I' (b + 7) j = addT (I (b + 7)) n (pCost I b (gc b g + 2) (nn t) N) (I (gc b g + 2 + 2) (tLh I (gc b g + 2) (nn t) N)) (I (b + 5) t) j) ∧
    (∀ j, I' (gc b g + 1) j = if j = t then (if I (gc b g + 1) t + n < 9999 then I (gc b g + 1) t + n else 9999) else I (gc b g + 1) j) ∧ ∀ c, c ≠ b + 7 → c ≠ gc b g + 1 → I' c = I c := by
  obtain ⟨o, r4, r5, r6, r7, r8, r9, r10, a1, a2, a3, a4, a5, a6, o7, hg⟩ := id hb
  obtain ⟨hg1, hgg⟩ := hg g hg4
  obtain ⟨og, g4, g5, gr, tr⟩ := id hgg
  obtain ⟨I2, hE, q, hf⟩ := eX6_add (d := d + 1) (I := I) (L := L) o7 n (pCost I b (gc b g + 2) (nn t) N) (I (gc b g + 2 + 2) (tLh I (gc b g + 2) (nn t) N)) (I (b + 5) t)
  have hne : gc b g + 1 ≠ b + 7 := by unfold gc; omega
  refine ⟨_, am_ofE rfl rfl rfl (Nat.le_of_ble_eq_true rfl) (by
    refine bX5_letPass_0 o r9 a6 (nn_in (by omega) (by omega)) (by rw [nn_nat (by omega)]; exact hg1) og g5 tr.1 (Nat.zero_le _) (Nat.zero_le _) (eX7_tollFor tr hN h0 hs _) ?_
    refine bX5_letPass_13 (by assumption) (by assumption) (Nat.zero_le _) (Nat.zero_le _) (eX5_costOfPath hb hg4 hN hs hq _) ?_
    refine bX5_letPass_26 o r8 a5 (nn_in (by omega) (by omega)) o7 (Nat.zero_le _) (Nat.zero_le _) (by rw [nn_nat (by omega)]; exact hE) ?_
    refine bX5_letPass_37 o r9 a6 (nn_in (by omega) (by omega)) (by rw [nn_nat (by omega)]; exact hg1) og (Nat.zero_le _) (Nat.zero_le _) (eX0_addCarts hgg ht n) ?_
    refine bX5_letPass_48 ?_
    exact ⟨rfl, rfl, rfl⟩), fun j hj => ?_, fun j => ?_, fun c h1 h2 => funext fun j => ?_⟩
  · rw [am_u_at, if_neg (fun z => hne z.1.symm)]; exact q j hj
  · rw [am_u_at, hf (gc b g + 1) (by omega)]
    by_cases hj : j = t
    · rw [if_pos ⟨rfl, hj⟩, if_pos hj]
    · rw [if_neg (fun z => hj z.2), if_neg hj]
  · rw [am_u_at, if_neg (fun z => h2 z.1), hf c (by omega)]
theorem eX1_remember {h o s G : Nat} (hh : hiF Γ h) (hb : stF Γ b) (hd : b + 36 ≤ h ∨ h + 290 ≤ b) (ho : I h 1 = nn o) (hs' : I h 2 = nn s) (ho8 : o < 8) (hs8 : s ≤ 8) (hG : I b 2 = nn G) (h4 : G ≤ 4) :
    ∃ I' L', am_E m_X1_remember (d + 3) 0 0 [.ref h, .ref b] Γ I L (.inl none) I' L' ∧
    I' h 1 = nn (if s = 8 then (o + 1) % 8 else o) ∧ I' h 2 = nn (if s = 8 then 8 else s + 1) ∧
    stEq I I' L L' (hs h ((if s = 8 then o else o + s) % 8)) b G ∧ (∀ c, c ≠ h → (c < hs h ((if s = 8 then o else o + s) % 8) ∨ hs h ((if s = 8 then o else o + s) % 8) + 36 ≤ c) → I' c = I c) ∧ frL (hs h ((if s = 8 then o else o + s) % 8)) (hs h ((if s = 8 then o else o + s) % 8) + 36) L L' := by
  obtain ⟨oh, r0, a1, hst⟩ := hh
  refine am_ofX rfl rfl rfl (Nat.le_of_ble_eq_true rfl) ?_
  have go : ∀ (I1 : am_I) (o1 s1 : Nat), o1 < 8 → s1 < 8 → I1 h 1 = nn o1 → I1 h 2 = nn s1 → (∀ c, c ≠ h → I1 c = I c) → ∃ I' L', am_W m_X1_remember (d + 3) 0 0 false 0 0 32 [(0, .ref h), (1, .ref b)] [] Γ I1 L (am_R (.inl none) I' L') ∧ I' h 1 = nn o1 ∧ I' h 2 = nn (s1 + 1) ∧ stEq I I' L L' (hs h ((o1 + s1) % 8)) b G ∧ (∀ c, c ≠ h → (c < hs h ((o1 + s1) % 8) ∨ hs h ((o1 + s1) % 8) + 36 ≤ c) → I' c = I c) ∧ frL (hs h ((o1 + s1) % 8)) (hs h ((o1 + s1) % 8) + 36) L L' := by
    intro I1 o1 s1 ho1 hs1 e1 e2 hf1
    have hm : (o1 + s1) % 8 < 8 := Nat.mod_lt _ (by decide)
    have hbh : b ≠ h := by omega
    obtain ⟨I2, L2, hE, q, hf, hfL⟩ := eX5_copyFrom (d := d) (I := I1) (L := L) (hst _ hm).2 hb (by unfold hs; omega) (by rw [hf1 b hbh]; exact hG) h4
    have hhs : h < hs h ((o1 + s1) % 8) := by unfold hs; omega
    refine ⟨am_u I2 h 2 (I2 h 2 + 1), L2, ?_, ?_, ?_, ?_, fun c c1 c2 => ?_, hfL⟩
    · have ei : I1 h 1 + I1 h 2 - (I1 h 1 + I1 h 2) / 8 * 8 = nn ((o1 + s1) % 8) := by rw [e1, e2, nn_add, nl_8, nn_rem (by omega) (by omega)]
      refine bX1_remember_32 oh r0 a1 (by rw [ei]; exact nn_in (by omega) hm) (by rw [ei, nn_nat (by omega)]; exact (hst _ hm).1) (hst _ hm).2.1 (Nat.zero_le _) (Nat.zero_le _) hE ?_
      refine bX1_remember_53 (by assumption) ?_
      exact ⟨rfl, rfl, rfl⟩
    · rw [am_u_at, if_neg (fun z => absurd z.2 (by decide)), hf h (by omega), e1]
    · rw [am_u_at, if_pos ⟨rfl, rfl⟩, hf h (by omega), e2, nl_1, nn_add]
    · have w : ∀ c j, c ≠ h → am_u I2 h 2 (I2 h 2 + 1) c j = I2 c j := fun c j hc => by rw [am_u_at, if_neg (fun z => hc z.1)]
      have n0 : ∀ j, hs h ((o1 + s1) % 8) + j ≠ h := fun j => by omega
      have n1 : ∀ g j, gc (hs h ((o1 + s1) % 8)) g + j ≠ h := fun g j => by unfold gc; omega
      obtain ⟨⟨q1, q2, q3, q4⟩, q5, q6, q7, q8⟩ := q
      have hb7 : ∀ j, j < 36 → I1 (b + j) = I (b + j) := fun j hj => hf1 _ (by omega)
      refine ⟨⟨?_, ?_, ?_, ?_⟩, fun j hj => ⟨(q5 j hj).1, ?_, ?_⟩, fun j hj => ⟨(q6 j hj).1, ?_⟩, fun j hj => ?_, fun g hg => ?_⟩
      · rw [w _ _ (Nat.ne_of_gt hhs), q1, hf1 b hbh]
      · rw [w _ _ (Nat.ne_of_gt hhs), q2, hf1 b hbh]
      · rw [w _ _ (Nat.ne_of_gt hhs), q3, hf1 b hbh]
      · rw [w _ _ (Nat.ne_of_gt hhs), q4, hf1 b hbh]
      · rw [w _ _ (n0 2), (q5 j hj).2.1, hb7 2 (by decide)]
      · rw [w _ _ (n0 3), (q5 j hj).2.2, hb7 3 (by decide)]
      · rw [w _ _ (n0 5), (q6 j hj).2, hb7 5 (by decide)]
      · rw [w _ _ (n0 7), q7 j hj, hb7 7 (by decide)]
      · refine ((q8 g hg).of (fun c c1 c2 => hf1 c (by unfold gc at c1 c2; omega)) (fun c _ _ => rfl)).to (fun c c1 c2 => funext fun j => w c j (by unfold gc hs at c1; omega)) (fun c _ _ => rfl)
    · rw [show am_u I2 h 2 (I2 h 2 + 1) c = I2 c from am_u_ne c1, hf c c2, hf1 c c1]
  by_cases h8 : s = 8
  · subst h8
    obtain ⟨I', L', hW, p1, p2, p3, p4, p5⟩ := go (am_u (am_u I h 1 (((I h 1) + 1) - ((I h 1) + 1) / 8 * 8)) h 2 (((am_u I h 1 (((I h 1) + 1) - ((I h 1) + 1) / 8 * 8)) h 2) - 1)) ((o + 1) % 8) 7 (Nat.mod_lt _ (by decide)) (by decide) (by simp (disch := omega) only [and_self, and_true, true_and, and_false, false_and, if_true, if_false, am_cI_at, am_cL_at, am_u_at, am_ul_at, am_mI_at, if_pos, if_neg, c0, c6, c8, c15, Nat.zero_add, Nat.sub_zero]; rw [ho, nl_1, nl_8, nn_add, nn_rem (by omega) (by decide)]) (by simp (disch := omega) only [and_self, and_true, true_and, and_false, false_and, if_true, if_false, am_cI_at, am_cL_at, am_u_at, am_ul_at, am_mI_at, if_pos, if_neg, c0, c6, c8, c15, Nat.zero_add, Nat.sub_zero]; rw [hs']; rfl) (fun c hc => funext fun j => by simp (disch := omega) only [and_self, and_true, true_and, and_false, false_and, if_true, if_false, am_cI_at, am_cL_at, am_u_at, am_ul_at, am_mI_at, if_pos, if_neg, c0, c6, c8, c15, Nat.zero_add, Nat.sub_zero])
    have e : ((o + 1) % 8 + 7) % 8 = o % 8 := by omega
    rw [e] at p3 p4 p5
    simp only [if_true]
    refine ⟨I', L', ?_, p1, p2, p3, p4, p5⟩
    refine bX1_remember_0 oh (fun h => absurd (by rw [hs']; rfl) h) (fun _ => ?_)
    refine bX1_remember_9 (by assumption) ?_
    exact hW
  · obtain ⟨I', L', hW, p1, p2, p3, p4, p5⟩ := go I o s ho8 (by omega) ho hs' (fun _ _ => rfl)
    simp only [if_neg h8]
    refine ⟨I', L', ?_, p1, p2, p3, p4, p5⟩
    refine bX1_remember_0 oh (fun _ => hW) (fun h => absurd h (by rw [hs', nl_8, nn_eq (by omega) (by omega)]; exact h8))
theorem eX1_recallInto {h o s G : Nat} (hh : hiF Γ h) (hb : stF Γ b) (hd : b + 36 ≤ h ∨ h + 290 ≤ b) (ho : I h 1 = nn o) (hs' : I h 2 = nn (s + 1)) (ho8 : o < 8) (hs8 : s < 8) (hG : I (hs h ((o + s) % 8)) 2 = nn G) (h4 : G ≤ 4) :
    ∃ I' L', am_E m_X1_recallInto (d + 3) 0 0 [.ref h, .ref b] Γ I L (.inl none) I' L' ∧ I' h 1 = nn o ∧ I' h 2 = nn s ∧ stEq I I' L L' b (hs h ((o + s) % 8)) G ∧ (∀ c, c ≠ h → (c < b ∨ b + 36 ≤ c) → I' c = I c) ∧ frL b (b + 36) L L' := by
  obtain ⟨oh, r0, a1, hst⟩ := hh
  refine am_ofX rfl rfl rfl (Nat.le_of_ble_eq_true rfl) ?_
  have hm : (o + s) % 8 < 8 := Nat.mod_lt _ (by decide)
  have hhs : h < hs h ((o + s) % 8) := by unfold hs; omega
  have hhs2 : hs h ((o + s) % 8) + 36 ≤ h + 290 := by unfold hs; omega
  have e2 : I h 2 - 1 = nn s := by rw [hs', nl_1, nn_sub (by omega)]; rfl
  have w : ∀ c, c ≠ h → am_u I h 2 (I h 2 - 1) c = I c := fun c hc => am_u_ne hc
  obtain ⟨I2, L2, hE, q, hf, hfL⟩ := eX5_copyFrom (d := d) (I := am_u I h 2 (I h 2 - 1)) (L := L) hb (hst _ hm).2 (by omega) (by rw [w _ (by omega)]; exact hG) h4
  refine ⟨I2, L2, ?_, ?_, ?_, ?_, fun c c1 c2 => by rw [hf c c2, w c c1], hfL⟩
  · have ei : am_u I h 2 (I h 2 - 1) h 1 + am_u I h 2 (I h 2 - 1) h 2 - (am_u I h 2 (I h 2 - 1) h 1 + am_u I h 2 (I h 2 - 1) h 2) / 8 * 8 = nn ((o + s) % 8) := by
      rw [am_u_at, am_u_at, if_neg (fun z => absurd z.2 (by decide)), if_pos ⟨rfl, rfl⟩, e2, ho, nn_add, nl_8, nn_rem (by omega) (by omega)]
    refine bX1_recallInto_0 oh (fun h => absurd h (by rw [hs', nl_0, nn_le (by omega) (by omega)]; omega)) (fun _ => ?_)
    refine bX1_recallInto_7 oh r0 a1 (by rw [ei]; exact nn_in (by omega) hm) (by rw [ei, nn_nat (by omega)]; exact (hst _ hm).1) hb.1 (Nat.zero_le _) (Nat.zero_le _) hE ?_
    refine bX1_recallInto_38 ?_
    exact ⟨rfl, rfl, rfl⟩
  · rw [hf h (by omega), am_u_at, if_neg (fun z => absurd z.2 (by decide)), ho]
  · rw [hf h (by omega), am_u_at, if_pos ⟨rfl, rfl⟩, e2]
  · obtain ⟨⟨q1, q2, q3, q4⟩, q5, q6, q7, q8⟩ := q
    have w2 : ∀ j, am_u I h 2 (I h 2 - 1) (hs h ((o + s) % 8) + j) = I (hs h ((o + s) % 8) + j) := fun j => w _ (by omega)
    have w0 := w2 0
    rw [Nat.add_zero] at w0
    refine ⟨⟨by rw [q1, w0], by rw [q2, w0], by rw [q3, w0], by rw [q4, w0]⟩, fun j hj => ⟨(q5 j hj).1, by rw [(q5 j hj).2.1, w2], by rw [(q5 j hj).2.2, w2]⟩, fun j hj => ⟨(q6 j hj).1, by rw [(q6 j hj).2, w2]⟩, fun j hj => by rw [q7 j hj, w2], fun g hg => ?_⟩
    exact (q8 g hg).of (fun c c1 c2 => w c (by unfold gc at c1; omega)) (fun c _ _ => rfl)
end C4
