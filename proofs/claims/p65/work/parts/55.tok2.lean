/-! THE TEXT'S TOKENS: the class goes from one to the next -/
theorem ncap_s {v x b : Nat} (h : ncap v x) (hd : 48 ≤ b ∧ b ≤ 57) : ncap (v * 10 + (b - 48)) (if 100000 ≤ x then x else x * 10 + (b - 48)) := by
  obtain ⟨h1, h2, h3⟩ := h
  by_cases hx : 100000 ≤ x
  · rw [if_pos hx]
    by_cases hv : v < 100000
    · have := h1 hv; omega
    · exact ⟨fun z => by omega, fun _ => hx, h3⟩
  · rw [if_neg hx]
    have hv : v < 100000 := by
      by_cases hv : v < 100000
      · exact hv
      · have := h2 (by omega); omega
    have := h1 hv
    subst this
    exact ⟨fun _ => rfl, fun z => z, by omega⟩
section TC2
variable {d mc ms : Nat} {Γ : am_G} {I : am_I} {L : am_L} {B : Nat → Nat} {n : Nat}
theorem eX3_readDigits (ro : am_ob Γ 81 3) (g0 : Γ.2.2 81 0 = some 82) (ra : am_ar Γ 82 2 700 0) (hB : rcB I B n) {s : Nat} (hs : I 81 8 = nn s) (sn : s < n) : ∃ I', am_E m_X3_readDigits d 0 0 [.ref 81] Γ I L (.inl none) I' L ∧ (I' 81 9 = nn (scn B n isD s) ∧ ∃ x, I' 81 11 = nn x ∧ ncap (vlk B s (scn B n isD s - s)) x) ∧ (∀ k, k ≠ 81 → I' k = I k) ∧ ∀ j, j ≠ 9 → j ≠ 11 → I' 81 j = I 81 j := by
  obtain ⟨h7, hn, hb⟩ := id hB
  have sl := scn_le (B := B) (n := n) (p := isD) (s := s) (by omega)
  refine am_ofX1 rfl rfl rfl (Nat.le_of_ble_eq_true rfl) ?_
  have loop := nn_loopc (fun j => s ≤ j → ∀ (J : am_I) (x : Nat), J 81 9 = nn j → J 81 11 = nn x → ncap (vlk B s (j - s)) x → (∀ k, k ≠ 81 → J k = I k) → (∀ j, j ≠ 9 → j ≠ 11 → J 81 j = I 81 j) → ∃ I', am_W m_X3_readDigits d 0 0 false 0 0 13 [(0, .ref 81)] [] Γ J L (am_R (.inl none) I' L) ∧ (I' 81 9 = nn (scn B n isD s) ∧ ∃ x, I' 81 11 = nn x ∧ ncap (vlk B s (scn B n isD s - s)) x) ∧ (∀ k, k ≠ 81 → I' k = I k) ∧ ∀ j, j ≠ 9 → j ≠ 11 → I' 81 j = I 81 j) (scn B n isD s) s sl.1 ?_ (fun j hj ih hsj => ?_) (Nat.le_refl _)
  · obtain ⟨I', hW, hP⟩ := loop (am_u (am_u I 81 11 0) 81 9 (nn s)) 0 (by rw [am_u_at, if_pos ⟨rfl, rfl⟩]) (by rw [am_u_at, if_neg (by decide), am_u_at, if_pos ⟨rfl, rfl⟩]; rfl) (by rw [Nat.sub_self]; exact ⟨fun _ => rfl, fun z => absurd z (show ¬ 100000 ≤ 0 by decide), by decide⟩) (fun k hk => by rw [am_u_ne hk, am_u_ne hk]) (fun j j1 j2 => by rw [am_u_at, if_neg (fun z => j1 z.2), am_u_at, if_neg (fun z => j2 z.2)])
    refine ⟨I', bX3_readDigits_0 ro ?_, hP⟩
    rw [show am_u I 81 11 0 81 8 = nn s from by rw [am_u_at, if_neg (by decide)]; exact hs]
    exact hW
  · intro _ J x e9 e11 ec e1 e2
    refine ⟨J, ?_, ⟨e9, x, e11, ec⟩, e1, e2⟩
    have x1 : J 81 1 = nn n := (e2 1 (by decide) (by decide)).trans hn
    by_cases hlt : scn B n isD s < n
    · obtain ⟨b1, b2⟩ := hb _ hlt
      have hf := scn_end (B := B) (p := isD) (s := s) (by omega) hlt
      have bv : J 82 (nn (scn B n isD s)).toNatClampNeg = (nn (B (scn B n isD s))).toInt8.toInt32 := by rw [nn_nat (by omega), e1 82 (by decide)]; exact b2
      refine bX3_readDigits_13 ro (fun h => absurd h (by rw [x1, e9, nn_le (by omega) (by omega)]; omega)) (fun _ => ?_)
      refine bX3_readDigits_24 ro g0 ra (by rw [e9]; exact nn_in (by omega) (by omega)) (fun _ => ?_) (fun h => ?_)
      · refine bX3_readDigits_98 ?_
        exact ⟨rfl, rfl, rfl⟩
      · rw [e9, bv] at h
        refine bX3_readDigits_38 ro g0 ra (by rw [e9]; exact nn_in (by omega) (by omega)) (fun _ => ?_) (fun h2 => ?_)
        · refine bX3_readDigits_98 ?_
          exact ⟨rfl, rfl, rfl⟩
        · rw [e9, bv] at h2
          exact absurd ((cb _ b1).2.2.1.mp ⟨h, h2⟩) (by rw [hf]; decide)
    · refine bX3_readDigits_13 ro (fun _ => ?_) (fun h => absurd (by rw [x1, e9, nn_le (by omega) (by omega)]; omega) h)
      refine bX3_readDigits_98 ?_
      exact ⟨rfl, rfl, rfl⟩
  · intro J x e9 e11 ec e1 e2
    have x1 : J 81 1 = nn n := (e2 1 (by decide) (by decide)).trans hn
    have hl := scn_in (B := B) hsj hj
    obtain ⟨b1, b2⟩ := hb j (by omega)
    obtain ⟨c1, c2⟩ := (cb _ b1).2.2.1.mpr hl
    have b128 := (isD_b.mp hl)
    have bv : J 82 (nn j).toNatClampNeg = (nn (B j)).toInt8.toInt32 := by rw [nn_nat (by omega), e1 82 (by decide)]; exact b2
    have hnc := ncap_s ec b128
    have x3 := ec.2.2
    have ev : vlk B s (j + 1 - s) = vlk B s (j - s) * 10 + (B j - 48) := by
      rw [show j + 1 - s = (j - s) + 1 by omega]
      show vlk B s (j - s) * 10 + (B (s + (j - s)) - 48) = _
      rw [show s + (j - s) = j by omega]
    rw [← ev] at hnc
    have tail : ∀ (J2 : am_I) (y : Nat), J2 81 9 = nn j → J2 81 11 = nn y → ncap (vlk B s (j + 1 - s)) y → (∀ k, k ≠ 81 → J2 k = I k) → (∀ j, j ≠ 9 → j ≠ 11 → J2 81 j = I 81 j) → ∃ I', am_W m_X3_readDigits d 0 0 false 0 0 85 [(0, .ref 81)] [] Γ J2 L (am_R (.inl none) I' L) ∧ (I' 81 9 = nn (scn B n isD s) ∧ ∃ x, I' 81 11 = nn x ∧ ncap (vlk B s (scn B n isD s - s)) x) ∧ (∀ k, k ≠ 81 → I' k = I k) ∧ ∀ j, j ≠ 9 → j ≠ 11 → I' 81 j = I 81 j := by
      intro J2 y f9 f11 fc f1 f2
      obtain ⟨I', hW, hP⟩ := ih (by omega) (am_u J2 81 9 (nn (j + 1))) y (by rw [am_u_at, if_pos ⟨rfl, rfl⟩]) (by rw [am_u_at, if_neg (by decide)]; exact f11) fc (fun k hk => (am_u_ne hk).trans (f1 k hk)) (fun i i1 i2 => by rw [am_u_at, if_neg (fun z => i1 z.2)]; exact f2 i i1 i2)
      refine ⟨I', bX3_readDigits_85 ro ?_, hP⟩
      rw [f9, nn_s1]
      exact hW
    have head : ∀ (I' : am_I), (100000 ≤ x → am_W m_X3_readDigits d 0 0 false 0 0 85 [(0, .ref 81)] [] Γ J L (am_R (.inl none) I' L)) → (¬ 100000 ≤ x → am_W m_X3_readDigits d 0 0 false 0 0 85 [(0, .ref 81)] [] Γ (am_u J 81 11 (nn (x * 10 + (B j - 48)))) L (am_R (.inl none) I' L)) → am_W m_X3_readDigits d 0 0 false 0 0 13 [(0, .ref 81)] [] Γ J L (am_R (.inl none) I' L) := by
      intro I' k1 k2
      refine bX3_readDigits_13 ro (fun h => absurd h (by rw [x1, e9, nn_le (by omega) (by omega)]; omega)) (fun _ => ?_)
      refine bX3_readDigits_24 ro g0 ra (by rw [e9]; exact nn_in (by omega) (by omega)) (fun h => absurd h (by rw [e9, bv]; exact c1)) (fun _ => ?_)
      refine bX3_readDigits_38 ro g0 ra (by rw [e9]; exact nn_in (by omega) (by omega)) (fun h => absurd h (by rw [e9, bv]; exact c2)) (fun _ => ?_)
      refine bX3_readDigits_52 ro (fun h => ?_) (fun h => ?_)
      · rw [e11] at h
        exact k1 ((nn_le (a := 100000) (by decide) (by omega)).mp h)
      · rw [e11] at h
        refine bX3_readDigits_61 ro g0 ra (by rw [e9]; exact nn_in (by omega) (by omega)) ?_
        have em : (nn x * 10 + nn (B j) - 48 : Int32) = nn (x * 10 + (B j - 48)) := by
          show nn x * nn 10 + nn (B j) - nn 48 = _
          rw [nn_mul, nn_add, nn_sub (by omega), show x * 10 + B j - 48 = x * 10 + (B j - 48) by omega]
        rw [e9, bv, (cb _ b1).2.2.2.2 (by omega), e11, em]
        exact k2 (fun z => h ((nn_le (a := 100000) (by decide) (by omega)).mpr z))
    by_cases hx : 100000 ≤ x
    · rw [if_pos hx] at hnc
      obtain ⟨I', hW, hP⟩ := tail J x e9 e11 hnc e1 e2
      exact ⟨I', head I' (fun _ => hW) (fun z => absurd hx z), hP⟩
    · rw [if_neg hx] at hnc
      obtain ⟨I', hW, hP⟩ := tail (am_u J 81 11 (nn (x * 10 + (B j - 48)))) _ (by rw [am_u_at, if_neg (by decide)]; exact e9) (by rw [am_u_at, if_pos ⟨rfl, rfl⟩]) hnc (fun k hk => (am_u_ne hk).trans (e1 k hk)) (fun i i1 i2 => by rw [am_u_at, if_neg (fun z => i2 z.2)]; exact e2 i i1 i2)
      exact ⟨I', head I' (fun z => absurd z hx) (fun _ => hW), hP⟩
/-- the class goes to the token behind p -/
theorem eX3_advance (ro : am_ob Γ 81 3) (g0 : Γ.2.2 81 0 = some 82) (ra : am_ar Γ 82 2 700 0) (hB : rcB I B n) {p : Nat} (hp : I 81 9 = nn p) (pn : p ≤ n) : ∃ I' L', am_E m_X3_advance (d + 1) 0 0 [.ref 81] Γ I L (.inl none) I' L' ∧ tkC B n I' L' (skp B n p) ∧ frC I I' L L' := by
  obtain ⟨h7, hn, hb⟩ := id hB
  have sl := scn_le (B := B) (n := n) (p := fun c => decide (c = 32)) (s := p) pn
  refine am_ofX rfl rfl rfl (Nat.le_of_ble_eq_true rfl) ?_
  generalize hs : skp B n p = s at *
  have hs' : scn B n (fun c => decide (c = 32)) p = s := hs
  rw [hs'] at sl
  -- behind the blanks
  have main : ∃ I' L', am_W m_X3_advance (d + 1) 0 0 false 0 0 46 [(0, .ref 81)] [] Γ (am_u I 81 8 (nn s)) L (am_R (.inl none) I' L') ∧ tkC B n I' L' s ∧ frC I I' L L' := by
    obtain ⟨J, hJ⟩ : ∃ J, J = am_u (am_u I 81 8 (nn s)) 81 9 (nn s) := ⟨_, rfl⟩
    have j8 : J 81 8 = nn s := by rw [hJ, am_u_at, if_neg (by decide), am_u_at, if_pos ⟨rfl, rfl⟩]
    have j9 : J 81 9 = nn s := by rw [hJ, am_u_at, if_pos ⟨rfl, rfl⟩]
    have jn : ∀ j, j ≠ 8 → j ≠ 9 → J 81 j = I 81 j := fun j a b => by rw [hJ, am_u_at, if_neg (fun z => b z.2), am_u_at, if_neg (fun z => a z.2)]
    have jk : ∀ k, k ≠ 81 → J k = I k := fun k hk => by rw [hJ, am_u_ne hk, am_u_ne hk]
    have j1 := (jn 1 (by decide) (by decide)).trans hn
    have e46 : am_u (am_u I 81 8 (nn s)) 81 9 (am_u I 81 8 (nn s) 81 8) = J := by rw [show am_u I 81 8 (nn s) 81 8 = nn s from by rw [am_u_at, if_pos ⟨rfl, rfl⟩], hJ]
    by_cases hlt : s < n
    · obtain ⟨b1, b2⟩ := hb s hlt
      have ekd : kd B n s = kc (B s) := by unfold kd; rw [if_neg (by omega)]
      have kc4 : kc (B s) ≤ 4 := by unfold kc; split; omega; split; omega; split; omega; omega
      obtain ⟨J2, hJ2⟩ : ∃ J2, J2 = am_u (am_u J 81 7 (nn (kc (B s)))) 81 9 (nn (s + 1)) := ⟨_, rfl⟩
      have m7 : J2 81 7 = nn (kc (B s)) := by rw [hJ2, am_u_at, if_neg (by decide), am_u_at, if_pos ⟨rfl, rfl⟩]
      have m8 : J2 81 8 = nn s := by rw [hJ2, am_u_at, if_neg (by decide), am_u_at, if_neg (by decide)]; exact j8
      have m9 : J2 81 9 = nn (s + 1) := by rw [hJ2, am_u_at, if_pos ⟨rfl, rfl⟩]
      have mj : ∀ j, j ≠ 7 → j ≠ 8 → j ≠ 9 → J2 81 j = I 81 j := fun j a b c => by rw [hJ2, am_u_at, if_neg (fun z => c z.2), am_u_at, if_neg (fun z => a z.2)]; exact jn j b c
      have mk : ∀ k, k ≠ 81 → J2 k = I k := fun k hk => by rw [hJ2, am_u_ne hk, am_u_ne hk]; exact jk k hk
      have hB2 : rcB J2 B n := ⟨h7, (mj 1 (by decide) (by decide) (by decide)).trans hn, fun j hj => ⟨(hb j hj).1, by rw [mk 82 (by decide)]; exact (hb j hj).2⟩⟩
      have head : ∀ (I' : am_I) (L' : am_L), (kc (B s) = 0 → am_W m_X3_advance (d + 1) 0 0 false 0 0 104 [(0, .ref 81)] [] Γ J2 L (am_R (.inl none) I' L')) → (¬ kc (B s) = 0 → am_W m_X3_advance (d + 1) 0 0 false 0 0 111 [(0, .ref 81)] [] Γ J2 L (am_R (.inl none) I' L')) → am_W m_X3_advance (d + 1) 0 0 false 0 0 46 [(0, .ref 81)] [] Γ (am_u I 81 8 (nn s)) L (am_R (.inl none) I' L') := by
        intro I' L' k0 k1
        refine bX3_advance_46 ro (fun _ => ?_) (fun h => absurd (by rw [e46, j8, j1, nn_lt (by omega) (by omega)]; exact hlt) h)
        rw [e46]
        refine bX3_advance_71 ro g0 ra (by rw [j8]; exact nn_in (by omega) (by omega)) (Nat.zero_le _) (Nat.zero_le _) (by rw [j8, nn_nat (by omega), jk 82 (by decide), b2]; exact eX3_kindOf b1) ?_
        have e84 : am_u (am_u J 81 7 (nn (kc (B s)))) 81 9 (am_u J 81 7 (nn (kc (B s))) 81 9 + 1) = J2 := by rw [show am_u J 81 7 (nn (kc (B s))) 81 9 = nn s from by rw [am_u_at, if_neg (by decide)]; exact j9, nn_s1, hJ2]
        refine bX3_advance_84 ro ro (fun h => ?_) (fun h => ?_)
        · rw [e84] at h ⊢
          rw [m7, nl_0, nn_eq (by omega) (by omega)] at h
          exact k1 h
        · rw [e84] at h ⊢
          rw [m7, nl_0, nn_eq (by omega) (by omega)] at h
          exact k0 h
      by_cases hL : isL (B s) = true
      · have k0 : kc (B s) = 0 := by unfold kc; rw [if_pos hL]
        have een : en B n s = scn B n isL s := by unfold en; rw [if_neg (by omega), if_pos hL]
        obtain ⟨L', hE, l1, l2, l3⟩ := eX3_readLetters (d := d) (L := L) ro g0 ra hB2 m8 hlt
        refine ⟨am_u J2 81 9 (nn (scn B n isL s)), L', head _ _ (fun _ => ?_) (fun z => absurd k0 z), ⟨by omega, by rw [am_u_at, if_neg (by decide)]; exact m8, by rw [am_u_at, if_neg (by decide), ekd]; exact m7, by rw [am_u_at, if_pos ⟨rfl, rfl⟩, een], fun _ => by rw [een]; exact l1, fun z => by rw [ekd, k0] at z; exact absurd z (by decide)⟩, fun k hk => (am_u_ne hk).trans (mk k hk), fun j a b c e => by rw [am_u_at, if_neg (fun z => c z.2)]; exact mj j a b c, l2, l3⟩
        refine bX3_advance_104 ro (Nat.zero_le _) (Nat.zero_le _) hE ?_
        refine bX3_advance_108 ?_
        refine bX3_advance_123 ?_
        exact ⟨rfl, rfl, rfl⟩
      · by_cases hD : isD (B s) = true
        · have k1 : kc (B s) = 1 := by unfold kc; rw [if_neg hL, if_pos hD]
          have een : en B n s = scn B n isD s := by unfold en; rw [if_neg (by omega), if_neg hL, if_pos hD]
          obtain ⟨I', hE, ⟨i1, x, i2, i3⟩, i4, i5⟩ := eX3_readDigits (d := d) (L := L) ro g0 ra hB2 m8 hlt
          refine ⟨I', L, head _ _ (fun z => absurd z (by rw [k1]; decide)) (fun _ => ?_), ⟨by omega, (i5 8 (by decide) (by decide)).trans m8, by rw [i5 7 (by decide) (by decide), ekd]; exact m7, by rw [i1, een], fun z => by rw [ekd, k1] at z; exact absurd z (by decide), fun _ => ⟨x, i2, by unfold vl; rw [een]; exact i3⟩⟩, fun k hk => (i4 k hk).trans (mk k hk), fun j a b c e => (i5 j c e).trans (mj j a b c), fun _ _ => rfl, fun _ _ => rfl⟩
          refine bX3_advance_111 ro (fun h => absurd (by rw [m7, k1]; rfl) h) (fun _ => ?_)
          refine bX3_advance_119 ro (Nat.zero_le _) (Nat.zero_le _) hE ?_
          refine bX3_advance_123 ?_
          exact ⟨rfl, rfl, rfl⟩
        · have k1 : kc (B s) ≠ 0 ∧ kc (B s) ≠ 1 := by
            unfold kc
            rw [if_neg hL, if_neg hD]
            by_cases h59 : B s = 59
            · rw [if_pos h59]; decide
            · rw [if_neg h59]; decide
          have een : en B n s = s + 1 := by unfold en; rw [if_neg (by omega), if_neg hL, if_neg hD]
          refine ⟨J2, L, head _ _ (fun z => absurd z k1.1) (fun _ => ?_), ⟨by omega, m8, by rw [ekd]; exact m7, by rw [een]; exact m9, fun z => absurd z (by rw [ekd]; exact k1.1), fun z => absurd z (by rw [ekd]; exact k1.2)⟩, mk, fun j a b c e => mj j a b c, fun _ _ => rfl, fun _ _ => rfl⟩
          refine bX3_advance_111 ro (fun _ => ?_) (fun h => absurd h (by rw [m7]; show ¬ nn _ = nn 1; rw [nn_eq (by omega) (by decide)]; exact k1.2))
          refine bX3_advance_123 ?_
          exact ⟨rfl, rfl, rfl⟩
    · have ekd : kd B n s = 3 := by unfold kd; rw [if_pos (by omega)]
      have een : en B n s = s := by unfold en; rw [if_pos (by omega)]
      refine ⟨am_u J 81 7 3, L, ?_, ⟨by omega, by rw [am_u_at, if_neg (by decide)]; exact j8, by rw [am_u_at, if_pos ⟨rfl, rfl⟩, ekd]; rfl, by rw [am_u_at, if_neg (by decide), een]; exact j9, fun z => by rw [ekd] at z; exact absurd z (by decide), fun z => by rw [ekd] at z; exact absurd z (by decide)⟩, fun k hk => (am_u_ne hk).trans (jk k hk), fun j a b c e => by rw [am_u_at, if_neg (fun z => a z.2)]; exact jn j b c, fun _ _ => rfl, fun _ _ => rfl⟩
      refine bX3_advance_46 ro (fun h => absurd h (by rw [e46, j8, j1, nn_lt (by omega) (by omega)]; exact hlt)) (fun _ => ?_)
      rw [e46]
      refine bX3_advance_65 ro ?_
      exact ⟨rfl, rfl, rfl⟩
  obtain ⟨I', L', hW, hP⟩ := main
  refine ⟨I', L', ?_, hP⟩
  refine bX3_advance_0 ro ?_
  rw [hp]
  refine nn_loopc (fun j => p ≤ j → am_W m_X3_advance (d + 1) 0 0 false 0 0 8 [(0, .ref 81)] [] Γ (am_u I 81 8 (nn j)) L (am_R (.inl none) I' L')) s p sl.1 (fun _ => ?_) (fun j hj ih hpj => ?_) (Nat.le_refl _)
  · have x1 : am_u I 81 8 (nn s) 81 1 = nn n := by rw [am_u_at, if_neg (by decide)]; exact hn
    have x8 : am_u I 81 8 (nn s) 81 8 = nn s := by rw [am_u_at, if_pos ⟨rfl, rfl⟩]
    refine bX3_advance_8 ro (fun _ => hW) (fun h => ?_)
    rw [x1, x8, nn_le (by omega) (by omega)] at h
    obtain ⟨b1, b2⟩ := hb s (by omega)
    have hf := scn_end (B := B) (n := n) (p := fun c => decide (c = 32)) (s := p) pn (by omega)
    rw [hs'] at hf
    refine bX3_advance_19 ro g0 ra (by rw [x8]; exact nn_in (by omega) (by omega)) (fun _ => hW) (fun h2 => ?_)
    rw [x8, nn_nat (by omega), am_u_ne (by decide), b2, (cb _ b1).1] at h2
    exact absurd h2 (of_decide_eq_false hf)
  · have x1 : am_u I 81 8 (nn j) 81 1 = nn n := by rw [am_u_at, if_neg (by decide)]; exact hn
    have x8 : am_u I 81 8 (nn j) 81 8 = nn j := by rw [am_u_at, if_pos ⟨rfl, rfl⟩]
    obtain ⟨b1, b2⟩ := hb j (by omega)
    have hi := scn_in (B := B) (n := n) (p := fun c => decide (c = 32)) (s := p) hpj (by omega)
    refine bX3_advance_8 ro (fun h => absurd h (by rw [x1, x8, nn_le (by omega) (by omega)]; omega)) (fun _ => ?_)
    refine bX3_advance_19 ro g0 ra (by rw [x8]; exact nn_in (by omega) (by omega)) (fun h => absurd (by rw [x8, nn_nat (by omega), am_u_ne (by decide), b2, (cb _ b1).1]; exact of_decide_eq_true hi) h) (fun _ => ?_)
    refine bX3_advance_33 ro ?_
    rw [x8, nn_s1, am_u_uu]
    exact ih (by omega)
end TC2
