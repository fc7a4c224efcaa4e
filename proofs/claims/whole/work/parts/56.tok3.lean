/-! THE TEXT'S TOKENS: the model goes from one to the next -/
def rmB (I : am_I) (m : Nat) (B : Nat → Nat) (n : Nat) : Prop := n ≤ 700 ∧ I m 9 = nn n ∧ ∀ j, j < n → B j < 256 ∧ I (m + 6) j = nn (B j)
def kdM (k : Nat) : Nat := if k = 3 then 0 else if k = 0 then 1 else if k = 1 then 2 else if k = 2 then 3 else 4
/-- the model stands at the token s -/
def tkM (B : Nat → Nat) (n : Nat) (I : am_I) (m s : Nat) : Prop := s ≤ n ∧ I m 20 = nn s ∧ I m 19 = nn (kdM (kd B n s)) ∧ I m 21 = nn (en B n s) ∧ (kd B n s = 1 → ∃ x, I m 22 = nn x ∧ x = min (vl B n s) 100000)
def frM (I I' : am_I) (m : Nat) : Prop := (∀ k, k ≠ m → I' k = I k) ∧ ∀ j, j ≠ 19 → j ≠ 20 → j ≠ 21 → j ≠ 22 → I' m j = I m j
section TM
variable {d mc ms : Nat} {Γ : am_G} {I : am_I} {L : am_L} {B : Nat → Nat} {n m : Nat}
theorem inR_nn {b lo hi : Nat} (hb : b < 256) (hlo : lo < 1000) (hh : hi < 1000) : inR (nn b) (nn lo) (nn hi) = (decide (lo ≤ b) && decide (b ≤ hi)) := by
  unfold inR
  rw [show decide (nn lo ≤ nn b) = decide (lo ≤ b) from decide_eq_decide.mpr (nn_le (by omega) (by omega)), show decide (nn b ≤ nn hi) = decide (b ≤ hi) from decide_eq_decide.mpr (nn_le (by omega) (by omega))]
theorem eX9_isLetter (hm : mdF Γ m) (hB : rmB I m B n) {j : Nat} (hj : j ≤ n) : am_E m_X9_isLetter (d + 1) 0 0 [.ref m, .int (nn j)] Γ I L (.inl (some (.int (bi (decide (j < n) && isL (B j)))))) I L := by
  obtain ⟨mo, r0, r1, r2, r3, r4, r7, r8, r13, r14, r15, r16, r17, a1, a2, a3, a4, a5, a6, a7, a8, a9, a10, a11, a12⟩ := id hm
  obtain ⟨h7, hn, hb⟩ := hB
  refine am_ofE rfl rfl rfl (Nat.le_of_ble_eq_true rfl) ?_
  by_cases hlt : j < n
  · obtain ⟨b1, b2⟩ := hb j hlt
    refine bX9_isLetter_0 mo (fun h => absurd h (by rw [hn, nn_le (by omega) (by omega)]; omega)) (fun _ => ?_)
    refine bX9_isLetter_8 mo (by assumption) (by assumption) (nn_in (by omega) (by omega)) (Nat.zero_le _) (Nat.zero_le _) (eX9_isIn _ _ _) ?_
    rw [nn_nat (by omega), b2, show inR (nn (B j)) 97 122 = isL (B j) from inR_nn (lo := 97) (hi := 122) b1 (by decide) (by decide), decide_eq_true hlt, Bool.true_and]
    refine bX9_isLetter_21 (fun h => ?_) (fun h => ?_)
    · refine bX9_isLetter_28 ?_
      refine bX9_isLetter_29 rfl ?_
      exact am_R_e (by rw [bi_z.mp h]; rfl) rfl rfl
    · refine bX9_isLetter_24 ?_
      refine bX9_isLetter_29 rfl ?_
      exact am_R_e (by rw [bi_nz.mp h]; rfl) rfl rfl
  · refine bX9_isLetter_0 mo (fun _ => ?_) (fun h => absurd (by rw [hn, nn_le (by omega) (by omega)]; omega) h)
    refine bX9_isLetter_28 ?_
    refine bX9_isLetter_29 rfl ?_
    exact am_R_e (by rw [decide_eq_false hlt, Bool.false_and]; rfl) rfl rfl
theorem eX9_isDigit (hm : mdF Γ m) (hB : rmB I m B n) {j : Nat} (hj : j ≤ n) : am_E m_X9_isDigit (d + 1) 0 0 [.ref m, .int (nn j)] Γ I L (.inl (some (.int (bi (decide (j < n) && isD (B j)))))) I L := by
  obtain ⟨mo, r0, r1, r2, r3, r4, r7, r8, r13, r14, r15, r16, r17, a1, a2, a3, a4, a5, a6, a7, a8, a9, a10, a11, a12⟩ := id hm
  obtain ⟨h7, hn, hb⟩ := hB
  refine am_ofE rfl rfl rfl (Nat.le_of_ble_eq_true rfl) ?_
  by_cases hlt : j < n
  · obtain ⟨b1, b2⟩ := hb j hlt
    refine bX9_isDigit_0 mo (fun h => absurd h (by rw [hn, nn_le (by omega) (by omega)]; omega)) (fun _ => ?_)
    refine bX9_isDigit_8 mo (by assumption) (by assumption) (nn_in (by omega) (by omega)) (Nat.zero_le _) (Nat.zero_le _) (eX9_isIn _ _ _) ?_
    rw [nn_nat (by omega), b2, show inR (nn (B j)) 48 57 = isD (B j) from inR_nn (lo := 48) (hi := 57) b1 (by decide) (by decide), decide_eq_true hlt, Bool.true_and]
    refine bX9_isDigit_21 (fun h => ?_) (fun h => ?_)
    · refine bX9_isDigit_28 ?_
      refine bX9_isDigit_29 rfl ?_
      exact am_R_e (by rw [bi_z.mp h]; rfl) rfl rfl
    · refine bX9_isDigit_24 ?_
      refine bX9_isDigit_29 rfl ?_
      exact am_R_e (by rw [bi_nz.mp h]; rfl) rfl rfl
  · refine bX9_isDigit_0 mo (fun _ => ?_) (fun h => absurd (by rw [hn, nn_le (by omega) (by omega)]; omega) h)
    refine bX9_isDigit_28 ?_
    refine bX9_isDigit_29 rfl ?_
    exact am_R_e (by rw [decide_eq_false hlt, Bool.false_and]; rfl) rfl rfl
theorem mcap_s {v b : Nat} (hd : 48 ≤ b ∧ b ≤ 57) : (if nn (min v 100000) * 10 + nn b - 48 < 100000 then nn (min v 100000) * 10 + nn b - 48 else 100000) = nn (min (v * 10 + (b - 48)) 100000) := by
  have e : (nn (min v 100000) * 10 + nn b - 48 : Int32) = nn (min v 100000 * 10 + (b - 48)) := by
    show nn _ * nn 10 + nn b - nn 48 = _
    rw [nn_mul, nn_add, nn_sub (by omega), show min v 100000 * 10 + b - 48 = min v 100000 * 10 + (b - 48) by omega]
  rw [e]
  have hl : (nn (min v 100000 * 10 + (b - 48)) < 100000) ↔ min v 100000 * 10 + (b - 48) < 100000 := nn_lt (b := 100000) (by omega) (by decide)
  by_cases h : min v 100000 * 10 + (b - 48) < 100000
  · rw [if_pos (hl.mpr h)]
    exact congrArg nn (by omega)
  · rw [if_neg (fun z => h (hl.mp z))]
    exact congrArg nn (show 100000 = _ by omega)
/-- the model goes to the token behind p -/
theorem eX9_next (hm : mdF Γ m) (hB : rmB I m B n) {p : Nat} (hp : I m 21 = nn p) (pn : p ≤ n) : ∃ I', am_E m_X9_next (d + 2) 0 0 [.ref m] Γ I L (.inl none) I' L ∧ tkM B n I' m (skp B n p) ∧ frM I I' m := by
  obtain ⟨mo, r0, r1, r2, r3, r4, r7, r8, r13, r14, r15, r16, r17, a1, a2, a3, a4, a5, a6, a7, a8, a9, a10, a11, a12⟩ := id hm
  obtain ⟨h7, hn, hb⟩ := id hB
  have sl := scn_le (B := B) (n := n) (p := fun c => decide (c = 32)) (s := p) pn
  refine am_ofX1 rfl rfl rfl (Nat.le_of_ble_eq_true rfl) ?_
  generalize hs : skp B n p = s at *
  have hs' : scn B n (fun c => decide (c = 32)) p = s := hs
  rw [hs'] at sl
  have at1' : ∀ (J : am_I) (f : Nat) (v : Int32) (j : Nat), am_u J m f v m j = if j = f then v else J m j := fun J f v j => at1 J m f v j
  have main : ∃ I', am_W m_X9_next (d + 2) 0 0 false 0 0 38 [(0, .ref m)] [] Γ (am_u I m 21 (nn s)) L (am_R (.inl none) I' L) ∧ tkM B n I' m s ∧ frM I I' m := by
    obtain ⟨J, hJ⟩ : ∃ J, J = am_u (am_u I m 21 (nn s)) m 20 (nn s) := ⟨_, rfl⟩
    have j20 : J m 20 = nn s := by rw [hJ, at1', if_pos rfl]
    have j21 : J m 21 = nn s := by rw [hJ, at1', if_neg (by decide), at1', if_pos rfl]
    have jj : ∀ j, j ≠ 20 → j ≠ 21 → J m j = I m j := fun j a b => by rw [hJ, at1', if_neg a, at1', if_neg b]
    have jk : ∀ k, k ≠ m → J k = I k := fun k hk => by rw [hJ, am_u_ne hk, am_u_ne hk]
    have j9 := (jj 9 (by decide) (by decide)).trans hn
    have e38 : am_u (am_u I m 21 (nn s)) m 20 (am_u I m 21 (nn s) m 21) = J := by rw [show am_u I m 21 (nn s) m 21 = nn s from by rw [at1', if_pos rfl], hJ]
    have rmJ : ∀ {K : am_I}, (∀ k, k ≠ m → K k = I k) → (∀ j, j ≠ 19 → j ≠ 20 → j ≠ 21 → j ≠ 22 → K m j = I m j) → rmB K m B n := fun k1 k2 => ⟨h7, (k2 9 (by decide) (by decide) (by decide) (by decide)).trans hn, fun j hj => ⟨(hb j hj).1, by rw [k1 (m + 6) (by omega)]; exact (hb j hj).2⟩⟩
    by_cases hlt : s < n
    · obtain ⟨b1, b2⟩ := hb s hlt
      have ekd : kd B n s = kc (B s) := by unfold kd; rw [if_neg (by omega)]
      have head : ∀ I', am_W m_X9_next (d + 2) 0 0 false 0 0 65 [(0, .ref m)] [] Γ J L (am_R (.inl none) I' L) → am_W m_X9_next (d + 2) 0 0 false 0 0 38 [(0, .ref m)] [] Γ (am_u I m 21 (nn s)) L (am_R (.inl none) I' L) := by
        intro I' hW
        refine bX9_next_38 mo (fun _ => ?_) (fun h => ?_)
        · rw [e38]; exact hW
        · rw [e38, j21, j9, nn_eq (by omega) (by omega)] at h
          omega
      have dJ := rmJ (K := J) jk (fun j a b c e => jj j b c)
      by_cases hL : isL (B s) = true
      · have k0 : kc (B s) = 0 := by unfold kc; rw [if_pos hL]
        have een : en B n s = scn B n isL s := by unfold en; rw [if_neg (by omega), if_pos hL]
        have l1 := scn_le (B := B) (n := n) (p := isL) (s := s) (by omega)
        have loop := nn_loopc (fun j => s ≤ j → ∀ K : am_I, K m 21 = nn j → K m 20 = nn s → K m 19 = 1 → (∀ k, k ≠ m → K k = I k) → (∀ j, j ≠ 19 → j ≠ 20 → j ≠ 21 → j ≠ 22 → K m j = I m j) → ∃ I', am_W m_X9_next (d + 2) 0 0 false 0 0 81 [(0, .ref m)] [] Γ K L (am_R (.inl none) I' L) ∧ tkM B n I' m s ∧ frM I I' m) (scn B n isL s) s l1.1 ?_ (fun j hj ih hsj => ?_) (Nat.le_refl _)
        · obtain ⟨I', hW, hP⟩ := loop (am_u J m 19 1) (by rw [at1', if_neg (by decide)]; exact j21) (by rw [at1', if_neg (by decide)]; exact j20) (by rw [at1', if_pos rfl]) (fun k hk => (am_u_ne hk).trans (jk k hk)) (fun j a b c e => by rw [at1', if_neg a]; exact jj j b c)
          refine ⟨I', head I' ?_, hP⟩
          refine bX9_next_65 mo (Nat.zero_le _) (Nat.zero_le _) (by rw [j21]; exact eX9_isLetter hm dJ (by omega)) ?_
          refine bX9_next_73 (fun h => absurd h (by rw [decide_eq_true hlt, hL]; decide)) (fun _ => ?_)
          refine bX9_next_76 mo ?_
          exact hW
        · intro _ K k21 k20 k19 kk kj
          refine ⟨K, ?_, ⟨by omega, k20, by rw [ekd, k0]; exact k19, by rw [een]; exact k21, fun z => by rw [ekd, k0] at z; exact absurd z (by decide)⟩, kk, kj⟩
          have hf : (decide (scn B n isL s < n) && isL (B (scn B n isL s))) = false := by
            by_cases hx : scn B n isL s < n
            · rw [scn_end (B := B) (p := isL) (s := s) (by omega) hx, Bool.and_false]
            · rw [decide_eq_false hx, Bool.false_and]
          refine bX9_next_81 mo (Nat.zero_le _) (Nat.zero_le _) (by rw [k21]; exact eX9_isLetter hm (rmJ kk kj) (by omega)) ?_
          refine bX9_next_89 (fun _ => ?_) (fun h => absurd (by rw [hf]; rfl) h)
          refine bX9_next_212 ?_
          exact ⟨rfl, rfl, rfl⟩
        · intro K k21 k20 k19 kk kj
          have hi := scn_in (B := B) hsj hj
          obtain ⟨I', hW, hP⟩ := ih (by omega) (am_u K m 21 (nn (j + 1))) (by rw [at1', if_pos rfl]) (by rw [at1', if_neg (by decide)]; exact k20) (by rw [at1', if_neg (by decide)]; exact k19) (fun k hk => (am_u_ne hk).trans (kk k hk)) (fun i a b c e => by rw [at1', if_neg c]; exact kj i a b c e)
          refine ⟨I', ?_, hP⟩
          refine bX9_next_81 mo (Nat.zero_le _) (Nat.zero_le _) (by rw [k21]; exact eX9_isLetter hm (rmJ kk kj) (by omega)) ?_
          refine bX9_next_89 (fun h => absurd h (by rw [decide_eq_true (show j < n by omega), hi]; decide)) (fun _ => ?_)
          refine bX9_next_92 mo ?_
          rw [k21, nn_s1]
          exact hW
      · have hL' : (decide (s < n) && isL (B s)) = false := by cases hz : isL (B s); exact Bool.and_false _; exact absurd hz hL
        by_cases hD : isD (B s) = true
        · have k1 : kc (B s) = 1 := by unfold kc; rw [if_neg hL, if_pos hD]
          have een : en B n s = scn B n isD s := by unfold en; rw [if_neg (by omega), if_neg hL, if_pos hD]
          have l1 := scn_le (B := B) (n := n) (p := isD) (s := s) (by omega)
          have loop := nn_loopc (fun j => s ≤ j → ∀ K : am_I, K m 21 = nn j → K m 20 = nn s → K m 19 = 2 → K m 22 = nn (min (vlk B s (j - s)) 100000) → (∀ k, k ≠ m → K k = I k) → (∀ j, j ≠ 19 → j ≠ 20 → j ≠ 21 → j ≠ 22 → K m j = I m j) → ∃ I', am_W m_X9_next (d + 2) 0 0 false 0 0 126 [(0, .ref m)] [] Γ K L (am_R (.inl none) I' L) ∧ tkM B n I' m s ∧ frM I I' m) (scn B n isD s) s l1.1 ?_ (fun j hj ih hsj => ?_) (Nat.le_refl _)
          · obtain ⟨I', hW, hP⟩ := loop (am_u (am_u J m 19 2) m 22 0) (by rw [at1', if_neg (by decide), at1', if_neg (by decide)]; exact j21) (by rw [at1', if_neg (by decide), at1', if_neg (by decide)]; exact j20) (by rw [at1', if_neg (by decide), at1', if_pos rfl]) (by rw [at1', if_pos rfl, Nat.sub_self]; rfl) (fun k hk => by rw [am_u_ne hk, am_u_ne hk]; exact jk k hk) (fun j a b c e => by rw [at1', if_neg e, at1', if_neg a]; exact jj j b c)
            refine ⟨I', head I' ?_, hP⟩
            refine bX9_next_65 mo (Nat.zero_le _) (Nat.zero_le _) (by rw [j21]; exact eX9_isLetter hm dJ (by omega)) ?_
            refine bX9_next_73 (fun _ => ?_) (fun h => absurd (by rw [hL']; rfl) h)
            refine bX9_next_105 mo (Nat.zero_le _) (Nat.zero_le _) (by rw [j21]; exact eX9_isDigit hm dJ (by omega)) ?_
            refine bX9_next_113 (fun h => absurd h (by rw [decide_eq_true hlt, hD]; decide)) (fun _ => ?_)
            refine bX9_next_116 mo ?_
            exact hW
          · intro _ K k21 k20 k19 k22 kk kj
            refine ⟨K, ?_, ⟨by omega, k20, by rw [ekd, k1]; exact k19, by rw [een]; exact k21, fun _ => ⟨_, k22, by unfold vl; rw [een]⟩⟩, kk, kj⟩
            have hf : (decide (scn B n isD s < n) && isD (B (scn B n isD s))) = false := by
              by_cases hx : scn B n isD s < n
              · rw [scn_end (B := B) (p := isD) (s := s) (by omega) hx, Bool.and_false]
              · rw [decide_eq_false hx, Bool.false_and]
            refine bX9_next_126 mo (Nat.zero_le _) (Nat.zero_le _) (by rw [k21]; exact eX9_isDigit hm (rmJ kk kj) (by omega)) ?_
            refine bX9_next_134 (fun _ => ?_) (fun h => absurd (by rw [hf]; rfl) h)
            refine bX9_next_212 ?_
            exact ⟨rfl, rfl, rfl⟩
          · intro K k21 k20 k19 k22 kk kj
            have hi := scn_in (B := B) hsj hj
            obtain ⟨c1, c2⟩ := hb j (by omega)
            have ev : vlk B s (j + 1 - s) = vlk B s (j - s) * 10 + (B j - 48) := by
              rw [show j + 1 - s = (j - s) + 1 by omega]
              show vlk B s (j - s) * 10 + (B (s + (j - s)) - 48) = _
              rw [show s + (j - s) = j by omega]
            obtain ⟨I', hW, hP⟩ := ih (by omega) (am_u (am_u K m 22 (nn (min (vlk B s (j + 1 - s)) 100000))) m 21 (nn (j + 1))) (by rw [at1', if_pos rfl]) (by rw [at1', if_neg (by decide), at1', if_neg (by decide)]; exact k20) (by rw [at1', if_neg (by decide), at1', if_neg (by decide)]; exact k19) (by rw [at1', if_neg (by decide), at1', if_pos rfl]) (fun k hk => by rw [am_u_ne hk, am_u_ne hk]; exact kk k hk) (fun i a b c e => by rw [at1', if_neg c, at1', if_neg e]; exact kj i a b c e)
            refine ⟨I', ?_, hP⟩
            refine bX9_next_126 mo (Nat.zero_le _) (Nat.zero_le _) (by rw [k21]; exact eX9_isDigit hm (rmJ kk kj) (by omega)) ?_
            refine bX9_next_134 (fun h => absurd h (by rw [decide_eq_true (show j < n by omega), hi]; decide)) (fun _ => ?_)
            refine bX9_next_137 mo (by assumption) (by assumption) (by rw [k21]; exact nn_in (by omega) (by omega)) ?_
            rw [k21, k22, nn_nat (by omega), kk (m + 6) (by omega), c2, mcap_s (isD_b.mp hi), ← ev, at1', if_neg (by decide), k21, nn_s1]
            exact hW
        · have hD' : (decide (s < n) && isD (B s)) = false := by cases hz : isD (B s); exact Bool.and_false _; exact absurd hz hD
          have een : en B n s = s + 1 := by unfold en; rw [if_neg (by omega), if_neg hL, if_neg hD]
          have fin : ∀ v : Int32, v = nn (kdM (kc (B s))) → kc (B s) ≠ 1 → am_W m_X9_next (d + 2) 0 0 false 0 0 199 [(0, .ref m)] [.int v, .ref m] Γ J L (am_R (.inl none) (am_u (am_u J m 19 (nn (kdM (kc (B s))))) m 21 (nn (s + 1))) L) := by
            intro v hv _
            subst hv
            refine bX9_next_199 mo mo ?_
            refine bX9_next_212 ?_
            rw [at1', if_neg (by decide), j21, nn_s1]
            exact ⟨rfl, rfl, rfl⟩
          have k1 : kc (B s) ≠ 1 := by
            unfold kc
            rw [if_neg hL, if_neg hD]
            by_cases h59 : B s = 59
            · rw [if_pos h59]; decide
            · rw [if_neg h59]; decide
          refine ⟨am_u (am_u J m 19 (nn (kdM (kc (B s))))) m 21 (nn (s + 1)), head _ ?_, ⟨by omega, by rw [at1', if_neg (by decide), at1', if_neg (by decide)]; exact j20, by rw [at1', if_neg (by decide), at1', if_pos rfl, ekd], by rw [at1', if_pos rfl, een], fun z => by rw [ekd] at z; exact absurd z k1⟩, fun k hk => by rw [am_u_ne hk, am_u_ne hk]; exact jk k hk, fun j a b c e => by rw [at1', if_neg c, at1', if_neg a]; exact jj j b c⟩
          refine bX9_next_65 mo (Nat.zero_le _) (Nat.zero_le _) (by rw [j21]; exact eX9_isLetter hm dJ (by omega)) ?_
          refine bX9_next_73 (fun _ => ?_) (fun h => absurd (by rw [hL']; rfl) h)
          refine bX9_next_105 mo (Nat.zero_le _) (Nat.zero_le _) (by rw [j21]; exact eX9_isDigit hm dJ (by omega)) ?_
          refine bX9_next_113 (fun _ => ?_) (fun h => absurd (by rw [hD']; rfl) h)
          have bv : J (m + 6) (nn s).toNatClampNeg = nn (B s) := by rw [nn_nat (by omega), jk (m + 6) (by omega)]; exact b2
          refine bX9_next_179 mo (by assumption) (by assumption) (by rw [j21]; exact nn_in (by omega) (by omega)) (fun h => ?_) (fun h => ?_)
          · rw [j21, bv] at h
            have h' : ¬ B s = 59 := fun z => h (by rw [z]; rfl)
            refine bX9_next_198 ?_
            exact fin 4 (by unfold kc; rw [if_neg hL, if_neg hD, if_neg h']; rfl) k1
          · rw [j21, bv] at h
            have h' : B s = 59 := (nn_eq (b := 59) (by omega) (by decide)).mp h
            refine bX9_next_194 ?_
            exact fin 3 (by unfold kc; rw [if_neg hL, if_neg hD, if_pos h']; rfl) k1
    · have ekd : kd B n s = 3 := by unfold kd; rw [if_pos (by omega)]
      have een : en B n s = s := by unfold en; rw [if_pos (by omega)]
      refine ⟨am_u J m 19 0, ?_, ⟨by omega, by rw [at1', if_neg (by decide)]; exact j20, by rw [at1', if_pos rfl, ekd]; rfl, by rw [at1', if_neg (by decide), een]; exact j21, fun z => by rw [ekd] at z; exact absurd z (by decide)⟩, fun k hk => (am_u_ne hk).trans (jk k hk), fun j a b c e => by rw [at1', if_neg a]; exact jj j b c⟩
      refine bX9_next_38 mo (fun h => ?_) (fun _ => ?_)
      · rw [e38, j21, j9, nn_eq (by omega) (by omega)] at h
        omega
      · rw [e38]
        refine bX9_next_57 mo ?_
        refine bX9_next_212 ?_
        exact ⟨rfl, rfl, rfl⟩
  obtain ⟨I', hW, hP⟩ := main
  refine ⟨I', ?_, hP⟩
  have start : I = am_u I m 21 (nn p) := by rw [← hp, am_u_same]
  rw [start]
  refine nn_loopc (fun j => p ≤ j → am_W m_X9_next (d + 2) 0 0 false 0 0 0 [(0, .ref m)] [] Γ (am_u I m 21 (nn j)) L (am_R (.inl none) I' L)) s p sl.1 (fun _ => ?_) (fun j hj ih hpj => ?_) (Nat.le_refl _)
  · have x9 : am_u I m 21 (nn s) m 9 = nn n := by rw [at1', if_neg (by decide)]; exact hn
    have x21 : am_u I m 21 (nn s) m 21 = nn s := by rw [at1', if_pos rfl]
    refine bX9_next_0 mo (fun _ => hW) (fun h => ?_)
    rw [x9, x21, nn_le (by omega) (by omega)] at h
    obtain ⟨b1, b2⟩ := hb s (by omega)
    have hf := scn_end (B := B) (n := n) (p := fun c => decide (c = 32)) (s := p) pn (by omega)
    rw [hs'] at hf
    refine bX9_next_11 mo (by assumption) (by assumption) (by rw [x21]; exact nn_in (by omega) (by omega)) (fun _ => hW) (fun h2 => ?_)
    rw [x21, nn_nat (by omega), am_u_ne (by omega), b2] at h2
    exact absurd ((nn_eq (b := 32) (by omega) (by decide)).mp h2) (of_decide_eq_false hf)
  · have x9 : am_u I m 21 (nn j) m 9 = nn n := by rw [at1', if_neg (by decide)]; exact hn
    have x21 : am_u I m 21 (nn j) m 21 = nn j := by rw [at1', if_pos rfl]
    obtain ⟨b1, b2⟩ := hb j (by omega)
    have hi := scn_in (B := B) (n := n) (p := fun c => decide (c = 32)) (s := p) hpj (by omega)
    refine bX9_next_0 mo (fun h => absurd h (by rw [x9, x21, nn_le (by omega) (by omega)]; omega)) (fun _ => ?_)
    refine bX9_next_11 mo (by assumption) (by assumption) (by rw [x21]; exact nn_in (by omega) (by omega)) (fun h => absurd (by rw [x21, nn_nat (by omega), am_u_ne (by omega), b2, of_decide_eq_true hi]; rfl) h) (fun _ => ?_)
    refine bX9_next_25 mo ?_
    rw [x21, nn_s1, am_u_uu]
    exact ih (by omega)
end TM
