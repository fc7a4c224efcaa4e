/-! THE TEXT'S TOKENS: what they are; the class reads them -/
def isL (c : Nat) : Bool := decide (97 ≤ c) && decide (c ≤ 122)
def isD (c : Nat) : Bool := decide (48 ≤ c) && decide (c ≤ 57)
section TK
variable (B : Nat → Nat) (n : Nat)
/-- the end of the run of p from s on -/
def scn (p : Nat → Bool) (s : Nat) : Nat := s + ffs (fun i => !p (B (s + i))) (n - s)
def skp (s : Nat) : Nat := scn B n (fun c => decide (c = 32)) s
def kc (c : Nat) : Nat := if isL c = true then 0 else if isD c = true then 1 else if c = 59 then 2 else 4
def kd (s : Nat) : Nat := if n ≤ s then 3 else kc (B s)
def en (s : Nat) : Nat := if n ≤ s then s else if isL (B s) = true then scn B n isL s else if isD (B s) = true then scn B n isD s else s + 1
def nx (s : Nat) : Nat := skp B n (en B n s)
def vlk (s : Nat) : Nat → Nat
  | 0 => 0
  | k + 1 => vlk s k * 10 + (B (s + k) - 48)
def vl (s : Nat) : Nat := vlk B s (en B n s - s)
def nmk (s k : Nat) : Nat := nsum (fun i => B (s + i) * 256 ^ i) k
end TK
theorem scn_le {B : Nat → Nat} {n : Nat} {p : Nat → Bool} {s : Nat} (h : s ≤ n) : s ≤ scn B n p s ∧ scn B n p s ≤ n := by
  have := ffs_le (fun i => !p (B (s + i))) (n - s)
  unfold scn
  omega
theorem scn_in {B : Nat → Nat} {n : Nat} {p : Nat → Bool} {s j : Nat} (h1 : s ≤ j) (h2 : j < scn B n p s) : p (B j) = true := by
  unfold scn at h2
  have := (ffs_sp (fun i => !p (B (s + i))) (n - s)).1 (j - s) (by omega)
  rw [show s + (j - s) = j by omega] at this
  cases hp : p (B j)
  · rw [hp] at this; exact absurd this (by decide)
  · rfl
theorem scn_end {B : Nat → Nat} {n : Nat} {p : Nat → Bool} {s : Nat} (h1 : s ≤ n) (h2 : scn B n p s < n) : p (B (scn B n p s)) = false := by
  have h3 : ffs (fun i => !p (B (s + i))) (n - s) < n - s := by unfold scn at h2; omega
  have := (ffs_sp (fun i => !p (B (s + i))) (n - s)).2 h3
  show p (B (s + ffs (fun i => !p (B (s + i))) (n - s))) = false
  cases hp : p (B (s + ffs (fun i => !p (B (s + i))) (n - s)))
  · rfl
  · rw [hp] at this; exact absurd this (by decide)
theorem en_le {B : Nat → Nat} {n s : Nat} (h : s ≤ n) : s ≤ en B n s ∧ en B n s ≤ n := by
  unfold en
  by_cases h1 : n ≤ s
  · rw [if_pos h1]; omega
  · rw [if_neg h1]
    by_cases h2 : isL (B s) = true
    · rw [if_pos h2]; exact scn_le h
    · rw [if_neg h2]
      by_cases h3 : isD (B s) = true
      · rw [if_pos h3]; exact scn_le h
      · rw [if_neg h3]; omega
theorem nmk_lt {B : Nat → Nat} {s : Nat} : ∀ {k : Nat}, (∀ i, i < k → B (s + i) < 256) → nmk B s k < 256 ^ k
  | 0, _ => by show 0 < 1; decide
  | k + 1, h => by
    have i1 := nmk_lt (B := B) (s := s) (k := k) (fun i hi => h i (by omega))
    have i2 := h k (by omega)
    show nmk B s k + B (s + k) * 256 ^ k < 256 ^ (k + 1)
    have : B (s + k) * 256 ^ k ≤ 255 * 256 ^ k := Nat.mul_le_mul_right _ (by omega)
    rw [Nat.pow_succ]
    omega
theorem cb : ∀ b, b < 256 → ((nn b).toInt8.toInt32 = 32 ↔ b = 32) ∧ ((¬ (nn b).toInt8.toInt32 < 97 ∧ ¬ 122 < (nn b).toInt8.toInt32) ↔ isL b = true) ∧ ((¬ (nn b).toInt8.toInt32 < 48 ∧ ¬ 57 < (nn b).toInt8.toInt32) ↔ isD b = true) ∧ ((nn b).toInt8.toInt32 = 59 ↔ b = 59) ∧ (b < 128 → (nn b).toInt8.toInt32 = nn b) := by decide +kernel
theorem isL_b {c : Nat} : isL c = true ↔ 97 ≤ c ∧ c ≤ 122 := by unfold isL; rw [Bool.and_eq_true, decide_eq_true_eq, decide_eq_true_eq]
theorem isD_b {c : Nat} : isD c = true ↔ 48 ≤ c ∧ c ≤ 57 := by unfold isD; rw [Bool.and_eq_true, decide_eq_true_eq, decide_eq_true_eq]
theorem am_u_uu (J : am_I) (k f : Nat) (a b : Int32) : am_u (am_u J k f a) k f b = am_u J k f b := by
  funext x y
  rw [am_u_at, am_u_at, am_u_at]
  by_cases h : x = k ∧ y = f
  · rw [if_pos h, if_pos h]
  · rw [if_neg h, if_neg h, if_neg h]
/-- the class's text -/
def rcB (I : am_I) (B : Nat → Nat) (n : Nat) : Prop := n ≤ 700 ∧ I 81 1 = nn n ∧ ∀ j, j < n → B j < 256 ∧ I 82 j = (nn (B j)).toInt8.toInt32
def ncap (v x : Nat) : Prop := (v < 100000 → x = v) ∧ (100000 ≤ v → 100000 ≤ x) ∧ x < 1000000
/-- the class's reader stands at the token s -/
def tkC (B : Nat → Nat) (n : Nat) (I : am_I) (L : am_L) (s : Nat) : Prop := s ≤ n ∧ I 81 8 = nn s ∧ I 81 7 = nn (kd B n s) ∧ I 81 9 = nn (en B n s) ∧ (kd B n s = 0 → L 81 10 = ll (nmk B s (min 6 (en B n s - s)))) ∧ (kd B n s = 1 → ∃ x, I 81 11 = nn x ∧ ncap (vl B n s) x)
def frC (I I' : am_I) (L L' : am_L) : Prop := (∀ k, k ≠ 81 → I' k = I k) ∧ (∀ j, j ≠ 7 → j ≠ 8 → j ≠ 9 → j ≠ 11 → I' 81 j = I 81 j) ∧ (∀ k, k ≠ 81 → L' k = L k) ∧ ∀ j, j ≠ 10 → L' 81 j = L 81 j
theorem am_ofX3 {mi : am_M} {d mc ms : Nat} {args : List Value} {Γ : am_G} {I I1 : am_I} {L : am_L} {o : am_O} {P : am_L → Prop} (hy : plainName mi.1.cls = true) (ht : mi.2.2.2.2.1 = []) (hsc : mi.2.2.2.2.2 = none) (hn : am_sz args ≤ mi.2.2.1)
    (h : ∃ L', am_W mi d mc ms false mc ms 0 (lv_args 0 args) [] Γ I L (am_R o I1 L') ∧ P L') : ∃ L', am_E mi d mc ms args Γ I L o I1 L' ∧ P L' := by
  obtain ⟨L', hW, hP⟩ := h
  exact ⟨L', am_ofE hy ht hsc hn hW, hP⟩
section TC
variable {d mc ms : Nat} {Γ : am_G} {I : am_I} {L : am_L} {B : Nat → Nat} {n : Nat}
theorem eX3_kindOf {b : Nat} (hb : b < 256) : am_E m_X3_kindOf d 0 0 [.int (nn b).toInt8.toInt32] Γ I L (.inl (some (.int (nn (kc b))))) I L := by
  obtain ⟨e1, e2, e3, e4, e5⟩ := cb b hb
  refine am_ofE rfl rfl rfl (Nat.le_of_ble_eq_true rfl) ?_
  have two : isL b = false → am_W m_X3_kindOf d 0 0 false 0 0 14 [(0, .int (nn b).toInt8.toInt32)] [] Γ I L (am_R (.inl (some (.int (nn (kc b))))) I L) := by
    intro hl
    have three : isD b = false → am_W m_X3_kindOf d 0 0 false 0 0 28 [(0, .int (nn b).toInt8.toInt32)] [] Γ I L (am_R (.inl (some (.int (nn (kc b))))) I L) := by
      intro hd
      refine bX3_kindOf_28 (fun h => ?_) (fun h => ?_)
      · refine bX3_kindOf_38 ?_
        refine bX3_kindOf_39 ?_
        exact am_R_e (by unfold kc; rw [hl, hd, if_neg (by decide), if_neg (by decide), if_neg (fun z => h (e4.mpr z))]; rfl) rfl rfl
      · refine bX3_kindOf_34 ?_
        refine bX3_kindOf_39 ?_
        exact am_R_e (by unfold kc; rw [hl, hd, if_neg (by decide), if_neg (by decide), if_pos (e4.mp h)]; rfl) rfl rfl
    refine bX3_kindOf_14 (fun h => ?_) (fun h => ?_)
    · exact three (by cases hd : isD b; rfl; exact absurd h (e3.mpr hd).1)
    · refine bX3_kindOf_20 (fun h2 => ?_) (fun h2 => ?_)
      · exact three (by cases hd : isD b; rfl; exact absurd h2 (e3.mpr hd).2)
      · refine bX3_kindOf_26 ?_
        exact am_R_e (by unfold kc; rw [hl, if_neg (by decide), if_pos (e3.mp ⟨h, h2⟩)]; rfl) rfl rfl
  refine bX3_kindOf_0 (fun h => ?_) (fun h => ?_)
  · exact two (by cases hl : isL b; rfl; exact absurd h (e2.mpr hl).1)
  · refine bX3_kindOf_6 (fun h2 => ?_) (fun h2 => ?_)
    · exact two (by cases hl : isL b; rfl; exact absurd h2 (e2.mpr hl).2)
    · refine bX3_kindOf_12 ?_
      exact am_R_e (by unfold kc; rw [if_pos (e2.mp ⟨h, h2⟩)]; rfl) rfl rfl
theorem eX3_readLetters (ro : am_ob Γ 81 3) (g0 : Γ.2.2 81 0 = some 82) (ra : am_ar Γ 82 2 700 0) (hB : rcB I B n) {s : Nat} (hs : I 81 8 = nn s) (sn : s < n) : ∃ L', am_E m_X3_readLetters d 0 0 [.ref 81] Γ I L (.inl none) (am_u I 81 9 (nn (scn B n isL s))) L' ∧ L' 81 10 = ll (nmk B s (min 6 (scn B n isL s - s))) ∧ (∀ k, k ≠ 81 → L' k = L k) ∧ ∀ j, j ≠ 10 → L' 81 j = L 81 j := by
  obtain ⟨h7, hn, hb⟩ := id hB
  have sl := scn_le (B := B) (n := n) (p := isL) (s := s) (by omega)
  refine am_ofX3 rfl rfl rfl (Nat.le_of_ble_eq_true rfl) ?_
  have loop := nn_loopc (fun j => s ≤ j → ∀ L1 : am_L, L1 81 10 = ll (nmk B s (min 6 (j - s))) → (∀ k, k ≠ 81 → L1 k = L k) → (∀ f, f ≠ 10 → L1 81 f = L 81 f) → ∃ L', am_W m_X3_readLetters d 0 0 false 0 0 13 [(0, .ref 81)] [] Γ (am_u I 81 9 (nn j)) L1 (am_R (.inl none) (am_u I 81 9 (nn (scn B n isL s))) L') ∧ L' 81 10 = ll (nmk B s (min 6 (scn B n isL s - s))) ∧ (∀ k, k ≠ 81 → L' k = L k) ∧ ∀ j, j ≠ 10 → L' 81 j = L 81 j) (scn B n isL s) s sl.1 ?_ (fun j hj ih hsj => ?_) (Nat.le_refl _)
  · obtain ⟨L', hW, hP⟩ := loop (am_ul L 81 10 0) (by rw [am_ul_at, if_pos ⟨rfl, rfl⟩, Nat.sub_self]; rfl) (fun k hk => am_ul_ne hk) (fun f hf => by rw [am_ul_at, if_neg (fun z => hf z.2)])
    refine ⟨L', bX3_readLetters_0 ro ?_, hP⟩
    rw [hs]
    exact hW
  · intro _ L1 e1 e2 e3
    refine ⟨L1, ?_, e1, e2, e3⟩
    have x1 : am_u I 81 9 (nn (scn B n isL s)) 81 1 = nn n := by rw [am_u_at, if_neg (by decide)]; exact hn
    have x9 : am_u I 81 9 (nn (scn B n isL s)) 81 9 = nn (scn B n isL s) := by rw [am_u_at, if_pos ⟨rfl, rfl⟩]
    by_cases hlt : scn B n isL s < n
    · obtain ⟨b1, b2⟩ := hb _ hlt
      have hf := scn_end (B := B) (p := isL) (s := s) (by omega) hlt
      have bv : am_u I 81 9 (nn (scn B n isL s)) 82 (nn (scn B n isL s)).toNatClampNeg = (nn (B (scn B n isL s))).toInt8.toInt32 := by rw [nn_nat (by omega), am_u_ne (by decide)]; exact b2
      refine bX3_readLetters_13 ro (fun h => absurd h (by rw [x1, x9, nn_le (by omega) (by omega)]; omega)) (fun _ => ?_)
      refine bX3_readLetters_24 ro g0 ra (by rw [x9]; exact nn_in (by omega) (by omega)) (fun _ => ?_) (fun h => ?_)
      · refine bX3_readLetters_111 ?_
        exact ⟨rfl, rfl, rfl⟩
      · rw [x9, bv] at h
        refine bX3_readLetters_38 ro g0 ra (by rw [x9]; exact nn_in (by omega) (by omega)) (fun _ => ?_) (fun h2 => ?_)
        · refine bX3_readLetters_111 ?_
          exact ⟨rfl, rfl, rfl⟩
        · rw [x9, bv] at h2
          exact absurd ((cb _ b1).2.1.mp ⟨h, h2⟩) (by rw [hf]; decide)
    · refine bX3_readLetters_13 ro (fun _ => ?_) (fun h => absurd (by rw [x1, x9, nn_le (by omega) (by omega)]; omega) h)
      refine bX3_readLetters_111 ?_
      exact ⟨rfl, rfl, rfl⟩
  · intro L1 e1 e2 e3
    have x1 : am_u I 81 9 (nn j) 81 1 = nn n := by rw [am_u_at, if_neg (by decide)]; exact hn
    have x9 : am_u I 81 9 (nn j) 81 9 = nn j := by rw [am_u_at, if_pos ⟨rfl, rfl⟩]
    have x8 : am_u I 81 9 (nn j) 81 8 = nn s := by rw [am_u_at, if_neg (by decide)]; exact hs
    have hl := scn_in (B := B) hsj hj
    obtain ⟨b1, b2⟩ := hb j (by omega)
    obtain ⟨c1, c2⟩ := (cb _ b1).2.1.mpr hl
    have b128 := (isL_b.mp hl)
    have bv : am_u I 81 9 (nn j) 82 (nn j).toNatClampNeg = (nn (B j)).toInt8.toInt32 := by rw [nn_nat (by omega), am_u_ne (by decide)]; exact b2
    have e8 : nn j - nn s = nn (j - s) := nn_sub hsj
    have tail : ∀ L2 : am_L, L2 81 10 = ll (nmk B s (min 6 (j + 1 - s))) → (∀ k, k ≠ 81 → L2 k = L k) → (∀ f, f ≠ 10 → L2 81 f = L 81 f) → ∃ L', am_W m_X3_readLetters d 0 0 false 0 0 98 [(0, .ref 81)] [] Γ (am_u I 81 9 (nn j)) L2 (am_R (.inl none) (am_u I 81 9 (nn (scn B n isL s))) L') ∧ L' 81 10 = ll (nmk B s (min 6 (scn B n isL s - s))) ∧ (∀ k, k ≠ 81 → L' k = L k) ∧ ∀ j, j ≠ 10 → L' 81 j = L 81 j := by
      intro L2 f1 f2 f3
      obtain ⟨L', hW, hP⟩ := ih (by omega) L2 f1 f2 f3
      refine ⟨L', bX3_readLetters_98 ro ?_, hP⟩
      rw [x9, nn_s1, am_u_uu]
      exact hW
    have head : ∀ (L' : am_L), (6 ≤ j - s → am_W m_X3_readLetters d 0 0 false 0 0 98 [(0, .ref 81)] [] Γ (am_u I 81 9 (nn j)) L1 (am_R (.inl none) (am_u I 81 9 (nn (scn B n isL s))) L')) → (¬ 6 ≤ j - s → am_W m_X3_readLetters d 0 0 false 0 0 98 [(0, .ref 81)] [] Γ (am_u I 81 9 (nn j)) (am_ul L1 81 10 (ll (nmk B s (j - s) ||| B j * 2 ^ (8 * (j - s))))) (am_R (.inl none) (am_u I 81 9 (nn (scn B n isL s))) L')) → am_W m_X3_readLetters d 0 0 false 0 0 13 [(0, .ref 81)] [] Γ (am_u I 81 9 (nn j)) L1 (am_R (.inl none) (am_u I 81 9 (nn (scn B n isL s))) L') := by
      intro L' k1 k2
      refine bX3_readLetters_13 ro (fun h => absurd h (by rw [x1, x9, nn_le (by omega) (by omega)]; omega)) (fun _ => ?_)
      refine bX3_readLetters_24 ro g0 ra (by rw [x9]; exact nn_in (by omega) (by omega)) (fun h => absurd h (by rw [x9, bv]; exact c1)) (fun _ => ?_)
      refine bX3_readLetters_38 ro g0 ra (by rw [x9]; exact nn_in (by omega) (by omega)) (fun h => absurd h (by rw [x9, bv]; exact c2)) (fun _ => ?_)
      refine bX3_readLetters_52 ro (fun h => ?_) (fun h => ?_)
      · rw [x9, x8, e8] at h
        exact k1 ((nn_le (a := 6) (by decide) (by omega)).mp h)
      · rw [x9, x8, e8] at h
        have h6 : ¬ 6 ≤ j - s := fun z => h ((nn_le (a := 6) (by decide) (by omega)).mpr z)
        refine bX3_readLetters_66 ro g0 ra (by rw [x9]; exact nn_in (by omega) (by omega)) ?_
        have em : (8 * (nn j - nn s) : Int32) = nn (8 * (j - s)) := by rw [e8]; exact nn_mul 8 (j - s)
        rw [x9, x8, bv, (cb _ b1).2.2.2.2 (by omega), em, ll_of (by omega), ll_shl (by omega), e1, ll_or, show min 6 (j - s) = j - s by omega]
        exact k2 h6
    by_cases h6 : 6 ≤ j - s
    · obtain ⟨L', hW, hP⟩ := tail L1 (by rw [e1, show min 6 (j - s) = min 6 (j + 1 - s) by omega]) e2 e3
      exact ⟨L', head L' (fun _ => hW) (fun z => absurd h6 z), hP⟩
    · obtain ⟨L', hW, hP⟩ := tail (am_ul L1 81 10 (ll (nmk B s (j - s) ||| B j * 2 ^ (8 * (j - s))))) (by
        rw [am_ul_at, if_pos ⟨rfl, rfl⟩, show min 6 (j + 1 - s) = j - s + 1 by omega]
        have lt := nmk_lt (B := B) (s := s) (k := j - s) (fun i hi => (hb (s + i) (by omega)).1)
        rw [show (256 : Nat) = 2 ^ 8 from rfl, ← Nat.pow_mul] at lt
        have e := Nat.two_pow_add_eq_or_of_lt lt (B j)
        rw [Nat.or_comm, Nat.mul_comm (B j), ← e]
        show ll _ = ll (nmk B s (j - s) + B (s + (j - s)) * 256 ^ (j - s))
        rw [show s + (j - s) = j by omega, show (256 : Nat) ^ (j - s) = 2 ^ (8 * (j - s)) from by rw [show (256 : Nat) = 2 ^ 8 from rfl, ← Nat.pow_mul], Nat.mul_comm (B j), Nat.add_comm]) (fun k hk => (am_ul_ne hk).trans (e2 k hk)) (fun f hf => by rw [am_ul_at, if_neg (fun z => hf z.2)]; exact e3 f hf)
      exact ⟨L', head L' (fun z => absurd z h6) (fun _ => hW), hP⟩
end TC
