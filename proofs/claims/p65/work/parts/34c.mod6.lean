/-! CONTRACTS OF THE MODEL: twins, splits, bare leaves -/
theorem ffs_lt {p : Nat → Bool} {n : Nat} (h : ∃ i, i < n ∧ p i = true) : ffs p n < n := by
  obtain ⟨i, hi, hp⟩ := h
  by_cases hl : ffs p n < n
  · exact hl
  · have := (ffs_sp p n).1 i (by omega)
    rw [hp] at this
    exact absurd this (by decide)
def splq (ys : Nat → Nat) (S q : Nat) : Bool := decide (¬ S &&& ys q = 0 ∧ ¬ nots S (ys q) = 0)
def spl (ys : Nat → Nat) (S Q : Nat) : Bool := decide (ffs (splq ys S) Q < Q)
theorem split_nn {I : am_I} {b S Q : Nat} {ys : Nat → Nat} (hS : S < 2147483648) (h : ∀ q, q < Q → I (b + 3) q = nn (ys q)) : split I b (nn S) Q = spl ys S Q := by
  have e : ffs (splP I b (nn S)) Q = ffs (splq ys S) Q := ffs_congr Q (fun q hq => by
    unfold splP splq
    rw [h q hq, nn_and, nn_andn]
    have l1 : S &&& ys q ≤ S := Nat.and_le_left
    have l2 : nots S (ys q) ≤ S := by have := and_nots S (ys q); omega
    exact decide_eq_decide.mpr (and_congr (not_congr (nn_eq (b := 0) (by omega) (by decide))) (not_congr (nn_eq (a := nots S (ys q)) (b := 0) (by omega) (by decide)))))
  unfold split spl
  rw [e]
theorem spl_two {T Q t u : Nat} {ty : Nat → Nat} (ht : t < T) (hu : u < T) (ht2 : ty t < 2 ^ Q) (hu2 : ty u < 2 ^ Q) : spl (yse T ty) (2 ^ t ||| 2 ^ u) Q = !decide (ty t = ty u) := by
  have bS : ∀ i, (2 ^ t ||| 2 ^ u).testBit i = (decide (t = i) || decide (u = i)) := fun i => by rw [Nat.testBit_or, Nat.testBit_two_pow, Nat.testBit_two_pow]
  by_cases h : ty t = ty u
  · rw [decide_eq_true h]
    unfold spl
    rw [ffs_none (fun q hq => ?_)]
    · simp
    unfold splq
    refine decide_eq_false (fun z => ?_)
    cases hb : (ty t).testBit q
    · refine z.1 (Nat.eq_of_testBit_eq fun i => ?_)
      rw [Nat.testBit_and, bS, Nat.zero_testBit]
      by_cases h1 : t = i
      · subst h1; rw [yse_bit ht, hb, Bool.and_false]
      · by_cases h2 : u = i
        · subst h2; rw [yse_bit hu, ← h, hb, Bool.and_false]
        · rw [decide_eq_false h1, decide_eq_false h2]; rfl
    · refine z.2 (Nat.eq_of_testBit_eq fun i => ?_)
      rw [nots_bit, bS, Nat.zero_testBit]
      by_cases h1 : t = i
      · subst h1; rw [yse_bit ht, hb]; simp
      · by_cases h2 : u = i
        · subst h2; rw [yse_bit hu, ← h, hb]; simp
        · rw [decide_eq_false h1, decide_eq_false h2]; rfl
  · rw [decide_eq_false h]
    unfold spl
    refine decide_eq_true (ffs_lt ?_)
    by_cases hx : ∃ q, q < Q ∧ ¬ (ty t).testBit q = (ty u).testBit q
    · obtain ⟨q, hq, hne⟩ := hx
      refine ⟨q, hq, ?_⟩
      unfold splq
      have two : ∀ a b, a < T → b < T → (a = t ∧ b = u ∨ a = u ∧ b = t) → (ty a).testBit q = true → (ty b).testBit q = false → ¬ (2 ^ t ||| 2 ^ u) &&& yse T ty q = 0 ∧ ¬ nots (2 ^ t ||| 2 ^ u) (yse T ty q) = 0 := by
        intro a b ha hb hab e1 e2
        have sa : (2 ^ t ||| 2 ^ u).testBit a = true := by rw [bS]; rcases hab with z | z <;> simp [z.1]
        have sb : (2 ^ t ||| 2 ^ u).testBit b = true := by rw [bS]; rcases hab with z | z <;> simp [z.2]
        refine ⟨fun z => ?_, fun z => ?_⟩
        · have := congrArg (fun n => n.testBit a) z
          simp only [Nat.testBit_and, sa, yse_bit ha, e1, Nat.zero_testBit] at this
          exact absurd this (by decide)
        · have := congrArg (fun n => n.testBit b) z
          simp only [nots_bit, sb, yse_bit hb, e2, Nat.zero_testBit] at this
          exact absurd this (by decide)
      refine decide_eq_true ?_
      cases h1 : (ty t).testBit q
      · cases h2 : (ty u).testBit q
        · rw [h1, h2] at hne; exact absurd rfl hne
        · exact two u t hu ht (Or.inr ⟨rfl, rfl⟩) h2 h1
      · cases h2 : (ty u).testBit q
        · exact two t u ht hu (Or.inl ⟨rfl, rfl⟩) h1 h2
        · rw [h1, h2] at hne; exact absurd rfl hne
    · refine absurd (Nat.eq_of_testBit_eq fun i => ?_) h
      by_cases hi : i < Q
      · exact Classical.byContradiction (fun z => hx ⟨i, hi, z⟩)
      · have p : 2 ^ Q ≤ 2 ^ i := Nat.pow_le_pow_right (by decide) (by omega)
        rw [Nat.testBit_lt_two_pow (by omega), Nat.testBit_lt_two_pow (by omega)]
section M6
variable {d : Nat} {Γ : am_G} {I : am_I} {L : am_L} {m : Nat} {g Q T e : Nat} {qc ty tl ct : Nat → Nat}
def twq (w : Nat → Int32) (t : Nat) (c : Int32) (u : Nat) : Bool := decide (¬ t = u ∧ w (60 + t * 9 + 1) = w (60 + u * 9 + 1) ∧ w (60 + u * 9 + 0) = c)
end M6
