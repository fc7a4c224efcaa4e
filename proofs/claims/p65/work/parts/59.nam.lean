/-! NAMES: as a number, as letters; the model looks them up -/
theorem nsum_sh (f : Nat → Nat) : ∀ p, nsum (fun i => f i * 256 ^ i) (p + 1) = f 0 + 256 * nsum (fun i => f (i + 1) * 256 ^ i) p
  | 0 => by
    show 0 + f 0 * 256 ^ 0 = f 0 + 256 * 0
    omega
  | p + 1 => by
    have e : nsum (fun i => f i * 256 ^ i) (p + 1 + 1) = nsum (fun i => f i * 256 ^ i) (p + 1) + f (p + 1) * 256 ^ (p + 1) := rfl
    have e2 : nsum (fun i => f (i + 1) * 256 ^ i) (p + 1) = nsum (fun i => f (i + 1) * 256 ^ i) p + f (p + 1) * 256 ^ p := rfl
    rw [e, e2, nsum_sh f p, Nat.pow_succ, ← Nat.mul_assoc]
    omega
theorem dig_uq : ∀ (p q : Nat) (f g : Nat → Nat), (∀ i, i < p → 1 ≤ f i ∧ f i < 256) → (∀ i, i < q → 1 ≤ g i ∧ g i < 256) → nsum (fun i => f i * 256 ^ i) p = nsum (fun i => g i * 256 ^ i) q → p = q ∧ ∀ i, i < p → f i = g i
  | 0, 0, _, _, _, _, _ => ⟨rfl, fun i hi => absurd hi (Nat.not_lt_zero i)⟩
  | 0, q + 1, f, g, _, hg, h => by
    rw [nsum_sh] at h
    have e : nsum (fun i => f i * 256 ^ i) 0 = 0 := rfl
    have := (hg 0 (by omega)).1
    omega
  | p + 1, 0, f, g, hf, _, h => by
    rw [nsum_sh] at h
    have e : nsum (fun i => g i * 256 ^ i) 0 = 0 := rfl
    have := (hf 0 (by omega)).1
    omega
  | p + 1, q + 1, f, g, hf, hg, h => by
    rw [nsum_sh, nsum_sh] at h
    have a := (hf 0 (by omega)).2
    have b := (hg 0 (by omega)).2
    have h0 : f 0 = g 0 := by omega
    obtain ⟨e1, e2⟩ := dig_uq p q (fun i => f (i + 1)) (fun i => g (i + 1)) (fun i hi => hf (i + 1) (by omega)) (fun i hi => hg (i + 1) (by omega)) (by omega)
    refine ⟨by omega, fun i hi => ?_⟩
    cases i with
    | zero => exact h0
    | succ k => exact e2 k (by omega)
theorem ll_eq {a b : Nat} (ha : a < 9223372036854775808) (hb : b < 9223372036854775808) : ll a = ll b ↔ a = b := by
  refine ⟨fun h => ?_, fun h => by rw [h]⟩
  have h1 : ¬ ll a < ll b := by rw [h]; exact fun z => Int64.lt_irrefl z
  have h2 : ¬ ll b < ll a := by rw [h]; exact fun z => Int64.lt_irrefl z
  rw [ll_lt ha hb] at h1
  rw [ll_lt hb ha] at h2
  omega
/-- the name at a in the row is the token's at s -/
def nmE (w : Nat → Int32) (a : Nat) (B : Nat → Nat) (s len : Nat) : Bool := decide (lnW w a = len) && (List.range len).all (fun i => decide (w (a + 1 + i) = nn (B (s + i))))
theorem nmE_t {w : Nat → Int32} {a : Nat} {B : Nat → Nat} {s len : Nat} : nmE w a B s len = true ↔ lnW w a = len ∧ ∀ i, i < len → w (a + 1 + i) = nn (B (s + i)) := by
  unfold nmE
  rw [Bool.and_eq_true, decide_eq_true_eq, List.all_eq_true]
  exact ⟨fun ⟨h1, h2⟩ => ⟨h1, fun i hi => of_decide_eq_true (h2 i (List.mem_range.mpr hi))⟩, fun ⟨h1, h2⟩ => ⟨h1, fun i hi => decide_eq_true (h2 i (List.mem_range.mp hi))⟩⟩
/-- the same name, as a number -/
theorem nmE_n {w : Nat → Int32} {a : Nat} {B : Nat → Nat} {s len : Nat} (hn : nmO w a) (h6 : len ≤ 6) (hB : ∀ i, i < len → 97 ≤ B (s + i) ∧ B (s + i) ≤ 122) : (pnm w a == ll (nmk B s len)) = nmE w a B s len := by
  obtain ⟨h1, h2, h3, h4⟩ := hn
  have l1 := nmk_lt (B := B) (s := s) (k := len) (fun i hi => by have := hB i hi; omega)
  have l2 := nmk_lt (B := fun i => ltW w a i) (s := 0) (k := lnW w a) (fun i hi => by have := h4 (0 + i) (by omega); omega)
  have p1 : 256 ^ len ≤ 256 ^ 6 := Nat.pow_le_pow_right (by decide) h6
  have p2 : 256 ^ lnW w a ≤ 256 ^ 6 := Nat.pow_le_pow_right (by decide) h3
  have e0 : nmk (fun i => ltW w a i) 0 (lnW w a) = nsum (fun i => ltW w a i * 256 ^ i) (lnW w a) := by
    unfold nmk
    congr 1
    funext i
    rw [Nat.zero_add]
  rw [e0] at l2
  have key : pnm w a = ll (nmk B s len) ↔ nmE w a B s len = true := by
    unfold pnm
    rw [ll_eq (by omega) (by omega), nmE_t]
    refine ⟨fun h => ?_, fun ⟨g1, g2⟩ => ?_⟩
    · obtain ⟨e1, e2⟩ := dig_uq _ _ _ (fun i => B (s + i)) (fun i hi => by have := h4 i hi; omega) (fun i hi => by have := hB i hi; omega) h
      exact ⟨e1, fun i hi => by rw [(h4 i (by omega)).1, e2 i (by omega)]⟩
    · unfold nmk
      subst g1
      have cg : ∀ k, k ≤ lnW w a → nsum (fun i => ltW w a i * 256 ^ i) k = nsum (fun i => B (s + i) * 256 ^ i) k := by
        intro k
        induction k with
        | zero => intro _; rfl
        | succ k ih =>
          intro hk
          have e3 : ltW w a k = B (s + k) := by
            obtain ⟨x1, x2, x3⟩ := h4 k (by omega)
            have := g2 k (by omega)
            rw [x1, nn_eq (by omega) (by have := hB k (by omega); omega)] at this
            exact this
          show nsum _ k + ltW w a k * 256 ^ k = nsum _ k + B (s + k) * 256 ^ k
          rw [ih (by omega), e3]
      exact cg _ (Nat.le_refl _)
  cases hx : nmE w a B s len
  · exact beq_eq_false_iff_ne.mpr (fun z => by rw [key.mp z] at hx; exact absurd hx (by decide))
  · exact beq_iff_eq.mpr (key.mpr hx)
/-- the model holds the name of the token at s -/
def nmH (J : am_I) (m : Nat) (B : Nat → Nat) (s len : Nat) : Prop := J m 18 = nn len ∧ ∀ i, i < len → J (m + 12) i = nn (B (s + i))
def fNm (w : Nat → Int32) (a0 st : Nat) (B : Nat → Nat) (s len N : Nat) : Int32 := if ffs (fun j => nmE w (a0 + j * st) B s len) N < N then nn (ffs (fun j => nmE w (a0 + j * st) B s len) N) else -1
section NM
variable {d mc ms : Nat} {Γ : am_G} {I : am_I} {L : am_L} {B : Nat → Nat} {n s m : Nat}
end NM
