/-! CONTRACTS OF THE MODEL: rows, gates, types, sets -/
def thr (a b c : Bool) : Int32 := if a then 1 else if b then 2 else if c then 3 else 0
def inR (v lo hi : Int32) : Bool := decide (lo ≤ v) && decide (v ≤ hi)
/-- the numbers of a row that best trees are made of -/
def mda (w : Nat → Int32) (g Q T : Nat) (qc ty tl ct : Nat → Nat) : Prop :=
  w 0 = nn Q ∧ w 1 = nn T ∧ Q ≤ 6 ∧ 0 < T ∧ T ≤ 8 ∧ (∀ q, q < Q → w (12 + q * 8) = nn (qc q) ∧ 1 ≤ qc q ∧ qc q ≤ 9) ∧ ∀ t, t < T → w (60 + t * 9) = nn (tl t) ∧ tl t ≤ 99 ∧ w (60 + t * 9 + 1) = nn (ty t) ∧ ty t < 64 ∧ w (132 + g * 94 + (10 + t)) = nn (ct t) ∧ ct t ≤ 9999
/-- the types that say yes to question q -/
def yse (T : Nat) (ty : Nat → Nat) (q : Nat) : Nat := msk (fun t => (ty t).testBit q) T
theorem msk_and (p : Nat → Bool) (S T : Nat) : msk (fun t => S.testBit t && p t) T = S &&& msk p T := by
  refine Nat.eq_of_testBit_eq (fun i => ?_)
  rw [Nat.testBit_and, msk_bit, msk_bit]
  cases decide (i < T) <;> cases S.testBit i <;> rfl
theorem bi_not (b : Bool) : bi (!b) = if bi b = 0 then 1 else 0 := by cases b <;> rfl
theorem nn_inj {a b : Nat} (ha : a < 2147483648) (hb : b < 2147483648) (h : nn a = nn b) : a = b := (nn_eq ha hb).mp h
section M1
variable {d : Nat} {Γ : am_G} {I : am_I} {L : am_L} {m : Nat}
def mOpen (w : Nat → Int32) : Nat → Int32 := fsum (fun g => bi (opens (w (132 + g * 94 + 0)) (w (132 + g * 94 + 1)) (w 3 - w 3 / 24 * 24)))
variable {g Q T : Nat} {qc ty tl ct : Nat → Nat}
end M1
