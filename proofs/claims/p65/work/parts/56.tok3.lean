/-! THE TEXT'S TOKENS: the model goes from one to the next -/
def rmB (I : am_I) (m : Nat) (B : Nat → Nat) (n : Nat) : Prop := n ≤ 700 ∧ I m 9 = nn n ∧ ∀ j, j < n → B j < 256 ∧ I (m + 6) j = nn (B j)
def kdM (k : Nat) : Nat := if k = 3 then 0 else if k = 0 then 1 else if k = 1 then 2 else if k = 2 then 3 else 4
/-- the model stands at the token s -/
def tkM (B : Nat → Nat) (n : Nat) (I : am_I) (m s : Nat) : Prop := s ≤ n ∧ I m 20 = nn s ∧ I m 19 = nn (kdM (kd B n s)) ∧ I m 21 = nn (en B n s) ∧ (kd B n s = 1 → ∃ x, I m 22 = nn x ∧ x = min (vl B n s) 100000)
def frM (I I' : am_I) (m : Nat) : Prop := (∀ k, k ≠ m → I' k = I k) ∧ ∀ j, j ≠ 19 → j ≠ 20 → j ≠ 21 → j ≠ 22 → I' m j = I m j
section TM
variable {d mc ms : Nat} {Γ : am_G} {I : am_I} {L : am_L} {B : Nat → Nat} {n m : Nat}
theorem inR_nn {b lo hi : Nat} (hb : b < 256) (hlo : lo < 1000) (hh : hi < 1000) : inR (nn b) (nn lo) (nn hi) = (decide (lo ≤ b) && decide (b ≤ hi)) := by
  unfold inR
  rw [show decide (nn lo ≤ nn b) = decide (lo ≤ b) from decide_eq_decide.mpr (nn_le (by omega) (by omega)), show decide (nn b ≤ nn hi) = decide (b ≤ hi) from decide_eq_decide.mpr (nn_le (by omega) (by omega))]
theorem mcap_s {v b : Nat} (hd : 48 ≤ b ∧ b ≤ 57) : (if nn (min v 100000) * 10 + nn b - 48 < 100000 then nn (min v 100000) * 10 + nn b - 48 else 100000) = nn (min (v * 10 + (b - 48)) 100000) := by
  have e : (nn (min v 100000) * 10 + nn b - 48 : Int32) = nn (min v 100000 * 10 + (b - 48)) := by
    show nn _ * nn 10 + nn b - nn 48 = _
    rw [nn_mul, nn_add, nn_sub (by omega), show min v 100000 * 10 + b - 48 = min v 100000 * 10 + (b - 48) by omega]
  rw [e]
  have hl : (nn (min v 100000 * 10 + (b - 48)) < 100000) ↔ min v 100000 * 10 + (b - 48) < 100000 := nn_lt (b := 100000) (by omega) (by decide)
  by_cases h : min v 100000 * 10 + (b - 48) < 100000
  · rw [if_pos (hl.mpr h)]
    exact congrArg nn (by omega)
  · rw [if_neg (fun z => h (hl.mp z))]
    exact congrArg nn (show 100000 = _ by omega)
end TM
