/-! CONTRACTS OF THE MODEL: changes of the row -/
theorem wcA_cg {tq ts cs tq' ts' cs' : Nat → Int32} {k : Int32} {N : Nat} (h : ∀ n, n < N → tq' n = tq n ∧ ts' n = ts n) (hc : ∀ n, n < N → tq n ≠ -1 → cs' (tq n).toNatClampNeg = cs (tq n).toNatClampNeg) : wcA tq' ts' cs' k N = wcA tq ts cs k N := by
  refine fsum_congr N (fun n hn => ?_)
  rw [(h n hn).1, (h n hn).2]
  by_cases hz : tq n ≠ -1 ∧ ib (ts n) k = true
  · rw [if_pos hz, if_pos hz, hc n hn hz.1]
  · rw [if_neg hz, if_neg hz]
theorem mul_sub_neg (x n p d : Int32) : x - n * (p - d) = x + n * (d - p) := by
  rw [show d - p = -(p - d) from (Int32.neg_sub).symm, Int32.mul_neg, ← Int32.sub_eq_add_neg]
def hlk (w : Nat → Int32) (g k : Nat) : Nat → Int32 := fun j => if 132 + g * 94 + 10 ≤ j ∧ j < 132 + g * 94 + 10 + k then w j / 2 else w j
theorem mWgt_all {w : Nat → Int32} {g T : Nat} (hT : T ≤ 8) : mWgt w g (nn (2 ^ T - 1)) T = mCnt w g T := by
  have p8 := two_le8 hT
  refine fsum_congr T (fun t ht => ?_)
  rw [ib_nn (by omega) (by omega), all_bit ht]
  rfl
section M5
variable {d : Nat} {Γ : am_G} {I : am_I} {L : am_L} {m : Nat} {g Q T e : Nat} {qc ty tl ct : Nat → Nat}
theorem at1 (J : am_I) (m i : Nat) (v : Int32) (j : Nat) : am_u J m i v m j = if j = i then v else J m j := by
  rw [am_u_at]
  by_cases h : j = i
  · rw [if_pos ⟨rfl, h⟩, if_pos h]
  · rw [if_neg (fun z => h z.2), if_neg h]
end M5
