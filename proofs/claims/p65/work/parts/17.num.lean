/-! SMALL WHOLE NUMBERS: nn k is k as an int -/
def nn (k : Nat) : Int32 := Int32.ofNat k
theorem nn_of (k : Nat) : Int32.ofNat k = nn k := rfl
theorem nn_toInt {k : Nat} (h : k < 2147483648) : (nn k).toInt = k := Int32.toInt_ofNat_of_lt h
theorem nn_nat {k : Nat} (h : k < 2147483648) : (nn k).toNatClampNeg = k := Int32.toNatClampNeg_ofNat_of_lt h
theorem nn_add (a b : Nat) : nn a + nn b = nn (a + b) := (Int32.ofNat_add a b).symm
theorem nn_mul (a b : Nat) : nn a * nn b = nn (a * b) := (Int32.ofNat_mul a b).symm
theorem nn_sub {a b : Nat} (h : b ≤ a) : nn a - nn b = nn (a - b) := (Int32.ofNat_sub a b h).symm
theorem nn_lt {a b : Nat} (ha : a < 2147483648) (hb : b < 2147483648) : nn a < nn b ↔ a < b := Int32.ofNat_lt_iff_lt ha hb
theorem nn_le {a b : Nat} (ha : a < 2147483648) (hb : b < 2147483648) : nn a ≤ nn b ↔ a ≤ b := Int32.ofNat_le_iff_le ha hb
theorem nn_eq {a b : Nat} (ha : a < 2147483648) (hb : b < 2147483648) : nn a = nn b ↔ a = b :=
  ⟨fun h => by have := congrArg Int32.toNatClampNeg h; rwa [nn_nat ha, nn_nat hb] at this, fun h => by rw [h]⟩
theorem nn_0 : (0 : Int32) = nn 0 := rfl
theorem nn_1 : (1 : Int32) = nn 1 := rfl
theorem nn_div {a b : Nat} (ha : a < 2147483648) (hb : b < 2147483648) : nn a / nn b = nn (a / b) := (Int32.ofNat_div ha hb).symm
theorem nn_rem {a b : Nat} (ha : a < 2147483648) (hb : b < 2147483648) : nn a - nn a / nn b * nn b = nn (a % b) := by
  rw [nn_div ha hb, nn_mul, nn_sub (Nat.div_mul_le_self a b)]
  congr 1
  have := Nat.div_add_mod a b
  have h2 : b * (a / b) = a / b * b := Nat.mul_comm _ _
  omega
theorem nn_neg_lt {k : Nat} (h : k < 2147483648) : ¬ nn k < 0 := by
  rw [nn_0, nn_lt h (by decide)]; omega
theorem nn_neg_le {k : Nat} (h : k < 2147483648) : (0 : Int32) ≤ nn k := by
  rw [nn_0, nn_le (by decide) h]; omega
theorem nn_in {k n : Nat} (h : k < 2147483648) (hk : k < n) : vp_in (nn k) n := by
  unfold vp_in
  rw [nn_nat h]
  exact fun z => z.elim (nn_neg_lt h) (fun z => by omega)
theorem nn_inv {v : Int32} {n : Nat} (h : vp_in v n) : ∃ k, k < n ∧ v = nn k := by
  unfold vp_in at h
  have h0 : 0 ≤ v := by
    have := fun z => h (Or.inl z)
    rw [← Int32.not_lt]; exact this
  exact ⟨v.toNatClampNeg, by have := fun z => h (Or.inr z); omega, (Int32.ofNat_toNatClampNeg v h0).symm⟩
theorem nn_ex {v : Int32} {n : Nat} (h0 : ¬ v < 0) (h1 : ¬ nn n ≤ v) (hn : n < 2147483648) : ∃ k, k < n ∧ v = nn k := by
  have h0' : 0 ≤ v := by rw [← Int32.not_lt]; exact h0
  have e : v = nn v.toNatClampNeg := (Int32.ofNat_toNatClampNeg v h0').symm
  have hv := Int32.toNatClampNeg_lt v
  refine ⟨v.toNatClampNeg, ?_, e⟩
  rw [e, nn_le hn (by omega)] at h1
  omega
theorem nn_ex2 {v : Int32} {n : Nat} (h0 : ¬ v < 0) (h1 : ¬ nn n < v) (hn : n < 2147483648) : ∃ k, k ≤ n ∧ v = nn k := by
  have h0' : 0 ≤ v := by rw [← Int32.not_lt]; exact h0
  have e : v = nn v.toNatClampNeg := (Int32.ofNat_toNatClampNeg v h0').symm
  have hv := Int32.toNatClampNeg_lt v
  refine ⟨v.toNatClampNeg, ?_, e⟩
  rw [e, nn_lt hn (by omega)] at h1
  omega
theorem nn_none {k : Nat} (h : k < 2147483648) : nn k ≠ -1 := fun z => by
  have := nn_neg_lt h
  rw [z] at this
  exact this (by decide)
theorem nn_bv (k : Nat) : (nn k).toBitVec = BitVec.ofNat 32 k := rfl
theorem nn_and (a b : Nat) : nn a &&& nn b = nn (a &&& b) := by
  refine Int32.toBitVec_inj.mp ?_
  rw [Int32.toBitVec_and, nn_bv, nn_bv, nn_bv, BitVec.ofNat_and]
theorem nn_or (a b : Nat) : nn a ||| nn b = nn (a ||| b) := by
  refine Int32.toBitVec_inj.mp ?_
  rw [Int32.toBitVec_or, nn_bv, nn_bv, nn_bv, BitVec.ofNat_or]
theorem nn_xor (a b : Nat) : nn a ^^^ nn b = nn (a ^^^ b) := by
  refine Int32.toBitVec_inj.mp ?_
  rw [Int32.toBitVec_xor, nn_bv, nn_bv, nn_bv, BitVec.ofNat_xor]
theorem nn_sm : ∀ t : Nat, t < 32 → ((nn t &&& 31 : Int32).toBitVec.smod 32#32).toNat = t := by decide
theorem nn_shl {a t : Nat} (ht : t < 32) : nn a <<< (nn t &&& 31) = nn (a * 2 ^ t) := by
  refine Int32.toBitVec_inj.mp ?_
  rw [Int32.toBitVec_shiftLeft]
  show (nn a).toBitVec <<< ((nn t &&& 31 : Int32).toBitVec.smod 32#32) = _
  rw [BitVec.shiftLeft_eq', nn_sm t ht, nn_bv, nn_bv]
  refine BitVec.eq_of_toNat_eq ?_
  rw [BitVec.toNat_shiftLeft, BitVec.toNat_ofNat, BitVec.toNat_ofNat, Nat.shiftLeft_eq, Nat.mod_mul_mod]
theorem nn_shr {a t : Nat} (ha : a < 2147483648) (ht : t < 32) : nn a >>> (nn t &&& 31) = nn (a >>> t) := by
  refine Int32.toBitVec_inj.mp ?_
  rw [Int32.toBitVec_shiftRight]
  show (nn a).toBitVec.sshiftRight' ((nn t &&& 31 : Int32).toBitVec.smod 32#32) = _
  have hm : (BitVec.ofNat 32 a).msb = false := by
    rw [BitVec.msb_eq_decide, BitVec.toNat_ofNat]
    simp only [decide_eq_false_iff_not]
    omega
  rw [BitVec.sshiftRight_eq', nn_sm t ht, nn_bv, nn_bv, BitVec.sshiftRight_eq_of_msb_false hm]
  refine BitVec.eq_of_toNat_eq ?_
  rw [BitVec.toNat_ushiftRight, BitVec.toNat_ofNat, BitVec.toNat_ofNat, Nat.mod_eq_of_lt (by omega : a < 2 ^ 32), Nat.mod_eq_of_lt]
  exact Nat.lt_of_le_of_lt (Nat.shiftRight_le a t) (by omega)
/-- one bit of a set -/
def nb (a t : Nat) : Nat := if a.testBit t then 1 else 0
theorem nb_lt (a t : Nat) : nb a t < 2 := by unfold nb; split <;> decide
theorem nb_z {a t : Nat} : nb a t = 0 ↔ a.testBit t = false := by
  unfold nb; cases a.testBit t <;> simp
theorem nb_1 {a t : Nat} : nb a t = 1 ↔ a.testBit t = true := by
  unfold nb; cases a.testBit t <;> simp
theorem nn_bit {a t : Nat} (ha : a < 2147483648) (ht : t < 32) : nn a >>> (nn t &&& 31) &&& 1 = nn (nb a t) := by
  rw [nn_shr ha ht, nn_1, nn_and]
  congr 1
  unfold nb
  rw [Nat.and_one_is_mod, Nat.testBit_eq_decide_div_mod_eq, Nat.shiftRight_eq_div_pow]
  simp only [decide_eq_true_eq]
  split <;> omega
theorem nn_andn (a b : Nat) : nn a &&& (nn b ^^^ -1) = nn (a ^^^ (a &&& b)) := by
  refine Int32.toBitVec_inj.mp ?_
  rw [Int32.toBitVec_and, Int32.toBitVec_xor, nn_bv, nn_bv, nn_bv, BitVec.ofNat_xor, BitVec.ofNat_and]
  show BitVec.ofNat 32 a &&& (BitVec.ofNat 32 b ^^^ BitVec.allOnes 32) = _
  refine BitVec.eq_of_getElem_eq (fun i hi => ?_)
  rw [BitVec.getElem_and, BitVec.getElem_xor, BitVec.getElem_xor, BitVec.getElem_and, BitVec.getElem_allOnes]
  cases (BitVec.ofNat 32 a)[i] <;> cases (BitVec.ofNat 32 b)[i] <;> rfl
theorem vp_in_0 {n : Nat} (h : 0 < n) : vp_in 0 n := nn_in (k := 0) (by decide) h
