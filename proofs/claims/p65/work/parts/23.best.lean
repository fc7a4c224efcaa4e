/-! LONGS; SETS AS NUMBERS; THE BEST RANKS, pure -/
def ll (k : Nat) : Int64 := Int64.ofNat k
theorem ll_add (a b : Nat) : ll a + ll b = ll (a + b) := (Int64.ofNat_add a b).symm
theorem ll_mul (a b : Nat) : ll a * ll b = ll (a * b) := (Int64.ofNat_mul a b).symm
theorem ll_lt {a b : Nat} (ha : a < 9223372036854775808) (hb : b < 9223372036854775808) : ll a < ll b ↔ a < b := Int64.ofNat_lt_iff_lt ha hb
theorem ll_of {k : Nat} (h : k < 2147483648) : (nn k).toInt64 = ll k := Int32.toInt64_ofNat' (by rw [Int32.toInt_maxValue]; omega)
theorem ll_to (k : Nat) : (ll k).toInt32 = nn k := Int64.toInt32_ofNat'
theorem ll_bv (k : Nat) : (ll k).toBitVec = BitVec.ofNat 64 k := rfl
theorem ll_or (a b : Nat) : ll a ||| ll b = ll (a ||| b) := by
  refine Int64.toBitVec_inj.mp ?_
  rw [Int64.toBitVec_or, ll_bv, ll_bv, ll_bv, BitVec.ofNat_or]
theorem ll_sm : ∀ t : Nat, t < 64 → (((nn t).toInt64 &&& 63 : Int64).toBitVec.smod 64#64).toNat = t := by decide
theorem ll_shl {a t : Nat} (ht : t < 64) : ll a <<< ((nn t).toInt64 &&& 63) = ll (a * 2 ^ t) := by
  refine Int64.toBitVec_inj.mp ?_
  rw [Int64.toBitVec_shiftLeft]
  show (ll a).toBitVec <<< (((nn t).toInt64 &&& 63 : Int64).toBitVec.smod 64#64) = _
  rw [BitVec.shiftLeft_eq', ll_sm t ht, ll_bv, ll_bv]
  refine BitVec.eq_of_toNat_eq ?_
  rw [BitVec.toNat_shiftLeft, BitVec.toNat_ofNat, BitVec.toNat_ofNat, Nat.shiftLeft_eq, Nat.mod_mul_mod]
theorem ll_shr {a t : Nat} (ha : a < 9223372036854775808) (ht : t < 64) : ll a >>> ((nn t).toInt64 &&& 63) = ll (a / 2 ^ t) := by
  refine Int64.toBitVec_inj.mp ?_
  rw [Int64.toBitVec_shiftRight]
  show (ll a).toBitVec.sshiftRight' (((nn t).toInt64 &&& 63 : Int64).toBitVec.smod 64#64) = _
  have hm : (BitVec.ofNat 64 a).msb = false := by
    rw [BitVec.msb_eq_decide, BitVec.toNat_ofNat]
    simp only [decide_eq_false_iff_not]
    omega
  rw [BitVec.sshiftRight_eq', ll_sm t ht, ll_bv, ll_bv, BitVec.sshiftRight_eq_of_msb_false hm]
  refine BitVec.eq_of_toNat_eq ?_
  rw [BitVec.toNat_ushiftRight, BitVec.toNat_ofNat, BitVec.toNat_ofNat, Nat.mod_eq_of_lt (by omega : a < 2 ^ 64), Nat.shiftRight_eq_div_pow, Nat.mod_eq_of_lt]
  exact Nat.lt_of_le_of_lt (Nat.div_le_self _ _) (by omega)
/-- a set as a number: the places below n where p holds -/
def msk (p : Nat → Bool) : Nat → Nat
  | 0 => 0
  | n + 1 => msk p n + if p n then 2 ^ n else 0
theorem msk_lt (p : Nat → Bool) : ∀ n, msk p n < 2 ^ n
  | 0 => by show 0 < 2 ^ 0; exact Nat.two_pow_pos 0
  | n + 1 => by
    have := msk_lt p n
    show msk p n + (if p n then 2 ^ n else 0) < 2 ^ (n + 1)
    rw [Nat.pow_succ]
    split <;> omega
theorem bit_add {a n : Nat} (h : a < 2 ^ n) (i : Nat) : (a + 2 ^ n).testBit i = (decide (i = n) || a.testBit i) := by
  rw [Nat.add_comm]
  by_cases hi : i < n
  · rw [Nat.testBit_two_pow_add_gt hi, decide_eq_false (by omega)]
    rfl
  · by_cases he : i = n
    · subst he
      rw [Nat.testBit_two_pow_add_eq, Nat.testBit_lt_two_pow h]
      simp
    · rw [decide_eq_false he, Nat.testBit_lt_two_pow (x := 2 ^ n + a), Nat.testBit_lt_two_pow (x := a)]
      · rfl
      · exact Nat.lt_of_lt_of_le h (Nat.pow_le_pow_right (by decide) (by omega))
      · have : 2 ^ (n + 1) ≤ 2 ^ i := Nat.pow_le_pow_right (by decide) (by omega)
        rw [Nat.pow_succ] at this
        omega
theorem msk_bit (p : Nat → Bool) (i : Nat) : ∀ n, (msk p n).testBit i = (decide (i < n) && p i)
  | 0 => by show Nat.testBit 0 i = _; simp
  | n + 1 => by
    have ih := msk_bit p i n
    show (msk p n + (if p n then 2 ^ n else 0)).testBit i = _
    cases hp : p n
    · simp only [Bool.false_eq_true, if_false, Nat.add_zero]
      rw [ih]
      by_cases hi : i < n
      · rw [decide_eq_true hi, decide_eq_true (by omega : i < n + 1)]
      · by_cases he : i = n
        · subst he
          rw [hp, Bool.and_false, Bool.and_false]
        · rw [decide_eq_false hi, decide_eq_false (by omega : ¬ i < n + 1)]
    · simp only [if_true]
      rw [bit_add (msk_lt p n), ih]
      by_cases he : i = n
      · subst he
        rw [decide_eq_true rfl, hp, decide_eq_true (by omega : i < i + 1)]
        rfl
      · rw [decide_eq_false he]
        by_cases hi : i < n
        · rw [decide_eq_true hi, decide_eq_true (by omega : i < n + 1)]; rfl
        · rw [decide_eq_false hi, decide_eq_false (by omega : ¬ i < n + 1)]; rfl
theorem or_pow {a n : Nat} (h : a < 2 ^ n) : a ||| 2 ^ n = a + 2 ^ n := by
  refine Nat.eq_of_testBit_eq (fun i => ?_)
  rw [bit_add h, Nat.testBit_or, Nat.testBit_two_pow, Bool.or_comm]
  congr 1
  simp [eq_comm]
/-- the complement within -/
def nots (S Y : Nat) : Nat := S ^^^ (S &&& Y)
theorem nots_bit (S Y i : Nat) : (nots S Y).testBit i = (S.testBit i && !Y.testBit i) := by
  unfold nots
  rw [Nat.testBit_xor, Nat.testBit_and]
  cases S.testBit i <;> cases Y.testBit i <;> rfl
theorem and_nots (S Y : Nat) : (S &&& Y) + nots S Y = S := by
  have h : (S &&& Y) &&& nots S Y = 0 := by
    refine Nat.eq_of_testBit_eq (fun i => ?_)
    rw [Nat.testBit_and, nots_bit, Nat.testBit_and, Nat.zero_testBit]
    cases S.testBit i <;> cases Y.testBit i <;> rfl
  have hw : (S &&& Y) + nots S Y < 2 ^ ((S &&& Y) + nots S Y) := by first | exact Nat.lt_two_pow_self | exact Nat.lt_two_pow_self _
  have e := congrArg BitVec.toNat (BitVec.add_eq_or_of_and_eq_zero (BitVec.ofNat ((S &&& Y) + nots S Y) (S &&& Y)) (BitVec.ofNat ((S &&& Y) + nots S Y) (nots S Y)) (by rw [← BitVec.ofNat_and, h]))
  rw [BitVec.toNat_add, BitVec.toNat_or, BitVec.toNat_ofNat, BitVec.toNat_ofNat, Nat.mod_eq_of_lt (a := S &&& Y) (by omega), Nat.mod_eq_of_lt (a := nots S Y) (by omega), Nat.mod_eq_of_lt hw] at e
  rw [e]
  refine Nat.eq_of_testBit_eq (fun i => ?_)
  rw [Nat.testBit_or, nots_bit, Nat.testBit_and]
  cases S.testBit i <;> cases Y.testBit i <;> rfl
/-- sums of numbers -/
def nsum (f : Nat → Nat) : Nat → Nat
  | 0 => 0
  | n + 1 => nsum f n + f n
theorem nsum_congr {f g : Nat → Nat} : ∀ (n : Nat), (∀ k, k < n → f k = g k) → nsum f n = nsum g n
  | 0, _ => rfl
  | n + 1, h => by
    show nsum f n + f n = nsum g n + g n
    rw [nsum_congr n (fun k hk => h k (by omega)), h n (by omega)]
theorem nsum_add {f g h : Nat → Nat} : ∀ (n : Nat), (∀ k, k < n → h k = f k + g k) → nsum h n = nsum f n + nsum g n
  | 0, _ => rfl
  | n + 1, e => by
    show nsum h n + h n = nsum f n + f n + (nsum g n + g n)
    rw [nsum_add n (fun k hk => e k (by omega)), e n (by omega)]
    omega
theorem nsum_le {f : Nat → Nat} {m : Nat} : ∀ (n : Nat), (∀ k, k < n → f k ≤ m) → nsum f n ≤ n * m
  | 0, _ => Nat.zero_le _
  | n + 1, h => by
    show nsum f n + f n ≤ (n + 1) * m
    have := nsum_le n (fun k hk => h k (by omega))
    have := h n (by omega)
    rw [Nat.succ_mul]
    omega
theorem nsum_mono {f g : Nat → Nat} : ∀ (n : Nat), (∀ k, k < n → f k ≤ g k) → nsum f n ≤ nsum g n
  | 0, _ => Nat.le_refl _
  | n + 1, h => by
    show nsum f n + f n ≤ nsum g n + g n
    have := nsum_mono n (fun k hk => h k (by omega))
    have := h n (by omega)
    omega
theorem fsum_nn {f : Nat → Int32} {g : Nat → Nat} : ∀ (n : Nat), (∀ k, k < n → f k = nn (g k)) → fsum f n = nn (nsum g n)
  | 0, _ => rfl
  | n + 1, h => by
    show fsum f n + f n = nn (nsum g n + g n)
    rw [fsum_nn n (fun k hk => h k (by omega)), h n (by omega), nn_add]
section BEST
variable (Q T : Nat) (qc ys tl ct : Nat → Nat) (fb : Nat → Bool)
/-- the weight of a set -/
def wt (S : Nat) : Nat := nsum (fun t => if S.testBit t then ct t else 0) T
/-- the weight of those that bear a toll -/
def wtl (S v : Nat) : Nat := nsum (fun t => if S.testBit t && decide (tl t = v) then ct t else 0) T
/-- the types with the toll of type t -/
def same (t : Nat) : Nat := msk (fun u => decide (tl u = tl t)) T
def mxw (S : Nat) : Nat → Nat
  | 0 => 0
  | k + 1 => max (mxw S k) (wtl T tl ct S (tl k))
def lfe (S : Nat) : Nat := wt T ct S - mxw T tl ct S T
/-- question q splits the set -/
def oks (q S : Nat) : Bool := !fb q && !decide (S &&& ys q = 0) && !decide (nots S (ys q) = 0)
def cand (sub : Nat → Nat → Nat) (q S l : Nat) : Nat := (sub (S &&& ys q) (l - qc q) / 8 + sub (nots S (ys q)) (l - qc q) / 8 + qc q * wt T ct S) * 8 + (q + 1)
def bq (sub : Nat → Nat → Nat) (S l : Nat) : Nat → Nat
  | 0 => lfe T tl ct S * 33554432
  | k + 1 => if oks ys fb k S && decide (qc k ≤ l) then min (bq sub S l k) (cand T qc ys ct sub k S l) else bq sub S l k
def bst : Nat → Nat → Nat → Nat
  | 0, _, _ => 0
  | f + 1, S, l => bq T qc ys tl ct fb (bst f) S l Q
theorem oks_lt {q S : Nat} (h : oks ys fb q S = true) : S &&& ys q < S ∧ nots S (ys q) < S ∧ S &&& ys q ≠ 0 ∧ nots S (ys q) ≠ 0 := by
  unfold oks at h
  simp only [Bool.and_eq_true, Bool.not_eq_true', decide_eq_false_iff_not] at h
  have := and_nots S (ys q)
  omega
theorem bq_congr {sub sub' : Nat → Nat → Nat} {S l : Nat} (h : ∀ S', S' < S → ∀ l', sub S' l' = sub' S' l') : ∀ k, bq T qc ys tl ct fb sub S l k = bq T qc ys tl ct fb sub' S l k
  | 0 => rfl
  | k + 1 => by
    show (if oks ys fb k S && decide (qc k ≤ l) then min (bq T qc ys tl ct fb sub S l k) (cand T qc ys ct sub k S l) else bq T qc ys tl ct fb sub S l k) = (if oks ys fb k S && decide (qc k ≤ l) then min (bq T qc ys tl ct fb sub' S l k) (cand T qc ys ct sub' k S l) else bq T qc ys tl ct fb sub' S l k)
    rw [bq_congr h k]
    by_cases ho : oks ys fb k S = true
    · obtain ⟨h1, h2, -, -⟩ := oks_lt ys fb ho
      unfold cand
      rw [h _ h1, h _ h2]
    · simp only [Bool.not_eq_true] at ho
      rw [ho]
      simp
theorem bst_fuel : ∀ (f f' S l : Nat), S < f → S < f' → bst Q T qc ys tl ct fb f S l = bst Q T qc ys tl ct fb f' S l
  | 0, _, _, _, h, _ => absurd h (Nat.not_lt_zero _)
  | _ + 1, 0, _, _, _, h => absurd h (Nat.not_lt_zero _)
  | f + 1, f' + 1, S, l, h, h' => bq_congr T qc ys tl ct fb (fun S' hS l' => bst_fuel f f' S' l' (by omega) (by omega)) Q
/-- the rank of the best tree of a set within a limit -/
def bB (S l : Nat) : Nat := bst Q T qc ys tl ct fb 256 S l
theorem bB_eq {S l : Nat} (h : S < 256) : bB Q T qc ys tl ct fb S l = bq T qc ys tl ct fb (bB Q T qc ys tl ct fb) S l Q :=
  bq_congr T qc ys tl ct fb (fun S' hS l' => bst_fuel Q T qc ys tl ct fb 255 256 S' l' (by omega) (by omega)) Q
variable {Q T qc ys tl ct fb}
theorem wt_le (hT : T ≤ 8) (hc : ∀ t, t < T → ct t ≤ 9999) (S : Nat) : wt T ct S ≤ 79992 := by
  have := nsum_le (f := fun t => if S.testBit t then ct t else 0) (m := 9999) T (fun k hk => by
    show (if S.testBit k then ct k else 0) ≤ 9999
    split
    · exact hc k hk
    · omega)
  have h2 : T * 9999 ≤ 8 * 9999 := Nat.mul_le_mul_right _ hT
  unfold wt
  omega
theorem wtl_le (S v : Nat) : wtl T tl ct S v ≤ wt T ct S := by
  refine nsum_mono T (fun k _ => ?_)
  show (if S.testBit k && decide (tl k = v) then ct k else 0) ≤ (if S.testBit k then ct k else 0)
  cases S.testBit k <;> cases decide (tl k = v) <;> simp
theorem mxw_le (S : Nat) : ∀ k, mxw T tl ct S k ≤ wt T ct S
  | 0 => Nat.zero_le _
  | k + 1 => by
    show max _ _ ≤ _
    have := mxw_le S k
    have := wtl_le (T := T) (tl := tl) (ct := ct) S (tl k)
    omega
theorem wt_split (S Y : Nat) : wt T ct S = wt T ct (S &&& Y) + wt T ct (nots S Y) := by
  refine nsum_add T (fun k _ => ?_)
  rw [nots_bit, Nat.testBit_and]
  cases S.testBit k <;> cases Y.testBit k <;> simp
/-- errors at most the weight, work at most limit times weight, root a question -/
theorem bB_b (hQ : Q ≤ 6) (hT : T ≤ 8) (hc : ∀ t, t < T → ct t ≤ 9999) : ∀ (S : Nat), S < 256 → ∀ l, l ≤ 30 →
    bB Q T qc ys tl ct fb S l / 33554432 ≤ wt T ct S ∧ bB Q T qc ys tl ct fb S l / 8 % 4194304 ≤ l * wt T ct S ∧
    (bB Q T qc ys tl ct fb S l % 8 ≠ 0 → ∃ q, q < Q ∧ oks ys fb q S = true ∧ qc q ≤ l ∧ bB Q T qc ys tl ct fb S l % 8 = q + 1) := by
  intro S
  induction S using Nat.strongRecOn with
  | ind S ih =>
    intro hS l hl
    rw [bB_eq Q T qc ys tl ct fb hS]
    have key : ∀ k, k ≤ Q → bq T qc ys tl ct fb (bB Q T qc ys tl ct fb) S l k / 33554432 ≤ wt T ct S ∧ bq T qc ys tl ct fb (bB Q T qc ys tl ct fb) S l k / 8 % 4194304 ≤ l * wt T ct S ∧
        (bq T qc ys tl ct fb (bB Q T qc ys tl ct fb) S l k % 8 ≠ 0 → ∃ q, q < Q ∧ oks ys fb q S = true ∧ qc q ≤ l ∧ bq T qc ys tl ct fb (bB Q T qc ys tl ct fb) S l k % 8 = q + 1) := by
      intro k
      induction k with
      | zero =>
        intro _
        have : lfe T tl ct S ≤ wt T ct S := Nat.sub_le _ _
        show lfe T tl ct S * 33554432 / 33554432 ≤ _ ∧ lfe T tl ct S * 33554432 / 8 % 4194304 ≤ _ ∧ (lfe T tl ct S * 33554432 % 8 ≠ 0 → _)
        refine ⟨by omega, by omega, fun h => absurd (by omega) h⟩
      | succ k ihk =>
        intro hk
        have ihk := ihk (by omega)
        rw [show bq T qc ys tl ct fb (bB Q T qc ys tl ct fb) S l (k + 1) = (if oks ys fb k S && decide (qc k ≤ l) then min (bq T qc ys tl ct fb (bB Q T qc ys tl ct fb) S l k) (cand T qc ys ct (bB Q T qc ys tl ct fb) k S l) else bq T qc ys tl ct fb (bB Q T qc ys tl ct fb) S l k) from rfl]
        by_cases ho : (oks ys fb k S && decide (qc k ≤ l)) = true
        · rw [if_pos ho]
          by_cases hm : bq T qc ys tl ct fb (bB Q T qc ys tl ct fb) S l k ≤ cand T qc ys ct (bB Q T qc ys tl ct fb) k S l
          · rw [Nat.min_eq_left hm]; exact ihk
          · rw [Nat.min_eq_right (by omega)]
            rw [Bool.and_eq_true, decide_eq_true_eq] at ho
            obtain ⟨h1, h2, h3, h4⟩ := oks_lt ys fb ho.1
            obtain ⟨a1, a2, -⟩ := ih _ h1 (by omega) (l - qc k) (by omega)
            obtain ⟨b1, b2, -⟩ := ih _ h2 (by omega) (l - qc k) (by omega)
            have hw := wt_split (T := T) (ct := ct) S (ys k)
            have hw2 := wt_le (T := T) (ct := ct) hT hc S
            have e1 : (l - qc k) * wt T ct S = (l - qc k) * wt T ct (S &&& ys k) + (l - qc k) * wt T ct (nots S (ys k)) := by rw [hw, Nat.mul_add]
            have e2 : l * wt T ct S = (l - qc k) * wt T ct S + qc k * wt T ct S := by rw [← Nat.add_mul]; congr 1; omega
            have e3 : l * wt T ct S ≤ 30 * 79992 := Nat.mul_le_mul hl hw2
            unfold cand
            generalize bB Q T qc ys tl ct fb (S &&& ys k) (l - qc k) = x at a1 a2 ⊢
            generalize bB Q T qc ys tl ct fb (nots S (ys k)) (l - qc k) = y at b1 b2 ⊢
            generalize qc k * wt T ct S = z at e2 ⊢
            generalize (l - qc k) * wt T ct S = z1 at e1 e2
            generalize (l - qc k) * wt T ct (S &&& ys k) = z2 at e1 a2
            generalize (l - qc k) * wt T ct (nots S (ys k)) = z3 at e1 b2
            generalize l * wt T ct S = z4 at e2 e3 ⊢
            refine ⟨by omega, by omega, fun _ => ⟨k, by omega, ho.1, ho.2, by omega⟩⟩
        · rw [if_neg ho]
          exact ihk
    exact key Q (Nat.le_refl _)
theorem bB_lt (hQ : Q ≤ 6) (hT : T ≤ 8) (hc : ∀ t, t < T → ct t ≤ 9999) {S l : Nat} (hS : S < 256) (hl : l ≤ 30) : bB Q T qc ys tl ct fb S l < 79993 * 33554432 := by
  have h := (bB_b (Q := Q) (qc := qc) (ys := ys) (tl := tl) (fb := fb) hQ hT hc S hS l hl).1
  have := wt_le (T := T) (ct := ct) hT hc S
  omega
theorem wt_pow {S k : Nat} (hS : S < 2 ^ k) (hk : k < T) : wt T ct (S + 2 ^ k) = wt T ct S + ct k := by
  have key : ∀ n, nsum (fun t => if (S + 2 ^ k).testBit t then ct t else 0) n = nsum (fun t => if S.testBit t then ct t else 0) n + if k < n then ct k else 0 := by
    intro n
    induction n with
    | zero => rfl
    | succ n ih =>
      show nsum (fun t => if (S + 2 ^ k).testBit t then ct t else 0) n + (if (S + 2 ^ k).testBit n then ct n else 0) = nsum (fun t => if S.testBit t then ct t else 0) n + (if S.testBit n then ct n else 0) + _
      rw [ih, bit_add hS]
      by_cases hn : n = k
      · subst hn
        rw [Nat.testBit_lt_two_pow hS]
        simp
      · rw [decide_eq_false hn]
        by_cases h : k < n
        · rw [if_pos h, if_pos (show k < n + 1 by omega)]
          simp only [Bool.false_or]
          omega
        · rw [if_neg h, if_neg (show ¬ k < n + 1 by omega)]
          simp
  have := key T
  rw [if_pos hk] at this
  exact this
theorem wt_0 : wt T ct 0 = 0 := by
  unfold wt
  have := nsum_le (f := fun t => if (0 : Nat).testBit t then ct t else 0) (m := 0) T (fun k _ => by simp)
  omega
theorem wt_same (S t : Nat) : wt T ct (S &&& same T tl t) = wtl T tl ct S (tl t) := by
  refine nsum_congr T (fun k hk => ?_)
  show (if (S &&& same T tl t).testBit k then ct k else 0) = (if S.testBit k && decide (tl k = tl t) then ct k else 0)
  unfold same
  rw [Nat.testBit_and, msk_bit, decide_eq_true hk, Bool.true_and]
end BEST
