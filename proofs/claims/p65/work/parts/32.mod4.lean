/-! TREES, and CONTRACTS OF THE MODEL: ways, errors, work -/
section TA
variable (Q : Nat) (ys : Nat → Nat) (tq tt ty tn ts : Nat → Int32)
/-- from n on stands a tree of the set S; behind it e -/
def tva : Nat → Nat → Nat → Nat → Prop
  | 0, _, _, _ => False
  | f + 1, n, S, e => ts n = nn S ∧ ((tq n = -1 ∧ (∃ v, v ≤ 99 ∧ tt n = nn v) ∧ ty n = -1 ∧ tn n = -1 ∧ e = n + 1) ∨
      ∃ q m, q < Q ∧ S &&& ys q ≠ 0 ∧ nots S (ys q) ≠ 0 ∧ tq n = nn q ∧ tt n = -1 ∧ ty n = nn (n + 1) ∧ tn n = nn m ∧ tva f (n + 1) (S &&& ys q) m ∧ tva f m (nots S (ys q)) e)
end TA
/-- the first leaf that holds k -/
def lfA (tq ts : Nat → Int32) (k : Int32) (N : Nat) : Nat := if ffs (fun n => tq n == -1 && ib (ts n) k) N < N then ffs (fun n => tq n == -1 && ib (ts n) k) N else 0
/-- the cost of the nodes below n that hold k -/
def wcA (tq ts cs : Nat → Int32) (k : Int32) : Nat → Int32 := fsum (fun n => if tq n ≠ -1 ∧ ib (ts n) k = true then cs (tq n).toNatClampNeg else 0)
section TA2
variable {Q : Nat} {ys : Nat → Nat} {tq tt ty tn ts tq' tt' ty' tn' ts' : Nat → Int32}
theorem tva_gt : ∀ {f n S e : Nat}, tva Q ys tq tt ty tn ts f n S e → n < e
  | 0, _, _, _, h => h.elim
  | f + 1, n, S, e, h => by
    obtain ⟨-, h | ⟨q, m, -, -, -, -, -, -, -, h1, h2⟩⟩ := h
    · omega
    · have := tva_gt h1
      have := tva_gt h2
      omega
theorem tva_cong : ∀ {f n S e : Nat}, tva Q ys tq tt ty tn ts f n S e → (∀ j, n ≤ j → j < e → tq' j = tq j ∧ tt' j = tt j ∧ ty' j = ty j ∧ tn' j = tn j ∧ ts' j = ts j) → tva Q ys tq' tt' ty' tn' ts' f n S e
  | 0, _, _, _, h, _ => h.elim
  | f + 1, n, S, e, h, hc => by
    have hlt := tva_gt h
    obtain ⟨c1, c2, c3, c4, c5⟩ := hc n (Nat.le_refl _) hlt
    obtain ⟨h0, h | ⟨q, m, e0, e1, e2, e3, e4, e5, e6, h1, h2⟩⟩ := h
    · obtain ⟨a1, ⟨v, v9, a2⟩, a3, a4, a5⟩ := h
      exact ⟨c5.trans h0, Or.inl ⟨c1.trans a1, ⟨v, v9, c2.trans a2⟩, c3.trans a3, c4.trans a4, a5⟩⟩
    · have l1 := tva_gt h1
      have l2 := tva_gt h2
      exact ⟨c5.trans h0, Or.inr ⟨q, m, e0, e1, e2, c1.trans e3, c2.trans e4, c3.trans e5, c4.trans e6, tva_cong h1 (fun j j1 j2 => hc j (by omega) (by omega)), tva_cong h2 (fun j j1 j2 => hc j (by omega) (by omega))⟩⟩
theorem and_lt {S Y N : Nat} (h : S < N) : S &&& Y < N := Nat.lt_of_le_of_lt Nat.and_le_left h
theorem nots_lt {S Y N : Nat} (h : S < N) : nots S Y < N := by have := and_nots S Y; omega
/-- who isn't in the set is at no node -/
theorem tva_out {t : Nat} (ht : t < 32) : ∀ {f n S e : Nat}, tva Q ys tq tt ty tn ts f n S e → S < 2147483648 → S.testBit t = false → ∀ j, n ≤ j → j < e → ib (ts j) (nn t) = false
  | 0, _, _, _, h, _, _ => h.elim
  | f + 1, n, S, e, h, hS, hb => by
    intro j j1 j2
    obtain ⟨h0, h | ⟨q, m, e0, e1, e2, e3, e4, e5, e6, h1, h2⟩⟩ := h
    · obtain rfl : j = n := by omega
      rw [h0, ib_nn hS ht]; exact hb
    · by_cases hj : j = n
      · subst hj
        rw [h0, ib_nn hS ht]; exact hb
      · by_cases hm : j < m
        · exact tva_out ht h1 (and_lt hS) (by rw [Nat.testBit_and, hb]; rfl) j (by omega) hm
        · exact tva_out ht h2 (nots_lt hS) (by rw [nots_bit, hb]; rfl) j (by omega) j2
/-- who is in the set is at one leaf -/
theorem tva_leaf (hQ : Q ≤ 6) {t : Nat} (ht : t < 32) : ∀ {f n S e : Nat}, tva Q ys tq tt ty tn ts f n S e → S < 2147483648 → S.testBit t = true → ∃ l, n ≤ l ∧ l < e ∧ tq l = -1 ∧ ib (ts l) (nn t) = true ∧ ∀ j, n ≤ j → j < e → tq j = -1 → ib (ts j) (nn t) = true → j = l
  | 0, _, _, _, h, _, _ => h.elim
  | f + 1, n, S, e, h, hS, hb => by
    have hlt := tva_gt h
    obtain ⟨h0, h | ⟨q, m, e0, e1, e2, e3, e4, e5, e6, h1, h2⟩⟩ := h
    · exact ⟨n, Nat.le_refl _, hlt, h.1, by rw [h0, ib_nn hS ht]; exact hb, fun j j1 j2 _ _ => by omega⟩
    · have g1 := tva_gt h1
      have g2 := tva_gt h2
      cases hy : (ys q).testBit t
      · obtain ⟨l, l1, l2, l3, l4, l5⟩ := tva_leaf hQ ht h2 (nots_lt hS) (by rw [nots_bit, hb, hy]; rfl)
        refine ⟨l, by omega, l2, l3, l4, fun j j1 j2 j3 j4 => ?_⟩
        by_cases hj : j = n
        · subst hj
          rw [e3] at j3
          exact absurd j3 (nn_none (by omega))
        · by_cases hm : j < m
          · rw [tva_out ht h1 (and_lt hS) (by rw [Nat.testBit_and, hb, hy]; rfl) j (by omega) hm] at j4
            cases j4
          · exact l5 j (by omega) j2 j3 j4
      · obtain ⟨l, l1, l2, l3, l4, l5⟩ := tva_leaf hQ ht h1 (and_lt hS) (by rw [Nat.testBit_and, hb, hy]; rfl)
        refine ⟨l, by omega, by omega, l3, l4, fun j j1 j2 j3 j4 => ?_⟩
        by_cases hj : j = n
        · subst hj
          rw [e3] at j3
          exact absurd j3 (nn_none (by omega))
        · by_cases hm : j < m
          · exact l5 j (by omega) hm j3 j4
          · rw [tva_out ht h2 (nots_lt hS) (by rw [nots_bit, hb, hy]; rfl) j (by omega) j2] at j4
            cases j4
theorem tva_toll (hQ : Q ≤ 6) : ∀ {f n S e : Nat}, tva Q ys tq tt ty tn ts f n S e → ∀ j, n ≤ j → j < e → tq j = -1 → ∃ v, v ≤ 99 ∧ tt j = nn v
  | 0, _, _, _, h => h.elim
  | f + 1, n, S, e, h => by
    intro j j1 j2 j3
    obtain ⟨h0, h | ⟨q, m, e0, e1, e2, e3, e4, e5, e6, h1, h2⟩⟩ := h
    · obtain rfl : j = n := by omega
      exact h.2.1
    · by_cases hj : j = n
      · subst hj
        rw [e3] at j3
        exact absurd j3 (nn_none (by omega))
      · by_cases hm : j < m
        · exact tva_toll hQ h1 j (by omega) hm j3
        · exact tva_toll hQ h2 j (by omega) j2 j3
/-- every node's set is a part, and not empty -/
theorem tva_set (hQ : Q ≤ 6) : ∀ {f n S e : Nat}, tva Q ys tq tt ty tn ts f n S e → S ≠ 0 → ∀ j, n ≤ j → j < e → ∃ S', S' ≠ 0 ∧ S' ≤ S ∧ ts j = nn S' ∧ (∀ i, S'.testBit i = true → S.testBit i = true) ∧ (tq j ≠ -1 → ∃ q, q < Q ∧ tq j = nn q) ∧ (ty j = if tq j = -1 then -1 else nn (j + 1))
  | 0, _, _, _, h, _ => h.elim
  | f + 1, n, S, e, h, hS0 => by
    intro j j1 j2
    have hlt := tva_gt h
    obtain ⟨h0, h | ⟨q, m, e0, e1, e2, e3, e4, e5, e6, h1, h2⟩⟩ := h
    · obtain rfl : j = n := by omega
      exact ⟨S, hS0, Nat.le_refl _, h0, fun _ z => z, fun z => absurd h.1 z, by rw [if_pos h.1]; exact h.2.2.1⟩
    · by_cases hj : j = n
      · subst hj
        exact ⟨S, hS0, Nat.le_refl _, h0, fun _ z => z, fun _ => ⟨q, e0, e3⟩, by rw [if_neg (by rw [e3]; exact nn_none (by omega))]; exact e5⟩
      · by_cases hm : j < m
        · obtain ⟨S', s1, s2, s3, s4, s5⟩ := tva_set hQ h1 e1 j (by omega) hm
          exact ⟨S', s1, Nat.le_trans s2 Nat.and_le_left, s3, fun i z => by have := s4 i z; rw [Nat.testBit_and, Bool.and_eq_true] at this; exact this.1, s5⟩
        · obtain ⟨S', s1, s2, s3, s4, s5⟩ := tva_set hQ h2 e2 j (by omega) j2
          exact ⟨S', s1, Nat.le_trans s2 (by have := and_nots S (ys q); omega), s3, fun i z => by have := s4 i z; rw [nots_bit, Bool.and_eq_true] at this; exact this.1, s5⟩
theorem lfA_sp (hQ : Q ≤ 6) {t : Nat} (ht : t < 32) {f S e : Nat} (h : tva Q ys tq tt ty tn ts f 0 S e) (hS : S < 2147483648) (hb : S.testBit t = true) :
    lfA tq ts (nn t) e < e ∧ tq (lfA tq ts (nn t) e) = -1 ∧ ib (ts (lfA tq ts (nn t) e)) (nn t) = true ∧ ∀ j, j < e → tq j = -1 → ib (ts j) (nn t) = true → j = lfA tq ts (nn t) e := by
  obtain ⟨l, -, l2, l3, l4, l5⟩ := tva_leaf hQ ht h hS hb
  have e1 : ffs (fun n => tq n == -1 && ib (ts n) (nn t)) e = l := ffs_eq (fun i hi => by
    show (tq i == -1 && ib (ts i) (nn t)) = false
    cases h1 : tq i == -1
    · rfl
    · cases h2 : ib (ts i) (nn t)
      · rfl
      · have := l5 i (Nat.zero_le _) (by omega) (by simpa using h1) h2
        omega) (by show (tq l == -1 && ib (ts l) (nn t)) = true; rw [l3, l4]; rfl) l2
  have e2 : lfA tq ts (nn t) e = l := by unfold lfA; rw [e1, if_pos l2]
  rw [e2]
  exact ⟨l2, l3, l4, fun j j1 j2 j3 => l5 j (Nat.zero_le _) j1 j2 j3⟩
theorem fsum_z {f : Nat → Int32} {n : Nat} : ∀ {e : Nat}, n ≤ e → (∀ j, n ≤ j → j < e → f j = 0) → fsum f e = fsum f n
  | 0, h, _ => by
    obtain rfl : n = 0 := by omega
    rfl
  | e + 1, h, hz => by
    by_cases he : n = e + 1
    · rw [he]
    · show fsum f e + f e = fsum f n
      rw [fsum_z (by omega) (fun j j1 j2 => hz j j1 (by omega)), hz e (by omega) (by omega)]
      exact Int32.add_zero _
theorem tva_of {T : Nat} {qc tl ct : Nat → Nat} {fb : Nat → Bool} (hQ : Q ≤ 6) (hT : T ≤ 8) (hct : ∀ t, t < T → ct t ≤ 9999) (htl : ∀ t, t < T → tl t ≤ 99) (hbt : ∀ S, 0 < S → S < 2 ^ T → isBT T tl ct S (bt T tl ct S)) : ∀ {f n S l e : Nat}, tvb Q T qc ys tl ct fb tq tt ty tn ts f n S l e → 0 < S → S < 2 ^ T → l ≤ 30 → tva Q ys tq tt ty tn ts f n S e
  | 0, _, _, _, _, h, _, _, _ => h.elim
  | f + 1, n, S, l, e, h, h0, hS, hl => by
    have p8 := two_le8 hT
    obtain ⟨h1, h | ⟨q, m, e1, e2, e3, e4, e5, h2, h3⟩⟩ := h
    · refine ⟨h1, Or.inl ⟨h.2.1, ⟨bt T tl ct S, ?_, h.2.2.1⟩, h.2.2.2.1, h.2.2.2.2.1, h.2.2.2.2.2⟩⟩
      obtain ⟨⟨u, u1, u2, u3⟩, -⟩ := hbt S h0 hS
      rw [← u3]
      exact htl u u1
    · obtain ⟨q', q1, q2, q3, q4⟩ := (bB_b (Q := Q) (T := T) (qc := qc) (ys := ys) (tl := tl) (ct := ct) (fb := fb) hQ hT hct S (by omega) l hl).2.2 (by omega)
      obtain rfl : q' = q := by omega
      obtain ⟨l1, l2, n1, n2⟩ := oks_lt ys fb q2
      exact ⟨h1, Or.inr ⟨q', m, q1, n1, n2, e2, e3, e4, e5, tva_of hQ hT hct htl hbt h2 (by omega) (by omega) (by omega), tva_of hQ hT hct htl hbt h3 (by omega) (by omega) (by omega)⟩⟩
theorem isBT_ex {T : Nat} {tl ct : Nat → Nat} {S : Nat} (h0 : 0 < S) (hS : S < 2 ^ T) : isBT T tl ct S (bt T tl ct S) := by
  have key : ∀ n, n ≤ T → (∀ u, u < n → S.testBit u = false) ∨ ∃ v, (∃ t, t < T ∧ S.testBit t = true ∧ tl t = v) ∧ ∀ u, u < n → S.testBit u = true → wtl T tl ct S (tl u) < wtl T tl ct S v ∨ (wtl T tl ct S (tl u) = wtl T tl ct S v ∧ v ≤ tl u) := by
    intro n
    induction n with
    | zero => intro _; exact Or.inl (fun u h => absurd h (Nat.not_lt_zero _))
    | succ n ih =>
      intro hn
      cases hb : S.testBit n
      · rcases ih (by omega) with h | ⟨v, h1, h2⟩
        · refine Or.inl (fun u hu => ?_)
          by_cases he : u = n
          · rw [he]; exact hb
          · exact h u (by omega)
        · refine Or.inr ⟨v, h1, fun u hu hub => ?_⟩
          by_cases he : u = n
          · rw [he, hb] at hub; cases hub
          · exact h2 u (by omega) hub
      · rcases ih (by omega) with h | ⟨v, h1, h2⟩
        · refine Or.inr ⟨tl n, ⟨n, by omega, hb, rfl⟩, fun u hu hub => ?_⟩
          by_cases he : u = n
          · rw [he]; exact Or.inr ⟨rfl, Nat.le_refl _⟩
          · rw [h u (by omega)] at hub; cases hub
        · by_cases g : wtl T tl ct S v < wtl T tl ct S (tl n) ∨ (wtl T tl ct S (tl n) = wtl T tl ct S v ∧ tl n < v)
          · refine Or.inr ⟨tl n, ⟨n, by omega, hb, rfl⟩, fun u hu hub => ?_⟩
            by_cases he : u = n
            · rw [he]; exact Or.inr ⟨rfl, Nat.le_refl _⟩
            · have := h2 u (by omega) hub
              omega
          · refine Or.inr ⟨v, h1, fun u hu hub => ?_⟩
            by_cases he : u = n
            · rw [he]; omega
            · exact h2 u (by omega) hub
  rcases key T (Nat.le_refl _) with h | ⟨v, h1, h2⟩
  · obtain ⟨i, hi⟩ := bit_ex (Nat.ne_of_gt h0)
    rw [h i (bit_dom hS hi)] at hi
    cases hi
  · rw [bt_eq ⟨h1, h2⟩]
    exact ⟨h1, h2⟩
theorem all_bit {T t : Nat} (h : t < T) : (2 ^ T - 1).testBit t = true := by rw [Nat.testBit_two_pow_sub_one]; exact decide_eq_true h
/-- the tree of gate g in the row -/
def trW (w : Nat → Int32) (g Q T : Nat) (ty : Nat → Nat) (e : Nat) : Prop := w (132 + g * 94 + 18) = nn e ∧ 0 < e ∧ e ≤ 15 ∧ tva Q (yse T ty) (rw5 w g 0) (rw5 w g 1) (rw5 w g 2) (rw5 w g 3) (rw5 w g 4) 256 0 (2 ^ T - 1) e
theorem sub99 : ∀ a, a < 100 → ∀ b, b < 100 → ((nn a - nn b ≤ 0 ↔ a ≤ b) ∧ (0 ≤ nn a - nn b ↔ b ≤ a)) := by decide +kernel
end TA2
section M4
variable {d : Nat} {Γ : am_G} {I : am_I} {L : am_L} {m : Nat} {g Q T e : Nat} {qc ty tl ct : Nat → Nat}
theorem yse_bit {t q : Nat} (ht : t < T) : (yse T ty q).testBit t = (ty t).testBit q := by
  unfold yse
  rw [msk_bit, decide_eq_true ht, Bool.true_and]
def csW (w : Nat → Int32) (q : Nat) : Int32 := w (12 + q * 8)
/-- errors, weights, work, counts of gate g in the row -/
def mErr (w : Nat → Int32) (g e : Nat) : Nat → Int32 := fsum (fun t => if rw5 w g 1 (lfA (rw5 w g 0) (rw5 w g 4) (nn t) e) = w (60 + t * 9 + 0) then 0 else w (132 + g * 94 + (10 + t)))
def mWgt (w : Nat → Int32) (g : Nat) (S : Int32) : Nat → Int32 := fsum (fun t => if ib S (nn t) then w (132 + g * 94 + (10 + t)) else 0)
def mWrk (w : Nat → Int32) (g T : Nat) : Nat → Int32 := fsum (fun n => if rw5 w g 0 n = -1 then 0 else w (12 + (rw5 w g 0 n).toNatClampNeg * 8) * mWgt w g (rw5 w g 4 n) T)
def mCnt (w : Nat → Int32) (g : Nat) : Nat → Int32 := fsum (fun t => w (132 + g * 94 + (10 + t)))
end M4
