/-! SUMS; TREES AND BEST TREES, pure -/
theorem i4 (a b c d : Int32) : a + b + (c + d) = a + c + (b + d) := by
  rw [Int32.add_assoc, Int32.add_assoc, ← Int32.add_assoc b, Int32.add_comm b c, Int32.add_assoc c]
theorem fsum_add {f g h : Nat → Int32} : ∀ (n : Nat), (∀ k, k < n → h k = f k + g k) → fsum h n = fsum f n + fsum g n
  | 0, _ => by show (0 : Int32) = 0 + 0; decide
  | n + 1, e => by
    show fsum h n + h n = fsum f n + f n + (fsum g n + g n)
    rw [fsum_add n (fun k hk => e k (by omega)), e n (by omega)]
    exact i4 _ _ _ _
theorem fsum_0 : ∀ (n : Nat), fsum (fun _ => 0) n = 0
  | 0 => rfl
  | n + 1 => by
    show fsum (fun _ => 0) n + 0 = 0
    rw [fsum_0 n]; decide
theorem fsum_mul (a : Int32) (f : Nat → Int32) : ∀ (n : Nat), fsum (fun k => a * f k) n = a * fsum f n
  | 0 => (Int32.mul_zero).symm
  | n + 1 => by
    show fsum (fun k => a * f k) n + a * f n = a * (fsum f n + f n)
    rw [fsum_mul a f n, Int32.mul_add]
theorem fsum_swap (F : Nat → Nat → Int32) (T : Nat) : ∀ (N : Nat), fsum (fun n => fsum (F n) T) N = fsum (fun t => fsum (fun n => F n t) N) T
  | 0 => (fsum_0 T).symm
  | N + 1 => by
    show fsum (fun n => fsum (F n) T) N + fsum (F N) T = fsum (fun t => fsum (fun n => F n t) N + F N t) T
    rw [fsum_swap F T N]
    exact (fsum_add T (fun _ _ => rfl)).symm
/-- the work over the nodes is the work over the types -/
theorem mWrk_wbM (w : Nat → Int32) (g T e : Nat) : mWrk w g T e = wbM w g e T := by
  have h1 : mWrk w g T e = fsum (fun n => fsum (fun t => if rw5 w g 0 n ≠ -1 ∧ ib (rw5 w g 4 n) (nn t) = true then csW w (rw5 w g 0 n).toNatClampNeg * w (132 + g * 94 + (10 + t)) else 0) T) e := by
    refine fsum_congr e (fun n _ => ?_)
    by_cases h : rw5 w g 0 n = -1
    · rw [if_pos h]
      refine ((fsum_congr T (fun t _ => ?_)).trans (fsum_0 T)).symm
      exact if_neg (fun z => z.1 h)
    · rw [if_neg h]
      unfold mWgt
      rw [← fsum_mul]
      refine fsum_congr T (fun t _ => ?_)
      by_cases hb : ib (rw5 w g 4 n) (nn t) = true
      · rw [if_pos hb, if_pos ⟨h, hb⟩]; rfl
      · rw [if_neg hb, if_neg (fun z => hb z.2), Int32.mul_zero]
  have h2 : wbM w g e T = fsum (fun t => fsum (fun n => if rw5 w g 0 n ≠ -1 ∧ ib (rw5 w g 4 n) (nn t) = true then csW w (rw5 w g 0 n).toNatClampNeg * w (132 + g * 94 + (10 + t)) else 0) e) T := by
    refine fsum_congr T (fun t _ => ?_)
    unfold wcA
    rw [← fsum_mul]
    refine fsum_congr e (fun n _ => ?_)
    by_cases h : rw5 w g 0 n ≠ -1 ∧ ib (rw5 w g 4 n) (nn t) = true
    · rw [if_pos h, if_pos h, Int32.mul_comm]
    · rw [if_neg h, if_neg h, Int32.mul_zero]
  rw [h1, h2, fsum_swap]
theorem nsum_0 : ∀ (n : Nat), nsum (fun _ => 0) n = 0
  | 0 => rfl
  | n + 1 => by
    show nsum (fun _ => 0) n + 0 = 0
    rw [nsum_0 n]
theorem nsum_swap (F : Nat → Nat → Nat) (T : Nat) : ∀ (N : Nat), nsum (fun n => nsum (F n) T) N = nsum (fun t => nsum (fun n => F n t) N) T
  | 0 => (nsum_0 T).symm
  | N + 1 => by
    show nsum (fun n => nsum (F n) T) N + nsum (F N) T = nsum (fun t => nsum (fun n => F n t) N + F N t) T
    rw [nsum_swap F T N]
    exact (nsum_add T (fun _ _ => rfl)).symm
theorem nsum_one {F : Nat → Nat} {l : Nat} : ∀ {e : Nat}, l < e → (∀ j, j < e → j ≠ l → F j = 0) → nsum F e = F l
  | 0, h, _ => absurd h (Nat.not_lt_zero _)
  | e + 1, h, hz => by
    show nsum F e + F e = F l
    by_cases he : e = l
    · subst he
      rw [(nsum_congr e (fun k hk => hz k (by omega) (by omega))).trans (nsum_0 e), Nat.zero_add]
    · rw [nsum_one (by omega) (fun j hj => hz j (by omega)), hz e (by omega) he, Nat.add_zero]
section PT
variable {Q T : Nat} {qc ys tl ct : Nat → Nat} {fb : Nat → Bool} {tq tt ty tn ts : Nat → Int32}
/-- what a node of a tree is -/
theorem tva_node (hQ : Q ≤ 6) : ∀ {f n S e : Nat}, tva Q ys tq tt ty tn ts f n S e → S ≠ 0 → ∀ j, n ≤ j → j < e →
    (tq j = -1 ∧ (∃ v, v ≤ 99 ∧ tt j = nn v) ∧ ty j = -1 ∧ tn j = -1 ∧ ∃ S', S' ≠ 0 ∧ S' ≤ S ∧ ts j = nn S') ∨
    ∃ q m S', q < Q ∧ tq j = nn q ∧ tt j = -1 ∧ ty j = nn (j + 1) ∧ tn j = nn m ∧ j + 1 < m ∧ m < e ∧ S' ≤ S ∧ ts j = nn S' ∧ ts (j + 1) = nn (S' &&& ys q) ∧ ts m = nn (nots S' (ys q))
  | 0, _, _, _, h, _, _, _, _ => h.elim
  | f + 1, n, S, e, h, h0, j, j1, j2 => by
    obtain ⟨hs, h | ⟨q, m, hq, h1, h2, e1, e2, e3, e4, ha, hb⟩⟩ := h
    · obtain ⟨a1, a2, a3, a4, a5⟩ := h
      obtain rfl : j = n := by omega
      exact Or.inl ⟨a1, a2, a3, a4, S, h0, Nat.le_refl _, hs⟩
    · have g1 := tva_gt ha
      have g2 := tva_gt hb
      have sp := and_nots S (ys q)
      by_cases hj : j = n
      · subst hj
        refine Or.inr ⟨q, m, S, hq, e1, e2, e3, e4, g1, g2, Nat.le_refl _, hs, ?_, ?_⟩
        · cases f with
          | zero => exact ha.elim
          | succ f => exact ha.1
        · cases f with
          | zero => exact hb.elim
          | succ f => exact hb.1
      · by_cases hm : j < m
        · rcases tva_node hQ ha h1 j (by omega) hm with ⟨a1, a2, a3, a4, S', s0, s1, s2⟩ | ⟨q', m', S', x1, x2, x3, x4, x5, x6, x7, x8, x9⟩
          · exact Or.inl ⟨a1, a2, a3, a4, S', s0, by omega, s2⟩
          · exact Or.inr ⟨q', m', S', x1, x2, x3, x4, x5, x6, by omega, by omega, x9⟩
        · rcases tva_node hQ hb h2 j (by omega) j2 with ⟨a1, a2, a3, a4, S', s0, s1, s2⟩ | ⟨q', m', S', x1, x2, x3, x4, x5, x6, x7, x8, x9⟩
          · exact Or.inl ⟨a1, a2, a3, a4, S', s0, by omega, s2⟩
          · exact Or.inr ⟨q', m', S', x1, x2, x3, x4, x5, x6, x7, by omega, x9⟩
/-- the leaves' sets make the set; there is one leaf more than inner nodes -/
theorem tva_cov (hQ : Q ≤ 6) : ∀ {f n S e : Nat}, tva Q ys tq tt ty tn ts f n S e → S < 2147483648 →
    nsum (fun j => if tq j = -1 then (ts j).toNatClampNeg else 0) e = nsum (fun j => if tq j = -1 then (ts j).toNatClampNeg else 0) n + S ∧
    2 * nsum (fun j => if tq j = -1 then 1 else 0) e = 2 * nsum (fun j => if tq j = -1 then 1 else 0) n + (e - n) + 1
  | 0, _, _, _, h, _ => h.elim
  | f + 1, n, S, e, h, hS => by
    obtain ⟨hs, h | ⟨q, m, hq, h1, h2, e1, e2, e3, e4, ha, hb⟩⟩ := h
    · obtain ⟨a1, a2, a3, a4, rfl⟩ := h
      constructor
      · show nsum _ n + (if tq n = -1 then (ts n).toNatClampNeg else 0) = _
        rw [if_pos a1, hs, nn_nat hS]
      · show 2 * (nsum _ n + (if tq n = -1 then 1 else 0)) = _
        rw [if_pos a1]
        omega
    · have g1 := tva_gt ha
      have g2 := tva_gt hb
      have sp := and_nots S (ys q)
      obtain ⟨x1, x2⟩ := tva_cov hQ ha (by omega)
      obtain ⟨y1, y2⟩ := tva_cov hQ hb (by omega)
      have hne : ¬ tq n = -1 := by rw [e1]; exact nn_none (by omega)
      have z1 : nsum (fun j => if tq j = -1 then (ts j).toNatClampNeg else 0) (n + 1) = nsum (fun j => if tq j = -1 then (ts j).toNatClampNeg else 0) n := by
        show nsum _ n + (if tq n = -1 then (ts n).toNatClampNeg else 0) = _
        rw [if_neg hne, Nat.add_zero]
      have z2 : nsum (fun j => if tq j = -1 then 1 else 0) (n + 1) = nsum (fun j => if tq j = -1 then 1 else 0) n := by
        show nsum _ n + (if tq n = -1 then 1 else 0) = _
        rw [if_neg hne, Nat.add_zero]
      rw [z1] at x1
      rw [z2] at x2
      exact ⟨by omega, by omega⟩
/-- a rank without a root is a leaf's -/
theorem bq_z {sub : Nat → Nat → Nat} {S l : Nat} : ∀ k, k ≤ 6 → bq T qc ys tl ct fb sub S l k % 8 = 0 → bq T qc ys tl ct fb sub S l k = lfe T tl ct S * 33554432
  | 0, _, _ => rfl
  | k + 1, h6, h => by
    have ih := bq_z (sub := sub) (S := S) (l := l) k (by omega)
    rw [show bq T qc ys tl ct fb sub S l (k + 1) = (if oks ys fb k S && decide (qc k ≤ l) then min (bq T qc ys tl ct fb sub S l k) (cand T qc ys ct sub k S l) else bq T qc ys tl ct fb sub S l k) from rfl] at h ⊢
    split at h
    · rename_i ho
      rw [if_pos ho]
      by_cases hm : bq T qc ys tl ct fb sub S l k ≤ cand T qc ys ct sub k S l
      · rw [Nat.min_eq_left hm] at h ⊢
        exact ih h
      · rw [Nat.min_eq_right (by omega)] at h
        unfold cand at h
        omega
    · rename_i ho
      rw [if_neg ho]
      exact ih h
/-- a rank with a root is that question's -/
theorem bq_q {sub : Nat → Nat → Nat} {S l q : Nat} : ∀ k, k ≤ 6 → bq T qc ys tl ct fb sub S l k % 8 = q + 1 → q < k ∧ oks ys fb q S = true ∧ qc q ≤ l ∧ bq T qc ys tl ct fb sub S l k = cand T qc ys ct sub q S l
  | 0, _, h => by
    have : lfe T tl ct S * 33554432 % 8 = q + 1 := h
    omega
  | k + 1, h6, h => by
    have ih := bq_q (sub := sub) (S := S) (l := l) (q := q) k (by omega)
    rw [show bq T qc ys tl ct fb sub S l (k + 1) = (if oks ys fb k S && decide (qc k ≤ l) then min (bq T qc ys tl ct fb sub S l k) (cand T qc ys ct sub k S l) else bq T qc ys tl ct fb sub S l k) from rfl] at h ⊢
    split at h
    · rename_i ho
      rw [if_pos ho]
      rw [Bool.and_eq_true, decide_eq_true_eq] at ho
      by_cases hm : bq T qc ys tl ct fb sub S l k ≤ cand T qc ys ct sub k S l
      · rw [Nat.min_eq_left hm] at h ⊢
        obtain ⟨a, b⟩ := ih h
        exact ⟨by omega, b⟩
      · rw [Nat.min_eq_right (by omega)] at h ⊢
        have e : cand T qc ys ct sub k S l % 8 = k + 1 := by unfold cand; omega
        have hk : q = k := by omega
        subst hk
        exact ⟨Nat.lt_succ_self _, ho.1, ho.2, rfl⟩
    · rename_i ho
      rw [if_neg ho]
      obtain ⟨a, b⟩ := ih h
      exact ⟨by omega, b⟩
/-- what the types at a leaf don't owe -/
def erF (T : Nat) (tl ct : Nat → Nat) (tq tt ts : Nat → Int32) (j : Nat) : Nat := if tq j = -1 then nsum (fun t => if ib (ts j) (nn t) && decide (¬ tt j = nn (tl t)) then ct t else 0) T else 0
def wkF (T : Nat) (qc ct : Nat → Nat) (tq ts : Nat → Int32) (j : Nat) : Nat := if tq j = -1 then 0 else qc (tq j).toNatClampNeg * wt T ct (ts j).toNatClampNeg
def pcF (qc : Nat → Nat) (tq ts : Nat → Int32) (t j : Nat) : Nat := if tq j ≠ -1 ∧ ib (ts j) (nn t) = true then qc (tq j).toNatClampNeg else 0
theorem wt_wtl (S v : Nat) : nsum (fun t => if S.testBit t && decide (¬ v = tl t) then ct t else 0) T + wtl T tl ct S v = wt T ct S := by
  refine (nsum_add T (fun t _ => ?_)).symm
  cases S.testBit t
  · rfl
  · by_cases h : v = tl t
    · rw [decide_eq_false (fun z => z h), decide_eq_true h.symm]; simp
    · rw [decide_eq_true h, decide_eq_false (fun z => h z.symm)]; simp
/-- the best tree has the errors and the work of its rank, and no path above the limit -/
theorem tvb_best (hQ : Q ≤ 6) (hT : T ≤ 8) (hc : ∀ t, t < T → ct t ≤ 9999) (ht : ∀ t, t < T → tl t ≤ 99) : ∀ {f n S l e : Nat}, tvb Q T qc ys tl ct fb tq tt ty tn ts f n S l e → 0 < S → S < 2 ^ T → l ≤ 30 →
    nsum (erF T tl ct tq tt ts) e = nsum (erF T tl ct tq tt ts) n + bB Q T qc ys tl ct fb S l / 33554432 ∧
    nsum (wkF T qc ct tq ts) e = nsum (wkF T qc ct tq ts) n + bB Q T qc ys tl ct fb S l / 8 % 4194304 ∧
    ∀ t, t < T → nsum (pcF qc tq ts t) e ≤ nsum (pcF qc tq ts t) n + l ∧ (S.testBit t = false → nsum (pcF qc tq ts t) e = nsum (pcF qc tq ts t) n)
  | 0, _, _, _, _, h, _, _, _ => h.elim
  | f + 1, n, S, l, e, h, h0, hS, hl => by
    have p8 := two_le8 hT
    obtain ⟨hs, h | ⟨q, m, r, e1, e2, e3, e4, ha, hb⟩⟩ := h
    · obtain ⟨r, a1, a2, a3, a4, rfl⟩ := h
      have hbt := isBT_ex (tl := tl) (ct := ct) h0 hS
      have hR : bB Q T qc ys tl ct fb S l = lfe T tl ct S * 33554432 := by
        rw [bB_eq Q T qc ys tl ct fb (by omega)] at r ⊢
        exact bq_z Q hQ r
      have hle : bt T tl ct S ≤ 99 := by
        obtain ⟨⟨t, t1, t2, t3⟩, -⟩ := hbt
        rw [← t3]; exact ht t t1
      refine ⟨?_, ?_, fun t htT => ⟨?_, fun _ => ?_⟩⟩
      · show nsum _ n + erF T tl ct tq tt ts n = _
        have eF : erF T tl ct tq tt ts n = lfe T tl ct S := by
          unfold erF
          rw [if_pos a1, hs, a2]
          have e9 : nsum (fun t => if ib (nn S) (nn t) && decide (¬ nn (bt T tl ct S) = nn (tl t)) then ct t else 0) T = nsum (fun t => if S.testBit t && decide (¬ bt T tl ct S = tl t) then ct t else 0) T := by
            refine nsum_congr T (fun t htT => ?_)
            have := ht t htT
            have ed : decide (¬ nn (bt T tl ct S) = nn (tl t)) = decide (¬ bt T tl ct S = tl t) := decide_eq_decide.mpr (not_congr (nn_eq (by omega) (by omega)))
            rw [ib_nn (by omega) (by omega), ed]
          rw [e9]
          have := wt_wtl (T := T) (tl := tl) (ct := ct) S (bt T tl ct S)
          unfold lfe
          rw [mxw_bt hbt]
          omega
        rw [eF, hR]
        omega
      · show nsum _ n + wkF T qc ct tq ts n = _
        unfold wkF
        rw [if_pos a1, hR]
        omega
      · show nsum _ n + pcF qc tq ts t n ≤ _
        unfold pcF
        rw [if_neg (fun z => z.1 a1)]
        omega
      · show nsum _ n + pcF qc tq ts t n = _
        unfold pcF
        rw [if_neg (fun z => z.1 a1)]
        rfl
    · have hb8 := r
      rw [bB_eq Q T qc ys tl ct fb (by omega)] at hb8
      obtain ⟨q1, q2, q3, q4⟩ := bq_q Q hQ hb8
      rw [← bB_eq Q T qc ys tl ct fb (by omega)] at q4
      obtain ⟨o1, o2, o3, o4⟩ := oks_lt ys fb q2
      obtain ⟨x1, x2, x3⟩ := tvb_best hQ hT hc ht ha (by omega) (by omega) (by omega)
      obtain ⟨y1, y2, y3⟩ := tvb_best hQ hT hc ht hb (by omega) (by omega) (by omega)
      have hne : ¬ tq n = -1 := by rw [e1]; exact nn_none (by omega)
      have zq : (tq n).toNatClampNeg = q := by rw [e1, nn_nat (by omega)]
      have zs : (ts n).toNatClampNeg = S := by rw [hs, nn_nat (by omega)]
      have z1 : nsum (erF T tl ct tq tt ts) (n + 1) = nsum (erF T tl ct tq tt ts) n := by
        show nsum _ n + erF T tl ct tq tt ts n = _
        unfold erF
        rw [if_neg hne, Nat.add_zero]
      have z2 : nsum (wkF T qc ct tq ts) (n + 1) = nsum (wkF T qc ct tq ts) n + qc q * wt T ct S := by
        show nsum _ n + wkF T qc ct tq ts n = _
        have : wkF T qc ct tq ts n = qc q * wt T ct S := by
          unfold wkF
          rw [if_neg hne, zq, zs]
        rw [this]
      have w1 := (bB_b (Q := Q) (qc := qc) (ys := ys) (tl := tl) (fb := fb) hQ hT hc (S &&& ys q) (by omega) (l - qc q) (by omega)).2.1
      have w2 := (bB_b (Q := Q) (qc := qc) (ys := ys) (tl := tl) (fb := fb) hQ hT hc (nots S (ys q)) (by omega) (l - qc q) (by omega)).2.1
      have w3 := wt_split (T := T) (ct := ct) S (ys q)
      have w4 := wt_le (T := T) (ct := ct) hT hc S
      have w5 : (l - qc q) * wt T ct S = (l - qc q) * wt T ct (S &&& ys q) + (l - qc q) * wt T ct (nots S (ys q)) := by rw [w3, Nat.mul_add]
      have w6 : l * wt T ct S = (l - qc q) * wt T ct S + qc q * wt T ct S := by rw [← Nat.add_mul]; congr 1; omega
      have w7 : l * wt T ct S ≤ 30 * 79992 := Nat.mul_le_mul hl w4
      have cd := cand_dec (x := bB Q T qc ys tl ct fb (S &&& ys q) (l - qc q)) (y := bB Q T qc ys tl ct fb (nots S (ys q)) (l - qc q)) (z := qc q * wt T ct S) (q := q) (by omega) (by omega)
      unfold cand at q4
      rw [← q4] at cd
      obtain ⟨c1, c2, -⟩ := cd
      refine ⟨by omega, by omega, fun t htT => ?_⟩
      obtain ⟨u1, u2⟩ := x3 t htT
      obtain ⟨v1, v2⟩ := y3 t htT
      have z3 : nsum (pcF qc tq ts t) (n + 1) = nsum (pcF qc tq ts t) n + (if S.testBit t = true then qc q else 0) := by
        show nsum _ n + pcF qc tq ts t n = _
        have : pcF qc tq ts t n = if S.testBit t = true then qc q else 0 := by
          unfold pcF
          rw [zq, hs, ib_nn (by omega) (by omega)]
          by_cases hb : S.testBit t = true
          · rw [if_pos ⟨hne, hb⟩, if_pos hb]
          · rw [if_neg (fun z => hb z.2), if_neg hb]
        rw [this]
      have b1 : (S &&& ys q).testBit t = (S.testBit t && (ys q).testBit t) := Nat.testBit_and ..
      have b2 : (nots S (ys q)).testBit t = (S.testBit t && !(ys q).testBit t) := nots_bit _ _ _
      cases hb : S.testBit t
      · rw [hb] at b1 b2 z3
        have k1 := u2 (by rw [b1]; rfl)
        have k2 := v2 (by rw [b2]; rfl)
        rw [if_neg (by decide)] at z3
        exact ⟨by omega, fun _ => by omega⟩
      · rw [hb] at b1 b2 z3
        rw [if_pos rfl] at z3
        refine ⟨?_, fun z => by cases z⟩
        cases hy : (ys q).testBit t
        · rw [hy] at b1 b2
          have k1 := u2 (by rw [b1]; rfl)
          omega
        · rw [hy] at b1 b2
          have k2 := v2 (by rw [b2]; rfl)
          omega
theorem bq_fb {N : Nat} {fb' : Nat → Bool} (hf : ∀ q, q < N → fb q = true → fb' q = true) {sub sub' : Nat → Nat → Nat} {S : Nat} (ih : ∀ S', S' < S → ∀ l, sub S' l ≤ sub' S' l) (l : Nat) : ∀ k, k ≤ N → bq T qc ys tl ct fb sub S l k ≤ bq T qc ys tl ct fb' sub' S l k
  | 0, _ => Nat.le_refl _
  | k + 1, hk9 => by
    have ihk := bq_fb hf ih l k (by omega)
    rw [show bq T qc ys tl ct fb sub S l (k + 1) = (if oks ys fb k S && decide (qc k ≤ l) then min (bq T qc ys tl ct fb sub S l k) (cand T qc ys ct sub k S l) else bq T qc ys tl ct fb sub S l k) from rfl, show bq T qc ys tl ct fb' sub' S l (k + 1) = (if oks ys fb' k S && decide (qc k ≤ l) then min (bq T qc ys tl ct fb' sub' S l k) (cand T qc ys ct sub' k S l) else bq T qc ys tl ct fb' sub' S l k) from rfl]
    generalize bq T qc ys tl ct fb sub S l k = x at ihk ⊢
    generalize bq T qc ys tl ct fb' sub' S l k = y at ihk ⊢
    cases ho : oks ys fb' k S && decide (qc k ≤ l)
    · rw [if_neg (show ¬ (false = true) by decide)]
      split
      · exact Nat.le_trans (Nat.min_le_left _ _) ihk
      · exact ihk
    · rw [Bool.and_eq_true] at ho
      obtain ⟨h1, h2, h3, h4⟩ := oks_lt ys fb' ho.1
      have ho1 : oks ys fb k S = true := by
        have hn := ho.1
        unfold oks at hn ⊢
        rw [Bool.and_eq_true, Bool.and_eq_true] at hn
        rw [hn.1.2, hn.2]
        cases hk : fb k
        · rfl
        · rw [hf k (by omega) hk] at hn; exact absurd hn.1.1 (by decide)
      rw [ho1, ho.2, if_pos rfl, if_pos (show (true && true) = true from rfl)]
      have a := ih _ h1 (l - qc k)
      have b := ih _ h2 (l - qc k)
      have hcd : cand T qc ys ct sub k S l ≤ cand T qc ys ct sub' k S l := by
        unfold cand
        omega
      omega
/-- a question that may not be asked: no better -/
theorem bB_fb {fb' : Nat → Bool} (hf : ∀ q, q < Q → fb q = true → fb' q = true) : ∀ (S : Nat), S < 256 → ∀ l, bB Q T qc ys tl ct fb S l ≤ bB Q T qc ys tl ct fb' S l := by
  intro S
  induction S using Nat.strongRecOn with
  | ind S ih =>
    intro hS l
    have ih' : ∀ S', S' < S → ∀ l, bB Q T qc ys tl ct fb S' l ≤ bB Q T qc ys tl ct fb' S' l := fun S' h l => ih S' h (by omega) l
    rw [bB_eq Q T qc ys tl ct fb hS, bB_eq Q T qc ys tl ct fb' hS]
    exact bq_fb hf ih' l Q (Nat.le_refl _)
/-- within no limit nothing is asked -/
theorem bB_l0 (hQ : Q ≤ 6) (hq : ∀ q, q < Q → 1 ≤ qc q) {S : Nat} (hS : S < 256) : bB Q T qc ys tl ct fb S 0 = lfe T tl ct S * 33554432 := by
  rw [bB_eq Q T qc ys tl ct fb hS]
  have key : ∀ k, k ≤ Q → bq T qc ys tl ct fb (bB Q T qc ys tl ct fb) S 0 k = lfe T tl ct S * 33554432 := by
    intro k
    induction k with
    | zero => intro _; rfl
    | succ k ih =>
      intro hk
      rw [show bq T qc ys tl ct fb (bB Q T qc ys tl ct fb) S 0 (k + 1) = (if oks ys fb k S && decide (qc k ≤ 0) then min (bq T qc ys tl ct fb (bB Q T qc ys tl ct fb) S 0 k) (cand T qc ys ct (bB Q T qc ys tl ct fb) k S 0) else bq T qc ys tl ct fb (bB Q T qc ys tl ct fb) S 0 k) from rfl]
      have := hq k (by omega)
      rw [decide_eq_false (show ¬ qc k ≤ 0 by omega), Bool.and_false, if_neg (by decide)]
      exact ih (by omega)
  exact key Q (Nat.le_refl _)
end PT
