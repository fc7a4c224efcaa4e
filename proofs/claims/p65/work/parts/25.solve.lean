/-! CONTRACTS OF THE SOLVER: weights, tolls, needed limits, ranks -/
theorem nl_25 : (25 : Int32) = nn 25 := rfl
theorem nl_7' : (7 : Int32) = nn 7 := rfl
theorem nl_4194303 : (4194303 : Int32) = nn 4194303 := rfl
theorem two_le8 {t : Nat} (h : t ≤ 8) : 2 ^ t ≤ 256 := Nat.pow_le_pow_right (n := 2) (by decide) h
theorem two_le7 {t : Nat} (h : t < 8) : 2 ^ t ≤ 128 := Nat.pow_le_pow_right (n := 2) (by decide) (show t ≤ 7 by omega)
section SB
variable {mi : am_M} {d mc ms : Nat} {al : Bool} {bc bs pc : Nat} {ls : List (Nat × Value)} {st : List Value} {Γ : am_G} {I : am_I} {L : am_L} {Q : am_Q}
theorem aw_take (n : Nat) (h : am_W mi d mc ms al bc bs pc (ls.take n) st Γ I L Q) : am_W mi d mc ms al bc bs pc ls st Γ I L Q := aw_sub (fun _ hq => List.mem_of_mem_take hq) h
end SB
theorem am_ofX2 {mi : am_M} {d mc ms : Nat} {args : List Value} {Γ : am_G} {I : am_I} {L : am_L} {o : am_O} {P : am_L → Prop} (hy : plainName mi.1.cls = true) (ht : mi.2.2.2.2.1 = []) (hsc : mi.2.2.2.2.2 = none) (hn : am_sz args ≤ mi.2.2.1)
    (h : ∃ L', am_W mi d mc ms false mc ms 0 (lv_args 0 args) [] Γ I L (am_R o I L') ∧ P L') : ∃ L', am_E mi d mc ms args Γ I L o I L' ∧ P L' := by
  obtain ⟨L', h1, h2⟩ := h
  exact ⟨L', am_ofE hy ht hsc hn h1, h2⟩
def sda (I : am_I) (b x Q T : Nat) (qc ys tl ct : Nat → Nat) : Prop :=
  I b 0 = nn Q ∧ I b 1 = nn T ∧ Q ≤ 6 ∧ 0 < T ∧ T ≤ 8 ∧ (∀ q, q < Q → I (b + 2) q = nn (qc q) ∧ 1 ≤ qc q ∧ qc q ≤ 9 ∧ I (b + 3) q = nn (ys q) ∧ ys q < 2 ^ T) ∧ ∀ t, t < T → I (b + 5) t = nn (tl t) ∧ tl t ≤ 99 ∧ I (x + 1) t = nn (ct t) ∧ ct t ≤ 9999
theorem sda.to {I I' : am_I} {b x Q T : Nat} {qc ys tl ct : Nat → Nat} (h : sda I b x Q T qc ys tl ct) (e : I' b = I b) (e2 : I' (b + 2) = I (b + 2)) (e3 : I' (b + 3) = I (b + 3)) (e5 : I' (b + 5) = I (b + 5)) (ex : I' (x + 1) = I (x + 1)) : sda I' b x Q T qc ys tl ct := by
  unfold sda at h ⊢
  rw [e, e2, e3, e5, ex]
  exact h
section C5
variable {d : Nat} {Γ : am_G} {I : am_I} {L : am_L} {b k x Q T : Nat} {qc ys tl ct : Nat → Nat}
theorem eX4_weighSets (hk : soF Γ k) (hx : gaF Γ x) (hxk : x + 1 ≠ k + 3) (hT : T ≤ 8) (hc : ∀ t, t < T → I (x + 1) t = nn (ct t)) :
    ∃ I', am_E m_X4_weighSets d 0 0 [.ref k, .ref x, .int (nn T)] Γ I L (.inl none) I' L ∧ (∀ S, S < 2 ^ T → I' (k + 3) S = nn (wt T ct S)) ∧ ∀ c, c ≠ k + 3 → I' c = I c := by
  obtain ⟨o, r0, r1, r2, r3, r4, r5, r6, a1, a2, a3, a4, a5, a6, a7⟩ := hk
  obtain ⟨ox, rx4, rx5, ax, -⟩ := hx
  refine am_ofX1 rfl rfl rfl (Nat.le_of_ble_eq_true rfl) ?_
  have outer := nn_loop (fun t => ∀ I1 : am_I, (∀ S, S < 2 ^ t → I1 (k + 3) S = nn (wt T ct S)) → (∀ c, c ≠ k + 3 → I1 c = I c) → ∃ I', am_W m_X4_weighSets d 0 0 false 0 0 9 [(0, .ref k), (1, .ref x), (2, .int (nn T)), (3, .int (nn t))] [] Γ I1 L (am_R (.inl none) I' L) ∧ (∀ S, S < 2 ^ T → I' (k + 3) S = nn (wt T ct S)) ∧ ∀ c, c ≠ k + 3 → I' c = I c) T ?_ (fun t ht ih => ?_)
  · obtain ⟨I', hW, hP⟩ := outer (am_u I (k + 3) 0 0) (fun S hS => by
      obtain rfl : S = 0 := by rw [Nat.pow_zero] at hS; omega
      rw [am_u_at, if_pos ⟨rfl, rfl⟩, wt_0]; rfl) (fun c hc => am_u_ne hc)
    refine ⟨I', ?_, hP⟩
    refine bX4_weighSets_0 o r2 a3 (vp_in_0 (by decide)) ?_
    exact hW
  · intro I1 h1 h2
    refine ⟨I1, ?_, h1, h2⟩
    refine bX4_weighSets_9 (fun _ => ?_) (fun h => absurd h (by simp))
    refine bX4_weighSets_62 ?_
    exact ⟨rfl, rfl, rfl⟩
  · intro I1 h1 h2
    have p2 := two_le7 (t := t) (by omega)
    have pp : 0 < 2 ^ t := Nat.two_pow_pos t
    have inner := nn_loop (fun j => ∀ I2 : am_I, (∀ S, S < 2 ^ t + j → I2 (k + 3) S = nn (wt T ct S)) → (∀ c, c ≠ k + 3 → I2 c = I c) → ∃ I', am_W m_X4_weighSets d 0 0 false 0 0 17 [(0, .ref k), (1, .ref x), (2, .int (nn T)), (3, .int (nn t)), (4, .int (nn j))] [] Γ I2 L (am_R (.inl none) I' L) ∧ (∀ S, S < 2 ^ T → I' (k + 3) S = nn (wt T ct S)) ∧ ∀ c, c ≠ k + 3 → I' c = I c) (2 ^ t) ?_ (fun j hj ih2 => ?_)
    · obtain ⟨I', hW, hP⟩ := inner I1 (fun S hS => h1 S (by omega)) h2
      refine ⟨I', ?_, hP⟩
      refine bX4_weighSets_9 (fun h => absurd h (by rw [nn_le (by omega) (by omega)]; omega)) (fun _ => ?_)
      refine bX4_weighSets_14 ?_
      exact hW
    · intro I2 g1 g2
      obtain ⟨I', hW, hP⟩ := ih I2 (fun S hS => g1 S (by rw [Nat.pow_succ] at hS; omega)) g2
      refine ⟨I', ?_, hP⟩
      refine bX4_weighSets_17 (fun _ => ?_) (fun h => absurd h (by rw [nl_1, nn_shl (by omega), Nat.one_mul]; simp))
      refine bX4_weighSets_56 ?_
      refine aw_take 4 ?_
      rw [nl_1, nn_add]
      exact hW
    · intro I2 g1 g2
      have e1 : nn j ||| 1 <<< (nn t &&& 31) = nn (j + 2 ^ t) := by rw [nl_1, nn_shl (by omega), Nat.one_mul, nn_or, or_pow hj]
      have ev : I2 (k + 3) j + I2 (x + 1) t = nn (wt T ct (j + 2 ^ t)) := by rw [g1 j (by omega), g2 (x + 1) hxk, hc t ht, wt_pow hj ht, nn_add]
      obtain ⟨I', hW, hP⟩ := ih2 (am_u I2 (k + 3) (j + 2 ^ t) (I2 (k + 3) j + I2 (x + 1) t)) (fun S hS => by
        rw [am_u_at]
        by_cases he : S = j + 2 ^ t
        · rw [if_pos ⟨rfl, he⟩, ev, he]
        · rw [if_neg (fun z => he z.2)]; exact g1 S (by omega)) (fun c hc => by rw [am_u_ne hc]; exact g2 c hc)
      refine ⟨I', ?_, hP⟩
      refine bX4_weighSets_17 (fun h => absurd h (by rw [nl_1, nn_shl (by omega), Nat.one_mul, nn_le (by omega) (by omega)]; omega)) (fun _ => ?_)
      refine bX4_weighSets_25 o r2 a3 (nn_in (by omega) (by omega)) ox rx4 ax (nn_in (by omega) (by omega)) (by rw [e1]; exact nn_in (by omega) (by omega)) ?_
      rw [e1, nn_nat (show j + 2 ^ t < 2147483648 by omega), nn_nat (show j < 2147483648 by omega), nn_nat (show t < 2147483648 by omega), nl_1, nn_add]
      exact hW
theorem eX4_groupTolls (hk : soF Γ k) (hb : stF Γ b) (hd : b + 36 ≤ k ∨ k + 8 ≤ b) (hT8 : T ≤ 8) (hT : I b 1 = nn T) (hc : ∀ t, t < T → I (b + 5) t = nn (tl t) ∧ tl t ≤ 99) :
    ∃ I', am_E m_X4_groupTolls d 0 0 [.ref k, .ref b] Γ I L (.inl none) I' L ∧ (∀ t, t < T → I' (k + 4) t = nn (same T tl t)) ∧ ∀ c, c ≠ k + 4 → I' c = I c := by
  obtain ⟨o, r0, r1, r2, r3, r4, r5, r6, a1, a2, a3, a4, a5, a6, a7⟩ := hk
  obtain ⟨ob, s4, s5, s6, s7, s8, s9, s10, b1, b2, b3, b4, b5, b6, o7, hg⟩ := id hb
  refine am_ofX1 rfl rfl rfl (Nat.le_of_ble_eq_true rfl) ?_
  have outer := nn_loop (fun t => ∀ I1 : am_I, (∀ s, s < t → I1 (k + 4) s = nn (same T tl s)) → (∀ c, c ≠ k + 4 → I1 c = I c) → ∃ I', am_W m_X4_groupTolls d 0 0 false 0 0 2 [(0, .ref k), (1, .ref b), (2, .int (nn t))] [] Γ I1 L (am_R (.inl none) I' L) ∧ (∀ t, t < T → I' (k + 4) t = nn (same T tl t)) ∧ ∀ c, c ≠ k + 4 → I' c = I c) T ?_ (fun t ht ih => ?_)
  · obtain ⟨I', hW, hP⟩ := outer I (fun s hs => absurd hs (Nat.not_lt_zero _)) (fun c _ => rfl)
    exact ⟨I', bX4_groupTolls_0 hW, hP⟩
  · intro I1 h1 h2
    refine ⟨I1, ?_, h1, h2⟩
    refine bX4_groupTolls_2 ob (fun _ => ?_) (fun h => absurd h (by rw [h2 b (by omega), hT]; simp))
    refine bX4_groupTolls_66 ?_
    exact ⟨rfl, rfl, rfl⟩
  · intro I1 h1 h2
    have inner := nn_loop (fun j => ∀ I2 : am_I, (∀ s, s < t → I2 (k + 4) s = nn (same T tl s)) → I2 (k + 4) t = nn (msk (fun u => decide (tl u = tl t)) j) → (∀ c, c ≠ k + 4 → I2 c = I c) → ∃ I', am_W m_X4_groupTolls d 0 0 false 0 0 19 [(0, .ref k), (1, .ref b), (2, .int (nn t)), (3, .int (nn j))] [] Γ I2 L (am_R (.inl none) I' L) ∧ (∀ t, t < T → I' (k + 4) t = nn (same T tl t)) ∧ ∀ c, c ≠ k + 4 → I' c = I c) T ?_ (fun j hj ih2 => ?_)
    · obtain ⟨I', hW, hP⟩ := inner (am_u I1 (k + 4) t 0) (fun s hs => by rw [am_u_at, if_neg (fun z => by omega)]; exact h1 s hs) (by rw [am_u_at, if_pos ⟨rfl, rfl⟩]; rfl) (fun c hc => by rw [am_u_ne hc]; exact h2 c hc)
      refine ⟨I', ?_, hP⟩
      refine bX4_groupTolls_2 ob (fun h => absurd h (by rw [h2 b (by omega), hT, nn_le (by omega) (by omega)]; omega)) (fun _ => ?_)
      refine bX4_groupTolls_10 o r3 a4 (nn_in (by omega) (by omega)) ?_
      rw [nn_nat (show t < 2147483648 by omega)]
      exact hW
    · intro I2 g1 g2 g3
      obtain ⟨I', hW, hP⟩ := ih I2 (fun s hs => by
        by_cases h : s < t
        · exact g1 s h
        · obtain rfl : s = t := by omega
          exact g2) g3
      refine ⟨I', ?_, hP⟩
      refine bX4_groupTolls_19 ob (fun _ => ?_) (fun h => absurd h (by rw [g3 b (by omega), hT]; simp))
      refine bX4_groupTolls_60 ?_
      refine aw_take 3 ?_
      rw [nl_1, nn_add]
      exact hW
    · intro I2 g1 g2 g3
      have p7 := two_le7 (t := j) (by omega)
      have ml := msk_lt (fun u => decide (tl u = tl t)) j
      have ej : I2 (b + 5) j = nn (tl j) := by rw [g3 (b + 5) (by omega)]; exact (hc j hj).1
      have et : I2 (b + 5) t = nn (tl t) := by rw [g3 (b + 5) (by omega)]; exact (hc t ht).1
      have lj := (hc j hj).2
      have lt := (hc t ht).2
      by_cases hq : tl j = tl t
      · obtain ⟨I', hW, hP⟩ := ih2 (am_u I2 (k + 4) t (I2 (k + 4) t ||| 1 <<< (nn j &&& 31))) (fun s hs => by rw [am_u_at, if_neg (fun z => by omega)]; exact g1 s hs) (by
          rw [am_u_at, if_pos ⟨rfl, rfl⟩, g2, nl_1, nn_shl (by omega), Nat.one_mul, nn_or, or_pow ml]
          show _ = nn (msk _ j + if decide (tl j = tl t) = true then 2 ^ j else 0)
          rw [if_pos (decide_eq_true hq)]) (fun c hc => by rw [am_u_ne hc]; exact g3 c hc)
        refine ⟨I', ?_, hP⟩
        refine bX4_groupTolls_19 ob (fun h => absurd h (by rw [g3 b (by omega), hT, nn_le (by omega) (by omega)]; omega)) (fun _ => ?_)
        refine bX4_groupTolls_27 ob s8 b5 (nn_in (by omega) (by omega)) (nn_in (by omega) (by omega)) (fun h => absurd (by rw [nn_nat (by omega), nn_nat (by omega), ej, et, hq]) h) (fun _ => ?_)
        refine bX4_groupTolls_42 o r3 a4 (nn_in (by omega) (by omega)) ?_
        refine bX4_groupTolls_54 ?_
        rw [nn_nat (show t < 2147483648 by omega), nl_1, nn_add]
        exact hW
      · obtain ⟨I', hW, hP⟩ := ih2 I2 g1 (by
          rw [g2]
          show _ = nn (msk _ j + if decide (tl j = tl t) = true then 2 ^ j else 0)
          rw [if_neg (by rw [decide_eq_true_eq]; exact hq), Nat.add_zero]) g3
        refine ⟨I', ?_, hP⟩
        refine bX4_groupTolls_19 ob (fun h => absurd h (by rw [g3 b (by omega), hT, nn_le (by omega) (by omega)]; omega)) (fun _ => ?_)
        refine bX4_groupTolls_27 ob s8 b5 (nn_in (by omega) (by omega)) (nn_in (by omega) (by omega)) (fun _ => ?_) (fun h => absurd h (by rw [nn_nat (by omega), nn_nat (by omega), ej, et, nn_eq (by omega) (by omega)]; exact hq))
        refine bX4_groupTolls_54 ?_
        rw [nl_1, nn_add]
        exact hW
/-- the forbidden question -/
def fbq (F : Int32) (q : Nat) : Bool := decide (nn q = F)
/-- the limits that are needed, as they stand in the cell -/
def ndR (I : am_I) (k : Nat) (nd : Nat → Nat) : Prop := ∀ S, S < 256 → I (k + 2) S = nn (nd S) ∧ nd S < 2147483648
theorem or_lt31 {a b : Nat} (ha : a < 2147483648) (hb : b < 2147483648) : a ||| b < 2147483648 := Nat.or_lt_two_pow (n := 31) ha hb
theorem eX4_needChildren (hk : soF Γ k) (hb : stF Γ b) (hd : b + 36 ≤ k ∨ k + 8 ≤ b) (hs : sda I b x Q T qc ys tl ct) (F : Int32) {S : Nat} {nd : Nat → Nat} (h0 : 0 < S) (hS : S < 256) (hn : ndR I k nd) :
    ∃ I', am_E m_X4_needChildren d 0 0 [.ref k, .ref b, .int (nn S), .int F] Γ I L (.inl none) I' L ∧ ∃ nd', ndR I' k nd' ∧ (∀ S' l, (nd S').testBit l = true → (nd' S').testBit l = true) ∧ (∀ S', S ≤ S' → nd' S' = nd S') ∧
      (∀ q, q < Q → oks ys (fbq F) q S = true → ∀ l, (nd S).testBit (l + qc q) = true → (nd' (S &&& ys q)).testBit l = true ∧ (nd' (nots S (ys q))).testBit l = true) ∧ ∀ c, c ≠ k + 2 → I' c = I c := by
  obtain ⟨o, r0, r1, r2, r3, r4, r5, r6, a1, a2, a3, a4, a5, a6, a7⟩ := hk
  obtain ⟨ob, s4, s5, s6, s7, s8, s9, s10, b1, b2, b3, b4, b5, b6, o7, hg⟩ := id hb
  obtain ⟨hQ, hT, hQ6, hT0, hT8, hq, ht⟩ := id hs
  refine am_ofX1 rfl rfl rfl (Nat.le_of_ble_eq_true rfl) ?_
  by_cases hz : nd S = 0
  · refine ⟨I, ?_, nd, hn, fun _ _ h => h, fun _ _ => rfl, fun q _ _ l h => (by rw [hz, Nat.zero_testBit] at h; cases h), fun _ _ => rfl⟩
    refine bX4_needChildren_0 o r1 a2 (nn_in (by omega) hS) (fun h => absurd (by rw [nn_nat (by omega), (hn S hS).1, hz]; rfl) h) (fun _ => ?_)
    refine bX4_needChildren_9 ?_
    exact ⟨rfl, rfl, rfl⟩
  have loop := nn_loop (fun q => ∀ (I1 : am_I) (nd1 : Nat → Nat), ndR I1 k nd1 → (∀ S' l, (nd S').testBit l = true → (nd1 S').testBit l = true) → (∀ S', S ≤ S' → nd1 S' = nd S') → (∀ q', q' < q → oks ys (fbq F) q' S = true → ∀ l, (nd S).testBit (l + qc q') = true → (nd1 (S &&& ys q')).testBit l = true ∧ (nd1 (nots S (ys q'))).testBit l = true) → (∀ c, c ≠ k + 2 → I1 c = I c) →
    ∃ I', am_W m_X4_needChildren d 0 0 false 0 0 13 [(0, .ref k), (1, .ref b), (2, .int (nn S)), (3, .int F), (4, .int (nn q))] [] Γ I1 L (am_R (.inl none) I' L) ∧ ∃ nd', ndR I' k nd' ∧ (∀ S' l, (nd S').testBit l = true → (nd' S').testBit l = true) ∧ (∀ S', S ≤ S' → nd' S' = nd S') ∧
      (∀ q, q < Q → oks ys (fbq F) q S = true → ∀ l, (nd S).testBit (l + qc q) = true → (nd' (S &&& ys q)).testBit l = true ∧ (nd' (nots S (ys q))).testBit l = true) ∧ ∀ c, c ≠ k + 2 → I' c = I c) Q ?_ (fun q hqQ ih => ?_)
  · obtain ⟨I', hW, hP⟩ := loop I nd hn (fun _ _ h => h) (fun _ _ => rfl) (fun q' h => absurd h (Nat.not_lt_zero _)) (fun _ _ => rfl)
    refine ⟨I', ?_, hP⟩
    refine bX4_needChildren_0 o r1 a2 (nn_in (by omega) hS) (fun _ => ?_) (fun h => absurd h (by rw [nn_nat (by omega), (hn S hS).1, nl_0, nn_eq (hn S hS).2 (by decide)]; exact hz))
    refine bX4_needChildren_10 ?_
    exact hW
  · intro I1 nd1 h1 h2 h3 h4 h5
    refine ⟨I1, ?_, nd1, h1, h2, h3, h4, h5⟩
    refine bX4_needChildren_13 ob (fun _ => ?_) (fun h => absurd h (by rw [h5 b (by omega), hQ]; simp))
    refine bX4_needChildren_108 ?_
    exact ⟨rfl, rfl, rfl⟩
  · intro I1 nd1 h1 h2 h3 h4 h5
    obtain ⟨eqc, q1, q9, eys, ysl⟩ := hq q hqQ
    have e3 : I1 (b + 3) q = nn (ys q) := by rw [h5 (b + 3) (by omega)]; exact eys
    have e2 : I1 (b + 2) q = nn (qc q) := by rw [h5 (b + 2) (by omega)]; exact eqc
    have e0 : I1 b 0 = nn Q := by rw [h5 b (by omega)]; exact hQ
    have nS : nots S (ys q) ≤ S ∧ S &&& ys q ≤ S := by have := and_nots S (ys q); omega
    have skip : oks ys (fbq F) q S = false → ∀ ls : List (Nat × Value), ls.take 5 = [(0, .ref k), (1, .ref b), (2, .int (nn S)), (3, .int F), (4, .int (nn (q + 1)))] → ∃ I', am_W m_X4_needChildren d 0 0 false 0 0 13 ls [] Γ I1 L (am_R (.inl none) I' L) ∧ ∃ nd', ndR I' k nd' ∧ (∀ S' l, (nd S').testBit l = true → (nd' S').testBit l = true) ∧ (∀ S', S ≤ S' → nd' S' = nd S') ∧
      (∀ q, q < Q → oks ys (fbq F) q S = true → ∀ l, (nd S).testBit (l + qc q) = true → (nd' (S &&& ys q)).testBit l = true ∧ (nd' (nots S (ys q))).testBit l = true) ∧ ∀ c, c ≠ k + 2 → I' c = I c := by
      intro ho ls hl
      obtain ⟨I', hW, hP⟩ := ih I1 nd1 h1 h2 h3 (fun q' hq' hok => by
        by_cases he : q' < q
        · exact h4 q' he hok
        · obtain rfl : q' = q := by omega
          rw [ho] at hok; cases hok) h5
      exact ⟨I', aw_take 5 (by rw [hl]; exact hW), hP⟩
    have head : ∀ I' : am_I, am_W m_X4_needChildren d 0 0 false 0 0 22 [(0, .ref k), (1, .ref b), (2, .int (nn S)), (3, .int F), (4, .int (nn q))] [] Γ I1 L (am_R (.inl none) I' L) → am_W m_X4_needChildren d 0 0 false 0 0 13 [(0, .ref k), (1, .ref b), (2, .int (nn S)), (3, .int F), (4, .int (nn q))] [] Γ I1 L (am_R (.inl none) I' L) := fun I' h => by
      refine bX4_needChildren_13 ob (fun h => absurd h (by rw [e0, nn_le (by omega) (by omega)]; omega)) (fun _ => h)
    by_cases hF : nn q = F
    · obtain ⟨I', hW, hP⟩ := skip (by unfold oks fbq; rw [decide_eq_true hF]; rfl) [(0, .ref k), (1, .ref b), (2, .int (nn S)), (3, .int F), (4, .int (nn (q + 1))), (5, .int (nn S &&& I1 (b + 3) (nn q).toNatClampNeg)), (6, .int (nn S &&& (I1 (b + 3) (nn q).toNatClampNeg ^^^ -1)))] rfl
      refine ⟨I', head I' ?_, hP⟩
      refine bX4_needChildren_22 ob s6 b3 (nn_in (by omega) (by omega)) (fun _ => ?_) (fun h => absurd hF h)
      refine bX4_needChildren_102 ?_
      rw [nl_1, nn_add]
      exact hW
    have ey : nn S &&& I1 (b + 3) (nn q).toNatClampNeg = nn (S &&& ys q) := by rw [nn_nat (by omega), e3, nn_and]
    have en : nn S &&& (I1 (b + 3) (nn q).toNatClampNeg ^^^ -1) = nn (nots S (ys q)) := by rw [nn_nat (by omega), e3, nn_andn]; rfl
    by_cases hy : S &&& ys q = 0
    · obtain ⟨I', hW, hP⟩ := skip (by unfold oks; rw [decide_eq_true hy]; simp) [(0, .ref k), (1, .ref b), (2, .int (nn S)), (3, .int F), (4, .int (nn (q + 1))), (5, .int (nn (S &&& ys q))), (6, .int (nn (nots S (ys q))))] rfl
      refine ⟨I', head I' ?_, hP⟩
      refine bX4_needChildren_22 ob s6 b3 (nn_in (by omega) (by omega)) (fun h => absurd h hF) (fun _ => ?_)
      rw [ey, en]
      refine bX4_needChildren_52 (fun _ => ?_) (fun h => absurd (by rw [hy]; rfl) h)
      refine bX4_needChildren_102 ?_
      rw [nl_1, nn_add]
      exact hW
    by_cases hno : nots S (ys q) = 0
    · obtain ⟨I', hW, hP⟩ := skip (by unfold oks; rw [decide_eq_true hno]; simp) [(0, .ref k), (1, .ref b), (2, .int (nn S)), (3, .int F), (4, .int (nn (q + 1))), (5, .int (nn (S &&& ys q))), (6, .int (nn (nots S (ys q))))] rfl
      refine ⟨I', head I' ?_, hP⟩
      refine bX4_needChildren_22 ob s6 b3 (nn_in (by omega) (by omega)) (fun h => absurd h hF) (fun _ => ?_)
      rw [ey, en]
      refine bX4_needChildren_52 (fun h => absurd h (by rw [nl_0, nn_eq (by omega) (by decide)]; exact hy)) (fun _ => ?_)
      refine bX4_needChildren_57 (fun _ => ?_) (fun h => absurd (by rw [hno]; rfl) h)
      refine bX4_needChildren_102 ?_
      rw [nl_1, nn_add]
      exact hW
    have hok : oks ys (fbq F) q S = true := by unfold oks fbq; rw [decide_eq_false hF, decide_eq_false hy, decide_eq_false hno]; rfl
    obtain ⟨l1, l2, -, -⟩ := oks_lt ys (fbq F) hok
    have nl : nd S >>> qc q < 2147483648 := Nat.lt_of_le_of_lt (Nat.shiftRight_le _ _) (hn S hS).2
    have ev : I1 (k + 2) (nn S).toNatClampNeg >>> (I1 (b + 2) (nn q).toNatClampNeg &&& 31) = nn (nd S >>> qc q) := by
      rw [nn_nat (by omega), nn_nat (by omega), e2, (h1 S hS).1, h3 S (Nat.le_refl _), nn_shr (hn S hS).2 (by omega)]
    obtain ⟨I', hW, hP⟩ := ih (am_u (am_u I1 (k + 2) (S &&& ys q) (I1 (k + 2) (S &&& ys q) ||| nn (nd S >>> qc q))) (k + 2) (nots S (ys q)) ((am_u I1 (k + 2) (S &&& ys q) (I1 (k + 2) (S &&& ys q) ||| nn (nd S >>> qc q))) (k + 2) (nots S (ys q)) ||| nn (nd S >>> qc q)))
      (fun S' => (nd1 S' ||| if S' = S &&& ys q then nd S >>> qc q else 0) ||| if S' = nots S (ys q) then nd S >>> qc q else 0) (fun S' hS' => by
        have h1y := h1 (S &&& ys q) (by omega)
        have h1n := h1 (nots S (ys q)) (by omega)
        have h1s := h1 S' hS'
        constructor
        · show _ = nn ((nd1 S' ||| if S' = S &&& ys q then nd S >>> qc q else 0) ||| if S' = nots S (ys q) then nd S >>> qc q else 0)
          rw [am_u_at]
          by_cases c1 : S' = nots S (ys q)
          · rw [if_pos ⟨rfl, c1⟩, if_pos c1, am_u_at, ← c1]
            by_cases c2 : S' = S &&& ys q
            · rw [if_pos ⟨rfl, c2⟩, if_pos c2, ← c2, h1s.1, nn_or, nn_or]
            · rw [if_neg (fun z => c2 z.2), if_neg c2, h1s.1, nn_or, Nat.or_zero]
          · rw [if_neg (fun z => c1 z.2), if_neg c1, am_u_at, Nat.or_zero]
            by_cases c2 : S' = S &&& ys q
            · rw [if_pos ⟨rfl, c2⟩, if_pos c2, ← c2, h1s.1, nn_or]
            · rw [if_neg (fun z => c2 z.2), if_neg c2, h1s.1, Nat.or_zero]
        · refine or_lt31 (or_lt31 h1s.2 ?_) ?_ <;> split <;> first | exact nl | decide)
      (fun S' l h => by rw [Nat.testBit_or, Nat.testBit_or, h2 S' l h]; rfl)
      (fun S' h => by show (nd1 S' ||| if S' = S &&& ys q then nd S >>> qc q else 0) ||| (if S' = nots S (ys q) then nd S >>> qc q else 0) = _; rw [if_neg (by omega), if_neg (by omega), Nat.or_zero, Nat.or_zero, h3 S' h])
      (fun q' hq' hok' l hl => by
        by_cases he : q' < q
        · obtain ⟨w1, w2⟩ := h4 q' he hok' l hl
          constructor
          · rw [Nat.testBit_or, Nat.testBit_or, w1]; rfl
          · rw [Nat.testBit_or, Nat.testBit_or, w2]; rfl
        · obtain rfl : q' = q := by omega
          have hb : (nd S >>> qc q').testBit l = true := by rw [Nat.testBit_shiftRight, Nat.add_comm]; exact hl
          constructor
          · rw [Nat.testBit_or, Nat.testBit_or, if_pos rfl, hb]; simp
          · rw [Nat.testBit_or, Nat.testBit_or, if_pos (rfl : nots S (ys q') = nots S (ys q')), hb]; simp)
      (fun c hc => by rw [am_u_ne hc, am_u_ne hc]; exact h5 c hc)
    refine ⟨I', head I' ?_, hP⟩
    refine bX4_needChildren_22 ob s6 b3 (nn_in (by omega) (by omega)) (fun h => absurd h hF) (fun _ => ?_)
    rw [ey, en]
    refine bX4_needChildren_52 (fun h => absurd h (by rw [nl_0, nn_eq (by omega) (by decide)]; exact hy)) (fun _ => ?_)
    refine bX4_needChildren_57 (fun h => absurd h (by rw [nl_0, nn_eq (by omega) (by decide)]; exact hno)) (fun _ => ?_)
    refine bX4_needChildren_62 o r1 a2 (nn_in (by omega) hS) ob s5 b2 (nn_in (by omega) (by omega)) (nn_in (by omega) (by omega)) (nn_in (by omega) (by omega)) ?_
    refine aw_take 7 ?_
    refine bX4_needChildren_102 ?_
    refine aw_take 5 ?_
    rw [ev, nn_nat (show S &&& ys q < 2147483648 by omega), nn_nat (show nots S (ys q) < 2147483648 by omega), nl_1, nn_add]
    exact hW
theorem eX4_fewestLeafErrors (hk : soF Γ k) (hb : stF Γ b) (hs : sda I b x Q T qc ys tl ct) {S : Nat} (hS : S < 2 ^ T) (hw : ∀ S, S < 2 ^ T → I (k + 3) S = nn (wt T ct S)) (hm : ∀ t, t < T → I (k + 4) t = nn (same T tl t)) :
    am_E m_X4_fewestLeafErrors d 0 0 [.ref k, .ref b, .int (nn S)] Γ I L (.inl (some (.int (nn (lfe T tl ct S))))) I L := by
  obtain ⟨o, r0, r1, r2, r3, r4, r5, r6, a1, a2, a3, a4, a5, a6, a7⟩ := hk
  obtain ⟨ob, s4, s5, s6, s7, s8, s9, s10, b1, b2, b3, b4, b5, b6, o7, hg⟩ := id hb
  obtain ⟨hQ, hT, hQ6, hT0, hT8, hq, ht⟩ := id hs
  have p8 := two_le8 hT8
  refine am_ofE rfl rfl rfl (Nat.le_of_ble_eq_true rfl) ?_
  refine bX4_fewestLeafErrors_0 ?_
  refine nn_loop (fun t => am_W m_X4_fewestLeafErrors d 0 0 false 0 0 5 [(0, .ref k), (1, .ref b), (2, .int (nn S)), (3, .int (nn (mxw T tl ct S t))), (4, .int (nn t))] [] Γ I L (am_R (.inl (some (.int (nn (lfe T tl ct S))))) I L)) T ?_ (fun t htT ih => ?_)
  · refine bX4_fewestLeafErrors_5 ob (fun _ => ?_) (fun h => absurd h (by rw [hT]; simp))
    refine bX4_fewestLeafErrors_39 o r2 a3 (nn_in (by omega) (by omega)) ?_
    refine am_R_e ?_ rfl rfl
    rw [nn_nat (by omega), hw S hS, nn_sub (mxw_le S T)]
    rfl
  · have hle : S &&& same T tl t ≤ S := Nat.and_le_left
    have w8 := wt_le (T := T) (ct := ct) hT8 (fun t h => (ht t h).2.2.2)
    have ei : nn S &&& I (k + 4) (nn t).toNatClampNeg = nn (S &&& same T tl t) := by rw [nn_nat (by omega), hm t htT, nn_and]
    refine bX4_fewestLeafErrors_5 ob (fun h => absurd h (by rw [hT, nn_le (by omega) (by omega)]; omega)) (fun _ => ?_)
    refine bX4_fewestLeafErrors_14 o r2 r3 a4 (nn_in (by omega) (by omega)) a3 (by rw [ei]; exact nn_in (by omega) (by omega)) ?_
    refine aw_els ih ?_
    have m1 := mxw_le (T := T) (tl := tl) (ct := ct) S t
    have m2 := wtl_le (T := T) (tl := tl) (ct := ct) S (tl t)
    have m3 := w8 S
    rw [ei, nn_nat (by omega), hw _ (by omega), wt_same, nl_1, nn_add]
    show _ = [(0, Value.ref k), (1, .ref b), (2, .int (nn S)), (3, .int (nn (max (mxw T tl ct S t) (wtl T tl ct S (tl t))))), (4, .int (nn (t + 1)))]
    by_cases h : mxw T tl ct S t < wtl T tl ct S (tl t)
    · rw [if_pos ((nn_lt (by omega) (by omega)).mpr h), Nat.max_eq_right (by omega)]
    · rw [if_neg (fun z => h ((nn_lt (by omega) (by omega)).mp z)), Nat.max_eq_left (by omega)]
theorem eX4_rankOf (hk : soF Γ k) {S l : Nat} (hS : S < 256) (hl : l ≤ 30) : am_E m_X4_rankOf d 0 0 [.ref k, .int (nn S), .int (nn l)] Γ I L (.inl (some (.long (L (k + 1) (S * 31 + l))))) I L := by
  obtain ⟨o, r0, r1, r2, r3, r4, r5, r6, a1, a2, a3, a4, a5, a6, a7⟩ := hk
  refine am_ofE rfl rfl rfl (Nat.le_of_ble_eq_true rfl) ?_
  have e : nn S * 31 + nn l = nn (S * 31 + l) := by rw [nl_31, nn_mul, nn_add]
  refine bX4_rankOf_0 o r0 a1 (by rw [e]; exact nn_in (by omega) (by omega)) ?_
  rw [e, nn_nat (by omega)]
  exact ⟨rfl, rfl, rfl⟩
theorem or_q {a q : Nat} (h : q < 7) : a * 8 ||| (q + 1) = a * 8 + (q + 1) := by
  have := Nat.two_pow_add_eq_or_of_lt (i := 3) (b := q + 1) (by omega) a
  rw [Nat.mul_comm] at this
  exact this.symm
theorem eX4_rankSet (hk : soF Γ k) (hb : stF Γ b) (hs : sda I b x Q T qc ys tl ct) (F : Int32) {S : Nat} {nd : Nat → Nat} (h0 : 0 < S) (hS : S < 2 ^ T) (hn : ndR I k nd) (hw : ∀ S, S < 2 ^ T → I (k + 3) S = nn (wt T ct S))
    (hr : ∀ q l, q < Q → l ≤ 30 → (nd S).testBit l = true → oks ys (fbq F) q S = true → qc q ≤ l → L (k + 1) ((S &&& ys q) * 31 + (l - qc q)) = ll (bB Q T qc ys tl ct (fbq F) (S &&& ys q) (l - qc q)) ∧ L (k + 1) (nots S (ys q) * 31 + (l - qc q)) = ll (bB Q T qc ys tl ct (fbq F) (nots S (ys q)) (l - qc q))) :
    ∃ L', am_E m_X4_rankSet d 0 0 [.ref k, .ref b, .int (nn S), .int (nn (lfe T tl ct S)), .int F] Γ I L (.inl none) I L' ∧ (∀ l, l ≤ 30 → (nd S).testBit l = true → L' (k + 1) (S * 31 + l) = ll (bB Q T qc ys tl ct (fbq F) S l)) ∧ ∀ c j, ¬ (c = k + 1 ∧ S * 31 ≤ j ∧ j < S * 31 + 31) → L' c j = L c j := by
  obtain ⟨o, r0, r1, r2, r3, r4, r5, r6, a1, a2, a3, a4, a5, a6, a7⟩ := hk
  obtain ⟨ob, s4, s5, s6, s7, s8, s9, s10, b1, b2, b3, b4, b5, b6, o7, hg⟩ := id hb
  obtain ⟨hQ, hT, hQ6, hT0, hT8, hq, ht⟩ := id hs
  have p8 := two_le8 hT8
  have w8 := wt_le (T := T) (ct := ct) hT8 (fun t h => (ht t h).2.2.2)
  have wS := w8 S
  have hlf : lfe T tl ct S ≤ wt T ct S := Nat.sub_le _ _
  refine am_ofX2 rfl rfl rfl (Nat.le_of_ble_eq_true rfl) ?_
  have loop := nn_loop (fun l => ∀ L1 : am_L, (∀ l', l' < l → (nd S).testBit l' = true → L1 (k + 1) (S * 31 + l') = ll (bB Q T qc ys tl ct (fbq F) S l')) → (∀ c j, ¬ (c = k + 1 ∧ S * 31 ≤ j ∧ j < S * 31 + 31) → L1 c j = L c j) → ∃ L', am_W m_X4_rankSet d 0 0 false 0 0 3 [(0, .ref k), (1, .ref b), (2, .int (nn S)), (3, .int (nn (lfe T tl ct S))), (4, .int F), (5, .int (nn l))] [] Γ I L1 (am_R (.inl none) I L') ∧
    (∀ l, l ≤ 30 → (nd S).testBit l = true → L' (k + 1) (S * 31 + l) = ll (bB Q T qc ys tl ct (fbq F) S l)) ∧ ∀ c j, ¬ (c = k + 1 ∧ S * 31 ≤ j ∧ j < S * 31 + 31) → L' c j = L c j) 31 ?_ (fun l hl ih => ?_)
  · obtain ⟨L', hW, hP⟩ := loop L (fun l' h => absurd h (Nat.not_lt_zero _)) (fun _ _ _ => rfl)
    exact ⟨L', bX4_rankSet_0 hW, hP⟩
  · intro L1 h1 h2
    refine ⟨L1, ?_, fun l hl => h1 l (by omega), h2⟩
    refine bX4_rankSet_3 (fun _ => ?_) (fun h => absurd (by decide) h)
    refine bX4_rankSet_196 ?_
    exact ⟨rfl, rfl, rfl⟩
  · intro L1 h1 h2
    have head : ∀ L' : am_L, am_W m_X4_rankSet d 0 0 false 0 0 10 [(0, .ref k), (1, .ref b), (2, .int (nn S)), (3, .int (nn (lfe T tl ct S))), (4, .int F), (5, .int (nn l))] [] Γ I L1 (am_R (.inl none) I L') → am_W m_X4_rankSet d 0 0 false 0 0 3 [(0, .ref k), (1, .ref b), (2, .int (nn S)), (3, .int (nn (lfe T tl ct S))), (4, .int F), (5, .int (nn l))] [] Γ I L1 (am_R (.inl none) I L') := fun L' h => by
      refine bX4_rankSet_3 (fun h => absurd h (by rw [nl_30, nn_lt (by omega) (by omega)]; omega)) (fun _ => h)
    have hbit : I (k + 2) (nn S).toNatClampNeg >>> (nn l &&& 31) &&& 1 = nn (nb (nd S) l) := by rw [nn_nat (by omega), (hn S (by omega)).1, nn_bit (hn S (by omega)).2 (by omega)]
    cases hbt : (nd S).testBit l
    · obtain ⟨L', hW, hP⟩ := ih L1 (fun l' hl' hbt' => by
        by_cases he : l' < l
        · exact h1 l' he hbt'
        · obtain rfl : l' = l := by omega
          rw [hbt] at hbt'; cases hbt') h2
      refine ⟨L', head L' ?_, hP⟩
      refine bX4_rankSet_10 o r1 a2 (nn_in (by omega) (by omega)) (fun h => absurd (by rw [hbit, nb_z.mpr hbt]; rfl) h) (fun _ => ?_)
      refine bX4_rankSet_24 ?_
      refine bX4_rankSet_190 ?_
      rw [nl_1, nn_add]
      exact hW
    · have inner : ∀ L' : am_L, am_W m_X4_rankSet d 0 0 false 0 0 176 [(0, .ref k), (1, .ref b), (2, .int (nn S)), (3, .int (nn (lfe T tl ct S))), (4, .int F), (5, .int (nn l)), (6, .long (ll (bB Q T qc ys tl ct (fbq F) S l))), (8, .int (nn Q))] [] Γ I L1 (am_R (.inl none) I L') →
          am_W m_X4_rankSet d 0 0 false 0 0 37 [(0, .ref k), (1, .ref b), (2, .int (nn S)), (3, .int (nn (lfe T tl ct S))), (4, .int F), (5, .int (nn l)), (6, .long (ll (bq T qc ys tl ct (fbq F) (bB Q T qc ys tl ct (fbq F)) S l 0))), (8, .int (nn 0))] [] Γ I L1 (am_R (.inl none) I L') := by
        intro L' hE
        refine nn_loop (fun q => am_W m_X4_rankSet d 0 0 false 0 0 37 [(0, .ref k), (1, .ref b), (2, .int (nn S)), (3, .int (nn (lfe T tl ct S))), (4, .int F), (5, .int (nn l)), (6, .long (ll (bq T qc ys tl ct (fbq F) (bB Q T qc ys tl ct (fbq F)) S l q))), (8, .int (nn q))] [] Γ I L1 (am_R (.inl none) I L')) Q ?_ (fun q hqQ ihq => ?_)
        · refine bX4_rankSet_37 ob (fun _ => ?_) (fun h => absurd h (by rw [hQ]; simp))
          rw [← bB_eq Q T qc ys tl ct (fbq F) (show S < 256 by omega)]
          exact hE
        · obtain ⟨eqc, q1, q9, eys, ysl⟩ := hq q hqQ
          have nS : nots S (ys q) ≤ S ∧ S &&& ys q ≤ S := by have := and_nots S (ys q); omega
          have skip : (oks ys (fbq F) q S && decide (qc q ≤ l)) = false → ∀ ls : List (Nat × Value), ls.take 8 = [(0, .ref k), (1, .ref b), (2, .int (nn S)), (3, .int (nn (lfe T tl ct S))), (4, .int F), (5, .int (nn l)), (6, .long (ll (bq T qc ys tl ct (fbq F) (bB Q T qc ys tl ct (fbq F)) S l q))), (8, .int (nn (q + 1)))] → am_W m_X4_rankSet d 0 0 false 0 0 37 ls [] Γ I L1 (am_R (.inl none) I L') := by
            intro ho ls hls
            refine aw_take 8 ?_
            rw [hls]
            have e : bq T qc ys tl ct (fbq F) (bB Q T qc ys tl ct (fbq F)) S l (q + 1) = bq T qc ys tl ct (fbq F) (bB Q T qc ys tl ct (fbq F)) S l q := by
              show (if (oks ys (fbq F) q S && decide (qc q ≤ l)) = true then _ else _) = _
              rw [ho]; rfl
            rw [← e]
            exact ihq
          have ey : nn S &&& I (b + 3) (nn q).toNatClampNeg = nn (S &&& ys q) := by rw [nn_nat (by omega), eys, nn_and]
          have en : nn S &&& (I (b + 3) (nn q).toNatClampNeg ^^^ -1) = nn (nots S (ys q)) := by rw [nn_nat (by omega), eys, nn_andn]; rfl
          have er : I (b + 2) (nn q).toNatClampNeg = nn (qc q) := by rw [nn_nat (by omega), eqc]
          refine bX4_rankSet_37 ob (fun h => absurd h (by rw [hQ, nn_le (by omega) (by omega)]; omega)) (fun _ => ?_)
          by_cases hF : nn q = F
          · refine bX4_rankSet_46 ob s6 b3 (nn_in (by omega) (by omega)) s5 b2 (nn_in (by omega) (by omega)) (fun _ => ?_) (fun h => absurd hF h)
            refine bX4_rankSet_170 ?_
            rw [nl_1, nn_add]
            exact skip (by unfold oks fbq; rw [decide_eq_true hF]; rfl) _ rfl
          refine bX4_rankSet_46 ob s6 b3 (nn_in (by omega) (by omega)) s5 b2 (nn_in (by omega) (by omega)) (fun h => absurd h hF) (fun _ => ?_)
          rw [ey, en, er]
          by_cases hy : S &&& ys q = 0
          · refine bX4_rankSet_89 (fun _ => ?_) (fun h => absurd (by rw [hy]; rfl) h)
            refine bX4_rankSet_170 ?_
            rw [nl_1, nn_add]
            exact skip (by unfold oks; rw [decide_eq_true hy]; simp) _ rfl
          refine bX4_rankSet_89 (fun h => absurd h (by rw [nl_0, nn_eq (by omega) (by decide)]; exact hy)) (fun _ => ?_)
          by_cases hno : nots S (ys q) = 0
          · refine bX4_rankSet_94 (fun _ => ?_) (fun h => absurd (by rw [hno]; rfl) h)
            refine bX4_rankSet_170 ?_
            rw [nl_1, nn_add]
            exact skip (by unfold oks; rw [decide_eq_true hno]; simp) _ rfl
          refine bX4_rankSet_94 (fun h => absurd h (by rw [nl_0, nn_eq (by omega) (by decide)]; exact hno)) (fun _ => ?_)
          by_cases hql : qc q ≤ l
          · rw [nn_sub hql]
            refine bX4_rankSet_99 (fun h => absurd h (nn_neg_lt (by omega))) (fun _ => ?_)
            have hok : oks ys (fbq F) q S = true := by unfold oks fbq; rw [decide_eq_false hF, decide_eq_false hy, decide_eq_false hno]; rfl
            obtain ⟨l1, l2, -, -⟩ := oks_lt ys (fbq F) hok
            obtain ⟨ry, rn⟩ := hr q l hqQ (by omega) hbt hok hql
            have i1 : nn (S &&& ys q) * 31 + nn (l - qc q) = nn ((S &&& ys q) * 31 + (l - qc q)) := by rw [nl_31, nn_mul, nn_add]
            have i2 : nn (nots S (ys q)) * 31 + nn (l - qc q) = nn (nots S (ys q) * 31 + (l - qc q)) := by rw [nl_31, nn_mul, nn_add]
            refine bX4_rankSet_104 o r0 a1 (by rw [i1]; exact nn_in (by omega) (by omega)) (by rw [i2]; exact nn_in (by omega) (by omega)) ob s5 b2 (nn_in (by omega) (by omega)) r2 a3 (nn_in (by omega) (by omega)) ?_
            refine aw_take 11 ?_
            refine bX4_rankSet_170 ?_
            refine aw_take 8 ?_
            have bl := bB_lt (Q := Q) (qc := qc) (ys := ys) (tl := tl) (fb := fbq F) hQ6 hT8 (fun t h => (ht t h).2.2.2) (show S &&& ys q < 256 by omega) (show l - qc q ≤ 30 by omega)
            have bl2 := bB_lt (Q := Q) (qc := qc) (ys := ys) (tl := tl) (fb := fbq F) hQ6 hT8 (fun t h => (ht t h).2.2.2) (show nots S (ys q) < 256 by omega) (show l - qc q ≤ 30 by omega)
            have L1y : L1 (k + 1) ((S &&& ys q) * 31 + (l - qc q)) = ll (bB Q T qc ys tl ct (fbq F) (S &&& ys q) (l - qc q)) := by rw [h2 _ _ (fun z => by omega)]; exact ry
            have L1n : L1 (k + 1) (nots S (ys q) * 31 + (l - qc q)) = ll (bB Q T qc ys tl ct (fbq F) (nots S (ys q)) (l - qc q)) := by rw [h2 _ _ (fun z => by omega)]; exact rn
            have pq : qc q * wt T ct S ≤ 9 * 79992 := Nat.mul_le_mul q9 wS
            have ec : ((((L1 (k + 1) (nn ((S &&& ys q) * 31 + (l - qc q))).toNatClampNeg >>> ((3 : Int32).toInt64 &&& 63)) + (L1 (k + 1) (nn (nots S (ys q) * 31 + (l - qc q))).toNatClampNeg >>> ((3 : Int32).toInt64 &&& 63))) + (I (b + 2) (nn q).toNatClampNeg * I (k + 3) (nn S).toNatClampNeg).toInt64) <<< ((3 : Int32).toInt64 &&& 63)) ||| (nn q + 1).toInt64 = ll (cand T qc ys ct (bB Q T qc ys tl ct (fbq F)) q S l) := by
              rw [nn_nat (by omega), nn_nat (by omega), nn_nat (show S < 2147483648 by omega), er, hw S hS, L1y, L1n, nn_mul, nl_3, nl_1, nn_add, ll_shr (by omega) (by decide), ll_shr (by omega) (by decide), ll_of (k := qc q * wt T ct S) (by omega), ll_of (k := q + 1) (by omega), ll_add, ll_add, ll_shl (t := 3) (by decide), ll_or, show (2 : Nat) ^ 3 = 8 from rfl, or_q (by omega)]
              rfl
            rw [i1, i2, ec, nl_1, nn_add]
            have e : bq T qc ys tl ct (fbq F) (bB Q T qc ys tl ct (fbq F)) S l (q + 1) = min (bq T qc ys tl ct (fbq F) (bB Q T qc ys tl ct (fbq F)) S l q) (cand T qc ys ct (bB Q T qc ys tl ct (fbq F)) q S l) := by
              show (if (oks ys (fbq F) q S && decide (qc q ≤ l)) = true then _ else _) = _
              rw [if_pos (by rw [hok, decide_eq_true hql]; rfl)]
            have hcl : cand T qc ys ct (bB Q T qc ys tl ct (fbq F)) q S l < 9223372036854775808 := by unfold cand; omega
            have hbl : ∀ j, bq T qc ys tl ct (fbq F) (bB Q T qc ys tl ct (fbq F)) S l j < 9223372036854775808 := by
              intro j
              have : bq T qc ys tl ct (fbq F) (bB Q T qc ys tl ct (fbq F)) S l j ≤ lfe T tl ct S * 33554432 := by
                induction j with
                | zero => exact Nat.le_refl _
                | succ j ihj =>
                  show (if _ then min _ _ else _) ≤ _
                  split
                  · exact Nat.le_trans (Nat.min_le_left _ _) ihj
                  · exact ihj
              omega
            have em : (if ll (cand T qc ys ct (bB Q T qc ys tl ct (fbq F)) q S l) < ll (bq T qc ys tl ct (fbq F) (bB Q T qc ys tl ct (fbq F)) S l q) then ll (cand T qc ys ct (bB Q T qc ys tl ct (fbq F)) q S l) else ll (bq T qc ys tl ct (fbq F) (bB Q T qc ys tl ct (fbq F)) S l q)) = ll (bq T qc ys tl ct (fbq F) (bB Q T qc ys tl ct (fbq F)) S l (q + 1)) := by
              rw [e]
              by_cases h : cand T qc ys ct (bB Q T qc ys tl ct (fbq F)) q S l < bq T qc ys tl ct (fbq F) (bB Q T qc ys tl ct (fbq F)) S l q
              · rw [if_pos ((ll_lt hcl (hbl q)).mpr h), Nat.min_eq_right (by omega)]
              · rw [if_neg (fun z => h ((ll_lt hcl (hbl q)).mp z)), Nat.min_eq_left (by omega)]
            rw [em]
            exact ihq
          · refine bX4_rankSet_99 (fun _ => ?_) (fun h => absurd (by
              have : nn l - nn (qc q) = -(nn (qc q - l)) := by
                have h1 := nn_sub (a := qc q) (b := l) (by omega)
                rw [← h1, Int32.neg_sub]
              rw [this]
              have hi : (nn (qc q - l)).toInt = ((qc q - l : Nat) : Int) := nn_toInt (by omega)
              have : ∀ m, m < 10 → 0 < m → -(nn m) < 0 := by decide
              exact this _ (by omega) (by omega)) h)
            refine bX4_rankSet_170 ?_
            rw [nl_1, nn_add]
            exact skip (by rw [decide_eq_false hql, Bool.and_false]) _ rfl
      have hb3 : S * 31 + l < 7936 := by omega
      have ei : nn S * 31 + nn l = nn (S * 31 + l) := by rw [nl_31, nn_mul, nn_add]
      obtain ⟨L', hW, hP⟩ := ih (am_ul L1 (k + 1) (S * 31 + l) (ll (bB Q T qc ys tl ct (fbq F) S l))) (fun l' hl' hbt' => by
        rw [am_ul_at]
        by_cases he : l' = l
        · rw [if_pos ⟨rfl, by omega⟩, he]
        · rw [if_neg (fun z => by omega)]; exact h1 l' (by omega) hbt') (fun c j hcj => by
        rw [am_ul_at, if_neg (fun z => hcj ⟨z.1, by omega⟩)]; exact h2 c j hcj)
      refine ⟨L', head L' ?_, hP⟩
      refine bX4_rankSet_10 o r1 a2 (nn_in (by omega) (by omega)) (fun _ => ?_) (fun h => absurd h (by rw [hbit, nb_1.mpr hbt]; decide))
      refine bX4_rankSet_27 ?_
      have e0 : (nn (lfe T tl ct S)).toInt64 <<< ((25 : Int32).toInt64 &&& 63) = ll (bq T qc ys tl ct (fbq F) (bB Q T qc ys tl ct (fbq F)) S l 0) := by
        rw [nl_25, ll_of (by omega), ll_shl (by decide)]; rfl
      rw [e0]
      refine inner L' ?_
      refine bX4_rankSet_176 o r0 a1 (by rw [ei]; exact nn_in (by omega) (by omega)) ?_
      refine aw_take 6 ?_
      refine bX4_rankSet_190 ?_
      rw [ei, nn_nat (by omega), nl_1, nn_add]
      exact hW
end C5
