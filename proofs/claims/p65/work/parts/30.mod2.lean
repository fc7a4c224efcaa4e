/-! CONTRACTS OF THE MODEL: all best trees -/
theorem nots_and (S Y : Nat) : nots S (S &&& Y) = nots S Y := by
  refine Nat.eq_of_testBit_eq (fun i => ?_)
  rw [nots_bit, nots_bit, Nat.testBit_and]
  cases S.testBit i <;> cases Y.testBit i <;> rfl
theorem yse_lt (T : Nat) (ty : Nat → Nat) (q : Nat) : yse T ty q < 2 ^ T := msk_lt _ T
theorem cand_dec {x y z q : Nat} (h : x / 8 % 4194304 + y / 8 % 4194304 + z < 4194304) (hq : q < 7) :
    ((x / 8 + y / 8 + z) * 8 + (q + 1)) / 33554432 = x / 33554432 + y / 33554432 ∧ ((x / 8 + y / 8 + z) * 8 + (q + 1)) / 8 % 4194304 = z + x / 8 % 4194304 + y / 8 % 4194304 ∧ ((x / 8 + y / 8 + z) * 8 + (q + 1)) % 8 = q + 1 := by omega
theorem min_dec {C R q : Nat} (h1 : C % 8 = q + 1) (h2 : R % 8 ≤ q) : C < R ↔ (C / 33554432 < R / 33554432 ∨ (C / 33554432 = R / 33554432 ∧ C / 8 % 4194304 < R / 8 % 4194304)) := by omega
theorem wtl_z {T : Nat} {tl ct : Nat → Nat} {S v : Nat} (h : ∀ u, u < T → S.testBit u = true → tl u ≠ v) : wtl T tl ct S v = 0 := by
  unfold wtl
  have := nsum_le (f := fun t => if (S.testBit t && decide (tl t = v)) = true then ct t else 0) (m := 0) T (fun k hk => by
    show (if (S.testBit k && decide (tl k = v)) = true then ct k else 0) ≤ 0
    cases hb : S.testBit k
    · simp
    · rw [decide_eq_false (h k hk hb)]; simp)
  omega
theorem mxw_bt {T : Nat} {tl ct : Nat → Nat} {S v : Nat} (h : isBT T tl ct S v) : mxw T tl ct S T = wtl T tl ct S v := by
  have le1 : ∀ w, wtl T tl ct S w ≤ wtl T tl ct S v := by
    intro w
    by_cases hx : ∃ u, u < T ∧ S.testBit u = true ∧ tl u = w
    · obtain ⟨u, u1, u2, u3⟩ := hx
      have := h.2 u u1 u2
      rw [u3] at this
      omega
    · rw [wtl_z (v := w) (fun u u1 u2 u3 => hx ⟨u, u1, u2, u3⟩)]
      omega
  have up : ∀ k, mxw T tl ct S k ≤ wtl T tl ct S v := by
    intro k
    induction k with
    | zero => exact Nat.zero_le _
    | succ k ih => exact Nat.max_le.mpr ⟨ih, le1 _⟩
  have lo : ∀ k t, t < k → wtl T tl ct S (tl t) ≤ mxw T tl ct S k := by
    intro k
    induction k with
    | zero => intro t h; omega
    | succ k ih =>
      intro t ht
      show _ ≤ max _ _
      by_cases hk : t < k
      · exact Nat.le_trans (ih t hk) (Nat.le_max_left _ _)
      · obtain rfl : t = k := by omega
        exact Nat.le_max_right _ _
  obtain ⟨t, t1, t2, t3⟩ := h.1
  have := lo T t t1
  rw [t3] at this
  exact Nat.le_antisymm (up T) this
/-- the model's three tables hold the rank R at set S, limit l -/
def rk (I : am_I) (m S l R : Nat) : Prop := I (m + 8) (S * 31 + l) = nn (R / 33554432) ∧ I (m + 9) (S * 31 + l) = nn (R / 8 % 4194304) ∧ I (m + 10) (S * 31 + l) = nn (R % 8) - 1
section BQ
variable {Q T : Nat} {qc ys tl ct : Nat → Nat} {fb : Nat → Bool} {sub : Nat → Nat → Nat} {S l : Nat}
theorem bq_root : ∀ k, k ≤ 6 → bq T qc ys tl ct fb sub S l k % 8 ≤ k
  | 0, _ => by
    show lfe T tl ct S * 33554432 % 8 ≤ 0
    omega
  | k + 1, h => by
    have := bq_root k (by omega)
    show (if _ then min _ (cand T qc ys ct sub k S l) else _) % 8 ≤ k + 1
    split
    · by_cases hm : bq T qc ys tl ct fb sub S l k ≤ cand T qc ys ct sub k S l
      · rw [Nat.min_eq_left hm]; omega
      · rw [Nat.min_eq_right (by omega)]
        unfold cand
        omega
    · omega
theorem bq_le : ∀ k, bq T qc ys tl ct fb sub S l k ≤ lfe T tl ct S * 33554432
  | 0 => Nat.le_refl _
  | k + 1 => by
    have := bq_le k
    show (if _ then min _ _ else _) ≤ _
    split
    · exact Nat.le_trans (Nat.min_le_left _ _) this
    · exact this
end BQ
section M2
variable {d : Nat} {Γ : am_G} {I : am_I} {L : am_L} {m : Nat} {g Q T : Nat} {qc ty tl ct : Nat → Nat}
theorem mda.to {w w' : Nat → Int32} (h : mda w g Q T qc ty tl ct) (e : ∀ j, j < 132 → w' j = w j) (e2 : ∀ t, t < 8 → w' (132 + g * 94 + (10 + t)) = w (132 + g * 94 + (10 + t))) : mda w' g Q T qc ty tl ct := by
  obtain ⟨h0, h1, h2, h3, h4, h5, h6⟩ := h
  refine ⟨by rw [e 0 (by decide)]; exact h0, by rw [e 1 (by decide)]; exact h1, h2, h3, h4, fun q hq => by rw [e _ (by omega)]; exact h5 q hq, fun t ht => by rw [e _ (by omega), e _ (by omega), e2 t (by omega)]; exact h6 t ht⟩
end M2
