/-! THE TEXT'S TOKENS: what the model takes -/
/-- the model once something is wrong -/
def wrS (J : am_I) (m c s : Nat) : am_I := am_u (am_u (am_u J m 23 1) m 11 (nn c)) m 12 (nn s)
theorem wrS_at {J : am_I} {m c s : Nat} : wrS J m c s m 23 = 1 ∧ wrS J m c s m 11 = nn c ∧ wrS J m c s m 12 = nn s ∧ (∀ k, k ≠ m → wrS J m c s k = J k) ∧ ∀ j, j ≠ 23 → j ≠ 11 → j ≠ 12 → wrS J m c s m j = J m j := by
  unfold wrS
  exact ⟨by rw [at1, if_neg (by decide), at1, if_neg (by decide), at1, if_pos rfl], by rw [at1, if_neg (by decide), at1, if_pos rfl], by rw [at1, if_pos rfl], fun k hk => by rw [am_u_ne hk, am_u_ne hk, am_u_ne hk], fun j a b c' => by rw [at1, if_neg c', at1, if_neg b, at1, if_neg a]⟩
theorem rmB.frM {I I' : am_I} {m : Nat} {B : Nat → Nat} {n : Nat} (h : rmB I m B n) (f : frM I I' m) : rmB I' m B n :=
  ⟨h.1, (f.2 9 (by decide) (by decide) (by decide) (by decide)).trans h.2.1, fun j hj => ⟨(h.2.2 j hj).1, by rw [f.1 (m + 6) (by omega)]; exact (h.2.2 j hj).2⟩⟩
theorem kdM_le {k : Nat} : kdM k ≤ 4 := by
  unfold kdM
  split
  · omega
  · split
    · omega
    · split
      · omega
      · split <;> omega
theorem kdM_1 {k : Nat} (h : k ≤ 4) : kdM k = 1 ↔ k = 0 := by
  have : ∀ k, k < 5 → (kdM k = 1 ↔ k = 0) := by decide
  exact this k (by omega)
theorem kdM_2 {k : Nat} (h : k ≤ 4) : kdM k = 2 ↔ k = 1 := by
  have : ∀ k, k < 5 → (kdM k = 2 ↔ k = 1) := by decide
  exact this k (by omega)
theorem kdM_3 {k : Nat} (h : k ≤ 4) : kdM k = 3 ↔ k = 2 := by
  have : ∀ k, k < 5 → (kdM k = 3 ↔ k = 2) := by decide
  exact this k (by omega)
theorem kdM_0 {k : Nat} (h : k ≤ 4) : kdM k = 0 ↔ k = 3 := by
  have : ∀ k, k < 5 → (kdM k = 0 ↔ k = 3) := by decide
  exact this k (by omega)
section TK5
variable {d mc ms : Nat} {Γ : am_G} {I : am_I} {L : am_L} {B : Nat → Nat} {n s m : Nat}
theorem tkM.k19 (ht : tkM B n I m s) {k : Nat} (hk : k ≤ 4) : (I m 19 = nn k) ↔ kdM (kd B n s) = k := by
  have := kdM_le (k := kd B n s)
  rw [ht.2.2.1]
  exact nn_eq (by omega) (by omega)
end TK5
