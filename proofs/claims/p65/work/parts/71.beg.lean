/-! THE TEXT BEGINS: both sides -/
section BG
variable {d : Nat} {Γ : am_G} {I : am_I} {L : am_L} {B : Nat → Nat} {n m : Nat}
theorem eX3_begin (ro : am_ob Γ 81 3) (g0 : Γ.2.2 81 0 = some 82) (ra : am_ar Γ 82 2 700 0) (hB : rcB I B n) : ∃ I' L', am_E m_X3_begin (d + 2) 0 0 [.ref 81] Γ I L (.inl none) I' L' ∧ rcB I' B n ∧ tkC B n I' L' (skp B n 0) ∧ (I' 81 2 = 0 ∧ I' 81 3 = -1 ∧ I' 81 4 = 0) ∧ (∀ k, k ≠ 81 → I' k = I k) ∧ (∀ j, j ≠ 2 → j ≠ 3 → j ≠ 4 → j ≠ 7 → j ≠ 8 → j ≠ 9 → j ≠ 11 → I' 81 j = I 81 j) ∧ ∀ k, k ≠ 81 → L' k = L k := by
  obtain ⟨J, hJ⟩ : ∃ J, J = am_u (am_u (am_u (am_u I 81 2 0) 81 3 (-1)) 81 4 0) 81 9 0 := ⟨_, rfl⟩
  have jj : ∀ j, j ≠ 2 → j ≠ 3 → j ≠ 4 → j ≠ 9 → J 81 j = I 81 j := fun j a b c e => by rw [hJ, at1, if_neg e, at1, if_neg c, at1, if_neg b, at1, if_neg a]
  have jk : ∀ k, k ≠ 81 → J k = I k := fun k hk => by rw [hJ, am_u_ne hk, am_u_ne hk, am_u_ne hk, am_u_ne hk]
  have j2 : J 81 2 = 0 := by rw [hJ, at1, if_neg (by decide), at1, if_neg (by decide), at1, if_neg (by decide), at1, if_pos rfl]
  have j3 : J 81 3 = -1 := by rw [hJ, at1, if_neg (by decide), at1, if_neg (by decide), at1, if_pos rfl]
  have j4 : J 81 4 = 0 := by rw [hJ, at1, if_neg (by decide), at1, if_pos rfl]
  have j9 : J 81 9 = nn 0 := by rw [hJ, at1, if_pos rfl]; rfl
  have hB2 : rcB J B n := ⟨hB.1, (jj 1 (by decide) (by decide) (by decide) (by decide)).trans hB.2.1, fun j hj => by rw [jk 82 (by decide)]; exact hB.2.2 j hj⟩
  obtain ⟨I', L', hE, t, f⟩ := eX3_advance (d := d) (L := L) ro g0 ra hB2 j9 (Nat.zero_le n)
  refine ⟨I', L', am_ofE rfl rfl rfl (Nat.le_of_ble_eq_true rfl) ?_, hB2.frC f, t, ⟨(f.2.1 2 (by decide) (by decide) (by decide) (by decide)).trans j2, (f.2.1 3 (by decide) (by decide) (by decide) (by decide)).trans j3, (f.2.1 4 (by decide) (by decide) (by decide) (by decide)).trans j4⟩, fun k hk => (f.1 k hk).trans (jk k hk), fun j a b c e g h k => (f.2.1 j e g h k).trans (jj j a b c h), fun k hk => f.2.2.1 k hk⟩
  refine bX3_begin_0 ro (Nat.zero_le _) (Nat.zero_le _) (by rw [← hJ]; exact hE) ?_
  refine bX3_begin_24 ?_
  exact ⟨rfl, rfl, rfl⟩
end BG
