/-! THE TEXT BEGINS: both sides -/
section BG
variable {d : Nat} {Γ : am_G} {I : am_I} {L : am_L} {B : Nat → Nat} {n m : Nat}
theorem eX3_begin (ro : am_ob Γ 81 3) (g0 : Γ.2.2 81 0 = some 82) (ra : am_ar Γ 82 2 700 0) (hB : rcB I B n) : ∃ I' L', am_E m_X3_begin (d + 2) 0 0 [.ref 81] Γ I L (.inl none) I' L' ∧ rcB I' B n ∧ tkC B n I' L' (skp B n 0) ∧ (I' 81 2 = 0 ∧ I' 81 3 = -1 ∧ I' 81 4 = 0) ∧ (∀ k, k ≠ 81 → I' k = I k) ∧ (∀ j, j ≠ 2 → j ≠ 3 → j ≠ 4 → j ≠ 7 → j ≠ 8 → j ≠ 9 → j ≠ 11 → I' 81 j = I 81 j) ∧ ∀ k, k ≠ 81 → L' k = L k := by
  obtain ⟨J, hJ⟩ : ∃ J, J = am_u (am_u (am_u (am_u I 81 2 0) 81 3 (-1)) 81 4 0) 81 9 0 := ⟨_, rfl⟩
  have jj : ∀ j, j ≠ 2 → j ≠ 3 → j ≠ 4 → j ≠ 9 → J 81 j = I 81 j := fun j a b c e => by rw [hJ, at1, if_neg e, at1, if_neg c, at1, if_neg b, at1, if_neg a]
  have jk : ∀ k, k ≠ 81 → J k = I k := fun k hk => by rw [hJ, am_u_ne hk, am_u_ne hk, am_u_ne hk, am_u_ne hk]
  have j2 : J 81 2 = 0 := by rw [hJ, at1, if_neg (by decide), at1, if_neg (by decide), at1, if_neg (by decide), at1, if_pos rfl]
  have j3 : J 81 3 = -1 := by rw [hJ, at1, if_neg (by decide), at1, if_neg (by decide), at1, if_pos rfl]
  have j4 : J 81 4 = 0 := by rw [hJ, at1, if_neg (by decide), at1, if_pos rfl]
  have j9 : J 81 9 = nn 0 := by rw [hJ, at1, if_pos rfl]; rfl
  have hB2 : rcB J B n := ⟨hB.1, (jj 1 (by decide) (by decide) (by decide) (by decide)).trans hB.2.1, fun j hj => by rw [jk 82 (by decide)]; exact hB.2.2 j hj⟩
  obtain ⟨I', L', hE, t, f⟩ := eX3_advance (d := d) (L := L) ro g0 ra hB2 j9 (Nat.zero_le n)
  refine ⟨I', L', am_ofE rfl rfl rfl (Nat.le_of_ble_eq_true rfl) ?_, hB2.frC f, t, ⟨(f.2.1 2 (by decide) (by decide) (by decide) (by decide)).trans j2, (f.2.1 3 (by decide) (by decide) (by decide) (by decide)).trans j3, (f.2.1 4 (by decide) (by decide) (by decide) (by decide)).trans j4⟩, fun k hk => (f.1 k hk).trans (jk k hk), fun j a b c e g h k => (f.2.1 j e g h k).trans (jj j a b c h), fun k hk => f.2.2.1 k hk⟩
  refine bX3_begin_0 ro (Nat.zero_le _) (Nat.zero_le _) (by rw [← hJ]; exact hE) ?_
  refine bX3_begin_24 ?_
  exact ⟨rfl, rfl, rfl⟩
theorem eX9_starts (hm : mdF Γ m) (hB : rmB I m B n) : ∃ I', am_E m_X9_starts (d + 3) 0 0 [.ref m] Γ I L (.inl none) I' L ∧ rmB I' m B n ∧ tkM B n I' m (skp B n 0) ∧ (I' m 6 = 0 ∧ I' m 23 = 0 ∧ I' m 11 = 0 ∧ I' m 12 = -1) ∧ (∀ j, j < 508 → I' (m + 4) j = I (m + 1) j) ∧ (∀ k, k ≠ m → k ≠ m + 4 → I' k = I k) ∧ ∀ j, j ≠ 6 → j ≠ 11 → j ≠ 12 → ¬ (19 ≤ j ∧ j ≤ 23) → I' m j = I m j := by
  obtain ⟨mo, r0, r1, r2, r3, r4, r7, r8, r13, r14, r15, r16, r17, a1, a2, a3, a4, a5, a6, a7, a8, a9, a10, a11, a12⟩ := id hm
  obtain ⟨J, hJ⟩ : ∃ J, J = am_u (am_u (am_u (am_u (am_u I m 6 0) m 21 0) m 23 0) m 11 0) m 12 (-1) := ⟨_, rfl⟩
  have jk : ∀ k, k ≠ m → J k = I k := fun k hk => by rw [hJ, am_u_ne hk, am_u_ne hk, am_u_ne hk, am_u_ne hk, am_u_ne hk]
  have jj : ∀ j, j ≠ 6 → j ≠ 21 → j ≠ 23 → j ≠ 11 → j ≠ 12 → J m j = I m j := fun j a b c e f => by rw [hJ, at1, if_neg f, at1, if_neg e, at1, if_neg c, at1, if_neg b, at1, if_neg a]
  have j6 : J m 6 = 0 := by rw [hJ, at1, if_neg (by decide), at1, if_neg (by decide), at1, if_neg (by decide), at1, if_neg (by decide), at1, if_pos rfl]
  have j21 : J m 21 = nn 0 := by rw [hJ, at1, if_neg (by decide), at1, if_neg (by decide), at1, if_neg (by decide), at1, if_pos rfl]; rfl
  have j23 : J m 23 = 0 := by rw [hJ, at1, if_neg (by decide), at1, if_neg (by decide), at1, if_pos rfl]
  have j11 : J m 11 = 0 := by rw [hJ, at1, if_neg (by decide), at1, if_pos rfl]
  have j12 : J m 12 = -1 := by rw [hJ, at1, if_pos rfl]
  obtain ⟨K, hK⟩ : ∃ K, K = am_cI J (m + 1) (m + 4) 0 0 508 := ⟨_, rfl⟩
  have kk : ∀ k, k ≠ m + 4 → K k = J k := fun k hk => by rw [hK]; funext j; rw [am_cI_at, if_neg (fun z => hk z.1)]
  have km := kk m (by omega)
  have k4 : ∀ j, j < 508 → K (m + 4) j = I (m + 1) j := fun j hj => by
    rw [hK, am_cI_at, if_pos ⟨rfl, Nat.zero_le _, by omega⟩, jk _ (by omega), Nat.zero_add, Nat.sub_zero]
  have hB2 : rmB K m B n := hB.st (by rw [km]; exact jj 9 (by decide) (by decide) (by decide) (by decide) (by decide)) (by rw [kk _ (by omega), jk _ (by omega)])
  obtain ⟨I', hE, t, f⟩ := eX9_next (d := d) (L := L) hm hB2 (by rw [km]; exact j21) (Nat.zero_le n)
  refine ⟨I', am_ofE rfl rfl rfl (Nat.le_of_ble_eq_true rfl) ?_, hB2.frM f, t, ⟨by rw [f.2 6 (by decide) (by decide) (by decide) (by decide), km]; exact j6, by rw [f.2 23 (by decide) (by decide) (by decide) (by decide), km]; exact j23, by rw [f.2 11 (by decide) (by decide) (by decide) (by decide), km]; exact j11, by rw [f.2 12 (by decide) (by decide) (by decide) (by decide), km]; exact j12⟩, fun j hj => by rw [f.1 _ (by omega)]; exact k4 j hj, fun k a b => (f.1 k a).trans ((kk k b).trans (jk k a)), fun j a b c e => by rw [f.2 j (by omega) (by omega) (by omega) (by omega), km]; exact jj j a (by omega) (by omega) b c⟩
  refine bX9_starts_0 mo (by assumption) (by assumption) (Nat.zero_le _) (Nat.zero_le _) (by rw [← hJ]; exact eX9_copy (s := 0) (e := 0) a1 a4 (by decide) (by decide) (by decide) (by decide)) ?_
  rw [← hK]
  refine bX9_starts_38 mo (Nat.zero_le _) (Nat.zero_le _) hE ?_
  refine bX9_starts_42 ?_
  exact ⟨rfl, rfl, rfl⟩
end BG
