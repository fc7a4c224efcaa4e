/-! A TEXT TO LOAD: the model -/
def zrow (w : Nat → Int32) : Nat → Int32 := fun j => if j < 508 then 0 else w j
theorem zrow_inv (w : Nat → Int32) : qInv (zrow w) ∧ vQ (zrow w) = 0 := by
  have z : ∀ j, j < 508 → zrow w j = 0 := fun j hj => if_pos hj
  have vq : vQ (zrow w) = 0 := by show (zrow w 0).toNatClampNeg = 0; rw [z 0 (by decide)]; rfl
  have vt : vT (zrow w) = 0 := by show (zrow w 1).toNatClampNeg = 0; rw [z 1 (by decide)]; rfl
  have vg : vG (zrow w) = 0 := by show (zrow w 2).toNatClampNeg = 0; rw [z 2 (by decide)]; rfl
  have vc : vC (zrow w) = 0 := by show (zrow w 3).toNatClampNeg = 0; rw [z 3 (by decide)]; rfl
  refine ⟨⟨⟨⟨by rw [vq, z 0 (by decide)]; rfl, by omega⟩, ⟨by rw [vt, z 1 (by decide)]; rfl, by omega⟩, ⟨by rw [vg, z 2 (by decide)]; rfl, by omega⟩, ⟨by rw [vc, z 3 (by decide)]; rfl, by omega⟩, fun q a => absurd a (by omega), fun t a => absurd a (by omega), fun g a => absurd a (by omega)⟩, vt, vg, fun t _ b => z _ (by omega)⟩, vq⟩
/-- a text to load: the setup, then commands -/
noncomputable def uText (B : Nat → Nat) (n : Nat) (w : Nat → Int32) : Except (Nat × Nat) ((Nat → Int32) × Nat) := match uSet B n (zrow w) (skp B n 0) with
  | .error e => .error e
  | .ok (s, w') => uAll B n (n + 1) s w' 0
theorem uText_e {B : Nat → Nat} {n : Nat} {w : Nat → Int32} {e : Nat × Nat} (h : uSet B n (zrow w) (skp B n 0) = .error e) : uText B n w = .error e := by
  unfold uText
  rw [h]
theorem uText_o {B : Nat → Nat} {n : Nat} {w : Nat → Int32} {q : Nat × (Nat → Int32)} (h : uSet B n (zrow w) (skp B n 0) = .ok q) : uText B n w = uAll B n (n + 1) q.1 q.2 0 := by
  unfold uText
  rw [h]
theorem uAll_k {B : Nat → Nat} {n : Nat} : ∀ (f s k : Nat) (w : Nat → Int32) {w' : Nat → Int32} {k' : Nat}, uAll B n f s w k = .ok (w', k') → k' ≤ k + f
  | 0, s, k, w, w', k', h => by unfold uAll at h; cases h; exact Nat.le_refl _
  | f + 1, s, k, w, w', k', h => by
    by_cases h3 : kd B n s = 3
    · rw [uAll_3 h3] at h; cases h; omega
    · cases hU : uCmd B n w s with
      | error e => rw [uAll_e h3 hU] at h; cases h
      | ok q =>
        rw [uAll_s h3 hU] at h
        by_cases h2 : kd B n (nx B n q.1) = 2
        · rw [if_pos h2] at h
          have := uAll_k f _ _ _ h
          omega
        · rw [if_neg h2] at h; cases h
section UL
variable {B : Nat → Nat} {n s : Nat} {w : Nat → Int32} {i lim f : Nat} {cnt : (Nat → Int32) → Nat} {u : (Nat → Int32) → Nat → Except (Nat × Nat) (Nat × (Nat → Int32))}
theorem uLoop_ue {e : Nat × Nat} (h : wd B n s i = true ∨ cnt w = 0) (h2 : uUn B n i lim cnt u w s = .error e) : uLoop B n i lim cnt u (f + 1) s w = .error e := by
  unfold uUn at h2
  cases hx : wd B n s i with
  | false =>
    rw [hx, if_neg (by decide)] at h2
    cases h2
    exact uLoop_n hx (h.resolve_left (by rw [hx]; decide))
  | true =>
    rw [hx, if_pos rfl] at h2
    by_cases h6 : cnt w = lim
    · rw [if_pos h6] at h2; cases h2
      exact uLoop_f hx h6
    · rw [if_neg h6] at h2
      exact uLoop_e hx h6 h2
theorem uLoop_uo {q : Nat × (Nat → Int32)} (h2 : uUn B n i lim cnt u w s = .ok q) : uLoop B n i lim cnt u (f + 1) s w = uLoop B n i lim cnt u f q.1 q.2 ∧ ¬ cnt w = lim ∧ u w (nx B n s) = .ok q := by
  unfold uUn at h2
  cases hx : wd B n s i with
  | false => rw [hx, if_neg (by decide)] at h2; cases h2
  | true =>
    rw [hx, if_pos rfl] at h2
    by_cases h6 : cnt w = lim
    · rw [if_pos h6] at h2; cases h2
    · rw [if_neg h6] at h2
      exact ⟨uLoop_s hx h6 h2, h6, h2⟩
end UL
theorem mBfr.mid {B : Nat → Nat} {n : Nat} {J K K' : am_I} {o : Except (Nat × Nat) (Nat × (Nat → Int32))} (h : mBfr B n J K) (hM : mdMid B n 450 K K' o) : mBfr B n J K' := by
  obtain ⟨h1, h2, h3, h4, h5, h6⟩ := h
  obtain ⟨f1, f2, -⟩ := hM
  refine ⟨fun k a b c e => (f1 k a b (by omega)).trans (h1 k a b c e), fun j hj => by rw [f1 454 (by decide) (by decide) (by decide)]; exact h2 j hj, h3.st (f2 9 (by decide) (by decide) (by decide)) (f1 (450 + 6) (by decide) (by decide) (by decide)), (f2 5 (by decide) (by decide) (by decide)).trans h4, (f2 10 (by decide) (by decide) (by decide)).trans h5, (f2 6 (by decide) (by decide) (by decide)).trans h6⟩
section ML
variable {d : Nat} {Γ : am_G} {L : am_L} {B : Nat → Nat} {n m : Nat}
theorem mLQ_go (hm : mdF Γ m) : ∀ (f : Nat) {s : Nat} {w : Nat → Int32} {J : am_I}, qInv w → 0 < vQ w → vQ w + f = 7 → rmB J m B n → tkM B n J m s → J (m + 1) = w → J m 23 = 0 → ∀ v, ∃ J', mdMid B n m J J' (uLoop B n 2 6 vQ (uQu B n) f s w) ∧ ∀ r If, am_W m_X9_load (d + 264) 0 0 false 0 0 88 [(0, .ref m), (1, .int v)] [] Γ J' L (am_R r If L) → am_W m_X9_load (d + 264) 0 0 false 0 0 65 [(0, .ref m), (1, .int v)] [] Γ J L (am_R r If L)
  | 0, s, w, J, hI, _, hf, _, _, _, _, _ => by
    have : vQ w ≤ 6 := hI.1.1.2
    omega
  | f + 1, s, w, J, hI, h0, hf, hB, ht, hr, h23, v => by
    have mo := hm.1
    have hIs := eX9_is (d := d + 259) (L := L) hm hB ht (show 2 < am_sn by decide)
    have v6 : vQ w ≤ 6 := hI.1.1.2
    cases hx : wd B n s 2 with
    | false =>
      rw [hx] at hIs
      rw [uLoop_d hx (by omega)]
      refine ⟨J, ⟨fun _ _ _ _ => rfl, fun _ _ _ _ => rfl, ⟨rfl, rfl⟩, ht, hr, h23⟩, fun r If h => ?_⟩
      refine bX9_load_65 mo (fun z => absurd h23 z) (fun _ => ?_)
      refine bX9_load_72 mo (Nat.zero_le _) (Nat.zero_le _) hIs ?_
      exact bX9_load_78 (fun _ => h) (fun z => absurd rfl z)
    | true =>
      rw [hx] at hIs
      obtain ⟨J1, hE, hM⟩ := eX9_questionTold (d := d + 258) (L := L) hm hI.1 hB ht hr h23
      have hd : ∀ r If, am_W m_X9_load (d + 264) 0 0 false 0 0 65 [(0, .ref m), (1, .int v)] [] Γ J1 L (am_R r If L) → am_W m_X9_load (d + 264) 0 0 false 0 0 65 [(0, .ref m), (1, .int v)] [] Γ J L (am_R r If L) := fun r If h => by
        refine bX9_load_65 mo (fun z => absurd h23 z) (fun _ => ?_)
        refine bX9_load_72 mo (Nat.zero_le _) (Nat.zero_le _) hIs ?_
        refine bX9_load_78 (fun z => absurd z (by decide)) (fun _ => ?_)
        refine bX9_load_81 mo (Nat.zero_le _) (Nat.zero_le _) hE ?_
        exact bX9_load_85 h
      cases hU : uUn B n 2 6 vQ (uQu B n) w s with
      | error e =>
        rw [hU] at hM
        rw [uLoop_ue (Or.inl hx) hU]
        exact ⟨J1, hM, fun r If h => hd r If (bX9_load_65 mo (fun _ => h) (fun z => absurd z (by rw [hM.2.2.1]; decide)))⟩
      | ok q =>
        obtain ⟨s', w'⟩ := q
        rw [hU] at hM
        obtain ⟨e1, n6, hu⟩ := uLoop_uo (f := f) hU
        obtain ⟨hI', hv'⟩ := uQu_inv hI (by omega) hu
        obtain ⟨f1, j1, z1, t1, rw1, x1⟩ := id hM
        obtain ⟨J', hM', k'⟩ := mLQ_go hm f (s := s') hI' (by omega) (by omega) (hB.st (j1 9 (by decide) (by decide) (by decide)) (f1 _ (by omega) (by omega) (by omega))) t1 rw1 x1 v
        rw [e1]
        exact ⟨J', hM'.pre f1 j1 z1, fun r If h => hd r If (k' r If h)⟩
theorem mLQ0 (hm : mdF Γ m) {s : Nat} {w : Nat → Int32} {J : am_I} (hI : qInv w) (h0 : vQ w = 0) (hB : rmB J m B n) (ht : tkM B n J m s) (hr : J (m + 1) = w) (h23 : J m 23 = 0) (v : Int32) : ∃ J', mdMid B n m J J' (uLoop B n 2 6 vQ (uQu B n) 7 s w) ∧ ∀ r If, am_W m_X9_load (d + 264) 0 0 false 0 0 88 [(0, .ref m), (1, .int v)] [] Γ J' L (am_R r If L) → am_W m_X9_load (d + 264) 0 0 false 0 0 54 [(0, .ref m), (1, .int v)] [] Γ J L (am_R r If L) := by
  have mo := hm.1
  obtain ⟨J1, hE, hM⟩ := eX9_questionTold (d := d + 258) (L := L) hm hI.1 hB ht hr h23
  have hd : ∀ r If, am_W m_X9_load (d + 264) 0 0 false 0 0 65 [(0, .ref m), (1, .int v)] [] Γ J1 L (am_R r If L) → am_W m_X9_load (d + 264) 0 0 false 0 0 54 [(0, .ref m), (1, .int v)] [] Γ J L (am_R r If L) := fun r If h => by
    refine bX9_load_54 mo (fun z => absurd h23 z) (fun _ => ?_)
    exact bX9_load_61 mo (Nat.zero_le _) (Nat.zero_le _) hE h
  cases hU : uUn B n 2 6 vQ (uQu B n) w s with
  | error e =>
    rw [hU] at hM
    rw [uLoop_ue (f := 6) (Or.inr h0) hU]
    exact ⟨J1, hM, fun r If h => hd r If (bX9_load_65 mo (fun _ => h) (fun z => absurd z (by rw [hM.2.2.1]; decide)))⟩
  | ok q =>
    obtain ⟨s', w'⟩ := q
    rw [hU] at hM
    obtain ⟨e1, n6, hu⟩ := uLoop_uo (f := 6) hU
    obtain ⟨hI', hv'⟩ := uQu_inv hI (by omega) hu
    obtain ⟨f1, j1, z1, t1, rw1, x1⟩ := id hM
    obtain ⟨J', hM', k'⟩ := mLQ_go (d := d) (L := L) hm 6 (s := s') hI' (by omega) (by omega) (hB.st (j1 9 (by decide) (by decide) (by decide)) (f1 _ (by omega) (by omega) (by omega))) t1 rw1 x1 v
    rw [e1]
    exact ⟨J', hM'.pre f1 j1 z1, fun r If h => hd r If (k' r If h)⟩
theorem mLT_go (hm : mdF Γ m) : ∀ (f : Nat) {s : Nat} {w : Nat → Int32} {J : am_I}, tInv w → 0 < vT w → vT w + f = 9 → rmB J m B n → tkM B n J m s → J (m + 1) = w → J m 23 = 0 → ∀ v, ∃ J', mdMid B n m J J' (uLoop B n 3 8 vT (uTy B n) f s w) ∧ ∀ r If, am_W m_X9_load (d + 264) 0 0 false 0 0 123 [(0, .ref m), (1, .int v)] [] Γ J' L (am_R r If L) → am_W m_X9_load (d + 264) 0 0 false 0 0 99 [(0, .ref m), (1, .int v)] [] Γ J L (am_R r If L)
  | 0, s, w, J, hI, _, hf, _, _, _, _, _ => by
    have : vT w ≤ 8 := hI.1.2.1.2
    omega
  | f + 1, s, w, J, hI, h0, hf, hB, ht, hr, h23, v => by
    have mo := hm.1
    have hIs := eX9_is (d := d + 259) (L := L) hm hB ht (show 3 < am_sn by decide)
    have v6 : vT w ≤ 8 := hI.1.2.1.2
    cases hx : wd B n s 3 with
    | false =>
      rw [hx] at hIs
      rw [uLoop_d hx (by omega)]
      refine ⟨J, ⟨fun _ _ _ _ => rfl, fun _ _ _ _ => rfl, ⟨rfl, rfl⟩, ht, hr, h23⟩, fun r If h => ?_⟩
      refine bX9_load_99 mo (fun z => absurd h23 z) (fun _ => ?_)
      refine bX9_load_106 mo (Nat.zero_le _) (Nat.zero_le _) hIs ?_
      exact bX9_load_113 (fun _ => h) (fun z => absurd rfl z)
    | true =>
      rw [hx] at hIs
      obtain ⟨J1, hE, hM⟩ := eX9_typeTold (d := d + 258) (L := L) hm hI hB ht hr h23
      have hd : ∀ r If, am_W m_X9_load (d + 264) 0 0 false 0 0 99 [(0, .ref m), (1, .int v)] [] Γ J1 L (am_R r If L) → am_W m_X9_load (d + 264) 0 0 false 0 0 99 [(0, .ref m), (1, .int v)] [] Γ J L (am_R r If L) := fun r If h => by
        refine bX9_load_99 mo (fun z => absurd h23 z) (fun _ => ?_)
        refine bX9_load_106 mo (Nat.zero_le _) (Nat.zero_le _) hIs ?_
        refine bX9_load_113 (fun z => absurd z (by decide)) (fun _ => ?_)
        refine bX9_load_116 mo (Nat.zero_le _) (Nat.zero_le _) hE ?_
        exact bX9_load_120 h
      cases hU : uUn B n 3 8 vT (uTy B n) w s with
      | error e =>
        rw [hU] at hM
        rw [uLoop_ue (Or.inl hx) hU]
        exact ⟨J1, hM, fun r If h => hd r If (bX9_load_99 mo (fun _ => h) (fun z => absurd z (by rw [hM.2.2.1]; decide)))⟩
      | ok q =>
        obtain ⟨s', w'⟩ := q
        rw [hU] at hM
        obtain ⟨e1, n6, hu⟩ := uLoop_uo (f := f) hU
        obtain ⟨hI', hv'⟩ := uTy_inv hI (by omega) hu
        obtain ⟨f1, j1, z1, t1, rw1, x1⟩ := id hM
        obtain ⟨J', hM', k'⟩ := mLT_go hm f (s := s') hI' (by omega) (by omega) (hB.st (j1 9 (by decide) (by decide) (by decide)) (f1 _ (by omega) (by omega) (by omega))) t1 rw1 x1 v
        rw [e1]
        exact ⟨J', hM'.pre f1 j1 z1, fun r If h => hd r If (k' r If h)⟩
theorem mLT0 (hm : mdF Γ m) {s : Nat} {w : Nat → Int32} {J : am_I} (hI : tInv w) (h0 : vT w = 0) (hB : rmB J m B n) (ht : tkM B n J m s) (hr : J (m + 1) = w) (h23 : J m 23 = 0) (v : Int32) : ∃ J', mdMid B n m J J' (uLoop B n 3 8 vT (uTy B n) 9 s w) ∧ ∀ r If, am_W m_X9_load (d + 264) 0 0 false 0 0 123 [(0, .ref m), (1, .int v)] [] Γ J' L (am_R r If L) → am_W m_X9_load (d + 264) 0 0 false 0 0 88 [(0, .ref m), (1, .int v)] [] Γ J L (am_R r If L) := by
  have mo := hm.1
  obtain ⟨J1, hE, hM⟩ := eX9_typeTold (d := d + 258) (L := L) hm hI hB ht hr h23
  have hd : ∀ r If, am_W m_X9_load (d + 264) 0 0 false 0 0 99 [(0, .ref m), (1, .int v)] [] Γ J1 L (am_R r If L) → am_W m_X9_load (d + 264) 0 0 false 0 0 88 [(0, .ref m), (1, .int v)] [] Γ J L (am_R r If L) := fun r If h => by
    refine bX9_load_88 mo (fun z => absurd h23 z) (fun _ => ?_)
    exact bX9_load_95 mo (Nat.zero_le _) (Nat.zero_le _) hE h
  cases hU : uUn B n 3 8 vT (uTy B n) w s with
  | error e =>
    rw [hU] at hM
    rw [uLoop_ue (f := 8) (Or.inr h0) hU]
    exact ⟨J1, hM, fun r If h => hd r If (bX9_load_99 mo (fun _ => h) (fun z => absurd z (by rw [hM.2.2.1]; decide)))⟩
  | ok q =>
    obtain ⟨s', w'⟩ := q
    rw [hU] at hM
    obtain ⟨e1, n6, hu⟩ := uLoop_uo (f := 8) hU
    obtain ⟨hI', hv'⟩ := uTy_inv hI (by omega) hu
    obtain ⟨f1, j1, z1, t1, rw1, x1⟩ := id hM
    obtain ⟨J', hM', k'⟩ := mLT_go (d := d) (L := L) hm 8 (s := s') hI' (by omega) (by omega) (hB.st (j1 9 (by decide) (by decide) (by decide)) (f1 _ (by omega) (by omega) (by omega))) t1 rw1 x1 v
    rw [e1]
    exact ⟨J', hM'.pre f1 j1 z1, fun r If h => hd r If (k' r If h)⟩
theorem mLG_go (hm : mdF Γ m) : ∀ (f : Nat) {s : Nat} {w : Nat → Int32} {J : am_I}, gInv w → 0 < vG w → vG w + f = 5 → rmB J m B n → tkM B n J m s → J (m + 1) = w → J m 23 = 0 → ∀ v, ∃ J', mdMid B n m J J' (uLoop B n 4 4 vG (uGa B n) f s w) ∧ ∀ r If, am_W m_X9_load (d + 264) 0 0 false 0 0 158 [(0, .ref m), (1, .int v)] [] Γ J' L (am_R r If L) → am_W m_X9_load (d + 264) 0 0 false 0 0 134 [(0, .ref m), (1, .int v)] [] Γ J L (am_R r If L)
  | 0, s, w, J, hI, _, hf, _, _, _, _, _ => by
    have : vG w ≤ 4 := hI.1.2.2.1.2
    omega
  | f + 1, s, w, J, hI, h0, hf, hB, ht, hr, h23, v => by
    have mo := hm.1
    have hIs := eX9_is (d := d + 259) (L := L) hm hB ht (show 4 < am_sn by decide)
    have v6 : vG w ≤ 4 := hI.1.2.2.1.2
    cases hx : wd B n s 4 with
    | false =>
      rw [hx] at hIs
      rw [uLoop_d hx (by omega)]
      refine ⟨J, ⟨fun _ _ _ _ => rfl, fun _ _ _ _ => rfl, ⟨rfl, rfl⟩, ht, hr, h23⟩, fun r If h => ?_⟩
      refine bX9_load_134 mo (fun z => absurd h23 z) (fun _ => ?_)
      refine bX9_load_141 mo (Nat.zero_le _) (Nat.zero_le _) hIs ?_
      exact bX9_load_148 (fun _ => h) (fun z => absurd rfl z)
    | true =>
      rw [hx] at hIs
      obtain ⟨J1, hE, hM⟩ := eX9_gateTold (d := d + 1) (L := L) hm hI hB ht hr h23
      have hd : ∀ r If, am_W m_X9_load (d + 264) 0 0 false 0 0 134 [(0, .ref m), (1, .int v)] [] Γ J1 L (am_R r If L) → am_W m_X9_load (d + 264) 0 0 false 0 0 134 [(0, .ref m), (1, .int v)] [] Γ J L (am_R r If L) := fun r If h => by
        refine bX9_load_134 mo (fun z => absurd h23 z) (fun _ => ?_)
        refine bX9_load_141 mo (Nat.zero_le _) (Nat.zero_le _) hIs ?_
        refine bX9_load_148 (fun z => absurd z (by decide)) (fun _ => ?_)
        refine bX9_load_151 mo (Nat.zero_le _) (Nat.zero_le _) hE ?_
        exact bX9_load_155 h
      cases hU : uUn B n 4 4 vG (uGa B n) w s with
      | error e =>
        rw [hU] at hM
        rw [uLoop_ue (Or.inl hx) hU]
        exact ⟨J1, hM, fun r If h => hd r If (bX9_load_134 mo (fun _ => h) (fun z => absurd z (by rw [hM.2.2.1]; decide)))⟩
      | ok q =>
        obtain ⟨s', w'⟩ := q
        rw [hU] at hM
        obtain ⟨e1, n6, hu⟩ := uLoop_uo (f := f) hU
        obtain ⟨hI', hv'⟩ := uGa_inv hI (by omega) hu
        obtain ⟨f1, j1, z1, t1, rw1, x1⟩ := id hM
        obtain ⟨J', hM', k'⟩ := mLG_go hm f (s := s') hI' (by omega) (by omega) (hB.st (j1 9 (by decide) (by decide) (by decide)) (f1 _ (by omega) (by omega) (by omega))) t1 rw1 x1 v
        rw [e1]
        exact ⟨J', hM'.pre f1 j1 z1, fun r If h => hd r If (k' r If h)⟩
theorem mLG0 (hm : mdF Γ m) {s : Nat} {w : Nat → Int32} {J : am_I} (hI : gInv w) (h0 : vG w = 0) (hB : rmB J m B n) (ht : tkM B n J m s) (hr : J (m + 1) = w) (h23 : J m 23 = 0) (v : Int32) : ∃ J', mdMid B n m J J' (uLoop B n 4 4 vG (uGa B n) 5 s w) ∧ ∀ r If, am_W m_X9_load (d + 264) 0 0 false 0 0 158 [(0, .ref m), (1, .int v)] [] Γ J' L (am_R r If L) → am_W m_X9_load (d + 264) 0 0 false 0 0 123 [(0, .ref m), (1, .int v)] [] Γ J L (am_R r If L) := by
  have mo := hm.1
  obtain ⟨J1, hE, hM⟩ := eX9_gateTold (d := d + 1) (L := L) hm hI hB ht hr h23
  have hd : ∀ r If, am_W m_X9_load (d + 264) 0 0 false 0 0 134 [(0, .ref m), (1, .int v)] [] Γ J1 L (am_R r If L) → am_W m_X9_load (d + 264) 0 0 false 0 0 123 [(0, .ref m), (1, .int v)] [] Γ J L (am_R r If L) := fun r If h => by
    refine bX9_load_123 mo (fun z => absurd h23 z) (fun _ => ?_)
    exact bX9_load_130 mo (Nat.zero_le _) (Nat.zero_le _) hE h
  cases hU : uUn B n 4 4 vG (uGa B n) w s with
  | error e =>
    rw [hU] at hM
    rw [uLoop_ue (f := 4) (Or.inr h0) hU]
    exact ⟨J1, hM, fun r If h => hd r If (bX9_load_134 mo (fun _ => h) (fun z => absurd z (by rw [hM.2.2.1]; decide)))⟩
  | ok q =>
    obtain ⟨s', w'⟩ := q
    rw [hU] at hM
    obtain ⟨e1, n6, hu⟩ := uLoop_uo (f := 4) hU
    obtain ⟨hI', hv'⟩ := uGa_inv hI (by omega) hu
    obtain ⟨f1, j1, z1, t1, rw1, x1⟩ := id hM
    obtain ⟨J', hM', k'⟩ := mLG_go (d := d) (L := L) hm 4 (s := s') hI' (by omega) (by omega) (hB.st (j1 9 (by decide) (by decide) (by decide)) (f1 _ (by omega) (by omega) (by omega))) t1 rw1 x1 v
    rw [e1]
    exact ⟨J', hM'.pre f1 j1 z1, fun r If h => hd r If (k' r If h)⟩
theorem mClear (hm : mdF Γ m) {K : am_I} (r : am_O) (v : Int32) (If : am_I) (hW : am_W m_X9_load (d + 264) 0 0 false 0 0 26 [(0, .ref m), (1, .int (nn 508))] [] Γ (fun k => if k = m + 1 then zrow (K (m + 1)) else K k) L (am_R r If L)) : am_W m_X9_load (d + 264) 0 0 false 0 0 4 [(0, .ref m)] [] Γ K L (am_R r If L) := by
  obtain ⟨mo, r0, r1, r2, r3, r4, r7, r8, r13, r14, r15, r16, r17, a1, a2, a3, a4, a5, a6, a7, a8, a9, a10, a11, a12⟩ := id hm
  have loop := nn_loop (fun i => am_W m_X9_load (d + 264) 0 0 false 0 0 6 [(0, .ref m), (1, .int (nn i))] [] Γ (fun k => if k = m + 1 then (fun j => if j < i then 0 else K (m + 1) j) else K k) L (am_R r If L)) 508 ?_ (fun i hi ih => ?_)
  · refine bX9_load_4 ?_
    have e : (fun k => if k = m + 1 then (fun j => if j < 0 then 0 else K (m + 1) j) else K k) = K := by
      funext k
      by_cases hk : k = m + 1
      · subst hk; rw [if_pos rfl]; funext j; rw [if_neg (by omega)]
      · rw [if_neg hk]
    rw [e] at loop
    exact loop
  · exact bX9_load_6 (fun _ => hW) (fun z => absurd (by decide) z)
  · refine bX9_load_6 (fun z => absurd z (by rw [nl_508, nn_le (by decide) (by omega)]; omega)) (fun _ => ?_)
    refine bX9_load_13 mo r0 a1 (nn_in (by omega) (by omega)) ?_
    rw [nn_nat (by omega), nn_s1]
    have e : am_u (fun k => if k = m + 1 then (fun j => if j < i then 0 else K (m + 1) j) else K k) (m + 1) i 0 = fun k => if k = m + 1 then (fun j => if j < i + 1 then 0 else K (m + 1) j) else K k := by
      funext k j
      rw [am_u_at]
      by_cases hk : k = m + 1
      · subst hk
        simp only [if_true, true_and]
        by_cases hj : j = i
        · rw [if_pos hj, if_pos (by omega)]
        · rw [if_neg hj]
          by_cases h2 : j < i
          · rw [if_pos h2, if_pos (by omega)]
          · rw [if_neg h2, if_neg (by omega)]
      · simp only [hk, if_false, false_and]
    rw [e]
    exact ih
/-- from the cleared row to before the commands -/
theorem mSetup (hm : mdF Γ m) {w : Nat → Int32} {K : am_I} {s : Nat} (hI : qInv w) (hQ : vQ w = 0) (hB : rmB K m B n) (ht : tkM B n K m s) (hr : K (m + 1) = w) (h23 : K m 23 = 0) (v : Int32) : ∃ K', mdMid B n m K K' (uSet B n w s) ∧ ∀ r If, am_W m_X9_load (d + 264) 0 0 false 0 0 158 [(0, .ref m), (1, .int v)] [] Γ K' L (am_R r If L) → am_W m_X9_load (d + 264) 0 0 false 0 0 26 [(0, .ref m), (1, .int v)] [] Γ K L (am_R r If L) := by
  have mo := hm.1
  have hIs := eX9_is (d := d + 259) (L := L) hm hB ht (show 1 < am_sn by decide)
  have tl54 : ∀ (W : am_I) r If, W m 23 = 1 → am_W m_X9_load (d + 264) 0 0 false 0 0 158 [(0, .ref m), (1, .int v)] [] Γ W L (am_R r If L) → am_W m_X9_load (d + 264) 0 0 false 0 0 54 [(0, .ref m), (1, .int v)] [] Γ W L (am_R r If L) := fun W r If hW h => by
    refine bX9_load_54 mo (fun _ => ?_) (fun z => absurd z (by rw [hW]; decide))
    refine bX9_load_65 mo (fun _ => ?_) (fun z => absurd z (by rw [hW]; decide))
    refine bX9_load_88 mo (fun _ => ?_) (fun z => absurd z (by rw [hW]; decide))
    refine bX9_load_99 mo (fun _ => ?_) (fun z => absurd z (by rw [hW]; decide))
    refine bX9_load_123 mo (fun _ => ?_) (fun z => absurd z (by rw [hW]; decide))
    exact bX9_load_134 mo (fun _ => h) (fun z => absurd z (by rw [hW]; decide))
  have tl88 : ∀ (W : am_I) r If, W m 23 = 1 → am_W m_X9_load (d + 264) 0 0 false 0 0 158 [(0, .ref m), (1, .int v)] [] Γ W L (am_R r If L) → am_W m_X9_load (d + 264) 0 0 false 0 0 88 [(0, .ref m), (1, .int v)] [] Γ W L (am_R r If L) := fun W r If hW h => by
    refine bX9_load_88 mo (fun _ => ?_) (fun z => absurd z (by rw [hW]; decide))
    refine bX9_load_99 mo (fun _ => ?_) (fun z => absurd z (by rw [hW]; decide))
    refine bX9_load_123 mo (fun _ => ?_) (fun z => absurd z (by rw [hW]; decide))
    exact bX9_load_134 mo (fun _ => h) (fun z => absurd z (by rw [hW]; decide))
  have tl123 : ∀ (W : am_I) r If, W m 23 = 1 → am_W m_X9_load (d + 264) 0 0 false 0 0 158 [(0, .ref m), (1, .int v)] [] Γ W L (am_R r If L) → am_W m_X9_load (d + 264) 0 0 false 0 0 123 [(0, .ref m), (1, .int v)] [] Γ W L (am_R r If L) := fun W r If hW h => by
    refine bX9_load_123 mo (fun _ => ?_) (fun z => absurd z (by rw [hW]; decide))
    exact bX9_load_134 mo (fun _ => h) (fun z => absurd z (by rw [hW]; decide))
  have wr : ∀ (J : am_I) (c p : Nat), (∀ k, k ≠ m → J k = K k) → (∀ j, ¬ (18 ≤ j ∧ j ≤ 22) → J m j = K m j) → mdMid B n m K (wrS J m c p) (.error (c, p)) := fun J c p h1 h2 => by
    obtain ⟨e1, e2, e3, e4, e5⟩ := wrS_at (J := J) (m := m) (c := c) (s := p)
    exact ⟨fun k a _ _ => (e4 k a).trans (h1 k a), fun j a b c' => (e5 j (by omega) a b).trans (h2 j (by omega)), e1, e2, e3⟩
  cases hx : wd B n s 1 with
  | false =>
    rw [hx] at hIs
    have ep : pWord B n 1 s = .error (1, s) := by unfold pWord; rw [if_neg (by rw [hx]; decide)]
    rw [uSet_1 ep]
    have w1 : wrS K m 1 s m 23 = 1 := wrS_at.1
    refine ⟨wrS K m 1 s, wr K 1 s (fun _ _ => rfl) (fun _ _ => rfl), fun r If h => ?_⟩
    refine bX9_load_26 mo (Nat.zero_le _) (Nat.zero_le _) hIs ?_
    refine bX9_load_34 (fun z => absurd rfl z) (fun _ => ?_)
    refine bX9_load_37 ?_
    refine bX9_load_42 mo (Nat.zero_le _) (Nat.zero_le _) (eX9_wrong_1 hm h23 ht.2.1 1) ?_
    refine bX9_load_46 mo (Nat.zero_le _) (Nat.zero_le _) (eX9_go_x hm w1) ?_
    refine bX9_load_50 mo (Nat.zero_le _) (Nat.zero_le _) (eX9_semicolon_x hm w1) ?_
    exact tl54 _ _ _ w1 h
  | true =>
    rw [hx] at hIs
    have ep : pWord B n 1 s = .ok (nx B n s, 1) := by unfold pWord; rw [if_pos hx]
    obtain ⟨K1, hE1, t1, fr1⟩ := eX9_go (d := d + 260) (L := L) hm hB ht h23
    have x1 : K1 m 23 = 0 := (fr1.2 23 (by decide) (by decide) (by decide) (by decide)).trans h23
    have B1 := hB.frM fr1
    have hd : ∀ r If, am_W m_X9_load (d + 264) 0 0 false 0 0 50 [(0, .ref m), (1, .int v)] [] Γ K1 L (am_R r If L) → am_W m_X9_load (d + 264) 0 0 false 0 0 26 [(0, .ref m), (1, .int v)] [] Γ K L (am_R r If L) := fun r If h => by
      refine bX9_load_26 mo (Nat.zero_le _) (Nat.zero_le _) hIs ?_
      refine bX9_load_34 (fun _ => ?_) (fun z => absurd z (by decide))
      refine bX9_load_41 ?_
      refine bX9_load_42 mo (Nat.zero_le _) (Nat.zero_le _) (eX9_wrong_0 hm _) ?_
      exact bX9_load_46 mo (Nat.zero_le _) (Nat.zero_le _) hE1 h
    obtain ⟨g3, g4⟩ := eX9_semicolon (d := d + 259) (L := L) hm B1 t1 x1
    by_cases h2 : kd B n (nx B n s) = 2
    · have hS : pSem B n (nx B n s) = .ok (nx B n (nx B n s), 1) := by unfold pSem; rw [if_pos h2]
      obtain ⟨K2, hE2, t2, fr2⟩ := g3 h2
      have x2 : K2 m 23 = 0 := (fr2.2 23 (by decide) (by decide) (by decide) (by decide)).trans x1
      have B2 := B1.frM fr2
      have rw2 : K2 (m + 1) = w := (fr2.1 _ (by omega)).trans ((fr1.1 _ (by omega)).trans hr)
      have f2 : ∀ k, k ≠ m → k ≠ m + 1 → ¬ (m + 8 ≤ k ∧ k ≤ m + 12) → K2 k = K k := fun k a _ _ => (fr2.1 k a).trans (fr1.1 k a)
      have j2 : ∀ j, ¬ (18 ≤ j ∧ j ≤ 24) → K2 m j = K m j := fun j a => (fr2.2 j (by omega) (by omega) (by omega) (by omega)).trans (fr1.2 j (by omega) (by omega) (by omega) (by omega))
      have hd2 : ∀ r If, am_W m_X9_load (d + 264) 0 0 false 0 0 54 [(0, .ref m), (1, .int v)] [] Γ K2 L (am_R r If L) → am_W m_X9_load (d + 264) 0 0 false 0 0 26 [(0, .ref m), (1, .int v)] [] Γ K L (am_R r If L) := fun r If h => hd r If (bX9_load_50 mo (Nat.zero_le _) (Nat.zero_le _) hE2 h)
      obtain ⟨K3, hM3, k3⟩ := mLQ0 (d := d) (L := L) hm hI hQ B2 t2 rw2 x2 v
      have hM3' := hM3.pre f2 (fun j _ _ c => j2 j c) ⟨j2 11 (by decide), j2 12 (by decide)⟩
      cases hU3 : uLoop B n 2 6 vQ (uQu B n) 7 (nx B n (nx B n s)) w with
      | error e =>
        rw [hU3] at hM3'
        rw [uSet_3 ep hS hU3]
        exact ⟨K3, hM3', fun r If h => hd2 r If (k3 r If (tl88 _ _ _ hM3'.2.2.1 h))⟩
      | ok q3 =>
        obtain ⟨s3, w3⟩ := q3
        rw [hU3] at hM3'
        obtain ⟨hI3, hT3⟩ := uLoopQ_inv hI hU3
        obtain ⟨f3, j3, z3, t3, rw3, x3⟩ := id hM3'
        have B3 : rmB K3 m B n := hB.st (j3 9 (by decide) (by decide) (by decide)) (f3 _ (by omega) (by omega) (by omega))
        obtain ⟨K4, hM4, k4⟩ := mLT0 (d := d) (L := L) hm hI3 hT3 B3 t3 rw3 x3 v
        have hM4' := hM4.pre f3 j3 z3
        cases hU4 : uLoop B n 3 8 vT (uTy B n) 9 s3 w3 with
        | error e =>
          rw [hU4] at hM4'
          rw [uSet_4 ep hS hU3 hU4]
          exact ⟨K4, hM4', fun r If h => hd2 r If (k3 r If (k4 r If (tl123 _ _ _ hM4'.2.2.1 h)))⟩
        | ok q4 =>
          obtain ⟨s4, w4⟩ := q4
          rw [hU4] at hM4'
          obtain ⟨hI4, hG4⟩ := uLoopT_inv hI3 hU4
          obtain ⟨f4, j4, z4, t4, rw4, x4⟩ := id hM4'
          have B4 : rmB K4 m B n := hB.st (j4 9 (by decide) (by decide) (by decide)) (f4 _ (by omega) (by omega) (by omega))
          obtain ⟨K5, hM5, k5⟩ := mLG0 (d := d) (L := L) hm hI4 hG4 B4 t4 rw4 x4 v
          have hM5' := hM5.pre f4 j4 z4
          rw [uSet_5 ep hS hU3 hU4]
          exact ⟨K5, hM5', fun r If h => hd2 r If (k3 r If (k4 r If (k5 r If h)))⟩
    · have hS : pSem B n (nx B n s) = .error (1, nx B n s) := by unfold pSem; rw [if_neg h2]
      have hE2 := g4 h2
      rw [uSet_2 ep hS]
      refine ⟨wrS K1 m 1 (nx B n s), wr K1 1 _ fr1.1 (fun j a => fr1.2 j (by omega) (by omega) (by omega) (by omega)), fun r If h => hd r If ?_⟩
      refine bX9_load_50 mo (Nat.zero_le _) (Nat.zero_le _) hE2 ?_
      exact tl54 _ _ _ wrS_at.1 h
end ML
section ML2
variable {d : Nat} {Γ : am_G} {L : am_L} {B : Nat → Nat} {n : Nat}
theorem uSet_wfs {s s' : Nat} {w w' : Nat → Int32} (hI : qInv w) (h : uSet B n w s = .ok (s', w')) : wfs w' := by
  cases h1 : pWord B n 1 s with
  | error e => rw [uSet_1 h1] at h; cases h
  | ok q1 =>
    cases h2 : pSem B n q1.1 with
    | error e => rw [uSet_2 h1 h2] at h; cases h
    | ok q2 =>
      cases h3 : uLoop B n 2 6 vQ (uQu B n) 7 q2.1 w with
      | error e => rw [uSet_3 h1 h2 h3] at h; cases h
      | ok q3 =>
        cases h4 : uLoop B n 3 8 vT (uTy B n) 9 q3.1 q3.2 with
        | error e => rw [uSet_4 h1 h2 h3 h4] at h; cases h
        | ok q4 =>
          rw [uSet_5 h1 h2 h3 h4] at h
          exact uLoopG_inv (uLoopT_inv (uLoopQ_inv hI h3).1 h4).1 h
theorem mLoad (hm : mdF Γ 450) {J : am_I} (hn7 : n ≤ 700) (h9 : J 450 9 = nn n) (hB : ∀ j, j < n → B j < 256 ∧ J 456 j = nn (B j)) {s : Nat} (h5 : J 450 5 = nn s) (h8 : s ≤ 8) {U : Except (Nat × Nat) ((Nat → Int32) × Nat)} (hU : uText B n (J 451) = U) :
    (∀ w' k, U = .ok (w', k) → ∃ M, am_E m_X9_load (d + 264) 0 0 [.ref 450] Γ J L (.inl (some (.int (w' 1)))) M L ∧ mDone J M w' s) ∧ (∀ c p, U = .error (c, p) → ∃ M, am_E m_X9_load (d + 264) 0 0 [.ref 450] Γ J L (.inl (some (.int (-1)))) M L ∧ mFlt J M c p) := by
  obtain ⟨mo, r0, r1, r2, r3, r4, r7, r8, r13, r14, r15, r16, r17, a1, -⟩ := id hm
  obtain ⟨K, hS, hb, tK, rK, k23, k11, k12⟩ := mStart (d := d + 260) (L := L) hm hn7 h9 hB
  obtain ⟨K0, hK0⟩ : ∃ K0, K0 = (fun k => if k = 450 + 1 then zrow (K (450 + 1)) else K k) := ⟨_, rfl⟩
  have k0n : ∀ k, k ≠ 451 → K0 k = K k := fun k hk => by rw [hK0]; exact if_neg hk
  have k0r : K0 451 = zrow (J 451) := by rw [hK0, ← rK]; exact if_pos rfl
  have hb0 : mBfr B n J K0 := by
    obtain ⟨h1, h2, h3, h4, h5, h6⟩ := hb
    exact ⟨fun k a b c e => (k0n k b).trans (h1 k a b c e), fun j hj => by rw [k0n 454 (by decide)]; exact h2 j hj, h3.st (by rw [k0n 450 (by decide)]) (k0n (450 + 6) (by decide)), by rw [k0n 450 (by decide)]; exact h4, by rw [k0n 450 (by decide)]; exact h5, by rw [k0n 450 (by decide)]; exact h6⟩
  have t0 : tkM B n K0 450 (skp B n 0) := tK.st (fun j _ _ => by rw [k0n 450 (by decide)])
  obtain ⟨hI, hQ⟩ := zrow_inv (J 451)
  obtain ⟨K', hM, k'⟩ := mSetup (d := d) (L := L) hm hI hQ hb0.2.2.1 t0 k0r (by rw [k0n 450 (by decide)]; exact k23) (nn 508)
  have hb' := hb0.mid hM
  have head : ∀ r If, am_W m_X9_load (d + 264) 0 0 false 0 0 158 [(0, .ref 450), (1, .int (nn 508))] [] Γ K' L (am_R r If L) → am_W m_X9_load (d + 264) 0 0 false 0 0 0 [(0, .ref 450)] [] Γ J L (am_R r If L) := fun r If h => by
    refine bX9_load_0 mo (Nat.zero_le _) (Nat.zero_le _) hS ?_
    refine mClear hm r 0 If ?_
    rw [← hK0]
    exact k' r If h
  have bad : ∀ M, am_E m_X9_commands (d + 263) 0 0 [.ref 450] Γ K' L (.inl (some (.int (-1)))) M L → am_E m_X9_load (d + 264) 0 0 [.ref 450] Γ J L (.inl (some (.int (-1)))) M L := fun M hE => am_ofE rfl rfl rfl (Nat.le_of_ble_eq_true rfl) (head _ _ (by
    refine bX9_load_158 mo (Nat.zero_le _) (Nat.zero_le _) hE ?_
    refine bX9_load_162 (fun z => absurd rfl z) (fun _ => ?_)
    refine bX9_load_166 ?_
    refine bX9_load_176 ?_
    exact ⟨rfl, rfl, rfl⟩))
  cases hSet : uSet B n (zrow (J 451)) (skp B n 0) with
  | error e =>
    obtain ⟨c, p⟩ := e
    rw [hSet] at hM
    rw [uText_e hSet] at hU
    subst hU
    refine ⟨fun w' k hk => (by cases hk), fun c' p' hk => ?_⟩
    cases hk
    obtain ⟨M, hE, hF⟩ := mFin_x (d := d) (L := L) hm hb' hM.2.2.1 hM.2.2.2.1 hM.2.2.2.2
    exact ⟨M, bad M hE, hF⟩
  | ok q =>
    obtain ⟨s', w0⟩ := q
    rw [hSet] at hM
    obtain ⟨-, -, ⟨c11, c12⟩, tM, rM, xM⟩ := hM
    have hw0 := uSet_wfs hI hSet
    rw [uText_o hSet] at hU
    obtain ⟨hOk, hEr⟩ := mFin_ok (d := d) (L := L) hm hb' hw0 tM rM xM (by rw [c11, k0n 450 (by decide)]; exact k11) (by rw [c12, k0n 450 (by decide)]; exact k12) h5 h8 hU
    refine ⟨fun w' k hk => ?_, fun c p hk => ?_⟩
    · obtain ⟨M, hE, hD⟩ := hOk w' k hk
      have hkl : k ≤ 0 + (n + 1) := uAll_k _ _ _ _ (hU.trans hk)
      refine ⟨M, am_ofE rfl rfl rfl (Nat.le_of_ble_eq_true rfl) (head _ _ ?_), hD⟩
      refine bX9_load_158 mo (Nat.zero_le _) (Nat.zero_le _) hE ?_
      refine bX9_load_162 (fun _ => ?_) (fun z => absurd z (nn_none (by omega)))
      refine bX9_load_170 mo r0 a1 (nn_in (k := 1) (by decide) (by decide)) ?_
      refine bX9_load_176 ?_
      refine am_R_e ?_ rfl rfl
      show M 451 1 = w' 1
      rw [hD.2.1]
    · obtain ⟨M, hE, hF⟩ := hEr c p hk
      exact ⟨M, bad M hE, hF⟩
end ML2
