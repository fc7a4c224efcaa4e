/-! NAMES: as a number, as letters; the model looks them up -/
theorem nsum_sh (f : Nat → Nat) : ∀ p, nsum (fun i => f i * 256 ^ i) (p + 1) = f 0 + 256 * nsum (fun i => f (i + 1) * 256 ^ i) p
  | 0 => by
    show 0 + f 0 * 256 ^ 0 = f 0 + 256 * 0
    omega
  | p + 1 => by
    have e : nsum (fun i => f i * 256 ^ i) (p + 1 + 1) = nsum (fun i => f i * 256 ^ i) (p + 1) + f (p + 1) * 256 ^ (p + 1) := rfl
    have e2 : nsum (fun i => f (i + 1) * 256 ^ i) (p + 1) = nsum (fun i => f (i + 1) * 256 ^ i) p + f (p + 1) * 256 ^ p := rfl
    rw [e, e2, nsum_sh f p, Nat.pow_succ, ← Nat.mul_assoc]
    omega
theorem dig_uq : ∀ (p q : Nat) (f g : Nat → Nat), (∀ i, i < p → 1 ≤ f i ∧ f i < 256) → (∀ i, i < q → 1 ≤ g i ∧ g i < 256) → nsum (fun i => f i * 256 ^ i) p = nsum (fun i => g i * 256 ^ i) q → p = q ∧ ∀ i, i < p → f i = g i
  | 0, 0, _, _, _, _, _ => ⟨rfl, fun i hi => absurd hi (Nat.not_lt_zero i)⟩
  | 0, q + 1, f, g, _, hg, h => by
    rw [nsum_sh] at h
    have e : nsum (fun i => f i * 256 ^ i) 0 = 0 := rfl
    have := (hg 0 (by omega)).1
    omega
  | p + 1, 0, f, g, hf, _, h => by
    rw [nsum_sh] at h
    have e : nsum (fun i => g i * 256 ^ i) 0 = 0 := rfl
    have := (hf 0 (by omega)).1
    omega
  | p + 1, q + 1, f, g, hf, hg, h => by
    rw [nsum_sh, nsum_sh] at h
    have a := (hf 0 (by omega)).2
    have b := (hg 0 (by omega)).2
    have h0 : f 0 = g 0 := by omega
    obtain ⟨e1, e2⟩ := dig_uq p q (fun i => f (i + 1)) (fun i => g (i + 1)) (fun i hi => hf (i + 1) (by omega)) (fun i hi => hg (i + 1) (by omega)) (by omega)
    refine ⟨by omega, fun i hi => ?_⟩
    cases i with
    | zero => exact h0
    | succ k => exact e2 k (by omega)
theorem ll_eq {a b : Nat} (ha : a < 9223372036854775808) (hb : b < 9223372036854775808) : ll a = ll b ↔ a = b := by
  refine ⟨fun h => ?_, fun h => by rw [h]⟩
  have h1 : ¬ ll a < ll b := by rw [h]; exact fun z => Int64.lt_irrefl z
  have h2 : ¬ ll b < ll a := by rw [h]; exact fun z => Int64.lt_irrefl z
  rw [ll_lt ha hb] at h1
  rw [ll_lt hb ha] at h2
  omega
/-- the name at a in the row is the token's at s -/
def nmE (w : Nat → Int32) (a : Nat) (B : Nat → Nat) (s len : Nat) : Bool := decide (lnW w a = len) && (List.range len).all (fun i => decide (w (a + 1 + i) = nn (B (s + i))))
theorem nmE_t {w : Nat → Int32} {a : Nat} {B : Nat → Nat} {s len : Nat} : nmE w a B s len = true ↔ lnW w a = len ∧ ∀ i, i < len → w (a + 1 + i) = nn (B (s + i)) := by
  unfold nmE
  rw [Bool.and_eq_true, decide_eq_true_eq, List.all_eq_true]
  exact ⟨fun ⟨h1, h2⟩ => ⟨h1, fun i hi => of_decide_eq_true (h2 i (List.mem_range.mpr hi))⟩, fun ⟨h1, h2⟩ => ⟨h1, fun i hi => decide_eq_true (h2 i (List.mem_range.mp hi))⟩⟩
/-- the same name, as a number -/
theorem nmE_n {w : Nat → Int32} {a : Nat} {B : Nat → Nat} {s len : Nat} (hn : nmO w a) (h6 : len ≤ 6) (hB : ∀ i, i < len → 97 ≤ B (s + i) ∧ B (s + i) ≤ 122) : (pnm w a == ll (nmk B s len)) = nmE w a B s len := by
  obtain ⟨h1, h2, h3, h4⟩ := hn
  have l1 := nmk_lt (B := B) (s := s) (k := len) (fun i hi => by have := hB i hi; omega)
  have l2 := nmk_lt (B := fun i => ltW w a i) (s := 0) (k := lnW w a) (fun i hi => by have := h4 (0 + i) (by omega); omega)
  have p1 : 256 ^ len ≤ 256 ^ 6 := Nat.pow_le_pow_right (by decide) h6
  have p2 : 256 ^ lnW w a ≤ 256 ^ 6 := Nat.pow_le_pow_right (by decide) h3
  have e0 : nmk (fun i => ltW w a i) 0 (lnW w a) = nsum (fun i => ltW w a i * 256 ^ i) (lnW w a) := by
    unfold nmk
    congr 1
    funext i
    rw [Nat.zero_add]
  rw [e0] at l2
  have key : pnm w a = ll (nmk B s len) ↔ nmE w a B s len = true := by
    unfold pnm
    rw [ll_eq (by omega) (by omega), nmE_t]
    refine ⟨fun h => ?_, fun ⟨g1, g2⟩ => ?_⟩
    · obtain ⟨e1, e2⟩ := dig_uq _ _ _ (fun i => B (s + i)) (fun i hi => by have := h4 i hi; omega) (fun i hi => by have := hB i hi; omega) h
      exact ⟨e1, fun i hi => by rw [(h4 i (by omega)).1, e2 i (by omega)]⟩
    · unfold nmk
      subst g1
      have cg : ∀ k, k ≤ lnW w a → nsum (fun i => ltW w a i * 256 ^ i) k = nsum (fun i => B (s + i) * 256 ^ i) k := by
        intro k
        induction k with
        | zero => intro _; rfl
        | succ k ih =>
          intro hk
          have e3 : ltW w a k = B (s + k) := by
            obtain ⟨x1, x2, x3⟩ := h4 k (by omega)
            have := g2 k (by omega)
            rw [x1, nn_eq (by omega) (by have := hB k (by omega); omega)] at this
            exact this
          show nsum _ k + ltW w a k * 256 ^ k = nsum _ k + B (s + k) * 256 ^ k
          rw [ih (by omega), e3]
      exact cg _ (Nat.le_refl _)
  cases hx : nmE w a B s len
  · exact beq_eq_false_iff_ne.mpr (fun z => by rw [key.mp z] at hx; exact absurd hx (by decide))
  · exact beq_iff_eq.mpr (key.mpr hx)
/-- the model holds the name of the token at s -/
def nmH (J : am_I) (m : Nat) (B : Nat → Nat) (s len : Nat) : Prop := J m 18 = nn len ∧ ∀ i, i < len → J (m + 12) i = nn (B (s + i))
def fNm (w : Nat → Int32) (a0 st : Nat) (B : Nat → Nat) (s len N : Nat) : Int32 := if ffs (fun j => nmE w (a0 + j * st) B s len) N < N then nn (ffs (fun j => nmE w (a0 + j * st) B s len) N) else -1
section NM
variable {d mc ms : Nat} {Γ : am_G} {I : am_I} {L : am_L} {B : Nat → Nat} {n s m : Nat}
theorem eX9_nameHere_x (hm : mdF Γ m) (h : I m 23 = 1) : am_E m_X9_nameHere (d + 1) 0 0 [.ref m] Γ I L (.inl none) I L := by
  have mo := hm.1
  have hz : ¬ I m 23 = 0 := by rw [h]; decide
  refine am_ofE rfl rfl rfl (Nat.le_of_ble_eq_true rfl) ?_
  have tail : ∀ a : Int32, am_W m_X9_nameHere (d + 1) 0 0 false 0 0 28 [(0, .ref m)] [.int a, .ref m] Γ I L (am_R (.inl none) I L) := fun a => by
    refine bX9_nameHere_28 mo (Nat.zero_le _) (Nat.zero_le _) (eX9_wrong_x hm h _ _) ?_
    refine bX9_nameHere_32 mo (fun z => absurd z hz) (fun _ => ?_)
    refine bX9_nameHere_39 ?_
    exact ⟨rfl, rfl, rfl⟩
  refine bX9_nameHere_0 mo (fun _ => ?_) (fun _ => ?_)
  · refine bX9_nameHere_23 ?_
    exact tail _
  · refine bX9_nameHere_9 mo (fun _ => ?_) (fun _ => ?_)
    · refine bX9_nameHere_27 ?_
      exact tail _
    · refine bX9_nameHere_23 ?_
      exact tail _
theorem eX9_nameHere (hm : mdF Γ m) (hB : rmB I m B n) (ht : tkM B n I m s) (h : I m 23 = 0) :
    (nmb B n s = true → ∃ I', am_E m_X9_nameHere (d + 1) 0 0 [.ref m] Γ I L (.inl none) I' L ∧ nmH I' m B s (en B n s - s) ∧ (∀ k, k ≠ m → k ≠ m + 12 → I' k = I k) ∧ ∀ j, j ≠ 18 → I' m j = I m j) ∧
    (nmb B n s = false → am_E m_X9_nameHere (d + 1) 0 0 [.ref m] Γ I L (.inl none) (wrS I m 1 s) L) := by
  obtain ⟨mo, r0, r1, r2, r3, r4, r7, r8, r13, r14, r15, r16, r17, a1, a2, a3, a4, a5, a6, a7, a8, a9, a10, a11, a12⟩ := id hm
  obtain ⟨h7, hn, hb⟩ := id hB
  obtain ⟨sn, t20, t19, t21, -⟩ := id ht
  have el := en_le (B := B) sn
  have hk4 := kd_le B n s
  have hk1 : (I m 19 = 1) ↔ kd B n s = 0 := (ht.k19 (k := 1) (by decide)).trans (kdM_1 hk4)
  have e98 : I m 21 - I m 20 = nn (en B n s - s) := by rw [t20, t21, nn_sub el.1]
  have l6 : (nn (en B n s - s) ≤ 6) ↔ en B n s - s ≤ 6 := nn_le (b := 6) (by omega) (by decide)
  refine ⟨fun hx => ?_, fun hx => ?_⟩
  · obtain ⟨x1, x2⟩ := of_decide_eq_true hx
    refine am_ofX1 rfl rfl rfl (Nat.le_of_ble_eq_true rfl) ?_
    generalize hlen : en B n s - s = len at *
    have loop := nn_loop (fun i => ∀ J : am_I, J m 18 = nn len → (∀ i', i' < i → J (m + 12) i' = nn (B (s + i'))) → (∀ k, k ≠ m → k ≠ m + 12 → J k = I k) → (∀ j, j ≠ 18 → J m j = I m j) → ∃ I', am_W m_X9_nameHere (d + 1) 0 0 false 0 0 55 [(0, .ref m), (1, .int (nn i))] [] Γ J L (am_R (.inl none) I' L) ∧ nmH I' m B s len ∧ (∀ k, k ≠ m → k ≠ m + 12 → I' k = I k) ∧ ∀ j, j ≠ 18 → I' m j = I m j) len ?_ (fun i hi ih => ?_)
    · obtain ⟨I', hW, hP⟩ := loop (am_u I m 18 (nn len)) (by rw [at1, if_pos rfl]) (fun i' hi' => absurd hi' (Nat.not_lt_zero i')) (fun k hk _ => am_u_ne hk) (fun j hj => by rw [at1, if_neg hj])
      refine ⟨I', ?_, hP⟩
      refine bX9_nameHere_0 mo (fun z => absurd (hk1.mpr x1) z) (fun _ => ?_)
      refine bX9_nameHere_9 mo (fun _ => ?_) (fun z => absurd (by rw [e98]; exact l6.mpr x2) z)
      refine bX9_nameHere_27 ?_
      refine bX9_nameHere_28 mo (Nat.zero_le _) (Nat.zero_le _) (eX9_wrong_0 hm _) ?_
      refine bX9_nameHere_32 mo (fun _ => ?_) (fun z => absurd h z)
      refine bX9_nameHere_40 mo ?_
      rw [e98]
      exact hW
    · intro J j18 jl jk jj
      refine ⟨J, ?_, ⟨j18, jl⟩, jk, jj⟩
      refine bX9_nameHere_55 mo (fun _ => ?_) (fun z => absurd (Int32.le_of_eq j18) z)
      refine bX9_nameHere_86 ?_
      exact ⟨rfl, rfl, rfl⟩
    · intro J j18 jl jk jj
      obtain ⟨I', hW, hP⟩ := ih (am_u J (m + 12) i (nn (B (s + i)))) (by rw [am_u_ne (by omega)]; exact j18) (fun i' hi' => by
        rw [at1]
        by_cases hc : i' = i
        · rw [if_pos hc, hc]
        · rw [if_neg hc]; exact jl i' (by omega)) (fun k a b => (am_u_ne b).trans (jk k a b)) (fun j hj => by rw [am_u_ne (by omega)]; exact jj j hj)
      refine ⟨I', ?_, hP⟩
      have e20 : J m 20 + nn i = nn (s + i) := by rw [jj 20 (by decide), t20, nn_add]
      refine bX9_nameHere_55 mo (fun z => absurd z (by rw [j18, nn_le (by omega) (by omega)]; omega)) (fun _ => ?_)
      refine bX9_nameHere_63 mo (by assumption) (by assumption) (by assumption) (by rw [e20]; exact nn_in (by omega) (by omega)) (by assumption) (nn_in (by omega) (by omega)) ?_
      rw [e20, nn_nat (by omega), nn_nat (by omega), jk (m + 6) (by omega) (by omega), (hb (s + i) (by omega)).2, nn_s1]
      exact hW
  · have hx' := of_decide_eq_false hx
    refine am_ofE rfl rfl rfl (Nat.le_of_ble_eq_true rfl) ?_
    have tail : am_W m_X9_nameHere (d + 1) 0 0 false 0 0 23 [(0, .ref m)] [.ref m] Γ I L (am_R (.inl none) (wrS I m 1 s) L) := by
      refine bX9_nameHere_23 ?_
      refine bX9_nameHere_28 mo (Nat.zero_le _) (Nat.zero_le _) (eX9_wrong_1 hm h t20 1) ?_
      refine bX9_nameHere_32 mo (fun z => absurd z (by rw [wrS_at.1]; decide)) (fun _ => ?_)
      refine bX9_nameHere_39 ?_
      exact ⟨rfl, rfl, rfl⟩
    refine bX9_nameHere_0 mo (fun _ => tail) (fun z => ?_)
    refine bX9_nameHere_9 mo (fun z2 => ?_) (fun _ => tail)
    rw [e98] at z2
    exact absurd ⟨hk1.mp z, l6.mp z2⟩ hx'
theorem eX9_named (hm : mdF Γ m) {len N base st off : Nat} (hH : nmH I m B s len) (h6 : len ≤ 6) (hN : N < 100) (hs : base < 1000 ∧ st < 1000 ∧ off < 1000) (hr : ∀ j, j < N → base + off + j * st + 8 ≤ 508 ∧ nmO (I (m + 1)) (base + off + j * st)) : am_E m_X9_named d 0 0 [.ref m, .int (nn base), .int (nn st), .int (nn off), .int (nn N)] Γ I L (.inl (some (.int (fNm (I (m + 1)) (base + off) st B s len N)))) I L := by
  obtain ⟨mo, r0, r1, r2, r3, r4, r7, r8, r13, r14, r15, r16, r17, a1, a2, a3, a4, a5, a6, a7, a8, a9, a10, a11, a12⟩ := id hm
  obtain ⟨h18, hl⟩ := hH
  refine am_ofE rfl rfl rfl (Nat.le_of_ble_eq_true rfl) ?_
  refine bX9_named_0 ?_
  refine nn_loop (fun j => (∀ j', j' < j → nmE (I (m + 1)) (base + off + j' * st) B s len = false) → am_W m_X9_named d 0 0 false 0 0 3 [(0, .ref m), (1, .int (nn base)), (2, .int (nn st)), (3, .int (nn off)), (4, .int (nn N)), (5, .int (nn j))] [] Γ I L (am_R (.inl (some (.int (fNm (I (m + 1)) (base + off) st B s len N)))) I L)) N (fun hall => ?_) (fun j hj ih h0 => ?_) (fun i' hi' => absurd hi' (Nat.not_lt_zero i'))
  · refine bX9_named_3 (fun _ => ?_) (fun z => absurd (Int32.le_of_eq rfl) z)
    refine bX9_named_107 ?_
    exact am_R_e (by unfold fNm; rw [ffs_none hall, if_neg (by omega)]) rfl rfl
  · obtain ⟨r1, r2⟩ := hr j hj
    obtain ⟨n1, n2, n3, n4⟩ := id r2
    have ei : (nn base + nn j * nn st + nn off : Int32) = nn (base + off + j * st) := by rw [nn_mul, nn_add, nn_add, show base + j * st + off = base + off + j * st by omega]
    generalize hA : base + off + j * st = A at *
    have done : ∀ (f k : Int32), (f = 0 ∧ nmE (I (m + 1)) A B s len = false ∨ f = 1 ∧ nmE (I (m + 1)) A B s len = true) → am_W m_X9_named d 0 0 false 0 0 93 [(0, .ref m), (1, .int (nn base)), (2, .int (nn st)), (3, .int (nn off)), (4, .int (nn N)), (5, .int (nn j)), (6, .int (nn A)), (7, .int f), (8, .int k)] [] Γ I L (am_R (.inl (some (.int (fNm (I (m + 1)) (base + off) st B s len N)))) I L) := by
      intro f k hf
      rcases hf with ⟨rfl, hE⟩ | ⟨rfl, hE⟩
      · refine bX9_named_93 (fun _ => ?_) (fun z => absurd rfl z)
        refine bX9_named_101 ?_
        refine aw_take 6 ?_
        rw [nn_s1]
        refine ih (fun j' hj' => ?_)
        by_cases hc : j' < j
        · exact h0 j' hc
        · obtain rfl : j' = j := by omega
          rw [hA]
          exact hE
      · refine bX9_named_93 (fun z => absurd z (by decide)) (fun _ => ?_)
        refine bX9_named_98 ?_
        exact am_R_e (by unfold fNm; rw [ffs_eq h0 (by show nmE (I (m + 1)) (base + off + j * st) B s len = true; rw [hA]; exact hE) hj, if_pos hj]) rfl rfl
    refine bX9_named_3 (fun z => absurd z (by rw [nn_le (by omega) (by omega)]; omega)) (fun _ => ?_)
    refine bX9_named_10 mo (by assumption) (by assumption) (by rw [ei]; exact nn_in (by omega) (by omega)) (fun z => ?_) (fun z => ?_)
    · rw [ei, nn_nat (by omega), n1, h18, nn_eq (by omega) (by omega)] at z
      refine bX9_named_38 ?_
      refine bX9_named_39 ?_
      rw [ei]
      refine bX9_named_44 (fun _ => ?_) (fun q => absurd rfl q)
      refine done 0 0 (Or.inl ⟨rfl, ?_⟩)
      cases hx : nmE (I (m + 1)) A B s len
      · rfl
      · exact absurd (nmE_t.mp hx).1 z
    · rw [ei, nn_nat (by omega), n1, h18, nn_eq (by omega) (by omega)] at z
      refine bX9_named_34 ?_
      refine bX9_named_39 ?_
      rw [ei]
      refine nn_loop (fun i => (∀ i', i' < i → I (m + 1) (A + 1 + i') = nn (B (s + i'))) → am_W m_X9_named d 0 0 false 0 0 44 [(0, .ref m), (1, .int (nn base)), (2, .int (nn st)), (3, .int (nn off)), (4, .int (nn N)), (5, .int (nn j)), (6, .int (nn A)), (7, .int 1), (8, .int (nn i))] [] Γ I L (am_R (.inl (some (.int (fNm (I (m + 1)) (base + off) st B s len N)))) I L)) len (fun hall => ?_) (fun i hi ihi hi0 => ?_) (fun i' hi' => absurd hi' (Nat.not_lt_zero i'))
      · refine bX9_named_44 (fun q => absurd q (by decide)) (fun _ => ?_)
        refine bX9_named_49 mo (fun _ => ?_) (fun q => absurd (Int32.le_of_eq h18) q)
        exact done 1 _ (Or.inr ⟨rfl, nmE_t.mpr ⟨z, hall⟩⟩)
      · have e1 : (nn A + 1 + nn i : Int32) = nn (A + 1 + i) := by rw [nn_s1, nn_add]
        refine bX9_named_44 (fun q => absurd q (by decide)) (fun _ => ?_)
        refine bX9_named_49 mo (fun q => absurd q (by rw [h18, nn_le (by omega) (by omega)]; omega)) (fun _ => ?_)
        refine bX9_named_58 mo (by assumption) (by assumption) (by rw [e1]; exact nn_in (by omega) (by omega)) (by assumption) (by assumption) (nn_in (by omega) (by omega)) (fun q => ?_) (fun q => ?_)
        · rw [e1, nn_nat (by omega), nn_nat (by omega), hl i hi] at q
          refine bX9_named_84 ?_
          refine bX9_named_85 ?_
          refine bX9_named_44 (fun _ => ?_) (fun q => absurd rfl q)
          refine done 0 _ (Or.inl ⟨rfl, ?_⟩)
          cases hx : nmE (I (m + 1)) A B s len
          · rfl
          · exact absurd ((nmE_t.mp hx).2 i hi) q
        · rw [e1, nn_nat (by omega), nn_nat (by omega), hl i hi] at q
          refine bX9_named_80 ?_
          refine bX9_named_85 ?_
          rw [nn_s1]
          refine ihi (fun i' hi' => ?_)
          by_cases hc : i' < i
          · exact hi0 i' hc
          · obtain rfl : i' = i := by omega
            exact q
end NM
