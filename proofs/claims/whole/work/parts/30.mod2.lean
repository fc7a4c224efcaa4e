/-! CONTRACTS OF THE MODEL: all best trees -/
theorem nots_and (S Y : Nat) : nots S (S &&& Y) = nots S Y := by
  refine Nat.eq_of_testBit_eq (fun i => ?_)
  rw [nots_bit, nots_bit, Nat.testBit_and]
  cases S.testBit i <;> cases Y.testBit i <;> rfl
theorem yse_lt (T : Nat) (ty : Nat → Nat) (q : Nat) : yse T ty q < 2 ^ T := msk_lt _ T
theorem cand_dec {x y z q : Nat} (h : x / 8 % 4194304 + y / 8 % 4194304 + z < 4194304) (hq : q < 7) :
    ((x / 8 + y / 8 + z) * 8 + (q + 1)) / 33554432 = x / 33554432 + y / 33554432 ∧ ((x / 8 + y / 8 + z) * 8 + (q + 1)) / 8 % 4194304 = z + x / 8 % 4194304 + y / 8 % 4194304 ∧ ((x / 8 + y / 8 + z) * 8 + (q + 1)) % 8 = q + 1 := by omega
theorem min_dec {C R q : Nat} (h1 : C % 8 = q + 1) (h2 : R % 8 ≤ q) : C < R ↔ (C / 33554432 < R / 33554432 ∨ (C / 33554432 = R / 33554432 ∧ C / 8 % 4194304 < R / 8 % 4194304)) := by omega
theorem wtl_z {T : Nat} {tl ct : Nat → Nat} {S v : Nat} (h : ∀ u, u < T → S.testBit u = true → tl u ≠ v) : wtl T tl ct S v = 0 := by
  unfold wtl
  have := nsum_le (f := fun t => if (S.testBit t && decide (tl t = v)) = true then ct t else 0) (m := 0) T (fun k hk => by
    show (if (S.testBit k && decide (tl k = v)) = true then ct k else 0) ≤ 0
    cases hb : S.testBit k
    · simp
    · rw [decide_eq_false (h k hk hb)]; simp)
  omega
theorem mxw_bt {T : Nat} {tl ct : Nat → Nat} {S v : Nat} (h : isBT T tl ct S v) : mxw T tl ct S T = wtl T tl ct S v := by
  have le1 : ∀ w, wtl T tl ct S w ≤ wtl T tl ct S v := by
    intro w
    by_cases hx : ∃ u, u < T ∧ S.testBit u = true ∧ tl u = w
    · obtain ⟨u, u1, u2, u3⟩ := hx
      have := h.2 u u1 u2
      rw [u3] at this
      omega
    · rw [wtl_z (v := w) (fun u u1 u2 u3 => hx ⟨u, u1, u2, u3⟩)]
      omega
  have up : ∀ k, mxw T tl ct S k ≤ wtl T tl ct S v := by
    intro k
    induction k with
    | zero => exact Nat.zero_le _
    | succ k ih => exact Nat.max_le.mpr ⟨ih, le1 _⟩
  have lo : ∀ k t, t < k → wtl T tl ct S (tl t) ≤ mxw T tl ct S k := by
    intro k
    induction k with
    | zero => intro t h; omega
    | succ k ih =>
      intro t ht
      show _ ≤ max _ _
      by_cases hk : t < k
      · exact Nat.le_trans (ih t hk) (Nat.le_max_left _ _)
      · obtain rfl : t = k := by omega
        exact Nat.le_max_right _ _
  obtain ⟨t, t1, t2, t3⟩ := h.1
  have := lo T t t1
  rw [t3] at this
  exact Nat.le_antisymm (up T) this
/-- the model's three tables hold the rank R at set S, limit l -/
def rk (I : am_I) (m S l R : Nat) : Prop := I (m + 8) (S * 31 + l) = nn (R / 33554432) ∧ I (m + 9) (S * 31 + l) = nn (R / 8 % 4194304) ∧ I (m + 10) (S * 31 + l) = nn (R % 8) - 1
section BQ
variable {Q T : Nat} {qc ys tl ct : Nat → Nat} {fb : Nat → Bool} {sub : Nat → Nat → Nat} {S l : Nat}
theorem bq_root : ∀ k, k ≤ 6 → bq T qc ys tl ct fb sub S l k % 8 ≤ k
  | 0, _ => by
    show lfe T tl ct S * 33554432 % 8 ≤ 0
    omega
  | k + 1, h => by
    have := bq_root k (by omega)
    show (if _ then min _ (cand T qc ys ct sub k S l) else _) % 8 ≤ k + 1
    split
    · by_cases hm : bq T qc ys tl ct fb sub S l k ≤ cand T qc ys ct sub k S l
      · rw [Nat.min_eq_left hm]; omega
      · rw [Nat.min_eq_right (by omega)]
        unfold cand
        omega
    · omega
theorem bq_le : ∀ k, bq T qc ys tl ct fb sub S l k ≤ lfe T tl ct S * 33554432
  | 0 => Nat.le_refl _
  | k + 1 => by
    have := bq_le k
    show (if _ then min _ _ else _) ≤ _
    split
    · exact Nat.le_trans (Nat.min_le_left _ _) this
    · exact this
end BQ
section M2
variable {d : Nat} {Γ : am_G} {I : am_I} {L : am_L} {m : Nat} {g Q T : Nat} {qc ty tl ct : Nat → Nat}
set_option maxHeartbeats 4000000 in
theorem eX9_tries (hm : mdF Γ m) (hd : mda (I (m + 1)) g Q T qc ty tl ct) (F : Int32) {S q : Nat} (h0 : 0 < S) (hS : S < 2 ^ T) (hq : q < Q) (hF : fbq F q = false) (hw : I (m + 11) S = nn (wt T ct S))
    (hc : ∀ l, l ≤ 30 → rk I m S l (bq T qc (yse T ty) tl ct (fbq F) (bB Q T qc (yse T ty) tl ct (fbq F)) S l q))
    (hr : ∀ S', 0 < S' → S' < S → ∀ l, l ≤ 30 → rk I m S' l (bB Q T qc (yse T ty) tl ct (fbq F) S' l)) :
    ∃ I', am_E m_X9_tries (d + 3) 0 0 [.ref m, .int (nn S), .int (nn q)] Γ I L (.inl none) I' L ∧ (∀ l, l ≤ 30 → rk I' m S l (bq T qc (yse T ty) tl ct (fbq F) (bB Q T qc (yse T ty) tl ct (fbq F)) S l (q + 1))) ∧ (∀ c j, ¬ ((c = m + 8 ∨ c = m + 9 ∨ c = m + 10) ∧ S * 31 ≤ j ∧ j < S * 31 + 31) → I' c j = I c j) := by
  obtain ⟨o, r0, r1, r2, r3, r4, r7, r8, r13, r14, r15, r16, r17, a1, a2, a3, a4, a5, a6, a7, a8, a9, a10, a11, a12⟩ := id hm
  obtain ⟨hQ, hT, hQ6, hT0, hT8, hqs, hts⟩ := id hd
  have p8 := two_le8 hT8
  have ct9 : ∀ t, t < T → ct t ≤ 9999 := fun t h => (hts t h).2.2.2.2.2
  have wS := wt_le (T := T) (ct := ct) hT8 ct9 S
  obtain ⟨eqc, q1, q9⟩ := hqs q hq
  have hlf : lfe T tl ct S ≤ wt T ct S := Nat.sub_le _ _
  have yl : S &&& yse T ty q ≤ S := Nat.and_le_left
  have nl : nots S (yse T ty q) ≤ S := by have := and_nots S (yse T ty q); omega
  have en : nn S &&& (nn (S &&& yse T ty q) ^^^ -1) = nn (nots S (yse T ty q)) := by
    rw [nn_andn]
    exact congrArg nn (nots_and S (yse T ty q))
  refine am_ofX1 rfl rfl rfl (Nat.le_of_ble_eq_true rfl) ?_
  have same : oks (yse T ty) (fbq F) q S = false → ∀ l, l ≤ 30 → rk I m S l (bq T qc (yse T ty) tl ct (fbq F) (bB Q T qc (yse T ty) tl ct (fbq F)) S l (q + 1)) := by
    intro ho l hl
    have e : bq T qc (yse T ty) tl ct (fbq F) (bB Q T qc (yse T ty) tl ct (fbq F)) S l (q + 1) = bq T qc (yse T ty) tl ct (fbq F) (bB Q T qc (yse T ty) tl ct (fbq F)) S l q := by
      show (if (oks (yse T ty) (fbq F) q S && decide (qc q ≤ l)) = true then _ else _) = _
      rw [ho]; rfl
    rw [e]
    exact hc l hl
  by_cases hy : S &&& yse T ty q = 0
  · refine ⟨I, ?_, same (by unfold oks; rw [decide_eq_true hy]; simp), fun _ _ _ => rfl⟩
    refine bX9_tries_0 o (Nat.zero_le _) (Nat.zero_le _) (eX9_yesOf hm hd (by omega) (by omega)) ?_
    refine bX9_tries_6 (fun _ => ?_) (fun h => absurd (by rw [hy]; rfl) h)
    refine bX9_tries_23 ?_
    exact ⟨rfl, rfl, rfl⟩
  by_cases hno : nots S (yse T ty q) = 0
  · refine ⟨I, ?_, same (by unfold oks; rw [decide_eq_true hno]; simp), fun _ _ _ => rfl⟩
    refine bX9_tries_0 o (Nat.zero_le _) (Nat.zero_le _) (eX9_yesOf hm hd (by omega) (by omega)) ?_
    refine bX9_tries_6 (fun h => absurd h (by rw [nl_0, nn_eq (by omega) (by decide)]; exact hy)) (fun _ => ?_)
    rw [en]
    refine bX9_tries_18 (fun h => absurd (by rw [hno]; rfl) h) (fun _ => ?_)
    refine bX9_tries_23 ?_
    exact ⟨rfl, rfl, rfl⟩
  have hok : oks (yse T ty) (fbq F) q S = true := by unfold oks; rw [hF, decide_eq_false hy, decide_eq_false hno]; rfl
  obtain ⟨l1, l2, -, -⟩ := oks_lt (yse T ty) (fbq F) hok
  have loop := nn_loopc (fun l => qc q ≤ l → ∀ I1 : am_I, (∀ l', l' < l → l' ≤ 30 → rk I1 m S l' (bq T qc (yse T ty) tl ct (fbq F) (bB Q T qc (yse T ty) tl ct (fbq F)) S l' (q + 1))) → (∀ c j, ¬ ((c = m + 8 ∨ c = m + 9 ∨ c = m + 10) ∧ S * 31 ≤ j ∧ j < S * 31 + l) → I1 c j = I c j) →
    ∃ I', am_W m_X9_tries (d + 3) 0 0 false 0 0 31 [(0, .ref m), (1, .int (nn S)), (2, .int (nn q)), (3, .int (nn (S &&& yse T ty q))), (4, .int (nn (nots S (yse T ty q)))), (5, .int (nn l))] [] Γ I1 L (am_R (.inl none) I' L) ∧ (∀ l, l ≤ 30 → rk I' m S l (bq T qc (yse T ty) tl ct (fbq F) (bB Q T qc (yse T ty) tl ct (fbq F)) S l (q + 1))) ∧ (∀ c j, ¬ ((c = m + 8 ∨ c = m + 9 ∨ c = m + 10) ∧ S * 31 ≤ j ∧ j < S * 31 + 31) → I' c j = I c j)) 31 (qc q) (by omega) ?_ (fun l hl ih => ?_)
  · obtain ⟨I', hW, hP⟩ := loop (Nat.le_refl _) I (fun l' h1 h2 => by
      have e : bq T qc (yse T ty) tl ct (fbq F) (bB Q T qc (yse T ty) tl ct (fbq F)) S l' (q + 1) = bq T qc (yse T ty) tl ct (fbq F) (bB Q T qc (yse T ty) tl ct (fbq F)) S l' q := by
        show (if (oks (yse T ty) (fbq F) q S && decide (qc q ≤ l')) = true then _ else _) = _
        rw [decide_eq_false (by omega : ¬ qc q ≤ l'), Bool.and_false]; rfl
      rw [e]
      exact hc l' h2) (fun _ _ _ => rfl)
    refine ⟨I', ?_, hP⟩
    refine bX9_tries_0 o (Nat.zero_le _) (Nat.zero_le _) (eX9_yesOf hm hd (by omega) (by omega)) ?_
    refine bX9_tries_6 (fun h => absurd h (by rw [nl_0, nn_eq (by omega) (by decide)]; exact hy)) (fun _ => ?_)
    rw [en]
    refine bX9_tries_18 (fun _ => ?_) (fun h => absurd h (by rw [nl_0, nn_eq (by omega) (by decide)]; exact hno))
    refine bX9_tries_24 o (Nat.zero_le _) (Nat.zero_le _) (eX9_cost hm (by omega)) ?_
    refine bX9_tries_29 ?_
    rw [eqc]
    exact hW
  · intro _ I1 h1 h2
    refine ⟨I1, ?_, fun l hl => h1 l (by omega) hl, fun c j h => h2 c j h⟩
    refine bX9_tries_31 (fun _ => ?_) (fun h => absurd (by decide) h)
    refine bX9_tries_192 ?_
    exact ⟨rfl, rfl, rfl⟩
  · intro hql I1 h1 h2
    obtain ⟨x1, x2, x3⟩ := hr (S &&& yse T ty q) (by omega) l1 (l - qc q) (by omega)
    obtain ⟨y1, y2, y3⟩ := hr (nots S (yse T ty q)) (by omega) l2 (l - qc q) (by omega)
    obtain ⟨c1, c2, c3⟩ := hc l (by omega)
    have bx := bB_b (Q := Q) (qc := qc) (ys := yse T ty) (tl := tl) (fb := fbq F) hQ6 hT8 ct9 (S &&& yse T ty q) (by omega) (l - qc q) (by omega)
    have bY := bB_b (Q := Q) (qc := qc) (ys := yse T ty) (tl := tl) (fb := fbq F) hQ6 hT8 ct9 (nots S (yse T ty q)) (by omega) (l - qc q) (by omega)
    have w1 := wt_le (T := T) (ct := ct) hT8 ct9 (S &&& yse T ty q)
    have w2 := wt_le (T := T) (ct := ct) hT8 ct9 (nots S (yse T ty q))
    have hsp := wt_split (T := T) (ct := ct) S (yse T ty q)
    have wl : bB Q T qc (yse T ty) tl ct (fbq F) (S &&& yse T ty q) (l - qc q) / 8 % 4194304 + bB Q T qc (yse T ty) tl ct (fbq F) (nots S (yse T ty q)) (l - qc q) / 8 % 4194304 + qc q * wt T ct S ≤ 2399760 := by
      have e1 : (l - qc q) * wt T ct S = (l - qc q) * wt T ct (S &&& yse T ty q) + (l - qc q) * wt T ct (nots S (yse T ty q)) := by rw [hsp, Nat.mul_add]
      have e2 : l * wt T ct S = (l - qc q) * wt T ct S + qc q * wt T ct S := by rw [← Nat.add_mul]; congr 1; omega
      have e3 : l * wt T ct S ≤ 30 * 79992 := Nat.mul_le_mul (by omega) wS
      have b1 := bx.2.1
      have b2 := bY.2.1
      omega
    have hroot := bq_root (T := T) (qc := qc) (ys := yse T ty) (tl := tl) (ct := ct) (fb := fbq F) (sub := bB Q T qc (yse T ty) tl ct (fbq F)) (S := S) (l := l) q (by omega)
    have hrl := bq_le (T := T) (qc := qc) (ys := yse T ty) (tl := tl) (ct := ct) (fb := fbq F) (sub := bB Q T qc (yse T ty) tl ct (fbq F)) (S := S) (l := l) q
    obtain ⟨d1, d2, d3⟩ := cand_dec (x := bB Q T qc (yse T ty) tl ct (fbq F) (S &&& yse T ty q) (l - qc q)) (y := bB Q T qc (yse T ty) tl ct (fbq F) (nots S (yse T ty q)) (l - qc q)) (z := qc q * wt T ct S) (q := q) (by omega) (by omega)
    have hstep : bq T qc (yse T ty) tl ct (fbq F) (bB Q T qc (yse T ty) tl ct (fbq F)) S l (q + 1) = min (bq T qc (yse T ty) tl ct (fbq F) (bB Q T qc (yse T ty) tl ct (fbq F)) S l q) ((bB Q T qc (yse T ty) tl ct (fbq F) (S &&& yse T ty q) (l - qc q) / 8 + bB Q T qc (yse T ty) tl ct (fbq F) (nots S (yse T ty q)) (l - qc q) / 8 + qc q * wt T ct S) * 8 + (q + 1)) := by
      show (if (oks (yse T ty) (fbq F) q S && decide (qc q ≤ l)) = true then _ else _) = _
      rw [if_pos (by rw [hok, decide_eq_true hql]; rfl)]
      rfl
    have hmd := min_dec d3 hroot
    have bxe := bx.1
    have bye := bY.1
    clear bx bY
    generalize hX : bB Q T qc (yse T ty) tl ct (fbq F) (S &&& yse T ty q) (l - qc q) = X at *
    generalize hY : bB Q T qc (yse T ty) tl ct (fbq F) (nots S (yse T ty q)) (l - qc q) = Y at *
    generalize hR : bq T qc (yse T ty) tl ct (fbq F) (bB Q T qc (yse T ty) tl ct (fbq F)) S l q = R at *
    have same1 : ∀ c j, (j < S * 31 ∨ S * 31 + l ≤ j) → I1 c j = I c j := fun c j h => h2 c j (fun z => by omega)
    have other : ∀ c, c ≠ m + 8 → c ≠ m + 9 → c ≠ m + 10 → I1 c = I c := fun c e1 e2 e3 => funext fun j => h2 c j (fun z => by omega)
    have hm1 : I1 (m + 1) = I (m + 1) := other _ (by omega) (by omega) (by omega)
    have ecq : ∀ k, am_E m_X9_cost k 0 0 [.ref m, .int (nn q)] Γ I1 L (.inl (some (.int (nn (qc q))))) I1 L := fun k => am_E_e (eX9_cost hm (by omega)) (by rw [hm1]; exact eqc) rfl
    have eat : ∀ k (S' l' : Nat), S' < 256 → l' ≤ 30 → am_E m_X9_at k 0 0 [.int (nn S'), .int (nn l')] Γ I1 L (.inl (some (.int (nn (S' * 31 + l'))))) I1 L := fun k S' l' a b => eX9_at a b
    -- up to the comparison
    have mid : ∀ I' : am_I, am_W m_X9_tries (d + 3) 0 0 false 0 0 119 [(0, .ref m), (1, .int (nn S)), (2, .int (nn q)), (3, .int (nn (S &&& yse T ty q))), (4, .int (nn (nots S (yse T ty q)))), (5, .int (nn l)), (6, .int (nn (l - qc q))), (7, .int (nn (X / 33554432 + Y / 33554432))), (8, .int (nn (qc q * wt T ct S + X / 8 % 4194304 + Y / 8 % 4194304)))] [.int (nn (S * 31 + l))] Γ I1 L (am_R (.inl none) I' L) →
        am_W m_X9_tries (d + 3) 0 0 false 0 0 31 [(0, .ref m), (1, .int (nn S)), (2, .int (nn q)), (3, .int (nn (S &&& yse T ty q))), (4, .int (nn (nots S (yse T ty q)))), (5, .int (nn l))] [] Γ I1 L (am_R (.inl none) I' L) := by
      intro I' h
      refine bX9_tries_31 (fun h => absurd h (by rw [nl_30, nn_lt (by omega) (by omega)]; omega)) (fun _ => ?_)
      refine bX9_tries_38 o (Nat.zero_le _) (Nat.zero_le _) (ecq _) ?_
      refine bX9_tries_45 o r13 (Nat.zero_le _) (Nat.zero_le _) (by rw [nn_sub hql]; exact eat _ _ _ (by omega) (by omega)) ?_
      rw [nn_sub hql]
      refine bX9_tries_58 a8 (nn_in (by omega) (by omega)) o r13 (Nat.zero_le _) (Nat.zero_le _) (eat _ _ _ (by omega) (by omega)) ?_
      rw [nn_nat (by omega), same1 (m + 8) _ (by omega), x1]
      refine bX9_tries_70 a8 (nn_in (by omega) (by omega)) o (Nat.zero_le _) (Nat.zero_le _) (ecq _) ?_
      rw [nn_nat (by omega), same1 (m + 8) _ (by omega), y1, nn_add]
      refine bX9_tries_79 o r16 a11 (nn_in (by omega) (by omega)) r14 (Nat.zero_le _) (Nat.zero_le _) (eat _ _ _ (by omega) (by omega)) ?_
      rw [nn_nat (by omega), other (m + 11) (by omega) (by omega) (by omega), hw, nn_mul]
      refine bX9_tries_96 a9 (nn_in (by omega) (by omega)) o r14 (Nat.zero_le _) (Nat.zero_le _) (eat _ _ _ (by omega) (by omega)) ?_
      rw [nn_nat (by omega), same1 (m + 9) _ (by omega), x2, nn_add]
      refine bX9_tries_109 a9 (nn_in (by omega) (by omega)) (Nat.zero_le _) (Nat.zero_le _) (eat _ _ _ (by omega) (by omega)) ?_
      rw [nn_nat (by omega), same1 (m + 9) _ (by omega), y2, nn_add]
      exact h
    have eerr : I1 (m + 8) (nn (S * 31 + l)).toNatClampNeg = nn (R / 33554432) := by rw [nn_nat (by omega), same1 (m + 8) _ (by omega), c1]
    have ewrk : I1 (m + 9) (nn (S * 31 + l)).toNatClampNeg = nn (R / 8 % 4194304) := by rw [nn_nat (by omega), same1 (m + 9) _ (by omega), c2]
    by_cases hlt : (X / 8 + Y / 8 + qc q * wt T ct S) * 8 + (q + 1) < R
    · -- better
      obtain ⟨I', hW, hP⟩ := ih (by omega) (am_u (am_u (am_u I1 (m + 8) (S * 31 + l) (nn (X / 33554432 + Y / 33554432))) (m + 9) (S * 31 + l) (nn (qc q * wt T ct S + X / 8 % 4194304 + Y / 8 % 4194304))) (m + 10) (S * 31 + l) (nn q)) (fun l' e1 e2 => by
        by_cases he : l' = l
        · subst he
          rw [hstep, Nat.min_eq_right (by omega)]
          refine ⟨?_, ?_, ?_⟩
          · rw [am_u_at, if_neg (fun z => by omega), am_u_at, if_neg (fun z => by omega), am_u_at, if_pos ⟨rfl, rfl⟩, d1]
          · rw [am_u_at, if_neg (fun z => by omega), am_u_at, if_pos ⟨rfl, rfl⟩, d2]
          · rw [am_u_at, if_pos ⟨rfl, rfl⟩, d3, nl_1, nn_sub (by omega)]; rfl
        · obtain ⟨z1, z2, z3⟩ := h1 l' (by omega) e2
          refine ⟨?_, ?_, ?_⟩
          · rw [am_u_at, if_neg (fun z => by omega), am_u_at, if_neg (fun z => by omega), am_u_at, if_neg (fun z => by omega)]; exact z1
          · rw [am_u_at, if_neg (fun z => by omega), am_u_at, if_neg (fun z => by omega), am_u_at, if_neg (fun z => by omega)]; exact z2
          · rw [am_u_at, if_neg (fun z => by omega), am_u_at, if_neg (fun z => by omega), am_u_at, if_neg (fun z => by omega)]; exact z3) (fun c j hcj => by
        rw [am_u_at, if_neg (fun z => by omega), am_u_at, if_neg (fun z => by omega), am_u_at, if_neg (fun z => by omega)]
        exact h2 c j (fun z => by omega))
      refine ⟨I', mid I' ?_, hP⟩
      have upd : am_W m_X9_tries (d + 3) 0 0 false 0 0 160 [(0, .ref m), (1, .int (nn S)), (2, .int (nn q)), (3, .int (nn (S &&& yse T ty q))), (4, .int (nn (nots S (yse T ty q)))), (5, .int (nn l)), (6, .int (nn (l - qc q))), (7, .int (nn (X / 33554432 + Y / 33554432))), (8, .int (nn (qc q * wt T ct S + X / 8 % 4194304 + Y / 8 % 4194304))), (9, .int (nn (S * 31 + l)))] [] Γ I1 L (am_R (.inl none) I' L) := by
        refine bX9_tries_160 o r13 a8 (nn_in (by omega) (by omega)) r14 a9 (nn_in (by omega) (by omega)) r15 a10 (nn_in (by omega) (by omega)) ?_
        refine bX9_tries_186 ?_
        refine aw_take 6 ?_
        rw [nn_nat (by omega), nn_s1]
        exact hW
      refine bX9_tries_119 o r13 a8 (nn_in (by omega) (by omega)) (fun h => absurd h (by rw [eerr, nn_lt (by omega) (by omega)]; omega)) (fun _ => ?_)
      refine bX9_tries_133 o r13 a8 (nn_in (by omega) (by omega)) (fun _ => upd) (fun h => ?_)
      rw [eerr, nn_eq (by omega) (by omega)] at h
      refine bX9_tries_145 o r14 a9 (nn_in (by omega) (by omega)) (fun _ => upd) (fun h3 => absurd ?_ h3)
      rw [ewrk, nn_lt (by omega) (by omega)]
      omega
    · obtain ⟨I', hW, hP⟩ := ih (by omega) I1 (fun l' e1 e2 => by
        by_cases he : l' = l
        · subst he
          rw [hstep, Nat.min_eq_left (by omega)]
          exact ⟨by rw [same1 _ _ (by omega)]; exact c1, by rw [same1 _ _ (by omega)]; exact c2, by rw [same1 _ _ (by omega)]; exact c3⟩
        · exact h1 l' (by omega) e2) (fun c j hcj => h2 c j (fun z => by omega))
      refine ⟨I', mid I' ?_, hP⟩
      have skip : ∀ ls : List (Nat × Value), ls.take 6 = [(0, .ref m), (1, .int (nn S)), (2, .int (nn q)), (3, .int (nn (S &&& yse T ty q))), (4, .int (nn (nots S (yse T ty q)))), (5, .int (nn (l + 1)))] → am_W m_X9_tries (d + 3) 0 0 false 0 0 31 ls [] Γ I1 L (am_R (.inl none) I' L) := fun ls h => aw_take 6 (by rw [h]; exact hW)
      refine bX9_tries_119 o r13 a8 (nn_in (by omega) (by omega)) (fun _ => ?_) (fun h => ?_)
      · refine bX9_tries_186 ?_
        rw [nn_s1]
        exact skip _ rfl
      · rw [eerr, nn_lt (by omega) (by omega)] at h
        refine bX9_tries_133 o r13 a8 (nn_in (by omega) (by omega)) (fun h3 => ?_) (fun h3 => ?_)
        · rw [eerr, nn_eq (by omega) (by omega)] at h3
          exact absurd (hmd.mpr (by omega)) hlt
        · rw [eerr, nn_eq (by omega) (by omega)] at h3
          refine bX9_tries_145 o r14 a9 (nn_in (by omega) (by omega)) (fun h4 => ?_) (fun _ => ?_)
          · rw [ewrk, nn_lt (by omega) (by omega)] at h4
            exact absurd (hmd.mpr (by omega)) hlt
          · refine bX9_tries_157 ?_
            refine bX9_tries_186 ?_
            rw [nn_s1]
            exact skip _ rfl
theorem mda.to {w w' : Nat → Int32} (h : mda w g Q T qc ty tl ct) (e : ∀ j, j < 132 → w' j = w j) (e2 : ∀ t, t < 8 → w' (132 + g * 94 + (10 + t)) = w (132 + g * 94 + (10 + t))) : mda w' g Q T qc ty tl ct := by
  obtain ⟨h0, h1, h2, h3, h4, h5, h6⟩ := h
  refine ⟨by rw [e 0 (by decide)]; exact h0, by rw [e 1 (by decide)]; exact h1, h2, h3, h4, fun q hq => by rw [e _ (by omega)]; exact h5 q hq, fun t ht => by rw [e _ (by omega), e _ (by omega), e2 t (by omega)]; exact h6 t ht⟩
set_option maxHeartbeats 2000000 in
theorem eX9_findAll (hm : mdF Γ m) (hg : g < 4) (hd : mda (I (m + 1)) g Q T qc ty tl ct) (F : Int32) :
    ∃ I', am_E m_X9_findAll (d + 4) 0 0 [.ref m, .int (nn g), .int F] Γ I L (.inl none) I' L ∧ (∀ S, 0 < S → S < 2 ^ T → ∀ l, l ≤ 30 → rk I' m S l (bB Q T qc (yse T ty) tl ct (fbq F) S l)) ∧ (∀ S, 0 < S → S < 2 ^ T → I' (m + 11) S = nn (wt T ct S)) ∧ ∀ c, c ≠ m + 8 → c ≠ m + 9 → c ≠ m + 10 → c ≠ m + 11 → I' c = I c := by
  obtain ⟨o, r0, r1, r2, r3, r4, r7, r8, r13, r14, r15, r16, r17, a1, a2, a3, a4, a5, a6, a7, a8, a9, a10, a11, a12⟩ := id hm
  obtain ⟨hQ, hT, hQ6, hT0, hT8, hqs, hts⟩ := id hd
  have p8 := two_le8 hT8
  have p2 : 2 ^ 1 ≤ 2 ^ T := Nat.pow_le_pow_right (n := 2) (by decide) hT0
  have ct9 : ∀ t, t < T → ct t ≤ 9999 := fun t h => (hts t h).2.2.2.2.2
  refine am_ofX1 rfl rfl rfl (Nat.le_of_ble_eq_true rfl) ?_
  have loop := nn_loopc (fun S => 0 < S → ∀ I1 : am_I, (∀ S', 0 < S' → S' < S → ∀ l, l ≤ 30 → rk I1 m S' l (bB Q T qc (yse T ty) tl ct (fbq F) S' l)) → (∀ S', 0 < S' → S' < S → I1 (m + 11) S' = nn (wt T ct S')) → (∀ c, c ≠ m + 8 → c ≠ m + 9 → c ≠ m + 10 → c ≠ m + 11 → I1 c = I c) →
    ∃ I', am_W m_X9_findAll (d + 4) 0 0 false 0 0 2 [(0, .ref m), (1, .int (nn g)), (2, .int F), (3, .int (nn S))] [] Γ I1 L (am_R (.inl none) I' L) ∧ (∀ S, 0 < S → S < 2 ^ T → ∀ l, l ≤ 30 → rk I' m S l (bB Q T qc (yse T ty) tl ct (fbq F) S l)) ∧ (∀ S, 0 < S → S < 2 ^ T → I' (m + 11) S = nn (wt T ct S)) ∧ ∀ c, c ≠ m + 8 → c ≠ m + 9 → c ≠ m + 10 → c ≠ m + 11 → I' c = I c) (2 ^ T) 1 (by omega) ?_ (fun S hS ih => ?_)
  · obtain ⟨I', hW, hP⟩ := loop (by decide) I (fun S' h1 h2 => absurd h1 (by omega)) (fun S' h1 h2 => absurd h1 (by omega)) (fun _ _ _ _ _ => rfl)
    exact ⟨I', bX9_findAll_0 hW, hP⟩
  · intro _ I1 h1 h2 h3
    refine ⟨I1, ?_, h1, h2, h3⟩
    refine bX9_findAll_2 o (Nat.zero_le _) (Nat.zero_le _) (eX9_allTypes hm (T := T) (by rw [h3 _ (by omega) (by omega) (by omega) (by omega)]; exact hT) hT8) ?_
    refine bX9_findAll_7 (fun _ => ?_) (fun h => absurd ((nn_lt (by omega) (by omega)).mpr (by omega)) h)
    refine bX9_findAll_175 ?_
    exact ⟨rfl, rfl, rfl⟩
  · intro h0 I1 h1 h2 h3
    have e1 : I1 (m + 1) = I (m + 1) := h3 _ (by omega) (by omega) (by omega) (by omega)
    have wS := wt_le (T := T) (ct := ct) hT8 ct9 S
    have hlf : lfe T tl ct S ≤ wt T ct S := Nat.sub_le _ _
    -- the questions
    have lq := nn_loop (fun q => ∀ I2 : am_I, (∀ l, l ≤ 30 → rk I2 m S l (bq T qc (yse T ty) tl ct (fbq F) (bB Q T qc (yse T ty) tl ct (fbq F)) S l q)) → I2 (m + 11) S = nn (wt T ct S) → (∀ c j, ¬ ((c = m + 8 ∨ c = m + 9 ∨ c = m + 10) ∧ S * 31 ≤ j ∧ j < S * 31 + 31) → ¬ (c = m + 11 ∧ j = S) → I2 c j = I1 c j) →
      ∃ I', am_W m_X9_findAll (d + 4) 0 0 false 0 0 139 [(0, .ref m), (1, .int (nn g)), (2, .int F), (3, .int (nn S)), (4, .int (nn (lfe T tl ct S))), (5, .int (nn q))] [] Γ I2 L (am_R (.inl none) I' L) ∧ (∀ S, 0 < S → S < 2 ^ T → ∀ l, l ≤ 30 → rk I' m S l (bB Q T qc (yse T ty) tl ct (fbq F) S l)) ∧ (∀ S, 0 < S → S < 2 ^ T → I' (m + 11) S = nn (wt T ct S)) ∧ ∀ c, c ≠ m + 8 → c ≠ m + 9 → c ≠ m + 10 → c ≠ m + 11 → I' c = I c) Q ?_ (fun q hqQ ihq => ?_)
    · -- the limits
      have ll := nn_loop (fun l => ∀ I2 : am_I, (∀ l', l' < l → rk I2 m S l' (lfe T tl ct S * 33554432)) → I2 (m + 11) S = nn (wt T ct S) → (∀ c j, ¬ ((c = m + 8 ∨ c = m + 9 ∨ c = m + 10) ∧ S * 31 ≤ j ∧ j < S * 31 + 31) → ¬ (c = m + 11 ∧ j = S) → I2 c j = I1 c j) →
        ∃ I', am_W m_X9_findAll (d + 4) 0 0 false 0 0 86 [(0, .ref m), (1, .int (nn g)), (2, .int F), (3, .int (nn S)), (4, .int (nn (lfe T tl ct S))), (5, .int (nn l))] [] Γ I2 L (am_R (.inl none) I' L) ∧ (∀ S, 0 < S → S < 2 ^ T → ∀ l, l ≤ 30 → rk I' m S l (bB Q T qc (yse T ty) tl ct (fbq F) S l)) ∧ (∀ S, 0 < S → S < 2 ^ T → I' (m + 11) S = nn (wt T ct S)) ∧ ∀ c, c ≠ m + 8 → c ≠ m + 9 → c ≠ m + 10 → c ≠ m + 11 → I' c = I c) 31 ?_ (fun l hl ihl => ?_)
      · -- the weight
        have lt := nn_loop (fun t => ∀ I2 : am_I, I2 (m + 11) S = nn (nsum (fun t => if S.testBit t then ct t else 0) t) → (∀ c j, ¬ (c = m + 11 ∧ j = S) → I2 c j = I1 c j) →
          ∃ I', am_W m_X9_findAll (d + 4) 0 0 false 0 0 20 [(0, .ref m), (1, .int (nn g)), (2, .int F), (3, .int (nn S)), (4, .int (nn t))] [] Γ I2 L (am_R (.inl none) I' L) ∧ (∀ S, 0 < S → S < 2 ^ T → ∀ l, l ≤ 30 → rk I' m S l (bB Q T qc (yse T ty) tl ct (fbq F) S l)) ∧ (∀ S, 0 < S → S < 2 ^ T → I' (m + 11) S = nn (wt T ct S)) ∧ ∀ c, c ≠ m + 8 → c ≠ m + 9 → c ≠ m + 10 → c ≠ m + 11 → I' c = I c) T ?_ (fun t htT iht => ?_)
        · obtain ⟨I', hW, hP⟩ := lt (am_u I1 (m + 11) S 0) (by rw [am_u_at, if_pos ⟨rfl, rfl⟩]; rfl) (fun c j h => by rw [am_u_at, if_neg (fun z => h z)])
          refine ⟨I', ?_, hP⟩
          refine bX9_findAll_2 o (Nat.zero_le _) (Nat.zero_le _) (eX9_allTypes hm (T := T) (by rw [e1]; exact hT) hT8) ?_
          refine bX9_findAll_7 (fun h => absurd h (by rw [nn_lt (by omega) (by omega)]; omega)) (fun _ => ?_)
          refine bX9_findAll_10 o r16 a11 (nn_in (by omega) (by omega)) ?_
          rw [nn_nat (by omega)]
          exact hW
        · intro I2 g1 g2
          have e2 : I2 (m + 1) = I (m + 1) := by rw [← e1]; exact funext fun j => g2 _ j (fun z => by omega)
          have hd2 : mda (I2 (m + 1)) g Q T qc ty tl ct := by rw [e2]; exact hd
          obtain ⟨hE, hbt⟩ := eX9_bestToll (d := d) (L := L) hm hg hd2 h0 hS
          obtain ⟨I', hW, hP⟩ := ll I2 (fun l' h => absurd h (Nat.not_lt_zero _)) g1 (fun c j _ h => g2 c j h)
          refine ⟨I', ?_, hP⟩
          have v99 : bt T tl ct S ≤ 99 := by
            obtain ⟨⟨u, u1, u2, u3⟩, -⟩ := hbt
            rw [← u3]
            exact (hts u u1).2.1
          refine bX9_findAll_20 o r0 a1 (nn_in (k := 1) (by decide) (by decide)) (fun _ => ?_) (fun h => absurd (Int32.le_of_eq (show I2 (m + 1) 1 = nn T by rw [e2]; exact hT)) h)
          refine bX9_findAll_62 o r16 a11 (nn_in (by omega) (by omega)) (Nat.zero_le _) (Nat.zero_le _) hE ?_
          refine bX9_findAll_77 o (Nat.zero_le _) (Nat.zero_le _) (eX9_withToll hm hg hd2 (by omega) v99) ?_
          refine bX9_findAll_80 ?_
          rw [nn_nat (by omega), g1]
          rw [show nn (nsum (fun t => if S.testBit t then ct t else 0) T) - nn (wtl T tl ct S (bt T tl ct S)) = nn (lfe T tl ct S) from by
            show nn (wt T ct S) - nn (wtl T tl ct S (bt T tl ct S)) = _
            rw [nn_sub (wtl_le S _), ← mxw_bt hbt]; rfl]
          exact hW
        · intro I2 g1 g2
          have e2 : I2 (m + 1) = I (m + 1) := by rw [← e1]; exact funext fun j => g2 _ j (fun z => by omega)
          have hx : nsum (fun t => if S.testBit t then ct t else 0) (t + 1) = nsum (fun t => if S.testBit t then ct t else 0) t + if S.testBit t then ct t else 0 := rfl
          have hI : ¬ I2 (m + 1) (1 : Int32).toNatClampNeg ≤ nn t := by show ¬ I2 (m + 1) 1 ≤ nn t; rw [e2, hT, nn_le (by omega) (by omega)]; omega
          cases hb : S.testBit t
          · obtain ⟨I', hW, hP⟩ := iht I2 (by rw [g1, hx, hb]; rfl) g2
            refine ⟨I', ?_, hP⟩
            refine bX9_findAll_20 o r0 a1 (nn_in (k := 1) (by decide) (by decide)) (fun h => absurd h hI) (fun _ => ?_)
            refine bX9_findAll_31 (Nat.zero_le _) (Nat.zero_le _) (eX9_has (by omega) (by omega)) ?_
            refine bX9_findAll_37 (fun _ => ?_) (fun h => absurd (by rw [hb]; rfl) h)
            refine bX9_findAll_56 ?_
            rw [nn_s1]
            exact hW
          · obtain ⟨I', hW, hP⟩ := iht (am_u I2 (m + 11) S (I2 (m + 11) S + nn (ct t))) (by rw [am_u_at, if_pos ⟨rfl, rfl⟩, g1, hx, hb, nn_add]; rfl) (fun c j h => by rw [am_u_at, if_neg (fun z => h z)]; exact g2 c j h)
            refine ⟨I', ?_, hP⟩
            refine bX9_findAll_20 o r0 a1 (nn_in (k := 1) (by decide) (by decide)) (fun h => absurd h hI) (fun _ => ?_)
            refine bX9_findAll_31 (Nat.zero_le _) (Nat.zero_le _) (eX9_has (by omega) (by omega)) ?_
            refine bX9_findAll_37 (fun h => absurd h (by rw [hb]; decide)) (fun _ => ?_)
            refine bX9_findAll_40 o r16 a11 (nn_in (by omega) (by omega)) (Nat.zero_le _) (Nat.zero_le _) (eX9_count hm hg (by omega)) ?_
            refine bX9_findAll_54 a11 (nn_in (by omega) (by omega)) ?_
            refine bX9_findAll_56 ?_
            rw [nn_nat (by omega), nn_s1, e2, (hts t htT).2.2.2.2.1]
            exact hW
      · intro I2 g1 g2 g3
        obtain ⟨I', hW, hP⟩ := lq I2 (fun l hl => g1 l (by omega)) g2 g3
        refine ⟨I', ?_, hP⟩
        refine bX9_findAll_86 (fun _ => ?_) (fun h => absurd (by decide) h)
        refine bX9_findAll_136 ?_
        exact hW
      · intro I2 g1 g2 g3
        obtain ⟨I', hW, hP⟩ := ihl (am_u (am_u (am_u I2 (m + 8) (S * 31 + l) (nn (lfe T tl ct S))) (m + 9) (S * 31 + l) 0) (m + 10) (S * 31 + l) (-1)) (fun l' hl' => by
          by_cases he : l' = l
          · subst he
            refine ⟨?_, ?_, ?_⟩
            · rw [am_u_at, if_neg (fun z => by omega), am_u_at, if_neg (fun z => by omega), am_u_at, if_pos ⟨rfl, rfl⟩, show lfe T tl ct S * 33554432 / 33554432 = lfe T tl ct S by omega]
            · rw [am_u_at, if_neg (fun z => by omega), am_u_at, if_pos ⟨rfl, rfl⟩, show lfe T tl ct S * 33554432 / 8 % 4194304 = 0 by omega]; rfl
            · rw [am_u_at, if_pos ⟨rfl, rfl⟩, show lfe T tl ct S * 33554432 % 8 = 0 by omega]; rfl
          · obtain ⟨z1, z2, z3⟩ := g1 l' (by omega)
            refine ⟨?_, ?_, ?_⟩
            · rw [am_u_at, if_neg (fun z => by omega), am_u_at, if_neg (fun z => by omega), am_u_at, if_neg (fun z => by omega)]; exact z1
            · rw [am_u_at, if_neg (fun z => by omega), am_u_at, if_neg (fun z => by omega), am_u_at, if_neg (fun z => by omega)]; exact z2
            · rw [am_u_at, if_neg (fun z => by omega), am_u_at, if_neg (fun z => by omega), am_u_at, if_neg (fun z => by omega)]; exact z3)
          (by rw [am_u_ne (by omega), am_u_ne (by omega), am_u_ne (by omega)]; exact g2) (fun c j hcj hc2 => by
            rw [am_u_at, if_neg (fun z => by omega), am_u_at, if_neg (fun z => by omega), am_u_at, if_neg (fun z => by omega)]
            exact g3 c j hcj hc2)
        refine ⟨I', ?_, hP⟩
        refine bX9_findAll_86 (fun h => absurd h (by rw [nl_30, nn_lt (by omega) (by omega)]; omega)) (fun _ => ?_)
        refine bX9_findAll_93 o r13 (Nat.zero_le _) (Nat.zero_le _) (eX9_at (by omega) (by omega)) ?_
        refine bX9_findAll_103 a8 (nn_in (by omega) (by omega)) o r14 (Nat.zero_le _) (Nat.zero_le _) (eX9_at (by omega) (by omega)) ?_
        refine bX9_findAll_116 a9 (nn_in (by omega) (by omega)) o r15 (Nat.zero_le _) (Nat.zero_le _) (eX9_at (by omega) (by omega)) ?_
        refine bX9_findAll_128 a10 (nn_in (by omega) (by omega)) ?_
        rw [nn_nat (by omega), nn_s1]
        exact hW
    · intro I2 g1 g2 g3
      have e2 : I2 (m + 1) = I (m + 1) := by rw [← e1]; exact funext fun j => g3 _ j (fun z => by omega) (fun z => by omega)
      obtain ⟨I', hW, hP⟩ := ih (by omega) I2 (fun S' a b l hl => by
        by_cases he : S' = S
        · subst he
          rw [bB_eq Q T qc (yse T ty) tl ct (fbq F) (by omega)]
          exact g1 l hl
        · obtain ⟨z1, z2, z3⟩ := h1 S' a (by omega) l hl
          exact ⟨by rw [g3 _ _ (fun z => by omega) (fun z => by omega)]; exact z1, by rw [g3 _ _ (fun z => by omega) (fun z => by omega)]; exact z2, by rw [g3 _ _ (fun z => by omega) (fun z => by omega)]; exact z3⟩) (fun S' a b => by
        by_cases he : S' = S
        · subst he
          exact g2
        · rw [g3 _ _ (fun z => by omega) (fun z => he z.2)]; exact h2 S' a (by omega)) (fun c a1 a2 a3 a4 => by
        rw [← h3 c a1 a2 a3 a4]
        exact funext fun j => g3 c j (fun z => by omega) (fun z => by omega))
      refine ⟨I', ?_, hP⟩
      refine bX9_findAll_139 o r0 a1 (nn_in (k := 0) (by decide) (by decide)) (fun _ => ?_) (fun h => absurd (Int32.le_of_eq (show I2 (m + 1) 0 = nn Q by rw [e2]; exact hQ)) h)
      refine bX9_findAll_169 ?_
      refine aw_take 4 ?_
      rw [nn_s1]
      exact hW
    · intro I2 g1 g2 g3
      have e2 : I2 (m + 1) = I (m + 1) := by rw [← e1]; exact funext fun j => g3 _ j (fun z => by omega) (fun z => by omega)
      have hI : ¬ I2 (m + 1) (0 : Int32).toNatClampNeg ≤ nn q := by show ¬ I2 (m + 1) 0 ≤ nn q; rw [e2, hQ, nn_le (by omega) (by omega)]; omega
      by_cases hF : nn q = F
      · obtain ⟨I', hW, hP⟩ := ihq I2 (fun l hl => by
          have e : bq T qc (yse T ty) tl ct (fbq F) (bB Q T qc (yse T ty) tl ct (fbq F)) S l (q + 1) = bq T qc (yse T ty) tl ct (fbq F) (bB Q T qc (yse T ty) tl ct (fbq F)) S l q := by
            show (if (oks (yse T ty) (fbq F) q S && decide (qc q ≤ l)) = true then _ else _) = _
            rw [show oks (yse T ty) (fbq F) q S = false from by unfold oks fbq; rw [decide_eq_true hF]; rfl]; rfl
          rw [e]
          exact g1 l hl) g2 g3
        refine ⟨I', ?_, hP⟩
        refine bX9_findAll_139 o r0 a1 (nn_in (k := 0) (by decide) (by decide)) (fun h => absurd h hI) (fun _ => ?_)
        refine bX9_findAll_150 (fun _ => ?_) (fun h => absurd hF h)
        refine bX9_findAll_163 ?_
        rw [nn_s1]
        exact hW
      · obtain ⟨I3, hE, k1, k2⟩ := eX9_tries (d := d) (L := L) hm (by rw [e2]; exact hd) F h0 hS hqQ (decide_eq_false hF) g2 g1 (fun S' a b l hl => by
          obtain ⟨z1, z2, z3⟩ := h1 S' a b l hl
          exact ⟨by rw [g3 _ _ (fun z => by omega) (fun z => by omega)]; exact z1, by rw [g3 _ _ (fun z => by omega) (fun z => by omega)]; exact z2, by rw [g3 _ _ (fun z => by omega) (fun z => by omega)]; exact z3⟩)
        obtain ⟨I', hW, hP⟩ := ihq I3 k1 (by rw [k2 _ _ (fun z => by omega)]; exact g2) (fun c j a b => by rw [k2 c j a]; exact g3 c j a b)
        refine ⟨I', ?_, hP⟩
        refine bX9_findAll_139 o r0 a1 (nn_in (k := 0) (by decide) (by decide)) (fun h => absurd h hI) (fun _ => ?_)
        refine bX9_findAll_150 (fun h => absurd h hF) (fun _ => ?_)
        refine bX9_findAll_156 o (Nat.zero_le _) (Nat.zero_le _) hE ?_
        refine bX9_findAll_163 ?_
        rw [nn_s1]
        exact hW
end M2
