/-! THE TEXT'S TOKENS: what the class takes -/
section PU
variable (B : Nat → Nat) (n : Nat)
/-- the token at s is the word i -/
def wd (s i : Nat) : Bool := decide (kd B n s = 0 ∧ en B n s - s = tlen i) && (List.range (tlen i)).all (fun j => decide (nn (B (s + j)) = tbyte i j))
def nmb (s : Nat) : Bool := decide (kd B n s = 0 ∧ en B n s - s ≤ 6)
def pNum (lo hi s : Nat) : Except (Nat × Nat) (Nat × Int32) := if kd B n s = 1 then (if lo ≤ vl B n s ∧ vl B n s ≤ hi then .ok (nx B n s, nn (vl B n s)) else .error (2, s)) else .error (1, s)
def pSem (s : Nat) : Except (Nat × Nat) (Nat × Int32) := if kd B n s = 2 then .ok (nx B n s, 1) else .error (1, s)
def pWord (i s : Nat) : Except (Nat × Nat) (Nat × Int32) := if wd B n s i = true then .ok (nx B n s, 1) else .error (1, s)
def pKnown (v : Int32) (s : Nat) : Except (Nat × Nat) (Nat × Int32) := if nmb B n s = true then (if v = -1 then .error (3, s) else .ok (nx B n s, v)) else .error (1, s)
end PU
/-- how the class stands after it took something -/
def cOut (B : Nat → Nat) (n : Nat) (I I' : am_I) (L L' : am_L) (o : Except (Nat × Nat) (Nat × Int32)) : Prop := match o with
  | .ok (s', _) => tkC B n I' L' s' ∧ frC I I' L L'
  | .error (c, p) => (I' 81 2 = nn c ∧ I' 81 3 = nn p) ∧ (∀ k, k ≠ 81 → I' k = I k) ∧ (∀ j, j ≠ 2 → j ≠ 3 → j ≠ 7 → j ≠ 8 → j ≠ 9 → j ≠ 11 → I' 81 j = I 81 j) ∧ (∀ k, k ≠ 81 → L' k = L k) ∧ ∀ j, j ≠ 10 → L' 81 j = L 81 j
theorem kd_le (B : Nat → Nat) (n s : Nat) : kd B n s ≤ 4 := by
  unfold kd kc
  split
  · omega
  · split
    · omega
    · split
      · omega
      · split <;> omega
theorem kd0_in {B : Nat → Nat} {n s : Nat} (h : kd B n s = 0) : s < n ∧ en B n s = scn B n isL s ∧ isL (B s) = true := by
  unfold kd at h
  by_cases h1 : n ≤ s
  · rw [if_pos h1] at h; omega
  · rw [if_neg h1] at h
    have hl : isL (B s) = true := by
      cases hx : isL (B s)
      · unfold kc at h
        rw [hx, if_neg (by decide)] at h
        by_cases hy : isD (B s) = true
        · rw [if_pos hy] at h; omega
        · rw [if_neg hy] at h
          by_cases hz : B s = 59
          · rw [if_pos hz] at h; omega
          · rw [if_neg hz] at h; omega
      · rfl
    exact ⟨by omega, by unfold en; rw [if_neg h1, if_pos hl], hl⟩
theorem ncap_in {v x lo hi : Nat} (h : ncap v x) (hh : hi < 100000) : (lo ≤ x ∧ x ≤ hi) ↔ (lo ≤ v ∧ v ≤ hi) := by
  obtain ⟨h1, h2, h3⟩ := h
  by_cases hv : v < 100000
  · rw [h1 hv]
  · have := h2 (by omega)
    constructor <;> intro z <;> omega
theorem rcB.frC {I I' : am_I} {L L' : am_L} {B : Nat → Nat} {n : Nat} (h : rcB I B n) (f : frC I I' L L') : rcB I' B n :=
  ⟨h.1, (f.2.1 1 (by decide) (by decide) (by decide) (by decide)).trans h.2.1, fun j hj => ⟨(h.2.2 j hj).1, by rw [f.1 82 (by decide)]; exact (h.2.2 j hj).2⟩⟩
section TK4
variable {d mc ms : Nat} {Γ : am_G} {I : am_I} {L : am_L} {B : Nat → Nat} {n s : Nat}
theorem eX3_isWord (ro : am_ob Γ 81 3) (g0 : Γ.2.2 81 0 = some 82) (ra : am_ar Γ 82 2 700 0) (hB : rcB I B n) (ht : tkC B n I L s) {i : Nat} (hi : i < am_sn) : am_E m_X3_isWord (d + 4) 0 0 [.ref 81, .retAddr i] Γ I L (.inl (some (.int (bi (wd B n s i))))) I L := by
  obtain ⟨h7, hn, hb⟩ := id hB
  obtain ⟨sn, t8, t7, t9, -, -⟩ := id ht
  have tl := tlen_lt i hi
  have el := en_le (B := B) sn
  have hk4 := kd_le B n s
  refine am_ofE rfl rfl rfl (Nat.le_of_ble_eq_true rfl) ?_
  refine bX3_isWord_0 ro (fun h => ?_) (fun h => ?_)
  · refine bX3_isWord_23 ?_
    rw [t7, nl_0, nn_eq (by omega) (by omega)] at h
    exact am_R_e (by unfold wd; rw [decide_eq_false (fun z => h z.1), Bool.false_and]; rfl) rfl rfl
  · rw [t7, nl_0, nn_eq (by omega) (by omega)] at h
    obtain ⟨k1, k2, k3⟩ := kd0_in h
    have e98 : I 81 9 - I 81 8 = nn (en B n s - s) := by rw [t8, t9, nn_sub el.1]
    refine bX3_isWord_7 ro hi (Nat.zero_le _) (Nat.zero_le _) (eJ0_length hi) ?_
    rw [e98]
    refine bX3_isWord_20 (fun h2 => ?_) (fun h2 => ?_)
    · rw [nn_eq (by omega) (by omega)] at h2
      refine bX3_isWord_25 ?_
      have body : ∀ j, j < tlen i → B (s + j) < 128 ∧ I 82 (nn (s + j)).toNatClampNeg = nn (B (s + j)) := by
        intro j hj
        have hin := scn_in (B := B) (n := n) (p := isL) (s := s) (j := s + j) (by omega) (by omega)
        have hr := isL_b.mp hin
        obtain ⟨c1, c2⟩ := hb (s + j) (by omega)
        exact ⟨by omega, by rw [nn_nat (by omega), c2, (cb _ c1).2.2.2.2 (by omega)]⟩
      refine nn_loop (fun j => (∀ i', i' < j → nn (B (s + i')) = tbyte i i') → am_W m_X3_isWord (d + 4) 0 0 false 0 0 27 [(0, .ref 81), (1, .retAddr i), (2, .int (nn j))] [] Γ I L (am_R (.inl (some (.int (bi (wd B n s i))))) I L)) (tlen i) (fun hall => ?_) (fun j hj ih h0 => ?_) (fun i' hi' => absurd hi' (Nat.not_lt_zero i'))
      · refine bX3_isWord_27 hi (Nat.zero_le _) (Nat.zero_le _) (eJ0_length hi) ?_
        refine bX3_isWord_32 (fun _ => ?_) (fun h => absurd (Int32.le_of_eq rfl) h)
        refine bX3_isWord_62 ?_
        refine am_R_e ?_ rfl rfl
        have : wd B n s i = true := by
          unfold wd
          rw [decide_eq_true ⟨h, h2⟩, Bool.true_and, List.all_eq_true]
          intro j hj
          exact decide_eq_true (hall j (List.mem_range.mp hj))
        rw [this]
        rfl
      · obtain ⟨b1, b2⟩ := body j hj
        refine bX3_isWord_27 hi (Nat.zero_le _) (Nat.zero_le _) (eJ0_length hi) ?_
        refine bX3_isWord_32 (fun h => absurd h (by rw [nn_le (by omega) (by omega)]; omega)) (fun _ => ?_)
        have e8j : I 81 8 + nn j = nn (s + j) := by rw [t8, nn_add]
        refine bX3_isWord_35 ro g0 ra (by rw [e8j]; exact nn_in (by omega) (by omega)) hi (Nat.zero_le _) (Nat.zero_le _) (eJ0_charAt hi hj) ?_
        rw [e8j, b2]
        refine bX3_isWord_51 (fun h3 => ?_) (fun h3 => ?_)
        · refine bX3_isWord_56 ?_
          rw [nn_s1]
          refine ih (fun i' hi' => ?_)
          by_cases hc : i' < j
          · exact h0 i' hc
          · obtain rfl : i' = j := by omega
            exact h3
        · refine bX3_isWord_54 ?_
          refine am_R_e ?_ rfl rfl
          have : wd B n s i = false := by
            unfold wd
            cases hx : (List.range (tlen i)).all (fun j => decide (nn (B (s + j)) = tbyte i j))
            · rw [Bool.and_false]
            · rw [List.all_eq_true] at hx
              exact absurd (of_decide_eq_true (hx j (List.mem_range.mpr hj))) h3
          rw [this]
          rfl
    · rw [nn_eq (by omega) (by omega)] at h2
      refine bX3_isWord_23 ?_
      exact am_R_e (by unfold wd; rw [decide_eq_false (fun z => h2 z.2), Bool.false_and]; rfl) rfl rfl
theorem eX3_fail (ro : am_ob Γ 81 3) (ht : tkC B n I L s) (c : Nat) : am_E m_X3_fail d 0 0 [.ref 81, .int (nn c)] Γ I L (.inl (some (.int 0))) (am_u (am_u I 81 2 (nn c)) 81 3 (nn s)) L ∧ cOut B n I (am_u (am_u I 81 2 (nn c)) 81 3 (nn s)) L L (.error (c, s)) := by
  refine ⟨am_ofE rfl rfl rfl (Nat.le_of_ble_eq_true rfl) ?_, ⟨by rw [am_u_at, if_neg (by decide), am_u_at, if_pos ⟨rfl, rfl⟩], by rw [am_u_at, if_pos ⟨rfl, rfl⟩]⟩, fun k hk => by rw [am_u_ne hk, am_u_ne hk], fun j a b _ _ _ _ => by rw [am_u_at, if_neg (fun z => b z.2), am_u_at, if_neg (fun z => a z.2)], fun _ _ => rfl, fun _ _ => rfl⟩
  refine bX3_fail_0 ro ?_
  rw [show am_u I 81 2 (nn c) 81 8 = nn s from by rw [am_u_at, if_neg (by decide)]; exact ht.2.1]
  exact ⟨rfl, rfl, rfl⟩
theorem eX3_isName (ro : am_ob Γ 81 3) (hB : rcB I B n) (ht : tkC B n I L s) : am_E m_X3_isName d 0 0 [.ref 81] Γ I L (.inl (some (.int (bi (nmb B n s))))) I L := by
  obtain ⟨h7, hn, hb⟩ := id hB
  obtain ⟨sn, t8, t7, t9, -, -⟩ := id ht
  have el := en_le (B := B) sn
  have hk4 := kd_le B n s
  refine am_ofE rfl rfl rfl (Nat.le_of_ble_eq_true rfl) ?_
  have no : ¬ (kd B n s = 0 ∧ en B n s - s ≤ 6) → am_W m_X3_isName d 0 0 false 0 0 25 [(0, .ref 81)] [] Γ I L (am_R (.inl (some (.int (bi (nmb B n s))))) I L) := by
    intro h
    refine bX3_isName_25 ?_
    refine bX3_isName_26 rfl ?_
    exact am_R_e (by unfold nmb; rw [decide_eq_false h]; rfl) rfl rfl
  refine bX3_isName_0 ro (fun h => ?_) (fun h => ?_)
  · rw [t7, nl_0, nn_eq (by omega) (by omega)] at h
    exact no (fun z => h z.1)
  · rw [t7, nl_0, nn_eq (by omega) (by omega)] at h
    have e98 : I 81 9 - I 81 8 = nn (en B n s - s) := by rw [t8, t9, nn_sub el.1]
    have l6 : (6 < nn (en B n s - s)) ↔ 6 < en B n s - s := nn_lt (a := 6) (by decide) (by omega)
    refine bX3_isName_7 ro (fun h2 => ?_) (fun h2 => ?_)
    · rw [e98, l6] at h2
      exact no (fun z => by omega)
    · rw [e98, l6] at h2
      refine bX3_isName_21 ?_
      refine bX3_isName_26 rfl ?_
      exact am_R_e (by unfold nmb; rw [decide_eq_true ⟨h, by omega⟩]; rfl) rfl rfl
/-- after a fall the class answers 0, else it goes on -/
theorem eX3_go (ro : am_ob Γ 81 3) (g0 : Γ.2.2 81 0 = some 82) (ra : am_ar Γ 82 2 700 0) (hB : rcB I B n) (ht : tkC B n I L s) : ∃ I' L', am_E m_X3_advance (d + 1) 0 0 [.ref 81] Γ I L (.inl none) I' L' ∧ tkC B n I' L' (nx B n s) ∧ frC I I' L L' :=
  eX3_advance ro g0 ra hB ht.2.2.2.1 (en_le ht.1).2
theorem eX3_takeWord (ro : am_ob Γ 81 3) (g0 : Γ.2.2 81 0 = some 82) (ra : am_ar Γ 82 2 700 0) (hB : rcB I B n) (ht : tkC B n I L s) {i : Nat} (hi : i < am_sn) : ∃ I' L', am_E m_X3_takeWord (d + 5) 0 0 [.ref 81, .retAddr i] Γ I L (.inl (some (.int (bi (wd B n s i))))) I' L' ∧ cOut B n I I' L L' (pWord B n i s) := by
  refine am_ofX rfl rfl rfl (Nat.le_of_ble_eq_true rfl) ?_
  cases hw : wd B n s i
  · obtain ⟨f1, f2⟩ := eX3_fail (d := d + 4) (Γ := Γ) ro ht 1
    refine ⟨_, L, ?_, by unfold pWord; rw [hw, if_neg (by decide)]; exact f2⟩
    refine bX3_takeWord_0 ro (Nat.zero_le _) (Nat.zero_le _) (eX3_isWord ro g0 ra hB ht hi) ?_
    rw [hw]
    refine bX3_takeWord_5 (fun h => absurd rfl h) (fun _ => ?_)
    refine bX3_takeWord_8 ro (Nat.zero_le _) (Nat.zero_le _) f1 ?_
    refine bX3_takeWord_13 rfl ?_
    exact ⟨rfl, rfl, rfl⟩
  · obtain ⟨I', L', f1, f2, f3⟩ := eX3_go (d := d + 3) ro g0 ra hB ht
    refine ⟨I', L', ?_, by unfold pWord; rw [hw, if_pos rfl]; exact ⟨f2, f3⟩⟩
    refine bX3_takeWord_0 ro (Nat.zero_le _) (Nat.zero_le _) (eX3_isWord ro g0 ra hB ht hi) ?_
    rw [hw]
    refine bX3_takeWord_5 (fun _ => ?_) (fun h => absurd h (by decide))
    refine bX3_takeWord_14 ro (Nat.zero_le _) (Nat.zero_le _) f1 ?_
    refine bX3_takeWord_18 ?_
    exact ⟨rfl, rfl, rfl⟩
theorem eX3_takeSemicolon (ro : am_ob Γ 81 3) (g0 : Γ.2.2 81 0 = some 82) (ra : am_ar Γ 82 2 700 0) (hB : rcB I B n) (ht : tkC B n I L s) : ∃ I' L', am_E m_X3_takeSemicolon (d + 2) 0 0 [.ref 81] Γ I L (.inl (some (.int (bi (decide (kd B n s = 2)))))) I' L' ∧ cOut B n I I' L L' (pSem B n s) := by
  have hk4 := kd_le B n s
  have t7 := ht.2.2.1
  refine am_ofX rfl rfl rfl (Nat.le_of_ble_eq_true rfl) ?_
  have l2 : (I 81 7 = 2) ↔ kd B n s = 2 := by rw [t7]; exact nn_eq (b := 2) (by omega) (by decide)
  by_cases hw : kd B n s = 2
  · obtain ⟨I', L', f1, f2, f3⟩ := eX3_go (d := d) ro g0 ra hB ht
    refine ⟨I', L', ?_, by unfold pSem; rw [if_pos hw]; exact ⟨f2, f3⟩⟩
    refine bX3_takeSemicolon_0 ro (fun _ => ?_) (fun h => absurd (l2.mpr hw) h)
    refine bX3_takeSemicolon_14 ro (Nat.zero_le _) (Nat.zero_le _) f1 ?_
    refine bX3_takeSemicolon_18 ?_
    exact am_R_e (by rw [decide_eq_true hw]; rfl) rfl rfl
  · obtain ⟨f1, f2⟩ := eX3_fail (d := d + 1) (Γ := Γ) ro ht 1
    refine ⟨_, L, ?_, by unfold pSem; rw [if_neg hw]; exact f2⟩
    refine bX3_takeSemicolon_0 ro (fun h => absurd (l2.mp h) hw) (fun _ => ?_)
    refine bX3_takeSemicolon_8 ro (Nat.zero_le _) (Nat.zero_le _) f1 ?_
    refine bX3_takeSemicolon_13 rfl ?_
    exact am_R_e (by rw [decide_eq_false hw]; rfl) rfl rfl
theorem eX3_isNumberIn (ro : am_ob Γ 81 3) (ht : tkC B n I L s) {lo hi : Nat} (hh : hi < 100000) (hl : lo < 100000) :
    (kd B n s = 1 ∧ lo ≤ vl B n s ∧ vl B n s ≤ hi → am_E m_X3_isNumberIn (d + 1) 0 0 [.ref 81, .int (nn lo), .int (nn hi)] Γ I L (.inl (some (.int 1))) I L ∧ I 81 11 = nn (vl B n s)) ∧
    (∀ e, pNum B n lo hi s = .error e → ∃ I', am_E m_X3_isNumberIn (d + 1) 0 0 [.ref 81, .int (nn lo), .int (nn hi)] Γ I L (.inl (some (.int 0))) I' L ∧ cOut B n I I' L L (.error e)) := by
  have hk4 := kd_le B n s
  have t7 := ht.2.2.1
  have l1 : (I 81 7 = 1) ↔ kd B n s = 1 := by rw [t7]; exact nn_eq (b := 1) (by omega) (by decide)
  refine ⟨fun ⟨a1, a2, a3⟩ => ?_, fun e he => ?_⟩
  · obtain ⟨x, x1, x2⟩ := ht.2.2.2.2.2 a1
    have xx := x2.1 (by omega)
    subst xx
    refine ⟨am_ofE rfl rfl rfl (Nat.le_of_ble_eq_true rfl) ?_, x1⟩
    refine bX3_isNumberIn_0 ro (fun _ => ?_) (fun h => absurd (l1.mpr a1) h)
    refine bX3_isNumberIn_14 ro (fun h => absurd h (by rw [x1, nn_lt (by omega) (by omega)]; omega)) (fun _ => ?_)
    refine bX3_isNumberIn_22 ro (fun _ => ?_) (fun h => absurd (by rw [x1, nn_le (by omega) (by omega)]; exact a3) h)
    refine bX3_isNumberIn_38 ?_
    refine bX3_isNumberIn_43 rfl ?_
    exact ⟨rfl, rfl, rfl⟩
  · unfold pNum at he
    by_cases a1 : kd B n s = 1
    · rw [if_pos a1] at he
      by_cases a2 : lo ≤ vl B n s ∧ vl B n s ≤ hi
      · rw [if_pos a2] at he
        exact absurd he (by intro z; cases z)
      · rw [if_neg a2] at he
        cases he
        obtain ⟨x, x1, x2⟩ := ht.2.2.2.2.2 a1
        have a3 := fun z => a2 ((ncap_in x2 hh).mp z)
        have x3 := x2.2.2
        obtain ⟨f1, f2⟩ := eX3_fail (d := d) (Γ := Γ) ro ht 2
        refine ⟨_, am_ofE rfl rfl rfl (Nat.le_of_ble_eq_true rfl) ?_, f2⟩
        have fin : am_W m_X3_isNumberIn (d + 1) 0 0 false 0 0 30 [(0, .ref 81), (1, .int (nn lo)), (2, .int (nn hi))] [] Γ I L (am_R (.inl (some (.int 0))) (am_u (am_u I 81 2 (nn 2)) 81 3 (nn s)) L) := by
          refine bX3_isNumberIn_30 ro (Nat.zero_le _) (Nat.zero_le _) f1 ?_
          refine bX3_isNumberIn_35 (fun _ => ?_) (fun h => absurd rfl h)
          refine bX3_isNumberIn_42 ?_
          refine bX3_isNumberIn_43 rfl ?_
          exact ⟨rfl, rfl, rfl⟩
        refine bX3_isNumberIn_0 ro (fun _ => ?_) (fun h => absurd (l1.mpr a1) h)
        refine bX3_isNumberIn_14 ro (fun _ => fin) (fun h => ?_)
        rw [x1, nn_lt (by omega) (by omega)] at h
        refine bX3_isNumberIn_22 ro (fun h2 => ?_) (fun _ => fin)
        rw [x1, nn_le (by omega) (by omega)] at h2
        exact absurd ⟨by omega, h2⟩ a3
    · rw [if_neg a1] at he
      cases he
      obtain ⟨f1, f2⟩ := eX3_fail (d := d) (Γ := Γ) ro ht 1
      refine ⟨_, am_ofE rfl rfl rfl (Nat.le_of_ble_eq_true rfl) ?_, f2⟩
      refine bX3_isNumberIn_0 ro (fun h => absurd (l1.mp h) a1) (fun _ => ?_)
      refine bX3_isNumberIn_8 ro (Nat.zero_le _) (Nat.zero_le _) f1 ?_
      refine bX3_isNumberIn_13 rfl ?_
      exact ⟨rfl, rfl, rfl⟩
def rOut (o : Except (Nat × Nat) (Nat × Int32)) : Int32 := match o with
  | .ok (_, v) => v
  | .error _ => -1
theorem eX3_takeNumber (ro : am_ob Γ 81 3) (g0 : Γ.2.2 81 0 = some 82) (ra : am_ar Γ 82 2 700 0) (hB : rcB I B n) (ht : tkC B n I L s) {lo hi : Nat} (hh : hi < 100000) (hl : lo < 100000) : ∃ I' L', am_E m_X3_takeNumber (d + 2) 0 0 [.ref 81, .int (nn lo), .int (nn hi)] Γ I L (.inl (some (.int (rOut (pNum B n lo hi s))))) I' L' ∧ cOut B n I I' L L' (pNum B n lo hi s) := by
  obtain ⟨g1, g2⟩ := eX3_isNumberIn (d := d) (Γ := Γ) ro ht hh hl
  refine am_ofX rfl rfl rfl (Nat.le_of_ble_eq_true rfl) ?_
  by_cases ha : kd B n s = 1 ∧ lo ≤ vl B n s ∧ vl B n s ≤ hi
  · have ep : pNum B n lo hi s = .ok (nx B n s, nn (vl B n s)) := by unfold pNum; rw [if_pos ha.1, if_pos ha.2]
    obtain ⟨f0, fx⟩ := g1 ha
    obtain ⟨I', L', f1, f2, f3⟩ := eX3_go (d := d) ro g0 ra hB ht
    rw [ep]
    refine ⟨I', L', ?_, f2, f3⟩
    refine bX3_takeNumber_0 ro (Nat.zero_le _) (Nat.zero_le _) f0 ?_
    refine bX3_takeNumber_6 (fun _ => ?_) (fun h => absurd h (by decide))
    refine bX3_takeNumber_11 ro (Nat.zero_le _) (Nat.zero_le _) f1 ?_
    refine bX3_takeNumber_20 ?_
    exact am_R_e fx rfl rfl
  · obtain ⟨e, he⟩ : ∃ e, pNum B n lo hi s = .error e := by
      unfold pNum
      by_cases a1 : kd B n s = 1
      · rw [if_pos a1, if_neg (fun z => ha ⟨a1, z⟩)]; exact ⟨_, rfl⟩
      · rw [if_neg a1]; exact ⟨_, rfl⟩
    obtain ⟨I', f1, f2⟩ := g2 e he
    rw [he]
    refine ⟨I', L, ?_, f2⟩
    refine bX3_takeNumber_0 ro (Nat.zero_le _) (Nat.zero_le _) f1 ?_
    refine bX3_takeNumber_6 (fun h => absurd rfl h) (fun _ => ?_)
    refine bX3_takeNumber_9 ?_
    exact ⟨rfl, rfl, rfl⟩
end TK4
