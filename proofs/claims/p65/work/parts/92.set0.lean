/-! THE FIRST SETUP'S TEXT PARSES -/
theorem scn_is {B : Nat → Nat} {n s e : Nat} {p : Nat → Bool} (h1 : s ≤ e) (h2 : e ≤ n) (h3 : ∀ i, i < e - s → p (B (s + i)) = true) (h4 : e < n → p (B e) = false) : scn B n p s = e := by
  unfold scn
  by_cases he : e < n
  · rw [ffs_eq (k := e - s) (fun i hi => by rw [h3 i hi]; rfl) (by rw [show s + (e - s) = e by omega, h4 he]; rfl) (by omega)]
    omega
  · rw [ffs_none (fun i hi => by rw [h3 i (by omega)]; rfl)]
    omega
def tkp (k c : Nat) : Bool := if k = 0 then isL c else if k = 1 then isD c else false
def tkb (s e s' k : Nat) : Bool := decide (s < e ∧ e ≤ s' ∧ s' ≤ 229 ∧ kc (B0 s) = k ∧ k ≤ 2 ∧ (k = 2 → e = s + 1)) && (List.range (e - s)).all (fun i => k == 2 || tkp k (B0 (s + i))) && (decide (e = 229) || !tkp k (B0 e)) && (List.range (s' - e)).all (fun i => decide (B0 (e + i) = 32)) && (decide (s' = 229) || !decide (B0 s' = 32))
theorem tk_is {s e s' k : Nat} (h : tkb s e s' k = true) : kd B0 229 s = k ∧ en B0 229 s = e ∧ nx B0 229 s = s' := by
  unfold tkb at h
  simp only [Bool.and_eq_true, decide_eq_true_eq, List.all_eq_true, Bool.or_eq_true, List.mem_range, Bool.not_eq_true', decide_eq_false_iff_not, beq_iff_eq] at h
  obtain ⟨⟨⟨⟨⟨a1, a2, a3, a4, a5, a6⟩, b1⟩, b2⟩, b3⟩, b4⟩ := h
  have hk : kd B0 229 s = k := by
    unfold kd
    rw [if_neg (by omega), a4]
  have he : en B0 229 s = e := by
    unfold en
    rw [if_neg (by omega)]
    unfold kc at a4
    by_cases l : isL (B0 s) = true
    · rw [if_pos l]
      rw [if_pos l] at a4
      subst a4
      exact scn_is (by omega) (by omega) (fun i hi => (b1 i hi).resolve_left (by decide)) (fun h => b2.resolve_left (by omega))
    · rw [if_neg l]
      rw [if_neg l] at a4
      by_cases g : isD (B0 s) = true
      · rw [if_pos g]
        rw [if_pos g] at a4
        subst a4
        exact scn_is (by omega) (by omega) (fun i hi => (b1 i hi).resolve_left (by decide)) (fun h => b2.resolve_left (by omega))
      · rw [if_neg g]
        rw [if_neg g] at a4
        by_cases c : B0 s = 59
        · rw [if_pos c] at a4
          exact (a6 a4.symm).symm
        · rw [if_neg c] at a4
          omega
  refine ⟨hk, he, ?_⟩
  unfold nx
  rw [he]
  unfold skp
  exact scn_is (by omega) (by omega) (fun i hi => decide_eq_true (b3 i hi)) (fun h => decide_eq_false (b4.resolve_left (by omega)))
theorem wd_is {s e i : Nat} (h0 : kd B0 229 s = 0) (h1 : en B0 229 s = e) {r : Bool} (h2 : (decide (e - s = tlen i) && (List.range (tlen i)).all (fun j => decide (nn (B0 (s + j)) = tbyte i j))) = r) : wd B0 229 s i = r := by
  unfold wd
  rw [h0, h1]
  simpa using h2
theorem num_is {s e s' lo hi v : Nat} (h : kd B0 229 s = 1 ∧ en B0 229 s = e ∧ nx B0 229 s = s') (hv : vlk B0 s (e - s) = v) (h1 : lo ≤ v) (h2 : v ≤ hi) : pNum B0 229 lo hi s = .ok (s', nn v) := by
  have e2 : vl B0 229 s = v := by unfold vl; rw [h.2.1]; exact hv
  unfold pNum
  rw [if_pos h.1, e2, if_pos ⟨h1, h2⟩, h.2.2]
theorem sem_is {s e s' : Nat} (h : kd B0 229 s = 2 ∧ en B0 229 s = e ∧ nx B0 229 s = s') : pSem B0 229 s = .ok (s', 1) := by
  unfold pSem
  rw [if_pos h.1, h.2.2]
theorem new_is {s e s' : Nat} {v : Int32} (h : kd B0 229 s = 0 ∧ en B0 229 s = e ∧ nx B0 229 s = s') (h6 : e - s ≤ 6) (hv : v = -1) : pNew B0 229 v s = .ok (s, 1) := by
  unfold pNew nmb
  rw [if_pos (decide_eq_true ⟨h.1, by rw [h.2.1]; exact h6⟩), if_pos hv]
theorem kn_is {s e s' : Nat} {v : Int32} (h : kd B0 229 s = 0 ∧ en B0 229 s = e ∧ nx B0 229 s = s') (h6 : e - s ≤ 6) (hv : v ≠ -1) : pKnown B0 229 v s = .ok (s', v) := by
  unfold pKnown nmb
  rw [if_pos (decide_eq_true ⟨h.1, by rw [h.2.1]; exact h6⟩), if_neg hv, h.2.2]
theorem bldW_fr (w : Nat → Int32) {g j : Nat} (h : j < 132 + g * 94 + 18 ∨ 132 + g * 94 + 94 ≤ j) : bldW w g j = w j := by
  by_cases hx : ∃ w', bldR w g w'
  · obtain ⟨w', hw⟩ := hx
    rw [bldW_eq hw]
    obtain ⟨e, a1, a2, a3, a4, a5⟩ := hw
    exact a5 j (by omega) (by omega)
  · unfold bldW
    rw [dif_neg hx]
theorem tk_0 : kd B0 229 0 = 0 ∧ en B0 229 0 = 5 ∧ nx B0 229 0 = 5 := tk_is (by decide +kernel)
theorem tk_5 : kd B0 229 5 = 2 ∧ en B0 229 5 = 6 ∧ nx B0 229 5 = 7 := tk_is (by decide +kernel)
theorem tk_7 : kd B0 229 7 = 0 ∧ en B0 229 7 = 10 ∧ nx B0 229 7 = 11 := tk_is (by decide +kernel)
theorem tk_11 : kd B0 229 11 = 0 ∧ en B0 229 11 = 17 ∧ nx B0 229 11 = 18 := tk_is (by decide +kernel)
theorem tk_18 : kd B0 229 18 = 1 ∧ en B0 229 18 = 19 ∧ nx B0 229 18 = 19 := tk_is (by decide +kernel)
theorem tk_19 : kd B0 229 19 = 2 ∧ en B0 229 19 = 20 ∧ nx B0 229 19 = 21 := tk_is (by decide +kernel)
theorem tk_21 : kd B0 229 21 = 0 ∧ en B0 229 21 = 24 ∧ nx B0 229 21 = 25 := tk_is (by decide +kernel)
theorem tk_25 : kd B0 229 25 = 0 ∧ en B0 229 25 = 29 ∧ nx B0 229 25 = 30 := tk_is (by decide +kernel)
theorem tk_30 : kd B0 229 30 = 1 ∧ en B0 229 30 = 31 ∧ nx B0 229 30 = 31 := tk_is (by decide +kernel)
theorem tk_31 : kd B0 229 31 = 2 ∧ en B0 229 31 = 32 ∧ nx B0 229 31 = 33 := tk_is (by decide +kernel)
theorem tk_33 : kd B0 229 33 = 0 ∧ en B0 229 33 = 36 ∧ nx B0 229 33 = 37 := tk_is (by decide +kernel)
theorem tk_37 : kd B0 229 37 = 0 ∧ en B0 229 37 = 42 ∧ nx B0 229 37 = 43 := tk_is (by decide +kernel)
theorem tk_43 : kd B0 229 43 = 1 ∧ en B0 229 43 = 44 ∧ nx B0 229 43 = 44 := tk_is (by decide +kernel)
theorem tk_44 : kd B0 229 44 = 2 ∧ en B0 229 44 = 45 ∧ nx B0 229 44 = 46 := tk_is (by decide +kernel)
theorem tk_46 : kd B0 229 46 = 0 ∧ en B0 229 46 = 50 ∧ nx B0 229 46 = 51 := tk_is (by decide +kernel)
theorem tk_51 : kd B0 229 51 = 0 ∧ en B0 229 51 = 57 ∧ nx B0 229 51 = 58 := tk_is (by decide +kernel)
theorem tk_58 : kd B0 229 58 = 1 ∧ en B0 229 58 = 59 ∧ nx B0 229 58 = 59 := tk_is (by decide +kernel)
theorem tk_59 : kd B0 229 59 = 2 ∧ en B0 229 59 = 60 ∧ nx B0 229 59 = 61 := tk_is (by decide +kernel)
theorem tk_61 : kd B0 229 61 = 0 ∧ en B0 229 61 = 65 ∧ nx B0 229 61 = 66 := tk_is (by decide +kernel)
theorem tk_66 : kd B0 229 66 = 0 ∧ en B0 229 66 = 70 ∧ nx B0 229 66 = 71 := tk_is (by decide +kernel)
theorem tk_71 : kd B0 229 71 = 1 ∧ en B0 229 71 = 72 ∧ nx B0 229 71 = 73 := tk_is (by decide +kernel)
theorem tk_73 : kd B0 229 73 = 0 ∧ en B0 229 73 = 79 ∧ nx B0 229 73 = 80 := tk_is (by decide +kernel)
theorem tk_80 : kd B0 229 80 = 0 ∧ en B0 229 80 = 84 ∧ nx B0 229 80 = 84 := tk_is (by decide +kernel)
theorem tk_84 : kd B0 229 84 = 2 ∧ en B0 229 84 = 85 ∧ nx B0 229 84 = 86 := tk_is (by decide +kernel)
theorem tk_86 : kd B0 229 86 = 0 ∧ en B0 229 86 = 90 ∧ nx B0 229 86 = 91 := tk_is (by decide +kernel)
theorem tk_91 : kd B0 229 91 = 0 ∧ en B0 229 91 = 96 ∧ nx B0 229 91 = 97 := tk_is (by decide +kernel)
theorem tk_97 : kd B0 229 97 = 1 ∧ en B0 229 97 = 98 ∧ nx B0 229 97 = 99 := tk_is (by decide +kernel)
theorem tk_99 : kd B0 229 99 = 0 ∧ en B0 229 99 = 105 ∧ nx B0 229 99 = 106 := tk_is (by decide +kernel)
theorem tk_106 : kd B0 229 106 = 0 ∧ en B0 229 106 = 111 ∧ nx B0 229 106 = 111 := tk_is (by decide +kernel)
theorem tk_111 : kd B0 229 111 = 2 ∧ en B0 229 111 = 112 ∧ nx B0 229 111 = 113 := tk_is (by decide +kernel)
theorem tk_113 : kd B0 229 113 = 0 ∧ en B0 229 113 = 117 ∧ nx B0 229 113 = 118 := tk_is (by decide +kernel)
theorem tk_118 : kd B0 229 118 = 0 ∧ en B0 229 118 = 123 ∧ nx B0 229 118 = 124 := tk_is (by decide +kernel)
theorem tk_124 : kd B0 229 124 = 1 ∧ en B0 229 124 = 125 ∧ nx B0 229 124 = 126 := tk_is (by decide +kernel)
theorem tk_126 : kd B0 229 126 = 0 ∧ en B0 229 126 = 132 ∧ nx B0 229 126 = 133 := tk_is (by decide +kernel)
theorem tk_133 : kd B0 229 133 = 0 ∧ en B0 229 133 = 137 ∧ nx B0 229 133 = 138 := tk_is (by decide +kernel)
theorem tk_138 : kd B0 229 138 = 0 ∧ en B0 229 138 = 143 ∧ nx B0 229 138 = 143 := tk_is (by decide +kernel)
theorem tk_143 : kd B0 229 143 = 2 ∧ en B0 229 143 = 144 ∧ nx B0 229 143 = 145 := tk_is (by decide +kernel)
theorem tk_145 : kd B0 229 145 = 0 ∧ en B0 229 145 = 149 ∧ nx B0 229 145 = 150 := tk_is (by decide +kernel)
theorem tk_150 : kd B0 229 150 = 0 ∧ en B0 229 150 = 154 ∧ nx B0 229 150 = 155 := tk_is (by decide +kernel)
theorem tk_155 : kd B0 229 155 = 1 ∧ en B0 229 155 = 156 ∧ nx B0 229 155 = 157 := tk_is (by decide +kernel)
theorem tk_157 : kd B0 229 157 = 0 ∧ en B0 229 157 = 162 ∧ nx B0 229 157 = 162 := tk_is (by decide +kernel)
theorem tk_162 : kd B0 229 162 = 2 ∧ en B0 229 162 = 163 ∧ nx B0 229 162 = 164 := tk_is (by decide +kernel)
theorem tk_164 : kd B0 229 164 = 0 ∧ en B0 229 164 = 168 ∧ nx B0 229 164 = 169 := tk_is (by decide +kernel)
theorem tk_169 : kd B0 229 169 = 0 ∧ en B0 229 169 = 174 ∧ nx B0 229 169 = 175 := tk_is (by decide +kernel)
theorem tk_175 : kd B0 229 175 = 1 ∧ en B0 229 175 = 176 ∧ nx B0 229 175 = 177 := tk_is (by decide +kernel)
theorem tk_177 : kd B0 229 177 = 1 ∧ en B0 229 177 = 179 ∧ nx B0 229 177 = 180 := tk_is (by decide +kernel)
theorem tk_180 : kd B0 229 180 = 1 ∧ en B0 229 180 = 181 ∧ nx B0 229 180 = 182 := tk_is (by decide +kernel)
theorem tk_182 : kd B0 229 182 = 1 ∧ en B0 229 182 = 184 ∧ nx B0 229 182 = 185 := tk_is (by decide +kernel)
theorem tk_185 : kd B0 229 185 = 1 ∧ en B0 229 185 = 187 ∧ nx B0 229 185 = 188 := tk_is (by decide +kernel)
theorem tk_188 : kd B0 229 188 = 1 ∧ en B0 229 188 = 190 ∧ nx B0 229 188 = 191 := tk_is (by decide +kernel)
theorem tk_191 : kd B0 229 191 = 1 ∧ en B0 229 191 = 193 ∧ nx B0 229 191 = 194 := tk_is (by decide +kernel)
theorem tk_194 : kd B0 229 194 = 1 ∧ en B0 229 194 = 196 ∧ nx B0 229 194 = 196 := tk_is (by decide +kernel)
theorem tk_196 : kd B0 229 196 = 2 ∧ en B0 229 196 = 197 ∧ nx B0 229 196 = 198 := tk_is (by decide +kernel)
theorem tk_198 : kd B0 229 198 = 0 ∧ en B0 229 198 = 202 ∧ nx B0 229 198 = 203 := tk_is (by decide +kernel)
theorem tk_203 : kd B0 229 203 = 0 ∧ en B0 229 203 = 208 ∧ nx B0 229 203 = 209 := tk_is (by decide +kernel)
theorem tk_209 : kd B0 229 209 = 1 ∧ en B0 229 209 = 210 ∧ nx B0 229 209 = 211 := tk_is (by decide +kernel)
theorem tk_211 : kd B0 229 211 = 1 ∧ en B0 229 211 = 213 ∧ nx B0 229 211 = 214 := tk_is (by decide +kernel)
theorem tk_214 : kd B0 229 214 = 1 ∧ en B0 229 214 = 215 ∧ nx B0 229 214 = 216 := tk_is (by decide +kernel)
theorem tk_216 : kd B0 229 216 = 1 ∧ en B0 229 216 = 217 ∧ nx B0 229 216 = 218 := tk_is (by decide +kernel)
theorem tk_218 : kd B0 229 218 = 1 ∧ en B0 229 218 = 220 ∧ nx B0 229 218 = 221 := tk_is (by decide +kernel)
theorem tk_221 : kd B0 229 221 = 1 ∧ en B0 229 221 = 222 ∧ nx B0 229 221 = 223 := tk_is (by decide +kernel)
theorem tk_223 : kd B0 229 223 = 1 ∧ en B0 229 223 = 225 ∧ nx B0 229 223 = 226 := tk_is (by decide +kernel)
theorem tk_226 : kd B0 229 226 = 1 ∧ en B0 229 226 = 228 ∧ nx B0 229 226 = 228 := tk_is (by decide +kernel)
theorem tk_228 : kd B0 229 228 = 2 ∧ en B0 229 228 = 229 ∧ nx B0 229 228 = 229 := tk_is (by decide +kernel)
def sr0 : Nat → Int32 := zrow fun _ => 0
def sr1 : Nat → Int32 := up (up (lyW sr0 13 B0 11 6) 12 (nn 1)) 0 (nn 1)
theorem su_q0 : uQu B0 229 sr0 11 = .ok (21, sr1) := by
  have v0 : vQ sr0 = 0 := by decide +kernel
  have f : fNm sr0 13 8 B0 11 (en B0 229 11 - 11) (vQ sr0) = -1 := by rw [tk_11.2.1, v0]; decide +kernel
  refine (uQu_4 (new_is tk_11 (by decide) f) (by rw [tk_11.2.2]; exact num_is tk_18 (v := 1) (by decide +kernel) (by decide) (by decide)) (sem_is tk_19)).trans ?_
  unfold queW
  rw [v0, tk_11.2.1]
  rfl
def sr2 : Nat → Int32 := up (up (lyW sr1 21 B0 25 4) 20 (nn 2)) 0 (nn 2)
theorem su_q1 : uQu B0 229 sr1 25 = .ok (33, sr2) := by
  have v0 : vQ sr1 = 1 := by decide +kernel
  have f : fNm sr1 13 8 B0 25 (en B0 229 25 - 25) (vQ sr1) = -1 := by rw [tk_25.2.1, v0]; decide +kernel
  refine (uQu_4 (new_is tk_25 (by decide) f) (by rw [tk_25.2.2]; exact num_is tk_30 (v := 2) (by decide +kernel) (by decide) (by decide)) (sem_is tk_31)).trans ?_
  unfold queW
  rw [v0, tk_25.2.1]
  rfl
def sr3 : Nat → Int32 := up (up (lyW sr2 29 B0 37 5) 28 (nn 1)) 0 (nn 3)
theorem su_q2 : uQu B0 229 sr2 37 = .ok (46, sr3) := by
  have v0 : vQ sr2 = 2 := by decide +kernel
  have f : fNm sr2 13 8 B0 37 (en B0 229 37 - 37) (vQ sr2) = -1 := by rw [tk_37.2.1, v0]; decide +kernel
  refine (uQu_4 (new_is tk_37 (by decide) f) (by rw [tk_37.2.2]; exact num_is tk_43 (v := 1) (by decide +kernel) (by decide) (by decide)) (sem_is tk_44)).trans ?_
  unfold queW
  rw [v0, tk_37.2.1]
  rfl
theorem su_qs : uLoop B0 229 2 6 vQ (uQu B0 229) 7 7 sr0 = .ok (46, sr3) := ((uLoop_s (f := 6) (q := (21, sr1)) (w := sr0) (wd_is tk_7.1 tk_7.2.1 (by decide +kernel)) (by decide +kernel) (by rw [tk_7.2.2]; exact su_q0)).trans ((uLoop_s (f := 5) (q := (33, sr2)) (w := sr1) (wd_is tk_21.1 tk_21.2.1 (by decide +kernel)) (by decide +kernel) (by rw [tk_21.2.2]; exact su_q1)).trans ((uLoop_s (f := 4) (q := (46, sr3)) (w := sr2) (wd_is tk_33.1 tk_33.2.1 (by decide +kernel)) (by decide +kernel) (by rw [tk_33.2.2]; exact su_q2)).trans (uLoop_d (f := 3) (w := sr3) (wd_is tk_46.1 tk_46.2.1 (by decide +kernel)) (by decide +kernel)))))
def sr4 : Nat → Int32 := up (up (up (lyW sr3 62 B0 51 6) 60 (nn 2)) 1 (nn 1)) 61 (nn 0)
theorem su_r0 : uTr B0 229 sr3 7 59 0 = .ok (59, 0) := uTr_2 (f := 6) tk_59.1
theorem su_t0 : uTy B0 229 sr3 51 = .ok (61, sr4) := by
  have v0 : vT sr3 = 0 := by decide +kernel
  have f : fNm sr3 62 9 B0 51 (en B0 229 51 - 51) (vT sr3) = -1 := by rw [tk_51.2.1, v0]; decide +kernel
  refine (uTy_5 (q2 := (59, nn 2)) (q3 := (59, 0)) (new_is tk_51 (by decide) f) (by rw [tk_51.2.2]; exact num_is tk_58 (v := 2) (by decide +kernel) (by decide) (by decide)) su_r0 (sem_is tk_59)).trans ?_
  unfold typW
  rw [v0, tk_51.2.1]
  rfl
def sr5 : Nat → Int32 := up (up (up (lyW sr4 71 B0 66 4) 69 (nn 5)) 1 (nn 2)) 70 (nn 3)
theorem su_r1 : uTr B0 229 sr4 7 73 0 = .ok (84, 3) := by
  have q0 : vQ sr4 = 3 := by decide +kernel
  have g73 : fNm sr4 13 8 B0 73 (en B0 229 73 - 73) (vQ sr4) = nn 0 := by rw [tk_73.2.1, q0]; decide +kernel
  rw [uTr_s (f := 6) (by rw [tk_73.1]; decide) (kn_is tk_73 (by decide) (by rw [g73]; decide)), g73, if_neg (by decide)]
  have g80 : fNm sr4 13 8 B0 80 (en B0 229 80 - 80) (vQ sr4) = nn 1 := by rw [tk_80.2.1, q0]; decide +kernel
  rw [uTr_s (f := 5) (by rw [tk_80.1]; decide) (kn_is tk_80 (by decide) (by rw [g80]; decide)), g80, if_neg (by decide)]
  exact uTr_2 (f := 4) tk_84.1
theorem su_t1 : uTy B0 229 sr4 66 = .ok (86, sr5) := by
  have v0 : vT sr4 = 1 := by decide +kernel
  have f : fNm sr4 62 9 B0 66 (en B0 229 66 - 66) (vT sr4) = -1 := by rw [tk_66.2.1, v0]; decide +kernel
  refine (uTy_5 (q2 := (73, nn 5)) (q3 := (84, 3)) (new_is tk_66 (by decide) f) (by rw [tk_66.2.2]; exact num_is tk_71 (v := 5) (by decide +kernel) (by decide) (by decide)) su_r1 (sem_is tk_84)).trans ?_
  unfold typW
  rw [v0, tk_66.2.1]
  rfl
def sr6 : Nat → Int32 := up (up (up (lyW sr5 80 B0 91 5) 78 (nn 7)) 1 (nn 3)) 79 (nn 5)
theorem su_r2 : uTr B0 229 sr5 7 99 0 = .ok (111, 5) := by
  have q0 : vQ sr5 = 3 := by decide +kernel
  have g99 : fNm sr5 13 8 B0 99 (en B0 229 99 - 99) (vQ sr5) = nn 0 := by rw [tk_99.2.1, q0]; decide +kernel
  rw [uTr_s (f := 6) (by rw [tk_99.1]; decide) (kn_is tk_99 (by decide) (by rw [g99]; decide)), g99, if_neg (by decide)]
  have g106 : fNm sr5 13 8 B0 106 (en B0 229 106 - 106) (vQ sr5) = nn 2 := by rw [tk_106.2.1, q0]; decide +kernel
  rw [uTr_s (f := 5) (by rw [tk_106.1]; decide) (kn_is tk_106 (by decide) (by rw [g106]; decide)), g106, if_neg (by decide)]
  exact uTr_2 (f := 4) tk_111.1
theorem su_t2 : uTy B0 229 sr5 91 = .ok (113, sr6) := by
  have v0 : vT sr5 = 2 := by decide +kernel
  have f : fNm sr5 62 9 B0 91 (en B0 229 91 - 91) (vT sr5) = -1 := by rw [tk_91.2.1, v0]; decide +kernel
  refine (uTy_5 (q2 := (99, nn 7)) (q3 := (111, 5)) (new_is tk_91 (by decide) f) (by rw [tk_91.2.2]; exact num_is tk_97 (v := 7) (by decide +kernel) (by decide) (by decide)) su_r2 (sem_is tk_111)).trans ?_
  unfold typW
  rw [v0, tk_91.2.1]
  rfl
def sr7 : Nat → Int32 := up (up (up (lyW sr6 89 B0 118 5) 87 (nn 9)) 1 (nn 4)) 88 (nn 7)
theorem su_r3 : uTr B0 229 sr6 7 126 0 = .ok (143, 7) := by
  have q0 : vQ sr6 = 3 := by decide +kernel
  have g126 : fNm sr6 13 8 B0 126 (en B0 229 126 - 126) (vQ sr6) = nn 0 := by rw [tk_126.2.1, q0]; decide +kernel
  rw [uTr_s (f := 6) (by rw [tk_126.1]; decide) (kn_is tk_126 (by decide) (by rw [g126]; decide)), g126, if_neg (by decide)]
  have g133 : fNm sr6 13 8 B0 133 (en B0 229 133 - 133) (vQ sr6) = nn 1 := by rw [tk_133.2.1, q0]; decide +kernel
  rw [uTr_s (f := 5) (by rw [tk_133.1]; decide) (kn_is tk_133 (by decide) (by rw [g133]; decide)), g133, if_neg (by decide)]
  have g138 : fNm sr6 13 8 B0 138 (en B0 229 138 - 138) (vQ sr6) = nn 2 := by rw [tk_138.2.1, q0]; decide +kernel
  rw [uTr_s (f := 4) (by rw [tk_138.1]; decide) (kn_is tk_138 (by decide) (by rw [g138]; decide)), g138, if_neg (by decide)]
  exact uTr_2 (f := 3) tk_143.1
theorem su_t3 : uTy B0 229 sr6 118 = .ok (145, sr7) := by
  have v0 : vT sr6 = 3 := by decide +kernel
  have f : fNm sr6 62 9 B0 118 (en B0 229 118 - 118) (vT sr6) = -1 := by rw [tk_118.2.1, v0]; decide +kernel
  refine (uTy_5 (q2 := (126, nn 9)) (q3 := (143, 7)) (new_is tk_118 (by decide) f) (by rw [tk_118.2.2]; exact num_is tk_124 (v := 9) (by decide +kernel) (by decide) (by decide)) su_r3 (sem_is tk_143)).trans ?_
  unfold typW
  rw [v0, tk_118.2.1]
  rfl
def sr8 : Nat → Int32 := up (up (up (lyW sr7 98 B0 150 4) 96 (nn 3)) 1 (nn 5)) 97 (nn 4)
theorem su_r4 : uTr B0 229 sr7 7 157 0 = .ok (162, 4) := by
  have q0 : vQ sr7 = 3 := by decide +kernel
  have g157 : fNm sr7 13 8 B0 157 (en B0 229 157 - 157) (vQ sr7) = nn 2 := by rw [tk_157.2.1, q0]; decide +kernel
  rw [uTr_s (f := 6) (by rw [tk_157.1]; decide) (kn_is tk_157 (by decide) (by rw [g157]; decide)), g157, if_neg (by decide)]
  exact uTr_2 (f := 5) tk_162.1
theorem su_t4 : uTy B0 229 sr7 150 = .ok (164, sr8) := by
  have v0 : vT sr7 = 4 := by decide +kernel
  have f : fNm sr7 62 9 B0 150 (en B0 229 150 - 150) (vT sr7) = -1 := by rw [tk_150.2.1, v0]; decide +kernel
  refine (uTy_5 (q2 := (157, nn 3)) (q3 := (162, 4)) (new_is tk_150 (by decide) f) (by rw [tk_150.2.2]; exact num_is tk_155 (v := 3) (by decide +kernel) (by decide) (by decide)) su_r4 (sem_is tk_162)).trans ?_
  unfold typW
  rw [v0, tk_150.2.1]
  rfl
theorem su_ts : uLoop B0 229 3 8 vT (uTy B0 229) 9 46 sr3 = .ok (164, sr8) := ((uLoop_s (f := 8) (q := (61, sr4)) (w := sr3) (wd_is tk_46.1 tk_46.2.1 (by decide +kernel)) (by decide +kernel) (by rw [tk_46.2.2]; exact su_t0)).trans ((uLoop_s (f := 7) (q := (86, sr5)) (w := sr4) (wd_is tk_61.1 tk_61.2.1 (by decide +kernel)) (by decide +kernel) (by rw [tk_61.2.2]; exact su_t1)).trans ((uLoop_s (f := 6) (q := (113, sr6)) (w := sr5) (wd_is tk_86.1 tk_86.2.1 (by decide +kernel)) (by decide +kernel) (by rw [tk_86.2.2]; exact su_t2)).trans ((uLoop_s (f := 5) (q := (145, sr7)) (w := sr6) (wd_is tk_113.1 tk_113.2.1 (by decide +kernel)) (by decide +kernel) (by rw [tk_113.2.2]; exact su_t3)).trans ((uLoop_s (f := 4) (q := (164, sr8)) (w := sr7) (wd_is tk_145.1 tk_145.2.1 (by decide +kernel)) (by decide +kernel) (by rw [tk_145.2.2]; exact su_t4)).trans (uLoop_d (f := 3) (w := sr8) (wd_is tk_164.1 tk_164.2.1 (by decide +kernel)) (by decide +kernel)))))))
def gh0 : Nat → Int32 := up (up (up (lyW sr8 135 B0 169 5) 132 (nn 6)) 133 (nn 20)) 134 (nn 9)
def gc0_ : Nat → Int32 := (up (up (up (up (up gh0 142 (nn 40)) 143 (nn 25)) 144 (nn 10)) 145 (nn 15)) 146 (nn 10))
noncomputable def gw0 : Nat → Int32 := bldW (up gc0_ 2 (nn 1)) 0
theorem gv0 : vG sr8 = 0 ∧ vT sr8 = 5 := by decide +kernel
theorem su_h0 : uGh B0 229 sr8 169 = .ok (182, gh0) := by
  have f : fNm sr8 135 94 B0 169 (en B0 229 169 - 169) (vG sr8) = -1 := by rw [tk_169.2.1, gv0.1]; decide +kernel
  refine (uGh_5 (new_is tk_169 (by decide) f) (by rw [tk_169.2.2]; exact num_is tk_175 (v := 6) (by decide +kernel) (by decide) (by decide)) (num_is tk_177 (v := 20) (by decide +kernel) (by decide) (by decide)) (num_is tk_180 (v := 9) (by decide +kernel) (by decide) (by decide))).trans ?_
  unfold gatW
  rw [gv0.1, tk_169.2.1]
  rfl
theorem su_c0 : uCm B0 229 132 5 0 182 gh0 = .ok (198, gc0_) := (uCm_s (k := 4) (t := 0) (num_is tk_182 (v := 40) (by decide +kernel) (by decide) (by decide))).trans ((uCm_s (k := 3) (t := 1) (num_is tk_185 (v := 25) (by decide +kernel) (by decide) (by decide))).trans ((uCm_s (k := 2) (t := 2) (num_is tk_188 (v := 10) (by decide +kernel) (by decide) (by decide))).trans ((uCm_s (k := 1) (t := 3) (num_is tk_191 (v := 15) (by decide +kernel) (by decide) (by decide))).trans ((uCm_s (k := 0) (t := 4) (num_is tk_194 (v := 10) (by decide +kernel) (by decide) (by decide))).trans (uCm_0 (t := 5) (show uMore B0 229 196 = .ok (198, 1) by unfold uMore; rw [if_neg (by rw [tk_196.1]; decide)]; exact sem_is tk_196))))))
theorem su_g0 : uGa B0 229 sr8 169 = .ok (198, gw0) := by
  refine (uGa_3 su_h0 (q2 := (198, gc0_)) (by rw [gv0.1, gv0.2]; exact su_c0)).trans ?_
  rw [gv0.1]
  rfl
noncomputable def gh1 : Nat → Int32 := up (up (up (lyW gw0 229 B0 203 5) 226 (nn 0)) 227 (nn 23)) 228 (nn 2)
noncomputable def gc1_ : Nat → Int32 := (up (up (up (up (up gh1 236 (nn 5)) 237 (nn 50)) 238 (nn 5)) 239 (nn 30)) 240 (nn 10))
noncomputable def gw1 : Nat → Int32 := bldW (up gc1_ 2 (nn 2)) 1
theorem gk1 (j : Nat) (h : j < 150 ∨ 226 ≤ j) : gw0 j = up gc0_ 2 (nn 1) j := bldW_fr _ (by omega)
theorem gv1 : vG gw0 = 1 ∧ vT gw0 = 5 := by
  unfold vG vT
  rw [gk1 2 (by decide), gk1 1 (by decide)]
  decide +kernel
theorem su_h1 : uGh B0 229 gw0 203 = .ok (216, gh1) := by
  have f : fNm gw0 135 94 B0 203 (en B0 229 203 - 203) (vG gw0) = -1 := by rw [tk_203.2.1, gv1.1, fNm_cg (w := up gc0_ 2 (nn 1)) (fun j hj i hi => gk1 _ (by omega)) (by decide)]; decide +kernel
  refine (uGh_5 (new_is tk_203 (by decide) f) (by rw [tk_203.2.2]; exact num_is tk_209 (v := 0) (by decide +kernel) (by decide) (by decide)) (num_is tk_211 (v := 23) (by decide +kernel) (by decide) (by decide)) (num_is tk_214 (v := 2) (by decide +kernel) (by decide) (by decide))).trans ?_
  unfold gatW
  rw [gv1.1, tk_203.2.1]
  rfl
theorem su_c1 : uCm B0 229 226 5 0 216 gh1 = .ok (229, gc1_) := (uCm_s (k := 4) (t := 0) (num_is tk_216 (v := 5) (by decide +kernel) (by decide) (by decide))).trans ((uCm_s (k := 3) (t := 1) (num_is tk_218 (v := 50) (by decide +kernel) (by decide) (by decide))).trans ((uCm_s (k := 2) (t := 2) (num_is tk_221 (v := 5) (by decide +kernel) (by decide) (by decide))).trans ((uCm_s (k := 1) (t := 3) (num_is tk_223 (v := 30) (by decide +kernel) (by decide) (by decide))).trans ((uCm_s (k := 0) (t := 4) (num_is tk_226 (v := 10) (by decide +kernel) (by decide) (by decide))).trans (uCm_0 (t := 5) (show uMore B0 229 228 = .ok (229, 1) by unfold uMore; rw [if_neg (by rw [tk_228.1]; decide)]; exact sem_is tk_228))))))
theorem su_g1 : uGa B0 229 gw0 203 = .ok (229, gw1) := by
  refine (uGa_3 su_h1 (q2 := (229, gc1_)) (by rw [gv1.1, gv1.2]; exact su_c1)).trans ?_
  rw [gv1.1]
  rfl
theorem gvE : vG gw1 = 2 := by
  unfold vG
  rw [show gw1 2 = up gc1_ 2 (nn 2) 2 from bldW_fr _ (by decide), up_eq]
  decide
theorem kd_229 : kd B0 229 229 = 3 := by unfold kd; exact if_pos (Nat.le_refl _)
theorem wd_229 (i : Nat) : wd B0 229 229 i = false := by
  unfold wd
  rw [decide_eq_false (fun h => by rw [kd_229] at h; exact absurd h.1 (by decide))]
  rfl
theorem su_gs : uLoop B0 229 4 4 vG (uGa B0 229) 5 164 sr8 = .ok (229, gw1) := ((uLoop_s (f := 4) (q := (198, gw0)) (w := sr8) (wd_is tk_164.1 tk_164.2.1 (by decide +kernel)) (by rw [gv0.1]; decide) (by rw [tk_164.2.2]; exact su_g0)).trans ((uLoop_s (f := 3) (q := (229, gw1)) (w := gw0) (wd_is tk_198.1 tk_198.2.1 (by decide +kernel)) (by rw [gv1.1]; decide) (by rw [tk_198.2.2]; exact su_g1)).trans (uLoop_d (f := 2) (w := gw1) (wd_229 4) (by rw [gvE]; decide))))
theorem skp_0 : skp B0 229 0 = 0 := scn_is (Nat.le_refl _) (by decide) (fun i hi => absurd hi (Nat.not_lt_zero i)) (fun _ => by decide +kernel)
theorem setup0 : ∃ w', uSet B0 229 (zrow fun _ => 0) (skp B0 229 0) = .ok (229, w') := by
  refine ⟨gw1, ?_⟩
  rw [skp_0]
  exact (uSet_5 (q := (5, 1)) (by unfold pWord; rw [if_pos (wd_is tk_0.1 tk_0.2.1 (by decide +kernel)), tk_0.2.2]) (sem_is tk_5) su_qs su_ts).trans su_gs
