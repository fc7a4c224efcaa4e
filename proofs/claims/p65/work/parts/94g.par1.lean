/-! THE LAW'S TEXT PARSES: tokens over lists -/
section PA
variable {T p a b c : List Nat}
theorem tb_cons (x : Nat) (l : List Nat) : tb (x :: l) 0 = x := rfl
theorem tb_pre (h : T = p ++ a) (i : Nat) : tb T (p.length + i) = tb a i := by
  rw [h, tb_r (by omega)]
  congr 1
  omega
theorem tb_pa (h : T = p ++ (a ++ b)) {i : Nat} (hi : i < a.length) : tb T (p.length + i) = tb a i := by rw [tb_pre h, tb_l hi]
theorem tb_pb (h : T = p ++ (a ++ b)) : tb T (p.length + a.length) = tb b 0 := by rw [tb_pre h, tb_r (Nat.le_refl _), Nat.sub_self]
theorem len_pa (h : T = p ++ (a ++ b)) : T.length = p.length + a.length + b.length := by rw [h, List.length_append, List.length_append]; omega
theorem kd_w (h : T = p ++ (a ++ b)) (ha : 0 < a.length) (hl : ∀ i, i < a.length → isL (tb a i) = true) (hb : isL (tb b 0) = false) : kd (tb T) T.length p.length = 0 ∧ en (tb T) T.length p.length = p.length + a.length := by
  have hn := len_pa h
  have h0 : isL (tb T p.length) = true := by
    have := tb_pa h ha
    rw [Nat.add_zero] at this
    rw [this]
    exact hl 0 ha
  refine ⟨?_, ?_⟩
  · unfold kd
    rw [if_neg (by omega)]
    unfold kc
    rw [if_pos h0]
  · unfold en
    rw [if_neg (by omega), if_pos h0]
    refine scn_is (by omega) (by omega) (fun i hi => ?_) (fun _ => ?_)
    · rw [tb_pa h (by omega)]
      exact hl i (by omega)
    · rw [tb_pb h]
      exact hb
theorem kd_n (h : T = p ++ (a ++ b)) (ha : 0 < a.length) (hl : ∀ i, i < a.length → isD (tb a i) = true) (hb : isD (tb b 0) = false) : kd (tb T) T.length p.length = 1 ∧ en (tb T) T.length p.length = p.length + a.length := by
  have hn := len_pa h
  have h0 : isD (tb T p.length) = true := by
    have := tb_pa h ha
    rw [Nat.add_zero] at this
    rw [this]
    exact hl 0 ha
  have h1 : isL (tb T p.length) = false := by
    cases hx : isL (tb T p.length)
    · rfl
    · have x1 := isD_b.mp h0
      have x2 := isL_b.mp hx
      omega
  refine ⟨?_, ?_⟩
  · unfold kd
    rw [if_neg (by omega)]
    unfold kc
    rw [h1, if_neg (by decide), if_pos h0]
  · unfold en
    rw [if_neg (by omega), h1, if_neg (by decide), if_pos h0]
    refine scn_is (by omega) (by omega) (fun i hi => ?_) (fun _ => ?_)
    · rw [tb_pa h (by omega)]
      exact hl i (by omega)
    · rw [tb_pb h]
      exact hb
theorem kd_s (h : T = p ++ ([59] ++ b)) : kd (tb T) T.length p.length = 2 ∧ en (tb T) T.length p.length = p.length + 1 := by
  have hn := len_pa h
  have hl : ([59] : List Nat).length = 1 := rfl
  have h0 : tb T p.length = 59 := by
    have := tb_pa h (i := 0) (by decide)
    rw [Nat.add_zero] at this
    exact this
  refine ⟨?_, ?_⟩
  · unfold kd
    rw [if_neg (by omega)]
    unfold kc
    rw [h0]
    rfl
  · unfold en
    rw [if_neg (by omega), h0]
    rfl
theorem skp_n (h : T = p ++ b) (hb : tb b 0 ≠ 32) : skp (tb T) T.length p.length = p.length := by
  unfold skp
  have hn : T.length = p.length + b.length := by rw [h, List.length_append]
  refine scn_is (Nat.le_refl _) (by omega) (fun i hi => by omega) (fun _ => ?_)
  have := tb_pre h 0
  rw [Nat.add_zero] at this
  rw [this]
  exact decide_eq_false hb
theorem skp_s (h : T = p ++ ([32] ++ b)) (hb : tb b 0 ≠ 32) : skp (tb T) T.length p.length = p.length + 1 := by
  unfold skp
  have hn := len_pa h
  have hl : ([32] : List Nat).length = 1 := rfl
  refine scn_is (by omega) (by omega) (fun i hi => ?_) (fun _ => ?_)
  · rw [show i = 0 by omega, tb_pa h (by decide)]
    rfl
  · have := tb_pb h
    rw [hl] at this
    rw [this]
    exact decide_eq_false hb
theorem nx_n (h : T = p ++ (a ++ b)) (he : en (tb T) T.length p.length = p.length + a.length) (hb : tb b 0 ≠ 32) : nx (tb T) T.length p.length = (p ++ a).length := by
  unfold nx
  rw [he, ← List.length_append]
  exact skp_n (by rw [h, List.append_assoc]) hb
theorem nx_s (h : T = p ++ (a ++ ([32] ++ b))) (he : en (tb T) T.length p.length = p.length + a.length) (hb : tb b 0 ≠ 32) : nx (tb T) T.length p.length = (p ++ (a ++ [32])).length := by
  unfold nx
  rw [he, ← List.length_append, skp_s (p := p ++ a) (b := b) (by rw [h, List.append_assoc]) hb]
  simp only [List.length_append, List.length_cons, List.length_nil]
  omega
/-- numbers below 100 -/
theorem dig_d {x : Nat} (h : x < 100) : 0 < (dig x).length ∧ ∀ i, i < (dig x).length → isD (tb (dig x) i) = true := by
  unfold dig
  split
  · refine ⟨Nat.zero_lt_succ _, fun i hi => ?_⟩
    have hi2 : i < 1 := hi
    obtain rfl : i = 0 := by omega
    exact isD_b.mpr ⟨by show 48 ≤ 48 + x; omega, by show 48 + x ≤ 57; omega⟩
  · refine ⟨Nat.zero_lt_succ _, fun i hi => ?_⟩
    have hi2 : i < 2 := hi
    rcases (show i = 0 ∨ i = 1 by omega) with rfl | rfl
    · exact isD_b.mpr ⟨by show 48 ≤ 48 + x / 10; omega, by show 48 + x / 10 ≤ 57; omega⟩
    · exact isD_b.mpr ⟨by show 48 ≤ 48 + x % 10; omega, by show 48 + x % 10 ≤ 57; omega⟩
theorem vl_d {x : Nat} (hx : x < 100) (h : T = p ++ (dig x ++ b)) (he : en (tb T) T.length p.length = p.length + (dig x).length) : vl (tb T) T.length p.length = x := by
  unfold vl
  rw [he, Nat.add_sub_cancel_left]
  have t0 := fun i (hi : i < (dig x).length) => tb_pa h hi
  unfold dig at t0 ⊢
  split
  · rename_i h1
    rw [if_pos h1] at t0
    show vlk (tb T) p.length 1 = x
    show 0 * 10 + (tb T (p.length + 0) - 48) = x
    rw [t0 0 (Nat.zero_lt_succ _)]
    show 0 * 10 + (48 + x - 48) = x
    omega
  · rename_i h1
    rw [if_neg h1] at t0
    show (0 * 10 + (tb T (p.length + 0) - 48)) * 10 + (tb T (p.length + 1) - 48) = x
    rw [t0 0 (Nat.zero_lt_succ _), t0 1 (Nat.lt_succ_self _)]
    show (0 * 10 + (48 + x / 10 - 48)) * 10 + (48 + x % 10 - 48) = x
    omega
theorem num_n {x lo hi : Nat} (hx : x < 100) (h1 : lo ≤ x) (h2 : x ≤ hi) (h : T = p ++ (dig x ++ b)) (hb : isD (tb b 0) = false) (hb2 : tb b 0 ≠ 32) : pNum (tb T) T.length lo hi p.length = .ok ((p ++ dig x).length, nn x) := by
  obtain ⟨d1, d2⟩ := dig_d hx
  obtain ⟨k1, k2⟩ := kd_n h d1 d2 hb
  unfold pNum
  rw [if_pos k1, vl_d hx h k2, if_pos ⟨h1, h2⟩, nx_n h k2 hb2]
theorem num_s {x lo hi : Nat} (hx : x < 100) (h1 : lo ≤ x) (h2 : x ≤ hi) (h : T = p ++ (dig x ++ ([32] ++ b))) (hb2 : tb b 0 ≠ 32) : pNum (tb T) T.length lo hi p.length = .ok ((p ++ (dig x ++ [32])).length, nn x) := by
  obtain ⟨d1, d2⟩ := dig_d hx
  obtain ⟨k1, k2⟩ := kd_n h d1 d2 rfl
  unfold pNum
  rw [if_pos k1, vl_d hx h k2, if_pos ⟨h1, h2⟩, nx_s h k2 hb2]
theorem sem_n (h : T = p ++ ([59] ++ b)) (hb : tb b 0 ≠ 32) : pSem (tb T) T.length p.length = .ok ((p ++ [59]).length, 1) := by
  obtain ⟨k1, k2⟩ := kd_s h
  unfold pSem
  rw [if_pos k1, nx_n h k2 hb]
/-- names of two letters -/
def nmI (w : Nat → Int32) (a st c0 N : Nat) : Prop := ∀ j, j < N → w (a + j * st) = nn 2 ∧ w (a + j * st + 1) = nn c0 ∧ w (a + j * st + 2) = nn (97 + j)
theorem nmE_n2 {w : Nat → Int32} {a c0 j x s : Nat} {B : Nat → Nat} (h0 : w a = nn 2) (h1 : w (a + 1) = nn c0) (h2 : w (a + 2) = nn (97 + j)) (b0 : B s = c0) (b1 : B (s + 1) = 97 + x) (hj : j < 20) (hx : x < 20) : nmE w a B s 2 = decide (j = x) := by
  have hl : lnW w a = 2 := by unfold lnW; rw [h0]; rfl
  by_cases e : j = x
  · subst e
    rw [decide_eq_true rfl]
    refine nmE_t.mpr ⟨hl, fun i hi => ?_⟩
    rcases (show i = 0 ∨ i = 1 by omega) with rfl | rfl
    · show w (a + 1) = nn (B s)
      rw [h1, b0]
    · rw [show a + 1 + 1 = a + 2 by omega, h2, b1]
  · rw [decide_eq_false e]
    cases hx2 : nmE w a B s 2
    · rfl
    · obtain ⟨-, y⟩ := nmE_t.mp hx2
      have y1 := y 1 (by decide)
      rw [show a + 1 + 1 = a + 2 by omega, h2, b1, nn_eq (by omega) (by omega)] at y1
      omega
theorem fNm_new {w : Nat → Int32} {a st c0 N s : Nat} {B : Nat → Nat} (h : nmI w a st c0 N) (hN : N < 20) (b0 : B s = c0) (b1 : B (s + 1) = 97 + N) : fNm w a st B s 2 N = -1 := by
  unfold fNm
  rw [ffs_none (fun j hj => by rw [nmE_n2 (h j hj).1 (h j hj).2.1 (h j hj).2.2 b0 b1 (by omega) hN]; exact decide_eq_false (by omega)), if_neg (by omega)]
theorem fNm_old {w : Nat → Int32} {a st c0 N s k : Nat} {B : Nat → Nat} (h : nmI w a st c0 N) (hN : N < 20) (hk : k < N) (b0 : B s = c0) (b1 : B (s + 1) = 97 + k) : fNm w a st B s 2 N = nn k := by
  unfold fNm
  have e : ffs (fun j => nmE w (a + j * st) B s 2) N = k := ffs_eq (fun j hj => by rw [nmE_n2 (h j (by omega)).1 (h j (by omega)).2.1 (h j (by omega)).2.2 b0 b1 (by omega) (by omega)]; exact decide_eq_false (by omega)) (by rw [nmE_n2 (h k hk).1 (h k hk).2.1 (h k hk).2.2 b0 b1 (by omega) (by omega)]; exact decide_eq_true rfl) hk
  rw [e, if_pos hk]
theorem two_L {x y : Nat} (hx : isL x = true) (hy : y < 20) : ∀ i, i < ([x, 97 + y] : List Nat).length → isL (tb [x, 97 + y] i) = true := fun i hi => by
  have hi2 : i < 2 := hi
  rcases (show i = 0 ∨ i = 1 by omega) with rfl | rfl
  · exact hx
  · exact isL_b.mpr ⟨by show 97 ≤ 97 + y; omega, by show 97 + y ≤ 122; omega⟩
theorem new_n {x y : Nat} (hx : isL x = true) (hy : y < 20) (h : T = p ++ ([x, 97 + y] ++ b)) (hb : isL (tb b 0) = false) {w : Nat → Int32} {a0 st : Nat} (hn : nmI w a0 st x y) : pNew (tb T) T.length (fNm w a0 st (tb T) p.length (en (tb T) T.length p.length - p.length) y) p.length = .ok (p.length, 1) ∧ en (tb T) T.length p.length = p.length + 2 := by
  obtain ⟨k1, k2⟩ := kd_w h (Nat.zero_lt_succ _) (two_L hx hy) hb
  have k3 : en (tb T) T.length p.length = p.length + 2 := k2
  have e0 : tb T p.length = x := tb_pa h (i := 0) (Nat.zero_lt_succ _)
  have e1 : tb T (p.length + 1) = 97 + y := tb_pa h (i := 1) (Nat.lt_succ_self _)
  refine ⟨?_, k3⟩
  rw [k3, Nat.add_sub_cancel_left, fNm_new hn hy e0 e1]
  unfold pNew nmb
  rw [if_pos (decide_eq_true ⟨k1, by omega⟩), if_pos rfl]
/-- a word of the language stands at p -/
theorem wd_t {i : Nat} (hi : i < am_sn) (h : T = p ++ (a ++ b)) (ha : a = tl i) (h0 : 0 < a.length) (hl : ∀ i, i < a.length → isL (tb a i) = true) (hb : isL (tb b 0) = false) : wd (tb T) T.length p.length i = true := by
  obtain ⟨k1, k2⟩ := kd_w h h0 hl hb
  unfold wd
  rw [Bool.and_eq_true, decide_eq_true_eq, List.all_eq_true]
  refine ⟨⟨k1, by rw [k2, Nat.add_sub_cancel_left, tl_len hi, ha]⟩, fun j hj => ?_⟩
  have hj2 : j < tlen i := List.mem_range.mp hj
  rw [decide_eq_true_eq, tb_pa h (by rw [ha, ← tl_len hi]; exact hj2), ha]
  exact (tl_at hi hj2).1.symm
theorem wd_f {i x : Nat} (hi : i < am_sn) (h1 : 0 < tlen i) (h : T = p ++ b) (hb : tb b 0 = x) (hx : x ≠ tb (tl i) 0) (hx2 : x < 128) : wd (tb T) T.length p.length i = false := by
  cases hw : wd (tb T) T.length p.length i
  · rfl
  · unfold wd at hw
    rw [Bool.and_eq_true, List.all_eq_true] at hw
    have h2 := hw.2 0 (List.mem_range.mpr h1)
    rw [decide_eq_true_eq, tb_pre h, hb, (tl_at hi h1).1, nn_eq (by omega) (by have := (tl_at hi h1).2; omega)] at h2
    exact absurd h2 hx
end PA
