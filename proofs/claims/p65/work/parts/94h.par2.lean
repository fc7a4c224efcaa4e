/-! THE LAW'S TEXT PARSES: one question, one type, one gate -/
def zr9 (w : Nat → Int32) : Prop := ∀ j, 3 ≤ j → j < 12 → w j = 0
section PB
variable {T p r : List Nat} {w : Nat → Int32}
theorem lyW_0 {a s len : Nat} {B : Nat → Nat} : lyW w a B s len a = nn len := if_pos rfl
theorem lyW_i {a s len i : Nat} {B : Nat → Nat} (hi : i < len) : lyW w a B s len (a + 1 + i) = nn (B (s + i)) := by
  unfold lyW
  rw [if_neg (by omega), if_pos ⟨by omega, by omega⟩, Nat.add_sub_cancel_left]
def qtx (q c : Nat) : List Nat := [113, 97 + q] ++ ([32] ++ (dig c ++ [59]))
theorem quU {q c : Nat} (h : T = p ++ (qtx q c ++ r)) (hr : tb r 0 ≠ 32) (hq : vQ w = q) (q6 : q < 6) (c1 : 1 ≤ c) (c9 : c ≤ 9) (hn : nmI w 13 8 113 q) : ∃ w', uQu (tb T) T.length w p.length = .ok ((p ++ qtx q c).length, w') ∧ vQ w' = q + 1 ∧ nmI w' 13 8 113 (q + 1) ∧ ∀ j, 1 ≤ j → j < 12 → w' j = w j := by
  subst hq
  have e1 : T = p ++ ([113, 97 + vQ w] ++ ([32] ++ (dig c ++ ([59] ++ r)))) := by rw [h]; unfold qtx; simp only [List.append_assoc]
  have e2 : T = (p ++ ([113, 97 + vQ w] ++ [32])) ++ (dig c ++ ([59] ++ r)) := by rw [e1]; simp only [List.append_assoc]
  have e3 : T = ((p ++ ([113, 97 + vQ w] ++ [32])) ++ dig c) ++ ([59] ++ r) := by rw [e2]; simp only [List.append_assoc]
  obtain ⟨n1, n2⟩ := new_n (x := 113) (y := vQ w) rfl (by omega) e1 rfl (w := w) (a0 := 13) (st := 8) hn
  have hd0 : tb (dig c ++ ([59] ++ r)) 0 ≠ 32 := by
    obtain ⟨d1, d2⟩ := dig_d (x := c) (by omega)
    rw [tb_l d1]
    have := isD_b.mp (d2 0 d1)
    omega
  have n3 := nx_s (T := T) (p := p) (a := [113, 97 + vQ w]) (b := dig c ++ ([59] ++ r)) e1 n2 hd0
  have n4 := num_n (lo := 1) (hi := 9) (x := c) (by omega) c1 c9 e2 rfl (by decide : (59 : Nat) ≠ 32)
  have n5 := sem_n e3 hr
  have n0 : tb T p.length = 113 := tb_pa e1 (i := 0) (Nat.zero_lt_succ _)
  have n0' : tb T (p.length + 1) = 97 + vQ w := tb_pa e1 (i := 1) (Nat.lt_succ_self _)
  have hu := uQu_4 (B := tb T) (n := T.length) (s := p.length) (w := w) n1 (by rw [n3]; exact n4) n5
  have hl : (((p ++ ([113, 97 + vQ w] ++ [32])) ++ dig c) ++ [59]).length = (p ++ qtx (vQ w) c).length := by unfold qtx; simp only [List.append_assoc]
  refine ⟨_, hu.trans (by rw [hl]), ?_, fun j hj => ?_, fun j j1 j2 => ?_⟩
  · show (up _ 0 _ 0).toNatClampNeg = _
    rw [up_eq, nn_nat (by omega)]
  · unfold queW
    rw [n2, Nat.add_sub_cancel_left, up_ne (by omega), up_ne (by omega), up_ne (by omega), up_ne (by omega), up_ne (by omega), up_ne (by omega)]
    by_cases e : j = vQ w
    · subst e
      rw [show 12 + vQ w * 8 + 1 = 13 + vQ w * 8 by omega]
      refine ⟨lyW_0, ?_, ?_⟩
      · have := lyW_i (w := w) (a := 13 + vQ w * 8) (s := p.length) (len := 2) (B := tb T) (i := 0) (by decide)
        exact this.trans (congrArg nn n0)
      · have := lyW_i (w := w) (a := 13 + vQ w * 8) (s := p.length) (len := 2) (B := tb T) (i := 1) (by decide)
        exact this.trans (congrArg nn n0')
    · rw [lyW_out (by omega), lyW_out (by omega), lyW_out (by omega)]
      exact hn j (by omega)
  · unfold queW
    rw [up_ne (by omega), up_ne (by omega), lyW_out (by omega)]
/-- the traits of a type, as they are written -/
def vtx : List Nat → List Nat
  | [] => []
  | k :: ks => 32 :: 113 :: (97 + k) :: vtx ks
theorem vtx_app (k : Nat) : ∀ ks, vtx (ks ++ [k]) = vtx ks ++ [32, 113, 97 + k]
  | [] => rfl
  | a :: ks => by
    show 32 :: 113 :: (97 + a) :: vtx (ks ++ [k]) = 32 :: 113 :: (97 + a) :: (vtx ks ++ [32, 113, 97 + k])
    rw [vtx_app k ks]
theorem trU (Q20 : vQ w < 20) (hn : nmI w 13 8 113 (vQ w)) : ∀ (ks : List Nat) (f τ : Nat) (p : List Nat), T = p ++ (vtx ks ++ ([59] ++ r)) → ks.length < f → (∀ k ∈ ks, k < vQ w ∧ τ.testBit k = false) → List.Pairwise (· < ·) ks → ∃ τ', uTr (tb T) T.length w f (skp (tb T) T.length p.length) τ = .ok ((p ++ vtx ks).length, τ')
  | [], f, τ, p, h, hf, _, _ => by
    have h' : T = p ++ ([59] ++ r) := h
    obtain ⟨g, rfl⟩ : ∃ g, f = g + 1 := ⟨f - 1, by have : 0 < f := hf; omega⟩
    rw [skp_n h' (by decide : (59 : Nat) ≠ 32)]
    exact ⟨τ, (uTr_2 (kd_s h').1).trans (by rw [show (p ++ vtx []).length = p.length from by rw [show vtx [] = [] from rfl, List.append_nil]])⟩
  | k :: ks, f, τ, p, h, hf, hk, hp => by
    obtain ⟨g, rfl⟩ : ∃ g, f = g + 1 := ⟨f - 1, by have : ks.length + 1 < f := hf; omega⟩
    have e1 : T = p ++ ([32] ++ (113 :: (97 + k) :: (vtx ks ++ ([59] ++ r)))) := h
    have e2 : T = (p ++ [32]) ++ ([113, 97 + k] ++ (vtx ks ++ ([59] ++ r))) := by rw [e1, List.append_assoc]; rfl
    have e3 : T = ((p ++ [32]) ++ [113, 97 + k]) ++ (vtx ks ++ ([59] ++ r)) := by rw [e2]; simp only [List.append_assoc]
    obtain ⟨k1, k2⟩ := hk k List.mem_cons_self
    obtain ⟨p1, p2⟩ := List.pairwise_cons.mp hp
    have hs : skp (tb T) T.length p.length = (p ++ [32]).length := by
      rw [skp_s e1 (by decide : (113 : Nat) ≠ 32)]
      rw [List.length_append]
      rfl
    have hb : isL (tb (vtx ks ++ ([59] ++ r)) 0) = false := by cases ks <;> rfl
    obtain ⟨w1, w2⟩ := kd_w e2 (Nat.zero_lt_succ _) (two_L (x := 113) rfl (show k < 20 by omega)) hb
    have w3 : en (tb T) T.length (p ++ [32]).length = (p ++ [32]).length + 2 := w2
    have n0 : tb T (p ++ [32]).length = 113 := tb_pa e2 (i := 0) (Nat.zero_lt_succ _)
    have n1 : tb T ((p ++ [32]).length + 1) = 97 + k := tb_pa e2 (i := 1) (Nat.lt_succ_self _)
    have hkn : pKnown (tb T) T.length (fNm w 13 8 (tb T) (p ++ [32]).length (en (tb T) T.length (p ++ [32]).length - (p ++ [32]).length) (vQ w)) (p ++ [32]).length = .ok (nx (tb T) T.length (p ++ [32]).length, nn k) := by
      rw [w3, Nat.add_sub_cancel_left, fNm_old hn Q20 k1 n0 n1]
      unfold pKnown nmb
      rw [if_pos (decide_eq_true ⟨w1, by omega⟩), if_neg (nn_none (by omega))]
    have hnx : nx (tb T) T.length (p ++ [32]).length = skp (tb T) T.length ((p ++ [32]) ++ [113, 97 + k]).length := by
      unfold nx
      rw [w3, List.length_append (bs := [113, 97 + k])]
      rfl
    rw [hs]
    have hst := uTr_s (B := tb T) (n := T.length) (w := w) (f := g) (τ := τ) (s := (p ++ [32]).length) (by rw [w1]; decide) hkn
    rw [show (nn k).toNatClampNeg = k from nn_nat (by omega), k2, if_neg (by decide), hnx] at hst
    obtain ⟨τ', ht⟩ := trU Q20 hn ks g (τ ||| 2 ^ k) ((p ++ [32]) ++ [113, 97 + k]) e3 (by have : ks.length + 1 < g + 1 := hf; omega) (fun x hx => ⟨(hk x (List.mem_cons_of_mem _ hx)).1, by
      have hlt := p1 x hx
      rw [Nat.testBit_or, (hk x (List.mem_cons_of_mem _ hx)).2, Bool.false_or]
      exact Nat.testBit_two_pow_of_ne (by omega)⟩) p2
    refine ⟨τ', (hst.trans ht).trans ?_⟩
    have : ((p ++ [32]) ++ [113, 97 + k]) ++ vtx ks = p ++ vtx (k :: ks) := by
      rw [List.append_assoc, List.append_assoc]
      rfl
    rw [this]
theorem num_g {x lo hi : Nat} {b : List Nat} (hx : x < 100) (h1 : lo ≤ x) (h2 : x ≤ hi) (h : T = p ++ (dig x ++ b)) (hb : isD (tb b 0) = false) : pNum (tb T) T.length lo hi p.length = .ok (skp (tb T) T.length (p ++ dig x).length, nn x) := by
  obtain ⟨d1, d2⟩ := dig_d hx
  obtain ⟨k1, k2⟩ := kd_n h d1 d2 hb
  unfold pNum
  rw [if_pos k1, vl_d hx h k2, if_pos ⟨h1, h2⟩]
  unfold nx
  rw [k2, ← List.length_append]
def ttx (t c : Nat) (ks : List Nat) : List Nat := [116, 97 + t] ++ ([32] ++ (dig c ++ (vtx ks ++ [59])))
theorem dig_h {x : Nat} (hx : x < 100) (b : List Nat) : tb (dig x ++ b) 0 ≠ 32 ∧ isL (tb (dig x ++ b) 0) = false := by
  obtain ⟨d1, d2⟩ := dig_d hx
  rw [tb_l d1]
  have h := isD_b.mp (d2 0 d1)
  refine ⟨by omega, ?_⟩
  cases hl : isL (tb (dig x) 0)
  · rfl
  · have := isL_b.mp hl
    omega
theorem tyU {t c : Nat} {ks : List Nat} (h : T = p ++ (ttx t c ks ++ r)) (hr : tb r 0 ≠ 32) (ht : vT w = t) (t8 : t < 8) (c9 : c ≤ 99) (hn : nmI w 62 9 116 t) (Q6 : vQ w ≤ 6) (hnq : nmI w 13 8 113 (vQ w)) (hk : ∀ k ∈ ks, k < vQ w) (hp : List.Pairwise (· < ·) ks) (hl6 : ks.length ≤ 6) : ∃ w', uTy (tb T) T.length w p.length = .ok ((p ++ ttx t c ks).length, w') ∧ vT w' = t + 1 ∧ nmI w' 62 9 116 (t + 1) ∧ ∀ j, j < 60 → j ≠ 1 → w' j = w j := by
  subst ht
  have e1 : T = p ++ ([116, 97 + vT w] ++ ([32] ++ (dig c ++ (vtx ks ++ ([59] ++ r))))) := by rw [h]; unfold ttx; simp only [List.append_assoc]
  have e2 : T = (p ++ ([116, 97 + vT w] ++ [32])) ++ (dig c ++ (vtx ks ++ ([59] ++ r))) := by rw [e1]; simp only [List.append_assoc]
  have e3 : T = ((p ++ ([116, 97 + vT w] ++ [32])) ++ dig c) ++ (vtx ks ++ ([59] ++ r)) := by rw [e2]; simp only [List.append_assoc]
  have e4 : T = (((p ++ ([116, 97 + vT w] ++ [32])) ++ dig c) ++ vtx ks) ++ ([59] ++ r) := by rw [e3]; simp only [List.append_assoc]
  obtain ⟨n1, n2⟩ := new_n (x := 116) (y := vT w) rfl (by omega) e1 rfl (w := w) (a0 := 62) (st := 9) hn
  have n3 := nx_s (T := T) (p := p) (a := [116, 97 + vT w]) (b := dig c ++ (vtx ks ++ ([59] ++ r))) e1 n2 (dig_h (by omega) _).1
  have n4 := num_g (lo := 0) (hi := 99) (x := c) (by omega) (Nat.zero_le _) c9 e2 (by cases ks <;> rfl)
  obtain ⟨τ, n5⟩ := trU (r := r) (by omega) hnq ks 7 0 _ e3 (by omega) (fun k hk' => ⟨hk k hk', Nat.zero_testBit k⟩) hp
  have n6 := sem_n e4 hr
  have n0 : tb T p.length = 116 := tb_pa e1 (i := 0) (Nat.zero_lt_succ _)
  have n0' : tb T (p.length + 1) = 97 + vT w := tb_pa e1 (i := 1) (Nat.lt_succ_self _)
  have hu := uTy_5 (B := tb T) (n := T.length) (s := p.length) (w := w) n1 (by rw [n3]; exact n4) n5 n6
  have hl : ((((p ++ ([116, 97 + vT w] ++ [32])) ++ dig c) ++ vtx ks) ++ [59]).length = (p ++ ttx (vT w) c ks).length := by unfold ttx; simp only [List.append_assoc]
  refine ⟨_, hu.trans (by rw [hl]), ?_, fun j hj => ?_, fun j j1 j2 => ?_⟩
  · show (typW _ _ _ _ _ _ 1).toNatClampNeg = _
    unfold typW
    rw [up_ne (by omega), up_eq, nn_nat (by omega)]
  · unfold typW
    rw [n2, Nat.add_sub_cancel_left, up_ne (by omega), up_ne (by omega), up_ne (by omega), up_ne (by omega), up_ne (by omega), up_ne (by omega), up_ne (by omega), up_ne (by omega), up_ne (by omega)]
    by_cases e : j = vT w
    · subst e
      rw [show 60 + vT w * 9 + 2 = 62 + vT w * 9 by omega]
      refine ⟨lyW_0, ?_, ?_⟩
      · have := lyW_i (w := w) (a := 62 + vT w * 9) (s := p.length) (len := 2) (B := tb T) (i := 0) (by decide)
        exact this.trans (congrArg nn n0)
      · have := lyW_i (w := w) (a := 62 + vT w * 9) (s := p.length) (len := 2) (B := tb T) (i := 1) (by decide)
        exact this.trans (congrArg nn n0')
    · rw [lyW_out (by omega), lyW_out (by omega), lyW_out (by omega)]
      exact hn j (by omega)
  · unfold typW
    rw [up_ne (by omega), up_ne (by omega), up_ne (by omega), lyW_out (by omega)]
/-- the counts of a gate, as they are written -/
def ctx : List Nat → List Nat
  | [] => []
  | k :: ks => 32 :: (dig k ++ ctx ks)
theorem ctx_app (k : Nat) : ∀ ks, ctx (ks ++ [k]) = ctx ks ++ (32 :: dig k)
  | [] => by show 32 :: (dig k ++ []) = 32 :: dig k; rw [List.append_nil]
  | a :: ks => by
    show 32 :: (dig a ++ ctx (ks ++ [k])) = 32 :: (dig a ++ ctx ks) ++ (32 :: dig k)
    rw [ctx_app k ks, List.cons_append, List.append_assoc]
theorem cmU {a : Nat} (hr : tb r 0 ≠ 32) : ∀ (ks : List Nat) (t : Nat) (p : List Nat) (w : Nat → Int32), T = p ++ (ctx ks ++ ([59] ++ r)) → (∀ k ∈ ks, k < 100) → ∃ w', uCm (tb T) T.length a ks.length t (skp (tb T) T.length p.length) w = .ok ((p ++ (ctx ks ++ [59])).length, w')
  | [], t, p, w, h, _ => by
    have h' : T = p ++ ([59] ++ r) := h
    rw [skp_n h' (by decide : (59 : Nat) ≠ 32)]
    have hm : uMore (tb T) T.length p.length = .ok ((p ++ [59]).length, 1) := by
      unfold uMore
      rw [(kd_s h').1, if_neg (by decide), sem_n h' hr]
    exact ⟨w, uCm_0 hm⟩
  | k :: ks, t, p, w, h, hk => by
    have k1 := hk k List.mem_cons_self
    have e1 : T = p ++ ([32] ++ (dig k ++ (ctx ks ++ ([59] ++ r)))) := by rw [h]; show p ++ (32 :: (dig k ++ ctx ks) ++ _) = _; simp only [List.cons_append, List.append_assoc]; rfl
    have e2 : T = (p ++ [32]) ++ (dig k ++ (ctx ks ++ ([59] ++ r))) := by rw [e1, List.append_assoc]
    have e3 : T = ((p ++ [32]) ++ dig k) ++ (ctx ks ++ ([59] ++ r)) := by rw [e2]; simp only [List.append_assoc]
    have hs : skp (tb T) T.length p.length = (p ++ [32]).length := by
      rw [skp_s e1 (dig_h k1 _).1, List.length_append]
      rfl
    have n4 := num_g (lo := 0) (hi := 9999) (x := k) k1 (Nat.zero_le _) (by omega) e2 (by cases ks <;> rfl)
    obtain ⟨w', hw⟩ := cmU hr ks (t + 1) _ (up w (a + (10 + t)) (nn k)) e3 (fun x hx => hk x (List.mem_cons_of_mem _ hx))
    rw [hs]
    refine ⟨w', ((uCm_s n4).trans hw).trans ?_⟩
    have : ((p ++ [32]) ++ dig k) ++ (ctx ks ++ [59]) = p ++ (ctx (k :: ks) ++ [59]) := by
      show _ = p ++ (32 :: (dig k ++ ctx ks) ++ [59])
      simp only [List.append_assoc, List.cons_append, List.nil_append]
    rw [this]
def gtx (g o c l : Nat) (ks : List Nat) : List Nat := [103, 97 + g] ++ ([32] ++ (dig o ++ ([32] ++ (dig c ++ ([32] ++ (dig l ++ (ctx ks ++ [59])))))))
theorem bstW.keep {w' : Nat → Int32} {g : Nat} (hb : bstW w g) (q6 : vQ w ≤ 6) (t8 : vT w ≤ 8) (t0 : 0 < vT w) (e15 : teW w g ≤ 15) (e : ∀ j, j ≠ 2 → j < 132 + g * 94 + 94 → w' j = w j) : bstW w' g := by
  have p8 := two_le8 t8
  have p2 : 2 ^ 1 ≤ 2 ^ vT w := Nat.pow_le_pow_right (n := 2) (by decide) t0
  have h1 : vQ w' = vQ w := by unfold vQ; rw [e 0 (by omega) (by omega)]
  have h2 : vT w' = vT w := by unfold vT; rw [e 1 (by omega) (by omega)]
  have h3 : lmW w' g = lmW w g := by unfold lmW; rw [e _ (by omega) (by omega)]
  have h4 : teW w' g = teW w g := by unfold teW; rw [e _ (by omega) (by omega)]
  unfold bstW
  rw [h1, h2, h3, h4]
  refine tvb_cg q6 t8 (fun t ht => ⟨?_, ?_⟩) (fun q hq => ⟨?_, yse_cgT (fun t ht => ?_) q⟩) (tvb_cong hb (fun j _ hj => ?_)) (by omega) (by omega)
  · unfold tlW; rw [e _ (by omega) (by omega)]
  · unfold ctW; rw [e _ (by omega) (by omega)]
  · unfold qcW; rw [e _ (by omega) (by omega)]
  · unfold tyW; rw [e _ (by omega) (by omega)]
  · unfold rw5
    exact ⟨e _ (by omega) (by omega), e _ (by omega) (by omega), e _ (by omega) (by omega), e _ (by omega) (by omega), e _ (by omega) (by omega)⟩
theorem gaU {g o c l : Nat} {ks : List Nat} (h : T = p ++ (gtx g o c l ks ++ r)) (hr : tb r 0 ≠ 32) (hg : vG w = g) (g4 : g < 4) (o23 : o ≤ 23) (c23 : c ≤ 23) (l30 : l ≤ 30) (hn : nmI w 135 94 103 g) (hI : gInv w) (hk : ∀ k ∈ ks, k < 100) (hl : ks.length = vT w) (hb : ∀ x, x < vG w → bstW w x) : ∃ w', uGa (tb T) T.length w p.length = .ok ((p ++ gtx g o c l ks).length, w') ∧ gInv w' ∧ vG w' = g + 1 ∧ nmI w' 135 94 103 (g + 1) ∧ (∀ x, x < vG w' → bstW w' x) ∧ ∀ j, j ≠ 2 → j < 132 → w' j = w j := by
  subst hg
  have hlen : 0 < ks.length := by rw [hl]; exact hI.2.2
  have e1 : T = p ++ ([103, 97 + vG w] ++ ([32] ++ (dig o ++ ([32] ++ (dig c ++ ([32] ++ (dig l ++ (ctx ks ++ ([59] ++ r))))))))) := by rw [h]; unfold gtx; simp only [List.append_assoc]
  have e2 : T = (p ++ ([103, 97 + vG w] ++ [32])) ++ (dig o ++ ([32] ++ (dig c ++ ([32] ++ (dig l ++ (ctx ks ++ ([59] ++ r))))))) := by rw [e1]; simp only [List.append_assoc]
  have e3 : T = ((p ++ ([103, 97 + vG w] ++ [32])) ++ (dig o ++ [32])) ++ (dig c ++ ([32] ++ (dig l ++ (ctx ks ++ ([59] ++ r))))) := by rw [e2]; simp only [List.append_assoc]
  have e4 : T = (((p ++ ([103, 97 + vG w] ++ [32])) ++ (dig o ++ [32])) ++ (dig c ++ [32])) ++ (dig l ++ (ctx ks ++ ([59] ++ r))) := by rw [e3]; simp only [List.append_assoc]
  have e5 : T = ((((p ++ ([103, 97 + vG w] ++ [32])) ++ (dig o ++ [32])) ++ (dig c ++ [32])) ++ dig l) ++ (ctx ks ++ ([59] ++ r)) := by rw [e4]; simp only [List.append_assoc]
  obtain ⟨n1, n2⟩ := new_n (x := 103) (y := vG w) rfl (by omega) e1 rfl (w := w) (a0 := 135) (st := 94) hn
  have n3 := nx_s (T := T) (p := p) (a := [103, 97 + vG w]) (b := dig o ++ ([32] ++ (dig c ++ ([32] ++ (dig l ++ (ctx ks ++ ([59] ++ r))))))) e1 n2 (dig_h (by omega) _).1
  have n4 := num_s (lo := 0) (hi := 23) (x := o) (by omega) (Nat.zero_le _) o23 e2 (dig_h (by omega) _).1
  have n5 := num_s (lo := 0) (hi := 23) (x := c) (by omega) (Nat.zero_le _) c23 e3 (dig_h (by omega) _).1
  have n6 := num_g (lo := 0) (hi := 30) (x := l) (by omega) (Nat.zero_le _) l30 e4 (by cases ks with
    | nil => exact absurd hlen (Nat.lt_irrefl _)
    | cons a b => rfl)
  have n0 : tb T p.length = 103 := tb_pa e1 (i := 0) (Nat.zero_lt_succ _)
  have n0' : tb T (p.length + 1) = 97 + vG w := tb_pa e1 (i := 1) (Nat.lt_succ_self _)
  have hgh := uGh_5 (B := tb T) (n := T.length) (s := p.length) (w := w) n1 (by rw [n3]; exact n4) n5 n6
  obtain ⟨w2, hcm⟩ := cmU (a := 132 + vG w * 94) hr ks 0 _ (gatW (tb T) T.length w p.length (nn o) (nn c) (nn l)) e5 hk
  rw [hl] at hcm
  have hu := uGa_3 hgh hcm
  obtain ⟨hN, hoth⟩ := uGa_N g4 hI.1.2.1.2 hgh hcm
  obtain ⟨hw, hQ, hT⟩ := hI
  have md := hN.mda hw hT g4
  obtain ⟨vq1, vt1, vg1, vc1, ty1, l30', hl'⟩ := hN.vs hw g4
  have hbl := bld_exm g4 md l30' hl'
  obtain ⟨y1, y2, y3, y4⟩ := wfp_gat hw hT g4 hN hbl
  obtain ⟨wx, hwx⟩ : ∃ wx, wx = up w2 2 (nn (vG w + 1)) := ⟨_, rfl⟩
  obtain ⟨w', hw'⟩ : ∃ w', w' = bldW (up w2 2 (nn (vG w + 1))) (vG w) := ⟨_, rfl⟩
  rw [← hw'] at hbl y1 y2 y3 y4
  have q6 := hw.1.2
  have t8 := hw.2.1.2
  have at1 : ∀ j, ¬ (132 + vG w * 94 + 18 ≤ j ∧ j < 132 + vG w * 94 + 94) → w' j = up w2 2 (nn (vG w + 1)) j := fun j hj => bldR_at hbl hj
  have low : ∀ j, j ≠ 2 → j < 132 + vG w * 94 → w' j = w j := fun j a b => (at1 j (by omega)).trans (hN.2.1 j a b)
  have hlen2 : (((((p ++ ([103, 97 + vG w] ++ [32])) ++ (dig o ++ [32])) ++ (dig c ++ [32])) ++ dig l) ++ (ctx ks ++ [59])).length = (p ++ gtx (vG w) o c l ks).length := by unfold gtx; simp only [List.append_assoc]
  refine ⟨w', hu.trans (by rw [hlen2, hw']), ⟨y1, by omega, by omega⟩, y4, fun j hj => ?_, fun x hx => ?_, fun j a b => low j a (by omega)⟩
  · by_cases e : j = vG w
    · subst e
      have nm : ∀ i, i < 3 → w' (135 + vG w * 94 + i) = lyW w (135 + vG w * 94) (tb T) p.length 2 (135 + vG w * 94 + i) := fun i hi => by
        rw [at1 _ (by omega), hoth _ (by omega) (by omega)]
        show gatW (tb T) T.length w p.length (nn o) (nn c) (nn l) (135 + vG w * 94 + i) = _
        unfold gatW
        rw [n2, Nat.add_sub_cancel_left, up_ne (by omega), up_ne (by omega), up_ne (by omega), show 132 + vG w * 94 + 3 = 135 + vG w * 94 by omega]
      refine ⟨(nm 0 (by decide)).trans lyW_0, (nm 1 (by decide)).trans ?_, (nm 2 (by decide)).trans ?_⟩
      · have := lyW_i (w := w) (a := 135 + vG w * 94) (s := p.length) (len := 2) (B := tb T) (i := 0) (by decide)
        exact this.trans (congrArg nn n0)
      · have := lyW_i (w := w) (a := 135 + vG w * 94) (s := p.length) (len := 2) (B := tb T) (i := 1) (by decide)
        exact this.trans (congrArg nn n0')
    · rw [low _ (by omega) (by omega), low _ (by omega) (by omega), low _ (by omega) (by omega)]
      exact hn j (by omega)
  · rw [y4] at hx
    by_cases e : x = vG w
    · subst e
      refine bst_of (by rw [vq1]; exact q6) (by rw [vt1]; exact t8) (by rw [vt1]; exact hT) hbl ⟨?_, ?_, ?_, fun q hq => ?_, fun t ht => ⟨?_, ?_, ?_⟩⟩
      · rw [vq1, y2]
      · rw [vt1, y3]
      · unfold lmW; rw [at1 _ (by omega)]
      · rw [vq1] at hq; unfold qcW; rw [at1 _ (by omega)]
      · rw [vt1] at ht; unfold tyW; rw [at1 _ (by omega)]
      · rw [vt1] at ht; unfold tlW; rw [at1 _ (by omega)]
      · rw [vt1] at ht; unfold ctW; rw [at1 _ (by omega)]
    · have hx2 : x < vG w := by omega
      obtain ⟨-, -, e15, -⟩ := hw.tr hx2
      exact (hb x hx2).keep q6 t8 hT e15 (fun j a b => low j a (by omega))
end PB
