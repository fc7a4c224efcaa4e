/-! THE LAW'S TEXT PARSES: what is written so far -/
theorem tl_1 : tl 1 = [116, 111, 108, 108, 115] := by decide +kernel
theorem tl_2 : tl 2 = [97, 115, 107] := by decide +kernel
theorem tl_3 : tl 3 = [99, 97, 114, 116] := by decide +kernel
theorem tl_4 : tl 4 = [103, 97, 116, 101] := by decide +kernel
theorem tl_11 : tl 11 = [116, 111, 108, 108, 115, 59] := by decide +kernel
theorem tl_12 : tl 12 = [97, 115, 107, 32, 113] := by decide +kernel
theorem tl_13 : tl 13 = [99, 97, 114, 116, 32, 116] := by decide +kernel
theorem tl_14 : tl 14 = [32, 113] := by decide +kernel
theorem tl_15 : tl 15 = [103, 97, 116, 101, 32, 103] := by decide +kernel
theorem isL_all {a : List Nat} (h : a.all isL = true) : ∀ i, i < a.length → isL (tb a i) = true := fun i hi => by
  unfold tb
  rw [List.getD_eq_getElem?_getD, List.getElem?_eq_getElem hi]
  exact List.all_eq_true.mp h _ (List.getElem_mem hi)
def z0w : Nat → Int32 := zrow (fun _ => 0)
section PC
variable {t : List Nat} {q k g Q K : Nat}
def stQ (T : List Nat) (q s : Nat) (w : Nat → Int32) : Prop := vQ w = q ∧ qInv w ∧ nmI w 13 8 113 q ∧ zr9 w ∧ uLoop (tb T) T.length 2 6 vQ (uQu (tb T) T.length) 7 6 z0w = uLoop (tb T) T.length 2 6 vQ (uQu (tb T) T.length) (7 - q) s w
/-- q questions are written -/
def PQ (q : Nat) (t : List Nat) : Prop := asc t ∧ t.length ≤ 6 + 10 * q ∧ ((q = 0 ∧ t = tl 11) ∨ ∃ u, t = tl 11 ++ 97 :: u) ∧ ∀ r, (tb r 0 = 97 ∨ (tb r 0 = 99 ∧ 0 < q)) → ∃ w, stQ (t ++ r) q t.length w
def stT (T : List Nat) (Q k s : Nat) (w : Nat → Int32) : Prop := vQ w = Q ∧ vT w = k ∧ tInv w ∧ nmI w 13 8 113 Q ∧ nmI w 62 9 116 k ∧ zr9 w ∧ ∃ q3, uLoop (tb T) T.length 2 6 vQ (uQu (tb T) T.length) 7 6 z0w = .ok q3 ∧ uLoop (tb T) T.length 3 8 vT (uTy (tb T) T.length) 9 q3.1 q3.2 = uLoop (tb T) T.length 3 8 vT (uTy (tb T) T.length) (9 - k) s w
/-- .. and k types -/
def PT (Q k : Nat) (t : List Nat) : Prop := asc t ∧ t.length ≤ 6 + 10 * Q + 30 * k ∧ (∃ u, t = tl 11 ++ 97 :: u) ∧ ∀ r, (tb r 0 = 99 ∨ (tb r 0 = 103 ∧ 0 < k)) → ∃ w, stT (t ++ r) Q k t.length w
def stG (T : List Nat) (K g s : Nat) (w : Nat → Int32) : Prop := gInv w ∧ vT w = K ∧ vG w = g ∧ nmI w 135 94 103 g ∧ zr9 w ∧ (∀ x, x < vG w → bstW w x) ∧ ∃ q3 q4, uLoop (tb T) T.length 2 6 vQ (uQu (tb T) T.length) 7 6 z0w = .ok q3 ∧ uLoop (tb T) T.length 3 8 vT (uTy (tb T) T.length) 9 q3.1 q3.2 = .ok q4 ∧ uLoop (tb T) T.length 4 4 vG (uGa (tb T) T.length) 5 q4.1 q4.2 = uLoop (tb T) T.length 4 4 vG (uGa (tb T) T.length) (5 - g) s w
/-- .. and g gates -/
def PG (Q K g : Nat) (t : List Nat) : Prop := asc t ∧ t.length ≤ 6 + 10 * Q + 30 * K + 45 * g ∧ (∃ u, t = tl 11 ++ 97 :: u) ∧ ∀ r, (tb r 0 = 103 ∨ (r = [] ∧ 0 < g)) → ∃ w, stG (t ++ r) K g t.length w
theorem z0_inv : qInv z0w ∧ vQ z0w = 0 := zrow_inv _
theorem PQ_0 : PQ 0 (tl 11) := by
  refine ⟨tl_asc (by decide), by rw [tl_11]; decide, Or.inl ⟨rfl, rfl⟩, fun r _ => ⟨z0w, z0_inv.2, z0_inv.1, fun j hj => absurd hj (Nat.not_lt_zero j), fun j a b => if_pos (by omega), ?_⟩⟩
  rw [tl_11]
  rfl
theorem len1 (x : Nat) (l : List Nat) : (l ++ [x]).length = l.length + 1 := by rw [List.length_append]; rfl
theorem dig_2 (c : Nat) : (dig c).length ≤ 2 := by rw [dig_len]; split <;> omega
theorem asc1 {x : Nat} (h : x < 128) : asc [x] := fun y hy => by rw [List.mem_singleton.mp hy]; exact h
theorem PQ_s {c : Nat} (h : PQ q t) (q6 : q < 6) (c1 : 1 ≤ c) (c9 : c ≤ 9) : PQ (q + 1) (((((t ++ tl 12) ++ [97 + q]) ++ [32]) ++ dig c) ++ [59]) := by
  obtain ⟨ha, hl, hu, hr⟩ := h
  have hd := dig_2 c
  refine ⟨asc_app (asc_app (asc_app (asc_app (asc_app ha (tl_asc (by decide))) (asc1 (by omega))) (asc1 (by decide))) (dig_asc (by omega))) (asc1 (by decide)), ?_, Or.inr ?_, fun r h2 => ?_⟩
  · rw [len1, List.length_append, len1, len1, List.length_append, tl_12]
    have : ([97, 115, 107, 32, 113] : List Nat).length = 5 := rfl
    omega
  · rcases hu with ⟨-, e⟩ | ⟨u, e⟩
    · exact ⟨[115, 107, 32, 113] ++ ([97 + q] ++ ([32] ++ (dig c ++ [59]))), by rw [e, tl_12]; simp only [List.append_assoc, List.cons_append, List.nil_append]⟩
    · exact ⟨u ++ (tl 12 ++ ([97 + q] ++ ([32] ++ (dig c ++ [59])))), by rw [e]; simp only [List.append_assoc, List.cons_append, List.nil_append]⟩
  · obtain ⟨r', er⟩ : ∃ r', r' = [97, 115, 107] ++ ([32] ++ (qtx q c ++ r)) := ⟨_, rfl⟩
    have eT : (((((t ++ tl 12) ++ [97 + q]) ++ [32]) ++ dig c) ++ [59]) ++ r = t ++ r' := by
      rw [er, tl_12]
      unfold qtx
      simp only [List.append_assoc, List.cons_append, List.nil_append]
    rw [eT]
    obtain ⟨w, v1, v2, v3, v4, v5⟩ := hr r' (Or.inl (by rw [er]; rfl))
    have e1 : t ++ r' = t ++ ([97, 115, 107] ++ ([32] ++ (qtx q c ++ r))) := by rw [er]
    have e2 : t ++ r' = (t ++ ([97, 115, 107] ++ [32])) ++ (qtx q c ++ r) := by rw [e1]; simp only [List.append_assoc]
    have hw := wd_t (i := 2) (by decide) e1 tl_2.symm (by decide) (isL_all (by decide)) rfl
    have hk := (kd_w e1 (by decide) (isL_all (by decide)) rfl).2
    have hnx := nx_s e1 hk (by decide : (113 : Nat) ≠ 32)
    have hr32 : tb r 0 ≠ 32 := by
      rcases h2 with h2 | h2
      · rw [h2]; decide
      · rw [h2.1]; decide
    obtain ⟨w', x1, x2, x3, x4⟩ := quU e2 hr32 v1 q6 c1 c9 v3
    have hs := uLoop_s (i := 2) (lim := 6) (cnt := vQ) (u := uQu (tb (t ++ r')) (t ++ r').length) (f := 6 - q) hw (by rw [v1]; omega) (by rw [hnx]; exact x1)
    refine ⟨w', x2, (uQu_inv v2 (by rw [v1]; exact q6) x1).1, x3, fun j a b => (x4 j (by omega) b).trans (v4 j a b), ?_⟩
    rw [v5, show 7 - q = 6 - q + 1 by omega, hs, show 7 - (q + 1) = 6 - q by omega]
    have el : ((t ++ ([97, 115, 107] ++ [32])) ++ qtx q c).length = (((((t ++ tl 12) ++ [97 + q]) ++ [32]) ++ dig c) ++ [59]).length := by
      rw [tl_12]
      unfold qtx
      simp only [List.append_assoc, List.cons_append, List.nil_append]
    show uLoop _ _ _ _ _ _ _ ((t ++ ([97, 115, 107] ++ [32])) ++ qtx q c).length w' = _
    rw [el]
theorem PT_0 (h : PQ Q t) (h0 : 0 < Q) (h6 : Q ≤ 6) : PT Q 0 t := by
  obtain ⟨ha, hl, hu, hr⟩ := h
  refine ⟨ha, by omega, hu.resolve_left (fun z => by omega), fun r h2 => ?_⟩
  have h99 : tb r 0 = 99 := h2.resolve_right (fun z => absurd z.2 (by decide))
  obtain ⟨w, v1, v2, v3, v4, v5⟩ := hr r (Or.inr ⟨h99, h0⟩)
  have hw := wd_f (i := 2) (by decide) (by decide) (T := t ++ r) (p := t) (b := r) rfl h99 (by rw [tl_2]; decide) (by decide)
  have hd := uLoop_d (i := 2) (lim := 6) (cnt := vQ) (u := uQu (tb (t ++ r)) (t ++ r).length) (f := 6 - Q) hw (by rw [v1]; omega)
  rw [show 6 - Q + 1 = 7 - Q by omega] at hd
  have hok := v5.trans hd
  obtain ⟨i1, i2⟩ := uLoopQ_inv z0_inv.1 hok
  exact ⟨w, v1, i2, i1, v3, fun j hj => absurd hj (Nat.not_lt_zero j), v4, (t.length, w), hok, rfl⟩
theorem PT_s {c : Nat} {ks : List Nat} (h : PT Q k t) (k8 : k < 8) (c9 : c ≤ 99) (Q6 : Q ≤ 6) (hk : ∀ x ∈ ks, x < Q) (hp : List.Pairwise (· < ·) ks) (hl6 : ks.length ≤ 6) (hlv : (vtx ks).length ≤ 18) (hav : asc (vtx ks)) : PT Q (k + 1) ((((((t ++ tl 13) ++ [97 + k]) ++ [32]) ++ dig c) ++ vtx ks) ++ [59]) := by
  obtain ⟨ha, hl, ⟨u, hu⟩, hr⟩ := h
  have hd := dig_2 c
  refine ⟨asc_app (asc_app (asc_app (asc_app (asc_app (asc_app ha (tl_asc (by decide))) (asc1 (by omega))) (asc1 (by decide))) (dig_asc (by omega))) hav) (asc1 (by decide)), ?_, ⟨u ++ (tl 13 ++ ([97 + k] ++ ([32] ++ (dig c ++ (vtx ks ++ [59]))))), by rw [hu]; simp only [List.append_assoc, List.cons_append, List.nil_append]⟩, fun r h2 => ?_⟩
  · rw [len1, List.length_append, List.length_append, len1, len1, List.length_append, tl_13]
    have : ([99, 97, 114, 116, 32, 116] : List Nat).length = 6 := rfl
    omega
  · obtain ⟨r', er⟩ : ∃ r', r' = [99, 97, 114, 116] ++ ([32] ++ (ttx k c ks ++ r)) := ⟨_, rfl⟩
    have eT : ((((((t ++ tl 13) ++ [97 + k]) ++ [32]) ++ dig c) ++ vtx ks) ++ [59]) ++ r = t ++ r' := by
      rw [er, tl_13]
      unfold ttx
      simp only [List.append_assoc, List.cons_append, List.nil_append]
    rw [eT]
    obtain ⟨w, v1, v2, v3, v4, v5, v6, q3, v7, v8⟩ := hr r' (Or.inl (by rw [er]; rfl))
    have e1 : t ++ r' = t ++ ([99, 97, 114, 116] ++ ([32] ++ (ttx k c ks ++ r))) := by rw [er]
    have e2 : t ++ r' = (t ++ ([99, 97, 114, 116] ++ [32])) ++ (ttx k c ks ++ r) := by rw [e1]; simp only [List.append_assoc]
    have hw := wd_t (i := 3) (by decide) e1 tl_3.symm (by decide) (isL_all (by decide)) rfl
    have hk' := (kd_w e1 (by decide) (isL_all (by decide)) rfl).2
    have hnx := nx_s e1 hk' (by decide : (116 : Nat) ≠ 32)
    have hr32 : tb r 0 ≠ 32 := by
      rcases h2 with h2 | h2
      · rw [h2]; decide
      · rw [h2.1]; decide
    obtain ⟨w', x1, x2, x3, x4⟩ := tyU e2 hr32 v2 k8 c9 v5 (by omega) (by rw [v1]; exact v4) (fun x hx => by rw [v1]; exact hk x hx) hp hl6
    have hs := uLoop_s (i := 3) (lim := 8) (cnt := vT) (u := uTy (tb (t ++ r')) (t ++ r').length) (f := 8 - k) hw (by rw [v2]; omega) (by rw [hnx]; exact x1)
    refine ⟨w', ?_, x2, (uTy_inv v3 (by rw [v2]; exact k8) x1).1, fun j hj => ?_, x3, fun j a b => (x4 j (by omega) (by omega)).trans (v6 j a b), q3, v7, ?_⟩
    · rw [← v1]; unfold vQ; rw [x4 0 (by decide) (by decide)]
    · rw [x4 _ (by omega) (by omega), x4 _ (by omega) (by omega), x4 _ (by omega) (by omega)]
      exact v4 j hj
    · rw [v8, show 9 - k = 8 - k + 1 by omega, hs, show 9 - (k + 1) = 8 - k by omega]
      have el : ((t ++ ([99, 97, 114, 116] ++ [32])) ++ ttx k c ks).length = ((((((t ++ tl 13) ++ [97 + k]) ++ [32]) ++ dig c) ++ vtx ks) ++ [59]).length := by
        rw [tl_13]
        unfold ttx
        simp only [List.append_assoc, List.cons_append, List.nil_append]
      show uLoop _ _ _ _ _ _ _ ((t ++ ([99, 97, 114, 116] ++ [32])) ++ ttx k c ks).length w' = _
      rw [el]
theorem PG_0 (h : PT Q K t) (h0 : 0 < K) (h8 : K ≤ 8) : PG Q K 0 t := by
  obtain ⟨ha, hl, hu, hr⟩ := h
  refine ⟨ha, by omega, hu, fun r h2 => ?_⟩
  have h103 : tb r 0 = 103 := h2.resolve_right (fun z => absurd z.2 (by decide))
  obtain ⟨w, v1, v2, v3, v4, v5, v6, q3, v7, v8⟩ := hr r (Or.inr ⟨h103, h0⟩)
  have hw := wd_f (i := 3) (by decide) (by decide) (T := t ++ r) (p := t) (b := r) rfl h103 (by rw [tl_3]; decide) (by decide)
  have hd := uLoop_d (i := 3) (lim := 8) (cnt := vT) (u := uTy (tb (t ++ r)) (t ++ r).length) (f := 8 - K) hw (by rw [v2]; omega)
  rw [show 8 - K + 1 = 9 - K by omega] at hd
  have hok := v8.trans hd
  obtain ⟨j1, j2⟩ := uLoopQ_inv z0_inv.1 v7
  obtain ⟨i1, i2⟩ := uLoopT_inv j1 hok
  exact ⟨w, i1, v2, i2, fun j hj => absurd hj (Nat.not_lt_zero j), v6, fun x hx => by rw [i2] at hx; exact absurd hx (Nat.not_lt_zero x), q3, (t.length, w), v7, hok, rfl⟩
theorem PG_s {o c l : Nat} {ks : List Nat} (h : PG Q K g t) (g4 : g < 4) (o23 : o ≤ 23) (c23 : c ≤ 23) (l30 : l ≤ 30) (hk : ∀ x ∈ ks, x < 100) (hlk : ks.length = K) (hlv : (ctx ks).length ≤ 24) (hav : asc (ctx ks)) : PG Q K (g + 1) ((((((((((t ++ tl 15) ++ [97 + g]) ++ [32]) ++ dig o) ++ [32]) ++ dig c) ++ [32]) ++ dig l) ++ ctx ks) ++ [59]) := by
  obtain ⟨ha, hl, ⟨u, hu⟩, hr⟩ := h
  have hd1 := dig_2 o
  have hd2 := dig_2 c
  have hd3 := dig_2 l
  refine ⟨asc_app (asc_app (asc_app (asc_app (asc_app (asc_app (asc_app (asc_app (asc_app (asc_app ha (tl_asc (by decide))) (asc1 (by omega))) (asc1 (by decide))) (dig_asc (by omega))) (asc1 (by decide))) (dig_asc (by omega))) (asc1 (by decide))) (dig_asc (by omega))) hav) (asc1 (by decide)), ?_, ⟨u ++ (tl 15 ++ ([97 + g] ++ ([32] ++ (dig o ++ ([32] ++ (dig c ++ ([32] ++ (dig l ++ (ctx ks ++ [59]))))))))), by rw [hu]; simp only [List.append_assoc, List.cons_append, List.nil_append]⟩, fun r h2 => ?_⟩
  · rw [len1, List.length_append, List.length_append, len1, List.length_append, len1, List.length_append, len1, len1, List.length_append, tl_15]
    have : ([103, 97, 116, 101, 32, 103] : List Nat).length = 6 := rfl
    omega
  · obtain ⟨r', er⟩ : ∃ r', r' = [103, 97, 116, 101] ++ ([32] ++ (gtx g o c l ks ++ r)) := ⟨_, rfl⟩
    have eT : ((((((((((t ++ tl 15) ++ [97 + g]) ++ [32]) ++ dig o) ++ [32]) ++ dig c) ++ [32]) ++ dig l) ++ ctx ks) ++ [59]) ++ r = t ++ r' := by
      rw [er, tl_15]
      unfold gtx
      simp only [List.append_assoc, List.cons_append, List.nil_append]
    rw [eT]
    obtain ⟨w, v1, v2, v3, v4, v5, v6, q3, q4, v7, v8, v9⟩ := hr r' (Or.inl (by rw [er]; rfl))
    have e1 : t ++ r' = t ++ ([103, 97, 116, 101] ++ ([32] ++ (gtx g o c l ks ++ r))) := by rw [er]
    have e2 : t ++ r' = (t ++ ([103, 97, 116, 101] ++ [32])) ++ (gtx g o c l ks ++ r) := by rw [e1]; simp only [List.append_assoc]
    have hw := wd_t (i := 4) (by decide) e1 tl_4.symm (by decide) (isL_all (by decide)) rfl
    have hk' := (kd_w e1 (by decide) (isL_all (by decide)) rfl).2
    have hnx := nx_s e1 hk' (by decide : (103 : Nat) ≠ 32)
    have hr32 : tb r 0 ≠ 32 := by
      rcases h2 with h2 | h2
      · rw [h2]; decide
      · rw [h2.1]; decide
    obtain ⟨w', x1, x2, x3, x4, x5, x6⟩ := gaU e2 hr32 v3 g4 o23 c23 l30 v4 v1 hk (hlk.trans v2.symm) v6
    have hs := uLoop_s (i := 4) (lim := 4) (cnt := vG) (u := uGa (tb (t ++ r')) (t ++ r').length) (f := 4 - g) hw (by rw [v3]; omega) (by rw [hnx]; exact x1)
    refine ⟨w', x2, ?_, x3, x4, fun j a b => (x6 j (by omega) (by omega)).trans (v5 j a b), x5, q3, q4, v7, v8, ?_⟩
    · rw [← v2]; unfold vT; rw [x6 1 (by decide) (by decide)]
    · rw [v9, show 5 - g = 4 - g + 1 by omega, hs, show 5 - (g + 1) = 4 - g by omega]
      have el : ((t ++ ([103, 97, 116, 101] ++ [32])) ++ gtx g o c l ks).length = ((((((((((t ++ tl 15) ++ [97 + g]) ++ [32]) ++ dig o) ++ [32]) ++ dig c) ++ [32]) ++ dig l) ++ ctx ks) ++ [59]).length := by
        rw [tl_15]
        unfold gtx
        simp only [List.append_assoc, List.cons_append, List.nil_append]
      show uLoop _ _ _ _ _ _ _ ((t ++ ([103, 97, 116, 101] ++ [32])) ++ gtx g o c l ks).length w' = _
      rw [el]
theorem PG_end (h : PG Q K g t) (h0 : 0 < g) (g4 : g ≤ 4) : ∃ w', uText (tb t) t.length (fun _ => 0) = .ok (w', 0) ∧ wfs w' ∧ vT w' = K ∧ vG w' = g ∧ zr9 w' ∧ ∀ x, x < vG w' → bstW w' x := by
  obtain ⟨ha, hl, ⟨u, hu⟩, hr⟩ := h
  obtain ⟨w, v1, v2, v3, v4, v5, v6, q3, q4, v7, v8, v9⟩ := hr [] (Or.inr ⟨rfl, h0⟩)
  rw [List.append_nil] at v7 v8 v9
  have k3 : kd (tb t) t.length t.length = 3 := if_pos (Nat.le_refl _)
  have hw : wd (tb t) t.length t.length 4 = false := by
    unfold wd
    rw [k3]
    rfl
  have hd := uLoop_d (i := 4) (lim := 4) (cnt := vG) (u := uGa (tb t) t.length) (f := 4 - g) hw (by rw [v3]; omega)
  rw [show 4 - g + 1 = 5 - g by omega] at hd
  have hok := v9.trans hd
  obtain ⟨j1, j2⟩ := uLoopQ_inv z0_inv.1 v7
  obtain ⟨i1, i2⟩ := uLoopT_inv j1 v8
  have hwf := uLoopG_inv i1 hok
  have e1 : t = [] ++ ([116, 111, 108, 108, 115] ++ ([59] ++ (97 :: u))) := by rw [hu, tl_11]; rfl
  have e2 : t = [116, 111, 108, 108, 115] ++ ([59] ++ (97 :: u)) := e1
  have s0 : skp (tb t) t.length 0 = 0 := skp_n (p := []) (b := t) rfl (by rw [e2]; exact (show (116 : Nat) ≠ 32 by decide))
  have hwd := wd_t (i := 1) (by decide) e1 tl_1.symm (by decide) (isL_all (by decide)) rfl
  have hk := (kd_w e1 (by decide) (isL_all (by decide)) rfl).2
  have hnx := nx_n e1 hk (by decide : (59 : Nat) ≠ 32)
  have hp : pWord (tb t) t.length 1 0 = .ok (5, 1) := by
    unfold pWord
    rw [show wd (tb t) t.length 0 1 = true from hwd, if_pos rfl, show nx (tb t) t.length 0 = 5 from hnx]
  have hs : pSem (tb t) t.length 5 = .ok (6, 1) := sem_n (p := [116, 111, 108, 108, 115]) (b := 97 :: u) e2 (by decide : (97 : Nat) ≠ 32)
  have hset : uSet (tb t) t.length (zrow (fun _ => 0)) (skp (tb t) t.length 0) = .ok (t.length, w) := by
    rw [s0]
    exact (uSet_5 (w := z0w) hp hs v7 v8).trans hok
  exact ⟨w, (uText_o hset).trans (uAll_3 k3), hwf, v2, v3, v5, v6⟩
end PC
