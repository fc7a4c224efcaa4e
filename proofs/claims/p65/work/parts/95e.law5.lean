/-! THE LAW: its first steps, up to the class that is made; here the cells are numbered anew -/
section VV
variable {p : Program} {l : Launch} {e : Env} {s : State} {m : MethodId} {args : Array Value} {below : List Frame} {meth : Method} {c : Code} {D : am_D} {A : Nat → Prop}
/-- the judgement at one start -/
def am_V (p : Program) (l : Launch) (e : Env) (s : State) (m : MethodId) (args : Array Value) (below : List Frame) (meth : Method) (c : Code) (D : am_D) (A : Nat → Prop) (Z : State → Prop) (mi : am_M) (d mc ms bc bs pc : Nat) (ls : List (Nat × Value)) (st : List Value) (Γ : am_G) (I : am_I) (L : am_L) : Prop :=
  ∀ (x : am_X) (H : Heap) (locs : List Loc) (cells slots : Nat) (la : Array Slot), am_B D A x Γ I L s H → va_S A s.heap H locs → cells + bc ≤ mc → slots + bs ≤ ms → lv_has la mi.2.2.1 (am_lc D x ls) → W p l e (am_rm d mc ms) s m args below meth c H locs cells slots Z (F0 m pc la (st.map (am_cv D x)))
variable {Z : State → Prop} {mi : am_M} {d mc ms bc bs pc : Nat} {ls : List (Nat × Value)} {st : List Value} {Γ : am_G} {I : am_I} {L : am_L}
theorem av_iconst (S : am_St mi p l s m args meth c D A) {n : Int} {v : Int32} (hd : decode mi.2.1 pc = .ok (.iconst n, 1)) (hv : Int32.ofInt n = v) (kk : am_V p l e s m args below meth c D A Z mi d mc ms bc bs (pc + 1) ls (.int v :: st) Γ I L) : am_V p l e s m args below meth c D A Z mi d mc ms bc bs pc ls st Γ I L := fun _ _ _ _ _ _ h2 h3 h4 h5 h6 => lv_iconst S.1 S.2.1 hd hv (kk _ _ _ _ _ _ h2 h3 h4 h5 h6)
theorem av_iload_n (S : am_St mi p l s m args meth c D A) {k : Fin 4} {y : Int32} (hd : decode mi.2.1 pc = .ok (.iload_n k, 1)) (hg : am_get ls (k : Nat) = some (.int y)) (kk : am_V p l e s m args below meth c D A Z mi d mc ms bc bs (pc + 1) ls (.int y :: st) Γ I L) : am_V p l e s m args below meth c D A Z mi d mc ms bc bs pc ls st Γ I L := fun _ _ _ _ _ _ h2 h3 h4 h5 h6 => lv_iload_n S.1 S.2.1 hd rfl (am_loc h6 hg) (kk _ _ _ _ _ _ h2 h3 h4 h5 h6)
theorem av_aload_nT (S : am_St mi p l s m args meth c D A) {k : Fin 4} {y : Nat} (hd : decode mi.2.1 pc = .ok (.aload_n k, 1)) (hg : am_get ls (k : Nat) = some (.retAddr y)) (kk : am_V p l e s m args below meth c D A Z mi d mc ms bc bs (pc + 1) ls (.retAddr y :: st) Γ I L) : am_V p l e s m args below meth c D A Z mi d mc ms bc bs pc ls st Γ I L := fun _ _ _ _ _ _ h2 h3 h4 h5 h6 => lv_aload_n S.1 S.2.1 hd rfl (am_loc h6 hg) (kk _ _ _ _ _ _ h2 h3 h4 h5 h6)
theorem av_istore_n (S : am_St mi p l s m args meth c D A) {k : Fin 4} {y : Int32} {ls' : List (Nat × Value)} (hd : decode mi.2.1 pc = .ok (.istore_n k, 1)) (hn : (k : Nat) < mi.2.2.1) (hl : am_set1 (k : Nat) (.int y) ls = ls') (kk : am_V p l e s m args below meth c D A Z mi d mc ms bc bs (pc + 1) ls' st Γ I L) : am_V p l e s m args below meth c D A Z mi d mc ms bc bs pc ls (.int y :: st) Γ I L := fun _ _ _ _ _ _ h2 h3 h4 h5 h6 => lv_istore_n S.1 S.2.1 hd rfl h6 hn rfl (fun la' h' => kk _ _ _ _ _ _ h2 h3 h4 h5 (am_put1 (v := .int y) rfl h' hl))
theorem av_astore_n (S : am_St mi p l s m args meth c D A) {k : Fin 4} {y : Nat} {ls' : List (Nat × Value)} (hd : decode mi.2.1 pc = .ok (.astore_n k, 1)) (hn : (k : Nat) < mi.2.2.1) (hl : am_set1 (k : Nat) (.ref y) ls = ls') (kk : am_V p l e s m args below meth c D A Z mi d mc ms bc bs (pc + 1) ls' st Γ I L) : am_V p l e s m args below meth c D A Z mi d mc ms bc bs pc ls (.ref y :: st) Γ I L := fun _ _ _ _ _ _ h2 h3 h4 h5 h6 => lv_astore_n S.1 S.2.1 hd rfl h6 hn rfl (fun la' h' => kk _ _ _ _ _ _ h2 h3 h4 h5 (am_put1 (v := .ref y) rfl h' hl))
theorem av_dup (S : am_St mi p l s m args meth c D A) {v : Value} (hd : decode mi.2.1 pc = .ok (.dup, 1)) (hc : v.category = 1) (kk : am_V p l e s m args below meth c D A Z mi d mc ms bc bs (pc + 1) ls (v :: v :: st) Γ I L) : am_V p l e s m args below meth c D A Z mi d mc ms bc bs pc ls (v :: st) Γ I L := fun _ _ _ _ _ _ h2 h3 h4 h5 h6 => lv_dup S.1 S.2.1 hd ((am_cat D _ v).trans hc) (kk _ _ _ _ _ _ h2 h3 h4 h5 h6)
theorem av_icmp_ge (S : am_St mi p l s m args meth c D A) {x y : Int32} {off : Int} {tgt : Nat} (hd : decode mi.2.1 pc = .ok (.if_icmp .ge off, 3)) (ht : (pc : Int) + off = (tgt : Int)) (kt : y ≤ x → am_V p l e s m args below meth c D A Z mi d mc ms bc bs tgt ls st Γ I L) (kf : ¬ y ≤ x → am_V p l e s m args below meth c D A Z mi d mc ms bc bs (pc + 3) ls st Γ I L) : am_V p l e s m args below meth c D A Z mi d mc ms bc bs pc ls (.int y :: .int x :: st) Γ I L := fun _ _ _ _ _ _ h2 h3 h4 h5 h6 => lv_icmp_ge S.1 S.2.1 hd ht (fun z => (kt z) _ _ _ _ _ _ h2 h3 h4 h5 h6) (fun z => (kf z) _ _ _ _ _ _ h2 h3 h4 h5 h6)
theorem av_sld (S : am_St mi p l s m args meth c D A) {n : Nat} {xs : Nat → Int32} {j : Int32} (hsc : mi.2.2.2.2.2 = some (n, xs)) (hd : decode mi.2.1 pc = .ok (.iaload, 1)) (hj : vp_in j n) (kk : am_V p l e s m args below meth c D A Z mi d mc ms bc bs (pc + 1) ls (.int (xs j.toNatClampNeg) :: st) Γ I L) : am_V p l e s m args below meth c D A Z mi d mc ms bc bs pc ls (.int j :: .retAddr 60 :: st) Γ I L := fun _ _ _ _ _ _ h2 h3 h4 h5 h6 => va_ti S.1 S.2.1 (S.2.2.2.2.2.2.2.2.2.2.1.2 n xs hsc) h3 hj rfl hd (kk _ _ _ _ _ _ h2 h3 h4 h5 h6)
theorem av_slen (S : am_St mi p l s m args meth c D A) {n : Nat} {xs : Nat → Int32} {v : Int32} (hsc : mi.2.2.2.2.2 = some (n, xs)) (hd : decode mi.2.1 pc = .ok (.arraylength, 1)) (hv : Int32.ofNat n = v) (kk : am_V p l e s m args below meth c D A Z mi d mc ms bc bs (pc + 1) ls (.int v :: st) Γ I L) : am_V p l e s m args below meth c D A Z mi d mc ms bc bs pc ls (.retAddr 60 :: st) Γ I L := fun _ _ _ _ _ _ h2 h3 h4 h5 h6 => va_tlen S.1 S.2.1 (S.2.2.2.2.2.2.2.2.2.2.1.2 n xs hsc) h3 hv hd (kk _ _ _ _ _ _ h2 h3 h4 h5 h6)
theorem av_iast (S : am_St mi p l s m args meth c D A) {k n : Nat} {i : Int32} {y : Int32} (hd : decode mi.2.1 pc = .ok (.iastore, 1)) (ha : am_ar Γ k 1 n 0) (hi : vp_in i n) (kk : am_V p l e s m args below meth c D A Z mi d mc ms bc bs (pc + 1) ls st Γ (am_u I k i.toNatClampNeg y) L) : am_V p l e s m args below meth c D A Z mi d mc ms bc bs pc ls (.int y :: .int i :: .ref k :: st) Γ I L := by
  intro x H locs cells slots la h2 h3 h4 h5 h6
  refine va_iast S.1 S.2.1 (am_ar_K S h2.2.2 ha (by decide)) h2.1 h2.2.1 h3 k 0 (am_ar_at ha) rfl hi hd (fun H1 locs1 g1 g2 g3 => ?_)
  rw [am_ws_set (I' := (am_u I k i.toNatClampNeg y)) (L' := L) (Γ' := Γ) ha.1 rfl (by rw [ha.2, am_u_self]; rfl) (fun j hj => ⟨rfl, am_u_ne hj, rfl, rfl⟩)] at g1 g2
  exact kk _ _ _ _ _ _ ⟨g1, g2, h2.2.2⟩ g3 h4 h5 h6
theorem av_newI (S : am_St mi p l s m args meth c D A) {y : Int32} {n : Nat} (hd : decode mi.2.1 pc = .ok (.newarray .int, 2)) (hw : Cond.arrayClass .int ∈ am_Gl) (g1 : ¬ y < 0) (g2 : y.toNatClampNeg = n) (g3 : n ≤ 10000) (hls : ∀ z ∈ ls, am_ok Γ z.2) (hst : ∀ v ∈ st, am_ok Γ v) (kk : am_V p l e s m args below meth c D A Z mi d mc ms bc bs (pc + 2) ls (.ref Γ.1 :: st) (am_nG Γ (1, n, 0)) (am_nI Γ I) (am_nL Γ L)) : am_V p l e s m args below meth c D A Z mi d mc ms (bc + 1) (bs + n) pc ls (.int y :: st) Γ I L := by
  intro x H locs cells slots la h2 h3 h4 h5 h6
  have hts := S.2.2.2.2.2.2.1
  refine va_newa (atype := .int) (ty := .int) (tys := []) (a0 := (n, .inl (fun _ => 0))) S.1 S.2.1 (hts _ hw) rfl (S.K (fun _ _ h => by cases h)) h2.1 h2.2.1 h3 S.2.2.2.2.2.2.2.2.2.2.1.1 (fun _ => rfl) g1 g2 (by simp only [componentBytes]; omega) (by show cells + 1 ≤ mc; omega) (by show slots + n ≤ ms; omega) hd (fun q cA H1 gK q1 q2 q3 => ?_)
  have ew := am_push (I := I) (L := L) (x := x) (q := q) (cA := cA) (t := (1, n, 0)) h2.2.2.2 (e' := .inl (cA, (n, .inl (fun _ => 0)))) (by
    show (Sum.inl (va_up x.2 Γ.1 cA Γ.1, _) : va_E) = _
    rw [va_up_self])
  rw [ew] at q1 q2
  have k := kk (va_up x.1 Γ.1 q, va_up x.2 Γ.1 cA) H1 locs (cells + 1) (slots + n) la ⟨q1, q2, am_nT h2.2.2 (fun _ => gK.2 0 _ rfl)⟩ q3 (by omega) (by omega) (by rw [am_n_ls hls]; exact h6)
  rw [am_n_st hst] at k
  exact k
theorem av_new (S : am_St mi p l s m args meth c D A) {i ci N : Nat} {C : String} {T : u_T} (hd : decode mi.2.1 pc = .ok (.new i, 3)) (hc : vwCl[ci]? = some (C, T, N)) (hcl : Cond.classLink mi.1.cls i C ∈ am_Gl) (hi : Cond.instantiable C N ∈ am_Gl) (hn : Cond.initialized C ∈ am_Gl) (hls : ∀ z ∈ ls, am_ok Γ z.2) (hst : ∀ v ∈ st, am_ok Γ v) (kk : am_V p l e s m args below meth c D A Z mi d mc ms bc bs (pc + 3) ls (.ref Γ.1 :: st) (am_nG Γ (0, ci, 0)) (am_nI Γ I) (am_nL Γ L)) : am_V p l e s m args below meth c D A Z mi d mc ms (bc + 1) (bs + N) pc ls st Γ I L := by
  intro x H locs cells slots la h2 h3 h4 h5 h6
  obtain ⟨w1, w2, w3, ty0, w4, w5⟩ := am_cks ci _ hc
  have hts := S.2.2.2.2.2.2.1
  refine va_new (fs := (List.range (am_nf ci)).map (fun f => am_fv x (am_ft ci f) 0 0 none)) S.1 S.2.1 hts w1 ty0 w4 S.2.2.2.2.2.1 (hts _ hcl) (hts _ hi) (hts _ hn) (S.K (tys := []) (fun _ _ h => by cases h)) h2.1 h2.2.1 h3 S.2.2.2.2.2.2.2.2.2.2.1.1 hc (fun j hj => ?_) (by show cells + 1 ≤ mc; omega) (by show slots + N ≤ ms; omega) hd (fun q H1 g1 g2 g3 => ?_)
  · rw [(w5 j hj).2.2]
    have hj' : j < am_nf ci := by rw [← w2]; exact hj
    unfold vp_V
    rw [List.getD_eq_getElem?_getD, List.getElem?_map, List.getElem?_range hj']
    exact am_fv0 _ _ _
  · have ew := am_push (I := I) (L := L) (x := x) (q := q) (cA := 0) (t := (0, ci, 0)) h2.2.2.2 (e' := .inr (ci, (List.range (am_nf ci)).map (fun f => am_fv x (am_ft ci f) 0 0 none))) (by
      show (Sum.inr (ci, _) : va_E) = .inr (ci, _)
      refine congrArg (fun z => (Sum.inr (ci, z) : va_E)) (List.map_congr_left (fun f _ => ?_))
      exact am_fv0 _ _ _)
    rw [ew] at g1 g2
    have k := kk (va_up x.1 Γ.1 q, va_up x.2 Γ.1 0) H1 locs (cells + 1) (slots + N) la ⟨g1, g2, am_nT h2.2.2 (fun z => absurd rfl z)⟩ g3 (by omega) (by omega) (by rw [am_n_ls hls]; exact h6)
    rw [am_n_st hst] at k
    exact k
/-- the class is made; its cells come first, then the state -/
theorem av_ctor {n : Nat} {xs : Nat → Int32} (S : am_St (m_W n xs) p l s m args meth c D A) (G2 : Γ.1 = 2) (t0 : Γ.2.1 0 = (1, 1, 0)) (t1 : Γ.2.1 1 = (0, 8, 0)) (z1 : I 1 = fun _ => 0) (y1 : L 1 = fun _ => 0) (r1 : Γ.2.2 1 = fun _ => none)
    (kk : ∀ Γ' I' L' w h, wF Γ' → Γ'.1 = 451 → am_ar Γ' 450 1 1 0 → CS I' L' w h 0 → I' 81 1 = 0 → am_V p l e s m args below meth c D A Z (m_W n xs) 290 mc ms bc bs 30 [(0, .retAddr 60), (1, .int 0), (2, .ref 450)] [.ref 0] Γ' I' L') :
    am_V p l e s m args below meth c D A Z (m_W n xs) 290 mc ms (bc + 449) (bs + 13825) 27 [(0, .retAddr 60), (1, .int 0), (2, .ref 0)] [.ref 1, .ref 1] Γ I L := by
  intro x H locs cells slots la h2 h3 h4 h5 h6
  have hm1 : cells + 449 ≤ mc := Nat.le_trans (Nat.add_le_add_left (Nat.le_add_left 449 bc) cells) h4
  have hm2 : slots + 13825 ≤ ms := Nat.le_trans (Nat.add_le_add_left (Nat.le_add_left 13825 bs) slots) h5
  have hm3 : (cells + 449) + bc ≤ mc := by rw [Nat.add_assoc, Nat.add_comm 449 bc]; exact h4
  have hm4 : (slots + 13825) + bs ≤ ms := by rw [Nat.add_assoc, Nat.add_comm 13825 bs]; exact h5
  obtain ⟨w', hU⟩ := setup0
  have hw' := uSet_wfs (zrow_inv (fun _ => 0)).1 hU
  have c0 := am_ws_at (x := x) (Γ := Γ) (I := I) (L := L) (k := 0) (by omega)
  have c1 := am_ws_at (x := x) (Γ := Γ) (I := I) (L := L) (k := 1) (by omega)
  obtain ⟨x1, hx1⟩ : ∃ x1 : am_X, x1 = (fun _ => x.1 1, fun _ => x.2 1) := ⟨_, rfl⟩
  obtain ⟨G1, hG1⟩ : ∃ G1 : am_G, G1 = (1, fun _ => (0, 8, 0), fun _ _ => none) := ⟨_, rfl⟩
  have hne : x.1 1 ≠ x.1 0 := fun z => absurd (h2.2.1.1 1 0 _ _ c1 c0 z) (by decide)
  obtain ⟨A', hA'⟩ : ∃ A' : Nat → Prop, A' = fun q => A q ∧ q ≠ x.1 0 := ⟨_, rfl⟩
  have a1 : ∀ q, A' q → A q := fun q z => by rw [hA'] at z; exact z.1
  have hlt0 : x.1 0 < H.size := (h2.1 0 _ c0).lt
  have w1 : ∀ k q, (am_ws x1 G1 (fun _ _ => 0) (fun _ _ => 0))[k]? = some q → k = 0 ∧ q = (x.1 1, am_ce x 1 (Γ.2.1 1) (I 1) (L 1) (Γ.2.2 1)) := fun k q hq => by
    by_cases hk : k < G1.1
    · have hk0 : k = 0 := by rw [hG1] at hk; have : k < 1 := hk; omega
      subst hk0
      rw [am_ws_at hk] at hq
      refine ⟨rfl, ?_⟩
      cases hq
      rw [t1, z1, y1, r1, hG1, hx1]
      refine Prod.ext rfl ?_
      show (Sum.inr (8, _) : va_E) = .inr (8, _)
      exact congrArg (fun z => (Sum.inr (8, z) : va_E)) (List.map_congr_left (fun f _ => am_fv0 _ _ _))
    · rw [am_ws_out hk] at hq; cases hq
  have hBs : ∀ U : State, s.vm.Alike U.vm → U.heap = H → am_B D A' x1 G1 (fun _ _ => 0) (fun _ _ => 0) U U.heap := fun U _ hU => by
    rw [hU]
    refine ⟨fun k q hq => ?_, ⟨fun i j p q hp hq _ => by rw [(w1 i p hp).1, (w1 j q hq).1], fun k q hq => ?_⟩, fun k hk h0 => ?_, fun j f r _ hr => ?_⟩
    · rw [(w1 k q hq).2]
      exact h2.1 1 _ c1
    · rw [(w1 k q hq).2, hA']
      exact ⟨h2.2.1.2 1 _ c1, hne⟩
    · rw [hG1] at h0
      exact absurd rfl h0
    · rw [hG1] at hr
      cases hr
  have hCt := cX8 (d := 281) (Γ := G1) (I := fun _ _ => 0) (L := fun _ _ => 0) (by rw [hG1]; exact ⟨Nat.zero_lt_one, rfl⟩) (by rw [hG1]) hU
  have hcb := am_cB (d := 289) (mc := mc) (ms := ms) (mc' := 449) (ms' := 13825) S k_X8_init l_L_268
  have hpre : ∀ U : State, U.heap = H → s.WarmedH U.vm → va_Pc ([Value.ref 0].map (am_cv D x1)) (am_P D A' x1 G1 (fun _ _ => 0) (fun _ _ => 0)) ([Value.ref 0].map (am_cv D x1)).toArray U := fun U hU hW => by
    refine ⟨rfl, fun q hq => ?_, am_Sx.narrow (S.2.2.2.2.2.2.2.2.2.2.2.to h3 hU hW) a1, hBs U hW.alike hU⟩
    rw [hA']
    have hq' : H.size ≤ q := by rw [← hU]; exact hq
    exact ⟨S.2.2.2.2.2.2.2.2.2.2.1.1 q (Nat.le_trans h3.1 hq'), by omega⟩
  have hd27 : decode (m_W n xs).2.1 27 = .ok (.invokespecial 268, 3) := dL_law_27
  have run := vx_runI (mc := 449) (ms := 13825) (n := 0) (index := 268) (meth := meth) (p := p) (l := l) (e := e) (R := am_rm 290 mc ms) (below := below) (H := H) (locs := locs) (cells := cells) (slots := slots) (g := F0 m 27 la ([Value.ref 1, .ref 1].map (am_cv D x))) (As := []) (b := x.1 1) (rest := [.ref (x.1 1)]) (am_fix S) (hCt l S.2.2.2.2.2.2.2.2.2.1 D A' x1) ⟨hcb, rfl, S.2.2.2.2.2.2.1 _ i_X8_init⟩ ⟨am_P_blind, fun U hU hW => by
      have := hpre U hU hW
      rw [hx1] at this ⊢
      exact this⟩ rfl rfl h6.1 rfl (by show 2 * 0 + 1 ≤ 8; decide) hd27 ⟨hm1, hm2⟩
  intro T hT X
  rcases run T hT X with ⟨v, st₀, t, T', L9, g0, X', hL, e1, e2, ⟨⟨v', Γ2, I2, L2, x2, ho, hq, ha, hb⟩, hF⟩, gs⟩ | ⟨q, st₀, t, T', L9, E, ce, g0, X', hL, e1, e2, ⟨⟨Γ2, I2, L2, x2, hq, ha, hb⟩, hF⟩, hce, hcv, hcl, gs⟩
  · obtain ⟨k1, k2, k3⟩ := vx_keep (A0 := A) (A1 := A') (free := A') g0 e1 h3 (fun q _ z => a1 q z) a1 hL hF
    have hvm : t.vm.Alike s.vm := by rw [← e2]; exact X'.warmed.alike.symm
    obtain ⟨hv, q1, q2, q3, q4, q5, q6, q7, q8⟩ := hq
    obtain rfl : v' = none := Sum.inl.inj hv
    have hv0 : v = none := by cases ho; rfl
    obtain ⟨g2, ty2, rf2⟩ := Γ2
    obtain rfl : g2 = 450 := q1
    have heq : T'.heap[x.1 0]? = H[x.1 0]? := k2 (x.1 0) hlt0 (fun z => by rw [hA'] at z; exact z.2 rfl)
    have hcl2 := hb.2.2.2
    have ew : am_ws x2 (450, ty2, rf2) I2 L2 ++ [(x.1 0, .inl (x.2 0, 1, .inl (I 0)))] = am_ws (va_up x2.1 450 (x.1 0), va_up x2.2 450 (x.2 0)) (am_nG (450, ty2, rf2) (1, 1, 0)) (va_up I2 450 (I 0)) (am_nL (450, ty2, rf2) L2) := by
      refine am_ws_push rfl (show va_up x2.1 450 (x.1 0) 450 = x.1 0 from va_up_self _ _ _) ?_ (fun j hj => ?_)
      · show am_ce _ _ (va_up ty2 450 (1, 1, 0) 450) (va_up I2 450 _ 450) (va_up L2 450 _ 450) (va_up rf2 450 _ 450) = _
        rw [va_up_self, va_up_self, va_up_self, va_up_self]
        show (Sum.inl (va_up x2.2 450 (x.2 0) 450, _) : va_E) = _
        rw [va_up_self]
      · have hj' : j < 450 := hj
        have hne : j ≠ 450 := by omega
        have u1 : ∀ {α : Type} (f : Nat → α) (w : α), va_up f 450 w j = f j := fun f w => if_neg hne
        refine ⟨u1 _ _, ?_⟩
        show am_ce _ _ (va_up ty2 450 (1, 1, 0) j) (va_up I2 450 _ j) (va_up L2 450 _ j) (va_up rf2 450 _ j) = _
        rw [u1, u1, u1, u1]
        refine am_ce_cong (u1 _ _) (fun f r hr => if_neg ?_)
        have := hcl2 j f r hj hr
        have h450 : r < 450 := this
        omega
    have hc0 : am_ce x 0 (Γ.2.1 0) (I 0) (L 0) (Γ.2.2 0) = .inl (x.2 0, 1, .inl (I 0)) := by
      rw [t0]
      rfl
    have hP2 : va_P D.1 vwCl [(x.1 0, (.inl (x.2 0, 1, .inl (I 0)) : va_E))] T'.heap := fun k q hq => by
      have hk : k < 1 := (List.getElem?_eq_some_iff.mp hq).1
      rw [show k = 0 by omega] at hq
      cases hq
      have hat := h2.1 0 _ c0
      rw [hc0] at hat
      exact hat.kept heq
    have hbP : va_P D.1 vwCl (am_ws x2 (450, ty2, rf2) I2 L2) T'.heap := by rw [e1]; exact hb.1
    have hPb := hbP.app hP2
    rw [ew] at hPb
    have old : ∀ k, k < 450 → (am_ws (va_up x2.1 450 (x.1 0), va_up x2.2 450 (x.2 0)) (am_nG (450, ty2, rf2) (1, 1, 0)) (va_up I2 450 (I 0)) (am_nL (450, ty2, rf2) L2))[k]? = (am_ws x2 (450, ty2, rf2) I2 L2)[k]? := fun k hk => by
      rw [← ew, List.getElem?_append_left]
      unfold am_ws
      rw [List.length_map, List.length_range]
      exact hk
    have adr : ∀ k q, (am_ws (va_up x2.1 450 (x.1 0), va_up x2.2 450 (x.2 0)) (am_nG (450, ty2, rf2) (1, 1, 0)) (va_up I2 450 (I 0)) (am_nL (450, ty2, rf2) L2))[k]? = some q → (k < 450 ∧ (am_ws x2 (450, ty2, rf2) I2 L2)[k]? = some q ∧ A q.1 ∧ q.1 ≠ x.1 0) ∨ (k = 450 ∧ q.1 = x.1 0) := fun k q hq => by
      by_cases hk : k < 450
      · rw [old k hk] at hq
        have hA2 := hb.2.1.2 k q hq
        rw [hA'] at hA2
        exact Or.inl ⟨hk, hq, hA2.1, hA2.2⟩
      · by_cases hk2 : k < 451
        · have : k = 450 := by omega
          subst this
          rw [am_ws_at (show 450 < (am_nG (450, ty2, rf2) (1, 1, 0)).1 from Nat.lt_succ_self _)] at hq
          cases hq
          exact Or.inr ⟨rfl, (show va_up x2.1 450 (x.1 0) 450 = x.1 0 from va_up_self _ _ _)⟩
        · rw [am_ws_out (show ¬ k < (am_nG (450, ty2, rf2) (1, 1, 0)).1 from hk2)] at hq
          cases hq
    have hDb : va_D A (am_ws (va_up x2.1 450 (x.1 0), va_up x2.2 450 (x.2 0)) (am_nG (450, ty2, rf2) (1, 1, 0)) (va_up I2 450 (I 0)) (am_nL (450, ty2, rf2) L2)) := by
      refine ⟨fun i j p q hp hq he => ?_, fun k q hq => ?_⟩
      · rcases adr i p hp with ⟨a1, a2, a3, a4⟩ | ⟨a1, a2⟩
        · rcases adr j q hq with ⟨b1, b2, b3, b4⟩ | ⟨b1, b2⟩
          · exact hb.2.1.1 i j p q a2 b2 he
          · exact absurd (he.trans b2) a4
        · rcases adr j q hq with ⟨b1, b2, b3, b4⟩ | ⟨b1, b2⟩
          · exact absurd (he.symm.trans a2) b4
          · rw [a1, b1]
      · rcases adr k q hq with ⟨a1, a2, a3, a4⟩ | ⟨a1, a2⟩
        · exact a3
        · rw [a2]
          exact h2.2.1.2 0 _ c0
    have hT0 := h2.2.2.1 0 (by omega) (by rw [t0]; exact (by decide : (1 : Nat) ≠ 0))
    rw [t0] at hT0
    have hTb := am_nT (q := x.1 0) (cA := x.2 0) (t := (1, 1, 0)) (hb.2.2.moved hvm) (fun _ => hT0)
    have hwF : wF (am_nG (450, ty2, rf2) (1, 1, 0)) := wF_mk (Γ0 := (450, ty2, rf2)) ⟨Nat.le_succ _, fun j hj => ⟨va_up_ne _ _ (Nat.ne_of_lt hj), fun _ => va_up_ne _ _ (Nat.ne_of_lt hj), rfl, rfl⟩, fun _ _ _ => ⟨rfl, rfl⟩⟩ (Nat.le_refl _) q2 q3 q4 q5
    have iold : ∀ k, k < 450 → va_up I2 450 (I 0) k = I2 k := fun k hk => va_up_ne _ _ (by omega)
    have lold : ∀ k, k < 450 → am_nL (450, ty2, rf2) L2 k = L2 k := fun k hk => va_up_ne _ _ (by show k ≠ 450; omega)
    have hR : CS (va_up I2 450 (I 0)) (am_nL (450, ty2, rf2) L2) w' (fun _ => w') 0 := by
      refine ⟨hw', q6.fr hw'.1.2.2.1.2 (fun c _ c2 => iold c (by omega)) (fun c _ c2 => lold c (by omega)), 0, ?_, ?_, by decide, by decide, fun i hi => absurd hi (Nat.not_lt_zero i)⟩
      · rw [iold 83 (by decide), (q8 83 (by decide) (by decide)).1]; rfl
      · rw [iold 83 (by decide), (q8 83 (by decide) (by decide)).1]; rfl
    have hx2 : x2.1 0 = x.1 1 := by
      have := ha.2 0 (by rw [hG1]; exact Nat.zero_lt_one)
      rw [this, hx1]
    obtain ⟨t2, s1, b1⟩ := kk _ _ _ w' (fun _ => w') hwF rfl ⟨Nat.lt_succ_self _, (show va_up ty2 450 (1, 1, 0) 450 = (1, 1, 0) from va_up_self _ _ _)⟩ hR (by rw [iold 81 (by decide)]; exact q7.1) (va_up x2.1 450 (x.1 0), va_up x2.2 450 (x.2 0)) T'.heap (locs ++ L9) (cells + 449) (slots + 13825) la ⟨hPb, hDb, hTb⟩ k3 hm3 hm4 (by
      have e9 : am_lc D (va_up x2.1 450 (x.1 0), va_up x2.2 450 (x.2 0)) [(0, .retAddr 60), (1, .int 0), (2, .ref 450)] = am_lc D x [(0, .retAddr 60), (1, .int 0), (2, .ref 0)] := by
        show [(0, Value.ref (D.2 60)), (1, .int 0), (2, .ref (va_up x2.1 450 (x.1 0) 450))] = _
        rw [va_up_self]
        rfl
      rw [e9]
      exact h6) T' rfl X'
    refine ⟨t2, gs t2 ?_, b1⟩
    rw [hv0]
    have est : [Value.ref 0].map (am_cv D (va_up x2.1 450 (x.1 0), va_up x2.2 450 (x.2 0))) = [.ref (x.1 1)] := by
      show [Value.ref (va_up x2.1 450 (x.1 0) 0)] = _
      rw [va_up_ne _ _ (by decide : (0 : Nat) ≠ 450), hx2]
    rw [est] at s1
    exact s1
  · exact nomatch hq.1
end VV
