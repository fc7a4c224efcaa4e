/-! THE LAW: the text is built -/
theorem ld_12 : (RL, 276, "ask q", 12) ∈ am_sr := by decide +kernel
theorem ld_13 : (RL, 287, "cart t", 13) ∈ am_sr := by decide +kernel
theorem ld_14 : (RL, 289, " q", 14) ∈ am_sr := by decide +kernel
theorem ld_15 : (RL, 291, "gate g", 15) ∈ am_sr := by decide +kernel
theorem ld_11 : (RL, 271, "tolls;", 11) ∈ am_sr := by decide +kernel
theorem vtx_len : ∀ ks, (vtx ks).length = 3 * ks.length
  | [] => rfl
  | k :: ks => by
    show (vtx ks).length + 1 + 1 + 1 = 3 * (ks.length + 1)
    rw [vtx_len ks]
    omega
theorem vtx_asc : ∀ ks : List Nat, (∀ k ∈ ks, k < 20) → asc (vtx ks)
  | [], _ => fun c hc => nomatch hc
  | k :: ks, h => by
    have hk := h k List.mem_cons_self
    intro c hc
    have hc' : c = 32 ∨ c = 113 ∨ c = 97 + k ∨ c ∈ vtx ks := by
      simpa [vtx] using hc
    rcases hc' with e | e | e | e
    · omega
    · omega
    · omega
    · exact vtx_asc ks (fun x hx => h x (List.mem_cons_of_mem _ hx)) c e
theorem ctx_len : ∀ ks, (ctx ks).length ≤ 3 * ks.length
  | [] => Nat.le_refl _
  | k :: ks => by
    have h := ctx_len ks
    have hd := dig_2 k
    show (dig k ++ ctx ks).length + 1 ≤ 3 * (ks.length + 1)
    rw [List.length_append]
    omega
theorem ctx_asc : ∀ ks : List Nat, (∀ k ∈ ks, k < 100) → asc (ctx ks)
  | [], _ => fun c hc => nomatch hc
  | k :: ks, h => by
    intro c hc
    have hc' : c = 32 ∨ c ∈ dig k ∨ c ∈ ctx ks := by
      simpa [ctx] using hc
    rcases hc' with e | e | e
    · omega
    · exact dig_asc (h k List.mem_cons_self) c e
    · exact ctx_asc ks (fun x hx => h x (List.mem_cons_of_mem _ hx)) c e
section LWB
variable {n mc ms bc bs : Nat} {xs : Nat → Int32} {Γb Γ : am_G} {Ib I : am_I} {Lb L : am_L} {Q : am_Q} {b : Nat} {t : List Nat}
theorem okB (X : txS Γb Ib Lb Γ I L b t) {r : List (Nat × Value)} (h : ∀ q ∈ r, am_ok Γ q.2) : ∀ q ∈ ((0, .retAddr 60) :: (1, .int 0) :: (2, .ref 450) :: (3, .ref 0) :: (4, .ref b) :: r : List (Nat × Value)), am_ok Γ q.2 :=
  okl_c trivial (okl_c trivial (okl_c (show 450 < Γ.1 from X.2.1) (okl_c (show 0 < Γ.1 from Nat.lt_of_lt_of_le (by decide) X.2.1) (okl_c (show b < Γ.1 from X.bu.1) h))))
def lB (b : Nat) (r : List (Nat × Value)) : List (Nat × Value) := (0, .retAddr 60) :: (1, .int 0) :: (2, .ref 450) :: (3, .ref 0) :: (4, .ref b) :: r
theorem nn_1a (r : Nat) : nn 1 + nn r = nn (1 + r) := nn_add 1 r
theorem nn_97 (j : Nat) (hj : j < 20) : ((nn 97 + nn j : Int32).toUInt32 % 65536).toInt32 = nn (97 + j) := chr97 j hj
/-- the questions -/
theorem law_q {Qn : Nat} (hQ : Qn ≤ 4) (kk : ∀ Γ I L t, txS Γb Ib Lb Γ I L b t → PQ Qn t → am_W (m_W n xs) 290 mc ms true bc bs 106 (lB b [(5, .int (nn Qn)), (6, .int (nn Qn))]) [] Γ I L Q) : ∀ f q Γ I L t, q + f = Qn → txS Γb Ib Lb Γ I L b t → PQ q t → am_W (m_W n xs) 290 mc ms true (bc + 5 * f) (bs + 6500 * f) 55 (lB b [(5, .int (nn Qn)), (6, .int (nn q))]) [] Γ I L Q := by
  intro f
  induction f with
  | zero =>
    intro q Γ I L t hq X hP
    obtain rfl : q = Qn := by omega
    refine aw_iload dL_law_55 rfl ?_
    refine aw_iload dL_law_57 rfl ?_
    exact aw_icmp_ge dL_law_59 rfl (fun _ => kk Γ I L t X hP) (fun z => absurd (Int32.le_refl _) z)
  | succ f ih =>
    intro q Γ I L t hq X hP
    have hl := hP.2.1
    refine aw_iload dL_law_55 rfl ?_
    refine aw_iload dL_law_57 rfl ?_
    refine aw_icmp_ge dL_law_59 rfl (fun z => absurd z (by rw [nn_le (by omega) (by omega)]; omega)) (fun _ => ?_)
    refine aw_bcs (bc' := bc + 5 * f + 5) (bs' := bs + 6500 * f + 6500) (by omega) (by omega) ?_
    refine aw_aload dL_law_62 rfl ?_
    refine aw_ldcTW (tx := "ask q") (i := 12) dL_law_64 ld_12 ?_
    refine lw_appS (j := 12) dL_law_67 rfl X (by omega) (by decide) (by decide) (okB X (okl_c trivial (okl_c trivial okl_nil))) (fun Γ1 I1 L1 hg X1 => ?_)
    clear X
    have X := X1
    clear X1 hg
    refine aw_bipush (v := nn 97) dL_law_70 (by decide) ?_
    refine aw_iload dL_law_72 rfl ?_
    refine aw_iadd dL_law_74 ?_
    refine aw_i2c dL_law_75 ?_
    rw [nn_97 q (by omega)]
    refine lw_appC (c := 97 + q) dL_law_76 rfl X (by simp only [List.length_append, List.length_cons, List.length_nil, tl_12, tl_13, tl_14, tl_15]; omega) (by omega) (okB X (okl_c trivial (okl_c trivial okl_nil))) (fun Γ1 I1 L1 hg X1 => ?_)
    clear X
    have X := X1
    clear X1 hg
    refine aw_bipush (v := nn 32) dL_law_79 (by decide) ?_
    refine lw_appC (c := 32) dL_law_81 rfl X (by simp only [List.length_append, List.length_cons, List.length_nil, tl_12, tl_13, tl_14, tl_15]; omega) (by omega) (okB X (okl_c trivial (okl_c trivial okl_nil))) (fun Γ1 I1 L1 hg X1 => ?_)
    clear X
    have X := X1
    clear X1 hg
    refine aw_iconst (v := nn 1) dL_law_84 (by decide) ?_
    refine aw_aload_n dL_law_85 rfl ?_
    refine aw_iconst (v := nn 4) dL_law_86 (by decide) ?_
    refine lw_draw (k := 4) dL_law_87 rfl X.2.2.1 (by decide) (by decide) (Nat.le_of_ble_eq_true rfl) (fun r x hr => ?_)
    replace X := X.dr x
    refine aw_iadd dL_law_90 ?_
    rw [nn_1a]
    refine lw_appI (c := 1 + r) dL_law_91 rfl X (by simp only [List.length_append, List.length_cons, List.length_nil, tl_12, tl_13, tl_14, tl_15]; omega) (by omega) (okB X (okl_c trivial (okl_c trivial okl_nil))) (fun Γ1 I1 L1 hg X1 => ?_)
    clear X
    have X := X1
    clear X1 hg
    refine aw_bipush (v := nn 59) dL_law_94 (by decide) ?_
    refine lw_appC (c := 59) dL_law_96 rfl X (by have hd := dig_2 (1 + r); simp only [List.length_append, List.length_cons, List.length_nil, tl_12]; omega) (by omega) (okB X (okl_c trivial (okl_c trivial okl_nil))) (fun Γ1 I1 L1 hg X1 => ?_)
    clear X
    have X := X1
    clear X1 hg
    refine aw_pop dL_law_99 rfl ?_
    refine aw_iinc (v := nn (q + 1)) (ls' := lB b [(5, .int (nn Qn)), (6, .int (nn (q + 1)))]) dL_law_100 rfl (by rw [show Int32.ofInt 1 = nn 1 from rfl, nn_add]) (Nat.le_of_ble_eq_true rfl) rfl ?_
    refine aw_goto dL_law_103 rfl ?_
    exact ih (q + 1) _ _ _ _ (by omega) X (PQ_s hP (by omega) (by omega) (by omega))
/-- the traits of a type -/
theorem law_r {Qn Tn ty : Nat} {t0 : List Nat} (hQ : Qn ≤ 4) (h0 : t0.length ≤ 500) (kk : ∀ Γ I L ks, txS Γb Ib Lb Γ I L b (t0 ++ vtx ks) → ks.length ≤ Qn → List.Pairwise (· < ·) ks → (∀ k ∈ ks, k < Qn) → am_W (m_W n xs) 290 mc ms true bc bs 200 (lB b [(5, .int (nn Qn)), (6, .int (nn Tn)), (7, .int (nn ty)), (8, .int (nn Qn))]) [] Γ I L Q) : ∀ f q Γ I L ks, q + f = Qn → txS Γb Ib Lb Γ I L b (t0 ++ vtx ks) → ks.length ≤ q → List.Pairwise (· < ·) ks → (∀ k ∈ ks, k < q) → am_W (m_W n xs) 290 mc ms true (bc + 2 * f) (bs + 2600 * f) 161 (lB b [(5, .int (nn Qn)), (6, .int (nn Tn)), (7, .int (nn ty)), (8, .int (nn q))]) [] Γ I L Q := by
  intro f
  induction f with
  | zero =>
    intro q Γ I L ks hq X hl hp hk
    obtain rfl : q = Qn := by omega
    refine aw_iload dL_law_161 rfl ?_
    refine aw_iload dL_law_163 rfl ?_
    exact aw_icmp_ge dL_law_165 rfl (fun _ => kk Γ I L ks X hl hp hk) (fun z => absurd (Int32.le_refl _) z)
  | succ f ih =>
    intro q Γ I L ks hq X hl hp hk
    refine aw_iload dL_law_161 rfl ?_
    refine aw_iload dL_law_163 rfl ?_
    refine aw_icmp_ge dL_law_165 rfl (fun z => absurd z (by rw [nn_le (by omega) (by omega)]; omega)) (fun _ => ?_)
    refine aw_aload_n dL_law_168 rfl ?_
    refine aw_iconst (v := nn 2) dL_law_169 (by decide) ?_
    refine lw_draw (k := 2) dL_law_170 rfl X.2.2.1 (by decide) (by decide) (Nat.le_of_ble_eq_true rfl) (fun r x hr => ?_)
    replace X := X.dr x
    refine aw_if_ne dL_law_173 rfl (fun _ => ?_) (fun _ => ?_)
    · refine aw_iinc (v := nn (q + 1)) (ls' := lB b [(5, .int (nn Qn)), (6, .int (nn Tn)), (7, .int (nn ty)), (8, .int (nn (q + 1)))]) dL_law_194 rfl (by rw [show Int32.ofInt 1 = nn 1 from rfl, nn_add]) (Nat.le_of_ble_eq_true rfl) rfl ?_
      refine aw_goto dL_law_197 rfl ?_
      exact aw_bcs (by omega) (by omega) (ih (q + 1) _ _ _ ks (by omega) X (by omega) hp (fun k h => Nat.lt_succ_of_lt (hk k h)))
    · refine aw_bcs (bc' := bc + 2 * f + 2) (bs' := bs + 2600 * f + 2600) (by omega) (by omega) ?_
      refine aw_aload dL_law_176 rfl ?_
      refine aw_ldcTW (tx := " q") (i := 14) dL_law_178 ld_14 ?_
      refine lw_appS (j := 14) dL_law_181 rfl X (by rw [List.length_append, vtx_len]; omega) (by decide) (by decide) (okB X (okl_c trivial (okl_c trivial (okl_c trivial (okl_c trivial okl_nil))))) (fun Γ1 I1 L1 hg X1 => ?_)
      clear X
      have X := X1
      clear X1 hg
      refine aw_bipush (v := nn 97) dL_law_184 (by decide) ?_
      refine aw_iload dL_law_186 rfl ?_
      refine aw_iadd dL_law_188 ?_
      refine aw_i2c dL_law_189 ?_
      rw [nn_97 q (by omega)]
      refine lw_appC (c := 97 + q) dL_law_190 rfl X (by rw [List.length_append, List.length_append, vtx_len, tl_14]; have : ([32, 113] : List Nat).length = 2 := rfl; omega) (by omega) (okB X (okl_c trivial (okl_c trivial (okl_c trivial (okl_c trivial okl_nil))))) (fun Γ1 I1 L1 hg X1 => ?_)
      clear X
      have X := X1
      clear X1 hg
      refine aw_pop dL_law_193 rfl ?_
      refine aw_iinc (v := nn (q + 1)) (ls' := lB b [(5, .int (nn Qn)), (6, .int (nn Tn)), (7, .int (nn ty)), (8, .int (nn (q + 1)))]) dL_law_194 rfl (by rw [show Int32.ofInt 1 = nn 1 from rfl, nn_add]) (Nat.le_of_ble_eq_true rfl) rfl ?_
      refine aw_goto dL_law_197 rfl ?_
      have et : ((t0 ++ vtx ks) ++ tl 14) ++ [97 + q] = t0 ++ vtx (ks ++ [q]) := by
        rw [vtx_app, tl_14]
        simp only [List.append_assoc, List.cons_append, List.nil_append]
      rw [et] at X
      refine ih (q + 1) _ _ _ (ks ++ [q]) (by omega) X (by rw [List.length_append]; show ks.length + 1 ≤ q + 1; omega) (List.pairwise_append.mpr ⟨hp, List.pairwise_singleton _ _, fun a ha c hc => by rw [List.mem_singleton.mp hc]; exact hk a ha⟩) (fun k h => ?_)
      rcases List.mem_append.mp h with e | e
      · exact Nat.lt_succ_of_lt (hk k e)
      · rw [List.mem_singleton.mp e]; exact Nat.lt_succ_self q
/-- the types -/
theorem law_t {Qn Tn : Nat} (hQ : Qn ≤ 4) (hT : Tn ≤ 6) (kk : ∀ Γ I L t, txS Γb Ib Lb Γ I L b t → PT Qn Tn t → am_W (m_W n xs) 290 mc ms true bc bs 214 (lB b [(5, .int (nn Qn)), (6, .int (nn Tn))]) [] Γ I L Q) : ∀ f ty Γ I L t, ty + f = Tn → txS Γb Ib Lb Γ I L b t → PT Qn ty t → am_W (m_W n xs) 290 mc ms true (bc + 13 * f) (bs + 16900 * f) 119 (lB b [(5, .int (nn Qn)), (6, .int (nn Tn)), (7, .int (nn ty))]) [] Γ I L Q := by
  intro f
  induction f with
  | zero =>
    intro ty Γ I L t hq X hP
    obtain rfl : ty = Tn := by omega
    refine aw_iload dL_law_119 rfl ?_
    refine aw_iload dL_law_121 rfl ?_
    refine aw_icmp_ge dL_law_123 rfl (fun _ => ?_) (fun z => absurd (Int32.le_refl _) z)
    exact aw_ls (fun q hq => List.mem_append_left [(7, Value.int (nn ty))] hq) (kk Γ I L t X hP)
  | succ f ih =>
    intro ty Γ I L t hq X hP
    have hl := hP.2.1
    refine aw_iload dL_law_119 rfl ?_
    refine aw_iload dL_law_121 rfl ?_
    refine aw_icmp_ge dL_law_123 rfl (fun z => absurd z (by rw [nn_le (by omega) (by omega)]; omega)) (fun _ => ?_)
    refine aw_bcs (bc' := (bc + 13 * f + 1 + 2 * Qn) + 4) (bs' := (bs + 16900 * f + 1300 + 2600 * Qn) + 5200) (by omega) (by omega) ?_
    refine aw_aload dL_law_126 rfl ?_
    refine aw_ldcTW (tx := "cart t") (i := 13) dL_law_128 ld_13 ?_
    refine lw_appS (j := 13) dL_law_131 rfl X (by omega) (by decide) (by decide) (okB X (okl_c trivial (okl_c trivial (okl_c trivial okl_nil)))) (fun Γ1 I1 L1 hg X1 => ?_)
    clear X
    have X := X1
    clear X1 hg
    refine aw_bipush (v := nn 97) dL_law_134 (by decide) ?_
    refine aw_iload dL_law_136 rfl ?_
    refine aw_iadd dL_law_138 ?_
    refine aw_i2c dL_law_139 ?_
    rw [nn_97 ty (by omega)]
    refine lw_appC (c := 97 + ty) dL_law_140 rfl X (by simp only [List.length_append, List.length_cons, List.length_nil, tl_12, tl_13, tl_14, tl_15]; omega) (by omega) (okB X (okl_c trivial (okl_c trivial (okl_c trivial okl_nil)))) (fun Γ1 I1 L1 hg X1 => ?_)
    clear X
    have X := X1
    clear X1 hg
    refine aw_bipush (v := nn 32) dL_law_143 (by decide) ?_
    refine lw_appC (c := 32) dL_law_145 rfl X (by simp only [List.length_append, List.length_cons, List.length_nil, tl_12, tl_13, tl_14, tl_15]; omega) (by omega) (okB X (okl_c trivial (okl_c trivial (okl_c trivial okl_nil)))) (fun Γ1 I1 L1 hg X1 => ?_)
    clear X
    have X := X1
    clear X1 hg
    refine aw_aload_n dL_law_148 rfl ?_
    refine aw_bipush (v := nn 8) dL_law_149 (by decide) ?_
    refine lw_draw (k := 8) dL_law_151 rfl X.2.2.1 (by decide) (by decide) (Nat.le_of_ble_eq_true rfl) (fun r x hr => ?_)
    replace X := X.dr x
    refine lw_appI (c := r) dL_law_154 rfl X (by simp only [List.length_append, List.length_cons, List.length_nil, tl_12, tl_13, tl_14, tl_15]; omega) (by omega) (okB X (okl_c trivial (okl_c trivial (okl_c trivial okl_nil)))) (fun Γ1 I1 L1 hg X1 => ?_)
    clear X
    have X := X1
    clear X1 hg
    refine aw_pop dL_law_157 rfl ?_
    refine aw_iconst (v := nn 0) dL_law_158 (by decide) ?_
    refine aw_istore (ls' := lB b [(5, .int (nn Qn)), (6, .int (nn Tn)), (7, .int (nn ty)), (8, .int (nn 0))]) dL_law_159 (Nat.le_of_ble_eq_true rfl) rfl ?_
    have hd := dig_2 r
    have el : ((((t ++ tl 13) ++ [97 + ty]) ++ [32]) ++ dig r).length ≤ t.length + 11 := by
      simp only [List.length_append, List.length_cons, List.length_nil, tl_13]
      omega
    refine law_r (t0 := (((t ++ tl 13) ++ [97 + ty]) ++ [32]) ++ dig r) hQ (by omega) (fun Γ2 I2 L2 ks X2 l2 p2 k2 => ?_) Qn 0 _ _ _ [] (by omega) (by rw [show vtx [] = [] from rfl, List.append_nil]; exact X) (Nat.le_refl _) List.Pairwise.nil (fun k h => nomatch h)
    clear X
    have X := X2
    refine aw_aload dL_law_200 rfl ?_
    refine aw_bipush (v := nn 59) dL_law_202 (by decide) ?_
    refine lw_appC (c := 59) dL_law_204 rfl X (by rw [List.length_append, vtx_len]; omega) (by omega) (okB X (okl_c trivial (okl_c trivial (okl_c trivial (okl_c trivial okl_nil))))) (fun Γ1 I1 L1 hg X1 => ?_)
    refine aw_pop dL_law_207 rfl ?_
    refine aw_iinc (v := nn (ty + 1)) (ls' := lB b [(5, .int (nn Qn)), (6, .int (nn Tn)), (7, .int (nn (ty + 1))), (8, .int (nn Qn))]) dL_law_208 rfl (by rw [show Int32.ofInt 1 = nn 1 from rfl, nn_add]) (Nat.le_of_ble_eq_true rfl) rfl ?_
    refine aw_goto dL_law_211 rfl ?_
    refine aw_ls (ls' := lB b [(5, .int (nn Qn)), (6, .int (nn Tn)), (7, .int (nn (ty + 1)))]) (fun q hq => List.mem_append_left [(8, Value.int (nn Qn))] hq) ?_
    exact ih (ty + 1) _ _ _ _ (by omega) X1 (PT_s hP (by omega) (by omega) (by omega) k2 p2 (by omega) (by rw [vtx_len]; omega) (vtx_asc ks (fun k h => Nat.lt_trans (k2 k h) (by omega))))
/-- the counts of a gate -/
theorem law_c {Qn Tn Gn g : Nat} {t0 : List Nat} (hT : Tn ≤ 6) (h0 : t0.length ≤ 500) (kk : ∀ Γ I L ks, txS Γb Ib Lb Γ I L b (t0 ++ ctx ks) → ks.length = Tn → (∀ k ∈ ks, k < 100) → am_W (m_W n xs) 290 mc ms true bc bs 326 (lB b [(5, .int (nn Qn)), (6, .int (nn Tn)), (7, .int (nn Gn)), (8, .int (nn g)), (9, .int (nn Tn))]) [] Γ I L Q) : ∀ f q Γ I L ks, q + f = Tn → txS Γb Ib Lb Γ I L b (t0 ++ ctx ks) → ks.length = q → (∀ k ∈ ks, k < 100) → am_W (m_W n xs) 290 mc ms true (bc + 2 * f) (bs + 2600 * f) 296 (lB b [(5, .int (nn Qn)), (6, .int (nn Tn)), (7, .int (nn Gn)), (8, .int (nn g)), (9, .int (nn q))]) [] Γ I L Q := by
  intro f
  induction f with
  | zero =>
    intro q Γ I L ks hq X hl hk
    obtain rfl : q = Tn := by omega
    refine aw_iload dL_law_296 rfl ?_
    refine aw_iload dL_law_298 rfl ?_
    exact aw_icmp_ge dL_law_300 rfl (fun _ => kk Γ I L ks X hl hk) (fun z => absurd (Int32.le_refl _) z)
  | succ f ih =>
    intro q Γ I L ks hq X hl hk
    have hcl := ctx_len ks
    refine aw_iload dL_law_296 rfl ?_
    refine aw_iload dL_law_298 rfl ?_
    refine aw_icmp_ge dL_law_300 rfl (fun z => absurd z (by rw [nn_le (by omega) (by omega)]; omega)) (fun _ => ?_)
    refine aw_bcs (bc' := bc + 2 * f + 2) (bs' := bs + 2600 * f + 2600) (by omega) (by omega) ?_
    refine aw_aload dL_law_303 rfl ?_
    refine aw_bipush (v := nn 32) dL_law_305 (by decide) ?_
    refine lw_appC (c := 32) dL_law_307 rfl X (by rw [List.length_append]; omega) (by omega) (okB X (okl_c trivial (okl_c trivial (okl_c trivial (okl_c trivial (okl_c trivial okl_nil)))))) (fun Γ1 I1 L1 hg X1 => ?_)
    clear X
    have X := X1
    clear X1 hg
    refine aw_aload_n dL_law_310 rfl ?_
    refine aw_bipush (v := nn 60) dL_law_311 (by decide) ?_
    refine lw_draw (k := 60) dL_law_313 rfl X.2.2.1 (by decide) (by decide) (Nat.le_of_ble_eq_true rfl) (fun r x hr => ?_)
    replace X := X.dr x
    refine lw_appI (c := r) dL_law_316 rfl X (by rw [List.length_append, List.length_append]; show t0.length + (ctx ks).length + 1 < 600; omega) (by omega) (okB X (okl_c trivial (okl_c trivial (okl_c trivial (okl_c trivial (okl_c trivial okl_nil)))))) (fun Γ1 I1 L1 hg X1 => ?_)
    clear X
    have X := X1
    clear X1 hg
    refine aw_pop dL_law_319 rfl ?_
    refine aw_iinc (v := nn (q + 1)) (ls' := lB b [(5, .int (nn Qn)), (6, .int (nn Tn)), (7, .int (nn Gn)), (8, .int (nn g)), (9, .int (nn (q + 1)))]) dL_law_320 rfl (by rw [show Int32.ofInt 1 = nn 1 from rfl, nn_add]) (Nat.le_of_ble_eq_true rfl) rfl ?_
    refine aw_goto dL_law_323 rfl ?_
    have et : ((t0 ++ ctx ks) ++ [32]) ++ dig r = t0 ++ ctx (ks ++ [r]) := by
      rw [ctx_app]
      simp only [List.append_assoc, List.cons_append, List.nil_append]
    rw [et] at X
    refine ih (q + 1) _ _ _ (ks ++ [r]) (by omega) X (by rw [List.length_append, hl]; rfl) (fun k h => ?_)
    rcases List.mem_append.mp h with e | e
    · exact hk k e
    · rw [List.mem_singleton.mp e]; omega
/-- the gates -/
theorem law_g {Qn Tn Gn : Nat} (hQ : Qn ≤ 4) (hT : Tn ≤ 6) (hG : Gn ≤ 3) (kk : ∀ Γ I L t, txS Γb Ib Lb Γ I L b t → PG Qn Tn Gn t → am_W (m_W n xs) 290 mc ms true bc bs 340 (lB b [(5, .int (nn Qn)), (6, .int (nn Tn)), (7, .int (nn Gn))]) [] Γ I L Q) : ∀ f g Γ I L t, g + f = Gn → txS Γb Ib Lb Γ I L b t → PG Qn Tn g t → am_W (m_W n xs) 290 mc ms true (bc + 21 * f) (bs + 27300 * f) 226 (lB b [(5, .int (nn Qn)), (6, .int (nn Tn)), (7, .int (nn Gn)), (8, .int (nn g))]) [] Γ I L Q := by
  intro f
  induction f with
  | zero =>
    intro g Γ I L t hq X hP
    obtain rfl : g = Gn := by omega
    refine aw_iload dL_law_226 rfl ?_
    refine aw_iload dL_law_228 rfl ?_
    refine aw_icmp_ge dL_law_230 rfl (fun _ => ?_) (fun z => absurd (Int32.le_refl _) z)
    exact aw_ls (fun q hq => List.mem_append_left [(8, Value.int (nn g))] hq) (kk Γ I L t X hP)
  | succ f ih =>
    intro g Γ I L t hq X hP
    have hl := hP.2.1
    refine aw_iload dL_law_226 rfl ?_
    refine aw_iload dL_law_228 rfl ?_
    refine aw_icmp_ge dL_law_230 rfl (fun z => absurd z (by rw [nn_le (by omega) (by omega)]; omega)) (fun _ => ?_)
    refine aw_bcs (bc' := (bc + 21 * f + 1 + 2 * Tn) + 8) (bs' := (bs + 27300 * f + 1300 + 2600 * Tn) + 10400) (by omega) (by omega) ?_
    refine aw_aload dL_law_233 rfl ?_
    refine aw_ldcTW (tx := "gate g") (i := 15) dL_law_235 ld_15 ?_
    refine lw_appS (j := 15) dL_law_238 rfl X (by omega) (by decide) (by decide) (okB X (okl_c trivial (okl_c trivial (okl_c trivial (okl_c trivial okl_nil))))) (fun Γ1 I1 L1 hg X1 => ?_)
    clear X
    have X := X1
    clear X1 hg
    refine aw_bipush (v := nn 97) dL_law_241 (by decide) ?_
    refine aw_iload dL_law_243 rfl ?_
    refine aw_iadd dL_law_245 ?_
    refine aw_i2c dL_law_246 ?_
    rw [nn_97 g (by omega)]
    refine lw_appC (c := 97 + g) dL_law_247 rfl X (by simp only [List.length_append, List.length_cons, List.length_nil, tl_12, tl_13, tl_14, tl_15]; omega) (by omega) (okB X (okl_c trivial (okl_c trivial (okl_c trivial (okl_c trivial okl_nil))))) (fun Γ1 I1 L1 hg X1 => ?_)
    clear X
    have X := X1
    clear X1 hg
    refine aw_bipush (v := nn 32) dL_law_250 (by decide) ?_
    refine lw_appC (c := 32) dL_law_252 rfl X (by simp only [List.length_append, List.length_cons, List.length_nil, tl_12, tl_13, tl_14, tl_15]; omega) (by omega) (okB X (okl_c trivial (okl_c trivial (okl_c trivial (okl_c trivial okl_nil))))) (fun Γ1 I1 L1 hg X1 => ?_)
    clear X
    have X := X1
    clear X1 hg
    refine aw_aload_n dL_law_255 rfl ?_
    refine aw_bipush (v := nn 24) dL_law_256 (by decide) ?_
    refine lw_draw (k := 24) dL_law_258 rfl X.2.2.1 (by decide) (by decide) (Nat.le_of_ble_eq_true rfl) (fun ro xro hro => ?_)
    replace X := X.dr xro
    have dro := dig_2 ro
    refine lw_appI (c := ro) dL_law_261 rfl X (by simp only [List.length_append, List.length_cons, List.length_nil, tl_12, tl_13, tl_14, tl_15]; omega) (by omega) (okB X (okl_c trivial (okl_c trivial (okl_c trivial (okl_c trivial okl_nil))))) (fun Γ1 I1 L1 hg X1 => ?_)
    clear X
    have X := X1
    clear X1 hg
    refine aw_bipush (v := nn 32) dL_law_264 (by decide) ?_
    refine lw_appC (c := 32) dL_law_266 rfl X (by simp only [List.length_append, List.length_cons, List.length_nil, tl_12, tl_13, tl_14, tl_15]; omega) (by omega) (okB X (okl_c trivial (okl_c trivial (okl_c trivial (okl_c trivial okl_nil))))) (fun Γ1 I1 L1 hg X1 => ?_)
    clear X
    have X := X1
    clear X1 hg
    refine aw_aload_n dL_law_269 rfl ?_
    refine aw_bipush (v := nn 24) dL_law_270 (by decide) ?_
    refine lw_draw (k := 24) dL_law_272 rfl X.2.2.1 (by decide) (by decide) (Nat.le_of_ble_eq_true rfl) (fun rc xrc hrc => ?_)
    replace X := X.dr xrc
    have drc := dig_2 rc
    refine lw_appI (c := rc) dL_law_275 rfl X (by simp only [List.length_append, List.length_cons, List.length_nil, tl_12, tl_13, tl_14, tl_15]; omega) (by omega) (okB X (okl_c trivial (okl_c trivial (okl_c trivial (okl_c trivial okl_nil))))) (fun Γ1 I1 L1 hg X1 => ?_)
    clear X
    have X := X1
    clear X1 hg
    refine aw_bipush (v := nn 32) dL_law_278 (by decide) ?_
    refine lw_appC (c := 32) dL_law_280 rfl X (by simp only [List.length_append, List.length_cons, List.length_nil, tl_12, tl_13, tl_14, tl_15]; omega) (by omega) (okB X (okl_c trivial (okl_c trivial (okl_c trivial (okl_c trivial okl_nil))))) (fun Γ1 I1 L1 hg X1 => ?_)
    clear X
    have X := X1
    clear X1 hg
    refine aw_aload_n dL_law_283 rfl ?_
    refine aw_bipush (v := nn 12) dL_law_284 (by decide) ?_
    refine lw_draw (k := 12) dL_law_286 rfl X.2.2.1 (by decide) (by decide) (Nat.le_of_ble_eq_true rfl) (fun rl xrl hrl => ?_)
    replace X := X.dr xrl
    have drl := dig_2 rl
    refine lw_appI (c := rl) dL_law_289 rfl X (by simp only [List.length_append, List.length_cons, List.length_nil, tl_12, tl_13, tl_14, tl_15]; omega) (by omega) (okB X (okl_c trivial (okl_c trivial (okl_c trivial (okl_c trivial okl_nil))))) (fun Γ1 I1 L1 hg X1 => ?_)
    clear X
    have X := X1
    clear X1 hg
    refine aw_pop dL_law_292 rfl ?_
    refine aw_iconst (v := nn 0) dL_law_293 (by decide) ?_
    refine aw_istore (ls' := lB b [(5, .int (nn Qn)), (6, .int (nn Tn)), (7, .int (nn Gn)), (8, .int (nn g)), (9, .int (nn 0))]) dL_law_294 (Nat.le_of_ble_eq_true rfl) rfl ?_
    have el : ((((((((t ++ tl 15) ++ [97 + g]) ++ [32]) ++ dig ro) ++ [32]) ++ dig rc) ++ [32]) ++ dig rl).length ≤ t.length + 17 := by
      simp only [List.length_append, List.length_cons, List.length_nil, tl_15]
      omega
    refine law_c (t0 := (((((((t ++ tl 15) ++ [97 + g]) ++ [32]) ++ dig ro) ++ [32]) ++ dig rc) ++ [32]) ++ dig rl) hT (by omega) (fun Γ2 I2 L2 ks X2 l2 k2 => ?_) Tn 0 _ _ _ [] (by omega) (by rw [show ctx [] = [] from rfl, List.append_nil]; exact X) rfl (fun k h => nomatch h)
    clear X
    have X := X2
    have hcl := ctx_len ks
    refine aw_aload dL_law_326 rfl ?_
    refine aw_bipush (v := nn 59) dL_law_328 (by decide) ?_
    refine lw_appC (c := 59) dL_law_330 rfl X (by rw [List.length_append]; omega) (by omega) (okB X (okl_c trivial (okl_c trivial (okl_c trivial (okl_c trivial (okl_c trivial okl_nil)))))) (fun Γ1 I1 L1 hg X1 => ?_)
    refine aw_pop dL_law_333 rfl ?_
    refine aw_iinc (v := nn (g + 1)) (ls' := lB b [(5, .int (nn Qn)), (6, .int (nn Tn)), (7, .int (nn Gn)), (8, .int (nn (g + 1))), (9, .int (nn Tn))]) dL_law_334 rfl (by rw [show Int32.ofInt 1 = nn 1 from rfl, nn_add]) (Nat.le_of_ble_eq_true rfl) rfl ?_
    refine aw_goto dL_law_337 rfl ?_
    refine aw_ls (ls' := lB b [(5, .int (nn Qn)), (6, .int (nn Tn)), (7, .int (nn Gn)), (8, .int (nn (g + 1)))]) (fun q hq => List.mem_append_left [(9, Value.int (nn Tn))] hq) ?_
    exact ih (g + 1) _ _ _ _ (by omega) X1 (PG_s hP (by omega) (by omega) (by omega) (by omega) k2 l2 (by omega) (ctx_asc ks k2))
end LWB
