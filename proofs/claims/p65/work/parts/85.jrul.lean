/-! RULES FOR THE JDK'S CODE: references are returned, byte fields are written, methods of a class above are called, cells are added by calls -/
section JRU
variable {mi : am_M} {d mc ms : Nat} {al : Bool} {bc bs pc : Nat} {ls : List (Nat × Value)} {st rst : List Value} {Γ : am_G} {I : am_I} {L : am_L} {Q : am_Q}
theorem aw_aret {k : Nat} {ty : FieldType} (hd : decode mi.2.1 pc = .ok (.areturn, 1)) (hr : mi.2.2.2.1 = some ty) (hrt : (∃ n, ty = .object n) ∨ ∃ t, ty = .array t) (hq : Q (.inl (some (.ref k))) Γ I L) : am_W mi d mc ms al bc bs pc ls [.ref k] Γ I L Q := by
  intro p l e s m args below meth c D A Γ0 x0 S x H locs cells slots la h1 h2 h3 h4 h5 h6
  have hlocks : meth.locks = false := S.2.2.2.2.2.2.2.1
  refine W.widen (k := mc) (n := ms) (by omega) (by omega) (vx_ret ?_)
  exact W.aret S.1 S.2.1 (S.2.2.2.1.trans hr) hrt (Or.inr ⟨_, rfl⟩) (fun t ht hW => ⟨⟨some (.ref k), Γ, I, L, x, rfl, hq, h1, by rw [ht]; exact ⟨h2.1, h2.2.1, h2.2.2.moved hW.alike⟩⟩, h3.F ht⟩) h3.2.2 hd
theorem aw_nnul {y : Nat} {off : Int} {tgt : Nat} (hd : decode mi.2.1 pc = .ok (.ifnonnull off, 3)) (ht : (pc : Int) + off = (tgt : Int)) (kk : am_W mi d mc ms al bc bs tgt ls st Γ I L Q) : am_W mi d mc ms al bc bs pc ls (.ref y :: st) Γ I L Q := by
  intro p l e s m args below meth c D A Γ0 x0 S x H locs cells slots la h1 h2 h3 h4 h5 h6
  exact lv_ifnonnull S.1 S.2.1 hd ht (kk _ _ _ _ _ _ _ _ _ _ _ _ _ S _ _ _ _ _ _ h1 h2 h3 h4 h5 h6)
theorem aw_nnulT {y : Nat} {off : Int} {tgt : Nat} (hd : decode mi.2.1 pc = .ok (.ifnonnull off, 3)) (ht : (pc : Int) + off = (tgt : Int)) (kk : am_W mi d mc ms al bc bs tgt ls st Γ I L Q) : am_W mi d mc ms al bc bs pc ls (.retAddr y :: st) Γ I L Q := by
  intro p l e s m args below meth c D A Γ0 x0 S x H locs cells slots la h1 h2 h3 h4 h5 h6
  exact lv_ifnonnull S.1 S.2.1 hd ht (kk _ _ _ _ _ _ _ _ _ _ _ _ _ S _ _ _ _ _ _ h1 h2 h3 h4 h5 h6)
theorem aw_nul (hd : decode mi.2.1 pc = .ok (.aconst_null, 1)) (kk : am_W mi d mc ms al bc bs (pc + 1) ls (.null :: st) Γ I L Q) : am_W mi d mc ms al bc bs pc ls st Γ I L Q := by
  intro p l e s m args below meth c D A Γ0 x0 S x H locs cells slots la h1 h2 h3 h4 h5 h6
  exact lv_null S.1 S.2.1 hd (kk _ _ _ _ _ _ _ _ _ _ _ _ _ S _ _ _ _ _ _ h1 h2 h3 h4 h5 h6)
theorem aw_dupx {v w : Value} (hd : decode mi.2.1 pc = .ok (.dup_x1, 1)) (hv : v.category = 1) (hw : w.category = 1) (kk : am_W mi d mc ms al bc bs (pc + 1) ls (v :: w :: v :: st) Γ I L Q) : am_W mi d mc ms al bc bs pc ls (v :: w :: st) Γ I L Q := by
  intro p l e s m args below meth c D A Γ0 x0 S x H locs cells slots la h1 h2 h3 h4 h5 h6
  exact lv_dup_x1 S.1 S.2.1 hd ((am_cat D x v).trans hv) ((am_cat D x w).trans hw) (kk _ _ _ _ _ _ _ _ _ _ _ _ _ S _ _ _ _ _ _ h1 h2 h3 h4 h5 h6)
theorem aw_putB {i ci f k : Nat} {v : Int32} (hd : decode mi.2.1 pc = .ok (.putfield i, 3)) (hl : am_lp mi.1.cls i ci f false .byte) (ho : am_ob Γ k ci) (hf : am_ft ci f = 0) (hz : narrow .byte (.int v) = .int v) (hz2 : fits .byte (.int v) = true) (kk : am_W mi d mc ms al bc bs (pc + 3) ls st Γ (am_u I k f v) L Q) : am_W mi d mc ms al bc bs pc ls (.int v :: .ref k :: st) Γ I L Q := by
  intro p l e s m args below meth c D A Γ0 x0 S x H locs cells slots la h1 h2 h3 h4 h5 h6
  obtain ⟨⟨C, T, N⟩, hc, hk, hw, hfin, hty, -⟩ := hl
  obtain ⟨w1, w2, w3, ty0, w4, -⟩ := am_cks ci _ hc
  refine va_put (ty := .byte) (v := .int v) S.1 S.2.1 S.2.2.2.2.2.2.1 w1 ty0 w4 w3 S.2.2.2.2.2.1 (S.K (tys := []) (fun _ _ h => by cases h)) h2.1 h2.2.1 h3 k (am_ob_at ho) hc f hk (S.2.2.2.2.2.2.1 _ hw) (fun _ h => h) hfin hty hz hz2 (by rw [List.length_map, List.length_range, ← w2]; exact hk) hd (fun H1 locs1 g1 g2 g3 => ?_)
  have e : (am_ws x Γ I L).set k (x.1 k, .inr (ci, ((List.range (am_nf ci)).map (fun f => am_fv x (am_ft ci f) (I k f) (L k f) (Γ.2.2 k f))).set f (.int v))) = am_ws x Γ (am_u I k f v) L := by
    refine am_ws_set ho.1 rfl ?_ (fun j hj => ⟨rfl, am_u_ne hj, rfl, rfl⟩)
    rw [ho.2]
    show (Sum.inr (ci, _) : va_E) = .inr (ci, _)
    refine congrArg (fun z => (Sum.inr (ci, z) : va_E)) (am_map_set ?_ (fun j hj => ?_))
    · rw [hf, am_u_self]
      simp [am_fv, upd, vp_updL]
    · rw [am_u_self]
      simp [upd, vp_updL, hj]
  rw [e] at g1 g2
  exact kk _ _ _ _ _ _ _ _ _ _ _ _ _ S _ _ _ _ _ _ h1 ⟨g1, g2, h2.2.2⟩ g3 h4 h5 h6
theorem aw_putBF {i ci f k : Nat} {v : Int32} (hd : decode mi.2.1 pc = .ok (.putfield i, 3)) (hl : am_lp mi.1.cls i ci f true .byte) (ho : am_ob Γ k ci) (hf : am_ft ci f = 0) (hi : mi.1.name = "<init>") (hz : narrow .byte (.int v) = .int v) (hz2 : fits .byte (.int v) = true) (kk : am_W mi d mc ms al bc bs (pc + 3) ls st Γ (am_u I k f v) L Q) : am_W mi d mc ms al bc bs pc ls (.int v :: .ref k :: st) Γ I L Q := by
  intro p l e s m args below meth c D A Γ0 x0 S x H locs cells slots la h1 h2 h3 h4 h5 h6
  obtain ⟨⟨C, T, N⟩, hc, hk, hw, hfin, hty, hown⟩ := hl
  obtain ⟨w1, w2, w3, ty0, w4, -⟩ := am_cks ci _ hc
  refine va_putF (ty := .byte) (v := .int v) S.1 S.2.1 S.2.2.2.2.2.2.1 w1 ty0 w4 w3 S.2.2.2.2.2.1 (S.K (tys := []) (fun _ _ h => by cases h)) h2.1 h2.2.1 h3 k (am_ob_at ho) hc f hk (S.2.2.2.2.2.2.1 _ hw) (fun _ h => h) hfin (S.2.2.2.2.2.2.2.2.1.trans hi) (hown rfl) hty hz hz2 (by rw [List.length_map, List.length_range, ← w2]; exact hk) hd (fun H1 locs1 g1 g2 g3 => ?_)
  have e : (am_ws x Γ I L).set k (x.1 k, .inr (ci, ((List.range (am_nf ci)).map (fun f => am_fv x (am_ft ci f) (I k f) (L k f) (Γ.2.2 k f))).set f (.int v))) = am_ws x Γ (am_u I k f v) L := by
    refine am_ws_set ho.1 rfl ?_ (fun j hj => ⟨rfl, am_u_ne hj, rfl, rfl⟩)
    rw [ho.2]
    show (Sum.inr (ci, _) : va_E) = .inr (ci, _)
    refine congrArg (fun z => (Sum.inr (ci, z) : va_E)) (am_map_set ?_ (fun j hj => ?_))
    · rw [hf, am_u_self]
      simp [am_fv, upd, vp_updL]
    · rw [am_u_self]
      simp [upd, vp_updL, hj]
  rw [e] at g1 g2
  exact kk _ _ _ _ _ _ _ _ _ _ _ _ _ S _ _ _ _ _ _ h1 ⟨g1, g2, h2.2.2⟩ g3 h4 h5 h6
/-- a reference that is not final -/
theorem aw_putRn {i ci f k r : Nat} {ty : FieldType} (hd : decode mi.2.1 pc = .ok (.putfield i, 3)) (hl : am_lp mi.1.cls i ci f false ty) (ho : am_ob Γ k ci) (hf : am_ft ci f = 2) (hr : r < Γ.1) (hn : ∀ a, narrow ty (.ref a) = .ref a) (hft : ∀ a, fits ty (.ref a) = true)
    (kk : am_W mi d mc ms true bc bs (pc + 3) ls st (am_ur Γ k f r) I L Q) : am_W mi d mc ms true bc bs pc ls (.ref r :: .ref k :: st) Γ I L Q := by
  intro p l e s m args below meth c D A Γ0 x0 S x H locs cells slots la h1 h2 h3 h4 h5 h6
  obtain ⟨⟨C, T, N⟩, hc, hk, hw, hfin, hty, -⟩ := hl
  obtain ⟨w1, w2, w3, ty0, w4, -⟩ := am_cks ci _ hc
  refine va_put (ty := ty) (v := .ref (x.1 r)) S.1 S.2.1 S.2.2.2.2.2.2.1 w1 ty0 w4 w3 S.2.2.2.2.2.1 (S.K (tys := []) (fun _ _ h => by cases h)) h2.1 h2.2.1 h3 k (am_ob_at ho) hc f hk (S.2.2.2.2.2.2.1 _ hw) (fun _ h => h) hfin hty (hn _) (hft _) (by rw [List.length_map, List.length_range, ← w2]; exact hk) hd (fun H1 locs1 g1 g2 g3 => ?_)
  have e : (am_ws x Γ I L).set k (x.1 k, .inr (ci, ((List.range (am_nf ci)).map (fun f => am_fv x (am_ft ci f) (I k f) (L k f) (Γ.2.2 k f))).set f (.ref (x.1 r)))) = am_ws x (am_ur Γ k f r) I L := by
    refine am_ws_set ho.1 rfl ?_ (fun j hj => ⟨rfl, rfl, rfl, if_neg hj⟩)
    have e2 : (am_ur Γ k f r).2.2 k = va_up (Γ.2.2 k) f (some r) := if_pos rfl
    have e3 : (am_ur Γ k f r).2.1 k = (0, ci, 0) := ho.2
    rw [e2, e3]
    show (Sum.inr (ci, _) : va_E) = .inr (ci, _)
    refine congrArg (fun z => (Sum.inr (ci, z) : va_E)) (am_map_set ?_ (fun j hj => ?_))
    · rw [hf, va_up_self]
      rfl
    · rw [show va_up (Γ.2.2 k) f (some r) j = Γ.2.2 k j from if_neg hj]
  rw [e] at g1 g2
  exact kk _ _ _ _ _ _ _ _ _ _ _ _ _ S _ _ _ _ _ _ (h1.tr ⟨Nat.le_refl _, fun _ _ => rfl⟩) ⟨g1, g2, am_ur_T h2.2.2 hr⟩ g3 h4 h5 h6
theorem aw_copyb {i k0 k1 n0 n1 : Nat} {sp dp n : Int32} (hd : decode mi.2.1 pc = .ok (.invokestatic i, 3)) (hk : am_sk mi.1.cls i) (a0 : am_ar Γ k0 2 n0 0) (a1 : am_ar Γ k1 2 n1 0) (g1 : ¬ sp < 0) (g2 : ¬ dp < 0) (g3 : ¬ n < 0) (g4 : sp.toNatClampNeg + n.toNatClampNeg ≤ n0) (g5 : dp.toNatClampNeg + n.toNatClampNeg ≤ n1) (hfit : ∀ i, i < n.toNatClampNeg → fits .byte (.int (I k0 (sp.toNatClampNeg + i))) = true) (hs : am_sz st ≤ 8)
    (kk : am_W mi d mc ms al bc bs (pc + 3) ls st Γ (am_cI I k0 k1 sp.toNatClampNeg dp.toNatClampNeg n.toNatClampNeg) L Q) : am_W mi d mc ms al bc bs pc ls (.int n :: .int dp :: .ref k1 :: .int sp :: .ref k0 :: st) Γ I L Q := by
  intro p l e s m args below meth c D A Γ0 x0 S x H locs cells slots la h1 h2 h3 h4 h5 h6
  obtain ⟨w1, w2, w3, w4⟩ := hk
  have hsz : ((st.map (am_cv D x)).map fun v => v.category).sum ≤ 8 := by rw [am_cats]; exact hs
  have hnf := am_nfw
  have hts := S.2.2.2.2.2.2.1
  refine va_copyi S.1 S.2.1 (S.2.2.1.trans h6.1.symm) S.2.2.2.2.2.1 (hts _ w1) (hts _ w2) (hts _ w3) (hts _ w4) (am_K2 S h2.2.2 a0 a1 (by decide)) h2.1 h2.2.1 h3 k0 k1 0 1 (am_ar_at a0) (am_ar_at a1) rfl rfl rfl g1 g2 g3 g4 g5 hfit (by show 1 ≤ d + 8; omega) (by show _ ≤ 60 * d + 400; omega) hd (fun H1 locs1 q1 q2 q3 => ?_)
  rw [am_ws_set (I' := (am_cI I k0 k1 sp.toNatClampNeg dp.toNatClampNeg n.toNatClampNeg)) (L' := L) (Γ' := Γ) a1.1 rfl (by rw [a1.2]; show _ = _; rw [show (am_cI I k0 k1 sp.toNatClampNeg dp.toNatClampNeg n.toNatClampNeg) k1 = va_cpy (I k0) (I k1) sp.toNatClampNeg dp.toNatClampNeg n.toNatClampNeg from if_pos rfl]; rfl) (fun j hj => ⟨rfl, if_neg hj, rfl, rfl⟩)] at q1 q2
  exact kk _ _ _ _ _ _ _ _ _ _ _ _ _ S _ _ _ _ _ _ h1 ⟨q1, q2, h2.2.2⟩ q3 h4 h5 h6
/-- out of a text into a cell -/
def am_cT (I : am_I) (i k1 sp dp n : Nat) : am_I := fun a => if a = k1 then va_cpy (fun j => (am_sb.getD i []).getD j 0) (I k1) sp dp n else I a
theorem aw_copyT {i q k1 n1 : Nat} {sp dp n : Int32} (hd : decode mi.2.1 pc = .ok (.invokestatic i, 3)) (hk : am_sk mi.1.cls i) (hq : q < am_sn) (a1 : am_ar Γ k1 2 n1 0) (g1 : ¬ sp < 0) (g2 : ¬ dp < 0) (g3 : ¬ n < 0) (g4 : sp.toNatClampNeg + n.toNatClampNeg ≤ am_sl.getD q 0) (g5 : dp.toNatClampNeg + n.toNatClampNeg ≤ n1) (hfit : ∀ i, i < n.toNatClampNeg → fits .byte (.int ((am_sb.getD q []).getD (sp.toNatClampNeg + i) 0)) = true) (hs : am_sz st ≤ 8)
    (kk : am_W mi d mc ms al bc bs (pc + 3) ls st Γ (am_cT I q k1 sp.toNatClampNeg dp.toNatClampNeg n.toNatClampNeg) L Q) : am_W mi d mc ms al bc bs pc ls (.int n :: .int dp :: .ref k1 :: .int sp :: .retAddr (100 + q) :: st) Γ I L Q := by
  intro p l e s m args below meth c D A Γ0 x0 S x H locs cells slots la h1 h2 h3 h4 h5 h6
  obtain ⟨w1, w2, w3, w4⟩ := hk
  have hsz : ((st.map (am_cv D x)).map fun v => v.category).sum ≤ 8 := by rw [am_cats]; exact hs
  have hnf := am_nfw
  have hts := S.2.2.2.2.2.2.1
  have hSx := S.2.2.2.2.2.2.2.2.2.2.2
  refine vk_copyt S.1 S.2.1 (S.2.2.1.trans h6.1.symm) S.2.2.2.2.2.1 (hts _ w1) (hts _ w2) (hts _ w3) (hts _ w4) (am_ar_K S h2.2.2 a1 (by decide)) h2.1 h2.2.1 h3 (hSx.2.2.2.2.2.2.1.2.1.1 q hq).2.2.2 k1 0 (am_ar_at a1) rfl g1 g2 g3 g4 g5 hfit (by show 1 ≤ d + 8; omega) (by show _ ≤ 60 * d + 400; omega) hd (fun H1 locs1 q1 q2 q3 => ?_)
  rw [am_ws_set (I' := (am_cT I q k1 sp.toNatClampNeg dp.toNatClampNeg n.toNatClampNeg)) (L' := L) (Γ' := Γ) a1.1 rfl (by rw [a1.2]; show _ = _; rw [show (am_cT I q k1 sp.toNatClampNeg dp.toNatClampNeg n.toNatClampNeg) k1 = va_cpy (fun j => (am_sb.getD q []).getD j 0) (I k1) sp.toNatClampNeg dp.toNatClampNeg n.toNatClampNeg from if_pos rfl]; rfl) (fun j hj => ⟨rfl, if_neg hj, rfl, rfl⟩)] at q1 q2
  exact kk _ _ _ _ _ _ _ _ _ _ _ _ _ S _ _ _ _ _ _ h1 ⟨q1, q2, h2.2.2⟩ q3 h4 h5 h6
theorem aw_gets1 {k : Nat} (hd : decode mi.2.1 pc = .ok (.getstatic k, 3)) (hl : Cond.fieldLink mi.1.cls k "java/lang/Integer" "DigitOnes" "[B" ∈ am_Gl) (kk : am_W mi d mc ms al bc bs (pc + 3) ls (.retAddr 61 :: st) Γ I L Q) : am_W mi d mc ms al bc bs pc ls st Γ I L Q := by
  intro p l e s m args below meth c D A Γ0 x0 S x H locs cells slots la h1 h2 h3 h4 h5 h6
  have hts := S.2.2.2.2.2.2.1
  have hSx := S.2.2.2.2.2.2.2.2.2.2.2
  exact va_gets S.1 S.2.1 hSx.2.2.2.2.2.2.2.2.1.1 h3 S.2.2.2.2.2.1 (hts _ hl) (fun _ h => h) hd (kk p l e s m args below meth c D A Γ0 x0 S x H locs cells slots la h1 h2 h3 h4 h5 h6)
theorem aw_gets2 {k : Nat} (hd : decode mi.2.1 pc = .ok (.getstatic k, 3)) (hl : Cond.fieldLink mi.1.cls k "java/lang/Integer" "DigitTens" "[B" ∈ am_Gl) (kk : am_W mi d mc ms al bc bs (pc + 3) ls (.retAddr 62 :: st) Γ I L Q) : am_W mi d mc ms al bc bs pc ls st Γ I L Q := by
  intro p l e s m args below meth c D A Γ0 x0 S x H locs cells slots la h1 h2 h3 h4 h5 h6
  have hts := S.2.2.2.2.2.2.1
  have hSx := S.2.2.2.2.2.2.2.2.2.2.2
  exact va_gets S.1 S.2.1 hSx.2.2.2.2.2.2.2.2.2.1 h3 S.2.2.2.2.2.1 (hts _ hl) (fun _ h => h) hd (kk p l e s m args below meth c D A Γ0 x0 S x H locs cells slots la h1 h2 h3 h4 h5 h6)
theorem aw_bald1 {j : Int32} (hd : decode mi.2.1 pc = .ok (.baload, 1)) (hj : vp_in j 100) (kk : am_W mi d mc ms al bc bs (pc + 1) ls (.int (nn (48 + j.toNatClampNeg % 10)) :: st) Γ I L Q) : am_W mi d mc ms al bc bs pc ls (.int j :: .retAddr 61 :: st) Γ I L Q := by
  intro p l e s m args below meth c D A Γ0 x0 S x H locs cells slots la h1 h2 h3 h4 h5 h6
  have hSx := S.2.2.2.2.2.2.2.2.2.2.2
  exact va_tb S.1 S.2.1 hSx.2.2.2.2.2.2.2.2.1.2 h3 hj rfl hd (kk p l e s m args below meth c D A Γ0 x0 S x H locs cells slots la h1 h2 h3 h4 h5 h6)
theorem aw_bald2 {j : Int32} (hd : decode mi.2.1 pc = .ok (.baload, 1)) (hj : vp_in j 100) (kk : am_W mi d mc ms al bc bs (pc + 1) ls (.int (nn (48 + j.toNatClampNeg / 10)) :: st) Γ I L Q) : am_W mi d mc ms al bc bs pc ls (.int j :: .retAddr 62 :: st) Γ I L Q := by
  intro p l e s m args below meth c D A Γ0 x0 S x H locs cells slots la h1 h2 h3 h4 h5 h6
  have hSx := S.2.2.2.2.2.2.2.2.2.2.2
  exact va_tb S.1 S.2.1 hSx.2.2.2.2.2.2.2.2.2.2 h3 hj rfl hd (kk p l e s m args below meth c D A Γ0 x0 S x H locs cells slots la h1 h2 h3 h4 h5 h6)
end JRU
