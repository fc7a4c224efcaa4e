/-! RULES OF THE NUMBERED MACHINE: throws, copies, Math, what is made -/
theorem am_nw_on {w : Cond} (h : am_nw w = true) : w.onTables = true := by
  cases w <;> first | rfl | (simp [am_nw] at h)
theorem am_Nl_use {D : am_D} {A : Nat → Prop} {s : State} {args : Array Value} {w : Cond} (h : am_Sx D A s) (hw : w ∈ am_Nl) : w.before args s = true := va_Nw.use (am_nw_on (List.mem_filter.mp hw).2) (h.2.2.2.1 w hw)
def am_exN : List String := ["java/lang/RuntimeException", "java/lang/Exception"]
/-- throw new E() can be run here -/
def am_tk (own : String) (ik ic : Nat) (E : String) : Prop := (Bundle.fit E = true ∧ ∀ n ∈ am_exN, Bundle.fit n = true) ∧ Cond.classLink own ik E ∈ am_Gl ∧ Cond.initialized E ∈ am_Gl ∧ (∀ w ∈ vx_at0 own ic E am_exN, w ∈ am_Gl ∨ w ∈ am_Nl) ∧ ∀ w ∈ Cond.classLink own ik E :: Cond.initialized E :: vx_at0 own ic E am_exN, vx_ot w = true
theorem am_nfw : nativeFrameWords "java/lang/System" "arraycopy" 5 ≤ 300 := by decide +kernel
section AWM
variable {mi : am_M} {d mc ms : Nat} {al : Bool} {bc bs pc : Nat} {ls : List (Nat × Value)} {st : List Value} {Γ : am_G} {I : am_I} {L : am_L} {Q : am_Q}
theorem aw_throw {ik ic : Nat} {E : String} (hk : am_tk mi.1.cls ik ic E) (ht : mi.2.2.2.2.1 = []) (d0 : decode mi.2.1 pc = .ok (.new ik, 3)) (d3 : decode mi.2.1 (pc + 3) = .ok (.dup, 1)) (d4 : decode mi.2.1 (pc + 4) = .ok (.invokespecial ic, 3)) (d7 : decode mi.2.1 (pc + 7) = .ok (.athrow, 1)) (hs : am_sz st ≤ 8) (hq : Q (.inr E) Γ I L) : am_W mi d mc ms al (bc + 1) (bs + 6) pc ls st Γ I L Q := by
  intro p l e s m args below meth c D A Γ0 x0 S x H locs cells slots la h1 h2 h3 h4 h5 h6
  obtain ⟨⟨k1, k2⟩, k3, k4, k5, k6⟩ := hk
  have hSx := S.2.2.2.2.2.2.2.2.2.2.2
  have hsz : ((st.map (am_cv D x)).map fun v => v.category).sum ≤ 8 := by rw [am_cats]; exact hs
  refine vx_throw0 (names := am_exN) S.1 S.2.1 S.2.2.2.2.2.2.2.2.2.1 S.2.2.2.2.2.1 k1 k2 (S.2.2.2.2.2.2.1 _ k3) (S.2.2.2.2.2.2.1 _ k4) (fun w hw => ?_) k6 hSx.2.1 hSx.2.2.1 h3 (h6.1.trans S.2.2.1.symm) d0 d3 d4 d7 (fun z hz => ?_) (by show 2 + 3 < d + 8; omega) (by show _ + (13 * (2 + 1) + 42) ≤ 60 * d + 400; omega) (by show cells + 1 ≤ mc; omega) (by show slots + 6 ≤ ms; omega) S.2.2.2.2.2.2.2.1 (fun t hv hz hk => ?_) h3.2.2 (by omega) (by omega)
  · rcases k5 w hw with h | h
    · exact S.2.2.2.2.2.2.1 _ h
    · exact am_Nl_use hSx h
  · rw [S.2.2.2.2.1, ht] at hz
    cases hz
  · exact ⟨⟨Γ, I, L, x, hq, h1, h2.1.kept (fun k q g => hk _ (h2.1 k q g).lt), h2.2.1, h2.2.2.moved hv⟩, Nat.le_trans h3.1 hz, fun q g1 g2 => (hk q (Nat.lt_of_lt_of_le g1 h3.1)).trans (h3.2.1 q g1 g2)⟩
def am_cI (I : am_I) (k0 k1 sp dp n : Nat) : am_I := fun a => if a = k1 then va_cpy (I k0) (I k1) sp dp n else I a
def am_cL (L : am_L) (k0 k1 sp dp n : Nat) : am_L := fun a => if a = k1 then va_cpy (L k0) (L k1) sp dp n else L a
theorem am_K2 {p : Program} {l : Launch} {s : State} {m : MethodId} {args : Array Value} {meth : Method} {c : Code} {D : am_D} {A : Nat → Prop} {x : am_X} {k k' t n n' : Nat} (S : am_St mi p l s m args meth c D A) (hT : am_T x Γ s) (h : am_ar Γ k t n 0) (h' : am_ar Γ k' t n' 0) (h0 : t ≠ 0) : va_K D.1 vwCl [(x.2 k, am_ty (t, n, 0)), (x.2 k', am_ty (t, n', 0))] s :=
  (am_ar_K S hT h h0).app (am_ar_K S hT h' h0)
/-- System.arraycopy can be called by the entry i -/
def am_sk (own : String) (i : Nat) : Prop := Cond.methodLink own i arraycopyName ∈ am_Gl ∧ Cond.native arraycopyName ∈ am_Gl ∧ Cond.static arraycopyName ∈ am_Gl ∧ Cond.initialized "java/lang/System" ∈ am_Gl
theorem aw_copyi {i k0 k1 n0 n1 : Nat} {sp dp n : Int32} (hd : decode mi.2.1 pc = .ok (.invokestatic i, 3)) (hk : am_sk mi.1.cls i) (a0 : am_ar Γ k0 1 n0 0) (a1 : am_ar Γ k1 1 n1 0) (g1 : ¬ sp < 0) (g2 : ¬ dp < 0) (g3 : ¬ n < 0) (g4 : sp.toNatClampNeg + n.toNatClampNeg ≤ n0) (g5 : dp.toNatClampNeg + n.toNatClampNeg ≤ n1) (hs : am_sz st ≤ 8)
    (kk : am_W mi d mc ms al bc bs (pc + 3) ls st Γ (am_cI I k0 k1 sp.toNatClampNeg dp.toNatClampNeg n.toNatClampNeg) L Q) : am_W mi d mc ms al bc bs pc ls (.int n :: .int dp :: .ref k1 :: .int sp :: .ref k0 :: st) Γ I L Q := by
  intro p l e s m args below meth c D A Γ0 x0 S x H locs cells slots la h1 h2 h3 h4 h5 h6
  obtain ⟨w1, w2, w3, w4⟩ := hk
  have hsz : ((st.map (am_cv D x)).map fun v => v.category).sum ≤ 8 := by rw [am_cats]; exact hs
  have hnf := am_nfw
  have hts := S.2.2.2.2.2.2.1
  refine va_copyi S.1 S.2.1 (S.2.2.1.trans h6.1.symm) S.2.2.2.2.2.1 (hts _ w1) (hts _ w2) (hts _ w3) (hts _ w4) (am_K2 S h2.2.2 a0 a1 (by decide)) h2.1 h2.2.1 h3 k0 k1 0 1 (am_ar_at a0) (am_ar_at a1) rfl rfl rfl g1 g2 g3 g4 g5 (fun _ _ => rfl) (by show 1 ≤ d + 8; omega) (by show _ ≤ 60 * d + 400; omega) hd (fun H1 locs1 q1 q2 q3 => ?_)
  rw [am_ws_set (I' := (am_cI I k0 k1 sp.toNatClampNeg dp.toNatClampNeg n.toNatClampNeg)) (L' := L) (Γ' := Γ) a1.1 rfl (by rw [a1.2]; show _ = _; rw [show (am_cI I k0 k1 sp.toNatClampNeg dp.toNatClampNeg n.toNatClampNeg) k1 = va_cpy (I k0) (I k1) sp.toNatClampNeg dp.toNatClampNeg n.toNatClampNeg from if_pos rfl]; rfl) (fun j hj => ⟨rfl, if_neg hj, rfl, rfl⟩)] at q1 q2
  exact kk _ _ _ _ _ _ _ _ _ _ _ _ _ S _ _ _ _ _ _ h1 ⟨q1, q2, h2.2.2⟩ q3 h4 h5 h6
theorem aw_copyl {i k0 k1 n0 n1 : Nat} {sp dp n : Int32} (hd : decode mi.2.1 pc = .ok (.invokestatic i, 3)) (hk : am_sk mi.1.cls i) (a0 : am_ar Γ k0 4 n0 0) (a1 : am_ar Γ k1 4 n1 0) (g1 : ¬ sp < 0) (g2 : ¬ dp < 0) (g3 : ¬ n < 0) (g4 : sp.toNatClampNeg + n.toNatClampNeg ≤ n0) (g5 : dp.toNatClampNeg + n.toNatClampNeg ≤ n1) (hs : am_sz st ≤ 8)
    (kk : am_W mi d mc ms al bc bs (pc + 3) ls st Γ I (am_cL L k0 k1 sp.toNatClampNeg dp.toNatClampNeg n.toNatClampNeg) Q) : am_W mi d mc ms al bc bs pc ls (.int n :: .int dp :: .ref k1 :: .int sp :: .ref k0 :: st) Γ I L Q := by
  intro p l e s m args below meth c D A Γ0 x0 S x H locs cells slots la h1 h2 h3 h4 h5 h6
  obtain ⟨w1, w2, w3, w4⟩ := hk
  have hsz : ((st.map (am_cv D x)).map fun v => v.category).sum ≤ 8 := by rw [am_cats]; exact hs
  have hnf := am_nfw
  have hts := S.2.2.2.2.2.2.1
  refine va_copyl S.1 S.2.1 (S.2.2.1.trans h6.1.symm) S.2.2.2.2.2.1 (hts _ w1) (hts _ w2) (hts _ w3) (hts _ w4) (am_K2 S h2.2.2 a0 a1 (by decide)) h2.1 h2.2.1 h3 k0 k1 0 1 (am_ar_at a0) (am_ar_at a1) rfl rfl rfl g1 g2 g3 g4 g5 (fun _ _ => rfl) (by show 1 ≤ d + 8; omega) (by show _ ≤ 60 * d + 400; omega) hd (fun H1 locs1 q1 q2 q3 => ?_)
  rw [am_ws_set (I' := I) (L' := (am_cL L k0 k1 sp.toNatClampNeg dp.toNatClampNeg n.toNatClampNeg)) (Γ' := Γ) a1.1 rfl (by rw [a1.2]; show _ = _; rw [show (am_cL L k0 k1 sp.toNatClampNeg dp.toNatClampNeg n.toNatClampNeg) k1 = va_cpy (L k0) (L k1) sp.toNatClampNeg dp.toNatClampNeg n.toNatClampNeg from if_pos rfl]; rfl) (fun j hj => ⟨rfl, rfl, if_neg hj, rfl⟩)] at q1 q2
  exact kk _ _ _ _ _ _ _ _ _ _ _ _ _ S _ _ _ _ _ _ h1 ⟨q1, q2, h2.2.2⟩ q3 h4 h5 h6
/-- a function of Math can be called by the entry i -/
def am_mf (own : String) (i : Nat) (y : MethodName) (b : ByteArray) (n : Nat) (r : FieldType) : Prop := Cond.methodLink own i y ∈ am_Gl ∧ Cond.static y ∈ am_Gl ∧ Cond.initialized "java/lang/Math" ∈ am_Gl ∧ Cond.code y b n (some r) ∈ am_Gl
theorem aw_min {i : Nat} {y z : Int32} (hd : decode mi.2.1 pc = .ok (.invokestatic i, 3)) (hk : am_mf mi.1.cls i Lib.Math.min.name Lib.Math.min.code 2 .int) (hs : am_sz st ≤ 8) (kk : am_W mi d mc ms al bc bs (pc + 3) ls (.int (if z < y then z else y) :: st) Γ I L Q) : am_W mi d mc ms al bc bs pc ls (.int z :: .int y :: st) Γ I L Q := by
  intro p l e s m args below meth c D A Γ0 x0 S x H locs cells slots la h1 h2 h3 h4 h5 h6
  obtain ⟨w1, w2, w3, w4⟩ := hk
  have hsz : ((st.map (am_cv D x)).map fun v => v.category).sum ≤ 8 := by rw [am_cats]; exact hs
  have hts := S.2.2.2.2.2.2.1
  exact va_mmin S.1 S.2.1 (S.2.2.1.trans h6.1.symm) S.2.2.2.2.2.1 (hts _ w1) (hts _ w2) (hts _ w3) (hts _ w4) (by show 1 ≤ d + 8; omega) (by show _ ≤ 60 * d + 400; omega) (by show cells ≤ mc; omega) (by show slots ≤ ms; omega) hd (kk _ _ _ _ _ _ _ _ _ _ _ _ _ S _ _ _ _ _ _ h1 h2 h3 h4 h5 h6)
theorem aw_max {i : Nat} {y z : Int32} (hd : decode mi.2.1 pc = .ok (.invokestatic i, 3)) (hk : am_mf mi.1.cls i Lib.Math.max.name Lib.Math.max.code 2 .int) (hs : am_sz st ≤ 8) (kk : am_W mi d mc ms al bc bs (pc + 3) ls (.int (if y < z then z else y) :: st) Γ I L Q) : am_W mi d mc ms al bc bs pc ls (.int z :: .int y :: st) Γ I L Q := by
  intro p l e s m args below meth c D A Γ0 x0 S x H locs cells slots la h1 h2 h3 h4 h5 h6
  obtain ⟨w1, w2, w3, w4⟩ := hk
  have hsz : ((st.map (am_cv D x)).map fun v => v.category).sum ≤ 8 := by rw [am_cats]; exact hs
  have hts := S.2.2.2.2.2.2.1
  exact va_mmax S.1 S.2.1 (S.2.2.1.trans h6.1.symm) S.2.2.2.2.2.1 (hts _ w1) (hts _ w2) (hts _ w3) (hts _ w4) (by show 1 ≤ d + 8; omega) (by show _ ≤ 60 * d + 400; omega) (by show cells ≤ mc; omega) (by show slots ≤ ms; omega) hd (kk _ _ _ _ _ _ _ _ _ _ _ _ _ S _ _ _ _ _ _ h1 h2 h3 h4 h5 h6)
theorem aw_abs {i : Nat} {y : Int32} (hd : decode mi.2.1 pc = .ok (.invokestatic i, 3)) (hk : am_mf mi.1.cls i Lib.Math.abs.name Lib.Math.abs.code 1 .int) (hs : am_sz st ≤ 8) (kk : am_W mi d mc ms al bc bs (pc + 3) ls (.int (if 0 ≤ y then y else 0 - y) :: st) Γ I L Q) : am_W mi d mc ms al bc bs pc ls (.int y :: st) Γ I L Q := by
  intro p l e s m args below meth c D A Γ0 x0 S x H locs cells slots la h1 h2 h3 h4 h5 h6
  obtain ⟨w1, w2, w3, w4⟩ := hk
  have hsz : ((st.map (am_cv D x)).map fun v => v.category).sum ≤ 8 := by rw [am_cats]; exact hs
  have hts := S.2.2.2.2.2.2.1
  exact va_mabs S.1 S.2.1 (S.2.2.1.trans h6.1.symm) S.2.2.2.2.2.1 (hts _ w1) (hts _ w2) (hts _ w3) (hts _ w4) (by show 1 ≤ d + 8; omega) (by show _ ≤ 60 * d + 400; omega) (by show cells ≤ mc; omega) (by show slots ≤ ms; omega) hd (kk _ _ _ _ _ _ _ _ _ _ _ _ _ S _ _ _ _ _ _ h1 h2 h3 h4 h5 h6)
theorem aw_minl {i : Nat} {y z : Int64} (hd : decode mi.2.1 pc = .ok (.invokestatic i, 3)) (hk : am_mf mi.1.cls i Lib.MathLoose.min_long.x Lib.MathLoose.min_long.code 4 .long) (hs : am_sz st ≤ 8) (kk : am_W mi d mc ms al bc bs (pc + 3) ls (.long (if z < y then z else y) :: st) Γ I L Q) : am_W mi d mc ms al bc bs pc ls (.long z :: .long y :: st) Γ I L Q := by
  intro p l e s m args below meth c D A Γ0 x0 S x H locs cells slots la h1 h2 h3 h4 h5 h6
  obtain ⟨w1, w2, w3, w4⟩ := hk
  have hsz : ((st.map (am_cv D x)).map fun v => v.category).sum ≤ 8 := by rw [am_cats]; exact hs
  have hts := S.2.2.2.2.2.2.1
  exact va_mmin_long S.1 S.2.1 (S.2.2.1.trans h6.1.symm) S.2.2.2.2.2.1 (hts _ w1) (hts _ w2) (hts _ w3) (hts _ w4) (by show 1 ≤ d + 8; omega) (by show _ ≤ 60 * d + 400; omega) (by show cells ≤ mc; omega) (by show slots ≤ ms; omega) hd (kk _ _ _ _ _ _ _ _ _ _ _ _ _ S _ _ _ _ _ _ h1 h2 h3 h4 h5 h6)
/-! what is made: in constructors alone -/
def am_nG (Γ : am_G) (t : Nat × Nat × Nat) : am_G := (Γ.1 + 1, va_up Γ.2.1 Γ.1 t, va_up Γ.2.2 Γ.1 (fun _ => none))
def am_nI (Γ : am_G) (I : am_I) : am_I := va_up I Γ.1 (fun _ => 0)
def am_nL (Γ : am_G) (L : am_L) : am_L := va_up L Γ.1 (fun _ => 0)
theorem am_ce_cong {x x' : am_X} {j : Nat} {t : Nat × Nat × Nat} {i : Nat → Int32} {l : Nat → Int64} {r : Nat → Option Nat} (hx : x'.2 j = x.2 j) (hr : ∀ f q, r f = some q → x'.1 q = x.1 q) : am_ce x' j t i l r = am_ce x j t i l r := by
  have e : ∀ f, (r f).map x'.1 = (r f).map x.1 := fun f => by
    cases h : r f with
    | none => rfl
    | some q => show some _ = some _; rw [hr f q h]
  have e2 : ∀ n f, am_fv x' n (i f) (l f) (r f) = am_fv x n (i f) (l f) (r f) := fun n f => by
    unfold am_fv
    rw [e f]
  unfold am_ce
  simp only [e, e2, hx]
theorem am_fv0 (x x' : am_X) (t : Nat) : am_fv x t 0 0 none = am_fv x' t 0 0 none := by
  unfold am_fv
  rfl
theorem am_push {x : am_X} {q : Nat} {cA : ClassId} {t : Nat × Nat × Nat} {e' : va_E} (hcl : am_cl Γ) (hc : am_ce (va_up x.1 Γ.1 q, va_up x.2 Γ.1 cA) Γ.1 t (fun _ => 0) (fun _ => 0) (fun _ => none) = e') : am_ws x Γ I L ++ [(q, e')] = am_ws (va_up x.1 Γ.1 q, va_up x.2 Γ.1 cA) (am_nG Γ t) (am_nI Γ I) (am_nL Γ L) := by
  refine am_ws_push rfl (va_up_self _ _ _) ?_ (fun j hj => ?_)
  · show am_ce _ _ (va_up Γ.2.1 Γ.1 t Γ.1) (va_up I Γ.1 _ Γ.1) (va_up L Γ.1 _ Γ.1) (va_up Γ.2.2 Γ.1 _ Γ.1) = e'
    rw [va_up_self, va_up_self, va_up_self, va_up_self]
    exact hc
  · have hne : j ≠ Γ.1 := by omega
    have u1 : ∀ {α : Type} (f : Nat → α) (v : α), va_up f Γ.1 v j = f j := fun f v => if_neg hne
    refine ⟨u1 _ _, ?_⟩
    show am_ce _ _ (va_up Γ.2.1 Γ.1 t j) (va_up I Γ.1 _ j) (va_up L Γ.1 _ j) (va_up Γ.2.2 Γ.1 _ j) = _
    rw [u1, u1, u1, u1]
    refine am_ce_cong (u1 _ _) (fun f r hr => if_neg ?_)
    have := hcl j f r hj hr
    omega
theorem am_nT {x : am_X} {s : State} {q : Nat} {cA : ClassId} {t : Nat × Nat × Nat} (hT : am_T x Γ s) (hn : t.1 ≠ 0 → ArrOfT s cA (am_ty t) ∧ va_RA s cA (am_ty t)) : am_T (va_up x.1 Γ.1 q, va_up x.2 Γ.1 cA) (am_nG Γ t) s := by
  refine ⟨fun k hk h0 => ?_, fun j f r hj hr => ?_⟩
  · by_cases e : k = Γ.1
    · subst e
      have e1 : (am_nG Γ t).2.1 Γ.1 = t := va_up_self _ _ _
      rw [e1] at h0 ⊢
      show ArrOfT s (va_up x.2 Γ.1 cA Γ.1) _ ∧ va_RA s (va_up x.2 Γ.1 cA Γ.1) _
      rw [va_up_self]
      exact hn h0
    · have hk' : k < Γ.1 := by have : k < Γ.1 + 1 := hk; omega
      have e1 : (am_nG Γ t).2.1 k = Γ.2.1 k := if_neg e
      have e2 : va_up x.2 Γ.1 cA k = x.2 k := if_neg e
      rw [e1] at h0 ⊢
      show ArrOfT s (va_up x.2 Γ.1 cA k) _ ∧ va_RA s (va_up x.2 Γ.1 cA k) _
      rw [e2]
      exact hT.1 k hk' h0
  · by_cases e : j = Γ.1
    · subst e
      have e1 : (am_nG Γ t).2.2 Γ.1 f = none := by show va_up Γ.2.2 Γ.1 _ Γ.1 f = none; rw [va_up_self]
      rw [e1] at hr
      cases hr
    · have hj' : j < Γ.1 := by have : j < Γ.1 + 1 := hj; omega
      have e1 : (am_nG Γ t).2.2 j = Γ.2.2 j := if_neg e
      rw [e1] at hr
      exact Nat.lt_succ_of_lt (hT.2 j f r hj' hr)
theorem am_n_agr {Γ0 : am_G} {x0 x : am_X} {q : Nat} {cA : ClassId} {t : Nat × Nat × Nat} (h : am_agr true Γ0 x0 Γ x) : am_agr true Γ0 x0 (am_nG Γ t) (va_up x.1 Γ.1 q, va_up x.2 Γ.1 cA) :=
  h.tr ⟨Nat.le_succ _, fun k hk => if_neg (by omega)⟩
theorem am_n_eq {D : am_D} {x : am_X} {q : Nat} {cA : ClassId} (v : Value) (hv : am_ok Γ v) : am_cv D (va_up x.1 Γ.1 q, va_up x.2 Γ.1 cA) v = am_cv D x v := by
  refine (am_ok_eq (Γ := Γ) (Γ' := Γ) (x := x) (fun k hk => if_neg ?_) v hv).symm
  omega
theorem am_n_st {D : am_D} {x : am_X} {q : Nat} {cA : ClassId} (h : ∀ v ∈ st, am_ok Γ v) : (Value.ref Γ.1 :: st).map (am_cv D (va_up x.1 Γ.1 q, va_up x.2 Γ.1 cA)) = .ref q :: st.map (am_cv D x) := by
  show Value.ref (va_up x.1 Γ.1 q Γ.1) :: _ = _
  rw [va_up_self, List.map_congr_left (fun v hv => am_n_eq v (h v hv))]
theorem am_n_ls {D : am_D} {x : am_X} {q : Nat} {cA : ClassId} (h : ∀ z ∈ ls, am_ok Γ z.2) : am_lc D (va_up x.1 Γ.1 q, va_up x.2 Γ.1 cA) ls = am_lc D x ls :=
  List.map_congr_left (fun z hz => by rw [am_n_eq z.2 (h z hz)])
theorem aw_new {i ci N : Nat} {C : String} {T : u_T} (hd : decode mi.2.1 pc = .ok (.new i, 3)) (hc : vwCl[ci]? = some (C, T, N)) (hcl : Cond.classLink mi.1.cls i C ∈ am_Gl) (hi : Cond.instantiable C N ∈ am_Gl) (hn : Cond.initialized C ∈ am_Gl) (hls : ∀ z ∈ ls, am_ok Γ z.2) (hst : ∀ v ∈ st, am_ok Γ v)
    (kk : am_W mi d mc ms true bc bs (pc + 3) ls (.ref Γ.1 :: st) (am_nG Γ (0, ci, 0)) (am_nI Γ I) (am_nL Γ L) Q) : am_W mi d mc ms true (bc + 1) (bs + N) pc ls st Γ I L Q := by
  intro p l e s m args below meth c D A Γ0 x0 S x H locs cells slots la h1 h2 h3 h4 h5 h6
  obtain ⟨w1, w2, w3, ty0, w4, w5⟩ := am_cks ci _ hc
  have hts := S.2.2.2.2.2.2.1
  refine va_new (fs := (List.range (am_nf ci)).map (fun f => am_fv x (am_ft ci f) 0 0 none)) S.1 S.2.1 hts w1 ty0 w4 S.2.2.2.2.2.1 (hts _ hcl) (hts _ hi) (hts _ hn) (S.K (tys := []) (fun _ _ h => by cases h)) h2.1 h2.2.1 h3 S.2.2.2.2.2.2.2.2.2.2.1.1 hc (fun j hj => ?_) (by show cells + 1 ≤ mc; omega) (by show slots + N ≤ ms; omega) hd (fun q H1 g1 g2 g3 => ?_)
  · rw [(w5 j hj).2.2]
    have hj' : j < am_nf ci := by rw [← w2]; exact hj
    unfold vp_V
    rw [List.getD_eq_getElem?_getD, List.getElem?_map, List.getElem?_range hj']
    exact am_fv0 _ _ _
  · have ew := am_push (I := I) (L := L) (x := x) (q := q) (cA := 0) (t := (0, ci, 0)) h2.2.2.2 (e' := .inr (ci, (List.range (am_nf ci)).map (fun f => am_fv x (am_ft ci f) 0 0 none))) (by
      show (Sum.inr (ci, _) : va_E) = .inr (ci, _)
      refine congrArg (fun z => (Sum.inr (ci, z) : va_E)) (List.map_congr_left (fun f _ => ?_))
      exact am_fv0 _ _ _)
    rw [ew] at g1 g2
    have k := kk p l e s m args below meth c D A Γ0 x0 S (va_up x.1 Γ.1 q, va_up x.2 Γ.1 0) H1 locs (cells + 1) (slots + N) la (am_n_agr h1) ⟨g1, g2, am_nT h2.2.2 (fun z => absurd rfl z)⟩ g3 (by omega) (by omega) (by rw [am_n_ls hls]; exact h6)
    rw [am_n_st hst] at k
    exact k
theorem aw_newI {y : Int32} {n : Nat} (hd : decode mi.2.1 pc = .ok (.newarray .int, 2)) (hw : Cond.arrayClass .int ∈ am_Gl) (g1 : ¬ y < 0) (g2 : y.toNatClampNeg = n) (g3 : n ≤ 10000) (hls : ∀ z ∈ ls, am_ok Γ z.2) (hst : ∀ v ∈ st, am_ok Γ v)
    (kk : am_W mi d mc ms true bc bs (pc + 2) ls (.ref Γ.1 :: st) (am_nG Γ (1, n, 0)) (am_nI Γ I) (am_nL Γ L) Q) : am_W mi d mc ms true (bc + 1) (bs + n) pc ls (.int y :: st) Γ I L Q := by
  intro p l e s m args below meth c D A Γ0 x0 S x H locs cells slots la h1 h2 h3 h4 h5 h6
  have hts := S.2.2.2.2.2.2.1
  refine va_newa (atype := .int) (ty := .int) (tys := []) (a0 := (n, .inl (fun _ => 0))) S.1 S.2.1 (hts _ hw) rfl (S.K (fun _ _ h => by cases h)) h2.1 h2.2.1 h3 S.2.2.2.2.2.2.2.2.2.2.1.1 (fun _ => rfl) g1 g2 (by simp only [componentBytes]; omega) (by show cells + 1 ≤ mc; omega) (by show slots + n ≤ ms; omega) hd (fun q cA H1 gK q1 q2 q3 => ?_)
  have ew := am_push (I := I) (L := L) (x := x) (q := q) (cA := cA) (t := (1, n, 0)) h2.2.2.2 (e' := .inl (cA, (n, .inl (fun _ => 0)))) (by
    show (Sum.inl (va_up x.2 Γ.1 cA Γ.1, _) : va_E) = _
    rw [va_up_self])
  rw [ew] at q1 q2
  have k := kk p l e s m args below meth c D A Γ0 x0 S (va_up x.1 Γ.1 q, va_up x.2 Γ.1 cA) H1 locs (cells + 1) (slots + n) la (am_n_agr h1) ⟨q1, q2, am_nT h2.2.2 (fun _ => gK.2 0 _ rfl)⟩ q3 (by omega) (by omega) (by rw [am_n_ls hls]; exact h6)
  rw [am_n_st hst] at k
  exact k
theorem aw_newB {y : Int32} {n : Nat} (hd : decode mi.2.1 pc = .ok (.newarray .byte, 2)) (hw : Cond.arrayClass .byte ∈ am_Gl) (g1 : ¬ y < 0) (g2 : y.toNatClampNeg = n) (g3 : n ≤ 10000) (hls : ∀ z ∈ ls, am_ok Γ z.2) (hst : ∀ v ∈ st, am_ok Γ v)
    (kk : am_W mi d mc ms true bc bs (pc + 2) ls (.ref Γ.1 :: st) (am_nG Γ (2, n, 0)) (am_nI Γ I) (am_nL Γ L) Q) : am_W mi d mc ms true (bc + 1) (bs + n) pc ls (.int y :: st) Γ I L Q := by
  intro p l e s m args below meth c D A Γ0 x0 S x H locs cells slots la h1 h2 h3 h4 h5 h6
  have hts := S.2.2.2.2.2.2.1
  refine va_newa (atype := .byte) (ty := .byte) (tys := []) (a0 := (n, .inl (fun _ => 0))) S.1 S.2.1 (hts _ hw) rfl (S.K (fun _ _ h => by cases h)) h2.1 h2.2.1 h3 S.2.2.2.2.2.2.2.2.2.2.1.1 (fun _ => rfl) g1 g2 (by simp only [componentBytes]; omega) (by show cells + 1 ≤ mc; omega) (by show slots + n ≤ ms; omega) hd (fun q cA H1 gK q1 q2 q3 => ?_)
  have ew := am_push (I := I) (L := L) (x := x) (q := q) (cA := cA) (t := (2, n, 0)) h2.2.2.2 (e' := .inl (cA, (n, .inl (fun _ => 0)))) (by
    show (Sum.inl (va_up x.2 Γ.1 cA Γ.1, _) : va_E) = _
    rw [va_up_self])
  rw [ew] at q1 q2
  have k := kk p l e s m args below meth c D A Γ0 x0 S (va_up x.1 Γ.1 q, va_up x.2 Γ.1 cA) H1 locs (cells + 1) (slots + n) la (am_n_agr h1) ⟨q1, q2, am_nT h2.2.2 (fun _ => gK.2 0 _ rfl)⟩ q3 (by omega) (by omega) (by rw [am_n_ls hls]; exact h6)
  rw [am_n_st hst] at k
  exact k
theorem aw_newZ {y : Int32} {n : Nat} (hd : decode mi.2.1 pc = .ok (.newarray .boolean, 2)) (hw : Cond.arrayClass .boolean ∈ am_Gl) (g1 : ¬ y < 0) (g2 : y.toNatClampNeg = n) (g3 : n ≤ 10000) (hls : ∀ z ∈ ls, am_ok Γ z.2) (hst : ∀ v ∈ st, am_ok Γ v)
    (kk : am_W mi d mc ms true bc bs (pc + 2) ls (.ref Γ.1 :: st) (am_nG Γ (3, n, 0)) (am_nI Γ I) (am_nL Γ L) Q) : am_W mi d mc ms true (bc + 1) (bs + n) pc ls (.int y :: st) Γ I L Q := by
  intro p l e s m args below meth c D A Γ0 x0 S x H locs cells slots la h1 h2 h3 h4 h5 h6
  have hts := S.2.2.2.2.2.2.1
  refine va_newa (atype := .boolean) (ty := .boolean) (tys := []) (a0 := (n, .inl (fun _ => 0))) S.1 S.2.1 (hts _ hw) rfl (S.K (fun _ _ h => by cases h)) h2.1 h2.2.1 h3 S.2.2.2.2.2.2.2.2.2.2.1.1 (fun _ => rfl) g1 g2 (by simp only [componentBytes]; omega) (by show cells + 1 ≤ mc; omega) (by show slots + n ≤ ms; omega) hd (fun q cA H1 gK q1 q2 q3 => ?_)
  have ew := am_push (I := I) (L := L) (x := x) (q := q) (cA := cA) (t := (3, n, 0)) h2.2.2.2 (e' := .inl (cA, (n, .inl (fun _ => 0)))) (by
    show (Sum.inl (va_up x.2 Γ.1 cA Γ.1, _) : va_E) = _
    rw [va_up_self])
  rw [ew] at q1 q2
  have k := kk p l e s m args below meth c D A Γ0 x0 S (va_up x.1 Γ.1 q, va_up x.2 Γ.1 cA) H1 locs (cells + 1) (slots + n) la (am_n_agr h1) ⟨q1, q2, am_nT h2.2.2 (fun _ => gK.2 0 _ rfl)⟩ q3 (by omega) (by omega) (by rw [am_n_ls hls]; exact h6)
  rw [am_n_st hst] at k
  exact k
theorem aw_newL {y : Int32} {n : Nat} (hd : decode mi.2.1 pc = .ok (.newarray .long, 2)) (hw : Cond.arrayClass .long ∈ am_Gl) (g1 : ¬ y < 0) (g2 : y.toNatClampNeg = n) (g3 : n ≤ 10000) (hls : ∀ z ∈ ls, am_ok Γ z.2) (hst : ∀ v ∈ st, am_ok Γ v)
    (kk : am_W mi d mc ms true bc bs (pc + 2) ls (.ref Γ.1 :: st) (am_nG Γ (4, n, 0)) (am_nI Γ I) (am_nL Γ L) Q) : am_W mi d mc ms true (bc + 1) (bs + n) pc ls (.int y :: st) Γ I L Q := by
  intro p l e s m args below meth c D A Γ0 x0 S x H locs cells slots la h1 h2 h3 h4 h5 h6
  have hts := S.2.2.2.2.2.2.1
  refine va_newa (atype := .long) (ty := .long) (tys := []) (a0 := (n, .inr (.inl (fun _ => 0)))) S.1 S.2.1 (hts _ hw) rfl (S.K (fun _ _ h => by cases h)) h2.1 h2.2.1 h3 S.2.2.2.2.2.2.2.2.2.2.1.1 (fun _ => rfl) g1 g2 (by simp only [componentBytes]; omega) (by show cells + 1 ≤ mc; omega) (by show slots + n ≤ ms; omega) hd (fun q cA H1 gK q1 q2 q3 => ?_)
  have ew := am_push (I := I) (L := L) (x := x) (q := q) (cA := cA) (t := (4, n, 0)) h2.2.2.2 (e' := .inl (cA, (n, .inr (.inl (fun _ => 0))))) (by
    show (Sum.inl (va_up x.2 Γ.1 cA Γ.1, _) : va_E) = _
    rw [va_up_self])
  rw [ew] at q1 q2
  have k := kk p l e s m args below meth c D A Γ0 x0 S (va_up x.1 Γ.1 q, va_up x.2 Γ.1 cA) H1 locs (cells + 1) (slots + n) la (am_n_agr h1) ⟨q1, q2, am_nT h2.2.2 (fun _ => gK.2 0 _ rfl)⟩ q3 (by omega) (by omega) (by rw [am_n_ls hls]; exact h6)
  rw [am_n_st hst] at k
  exact k
theorem aw_newD {y : Int32} {n : Nat} (hd : decode mi.2.1 pc = .ok (.newarray .double, 2)) (hw : Cond.arrayClass .double ∈ am_Gl) (g1 : ¬ y < 0) (g2 : y.toNatClampNeg = n) (g3 : n ≤ 10000) (hls : ∀ z ∈ ls, am_ok Γ z.2) (hst : ∀ v ∈ st, am_ok Γ v)
    (kk : am_W mi d mc ms true bc bs (pc + 2) ls (.ref Γ.1 :: st) (am_nG Γ (5, n, 0)) (am_nI Γ I) (am_nL Γ L) Q) : am_W mi d mc ms true (bc + 1) (bs + n) pc ls (.int y :: st) Γ I L Q := by
  intro p l e s m args below meth c D A Γ0 x0 S x H locs cells slots la h1 h2 h3 h4 h5 h6
  have hts := S.2.2.2.2.2.2.1
  refine va_newa (atype := .double) (ty := .double) (tys := []) (a0 := (n, .inr (.inr (.inr (.inl (fun _ => (0 : Int64).toUInt64)))))) S.1 S.2.1 (hts _ hw) rfl (S.K (fun _ _ h => by cases h)) h2.1 h2.2.1 h3 S.2.2.2.2.2.2.2.2.2.2.1.1 (fun _ => rfl) g1 g2 (by simp only [componentBytes]; omega) (by show cells + 1 ≤ mc; omega) (by show slots + n ≤ ms; omega) hd (fun q cA H1 gK q1 q2 q3 => ?_)
  have ew := am_push (I := I) (L := L) (x := x) (q := q) (cA := cA) (t := (5, n, 0)) h2.2.2.2 (e' := .inl (cA, (n, .inr (.inr (.inr (.inl (fun _ => (0 : Int64).toUInt64))))))) (by
    show (Sum.inl (va_up x.2 Γ.1 cA Γ.1, _) : va_E) = _
    rw [va_up_self])
  rw [ew] at q1 q2
  have k := kk p l e s m args below meth c D A Γ0 x0 S (va_up x.1 Γ.1 q, va_up x.2 Γ.1 cA) H1 locs (cells + 1) (slots + n) la (am_n_agr h1) ⟨q1, q2, am_nT h2.2.2 (fun _ => gK.2 0 _ rfl)⟩ q3 (by omega) (by omega) (by rw [am_n_ls hls]; exact h6)
  rw [am_n_st hst] at k
  exact k
theorem aw_newq {i n b : Nat} {y : Int32} {C : String} (hd : decode mi.2.1 pc = .ok (.anewarray i, 3)) (hcl : Cond.classLink mi.1.cls i C ∈ am_Gl) (hb : am_cn b = C) (hC : C = "TollTrees$Gate" ∨ C = "TollTrees$Station") (g1 : ¬ y < 0) (g2 : y.toNatClampNeg = n) (g3 : n ≤ 10000) (hls : ∀ z ∈ ls, am_ok Γ z.2) (hst : ∀ v ∈ st, am_ok Γ v)
    (kk : am_W mi d mc ms true bc bs (pc + 3) ls (.ref Γ.1 :: st) (am_nG Γ (6, n, b)) (am_nI Γ I) (am_nL Γ L) Q) : am_W mi d mc ms true (bc + 1) (bs + n) pc ls (.int y :: st) Γ I L Q := by
  intro p l e s m args below meth c D A Γ0 x0 S x H locs cells slots la h1 h2 h3 h4 h5 h6
  have hts := S.2.2.2.2.2.2.1
  have hSx := S.2.2.2.2.2.2.2.2.2.2.2
  have hov : va_AO C s := by rcases hC with rfl | rfl; exact hSx.2.2.2.2.1.1; exact hSx.2.2.2.2.1.2
  refine va_newq (tys := []) S.1 S.2.1 S.2.2.2.2.2.1 (hts _ hcl) hov (S.K (fun _ _ h => by cases h)) h2.1 h2.2.1 h3 S.2.2.2.2.2.2.2.2.2.2.1.1 g1 g2 (by omega) (by show cells + 1 ≤ mc; omega) (by show slots + n ≤ ms; omega) hd (fun q cA H1 gK q1 q2 q3 => ?_)
  have ew := am_push (I := I) (L := L) (x := x) (q := q) (cA := cA) (t := (6, n, b)) h2.2.2.2 (e' := .inl (cA, n, .inr (.inr (.inr (.inr (fun _ => none)))))) (by
    show (Sum.inl (va_up x.2 Γ.1 cA Γ.1, _) : va_E) = _
    rw [va_up_self]
    rfl)
  rw [ew] at q1 q2
  have k := kk p l e s m args below meth c D A Γ0 x0 S (va_up x.1 Γ.1 q, va_up x.2 Γ.1 cA) H1 locs (cells + 1) (slots + n) la (am_n_agr h1) ⟨q1, q2, am_nT h2.2.2 (fun _ => by
    have z := gK.2 0 _ rfl
    show ArrOfT s cA (.object (am_cn b)) ∧ va_RA s cA (.object (am_cn b))
    rw [hb]
    exact z)⟩ q3 (by omega) (by omega) (by rw [am_n_ls hls]; exact h6)
  rw [am_n_st hst] at k
  exact k
theorem am_ur_T {x : am_X} {s : State} {k f r : Nat} (hT : am_T x Γ s) (hr : r < Γ.1) : am_T x (am_ur Γ k f r) s := by
  refine ⟨hT.1, fun j g q hj hq => ?_⟩
  have hq' : (if j = k then va_up (Γ.2.2 k) f (some r) else Γ.2.2 j) g = some q := hq
  by_cases e : j = k
  · rw [if_pos e] at hq'
    unfold va_up at hq'
    by_cases e2 : g = f
    · rw [if_pos e2] at hq'
      cases hq'
      exact hr
    · rw [if_neg e2] at hq'
      exact hT.2 k g q (by rw [← e]; exact hj) hq'
  · rw [if_neg e] at hq'
    exact hT.2 j g q hj hq'
/-- a final reference, in a constructor -/
theorem aw_putR {i ci f k r : Nat} {ty : FieldType} (hd : decode mi.2.1 pc = .ok (.putfield i, 3)) (hl : am_lp mi.1.cls i ci f true ty) (ho : am_ob Γ k ci) (hf : am_ft ci f = 2) (hr : r < Γ.1) (hi : mi.1.name = "<init>") (hn : ∀ a, narrow ty (.ref a) = .ref a) (hft : ∀ a, fits ty (.ref a) = true)
    (kk : am_W mi d mc ms true bc bs (pc + 3) ls st (am_ur Γ k f r) I L Q) : am_W mi d mc ms true bc bs pc ls (.ref r :: .ref k :: st) Γ I L Q := by
  intro p l e s m args below meth c D A Γ0 x0 S x H locs cells slots la h1 h2 h3 h4 h5 h6
  obtain ⟨⟨C, T, N⟩, hc, hk, hw, hfin, hty, hown⟩ := hl
  obtain ⟨w1, w2, w3, ty0, w4, -⟩ := am_cks ci _ hc
  refine va_putF (ty := ty) (v := .ref (x.1 r)) S.1 S.2.1 S.2.2.2.2.2.2.1 w1 ty0 w4 w3 S.2.2.2.2.2.1 (S.K (tys := []) (fun _ _ h => by cases h)) h2.1 h2.2.1 h3 k (am_ob_at ho) hc f hk (S.2.2.2.2.2.2.1 _ hw) (fun _ h => h) hfin (S.2.2.2.2.2.2.2.2.1.trans hi) (hown rfl) hty (hn _) (hft _) (by rw [List.length_map, List.length_range, ← w2]; exact hk) hd (fun H1 locs1 g1 g2 g3 => ?_)
  have e : (am_ws x Γ I L).set k (x.1 k, .inr (ci, ((List.range (am_nf ci)).map (fun f => am_fv x (am_ft ci f) (I k f) (L k f) (Γ.2.2 k f))).set f (.ref (x.1 r)))) = am_ws x (am_ur Γ k f r) I L := by
    refine am_ws_set ho.1 rfl ?_ (fun j hj => ⟨rfl, rfl, rfl, if_neg hj⟩)
    have e2 : (am_ur Γ k f r).2.2 k = va_up (Γ.2.2 k) f (some r) := if_pos rfl
    have e3 : (am_ur Γ k f r).2.1 k = (0, ci, 0) := ho.2
    rw [e2, e3]
    show (Sum.inr (ci, _) : va_E) = .inr (ci, _)
    refine congrArg (fun z => (Sum.inr (ci, z) : va_E)) (am_map_set ?_ (fun j hj => ?_))
    · rw [hf, va_up_self]
      rfl
    · rw [show va_up (Γ.2.2 k) f (some r) j = Γ.2.2 k j from if_neg hj]
  rw [e] at g1 g2
  exact kk _ _ _ _ _ _ _ _ _ _ _ _ _ S _ _ _ _ _ _ (h1.tr ⟨Nat.le_refl _, fun _ _ => rfl⟩) ⟨g1, g2, am_ur_T h2.2.2 hr⟩ g3 h4 h5 h6
theorem aw_aast {k n b ci r : Nat} {i : Int32} (hd : decode mi.2.1 pc = .ok (.aastore, 1)) (ha : am_ar Γ k 6 n b) (hi : vp_in i n) (ho : am_ob Γ r b) (kk : am_W mi d mc ms true bc bs (pc + 1) ls st (am_ur Γ k i.toNatClampNeg r) I L Q) : am_W mi d mc ms true bc bs pc ls (.ref r :: .int i :: .ref k :: st) Γ I L Q := by
  intro p l e s m args below meth c D A Γ0 x0 S x H locs cells slots la h1 h2 h3 h4 h5 h6
  have hb : ∃ q : vw_C, vwCl[b]? = some q := by
    cases h : vwCl[b]? with
    | some q => exact ⟨q, rfl⟩
    | none =>
      exfalso
      have z := h2.1 r _ (am_ob_at ho)
      obtain ⟨q, hq, -⟩ : ∃ q : vw_C, vwCl[b]? = some q ∧ _ := z
      rw [h] at hq
      cases hq
  obtain ⟨q, hq⟩ := hb
  have hty : am_ty (6, n, b) = .object q.1 := by show FieldType.object (am_cn b) = _; unfold am_cn; rw [hq]; rfl
  have hK := am_ar_K S h2.2.2 ha (by decide)
  rw [hty] at hK
  refine va_astq S.1 S.2.1 hK h2.1 h2.2.1 h3 k 0 r b (am_ar_at ha) rfl (am_ob_at ho) hq hi hd (fun H1 locs1 g1 g2 g3 => ?_)
  rw [am_ws_set (I' := I) (L' := L) (Γ' := am_ur Γ k i.toNatClampNeg r) ha.1 rfl (by
    have e2 : (am_ur Γ k i.toNatClampNeg r).2.2 k = va_up (Γ.2.2 k) i.toNatClampNeg (some r) := if_pos rfl
    have e3 : (am_ur Γ k i.toNatClampNeg r).2.1 k = (6, n, b) := ha.2
    rw [e2, e3]
    show (Sum.inl (x.2 k, (n, .inr (.inr (.inr (.inr (fun j => (va_up (Γ.2.2 k) i.toNatClampNeg (some r) j).map x.1)))))) : va_E) = _
    have e4 : (fun j => (va_up (Γ.2.2 k) i.toNatClampNeg (some r) j).map x.1) = va_up (fun j => (Γ.2.2 k j).map x.1) i.toNatClampNeg (some (x.1 r)) := by
      funext j
      unfold va_up
      by_cases h : j = i.toNatClampNeg
      · rw [if_pos h, if_pos h]; rfl
      · rw [if_neg h, if_neg h]
    rw [e4]) (fun j hj => ⟨rfl, rfl, rfl, if_neg hj⟩)] at g1 g2
  exact kk _ _ _ _ _ _ _ _ _ _ _ _ _ S _ _ _ _ _ _ (h1.tr ⟨Nat.le_refl _, fun _ _ => rfl⟩) ⟨g1, g2, am_ur_T h2.2.2 ho.1⟩ g3 h4 h5 h6
theorem aw_obj {i k : Nat} (hd : decode mi.2.1 pc = .ok (.invokespecial i, 3)) (hl : Cond.methodLink mi.1.cls i Lib.objectInit ∈ am_Gl) (hi : Cond.instanceMethod Lib.objectInit ∈ am_Gl) (hc : Cond.code Lib.objectInit ⟨#[0xb1]⟩ 1 none ∈ am_Gl) (hs : am_sz st ≤ 8) (kk : am_W mi d mc ms al bc bs (pc + 3) ls st Γ I L Q) : am_W mi d mc ms al bc bs pc ls (.ref k :: st) Γ I L Q := by
  intro p l e s m args below meth c D A Γ0 x0 S x H locs cells slots la h1 h2 h3 h4 h5 h6
  have hts := S.2.2.2.2.2.2.1
  have hsz := am_hW (la := la) (m := m) (pc := pc) (st := .ref k :: st) (D := D) (x := x) hs
  have k9 := kk p l e s m args below meth c D A Γ0 x0 S x H locs cells slots la h1 h2 h3 h4 h5 h6
  refine W.objInit S.1 S.2.1 S.2.2.2.2.2.1 (hts _ hl) (hts _ hi) (hts _ hc) (g := F0 m pc la ((Value.ref k :: st).map (am_cv D x))) rfl (h6.1.trans S.2.2.1.symm) rfl hd (by show 1 ≤ d + 8; omega) (by show _ ≤ 60 * d + 400; omega) ?_
  exact k9
end AWM
