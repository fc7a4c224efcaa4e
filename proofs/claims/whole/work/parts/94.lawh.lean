/-! THE LAW'S HELPERS -/
/-- a contract with one answer, out of a body with handlers -/
theorem am_ofEH {mi : am_M} {d mc ms : Nat} {args : List Value} {Γ : am_G} {I I' : am_I} {L L' : am_L} {o : am_O} {h0 : Nat × Nat × Nat × Nat} {hh : List (Nat × Nat × Nat × Nat)} (hy : plainName mi.1.cls = true) (ht : mi.2.2.2.2.1 = h0 :: hh) (hsc : mi.2.2.2.2.2 = none) (hn : am_sz args ≤ mi.2.2.1)
    (h : am_W mi d mc ms false mc ms 0 (lv_args 0 args) [] Γ I L (am_R o I' L')) : am_E mi d mc ms args Γ I L o I' L' := by
  intro l hl D A x
  have hwd : am_wd mi = .codeWith mi.1 mi.2.1 mi.2.2.1 mi.2.2.2.1 mi.2.2.2.2.1 := by unfold am_wd; rw [ht]
  refine vx_ofWH (cc := mi.2.1) (maxL := mi.2.2.1) (ret := mi.2.2.2.1) (hh := mi.2.2.2.2.1) hy (by rw [hwd]) ?_
  intro p e s m args' below meth c s₁ B hml hv
  obtain ⟨rfl, hA, hSx, hB⟩ := hv
  have hts := atoms_spec (ws := am_wd mi :: am_Gl) B.pre
  have hcs : ((args.map (am_cv D x)).map fun v => v.category).sum = am_sz args := by rw [am_cats]; rfl
  have hlen : (lg_sl (args.map (am_cv D x))).length ≤ mi.2.2.1 := by rw [am_sl_len]; exact Nat.le_trans (Nat.le_of_eq hcs) hn
  have hloc := lv_entry (args.map (am_cv D x)) (n := mi.2.2.1) hlen
  rw [am_args_map] at hloc
  have htab : c.exceptionTable.toList = tableOf mi.2.2.2.2.1 := vx_table (x := mi.1) B (by
    have z := hts _ List.mem_cons_self
    rw [hwd] at z
    exact z)
  have hown : s.vm.findClass mi.1.cls = some m.cls := findClass_of_methodNamed B.named
  have hnm : meth.name = mi.1.name := (name_of_methodNamed B.named B.method).1
  rw [lg_entry_eq]
  exact h p l e s m _ below meth c D A Γ x ⟨B.exec, B.bytes, hml, B.returns, htab, hown, fun w hw => hts w (List.mem_cons_of_mem _ hw), B.notSynchronized, hnm, hl, ⟨hA, fun n xs h => by rw [hsc] at h; cases h⟩, hSx⟩ x s.heap [] 0 0 _ am_agr.rf hB va_S.rf (Nat.le_of_eq (Nat.zero_add _)) (Nat.le_of_eq (Nat.zero_add _)) hloc
/-- the law's world Γ: the world G of class and model, and the two arrays for answers -/
def wld (G Γ : am_G) : Prop := G.1 = 463 ∧ Γ.1 = 465 ∧ (∀ j, j < 463 → Γ.2.1 j = G.2.1 j ∧ Γ.2.2 j = G.2.2 j) ∧ am_cl G ∧ am_ar Γ 463 4 1 0 ∧ am_ar Γ 464 5 1 0 ∧ wF G
section LWH
variable {G Γ : am_G} {I I' J : am_I} {L L' M : am_L} {mi : am_M} {d mc ms : Nat} {args : List Value} {o : am_O}
theorem wld.ob (W : wld G Γ) {k c : Nat} (h : am_ob G k c) : am_ob Γ k c := by
  obtain ⟨w1, w2, w3, -⟩ := W
  have hk : k < 463 := by have := h.1; omega
  exact ⟨by omega, (w3 k hk).1.trans h.2⟩
theorem wld.ox (W : wld G Γ) : am_ob Γ 0 8 := W.ob W.2.2.2.2.2.2.1.1
theorem wld.m (W : wld G Γ) : am_ob Γ 450 9 := by
  obtain ⟨-, -, -, -, -, -, hF⟩ := id W
  obtain ⟨-, so, st, dr, rd, hi, sv, ot, hm, -⟩ := hF
  exact W.ob hm.1
theorem wld.a (W : wld G Γ) : am_ar Γ 463 4 1 0 := W.2.2.2.2.1
theorem wld.b (W : wld G Γ) : am_ar Γ 464 5 1 0 := W.2.2.2.2.2.1
theorem wld.F (W : wld G Γ) : wF G := W.2.2.2.2.2.2
theorem wld.fr (W : wld G Γ) (h : am_E mi d mc ms args G I L o I' L') (hJ : ∀ j, j < 463 → J j = I j) (hM : ∀ j, j < 463 → M j = L j) : am_E mi d mc ms args Γ J M o (pch 463 I' J) (pch 463 L' M) := by
  obtain ⟨w1, w2, w3, w4, w5, w6, w7⟩ := W
  have z := am_E.frame (Γ := Γ) (J := J) (M := M) h (by omega) (fun j hj => w3 j (by omega)) w4 (fun k k1 k2 => by
    rcases (show k = 463 ∨ k = 464 by omega) with rfl | rfl
    · rw [w5.2]; decide
    · rw [w6.2]; decide) (fun j hj => hJ j (by omega)) (fun j hj => hM j (by omega))
  rw [w1] at z
  exact z
theorem REL.cg (h : REL I L) (e : ∀ j, j < 463 → I' j = I j) (e2 : ∀ j, j < 463 → L' j = L j) : REL I' L' :=
  h.fr (fun c _ c2 _ _ _ => e c (by omega)) (e 457 (by decide)) ⟨congrFun (e 81 (by decide)) 1, congrFun (e 81 (by decide)) 2, congrFun (e 81 (by decide)) 3⟩ ⟨congrFun (e 450 (by decide)) 5, congrFun (e 450 (by decide)) 9, congrFun (e 450 (by decide)) 10, congrFun (e 450 (by decide)) 11, congrFun (e 450 (by decide)) 12⟩ (fun c _ c2 _ => e2 c (by omega))
theorem pch_id {α : Type} {n : Nat} {f g : Nat → α} (h : ∀ j, j < n → f j = g j) : pch n f g = g := funext fun j => by
  by_cases hj : j < n
  · rw [pch_lt hj]; exact h j hj
  · rw [pch_ge hj]
theorem eXW_thrown (o : am_ob Γ 450 9) : am_E m_X9_thrown d 0 0 [.ref 450] Γ I L (.inl (some (.int (I 450 6)))) I L := by
  refine am_ofE rfl rfl rfl (Nat.le_of_ble_eq_true rfl) ?_
  exact bX9_thrown_0 o ⟨rfl, rfl, rfl⟩
/-- one call on either side, out of the law, nothing thrown -/
def dX (Γ : am_G) (I : am_I) (L : am_L) (mC mM : am_M) (as : List Value) : Prop := ∃ (I1 : am_I) (L1 : am_L) (I2 : am_I) (v : Int32), am_E mC 281 1 6 (.ref 0 :: as) Γ I L (.inl (some (.int v))) I1 L1 ∧ am_E mM 281 0 0 (.ref 450 :: as) Γ I1 L1 (.inl (some (.int v))) I2 L1 ∧ REL I2 L1
theorem dX_of {mC mM : am_M} {as : List Value} (W : wld G Γ) (h : gX G I L mC mM as []) : dX Γ I L mC mM as := by
  obtain ⟨I1, L1, I2, o, v, hC, hM, hR, hO⟩ := h
  have ho : o = .inl (some (.int v)) := by
    rcases hO with ⟨h1, -⟩ | ⟨i, E, h1, -⟩
    · exact h1
    · simp at h1
  subst ho
  have e1 := W.fr (J := I) (M := L) hC (fun _ _ => rfl) (fun _ _ => rfl)
  have e2 := W.fr (J := pch 463 I1 I) (M := pch 463 L1 L) hM (fun j hj => pch_lt hj) (fun j hj => pch_lt hj)
  rw [pch_id (f := L1) (fun j hj => (pch_lt hj).symm)] at e2
  exact ⟨_, _, _, v, e1.up (by decide), e2.up (by decide), hR.cg (fun j hj => pch_lt hj) (fun j hj => pch_lt hj)⟩
/-- .. through a helper, which tells what was thrown -/
def hX (Γ : am_G) (I : am_I) (L : am_L) (mH mM : am_M) (as : List Value) (f : Int32 → Int64) : Prop := ∃ (I1 : am_I) (L1 : am_L) (I2 : am_I) (k : Nat) (v : Int32), k ≤ 3 ∧ am_E mH 281 1 6 (.ref 0 :: (as ++ [.ref 463])) Γ I L (.inl (some (.int (nn k)))) I1 L1 ∧ am_E mM 281 0 0 (.ref 450 :: as) Γ I1 L1 (.inl (some (.int v))) I2 L1 ∧ REL I2 L1 ∧ I2 450 6 = nn k ∧ (k = 0 → L1 463 0 = f v)
theorem hX_of {mC mM mH : am_M} {as : List Value} {exs : List String} {f : Int32 → Int64} (W : wld G Γ) (h : gX G I L mC mM as exs) (h3 : exs.length ≤ 3)
    (hok : ∀ I1 L1 v, am_E mC 280 1 6 (.ref 0 :: as) Γ I L (.inl (some (.int v))) I1 L1 → am_E mH 281 1 6 (.ref 0 :: (as ++ [.ref 463])) Γ I L (.inl (some (.int (nn 0)))) I1 (am_ul L1 463 0 (f v)))
    (hex : ∀ i E, exs[i]? = some E → ∀ I1 L1, am_E mC 280 1 6 (.ref 0 :: as) Γ I L (.inr E) I1 L1 → am_E mH 281 1 6 (.ref 0 :: (as ++ [.ref 463])) Γ I L (.inl (some (.int (nn (i + 1))))) I1 L1) : hX Γ I L mH mM as f := by
  obtain ⟨I1, L1, I2, o, v, hC, hM, hR, hO⟩ := h
  have e1 := (W.fr (J := I) (M := L) hC (fun _ _ => rfl) (fun _ _ => rfl)).up (d' := 280) (by decide)
  rcases hO with ⟨rfl, ht⟩ | ⟨i, E, hE, rfl, ht⟩
  · have e2 := hok _ _ _ e1
    have lo : ∀ j, j < 463 → am_ul (pch 463 L1 L) 463 0 (f v) j = L1 j := fun j hj => (if_neg (show ¬ j = 463 by omega)).trans (pch_lt hj)
    have e3 := W.fr (J := pch 463 I1 I) (M := am_ul (pch 463 L1 L) 463 0 (f v)) hM (fun j hj => pch_lt hj) lo
    rw [pch_id (f := L1) (fun j hj => (lo j hj).symm)] at e3
    refine ⟨_, _, _, 0, v, by decide, e2, e3.up (by decide), hR.cg (fun j hj => pch_lt hj) lo, ?_, fun _ => ?_⟩
    · rw [pch_lt (by decide)]; exact ht
    · show (if 463 = 463 then vp_updL (pch 463 L1 L 463) 0 (f v) else pch 463 L1 L 463) 0 = _
      rw [if_pos rfl]
      exact if_pos rfl
  · have e2 := hex i E hE _ _ e1
    have e3 := W.fr (J := pch 463 I1 I) (M := pch 463 L1 L) hM (fun j hj => pch_lt hj) (fun j hj => pch_lt hj)
    rw [pch_id (f := L1) (fun j hj => (pch_lt hj).symm)] at e3
    have hi : i < exs.length := (List.getElem?_eq_some_iff.mp hE).1
    refine ⟨_, _, _, i + 1, v, by omega, e2, e3.up (by decide), hR.cg (fun j hj => pch_lt hj) (fun j hj => pch_lt hj), ?_, fun z => absurd z (by omega)⟩
    rw [pch_lt (by decide)]; exact ht
/-- .. where the answer is a double -/
def hXd (Γ : am_G) (I : am_I) (L : am_L) (mH mM : am_M) (as : List Value) : Prop := ∃ (I1 : am_I) (L1 : am_L) (I2 : am_I) (k : Nat) (v : UInt64), k ≤ 3 ∧ am_E mH 281 1 6 (.ref 0 :: (as ++ [.ref 464])) Γ I L (.inl (some (.int (nn k)))) I1 L1 ∧ am_E mM 281 0 0 (.ref 450 :: as) Γ I1 L1 (.inl (some (.double v))) I2 L1 ∧ REL I2 L1 ∧ I2 450 6 = nn k ∧ (k = 0 → L1 464 0 = v.toInt64)
theorem hXd_of {mC mM mH : am_M} {as : List Value} {exs : List String} (W : wld G Γ) (h : gXd G I L mC mM as exs) (h3 : exs.length ≤ 3)
    (hok : ∀ I1 L1 v, am_E mC 280 1 6 (.ref 0 :: as) Γ I L (.inl (some (.double v))) I1 L1 → am_E mH 281 1 6 (.ref 0 :: (as ++ [.ref 464])) Γ I L (.inl (some (.int (nn 0)))) I1 (am_ul L1 464 0 v.toInt64))
    (hex : ∀ i E, exs[i]? = some E → ∀ I1 L1, am_E mC 280 1 6 (.ref 0 :: as) Γ I L (.inr E) I1 L1 → am_E mH 281 1 6 (.ref 0 :: (as ++ [.ref 464])) Γ I L (.inl (some (.int (nn (i + 1))))) I1 L1) : hXd Γ I L mH mM as := by
  obtain ⟨I1, L1, I2, o, v, hC, hM, hR, -, hO⟩ := h
  have e1 := (W.fr (J := I) (M := L) hC (fun _ _ => rfl) (fun _ _ => rfl)).up (d' := 280) (by decide)
  rcases hO with ⟨rfl, ht⟩ | ⟨i, E, hE, rfl, ht⟩
  · have e2 := hok _ _ _ e1
    have lo : ∀ j, j < 463 → am_ul (pch 463 L1 L) 464 0 v.toInt64 j = L1 j := fun j hj => (if_neg (show ¬ j = 464 by omega)).trans (pch_lt hj)
    have e3 := W.fr (J := pch 463 I1 I) (M := am_ul (pch 463 L1 L) 464 0 v.toInt64) hM (fun j hj => pch_lt hj) lo
    rw [pch_id (f := L1) (fun j hj => (lo j hj).symm)] at e3
    refine ⟨_, _, _, 0, v, by decide, e2, e3.up (by decide), hR.cg (fun j hj => pch_lt hj) lo, ?_, fun _ => ?_⟩
    · rw [pch_lt (by decide)]; exact ht
    · show (if 464 = 464 then vp_updL (pch 463 L1 L 464) 0 v.toInt64 else pch 463 L1 L 464) 0 = _
      rw [if_pos rfl]
      exact if_pos rfl
  · have e2 := hex i E hE _ _ e1
    have e3 := W.fr (J := pch 463 I1 I) (M := pch 463 L1 L) hM (fun j hj => pch_lt hj) (fun j hj => pch_lt hj)
    rw [pch_id (f := L1) (fun j hj => (pch_lt hj).symm)] at e3
    have hi : i < exs.length := (List.getElem?_eq_some_iff.mp hE).1
    refine ⟨_, _, _, i + 1, v, by omega, e2, e3.up (by decide), hR.cg (fun j hj => pch_lt hj) (fun j hj => pch_lt hj), ?_, fun z => absurd z (by omega)⟩
    rw [pch_lt (by decide)]; exact ht
def fI (v : Int32) : Int64 := v.toInt64
def fZ (v : Int32) : Int64 := if v = 0 then 0 else 1
end LWH
section LWK
variable {G Γ : am_G} {I I1 : am_I} {L L1 : am_L}
theorem ho_truncateInput {p0 : Int32} (o : am_ob Γ 0 8) (a : am_ar Γ 463 4 1 0) {v : Int32} (h : am_E m_X8_truncateInput 280 1 6 [.ref 0, .int p0] Γ I L (.inl (some (.int v))) I1 L1) : am_E m_L_truncateInput 281 1 6 [.ref 0, .int p0, .ref 463] Γ I L (.inl (some (.int (nn 0)))) I1 (am_ul L1 463 0 (fI v)) := by
  refine am_ofEH rfl rfl rfl (Nat.le_of_ble_eq_true rfl) ?_
  refine bL_truncateInput_0 (d := 280) o (Nat.le_refl _) (Nat.le_refl _) h ?_
  refine bL_truncateInput_7 a (nn_in (k := 0) (by decide) (by decide)) ?_
  exact bL_truncateInput_15 ⟨rfl, rfl, rfl⟩
theorem he_truncateInput_1 {p0 : Int32} (o : am_ob Γ 0 8) (h : am_E m_X8_truncateInput 280 1 6 [.ref 0, .int p0] Γ I L (.inr "java/lang/IllegalArgumentException") I1 L1) : am_E m_L_truncateInput 281 1 6 [.ref 0, .int p0, .ref 463] Γ I L (.inl (some (.int (nn 1)))) I1 L1 := by
  refine am_ofEH rfl rfl rfl (Nat.le_of_ble_eq_true rfl) ?_
  refine bL_truncateInput_0c1 (d := 280) o (Nat.le_refl _) (Nat.le_refl _) h ?_
  exact bL_truncateInput_13 ⟨rfl, rfl, rfl⟩
theorem hx_truncateInput (W : wld G Γ) (R : REL I L) (p0 : Int32) : hX Γ I L m_L_truncateInput m_X9_truncateInput [.int p0] fI := by
  refine hX_of W (fX_truncateInput W.F R p0) (by decide) (fun _ _ _ h => ho_truncateInput W.ox W.a h) (fun i E hE I1 L1 h => ?_)
  match i, hE with
  | 0, hE =>
    obtain rfl : "java/lang/IllegalArgumentException" = E := by simpa using hE
    exact he_truncateInput_1 W.ox h
  | i + 1, hE => simp at hE
theorem ho_passCarts {p0 : Int32} {p1 : Int32} {p2 : Int32} (o : am_ob Γ 0 8) (a : am_ar Γ 463 4 1 0) {v : Int32} (h : am_E m_X8_passCarts 280 1 6 [.ref 0, .int p0, .int p1, .int p2] Γ I L (.inl (some (.int v))) I1 L1) : am_E m_L_passCarts 281 1 6 [.ref 0, .int p0, .int p1, .int p2, .ref 463] Γ I L (.inl (some (.int (nn 0)))) I1 (am_ul L1 463 0 (fI v)) := by
  refine am_ofEH rfl rfl rfl (Nat.le_of_ble_eq_true rfl) ?_
  refine bL_passCarts_0 (d := 280) o (Nat.le_refl _) (Nat.le_refl _) h ?_
  refine bL_passCarts_10 a (nn_in (k := 0) (by decide) (by decide)) ?_
  exact bL_passCarts_27 ⟨rfl, rfl, rfl⟩
theorem he_passCarts_1 {p0 : Int32} {p1 : Int32} {p2 : Int32} (o : am_ob Γ 0 8) (h : am_E m_X8_passCarts 280 1 6 [.ref 0, .int p0, .int p1, .int p2] Γ I L (.inr "java/lang/IndexOutOfBoundsException") I1 L1) : am_E m_L_passCarts 281 1 6 [.ref 0, .int p0, .int p1, .int p2, .ref 463] Γ I L (.inl (some (.int (nn 1)))) I1 L1 := by
  refine am_ofEH rfl rfl rfl (Nat.le_of_ble_eq_true rfl) ?_
  refine bL_passCarts_0c1 (d := 280) o (Nat.le_refl _) (Nat.le_refl _) h ?_
  exact bL_passCarts_17 ⟨rfl, rfl, rfl⟩
theorem he_passCarts_2 {p0 : Int32} {p1 : Int32} {p2 : Int32} (o : am_ob Γ 0 8) (h : am_E m_X8_passCarts 280 1 6 [.ref 0, .int p0, .int p1, .int p2] Γ I L (.inr "java/lang/IllegalArgumentException") I1 L1) : am_E m_L_passCarts 281 1 6 [.ref 0, .int p0, .int p1, .int p2, .ref 463] Γ I L (.inl (some (.int (nn 2)))) I1 L1 := by
  refine am_ofEH rfl rfl rfl (Nat.le_of_ble_eq_true rfl) ?_
  refine bL_passCarts_0c2 (d := 280) o (Nat.le_refl _) (Nat.le_refl _) h ?_
  exact bL_passCarts_21 ⟨rfl, rfl, rfl⟩
theorem he_passCarts_3 {p0 : Int32} {p1 : Int32} {p2 : Int32} (o : am_ob Γ 0 8) (h : am_E m_X8_passCarts 280 1 6 [.ref 0, .int p0, .int p1, .int p2] Γ I L (.inr "java/lang/IllegalStateException") I1 L1) : am_E m_L_passCarts 281 1 6 [.ref 0, .int p0, .int p1, .int p2, .ref 463] Γ I L (.inl (some (.int (nn 3)))) I1 L1 := by
  refine am_ofEH rfl rfl rfl (Nat.le_of_ble_eq_true rfl) ?_
  refine bL_passCarts_0c3 (d := 280) o (Nat.le_refl _) (Nat.le_refl _) h ?_
  exact bL_passCarts_25 ⟨rfl, rfl, rfl⟩
theorem hx_passCarts (W : wld G Γ) (R : REL I L) (p0 : Int32) (p1 : Int32) (p2 : Int32) : hX Γ I L m_L_passCarts m_X9_passCarts [.int p0, .int p1, .int p2] fI := by
  refine hX_of W (fX_passCarts W.F R p0 p1 p2) (by decide) (fun _ _ _ h => ho_passCarts W.ox W.a h) (fun i E hE I1 L1 h => ?_)
  match i, hE with
  | 0, hE =>
    obtain rfl : "java/lang/IndexOutOfBoundsException" = E := by simpa using hE
    exact he_passCarts_1 W.ox h
  | 1, hE =>
    obtain rfl : "java/lang/IllegalArgumentException" = E := by simpa using hE
    exact he_passCarts_2 W.ox h
  | 2, hE =>
    obtain rfl : "java/lang/IllegalStateException" = E := by simpa using hE
    exact he_passCarts_3 W.ox h
  | i + 3, hE => simp at hE
theorem ho_buildTree {p0 : Int32} (o : am_ob Γ 0 8) (a : am_ar Γ 463 4 1 0) {v : Int32} (h : am_E m_X8_buildTree 280 1 6 [.ref 0, .int p0] Γ I L (.inl (some (.int v))) I1 L1) : am_E m_L_buildTree 281 1 6 [.ref 0, .int p0, .ref 463] Γ I L (.inl (some (.int (nn 0)))) I1 (am_ul L1 463 0 (fI v)) := by
  refine am_ofEH rfl rfl rfl (Nat.le_of_ble_eq_true rfl) ?_
  refine bL_buildTree_0 (d := 280) o (Nat.le_refl _) (Nat.le_refl _) h ?_
  refine bL_buildTree_7 a (nn_in (k := 0) (by decide) (by decide)) ?_
  exact bL_buildTree_15 ⟨rfl, rfl, rfl⟩
theorem he_buildTree_1 {p0 : Int32} (o : am_ob Γ 0 8) (h : am_E m_X8_buildTree 280 1 6 [.ref 0, .int p0] Γ I L (.inr "java/lang/IndexOutOfBoundsException") I1 L1) : am_E m_L_buildTree 281 1 6 [.ref 0, .int p0, .ref 463] Γ I L (.inl (some (.int (nn 1)))) I1 L1 := by
  refine am_ofEH rfl rfl rfl (Nat.le_of_ble_eq_true rfl) ?_
  refine bL_buildTree_0c1 (d := 280) o (Nat.le_refl _) (Nat.le_refl _) h ?_
  exact bL_buildTree_13 ⟨rfl, rfl, rfl⟩
theorem hx_buildTree (W : wld G Γ) (R : REL I L) (p0 : Int32) : hX Γ I L m_L_buildTree m_X9_buildTree [.int p0] fI := by
  refine hX_of W (fX_buildTree W.F R p0) (by decide) (fun _ _ _ h => ho_buildTree W.ox W.a h) (fun i E hE I1 L1 h => ?_)
  match i, hE with
  | 0, hE =>
    obtain rfl : "java/lang/IndexOutOfBoundsException" = E := by simpa using hE
    exact he_buildTree_1 W.ox h
  | i + 1, hE => simp at hE
theorem ho_halveCounts {p0 : Int32} (o : am_ob Γ 0 8) (a : am_ar Γ 463 4 1 0) {v : Int32} (h : am_E m_X8_halveCounts 280 1 6 [.ref 0, .int p0] Γ I L (.inl (some (.int v))) I1 L1) : am_E m_L_halveCounts 281 1 6 [.ref 0, .int p0, .ref 463] Γ I L (.inl (some (.int (nn 0)))) I1 (am_ul L1 463 0 (fI v)) := by
  refine am_ofEH rfl rfl rfl (Nat.le_of_ble_eq_true rfl) ?_
  refine bL_halveCounts_0 (d := 280) o (Nat.le_refl _) (Nat.le_refl _) h ?_
  refine bL_halveCounts_7 a (nn_in (k := 0) (by decide) (by decide)) ?_
  exact bL_halveCounts_15 ⟨rfl, rfl, rfl⟩
theorem he_halveCounts_1 {p0 : Int32} (o : am_ob Γ 0 8) (h : am_E m_X8_halveCounts 280 1 6 [.ref 0, .int p0] Γ I L (.inr "java/lang/IndexOutOfBoundsException") I1 L1) : am_E m_L_halveCounts 281 1 6 [.ref 0, .int p0, .ref 463] Γ I L (.inl (some (.int (nn 1)))) I1 L1 := by
  refine am_ofEH rfl rfl rfl (Nat.le_of_ble_eq_true rfl) ?_
  refine bL_halveCounts_0c1 (d := 280) o (Nat.le_refl _) (Nat.le_refl _) h ?_
  exact bL_halveCounts_13 ⟨rfl, rfl, rfl⟩
theorem hx_halveCounts (W : wld G Γ) (R : REL I L) (p0 : Int32) : hX Γ I L m_L_halveCounts m_X9_halveCounts [.int p0] fI := by
  refine hX_of W (fX_halveCounts W.F R p0) (by decide) (fun _ _ _ h => ho_halveCounts W.ox W.a h) (fun i E hE I1 L1 h => ?_)
  match i, hE with
  | 0, hE =>
    obtain rfl : "java/lang/IndexOutOfBoundsException" = E := by simpa using hE
    exact he_halveCounts_1 W.ox h
  | i + 1, hE => simp at hE
theorem ho_setToll {p0 : Int32} {p1 : Int32} (o : am_ob Γ 0 8) (a : am_ar Γ 463 4 1 0) {v : Int32} (h : am_E m_X8_setToll 280 1 6 [.ref 0, .int p0, .int p1] Γ I L (.inl (some (.int v))) I1 L1) : am_E m_L_setToll 281 1 6 [.ref 0, .int p0, .int p1, .ref 463] Γ I L (.inl (some (.int (nn 0)))) I1 (am_ul L1 463 0 (fI v)) := by
  refine am_ofEH rfl rfl rfl (Nat.le_of_ble_eq_true rfl) ?_
  refine bL_setToll_0 (d := 280) o (Nat.le_refl _) (Nat.le_refl _) h ?_
  refine bL_setToll_8 a (nn_in (k := 0) (by decide) (by decide)) ?_
  exact bL_setToll_21 ⟨rfl, rfl, rfl⟩
theorem he_setToll_1 {p0 : Int32} {p1 : Int32} (o : am_ob Γ 0 8) (h : am_E m_X8_setToll 280 1 6 [.ref 0, .int p0, .int p1] Γ I L (.inr "java/lang/IndexOutOfBoundsException") I1 L1) : am_E m_L_setToll 281 1 6 [.ref 0, .int p0, .int p1, .ref 463] Γ I L (.inl (some (.int (nn 1)))) I1 L1 := by
  refine am_ofEH rfl rfl rfl (Nat.le_of_ble_eq_true rfl) ?_
  refine bL_setToll_0c1 (d := 280) o (Nat.le_refl _) (Nat.le_refl _) h ?_
  exact bL_setToll_15 ⟨rfl, rfl, rfl⟩
theorem he_setToll_2 {p0 : Int32} {p1 : Int32} (o : am_ob Γ 0 8) (h : am_E m_X8_setToll 280 1 6 [.ref 0, .int p0, .int p1] Γ I L (.inr "java/lang/IllegalArgumentException") I1 L1) : am_E m_L_setToll 281 1 6 [.ref 0, .int p0, .int p1, .ref 463] Γ I L (.inl (some (.int (nn 2)))) I1 L1 := by
  refine am_ofEH rfl rfl rfl (Nat.le_of_ble_eq_true rfl) ?_
  refine bL_setToll_0c2 (d := 280) o (Nat.le_refl _) (Nat.le_refl _) h ?_
  exact bL_setToll_19 ⟨rfl, rfl, rfl⟩
theorem hx_setToll (W : wld G Γ) (R : REL I L) (p0 : Int32) (p1 : Int32) : hX Γ I L m_L_setToll m_X9_setToll [.int p0, .int p1] fI := by
  refine hX_of W (fX_setToll W.F R p0 p1) (by decide) (fun _ _ _ h => ho_setToll W.ox W.a h) (fun i E hE I1 L1 h => ?_)
  match i, hE with
  | 0, hE =>
    obtain rfl : "java/lang/IndexOutOfBoundsException" = E := by simpa using hE
    exact he_setToll_1 W.ox h
  | 1, hE =>
    obtain rfl : "java/lang/IllegalArgumentException" = E := by simpa using hE
    exact he_setToll_2 W.ox h
  | i + 2, hE => simp at hE
theorem ho_setCostLimit {p0 : Int32} {p1 : Int32} (o : am_ob Γ 0 8) (a : am_ar Γ 463 4 1 0) {v : Int32} (h : am_E m_X8_setCostLimit 280 1 6 [.ref 0, .int p0, .int p1] Γ I L (.inl (some (.int v))) I1 L1) : am_E m_L_setCostLimit 281 1 6 [.ref 0, .int p0, .int p1, .ref 463] Γ I L (.inl (some (.int (nn 0)))) I1 (am_ul L1 463 0 (fI v)) := by
  refine am_ofEH rfl rfl rfl (Nat.le_of_ble_eq_true rfl) ?_
  refine bL_setCostLimit_0 (d := 280) o (Nat.le_refl _) (Nat.le_refl _) h ?_
  refine bL_setCostLimit_8 a (nn_in (k := 0) (by decide) (by decide)) ?_
  exact bL_setCostLimit_21 ⟨rfl, rfl, rfl⟩
theorem he_setCostLimit_1 {p0 : Int32} {p1 : Int32} (o : am_ob Γ 0 8) (h : am_E m_X8_setCostLimit 280 1 6 [.ref 0, .int p0, .int p1] Γ I L (.inr "java/lang/IndexOutOfBoundsException") I1 L1) : am_E m_L_setCostLimit 281 1 6 [.ref 0, .int p0, .int p1, .ref 463] Γ I L (.inl (some (.int (nn 1)))) I1 L1 := by
  refine am_ofEH rfl rfl rfl (Nat.le_of_ble_eq_true rfl) ?_
  refine bL_setCostLimit_0c1 (d := 280) o (Nat.le_refl _) (Nat.le_refl _) h ?_
  exact bL_setCostLimit_15 ⟨rfl, rfl, rfl⟩
theorem he_setCostLimit_2 {p0 : Int32} {p1 : Int32} (o : am_ob Γ 0 8) (h : am_E m_X8_setCostLimit 280 1 6 [.ref 0, .int p0, .int p1] Γ I L (.inr "java/lang/IllegalArgumentException") I1 L1) : am_E m_L_setCostLimit 281 1 6 [.ref 0, .int p0, .int p1, .ref 463] Γ I L (.inl (some (.int (nn 2)))) I1 L1 := by
  refine am_ofEH rfl rfl rfl (Nat.le_of_ble_eq_true rfl) ?_
  refine bL_setCostLimit_0c2 (d := 280) o (Nat.le_refl _) (Nat.le_refl _) h ?_
  exact bL_setCostLimit_19 ⟨rfl, rfl, rfl⟩
theorem hx_setCostLimit (W : wld G Γ) (R : REL I L) (p0 : Int32) (p1 : Int32) : hX Γ I L m_L_setCostLimit m_X9_setCostLimit [.int p0, .int p1] fI := by
  refine hX_of W (fX_setCostLimit W.F R p0 p1) (by decide) (fun _ _ _ h => ho_setCostLimit W.ox W.a h) (fun i E hE I1 L1 h => ?_)
  match i, hE with
  | 0, hE =>
    obtain rfl : "java/lang/IndexOutOfBoundsException" = E := by simpa using hE
    exact he_setCostLimit_1 W.ox h
  | 1, hE =>
    obtain rfl : "java/lang/IllegalArgumentException" = E := by simpa using hE
    exact he_setCostLimit_2 W.ox h
  | i + 2, hE => simp at hE
theorem ho_advanceClock {p0 : Int32} (o : am_ob Γ 0 8) (a : am_ar Γ 463 4 1 0) {v : Int32} (h : am_E m_X8_advanceClock 280 1 6 [.ref 0, .int p0] Γ I L (.inl (some (.int v))) I1 L1) : am_E m_L_advanceClock 281 1 6 [.ref 0, .int p0, .ref 463] Γ I L (.inl (some (.int (nn 0)))) I1 (am_ul L1 463 0 (fI v)) := by
  refine am_ofEH rfl rfl rfl (Nat.le_of_ble_eq_true rfl) ?_
  refine bL_advanceClock_0 (d := 280) o (Nat.le_refl _) (Nat.le_refl _) h ?_
  refine bL_advanceClock_7 a (nn_in (k := 0) (by decide) (by decide)) ?_
  exact bL_advanceClock_18 ⟨rfl, rfl, rfl⟩
theorem he_advanceClock_1 {p0 : Int32} (o : am_ob Γ 0 8) (h : am_E m_X8_advanceClock 280 1 6 [.ref 0, .int p0] Γ I L (.inr "java/lang/IllegalArgumentException") I1 L1) : am_E m_L_advanceClock 281 1 6 [.ref 0, .int p0, .ref 463] Γ I L (.inl (some (.int (nn 1)))) I1 L1 := by
  refine am_ofEH rfl rfl rfl (Nat.le_of_ble_eq_true rfl) ?_
  refine bL_advanceClock_0c1 (d := 280) o (Nat.le_refl _) (Nat.le_refl _) h ?_
  exact bL_advanceClock_13 ⟨rfl, rfl, rfl⟩
theorem he_advanceClock_2 {p0 : Int32} (o : am_ob Γ 0 8) (h : am_E m_X8_advanceClock 280 1 6 [.ref 0, .int p0] Γ I L (.inr "java/lang/IllegalStateException") I1 L1) : am_E m_L_advanceClock 281 1 6 [.ref 0, .int p0, .ref 463] Γ I L (.inl (some (.int (nn 2)))) I1 L1 := by
  refine am_ofEH rfl rfl rfl (Nat.le_of_ble_eq_true rfl) ?_
  refine bL_advanceClock_0c2 (d := 280) o (Nat.le_refl _) (Nat.le_refl _) h ?_
  exact bL_advanceClock_16 ⟨rfl, rfl, rfl⟩
theorem hx_advanceClock (W : wld G Γ) (R : REL I L) (p0 : Int32) : hX Γ I L m_L_advanceClock m_X9_advanceClock [.int p0] fI := by
  refine hX_of W (fX_advanceClock W.F R p0) (by decide) (fun _ _ _ h => ho_advanceClock W.ox W.a h) (fun i E hE I1 L1 h => ?_)
  match i, hE with
  | 0, hE =>
    obtain rfl : "java/lang/IllegalArgumentException" = E := by simpa using hE
    exact he_advanceClock_1 W.ox h
  | 1, hE =>
    obtain rfl : "java/lang/IllegalStateException" = E := by simpa using hE
    exact he_advanceClock_2 W.ox h
  | i + 2, hE => simp at hE
theorem ho_undo  (o : am_ob Γ 0 8) (a : am_ar Γ 463 4 1 0) {v : Int32} (h : am_E m_X8_undo 280 1 6 [.ref 0] Γ I L (.inl (some (.int v))) I1 L1) : am_E m_L_undo 281 1 6 [.ref 0, .ref 463] Γ I L (.inl (some (.int (nn 0)))) I1 (am_ul L1 463 0 (fI v)) := by
  refine am_ofEH rfl rfl rfl (Nat.le_of_ble_eq_true rfl) ?_
  refine bL_undo_0 (d := 280) o (Nat.le_refl _) (Nat.le_refl _) h ?_
  refine bL_undo_6 a (nn_in (k := 0) (by decide) (by decide)) ?_
  exact bL_undo_14 ⟨rfl, rfl, rfl⟩
theorem he_undo_1  (o : am_ob Γ 0 8) (h : am_E m_X8_undo 280 1 6 [.ref 0] Γ I L (.inr "java/lang/IllegalStateException") I1 L1) : am_E m_L_undo 281 1 6 [.ref 0, .ref 463] Γ I L (.inl (some (.int (nn 1)))) I1 L1 := by
  refine am_ofEH rfl rfl rfl (Nat.le_of_ble_eq_true rfl) ?_
  refine bL_undo_0c1 (d := 280) o (Nat.le_refl _) (Nat.le_refl _) h ?_
  exact bL_undo_12 ⟨rfl, rfl, rfl⟩
theorem hx_undo (W : wld G Γ) (R : REL I L)  : hX Γ I L m_L_undo m_X9_undo [] fI := by
  refine hX_of W (fX_undo W.F R) (by decide) (fun _ _ _ h => ho_undo W.ox W.a h) (fun i E hE I1 L1 h => ?_)
  match i, hE with
  | 0, hE =>
    obtain rfl : "java/lang/IllegalStateException" = E := by simpa using hE
    exact he_undo_1 W.ox h
  | i + 1, hE => simp at hE
theorem ho_save {p0 : Int32} (o : am_ob Γ 0 8) (a : am_ar Γ 463 4 1 0) {v : Int32} (h : am_E m_X8_save 280 1 6 [.ref 0, .int p0] Γ I L (.inl (some (.int v))) I1 L1) : am_E m_L_save 281 1 6 [.ref 0, .int p0, .ref 463] Γ I L (.inl (some (.int (nn 0)))) I1 (am_ul L1 463 0 (fI v)) := by
  refine am_ofEH rfl rfl rfl (Nat.le_of_ble_eq_true rfl) ?_
  refine bL_save_0 (d := 280) o (Nat.le_refl _) (Nat.le_refl _) h ?_
  refine bL_save_7 a (nn_in (k := 0) (by decide) (by decide)) ?_
  exact bL_save_15 ⟨rfl, rfl, rfl⟩
theorem he_save_1 {p0 : Int32} (o : am_ob Γ 0 8) (h : am_E m_X8_save 280 1 6 [.ref 0, .int p0] Γ I L (.inr "java/lang/IllegalArgumentException") I1 L1) : am_E m_L_save 281 1 6 [.ref 0, .int p0, .ref 463] Γ I L (.inl (some (.int (nn 1)))) I1 L1 := by
  refine am_ofEH rfl rfl rfl (Nat.le_of_ble_eq_true rfl) ?_
  refine bL_save_0c1 (d := 280) o (Nat.le_refl _) (Nat.le_refl _) h ?_
  exact bL_save_13 ⟨rfl, rfl, rfl⟩
theorem hx_save (W : wld G Γ) (R : REL I L) (p0 : Int32) : hX Γ I L m_L_save m_X9_save [.int p0] fI := by
  refine hX_of W (fX_save W.F R p0) (by decide) (fun _ _ _ h => ho_save W.ox W.a h) (fun i E hE I1 L1 h => ?_)
  match i, hE with
  | 0, hE =>
    obtain rfl : "java/lang/IllegalArgumentException" = E := by simpa using hE
    exact he_save_1 W.ox h
  | i + 1, hE => simp at hE
theorem ho_restore {p0 : Int32} (o : am_ob Γ 0 8) (a : am_ar Γ 463 4 1 0) {v : Int32} (h : am_E m_X8_restore 280 1 6 [.ref 0, .int p0] Γ I L (.inl (some (.int v))) I1 L1) : am_E m_L_restore 281 1 6 [.ref 0, .int p0, .ref 463] Γ I L (.inl (some (.int (nn 0)))) I1 (am_ul L1 463 0 (fI v)) := by
  refine am_ofEH rfl rfl rfl (Nat.le_of_ble_eq_true rfl) ?_
  refine bL_restore_0 (d := 280) o (Nat.le_refl _) (Nat.le_refl _) h ?_
  refine bL_restore_7 a (nn_in (k := 0) (by decide) (by decide)) ?_
  exact bL_restore_18 ⟨rfl, rfl, rfl⟩
theorem he_restore_1 {p0 : Int32} (o : am_ob Γ 0 8) (h : am_E m_X8_restore 280 1 6 [.ref 0, .int p0] Γ I L (.inr "java/lang/IllegalArgumentException") I1 L1) : am_E m_L_restore 281 1 6 [.ref 0, .int p0, .ref 463] Γ I L (.inl (some (.int (nn 1)))) I1 L1 := by
  refine am_ofEH rfl rfl rfl (Nat.le_of_ble_eq_true rfl) ?_
  refine bL_restore_0c1 (d := 280) o (Nat.le_refl _) (Nat.le_refl _) h ?_
  exact bL_restore_13 ⟨rfl, rfl, rfl⟩
theorem he_restore_2 {p0 : Int32} (o : am_ob Γ 0 8) (h : am_E m_X8_restore 280 1 6 [.ref 0, .int p0] Γ I L (.inr "java/lang/IllegalStateException") I1 L1) : am_E m_L_restore 281 1 6 [.ref 0, .int p0, .ref 463] Γ I L (.inl (some (.int (nn 2)))) I1 L1 := by
  refine am_ofEH rfl rfl rfl (Nat.le_of_ble_eq_true rfl) ?_
  refine bL_restore_0c2 (d := 280) o (Nat.le_refl _) (Nat.le_refl _) h ?_
  exact bL_restore_16 ⟨rfl, rfl, rfl⟩
theorem hx_restore (W : wld G Γ) (R : REL I L) (p0 : Int32) : hX Γ I L m_L_restore m_X9_restore [.int p0] fI := by
  refine hX_of W (fX_restore W.F R p0) (by decide) (fun _ _ _ h => ho_restore W.ox W.a h) (fun i E hE I1 L1 h => ?_)
  match i, hE with
  | 0, hE =>
    obtain rfl : "java/lang/IllegalArgumentException" = E := by simpa using hE
    exact he_restore_1 W.ox h
  | 1, hE =>
    obtain rfl : "java/lang/IllegalStateException" = E := by simpa using hE
    exact he_restore_2 W.ox h
  | i + 2, hE => simp at hE
theorem ho_questionCost {p0 : Int32} (o : am_ob Γ 0 8) (a : am_ar Γ 463 4 1 0) {v : Int32} (h : am_E m_X8_questionCost 280 1 6 [.ref 0, .int p0] Γ I L (.inl (some (.int v))) I1 L1) : am_E m_L_questionCost 281 1 6 [.ref 0, .int p0, .ref 463] Γ I L (.inl (some (.int (nn 0)))) I1 (am_ul L1 463 0 (fI v)) := by
  refine am_ofEH rfl rfl rfl (Nat.le_of_ble_eq_true rfl) ?_
  refine bL_questionCost_0 (d := 280) o (Nat.le_refl _) (Nat.le_refl _) h ?_
  refine bL_questionCost_7 a (nn_in (k := 0) (by decide) (by decide)) ?_
  exact bL_questionCost_15 ⟨rfl, rfl, rfl⟩
theorem he_questionCost_1 {p0 : Int32} (o : am_ob Γ 0 8) (h : am_E m_X8_questionCost 280 1 6 [.ref 0, .int p0] Γ I L (.inr "java/lang/IndexOutOfBoundsException") I1 L1) : am_E m_L_questionCost 281 1 6 [.ref 0, .int p0, .ref 463] Γ I L (.inl (some (.int (nn 1)))) I1 L1 := by
  refine am_ofEH rfl rfl rfl (Nat.le_of_ble_eq_true rfl) ?_
  refine bL_questionCost_0c1 (d := 280) o (Nat.le_refl _) (Nat.le_refl _) h ?_
  exact bL_questionCost_13 ⟨rfl, rfl, rfl⟩
theorem hx_questionCost (W : wld G Γ) (R : REL I L) (p0 : Int32) : hX Γ I L m_L_questionCost m_X9_questionCost [.int p0] fI := by
  refine hX_of W (fX_questionCost W.F R p0) (by decide) (fun _ _ _ h => ho_questionCost W.ox W.a h) (fun i E hE I1 L1 h => ?_)
  match i, hE with
  | 0, hE =>
    obtain rfl : "java/lang/IndexOutOfBoundsException" = E := by simpa using hE
    exact he_questionCost_1 W.ox h
  | i + 1, hE => simp at hE
theorem ho_hasTrait {p0 : Int32} {p1 : Int32} (o : am_ob Γ 0 8) (a : am_ar Γ 463 4 1 0) {v : Int32} (h : am_E m_X8_hasTrait 280 1 6 [.ref 0, .int p0, .int p1] Γ I L (.inl (some (.int v))) I1 L1) : am_E m_L_hasTrait 281 1 6 [.ref 0, .int p0, .int p1, .ref 463] Γ I L (.inl (some (.int (nn 0)))) I1 (am_ul L1 463 0 (fZ v)) := by
  refine am_ofEH rfl rfl rfl (Nat.le_of_ble_eq_true rfl) ?_
  refine bL_hasTrait_0 (d := 280) o (Nat.le_refl _) (Nat.le_refl _) h ?_
  refine bL_hasTrait_8 (fun z => ?_) (fun z => ?_)
  · refine bL_hasTrait_15 ?_
    refine bL_hasTrait_16 a (nn_in (k := 0) (by decide) (by decide)) ?_
    exact bL_hasTrait_24 ⟨rfl, rfl, by unfold fZ; rw [if_pos z]; rfl⟩
  · refine bL_hasTrait_11 ?_
    refine bL_hasTrait_16 a (nn_in (k := 0) (by decide) (by decide)) ?_
    exact bL_hasTrait_24 ⟨rfl, rfl, by unfold fZ; rw [if_neg z]; rfl⟩
theorem he_hasTrait_1 {p0 : Int32} {p1 : Int32} (o : am_ob Γ 0 8) (h : am_E m_X8_hasTrait 280 1 6 [.ref 0, .int p0, .int p1] Γ I L (.inr "java/lang/IndexOutOfBoundsException") I1 L1) : am_E m_L_hasTrait 281 1 6 [.ref 0, .int p0, .int p1, .ref 463] Γ I L (.inl (some (.int (nn 1)))) I1 L1 := by
  refine am_ofEH rfl rfl rfl (Nat.le_of_ble_eq_true rfl) ?_
  refine bL_hasTrait_0c1 (d := 280) o (Nat.le_refl _) (Nat.le_refl _) h ?_
  exact bL_hasTrait_22 ⟨rfl, rfl, rfl⟩
theorem hx_hasTrait (W : wld G Γ) (R : REL I L) (p0 : Int32) (p1 : Int32) : hX Γ I L m_L_hasTrait m_X9_hasTrait [.int p0, .int p1] fZ := by
  refine hX_of W (fX_hasTrait W.F R p0 p1) (by decide) (fun _ _ _ h => ho_hasTrait W.ox W.a h) (fun i E hE I1 L1 h => ?_)
  match i, hE with
  | 0, hE =>
    obtain rfl : "java/lang/IndexOutOfBoundsException" = E := by simpa using hE
    exact he_hasTrait_1 W.ox h
  | i + 1, hE => simp at hE
theorem ho_toll {p0 : Int32} (o : am_ob Γ 0 8) (a : am_ar Γ 463 4 1 0) {v : Int32} (h : am_E m_X8_toll 280 1 6 [.ref 0, .int p0] Γ I L (.inl (some (.int v))) I1 L1) : am_E m_L_toll 281 1 6 [.ref 0, .int p0, .ref 463] Γ I L (.inl (some (.int (nn 0)))) I1 (am_ul L1 463 0 (fI v)) := by
  refine am_ofEH rfl rfl rfl (Nat.le_of_ble_eq_true rfl) ?_
  refine bL_toll_0 (d := 280) o (Nat.le_refl _) (Nat.le_refl _) h ?_
  refine bL_toll_7 a (nn_in (k := 0) (by decide) (by decide)) ?_
  exact bL_toll_15 ⟨rfl, rfl, rfl⟩
theorem he_toll_1 {p0 : Int32} (o : am_ob Γ 0 8) (h : am_E m_X8_toll 280 1 6 [.ref 0, .int p0] Γ I L (.inr "java/lang/IndexOutOfBoundsException") I1 L1) : am_E m_L_toll 281 1 6 [.ref 0, .int p0, .ref 463] Γ I L (.inl (some (.int (nn 1)))) I1 L1 := by
  refine am_ofEH rfl rfl rfl (Nat.le_of_ble_eq_true rfl) ?_
  refine bL_toll_0c1 (d := 280) o (Nat.le_refl _) (Nat.le_refl _) h ?_
  exact bL_toll_13 ⟨rfl, rfl, rfl⟩
theorem hx_toll (W : wld G Γ) (R : REL I L) (p0 : Int32) : hX Γ I L m_L_toll m_X9_toll [.int p0] fI := by
  refine hX_of W (fX_toll W.F R p0) (by decide) (fun _ _ _ h => ho_toll W.ox W.a h) (fun i E hE I1 L1 h => ?_)
  match i, hE with
  | 0, hE =>
    obtain rfl : "java/lang/IndexOutOfBoundsException" = E := by simpa using hE
    exact he_toll_1 W.ox h
  | i + 1, hE => simp at hE
theorem ho_countAt {p0 : Int32} {p1 : Int32} (o : am_ob Γ 0 8) (a : am_ar Γ 463 4 1 0) {v : Int32} (h : am_E m_X8_countAt 280 1 6 [.ref 0, .int p0, .int p1] Γ I L (.inl (some (.int v))) I1 L1) : am_E m_L_countAt 281 1 6 [.ref 0, .int p0, .int p1, .ref 463] Γ I L (.inl (some (.int (nn 0)))) I1 (am_ul L1 463 0 (fI v)) := by
  refine am_ofEH rfl rfl rfl (Nat.le_of_ble_eq_true rfl) ?_
  refine bL_countAt_0 (d := 280) o (Nat.le_refl _) (Nat.le_refl _) h ?_
  refine bL_countAt_8 a (nn_in (k := 0) (by decide) (by decide)) ?_
  exact bL_countAt_17 ⟨rfl, rfl, rfl⟩
theorem he_countAt_1 {p0 : Int32} {p1 : Int32} (o : am_ob Γ 0 8) (h : am_E m_X8_countAt 280 1 6 [.ref 0, .int p0, .int p1] Γ I L (.inr "java/lang/IndexOutOfBoundsException") I1 L1) : am_E m_L_countAt 281 1 6 [.ref 0, .int p0, .int p1, .ref 463] Γ I L (.inl (some (.int (nn 1)))) I1 L1 := by
  refine am_ofEH rfl rfl rfl (Nat.le_of_ble_eq_true rfl) ?_
  refine bL_countAt_0c1 (d := 280) o (Nat.le_refl _) (Nat.le_refl _) h ?_
  exact bL_countAt_15 ⟨rfl, rfl, rfl⟩
theorem hx_countAt (W : wld G Γ) (R : REL I L) (p0 : Int32) (p1 : Int32) : hX Γ I L m_L_countAt m_X9_countAt [.int p0, .int p1] fI := by
  refine hX_of W (fX_countAt W.F R p0 p1) (by decide) (fun _ _ _ h => ho_countAt W.ox W.a h) (fun i E hE I1 L1 h => ?_)
  match i, hE with
  | 0, hE =>
    obtain rfl : "java/lang/IndexOutOfBoundsException" = E := by simpa using hE
    exact he_countAt_1 W.ox h
  | i + 1, hE => simp at hE
theorem ho_costLimit {p0 : Int32} (o : am_ob Γ 0 8) (a : am_ar Γ 463 4 1 0) {v : Int32} (h : am_E m_X8_costLimit 280 1 6 [.ref 0, .int p0] Γ I L (.inl (some (.int v))) I1 L1) : am_E m_L_costLimit 281 1 6 [.ref 0, .int p0, .ref 463] Γ I L (.inl (some (.int (nn 0)))) I1 (am_ul L1 463 0 (fI v)) := by
  refine am_ofEH rfl rfl rfl (Nat.le_of_ble_eq_true rfl) ?_
  refine bL_costLimit_0 (d := 280) o (Nat.le_refl _) (Nat.le_refl _) h ?_
  refine bL_costLimit_7 a (nn_in (k := 0) (by decide) (by decide)) ?_
  exact bL_costLimit_15 ⟨rfl, rfl, rfl⟩
theorem he_costLimit_1 {p0 : Int32} (o : am_ob Γ 0 8) (h : am_E m_X8_costLimit 280 1 6 [.ref 0, .int p0] Γ I L (.inr "java/lang/IndexOutOfBoundsException") I1 L1) : am_E m_L_costLimit 281 1 6 [.ref 0, .int p0, .ref 463] Γ I L (.inl (some (.int (nn 1)))) I1 L1 := by
  refine am_ofEH rfl rfl rfl (Nat.le_of_ble_eq_true rfl) ?_
  refine bL_costLimit_0c1 (d := 280) o (Nat.le_refl _) (Nat.le_refl _) h ?_
  exact bL_costLimit_13 ⟨rfl, rfl, rfl⟩
theorem hx_costLimit (W : wld G Γ) (R : REL I L) (p0 : Int32) : hX Γ I L m_L_costLimit m_X9_costLimit [.int p0] fI := by
  refine hX_of W (fX_costLimit W.F R p0) (by decide) (fun _ _ _ h => ho_costLimit W.ox W.a h) (fun i E hE I1 L1 h => ?_)
  match i, hE with
  | 0, hE =>
    obtain rfl : "java/lang/IndexOutOfBoundsException" = E := by simpa using hE
    exact he_costLimit_1 W.ox h
  | i + 1, hE => simp at hE
theorem ho_isOpen {p0 : Int32} (o : am_ob Γ 0 8) (a : am_ar Γ 463 4 1 0) {v : Int32} (h : am_E m_X8_isOpen 280 1 6 [.ref 0, .int p0] Γ I L (.inl (some (.int v))) I1 L1) : am_E m_L_isOpen 281 1 6 [.ref 0, .int p0, .ref 463] Γ I L (.inl (some (.int (nn 0)))) I1 (am_ul L1 463 0 (fZ v)) := by
  refine am_ofEH rfl rfl rfl (Nat.le_of_ble_eq_true rfl) ?_
  refine bL_isOpen_0 (d := 280) o (Nat.le_refl _) (Nat.le_refl _) h ?_
  refine bL_isOpen_7 (fun z => ?_) (fun z => ?_)
  · refine bL_isOpen_14 ?_
    refine bL_isOpen_15 a (nn_in (k := 0) (by decide) (by decide)) ?_
    exact bL_isOpen_22 ⟨rfl, rfl, by unfold fZ; rw [if_pos z]; rfl⟩
  · refine bL_isOpen_10 ?_
    refine bL_isOpen_15 a (nn_in (k := 0) (by decide) (by decide)) ?_
    exact bL_isOpen_22 ⟨rfl, rfl, by unfold fZ; rw [if_neg z]; rfl⟩
theorem he_isOpen_1 {p0 : Int32} (o : am_ob Γ 0 8) (h : am_E m_X8_isOpen 280 1 6 [.ref 0, .int p0] Γ I L (.inr "java/lang/IndexOutOfBoundsException") I1 L1) : am_E m_L_isOpen 281 1 6 [.ref 0, .int p0, .ref 463] Γ I L (.inl (some (.int (nn 1)))) I1 L1 := by
  refine am_ofEH rfl rfl rfl (Nat.le_of_ble_eq_true rfl) ?_
  refine bL_isOpen_0c1 (d := 280) o (Nat.le_refl _) (Nat.le_refl _) h ?_
  exact bL_isOpen_20 ⟨rfl, rfl, rfl⟩
theorem hx_isOpen (W : wld G Γ) (R : REL I L) (p0 : Int32) : hX Γ I L m_L_isOpen m_X9_isOpen [.int p0] fZ := by
  refine hX_of W (fX_isOpen W.F R p0) (by decide) (fun _ _ _ h => ho_isOpen W.ox W.a h) (fun i E hE I1 L1 h => ?_)
  match i, hE with
  | 0, hE =>
    obtain rfl : "java/lang/IndexOutOfBoundsException" = E := by simpa using hE
    exact he_isOpen_1 W.ox h
  | i + 1, hE => simp at hE
theorem ho_hoursUntilOpen {p0 : Int32} (o : am_ob Γ 0 8) (a : am_ar Γ 463 4 1 0) {v : Int32} (h : am_E m_X8_hoursUntilOpen 280 1 6 [.ref 0, .int p0] Γ I L (.inl (some (.int v))) I1 L1) : am_E m_L_hoursUntilOpen 281 1 6 [.ref 0, .int p0, .ref 463] Γ I L (.inl (some (.int (nn 0)))) I1 (am_ul L1 463 0 (fI v)) := by
  refine am_ofEH rfl rfl rfl (Nat.le_of_ble_eq_true rfl) ?_
  refine bL_hoursUntilOpen_0 (d := 280) o (Nat.le_refl _) (Nat.le_refl _) h ?_
  refine bL_hoursUntilOpen_7 a (nn_in (k := 0) (by decide) (by decide)) ?_
  exact bL_hoursUntilOpen_15 ⟨rfl, rfl, rfl⟩
theorem he_hoursUntilOpen_1 {p0 : Int32} (o : am_ob Γ 0 8) (h : am_E m_X8_hoursUntilOpen 280 1 6 [.ref 0, .int p0] Γ I L (.inr "java/lang/IndexOutOfBoundsException") I1 L1) : am_E m_L_hoursUntilOpen 281 1 6 [.ref 0, .int p0, .ref 463] Γ I L (.inl (some (.int (nn 1)))) I1 L1 := by
  refine am_ofEH rfl rfl rfl (Nat.le_of_ble_eq_true rfl) ?_
  refine bL_hoursUntilOpen_0c1 (d := 280) o (Nat.le_refl _) (Nat.le_refl _) h ?_
  exact bL_hoursUntilOpen_13 ⟨rfl, rfl, rfl⟩
theorem hx_hoursUntilOpen (W : wld G Γ) (R : REL I L) (p0 : Int32) : hX Γ I L m_L_hoursUntilOpen m_X9_hoursUntilOpen [.int p0] fI := by
  refine hX_of W (fX_hoursUntilOpen W.F R p0) (by decide) (fun _ _ _ h => ho_hoursUntilOpen W.ox W.a h) (fun i E hE I1 L1 h => ?_)
  match i, hE with
  | 0, hE =>
    obtain rfl : "java/lang/IndexOutOfBoundsException" = E := by simpa using hE
    exact he_hoursUntilOpen_1 W.ox h
  | i + 1, hE => simp at hE
theorem ho_questionNameByte {p0 : Int32} {p1 : Int32} (o : am_ob Γ 0 8) (a : am_ar Γ 463 4 1 0) {v : Int32} (h : am_E m_X8_questionNameByte 280 1 6 [.ref 0, .int p0, .int p1] Γ I L (.inl (some (.int v))) I1 L1) : am_E m_L_questionNameByte 281 1 6 [.ref 0, .int p0, .int p1, .ref 463] Γ I L (.inl (some (.int (nn 0)))) I1 (am_ul L1 463 0 (fI v)) := by
  refine am_ofEH rfl rfl rfl (Nat.le_of_ble_eq_true rfl) ?_
  refine bL_questionNameByte_0 (d := 280) o (Nat.le_refl _) (Nat.le_refl _) h ?_
  refine bL_questionNameByte_8 a (nn_in (k := 0) (by decide) (by decide)) ?_
  exact bL_questionNameByte_17 ⟨rfl, rfl, rfl⟩
theorem he_questionNameByte_1 {p0 : Int32} {p1 : Int32} (o : am_ob Γ 0 8) (h : am_E m_X8_questionNameByte 280 1 6 [.ref 0, .int p0, .int p1] Γ I L (.inr "java/lang/IndexOutOfBoundsException") I1 L1) : am_E m_L_questionNameByte 281 1 6 [.ref 0, .int p0, .int p1, .ref 463] Γ I L (.inl (some (.int (nn 1)))) I1 L1 := by
  refine am_ofEH rfl rfl rfl (Nat.le_of_ble_eq_true rfl) ?_
  refine bL_questionNameByte_0c1 (d := 280) o (Nat.le_refl _) (Nat.le_refl _) h ?_
  exact bL_questionNameByte_15 ⟨rfl, rfl, rfl⟩
theorem hx_questionNameByte (W : wld G Γ) (R : REL I L) (p0 : Int32) (p1 : Int32) : hX Γ I L m_L_questionNameByte m_X9_questionNameByte [.int p0, .int p1] fI := by
  refine hX_of W (fX_questionNameByte W.F R p0 p1) (by decide) (fun _ _ _ h => ho_questionNameByte W.ox W.a h) (fun i E hE I1 L1 h => ?_)
  match i, hE with
  | 0, hE =>
    obtain rfl : "java/lang/IndexOutOfBoundsException" = E := by simpa using hE
    exact he_questionNameByte_1 W.ox h
  | i + 1, hE => simp at hE
theorem ho_typeNameByte {p0 : Int32} {p1 : Int32} (o : am_ob Γ 0 8) (a : am_ar Γ 463 4 1 0) {v : Int32} (h : am_E m_X8_typeNameByte 280 1 6 [.ref 0, .int p0, .int p1] Γ I L (.inl (some (.int v))) I1 L1) : am_E m_L_typeNameByte 281 1 6 [.ref 0, .int p0, .int p1, .ref 463] Γ I L (.inl (some (.int (nn 0)))) I1 (am_ul L1 463 0 (fI v)) := by
  refine am_ofEH rfl rfl rfl (Nat.le_of_ble_eq_true rfl) ?_
  refine bL_typeNameByte_0 (d := 280) o (Nat.le_refl _) (Nat.le_refl _) h ?_
  refine bL_typeNameByte_8 a (nn_in (k := 0) (by decide) (by decide)) ?_
  exact bL_typeNameByte_17 ⟨rfl, rfl, rfl⟩
theorem he_typeNameByte_1 {p0 : Int32} {p1 : Int32} (o : am_ob Γ 0 8) (h : am_E m_X8_typeNameByte 280 1 6 [.ref 0, .int p0, .int p1] Γ I L (.inr "java/lang/IndexOutOfBoundsException") I1 L1) : am_E m_L_typeNameByte 281 1 6 [.ref 0, .int p0, .int p1, .ref 463] Γ I L (.inl (some (.int (nn 1)))) I1 L1 := by
  refine am_ofEH rfl rfl rfl (Nat.le_of_ble_eq_true rfl) ?_
  refine bL_typeNameByte_0c1 (d := 280) o (Nat.le_refl _) (Nat.le_refl _) h ?_
  exact bL_typeNameByte_15 ⟨rfl, rfl, rfl⟩
theorem hx_typeNameByte (W : wld G Γ) (R : REL I L) (p0 : Int32) (p1 : Int32) : hX Γ I L m_L_typeNameByte m_X9_typeNameByte [.int p0, .int p1] fI := by
  refine hX_of W (fX_typeNameByte W.F R p0 p1) (by decide) (fun _ _ _ h => ho_typeNameByte W.ox W.a h) (fun i E hE I1 L1 h => ?_)
  match i, hE with
  | 0, hE =>
    obtain rfl : "java/lang/IndexOutOfBoundsException" = E := by simpa using hE
    exact he_typeNameByte_1 W.ox h
  | i + 1, hE => simp at hE
theorem ho_gateNameByte {p0 : Int32} {p1 : Int32} (o : am_ob Γ 0 8) (a : am_ar Γ 463 4 1 0) {v : Int32} (h : am_E m_X8_gateNameByte 280 1 6 [.ref 0, .int p0, .int p1] Γ I L (.inl (some (.int v))) I1 L1) : am_E m_L_gateNameByte 281 1 6 [.ref 0, .int p0, .int p1, .ref 463] Γ I L (.inl (some (.int (nn 0)))) I1 (am_ul L1 463 0 (fI v)) := by
  refine am_ofEH rfl rfl rfl (Nat.le_of_ble_eq_true rfl) ?_
  refine bL_gateNameByte_0 (d := 280) o (Nat.le_refl _) (Nat.le_refl _) h ?_
  refine bL_gateNameByte_8 a (nn_in (k := 0) (by decide) (by decide)) ?_
  exact bL_gateNameByte_17 ⟨rfl, rfl, rfl⟩
theorem he_gateNameByte_1 {p0 : Int32} {p1 : Int32} (o : am_ob Γ 0 8) (h : am_E m_X8_gateNameByte 280 1 6 [.ref 0, .int p0, .int p1] Γ I L (.inr "java/lang/IndexOutOfBoundsException") I1 L1) : am_E m_L_gateNameByte 281 1 6 [.ref 0, .int p0, .int p1, .ref 463] Γ I L (.inl (some (.int (nn 1)))) I1 L1 := by
  refine am_ofEH rfl rfl rfl (Nat.le_of_ble_eq_true rfl) ?_
  refine bL_gateNameByte_0c1 (d := 280) o (Nat.le_refl _) (Nat.le_refl _) h ?_
  exact bL_gateNameByte_15 ⟨rfl, rfl, rfl⟩
theorem hx_gateNameByte (W : wld G Γ) (R : REL I L) (p0 : Int32) (p1 : Int32) : hX Γ I L m_L_gateNameByte m_X9_gateNameByte [.int p0, .int p1] fI := by
  refine hX_of W (fX_gateNameByte W.F R p0 p1) (by decide) (fun _ _ _ h => ho_gateNameByte W.ox W.a h) (fun i E hE I1 L1 h => ?_)
  match i, hE with
  | 0, hE =>
    obtain rfl : "java/lang/IndexOutOfBoundsException" = E := by simpa using hE
    exact he_gateNameByte_1 W.ox h
  | i + 1, hE => simp at hE
theorem ho_nodeCount {p0 : Int32} (o : am_ob Γ 0 8) (a : am_ar Γ 463 4 1 0) {v : Int32} (h : am_E m_X8_nodeCount 280 1 6 [.ref 0, .int p0] Γ I L (.inl (some (.int v))) I1 L1) : am_E m_L_nodeCount 281 1 6 [.ref 0, .int p0, .ref 463] Γ I L (.inl (some (.int (nn 0)))) I1 (am_ul L1 463 0 (fI v)) := by
  refine am_ofEH rfl rfl rfl (Nat.le_of_ble_eq_true rfl) ?_
  refine bL_nodeCount_0 (d := 280) o (Nat.le_refl _) (Nat.le_refl _) h ?_
  refine bL_nodeCount_7 a (nn_in (k := 0) (by decide) (by decide)) ?_
  exact bL_nodeCount_15 ⟨rfl, rfl, rfl⟩
theorem he_nodeCount_1 {p0 : Int32} (o : am_ob Γ 0 8) (h : am_E m_X8_nodeCount 280 1 6 [.ref 0, .int p0] Γ I L (.inr "java/lang/IndexOutOfBoundsException") I1 L1) : am_E m_L_nodeCount 281 1 6 [.ref 0, .int p0, .ref 463] Γ I L (.inl (some (.int (nn 1)))) I1 L1 := by
  refine am_ofEH rfl rfl rfl (Nat.le_of_ble_eq_true rfl) ?_
  refine bL_nodeCount_0c1 (d := 280) o (Nat.le_refl _) (Nat.le_refl _) h ?_
  exact bL_nodeCount_13 ⟨rfl, rfl, rfl⟩
theorem hx_nodeCount (W : wld G Γ) (R : REL I L) (p0 : Int32) : hX Γ I L m_L_nodeCount m_X9_nodeCount [.int p0] fI := by
  refine hX_of W (fX_nodeCount W.F R p0) (by decide) (fun _ _ _ h => ho_nodeCount W.ox W.a h) (fun i E hE I1 L1 h => ?_)
  match i, hE with
  | 0, hE =>
    obtain rfl : "java/lang/IndexOutOfBoundsException" = E := by simpa using hE
    exact he_nodeCount_1 W.ox h
  | i + 1, hE => simp at hE
theorem ho_nodeQuestion {p0 : Int32} {p1 : Int32} (o : am_ob Γ 0 8) (a : am_ar Γ 463 4 1 0) {v : Int32} (h : am_E m_X8_nodeQuestion 280 1 6 [.ref 0, .int p0, .int p1] Γ I L (.inl (some (.int v))) I1 L1) : am_E m_L_nodeQuestion 281 1 6 [.ref 0, .int p0, .int p1, .ref 463] Γ I L (.inl (some (.int (nn 0)))) I1 (am_ul L1 463 0 (fI v)) := by
  refine am_ofEH rfl rfl rfl (Nat.le_of_ble_eq_true rfl) ?_
  refine bL_nodeQuestion_0 (d := 280) o (Nat.le_refl _) (Nat.le_refl _) h ?_
  refine bL_nodeQuestion_8 a (nn_in (k := 0) (by decide) (by decide)) ?_
  exact bL_nodeQuestion_17 ⟨rfl, rfl, rfl⟩
theorem he_nodeQuestion_1 {p0 : Int32} {p1 : Int32} (o : am_ob Γ 0 8) (h : am_E m_X8_nodeQuestion 280 1 6 [.ref 0, .int p0, .int p1] Γ I L (.inr "java/lang/IndexOutOfBoundsException") I1 L1) : am_E m_L_nodeQuestion 281 1 6 [.ref 0, .int p0, .int p1, .ref 463] Γ I L (.inl (some (.int (nn 1)))) I1 L1 := by
  refine am_ofEH rfl rfl rfl (Nat.le_of_ble_eq_true rfl) ?_
  refine bL_nodeQuestion_0c1 (d := 280) o (Nat.le_refl _) (Nat.le_refl _) h ?_
  exact bL_nodeQuestion_15 ⟨rfl, rfl, rfl⟩
theorem hx_nodeQuestion (W : wld G Γ) (R : REL I L) (p0 : Int32) (p1 : Int32) : hX Γ I L m_L_nodeQuestion m_X9_nodeQuestion [.int p0, .int p1] fI := by
  refine hX_of W (fX_nodeQuestion W.F R p0 p1) (by decide) (fun _ _ _ h => ho_nodeQuestion W.ox W.a h) (fun i E hE I1 L1 h => ?_)
  match i, hE with
  | 0, hE =>
    obtain rfl : "java/lang/IndexOutOfBoundsException" = E := by simpa using hE
    exact he_nodeQuestion_1 W.ox h
  | i + 1, hE => simp at hE
theorem ho_leafToll {p0 : Int32} {p1 : Int32} (o : am_ob Γ 0 8) (a : am_ar Γ 463 4 1 0) {v : Int32} (h : am_E m_X8_leafToll 280 1 6 [.ref 0, .int p0, .int p1] Γ I L (.inl (some (.int v))) I1 L1) : am_E m_L_leafToll 281 1 6 [.ref 0, .int p0, .int p1, .ref 463] Γ I L (.inl (some (.int (nn 0)))) I1 (am_ul L1 463 0 (fI v)) := by
  refine am_ofEH rfl rfl rfl (Nat.le_of_ble_eq_true rfl) ?_
  refine bL_leafToll_0 (d := 280) o (Nat.le_refl _) (Nat.le_refl _) h ?_
  refine bL_leafToll_8 a (nn_in (k := 0) (by decide) (by decide)) ?_
  exact bL_leafToll_17 ⟨rfl, rfl, rfl⟩
theorem he_leafToll_1 {p0 : Int32} {p1 : Int32} (o : am_ob Γ 0 8) (h : am_E m_X8_leafToll 280 1 6 [.ref 0, .int p0, .int p1] Γ I L (.inr "java/lang/IndexOutOfBoundsException") I1 L1) : am_E m_L_leafToll 281 1 6 [.ref 0, .int p0, .int p1, .ref 463] Γ I L (.inl (some (.int (nn 1)))) I1 L1 := by
  refine am_ofEH rfl rfl rfl (Nat.le_of_ble_eq_true rfl) ?_
  refine bL_leafToll_0c1 (d := 280) o (Nat.le_refl _) (Nat.le_refl _) h ?_
  exact bL_leafToll_15 ⟨rfl, rfl, rfl⟩
theorem hx_leafToll (W : wld G Γ) (R : REL I L) (p0 : Int32) (p1 : Int32) : hX Γ I L m_L_leafToll m_X9_leafToll [.int p0, .int p1] fI := by
  refine hX_of W (fX_leafToll W.F R p0 p1) (by decide) (fun _ _ _ h => ho_leafToll W.ox W.a h) (fun i E hE I1 L1 h => ?_)
  match i, hE with
  | 0, hE =>
    obtain rfl : "java/lang/IndexOutOfBoundsException" = E := by simpa using hE
    exact he_leafToll_1 W.ox h
  | i + 1, hE => simp at hE
theorem ho_yesChild {p0 : Int32} {p1 : Int32} (o : am_ob Γ 0 8) (a : am_ar Γ 463 4 1 0) {v : Int32} (h : am_E m_X8_yesChild 280 1 6 [.ref 0, .int p0, .int p1] Γ I L (.inl (some (.int v))) I1 L1) : am_E m_L_yesChild 281 1 6 [.ref 0, .int p0, .int p1, .ref 463] Γ I L (.inl (some (.int (nn 0)))) I1 (am_ul L1 463 0 (fI v)) := by
  refine am_ofEH rfl rfl rfl (Nat.le_of_ble_eq_true rfl) ?_
  refine bL_yesChild_0 (d := 280) o (Nat.le_refl _) (Nat.le_refl _) h ?_
  refine bL_yesChild_8 a (nn_in (k := 0) (by decide) (by decide)) ?_
  exact bL_yesChild_17 ⟨rfl, rfl, rfl⟩
theorem he_yesChild_1 {p0 : Int32} {p1 : Int32} (o : am_ob Γ 0 8) (h : am_E m_X8_yesChild 280 1 6 [.ref 0, .int p0, .int p1] Γ I L (.inr "java/lang/IndexOutOfBoundsException") I1 L1) : am_E m_L_yesChild 281 1 6 [.ref 0, .int p0, .int p1, .ref 463] Γ I L (.inl (some (.int (nn 1)))) I1 L1 := by
  refine am_ofEH rfl rfl rfl (Nat.le_of_ble_eq_true rfl) ?_
  refine bL_yesChild_0c1 (d := 280) o (Nat.le_refl _) (Nat.le_refl _) h ?_
  exact bL_yesChild_15 ⟨rfl, rfl, rfl⟩
theorem hx_yesChild (W : wld G Γ) (R : REL I L) (p0 : Int32) (p1 : Int32) : hX Γ I L m_L_yesChild m_X9_yesChild [.int p0, .int p1] fI := by
  refine hX_of W (fX_yesChild W.F R p0 p1) (by decide) (fun _ _ _ h => ho_yesChild W.ox W.a h) (fun i E hE I1 L1 h => ?_)
  match i, hE with
  | 0, hE =>
    obtain rfl : "java/lang/IndexOutOfBoundsException" = E := by simpa using hE
    exact he_yesChild_1 W.ox h
  | i + 1, hE => simp at hE
theorem ho_noChild {p0 : Int32} {p1 : Int32} (o : am_ob Γ 0 8) (a : am_ar Γ 463 4 1 0) {v : Int32} (h : am_E m_X8_noChild 280 1 6 [.ref 0, .int p0, .int p1] Γ I L (.inl (some (.int v))) I1 L1) : am_E m_L_noChild 281 1 6 [.ref 0, .int p0, .int p1, .ref 463] Γ I L (.inl (some (.int (nn 0)))) I1 (am_ul L1 463 0 (fI v)) := by
  refine am_ofEH rfl rfl rfl (Nat.le_of_ble_eq_true rfl) ?_
  refine bL_noChild_0 (d := 280) o (Nat.le_refl _) (Nat.le_refl _) h ?_
  refine bL_noChild_8 a (nn_in (k := 0) (by decide) (by decide)) ?_
  exact bL_noChild_17 ⟨rfl, rfl, rfl⟩
theorem he_noChild_1 {p0 : Int32} {p1 : Int32} (o : am_ob Γ 0 8) (h : am_E m_X8_noChild 280 1 6 [.ref 0, .int p0, .int p1] Γ I L (.inr "java/lang/IndexOutOfBoundsException") I1 L1) : am_E m_L_noChild 281 1 6 [.ref 0, .int p0, .int p1, .ref 463] Γ I L (.inl (some (.int (nn 1)))) I1 L1 := by
  refine am_ofEH rfl rfl rfl (Nat.le_of_ble_eq_true rfl) ?_
  refine bL_noChild_0c1 (d := 280) o (Nat.le_refl _) (Nat.le_refl _) h ?_
  exact bL_noChild_15 ⟨rfl, rfl, rfl⟩
theorem hx_noChild (W : wld G Γ) (R : REL I L) (p0 : Int32) (p1 : Int32) : hX Γ I L m_L_noChild m_X9_noChild [.int p0, .int p1] fI := by
  refine hX_of W (fX_noChild W.F R p0 p1) (by decide) (fun _ _ _ h => ho_noChild W.ox W.a h) (fun i E hE I1 L1 h => ?_)
  match i, hE with
  | 0, hE =>
    obtain rfl : "java/lang/IndexOutOfBoundsException" = E := by simpa using hE
    exact he_noChild_1 W.ox h
  | i + 1, hE => simp at hE
theorem ho_typesAt {p0 : Int32} {p1 : Int32} (o : am_ob Γ 0 8) (a : am_ar Γ 463 4 1 0) {v : Int32} (h : am_E m_X8_typesAt 280 1 6 [.ref 0, .int p0, .int p1] Γ I L (.inl (some (.int v))) I1 L1) : am_E m_L_typesAt 281 1 6 [.ref 0, .int p0, .int p1, .ref 463] Γ I L (.inl (some (.int (nn 0)))) I1 (am_ul L1 463 0 (fI v)) := by
  refine am_ofEH rfl rfl rfl (Nat.le_of_ble_eq_true rfl) ?_
  refine bL_typesAt_0 (d := 280) o (Nat.le_refl _) (Nat.le_refl _) h ?_
  refine bL_typesAt_8 a (nn_in (k := 0) (by decide) (by decide)) ?_
  exact bL_typesAt_17 ⟨rfl, rfl, rfl⟩
theorem he_typesAt_1 {p0 : Int32} {p1 : Int32} (o : am_ob Γ 0 8) (h : am_E m_X8_typesAt 280 1 6 [.ref 0, .int p0, .int p1] Γ I L (.inr "java/lang/IndexOutOfBoundsException") I1 L1) : am_E m_L_typesAt 281 1 6 [.ref 0, .int p0, .int p1, .ref 463] Γ I L (.inl (some (.int (nn 1)))) I1 L1 := by
  refine am_ofEH rfl rfl rfl (Nat.le_of_ble_eq_true rfl) ?_
  refine bL_typesAt_0c1 (d := 280) o (Nat.le_refl _) (Nat.le_refl _) h ?_
  exact bL_typesAt_15 ⟨rfl, rfl, rfl⟩
theorem hx_typesAt (W : wld G Γ) (R : REL I L) (p0 : Int32) (p1 : Int32) : hX Γ I L m_L_typesAt m_X9_typesAt [.int p0, .int p1] fI := by
  refine hX_of W (fX_typesAt W.F R p0 p1) (by decide) (fun _ _ _ h => ho_typesAt W.ox W.a h) (fun i E hE I1 L1 h => ?_)
  match i, hE with
  | 0, hE =>
    obtain rfl : "java/lang/IndexOutOfBoundsException" = E := by simpa using hE
    exact he_typesAt_1 W.ox h
  | i + 1, hE => simp at hE
theorem ho_leafOf {p0 : Int32} {p1 : Int32} (o : am_ob Γ 0 8) (a : am_ar Γ 463 4 1 0) {v : Int32} (h : am_E m_X8_leafOf 280 1 6 [.ref 0, .int p0, .int p1] Γ I L (.inl (some (.int v))) I1 L1) : am_E m_L_leafOf 281 1 6 [.ref 0, .int p0, .int p1, .ref 463] Γ I L (.inl (some (.int (nn 0)))) I1 (am_ul L1 463 0 (fI v)) := by
  refine am_ofEH rfl rfl rfl (Nat.le_of_ble_eq_true rfl) ?_
  refine bL_leafOf_0 (d := 280) o (Nat.le_refl _) (Nat.le_refl _) h ?_
  refine bL_leafOf_8 a (nn_in (k := 0) (by decide) (by decide)) ?_
  exact bL_leafOf_17 ⟨rfl, rfl, rfl⟩
theorem he_leafOf_1 {p0 : Int32} {p1 : Int32} (o : am_ob Γ 0 8) (h : am_E m_X8_leafOf 280 1 6 [.ref 0, .int p0, .int p1] Γ I L (.inr "java/lang/IndexOutOfBoundsException") I1 L1) : am_E m_L_leafOf 281 1 6 [.ref 0, .int p0, .int p1, .ref 463] Γ I L (.inl (some (.int (nn 1)))) I1 L1 := by
  refine am_ofEH rfl rfl rfl (Nat.le_of_ble_eq_true rfl) ?_
  refine bL_leafOf_0c1 (d := 280) o (Nat.le_refl _) (Nat.le_refl _) h ?_
  exact bL_leafOf_15 ⟨rfl, rfl, rfl⟩
theorem hx_leafOf (W : wld G Γ) (R : REL I L) (p0 : Int32) (p1 : Int32) : hX Γ I L m_L_leafOf m_X9_leafOf [.int p0, .int p1] fI := by
  refine hX_of W (fX_leafOf W.F R p0 p1) (by decide) (fun _ _ _ h => ho_leafOf W.ox W.a h) (fun i E hE I1 L1 h => ?_)
  match i, hE with
  | 0, hE =>
    obtain rfl : "java/lang/IndexOutOfBoundsException" = E := by simpa using hE
    exact he_leafOf_1 W.ox h
  | i + 1, hE => simp at hE
theorem ho_chargedToll {p0 : Int32} {p1 : Int32} (o : am_ob Γ 0 8) (a : am_ar Γ 463 4 1 0) {v : Int32} (h : am_E m_X8_chargedToll 280 1 6 [.ref 0, .int p0, .int p1] Γ I L (.inl (some (.int v))) I1 L1) : am_E m_L_chargedToll 281 1 6 [.ref 0, .int p0, .int p1, .ref 463] Γ I L (.inl (some (.int (nn 0)))) I1 (am_ul L1 463 0 (fI v)) := by
  refine am_ofEH rfl rfl rfl (Nat.le_of_ble_eq_true rfl) ?_
  refine bL_chargedToll_0 (d := 280) o (Nat.le_refl _) (Nat.le_refl _) h ?_
  refine bL_chargedToll_8 a (nn_in (k := 0) (by decide) (by decide)) ?_
  exact bL_chargedToll_17 ⟨rfl, rfl, rfl⟩
theorem he_chargedToll_1 {p0 : Int32} {p1 : Int32} (o : am_ob Γ 0 8) (h : am_E m_X8_chargedToll 280 1 6 [.ref 0, .int p0, .int p1] Γ I L (.inr "java/lang/IndexOutOfBoundsException") I1 L1) : am_E m_L_chargedToll 281 1 6 [.ref 0, .int p0, .int p1, .ref 463] Γ I L (.inl (some (.int (nn 1)))) I1 L1 := by
  refine am_ofEH rfl rfl rfl (Nat.le_of_ble_eq_true rfl) ?_
  refine bL_chargedToll_0c1 (d := 280) o (Nat.le_refl _) (Nat.le_refl _) h ?_
  exact bL_chargedToll_15 ⟨rfl, rfl, rfl⟩
theorem hx_chargedToll (W : wld G Γ) (R : REL I L) (p0 : Int32) (p1 : Int32) : hX Γ I L m_L_chargedToll m_X9_chargedToll [.int p0, .int p1] fI := by
  refine hX_of W (fX_chargedToll W.F R p0 p1) (by decide) (fun _ _ _ h => ho_chargedToll W.ox W.a h) (fun i E hE I1 L1 h => ?_)
  match i, hE with
  | 0, hE =>
    obtain rfl : "java/lang/IndexOutOfBoundsException" = E := by simpa using hE
    exact he_chargedToll_1 W.ox h
  | i + 1, hE => simp at hE
theorem ho_pathCost {p0 : Int32} {p1 : Int32} (o : am_ob Γ 0 8) (a : am_ar Γ 463 4 1 0) {v : Int32} (h : am_E m_X8_pathCost 280 1 6 [.ref 0, .int p0, .int p1] Γ I L (.inl (some (.int v))) I1 L1) : am_E m_L_pathCost 281 1 6 [.ref 0, .int p0, .int p1, .ref 463] Γ I L (.inl (some (.int (nn 0)))) I1 (am_ul L1 463 0 (fI v)) := by
  refine am_ofEH rfl rfl rfl (Nat.le_of_ble_eq_true rfl) ?_
  refine bL_pathCost_0 (d := 280) o (Nat.le_refl _) (Nat.le_refl _) h ?_
  refine bL_pathCost_8 a (nn_in (k := 0) (by decide) (by decide)) ?_
  exact bL_pathCost_17 ⟨rfl, rfl, rfl⟩
theorem he_pathCost_1 {p0 : Int32} {p1 : Int32} (o : am_ob Γ 0 8) (h : am_E m_X8_pathCost 280 1 6 [.ref 0, .int p0, .int p1] Γ I L (.inr "java/lang/IndexOutOfBoundsException") I1 L1) : am_E m_L_pathCost 281 1 6 [.ref 0, .int p0, .int p1, .ref 463] Γ I L (.inl (some (.int (nn 1)))) I1 L1 := by
  refine am_ofEH rfl rfl rfl (Nat.le_of_ble_eq_true rfl) ?_
  refine bL_pathCost_0c1 (d := 280) o (Nat.le_refl _) (Nat.le_refl _) h ?_
  exact bL_pathCost_15 ⟨rfl, rfl, rfl⟩
theorem hx_pathCost (W : wld G Γ) (R : REL I L) (p0 : Int32) (p1 : Int32) : hX Γ I L m_L_pathCost m_X9_pathCost [.int p0, .int p1] fI := by
  refine hX_of W (fX_pathCost W.F R p0 p1) (by decide) (fun _ _ _ h => ho_pathCost W.ox W.a h) (fun i E hE I1 L1 h => ?_)
  match i, hE with
  | 0, hE =>
    obtain rfl : "java/lang/IndexOutOfBoundsException" = E := by simpa using hE
    exact he_pathCost_1 W.ox h
  | i + 1, hE => simp at hE
theorem ho_errors {p0 : Int32} (o : am_ob Γ 0 8) (a : am_ar Γ 463 4 1 0) {v : Int32} (h : am_E m_X8_errors 280 1 6 [.ref 0, .int p0] Γ I L (.inl (some (.int v))) I1 L1) : am_E m_L_errors 281 1 6 [.ref 0, .int p0, .ref 463] Γ I L (.inl (some (.int (nn 0)))) I1 (am_ul L1 463 0 (fI v)) := by
  refine am_ofEH rfl rfl rfl (Nat.le_of_ble_eq_true rfl) ?_
  refine bL_errors_0 (d := 280) o (Nat.le_refl _) (Nat.le_refl _) h ?_
  refine bL_errors_7 a (nn_in (k := 0) (by decide) (by decide)) ?_
  exact bL_errors_15 ⟨rfl, rfl, rfl⟩
theorem he_errors_1 {p0 : Int32} (o : am_ob Γ 0 8) (h : am_E m_X8_errors 280 1 6 [.ref 0, .int p0] Γ I L (.inr "java/lang/IndexOutOfBoundsException") I1 L1) : am_E m_L_errors 281 1 6 [.ref 0, .int p0, .ref 463] Γ I L (.inl (some (.int (nn 1)))) I1 L1 := by
  refine am_ofEH rfl rfl rfl (Nat.le_of_ble_eq_true rfl) ?_
  refine bL_errors_0c1 (d := 280) o (Nat.le_refl _) (Nat.le_refl _) h ?_
  exact bL_errors_13 ⟨rfl, rfl, rfl⟩
theorem hx_errors (W : wld G Γ) (R : REL I L) (p0 : Int32) : hX Γ I L m_L_errors m_X9_errors [.int p0] fI := by
  refine hX_of W (fX_errors W.F R p0) (by decide) (fun _ _ _ h => ho_errors W.ox W.a h) (fun i E hE I1 L1 h => ?_)
  match i, hE with
  | 0, hE =>
    obtain rfl : "java/lang/IndexOutOfBoundsException" = E := by simpa using hE
    exact he_errors_1 W.ox h
  | i + 1, hE => simp at hE
theorem ho_work {p0 : Int32} (o : am_ob Γ 0 8) (a : am_ar Γ 463 4 1 0) {v : Int32} (h : am_E m_X8_work 280 1 6 [.ref 0, .int p0] Γ I L (.inl (some (.int v))) I1 L1) : am_E m_L_work 281 1 6 [.ref 0, .int p0, .ref 463] Γ I L (.inl (some (.int (nn 0)))) I1 (am_ul L1 463 0 (fI v)) := by
  refine am_ofEH rfl rfl rfl (Nat.le_of_ble_eq_true rfl) ?_
  refine bL_work_0 (d := 280) o (Nat.le_refl _) (Nat.le_refl _) h ?_
  refine bL_work_7 a (nn_in (k := 0) (by decide) (by decide)) ?_
  exact bL_work_15 ⟨rfl, rfl, rfl⟩
theorem he_work_1 {p0 : Int32} (o : am_ob Γ 0 8) (h : am_E m_X8_work 280 1 6 [.ref 0, .int p0] Γ I L (.inr "java/lang/IndexOutOfBoundsException") I1 L1) : am_E m_L_work 281 1 6 [.ref 0, .int p0, .ref 463] Γ I L (.inl (some (.int (nn 1)))) I1 L1 := by
  refine am_ofEH rfl rfl rfl (Nat.le_of_ble_eq_true rfl) ?_
  refine bL_work_0c1 (d := 280) o (Nat.le_refl _) (Nat.le_refl _) h ?_
  exact bL_work_13 ⟨rfl, rfl, rfl⟩
theorem hx_work (W : wld G Γ) (R : REL I L) (p0 : Int32) : hX Γ I L m_L_work m_X9_work [.int p0] fI := by
  refine hX_of W (fX_work W.F R p0) (by decide) (fun _ _ _ h => ho_work W.ox W.a h) (fun i E hE I1 L1 h => ?_)
  match i, hE with
  | 0, hE =>
    obtain rfl : "java/lang/IndexOutOfBoundsException" = E := by simpa using hE
    exact he_work_1 W.ox h
  | i + 1, hE => simp at hE
theorem ho_mischargeReason {p0 : Int32} {p1 : Int32} (o : am_ob Γ 0 8) (a : am_ar Γ 463 4 1 0) {v : Int32} (h : am_E m_X8_mischargeReason 280 1 6 [.ref 0, .int p0, .int p1] Γ I L (.inl (some (.int v))) I1 L1) : am_E m_L_mischargeReason 281 1 6 [.ref 0, .int p0, .int p1, .ref 463] Γ I L (.inl (some (.int (nn 0)))) I1 (am_ul L1 463 0 (fI v)) := by
  refine am_ofEH rfl rfl rfl (Nat.le_of_ble_eq_true rfl) ?_
  refine bL_mischargeReason_0 (d := 280) o (Nat.le_refl _) (Nat.le_refl _) h ?_
  refine bL_mischargeReason_8 a (nn_in (k := 0) (by decide) (by decide)) ?_
  exact bL_mischargeReason_17 ⟨rfl, rfl, rfl⟩
theorem he_mischargeReason_1 {p0 : Int32} {p1 : Int32} (o : am_ob Γ 0 8) (h : am_E m_X8_mischargeReason 280 1 6 [.ref 0, .int p0, .int p1] Γ I L (.inr "java/lang/IndexOutOfBoundsException") I1 L1) : am_E m_L_mischargeReason 281 1 6 [.ref 0, .int p0, .int p1, .ref 463] Γ I L (.inl (some (.int (nn 1)))) I1 L1 := by
  refine am_ofEH rfl rfl rfl (Nat.le_of_ble_eq_true rfl) ?_
  refine bL_mischargeReason_0c1 (d := 280) o (Nat.le_refl _) (Nat.le_refl _) h ?_
  exact bL_mischargeReason_15 ⟨rfl, rfl, rfl⟩
theorem hx_mischargeReason (W : wld G Γ) (R : REL I L) (p0 : Int32) (p1 : Int32) : hX Γ I L m_L_mischargeReason m_X9_mischargeReason [.int p0, .int p1] fI := by
  refine hX_of W (fX_mischargeReason W.F R p0 p1) (by decide) (fun _ _ _ h => ho_mischargeReason W.ox W.a h) (fun i E hE I1 L1 h => ?_)
  match i, hE with
  | 0, hE =>
    obtain rfl : "java/lang/IndexOutOfBoundsException" = E := by simpa using hE
    exact he_mischargeReason_1 W.ox h
  | i + 1, hE => simp at hE
theorem ho_bestErrors {p0 : Int32} {p1 : Int32} (o : am_ob Γ 0 8) (a : am_ar Γ 463 4 1 0) {v : Int32} (h : am_E m_X8_bestErrors 280 1 6 [.ref 0, .int p0, .int p1] Γ I L (.inl (some (.int v))) I1 L1) : am_E m_L_bestErrors 281 1 6 [.ref 0, .int p0, .int p1, .ref 463] Γ I L (.inl (some (.int (nn 0)))) I1 (am_ul L1 463 0 (fI v)) := by
  refine am_ofEH rfl rfl rfl (Nat.le_of_ble_eq_true rfl) ?_
  refine bL_bestErrors_0 (d := 280) o (Nat.le_refl _) (Nat.le_refl _) h ?_
  refine bL_bestErrors_8 a (nn_in (k := 0) (by decide) (by decide)) ?_
  exact bL_bestErrors_21 ⟨rfl, rfl, rfl⟩
theorem he_bestErrors_1 {p0 : Int32} {p1 : Int32} (o : am_ob Γ 0 8) (h : am_E m_X8_bestErrors 280 1 6 [.ref 0, .int p0, .int p1] Γ I L (.inr "java/lang/IndexOutOfBoundsException") I1 L1) : am_E m_L_bestErrors 281 1 6 [.ref 0, .int p0, .int p1, .ref 463] Γ I L (.inl (some (.int (nn 1)))) I1 L1 := by
  refine am_ofEH rfl rfl rfl (Nat.le_of_ble_eq_true rfl) ?_
  refine bL_bestErrors_0c1 (d := 280) o (Nat.le_refl _) (Nat.le_refl _) h ?_
  exact bL_bestErrors_15 ⟨rfl, rfl, rfl⟩
theorem he_bestErrors_2 {p0 : Int32} {p1 : Int32} (o : am_ob Γ 0 8) (h : am_E m_X8_bestErrors 280 1 6 [.ref 0, .int p0, .int p1] Γ I L (.inr "java/lang/IllegalArgumentException") I1 L1) : am_E m_L_bestErrors 281 1 6 [.ref 0, .int p0, .int p1, .ref 463] Γ I L (.inl (some (.int (nn 2)))) I1 L1 := by
  refine am_ofEH rfl rfl rfl (Nat.le_of_ble_eq_true rfl) ?_
  refine bL_bestErrors_0c2 (d := 280) o (Nat.le_refl _) (Nat.le_refl _) h ?_
  exact bL_bestErrors_19 ⟨rfl, rfl, rfl⟩
theorem hx_bestErrors (W : wld G Γ) (R : REL I L) (p0 : Int32) (p1 : Int32) : hX Γ I L m_L_bestErrors m_X9_bestErrors [.int p0, .int p1] fI := by
  refine hX_of W (fX_bestErrors W.F R p0 p1) (by decide) (fun _ _ _ h => ho_bestErrors W.ox W.a h) (fun i E hE I1 L1 h => ?_)
  match i, hE with
  | 0, hE =>
    obtain rfl : "java/lang/IndexOutOfBoundsException" = E := by simpa using hE
    exact he_bestErrors_1 W.ox h
  | 1, hE =>
    obtain rfl : "java/lang/IllegalArgumentException" = E := by simpa using hE
    exact he_bestErrors_2 W.ox h
  | i + 2, hE => simp at hE
theorem ho_bestWork {p0 : Int32} {p1 : Int32} (o : am_ob Γ 0 8) (a : am_ar Γ 463 4 1 0) {v : Int32} (h : am_E m_X8_bestWork 280 1 6 [.ref 0, .int p0, .int p1] Γ I L (.inl (some (.int v))) I1 L1) : am_E m_L_bestWork 281 1 6 [.ref 0, .int p0, .int p1, .ref 463] Γ I L (.inl (some (.int (nn 0)))) I1 (am_ul L1 463 0 (fI v)) := by
  refine am_ofEH rfl rfl rfl (Nat.le_of_ble_eq_true rfl) ?_
  refine bL_bestWork_0 (d := 280) o (Nat.le_refl _) (Nat.le_refl _) h ?_
  refine bL_bestWork_8 a (nn_in (k := 0) (by decide) (by decide)) ?_
  exact bL_bestWork_21 ⟨rfl, rfl, rfl⟩
theorem he_bestWork_1 {p0 : Int32} {p1 : Int32} (o : am_ob Γ 0 8) (h : am_E m_X8_bestWork 280 1 6 [.ref 0, .int p0, .int p1] Γ I L (.inr "java/lang/IndexOutOfBoundsException") I1 L1) : am_E m_L_bestWork 281 1 6 [.ref 0, .int p0, .int p1, .ref 463] Γ I L (.inl (some (.int (nn 1)))) I1 L1 := by
  refine am_ofEH rfl rfl rfl (Nat.le_of_ble_eq_true rfl) ?_
  refine bL_bestWork_0c1 (d := 280) o (Nat.le_refl _) (Nat.le_refl _) h ?_
  exact bL_bestWork_15 ⟨rfl, rfl, rfl⟩
theorem he_bestWork_2 {p0 : Int32} {p1 : Int32} (o : am_ob Γ 0 8) (h : am_E m_X8_bestWork 280 1 6 [.ref 0, .int p0, .int p1] Γ I L (.inr "java/lang/IllegalArgumentException") I1 L1) : am_E m_L_bestWork 281 1 6 [.ref 0, .int p0, .int p1, .ref 463] Γ I L (.inl (some (.int (nn 2)))) I1 L1 := by
  refine am_ofEH rfl rfl rfl (Nat.le_of_ble_eq_true rfl) ?_
  refine bL_bestWork_0c2 (d := 280) o (Nat.le_refl _) (Nat.le_refl _) h ?_
  exact bL_bestWork_19 ⟨rfl, rfl, rfl⟩
theorem hx_bestWork (W : wld G Γ) (R : REL I L) (p0 : Int32) (p1 : Int32) : hX Γ I L m_L_bestWork m_X9_bestWork [.int p0, .int p1] fI := by
  refine hX_of W (fX_bestWork W.F R p0 p1) (by decide) (fun _ _ _ h => ho_bestWork W.ox W.a h) (fun i E hE I1 L1 h => ?_)
  match i, hE with
  | 0, hE =>
    obtain rfl : "java/lang/IndexOutOfBoundsException" = E := by simpa using hE
    exact he_bestWork_1 W.ox h
  | 1, hE =>
    obtain rfl : "java/lang/IllegalArgumentException" = E := by simpa using hE
    exact he_bestWork_2 W.ox h
  | i + 2, hE => simp at hE
theorem ho_bestRootQuestion {p0 : Int32} {p1 : Int32} (o : am_ob Γ 0 8) (a : am_ar Γ 463 4 1 0) {v : Int32} (h : am_E m_X8_bestRootQuestion 280 1 6 [.ref 0, .int p0, .int p1] Γ I L (.inl (some (.int v))) I1 L1) : am_E m_L_bestRootQuestion 281 1 6 [.ref 0, .int p0, .int p1, .ref 463] Γ I L (.inl (some (.int (nn 0)))) I1 (am_ul L1 463 0 (fI v)) := by
  refine am_ofEH rfl rfl rfl (Nat.le_of_ble_eq_true rfl) ?_
  refine bL_bestRootQuestion_0 (d := 280) o (Nat.le_refl _) (Nat.le_refl _) h ?_
  refine bL_bestRootQuestion_8 a (nn_in (k := 0) (by decide) (by decide)) ?_
  exact bL_bestRootQuestion_21 ⟨rfl, rfl, rfl⟩
theorem he_bestRootQuestion_1 {p0 : Int32} {p1 : Int32} (o : am_ob Γ 0 8) (h : am_E m_X8_bestRootQuestion 280 1 6 [.ref 0, .int p0, .int p1] Γ I L (.inr "java/lang/IndexOutOfBoundsException") I1 L1) : am_E m_L_bestRootQuestion 281 1 6 [.ref 0, .int p0, .int p1, .ref 463] Γ I L (.inl (some (.int (nn 1)))) I1 L1 := by
  refine am_ofEH rfl rfl rfl (Nat.le_of_ble_eq_true rfl) ?_
  refine bL_bestRootQuestion_0c1 (d := 280) o (Nat.le_refl _) (Nat.le_refl _) h ?_
  exact bL_bestRootQuestion_15 ⟨rfl, rfl, rfl⟩
theorem he_bestRootQuestion_2 {p0 : Int32} {p1 : Int32} (o : am_ob Γ 0 8) (h : am_E m_X8_bestRootQuestion 280 1 6 [.ref 0, .int p0, .int p1] Γ I L (.inr "java/lang/IllegalArgumentException") I1 L1) : am_E m_L_bestRootQuestion 281 1 6 [.ref 0, .int p0, .int p1, .ref 463] Γ I L (.inl (some (.int (nn 2)))) I1 L1 := by
  refine am_ofEH rfl rfl rfl (Nat.le_of_ble_eq_true rfl) ?_
  refine bL_bestRootQuestion_0c2 (d := 280) o (Nat.le_refl _) (Nat.le_refl _) h ?_
  exact bL_bestRootQuestion_19 ⟨rfl, rfl, rfl⟩
theorem hx_bestRootQuestion (W : wld G Γ) (R : REL I L) (p0 : Int32) (p1 : Int32) : hX Γ I L m_L_bestRootQuestion m_X9_bestRootQuestion [.int p0, .int p1] fI := by
  refine hX_of W (fX_bestRootQuestion W.F R p0 p1) (by decide) (fun _ _ _ h => ho_bestRootQuestion W.ox W.a h) (fun i E hE I1 L1 h => ?_)
  match i, hE with
  | 0, hE =>
    obtain rfl : "java/lang/IndexOutOfBoundsException" = E := by simpa using hE
    exact he_bestRootQuestion_1 W.ox h
  | 1, hE =>
    obtain rfl : "java/lang/IllegalArgumentException" = E := by simpa using hE
    exact he_bestRootQuestion_2 W.ox h
  | i + 2, hE => simp at hE
theorem ho_errorsWithout {p0 : Int32} {p1 : Int32} (o : am_ob Γ 0 8) (a : am_ar Γ 463 4 1 0) {v : Int32} (h : am_E m_X8_errorsWithout 280 1 6 [.ref 0, .int p0, .int p1] Γ I L (.inl (some (.int v))) I1 L1) : am_E m_L_errorsWithout 281 1 6 [.ref 0, .int p0, .int p1, .ref 463] Γ I L (.inl (some (.int (nn 0)))) I1 (am_ul L1 463 0 (fI v)) := by
  refine am_ofEH rfl rfl rfl (Nat.le_of_ble_eq_true rfl) ?_
  refine bL_errorsWithout_0 (d := 280) o (Nat.le_refl _) (Nat.le_refl _) h ?_
  refine bL_errorsWithout_8 a (nn_in (k := 0) (by decide) (by decide)) ?_
  exact bL_errorsWithout_17 ⟨rfl, rfl, rfl⟩
theorem he_errorsWithout_1 {p0 : Int32} {p1 : Int32} (o : am_ob Γ 0 8) (h : am_E m_X8_errorsWithout 280 1 6 [.ref 0, .int p0, .int p1] Γ I L (.inr "java/lang/IndexOutOfBoundsException") I1 L1) : am_E m_L_errorsWithout 281 1 6 [.ref 0, .int p0, .int p1, .ref 463] Γ I L (.inl (some (.int (nn 1)))) I1 L1 := by
  refine am_ofEH rfl rfl rfl (Nat.le_of_ble_eq_true rfl) ?_
  refine bL_errorsWithout_0c1 (d := 280) o (Nat.le_refl _) (Nat.le_refl _) h ?_
  exact bL_errorsWithout_15 ⟨rfl, rfl, rfl⟩
theorem hx_errorsWithout (W : wld G Γ) (R : REL I L) (p0 : Int32) (p1 : Int32) : hX Γ I L m_L_errorsWithout m_X9_errorsWithout [.int p0, .int p1] fI := by
  refine hX_of W (fX_errorsWithout W.F R p0 p1) (by decide) (fun _ _ _ h => ho_errorsWithout W.ox W.a h) (fun i E hE I1 L1 h => ?_)
  match i, hE with
  | 0, hE =>
    obtain rfl : "java/lang/IndexOutOfBoundsException" = E := by simpa using hE
    exact he_errorsWithout_1 W.ox h
  | i + 1, hE => simp at hE
theorem ho_sufficientLimit {p0 : Int32} (o : am_ob Γ 0 8) (a : am_ar Γ 463 4 1 0) {v : Int32} (h : am_E m_X8_sufficientLimit 280 1 6 [.ref 0, .int p0] Γ I L (.inl (some (.int v))) I1 L1) : am_E m_L_sufficientLimit 281 1 6 [.ref 0, .int p0, .ref 463] Γ I L (.inl (some (.int (nn 0)))) I1 (am_ul L1 463 0 (fI v)) := by
  refine am_ofEH rfl rfl rfl (Nat.le_of_ble_eq_true rfl) ?_
  refine bL_sufficientLimit_0 (d := 280) o (Nat.le_refl _) (Nat.le_refl _) h ?_
  refine bL_sufficientLimit_7 a (nn_in (k := 0) (by decide) (by decide)) ?_
  exact bL_sufficientLimit_15 ⟨rfl, rfl, rfl⟩
theorem he_sufficientLimit_1 {p0 : Int32} (o : am_ob Γ 0 8) (h : am_E m_X8_sufficientLimit 280 1 6 [.ref 0, .int p0] Γ I L (.inr "java/lang/IndexOutOfBoundsException") I1 L1) : am_E m_L_sufficientLimit 281 1 6 [.ref 0, .int p0, .ref 463] Γ I L (.inl (some (.int (nn 1)))) I1 L1 := by
  refine am_ofEH rfl rfl rfl (Nat.le_of_ble_eq_true rfl) ?_
  refine bL_sufficientLimit_0c1 (d := 280) o (Nat.le_refl _) (Nat.le_refl _) h ?_
  exact bL_sufficientLimit_13 ⟨rfl, rfl, rfl⟩
theorem hx_sufficientLimit (W : wld G Γ) (R : REL I L) (p0 : Int32) : hX Γ I L m_L_sufficientLimit m_X9_sufficientLimit [.int p0] fI := by
  refine hX_of W (fX_sufficientLimit W.F R p0) (by decide) (fun _ _ _ h => ho_sufficientLimit W.ox W.a h) (fun i E hE I1 L1 h => ?_)
  match i, hE with
  | 0, hE =>
    obtain rfl : "java/lang/IndexOutOfBoundsException" = E := by simpa using hE
    exact he_sufficientLimit_1 W.ox h
  | i + 1, hE => simp at hE
theorem ho_quickestGate {p0 : Int32} (o : am_ob Γ 0 8) (a : am_ar Γ 463 4 1 0) {v : Int32} (h : am_E m_X8_quickestGate 280 1 6 [.ref 0, .int p0] Γ I L (.inl (some (.int v))) I1 L1) : am_E m_L_quickestGate 281 1 6 [.ref 0, .int p0, .ref 463] Γ I L (.inl (some (.int (nn 0)))) I1 (am_ul L1 463 0 (fI v)) := by
  refine am_ofEH rfl rfl rfl (Nat.le_of_ble_eq_true rfl) ?_
  refine bL_quickestGate_0 (d := 280) o (Nat.le_refl _) (Nat.le_refl _) h ?_
  refine bL_quickestGate_7 a (nn_in (k := 0) (by decide) (by decide)) ?_
  exact bL_quickestGate_15 ⟨rfl, rfl, rfl⟩
theorem he_quickestGate_1 {p0 : Int32} (o : am_ob Γ 0 8) (h : am_E m_X8_quickestGate 280 1 6 [.ref 0, .int p0] Γ I L (.inr "java/lang/IndexOutOfBoundsException") I1 L1) : am_E m_L_quickestGate 281 1 6 [.ref 0, .int p0, .ref 463] Γ I L (.inl (some (.int (nn 1)))) I1 L1 := by
  refine am_ofEH rfl rfl rfl (Nat.le_of_ble_eq_true rfl) ?_
  refine bL_quickestGate_0c1 (d := 280) o (Nat.le_refl _) (Nat.le_refl _) h ?_
  exact bL_quickestGate_13 ⟨rfl, rfl, rfl⟩
theorem hx_quickestGate (W : wld G Γ) (R : REL I L) (p0 : Int32) : hX Γ I L m_L_quickestGate m_X9_quickestGate [.int p0] fI := by
  refine hX_of W (fX_quickestGate W.F R p0) (by decide) (fun _ _ _ h => ho_quickestGate W.ox W.a h) (fun i E hE I1 L1 h => ?_)
  match i, hE with
  | 0, hE =>
    obtain rfl : "java/lang/IndexOutOfBoundsException" = E := by simpa using hE
    exact he_quickestGate_1 W.ox h
  | i + 1, hE => simp at hE
theorem ho_meanPathCost {p0 : Int32} (o : am_ob Γ 0 8) (a : am_ar Γ 464 5 1 0) {v : UInt64} (h : am_E m_X8_meanPathCost 280 1 6 [.ref 0, .int p0] Γ I L (.inl (some (.double v))) I1 L1) : am_E m_L_meanPathCost 281 1 6 [.ref 0, .int p0, .ref 464] Γ I L (.inl (some (.int (nn 0)))) I1 (am_ul L1 464 0 v.toInt64) := by
  refine am_ofEH rfl rfl rfl (Nat.le_of_ble_eq_true rfl) ?_
  refine bL_meanPathCost_0 (d := 280) o (Nat.le_refl _) (Nat.le_refl _) h ?_
  refine bL_meanPathCost_7 a (nn_in (k := 0) (by decide) (by decide)) ?_
  exact bL_meanPathCost_14 ⟨rfl, rfl, rfl⟩
theorem he_meanPathCost_1 {p0 : Int32} (o : am_ob Γ 0 8) (h : am_E m_X8_meanPathCost 280 1 6 [.ref 0, .int p0] Γ I L (.inr "java/lang/IndexOutOfBoundsException") I1 L1) : am_E m_L_meanPathCost 281 1 6 [.ref 0, .int p0, .ref 464] Γ I L (.inl (some (.int (nn 1)))) I1 L1 := by
  refine am_ofEH rfl rfl rfl (Nat.le_of_ble_eq_true rfl) ?_
  refine bL_meanPathCost_0c1 (d := 280) o (Nat.le_refl _) (Nat.le_refl _) h ?_
  exact bL_meanPathCost_12 ⟨rfl, rfl, rfl⟩
theorem hx_meanPathCost (W : wld G Γ) (R : REL I L) (p0 : Int32) : hXd Γ I L m_L_meanPathCost m_X9_meanPathCost [.int p0] := by
  refine hXd_of W (fX_meanPathCost W.F R p0) (by decide) (fun _ _ _ h => ho_meanPathCost W.ox W.b h) (fun i E hE I1 L1 h => ?_)
  match i, hE with
  | 0, hE =>
    obtain rfl : "java/lang/IndexOutOfBoundsException" = E := by simpa using hE
    exact he_meanPathCost_1 W.ox h
  | i + 1, hE => simp at hE
theorem ho_writeTree {p0 : Int32} (o : am_ob Γ 0 8) (a : am_ar Γ 463 4 1 0) {v : Int32} (h : am_E m_X8_writeTree 280 1 6 [.ref 0, .int p0] Γ I L (.inl (some (.int v))) I1 L1) : am_E m_L_writeTree 281 1 6 [.ref 0, .int p0, .ref 463] Γ I L (.inl (some (.int (nn 0)))) I1 (am_ul L1 463 0 (fI v)) := by
  refine am_ofEH rfl rfl rfl (Nat.le_of_ble_eq_true rfl) ?_
  refine bL_writeTree_0 (d := 280) o (Nat.le_refl _) (Nat.le_refl _) h ?_
  refine bL_writeTree_7 a (nn_in (k := 0) (by decide) (by decide)) ?_
  exact bL_writeTree_15 ⟨rfl, rfl, rfl⟩
theorem he_writeTree_1 {p0 : Int32} (o : am_ob Γ 0 8) (h : am_E m_X8_writeTree 280 1 6 [.ref 0, .int p0] Γ I L (.inr "java/lang/IndexOutOfBoundsException") I1 L1) : am_E m_L_writeTree 281 1 6 [.ref 0, .int p0, .ref 463] Γ I L (.inl (some (.int (nn 1)))) I1 L1 := by
  refine am_ofEH rfl rfl rfl (Nat.le_of_ble_eq_true rfl) ?_
  refine bL_writeTree_0c1 (d := 280) o (Nat.le_refl _) (Nat.le_refl _) h ?_
  exact bL_writeTree_13 ⟨rfl, rfl, rfl⟩
theorem hx_writeTree (W : wld G Γ) (R : REL I L) (p0 : Int32) : hX Γ I L m_L_writeTree m_X9_writeTree [.int p0] fI := by
  refine hX_of W (fX_writeTree W.F R p0) (by decide) (fun _ _ _ h => ho_writeTree W.ox W.a h) (fun i E hE I1 L1 h => ?_)
  match i, hE with
  | 0, hE =>
    obtain rfl : "java/lang/IndexOutOfBoundsException" = E := by simpa using hE
    exact he_writeTree_1 W.ox h
  | i + 1, hE => simp at hE
end LWK
