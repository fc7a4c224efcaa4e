/-! RULES OF THE NUMBERED MACHINE: a wide constant; the script -/
section AWZ
variable {mi : am_M} {d mc ms : Nat} {al : Bool} {bc bs pc : Nat} {ls : List (Nat × Value)} {st rst : List Value} {Γ : am_G} {I : am_I} {L : am_L} {Q : am_Q}
theorem aw_ldcW {k : Nat} {v : Int32} (hd : decode mi.2.1 pc = .ok (.ldc_w k, 3)) (hw : Jvm.Cond.constant mi.1.cls k v ∈ am_Gl) (kk : am_W mi d mc ms al bc bs (pc + 3) ls (.int v :: st) Γ I L Q) : am_W mi d mc ms al bc bs pc ls st Γ I L Q := by
  intro p l e s m args below meth c D A Γ0 x0 S x H locs cells slots la h1 h2 h3 h4 h5 h6
  exact lv_ldcw S.1 S.2.1 S.2.2.2.2.2.1 (S.2.2.2.2.2.2.1 _ hw) hd (kk _ _ _ _ _ _ _ _ _ _ _ _ _ S _ _ _ _ _ _ h1 h2 h3 h4 h5 h6)
/-- the law's script: .retAddr 60, of n ints xs -/
theorem aw_sld {n : Nat} {xs : Nat → Int32} {j : Int32} (hsc : mi.2.2.2.2.2 = some (n, xs)) (hd : decode mi.2.1 pc = .ok (.iaload, 1)) (hj : vp_in j n) (kk : am_W mi d mc ms al bc bs (pc + 1) ls (.int (xs j.toNatClampNeg) :: st) Γ I L Q) : am_W mi d mc ms al bc bs pc ls (.int j :: .retAddr 60 :: st) Γ I L Q := by
  intro p l e s m args below meth c D A Γ0 x0 S x H locs cells slots la h1 h2 h3 h4 h5 h6
  exact va_ti S.1 S.2.1 (S.2.2.2.2.2.2.2.2.2.2.1.2 n xs hsc) h3 hj rfl hd (kk _ _ _ _ _ _ _ _ _ _ _ _ _ S _ _ _ _ _ _ h1 h2 h3 h4 h5 h6)
theorem aw_slen {n : Nat} {xs : Nat → Int32} {v : Int32} (hsc : mi.2.2.2.2.2 = some (n, xs)) (hd : decode mi.2.1 pc = .ok (.arraylength, 1)) (hv : Int32.ofNat n = v) (kk : am_W mi d mc ms al bc bs (pc + 1) ls (.int v :: st) Γ I L Q) : am_W mi d mc ms al bc bs pc ls (.retAddr 60 :: st) Γ I L Q := by
  intro p l e s m args below meth c D A Γ0 x0 S x H locs cells slots la h1 h2 h3 h4 h5 h6
  exact va_tlen S.1 S.2.1 (S.2.2.2.2.2.2.2.2.2.2.1.2 n xs hsc) h3 hv hd (kk _ _ _ _ _ _ _ _ _ _ _ _ _ S _ _ _ _ _ _ h1 h2 h3 h4 h5 h6)
/-- a contract with one answer, out of a body -/
theorem am_ofE {args : List Value} {o : am_O} {I' : am_I} {L' : am_L} (hy : plainName mi.1.cls = true) (ht : mi.2.2.2.2.1 = []) (hsc : mi.2.2.2.2.2 = none) (hn : am_sz args ≤ mi.2.2.1)
    (h : am_W mi d mc ms false mc ms 0 (lv_args 0 args) [] Γ I L (am_R o I' L')) : am_E mi d mc ms args Γ I L o I' L' := am_of hy ht hsc hn h
theorem am_R_i (o : am_O) (I' : am_I) (L' : am_L) : am_R o I' L' o Γ I' L' := ⟨rfl, rfl, rfl⟩
end AWZ
