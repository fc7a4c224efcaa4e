/-! CALLS OF THE JDK'S CODE: the receiver's class is told, the method may stand in a class above; cells may be added -/
section JCA
variable {mi : am_M} {d mc ms : Nat} {al : Bool} {bc bs pc : Nat} {ls : List (Nat × Value)} {st rst : List Value} {Γ : am_G} {I : am_I} {L : am_L} {Q : am_Q}
variable {mi' : am_M} {mc' ms' n index : Nat} {as : List Value} {Q' : am_Q}
variable {p : Program} {l : Launch} {e : Env} {s : State} {m : MethodId} {args : Array Value} {below : List Frame} {meth : Method} {c : Code} {D : am_D} {A : Nat → Prop} {Γ0 : am_G} {x0 x : am_X} {H : Heap} {locs : List Loc} {cells slots : Nat} {la : Array Slot}
theorem am_C.gr {args : List Value} (h : am_C mi d mc ms false args Γ I L Q) : am_C mi d mc ms true args Γ I L (fun o G J M => G = Γ ∧ Q o G J M) := fun l hl D A x => by
  intro p e ha hcs hk s m av below hfr happ hP hK
  obtain ⟨N, oc, w1, w2, w3, hQ⟩ := h l hl D A x p e ha hcs hk s m av below hfr happ hP hK
  refine ⟨N, oc, w1, w2, w3, ?_⟩
  rcases hQ with ⟨⟨⟨v, Γ2, I2, L2, x2, q1, q2, ⟨rfl, rfl⟩, q4⟩, hF⟩, L9, hFE, hfree⟩ | ⟨q, q1, E, ce, L9, ⟨⟨Γ2, I2, L2, x2, q2, ⟨rfl, rfl⟩, q4⟩, hF⟩, t1, t2, t3, t4, t5, hfree⟩
  · exact Or.inl ⟨⟨⟨v, _, _, _, _, q1, ⟨rfl, q2⟩, am_agr.rf, q4⟩, hF⟩, L9, hFE, hfree⟩
  · exact Or.inr ⟨q, q1, E, ce, L9, ⟨⟨_, _, _, _, ⟨rfl, q2⟩, am_agr.rf, q4⟩, hF⟩, t1, t2, t3, t4, t5, hfree⟩
/-- the receiver's class, by its number -/
theorem am_rB {b ci : Nat} {r : vw_C} {C : String} {al' : Bool} (S : am_St mi p l s m args meth c D A) (h2 : am_B D A x Γ I L s H) (h3 : va_S A s.heap H locs) (h6 : lv_has la mi.2.2.1 (am_lc D x ls)) (hC : am_C mi' d mc' ms' al' (.ref b :: as) Γ I L Q') (hk : am_mk mi' n) (hl : Cond.methodLink mi.1.cls index mi'.1 ∈ am_Gl) (hin : Cond.instanceMethod mi'.1 ∈ am_Gl) (hse : Cond.selects C mi'.1 mi'.1 ∈ am_Gl) (ho : am_ob Γ b ci) (hr : vwCl[ci]? = some r) (hrn : r.1 = C)
    (hd : decode mi.2.1 pc = .ok (.invokevirtual index, 3)) (hst : st = as.reverse ++ .ref b :: rst) (hn : as.length = n) (hs : am_sz rst ≤ 8) (hf : cells + mc' ≤ mc ∧ slots + ms' ≤ ms) :
    vx_Run p l e (am_rm (d + 1) mc ms) s m args below meth c H locs cells slots mc' ms' (F0 m pc la (st.map (am_cv D x))) (rst.map (am_cv D x)) (am_Qc D A al' Γ x Q' ((Value.ref b :: as).map (am_cv D x)).toArray) (am_XC D A al' Γ x Q') A := by
  refine vx_runV (As := as.map (am_cv D x)) (b := x.1 b) (C := C) (am_fix S) (hC l S.2.2.2.2.2.2.2.2.2.1 D A x) ⟨am_cB S hk hl, S.2.2.2.2.2.2.1 _ hin, S.2.2.2.2.2.2.1 _ hse⟩ ⟨am_P_blind, ?_, am_PreOf (as := .ref b :: as) S h2 h3⟩ rfl (by rw [List.length_map]; exact hn) h6.1 (by rw [hst, List.map_append, List.map_reverse]; rfl) (am_hW hs) hd hf
  rw [← hrn]
  exact va_recv (S.K (tys := []) (fun _ _ h => by cases h)) h2.1 hr (am_ob_at ho)
/-- an overridden method: x is named, mi' is run -/
theorem am_rU {b ci : Nat} {r : vw_C} {C : String} {xn : MethodName} {b0 : ByteArray} {m0 : Nat} {r0 : Option FieldType} {al' : Bool} (S : am_St mi p l s m args meth c D A) (h2 : am_B D A x Γ I L s H) (h3 : va_S A s.heap H locs) (h6 : lv_has la mi.2.2.1 (am_lc D x ls)) (hC : am_C mi' d mc' ms' al' (.ref b :: as) Γ I L Q') (hk : am_mk mi' n) (hl : Cond.methodLink mi.1.cls index xn ∈ am_Gl) (hsm : Cond.sameMethod xn.cls xn.cls xn.name xn.desc ∈ am_Gl) (hix : Cond.instanceMethod xn ∈ am_Gl) (h0 : Cond.code xn b0 m0 r0 ∈ am_Gl) (hd2 : xn.cls ≠ "java/lang/invoke/MethodHandle" ∧ xn.cls ≠ "java/lang/invoke/VarHandle" ∧ (parseMethodDescriptor xn.desc).map (fun d => d.parameters.length) = some n) (hin : Cond.instanceMethod mi'.1 ∈ am_Gl) (hse : Cond.selects C xn mi'.1 ∈ am_Gl) (ho : am_ob Γ b ci) (hr : vwCl[ci]? = some r) (hrn : r.1 = C)
    (hd : decode mi.2.1 pc = .ok (.invokevirtual index, 3)) (hst : st = as.reverse ++ .ref b :: rst) (hn : as.length = n) (hs : am_sz rst ≤ 8) (hf : cells + mc' ≤ mc ∧ slots + ms' ≤ ms) :
    vx_Run p l e (am_rm (d + 1) mc ms) s m args below meth c H locs cells slots mc' ms' (F0 m pc la (st.map (am_cv D x))) (rst.map (am_cv D x)) (am_Qc D A al' Γ x Q' ((Value.ref b :: as).map (am_cv D x)).toArray) (am_XC D A al' Γ x Q') A := by
  obtain ⟨k1, k2, k3, k4, k5⟩ := id hk
  have hcw : va_CU (am_rm (d + 1) mc ms) s args mi.1.cls C xn.cls index xn mi'.1 mi'.2.1 mi'.2.2.1 mi'.2.2.2.1 (am_wd mi' :: am_Gl) (am_rm d mc' ms') mc' ms' n := by
    refine va_cwO n S.2.2.2.2.2.2.1 (fun w hw => ?_) (by rw [am_wd0 k5]) rfl rfl (b0 := b0) (m0 := m0) (r0 := r0) h0 hd2 ⟨by show d + 8 + 1 ≤ d + 1 + 8; omega, by show 8 + (mi'.2.2.1 + 11) + (60 * d + 400) ≤ 60 * (d + 1) + 400; omega⟩
    have hw2 : w = .methodLink mi.1.cls index xn ∨ w = .sameMethod xn.cls xn.cls xn.name xn.desc ∨ w = .instanceMethod xn ∨ w = .selects C xn mi'.1 ∨ w = .instanceMethod mi'.1 ∨ w = .initialized mi'.1.cls ∨ w = am_wd mi' ∨ w ∈ am_Gl := by
      have := hw
      simpa [va_wsO] using this
    rcases hw2 with h | h | h | h | h | h | h | h
    · rw [h]; exact am_Gl_good _ hl
    · rw [h]; exact am_Gl_good _ hsm
    · rw [h]; exact am_Gl_good _ hix
    · rw [h]; exact am_Gl_good _ hse
    · rw [h]; exact am_Gl_good _ hin
    · rw [h]; exact am_Gl_good _ k2
    · rw [h]; exact am_Gl_good _ k1
    · exact am_Gl_good _ h
  refine vx_runU (As := as.map (am_cv D x)) (b := x.1 b) (C := C) (am_fix S) (hC l S.2.2.2.2.2.2.2.2.2.1 D A x) hcw ⟨am_P_blind, ?_, am_PreOf (as := .ref b :: as) S h2 h3⟩ rfl (by rw [List.length_map]; exact hn) h6.1 (by rw [hst, List.map_append, List.map_reverse]; rfl) (am_hW hs) hd hf
  rw [← hrn]
  exact va_recv (S.K (tys := []) (fun _ _ h => by cases h)) h2.1 hr (am_ob_at ho)
/-- super.m(..) -/
theorem am_rSU {b ci : Nat} {r : vw_C} {al' : Bool} (S : am_St mi p l s m args meth c D A) (h2 : am_B D A x Γ I L s H) (h3 : va_S A s.heap H locs) (h6 : lv_has la mi.2.2.1 (am_lc D x ls)) (hC : am_C mi' d mc' ms' al' (.ref b :: as) Γ I L Q') (hk : am_mk mi' n) (hl : Cond.methodLink mi.1.cls index mi'.1 ∈ am_Gl) (hsm : Cond.sameMethod mi'.1.cls mi'.1.cls mi'.1.name mi'.1.desc ∈ am_Gl) (hsp : Cond.superclass mi.1.cls mi'.1.cls ∈ am_Gl) (hin : Cond.instanceMethod mi'.1 ∈ am_Gl) (hno : mi'.1.name ≠ "<init>") (ho : am_ob Γ b ci) (hr : vwCl[ci]? = some r)
    (hd : decode mi.2.1 pc = .ok (.invokespecial index, 3)) (hst : st = as.reverse ++ .ref b :: rst) (hn : as.length = n) (hs : am_sz rst ≤ 8) (hf : cells + mc' ≤ mc ∧ slots + ms' ≤ ms) :
    vx_Run p l e (am_rm (d + 1) mc ms) s m args below meth c H locs cells slots mc' ms' (F0 m pc la (st.map (am_cv D x))) (rst.map (am_cv D x)) (am_Qc D A al' Γ x Q' ((Value.ref b :: as).map (am_cv D x)).toArray) (am_XC D A al' Γ x Q') A := by
  obtain ⟨k1, k2, k3, k4, k5⟩ := id hk
  have hcw : va_CS (am_rm (d + 1) mc ms) s args mi.1.cls index mi'.1 mi'.2.1 mi'.2.2.1 mi'.2.2.2.1 (am_wd mi' :: am_Gl) (am_rm d mc' ms') mc' ms' n := by
    refine va_cwSU n S.2.2.2.2.2.2.1 (fun w hw => ?_) (by rw [am_wd0 k5]) rfl rfl ⟨hno, k3.2.2⟩ ⟨by show d + 8 + 1 ≤ d + 1 + 8; omega, by show 8 + (mi'.2.2.1 + 11) + (60 * d + 400) ≤ 60 * (d + 1) + 400; omega⟩
    have hw2 : w = .methodLink mi.1.cls index mi'.1 ∨ w = .sameMethod mi'.1.cls mi'.1.cls mi'.1.name mi'.1.desc ∨ w = .superclass mi.1.cls mi'.1.cls ∨ w = .instanceMethod mi'.1 ∨ w = .initialized mi'.1.cls ∨ w = am_wd mi' ∨ w ∈ am_Gl := by
      have := hw
      simpa [va_wsSU] using this
    rcases hw2 with h | h | h | h | h | h | h
    · rw [h]; exact am_Gl_good _ hl
    · rw [h]; exact am_Gl_good _ hsm
    · rw [h]; exact am_Gl_good _ hsp
    · rw [h]; exact am_Gl_good _ hin
    · rw [h]; exact am_Gl_good _ k2
    · rw [h]; exact am_Gl_good _ k1
    · exact am_Gl_good _ h
  refine vx_runSU (As := as.map (am_cv D x)) (b := x.1 b) (C := r.1) (S.2.2.2.2.2.2.2.2.2.2.2.1 ci r hr).2 (am_fix S) (hC l S.2.2.2.2.2.2.2.2.2.1 D A x) hcw ⟨am_P_blind, ?_, am_PreOf (as := .ref b :: as) S h2 h3⟩ rfl (by rw [List.length_map]; exact hn) h6.1 (by rw [hst, List.map_append, List.map_reverse]; rfl) (am_hW hs) hd hf
  exact va_recv (S.K (tys := []) (fun _ _ h => by cases h)) h2.1 hr (am_ob_at ho)
theorem aw_askB {b ci : Nat} {r : vw_C} {C : String} (hk : am_mk mi' n) (hl : Cond.methodLink mi.1.cls index mi'.1 ∈ am_Gl) (hin : Cond.instanceMethod mi'.1 ∈ am_Gl) (hse : Cond.selects C mi'.1 mi'.1 ∈ am_Gl) (hr : vwCl[ci]? = some r) (hrn : r.1 = C) (ho : am_ob Γ b ci) {v : Option Value} {I' : am_I} {L' : am_L} (hd : decode mi.2.1 pc = .ok (.invokevirtual index, 3)) (hn : as.length = n) (hs : am_sz rst ≤ 8) (hbc : mc' ≤ bc) (hbs : ms' ≤ bs) (hC : am_E mi' d mc' ms' (.ref b :: as) Γ I L (.inl v) I' L') {st' : List Value} (hst : st = as.reverse ++ .ref b :: rst) (hst' : v.toList ++ rst = st')
    (kk : am_W mi (d + 1) mc ms al (bc - mc') (bs - ms') (pc + 3) ls st' Γ I' L' Q) : am_W mi (d + 1) mc ms al bc bs pc ls st Γ I L Q := by
  intro p l e s m args below meth c D A Γ0 x0 S x H locs cells slots la h1 h2 h3 h4 h5 h6
  subst hst
  subst hst'
  refine am_goes (bc := bc - mc') (bs := bs - ms') S h1 h3 (by omega) (by omega) h6 (am_rB S h2 h3 h6 hC hk hl hin hse ho hr hrn hd rfl hn hs ⟨by omega, by omega⟩) (am_same S h1 h6) (fun v9 Γ' I9 L9 x' hq hag => ?_) (fun E ce q H1 locs1 Γ' I9 L9 x' hq hag hb g3 hce hcv hcl => ?_)
  · obtain ⟨rfl, rfl⟩ := hag
    obtain ⟨e1, rfl, rfl⟩ := hq
    cases e1
    exact kk
  · exact absurd hq.1 (fun z => nomatch z)
theorem aw_askU {b ci : Nat} {r : vw_C} {C : String} {xn : MethodName} {b0 : ByteArray} {m0 : Nat} {r0 : Option FieldType} (hk : am_mk mi' n) (hl : Cond.methodLink mi.1.cls index xn ∈ am_Gl) (hsm : Cond.sameMethod xn.cls xn.cls xn.name xn.desc ∈ am_Gl) (hix : Cond.instanceMethod xn ∈ am_Gl) (h0 : Cond.code xn b0 m0 r0 ∈ am_Gl) (hd2 : xn.cls ≠ "java/lang/invoke/MethodHandle" ∧ xn.cls ≠ "java/lang/invoke/VarHandle" ∧ (parseMethodDescriptor xn.desc).map (fun d => d.parameters.length) = some n) (hin : Cond.instanceMethod mi'.1 ∈ am_Gl) (hse : Cond.selects C xn mi'.1 ∈ am_Gl) (hr : vwCl[ci]? = some r) (hrn : r.1 = C) (ho : am_ob Γ b ci) {v : Option Value} {I' : am_I} {L' : am_L} (hd : decode mi.2.1 pc = .ok (.invokevirtual index, 3)) (hn : as.length = n) (hs : am_sz rst ≤ 8) (hbc : mc' ≤ bc) (hbs : ms' ≤ bs) (hC : am_E mi' d mc' ms' (.ref b :: as) Γ I L (.inl v) I' L') {st' : List Value} (hst : st = as.reverse ++ .ref b :: rst) (hst' : v.toList ++ rst = st')
    (kk : am_W mi (d + 1) mc ms al (bc - mc') (bs - ms') (pc + 3) ls st' Γ I' L' Q) : am_W mi (d + 1) mc ms al bc bs pc ls st Γ I L Q := by
  intro p l e s m args below meth c D A Γ0 x0 S x H locs cells slots la h1 h2 h3 h4 h5 h6
  subst hst
  subst hst'
  refine am_goes (bc := bc - mc') (bs := bs - ms') S h1 h3 (by omega) (by omega) h6 (am_rU S h2 h3 h6 hC hk hl hsm hix h0 hd2 hin hse ho hr hrn hd rfl hn hs ⟨by omega, by omega⟩) (am_same S h1 h6) (fun v9 Γ' I9 L9 x' hq hag => ?_) (fun E ce q H1 locs1 Γ' I9 L9 x' hq hag hb g3 hce hcv hcl => ?_)
  · obtain ⟨rfl, rfl⟩ := hag
    obtain ⟨e1, rfl, rfl⟩ := hq
    cases e1
    exact kk
  · exact absurd hq.1 (fun z => nomatch z)
theorem aw_askSU {b ci : Nat} {r : vw_C} (hk : am_mk mi' n) (hl : Cond.methodLink mi.1.cls index mi'.1 ∈ am_Gl) (hsm : Cond.sameMethod mi'.1.cls mi'.1.cls mi'.1.name mi'.1.desc ∈ am_Gl) (hsp : Cond.superclass mi.1.cls mi'.1.cls ∈ am_Gl) (hin : Cond.instanceMethod mi'.1 ∈ am_Gl) (hno : mi'.1.name ≠ "<init>") (hr : vwCl[ci]? = some r) (ho : am_ob Γ b ci) {v : Option Value} {I' : am_I} {L' : am_L} (hd : decode mi.2.1 pc = .ok (.invokespecial index, 3)) (hn : as.length = n) (hs : am_sz rst ≤ 8) (hbc : mc' ≤ bc) (hbs : ms' ≤ bs) (hC : am_E mi' d mc' ms' (.ref b :: as) Γ I L (.inl v) I' L') {st' : List Value} (hst : st = as.reverse ++ .ref b :: rst) (hst' : v.toList ++ rst = st')
    (kk : am_W mi (d + 1) mc ms al (bc - mc') (bs - ms') (pc + 3) ls st' Γ I' L' Q) : am_W mi (d + 1) mc ms al bc bs pc ls st Γ I L Q := by
  intro p l e s m args below meth c D A Γ0 x0 S x H locs cells slots la h1 h2 h3 h4 h5 h6
  subst hst
  subst hst'
  refine am_goes (bc := bc - mc') (bs := bs - ms') S h1 h3 (by omega) (by omega) h6 (am_rSU S h2 h3 h6 hC hk hl hsm hsp hin hno ho hr hd rfl hn hs ⟨by omega, by omega⟩) (am_same S h1 h6) (fun v9 Γ' I9 L9 x' hq hag => ?_) (fun E ce q H1 locs1 Γ' I9 L9 x' hq hag hb g3 hce hcv hcl => ?_)
  · obtain ⟨rfl, rfl⟩ := hag
    obtain ⟨e1, rfl, rfl⟩ := hq
    cases e1
    exact kk
  · exact absurd hq.1 (fun z => nomatch z)
/-- the same with cells added -/
theorem aw_grB {b ci : Nat} {r : vw_C} {C : String} (hk : am_mk mi' n) (hl : Cond.methodLink mi.1.cls index mi'.1 ∈ am_Gl) (hin : Cond.instanceMethod mi'.1 ∈ am_Gl) (hse : Cond.selects C mi'.1 mi'.1 ∈ am_Gl) (hr : vwCl[ci]? = some r) (hrn : r.1 = C) (ho : am_ob Γ b ci) (hd : decode mi.2.1 pc = .ok (.invokevirtual index, 3)) (hn : as.length = n) (hs : am_sz rst ≤ 8) (hbc : mc' ≤ bc) (hbs : ms' ≤ bs) (hC : am_C mi' d mc' ms' true (.ref b :: as) Γ I L Q') (hst : st = as.reverse ++ .ref b :: rst) (hls : ∀ q ∈ ls, am_ok Γ q.2) (hrs : ∀ v ∈ rst, am_ok Γ v) (hno : ∀ E G J M, ¬ Q' (.inr E) G J M)
    (kk : ∀ v Γ' I' L', Q' (.inl v) Γ' I' L' → am_W mi (d + 1) mc ms true (bc - mc') (bs - ms') (pc + 3) ls (v.toList ++ rst) Γ' I' L' Q) : am_W mi (d + 1) mc ms true bc bs pc ls st Γ I L Q := by
  intro p l e s m args below meth c D A Γ0 x0 S x H locs cells slots la h1 h2 h3 h4 h5 h6
  subst hst
  exact am_goes (bc := bc - mc') (bs := bs - ms') S h1 h3 (by omega) (by omega) h6 (am_rB S h2 h3 h6 hC hk hl hin hse ho hr hrn hd rfl hn hs ⟨by omega, by omega⟩) (am_more S h1 h6 hls hrs) (fun v Γ' I' L' x' hq hag => kk v Γ' I' L' hq) (fun E ce q H1 locs1 Γ' I9 L9 x' hq hag hb g3 hce hcv hcl => absurd hq (hno _ _ _ _))
theorem aw_grU {b ci : Nat} {r : vw_C} {C : String} {xn : MethodName} {b0 : ByteArray} {m0 : Nat} {r0 : Option FieldType} (hk : am_mk mi' n) (hl : Cond.methodLink mi.1.cls index xn ∈ am_Gl) (hsm : Cond.sameMethod xn.cls xn.cls xn.name xn.desc ∈ am_Gl) (hix : Cond.instanceMethod xn ∈ am_Gl) (h0 : Cond.code xn b0 m0 r0 ∈ am_Gl) (hd2 : xn.cls ≠ "java/lang/invoke/MethodHandle" ∧ xn.cls ≠ "java/lang/invoke/VarHandle" ∧ (parseMethodDescriptor xn.desc).map (fun d => d.parameters.length) = some n) (hin : Cond.instanceMethod mi'.1 ∈ am_Gl) (hse : Cond.selects C xn mi'.1 ∈ am_Gl) (hr : vwCl[ci]? = some r) (hrn : r.1 = C) (ho : am_ob Γ b ci) (hd : decode mi.2.1 pc = .ok (.invokevirtual index, 3)) (hn : as.length = n) (hs : am_sz rst ≤ 8) (hbc : mc' ≤ bc) (hbs : ms' ≤ bs) (hC : am_C mi' d mc' ms' true (.ref b :: as) Γ I L Q') (hst : st = as.reverse ++ .ref b :: rst) (hls : ∀ q ∈ ls, am_ok Γ q.2) (hrs : ∀ v ∈ rst, am_ok Γ v) (hno : ∀ E G J M, ¬ Q' (.inr E) G J M)
    (kk : ∀ v Γ' I' L', Q' (.inl v) Γ' I' L' → am_W mi (d + 1) mc ms true (bc - mc') (bs - ms') (pc + 3) ls (v.toList ++ rst) Γ' I' L' Q) : am_W mi (d + 1) mc ms true bc bs pc ls st Γ I L Q := by
  intro p l e s m args below meth c D A Γ0 x0 S x H locs cells slots la h1 h2 h3 h4 h5 h6
  subst hst
  exact am_goes (bc := bc - mc') (bs := bs - ms') S h1 h3 (by omega) (by omega) h6 (am_rU S h2 h3 h6 hC hk hl hsm hix h0 hd2 hin hse ho hr hrn hd rfl hn hs ⟨by omega, by omega⟩) (am_more S h1 h6 hls hrs) (fun v Γ' I' L' x' hq hag => kk v Γ' I' L' hq) (fun E ce q H1 locs1 Γ' I9 L9 x' hq hag hb g3 hce hcv hcl => absurd hq (hno _ _ _ _))
theorem aw_grSU {b ci : Nat} {r : vw_C} (hk : am_mk mi' n) (hl : Cond.methodLink mi.1.cls index mi'.1 ∈ am_Gl) (hsm : Cond.sameMethod mi'.1.cls mi'.1.cls mi'.1.name mi'.1.desc ∈ am_Gl) (hsp : Cond.superclass mi.1.cls mi'.1.cls ∈ am_Gl) (hin : Cond.instanceMethod mi'.1 ∈ am_Gl) (hni : mi'.1.name ≠ "<init>") (hr : vwCl[ci]? = some r) (ho : am_ob Γ b ci) (hd : decode mi.2.1 pc = .ok (.invokespecial index, 3)) (hn : as.length = n) (hs : am_sz rst ≤ 8) (hbc : mc' ≤ bc) (hbs : ms' ≤ bs) (hC : am_C mi' d mc' ms' true (.ref b :: as) Γ I L Q') (hst : st = as.reverse ++ .ref b :: rst) (hls : ∀ q ∈ ls, am_ok Γ q.2) (hrs : ∀ v ∈ rst, am_ok Γ v) (hno : ∀ E G J M, ¬ Q' (.inr E) G J M)
    (kk : ∀ v Γ' I' L', Q' (.inl v) Γ' I' L' → am_W mi (d + 1) mc ms true (bc - mc') (bs - ms') (pc + 3) ls (v.toList ++ rst) Γ' I' L' Q) : am_W mi (d + 1) mc ms true bc bs pc ls st Γ I L Q := by
  intro p l e s m args below meth c D A Γ0 x0 S x H locs cells slots la h1 h2 h3 h4 h5 h6
  subst hst
  exact am_goes (bc := bc - mc') (bs := bs - ms') S h1 h3 (by omega) (by omega) h6 (am_rSU S h2 h3 h6 hC hk hl hsm hsp hin hni ho hr hd rfl hn hs ⟨by omega, by omega⟩) (am_more S h1 h6 hls hrs) (fun v Γ' I' L' x' hq hag => kk v Γ' I' L' hq) (fun E ce q H1 locs1 Γ' I9 L9 x' hq hag hb g3 hce hcv hcl => absurd hq (hno _ _ _ _))
theorem aw_grS (hk : am_mk mi' n) (hl : Cond.methodLink mi.1.cls index mi'.1 ∈ am_Gl) (hsa : Cond.static mi'.1 ∈ am_Gl) (hd : decode mi.2.1 pc = .ok (.invokestatic index, 3)) (hn : as.length = n) (hs : am_sz rst ≤ 8) (hbc : mc' ≤ bc) (hbs : ms' ≤ bs) (hC : am_C mi' d mc' ms' true as Γ I L Q') (hst : st = as.reverse ++ rst) (hls : ∀ q ∈ ls, am_ok Γ q.2) (hrs : ∀ v ∈ rst, am_ok Γ v) (hno : ∀ E G J M, ¬ Q' (.inr E) G J M)
    (kk : ∀ v Γ' I' L', Q' (.inl v) Γ' I' L' → am_W mi (d + 1) mc ms true (bc - mc') (bs - ms') (pc + 3) ls (v.toList ++ rst) Γ' I' L' Q) : am_W mi (d + 1) mc ms true bc bs pc ls st Γ I L Q := by
  intro p l e s m args below meth c D A Γ0 x0 S x H locs cells slots la h1 h2 h3 h4 h5 h6
  subst hst
  exact am_goes (bc := bc - mc') (bs := bs - ms') S h1 h3 (by omega) (by omega) h6 (am_rS S h2 h3 h6 hC hk hl hsa hd rfl hn hs ⟨by omega, by omega⟩) (am_more S h1 h6 hls hrs) (fun v Γ' I' L' x' hq hag => kk v Γ' I' L' hq) (fun E ce q H1 locs1 Γ' I9 L9 x' hq hag hb g3 hce hcv hcl => absurd hq (hno _ _ _ _))
theorem aw_grI {b : Nat} (hk : am_mk mi' n) (hl : Cond.methodLink mi.1.cls index mi'.1 ∈ am_Gl) (hin : Cond.instanceMethod mi'.1 ∈ am_Gl) (hi : mi'.1.name = "<init>") (hr0 : mi'.2.2.2.1 = none) (hd : decode mi.2.1 pc = .ok (.invokespecial index, 3)) (hn : as.length = n) (hs : am_sz rst ≤ 8) (hbc : mc' ≤ bc) (hbs : ms' ≤ bs) (hC : am_C mi' d mc' ms' true (.ref b :: as) Γ I L Q') (hst : st = as.reverse ++ .ref b :: rst) (hls : ∀ q ∈ ls, am_ok Γ q.2) (hrs : ∀ v ∈ rst, am_ok Γ v) (hno : ∀ E G J M, ¬ Q' (.inr E) G J M)
    (kk : ∀ v Γ' I' L', Q' (.inl v) Γ' I' L' → am_W mi (d + 1) mc ms true (bc - mc') (bs - ms') (pc + 3) ls (v.toList ++ rst) Γ' I' L' Q) : am_W mi (d + 1) mc ms true bc bs pc ls st Γ I L Q := by
  intro p l e s m args below meth c D A Γ0 x0 S x H locs cells slots la h1 h2 h3 h4 h5 h6
  subst hst
  exact am_goes (bc := bc - mc') (bs := bs - ms') S h1 h3 (by omega) (by omega) h6 (am_rI S h2 h3 h6 hC hk hl hin hi hr0 hd rfl hn hs ⟨by omega, by omega⟩) (am_more S h1 h6 hls hrs) (fun v Γ' I' L' x' hq hag => kk v Γ' I' L' hq) (fun E ce q H1 locs1 Γ' I9 L9 x' hq hag hb g3 hce hcv hcl => absurd hq (hno _ _ _ _))
end JCA
