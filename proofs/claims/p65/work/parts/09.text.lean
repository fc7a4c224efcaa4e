/-! RULES OF THE NUMBERED MACHINE: texts, and calls with an answer that is one -/
section AWT
variable {mi : am_M} {d mc ms : Nat} {al : Bool} {bc bs pc : Nat} {ls : List (Nat × Value)} {st rst : List Value} {Γ : am_G} {I : am_I} {L : am_L} {Q : am_Q}
variable {mi' : am_M} {mc' ms' n index : Nat} {as : List Value}
theorem aw_getTV {k i : Nat} (hd : decode mi.2.1 pc = .ok (.getfield k, 3)) (hl : Cond.fieldLink mi.1.cls k "java/lang/String" "value" "[B" ∈ am_Gl) (hi : i < am_sn) (kk : am_W mi d mc ms al bc bs (pc + 3) ls (.retAddr (100 + i) :: st) Γ I L Q) : am_W mi d mc ms al bc bs pc ls (.retAddr i :: st) Γ I L Q := by
  intro p l e s m args below meth c D A Γ0 x0 S x H locs cells slots la h1 h2 h3 h4 h5 h6
  have hts := S.2.2.2.2.2.2.1
  have hSx := S.2.2.2.2.2.2.2.2.2.2.2
  exact vk_getf S.1 S.2.1 (hSx.2.2.2.2.2.2.1.2.1.1 i hi).2.2.1 h3 S.2.2.2.2.2.1 (hts _ hl) (fun _ h => h) hd (kk p l e s m args below meth c D A Γ0 x0 S x H locs cells slots la h1 h2 h3 h4 h5 h6)
theorem aw_getTC {k i : Nat} (hd : decode mi.2.1 pc = .ok (.getfield k, 3)) (hl : Cond.fieldLink mi.1.cls k "java/lang/String" "coder" "B" ∈ am_Gl) (hi : i < am_sn) (kk : am_W mi d mc ms al bc bs (pc + 3) ls (.int 0 :: st) Γ I L Q) : am_W mi d mc ms al bc bs pc ls (.retAddr i :: st) Γ I L Q := by
  intro p l e s m args below meth c D A Γ0 x0 S x H locs cells slots la h1 h2 h3 h4 h5 h6
  have hts := S.2.2.2.2.2.2.1
  have hSx := S.2.2.2.2.2.2.2.2.2.2.2
  exact vk_getf S.1 S.2.1 (hSx.2.2.2.2.2.2.1.2.1.1 i hi).2.1 h3 S.2.2.2.2.2.1 (hts _ hl) (fun _ h => h) hd (kk p l e s m args below meth c D A Γ0 x0 S x H locs cells slots la h1 h2 h3 h4 h5 h6)
theorem aw_lenT {i : Nat} {v : Int32} (hd : decode mi.2.1 pc = .ok (.arraylength, 1)) (hi : i < am_sn) (hv : Int32.ofNat (am_sl.getD i 0) = v) (kk : am_W mi d mc ms al bc bs (pc + 1) ls (.int v :: st) Γ I L Q) : am_W mi d mc ms al bc bs pc ls (.retAddr (100 + i) :: st) Γ I L Q := by
  intro p l e s m args below meth c D A Γ0 x0 S x H locs cells slots la h1 h2 h3 h4 h5 h6
  have hts := S.2.2.2.2.2.2.1
  have hSx := S.2.2.2.2.2.2.2.2.2.2.2
  exact va_tlen S.1 S.2.1 (hSx.2.2.2.2.2.2.1.2.1.1 i hi).2.2.2 h3 hv hd (kk p l e s m args below meth c D A Γ0 x0 S x H locs cells slots la h1 h2 h3 h4 h5 h6)
theorem aw_baldT {i : Nat} {j : Int32} (hd : decode mi.2.1 pc = .ok (.baload, 1)) (hi : i < am_sn) (hj : vp_in j (am_sl.getD i 0)) (kk : am_W mi d mc ms al bc bs (pc + 1) ls (.int ((am_sb.getD i []).getD j.toNatClampNeg 0) :: st) Γ I L Q) : am_W mi d mc ms al bc bs pc ls (.int j :: .retAddr (100 + i) :: st) Γ I L Q := by
  intro p l e s m args below meth c D A Γ0 x0 S x H locs cells slots la h1 h2 h3 h4 h5 h6
  have hts := S.2.2.2.2.2.2.1
  have hSx := S.2.2.2.2.2.2.2.2.2.2.2
  exact va_tb S.1 S.2.1 (hSx.2.2.2.2.2.2.1.2.1.1 i hi).2.2.2 h3 hj rfl hd (kk p l e s m args below meth c D A Γ0 x0 S x H locs cells slots la h1 h2 h3 h4 h5 h6)
theorem aw_getsC {k : Nat} (hd : decode mi.2.1 pc = .ok (.getstatic k, 3)) (hl : Cond.fieldLink mi.1.cls k "java/lang/String" "COMPACT_STRINGS" "Z" ∈ am_Gl) (kk : am_W mi d mc ms al bc bs (pc + 3) ls (.int 1 :: st) Γ I L Q) : am_W mi d mc ms al bc bs pc ls st Γ I L Q := by
  intro p l e s m args below meth c D A Γ0 x0 S x H locs cells slots la h1 h2 h3 h4 h5 h6
  have hts := S.2.2.2.2.2.2.1
  have hSx := S.2.2.2.2.2.2.2.2.2.2.2
  exact va_gets S.1 S.2.1 hSx.2.2.2.2.2.2.1.1 h3 S.2.2.2.2.2.1 (hts _ hl) (fun _ h => h) hd (kk p l e s m args below meth c D A Γ0 x0 S x H locs cells slots la h1 h2 h3 h4 h5 h6)
theorem aw_getsF {k : Nat} (hd : decode mi.2.1 pc = .ok (.getstatic k, 3)) (hl : Cond.fieldLink mi.1.cls k "jdk/internal/util/Preconditions" "SIOOBE_FORMATTER" "Ljava/util/function/BiFunction;" ∈ am_Gl) (kk : ∀ v : Value, v.category = 1 → am_W mi d mc ms al bc bs (pc + 3) ls (v :: st) Γ I L Q) : am_W mi d mc ms al bc bs pc ls st Γ I L Q := by
  intro p l e s m args below meth c D A Γ0 x0 S x H locs cells slots la h1 h2 h3 h4 h5 h6
  have hts := S.2.2.2.2.2.2.1
  have hSx := S.2.2.2.2.2.2.2.2.2.2.2
  rcases hSx.2.2.2.2.2.2.1.2.2 with h | h
  · exact va_gets S.1 S.2.1 h h3 S.2.2.2.2.2.1 (hts _ hl) (fun _ h => h) hd (kk .null rfl p l e s m args below meth c D A Γ0 x0 S x H locs cells slots la h1 h2 h3 h4 h5 h6)
  · exact va_gets S.1 S.2.1 h h3 S.2.2.2.2.2.1 (hts _ hl) (fun _ h => h) hd (kk (.retAddr 51) rfl p l e s m args below meth c D A Γ0 x0 S x H locs cells slots la h1 h2 h3 h4 h5 h6)
/-- A CONTRACT WITH ONE ANSWER: the call comes to the end o over the cells (I', L') -/
def am_E (mi : am_M) (d mc ms : Nat) (args : List Value) (Γ : am_G) (I : am_I) (L : am_L) (o : am_O) (I' : am_I) (L' : am_L) : Prop := am_C mi d mc ms false args Γ I L (fun o2 _ I2 L2 => o2 = o ∧ I2 = I' ∧ L2 = L')
def am_R (o : am_O) (I' : am_I) (L' : am_L) : am_Q := fun o2 _ I2 L2 => o2 = o ∧ I2 = I' ∧ L2 = L'
/-- a text's method -/
theorem am_rVT {p : Program} {l : Launch} {e : Env} {s : State} {m : MethodId} {args : Array Value} {below : List Frame} {meth : Method} {c : Code} {D : am_D} {A : Nat → Prop} {x : am_X} {H : Heap} {locs : List Loc} {cells slots : Nat} {la : Array Slot} {Q' : am_Q} {i : Nat} (S : am_St mi p l s m args meth c D A) (h2 : am_B D A x Γ I L s H) (h3 : va_S A s.heap H locs) (h6 : lv_has la mi.2.2.1 (am_lc D x ls)) (hC : am_C mi' d mc' ms' false (.retAddr i :: as) Γ I L Q') (hk : am_mk mi' n) (hl : Cond.methodLink mi.1.cls index mi'.1 ∈ am_Gl) (hin : Cond.instanceMethod mi'.1 ∈ am_Gl) (hse : Cond.selects mi'.1.cls mi'.1 mi'.1 ∈ am_Gl) (hcn : mi'.1.cls = "java/lang/String") (hi : i < am_sn)
    (hd : decode mi.2.1 pc = .ok (.invokevirtual index, 3)) (hst : st = as.reverse ++ .retAddr i :: rst) (hn : as.length = n) (hs : am_sz rst ≤ 8) (hf : cells + mc' ≤ mc ∧ slots + ms' ≤ ms) :
    vx_Run p l e (am_rm (d + 1) mc ms) s m args below meth c H locs cells slots mc' ms' (F0 m pc la (st.map (am_cv D x))) (rst.map (am_cv D x)) (am_Qc D A false Γ x Q' ((Value.retAddr i :: as).map (am_cv D x)).toArray) (am_XC D A false Γ x Q') A := by
  refine vx_runV (As := as.map (am_cv D x)) (b := D.2 i) (C := mi'.1.cls) (am_fix S) (hC l S.2.2.2.2.2.2.2.2.2.1 D A x) ⟨am_cB S hk hl, S.2.2.2.2.2.2.1 _ hin, S.2.2.2.2.2.2.1 _ hse⟩ ⟨am_P_blind, ?_, am_PreOf (as := .retAddr i :: as) S h2 h3⟩ rfl (by rw [List.length_map]; exact hn) h6.1 (by rw [hst, List.map_append, List.map_reverse]; rfl) (am_hW hs) hd hf
  rw [hcn]
  have hSx := S.2.2.2.2.2.2.2.2.2.2.2
  exact vk_recv hSx.2.2.2.2.2.2.1.2.1 hi h3
/-- a call that answers -/
theorem aw_askV {b ci : Nat} (hk : am_mk mi' n) (hl : Cond.methodLink mi.1.cls index mi'.1 ∈ am_Gl) (hin : Cond.instanceMethod mi'.1 ∈ am_Gl) (hse : Cond.selects mi'.1.cls mi'.1 mi'.1 ∈ am_Gl) (hcn : am_cn ci = mi'.1.cls) (ho : am_ob Γ b ci) {v : Option Value} {I' : am_I} {L' : am_L} (hd : decode mi.2.1 pc = .ok (.invokevirtual index, 3)) (hn : as.length = n) (hs : am_sz rst ≤ 8) (hbc : mc' ≤ bc) (hbs : ms' ≤ bs) (hC : am_E mi' d mc' ms' (.ref b :: as) Γ I L (.inl v) I' L') {st' : List Value} (hst : st = as.reverse ++ .ref b :: rst) (hst' : v.toList ++ rst = st')
    (kk : am_W mi (d + 1) mc ms al (bc - mc') (bs - ms') (pc + 3) ls st' Γ I' L' Q) : am_W mi (d + 1) mc ms al bc bs pc ls st Γ I L Q := by
  intro p l e s m args below meth c D A Γ0 x0 S x H locs cells slots la h1 h2 h3 h4 h5 h6
  subst hst
  subst hst'
  refine am_goes (bc := bc - mc') (bs := bs - ms') S h1 h3 (by omega) (by omega) h6 (am_rV S h2 h3 h6 hC hk hl hin hse ho hcn hd rfl hn hs ⟨by omega, by omega⟩) (am_same S h1 h6) (fun v9 Γ' I9 L9 x' hq hag => ?_) (fun E ce q H1 locs1 Γ' I9 L9 x' hq hag hb g3 hce hcv hcl => ?_)
  · obtain ⟨rfl, rfl⟩ := hag
    obtain ⟨e1, rfl, rfl⟩ := hq
    cases e1
    exact kk
  · exact absurd hq.1 (fun z => nomatch z)
/-- a call that throws, and nothing catches it here -/
theorem aw_fallV {b ci : Nat} (hk : am_mk mi' n) (hl : Cond.methodLink mi.1.cls index mi'.1 ∈ am_Gl) (hin : Cond.instanceMethod mi'.1 ∈ am_Gl) (hse : Cond.selects mi'.1.cls mi'.1 mi'.1 ∈ am_Gl) (hcn : am_cn ci = mi'.1.cls) (ho : am_ob Γ b ci) {E : String} {I' : am_I} {L' : am_L} (hd : decode mi.2.1 pc = .ok (.invokevirtual index, 3)) (hn : as.length = n) (hs : am_sz rst ≤ 8) (hbc : mc' ≤ bc) (hbs : ms' ≤ bs) (ht : mi.2.2.2.2.1 = []) (hC : am_E mi' d mc' ms' (.ref b :: as) Γ I L (.inr E) I' L') (hst : st = as.reverse ++ .ref b :: rst)
    (hq : Q (.inr E) Γ I' L') : am_W mi (d + 1) mc ms al bc bs pc ls st Γ I L Q := by
  intro p l e s m args below meth c D A Γ0 x0 S x H locs cells slots la h1 h2 h3 h4 h5 h6
  subst hst
  refine am_goes (bc := bc - mc') (bs := bs - ms') S h1 h3 (by omega) (by omega) h6 (am_rV S h2 h3 h6 hC hk hl hin hse ho hcn hd rfl hn hs ⟨by omega, by omega⟩) (am_same S h1 h6) (fun v9 Γ' I9 L9 x' hq hag => ?_) (fun E9 ce q H1 locs1 Γ' I9 L9 x' hq9 hag hb g3 hce hcv hcl => ?_)
  · exact absurd hq.1 (fun z => nomatch z)
  · obtain ⟨rfl, rfl⟩ := hag
    obtain ⟨e1, rfl, rfl⟩ := hq9
    cases e1
    exact am_thru S ht h1 hq hb g3 (by omega) (by omega) hce hcv hcl
/-- a call that throws, caught by a row of this method's own table: the thrown object is put into the local k and forgotten -/
theorem aw_catchV {b ci : Nat} (hk : am_mk mi' n) (hl : Cond.methodLink mi.1.cls index mi'.1 ∈ am_Gl) (hin : Cond.instanceMethod mi'.1 ∈ am_Gl) (hse : Cond.selects mi'.1.cls mi'.1 mi'.1 ∈ am_Gl) (hcn : am_cn ci = mi'.1.cls) (ho : am_ob Γ b ci) {E nm : String} {I' : am_I} {L' : am_L} (hd : decode mi.2.1 pc = .ok (.invokevirtual index, 3)) (hn : as.length = n) (hs : am_sz rst ≤ 8) (hbc : mc' ≤ bc) (hbs : ms' ≤ bs) (hC : am_E mi' d mc' ms' (.ref b :: as) Γ I L (.inr E) I' L') (hst : st = as.reverse ++ .ref b :: rst)
    (pre : List (Nat × Nat × Nat × Nat)) (h9 : Nat × Nat × Nat × Nat) (suf : List (Nat × Nat × Nat × Nat)) (hsp : mi.2.2.2.2.1 = pre ++ h9 :: suf) (hpass : ∀ z ∈ pre, z.2.2.2 ≠ 0 ∧ ∃ n2, Cond.classLink mi.1.cls z.2.2.2 n2 ∈ am_Gl ∧ (E, n2) ∈ am_nc) (hcov : covers ⟨h9.1, h9.2.1, h9.2.2.1, h9.2.2.2⟩ pc = true) (h0 : h9.2.2.2 ≠ 0) (hlink : Cond.classLink mi.1.cls h9.2.2.2 nm ∈ am_Gl) (hcast : Cond.castable E nm ∈ am_Nl)
    {k len : Nat} {ls' : List (Nat × Value)} (hk9 : (∃ kf : Fin 4, (kf : Nat) = k ∧ decode mi.2.1 h9.2.2.1 = .ok (.astore_n kf, 1) ∧ len = 1) ∨ (decode mi.2.1 h9.2.2.1 = .ok (.astore k, 2) ∧ len = 2)) (hn9 : k < mi.2.2.1) (hls : ∀ q ∈ ls', q ∈ ls.filter (am_f1 k))
    (kk : am_W mi (d + 1) mc ms al (bc - mc') (bs - ms') (h9.2.2.1 + len) ls' [] Γ I' L' Q) : am_W mi (d + 1) mc ms al bc bs pc ls st Γ I L Q := by
  intro p l e s m args below meth c D A Γ0 x0 S x H locs cells slots la h1 h2 h3 h4 h5 h6
  have hts := S.2.2.2.2.2.2.1
  have hSx := S.2.2.2.2.2.2.2.2.2.2.2
  subst hst
  refine am_goes (bc := bc - mc') (bs := bs - ms') S h1 h3 (by omega) (by omega) h6 (am_rV S h2 h3 h6 hC hk hl hin hse ho hcn hd rfl hn hs ⟨by omega, by omega⟩) (am_same S h1 h6) (fun v9 Γ' I9 L9 x' hq hag => ?_) (fun E9 ce q H1 locs1 Γ' I9 L9 x' hq9 hag hb g3 hce hcv hcl => ?_)
  · exact absurd hq.1 (fun z => nomatch z)
  · obtain ⟨rfl, rfl⟩ := hag
    obtain ⟨e1, rfl, rfl⟩ := hq9
    cases e1
    refine vx_catch S.2.2.2.2.2.1 (tableOf pre) ⟨h9.1, h9.2.1, h9.2.2.1, h9.2.2.2⟩ (tableOf suf) (by rw [S.2.2.2.2.1, hsp]; unfold tableOf; rw [List.map_append]; rfl) (fun z hz => ?_) hcov h0 (hts _ hlink) (am_Nl_use hSx hcast) hce hcv hcl ?_
    · obtain ⟨z0, hz0, rfl⟩ := List.mem_map.mp hz
      obtain ⟨q1, n2, q2, q3⟩ := hpass z0 hz0
      exact Or.inr ⟨q1, n2, hts _ q2, hSx.2.2.2.2.2.1 _ q3⟩
    · have fin : ∀ (la' : Array Slot), lv_has la' mi.2.2.1 ((k, Value.ref q) :: (am_lc D x' ls).filter (fun q => !(q.1 == k) && !(q.1 + 1 == k && q.2.category == 2))) → lv_has la' mi.2.2.1 (am_lc D x' ls') := by
        intro la' h'
        refine am_sub h' (fun z hz => ?_)
        obtain ⟨z0, hz0, rfl⟩ := List.mem_map.mp hz
        obtain ⟨r1, r2⟩ := List.mem_filter.mp (hls z0 hz0)
        refine List.mem_cons_of_mem _ (List.mem_filter.mpr ⟨am_lc_mem r1, ?_⟩)
        show (!(z0.1 == k) && !(z0.1 + 1 == k && (am_cv D x' z0.2).category == 2)) = true
        rw [am_cat]
        exact r2
      rcases hk9 with ⟨kf, hkf, hdk, rfl⟩ | ⟨hdk, rfl⟩
      · exact lv_astore_n S.1 S.2.1 hdk hkf h6 hn9 rfl (fun la' h' => kk p l e s m args below meth c D A _ _ S x' H1 locs1 _ _ la' h1 hb g3 (by omega) (by omega) (fin la' h'))
      · exact lv_astore S.1 S.2.1 hdk h6 hn9 rfl (fun la' h' => kk p l e s m args below meth c D A _ _ S x' H1 locs1 _ _ la' h1 hb g3 (by omega) (by omega) (fin la' h'))
/-- a call that answers -/
theorem aw_askT {b : Nat} (hk : am_mk mi' n) (hl : Cond.methodLink mi.1.cls index mi'.1 ∈ am_Gl) (hin : Cond.instanceMethod mi'.1 ∈ am_Gl) (hse : Cond.selects mi'.1.cls mi'.1 mi'.1 ∈ am_Gl) (hcn : mi'.1.cls = "java/lang/String") (hi : b < am_sn) {v : Option Value} {I' : am_I} {L' : am_L} (hd : decode mi.2.1 pc = .ok (.invokevirtual index, 3)) (hn : as.length = n) (hs : am_sz rst ≤ 8) (hbc : mc' ≤ bc) (hbs : ms' ≤ bs) (hC : am_E mi' d mc' ms' (.retAddr b :: as) Γ I L (.inl v) I' L') {st' : List Value} (hst : st = as.reverse ++ .retAddr b :: rst) (hst' : v.toList ++ rst = st')
    (kk : am_W mi (d + 1) mc ms al (bc - mc') (bs - ms') (pc + 3) ls st' Γ I' L' Q) : am_W mi (d + 1) mc ms al bc bs pc ls st Γ I L Q := by
  intro p l e s m args below meth c D A Γ0 x0 S x H locs cells slots la h1 h2 h3 h4 h5 h6
  subst hst
  subst hst'
  refine am_goes (bc := bc - mc') (bs := bs - ms') S h1 h3 (by omega) (by omega) h6 (am_rVT S h2 h3 h6 hC hk hl hin hse hcn hi hd rfl hn hs ⟨by omega, by omega⟩) (am_same S h1 h6) (fun v9 Γ' I9 L9 x' hq hag => ?_) (fun E ce q H1 locs1 Γ' I9 L9 x' hq hag hb g3 hce hcv hcl => ?_)
  · obtain ⟨rfl, rfl⟩ := hag
    obtain ⟨e1, rfl, rfl⟩ := hq
    cases e1
    exact kk
  · exact absurd hq.1 (fun z => nomatch z)
/-- a call that throws, and nothing catches it here -/
theorem aw_fallT {b : Nat} (hk : am_mk mi' n) (hl : Cond.methodLink mi.1.cls index mi'.1 ∈ am_Gl) (hin : Cond.instanceMethod mi'.1 ∈ am_Gl) (hse : Cond.selects mi'.1.cls mi'.1 mi'.1 ∈ am_Gl) (hcn : mi'.1.cls = "java/lang/String") (hi : b < am_sn) {E : String} {I' : am_I} {L' : am_L} (hd : decode mi.2.1 pc = .ok (.invokevirtual index, 3)) (hn : as.length = n) (hs : am_sz rst ≤ 8) (hbc : mc' ≤ bc) (hbs : ms' ≤ bs) (ht : mi.2.2.2.2.1 = []) (hC : am_E mi' d mc' ms' (.retAddr b :: as) Γ I L (.inr E) I' L') (hst : st = as.reverse ++ .retAddr b :: rst)
    (hq : Q (.inr E) Γ I' L') : am_W mi (d + 1) mc ms al bc bs pc ls st Γ I L Q := by
  intro p l e s m args below meth c D A Γ0 x0 S x H locs cells slots la h1 h2 h3 h4 h5 h6
  subst hst
  refine am_goes (bc := bc - mc') (bs := bs - ms') S h1 h3 (by omega) (by omega) h6 (am_rVT S h2 h3 h6 hC hk hl hin hse hcn hi hd rfl hn hs ⟨by omega, by omega⟩) (am_same S h1 h6) (fun v9 Γ' I9 L9 x' hq hag => ?_) (fun E9 ce q H1 locs1 Γ' I9 L9 x' hq9 hag hb g3 hce hcv hcl => ?_)
  · exact absurd hq.1 (fun z => nomatch z)
  · obtain ⟨rfl, rfl⟩ := hag
    obtain ⟨e1, rfl, rfl⟩ := hq9
    cases e1
    exact am_thru S ht h1 hq hb g3 (by omega) (by omega) hce hcv hcl
/-- a call that throws, caught by a row of this method's own table: the thrown object is put into the local k and forgotten -/
theorem aw_catchT {b : Nat} (hk : am_mk mi' n) (hl : Cond.methodLink mi.1.cls index mi'.1 ∈ am_Gl) (hin : Cond.instanceMethod mi'.1 ∈ am_Gl) (hse : Cond.selects mi'.1.cls mi'.1 mi'.1 ∈ am_Gl) (hcn : mi'.1.cls = "java/lang/String") (hi : b < am_sn) {E nm : String} {I' : am_I} {L' : am_L} (hd : decode mi.2.1 pc = .ok (.invokevirtual index, 3)) (hn : as.length = n) (hs : am_sz rst ≤ 8) (hbc : mc' ≤ bc) (hbs : ms' ≤ bs) (hC : am_E mi' d mc' ms' (.retAddr b :: as) Γ I L (.inr E) I' L') (hst : st = as.reverse ++ .retAddr b :: rst)
    (pre : List (Nat × Nat × Nat × Nat)) (h9 : Nat × Nat × Nat × Nat) (suf : List (Nat × Nat × Nat × Nat)) (hsp : mi.2.2.2.2.1 = pre ++ h9 :: suf) (hpass : ∀ z ∈ pre, z.2.2.2 ≠ 0 ∧ ∃ n2, Cond.classLink mi.1.cls z.2.2.2 n2 ∈ am_Gl ∧ (E, n2) ∈ am_nc) (hcov : covers ⟨h9.1, h9.2.1, h9.2.2.1, h9.2.2.2⟩ pc = true) (h0 : h9.2.2.2 ≠ 0) (hlink : Cond.classLink mi.1.cls h9.2.2.2 nm ∈ am_Gl) (hcast : Cond.castable E nm ∈ am_Nl)
    {k len : Nat} {ls' : List (Nat × Value)} (hk9 : (∃ kf : Fin 4, (kf : Nat) = k ∧ decode mi.2.1 h9.2.2.1 = .ok (.astore_n kf, 1) ∧ len = 1) ∨ (decode mi.2.1 h9.2.2.1 = .ok (.astore k, 2) ∧ len = 2)) (hn9 : k < mi.2.2.1) (hls : ∀ q ∈ ls', q ∈ ls.filter (am_f1 k))
    (kk : am_W mi (d + 1) mc ms al (bc - mc') (bs - ms') (h9.2.2.1 + len) ls' [] Γ I' L' Q) : am_W mi (d + 1) mc ms al bc bs pc ls st Γ I L Q := by
  intro p l e s m args below meth c D A Γ0 x0 S x H locs cells slots la h1 h2 h3 h4 h5 h6
  have hts := S.2.2.2.2.2.2.1
  have hSx := S.2.2.2.2.2.2.2.2.2.2.2
  subst hst
  refine am_goes (bc := bc - mc') (bs := bs - ms') S h1 h3 (by omega) (by omega) h6 (am_rVT S h2 h3 h6 hC hk hl hin hse hcn hi hd rfl hn hs ⟨by omega, by omega⟩) (am_same S h1 h6) (fun v9 Γ' I9 L9 x' hq hag => ?_) (fun E9 ce q H1 locs1 Γ' I9 L9 x' hq9 hag hb g3 hce hcv hcl => ?_)
  · exact absurd hq.1 (fun z => nomatch z)
  · obtain ⟨rfl, rfl⟩ := hag
    obtain ⟨e1, rfl, rfl⟩ := hq9
    cases e1
    refine vx_catch S.2.2.2.2.2.1 (tableOf pre) ⟨h9.1, h9.2.1, h9.2.2.1, h9.2.2.2⟩ (tableOf suf) (by rw [S.2.2.2.2.1, hsp]; unfold tableOf; rw [List.map_append]; rfl) (fun z hz => ?_) hcov h0 (hts _ hlink) (am_Nl_use hSx hcast) hce hcv hcl ?_
    · obtain ⟨z0, hz0, rfl⟩ := List.mem_map.mp hz
      obtain ⟨q1, n2, q2, q3⟩ := hpass z0 hz0
      exact Or.inr ⟨q1, n2, hts _ q2, hSx.2.2.2.2.2.1 _ q3⟩
    · have fin : ∀ (la' : Array Slot), lv_has la' mi.2.2.1 ((k, Value.ref q) :: (am_lc D x' ls).filter (fun q => !(q.1 == k) && !(q.1 + 1 == k && q.2.category == 2))) → lv_has la' mi.2.2.1 (am_lc D x' ls') := by
        intro la' h'
        refine am_sub h' (fun z hz => ?_)
        obtain ⟨z0, hz0, rfl⟩ := List.mem_map.mp hz
        obtain ⟨r1, r2⟩ := List.mem_filter.mp (hls z0 hz0)
        refine List.mem_cons_of_mem _ (List.mem_filter.mpr ⟨am_lc_mem r1, ?_⟩)
        show (!(z0.1 == k) && !(z0.1 + 1 == k && (am_cv D x' z0.2).category == 2)) = true
        rw [am_cat]
        exact r2
      rcases hk9 with ⟨kf, hkf, hdk, rfl⟩ | ⟨hdk, rfl⟩
      · exact lv_astore_n S.1 S.2.1 hdk hkf h6 hn9 rfl (fun la' h' => kk p l e s m args below meth c D A _ _ S x' H1 locs1 _ _ la' h1 hb g3 (by omega) (by omega) (fin la' h'))
      · exact lv_astore S.1 S.2.1 hdk h6 hn9 rfl (fun la' h' => kk p l e s m args below meth c D A _ _ S x' H1 locs1 _ _ la' h1 hb g3 (by omega) (by omega) (fin la' h'))
/-- a call that answers -/
theorem aw_askS (hk : am_mk mi' n) (hl : Cond.methodLink mi.1.cls index mi'.1 ∈ am_Gl) (hsa : Cond.static mi'.1 ∈ am_Gl) {v : Option Value} {I' : am_I} {L' : am_L} (hd : decode mi.2.1 pc = .ok (.invokestatic index, 3)) (hn : as.length = n) (hs : am_sz rst ≤ 8) (hbc : mc' ≤ bc) (hbs : ms' ≤ bs) (hC : am_E mi' d mc' ms' as Γ I L (.inl v) I' L') {st' : List Value} (hst : st = as.reverse ++ rst) (hst' : v.toList ++ rst = st')
    (kk : am_W mi (d + 1) mc ms al (bc - mc') (bs - ms') (pc + 3) ls st' Γ I' L' Q) : am_W mi (d + 1) mc ms al bc bs pc ls st Γ I L Q := by
  intro p l e s m args below meth c D A Γ0 x0 S x H locs cells slots la h1 h2 h3 h4 h5 h6
  subst hst
  subst hst'
  refine am_goes (bc := bc - mc') (bs := bs - ms') S h1 h3 (by omega) (by omega) h6 (am_rS S h2 h3 h6 hC hk hl hsa hd rfl hn hs ⟨by omega, by omega⟩) (am_same S h1 h6) (fun v9 Γ' I9 L9 x' hq hag => ?_) (fun E ce q H1 locs1 Γ' I9 L9 x' hq hag hb g3 hce hcv hcl => ?_)
  · obtain ⟨rfl, rfl⟩ := hag
    obtain ⟨e1, rfl, rfl⟩ := hq
    cases e1
    exact kk
  · exact absurd hq.1 (fun z => nomatch z)
/-- a call that throws, and nothing catches it here -/
theorem aw_fallS (hk : am_mk mi' n) (hl : Cond.methodLink mi.1.cls index mi'.1 ∈ am_Gl) (hsa : Cond.static mi'.1 ∈ am_Gl) {E : String} {I' : am_I} {L' : am_L} (hd : decode mi.2.1 pc = .ok (.invokestatic index, 3)) (hn : as.length = n) (hs : am_sz rst ≤ 8) (hbc : mc' ≤ bc) (hbs : ms' ≤ bs) (ht : mi.2.2.2.2.1 = []) (hC : am_E mi' d mc' ms' as Γ I L (.inr E) I' L') (hst : st = as.reverse ++ rst)
    (hq : Q (.inr E) Γ I' L') : am_W mi (d + 1) mc ms al bc bs pc ls st Γ I L Q := by
  intro p l e s m args below meth c D A Γ0 x0 S x H locs cells slots la h1 h2 h3 h4 h5 h6
  subst hst
  refine am_goes (bc := bc - mc') (bs := bs - ms') S h1 h3 (by omega) (by omega) h6 (am_rS S h2 h3 h6 hC hk hl hsa hd rfl hn hs ⟨by omega, by omega⟩) (am_same S h1 h6) (fun v9 Γ' I9 L9 x' hq hag => ?_) (fun E9 ce q H1 locs1 Γ' I9 L9 x' hq9 hag hb g3 hce hcv hcl => ?_)
  · exact absurd hq.1 (fun z => nomatch z)
  · obtain ⟨rfl, rfl⟩ := hag
    obtain ⟨e1, rfl, rfl⟩ := hq9
    cases e1
    exact am_thru S ht h1 hq hb g3 (by omega) (by omega) hce hcv hcl
/-- a call that throws, caught by a row of this method's own table: the thrown object is put into the local k and forgotten -/
theorem aw_catchS (hk : am_mk mi' n) (hl : Cond.methodLink mi.1.cls index mi'.1 ∈ am_Gl) (hsa : Cond.static mi'.1 ∈ am_Gl) {E nm : String} {I' : am_I} {L' : am_L} (hd : decode mi.2.1 pc = .ok (.invokestatic index, 3)) (hn : as.length = n) (hs : am_sz rst ≤ 8) (hbc : mc' ≤ bc) (hbs : ms' ≤ bs) (hC : am_E mi' d mc' ms' as Γ I L (.inr E) I' L') (hst : st = as.reverse ++ rst)
    (pre : List (Nat × Nat × Nat × Nat)) (h9 : Nat × Nat × Nat × Nat) (suf : List (Nat × Nat × Nat × Nat)) (hsp : mi.2.2.2.2.1 = pre ++ h9 :: suf) (hpass : ∀ z ∈ pre, z.2.2.2 ≠ 0 ∧ ∃ n2, Cond.classLink mi.1.cls z.2.2.2 n2 ∈ am_Gl ∧ (E, n2) ∈ am_nc) (hcov : covers ⟨h9.1, h9.2.1, h9.2.2.1, h9.2.2.2⟩ pc = true) (h0 : h9.2.2.2 ≠ 0) (hlink : Cond.classLink mi.1.cls h9.2.2.2 nm ∈ am_Gl) (hcast : Cond.castable E nm ∈ am_Nl)
    {k len : Nat} {ls' : List (Nat × Value)} (hk9 : (∃ kf : Fin 4, (kf : Nat) = k ∧ decode mi.2.1 h9.2.2.1 = .ok (.astore_n kf, 1) ∧ len = 1) ∨ (decode mi.2.1 h9.2.2.1 = .ok (.astore k, 2) ∧ len = 2)) (hn9 : k < mi.2.2.1) (hls : ∀ q ∈ ls', q ∈ ls.filter (am_f1 k))
    (kk : am_W mi (d + 1) mc ms al (bc - mc') (bs - ms') (h9.2.2.1 + len) ls' [] Γ I' L' Q) : am_W mi (d + 1) mc ms al bc bs pc ls st Γ I L Q := by
  intro p l e s m args below meth c D A Γ0 x0 S x H locs cells slots la h1 h2 h3 h4 h5 h6
  have hts := S.2.2.2.2.2.2.1
  have hSx := S.2.2.2.2.2.2.2.2.2.2.2
  subst hst
  refine am_goes (bc := bc - mc') (bs := bs - ms') S h1 h3 (by omega) (by omega) h6 (am_rS S h2 h3 h6 hC hk hl hsa hd rfl hn hs ⟨by omega, by omega⟩) (am_same S h1 h6) (fun v9 Γ' I9 L9 x' hq hag => ?_) (fun E9 ce q H1 locs1 Γ' I9 L9 x' hq9 hag hb g3 hce hcv hcl => ?_)
  · exact absurd hq.1 (fun z => nomatch z)
  · obtain ⟨rfl, rfl⟩ := hag
    obtain ⟨e1, rfl, rfl⟩ := hq9
    cases e1
    refine vx_catch S.2.2.2.2.2.1 (tableOf pre) ⟨h9.1, h9.2.1, h9.2.2.1, h9.2.2.2⟩ (tableOf suf) (by rw [S.2.2.2.2.1, hsp]; unfold tableOf; rw [List.map_append]; rfl) (fun z hz => ?_) hcov h0 (hts _ hlink) (am_Nl_use hSx hcast) hce hcv hcl ?_
    · obtain ⟨z0, hz0, rfl⟩ := List.mem_map.mp hz
      obtain ⟨q1, n2, q2, q3⟩ := hpass z0 hz0
      exact Or.inr ⟨q1, n2, hts _ q2, hSx.2.2.2.2.2.1 _ q3⟩
    · have fin : ∀ (la' : Array Slot), lv_has la' mi.2.2.1 ((k, Value.ref q) :: (am_lc D x' ls).filter (fun q => !(q.1 == k) && !(q.1 + 1 == k && q.2.category == 2))) → lv_has la' mi.2.2.1 (am_lc D x' ls') := by
        intro la' h'
        refine am_sub h' (fun z hz => ?_)
        obtain ⟨z0, hz0, rfl⟩ := List.mem_map.mp hz
        obtain ⟨r1, r2⟩ := List.mem_filter.mp (hls z0 hz0)
        refine List.mem_cons_of_mem _ (List.mem_filter.mpr ⟨am_lc_mem r1, ?_⟩)
        show (!(z0.1 == k) && !(z0.1 + 1 == k && (am_cv D x' z0.2).category == 2)) = true
        rw [am_cat]
        exact r2
      rcases hk9 with ⟨kf, hkf, hdk, rfl⟩ | ⟨hdk, rfl⟩
      · exact lv_astore_n S.1 S.2.1 hdk hkf h6 hn9 rfl (fun la' h' => kk p l e s m args below meth c D A _ _ S x' H1 locs1 _ _ la' h1 hb g3 (by omega) (by omega) (fin la' h'))
      · exact lv_astore S.1 S.2.1 hdk h6 hn9 rfl (fun la' h' => kk p l e s m args below meth c D A _ _ S x' H1 locs1 _ _ la' h1 hb g3 (by omega) (by omega) (fin la' h'))
/-- a call that answers -/
theorem aw_askN {host : String} (hk : am_mk mi' n) (hl : Cond.methodLinkNest mi.1.cls index mi'.1 host ∈ am_Nl) (hsa : Cond.static mi'.1 ∈ am_Gl) {v : Option Value} {I' : am_I} {L' : am_L} (hd : decode mi.2.1 pc = .ok (.invokestatic index, 3)) (hn : as.length = n) (hs : am_sz rst ≤ 8) (hbc : mc' ≤ bc) (hbs : ms' ≤ bs) (hC : am_E mi' d mc' ms' as Γ I L (.inl v) I' L') {st' : List Value} (hst : st = as.reverse ++ rst) (hst' : v.toList ++ rst = st')
    (kk : am_W mi (d + 1) mc ms al (bc - mc') (bs - ms') (pc + 3) ls st' Γ I' L' Q) : am_W mi (d + 1) mc ms al bc bs pc ls st Γ I L Q := by
  intro p l e s m args below meth c D A Γ0 x0 S x H locs cells slots la h1 h2 h3 h4 h5 h6
  subst hst
  subst hst'
  refine am_goes (bc := bc - mc') (bs := bs - ms') S h1 h3 (by omega) (by omega) h6 (am_rSN S h2 h3 h6 hC hk hl hsa hd rfl hn hs ⟨by omega, by omega⟩) (am_same S h1 h6) (fun v9 Γ' I9 L9 x' hq hag => ?_) (fun E ce q H1 locs1 Γ' I9 L9 x' hq hag hb g3 hce hcv hcl => ?_)
  · obtain ⟨rfl, rfl⟩ := hag
    obtain ⟨e1, rfl, rfl⟩ := hq
    cases e1
    exact kk
  · exact absurd hq.1 (fun z => nomatch z)
/-- a call that throws, and nothing catches it here -/
theorem aw_fallN {host : String} (hk : am_mk mi' n) (hl : Cond.methodLinkNest mi.1.cls index mi'.1 host ∈ am_Nl) (hsa : Cond.static mi'.1 ∈ am_Gl) {E : String} {I' : am_I} {L' : am_L} (hd : decode mi.2.1 pc = .ok (.invokestatic index, 3)) (hn : as.length = n) (hs : am_sz rst ≤ 8) (hbc : mc' ≤ bc) (hbs : ms' ≤ bs) (ht : mi.2.2.2.2.1 = []) (hC : am_E mi' d mc' ms' as Γ I L (.inr E) I' L') (hst : st = as.reverse ++ rst)
    (hq : Q (.inr E) Γ I' L') : am_W mi (d + 1) mc ms al bc bs pc ls st Γ I L Q := by
  intro p l e s m args below meth c D A Γ0 x0 S x H locs cells slots la h1 h2 h3 h4 h5 h6
  subst hst
  refine am_goes (bc := bc - mc') (bs := bs - ms') S h1 h3 (by omega) (by omega) h6 (am_rSN S h2 h3 h6 hC hk hl hsa hd rfl hn hs ⟨by omega, by omega⟩) (am_same S h1 h6) (fun v9 Γ' I9 L9 x' hq hag => ?_) (fun E9 ce q H1 locs1 Γ' I9 L9 x' hq9 hag hb g3 hce hcv hcl => ?_)
  · exact absurd hq.1 (fun z => nomatch z)
  · obtain ⟨rfl, rfl⟩ := hag
    obtain ⟨e1, rfl, rfl⟩ := hq9
    cases e1
    exact am_thru S ht h1 hq hb g3 (by omega) (by omega) hce hcv hcl
/-- a call that throws, caught by a row of this method's own table: the thrown object is put into the local k and forgotten -/
theorem aw_catchN {host : String} (hk : am_mk mi' n) (hl : Cond.methodLinkNest mi.1.cls index mi'.1 host ∈ am_Nl) (hsa : Cond.static mi'.1 ∈ am_Gl) {E nm : String} {I' : am_I} {L' : am_L} (hd : decode mi.2.1 pc = .ok (.invokestatic index, 3)) (hn : as.length = n) (hs : am_sz rst ≤ 8) (hbc : mc' ≤ bc) (hbs : ms' ≤ bs) (hC : am_E mi' d mc' ms' as Γ I L (.inr E) I' L') (hst : st = as.reverse ++ rst)
    (pre : List (Nat × Nat × Nat × Nat)) (h9 : Nat × Nat × Nat × Nat) (suf : List (Nat × Nat × Nat × Nat)) (hsp : mi.2.2.2.2.1 = pre ++ h9 :: suf) (hpass : ∀ z ∈ pre, z.2.2.2 ≠ 0 ∧ ∃ n2, Cond.classLink mi.1.cls z.2.2.2 n2 ∈ am_Gl ∧ (E, n2) ∈ am_nc) (hcov : covers ⟨h9.1, h9.2.1, h9.2.2.1, h9.2.2.2⟩ pc = true) (h0 : h9.2.2.2 ≠ 0) (hlink : Cond.classLink mi.1.cls h9.2.2.2 nm ∈ am_Gl) (hcast : Cond.castable E nm ∈ am_Nl)
    {k len : Nat} {ls' : List (Nat × Value)} (hk9 : (∃ kf : Fin 4, (kf : Nat) = k ∧ decode mi.2.1 h9.2.2.1 = .ok (.astore_n kf, 1) ∧ len = 1) ∨ (decode mi.2.1 h9.2.2.1 = .ok (.astore k, 2) ∧ len = 2)) (hn9 : k < mi.2.2.1) (hls : ∀ q ∈ ls', q ∈ ls.filter (am_f1 k))
    (kk : am_W mi (d + 1) mc ms al (bc - mc') (bs - ms') (h9.2.2.1 + len) ls' [] Γ I' L' Q) : am_W mi (d + 1) mc ms al bc bs pc ls st Γ I L Q := by
  intro p l e s m args below meth c D A Γ0 x0 S x H locs cells slots la h1 h2 h3 h4 h5 h6
  have hts := S.2.2.2.2.2.2.1
  have hSx := S.2.2.2.2.2.2.2.2.2.2.2
  subst hst
  refine am_goes (bc := bc - mc') (bs := bs - ms') S h1 h3 (by omega) (by omega) h6 (am_rSN S h2 h3 h6 hC hk hl hsa hd rfl hn hs ⟨by omega, by omega⟩) (am_same S h1 h6) (fun v9 Γ' I9 L9 x' hq hag => ?_) (fun E9 ce q H1 locs1 Γ' I9 L9 x' hq9 hag hb g3 hce hcv hcl => ?_)
  · exact absurd hq.1 (fun z => nomatch z)
  · obtain ⟨rfl, rfl⟩ := hag
    obtain ⟨e1, rfl, rfl⟩ := hq9
    cases e1
    refine vx_catch S.2.2.2.2.2.1 (tableOf pre) ⟨h9.1, h9.2.1, h9.2.2.1, h9.2.2.2⟩ (tableOf suf) (by rw [S.2.2.2.2.1, hsp]; unfold tableOf; rw [List.map_append]; rfl) (fun z hz => ?_) hcov h0 (hts _ hlink) (am_Nl_use hSx hcast) hce hcv hcl ?_
    · obtain ⟨z0, hz0, rfl⟩ := List.mem_map.mp hz
      obtain ⟨q1, n2, q2, q3⟩ := hpass z0 hz0
      exact Or.inr ⟨q1, n2, hts _ q2, hSx.2.2.2.2.2.1 _ q3⟩
    · have fin : ∀ (la' : Array Slot), lv_has la' mi.2.2.1 ((k, Value.ref q) :: (am_lc D x' ls).filter (fun q => !(q.1 == k) && !(q.1 + 1 == k && q.2.category == 2))) → lv_has la' mi.2.2.1 (am_lc D x' ls') := by
        intro la' h'
        refine am_sub h' (fun z hz => ?_)
        obtain ⟨z0, hz0, rfl⟩ := List.mem_map.mp hz
        obtain ⟨r1, r2⟩ := List.mem_filter.mp (hls z0 hz0)
        refine List.mem_cons_of_mem _ (List.mem_filter.mpr ⟨am_lc_mem r1, ?_⟩)
        show (!(z0.1 == k) && !(z0.1 + 1 == k && (am_cv D x' z0.2).category == 2)) = true
        rw [am_cat]
        exact r2
      rcases hk9 with ⟨kf, hkf, hdk, rfl⟩ | ⟨hdk, rfl⟩
      · exact lv_astore_n S.1 S.2.1 hdk hkf h6 hn9 rfl (fun la' h' => kk p l e s m args below meth c D A _ _ S x' H1 locs1 _ _ la' h1 hb g3 (by omega) (by omega) (fin la' h'))
      · exact lv_astore S.1 S.2.1 hdk h6 hn9 rfl (fun la' h' => kk p l e s m args below meth c D A _ _ S x' H1 locs1 _ _ la' h1 hb g3 (by omega) (by omega) (fin la' h'))
end AWT
