/-! RULES OF THE NUMBERED MACHINE: a shift without sign -/
def iush (y z : Int32) : Int32 := (y.toUInt32 >>> (z.toUInt32 &&& Int32.toUInt32 31)).toInt32
section AWU
variable {mi : am_M} {d mc ms : Nat} {al : Bool} {bc bs pc : Nat} {ls : List (Nat × Value)} {st rst : List Value} {Γ : am_G} {I : am_I} {L : am_L} {Q : am_Q}
theorem aw_iushr {y z : Int32} (hd : decode mi.2.1 pc = .ok (.iushr, 1)) (kk : am_W mi d mc ms al bc bs (pc + 1) ls (.int (iush y z) :: st) Γ I L Q) : am_W mi d mc ms al bc bs pc ls (.int z :: .int y :: st) Γ I L Q := by
  intro p l e s m args below meth c D A Γ0 x0 S x H locs cells slots la h1 h2 h3 h4 h5 h6
  exact lv_iushr S.1 S.2.1 hd rfl (kk _ _ _ _ _ _ _ _ _ _ _ _ _ S _ _ _ _ _ _ h1 h2 h3 h4 h5 h6)
end AWU
/-! A STATIC METHOD WITH HANDLERS IS CALLED -/
section AKW
variable {mi mi' : am_M} {d mc ms mc' ms' bc bs pc index n : Nat} {al : Bool} {ls : List (Nat × Value)} {st rst as : List Value} {Γ : am_G} {I : am_I} {L : am_L} {Q : am_Q}
theorem aw_askSW (hk : am_wd mi' ∈ am_Gl ∧ Cond.initialized mi'.1.cls ∈ am_Gl ∧ (mi'.1.cls ≠ "java/lang/invoke/MethodHandle" ∧ mi'.1.cls ≠ "java/lang/invoke/VarHandle" ∧ (parseMethodDescriptor mi'.1.desc).map (fun d => d.parameters.length) = some n)) (hm : mi'.2.2.1 ≤ 40) {h0 : Nat × Nat × Nat × Nat} {hh : List (Nat × Nat × Nat × Nat)} (ht : mi'.2.2.2.2.1 = h0 :: hh)
    (hl : Cond.methodLink mi.1.cls index mi'.1 ∈ am_Gl) (hsa : Cond.static mi'.1 ∈ am_Gl) {v : Option Value} {I' : am_I} {L' : am_L} (hd : decode mi.2.1 pc = .ok (.invokestatic index, 3)) (hn : as.length = n) (hs : am_sz rst ≤ 8) (hbc : mc' ≤ bc) (hbs : ms' ≤ bs) (hC : am_E mi' d mc' ms' as Γ I L (.inl v) I' L') {st' : List Value} (hst : st = as.reverse ++ rst) (hst' : v.toList ++ rst = st')
    (kk : am_W mi (d + 1) mc ms al (bc - mc') (bs - ms') (pc + 3) ls st' Γ I' L' Q) : am_W mi (d + 1) mc ms al bc bs pc ls st Γ I L Q := by
  intro p l e s m args below meth c D A Γ0 x0 S x H locs cells slots la h1 h2 h3 h4 h5 h6
  subst hst
  subst hst'
  have hwd : am_wd mi' = .codeWith mi'.1 mi'.2.1 mi'.2.2.1 mi'.2.2.2.1 mi'.2.2.2.2.1 := by unfold am_wd; rw [ht]
  have hM : Met l mi'.1 (am_wd mi' :: am_Gl) (am_rm d mc' ms') (va_Pc (as.map (am_cv D x)) (am_P D A x Γ I L)) (am_Qc D A false Γ x (fun o2 _ I2 L2 => o2 = .inl v ∧ I2 = I' ∧ L2 = L')) mc' ms' A := by
    intro p e ha hcs hk s m av below hfr happ hP hK
    obtain ⟨N, o, w1, w2, w3, hQ⟩ := hC l S.2.2.2.2.2.2.2.2.2.1 D A x p e ha hcs hk s m av below hfr happ hP hK
    refine ⟨N, o, w1, w2, w3, ?_⟩
    rcases hQ with h | ⟨q, q1, E, ce, L9, ⟨⟨Γ2, I2, L2, x2, q2, -⟩, -⟩, -⟩
    · exact h
    · exact nomatch q2.1
  have hT : GoodIn am_Gl (va_wsS mi.1.cls index mi'.1 (am_wd mi' :: am_Gl)) := fun w hw => by
    unfold va_wsS at hw
    rcases List.mem_append.mp hw with h | h
    · rcases List.mem_cons.mp h with rfl | h
      · exact am_Gl_good _ hl
      · rcases List.mem_cons.mp h with rfl | h
        · exact am_Gl_good _ hsa
        · rcases List.mem_cons.mp h with rfl | h
          · exact am_Gl_good _ hk.2.1
          · exact nomatch h
    · rcases List.mem_cons.mp h with h | h
      · rw [h]; exact am_Gl_good _ hk.1
      · exact am_Gl_good _ h
  have cw := vx_cwSW (R := am_rm (d + 1) mc ms) (own := mi.1.cls) (index := index) (maxL := mi'.2.2.1) (mc := mc') (ms := ms') (y := mi'.1) (bytes := mi'.2.1) (ret := mi'.2.2.2.1) (hh := mi'.2.2.2.2.1) (Ts := am_Gl) (ws := am_wd mi' :: am_Gl) (ws' := am_Gl) (rm := am_rm d mc' ms') n S.2.2.2.2.2.2.1 hT (by rw [hwd]) rfl rfl hk.2.2 ⟨by show d + 8 + 1 ≤ d + 1 + 8; omega, by show 8 + (mi'.2.2.1 + 11) + (60 * d + 400) ≤ 60 * (d + 1) + 400; omega⟩
  have R0 := vx_runSW (As := as.map (am_cv D x)) (rest := rst.map (am_cv D x)) (H := H) (locs := locs) (cells := cells) (slots := slots) (e := e) (below := below) (meth := meth) (g := F0 m pc la ((as.reverse ++ rst).map (am_cv D x))) (am_fix S) hM cw ⟨am_P_blind, am_PreOf S h2 h3⟩ rfl (by rw [List.length_map]; exact hn) h6.1 (by rw [List.map_append, List.map_reverse]) (am_hW hs) hd ⟨by show cells + mc' ≤ mc; omega, by show slots + ms' ≤ ms; omega⟩
  refine am_goes (bc := bc - mc') (bs := bs - ms') S h1 h3 (by omega) (by omega) h6 (fun T hT X => Or.inl (R0 T hT X)) (am_same S h1 h6) (fun v9 Γ' I9 L9 x' hq hag => ?_) (fun E ce q H1 locs1 Γ' I9 L9 x' hq hag hb g3 hce hcv hcl => ?_)
  · obtain ⟨rfl, rfl⟩ := hag
    obtain ⟨e1, rfl, rfl⟩ := hq
    cases e1
    exact kk
  · exact absurd hq.1 (fun z => nomatch z)
end AKW
