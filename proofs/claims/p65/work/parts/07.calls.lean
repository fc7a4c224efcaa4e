/-! RULES OF THE NUMBERED MACHINE: calls, throws, catches -/
theorem am_Gl_good : ∀ w ∈ am_Gl, w ∈ am_Gl ∧ ((w.onTables && w.keeps) = true ∨ ∃ ty, w = .arrayClass ty) := fun _ h => ⟨h, good_of_word (List.mem_filter.mp h).2⟩
/-- a method of one's own that can be called: its code, its class, its parameters -/
def am_mk (mi : am_M) (n : Nat) : Prop := am_wd mi ∈ am_Gl ∧ Cond.initialized mi.1.cls ∈ am_Gl ∧ (mi.1.cls ≠ "java/lang/invoke/MethodHandle" ∧ mi.1.cls ≠ "java/lang/invoke/VarHandle" ∧ (parseMethodDescriptor mi.1.desc).map (fun d => d.parameters.length) = some n) ∧ mi.2.2.1 ≤ 40 ∧ mi.2.2.2.2.1 = []
theorem am_wd0 {mi : am_M} (h : mi.2.2.2.2.1 = []) : am_wd mi = .code mi.1 mi.2.1 mi.2.2.1 mi.2.2.2.1 := by unfold am_wd; rw [h]
theorem am_no_empty : Cond.initialized "" ∉ am_Gl := by
  intro h
  have h9 := (List.mem_filter.mp h).1
  revert h9
  decide +kernel
section AWK
variable {mi : am_M} {d mc ms : Nat} {al : Bool} {bc bs pc : Nat} {ls : List (Nat × Value)} {st rst : List Value} {Γ : am_G} {I : am_I} {L : am_L} {Q : am_Q}
variable {mi' : am_M} {mc' ms' n index : Nat} {as : List Value} {Q' : am_Q}
variable {p : Program} {l : Launch} {e : Env} {s : State} {m : MethodId} {args : Array Value} {below : List Frame} {meth : Method} {c : Code} {D : am_D} {A : Nat → Prop} {Γ0 : am_G} {x0 x : am_X} {H : Heap} {locs : List Loc} {cells slots : Nat} {la : Array Slot}
/-- a call that has been run: it goes on behind the call, or with what was thrown -/
theorem am_goes {al' : Bool} {st0 : List Value} {a : Array Value} (S : am_St mi p l s m args meth c D A) (h1 : am_agr al Γ0 x0 Γ x) (h3 : va_S A s.heap H locs) (h4 : cells + (bc + mc') ≤ mc) (h5 : slots + (bs + ms') ≤ ms) (h6 : lv_has la mi.2.2.1 (am_lc D x ls))
    (hr : vx_Run p l e (am_rm d mc ms) s m args below meth c H locs cells slots mc' ms' (F0 m pc la st0) (rst.map (am_cv D x)) (am_Qc D A al' Γ x Q' a) (am_XC D A al' Γ x Q') A)
    (hag : ∀ Γ' x', am_agr al' Γ x Γ' x' → am_agr al Γ0 x0 Γ' x' ∧ lv_has la mi.2.2.1 (am_lc D x' ls) ∧ rst.map (am_cv D x) = rst.map (am_cv D x'))
    (kv : ∀ v Γ' I' L' x', Q' (.inl v) Γ' I' L' → am_agr al' Γ x Γ' x' → am_W mi d mc ms al bc bs (pc + 3) ls (v.toList ++ rst) Γ' I' L' Q)
    (kx : ∀ E ce q H1 locs1 Γ' I' L' x', Q' (.inr E) Γ' I' L' → am_agr al' Γ x Γ' x' → am_B D A x' Γ' I' L' s H1 → va_S A s.heap H1 locs1 → H1[q]? = some ce → ce.vm = .none → s.vm.findClass E = some ce.cls → vx_W p l e (am_rm d mc ms) s m args below meth c H1 locs1 (cells + mc') (slots + ms') (vx_MQ below (am_Qc D A al Γ0 x0 Q) (am_XC D A al Γ0 x0 Q) args s mc ms A) (F0 m pc la (rst.map (am_cv D x))) q) :
    W p l e (am_rm d mc ms) s m args below meth c H locs cells slots (vx_MQ below (am_Qc D A al Γ0 x0 Q) (am_XC D A al Γ0 x0 Q) args s mc ms A) (F0 m pc la st0) := by
  intro T hT X
  rcases hr T hT X with ⟨v, st₀, t, T', L9, g0, X', hL, e1, e2, ⟨⟨v', Γ', I', L', x', ho, hq, ha, hb⟩, hF⟩, gs⟩ | ⟨q, st₀, t, T', L9, E, ce, g0, X', hL, e1, e2, ⟨⟨Γ', I', L', x', hq, ha, hb⟩, hF⟩, hce, hcv, hcl, gs⟩
  · obtain ⟨k1, k2, k3⟩ := vx_keep g0 e1 h3 (fun _ _ z => z) (fun _ z => z) hL hF
    have hvm : t.vm.Alike s.vm := by rw [← e2]; exact X'.warmed.alike.symm
    obtain ⟨r1, r2, r3⟩ := hag Γ' x' ha
    have ev : v = v'.map (am_cv D x') := by cases ho; rfl
    obtain ⟨t2, a1, b1⟩ := kv v' Γ' I' L' x' hq ha p l e s m args below meth c D A Γ0 x0 S x' T'.heap (locs ++ L9) (cells + mc') (slots + ms') la r1 ⟨by rw [e1]; exact hb.1, hb.2.1, hb.2.2.moved hvm⟩ k3 (by omega) (by omega) r2 T' rfl X'
    refine ⟨t2, gs t2 ?_, b1⟩
    rw [ev, r3]
    cases v' <;> exact a1
  · obtain ⟨k1, k2, k3⟩ := vx_keep g0 e1 h3 (fun _ _ z => z) (fun _ z => z) hL hF
    have hvm : t.vm.Alike s.vm := by rw [← e2]; exact X'.warmed.alike.symm
    obtain ⟨t2, a1, b1⟩ := kx E ce q T'.heap (locs ++ L9) Γ' I' L' x' hq ha ⟨by rw [e1]; exact hb.1, hb.2.1, hb.2.2.moved hvm⟩ k3 (by rw [e1]; exact hce) hcv hcl T' rfl X'
    exact ⟨t2, gs.trans a1, b1⟩
/-- nothing catches here -/
theorem am_thru {Γ' : am_G} {x' : am_X} {I' : am_I} {L' : am_L} {E : String} {ce : Cell} {q : Addr} {H1 : Heap} {locs1 : List Loc} {rs : List Value} (S : am_St mi p l s m args meth c D A) (ht : mi.2.2.2.2.1 = []) (h1 : am_agr al Γ0 x0 Γ' x') (hq : Q (.inr E) Γ' I' L') (hb : am_B D A x' Γ' I' L' s H1) (h3 : va_S A s.heap H1 locs1)
    (h4 : cells ≤ mc) (h5 : slots ≤ ms) (hce : H1[q]? = some ce) (hcv : ce.vm = .none) (hcl : s.vm.findClass E = some ce.cls) :
    vx_W p l e (am_rm d mc ms) s m args below meth c H1 locs1 cells slots (vx_MQ below (am_Qc D A al Γ0 x0 Q) (am_XC D A al Γ0 x0 Q) args s mc ms A) (F0 m pc la rs) q := by
  refine vx_out (fun z hz => ?_) S.2.2.2.2.2.2.2.1 hce hcv hcl (fun t h hv => ⟨⟨Γ', I', L', x', hq, h1, by rw [h]; exact ⟨hb.1, hb.2.1, hb.2.2.moved hv⟩⟩, h3.F h⟩) h3.2.2 h4 h5
  rw [S.2.2.2.2.1, ht] at hz
  cases hz
theorem am_PreOf (S : am_St mi p l s m args meth c D A) (h2 : am_B D A x Γ I L s H) (h3 : va_S A s.heap H locs) : ∀ U : State, U.heap = H → s.WarmedH U.vm → va_Pc (as.map (am_cv D x)) (am_P D A x Γ I L) (as.map (am_cv D x)).toArray U := by
  intro U hU hW
  refine ⟨rfl, fun q hq => S.2.2.2.2.2.2.2.2.2.2.1.1 q (Nat.le_trans h3.1 (by rw [← hU]; exact hq)), S.2.2.2.2.2.2.2.2.2.2.2.to h3 hU hW, ?_⟩
  rw [hU]
  exact ⟨h2.1, h2.2.1, h2.2.2.moved hW.alike⟩
theorem am_fix (S : am_St mi p l s m args meth c D A) : CallFix p m c mi.2.1 mi.2.2.1 s args am_Gl mi.1.cls := ⟨S.1, S.2.1, S.2.2.1, S.2.2.2.2.2.1, S.2.2.2.2.2.2.1⟩
theorem am_cB (S : am_St mi p l s m args meth c D A) (hk : am_mk mi' n) (hl : Cond.methodLink mi.1.cls index mi'.1 ∈ am_Gl) : CallB (am_rm (d + 1) mc ms) s args mi.1.cls index mi'.1 mi'.2.1 mi'.2.2.1 mi'.2.2.2.1 (am_wd mi' :: am_Gl) (am_rm d mc' ms') mc' ms' n := by
  obtain ⟨k1, k2, k3, k4, k5⟩ := hk
  refine callB_of n S.2.2.2.2.2.2.1 (fun w hw => ?_) (by rw [am_wd0 k5]) rfl rfl (S.2.2.2.2.2.2.1 _ k2) (S.2.2.2.2.2.2.1 _ hl) k3 ⟨by show d + 8 + 1 ≤ d + 1 + 8; omega, by show 8 + (mi'.2.2.1 + 11) + (60 * d + 400) ≤ 60 * (d + 1) + 400; omega⟩
  rcases List.mem_cons.mp hw with h | h
  · rw [h]; exact am_Gl_good _ k1
  · exact am_Gl_good _ h
theorem am_hW (hs : am_sz rst ≤ 8) : 2 * (F0 m pc la (st.map (am_cv D x))).monitorRoom + ((rst.map (am_cv D x)).map fun v => v.category).sum ≤ 8 := lv_room (by rw [am_cats]; exact hs)
theorem am_same (S : am_St mi p l s m args meth c D A) (h1 : am_agr al Γ0 x0 Γ x) (h6 : lv_has la mi.2.2.1 (am_lc D x ls)) : ∀ Γ' x', am_agr false Γ x Γ' x' → am_agr al Γ0 x0 Γ' x' ∧ lv_has la mi.2.2.1 (am_lc D x' ls) ∧ rst.map (am_cv D x) = rst.map (am_cv D x') := by
  rintro Γ' x' ⟨rfl, rfl⟩
  exact ⟨h1, h6, rfl⟩
/-- which values stay the same when cells are added -/
def am_ok (Γ : am_G) : Value → Prop
  | .ref k => k < Γ.1
  | _ => True
theorem am_ok_eq {Γ' : am_G} {x' : am_X} (hx : ∀ k, k < Γ.1 → x'.1 k = x.1 k) : ∀ v, am_ok Γ v → am_cv D x v = am_cv D x' v := by
  intro v hv
  cases v <;> first | rfl | (show Value.ref _ = Value.ref _; rw [hx _ hv])
theorem am_more (S : am_St mi p l s m args meth c D A) (h1 : am_agr true Γ0 x0 Γ x) (h6 : lv_has la mi.2.2.1 (am_lc D x ls)) (hls : ∀ q ∈ ls, am_ok Γ q.2) (hrs : ∀ v ∈ rst, am_ok Γ v) : ∀ Γ' x', am_agr true Γ x Γ' x' → am_agr true Γ0 x0 Γ' x' ∧ lv_has la mi.2.2.1 (am_lc D x' ls) ∧ rst.map (am_cv D x) = rst.map (am_cv D x') := by
  intro Γ' x' h
  refine ⟨h1.tr h, ?_, List.map_congr_left (fun v hv => am_ok_eq (Γ' := Γ') h.2 v (hrs v hv))⟩
  have e : am_lc D x' ls = am_lc D x ls := List.map_congr_left (fun q hq => by rw [am_ok_eq (Γ' := Γ') h.2 q.2 (hls q hq)])
  rw [e]
  exact h6
theorem am_rV {b ci : Nat} {al' : Bool} (S : am_St mi p l s m args meth c D A) (h2 : am_B D A x Γ I L s H) (h3 : va_S A s.heap H locs) (h6 : lv_has la mi.2.2.1 (am_lc D x ls)) (hC : am_C mi' d mc' ms' al' (.ref b :: as) Γ I L Q') (hk : am_mk mi' n) (hl : Cond.methodLink mi.1.cls index mi'.1 ∈ am_Gl) (hin : Cond.instanceMethod mi'.1 ∈ am_Gl) (hse : Cond.selects mi'.1.cls mi'.1 mi'.1 ∈ am_Gl) (ho : am_ob Γ b ci) (hcn : am_cn ci = mi'.1.cls)
    (hd : decode mi.2.1 pc = .ok (.invokevirtual index, 3)) (hst : st = as.reverse ++ .ref b :: rst) (hn : as.length = n) (hs : am_sz rst ≤ 8) (hf : cells + mc' ≤ mc ∧ slots + ms' ≤ ms) :
    vx_Run p l e (am_rm (d + 1) mc ms) s m args below meth c H locs cells slots mc' ms' (F0 m pc la (st.map (am_cv D x))) (rst.map (am_cv D x)) (am_Qc D A al' Γ x Q' ((Value.ref b :: as).map (am_cv D x)).toArray) (am_XC D A al' Γ x Q') A := by
  obtain ⟨r, hr, hrn⟩ : ∃ r : vw_C, vwCl[ci]? = some r ∧ r.1 = mi'.1.cls := by
    cases hv : vwCl[ci]? with
    | none =>
      have e9 : am_cn ci = "" := by unfold am_cn; rw [hv]; rfl
      have e8 := hk.2.2.1.2.2
      have hlt : ci < vwCl.length := by
        have q9 := ho
        rcases Nat.lt_or_ge ci vwCl.length with q | q
        · exact q
        · exfalso
          have z1 : mi'.1.cls = "" := hcn.symm.trans e9
          have z2 : Cond.initialized mi'.1.cls ∈ am_Gl := hk.2.1
          rw [z1] at z2
          exact absurd z2 am_no_empty
      rw [List.getElem?_eq_getElem hlt] at hv
      cases hv
    | some r => exact ⟨r, rfl, by rw [← hcn]; unfold am_cn; rw [hv]; rfl⟩
  refine vx_runV (As := as.map (am_cv D x)) (b := x.1 b) (C := mi'.1.cls) (am_fix S) (hC l S.2.2.2.2.2.2.2.2.2.1 D A x) ⟨am_cB S hk hl, S.2.2.2.2.2.2.1 _ hin, S.2.2.2.2.2.2.1 _ hse⟩ ⟨am_P_blind, ?_, am_PreOf (as := .ref b :: as) S h2 h3⟩ rfl (by rw [List.length_map]; exact hn) h6.1 (by rw [hst, List.map_append, List.map_reverse]; rfl) (am_hW hs) hd hf
  rw [← hrn]
  exact va_recv (S.K (tys := []) (fun _ _ h => by cases h)) h2.1 hr (am_ob_at ho)
theorem am_rS {al' : Bool} (S : am_St mi p l s m args meth c D A) (h2 : am_B D A x Γ I L s H) (h3 : va_S A s.heap H locs) (h6 : lv_has la mi.2.2.1 (am_lc D x ls)) (hC : am_C mi' d mc' ms' al' as Γ I L Q') (hk : am_mk mi' n) (hl : Cond.methodLink mi.1.cls index mi'.1 ∈ am_Gl) (hsa : Cond.static mi'.1 ∈ am_Gl)
    (hd : decode mi.2.1 pc = .ok (.invokestatic index, 3)) (hst : st = as.reverse ++ rst) (hn : as.length = n) (hs : am_sz rst ≤ 8) (hf : cells + mc' ≤ mc ∧ slots + ms' ≤ ms) :
    vx_Run p l e (am_rm (d + 1) mc ms) s m args below meth c H locs cells slots mc' ms' (F0 m pc la (st.map (am_cv D x))) (rst.map (am_cv D x)) (am_Qc D A al' Γ x Q' (as.map (am_cv D x)).toArray) (am_XC D A al' Γ x Q') A :=
  vx_runS (As := as.map (am_cv D x)) (am_fix S) (hC l S.2.2.2.2.2.2.2.2.2.1 D A x) ⟨am_cB S hk hl, S.2.2.2.2.2.2.1 _ hsa⟩ ⟨am_P_blind, am_PreOf S h2 h3⟩ rfl (by rw [List.length_map]; exact hn) h6.1 (by rw [hst, List.map_append, List.map_reverse]) (am_hW hs) hd hf
theorem am_rI {b : Nat} {al' : Bool} (S : am_St mi p l s m args meth c D A) (h2 : am_B D A x Γ I L s H) (h3 : va_S A s.heap H locs) (h6 : lv_has la mi.2.2.1 (am_lc D x ls)) (hC : am_C mi' d mc' ms' al' (.ref b :: as) Γ I L Q') (hk : am_mk mi' n) (hl : Cond.methodLink mi.1.cls index mi'.1 ∈ am_Gl) (hin : Cond.instanceMethod mi'.1 ∈ am_Gl) (hi : mi'.1.name = "<init>") (hr0 : mi'.2.2.2.1 = none)
    (hd : decode mi.2.1 pc = .ok (.invokespecial index, 3)) (hst : st = as.reverse ++ .ref b :: rst) (hn : as.length = n) (hs : am_sz rst ≤ 8) (hf : cells + mc' ≤ mc ∧ slots + ms' ≤ ms) :
    vx_Run p l e (am_rm (d + 1) mc ms) s m args below meth c H locs cells slots mc' ms' (F0 m pc la (st.map (am_cv D x))) (rst.map (am_cv D x)) (am_Qc D A al' Γ x Q' ((Value.ref b :: as).map (am_cv D x)).toArray) (am_XC D A al' Γ x Q') A := by
  have hcb := am_cB (d := d) (mc := mc) (ms := ms) (mc' := mc') (ms' := ms') S hk hl
  rw [hr0] at hcb
  exact vx_runI (As := as.map (am_cv D x)) (b := x.1 b) (am_fix S) (hC l S.2.2.2.2.2.2.2.2.2.1 D A x) ⟨hcb, hi, S.2.2.2.2.2.2.1 _ hin⟩ ⟨am_P_blind, am_PreOf (as := .ref b :: as) S h2 h3⟩ rfl (by rw [List.length_map]; exact hn) h6.1 (by rw [hst, List.map_append, List.map_reverse]; rfl) (am_hW hs) hd hf
theorem am_cN {host : String} {ret : Option FieldType} (S : am_St mi p l s m args meth c D A) (hk : am_mk mi' n) (hl : Cond.methodLinkNest mi.1.cls index mi'.1 host ∈ am_Nl) (hret : mi'.2.2.2.1 = ret) : va_CN (am_rm (d + 1) mc ms) s args mi.1.cls index mi'.1 host mi'.2.1 mi'.2.2.1 ret (am_wd mi' :: am_Gl) (am_rm d mc' ms') mc' ms' n := by
  obtain ⟨k1, k2, k3, k4, k5⟩ := hk
  subst hret
  refine va_cnB n S.2.2.2.2.2.2.1 (fun w hw => ?_) (by rw [am_wd0 k5]) rfl rfl (S.2.2.2.2.2.2.2.2.2.2.2.2.2.2.1 _ hl) (S.2.2.2.2.2.2.1 _ k2) k3 ⟨by show d + 8 + 1 ≤ d + 1 + 8; omega, by show 8 + (mi'.2.2.1 + 11) + (60 * d + 400) ≤ 60 * (d + 1) + 400; omega⟩
  rcases List.mem_cons.mp hw with h | h
  · rw [h]; exact am_Gl_good _ k1
  · exact am_Gl_good _ h
theorem am_rSN {host : String} {al' : Bool} (S : am_St mi p l s m args meth c D A) (h2 : am_B D A x Γ I L s H) (h3 : va_S A s.heap H locs) (h6 : lv_has la mi.2.2.1 (am_lc D x ls)) (hC : am_C mi' d mc' ms' al' as Γ I L Q') (hk : am_mk mi' n) (hl : Cond.methodLinkNest mi.1.cls index mi'.1 host ∈ am_Nl) (hsa : Cond.static mi'.1 ∈ am_Gl)
    (hd : decode mi.2.1 pc = .ok (.invokestatic index, 3)) (hst : st = as.reverse ++ rst) (hn : as.length = n) (hs : am_sz rst ≤ 8) (hf : cells + mc' ≤ mc ∧ slots + ms' ≤ ms) :
    vx_Run p l e (am_rm (d + 1) mc ms) s m args below meth c H locs cells slots mc' ms' (F0 m pc la (st.map (am_cv D x))) (rst.map (am_cv D x)) (am_Qc D A al' Γ x Q' (as.map (am_cv D x)).toArray) (am_XC D A al' Γ x Q') A :=
  vx_runSN (As := as.map (am_cv D x)) (am_fix S) (hC l S.2.2.2.2.2.2.2.2.2.1 D A x) ⟨am_cN S hk hl rfl, S.2.2.2.2.2.2.1 _ hsa, trivial⟩ ⟨am_P_blind, am_PreOf S h2 h3⟩ rfl (by rw [List.length_map]; exact hn) h6.1 (by rw [hst, List.map_append, List.map_reverse]) (am_hW hs) hd hf
theorem am_rIN {host : String} {b : Nat} {al' : Bool} (S : am_St mi p l s m args meth c D A) (h2 : am_B D A x Γ I L s H) (h3 : va_S A s.heap H locs) (h6 : lv_has la mi.2.2.1 (am_lc D x ls)) (hC : am_C mi' d mc' ms' al' (.ref b :: as) Γ I L Q') (hk : am_mk mi' n) (hl : Cond.methodLinkNest mi.1.cls index mi'.1 host ∈ am_Nl) (hin : Cond.instanceMethod mi'.1 ∈ am_Gl) (hi : mi'.1.name = "<init>") (hr0 : mi'.2.2.2.1 = none)
    (hd : decode mi.2.1 pc = .ok (.invokespecial index, 3)) (hst : st = as.reverse ++ .ref b :: rst) (hn : as.length = n) (hs : am_sz rst ≤ 8) (hf : cells + mc' ≤ mc ∧ slots + ms' ≤ ms) :
    vx_Run p l e (am_rm (d + 1) mc ms) s m args below meth c H locs cells slots mc' ms' (F0 m pc la (st.map (am_cv D x))) (rst.map (am_cv D x)) (am_Qc D A al' Γ x Q' ((Value.ref b :: as).map (am_cv D x)).toArray) (am_XC D A al' Γ x Q') A :=
  vx_runIN (As := as.map (am_cv D x)) (b := x.1 b) (am_fix S) (hC l S.2.2.2.2.2.2.2.2.2.1 D A x) ⟨am_cN S hk hl hr0, hi, S.2.2.2.2.2.2.1 _ hin⟩ ⟨am_P_blind, am_PreOf (as := .ref b :: as) S h2 h3⟩ rfl (by rw [List.length_map]; exact hn) h6.1 (by rw [hst, List.map_append, List.map_reverse]; rfl) (am_hW hs) hd hf
theorem aw_callV {b ci : Nat} (hd : decode mi.2.1 pc = .ok (.invokevirtual index, 3)) (hk : am_mk mi' n) (hl : Cond.methodLink mi.1.cls index mi'.1 ∈ am_Gl) (hin : Cond.instanceMethod mi'.1 ∈ am_Gl) (hse : Cond.selects mi'.1.cls mi'.1 mi'.1 ∈ am_Gl) (ho : am_ob Γ b ci) (hcn : am_cn ci = mi'.1.cls) (ht : mi.2.2.2.2.1 = []) (hn : as.length = n) (hs : am_sz rst ≤ 8) (hC : am_C mi' d mc' ms' false (.ref b :: as) Γ I L Q')
    (kv : ∀ v I' L', Q' (.inl v) Γ I' L' → am_W mi (d + 1) mc ms al bc bs (pc + 3) ls (v.toList ++ rst) Γ I' L' Q) (ke : ∀ E I' L', Q' (.inr E) Γ I' L' → Q (.inr E) Γ I' L') : am_W mi (d + 1) mc ms al (bc + mc') (bs + ms') pc ls (as.reverse ++ .ref b :: rst) Γ I L Q := by
  intro p l e s m args below meth c D A Γ0 x0 S x H locs cells slots la h1 h2 h3 h4 h5 h6
  refine am_goes S h1 h3 h4 h5 h6 (am_rV S h2 h3 h6 hC hk hl hin hse ho hcn hd rfl hn hs ⟨by omega, by omega⟩) (am_same S h1 h6) (fun v Γ' I' L' x' hq hag => ?_) (fun E ce q H1 locs1 Γ' I' L' x' hq hag hb g3 hce hcv hcl => ?_)
  · obtain ⟨rfl, rfl⟩ := hag
    exact kv v I' L' hq
  · obtain ⟨rfl, rfl⟩ := hag
    exact am_thru S ht h1 (ke E I' L' hq) hb g3 (by omega) (by omega) hce hcv hcl
theorem aw_callS  (hd : decode mi.2.1 pc = .ok (.invokestatic index, 3)) (hk : am_mk mi' n) (hl : Cond.methodLink mi.1.cls index mi'.1 ∈ am_Gl) (hsa : Cond.static mi'.1 ∈ am_Gl) (ht : mi.2.2.2.2.1 = []) (hn : as.length = n) (hs : am_sz rst ≤ 8) (hC : am_C mi' d mc' ms' false as Γ I L Q')
    (kv : ∀ v I' L', Q' (.inl v) Γ I' L' → am_W mi (d + 1) mc ms al bc bs (pc + 3) ls (v.toList ++ rst) Γ I' L' Q) (ke : ∀ E I' L', Q' (.inr E) Γ I' L' → Q (.inr E) Γ I' L') : am_W mi (d + 1) mc ms al (bc + mc') (bs + ms') pc ls (as.reverse ++ rst) Γ I L Q := by
  intro p l e s m args below meth c D A Γ0 x0 S x H locs cells slots la h1 h2 h3 h4 h5 h6
  refine am_goes S h1 h3 h4 h5 h6 (am_rS S h2 h3 h6 hC hk hl hsa hd rfl hn hs ⟨by omega, by omega⟩) (am_same S h1 h6) (fun v Γ' I' L' x' hq hag => ?_) (fun E ce q H1 locs1 Γ' I' L' x' hq hag hb g3 hce hcv hcl => ?_)
  · obtain ⟨rfl, rfl⟩ := hag
    exact kv v I' L' hq
  · obtain ⟨rfl, rfl⟩ := hag
    exact am_thru S ht h1 (ke E I' L' hq) hb g3 (by omega) (by omega) hce hcv hcl
theorem aw_callSN {host : String} (hd : decode mi.2.1 pc = .ok (.invokestatic index, 3)) (hk : am_mk mi' n) (hl : Cond.methodLinkNest mi.1.cls index mi'.1 host ∈ am_Nl) (hsa : Cond.static mi'.1 ∈ am_Gl) (ht : mi.2.2.2.2.1 = []) (hn : as.length = n) (hs : am_sz rst ≤ 8) (hC : am_C mi' d mc' ms' false as Γ I L Q')
    (kv : ∀ v I' L', Q' (.inl v) Γ I' L' → am_W mi (d + 1) mc ms al bc bs (pc + 3) ls (v.toList ++ rst) Γ I' L' Q) (ke : ∀ E I' L', Q' (.inr E) Γ I' L' → Q (.inr E) Γ I' L') : am_W mi (d + 1) mc ms al (bc + mc') (bs + ms') pc ls (as.reverse ++ rst) Γ I L Q := by
  intro p l e s m args below meth c D A Γ0 x0 S x H locs cells slots la h1 h2 h3 h4 h5 h6
  refine am_goes S h1 h3 h4 h5 h6 (am_rSN S h2 h3 h6 hC hk hl hsa hd rfl hn hs ⟨by omega, by omega⟩) (am_same S h1 h6) (fun v Γ' I' L' x' hq hag => ?_) (fun E ce q H1 locs1 Γ' I' L' x' hq hag hb g3 hce hcv hcl => ?_)
  · obtain ⟨rfl, rfl⟩ := hag
    exact kv v I' L' hq
  · obtain ⟨rfl, rfl⟩ := hag
    exact am_thru S ht h1 (ke E I' L' hq) hb g3 (by omega) (by omega) hce hcv hcl
theorem aw_callI {b : Nat} (hd : decode mi.2.1 pc = .ok (.invokespecial index, 3)) (hk : am_mk mi' n) (hl : Cond.methodLink mi.1.cls index mi'.1 ∈ am_Gl) (hin : Cond.instanceMethod mi'.1 ∈ am_Gl) (hi : mi'.1.name = "<init>") (hr0 : mi'.2.2.2.1 = none) (ht : mi.2.2.2.2.1 = []) (hn : as.length = n) (hs : am_sz rst ≤ 8) (hC : am_C mi' d mc' ms' true (.ref b :: as) Γ I L Q') (hls : ∀ q ∈ ls, am_ok Γ q.2) (hrs : ∀ v ∈ rst, am_ok Γ v)
    (kv : ∀ v Γ' I' L', Q' (.inl v) Γ' I' L' → am_W mi (d + 1) mc ms true bc bs (pc + 3) ls (v.toList ++ rst) Γ' I' L' Q) (ke : ∀ E Γ' I' L', Q' (.inr E) Γ' I' L' → Q (.inr E) Γ' I' L') : am_W mi (d + 1) mc ms true (bc + mc') (bs + ms') pc ls (as.reverse ++ .ref b :: rst) Γ I L Q := by
  intro p l e s m args below meth c D A Γ0 x0 S x H locs cells slots la h1 h2 h3 h4 h5 h6
  refine am_goes S h1 h3 h4 h5 h6 (am_rI S h2 h3 h6 hC hk hl hin hi hr0 hd rfl hn hs ⟨by omega, by omega⟩) (am_more S h1 h6 hls hrs) (fun v Γ' I' L' x' hq hag => kv v Γ' I' L' hq) (fun E ce q H1 locs1 Γ' I' L' x' hq hag hb g3 hce hcv hcl => ?_)
  exact am_thru S ht (h1.tr hag) (ke E Γ' I' L' hq) hb g3 (by omega) (by omega) hce hcv hcl
theorem aw_callIN {host : String} {b : Nat} (hd : decode mi.2.1 pc = .ok (.invokespecial index, 3)) (hk : am_mk mi' n) (hl : Cond.methodLinkNest mi.1.cls index mi'.1 host ∈ am_Nl) (hin : Cond.instanceMethod mi'.1 ∈ am_Gl) (hi : mi'.1.name = "<init>") (hr0 : mi'.2.2.2.1 = none) (ht : mi.2.2.2.2.1 = []) (hn : as.length = n) (hs : am_sz rst ≤ 8) (hC : am_C mi' d mc' ms' true (.ref b :: as) Γ I L Q') (hls : ∀ q ∈ ls, am_ok Γ q.2) (hrs : ∀ v ∈ rst, am_ok Γ v)
    (kv : ∀ v Γ' I' L', Q' (.inl v) Γ' I' L' → am_W mi (d + 1) mc ms true bc bs (pc + 3) ls (v.toList ++ rst) Γ' I' L' Q) (ke : ∀ E Γ' I' L', Q' (.inr E) Γ' I' L' → Q (.inr E) Γ' I' L') : am_W mi (d + 1) mc ms true (bc + mc') (bs + ms') pc ls (as.reverse ++ .ref b :: rst) Γ I L Q := by
  intro p l e s m args below meth c D A Γ0 x0 S x H locs cells slots la h1 h2 h3 h4 h5 h6
  refine am_goes S h1 h3 h4 h5 h6 (am_rIN S h2 h3 h6 hC hk hl hin hi hr0 hd rfl hn hs ⟨by omega, by omega⟩) (am_more S h1 h6 hls hrs) (fun v Γ' I' L' x' hq hag => kv v Γ' I' L' hq) (fun E ce q H1 locs1 Γ' I' L' x' hq hag hb g3 hce hcv hcl => ?_)
  exact am_thru S ht (h1.tr hag) (ke E Γ' I' L' hq) hb g3 (by omega) (by omega) hce hcv hcl
end AWK
