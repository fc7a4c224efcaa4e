/-! RULES OF THE NUMBERED MACHINE: locals, stack, arithmetic, branches -/
def am_get : List (Nat × Value) → Nat → Option Value
  | [], _ => none
  | q :: t, i => cond (Nat.beq q.1 i) (some q.2) (am_get t i)
theorem am_get_mem {i : Nat} {v : Value} : ∀ {l : List (Nat × Value)}, am_get l i = some v → (i, v) ∈ l
  | [], h => by cases h
  | q :: t, h => by
    unfold am_get at h
    cases hb : Nat.beq q.1 i
    · rw [hb] at h
      exact List.mem_cons_of_mem _ (am_get_mem h)
    · rw [hb] at h
      have e : q.1 = i := Nat.eq_of_beq_eq_true hb
      have e2 : q.2 = v := Option.some.inj h
      rw [← e, ← e2]
      exact List.mem_cons_self
def am_ins (i : Nat) (v : Value) : List (Nat × Value) → List (Nat × Value)
  | [] => [(i, v)]
  | q :: t => cond (Nat.blt q.1 i) (q :: am_ins i v t) ((i, v) :: q :: t)
theorem am_ins_mem {i : Nat} {v : Value} {q : Nat × Value} : ∀ {l : List (Nat × Value)}, q ∈ am_ins i v l → q = (i, v) ∨ q ∈ l
  | [], h => by
    rcases List.mem_cons.mp h with h | h
    · exact Or.inl h
    · cases h
  | z :: t, h => by
    unfold am_ins at h
    cases hb : Nat.blt z.1 i
    · rw [hb] at h
      rcases List.mem_cons.mp h with h | h
      · exact Or.inl h
      · exact Or.inr h
    · rw [hb] at h
      rcases List.mem_cons.mp h with h | h
      · exact Or.inr (by rw [h]; exact List.mem_cons_self)
      · rcases am_ins_mem h with h | h
        · exact Or.inl h
        · exact Or.inr (List.mem_cons_of_mem _ h)
def am_f1 (i : Nat) (q : Nat × Value) : Bool := !(q.1 == i) && !(q.1 + 1 == i && q.2.category == 2)
def am_f2 (i : Nat) (q : Nat × Value) : Bool := !(q.1 == i) && (!(q.1 == i + 1) && !(q.1 + 1 == i && q.2.category == 2))
def am_set1 (i : Nat) (v : Value) (l : List (Nat × Value)) : List (Nat × Value) := am_ins i v (l.filter (am_f1 i))
def am_set2 (i : Nat) (v : Value) (l : List (Nat × Value)) : List (Nat × Value) := am_ins i v (l.filter (am_f2 i))
theorem am_lc_mem {D : am_D} {x : am_X} {l : List (Nat × Value)} {q : Nat × Value} (h : q ∈ l) : (q.1, am_cv D x q.2) ∈ am_lc D x l := List.mem_map.mpr ⟨q, h, rfl⟩
theorem am_loc {D : am_D} {x : am_X} {l : List (Nat × Value)} {la : Array Slot} {nL i : Nat} {v : Value} (h : lv_has la nL (am_lc D x l)) (hg : am_get l i = some v) : la[i]? = some (.val (am_cv D x v)) := h.2.2 (i, am_cv D x v) (am_lc_mem (am_get_mem hg))
theorem am_sub {la : Array Slot} {nL : Nat} {l l' : List (Nat × Value)} (h : lv_has la nL l) (hs : ∀ q ∈ l', q ∈ l) : lv_has la nL l' := ⟨h.1, h.2.1, fun q hq => h.2.2 q (hs q hq)⟩
theorem am_put1 {D : am_D} {x : am_X} {l l' : List (Nat × Value)} {la : Array Slot} {nL i : Nat} {v v' : Value} (hv : am_cv D x v = v') (h : lv_has la nL ((i, v') :: (am_lc D x l).filter (fun q => !(q.1 == i) && !(q.1 + 1 == i && q.2.category == 2)))) (hl : am_set1 i v l = l') : lv_has la nL (am_lc D x l') := by
  refine am_sub h (fun q hq => ?_)
  subst hl
  obtain ⟨z, hz, rfl⟩ := List.mem_map.mp hq
  rcases am_ins_mem hz with e | hz
  · rw [e]
    show (i, am_cv D x v) ∈ _
    rw [hv]
    exact List.mem_cons_self
  · obtain ⟨h1, h2⟩ := List.mem_filter.mp hz
    refine List.mem_cons_of_mem _ (List.mem_filter.mpr ⟨am_lc_mem h1, ?_⟩)
    show (!(z.1 == i) && !(z.1 + 1 == i && (am_cv D x z.2).category == 2)) = true
    rw [am_cat]
    exact h2
theorem am_put2 {D : am_D} {x : am_X} {l l' : List (Nat × Value)} {la : Array Slot} {nL i : Nat} {v v' : Value} (hv : am_cv D x v = v') (h : lv_has la nL ((i, v') :: (am_lc D x l).filter (fun q => !(q.1 == i) && (!(q.1 == i + 1) && !(q.1 + 1 == i && q.2.category == 2))))) (hl : am_set2 i v l = l') : lv_has la nL (am_lc D x l') := by
  refine am_sub h (fun q hq => ?_)
  subst hl
  obtain ⟨z, hz, rfl⟩ := List.mem_map.mp hq
  rcases am_ins_mem hz with e | hz
  · rw [e]
    show (i, am_cv D x v) ∈ _
    rw [hv]
    exact List.mem_cons_self
  · obtain ⟨h1, h2⟩ := List.mem_filter.mp hz
    refine List.mem_cons_of_mem _ (List.mem_filter.mpr ⟨am_lc_mem h1, ?_⟩)
    show (!(z.1 == i) && (!(z.1 == i + 1) && !(z.1 + 1 == i && (am_cv D x z.2).category == 2))) = true
    rw [am_cat]
    exact h2
section AWR
variable {mi : am_M} {d mc ms : Nat} {al : Bool} {bc bs pc : Nat} {ls : List (Nat × Value)} {st : List Value} {Γ : am_G} {I : am_I} {L : am_L} {Q : am_Q}
/-- fewer locals known -/
theorem aw_sub {ls' : List (Nat × Value)} (hs : ∀ q ∈ ls', q ∈ ls) (kk : am_W mi d mc ms al bc bs pc ls' st Γ I L Q) : am_W mi d mc ms al bc bs pc ls st Γ I L Q := by
  intro p l e s m args below meth c D A Γ0 x0 S x H locs cells slots la h1 h2 h3 h4 h5 h6
  refine kk _ _ _ _ _ _ _ _ _ _ _ _ _ S _ _ _ _ _ _ h1 h2 h3 h4 h5 (am_sub h6 (fun q hq => ?_))
  obtain ⟨z, hz, rfl⟩ := List.mem_map.mp hq
  exact am_lc_mem (hs z hz)
/-- less is made than was allowed -/
theorem aw_less {bc' bs' : Nat} (h1 : bc' ≤ bc) (h2 : bs' ≤ bs) (kk : am_W mi d mc ms al bc' bs' pc ls st Γ I L Q) : am_W mi d mc ms al bc bs pc ls st Γ I L Q :=
  fun p l e s m args below meth c D A Γ0 x0 S x H locs cells slots la g1 g2 g3 g4 g5 g6 => kk p l e s m args below meth c D A Γ0 x0 S x H locs cells slots la g1 g2 g3 (by omega) (by omega) g6
theorem aw_iconst {n : Int} {v : Int32} (hd : decode mi.2.1 pc = .ok (.iconst n, 1)) (hv : Int32.ofInt n = v) (kk : am_W mi d mc ms al bc bs (pc + 1) ls (.int v :: st) Γ I L Q) : am_W mi d mc ms al bc bs pc ls st Γ I L Q := by
  intro p l e s m args below meth c D A Γ0 x0 S x H locs cells slots la h1 h2 h3 h4 h5 h6
  exact lv_iconst S.1 S.2.1 hd hv (kk _ _ _ _ _ _ _ _ _ _ _ _ _ S _ _ _ _ _ _ h1 h2 h3 h4 h5 h6)
theorem aw_bipush {n : Int} {v : Int32} (hd : decode mi.2.1 pc = .ok (.bipush n, 2)) (hv : (Int8.ofInt n).toInt32 = v) (kk : am_W mi d mc ms al bc bs (pc + 2) ls (.int v :: st) Γ I L Q) : am_W mi d mc ms al bc bs pc ls st Γ I L Q := by
  intro p l e s m args below meth c D A Γ0 x0 S x H locs cells slots la h1 h2 h3 h4 h5 h6
  exact lv_bipush S.1 S.2.1 hd hv (kk _ _ _ _ _ _ _ _ _ _ _ _ _ S _ _ _ _ _ _ h1 h2 h3 h4 h5 h6)
theorem aw_sipush {n : Int} {v : Int32} (hd : decode mi.2.1 pc = .ok (.sipush n, 3)) (hv : (Int16.ofInt n).toInt32 = v) (kk : am_W mi d mc ms al bc bs (pc + 3) ls (.int v :: st) Γ I L Q) : am_W mi d mc ms al bc bs pc ls st Γ I L Q := by
  intro p l e s m args below meth c D A Γ0 x0 S x H locs cells slots la h1 h2 h3 h4 h5 h6
  exact lv_sipush S.1 S.2.1 hd hv (kk _ _ _ _ _ _ _ _ _ _ _ _ _ S _ _ _ _ _ _ h1 h2 h3 h4 h5 h6)
theorem aw_lconst {n : Fin 2} {v : Int64} (hd : decode mi.2.1 pc = .ok (.lconst n, 1)) (hv : Int64.ofNat (n : Nat) = v) (kk : am_W mi d mc ms al bc bs (pc + 1) ls (.long v :: st) Γ I L Q) : am_W mi d mc ms al bc bs pc ls st Γ I L Q := by
  intro p l e s m args below meth c D A Γ0 x0 S x H locs cells slots la h1 h2 h3 h4 h5 h6
  exact lv_lconst S.1 S.2.1 hd hv (kk _ _ _ _ _ _ _ _ _ _ _ _ _ S _ _ _ _ _ _ h1 h2 h3 h4 h5 h6)
theorem aw_fconst1  (hd : decode mi.2.1 pc = .ok (.fconst 1, 1))  (kk : am_W mi d mc ms al bc bs (pc + 1) ls (.float FP.fconst1 :: st) Γ I L Q) : am_W mi d mc ms al bc bs pc ls st Γ I L Q := by
  intro p l e s m args below meth c D A Γ0 x0 S x H locs cells slots la h1 h2 h3 h4 h5 h6
  exact lv_fconst1 S.1 S.2.1 hd (kk _ _ _ _ _ _ _ _ _ _ _ _ _ S _ _ _ _ _ _ h1 h2 h3 h4 h5 h6)
theorem aw_dconst0  (hd : decode mi.2.1 pc = .ok (.dconst 0, 1))  (kk : am_W mi d mc ms al bc bs (pc + 1) ls (.double FP.dconst0 :: st) Γ I L Q) : am_W mi d mc ms al bc bs pc ls st Γ I L Q := by
  intro p l e s m args below meth c D A Γ0 x0 S x H locs cells slots la h1 h2 h3 h4 h5 h6
  exact lv_dconst0 S.1 S.2.1 hd (kk _ _ _ _ _ _ _ _ _ _ _ _ _ S _ _ _ _ _ _ h1 h2 h3 h4 h5 h6)
theorem aw_iload_n {k : Fin 4} {y : Int32} (hd : decode mi.2.1 pc = .ok (.iload_n k, 1)) (hg : am_get ls (k : Nat) = some (.int y)) (kk : am_W mi d mc ms al bc bs (pc + 1) ls (.int y :: st) Γ I L Q) : am_W mi d mc ms al bc bs pc ls st Γ I L Q := by
  intro p l e s m args below meth c D A Γ0 x0 S x H locs cells slots la h1 h2 h3 h4 h5 h6
  exact lv_iload_n S.1 S.2.1 hd rfl (am_loc h6 hg) (kk _ _ _ _ _ _ _ _ _ _ _ _ _ S _ _ _ _ _ _ h1 h2 h3 h4 h5 h6)
theorem aw_iload {k : Nat} {y : Int32} (hd : decode mi.2.1 pc = .ok (.iload k, 2)) (hg : am_get ls k = some (.int y)) (kk : am_W mi d mc ms al bc bs (pc + 2) ls (.int y :: st) Γ I L Q) : am_W mi d mc ms al bc bs pc ls st Γ I L Q := by
  intro p l e s m args below meth c D A Γ0 x0 S x H locs cells slots la h1 h2 h3 h4 h5 h6
  exact lv_iload S.1 S.2.1 hd (am_loc h6 hg) (kk _ _ _ _ _ _ _ _ _ _ _ _ _ S _ _ _ _ _ _ h1 h2 h3 h4 h5 h6)
theorem aw_lload_n {k : Fin 4} {y : Int64} (hd : decode mi.2.1 pc = .ok (.lload_n k, 1)) (hg : am_get ls (k : Nat) = some (.long y)) (kk : am_W mi d mc ms al bc bs (pc + 1) ls (.long y :: st) Γ I L Q) : am_W mi d mc ms al bc bs pc ls st Γ I L Q := by
  intro p l e s m args below meth c D A Γ0 x0 S x H locs cells slots la h1 h2 h3 h4 h5 h6
  exact lv_lload_n S.1 S.2.1 hd rfl (am_loc h6 hg) (kk _ _ _ _ _ _ _ _ _ _ _ _ _ S _ _ _ _ _ _ h1 h2 h3 h4 h5 h6)
theorem aw_lload {k : Nat} {y : Int64} (hd : decode mi.2.1 pc = .ok (.lload k, 2)) (hg : am_get ls k = some (.long y)) (kk : am_W mi d mc ms al bc bs (pc + 2) ls (.long y :: st) Γ I L Q) : am_W mi d mc ms al bc bs pc ls st Γ I L Q := by
  intro p l e s m args below meth c D A Γ0 x0 S x H locs cells slots la h1 h2 h3 h4 h5 h6
  exact lv_lload S.1 S.2.1 hd (am_loc h6 hg) (kk _ _ _ _ _ _ _ _ _ _ _ _ _ S _ _ _ _ _ _ h1 h2 h3 h4 h5 h6)
theorem aw_dload_n {k : Fin 4} {y : UInt64} (hd : decode mi.2.1 pc = .ok (.dload_n k, 1)) (hg : am_get ls (k : Nat) = some (.double y)) (kk : am_W mi d mc ms al bc bs (pc + 1) ls (.double y :: st) Γ I L Q) : am_W mi d mc ms al bc bs pc ls st Γ I L Q := by
  intro p l e s m args below meth c D A Γ0 x0 S x H locs cells slots la h1 h2 h3 h4 h5 h6
  exact lv_dload_n S.1 S.2.1 hd rfl (am_loc h6 hg) (kk _ _ _ _ _ _ _ _ _ _ _ _ _ S _ _ _ _ _ _ h1 h2 h3 h4 h5 h6)
theorem aw_dload {k : Nat} {y : UInt64} (hd : decode mi.2.1 pc = .ok (.dload k, 2)) (hg : am_get ls k = some (.double y)) (kk : am_W mi d mc ms al bc bs (pc + 2) ls (.double y :: st) Γ I L Q) : am_W mi d mc ms al bc bs pc ls st Γ I L Q := by
  intro p l e s m args below meth c D A Γ0 x0 S x H locs cells slots la h1 h2 h3 h4 h5 h6
  exact lv_dload S.1 S.2.1 hd (am_loc h6 hg) (kk _ _ _ _ _ _ _ _ _ _ _ _ _ S _ _ _ _ _ _ h1 h2 h3 h4 h5 h6)
theorem aw_aload_n {k : Fin 4} {y : Nat} (hd : decode mi.2.1 pc = .ok (.aload_n k, 1)) (hg : am_get ls (k : Nat) = some (.ref y)) (kk : am_W mi d mc ms al bc bs (pc + 1) ls (.ref y :: st) Γ I L Q) : am_W mi d mc ms al bc bs pc ls st Γ I L Q := by
  intro p l e s m args below meth c D A Γ0 x0 S x H locs cells slots la h1 h2 h3 h4 h5 h6
  exact lv_aload_n S.1 S.2.1 hd rfl (am_loc h6 hg) (kk _ _ _ _ _ _ _ _ _ _ _ _ _ S _ _ _ _ _ _ h1 h2 h3 h4 h5 h6)
theorem aw_aload {k : Nat} {y : Nat} (hd : decode mi.2.1 pc = .ok (.aload k, 2)) (hg : am_get ls k = some (.ref y)) (kk : am_W mi d mc ms al bc bs (pc + 2) ls (.ref y :: st) Γ I L Q) : am_W mi d mc ms al bc bs pc ls st Γ I L Q := by
  intro p l e s m args below meth c D A Γ0 x0 S x H locs cells slots la h1 h2 h3 h4 h5 h6
  exact lv_aload S.1 S.2.1 hd (am_loc h6 hg) (kk _ _ _ _ _ _ _ _ _ _ _ _ _ S _ _ _ _ _ _ h1 h2 h3 h4 h5 h6)
theorem aw_aload_nT {k : Fin 4} {y : Nat} (hd : decode mi.2.1 pc = .ok (.aload_n k, 1)) (hg : am_get ls (k : Nat) = some (.retAddr y)) (kk : am_W mi d mc ms al bc bs (pc + 1) ls (.retAddr y :: st) Γ I L Q) : am_W mi d mc ms al bc bs pc ls st Γ I L Q := by
  intro p l e s m args below meth c D A Γ0 x0 S x H locs cells slots la h1 h2 h3 h4 h5 h6
  exact lv_aload_n S.1 S.2.1 hd rfl (am_loc h6 hg) (kk _ _ _ _ _ _ _ _ _ _ _ _ _ S _ _ _ _ _ _ h1 h2 h3 h4 h5 h6)
theorem aw_aloadT {k : Nat} {y : Nat} (hd : decode mi.2.1 pc = .ok (.aload k, 2)) (hg : am_get ls k = some (.retAddr y)) (kk : am_W mi d mc ms al bc bs (pc + 2) ls (.retAddr y :: st) Γ I L Q) : am_W mi d mc ms al bc bs pc ls st Γ I L Q := by
  intro p l e s m args below meth c D A Γ0 x0 S x H locs cells slots la h1 h2 h3 h4 h5 h6
  exact lv_aload S.1 S.2.1 hd (am_loc h6 hg) (kk _ _ _ _ _ _ _ _ _ _ _ _ _ S _ _ _ _ _ _ h1 h2 h3 h4 h5 h6)
theorem aw_istore_n {k : Fin 4} {y : Int32} {ls' : List (Nat × Value)} (hd : decode mi.2.1 pc = .ok (.istore_n k, 1)) (hn : (k : Nat) < mi.2.2.1) (hl : am_set1 (k : Nat) (.int y) ls = ls') (kk : am_W mi d mc ms al bc bs (pc + 1) ls' st Γ I L Q) : am_W mi d mc ms al bc bs pc ls (.int y :: st) Γ I L Q := by
  intro p l e s m args below meth c D A Γ0 x0 S x H locs cells slots la h1 h2 h3 h4 h5 h6
  exact lv_istore_n S.1 S.2.1 hd rfl h6 hn rfl (fun la' h' => kk _ _ _ _ _ _ _ _ _ _ _ _ _ S _ _ _ _ _ _ h1 h2 h3 h4 h5 (am_put1 (v := .int y) rfl h' hl))
theorem aw_istore {k : Nat} {y : Int32} {ls' : List (Nat × Value)} (hd : decode mi.2.1 pc = .ok (.istore k, 2)) (hn : k < mi.2.2.1) (hl : am_set1 k (.int y) ls = ls') (kk : am_W mi d mc ms al bc bs (pc + 2) ls' st Γ I L Q) : am_W mi d mc ms al bc bs pc ls (.int y :: st) Γ I L Q := by
  intro p l e s m args below meth c D A Γ0 x0 S x H locs cells slots la h1 h2 h3 h4 h5 h6
  exact lv_istore S.1 S.2.1 hd h6 hn rfl (fun la' h' => kk _ _ _ _ _ _ _ _ _ _ _ _ _ S _ _ _ _ _ _ h1 h2 h3 h4 h5 (am_put1 (v := .int y) rfl h' hl))
theorem aw_lstore_n {k : Fin 4} {y : Int64} {ls' : List (Nat × Value)} (hd : decode mi.2.1 pc = .ok (.lstore_n k, 1)) (hn : (k : Nat) + 1 < mi.2.2.1) (hl : am_set2 (k : Nat) (.long y) ls = ls') (kk : am_W mi d mc ms al bc bs (pc + 1) ls' st Γ I L Q) : am_W mi d mc ms al bc bs pc ls (.long y :: st) Γ I L Q := by
  intro p l e s m args below meth c D A Γ0 x0 S x H locs cells slots la h1 h2 h3 h4 h5 h6
  exact lv_lstore_n S.1 S.2.1 hd rfl h6 hn rfl (fun la' h' => kk _ _ _ _ _ _ _ _ _ _ _ _ _ S _ _ _ _ _ _ h1 h2 h3 h4 h5 (am_put2 (v := .long y) rfl h' hl))
theorem aw_lstore {k : Nat} {y : Int64} {ls' : List (Nat × Value)} (hd : decode mi.2.1 pc = .ok (.lstore k, 2)) (hn : k + 1 < mi.2.2.1) (hl : am_set2 k (.long y) ls = ls') (kk : am_W mi d mc ms al bc bs (pc + 2) ls' st Γ I L Q) : am_W mi d mc ms al bc bs pc ls (.long y :: st) Γ I L Q := by
  intro p l e s m args below meth c D A Γ0 x0 S x H locs cells slots la h1 h2 h3 h4 h5 h6
  exact lv_lstore S.1 S.2.1 hd h6 hn rfl (fun la' h' => kk _ _ _ _ _ _ _ _ _ _ _ _ _ S _ _ _ _ _ _ h1 h2 h3 h4 h5 (am_put2 (v := .long y) rfl h' hl))
theorem aw_dstore_n {k : Fin 4} {y : UInt64} {ls' : List (Nat × Value)} (hd : decode mi.2.1 pc = .ok (.dstore_n k, 1)) (hn : (k : Nat) + 1 < mi.2.2.1) (hl : am_set2 (k : Nat) (.double y) ls = ls') (kk : am_W mi d mc ms al bc bs (pc + 1) ls' st Γ I L Q) : am_W mi d mc ms al bc bs pc ls (.double y :: st) Γ I L Q := by
  intro p l e s m args below meth c D A Γ0 x0 S x H locs cells slots la h1 h2 h3 h4 h5 h6
  exact lv_dstore_n S.1 S.2.1 hd rfl h6 hn rfl (fun la' h' => kk _ _ _ _ _ _ _ _ _ _ _ _ _ S _ _ _ _ _ _ h1 h2 h3 h4 h5 (am_put2 (v := .double y) rfl h' hl))
theorem aw_dstore {k : Nat} {y : UInt64} {ls' : List (Nat × Value)} (hd : decode mi.2.1 pc = .ok (.dstore k, 2)) (hn : k + 1 < mi.2.2.1) (hl : am_set2 k (.double y) ls = ls') (kk : am_W mi d mc ms al bc bs (pc + 2) ls' st Γ I L Q) : am_W mi d mc ms al bc bs pc ls (.double y :: st) Γ I L Q := by
  intro p l e s m args below meth c D A Γ0 x0 S x H locs cells slots la h1 h2 h3 h4 h5 h6
  exact lv_dstore S.1 S.2.1 hd h6 hn rfl (fun la' h' => kk _ _ _ _ _ _ _ _ _ _ _ _ _ S _ _ _ _ _ _ h1 h2 h3 h4 h5 (am_put2 (v := .double y) rfl h' hl))
theorem aw_astore_n {k : Fin 4} {y : Nat} {ls' : List (Nat × Value)} (hd : decode mi.2.1 pc = .ok (.astore_n k, 1)) (hn : (k : Nat) < mi.2.2.1) (hl : am_set1 (k : Nat) (.ref y) ls = ls') (kk : am_W mi d mc ms al bc bs (pc + 1) ls' st Γ I L Q) : am_W mi d mc ms al bc bs pc ls (.ref y :: st) Γ I L Q := by
  intro p l e s m args below meth c D A Γ0 x0 S x H locs cells slots la h1 h2 h3 h4 h5 h6
  exact lv_astore_n S.1 S.2.1 hd rfl h6 hn rfl (fun la' h' => kk _ _ _ _ _ _ _ _ _ _ _ _ _ S _ _ _ _ _ _ h1 h2 h3 h4 h5 (am_put1 (v := .ref y) rfl h' hl))
theorem aw_astore {k : Nat} {y : Nat} {ls' : List (Nat × Value)} (hd : decode mi.2.1 pc = .ok (.astore k, 2)) (hn : k < mi.2.2.1) (hl : am_set1 k (.ref y) ls = ls') (kk : am_W mi d mc ms al bc bs (pc + 2) ls' st Γ I L Q) : am_W mi d mc ms al bc bs pc ls (.ref y :: st) Γ I L Q := by
  intro p l e s m args below meth c D A Γ0 x0 S x H locs cells slots la h1 h2 h3 h4 h5 h6
  exact lv_astore S.1 S.2.1 hd h6 hn rfl (fun la' h' => kk _ _ _ _ _ _ _ _ _ _ _ _ _ S _ _ _ _ _ _ h1 h2 h3 h4 h5 (am_put1 (v := .ref y) rfl h' hl))
theorem aw_iinc {k : Nat} {n : Int} {y v : Int32} {ls' : List (Nat × Value)} (hd : decode mi.2.1 pc = .ok (.iinc k n, 3)) (hg : am_get ls k = some (.int y)) (hv : y + Int32.ofInt n = v) (hn : k < mi.2.2.1) (hl : am_set1 k (.int v) ls = ls') (kk : am_W mi d mc ms al bc bs (pc + 3) ls' st Γ I L Q) : am_W mi d mc ms al bc bs pc ls st Γ I L Q := by
  intro p l e s m args below meth c D A Γ0 x0 S x H locs cells slots la h1 h2 h3 h4 h5 h6
  obtain ⟨z, hz⟩ := List.getElem?_of_mem (am_lc_mem (D := D) (x := x) (am_get_mem hg))
  exact lv_iinc S.1 S.2.1 hd h6 hz hv hn rfl (fun la' h' => kk _ _ _ _ _ _ _ _ _ _ _ _ _ S _ _ _ _ _ _ h1 h2 h3 h4 h5 (am_put1 (v := .int v) rfl h' hl))
theorem aw_iadd {y z : Int32} (hd : decode mi.2.1 pc = .ok (.iadd, 1))  (kk : am_W mi d mc ms al bc bs (pc + 1) ls (.int (y + z) :: st) Γ I L Q) : am_W mi d mc ms al bc bs pc ls (.int z :: .int y :: st) Γ I L Q := by
  intro p l e s m args below meth c D A Γ0 x0 S x H locs cells slots la h1 h2 h3 h4 h5 h6
  exact lv_iadd S.1 S.2.1 hd (kk _ _ _ _ _ _ _ _ _ _ _ _ _ S _ _ _ _ _ _ h1 h2 h3 h4 h5 h6)
theorem aw_isub {y z : Int32} (hd : decode mi.2.1 pc = .ok (.isub, 1))  (kk : am_W mi d mc ms al bc bs (pc + 1) ls (.int (y - z) :: st) Γ I L Q) : am_W mi d mc ms al bc bs pc ls (.int z :: .int y :: st) Γ I L Q := by
  intro p l e s m args below meth c D A Γ0 x0 S x H locs cells slots la h1 h2 h3 h4 h5 h6
  exact lv_isub S.1 S.2.1 hd (kk _ _ _ _ _ _ _ _ _ _ _ _ _ S _ _ _ _ _ _ h1 h2 h3 h4 h5 h6)
theorem aw_imul {y z : Int32} (hd : decode mi.2.1 pc = .ok (.imul, 1))  (kk : am_W mi d mc ms al bc bs (pc + 1) ls (.int (y * z) :: st) Γ I L Q) : am_W mi d mc ms al bc bs pc ls (.int z :: .int y :: st) Γ I L Q := by
  intro p l e s m args below meth c D A Γ0 x0 S x H locs cells slots la h1 h2 h3 h4 h5 h6
  exact lv_imul S.1 S.2.1 hd (kk _ _ _ _ _ _ _ _ _ _ _ _ _ S _ _ _ _ _ _ h1 h2 h3 h4 h5 h6)
theorem aw_iand {y z : Int32} (hd : decode mi.2.1 pc = .ok (.iand, 1))  (kk : am_W mi d mc ms al bc bs (pc + 1) ls (.int (y &&& z) :: st) Γ I L Q) : am_W mi d mc ms al bc bs pc ls (.int z :: .int y :: st) Γ I L Q := by
  intro p l e s m args below meth c D A Γ0 x0 S x H locs cells slots la h1 h2 h3 h4 h5 h6
  exact lv_iand S.1 S.2.1 hd (kk _ _ _ _ _ _ _ _ _ _ _ _ _ S _ _ _ _ _ _ h1 h2 h3 h4 h5 h6)
theorem aw_ior {y z : Int32} (hd : decode mi.2.1 pc = .ok (.ior, 1))  (kk : am_W mi d mc ms al bc bs (pc + 1) ls (.int (y ||| z) :: st) Γ I L Q) : am_W mi d mc ms al bc bs pc ls (.int z :: .int y :: st) Γ I L Q := by
  intro p l e s m args below meth c D A Γ0 x0 S x H locs cells slots la h1 h2 h3 h4 h5 h6
  exact lv_ior S.1 S.2.1 hd (kk _ _ _ _ _ _ _ _ _ _ _ _ _ S _ _ _ _ _ _ h1 h2 h3 h4 h5 h6)
theorem aw_ixor {y z : Int32} (hd : decode mi.2.1 pc = .ok (.ixor, 1))  (kk : am_W mi d mc ms al bc bs (pc + 1) ls (.int (y ^^^ z) :: st) Γ I L Q) : am_W mi d mc ms al bc bs pc ls (.int z :: .int y :: st) Γ I L Q := by
  intro p l e s m args below meth c D A Γ0 x0 S x H locs cells slots la h1 h2 h3 h4 h5 h6
  exact lv_ixor S.1 S.2.1 hd (kk _ _ _ _ _ _ _ _ _ _ _ _ _ S _ _ _ _ _ _ h1 h2 h3 h4 h5 h6)
theorem aw_ishl {y z : Int32} (hd : decode mi.2.1 pc = .ok (.ishl, 1))  (kk : am_W mi d mc ms al bc bs (pc + 1) ls (.int (y <<< (z &&& 31)) :: st) Γ I L Q) : am_W mi d mc ms al bc bs pc ls (.int z :: .int y :: st) Γ I L Q := by
  intro p l e s m args below meth c D A Γ0 x0 S x H locs cells slots la h1 h2 h3 h4 h5 h6
  exact lv_ishl S.1 S.2.1 hd (kk _ _ _ _ _ _ _ _ _ _ _ _ _ S _ _ _ _ _ _ h1 h2 h3 h4 h5 h6)
theorem aw_ishr {y z : Int32} (hd : decode mi.2.1 pc = .ok (.ishr, 1))  (kk : am_W mi d mc ms al bc bs (pc + 1) ls (.int (y >>> (z &&& 31)) :: st) Γ I L Q) : am_W mi d mc ms al bc bs pc ls (.int z :: .int y :: st) Γ I L Q := by
  intro p l e s m args below meth c D A Γ0 x0 S x H locs cells slots la h1 h2 h3 h4 h5 h6
  exact lv_ishr S.1 S.2.1 hd (kk _ _ _ _ _ _ _ _ _ _ _ _ _ S _ _ _ _ _ _ h1 h2 h3 h4 h5 h6)
theorem aw_idiv {y z : Int32} (hd : decode mi.2.1 pc = .ok (.idiv, 1)) (h0 : ¬ z = 0) (kk : am_W mi d mc ms al bc bs (pc + 1) ls (.int (y / z) :: st) Γ I L Q) : am_W mi d mc ms al bc bs pc ls (.int z :: .int y :: st) Γ I L Q := by
  intro p l e s m args below meth c D A Γ0 x0 S x H locs cells slots la h1 h2 h3 h4 h5 h6
  exact lv_idiv S.1 S.2.1 hd h0 (kk _ _ _ _ _ _ _ _ _ _ _ _ _ S _ _ _ _ _ _ h1 h2 h3 h4 h5 h6)
theorem aw_irem {y z : Int32} (hd : decode mi.2.1 pc = .ok (.irem, 1)) (h0 : ¬ z = 0) (kk : am_W mi d mc ms al bc bs (pc + 1) ls (.int (y - y / z * z) :: st) Γ I L Q) : am_W mi d mc ms al bc bs pc ls (.int z :: .int y :: st) Γ I L Q := by
  intro p l e s m args below meth c D A Γ0 x0 S x H locs cells slots la h1 h2 h3 h4 h5 h6
  exact lv_irem S.1 S.2.1 hd h0 (kk _ _ _ _ _ _ _ _ _ _ _ _ _ S _ _ _ _ _ _ h1 h2 h3 h4 h5 h6)
theorem aw_ladd {y z : Int64} (hd : decode mi.2.1 pc = .ok (.ladd, 1))  (kk : am_W mi d mc ms al bc bs (pc + 1) ls (.long (y + z) :: st) Γ I L Q) : am_W mi d mc ms al bc bs pc ls (.long z :: .long y :: st) Γ I L Q := by
  intro p l e s m args below meth c D A Γ0 x0 S x H locs cells slots la h1 h2 h3 h4 h5 h6
  exact lv_ladd S.1 S.2.1 hd (kk _ _ _ _ _ _ _ _ _ _ _ _ _ S _ _ _ _ _ _ h1 h2 h3 h4 h5 h6)
theorem aw_lsub {y z : Int64} (hd : decode mi.2.1 pc = .ok (.lsub, 1))  (kk : am_W mi d mc ms al bc bs (pc + 1) ls (.long (y - z) :: st) Γ I L Q) : am_W mi d mc ms al bc bs pc ls (.long z :: .long y :: st) Γ I L Q := by
  intro p l e s m args below meth c D A Γ0 x0 S x H locs cells slots la h1 h2 h3 h4 h5 h6
  exact lv_lsub S.1 S.2.1 hd (kk _ _ _ _ _ _ _ _ _ _ _ _ _ S _ _ _ _ _ _ h1 h2 h3 h4 h5 h6)
theorem aw_lmul {y z : Int64} (hd : decode mi.2.1 pc = .ok (.lmul, 1))  (kk : am_W mi d mc ms al bc bs (pc + 1) ls (.long (y * z) :: st) Γ I L Q) : am_W mi d mc ms al bc bs pc ls (.long z :: .long y :: st) Γ I L Q := by
  intro p l e s m args below meth c D A Γ0 x0 S x H locs cells slots la h1 h2 h3 h4 h5 h6
  exact lv_lmul S.1 S.2.1 hd (kk _ _ _ _ _ _ _ _ _ _ _ _ _ S _ _ _ _ _ _ h1 h2 h3 h4 h5 h6)
theorem aw_land {y z : Int64} (hd : decode mi.2.1 pc = .ok (.land, 1))  (kk : am_W mi d mc ms al bc bs (pc + 1) ls (.long (y &&& z) :: st) Γ I L Q) : am_W mi d mc ms al bc bs pc ls (.long z :: .long y :: st) Γ I L Q := by
  intro p l e s m args below meth c D A Γ0 x0 S x H locs cells slots la h1 h2 h3 h4 h5 h6
  exact lv_land S.1 S.2.1 hd (kk _ _ _ _ _ _ _ _ _ _ _ _ _ S _ _ _ _ _ _ h1 h2 h3 h4 h5 h6)
theorem aw_lor {y z : Int64} (hd : decode mi.2.1 pc = .ok (.lor, 1))  (kk : am_W mi d mc ms al bc bs (pc + 1) ls (.long (y ||| z) :: st) Γ I L Q) : am_W mi d mc ms al bc bs pc ls (.long z :: .long y :: st) Γ I L Q := by
  intro p l e s m args below meth c D A Γ0 x0 S x H locs cells slots la h1 h2 h3 h4 h5 h6
  exact lv_lor S.1 S.2.1 hd (kk _ _ _ _ _ _ _ _ _ _ _ _ _ S _ _ _ _ _ _ h1 h2 h3 h4 h5 h6)
theorem aw_lshl {y : Int64} {z : Int32} (hd : decode mi.2.1 pc = .ok (.lshl, 1))  (kk : am_W mi d mc ms al bc bs (pc + 1) ls (.long (y <<< (z.toInt64 &&& 63)) :: st) Γ I L Q) : am_W mi d mc ms al bc bs pc ls (.int z :: .long y :: st) Γ I L Q := by
  intro p l e s m args below meth c D A Γ0 x0 S x H locs cells slots la h1 h2 h3 h4 h5 h6
  exact lv_lshl S.1 S.2.1 hd rfl (kk _ _ _ _ _ _ _ _ _ _ _ _ _ S _ _ _ _ _ _ h1 h2 h3 h4 h5 h6)
theorem aw_lshr {y : Int64} {z : Int32} (hd : decode mi.2.1 pc = .ok (.lshr, 1))  (kk : am_W mi d mc ms al bc bs (pc + 1) ls (.long (y >>> (z.toInt64 &&& 63)) :: st) Γ I L Q) : am_W mi d mc ms al bc bs pc ls (.int z :: .long y :: st) Γ I L Q := by
  intro p l e s m args below meth c D A Γ0 x0 S x H locs cells slots la h1 h2 h3 h4 h5 h6
  exact lv_lshr S.1 S.2.1 hd rfl (kk _ _ _ _ _ _ _ _ _ _ _ _ _ S _ _ _ _ _ _ h1 h2 h3 h4 h5 h6)
theorem aw_lcmp {y z : Int64} (hd : decode mi.2.1 pc = .ok (.lcmp, 1))  (kk : am_W mi d mc ms al bc bs (pc + 1) ls (.int (lg_cmp y z) :: st) Γ I L Q) : am_W mi d mc ms al bc bs pc ls (.long z :: .long y :: st) Γ I L Q := by
  intro p l e s m args below meth c D A Γ0 x0 S x H locs cells slots la h1 h2 h3 h4 h5 h6
  exact W.lcmp S.1 S.2.1 hd (kk _ _ _ _ _ _ _ _ _ _ _ _ _ S _ _ _ _ _ _ h1 h2 h3 h4 h5 h6)
theorem aw_i2l {y : Int32} (hd : decode mi.2.1 pc = .ok (.i2l, 1))  (kk : am_W mi d mc ms al bc bs (pc + 1) ls (.long y.toInt64 :: st) Γ I L Q) : am_W mi d mc ms al bc bs pc ls (.int y :: st) Γ I L Q := by
  intro p l e s m args below meth c D A Γ0 x0 S x H locs cells slots la h1 h2 h3 h4 h5 h6
  exact lv_i2l S.1 S.2.1 hd rfl (kk _ _ _ _ _ _ _ _ _ _ _ _ _ S _ _ _ _ _ _ h1 h2 h3 h4 h5 h6)
theorem aw_l2i {y : Int64} (hd : decode mi.2.1 pc = .ok (.l2i, 1))  (kk : am_W mi d mc ms al bc bs (pc + 1) ls (.int y.toInt32 :: st) Γ I L Q) : am_W mi d mc ms al bc bs pc ls (.long y :: st) Γ I L Q := by
  intro p l e s m args below meth c D A Γ0 x0 S x H locs cells slots la h1 h2 h3 h4 h5 h6
  exact lv_l2i S.1 S.2.1 hd rfl (kk _ _ _ _ _ _ _ _ _ _ _ _ _ S _ _ _ _ _ _ h1 h2 h3 h4 h5 h6)
theorem aw_i2b {y : Int32} (hd : decode mi.2.1 pc = .ok (.i2b, 1))  (kk : am_W mi d mc ms al bc bs (pc + 1) ls (.int y.toInt8.toInt32 :: st) Γ I L Q) : am_W mi d mc ms al bc bs pc ls (.int y :: st) Γ I L Q := by
  intro p l e s m args below meth c D A Γ0 x0 S x H locs cells slots la h1 h2 h3 h4 h5 h6
  exact lv_i2b S.1 S.2.1 hd rfl (kk _ _ _ _ _ _ _ _ _ _ _ _ _ S _ _ _ _ _ _ h1 h2 h3 h4 h5 h6)
theorem aw_i2c {y : Int32} (hd : decode mi.2.1 pc = .ok (.i2c, 1))  (kk : am_W mi d mc ms al bc bs (pc + 1) ls (.int (y.toUInt32 % 65536).toInt32 :: st) Γ I L Q) : am_W mi d mc ms al bc bs pc ls (.int y :: st) Γ I L Q := by
  intro p l e s m args below meth c D A Γ0 x0 S x H locs cells slots la h1 h2 h3 h4 h5 h6
  exact lv_i2c S.1 S.2.1 hd rfl (kk _ _ _ _ _ _ _ _ _ _ _ _ _ S _ _ _ _ _ _ h1 h2 h3 h4 h5 h6)
theorem aw_i2f {y : Int32} (hd : decode mi.2.1 pc = .ok (.i2f, 1))  (kk : am_W mi d mc ms al bc bs (pc + 1) ls (.float (FP.i2f y) :: st) Γ I L Q) : am_W mi d mc ms al bc bs pc ls (.int y :: st) Γ I L Q := by
  intro p l e s m args below meth c D A Γ0 x0 S x H locs cells slots la h1 h2 h3 h4 h5 h6
  exact lv_i2f S.1 S.2.1 hd (kk _ _ _ _ _ _ _ _ _ _ _ _ _ S _ _ _ _ _ _ h1 h2 h3 h4 h5 h6)
theorem aw_i2d {y : Int32} (hd : decode mi.2.1 pc = .ok (.i2d, 1))  (kk : am_W mi d mc ms al bc bs (pc + 1) ls (.double (FP.i2d y) :: st) Γ I L Q) : am_W mi d mc ms al bc bs pc ls (.int y :: st) Γ I L Q := by
  intro p l e s m args below meth c D A Γ0 x0 S x H locs cells slots la h1 h2 h3 h4 h5 h6
  exact lv_i2d S.1 S.2.1 hd (kk _ _ _ _ _ _ _ _ _ _ _ _ _ S _ _ _ _ _ _ h1 h2 h3 h4 h5 h6)
theorem aw_f2d {y : UInt32} (hd : decode mi.2.1 pc = .ok (.f2d, 1)) (h0 : vf_n64 (FP.f2d y)) (kk : am_W mi d mc ms al bc bs (pc + 1) ls (.double (FP.f2d y) :: st) Γ I L Q) : am_W mi d mc ms al bc bs pc ls (.float y :: st) Γ I L Q := by
  intro p l e s m args below meth c D A Γ0 x0 S x H locs cells slots la h1 h2 h3 h4 h5 h6
  exact lv_f2d S.1 S.2.1 hd h0 (kk _ _ _ _ _ _ _ _ _ _ _ _ _ S _ _ _ _ _ _ h1 h2 h3 h4 h5 h6)
theorem aw_fdiv {y z : UInt32} (hd : decode mi.2.1 pc = .ok (.fdiv, 1)) (h0 : vf_n32 (FP.fdiv y z)) (kk : am_W mi d mc ms al bc bs (pc + 1) ls (.float (FP.fdiv y z) :: st) Γ I L Q) : am_W mi d mc ms al bc bs pc ls (.float z :: .float y :: st) Γ I L Q := by
  intro p l e s m args below meth c D A Γ0 x0 S x H locs cells slots la h1 h2 h3 h4 h5 h6
  exact lv_fdiv S.1 S.2.1 hd h0 (kk _ _ _ _ _ _ _ _ _ _ _ _ _ S _ _ _ _ _ _ h1 h2 h3 h4 h5 h6)
theorem aw_ddiv {y z : UInt64} (hd : decode mi.2.1 pc = .ok (.ddiv, 1)) (h0 : vf_n64 (FP.ddiv y z)) (kk : am_W mi d mc ms al bc bs (pc + 1) ls (.double (FP.ddiv y z) :: st) Γ I L Q) : am_W mi d mc ms al bc bs pc ls (.double z :: .double y :: st) Γ I L Q := by
  intro p l e s m args below meth c D A Γ0 x0 S x H locs cells slots la h1 h2 h3 h4 h5 h6
  exact lv_ddiv S.1 S.2.1 hd h0 (kk _ _ _ _ _ _ _ _ _ _ _ _ _ S _ _ _ _ _ _ h1 h2 h3 h4 h5 h6)
theorem aw_dcmp {y z : UInt64} {op : CmpOp} (hd : decode mi.2.1 pc = .ok (.dcmp op, 1))  (kk : am_W mi d mc ms al bc bs (pc + 1) ls (.int (Op.cmpValue (FP.dcmp y z) op) :: st) Γ I L Q) : am_W mi d mc ms al bc bs pc ls (.double z :: .double y :: st) Γ I L Q := by
  intro p l e s m args below meth c D A Γ0 x0 S x H locs cells slots la h1 h2 h3 h4 h5 h6
  exact lv_dcmp S.1 S.2.1 hd (kk _ _ _ _ _ _ _ _ _ _ _ _ _ S _ _ _ _ _ _ h1 h2 h3 h4 h5 h6)
theorem aw_dup {v : Value} (hd : decode mi.2.1 pc = .ok (.dup, 1)) (hc : v.category = 1) (kk : am_W mi d mc ms al bc bs (pc + 1) ls (v :: v :: st) Γ I L Q) : am_W mi d mc ms al bc bs pc ls (v :: st) Γ I L Q := by
  intro p l e s m args below meth c D A Γ0 x0 S x H locs cells slots la h1 h2 h3 h4 h5 h6
  exact lv_dup S.1 S.2.1 hd ((am_cat D x v).trans hc) (kk _ _ _ _ _ _ _ _ _ _ _ _ _ S _ _ _ _ _ _ h1 h2 h3 h4 h5 h6)
theorem aw_pop {v : Value} (hd : decode mi.2.1 pc = .ok (.pop, 1)) (hc : v.category = 1) (kk : am_W mi d mc ms al bc bs (pc + 1) ls st Γ I L Q) : am_W mi d mc ms al bc bs pc ls (v :: st) Γ I L Q := by
  intro p l e s m args below meth c D A Γ0 x0 S x H locs cells slots la h1 h2 h3 h4 h5 h6
  exact lv_pop S.1 S.2.1 hd ((am_cat D x v).trans hc) (kk _ _ _ _ _ _ _ _ _ _ _ _ _ S _ _ _ _ _ _ h1 h2 h3 h4 h5 h6)
theorem aw_dup2 {v w : Value} (hd : decode mi.2.1 pc = .ok (.dup2, 1)) (hc : v.category = 1) (hc2 : w.category = 1) (kk : am_W mi d mc ms al bc bs (pc + 1) ls (v :: w :: v :: w :: st) Γ I L Q) : am_W mi d mc ms al bc bs pc ls (v :: w :: st) Γ I L Q := by
  intro p l e s m args below meth c D A Γ0 x0 S x H locs cells slots la h1 h2 h3 h4 h5 h6
  exact lv_dup2_11 S.1 S.2.1 hd ((am_cat D x v).trans hc) ((am_cat D x w).trans hc2) (kk _ _ _ _ _ _ _ _ _ _ _ _ _ S _ _ _ _ _ _ h1 h2 h3 h4 h5 h6)
theorem aw_ldc {k : Nat} {v : Int32} (hd : decode mi.2.1 pc = .ok (.ldc k, 2)) (hw : Jvm.Cond.constant mi.1.cls k v ∈ am_Gl) (kk : am_W mi d mc ms al bc bs (pc + 2) ls (.int v :: st) Γ I L Q) : am_W mi d mc ms al bc bs pc ls st Γ I L Q := by
  intro p l e s m args below meth c D A Γ0 x0 S x H locs cells slots la h1 h2 h3 h4 h5 h6
  exact lv_ldc S.1 S.2.1 S.2.2.2.2.2.1 (S.2.2.2.2.2.2.1 _ hw) hd (kk _ _ _ _ _ _ _ _ _ _ _ _ _ S _ _ _ _ _ _ h1 h2 h3 h4 h5 h6)
theorem aw_ldcT {k i : Nat} {tx : String} (hd : decode mi.2.1 pc = .ok (.ldc k, 2)) (hw : (mi.1.cls, k, tx, i) ∈ am_sr) (kk : am_W mi d mc ms al bc bs (pc + 2) ls (.retAddr i :: st) Γ I L Q) : am_W mi d mc ms al bc bs pc ls st Γ I L Q := by
  intro p l e s m args below meth c D A Γ0 x0 S x H locs cells slots la h1 h2 h3 h4 h5 h6
  exact va_ldcS S.1 S.2.1 S.2.2.2.2.2.1 (S.2.2.2.2.2.2.2.2.2.2.2.2.2.2.2.2.2.2.1 (mi.1.cls, k, tx, i) hw) hd (kk _ _ _ _ _ _ _ _ _ _ _ _ _ S _ _ _ _ _ _ h1 h2 h3 h4 h5 h6)
theorem aw_ldcTW {k i : Nat} {tx : String} (hd : decode mi.2.1 pc = .ok (.ldc_w k, 3)) (hw : (mi.1.cls, k, tx, i) ∈ am_sr) (kk : am_W mi d mc ms al bc bs (pc + 3) ls (.retAddr i :: st) Γ I L Q) : am_W mi d mc ms al bc bs pc ls st Γ I L Q := by
  intro p l e s m args below meth c D A Γ0 x0 S x H locs cells slots la h1 h2 h3 h4 h5 h6
  have hZ := S.2.2.2.2.2.2.2.2.2.2.2.2.2.2.2.2.2.2.1 (mi.1.cls, k, tx, i) hw
  have k9 := kk p l e s m args below meth c D A Γ0 x0 S x H locs cells slots la h1 h2 h3 h4 h5 h6
  intro T hT X
  obtain ⟨t, a1, b1⟩ := k9 T hT X
  exact ⟨t, X.ldcStringW S.1 S.2.2.2.2.2.1 (text := tx) (a := D.2 i) hZ.1 hZ.2 (g := F0 m pc la (st.map (am_cv D x))) rfl (by rw [S.2.1]; exact hd) t a1, b1⟩
theorem aw_ineg {y : Int32} (hd : decode mi.2.1 pc = .ok (.ineg, 1)) (kk : am_W mi d mc ms al bc bs (pc + 1) ls (.int (-y) :: st) Γ I L Q) : am_W mi d mc ms al bc bs pc ls (.int y :: st) Γ I L Q := by
  intro p l e s m args below meth c D A Γ0 x0 S x H locs cells slots la h1 h2 h3 h4 h5 h6
  exact lv_ineg S.1 S.2.1 hd (kk _ _ _ _ _ _ _ _ _ _ _ _ _ S _ _ _ _ _ _ h1 h2 h3 h4 h5 h6)
theorem aw_if_eq {y : Int32} {off : Int} {tgt : Nat} (hd : decode mi.2.1 pc = .ok (.ifCond .eq off, 3)) (ht : (pc : Int) + off = (tgt : Int)) (kt : y = 0 → am_W mi d mc ms al bc bs tgt ls st Γ I L Q) (kf : ¬ y = 0 → am_W mi d mc ms al bc bs (pc + 3) ls st Γ I L Q) : am_W mi d mc ms al bc bs pc ls (.int y :: st) Γ I L Q := by
  intro p l e s m args below meth c D A Γ0 x0 S x H locs cells slots la h1 h2 h3 h4 h5 h6
  exact lv_if_eq S.1 S.2.1 hd ht (fun z9 => (kt z9) _ _ _ _ _ _ _ _ _ _ _ _ _ S _ _ _ _ _ _ h1 h2 h3 h4 h5 h6) (fun z9 => (kf z9) _ _ _ _ _ _ _ _ _ _ _ _ _ S _ _ _ _ _ _ h1 h2 h3 h4 h5 h6)
theorem aw_icmp_eq {x y : Int32} {off : Int} {tgt : Nat} (hd : decode mi.2.1 pc = .ok (.if_icmp .eq off, 3)) (ht : (pc : Int) + off = (tgt : Int)) (kt : x = y → am_W mi d mc ms al bc bs tgt ls st Γ I L Q) (kf : ¬ x = y → am_W mi d mc ms al bc bs (pc + 3) ls st Γ I L Q) : am_W mi d mc ms al bc bs pc ls (.int y :: .int x :: st) Γ I L Q := by
  intro p l e s m args below meth c D A Γ0 x0 S xx H locs cells slots la h1 h2 h3 h4 h5 h6
  exact lv_icmp_eq S.1 S.2.1 hd ht (fun z9 => (kt z9) _ _ _ _ _ _ _ _ _ _ _ _ _ S _ _ _ _ _ _ h1 h2 h3 h4 h5 h6) (fun z9 => (kf z9) _ _ _ _ _ _ _ _ _ _ _ _ _ S _ _ _ _ _ _ h1 h2 h3 h4 h5 h6)
theorem aw_if_ne {y : Int32} {off : Int} {tgt : Nat} (hd : decode mi.2.1 pc = .ok (.ifCond .ne off, 3)) (ht : (pc : Int) + off = (tgt : Int)) (kt : ¬ y = 0 → am_W mi d mc ms al bc bs tgt ls st Γ I L Q) (kf : y = 0 → am_W mi d mc ms al bc bs (pc + 3) ls st Γ I L Q) : am_W mi d mc ms al bc bs pc ls (.int y :: st) Γ I L Q := by
  intro p l e s m args below meth c D A Γ0 x0 S x H locs cells slots la h1 h2 h3 h4 h5 h6
  exact lv_if_ne S.1 S.2.1 hd ht (fun z9 => (kt z9) _ _ _ _ _ _ _ _ _ _ _ _ _ S _ _ _ _ _ _ h1 h2 h3 h4 h5 h6) (fun z9 => (kf z9) _ _ _ _ _ _ _ _ _ _ _ _ _ S _ _ _ _ _ _ h1 h2 h3 h4 h5 h6)
theorem aw_icmp_ne {x y : Int32} {off : Int} {tgt : Nat} (hd : decode mi.2.1 pc = .ok (.if_icmp .ne off, 3)) (ht : (pc : Int) + off = (tgt : Int)) (kt : ¬ x = y → am_W mi d mc ms al bc bs tgt ls st Γ I L Q) (kf : x = y → am_W mi d mc ms al bc bs (pc + 3) ls st Γ I L Q) : am_W mi d mc ms al bc bs pc ls (.int y :: .int x :: st) Γ I L Q := by
  intro p l e s m args below meth c D A Γ0 x0 S xx H locs cells slots la h1 h2 h3 h4 h5 h6
  exact lv_icmp_ne S.1 S.2.1 hd ht (fun z9 => (kt z9) _ _ _ _ _ _ _ _ _ _ _ _ _ S _ _ _ _ _ _ h1 h2 h3 h4 h5 h6) (fun z9 => (kf z9) _ _ _ _ _ _ _ _ _ _ _ _ _ S _ _ _ _ _ _ h1 h2 h3 h4 h5 h6)
theorem aw_if_lt {y : Int32} {off : Int} {tgt : Nat} (hd : decode mi.2.1 pc = .ok (.ifCond .lt off, 3)) (ht : (pc : Int) + off = (tgt : Int)) (kt : y < 0 → am_W mi d mc ms al bc bs tgt ls st Γ I L Q) (kf : ¬ y < 0 → am_W mi d mc ms al bc bs (pc + 3) ls st Γ I L Q) : am_W mi d mc ms al bc bs pc ls (.int y :: st) Γ I L Q := by
  intro p l e s m args below meth c D A Γ0 x0 S x H locs cells slots la h1 h2 h3 h4 h5 h6
  exact lv_if_lt S.1 S.2.1 hd ht (fun z9 => (kt z9) _ _ _ _ _ _ _ _ _ _ _ _ _ S _ _ _ _ _ _ h1 h2 h3 h4 h5 h6) (fun z9 => (kf z9) _ _ _ _ _ _ _ _ _ _ _ _ _ S _ _ _ _ _ _ h1 h2 h3 h4 h5 h6)
theorem aw_icmp_lt {x y : Int32} {off : Int} {tgt : Nat} (hd : decode mi.2.1 pc = .ok (.if_icmp .lt off, 3)) (ht : (pc : Int) + off = (tgt : Int)) (kt : x < y → am_W mi d mc ms al bc bs tgt ls st Γ I L Q) (kf : ¬ x < y → am_W mi d mc ms al bc bs (pc + 3) ls st Γ I L Q) : am_W mi d mc ms al bc bs pc ls (.int y :: .int x :: st) Γ I L Q := by
  intro p l e s m args below meth c D A Γ0 x0 S xx H locs cells slots la h1 h2 h3 h4 h5 h6
  exact lv_icmp_lt S.1 S.2.1 hd ht (fun z9 => (kt z9) _ _ _ _ _ _ _ _ _ _ _ _ _ S _ _ _ _ _ _ h1 h2 h3 h4 h5 h6) (fun z9 => (kf z9) _ _ _ _ _ _ _ _ _ _ _ _ _ S _ _ _ _ _ _ h1 h2 h3 h4 h5 h6)
theorem aw_if_ge {y : Int32} {off : Int} {tgt : Nat} (hd : decode mi.2.1 pc = .ok (.ifCond .ge off, 3)) (ht : (pc : Int) + off = (tgt : Int)) (kt : 0 ≤ y → am_W mi d mc ms al bc bs tgt ls st Γ I L Q) (kf : ¬ 0 ≤ y → am_W mi d mc ms al bc bs (pc + 3) ls st Γ I L Q) : am_W mi d mc ms al bc bs pc ls (.int y :: st) Γ I L Q := by
  intro p l e s m args below meth c D A Γ0 x0 S x H locs cells slots la h1 h2 h3 h4 h5 h6
  exact lv_if_ge S.1 S.2.1 hd ht (fun z9 => (kt z9) _ _ _ _ _ _ _ _ _ _ _ _ _ S _ _ _ _ _ _ h1 h2 h3 h4 h5 h6) (fun z9 => (kf z9) _ _ _ _ _ _ _ _ _ _ _ _ _ S _ _ _ _ _ _ h1 h2 h3 h4 h5 h6)
theorem aw_icmp_ge {x y : Int32} {off : Int} {tgt : Nat} (hd : decode mi.2.1 pc = .ok (.if_icmp .ge off, 3)) (ht : (pc : Int) + off = (tgt : Int)) (kt : y ≤ x → am_W mi d mc ms al bc bs tgt ls st Γ I L Q) (kf : ¬ y ≤ x → am_W mi d mc ms al bc bs (pc + 3) ls st Γ I L Q) : am_W mi d mc ms al bc bs pc ls (.int y :: .int x :: st) Γ I L Q := by
  intro p l e s m args below meth c D A Γ0 x0 S xx H locs cells slots la h1 h2 h3 h4 h5 h6
  exact lv_icmp_ge S.1 S.2.1 hd ht (fun z9 => (kt z9) _ _ _ _ _ _ _ _ _ _ _ _ _ S _ _ _ _ _ _ h1 h2 h3 h4 h5 h6) (fun z9 => (kf z9) _ _ _ _ _ _ _ _ _ _ _ _ _ S _ _ _ _ _ _ h1 h2 h3 h4 h5 h6)
theorem aw_if_gt {y : Int32} {off : Int} {tgt : Nat} (hd : decode mi.2.1 pc = .ok (.ifCond .gt off, 3)) (ht : (pc : Int) + off = (tgt : Int)) (kt : 0 < y → am_W mi d mc ms al bc bs tgt ls st Γ I L Q) (kf : ¬ 0 < y → am_W mi d mc ms al bc bs (pc + 3) ls st Γ I L Q) : am_W mi d mc ms al bc bs pc ls (.int y :: st) Γ I L Q := by
  intro p l e s m args below meth c D A Γ0 x0 S x H locs cells slots la h1 h2 h3 h4 h5 h6
  exact lv_if_gt S.1 S.2.1 hd ht (fun z9 => (kt z9) _ _ _ _ _ _ _ _ _ _ _ _ _ S _ _ _ _ _ _ h1 h2 h3 h4 h5 h6) (fun z9 => (kf z9) _ _ _ _ _ _ _ _ _ _ _ _ _ S _ _ _ _ _ _ h1 h2 h3 h4 h5 h6)
theorem aw_icmp_gt {x y : Int32} {off : Int} {tgt : Nat} (hd : decode mi.2.1 pc = .ok (.if_icmp .gt off, 3)) (ht : (pc : Int) + off = (tgt : Int)) (kt : y < x → am_W mi d mc ms al bc bs tgt ls st Γ I L Q) (kf : ¬ y < x → am_W mi d mc ms al bc bs (pc + 3) ls st Γ I L Q) : am_W mi d mc ms al bc bs pc ls (.int y :: .int x :: st) Γ I L Q := by
  intro p l e s m args below meth c D A Γ0 x0 S xx H locs cells slots la h1 h2 h3 h4 h5 h6
  exact lv_icmp_gt S.1 S.2.1 hd ht (fun z9 => (kt z9) _ _ _ _ _ _ _ _ _ _ _ _ _ S _ _ _ _ _ _ h1 h2 h3 h4 h5 h6) (fun z9 => (kf z9) _ _ _ _ _ _ _ _ _ _ _ _ _ S _ _ _ _ _ _ h1 h2 h3 h4 h5 h6)
theorem aw_if_le {y : Int32} {off : Int} {tgt : Nat} (hd : decode mi.2.1 pc = .ok (.ifCond .le off, 3)) (ht : (pc : Int) + off = (tgt : Int)) (kt : y ≤ 0 → am_W mi d mc ms al bc bs tgt ls st Γ I L Q) (kf : ¬ y ≤ 0 → am_W mi d mc ms al bc bs (pc + 3) ls st Γ I L Q) : am_W mi d mc ms al bc bs pc ls (.int y :: st) Γ I L Q := by
  intro p l e s m args below meth c D A Γ0 x0 S x H locs cells slots la h1 h2 h3 h4 h5 h6
  exact lv_if_le S.1 S.2.1 hd ht (fun z9 => (kt z9) _ _ _ _ _ _ _ _ _ _ _ _ _ S _ _ _ _ _ _ h1 h2 h3 h4 h5 h6) (fun z9 => (kf z9) _ _ _ _ _ _ _ _ _ _ _ _ _ S _ _ _ _ _ _ h1 h2 h3 h4 h5 h6)
theorem aw_icmp_le {x y : Int32} {off : Int} {tgt : Nat} (hd : decode mi.2.1 pc = .ok (.if_icmp .le off, 3)) (ht : (pc : Int) + off = (tgt : Int)) (kt : x ≤ y → am_W mi d mc ms al bc bs tgt ls st Γ I L Q) (kf : ¬ x ≤ y → am_W mi d mc ms al bc bs (pc + 3) ls st Γ I L Q) : am_W mi d mc ms al bc bs pc ls (.int y :: .int x :: st) Γ I L Q := by
  intro p l e s m args below meth c D A Γ0 x0 S xx H locs cells slots la h1 h2 h3 h4 h5 h6
  exact lv_icmp_le S.1 S.2.1 hd ht (fun z9 => (kt z9) _ _ _ _ _ _ _ _ _ _ _ _ _ S _ _ _ _ _ _ h1 h2 h3 h4 h5 h6) (fun z9 => (kf z9) _ _ _ _ _ _ _ _ _ _ _ _ _ S _ _ _ _ _ _ h1 h2 h3 h4 h5 h6)
theorem aw_goto {off : Int} {tgt : Nat} (hd : decode mi.2.1 pc = .ok (.goto off, 3)) (ht : (pc : Int) + off = (tgt : Int)) (kk : am_W mi d mc ms al bc bs tgt ls st Γ I L Q) : am_W mi d mc ms al bc bs pc ls st Γ I L Q := by
  intro p l e s m args below meth c D A Γ0 x0 S x H locs cells slots la h1 h2 h3 h4 h5 h6
  exact lv_goto S.1 S.2.1 hd ht (kk _ _ _ _ _ _ _ _ _ _ _ _ _ S _ _ _ _ _ _ h1 h2 h3 h4 h5 h6)
theorem aw_tblIn {dflt lo hi : Int} {offs : Array Int} {len : Nat} {y : Int32} {off : Int} {tgt : Nat} (hd : decode mi.2.1 pc = .ok (.tableswitch dflt lo hi offs, len)) (g1 : ¬ y.toInt < lo) (g2 : ¬ hi < y.toInt) (ho : offs[(y.toInt - lo).toNat]? = some off) (ht : (pc : Int) + off = (tgt : Int)) (kk : am_W mi d mc ms al bc bs tgt ls st Γ I L Q) : am_W mi d mc ms al bc bs pc ls (.int y :: st) Γ I L Q := by
  intro p l e s m args below meth c D A Γ0 x0 S x H locs cells slots la h1 h2 h3 h4 h5 h6
  exact lv_tableIn S.1 S.2.1 hd g1 g2 ho ht (kk _ _ _ _ _ _ _ _ _ _ _ _ _ S _ _ _ _ _ _ h1 h2 h3 h4 h5 h6)
theorem aw_tblOut {dflt lo hi : Int} {offs : Array Int} {len : Nat} {y : Int32} {tgt : Nat} (hd : decode mi.2.1 pc = .ok (.tableswitch dflt lo hi offs, len)) (g1 : y.toInt < lo ∨ hi < y.toInt) (ht : (pc : Int) + dflt = (tgt : Int)) (kk : am_W mi d mc ms al bc bs tgt ls st Γ I L Q) : am_W mi d mc ms al bc bs pc ls (.int y :: st) Γ I L Q := by
  intro p l e s m args below meth c D A Γ0 x0 S x H locs cells slots la h1 h2 h3 h4 h5 h6
  exact lv_tableOut S.1 S.2.1 hd g1 ht (kk _ _ _ _ _ _ _ _ _ _ _ _ _ S _ _ _ _ _ _ h1 h2 h3 h4 h5 h6)
theorem aw_iret {y : Int32} (hd : decode mi.2.1 pc = .ok (.ireturn, 1)) (hr : mi.2.2.2.1 = some .int) (hq : Q (.inl (some (.int y))) Γ I L) : am_W mi d mc ms al bc bs pc ls [.int y] Γ I L Q := by
  intro p l e s m args below meth c D A Γ0 x0 S x H locs cells slots la h1 h2 h3 h4 h5 h6
  have hlocks : meth.locks = false := S.2.2.2.2.2.2.2.1
  refine W.widen (k := mc) (n := ms) (by omega) (by omega) (vx_ret ?_)
  exact W.iret S.1 S.2.1 (S.2.2.2.1.trans hr) (fun t ht hW => ⟨⟨some (.int y), Γ, I, L, x, rfl, hq, h1, by rw [ht]; exact ⟨h2.1, h2.2.1, h2.2.2.moved hW.alike⟩⟩, h3.F ht⟩) h3.2.2 hd
theorem aw_lret {y : Int64} (hd : decode mi.2.1 pc = .ok (.lreturn, 1)) (hr : mi.2.2.2.1 = some .long) (hq : Q (.inl (some (.long y))) Γ I L) : am_W mi d mc ms al bc bs pc ls [.long y] Γ I L Q := by
  intro p l e s m args below meth c D A Γ0 x0 S x H locs cells slots la h1 h2 h3 h4 h5 h6
  have hlocks : meth.locks = false := S.2.2.2.2.2.2.2.1
  refine W.widen (k := mc) (n := ms) (by omega) (by omega) (vx_ret ?_)
  exact W.lret S.1 S.2.1 (S.2.2.2.1.trans hr) (fun t ht hW => ⟨⟨some (.long y), Γ, I, L, x, rfl, hq, h1, by rw [ht]; exact ⟨h2.1, h2.2.1, h2.2.2.moved hW.alike⟩⟩, h3.F ht⟩) h3.2.2 hd
theorem aw_fret {y : UInt32} (hd : decode mi.2.1 pc = .ok (.freturn, 1)) (hr : mi.2.2.2.1 = some .float) (hq : Q (.inl (some (.float y))) Γ I L) : am_W mi d mc ms al bc bs pc ls [.float y] Γ I L Q := by
  intro p l e s m args below meth c D A Γ0 x0 S x H locs cells slots la h1 h2 h3 h4 h5 h6
  have hlocks : meth.locks = false := S.2.2.2.2.2.2.2.1
  refine W.widen (k := mc) (n := ms) (by omega) (by omega) (vx_ret ?_)
  exact W.fret S.1 S.2.1 (S.2.2.2.1.trans hr) (fun t ht hW => ⟨⟨some (.float y), Γ, I, L, x, rfl, hq, h1, by rw [ht]; exact ⟨h2.1, h2.2.1, h2.2.2.moved hW.alike⟩⟩, h3.F ht⟩) h3.2.2 hd
theorem aw_dret {y : UInt64} (hd : decode mi.2.1 pc = .ok (.dreturn, 1)) (hr : mi.2.2.2.1 = some .double) (hq : Q (.inl (some (.double y))) Γ I L) : am_W mi d mc ms al bc bs pc ls [.double y] Γ I L Q := by
  intro p l e s m args below meth c D A Γ0 x0 S x H locs cells slots la h1 h2 h3 h4 h5 h6
  have hlocks : meth.locks = false := S.2.2.2.2.2.2.2.1
  refine W.widen (k := mc) (n := ms) (by omega) (by omega) (vx_ret ?_)
  exact W.dret S.1 S.2.1 (S.2.2.2.1.trans hr) (fun t ht hW => ⟨⟨some (.double y), Γ, I, L, x, rfl, hq, h1, by rw [ht]; exact ⟨h2.1, h2.2.1, h2.2.2.moved hW.alike⟩⟩, h3.F ht⟩) h3.2.2 hd
theorem aw_zret {y : Int32} {ty : FieldType} (hd : decode mi.2.1 pc = .ok (.ireturn, 1)) (hr : mi.2.2.2.1 = some ty) (hz : narrow ty (.int y) = .int y) (hq : Q (.inl (some (.int y))) Γ I L) : am_W mi d mc ms al bc bs pc ls [.int y] Γ I L Q := by
  intro p l e s m args below meth c D A Γ0 x0 S x H locs cells slots la h1 h2 h3 h4 h5 h6
  have hlocks : meth.locks = false := S.2.2.2.2.2.2.2.1
  refine W.widen (k := mc) (n := ms) (by omega) (by omega) (vx_ret ?_)
  exact W.zret S.1 S.2.1 (S.2.2.2.1.trans hr) hz (fun t ht hW => ⟨⟨some (.int y), Γ, I, L, x, rfl, hq, h1, by rw [ht]; exact ⟨h2.1, h2.2.1, h2.2.2.moved hW.alike⟩⟩, h3.F ht⟩) h3.2.2 hd
theorem aw_vret (hd : decode mi.2.1 pc = .ok (.return_, 1)) (hr : mi.2.2.2.1 = none) (hq : Q (.inl none) Γ I L) : am_W mi d mc ms al bc bs pc ls [] Γ I L Q := by
  intro p l e s m args below meth c D A Γ0 x0 S x H locs cells slots la h1 h2 h3 h4 h5 h6
  have hlocks : meth.locks = false := S.2.2.2.2.2.2.2.1
  refine W.widen (k := mc) (n := ms) (by omega) (by omega) (vx_ret ?_)
  exact W.vret S.1 S.2.1 (S.2.2.2.1.trans hr) (fun t ht hW => ⟨⟨none, Γ, I, L, x, rfl, hq, h1, by rw [ht]; exact ⟨h2.1, h2.2.1, h2.2.2.moved hW.alike⟩⟩, h3.F ht⟩) h3.2.2 hd
end AWR
