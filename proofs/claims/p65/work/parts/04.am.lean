/-! THE NUMBERED MACHINE. Cells are numbered in the order in which they are made; what they hold lies in three functions: whole numbers, longs, references. A method's body over it is one judgement, am_W; a contract is am_C. -/
abbrev am_D : Type := va_G × (Nat → Nat)
abbrev am_X : Type := (Nat → Nat) × (Nat → ClassId)
abbrev am_G : Type := Nat × (Nat → Nat × Nat × Nat) × (Nat → Nat → Option Nat)
abbrev am_I : Type := Nat → Nat → Int32
abbrev am_L : Type := Nat → Nat → Int64
abbrev am_O : Type := Sum (Option Value) String
abbrev am_Q : Type := am_O → am_G → am_I → am_L → Prop
abbrev am_M : Type := MethodName × ByteArray × Nat × Option FieldType × List (Nat × Nat × Nat × Nat) × Option (Nat × (Nat → Int32))
/-- a value of the numbered machine as a value: a reference is a cell's number, a text is its place -/
def am_cv (D : am_D) (x : am_X) : Value → Value
  | .ref k => .ref (x.1 k)
  | .retAddr i => .ref (D.2 i)
  | v => v
theorem am_cat (D : am_D) (x : am_X) (v : Value) : (am_cv D x v).category = v.category := by cases v <;> rfl
theorem am_cats (D : am_D) (x : am_X) (st : List Value) : ((st.map (am_cv D x)).map fun v => v.category) = st.map fun v => v.category := by
  rw [List.map_map]
  exact List.map_congr_left (fun v _ => am_cat D x v)
/-- the fields' kinds: 0 a whole number, 1 a long, 2 a reference -/
def am_tab : List (List Nat) := [[1, 0, 0, 0, 2, 2], [2, 0, 0], [2, 0, 2, 0], [2, 0, 0, 0, 0, 2, 2, 0, 0, 0, 1, 0], [2, 2, 2, 2, 2, 2, 2, 0], [0, 0, 0, 0, 2, 2, 2, 2, 2, 2, 2], [0, 0, 0, 0, 0, 0, 0, 0], [0, 2, 2, 2, 2], [2, 2, 2, 2, 2, 2, 2, 2], [2, 0, 0, 0], [2, 0, 0, 0]]
def am_ft (c f : Nat) : Nat := (am_tab.getD c []).getD f 2
def am_nf (c : Nat) : Nat := (am_tab.getD c []).length
def am_fv (x : am_X) (t : Nat) (i : Int32) (l : Int64) (r : Option Nat) : Value := match t with
  | 0 => .int i
  | 1 => .long l
  | _ => va_rf (r.map x.1)
/-- a cell: (0, class, 0) an object; (1, n, 0) an int[], 2 a byte[], 3 a boolean[], 4 a long[], 5 a double[]; (6, n, class) an array of objects -/
def am_ce (x : am_X) (k : Nat) (t : Nat × Nat × Nat) (i : Nat → Int32) (l : Nat → Int64) (r : Nat → Option Nat) : va_E := match t.1 with
  | 0 => .inr (t.2.1, (List.range (am_nf t.2.1)).map (fun f => am_fv x (am_ft t.2.1 f) (i f) (l f) (r f)))
  | 1 => .inl (x.2 k, (t.2.1, .inl i))
  | 2 => .inl (x.2 k, (t.2.1, .inl i))
  | 3 => .inl (x.2 k, (t.2.1, .inl i))
  | 4 => .inl (x.2 k, (t.2.1, .inr (.inl l)))
  | 5 => .inl (x.2 k, (t.2.1, .inr (.inr (.inr (.inl (fun j => (l j).toUInt64))))))
  | _ => .inl (x.2 k, (t.2.1, .inr (.inr (.inr (.inr (fun j => (r j).map x.1))))))
def am_cn (c : Nat) : String := ((vwCl[c]?).map (fun q => q.1)).getD ""
def am_ty (t : Nat × Nat × Nat) : FieldType := match t.1 with
  | 0 => .int
  | 1 => .int
  | 2 => .byte
  | 3 => .boolean
  | 4 => .long
  | 5 => .double
  | _ => .object (am_cn t.2.2)
def am_ws (x : am_X) (Γ : am_G) (I : am_I) (L : am_L) : va_W := (List.range Γ.1).map (fun k => (x.1 k, am_ce x k (Γ.2.1 k) (I k) (L k) (Γ.2.2 k)))
theorem am_ws_at {x : am_X} {Γ : am_G} {I : am_I} {L : am_L} {k : Nat} (h : k < Γ.1) : (am_ws x Γ I L)[k]? = some (x.1 k, am_ce x k (Γ.2.1 k) (I k) (L k) (Γ.2.2 k)) := by
  unfold am_ws
  rw [List.getElem?_map, List.getElem?_range h]
  rfl
theorem am_ws_out {x : am_X} {Γ : am_G} {I : am_I} {L : am_L} {k : Nat} (h : ¬ k < Γ.1) : (am_ws x Γ I L)[k]? = none := by
  rw [List.getElem?_eq_none_iff]
  unfold am_ws
  rw [List.length_map, List.length_range]
  omega
/-- one cell's contents replaced -/
theorem am_ws_set {x : am_X} {Γ Γ' : am_G} {I I' : am_I} {L L' : am_L} {k : Nat} {e' : va_E} (hk : k < Γ.1) (h1 : Γ'.1 = Γ.1) (hc : am_ce x k (Γ'.2.1 k) (I' k) (L' k) (Γ'.2.2 k) = e')
    (ho : ∀ j, j ≠ k → Γ'.2.1 j = Γ.2.1 j ∧ I' j = I j ∧ L' j = L j ∧ Γ'.2.2 j = Γ.2.2 j) : (am_ws x Γ I L).set k (x.1 k, e') = am_ws x Γ' I' L' := by
  refine List.ext_getElem? (fun j => ?_)
  rw [List.getElem?_set]
  by_cases hj : k = j
  · subst hj
    rw [if_pos rfl, if_pos (by unfold am_ws; rw [List.length_map, List.length_range]; exact hk), am_ws_at (by rw [h1]; exact hk), hc]
  · rw [if_neg hj]
    by_cases hl : j < Γ.1
    · obtain ⟨g0, g1, g2, g3⟩ := ho j (fun z => hj z.symm)
      rw [am_ws_at hl, am_ws_at (by rw [h1]; exact hl), g0, g1, g2, g3]
    · rw [am_ws_out hl, am_ws_out (by rw [h1]; exact hl)]
/-- one more cell -/
theorem am_ws_push {x x' : am_X} {Γ Γ' : am_G} {I I' : am_I} {L L' : am_L} {q : Nat} {e' : va_E} (h1 : Γ'.1 = Γ.1 + 1) (hq : x'.1 Γ.1 = q) (hc : am_ce x' Γ.1 (Γ'.2.1 Γ.1) (I' Γ.1) (L' Γ.1) (Γ'.2.2 Γ.1) = e')
    (ho : ∀ j, j < Γ.1 → x'.1 j = x.1 j ∧ am_ce x' j (Γ'.2.1 j) (I' j) (L' j) (Γ'.2.2 j) = am_ce x j (Γ.2.1 j) (I j) (L j) (Γ.2.2 j)) : am_ws x Γ I L ++ [(q, e')] = am_ws x' Γ' I' L' := by
  unfold am_ws
  rw [h1, List.range_succ, List.map_append]
  congr 1
  · refine List.map_congr_left (fun j hj => ?_)
    obtain ⟨g1, g2⟩ := ho j (List.mem_range.mp hj)
    rw [g1, g2]
  · show [(q, e')] = [(x'.1 Γ.1, _)]
    rw [hq, hc]
/-- references lead to cells that are there -/
def am_cl (Γ : am_G) : Prop := ∀ j f r, j < Γ.1 → Γ.2.2 j f = some r → r < Γ.1
def am_T (x : am_X) (Γ : am_G) (s : State) : Prop := (∀ k, k < Γ.1 → (Γ.2.1 k).1 ≠ 0 → ArrOfT s (x.2 k) (am_ty (Γ.2.1 k)) ∧ va_RA s (x.2 k) (am_ty (Γ.2.1 k))) ∧ am_cl Γ
theorem am_T.moved {x : am_X} {Γ : am_G} {u U : State} (hvm : u.vm.Alike U.vm) (h : am_T x Γ u) : am_T x Γ U := ⟨fun k hk h0 => ⟨arrOfT_moved hvm (h.1 k hk h0).1, (h.1 k hk h0).2.moved hvm⟩, h.2⟩
/-- the cells, as they stand in the heap -/
def am_B (D : am_D) (A : Nat → Prop) (x : am_X) (Γ : am_G) (I : am_I) (L : am_L) (s : State) (H : Heap) : Prop := va_P D.1 vwCl (am_ws x Γ I L) H ∧ va_D A (am_ws x Γ I L) ∧ am_T x Γ s
def am_nw : Cond → Bool
  | .methodLinkNest .. => true
  | .castable .. => true
  | .declares _ => true
  | _ => false
/-- private methods of AbstractStringBuilder, called on a StringBuilder -/
def am_js : List MethodName := [⟨"java/lang/AbstractStringBuilder", "ensureCapacityInternal", "(I)V"⟩, ⟨"java/lang/AbstractStringBuilder", "newCapacity", "(I)I"⟩, ⟨"java/lang/AbstractStringBuilder", "putStringAt", "(ILjava/lang/String;)V"⟩, ⟨"java/lang/AbstractStringBuilder", "inflateIfNeededFor", "(Ljava/lang/String;)V"⟩]
def am_jw : List Cond := am_js.map (fun y => Cond.selects "java/lang/StringBuilder" y y)
def am_Tb : List Cond := am_jw ++ lw_tbl
def am_Gl : List Cond := am_Tb.filter goodWord
def am_Nl : List Cond := lw_tbl.filter am_nw
def am_nc : List (String × String) := [("java/lang/IndexOutOfBoundsException", "java/lang/IllegalArgumentException"), ("java/lang/IndexOutOfBoundsException", "java/lang/IllegalStateException"), ("java/lang/IllegalArgumentException", "java/lang/IndexOutOfBoundsException"), ("java/lang/IllegalArgumentException", "java/lang/IllegalStateException"), ("java/lang/IllegalStateException", "java/lang/IndexOutOfBoundsException"), ("java/lang/IllegalStateException", "java/lang/IllegalArgumentException")]
def am_sn : Nat := 16
def am_sl : List Nat := [229, 5, 3, 4, 4, 4, 5, 5, 4, 5, 5, 6, 5, 6, 2, 6]
def am_sb : List (List Int32) := [[116, 111, 108, 108, 115, 59, 32, 97, 115, 107, 32, 119, 104, 101, 101, 108, 115, 32, 49, 59, 32, 97, 115, 107, 32, 108, 111, 97, 100, 32, 50, 59, 32, 97, 115, 107, 32, 98, 101, 97, 115, 116, 32, 49, 59, 32, 99, 97, 114, 116, 32, 98, 97, 114, 114, 111, 119, 32, 50, 59, 32, 99, 97, 114, 116, 32, 100, 114, 97, 121, 32, 53, 32, 119, 104, 101, 101, 108, 115, 32, 108, 111, 97, 100, 59, 32, 99, 97, 114, 116, 32, 99, 111, 97, 99, 104, 32, 55, 32, 119, 104, 101, 101, 108, 115, 32, 98, 101, 97, 115, 116, 59, 32, 99, 97, 114, 116, 32, 119, 97, 103, 111, 110, 32, 57, 32, 119, 104, 101, 101, 108, 115, 32, 108, 111, 97, 100, 32, 98, 101, 97, 115, 116, 59, 32, 99, 97, 114, 116, 32, 109, 117, 108, 101, 32, 51, 32, 98, 101, 97, 115, 116, 59, 32, 103, 97, 116, 101, 32, 110, 111, 114, 116, 104, 32, 54, 32, 50, 48, 32, 57, 32, 52, 48, 32, 50, 53, 32, 49, 48, 32, 49, 53, 32, 49, 48, 59, 32, 103, 97, 116, 101, 32, 115, 111, 117, 116, 104, 32, 48, 32, 50, 51, 32, 50, 32, 53, 32, 53, 48, 32, 53, 32, 51, 48, 32, 49, 48, 59], [116, 111, 108, 108, 115], [97, 115, 107], [99, 97, 114, 116], [103, 97, 116, 101], [112, 97, 115, 115], [98, 117, 105, 108, 100], [104, 97, 108, 118, 101], [116, 111, 108, 108], [108, 105, 109, 105, 116], [104, 111, 117, 114, 115], [116, 111, 108, 108, 115, 59], [97, 115, 107, 32, 113], [99, 97, 114, 116, 32, 116], [32, 113], [103, 97, 116, 101, 32, 103]]
def am_sr : List (String × Nat × String × Nat) := [("TollTrees", 57, "tolls; ask wheels 1; ask load 2; ask beast 1; cart barrow 2; cart dray 5 wheels load; cart coach 7 wheels beast; cart wagon 9 wheels load beast; cart mule 3 beast; gate north 6 20 9 40 25 10 15 10; gate south 0 23 2 5 50 5 30 10;", 0), ("TollTrees$Reader", 98, "tolls", 1), ("TollTrees$Reader", 115, "ask", 2), ("TollTrees$Reader", 147, "cart", 3), ("TollTrees$Reader", 169, "gate", 4), ("TollTrees$Reader", 212, "pass", 5), ("TollTrees$Reader", 217, "build", 6), ("TollTrees$Reader", 222, "halve", 7), ("TollTrees$Reader", 227, "toll", 8), ("TollTrees$Reader", 232, "limit", 9), ("TollTrees$Reader", 236, "hours", 10), ("TollTreesLaw", 271, "tolls;", 11), ("TollTreesLaw", 276, "ask q", 12), ("TollTreesLaw", 287, "cart t", 13), ("TollTreesLaw", 289, " q", 14), ("TollTreesLaw", 291, "gate g", 15)]
/-- the JDK's two tables of digits -/
def dgS (D : am_D) (A : Nat → Prop) (s : State) : Prop :=
  (va_Z "java/lang/Integer" "DigitOnes" "[B" (.ref (D.2 61)) A s s.heap ∧ va_T .byte (D.2 61) 100 (fun j => .int (Int32.ofNat (48 + j % 10))) A s s.heap) ∧
  (va_Z "java/lang/Integer" "DigitTens" "[B" (.ref (D.2 62)) A s s.heap ∧ va_T .byte (D.2 62) 100 (fun j => .int (Int32.ofNat (48 + j / 10))) A s s.heap)
theorem dgS.to {D : am_D} {A : Nat → Prop} {s U : State} {locs : List Loc} (h : dgS D A s) (hS : va_S A s.heap U.heap locs) (hW : s.WarmedH U.vm) : dgS D A U := by
  obtain ⟨⟨a, b⟩, c, d⟩ := h
  exact ⟨⟨va_Z.moved hW.alike (a.kept hS.2.1), va_T.moved hW.alike (b.kept hS.2.1)⟩, va_Z.moved hW.alike (c.kept hS.2.1), va_T.moved hW.alike (d.kept hS.2.1)⟩
theorem dgS.narrow {D : am_D} {A B : Nat → Prop} {s : State} (h : dgS D A s) (hAB : ∀ q, B q → A q) : dgS D B s := by
  obtain ⟨⟨a, b⟩, c, d⟩ := h
  exact ⟨⟨a.narrow hAB, b.narrow hAB⟩, c.narrow hAB, d.narrow hAB⟩
/-- what stays: classes, statics, words, texts -/
def am_Sx (D : am_D) (A : Nat → Prop) (s : State) : Prop :=
  (∀ (c : Nat) (q : vw_C), vwCl[c]? = some q → u_Kn s q.1 q.2.1 q.2.2 (D.1.1 c) (D.1.2 c)) ∧
  vx_Zq Bundle.tN "UNASSIGNED_STACK" Bundle.steD A s s.heap ∧ vx_Zq Bundle.tN "SUPPRESSED_SENTINEL" Bundle.listD A s s.heap ∧
  (∀ w ∈ am_Nl, va_Nw w s) ∧ (va_AO "TollTrees$Gate" s ∧ va_AO "TollTrees$Station" s) ∧ (∀ q ∈ am_nc, va_Nc q.1 q.2 s) ∧
  (va_Z "java/lang/String" "COMPACT_STRINGS" "Z" (.int 1) A s s.heap ∧ vk_S am_sn am_sl am_sb D.2 (fun i => D.2 (100 + i)) A s s.heap ∧ (va_Z "jdk/internal/util/Preconditions" "SIOOBE_FORMATTER" "Ljava/util/function/BiFunction;" .null A s s.heap ∨ va_Z "jdk/internal/util/Preconditions" "SIOOBE_FORMATTER" "Ljava/util/function/BiFunction;" (.ref (D.2 51)) A s s.heap)) ∧ (∀ q ∈ am_sr, vk_R q.1 q.2.1 q.2.2.1 (D.2 q.2.2.2) s) ∧ dgS D A s
theorem am_nw_warm {w : Cond} (hw : am_nw w = true) {s U : State} (hW : s.WarmedH U.vm) (h : va_Nw w s) : va_Nw w U := by
  cases w <;> first | exact va_Nw.warmM hW h | exact va_Nw.warmC hW h | exact va_Nw.warmD hW h | (simp [am_nw] at hw)
theorem am_Sx.to {D : am_D} {A : Nat → Prop} {s U : State} {H : Heap} {locs : List Loc} (h : am_Sx D A s) (hS : va_S A s.heap H locs) (hU : U.heap = H) (hW : s.WarmedH U.vm) : am_Sx D A U := by
  obtain ⟨k1, k2, k3, k4, ⟨k5, k6⟩, k7, ⟨k0, k8, kf⟩, k9, kd⟩ := h
  subst hU
  exact ⟨fun c q hq => u_Kn_moved hW.alike (k1 c q hq), vx_Zq.moved hW.alike (k2.kept hS.2.1), vx_Zq.moved hW.alike (k3.kept hS.2.1),
    fun w hw => am_nw_warm (List.mem_filter.mp hw).2 hW (k4 w hw), ⟨k5.moved hW.alike, k6.moved hW.alike⟩, fun q hq => (k7 q hq).moved hW.alike,
    ⟨va_Z.moved hW.alike (k0.kept hS.2.1), vk_S.moved hW.alike (k8.kept hS.2.1), kf.imp (fun z => va_Z.moved hW.alike (z.kept hS.2.1)) (fun z => va_Z.moved hW.alike (z.kept hS.2.1))⟩, fun q hq => vk_R.warm hW (k9 q hq), dgS.to kd hS hW⟩
def am_P (D : am_D) (A : Nat → Prop) (x : am_X) (Γ : am_G) (I : am_I) (L : am_L) : State → Prop := fun U => (∀ q, U.heap.size ≤ q → A q) ∧ am_Sx D A U ∧ am_B D A x Γ I L U U.heap
theorem am_P_blind {D : am_D} {A : Nat → Prop} {x : am_X} {Γ : am_G} {I : am_I} {L : am_L} {av : List Value} : FrameBlind (va_Pc av (am_P D A x Γ I L)) := by
  intro a U g mk h
  obtain ⟨h1, h2, h3, h4, h5, h6⟩ := h
  exact ⟨h1, h2, h3.to (U := U.calling g mk a) va_S.rf rfl (State.WarmedH.refl U), h4, h5, am_T.moved (u := U) (U := U.calling g mk a) (Vm.Alike.refl U.vm) h6⟩
/-- what may have grown -/
def am_agr : Bool → am_G → am_X → am_G → am_X → Prop
  | true, Γ0, x0, Γ, x => Γ0.1 ≤ Γ.1 ∧ ∀ k, k < Γ0.1 → x.1 k = x0.1 k
  | false, Γ0, x0, Γ, x => Γ = Γ0 ∧ x = x0
theorem am_agr.rf {al : Bool} {Γ : am_G} {x : am_X} : am_agr al Γ x Γ x := by
  cases al
  · exact ⟨rfl, rfl⟩
  · exact ⟨Nat.le_refl _, fun _ _ => rfl⟩
theorem am_agr.tr {Γ0 Γ1 Γ2 : am_G} {x0 x1 x2 : am_X} (h : am_agr true Γ0 x0 Γ1 x1) (h2 : am_agr true Γ1 x1 Γ2 x2) : am_agr true Γ0 x0 Γ2 x2 :=
  ⟨Nat.le_trans h.1 h2.1, fun k hk => (h2.2 k (Nat.lt_of_lt_of_le hk h.1)).trans (h.2 k hk)⟩
def am_Qc (D : am_D) (A : Nat → Prop) (al : Bool) (Γ0 : am_G) (x0 : am_X) (Q : am_Q) : Array Value → State → Outcome → State → Prop := fun _ st o t =>
  (∃ (v : Option Value) (Γ : am_G) (I : am_I) (L : am_L) (x : am_X), o = .returned (v.map (am_cv D x)) ∧ Q (.inl v) Γ I L ∧ am_agr al Γ0 x0 Γ x ∧ am_B D A x Γ I L t t.heap) ∧ va_F A st t
def am_XC (D : am_D) (A : Nat → Prop) (al : Bool) (Γ0 : am_G) (x0 : am_X) (Q : am_Q) : String → State → State → Prop := fun E st t =>
  (∃ (Γ : am_G) (I : am_I) (L : am_L) (x : am_X), Q (.inr E) Γ I L ∧ am_agr al Γ0 x0 Γ x ∧ am_B D A x Γ I L t t.heap) ∧ va_F A st t
def am_rm (d mc ms : Nat) : Room := { frames := d + 8, cells := mc, slots := ms, locals := 60 * d + 400 }
def am_wd (mi : am_M) : Cond := match mi.2.2.2.2.1 with
  | [] => .code mi.1 mi.2.1 mi.2.2.1 mi.2.2.2.1
  | hh => .codeWith mi.1 mi.2.1 mi.2.2.1 mi.2.2.2.1 hh
/-- A CONTRACT: the method mi, called with args over the cells (Γ, I, L), comes to an end that Q holds of: Sum.inl what it returns, Sum.inr the class that it throws -/
def am_C (mi : am_M) (d mc ms : Nat) (al : Bool) (args : List Value) (Γ : am_G) (I : am_I) (L : am_L) (Q : am_Q) : Prop :=
  ∀ (l : Launch), l.stackTraces = false → ∀ (D : am_D) (A : Nat → Prop) (x : am_X),
    vx_Met l mi.1 (am_wd mi :: am_Gl) (am_rm d mc ms) (va_Pc (args.map (am_cv D x)) (am_P D A x Γ I L)) (am_Qc D A al Γ x Q) (am_XC D A al Γ x Q) mc ms A
def am_lc (D : am_D) (x : am_X) (ls : List (Nat × Value)) : List (Nat × Value) := ls.map (fun q => (q.1, am_cv D x q.2))
/-- what holds all through a body -/
def am_St (mi : am_M) (p : Program) (l : Launch) (s : State) (m : MethodId) (args : Array Value) (meth : Method) (c : Code) (D : am_D) (A : Nat → Prop) : Prop :=
  p.tables.exec = Jvm.exec ∧ c.code = mi.2.1 ∧ c.maxLocals = mi.2.2.1 ∧ meth.sig.returnType = mi.2.2.2.1 ∧ c.exceptionTable.toList = tableOf mi.2.2.2.2.1 ∧ s.vm.findClass mi.1.cls = some m.cls ∧
  (∀ w ∈ am_Gl, w.before args s = true) ∧ meth.locks = false ∧ meth.name = mi.1.name ∧ l.stackTraces = false ∧ ((∀ q, s.heap.size ≤ q → A q) ∧ ∀ (n : Nat) (xs : Nat → Int32), mi.2.2.2.2.2 = some (n, xs) → va_T .int (D.2 60) n (fun j => .int (xs j)) A s s.heap) ∧ am_Sx D A s
/-- THE JUDGEMENT: from pc with the locals ls, the stack st and the cells (Γ, I, L) the body comes to an end that Q holds of; bc, bs: what it may still make, of mc, ms -/
def am_W (mi : am_M) (d mc ms : Nat) (al : Bool) (bc bs pc : Nat) (ls : List (Nat × Value)) (st : List Value) (Γ : am_G) (I : am_I) (L : am_L) (Q : am_Q) : Prop :=
  ∀ (p : Program) (l : Launch) (e : Env) (s : State) (m : MethodId) (args : Array Value) (below : List Frame) (meth : Method) (c : Code) (D : am_D) (A : Nat → Prop) (Γ0 : am_G) (x0 : am_X),
  am_St mi p l s m args meth c D A →
  ∀ (x : am_X) (H : Heap) (locs : List Loc) (cells slots : Nat) (la : Array Slot),
  am_agr al Γ0 x0 Γ x → am_B D A x Γ I L s H → va_S A s.heap H locs → cells + bc ≤ mc → slots + bs ≤ ms → lv_has la mi.2.2.1 (am_lc D x ls) →
  W p l e (am_rm d mc ms) s m args below meth c H locs cells slots (vx_MQ below (am_Qc D A al Γ0 x0 Q) (am_XC D A al Γ0 x0 Q) args s mc ms A) (F0 m pc la (st.map (am_cv D x)))
theorem am_args_map (D : am_D) (x : am_X) : ∀ (vs : List Value) (i : Nat), lv_args i (vs.map (am_cv D x)) = am_lc D x (lv_args i vs)
  | [], _ => rfl
  | v :: vs, i => by
    show (i, am_cv D x v) :: lv_args (if (am_cv D x v).category = 2 then i + 2 else i + 1) (vs.map (am_cv D x)) = (i, am_cv D x v) :: am_lc D x (lv_args (if v.category = 2 then i + 2 else i + 1) vs)
    rw [am_cat, am_args_map D x vs]
def am_sz (vs : List Value) : Nat := (vs.map fun v => v.category).sum
theorem am_sl_len (vs : List Value) : (lg_sl vs).length = am_sz vs := by
  induction vs with
  | nil => rfl
  | cons v vs ih =>
    have e : lg_sl (v :: vs) = (if v.category = 2 then [.val v, .second] else [.val v]) ++ lg_sl vs := rfl
    rw [e, List.length_append, ih]
    show _ = v.category + am_sz vs
    rcases lv_cat v with h | h
    · rw [h]; rfl
    · rw [h]; rfl
/-- a body gives a contract -/
theorem am_of {mi : am_M} {d mc ms : Nat} {al : Bool} {args : List Value} {Γ : am_G} {I : am_I} {L : am_L} {Q : am_Q} (hy : plainName mi.1.cls = true) (ht : mi.2.2.2.2.1 = []) (hsc : mi.2.2.2.2.2 = none) (hn : am_sz args ≤ mi.2.2.1)
    (h : am_W mi d mc ms al mc ms 0 (lv_args 0 args) [] Γ I L Q) : am_C mi d mc ms al args Γ I L Q := by
  intro l hl D A x
  have hwd : am_wd mi = .code mi.1 mi.2.1 mi.2.2.1 mi.2.2.2.1 := by unfold am_wd; rw [ht]
  refine vx_ofW (cc := mi.2.1) (maxL := mi.2.2.1) (ret := mi.2.2.2.1) hy (by rw [hwd]) ?_
  intro p e s m args' below meth c s₁ B hml htb hv
  obtain ⟨rfl, hA, hSx, hB⟩ := hv
  have hts := atoms_spec (ws := am_wd mi :: am_Gl) B.pre
  have hcs : ((args.map (am_cv D x)).map fun v => v.category).sum = am_sz args := by rw [am_cats]; rfl
  have hlen : (lg_sl (args.map (am_cv D x))).length ≤ mi.2.2.1 := by rw [am_sl_len]; exact Nat.le_trans (Nat.le_of_eq hcs) hn
  have hloc := lv_entry (args.map (am_cv D x)) (n := mi.2.2.1) hlen
  rw [am_args_map] at hloc
  have htab : c.exceptionTable.toList = tableOf mi.2.2.2.2.1 := by
    rw [ht]
    exact List.eq_nil_iff_forall_not_mem.mpr (fun z hz => htb z hz)
  have hown : s.vm.findClass mi.1.cls = some m.cls := findClass_of_methodNamed B.named
  have hnm : meth.name = mi.1.name := (name_of_methodNamed B.named B.method).1
  rw [lg_entry_eq]
  exact h p l e s m _ below meth c D A Γ x ⟨B.exec, B.bytes, hml, B.returns, htab, hown, fun w hw => hts w (List.mem_cons_of_mem _ hw), B.notSynchronized, hnm, hl, ⟨hA, fun n xs h => by rw [hsc] at h; cases h⟩, hSx⟩ x s.heap [] 0 0 _ am_agr.rf hB va_S.rf (Nat.le_of_eq (Nat.zero_add _)) (Nat.le_of_eq (Nat.zero_add _)) hloc
