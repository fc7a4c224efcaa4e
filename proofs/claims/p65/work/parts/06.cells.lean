/-! RULES OF THE NUMBERED MACHINE: fields and arrays -/
theorem am_at (i : Nat) {w : Cond} (h : lw_tbl[i]? = some w) (g : goodWord w = true) : w ∈ am_Gl := List.mem_filter.mpr ⟨List.mem_append_right _ (List.mem_of_getElem? h), g⟩
theorem am_jj (i : Nat) {w : Cond} (h : am_jw[i]? = some w) (g : goodWord w = true) : w ∈ am_Gl := List.mem_filter.mpr ⟨List.mem_append_left _ (List.mem_of_getElem? h), g⟩
theorem in_s1 (i : Nat) {w : Cond} (h : (k2_sels lw_privs_1)[i]? = some w) : w ∈ lw_tbl := List.mem_append_left _ (List.map_subset _ (fun _ h => List.mem_append_left _ (h)) (List.mem_of_getElem? h))
theorem am_s1 (i : Nat) {w : Cond} (h : (k2_sels lw_privs_1)[i]? = some w) (g : goodWord w = true) : w ∈ am_Gl := List.mem_filter.mpr ⟨List.mem_append_right _ (in_s1 i h), g⟩
theorem an_s1 (i : Nat) {w : Cond} (h : (k2_sels lw_privs_1)[i]? = some w) (g : am_nw w = true) : w ∈ am_Nl := List.mem_filter.mpr ⟨in_s1 i h, g⟩
theorem in_s2 (i : Nat) {w : Cond} (h : (k2_sels lw_privs_2)[i]? = some w) : w ∈ lw_tbl := List.mem_append_left _ (List.map_subset _ (fun _ h => List.mem_append_right _ (List.mem_append_left _ (h))) (List.mem_of_getElem? h))
theorem am_s2 (i : Nat) {w : Cond} (h : (k2_sels lw_privs_2)[i]? = some w) (g : goodWord w = true) : w ∈ am_Gl := List.mem_filter.mpr ⟨List.mem_append_right _ (in_s2 i h), g⟩
theorem an_s2 (i : Nat) {w : Cond} (h : (k2_sels lw_privs_2)[i]? = some w) (g : am_nw w = true) : w ∈ am_Nl := List.mem_filter.mpr ⟨in_s2 i h, g⟩
theorem in_s3 (i : Nat) {w : Cond} (h : (k2_sels lw_privs_3)[i]? = some w) : w ∈ lw_tbl := List.mem_append_left _ (List.map_subset _ (fun _ h => List.mem_append_right _ (List.mem_append_right _ (h))) (List.mem_of_getElem? h))
theorem am_s3 (i : Nat) {w : Cond} (h : (k2_sels lw_privs_3)[i]? = some w) (g : goodWord w = true) : w ∈ am_Gl := List.mem_filter.mpr ⟨List.mem_append_right _ (in_s3 i h), g⟩
theorem an_s3 (i : Nat) {w : Cond} (h : (k2_sels lw_privs_3)[i]? = some w) (g : am_nw w = true) : w ∈ am_Nl := List.mem_filter.mpr ⟨in_s3 i h, g⟩
theorem in_t1 (i : Nat) {w : Cond} (h : tables_1_1[i]? = some w) : w ∈ lw_tbl := List.mem_append_right _ (List.mem_append_left _ (List.mem_of_getElem? h))
theorem am_t1 (i : Nat) {w : Cond} (h : tables_1_1[i]? = some w) (g : goodWord w = true) : w ∈ am_Gl := List.mem_filter.mpr ⟨List.mem_append_right _ (in_t1 i h), g⟩
theorem an_t1 (i : Nat) {w : Cond} (h : tables_1_1[i]? = some w) (g : am_nw w = true) : w ∈ am_Nl := List.mem_filter.mpr ⟨in_t1 i h, g⟩
theorem in_t2 (i : Nat) {w : Cond} (h : tables_1_2[i]? = some w) : w ∈ lw_tbl := List.mem_append_right _ (List.mem_append_right _ (List.mem_append_left _ (List.mem_of_getElem? h)))
theorem am_t2 (i : Nat) {w : Cond} (h : tables_1_2[i]? = some w) (g : goodWord w = true) : w ∈ am_Gl := List.mem_filter.mpr ⟨List.mem_append_right _ (in_t2 i h), g⟩
theorem an_t2 (i : Nat) {w : Cond} (h : tables_1_2[i]? = some w) (g : am_nw w = true) : w ∈ am_Nl := List.mem_filter.mpr ⟨in_t2 i h, g⟩
theorem in_t3 (i : Nat) {w : Cond} (h : tables_1_3[i]? = some w) : w ∈ lw_tbl := List.mem_append_right _ (List.mem_append_right _ (List.mem_append_right _ (List.mem_append_left _ (List.mem_of_getElem? h))))
theorem am_t3 (i : Nat) {w : Cond} (h : tables_1_3[i]? = some w) (g : goodWord w = true) : w ∈ am_Gl := List.mem_filter.mpr ⟨List.mem_append_right _ (in_t3 i h), g⟩
theorem an_t3 (i : Nat) {w : Cond} (h : tables_1_3[i]? = some w) (g : am_nw w = true) : w ∈ am_Nl := List.mem_filter.mpr ⟨in_t3 i h, g⟩
theorem in_t4 (i : Nat) {w : Cond} (h : tables_1_4[i]? = some w) : w ∈ lw_tbl := List.mem_append_right _ (List.mem_append_right _ (List.mem_append_right _ (List.mem_append_right _ (List.mem_append_left _ (List.mem_of_getElem? h)))))
theorem am_t4 (i : Nat) {w : Cond} (h : tables_1_4[i]? = some w) (g : goodWord w = true) : w ∈ am_Gl := List.mem_filter.mpr ⟨List.mem_append_right _ (in_t4 i h), g⟩
theorem an_t4 (i : Nat) {w : Cond} (h : tables_1_4[i]? = some w) (g : am_nw w = true) : w ∈ am_Nl := List.mem_filter.mpr ⟨in_t4 i h, g⟩
theorem in_t5 (i : Nat) {w : Cond} (h : tables_1_5[i]? = some w) : w ∈ lw_tbl := List.mem_append_right _ (List.mem_append_right _ (List.mem_append_right _ (List.mem_append_right _ (List.mem_append_right _ (List.mem_append_left _ (List.mem_of_getElem? h))))))
theorem am_t5 (i : Nat) {w : Cond} (h : tables_1_5[i]? = some w) (g : goodWord w = true) : w ∈ am_Gl := List.mem_filter.mpr ⟨List.mem_append_right _ (in_t5 i h), g⟩
theorem an_t5 (i : Nat) {w : Cond} (h : tables_1_5[i]? = some w) (g : am_nw w = true) : w ∈ am_Nl := List.mem_filter.mpr ⟨in_t5 i h, g⟩
theorem in_t6 (i : Nat) {w : Cond} (h : tables_1_6[i]? = some w) : w ∈ lw_tbl := List.mem_append_right _ (List.mem_append_right _ (List.mem_append_right _ (List.mem_append_right _ (List.mem_append_right _ (List.mem_append_right _ (List.mem_append_left _ (List.mem_of_getElem? h)))))))
theorem am_t6 (i : Nat) {w : Cond} (h : tables_1_6[i]? = some w) (g : goodWord w = true) : w ∈ am_Gl := List.mem_filter.mpr ⟨List.mem_append_right _ (in_t6 i h), g⟩
theorem an_t6 (i : Nat) {w : Cond} (h : tables_1_6[i]? = some w) (g : am_nw w = true) : w ∈ am_Nl := List.mem_filter.mpr ⟨in_t6 i h, g⟩
theorem in_t7 (i : Nat) {w : Cond} (h : tables_1_7[i]? = some w) : w ∈ lw_tbl := List.mem_append_right _ (List.mem_append_right _ (List.mem_append_right _ (List.mem_append_right _ (List.mem_append_right _ (List.mem_append_right _ (List.mem_append_right _ (List.mem_of_getElem? h)))))))
theorem am_t7 (i : Nat) {w : Cond} (h : tables_1_7[i]? = some w) (g : goodWord w = true) : w ∈ am_Gl := List.mem_filter.mpr ⟨List.mem_append_right _ (in_t7 i h), g⟩
theorem an_t7 (i : Nat) {w : Cond} (h : tables_1_7[i]? = some w) (g : am_nw w = true) : w ∈ am_Nl := List.mem_filter.mpr ⟨in_t7 i h, g⟩
theorem am_uwp {ws : List Cond} (ps : List Nat) (hp : ws = ps.filterMap (fun i => lw_tbl[i]?)) (hg : ws.all goodWord = true) : ∀ w ∈ ws, w ∈ am_Gl := by
  intro w hw
  have g := List.all_eq_true.mp hg w hw
  rw [hp] at hw
  obtain ⟨i, -, hi⟩ := List.mem_filterMap.mp hw
  exact am_at i hi g
/-- what the tables say of a class of the world -/
def am_ck (ci : Nat) (r : vw_C) : Prop := (∀ w ∈ u_ws r.1 r.2.1 r.2.2, w ∈ am_Gl) ∧ r.2.2 = am_nf ci ∧ (∀ a, a < r.2.2 → ∀ b, b < r.2.2 → a ≠ b → (r.2.1 a).2.1 ≠ (r.2.1 b).2.1) ∧ ∃ ty : Nat → FieldType, (∀ k, k < r.2.2 → parseFieldDescriptor (r.2.1 k).2.2.1 = some (ty k)) ∧ ∀ k, k < r.2.2 → (am_ft ci k = 0 → ty k = .int ∨ ty k = .boolean ∨ ty k = .byte) ∧ (am_ft ci k = 1 → ty k = .long) ∧ defaultValue (ty k) = am_fv (fun _ => 0, fun _ => 0) (am_ft ci k) 0 0 none
theorem am_uw0 : ∀ w ∈ u_ws RX0 TX0 6, w ∈ am_Gl := am_uwp [219, 221, 223, 225, 227, 229] (by decide +kernel) (by decide +kernel)
theorem am_ck0 : am_ck 0 (RX0, TX0, 6) := ⟨am_uw0, by decide +kernel, nmX0, tyX0, tyX0_ok, by decide +kernel⟩
theorem am_uw1 : ∀ w ∈ u_ws RX1 TX1 3, w ∈ am_Gl := am_uwp [348, 350, 352] (by decide +kernel) (by decide +kernel)
theorem am_ck1 : am_ck 1 (RX1, TX1, 3) := ⟨am_uw1, by decide +kernel, nmX1, tyX1, tyX1_ok, by decide +kernel⟩
theorem am_uw2 : ∀ w ∈ u_ws RX2 TX2 4, w ∈ am_Gl := am_uwp [363, 365, 367, 369] (by decide +kernel) (by decide +kernel)
theorem am_ck2 : am_ck 2 (RX2, TX2, 4) := ⟨am_uw2, by decide +kernel, nmX2, tyX2, tyX2_ok, by decide +kernel⟩
theorem am_uw3 : ∀ w ∈ u_ws RX3 TX3 12, w ∈ am_Gl := am_uwp [309, 311, 313, 315, 317, 319, 321, 323, 325, 327, 329, 331] (by decide +kernel) (by decide +kernel)
theorem am_ck3 : am_ck 3 (RX3, TX3, 12) := ⟨am_uw3, by decide +kernel, nmX3, tyX3, tyX3_ok, by decide +kernel⟩
theorem am_uw4 : ∀ w ∈ u_ws RX4 TX4 8, w ∈ am_Gl := am_uwp [93, 95, 97, 99, 101, 103, 105, 107] (by decide +kernel) (by decide +kernel)
theorem am_ck4 : am_ck 4 (RX4, TX4, 8) := ⟨am_uw4, by decide +kernel, nmX4, tyX4, tyX4_ok, by decide +kernel⟩
theorem am_uw5 : ∀ w ∈ u_ws RX5 TX5 11, w ∈ am_Gl := am_uwp [267, 269, 271, 273, 275, 277, 279, 281, 283, 285, 287] (by decide +kernel) (by decide +kernel)
theorem am_ck5 : am_ck 5 (RX5, TX5, 11) := ⟨am_uw5, by decide +kernel, nmX5, tyX5, tyX5_ok, by decide +kernel⟩
theorem am_uw6 : ∀ w ∈ u_ws RX6 TX6 8, w ∈ am_Gl := am_uwp [142, 144, 146, 148, 150, 152, 154, 156] (by decide +kernel) (by decide +kernel)
theorem am_ck6 : am_ck 6 (RX6, TX6, 8) := ⟨am_uw6, by decide +kernel, nmX6, tyX6, tyX6_ok, by decide +kernel⟩
theorem am_uw7 : ∀ w ∈ u_ws RX7 TX7 5, w ∈ am_Gl := am_uwp [188, 190, 192, 194, 196] (by decide +kernel) (by decide +kernel)
theorem am_ck7 : am_ck 7 (RX7, TX7, 5) := ⟨am_uw7, by decide +kernel, nmX7, tyX7, tyX7_ok, by decide +kernel⟩
theorem am_uw8 : ∀ w ∈ u_ws RX8 TX8 8, w ∈ am_Gl := am_uwp [631, 633, 635, 637, 639, 641, 643, 645] (by decide +kernel) (by decide +kernel)
theorem am_ck8 : am_ck 8 (RX8, TX8, 8) := ⟨am_uw8, by decide +kernel, nmX8, tyX8, tyX8_ok, by decide +kernel⟩
theorem am_uw9 : ∀ w ∈ u_ws RJ0 TJ0 4, w ∈ am_Gl := am_uwp [1516, 1518, 1520, 1522] (by decide +kernel) (by decide +kernel)
theorem am_ck9 : am_ck 9 (RJ0, TJ0, 4) := ⟨am_uw9, by decide +kernel, nmJ0, tyJ0, tyJ0_ok, by decide +kernel⟩
theorem am_uw10 : ∀ w ∈ u_ws RJ4 TJ4 4, w ∈ am_Gl := am_uwp [1397, 1399, 1401, 1403] (by decide +kernel) (by decide +kernel)
theorem am_ck10 : am_ck 10 (RJ4, TJ4, 4) := ⟨am_uw10, by decide +kernel, nmJ4, tyJ4, tyJ4_ok, by decide +kernel⟩
theorem am_cks : ∀ (ci : Nat) (r : vw_C), vwCl[ci]? = some r → am_ck ci r
  | 0, _, h => by cases h; exact am_ck0
  | 1, _, h => by cases h; exact am_ck1
  | 2, _, h => by cases h; exact am_ck2
  | 3, _, h => by cases h; exact am_ck3
  | 4, _, h => by cases h; exact am_ck4
  | 5, _, h => by cases h; exact am_ck5
  | 6, _, h => by cases h; exact am_ck6
  | 7, _, h => by cases h; exact am_ck7
  | 8, _, h => by cases h; exact am_ck8
  | 9, _, h => by cases h; exact am_ck9
  | 10, _, h => by cases h; exact am_ck10
  | k + 11, r, h => by
    have : vwCl[k + 11]? = none := by rw [List.getElem?_eq_none_iff]; show 11 ≤ k + 11; omega
    rw [this] at h
    cases h
/-- the class own's entry i is field f of class ci -/
def am_lk (own : String) (i ci f : Nat) : Prop := ∃ r : vw_C, vwCl[ci]? = some r ∧ f < r.2.2 ∧ Cond.fieldLink own i (r.2.1 f).1 (r.2.1 f).2.1 (r.2.1 f).2.2.1 ∈ am_Gl
/-- .. and may be written -/
def am_lp (own : String) (i ci f : Nat) (fin : Bool) (ty : FieldType) : Prop := ∃ r : vw_C, vwCl[ci]? = some r ∧ f < r.2.2 ∧ Cond.fieldLink own i (r.2.1 f).1 (r.2.1 f).2.1 (r.2.1 f).2.2.1 ∈ am_Gl ∧ (r.2.1 f).2.2.2 = fin ∧ parseFieldDescriptor (r.2.1 f).2.2.1 = some ty ∧ (fin = true → (r.2.1 f).1 = own)
def am_ob (Γ : am_G) (k ci : Nat) : Prop := k < Γ.1 ∧ Γ.2.1 k = (0, ci, 0)
def am_ar (Γ : am_G) (k t n b : Nat) : Prop := k < Γ.1 ∧ Γ.2.1 k = (t, n, b)
def am_u (I : am_I) (k f : Nat) (v : Int32) : am_I := fun a => if a = k then upd (I k) f v else I a
def am_ul (L : am_L) (k f : Nat) (v : Int64) : am_L := fun a => if a = k then vp_updL (L k) f v else L a
def am_ur (Γ : am_G) (k f : Nat) (v : Nat) : am_G := (Γ.1, Γ.2.1, fun a => if a = k then va_up (Γ.2.2 k) f (some v) else Γ.2.2 a)
theorem am_u_self {I : am_I} {k f : Nat} {v : Int32} : am_u I k f v k = upd (I k) f v := if_pos rfl
theorem am_u_ne {I : am_I} {k f j : Nat} {v : Int32} (h : j ≠ k) : am_u I k f v j = I j := if_neg h
theorem am_ul_self {L : am_L} {k f : Nat} {v : Int64} : am_ul L k f v k = vp_updL (L k) f v := if_pos rfl
theorem am_ul_ne {L : am_L} {k f j : Nat} {v : Int64} (h : j ≠ k) : am_ul L k f v j = L j := if_neg h
theorem am_u_at {I : am_I} {k f : Nat} {v : Int32} (a b : Nat) : am_u I k f v a b = if a = k ∧ b = f then v else I a b := by
  by_cases h : a = k
  · subst h
    rw [am_u_self]
    by_cases g : b = f <;> simp [upd, g]
  · rw [am_u_ne h, if_neg (fun z => h z.1)]
theorem am_ul_at {L : am_L} {k f : Nat} {v : Int64} (a b : Nat) : am_ul L k f v a b = if a = k ∧ b = f then v else L a b := by
  by_cases h : a = k
  · subst h
    rw [am_ul_self]
    by_cases g : b = f <;> simp [vp_updL, g]
  · rw [am_ul_ne h, if_neg (fun z => h z.1)]
theorem am_map_set {n f : Nat} {g g' : Nat → Value} {v : Value} (hv : g' f = v) (ho : ∀ j, j ≠ f → g' j = g j) : (List.range n).map g' = ((List.range n).map g).set f v := by
  refine List.ext_getElem? (fun j => ?_)
  rw [List.getElem?_set, List.getElem?_map, List.getElem?_map, List.length_map, List.length_range]
  by_cases hj : j < n
  · rw [List.getElem?_range hj]
    by_cases e : f = j
    · subst e
      rw [if_pos rfl, if_pos hj]
      show some (g' f) = some v
      rw [hv]
    · rw [if_neg e]
      show some (g' j) = some (g j)
      rw [ho j (fun z => e z.symm)]
  · rw [List.getElem?_eq_none (by rw [List.length_range]; omega)]
    by_cases e : f = j
    · subst e
      rw [if_pos rfl, if_neg hj]
      rfl
    · rw [if_neg e]
      rfl
section AWC
variable {mi : am_M} {d mc ms : Nat} {al : Bool} {bc bs pc : Nat} {ls : List (Nat × Value)} {st : List Value} {Γ : am_G} {I : am_I} {L : am_L} {Q : am_Q}
theorem am_St.K {p : Program} {l : Launch} {s : State} {m : MethodId} {args : Array Value} {meth : Method} {c : Code} {D : am_D} {A : Nat → Prop} (S : am_St mi p l s m args meth c D A) {tys : List (ClassId × FieldType)} (h : ∀ (k : Nat) (q : ClassId × FieldType), tys[k]? = some q → ArrOfT s q.1 q.2 ∧ va_RA s q.1 q.2) : va_K D.1 vwCl tys s :=
  ⟨S.2.2.2.2.2.2.2.2.2.2.2.1, h⟩
theorem am_K1 {x : am_X} {s : State} {k : Nat} (hT : am_T x Γ s) (hk : k < Γ.1) (h0 : (Γ.2.1 k).1 ≠ 0) : ∀ (j : Nat) (q : ClassId × FieldType), [(x.2 k, am_ty (Γ.2.1 k))][j]? = some q → ArrOfT s q.1 q.2 ∧ va_RA s q.1 q.2
  | 0, q, h => by cases h; exact hT.1 k hk h0
  | j + 1, q, h => by cases h
theorem am_ob_at {x : am_X} {k ci : Nat} (h : am_ob Γ k ci) : (am_ws x Γ I L)[k]? = some (x.1 k, .inr (ci, (List.range (am_nf ci)).map (fun f => am_fv x (am_ft ci f) (I k f) (L k f) (Γ.2.2 k f)))) := by
  rw [am_ws_at h.1, h.2]
  rfl
theorem am_fs_at {x : am_X} {k ci f n : Nat} (hn : n = am_nf ci) (hf : f < n) : ((List.range (am_nf ci)).map (fun f => am_fv x (am_ft ci f) (I k f) (L k f) (Γ.2.2 k f)))[f]? = some (am_fv x (am_ft ci f) (I k f) (L k f) (Γ.2.2 k f)) := by
  rw [List.getElem?_map, List.getElem?_range (by rw [← hn]; exact hf)]
  rfl
theorem aw_getI {i ci f k : Nat} (hd : decode mi.2.1 pc = .ok (.getfield i, 3)) (hl : am_lk mi.1.cls i ci f) (ho : am_ob Γ k ci) (hf : am_ft ci f = 0) (kk : am_W mi d mc ms al bc bs (pc + 3) ls (.int (I k f) :: st) Γ I L Q) : am_W mi d mc ms al bc bs pc ls (.ref k :: st) Γ I L Q := by
  intro p l e s m args below meth c D A Γ0 x0 S x H locs cells slots la h1 h2 h3 h4 h5 h6
  obtain ⟨⟨C, T, N⟩, hc, hk, hw⟩ := hl
  obtain ⟨w1, w2, w3, w4⟩ := am_cks ci _ hc
  have hv : am_fv x (am_ft ci f) (I k f) (L k f) (Γ.2.2 k f) = .int (I k f) := by rw [hf]; rfl
  exact va_get S.1 S.2.1 S.2.2.2.2.2.2.1 w1 S.2.2.2.2.2.1 (S.K (tys := []) (fun _ _ h => by cases h)) h2.1 k (am_ob_at ho) hc f hk (S.2.2.2.2.2.2.1 _ hw) (fun _ h => h) ((am_fs_at w2 hk).trans (congrArg some hv)) hd (kk _ _ _ _ _ _ _ _ _ _ _ _ _ S _ _ _ _ _ _ h1 h2 h3 h4 h5 h6)
theorem aw_getL {i ci f k : Nat} (hd : decode mi.2.1 pc = .ok (.getfield i, 3)) (hl : am_lk mi.1.cls i ci f) (ho : am_ob Γ k ci) (hf : am_ft ci f = 1) (kk : am_W mi d mc ms al bc bs (pc + 3) ls (.long (L k f) :: st) Γ I L Q) : am_W mi d mc ms al bc bs pc ls (.ref k :: st) Γ I L Q := by
  intro p l e s m args below meth c D A Γ0 x0 S x H locs cells slots la h1 h2 h3 h4 h5 h6
  obtain ⟨⟨C, T, N⟩, hc, hk, hw⟩ := hl
  obtain ⟨w1, w2, w3, w4⟩ := am_cks ci _ hc
  have hv : am_fv x (am_ft ci f) (I k f) (L k f) (Γ.2.2 k f) = .long (L k f) := by rw [hf]; rfl
  exact va_get S.1 S.2.1 S.2.2.2.2.2.2.1 w1 S.2.2.2.2.2.1 (S.K (tys := []) (fun _ _ h => by cases h)) h2.1 k (am_ob_at ho) hc f hk (S.2.2.2.2.2.2.1 _ hw) (fun _ h => h) ((am_fs_at w2 hk).trans (congrArg some hv)) hd (kk _ _ _ _ _ _ _ _ _ _ _ _ _ S _ _ _ _ _ _ h1 h2 h3 h4 h5 h6)
theorem aw_getR {i ci f k r : Nat} (hd : decode mi.2.1 pc = .ok (.getfield i, 3)) (hl : am_lk mi.1.cls i ci f) (ho : am_ob Γ k ci) (hf : am_ft ci f = 2) (hr : Γ.2.2 k f = some r) (kk : am_W mi d mc ms al bc bs (pc + 3) ls (.ref r :: st) Γ I L Q) : am_W mi d mc ms al bc bs pc ls (.ref k :: st) Γ I L Q := by
  intro p l e s m args below meth c D A Γ0 x0 S x H locs cells slots la h1 h2 h3 h4 h5 h6
  obtain ⟨⟨C, T, N⟩, hc, hk, hw⟩ := hl
  obtain ⟨w1, w2, w3, w4⟩ := am_cks ci _ hc
  have hv : am_fv x (am_ft ci f) (I k f) (L k f) (Γ.2.2 k f) = .ref (x.1 r) := by rw [hf]; rw [hr]; rfl
  exact va_get S.1 S.2.1 S.2.2.2.2.2.2.1 w1 S.2.2.2.2.2.1 (S.K (tys := []) (fun _ _ h => by cases h)) h2.1 k (am_ob_at ho) hc f hk (S.2.2.2.2.2.2.1 _ hw) (fun _ h => h) ((am_fs_at w2 hk).trans (congrArg some hv)) hd (kk _ _ _ _ _ _ _ _ _ _ _ _ _ S _ _ _ _ _ _ h1 h2 h3 h4 h5 h6)
theorem aw_putI {i ci f k : Nat} {v : Int32} (hd : decode mi.2.1 pc = .ok (.putfield i, 3)) (hl : am_lp mi.1.cls i ci f false .int) (ho : am_ob Γ k ci) (hf : am_ft ci f = 0) (kk : am_W mi d mc ms al bc bs (pc + 3) ls st Γ (am_u I k f v) L Q) : am_W mi d mc ms al bc bs pc ls (.int v :: .ref k :: st) Γ I L Q := by
  intro p l e s m args below meth c D A Γ0 x0 S x H locs cells slots la h1 h2 h3 h4 h5 h6
  obtain ⟨⟨C, T, N⟩, hc, hk, hw, hfin, hty, -⟩ := hl
  obtain ⟨w1, w2, w3, ty0, w4, -⟩ := am_cks ci _ hc
  refine va_put (ty := .int) (v := .int v) S.1 S.2.1 S.2.2.2.2.2.2.1 w1 ty0 w4 w3 S.2.2.2.2.2.1 (S.K (tys := []) (fun _ _ h => by cases h)) h2.1 h2.2.1 h3 k (am_ob_at ho) hc f hk (S.2.2.2.2.2.2.1 _ hw) (fun _ h => h) hfin hty rfl rfl (by rw [List.length_map, List.length_range, ← w2]; exact hk) hd (fun H1 locs1 g1 g2 g3 => ?_)
  have e : (am_ws x Γ I L).set k (x.1 k, .inr (ci, ((List.range (am_nf ci)).map (fun f => am_fv x (am_ft ci f) (I k f) (L k f) (Γ.2.2 k f))).set f (.int v))) = am_ws x Γ (am_u I k f v) L := by
    refine am_ws_set ho.1 rfl ?_ (fun j hj => ⟨rfl, am_u_ne hj, rfl, rfl⟩)
    rw [ho.2]
    show (Sum.inr (ci, _) : va_E) = .inr (ci, _)
    refine congrArg (fun z => (Sum.inr (ci, z) : va_E)) (am_map_set ?_ (fun j hj => ?_))
    · rw [hf, am_u_self]
      simp [am_fv, upd, vp_updL]
    · rw [am_u_self]
      simp [upd, vp_updL, hj]
  rw [e] at g1 g2
  exact kk _ _ _ _ _ _ _ _ _ _ _ _ _ S _ _ _ _ _ _ h1 ⟨g1, g2, h2.2.2⟩ g3 h4 h5 h6
theorem aw_putZ {i ci f k : Nat} {v : Int32} (hd : decode mi.2.1 pc = .ok (.putfield i, 3)) (hl : am_lp mi.1.cls i ci f false .boolean) (ho : am_ob Γ k ci) (hf : am_ft ci f = 0) (hz : narrow .boolean (.int v) = .int v) (hz2 : fits .boolean (.int v) = true) (kk : am_W mi d mc ms al bc bs (pc + 3) ls st Γ (am_u I k f v) L Q) : am_W mi d mc ms al bc bs pc ls (.int v :: .ref k :: st) Γ I L Q := by
  intro p l e s m args below meth c D A Γ0 x0 S x H locs cells slots la h1 h2 h3 h4 h5 h6
  obtain ⟨⟨C, T, N⟩, hc, hk, hw, hfin, hty, -⟩ := hl
  obtain ⟨w1, w2, w3, ty0, w4, -⟩ := am_cks ci _ hc
  refine va_put (ty := .boolean) (v := .int v) S.1 S.2.1 S.2.2.2.2.2.2.1 w1 ty0 w4 w3 S.2.2.2.2.2.1 (S.K (tys := []) (fun _ _ h => by cases h)) h2.1 h2.2.1 h3 k (am_ob_at ho) hc f hk (S.2.2.2.2.2.2.1 _ hw) (fun _ h => h) hfin hty hz hz2 (by rw [List.length_map, List.length_range, ← w2]; exact hk) hd (fun H1 locs1 g1 g2 g3 => ?_)
  have e : (am_ws x Γ I L).set k (x.1 k, .inr (ci, ((List.range (am_nf ci)).map (fun f => am_fv x (am_ft ci f) (I k f) (L k f) (Γ.2.2 k f))).set f (.int v))) = am_ws x Γ (am_u I k f v) L := by
    refine am_ws_set ho.1 rfl ?_ (fun j hj => ⟨rfl, am_u_ne hj, rfl, rfl⟩)
    rw [ho.2]
    show (Sum.inr (ci, _) : va_E) = .inr (ci, _)
    refine congrArg (fun z => (Sum.inr (ci, z) : va_E)) (am_map_set ?_ (fun j hj => ?_))
    · rw [hf, am_u_self]
      simp [am_fv, upd, vp_updL]
    · rw [am_u_self]
      simp [upd, vp_updL, hj]
  rw [e] at g1 g2
  exact kk _ _ _ _ _ _ _ _ _ _ _ _ _ S _ _ _ _ _ _ h1 ⟨g1, g2, h2.2.2⟩ g3 h4 h5 h6
theorem aw_putL {i ci f k : Nat} {v : Int64} (hd : decode mi.2.1 pc = .ok (.putfield i, 3)) (hl : am_lp mi.1.cls i ci f false .long) (ho : am_ob Γ k ci) (hf : am_ft ci f = 1) (kk : am_W mi d mc ms al bc bs (pc + 3) ls st Γ I (am_ul L k f v) Q) : am_W mi d mc ms al bc bs pc ls (.long v :: .ref k :: st) Γ I L Q := by
  intro p l e s m args below meth c D A Γ0 x0 S x H locs cells slots la h1 h2 h3 h4 h5 h6
  obtain ⟨⟨C, T, N⟩, hc, hk, hw, hfin, hty, -⟩ := hl
  obtain ⟨w1, w2, w3, ty0, w4, -⟩ := am_cks ci _ hc
  refine va_put (ty := .long) (v := .long v) S.1 S.2.1 S.2.2.2.2.2.2.1 w1 ty0 w4 w3 S.2.2.2.2.2.1 (S.K (tys := []) (fun _ _ h => by cases h)) h2.1 h2.2.1 h3 k (am_ob_at ho) hc f hk (S.2.2.2.2.2.2.1 _ hw) (fun _ h => h) hfin hty rfl rfl (by rw [List.length_map, List.length_range, ← w2]; exact hk) hd (fun H1 locs1 g1 g2 g3 => ?_)
  have e : (am_ws x Γ I L).set k (x.1 k, .inr (ci, ((List.range (am_nf ci)).map (fun f => am_fv x (am_ft ci f) (I k f) (L k f) (Γ.2.2 k f))).set f (.long v))) = am_ws x Γ I (am_ul L k f v) := by
    refine am_ws_set ho.1 rfl ?_ (fun j hj => ⟨rfl, rfl, am_ul_ne hj, rfl⟩)
    rw [ho.2]
    show (Sum.inr (ci, _) : va_E) = .inr (ci, _)
    refine congrArg (fun z => (Sum.inr (ci, z) : va_E)) (am_map_set ?_ (fun j hj => ?_))
    · rw [hf, am_ul_self]
      simp [am_fv, upd, vp_updL]
    · rw [am_ul_self]
      simp [upd, vp_updL, hj]
  rw [e] at g1 g2
  exact kk _ _ _ _ _ _ _ _ _ _ _ _ _ S _ _ _ _ _ _ h1 ⟨g1, g2, h2.2.2⟩ g3 h4 h5 h6
theorem am_ar_at {x : am_X} {k t n b : Nat} (h : am_ar Γ k t n b) : (am_ws x Γ I L)[k]? = some (x.1 k, am_ce x k (t, n, b) (I k) (L k) (Γ.2.2 k)) := by
  rw [am_ws_at h.1, h.2]
theorem am_ar_K {x : am_X} {s : State} {k t n b : Nat} {p : Program} {l : Launch} {m : MethodId} {args : Array Value} {meth : Method} {c : Code} {D : am_D} {A : Nat → Prop} (S : am_St mi p l s m args meth c D A) (hT : am_T x Γ s) (h : am_ar Γ k t n b) (h0 : t ≠ 0) : va_K D.1 vwCl [(x.2 k, am_ty (t, n, b))] s := by
  refine S.K ?_
  have g := am_K1 hT h.1 (by rw [h.2]; exact h0)
  rw [h.2] at g
  exact g
theorem aw_iald {k n : Nat} {i : Int32} (hd : decode mi.2.1 pc = .ok (.iaload, 1)) (ha : am_ar Γ k 1 n 0) (hi : vp_in i n) (kk : am_W mi d mc ms al bc bs (pc + 1) ls (.int (I k i.toNatClampNeg) :: st) Γ I L Q) : am_W mi d mc ms al bc bs pc ls (.int i :: .ref k :: st) Γ I L Q := by
  intro p l e s m args below meth c D A Γ0 x0 S x H locs cells slots la h1 h2 h3 h4 h5 h6
  exact va_iald S.1 S.2.1 (am_ar_K S h2.2.2 ha (by decide)) h2.1 k 0 (am_ar_at ha) rfl hi hd (kk _ _ _ _ _ _ _ _ _ _ _ _ _ S _ _ _ _ _ _ h1 h2 h3 h4 h5 h6)
theorem aw_bald {k n : Nat} {i : Int32} (hd : decode mi.2.1 pc = .ok (.baload, 1)) (ha : am_ar Γ k 2 n 0) (hi : vp_in i n) (kk : am_W mi d mc ms al bc bs (pc + 1) ls (.int (I k i.toNatClampNeg) :: st) Γ I L Q) : am_W mi d mc ms al bc bs pc ls (.int i :: .ref k :: st) Γ I L Q := by
  intro p l e s m args below meth c D A Γ0 x0 S x H locs cells slots la h1 h2 h3 h4 h5 h6
  exact va_bald S.1 S.2.1 (am_ar_K S h2.2.2 ha (by decide)) h2.1 k 0 (am_ar_at ha) rfl hi hd (kk _ _ _ _ _ _ _ _ _ _ _ _ _ S _ _ _ _ _ _ h1 h2 h3 h4 h5 h6)
theorem aw_zald {k n : Nat} {i : Int32} (hd : decode mi.2.1 pc = .ok (.baload, 1)) (ha : am_ar Γ k 3 n 0) (hi : vp_in i n) (kk : am_W mi d mc ms al bc bs (pc + 1) ls (.int (I k i.toNatClampNeg) :: st) Γ I L Q) : am_W mi d mc ms al bc bs pc ls (.int i :: .ref k :: st) Γ I L Q := by
  intro p l e s m args below meth c D A Γ0 x0 S x H locs cells slots la h1 h2 h3 h4 h5 h6
  exact va_zald S.1 S.2.1 (am_ar_K S h2.2.2 ha (by decide)) h2.1 k 0 (am_ar_at ha) rfl hi hd (kk _ _ _ _ _ _ _ _ _ _ _ _ _ S _ _ _ _ _ _ h1 h2 h3 h4 h5 h6)
theorem aw_lald {k n : Nat} {i : Int32} (hd : decode mi.2.1 pc = .ok (.laload, 1)) (ha : am_ar Γ k 4 n 0) (hi : vp_in i n) (kk : am_W mi d mc ms al bc bs (pc + 1) ls (.long (L k i.toNatClampNeg) :: st) Γ I L Q) : am_W mi d mc ms al bc bs pc ls (.int i :: .ref k :: st) Γ I L Q := by
  intro p l e s m args below meth c D A Γ0 x0 S x H locs cells slots la h1 h2 h3 h4 h5 h6
  exact va_lald S.1 S.2.1 (am_ar_K S h2.2.2 ha (by decide)) h2.1 k 0 (am_ar_at ha) rfl hi hd (kk _ _ _ _ _ _ _ _ _ _ _ _ _ S _ _ _ _ _ _ h1 h2 h3 h4 h5 h6)
theorem aw_dald {k n : Nat} {i : Int32} (hd : decode mi.2.1 pc = .ok (.daload, 1)) (ha : am_ar Γ k 5 n 0) (hi : vp_in i n) (kk : am_W mi d mc ms al bc bs (pc + 1) ls (.double (L k i.toNatClampNeg).toUInt64 :: st) Γ I L Q) : am_W mi d mc ms al bc bs pc ls (.int i :: .ref k :: st) Γ I L Q := by
  intro p l e s m args below meth c D A Γ0 x0 S x H locs cells slots la h1 h2 h3 h4 h5 h6
  exact va_dald S.1 S.2.1 (am_ar_K S h2.2.2 ha (by decide)) h2.1 k 0 (am_ar_at ha) rfl hi hd (kk _ _ _ _ _ _ _ _ _ _ _ _ _ S _ _ _ _ _ _ h1 h2 h3 h4 h5 h6)
theorem aw_aald {k n b r : Nat} {i : Int32} (hd : decode mi.2.1 pc = .ok (.aaload, 1)) (ha : am_ar Γ k 6 n b) (hi : vp_in i n) (hr : Γ.2.2 k i.toNatClampNeg = some r) (kk : am_W mi d mc ms al bc bs (pc + 1) ls (.ref r :: st) Γ I L Q) : am_W mi d mc ms al bc bs pc ls (.int i :: .ref k :: st) Γ I L Q := by
  intro p l e s m args below meth c D A Γ0 x0 S x H locs cells slots la h1 h2 h3 h4 h5 h6
  refine va_aldq S.1 S.2.1 (am_ar_K S h2.2.2 ha (by decide)) h2.1 k 0 (am_ar_at ha) rfl hi hd ?_
  show W _ _ _ _ _ _ _ _ _ _ _ _ _ _ _ (F0 m (pc + 1) la (va_rf ((Γ.2.2 k i.toNatClampNeg).map x.1) :: st.map (am_cv D x)))
  rw [hr]
  exact kk _ _ _ _ _ _ _ _ _ _ _ _ _ S _ _ _ _ _ _ h1 h2 h3 h4 h5 h6
theorem aw_alen {k t n b : Nat} {v : Int32} (hd : decode mi.2.1 pc = .ok (.arraylength, 1)) (ha : am_ar Γ k t n b) (h0 : t = 1 ∨ t = 2 ∨ t = 3 ∨ t = 4) (hv : Int32.ofNat n = v) (kk : am_W mi d mc ms al bc bs (pc + 1) ls (.int v :: st) Γ I L Q) : am_W mi d mc ms al bc bs pc ls (.ref k :: st) Γ I L Q := by
  intro p l e s m args below meth c D A Γ0 x0 S x H locs cells slots la h1 h2 h3 h4 h5 h6
  have h9 : t ≠ 0 := by omega
  rcases h0 with rfl | rfl | rfl | rfl <;> exact va_alen S.1 S.2.1 (am_ar_K S h2.2.2 ha h9) h2.1 k 0 (am_ar_at ha) rfl hv hd (kk _ _ _ _ _ _ _ _ _ _ _ _ _ S _ _ _ _ _ _ h1 h2 h3 h4 h5 h6)
theorem aw_iast {k n : Nat} {i : Int32} {y : Int32} (hd : decode mi.2.1 pc = .ok (.iastore, 1)) (ha : am_ar Γ k 1 n 0) (hi : vp_in i n) (kk : am_W mi d mc ms al bc bs (pc + 1) ls st Γ (am_u I k i.toNatClampNeg y) L Q) : am_W mi d mc ms al bc bs pc ls (.int y :: .int i :: .ref k :: st) Γ I L Q := by
  intro p l e s m args below meth c D A Γ0 x0 S x H locs cells slots la h1 h2 h3 h4 h5 h6
  refine va_iast S.1 S.2.1 (am_ar_K S h2.2.2 ha (by decide)) h2.1 h2.2.1 h3 k 0 (am_ar_at ha) rfl hi hd (fun H1 locs1 g1 g2 g3 => ?_)
  rw [am_ws_set (I' := (am_u I k i.toNatClampNeg y)) (L' := L) (Γ' := Γ) ha.1 rfl (by rw [ha.2, am_u_self]; rfl) (fun j hj => ⟨rfl, am_u_ne hj, rfl, rfl⟩)] at g1 g2
  exact kk _ _ _ _ _ _ _ _ _ _ _ _ _ S _ _ _ _ _ _ h1 ⟨g1, g2, h2.2.2⟩ g3 h4 h5 h6
theorem aw_bast {k n : Nat} {i : Int32} {y : Int32} (hd : decode mi.2.1 pc = .ok (.bastore, 1)) (ha : am_ar Γ k 2 n 0) (hi : vp_in i n) (kk : am_W mi d mc ms al bc bs (pc + 1) ls st Γ (am_u I k i.toNatClampNeg (vp_nar .byte y)) L Q) : am_W mi d mc ms al bc bs pc ls (.int y :: .int i :: .ref k :: st) Γ I L Q := by
  intro p l e s m args below meth c D A Γ0 x0 S x H locs cells slots la h1 h2 h3 h4 h5 h6
  refine va_bast S.1 S.2.1 (am_ar_K S h2.2.2 ha (by decide)) h2.1 h2.2.1 h3 k 0 (am_ar_at ha) rfl hi hd (fun H1 locs1 g1 g2 g3 => ?_)
  rw [am_ws_set (I' := (am_u I k i.toNatClampNeg (vp_nar .byte y))) (L' := L) (Γ' := Γ) ha.1 rfl (by rw [ha.2, am_u_self]; rfl) (fun j hj => ⟨rfl, am_u_ne hj, rfl, rfl⟩)] at g1 g2
  exact kk _ _ _ _ _ _ _ _ _ _ _ _ _ S _ _ _ _ _ _ h1 ⟨g1, g2, h2.2.2⟩ g3 h4 h5 h6
theorem aw_zast {k n : Nat} {i : Int32} {y : Int32} (hd : decode mi.2.1 pc = .ok (.bastore, 1)) (ha : am_ar Γ k 3 n 0) (hi : vp_in i n) (kk : am_W mi d mc ms al bc bs (pc + 1) ls st Γ (am_u I k i.toNatClampNeg (vp_nar .boolean y)) L Q) : am_W mi d mc ms al bc bs pc ls (.int y :: .int i :: .ref k :: st) Γ I L Q := by
  intro p l e s m args below meth c D A Γ0 x0 S x H locs cells slots la h1 h2 h3 h4 h5 h6
  refine va_zast S.1 S.2.1 (am_ar_K S h2.2.2 ha (by decide)) h2.1 h2.2.1 h3 k 0 (am_ar_at ha) rfl hi hd (fun H1 locs1 g1 g2 g3 => ?_)
  rw [am_ws_set (I' := (am_u I k i.toNatClampNeg (vp_nar .boolean y))) (L' := L) (Γ' := Γ) ha.1 rfl (by rw [ha.2, am_u_self]; rfl) (fun j hj => ⟨rfl, am_u_ne hj, rfl, rfl⟩)] at g1 g2
  exact kk _ _ _ _ _ _ _ _ _ _ _ _ _ S _ _ _ _ _ _ h1 ⟨g1, g2, h2.2.2⟩ g3 h4 h5 h6
theorem aw_last {k n : Nat} {i : Int32} {y : Int64} (hd : decode mi.2.1 pc = .ok (.lastore, 1)) (ha : am_ar Γ k 4 n 0) (hi : vp_in i n) (kk : am_W mi d mc ms al bc bs (pc + 1) ls st Γ I (am_ul L k i.toNatClampNeg y) Q) : am_W mi d mc ms al bc bs pc ls (.long y :: .int i :: .ref k :: st) Γ I L Q := by
  intro p l e s m args below meth c D A Γ0 x0 S x H locs cells slots la h1 h2 h3 h4 h5 h6
  refine va_last S.1 S.2.1 (am_ar_K S h2.2.2 ha (by decide)) h2.1 h2.2.1 h3 k 0 (am_ar_at ha) rfl hi hd (fun H1 locs1 g1 g2 g3 => ?_)
  rw [am_ws_set (I' := I) (L' := (am_ul L k i.toNatClampNeg y)) (Γ' := Γ) ha.1 rfl (by rw [ha.2, am_ul_self]; rfl) (fun j hj => ⟨rfl, rfl, am_ul_ne hj, rfl⟩)] at g1 g2
  exact kk _ _ _ _ _ _ _ _ _ _ _ _ _ S _ _ _ _ _ _ h1 ⟨g1, g2, h2.2.2⟩ g3 h4 h5 h6
theorem am_dst (x : am_X) (k n : Nat) (i : Int32) (f : Nat → Int64) (y : UInt64) {j : Nat → Int32} {r : Nat → Option Nat} : am_ce x k (5, n, 0) j (vp_updL f i.toNatClampNeg y.toInt64) r = .inl (x.2 k, (n, .inr (.inr (.inr (.inl (vf_upd (fun j => (f j).toUInt64) i.toNatClampNeg y)))))) := by
  have e : (fun q => (vp_updL f i.toNatClampNeg y.toInt64 q).toUInt64) = vf_upd (fun j => (f j).toUInt64) i.toNatClampNeg y := by
    funext q
    unfold vp_updL vf_upd
    by_cases h : q = i.toNatClampNeg
    · rw [if_pos h, if_pos h]; simp
    · rw [if_neg h, if_neg h]
  show (Sum.inl (x.2 k, (n, .inr (.inr (.inr (.inl (fun j => (vp_updL f i.toNatClampNeg y.toInt64 j).toUInt64)))))) : va_E) = _
  rw [e]
theorem aw_dast {k n : Nat} {i : Int32} {y : UInt64} (hd : decode mi.2.1 pc = .ok (.dastore, 1)) (ha : am_ar Γ k 5 n 0) (hi : vp_in i n) (kk : am_W mi d mc ms al bc bs (pc + 1) ls st Γ I (am_ul L k i.toNatClampNeg y.toInt64) Q) : am_W mi d mc ms al bc bs pc ls (.double y :: .int i :: .ref k :: st) Γ I L Q := by
  intro p l e s m args below meth c D A Γ0 x0 S x H locs cells slots la h1 h2 h3 h4 h5 h6
  refine va_dast S.1 S.2.1 (am_ar_K S h2.2.2 ha (by decide)) h2.1 h2.2.1 h3 k 0 (am_ar_at ha) rfl hi hd (fun H1 locs1 g1 g2 g3 => ?_)
  rw [am_ws_set (I' := I) (L' := (am_ul L k i.toNatClampNeg y.toInt64)) (Γ' := Γ) ha.1 rfl (by rw [ha.2, am_ul_self]; exact am_dst x k n i (L k) y) (fun j hj => ⟨rfl, rfl, am_ul_ne hj, rfl⟩)] at g1 g2
  exact kk _ _ _ _ _ _ _ _ _ _ _ _ _ S _ _ _ _ _ _ h1 ⟨g1, g2, h2.2.2⟩ g3 h4 h5 h6
end AWC
