/-! THE LAW'S ENTRY: what the Statement gives of the start -/
def nF : List Cond := flatC (Jvm.Cond.and given_1 narrow_1)
theorem nF_of {args : Array Value} {s : State} (h : (Jvm.Cond.and given_1 narrow_1).before args s = true) {i : Nat} {w : Cond} (hi : nF[i]? = some w) : w.before args s = true := flat_of_before _ h _ (List.mem_of_getElem? hi)
def tms : List (String × Nat) := [("TollTrees", 57), ("TollTrees$Reader", 98), ("TollTrees$Reader", 115), ("TollTrees$Reader", 147), ("TollTrees$Reader", 169), ("TollTrees$Reader", 212), ("TollTrees$Reader", 217), ("TollTrees$Reader", 222), ("TollTrees$Reader", 227), ("TollTrees$Reader", 232), ("TollTrees$Reader", 236)]
def tmx (i : Nat) : Term := .string (tms.getD i ("", 0)).1 (tms.getD i ("", 0)).2
def nfe : List Nat := [75, 308, 318, 327, 338, 350, 363, 378, 394, 410, 428]
def nfp : List (List Nat) := [[0, 317, 325, 335, 346, 358, 372, 387, 402, 419, 437], [317, 0, 326, 336, 347, 359, 373, 388, 403, 420, 438], [325, 326, 0, 337, 348, 360, 374, 389, 404, 421, 439], [335, 336, 337, 0, 349, 361, 375, 390, 405, 422, 440], [346, 347, 348, 349, 0, 362, 376, 391, 406, 423, 441], [358, 359, 360, 361, 362, 0, 377, 392, 407, 424, 442], [372, 373, 374, 375, 376, 377, 0, 393, 408, 425, 443], [387, 388, 389, 390, 391, 392, 393, 0, 409, 426, 444], [402, 403, 404, 405, 406, 407, 408, 409, 0, 427, 445], [419, 420, 421, 422, 423, 424, 425, 426, 427, 0, 446], [437, 438, 439, 440, 441, 442, 443, 444, 445, 446, 0]]
theorem nf_ex : ∀ i, i < 11 → nF[nfe.getD i 0]? = some (Cond.exactly (tmx i) "java/lang/String") := by decide +kernel
theorem nf_co : ∀ i, i < 11 → nF[nfe.getD i 0 + 1]? = some (Cond.eq (.field (tmx i) "java/lang/String" "coder" "B") (.int 0)) := by decide +kernel
theorem nf_ar : ∀ i, i < 11 → nF[nfe.getD i 0 + 2]? = some (Cond.arrayOf (.field (tmx i) "java/lang/String" "value" "[B") .byte) := by decide +kernel
theorem nf_le : ∀ i, i < 11 → nF[nfe.getD i 0 + 3]? = some (Cond.eq (.length (.field (tmx i) "java/lang/String" "value" "[B")) (.int (Int32.ofNat (am_sl.getD i 0)))) := by decide +kernel
theorem nf_el : ∀ i, i < 11 → ∀ j, j < am_sl.getD i 0 → nF[nfe.getD i 0 + 4 + j]? = some (Cond.eq (.elem (.field (tmx i) "java/lang/String" "value" "[B") (.int (Int32.ofNat j))) (.int ((am_sb.getD i []).getD j 0))) := by decide +kernel
theorem nf_ne : ∀ i, i < 11 → ∀ j, j < 11 → i ≠ j → nF[(nfp.getD i []).getD j 0]? = some (Cond.not (Cond.eq (tmx i) (tmx j))) ∨ nF[(nfp.getD i []).getD j 0]? = some (Cond.not (Cond.eq (tmx j) (tmx i))) := by decide +kernel
theorem sl_lt : ∀ i, i < 11 → am_sl.getD i 0 < 2 ^ 31 := by decide
theorem nf_nc0 : nF[21]? = some (Cond.not (.castable "java/lang/IndexOutOfBoundsException" "java/lang/IllegalArgumentException")) := by decide +kernel
theorem nf_nc1 : nF[46]? = some (Cond.not (.castable "java/lang/IndexOutOfBoundsException" "java/lang/IllegalStateException")) := by decide +kernel
theorem nf_nc2 : nF[33]? = some (Cond.not (.castable "java/lang/IllegalArgumentException" "java/lang/IndexOutOfBoundsException")) := by decide +kernel
theorem nf_nc3 : nF[45]? = some (Cond.not (.castable "java/lang/IllegalArgumentException" "java/lang/IllegalStateException")) := by decide +kernel
theorem nf_nc4 : nF[34]? = some (Cond.not (.castable "java/lang/IllegalStateException" "java/lang/IndexOutOfBoundsException")) := by decide +kernel
theorem nf_nc5 : nF[22]? = some (Cond.not (.castable "java/lang/IllegalStateException" "java/lang/IllegalArgumentException")) := by decide +kernel
theorem nf_eq0 : nF[680]? = some (Cond.eq (tmx 0) (.string "TollTreesModel" 51)) := by decide +kernel
theorem nf_eq1 : nF[701]? = some (Cond.eq (tmx 1) (.string "TollTreesModel" 319)) := by decide +kernel
theorem nf_eq2 : nF[721]? = some (Cond.eq (tmx 2) (.string "TollTreesModel" 248)) := by decide +kernel
theorem nf_eq3 : nF[743]? = some (Cond.eq (tmx 3) (.string "TollTreesModel" 263)) := by decide +kernel
theorem nf_eq4 : nF[766]? = some (Cond.eq (tmx 4) (.string "TollTreesModel" 268)) := by decide +kernel
theorem nf_eq5 : nF[790]? = some (Cond.eq (tmx 5) (.string "TollTreesModel" 285)) := by decide +kernel
theorem nf_eq6 : nF[816]? = some (Cond.eq (tmx 6) (.string "TollTreesModel" 290)) := by decide +kernel
theorem nf_eq7 : nF[843]? = some (Cond.eq (tmx 7) (.string "TollTreesModel" 292)) := by decide +kernel
theorem nf_eq8 : nF[870]? = some (Cond.eq (tmx 8) (.string "TollTreesModel" 297)) := by decide +kernel
theorem nf_eq9 : nF[899]? = some (Cond.eq (tmx 9) (.string "TollTreesModel" 302)) := by decide +kernel
theorem nf_eq10 : nF[929]? = some (Cond.eq (tmx 10) (.string "TollTreesModel" 304)) := by decide +kernel
theorem nf_cs : nF[4]? = some (Cond.eq (.static "java/lang/String" "COMPACT_STRINGS" "Z") (.int 1)) := by decide +kernel
theorem nf_si : nF[5]? = some (Cond.isRef (.static "jdk/internal/util/Preconditions" "SIOOBE_FORMATTER" "Ljava/util/function/BiFunction;")) := by decide +kernel
theorem nf_us : nF[9]? = some (Cond.isRef (.static Bundle.tN "UNASSIGNED_STACK" Bundle.steD)) := by decide +kernel
theorem nf_ss : nF[10]? = some (Cond.isRef (.static Bundle.tN "SUPPRESSED_SENTINEL" Bundle.listD)) := by decide +kernel
theorem uw_X0 : ∀ w ∈ u_ws RX0 TX0 6, w ∈ lw_tbl := by decide +kernel
theorem uw_X1 : ∀ w ∈ u_ws RX1 TX1 3, w ∈ lw_tbl := by decide +kernel
theorem uw_X2 : ∀ w ∈ u_ws RX2 TX2 4, w ∈ lw_tbl := by decide +kernel
theorem uw_X3 : ∀ w ∈ u_ws RX3 TX3 12, w ∈ lw_tbl := by decide +kernel
theorem uw_X4 : ∀ w ∈ u_ws RX4 TX4 8, w ∈ lw_tbl := by decide +kernel
theorem uw_X5 : ∀ w ∈ u_ws RX5 TX5 11, w ∈ lw_tbl := by decide +kernel
theorem uw_X6 : ∀ w ∈ u_ws RX6 TX6 8, w ∈ lw_tbl := by decide +kernel
theorem uw_X7 : ∀ w ∈ u_ws RX7 TX7 5, w ∈ lw_tbl := by decide +kernel
theorem uw_X8 : ∀ w ∈ u_ws RX8 TX8 8, w ∈ lw_tbl := by decide +kernel
theorem uw_X9 : ∀ w ∈ u_ws RX9 TX9 25, w ∈ lw_tbl := by decide +kernel
theorem gl_in {w : Cond} (h : w ∈ am_Gl) : w ∈ lw_tbl := (List.mem_filter.mp h).1
section SX
variable {s : State} {b : Nat}
theorem kn_all (hts : ∀ w ∈ lw_tbl, w.before #[Value.ref b] s = true) : ∃ dC : va_G, ∀ (c : Nat) (q : vw_C), vwCl[c]? = some q → u_Kn s q.1 q.2.1 q.2.2 (dC.1 c) (dC.2 c) := by
  obtain ⟨c0, i0, h0⟩ := u_known (C := RX0) (T := TX0) (N := 6) (n := 6) hts uw_X0 (hts _ (gl_in mk_X0))
  obtain ⟨c1, i1, h1⟩ := u_known (C := RX1) (T := TX1) (N := 3) (n := 3) hts uw_X1 (hts _ (gl_in mk_X1))
  obtain ⟨c2, i2, h2⟩ := u_known (C := RX2) (T := TX2) (N := 4) (n := 4) hts uw_X2 (hts _ (gl_in mk_X2))
  obtain ⟨c3, i3, h3⟩ := u_known (C := RX3) (T := TX3) (N := 12) (n := 12) hts uw_X3 (hts _ (gl_in mk_X3))
  obtain ⟨c4, i4, h4⟩ := u_known (C := RX4) (T := TX4) (N := 8) (n := 8) hts uw_X4 (hts _ (gl_in mk_X4))
  obtain ⟨c5, i5, h5⟩ := u_known (C := RX5) (T := TX5) (N := 11) (n := 11) hts uw_X5 (hts _ (gl_in mk_X5))
  obtain ⟨c6, i6, h6⟩ := u_known (C := RX6) (T := TX6) (N := 8) (n := 8) hts uw_X6 (hts _ (gl_in mk_X6))
  obtain ⟨c7, i7, h7⟩ := u_known (C := RX7) (T := TX7) (N := 5) (n := 5) hts uw_X7 (hts _ (gl_in mk_X7))
  obtain ⟨c8, i8, h8⟩ := u_known (C := RX8) (T := TX8) (N := 8) (n := 8) hts uw_X8 (hts _ (gl_in mk_X8))
  obtain ⟨c9, i9, h9⟩ := u_known (C := RX9) (T := TX9) (N := 25) (n := 25) hts uw_X9 (hts _ (gl_in mk_X9))
  refine ⟨(fun k => [c0, c1, c2, c3, c4, c5, c6, c7, c8, c9].getD k 0, fun k => [i0, i1, i2, i3, i4, i5, i6, i7, i8, i9].getD k (fun _ => 0)), fun c q hq => ?_⟩
  match c, hq with
  | 0, hq => cases hq; exact h0
  | 1, hq => cases hq; exact h1
  | 2, hq => cases hq; exact h2
  | 3, hq => cases hq; exact h3
  | 4, hq => cases hq; exact h4
  | 5, hq => cases hq; exact h5
  | 6, hq => cases hq; exact h6
  | 7, hq => cases hq; exact h7
  | 8, hq => cases hq; exact h8
  | 9, hq => cases hq; exact h9
  | c + 10, hq => simp at hq
theorem sx_of (hts : ∀ w ∈ lw_tbl, w.before #[Value.ref b] s = true) (hgv : (Jvm.Cond.and given_1 narrow_1).before #[Value.ref b] s = true) : ∃ D : am_D, am_Sx D (fun q => s.heap.size ≤ q) s ∧ D.2 60 = b := by
  have hA : ∀ a : Nat, a < s.heap.size → ¬ (fun q : Nat => s.heap.size ≤ q) a := fun a h => Nat.not_le.mpr h
  obtain ⟨dC, hK⟩ := kn_all hts
  obtain ⟨adK, adV, hS, hT⟩ := vk_Sof (N := 11) (tm := tmx) (len := am_sl) (byt := am_sb) (A := fun q : Nat => s.heap.size ≤ q) sl_lt (fun i hi => nF_of hgv (nf_ex i hi)) (fun i hi => nF_of hgv (nf_co i hi)) (fun i hi => nF_of hgv (nf_ar i hi)) (fun i hi => nF_of hgv (nf_le i hi)) (fun i hi j hj => nF_of hgv (nf_el i hi j hj)) (fun i j hi hj hij => (nf_ne i hi j hj hij).imp (nF_of hgv) (nF_of hgv)) hA
  have hsi := va_Zqof (hts (.laysStatic "jdk/internal/util/Preconditions" "SIOOBE_FORMATTER" "Ljava/util/function/BiFunction;") (by decide +kernel)) (hts (.initialized "jdk/internal/util/Preconditions") (by decide +kernel)) (nF_of hgv nf_si) hA
  obtain ⟨sio, hsio⟩ : ∃ sio : Nat, va_Z "jdk/internal/util/Preconditions" "SIOOBE_FORMATTER" "Ljava/util/function/BiFunction;" .null (fun q => s.heap.size ≤ q) s s.heap ∨ va_Z "jdk/internal/util/Preconditions" "SIOOBE_FORMATTER" "Ljava/util/function/BiFunction;" (.ref sio) (fun q => s.heap.size ≤ q) s s.heap := by
    rcases hsi with h | ⟨t, h⟩
    · exact ⟨0, Or.inl h⟩
    · exact ⟨t, Or.inr h⟩
  obtain ⟨D2, hD2⟩ : ∃ D2 : Nat → Nat, D2 = fun i => if i = 60 then b else if i = 51 then sio else if i < 11 then adK i else adV (i - 100) := ⟨_, rfl⟩
  have dk : ∀ i, i < 11 → D2 i = adK i := fun i hi => by
    rw [hD2]
    show (if i = 60 then b else if i = 51 then sio else if i < 11 then adK i else adV (i - 100)) = _
    rw [if_neg (by omega), if_neg (by omega), if_pos hi]
  have dv : ∀ i, i < 11 → D2 (100 + i) = adV i := fun i hi => by
    rw [hD2]
    show (if 100 + i = 60 then b else if 100 + i = 51 then sio else if 100 + i < 11 then adK (100 + i) else adV (100 + i - 100)) = _
    rw [if_neg (by omega), if_neg (by omega), if_neg (by omega), Nat.add_sub_cancel_left]
  have ev : ∀ i, i < 11 → (tmx i).eval #[Value.ref b] s none [] s = some (.ref (D2 i)) := fun i hi => by rw [dk i hi]; exact hT i hi
  have eqv : ∀ {i : Nat} {t : Term}, i < 11 → (Cond.eq (tmx i) t).before #[Value.ref b] s = true → t.eval #[Value.ref b] s none [] s = some (.ref (D2 i)) := fun {i t} hi h => by
    obtain ⟨y, y1, y2⟩ := Cond.eq_one h
    rw [ev i hi] at y1
    cases y1
    exact y2
  have cs : (Term.static "java/lang/String" "COMPACT_STRINGS" "Z").eval #[Value.ref b] s none [] s = some (.int 1) := by
    obtain ⟨y, y1, y2⟩ := Cond.eq_one (nF_of hgv nf_cs)
    have y3 : some (Value.int 1) = some y := y2
    cases y3
    exact y1
  refine ⟨(dC, D2), ⟨hK, vx_Zqof (hts (.laysStatic Bundle.tN "UNASSIGNED_STACK" Bundle.steD) (by decide +kernel)) (hts (.initialized Bundle.tN) (by decide +kernel)) (nF_of hgv nf_us) hA, vx_Zqof (hts (.laysStatic Bundle.tN "SUPPRESSED_SENTINEL" Bundle.listD) (by decide +kernel)) (hts (.initialized Bundle.tN) (by decide +kernel)) (nF_of hgv nf_ss) hA, fun w hw => ?_, ⟨va_AO.of (hts (.arrayOver (.object "TollTrees$Gate")) (by decide +kernel)), va_AO.of (hts (.arrayOver (.object "TollTrees$Station")) (by decide +kernel))⟩, fun q hq => ?_, ⟨va_Zof (hts (.laysStatic "java/lang/String" "COMPACT_STRINGS" "Z") (by decide +kernel)) (hts (.initialized "java/lang/String") (by decide +kernel)) cs hA, ?_, ?_⟩, fun q hq => ?_⟩, by rw [hD2]; rfl⟩
  · obtain ⟨h1, h2⟩ := List.mem_filter.mp hw
    refine va_Nw.of ?_ (hts w h1)
    cases w <;> first | rfl | (simp [am_nw] at h2)
  · simp only [am_nc, List.mem_cons, List.not_mem_nil, or_false] at hq
    rcases hq with rfl | rfl | rfl | rfl | rfl | rfl
    · exact va_Nc.of (nF_of hgv nf_nc0)
    · exact va_Nc.of (nF_of hgv nf_nc1)
    · exact va_Nc.of (nF_of hgv nf_nc2)
    · exact va_Nc.of (nF_of hgv nf_nc3)
    · exact va_Nc.of (nF_of hgv nf_nc4)
    · exact va_Nc.of (nF_of hgv nf_nc5)
  · refine ⟨fun i hi => ?_, fun i j hi hj he => ?_⟩
    · have h := hS.1 i hi
      show va_O _ (D2 i) _ _ _ ∧ va_OF _ _ _ _ (D2 i) _ _ _ ∧ va_OF _ _ _ (.ref (D2 (100 + i))) (D2 i) _ _ _ ∧ va_T _ (D2 (100 + i)) _ _ _ _ _
      rw [dk i hi, dv i hi]
      exact h
    · have he' : D2 i = D2 j := he
      rw [dk i hi, dk j hj] at he'
      exact hS.2 i j hi hj he'
  · have e : D2 51 = sio := by rw [hD2]; rfl
    show _ ∨ va_Z _ _ _ (.ref (D2 51)) _ _ _
    rw [e]
    exact hsio
  · simp only [am_sr, List.mem_cons, List.not_mem_nil, or_false] at hq
    rcases hq with rfl | rfl | rfl | rfl | rfl | rfl | rfl | rfl | rfl | rfl | rfl | rfl | rfl | rfl | rfl | rfl | rfl | rfl | rfl | rfl | rfl | rfl
    · exact vk_R.of (hts (.stringRef "TollTrees" 57 "tolls; ask wheels 1; ask load 2; ask beast 1; cart barrow 2; cart dray 5 wheels load; cart coach 7 wheels beast; cart wagon 9 wheels load beast; cart mule 3 beast; gate north 6 20 9 40 25 10 15 10; gate south 0 23 2 5 50 5 30 10;") (by decide +kernel)) (ev 0 (by decide))
    · exact vk_R.of (hts (.stringRef "TollTrees$Reader" 98 "tolls") (by decide +kernel)) (ev 1 (by decide))
    · exact vk_R.of (hts (.stringRef "TollTrees$Reader" 115 "ask") (by decide +kernel)) (ev 2 (by decide))
    · exact vk_R.of (hts (.stringRef "TollTrees$Reader" 147 "cart") (by decide +kernel)) (ev 3 (by decide))
    · exact vk_R.of (hts (.stringRef "TollTrees$Reader" 169 "gate") (by decide +kernel)) (ev 4 (by decide))
    · exact vk_R.of (hts (.stringRef "TollTrees$Reader" 212 "pass") (by decide +kernel)) (ev 5 (by decide))
    · exact vk_R.of (hts (.stringRef "TollTrees$Reader" 217 "build") (by decide +kernel)) (ev 6 (by decide))
    · exact vk_R.of (hts (.stringRef "TollTrees$Reader" 222 "halve") (by decide +kernel)) (ev 7 (by decide))
    · exact vk_R.of (hts (.stringRef "TollTrees$Reader" 227 "toll") (by decide +kernel)) (ev 8 (by decide))
    · exact vk_R.of (hts (.stringRef "TollTrees$Reader" 232 "limit") (by decide +kernel)) (ev 9 (by decide))
    · exact vk_R.of (hts (.stringRef "TollTrees$Reader" 236 "hours") (by decide +kernel)) (ev 10 (by decide))
    · exact vk_R.of (hts (.stringRef "TollTreesModel" 51 "tolls; ask wheels 1; ask load 2; ask beast 1; cart barrow 2; cart dray 5 wheels load; cart coach 7 wheels beast; cart wagon 9 wheels load beast; cart mule 3 beast; gate north 6 20 9 40 25 10 15 10; gate south 0 23 2 5 50 5 30 10;") (by decide +kernel)) (eqv (i := 0) (by decide) (nF_of hgv nf_eq0))
    · exact vk_R.of (hts (.stringRef "TollTreesModel" 319 "tolls") (by decide +kernel)) (eqv (i := 1) (by decide) (nF_of hgv nf_eq1))
    · exact vk_R.of (hts (.stringRef "TollTreesModel" 248 "ask") (by decide +kernel)) (eqv (i := 2) (by decide) (nF_of hgv nf_eq2))
    · exact vk_R.of (hts (.stringRef "TollTreesModel" 263 "cart") (by decide +kernel)) (eqv (i := 3) (by decide) (nF_of hgv nf_eq3))
    · exact vk_R.of (hts (.stringRef "TollTreesModel" 268 "gate") (by decide +kernel)) (eqv (i := 4) (by decide) (nF_of hgv nf_eq4))
    · exact vk_R.of (hts (.stringRef "TollTreesModel" 285 "pass") (by decide +kernel)) (eqv (i := 5) (by decide) (nF_of hgv nf_eq5))
    · exact vk_R.of (hts (.stringRef "TollTreesModel" 290 "build") (by decide +kernel)) (eqv (i := 6) (by decide) (nF_of hgv nf_eq6))
    · exact vk_R.of (hts (.stringRef "TollTreesModel" 292 "halve") (by decide +kernel)) (eqv (i := 7) (by decide) (nF_of hgv nf_eq7))
    · exact vk_R.of (hts (.stringRef "TollTreesModel" 297 "toll") (by decide +kernel)) (eqv (i := 8) (by decide) (nF_of hgv nf_eq8))
    · exact vk_R.of (hts (.stringRef "TollTreesModel" 302 "limit") (by decide +kernel)) (eqv (i := 9) (by decide) (nF_of hgv nf_eq9))
    · exact vk_R.of (hts (.stringRef "TollTreesModel" 304 "hours") (by decide +kernel)) (eqv (i := 10) (by decide) (nF_of hgv nf_eq10))
end SX
