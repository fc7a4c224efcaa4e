/-! THE LAW'S ENTRY: what the Statement gives of the start -/
def nF : List Cond := flatC (Jvm.Cond.and given_1 narrow_1)
theorem nF_of {args : Array Value} {s : State} (h : (Jvm.Cond.and given_1 narrow_1).before args s = true) {i : Nat} {w : Cond} (hi : nF[i]? = some w) : w.before args s = true := flat_of_before _ h _ (List.mem_of_getElem? hi)
def tms : List (String × Nat) := [("TollTrees", 57), ("TollTrees$Reader", 98), ("TollTrees$Reader", 115), ("TollTrees$Reader", 147), ("TollTrees$Reader", 169), ("TollTrees$Reader", 212), ("TollTrees$Reader", 217), ("TollTrees$Reader", 222), ("TollTrees$Reader", 227), ("TollTrees$Reader", 232), ("TollTrees$Reader", 236), ("TollTreesLaw", 271), ("TollTreesLaw", 276), ("TollTreesLaw", 287), ("TollTreesLaw", 289), ("TollTreesLaw", 291)]
def tmx (i : Nat) : Term := .string (tms.getD i ("", 0)).1 (tms.getD i ("", 0)).2
def nfe : List Nat := [284, 517, 527, 536, 547, 559, 572, 587, 603, 619, 637, 674, 696, 718, 742, 763]
def nfp : List (List Nat) := [[0, 526, 534, 544, 555, 567, 581, 596, 611, 628, 646, 684, 705, 728, 748, 773], [526, 0, 535, 545, 556, 568, 582, 597, 612, 629, 647, 685, 706, 729, 749, 774], [534, 535, 0, 546, 557, 569, 583, 598, 613, 630, 648, 686, 707, 730, 750, 775], [544, 545, 546, 0, 558, 570, 584, 599, 614, 631, 649, 687, 708, 731, 751, 776], [555, 556, 557, 558, 0, 571, 585, 600, 615, 632, 650, 688, 709, 732, 752, 777], [567, 568, 569, 570, 571, 0, 586, 601, 616, 633, 651, 689, 710, 733, 753, 778], [581, 582, 583, 584, 585, 586, 0, 602, 617, 634, 652, 690, 711, 734, 754, 779], [596, 597, 598, 599, 600, 601, 602, 0, 618, 635, 653, 691, 712, 735, 755, 780], [611, 612, 613, 614, 615, 616, 617, 618, 0, 636, 654, 692, 713, 736, 756, 781], [628, 629, 630, 631, 632, 633, 634, 635, 636, 0, 655, 693, 714, 737, 757, 782], [646, 647, 648, 649, 650, 651, 652, 653, 654, 655, 0, 694, 715, 738, 758, 783], [684, 685, 686, 687, 688, 689, 690, 691, 692, 693, 694, 0, 717, 740, 760, 785], [705, 706, 707, 708, 709, 710, 711, 712, 713, 714, 715, 717, 0, 741, 761, 786], [728, 729, 730, 731, 732, 733, 734, 735, 736, 737, 738, 740, 741, 0, 762, 787], [748, 749, 750, 751, 752, 753, 754, 755, 756, 757, 758, 760, 761, 762, 0, 788], [773, 774, 775, 776, 777, 778, 779, 780, 781, 782, 783, 785, 786, 787, 788, 0]]
theorem nf_ex : ∀ i, i < 16 → nF[nfe.getD i 0]? = some (Cond.exactly (tmx i) "java/lang/String") := by decide +kernel
theorem nf_co : ∀ i, i < 16 → nF[nfe.getD i 0 + 1]? = some (Cond.eq (.field (tmx i) "java/lang/String" "coder" "B") (.int 0)) := by decide +kernel
theorem nf_ar : ∀ i, i < 16 → nF[nfe.getD i 0 + 2]? = some (Cond.arrayOf (.field (tmx i) "java/lang/String" "value" "[B") .byte) := by decide +kernel
theorem nf_le : ∀ i, i < 16 → nF[nfe.getD i 0 + 3]? = some (Cond.eq (.length (.field (tmx i) "java/lang/String" "value" "[B")) (.int (Int32.ofNat (am_sl.getD i 0)))) := by decide +kernel
theorem nf_el : ∀ i, i < 16 → ∀ j, j < am_sl.getD i 0 → nF[nfe.getD i 0 + 4 + j]? = some (Cond.eq (.elem (.field (tmx i) "java/lang/String" "value" "[B") (.int (Int32.ofNat j))) (.int ((am_sb.getD i []).getD j 0))) := by decide +kernel
theorem nf_ne : ∀ i, i < 16 → ∀ j, j < 16 → i ≠ j → nF[(nfp.getD i []).getD j 0]? = some (Cond.not (Cond.eq (tmx i) (tmx j))) ∨ nF[(nfp.getD i []).getD j 0]? = some (Cond.not (Cond.eq (tmx j) (tmx i))) := by decide +kernel
theorem sl_lt : ∀ i, i < 16 → am_sl.getD i 0 < 2 ^ 31 := by decide
theorem nf_nc0 : nF[254]? = some (Cond.not (.castable "java/lang/IndexOutOfBoundsException" "java/lang/IllegalArgumentException")) := by decide +kernel
theorem nf_nc1 : nF[229]? = some (Cond.not (.castable "java/lang/IndexOutOfBoundsException" "java/lang/IllegalStateException")) := by decide +kernel
theorem nf_nc2 : nF[241]? = some (Cond.not (.castable "java/lang/IllegalArgumentException" "java/lang/IndexOutOfBoundsException")) := by decide +kernel
theorem nf_nc3 : nF[228]? = some (Cond.not (.castable "java/lang/IllegalArgumentException" "java/lang/IllegalStateException")) := by decide +kernel
theorem nf_nc4 : nF[242]? = some (Cond.not (.castable "java/lang/IllegalStateException" "java/lang/IndexOutOfBoundsException")) := by decide +kernel
theorem nf_nc5 : nF[255]? = some (Cond.not (.castable "java/lang/IllegalStateException" "java/lang/IllegalArgumentException")) := by decide +kernel
theorem nf_cs : nF[4]? = some (Cond.eq (.static "java/lang/String" "COMPACT_STRINGS" "Z") (.int 1)) := by decide +kernel
theorem nf_si : nF[5]? = some (Cond.isRef (.static "jdk/internal/util/Preconditions" "SIOOBE_FORMATTER" "Ljava/util/function/BiFunction;")) := by decide +kernel
theorem nf_us : nF[9]? = some (Cond.isRef (.static Bundle.tN "UNASSIGNED_STACK" Bundle.steD)) := by decide +kernel
theorem nf_ss : nF[10]? = some (Cond.isRef (.static Bundle.tN "SUPPRESSED_SENTINEL" Bundle.listD)) := by decide +kernel
theorem uw_X0 : ∀ w ∈ u_ws RX0 TX0 6, w ∈ lw_tbl := by decide +kernel
theorem uw_X1 : ∀ w ∈ u_ws RX1 TX1 3, w ∈ lw_tbl := by decide +kernel
theorem uw_X2 : ∀ w ∈ u_ws RX2 TX2 4, w ∈ lw_tbl := by decide +kernel
theorem uw_X3 : ∀ w ∈ u_ws RX3 TX3 12, w ∈ lw_tbl := by decide +kernel
theorem uw_X4 : ∀ w ∈ u_ws RX4 TX4 8, w ∈ lw_tbl := by decide +kernel
theorem uw_X5 : ∀ w ∈ u_ws RX5 TX5 11, w ∈ lw_tbl := by decide +kernel
theorem uw_X6 : ∀ w ∈ u_ws RX6 TX6 8, w ∈ lw_tbl := by decide +kernel
theorem uw_X7 : ∀ w ∈ u_ws RX7 TX7 5, w ∈ lw_tbl := by decide +kernel
theorem uw_X8 : ∀ w ∈ u_ws RX8 TX8 8, w ∈ lw_tbl := by decide +kernel
theorem uw_J0 : ∀ w ∈ u_ws RJ0 TJ0 4, w ∈ lw_tbl := by decide +kernel
theorem uw_J4 : ∀ w ∈ u_ws RJ4 TJ4 4, w ∈ lw_tbl := by decide +kernel
theorem nf_aOnes : nF[12]? = some (Cond.arrayOf (.static "java/lang/Integer" "DigitOnes" "[B") .byte) := by decide +kernel
theorem nf_lOnes : nF[13]? = some (Cond.eq (.length (.static "java/lang/Integer" "DigitOnes" "[B")) (.int (Int32.ofNat 100))) := by decide +kernel
theorem nf_eOnes : ∀ j, j < 100 → nF[14 + j]? = some (Cond.eq (.elem (.static "java/lang/Integer" "DigitOnes" "[B") (.int (Int32.ofNat j))) (.int (Int32.ofNat (48 + j % 10)))) := by decide +kernel
theorem nf_aTens : nF[115]? = some (Cond.arrayOf (.static "java/lang/Integer" "DigitTens" "[B") .byte) := by decide +kernel
theorem nf_lTens : nF[116]? = some (Cond.eq (.length (.static "java/lang/Integer" "DigitTens" "[B")) (.int (Int32.ofNat 100))) := by decide +kernel
theorem nf_eTens : ∀ j, j < 100 → nF[117 + j]? = some (Cond.eq (.elem (.static "java/lang/Integer" "DigitTens" "[B") (.int (Int32.ofNat j))) (.int (Int32.ofNat (48 + j / 10)))) := by decide +kernel
/-- a private method of the class that declares y0, called on an object of the class C -/
theorem sel_up {C : String} {y y0 : MethodName} {s : State} {args : Array Value} (hy : y.cls ≠ "java/lang/invoke/MethodHandle" ∧ y.cls ≠ "java/lang/invoke/VarHandle") (h0 : (Cond.selects C y0 y0).before args s = true) (hcc : y.cls = y0.cls) (hpriv : (Cond.privateMethod y).before args s = true) (hinst : (Cond.instanceMethod y).before args s = true) : (Cond.selects C y y).before args s = true := by
  obtain ⟨c2, r2, m2, q1, q2, q3, q4, kP, hkP, hkPi⟩ := Cond.selects_spec h0
  obtain ⟨mk, methM, hnamed, hmethM, -, -⟩ := Cond.instanceMethod_spec hinst
  have hfound : s.methodFound? y.cls y.name y.desc = some mk := State.methodFound?_of_named hnamed hy
  have hcls : mk.cls = m2.cls := by
    have a := findClass_of_methodNamed hnamed
    rw [hcc] at a
    exact Option.some.inj (a.symm.trans (findClass_of_methodNamed q3))
  have hsel : selectMethod {} s.vm c2 mk = .method mk := selectMethod_private hmethM (Cond.privateMethod_at hpriv mk methM hnamed hmethM)
  simp only [Cond.before, Cond.holds, Cond.value, q1, hfound, hnamed, hsel, hcls, hkP]
  simp; exact hkPi
def y_lat : MethodName := ⟨"java/lang/AbstractStringBuilder", "isLatin1", "()Z"⟩
theorem js_ok : ∀ y ∈ am_js, (y.cls ≠ "java/lang/invoke/MethodHandle" ∧ y.cls ≠ "java/lang/invoke/VarHandle") ∧ y.cls = y_lat.cls ∧ Cond.privateMethod y ∈ lw_tbl ∧ Cond.instanceMethod y ∈ lw_tbl := by decide +kernel
theorem lat_in : Cond.selects "java/lang/StringBuilder" y_lat y_lat ∈ lw_tbl := by decide +kernel
section SX
variable {s : State} {b : Nat}
theorem gl_ok (hts : ∀ w ∈ lw_tbl, w.before #[Value.ref b] s = true) : ∀ w ∈ am_Gl, w.before #[Value.ref b] s = true := fun w h => by
  rcases List.mem_append.mp (List.mem_filter.mp h).1 with h | h
  · obtain ⟨y, hy, rfl⟩ := List.mem_map.mp h
    obtain ⟨a1, a2, a3, a4⟩ := js_ok y hy
    exact sel_up a1 (hts _ lat_in) a2 (hts _ a3) (hts _ a4)
  · exact hts w h
theorem kn_all (hts : ∀ w ∈ lw_tbl, w.before #[Value.ref b] s = true) : ∃ dC : va_G, ∀ (c : Nat) (q : vw_C), vwCl[c]? = some q → u_Kn s q.1 q.2.1 q.2.2 (dC.1 c) (dC.2 c) := by
  obtain ⟨c0, i0, h0⟩ := u_known (C := RX0) (T := TX0) (N := 6) (n := 6) hts uw_X0 (gl_ok hts _ mk_X0)
  obtain ⟨c1, i1, h1⟩ := u_known (C := RX1) (T := TX1) (N := 3) (n := 3) hts uw_X1 (gl_ok hts _ mk_X1)
  obtain ⟨c2, i2, h2⟩ := u_known (C := RX2) (T := TX2) (N := 4) (n := 4) hts uw_X2 (gl_ok hts _ mk_X2)
  obtain ⟨c3, i3, h3⟩ := u_known (C := RX3) (T := TX3) (N := 12) (n := 12) hts uw_X3 (gl_ok hts _ mk_X3)
  obtain ⟨c4, i4, h4⟩ := u_known (C := RX4) (T := TX4) (N := 8) (n := 8) hts uw_X4 (gl_ok hts _ mk_X4)
  obtain ⟨c5, i5, h5⟩ := u_known (C := RX5) (T := TX5) (N := 11) (n := 11) hts uw_X5 (gl_ok hts _ mk_X5)
  obtain ⟨c6, i6, h6⟩ := u_known (C := RX6) (T := TX6) (N := 8) (n := 8) hts uw_X6 (gl_ok hts _ mk_X6)
  obtain ⟨c7, i7, h7⟩ := u_known (C := RX7) (T := TX7) (N := 5) (n := 5) hts uw_X7 (gl_ok hts _ mk_X7)
  obtain ⟨c8, i8, h8⟩ := u_known (C := RX8) (T := TX8) (N := 8) (n := 8) hts uw_X8 (gl_ok hts _ mk_X8)
  obtain ⟨c9, i9, h9⟩ := u_known (C := RJ0) (T := TJ0) (N := 4) (n := 4) hts uw_J0 (gl_ok hts _ mk_J0)
  obtain ⟨c10, i10, h10⟩ := u_known (C := RJ4) (T := TJ4) (N := 4) (n := 4) hts uw_J4 (gl_ok hts _ mk_J4)
  refine ⟨(fun k => [c0, c1, c2, c3, c4, c5, c6, c7, c8, c9, c10].getD k 0, fun k => [i0, i1, i2, i3, i4, i5, i6, i7, i8, i9, i10].getD k (fun _ => 0)), fun c q hq => ?_⟩
  match c, hq with
  | 0, hq => cases hq; exact h0
  | 1, hq => cases hq; exact h1
  | 2, hq => cases hq; exact h2
  | 3, hq => cases hq; exact h3
  | 4, hq => cases hq; exact h4
  | 5, hq => cases hq; exact h5
  | 6, hq => cases hq; exact h6
  | 7, hq => cases hq; exact h7
  | 8, hq => cases hq; exact h8
  | 9, hq => cases hq; exact h9
  | 10, hq => cases hq; exact h10
  | c + 11, hq => simp at hq
theorem sx_of (hts : ∀ w ∈ lw_tbl, w.before #[Value.ref b] s = true) (hgv : (Jvm.Cond.and given_1 narrow_1).before #[Value.ref b] s = true) : ∃ D : am_D, am_Sx D (fun q => s.heap.size ≤ q) s ∧ D.2 60 = b := by
  have hA : ∀ a : Nat, a < s.heap.size → ¬ (fun q : Nat => s.heap.size ≤ q) a := fun a h => Nat.not_le.mpr h
  obtain ⟨dC, hK⟩ := kn_all hts
  obtain ⟨adK, adV, hS, hT⟩ := vk_Sof (N := 16) (tm := tmx) (len := am_sl) (byt := am_sb) (A := fun q : Nat => s.heap.size ≤ q) sl_lt (fun i hi => nF_of hgv (nf_ex i hi)) (fun i hi => nF_of hgv (nf_co i hi)) (fun i hi => nF_of hgv (nf_ar i hi)) (fun i hi => nF_of hgv (nf_le i hi)) (fun i hi j hj => nF_of hgv (nf_el i hi j hj)) (fun i j hi hj hij => (nf_ne i hi j hj hij).imp (nF_of hgv) (nF_of hgv)) hA
  have hsi := va_Zqof (hts (.laysStatic "jdk/internal/util/Preconditions" "SIOOBE_FORMATTER" "Ljava/util/function/BiFunction;") (by decide +kernel)) (hts (.initialized "jdk/internal/util/Preconditions") (by decide +kernel)) (nF_of hgv nf_si) hA
  obtain ⟨sio, hsio⟩ : ∃ sio : Nat, va_Z "jdk/internal/util/Preconditions" "SIOOBE_FORMATTER" "Ljava/util/function/BiFunction;" .null (fun q => s.heap.size ≤ q) s s.heap ∨ va_Z "jdk/internal/util/Preconditions" "SIOOBE_FORMATTER" "Ljava/util/function/BiFunction;" (.ref sio) (fun q => s.heap.size ≤ q) s s.heap := by
    rcases hsi with h | ⟨t, h⟩
    · exact ⟨0, Or.inl h⟩
    · exact ⟨t, Or.inr h⟩
  obtain ⟨t1, ht1, hT1⟩ := va_Tof (f := fun j => .int (Int32.ofNat (48 + j % 10))) (N := 100) (A := fun q : Nat => s.heap.size ≤ q) (by decide) (nF_of hgv nf_aOnes) (va_eqt (nF_of hgv nf_lOnes)) (fun j hj => va_eqt (nF_of hgv (nf_eOnes j hj))) hA
  obtain ⟨t2, ht2, hT2⟩ := va_Tof (f := fun j => .int (Int32.ofNat (48 + j / 10))) (N := 100) (A := fun q : Nat => s.heap.size ≤ q) (by decide) (nF_of hgv nf_aTens) (va_eqt (nF_of hgv nf_lTens)) (fun j hj => va_eqt (nF_of hgv (nf_eTens j hj))) hA
  obtain ⟨D2, hD2⟩ : ∃ D2 : Nat → Nat, D2 = fun i => if i = 60 then b else if i = 51 then sio else if i = 61 then t1 else if i = 62 then t2 else if i < 16 then adK i else adV (i - 100) := ⟨_, rfl⟩
  have dk : ∀ i, i < 16 → D2 i = adK i := fun i hi => by
    rw [hD2]
    show (if i = 60 then b else if i = 51 then sio else if i = 61 then t1 else if i = 62 then t2 else if i < 16 then adK i else adV (i - 100)) = _
    rw [if_neg (by omega), if_neg (by omega), if_neg (by omega), if_neg (by omega), if_pos hi]
  have dv : ∀ i, i < 16 → D2 (100 + i) = adV i := fun i hi => by
    rw [hD2]
    show (if 100 + i = 60 then b else if 100 + i = 51 then sio else if 100 + i = 61 then t1 else if 100 + i = 62 then t2 else if 100 + i < 16 then adK (100 + i) else adV (100 + i - 100)) = _
    rw [if_neg (by omega), if_neg (by omega), if_neg (by omega), if_neg (by omega), if_neg (by omega), Nat.add_sub_cancel_left]
  have ev : ∀ i, i < 16 → (tmx i).eval #[Value.ref b] s none [] s = some (.ref (D2 i)) := fun i hi => by rw [dk i hi]; exact hT i hi
  have eqv : ∀ {i : Nat} {t : Term}, i < 16 → (Cond.eq (tmx i) t).before #[Value.ref b] s = true → t.eval #[Value.ref b] s none [] s = some (.ref (D2 i)) := fun {i t} hi h => by
    obtain ⟨y, y1, y2⟩ := Cond.eq_one h
    rw [ev i hi] at y1
    cases y1
    exact y2
  have cs : (Term.static "java/lang/String" "COMPACT_STRINGS" "Z").eval #[Value.ref b] s none [] s = some (.int 1) := by
    obtain ⟨y, y1, y2⟩ := Cond.eq_one (nF_of hgv nf_cs)
    have y3 : some (Value.int 1) = some y := y2
    cases y3
    exact y1
  refine ⟨(dC, D2), ⟨hK, vx_Zqof (hts (.laysStatic Bundle.tN "UNASSIGNED_STACK" Bundle.steD) (by decide +kernel)) (hts (.initialized Bundle.tN) (by decide +kernel)) (nF_of hgv nf_us) hA, vx_Zqof (hts (.laysStatic Bundle.tN "SUPPRESSED_SENTINEL" Bundle.listD) (by decide +kernel)) (hts (.initialized Bundle.tN) (by decide +kernel)) (nF_of hgv nf_ss) hA, fun w hw => ?_, ⟨va_AO.of (hts (.arrayOver (.object "TollTrees$Gate")) (by decide +kernel)), va_AO.of (hts (.arrayOver (.object "TollTrees$Station")) (by decide +kernel))⟩, fun q hq => ?_, ⟨va_Zof (hts (.laysStatic "java/lang/String" "COMPACT_STRINGS" "Z") (by decide +kernel)) (hts (.initialized "java/lang/String") (by decide +kernel)) cs hA, ?_, ?_⟩, fun q hq => ?_, ?_⟩, by rw [hD2]; rfl⟩
  · obtain ⟨h1, h2⟩ := List.mem_filter.mp hw
    refine va_Nw.of ?_ (hts w h1)
    cases w <;> first | rfl | (simp [am_nw] at h2)
  · simp only [am_nc, List.mem_cons, List.not_mem_nil, or_false] at hq
    rcases hq with rfl | rfl | rfl | rfl | rfl | rfl
    · exact va_Nc.of (nF_of hgv nf_nc0)
    · exact va_Nc.of (nF_of hgv nf_nc1)
    · exact va_Nc.of (nF_of hgv nf_nc2)
    · exact va_Nc.of (nF_of hgv nf_nc3)
    · exact va_Nc.of (nF_of hgv nf_nc4)
    · exact va_Nc.of (nF_of hgv nf_nc5)
  · refine ⟨fun i hi => ?_, fun i j hi hj he => ?_⟩
    · have h := hS.1 i hi
      show va_O _ (D2 i) _ _ _ ∧ va_OF _ _ _ _ (D2 i) _ _ _ ∧ va_OF _ _ _ (.ref (D2 (100 + i))) (D2 i) _ _ _ ∧ va_T _ (D2 (100 + i)) _ _ _ _ _
      rw [dk i hi, dv i hi]
      exact h
    · have he' : D2 i = D2 j := he
      rw [dk i hi, dk j hj] at he'
      exact hS.2 i j hi hj he'
  · have e : D2 51 = sio := by rw [hD2]; rfl
    show _ ∨ va_Z _ _ _ (.ref (D2 51)) _ _ _
    rw [e]
    exact hsio
  · simp only [am_sr, List.mem_cons, List.not_mem_nil, or_false] at hq
    rcases hq with rfl | rfl | rfl | rfl | rfl | rfl | rfl | rfl | rfl | rfl | rfl | rfl | rfl | rfl | rfl | rfl
    · exact vk_R.of (hts (.stringRef "TollTrees" 57 "tolls; ask wheels 1; ask load 2; ask beast 1; cart barrow 2; cart dray 5 wheels load; cart coach 7 wheels beast; cart wagon 9 wheels load beast; cart mule 3 beast; gate north 6 20 9 40 25 10 15 10; gate south 0 23 2 5 50 5 30 10;") (by decide +kernel)) (ev 0 (by decide))
    · exact vk_R.of (hts (.stringRef "TollTrees$Reader" 98 "tolls") (by decide +kernel)) (ev 1 (by decide))
    · exact vk_R.of (hts (.stringRef "TollTrees$Reader" 115 "ask") (by decide +kernel)) (ev 2 (by decide))
    · exact vk_R.of (hts (.stringRef "TollTrees$Reader" 147 "cart") (by decide +kernel)) (ev 3 (by decide))
    · exact vk_R.of (hts (.stringRef "TollTrees$Reader" 169 "gate") (by decide +kernel)) (ev 4 (by decide))
    · exact vk_R.of (hts (.stringRef "TollTrees$Reader" 212 "pass") (by decide +kernel)) (ev 5 (by decide))
    · exact vk_R.of (hts (.stringRef "TollTrees$Reader" 217 "build") (by decide +kernel)) (ev 6 (by decide))
    · exact vk_R.of (hts (.stringRef "TollTrees$Reader" 222 "halve") (by decide +kernel)) (ev 7 (by decide))
    · exact vk_R.of (hts (.stringRef "TollTrees$Reader" 227 "toll") (by decide +kernel)) (ev 8 (by decide))
    · exact vk_R.of (hts (.stringRef "TollTrees$Reader" 232 "limit") (by decide +kernel)) (ev 9 (by decide))
    · exact vk_R.of (hts (.stringRef "TollTrees$Reader" 236 "hours") (by decide +kernel)) (ev 10 (by decide))
    · exact vk_R.of (hts (.stringRef "TollTreesLaw" 271 "tolls;") (by decide +kernel)) (ev 11 (by decide))
    · exact vk_R.of (hts (.stringRef "TollTreesLaw" 276 "ask q") (by decide +kernel)) (ev 12 (by decide))
    · exact vk_R.of (hts (.stringRef "TollTreesLaw" 287 "cart t") (by decide +kernel)) (ev 13 (by decide))
    · exact vk_R.of (hts (.stringRef "TollTreesLaw" 289 " q") (by decide +kernel)) (ev 14 (by decide))
    · exact vk_R.of (hts (.stringRef "TollTreesLaw" 291 "gate g") (by decide +kernel)) (ev 15 (by decide))
  · have e1 : D2 61 = t1 := by rw [hD2]; rfl
    have e2 : D2 62 = t2 := by rw [hD2]; rfl
    show (va_Z _ _ _ (.ref (D2 61)) _ _ _ ∧ va_T _ (D2 61) _ _ _ _ _) ∧ (va_Z _ _ _ (.ref (D2 62)) _ _ _ ∧ va_T _ (D2 62) _ _ _ _ _)
    rw [e1, e2]
    exact ⟨⟨va_Zref (hts (.laysStatic "java/lang/Integer" "DigitOnes" "[B") (by decide +kernel)) (hts (.initialized "java/lang/Integer") (by decide +kernel)) ht1 hA, hT1⟩, va_Zref (hts (.laysStatic "java/lang/Integer" "DigitTens" "[B") (by decide +kernel)) (hts (.initialized "java/lang/Integer") (by decide +kernel)) ht2 hA, hT2⟩
end SX
