/-! THE LAW: acts -/
theorem s4 (a x b y : Int32) : a + x - (b + y) = a - b + (x - y) := by
  rw [Int32.sub_eq_add_neg, Int32.neg_add, Int32.sub_eq_add_neg (a := -b), Int32.sub_eq_add_neg (a := a), Int32.sub_eq_add_neg (a := x)]
  exact i4 _ _ _ _
/-- what the steps keep: the totals fit, the clock doesn't run far -/
def invW (w : Nat → Int32) (k : Nat) : Prop := totW w (100 * k) ∧ vC w ≤ 20 * k
theorem inv_of {w w' : Nat → Int32} {k : Nat} (h : ∀ j, 4 ≤ j → j < 12 → w' j = w j) (hc : vC w' ≤ vC w + 20) (hi : invW w k) : invW w' (k + 1) := by
  obtain ⟨⟨t1, a, b, c, c4, c8, c9, hab, hcN⟩, h2⟩ := hi
  refine ⟨⟨?_, a, b, c, ?_, ?_, ?_, hab, by omega⟩, by omega⟩
  · rw [h 6 (by decide) (by decide), h 7 (by decide) (by decide), h 10 (by decide) (by decide), h 11 (by decide) (by decide)]; exact t1
  · rw [h 4 (by decide) (by decide)]; exact c4
  · rw [h 8 (by decide) (by decide)]; exact c8
  · rw [h 9 (by decide) (by decide)]; exact c9
section TA
variable {d : Nat} {Γ : am_G} {I : am_I} {L : am_L} {w : Nat → Int32} {h : Nat → Nat → Int32} {s : Nat}
theorem pasW_tot {g t : Nat} {n c p e : Int32} {j : Nat} (h1 : 4 ≤ j) (h2 : j < 12) : pasW w g t n c p e j = addT (fun i => w (4 + i)) n c p e (j - 4) := by
  unfold pasW
  rw [if_neg (by omega), if_pos ⟨h1, h2⟩]
theorem inv_pas {g t n k : Nat} {c p e : Int32} (hn : n ≤ 99) (hi : invW w k) : invW (pasW w g t (nn n) c p e) (k + 1) := by
  obtain ⟨⟨t1, a, b, m, c4, c8, c9, hab, hcN⟩, h2⟩ := hi
  have e4 : pasW w g t (nn n) c p e 4 = w 4 + nn n := pasW_tot (by decide) (by decide)
  have e6 : pasW w g t (nn n) c p e 6 = w 6 + nn n * p := pasW_tot (by decide) (by decide)
  have e7 : pasW w g t (nn n) c p e 7 = w 7 + nn n * e := pasW_tot (by decide) (by decide)
  have e8 : pasW w g t (nn n) c p e 8 = if e < p then w 8 + nn n else w 8 := pasW_tot (by decide) (by decide)
  have e9 : pasW w g t (nn n) c p e 9 = if p < e then w 9 + nn n else w 9 := pasW_tot (by decide) (by decide)
  have e10 : pasW w g t (nn n) c p e 10 = if e < p then w 10 + nn n * (p - e) else w 10 := pasW_tot (by decide) (by decide)
  have e11 : pasW w g t (nn n) c p e 11 = if p < e then w 11 + nn n * (e - p) else w 11 := pasW_tot (by decide) (by decide)
  have eC : vC (pasW w g t (nn n) c p e) = vC w := by unfold vC; rw [pasW_at (by omega) (by omega)]
  have eL : pasW w g t (nn n) c p e 6 - pasW w g t (nn n) c p e 7 = w 10 - w 11 + nn n * (p - e) := by
    rw [e6, e7, s4, t1, Int32.mul_sub]
  refine ⟨⟨?_, ?_⟩, by rw [eC]; omega⟩
  · rw [eL, e10, e11]
    by_cases x1 : e < p
    · have x2 : ¬ p < e := fun z => Int32.lt_irrefl (Int32.lt_trans x1 z)
      rw [if_pos x1, if_neg x2, i32_sac]
    · by_cases x2 : p < e
      · rw [if_neg x1, if_pos x2, ← Int32.sub_sub, mul_sub_neg]
      · have x3 : p = e := Int32.le_antisymm (Int32.not_lt.mp x1) (Int32.not_lt.mp x2)
        rw [if_neg x1, if_neg x2, x3, Int32.sub_self, Int32.mul_zero, Int32.add_zero]
  · rw [e4, e8, e9, c4, c8, c9]
    by_cases x1 : e < p
    · have x2 : ¬ p < e := fun z => Int32.lt_irrefl (Int32.lt_trans x1 z)
      exact ⟨a + n, b, m + n, nn_add _ _, by rw [if_pos x1, nn_add], by rw [if_neg x2], by omega, by omega⟩
    · by_cases x2 : p < e
      · exact ⟨a, b + n, m + n, nn_add _ _, by rw [if_neg x1], by rw [if_pos x2, nn_add], by omega, by omega⟩
      · exact ⟨a, b, m + n, nn_add _ _, by rw [if_neg x1], by rw [if_neg x2], by omega, by omega⟩
/-- the carts that pass leave tree and hours as they are -/
theorem pas_same (hw : wfs w) {g t : Nat} {n c p e : Int32} (hg : g < vG w) (ht : t < vT w) : ptW (pasW w g t n c p e) g t = ptW w g t ∧ pcW (pasW w g t n c p e) g t = pcW w g t ∧ opW' (pasW w g t n c p e) g = opW' w g ∧ vG (pasW w g t n c p e) = vG w ∧ vT (pasW w g t n c p e) = vT w := by
  have t8 := hw.1.2.1.2
  have q6 := hw.1.1.2
  have er : ∀ k, rw5 (pasW w g t n c p e) g k = rw5 w g k := fun k => funext fun j => by
    unfold rw5
    exact pasW_at (by omega) (by omega)
  have et : teW (pasW w g t n c p e) g = teW w g := by unfold teW; rw [pasW_at (by omega) (by omega)]
  have eG : vG (pasW w g t n c p e) = vG w := by unfold vG; rw [pasW_at (by omega) (by omega)]
  have eT : vT (pasW w g t n c p e) = vT w := by unfold vT; rw [pasW_at (by omega) (by omega)]
  refine ⟨by unfold ptW; rw [er, er, er, et], ?_, by unfold opW'; rw [pasW_at (by omega) (by omega), pasW_at (by omega) (by omega), pasW_at (by omega) (by omega)], eG, eT⟩
  unfold pcW
  rw [er, er, et]
  obtain ⟨ew, e0, e15, tv⟩ := hw.1.tr hg
  have t0 := hw.2.2.1
  have p2 : 2 ^ 1 ≤ 2 ^ vT w := Nat.pow_le_pow_right (n := 2) (by decide) t0
  refine wcA_cg (fun _ _ => ⟨rfl, rfl⟩) (fun j hj hq => ?_)
  obtain ⟨S', s1, s2, s3, s4, s5, s6⟩ := tva_set q6 tv (by omega) j (Nat.zero_le _) hj
  obtain ⟨q, q1, q2⟩ := s5 hq
  unfold csW
  rw [q2, nn_nat (by omega)]
  exact pasW_at (by omega) (by omega)
theorem CS.drw {c : Nat} {x : Int32} (R : CS I L w h s) (hc : 373 ≤ c) : CS (am_u I c 0 x) L w h s := R.fr (fun k k1 k2 k3 => am_u_ne (by omega)) (fun _ _ _ _ => rfl)
/-- behind a step -/
def actP (w : Nat → Int32) (k : Nat) : am_I → am_L → Prop := fun I' L' => ∃ w' h' s', CS I' L' w' h' s' ∧ invW w' (k + 1) ∧ vT w' = vT w ∧ vG w' = vG w
/-- an object of the law's: its numbers so far -/
def ls4 (g t : Nat) : List (Nat × Value) := [(0, .ref 0), (1, .ref 450), (2, .int (nn g)), (3, .int (nn t))]
theorem act_pass (hF : wF Γ) (a450 : am_ar Γ 450 1 1 0) (R : CS I L w h s) {g t k : Nat} (hg : g < vG w) (ht : t < vT w) (hi : invW w k) : aG m_L_acts (d + 23) 1 6 1 6 64 (ls4 g t) [] Γ I L (.inl (some (.int 1))) (actP w k) := by
  have ox := hF.1.1
  have t8 := R.1.1.2.1.2
  obtain ⟨r, x, hr, E1⟩ := eL_draw (d := d + 22) (I := I) (L := L) (k := 99) a450 (by decide) (by decide)
  have R1 := R.drw (c := 450) (x := x) (by decide)
  have e1 : (1 : Int32) + nn r = nn (1 + r) := nn_add 1 r
  have hw := R.1
  refine aG.go ?_ (fun _ _ k => bL_acts_64 (Nat.zero_le _) (Nat.zero_le _) E1 k)
  refine aG.go ?_ (fun _ _ k => bL_acts_71 (Nat.zero_le _) (Nat.zero_le _) (hL_countAt ox (qX_countAt (d := d + 1) hF R1 hg ht)) k)
  rw [e1]
  refine aG.go ?_ (fun _ _ k => bL_acts_80 ox (Nat.zero_le _) (Nat.zero_le _) (qX_cartsPassed (d := d + 2) hF R1) k)
  refine aG.go ?_ (fun _ _ k => bL_acts_86 ox (Nat.zero_le _) (Nat.zero_le _) (qX_tollsPaid (d := d + 2) hF R1) k)
  refine aG.go ?_ (fun _ _ k => bL_acts_92 ox (Nat.zero_le _) (Nat.zero_le _) (qX_costAsked (d := d + 2) hF R1) k)
  cases ho : opW' w g
  · have hop := hL_isOpen ox (qX_isOpen (d := d + 1) hF R1 hg)
    have ho' := ho
    unfold opW' at ho'
    rw [ho'] at hop
    refine aG.go ?_ (fun _ _ k => bL_acts_98 (by decide) (by decide) (hL_passCarts_x ox (qX_passCarts_x (d := d + 1) hF R1 hg ht (k := 1 + r) (by omega) (by omega) ho)) k)
    refine aG.go ?_ (fun _ _ k => bL_acts_108 (Nat.zero_le _) (Nat.zero_le _) hop k)
    refine aG.go ?_ (fun _ _ k => bL_acts_115 (fun z => absurd z (by decide)) (fun _ => k))
    refine aG.go ?_ (fun _ _ k => bL_acts_119 (fun z => absurd rfl z) (fun _ => k))
    refine aG.go ?_ (fun _ _ k => bL_acts_126 (Nat.zero_le _) (Nat.zero_le _) (hL_countAt ox (qX_countAt (d := d + 1) hF R1 hg ht)) k)
    refine aG.go ?_ (fun _ _ k => bL_acts_132 (fun z => absurd rfl z) (fun _ => k))
    refine aG.go ?_ (fun _ _ k => bL_acts_137 k)
    exact aG.fin (bL_acts_142 rfl ⟨rfl, rfl, rfl⟩) ⟨w, h, s, R1, inv_of (fun _ _ _ => rfl) (by omega) hi, rfl, rfl⟩
  · obtain ⟨I2, L2, E2, R2, -⟩ := qX_passCarts (d := d + 1) hF R1 hg ht (k := 1 + r) (by omega) (by omega) ho
    obtain ⟨s1, s2, s3, s4, s5⟩ := pas_same hw (n := nn (1 + r)) (c := pcW w g t) (p := ptW w g t) (e := w (60 + t * 9)) hg ht
    have hg2 : g < vG (pasW w g t (nn (1 + r)) (pcW w g t) (ptW w g t) (w (60 + t * 9))) := by rw [s4]; exact hg
    have ht2 : t < vT (pasW w g t (nn (1 + r)) (pcW w g t) (ptW w g t) (w (60 + t * 9))) := by rw [s5]; exact ht
    have hop := hL_isOpen ox (qX_isOpen (d := d + 1) hF R2 hg2)
    have ho' := s3.trans ho
    unfold opW' at ho'
    rw [ho'] at hop
    have eC : pasW w g t (nn (1 + r)) (pcW w g t) (ptW w g t) (w (60 + t * 9)) (132 + g * 94 + (10 + t)) = if w (132 + g * 94 + (10 + t)) + nn (1 + r) < 9999 then w (132 + g * 94 + (10 + t)) + nn (1 + r) else 9999 := by
      unfold pasW
      rw [if_pos rfl]
    have e4 : pasW w g t (nn (1 + r)) (pcW w g t) (ptW w g t) (w (60 + t * 9)) 4 = w 4 + nn (1 + r) := pasW_tot (by decide) (by decide)
    have e5 : pasW w g t (nn (1 + r)) (pcW w g t) (ptW w g t) (w (60 + t * 9)) 5 = w 5 + nn (1 + r) * pcW w g t := pasW_tot (by decide) (by decide)
    have e6 : pasW w g t (nn (1 + r)) (pcW w g t) (ptW w g t) (w (60 + t * 9)) 6 = w 6 + nn (1 + r) * ptW w g t := pasW_tot (by decide) (by decide)
    refine aG.go ?_ (fun _ _ k => bL_acts_98 (Nat.zero_le _) (Nat.zero_le _) (hL_passCarts ox E2) k)
    refine aG.go ?_ (fun _ _ k => bL_acts_108 (Nat.zero_le _) (Nat.zero_le _) hop k)
    refine aG.go ?_ (fun _ _ k => bL_acts_115 (fun _ => k) (fun z => absurd rfl z))
    refine aG.go ?_ (fun _ _ k => bL_acts_143 (Nat.zero_le _) (Nat.zero_le _) (am_E_e (hL_chargedToll ox (qX_chargedToll (d := d + 1) hF R2 hg2 ht2)) s1 rfl) k)
    refine aG.go ?_ (fun _ _ k => bL_acts_151 (fun z => absurd rfl z) (fun _ => k))
    refine aG.go ?_ (fun _ _ k => bL_acts_154 (Nat.zero_le _) (Nat.zero_le _) (hL_countAt ox (qX_countAt (d := d + 1) hF R2 hg2 ht2)) k)
    refine aG.go ?_ (fun _ _ k => bL_acts_160 (fun z => absurd eC z) (fun _ => k))
    refine aG.go ?_ (fun _ _ k => bL_acts_174 ox (Nat.zero_le _) (Nat.zero_le _) (qX_cartsPassed (d := d + 2) hF R2) k)
    refine aG.go ?_ (fun _ _ k => bL_acts_178 (fun z => absurd e4 z) (fun _ => k))
    refine aG.go ?_ (fun _ _ k => bL_acts_186 ox (Nat.zero_le _) (Nat.zero_le _) (qX_tollsPaid (d := d + 2) hF R2) k)
    refine aG.go ?_ (fun _ _ k => bL_acts_190 (fun z => absurd e6 z) (fun _ => k))
    refine aG.go ?_ (fun _ _ k => bL_acts_201 ox (Nat.zero_le _) (Nat.zero_le _) (qX_costAsked (d := d + 2) hF R2) k)
    refine aG.go ?_ (fun _ _ k => bL_acts_205 (Nat.zero_le _) (Nat.zero_le _) (am_E_e (hL_pathCost ox (qX_pathCost (d := d + 1) hF R2 hg2 ht2)) s2 rfl) k)
    refine aG.go ?_ (fun _ _ k => bL_acts_215 (fun z => absurd e5 z) (fun _ => k))
    refine aG.go ?_ (fun _ _ k => bL_acts_220 k)
    exact aG.fin (bL_acts_225 rfl ⟨rfl, rfl, rfl⟩) ⟨_, _, _, R2, inv_pas (by omega) hi, s5, s4⟩
theorem act_build (hF : wF Γ) (R : CS I L w h s) {g t k : Nat} (hg : g < vG w) (hi : invW w k) : aG m_L_acts (d + 23) 1 6 1 6 226 (ls4 g t) [] Γ I L (.inl (some (.int 1))) (actP w k) := by
  obtain ⟨I1, L1, E1, w', hb, R1⟩ := eL_builds (d := d) hF R hg
  obtain ⟨ag, eG⟩ := bld_agr R.1 hg hb
  have at' : ∀ j, j < 132 → w' j = w j := fun j hj => bldR_at hb (by omega)
  refine aG.go ?_ (fun _ _ k => bL_acts_226 (Nat.zero_le _) (Nat.zero_le _) E1 k)
  exact aG.fin (bL_acts_231 rfl ⟨rfl, rfl, rfl⟩) ⟨w', _, _, R1, inv_of (fun j _ _ => at' j (by omega)) (by unfold vC; rw [at' 3 (by decide)]; omega) hi, ag.2.1, eG⟩
theorem eL_weight (hF : wF Γ) (R : CS I L w h s) {g : Nat} (hg : g < vG w) : am_E m_L_weight (d + 22) 0 0 [.ref 0, .int (nn g)] Γ I L (.inl (some (.int (mCnt w g (vT w))))) I L := by
  have ox := hF.1.1
  obtain ⟨-, ⟨w0, w1, w2⟩, q6, t8, g4, q0, t0, g0⟩ := R.nums
  refine am_ofE rfl rfl rfl (Nat.le_of_ble_eq_true rfl) ?_
  refine bL_weight_0 ?_
  have loop := nn_loop (fun t => am_W m_L_weight (d + 22) 0 0 false 0 0 4 [(0, .ref 0), (1, .int (nn g)), (2, .int (mCnt w g t)), (3, .int (nn t))] [] Γ I L (am_R (.inl (some (.int (mCnt w g (vT w))))) I L)) (vT w) ?_ (fun t ht ih => ?_)
  · exact loop
  · refine bL_weight_4 ox (Nat.zero_le _) (Nat.zero_le _) (am_E_e (qX_typeCount (d := d + 1) hF R) w1 rfl) ?_
    refine bL_weight_9 (fun _ => ?_) (fun z => absurd (by rw [nn_le (by omega) (by omega)]; exact Nat.le_refl _) z)
    exact bL_weight_27 ⟨rfl, rfl, rfl⟩
  · refine bL_weight_4 ox (Nat.zero_le _) (Nat.zero_le _) (am_E_e (qX_typeCount (d := d + 1) hF R) w1 rfl) ?_
    refine bL_weight_9 (fun z => absurd z (by rw [nn_le (by omega) (by omega)]; omega)) (fun _ => ?_)
    refine bL_weight_12 (Nat.zero_le _) (Nat.zero_le _) (hL_countAt ox (qX_countAt (d := d) hF R hg ht)) ?_
    refine bL_weight_19 ?_
    exact aw_els ih (by rw [nn_s1]; rfl)
theorem nsum_half (f : Nat → Nat) : ∀ n, 2 * nsum (fun t => f t / 2) n ≤ nsum f n
  | 0 => Nat.le_refl _
  | n + 1 => by
    show 2 * (nsum (fun t => f t / 2) n + f n / 2) ≤ nsum f n + f n
    have := nsum_half f n
    omega
theorem hlk_at {g j : Nat} (hj : j < 132) : hlW w g j = w j := by unfold hlW; rw [if_neg (by omega)]
theorem act_halve (hF : wF Γ) (R : CS I L w h s) {g t k : Nat} (hg : g < vG w) (hi : invW w k) : aG m_L_acts (d + 23) 1 6 1 6 232 (ls4 g t) [] Γ I L (.inl (some (.int 1))) (actP w k) := by
  have ox := hF.1.1
  have t8 := R.1.1.2.1.2
  have cts := (R.1.1.2.2.2.2.2.2 g hg).2.2.2.2.1
  obtain ⟨I1, L1, E1, R1, -⟩ := qX_halveCounts (d := d + 1) hF R hg
  have eT : vT (hlW w g) = vT w := by unfold vT; rw [hlk_at (by decide)]
  have eG : vG (hlW w g) = vG w := by unfold vG; rw [hlk_at (by decide)]
  have c1 : mCnt w g (vT w) = nn (nsum (ctW w g) (vT w)) := fsum_nn _ (fun t ht => (cts t ht).1)
  have c2 : mCnt (hlk w g (vT w)) g (vT w) = nn (nsum (fun t => ctW w g t / 2) (vT w)) := fsum_nn _ (fun t ht => by
    unfold hlk
    rw [if_pos (by omega), (cts t ht).1, nl_2, nn_div (by have := (cts t ht).2; omega) (by decide)])
  have c3 : mCnt (hlW w g) g (vT (hlW w g)) = mCnt (hlk w g (vT w)) g (vT w) := by rw [eT]; rfl
  have hb := nsum_le (f := ctW w g) (m := 9999) (vT w) (fun t ht => (cts t ht).2)
  have hb2 : vT w * 9999 ≤ 8 * 9999 := Nat.mul_le_mul_right _ t8
  have hh := nsum_half (ctW w g) (vT w)
  refine aG.go ?_ (fun _ _ k => bL_acts_232 (Nat.zero_le _) (Nat.zero_le _) (am_E_e (eL_weight (d := d) hF R hg) c1 rfl) k)
  refine aG.go ?_ (fun _ _ k => bL_acts_237 (Nat.zero_le _) (Nat.zero_le _) (am_E_e (hL_halveCounts ox E1) c2 rfl) k)
  refine aG.go ?_ (fun _ _ k => bL_acts_244 (Nat.zero_le _) (Nat.zero_le _) (am_E_e (eL_weight (d := d) hF R1 (by rw [eG]; exact hg)) (c3.trans c2) rfl) k)
  refine aG.go ?_ (fun _ _ k => bL_acts_253 (fun z => absurd rfl z) (fun _ => k))
  refine aG.go ?_ (fun _ _ k => bL_acts_256 (fun z => absurd z (by rw [nl_2, nn_div (by omega) (by decide), nn_lt (by omega) (by omega)]; omega)) (fun _ => k))
  refine aG.go ?_ (fun _ _ k => bL_acts_265 k)
  exact aG.fin (bL_acts_270 rfl ⟨rfl, rfl, rfl⟩) ⟨_, _, _, R1, inv_of (fun j _ _ => hlk_at (by omega)) (by unfold vC; rw [hlk_at (by decide)]; omega) hi, eT, eG⟩
theorem act_toll (hF : wF Γ) (a450 : am_ar Γ 450 1 1 0) (R : CS I L w h s) {g t k : Nat} (ht : t < vT w) (hi : invW w k) : aG m_L_acts (d + 23) 1 6 1 6 271 (ls4 g t) [] Γ I L (.inl (some (.int 1))) (actP w k) := by
  have ox := hF.1.1
  have t8 := R.1.1.2.1.2
  obtain ⟨r, x, hr, E1⟩ := eL_draw (d := d + 22) (I := I) (L := L) (k := 12) a450 (by decide) (by decide)
  have R1 := R.drw (c := 450) (x := x) (by decide)
  obtain ⟨I2, L2, E2, R2, -⟩ := qX_setToll (d := d + 1) hF R1 ht (show r ≤ 99 by omega)
  have up' : ∀ j, j < 12 → up w (60 + t * 9) (nn r) j = w j := fun j hj => up_ne (by omega)
  refine aG.go ?_ (fun _ _ k => bL_acts_271 (Nat.zero_le _) (Nat.zero_le _) (hL_toll ox (qX_toll (d := d + 1) hF R ht)) k)
  refine aG.go ?_ (fun _ _ k => bL_acts_276 (Nat.zero_le _) (Nat.zero_le _) E1 k)
  refine aG.go ?_ (fun _ _ k => bL_acts_286 (Nat.zero_le _) (Nat.zero_le _) (hL_setToll ox E2) k)
  refine aG.go ?_ (fun _ _ k => bL_acts_289 (fun z => absurd rfl z) (fun _ => k))
  refine aG.go ?_ (fun _ _ k => bL_acts_294 (by decide) (by decide) (hL_setToll_x ox (qX_setToll_x (d := d + 1) hF R2 (by rw [show vT (up w (60 + t * 9) (nn r)) = vT w from by unfold vT; rw [up' 1 (by decide)]]; exact ht) (by decide))) k)
  refine aG.go ?_ (fun _ _ k => bL_acts_301 (fun z => absurd rfl z) (fun _ => k))
  refine aG.go ?_ (fun _ _ k => bL_acts_306 k)
  exact aG.fin (bL_acts_311 rfl ⟨rfl, rfl, rfl⟩) ⟨_, _, _, R2, inv_of (fun j _ _ => up' j (by omega)) (by unfold vC; rw [up' 3 (by decide)]; omega) hi, by unfold vT; rw [up' 1 (by decide)], by unfold vG; rw [up' 2 (by decide)]⟩
theorem act_limit (hF : wF Γ) (a450 : am_ar Γ 450 1 1 0) (R : CS I L w h s) {g t k : Nat} (hg : g < vG w) (hi : invW w k) : aG m_L_acts (d + 23) 1 6 1 6 312 (ls4 g t) [] Γ I L (.inl (some (.int 1))) (actP w k) := by
  have ox := hF.1.1
  obtain ⟨r, x, hr, E1⟩ := eL_draw (d := d + 22) (I := I) (L := L) (k := 12) a450 (by decide) (by decide)
  have R1 := R.drw (c := 450) (x := x) (by decide)
  obtain ⟨I2, L2, E2, R2, -⟩ := qX_setCostLimit (d := d + 1) hF R1 hg (show r ≤ 30 by omega)
  have up' : ∀ j, j < 12 → up w (132 + g * 94 + 2) (nn r) j = w j := fun j hj => up_ne (by omega)
  refine aG.go ?_ (fun _ _ k => bL_acts_312 (Nat.zero_le _) (Nat.zero_le _) (hL_costLimit ox (qX_costLimit (d := d + 1) hF R hg)) k)
  refine aG.go ?_ (fun _ _ k => bL_acts_317 (Nat.zero_le _) (Nat.zero_le _) E1 k)
  refine aG.go ?_ (fun _ _ k => bL_acts_327 (Nat.zero_le _) (Nat.zero_le _) (hL_setCostLimit ox E2) k)
  refine aG.go ?_ (fun _ _ k => bL_acts_330 (fun z => absurd rfl z) (fun _ => k))
  refine aG.go ?_ (fun _ _ k => bL_acts_335 k)
  exact aG.fin (bL_acts_340 rfl ⟨rfl, rfl, rfl⟩) ⟨_, _, _, R2, inv_of (fun j _ _ => up' j (by omega)) (by unfold vC; rw [up' 3 (by decide)]; omega) hi, by unfold vT; rw [up' 1 (by decide)], by unfold vG; rw [up' 2 (by decide)]⟩
theorem act_clock (hF : wF Γ) (a450 : am_ar Γ 450 1 1 0) (R : CS I L w h s) {g t k : Nat} (ht : t < vT w) (hi : invW w k) (hk : k ≤ 400) : aG m_L_acts (d + 23) 1 6 1 6 341 (ls4 g t) [] Γ I L (.inl (some (.int 1))) (actP w k) := by
  have ox := hF.1.1
  obtain ⟨-, ⟨w0, w1, w2⟩, q6, t8, g4, q0, t0, g0⟩ := R.nums
  obtain ⟨r, x, hr, E1⟩ := eL_draw (d := d + 22) (I := I) (L := L) (k := 20) a450 (by decide) (by decide)
  have R1 := R.drw (c := 450) (x := x) (by decide)
  have e1 : (1 : Int32) + nn r = nn (1 + r) := nn_add 1 r
  have hc := hi.2
  have c3 := R.1.1.2.2.2.1.1
  obtain ⟨I2, L2, E2, R2, -⟩ := qX_advanceClock (d := d + 1) hF R1 (v := 1 + r) (by omega) (by omega) (by omega)
  have up' : ∀ j, j ≠ 3 → up w 3 (nn (vC w + (1 + r))) j = w j := fun j hj => up_ne hj
  have eG : vG (up w 3 (nn (vC w + (1 + r)))) = vG w := by unfold vG; rw [up' 2 (by decide)]
  have eT : vT (up w 3 (nn (vC w + (1 + r)))) = vT w := by unfold vT; rw [up' 1 (by decide)]
  have eC : vC (up w 3 (nn (vC w + (1 + r)))) = vC w + (1 + r) := by
    show (up w 3 (nn (vC w + (1 + r))) 3).toNatClampNeg = _
    rw [up_eq, nn_nat (by omega)]
  have e3 : up w 3 (nn (vC w + (1 + r))) 3 = w 3 + nn (1 + r) := by rw [up_eq, c3, nn_add]
  generalize up w 3 (nn (vC w + (1 + r))) = w' at *
  have w2' := R2.nums.2.1.2.2
  rw [eG] at w2'
  refine aG.go ?_ (fun _ _ k => bL_acts_341 (Nat.zero_le _) (Nat.zero_le _) E1 k)
  refine aG.go ?_ (fun _ _ k => bL_acts_348 ox (Nat.zero_le _) (Nat.zero_le _) (qX_clock (d := d + 2) hF R1) k)
  rw [e1]
  refine aG.go ?_ (fun _ _ k => bL_acts_355 (Nat.zero_le _) (Nat.zero_le _) (hL_advanceClock ox E2) k)
  refine aG.go ?_ (fun _ _ k => bL_acts_363 k)
  have loop := nn_loop (fun j => ∀ v : Int32, v + mOpen w' j = mOpen w' (vG w) → aG m_L_acts (d + 23) 1 6 1 6 368 [(0, .ref 0), (1, .ref 450), (2, .int (nn g)), (3, .int (nn t)), (4, .int (nn (1 + r))), (5, .int (w 3)), (6, .int v), (7, .int (nn j))] [] Γ I2 L2 (.inl (some (.int 1))) (actP w k)) (vG w) ?_ (fun j hj ih => ?_)
  · exact loop _ (Int32.add_zero _)
  · intro v hv
    have v0 : v = 0 := by
      have e : v + mOpen w' (vG w) = 0 + mOpen w' (vG w) := by rw [hv, Int32.zero_add]
      exact i32_rc e
    subst v0
    refine aG.go ?_ (fun _ _ k => bL_acts_368 ox (Nat.zero_le _) (Nat.zero_le _) (am_E_e (qX_gateCount (d := d + 2) hF R2) w2' rfl) k)
    refine aG.go ?_ (fun _ _ k => bL_acts_374 (fun _ => k) (fun z => absurd (by rw [nn_le (by omega) (by omega)]; exact Nat.le_refl _) z))
    obtain ⟨v, Ev, hv⟩ := qX_quickestGate (d := d + 1) hF R2 (t := t) (by rw [eT]; exact ht)
    rw [eG] at hv
    refine aG.go ?_ (fun _ _ k => bL_acts_394 (Nat.zero_le _) (Nat.zero_le _) (hL_quickestGate ox Ev) k)
    refine aG.go ?_ (fun _ _ k => bL_acts_399 (fun z => absurd rfl z) (fun _ => k))
    refine aG.go ?_ (fun _ _ k => bL_acts_406 ox (Nat.zero_le _) (Nat.zero_le _) (qX_clock (d := d + 2) hF R2) k)
    refine aG.go ?_ (fun _ _ k => bL_acts_410 (fun z => absurd e3 z) (fun _ => k))
    have fin : actP w k I2 L2 := ⟨_, _, _, R2, inv_of (fun j j1 j2 => up' j (by omega)) (by rw [eC]; omega) hi, eT, eG⟩
    have opn' : ∀ j, j < vG w → am_E m_L_isOpen (d + 22) 0 0 [.ref 0, .int (nn j)] Γ I2 L2 (.inl (some (.int (bi (opW' w' j))))) I2 L2 := fun j hj => hL_isOpen ox (qX_isOpen (d := d + 1) hF R2 (by rw [eG]; exact hj))
    have last : (∀ j, j < vG w → opW' w' j = true → ∃ q, v = nn q ∧ q < vG w ∧ ¬ pcW w' j t < pcW w' q t) → aG m_L_acts (d + 23) 1 6 1 6 435 [(0, .ref 0), (1, .ref 450), (2, .int (nn g)), (3, .int (nn t)), (4, .int (nn (1 + r))), (5, .int (w 3)), (6, .int 0), (7, .int v)] [] Γ I2 L2 (.inl (some (.int 1))) (actP w k) := by
      intro hq
      refine aG.go ?_ (fun _ _ k => bL_acts_435 k)
      have loop2 := nn_loop (fun j => aG m_L_acts (d + 23) 1 6 1 6 438 [(0, .ref 0), (1, .ref 450), (2, .int (nn g)), (3, .int (nn t)), (4, .int (nn (1 + r))), (5, .int (w 3)), (6, .int 0), (7, .int v), (8, .int (nn j))] [] Γ I2 L2 (.inl (some (.int 1))) (actP w k)) (vG w) ?_ (fun j hj ih => ?_)
      · exact loop2
      · refine aG.go ?_ (fun _ _ k => bL_acts_438 ox (Nat.zero_le _) (Nat.zero_le _) (am_E_e (qX_gateCount (d := d + 2) hF R2) w2' rfl) k)
        refine aG.go ?_ (fun _ _ k => bL_acts_444 (fun _ => k) (fun z => absurd (by rw [nn_le (by omega) (by omega)]; exact Nat.le_refl _) z))
        exact aG.fin (bL_acts_487 ⟨rfl, rfl, rfl⟩) fin
      · have next : aG m_L_acts (d + 23) 1 6 1 6 481 [(0, .ref 0), (1, .ref 450), (2, .int (nn g)), (3, .int (nn t)), (4, .int (nn (1 + r))), (5, .int (w 3)), (6, .int 0), (7, .int v), (8, .int (nn j))] [] Γ I2 L2 (.inl (some (.int 1))) (actP w k) := aG.go ih (fun _ _ k => bL_acts_481 (aw_els k (by rw [nn_s1])))
        refine aG.go ?_ (fun _ _ k => bL_acts_438 ox (Nat.zero_le _) (Nat.zero_le _) (am_E_e (qX_gateCount (d := d + 2) hF R2) w2' rfl) k)
        refine aG.go ?_ (fun _ _ k => bL_acts_444 (fun z => absurd z (by rw [nn_le (by omega) (by omega)]; omega)) (fun _ => k))
        refine aG.go ?_ (fun _ _ k => bL_acts_447 (Nat.zero_le _) (Nat.zero_le _) (opn' j hj) k)
        cases ho : opW' w' j
        · exact aG.go next (fun _ _ k => bL_acts_453 (fun _ => k) (fun z => absurd z (by decide)))
        · obtain ⟨q, q1, q2, q3⟩ := hq j hj ho
          subst q1
          refine aG.go ?_ (fun _ _ k => bL_acts_453 (fun z => absurd rfl z) (fun _ => k))
          refine aG.go ?_ (fun _ _ k => bL_acts_457 (fun z => absurd z (nn_neg_lt (by omega))) (fun _ => k))
          refine aG.go ?_ (fun _ _ k => bL_acts_462 (Nat.zero_le _) (Nat.zero_le _) (hL_pathCost ox (qX_pathCost (d := d + 1) hF R2 (g := j) (t := t) (by rw [eG]; exact hj) (by rw [eT]; exact ht))) k)
          refine aG.go ?_ (fun _ _ k => bL_acts_469 (Nat.zero_le _) (Nat.zero_le _) (hL_pathCost ox (qX_pathCost (d := d + 1) hF R2 (g := q) (t := t) (by rw [eG]; exact q2) (by rw [eT]; exact ht))) k)
          exact aG.go next (fun _ _ k => bL_acts_476 (fun _ => k) (fun z => absurd (Int32.not_lt.mp q3) z))
    rcases hv with ⟨rfl, hv⟩ | ⟨q, q1, rfl, q3, q4⟩
    · refine aG.go (last (fun j hj ho => ?_)) (fun _ _ k => bL_acts_418 (fun _ => k) (fun z => absurd (by decide) z))
      rw [hv j hj] at ho
      cases ho
    · refine aG.go ?_ (fun _ _ k => bL_acts_418 (fun z => absurd z (nn_neg_lt (by omega))) (fun _ => k))
      have oq := opn' q q1
      rw [q3] at oq
      refine aG.go ?_ (fun _ _ k => bL_acts_423 (Nat.zero_le _) (Nat.zero_le _) oq k)
      exact aG.go (last (fun j hj ho => ⟨q, rfl, q1, q4 j hj ho⟩)) (fun _ _ k => bL_acts_429 (fun _ => k) (fun z => absurd rfl z))
  · intro v hv
    refine aG.go ?_ (fun _ _ k => bL_acts_368 ox (Nat.zero_le _) (Nat.zero_le _) (am_E_e (qX_gateCount (d := d + 2) hF R2) w2' rfl) k)
    refine aG.go ?_ (fun _ _ k => bL_acts_374 (fun z => absurd z (by rw [nn_le (by omega) (by omega)]; omega)) (fun _ => k))
    refine aG.go ?_ (fun _ _ k => bL_acts_377 (Nat.zero_le _) (Nat.zero_le _) (hL_isOpen ox (qX_isOpen (d := d + 1) hF R2 (by rw [eG]; exact hj))) k)
    have eM : mOpen w' (j + 1) = mOpen w' j + bi (opW' w' j) := rfl
    refine aG.go (ih (v - bi (opW' w' j)) ?_) (fun _ _ k => bL_acts_385 (aw_els k (by rw [nn_s1]; rfl)))
    rw [eM, ← hv, ← Int32.add_assoc, i32_sac, i32_sac, Int32.add_sub_cancel]
theorem eL_acts (hF : wF Γ) (a450 : am_ar Γ 450 1 1 0) (R : CS I L w h s) {k : Nat} (hi : invW w k) (hk : k ≤ 400) : ∃ I' L', am_E m_L_acts (d + 23) 1 6 [.ref 0, .ref 450] Γ I L (.inl (some (.int 1))) I' L' ∧ actP w k I' L' := by
  have ox := hF.1.1
  obtain ⟨-, ⟨w0, w1, w2⟩, q6, t8, g4, q0, t0, g0⟩ := R.nums
  refine aG.E rfl rfl rfl (Nat.le_of_ble_eq_true rfl) ?_
  refine aG.go ?_ (fun _ _ k => bL_acts_0 ox (Nat.zero_le _) (Nat.zero_le _) (am_E_e (qX_gateCount (d := d + 2) hF R) w2 rfl) k)
  obtain ⟨g, x1, hg, E1⟩ := eL_draw (d := d + 22) (I := I) (L := L) (k := vG w) a450 g0 (by omega)
  have R1 := R.drw (c := 450) (x := x1) (by decide)
  refine aG.go ?_ (fun _ _ k => bL_acts_5 (Nat.zero_le _) (Nat.zero_le _) E1 k)
  refine aG.go ?_ (fun _ _ k => bL_acts_8 ox (Nat.zero_le _) (Nat.zero_le _) (am_E_e (qX_typeCount (d := d + 2) hF R1) w1 rfl) k)
  obtain ⟨t, x2, ht, E2⟩ := eL_draw (d := d + 22) (I := am_u I 450 0 x1) (L := L) (k := vT w) a450 t0 (by omega)
  have R2 := R1.drw (c := 450) (x := x2) (by decide)
  refine aG.go ?_ (fun _ _ k => bL_acts_14 (Nat.zero_le _) (Nat.zero_le _) E2 k)
  obtain ⟨r, x3, hr, E3⟩ := eL_draw (d := d + 22) (I := am_u (am_u I 450 0 x1) 450 0 x2) (L := L) (k := 7) a450 (by decide) (by decide)
  have R3 := R2.drw (c := 450) (x := x3) (by decide)
  refine aG.go ?_ (fun _ _ k => bL_acts_17 (Nat.zero_le _) (Nat.zero_le _) E3 k)
  have hr7 : r = 0 ∨ r = 1 ∨ r = 2 ∨ r = 3 ∨ r = 4 ∨ r = 5 ∨ r = 6 := by omega
  rcases hr7 with rfl | rfl | rfl | rfl | rfl | rfl | rfl
  · exact aG.go (act_pass hF a450 R3 hg ht hi) (fun _ _ k => aw_tblIn dL_acts_24 (by decide) (by decide) rfl (by decide) k)
  · exact aG.go (act_pass hF a450 R3 hg ht hi) (fun _ _ k => aw_tblIn dL_acts_24 (by decide) (by decide) rfl (by decide) k)
  · exact aG.go (act_build hF R3 hg hi) (fun _ _ k => aw_tblIn dL_acts_24 (by decide) (by decide) rfl (by decide) k)
  · exact aG.go (act_halve hF R3 hg hi) (fun _ _ k => aw_tblIn dL_acts_24 (by decide) (by decide) rfl (by decide) k)
  · exact aG.go (act_toll hF a450 R3 ht hi) (fun _ _ k => aw_tblIn dL_acts_24 (by decide) (by decide) rfl (by decide) k)
  · exact aG.go (act_limit hF a450 R3 hg hi) (fun _ _ k => aw_tblIn dL_acts_24 (by decide) (by decide) rfl (by decide) k)
  · exact aG.go (act_clock hF a450 R3 ht hi hk) (fun _ _ k => aw_tblOut dL_acts_24 (by decide) (by decide) k)
end TA
