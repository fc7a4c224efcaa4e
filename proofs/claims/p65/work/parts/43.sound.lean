/-! THE LAW: isSound -/
/-- a body that comes to one answer, in a state that P holds of -/
def aG (mi : am_M) (d mc ms bc bs pc : Nat) (ls : List (Nat × Value)) (st : List Value) (Γ : am_G) (I : am_I) (L : am_L) (o : am_O) (P : am_I → am_L → Prop) : Prop := ∃ I' L', am_W mi d mc ms false bc bs pc ls st Γ I L (am_R o I' L') ∧ P I' L'
section AG
variable {mi : am_M} {d mc ms bc bs pc bc' bs' pc' : Nat} {ls ls' : List (Nat × Value)} {st st' : List Value} {Γ : am_G} {I I1 : am_I} {L L1 : am_L} {o : am_O} {P P' : am_I → am_L → Prop}
theorem aG.go (hh : aG mi d mc ms bc' bs' pc' ls' st' Γ I1 L1 o P) (f : ∀ I' L', am_W mi d mc ms false bc' bs' pc' ls' st' Γ I1 L1 (am_R o I' L') → am_W mi d mc ms false bc bs pc ls st Γ I L (am_R o I' L')) : aG mi d mc ms bc bs pc ls st Γ I L o P := by
  obtain ⟨I', L', a, b⟩ := hh
  exact ⟨I', L', f _ _ a, b⟩
theorem aG.fin (f : am_W mi d mc ms false bc bs pc ls st Γ I L (am_R o I1 L1)) (p : P I1 L1) : aG mi d mc ms bc bs pc ls st Γ I L o P := ⟨I1, L1, f, p⟩
theorem aG.mono (hh : aG mi d mc ms bc bs pc ls st Γ I L o P) (f : ∀ I' L', P I' L' → P' I' L') : aG mi d mc ms bc bs pc ls st Γ I L o P' := by
  obtain ⟨I', L', a, b⟩ := hh
  exact ⟨I', L', a, f _ _ b⟩
theorem aG.E {args : List Value} (hy : plainName mi.1.cls = true) (ht : mi.2.2.2.2.1 = []) (hsc : mi.2.2.2.2.2 = none) (hn : am_sz args ≤ mi.2.2.1) (hh : aG mi d mc ms mc ms 0 (lv_args 0 args) [] Γ I L o P) : ∃ I' L', am_E mi d mc ms args Γ I L o I' L' ∧ P I' L' := by
  obtain ⟨I', L', a, b⟩ := hh
  exact ⟨I', L', am_ofE hy ht hsc hn a, b⟩
theorem aw_bcs {al : Bool} {Q : am_Q} (h1 : bc' ≤ bc) (h2 : bs' ≤ bs) (h : am_W mi d mc ms al bc' bs' pc ls st Γ I L Q) : am_W mi d mc ms al bc bs pc ls st Γ I L Q := by
  intro p l e s m args below meth c D A Γ0 x0 S x H locs cells slots la g1 g2 g3 g4 g5 g6
  exact h p l e s m args below meth c D A Γ0 x0 S x H locs cells slots la g1 g2 g3 (by omega) (by omega) g6
end AG
theorem i32_sac (a b c : Int32) : a - b + c = a + c - b := by
  rw [Int32.sub_eq_add_neg, Int32.sub_eq_add_neg, Int32.add_assoc, Int32.add_comm (-b) c, ← Int32.add_assoc]
/-- the totals fit -/
def totW (w : Nat → Int32) (N : Nat) : Prop := w 6 - w 7 = w 10 - w 11 ∧ ∃ a b c, w 4 = nn c ∧ w 8 = nn a ∧ w 9 = nn b ∧ a + b ≤ c ∧ c ≤ N
theorem icz {w : Nat → Int32} {N : Nat} (h : totW w N) : ∀ G, iac (icA w) (icF w) G = 0
  | 0 => by
    show ab32 (w 6 - w 7 - w 10 + w 11) = 0
    rw [h.1, i32_sac, Int32.sub_add_cancel, Int32.sub_self]
    rfl
  | G + 1 => by
    show iac (icA w) (icF w) G + ab32 (mWrk w G (vT w) (teW w G) - wbM w G (teW w G) (vT w)) = 0
    rw [icz h G, mWrk_wbM, Int32.sub_self]
    rfl
theorem hou_open {w : Nat → Int32} (hw : wfs w) {g : Nat} (hg : g < vG w) : (hou (opW w g) (clW w g) (vC w % 24) = 0 ↔ opW' w g = true) ∧ hou (opW w g) (clW w g) (vC w % 24) < 1000 := by
  obtain ⟨⟨x1, x2⟩, ⟨x3, x4⟩, -⟩ := hw.1.2.2.2.2.2.2 g hg
  obtain ⟨x5, x6⟩ := hw.1.2.2.2.1
  have e : opW' w g = if clW w g < opW w g then decide (opW w g ≤ vC w % 24) || decide (vC w % 24 ≤ clW w g) else decide (opW w g ≤ vC w % 24) && decide (vC w % 24 ≤ clW w g) := by
    unfold opW'
    rw [x1, x3, x5, nl_24, nn_rem (by omega) (by decide)]
    exact opn (by omega) (by omega) (by omega)
  rw [e]
  unfold hou
  have h24 : vC w % 24 < 24 := Nat.mod_lt _ (by decide)
  cases ho : (if clW w g < opW w g then decide (opW w g ≤ vC w % 24) || decide (vC w % 24 ≤ clW w g) else decide (opW w g ≤ vC w % 24) && decide (vC w % 24 ≤ clW w g))
  · rw [if_neg (by decide)]
    refine ⟨⟨fun z => ?_, fun z => by cases z⟩, by omega⟩
    have hz : vC w % 24 = opW w g := by omega
    rw [hz] at ho
    by_cases hb : clW w g < opW w g
    · rw [if_pos hb, decide_eq_true (Nat.le_refl _)] at ho
      cases ho
    · rw [if_neg hb, decide_eq_true (Nat.le_refl _), decide_eq_true (show opW w g ≤ clW w g by omega)] at ho
      cases ho
  · rw [if_pos rfl]
    exact ⟨⟨fun _ => rfl, fun _ => rfl⟩, by decide⟩
section TS
variable {d : Nat} {Γ : am_G} {I : am_I} {L : am_L} {w : Nat → Int32} {h : Nat → Nat → Int32} {s : Nat}
theorem rkW_mono {g l l' : Nat} (hT : vT w ≤ 8) (h : l ≤ l') : rkW w g (-1) l' / 33554432 ≤ rkW w g (-1) l / 33554432 := Nat.div_le_div_right (bB_mono _ (by have := two_le8 hT; omega) l l' h)
theorem rkW_fb {g l q : Nat} (hQ : vQ w ≤ 6) (hT : vT w ≤ 8) : rkW w g (-1) l / 33554432 ≤ rkW w g (nn q) l / 33554432 := by
  refine Nat.div_le_div_right (bB_fb (fun q' hq' hb => ?_) _ (by have := two_le8 hT; omega) l)
  unfold fbq at hb
  exact absurd (of_decide_eq_true hb) (nn_none (by omega))
theorem rkW_lt (hw : wfs w) {g l : Nat} (hg : g < vG w) (hl : l ≤ 30) (F : Int32) : rkW w g F l / 33554432 < 79993 := by
  have := bB_lt (qc := qcW w) (ys := yse (vT w) (tyW w)) (tl := tlW w) (ct := ctW w g) (fb := fbq F) hw.1.1.2 hw.1.2.1.2 (fun t ht => ((hw.1.2.2.2.2.2.2 g hg).2.2.2.2.1 t ht).2) (S := 2 ^ vT w - 1) (l := l) (by have := two_le8 hw.1.2.1.2; omega) hl
  unfold rkW
  omega
theorem rkW_0 (hw : wfs w) {g : Nat} : rkW w g (-1) 0 / 8 % 4194304 = 0 ∧ rkW w g (-1) 0 % 8 = 0 := by
  have := bB_l0 (Q := vQ w) (T := vT w) (qc := qcW w) (ys := yse (vT w) (tyW w)) (tl := tlW w) (ct := ctW w g) (fb := fbq (-1)) hw.1.1.2 (fun q hq => (hw.1.2.2.2.2.1 q hq).2.1) (S := 2 ^ vT w - 1) (by have := two_le8 hw.1.2.1.2; omega)
  unfold rkW
  omega
theorem suf_sp (hw : wfs w) (g : Nat) : sufW w g ≤ 30 ∧ rkW w g (-1) (sufW w g) / 33554432 = rkW w g (-1) 30 / 33554432 ∧ (0 < sufW w g → rkW w g (-1) 30 / 33554432 < rkW w g (-1) (sufW w g - 1) / 33554432) := by
  have sp := ffs_sp (fun l => decide (rkW w g (-1) l / 33554432 = rkW w g (-1) 30 / 33554432)) 30
  have le := ffs_le (fun l => decide (rkW w g (-1) l / 33554432 = rkW w g (-1) 30 / 33554432)) 30
  have e : sufW w g = ffs (fun l => decide (rkW w g (-1) l / 33554432 = rkW w g (-1) 30 / 33554432)) 30 := rfl
  rw [← e] at sp le
  refine ⟨le, ?_, fun h0 => ?_⟩
  · by_cases h30 : sufW w g < 30
    · exact of_decide_eq_true (sp.2 h30)
    · have : sufW w g = 30 := by omega
      rw [this]
  · have h1 := of_decide_eq_false (sp.1 (sufW w g - 1) (by omega))
    have h2 := rkW_mono (w := w) (g := g) hw.1.2.1.2 (show sufW w g - 1 ≤ 30 by omega)
    omega
theorem sL_bestErrors (hF : wF Γ) (R : CS I L w h s) {g l : Nat} (hg : g < vG w) (hl : l ≤ 30) : ∃ I' L', am_E m_L_bestErrors (d + 21) 0 0 [.ref 0, .int (nn g), .int (nn l)] Γ I L (.inl (some (.int (nn (rkW w g (-1) l / 33554432))))) I' L' ∧ CS I' L' w h s ∧ fra I I' L L' := by
  obtain ⟨I', L', a, b⟩ := qX_bestErrors (d := d) hF R hg hl
  exact ⟨I', L', hL_bestErrors hF.1.1 a, R.sol b, b.fra⟩
theorem sL_bestWork (hF : wF Γ) (R : CS I L w h s) {g l : Nat} (hg : g < vG w) (hl : l ≤ 30) : ∃ I' L', am_E m_L_bestWork (d + 21) 0 0 [.ref 0, .int (nn g), .int (nn l)] Γ I L (.inl (some (.int (nn (rkW w g (-1) l / 8 % 4194304))))) I' L' ∧ CS I' L' w h s ∧ fra I I' L L' := by
  obtain ⟨I', L', a, b⟩ := qX_bestWork (d := d) hF R hg hl
  exact ⟨I', L', hL_bestWork hF.1.1 a, R.sol b, b.fra⟩
theorem sL_bestRootQuestion (hF : wF Γ) (R : CS I L w h s) {g l : Nat} (hg : g < vG w) (hl : l ≤ 30) : ∃ I' L', am_E m_L_bestRootQuestion (d + 21) 0 0 [.ref 0, .int (nn g), .int (nn l)] Γ I L (.inl (some (.int (nn (rkW w g (-1) l % 8) - 1)))) I' L' ∧ CS I' L' w h s ∧ fra I I' L L' := by
  obtain ⟨I', L', a, b⟩ := qX_bestRootQuestion (d := d) hF R hg hl
  exact ⟨I', L', hL_bestRootQuestion hF.1.1 a, R.sol b, b.fra⟩
theorem sL_errorsWithout (hF : wF Γ) (R : CS I L w h s) {g q : Nat} (hg : g < vG w) (hq : q < vQ w) : ∃ I' L', am_E m_L_errorsWithout (d + 21) 0 0 [.ref 0, .int (nn g), .int (nn q)] Γ I L (.inl (some (.int (nn (rkW w g (nn q) (lmW w g) / 33554432))))) I' L' ∧ CS I' L' w h s ∧ fra I I' L L' := by
  obtain ⟨I', L', a, b⟩ := qX_errorsWithout (d := d) hF R hg hq
  exact ⟨I', L', hL_errorsWithout hF.1.1 a, R.sol b, b.fra⟩
theorem sL_sufficientLimit (hF : wF Γ) (R : CS I L w h s) {g : Nat} (hg : g < vG w) : ∃ I' L', am_E m_L_sufficientLimit (d + 21) 0 0 [.ref 0, .int (nn g)] Γ I L (.inl (some (.int (nn (sufW w g))))) I' L' ∧ CS I' L' w h s ∧ fra I I' L L' := by
  obtain ⟨I', L', a, b⟩ := qX_sufficientLimit (d := d) hF R hg
  exact ⟨I', L', hL_sufficientLimit hF.1.1 a, R.sol b, b.fra⟩
/-- the state stays, the law's own cells too -/
def stay (w : Nat → Int32) (h : Nat → Nat → Int32) (s : Nat) (I0 : am_I) (L0 : am_L) : am_I → am_L → Prop := fun I' L' => CS I' L' w h s ∧ fra I0 I' L0 L'
theorem eL_isSound (hF : wF Γ) (R0 : CS I L w h s) {N : Nat} (ht : totW w N) (hN : N < 1000000) : ∃ I' L', am_E m_L_isSound (d + 23) 4 24 [.ref 0] Γ I L (.inl (some (.int 1))) I' L' ∧ stay w h s I L I' L' := by
  obtain ⟨-, ⟨w0, w1, w2⟩, q6, t8, g4, q0, t0, g0⟩ := R0.nums
  have ox := hF.1.1
  have hw := R0.1
  refine aG.E rfl rfl rfl (Nat.le_of_ble_eq_true rfl) ?_
  have loop := nn_loop (fun g => ∀ I1 L1, stay w h s I L I1 L1 → ∀ ls : List (Nat × Value), ls.take 2 = [(0, .ref 0), (1, .int (nn g))] → aG m_L_isSound (d + 23) 4 24 (4 - g) (24 - 6 * g) 2 ls [] Γ I1 L1 (.inl (some (.int 1))) (stay w h s I L)) (vG w) ?_ (fun g hg ih => ?_)
  · refine aG.go (loop I L ⟨R0, fra.rf⟩ [(0, .ref 0), (1, .int (nn 0))] rfl) (fun _ _ k => bL_isSound_0 k)
  · intro I1 L1 ⟨R, fr⟩ ls hls
    refine aG.go ?_ (fun _ _ k => aw_take 2 (by rw [hls]; exact bL_isSound_2 ox (Nat.zero_le _) (Nat.zero_le _) (am_E_e (qX_gateCount (d := d + 2) hF R) w2 rfl) k))
    refine aG.go ?_ (fun _ _ k => bL_isSound_7 (fun _ => k) (fun z => absurd (by rw [nn_le (by omega) (by omega)]; exact Nat.le_refl _) z))
    refine aG.go ?_ (fun _ _ k => bL_isSound_201 ox (Nat.zero_le _) (Nat.zero_le _) (am_E_e (qX_inconsistencies (d := d + 2) hF R) (icz ht _) rfl) k)
    refine aG.go ?_ (fun _ _ k => bL_isSound_205 (fun z => absurd rfl z) (fun _ => k))
    refine aG.go ?_ (fun _ _ k => bL_isSound_208 ox (Nat.zero_le _) (Nat.zero_le _) (qX_tollsPaid (d := d + 2) hF R) k)
    refine aG.go ?_ (fun _ _ k => bL_isSound_212 ox (Nat.zero_le _) (Nat.zero_le _) (qX_tollsDue (d := d + 2) hF R) k)
    refine aG.go ?_ (fun _ _ k => bL_isSound_216 ox (Nat.zero_le _) (Nat.zero_le _) (qX_overcharge (d := d + 2) hF R) k)
    refine aG.go ?_ (fun _ _ k => bL_isSound_221 ox (Nat.zero_le _) (Nat.zero_le _) (qX_undercharge (d := d + 2) hF R) k)
    refine aG.go ?_ (fun _ _ k => bL_isSound_225 (fun z => absurd ht.1 z) (fun _ => k))
    obtain ⟨a, b, c, c4, c8, c9, hab, hcN⟩ := ht.2
    refine aG.go ?_ (fun _ _ k => bL_isSound_229 ox (Nat.zero_le _) (Nat.zero_le _) (am_E_e (qX_cartsOvercharged (d := d + 2) hF R) c8 rfl) k)
    refine aG.go ?_ (fun _ _ k => bL_isSound_233 ox (Nat.zero_le _) (Nat.zero_le _) (am_E_e (qX_cartsUndercharged (d := d + 2) hF R) c9 rfl) k)
    refine aG.go ?_ (fun _ _ k => bL_isSound_237 ox (Nat.zero_le _) (Nat.zero_le _) (am_E_e (qX_cartsPassed (d := d + 2) hF R) c4 rfl) k)
    refine aG.go ?_ (fun _ _ k => bL_isSound_242 (fun z => absurd z (by rw [nn_add, nn_lt (by omega) (by omega)]; omega)) (fun _ => k))
    refine aG.go ?_ (fun _ _ k => bL_isSound_245 k)
    exact aG.fin (bL_isSound_250 rfl ⟨rfl, rfl, rfl⟩) ⟨R, fr⟩
  · intro I1 L1 ⟨R, fr⟩ ls hls
    have hho := hou_open hw hg
    obtain ⟨sf1, sf2, sf3⟩ := suf_sp hw g
    obtain ⟨lm1, lm2⟩ := (hw.1.2.2.2.2.2.2 g hg).2.2.1
    have rl : ∀ l, l ≤ 30 → rkW w g (-1) l / 33554432 < 79993 := fun l hl => rkW_lt hw hg hl (-1)
    refine aG.go ?_ (fun _ _ k => aw_take 2 (by rw [hls]; exact bL_isSound_2 ox (Nat.zero_le _) (Nat.zero_le _) (am_E_e (qX_gateCount (d := d + 2) hF R) w2 rfl) k))
    refine aG.go ?_ (fun _ _ k => bL_isSound_7 (fun z => absurd z (by rw [nn_le (by omega) (by omega)]; omega)) (fun _ => k))
    refine aG.go ?_ (fun _ _ k => bL_isSound_10 (show 1 ≤ 4 - g - 0 by omega) (show 6 ≤ 24 - 6 * g - 0 by omega) (eL_isTree (d := d) hF R hg) k)
    refine aG.go ?_ (fun _ _ k => bL_isSound_15 (fun z => absurd z (by decide)) (fun _ => k))
    have body : aG m_L_isSound (d + 23) 4 24 (4 - g - 0 - 1 - 0 - 0) (24 - 6 * g - 0 - 6 - 0 - 0) 50 [(0, .ref 0), (1, .int (nn g))] [] Γ I1 L1 (.inl (some (.int 1))) (stay w h s I L) := by
      obtain ⟨I2, L2, E2, R2, f2⟩ := sL_sufficientLimit (d := d + 1) hF R hg
      refine aG.go ?_ (fun _ _ k => bL_isSound_50 (Nat.zero_le _) (Nat.zero_le _) E2 k)
      obtain ⟨I3, L3, E3, R3, f3⟩ := sL_bestErrors (d := d + 1) hF R2 hg sf1
      refine aG.go ?_ (fun _ _ k => bL_isSound_55 (Nat.zero_le _) (Nat.zero_le _) E3 k)
      obtain ⟨I4, L4, E4, R4, f4⟩ := sL_bestErrors (d := d + 1) (l := 30) hF R3 hg (by decide)
      refine aG.go ?_ (fun _ _ k => bL_isSound_62 (Nat.zero_le _) (Nat.zero_le _) E4 k)
      refine aG.go ?_ (fun _ _ k => bL_isSound_69 (fun z => absurd (by rw [sf2]) z) (fun _ => k))
      have f04 := fr.tr (f2.tr (f3.tr f4))
      clear E2 E3 E4 R2 R3 f2 f3 f4
      have rest : ∀ I5 L5, stay w h s I L I5 L5 → aG m_L_isSound (d + 23) 4 24 (4 - g - 1) (24 - 6 * g - 6) 96 [(0, .ref 0), (1, .int (nn g)), (2, .int (nn (sufW w g)))] [] Γ I5 L5 (.inl (some (.int 1))) (stay w h s I L) := by
        intro I5 L5 ⟨R5, fr5⟩
        refine aG.go ?_ (fun _ _ k => bL_isSound_96 (Nat.zero_le _) (Nat.zero_le _) (am_E_e (hL_costLimit ox (qX_costLimit (d := d + 1) hF R5 hg)) lm1 rfl) k)
        refine aG.go ?_ (fun _ _ k => bL_isSound_101 k)
        have qloop := nn_loop (fun q => ∀ I6 L6, stay w h s I L I6 L6 → aG m_L_isSound (d + 23) 4 24 (4 - g - 1 - 0) (24 - 6 * g - 6 - 0) 105 [(0, .ref 0), (1, .int (nn g)), (2, .int (nn (sufW w g))), (3, .int (nn (lmW w g))), (4, .int (nn q))] [] Γ I6 L6 (.inl (some (.int 1))) (stay w h s I L)) (vQ w) ?_ (fun q hq ihq => ?_)
        · exact qloop I5 L5 ⟨R5, fr5⟩
        · intro I6 L6 ⟨R6, fr6⟩
          refine aG.go ?_ (fun _ _ k => bL_isSound_105 ox (Nat.zero_le _) (Nat.zero_le _) (am_E_e (qX_questionCount (d := d + 2) hF R6) w0 rfl) k)
          refine aG.go ?_ (fun _ _ k => bL_isSound_111 (fun _ => k) (fun z => absurd (by rw [nn_le (by omega) (by omega)]; exact Nat.le_refl _) z))
          obtain ⟨I7, L7, E7, R7, f7⟩ := sL_bestErrors (d := d + 1) hF R6 hg lm2
          refine aG.go ?_ (fun _ _ k => bL_isSound_138 (Nat.zero_le _) (Nat.zero_le _) E7 k)
          obtain ⟨I8, L8, E8, R8, f8⟩ := sL_bestErrors (d := d + 1) (l := 0) hF R7 hg (by decide)
          refine aG.go ?_ (fun _ _ k => bL_isSound_144 (Nat.zero_le _) (Nat.zero_le _) E8 k)
          have m1 := rkW_mono (w := w) (g := g) t8 (Nat.zero_le (lmW w g))
          have r1 := rl (lmW w g) lm2
          have r2 := rl 0 (by decide)
          refine aG.go ?_ (fun _ _ k => bL_isSound_150 (fun z => absurd z (by rw [nn_lt (by omega) (by omega)]; omega)) (fun _ => k))
          have f08 := fr6.tr (f7.tr f8)
          clear E7 E8 R7 f7 f8
          have tail : ∀ I9 L9, stay w h s I L I9 L9 → aG m_L_isSound (d + 23) 4 24 (4 - g - 1) (24 - 6 * g - 6) 174 [(0, .ref 0), (1, .int (nn g)), (2, .int (nn (sufW w g))), (3, .int (nn (lmW w g))), (4, .int (nn (vQ w)))] [] Γ I9 L9 (.inl (some (.int 1))) (stay w h s I L) := by
            intro I9 L9 ⟨R9, fr9⟩
            obtain ⟨z1, z2⟩ := rkW_0 hw (g := g)
            obtain ⟨Ia, La, Ea, Ra, fa⟩ := sL_bestWork (d := d + 1) (l := 0) hF R9 hg (by decide)
            rw [z1] at Ea
            refine aG.go ?_ (fun _ _ k => bL_isSound_174 (Nat.zero_le _) (Nat.zero_le _) Ea k)
            refine aG.go ?_ (fun _ _ k => bL_isSound_180 (fun z => absurd rfl z) (fun _ => k))
            obtain ⟨Ib, Lb, Eb, Rb, fb⟩ := sL_bestRootQuestion (d := d + 1) (l := 0) hF Ra hg (by decide)
            rw [z2] at Eb
            refine aG.go ?_ (fun _ _ k => bL_isSound_183 (Nat.zero_le _) (Nat.zero_le _) Eb k)
            refine aG.go ?_ (fun _ _ k => bL_isSound_189 (fun _ => k) (fun z => absurd (by decide) z))
            refine aG.go (ih Ib Lb ⟨Rb, fr9.tr (fa.tr fb)⟩ [(0, .ref 0), (1, .int (nn g + 1)), (2, .int (nn (sufW w g))), (3, .int (nn (lmW w g))), (4, .int (nn (vQ w)))] (by rw [nn_s1]; rfl)) (fun _ _ k => bL_isSound_195 (aw_bcs (by omega) (by omega) k))
          by_cases hl0 : lmW w g = 0
          · refine aG.go (tail I8 L8 ⟨R8, f08⟩) (fun _ _ k => bL_isSound_153 (fun _ => aw_bcs (by omega) (by omega) k) (fun z => absurd (by rw [hl0]; decide) z))
          · refine aG.go ?_ (fun _ _ k => bL_isSound_153 (fun z => absurd z (by rw [nl_0, nn_le (by omega) (by omega)]; omega)) (fun _ => k))
            obtain ⟨Ia, La, Ea, Ra, fa⟩ := sL_bestErrors (d := d + 1) hF R8 hg lm2
            refine aG.go ?_ (fun _ _ k => bL_isSound_157 (Nat.zero_le _) (Nat.zero_le _) Ea k)
            obtain ⟨Ib, Lb, Eb, Rb, fb⟩ := sL_bestErrors (d := d + 1) (l := lmW w g - 1) hF Ra hg (by omega)
            have el : nn (lmW w g) - 1 = nn (lmW w g - 1) := nn_sub (b := 1) (by omega)
            refine aG.go ?_ (fun _ _ k => bL_isSound_163 (Nat.zero_le _) (Nat.zero_le _) (by rw [el]; exact Eb) k)
            have m2 := rkW_mono (w := w) (g := g) t8 (show lmW w g - 1 ≤ lmW w g by omega)
            have r3 := rl (lmW w g - 1) (by omega)
            refine aG.go (tail Ib Lb ⟨Rb, f08.tr (fa.tr fb)⟩) (fun _ _ k => bL_isSound_171 (fun z => absurd z (by rw [nn_lt (by omega) (by omega)]; omega)) (fun _ => aw_bcs (by omega) (by omega) k))
        · intro I6 L6 ⟨R6, fr6⟩
          refine aG.go ?_ (fun _ _ k => bL_isSound_105 ox (Nat.zero_le _) (Nat.zero_le _) (am_E_e (qX_questionCount (d := d + 2) hF R6) w0 rfl) k)
          refine aG.go ?_ (fun _ _ k => bL_isSound_111 (fun z => absurd z (by rw [nn_le (by omega) (by omega)]; omega)) (fun _ => k))
          obtain ⟨I7, L7, E7, R7, f7⟩ := sL_errorsWithout (d := d + 1) hF R6 hg hq
          refine aG.go ?_ (fun _ _ k => bL_isSound_114 (Nat.zero_le _) (Nat.zero_le _) E7 k)
          obtain ⟨I8, L8, E8, R8, f8⟩ := sL_bestErrors (d := d + 1) hF R7 hg lm2
          refine aG.go ?_ (fun _ _ k => bL_isSound_121 (Nat.zero_le _) (Nat.zero_le _) E8 k)
          have m1 := rkW_fb (w := w) (g := g) (l := lmW w g) (q := q) q6 t8
          have r1 := rl (lmW w g) lm2
          have r2 := rkW_lt hw hg lm2 (nn q)
          refine aG.go ?_ (fun _ _ k => bL_isSound_127 (fun _ => k) (fun z => absurd (by rw [nn_le (by omega) (by omega)]; exact m1) z))
          refine aG.go (ihq I8 L8 ⟨R8, fr6.tr (f7.tr f8)⟩) (fun _ _ k => bL_isSound_132 (aw_bcs (by omega) (by omega) (aw_els k (by rw [nn_s1]))))
      by_cases hs0 : sufW w g = 0
      · refine aG.go (rest I4 L4 ⟨R4, f04⟩) (fun _ _ k => bL_isSound_72 (fun _ => aw_bcs (by omega) (by omega) k) (fun z => absurd (by rw [hs0]; decide) z))
      · refine aG.go ?_ (fun _ _ k => bL_isSound_72 (fun z => absurd z (by rw [nl_0, nn_le (by omega) (by omega)]; omega)) (fun _ => k))
        have el : nn (sufW w g) - 1 = nn (sufW w g - 1) := nn_sub (b := 1) (by omega)
        obtain ⟨Ia, La, Ea, Ra, fa⟩ := sL_bestErrors (d := d + 1) (l := sufW w g - 1) hF R4 hg (by omega)
        refine aG.go ?_ (fun _ _ k => bL_isSound_76 (Nat.zero_le _) (Nat.zero_le _) (by rw [el]; exact Ea) k)
        obtain ⟨Ib, Lb, Eb, Rb, fb⟩ := sL_bestErrors (d := d + 1) (l := 30) hF Ra hg (by decide)
        refine aG.go ?_ (fun _ _ k => bL_isSound_84 (Nat.zero_le _) (Nat.zero_le _) Eb k)
        have m3 := sf3 (by omega)
        have r3 := rl (sufW w g - 1) (by omega)
        have r4 := rl 30 (by decide)
        refine aG.go (rest Ib Lb ⟨Rb, f04.tr (fa.tr fb)⟩) (fun _ _ k => bL_isSound_91 (fun _ => aw_bcs (by omega) (by omega) k) (fun z => absurd (by rw [nn_lt (by omega) (by omega)]; exact m3) z))
    have hop := hL_isOpen ox (qX_isOpen (d := d + 1) hF R hg)
    cases ho : opW' w g
    · have hne : ¬ nn (hou (opW w g) (clW w g) (vC w % 24)) = 0 := by
        rw [nl_0, nn_eq (by omega) (by decide)]
        intro z
        rw [hho.1.mp z] at ho
        cases ho
      unfold opW' at ho
      rw [ho] at hop
      refine aG.go body (fun _ _ k => bL_isSound_18 (Nat.zero_le _) (Nat.zero_le _) (hL_hoursUntilOpen ox (qX_hoursUntilOpen (d := d + 1) hF R hg)) (bL_isSound_23 (fun _ => bL_isSound_30 (bL_isSound_31 (Nat.zero_le _) (Nat.zero_le _) hop (bL_isSound_36 (fun _ => bL_isSound_44 (bL_isSound_45 (fun _ => k) (fun z => absurd rfl z))) (fun z => absurd z (by decide))))) (fun z => absurd z hne)))
    · have he : nn (hou (opW w g) (clW w g) (vC w % 24)) = 0 := by rw [hho.1.mpr ho]; rfl
      unfold opW' at ho
      rw [ho] at hop
      refine aG.go body (fun _ _ k => bL_isSound_18 (Nat.zero_le _) (Nat.zero_le _) (hL_hoursUntilOpen ox (qX_hoursUntilOpen (d := d + 1) hF R hg)) (bL_isSound_23 (fun z => absurd he z) (fun _ => bL_isSound_26 (bL_isSound_31 (Nat.zero_le _) (Nat.zero_le _) hop (bL_isSound_36 (fun z => absurd rfl z) (fun _ => bL_isSound_40 (bL_isSound_45 (fun _ => k) (fun z => absurd rfl z))))))))
end TS
