/-! STATES: the row of the model; the station that tells it -/
def up (w : Nat → Int32) (i : Nat) (v : Int32) : Nat → Int32 := fun j => if j = i then v else w j
theorem up_at (w : Nat → Int32) (i : Nat) (v : Int32) (j : Nat) : up w i v j = if j = i then v else w j := rfl
theorem up_eq (w : Nat → Int32) (i : Nat) (v : Int32) : up w i v i = v := if_pos rfl
theorem up_ne {w : Nat → Int32} {i : Nat} {v : Int32} {j : Nat} (h : j ≠ i) : up w i v j = w j := if_neg h
theorem am_u_up (I : am_I) (c i : Nat) (v : Int32) : am_u I c i v c = up (I c) i v := by
  funext j
  rw [am_u_at, up_at]
  by_cases h : j = i
  · rw [if_pos ⟨rfl, h⟩, if_pos h]
  · rw [if_neg (fun z => h z.2), if_neg h]
def vQ (w : Nat → Int32) : Nat := (w 0).toNatClampNeg
def vT (w : Nat → Int32) : Nat := (w 1).toNatClampNeg
def vG (w : Nat → Int32) : Nat := (w 2).toNatClampNeg
def vC (w : Nat → Int32) : Nat := (w 3).toNatClampNeg
def qcW (w : Nat → Int32) (q : Nat) : Nat := (w (12 + q * 8)).toNatClampNeg
def tlW (w : Nat → Int32) (t : Nat) : Nat := (w (60 + t * 9)).toNatClampNeg
def tyW (w : Nat → Int32) (t : Nat) : Nat := (w (60 + t * 9 + 1)).toNatClampNeg
def opW (w : Nat → Int32) (g : Nat) : Nat := (w (132 + g * 94 + 0)).toNatClampNeg
def clW (w : Nat → Int32) (g : Nat) : Nat := (w (132 + g * 94 + 1)).toNatClampNeg
def lmW (w : Nat → Int32) (g : Nat) : Nat := (w (132 + g * 94 + 2)).toNatClampNeg
def ctW (w : Nat → Int32) (g t : Nat) : Nat := (w (132 + g * 94 + (10 + t))).toNatClampNeg
def teW (w : Nat → Int32) (g : Nat) : Nat := (w (132 + g * 94 + 18)).toNatClampNeg
/-- a name stands at a: its length, its letters -/
def lnW (w : Nat → Int32) (a : Nat) : Nat := (w a).toNatClampNeg
def ltW (w : Nat → Int32) (a i : Nat) : Nat := (w (a + 1 + i)).toNatClampNeg
def nmO (w : Nat → Int32) (a : Nat) : Prop := w a = nn (lnW w a) ∧ 1 ≤ lnW w a ∧ lnW w a ≤ 6 ∧ ∀ i, i < lnW w a → w (a + 1 + i) = nn (ltW w a i) ∧ 97 ≤ ltW w a i ∧ ltW w a i ≤ 122
def pnm (w : Nat → Int32) (a : Nat) : Int64 := ll (nsum (fun i => ltW w a i * 256 ^ i) (lnW w a))
def gtW (w : Nat → Int32) (g : Nat) : Prop := (w (132 + g * 94 + 0) = nn (opW w g) ∧ opW w g ≤ 23) ∧ (w (132 + g * 94 + 1) = nn (clW w g) ∧ clW w g ≤ 23) ∧ (w (132 + g * 94 + 2) = nn (lmW w g) ∧ lmW w g ≤ 30) ∧ nmO w (132 + g * 94 + 3) ∧ (∀ t, t < vT w → w (132 + g * 94 + (10 + t)) = nn (ctW w g t) ∧ ctW w g t ≤ 9999) ∧ trW w g (vQ w) (vT w) (tyW w) (teW w g)
def wfp (w : Nat → Int32) : Prop :=
  (w 0 = nn (vQ w) ∧ vQ w ≤ 6) ∧ (w 1 = nn (vT w) ∧ vT w ≤ 8) ∧ (w 2 = nn (vG w) ∧ vG w ≤ 4) ∧ (w 3 = nn (vC w) ∧ vC w ≤ 9999) ∧
  (∀ q, q < vQ w → w (12 + q * 8) = nn (qcW w q) ∧ 1 ≤ qcW w q ∧ qcW w q ≤ 9 ∧ nmO w (12 + q * 8 + 1)) ∧
  (∀ t, t < vT w → w (60 + t * 9) = nn (tlW w t) ∧ tlW w t ≤ 99 ∧ w (60 + t * 9 + 1) = nn (tyW w t) ∧ tyW w t < 2 ^ vQ w ∧ nmO w (60 + t * 9 + 2)) ∧
  ∀ g, g < vG w → gtW w g
/-- a whole state: at least one of each -/
def wfs (w : Nat → Int32) : Prop := wfp w ∧ 0 < vQ w ∧ 0 < vT w ∧ 0 < vG w
def gaR (I : am_I) (L : am_L) (x : Nat) (w : Nat → Int32) (g : Nat) : Prop := L x 0 = pnm w (132 + g * 94 + 3) ∧ I x 1 = w (132 + g * 94 + 0) ∧ I x 2 = w (132 + g * 94 + 1) ∧ I x 3 = w (132 + g * 94 + 2) ∧ (∀ t, t < vT w → I (x + 1) t = w (132 + g * 94 + (10 + t))) ∧ I (x + 2) 0 = w (132 + g * 94 + 18) ∧
  ∀ n, n < teW w g → I (x + 2 + 1) n = rw5 w g 0 n ∧ I (x + 2 + 2) n = rw5 w g 1 n ∧ I (x + 2 + 3) n = rw5 w g 3 n ∧ I (x + 2 + 4) n = rw5 w g 4 n
/-- the station at b tells the row w -/
def stR (I : am_I) (L : am_L) (b : Nat) (w : Nat → Int32) : Prop :=
  (I b 0 = w 0 ∧ I b 1 = w 1 ∧ I b 2 = w 2 ∧ I b 3 = w 3) ∧
  (∀ q, q < vQ w → L (b + 1) q = pnm w (12 + q * 8 + 1) ∧ I (b + 2) q = w (12 + q * 8) ∧ I (b + 3) q = nn (yse (vT w) (tyW w) q)) ∧
  (∀ t, t < vT w → L (b + 4) t = pnm w (60 + t * 9 + 2) ∧ I (b + 5) t = w (60 + t * 9)) ∧ (∀ j, j < 8 → I (b + 7) j = w (4 + j)) ∧ ∀ g, g < vG w → gaR I L (gc b g) w g
theorem stR.fr {I I' : am_I} {L L' : am_L} {b : Nat} {w : Nat → Int32} (h : stR I L b w) (hG : vG w ≤ 4) (e : ∀ c, b ≤ c → c < b + 36 → I' c = I c) (e2 : ∀ c, b ≤ c → c < b + 36 → L' c = L c) : stR I' L' b w := by
  obtain ⟨h1, h2, h3, h4, h5⟩ := h
  refine ⟨by rw [e b (by omega) (by omega)]; exact h1, fun q hq => by rw [e (b + 2) (by omega) (by omega), e (b + 3) (by omega) (by omega), e2 (b + 1) (by omega) (by omega)]; exact h2 q hq, fun t ht => by rw [e (b + 5) (by omega) (by omega), e2 (b + 4) (by omega) (by omega)]; exact h3 t ht, fun j hj => by rw [e (b + 7) (by omega) (by omega)]; exact h4 j hj, fun g hg => ?_⟩
  obtain ⟨g1, g2, g3, g4, g5, g6, g7⟩ := h5 g hg
  have ge : gc b g = b + (8 + 7 * g) := rfl
  refine ⟨by rw [e2 _ (by omega) (by omega)]; exact g1, by rw [e _ (by omega) (by omega)]; exact g2, by rw [e _ (by omega) (by omega)]; exact g3, by rw [e _ (by omega) (by omega)]; exact g4, fun t ht => by rw [e _ (by omega) (by omega)]; exact g5 t ht, by rw [e _ (by omega) (by omega)]; exact g6, fun n hn => by rw [e _ (by omega) (by omega), e _ (by omega) (by omega), e _ (by omega) (by omega), e _ (by omega) (by omega)]; exact g7 n hn⟩
theorem stR.cp {I I' : am_I} {L L' : am_L} {a b : Nat} {w : Nat → Int32} (h : stR I L b w) (hw : wfp w) (e : stEq I I' L L' a b (vG w)) : stR I' L' a w := by
  obtain ⟨⟨h1, h1a, h1b, h1c⟩, h2, h3, h4, h5⟩ := h
  obtain ⟨⟨e1, e1a, e1b, e1c⟩, e2, e3, e4, e5⟩ := e
  obtain ⟨⟨-, q6⟩, ⟨-, t8⟩, -, -, -, -, hg⟩ := hw
  refine ⟨⟨e1.trans h1, e1a.trans h1a, e1b.trans h1b, e1c.trans h1c⟩, fun q hq => ?_, fun t ht => ?_, fun j hj => (e4 j hj).trans (h4 j hj), fun g hg' => ?_⟩
  · obtain ⟨x1, x2, x3⟩ := e2 q (by omega)
    obtain ⟨y1, y2, y3⟩ := h2 q hq
    exact ⟨x1.trans y1, x2.trans y2, x3.trans y3⟩
  · obtain ⟨x1, x2⟩ := e3 t (by omega)
    obtain ⟨y1, y2⟩ := h3 t ht
    exact ⟨x1.trans y1, x2.trans y2⟩
  · obtain ⟨x1, x2, x3, x4, x5, x6, x7⟩ := e5 g hg'
    obtain ⟨y1, y2, y3, y4, y5, y6, y7⟩ := h5 g hg'
    have he15 := (hg g hg').2.2.2.2.2.2.2.1
    refine ⟨x1.trans y1, x2.trans y2, x3.trans y3, x4.trans y4, fun t ht => (x5 t (by omega)).trans (y5 t ht), x6.trans y6, fun n hn => ?_⟩
    obtain ⟨z1, z2, z3, z4⟩ := x7 n (by omega)
    obtain ⟨u1, u2, u3, u4⟩ := y7 n hn
    exact ⟨z1.trans u1, z2.trans u2, z3.trans u3, z4.trans u4⟩
theorem wfp.ty {w : Nat → Int32} (h : wfp w) {t : Nat} (ht : t < vT w) : tyW w t < 64 := by
  have h1 := (h.2.2.2.2.2.1 t ht).2.2.2.1
  have h2 : 2 ^ vQ w ≤ 64 := Nat.pow_le_pow_right (n := 2) (by decide) (show vQ w ≤ 6 from h.1.2)
  omega
theorem wfp.mda {w : Nat → Int32} (h : wfp w) (h0 : 0 < vT w) {g : Nat} (hg : g < vG w) : mda w g (vQ w) (vT w) (qcW w) (tyW w) (tlW w) (ctW w g) := by
  have h64 := fun t (ht : t < vT w) => h.ty ht
  obtain ⟨⟨q0, q6⟩, ⟨t0, t8⟩, -, -, hq, ht, hgg⟩ := h
  refine ⟨q0, t0, q6, h0, t8, fun q a => ⟨(hq q a).1, (hq q a).2.1, (hq q a).2.2.1⟩, fun t a => ⟨(ht t a).1, (ht t a).2.1, (ht t a).2.2.1, h64 t a, ((hgg g hg).2.2.2.2.1 t a).1, ((hgg g hg).2.2.2.2.1 t a).2⟩⟩
theorem stR.sda {I : am_I} {L : am_L} {b : Nat} {w : Nat → Int32} (h : stR I L b w) (hw : wfp w) (h0 : 0 < vT w) {g : Nat} (hg : g < vG w) : sda I b (gc b g) (vQ w) (vT w) (qcW w) (yse (vT w) (tyW w)) (tlW w) (ctW w g) := by
  obtain ⟨⟨h1, h1a, h1b, h1c⟩, h2, h3, h4, h5⟩ := h
  obtain ⟨⟨q0, q6⟩, ⟨t0, t8⟩, -, -, hq, ht, hgg⟩ := hw
  refine ⟨h1.trans q0, h1a.trans t0, q6, h0, t8, fun q a => ⟨(h2 q a).2.1.trans (hq q a).1, (hq q a).2.1, (hq q a).2.2.1, (h2 q a).2.2, yse_lt _ _ _⟩, fun t a => ⟨(h3 t a).2.trans (ht t a).1, (ht t a).2.1, ((h5 g hg).2.2.2.2.1 t a).trans ((hgg g hg).2.2.2.2.1 t a).1, ((hgg g hg).2.2.2.2.1 t a).2⟩⟩
theorem wfp.tr {w : Nat → Int32} (h : wfp w) {g : Nat} (hg : g < vG w) : trW w g (vQ w) (vT w) (tyW w) (teW w g) := (h.2.2.2.2.2.2 g hg).2.2.2.2.2
/-! transitions of the row -/
def pasW (w : Nat → Int32) (g t : Nat) (n c p d : Int32) : Nat → Int32 := fun j => if j = 132 + g * 94 + (10 + t) then (if w j + n < 9999 then w j + n else 9999) else if 4 ≤ j ∧ j < 12 then addT (fun i => w (4 + i)) n c p d (j - 4) else w j
def hlW (w : Nat → Int32) (g : Nat) : Nat → Int32 := fun j => if 132 + g * 94 + 10 ≤ j ∧ j < 132 + g * 94 + 10 + vT w then w j / 2 else w j
/-- w' is w with the tree of gate g built anew -/
def bldR (w : Nat → Int32) (g : Nat) (w' : Nat → Int32) : Prop := ∃ e, w' (132 + g * 94 + 18) = nn e ∧ 0 < e ∧ e ≤ 15 ∧ tvb (vQ w) (vT w) (qcW w) (yse (vT w) (tyW w)) (tlW w) (ctW w g) (fbq (-1)) (rw5 w' g 0) (rw5 w' g 1) (rw5 w' g 2) (rw5 w' g 3) (rw5 w' g 4) 256 0 (2 ^ vT w - 1) (lmW w g) e ∧
  ∀ j, j ≠ 132 + g * 94 + 18 → ¬ (132 + g * 94 + 19 ≤ j ∧ j < 132 + g * 94 + (19 + e * 5)) → w' j = w j
theorem bldR_uq {w w1 w2 : Nat → Int32} {g : Nat} (h : bldR w g w1) (h' : bldR w g w2) : w2 = w1 := by
  obtain ⟨e, a1, a2, a3, a4, a5⟩ := h
  obtain ⟨e', b1, b2, b3, b4, b5⟩ := h'
  obtain ⟨rfl, c⟩ := tvb_uq a4 b4
  funext j
  by_cases hj : j = 132 + g * 94 + 18
  · rw [hj, a1, b1]
  · by_cases hr : 132 + g * 94 + 19 ≤ j ∧ j < 132 + g * 94 + (19 + e' * 5)
    · have hn : (j - (132 + g * 94 + 19)) / 5 < e' := by omega
      obtain ⟨c1, c2, c3, c4, c5⟩ := c ((j - (132 + g * 94 + 19)) / 5) (Nat.zero_le _) hn
      have hm : ∀ k, (j - (132 + g * 94 + 19)) % 5 = k → 132 + g * 94 + (19 + (j - (132 + g * 94 + 19)) / 5 * 5 + k) = j := fun k hk => by omega
      have : (j - (132 + g * 94 + 19)) % 5 = 0 ∨ (j - (132 + g * 94 + 19)) % 5 = 1 ∨ (j - (132 + g * 94 + 19)) % 5 = 2 ∨ (j - (132 + g * 94 + 19)) % 5 = 3 ∨ (j - (132 + g * 94 + 19)) % 5 = 4 := by omega
      rcases this with h | h | h | h | h
      · have := hm 0 h; unfold rw5 at c1; rw [this] at c1; exact c1
      · have := hm 1 h; unfold rw5 at c2; rw [this] at c2; exact c2
      · have := hm 2 h; unfold rw5 at c3; rw [this] at c3; exact c3
      · have := hm 3 h; unfold rw5 at c4; rw [this] at c4; exact c4
      · have := hm 4 h; unfold rw5 at c5; rw [this] at c5; exact c5
    · rw [a5 j hj hr, b5 j hj hr]
noncomputable def bldW (w : Nat → Int32) (g : Nat) : Nat → Int32 := @dite (Nat → Int32) (∃ w', bldR w g w') (Classical.propDecidable _) (fun h => h.choose) (fun _ => w)
theorem bldW_eq {w w' : Nat → Int32} {g : Nat} (h : bldR w g w') : bldW w g = w' := by
  have hx : ∃ w', bldR w g w' := ⟨w', h⟩
  unfold bldW
  rw [dif_pos hx]
  exact bldR_uq h hx.choose_spec
/-! the best tree is there: the solver plants it (in cells of its own) -/
def gC : am_G := (44, fun c => if c < 8 then ([(0, 5, 0), (4, 6, 0), (1, 6, 0), (1, 6, 0), (4, 8, 0), (1, 8, 0), (6, 4, 0), (0, 6, 0)] : List (Nat × Nat × Nat)).getD c (0, 0, 0) else if c < 36 then ([(0, 0, 0), (1, 8, 0), (0, 7, 0), (1, 15, 0), (1, 15, 0), (1, 15, 0), (1, 15, 0)] : List (Nat × Nat × Nat)).getD ((c - 8) % 7) (0, 0, 0) else ([(0, 4, 0), (4, 7936, 0), (1, 256, 0), (1, 256, 0), (1, 8, 0), (1, 15, 0), (1, 15, 0), (1, 15, 0)] : List (Nat × Nat × Nat)).getD (c - 36) (0, 0, 0),
  fun c f => if c = 0 then (if 4 ≤ f ∧ f ≤ 10 then some (f - 3) else none) else if c = 6 then (if f < 4 then some (8 + 7 * f) else none) else if c = 36 then (if f < 7 then some (37 + f) else none) else if 8 ≤ c ∧ c < 36 then (if (c - 8) % 7 = 0 then (if f = 4 then some (c + 1) else if f = 5 then some (c + 2) else none) else if (c - 8) % 7 = 2 then (if 1 ≤ f ∧ f ≤ 4 then some (c + f) else none) else none) else none)
theorem gC_g : ∀ g, g < 4 → gC.2.2 (0 + 6) g = some (gc 0 g) ∧ gaF gC (gc 0 g)
  | 0, _ => ⟨rfl, ⟨by decide, rfl⟩, rfl, rfl, ⟨by decide, rfl⟩, ⟨by decide, rfl⟩, rfl, rfl, rfl, rfl, ⟨by decide, rfl⟩, ⟨by decide, rfl⟩, ⟨by decide, rfl⟩, ⟨by decide, rfl⟩⟩
  | 1, _ => ⟨rfl, ⟨by decide, rfl⟩, rfl, rfl, ⟨by decide, rfl⟩, ⟨by decide, rfl⟩, rfl, rfl, rfl, rfl, ⟨by decide, rfl⟩, ⟨by decide, rfl⟩, ⟨by decide, rfl⟩, ⟨by decide, rfl⟩⟩
  | 2, _ => ⟨rfl, ⟨by decide, rfl⟩, rfl, rfl, ⟨by decide, rfl⟩, ⟨by decide, rfl⟩, rfl, rfl, rfl, rfl, ⟨by decide, rfl⟩, ⟨by decide, rfl⟩, ⟨by decide, rfl⟩, ⟨by decide, rfl⟩⟩
  | 3, _ => ⟨rfl, ⟨by decide, rfl⟩, rfl, rfl, ⟨by decide, rfl⟩, ⟨by decide, rfl⟩, rfl, rfl, rfl, rfl, ⟨by decide, rfl⟩, ⟨by decide, rfl⟩, ⟨by decide, rfl⟩, ⟨by decide, rfl⟩⟩
  | g + 4, h => absurd h (by omega)
theorem gC_st : stF gC 0 := ⟨⟨by decide, rfl⟩, rfl, rfl, rfl, rfl, rfl, rfl, rfl, ⟨by decide, rfl⟩, ⟨by decide, rfl⟩, ⟨by decide, rfl⟩, ⟨by decide, rfl⟩, ⟨by decide, rfl⟩, ⟨by decide, rfl⟩, ⟨by decide, rfl⟩, gC_g⟩
theorem gC_so : soF gC 36 := ⟨⟨by decide, rfl⟩, rfl, rfl, rfl, rfl, rfl, rfl, rfl, ⟨by decide, rfl⟩, ⟨by decide, rfl⟩, ⟨by decide, rfl⟩, ⟨by decide, rfl⟩, ⟨by decide, rfl⟩, ⟨by decide, rfl⟩, ⟨by decide, rfl⟩⟩
def gI (w : Nat → Int32) (g : Nat) : am_I := fun c => if c = 0 then w else if c = 2 then (fun q => w (12 + q * 8)) else if c = 3 then (fun q => nn (yse (vT w) (tyW w) q)) else if c = 5 then (fun t => w (60 + t * 9)) else if c = gc 0 g then (fun f => if f = 3 then w (132 + g * 94 + 2) else 0) else if c = gc 0 g + 1 then (fun t => w (132 + g * 94 + (10 + t))) else fun _ => 0
/-- the row w with a tree written in -/
def wbl (w : Nat → Int32) (g e : Nat) (tq tt ty tn ts : Nat → Int32) : Nat → Int32 := fun j =>
  if j = 132 + g * 94 + 18 then nn e else if 132 + g * 94 + 19 ≤ j ∧ j < 132 + g * 94 + (19 + e * 5) then
    (if (j - (132 + g * 94 + 19)) % 5 = 0 then tq ((j - (132 + g * 94 + 19)) / 5) else if (j - (132 + g * 94 + 19)) % 5 = 1 then tt ((j - (132 + g * 94 + 19)) / 5) else if (j - (132 + g * 94 + 19)) % 5 = 2 then ty ((j - (132 + g * 94 + 19)) / 5) else if (j - (132 + g * 94 + 19)) % 5 = 3 then tn ((j - (132 + g * 94 + 19)) / 5) else ts ((j - (132 + g * 94 + 19)) / 5))
  else w j
theorem wbl_at {w : Nat → Int32} {g e : Nat} {tq tt ty tn ts : Nat → Int32} {n : Nat} (hn : n < e) : rw5 (wbl w g e tq tt ty tn ts) g 0 n = tq n ∧ rw5 (wbl w g e tq tt ty tn ts) g 1 n = tt n ∧ rw5 (wbl w g e tq tt ty tn ts) g 2 n = ty n ∧ rw5 (wbl w g e tq tt ty tn ts) g 3 n = tn n ∧ rw5 (wbl w g e tq tt ty tn ts) g 4 n = ts n := by
  have key : ∀ k, k < 5 → (132 + g * 94 + (19 + n * 5 + k) ≠ 132 + g * 94 + 18) ∧ (132 + g * 94 + 19 ≤ 132 + g * 94 + (19 + n * 5 + k) ∧ 132 + g * 94 + (19 + n * 5 + k) < 132 + g * 94 + (19 + e * 5)) ∧ (132 + g * 94 + (19 + n * 5 + k) - (132 + g * 94 + 19)) % 5 = k ∧ (132 + g * 94 + (19 + n * 5 + k) - (132 + g * 94 + 19)) / 5 = n := fun k hk => by omega
  unfold rw5 wbl
  refine ⟨?_, ?_, ?_, ?_, ?_⟩
  · obtain ⟨a, b, c, d⟩ := key 0 (by decide)
    rw [if_neg a, if_pos b, c, d]; rfl
  · obtain ⟨a, b, c, d⟩ := key 1 (by decide)
    rw [if_neg a, if_pos b, c, d]; rfl
  · obtain ⟨a, b, c, d⟩ := key 2 (by decide)
    rw [if_neg a, if_pos b, c, d]; rfl
  · obtain ⟨a, b, c, d⟩ := key 3 (by decide)
    rw [if_neg a, if_pos b, c, d]; rfl
  · obtain ⟨a, b, c, d⟩ := key 4 (by decide)
    rw [if_neg a, if_pos b, c, d]; rfl
theorem bld_exm {w : Nat → Int32} {g : Nat} (g4 : g < 4) (md : mda w g (vQ w) (vT w) (qcW w) (tyW w) (tlW w) (ctW w g)) (l30 : lmW w g ≤ 30) (hl : w (132 + g * 94 + 2) = nn (lmW w g)) : bldR w g (bldW w g) := by
  have gE : gc 0 g = 0 + (8 + 7 * g) := rfl
  obtain ⟨q0, t0, q6, h0, t8, hq, ht⟩ := md
  have e0 : gI w g 0 = w := if_pos rfl
  have e2 : gI w g (0 + 2) = fun q => w (12 + q * 8) := by unfold gI; rw [if_neg (by decide), if_pos rfl]
  have e3 : gI w g (0 + 3) = fun q => nn (yse (vT w) (tyW w) q) := by unfold gI; rw [if_neg (by decide), if_neg (by decide), if_pos rfl]
  have e5 : gI w g (0 + 5) = fun t => w (60 + t * 9) := by unfold gI; rw [if_neg (by decide), if_neg (by decide), if_neg (by decide), if_pos rfl]
  have eg : gI w g (gc 0 g) = fun f => if f = 3 then w (132 + g * 94 + 2) else 0 := by unfold gI; rw [if_neg (by omega), if_neg (by omega), if_neg (by omega), if_neg (by omega), if_pos rfl]
  have ec : gI w g (gc 0 g + 1) = fun t => w (132 + g * 94 + (10 + t)) := by unfold gI; rw [if_neg (by omega), if_neg (by omega), if_neg (by omega), if_neg (by omega), if_neg (by omega), if_pos rfl]
  have hs : sda (gI w g) 0 (gc 0 g) (vQ w) (vT w) (qcW w) (yse (vT w) (tyW w)) (tlW w) (ctW w g) := by
    unfold sda
    rw [e0, e2, e3, e5, ec]
    exact ⟨q0, t0, q6, h0, t8, fun q a => ⟨(hq q a).1, (hq q a).2.1, (hq q a).2.2, rfl, yse_lt _ _ _⟩, fun t a => ⟨(ht t a).1, (ht t a).2.1, (ht t a).2.2.2.2.1, (ht t a).2.2.2.2.2⟩⟩
  obtain ⟨I', L', -, ⟨e, a1, a2, -, a4⟩, -⟩ := eX4_plant (d := 0) (Γ := gC) (I := gI w g) (L := fun _ _ => 0) (k := 36) (b := 0) (g := g) (lim := lmW w g) gC_so gC_st g4 (Or.inl (by decide)) hs (by rw [eg]; exact (if_pos rfl).trans hl) l30
  have hb : bldR w g (wbl w g e (I' (gc 0 g + 2 + 1)) (I' (gc 0 g + 2 + 2)) (yF (I' (gc 0 g + 2 + 1))) (I' (gc 0 g + 2 + 3)) (I' (gc 0 g + 2 + 4))) := by
    refine ⟨e, if_pos rfl, a1, a2, tvb_cong a4 (fun j _ hj => wbl_at hj), fun j j1 j2 => ?_⟩
    unfold wbl
    rw [if_neg j1, if_neg j2]
  rw [bldW_eq hb]
  exact hb
theorem bld_ex {w : Nat → Int32} (hw : wfp w) (h0 : 0 < vT w) {g : Nat} (hg : g < vG w) : bldR w g (bldW w g) :=
  bld_exm (Nat.lt_of_lt_of_le hg hw.2.2.1.2) (hw.mda h0 hg) (hw.2.2.2.2.2.2 g hg).2.2.1.2 (hw.2.2.2.2.2.2 g hg).2.2.1.1
