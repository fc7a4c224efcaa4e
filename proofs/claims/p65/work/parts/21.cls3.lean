/-! CONTRACTS OF THE CLASS: totals, copies, the history -/
theorem am_cI_at {I : am_I} {k0 k1 sp dp n : Nat} (a b : Nat) : am_cI I k0 k1 sp dp n a b = if a = k1 ∧ dp ≤ b ∧ b < dp + n then I k0 (sp + (b - dp)) else I a b := by
  unfold am_cI va_cpy
  by_cases h : a = k1
  · subst h
    rw [if_pos rfl]
    by_cases h2 : dp ≤ b ∧ b < dp + n
    · rw [if_pos h2, if_pos ⟨rfl, h2⟩]
    · rw [if_neg h2, if_neg (fun z => h2 z.2)]
  · rw [if_neg h, if_neg (fun z => h z.1)]
theorem am_cL_at {L : am_L} {k0 k1 sp dp n : Nat} (a b : Nat) : am_cL L k0 k1 sp dp n a b = if a = k1 ∧ dp ≤ b ∧ b < dp + n then L k0 (sp + (b - dp)) else L a b := by
  unfold am_cL va_cpy
  by_cases h : a = k1
  · subst h
    rw [if_pos rfl]
    by_cases h2 : dp ≤ b ∧ b < dp + n
    · rw [if_pos h2, if_pos ⟨rfl, h2⟩]
    · rw [if_neg h2, if_neg (fun z => h2 z.2)]
  · rw [if_neg h, if_neg (fun z => h z.1)]
theorem c0 : (0 : Int32).toNatClampNeg = 0 := rfl
theorem c6 : (6 : Int32).toNatClampNeg = 6 := rfl
theorem c8 : (8 : Int32).toNatClampNeg = 8 := rfl
theorem c15 : (15 : Int32).toNatClampNeg = 15 := rfl
theorem c508 : (508 : Int32).toNatClampNeg = 508 := rfl
theorem c3556 : (3556 : Int32).toNatClampNeg = 3556 := rfl
/-- nothing but the cells from lo to hi has changed -/
def fr (lo hi : Nat) (I I' : am_I) : Prop := ∀ c, c < lo ∨ hi ≤ c → I' c = I c
def frL (lo hi : Nat) (L L' : am_L) : Prop := ∀ c, c < lo ∨ hi ≤ c → L' c = L c
theorem fr.tr {lo hi lo' hi' lo2 hi2 : Nat} {I I' I'' : am_I} (h : fr lo hi I I') (h' : fr lo' hi' I' I'') (e : lo2 ≤ lo ∧ hi ≤ hi2) (e' : lo2 ≤ lo' ∧ hi' ≤ hi2) : fr lo2 hi2 I I'' :=
  fun c hc => (h' c (by omega)).trans (h c (by omega))
theorem frL.tr {lo hi lo' hi' lo2 hi2 : Nat} {I I' I'' : am_L} (h : frL lo hi I I') (h' : frL lo' hi' I' I'') (e : lo2 ≤ lo ∧ hi ≤ hi2) (e' : lo2 ≤ lo' ∧ hi' ≤ hi2) : frL lo2 hi2 I I'' :=
  fun c hc => (h' c (by omega)).trans (h c (by omega))
theorem fr.rf {lo hi : Nat} {I : am_I} : fr lo hi I I := fun _ _ => rfl
theorem frL.rf {lo hi : Nat} {I : am_L} : frL lo hi I I := fun _ _ => rfl
theorem fr.wd {lo hi lo2 hi2 : Nat} {I I' : am_I} (h : fr lo hi I I') (e : lo2 ≤ lo ∧ hi ≤ hi2) : fr lo2 hi2 I I' := fun c hc => h c (by omega)
theorem frL.wd {lo hi lo2 hi2 : Nat} {I I' : am_L} (h : frL lo hi I I') (e : lo2 ≤ lo ∧ hi ≤ hi2) : frL lo2 hi2 I I' := fun c hc => h c (by omega)
theorem am_ofX {mi : am_M} {d mc ms : Nat} {args : List Value} {Γ : am_G} {I : am_I} {L : am_L} {o : am_O} {P : am_I → am_L → Prop} (hy : plainName mi.1.cls = true) (ht : mi.2.2.2.2.1 = []) (hsc : mi.2.2.2.2.2 = none) (hn : am_sz args ≤ mi.2.2.1)
    (h : ∃ I' L', am_W mi d mc ms false mc ms 0 (lv_args 0 args) [] Γ I L (am_R o I' L') ∧ P I' L') : ∃ I' L', am_E mi d mc ms args Γ I L o I' L' ∧ P I' L' := by
  obtain ⟨I', L', h1, h2⟩ := h
  exact ⟨I', L', am_ofE hy ht hsc hn h1, h2⟩
theorem am_ofX1 {mi : am_M} {d mc ms : Nat} {args : List Value} {Γ : am_G} {I : am_I} {L : am_L} {o : am_O} {P : am_I → Prop} (hy : plainName mi.1.cls = true) (ht : mi.2.2.2.2.1 = []) (hsc : mi.2.2.2.2.2 = none) (hn : am_sz args ≤ mi.2.2.1)
    (h : ∃ I', am_W mi d mc ms false mc ms 0 (lv_args 0 args) [] Γ I L (am_R o I' L) ∧ P I') : ∃ I', am_E mi d mc ms args Γ I L o I' L ∧ P I' := by
  obtain ⟨I', h1, h2⟩ := h
  exact ⟨I', am_ofE hy ht hsc hn h1, h2⟩
def addT (f : Nat → Int32) (n c p d : Int32) : Nat → Int32
  | 0 => f 0 + n
  | 1 => f 1 + n * c
  | 2 => f 2 + n * p
  | 3 => f 3 + n * d
  | 4 => if d < p then f 4 + n else f 4
  | 5 => if p < d then f 5 + n else f 5
  | 6 => if d < p then f 6 + n * (p - d) else f 6
  | 7 => if p < d then f 7 + n * (d - p) else f 7
  | j => f j
section C3
variable {d : Nat} {Γ : am_G} {I : am_I} {L : am_L} {a b : Nat}
theorem eX6_reset {c : Nat} (o : am_ob Γ c 6) : ∃ I', am_E m_X6_reset d 0 0 [.ref c] Γ I L (.inl none) I' L ∧ (∀ j, j < 8 → I' c j = 0) ∧ fr c (c + 1) I I' := by
  refine am_ofX1 rfl rfl rfl (Nat.le_of_ble_eq_true rfl) ⟨_, by
    refine bX6_reset_0 (by assumption) ?_
    exact ⟨rfl, rfl, rfl⟩, fun j hj => ?_, fun e he => funext fun j => ?_⟩
  · have : j = 0 ∨ j = 1 ∨ j = 2 ∨ j = 3 ∨ j = 4 ∨ j = 5 ∨ j = 6 ∨ j = 7 := by omega
    rcases this with h | h | h | h | h | h | h | h <;> subst h <;> simp (disch := omega) only [and_self, and_true, true_and, and_false, false_and, if_true, if_false, am_cI_at, am_cL_at, am_u_at, am_ul_at, am_mI_at, if_pos, if_neg, c0, c6, c8, c15, Nat.zero_add, Nat.sub_zero]
  · simp (disch := omega) only [and_self, and_true, true_and, and_false, false_and, if_true, if_false, am_cI_at, am_cL_at, am_u_at, am_ul_at, am_mI_at, if_pos, if_neg, c0, c6, c8, c15, Nat.zero_add, Nat.sub_zero]
theorem eX6_copyFrom {c s : Nat} (o : am_ob Γ c 6) (o2 : am_ob Γ s 6) (hn : c ≠ s) : ∃ I', am_E m_X6_copyFrom d 0 0 [.ref c, .ref s] Γ I L (.inl none) I' L ∧ (∀ j, j < 8 → I' c j = I s j) ∧ fr c (c + 1) I I' := by
  refine am_ofX1 rfl rfl rfl (Nat.le_of_ble_eq_true rfl) ⟨_, by
    refine bX6_copyFrom_0 (by assumption) (by assumption) ?_
    exact ⟨rfl, rfl, rfl⟩, fun j hj => ?_, fun e he => funext fun j => ?_⟩
  · have : j = 0 ∨ j = 1 ∨ j = 2 ∨ j = 3 ∨ j = 4 ∨ j = 5 ∨ j = 6 ∨ j = 7 := by omega
    rcases this with h | h | h | h | h | h | h | h <;> subst h <;> simp (disch := omega) only [and_self, and_true, true_and, and_false, false_and, if_true, if_false, am_cI_at, am_cL_at, am_u_at, am_ul_at, am_mI_at, if_pos, if_neg, c0, c6, c8, c15, Nat.zero_add, Nat.sub_zero]
  · simp (disch := omega) only [and_self, and_true, true_and, and_false, false_and, if_true, if_false, am_cI_at, am_cL_at, am_u_at, am_ul_at, am_mI_at, if_pos, if_neg, c0, c6, c8, c15, Nat.zero_add, Nat.sub_zero]
theorem eX6_add {c : Nat} (o : am_ob Γ c 6) (n ce pe de : Int32) : ∃ I', am_E m_X6_add d 0 0 [.ref c, .int n, .int ce, .int pe, .int de] Γ I L (.inl none) I' L ∧ (∀ j, j < 8 → I' c j = addT (I c) n ce pe de j) ∧ fr c (c + 1) I I' := by
  refine am_ofX1 rfl rfl rfl (Nat.le_of_ble_eq_true rfl) ?_
  by_cases h1 : pe ≤ de
  · by_cases h2 : de ≤ pe
    · refine ⟨_, by
        refine bX6_add_0 o (fun _ => ?_) (fun h => absurd h1 h)
        refine bX6_add_78 (fun _ => ?_) (fun h => absurd h2 h)
        refine bX6_add_109 ?_
        exact ⟨rfl, rfl, rfl⟩, fun j hj => ?_, fun e he => funext fun j => ?_⟩
      · have : j = 0 ∨ j = 1 ∨ j = 2 ∨ j = 3 ∨ j = 4 ∨ j = 5 ∨ j = 6 ∨ j = 7 := by omega
        rcases this with h | h | h | h | h | h | h | h <;> subst h <;> simp (disch := omega) only [and_self, and_true, true_and, and_false, false_and, if_true, if_false, am_cI_at, am_cL_at, am_u_at, am_ul_at, am_mI_at, if_pos, if_neg, c0, c6, c8, c15, Nat.zero_add, Nat.sub_zero] <;> simp [addT, Int32.not_lt.mpr h1, Int32.not_lt.mpr h2]
      · simp (disch := omega) only [and_self, and_true, true_and, and_false, false_and, if_true, if_false, am_cI_at, am_cL_at, am_u_at, am_ul_at, am_mI_at, if_pos, if_neg, c0, c6, c8, c15, Nat.zero_add, Nat.sub_zero]
    · refine ⟨_, by
        refine bX6_add_0 o (fun _ => ?_) (fun h => absurd h1 h)
        refine bX6_add_78 (fun h => absurd h h2) (fun _ => ?_)
        refine bX6_add_84 (by assumption) ?_
        refine bX6_add_109 ?_
        exact ⟨rfl, rfl, rfl⟩, fun j hj => ?_, fun e he => funext fun j => ?_⟩
      · have : j = 0 ∨ j = 1 ∨ j = 2 ∨ j = 3 ∨ j = 4 ∨ j = 5 ∨ j = 6 ∨ j = 7 := by omega
        rcases this with h | h | h | h | h | h | h | h <;> subst h <;> simp (disch := omega) only [and_self, and_true, true_and, and_false, false_and, if_true, if_false, am_cI_at, am_cL_at, am_u_at, am_ul_at, am_mI_at, if_pos, if_neg, c0, c6, c8, c15, Nat.zero_add, Nat.sub_zero] <;> simp [addT, Int32.not_lt.mpr h1, Int32.not_le.mp h2]
      · simp (disch := omega) only [and_self, and_true, true_and, and_false, false_and, if_true, if_false, am_cI_at, am_cL_at, am_u_at, am_ul_at, am_mI_at, if_pos, if_neg, c0, c6, c8, c15, Nat.zero_add, Nat.sub_zero]
  · have h2 : de ≤ pe := Int32.le_of_lt (Int32.not_le.mp h1)
    refine ⟨_, by
      refine bX6_add_0 o (fun h => absurd h h1) (fun _ => ?_)
      refine bX6_add_53 (by assumption) ?_
      refine bX6_add_78 (fun _ => ?_) (fun h => absurd h2 h)
      refine bX6_add_109 ?_
      exact ⟨rfl, rfl, rfl⟩, fun j hj => ?_, fun e he => funext fun j => ?_⟩
    · have : j = 0 ∨ j = 1 ∨ j = 2 ∨ j = 3 ∨ j = 4 ∨ j = 5 ∨ j = 6 ∨ j = 7 := by omega
      rcases this with h | h | h | h | h | h | h | h <;> subst h <;> simp (disch := omega) only [and_self, and_true, true_and, and_false, false_and, if_true, if_false, am_cI_at, am_cL_at, am_u_at, am_ul_at, am_mI_at, if_pos, if_neg, c0, c6, c8, c15, Nat.zero_add, Nat.sub_zero] <;> simp [addT, Int32.not_le.mp h1, Int32.not_lt.mpr h2]
    · simp (disch := omega) only [and_self, and_true, true_and, and_false, false_and, if_true, if_false, am_cI_at, am_cL_at, am_u_at, am_ul_at, am_mI_at, if_pos, if_neg, c0, c6, c8, c15, Nat.zero_add, Nat.sub_zero]
/-- the tree at t is told alike at s -/
def trEq (I I' : am_I) (t s : Nat) : Prop := I' t 0 = I s 0 ∧ ∀ j, j < 15 → I' (t + 1) j = I (s + 1) j ∧ I' (t + 2) j = I (s + 2) j ∧ I' (t + 3) j = I (s + 3) j ∧ I' (t + 4) j = I (s + 4) j
def gaEq (I I' : am_I) (L L' : am_L) (x y : Nat) : Prop := L' x 0 = L y 0 ∧ I' x 1 = I y 1 ∧ I' x 2 = I y 2 ∧ I' x 3 = I y 3 ∧ (∀ j, j < 8 → I' (x + 1) j = I (y + 1) j) ∧ trEq I I' (x + 2) (y + 2)
def stEq (I I' : am_I) (L L' : am_L) (a b G : Nat) : Prop := (I' a 0 = I b 0 ∧ I' a 1 = I b 1 ∧ I' a 2 = I b 2 ∧ I' a 3 = I b 3) ∧ (∀ j, j < 6 → L' (a + 1) j = L (b + 1) j ∧ I' (a + 2) j = I (b + 2) j ∧ I' (a + 3) j = I (b + 3) j) ∧ (∀ j, j < 8 → L' (a + 4) j = L (b + 4) j ∧ I' (a + 5) j = I (b + 5) j) ∧ (∀ j, j < 8 → I' (a + 7) j = I (b + 7) j) ∧ ∀ g, g < G → gaEq I I' L L' (gc a g) (gc b g)
theorem eX7_copyFrom {t s : Nat} (ht : trF Γ t) (hs : trF Γ s) (hn : t + 5 ≤ s ∨ s + 5 ≤ t) : ∃ I', am_E m_X7_copyFrom d 0 0 [.ref t, .ref s] Γ I L (.inl none) I' L ∧ trEq I I' t s ∧ fr t (t + 5) I I' := by
  obtain ⟨o, r1, r2, r3, r4, a1, a2, a3, a4⟩ := ht
  obtain ⟨o', r1', r2', r3', r4', a1', a2', a3', a4'⟩ := hs
  refine am_ofX1 rfl rfl rfl (Nat.le_of_ble_eq_true rfl) ⟨_, by
    refine bX7_copyFrom_0 (by assumption) (by assumption) (by assumption) (by assumption) (by assumption) (by assumption) (by decide) (by decide) (by assumption) (by assumption) (by assumption) (by assumption) (by decide) (by decide) (by assumption) (by assumption) (by assumption) (by assumption) (by decide) (by decide) (by assumption) (by assumption) (by assumption) (by assumption) (by decide) (by decide) ?_
    exact ⟨rfl, rfl, rfl⟩, ⟨?_, fun j hj => ⟨?_, ?_, ?_, ?_⟩⟩, fun e he => funext fun j => ?_⟩ <;> simp (disch := omega) only [and_self, and_true, true_and, and_false, false_and, if_true, if_false, am_cI_at, am_cL_at, am_u_at, am_ul_at, am_mI_at, if_pos, if_neg, c0, c6, c8, c15, Nat.zero_add, Nat.sub_zero]
theorem eX0_copyFrom {x y : Nat} (hx : gaF Γ x) (hy : gaF Γ y) (hn : x + 7 ≤ y ∨ y + 7 ≤ x) : ∃ I' L', am_E m_X0_copyFrom (d + 1) 0 0 [.ref x, .ref y] Γ I L (.inl none) I' L' ∧ gaEq I I' L L' x y ∧ fr x (x + 7) I I' ∧ frL x (x + 1) L L' := by
  obtain ⟨o, r4, r5, a1, ht⟩ := hx
  obtain ⟨o', r4', r5', a1', ht'⟩ := hy
  refine am_ofX rfl rfl rfl (Nat.le_of_ble_eq_true rfl) ?_
  obtain ⟨I2, hE, hq, hf⟩ := eX7_copyFrom (d := d) (I := am_cI (am_u (am_u (am_u I x 1 (I y 1)) x 2 ((am_u I x 1 (I y 1)) y 2)) x 3 ((am_u (am_u I x 1 (I y 1)) x 2 ((am_u I x 1 (I y 1)) y 2)) y 3)) (y + 1) (x + 1) (0 : Int32).toNatClampNeg (0 : Int32).toNatClampNeg (8 : Int32).toNatClampNeg) (L := am_ul L x 0 (L y 0)) ht ht' (by omega)
  refine ⟨I2, am_ul L x 0 (L y 0), ?_, ⟨?_, ?_, ?_, ?_, fun j hj => ?_, ?_, fun j hj => ?_⟩, fun c hc => ?_, fun c hc => funext fun j => ?_⟩
  · have o7 := ht.1
    refine bX0_copyFrom_0 (by assumption) (by assumption) (by assumption) (by assumption) (by assumption) (by assumption) (by decide) (by decide) (by assumption) (by assumption) (by assumption) (Nat.zero_le _) (Nat.zero_le _) hE ?_
    refine bX0_copyFrom_58 ?_
    exact ⟨rfl, rfl, rfl⟩
  · simp (disch := omega) only [and_self, and_true, true_and, and_false, false_and, if_true, if_false, am_cI_at, am_cL_at, am_u_at, am_ul_at, am_mI_at, if_pos, if_neg, c0, c6, c8, c15, Nat.zero_add, Nat.sub_zero]
  · rw [hf x (by omega)]; simp (disch := omega) only [and_self, and_true, true_and, and_false, false_and, if_true, if_false, am_cI_at, am_cL_at, am_u_at, am_ul_at, am_mI_at, if_pos, if_neg, c0, c6, c8, c15, Nat.zero_add, Nat.sub_zero]
  · rw [hf x (by omega)]; simp (disch := omega) only [and_self, and_true, true_and, and_false, false_and, if_true, if_false, am_cI_at, am_cL_at, am_u_at, am_ul_at, am_mI_at, if_pos, if_neg, c0, c6, c8, c15, Nat.zero_add, Nat.sub_zero]
  · rw [hf x (by omega)]; simp (disch := omega) only [and_self, and_true, true_and, and_false, false_and, if_true, if_false, am_cI_at, am_cL_at, am_u_at, am_ul_at, am_mI_at, if_pos, if_neg, c0, c6, c8, c15, Nat.zero_add, Nat.sub_zero]
  · rw [hf (x + 1) (by omega)]; simp (disch := omega) only [and_self, and_true, true_and, and_false, false_and, if_true, if_false, am_cI_at, am_cL_at, am_u_at, am_ul_at, am_mI_at, if_pos, if_neg, c0, c6, c8, c15, Nat.zero_add, Nat.sub_zero]
  · rw [hq.1]; simp (disch := omega) only [and_self, and_true, true_and, and_false, false_and, if_true, if_false, am_cI_at, am_cL_at, am_u_at, am_ul_at, am_mI_at, if_pos, if_neg, c0, c6, c8, c15, Nat.zero_add, Nat.sub_zero]
  · obtain ⟨q1, q2, q3, q4⟩ := hq.2 j hj
    rw [q1, q2, q3, q4]
    exact ⟨by simp (disch := omega) only [and_self, and_true, true_and, and_false, false_and, if_true, if_false, am_cI_at, am_cL_at, am_u_at, am_ul_at, am_mI_at, if_pos, if_neg, c0, c6, c8, c15, Nat.zero_add, Nat.sub_zero], by simp (disch := omega) only [and_self, and_true, true_and, and_false, false_and, if_true, if_false, am_cI_at, am_cL_at, am_u_at, am_ul_at, am_mI_at, if_pos, if_neg, c0, c6, c8, c15, Nat.zero_add, Nat.sub_zero], by simp (disch := omega) only [and_self, and_true, true_and, and_false, false_and, if_true, if_false, am_cI_at, am_cL_at, am_u_at, am_ul_at, am_mI_at, if_pos, if_neg, c0, c6, c8, c15, Nat.zero_add, Nat.sub_zero], by simp (disch := omega) only [and_self, and_true, true_and, and_false, false_and, if_true, if_false, am_cI_at, am_cL_at, am_u_at, am_ul_at, am_mI_at, if_pos, if_neg, c0, c6, c8, c15, Nat.zero_add, Nat.sub_zero]⟩
  · rw [hf c (by omega)]; funext j; simp (disch := omega) only [and_self, and_true, true_and, and_false, false_and, if_true, if_false, am_cI_at, am_cL_at, am_u_at, am_ul_at, am_mI_at, if_pos, if_neg, c0, c6, c8, c15, Nat.zero_add, Nat.sub_zero]
  · simp (disch := omega) only [and_self, and_true, true_and, and_false, false_and, if_true, if_false, am_cI_at, am_cL_at, am_u_at, am_ul_at, am_mI_at, if_pos, if_neg, c0, c6, c8, c15, Nat.zero_add, Nat.sub_zero]
theorem gc_ne {b g : Nat} : gc b g = b + (8 + 7 * g) := rfl
theorem gaEq.of {I I1 I' : am_I} {L L1 L' : am_L} {x y : Nat} (h : gaEq I1 I' L1 L' x y) (hI : ∀ c, y ≤ c → c < y + 7 → I1 c = I c) (hL : ∀ c, y ≤ c → c < y + 7 → L1 c = L c) : gaEq I I' L L' x y := by
  obtain ⟨h1, h2, h3, h4, h5, h6, h7⟩ := h
  refine ⟨by rw [h1, hL y (by omega) (by omega)], by rw [h2, hI y (by omega) (by omega)], by rw [h3, hI y (by omega) (by omega)], by rw [h4, hI y (by omega) (by omega)], fun j hj => by rw [h5 j hj, hI (y + 1) (by omega) (by omega)], by rw [h6, hI (y + 2) (by omega) (by omega)], fun j hj => ?_⟩
  obtain ⟨q1, q2, q3, q4⟩ := h7 j hj
  rw [q1, q2, q3, q4, hI (y + 2 + 1) (by omega) (by omega), hI (y + 2 + 2) (by omega) (by omega), hI (y + 2 + 3) (by omega) (by omega), hI (y + 2 + 4) (by omega) (by omega)]
  exact ⟨rfl, rfl, rfl, rfl⟩
theorem gaEq.to {I I1 I' : am_I} {L L1 L' : am_L} {x y : Nat} (h : gaEq I I1 L L1 x y) (hI : ∀ c, x ≤ c → c < x + 7 → I' c = I1 c) (hL : ∀ c, x ≤ c → c < x + 7 → L' c = L1 c) : gaEq I I' L L' x y := by
  obtain ⟨h1, h2, h3, h4, h5, h6, h7⟩ := h
  refine ⟨by rw [← h1, hL x (by omega) (by omega)], by rw [← h2, hI x (by omega) (by omega)], by rw [← h3, hI x (by omega) (by omega)], by rw [← h4, hI x (by omega) (by omega)], fun j hj => by rw [← h5 j hj, hI (x + 1) (by omega) (by omega)], by rw [← h6, hI (x + 2) (by omega) (by omega)], fun j hj => ?_⟩
  obtain ⟨q1, q2, q3, q4⟩ := h7 j hj
  rw [← q1, ← q2, ← q3, ← q4, hI (x + 2 + 1) (by omega) (by omega), hI (x + 2 + 2) (by omega) (by omega), hI (x + 2 + 3) (by omega) (by omega), hI (x + 2 + 4) (by omega) (by omega)]
  exact ⟨rfl, rfl, rfl, rfl⟩
/-- what a copy has done so far: all but the gates from k on, and the totals -/
def stC (I I' : am_I) (L L' : am_L) (a b k : Nat) : Prop := (I' a 0 = I b 0 ∧ I' a 1 = I b 1 ∧ I' a 2 = I b 2 ∧ I' a 3 = I b 3) ∧ (∀ j, j < 6 → L' (a + 1) j = L (b + 1) j ∧ I' (a + 2) j = I (b + 2) j ∧ I' (a + 3) j = I (b + 3) j) ∧ (∀ j, j < 8 → L' (a + 4) j = L (b + 4) j ∧ I' (a + 5) j = I (b + 5) j) ∧ (∀ g, g < k → gaEq I I' L L' (gc a g) (gc b g)) ∧ fr a (a + 36) I I' ∧ frL a (a + 36) L L'
theorem eX5_copyFrom {G : Nat} (ha : stF Γ a) (hb : stF Γ b) (hn : a + 36 ≤ b ∨ b + 36 ≤ a) (hG : I b 2 = nn G) (h4 : G ≤ 4) : ∃ I' L', am_E m_X5_copyFrom (d + 2) 0 0 [.ref a, .ref b] Γ I L (.inl none) I' L' ∧ stEq I I' L L' a b G ∧ fr a (a + 36) I I' ∧ frL a (a + 36) L L' := by
  obtain ⟨o, r4, r5, r6, r7, r8, r9, r10, a1, a2, a3, a4, a5, a6, o7, hg⟩ := id ha
  obtain ⟨o', r4', r5', r6', r7', r8', r9', r10', a1', a2', a3', a4', a5', a6', o7', hg'⟩ := id hb
  refine am_ofX rfl rfl rfl (Nat.le_of_ble_eq_true rfl) ?_
  have key := nn_loop (fun k => ∀ I1 L1, stC I I1 L L1 a b k → ∃ I' L', am_W m_X5_copyFrom (d + 2) 0 0 false 0 0 109 [(0, .ref a), (1, .ref b), (2, .int (nn k))] [] Γ I1 L1 (am_R (.inl none) I' L') ∧ stEq I I' L L' a b G ∧ fr a (a + 36) I I' ∧ frL a (a + 36) L L') G ?_ ?_
  · obtain ⟨I', L', hW, hP⟩ := key (am_cI (am_cI (am_cI (am_u (am_u (am_u (am_u I a 0 (I b 0)) a 1 ((am_u I a 0 (I b 0)) b 1)) a 2 ((am_u (am_u I a 0 (I b 0)) a 1 ((am_u I a 0 (I b 0)) b 1)) b 2)) a 3 ((am_u (am_u (am_u I a 0 (I b 0)) a 1 ((am_u I a 0 (I b 0)) b 1)) a 2 ((am_u (am_u I a 0 (I b 0)) a 1 ((am_u I a 0 (I b 0)) b 1)) b 2)) b 3)) (b + 2) (a + 2) (0 : Int32).toNatClampNeg (0 : Int32).toNatClampNeg (6 : Int32).toNatClampNeg) (b + 3) (a + 3) (0 : Int32).toNatClampNeg (0 : Int32).toNatClampNeg (6 : Int32).toNatClampNeg) (b + 5) (a + 5) (0 : Int32).toNatClampNeg (0 : Int32).toNatClampNeg (8 : Int32).toNatClampNeg) (am_cL (am_cL L (b + 1) (a + 1) (0 : Int32).toNatClampNeg (0 : Int32).toNatClampNeg (6 : Int32).toNatClampNeg) (b + 4) (a + 4) (0 : Int32).toNatClampNeg (0 : Int32).toNatClampNeg (8 : Int32).toNatClampNeg) ⟨⟨by simp (disch := omega) only [and_self, and_true, true_and, and_false, false_and, if_true, if_false, am_cI_at, am_cL_at, am_u_at, am_ul_at, am_mI_at, if_pos, if_neg, c0, c6, c8, c15, Nat.zero_add, Nat.sub_zero], by simp (disch := omega) only [and_self, and_true, true_and, and_false, false_and, if_true, if_false, am_cI_at, am_cL_at, am_u_at, am_ul_at, am_mI_at, if_pos, if_neg, c0, c6, c8, c15, Nat.zero_add, Nat.sub_zero], by simp (disch := omega) only [and_self, and_true, true_and, and_false, false_and, if_true, if_false, am_cI_at, am_cL_at, am_u_at, am_ul_at, am_mI_at, if_pos, if_neg, c0, c6, c8, c15, Nat.zero_add, Nat.sub_zero], by simp (disch := omega) only [and_self, and_true, true_and, and_false, false_and, if_true, if_false, am_cI_at, am_cL_at, am_u_at, am_ul_at, am_mI_at, if_pos, if_neg, c0, c6, c8, c15, Nat.zero_add, Nat.sub_zero]⟩, fun j hj => ⟨by simp (disch := omega) only [and_self, and_true, true_and, and_false, false_and, if_true, if_false, am_cI_at, am_cL_at, am_u_at, am_ul_at, am_mI_at, if_pos, if_neg, c0, c6, c8, c15, Nat.zero_add, Nat.sub_zero], by simp (disch := omega) only [and_self, and_true, true_and, and_false, false_and, if_true, if_false, am_cI_at, am_cL_at, am_u_at, am_ul_at, am_mI_at, if_pos, if_neg, c0, c6, c8, c15, Nat.zero_add, Nat.sub_zero], by simp (disch := omega) only [and_self, and_true, true_and, and_false, false_and, if_true, if_false, am_cI_at, am_cL_at, am_u_at, am_ul_at, am_mI_at, if_pos, if_neg, c0, c6, c8, c15, Nat.zero_add, Nat.sub_zero]⟩, fun j hj => ⟨by simp (disch := omega) only [and_self, and_true, true_and, and_false, false_and, if_true, if_false, am_cI_at, am_cL_at, am_u_at, am_ul_at, am_mI_at, if_pos, if_neg, c0, c6, c8, c15, Nat.zero_add, Nat.sub_zero], by simp (disch := omega) only [and_self, and_true, true_and, and_false, false_and, if_true, if_false, am_cI_at, am_cL_at, am_u_at, am_ul_at, am_mI_at, if_pos, if_neg, c0, c6, c8, c15, Nat.zero_add, Nat.sub_zero]⟩, fun g hg => absurd hg (by omega), fun c hc => funext fun j => by simp (disch := omega) only [and_self, and_true, true_and, and_false, false_and, if_true, if_false, am_cI_at, am_cL_at, am_u_at, am_ul_at, am_mI_at, if_pos, if_neg, c0, c6, c8, c15, Nat.zero_add, Nat.sub_zero], fun c hc => funext fun j => by simp (disch := omega) only [and_self, and_true, true_and, and_false, false_and, if_true, if_false, am_cI_at, am_cL_at, am_u_at, am_ul_at, am_mI_at, if_pos, if_neg, c0, c6, c8, c15, Nat.zero_add, Nat.sub_zero]⟩
    refine ⟨I', L', ?_, hP⟩
    refine bX5_copyFrom_0 (by assumption) (by assumption) (by assumption) (by assumption) (by assumption) (by assumption) (by decide) (by decide) (by assumption) (by assumption) (by assumption) (by assumption) (by decide) (by decide) (by assumption) (by assumption) (by assumption) (by assumption) (by decide) (by decide) (by assumption) (by assumption) (by assumption) (by assumption) (by decide) (by decide) (by assumption) (by assumption) (by assumption) (by assumption) (by decide) (by decide) ?_
    exact hW
  · intro I1 L1 ⟨h1, h2, h3, h5, h6, h7⟩
    obtain ⟨I2, hE, q, hf⟩ := eX6_copyFrom (d := d + 1) (I := I1) (L := L1) o7 o7' (by omega)
    refine ⟨I2, L1, ?_, ⟨?_, fun j hj => ?_, fun j hj => ?_, fun j hj => ?_, fun g hg => ?_⟩, h6.tr hf (by omega) (by omega), h7⟩
    · refine bX5_copyFrom_109 o' (fun _ => ?_) (fun h => absurd h (by rw [h6 b (by omega), hG]; simp))
      refine bX5_copyFrom_138 (by assumption) (by assumption) (by assumption) (by assumption) (by assumption) (Nat.zero_le _) (Nat.zero_le _) hE ?_
      refine bX5_copyFrom_149 ?_
      exact ⟨rfl, rfl, rfl⟩
    · rw [hf a (by omega)]; exact h1
    · rw [hf (a + 2) (by omega), hf (a + 3) (by omega)]; exact h2 j hj
    · rw [hf (a + 5) (by omega)]; exact h3 j hj
    · rw [q j hj, h6 (b + 7) (by omega)]
    · exact (h5 g hg).to (fun c c1 c2 => hf c (by unfold gc at c1; omega)) (fun c c1 c2 => rfl)
  · intro k hk ih I1 L1 ⟨h1, h2, h3, h5, h6, h7⟩
    obtain ⟨I2, L2, hE, q, hf, hfL⟩ := eX0_copyFrom (d := d) (I := I1) (L := L1) (hg k (by omega)).2 (hg' k (by omega)).2 (by unfold gc; omega)
    obtain ⟨I', L', hW, hP⟩ := ih I2 L2 ⟨by rw [hf a (by unfold gc; omega)]; exact h1, fun j hj => by rw [hf (a + 2) (by unfold gc; omega), hf (a + 3) (by unfold gc; omega), hfL (a + 1) (by unfold gc; omega)]; exact h2 j hj, fun j hj => by rw [hf (a + 5) (by unfold gc; omega), hfL (a + 4) (by unfold gc; omega)]; exact h3 j hj, fun g hg => by
      by_cases hgk : g < k
      · exact (h5 g hgk).to (fun c c1 c2 => hf c (by unfold gc at c1 c2 ⊢; omega)) (fun c c1 c2 => hfL c (by unfold gc at c1 c2 ⊢; omega))
      · obtain rfl : g = k := by omega
        exact q.of (fun c c1 c2 => h6 c (by unfold gc at c1 c2; omega)) (fun c c1 c2 => h7 c (by unfold gc at c1 c2; omega)), h6.tr hf (by omega) (by unfold gc; omega), h7.tr hfL (by omega) (by unfold gc; omega)⟩
    refine ⟨I', L', ?_, hP⟩
    refine bX5_copyFrom_109 o' (fun h => absurd h (by rw [h6 b (by omega), hG, nn_le (by omega) (by omega)]; omega)) (fun _ => ?_)
    refine bX5_copyFrom_117 o r9 a6 (nn_in (by omega) (by omega)) (by rw [nn_nat (by omega)]; exact (hg k (by omega)).1) o' r9' a6' (nn_in (by omega) (by omega)) (by rw [nn_nat (by omega)]; exact (hg' k (by omega)).1) (hg k (by omega)).2.1 (Nat.zero_le _) (Nat.zero_le _) hE ?_
    refine bX5_copyFrom_132 ?_
    rw [nl_1, nn_add]
    exact hW
theorem eX5_empty (hb : stF Γ b) : ∃ I', am_E m_X5_empty (d + 1) 0 0 [.ref b] Γ I L (.inl none) I' L ∧ (∀ j, j < 4 → I' b j = 0) ∧ (∀ j, j < 8 → I' (b + 7) j = 0) ∧ (∀ c, c ≠ b ∧ c ≠ b + 7 → I' c = I c) := by
  obtain ⟨o, r4, r5, r6, r7, r8, r9, r10, a1, a2, a3, a4, a5, a6, o7, hg⟩ := id hb
  refine am_ofX1 rfl rfl rfl (Nat.le_of_ble_eq_true rfl) ?_
  obtain ⟨I2, hE, q, hf⟩ := eX6_reset (d := d) (I := am_u (am_u (am_u (am_u I b 0 0) b 1 0) b 2 0) b 3 0) (L := L) o7
  refine ⟨I2, ?_, fun j hj => ?_, q, fun c hc => ?_⟩
  · refine bX5_empty_0 (by assumption) (by assumption) (by assumption) (Nat.zero_le _) (Nat.zero_le _) hE ?_
    refine bX5_empty_27 ?_
    exact ⟨rfl, rfl, rfl⟩
  · rw [hf b (by omega)]
    have : j = 0 ∨ j = 1 ∨ j = 2 ∨ j = 3 := by omega
    rcases this with h | h | h | h <;> subst h <;> simp (disch := omega) only [and_self, and_true, true_and, and_false, false_and, if_true, if_false, am_cI_at, am_cL_at, am_u_at, am_ul_at, am_mI_at, if_pos, if_neg, c0, c6, c8, c15, Nat.zero_add, Nat.sub_zero]
  · rw [hf c (by omega)]; funext j; simp (disch := omega) only [and_self, and_true, true_and, and_false, false_and, if_true, if_false, am_cI_at, am_cL_at, am_u_at, am_ul_at, am_mI_at, if_pos, if_neg, c0, c6, c8, c15, Nat.zero_add, Nat.sub_zero]
end C3
