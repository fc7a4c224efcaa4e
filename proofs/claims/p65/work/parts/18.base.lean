/-! LOOPS, SUMS, AND THE CELLS OF CLASS AND MODEL -/
theorem nl_0 : (0 : Int32) = nn 0 := rfl
theorem nl_1 : (1 : Int32) = nn 1 := rfl
theorem nl_2 : (2 : Int32) = nn 2 := rfl
theorem nl_3 : (3 : Int32) = nn 3 := rfl
theorem nl_4 : (4 : Int32) = nn 4 := rfl
theorem nl_5 : (5 : Int32) = nn 5 := rfl
theorem nl_6 : (6 : Int32) = nn 6 := rfl
theorem nl_7 : (7 : Int32) = nn 7 := rfl
theorem nl_8 : (8 : Int32) = nn 8 := rfl
theorem nl_9 : (9 : Int32) = nn 9 := rfl
theorem nl_10 : (10 : Int32) = nn 10 := rfl
theorem nl_12 : (12 : Int32) = nn 12 := rfl
theorem nl_15 : (15 : Int32) = nn 15 := rfl
theorem nl_18 : (18 : Int32) = nn 18 := rfl
theorem nl_19 : (19 : Int32) = nn 19 := rfl
theorem nl_20 : (20 : Int32) = nn 20 := rfl
theorem nl_22 : (22 : Int32) = nn 22 := rfl
theorem nl_24 : (24 : Int32) = nn 24 := rfl
theorem nl_30 : (30 : Int32) = nn 30 := rfl
theorem nl_31 : (31 : Int32) = nn 31 := rfl
theorem nl_48 : (48 : Int32) = nn 48 := rfl
theorem nl_60 : (60 : Int32) = nn 60 := rfl
theorem nl_94 : (94 : Int32) = nn 94 := rfl
theorem nl_97 : (97 : Int32) = nn 97 := rfl
theorem nl_100 : (100 : Int32) = nn 100 := rfl
theorem nl_122 : (122 : Int32) = nn 122 := rfl
theorem nl_132 : (132 : Int32) = nn 132 := rfl
theorem nl_255 : (255 : Int32) = nn 255 := rfl
theorem nl_508 : (508 : Int32) = nn 508 := rfl
theorem nl_699 : (699 : Int32) = nn 699 := rfl
theorem nl_700 : (700 : Int32) = nn 700 := rfl
theorem nl_999 : (999 : Int32) = nn 999 := rfl
theorem nl_9999 : (9999 : Int32) = nn 9999 := rfl
theorem nl_m1 : (-1 : Int32) = -1 := rfl
/-- a loop's rows, from its end backwards -/
theorem nn_loop (P : Nat → Prop) (N : Nat) (h0 : P N) (hs : ∀ k, k < N → P (k + 1) → P k) : P 0 := by
  have key : ∀ n k, k + n = N → P k := by
    intro n
    induction n with
    | zero => intro k hk; obtain rfl : k = N := by omega
              exact h0
    | succ n ih => intro k hk; exact hs k (by omega) (ih (k + 1) (by omega))
  exact key N 0 (by omega)
theorem nn_loopc (P : Nat → Prop) (N c : Nat) (hc : c ≤ N) (h0 : P N) (hs : ∀ k, k < N → P (k + 1) → P k) : P c := by
  have key : ∀ n k, k + n = N → P k := by
    intro n
    induction n with
    | zero => intro k hk; obtain rfl : k = N := by omega
              exact h0
    | succ n ih => intro k hk; exact hs k (by omega) (ih (k + 1) (by omega))
  exact key (N - c) c (by omega)
def fsum (f : Nat → Int32) : Nat → Int32
  | 0 => 0
  | n + 1 => fsum f n + f n
theorem fsum_congr {f g : Nat → Int32} : ∀ (n : Nat), (∀ k, k < n → f k = g k) → fsum f n = fsum g n
  | 0, _ => rfl
  | n + 1, h => by
    show fsum f n + f n = fsum g n + g n
    rw [fsum_congr n (fun k hk => h k (by omega)), h n (by omega)]
/-- the least place below n where p holds, or n -/
def ffs (p : Nat → Bool) : Nat → Nat
  | 0 => 0
  | n + 1 => if ffs p n < n then ffs p n else if p n then n else n + 1
theorem ffs_le (p : Nat → Bool) : ∀ n, ffs p n ≤ n
  | 0 => Nat.le_refl _
  | n + 1 => by
    have := ffs_le p n
    show (if ffs p n < n then ffs p n else if p n then n else n + 1) ≤ n + 1
    split
    · omega
    · split <;> omega
theorem ffs_none {p : Nat → Bool} : ∀ {n : Nat}, (∀ i, i < n → p i = false) → ffs p n = n
  | 0, _ => rfl
  | n + 1, h => by
    show (if ffs p n < n then ffs p n else if p n then n else n + 1) = n + 1
    rw [ffs_none (fun i hi => h i (by omega)), if_neg (Nat.lt_irrefl n), h n (by omega)]
    rfl
theorem ffs_eq {p : Nat → Bool} {k : Nat} (h0 : ∀ i, i < k → p i = false) (h1 : p k = true) : ∀ {n : Nat}, k < n → ffs p n = k
  | 0, h => absurd h (by omega)
  | n + 1, h => by
    show (if ffs p n < n then ffs p n else if p n then n else n + 1) = k
    by_cases hk : k < n
    · rw [ffs_eq h0 h1 hk, if_pos hk]
    · obtain rfl : k = n := by omega
      rw [ffs_none h0, if_neg (Nat.lt_irrefl k), h1]
      rfl
theorem ffs_sp (p : Nat → Bool) : ∀ n, (∀ i, i < ffs p n → p i = false) ∧ (ffs p n < n → p (ffs p n) = true)
  | 0 => ⟨fun i hi => absurd hi (by show ¬ i < 0; omega), fun h => absurd h (by show ¬ 0 < 0; omega)⟩
  | n + 1 => by
    have ih := ffs_sp p n
    have hle := ffs_le p n
    show (∀ i, i < (if ffs p n < n then ffs p n else if p n then n else n + 1) → p i = false) ∧ ((if ffs p n < n then ffs p n else if p n then n else n + 1) < n + 1 → p (if ffs p n < n then ffs p n else if p n then n else n + 1) = true)
    by_cases h : ffs p n < n
    · rw [if_pos h]
      exact ⟨ih.1, fun _ => ih.2 h⟩
    · rw [if_neg h]
      have e : ffs p n = n := by omega
      rw [e] at ih
      cases hp : p n
      · simp only [Bool.false_eq_true, if_false]
        refine ⟨fun i hi => ?_, fun z => absurd z (by omega)⟩
        by_cases hi2 : i < n
        · exact ih.1 i hi2
        · obtain rfl : i = n := by omega
          exact hp
      · simp only [if_true]
        exact ⟨ih.1, fun _ => hp⟩
theorem ffs_congr {p q : Nat → Bool} : ∀ (n : Nat), (∀ k, k < n → p k = q k) → ffs p n = ffs q n
  | 0, _ => rfl
  | n + 1, h => by
    show (if ffs p n < n then ffs p n else if p n then n else n + 1) = (if ffs q n < n then ffs q n else if q n then n else n + 1)
    rw [ffs_congr n (fun k hk => h k (by omega)), h n (by omega)]
/-- what stands at the first n places of the cell c replaced -/
def am_mI (I : am_I) (c : Nat) (f : Nat → Int32) (n : Nat) : am_I := fun a b => if a = c ∧ b < n then f b else I a b
theorem am_mI_0 (I : am_I) (c : Nat) (f : Nat → Int32) : am_mI I c f 0 = I := by
  funext a b
  exact if_neg (fun h => absurd h.2 (Nat.not_lt_zero b))
theorem am_mI_s {I : am_I} {c : Nat} {f : Nat → Int32} {n : Nat} {v : Int32} (h : v = f n) : am_u (am_mI I c f n) c n v = am_mI I c f (n + 1) := by
  funext a b
  rw [am_u_at]
  unfold am_mI
  by_cases ha : a = c
  · subst ha
    by_cases hb : b = n
    · subst hb
      rw [if_pos ⟨rfl, rfl⟩, if_pos ⟨rfl, by omega⟩, h]
    · rw [if_neg (fun z => hb z.2)]
      by_cases hb2 : b < n
      · rw [if_pos ⟨rfl, hb2⟩, if_pos ⟨rfl, by omega⟩]
      · rw [if_neg (fun z => hb2 z.2), if_neg (fun z => by have := z.2; omega)]
  · rw [if_neg (fun z => ha z.1), if_neg (fun z => ha z.1), if_neg (fun z => ha z.1)]
theorem am_mI_at {I : am_I} {c : Nat} {f : Nat → Int32} {n : Nat} (a b : Nat) : am_mI I c f n a b = if a = c ∧ b < n then f b else I a b := rfl
section EQ
variable {mi : am_M} {d mc ms : Nat} {al : Bool} {bc bs pc : Nat} {ls ls' : List (Nat × Value)} {st st' : List Value} {Γ : am_G} {I I' : am_I} {L L' : am_L} {Q : am_Q}
theorem aw_eq (h : am_W mi d mc ms al bc bs pc ls' st' Γ I' L' Q) (e1 : ls = ls') (e2 : st = st') (e3 : I = I') (e4 : L = L') : am_W mi d mc ms al bc bs pc ls st Γ I L Q := by
  subst e1 e2 e3 e4
  exact h
theorem aw_els (h : am_W mi d mc ms al bc bs pc ls' st Γ I L Q) (e1 : ls = ls') : am_W mi d mc ms al bc bs pc ls st Γ I L Q := by
  subst e1
  exact h
end EQ
theorem am_R_e {Γ : am_G} {I I' : am_I} {L L' : am_L} {v w : Int32} (h : v = w) (h2 : I = I') (h3 : L = L') : am_R (.inl (some (.int w))) I' L' (.inl (some (.int v))) Γ I L := by
  subst h h2 h3
  exact ⟨rfl, rfl, rfl⟩
theorem am_R_v {Γ : am_G} {I I' : am_I} {L L' : am_L} (h2 : I = I') (h3 : L = L') : am_R (.inl none) I' L' (.inl none) Γ I L := by
  subst h2 h3
  exact ⟨rfl, rfl, rfl⟩
theorem am_E_e {mi : am_M} {d mc ms : Nat} {args : List Value} {Γ : am_G} {I : am_I} {L : am_L} {I' I'' : am_I} {L' : am_L} {v w : Int32} (h : am_E mi d mc ms args Γ I L (.inl (some (.int v))) I' L') (e : v = w) (e2 : I' = I'') : am_E mi d mc ms args Γ I L (.inl (some (.int w))) I'' L' := by
  subst e e2
  exact h
def bi (b : Bool) : Int32 := if b then 1 else 0
theorem bi_z {b : Bool} : bi b = 0 ↔ b = false := by cases b <;> decide
theorem bi_nz {b : Bool} : ¬ bi b = 0 ↔ b = true := by cases b <;> decide
theorem bi_hz (b : Bool) : narrow .boolean (.int (bi b)) = .int (bi b) := by cases b <;> rfl
theorem nn_vp {k n : Nat} (hk : k < n) (hn : n < 2147483649) : vp_in (nn k) n := nn_in (by omega) hk
/-! THE CELLS OF THE CLASS -/
def trF (Γ : am_G) (t : Nat) : Prop := am_ob Γ t 7 ∧ Γ.2.2 t 1 = some (t + 1) ∧ Γ.2.2 t 2 = some (t + 2) ∧ Γ.2.2 t 3 = some (t + 3) ∧ Γ.2.2 t 4 = some (t + 4) ∧ am_ar Γ (t + 1) 1 15 0 ∧ am_ar Γ (t + 2) 1 15 0 ∧ am_ar Γ (t + 3) 1 15 0 ∧ am_ar Γ (t + 4) 1 15 0
def gaF (Γ : am_G) (g : Nat) : Prop := am_ob Γ g 0 ∧ Γ.2.2 g 4 = some (g + 1) ∧ Γ.2.2 g 5 = some (g + 2) ∧ am_ar Γ (g + 1) 1 8 0 ∧ trF Γ (g + 2)
/-- the cell of gate g of the station at b -/
def gc (b g : Nat) : Nat := b + (8 + 7 * g)
def stF (Γ : am_G) (b : Nat) : Prop := am_ob Γ b 5 ∧ Γ.2.2 b 4 = some (b + 1) ∧ Γ.2.2 b 5 = some (b + 2) ∧ Γ.2.2 b 6 = some (b + 3) ∧ Γ.2.2 b 7 = some (b + 4) ∧ Γ.2.2 b 8 = some (b + 5) ∧ Γ.2.2 b 9 = some (b + 6) ∧ Γ.2.2 b 10 = some (b + 7) ∧
  am_ar Γ (b + 1) 4 6 0 ∧ am_ar Γ (b + 2) 1 6 0 ∧ am_ar Γ (b + 3) 1 6 0 ∧ am_ar Γ (b + 4) 4 8 0 ∧ am_ar Γ (b + 5) 1 8 0 ∧ am_ar Γ (b + 6) 6 4 0 ∧ am_ob Γ (b + 7) 6 ∧
  ∀ g, g < 4 → Γ.2.2 (b + 6) g = some (gc b g) ∧ gaF Γ (gc b g)
/-- the solver's cells, from k on -/
def soF (Γ : am_G) (k : Nat) : Prop := am_ob Γ k 4 ∧ Γ.2.2 k 0 = some (k + 1) ∧ Γ.2.2 k 1 = some (k + 2) ∧ Γ.2.2 k 2 = some (k + 3) ∧ Γ.2.2 k 3 = some (k + 4) ∧ Γ.2.2 k 4 = some (k + 5) ∧ Γ.2.2 k 5 = some (k + 6) ∧ Γ.2.2 k 6 = some (k + 7) ∧
  am_ar Γ (k + 1) 4 7936 0 ∧ am_ar Γ (k + 2) 1 256 0 ∧ am_ar Γ (k + 3) 1 256 0 ∧ am_ar Γ (k + 4) 1 8 0 ∧ am_ar Γ (k + 5) 1 15 0 ∧ am_ar Γ (k + 6) 1 15 0 ∧ am_ar Γ (k + 7) 1 15 0
/-- the model's cells -/
def mdF (Γ : am_G) (m : Nat) : Prop := am_ob Γ m 9 ∧ Γ.2.2 m 0 = some (m + 1) ∧ Γ.2.2 m 1 = some (m + 2) ∧ Γ.2.2 m 2 = some (m + 3) ∧ Γ.2.2 m 3 = some (m + 4) ∧ Γ.2.2 m 4 = some (m + 5) ∧ Γ.2.2 m 7 = some (m + 6) ∧ Γ.2.2 m 8 = some (m + 7) ∧ Γ.2.2 m 13 = some (m + 8) ∧ Γ.2.2 m 14 = some (m + 9) ∧ Γ.2.2 m 15 = some (m + 10) ∧ Γ.2.2 m 16 = some (m + 11) ∧ Γ.2.2 m 17 = some (m + 12) ∧
  am_ar Γ (m + 1) 1 508 0 ∧ am_ar Γ (m + 2) 1 4064 0 ∧ am_ar Γ (m + 3) 1 1016 0 ∧ am_ar Γ (m + 4) 1 508 0 ∧ am_ar Γ (m + 5) 3 2 0 ∧ am_ar Γ (m + 6) 1 700 0 ∧ am_ar Γ (m + 7) 1 300 0 ∧ am_ar Γ (m + 8) 1 7936 0 ∧ am_ar Γ (m + 9) 1 7936 0 ∧ am_ar Γ (m + 10) 1 7936 0 ∧ am_ar Γ (m + 11) 1 256 0 ∧ am_ar Γ (m + 12) 1 6 0
