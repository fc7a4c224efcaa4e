/-! WHAT A CALL DOESN'T KNOW STAYS AS IT STANDS -/
/-- below n the one, from n on the other -/
def pch {α : Type} (n : Nat) (f g : Nat → α) : Nat → α := fun j => if j < n then f j else g j
theorem pch_lt {α : Type} {n : Nat} {f g : Nat → α} {j : Nat} (h : j < n) : pch n f g j = f j := if_pos h
theorem pch_ge {α : Type} {n : Nat} {f g : Nat → α} {j : Nat} (h : ¬ j < n) : pch n f g j = g j := if_neg h
section FRM
variable {mi : am_M} {d d' mc ms : Nat} {al : Bool} {args : List Value} {Γ G : am_G} {I I' J : am_I} {L L' M : am_L} {Q : am_Q} {o : am_O}
theorem am_C.up (h : am_C mi d mc ms al args Γ I L Q) (hd : d ≤ d') : am_C mi d' mc ms al args Γ I L Q := fun l hl D A x =>
  MetFree.respec (h l hl D A x) (fun _ _ z => z) (by show d + 8 ≤ d' + 8; omega) (by show 60 * d + 400 ≤ 60 * d' + 400; omega) (Nat.le_refl _) (Nat.le_refl _)
theorem am_E.up (h : am_E mi d mc ms args Γ I L o I' L') (hd : d ≤ d') : am_E mi d' mc ms args Γ I L o I' L' := am_C.up h hd
theorem am_Sx.narrow {D : am_D} {A B : Nat → Prop} {s : State} (h : am_Sx D A s) (hAB : ∀ q, B q → A q) : am_Sx D B s := by
  obtain ⟨k1, k2, k3, k4, ⟨k5, k6⟩, k7, ⟨k0, k8, kf⟩, k9⟩ := h
  exact ⟨k1, k2.narrow hAB, k3.narrow hAB, k4, ⟨k5, k6⟩, k7, ⟨k0.narrow hAB, k8.narrow hAB, kf.imp (fun z => z.narrow hAB) (fun z => z.narrow hAB)⟩, k9.1, dgS.narrow k9.2 hAB⟩
/-- the addresses that the small world may write -/
def frA (A : Nat → Prop) (x : am_X) (n m : Nat) : Nat → Prop := fun q => A q ∧ ∀ k, n ≤ k → k < m → q ≠ x.1 k
theorem fr_in {D : am_D} {A : Nat → Prop} {x : am_X} {s : State} {k : Nat} (hB : am_B D A x Γ J M s s.heap) (h1 : k < Γ.1) (h0 : (Γ.2.1 k).1 ≠ 0) : x.1 k < s.heap.size := by
  have hv := hB.1 k _ (am_ws_at h1)
  unfold va_at at hv
  have e : ∃ a, am_ce x k (Γ.2.1 k) (J k) (M k) (Γ.2.2 k) = .inl a := by
    unfold am_ce
    split
    · rename_i z; exact absurd z h0
    all_goals exact ⟨_, rfl⟩
  obtain ⟨a, ha⟩ := e
  rw [ha] at hv
  exact (Array.getElem?_eq_some_iff.mp hv).1
/-- the small world's cells stand in the great one -/
theorem fr_small {D : am_D} {A : Nat → Prop} {x : am_X} {s : State} (hn : G.1 ≤ Γ.1) (hg : ∀ j, j < G.1 → Γ.2.1 j = G.2.1 j ∧ Γ.2.2 j = G.2.2 j) (hcl : am_cl G) (hJ : ∀ j, j < G.1 → J j = I j) (hM : ∀ j, j < G.1 → M j = L j) (hB : am_B D A x Γ J M s s.heap) : am_B D (frA A x G.1 Γ.1) x G I L s s.heap := by
  have e : ∀ k, k < G.1 → (am_ws x G I L)[k]? = (am_ws x Γ J M)[k]? := fun k hk => by
    rw [am_ws_at hk, am_ws_at (Nat.lt_of_lt_of_le hk hn), (hg k hk).1, (hg k hk).2, hJ k hk, hM k hk]
  have lt : ∀ k q, (am_ws x G I L)[k]? = some q → k < G.1 := fun k q hq => by
    by_cases hk : k < G.1
    · exact hk
    · rw [am_ws_out hk] at hq; cases hq
  refine ⟨fun k q hq => hB.1 k q (by rw [← e k (lt k q hq)]; exact hq), ⟨fun i j p q hp hq he => hB.2.1.1 i j p q (by rw [← e i (lt i p hp)]; exact hp) (by rw [← e j (lt j q hq)]; exact hq) he, fun k q hq => ⟨hB.2.1.2 k q (by rw [← e k (lt k q hq)]; exact hq), fun i i1 i2 he => ?_⟩⟩, fun k hk h0 => ?_, hcl⟩
  · have hk := lt k q hq
    have := hB.2.1.1 k i q _ (by rw [← e k hk]; exact hq) (am_ws_at i2) he
    omega
  · have h := hB.2.2.1 k (Nat.lt_of_lt_of_le hk hn) (by rw [(hg k hk).1]; exact h0)
    rw [(hg k hk).1] at h
    exact h
/-- .. and behind the call the great one stands again -/
theorem fr_big {D : am_D} {A : Nat → Prop} {x : am_X} {s t : State} (hn : G.1 ≤ Γ.1) (hg : ∀ j, j < G.1 → Γ.2.1 j = G.2.1 j ∧ Γ.2.2 j = G.2.2 j) (harr : ∀ k, G.1 ≤ k → k < Γ.1 → (Γ.2.1 k).1 ≠ 0) (hB : am_B D A x Γ J M s s.heap) (hB' : am_B D (frA A x G.1 Γ.1) x G I' L' t t.heap) (hF : va_F (frA A x G.1 Γ.1) s t) (hvm : s.vm.Alike t.vm) :
    am_B D A x Γ (pch G.1 I' J) (pch G.1 L' M) t t.heap := by
  have lt : ∀ k q, (am_ws x Γ (pch G.1 I' J) (pch G.1 L' M))[k]? = some q → k < Γ.1 := fun k q hq => by
    by_cases hk : k < Γ.1
    · exact hk
    · rw [am_ws_out hk] at hq; cases hq
  have e1 : ∀ k, k < G.1 → (am_ws x Γ (pch G.1 I' J) (pch G.1 L' M))[k]? = (am_ws x G I' L')[k]? := fun k hk => by
    rw [am_ws_at hk, am_ws_at (Nat.lt_of_lt_of_le hk hn), (hg k hk).1, (hg k hk).2, pch_lt hk, pch_lt hk]
  have e2 : ∀ k, ¬ k < G.1 → (am_ws x Γ (pch G.1 I' J) (pch G.1 L' M))[k]? = (am_ws x Γ J M)[k]? := fun k hk => by
    by_cases hm : k < Γ.1
    · rw [am_ws_at hm, am_ws_at hm, pch_ge hk, pch_ge hk]
    · rw [am_ws_out hm, am_ws_out hm]
  have ad : ∀ (k : Nat) (q : Nat × va_E), (am_ws x Γ (pch G.1 I' J) (pch G.1 L' M))[k]? = some q → ∃ q0 : Nat × va_E, (am_ws x Γ J M)[k]? = some q0 ∧ q0.1 = q.1 := fun k q hq => by
    have hk := lt k q hq
    rw [am_ws_at hk] at hq
    cases hq
    exact ⟨_, am_ws_at hk, rfl⟩
  refine ⟨fun k q hq => ?_, ⟨fun i j p q hp hq he => ?_, fun k q hq => ?_⟩, hB.2.2.moved hvm⟩
  · by_cases hk : k < G.1
    · exact hB'.1 k q (by rw [← e1 k hk]; exact hq)
    · have hm := lt k q hq
      rw [e2 k hk] at hq
      have hq' := hq
      rw [am_ws_at hm] at hq'
      cases hq'
      exact (hB.1 k _ hq).kept (hF.2 (x.1 k) (fr_in hB hm (harr k (by omega) hm)) (fun z => z.2 k (by omega) hm rfl))
  · obtain ⟨p0, a1, a2⟩ := ad i p hp
    obtain ⟨q0, b1, b2⟩ := ad j q hq
    exact hB.2.1.1 i j p0 q0 a1 b1 ((a2.trans he).trans b2.symm)
  · obtain ⟨q0, b1, b2⟩ := ad k q hq
    rw [← b2]
    exact hB.2.1.2 k q0 b1
/-- THE RULE: a contract of the small world holds in the great one, whose other cells (arrays all) stay -/
theorem am_E.frame (h : am_E mi d mc ms args G I L o I' L') (hn : G.1 ≤ Γ.1) (hg : ∀ j, j < G.1 → Γ.2.1 j = G.2.1 j ∧ Γ.2.2 j = G.2.2 j) (hcl : am_cl G) (harr : ∀ k, G.1 ≤ k → k < Γ.1 → (Γ.2.1 k).1 ≠ 0) (hJ : ∀ j, j < G.1 → J j = I j) (hM : ∀ j, j < G.1 → M j = L j) :
    am_E mi d mc ms args Γ J M o (pch G.1 I' J) (pch G.1 L' M) := by
  intro l hl D A x p e ha hcs hk s m av below hfr happ hP hK
  obtain ⟨hv, hA, hSx, hB⟩ := hP
  obtain ⟨N, oc, w1, w2, w3, hQ⟩ := h l hl D (frA A x G.1 Γ.1) x p e ha hcs hk s m av below hfr happ ⟨hv, fun q hq => ⟨hA q hq, fun k k1 k2 he => absurd (fr_in hB k2 (harr k k1 k2)) (by omega)⟩, hSx.narrow (fun q hq => hq.1), fr_small hn hg hcl hJ hM hB⟩ hK
  refine ⟨N, oc, w1, w2, w3, ?_⟩
  rcases hQ with ⟨⟨⟨v, Γ2, I2, L2, x2, q1, ⟨q2, rfl, rfl⟩, ⟨rfl, rfl⟩, q4⟩, hF⟩, L9, hFE, hfree⟩ | ⟨q, q1, E, ce, L9, ⟨⟨Γ2, I2, L2, x2, ⟨q2, rfl, rfl⟩, ⟨rfl, rfl⟩, q4⟩, hF⟩, t1, t2, t3, t4, t5, hfree⟩
  · exact Or.inl ⟨⟨⟨v, Γ, _, _, x2, q1, ⟨q2, rfl, rfl⟩, am_agr.rf, fr_big hn hg harr hB q4 hF hFE.2.1.alike⟩, hF.1, fun q a b => hF.2 q a (fun z => b z.1)⟩, L9, hFE, fun q hq => (hfree q hq).1⟩
  · exact Or.inr ⟨q, q1, E, ce, L9, ⟨⟨Γ, _, _, x2, ⟨q2, rfl, rfl⟩, am_agr.rf, fr_big hn hg harr hB q4 hF t4.alike⟩, hF.1, fun q a b => hF.2 q a (fun z => b z.1)⟩, t1, t2, t3, t4, t5, fun q hq => (hfree q hq).1⟩
/-- the cells are closed under references -/
theorem aw_cl {bc bs pc : Nat} {ls : List (Nat × Value)} {st : List Value} (kk : am_cl Γ → am_W mi d mc ms al bc bs pc ls st Γ I L Q) : am_W mi d mc ms al bc bs pc ls st Γ I L Q := by
  intro p l e s m args below meth c D A Γ0 x0 S x H locs cells slots la h1 h2 h3 h4 h5 h6
  exact kk h2.2.2.2 p l e s m args below meth c D A Γ0 x0 S x H locs cells slots la h1 h2 h3 h4 h5 h6
/-- locals forgotten -/
theorem aw_ls {bc bs pc : Nat} {ls ls' : List (Nat × Value)} {st : List Value} (hs : ∀ q ∈ ls', q ∈ ls) (kk : am_W mi d mc ms al bc bs pc ls' st Γ I L Q) : am_W mi d mc ms al bc bs pc ls st Γ I L Q := by
  intro p l e s m args below meth c D A Γ0 x0 S x H locs cells slots la h1 h2 h3 h4 h5 h6
  refine kk p l e s m args below meth c D A Γ0 x0 S x H locs cells slots la h1 h2 h3 h4 h5 (am_sub h6 (fun q hq => ?_))
  obtain ⟨z, z1, rfl⟩ := List.mem_map.mp hq
  exact am_lc_mem (hs z z1)
end FRM
