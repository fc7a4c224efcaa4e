/-! CONTRACTS OF THE SOLVER: a tree is planted, whole -/
def yF (tq : Nat → Int32) (j : Nat) : Int32 := if tq j = -1 then -1 else nn (j + 1)
section C9
variable {d : Nat} {Γ : am_G} {I : am_I} {L : am_L} {b k x t Q T : Nat} {qc ys tl ct : Nat → Nat}
theorem eX4_plant_go (hk : soF Γ k) (hb : stF Γ b) (ht : trF Γ t) (hd : b + 36 ≤ k ∨ k + 8 ≤ b) (hdt : b + 8 ≤ t ∧ t + 5 ≤ b + 36) (hs : sda I b x Q T qc ys tl ct) (hxt : b ≤ x ∧ x + 1 < t) {nd : Nat → Nat} (hv : slv I L k Q T qc ys tl ct (fbq (-1)) nd) (P : am_I → Prop) :
    ∀ (f S l n w : Nat) (par : Int32) (I1 : am_I), S < f → 0 < S → S < 2 ^ T → l ≤ 30 → (nd S).testBit l = true → n + 2 * pcs T S ≤ 16 → w + pcs T S ≤ 15 → I1 k 7 = nn (w + 1) → I1 (k + 5) w = nn S → I1 (k + 6) w = nn l → I1 (k + 7) w = par → (par = -1 ∨ ∃ p, p < n ∧ par = nn p) → plF I I1 k t →
      (∀ (I2 : am_I) (e : Nat), n < e → e + 1 ≤ n + 2 * pcs T S → I2 k 7 = nn w → (∀ j, j < w → I2 (k + 5) j = I1 (k + 5) j ∧ I2 (k + 6) j = I1 (k + 6) j ∧ I2 (k + 7) j = I1 (k + 7) j) → (∀ j, j < n → I2 (t + 1) j = I1 (t + 1) j ∧ I2 (t + 2) j = I1 (t + 2) j ∧ I2 (t + 4) j = I1 (t + 4) j ∧ I2 (t + 3) j = if par = nn j then nn n else I1 (t + 3) j) →
        I2 t 0 = nn e → tvb Q T qc ys tl ct (fbq (-1)) (I2 (t + 1)) (I2 (t + 2)) (yF (I2 (t + 1))) (I2 (t + 3)) (I2 (t + 4)) f n S l e → plF I I2 k t → ∃ I', am_W m_X4_plant (d + 2) 0 0 false 0 0 44 [(0, .ref k), (1, .ref b), (2, .ref x), (3, .ref t), (4, .int (nn e))] [] Γ I2 L (am_R (.inl none) I' L) ∧ P I') →
      ∃ I', am_W m_X4_plant (d + 2) 0 0 false 0 0 44 [(0, .ref k), (1, .ref b), (2, .ref x), (3, .ref t), (4, .int (nn n))] [] Γ I1 L (am_R (.inl none) I' L) ∧ P I' := by
  obtain ⟨o, r0, r1, r2, r3, r4, r5, r6, a1, a2, a3, a4, a5, a6, a7⟩ := id hk
  obtain ⟨hQ, hT, hQ6, hT0, hT8, hq, htl⟩ := id hs
  obtain ⟨hcl, hrk, hw, hm⟩ := hv
  have p8 := two_le8 hT8
  intro f
  induction f with
  | zero => intro S l n w par I1 h; exact absurd h (Nat.not_lt_zero _)
  | succ f ih =>
    intro S l n w par I1 hf h0 hS hl hbt hnb hwb e7 e5 e6 ep hpar hF K
    have pp := pcs_pos h0 hS
    have fr1 : ∀ c, c ≠ k → c ≠ k + 5 → c ≠ k + 6 → c ≠ k + 7 → (c < t ∨ t + 5 ≤ c) → I1 c = I c := hF
    have hs1 : sda I1 b x Q T qc ys tl ct := hs.to (fr1 _ (by omega) (by omega) (by omega) (by omega) (by omega)) (fr1 _ (by omega) (by omega) (by omega) (by omega) (by omega)) (fr1 _ (by omega) (by omega) (by omega) (by omega) (by omega)) (fr1 _ (by omega) (by omega) (by omega) (by omega) (by omega)) (fr1 _ (by omega) (by omega) (by omega) (by omega) (by omega))
    have k3 : I1 (k + 3) = I (k + 3) := fr1 _ (by omega) (by omega) (by omega) (by omega) (by omega)
    have k4 : I1 (k + 4) = I (k + 4) := fr1 _ (by omega) (by omega) (by omega) (by omega) (by omega)
    obtain ⟨Ia, hE, hFa, hO, h0t, h4n, h3n, hst, hcase⟩ := eX4_plantNode (d := d) (L := L) hk hb ht hd hdt hs1 hxt h0 hS hl (show n < 15 by omega) hwb e7 e5 e6 ep hpar (hrk S h0 hS l hl hbt) (fun S' hS' => by rw [k3]; exact hw S' hS') (fun u hu => by rw [k4]; exact hm u hu)
    have stp : ∀ I', am_W m_X4_plant (d + 2) 0 0 false 0 0 44 [(0, .ref k), (1, .ref b), (2, .ref x), (3, .ref t), (4, .int (nn (n + 1)))] [] Γ Ia L (am_R (.inl none) I' L) → am_W m_X4_plant (d + 2) 0 0 false 0 0 44 [(0, .ref k), (1, .ref b), (2, .ref x), (3, .ref t), (4, .int (nn n))] [] Γ I1 L (am_R (.inl none) I' L) := by
      intro I' h
      refine bX4_plant_44 (fun h => absurd h (by rw [nl_15, nn_le (by omega) (by omega)]; omega)) (fun _ => ?_)
      refine bX4_plant_51 o (fun h => absurd h (by rw [e7, nl_0, nn_le (by omega) (by omega)]; omega)) (fun _ => ?_)
      refine bX4_plant_58 o (Nat.zero_le _) (Nat.zero_le _) hE ?_
      refine bX4_plant_66 ?_
      rw [nn_s1]
      exact h
    rcases hcase with ⟨hz, c1, c2, c7⟩ | ⟨q, hbq, hqQ, hok, hql, c1, c2, c7, w5, w6, w7, v5, v6, v7⟩
    · obtain ⟨I', hW, hP⟩ := K Ia (n + 1) (by omega) (by omega) c7 hst (fun j hj => hO j (by omega) (by omega)) h0t ⟨h4n, Or.inl ⟨hz, c1, c2, by unfold yF; rw [if_pos c1], h3n, rfl⟩⟩ (hF.tr hFa)
      exact ⟨I', stp I' hW, hP⟩
    · obtain ⟨l1, l2, n1, n2⟩ := oks_lt ys (fbq (-1)) hok
      have py := pcs_pos (T := T) (S := S &&& ys q) (by omega) (by omega)
      have pno := pcs_pos (T := T) (S := nots S (ys q)) (by omega) (by omega)
      have psp := pcs_split T S (ys q)
      obtain ⟨by1, bn1⟩ := hcl S h0 hS q hqQ hok (l - qc q) (by rw [Nat.sub_add_cancel hql]; exact hbt)
      obtain ⟨I', hW, hP⟩ := ih (S &&& ys q) (l - qc q) (n + 1) (w + 1) (-1) Ia (by omega) (by omega) (by omega) (by omega) by1 (by omega) (by omega) c7 v5 v6 v7 (Or.inl rfl) (hF.tr hFa) (fun I2 m hm1 hm2 g7 gst gO g0 gtv gF => by
        obtain ⟨gs5, gs6, gs7⟩ := gst w (by omega)
        refine ih (nots S (ys q)) (l - qc q) m w (nn n) I2 (by omega) (by omega) (by omega) (by omega) bn1 (by omega) (by omega) g7 (gs5.trans w5) (gs6.trans w6) (gs7.trans w7) (Or.inr ⟨n, by omega, rfl⟩) gF (fun I3 e he1 he2 k7 kst kO k0 ktv kF => ?_)
        have kOn := kO n (by omega)
        have gOn := gO n (by omega)
        have k3o : ∀ j, j < m → j ≠ n → I3 (t + 3) j = I2 (t + 3) j := fun j hj hjn => by
          rw [(kO j hj).2.2.2, if_neg (fun z => hjn ((nn_eq (by omega) (by omega)).mp z).symm)]
        have g3o : ∀ j, j < n + 1 → I2 (t + 3) j = Ia (t + 3) j := fun j hj => by
          rw [(gO j hj).2.2.2, if_neg (fun z => nn_none (k := j) (by omega) z.symm)]
        have e1n : I3 (t + 1) n = nn q := by rw [kOn.1, gOn.1, c1]
        refine K I3 e (by omega) (by omega) k7 (fun j hj => ?_) (fun j hj => ?_) k0 ⟨?_, Or.inr ⟨q, m, hbq, e1n, ?_, ?_, ?_, tvb_cong gtv (fun j j1 j2 => ?_), ktv⟩⟩ kF
        · obtain ⟨x1, x2, x3⟩ := kst j hj
          obtain ⟨y1, y2, y3⟩ := gst j (by omega)
          obtain ⟨z1, z2, z3⟩ := hst j hj
          exact ⟨x1.trans (y1.trans z1), x2.trans (y2.trans z2), x3.trans (y3.trans z3)⟩
        · obtain ⟨x1, x2, x3, -⟩ := kO j (by omega)
          obtain ⟨y1, y2, y3, -⟩ := gO j (by omega)
          obtain ⟨z1, z2, z3, z4⟩ := hO j (by omega) (by omega)
          exact ⟨x1.trans (y1.trans z1), x2.trans (y2.trans z2), x3.trans (y3.trans z3), by rw [k3o j (by omega) (by omega), g3o j (by omega), z4]⟩
        · rw [kOn.2.2.1, gOn.2.2.1, h4n]
        · rw [kOn.2.1, gOn.2.1, c2]
        · unfold yF; rw [if_neg (by rw [e1n]; exact nn_none (by omega))]
        · rw [kOn.2.2.2, if_pos rfl]
        · obtain ⟨x1, x2, x3, -⟩ := kO j j2
          exact ⟨x1, x2, by unfold yF; rw [x1], k3o j j2 (by omega), x3⟩)
      exact ⟨I', stp I' hW, hP⟩
theorem eX4_plant {g lim : Nat} (hk : soF Γ k) (hb : stF Γ b) (hg4 : g < 4) (hd : b + 36 ≤ k ∨ k + 8 ≤ b) (hs : sda I b (gc b g) Q T qc ys tl ct) (hx : I (gc b g) 3 = nn lim) (hl : lim ≤ 30) :
    ∃ I' L', am_E m_X4_plant (d + 2) 0 0 [.ref k, .ref b, .ref (gc b g)] Γ I L (.inl none) I' L' ∧ (∃ e, 0 < e ∧ e ≤ 15 ∧ I' (gc b g + 2) 0 = nn e ∧ tvb Q T qc ys tl ct (fbq (-1)) (I' (gc b g + 2 + 1)) (I' (gc b g + 2 + 2)) (yF (I' (gc b g + 2 + 1))) (I' (gc b g + 2 + 3)) (I' (gc b g + 2 + 4)) 256 0 (2 ^ T - 1) lim e) ∧
      (∀ c, (c < k ∨ k + 8 ≤ c) → (c < gc b g + 2 ∨ gc b g + 7 ≤ c) → I' c = I c) ∧ ∀ c, c ≠ k + 1 → L' c = L c := by
  obtain ⟨o, r0, r1, r2, r3, r4, r5, r6, a1, a2, a3, a4, a5, a6, a7⟩ := id hk
  obtain ⟨ob, s4, s5, s6, s7, s8, s9, s10, b1, b2, b3, b4, b5, b6, o7, hg⟩ := id hb
  obtain ⟨hQ, hT, hQ6, hT0, hT8, hq, htl⟩ := id hs
  obtain ⟨hg1, hgg⟩ := hg g hg4
  obtain ⟨og, g4, g5, gr, tr⟩ := id hgg
  have gE : gc b g = b + (8 + 7 * g) := rfl
  have p8 := two_le8 hT8
  have p2 : 2 ^ 1 ≤ 2 ^ T := Nat.pow_le_pow_right (n := 2) (by decide) hT0
  have p30 : 2 ^ lim ≤ 1073741824 := Nat.pow_le_pow_right (n := 2) (by decide) hl
  obtain ⟨Is, Ls, hE, ⟨nd, hnd, hv⟩, fS, fL⟩ := eX4_solve (d := d) (L := L) hk hb hgg hd (by omega) hs (-1) (lims := 2 ^ lim) (by omega)
  have hsS : sda Is b (gc b g) Q T qc ys tl ct := hs.to (fS _ (by omega) (by omega) (by omega)) (fS _ (by omega) (by omega) (by omega)) (fS _ (by omega) (by omega) (by omega)) (fS _ (by omega) (by omega) (by omega)) (fS _ (by omega) (by omega) (by omega))
  have xS : Is (gc b g) 3 = nn lim := by rw [fS _ (by omega) (by omega) (by omega)]; exact hx
  have pall := pcs_le T (2 ^ T - 1)
  have J0 : ∀ c, c ≠ k → c ≠ gc b g + 2 → am_u (am_u Is (gc b g + 2) 0 0) k 7 0 c = Is c := fun c h1 h2 => by rw [am_u_ne h1, am_u_ne h2]
  have Ew := eX4_await (d := d + 1) (L := Ls) (I := am_u (am_u Is (gc b g + 2) 0 0) k 7 0) hk (w := 0) (by decide) (by rw [am_u_at, if_pos ⟨rfl, rfl⟩]; rfl) (nn (2 ^ T - 1)) (nn lim) (-1)
  obtain ⟨I', hW, e, h0e, h15, hsz, htv, hpl⟩ := eX4_plant_go (d := d) hk hb tr hd (by omega) hsS (by omega) hv (fun I' => ∃ e, 0 < e ∧ e ≤ 15 ∧ I' (gc b g + 2) 0 = nn e ∧ tvb Q T qc ys tl ct (fbq (-1)) (I' (gc b g + 2 + 1)) (I' (gc b g + 2 + 2)) (yF (I' (gc b g + 2 + 1))) (I' (gc b g + 2 + 3)) (I' (gc b g + 2 + 4)) 256 0 (2 ^ T - 1) lim e ∧ plF Is I' k (gc b g + 2))
    256 (2 ^ T - 1) lim 0 0 (-1) (am_u (am_u (am_u (am_u (am_u (am_u Is (gc b g + 2) 0 0) k 7 0) (k + 5) 0 (nn (2 ^ T - 1))) (k + 6) 0 (nn lim)) (k + 7) 0 (-1)) k 7 (nn (0 + 1))) (by omega) (by omega) (by omega) hl (hnd lim (Nat.testBit_two_pow_self (n := lim))) (by omega) (by omega) (by rw [am_u_at, if_pos ⟨rfl, rfl⟩])
    (by rw [am_u_ne (by omega), am_u_ne (by omega), am_u_ne (by omega), am_u_at, if_pos ⟨rfl, rfl⟩]) (by rw [am_u_ne (by omega), am_u_ne (by omega), am_u_at, if_pos ⟨rfl, rfl⟩]) (by rw [am_u_ne (by omega), am_u_at, if_pos ⟨rfl, rfl⟩]) (Or.inl rfl)
    (fun c c1 c2 c3 c4 c5 => by rw [am_u_ne c1, am_u_ne c4, am_u_ne c3, am_u_ne c2, J0 c c1 (by omega)]) (fun I2 e h1 h2 h3 _ _ h4 h5 h6 => ⟨I2, by
      refine bX4_plant_44 (fun _ => ?_) (fun _ => ?_)
      · refine bX4_plant_72 ?_
        exact ⟨rfl, rfl, rfl⟩
      · refine bX4_plant_51 o (fun _ => ?_) (fun h => absurd h (by rw [h3]; decide))
        refine bX4_plant_72 ?_
        exact ⟨rfl, rfl, rfl⟩, e, h1, by omega, h4, h5, h6⟩)
  refine ⟨I', Ls, am_ofE rfl rfl rfl (Nat.le_of_ble_eq_true rfl) ?_, ⟨e, h0e, h15, hsz, htv⟩, fun c h1 h2 => ?_, fL⟩
  · refine bX4_plant_0 og o (Nat.zero_le _) (Nat.zero_le _) (by rw [hx, show (1 : Int32) <<< (nn lim &&& 31) = nn (2 ^ lim) from by rw [nl_1, nn_shl (by omega), Nat.one_mul]]; exact hE) ?_
    refine bX4_plant_13 og g5 tr.1 o ob (Nat.zero_le _) (Nat.zero_le _) (eX5_allTypes hb (by rw [J0 _ (by omega) (by omega)]; exact hsS.2.1) hT8) ?_
    refine bX4_plant_33 og o (Nat.zero_le _) (Nat.zero_le _) (by rw [J0 _ (by omega) (by omega), xS]; exact Ew) ?_
    refine bX4_plant_41 ?_
    exact hW
  · rw [hpl c (by omega) (by omega) (by omega) (by omega) (by omega), fS c (by omega) (by omega) (by omega)]
end C9
