/-! THE LAW: builds -/
section TB
variable {d : Nat} {Γ : am_G} {I : am_I} {L : am_L} {w : Nat → Int32} {h : Nat → Nat → Int32} {s : Nat}
theorem eL_builds (hF : wF Γ) (R : CS I L w h s) {g : Nat} (hg : g < vG w) : ∃ I' L', am_E m_L_builds (d + 22) 0 0 [.ref 0, .int (nn g)] Γ I L (.inl (some (.int 1))) I' L' ∧ ∃ w', bldR w g w' ∧ CS I' L' w' (hpu h s w) (spu s) := by
  have ox := hF.1.1
  obtain ⟨lm1, lm2⟩ := (R.1.1.2.2.2.2.2.2 g hg).2.2.1
  refine aG.E rfl rfl rfl (Nat.le_of_ble_eq_true rfl) ?_
  refine aG.go ?_ (fun _ _ k => bL_builds_0 (Nat.zero_le _) (Nat.zero_le _) (am_E_e (hL_costLimit ox (qX_costLimit (d := d) hF R hg)) lm1 rfl) k)
  obtain ⟨I1, L1, E1, R1, -⟩ := sL_bestErrors (d := d) hF R hg lm2
  refine aG.go ?_ (fun _ _ k => bL_builds_5 (Nat.zero_le _) (Nat.zero_le _) E1 k)
  obtain ⟨I2, L2, E2, R2, -⟩ := sL_bestWork (d := d) hF R1 hg lm2
  refine aG.go ?_ (fun _ _ k => bL_builds_12 (Nat.zero_le _) (Nat.zero_le _) E2 k)
  obtain ⟨I3, L3, E3, R3, -⟩ := sL_bestRootQuestion (d := d) hF R2 hg lm2
  refine aG.go ?_ (fun _ _ k => bL_builds_19 (Nat.zero_le _) (Nat.zero_le _) E3 k)
  obtain ⟨I4, L4, w', E4, hb, R4, -⟩ := qX_buildTree (d := d) hF R3 hg
  obtain ⟨ag, eG⟩ := bld_agr R.1 hg hb
  have hg' : g < vG w' := by rw [eG]; exact hg
  obtain ⟨bst, erk⟩ := bld_bst R.1 hg hb
  obtain ⟨f1, f2, f3, f4⟩ := bst_facts R4.1 hg' bst
  rw [erk] at f1 f2 f3
  rw [ag.2.2.1] at f4
  obtain ⟨-, ⟨w0', w1', w2'⟩, q6, t8, g4, q0, t0, g0⟩ := R4.nums
  obtain ⟨ew, e0, e15, -⟩ := R4.1.1.tr hg'
  refine aG.go ?_ (fun _ _ k => bL_builds_27 (Nat.zero_le _) (Nat.zero_le _) (hL_buildTree ox E4) k)
  refine aG.go ?_ (fun _ _ k => bL_builds_34 (Nat.zero_le _) (Nat.zero_le _) (am_E_e (hL_nodeCount ox (qX_nodeCount (d := d) hF R4 hg')) ew rfl) k)
  refine aG.go ?_ (fun _ _ k => bL_builds_39 (fun z => absurd rfl z) (fun _ => k))
  refine aG.go ?_ (fun _ _ k => bL_builds_42 (Nat.zero_le _) (Nat.zero_le _) (am_E_e (hL_errors ox (qX_errors (d := d) hF R4 hg')) f1 rfl) k)
  refine aG.go ?_ (fun _ _ k => bL_builds_47 (fun z => absurd rfl z) (fun _ => k))
  refine aG.go ?_ (fun _ _ k => bL_builds_51 (Nat.zero_le _) (Nat.zero_le _) (am_E_e (hL_work ox (qX_work (d := d) hF R4 hg')) f2 rfl) k)
  refine aG.go ?_ (fun _ _ k => bL_builds_56 (fun z => absurd rfl z) (fun _ => k))
  refine aG.go ?_ (fun _ _ k => bL_builds_61 (Nat.zero_le _) (Nat.zero_le _) (am_E_e (hL_nodeQuestion ox (qX_nodeQuestion (d := d) (n := 0) hF R4 hg' e0)) f3 rfl) k)
  refine aG.go ?_ (fun _ _ k => bL_builds_67 (fun _ => k) (fun z => absurd rfl z))
  refine aG.go ?_ (fun _ _ k => bL_builds_74 k)
  have loop := nn_loop (fun t => aG m_L_builds (d + 22) 0 0 0 0 77 [(0, .ref 0), (1, .int (nn g)), (2, .int (nn (lmW w g))), (3, .int (nn (rkW w g (-1) (lmW w g) / 33554432))), (4, .int (nn (rkW w g (-1) (lmW w g) / 8 % 4194304))), (5, .int (nn (rkW w g (-1) (lmW w g) % 8) - 1)), (6, .int (nn t))] [] Γ I4 L4 (.inl (some (.int 1))) (fun I' L' => ∃ w', bldR w g w' ∧ CS I' L' w' (hpu h s w) (spu s))) (vT w') ?_ (fun t ht ih => ?_)
  · exact loop
  · refine aG.go ?_ (fun _ _ k => bL_builds_77 ox (Nat.zero_le _) (Nat.zero_le _) (am_E_e (qX_typeCount (d := d + 1) hF R4) w1' rfl) k)
    refine aG.go ?_ (fun _ _ k => bL_builds_83 (fun _ => k) (fun z => absurd (by rw [nn_le (by omega) (by omega)]; exact Nat.le_refl _) z))
    obtain ⟨I5, L5, E5, f5⟩ := qX_stalestGate (d := d + 1) hF R4
    refine aG.go ?_ (fun _ _ k => bL_builds_105 ox (Nat.zero_le _) (Nat.zero_le _) E5 k)
    have ne : ¬ (stl (stA w') (stB w') (vG w')).1 = nn g := by
      intro z
      rcases (stl_sp (stA w') (stB w') (vG w')).2 with y | ⟨g1, y1, y2, y3⟩
      · rw [y] at z
        exact nn_none (by omega) z.symm
      · rw [y2, nn_eq (by omega) (by omega)] at z
        subst z
        exact y3 (bst_st R4.1 hg' bst)
    refine aG.go ?_ (fun _ _ k => bL_builds_109 (fun z => absurd z ne) (fun _ => k))
    refine aG.go ?_ (fun _ _ k => bL_builds_113 k)
    exact aG.fin (bL_builds_118 rfl ⟨rfl, rfl, rfl⟩) ⟨w', hb, R4.sol f5⟩
  · obtain ⟨c, c1, c2⟩ := f4 t ht
    refine aG.go ?_ (fun _ _ k => bL_builds_77 ox (Nat.zero_le _) (Nat.zero_le _) (am_E_e (qX_typeCount (d := d + 1) hF R4) w1' rfl) k)
    refine aG.go ?_ (fun _ _ k => bL_builds_83 (fun z => absurd z (by rw [nn_le (by omega) (by omega)]; omega)) (fun _ => k))
    refine aG.go ?_ (fun _ _ k => bL_builds_86 (Nat.zero_le _) (Nat.zero_le _) (am_E_e (hL_pathCost ox (qX_pathCost (d := d) hF R4 hg' ht)) c1 rfl) k)
    refine aG.go ?_ (fun _ _ k => bL_builds_93 (fun _ => k) (fun z => absurd (by rw [nn_le (by omega) (by omega)]; exact c2) z))
    exact aG.go ih (fun _ _ k => bL_builds_99 (aw_els k (by rw [nn_s1])))
end TB
