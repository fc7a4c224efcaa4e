/-! THE LAW, from its first instruction to its end -/
def g0 : am_G := (0, fun _ => (0, 0, 0), fun _ _ => none)
section V0
variable {p : Program} {l : Launch} {e : Env} {s : State} {m : MethodId} {args : Array Value} {below : List Frame} {meth : Method} {c : Code} {D : am_D} {A : Nat → Prop}
variable {mi : am_M} {d mc ms bc bs pc : Nat} {ls : List (Nat × Value)} {st : List Value} {Γ : am_G} {I : am_I} {L : am_L} {Q : am_Q} {x0 : am_X}
theorem av_of (S : am_St mi p l s m args meth c D A) (h : am_W mi d mc ms true bc bs pc ls st Γ I L Q) : am_V p l e s m args below meth c D A (vx_MQ below (am_Qc D A true g0 x0 Q) (am_XC D A true g0 x0 Q) args s mc ms A) mi d mc ms bc bs pc ls st Γ I L :=
  fun x H locs cells slots la h2 h3 h4 h5 h6 => h p l e s m args below meth c D A g0 x0 S x H locs cells slots la ⟨Nat.zero_le _, fun k hk => absurd hk (Nat.not_lt_zero k)⟩ h2 h3 h4 h5 h6
theorem V_0 {n : Nat} {xs : Nat → Int32} (S : am_St (m_W n xs) p l s m args meth c D A) (hn : n < 2147483648) (fin : ∀ Γ I L, Q (.inl (some (.int 1))) Γ I L) : am_V p l e s m args below meth c D A (vx_MQ below (am_Qc D A true g0 x0 Q) (am_XC D A true g0 x0 Q) args s mc ms A) (m_W n xs) 290 mc ms (400 + 449 + 1 + 1) (220000 + 13825 + 8 + 1) 0 [(0, .retAddr 60)] [] g0 (fun _ _ => 0) (fun _ _ => 0) := by
  refine av_iconst S (v := 0) dL_law_0 (by decide) ?_
  refine av_istore_n S (ls' := [(0, .retAddr 60), (1, .int 0)]) dL_law_1 (Nat.le_of_ble_eq_true rfl) rfl ?_
  refine av_iload_n S dL_law_2 rfl ?_
  refine av_aload_nT S dL_law_3 rfl ?_
  refine av_slen S rfl dL_law_4 (v := nn n) rfl ?_
  refine av_icmp_ge S dL_law_5 rfl (fun _ => av_of S (law_end fin)) (fun z => ?_)
  have h0 : 0 < n := by
    rcases Nat.eq_zero_or_pos n with h | h
    · subst h
      exact absurd (Int32.le_refl _) z
    · exact h
  refine av_iload_n S dL_law_8 rfl ?_
  refine av_iconst S (v := 1) dL_law_9 (by decide) ?_
  refine av_icmp_ge S dL_law_10 rfl (fun z => absurd z (by decide)) (fun _ => ?_)
  refine av_iconst S (v := 1) dL_law_13 (by decide) ?_
  refine av_newI S (n := 1) dL_law_14 ac_int (by decide) (by decide) (by decide) (okl_c trivial (okl_c trivial okl_nil)) oks_nil ?_
  refine av_dup S dL_law_16 rfl ?_
  refine av_iconst S (v := 0) dL_law_17 (by decide) ?_
  refine av_aload_nT S dL_law_18 rfl ?_
  refine av_iload_n S dL_law_19 rfl ?_
  refine av_sld S rfl dL_law_20 (nn_in (k := 0) (by decide) h0) ?_
  refine av_iast S dL_law_21 (ar_at 1 1 0) (nn_in (k := 0) (by decide) (by decide)) ?_
  refine av_astore_n S (ls' := [(0, .retAddr 60), (1, .int 0), (2, .ref 0)]) dL_law_22 (Nat.le_of_ble_eq_true rfl) rfl ?_
  refine av_new S (ci := 8) (N := 8) (C := RX8) (T := TX8) dL_law_23 rfl cl_L_8 mk_X8 n_X8 (okl_c trivial (okl_c trivial (okl_c (show 0 < 1 by decide) okl_nil))) oks_nil ?_
  refine av_dup S dL_law_26 rfl ?_
  exact av_ctor S rfl rfl rfl rfl rfl rfl (fun Γ' I' L' w h hF h1 ha hR h81 => av_of S (law_30 fin hn hF h1 ha hR h81))
end V0
