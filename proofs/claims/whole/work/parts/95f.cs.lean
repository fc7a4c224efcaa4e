/-! THE LAW'S BODY: CASES 30 TO 45 -/
section LWC
variable {n k mc ms bc bs : Nat} {xs : Nat → Int32} {G Γ : am_G} {I : am_I} {L : am_L} {Q : am_Q}
theorem cs_30 (W : wld G Γ) (R : REL I L) (hk : 6 * k + 6 ≤ n) (hn : n ≤ 3072) (post : ∀ I' L', REL I' L' → am_W (m_W n xs) 282 mc ms true bc bs 3223 (lwL k) [] Γ I' L' Q) : am_W (m_W n xs) 282 mc ms true (bc + 1) (bs + 6) 1728 (lwL k) [] Γ I L Q := by
  obtain ⟨I1, L1, I2, v, hC, hM, hR⟩ := dX_of W (fX_cartsPassed W.F R)
  refine aw_aload_n dW_1728 rfl ?_
  refine aw_askV (as := []) (rst := []) k_X8_cartsPassed l_L_256 i_X8_cartsPassed s_X8_cartsPassed rfl W.ox dW_1729 rfl (Nat.le_of_ble_eq_true rfl) (Nat.le_add_left _ _) (Nat.le_add_left _ _) hC rfl rfl ?_
  refine aw_aload_n dW_1732 rfl ?_
  refine aw_askV (as := []) (rst := [.int v]) k_X9_cartsPassed l_L_259 i_X9_cartsPassed s_X9_cartsPassed rfl W.m dW_1733 rfl (Nat.le_of_ble_eq_true rfl) (Nat.zero_le _) (Nat.zero_le _) hM rfl rfl ?_
  refine aw_icmp_eq (tgt := 3223) dW_1736 (by decide) (fun _ => ?_) (fun z => absurd rfl z)
  exact aw_less (Nat.le_of_eq (Nat.add_sub_cancel _ _).symm) (Nat.le_of_eq (Nat.add_sub_cancel _ _).symm) (post I2 L1 hR)
theorem cs_31 (W : wld G Γ) (R : REL I L) (hk : 6 * k + 6 ≤ n) (hn : n ≤ 3072) (post : ∀ I' L', REL I' L' → am_W (m_W n xs) 282 mc ms true bc bs 3223 (lwL k) [] Γ I' L' Q) : am_W (m_W n xs) 282 mc ms true (bc + 1) (bs + 6) 1741 (lwL k) [] Γ I L Q := by
  obtain ⟨I1, L1, I2, v, hC, hM, hR⟩ := dX_of W (fX_costAsked W.F R)
  refine aw_aload_n dW_1741 rfl ?_
  refine aw_askV (as := []) (rst := []) k_X8_costAsked l_L_260 i_X8_costAsked s_X8_costAsked rfl W.ox dW_1742 rfl (Nat.le_of_ble_eq_true rfl) (Nat.le_add_left _ _) (Nat.le_add_left _ _) hC rfl rfl ?_
  refine aw_aload_n dW_1745 rfl ?_
  refine aw_askV (as := []) (rst := [.int v]) k_X9_costAsked l_L_263 i_X9_costAsked s_X9_costAsked rfl W.m dW_1746 rfl (Nat.le_of_ble_eq_true rfl) (Nat.zero_le _) (Nat.zero_le _) hM rfl rfl ?_
  refine aw_icmp_eq (tgt := 3223) dW_1749 (by decide) (fun _ => ?_) (fun z => absurd rfl z)
  exact aw_less (Nat.le_of_eq (Nat.add_sub_cancel _ _).symm) (Nat.le_of_eq (Nat.add_sub_cancel _ _).symm) (post I2 L1 hR)
theorem cs_32 (W : wld G Γ) (R : REL I L) (hk : 6 * k + 6 ≤ n) (hn : n ≤ 3072) (post : ∀ I' L', REL I' L' → am_W (m_W n xs) 282 mc ms true bc bs 3223 (lwL k) [] Γ I' L' Q) : am_W (m_W n xs) 282 mc ms true (bc + 1) (bs + 6) 1754 (lwL k) [] Γ I L Q := by
  obtain ⟨I1, L1, I2, v, hC, hM, hR⟩ := dX_of W (fX_tollsPaid W.F R)
  refine aw_aload_n dW_1754 rfl ?_
  refine aw_askV (as := []) (rst := []) k_X8_tollsPaid l_L_264 i_X8_tollsPaid s_X8_tollsPaid rfl W.ox dW_1755 rfl (Nat.le_of_ble_eq_true rfl) (Nat.le_add_left _ _) (Nat.le_add_left _ _) hC rfl rfl ?_
  refine aw_aload_n dW_1758 rfl ?_
  refine aw_askV (as := []) (rst := [.int v]) k_X9_tollsPaid l_L_267 i_X9_tollsPaid s_X9_tollsPaid rfl W.m dW_1759 rfl (Nat.le_of_ble_eq_true rfl) (Nat.zero_le _) (Nat.zero_le _) hM rfl rfl ?_
  refine aw_icmp_eq (tgt := 3223) dW_1762 (by decide) (fun _ => ?_) (fun z => absurd rfl z)
  exact aw_less (Nat.le_of_eq (Nat.add_sub_cancel _ _).symm) (Nat.le_of_eq (Nat.add_sub_cancel _ _).symm) (post I2 L1 hR)
theorem cs_33 (W : wld G Γ) (R : REL I L) (hk : 6 * k + 6 ≤ n) (hn : n ≤ 3072) (post : ∀ I' L', REL I' L' → am_W (m_W n xs) 282 mc ms true bc bs 3223 (lwL k) [] Γ I' L' Q) : am_W (m_W n xs) 282 mc ms true (bc + 1) (bs + 6) 1767 (lwL k) [] Γ I L Q := by
  obtain ⟨I1, L1, I2, v, hC, hM, hR⟩ := dX_of W (fX_tollsDue W.F R)
  refine aw_aload_n dW_1767 rfl ?_
  refine aw_askV (as := []) (rst := []) k_X8_tollsDue l_L_268 i_X8_tollsDue s_X8_tollsDue rfl W.ox dW_1768 rfl (Nat.le_of_ble_eq_true rfl) (Nat.le_add_left _ _) (Nat.le_add_left _ _) hC rfl rfl ?_
  refine aw_aload_n dW_1771 rfl ?_
  refine aw_askV (as := []) (rst := [.int v]) k_X9_tollsDue l_L_271 i_X9_tollsDue s_X9_tollsDue rfl W.m dW_1772 rfl (Nat.le_of_ble_eq_true rfl) (Nat.zero_le _) (Nat.zero_le _) hM rfl rfl ?_
  refine aw_icmp_eq (tgt := 3223) dW_1775 (by decide) (fun _ => ?_) (fun z => absurd rfl z)
  exact aw_less (Nat.le_of_eq (Nat.add_sub_cancel _ _).symm) (Nat.le_of_eq (Nat.add_sub_cancel _ _).symm) (post I2 L1 hR)
theorem cs_34 (W : wld G Γ) (R : REL I L) (hk : 6 * k + 6 ≤ n) (hn : n ≤ 3072) (post : ∀ I' L', REL I' L' → am_W (m_W n xs) 282 mc ms true bc bs 3223 (lwL k) [] Γ I' L' Q) : am_W (m_W n xs) 282 mc ms true (bc + 1) (bs + 6) 1780 (lwL k) [] Γ I L Q := by
  obtain ⟨I1, L1, I2, v, hC, hM, hR⟩ := dX_of W (fX_cartsOvercharged W.F R)
  refine aw_aload_n dW_1780 rfl ?_
  refine aw_askV (as := []) (rst := []) k_X8_cartsOvercharged l_L_272 i_X8_cartsOvercharged s_X8_cartsOvercharged rfl W.ox dW_1781 rfl (Nat.le_of_ble_eq_true rfl) (Nat.le_add_left _ _) (Nat.le_add_left _ _) hC rfl rfl ?_
  refine aw_aload_n dW_1784 rfl ?_
  refine aw_askV (as := []) (rst := [.int v]) k_X9_cartsOvercharged l_L_275 i_X9_cartsOvercharged s_X9_cartsOvercharged rfl W.m dW_1785 rfl (Nat.le_of_ble_eq_true rfl) (Nat.zero_le _) (Nat.zero_le _) hM rfl rfl ?_
  refine aw_icmp_eq (tgt := 3223) dW_1788 (by decide) (fun _ => ?_) (fun z => absurd rfl z)
  exact aw_less (Nat.le_of_eq (Nat.add_sub_cancel _ _).symm) (Nat.le_of_eq (Nat.add_sub_cancel _ _).symm) (post I2 L1 hR)
theorem cs_35 (W : wld G Γ) (R : REL I L) (hk : 6 * k + 6 ≤ n) (hn : n ≤ 3072) (post : ∀ I' L', REL I' L' → am_W (m_W n xs) 282 mc ms true bc bs 3223 (lwL k) [] Γ I' L' Q) : am_W (m_W n xs) 282 mc ms true (bc + 1) (bs + 6) 1793 (lwL k) [] Γ I L Q := by
  obtain ⟨I1, L1, I2, v, hC, hM, hR⟩ := dX_of W (fX_cartsUndercharged W.F R)
  refine aw_aload_n dW_1793 rfl ?_
  refine aw_askV (as := []) (rst := []) k_X8_cartsUndercharged l_L_276 i_X8_cartsUndercharged s_X8_cartsUndercharged rfl W.ox dW_1794 rfl (Nat.le_of_ble_eq_true rfl) (Nat.le_add_left _ _) (Nat.le_add_left _ _) hC rfl rfl ?_
  refine aw_aload_n dW_1797 rfl ?_
  refine aw_askV (as := []) (rst := [.int v]) k_X9_cartsUndercharged l_L_279 i_X9_cartsUndercharged s_X9_cartsUndercharged rfl W.m dW_1798 rfl (Nat.le_of_ble_eq_true rfl) (Nat.zero_le _) (Nat.zero_le _) hM rfl rfl ?_
  refine aw_icmp_eq (tgt := 3223) dW_1801 (by decide) (fun _ => ?_) (fun z => absurd rfl z)
  exact aw_less (Nat.le_of_eq (Nat.add_sub_cancel _ _).symm) (Nat.le_of_eq (Nat.add_sub_cancel _ _).symm) (post I2 L1 hR)
theorem cs_36 (W : wld G Γ) (R : REL I L) (hk : 6 * k + 6 ≤ n) (hn : n ≤ 3072) (post : ∀ I' L', REL I' L' → am_W (m_W n xs) 282 mc ms true bc bs 3223 (lwL k) [] Γ I' L' Q) : am_W (m_W n xs) 282 mc ms true (bc + 1) (bs + 6) 1806 (lwL k) [] Γ I L Q := by
  obtain ⟨I1, L1, I2, v, hC, hM, hR⟩ := dX_of W (fX_overcharge W.F R)
  refine aw_aload_n dW_1806 rfl ?_
  refine aw_askV (as := []) (rst := []) k_X8_overcharge l_L_280 i_X8_overcharge s_X8_overcharge rfl W.ox dW_1807 rfl (Nat.le_of_ble_eq_true rfl) (Nat.le_add_left _ _) (Nat.le_add_left _ _) hC rfl rfl ?_
  refine aw_aload_n dW_1810 rfl ?_
  refine aw_askV (as := []) (rst := [.int v]) k_X9_overcharge l_L_283 i_X9_overcharge s_X9_overcharge rfl W.m dW_1811 rfl (Nat.le_of_ble_eq_true rfl) (Nat.zero_le _) (Nat.zero_le _) hM rfl rfl ?_
  refine aw_icmp_eq (tgt := 3223) dW_1814 (by decide) (fun _ => ?_) (fun z => absurd rfl z)
  exact aw_less (Nat.le_of_eq (Nat.add_sub_cancel _ _).symm) (Nat.le_of_eq (Nat.add_sub_cancel _ _).symm) (post I2 L1 hR)
theorem cs_37 (W : wld G Γ) (R : REL I L) (hk : 6 * k + 6 ≤ n) (hn : n ≤ 3072) (post : ∀ I' L', REL I' L' → am_W (m_W n xs) 282 mc ms true bc bs 3223 (lwL k) [] Γ I' L' Q) : am_W (m_W n xs) 282 mc ms true (bc + 1) (bs + 6) 1819 (lwL k) [] Γ I L Q := by
  obtain ⟨I1, L1, I2, v, hC, hM, hR⟩ := dX_of W (fX_undercharge W.F R)
  refine aw_aload_n dW_1819 rfl ?_
  refine aw_askV (as := []) (rst := []) k_X8_undercharge l_L_284 i_X8_undercharge s_X8_undercharge rfl W.ox dW_1820 rfl (Nat.le_of_ble_eq_true rfl) (Nat.le_add_left _ _) (Nat.le_add_left _ _) hC rfl rfl ?_
  refine aw_aload_n dW_1823 rfl ?_
  refine aw_askV (as := []) (rst := [.int v]) k_X9_undercharge l_L_287 i_X9_undercharge s_X9_undercharge rfl W.m dW_1824 rfl (Nat.le_of_ble_eq_true rfl) (Nat.zero_le _) (Nat.zero_le _) hM rfl rfl ?_
  refine aw_icmp_eq (tgt := 3223) dW_1827 (by decide) (fun _ => ?_) (fun z => absurd rfl z)
  exact aw_less (Nat.le_of_eq (Nat.add_sub_cancel _ _).symm) (Nat.le_of_eq (Nat.add_sub_cancel _ _).symm) (post I2 L1 hR)
theorem cs_38 (W : wld G Γ) (R : REL I L) (hk : 6 * k + 6 ≤ n) (hn : n ≤ 3072) (post : ∀ I' L', REL I' L' → am_W (m_W n xs) 282 mc ms true bc bs 3223 (lwL k) [] Γ I' L' Q) : am_W (m_W n xs) 282 mc ms true (bc + 1) (bs + 6) 1832 (lwL k) [] Γ I L Q := by
  obtain ⟨I1, L1, I2, c, v, hc3, hC, hM, hR, ht, h0⟩ := hx_nodeCount W R (xs (nn (6 * k) + 1).toNatClampNeg)
  refine aw_aload_n dW_1832 rfl ?_
  refine aw_aload_nT dW_1833 rfl ?_
  refine aw_iload dW_1834 rfl ?_
  refine aw_iconst dW_1836 ci_1 ?_
  refine aw_iadd dW_1837 ?_
  refine aw_sld rfl dW_1838 (sa_in1 hk hn) ?_
  refine aw_aload_n dW_1839 rfl ?_
  refine aw_askSW (as := [.ref 0, .int (xs (nn (6 * k) + 1).toNatClampNeg), .ref 463]) (rst := []) kw_L_nodeCount (by decide) rfl l_L_288 t_L_nodeCount dW_1840 rfl (Nat.le_of_ble_eq_true rfl) (Nat.le_add_left _ _) (Nat.le_add_left _ _) hC rfl rfl ?_
  refine aw_istore (ls' := [(0, .retAddr 60), (1, .ref 0), (2, .ref 450), (3, .ref 463), (4, .ref 464), (5, .int (nn (6 * k))), (6, .int (nn c))]) dW_1843 (show (6 : Nat) < 10 by decide) rfl ?_
  refine aw_aload_n dW_1845 rfl ?_
  refine aw_aload_nT dW_1846 rfl ?_
  refine aw_iload dW_1847 rfl ?_
  refine aw_iconst dW_1849 ci_1 ?_
  refine aw_iadd dW_1850 ?_
  refine aw_sld rfl dW_1851 (sa_in1 hk hn) ?_
  refine aw_askV (as := [.int (xs (nn (6 * k) + 1).toNatClampNeg)]) (rst := []) k_X9_nodeCount l_L_290 i_X9_nodeCount s_X9_nodeCount rfl W.m dW_1852 rfl (Nat.le_of_ble_eq_true rfl) (Nat.zero_le _) (Nat.zero_le _) hM rfl rfl ?_
  refine aw_istore (ls' := [(0, .retAddr 60), (1, .ref 0), (2, .ref 450), (3, .ref 463), (4, .ref 464), (5, .int (nn (6 * k))), (6, .int (nn c)), (7, .int v)]) dW_1855 (show (7 : Nat) < 10 by decide) rfl ?_
  refine aw_aload_n dW_1857 rfl ?_
  refine aw_askV (as := []) (rst := []) k_X9_thrown l_L_157 i_X9_thrown s_X9_thrown rfl W.m dW_1858 rfl (Nat.le_of_ble_eq_true rfl) (Nat.zero_le _) (Nat.zero_le _) (eXW_thrown W.m) rfl rfl ?_
  refine aw_iload dW_1861 rfl ?_
  refine aw_icmp_eq (tgt := 1868) dW_1863 (by decide) (fun _ => ?_) (fun z => absurd ht z)
  refine aw_iload dW_1868 rfl ?_
  have fin : am_W (m_W n xs) 282 mc ms true (bc + 1 - 1 - 0 - 0) (bs + 6 - 6 - 0 - 0) 1885 ([(0, .retAddr 60), (1, .ref 0), (2, .ref 450), (3, .ref 463), (4, .ref 464), (5, .int (nn (6 * k))), (6, .int (nn c)), (7, .int v)]) [] Γ I2 L1 Q := by
    refine aw_goto (tgt := 3223) dW_1885 (by decide) ?_
    refine aw_ls (ls' := lwL k) (fun q hq => List.mem_append_left [(6, _), (7, _)] hq) ?_
    exact aw_less (by omega) (by omega) (post I2 L1 hR)
  refine aw_if_ne (tgt := 1885) dW_1870 (by decide) (fun _ => fin) (fun z => ?_)
  have hv := h0 ((nn0_iff hc3).mp z)
  refine aw_aload_n dW_1873 rfl ?_
  refine aw_iconst dW_1874 ci_0 ?_
  refine aw_lald dW_1875 W.a (nn_in (k := 0) (by decide) (by decide)) ?_
  rw [c0, hv]
  refine aw_iload dW_1876 rfl ?_
  refine aw_i2l dW_1878 ?_
  refine aw_lcmp dW_1879 ?_
  exact aw_if_eq (tgt := 1885) dW_1880 (by decide) (fun _ => fin) (fun z2 => absurd (lgc_eq.mpr rfl) z2)
theorem cs_39 (W : wld G Γ) (R : REL I L) (hk : 6 * k + 6 ≤ n) (hn : n ≤ 3072) (post : ∀ I' L', REL I' L' → am_W (m_W n xs) 282 mc ms true bc bs 3223 (lwL k) [] Γ I' L' Q) : am_W (m_W n xs) 282 mc ms true (bc + 1) (bs + 6) 1888 (lwL k) [] Γ I L Q := by
  obtain ⟨I1, L1, I2, c, v, hc3, hC, hM, hR, ht, h0⟩ := hx_nodeQuestion W R (xs (nn (6 * k) + 1).toNatClampNeg) (xs (nn (6 * k) + 2).toNatClampNeg)
  refine aw_aload_n dW_1888 rfl ?_
  refine aw_aload_nT dW_1889 rfl ?_
  refine aw_iload dW_1890 rfl ?_
  refine aw_iconst dW_1892 ci_1 ?_
  refine aw_iadd dW_1893 ?_
  refine aw_sld rfl dW_1894 (sa_in1 hk hn) ?_
  refine aw_aload_nT dW_1895 rfl ?_
  refine aw_iload dW_1896 rfl ?_
  refine aw_iconst dW_1898 ci_2 ?_
  refine aw_iadd dW_1899 ?_
  refine aw_sld rfl dW_1900 (sa_in2 hk hn) ?_
  refine aw_aload_n dW_1901 rfl ?_
  refine aw_askSW (as := [.ref 0, .int (xs (nn (6 * k) + 1).toNatClampNeg), .int (xs (nn (6 * k) + 2).toNatClampNeg), .ref 463]) (rst := []) kw_L_nodeQuestion (by decide) rfl l_L_291 t_L_nodeQuestion dW_1902 rfl (Nat.le_of_ble_eq_true rfl) (Nat.le_add_left _ _) (Nat.le_add_left _ _) hC rfl rfl ?_
  refine aw_istore (ls' := [(0, .retAddr 60), (1, .ref 0), (2, .ref 450), (3, .ref 463), (4, .ref 464), (5, .int (nn (6 * k))), (6, .int (nn c))]) dW_1905 (show (6 : Nat) < 10 by decide) rfl ?_
  refine aw_aload_n dW_1907 rfl ?_
  refine aw_aload_nT dW_1908 rfl ?_
  refine aw_iload dW_1909 rfl ?_
  refine aw_iconst dW_1911 ci_1 ?_
  refine aw_iadd dW_1912 ?_
  refine aw_sld rfl dW_1913 (sa_in1 hk hn) ?_
  refine aw_aload_nT dW_1914 rfl ?_
  refine aw_iload dW_1915 rfl ?_
  refine aw_iconst dW_1917 ci_2 ?_
  refine aw_iadd dW_1918 ?_
  refine aw_sld rfl dW_1919 (sa_in2 hk hn) ?_
  refine aw_askV (as := [.int (xs (nn (6 * k) + 1).toNatClampNeg), .int (xs (nn (6 * k) + 2).toNatClampNeg)]) (rst := []) k_X9_nodeQuestion l_L_293 i_X9_nodeQuestion s_X9_nodeQuestion rfl W.m dW_1920 rfl (Nat.le_of_ble_eq_true rfl) (Nat.zero_le _) (Nat.zero_le _) hM rfl rfl ?_
  refine aw_istore (ls' := [(0, .retAddr 60), (1, .ref 0), (2, .ref 450), (3, .ref 463), (4, .ref 464), (5, .int (nn (6 * k))), (6, .int (nn c)), (7, .int v)]) dW_1923 (show (7 : Nat) < 10 by decide) rfl ?_
  refine aw_aload_n dW_1925 rfl ?_
  refine aw_askV (as := []) (rst := []) k_X9_thrown l_L_157 i_X9_thrown s_X9_thrown rfl W.m dW_1926 rfl (Nat.le_of_ble_eq_true rfl) (Nat.zero_le _) (Nat.zero_le _) (eXW_thrown W.m) rfl rfl ?_
  refine aw_iload dW_1929 rfl ?_
  refine aw_icmp_eq (tgt := 1936) dW_1931 (by decide) (fun _ => ?_) (fun z => absurd ht z)
  refine aw_iload dW_1936 rfl ?_
  have fin : am_W (m_W n xs) 282 mc ms true (bc + 1 - 1 - 0 - 0) (bs + 6 - 6 - 0 - 0) 1953 ([(0, .retAddr 60), (1, .ref 0), (2, .ref 450), (3, .ref 463), (4, .ref 464), (5, .int (nn (6 * k))), (6, .int (nn c)), (7, .int v)]) [] Γ I2 L1 Q := by
    refine aw_goto (tgt := 3223) dW_1953 (by decide) ?_
    refine aw_ls (ls' := lwL k) (fun q hq => List.mem_append_left [(6, _), (7, _)] hq) ?_
    exact aw_less (by omega) (by omega) (post I2 L1 hR)
  refine aw_if_ne (tgt := 1953) dW_1938 (by decide) (fun _ => fin) (fun z => ?_)
  have hv := h0 ((nn0_iff hc3).mp z)
  refine aw_aload_n dW_1941 rfl ?_
  refine aw_iconst dW_1942 ci_0 ?_
  refine aw_lald dW_1943 W.a (nn_in (k := 0) (by decide) (by decide)) ?_
  rw [c0, hv]
  refine aw_iload dW_1944 rfl ?_
  refine aw_i2l dW_1946 ?_
  refine aw_lcmp dW_1947 ?_
  exact aw_if_eq (tgt := 1953) dW_1948 (by decide) (fun _ => fin) (fun z2 => absurd (lgc_eq.mpr rfl) z2)
theorem cs_40 (W : wld G Γ) (R : REL I L) (hk : 6 * k + 6 ≤ n) (hn : n ≤ 3072) (post : ∀ I' L', REL I' L' → am_W (m_W n xs) 282 mc ms true bc bs 3223 (lwL k) [] Γ I' L' Q) : am_W (m_W n xs) 282 mc ms true (bc + 1) (bs + 6) 1956 (lwL k) [] Γ I L Q := by
  obtain ⟨I1, L1, I2, c, v, hc3, hC, hM, hR, ht, h0⟩ := hx_leafToll W R (xs (nn (6 * k) + 1).toNatClampNeg) (xs (nn (6 * k) + 2).toNatClampNeg)
  refine aw_aload_n dW_1956 rfl ?_
  refine aw_aload_nT dW_1957 rfl ?_
  refine aw_iload dW_1958 rfl ?_
  refine aw_iconst dW_1960 ci_1 ?_
  refine aw_iadd dW_1961 ?_
  refine aw_sld rfl dW_1962 (sa_in1 hk hn) ?_
  refine aw_aload_nT dW_1963 rfl ?_
  refine aw_iload dW_1964 rfl ?_
  refine aw_iconst dW_1966 ci_2 ?_
  refine aw_iadd dW_1967 ?_
  refine aw_sld rfl dW_1968 (sa_in2 hk hn) ?_
  refine aw_aload_n dW_1969 rfl ?_
  refine aw_askSW (as := [.ref 0, .int (xs (nn (6 * k) + 1).toNatClampNeg), .int (xs (nn (6 * k) + 2).toNatClampNeg), .ref 463]) (rst := []) kw_L_leafToll (by decide) rfl l_L_294 t_L_leafToll dW_1970 rfl (Nat.le_of_ble_eq_true rfl) (Nat.le_add_left _ _) (Nat.le_add_left _ _) hC rfl rfl ?_
  refine aw_istore (ls' := [(0, .retAddr 60), (1, .ref 0), (2, .ref 450), (3, .ref 463), (4, .ref 464), (5, .int (nn (6 * k))), (6, .int (nn c))]) dW_1973 (show (6 : Nat) < 10 by decide) rfl ?_
  refine aw_aload_n dW_1975 rfl ?_
  refine aw_aload_nT dW_1976 rfl ?_
  refine aw_iload dW_1977 rfl ?_
  refine aw_iconst dW_1979 ci_1 ?_
  refine aw_iadd dW_1980 ?_
  refine aw_sld rfl dW_1981 (sa_in1 hk hn) ?_
  refine aw_aload_nT dW_1982 rfl ?_
  refine aw_iload dW_1983 rfl ?_
  refine aw_iconst dW_1985 ci_2 ?_
  refine aw_iadd dW_1986 ?_
  refine aw_sld rfl dW_1987 (sa_in2 hk hn) ?_
  refine aw_askV (as := [.int (xs (nn (6 * k) + 1).toNatClampNeg), .int (xs (nn (6 * k) + 2).toNatClampNeg)]) (rst := []) k_X9_leafToll l_L_296 i_X9_leafToll s_X9_leafToll rfl W.m dW_1988 rfl (Nat.le_of_ble_eq_true rfl) (Nat.zero_le _) (Nat.zero_le _) hM rfl rfl ?_
  refine aw_istore (ls' := [(0, .retAddr 60), (1, .ref 0), (2, .ref 450), (3, .ref 463), (4, .ref 464), (5, .int (nn (6 * k))), (6, .int (nn c)), (7, .int v)]) dW_1991 (show (7 : Nat) < 10 by decide) rfl ?_
  refine aw_aload_n dW_1993 rfl ?_
  refine aw_askV (as := []) (rst := []) k_X9_thrown l_L_157 i_X9_thrown s_X9_thrown rfl W.m dW_1994 rfl (Nat.le_of_ble_eq_true rfl) (Nat.zero_le _) (Nat.zero_le _) (eXW_thrown W.m) rfl rfl ?_
  refine aw_iload dW_1997 rfl ?_
  refine aw_icmp_eq (tgt := 2004) dW_1999 (by decide) (fun _ => ?_) (fun z => absurd ht z)
  refine aw_iload dW_2004 rfl ?_
  have fin : am_W (m_W n xs) 282 mc ms true (bc + 1 - 1 - 0 - 0) (bs + 6 - 6 - 0 - 0) 2021 ([(0, .retAddr 60), (1, .ref 0), (2, .ref 450), (3, .ref 463), (4, .ref 464), (5, .int (nn (6 * k))), (6, .int (nn c)), (7, .int v)]) [] Γ I2 L1 Q := by
    refine aw_goto (tgt := 3223) dW_2021 (by decide) ?_
    refine aw_ls (ls' := lwL k) (fun q hq => List.mem_append_left [(6, _), (7, _)] hq) ?_
    exact aw_less (by omega) (by omega) (post I2 L1 hR)
  refine aw_if_ne (tgt := 2021) dW_2006 (by decide) (fun _ => fin) (fun z => ?_)
  have hv := h0 ((nn0_iff hc3).mp z)
  refine aw_aload_n dW_2009 rfl ?_
  refine aw_iconst dW_2010 ci_0 ?_
  refine aw_lald dW_2011 W.a (nn_in (k := 0) (by decide) (by decide)) ?_
  rw [c0, hv]
  refine aw_iload dW_2012 rfl ?_
  refine aw_i2l dW_2014 ?_
  refine aw_lcmp dW_2015 ?_
  exact aw_if_eq (tgt := 2021) dW_2016 (by decide) (fun _ => fin) (fun z2 => absurd (lgc_eq.mpr rfl) z2)
theorem cs_41 (W : wld G Γ) (R : REL I L) (hk : 6 * k + 6 ≤ n) (hn : n ≤ 3072) (post : ∀ I' L', REL I' L' → am_W (m_W n xs) 282 mc ms true bc bs 3223 (lwL k) [] Γ I' L' Q) : am_W (m_W n xs) 282 mc ms true (bc + 1) (bs + 6) 2024 (lwL k) [] Γ I L Q := by
  obtain ⟨I1, L1, I2, c, v, hc3, hC, hM, hR, ht, h0⟩ := hx_yesChild W R (xs (nn (6 * k) + 1).toNatClampNeg) (xs (nn (6 * k) + 2).toNatClampNeg)
  refine aw_aload_n dW_2024 rfl ?_
  refine aw_aload_nT dW_2025 rfl ?_
  refine aw_iload dW_2026 rfl ?_
  refine aw_iconst dW_2028 ci_1 ?_
  refine aw_iadd dW_2029 ?_
  refine aw_sld rfl dW_2030 (sa_in1 hk hn) ?_
  refine aw_aload_nT dW_2031 rfl ?_
  refine aw_iload dW_2032 rfl ?_
  refine aw_iconst dW_2034 ci_2 ?_
  refine aw_iadd dW_2035 ?_
  refine aw_sld rfl dW_2036 (sa_in2 hk hn) ?_
  refine aw_aload_n dW_2037 rfl ?_
  refine aw_askSW (as := [.ref 0, .int (xs (nn (6 * k) + 1).toNatClampNeg), .int (xs (nn (6 * k) + 2).toNatClampNeg), .ref 463]) (rst := []) kw_L_yesChild (by decide) rfl l_L_297 t_L_yesChild dW_2038 rfl (Nat.le_of_ble_eq_true rfl) (Nat.le_add_left _ _) (Nat.le_add_left _ _) hC rfl rfl ?_
  refine aw_istore (ls' := [(0, .retAddr 60), (1, .ref 0), (2, .ref 450), (3, .ref 463), (4, .ref 464), (5, .int (nn (6 * k))), (6, .int (nn c))]) dW_2041 (show (6 : Nat) < 10 by decide) rfl ?_
  refine aw_aload_n dW_2043 rfl ?_
  refine aw_aload_nT dW_2044 rfl ?_
  refine aw_iload dW_2045 rfl ?_
  refine aw_iconst dW_2047 ci_1 ?_
  refine aw_iadd dW_2048 ?_
  refine aw_sld rfl dW_2049 (sa_in1 hk hn) ?_
  refine aw_aload_nT dW_2050 rfl ?_
  refine aw_iload dW_2051 rfl ?_
  refine aw_iconst dW_2053 ci_2 ?_
  refine aw_iadd dW_2054 ?_
  refine aw_sld rfl dW_2055 (sa_in2 hk hn) ?_
  refine aw_askV (as := [.int (xs (nn (6 * k) + 1).toNatClampNeg), .int (xs (nn (6 * k) + 2).toNatClampNeg)]) (rst := []) k_X9_yesChild l_L_299 i_X9_yesChild s_X9_yesChild rfl W.m dW_2056 rfl (Nat.le_of_ble_eq_true rfl) (Nat.zero_le _) (Nat.zero_le _) hM rfl rfl ?_
  refine aw_istore (ls' := [(0, .retAddr 60), (1, .ref 0), (2, .ref 450), (3, .ref 463), (4, .ref 464), (5, .int (nn (6 * k))), (6, .int (nn c)), (7, .int v)]) dW_2059 (show (7 : Nat) < 10 by decide) rfl ?_
  refine aw_aload_n dW_2061 rfl ?_
  refine aw_askV (as := []) (rst := []) k_X9_thrown l_L_157 i_X9_thrown s_X9_thrown rfl W.m dW_2062 rfl (Nat.le_of_ble_eq_true rfl) (Nat.zero_le _) (Nat.zero_le _) (eXW_thrown W.m) rfl rfl ?_
  refine aw_iload dW_2065 rfl ?_
  refine aw_icmp_eq (tgt := 2072) dW_2067 (by decide) (fun _ => ?_) (fun z => absurd ht z)
  refine aw_iload dW_2072 rfl ?_
  have fin : am_W (m_W n xs) 282 mc ms true (bc + 1 - 1 - 0 - 0) (bs + 6 - 6 - 0 - 0) 2089 ([(0, .retAddr 60), (1, .ref 0), (2, .ref 450), (3, .ref 463), (4, .ref 464), (5, .int (nn (6 * k))), (6, .int (nn c)), (7, .int v)]) [] Γ I2 L1 Q := by
    refine aw_goto (tgt := 3223) dW_2089 (by decide) ?_
    refine aw_ls (ls' := lwL k) (fun q hq => List.mem_append_left [(6, _), (7, _)] hq) ?_
    exact aw_less (by omega) (by omega) (post I2 L1 hR)
  refine aw_if_ne (tgt := 2089) dW_2074 (by decide) (fun _ => fin) (fun z => ?_)
  have hv := h0 ((nn0_iff hc3).mp z)
  refine aw_aload_n dW_2077 rfl ?_
  refine aw_iconst dW_2078 ci_0 ?_
  refine aw_lald dW_2079 W.a (nn_in (k := 0) (by decide) (by decide)) ?_
  rw [c0, hv]
  refine aw_iload dW_2080 rfl ?_
  refine aw_i2l dW_2082 ?_
  refine aw_lcmp dW_2083 ?_
  exact aw_if_eq (tgt := 2089) dW_2084 (by decide) (fun _ => fin) (fun z2 => absurd (lgc_eq.mpr rfl) z2)
theorem cs_42 (W : wld G Γ) (R : REL I L) (hk : 6 * k + 6 ≤ n) (hn : n ≤ 3072) (post : ∀ I' L', REL I' L' → am_W (m_W n xs) 282 mc ms true bc bs 3223 (lwL k) [] Γ I' L' Q) : am_W (m_W n xs) 282 mc ms true (bc + 1) (bs + 6) 2092 (lwL k) [] Γ I L Q := by
  obtain ⟨I1, L1, I2, c, v, hc3, hC, hM, hR, ht, h0⟩ := hx_noChild W R (xs (nn (6 * k) + 1).toNatClampNeg) (xs (nn (6 * k) + 2).toNatClampNeg)
  refine aw_aload_n dW_2092 rfl ?_
  refine aw_aload_nT dW_2093 rfl ?_
  refine aw_iload dW_2094 rfl ?_
  refine aw_iconst dW_2096 ci_1 ?_
  refine aw_iadd dW_2097 ?_
  refine aw_sld rfl dW_2098 (sa_in1 hk hn) ?_
  refine aw_aload_nT dW_2099 rfl ?_
  refine aw_iload dW_2100 rfl ?_
  refine aw_iconst dW_2102 ci_2 ?_
  refine aw_iadd dW_2103 ?_
  refine aw_sld rfl dW_2104 (sa_in2 hk hn) ?_
  refine aw_aload_n dW_2105 rfl ?_
  refine aw_askSW (as := [.ref 0, .int (xs (nn (6 * k) + 1).toNatClampNeg), .int (xs (nn (6 * k) + 2).toNatClampNeg), .ref 463]) (rst := []) kw_L_noChild (by decide) rfl l_L_300 t_L_noChild dW_2106 rfl (Nat.le_of_ble_eq_true rfl) (Nat.le_add_left _ _) (Nat.le_add_left _ _) hC rfl rfl ?_
  refine aw_istore (ls' := [(0, .retAddr 60), (1, .ref 0), (2, .ref 450), (3, .ref 463), (4, .ref 464), (5, .int (nn (6 * k))), (6, .int (nn c))]) dW_2109 (show (6 : Nat) < 10 by decide) rfl ?_
  refine aw_aload_n dW_2111 rfl ?_
  refine aw_aload_nT dW_2112 rfl ?_
  refine aw_iload dW_2113 rfl ?_
  refine aw_iconst dW_2115 ci_1 ?_
  refine aw_iadd dW_2116 ?_
  refine aw_sld rfl dW_2117 (sa_in1 hk hn) ?_
  refine aw_aload_nT dW_2118 rfl ?_
  refine aw_iload dW_2119 rfl ?_
  refine aw_iconst dW_2121 ci_2 ?_
  refine aw_iadd dW_2122 ?_
  refine aw_sld rfl dW_2123 (sa_in2 hk hn) ?_
  refine aw_askV (as := [.int (xs (nn (6 * k) + 1).toNatClampNeg), .int (xs (nn (6 * k) + 2).toNatClampNeg)]) (rst := []) k_X9_noChild l_L_302 i_X9_noChild s_X9_noChild rfl W.m dW_2124 rfl (Nat.le_of_ble_eq_true rfl) (Nat.zero_le _) (Nat.zero_le _) hM rfl rfl ?_
  refine aw_istore (ls' := [(0, .retAddr 60), (1, .ref 0), (2, .ref 450), (3, .ref 463), (4, .ref 464), (5, .int (nn (6 * k))), (6, .int (nn c)), (7, .int v)]) dW_2127 (show (7 : Nat) < 10 by decide) rfl ?_
  refine aw_aload_n dW_2129 rfl ?_
  refine aw_askV (as := []) (rst := []) k_X9_thrown l_L_157 i_X9_thrown s_X9_thrown rfl W.m dW_2130 rfl (Nat.le_of_ble_eq_true rfl) (Nat.zero_le _) (Nat.zero_le _) (eXW_thrown W.m) rfl rfl ?_
  refine aw_iload dW_2133 rfl ?_
  refine aw_icmp_eq (tgt := 2140) dW_2135 (by decide) (fun _ => ?_) (fun z => absurd ht z)
  refine aw_iload dW_2140 rfl ?_
  have fin : am_W (m_W n xs) 282 mc ms true (bc + 1 - 1 - 0 - 0) (bs + 6 - 6 - 0 - 0) 2157 ([(0, .retAddr 60), (1, .ref 0), (2, .ref 450), (3, .ref 463), (4, .ref 464), (5, .int (nn (6 * k))), (6, .int (nn c)), (7, .int v)]) [] Γ I2 L1 Q := by
    refine aw_goto (tgt := 3223) dW_2157 (by decide) ?_
    refine aw_ls (ls' := lwL k) (fun q hq => List.mem_append_left [(6, _), (7, _)] hq) ?_
    exact aw_less (by omega) (by omega) (post I2 L1 hR)
  refine aw_if_ne (tgt := 2157) dW_2142 (by decide) (fun _ => fin) (fun z => ?_)
  have hv := h0 ((nn0_iff hc3).mp z)
  refine aw_aload_n dW_2145 rfl ?_
  refine aw_iconst dW_2146 ci_0 ?_
  refine aw_lald dW_2147 W.a (nn_in (k := 0) (by decide) (by decide)) ?_
  rw [c0, hv]
  refine aw_iload dW_2148 rfl ?_
  refine aw_i2l dW_2150 ?_
  refine aw_lcmp dW_2151 ?_
  exact aw_if_eq (tgt := 2157) dW_2152 (by decide) (fun _ => fin) (fun z2 => absurd (lgc_eq.mpr rfl) z2)
theorem cs_43 (W : wld G Γ) (R : REL I L) (hk : 6 * k + 6 ≤ n) (hn : n ≤ 3072) (post : ∀ I' L', REL I' L' → am_W (m_W n xs) 282 mc ms true bc bs 3223 (lwL k) [] Γ I' L' Q) : am_W (m_W n xs) 282 mc ms true (bc + 1) (bs + 6) 2160 (lwL k) [] Γ I L Q := by
  obtain ⟨I1, L1, I2, c, v, hc3, hC, hM, hR, ht, h0⟩ := hx_typesAt W R (xs (nn (6 * k) + 1).toNatClampNeg) (xs (nn (6 * k) + 2).toNatClampNeg)
  refine aw_aload_n dW_2160 rfl ?_
  refine aw_aload_nT dW_2161 rfl ?_
  refine aw_iload dW_2162 rfl ?_
  refine aw_iconst dW_2164 ci_1 ?_
  refine aw_iadd dW_2165 ?_
  refine aw_sld rfl dW_2166 (sa_in1 hk hn) ?_
  refine aw_aload_nT dW_2167 rfl ?_
  refine aw_iload dW_2168 rfl ?_
  refine aw_iconst dW_2170 ci_2 ?_
  refine aw_iadd dW_2171 ?_
  refine aw_sld rfl dW_2172 (sa_in2 hk hn) ?_
  refine aw_aload_n dW_2173 rfl ?_
  refine aw_askSW (as := [.ref 0, .int (xs (nn (6 * k) + 1).toNatClampNeg), .int (xs (nn (6 * k) + 2).toNatClampNeg), .ref 463]) (rst := []) kw_L_typesAt (by decide) rfl l_L_303 t_L_typesAt dW_2174 rfl (Nat.le_of_ble_eq_true rfl) (Nat.le_add_left _ _) (Nat.le_add_left _ _) hC rfl rfl ?_
  refine aw_istore (ls' := [(0, .retAddr 60), (1, .ref 0), (2, .ref 450), (3, .ref 463), (4, .ref 464), (5, .int (nn (6 * k))), (6, .int (nn c))]) dW_2177 (show (6 : Nat) < 10 by decide) rfl ?_
  refine aw_aload_n dW_2179 rfl ?_
  refine aw_aload_nT dW_2180 rfl ?_
  refine aw_iload dW_2181 rfl ?_
  refine aw_iconst dW_2183 ci_1 ?_
  refine aw_iadd dW_2184 ?_
  refine aw_sld rfl dW_2185 (sa_in1 hk hn) ?_
  refine aw_aload_nT dW_2186 rfl ?_
  refine aw_iload dW_2187 rfl ?_
  refine aw_iconst dW_2189 ci_2 ?_
  refine aw_iadd dW_2190 ?_
  refine aw_sld rfl dW_2191 (sa_in2 hk hn) ?_
  refine aw_askV (as := [.int (xs (nn (6 * k) + 1).toNatClampNeg), .int (xs (nn (6 * k) + 2).toNatClampNeg)]) (rst := []) k_X9_typesAt l_L_305 i_X9_typesAt s_X9_typesAt rfl W.m dW_2192 rfl (Nat.le_of_ble_eq_true rfl) (Nat.zero_le _) (Nat.zero_le _) hM rfl rfl ?_
  refine aw_istore (ls' := [(0, .retAddr 60), (1, .ref 0), (2, .ref 450), (3, .ref 463), (4, .ref 464), (5, .int (nn (6 * k))), (6, .int (nn c)), (7, .int v)]) dW_2195 (show (7 : Nat) < 10 by decide) rfl ?_
  refine aw_aload_n dW_2197 rfl ?_
  refine aw_askV (as := []) (rst := []) k_X9_thrown l_L_157 i_X9_thrown s_X9_thrown rfl W.m dW_2198 rfl (Nat.le_of_ble_eq_true rfl) (Nat.zero_le _) (Nat.zero_le _) (eXW_thrown W.m) rfl rfl ?_
  refine aw_iload dW_2201 rfl ?_
  refine aw_icmp_eq (tgt := 2208) dW_2203 (by decide) (fun _ => ?_) (fun z => absurd ht z)
  refine aw_iload dW_2208 rfl ?_
  have fin : am_W (m_W n xs) 282 mc ms true (bc + 1 - 1 - 0 - 0) (bs + 6 - 6 - 0 - 0) 2225 ([(0, .retAddr 60), (1, .ref 0), (2, .ref 450), (3, .ref 463), (4, .ref 464), (5, .int (nn (6 * k))), (6, .int (nn c)), (7, .int v)]) [] Γ I2 L1 Q := by
    refine aw_goto (tgt := 3223) dW_2225 (by decide) ?_
    refine aw_ls (ls' := lwL k) (fun q hq => List.mem_append_left [(6, _), (7, _)] hq) ?_
    exact aw_less (by omega) (by omega) (post I2 L1 hR)
  refine aw_if_ne (tgt := 2225) dW_2210 (by decide) (fun _ => fin) (fun z => ?_)
  have hv := h0 ((nn0_iff hc3).mp z)
  refine aw_aload_n dW_2213 rfl ?_
  refine aw_iconst dW_2214 ci_0 ?_
  refine aw_lald dW_2215 W.a (nn_in (k := 0) (by decide) (by decide)) ?_
  rw [c0, hv]
  refine aw_iload dW_2216 rfl ?_
  refine aw_i2l dW_2218 ?_
  refine aw_lcmp dW_2219 ?_
  exact aw_if_eq (tgt := 2225) dW_2220 (by decide) (fun _ => fin) (fun z2 => absurd (lgc_eq.mpr rfl) z2)
theorem cs_44 (W : wld G Γ) (R : REL I L) (hk : 6 * k + 6 ≤ n) (hn : n ≤ 3072) (post : ∀ I' L', REL I' L' → am_W (m_W n xs) 282 mc ms true bc bs 3223 (lwL k) [] Γ I' L' Q) : am_W (m_W n xs) 282 mc ms true (bc + 1) (bs + 6) 2228 (lwL k) [] Γ I L Q := by
  obtain ⟨I1, L1, I2, c, v, hc3, hC, hM, hR, ht, h0⟩ := hx_leafOf W R (xs (nn (6 * k) + 1).toNatClampNeg) (xs (nn (6 * k) + 2).toNatClampNeg)
  refine aw_aload_n dW_2228 rfl ?_
  refine aw_aload_nT dW_2229 rfl ?_
  refine aw_iload dW_2230 rfl ?_
  refine aw_iconst dW_2232 ci_1 ?_
  refine aw_iadd dW_2233 ?_
  refine aw_sld rfl dW_2234 (sa_in1 hk hn) ?_
  refine aw_aload_nT dW_2235 rfl ?_
  refine aw_iload dW_2236 rfl ?_
  refine aw_iconst dW_2238 ci_2 ?_
  refine aw_iadd dW_2239 ?_
  refine aw_sld rfl dW_2240 (sa_in2 hk hn) ?_
  refine aw_aload_n dW_2241 rfl ?_
  refine aw_askSW (as := [.ref 0, .int (xs (nn (6 * k) + 1).toNatClampNeg), .int (xs (nn (6 * k) + 2).toNatClampNeg), .ref 463]) (rst := []) kw_L_leafOf (by decide) rfl l_L_306 t_L_leafOf dW_2242 rfl (Nat.le_of_ble_eq_true rfl) (Nat.le_add_left _ _) (Nat.le_add_left _ _) hC rfl rfl ?_
  refine aw_istore (ls' := [(0, .retAddr 60), (1, .ref 0), (2, .ref 450), (3, .ref 463), (4, .ref 464), (5, .int (nn (6 * k))), (6, .int (nn c))]) dW_2245 (show (6 : Nat) < 10 by decide) rfl ?_
  refine aw_aload_n dW_2247 rfl ?_
  refine aw_aload_nT dW_2248 rfl ?_
  refine aw_iload dW_2249 rfl ?_
  refine aw_iconst dW_2251 ci_1 ?_
  refine aw_iadd dW_2252 ?_
  refine aw_sld rfl dW_2253 (sa_in1 hk hn) ?_
  refine aw_aload_nT dW_2254 rfl ?_
  refine aw_iload dW_2255 rfl ?_
  refine aw_iconst dW_2257 ci_2 ?_
  refine aw_iadd dW_2258 ?_
  refine aw_sld rfl dW_2259 (sa_in2 hk hn) ?_
  refine aw_askV (as := [.int (xs (nn (6 * k) + 1).toNatClampNeg), .int (xs (nn (6 * k) + 2).toNatClampNeg)]) (rst := []) k_X9_leafOf l_L_308 i_X9_leafOf s_X9_leafOf rfl W.m dW_2260 rfl (Nat.le_of_ble_eq_true rfl) (Nat.zero_le _) (Nat.zero_le _) hM rfl rfl ?_
  refine aw_istore (ls' := [(0, .retAddr 60), (1, .ref 0), (2, .ref 450), (3, .ref 463), (4, .ref 464), (5, .int (nn (6 * k))), (6, .int (nn c)), (7, .int v)]) dW_2263 (show (7 : Nat) < 10 by decide) rfl ?_
  refine aw_aload_n dW_2265 rfl ?_
  refine aw_askV (as := []) (rst := []) k_X9_thrown l_L_157 i_X9_thrown s_X9_thrown rfl W.m dW_2266 rfl (Nat.le_of_ble_eq_true rfl) (Nat.zero_le _) (Nat.zero_le _) (eXW_thrown W.m) rfl rfl ?_
  refine aw_iload dW_2269 rfl ?_
  refine aw_icmp_eq (tgt := 2276) dW_2271 (by decide) (fun _ => ?_) (fun z => absurd ht z)
  refine aw_iload dW_2276 rfl ?_
  have fin : am_W (m_W n xs) 282 mc ms true (bc + 1 - 1 - 0 - 0) (bs + 6 - 6 - 0 - 0) 2293 ([(0, .retAddr 60), (1, .ref 0), (2, .ref 450), (3, .ref 463), (4, .ref 464), (5, .int (nn (6 * k))), (6, .int (nn c)), (7, .int v)]) [] Γ I2 L1 Q := by
    refine aw_goto (tgt := 3223) dW_2293 (by decide) ?_
    refine aw_ls (ls' := lwL k) (fun q hq => List.mem_append_left [(6, _), (7, _)] hq) ?_
    exact aw_less (by omega) (by omega) (post I2 L1 hR)
  refine aw_if_ne (tgt := 2293) dW_2278 (by decide) (fun _ => fin) (fun z => ?_)
  have hv := h0 ((nn0_iff hc3).mp z)
  refine aw_aload_n dW_2281 rfl ?_
  refine aw_iconst dW_2282 ci_0 ?_
  refine aw_lald dW_2283 W.a (nn_in (k := 0) (by decide) (by decide)) ?_
  rw [c0, hv]
  refine aw_iload dW_2284 rfl ?_
  refine aw_i2l dW_2286 ?_
  refine aw_lcmp dW_2287 ?_
  exact aw_if_eq (tgt := 2293) dW_2288 (by decide) (fun _ => fin) (fun z2 => absurd (lgc_eq.mpr rfl) z2)
theorem cs_45 (W : wld G Γ) (R : REL I L) (hk : 6 * k + 6 ≤ n) (hn : n ≤ 3072) (post : ∀ I' L', REL I' L' → am_W (m_W n xs) 282 mc ms true bc bs 3223 (lwL k) [] Γ I' L' Q) : am_W (m_W n xs) 282 mc ms true (bc + 1) (bs + 6) 2296 (lwL k) [] Γ I L Q := by
  obtain ⟨I1, L1, I2, c, v, hc3, hC, hM, hR, ht, h0⟩ := hx_chargedToll W R (xs (nn (6 * k) + 1).toNatClampNeg) (xs (nn (6 * k) + 2).toNatClampNeg)
  refine aw_aload_n dW_2296 rfl ?_
  refine aw_aload_nT dW_2297 rfl ?_
  refine aw_iload dW_2298 rfl ?_
  refine aw_iconst dW_2300 ci_1 ?_
  refine aw_iadd dW_2301 ?_
  refine aw_sld rfl dW_2302 (sa_in1 hk hn) ?_
  refine aw_aload_nT dW_2303 rfl ?_
  refine aw_iload dW_2304 rfl ?_
  refine aw_iconst dW_2306 ci_2 ?_
  refine aw_iadd dW_2307 ?_
  refine aw_sld rfl dW_2308 (sa_in2 hk hn) ?_
  refine aw_aload_n dW_2309 rfl ?_
  refine aw_askSW (as := [.ref 0, .int (xs (nn (6 * k) + 1).toNatClampNeg), .int (xs (nn (6 * k) + 2).toNatClampNeg), .ref 463]) (rst := []) kw_L_chargedToll (by decide) rfl l_L_309 t_L_chargedToll dW_2310 rfl (Nat.le_of_ble_eq_true rfl) (Nat.le_add_left _ _) (Nat.le_add_left _ _) hC rfl rfl ?_
  refine aw_istore (ls' := [(0, .retAddr 60), (1, .ref 0), (2, .ref 450), (3, .ref 463), (4, .ref 464), (5, .int (nn (6 * k))), (6, .int (nn c))]) dW_2313 (show (6 : Nat) < 10 by decide) rfl ?_
  refine aw_aload_n dW_2315 rfl ?_
  refine aw_aload_nT dW_2316 rfl ?_
  refine aw_iload dW_2317 rfl ?_
  refine aw_iconst dW_2319 ci_1 ?_
  refine aw_iadd dW_2320 ?_
  refine aw_sld rfl dW_2321 (sa_in1 hk hn) ?_
  refine aw_aload_nT dW_2322 rfl ?_
  refine aw_iload dW_2323 rfl ?_
  refine aw_iconst dW_2325 ci_2 ?_
  refine aw_iadd dW_2326 ?_
  refine aw_sld rfl dW_2327 (sa_in2 hk hn) ?_
  refine aw_askV (as := [.int (xs (nn (6 * k) + 1).toNatClampNeg), .int (xs (nn (6 * k) + 2).toNatClampNeg)]) (rst := []) k_X9_chargedToll l_L_311 i_X9_chargedToll s_X9_chargedToll rfl W.m dW_2328 rfl (Nat.le_of_ble_eq_true rfl) (Nat.zero_le _) (Nat.zero_le _) hM rfl rfl ?_
  refine aw_istore (ls' := [(0, .retAddr 60), (1, .ref 0), (2, .ref 450), (3, .ref 463), (4, .ref 464), (5, .int (nn (6 * k))), (6, .int (nn c)), (7, .int v)]) dW_2331 (show (7 : Nat) < 10 by decide) rfl ?_
  refine aw_aload_n dW_2333 rfl ?_
  refine aw_askV (as := []) (rst := []) k_X9_thrown l_L_157 i_X9_thrown s_X9_thrown rfl W.m dW_2334 rfl (Nat.le_of_ble_eq_true rfl) (Nat.zero_le _) (Nat.zero_le _) (eXW_thrown W.m) rfl rfl ?_
  refine aw_iload dW_2337 rfl ?_
  refine aw_icmp_eq (tgt := 2344) dW_2339 (by decide) (fun _ => ?_) (fun z => absurd ht z)
  refine aw_iload dW_2344 rfl ?_
  have fin : am_W (m_W n xs) 282 mc ms true (bc + 1 - 1 - 0 - 0) (bs + 6 - 6 - 0 - 0) 2361 ([(0, .retAddr 60), (1, .ref 0), (2, .ref 450), (3, .ref 463), (4, .ref 464), (5, .int (nn (6 * k))), (6, .int (nn c)), (7, .int v)]) [] Γ I2 L1 Q := by
    refine aw_goto (tgt := 3223) dW_2361 (by decide) ?_
    refine aw_ls (ls' := lwL k) (fun q hq => List.mem_append_left [(6, _), (7, _)] hq) ?_
    exact aw_less (by omega) (by omega) (post I2 L1 hR)
  refine aw_if_ne (tgt := 2361) dW_2346 (by decide) (fun _ => fin) (fun z => ?_)
  have hv := h0 ((nn0_iff hc3).mp z)
  refine aw_aload_n dW_2349 rfl ?_
  refine aw_iconst dW_2350 ci_0 ?_
  refine aw_lald dW_2351 W.a (nn_in (k := 0) (by decide) (by decide)) ?_
  rw [c0, hv]
  refine aw_iload dW_2352 rfl ?_
  refine aw_i2l dW_2354 ?_
  refine aw_lcmp dW_2355 ?_
  exact aw_if_eq (tgt := 2361) dW_2356 (by decide) (fun _ => fin) (fun z2 => absurd (lgc_eq.mpr rfl) z2)
end LWC
