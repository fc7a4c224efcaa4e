/-! THE LAW'S BODY: CASES 20 TO 29 -/
section LWC
variable {n k mc ms bc bs : Nat} {xs : Nat → Int32} {G Γ : am_G} {I : am_I} {L : am_L} {Q : am_Q}
theorem cs_20 (W : wld G Γ) (R : REL I L) (hk : 6 * k + 6 ≤ n) (hn : n ≤ 3072) (post : ∀ I' L', REL I' L' → am_W (m_W n xs) 282 mc ms true bc bs 3223 (lwL k) [] Γ I' L' Q) : am_W (m_W n xs) 282 mc ms true (bc + 1) (bs + 6) 1094 (lwL k) [] Γ I L Q := by
  obtain ⟨I1, L1, I2, c, v, hc3, hC, hM, hR, ht, h0⟩ := hx_questionCost W R (xs (nn (6 * k) + 1).toNatClampNeg)
  refine aw_aload_n dW_1094 rfl ?_
  refine aw_aload_nT dW_1095 rfl ?_
  refine aw_iload dW_1096 rfl ?_
  refine aw_iconst dW_1098 ci_1 ?_
  refine aw_iadd dW_1099 ?_
  refine aw_sld rfl dW_1100 (sa_in1 hk hn) ?_
  refine aw_aload_n dW_1101 rfl ?_
  refine aw_askSW (as := [.ref 0, .int (xs (nn (6 * k) + 1).toNatClampNeg), .ref 463]) (rst := []) kw_L_questionCost (by decide) rfl l_L_226 t_L_questionCost dW_1102 rfl (Nat.le_of_ble_eq_true rfl) (Nat.le_add_left _ _) (Nat.le_add_left _ _) hC rfl rfl ?_
  refine aw_istore (ls' := [(0, .retAddr 60), (1, .ref 0), (2, .ref 450), (3, .ref 463), (4, .ref 464), (5, .int (nn (6 * k))), (6, .int (nn c))]) dW_1105 (show (6 : Nat) < 10 by decide) rfl ?_
  refine aw_aload_n dW_1107 rfl ?_
  refine aw_aload_nT dW_1108 rfl ?_
  refine aw_iload dW_1109 rfl ?_
  refine aw_iconst dW_1111 ci_1 ?_
  refine aw_iadd dW_1112 ?_
  refine aw_sld rfl dW_1113 (sa_in1 hk hn) ?_
  refine aw_askV (as := [.int (xs (nn (6 * k) + 1).toNatClampNeg)]) (rst := []) k_X9_questionCost l_L_228 i_X9_questionCost s_X9_questionCost rfl W.m dW_1114 rfl (Nat.le_of_ble_eq_true rfl) (Nat.zero_le _) (Nat.zero_le _) hM rfl rfl ?_
  refine aw_istore (ls' := [(0, .retAddr 60), (1, .ref 0), (2, .ref 450), (3, .ref 463), (4, .ref 464), (5, .int (nn (6 * k))), (6, .int (nn c)), (7, .int v)]) dW_1117 (show (7 : Nat) < 10 by decide) rfl ?_
  refine aw_aload_n dW_1119 rfl ?_
  refine aw_askV (as := []) (rst := []) k_X9_thrown l_L_157 i_X9_thrown s_X9_thrown rfl W.m dW_1120 rfl (Nat.le_of_ble_eq_true rfl) (Nat.zero_le _) (Nat.zero_le _) (eXW_thrown W.m) rfl rfl ?_
  refine aw_iload dW_1123 rfl ?_
  refine aw_icmp_eq (tgt := 1130) dW_1125 (by decide) (fun _ => ?_) (fun z => absurd ht z)
  refine aw_iload dW_1130 rfl ?_
  have fin : am_W (m_W n xs) 282 mc ms true (bc + 1 - 1 - 0 - 0) (bs + 6 - 6 - 0 - 0) 1147 ([(0, .retAddr 60), (1, .ref 0), (2, .ref 450), (3, .ref 463), (4, .ref 464), (5, .int (nn (6 * k))), (6, .int (nn c)), (7, .int v)]) [] Γ I2 L1 Q := by
    refine aw_goto (tgt := 3223) dW_1147 (by decide) ?_
    refine aw_ls (ls' := lwL k) (fun q hq => List.mem_append_left [(6, _), (7, _)] hq) ?_
    exact aw_less (by omega) (by omega) (post I2 L1 hR)
  refine aw_if_ne (tgt := 1147) dW_1132 (by decide) (fun _ => fin) (fun z => ?_)
  have hv := h0 ((nn0_iff hc3).mp z)
  refine aw_aload_n dW_1135 rfl ?_
  refine aw_iconst dW_1136 ci_0 ?_
  refine aw_lald dW_1137 W.a (nn_in (k := 0) (by decide) (by decide)) ?_
  rw [c0, hv]
  refine aw_iload dW_1138 rfl ?_
  refine aw_i2l dW_1140 ?_
  refine aw_lcmp dW_1141 ?_
  exact aw_if_eq (tgt := 1147) dW_1142 (by decide) (fun _ => fin) (fun z2 => absurd (lgc_eq.mpr rfl) z2)
theorem cs_21 (W : wld G Γ) (R : REL I L) (hk : 6 * k + 6 ≤ n) (hn : n ≤ 3072) (post : ∀ I' L', REL I' L' → am_W (m_W n xs) 282 mc ms true bc bs 3223 (lwL k) [] Γ I' L' Q) : am_W (m_W n xs) 282 mc ms true (bc + 1) (bs + 6) 1150 (lwL k) [] Γ I L Q := by
  obtain ⟨I1, L1, I2, c, v, hc3, hC, hM, hR, ht, h0⟩ := hx_hasTrait W R (xs (nn (6 * k) + 1).toNatClampNeg) (xs (nn (6 * k) + 2).toNatClampNeg)
  refine aw_aload_n dW_1150 rfl ?_
  refine aw_aload_nT dW_1151 rfl ?_
  refine aw_iload dW_1152 rfl ?_
  refine aw_iconst dW_1154 ci_1 ?_
  refine aw_iadd dW_1155 ?_
  refine aw_sld rfl dW_1156 (sa_in1 hk hn) ?_
  refine aw_aload_nT dW_1157 rfl ?_
  refine aw_iload dW_1158 rfl ?_
  refine aw_iconst dW_1160 ci_2 ?_
  refine aw_iadd dW_1161 ?_
  refine aw_sld rfl dW_1162 (sa_in2 hk hn) ?_
  refine aw_aload_n dW_1163 rfl ?_
  refine aw_askSW (as := [.ref 0, .int (xs (nn (6 * k) + 1).toNatClampNeg), .int (xs (nn (6 * k) + 2).toNatClampNeg), .ref 463]) (rst := []) kw_L_hasTrait (by decide) rfl l_L_229 t_L_hasTrait dW_1164 rfl (Nat.le_of_ble_eq_true rfl) (Nat.le_add_left _ _) (Nat.le_add_left _ _) hC rfl rfl ?_
  refine aw_istore (ls' := [(0, .retAddr 60), (1, .ref 0), (2, .ref 450), (3, .ref 463), (4, .ref 464), (5, .int (nn (6 * k))), (6, .int (nn c))]) dW_1167 (show (6 : Nat) < 10 by decide) rfl ?_
  refine aw_aload_n dW_1169 rfl ?_
  refine aw_aload_nT dW_1170 rfl ?_
  refine aw_iload dW_1171 rfl ?_
  refine aw_iconst dW_1173 ci_1 ?_
  refine aw_iadd dW_1174 ?_
  refine aw_sld rfl dW_1175 (sa_in1 hk hn) ?_
  refine aw_aload_nT dW_1176 rfl ?_
  refine aw_iload dW_1177 rfl ?_
  refine aw_iconst dW_1179 ci_2 ?_
  refine aw_iadd dW_1180 ?_
  refine aw_sld rfl dW_1181 (sa_in2 hk hn) ?_
  refine aw_askV (as := [.int (xs (nn (6 * k) + 1).toNatClampNeg), .int (xs (nn (6 * k) + 2).toNatClampNeg)]) (rst := []) k_X9_hasTrait l_L_231 i_X9_hasTrait s_X9_hasTrait rfl W.m dW_1182 rfl (Nat.le_of_ble_eq_true rfl) (Nat.zero_le _) (Nat.zero_le _) hM rfl rfl ?_
  refine aw_istore (ls' := [(0, .retAddr 60), (1, .ref 0), (2, .ref 450), (3, .ref 463), (4, .ref 464), (5, .int (nn (6 * k))), (6, .int (nn c)), (7, .int v)]) dW_1185 (show (7 : Nat) < 10 by decide) rfl ?_
  refine aw_aload_n dW_1187 rfl ?_
  refine aw_askV (as := []) (rst := []) k_X9_thrown l_L_157 i_X9_thrown s_X9_thrown rfl W.m dW_1188 rfl (Nat.le_of_ble_eq_true rfl) (Nat.zero_le _) (Nat.zero_le _) (eXW_thrown W.m) rfl rfl ?_
  refine aw_iload dW_1191 rfl ?_
  refine aw_icmp_eq (tgt := 1198) dW_1193 (by decide) (fun _ => ?_) (fun z => absurd ht z)
  refine aw_iload dW_1198 rfl ?_
  have fin : am_W (m_W n xs) 282 mc ms true (bc + 1 - 1 - 0 - 0) (bs + 6 - 6 - 0 - 0) 1222 ([(0, .retAddr 60), (1, .ref 0), (2, .ref 450), (3, .ref 463), (4, .ref 464), (5, .int (nn (6 * k))), (6, .int (nn c)), (7, .int v)]) [] Γ I2 L1 Q := by
    refine aw_goto (tgt := 3223) dW_1222 (by decide) ?_
    refine aw_ls (ls' := lwL k) (fun q hq => List.mem_append_left [(6, _), (7, _)] hq) ?_
    exact aw_less (by omega) (by omega) (post I2 L1 hR)
  refine aw_if_ne (tgt := 1222) dW_1200 (by decide) (fun _ => fin) (fun z => ?_)
  have hv := h0 ((nn0_iff hc3).mp z)
  refine aw_aload_n dW_1203 rfl ?_
  refine aw_iconst dW_1204 ci_0 ?_
  refine aw_lald dW_1205 W.a (nn_in (k := 0) (by decide) (by decide)) ?_
  rw [c0, hv]
  refine aw_iload dW_1206 rfl ?_
  have cmp : ∀ a b : Int64, a = b → am_W (m_W n xs) 282 mc ms true (bc + 1 - 1 - 0 - 0) (bs + 6 - 6 - 0 - 0) 1216 ([(0, .retAddr 60), (1, .ref 0), (2, .ref 450), (3, .ref 463), (4, .ref 464), (5, .int (nn (6 * k))), (6, .int (nn c)), (7, .int v)]) [.long b, .long a] Γ I2 L1 Q := fun a b hab => by
    refine aw_lcmp dW_1216 ?_
    exact aw_if_eq (tgt := 1222) dW_1217 (by decide) (fun _ => fin) (fun z2 => absurd (lgc_eq.mpr hab) z2)
  refine aw_if_eq (tgt := 1215) dW_1208 (by decide) (fun z2 => ?_) (fun z2 => ?_)
  · refine aw_lconst dW_1215 cL_0 ?_
    exact cmp _ _ (by unfold fZ; rw [if_pos z2])
  · refine aw_lconst dW_1211 cL_1 ?_
    refine aw_goto (tgt := 1216) dW_1212 (by decide) ?_
    exact cmp _ _ (by unfold fZ; rw [if_neg z2])
theorem cs_22 (W : wld G Γ) (R : REL I L) (hk : 6 * k + 6 ≤ n) (hn : n ≤ 3072) (post : ∀ I' L', REL I' L' → am_W (m_W n xs) 282 mc ms true bc bs 3223 (lwL k) [] Γ I' L' Q) : am_W (m_W n xs) 282 mc ms true (bc + 1) (bs + 6) 1225 (lwL k) [] Γ I L Q := by
  obtain ⟨I1, L1, I2, c, v, hc3, hC, hM, hR, ht, h0⟩ := hx_toll W R (xs (nn (6 * k) + 1).toNatClampNeg)
  refine aw_aload_n dW_1225 rfl ?_
  refine aw_aload_nT dW_1226 rfl ?_
  refine aw_iload dW_1227 rfl ?_
  refine aw_iconst dW_1229 ci_1 ?_
  refine aw_iadd dW_1230 ?_
  refine aw_sld rfl dW_1231 (sa_in1 hk hn) ?_
  refine aw_aload_n dW_1232 rfl ?_
  refine aw_askSW (as := [.ref 0, .int (xs (nn (6 * k) + 1).toNatClampNeg), .ref 463]) (rst := []) kw_L_toll (by decide) rfl l_L_232 t_L_toll dW_1233 rfl (Nat.le_of_ble_eq_true rfl) (Nat.le_add_left _ _) (Nat.le_add_left _ _) hC rfl rfl ?_
  refine aw_istore (ls' := [(0, .retAddr 60), (1, .ref 0), (2, .ref 450), (3, .ref 463), (4, .ref 464), (5, .int (nn (6 * k))), (6, .int (nn c))]) dW_1236 (show (6 : Nat) < 10 by decide) rfl ?_
  refine aw_aload_n dW_1238 rfl ?_
  refine aw_aload_nT dW_1239 rfl ?_
  refine aw_iload dW_1240 rfl ?_
  refine aw_iconst dW_1242 ci_1 ?_
  refine aw_iadd dW_1243 ?_
  refine aw_sld rfl dW_1244 (sa_in1 hk hn) ?_
  refine aw_askV (as := [.int (xs (nn (6 * k) + 1).toNatClampNeg)]) (rst := []) k_X9_toll l_L_234 i_X9_toll s_X9_toll rfl W.m dW_1245 rfl (Nat.le_of_ble_eq_true rfl) (Nat.zero_le _) (Nat.zero_le _) hM rfl rfl ?_
  refine aw_istore (ls' := [(0, .retAddr 60), (1, .ref 0), (2, .ref 450), (3, .ref 463), (4, .ref 464), (5, .int (nn (6 * k))), (6, .int (nn c)), (7, .int v)]) dW_1248 (show (7 : Nat) < 10 by decide) rfl ?_
  refine aw_aload_n dW_1250 rfl ?_
  refine aw_askV (as := []) (rst := []) k_X9_thrown l_L_157 i_X9_thrown s_X9_thrown rfl W.m dW_1251 rfl (Nat.le_of_ble_eq_true rfl) (Nat.zero_le _) (Nat.zero_le _) (eXW_thrown W.m) rfl rfl ?_
  refine aw_iload dW_1254 rfl ?_
  refine aw_icmp_eq (tgt := 1261) dW_1256 (by decide) (fun _ => ?_) (fun z => absurd ht z)
  refine aw_iload dW_1261 rfl ?_
  have fin : am_W (m_W n xs) 282 mc ms true (bc + 1 - 1 - 0 - 0) (bs + 6 - 6 - 0 - 0) 1278 ([(0, .retAddr 60), (1, .ref 0), (2, .ref 450), (3, .ref 463), (4, .ref 464), (5, .int (nn (6 * k))), (6, .int (nn c)), (7, .int v)]) [] Γ I2 L1 Q := by
    refine aw_goto (tgt := 3223) dW_1278 (by decide) ?_
    refine aw_ls (ls' := lwL k) (fun q hq => List.mem_append_left [(6, _), (7, _)] hq) ?_
    exact aw_less (by omega) (by omega) (post I2 L1 hR)
  refine aw_if_ne (tgt := 1278) dW_1263 (by decide) (fun _ => fin) (fun z => ?_)
  have hv := h0 ((nn0_iff hc3).mp z)
  refine aw_aload_n dW_1266 rfl ?_
  refine aw_iconst dW_1267 ci_0 ?_
  refine aw_lald dW_1268 W.a (nn_in (k := 0) (by decide) (by decide)) ?_
  rw [c0, hv]
  refine aw_iload dW_1269 rfl ?_
  refine aw_i2l dW_1271 ?_
  refine aw_lcmp dW_1272 ?_
  exact aw_if_eq (tgt := 1278) dW_1273 (by decide) (fun _ => fin) (fun z2 => absurd (lgc_eq.mpr rfl) z2)
theorem cs_23 (W : wld G Γ) (R : REL I L) (hk : 6 * k + 6 ≤ n) (hn : n ≤ 3072) (post : ∀ I' L', REL I' L' → am_W (m_W n xs) 282 mc ms true bc bs 3223 (lwL k) [] Γ I' L' Q) : am_W (m_W n xs) 282 mc ms true (bc + 1) (bs + 6) 1281 (lwL k) [] Γ I L Q := by
  obtain ⟨I1, L1, I2, c, v, hc3, hC, hM, hR, ht, h0⟩ := hx_countAt W R (xs (nn (6 * k) + 1).toNatClampNeg) (xs (nn (6 * k) + 2).toNatClampNeg)
  refine aw_aload_n dW_1281 rfl ?_
  refine aw_aload_nT dW_1282 rfl ?_
  refine aw_iload dW_1283 rfl ?_
  refine aw_iconst dW_1285 ci_1 ?_
  refine aw_iadd dW_1286 ?_
  refine aw_sld rfl dW_1287 (sa_in1 hk hn) ?_
  refine aw_aload_nT dW_1288 rfl ?_
  refine aw_iload dW_1289 rfl ?_
  refine aw_iconst dW_1291 ci_2 ?_
  refine aw_iadd dW_1292 ?_
  refine aw_sld rfl dW_1293 (sa_in2 hk hn) ?_
  refine aw_aload_n dW_1294 rfl ?_
  refine aw_askSW (as := [.ref 0, .int (xs (nn (6 * k) + 1).toNatClampNeg), .int (xs (nn (6 * k) + 2).toNatClampNeg), .ref 463]) (rst := []) kw_L_countAt (by decide) rfl l_L_235 t_L_countAt dW_1295 rfl (Nat.le_of_ble_eq_true rfl) (Nat.le_add_left _ _) (Nat.le_add_left _ _) hC rfl rfl ?_
  refine aw_istore (ls' := [(0, .retAddr 60), (1, .ref 0), (2, .ref 450), (3, .ref 463), (4, .ref 464), (5, .int (nn (6 * k))), (6, .int (nn c))]) dW_1298 (show (6 : Nat) < 10 by decide) rfl ?_
  refine aw_aload_n dW_1300 rfl ?_
  refine aw_aload_nT dW_1301 rfl ?_
  refine aw_iload dW_1302 rfl ?_
  refine aw_iconst dW_1304 ci_1 ?_
  refine aw_iadd dW_1305 ?_
  refine aw_sld rfl dW_1306 (sa_in1 hk hn) ?_
  refine aw_aload_nT dW_1307 rfl ?_
  refine aw_iload dW_1308 rfl ?_
  refine aw_iconst dW_1310 ci_2 ?_
  refine aw_iadd dW_1311 ?_
  refine aw_sld rfl dW_1312 (sa_in2 hk hn) ?_
  refine aw_askV (as := [.int (xs (nn (6 * k) + 1).toNatClampNeg), .int (xs (nn (6 * k) + 2).toNatClampNeg)]) (rst := []) k_X9_countAt l_L_237 i_X9_countAt s_X9_countAt rfl W.m dW_1313 rfl (Nat.le_of_ble_eq_true rfl) (Nat.zero_le _) (Nat.zero_le _) hM rfl rfl ?_
  refine aw_istore (ls' := [(0, .retAddr 60), (1, .ref 0), (2, .ref 450), (3, .ref 463), (4, .ref 464), (5, .int (nn (6 * k))), (6, .int (nn c)), (7, .int v)]) dW_1316 (show (7 : Nat) < 10 by decide) rfl ?_
  refine aw_aload_n dW_1318 rfl ?_
  refine aw_askV (as := []) (rst := []) k_X9_thrown l_L_157 i_X9_thrown s_X9_thrown rfl W.m dW_1319 rfl (Nat.le_of_ble_eq_true rfl) (Nat.zero_le _) (Nat.zero_le _) (eXW_thrown W.m) rfl rfl ?_
  refine aw_iload dW_1322 rfl ?_
  refine aw_icmp_eq (tgt := 1329) dW_1324 (by decide) (fun _ => ?_) (fun z => absurd ht z)
  refine aw_iload dW_1329 rfl ?_
  have fin : am_W (m_W n xs) 282 mc ms true (bc + 1 - 1 - 0 - 0) (bs + 6 - 6 - 0 - 0) 1346 ([(0, .retAddr 60), (1, .ref 0), (2, .ref 450), (3, .ref 463), (4, .ref 464), (5, .int (nn (6 * k))), (6, .int (nn c)), (7, .int v)]) [] Γ I2 L1 Q := by
    refine aw_goto (tgt := 3223) dW_1346 (by decide) ?_
    refine aw_ls (ls' := lwL k) (fun q hq => List.mem_append_left [(6, _), (7, _)] hq) ?_
    exact aw_less (by omega) (by omega) (post I2 L1 hR)
  refine aw_if_ne (tgt := 1346) dW_1331 (by decide) (fun _ => fin) (fun z => ?_)
  have hv := h0 ((nn0_iff hc3).mp z)
  refine aw_aload_n dW_1334 rfl ?_
  refine aw_iconst dW_1335 ci_0 ?_
  refine aw_lald dW_1336 W.a (nn_in (k := 0) (by decide) (by decide)) ?_
  rw [c0, hv]
  refine aw_iload dW_1337 rfl ?_
  refine aw_i2l dW_1339 ?_
  refine aw_lcmp dW_1340 ?_
  exact aw_if_eq (tgt := 1346) dW_1341 (by decide) (fun _ => fin) (fun z2 => absurd (lgc_eq.mpr rfl) z2)
theorem cs_24 (W : wld G Γ) (R : REL I L) (hk : 6 * k + 6 ≤ n) (hn : n ≤ 3072) (post : ∀ I' L', REL I' L' → am_W (m_W n xs) 282 mc ms true bc bs 3223 (lwL k) [] Γ I' L' Q) : am_W (m_W n xs) 282 mc ms true (bc + 1) (bs + 6) 1349 (lwL k) [] Γ I L Q := by
  obtain ⟨I1, L1, I2, c, v, hc3, hC, hM, hR, ht, h0⟩ := hx_costLimit W R (xs (nn (6 * k) + 1).toNatClampNeg)
  refine aw_aload_n dW_1349 rfl ?_
  refine aw_aload_nT dW_1350 rfl ?_
  refine aw_iload dW_1351 rfl ?_
  refine aw_iconst dW_1353 ci_1 ?_
  refine aw_iadd dW_1354 ?_
  refine aw_sld rfl dW_1355 (sa_in1 hk hn) ?_
  refine aw_aload_n dW_1356 rfl ?_
  refine aw_askSW (as := [.ref 0, .int (xs (nn (6 * k) + 1).toNatClampNeg), .ref 463]) (rst := []) kw_L_costLimit (by decide) rfl l_L_238 t_L_costLimit dW_1357 rfl (Nat.le_of_ble_eq_true rfl) (Nat.le_add_left _ _) (Nat.le_add_left _ _) hC rfl rfl ?_
  refine aw_istore (ls' := [(0, .retAddr 60), (1, .ref 0), (2, .ref 450), (3, .ref 463), (4, .ref 464), (5, .int (nn (6 * k))), (6, .int (nn c))]) dW_1360 (show (6 : Nat) < 10 by decide) rfl ?_
  refine aw_aload_n dW_1362 rfl ?_
  refine aw_aload_nT dW_1363 rfl ?_
  refine aw_iload dW_1364 rfl ?_
  refine aw_iconst dW_1366 ci_1 ?_
  refine aw_iadd dW_1367 ?_
  refine aw_sld rfl dW_1368 (sa_in1 hk hn) ?_
  refine aw_askV (as := [.int (xs (nn (6 * k) + 1).toNatClampNeg)]) (rst := []) k_X9_costLimit l_L_240 i_X9_costLimit s_X9_costLimit rfl W.m dW_1369 rfl (Nat.le_of_ble_eq_true rfl) (Nat.zero_le _) (Nat.zero_le _) hM rfl rfl ?_
  refine aw_istore (ls' := [(0, .retAddr 60), (1, .ref 0), (2, .ref 450), (3, .ref 463), (4, .ref 464), (5, .int (nn (6 * k))), (6, .int (nn c)), (7, .int v)]) dW_1372 (show (7 : Nat) < 10 by decide) rfl ?_
  refine aw_aload_n dW_1374 rfl ?_
  refine aw_askV (as := []) (rst := []) k_X9_thrown l_L_157 i_X9_thrown s_X9_thrown rfl W.m dW_1375 rfl (Nat.le_of_ble_eq_true rfl) (Nat.zero_le _) (Nat.zero_le _) (eXW_thrown W.m) rfl rfl ?_
  refine aw_iload dW_1378 rfl ?_
  refine aw_icmp_eq (tgt := 1385) dW_1380 (by decide) (fun _ => ?_) (fun z => absurd ht z)
  refine aw_iload dW_1385 rfl ?_
  have fin : am_W (m_W n xs) 282 mc ms true (bc + 1 - 1 - 0 - 0) (bs + 6 - 6 - 0 - 0) 1402 ([(0, .retAddr 60), (1, .ref 0), (2, .ref 450), (3, .ref 463), (4, .ref 464), (5, .int (nn (6 * k))), (6, .int (nn c)), (7, .int v)]) [] Γ I2 L1 Q := by
    refine aw_goto (tgt := 3223) dW_1402 (by decide) ?_
    refine aw_ls (ls' := lwL k) (fun q hq => List.mem_append_left [(6, _), (7, _)] hq) ?_
    exact aw_less (by omega) (by omega) (post I2 L1 hR)
  refine aw_if_ne (tgt := 1402) dW_1387 (by decide) (fun _ => fin) (fun z => ?_)
  have hv := h0 ((nn0_iff hc3).mp z)
  refine aw_aload_n dW_1390 rfl ?_
  refine aw_iconst dW_1391 ci_0 ?_
  refine aw_lald dW_1392 W.a (nn_in (k := 0) (by decide) (by decide)) ?_
  rw [c0, hv]
  refine aw_iload dW_1393 rfl ?_
  refine aw_i2l dW_1395 ?_
  refine aw_lcmp dW_1396 ?_
  exact aw_if_eq (tgt := 1402) dW_1397 (by decide) (fun _ => fin) (fun z2 => absurd (lgc_eq.mpr rfl) z2)
theorem cs_25 (W : wld G Γ) (R : REL I L) (hk : 6 * k + 6 ≤ n) (hn : n ≤ 3072) (post : ∀ I' L', REL I' L' → am_W (m_W n xs) 282 mc ms true bc bs 3223 (lwL k) [] Γ I' L' Q) : am_W (m_W n xs) 282 mc ms true (bc + 1) (bs + 6) 1405 (lwL k) [] Γ I L Q := by
  obtain ⟨I1, L1, I2, c, v, hc3, hC, hM, hR, ht, h0⟩ := hx_isOpen W R (xs (nn (6 * k) + 1).toNatClampNeg)
  refine aw_aload_n dW_1405 rfl ?_
  refine aw_aload_nT dW_1406 rfl ?_
  refine aw_iload dW_1407 rfl ?_
  refine aw_iconst dW_1409 ci_1 ?_
  refine aw_iadd dW_1410 ?_
  refine aw_sld rfl dW_1411 (sa_in1 hk hn) ?_
  refine aw_aload_n dW_1412 rfl ?_
  refine aw_askSW (as := [.ref 0, .int (xs (nn (6 * k) + 1).toNatClampNeg), .ref 463]) (rst := []) kw_L_isOpen (by decide) rfl l_L_241 t_L_isOpen dW_1413 rfl (Nat.le_of_ble_eq_true rfl) (Nat.le_add_left _ _) (Nat.le_add_left _ _) hC rfl rfl ?_
  refine aw_istore (ls' := [(0, .retAddr 60), (1, .ref 0), (2, .ref 450), (3, .ref 463), (4, .ref 464), (5, .int (nn (6 * k))), (6, .int (nn c))]) dW_1416 (show (6 : Nat) < 10 by decide) rfl ?_
  refine aw_aload_n dW_1418 rfl ?_
  refine aw_aload_nT dW_1419 rfl ?_
  refine aw_iload dW_1420 rfl ?_
  refine aw_iconst dW_1422 ci_1 ?_
  refine aw_iadd dW_1423 ?_
  refine aw_sld rfl dW_1424 (sa_in1 hk hn) ?_
  refine aw_askV (as := [.int (xs (nn (6 * k) + 1).toNatClampNeg)]) (rst := []) k_X9_isOpen l_L_243 i_X9_isOpen s_X9_isOpen rfl W.m dW_1425 rfl (Nat.le_of_ble_eq_true rfl) (Nat.zero_le _) (Nat.zero_le _) hM rfl rfl ?_
  refine aw_istore (ls' := [(0, .retAddr 60), (1, .ref 0), (2, .ref 450), (3, .ref 463), (4, .ref 464), (5, .int (nn (6 * k))), (6, .int (nn c)), (7, .int v)]) dW_1428 (show (7 : Nat) < 10 by decide) rfl ?_
  refine aw_aload_n dW_1430 rfl ?_
  refine aw_askV (as := []) (rst := []) k_X9_thrown l_L_157 i_X9_thrown s_X9_thrown rfl W.m dW_1431 rfl (Nat.le_of_ble_eq_true rfl) (Nat.zero_le _) (Nat.zero_le _) (eXW_thrown W.m) rfl rfl ?_
  refine aw_iload dW_1434 rfl ?_
  refine aw_icmp_eq (tgt := 1441) dW_1436 (by decide) (fun _ => ?_) (fun z => absurd ht z)
  refine aw_iload dW_1441 rfl ?_
  have fin : am_W (m_W n xs) 282 mc ms true (bc + 1 - 1 - 0 - 0) (bs + 6 - 6 - 0 - 0) 1465 ([(0, .retAddr 60), (1, .ref 0), (2, .ref 450), (3, .ref 463), (4, .ref 464), (5, .int (nn (6 * k))), (6, .int (nn c)), (7, .int v)]) [] Γ I2 L1 Q := by
    refine aw_goto (tgt := 3223) dW_1465 (by decide) ?_
    refine aw_ls (ls' := lwL k) (fun q hq => List.mem_append_left [(6, _), (7, _)] hq) ?_
    exact aw_less (by omega) (by omega) (post I2 L1 hR)
  refine aw_if_ne (tgt := 1465) dW_1443 (by decide) (fun _ => fin) (fun z => ?_)
  have hv := h0 ((nn0_iff hc3).mp z)
  refine aw_aload_n dW_1446 rfl ?_
  refine aw_iconst dW_1447 ci_0 ?_
  refine aw_lald dW_1448 W.a (nn_in (k := 0) (by decide) (by decide)) ?_
  rw [c0, hv]
  refine aw_iload dW_1449 rfl ?_
  have cmp : ∀ a b : Int64, a = b → am_W (m_W n xs) 282 mc ms true (bc + 1 - 1 - 0 - 0) (bs + 6 - 6 - 0 - 0) 1459 ([(0, .retAddr 60), (1, .ref 0), (2, .ref 450), (3, .ref 463), (4, .ref 464), (5, .int (nn (6 * k))), (6, .int (nn c)), (7, .int v)]) [.long b, .long a] Γ I2 L1 Q := fun a b hab => by
    refine aw_lcmp dW_1459 ?_
    exact aw_if_eq (tgt := 1465) dW_1460 (by decide) (fun _ => fin) (fun z2 => absurd (lgc_eq.mpr hab) z2)
  refine aw_if_eq (tgt := 1458) dW_1451 (by decide) (fun z2 => ?_) (fun z2 => ?_)
  · refine aw_lconst dW_1458 cL_0 ?_
    exact cmp _ _ (by unfold fZ; rw [if_pos z2])
  · refine aw_lconst dW_1454 cL_1 ?_
    refine aw_goto (tgt := 1459) dW_1455 (by decide) ?_
    exact cmp _ _ (by unfold fZ; rw [if_neg z2])
theorem cs_26 (W : wld G Γ) (R : REL I L) (hk : 6 * k + 6 ≤ n) (hn : n ≤ 3072) (post : ∀ I' L', REL I' L' → am_W (m_W n xs) 282 mc ms true bc bs 3223 (lwL k) [] Γ I' L' Q) : am_W (m_W n xs) 282 mc ms true (bc + 1) (bs + 6) 1468 (lwL k) [] Γ I L Q := by
  obtain ⟨I1, L1, I2, c, v, hc3, hC, hM, hR, ht, h0⟩ := hx_hoursUntilOpen W R (xs (nn (6 * k) + 1).toNatClampNeg)
  refine aw_aload_n dW_1468 rfl ?_
  refine aw_aload_nT dW_1469 rfl ?_
  refine aw_iload dW_1470 rfl ?_
  refine aw_iconst dW_1472 ci_1 ?_
  refine aw_iadd dW_1473 ?_
  refine aw_sld rfl dW_1474 (sa_in1 hk hn) ?_
  refine aw_aload_n dW_1475 rfl ?_
  refine aw_askSW (as := [.ref 0, .int (xs (nn (6 * k) + 1).toNatClampNeg), .ref 463]) (rst := []) kw_L_hoursUntilOpen (by decide) rfl l_L_244 t_L_hoursUntilOpen dW_1476 rfl (Nat.le_of_ble_eq_true rfl) (Nat.le_add_left _ _) (Nat.le_add_left _ _) hC rfl rfl ?_
  refine aw_istore (ls' := [(0, .retAddr 60), (1, .ref 0), (2, .ref 450), (3, .ref 463), (4, .ref 464), (5, .int (nn (6 * k))), (6, .int (nn c))]) dW_1479 (show (6 : Nat) < 10 by decide) rfl ?_
  refine aw_aload_n dW_1481 rfl ?_
  refine aw_aload_nT dW_1482 rfl ?_
  refine aw_iload dW_1483 rfl ?_
  refine aw_iconst dW_1485 ci_1 ?_
  refine aw_iadd dW_1486 ?_
  refine aw_sld rfl dW_1487 (sa_in1 hk hn) ?_
  refine aw_askV (as := [.int (xs (nn (6 * k) + 1).toNatClampNeg)]) (rst := []) k_X9_hoursUntilOpen l_L_246 i_X9_hoursUntilOpen s_X9_hoursUntilOpen rfl W.m dW_1488 rfl (Nat.le_of_ble_eq_true rfl) (Nat.zero_le _) (Nat.zero_le _) hM rfl rfl ?_
  refine aw_istore (ls' := [(0, .retAddr 60), (1, .ref 0), (2, .ref 450), (3, .ref 463), (4, .ref 464), (5, .int (nn (6 * k))), (6, .int (nn c)), (7, .int v)]) dW_1491 (show (7 : Nat) < 10 by decide) rfl ?_
  refine aw_aload_n dW_1493 rfl ?_
  refine aw_askV (as := []) (rst := []) k_X9_thrown l_L_157 i_X9_thrown s_X9_thrown rfl W.m dW_1494 rfl (Nat.le_of_ble_eq_true rfl) (Nat.zero_le _) (Nat.zero_le _) (eXW_thrown W.m) rfl rfl ?_
  refine aw_iload dW_1497 rfl ?_
  refine aw_icmp_eq (tgt := 1504) dW_1499 (by decide) (fun _ => ?_) (fun z => absurd ht z)
  refine aw_iload dW_1504 rfl ?_
  have fin : am_W (m_W n xs) 282 mc ms true (bc + 1 - 1 - 0 - 0) (bs + 6 - 6 - 0 - 0) 1521 ([(0, .retAddr 60), (1, .ref 0), (2, .ref 450), (3, .ref 463), (4, .ref 464), (5, .int (nn (6 * k))), (6, .int (nn c)), (7, .int v)]) [] Γ I2 L1 Q := by
    refine aw_goto (tgt := 3223) dW_1521 (by decide) ?_
    refine aw_ls (ls' := lwL k) (fun q hq => List.mem_append_left [(6, _), (7, _)] hq) ?_
    exact aw_less (by omega) (by omega) (post I2 L1 hR)
  refine aw_if_ne (tgt := 1521) dW_1506 (by decide) (fun _ => fin) (fun z => ?_)
  have hv := h0 ((nn0_iff hc3).mp z)
  refine aw_aload_n dW_1509 rfl ?_
  refine aw_iconst dW_1510 ci_0 ?_
  refine aw_lald dW_1511 W.a (nn_in (k := 0) (by decide) (by decide)) ?_
  rw [c0, hv]
  refine aw_iload dW_1512 rfl ?_
  refine aw_i2l dW_1514 ?_
  refine aw_lcmp dW_1515 ?_
  exact aw_if_eq (tgt := 1521) dW_1516 (by decide) (fun _ => fin) (fun z2 => absurd (lgc_eq.mpr rfl) z2)
theorem cs_27 (W : wld G Γ) (R : REL I L) (hk : 6 * k + 6 ≤ n) (hn : n ≤ 3072) (post : ∀ I' L', REL I' L' → am_W (m_W n xs) 282 mc ms true bc bs 3223 (lwL k) [] Γ I' L' Q) : am_W (m_W n xs) 282 mc ms true (bc + 1) (bs + 6) 1524 (lwL k) [] Γ I L Q := by
  obtain ⟨I1, L1, I2, c, v, hc3, hC, hM, hR, ht, h0⟩ := hx_questionNameByte W R (xs (nn (6 * k) + 1).toNatClampNeg) (xs (nn (6 * k) + 2).toNatClampNeg)
  refine aw_aload_n dW_1524 rfl ?_
  refine aw_aload_nT dW_1525 rfl ?_
  refine aw_iload dW_1526 rfl ?_
  refine aw_iconst dW_1528 ci_1 ?_
  refine aw_iadd dW_1529 ?_
  refine aw_sld rfl dW_1530 (sa_in1 hk hn) ?_
  refine aw_aload_nT dW_1531 rfl ?_
  refine aw_iload dW_1532 rfl ?_
  refine aw_iconst dW_1534 ci_2 ?_
  refine aw_iadd dW_1535 ?_
  refine aw_sld rfl dW_1536 (sa_in2 hk hn) ?_
  refine aw_aload_n dW_1537 rfl ?_
  refine aw_askSW (as := [.ref 0, .int (xs (nn (6 * k) + 1).toNatClampNeg), .int (xs (nn (6 * k) + 2).toNatClampNeg), .ref 463]) (rst := []) kw_L_questionNameByte (by decide) rfl l_L_247 t_L_questionNameByte dW_1538 rfl (Nat.le_of_ble_eq_true rfl) (Nat.le_add_left _ _) (Nat.le_add_left _ _) hC rfl rfl ?_
  refine aw_istore (ls' := [(0, .retAddr 60), (1, .ref 0), (2, .ref 450), (3, .ref 463), (4, .ref 464), (5, .int (nn (6 * k))), (6, .int (nn c))]) dW_1541 (show (6 : Nat) < 10 by decide) rfl ?_
  refine aw_aload_n dW_1543 rfl ?_
  refine aw_aload_nT dW_1544 rfl ?_
  refine aw_iload dW_1545 rfl ?_
  refine aw_iconst dW_1547 ci_1 ?_
  refine aw_iadd dW_1548 ?_
  refine aw_sld rfl dW_1549 (sa_in1 hk hn) ?_
  refine aw_aload_nT dW_1550 rfl ?_
  refine aw_iload dW_1551 rfl ?_
  refine aw_iconst dW_1553 ci_2 ?_
  refine aw_iadd dW_1554 ?_
  refine aw_sld rfl dW_1555 (sa_in2 hk hn) ?_
  refine aw_askV (as := [.int (xs (nn (6 * k) + 1).toNatClampNeg), .int (xs (nn (6 * k) + 2).toNatClampNeg)]) (rst := []) k_X9_questionNameByte l_L_249 i_X9_questionNameByte s_X9_questionNameByte rfl W.m dW_1556 rfl (Nat.le_of_ble_eq_true rfl) (Nat.zero_le _) (Nat.zero_le _) hM rfl rfl ?_
  refine aw_istore (ls' := [(0, .retAddr 60), (1, .ref 0), (2, .ref 450), (3, .ref 463), (4, .ref 464), (5, .int (nn (6 * k))), (6, .int (nn c)), (7, .int v)]) dW_1559 (show (7 : Nat) < 10 by decide) rfl ?_
  refine aw_aload_n dW_1561 rfl ?_
  refine aw_askV (as := []) (rst := []) k_X9_thrown l_L_157 i_X9_thrown s_X9_thrown rfl W.m dW_1562 rfl (Nat.le_of_ble_eq_true rfl) (Nat.zero_le _) (Nat.zero_le _) (eXW_thrown W.m) rfl rfl ?_
  refine aw_iload dW_1565 rfl ?_
  refine aw_icmp_eq (tgt := 1572) dW_1567 (by decide) (fun _ => ?_) (fun z => absurd ht z)
  refine aw_iload dW_1572 rfl ?_
  have fin : am_W (m_W n xs) 282 mc ms true (bc + 1 - 1 - 0 - 0) (bs + 6 - 6 - 0 - 0) 1589 ([(0, .retAddr 60), (1, .ref 0), (2, .ref 450), (3, .ref 463), (4, .ref 464), (5, .int (nn (6 * k))), (6, .int (nn c)), (7, .int v)]) [] Γ I2 L1 Q := by
    refine aw_goto (tgt := 3223) dW_1589 (by decide) ?_
    refine aw_ls (ls' := lwL k) (fun q hq => List.mem_append_left [(6, _), (7, _)] hq) ?_
    exact aw_less (by omega) (by omega) (post I2 L1 hR)
  refine aw_if_ne (tgt := 1589) dW_1574 (by decide) (fun _ => fin) (fun z => ?_)
  have hv := h0 ((nn0_iff hc3).mp z)
  refine aw_aload_n dW_1577 rfl ?_
  refine aw_iconst dW_1578 ci_0 ?_
  refine aw_lald dW_1579 W.a (nn_in (k := 0) (by decide) (by decide)) ?_
  rw [c0, hv]
  refine aw_iload dW_1580 rfl ?_
  refine aw_i2l dW_1582 ?_
  refine aw_lcmp dW_1583 ?_
  exact aw_if_eq (tgt := 1589) dW_1584 (by decide) (fun _ => fin) (fun z2 => absurd (lgc_eq.mpr rfl) z2)
theorem cs_28 (W : wld G Γ) (R : REL I L) (hk : 6 * k + 6 ≤ n) (hn : n ≤ 3072) (post : ∀ I' L', REL I' L' → am_W (m_W n xs) 282 mc ms true bc bs 3223 (lwL k) [] Γ I' L' Q) : am_W (m_W n xs) 282 mc ms true (bc + 1) (bs + 6) 1592 (lwL k) [] Γ I L Q := by
  obtain ⟨I1, L1, I2, c, v, hc3, hC, hM, hR, ht, h0⟩ := hx_typeNameByte W R (xs (nn (6 * k) + 1).toNatClampNeg) (xs (nn (6 * k) + 2).toNatClampNeg)
  refine aw_aload_n dW_1592 rfl ?_
  refine aw_aload_nT dW_1593 rfl ?_
  refine aw_iload dW_1594 rfl ?_
  refine aw_iconst dW_1596 ci_1 ?_
  refine aw_iadd dW_1597 ?_
  refine aw_sld rfl dW_1598 (sa_in1 hk hn) ?_
  refine aw_aload_nT dW_1599 rfl ?_
  refine aw_iload dW_1600 rfl ?_
  refine aw_iconst dW_1602 ci_2 ?_
  refine aw_iadd dW_1603 ?_
  refine aw_sld rfl dW_1604 (sa_in2 hk hn) ?_
  refine aw_aload_n dW_1605 rfl ?_
  refine aw_askSW (as := [.ref 0, .int (xs (nn (6 * k) + 1).toNatClampNeg), .int (xs (nn (6 * k) + 2).toNatClampNeg), .ref 463]) (rst := []) kw_L_typeNameByte (by decide) rfl l_L_250 t_L_typeNameByte dW_1606 rfl (Nat.le_of_ble_eq_true rfl) (Nat.le_add_left _ _) (Nat.le_add_left _ _) hC rfl rfl ?_
  refine aw_istore (ls' := [(0, .retAddr 60), (1, .ref 0), (2, .ref 450), (3, .ref 463), (4, .ref 464), (5, .int (nn (6 * k))), (6, .int (nn c))]) dW_1609 (show (6 : Nat) < 10 by decide) rfl ?_
  refine aw_aload_n dW_1611 rfl ?_
  refine aw_aload_nT dW_1612 rfl ?_
  refine aw_iload dW_1613 rfl ?_
  refine aw_iconst dW_1615 ci_1 ?_
  refine aw_iadd dW_1616 ?_
  refine aw_sld rfl dW_1617 (sa_in1 hk hn) ?_
  refine aw_aload_nT dW_1618 rfl ?_
  refine aw_iload dW_1619 rfl ?_
  refine aw_iconst dW_1621 ci_2 ?_
  refine aw_iadd dW_1622 ?_
  refine aw_sld rfl dW_1623 (sa_in2 hk hn) ?_
  refine aw_askV (as := [.int (xs (nn (6 * k) + 1).toNatClampNeg), .int (xs (nn (6 * k) + 2).toNatClampNeg)]) (rst := []) k_X9_typeNameByte l_L_252 i_X9_typeNameByte s_X9_typeNameByte rfl W.m dW_1624 rfl (Nat.le_of_ble_eq_true rfl) (Nat.zero_le _) (Nat.zero_le _) hM rfl rfl ?_
  refine aw_istore (ls' := [(0, .retAddr 60), (1, .ref 0), (2, .ref 450), (3, .ref 463), (4, .ref 464), (5, .int (nn (6 * k))), (6, .int (nn c)), (7, .int v)]) dW_1627 (show (7 : Nat) < 10 by decide) rfl ?_
  refine aw_aload_n dW_1629 rfl ?_
  refine aw_askV (as := []) (rst := []) k_X9_thrown l_L_157 i_X9_thrown s_X9_thrown rfl W.m dW_1630 rfl (Nat.le_of_ble_eq_true rfl) (Nat.zero_le _) (Nat.zero_le _) (eXW_thrown W.m) rfl rfl ?_
  refine aw_iload dW_1633 rfl ?_
  refine aw_icmp_eq (tgt := 1640) dW_1635 (by decide) (fun _ => ?_) (fun z => absurd ht z)
  refine aw_iload dW_1640 rfl ?_
  have fin : am_W (m_W n xs) 282 mc ms true (bc + 1 - 1 - 0 - 0) (bs + 6 - 6 - 0 - 0) 1657 ([(0, .retAddr 60), (1, .ref 0), (2, .ref 450), (3, .ref 463), (4, .ref 464), (5, .int (nn (6 * k))), (6, .int (nn c)), (7, .int v)]) [] Γ I2 L1 Q := by
    refine aw_goto (tgt := 3223) dW_1657 (by decide) ?_
    refine aw_ls (ls' := lwL k) (fun q hq => List.mem_append_left [(6, _), (7, _)] hq) ?_
    exact aw_less (by omega) (by omega) (post I2 L1 hR)
  refine aw_if_ne (tgt := 1657) dW_1642 (by decide) (fun _ => fin) (fun z => ?_)
  have hv := h0 ((nn0_iff hc3).mp z)
  refine aw_aload_n dW_1645 rfl ?_
  refine aw_iconst dW_1646 ci_0 ?_
  refine aw_lald dW_1647 W.a (nn_in (k := 0) (by decide) (by decide)) ?_
  rw [c0, hv]
  refine aw_iload dW_1648 rfl ?_
  refine aw_i2l dW_1650 ?_
  refine aw_lcmp dW_1651 ?_
  exact aw_if_eq (tgt := 1657) dW_1652 (by decide) (fun _ => fin) (fun z2 => absurd (lgc_eq.mpr rfl) z2)
theorem cs_29 (W : wld G Γ) (R : REL I L) (hk : 6 * k + 6 ≤ n) (hn : n ≤ 3072) (post : ∀ I' L', REL I' L' → am_W (m_W n xs) 282 mc ms true bc bs 3223 (lwL k) [] Γ I' L' Q) : am_W (m_W n xs) 282 mc ms true (bc + 1) (bs + 6) 1660 (lwL k) [] Γ I L Q := by
  obtain ⟨I1, L1, I2, c, v, hc3, hC, hM, hR, ht, h0⟩ := hx_gateNameByte W R (xs (nn (6 * k) + 1).toNatClampNeg) (xs (nn (6 * k) + 2).toNatClampNeg)
  refine aw_aload_n dW_1660 rfl ?_
  refine aw_aload_nT dW_1661 rfl ?_
  refine aw_iload dW_1662 rfl ?_
  refine aw_iconst dW_1664 ci_1 ?_
  refine aw_iadd dW_1665 ?_
  refine aw_sld rfl dW_1666 (sa_in1 hk hn) ?_
  refine aw_aload_nT dW_1667 rfl ?_
  refine aw_iload dW_1668 rfl ?_
  refine aw_iconst dW_1670 ci_2 ?_
  refine aw_iadd dW_1671 ?_
  refine aw_sld rfl dW_1672 (sa_in2 hk hn) ?_
  refine aw_aload_n dW_1673 rfl ?_
  refine aw_askSW (as := [.ref 0, .int (xs (nn (6 * k) + 1).toNatClampNeg), .int (xs (nn (6 * k) + 2).toNatClampNeg), .ref 463]) (rst := []) kw_L_gateNameByte (by decide) rfl l_L_253 t_L_gateNameByte dW_1674 rfl (Nat.le_of_ble_eq_true rfl) (Nat.le_add_left _ _) (Nat.le_add_left _ _) hC rfl rfl ?_
  refine aw_istore (ls' := [(0, .retAddr 60), (1, .ref 0), (2, .ref 450), (3, .ref 463), (4, .ref 464), (5, .int (nn (6 * k))), (6, .int (nn c))]) dW_1677 (show (6 : Nat) < 10 by decide) rfl ?_
  refine aw_aload_n dW_1679 rfl ?_
  refine aw_aload_nT dW_1680 rfl ?_
  refine aw_iload dW_1681 rfl ?_
  refine aw_iconst dW_1683 ci_1 ?_
  refine aw_iadd dW_1684 ?_
  refine aw_sld rfl dW_1685 (sa_in1 hk hn) ?_
  refine aw_aload_nT dW_1686 rfl ?_
  refine aw_iload dW_1687 rfl ?_
  refine aw_iconst dW_1689 ci_2 ?_
  refine aw_iadd dW_1690 ?_
  refine aw_sld rfl dW_1691 (sa_in2 hk hn) ?_
  refine aw_askV (as := [.int (xs (nn (6 * k) + 1).toNatClampNeg), .int (xs (nn (6 * k) + 2).toNatClampNeg)]) (rst := []) k_X9_gateNameByte l_L_255 i_X9_gateNameByte s_X9_gateNameByte rfl W.m dW_1692 rfl (Nat.le_of_ble_eq_true rfl) (Nat.zero_le _) (Nat.zero_le _) hM rfl rfl ?_
  refine aw_istore (ls' := [(0, .retAddr 60), (1, .ref 0), (2, .ref 450), (3, .ref 463), (4, .ref 464), (5, .int (nn (6 * k))), (6, .int (nn c)), (7, .int v)]) dW_1695 (show (7 : Nat) < 10 by decide) rfl ?_
  refine aw_aload_n dW_1697 rfl ?_
  refine aw_askV (as := []) (rst := []) k_X9_thrown l_L_157 i_X9_thrown s_X9_thrown rfl W.m dW_1698 rfl (Nat.le_of_ble_eq_true rfl) (Nat.zero_le _) (Nat.zero_le _) (eXW_thrown W.m) rfl rfl ?_
  refine aw_iload dW_1701 rfl ?_
  refine aw_icmp_eq (tgt := 1708) dW_1703 (by decide) (fun _ => ?_) (fun z => absurd ht z)
  refine aw_iload dW_1708 rfl ?_
  have fin : am_W (m_W n xs) 282 mc ms true (bc + 1 - 1 - 0 - 0) (bs + 6 - 6 - 0 - 0) 1725 ([(0, .retAddr 60), (1, .ref 0), (2, .ref 450), (3, .ref 463), (4, .ref 464), (5, .int (nn (6 * k))), (6, .int (nn c)), (7, .int v)]) [] Γ I2 L1 Q := by
    refine aw_goto (tgt := 3223) dW_1725 (by decide) ?_
    refine aw_ls (ls' := lwL k) (fun q hq => List.mem_append_left [(6, _), (7, _)] hq) ?_
    exact aw_less (by omega) (by omega) (post I2 L1 hR)
  refine aw_if_ne (tgt := 1725) dW_1710 (by decide) (fun _ => fin) (fun z => ?_)
  have hv := h0 ((nn0_iff hc3).mp z)
  refine aw_aload_n dW_1713 rfl ?_
  refine aw_iconst dW_1714 ci_0 ?_
  refine aw_lald dW_1715 W.a (nn_in (k := 0) (by decide) (by decide)) ?_
  rw [c0, hv]
  refine aw_iload dW_1716 rfl ?_
  refine aw_i2l dW_1718 ?_
  refine aw_lcmp dW_1719 ?_
  exact aw_if_eq (tgt := 1725) dW_1720 (by decide) (fun _ => fin) (fun z2 => absurd (lgc_eq.mpr rfl) z2)
end LWC
