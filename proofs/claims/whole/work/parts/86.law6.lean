theorem zl_back {l : Launch} {d : zD} {F : zF} {h g : Nat → Nat} {ad av : Nat → Nat} {k n kc ns b L : Nat} {xs : Nat → Int32} {x : Int32} {σ τ : zS} {R : zS → zS → Prop} (S : zSims R) (C : zOk d F RL cL_law 4 123 3576) (G : zRm F kc ns) (hk : k + 2 ≤ kc) (hn : n + 320 ≤ ns) (E : zXe d ad av) (B : zSc F b L xs) (hi : ∀ j : Nat, j < 6 → vp_in (x + nI j) L) (hR : R σ τ) (K : ∀ (h' : Nat → Nat), h' 0 = h 0 → ∀ σ' τ', R σ' τ' → V l d F (k + 2) (n + 320) (XW d h' σ' ++ MW d g τ') [some (.ref b), some (.ref (h' 0)), some (.ref (g 0)), some (.int x)] 1420 []) : V l d F k n (XW d h σ ++ MW d g τ) [some (.ref b), some (.ref (h 0)), some (.ref (g 0)), some (.int x)] 1172 [] := by
  obtain ⟨r, σ2, τ2, h1, h2, hR2⟩ := S.2.2.2.2.2.2.2.2.2.2.2.2.2.2.2.2.2.2.2.2.2.2.2.2.2.2.2.2.2.2.1 () σ τ hR
  dsimp only at h1 h2
  refine zr_aload_n 1 1173 C (by decide +kernel) rfl rfl ?_
  refine zl_cx (idx := 141) (kc := kc) (ns := ns) (rest := []) y_X_back ⟨q_915, q_916⟩ (As := []) (m_X_back E h1) rfl rfl 1176 C G (by omega) (by omega) (by decide +kernel) rfl q_914 (zb2 rfl rfl) (Nat.le_of_ble_eq_true rfl) ?_
  refine zr_aload_n 2 1177 C (by decide +kernel) rfl rfl ?_
  refine zl_cm (idx := 144) (kc := kc) (ns := ns) (rest := [.int r]) y_M_back ⟨q_1455, q_1456⟩ (As := []) (m_M_back h2) rfl rfl 1180 C G (by omega) (by omega) (by decide +kernel) rfl q_1454 (zb2 rfl rfl) (Nat.le_of_ble_eq_true rfl) ?_
  refine zr_icmp_eq (off := 240) (X := some ()) (Y := none) (out := ()) 1420 1183 C (by decide +kernel) (by decide) rfl (if_pos rfl) (fun _ => ?_) (fun h => by cases h)
  exact zr_widen (Nat.le_add_right _ _) (Nat.le_add_right _ _) (K h rfl σ2 τ2 hR2)
theorem zl_sheet {l : Launch} {d : zD} {F : zF} {h g : Nat → Nat} {ad av : Nat → Nat} {k n kc ns b L : Nat} {xs : Nat → Int32} {x : Int32} {σ τ : zS} {R : zS → zS → Prop} (S : zSims R) (C : zOk d F RL cL_law 4 123 3576) (G : zRm F kc ns) (hk : k + 2 ≤ kc) (hn : n + 320 ≤ ns) (E : zXe d ad av) (B : zSc F b L xs) (hi : ∀ j : Nat, j < 6 → vp_in (x + nI j) L) (hR : R σ τ) (K : ∀ (h' : Nat → Nat), h' 0 = h 0 → ∀ σ' τ', R σ' τ' → V l d F (k + 2) (n + 320) (XW d h' σ' ++ MW d g τ') [some (.ref b), some (.ref (h' 0)), some (.ref (g 0)), some (.int x)] 1420 []) : V l d F k n (XW d h σ ++ MW d g τ) [some (.ref b), some (.ref (h 0)), some (.ref (g 0)), some (.int x)] 1185 [] := by
  obtain ⟨r, σ2, τ2, h1, h2, hR2⟩ := S.2.2.2.2.2.2.2.2.2.2.2.2.2.2.2.2.2.2.2.2.2.2.2.2.2.2.2.2.2.2.2.1 ((xs (x + 1).toNatClampNeg), (xs (x + 2).toNatClampNeg), (xs (x + 3).toNatClampNeg)) σ τ hR
  dsimp only at h1 h2
  refine zr_aload_n 1 1186 C (by decide +kernel) rfl rfl ?_
  refine zr_aload_n 0 1187 C (by decide +kernel) rfl rfl ?_
  refine zr_iload_n 3 1188 C (by decide +kernel) rfl rfl ?_
  refine zr_iconst (v := 1) 1 1189 C (by decide +kernel) rfl rfl ?_
  refine zr_iadd 1190 C (by decide +kernel) rfl ?_
  refine zl_sld (hi 1 (by decide)) 1191 C B (by decide +kernel) rfl ?_
  refine zr_aload_n 0 1192 C (by decide +kernel) rfl rfl ?_
  refine zr_iload_n 3 1193 C (by decide +kernel) rfl rfl ?_
  refine zr_iconst (v := 2) 2 1194 C (by decide +kernel) rfl rfl ?_
  refine zr_iadd 1195 C (by decide +kernel) rfl ?_
  refine zl_sld (hi 2 (by decide)) 1196 C B (by decide +kernel) rfl ?_
  refine zr_aload_n 0 1197 C (by decide +kernel) rfl rfl ?_
  refine zr_iload_n 3 1198 C (by decide +kernel) rfl rfl ?_
  refine zr_iconst (v := 3) 3 1199 C (by decide +kernel) rfl rfl ?_
  refine zr_iadd 1200 C (by decide +kernel) rfl ?_
  refine zl_sld (hi 3 (by decide)) 1201 C B (by decide +kernel) rfl ?_
  refine zl_cx (idx := 145) (kc := kc) (ns := ns) (rest := []) y_X_sheet ⟨q_919, q_920⟩ (As := [.int (xs (x + 1).toNatClampNeg), .int (xs (x + 2).toNatClampNeg), .int (xs (x + 3).toNatClampNeg)]) (m_X_sheet E h1) rfl rfl 1204 C G (by omega) (by omega) (by decide +kernel) rfl q_918 (zb2 rfl rfl) (Nat.le_of_ble_eq_true rfl) ?_
  refine zr_aload_n 2 1205 C (by decide +kernel) rfl rfl ?_
  refine zr_aload_n 0 1206 C (by decide +kernel) rfl rfl ?_
  refine zr_iload_n 3 1207 C (by decide +kernel) rfl rfl ?_
  refine zr_iconst (v := 1) 1 1208 C (by decide +kernel) rfl rfl ?_
  refine zr_iadd 1209 C (by decide +kernel) rfl ?_
  refine zl_sld (hi 1 (by decide)) 1210 C B (by decide +kernel) rfl ?_
  refine zr_aload_n 0 1211 C (by decide +kernel) rfl rfl ?_
  refine zr_iload_n 3 1212 C (by decide +kernel) rfl rfl ?_
  refine zr_iconst (v := 2) 2 1213 C (by decide +kernel) rfl rfl ?_
  refine zr_iadd 1214 C (by decide +kernel) rfl ?_
  refine zl_sld (hi 2 (by decide)) 1215 C B (by decide +kernel) rfl ?_
  refine zr_aload_n 0 1216 C (by decide +kernel) rfl rfl ?_
  refine zr_iload_n 3 1217 C (by decide +kernel) rfl rfl ?_
  refine zr_iconst (v := 3) 3 1218 C (by decide +kernel) rfl rfl ?_
  refine zr_iadd 1219 C (by decide +kernel) rfl ?_
  refine zl_sld (hi 3 (by decide)) 1220 C B (by decide +kernel) rfl ?_
  refine zl_cm (idx := 148) (kc := kc) (ns := ns) (rest := [.int r]) y_M_sheet ⟨q_1459, q_1460⟩ (As := [.int (xs (x + 1).toNatClampNeg), .int (xs (x + 2).toNatClampNeg), .int (xs (x + 3).toNatClampNeg)]) (m_M_sheet h2) rfl rfl 1223 C G (by omega) (by omega) (by decide +kernel) rfl q_1458 (zb2 rfl rfl) (Nat.le_of_ble_eq_true rfl) ?_
  refine zr_icmp_eq (off := 197) (X := some ()) (Y := none) (out := ()) 1420 1226 C (by decide +kernel) (by decide) rfl (if_pos rfl) (fun _ => ?_) (fun h => by cases h)
  exact zr_widen (Nat.le_add_right _ _) (Nat.le_add_right _ _) (K h rfl σ2 τ2 hR2)
theorem zl_cell {l : Launch} {d : zD} {F : zF} {h g : Nat → Nat} {ad av : Nat → Nat} {k n kc ns b L : Nat} {xs : Nat → Int32} {x : Int32} {σ τ : zS} {R : zS → zS → Prop} (S : zSims R) (C : zOk d F RL cL_law 4 123 3576) (G : zRm F kc ns) (hk : k + 2 ≤ kc) (hn : n + 320 ≤ ns) (E : zXe d ad av) (B : zSc F b L xs) (hi : ∀ j : Nat, j < 6 → vp_in (x + nI j) L) (hR : R σ τ) (K : ∀ (h' : Nat → Nat), h' 0 = h 0 → ∀ σ' τ', R σ' τ' → V l d F (k + 2) (n + 320) (XW d h' σ' ++ MW d g τ') [some (.ref b), some (.ref (h' 0)), some (.ref (g 0)), some (.int x)] 1420 []) : V l d F k n (XW d h σ ++ MW d g τ) [some (.ref b), some (.ref (h 0)), some (.ref (g 0)), some (.int x)] 1228 [] := by
  obtain ⟨r, σ2, τ2, h1, h2, hR2⟩ := S.2.2.2.2.2.2.2.2.2.2.2.2.2.2.2.2.2.2.2.2.2.2.2.2.2.2.2.2.2.2.2.2.1 ((xs (x + 1).toNatClampNeg), (xs (x + 2).toNatClampNeg), (xs (x + 3).toNatClampNeg)) σ τ hR
  dsimp only at h1 h2
  refine zr_aload_n 1 1229 C (by decide +kernel) rfl rfl ?_
  refine zr_aload_n 0 1230 C (by decide +kernel) rfl rfl ?_
  refine zr_iload_n 3 1231 C (by decide +kernel) rfl rfl ?_
  refine zr_iconst (v := 1) 1 1232 C (by decide +kernel) rfl rfl ?_
  refine zr_iadd 1233 C (by decide +kernel) rfl ?_
  refine zl_sld (hi 1 (by decide)) 1234 C B (by decide +kernel) rfl ?_
  refine zr_aload_n 0 1235 C (by decide +kernel) rfl rfl ?_
  refine zr_iload_n 3 1236 C (by decide +kernel) rfl rfl ?_
  refine zr_iconst (v := 2) 2 1237 C (by decide +kernel) rfl rfl ?_
  refine zr_iadd 1238 C (by decide +kernel) rfl ?_
  refine zl_sld (hi 2 (by decide)) 1239 C B (by decide +kernel) rfl ?_
  refine zr_aload_n 0 1240 C (by decide +kernel) rfl rfl ?_
  refine zr_iload_n 3 1241 C (by decide +kernel) rfl rfl ?_
  refine zr_iconst (v := 3) 3 1242 C (by decide +kernel) rfl rfl ?_
  refine zr_iadd 1243 C (by decide +kernel) rfl ?_
  refine zl_sld (hi 3 (by decide)) 1244 C B (by decide +kernel) rfl ?_
  refine zl_cx (idx := 149) (kc := kc) (ns := ns) (rest := []) y_X_cell ⟨q_930, q_931⟩ (As := [.int (xs (x + 1).toNatClampNeg), .int (xs (x + 2).toNatClampNeg), .int (xs (x + 3).toNatClampNeg)]) (m_X_cell E h1) rfl rfl 1247 C G (by omega) (by omega) (by decide +kernel) rfl q_929 (zb2 rfl rfl) (Nat.le_of_ble_eq_true rfl) ?_
  refine zr_aload_n 2 1248 C (by decide +kernel) rfl rfl ?_
  refine zr_aload_n 0 1249 C (by decide +kernel) rfl rfl ?_
  refine zr_iload_n 3 1250 C (by decide +kernel) rfl rfl ?_
  refine zr_iconst (v := 1) 1 1251 C (by decide +kernel) rfl rfl ?_
  refine zr_iadd 1252 C (by decide +kernel) rfl ?_
  refine zl_sld (hi 1 (by decide)) 1253 C B (by decide +kernel) rfl ?_
  refine zr_aload_n 0 1254 C (by decide +kernel) rfl rfl ?_
  refine zr_iload_n 3 1255 C (by decide +kernel) rfl rfl ?_
  refine zr_iconst (v := 2) 2 1256 C (by decide +kernel) rfl rfl ?_
  refine zr_iadd 1257 C (by decide +kernel) rfl ?_
  refine zl_sld (hi 2 (by decide)) 1258 C B (by decide +kernel) rfl ?_
  refine zr_aload_n 0 1259 C (by decide +kernel) rfl rfl ?_
  refine zr_iload_n 3 1260 C (by decide +kernel) rfl rfl ?_
  refine zr_iconst (v := 3) 3 1261 C (by decide +kernel) rfl rfl ?_
  refine zr_iadd 1262 C (by decide +kernel) rfl ?_
  refine zl_sld (hi 3 (by decide)) 1263 C B (by decide +kernel) rfl ?_
  refine zl_cm (idx := 152) (kc := kc) (ns := ns) (rest := [.int r]) y_M_cell ⟨q_1463, q_1464⟩ (As := [.int (xs (x + 1).toNatClampNeg), .int (xs (x + 2).toNatClampNeg), .int (xs (x + 3).toNatClampNeg)]) (m_M_cell h2) rfl rfl 1266 C G (by omega) (by omega) (by decide +kernel) rfl q_1462 (zb2 rfl rfl) (Nat.le_of_ble_eq_true rfl) ?_
  refine zr_icmp_eq (off := 154) (X := some ()) (Y := none) (out := ()) 1420 1269 C (by decide +kernel) (by decide) rfl (if_pos rfl) (fun _ => ?_) (fun h => by cases h)
  exact zr_widen (Nat.le_add_right _ _) (Nat.le_add_right _ _) (K h rfl σ2 τ2 hR2)
theorem zl_copy {l : Launch} {d : zD} {F : zF} {h g : Nat → Nat} {ad av : Nat → Nat} {k n kc ns b L : Nat} {xs : Nat → Int32} {x : Int32} {σ τ : zS} {R : zS → zS → Prop} (S : zSims R) (C : zOk d F RL cL_law 4 123 3576) (G : zRm F kc ns) (hk : k + 2 ≤ kc) (hn : n + 320 ≤ ns) (E : zXe d ad av) (B : zSc F b L xs) (hi : ∀ j : Nat, j < 6 → vp_in (x + nI j) L) (hR : R σ τ) (K : ∀ (h' : Nat → Nat), h' 0 = h 0 → ∀ σ' τ', R σ' τ' → V l d F (k + 2) (n + 320) (XW d h' σ' ++ MW d g τ') [some (.ref b), some (.ref (h' 0)), some (.ref (g 0)), some (.int x)] 1420 []) : V l d F k n (XW d h σ ++ MW d g τ) [some (.ref b), some (.ref (h 0)), some (.ref (g 0)), some (.int x)] 1271 [] := by
  obtain ⟨r, σ2, τ2, h1, h2, hR2⟩ := S.2.2.2.2.2.2.2.2.2.2.2.2.2.2.2.2.2.2.2.2.2.2.2.2.2.2.2.2.2.2.2.2.2.1 ((xs (x + 1).toNatClampNeg), (xs (x + 2).toNatClampNeg), (xs (x + 3).toNatClampNeg), (xs (x + 4).toNatClampNeg), (xs (x + 5).toNatClampNeg)) σ τ hR
  dsimp only at h1 h2
  refine zr_aload_n 1 1272 C (by decide +kernel) rfl rfl ?_
  refine zr_aload_n 0 1273 C (by decide +kernel) rfl rfl ?_
  refine zr_iload_n 3 1274 C (by decide +kernel) rfl rfl ?_
  refine zr_iconst (v := 1) 1 1275 C (by decide +kernel) rfl rfl ?_
  refine zr_iadd 1276 C (by decide +kernel) rfl ?_
  refine zl_sld (hi 1 (by decide)) 1277 C B (by decide +kernel) rfl ?_
  refine zr_aload_n 0 1278 C (by decide +kernel) rfl rfl ?_
  refine zr_iload_n 3 1279 C (by decide +kernel) rfl rfl ?_
  refine zr_iconst (v := 2) 2 1280 C (by decide +kernel) rfl rfl ?_
  refine zr_iadd 1281 C (by decide +kernel) rfl ?_
  refine zl_sld (hi 2 (by decide)) 1282 C B (by decide +kernel) rfl ?_
  refine zr_aload_n 0 1283 C (by decide +kernel) rfl rfl ?_
  refine zr_iload_n 3 1284 C (by decide +kernel) rfl rfl ?_
  refine zr_iconst (v := 3) 3 1285 C (by decide +kernel) rfl rfl ?_
  refine zr_iadd 1286 C (by decide +kernel) rfl ?_
  refine zl_sld (hi 3 (by decide)) 1287 C B (by decide +kernel) rfl ?_
  refine zr_aload_n 0 1288 C (by decide +kernel) rfl rfl ?_
  refine zr_iload_n 3 1289 C (by decide +kernel) rfl rfl ?_
  refine zr_iconst (v := 4) 4 1290 C (by decide +kernel) rfl rfl ?_
  refine zr_iadd 1291 C (by decide +kernel) rfl ?_
  refine zl_sld (hi 4 (by decide)) 1292 C B (by decide +kernel) rfl ?_
  refine zr_aload_n 0 1293 C (by decide +kernel) rfl rfl ?_
  refine zr_iload_n 3 1294 C (by decide +kernel) rfl rfl ?_
  refine zr_iconst (v := 5) 5 1295 C (by decide +kernel) rfl rfl ?_
  refine zr_iadd 1296 C (by decide +kernel) rfl ?_
  refine zl_sld (hi 5 (by decide)) 1297 C B (by decide +kernel) rfl ?_
  refine zl_cx (idx := 153) (kc := kc) (ns := ns) (rest := []) y_X_copy ⟨q_946, q_947⟩ (As := [.int (xs (x + 1).toNatClampNeg), .int (xs (x + 2).toNatClampNeg), .int (xs (x + 3).toNatClampNeg), .int (xs (x + 4).toNatClampNeg), .int (xs (x + 5).toNatClampNeg)]) (m_X_copy E h1) rfl rfl 1300 C G (by omega) (by omega) (by decide +kernel) rfl q_945 (zb2 rfl rfl) (Nat.le_of_ble_eq_true rfl) ?_
  refine zr_aload_n 2 1301 C (by decide +kernel) rfl rfl ?_
  refine zr_aload_n 0 1302 C (by decide +kernel) rfl rfl ?_
  refine zr_iload_n 3 1303 C (by decide +kernel) rfl rfl ?_
  refine zr_iconst (v := 1) 1 1304 C (by decide +kernel) rfl rfl ?_
  refine zr_iadd 1305 C (by decide +kernel) rfl ?_
  refine zl_sld (hi 1 (by decide)) 1306 C B (by decide +kernel) rfl ?_
  refine zr_aload_n 0 1307 C (by decide +kernel) rfl rfl ?_
  refine zr_iload_n 3 1308 C (by decide +kernel) rfl rfl ?_
  refine zr_iconst (v := 2) 2 1309 C (by decide +kernel) rfl rfl ?_
  refine zr_iadd 1310 C (by decide +kernel) rfl ?_
  refine zl_sld (hi 2 (by decide)) 1311 C B (by decide +kernel) rfl ?_
  refine zr_aload_n 0 1312 C (by decide +kernel) rfl rfl ?_
  refine zr_iload_n 3 1313 C (by decide +kernel) rfl rfl ?_
  refine zr_iconst (v := 3) 3 1314 C (by decide +kernel) rfl rfl ?_
  refine zr_iadd 1315 C (by decide +kernel) rfl ?_
  refine zl_sld (hi 3 (by decide)) 1316 C B (by decide +kernel) rfl ?_
  refine zr_aload_n 0 1317 C (by decide +kernel) rfl rfl ?_
  refine zr_iload_n 3 1318 C (by decide +kernel) rfl rfl ?_
  refine zr_iconst (v := 4) 4 1319 C (by decide +kernel) rfl rfl ?_
  refine zr_iadd 1320 C (by decide +kernel) rfl ?_
  refine zl_sld (hi 4 (by decide)) 1321 C B (by decide +kernel) rfl ?_
  refine zr_aload_n 0 1322 C (by decide +kernel) rfl rfl ?_
  refine zr_iload_n 3 1323 C (by decide +kernel) rfl rfl ?_
  refine zr_iconst (v := 5) 5 1324 C (by decide +kernel) rfl rfl ?_
  refine zr_iadd 1325 C (by decide +kernel) rfl ?_
  refine zl_sld (hi 5 (by decide)) 1326 C B (by decide +kernel) rfl ?_
  refine zl_cm (idx := 156) (kc := kc) (ns := ns) (rest := [.int r]) y_M_copy ⟨q_1467, q_1468⟩ (As := [.int (xs (x + 1).toNatClampNeg), .int (xs (x + 2).toNatClampNeg), .int (xs (x + 3).toNatClampNeg), .int (xs (x + 4).toNatClampNeg), .int (xs (x + 5).toNatClampNeg)]) (m_M_copy h2) rfl rfl 1329 C G (by omega) (by omega) (by decide +kernel) rfl q_1466 (zb2 rfl rfl) (Nat.le_of_ble_eq_true rfl) ?_
  refine zr_icmp_eq (off := 91) (X := some ()) (Y := none) (out := ()) 1420 1332 C (by decide +kernel) (by decide) rfl (if_pos rfl) (fun _ => ?_) (fun h => by cases h)
  exact zr_widen (Nat.le_add_right _ _) (Nat.le_add_right _ _) (K h rfl σ2 τ2 hR2)
theorem zl_houses {l : Launch} {d : zD} {F : zF} {h g : Nat → Nat} {ad av : Nat → Nat} {k n kc ns b L : Nat} {xs : Nat → Int32} {x : Int32} {σ τ : zS} {R : zS → zS → Prop} (S : zSims R) (C : zOk d F RL cL_law 4 123 3576) (G : zRm F kc ns) (hk : k + 2 ≤ kc) (hn : n + 320 ≤ ns) (E : zXe d ad av) (B : zSc F b L xs) (hi : ∀ j : Nat, j < 6 → vp_in (x + nI j) L) (hR : R σ τ) (K : ∀ (h' : Nat → Nat), h' 0 = h 0 → ∀ σ' τ', R σ' τ' → V l d F (k + 2) (n + 320) (XW d h' σ' ++ MW d g τ') [some (.ref b), some (.ref (h' 0)), some (.ref (g 0)), some (.int x)] 1420 []) : V l d F k n (XW d h σ ++ MW d g τ) [some (.ref b), some (.ref (h 0)), some (.ref (g 0)), some (.int x)] 1334 [] := by
  obtain ⟨r, σ2, τ2, h1, h2, hR2⟩ := S.2.2.2.2.2.2.2.2.2.2.2.2.2.2.2.2.2.2.2.2.2.2.2.2.2.2.2.2.2.2.2.2.2.2.1 ((xs (x + 1).toNatClampNeg), (xs (x + 2).toNatClampNeg), (xs (x + 3).toNatClampNeg), (xs (x + 4).toNatClampNeg)) σ τ hR
  dsimp only at h1 h2
  refine zr_aload_n 1 1335 C (by decide +kernel) rfl rfl ?_
  refine zr_aload_n 0 1336 C (by decide +kernel) rfl rfl ?_
  refine zr_iload_n 3 1337 C (by decide +kernel) rfl rfl ?_
  refine zr_iconst (v := 1) 1 1338 C (by decide +kernel) rfl rfl ?_
  refine zr_iadd 1339 C (by decide +kernel) rfl ?_
  refine zl_sld (hi 1 (by decide)) 1340 C B (by decide +kernel) rfl ?_
  refine zr_aload_n 0 1341 C (by decide +kernel) rfl rfl ?_
  refine zr_iload_n 3 1342 C (by decide +kernel) rfl rfl ?_
  refine zr_iconst (v := 2) 2 1343 C (by decide +kernel) rfl rfl ?_
  refine zr_iadd 1344 C (by decide +kernel) rfl ?_
  refine zl_sld (hi 2 (by decide)) 1345 C B (by decide +kernel) rfl ?_
  refine zr_aload_n 0 1346 C (by decide +kernel) rfl rfl ?_
  refine zr_iload_n 3 1347 C (by decide +kernel) rfl rfl ?_
  refine zr_iconst (v := 3) 3 1348 C (by decide +kernel) rfl rfl ?_
  refine zr_iadd 1349 C (by decide +kernel) rfl ?_
  refine zl_sld (hi 3 (by decide)) 1350 C B (by decide +kernel) rfl ?_
  refine zr_aload_n 0 1351 C (by decide +kernel) rfl rfl ?_
  refine zr_iload_n 3 1352 C (by decide +kernel) rfl rfl ?_
  refine zr_iconst (v := 4) 4 1353 C (by decide +kernel) rfl rfl ?_
  refine zr_iadd 1354 C (by decide +kernel) rfl ?_
  refine zl_sld (hi 4 (by decide)) 1355 C B (by decide +kernel) rfl ?_
  refine zl_cx (idx := 157) (kc := kc) (ns := ns) (rest := []) y_X_houses ⟨q_950, q_951⟩ (As := [.int (xs (x + 1).toNatClampNeg), .int (xs (x + 2).toNatClampNeg), .int (xs (x + 3).toNatClampNeg), .int (xs (x + 4).toNatClampNeg)]) (m_X_houses E h1) rfl rfl 1358 C G (by omega) (by omega) (by decide +kernel) rfl q_949 (zb2 rfl rfl) (Nat.le_of_ble_eq_true rfl) ?_
  refine zr_aload_n 2 1359 C (by decide +kernel) rfl rfl ?_
  refine zr_aload_n 0 1360 C (by decide +kernel) rfl rfl ?_
  refine zr_iload_n 3 1361 C (by decide +kernel) rfl rfl ?_
  refine zr_iconst (v := 1) 1 1362 C (by decide +kernel) rfl rfl ?_
  refine zr_iadd 1363 C (by decide +kernel) rfl ?_
  refine zl_sld (hi 1 (by decide)) 1364 C B (by decide +kernel) rfl ?_
  refine zr_aload_n 0 1365 C (by decide +kernel) rfl rfl ?_
  refine zr_iload_n 3 1366 C (by decide +kernel) rfl rfl ?_
  refine zr_iconst (v := 2) 2 1367 C (by decide +kernel) rfl rfl ?_
  refine zr_iadd 1368 C (by decide +kernel) rfl ?_
  refine zl_sld (hi 2 (by decide)) 1369 C B (by decide +kernel) rfl ?_
  refine zr_aload_n 0 1370 C (by decide +kernel) rfl rfl ?_
  refine zr_iload_n 3 1371 C (by decide +kernel) rfl rfl ?_
  refine zr_iconst (v := 3) 3 1372 C (by decide +kernel) rfl rfl ?_
  refine zr_iadd 1373 C (by decide +kernel) rfl ?_
  refine zl_sld (hi 3 (by decide)) 1374 C B (by decide +kernel) rfl ?_
  refine zr_aload_n 0 1375 C (by decide +kernel) rfl rfl ?_
  refine zr_iload_n 3 1376 C (by decide +kernel) rfl rfl ?_
  refine zr_iconst (v := 4) 4 1377 C (by decide +kernel) rfl rfl ?_
  refine zr_iadd 1378 C (by decide +kernel) rfl ?_
  refine zl_sld (hi 4 (by decide)) 1379 C B (by decide +kernel) rfl ?_
  refine zl_cm (idx := 161) (kc := kc) (ns := ns) (rest := [.int r]) y_M_houses ⟨q_1471, q_1472⟩ (As := [.int (xs (x + 1).toNatClampNeg), .int (xs (x + 2).toNatClampNeg), .int (xs (x + 3).toNatClampNeg), .int (xs (x + 4).toNatClampNeg)]) (m_M_houses h2) rfl rfl 1382 C G (by omega) (by omega) (by decide +kernel) rfl q_1470 (zb2 rfl rfl) (Nat.le_of_ble_eq_true rfl) ?_
  refine zr_icmp_eq (off := 38) (X := some ()) (Y := none) (out := ()) 1420 1385 C (by decide +kernel) (by decide) rfl (if_pos rfl) (fun _ => ?_) (fun h => by cases h)
  exact zr_widen (Nat.le_add_right _ _) (Nat.le_add_right _ _) (K h rfl σ2 τ2 hR2)
theorem zl_taken {l : Launch} {d : zD} {F : zF} {h g : Nat → Nat} {ad av : Nat → Nat} {k n kc ns b L : Nat} {xs : Nat → Int32} {x : Int32} {σ τ : zS} {R : zS → zS → Prop} (S : zSims R) (C : zOk d F RL cL_law 4 123 3576) (G : zRm F kc ns) (hk : k + 2 ≤ kc) (hn : n + 320 ≤ ns) (E : zXe d ad av) (B : zSc F b L xs) (hi : ∀ j : Nat, j < 6 → vp_in (x + nI j) L) (hR : R σ τ) (K : ∀ (h' : Nat → Nat), h' 0 = h 0 → ∀ σ' τ', R σ' τ' → V l d F (k + 2) (n + 320) (XW d h' σ' ++ MW d g τ') [some (.ref b), some (.ref (h' 0)), some (.ref (g 0)), some (.int x)] 1420 []) : V l d F k n (XW d h σ ++ MW d g τ) [some (.ref b), some (.ref (h 0)), some (.ref (g 0)), some (.int x)] 1387 [] := by
  obtain ⟨r, σ2, τ2, h1, h2, hR2⟩ := S.2.2.2.2.2.2.2.2.2.2.2.2.2.2.2.2.2.2.2.2.2.2.2.2.2.2.2.2.2.2.2.2.2.2.2 ((xs (x + 1).toNatClampNeg), (xs (x + 2).toNatClampNeg)) σ τ hR
  dsimp only at h1 h2
  refine zr_aload_n 1 1388 C (by decide +kernel) rfl rfl ?_
  refine zr_aload_n 0 1389 C (by decide +kernel) rfl rfl ?_
  refine zr_iload_n 3 1390 C (by decide +kernel) rfl rfl ?_
  refine zr_iconst (v := 1) 1 1391 C (by decide +kernel) rfl rfl ?_
  refine zr_iadd 1392 C (by decide +kernel) rfl ?_
  refine zl_sld (hi 1 (by decide)) 1393 C B (by decide +kernel) rfl ?_
  refine zr_aload_n 0 1394 C (by decide +kernel) rfl rfl ?_
  refine zr_iload_n 3 1395 C (by decide +kernel) rfl rfl ?_
  refine zr_iconst (v := 2) 2 1396 C (by decide +kernel) rfl rfl ?_
  refine zr_iadd 1397 C (by decide +kernel) rfl ?_
  refine zl_sld (hi 2 (by decide)) 1398 C B (by decide +kernel) rfl ?_
  refine zl_cx (idx := 162) (kc := kc) (ns := ns) (rest := []) y_X_taken ⟨q_955, q_956⟩ (As := [.int (xs (x + 1).toNatClampNeg), .int (xs (x + 2).toNatClampNeg)]) (m_X_taken E h1) rfl rfl 1401 C G (by omega) (by omega) (by decide +kernel) rfl q_954 (zb2 rfl rfl) (Nat.le_of_ble_eq_true rfl) ?_
  refine zr_aload_n 2 1402 C (by decide +kernel) rfl rfl ?_
  refine zr_aload_n 0 1403 C (by decide +kernel) rfl rfl ?_
  refine zr_iload_n 3 1404 C (by decide +kernel) rfl rfl ?_
  refine zr_iconst (v := 1) 1 1405 C (by decide +kernel) rfl rfl ?_
  refine zr_iadd 1406 C (by decide +kernel) rfl ?_
  refine zl_sld (hi 1 (by decide)) 1407 C B (by decide +kernel) rfl ?_
  refine zr_aload_n 0 1408 C (by decide +kernel) rfl rfl ?_
  refine zr_iload_n 3 1409 C (by decide +kernel) rfl rfl ?_
  refine zr_iconst (v := 2) 2 1410 C (by decide +kernel) rfl rfl ?_
  refine zr_iadd 1411 C (by decide +kernel) rfl ?_
  refine zl_sld (hi 2 (by decide)) 1412 C B (by decide +kernel) rfl ?_
  refine zl_cm (idx := 165) (kc := kc) (ns := ns) (rest := [.int r]) y_M_taken ⟨q_1476, q_1477⟩ (As := [.int (xs (x + 1).toNatClampNeg), .int (xs (x + 2).toNatClampNeg)]) (m_M_taken h2) rfl rfl 1415 C G (by omega) (by omega) (by decide +kernel) rfl q_1475 (zb2 rfl rfl) (Nat.le_of_ble_eq_true rfl) ?_
  refine zr_icmp_eq (off := 5) (X := some ()) (Y := none) (out := ()) 1420 1418 C (by decide +kernel) (by decide) rfl (if_pos rfl) (fun _ => ?_) (fun h => by cases h)
  exact zr_widen (Nat.le_add_right _ _) (Nat.le_add_right _ _) (K h rfl σ2 τ2 hR2)
