theorem zl_house {l : Launch} {d : zD} {F : zF} {h g : Nat → Nat} {ad av : Nat → Nat} {k n kc ns b L : Nat} {xs : Nat → Int32} {x : Int32} {σ τ : zS} {R : zS → zS → Prop} (S : zSims R) (C : zOk d F RL cL_law 4 123 3576) (G : zRm F kc ns) (hk : k + 2 ≤ kc) (hn : n + 320 ≤ ns) (E : zXe d ad av) (B : zSc F b L xs) (hi : ∀ j : Nat, j < 6 → vp_in (x + nI j) L) (hR : R σ τ) (K : ∀ (h' : Nat → Nat), h' 0 = h 0 → ∀ σ' τ', R σ' τ' → V l d F (k + 2) (n + 320) (XW d h' σ' ++ MW d g τ') [some (.ref b), some (.ref (h' 0)), some (.ref (g 0)), some (.int x)] 1420 []) : V l d F k n (XW d h σ ++ MW d g τ) [some (.ref b), some (.ref (h 0)), some (.ref (g 0)), some (.int x)] 192 [] := by
  obtain ⟨r, σ2, τ2, h1, h2, hR2⟩ := S.1 ((xs (x + 1).toNatClampNeg), (xs (x + 2).toNatClampNeg)) σ τ hR
  dsimp only at h1 h2
  refine zr_aload_n 1 193 C (by decide +kernel) rfl rfl ?_
  refine zr_aload_n 0 194 C (by decide +kernel) rfl rfl ?_
  refine zr_iload_n 3 195 C (by decide +kernel) rfl rfl ?_
  refine zr_iconst (v := 1) 1 196 C (by decide +kernel) rfl rfl ?_
  refine zr_iadd 197 C (by decide +kernel) rfl ?_
  refine zl_sld (hi 1 (by decide)) 198 C B (by decide +kernel) rfl ?_
  refine zr_aload_n 0 199 C (by decide +kernel) rfl rfl ?_
  refine zr_iload_n 3 200 C (by decide +kernel) rfl rfl ?_
  refine zr_iconst (v := 2) 2 201 C (by decide +kernel) rfl rfl ?_
  refine zr_iadd 202 C (by decide +kernel) rfl ?_
  refine zl_sld (hi 2 (by decide)) 203 C B (by decide +kernel) rfl ?_
  refine zl_cx (idx := 13) (kc := kc) (ns := ns) (rest := []) y_X_house ⟨q_609, q_610⟩ (As := [.int (xs (x + 1).toNatClampNeg), .int (xs (x + 2).toNatClampNeg)]) (m_X_house E h1) rfl rfl 206 C G (by omega) (by omega) (by decide +kernel) rfl q_608 (zb2 rfl rfl) (Nat.le_of_ble_eq_true rfl) ?_
  refine zr_aload_n 2 207 C (by decide +kernel) rfl rfl ?_
  refine zr_aload_n 0 208 C (by decide +kernel) rfl rfl ?_
  refine zr_iload_n 3 209 C (by decide +kernel) rfl rfl ?_
  refine zr_iconst (v := 1) 1 210 C (by decide +kernel) rfl rfl ?_
  refine zr_iadd 211 C (by decide +kernel) rfl ?_
  refine zl_sld (hi 1 (by decide)) 212 C B (by decide +kernel) rfl ?_
  refine zr_aload_n 0 213 C (by decide +kernel) rfl rfl ?_
  refine zr_iload_n 3 214 C (by decide +kernel) rfl rfl ?_
  refine zr_iconst (v := 2) 2 215 C (by decide +kernel) rfl rfl ?_
  refine zr_iadd 216 C (by decide +kernel) rfl ?_
  refine zl_sld (hi 2 (by decide)) 217 C B (by decide +kernel) rfl ?_
  refine zl_cm (idx := 17) (kc := kc) (ns := ns) (rest := [.int r]) y_M_house ⟨q_1175, q_1176⟩ (As := [.int (xs (x + 1).toNatClampNeg), .int (xs (x + 2).toNatClampNeg)]) (m_M_house h2) rfl rfl 220 C G (by omega) (by omega) (by decide +kernel) rfl q_1174 (zb2 rfl rfl) (Nat.le_of_ble_eq_true rfl) ?_
  refine zr_icmp_eq (off := 1200) (X := some ()) (Y := none) (out := ()) 1420 223 C (by decide +kernel) (by decide) rfl (if_pos rfl) (fun _ => ?_) (fun h => by cases h)
  exact zr_widen (Nat.le_add_right _ _) (Nat.le_add_right _ _) (K h rfl σ2 τ2 hR2)
theorem zl_hut {l : Launch} {d : zD} {F : zF} {h g : Nat → Nat} {ad av : Nat → Nat} {k n kc ns b L : Nat} {xs : Nat → Int32} {x : Int32} {σ τ : zS} {R : zS → zS → Prop} (S : zSims R) (C : zOk d F RL cL_law 4 123 3576) (G : zRm F kc ns) (hk : k + 2 ≤ kc) (hn : n + 320 ≤ ns) (E : zXe d ad av) (B : zSc F b L xs) (hi : ∀ j : Nat, j < 6 → vp_in (x + nI j) L) (hR : R σ τ) (K : ∀ (h' : Nat → Nat), h' 0 = h 0 → ∀ σ' τ', R σ' τ' → V l d F (k + 2) (n + 320) (XW d h' σ' ++ MW d g τ') [some (.ref b), some (.ref (h' 0)), some (.ref (g 0)), some (.int x)] 1420 []) : V l d F k n (XW d h σ ++ MW d g τ) [some (.ref b), some (.ref (h 0)), some (.ref (g 0)), some (.int x)] 225 [] := by
  obtain ⟨r, σ2, τ2, h1, h2, hR2⟩ := S.2.1 ((xs (x + 1).toNatClampNeg), (xs (x + 2).toNatClampNeg)) σ τ hR
  dsimp only at h1 h2
  refine zr_aload_n 1 226 C (by decide +kernel) rfl rfl ?_
  refine zr_aload_n 0 227 C (by decide +kernel) rfl rfl ?_
  refine zr_iload_n 3 228 C (by decide +kernel) rfl rfl ?_
  refine zr_iconst (v := 1) 1 229 C (by decide +kernel) rfl rfl ?_
  refine zr_iadd 230 C (by decide +kernel) rfl ?_
  refine zl_sld (hi 1 (by decide)) 231 C B (by decide +kernel) rfl ?_
  refine zr_aload_n 0 232 C (by decide +kernel) rfl rfl ?_
  refine zr_iload_n 3 233 C (by decide +kernel) rfl rfl ?_
  refine zr_iconst (v := 2) 2 234 C (by decide +kernel) rfl rfl ?_
  refine zr_iadd 235 C (by decide +kernel) rfl ?_
  refine zl_sld (hi 2 (by decide)) 236 C B (by decide +kernel) rfl ?_
  refine zl_cx (idx := 18) (kc := kc) (ns := ns) (rest := []) y_X_hut ⟨q_626, q_627⟩ (As := [.int (xs (x + 1).toNatClampNeg), .int (xs (x + 2).toNatClampNeg)]) (m_X_hut E h1) rfl rfl 239 C G (by omega) (by omega) (by decide +kernel) rfl q_625 (zb2 rfl rfl) (Nat.le_of_ble_eq_true rfl) ?_
  refine zr_aload_n 2 240 C (by decide +kernel) rfl rfl ?_
  refine zr_aload_n 0 241 C (by decide +kernel) rfl rfl ?_
  refine zr_iload_n 3 242 C (by decide +kernel) rfl rfl ?_
  refine zr_iconst (v := 1) 1 243 C (by decide +kernel) rfl rfl ?_
  refine zr_iadd 244 C (by decide +kernel) rfl ?_
  refine zl_sld (hi 1 (by decide)) 245 C B (by decide +kernel) rfl ?_
  refine zr_aload_n 0 246 C (by decide +kernel) rfl rfl ?_
  refine zr_iload_n 3 247 C (by decide +kernel) rfl rfl ?_
  refine zr_iconst (v := 2) 2 248 C (by decide +kernel) rfl rfl ?_
  refine zr_iadd 249 C (by decide +kernel) rfl ?_
  refine zl_sld (hi 2 (by decide)) 250 C B (by decide +kernel) rfl ?_
  refine zl_cm (idx := 21) (kc := kc) (ns := ns) (rest := [.int r]) y_M_hut ⟨q_1185, q_1186⟩ (As := [.int (xs (x + 1).toNatClampNeg), .int (xs (x + 2).toNatClampNeg)]) (m_M_hut h2) rfl rfl 253 C G (by omega) (by omega) (by decide +kernel) rfl q_1184 (zb2 rfl rfl) (Nat.le_of_ble_eq_true rfl) ?_
  refine zr_icmp_eq (off := 1167) (X := some ()) (Y := none) (out := ()) 1420 256 C (by decide +kernel) (by decide) rfl (if_pos rfl) (fun _ => ?_) (fun h => by cases h)
  exact zr_widen (Nat.le_add_right _ _) (Nat.le_add_right _ _) (K h rfl σ2 τ2 hR2)
theorem zl_near {l : Launch} {d : zD} {F : zF} {h g : Nat → Nat} {ad av : Nat → Nat} {k n kc ns b L : Nat} {xs : Nat → Int32} {x : Int32} {σ τ : zS} {R : zS → zS → Prop} (S : zSims R) (C : zOk d F RL cL_law 4 123 3576) (G : zRm F kc ns) (hk : k + 2 ≤ kc) (hn : n + 320 ≤ ns) (E : zXe d ad av) (B : zSc F b L xs) (hi : ∀ j : Nat, j < 6 → vp_in (x + nI j) L) (hR : R σ τ) (K : ∀ (h' : Nat → Nat), h' 0 = h 0 → ∀ σ' τ', R σ' τ' → V l d F (k + 2) (n + 320) (XW d h' σ' ++ MW d g τ') [some (.ref b), some (.ref (h' 0)), some (.ref (g 0)), some (.int x)] 1420 []) : V l d F k n (XW d h σ ++ MW d g τ) [some (.ref b), some (.ref (h 0)), some (.ref (g 0)), some (.int x)] 258 [] := by
  obtain ⟨r, σ2, τ2, h1, h2, hR2⟩ := S.2.2.1 ((xs (x + 1).toNatClampNeg), (xs (x + 2).toNatClampNeg)) σ τ hR
  dsimp only at h1 h2
  refine zr_aload_n 1 259 C (by decide +kernel) rfl rfl ?_
  refine zr_aload_n 0 260 C (by decide +kernel) rfl rfl ?_
  refine zr_iload_n 3 261 C (by decide +kernel) rfl rfl ?_
  refine zr_iconst (v := 1) 1 262 C (by decide +kernel) rfl rfl ?_
  refine zr_iadd 263 C (by decide +kernel) rfl ?_
  refine zl_sld (hi 1 (by decide)) 264 C B (by decide +kernel) rfl ?_
  refine zr_aload_n 0 265 C (by decide +kernel) rfl rfl ?_
  refine zr_iload_n 3 266 C (by decide +kernel) rfl rfl ?_
  refine zr_iconst (v := 2) 2 267 C (by decide +kernel) rfl rfl ?_
  refine zr_iadd 268 C (by decide +kernel) rfl ?_
  refine zl_sld (hi 2 (by decide)) 269 C B (by decide +kernel) rfl ?_
  refine zl_cx (idx := 22) (kc := kc) (ns := ns) (rest := []) y_X_near ⟨q_635, q_636⟩ (As := [.int (xs (x + 1).toNatClampNeg), .int (xs (x + 2).toNatClampNeg)]) (m_X_near E h1) rfl rfl 272 C G (by omega) (by omega) (by decide +kernel) rfl q_634 (zb2 rfl rfl) (Nat.le_of_ble_eq_true rfl) ?_
  refine zr_aload_n 2 273 C (by decide +kernel) rfl rfl ?_
  refine zr_aload_n 0 274 C (by decide +kernel) rfl rfl ?_
  refine zr_iload_n 3 275 C (by decide +kernel) rfl rfl ?_
  refine zr_iconst (v := 1) 1 276 C (by decide +kernel) rfl rfl ?_
  refine zr_iadd 277 C (by decide +kernel) rfl ?_
  refine zl_sld (hi 1 (by decide)) 278 C B (by decide +kernel) rfl ?_
  refine zr_aload_n 0 279 C (by decide +kernel) rfl rfl ?_
  refine zr_iload_n 3 280 C (by decide +kernel) rfl rfl ?_
  refine zr_iconst (v := 2) 2 281 C (by decide +kernel) rfl rfl ?_
  refine zr_iadd 282 C (by decide +kernel) rfl ?_
  refine zl_sld (hi 2 (by decide)) 283 C B (by decide +kernel) rfl ?_
  refine zl_cm (idx := 25) (kc := kc) (ns := ns) (rest := [.int r]) y_M_near ⟨q_1246, q_1247⟩ (As := [.int (xs (x + 1).toNatClampNeg), .int (xs (x + 2).toNatClampNeg)]) (m_M_near h2) rfl rfl 286 C G (by omega) (by omega) (by decide +kernel) rfl q_1245 (zb2 rfl rfl) (Nat.le_of_ble_eq_true rfl) ?_
  refine zr_icmp_eq (off := 1134) (X := some ()) (Y := none) (out := ()) 1420 289 C (by decide +kernel) (by decide) rfl (if_pos rfl) (fun _ => ?_) (fun h => by cases h)
  exact zr_widen (Nat.le_add_right _ _) (Nat.le_add_right _ _) (K h rfl σ2 τ2 hR2)
theorem zl_far {l : Launch} {d : zD} {F : zF} {h g : Nat → Nat} {ad av : Nat → Nat} {k n kc ns b L : Nat} {xs : Nat → Int32} {x : Int32} {σ τ : zS} {R : zS → zS → Prop} (S : zSims R) (C : zOk d F RL cL_law 4 123 3576) (G : zRm F kc ns) (hk : k + 2 ≤ kc) (hn : n + 320 ≤ ns) (E : zXe d ad av) (B : zSc F b L xs) (hi : ∀ j : Nat, j < 6 → vp_in (x + nI j) L) (hR : R σ τ) (K : ∀ (h' : Nat → Nat), h' 0 = h 0 → ∀ σ' τ', R σ' τ' → V l d F (k + 2) (n + 320) (XW d h' σ' ++ MW d g τ') [some (.ref b), some (.ref (h' 0)), some (.ref (g 0)), some (.int x)] 1420 []) : V l d F k n (XW d h σ ++ MW d g τ) [some (.ref b), some (.ref (h 0)), some (.ref (g 0)), some (.int x)] 291 [] := by
  obtain ⟨r, σ2, τ2, h1, h2, hR2⟩ := S.2.2.2.1 ((xs (x + 1).toNatClampNeg)) σ τ hR
  dsimp only at h1 h2
  refine zr_aload_n 1 292 C (by decide +kernel) rfl rfl ?_
  refine zr_aload_n 0 293 C (by decide +kernel) rfl rfl ?_
  refine zr_iload_n 3 294 C (by decide +kernel) rfl rfl ?_
  refine zr_iconst (v := 1) 1 295 C (by decide +kernel) rfl rfl ?_
  refine zr_iadd 296 C (by decide +kernel) rfl ?_
  refine zl_sld (hi 1 (by decide)) 297 C B (by decide +kernel) rfl ?_
  refine zl_cx (idx := 26) (kc := kc) (ns := ns) (rest := []) y_X_far ⟨q_642, q_643⟩ (As := [.int (xs (x + 1).toNatClampNeg)]) (m_X_far E h1) rfl rfl 300 C G (by omega) (by omega) (by decide +kernel) rfl q_641 (zb2 rfl rfl) (Nat.le_of_ble_eq_true rfl) ?_
  refine zr_aload_n 2 301 C (by decide +kernel) rfl rfl ?_
  refine zr_aload_n 0 302 C (by decide +kernel) rfl rfl ?_
  refine zr_iload_n 3 303 C (by decide +kernel) rfl rfl ?_
  refine zr_iconst (v := 1) 1 304 C (by decide +kernel) rfl rfl ?_
  refine zr_iadd 305 C (by decide +kernel) rfl ?_
  refine zl_sld (hi 1 (by decide)) 306 C B (by decide +kernel) rfl ?_
  refine zl_cm (idx := 30) (kc := kc) (ns := ns) (rest := [.int r]) y_M_far ⟨q_1271, q_1272⟩ (As := [.int (xs (x + 1).toNatClampNeg)]) (m_M_far h2) rfl rfl 309 C G (by omega) (by omega) (by decide +kernel) rfl q_1270 (zb2 rfl rfl) (Nat.le_of_ble_eq_true rfl) ?_
  refine zr_icmp_eq (off := 1111) (X := some ()) (Y := none) (out := ()) 1420 312 C (by decide +kernel) (by decide) rfl (if_pos rfl) (fun _ => ?_) (fun h => by cases h)
  exact zr_widen (Nat.le_add_right _ _) (Nat.le_add_right _ _) (K h rfl σ2 τ2 hR2)
theorem zl_town {l : Launch} {d : zD} {F : zF} {h g : Nat → Nat} {ad av : Nat → Nat} {k n kc ns b L : Nat} {xs : Nat → Int32} {x : Int32} {σ τ : zS} {R : zS → zS → Prop} (S : zSims R) (C : zOk d F RL cL_law 4 123 3576) (G : zRm F kc ns) (hk : k + 2 ≤ kc) (hn : n + 320 ≤ ns) (E : zXe d ad av) (B : zSc F b L xs) (hi : ∀ j : Nat, j < 6 → vp_in (x + nI j) L) (hR : R σ τ) (K : ∀ (h' : Nat → Nat), h' 0 = h 0 → ∀ σ' τ', R σ' τ' → V l d F (k + 2) (n + 320) (XW d h' σ' ++ MW d g τ') [some (.ref b), some (.ref (h' 0)), some (.ref (g 0)), some (.int x)] 1420 []) : V l d F k n (XW d h σ ++ MW d g τ) [some (.ref b), some (.ref (h 0)), some (.ref (g 0)), some (.int x)] 314 [] := by
  obtain ⟨r, σ2, τ2, h1, h2, hR2⟩ := S.2.2.2.2.1 ((xs (x + 1).toNatClampNeg)) σ τ hR
  dsimp only at h1 h2
  refine zr_aload_n 1 315 C (by decide +kernel) rfl rfl ?_
  refine zr_aload_n 0 316 C (by decide +kernel) rfl rfl ?_
  refine zr_iload_n 3 317 C (by decide +kernel) rfl rfl ?_
  refine zr_iconst (v := 1) 1 318 C (by decide +kernel) rfl rfl ?_
  refine zr_iadd 319 C (by decide +kernel) rfl ?_
  refine zl_sld (hi 1 (by decide)) 320 C B (by decide +kernel) rfl ?_
  refine zl_cx (idx := 31) (kc := kc) (ns := ns) (rest := []) y_X_town ⟨q_654, q_655⟩ (As := [.int (xs (x + 1).toNatClampNeg)]) (m_X_town E h1) rfl rfl 323 C G (by omega) (by omega) (by decide +kernel) rfl q_653 (zb2 rfl rfl) (Nat.le_of_ble_eq_true rfl) ?_
  refine zr_aload_n 2 324 C (by decide +kernel) rfl rfl ?_
  refine zr_aload_n 0 325 C (by decide +kernel) rfl rfl ?_
  refine zr_iload_n 3 326 C (by decide +kernel) rfl rfl ?_
  refine zr_iconst (v := 1) 1 327 C (by decide +kernel) rfl rfl ?_
  refine zr_iadd 328 C (by decide +kernel) rfl ?_
  refine zl_sld (hi 1 (by decide)) 329 C B (by decide +kernel) rfl ?_
  refine zl_cm (idx := 34) (kc := kc) (ns := ns) (rest := [.int r]) y_M_town ⟨q_1279, q_1280⟩ (As := [.int (xs (x + 1).toNatClampNeg)]) (m_M_town h2) rfl rfl 332 C G (by omega) (by omega) (by decide +kernel) rfl q_1278 (zb2 rfl rfl) (Nat.le_of_ble_eq_true rfl) ?_
  refine zr_icmp_eq (off := 1088) (X := some ()) (Y := none) (out := ()) 1420 335 C (by decide +kernel) (by decide) rfl (if_pos rfl) (fun _ => ?_) (fun h => by cases h)
  exact zr_widen (Nat.le_add_right _ _) (Nat.le_add_right _ _) (K h rfl σ2 τ2 hR2)
theorem zl_burn {l : Launch} {d : zD} {F : zF} {h g : Nat → Nat} {ad av : Nat → Nat} {k n kc ns b L : Nat} {xs : Nat → Int32} {x : Int32} {σ τ : zS} {R : zS → zS → Prop} (S : zSims R) (C : zOk d F RL cL_law 4 123 3576) (G : zRm F kc ns) (hk : k + 2 ≤ kc) (hn : n + 320 ≤ ns) (E : zXe d ad av) (B : zSc F b L xs) (hi : ∀ j : Nat, j < 6 → vp_in (x + nI j) L) (hR : R σ τ) (K : ∀ (h' : Nat → Nat), h' 0 = h 0 → ∀ σ' τ', R σ' τ' → V l d F (k + 2) (n + 320) (XW d h' σ' ++ MW d g τ') [some (.ref b), some (.ref (h' 0)), some (.ref (g 0)), some (.int x)] 1420 []) : V l d F k n (XW d h σ ++ MW d g τ) [some (.ref b), some (.ref (h 0)), some (.ref (g 0)), some (.int x)] 337 [] := by
  obtain ⟨r, σ2, τ2, h1, h2, hR2⟩ := S.2.2.2.2.2.1 ((xs (x + 1).toNatClampNeg)) σ τ hR
  dsimp only at h1 h2
  refine zr_aload_n 1 338 C (by decide +kernel) rfl rfl ?_
  refine zr_aload_n 0 339 C (by decide +kernel) rfl rfl ?_
  refine zr_iload_n 3 340 C (by decide +kernel) rfl rfl ?_
  refine zr_iconst (v := 1) 1 341 C (by decide +kernel) rfl rfl ?_
  refine zr_iadd 342 C (by decide +kernel) rfl ?_
  refine zl_sld (hi 1 (by decide)) 343 C B (by decide +kernel) rfl ?_
  refine zl_cx (idx := 35) (kc := kc) (ns := ns) (rest := []) y_X_burn ⟨q_667, q_668⟩ (As := [.int (xs (x + 1).toNatClampNeg)]) (m_X_burn E h1) rfl rfl 346 C G (by omega) (by omega) (by decide +kernel) rfl q_666 (zb2 rfl rfl) (Nat.le_of_ble_eq_true rfl) ?_
  refine zr_aload_n 2 347 C (by decide +kernel) rfl rfl ?_
  refine zr_aload_n 0 348 C (by decide +kernel) rfl rfl ?_
  refine zr_iload_n 3 349 C (by decide +kernel) rfl rfl ?_
  refine zr_iconst (v := 1) 1 350 C (by decide +kernel) rfl rfl ?_
  refine zr_iadd 351 C (by decide +kernel) rfl ?_
  refine zl_sld (hi 1 (by decide)) 352 C B (by decide +kernel) rfl ?_
  refine zl_cm (idx := 38) (kc := kc) (ns := ns) (rest := [.int r]) y_M_burn ⟨q_1295, q_1296⟩ (As := [.int (xs (x + 1).toNatClampNeg)]) (m_M_burn h2) rfl rfl 355 C G (by omega) (by omega) (by decide +kernel) rfl q_1294 (zb2 rfl rfl) (Nat.le_of_ble_eq_true rfl) ?_
  refine zr_icmp_eq (off := 1065) (X := some ()) (Y := none) (out := ()) 1420 358 C (by decide +kernel) (by decide) rfl (if_pos rfl) (fun _ => ?_) (fun h => by cases h)
  exact zr_widen (Nat.le_add_right _ _) (Nat.le_add_right _ _) (K h rfl σ2 τ2 hR2)
