theorem zl_feed {l : Launch} {d : zD} {F : zF} {h g : Nat → Nat} {ad av : Nat → Nat} {k n kc ns b L : Nat} {xs : Nat → Int32} {x : Int32} {σ τ : zS} {R : zS → zS → Prop} (S : zSims R) (C : zOk d F RL cL_law 4 123 3576) (G : zRm F kc ns) (hk : k + 2 ≤ kc) (hn : n + 320 ≤ ns) (E : zXe d ad av) (B : zSc F b L xs) (hi : ∀ j : Nat, j < 6 → vp_in (x + nI j) L) (hR : R σ τ) (K : ∀ (h' : Nat → Nat), h' 0 = h 0 → ∀ σ' τ', R σ' τ' → V l d F (k + 2) (n + 320) (XW d h' σ' ++ MW d g τ') [some (.ref b), some (.ref (h' 0)), some (.ref (g 0)), some (.int x)] 1420 []) : V l d F k n (XW d h σ ++ MW d g τ) [some (.ref b), some (.ref (h 0)), some (.ref (g 0)), some (.int x)] 360 [] := by
  obtain ⟨r, σ2, τ2, h1, h2, hR2⟩ := S.2.2.2.2.2.2.1 ((zlshl ((xs (x + 1).toNatClampNeg).toInt64) 32 ||| ((xs (x + 2).toNatClampNeg).toInt64 &&& 4294967295)), (xs (x + 3).toNatClampNeg)) σ τ hR
  dsimp only at h1 h2
  refine zr_aload_n 1 361 C (by decide +kernel) rfl rfl ?_
  refine zr_aload_n 0 362 C (by decide +kernel) rfl rfl ?_
  refine zr_iload_n 3 363 C (by decide +kernel) rfl rfl ?_
  refine zr_iconst (v := 1) 1 364 C (by decide +kernel) rfl rfl ?_
  refine zr_iadd 365 C (by decide +kernel) rfl ?_
  refine zl_sld (hi 1 (by decide)) 366 C B (by decide +kernel) rfl ?_
  refine zr_i2l 367 C (by decide +kernel) rfl ?_
  refine zr_bipush (v := 32) 32 369 C (by decide +kernel) rfl rfl ?_
  refine zr_lshl 370 C (by decide +kernel) rfl ?_
  refine zr_aload_n 0 371 C (by decide +kernel) rfl rfl ?_
  refine zr_iload_n 3 372 C (by decide +kernel) rfl rfl ?_
  refine zr_iconst (v := 2) 2 373 C (by decide +kernel) rfl rfl ?_
  refine zr_iadd 374 C (by decide +kernel) rfl ?_
  refine zl_sld (hi 2 (by decide)) 375 C B (by decide +kernel) rfl ?_
  refine zr_i2l 376 C (by decide +kernel) rfl ?_
  refine zr_ldc2 (v := 4294967295) (i := 39) 379 C (by decide +kernel) rfl q_1482 ?_
  refine zr_land 380 C (by decide +kernel) rfl ?_
  refine zr_lor 381 C (by decide +kernel) rfl ?_
  refine zr_aload_n 0 382 C (by decide +kernel) rfl rfl ?_
  refine zr_iload_n 3 383 C (by decide +kernel) rfl rfl ?_
  refine zr_iconst (v := 3) 3 384 C (by decide +kernel) rfl rfl ?_
  refine zr_iadd 385 C (by decide +kernel) rfl ?_
  refine zl_sld (hi 3 (by decide)) 386 C B (by decide +kernel) rfl ?_
  refine zl_cx (idx := 41) (kc := kc) (ns := ns) (rest := []) y_X_feed ⟨q_676, q_677⟩ (As := [.long (zlshl ((xs (x + 1).toNatClampNeg).toInt64) 32 ||| ((xs (x + 2).toNatClampNeg).toInt64 &&& 4294967295)), .int (xs (x + 3).toNatClampNeg)]) (m_X_feed E h1) rfl rfl 389 C G (by omega) (by omega) (by decide +kernel) rfl q_675 (zb2 rfl rfl) (Nat.le_of_ble_eq_true rfl) ?_
  refine zr_aload_n 2 390 C (by decide +kernel) rfl rfl ?_
  refine zr_aload_n 0 391 C (by decide +kernel) rfl rfl ?_
  refine zr_iload_n 3 392 C (by decide +kernel) rfl rfl ?_
  refine zr_iconst (v := 1) 1 393 C (by decide +kernel) rfl rfl ?_
  refine zr_iadd 394 C (by decide +kernel) rfl ?_
  refine zl_sld (hi 1 (by decide)) 395 C B (by decide +kernel) rfl ?_
  refine zr_i2l 396 C (by decide +kernel) rfl ?_
  refine zr_bipush (v := 32) 32 398 C (by decide +kernel) rfl rfl ?_
  refine zr_lshl 399 C (by decide +kernel) rfl ?_
  refine zr_aload_n 0 400 C (by decide +kernel) rfl rfl ?_
  refine zr_iload_n 3 401 C (by decide +kernel) rfl rfl ?_
  refine zr_iconst (v := 2) 2 402 C (by decide +kernel) rfl rfl ?_
  refine zr_iadd 403 C (by decide +kernel) rfl ?_
  refine zl_sld (hi 2 (by decide)) 404 C B (by decide +kernel) rfl ?_
  refine zr_i2l 405 C (by decide +kernel) rfl ?_
  refine zr_ldc2 (v := 4294967295) (i := 39) 408 C (by decide +kernel) rfl q_1482 ?_
  refine zr_land 409 C (by decide +kernel) rfl ?_
  refine zr_lor 410 C (by decide +kernel) rfl ?_
  refine zr_aload_n 0 411 C (by decide +kernel) rfl rfl ?_
  refine zr_iload_n 3 412 C (by decide +kernel) rfl rfl ?_
  refine zr_iconst (v := 3) 3 413 C (by decide +kernel) rfl rfl ?_
  refine zr_iadd 414 C (by decide +kernel) rfl ?_
  refine zl_sld (hi 3 (by decide)) 415 C B (by decide +kernel) rfl ?_
  refine zl_cm (idx := 45) (kc := kc) (ns := ns) (rest := [.int r]) y_M_feed ⟨q_1193, q_1194⟩ (As := [.long (zlshl ((xs (x + 1).toNatClampNeg).toInt64) 32 ||| ((xs (x + 2).toNatClampNeg).toInt64 &&& 4294967295)), .int (xs (x + 3).toNatClampNeg)]) (m_M_feed h2) rfl rfl 418 C G (by omega) (by omega) (by decide +kernel) rfl q_1192 (zb2 rfl rfl) (Nat.le_of_ble_eq_true rfl) ?_
  refine zr_icmp_eq (off := 1002) (X := some ()) (Y := none) (out := ()) 1420 421 C (by decide +kernel) (by decide) rfl (if_pos rfl) (fun _ => ?_) (fun h => by cases h)
  exact zr_widen (Nat.le_add_right _ _) (Nat.le_add_right _ _) (K h rfl σ2 τ2 hR2)
theorem zl_text {l : Launch} {d : zD} {F : zF} {h g : Nat → Nat} {ad av : Nat → Nat} {k n kc ns b L : Nat} {xs : Nat → Int32} {x : Int32} {σ τ : zS} {R : zS → zS → Prop} (S : zSims R) (C : zOk d F RL cL_law 4 123 3576) (G : zRm F kc ns) (hk : k + 2 ≤ kc) (hn : n + 320 ≤ ns) (E : zXe d ad av) (B : zSc F b L xs) (hi : ∀ j : Nat, j < 6 → vp_in (x + nI j) L) (hR : R σ τ) (K : ∀ (h' : Nat → Nat), h' 0 = h 0 → ∀ σ' τ', R σ' τ' → V l d F (k + 2) (n + 320) (XW d h' σ' ++ MW d g τ') [some (.ref b), some (.ref (h' 0)), some (.ref (g 0)), some (.int x)] 1420 []) : V l d F k n (XW d h σ ++ MW d g τ) [some (.ref b), some (.ref (h 0)), some (.ref (g 0)), some (.int x)] 423 [] := by
  obtain ⟨r, σ2, τ2, h1, h2, hR2⟩ := S.2.2.2.2.2.2.2.1 () σ τ hR
  dsimp only at h1 h2
  refine zr_aload_n 1 424 C (by decide +kernel) rfl rfl ?_
  refine zl_cxa (idx := 46) (kc := kc) (ns := ns) (rest := []) y_X_text ⟨q_680, q_681⟩ (As := []) (m_X_text E h1) rfl rfl 427 C G hk hn (by decide +kernel) rfl q_679 (zb2 rfl rfl) (Nat.le_of_ble_eq_true rfl) (fun h2' hh => ?_)
  rw [← hh]
  refine zr_aload_n 2 428 C (by decide +kernel) rfl rfl ?_
  refine zl_cm (idx := 50) (kc := kc) (ns := ns) (rest := [.int r]) y_M_text ⟨q_1198, q_1199⟩ (As := []) (m_M_text h2) rfl rfl 431 C G hk hn (by decide +kernel) rfl q_1197 (zb2 rfl rfl) (Nat.le_of_ble_eq_true rfl) ?_
  refine zr_icmp_eq (off := 989) (X := some ()) (Y := none) (out := ()) 1420 434 C (by decide +kernel) (by decide) rfl (if_pos rfl) (fun _ => ?_) (fun h => by cases h)
  exact K h2' hh σ2 τ2 hR2
theorem zl_force {l : Launch} {d : zD} {F : zF} {h g : Nat → Nat} {ad av : Nat → Nat} {k n kc ns b L : Nat} {xs : Nat → Int32} {x : Int32} {σ τ : zS} {R : zS → zS → Prop} (S : zSims R) (C : zOk d F RL cL_law 4 123 3576) (G : zRm F kc ns) (hk : k + 2 ≤ kc) (hn : n + 320 ≤ ns) (E : zXe d ad av) (B : zSc F b L xs) (hi : ∀ j : Nat, j < 6 → vp_in (x + nI j) L) (hR : R σ τ) (K : ∀ (h' : Nat → Nat), h' 0 = h 0 → ∀ σ' τ', R σ' τ' → V l d F (k + 2) (n + 320) (XW d h' σ' ++ MW d g τ') [some (.ref b), some (.ref (h' 0)), some (.ref (g 0)), some (.int x)] 1420 []) : V l d F k n (XW d h σ ++ MW d g τ) [some (.ref b), some (.ref (h 0)), some (.ref (g 0)), some (.int x)] 436 [] := by
  obtain ⟨r, σ2, τ2, h1, h2, hR2⟩ := S.2.2.2.2.2.2.2.2.1 ((xs (x + 1).toNatClampNeg)) σ τ hR
  dsimp only at h1 h2
  refine zr_aload_n 1 437 C (by decide +kernel) rfl rfl ?_
  refine zr_aload_n 0 438 C (by decide +kernel) rfl rfl ?_
  refine zr_iload_n 3 439 C (by decide +kernel) rfl rfl ?_
  refine zr_iconst (v := 1) 1 440 C (by decide +kernel) rfl rfl ?_
  refine zr_iadd 441 C (by decide +kernel) rfl ?_
  refine zl_sld (hi 1 (by decide)) 442 C B (by decide +kernel) rfl ?_
  refine zl_cx (idx := 51) (kc := kc) (ns := ns) (rest := []) y_X_force ⟨q_684, q_685⟩ (As := [.int (xs (x + 1).toNatClampNeg)]) (m_X_force E h1) rfl rfl 445 C G (by omega) (by omega) (by decide +kernel) rfl q_683 (zb2 rfl rfl) (Nat.le_of_ble_eq_true rfl) ?_
  refine zr_aload_n 2 446 C (by decide +kernel) rfl rfl ?_
  refine zr_aload_n 0 447 C (by decide +kernel) rfl rfl ?_
  refine zr_iload_n 3 448 C (by decide +kernel) rfl rfl ?_
  refine zr_iconst (v := 1) 1 449 C (by decide +kernel) rfl rfl ?_
  refine zr_iadd 450 C (by decide +kernel) rfl ?_
  refine zl_sld (hi 1 (by decide)) 451 C B (by decide +kernel) rfl ?_
  refine zl_cm (idx := 54) (kc := kc) (ns := ns) (rest := [.int r]) y_M_force ⟨q_1242, q_1243⟩ (As := [.int (xs (x + 1).toNatClampNeg)]) (m_M_force h2) rfl rfl 454 C G (by omega) (by omega) (by decide +kernel) rfl q_1241 (zb2 rfl rfl) (Nat.le_of_ble_eq_true rfl) ?_
  refine zr_icmp_eq (off := 966) (X := some ()) (Y := none) (out := ()) 1420 457 C (by decide +kernel) (by decide) rfl (if_pos rfl) (fun _ => ?_) (fun h => by cases h)
  exact zr_widen (Nat.le_add_right _ _) (Nat.le_add_right _ _) (K h rfl σ2 τ2 hR2)
theorem zl_shape {l : Launch} {d : zD} {F : zF} {h g : Nat → Nat} {ad av : Nat → Nat} {k n kc ns b L : Nat} {xs : Nat → Int32} {x : Int32} {σ τ : zS} {R : zS → zS → Prop} (S : zSims R) (C : zOk d F RL cL_law 4 123 3576) (G : zRm F kc ns) (hk : k + 2 ≤ kc) (hn : n + 320 ≤ ns) (E : zXe d ad av) (B : zSc F b L xs) (hi : ∀ j : Nat, j < 6 → vp_in (x + nI j) L) (hR : R σ τ) (K : ∀ (h' : Nat → Nat), h' 0 = h 0 → ∀ σ' τ', R σ' τ' → V l d F (k + 2) (n + 320) (XW d h' σ' ++ MW d g τ') [some (.ref b), some (.ref (h' 0)), some (.ref (g 0)), some (.int x)] 1420 []) : V l d F k n (XW d h σ ++ MW d g τ) [some (.ref b), some (.ref (h 0)), some (.ref (g 0)), some (.int x)] 459 [] := by
  obtain ⟨r, σ2, τ2, h1, h2, hR2⟩ := S.2.2.2.2.2.2.2.2.2.1 ((xs (x + 1).toNatClampNeg), (xs (x + 2).toNatClampNeg), (xs (x + 3).toNatClampNeg)) σ τ hR
  dsimp only at h1 h2
  refine zr_aload_n 1 460 C (by decide +kernel) rfl rfl ?_
  refine zr_aload_n 0 461 C (by decide +kernel) rfl rfl ?_
  refine zr_iload_n 3 462 C (by decide +kernel) rfl rfl ?_
  refine zr_iconst (v := 1) 1 463 C (by decide +kernel) rfl rfl ?_
  refine zr_iadd 464 C (by decide +kernel) rfl ?_
  refine zl_sld (hi 1 (by decide)) 465 C B (by decide +kernel) rfl ?_
  refine zr_aload_n 0 466 C (by decide +kernel) rfl rfl ?_
  refine zr_iload_n 3 467 C (by decide +kernel) rfl rfl ?_
  refine zr_iconst (v := 2) 2 468 C (by decide +kernel) rfl rfl ?_
  refine zr_iadd 469 C (by decide +kernel) rfl ?_
  refine zl_sld (hi 2 (by decide)) 470 C B (by decide +kernel) rfl ?_
  refine zr_aload_n 0 471 C (by decide +kernel) rfl rfl ?_
  refine zr_iload_n 3 472 C (by decide +kernel) rfl rfl ?_
  refine zr_iconst (v := 3) 3 473 C (by decide +kernel) rfl rfl ?_
  refine zr_iadd 474 C (by decide +kernel) rfl ?_
  refine zl_sld (hi 3 (by decide)) 475 C B (by decide +kernel) rfl ?_
  refine zl_cx (idx := 55) (kc := kc) (ns := ns) (rest := []) y_X_shape ⟨q_696, q_697⟩ (As := [.int (xs (x + 1).toNatClampNeg), .int (xs (x + 2).toNatClampNeg), .int (xs (x + 3).toNatClampNeg)]) (m_X_shape E h1) rfl rfl 478 C G (by omega) (by omega) (by decide +kernel) rfl q_695 (zb2 rfl rfl) (Nat.le_of_ble_eq_true rfl) ?_
  refine zr_aload_n 2 479 C (by decide +kernel) rfl rfl ?_
  refine zr_aload_n 0 480 C (by decide +kernel) rfl rfl ?_
  refine zr_iload_n 3 481 C (by decide +kernel) rfl rfl ?_
  refine zr_iconst (v := 1) 1 482 C (by decide +kernel) rfl rfl ?_
  refine zr_iadd 483 C (by decide +kernel) rfl ?_
  refine zl_sld (hi 1 (by decide)) 484 C B (by decide +kernel) rfl ?_
  refine zr_aload_n 0 485 C (by decide +kernel) rfl rfl ?_
  refine zr_iload_n 3 486 C (by decide +kernel) rfl rfl ?_
  refine zr_iconst (v := 2) 2 487 C (by decide +kernel) rfl rfl ?_
  refine zr_iadd 488 C (by decide +kernel) rfl ?_
  refine zl_sld (hi 2 (by decide)) 489 C B (by decide +kernel) rfl ?_
  refine zr_aload_n 0 490 C (by decide +kernel) rfl rfl ?_
  refine zr_iload_n 3 491 C (by decide +kernel) rfl rfl ?_
  refine zr_iconst (v := 3) 3 492 C (by decide +kernel) rfl rfl ?_
  refine zr_iadd 493 C (by decide +kernel) rfl ?_
  refine zl_sld (hi 3 (by decide)) 494 C B (by decide +kernel) rfl ?_
  refine zl_cm (idx := 59) (kc := kc) (ns := ns) (rest := [.int r]) y_M_shape ⟨q_1302, q_1303⟩ (As := [.int (xs (x + 1).toNatClampNeg), .int (xs (x + 2).toNatClampNeg), .int (xs (x + 3).toNatClampNeg)]) (m_M_shape h2) rfl rfl 497 C G (by omega) (by omega) (by decide +kernel) rfl q_1301 (zb2 rfl rfl) (Nat.le_of_ble_eq_true rfl) ?_
  refine zr_icmp_eq (off := 923) (X := some ()) (Y := none) (out := ()) 1420 500 C (by decide +kernel) (by decide) rfl (if_pos rfl) (fun _ => ?_) (fun h => by cases h)
  exact zr_widen (Nat.le_add_right _ _) (Nat.le_add_right _ _) (K h rfl σ2 τ2 hR2)
theorem zl_loaf {l : Launch} {d : zD} {F : zF} {h g : Nat → Nat} {ad av : Nat → Nat} {k n kc ns b L : Nat} {xs : Nat → Int32} {x : Int32} {σ τ : zS} {R : zS → zS → Prop} (S : zSims R) (C : zOk d F RL cL_law 4 123 3576) (G : zRm F kc ns) (hk : k + 2 ≤ kc) (hn : n + 320 ≤ ns) (E : zXe d ad av) (B : zSc F b L xs) (hi : ∀ j : Nat, j < 6 → vp_in (x + nI j) L) (hR : R σ τ) (K : ∀ (h' : Nat → Nat), h' 0 = h 0 → ∀ σ' τ', R σ' τ' → V l d F (k + 2) (n + 320) (XW d h' σ' ++ MW d g τ') [some (.ref b), some (.ref (h' 0)), some (.ref (g 0)), some (.int x)] 1420 []) : V l d F k n (XW d h σ ++ MW d g τ) [some (.ref b), some (.ref (h 0)), some (.ref (g 0)), some (.int x)] 502 [] := by
  obtain ⟨r, σ2, τ2, h1, h2, hR2⟩ := S.2.2.2.2.2.2.2.2.2.2.1 ((xs (x + 1).toNatClampNeg)) σ τ hR
  dsimp only at h1 h2
  refine zr_aload_n 1 503 C (by decide +kernel) rfl rfl ?_
  refine zr_aload_n 0 504 C (by decide +kernel) rfl rfl ?_
  refine zr_iload_n 3 505 C (by decide +kernel) rfl rfl ?_
  refine zr_iconst (v := 1) 1 506 C (by decide +kernel) rfl rfl ?_
  refine zr_iadd 507 C (by decide +kernel) rfl ?_
  refine zl_sld (hi 1 (by decide)) 508 C B (by decide +kernel) rfl ?_
  refine zl_cx (idx := 60) (kc := kc) (ns := ns) (rest := []) y_X_loaf ⟨q_704, q_705⟩ (As := [.int (xs (x + 1).toNatClampNeg)]) (m_X_loaf E h1) rfl rfl 511 C G (by omega) (by omega) (by decide +kernel) rfl q_703 (zb2 rfl rfl) (Nat.le_of_ble_eq_true rfl) ?_
  refine zr_aload_n 2 512 C (by decide +kernel) rfl rfl ?_
  refine zr_aload_n 0 513 C (by decide +kernel) rfl rfl ?_
  refine zr_iload_n 3 514 C (by decide +kernel) rfl rfl ?_
  refine zr_iconst (v := 1) 1 515 C (by decide +kernel) rfl rfl ?_
  refine zr_iadd 516 C (by decide +kernel) rfl ?_
  refine zl_sld (hi 1 (by decide)) 517 C B (by decide +kernel) rfl ?_
  refine zl_cm (idx := 63) (kc := kc) (ns := ns) (rest := [.int r]) y_M_loaf ⟨q_1306, q_1307⟩ (As := [.int (xs (x + 1).toNatClampNeg)]) (m_M_loaf h2) rfl rfl 520 C G (by omega) (by omega) (by decide +kernel) rfl q_1305 (zb2 rfl rfl) (Nat.le_of_ble_eq_true rfl) ?_
  refine zr_icmp_eq (off := 900) (X := some ()) (Y := none) (out := ()) 1420 523 C (by decide +kernel) (by decide) rfl (if_pos rfl) (fun _ => ?_) (fun h => by cases h)
  exact zr_widen (Nat.le_add_right _ _) (Nat.le_add_right _ _) (K h rfl σ2 τ2 hR2)
theorem zl_shapeTold {l : Launch} {d : zD} {F : zF} {h g : Nat → Nat} {ad av : Nat → Nat} {k n kc ns b L : Nat} {xs : Nat → Int32} {x : Int32} {σ τ : zS} {R : zS → zS → Prop} (S : zSims R) (C : zOk d F RL cL_law 4 123 3576) (G : zRm F kc ns) (hk : k + 2 ≤ kc) (hn : n + 320 ≤ ns) (E : zXe d ad av) (B : zSc F b L xs) (hi : ∀ j : Nat, j < 6 → vp_in (x + nI j) L) (hR : R σ τ) (K : ∀ (h' : Nat → Nat), h' 0 = h 0 → ∀ σ' τ', R σ' τ' → V l d F (k + 2) (n + 320) (XW d h' σ' ++ MW d g τ') [some (.ref b), some (.ref (h' 0)), some (.ref (g 0)), some (.int x)] 1420 []) : V l d F k n (XW d h σ ++ MW d g τ) [some (.ref b), some (.ref (h 0)), some (.ref (g 0)), some (.int x)] 525 [] := by
  obtain ⟨r, σ2, τ2, h1, h2, hR2⟩ := S.2.2.2.2.2.2.2.2.2.2.2.1 ((xs (x + 1).toNatClampNeg), (xs (x + 2).toNatClampNeg)) σ τ hR
  dsimp only at h1 h2
  refine zr_aload_n 1 526 C (by decide +kernel) rfl rfl ?_
  refine zr_aload_n 0 527 C (by decide +kernel) rfl rfl ?_
  refine zr_iload_n 3 528 C (by decide +kernel) rfl rfl ?_
  refine zr_iconst (v := 1) 1 529 C (by decide +kernel) rfl rfl ?_
  refine zr_iadd 530 C (by decide +kernel) rfl ?_
  refine zl_sld (hi 1 (by decide)) 531 C B (by decide +kernel) rfl ?_
  refine zr_aload_n 0 532 C (by decide +kernel) rfl rfl ?_
  refine zr_iload_n 3 533 C (by decide +kernel) rfl rfl ?_
  refine zr_iconst (v := 2) 2 534 C (by decide +kernel) rfl rfl ?_
  refine zr_iadd 535 C (by decide +kernel) rfl ?_
  refine zl_sld (hi 2 (by decide)) 536 C B (by decide +kernel) rfl ?_
  refine zl_cx (idx := 64) (kc := kc) (ns := ns) (rest := []) y_X_shapeTold ⟨q_708, q_709⟩ (As := [.int (xs (x + 1).toNatClampNeg), .int (xs (x + 2).toNatClampNeg)]) (m_X_shapeTold E h1) rfl rfl 539 C G (by omega) (by omega) (by decide +kernel) rfl q_707 (zb2 rfl rfl) (Nat.le_of_ble_eq_true rfl) ?_
  refine zr_aload_n 2 540 C (by decide +kernel) rfl rfl ?_
  refine zr_aload_n 0 541 C (by decide +kernel) rfl rfl ?_
  refine zr_iload_n 3 542 C (by decide +kernel) rfl rfl ?_
  refine zr_iconst (v := 1) 1 543 C (by decide +kernel) rfl rfl ?_
  refine zr_iadd 544 C (by decide +kernel) rfl ?_
  refine zl_sld (hi 1 (by decide)) 545 C B (by decide +kernel) rfl ?_
  refine zr_aload_n 0 546 C (by decide +kernel) rfl rfl ?_
  refine zr_iload_n 3 547 C (by decide +kernel) rfl rfl ?_
  refine zr_iconst (v := 2) 2 548 C (by decide +kernel) rfl rfl ?_
  refine zr_iadd 549 C (by decide +kernel) rfl ?_
  refine zl_sld (hi 2 (by decide)) 550 C B (by decide +kernel) rfl ?_
  refine zl_cm (idx := 67) (kc := kc) (ns := ns) (rest := [.int r]) y_M_shapeTold ⟨q_1310, q_1311⟩ (As := [.int (xs (x + 1).toNatClampNeg), .int (xs (x + 2).toNatClampNeg)]) (m_M_shapeTold h2) rfl rfl 553 C G (by omega) (by omega) (by decide +kernel) rfl q_1309 (zb2 rfl rfl) (Nat.le_of_ble_eq_true rfl) ?_
  refine zr_icmp_eq (off := 867) (X := some ()) (Y := none) (out := ()) 1420 556 C (by decide +kernel) (by decide) rfl (if_pos rfl) (fun _ => ?_) (fun h => by cases h)
  exact zr_widen (Nat.le_add_right _ _) (Nat.le_add_right _ _) (K h rfl σ2 τ2 hR2)
