theorem zl_within {l : Launch} {d : zD} {F : zF} {h g : Nat → Nat} {ad av : Nat → Nat} {k n kc ns b L : Nat} {xs : Nat → Int32} {x : Int32} {σ τ : zS} {R : zS → zS → Prop} (S : zSims R) (C : zOk d F RL cL_law 4 123 3576) (G : zRm F kc ns) (hk : k + 2 ≤ kc) (hn : n + 320 ≤ ns) (E : zXe d ad av) (B : zSc F b L xs) (hi : ∀ j : Nat, j < 6 → vp_in (x + nI j) L) (hR : R σ τ) (K : ∀ (h' : Nat → Nat), h' 0 = h 0 → ∀ σ' τ', R σ' τ' → V l d F (k + 2) (n + 320) (XW d h' σ' ++ MW d g τ') [some (.ref b), some (.ref (h' 0)), some (.ref (g 0)), some (.int x)] 1420 []) : V l d F k n (XW d h σ ++ MW d g τ) [some (.ref b), some (.ref (h 0)), some (.ref (g 0)), some (.int x)] 558 [] := by
  obtain ⟨r, σ2, τ2, h1, h2, hR2⟩ := S.2.2.2.2.2.2.2.2.2.2.2.2.1 ((xs (x + 1).toNatClampNeg), (xs (x + 2).toNatClampNeg)) σ τ hR
  dsimp only at h1 h2
  refine zr_aload_n 1 559 C (by decide +kernel) rfl rfl ?_
  refine zr_aload_n 0 560 C (by decide +kernel) rfl rfl ?_
  refine zr_iload_n 3 561 C (by decide +kernel) rfl rfl ?_
  refine zr_iconst (v := 1) 1 562 C (by decide +kernel) rfl rfl ?_
  refine zr_iadd 563 C (by decide +kernel) rfl ?_
  refine zl_sld (hi 1 (by decide)) 564 C B (by decide +kernel) rfl ?_
  refine zr_aload_n 0 565 C (by decide +kernel) rfl rfl ?_
  refine zr_iload_n 3 566 C (by decide +kernel) rfl rfl ?_
  refine zr_iconst (v := 2) 2 567 C (by decide +kernel) rfl rfl ?_
  refine zr_iadd 568 C (by decide +kernel) rfl ?_
  refine zl_sld (hi 2 (by decide)) 569 C B (by decide +kernel) rfl ?_
  refine zl_cx (idx := 68) (kc := kc) (ns := ns) (rest := []) y_X_within ⟨q_725, q_726⟩ (As := [.int (xs (x + 1).toNatClampNeg), .int (xs (x + 2).toNatClampNeg)]) (m_X_within E h1) rfl rfl 572 C G (by omega) (by omega) (by decide +kernel) rfl q_724 (zb2 rfl rfl) (Nat.le_of_ble_eq_true rfl) ?_
  refine zr_aload_n 2 573 C (by decide +kernel) rfl rfl ?_
  refine zr_aload_n 0 574 C (by decide +kernel) rfl rfl ?_
  refine zr_iload_n 3 575 C (by decide +kernel) rfl rfl ?_
  refine zr_iconst (v := 1) 1 576 C (by decide +kernel) rfl rfl ?_
  refine zr_iadd 577 C (by decide +kernel) rfl ?_
  refine zl_sld (hi 1 (by decide)) 578 C B (by decide +kernel) rfl ?_
  refine zr_aload_n 0 579 C (by decide +kernel) rfl rfl ?_
  refine zr_iload_n 3 580 C (by decide +kernel) rfl rfl ?_
  refine zr_iconst (v := 2) 2 581 C (by decide +kernel) rfl rfl ?_
  refine zr_iadd 582 C (by decide +kernel) rfl ?_
  refine zl_sld (hi 2 (by decide)) 583 C B (by decide +kernel) rfl ?_
  refine zl_cm (idx := 71) (kc := kc) (ns := ns) (rest := [.int r]) y_M_within ⟨q_1326, q_1327⟩ (As := [.int (xs (x + 1).toNatClampNeg), .int (xs (x + 2).toNatClampNeg)]) (m_M_within h2) rfl rfl 586 C G (by omega) (by omega) (by decide +kernel) rfl q_1325 (zb2 rfl rfl) (Nat.le_of_ble_eq_true rfl) ?_
  refine zr_icmp_eq (off := 834) (X := some ()) (Y := none) (out := ()) 1420 589 C (by decide +kernel) (by decide) rfl (if_pos rfl) (fun _ => ?_) (fun h => by cases h)
  exact zr_widen (Nat.le_add_right _ _) (Nat.le_add_right _ _) (K h rfl σ2 τ2 hR2)
theorem zl_size {l : Launch} {d : zD} {F : zF} {h g : Nat → Nat} {ad av : Nat → Nat} {k n kc ns b L : Nat} {xs : Nat → Int32} {x : Int32} {σ τ : zS} {R : zS → zS → Prop} (S : zSims R) (C : zOk d F RL cL_law 4 123 3576) (G : zRm F kc ns) (hk : k + 2 ≤ kc) (hn : n + 320 ≤ ns) (E : zXe d ad av) (B : zSc F b L xs) (hi : ∀ j : Nat, j < 6 → vp_in (x + nI j) L) (hR : R σ τ) (K : ∀ (h' : Nat → Nat), h' 0 = h 0 → ∀ σ' τ', R σ' τ' → V l d F (k + 2) (n + 320) (XW d h' σ' ++ MW d g τ') [some (.ref b), some (.ref (h' 0)), some (.ref (g 0)), some (.int x)] 1420 []) : V l d F k n (XW d h σ ++ MW d g τ) [some (.ref b), some (.ref (h 0)), some (.ref (g 0)), some (.int x)] 591 [] := by
  obtain ⟨r, σ2, τ2, h1, h2, hR2⟩ := S.2.2.2.2.2.2.2.2.2.2.2.2.2.1 ((xs (x + 1).toNatClampNeg)) σ τ hR
  dsimp only at h1 h2
  refine zr_aload_n 1 592 C (by decide +kernel) rfl rfl ?_
  refine zr_aload_n 0 593 C (by decide +kernel) rfl rfl ?_
  refine zr_iload_n 3 594 C (by decide +kernel) rfl rfl ?_
  refine zr_iconst (v := 1) 1 595 C (by decide +kernel) rfl rfl ?_
  refine zr_iadd 596 C (by decide +kernel) rfl ?_
  refine zl_sld (hi 1 (by decide)) 597 C B (by decide +kernel) rfl ?_
  refine zl_cx (idx := 72) (kc := kc) (ns := ns) (rest := []) y_X_size ⟨q_775, q_776⟩ (As := [.int (xs (x + 1).toNatClampNeg)]) (m_X_size E h1) rfl rfl 600 C G (by omega) (by omega) (by decide +kernel) rfl q_774 (zb2 rfl rfl) (Nat.le_of_ble_eq_true rfl) ?_
  refine zr_aload_n 2 601 C (by decide +kernel) rfl rfl ?_
  refine zr_aload_n 0 602 C (by decide +kernel) rfl rfl ?_
  refine zr_iload_n 3 603 C (by decide +kernel) rfl rfl ?_
  refine zr_iconst (v := 1) 1 604 C (by decide +kernel) rfl rfl ?_
  refine zr_iadd 605 C (by decide +kernel) rfl ?_
  refine zl_sld (hi 1 (by decide)) 606 C B (by decide +kernel) rfl ?_
  refine zl_cm (idx := 75) (kc := kc) (ns := ns) (rest := [.int r]) y_M_size ⟨q_1350, q_1351⟩ (As := [.int (xs (x + 1).toNatClampNeg)]) (m_M_size h2) rfl rfl 609 C G (by omega) (by omega) (by decide +kernel) rfl q_1349 (zb2 rfl rfl) (Nat.le_of_ble_eq_true rfl) ?_
  refine zr_icmp_eq (off := 811) (X := some ()) (Y := none) (out := ()) 1420 612 C (by decide +kernel) (by decide) rfl (if_pos rfl) (fun _ => ?_) (fun h => by cases h)
  exact zr_widen (Nat.le_add_right _ _) (Nat.le_add_right _ _) (K h rfl σ2 τ2 hR2)
theorem zl_both {l : Launch} {d : zD} {F : zF} {h g : Nat → Nat} {ad av : Nat → Nat} {k n kc ns b L : Nat} {xs : Nat → Int32} {x : Int32} {σ τ : zS} {R : zS → zS → Prop} (S : zSims R) (C : zOk d F RL cL_law 4 123 3576) (G : zRm F kc ns) (hk : k + 2 ≤ kc) (hn : n + 320 ≤ ns) (E : zXe d ad av) (B : zSc F b L xs) (hi : ∀ j : Nat, j < 6 → vp_in (x + nI j) L) (hR : R σ τ) (K : ∀ (h' : Nat → Nat), h' 0 = h 0 → ∀ σ' τ', R σ' τ' → V l d F (k + 2) (n + 320) (XW d h' σ' ++ MW d g τ') [some (.ref b), some (.ref (h' 0)), some (.ref (g 0)), some (.int x)] 1420 []) : V l d F k n (XW d h σ ++ MW d g τ) [some (.ref b), some (.ref (h 0)), some (.ref (g 0)), some (.int x)] 614 [] := by
  obtain ⟨r, σ2, τ2, h1, h2, hR2⟩ := S.2.2.2.2.2.2.2.2.2.2.2.2.2.2.1 ((xs (x + 1).toNatClampNeg), (xs (x + 2).toNatClampNeg), (xs (x + 3).toNatClampNeg)) σ τ hR
  dsimp only at h1 h2
  refine zr_aload_n 1 615 C (by decide +kernel) rfl rfl ?_
  refine zr_aload_n 0 616 C (by decide +kernel) rfl rfl ?_
  refine zr_iload_n 3 617 C (by decide +kernel) rfl rfl ?_
  refine zr_iconst (v := 1) 1 618 C (by decide +kernel) rfl rfl ?_
  refine zr_iadd 619 C (by decide +kernel) rfl ?_
  refine zl_sld (hi 1 (by decide)) 620 C B (by decide +kernel) rfl ?_
  refine zr_aload_n 0 621 C (by decide +kernel) rfl rfl ?_
  refine zr_iload_n 3 622 C (by decide +kernel) rfl rfl ?_
  refine zr_iconst (v := 2) 2 623 C (by decide +kernel) rfl rfl ?_
  refine zr_iadd 624 C (by decide +kernel) rfl ?_
  refine zl_sld (hi 2 (by decide)) 625 C B (by decide +kernel) rfl ?_
  refine zr_aload_n 0 626 C (by decide +kernel) rfl rfl ?_
  refine zr_iload_n 3 627 C (by decide +kernel) rfl rfl ?_
  refine zr_iconst (v := 3) 3 628 C (by decide +kernel) rfl rfl ?_
  refine zr_iadd 629 C (by decide +kernel) rfl ?_
  refine zl_sld (hi 3 (by decide)) 630 C B (by decide +kernel) rfl ?_
  refine zl_cx (idx := 76) (kc := kc) (ns := ns) (rest := []) y_X_both ⟨q_779, q_780⟩ (As := [.int (xs (x + 1).toNatClampNeg), .int (xs (x + 2).toNatClampNeg), .int (xs (x + 3).toNatClampNeg)]) (m_X_both E h1) rfl rfl 633 C G (by omega) (by omega) (by decide +kernel) rfl q_778 (zb2 rfl rfl) (Nat.le_of_ble_eq_true rfl) ?_
  refine zr_aload_n 2 634 C (by decide +kernel) rfl rfl ?_
  refine zr_aload_n 0 635 C (by decide +kernel) rfl rfl ?_
  refine zr_iload_n 3 636 C (by decide +kernel) rfl rfl ?_
  refine zr_iconst (v := 1) 1 637 C (by decide +kernel) rfl rfl ?_
  refine zr_iadd 638 C (by decide +kernel) rfl ?_
  refine zl_sld (hi 1 (by decide)) 639 C B (by decide +kernel) rfl ?_
  refine zr_aload_n 0 640 C (by decide +kernel) rfl rfl ?_
  refine zr_iload_n 3 641 C (by decide +kernel) rfl rfl ?_
  refine zr_iconst (v := 2) 2 642 C (by decide +kernel) rfl rfl ?_
  refine zr_iadd 643 C (by decide +kernel) rfl ?_
  refine zl_sld (hi 2 (by decide)) 644 C B (by decide +kernel) rfl ?_
  refine zr_aload_n 0 645 C (by decide +kernel) rfl rfl ?_
  refine zr_iload_n 3 646 C (by decide +kernel) rfl rfl ?_
  refine zr_iconst (v := 3) 3 647 C (by decide +kernel) rfl rfl ?_
  refine zr_iadd 648 C (by decide +kernel) rfl ?_
  refine zl_sld (hi 3 (by decide)) 649 C B (by decide +kernel) rfl ?_
  refine zl_cm (idx := 79) (kc := kc) (ns := ns) (rest := [.int r]) y_M_both ⟨q_1358, q_1359⟩ (As := [.int (xs (x + 1).toNatClampNeg), .int (xs (x + 2).toNatClampNeg), .int (xs (x + 3).toNatClampNeg)]) (m_M_both h2) rfl rfl 652 C G (by omega) (by omega) (by decide +kernel) rfl q_1357 (zb2 rfl rfl) (Nat.le_of_ble_eq_true rfl) ?_
  refine zr_icmp_eq (off := 768) (X := some ()) (Y := none) (out := ()) 1420 655 C (by decide +kernel) (by decide) rfl (if_pos rfl) (fun _ => ?_) (fun h => by cases h)
  exact zr_widen (Nat.le_add_right _ _) (Nat.le_add_right _ _) (K h rfl σ2 τ2 hR2)
theorem zl_laid {l : Launch} {d : zD} {F : zF} {h g : Nat → Nat} {ad av : Nat → Nat} {k n kc ns b L : Nat} {xs : Nat → Int32} {x : Int32} {σ τ : zS} {R : zS → zS → Prop} (S : zSims R) (C : zOk d F RL cL_law 4 123 3576) (G : zRm F kc ns) (hk : k + 2 ≤ kc) (hn : n + 320 ≤ ns) (E : zXe d ad av) (B : zSc F b L xs) (hi : ∀ j : Nat, j < 6 → vp_in (x + nI j) L) (hR : R σ τ) (K : ∀ (h' : Nat → Nat), h' 0 = h 0 → ∀ σ' τ', R σ' τ' → V l d F (k + 2) (n + 320) (XW d h' σ' ++ MW d g τ') [some (.ref b), some (.ref (h' 0)), some (.ref (g 0)), some (.int x)] 1420 []) : V l d F k n (XW d h σ ++ MW d g τ) [some (.ref b), some (.ref (h 0)), some (.ref (g 0)), some (.int x)] 657 [] := by
  obtain ⟨r, σ2, τ2, h1, h2, hR2⟩ := S.2.2.2.2.2.2.2.2.2.2.2.2.2.2.2.1 ((xs (x + 1).toNatClampNeg), (xs (x + 2).toNatClampNeg)) σ τ hR
  dsimp only at h1 h2
  refine zr_aload_n 1 658 C (by decide +kernel) rfl rfl ?_
  refine zr_aload_n 0 659 C (by decide +kernel) rfl rfl ?_
  refine zr_iload_n 3 660 C (by decide +kernel) rfl rfl ?_
  refine zr_iconst (v := 1) 1 661 C (by decide +kernel) rfl rfl ?_
  refine zr_iadd 662 C (by decide +kernel) rfl ?_
  refine zl_sld (hi 1 (by decide)) 663 C B (by decide +kernel) rfl ?_
  refine zr_aload_n 0 664 C (by decide +kernel) rfl rfl ?_
  refine zr_iload_n 3 665 C (by decide +kernel) rfl rfl ?_
  refine zr_iconst (v := 2) 2 666 C (by decide +kernel) rfl rfl ?_
  refine zr_iadd 667 C (by decide +kernel) rfl ?_
  refine zl_sld (hi 2 (by decide)) 668 C B (by decide +kernel) rfl ?_
  refine zl_cx (idx := 80) (kc := kc) (ns := ns) (rest := []) y_X_laid ⟨q_783, q_784⟩ (As := [.int (xs (x + 1).toNatClampNeg), .int (xs (x + 2).toNatClampNeg)]) (m_X_laid E h1) rfl rfl 671 C G (by omega) (by omega) (by decide +kernel) rfl q_782 (zb2 rfl rfl) (Nat.le_of_ble_eq_true rfl) ?_
  refine zr_aload_n 2 672 C (by decide +kernel) rfl rfl ?_
  refine zr_aload_n 0 673 C (by decide +kernel) rfl rfl ?_
  refine zr_iload_n 3 674 C (by decide +kernel) rfl rfl ?_
  refine zr_iconst (v := 1) 1 675 C (by decide +kernel) rfl rfl ?_
  refine zr_iadd 676 C (by decide +kernel) rfl ?_
  refine zl_sld (hi 1 (by decide)) 677 C B (by decide +kernel) rfl ?_
  refine zr_aload_n 0 678 C (by decide +kernel) rfl rfl ?_
  refine zr_iload_n 3 679 C (by decide +kernel) rfl rfl ?_
  refine zr_iconst (v := 2) 2 680 C (by decide +kernel) rfl rfl ?_
  refine zr_iadd 681 C (by decide +kernel) rfl ?_
  refine zl_sld (hi 2 (by decide)) 682 C B (by decide +kernel) rfl ?_
  refine zl_cm (idx := 83) (kc := kc) (ns := ns) (rest := [.int r]) y_M_laid ⟨q_1366, q_1367⟩ (As := [.int (xs (x + 1).toNatClampNeg), .int (xs (x + 2).toNatClampNeg)]) (m_M_laid h2) rfl rfl 685 C G (by omega) (by omega) (by decide +kernel) rfl q_1365 (zb2 rfl rfl) (Nat.le_of_ble_eq_true rfl) ?_
  refine zr_icmp_eq (off := 735) (X := some ()) (Y := none) (out := ()) 1420 688 C (by decide +kernel) (by decide) rfl (if_pos rfl) (fun _ => ?_) (fun h => by cases h)
  exact zr_widen (Nat.le_add_right _ _) (Nat.le_add_right _ _) (K h rfl σ2 τ2 hR2)
theorem zl_ravine {l : Launch} {d : zD} {F : zF} {h g : Nat → Nat} {ad av : Nat → Nat} {k n kc ns b L : Nat} {xs : Nat → Int32} {x : Int32} {σ τ : zS} {R : zS → zS → Prop} (S : zSims R) (C : zOk d F RL cL_law 4 123 3576) (G : zRm F kc ns) (hk : k + 2 ≤ kc) (hn : n + 320 ≤ ns) (E : zXe d ad av) (B : zSc F b L xs) (hi : ∀ j : Nat, j < 6 → vp_in (x + nI j) L) (hR : R σ τ) (K : ∀ (h' : Nat → Nat), h' 0 = h 0 → ∀ σ' τ', R σ' τ' → V l d F (k + 2) (n + 320) (XW d h' σ' ++ MW d g τ') [some (.ref b), some (.ref (h' 0)), some (.ref (g 0)), some (.int x)] 1420 []) : V l d F k n (XW d h σ ++ MW d g τ) [some (.ref b), some (.ref (h 0)), some (.ref (g 0)), some (.int x)] 690 [] := by
  obtain ⟨r, σ2, τ2, h1, h2, hR2⟩ := S.2.2.2.2.2.2.2.2.2.2.2.2.2.2.2.2.1 ((xs (x + 1).toNatClampNeg), (xs (x + 2).toNatClampNeg), (xs (x + 3).toNatClampNeg), (xs (x + 4).toNatClampNeg), (xs (x + 5).toNatClampNeg)) σ τ hR
  dsimp only at h1 h2
  refine zr_aload_n 1 691 C (by decide +kernel) rfl rfl ?_
  refine zr_aload_n 0 692 C (by decide +kernel) rfl rfl ?_
  refine zr_iload_n 3 693 C (by decide +kernel) rfl rfl ?_
  refine zr_iconst (v := 1) 1 694 C (by decide +kernel) rfl rfl ?_
  refine zr_iadd 695 C (by decide +kernel) rfl ?_
  refine zl_sld (hi 1 (by decide)) 696 C B (by decide +kernel) rfl ?_
  refine zr_aload_n 0 697 C (by decide +kernel) rfl rfl ?_
  refine zr_iload_n 3 698 C (by decide +kernel) rfl rfl ?_
  refine zr_iconst (v := 2) 2 699 C (by decide +kernel) rfl rfl ?_
  refine zr_iadd 700 C (by decide +kernel) rfl ?_
  refine zl_sld (hi 2 (by decide)) 701 C B (by decide +kernel) rfl ?_
  refine zr_aload_n 0 702 C (by decide +kernel) rfl rfl ?_
  refine zr_iload_n 3 703 C (by decide +kernel) rfl rfl ?_
  refine zr_iconst (v := 3) 3 704 C (by decide +kernel) rfl rfl ?_
  refine zr_iadd 705 C (by decide +kernel) rfl ?_
  refine zl_sld (hi 3 (by decide)) 706 C B (by decide +kernel) rfl ?_
  refine zr_aload_n 0 707 C (by decide +kernel) rfl rfl ?_
  refine zr_iload_n 3 708 C (by decide +kernel) rfl rfl ?_
  refine zr_iconst (v := 4) 4 709 C (by decide +kernel) rfl rfl ?_
  refine zr_iadd 710 C (by decide +kernel) rfl ?_
  refine zl_sld (hi 4 (by decide)) 711 C B (by decide +kernel) rfl ?_
  refine zr_aload_n 0 712 C (by decide +kernel) rfl rfl ?_
  refine zr_iload_n 3 713 C (by decide +kernel) rfl rfl ?_
  refine zr_iconst (v := 5) 5 714 C (by decide +kernel) rfl rfl ?_
  refine zr_iadd 715 C (by decide +kernel) rfl ?_
  refine zl_sld (hi 5 (by decide)) 716 C B (by decide +kernel) rfl ?_
  refine zl_cx (idx := 84) (kc := kc) (ns := ns) (rest := []) y_X_ravine ⟨q_787, q_788⟩ (As := [.int (xs (x + 1).toNatClampNeg), .int (xs (x + 2).toNatClampNeg), .int (xs (x + 3).toNatClampNeg), .int (xs (x + 4).toNatClampNeg), .int (xs (x + 5).toNatClampNeg)]) (m_X_ravine E h1) rfl rfl 719 C G (by omega) (by omega) (by decide +kernel) rfl q_786 (zb2 rfl rfl) (Nat.le_of_ble_eq_true rfl) ?_
  refine zr_aload_n 2 720 C (by decide +kernel) rfl rfl ?_
  refine zr_aload_n 0 721 C (by decide +kernel) rfl rfl ?_
  refine zr_iload_n 3 722 C (by decide +kernel) rfl rfl ?_
  refine zr_iconst (v := 1) 1 723 C (by decide +kernel) rfl rfl ?_
  refine zr_iadd 724 C (by decide +kernel) rfl ?_
  refine zl_sld (hi 1 (by decide)) 725 C B (by decide +kernel) rfl ?_
  refine zr_aload_n 0 726 C (by decide +kernel) rfl rfl ?_
  refine zr_iload_n 3 727 C (by decide +kernel) rfl rfl ?_
  refine zr_iconst (v := 2) 2 728 C (by decide +kernel) rfl rfl ?_
  refine zr_iadd 729 C (by decide +kernel) rfl ?_
  refine zl_sld (hi 2 (by decide)) 730 C B (by decide +kernel) rfl ?_
  refine zr_aload_n 0 731 C (by decide +kernel) rfl rfl ?_
  refine zr_iload_n 3 732 C (by decide +kernel) rfl rfl ?_
  refine zr_iconst (v := 3) 3 733 C (by decide +kernel) rfl rfl ?_
  refine zr_iadd 734 C (by decide +kernel) rfl ?_
  refine zl_sld (hi 3 (by decide)) 735 C B (by decide +kernel) rfl ?_
  refine zr_aload_n 0 736 C (by decide +kernel) rfl rfl ?_
  refine zr_iload_n 3 737 C (by decide +kernel) rfl rfl ?_
  refine zr_iconst (v := 4) 4 738 C (by decide +kernel) rfl rfl ?_
  refine zr_iadd 739 C (by decide +kernel) rfl ?_
  refine zl_sld (hi 4 (by decide)) 740 C B (by decide +kernel) rfl ?_
  refine zr_aload_n 0 741 C (by decide +kernel) rfl rfl ?_
  refine zr_iload_n 3 742 C (by decide +kernel) rfl rfl ?_
  refine zr_iconst (v := 5) 5 743 C (by decide +kernel) rfl rfl ?_
  refine zr_iadd 744 C (by decide +kernel) rfl ?_
  refine zl_sld (hi 5 (by decide)) 745 C B (by decide +kernel) rfl ?_
  refine zl_cm (idx := 88) (kc := kc) (ns := ns) (rest := [.int r]) y_M_ravine ⟨q_1370, q_1371⟩ (As := [.int (xs (x + 1).toNatClampNeg), .int (xs (x + 2).toNatClampNeg), .int (xs (x + 3).toNatClampNeg), .int (xs (x + 4).toNatClampNeg), .int (xs (x + 5).toNatClampNeg)]) (m_M_ravine h2) rfl rfl 748 C G (by omega) (by omega) (by decide +kernel) rfl q_1369 (zb2 rfl rfl) (Nat.le_of_ble_eq_true rfl) ?_
  refine zr_icmp_eq (off := 672) (X := some ()) (Y := none) (out := ()) 1420 751 C (by decide +kernel) (by decide) rfl (if_pos rfl) (fun _ => ?_) (fun h => by cases h)
  exact zr_widen (Nat.le_add_right _ _) (Nat.le_add_right _ _) (K h rfl σ2 τ2 hR2)
theorem zl_steps {l : Launch} {d : zD} {F : zF} {h g : Nat → Nat} {ad av : Nat → Nat} {k n kc ns b L : Nat} {xs : Nat → Int32} {x : Int32} {σ τ : zS} {R : zS → zS → Prop} (S : zSims R) (C : zOk d F RL cL_law 4 123 3576) (G : zRm F kc ns) (hk : k + 2 ≤ kc) (hn : n + 320 ≤ ns) (E : zXe d ad av) (B : zSc F b L xs) (hi : ∀ j : Nat, j < 6 → vp_in (x + nI j) L) (hR : R σ τ) (K : ∀ (h' : Nat → Nat), h' 0 = h 0 → ∀ σ' τ', R σ' τ' → V l d F (k + 2) (n + 320) (XW d h' σ' ++ MW d g τ') [some (.ref b), some (.ref (h' 0)), some (.ref (g 0)), some (.int x)] 1420 []) : V l d F k n (XW d h σ ++ MW d g τ) [some (.ref b), some (.ref (h 0)), some (.ref (g 0)), some (.int x)] 753 [] := by
  obtain ⟨r, σ2, τ2, h1, h2, hR2⟩ := S.2.2.2.2.2.2.2.2.2.2.2.2.2.2.2.2.2.1 ((xs (x + 1).toNatClampNeg), (xs (x + 2).toNatClampNeg)) σ τ hR
  dsimp only at h1 h2
  refine zr_aload_n 1 754 C (by decide +kernel) rfl rfl ?_
  refine zr_aload_n 0 755 C (by decide +kernel) rfl rfl ?_
  refine zr_iload_n 3 756 C (by decide +kernel) rfl rfl ?_
  refine zr_iconst (v := 1) 1 757 C (by decide +kernel) rfl rfl ?_
  refine zr_iadd 758 C (by decide +kernel) rfl ?_
  refine zl_sld (hi 1 (by decide)) 759 C B (by decide +kernel) rfl ?_
  refine zr_aload_n 0 760 C (by decide +kernel) rfl rfl ?_
  refine zr_iload_n 3 761 C (by decide +kernel) rfl rfl ?_
  refine zr_iconst (v := 2) 2 762 C (by decide +kernel) rfl rfl ?_
  refine zr_iadd 763 C (by decide +kernel) rfl ?_
  refine zl_sld (hi 2 (by decide)) 764 C B (by decide +kernel) rfl ?_
  refine zl_cx (idx := 89) (kc := kc) (ns := ns) (rest := []) y_X_steps ⟨q_795, q_796⟩ (As := [.int (xs (x + 1).toNatClampNeg), .int (xs (x + 2).toNatClampNeg)]) (m_X_steps E h1) rfl rfl 767 C G (by omega) (by omega) (by decide +kernel) rfl q_794 (zb2 rfl rfl) (Nat.le_of_ble_eq_true rfl) ?_
  refine zr_aload_n 2 768 C (by decide +kernel) rfl rfl ?_
  refine zr_aload_n 0 769 C (by decide +kernel) rfl rfl ?_
  refine zr_iload_n 3 770 C (by decide +kernel) rfl rfl ?_
  refine zr_iconst (v := 1) 1 771 C (by decide +kernel) rfl rfl ?_
  refine zr_iadd 772 C (by decide +kernel) rfl ?_
  refine zl_sld (hi 1 (by decide)) 773 C B (by decide +kernel) rfl ?_
  refine zr_aload_n 0 774 C (by decide +kernel) rfl rfl ?_
  refine zr_iload_n 3 775 C (by decide +kernel) rfl rfl ?_
  refine zr_iconst (v := 2) 2 776 C (by decide +kernel) rfl rfl ?_
  refine zr_iadd 777 C (by decide +kernel) rfl ?_
  refine zl_sld (hi 2 (by decide)) 778 C B (by decide +kernel) rfl ?_
  refine zl_cm (idx := 92) (kc := kc) (ns := ns) (rest := [.int r]) y_M_steps ⟨q_1374, q_1375⟩ (As := [.int (xs (x + 1).toNatClampNeg), .int (xs (x + 2).toNatClampNeg)]) (m_M_steps h2) rfl rfl 781 C G (by omega) (by omega) (by decide +kernel) rfl q_1373 (zb2 rfl rfl) (Nat.le_of_ble_eq_true rfl) ?_
  refine zr_icmp_eq (off := 639) (X := some ()) (Y := none) (out := ()) 1420 784 C (by decide +kernel) (by decide) rfl (if_pos rfl) (fun _ => ?_) (fun h => by cases h)
  exact zr_widen (Nat.le_add_right _ _) (Nat.le_add_right _ _) (K h rfl σ2 τ2 hR2)
