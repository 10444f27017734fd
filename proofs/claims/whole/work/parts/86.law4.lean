theorem zl_person {l : Launch} {d : zD} {F : zF} {h g : Nat → Nat} {ad av : Nat → Nat} {k n kc ns b L : Nat} {xs : Nat → Int32} {x : Int32} {σ τ : zS} {R : zS → zS → Prop} (S : zSims R) (C : zOk d F RL cL_law 4 123 3576) (G : zRm F kc ns) (hk : k + 2 ≤ kc) (hn : n + 320 ≤ ns) (E : zXe d ad av) (B : zSc F b L xs) (hi : ∀ j : Nat, j < 6 → vp_in (x + nI j) L) (hR : R σ τ) (K : ∀ (h' : Nat → Nat), h' 0 = h 0 → ∀ σ' τ', R σ' τ' → V l d F (k + 2) (n + 320) (XW d h' σ' ++ MW d g τ') [some (.ref b), some (.ref (h' 0)), some (.ref (g 0)), some (.int x)] 1420 []) : V l d F k n (XW d h σ ++ MW d g τ) [some (.ref b), some (.ref (h 0)), some (.ref (g 0)), some (.int x)] 786 [] := by
  obtain ⟨r, σ2, τ2, h1, h2, hR2⟩ := S.2.2.2.2.2.2.2.2.2.2.2.2.2.2.2.2.2.2.1 ((xs (x + 1).toNatClampNeg), (xs (x + 2).toNatClampNeg)) σ τ hR
  dsimp only at h1 h2
  refine zr_aload_n 1 787 C (by decide +kernel) rfl rfl ?_
  refine zr_aload_n 0 788 C (by decide +kernel) rfl rfl ?_
  refine zr_iload_n 3 789 C (by decide +kernel) rfl rfl ?_
  refine zr_iconst (v := 1) 1 790 C (by decide +kernel) rfl rfl ?_
  refine zr_iadd 791 C (by decide +kernel) rfl ?_
  refine zl_sld (hi 1 (by decide)) 792 C B (by decide +kernel) rfl ?_
  refine zr_aload_n 0 793 C (by decide +kernel) rfl rfl ?_
  refine zr_iload_n 3 794 C (by decide +kernel) rfl rfl ?_
  refine zr_iconst (v := 2) 2 795 C (by decide +kernel) rfl rfl ?_
  refine zr_iadd 796 C (by decide +kernel) rfl ?_
  refine zl_sld (hi 2 (by decide)) 797 C B (by decide +kernel) rfl ?_
  refine zl_cx (idx := 93) (kc := kc) (ns := ns) (rest := []) y_X_person ⟨q_816, q_817⟩ (As := [.int (xs (x + 1).toNatClampNeg), .int (xs (x + 2).toNatClampNeg)]) (m_X_person E h1) rfl rfl 800 C G (by omega) (by omega) (by decide +kernel) rfl q_815 (zb2 rfl rfl) (Nat.le_of_ble_eq_true rfl) ?_
  refine zr_aload_n 2 801 C (by decide +kernel) rfl rfl ?_
  refine zr_aload_n 0 802 C (by decide +kernel) rfl rfl ?_
  refine zr_iload_n 3 803 C (by decide +kernel) rfl rfl ?_
  refine zr_iconst (v := 1) 1 804 C (by decide +kernel) rfl rfl ?_
  refine zr_iadd 805 C (by decide +kernel) rfl ?_
  refine zl_sld (hi 1 (by decide)) 806 C B (by decide +kernel) rfl ?_
  refine zr_aload_n 0 807 C (by decide +kernel) rfl rfl ?_
  refine zr_iload_n 3 808 C (by decide +kernel) rfl rfl ?_
  refine zr_iconst (v := 2) 2 809 C (by decide +kernel) rfl rfl ?_
  refine zr_iadd 810 C (by decide +kernel) rfl ?_
  refine zl_sld (hi 2 (by decide)) 811 C B (by decide +kernel) rfl ?_
  refine zl_cm (idx := 96) (kc := kc) (ns := ns) (rest := [.int r]) y_M_person ⟨q_1391, q_1392⟩ (As := [.int (xs (x + 1).toNatClampNeg), .int (xs (x + 2).toNatClampNeg)]) (m_M_person h2) rfl rfl 814 C G (by omega) (by omega) (by decide +kernel) rfl q_1390 (zb2 rfl rfl) (Nat.le_of_ble_eq_true rfl) ?_
  refine zr_icmp_eq (off := 606) (X := some ()) (Y := none) (out := ()) 1420 817 C (by decide +kernel) (by decide) rfl (if_pos rfl) (fun _ => ?_) (fun h => by cases h)
  exact zr_widen (Nat.le_add_right _ _) (Nat.le_add_right _ _) (K h rfl σ2 τ2 hR2)
theorem zl_moves {l : Launch} {d : zD} {F : zF} {h g : Nat → Nat} {ad av : Nat → Nat} {k n kc ns b L : Nat} {xs : Nat → Int32} {x : Int32} {σ τ : zS} {R : zS → zS → Prop} (S : zSims R) (C : zOk d F RL cL_law 4 123 3576) (G : zRm F kc ns) (hk : k + 2 ≤ kc) (hn : n + 320 ≤ ns) (E : zXe d ad av) (B : zSc F b L xs) (hi : ∀ j : Nat, j < 6 → vp_in (x + nI j) L) (hR : R σ τ) (K : ∀ (h' : Nat → Nat), h' 0 = h 0 → ∀ σ' τ', R σ' τ' → V l d F (k + 2) (n + 320) (XW d h' σ' ++ MW d g τ') [some (.ref b), some (.ref (h' 0)), some (.ref (g 0)), some (.int x)] 1420 []) : V l d F k n (XW d h σ ++ MW d g τ) [some (.ref b), some (.ref (h 0)), some (.ref (g 0)), some (.int x)] 819 [] := by
  obtain ⟨r, σ2, τ2, h1, h2, hR2⟩ := S.2.2.2.2.2.2.2.2.2.2.2.2.2.2.2.2.2.2.2.1 ((xs (x + 1).toNatClampNeg), (xs (x + 2).toNatClampNeg)) σ τ hR
  dsimp only at h1 h2
  refine zr_aload_n 1 820 C (by decide +kernel) rfl rfl ?_
  refine zr_aload_n 0 821 C (by decide +kernel) rfl rfl ?_
  refine zr_iload_n 3 822 C (by decide +kernel) rfl rfl ?_
  refine zr_iconst (v := 1) 1 823 C (by decide +kernel) rfl rfl ?_
  refine zr_iadd 824 C (by decide +kernel) rfl ?_
  refine zl_sld (hi 1 (by decide)) 825 C B (by decide +kernel) rfl ?_
  refine zr_aload_n 0 826 C (by decide +kernel) rfl rfl ?_
  refine zr_iload_n 3 827 C (by decide +kernel) rfl rfl ?_
  refine zr_iconst (v := 2) 2 828 C (by decide +kernel) rfl rfl ?_
  refine zr_iadd 829 C (by decide +kernel) rfl ?_
  refine zl_sld (hi 2 (by decide)) 830 C B (by decide +kernel) rfl ?_
  refine zl_cx (idx := 97) (kc := kc) (ns := ns) (rest := []) y_X_moves ⟨q_824, q_825⟩ (As := [.int (xs (x + 1).toNatClampNeg), .int (xs (x + 2).toNatClampNeg)]) (m_X_moves E h1) rfl rfl 833 C G (by omega) (by omega) (by decide +kernel) rfl q_823 (zb2 rfl rfl) (Nat.le_of_ble_eq_true rfl) ?_
  refine zr_aload_n 2 834 C (by decide +kernel) rfl rfl ?_
  refine zr_aload_n 0 835 C (by decide +kernel) rfl rfl ?_
  refine zr_iload_n 3 836 C (by decide +kernel) rfl rfl ?_
  refine zr_iconst (v := 1) 1 837 C (by decide +kernel) rfl rfl ?_
  refine zr_iadd 838 C (by decide +kernel) rfl ?_
  refine zl_sld (hi 1 (by decide)) 839 C B (by decide +kernel) rfl ?_
  refine zr_aload_n 0 840 C (by decide +kernel) rfl rfl ?_
  refine zr_iload_n 3 841 C (by decide +kernel) rfl rfl ?_
  refine zr_iconst (v := 2) 2 842 C (by decide +kernel) rfl rfl ?_
  refine zr_iadd 843 C (by decide +kernel) rfl ?_
  refine zl_sld (hi 2 (by decide)) 844 C B (by decide +kernel) rfl ?_
  refine zl_cm (idx := 100) (kc := kc) (ns := ns) (rest := [.int r]) y_M_moves ⟨q_1395, q_1396⟩ (As := [.int (xs (x + 1).toNatClampNeg), .int (xs (x + 2).toNatClampNeg)]) (m_M_moves h2) rfl rfl 847 C G (by omega) (by omega) (by decide +kernel) rfl q_1394 (zb2 rfl rfl) (Nat.le_of_ble_eq_true rfl) ?_
  refine zr_icmp_eq (off := 573) (X := some ()) (Y := none) (out := ()) 1420 850 C (by decide +kernel) (by decide) rfl (if_pos rfl) (fun _ => ?_) (fun h => by cases h)
  exact zr_widen (Nat.le_add_right _ _) (Nat.le_add_right _ _) (K h rfl σ2 τ2 hR2)
theorem zl_personTold {l : Launch} {d : zD} {F : zF} {h g : Nat → Nat} {ad av : Nat → Nat} {k n kc ns b L : Nat} {xs : Nat → Int32} {x : Int32} {σ τ : zS} {R : zS → zS → Prop} (S : zSims R) (C : zOk d F RL cL_law 4 123 3576) (G : zRm F kc ns) (hk : k + 2 ≤ kc) (hn : n + 320 ≤ ns) (E : zXe d ad av) (B : zSc F b L xs) (hi : ∀ j : Nat, j < 6 → vp_in (x + nI j) L) (hR : R σ τ) (K : ∀ (h' : Nat → Nat), h' 0 = h 0 → ∀ σ' τ', R σ' τ' → V l d F (k + 2) (n + 320) (XW d h' σ' ++ MW d g τ') [some (.ref b), some (.ref (h' 0)), some (.ref (g 0)), some (.int x)] 1420 []) : V l d F k n (XW d h σ ++ MW d g τ) [some (.ref b), some (.ref (h 0)), some (.ref (g 0)), some (.int x)] 852 [] := by
  obtain ⟨r, σ2, τ2, h1, h2, hR2⟩ := S.2.2.2.2.2.2.2.2.2.2.2.2.2.2.2.2.2.2.2.2.1 ((xs (x + 1).toNatClampNeg), (xs (x + 2).toNatClampNeg)) σ τ hR
  dsimp only at h1 h2
  refine zr_aload_n 1 853 C (by decide +kernel) rfl rfl ?_
  refine zr_aload_n 0 854 C (by decide +kernel) rfl rfl ?_
  refine zr_iload_n 3 855 C (by decide +kernel) rfl rfl ?_
  refine zr_iconst (v := 1) 1 856 C (by decide +kernel) rfl rfl ?_
  refine zr_iadd 857 C (by decide +kernel) rfl ?_
  refine zl_sld (hi 1 (by decide)) 858 C B (by decide +kernel) rfl ?_
  refine zr_aload_n 0 859 C (by decide +kernel) rfl rfl ?_
  refine zr_iload_n 3 860 C (by decide +kernel) rfl rfl ?_
  refine zr_iconst (v := 2) 2 861 C (by decide +kernel) rfl rfl ?_
  refine zr_iadd 862 C (by decide +kernel) rfl ?_
  refine zl_sld (hi 2 (by decide)) 863 C B (by decide +kernel) rfl ?_
  refine zl_cx (idx := 101) (kc := kc) (ns := ns) (rest := []) y_X_personTold ⟨q_832, q_833⟩ (As := [.int (xs (x + 1).toNatClampNeg), .int (xs (x + 2).toNatClampNeg)]) (m_X_personTold E h1) rfl rfl 866 C G (by omega) (by omega) (by decide +kernel) rfl q_831 (zb2 rfl rfl) (Nat.le_of_ble_eq_true rfl) ?_
  refine zr_aload_n 2 867 C (by decide +kernel) rfl rfl ?_
  refine zr_aload_n 0 868 C (by decide +kernel) rfl rfl ?_
  refine zr_iload_n 3 869 C (by decide +kernel) rfl rfl ?_
  refine zr_iconst (v := 1) 1 870 C (by decide +kernel) rfl rfl ?_
  refine zr_iadd 871 C (by decide +kernel) rfl ?_
  refine zl_sld (hi 1 (by decide)) 872 C B (by decide +kernel) rfl ?_
  refine zr_aload_n 0 873 C (by decide +kernel) rfl rfl ?_
  refine zr_iload_n 3 874 C (by decide +kernel) rfl rfl ?_
  refine zr_iconst (v := 2) 2 875 C (by decide +kernel) rfl rfl ?_
  refine zr_iadd 876 C (by decide +kernel) rfl ?_
  refine zl_sld (hi 2 (by decide)) 877 C B (by decide +kernel) rfl ?_
  refine zl_cm (idx := 104) (kc := kc) (ns := ns) (rest := [.int r]) y_M_personTold ⟨q_1403, q_1404⟩ (As := [.int (xs (x + 1).toNatClampNeg), .int (xs (x + 2).toNatClampNeg)]) (m_M_personTold h2) rfl rfl 880 C G (by omega) (by omega) (by decide +kernel) rfl q_1402 (zb2 rfl rfl) (Nat.le_of_ble_eq_true rfl) ?_
  refine zr_icmp_eq (off := 540) (X := some ()) (Y := none) (out := ()) 1420 883 C (by decide +kernel) (by decide) rfl (if_pos rfl) (fun _ => ?_) (fun h => by cases h)
  exact zr_widen (Nat.le_add_right _ _) (Nat.le_add_right _ _) (K h rfl σ2 τ2 hR2)
theorem zl_well {l : Launch} {d : zD} {F : zF} {h g : Nat → Nat} {ad av : Nat → Nat} {k n kc ns b L : Nat} {xs : Nat → Int32} {x : Int32} {σ τ : zS} {R : zS → zS → Prop} (S : zSims R) (C : zOk d F RL cL_law 4 123 3576) (G : zRm F kc ns) (hk : k + 2 ≤ kc) (hn : n + 320 ≤ ns) (E : zXe d ad av) (B : zSc F b L xs) (hi : ∀ j : Nat, j < 6 → vp_in (x + nI j) L) (hR : R σ τ) (K : ∀ (h' : Nat → Nat), h' 0 = h 0 → ∀ σ' τ', R σ' τ' → V l d F (k + 2) (n + 320) (XW d h' σ' ++ MW d g τ') [some (.ref b), some (.ref (h' 0)), some (.ref (g 0)), some (.int x)] 1420 []) : V l d F k n (XW d h σ ++ MW d g τ) [some (.ref b), some (.ref (h 0)), some (.ref (g 0)), some (.int x)] 885 [] := by
  obtain ⟨r, σ2, τ2, h1, h2, hR2⟩ := S.2.2.2.2.2.2.2.2.2.2.2.2.2.2.2.2.2.2.2.2.2.1 ((xs (x + 1).toNatClampNeg)) σ τ hR
  dsimp only at h1 h2
  refine zr_aload_n 1 886 C (by decide +kernel) rfl rfl ?_
  refine zr_aload_n 0 887 C (by decide +kernel) rfl rfl ?_
  refine zr_iload_n 3 888 C (by decide +kernel) rfl rfl ?_
  refine zr_iconst (v := 1) 1 889 C (by decide +kernel) rfl rfl ?_
  refine zr_iadd 890 C (by decide +kernel) rfl ?_
  refine zl_sld (hi 1 (by decide)) 891 C B (by decide +kernel) rfl ?_
  refine zl_cx (idx := 105) (kc := kc) (ns := ns) (rest := []) y_X_well ⟨q_840, q_841⟩ (As := [.int (xs (x + 1).toNatClampNeg)]) (m_X_well E h1) rfl rfl 894 C G (by omega) (by omega) (by decide +kernel) rfl q_839 (zb2 rfl rfl) (Nat.le_of_ble_eq_true rfl) ?_
  refine zr_aload_n 2 895 C (by decide +kernel) rfl rfl ?_
  refine zr_aload_n 0 896 C (by decide +kernel) rfl rfl ?_
  refine zr_iload_n 3 897 C (by decide +kernel) rfl rfl ?_
  refine zr_iconst (v := 1) 1 898 C (by decide +kernel) rfl rfl ?_
  refine zr_iadd 899 C (by decide +kernel) rfl ?_
  refine zl_sld (hi 1 (by decide)) 900 C B (by decide +kernel) rfl ?_
  refine zl_cm (idx := 108) (kc := kc) (ns := ns) (rest := [.int r]) y_M_well ⟨q_1411, q_1412⟩ (As := [.int (xs (x + 1).toNatClampNeg)]) (m_M_well h2) rfl rfl 903 C G (by omega) (by omega) (by decide +kernel) rfl q_1410 (zb2 rfl rfl) (Nat.le_of_ble_eq_true rfl) ?_
  refine zr_icmp_eq (off := 517) (X := some ()) (Y := none) (out := ()) 1420 906 C (by decide +kernel) (by decide) rfl (if_pos rfl) (fun _ => ?_) (fun h => by cases h)
  exact zr_widen (Nat.le_add_right _ _) (Nat.le_add_right _ _) (K h rfl σ2 τ2 hR2)
theorem zl_may {l : Launch} {d : zD} {F : zF} {h g : Nat → Nat} {ad av : Nat → Nat} {k n kc ns b L : Nat} {xs : Nat → Int32} {x : Int32} {σ τ : zS} {R : zS → zS → Prop} (S : zSims R) (C : zOk d F RL cL_law 4 123 3576) (G : zRm F kc ns) (hk : k + 2 ≤ kc) (hn : n + 320 ≤ ns) (E : zXe d ad av) (B : zSc F b L xs) (hi : ∀ j : Nat, j < 6 → vp_in (x + nI j) L) (hR : R σ τ) (K : ∀ (h' : Nat → Nat), h' 0 = h 0 → ∀ σ' τ', R σ' τ' → V l d F (k + 2) (n + 320) (XW d h' σ' ++ MW d g τ') [some (.ref b), some (.ref (h' 0)), some (.ref (g 0)), some (.int x)] 1420 []) : V l d F k n (XW d h σ ++ MW d g τ) [some (.ref b), some (.ref (h 0)), some (.ref (g 0)), some (.int x)] 908 [] := by
  obtain ⟨r, σ2, τ2, h1, h2, hR2⟩ := S.2.2.2.2.2.2.2.2.2.2.2.2.2.2.2.2.2.2.2.2.2.2.1 ((xs (x + 1).toNatClampNeg), (xs (x + 2).toNatClampNeg), (xs (x + 3).toNatClampNeg)) σ τ hR
  dsimp only at h1 h2
  refine zr_aload_n 1 909 C (by decide +kernel) rfl rfl ?_
  refine zr_aload_n 0 910 C (by decide +kernel) rfl rfl ?_
  refine zr_iload_n 3 911 C (by decide +kernel) rfl rfl ?_
  refine zr_iconst (v := 1) 1 912 C (by decide +kernel) rfl rfl ?_
  refine zr_iadd 913 C (by decide +kernel) rfl ?_
  refine zl_sld (hi 1 (by decide)) 914 C B (by decide +kernel) rfl ?_
  refine zr_aload_n 0 915 C (by decide +kernel) rfl rfl ?_
  refine zr_iload_n 3 916 C (by decide +kernel) rfl rfl ?_
  refine zr_iconst (v := 2) 2 917 C (by decide +kernel) rfl rfl ?_
  refine zr_iadd 918 C (by decide +kernel) rfl ?_
  refine zl_sld (hi 2 (by decide)) 919 C B (by decide +kernel) rfl ?_
  refine zr_aload_n 0 920 C (by decide +kernel) rfl rfl ?_
  refine zr_iload_n 3 921 C (by decide +kernel) rfl rfl ?_
  refine zr_iconst (v := 3) 3 922 C (by decide +kernel) rfl rfl ?_
  refine zr_iadd 923 C (by decide +kernel) rfl ?_
  refine zl_sld (hi 3 (by decide)) 924 C B (by decide +kernel) rfl ?_
  refine zl_cx (idx := 109) (kc := kc) (ns := ns) (rest := []) y_X_may ⟨q_844, q_845⟩ (As := [.int (xs (x + 1).toNatClampNeg), .int (xs (x + 2).toNatClampNeg), .int (xs (x + 3).toNatClampNeg)]) (m_X_may E h1) rfl rfl 927 C G (by omega) (by omega) (by decide +kernel) rfl q_843 (zb2 rfl rfl) (Nat.le_of_ble_eq_true rfl) ?_
  refine zr_aload_n 2 928 C (by decide +kernel) rfl rfl ?_
  refine zr_aload_n 0 929 C (by decide +kernel) rfl rfl ?_
  refine zr_iload_n 3 930 C (by decide +kernel) rfl rfl ?_
  refine zr_iconst (v := 1) 1 931 C (by decide +kernel) rfl rfl ?_
  refine zr_iadd 932 C (by decide +kernel) rfl ?_
  refine zl_sld (hi 1 (by decide)) 933 C B (by decide +kernel) rfl ?_
  refine zr_aload_n 0 934 C (by decide +kernel) rfl rfl ?_
  refine zr_iload_n 3 935 C (by decide +kernel) rfl rfl ?_
  refine zr_iconst (v := 2) 2 936 C (by decide +kernel) rfl rfl ?_
  refine zr_iadd 937 C (by decide +kernel) rfl ?_
  refine zl_sld (hi 2 (by decide)) 938 C B (by decide +kernel) rfl ?_
  refine zr_aload_n 0 939 C (by decide +kernel) rfl rfl ?_
  refine zr_iload_n 3 940 C (by decide +kernel) rfl rfl ?_
  refine zr_iconst (v := 3) 3 941 C (by decide +kernel) rfl rfl ?_
  refine zr_iadd 942 C (by decide +kernel) rfl ?_
  refine zl_sld (hi 3 (by decide)) 943 C B (by decide +kernel) rfl ?_
  refine zl_cm (idx := 112) (kc := kc) (ns := ns) (rest := [.int r]) y_M_may ⟨q_1415, q_1416⟩ (As := [.int (xs (x + 1).toNatClampNeg), .int (xs (x + 2).toNatClampNeg), .int (xs (x + 3).toNatClampNeg)]) (m_M_may h2) rfl rfl 946 C G (by omega) (by omega) (by decide +kernel) rfl q_1414 (zb2 rfl rfl) (Nat.le_of_ble_eq_true rfl) ?_
  refine zr_icmp_eq (off := 474) (X := some ()) (Y := none) (out := ()) 1420 949 C (by decide +kernel) (by decide) rfl (if_pos rfl) (fun _ => ?_) (fun h => by cases h)
  exact zr_widen (Nat.le_add_right _ _) (Nat.le_add_right _ _) (K h rfl σ2 τ2 hR2)
theorem zl_wells {l : Launch} {d : zD} {F : zF} {h g : Nat → Nat} {ad av : Nat → Nat} {k n kc ns b L : Nat} {xs : Nat → Int32} {x : Int32} {σ τ : zS} {R : zS → zS → Prop} (S : zSims R) (C : zOk d F RL cL_law 4 123 3576) (G : zRm F kc ns) (hk : k + 2 ≤ kc) (hn : n + 320 ≤ ns) (E : zXe d ad av) (B : zSc F b L xs) (hi : ∀ j : Nat, j < 6 → vp_in (x + nI j) L) (hR : R σ τ) (K : ∀ (h' : Nat → Nat), h' 0 = h 0 → ∀ σ' τ', R σ' τ' → V l d F (k + 2) (n + 320) (XW d h' σ' ++ MW d g τ') [some (.ref b), some (.ref (h' 0)), some (.ref (g 0)), some (.int x)] 1420 []) : V l d F k n (XW d h σ ++ MW d g τ) [some (.ref b), some (.ref (h 0)), some (.ref (g 0)), some (.int x)] 951 [] := by
  obtain ⟨r, σ2, τ2, h1, h2, hR2⟩ := S.2.2.2.2.2.2.2.2.2.2.2.2.2.2.2.2.2.2.2.2.2.2.2.1 ((xs (x + 1).toNatClampNeg), (xs (x + 2).toNatClampNeg)) σ τ hR
  dsimp only at h1 h2
  refine zr_aload_n 1 952 C (by decide +kernel) rfl rfl ?_
  refine zr_aload_n 0 953 C (by decide +kernel) rfl rfl ?_
  refine zr_iload_n 3 954 C (by decide +kernel) rfl rfl ?_
  refine zr_iconst (v := 1) 1 955 C (by decide +kernel) rfl rfl ?_
  refine zr_iadd 956 C (by decide +kernel) rfl ?_
  refine zl_sld (hi 1 (by decide)) 957 C B (by decide +kernel) rfl ?_
  refine zr_aload_n 0 958 C (by decide +kernel) rfl rfl ?_
  refine zr_iload_n 3 959 C (by decide +kernel) rfl rfl ?_
  refine zr_iconst (v := 2) 2 960 C (by decide +kernel) rfl rfl ?_
  refine zr_iadd 961 C (by decide +kernel) rfl ?_
  refine zl_sld (hi 2 (by decide)) 962 C B (by decide +kernel) rfl ?_
  refine zl_cx (idx := 113) (kc := kc) (ns := ns) (rest := []) y_X_wells ⟨q_853, q_854⟩ (As := [.int (xs (x + 1).toNatClampNeg), .int (xs (x + 2).toNatClampNeg)]) (m_X_wells E h1) rfl rfl 965 C G (by omega) (by omega) (by decide +kernel) rfl q_852 (zb2 rfl rfl) (Nat.le_of_ble_eq_true rfl) ?_
  refine zr_aload_n 2 966 C (by decide +kernel) rfl rfl ?_
  refine zr_aload_n 0 967 C (by decide +kernel) rfl rfl ?_
  refine zr_iload_n 3 968 C (by decide +kernel) rfl rfl ?_
  refine zr_iconst (v := 1) 1 969 C (by decide +kernel) rfl rfl ?_
  refine zr_iadd 970 C (by decide +kernel) rfl ?_
  refine zl_sld (hi 1 (by decide)) 971 C B (by decide +kernel) rfl ?_
  refine zr_aload_n 0 972 C (by decide +kernel) rfl rfl ?_
  refine zr_iload_n 3 973 C (by decide +kernel) rfl rfl ?_
  refine zr_iconst (v := 2) 2 974 C (by decide +kernel) rfl rfl ?_
  refine zr_iadd 975 C (by decide +kernel) rfl ?_
  refine zl_sld (hi 2 (by decide)) 976 C B (by decide +kernel) rfl ?_
  refine zl_cm (idx := 116) (kc := kc) (ns := ns) (rest := [.int r]) y_M_wells ⟨q_1423, q_1424⟩ (As := [.int (xs (x + 1).toNatClampNeg), .int (xs (x + 2).toNatClampNeg)]) (m_M_wells h2) rfl rfl 979 C G (by omega) (by omega) (by decide +kernel) rfl q_1422 (zb2 rfl rfl) (Nat.le_of_ble_eq_true rfl) ?_
  refine zr_icmp_eq (off := 441) (X := some ()) (Y := none) (out := ()) 1420 982 C (by decide +kernel) (by decide) rfl (if_pos rfl) (fun _ => ?_) (fun h => by cases h)
  exact zr_widen (Nat.le_add_right _ _) (Nat.le_add_right _ _) (K h rfl σ2 τ2 hR2)
