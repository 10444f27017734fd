theorem zl_who {l : Launch} {d : zD} {F : zF} {h g : Nat → Nat} {ad av : Nat → Nat} {k n kc ns b L : Nat} {xs : Nat → Int32} {x : Int32} {σ τ : zS} {R : zS → zS → Prop} (S : zSims R) (C : zOk d F RL cL_law 4 123 3576) (G : zRm F kc ns) (hk : k + 2 ≤ kc) (hn : n + 320 ≤ ns) (E : zXe d ad av) (B : zSc F b L xs) (hi : ∀ j : Nat, j < 6 → vp_in (x + nI j) L) (hR : R σ τ) (K : ∀ (h' : Nat → Nat), h' 0 = h 0 → ∀ σ' τ', R σ' τ' → V l d F (k + 2) (n + 320) (XW d h' σ' ++ MW d g τ') [some (.ref b), some (.ref (h' 0)), some (.ref (g 0)), some (.int x)] 1420 []) : V l d F k n (XW d h σ ++ MW d g τ) [some (.ref b), some (.ref (h 0)), some (.ref (g 0)), some (.int x)] 984 [] := by
  obtain ⟨r, σ2, τ2, h1, h2, hR2⟩ := S.2.2.2.2.2.2.2.2.2.2.2.2.2.2.2.2.2.2.2.2.2.2.2.2.1 ((xs (x + 1).toNatClampNeg), (xs (x + 2).toNatClampNeg)) σ τ hR
  dsimp only at h1 h2
  refine zr_aload_n 1 985 C (by decide +kernel) rfl rfl ?_
  refine zr_aload_n 0 986 C (by decide +kernel) rfl rfl ?_
  refine zr_iload_n 3 987 C (by decide +kernel) rfl rfl ?_
  refine zr_iconst (v := 1) 1 988 C (by decide +kernel) rfl rfl ?_
  refine zr_iadd 989 C (by decide +kernel) rfl ?_
  refine zl_sld (hi 1 (by decide)) 990 C B (by decide +kernel) rfl ?_
  refine zr_aload_n 0 991 C (by decide +kernel) rfl rfl ?_
  refine zr_iload_n 3 992 C (by decide +kernel) rfl rfl ?_
  refine zr_iconst (v := 2) 2 993 C (by decide +kernel) rfl rfl ?_
  refine zr_iadd 994 C (by decide +kernel) rfl ?_
  refine zl_sld (hi 2 (by decide)) 995 C B (by decide +kernel) rfl ?_
  refine zl_cx (idx := 117) (kc := kc) (ns := ns) (rest := []) y_X_who ⟨q_857, q_858⟩ (As := [.int (xs (x + 1).toNatClampNeg), .int (xs (x + 2).toNatClampNeg)]) (m_X_who E h1) rfl rfl 998 C G (by omega) (by omega) (by decide +kernel) rfl q_856 (zb2 rfl rfl) (Nat.le_of_ble_eq_true rfl) ?_
  refine zr_aload_n 2 999 C (by decide +kernel) rfl rfl ?_
  refine zr_aload_n 0 1000 C (by decide +kernel) rfl rfl ?_
  refine zr_iload_n 3 1001 C (by decide +kernel) rfl rfl ?_
  refine zr_iconst (v := 1) 1 1002 C (by decide +kernel) rfl rfl ?_
  refine zr_iadd 1003 C (by decide +kernel) rfl ?_
  refine zl_sld (hi 1 (by decide)) 1004 C B (by decide +kernel) rfl ?_
  refine zr_aload_n 0 1005 C (by decide +kernel) rfl rfl ?_
  refine zr_iload_n 3 1006 C (by decide +kernel) rfl rfl ?_
  refine zr_iconst (v := 2) 2 1007 C (by decide +kernel) rfl rfl ?_
  refine zr_iadd 1008 C (by decide +kernel) rfl ?_
  refine zl_sld (hi 2 (by decide)) 1009 C B (by decide +kernel) rfl ?_
  refine zl_cm (idx := 120) (kc := kc) (ns := ns) (rest := [.int r]) y_M_who ⟨q_1427, q_1428⟩ (As := [.int (xs (x + 1).toNatClampNeg), .int (xs (x + 2).toNatClampNeg)]) (m_M_who h2) rfl rfl 1012 C G (by omega) (by omega) (by decide +kernel) rfl q_1426 (zb2 rfl rfl) (Nat.le_of_ble_eq_true rfl) ?_
  refine zr_icmp_eq (off := 408) (X := some ()) (Y := none) (out := ()) 1420 1015 C (by decide +kernel) (by decide) rfl (if_pos rfl) (fun _ => ?_) (fun h => by cases h)
  exact zr_widen (Nat.le_add_right _ _) (Nat.le_add_right _ _) (K h rfl σ2 τ2 hR2)
theorem zl_meet {l : Launch} {d : zD} {F : zF} {h g : Nat → Nat} {ad av : Nat → Nat} {k n kc ns b L : Nat} {xs : Nat → Int32} {x : Int32} {σ τ : zS} {R : zS → zS → Prop} (S : zSims R) (C : zOk d F RL cL_law 4 123 3576) (G : zRm F kc ns) (hk : k + 2 ≤ kc) (hn : n + 320 ≤ ns) (E : zXe d ad av) (B : zSc F b L xs) (hi : ∀ j : Nat, j < 6 → vp_in (x + nI j) L) (hR : R σ τ) (K : ∀ (h' : Nat → Nat), h' 0 = h 0 → ∀ σ' τ', R σ' τ' → V l d F (k + 2) (n + 320) (XW d h' σ' ++ MW d g τ') [some (.ref b), some (.ref (h' 0)), some (.ref (g 0)), some (.int x)] 1420 []) : V l d F k n (XW d h σ ++ MW d g τ) [some (.ref b), some (.ref (h 0)), some (.ref (g 0)), some (.int x)] 1017 [] := by
  obtain ⟨r, σ2, τ2, h1, h2, hR2⟩ := S.2.2.2.2.2.2.2.2.2.2.2.2.2.2.2.2.2.2.2.2.2.2.2.2.2.1 ((xs (x + 1).toNatClampNeg), (xs (x + 2).toNatClampNeg), (xs (x + 3).toNatClampNeg)) σ τ hR
  dsimp only at h1 h2
  refine zr_aload_n 1 1018 C (by decide +kernel) rfl rfl ?_
  refine zr_aload_n 0 1019 C (by decide +kernel) rfl rfl ?_
  refine zr_iload_n 3 1020 C (by decide +kernel) rfl rfl ?_
  refine zr_iconst (v := 1) 1 1021 C (by decide +kernel) rfl rfl ?_
  refine zr_iadd 1022 C (by decide +kernel) rfl ?_
  refine zl_sld (hi 1 (by decide)) 1023 C B (by decide +kernel) rfl ?_
  refine zr_aload_n 0 1024 C (by decide +kernel) rfl rfl ?_
  refine zr_iload_n 3 1025 C (by decide +kernel) rfl rfl ?_
  refine zr_iconst (v := 2) 2 1026 C (by decide +kernel) rfl rfl ?_
  refine zr_iadd 1027 C (by decide +kernel) rfl ?_
  refine zl_sld (hi 2 (by decide)) 1028 C B (by decide +kernel) rfl ?_
  refine zr_aload_n 0 1029 C (by decide +kernel) rfl rfl ?_
  refine zr_iload_n 3 1030 C (by decide +kernel) rfl rfl ?_
  refine zr_iconst (v := 3) 3 1031 C (by decide +kernel) rfl rfl ?_
  refine zr_iadd 1032 C (by decide +kernel) rfl ?_
  refine zl_sld (hi 3 (by decide)) 1033 C B (by decide +kernel) rfl ?_
  refine zl_cx (idx := 121) (kc := kc) (ns := ns) (rest := []) y_X_meet ⟨q_861, q_862⟩ (As := [.int (xs (x + 1).toNatClampNeg), .int (xs (x + 2).toNatClampNeg), .int (xs (x + 3).toNatClampNeg)]) (m_X_meet E h1) rfl rfl 1036 C G (by omega) (by omega) (by decide +kernel) rfl q_860 (zb2 rfl rfl) (Nat.le_of_ble_eq_true rfl) ?_
  refine zr_aload_n 2 1037 C (by decide +kernel) rfl rfl ?_
  refine zr_aload_n 0 1038 C (by decide +kernel) rfl rfl ?_
  refine zr_iload_n 3 1039 C (by decide +kernel) rfl rfl ?_
  refine zr_iconst (v := 1) 1 1040 C (by decide +kernel) rfl rfl ?_
  refine zr_iadd 1041 C (by decide +kernel) rfl ?_
  refine zl_sld (hi 1 (by decide)) 1042 C B (by decide +kernel) rfl ?_
  refine zr_aload_n 0 1043 C (by decide +kernel) rfl rfl ?_
  refine zr_iload_n 3 1044 C (by decide +kernel) rfl rfl ?_
  refine zr_iconst (v := 2) 2 1045 C (by decide +kernel) rfl rfl ?_
  refine zr_iadd 1046 C (by decide +kernel) rfl ?_
  refine zl_sld (hi 2 (by decide)) 1047 C B (by decide +kernel) rfl ?_
  refine zr_aload_n 0 1048 C (by decide +kernel) rfl rfl ?_
  refine zr_iload_n 3 1049 C (by decide +kernel) rfl rfl ?_
  refine zr_iconst (v := 3) 3 1050 C (by decide +kernel) rfl rfl ?_
  refine zr_iadd 1051 C (by decide +kernel) rfl ?_
  refine zl_sld (hi 3 (by decide)) 1052 C B (by decide +kernel) rfl ?_
  refine zl_cm (idx := 124) (kc := kc) (ns := ns) (rest := [.int r]) y_M_meet ⟨q_1431, q_1432⟩ (As := [.int (xs (x + 1).toNatClampNeg), .int (xs (x + 2).toNatClampNeg), .int (xs (x + 3).toNatClampNeg)]) (m_M_meet h2) rfl rfl 1055 C G (by omega) (by omega) (by decide +kernel) rfl q_1430 (zb2 rfl rfl) (Nat.le_of_ble_eq_true rfl) ?_
  refine zr_icmp_eq (off := 365) (X := some ()) (Y := none) (out := ()) 1420 1058 C (by decide +kernel) (by decide) rfl (if_pos rfl) (fun _ => ?_) (fun h => by cases h)
  exact zr_widen (Nat.le_add_right _ _) (Nat.le_add_right _ _) (K h rfl σ2 τ2 hR2)
theorem zl_shed {l : Launch} {d : zD} {F : zF} {h g : Nat → Nat} {ad av : Nat → Nat} {k n kc ns b L : Nat} {xs : Nat → Int32} {x : Int32} {σ τ : zS} {R : zS → zS → Prop} (S : zSims R) (C : zOk d F RL cL_law 4 123 3576) (G : zRm F kc ns) (hk : k + 2 ≤ kc) (hn : n + 320 ≤ ns) (E : zXe d ad av) (B : zSc F b L xs) (hi : ∀ j : Nat, j < 6 → vp_in (x + nI j) L) (hR : R σ τ) (K : ∀ (h' : Nat → Nat), h' 0 = h 0 → ∀ σ' τ', R σ' τ' → V l d F (k + 2) (n + 320) (XW d h' σ' ++ MW d g τ') [some (.ref b), some (.ref (h' 0)), some (.ref (g 0)), some (.int x)] 1420 []) : V l d F k n (XW d h σ ++ MW d g τ) [some (.ref b), some (.ref (h 0)), some (.ref (g 0)), some (.int x)] 1060 [] := by
  obtain ⟨r, σ2, τ2, h1, h2, hR2⟩ := S.2.2.2.2.2.2.2.2.2.2.2.2.2.2.2.2.2.2.2.2.2.2.2.2.2.2.1 ((xs (x + 1).toNatClampNeg), (xs (x + 2).toNatClampNeg)) σ τ hR
  dsimp only at h1 h2
  refine zr_aload_n 1 1061 C (by decide +kernel) rfl rfl ?_
  refine zr_aload_n 0 1062 C (by decide +kernel) rfl rfl ?_
  refine zr_iload_n 3 1063 C (by decide +kernel) rfl rfl ?_
  refine zr_iconst (v := 1) 1 1064 C (by decide +kernel) rfl rfl ?_
  refine zr_iadd 1065 C (by decide +kernel) rfl ?_
  refine zl_sld (hi 1 (by decide)) 1066 C B (by decide +kernel) rfl ?_
  refine zr_aload_n 0 1067 C (by decide +kernel) rfl rfl ?_
  refine zr_iload_n 3 1068 C (by decide +kernel) rfl rfl ?_
  refine zr_iconst (v := 2) 2 1069 C (by decide +kernel) rfl rfl ?_
  refine zr_iadd 1070 C (by decide +kernel) rfl ?_
  refine zl_sld (hi 2 (by decide)) 1071 C B (by decide +kernel) rfl ?_
  refine zl_cx (idx := 125) (kc := kc) (ns := ns) (rest := []) y_X_shed ⟨q_869, q_870⟩ (As := [.int (xs (x + 1).toNatClampNeg), .int (xs (x + 2).toNatClampNeg)]) (m_X_shed E h1) rfl rfl 1074 C G (by omega) (by omega) (by decide +kernel) rfl q_868 (zb2 rfl rfl) (Nat.le_of_ble_eq_true rfl) ?_
  refine zr_aload_n 2 1075 C (by decide +kernel) rfl rfl ?_
  refine zr_aload_n 0 1076 C (by decide +kernel) rfl rfl ?_
  refine zr_iload_n 3 1077 C (by decide +kernel) rfl rfl ?_
  refine zr_iconst (v := 1) 1 1078 C (by decide +kernel) rfl rfl ?_
  refine zr_iadd 1079 C (by decide +kernel) rfl ?_
  refine zl_sld (hi 1 (by decide)) 1080 C B (by decide +kernel) rfl ?_
  refine zr_aload_n 0 1081 C (by decide +kernel) rfl rfl ?_
  refine zr_iload_n 3 1082 C (by decide +kernel) rfl rfl ?_
  refine zr_iconst (v := 2) 2 1083 C (by decide +kernel) rfl rfl ?_
  refine zr_iadd 1084 C (by decide +kernel) rfl ?_
  refine zl_sld (hi 2 (by decide)) 1085 C B (by decide +kernel) rfl ?_
  refine zl_cm (idx := 128) (kc := kc) (ns := ns) (rest := [.int r]) y_M_shed ⟨q_1435, q_1436⟩ (As := [.int (xs (x + 1).toNatClampNeg), .int (xs (x + 2).toNatClampNeg)]) (m_M_shed h2) rfl rfl 1088 C G (by omega) (by omega) (by decide +kernel) rfl q_1434 (zb2 rfl rfl) (Nat.le_of_ble_eq_true rfl) ?_
  refine zr_icmp_eq (off := 332) (X := some ()) (Y := none) (out := ()) 1420 1091 C (by decide +kernel) (by decide) rfl (if_pos rfl) (fun _ => ?_) (fun h => by cases h)
  exact zr_widen (Nat.le_add_right _ _) (Nat.le_add_right _ _) (K h rfl σ2 τ2 hR2)
theorem zl_bridge {l : Launch} {d : zD} {F : zF} {h g : Nat → Nat} {ad av : Nat → Nat} {k n kc ns b L : Nat} {xs : Nat → Int32} {x : Int32} {σ τ : zS} {R : zS → zS → Prop} (S : zSims R) (C : zOk d F RL cL_law 4 123 3576) (G : zRm F kc ns) (hk : k + 2 ≤ kc) (hn : n + 320 ≤ ns) (E : zXe d ad av) (B : zSc F b L xs) (hi : ∀ j : Nat, j < 6 → vp_in (x + nI j) L) (hR : R σ τ) (K : ∀ (h' : Nat → Nat), h' 0 = h 0 → ∀ σ' τ', R σ' τ' → V l d F (k + 2) (n + 320) (XW d h' σ' ++ MW d g τ') [some (.ref b), some (.ref (h' 0)), some (.ref (g 0)), some (.int x)] 1420 []) : V l d F k n (XW d h σ ++ MW d g τ) [some (.ref b), some (.ref (h 0)), some (.ref (g 0)), some (.int x)] 1093 [] := by
  obtain ⟨r, σ2, τ2, h1, h2, hR2⟩ := S.2.2.2.2.2.2.2.2.2.2.2.2.2.2.2.2.2.2.2.2.2.2.2.2.2.2.2.1 ((xs (x + 1).toNatClampNeg), (xs (x + 2).toNatClampNeg), (xs (x + 3).toNatClampNeg)) σ τ hR
  dsimp only at h1 h2
  refine zr_aload_n 1 1094 C (by decide +kernel) rfl rfl ?_
  refine zr_aload_n 0 1095 C (by decide +kernel) rfl rfl ?_
  refine zr_iload_n 3 1096 C (by decide +kernel) rfl rfl ?_
  refine zr_iconst (v := 1) 1 1097 C (by decide +kernel) rfl rfl ?_
  refine zr_iadd 1098 C (by decide +kernel) rfl ?_
  refine zl_sld (hi 1 (by decide)) 1099 C B (by decide +kernel) rfl ?_
  refine zr_aload_n 0 1100 C (by decide +kernel) rfl rfl ?_
  refine zr_iload_n 3 1101 C (by decide +kernel) rfl rfl ?_
  refine zr_iconst (v := 2) 2 1102 C (by decide +kernel) rfl rfl ?_
  refine zr_iadd 1103 C (by decide +kernel) rfl ?_
  refine zl_sld (hi 2 (by decide)) 1104 C B (by decide +kernel) rfl ?_
  refine zr_aload_n 0 1105 C (by decide +kernel) rfl rfl ?_
  refine zr_iload_n 3 1106 C (by decide +kernel) rfl rfl ?_
  refine zr_iconst (v := 3) 3 1107 C (by decide +kernel) rfl rfl ?_
  refine zr_iadd 1108 C (by decide +kernel) rfl ?_
  refine zl_sld (hi 3 (by decide)) 1109 C B (by decide +kernel) rfl ?_
  refine zl_cx (idx := 129) (kc := kc) (ns := ns) (rest := []) y_X_bridge ⟨q_885, q_886⟩ (As := [.int (xs (x + 1).toNatClampNeg), .int (xs (x + 2).toNatClampNeg), .int (xs (x + 3).toNatClampNeg)]) (m_X_bridge E h1) rfl rfl 1112 C G (by omega) (by omega) (by decide +kernel) rfl q_884 (zb2 rfl rfl) (Nat.le_of_ble_eq_true rfl) ?_
  refine zr_aload_n 2 1113 C (by decide +kernel) rfl rfl ?_
  refine zr_aload_n 0 1114 C (by decide +kernel) rfl rfl ?_
  refine zr_iload_n 3 1115 C (by decide +kernel) rfl rfl ?_
  refine zr_iconst (v := 1) 1 1116 C (by decide +kernel) rfl rfl ?_
  refine zr_iadd 1117 C (by decide +kernel) rfl ?_
  refine zl_sld (hi 1 (by decide)) 1118 C B (by decide +kernel) rfl ?_
  refine zr_aload_n 0 1119 C (by decide +kernel) rfl rfl ?_
  refine zr_iload_n 3 1120 C (by decide +kernel) rfl rfl ?_
  refine zr_iconst (v := 2) 2 1121 C (by decide +kernel) rfl rfl ?_
  refine zr_iadd 1122 C (by decide +kernel) rfl ?_
  refine zl_sld (hi 2 (by decide)) 1123 C B (by decide +kernel) rfl ?_
  refine zr_aload_n 0 1124 C (by decide +kernel) rfl rfl ?_
  refine zr_iload_n 3 1125 C (by decide +kernel) rfl rfl ?_
  refine zr_iconst (v := 3) 3 1126 C (by decide +kernel) rfl rfl ?_
  refine zr_iadd 1127 C (by decide +kernel) rfl ?_
  refine zl_sld (hi 3 (by decide)) 1128 C B (by decide +kernel) rfl ?_
  refine zl_cm (idx := 132) (kc := kc) (ns := ns) (rest := [.int r]) y_M_bridge ⟨q_1443, q_1444⟩ (As := [.int (xs (x + 1).toNatClampNeg), .int (xs (x + 2).toNatClampNeg), .int (xs (x + 3).toNatClampNeg)]) (m_M_bridge h2) rfl rfl 1131 C G (by omega) (by omega) (by decide +kernel) rfl q_1442 (zb2 rfl rfl) (Nat.le_of_ble_eq_true rfl) ?_
  refine zr_icmp_eq (off := 289) (X := some ()) (Y := none) (out := ()) 1420 1134 C (by decide +kernel) (by decide) rfl (if_pos rfl) (fun _ => ?_) (fun h => by cases h)
  exact zr_widen (Nat.le_add_right _ _) (Nat.le_add_right _ _) (K h rfl σ2 τ2 hR2)
theorem zl_count {l : Launch} {d : zD} {F : zF} {h g : Nat → Nat} {ad av : Nat → Nat} {k n kc ns b L : Nat} {xs : Nat → Int32} {x : Int32} {σ τ : zS} {R : zS → zS → Prop} (S : zSims R) (C : zOk d F RL cL_law 4 123 3576) (G : zRm F kc ns) (hk : k + 2 ≤ kc) (hn : n + 320 ≤ ns) (E : zXe d ad av) (B : zSc F b L xs) (hi : ∀ j : Nat, j < 6 → vp_in (x + nI j) L) (hR : R σ τ) (K : ∀ (h' : Nat → Nat), h' 0 = h 0 → ∀ σ' τ', R σ' τ' → V l d F (k + 2) (n + 320) (XW d h' σ' ++ MW d g τ') [some (.ref b), some (.ref (h' 0)), some (.ref (g 0)), some (.int x)] 1420 []) : V l d F k n (XW d h σ ++ MW d g τ) [some (.ref b), some (.ref (h 0)), some (.ref (g 0)), some (.int x)] 1136 [] := by
  obtain ⟨r, σ2, τ2, h1, h2, hR2⟩ := S.2.2.2.2.2.2.2.2.2.2.2.2.2.2.2.2.2.2.2.2.2.2.2.2.2.2.2.2.1 ((xs (x + 1).toNatClampNeg)) σ τ hR
  dsimp only at h1 h2
  refine zr_aload_n 1 1137 C (by decide +kernel) rfl rfl ?_
  refine zr_aload_n 0 1138 C (by decide +kernel) rfl rfl ?_
  refine zr_iload_n 3 1139 C (by decide +kernel) rfl rfl ?_
  refine zr_iconst (v := 1) 1 1140 C (by decide +kernel) rfl rfl ?_
  refine zr_iadd 1141 C (by decide +kernel) rfl ?_
  refine zl_sld (hi 1 (by decide)) 1142 C B (by decide +kernel) rfl ?_
  refine zl_cx (idx := 133) (kc := kc) (ns := ns) (rest := []) y_X_count ⟨q_902, q_903⟩ (As := [.int (xs (x + 1).toNatClampNeg)]) (m_X_count E h1) rfl rfl 1145 C G (by omega) (by omega) (by decide +kernel) rfl q_901 (zb2 rfl rfl) (Nat.le_of_ble_eq_true rfl) ?_
  refine zr_aload_n 2 1146 C (by decide +kernel) rfl rfl ?_
  refine zr_aload_n 0 1147 C (by decide +kernel) rfl rfl ?_
  refine zr_iload_n 3 1148 C (by decide +kernel) rfl rfl ?_
  refine zr_iconst (v := 1) 1 1149 C (by decide +kernel) rfl rfl ?_
  refine zr_iadd 1150 C (by decide +kernel) rfl ?_
  refine zl_sld (hi 1 (by decide)) 1151 C B (by decide +kernel) rfl ?_
  refine zl_cm (idx := 136) (kc := kc) (ns := ns) (rest := [.int r]) y_M_count ⟨q_1447, q_1448⟩ (As := [.int (xs (x + 1).toNatClampNeg)]) (m_M_count h2) rfl rfl 1154 C G (by omega) (by omega) (by decide +kernel) rfl q_1446 (zb2 rfl rfl) (Nat.le_of_ble_eq_true rfl) ?_
  refine zr_icmp_eq (off := 266) (X := some ()) (Y := none) (out := ()) 1420 1157 C (by decide +kernel) (by decide) rfl (if_pos rfl) (fun _ => ?_) (fun h => by cases h)
  exact zr_widen (Nat.le_add_right _ _) (Nat.le_add_right _ _) (K h rfl σ2 τ2 hR2)
theorem zl_image {l : Launch} {d : zD} {F : zF} {h g : Nat → Nat} {ad av : Nat → Nat} {k n kc ns b L : Nat} {xs : Nat → Int32} {x : Int32} {σ τ : zS} {R : zS → zS → Prop} (S : zSims R) (C : zOk d F RL cL_law 4 123 3576) (G : zRm F kc ns) (hk : k + 2 ≤ kc) (hn : n + 320 ≤ ns) (E : zXe d ad av) (B : zSc F b L xs) (hi : ∀ j : Nat, j < 6 → vp_in (x + nI j) L) (hR : R σ τ) (K : ∀ (h' : Nat → Nat), h' 0 = h 0 → ∀ σ' τ', R σ' τ' → V l d F (k + 2) (n + 320) (XW d h' σ' ++ MW d g τ') [some (.ref b), some (.ref (h' 0)), some (.ref (g 0)), some (.int x)] 1420 []) : V l d F k n (XW d h σ ++ MW d g τ) [some (.ref b), some (.ref (h 0)), some (.ref (g 0)), some (.int x)] 1159 [] := by
  obtain ⟨r, σ2, τ2, h1, h2, hR2⟩ := S.2.2.2.2.2.2.2.2.2.2.2.2.2.2.2.2.2.2.2.2.2.2.2.2.2.2.2.2.2.1 () σ τ hR
  dsimp only at h1 h2
  refine zr_aload_n 1 1160 C (by decide +kernel) rfl rfl ?_
  refine zl_cx (idx := 137) (kc := kc) (ns := ns) (rest := []) y_X_image ⟨q_910, q_911⟩ (As := []) (m_X_image E h1) rfl rfl 1163 C G (by omega) (by omega) (by decide +kernel) rfl q_909 (zb2 rfl rfl) (Nat.le_of_ble_eq_true rfl) ?_
  refine zr_aload_n 2 1164 C (by decide +kernel) rfl rfl ?_
  refine zl_cm (idx := 140) (kc := kc) (ns := ns) (rest := [.int r]) y_M_image ⟨q_1451, q_1452⟩ (As := []) (m_M_image h2) rfl rfl 1167 C G (by omega) (by omega) (by decide +kernel) rfl q_1450 (zb2 rfl rfl) (Nat.le_of_ble_eq_true rfl) ?_
  refine zr_icmp_eq (off := 253) (X := some ()) (Y := none) (out := ()) 1420 1170 C (by decide +kernel) (by decide) rfl (if_pos rfl) (fun _ => ?_) (fun h => by cases h)
  exact zr_widen (Nat.le_add_right _ _) (Nat.le_add_right _ _) (K h rfl σ2 τ2 hR2)
