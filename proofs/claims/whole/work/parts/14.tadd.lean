theorem q_107 : Cond.fieldLink RX8 23 RX4 "code" "[I" ∈ zW := z_w 107 (by decide +kernel) (by decide +kernel)
theorem q_110 : Cond.fieldLink RX8 38 RX4 "written" "I" ∈ zW := z_w 110 (by decide +kernel) (by decide +kernel)
theorem q_112 : Cond.fieldLink RX8 29 RX4 "farStart" "I" ∈ zW := z_w 112 (by decide +kernel) (by decide +kernel)
theorem q_114 : Cond.fieldLink RX10 169 RX4 "at" "I" ∈ zW := z_w 114 (by decide +kernel) (by decide +kernel)
theorem q_147 : Cond.fieldLink RX8 11 RX8 "nearCodes" "[[I" ∈ zW := z_w 147 (by decide +kernel) (by decide +kernel)
theorem q_149 : Cond.fieldLink RX8 16 RX8 "farCodes" "[[I" ∈ zW := z_w 149 (by decide +kernel) (by decide +kernel)
theorem q_410 : Cond.methodLink RX10 101 yX4_readText ∈ zW := z_w 410 (by decide +kernel) (by decide +kernel)
theorem q_488 : Cond.methodLink RX10 105 yX8_add ∈ zW := z_w 488 (by decide +kernel) (by decide +kernel)
theorem q_489 : Cond.instanceMethod yX8_add ∈ zW := z_w 489 (by decide +kernel) (by decide +kernel)
theorem q_490 : Cond.selects RX8 yX8_add yX8_add ∈ zW := z_w 490 (by decide +kernel) (by decide +kernel)
theorem q_491 : Cond.code yX8_add cX8_add 2 (some .int) ∈ zW := z_w 491 (by decide +kernel) (by decide +kernel)
theorem q_492 : Cond.methodLink RX8 32 yJ7_copyOfRange_feecc ∈ zW := z_w 492 (by decide +kernel) (by decide +kernel)
theorem q_493 : Cond.static yJ7_copyOfRange_feecc ∈ zW := z_w 493 (by decide +kernel) (by decide +kernel)
theorem q_514 : Cond.methodLink RX10 109 yX4_clear ∈ zW := z_w 514 (by decide +kernel) (by decide +kernel)
/-! Texts.add, text() -/
theorem z_nn {x : Int32} (h : 0 ≤ x) : x = nI x.toNatClampNeg ∧ x.toNatClampNeg < 2 ^ 31 := by
  have h0 : ¬ x < 0 := Int32.not_lt.mpr h
  obtain ⟨j, hj, rfl⟩ := nI_of h0
  rw [nI_clamp hj]
  exact ⟨rfl, hj⟩
theorem z_nlt {x : Int32} {N : Nat} (h : 0 ≤ x) (hN : N < 2 ^ 31) (h2 : x < nI N) : x.toNatClampNeg < N := by
  obtain ⟨e, hj⟩ := z_nn h
  rw [e, nI_ltI hj hN] at h2
  exact h2
theorem z_nle {x : Int32} {N : Nat} (h : 0 ≤ x) (hN : N < 2 ^ 31) (h2 : x ≤ nI N) : x.toNatClampNeg ≤ N := by
  obtain ⟨e, hj⟩ := z_nn h
  rw [e, nI_leI hj hN] at h2
  exact h2
abbrev zagd (σ : zS) : Prop := 0 ≤ σ.1 202 ∧ σ.1 202 < 6 ∧ 0 < σ.1 104 ∧ σ.1 104 < 160 ∧ σ.1 104 ≤ σ.1 103 ∧ σ.1 103 ≤ 160 ∧ (σ.1 305).toNatClampNeg ≠ 43 + (σ.1 202).toNatClampNeg ∧ (σ.1 306).toNatClampNeg ≠ 43 + (σ.1 202).toNatClampNeg ∧ (σ.1 305).toNatClampNeg ≠ 49 + (σ.1 202).toNatClampNeg ∧ (σ.1 306).toNatClampNeg ≠ 49 + (σ.1 202).toNatClampNeg
def zad1 (σ : zS) : zS := zst σ (43 + (σ.1 202).toNatClampNeg) (σ.1 104).toNatClampNeg (va_cpy (σ.2 16) (fun _ => 0) 0 0 (σ.1 104).toNatClampNeg)
def zad2 (σ : zS) : zS := zst (zad1 σ) (49 + (σ.1 202).toNatClampNeg) ((σ.1 103).toNatClampNeg - (σ.1 104).toNatClampNeg) (va_cpy (σ.2 16) (fun _ => 0) (σ.1 104).toNatClampNeg 0 ((σ.1 103).toNatClampNeg - (σ.1 104).toNatClampNeg))
def f_Tx_add (σ : zS) : Option (Int32 × zS) := if σ.1 202 < 6 then (if zagd σ then some (σ.1 202 + 1 - 1, zsg (zad2 σ) 202 (σ.1 202 + 1)) else none) else some (-4, σ)
set_option maxRecDepth 8000 in
theorem m_Tx_add {l : Launch} {d : zD} {h : Nat → Nat} {out : Int32 × zS} {σ : zS} {ad av : Nat → Nat} (E : zXe d ad av) (hf : f_Tx_add σ = some out) : zMa l yX8_add cX8_add 2 (some .int) 3 120 2 320 d [.ref (h 2), .ref (h 1)] (XW d h σ) (fun r w => ∃ h', r = some (.int out.1) ∧ w = XW d h' out.2 ∧ ∀ i, i < 43 → h' i = h i) := by
  refine zMa_of [some (.ref (h 2)), some (.ref (h 1))] (by decide +kernel) rfl (Nat.le_of_ble_eq_true rfl) (fun F C G I T => ?_)
  unfold f_Tx_add at hf
  refine zr_aload_n 0 1 C (by decide +kernel) rfl rfl ?_
  refine xg_2_2 (idx := 19) 4 C (by decide +kernel) rfl q_151 ?_
  refine zr_bipush (v := 6) 6 6 C (by decide +kernel) rfl rfl ?_
  refine zr_icmp_lt (off := 6) 12 9 C (by decide +kernel) (by decide) rfl hf (fun hf => ?_) (fun hf => ?_)
  · split at hf
    case isFalse => cases hf
    rename_i hg
    obtain rfl := Option.some.inj hf
    obtain ⟨g1, g0, g2, g3, g4, g5, g6, g7, g8, g9⟩ := hg
    have g2' : 0 ≤ σ.1 104 := Int32.le_of_lt g2
    obtain ⟨eT, -⟩ := z_nn g1
    have hT : (σ.1 202).toNatClampNeg < 6 := z_nlt (N := 6) g1 (by decide) g0
    obtain ⟨eA, -⟩ := z_nn g2'
    have hA : (σ.1 104).toNatClampNeg < 160 := z_nlt (N := 160) g2' (by decide) g3
    have g4' : 0 ≤ σ.1 103 := Int32.le_trans g2' g4
    obtain ⟨eB, hB2⟩ := z_nn g4'
    have hB : (σ.1 103).toNatClampNeg ≤ 160 := z_nle (N := 160) g4' (by decide) g5
    have hAB : (σ.1 104).toNatClampNeg ≤ (σ.1 103).toNatClampNeg := by
      rw [eA, eB, nI_leI (by omega) (by omega)] at g4
      exact g4
    have hA0 : 0 < (σ.1 104).toNatClampNeg := by
      rw [eA, ← nI_0, nI_ltI (by decide) (by omega)] at g2
      exact g2
    have hin : vp_in (σ.1 202) 6 := by rw [eT]; exact vp_in_nI hT (by decide)
    refine zr_aload_n 0 13 C (by decide +kernel) rfl rfl ?_
    refine xg_2_0 (idx := 11) 16 C (by decide +kernel) rfl q_147 ?_
    refine zr_aload_n 0 17 C (by decide +kernel) rfl rfl ?_
    refine xg_2_2 (idx := 19) 20 C (by decide +kernel) rfl q_151 ?_
    refine zr_aload_n 1 21 C (by decide +kernel) rfl rfl ?_
    refine xg_1_1 (idx := 23) 24 C (by decide +kernel) rfl q_107 ?_
    refine zr_iconst (v := 0) 0 25 C (by decide +kernel) rfl rfl ?_
    refine zr_aload_n 1 26 C (by decide +kernel) rfl rfl ?_
    refine xg_1_4 (idx := 29) 29 C (by decide +kernel) rfl q_112 ?_
    refine zr_eq (ws' := [] ++ (XW d h σ ++ [])) (by simp) ?_
    refine zr_callSa (idx := 32) (kc := 2) (ns := 320) (rest := [.int (σ.1 202), .ref (h 41)]) y_cor q_493 (As := [.ref (h 16), .int (nI 0), .int (nI (σ.1 104).toNatClampNeg)]) (m_cor (f := σ.2 16) 16 rfl (Nat.zero_le _) (by omega) (Or.inr hA)) rfl (by rw [← eA, nI_0]; rfl) 32 C G (by omega) (by omega) (by decide +kernel) rfl q_492 (zb2 rfl rfl) (Nat.le_of_ble_eq_true rfl) (fun r w hw => ?_)
    obtain ⟨q, rfl, rfl⟩ := hw
    rw [Nat.sub_zero]
    refine zr_eq (ws' := XW d h σ ++ [(q, .inl (d.2.1, (σ.1 104).toNatClampNeg, .inl (va_cpy (σ.2 16) (fun _ => 0) 0 0 (σ.1 104).toNatClampNeg)))]) (by simp) ?_
    refine zr_aast (f := fun i => some (h (43 + i))) (g := va_cpy (σ.2 16) (fun _ => 0) 0 0 (σ.1 104).toNatClampNeg) (M := (σ.1 104).toNatClampNeg) (ws' := XWg d h σ (h (σ.1 305).toNatClampNeg) (h (σ.1 306).toNatClampNeg) (fun i => some (h (37 + i))) (va_up (fun i => some (h (43 + i))) (σ.1 202).toNatClampNeg (some q)) (fun i => some (h (49 + i))) ++ [(q, .inl (d.2.1, (σ.1 104).toNatClampNeg, .inl (va_cpy (σ.2 16) (fun _ => 0) 0 0 (σ.1 104).toNatClampNeg)))]) 41 57 rfl rfl hin rfl 33 C E (by decide +kernel) rfl ?_
    refine x_newn hT (by omega) g6 g7 ?_
    have ez : zst σ (43 + (σ.1 202).toNatClampNeg) (σ.1 104).toNatClampNeg (va_cpy (σ.2 16) (fun _ => 0) 0 0 (σ.1 104).toNatClampNeg) = zad1 σ := rfl
    rw [ez]
    have e0 : va_up h (43 + (σ.1 202).toNatClampNeg) q 2 = h 2 := if_neg (by omega)
    have e1 : va_up h (43 + (σ.1 202).toNatClampNeg) q 1 = h 1 := if_neg (by omega)
    have n1 : ∀ j, j < 1000 → (zad1 σ).1 j = σ.1 j := fun j hj => pk_un (by omega)
    have n2 : (zad1 σ).2 16 = σ.2 16 := if_neg (by omega)
    have hk : ∀ i, i < 43 → va_up h (43 + (σ.1 202).toNatClampNeg) q i = h i := fun i hi => if_neg (by omega)
    generalize va_up h (43 + (σ.1 202).toNatClampNeg) q = h1 at e0 e1 hk ⊢
    rw [← e0, ← e1]
    refine zr_aload_n 0 34 C (by decide +kernel) rfl rfl ?_
    refine xg_2_1 (idx := 16) 37 C (by decide +kernel) rfl q_149 ?_
    refine zr_aload_n 0 38 C (by decide +kernel) rfl rfl ?_
    refine xg_2_2 (idx := 19) 41 C (by decide +kernel) rfl q_151 ?_
    refine zr_aload_n 1 42 C (by decide +kernel) rfl rfl ?_
    refine xg_1_1 (idx := 23) 45 C (by decide +kernel) rfl q_107 ?_
    refine zr_aload_n 1 46 C (by decide +kernel) rfl rfl ?_
    refine xg_1_4 (idx := 29) 49 C (by decide +kernel) rfl q_112 ?_
    refine zr_aload_n 1 50 C (by decide +kernel) rfl rfl ?_
    refine xg_1_3 (idx := 38) 53 C (by decide +kernel) rfl q_110 ?_
    refine zr_eq (ws' := [] ++ (XW d h1 (zad1 σ) ++ [])) (by simp) ?_
    refine zr_callSa (idx := 32) (kc := 2) (ns := 320) (rest := [.int ((zad1 σ).1 202), .ref (h1 42)]) y_cor q_493 (As := [.ref (h1 16), .int (nI (σ.1 104).toNatClampNeg), .int (nI (σ.1 103).toNatClampNeg)]) (m_cor (f := (zad1 σ).2 16) 16 rfl hAB hB (Or.inl hA0)) rfl (by rw [← eA, ← eB, ← n1 104 (by omega), ← n1 103 (by omega)]; rfl) 56 C G (by omega) (by omega) (by decide +kernel) rfl q_492 (zb2 rfl rfl) (Nat.le_of_ble_eq_true rfl) (fun r w hw => ?_)
    obtain ⟨q2, rfl, rfl⟩ := hw
    refine zr_eq (ws' := XW d h1 (zad1 σ) ++ [(q2, .inl (d.2.1, (σ.1 103).toNatClampNeg - (σ.1 104).toNatClampNeg, .inl (va_cpy ((zad1 σ).2 16) (fun _ => 0) (σ.1 104).toNatClampNeg 0 ((σ.1 103).toNatClampNeg - (σ.1 104).toNatClampNeg))))]) (by simp) ?_
    have eT1 : ((zad1 σ).1 202).toNatClampNeg = (σ.1 202).toNatClampNeg := by rw [n1 202 (by omega)]
    refine zr_aast (f := fun i => some (h1 (49 + i))) (g := va_cpy ((zad1 σ).2 16) (fun _ => 0) (σ.1 104).toNatClampNeg 0 ((σ.1 103).toNatClampNeg - (σ.1 104).toNatClampNeg)) (M := (σ.1 103).toNatClampNeg - (σ.1 104).toNatClampNeg) (ws' := XWg d h1 (zad1 σ) (h1 ((zad1 σ).1 305).toNatClampNeg) (h1 ((zad1 σ).1 306).toNatClampNeg) (fun i => some (h1 (37 + i))) (fun i => some (h1 (43 + i))) (va_up (fun i => some (h1 (49 + i))) ((zad1 σ).1 202).toNatClampNeg (some q2)) ++ [(q2, .inl (d.2.1, (σ.1 103).toNatClampNeg - (σ.1 104).toNatClampNeg, .inl (va_cpy ((zad1 σ).2 16) (fun _ => 0) (σ.1 104).toNatClampNeg 0 ((σ.1 103).toNatClampNeg - (σ.1 104).toNatClampNeg))))]) 42 57 rfl rfl (by rw [n1 202 (by omega)]; exact hin) rfl 57 C E (by decide +kernel) rfl ?_
    rw [eT1]
    refine x_newf hT (by omega) (by rw [n1 305 (by omega)]; exact g8) (by rw [n1 306 (by omega)]; exact g9) ?_
    rw [n2]
    have ez2 : zst (zad1 σ) (49 + (σ.1 202).toNatClampNeg) ((σ.1 103).toNatClampNeg - (σ.1 104).toNatClampNeg) (va_cpy (σ.2 16) (fun _ => 0) (σ.1 104).toNatClampNeg 0 ((σ.1 103).toNatClampNeg - (σ.1 104).toNatClampNeg)) = zad2 σ := rfl
    rw [ez2]
    have m2 : (zad2 σ).1 202 = σ.1 202 := (pk_un (by omega)).trans (n1 202 (by omega))
    have e2 : va_up h1 (49 + (σ.1 202).toNatClampNeg) q2 2 = h1 2 := if_neg (by omega)
    have hk2 : ∀ i, i < 43 → va_up h1 (49 + (σ.1 202).toNatClampNeg) q2 i = h i := fun i hi => (if_neg (by omega)).trans (hk i hi)
    generalize va_up h1 (49 + (σ.1 202).toNatClampNeg) q2 = h2 at e2 hk2 ⊢
    rw [← e2]
    refine zr_aload_n 0 58 C (by decide +kernel) rfl rfl ?_
    refine zr_dup 59 C (by decide +kernel) rfl rfl ?_
    refine xg_2_2 (idx := 19) 62 C (by decide +kernel) rfl q_151 ?_
    refine zr_iconst (v := 1) 1 63 C (by decide +kernel) rfl rfl ?_
    refine zr_iadd 64 C (by decide +kernel) rfl ?_
    refine xp_2_2 (idx := 19) (f := fun σ' => some σ') (out := zsg (zad2 σ) 202 ((zad2 σ).1 202 + 1)) 67 C (by decide +kernel) rfl q_151 rfl (fun σ' hs => ?_)
    obtain rfl := Option.some.inj hs
    refine zr_aload_n 0 68 C (by decide +kernel) rfl rfl ?_
    refine xg_2_2 (idx := 19) 71 C (by decide +kernel) rfl q_151 ?_
    refine zr_iconst (v := 1) 1 72 C (by decide +kernel) rfl rfl ?_
    refine zr_isub 73 C (by decide +kernel) rfl ?_
    have e3 : (zsg (zad2 σ) 202 ((zad2 σ).1 202 + 1)).1 202 = σ.1 202 + 1 := by
      show upd (zad2 σ).1 202 ((zad2 σ).1 202 + 1) 202 = _
      rw [pk_us, m2]
    rw [e3]
    exact zr_ireta C (by decide +kernel) T (by omega) (by omega) ⟨h2, rfl, by rw [m2], hk2⟩
  · obtain rfl := Option.some.inj hf
    refine zr_bipush (v := -4) (-4) 11 C (by decide +kernel) rfl rfl ?_
    exact zr_ireta C (by decide +kernel) T (by omega) (by omega) ⟨h, rfl, rfl, fun _ _ => rfl⟩
theorem y_Tx_add : zY yX8_add cX8_add 2 (some .int) 1 := ⟨q_491, q_74, by decide +kernel, by decide +kernel, by decide +kernel⟩
def f_X_text (σ : zS) : Option (Int32 × zS) :=
  if σ.1 202 < 6 then
    zbd (f_Rd_readText σ) fun r σ1 =>
    if r = 0 then
      zbd (f_Rd_clear σ1) fun _ σ2 => some (-100 - σ1.1 105, σ2)
    else
      zbd (f_Tx_add σ1) fun r2 σ2 =>
      zbd (f_Rd_clear σ2) fun _ σ3 => some (r2, σ3)
  else some (-4, σ)
set_option maxRecDepth 8000 in
theorem m_X_text {l : Launch} {d : zD} {h : Nat → Nat} {out : Int32 × zS} {σ : zS} {ad av : Nat → Nat} (E : zXe d ad av) (hf : f_X_text σ = some out) : zMa l yX10_text cX10_text 3 (some .int) 122 3554 2 320 d [.ref (h 0)] (XW d h σ) (fun r w => ∃ h', r = some (.int out.1) ∧ w = XW d h' out.2 ∧ ∀ i, i < 43 → h' i = h i) := by
  refine zMa_of [some (.ref (h 0)), none, none] (by decide +kernel) rfl (Nat.le_of_ble_eq_true rfl) (fun F C G I T => ?_)
  unfold f_X_text at hf
  have fin : ∀ (h' : Nat → Nat) (σ1 : zS) (r : Int32) (k n : Nat), k ≤ 2 → n ≤ 320 → (∀ i, i < 43 → h' i = h i) → (zbd (f_Rd_clear σ1) fun _ σ2 => some (r, σ2)) = some out → V l d F k n (XW d h' σ1) [some (.ref (h' 0)), none, none] 51 [.int r] := by
    intro h' σ1 r k n hk hn hh hf
    obtain ⟨⟨x, σ2⟩, hc, hf⟩ := zbd_some hf
    obtain rfl := Option.some.inj hf
    refine zr_istore_n 2 [some (.ref (h' 0)), none, some (.int r)] 52 C (by decide +kernel) rfl (by decide) rfl rfl ?_
    refine zr_aload_n 0 53 C (by decide +kernel) rfl rfl ?_
    refine xg_0_0 (idx := 12) 56 C (by decide +kernel) rfl q_558 ?_
    refine zr_callV0 (idx := 109) (kc := 2) (ns := 320) y_Rd_clear ⟨q_515, q_516⟩ 1 rfl rfl (As := []) (m_Rd_clear E hc) rfl rfl 59 C G hk hn (by decide +kernel) rfl q_514 (zb2 rfl rfl) (Nat.le_of_ble_eq_true rfl) ?_
    refine zr_iload_n 2 60 C (by decide +kernel) rfl rfl ?_
    exact zr_ireta C (by decide +kernel) T hk hn ⟨h', rfl, rfl, hh⟩
  refine zr_aload_n 0 1 C (by decide +kernel) rfl rfl ?_
  refine xg_0_1 (idx := 19) 4 C (by decide +kernel) rfl q_559 ?_
  refine xg_2_2 (idx := 166) 7 C (by decide +kernel) rfl q_152 ?_
  refine zr_bipush (v := 6) 6 9 C (by decide +kernel) rfl rfl ?_
  refine zr_icmp_lt (off := 6) 15 12 C (by decide +kernel) (by decide) rfl hf (fun hf => ?_) (fun hf => ?_)
  · refine zr_aload_n 0 16 C (by decide +kernel) rfl rfl ?_
    refine xg_0_0 (idx := 12) 19 C (by decide +kernel) rfl q_558 ?_
    obtain ⟨⟨r, σ1⟩, hc, hf⟩ := zbd_some hf
    refine zr_callV0 (idx := 101) (kc := 2) (ns := 320) y_Rd_readText ⟨q_411, q_412⟩ 1 rfl rfl (As := []) (m_Rd_readText E hc) rfl rfl 22 C G (Nat.zero_le _) (Nat.zero_le _) (by decide +kernel) rfl q_410 (zb2 rfl rfl) (Nat.le_of_ble_eq_true rfl) ?_
    refine zr_istore_n 1 [some (.ref (h 0)), some (.int r), none] 23 C (by decide +kernel) rfl (by decide) rfl rfl ?_
    refine zr_iload_n 1 24 C (by decide +kernel) rfl rfl ?_
    refine zr_if_eq (off := 17) 41 27 C (by decide +kernel) (by decide) rfl hf (fun hf => ?_) (fun hf => ?_)
    · refine zr_bipush (v := -100) (-100) 43 C (by decide +kernel) rfl rfl ?_
      refine zr_aload_n 0 44 C (by decide +kernel) rfl rfl ?_
      refine xg_0_0 (idx := 12) 47 C (by decide +kernel) rfl q_558 ?_
      refine xg_1_5 (idx := 169) 50 C (by decide +kernel) rfl q_114 ?_
      refine zr_isub 51 C (by decide +kernel) rfl ?_
      refine zr_less (lv' := [some (.ref (h 0)), none, none]) (zA (zN (zN zE))) ?_
      exact fin h σ1 _ 0 0 (by omega) (by omega) (fun _ _ => rfl) hf
    · refine zr_aload_n 0 28 C (by decide +kernel) rfl rfl ?_
      refine xg_0_1 (idx := 19) 31 C (by decide +kernel) rfl q_559 ?_
      refine zr_aload_n 0 32 C (by decide +kernel) rfl rfl ?_
      refine xg_0_0 (idx := 12) 35 C (by decide +kernel) rfl q_558 ?_
      obtain ⟨⟨r2, σ2⟩, hc2, hf⟩ := zbd_some hf
      refine zr_eq (ws' := [] ++ (XW d h σ1 ++ [])) (by simp) ?_
      refine zr_callVa (idx := 105) (kc := 2) (ns := 320) (rest := []) y_Tx_add ⟨q_489, q_490⟩ 2 rfl rfl (As := [.ref (h 1)]) (m_Tx_add E hc2) rfl rfl 38 C G (by omega) (by omega) (by decide +kernel) rfl q_488 (zb2 rfl rfl) (Nat.le_of_ble_eq_true rfl) (fun rr w hw => ?_)
      obtain ⟨h', rfl, rfl, hh⟩ := hw
      refine zr_eq (ws' := XW d h' σ2) (by simp) ?_
      refine zr_goto (off := 13) 51 C (by decide +kernel) (by decide) ?_
      rw [← hh 0 (by omega)]
      refine zr_less (lv' := [some (.ref (h' 0)), none, none]) (zA (zN (zN zE))) ?_
      exact fin h' σ2 _ _ _ (by omega) (by omega) hh hf
  · obtain rfl := Option.some.inj hf
    refine zr_bipush (v := -4) (-4) 14 C (by decide +kernel) rfl rfl ?_
    exact zr_ireta C (by decide +kernel) T (by omega) (by omega) ⟨h, rfl, rfl, fun _ _ => rfl⟩
