/-! ===== sweeps over row 13 ===== -/
theorem row63_13 {σ : zS} {we no : Nat → Nat} (hL : LC σ we no) {y : Nat} (hy : y < 40) : ∀ (r f : Nat) (d : Nat → Nat) (g : Nat → Int32) (b : Bool), r ≤ 39 → r < f → AD d g → ∃ (d' : Nat → Nat) (g' : Nat → Int32) (b' : Bool), f_La_sweepRow_13_63 f (nI (40 * y)) (bI (b = true)) (nI (40 * y + r) + (-1)) (wv σ 13 g) = some (bI ((b || b') = true), wv σ 13 g') ∧ AD d' g' ∧ swp we no (fun u v => u = v + 1 ∧ 40 * y ≤ v ∧ v < 40 * y + r) d d' b' := by
  intro r
  induction r with
  | zero =>
    intro f d g b hr hf hA
    obtain ⟨f, rfl⟩ : ∃ m, f = m + 1 := ⟨f - 1, by omega⟩
    refine ⟨d, g, false, ?_, hA, swp_w (fun u v h => absurd h (by omega)) swp_rfl⟩
    show f_La_sweepRow_13_63b _ _ _ _ _ = _
    unfold f_La_sweepRow_13_63b
    rw [Nat.add_zero, if_pos (m1_lt (by omega)), zbo_b, or_0]
  | succ r ih =>
    intro f d g b hr hf hA
    obtain ⟨f, rfl⟩ : ∃ m, f = m + 1 := ⟨f - 1, by omega⟩
    have hL1 := hL (40 * y + r + 1) (by omega)
    have he : edg we no (40 * y + r + 1) (40 * y + r) (we (40 * y + r + 1)) := ⟨by omega, by omega, Or.inr (Or.inl ⟨rfl, by omega, rfl⟩)⟩
    have e0 : f_La_sweepRow_13_63 (f + 1) (nI (40 * y)) (bI (b = true)) (nI (40 * y + (r + 1)) + (-1)) (wv σ 13 g) = f_La_sweepRow_13_63b (fun x2 x3 x4 σ => f_La_sweepRow_13_63 f x2 x3 x4 σ) (nI (40 * y)) (bI (b = true)) (nI (40 * y + (r + 1)) + (-1)) (wv σ 13 g) := rfl
    rw [e0, nI_a1 (by omega), show 40 * y + (r + 1) - 1 = 40 * y + r by omega]
    unfold f_La_sweepRow_13_63b f_La_sweepRow_13_104
    rw [if_neg (nI_nlt (by omega) (by omega)), nI_1, zin_n (by omega) (by decide), zin_n (by omega) (by decide), zlt_s, zin_n (by omega) (by decide), nI_clamp (by omega), nI_clamp (by omega), wv_q, wv_ne σ g (show 21 ≠ 13 by decide), hL1.1, zin_n (by omega) (by decide), zlt_s, zsa_wv _ _ _ _ (by omega)]
    by_cases h : d (40 * y + r) ≤ d (40 * y + r + 1) + we (40 * y + r + 1)
    · rw [if_pos ((rl_c hA (by omega) (by omega) hL1.2.2.2.1).mpr h)]
      obtain ⟨d', g', b', k1, k2, k3⟩ := ih f d g b (by omega) (by omega) hA
      refine ⟨d', g', b', k1, k2, ?_⟩
      have q := swp_tr (rlx_no he h) k3
      rw [Bool.false_or] at q
      exact swp_w (fun u v hc => by omega) q
    · rw [if_neg (fun q => h ((rl_c hA (by omega) (by omega) hL1.2.2.2.1).mp q))]
      obtain ⟨d', g', b', k1, k2, k3⟩ := ih f _ _ true (by omega) (by omega) (AD_up (u := 40 * y + r + 1) (v := 40 * y + r) (w := we (40 * y + r + 1)) hA (by omega) (by omega) (by omega))
      refine ⟨d', g', true || b', ?_, k2, ?_⟩
      · rw [or_1]
        exact k1
      · exact swp_w (fun u v hc => by omega) (swp_tr (rlx_yes he (by omega)) k3)
theorem row7_13 {σ : zS} {we no : Nat → Nat} (hL : LC σ we no) {y : Nat} (hy : y < 40) : ∀ (r p f : Nat) (d : Nat → Nat) (g : Nat → Int32) (b : Bool), p + r = 40 * y + 40 → 40 * y + 1 ≤ p → r < f → AD d g → ∃ (d' : Nat → Nat) (g' : Nat → Int32) (b' : Bool), f_La_sweepRow_13_7 f (nI (40 * y)) (bI (b = true)) (nI p) (wv σ 13 g) = some (bI ((b || b') = true), wv σ 13 g') ∧ AD d' g' ∧ swp we no (fun u v => (v = u + 1 ∧ p ≤ v ∧ v < 40 * y + 40) ∨ (u = v + 1 ∧ 40 * y ≤ v ∧ v < 40 * y + 39)) d d' b' := by
  intro r
  induction r with
  | zero =>
    intro p f d g b hp hp1 hf hA
    obtain ⟨f, rfl⟩ : ∃ m, f = m + 1 := ⟨f - 1, by omega⟩
    obtain ⟨d', g', b', k1, k2, k3⟩ := row63_13 hL hy 39 zfu d g b (by omega) (by decide) hA
    refine ⟨d', g', b', ?_, k2, swp_w (fun u v h => by omega) k3⟩
    show f_La_sweepRow_13_7b _ _ _ _ _ = _
    unfold f_La_sweepRow_13_7b
    rw [p40, if_pos (nI_le (by omega) (by omega)), zlt_s, ← k1, show nI (40 * y + 40) - 2 = nI (40 * y + 40 - 2) from pk_sub (b := 2) (by omega), nI_a1 (by omega), show 40 * y + 40 - 2 = 40 * y + 39 - 1 by omega]
  | succ r ih =>
    intro p f d g b hp hp1 hf hA
    obtain ⟨f, rfl⟩ : ∃ m, f = m + 1 := ⟨f - 1, by omega⟩
    have hL1 := hL p (by omega)
    have he : edg we no (p - 1) p (we p) := ⟨by omega, by omega, Or.inl ⟨by omega, by omega, rfl⟩⟩
    have e0 : f_La_sweepRow_13_7 (f + 1) (nI (40 * y)) (bI (b = true)) (nI p) (wv σ 13 g) = f_La_sweepRow_13_7b (fun x2 x3 x4 σ => f_La_sweepRow_13_7 f x2 x3 x4 σ) (nI (40 * y)) (bI (b = true)) (nI p) (wv σ 13 g) := rfl
    rw [e0]
    unfold f_La_sweepRow_13_7b f_La_sweepRow_13_49
    rw [p40, if_neg (nI_ge (by omega) (by omega)), nI_s1 (by omega), zin_n (by omega) (by decide), zin_n (by omega) (by decide), zlt_s, zin_n (by omega) (by decide), nI_clamp (by omega), nI_clamp (by omega), wv_q, wv_ne σ g (show 21 ≠ 13 by decide), hL1.1, zin_n (by omega) (by decide), zlt_s, zsa_wv _ _ _ _ (by omega), nI_1]
    by_cases h : d p ≤ d (p - 1) + we p
    · rw [if_pos ((rl_c hA (by omega) (by omega) hL1.2.2.2.1).mpr h)]
      obtain ⟨d', g', b', k1, k2, k3⟩ := ih (p + 1) f d g b (by omega) (by omega) (by omega) hA
      refine ⟨d', g', b', k1, k2, ?_⟩
      have q := swp_tr (rlx_no he h) k3
      rw [Bool.false_or] at q
      exact swp_w (fun u v hc => by omega) q
    · rw [if_neg (fun q => h ((rl_c hA (by omega) (by omega) hL1.2.2.2.1).mp q))]
      obtain ⟨d', g', b', k1, k2, k3⟩ := ih (p + 1) f _ _ true (by omega) (by omega) (by omega) (AD_up (u := p - 1) (v := p) (w := we p) hA (by omega) (by omega) (by omega))
      refine ⟨d', g', true || b', ?_, k2, ?_⟩
      · rw [or_1]
        exact k1
      · exact swp_w (fun u v hc => by omega) (swp_tr (rlx_yes he (by omega)) k3)
theorem row_13 {σ : zS} {we no : Nat → Nat} (hL : LC σ we no) {y : Nat} (hy : y < 40) {d : Nat → Nat} {g : Nat → Int32} (hA : AD d g) : ∃ (d' : Nat → Nat) (g' : Nat → Int32) (b' : Bool), f_La_sweepRow_13 (nI (40 * y)) (wv σ 13 g) = some (bI (b' = true), wv σ 13 g') ∧ AD d' g' ∧ swp we no (hor y) d d' b' := by
  obtain ⟨d', g', b', k1, k2, k3⟩ := row7_13 hL hy 39 (40 * y + 1) zfu d g false (by omega) (by omega) (by decide) hA
  refine ⟨d', g', b', ?_, k2, swp_w (fun u v h => h) k3⟩
  rw [Bool.false_or, ← nI_1] at k1
  exact k1
theorem so20_13 {σ : zS} {we no : Nat → Nat} (hL : LC σ we no) {y : Nat} (hy : y < 40) (hy1 : 1 ≤ y) (k10 : Int32 → Int32 → zS → Option (Int32 × zS)) : ∀ (r p f : Nat) (d : Nat → Nat) (g : Nat → Int32) (b : Bool), p + r = 40 * y + 40 → 40 * y ≤ p → r < f → AD d g → ∃ (d' : Nat → Nat) (g' : Nat → Int32) (b' : Bool), f_La_sweepSouth_13_20 k10 f (bI (b = true)) (nI (40 * y)) (nI p) (wv σ 13 g) = k10 (bI ((b || b') = true)) (nI (40 * y + 40)) (wv σ 13 g') ∧ AD d' g' ∧ swp we no (fun u v => (v = u + 40 ∧ p ≤ v ∧ v < 40 * y + 40) ∨ hor y u v) d d' b' := by
  intro r
  induction r with
  | zero =>
    intro p f d g b hp hp1 hf hA
    obtain ⟨f, rfl⟩ : ∃ m, f = m + 1 := ⟨f - 1, by omega⟩
    obtain ⟨d', g', b', k1, k2, k3⟩ := row_13 hL hy hA
    refine ⟨d', g', b', ?_, k2, swp_w (fun u v h => by rcases h with h | h; exact absurd h (by omega); exact h) k3⟩
    show f_La_sweepSouth_13_20b _ _ _ _ _ _ = _
    unfold f_La_sweepSouth_13_20b f_La_sweepSouth_13_80
    rw [p40, if_pos (nI_le (by omega) (by omega)), k1, zbd_s]
    cases b' <;> cases b <;> rfl
  | succ r ih =>
    intro p f d g b hp hp1 hf hA
    obtain ⟨f, rfl⟩ : ∃ m, f = m + 1 := ⟨f - 1, by omega⟩
    have hL1 := hL p (by omega)
    have he : edg we no (p - 40) p (no p) := ⟨by omega, by omega, Or.inr (Or.inr (Or.inl ⟨by omega, rfl⟩))⟩
    have e0 : f_La_sweepSouth_13_20 k10 (f + 1) (bI (b = true)) (nI (40 * y)) (nI p) (wv σ 13 g) = f_La_sweepSouth_13_20b k10 (fun x2 x3 x4 σ => f_La_sweepSouth_13_20 k10 f x2 x3 x4 σ) (bI (b = true)) (nI (40 * y)) (nI p) (wv σ 13 g) := rfl
    rw [e0]
    unfold f_La_sweepSouth_13_20b f_La_sweepSouth_13_63
    rw [p40, if_neg (nI_ge (by omega) (by omega)), s40 (by omega), zin_n (by omega) (by decide), zin_n (by omega) (by decide), zlt_s, zin_n (by omega) (by decide), nI_clamp (by omega), nI_clamp (by omega), wv_q, wv_ne σ g (show 22 ≠ 13 by decide), hL1.2.1, zin_n (by omega) (by decide), zlt_s, zsa_wv _ _ _ _ (by omega), nI_1]
    by_cases h : d p ≤ d (p - 40) + no p
    · rw [if_pos ((rl_c hA (by omega) (by omega) hL1.2.2.2.2.2).mpr h)]
      obtain ⟨d', g', b', k1, k2, k3⟩ := ih (p + 1) f d g b (by omega) (by omega) (by omega) hA
      refine ⟨d', g', b', k1, k2, ?_⟩
      have q := swp_tr (rlx_no he h) k3
      rw [Bool.false_or] at q
      exact swp_w (fun u v hc => by unfold hor at hc ⊢; omega) q
    · rw [if_neg (fun q => h ((rl_c hA (by omega) (by omega) hL1.2.2.2.2.2).mp q))]
      obtain ⟨d', g', b', k1, k2, k3⟩ := ih (p + 1) f _ _ true (by omega) (by omega) (by omega) (AD_up (u := p - 40) (v := p) (w := no p) hA (by omega) (by omega) (by omega))
      refine ⟨d', g', true || b', ?_, k2, ?_⟩
      · rw [or_1]
        exact k1
      · exact swp_w (fun u v hc => by unfold hor at hc ⊢; omega) (swp_tr (rlx_yes he (by omega)) k3)
theorem so10_13 {σ : zS} {we no : Nat → Nat} (hL : LC σ we no) : ∀ (r y f : Nat) (d : Nat → Nat) (g : Nat → Int32) (b : Bool), y + r = 40 → 1 ≤ y → r < f → AD d g → ∃ (d' : Nat → Nat) (g' : Nat → Int32) (b' : Bool), f_La_sweepSouth_13_10 f (bI (b = true)) (nI (40 * y)) (wv σ 13 g) = some (bI ((b || b') = true), wv σ 13 g') ∧ AD d' g' ∧ swp we no (fun u v => 40 * y ≤ v ∧ v < 1600 ∧ (v = u + 40 ∨ (v = u + 1 ∧ ¬ v % 40 = 0) ∨ (u = v + 1 ∧ ¬ u % 40 = 0))) d d' b' := by
  intro r
  induction r with
  | zero =>
    intro y f d g b hy hy1 hf hA
    obtain ⟨f, rfl⟩ : ∃ m, f = m + 1 := ⟨f - 1, by omega⟩
    refine ⟨d, g, false, ?_, hA, swp_w (fun u v h => absurd h (by omega)) swp_rfl⟩
    show f_La_sweepSouth_13_10b _ _ _ _ = _
    unfold f_La_sweepSouth_13_10b
    rw [if_pos (show (1600 : Int32) ≤ nI (40 * y) from nI_le (show 1600 ≤ 40 * y by omega) (by omega)), zbo_b, or_0]
  | succ r ih =>
    intro y f d g b hy hy1 hf hA
    obtain ⟨f, rfl⟩ : ∃ m, f = m + 1 := ⟨f - 1, by omega⟩
    have e0 : f_La_sweepSouth_13_10 (f + 1) (bI (b = true)) (nI (40 * y)) (wv σ 13 g) = f_La_sweepSouth_13_10b (fun x2 x3 σ => f_La_sweepSouth_13_10 f x2 x3 σ) (bI (b = true)) (nI (40 * y)) (wv σ 13 g) := rfl
    rw [e0]
    unfold f_La_sweepSouth_13_10b
    rw [if_neg (show ¬ (1600 : Int32) ≤ nI (40 * y) from nI_ge (show 40 * y < 1600 by omega) (by decide))]
    obtain ⟨d1, g1, b1, k1, k2, k3⟩ := so20_13 hL (y := y) (by omega) hy1 (fun x2 x3 σ => f_La_sweepSouth_13_10 f x2 x3 σ) 40 (40 * y) zfu d g b (by omega) (by omega) (by decide) hA
    obtain ⟨d2, g2, b2, q1, q2, q3⟩ := ih (y + 1) f d1 g1 (b || b1) (by omega) (by omega) (by omega) k2
    refine ⟨d2, g2, b1 || b2, ?_, q2, swp_w (fun u v hc => by unfold hor; omega) (swp_tr k3 q3)⟩
    rw [k1, show 40 * y + 40 = 40 * (y + 1) by omega, q1, Bool.or_assoc]
theorem south_13 {σ : zS} {we no : Nat → Nat} (hL : LC σ we no) {d : Nat → Nat} {g : Nat → Int32} (hA : AD d g) : ∃ (d' : Nat → Nat) (g' : Nat → Int32) (b' : Bool), f_La_sweepSouth_13 (wv σ 13 g) = some (bI (b' = true), wv σ 13 g') ∧ AD d' g' ∧ swp we no (fun u v => v < 1600 ∧ (v = u + 40 ∨ (v = u + 1 ∧ ¬ v % 40 = 0) ∨ (u = v + 1 ∧ ¬ u % 40 = 0))) d d' b' := by
  obtain ⟨d1, g1, b1, k1, k2, k3⟩ := row_13 hL (y := 0) (by omega) hA
  obtain ⟨d2, g2, b2, q1, q2, q3⟩ := so10_13 hL 39 1 zfu d1 g1 b1 (by omega) (by omega) (by decide) k2
  refine ⟨d2, g2, b1 || b2, ?_, q2, swp_w (fun u v hc => by unfold hor; omega) (swp_tr k3 q3)⟩
  unfold f_La_sweepSouth_13
  have k1' : f_La_sweepRow_13 0 (wv σ 13 g) = some (bI (b1 = true), wv σ 13 g1) := k1
  rw [k1', zbd_s]
  exact q1
theorem no13_13 {σ : zS} {we no : Nat → Nat} (hL : LC σ we no) {y : Nat} (hy : y < 39) (k6 : Int32 → Int32 → zS → Option (Int32 × zS)) : ∀ (r p f : Nat) (d : Nat → Nat) (g : Nat → Int32) (b : Bool), p + r = 40 * y + 40 → 40 * y ≤ p → r < f → AD d g → ∃ (d' : Nat → Nat) (g' : Nat → Int32) (b' : Bool), f_La_sweepNorth_13_13 k6 f (bI (b = true)) (nI (40 * y)) (nI p) (wv σ 13 g) = k6 (bI ((b || b') = true)) (nI (40 * y) + (-40)) (wv σ 13 g') ∧ AD d' g' ∧ swp we no (fun u v => u = v + 40 ∧ p ≤ v ∧ v < 40 * y + 40) d d' b' := by
  intro r
  induction r with
  | zero =>
    intro p f d g b hp hp1 hf hA
    obtain ⟨f, rfl⟩ : ∃ m, f = m + 1 := ⟨f - 1, by omega⟩
    obtain ⟨d', g', b', k1, k2, k3⟩ := row_13 hL (y := y) (by omega) hA
    refine ⟨d', g', b', ?_, k2, swp_w (fun u v h => absurd h (by omega)) k3⟩
    show f_La_sweepNorth_13_13b _ _ _ _ _ _ = _
    unfold f_La_sweepNorth_13_13b f_La_sweepNorth_13_76
    rw [p40, if_pos (nI_le (by omega) (by omega)), k1, zbd_s]
    cases b' <;> cases b <;> rfl
  | succ r ih =>
    intro p f d g b hp hp1 hf hA
    obtain ⟨f, rfl⟩ : ∃ m, f = m + 1 := ⟨f - 1, by omega⟩
    have hL1 := hL (p + 40) (by omega)
    have he : edg we no (p + 40) p (no (p + 40)) := ⟨by omega, by omega, Or.inr (Or.inr (Or.inr ⟨rfl, rfl⟩))⟩
    have e0 : f_La_sweepNorth_13_13 k6 (f + 1) (bI (b = true)) (nI (40 * y)) (nI p) (wv σ 13 g) = f_La_sweepNorth_13_13b k6 (fun x2 x3 x4 σ => f_La_sweepNorth_13_13 k6 f x2 x3 x4 σ) (bI (b = true)) (nI (40 * y)) (nI p) (wv σ 13 g) := rfl
    rw [e0]
    unfold f_La_sweepNorth_13_13b f_La_sweepNorth_13_59
    rw [p40, if_neg (nI_ge (by omega) (by omega)), p40, zin_n (by omega) (by decide), zin_n (by omega) (by decide), zlt_s, zin_n (by omega) (by decide), nI_clamp (by omega), nI_clamp (by omega), wv_q, wv_ne σ g (show 22 ≠ 13 by decide), hL1.2.1, zin_n (by omega) (by decide), zlt_s, zsa_wv _ _ _ _ (by omega), nI_1]
    by_cases h : d p ≤ d (p + 40) + no (p + 40)
    · rw [if_pos ((rl_c hA (by omega) (by omega) hL1.2.2.2.2.2).mpr h)]
      obtain ⟨d', g', b', k1, k2, k3⟩ := ih (p + 1) f d g b (by omega) (by omega) (by omega) hA
      refine ⟨d', g', b', k1, k2, ?_⟩
      have q := swp_tr (rlx_no he h) k3
      rw [Bool.false_or] at q
      exact swp_w (fun u v hc => by omega) q
    · rw [if_neg (fun q => h ((rl_c hA (by omega) (by omega) hL1.2.2.2.2.2).mp q))]
      obtain ⟨d', g', b', k1, k2, k3⟩ := ih (p + 1) f _ _ true (by omega) (by omega) (by omega) (AD_up (u := p + 40) (v := p) (w := no (p + 40)) hA (by omega) (by omega) (by omega))
      refine ⟨d', g', true || b', ?_, k2, ?_⟩
      · rw [or_1]
        exact k1
      · exact swp_w (fun u v hc => by omega) (swp_tr (rlx_yes he (by omega)) k3)
theorem no6_13 {σ : zS} {we no : Nat → Nat} (hL : LC σ we no) : ∀ (r f : Nat) (d : Nat → Nat) (g : Nat → Int32) (b : Bool), r ≤ 39 → r < f → AD d g → ∃ (d' : Nat → Nat) (g' : Nat → Int32) (b' : Bool), f_La_sweepNorth_13_6 f (bI (b = true)) (nI (40 * r) + (-40)) (wv σ 13 g) = some (bI ((b || b') = true), wv σ 13 g') ∧ AD d' g' ∧ swp we no (fun u v => u = v + 40 ∧ v < 40 * r) d d' b' := by
  intro r
  induction r with
  | zero =>
    intro f d g b hr hf hA
    obtain ⟨f, rfl⟩ : ∃ m, f = m + 1 := ⟨f - 1, by omega⟩
    refine ⟨d, g, false, ?_, hA, swp_w (fun u v h => absurd h (by omega)) swp_rfl⟩
    show f_La_sweepNorth_13_6b _ _ _ _ = _
    unfold f_La_sweepNorth_13_6b
    rw [if_pos (show nI (40 * 0) + (-40) < 0 by decide), zbo_b, or_0]
  | succ r ih =>
    intro f d g b hr hf hA
    obtain ⟨f, rfl⟩ : ∃ m, f = m + 1 := ⟨f - 1, by omega⟩
    have e0 : f_La_sweepNorth_13_6 (f + 1) (bI (b = true)) (nI (40 * (r + 1)) + (-40)) (wv σ 13 g) = f_La_sweepNorth_13_6b (fun x2 x3 σ => f_La_sweepNorth_13_6 f x2 x3 σ) (bI (b = true)) (nI (40 * (r + 1)) + (-40)) (wv σ 13 g) := rfl
    rw [e0, m40]
    unfold f_La_sweepNorth_13_6b
    rw [if_neg (nI_pos (by omega))]
    obtain ⟨d1, g1, b1, k1, k2, k3⟩ := no13_13 hL (y := r) (by omega) (fun x2 x3 σ => f_La_sweepNorth_13_6 f x2 x3 σ) 40 (40 * r) zfu d g b (by omega) (by omega) (by decide) hA
    obtain ⟨d2, g2, b2, q1, q2, q3⟩ := ih f d1 g1 (b || b1) (by omega) (by omega) k2
    refine ⟨d2, g2, b1 || b2, ?_, q2, swp_w (fun u v hc => by omega) (swp_tr k3 q3)⟩
    rw [k1, q1, Bool.or_assoc]
theorem wk15_13 {σ : zS} {we no D : Nat → Nat} {s : Nat} (hL : LC σ we no) (hF : few we no s D) (hs : s < 1600) : ∀ (r i f : Nat) (d : Nat → Nat) (g : Nat → Int32) (b : Bool), i + r = 1600 → r < f → AD d g → (∀ v, v < 1600 → D v ≤ d v) → d s = 0 → uns D d ≤ r → (b = false → uns D d = 0) → ∃ g' : Nat → Int32, f_La_walkFrom_13_15 f (bI (b = true)) (nI i) (wv σ 13 g) = some (0, wv σ 13 g') ∧ ∀ v, v < 1600 → g' v = nI (D v) := by
  intro r
  induction r with
  | zero =>
    intro i f d g b hi hf hA hD hd hu hb
    obtain ⟨f, rfl⟩ : ∃ m, f = m + 1 := ⟨f - 1, by omega⟩
    refine ⟨g, ?_, fun v hv => by rw [(hA v hv).1, uns_0 (D := D) (d := d) (by omega) v hv]⟩
    show f_La_walkFrom_13_15b _ _ _ _ = _
    unfold f_La_walkFrom_13_15b
    rw [if_pos (show (1600 : Int32) ≤ nI i from nI_le (show 1600 ≤ i by omega) (by omega))]
  | succ r ih =>
    intro i f d g b hi hf hA hD hd hu hb
    obtain ⟨f, rfl⟩ : ∃ m, f = m + 1 := ⟨f - 1, by omega⟩
    have e0 : f_La_walkFrom_13_15 (f + 1) (bI (b = true)) (nI i) (wv σ 13 g) = f_La_walkFrom_13_15b (fun x3 x4 σ => f_La_walkFrom_13_15 f x3 x4 σ) (bI (b = true)) (nI i) (wv σ 13 g) := rfl
    rw [e0]
    unfold f_La_walkFrom_13_15b f_La_walkFrom_13_43
    rw [if_neg (show ¬ (1600 : Int32) ≤ nI i from nI_ge (show i < 1600 by omega) (by decide))]
    cases b with
    | false =>
      rw [if_pos (show bI (false = true) = 0 from rfl)]
      exact ⟨g, rfl, fun v hv => by rw [(hA v hv).1, uns_0 (D := D) (d := d) (hb rfl) v hv]⟩
    | true =>
      rw [if_neg (show ¬ bI (true = true) = 0 from one0)]
      obtain ⟨d1, g1, b1, k1, k2, k3⟩ := south_13 hL hA
      obtain ⟨d2, g2, b2, q1, q2, q3⟩ := no6_13 hL 39 zfu d1 g1 false (by omega) (by decide) k2
      have q1' : f_La_sweepNorth_13 (wv σ 13 g1) = some (bI (b2 = true), wv σ 13 g2) := by
        rw [Bool.false_or] at q1
        exact q1
      have hsw : swp we no (fun _ _ => True) d d2 (b1 || b2) := by
        have w := swp_tr k3 q3
        refine ⟨w.1, w.2.1, fun u v c he _ => w.2.2.1 u v c he ?_, w.2.2.2⟩
        obtain ⟨a1, a2, a3⟩ := he
        omega
      obtain ⟨c1, c2, c3, c4⟩ := swp_step hF (fun p hp => ⟨(hL p hp).2.2.1, (hL p hp).2.2.2.2.1⟩) hsw hD (fun v hv => (hA v hv).2) hd
      have hu2 : uns D d2 ≤ r := by
        by_cases w : uns D d = 0
        · rw [c2 w]; omega
        · have := c3 w; omega
      obtain ⟨g', x1, x2⟩ := ih (i + 1) f d2 g2 (b1 || b2) (by omega) (by omega) q2 c1 (by have := hsw.1 s; omega) hu2 (fun w => c2 (c4 w))
      refine ⟨g', ?_, x2⟩
      rw [k1, zbd_s]
      dsimp only
      rw [q1', zbd_s, nI_1, ← x1]
      cases b1 <;> cases b2 <;> rfl
/-- the fewest from a place on, in row 13 -/
theorem walk_13 {σ : zS} {we no D : Nat → Nat} {s : Nat} (hL : LC σ we no) (hF : few we no s D) (hs : s < 1600) : ∃ g' : Nat → Int32, f_La_walkFrom_13 (nI s) σ = some (0, wv σ 13 g') ∧ ∀ v, v < 1600 → g' v = nI (D v) := by
  unfold f_La_walkFrom_13
  rw [zlt_s, zin_n hs (by decide), zlt_s, show zsf σ 13 1600 1000000000 = wv σ 13 (zfl 1600 1000000000 (σ.2 13)) from rfl, zsa_wv _ _ _ _ (by omega)]
  refine wk15_13 hL hF hs 1600 0 zfu (fun i => if i = s then 0 else 1000000000) _ true (by omega) (by decide) ?_ ?_ (if_pos rfl) (ctq_le _ _) (fun h => absurd h (by decide))
  · intro i hi
    unfold upd zfl
    by_cases e : i = s
    · rw [if_pos e]
      show _ = nI (if i = s then 0 else 1000000000) ∧ (if i = s then 0 else 1000000000) ≤ _
      rw [if_pos e]
      exact ⟨rfl, by omega⟩
    · rw [if_neg e, if_pos hi]
      show _ = nI (if i = s then 0 else 1000000000) ∧ (if i = s then 0 else 1000000000) ≤ _
      rw [if_neg e]
      exact ⟨rfl, by omega⟩
  · intro v hv
    show D v ≤ if v = s then 0 else 1000000000
    by_cases e : v = s
    · rw [if_pos e, e, hF.2.1]; omega
    · rw [if_neg e]
      exact hF.2.2.1 v hv
