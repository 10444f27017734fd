/-! ===== sweeps: words ===== -/
def AD (d : Nat → Nat) (g : Nat → Int32) : Prop := ∀ i, i < 1600 → g i = nI (d i) ∧ d i ≤ 1000000000
def LC (σ : zS) (we no : Nat → Nat) : Prop := ∀ i, i < 1600 → σ.2 21 i = nI (we i) ∧ σ.2 22 i = nI (no i) ∧ 1 ≤ we i ∧ we i ≤ 595 ∧ 1 ≤ no i ∧ no i ≤ 595
theorem rl_c {d : Nat → Nat} {g : Nat → Int32} {u v w : Nat} (hA : AD d g) (hu : u < 1600) (hv : v < 1600) (hw : w ≤ 595) : (g v ≤ g u + nI w) = (d v ≤ d u + w) := by
  have h1 := hA u hu
  have h2 := hA v hv
  rw [h2.1, h1.1, nI_add]
  exact propext (nI_leI (by omega) (by omega))
theorem AD_up {d : Nat → Nat} {g : Nat → Int32} {u v w : Nat} (hA : AD d g) (hu : u < 1600) (hv : v < 1600) (h : d u + w < d v) : AD (uq d v (d u + w)) (upd g v (g u + nI w)) := by
  intro i hi
  have h1 := hA u hu
  have h2 := hA v hv
  unfold uq upd
  by_cases e : i = v
  · rw [if_pos e, if_pos e, h1.1, nI_add]
    exact ⟨rfl, by omega⟩
  · rw [if_neg e, if_neg e]
    exact hA i hi
theorem m1_lt {a : Nat} (ha : a < 2 ^ 31) : nI a + (-1) < nI a := by
  by_cases h : a = 0
  · subst h; decide
  · rw [nI_a1 (by omega)]
    exact nI_lt (by omega) ha
theorem or_0 (b : Bool) : (b || false) = b := by cases b <;> rfl
theorem or_1 (b c : Bool) : (b || (true || c)) = (true || c) := by cases b <;> rfl
theorem m40 (r : Nat) : nI (40 * (r + 1)) + (-40) = nI (40 * r) := by
  have h := pk_sub (a := 40 * (r + 1)) (b := 40) (by omega)
  rw [show 40 * (r + 1) - 40 = 40 * r by omega, Int32.sub_eq_add_neg] at h
  exact h
theorem p40 (a : Nat) : nI a + 40 = nI (a + 40) := nI_add a 40
theorem s40 {a : Nat} (h : 40 ≤ a) : nI a - 40 = nI (a - 40) := pk_sub (b := 40) h
def hor (y u v : Nat) : Prop := (v = u + 1 ∧ 40 * y + 1 ≤ v ∧ v < 40 * y + 40) ∨ (u = v + 1 ∧ 40 * y ≤ v ∧ v < 40 * y + 39)
/-! ===== sweeps over row 12 ===== -/
theorem row63_12 {σ : zS} {we no : Nat → Nat} (hL : LC σ we no) {y : Nat} (hy : y < 40) : ∀ (r f : Nat) (d : Nat → Nat) (g : Nat → Int32) (b : Bool), r ≤ 39 → r < f → AD d g → ∃ (d' : Nat → Nat) (g' : Nat → Int32) (b' : Bool), f_La_sweepRow_12_63 f (nI (40 * y)) (bI (b = true)) (nI (40 * y + r) + (-1)) (wv σ 12 g) = some (bI ((b || b') = true), wv σ 12 g') ∧ AD d' g' ∧ swp we no (fun u v => u = v + 1 ∧ 40 * y ≤ v ∧ v < 40 * y + r) d d' b' := by
  intro r
  induction r with
  | zero =>
    intro f d g b hr hf hA
    obtain ⟨f, rfl⟩ : ∃ m, f = m + 1 := ⟨f - 1, by omega⟩
    refine ⟨d, g, false, ?_, hA, swp_w (fun u v h => absurd h (by omega)) swp_rfl⟩
    show f_La_sweepRow_12_63b _ _ _ _ _ = _
    unfold f_La_sweepRow_12_63b
    rw [Nat.add_zero, if_pos (m1_lt (by omega)), zbo_b, or_0]
  | succ r ih =>
    intro f d g b hr hf hA
    obtain ⟨f, rfl⟩ : ∃ m, f = m + 1 := ⟨f - 1, by omega⟩
    have hL1 := hL (40 * y + r + 1) (by omega)
    have he : edg we no (40 * y + r + 1) (40 * y + r) (we (40 * y + r + 1)) := ⟨by omega, by omega, Or.inr (Or.inl ⟨rfl, by omega, rfl⟩)⟩
    have e0 : f_La_sweepRow_12_63 (f + 1) (nI (40 * y)) (bI (b = true)) (nI (40 * y + (r + 1)) + (-1)) (wv σ 12 g) = f_La_sweepRow_12_63b (fun x2 x3 x4 σ => f_La_sweepRow_12_63 f x2 x3 x4 σ) (nI (40 * y)) (bI (b = true)) (nI (40 * y + (r + 1)) + (-1)) (wv σ 12 g) := rfl
    rw [e0, nI_a1 (by omega), show 40 * y + (r + 1) - 1 = 40 * y + r by omega]
    unfold f_La_sweepRow_12_63b f_La_sweepRow_12_104
    rw [if_neg (nI_nlt (by omega) (by omega)), nI_1, zin_n (by omega) (by decide), zin_n (by omega) (by decide), zlt_s, zin_n (by omega) (by decide), nI_clamp (by omega), nI_clamp (by omega), wv_q, wv_ne σ g (show 21 ≠ 12 by decide), hL1.1, zin_n (by omega) (by decide), zlt_s, zsa_wv _ _ _ _ (by omega)]
    by_cases h : d (40 * y + r) ≤ d (40 * y + r + 1) + we (40 * y + r + 1)
    · rw [if_pos ((rl_c hA (by omega) (by omega) hL1.2.2.2.1).mpr h)]
      obtain ⟨d', g', b', k1, k2, k3⟩ := ih f d g b (by omega) (by omega) hA
      refine ⟨d', g', b', k1, k2, ?_⟩
      have q := swp_tr (rlx_no he h) k3
      rw [Bool.false_or] at q
      exact swp_w (fun u v hc => by omega) q
    · rw [if_neg (fun q => h ((rl_c hA (by omega) (by omega) hL1.2.2.2.1).mp q))]
      obtain ⟨d', g', b', k1, k2, k3⟩ := ih f _ _ true (by omega) (by omega) (AD_up (u := 40 * y + r + 1) (v := 40 * y + r) (w := we (40 * y + r + 1)) hA (by omega) (by omega) (by omega))
      refine ⟨d', g', true || b', ?_, k2, ?_⟩
      · rw [or_1]
        exact k1
      · exact swp_w (fun u v hc => by omega) (swp_tr (rlx_yes he (by omega)) k3)
theorem row7_12 {σ : zS} {we no : Nat → Nat} (hL : LC σ we no) {y : Nat} (hy : y < 40) : ∀ (r p f : Nat) (d : Nat → Nat) (g : Nat → Int32) (b : Bool), p + r = 40 * y + 40 → 40 * y + 1 ≤ p → r < f → AD d g → ∃ (d' : Nat → Nat) (g' : Nat → Int32) (b' : Bool), f_La_sweepRow_12_7 f (nI (40 * y)) (bI (b = true)) (nI p) (wv σ 12 g) = some (bI ((b || b') = true), wv σ 12 g') ∧ AD d' g' ∧ swp we no (fun u v => (v = u + 1 ∧ p ≤ v ∧ v < 40 * y + 40) ∨ (u = v + 1 ∧ 40 * y ≤ v ∧ v < 40 * y + 39)) d d' b' := by
  intro r
  induction r with
  | zero =>
    intro p f d g b hp hp1 hf hA
    obtain ⟨f, rfl⟩ : ∃ m, f = m + 1 := ⟨f - 1, by omega⟩
    obtain ⟨d', g', b', k1, k2, k3⟩ := row63_12 hL hy 39 zfu d g b (by omega) (by decide) hA
    refine ⟨d', g', b', ?_, k2, swp_w (fun u v h => by omega) k3⟩
    show f_La_sweepRow_12_7b _ _ _ _ _ = _
    unfold f_La_sweepRow_12_7b
    rw [p40, if_pos (nI_le (by omega) (by omega)), zlt_s, ← k1, show nI (40 * y + 40) - 2 = nI (40 * y + 40 - 2) from pk_sub (b := 2) (by omega), nI_a1 (by omega), show 40 * y + 40 - 2 = 40 * y + 39 - 1 by omega]
  | succ r ih =>
    intro p f d g b hp hp1 hf hA
    obtain ⟨f, rfl⟩ : ∃ m, f = m + 1 := ⟨f - 1, by omega⟩
    have hL1 := hL p (by omega)
    have he : edg we no (p - 1) p (we p) := ⟨by omega, by omega, Or.inl ⟨by omega, by omega, rfl⟩⟩
    have e0 : f_La_sweepRow_12_7 (f + 1) (nI (40 * y)) (bI (b = true)) (nI p) (wv σ 12 g) = f_La_sweepRow_12_7b (fun x2 x3 x4 σ => f_La_sweepRow_12_7 f x2 x3 x4 σ) (nI (40 * y)) (bI (b = true)) (nI p) (wv σ 12 g) := rfl
    rw [e0]
    unfold f_La_sweepRow_12_7b f_La_sweepRow_12_49
    rw [p40, if_neg (nI_ge (by omega) (by omega)), nI_s1 (by omega), zin_n (by omega) (by decide), zin_n (by omega) (by decide), zlt_s, zin_n (by omega) (by decide), nI_clamp (by omega), nI_clamp (by omega), wv_q, wv_ne σ g (show 21 ≠ 12 by decide), hL1.1, zin_n (by omega) (by decide), zlt_s, zsa_wv _ _ _ _ (by omega), nI_1]
    by_cases h : d p ≤ d (p - 1) + we p
    · rw [if_pos ((rl_c hA (by omega) (by omega) hL1.2.2.2.1).mpr h)]
      obtain ⟨d', g', b', k1, k2, k3⟩ := ih (p + 1) f d g b (by omega) (by omega) (by omega) hA
      refine ⟨d', g', b', k1, k2, ?_⟩
      have q := swp_tr (rlx_no he h) k3
      rw [Bool.false_or] at q
      exact swp_w (fun u v hc => by omega) q
    · rw [if_neg (fun q => h ((rl_c hA (by omega) (by omega) hL1.2.2.2.1).mp q))]
      obtain ⟨d', g', b', k1, k2, k3⟩ := ih (p + 1) f _ _ true (by omega) (by omega) (by omega) (AD_up (u := p - 1) (v := p) (w := we p) hA (by omega) (by omega) (by omega))
      refine ⟨d', g', true || b', ?_, k2, ?_⟩
      · rw [or_1]
        exact k1
      · exact swp_w (fun u v hc => by omega) (swp_tr (rlx_yes he (by omega)) k3)
theorem row_12 {σ : zS} {we no : Nat → Nat} (hL : LC σ we no) {y : Nat} (hy : y < 40) {d : Nat → Nat} {g : Nat → Int32} (hA : AD d g) : ∃ (d' : Nat → Nat) (g' : Nat → Int32) (b' : Bool), f_La_sweepRow_12 (nI (40 * y)) (wv σ 12 g) = some (bI (b' = true), wv σ 12 g') ∧ AD d' g' ∧ swp we no (hor y) d d' b' := by
  obtain ⟨d', g', b', k1, k2, k3⟩ := row7_12 hL hy 39 (40 * y + 1) zfu d g false (by omega) (by omega) (by decide) hA
  refine ⟨d', g', b', ?_, k2, swp_w (fun u v h => h) k3⟩
  rw [Bool.false_or, ← nI_1] at k1
  exact k1
theorem so20_12 {σ : zS} {we no : Nat → Nat} (hL : LC σ we no) {y : Nat} (hy : y < 40) (hy1 : 1 ≤ y) (k10 : Int32 → Int32 → zS → Option (Int32 × zS)) : ∀ (r p f : Nat) (d : Nat → Nat) (g : Nat → Int32) (b : Bool), p + r = 40 * y + 40 → 40 * y ≤ p → r < f → AD d g → ∃ (d' : Nat → Nat) (g' : Nat → Int32) (b' : Bool), f_La_sweepSouth_12_20 k10 f (bI (b = true)) (nI (40 * y)) (nI p) (wv σ 12 g) = k10 (bI ((b || b') = true)) (nI (40 * y + 40)) (wv σ 12 g') ∧ AD d' g' ∧ swp we no (fun u v => (v = u + 40 ∧ p ≤ v ∧ v < 40 * y + 40) ∨ hor y u v) d d' b' := by
  intro r
  induction r with
  | zero =>
    intro p f d g b hp hp1 hf hA
    obtain ⟨f, rfl⟩ : ∃ m, f = m + 1 := ⟨f - 1, by omega⟩
    obtain ⟨d', g', b', k1, k2, k3⟩ := row_12 hL hy hA
    refine ⟨d', g', b', ?_, k2, swp_w (fun u v h => by rcases h with h | h; exact absurd h (by omega); exact h) k3⟩
    show f_La_sweepSouth_12_20b _ _ _ _ _ _ = _
    unfold f_La_sweepSouth_12_20b f_La_sweepSouth_12_80
    rw [p40, if_pos (nI_le (by omega) (by omega)), k1, zbd_s]
    cases b' <;> cases b <;> rfl
  | succ r ih =>
    intro p f d g b hp hp1 hf hA
    obtain ⟨f, rfl⟩ : ∃ m, f = m + 1 := ⟨f - 1, by omega⟩
    have hL1 := hL p (by omega)
    have he : edg we no (p - 40) p (no p) := ⟨by omega, by omega, Or.inr (Or.inr (Or.inl ⟨by omega, rfl⟩))⟩
    have e0 : f_La_sweepSouth_12_20 k10 (f + 1) (bI (b = true)) (nI (40 * y)) (nI p) (wv σ 12 g) = f_La_sweepSouth_12_20b k10 (fun x2 x3 x4 σ => f_La_sweepSouth_12_20 k10 f x2 x3 x4 σ) (bI (b = true)) (nI (40 * y)) (nI p) (wv σ 12 g) := rfl
    rw [e0]
    unfold f_La_sweepSouth_12_20b f_La_sweepSouth_12_63
    rw [p40, if_neg (nI_ge (by omega) (by omega)), s40 (by omega), zin_n (by omega) (by decide), zin_n (by omega) (by decide), zlt_s, zin_n (by omega) (by decide), nI_clamp (by omega), nI_clamp (by omega), wv_q, wv_ne σ g (show 22 ≠ 12 by decide), hL1.2.1, zin_n (by omega) (by decide), zlt_s, zsa_wv _ _ _ _ (by omega), nI_1]
    by_cases h : d p ≤ d (p - 40) + no p
    · rw [if_pos ((rl_c hA (by omega) (by omega) hL1.2.2.2.2.2).mpr h)]
      obtain ⟨d', g', b', k1, k2, k3⟩ := ih (p + 1) f d g b (by omega) (by omega) (by omega) hA
      refine ⟨d', g', b', k1, k2, ?_⟩
      have q := swp_tr (rlx_no he h) k3
      rw [Bool.false_or] at q
      exact swp_w (fun u v hc => by unfold hor at hc ⊢; omega) q
    · rw [if_neg (fun q => h ((rl_c hA (by omega) (by omega) hL1.2.2.2.2.2).mp q))]
      obtain ⟨d', g', b', k1, k2, k3⟩ := ih (p + 1) f _ _ true (by omega) (by omega) (by omega) (AD_up (u := p - 40) (v := p) (w := no p) hA (by omega) (by omega) (by omega))
      refine ⟨d', g', true || b', ?_, k2, ?_⟩
      · rw [or_1]
        exact k1
      · exact swp_w (fun u v hc => by unfold hor at hc ⊢; omega) (swp_tr (rlx_yes he (by omega)) k3)
theorem so10_12 {σ : zS} {we no : Nat → Nat} (hL : LC σ we no) : ∀ (r y f : Nat) (d : Nat → Nat) (g : Nat → Int32) (b : Bool), y + r = 40 → 1 ≤ y → r < f → AD d g → ∃ (d' : Nat → Nat) (g' : Nat → Int32) (b' : Bool), f_La_sweepSouth_12_10 f (bI (b = true)) (nI (40 * y)) (wv σ 12 g) = some (bI ((b || b') = true), wv σ 12 g') ∧ AD d' g' ∧ swp we no (fun u v => 40 * y ≤ v ∧ v < 1600 ∧ (v = u + 40 ∨ (v = u + 1 ∧ ¬ v % 40 = 0) ∨ (u = v + 1 ∧ ¬ u % 40 = 0))) d d' b' := by
  intro r
  induction r with
  | zero =>
    intro y f d g b hy hy1 hf hA
    obtain ⟨f, rfl⟩ : ∃ m, f = m + 1 := ⟨f - 1, by omega⟩
    refine ⟨d, g, false, ?_, hA, swp_w (fun u v h => absurd h (by omega)) swp_rfl⟩
    show f_La_sweepSouth_12_10b _ _ _ _ = _
    unfold f_La_sweepSouth_12_10b
    rw [if_pos (show (1600 : Int32) ≤ nI (40 * y) from nI_le (show 1600 ≤ 40 * y by omega) (by omega)), zbo_b, or_0]
  | succ r ih =>
    intro y f d g b hy hy1 hf hA
    obtain ⟨f, rfl⟩ : ∃ m, f = m + 1 := ⟨f - 1, by omega⟩
    have e0 : f_La_sweepSouth_12_10 (f + 1) (bI (b = true)) (nI (40 * y)) (wv σ 12 g) = f_La_sweepSouth_12_10b (fun x2 x3 σ => f_La_sweepSouth_12_10 f x2 x3 σ) (bI (b = true)) (nI (40 * y)) (wv σ 12 g) := rfl
    rw [e0]
    unfold f_La_sweepSouth_12_10b
    rw [if_neg (show ¬ (1600 : Int32) ≤ nI (40 * y) from nI_ge (show 40 * y < 1600 by omega) (by decide))]
    obtain ⟨d1, g1, b1, k1, k2, k3⟩ := so20_12 hL (y := y) (by omega) hy1 (fun x2 x3 σ => f_La_sweepSouth_12_10 f x2 x3 σ) 40 (40 * y) zfu d g b (by omega) (by omega) (by decide) hA
    obtain ⟨d2, g2, b2, q1, q2, q3⟩ := ih (y + 1) f d1 g1 (b || b1) (by omega) (by omega) (by omega) k2
    refine ⟨d2, g2, b1 || b2, ?_, q2, swp_w (fun u v hc => by unfold hor; omega) (swp_tr k3 q3)⟩
    rw [k1, show 40 * y + 40 = 40 * (y + 1) by omega, q1, Bool.or_assoc]
theorem south_12 {σ : zS} {we no : Nat → Nat} (hL : LC σ we no) {d : Nat → Nat} {g : Nat → Int32} (hA : AD d g) : ∃ (d' : Nat → Nat) (g' : Nat → Int32) (b' : Bool), f_La_sweepSouth_12 (wv σ 12 g) = some (bI (b' = true), wv σ 12 g') ∧ AD d' g' ∧ swp we no (fun u v => v < 1600 ∧ (v = u + 40 ∨ (v = u + 1 ∧ ¬ v % 40 = 0) ∨ (u = v + 1 ∧ ¬ u % 40 = 0))) d d' b' := by
  obtain ⟨d1, g1, b1, k1, k2, k3⟩ := row_12 hL (y := 0) (by omega) hA
  obtain ⟨d2, g2, b2, q1, q2, q3⟩ := so10_12 hL 39 1 zfu d1 g1 b1 (by omega) (by omega) (by decide) k2
  refine ⟨d2, g2, b1 || b2, ?_, q2, swp_w (fun u v hc => by unfold hor; omega) (swp_tr k3 q3)⟩
  unfold f_La_sweepSouth_12
  have k1' : f_La_sweepRow_12 0 (wv σ 12 g) = some (bI (b1 = true), wv σ 12 g1) := k1
  rw [k1', zbd_s]
  exact q1
theorem no13_12 {σ : zS} {we no : Nat → Nat} (hL : LC σ we no) {y : Nat} (hy : y < 39) (k6 : Int32 → Int32 → zS → Option (Int32 × zS)) : ∀ (r p f : Nat) (d : Nat → Nat) (g : Nat → Int32) (b : Bool), p + r = 40 * y + 40 → 40 * y ≤ p → r < f → AD d g → ∃ (d' : Nat → Nat) (g' : Nat → Int32) (b' : Bool), f_La_sweepNorth_12_13 k6 f (bI (b = true)) (nI (40 * y)) (nI p) (wv σ 12 g) = k6 (bI ((b || b') = true)) (nI (40 * y) + (-40)) (wv σ 12 g') ∧ AD d' g' ∧ swp we no (fun u v => u = v + 40 ∧ p ≤ v ∧ v < 40 * y + 40) d d' b' := by
  intro r
  induction r with
  | zero =>
    intro p f d g b hp hp1 hf hA
    obtain ⟨f, rfl⟩ : ∃ m, f = m + 1 := ⟨f - 1, by omega⟩
    obtain ⟨d', g', b', k1, k2, k3⟩ := row_12 hL (y := y) (by omega) hA
    refine ⟨d', g', b', ?_, k2, swp_w (fun u v h => absurd h (by omega)) k3⟩
    show f_La_sweepNorth_12_13b _ _ _ _ _ _ = _
    unfold f_La_sweepNorth_12_13b f_La_sweepNorth_12_76
    rw [p40, if_pos (nI_le (by omega) (by omega)), k1, zbd_s]
    cases b' <;> cases b <;> rfl
  | succ r ih =>
    intro p f d g b hp hp1 hf hA
    obtain ⟨f, rfl⟩ : ∃ m, f = m + 1 := ⟨f - 1, by omega⟩
    have hL1 := hL (p + 40) (by omega)
    have he : edg we no (p + 40) p (no (p + 40)) := ⟨by omega, by omega, Or.inr (Or.inr (Or.inr ⟨rfl, rfl⟩))⟩
    have e0 : f_La_sweepNorth_12_13 k6 (f + 1) (bI (b = true)) (nI (40 * y)) (nI p) (wv σ 12 g) = f_La_sweepNorth_12_13b k6 (fun x2 x3 x4 σ => f_La_sweepNorth_12_13 k6 f x2 x3 x4 σ) (bI (b = true)) (nI (40 * y)) (nI p) (wv σ 12 g) := rfl
    rw [e0]
    unfold f_La_sweepNorth_12_13b f_La_sweepNorth_12_59
    rw [p40, if_neg (nI_ge (by omega) (by omega)), p40, zin_n (by omega) (by decide), zin_n (by omega) (by decide), zlt_s, zin_n (by omega) (by decide), nI_clamp (by omega), nI_clamp (by omega), wv_q, wv_ne σ g (show 22 ≠ 12 by decide), hL1.2.1, zin_n (by omega) (by decide), zlt_s, zsa_wv _ _ _ _ (by omega), nI_1]
    by_cases h : d p ≤ d (p + 40) + no (p + 40)
    · rw [if_pos ((rl_c hA (by omega) (by omega) hL1.2.2.2.2.2).mpr h)]
      obtain ⟨d', g', b', k1, k2, k3⟩ := ih (p + 1) f d g b (by omega) (by omega) (by omega) hA
      refine ⟨d', g', b', k1, k2, ?_⟩
      have q := swp_tr (rlx_no he h) k3
      rw [Bool.false_or] at q
      exact swp_w (fun u v hc => by omega) q
    · rw [if_neg (fun q => h ((rl_c hA (by omega) (by omega) hL1.2.2.2.2.2).mp q))]
      obtain ⟨d', g', b', k1, k2, k3⟩ := ih (p + 1) f _ _ true (by omega) (by omega) (by omega) (AD_up (u := p + 40) (v := p) (w := no (p + 40)) hA (by omega) (by omega) (by omega))
      refine ⟨d', g', true || b', ?_, k2, ?_⟩
      · rw [or_1]
        exact k1
      · exact swp_w (fun u v hc => by omega) (swp_tr (rlx_yes he (by omega)) k3)
theorem no6_12 {σ : zS} {we no : Nat → Nat} (hL : LC σ we no) : ∀ (r f : Nat) (d : Nat → Nat) (g : Nat → Int32) (b : Bool), r ≤ 39 → r < f → AD d g → ∃ (d' : Nat → Nat) (g' : Nat → Int32) (b' : Bool), f_La_sweepNorth_12_6 f (bI (b = true)) (nI (40 * r) + (-40)) (wv σ 12 g) = some (bI ((b || b') = true), wv σ 12 g') ∧ AD d' g' ∧ swp we no (fun u v => u = v + 40 ∧ v < 40 * r) d d' b' := by
  intro r
  induction r with
  | zero =>
    intro f d g b hr hf hA
    obtain ⟨f, rfl⟩ : ∃ m, f = m + 1 := ⟨f - 1, by omega⟩
    refine ⟨d, g, false, ?_, hA, swp_w (fun u v h => absurd h (by omega)) swp_rfl⟩
    show f_La_sweepNorth_12_6b _ _ _ _ = _
    unfold f_La_sweepNorth_12_6b
    rw [if_pos (show nI (40 * 0) + (-40) < 0 by decide), zbo_b, or_0]
  | succ r ih =>
    intro f d g b hr hf hA
    obtain ⟨f, rfl⟩ : ∃ m, f = m + 1 := ⟨f - 1, by omega⟩
    have e0 : f_La_sweepNorth_12_6 (f + 1) (bI (b = true)) (nI (40 * (r + 1)) + (-40)) (wv σ 12 g) = f_La_sweepNorth_12_6b (fun x2 x3 σ => f_La_sweepNorth_12_6 f x2 x3 σ) (bI (b = true)) (nI (40 * (r + 1)) + (-40)) (wv σ 12 g) := rfl
    rw [e0, m40]
    unfold f_La_sweepNorth_12_6b
    rw [if_neg (nI_pos (by omega))]
    obtain ⟨d1, g1, b1, k1, k2, k3⟩ := no13_12 hL (y := r) (by omega) (fun x2 x3 σ => f_La_sweepNorth_12_6 f x2 x3 σ) 40 (40 * r) zfu d g b (by omega) (by omega) (by decide) hA
    obtain ⟨d2, g2, b2, q1, q2, q3⟩ := ih f d1 g1 (b || b1) (by omega) (by omega) k2
    refine ⟨d2, g2, b1 || b2, ?_, q2, swp_w (fun u v hc => by omega) (swp_tr k3 q3)⟩
    rw [k1, q1, Bool.or_assoc]
theorem wk15_12 {σ : zS} {we no D : Nat → Nat} {s : Nat} (hL : LC σ we no) (hF : few we no s D) (hs : s < 1600) : ∀ (r i f : Nat) (d : Nat → Nat) (g : Nat → Int32) (b : Bool), i + r = 1600 → r < f → AD d g → (∀ v, v < 1600 → D v ≤ d v) → d s = 0 → uns D d ≤ r → (b = false → uns D d = 0) → ∃ g' : Nat → Int32, f_La_walkFrom_12_15 f (bI (b = true)) (nI i) (wv σ 12 g) = some (0, wv σ 12 g') ∧ ∀ v, v < 1600 → g' v = nI (D v) := by
  intro r
  induction r with
  | zero =>
    intro i f d g b hi hf hA hD hd hu hb
    obtain ⟨f, rfl⟩ : ∃ m, f = m + 1 := ⟨f - 1, by omega⟩
    refine ⟨g, ?_, fun v hv => by rw [(hA v hv).1, uns_0 (D := D) (d := d) (by omega) v hv]⟩
    show f_La_walkFrom_12_15b _ _ _ _ = _
    unfold f_La_walkFrom_12_15b
    rw [if_pos (show (1600 : Int32) ≤ nI i from nI_le (show 1600 ≤ i by omega) (by omega))]
  | succ r ih =>
    intro i f d g b hi hf hA hD hd hu hb
    obtain ⟨f, rfl⟩ : ∃ m, f = m + 1 := ⟨f - 1, by omega⟩
    have e0 : f_La_walkFrom_12_15 (f + 1) (bI (b = true)) (nI i) (wv σ 12 g) = f_La_walkFrom_12_15b (fun x3 x4 σ => f_La_walkFrom_12_15 f x3 x4 σ) (bI (b = true)) (nI i) (wv σ 12 g) := rfl
    rw [e0]
    unfold f_La_walkFrom_12_15b f_La_walkFrom_12_43
    rw [if_neg (show ¬ (1600 : Int32) ≤ nI i from nI_ge (show i < 1600 by omega) (by decide))]
    cases b with
    | false =>
      rw [if_pos (show bI (false = true) = 0 from rfl)]
      exact ⟨g, rfl, fun v hv => by rw [(hA v hv).1, uns_0 (D := D) (d := d) (hb rfl) v hv]⟩
    | true =>
      rw [if_neg (show ¬ bI (true = true) = 0 from one0)]
      obtain ⟨d1, g1, b1, k1, k2, k3⟩ := south_12 hL hA
      obtain ⟨d2, g2, b2, q1, q2, q3⟩ := no6_12 hL 39 zfu d1 g1 false (by omega) (by decide) k2
      have q1' : f_La_sweepNorth_12 (wv σ 12 g1) = some (bI (b2 = true), wv σ 12 g2) := by
        rw [Bool.false_or] at q1
        exact q1
      have hsw : swp we no (fun _ _ => True) d d2 (b1 || b2) := by
        have w := swp_tr k3 q3
        refine ⟨w.1, w.2.1, fun u v c he _ => w.2.2.1 u v c he ?_, w.2.2.2⟩
        obtain ⟨a1, a2, a3⟩ := he
        omega
      obtain ⟨c1, c2, c3, c4⟩ := swp_step hF (fun p hp => ⟨(hL p hp).2.2.1, (hL p hp).2.2.2.2.1⟩) hsw hD (fun v hv => (hA v hv).2) hd
      have hu2 : uns D d2 ≤ r := by
        by_cases w : uns D d = 0
        · rw [c2 w]; omega
        · have := c3 w; omega
      obtain ⟨g', x1, x2⟩ := ih (i + 1) f d2 g2 (b1 || b2) (by omega) (by omega) q2 c1 (by have := hsw.1 s; omega) hu2 (fun w => c2 (c4 w))
      refine ⟨g', ?_, x2⟩
      rw [k1, zbd_s]
      dsimp only
      rw [q1', zbd_s, nI_1, ← x1]
      cases b1 <;> cases b2 <;> rfl
/-- the fewest from a place on, in row 12 -/
theorem walk_12 {σ : zS} {we no D : Nat → Nat} {s : Nat} (hL : LC σ we no) (hF : few we no s D) (hs : s < 1600) : ∃ g' : Nat → Int32, f_La_walkFrom_12 (nI s) σ = some (0, wv σ 12 g') ∧ ∀ v, v < 1600 → g' v = nI (D v) := by
  unfold f_La_walkFrom_12
  rw [zlt_s, zin_n hs (by decide), zlt_s, show zsf σ 12 1600 1000000000 = wv σ 12 (zfl 1600 1000000000 (σ.2 12)) from rfl, zsa_wv _ _ _ _ (by omega)]
  refine wk15_12 hL hF hs 1600 0 zfu (fun i => if i = s then 0 else 1000000000) _ true (by omega) (by decide) ?_ ?_ (if_pos rfl) (ctq_le _ _) (fun h => absurd h (by decide))
  · intro i hi
    unfold upd zfl
    by_cases e : i = s
    · rw [if_pos e]
      show _ = nI (if i = s then 0 else 1000000000) ∧ (if i = s then 0 else 1000000000) ≤ _
      rw [if_pos e]
      exact ⟨rfl, by omega⟩
    · rw [if_neg e, if_pos hi]
      show _ = nI (if i = s then 0 else 1000000000) ∧ (if i = s then 0 else 1000000000) ≤ _
      rw [if_neg e]
      exact ⟨rfl, by omega⟩
  · intro v hv
    show D v ≤ if v = s then 0 else 1000000000
    by_cases e : v = s
    · rw [if_pos e, e, hF.2.1]; omega
    · rw [if_neg e]
      exact hF.2.2.1 v hv
