/-! ===== houses ===== -/
theorem h_L {s n : Nat} {at' : Int32} (hs : s < 4) (hn : n ≤ 20) : ∀ (r k f f' : Nat) (came : Int32) (σ τ : zS), k + r = n → r < f → r < f' → R σ τ → (k = 0 ∨ ∃ a, at' = nI a ∧ a + 2 * k ≤ 40) → ∃ (v : Int32) (σ' τ' : zS), f_X_houses_66 f (nI s) at' (nI n) came (nI k) σ = some (v, σ') ∧ f_M_houses_64 f' (nI s) at' (nI n) came (nI k) τ = some (v, τ') ∧ R σ' τ' := by
  intro r
  induction r with
  | zero =>
    intro k f f' came σ τ hk hf hf' hR _
    obtain ⟨f, rfl⟩ : ∃ m, f = m + 1 := ⟨f - 1, by omega⟩
    obtain ⟨f', rfl⟩ : ∃ m, f' = m + 1 := ⟨f' - 1, by omega⟩
    refine ⟨came, σ, τ, ?_, ?_, hR⟩
    · show f_X_houses_66b _ _ _ _ _ _ _ = _
      unfold f_X_houses_66b
      rw [if_pos (nI_le (by omega) (by omega))]
    · show f_M_houses_64b _ _ _ _ _ _ _ = _
      unfold f_M_houses_64b
      rw [if_pos (nI_le (by omega) (by omega))]
  | succ r ih =>
    intro k f f' came σ τ hk hf hf' hR hat
    obtain ⟨f, rfl⟩ : ∃ m, f = m + 1 := ⟨f - 1, by omega⟩
    obtain ⟨f', rfl⟩ : ∃ m, f' = m + 1 := ⟨f' - 1, by omega⟩
    have eX : f_X_houses_66 (f + 1) (nI s) at' (nI n) came (nI k) σ = f_X_houses_66b (fun x1 x3 x4 x5 x6 σ => f_X_houses_66 f x1 x3 x4 x5 x6 σ) (nI s) at' (nI n) came (nI k) σ := rfl
    have eM : f_M_houses_64 (f' + 1) (nI s) at' (nI n) came (nI k) τ = f_M_houses_64b (fun x1 x3 x4 x5 x6 σ => f_M_houses_64 f' x1 x3 x4 x5 x6 σ) (nI s) at' (nI n) came (nI k) τ := rfl
    rw [eX, eM]
    unfold f_X_houses_66b f_M_houses_64b f_X_houses_134 f_M_houses_144
    rw [if_neg (nI_ge (by omega) (by omega)), if_neg (nI_ge (by omega) (by omega)), zlt_s, zlt_s]
    obtain ⟨a1, a2, a3, a4⟩ := G10_row.mp hR.2.2.2.2.2.2.2.2.2
    obtain ⟨⟨L, hL, eL⟩, -⟩ := a3 s (by omega)
    have eL' : σ.2 31 s = nI L := by rw [a2 s (by omega), eL]
    rw [x_hasRun hs eL', zbd_s, zin_n hs (by decide), nI_clamp (by omega), eL]
    have e2k : (2 : Int32) * nI k = nI (2 * k) := (nI_mul 2 k)
    rw [e2k]
    by_cases h0 : at' < 0
    · have hk0 : k = 0 := by
        rcases hat with h | ⟨a, rfl, ha⟩
        · exact h
        · exact absurd h0 (nI_pos (by omega))
      subst hk0
      have e0 : at' + nI (2 * 0) = at' := Int32.add_zero at'
      rw [e0, if_pos h0, bI_f (fun q => absurd q.1 (Int32.not_le.mpr h0))]
      exact ⟨_, _, _, rfl, rfl, hR⟩
    · rw [if_neg h0]
      have hca : (∃ a, at' = nI a ∧ a + 2 * k + 2 ≤ L) ∨ ¬ ∃ a, at' = nI a ∧ a + 2 * k + 2 ≤ L := Classical.em _
      rcases hca with ⟨a, rfl, ha⟩ | hno
      · rw [nI_add, if_neg (nI_nlt (by omega) (by omega)), bI_t (show 0 ≤ nI (a + 2 * k) ∧ 0 ≤ (2 : Int32) ∧ 2 ≤ nI L ∧ nI (a + 2 * k) ≤ nI L - 2 from (run_iff hL).mpr ⟨a + 2 * k, 2, rfl, rfl, ha⟩), show nI L - 2 = nI (L - 2) from nI_sub (b := 2) (by omega), if_pos (nI_le (by omega) (by omega)), if_neg one0, zlt_s, zin_n hs (by decide), zrw_i (by omega), zin_n (by omega) (by decide), zin_n hs (by decide), zrw_i (by omega), nI_1 (a + 2 * k), zin_n (by omega) (by decide), nI_clamp (by omega), nI_clamp (by omega), nI_40, nI_1 (40 * s + (a + 2 * k)), zin_n (by omega) (by decide), zin_n (by omega) (by decide), nI_clamp (by omega), nI_clamp (by omega)]
        rw [a4 s hs (a + 2 * k) (by omega), a4 s hs (a + 2 * k + 1) (by omega), show 40 * s + (a + 2 * k + 1) = 40 * s + (a + 2 * k) + 1 by omega]
        obtain ⟨v, σ', τ', g1, g2, g3⟩ := sim_house (τ.2 21 (40 * s + (a + 2 * k)), τ.2 21 (40 * s + (a + 2 * k) + 1)) σ τ hR
        dsimp only at g1 g2 ⊢
        rw [g1, g2]
        simp only [zbd_s, zlt_s]
        rw [Int32.add_zero, nI_1]
        by_cases hv : v < 0
        · rw [if_pos hv, if_pos hv]
          exact ih (k + 1) f f' came σ' τ' (by omega) (by omega) (by omega) g3 (Or.inr ⟨a, rfl, by omega⟩)
        · rw [if_neg hv, if_neg hv]
          exact ih (k + 1) f f' (came + 1) σ' τ' (by omega) (by omega) (by omega) g3 (Or.inr ⟨a, rfl, by omega⟩)
      · rw [bI_f (fun q => ?_)]
        · have hM : (if at' + nI (2 * k) < at' then some ((-12 : Int32), τ) else zin (nI s) 4 (if at' + nI (2 * k) ≤ nI L - 2 then (zlt ((40 * nI s) + (at' + nI (2 * k))) fun v2 => zin v2 160 (zin (v2 + 1) 160 (zbd (f_M_house (τ.2 21 v2.toNatClampNeg) (τ.2 21 (v2 + 1).toNatClampNeg) τ) fun r4 σ3 => (if r4 < 0 then zlt (came + 0) fun v1 => (fun x1 x3 x4 x5 x6 σ => f_M_houses_64 f' x1 x3 x4 x5 x6 σ) (nI s) at' (nI n) v1 (nI k + 1) σ3 else zlt (came + 1) fun v1 => (fun x1 x3 x4 x5 x6 σ => f_M_houses_64 f' x1 x3 x4 x5 x6 σ) (nI s) at' (nI n) v1 (nI k + 1) σ3)))) else some (-12, τ))) = some (-12, τ) := by
            by_cases c1 : at' + nI (2 * k) < at'
            · rw [if_pos c1]
            · rw [if_neg c1, zin_n hs (by decide)]
              by_cases c2 : at' + nI (2 * k) ≤ nI L - 2
              · exfalso
                apply hno
                have hL2 : 2 ≤ L := by
                  apply Classical.byContradiction
                  intro hc
                  have : L = 0 ∨ L = 1 := by omega
                  have h3 := Int32.le_trans (Int32.not_lt.mp c1) c2
                  have h4 := Int32.le_trans (Int32.not_lt.mp h0) h3
                  rcases this with rfl | rfl
                  · exact absurd h4 (by decide)
                  · exact absurd h4 (by decide)
                rw [show nI L - 2 = nI (L - 2) from nI_sub (b := 2) hL2] at c2
                obtain ⟨a, ha, rfl⟩ := bd_of (x := at') (N := L - 2) (by omega) ⟨Int32.not_lt.mp h0, Int32.le_trans (Int32.not_lt.mp c1) c2⟩
                rw [nI_add] at c2
                exact ⟨a, rfl, by have := (nI_leI (by omega) (by omega)).mp c2; omega⟩
              · rw [if_neg c2]
          rw [hM]
          exact ⟨_, _, _, rfl, rfl, hR⟩
        · apply hno
          obtain ⟨a, b, q1, q2, q3⟩ := (run_iff hL).mp q
          have hb2 : b = 2 := ((nI_eq (a := 2) (by decide) (by omega)).mp q2).symm
          subst hb2
          rcases hat with h | ⟨a', rfl, ha'⟩
          · subst h
            have e0 : at' + nI (2 * 0) = at' := Int32.add_zero at'
            rw [e0] at q1
            exact ⟨a, q1, by omega⟩
          · rw [nI_add] at q1
            have := (nI_eq (by omega) (by omega)).mp q1
            exact ⟨a', rfl, by omega⟩
theorem sim_houses : @zSim (Int32 × Int32 × Int32 × Int32) R (fun a => f_X_houses a.1 a.2.1 a.2.2.1 a.2.2.2) (fun a => f_M_houses a.1 a.2.1 a.2.2.1 a.2.2.2) := by
  intro ⟨x, so, at', n⟩ σ τ hR
  dsimp only
  unfold f_X_houses f_M_houses
  rw [x_isSheet, m_in, zbd_s, zbd_s]
  by_cases h1 : 0 ≤ x ∧ x ≤ 3
  · rw [bI_t h1]
    simp only [if_neg one0]
    obtain ⟨s, hs, rfl⟩ := bd_of (N := 3) (by decide) h1
    rw [x_isFrom, m_in, zbd_s, zbd_s]
    by_cases h2 : 0 ≤ so ∧ so ≤ 2
    · rw [bI_t h2]
      simp only [if_neg one0]
      rw [x_isFrom, m_in, zbd_s, zbd_s]
      by_cases h3 : 0 ≤ n ∧ n ≤ 20
      · rw [bI_t h3]
        simp only [if_neg one0]
        obtain ⟨k, hk, rfl⟩ := bd_of (N := 20) (by decide) h3
        obtain ⟨a1, a2, a3, a4⟩ := G10_row.mp hR.2.2.2.2.2.2.2.2.2
        have e30 := a1 s (by omega)
        simp only [zin_n (show s < 4 by omega) (show 4 < 2 ^ 31 by decide), nI_clamp (show s < 2 ^ 31 by omega), x_isMissing (show s < 4 by omega), zbd_s, e30]
        by_cases h4 : τ.2 19 s = -1
        · rw [if_pos h4, bI_t h4, if_neg one0]
          exact ⟨_, _, _, rfl, rfl, hR⟩
        · rw [if_neg h4, bI_f h4, if_pos rfl]
          by_cases h5 : τ.2 19 s = so
          · rw [if_pos h5, if_pos h5]
            exact h_L (s := s) (n := k) (at' := at') (by omega) hk k 0 zfu zfu 0 σ τ (by omega) (by unfold zfu; omega) (by unfold zfu; omega) hR (Or.inl rfl)
          · rw [if_neg h5, if_neg h5]
            exact ⟨_, _, _, rfl, rfl, hR⟩
      · rw [bI_f h3]
        simp only [if_true]
        exact ⟨_, _, _, rfl, rfl, hR⟩
    · rw [bI_f h2]
      simp only [if_true]
      exact ⟨_, _, _, rfl, rfl, hR⟩
  · rw [bI_f h1]
    simp only [if_true]
    exact ⟨_, _, _, rfl, rfl, hR⟩
