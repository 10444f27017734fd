/-! ===== cell, copy, image, feed ===== -/
theorem run_iff {i n : Int32} {L : Nat} (hL : L ≤ 40) : (0 ≤ i ∧ 0 ≤ n ∧ n ≤ nI L ∧ i ≤ nI L - n) ↔ ∃ a b, i = nI a ∧ n = nI b ∧ a + b ≤ L := by
  constructor
  · rintro ⟨h1, h2, h3, h4⟩
    obtain ⟨b, hb, rfl⟩ := bd_of (N := L) (by omega) ⟨h2, h3⟩
    rw [nI_sub hb] at h4
    obtain ⟨a, ha, rfl⟩ := bd_of (N := L - b) (by omega) ⟨h1, h4⟩
    exact ⟨a, b, rfl, rfl, by omega⟩
  · rintro ⟨a, b, rfl, rfl, h⟩
    refine ⟨nI_pos' (by omega), nI_pos' (by omega), nI_le (by omega) (by omega), ?_⟩
    rw [nI_sub (by omega)]
    exact nI_le (by omega) (by omega)
theorem x_hasRun {s L : Nat} {i n : Int32} {σ : zS} (hs : s < 4) (hl : σ.2 31 s = nI L) : f_St_hasRun (nI s) i n σ = some (bI (0 ≤ i ∧ 0 ≤ n ∧ n ≤ nI L ∧ i ≤ nI L - n), σ) := by
  unfold f_St_hasRun
  simp only [zin_n hs (show 4 < 2 ^ 31 by decide), nI_clamp (show s < 2 ^ 31 by omega), hl]
  unfold bI
  by_cases h1 : i < 0
  · rw [if_pos h1, if_neg (fun h => absurd h.1 (Int32.not_le.mpr h1))]
  · rw [if_neg h1]
    by_cases h2 : n < 0
    · rw [if_pos h2, if_neg (fun h => absurd h.2.1 (Int32.not_le.mpr h2))]
    · rw [if_neg h2]
      by_cases h3 : nI L < n
      · rw [if_pos h3, if_neg (fun h => absurd h.2.2.1 (Int32.not_le.mpr h3))]
      · rw [if_neg h3]
        by_cases h4 : nI L - n < i
        · rw [if_pos h4, if_neg (fun h => absurd h.2.2.2 (Int32.not_le.mpr h4))]
        · rw [if_neg h4, if_pos ⟨Int32.not_lt.mp h1, Int32.not_lt.mp h2, Int32.not_lt.mp h3, Int32.not_lt.mp h4⟩]
theorem x_isMissing {s : Nat} {σ : zS} (hs : s < 4) : f_St_isMissing (nI s) σ = some (bI (σ.2 30 s = -1), σ) := by
  unfold f_St_isMissing bI
  rw [zin_n hs (by decide), nI_clamp (by omega)]
  by_cases h : σ.2 30 s = -1
  · rw [if_pos h, if_pos h]
  · rw [if_neg h, if_neg h]
theorem put_R {σ τ : zS} {s i : Nat} {v : Int32} (hR : R σ τ) (hs : s < 4) (hi : i < 40) : R (zsa σ (37 + s) (nI i) v) (zsa τ 21 (nI (40 * s + i)) v) := by
  obtain ⟨a1, a2, a3, a4⟩ := G10_row.mp hR.2.2.2.2.2.2.2.2.2
  refine R_10 hR rfl ?_ rfl ?_ (G10_row.mpr ⟨?_, ?_, a3, ?_⟩)
  · intro q q1 q2 q3
    show va_up σ.2 (37 + s) _ q = _
    unfold va_up
    rw [if_neg (by omega)]
  · intro q q1 q2 q3
    show va_up τ.2 21 _ q = _
    unfold va_up
    rw [if_neg (by omega)]
  · rw [show (zsa σ (37 + s) (nI i) v).2 30 = σ.2 30 from by rw [za2]; unfold va_up; rw [if_neg (by omega)]]
    exact a1
  · rw [show (zsa σ (37 + s) (nI i) v).2 31 = σ.2 31 from by rw [za2]; unfold va_up; rw [if_neg (by omega)]]
    exact a2
  · intro t ht j hj
    rw [za2, za2, nI_clamp (by omega), nI_clamp (by omega)]
    show va_up σ.2 (37 + s) (upd (σ.2 (37 + s)) i v) (37 + t) j = upd (τ.2 21) (40 * s + i) v _
    unfold va_up upd
    by_cases hst : t = s
    · subst hst
      rw [if_pos rfl]
      by_cases hij : j = i
      · subst hij
        rw [if_pos rfl, if_pos rfl]
      · rw [if_neg hij, if_neg (by omega)]
        exact a4 t ht j hj
    · rw [if_neg (by omega), if_neg (by omega)]
      exact a4 t ht j hj
theorem nI_40 (s i : Nat) : (40 : Int32) * nI s + nI i = nI (40 * s + i) := by rw [← nI_add, ← nI_mul]; rfl
theorem sim_cell : @zSim (Int32 × Int32 × Int32) R (fun a => f_X_cell a.1 a.2.1 a.2.2) (fun a => f_M_cell a.1 a.2.1 a.2.2) := by
  intro ⟨x, i, v⟩ σ τ hR
  dsimp only
  unfold f_X_cell f_M_cell
  rw [x_isSheet, m_in, zbd_s, zbd_s]
  by_cases h1 : 0 ≤ x ∧ x ≤ 3
  · rw [bI_t h1]
    simp only [if_neg one0]
    obtain ⟨s, hs, rfl⟩ := bd_of (N := 3) (by decide) h1
    obtain ⟨a1, a2, a3, a4⟩ := G10_row.mp hR.2.2.2.2.2.2.2.2.2
    obtain ⟨⟨L, hL, eL⟩, -⟩ := a3 s (by omega)
    have eL' : σ.2 31 s = nI L := by rw [a2 s (by omega), eL]
    have e30 := a1 s (by omega)
    simp only [zin_n (show s < 4 by omega) (show 4 < 2 ^ 31 by decide), nI_clamp (show s < 2 ^ 31 by omega), x_isMissing (show s < 4 by omega), zbd_s, e30, eL, m_in, x_hasRun (show s < 4 by omega) eL']
    by_cases h2 : τ.2 19 s = -1
    · rw [if_pos h2, bI_t h2, if_neg one0]
      exact ⟨_, _, _, rfl, rfl, hR⟩
    · rw [if_neg h2, bI_f h2, if_pos rfl]
      by_cases h3 : ∃ a, i = nI a ∧ a < L
      · obtain ⟨a, rfl, ha⟩ := h3
        rw [bI_t (show 0 ≤ nI a ∧ 0 ≤ (1 : Int32) ∧ 1 ≤ nI L ∧ nI a ≤ nI L - 1 from (run_iff hL).mpr ⟨a, 1, rfl, rfl, by omega⟩), if_neg one0, bI_t (show 0 ≤ nI a ∧ nI a ≤ nI L - 1 from ⟨nI_pos' (by omega), by rw [nI_s1 (by omega)]; exact nI_le (by omega) (by omega)⟩), if_neg one0]
        unfold f_St_put f_St_put_37 f_M_cell_84
        simp only [zin_n (show s < 4 by omega) (show 4 < 2 ^ 31 by decide), nI_clamp (show s < 2 ^ 31 by omega), e30, zrw_i (show 37 ≤ 37 + s ∧ 37 + s < 41 by omega), zin_n (show a < 40 by omega) (show 40 < 2 ^ 31 by decide), nI_40, zin_n (show 40 * s + a < 160 by omega) (show 160 < 2 ^ 31 by decide), zlt_s]
        by_cases h4 : τ.2 19 s = 0
        · rw [if_pos h4, if_pos h4]
          exact ⟨_, _, _, rfl, rfl, put_R hR (by omega) (by omega)⟩
        · rw [if_neg h4, if_neg h4]
          by_cases h5 : τ.2 19 s = 1
          · rw [if_pos h5, if_pos h5]
            exact ⟨_, _, _, rfl, rfl, put_R hR (by omega) (by omega)⟩
          · rw [if_neg h5, if_neg h5]
            exact ⟨_, _, _, rfl, rfl, put_R hR (by omega) (by omega)⟩
      · rw [bI_f (fun q => ?_), if_pos rfl, bI_f (fun q => ?_), if_pos rfl]
        · exact ⟨_, _, _, rfl, rfl, hR⟩
        · obtain ⟨q1, q2⟩ := q
          apply h3
          by_cases hL0 : L = 0
          · subst hL0
            have := Int32.le_trans q1 q2
            exact absurd this (by decide)
          · rw [nI_s1 (by omega)] at q2
            obtain ⟨a, ha, rfl⟩ := bd_of (N := L - 1) (by omega) ⟨q1, q2⟩
            exact ⟨a, rfl, by omega⟩
        · obtain ⟨a, b, rfl, hb, hab⟩ := (run_iff hL).mp q
          apply h3
          have hb1 : b = 1 := by
            have : nI 1 = nI b := hb
            exact ((nI_eq (by decide) (by omega)).mp this).symm
          exact ⟨a, rfl, by omega⟩
  · rw [bI_f h1]
    simp only [if_true]
    exact ⟨_, _, _, rfl, rfl, hR⟩
/-- the reference copies in the way that nothing is lost -/
theorem m_copyL {τ : zS} {c : Nat → Int32} {a b n : Nat} (ha : a + n ≤ 160) (hb : b + n ≤ 160) : ∀ (r k f : Nat) (g : Nat → Int32), k + r = n → r < f → (∀ j, g j = if a < b then (if b + (n - k) ≤ j ∧ j < b + n then c (a + (j - b)) else c j) else (if b ≤ j ∧ j < b + k then c (a + (j - b)) else c j)) → ∃ g', f_M_copy_147 f (nI n) (nI a) (nI b) (nI k) (wv τ 21 g) = some (nI n, wv τ 21 g') ∧ ∀ j, g' j = if b ≤ j ∧ j < b + n then c (a + (j - b)) else c j := by
  intro r
  induction r with
  | zero =>
    intro k f g hk hf hg
    obtain ⟨f, rfl⟩ : ∃ m, f = m + 1 := ⟨f - 1, by omega⟩
    refine ⟨g, ?_, fun j => ?_⟩
    · show f_M_copy_147b _ _ _ _ _ _ = _
      unfold f_M_copy_147b
      rw [if_pos (nI_le (by omega) (by omega))]
    · rw [hg j, show n - k = 0 by omega, show k = n by omega]
      split <;> rfl
  | succ r ih =>
    intro k f g hk hf hg
    obtain ⟨f, rfl⟩ : ∃ m, f = m + 1 := ⟨f - 1, by omega⟩
    have e0 : f_M_copy_147 (f + 1) (nI n) (nI a) (nI b) (nI k) (wv τ 21 g) = f_M_copy_147b (fun x5 x6 x7 x8 σ => f_M_copy_147 f x5 x6 x7 x8 σ) (nI n) (nI a) (nI b) (nI k) (wv τ 21 g) := rfl
    rw [e0]
    unfold f_M_copy_147b f_M_copy_173
    rw [if_neg (nI_ge (by omega) (by omega))]
    by_cases hab : a < b
    · rw [if_neg (nI_ge hab (by omega)), nI_s1 (by omega), nI_sub (by omega), nI_add, nI_add, zin_n (by omega) (by decide), zin_n (by omega) (by decide), zlt_s, nI_clamp (by omega), zsa_wv _ _ _ _ (by omega), wv_q, nI_1]
      refine ih (k + 1) f _ (by omega) (by omega) (fun j => ?_)
      rw [if_pos hab]
      unfold upd
      by_cases hj : j = b + (n - 1 - k)
      · rw [if_pos hj, if_pos (by omega), hg, if_pos hab, if_neg (by omega)]
        congr 1
        omega
      · rw [if_neg hj, hg, if_pos hab]
        by_cases hj2 : b + (n - k) ≤ j ∧ j < b + n
        · rw [if_pos hj2, if_pos (by omega)]
        · rw [if_neg hj2, if_neg (by omega)]
    · rw [if_pos (nI_le (by omega) (by omega)), nI_add, nI_add, zin_n (by omega) (by decide), zin_n (by omega) (by decide), zlt_s, nI_clamp (by omega), zsa_wv _ _ _ _ (by omega), wv_q, nI_1]
      refine ih (k + 1) f _ (by omega) (by omega) (fun j => ?_)
      rw [if_neg hab]
      unfold upd
      by_cases hj : j = b + k
      · rw [if_pos hj, if_pos (by omega), hg, if_neg hab, if_neg (by omega)]
        congr 1
        omega
      · rw [if_neg hj, hg, if_neg hab]
        by_cases hj2 : b ≤ j ∧ j < b + k
        · rw [if_pos hj2, if_pos (by omega)]
        · rw [if_neg hj2, if_neg (by omega)]
theorem copy_R {σ τ : zS} {s o i j n : Nat} {g : Nat → Int32} (hR : R σ τ) (hs : s < 4) (ho : o < 4) (hi : i + n ≤ 40) (hj : j + n ≤ 40) (hg : ∀ k, g k = if 40 * o + j ≤ k ∧ k < 40 * o + j + n then τ.2 21 (40 * s + i + (k - (40 * o + j))) else τ.2 21 k) : R (zsc σ (37 + s) (37 + o) (nI i) (nI j) (nI n)) (wv τ 21 g) := by
  obtain ⟨a1, a2, a3, a4⟩ := G10_row.mp hR.2.2.2.2.2.2.2.2.2
  have hne : ∀ q, q ≠ 37 + o → (zsc σ (37 + s) (37 + o) (nI i) (nI j) (nI n)).2 q = σ.2 q := by
    intro q hq
    show va_up _ _ _ q = _
    unfold va_up
    rw [if_neg hq]
  refine R_10 hR rfl (fun q q1 q2 q3 => hne q (by omega)) rfl ?_ (G10_row.mpr ⟨?_, ?_, a3, ?_⟩)
  · intro q q1 q2 q3
    exact wv_ne τ g q3
  · rw [hne 30 (by omega)]; exact a1
  · rw [hne 31 (by omega)]; exact a2
  · intro t ht k hk
    rw [wv_q, hg]
    by_cases hto : t = o
    · subst hto
      have e : (zsc σ (37 + s) (37 + t) (nI i) (nI j) (nI n)).2 (37 + t) = va_cpy (σ.2 (37 + s)) (σ.2 (37 + t)) i j n := by
        show va_up _ _ _ _ = _
        unfold va_up
        rw [if_pos rfl, nI_clamp (by omega), nI_clamp (by omega), nI_clamp (by omega)]
      rw [e]
      by_cases hk2 : j ≤ k ∧ k < j + n
      · rw [pk_cpy_in hk2.1 hk2.2, if_pos (by omega), a4 s hs _ (by omega)]
        exact congrArg (τ.2 21) (by omega)
      · rw [pk_cpy_out (by omega), if_neg (by omega), a4 t ht k hk]
    · rw [hne _ (by omega), if_neg (by omega)]
      exact a4 t ht k hk
theorem sim_copy : @zSim (Int32 × Int32 × Int32 × Int32 × Int32) R (fun a => f_X_copy a.1 a.2.1 a.2.2.1 a.2.2.2.1 a.2.2.2.2) (fun a => f_M_copy a.1 a.2.1 a.2.2.1 a.2.2.2.1 a.2.2.2.2) := by
  intro ⟨x, i, y, j, n⟩ σ τ hR
  dsimp only
  unfold f_X_copy f_M_copy
  rw [x_isSheet, m_in, zbd_s, zbd_s]
  by_cases h1 : 0 ≤ x ∧ x ≤ 3
  · rw [bI_t h1]
    simp only [if_neg one0]
    obtain ⟨s, hs, rfl⟩ := bd_of (N := 3) (by decide) h1
    rw [x_isSheet, m_in, zbd_s, zbd_s]
    by_cases h2 : 0 ≤ y ∧ y ≤ 3
    · rw [bI_t h2]
      simp only [if_neg one0]
      obtain ⟨o, ho, rfl⟩ := bd_of (N := 3) (by decide) h2
      obtain ⟨a1, a2, a3, a4⟩ := G10_row.mp hR.2.2.2.2.2.2.2.2.2
      obtain ⟨⟨L, hL, eL⟩, -⟩ := a3 s (by omega)
      obtain ⟨⟨P, hP, eP⟩, -⟩ := a3 o (by omega)
      have eL' : σ.2 31 s = nI L := by rw [a2 s (by omega), eL]
      have eP' : σ.2 31 o = nI P := by rw [a2 o (by omega), eP]
      have e30 := a1 s (by omega)
      have e30' := a1 o (by omega)
      simp only [zin_n (show s < 4 by omega) (show 4 < 2 ^ 31 by decide), nI_clamp (show s < 2 ^ 31 by omega), zin_n (show o < 4 by omega) (show 4 < 2 ^ 31 by decide), nI_clamp (show o < 2 ^ 31 by omega), x_isMissing (show s < 4 by omega), x_isMissing (show o < 4 by omega), zbd_s, e30, e30', eL, eP, x_hasRun (show s < 4 by omega) eL', x_hasRun (show o < 4 by omega) eP', zrw_i (show 37 ≤ 37 + s ∧ 37 + s < 41 by omega), zrw_i (show 37 ≤ 37 + o ∧ 37 + o < 41 by omega), zlt_s]
      by_cases h3 : τ.2 19 s = -1
      · rw [if_pos h3, bI_t h3, if_neg one0]
        exact ⟨_, _, _, rfl, rfl, hR⟩
      · rw [if_neg h3, bI_f h3, if_pos rfl]
        by_cases h4 : τ.2 19 o = -1
        · rw [if_pos h4, bI_t h4, if_neg one0]
          exact ⟨_, _, _, rfl, rfl, hR⟩
        · rw [if_neg h4, bI_f h4, if_pos rfl]
          by_cases h5 : τ.2 19 s = τ.2 19 o
          · rw [if_pos h5, if_pos h5]
            by_cases h6 : (0 ≤ i ∧ 0 ≤ n ∧ n ≤ nI L ∧ i ≤ nI L - n) ∧ (0 ≤ j ∧ 0 ≤ n ∧ n ≤ nI P ∧ j ≤ nI P - n)
            · rw [bI_t h6.1, if_neg one0, bI_t h6.2, if_neg one0]
              obtain ⟨a, d, rfl, rfl, had⟩ := (run_iff hL).mp h6.1
              obtain ⟨b, d', rfl, hd', hbd⟩ := (run_iff hP).mp h6.2
              have hdd : d = d' := (nI_eq (by omega) (by omega)).mp hd'
              subst hdd
              rw [if_neg (nI_pos (by omega)), if_neg (nI_pos (by omega)), if_neg (nI_pos (by omega)), if_neg (nI_nlt (by omega) (by omega)), if_neg (nI_nlt (by omega) (by omega)), nI_sub (by omega), if_neg (nI_nlt (by omega) (by omega)), nI_sub (by omega), if_pos (nI_le (by omega) (by omega)), nI_40, nI_40]
              obtain ⟨g', k1, k2⟩ := m_copyL (τ := τ) (c := τ.2 21) (a := 40 * s + a) (b := 40 * o + b) (n := d) (by omega) (by omega) d 0 zfu (τ.2 21) (by omega) (show d < 18446744073709551616 by omega) (fun j => by split <;> rw [if_neg (by omega)])
              rw [wv_self] at k1
              rw [show (0 : Int32) = nI 0 from rfl, k1]
              unfold zcp
              rw [if_neg (by
                rw [nI_clamp (by omega), nI_clamp (by omega), nI_clamp (by omega)]
                rintro (q | q | q | q | q)
                · exact nI_pos (by omega) q
                · exact nI_pos (by omega) q
                · exact nI_pos (by omega) q
                · omega
                · omega)]
              exact ⟨_, _, _, rfl, rfl, copy_R hR (by omega) (by omega) (by omega) (by omega) k2⟩
            · have eX : (if bI (0 ≤ i ∧ 0 ≤ n ∧ n ≤ nI L ∧ i ≤ nI L - n) = 0 then some ((-12 : Int32), σ) else if bI (0 ≤ j ∧ 0 ≤ n ∧ n ≤ nI P ∧ j ≤ nI P - n) = 0 then some (-12, σ) else zcp i j n 40 40 (some (n, zsc σ (37 + s) (37 + o) i j n))) = some (-12, σ) := by
                by_cases q1 : 0 ≤ i ∧ 0 ≤ n ∧ n ≤ nI L ∧ i ≤ nI L - n
                · rw [bI_t q1, if_neg one0, bI_f (fun q => h6 ⟨q1, q⟩), if_pos rfl]
                · rw [bI_f q1, if_pos rfl]
              rw [eX]
              refine ⟨-12, σ, τ, rfl, ?_, hR⟩
              by_cases c1 : n < 0
              · rw [if_pos c1]
              rw [if_neg c1]
              by_cases c2 : i < 0
              · rw [if_pos c2]
              rw [if_neg c2]
              by_cases c3 : j < 0
              · rw [if_pos c3]
              rw [if_neg c3]
              by_cases c4 : nI L < i
              · rw [if_pos c4]
              rw [if_neg c4]
              by_cases c5 : nI P < j
              · rw [if_pos c5]
              rw [if_neg c5]
              by_cases c6 : nI L - i < n
              · rw [if_pos c6]
              rw [if_neg c6]
              by_cases c7 : n ≤ nI P - j
              · exfalso
                apply h6
                obtain ⟨a, ha, rfl⟩ := bd_of (N := L) (by omega) ⟨Int32.not_lt.mp c2, Int32.not_lt.mp c4⟩
                obtain ⟨b, hb, rfl⟩ := bd_of (N := P) (by omega) ⟨Int32.not_lt.mp c3, Int32.not_lt.mp c5⟩
                rw [nI_sub hb] at c7
                obtain ⟨d, hd, rfl⟩ := bd_of (N := P - b) (by omega) ⟨Int32.not_lt.mp c1, c7⟩
                rw [nI_sub ha] at c6
                have hd2 : d ≤ L - a := by
                  have := Int32.not_lt.mp c6
                  exact (nI_leI (by omega) (by omega)).mp this
                exact ⟨(run_iff hL).mpr ⟨a, d, rfl, rfl, by omega⟩, (run_iff hP).mpr ⟨b, d, rfl, rfl, by omega⟩⟩
              · rw [if_neg c7]
          · rw [if_neg h5, if_neg h5]
            exact ⟨_, _, _, rfl, rfl, hR⟩
    · rw [bI_f h2]
      simp only [if_true]
      exact ⟨_, _, _, rfl, rfl, hR⟩
  · rw [bI_f h1]
    simp only [if_true]
    exact ⟨_, _, _, rfl, rfl, hR⟩
