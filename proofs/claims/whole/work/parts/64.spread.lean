/-! ===== the reference's spread ===== -/
theorem m_s62 {τ : zS} {fr : Nat} {d : Nat → Nat} {w : Nat → Bool} {we no : Nat → Nat} (k62 : zS → Option (Int32 × zS)) (hC : CMx τ we no) (hB : cbd we no) (h : RGx τ fr d w) (hm : 0 < ctq w 1600) : ∃ (u : Nat) (τ' : zS) (d' : Nat → Nat) (w0 w' : Nat → Bool) (fr' : Nat), u < 1600 ∧ w u = true ∧ w0 = ub w u false ∧ f_M_spreads_62b k62 τ = k62 τ' ∧ RGx τ' fr' d' w' ∧ RLx we no u (fun _ => True) d w0 d' w' ∧ ms5 τ τ' ∧ ctq w0 1600 + 1 = ctq w 1600 := by
  obtain ⟨hA, hW, hf, hf1, hm1, q, hq, hi⟩ := h
  have hle := ctq_le w 1600
  have h0 := hq 0 hm
  rw [Nat.add_zero, Nat.mod_eq_of_lt hf1] at h0
  obtain ⟨u, hu⟩ : ∃ u, u = q 0 := ⟨q 0, rfl⟩
  rw [← hu] at h0
  obtain ⟨h01, h02, h03⟩ := h0
  have hdn := ctq_dn (n := 1600) h02 h03
  unfold f_M_spreads_62b
  rw [hm1, if_neg (nI_nle hm (by omega)), hf, zin_n hf1 (by decide), zlt_s, nI_clamp (by omega), h01, zlt_s, nI_1, show zrem (nI (fr + 1)) 1600 = nI ((fr + 1) % 1600) from pk_rem (d := 1600) (by omega) (by decide) (by decide)]
  have e58 : (zsg τ 57 (nI ((fr + 1) % 1600))).1 58 = nI (ctq w 1600) := hm1
  rw [e58, nI_s1 (by omega), zlt_s, zin_n h02 (by decide), zlt_s, zlt_s, zlt_s, zrem_n (by omega), zdiv_n (by omega)]
  obtain ⟨ix, hix⟩ : ∃ x, x = (fr + 1) % 1600 := ⟨_, rfl⟩
  rw [← hix]
  have hix2 : ix < 1600 := by omega
  generalize hτ4 : zsa (zsg (zsg τ 57 (nI ix)) 58 (nI (ctq w 1600 - 1))) 30 (nI u) (vp_nar .boolean 0) = τ4
  have hms : ms5 τ τ4 := by rw [← hτ4]; exact ms5_a (ms5_g (ms5_g ms5_rfl (by omega)) (by omega)) (by omega)
  have hG : RGx τ4 ix d (ub w u false) := by
    refine ⟨?_, ?_, ?_, by omega, ?_, fun i => q (i + 1), ?_, ?_⟩
    · rw [← hτ4, zsa_n (by decide), zg2, zg2]; exact hA
    · intro i hi'
      rw [← hτ4, zsa_q (by omega), zg2, zg2]
      unfold upd ub
      by_cases e : i = u
      · rw [if_pos e, if_pos e]; rfl
      · rw [if_neg e, if_neg e]; exact hW i hi'
    · rw [← hτ4]; rfl
    · rw [← hτ4, show ctq (ub w u false) 1600 = ctq w 1600 - 1 by omega]; rfl
    · intro i hi'
      have k := hq (i + 1) (by omega)
      refine ⟨?_, k.2.1, ?_⟩
      · rw [← hτ4, zsa_n (by decide), zg2, zg2, show (ix + i) % 1600 = (fr + (i + 1)) % 1600 by omega]
        exact k.1
      · show (if q (i + 1) = u then false else w (q (i + 1))) = true
        rw [if_neg (fun e => absurd (hi (i + 1) 0 (by omega) hm (by rw [e, hu])) (by omega))]
        exact k.2.2
    · intro i j hi' hj' e
      have := hi (i + 1) (j + 1) (by omega) (by omega) e
      omega
  by_cases hy : u / 40 = 0
  · rw [if_pos (show nI (u / 40) ≤ 0 by rw [hy]; decide)]
    obtain ⟨τ', d', w', k1, k2, k3, k4⟩ := m_s143 k62 (CMx_s hms hC) hB hG h02
    refine ⟨u, τ', d', _, w', _, h02, h03, rfl, k1, k2, ?_, ms5_tr hms k4, hdn⟩
    obtain ⟨r1, r2, r3, r4, r5, r6, r7⟩ := k3
    exact ⟨r1, r2, r3, r4, r5, r6, fun v c he _ => r7 v c he (by obtain ⟨_, _, h1⟩ := he; omega)⟩
  · rw [if_neg (nI_nle (by omega) (by omega)), (CMx_s hms hC τ4 rfl (fun _ _ => rfl) (u % 40) (u / 40) (by omega) (by omega)).2, show 40 * (u / 40) + u % 40 = u by omega, zbd_s]
    have he : edg we no u (u - 40) (no u) := ⟨h02, by omega, Or.inr (Or.inr (Or.inr ⟨by omega, rfl⟩))⟩
    obtain ⟨τ1, d1, w1, k1, k2, k3, k4⟩ := m_tries hG he (hB u h02).2.2.2 (hB u h02).2.2.1
    dsimp only
    rw [s40 (by omega), k1, zbd_s]
    obtain ⟨τ', d', w', q1, q2, q3, q4⟩ := m_s143 k62 (CMx_s (ms5_tr hms k4) hC) hB k2 h02
    refine ⟨u, τ', d', _, w', _, h02, h03, rfl, q1, q2, ?_, ms5_tr (ms5_tr hms k4) q4, hdn⟩
    obtain ⟨r1, r2, r3, r4, r5, r6, r7⟩ := RLx_tr (S := fun x => x = u - 40 ∨ x = u + 1 ∨ x + 1 = u ∨ x = u + 40) k3 q3 (fun v hv => hv)
    exact ⟨r1, r2, r3, r4, r5, r6, fun v c he _ => r7 v c he (by obtain ⟨_, _, h1⟩ := he; omega)⟩
theorem m_sprL {τ0 : zS} {we no : Nat → Nat} {s : Nat} (hC : CMx τ0 we no) (hB : cbd we no) : ∀ (f : Nat) (τ : zS) (fr : Nat) (d : Nat → Nat) (w : Nat → Bool), ms5 τ0 τ → RGx τ fr d w → d s = 0 → (∀ a, a < 1600 → w a = false → ∀ v c, edg we no a v c → d v ≤ d a + c) → sou we no s d → 2 * sm d 1600 + ctq w 1600 < f → ∃ (τ' : zS) (D : Nat → Nat), f_M_spreads_62 f τ = some (0, τ') ∧ ms5 τ0 τ' ∧ few we no s D ∧ ∀ i, i < 1600 → τ'.2 28 i = nI (D i) := by
  intro f
  induction f with
  | zero =>
    intro τ fr d w _ _ _ _ _ hf
    exact absurd hf (Nat.not_lt_zero _)
  | succ f ih =>
    intro τ fr d w hms hG hs hst hso hf
    by_cases hm : ctq w 1600 = 0
    · refine ⟨τ, d, ?_, hms, ⟨fun u v c he => hst u he.1 (ctq_0 1600 hm u he.1) v c he, hs, fun v hv => (hG.1 v hv).2, hso⟩, fun i hi => (hG.1 i hi).1⟩
      show f_M_spreads_62b _ _ = _
      unfold f_M_spreads_62b
      rw [hG.2.2.2.2.1, hm, if_pos (show nI 0 ≤ 0 by decide)]
    · obtain ⟨u, τ', d', w0, w', fr', h1, h2, rfl, h4, h5, ⟨r1, r2, r3, r4, r5, r6, r7⟩, h7, h8⟩ := m_s62 (fun σ => f_M_spreads_62 f σ) (CMx_s hms hC) hB hG (by omega)
      obtain ⟨τ2, D, k1, k2, k3, k4⟩ := ih τ' fr' d' w' (ms5_tr hms h7) h5 (by have := r1 s; omega) (fun a ha hw v c he => by
        have hda : d' a = d a := by
          by_cases e : d' a = d a
          · exact e
          · rw [r4 a e] at hw; exact absurd hw (by decide)
        by_cases e : a = u
        · subst e
          rw [r2]; exact r7 v c he trivial
        · have hwa : w a = false := by
            by_cases e2 : w a = true
            · have := r3 a (by show (if a = u then false else w a) = true; rw [if_neg e]; exact e2)
              rw [this] at hw; exact absurd hw (by decide)
            · exact Bool.eq_false_iff.mpr e2
          have h9 := hst a ha hwa v c he
          have := r1 v
          omega) (fun E q1 q2 q3 => r6 E q1 (hso E q1 q2 q3)) (by omega)
      refine ⟨τ2, D, ?_, k2, k3, k4⟩
      show f_M_spreads_62b _ _ = _
      rw [h4]
      exact k1
def sprT (s : Nat) (σ : zS) : Option (Int32 × zS) :=
  zin (nI s) 1600 (zlt (zsa σ 28 (nI s) 0) fun σ1 =>
  zlt (zsg σ1 57 0) fun σ2 =>
  zlt (zsg σ2 58 1) fun σ3 =>
  zin 0 1600 (zlt (zsa σ3 29 0 (nI s)) fun σ4 =>
  zin (nI s) 1600 (zlt (zsa σ4 30 (nI s) (vp_nar .boolean 1)) fun σ5 =>
  f_M_spreads_62 zfu σ5)))
theorem m_spr2 {τ : zS} {s : Nat} : ∀ (r p f : Nat) (τ' : zS), p + r = 1600 → r < f → ms5 τ τ' → (∀ j, j < p → τ'.2 28 j = 1000000000 ∧ τ'.2 30 j = 0) → ∃ τ'', f_M_spreads_2 f (nI s) (nI p) τ' = sprT s τ'' ∧ ms5 τ τ'' ∧ ∀ j, j < 1600 → τ''.2 28 j = 1000000000 ∧ τ''.2 30 j = 0 := by
  intro r
  induction r with
  | zero =>
    intro p f τ' hp hf hms h
    obtain ⟨f, rfl⟩ : ∃ m, f = m + 1 := ⟨f - 1, by omega⟩
    refine ⟨τ', ?_, hms, fun j hj => h j (by omega)⟩
    show f_M_spreads_2b _ _ _ _ = _
    unfold f_M_spreads_2b
    rw [if_pos (show (1600 : Int32) ≤ nI p from nI_le (show 1600 ≤ p by omega) (by omega))]
    rfl
  | succ r ih =>
    intro p f τ' hp hf hms h
    obtain ⟨f, rfl⟩ : ∃ m, f = m + 1 := ⟨f - 1, by omega⟩
    have e0 : f_M_spreads_2 (f + 1) (nI s) (nI p) τ' = f_M_spreads_2b (fun x1 x2 σ => f_M_spreads_2 f x1 x2 σ) (nI s) (nI p) τ' := rfl
    rw [e0]
    unfold f_M_spreads_2b
    rw [if_neg (show ¬ (1600 : Int32) ≤ nI p from nI_ge (show p < 1600 by omega) (by decide)), zin_n (by omega) (by decide), zlt_s, zin_n (by omega) (by decide), zlt_s, nI_1]
    refine ih (p + 1) f _ (by omega) (by omega) (ms5_a (ms5_a hms (by omega)) (by omega)) (fun j hj => ?_)
    have e28 : (zsa (zsa τ' 28 (nI p) 1000000000) 30 (nI p) (vp_nar .boolean 0)).2 28 = upd (τ'.2 28) p 1000000000 := by
      rw [zsa_n (by decide), zsa_q (by omega)]
    have e30 : (zsa (zsa τ' 28 (nI p) 1000000000) 30 (nI p) (vp_nar .boolean 0)).2 30 = upd (τ'.2 30) p 0 := by
      rw [zsa_q (by omega), zsa_n (by decide), show vp_nar .boolean 0 = (0 : Int32) from rfl]
    rw [e28, e30]
    unfold upd
    by_cases e : j = p
    · rw [if_pos e, if_pos e]; exact ⟨rfl, rfl⟩
    · rw [if_neg e, if_neg e]; exact h j (by omega)
/-- the fewest from a place on, in the reference -/
theorem m_spreads {τ : zS} {we no : Nat → Nat} {s : Nat} (hC : CMx τ we no) (hB : cbd we no) (hs : s < 1600) : ∃ (τ' : zS) (D : Nat → Nat), f_M_spreads (nI s) τ = some (0, τ') ∧ ms5 τ τ' ∧ few we no s D ∧ ∀ i, i < 1600 → τ'.2 28 i = nI (D i) := by
  obtain ⟨τ1, k1, k2, k3⟩ := m_spr2 (τ := τ) (s := s) 1600 0 zfu τ (by omega) (by decide) ms5_rfl (fun j hj => absurd hj (Nat.not_lt_zero j))
  have k1' : f_M_spreads (nI s) τ = sprT s τ1 := k1
  rw [k1']
  unfold sprT
  rw [zin_n hs (by decide), zlt_s, zlt_s, zlt_s, show (zin 0 1600 : Option (Int32 × zS) → Option (Int32 × zS)) = zin (nI 0) 1600 from rfl, zin_n (by decide) (by decide), zlt_s, zin_n hs (by decide), zlt_s]
  generalize hτ5 : zsa (zsa (zsg (zsg (zsa τ1 28 (nI s) 0) 57 0) 58 1) 29 0 (nI s)) 30 (nI s) (vp_nar .boolean 1) = τ5
  have hms : ms5 τ τ5 := by rw [← hτ5]; exact ms5_a (ms5_a (ms5_g (ms5_g (ms5_a k2 (by omega)) (by omega)) (by omega)) (by omega)) (by omega)
  have z0 : ∀ n, ctq (fun _ => false) n = 0 := by
    intro n
    induction n with
    | zero => rfl
    | succ n ih => show ctq _ n + _ = 0; rw [ih]; rfl
  have hc1 : ctq (ub (fun _ => false) s true) 1600 = 1 := by rw [ctq_up 1600 hs rfl, z0]
  have hG : RGx τ5 0 (fun i => if i = s then 0 else 1000000000) (ub (fun _ => false) s true) := by
    refine ⟨fun i hi => ?_, fun i hi => ?_, ?_, by omega, ?_, fun _ => s, fun i hi => ?_, fun i j hi hj _ => ?_⟩
    · have : τ5.2 28 = upd (τ1.2 28) s 0 := by
        rw [← hτ5, zsa_n (by decide), zsa_n (by decide), zg2, zg2, zsa_q (by omega)]
      rw [this]
      unfold upd
      show _ = nI (if i = s then 0 else 1000000000) ∧ (if i = s then 0 else 1000000000) ≤ _
      by_cases e : i = s
      · rw [if_pos e, if_pos e]; exact ⟨rfl, by omega⟩
      · rw [if_neg e, if_neg e, (k3 i hi).1]; exact ⟨rfl, by omega⟩
    · have : τ5.2 30 = upd (τ1.2 30) s 1 := by rw [← hτ5, zsa_q (by omega), zsa_n (by decide), zg2, zg2, zsa_n (by decide), show vp_nar .boolean 1 = (1 : Int32) from rfl]
      rw [this]
      unfold upd ub
      by_cases e : i = s
      · rw [if_pos e, if_pos e]; rfl
      · rw [if_neg e, if_neg e, (k3 i hi).2]; rfl
    · rw [← hτ5]; rfl
    · rw [← hτ5, hc1]; rfl
    · rw [hc1] at hi
      have hi0 : i = 0 := by omega
      subst hi0
      refine ⟨?_, hs, if_pos rfl⟩
      rw [← hτ5, zsa_n (by decide), show (0 : Int32) = nI 0 from rfl, zsa_q (by decide)]
      exact if_pos rfl
    · rw [hc1] at hi hj
      omega
  refine m_sprL hC hB zfu τ5 0 _ _ hms hG (if_pos rfl) (fun a ha hw v c he => ?_) (fun E q1 q2 q3 v hv => ?_) ?_
  · have : ¬ a = s := by
      intro e
      rw [e] at hw
      have h2 : ub (fun _ => false) s true s = true := if_pos rfl
      rw [h2] at hw
      exact absurd hw (by decide)
    show (if v = s then 0 else 1000000000) ≤ (if a = s then 0 else 1000000000) + c
    rw [if_neg this]
    split <;> omega
  · show E v ≤ if v = s then 0 else 1000000000
    by_cases e : v = s
    · rw [if_pos e, e, q2]; omega
    · rw [if_neg e]; exact q3 v hv
  · have h1 := sm_bd (d := fun i => if i = s then 0 else 1000000000) (B := 1000000000) 1600 (fun i _ => by show (if _ then _ else _) ≤ _; split <;> omega)
    rw [hc1]
    unfold zfu
    omega
