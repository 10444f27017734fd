theorem nI_c (n : Nat) : (OfNat.ofNat n : Int32) = nI n := rfl
theorem nI_mul (a b : Nat) : nI a * nI b = nI (a * b) := pk_mul a b
theorem nI_s1 {d : Nat} (h : 1 ≤ d) : nI d - 1 = nI (d - 1) := pk_sub (b := 1) h
theorem nI_a1 {d : Nat} (h : 1 ≤ d) : nI d + (-1) = nI (d - 1) := by
  obtain ⟨e, rfl⟩ : ∃ e, d = e + 1 := ⟨d - 1, by omega⟩
  rw [pk_m1]
  rfl
theorem nI_100 (q : Nat) : nI (100000 + q) - 100000 = nI q := by
  have h := pk_sub (a := 100000 + q) (b := 100000) (Nat.le_add_right _ _)
  rw [Nat.add_sub_cancel_left] at h
  exact h
theorem m_wstep {k : Int32 → Int32 → Int32 → zS → Option (Int32 × zS)} {σ : zS} {f : Nat → Int32} {p d s j e t q : Nat} (hp : p < 2) (ht : σ.1 24 = nI t) (ht6 : t < 6) (he : σ.2 16 (4 * t + p + 1) = nI e) (hs : s + j < e) (he2 : e ≤ 200) (hc : σ.2 15 (200 * t + (s + j)) = mc q) (hv : vd q) (ho : okd q d) (hd : d ≤ 31) : f_M_worth_16b k (nI p) (nI d) (nI (s + j)) (m24 σ f) = k (nI p) (nI (sd q d)) (nI (s + j + 1)) (m24 σ (sf q (σ.2 25) d f)) := by
  unfold f_M_worth_16b
  have e1 : (m24 σ f).1 24 = nI t := ht
  have e2 : (4 * nI t + nI p) + 1 = nI (4 * t + p + 1) := by rw [show (4 : Int32) = nI 4 from rfl, nI_mul, nI_add, nI_1]
  have e3 : 200 * nI t + nI (s + j) = nI (200 * t + (s + j)) := by rw [show (200 : Int32) = nI 200 from rfl, nI_mul, nI_add]
  rw [e1, e2, e3, zin_n (by omega) (by decide), nI_clamp (by omega), m24_ne σ f (by decide), he, if_neg (nI_ge hs (by omega)), zin_n (by omega) (by decide), nI_clamp (by omega), m24_ne σ f (by decide), hc, zlt_s]
  have hk : ∀ (x : Nat) (g : Nat → Int32), f_M_worth_191 k (nI p) (nI x) (nI (s + j)) (m24 σ g) = k (nI p) (nI x) (nI (s + j + 1)) (m24 σ g) := fun x g => by
    unfold f_M_worth_191
    rw [nI_1]
  have h93 : ∀ v : Int32, d < 200 → f_M_worth_93 k (nI p) (nI d) (nI (s + j)) (nI d) v (m24 σ f) = k (nI p) (nI (d + 1)) (nI (s + j + 1)) (m24 σ (upd f d v)) := fun v hd => by
    unfold f_M_worth_93
    rw [zin_n hd (by decide), zlt_s, zsa_m24 v (by omega), m24_24, m24_m24, nI_1, hk]
  unfold sd sf okd at *
  by_cases h1 : q < 10000
  · have h2 : q < 20000 := by omega
    simp only [h2, h1, if_true] at ho ⊢
    have em : mc q = nI (100000 + q) := by unfold mc; rw [if_pos h1]
    rw [em, if_pos (show (100000 : Int32) ≤ nI (100000 + q) from nI_le (a := 100000) (by omega) (by omega))]
    unfold f_M_worth_66
    rw [if_pos (show (11 : Int32) ≤ nI (100000 + q) from nI_le (a := 11) (by omega) (by omega)), nI_100 q, h93 _ (by omega)]
  · by_cases h2 : q < 20000
    · simp only [h2, h1, if_true, if_false] at ho ⊢
      have h3 : q < 10006 := by unfold vd at hv; omega
      have em : mc q = nI (q - 10000) := by unfold mc; rw [if_neg h1, if_pos h2]
      rw [em, if_neg (show ¬ (100000 : Int32) ≤ nI (q - 10000) from nI_ge (b := 100000) (by omega) (by decide)), if_neg (show ¬ (11 : Int32) ≤ nI (q - 10000) from nI_ge (b := 11) (by omega) (by decide))]
      unfold f_M_worth_66
      rw [if_neg (show ¬ (11 : Int32) ≤ nI (q - 10000) from nI_ge (b := 11) (by omega) (by decide)), zin_n (by omega) (by decide), h93 _ (by omega), nI_clamp (by omega), m24_ne σ f (by decide)]
    · simp only [h2, if_false] at ho ⊢
      have h3 : 20000 ≤ q ∧ q < 20009 := by unfold vd at hv; omega
      by_cases h4 : q < 20002
      · simp only [h4, if_true] at ho ⊢
        rcases (show q = 20000 ∨ q = 20001 by omega) with rfl | rfl
        · rw [show mc 20000 = 13 from rfl, if_neg (by decide), if_pos (by decide), if_pos rfl, nI_s1 ho, zin_n (by omega) (by decide), nI_clamp (by omega), m24_24]
          unfold f_M_worth_130
          simp only [if_true, zin_n (show d - 1 < 200 by omega) (by decide), zlt_s, zsa_m24 _ (show d - 1 < 2 ^ 31 by omega), m24_24, m24_m24, hk]
          split <;> rfl
        · rw [show mc 20001 = 19 from rfl, if_neg (by decide), if_pos (by decide), if_neg (by decide), if_pos rfl, nI_s1 ho, zin_n (by omega) (by decide), zin_n (by omega) (by decide), zlt_s, nI_clamp (by omega), zsa_m24 _ (by omega), m24_24, m24_m24, hk, if_neg (by decide), if_pos rfl]
      · simp only [h4, if_false] at ho ⊢
        have hm : mc q = ([13, 19, 11, 12, 14, 15, 16, 17, 18] : List Int32).getD (q - 20000) 0 := by unfold mc; rw [if_neg h1, if_neg h2]
        have g1 : ¬ (100000 : Int32) ≤ mc q ∧ (11 : Int32) ≤ mc q ∧ ¬ mc q = 13 ∧ ¬ mc q = 19 := by
          rw [hm]
          rcases (show q = 20002 ∨ q = 20003 ∨ q = 20004 ∨ q = 20005 ∨ q = 20006 ∨ q = 20007 ∨ q = 20008 by omega) with rfl | rfl | rfl | rfl | rfl | rfl | rfl <;> decide
        rw [if_neg g1.1, if_pos g1.2.1, if_neg g1.2.2.1, if_neg g1.2.2.2, nI_a1 (by omega), nI_s1 (by omega), show d - 1 - 1 = d - 2 by omega, zin_n (by omega) (by decide), zin_n (by omega) (by decide), m_two q (by omega) h3.2, zbd_s, zin_n (by omega) (by decide), zlt_s, nI_clamp (by omega), nI_clamp (by omega), m24_24, zsa_m24 _ (by omega), m24_24, m24_m24, hk, if_neg (by omega), if_neg (by omega)]
theorem sd_le {q d : Nat} (hd : d ≤ 31) (ho : okd q d) : sd q d ≤ 31 := by
  unfold okd at ho
  unfold sd
  by_cases h1 : q < 20000
  · simp only [h1, if_true] at ho ⊢; omega
  · simp only [h1, if_false] at ho ⊢
    split <;> omega
theorem m_wloop {σ : zS} {cd : Nat → Nat} {p s e t : Nat} (hp : p < 2) (ht : σ.1 24 = nI t) (ht6 : t < 6) (he : σ.2 16 (4 * t + p + 1) = nI e) (he2 : e ≤ 200) (hse : s ≤ e) (hc : ∀ i, i < e - s → σ.2 15 (200 * t + (s + i)) = mc (cd i)) : ∀ (r j d n : Nat) (f : Nat → Int32), j + r = e - s → d ≤ 31 → wfc cd r j d → r < n → f_M_worth_16 n (nI p) (nI d) (nI (s + j)) (m24 σ f) = some (vr cd (σ.2 25) r j d f 0, m24 σ (vr cd (σ.2 25) r j d f)) := by
  intro r
  induction r with
  | zero =>
    intro j d n f hj hd hw hn
    obtain ⟨n, rfl⟩ : ∃ m, n = m + 1 := ⟨n - 1, by omega⟩
    show f_M_worth_16b _ _ _ _ _ = _
    unfold f_M_worth_16b
    have e1 : (m24 σ f).1 24 = nI t := ht
    have e2 : (4 * nI t + nI p) + 1 = nI (4 * t + p + 1) := by rw [show (4 : Int32) = nI 4 from rfl, nI_mul, nI_add, nI_1]
    rw [e1, e2, zin_n (by omega) (by decide), nI_clamp (by omega), m24_ne σ f (by decide), he, if_pos (nI_le (by omega) (by omega)), show (0 : Int32) = nI 0 from rfl, zin_n (by decide) (by decide), nI_clamp (by decide), m24_24]
    rfl
  | succ r ih =>
    intro j d n f hj hd hw hn
    obtain ⟨n, rfl⟩ : ∃ m, n = m + 1 := ⟨n - 1, by omega⟩
    show f_M_worth_16b _ _ _ _ _ = _
    rw [m_wstep hp ht ht6 he (by omega) he2 (hc j (by omega)) hw.1 hw.2.1 hd, show s + j + 1 = s + (j + 1) by omega]
    exact ih (j + 1) _ n _ (by omega) (sd_le hd hw.2.1) hw.2.2 (by omega)
/-- worth of a part of the law that is forced -/
theorem m_worth {σ : zS} {cd : Nat → Nat} {p s e t : Nat} (hp : p < 2) (ht : σ.1 24 = nI t) (ht6 : t < 6) (hs : σ.2 16 (4 * t + p) = nI s) (he : σ.2 16 (4 * t + p + 1) = nI e) (he2 : e ≤ 200) (hse : s ≤ e) (hc : ∀ i, i < e - s → σ.2 15 (200 * t + (s + i)) = mc (cd i)) (hw : wfc cd (e - s) 0 0) : ∃ f, f_M_worth (nI p) σ = some (vl cd (σ.2 25) (e - s), m24 σ f) := by
  refine ⟨vr cd (σ.2 25) (e - s) 0 0 (σ.2 24), ?_⟩
  unfold f_M_worth
  have e2 : 4 * nI t + nI p = nI (4 * t + p) := by rw [show (4 : Int32) = nI 4 from rfl, nI_mul, nI_add]
  rw [ht, e2, zin_n (by omega) (by decide), zlt_s, nI_clamp (by omega), hs]
  have := m_wloop hp ht ht6 he he2 hse hc (e - s) 0 0 zfu (σ.2 24) (by omega) (by omega) hw (by unfold zfu; omega)
  rw [m24_self] at this
  rw [vr_vl hw] at this
  exact this
