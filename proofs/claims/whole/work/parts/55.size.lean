/-! ===== size, both, laid, personTold ===== -/
def cS (q : Nat → Bool) : Nat → Nat → Int32 → Int32
  | 0, _, acc => acc
  | r + 1, p, acc => cS q r (p + 1) (if q p = true then acc + 1 else acc)
theorem nar_b (b : Bool) : vp_nar .boolean (bI (b = true)) = bI (b = true) := by
  cases b <;> rfl
theorem x_sizeL {σ : zS} {D : SD} (h : H9 σ D) : ∀ (r p f : Nat) (acc : Int32), p + r = 1600 → r < f → f_X_size_26 f acc (nI p) σ = some (cS D.ins r p acc, σ) := by
  intro r
  induction r with
  | zero =>
    intro p f acc hp hf
    obtain ⟨f, rfl⟩ : ∃ m, f = m + 1 := ⟨f - 1, by omega⟩
    show f_X_size_26b _ _ _ _ = _
    unfold f_X_size_26b
    rw [if_pos (show (1600 : Int32) ≤ nI p from nI_le (show 1600 ≤ p by omega) (by omega))]
    rfl
  | succ r ih =>
    intro p f acc hp hf
    obtain ⟨f, rfl⟩ : ∃ m, f = m + 1 := ⟨f - 1, by omega⟩
    show f_X_size_26b _ _ _ _ = _
    unfold f_X_size_26b f_X_size_47
    rw [if_neg (show ¬ (1600 : Int32) ≤ nI p from nI_ge (show p < 1600 by omega) (by decide)), h σ (fun _ _ => rfl) rfl p (by omega), zbd_s, nI_1]
    dsimp only
    rw [ih (p + 1) f _ (by omega) (by omega), ih (p + 1) f _ (by omega) (by omega)]
    by_cases hi : D.ins p = true
    · rw [bI_t hi, if_neg one0]
      show _ = some (cS _ _ _ (if D.ins p = true then acc + 1 else acc), σ)
      rw [if_pos hi]
    · rw [bI_f hi, if_pos rfl]
      show _ = some (cS _ _ _ (if D.ins p = true then acc + 1 else acc), σ)
      rw [if_neg hi]
theorem mq_w {τ : zS} {q : Nat} {g : Nat → Int32} (h : 23 ≤ q ∧ q ≤ 31) : mq τ (wv τ q g) := ⟨fun _ _ _ _ _ => rfl, fun k hk => wv_ne τ g (by omega)⟩
theorem m_marks1 {τ : zS} {s : Nat} {D : SD} (hM : SM τ s D) (hA : MA τ D.rc D.T D.B) (hT : D.T < 2 ^ 20) : ∀ (r p f : Nat) (acc : Int32) (g : Nat → Int32), p + r = 1600 → r < f → ∃ g', f_M_marksOne_9 f (nI s) acc (nI p) (wv τ 26 g) = some (cS D.ins r p acc, wv τ 26 g') ∧ ∀ j, g' j = if p ≤ j ∧ j < 1600 then bI (D.ins j = true) else g j := by
  intro r
  induction r with
  | zero =>
    intro p f acc g hp hf
    obtain ⟨f, rfl⟩ : ∃ m, f = m + 1 := ⟨f - 1, by omega⟩
    refine ⟨g, ?_, fun j => by rw [if_neg (by omega)]⟩
    show f_M_marksOne_9b _ _ _ _ _ = _
    unfold f_M_marksOne_9b
    rw [if_pos (show (1600 : Int32) ≤ nI p from nI_le (show 1600 ≤ p by omega) (by omega))]
    rfl
  | succ r ih =>
    intro p f acc g hp hf
    obtain ⟨f, rfl⟩ : ∃ m, f = m + 1 := ⟨f - 1, by omega⟩
    obtain ⟨g', h1, h2⟩ := ih (p + 1) f (if D.ins p = true then acc + 1 else acc) (upd g p (bI (D.ins p = true))) (by omega) (by omega)
    refine ⟨g', ?_, fun j => ?_⟩
    · show f_M_marksOne_9b _ _ _ _ _ = _
      unfold f_M_marksOne_9b f_M_marksOne_43
      rw [if_neg (show ¬ (1600 : Int32) ≤ nI p from nI_ge (show p < 1600 by omega) (by decide)), m_isIn (SM_s (mq_w (by omega)) hM) (MA_s (fun _ _ => rfl) hA) hT (show p < 1600 by omega), zbd_s, zin_n (by omega) (by decide), zlt_s, zin_n (by omega) (by decide), zsa_wv _ _ _ _ (by omega), nar_b, nI_clamp (by omega), wv_q, nI_1, zlt_s, zlt_s]
      have e : upd g p (bI (D.ins p = true)) p = bI (D.ins p = true) := by unfold upd; rw [if_pos rfl]
      rw [e]
      show _ = some (cS D.ins r (p + 1) (if D.ins p = true then acc + 1 else acc), _)
      rw [← h1]
      by_cases hi : D.ins p = true
      · rw [bI_t hi, if_neg one0, if_pos hi]
      · rw [bI_f hi, if_pos rfl, if_neg hi, Int32.add_zero]
    · rw [h2 j]
      unfold upd
      by_cases hj : j = p
      · subst hj
        rw [if_neg (by omega), if_pos rfl, if_pos (by omega)]
      · rw [if_neg hj]
        by_cases h3 : p + 1 ≤ j ∧ j < 1600
        · rw [if_pos h3, if_pos (by omega)]
        · rw [if_neg h3, if_neg (by omega)]
theorem m_marks2 {τ : zS} {s : Nat} {D : SD} (hM : SM τ s D) (hA : MA τ D.rc D.T D.B) (hT : D.T < 2 ^ 20) : ∀ (r p f : Nat) (g : Nat → Int32), p + r = 1600 → r < f → ∃ g', f_M_marksOther_7 f (nI s) (nI p) (wv τ 27 g) = some (0, wv τ 27 g') ∧ ∀ j, g' j = if p ≤ j ∧ j < 1600 then bI (D.ins j = true) else g j := by
  intro r
  induction r with
  | zero =>
    intro p f g hp hf
    obtain ⟨f, rfl⟩ : ∃ m, f = m + 1 := ⟨f - 1, by omega⟩
    refine ⟨g, ?_, fun j => by rw [if_neg (by omega)]⟩
    show f_M_marksOther_7b _ _ _ _ = _
    unfold f_M_marksOther_7b
    rw [if_pos (show (1600 : Int32) ≤ nI p from nI_le (show 1600 ≤ p by omega) (by omega))]
  | succ r ih =>
    intro p f g hp hf
    obtain ⟨f, rfl⟩ : ∃ m, f = m + 1 := ⟨f - 1, by omega⟩
    obtain ⟨g', h1, h2⟩ := ih (p + 1) f (upd g p (bI (D.ins p = true))) (by omega) (by omega)
    refine ⟨g', ?_, fun j => ?_⟩
    · show f_M_marksOther_7b _ _ _ _ = _
      unfold f_M_marksOther_7b
      rw [if_neg (show ¬ (1600 : Int32) ≤ nI p from nI_ge (show p < 1600 by omega) (by decide)), m_isIn (SM_s (mq_w (by omega)) hM) (MA_s (fun _ _ => rfl) hA) hT (show p < 1600 by omega), zbd_s, zin_n (by omega) (by decide), zlt_s, zsa_wv _ _ _ _ (by omega), nar_b, nI_1]
      exact h1
    · rw [h2 j]
      unfold upd
      by_cases hj : j = p
      · subst hj
        rw [if_neg (by omega), if_pos rfl, if_pos (by omega)]
      · rw [if_neg hj]
        by_cases h3 : p + 1 ≤ j ∧ j < 1600
        · rw [if_pos h3, if_pos (by omega)]
        · rw [if_neg h3, if_neg (by omega)]
theorem m_marksOne {τ : zS} {s : Nat} {D : SD} (hM : SM τ s D) : ∃ τ', f_M_marksOne (nI s) τ = some (cS D.ins 1600 0 0, τ') ∧ mq τ τ' ∧ (∀ q, q ≠ 24 → q ≠ 25 → q ≠ 26 → τ'.2 q = τ.2 q) ∧ ∀ j, j < 1600 → τ'.2 26 j = bI (D.ins j = true) := by
  obtain ⟨τ1, g1, g2, g3, g4⟩ := m_looks hM
  unfold f_M_marksOne
  rw [g1, zbd_s]
  obtain ⟨g', h1, h2⟩ := m_marks1 (SM_s (mq_b g2) hM) g3 g4 1600 0 zfu 0 (τ1.2 26) (by omega) (by decide)
  rw [wv_self, show nI 0 = (0 : Int32) from rfl] at h1
  refine ⟨wv τ1 26 g', h1, mq_tr (mq_b g2) (mq_w (by omega)), fun q q1 q2 q3 => (wv_ne τ1 g' q3).trans (g2.2 q q1 q2), fun j hj => ?_⟩
  rw [wv_q, h2, if_pos ⟨by omega, hj⟩]
theorem m_marksOther {τ : zS} {s : Nat} {D : SD} (hM : SM τ s D) : ∃ τ', f_M_marksOther (nI s) τ = some (0, τ') ∧ mq τ τ' ∧ (∀ q, q ≠ 24 → q ≠ 25 → q ≠ 27 → τ'.2 q = τ.2 q) ∧ ∀ j, j < 1600 → τ'.2 27 j = bI (D.ins j = true) := by
  obtain ⟨τ1, g1, g2, g3, g4⟩ := m_looks hM
  unfold f_M_marksOther
  rw [g1, zbd_s]
  obtain ⟨g', h1, h2⟩ := m_marks2 (SM_s (mq_b g2) hM) g3 g4 1600 0 zfu (τ1.2 27) (by omega) (by decide)
  rw [wv_self, show nI 0 = (0 : Int32) from rfl] at h1
  refine ⟨wv τ1 27 g', h1, mq_tr (mq_b g2) (mq_w (by omega)), fun q q1 q2 q3 => (wv_ne τ1 g' q3).trans (g2.2 q q1 q2), fun j hj => ?_⟩
  rw [wv_q, h2, if_pos ⟨by omega, hj⟩]
theorem R_S {σ τ : zS} (hR : R σ τ) : σ.1 503 = τ.1 3 ∧ bd (τ.1 3) 12 := ⟨hR.2.1.1, hR.2.1.2.1⟩
theorem sh_of {τ : zS} {x : Int32} (hb : bd (τ.1 3) 12) (h : 0 ≤ x ∧ x < τ.1 3) : ∃ s, s < 12 ∧ x = nI s ∧ nI s < τ.1 3 := by
  obtain ⟨ns, hns, e⟩ := hb
  have h' := h
  rw [e] at h'
  obtain ⟨s, hs, rfl⟩ := (kn_iff (by omega)).mp h'
  exact ⟨s, by omega, rfl, h.2⟩
theorem sim_size : @zSim Int32 R (fun a => f_X_size a) (fun a => f_M_size a) := by
  intro x σ τ hR
  dsimp only
  obtain ⟨a1, a2⟩ := R_S hR
  unfold f_X_size f_M_size
  rw [sh_knows, m_isShape a2, zbd_s, zbd_s, a1]
  by_cases h1 : 0 ≤ x ∧ x < τ.1 3
  · rw [bI_t h1]
    simp only [if_neg one0]
    obtain ⟨s, hs, rfl, hs'⟩ := sh_of a2 h1
    obtain ⟨D, hX, hM⟩ := R_D hR hs' (by omega)
    obtain ⟨σ', e1, e2, e3⟩ := x_meas9 hX
    obtain ⟨τ', g1, g2, -⟩ := m_marksOne hM
    have e4 := x_sizeL e3 1600 0 zfu 0 (by omega) (by decide)
    rw [show nI 0 = (0 : Int32) from rfl] at e4
    generalize cS D.ins 1600 0 0 = v at e4 g1
    rw [e1, g1, zbd_s, zbd_s]
    dsimp only
    rw [e4]
    exact ⟨_, _, _, rfl, rfl, R_s (xq_a9 e2) g2 hR⟩
  · rw [bI_f h1]
    simp only [if_true]
    exact ⟨_, _, _, rfl, rfl, hR⟩
theorem bI_eq (b c : Bool) : (bI (b = true) = bI (c = true)) = (b = c) := by
  cases b <;> cases c <;> simp [bI]
theorem bI_0b (b : Bool) : (bI (b = true) = 0) = (b = false) := by
  cases b <;> simp [bI]
theorem x_bothL {σ : zS} {D E : SD} {a b : Bool} (h : H9 σ D) (g : H10 σ E) : ∀ (r p f : Nat) (acc : Int32), p + r = 1600 → r < f → f_X_both_84 f (bI (a = true)) (bI (b = true)) acc (nI p) σ = some (cS (fun p => (D.ins p == a) && (E.ins p == b)) r p acc, σ) := by
  intro r
  induction r with
  | zero =>
    intro p f acc hp hf
    obtain ⟨f, rfl⟩ : ∃ m, f = m + 1 := ⟨f - 1, by omega⟩
    show f_X_both_84b _ _ _ _ _ _ = _
    unfold f_X_both_84b
    rw [if_pos (show (1600 : Int32) ≤ nI p from nI_le (show 1600 ≤ p by omega) (by omega))]
    rfl
  | succ r ih =>
    intro p f acc hp hf
    obtain ⟨f, rfl⟩ : ∃ m, f = m + 1 := ⟨f - 1, by omega⟩
    have e0 : f_X_both_84 (f + 1) (bI (a = true)) (bI (b = true)) acc (nI p) σ = f_X_both_84b (fun x4 x5 x6 x7 σ => f_X_both_84 f x4 x5 x6 x7 σ) (bI (a = true)) (bI (b = true)) acc (nI p) σ := rfl
    rw [e0]
    unfold f_X_both_84b f_X_both_123
    rw [if_neg (show ¬ (1600 : Int32) ≤ nI p from nI_ge (show p < 1600 by omega) (by decide)), h σ (fun _ _ => rfl) rfl p (by omega), zbd_s]
    dsimp only
    rw [g σ (fun _ _ => rfl) rfl p (by omega), zbd_s, nI_1, ih (p + 1) f _ (by omega) (by omega), ih (p + 1) f _ (by omega) (by omega)]
    simp only [bI_eq]
    show _ = some (cS _ r (p + 1) (if ((D.ins p == a) && (E.ins p == b)) = true then acc + 1 else acc), σ)
    by_cases h1 : D.ins p = a
    · rw [if_pos h1]
      by_cases h2 : E.ins p = b
      · rw [if_pos h2, if_pos (by simp [h1, h2])]
      · rw [if_neg h2, if_neg (by simp [h2])]
    · rw [if_neg h1, if_neg (by simp [h1])]
theorem m_bothL {τ : zS} {D E : SD} {w : Int32} (hw : w = 0 ∨ w = 1 ∨ w = 2) (h : ∀ j, j < 1600 → τ.2 26 j = bI (D.ins j = true)) (g : ∀ j, j < 1600 → τ.2 27 j = bI (E.ins j = true)) : ∀ (r p f : Nat) (acc : Int32), p + r = 1600 → r < f → f_M_both_47 f w acc (nI p) τ = some (cS (fun p => (D.ins p == decide (w ≠ 2)) && (E.ins p == decide (w ≠ 1))) r p acc, τ) := by
  intro r
  induction r with
  | zero =>
    intro p f acc hp hf
    obtain ⟨f, rfl⟩ : ∃ m, f = m + 1 := ⟨f - 1, by omega⟩
    show f_M_both_47b _ _ _ _ _ = _
    unfold f_M_both_47b
    rw [if_pos (show (1600 : Int32) ≤ nI p from nI_le (show 1600 ≤ p by omega) (by omega))]
    rfl
  | succ r ih =>
    intro p f acc hp hf
    obtain ⟨f, rfl⟩ : ∃ m, f = m + 1 := ⟨f - 1, by omega⟩
    have e0 : f_M_both_47 (f + 1) w acc (nI p) τ = f_M_both_47b (fun x3 x4 x5 σ => f_M_both_47 f x3 x4 x5 σ) w acc (nI p) τ := rfl
    rw [e0]
    unfold f_M_both_47b f_M_both_85 f_M_both_113 f_M_both_117 f_M_both_118
    rw [if_neg (show ¬ (1600 : Int32) ≤ nI p from nI_ge (show p < 1600 by omega) (by decide))]
    simp only [zin_n (show p < 1600 by omega) (show 1600 < 2 ^ 31 by decide), nI_clamp (show p < 2 ^ 31 by omega), h p (by omega), g p (by omega), zlt_s, Int32.add_zero, bI_0b]
    rw [nI_1, ih (p + 1) f _ (by omega) (by omega), ih (p + 1) f _ (by omega) (by omega)]
    show _ = some (cS _ r (p + 1) (if ((D.ins p == decide (w ≠ 2)) && (E.ins p == decide (w ≠ 1))) = true then acc + 1 else acc), τ)
    rcases hw with rfl | rfl | rfl <;> cases hd : D.ins p <;> cases he : E.ins p <;> simp
theorem sim_both : @zSim (Int32 × Int32 × Int32) R (fun a => f_X_both a.1 a.2.1 a.2.2) (fun a => f_M_both a.1 a.2.1 a.2.2) := by
  intro ⟨x, y, w⟩ σ τ hR
  dsimp only
  obtain ⟨a1, a2⟩ := R_S hR
  unfold f_X_both f_M_both
  rw [sh_knows, m_isShape a2, zbd_s, zbd_s, a1]
  by_cases h1 : 0 ≤ x ∧ x < τ.1 3
  · rw [bI_t h1]
    simp only [if_neg one0]
    rw [sh_knows, m_isShape a2, zbd_s, zbd_s, a1]
    by_cases h2 : 0 ≤ y ∧ y < τ.1 3
    · rw [bI_t h2]
      simp only [if_neg one0]
      rw [x_isFrom, m_in, zbd_s, zbd_s]
      by_cases h3 : 0 ≤ w ∧ w ≤ 2
      · rw [bI_t h3]
        simp only [if_neg one0]
        have hw : w = 0 ∨ w = 1 ∨ w = 2 := by
          obtain ⟨j, hj, rfl⟩ := bd_of (N := 2) (by decide) h3
          have : j = 0 ∨ j = 1 ∨ j = 2 := by omega
          rcases this with rfl | rfl | rfl
          · exact Or.inl rfl
          · exact Or.inr (Or.inl rfl)
          · exact Or.inr (Or.inr rfl)
        obtain ⟨s, hs, rfl, hs'⟩ := sh_of a2 h1
        obtain ⟨o, ho, rfl, ho'⟩ := sh_of a2 h2
        obtain ⟨D, hX, hM⟩ := R_D hR hs' (by omega)
        obtain ⟨E, hX2, hM2⟩ := R_D hR ho' (by omega)
        obtain ⟨σ1, e1, e2, e3⟩ := x_meas9 hX
        obtain ⟨σ2, f1, f2, f3⟩ := x_meas10 (SX_s (xq_a9 e2) hX2)
        obtain ⟨τ1, g1, g2, g3, g4⟩ := m_marksOne hM
        obtain ⟨τ2, k1, k2, k3, k4⟩ := m_marksOther (SM_s g2 hM2)
        rw [e1, g1]
        simp only [zbd_s]
        rw [f1, k1]
        simp only [zbd_s]
        have h9 : H9 σ2 D := fun σ3 q1 q2 p hp => e3 σ3 (fun k hk => (q1 k hk).trans (f2.1 k (by omega) (by omega))) (q2.trans (f2.2 32 (by decide) (by decide) (by decide))) p hp
        have m26 : ∀ j, j < 1600 → τ2.2 26 j = bI (D.ins j = true) := fun j hj => by rw [k3 26 (by decide) (by decide) (by decide)]; exact g4 j hj
        have eM := m_bothL hw m26 k4 1600 0 zfu 0 (by omega) (by decide)
        rw [show nI 0 = (0 : Int32) from rfl] at eM
        rw [eM]
        have hR' := R_s (xq_tr (xq_a9 e2) (xq_a10 f2)) (mq_tr g2 k2) hR
        unfold f_X_both_64 f_X_both_76
        have eX := fun a b => x_bothL (a := a) (b := b) h9 f3 1600 0 zfu 0 (by omega) (by decide)
        have x00 := eX true true
        have x01 := eX true false
        have x10 := eX false true
        rw [show bI (true = true) = 1 from rfl, show nI 0 = (0 : Int32) from rfl] at x00
        rw [show bI (true = true) = 1 from rfl, show bI (false = true) = 0 from rfl, show nI 0 = (0 : Int32) from rfl] at x01 x10
        rcases hw with rfl | rfl | rfl
        · rw [if_neg (by decide), if_neg (by decide), x00]
          rw [show decide ((0 : Int32) ≠ 2) = true from rfl, show decide ((0 : Int32) ≠ 1) = true from rfl]
          generalize cS (fun p => (D.ins p == true) && (E.ins p == true)) 1600 0 0 = v
          exact ⟨_, _, _, rfl, rfl, hR'⟩
        · rw [if_neg (by decide), if_pos rfl, x01]
          rw [show decide ((1 : Int32) ≠ 2) = true from rfl, show decide ((1 : Int32) ≠ 1) = false from rfl]
          generalize cS (fun p => (D.ins p == true) && (E.ins p == false)) 1600 0 0 = v
          exact ⟨_, _, _, rfl, rfl, hR'⟩
        · rw [if_pos rfl, if_neg (by decide), x10]
          rw [show decide ((2 : Int32) ≠ 2) = false from rfl, show decide ((2 : Int32) ≠ 1) = true from rfl]
          generalize cS (fun p => (D.ins p == false) && (E.ins p == true)) 1600 0 0 = v
          exact ⟨_, _, _, rfl, rfl, hR'⟩
      · rw [bI_f h3]
        simp only [if_true]
        exact ⟨_, _, _, rfl, rfl, hR⟩
    · rw [bI_f h2]
      simp only [if_true]
      exact ⟨_, _, _, rfl, rfl, hR⟩
  · rw [bI_f h1]
    simp only [if_true]
    exact ⟨_, _, _, rfl, rfl, hR⟩
theorem near_r {a b r : Nat} (ha : a < 40) (hb : b < 40) (hr : r ≤ 80) : (nI a - nI r ≤ nI b ∧ nI b ≤ nI a + nI r) ↔ nd a b ≤ r := by
  rw [Int32.le_iff_toInt_le, pk_sub_toInt (by omega) (by omega), nI_add, nI_leI (by omega) (by omega), nI_toInt (by omega)]
  unfold nd
  omega
theorem bst0 {q : Nat} (hq : q < 1600) : bst (40, -1, 40, -1) q = (nI (q % 40), nI (q % 40), nI (q / 40), nI (q / 40)) := by
  have h1 : ∀ a, a < 40 → zmin 40 (nI a) = nI a ∧ zmax (-1) (nI a) = nI a := by
    intro a ha
    unfold zmin zmax
    rw [if_pos (show nI a < 40 from nI_lt (show a < 40 from ha) (by decide)), if_pos (Int32.lt_of_lt_of_le (show (-1 : Int32) < 0 by decide) (nI_pos' (by omega)))]
    exact ⟨rfl, rfl⟩
  unfold bst
  rw [(h1 (q % 40) (by omega)).1, (h1 (q % 40) (by omega)).2, (h1 (q / 40) (by omega)).1, (h1 (q / 40) (by omega)).2]
theorem laid_L {σ τ : zS} {p rc : Nat} (hp : p < 1600) (hrc : rc ≤ 80) : ∀ (r q f f' : Nat) (σ' : zS), q + r = 1600 → r < f → r < f' → xa9 σ σ' → ∃ (v : Int32) (σ'' : zS), f_X_laid_48 f (nI p) (nI rc) (nI q) σ' = some (v, σ'') ∧ f_M_laid_42 f' (nI p) (nI rc) (nI q) τ = some (v, τ) ∧ xa9 σ σ'' := by
  intro r
  induction r with
  | zero =>
    intro q f f' σ' hq hf hf' hx
    obtain ⟨f, rfl⟩ : ∃ m, f = m + 1 := ⟨f - 1, by omega⟩
    obtain ⟨f', rfl⟩ : ∃ m, f' = m + 1 := ⟨f' - 1, by omega⟩
    refine ⟨-3, σ', ?_, ?_, hx⟩
    · show f_X_laid_48b _ _ _ _ _ = _
      unfold f_X_laid_48b
      rw [if_pos (show (1600 : Int32) ≤ nI q from nI_le (show 1600 ≤ q by omega) (by omega))]
    · show f_M_laid_42b _ _ _ _ _ = _
      unfold f_M_laid_42b
      rw [if_pos (show (1600 : Int32) ≤ nI q from nI_le (show 1600 ≤ q by omega) (by omega))]
  | succ r ih =>
    intro q f f' σ' hq hf hf' hx
    obtain ⟨f, rfl⟩ : ∃ m, f = m + 1 := ⟨f - 1, by omega⟩
    obtain ⟨f', rfl⟩ : ∃ m, f' = m + 1 := ⟨f' - 1, by omega⟩
    have eX : f_X_laid_48 (f + 1) (nI p) (nI rc) (nI q) σ' = f_X_laid_48b (fun x2 x3 x4 σ => f_X_laid_48 f x2 x3 x4 σ) (nI p) (nI rc) (nI q) σ' := rfl
    have eM : f_M_laid_42 (f' + 1) (nI p) (nI rc) (nI q) τ = f_M_laid_42b (fun x2 x3 x4 σ => f_M_laid_42 f' x2 x3 x4 σ) (nI p) (nI rc) (nI q) τ := rfl
    rw [eX, eM]
    unfold f_X_laid_48b f_M_laid_42b f_M_laid_87 f_Ar_measureLoaf_9
    have hq' : q < 1600 := by omega
    rw [if_neg (show ¬ (1600 : Int32) ≤ nI q from nI_ge hq' (by decide)), if_neg (show ¬ (1600 : Int32) ≤ nI q from nI_ge hq' (by decide))]
    obtain ⟨σ2, c1, c2, c3⟩ := ar_clear9 (σ := σ') (sq := true) (rc := rc) (fun _ => 0)
    rw [bI_t rfl] at c1
    obtain ⟨σ3, d1, d2, d3⟩ := ar_include9 (p := q) c2 (by decide) hq'
    rw [c1, zbd_s]
    dsimp only
    rw [d1]
    simp only [zbd_s]
    rw [ar_holds9 d2 hp hrc, if_pos rfl, zbd_s]
    dsimp only
    rw [zrem_n (by omega), zrem_n (by omega), mabs_nd (by omega) (by omega), zbd_s]
    dsimp only
    rw [zdiv_n (by omega), zdiv_n (by omega), mabs_nd (by omega) (by omega), zbd_s, nI_1]
    dsimp only
    have hx3 := xa9_tr (xa9_tr hx c3) d3
    have hib : inb (bst (40, -1, 40, -1) q) p (nI rc) = true ↔ (nd (q % 40) (p % 40) ≤ rc ∧ nd (q / 40) (p / 40) ≤ rc) := by
      rw [bst0 hq']
      unfold inb
      rw [decide_eq_true_iff]
      show ((nI (q % 40) - nI rc ≤ nI (p % 40) ∧ nI (p % 40) ≤ nI (q % 40) + nI rc) ∧ (nI (q / 40) - nI rc ≤ nI (p / 40) ∧ nI (p / 40) ≤ nI (q / 40) + nI rc)) ↔ _
      rw [near_r (by omega) (by omega) hrc, near_r (by omega) (by omega) hrc]
    have hn1 : nd (q % 40) (p % 40) < 40 := by unfold nd; omega
    have hn2 : nd (q / 40) (p / 40) < 40 := by unfold nd; omega
    by_cases h1 : nd (q % 40) (p % 40) ≤ rc
    · rw [if_neg (nI_nlt h1 (by omega))]
      by_cases h2 : nd (q / 40) (p / 40) ≤ rc
      · rw [if_neg (nI_nlt h2 (by omega)), bI_t (hib.mpr ⟨h1, h2⟩), if_neg one0]
        exact ⟨_, _, rfl, rfl, hx3⟩
      · rw [if_pos (nI_lt (by omega) (by omega)), bI_f (fun w => h2 (hib.mp w).2), if_pos rfl]
        exact ih (q + 1) f f' σ3 (by omega) (by omega) (by omega) hx3
    · rw [if_pos (nI_lt (by omega) (by omega)), bI_f (fun w => h1 (hib.mp w).1), if_pos rfl]
      exact ih (q + 1) f f' σ3 (by omega) (by omega) (by omega) hx3
theorem sim_laid : @zSim (Int32 × Int32) R (fun a => f_X_laid a.1 a.2) (fun a => f_M_laid a.1 a.2) := by
  intro ⟨x, y⟩ σ τ hR
  dsimp only
  obtain ⟨a1, a2⟩ := R_S hR
  unfold f_X_laid f_M_laid
  rw [sh_knows, m_isShape a2, zbd_s, zbd_s, a1]
  by_cases h1 : 0 ≤ x ∧ x < τ.1 3
  · rw [bI_t h1]
    simp only [if_neg one0]
    rw [x_isPlace, m_isPlace, zbd_s, zbd_s]
    by_cases h2 : 0 ≤ y ∧ y ≤ 1599
    · rw [bI_t h2]
      simp only [if_neg one0]
      obtain ⟨p, hp, rfl⟩ := bd_of (N := 1599) (by decide) h2
      obtain ⟨s, hs, rfl, hs'⟩ := sh_of a2 h1
      obtain ⟨D, hX, hM⟩ := R_D hR hs' (by omega)
      obtain ⟨-, hk5, -, hmo, -, -, -, -, -, x10, -⟩ := id hX
      obtain ⟨-, -, -, -, -, -, -, -, m10, -⟩ := id hM
      rw [zin_n hs (by decide), zin_n hs (by decide), nI_clamp (by omega), x10, m10]
      by_cases h5 : nI D.k = 5
      · rw [if_pos h5, if_pos h5]
        obtain ⟨σ1, e1, e2⟩ := x_reachOf hX
        obtain ⟨τ1, g1, g2⟩ := m_reach hM
        rw [e1, g1, zbd_s, zbd_s]
        dsimp only
        obtain ⟨v, σ2, k1, k2, k3⟩ := laid_L (σ := σ) (τ := τ1) (p := p) (by omega) (D.rc_le hmo) 1600 0 zfu zfu σ1 (by omega) (by decide) (by decide) (xa9_3 e2)
        rw [show nI 0 = (0 : Int32) from rfl] at k1 k2
        exact ⟨v, σ2, τ1, k1, k2, R_s (xq_a9 k3) (mq_3 g2) hR⟩
      · rw [if_neg h5, if_neg h5]
        exact ⟨_, _, _, rfl, rfl, hR⟩
    · rw [bI_f h2]
      simp only [if_true]
      exact ⟨_, _, _, rfl, rfl, hR⟩
  · rw [bI_f h1]
    simp only [if_true]
    exact ⟨_, _, _, rfl, rfl, hR⟩
/-- one of the people, in both -/
theorem R_P {σ τ : zS} {x : Int32} (hR : R σ τ) (h : 0 ≤ x ∧ x < τ.1 14) : ∃ i p s, i < 8 ∧ x = nI i ∧ p < 1600 ∧ σ.2 26 i = nI p ∧ τ.2 11 i = nI p ∧ s < 12 ∧ σ.2 27 i = nI s ∧ τ.2 12 i = nI s ∧ nI s < τ.1 3 := by
  obtain ⟨-, ⟨-, hb12, -⟩, -, -, ⟨b1, ⟨n, hn, b2⟩, b3, b4, b5, b6⟩, -⟩ := hR
  have h' := h
  rw [b2] at h'
  obtain ⟨i, hi, rfl⟩ := (kn_iff (by omega)).mp h'
  obtain ⟨p, hp, ep⟩ := b5 i (by omega)
  obtain ⟨s, hs, es, hs'⟩ := sh_of hb12 (b6 i (by omega) h.2)
  exact ⟨i, p, s, by omega, rfl, by omega, by rw [b3 i (by omega)]; exact ep, ep, hs, by rw [b4 i (by omega)]; exact es, es, hs'⟩
theorem isOut2 {σ τ : zS} {i p s : Nat} {D : SD} (hX : SX σ s D) (hM : SM τ s D) (hi : i < 8) (hp : p < 1600) (e1 : σ.2 26 i = nI p) (e2 : τ.2 11 i = nI p) (e3 : σ.2 27 i = nI s) (e4 : τ.2 12 i = nI s) : ∃ σ' τ', f_X_isOut (nI i) σ = some (bI (¬ D.ins p = true), σ') ∧ f_M_isOut (nI i) τ = some (bI (¬ D.ins p = true), τ') ∧ xa9 σ σ' ∧ H9 σ' D ∧ mb τ τ' ∧ MA τ' D.rc D.T D.B ∧ D.T < 2 ^ 20 := by
  obtain ⟨σ', x1, x2, x3⟩ := x_meas9 hX
  obtain ⟨τ', g1, g2, g3, g4⟩ := m_looks hM
  refine ⟨σ', τ', ?_, ?_, x2, x3, g2, g3, g4⟩
  · unfold f_X_isOut
    rw [zin_n hi (by decide), nI_clamp (by omega), e3, x1, zbd_s]
    dsimp only
    rw [zin_n hi (by decide), x2.2 26 (by decide) (by decide) (by decide), e1, x3 σ' (fun _ _ => rfl) rfl p hp, zbd_s]
    dsimp only
    by_cases h : D.ins p = true
    · rw [bI_t h, if_neg one0, bI_f (fun q => q h)]
    · rw [bI_f h, if_pos rfl, bI_t h]
  · unfold f_M_isOut
    rw [zin_n hi (by decide), nI_clamp (by omega), e4, g1, zbd_s]
    dsimp only
    rw [zin_n hi (by decide), zin_n hi (by decide), g2.2 12 (by decide) (by decide), g2.2 11 (by decide) (by decide), e4, e2, m_isIn (SM_s (mq_b g2) hM) g3 g4 hp, zbd_s]
    dsimp only
    by_cases h : D.ins p = true
    · rw [bI_t h, if_neg one0, bI_f (fun q => q h)]
    · rw [bI_f h, if_pos rfl, bI_t h]
theorem sim_personTold : @zSim (Int32 × Int32) R (fun a => f_X_personTold a.1 a.2) (fun a => f_M_personTold a.1 a.2) := by
  intro ⟨x, y⟩ σ τ hR
  dsimp only
  obtain ⟨b1, b2, -⟩ := id hR.2.2.2.2.1
  unfold f_X_personTold f_M_personTold
  rw [pe_knows, m_isPerson b2, zbd_s, zbd_s, b1]
  by_cases h1 : 0 ≤ x ∧ x < τ.1 14
  · rw [bI_t h1]
    simp only [if_neg one0]
    obtain ⟨i, p, s, hi, rfl, hp, e1, e2, hs, e3, e4, hs'⟩ := R_P hR h1
    simp only [zin_n hi (show 8 < 2 ^ 31 by decide), nI_clamp (show i < 2 ^ 31 by omega), e1, e2, e3, e4]
    by_cases h : y = 0
    · rw [if_pos h, if_pos h]; exact ⟨_, _, _, rfl, rfl, hR⟩
    rw [if_neg h, if_neg h]
    by_cases h : y = 1
    · rw [if_pos h, if_pos h]; exact ⟨_, _, _, rfl, rfl, hR⟩
    rw [if_neg h, if_neg h]
    by_cases h : y = 2
    · rw [if_pos h, if_pos h]
      obtain ⟨D, hX, hM⟩ := R_D hR hs' (by omega)
      obtain ⟨σ', τ', o1, o2, o3, o4, o5, o6, o7⟩ := isOut2 hX hM hi hp e1 e2 e3 e4
      rw [o1, o2]
      simp only [zbd_s]
      have hR' := R_s (xq_a9 o3) (mq_b o5) hR
      by_cases hd : D.ins p = true
      · rw [bI_f (fun q => q hd)]; exact ⟨_, _, _, rfl, rfl, hR'⟩
      · rw [bI_t hd]; exact ⟨_, _, _, rfl, rfl, hR'⟩
    rw [if_neg h, if_neg h]
    exact ⟨_, _, _, rfl, rfl, hR⟩
  · rw [bI_f h1]
    simp only [if_true]
    exact ⟨_, _, _, rfl, rfl, hR⟩
