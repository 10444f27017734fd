/-! ===== shapes: reach, box, what is in ===== -/
abbrev SD : Type := Nat × Nat × Nat × Nat × Nat × Nat × Nat × Nat × (Nat → Nat) × (Nat → Nat) × (Nat → Nat) × (Nat → Nat)
def SD.k (D : SD) : Nat := D.1
def SD.ho (D : SD) : Nat := D.2.1
def SD.mo (D : SD) : Nat := D.2.2.1
def SD.lf (D : SD) : Nat := D.2.2.2.1
def SD.n (D : SD) : Nat := D.2.2.2.2.1
def SD.nr (D : SD) : Nat := D.2.2.2.2.2.1
def SD.ln (D : SD) : Nat := D.2.2.2.2.2.2.1
def SD.m (D : SD) : Nat := D.2.2.2.2.2.2.2.1
def SD.c (D : SD) : Nat → Nat := D.2.2.2.2.2.2.2.2.1
def SD.e (D : SD) : Nat → Nat := D.2.2.2.2.2.2.2.2.2.1
def SD.pl (D : SD) : Nat → Nat := D.2.2.2.2.2.2.2.2.2.2.1
def SD.hu (D : SD) : Nat → Nat := D.2.2.2.2.2.2.2.2.2.2.2
def SD.f (D : SD) (l : Int32) : Nat := (farV D.e D.m l D.n D.nr).toNatClampNeg
theorem SD.f_eq (D : SD) (l : Int32) : farV D.e D.m l D.n D.nr = nI (D.f l) ∧ D.f l ≤ 50 := by
  obtain ⟨j, h1, h2⟩ := farV_bd D.e D.m l D.n D.nr
  unfold SD.f
  rw [h2, nI_clamp (by omega)]
  exact ⟨rfl, h1⟩
def SD.rc (D : SD) : Nat := if D.k = 3 then D.mo / 2 else if D.k = 4 then D.mo + D.f 0 else if D.k = 5 then D.mo + D.f 1 - 1 else D.mo
theorem SD.rc_le (D : SD) (h : D.mo ≤ 30) : D.rc ≤ 80 := by
  have h0 := (D.f_eq 0).2
  have h1 := (D.f_eq 1).2
  unfold SD.rc
  split
  · omega
  · split
    · omega
    · split <;> omega
def SD.N (D : SD) : Nat → Nat → Bool := nrl D.c D.ln D.n D.nr D.pl D.hu
noncomputable def SD.T (D : SD) : Nat := twn D.N D.n D.ho
abbrev Bx : Type := Int32 × Int32 × Int32 × Int32
def bst (B : Bx) (p : Nat) : Bx := (zmin B.1 (nI (p % 40)), zmax B.2.1 (nI (p % 40)), zmin B.2.2.1 (nI (p / 40)), zmax B.2.2.2 (nI (p / 40)))
def bfo (T : Nat) (pl : Nat → Nat) : Nat → Bx
  | 0 => (40, -1, 40, -1)
  | h + 1 => if T.testBit h = true then bst (bfo T pl h) (pl h) else bfo T pl h
noncomputable def SD.B (D : SD) : Bx := if D.k = 5 then bst (40, -1, 40, -1) D.lf else bfo D.T D.pl D.n
def inb (B : Bx) (p : Nat) (r : Int32) : Bool := decide ((B.1 - r ≤ nI (p % 40) ∧ nI (p % 40) ≤ B.2.1 + r) ∧ (B.2.2.1 - r ≤ nI (p / 40) ∧ nI (p / 40) ≤ B.2.2.2 + r))
def by1 (cp : Nat → Nat) (cnt rc p : Nat) : Bool := (List.range cnt).any (fun i => decide (nap p (cp i) ≤ rc))
theorem by1_iff {cp : Nat → Nat} {cnt rc p : Nat} : by1 cp cnt rc p = true ↔ ∃ i, i < cnt ∧ nap p (cp i) ≤ rc := by
  unfold by1
  simp [List.any_eq_true]
def byH (T : Nat) (pl : Nat → Nat) (n rc p : Nat) : Bool := (List.range n).any (fun h => T.testBit h && decide (nap p (pl h) ≤ rc))
theorem byH_iff {T : Nat} {pl : Nat → Nat} {n rc p : Nat} : byH T pl n rc p = true ↔ ∃ h, h < n ∧ T.testBit h = true ∧ nap p (pl h) ≤ rc := by
  unfold byH
  simp [List.any_eq_true]
def fil (mo : Nat) (B : Bx) : Bool := decide (¬ nI (2 * mo) < B.2.1 - B.1 ∧ ¬ nI (2 * mo) < B.2.2.2 - B.2.2.1)
noncomputable def SD.ins (D : SD) (p : Nat) : Bool := if D.k = 0 then decide (nap p (D.pl D.ho) ≤ D.rc) else if D.k = 1 then byH D.T D.pl D.n D.rc p else if D.k = 3 then (byH D.T D.pl D.n D.rc p || (fil D.mo D.B && inb D.B p 0)) else inb D.B p (nI D.rc)
def SX (σ : zS) (s : Nat) (D : SD) : Prop := s < 12 ∧ D.k ≤ 5 ∧ D.ho < D.n ∧ D.mo ≤ 30 ∧ D.lf < 1600 ∧ WF D.c D.ln D.e D.m ∧ LX σ D.c D.ln D.e D.m ∧ HX σ D.n D.nr D.pl D.hu ∧ JX σ D.c D.ln D.n D.nr D.pl D.hu ∧ σ.2 23 s = nI D.k ∧ σ.2 24 s = nI D.ho ∧ σ.2 25 s = nI D.mo ∧ σ.1 15 = nI D.lf
def SM (τ : zS) (s : Nat) (D : SD) : Prop := s < 12 ∧ D.k ≤ 5 ∧ D.ho < D.n ∧ D.mo ≤ 30 ∧ D.lf < 1600 ∧ WF D.c D.ln D.e D.m ∧ LM τ D.c D.ln D.e D.m ∧ HM τ D.n D.nr D.pl D.hu ∧ τ.2 3 s = nI D.k ∧ τ.2 4 s = nI D.ho ∧ τ.2 5 s = nI D.mo ∧ τ.1 7 = nI D.lf
theorem R_D {σ τ : zS} {s : Nat} (hR : R σ τ) (hs : nI s < τ.1 3) (hs2 : s < 2 ^ 31) : ∃ D, SX σ s D ∧ SM τ s D := by
  obtain ⟨⟨c, e, ln, m, n, nr, pl, hu, hW, hLX, hLM, hHX, hHM, hJ⟩, ⟨a1, ⟨ns, hns, a2⟩, a3, a4, a5, a6, a7, a8⟩, r3, -⟩ := hR
  have hs3 : s < ns := by rw [a2] at hs; exact (nI_ltI hs2 (by omega)).mp hs
  obtain ⟨k, hk, ek⟩ := a6 s (by omega)
  obtain ⟨mo, hmo, emo⟩ := a7 s (by omega)
  have h8 := a8 s (by omega) hs
  rw [hHM.2.1] at h8
  have hn20 := hHM.1
  obtain ⟨ho, hho, eho⟩ := (kn_iff (by omega)).mp h8
  obtain ⟨lf, hlf, elf⟩ := r3.2
  refine ⟨⟨k, ho, mo, lf, n, nr, ln, m, c, e, pl, hu⟩, ⟨by omega, hk, hho, hmo, by show lf < 1600; omega, hW, hLX, hHX, hJ, ?_, ?_, ?_, ?_⟩, ⟨by omega, hk, hho, hmo, by show lf < 1600; omega, hW, hLM, hHM, ek, eho, emo, elf⟩⟩
  · rw [a3 s (by omega)]; exact ek
  · rw [a4 s (by omega)]; exact eho
  · rw [a5 s (by omega)]; exact emo
  · rw [r3.1]; exact elf
theorem SX_s {σ σ' : zS} {s : Nat} {D : SD} (h : xq σ σ') (g : SX σ s D) : SX σ' s D := by
  obtain ⟨g1, g2, g3, g4, g5, g6, g7, ⟨x1, x2, x3, x4⟩, ⟨jm, j1, j2⟩, g10, g11, g12, g13⟩ := g
  have f : ∀ k, ¬ (103 ≤ k ∧ k ≤ 108) ∧ ¬ (901 ≤ k ∧ k ≤ 908) ∧ ¬ (1001 ≤ k ∧ k ≤ 1008) ∧ k ≠ 1102 → σ'.1 k = σ.1 k := fun k q => h.1 k q.1 q.2.1 q.2.2.1 q.2.2.2
  have a : ∀ q, ¬ (12 ≤ q ∧ q ≤ 13) ∧ q ≠ 16 ∧ q ≠ 20 ∧ ¬ (32 ≤ q ∧ q ≤ 35) → σ'.2 q = σ.2 q := fun k q => h.2 k q.1 q.2.1 q.2.2.1 q.2.2.2
  refine ⟨g1, g2, g3, g4, g5, g6, LX_r (fun k hk => f k (by omega)) (fun q hq => a q (by omega)) g7, ⟨x1, by rw [f 307 (by omega)]; exact x2, by rw [f 308 (by omega)]; exact x3, by rw [a 17 (by omega), a 18 (by omega)]; exact x4⟩, ⟨jm, by rw [a 19 (by omega)]; exact j1, j2⟩, by rw [a 23 (by omega)]; exact g10, by rw [a 24 (by omega)]; exact g11, by rw [a 25 (by omega)]; exact g12, by rw [f 15 (by omega)]; exact g13⟩
theorem SM_s {τ τ' : zS} {s : Nat} {D : SD} (h : mq τ τ') (g : SM τ s D) : SM τ' s D := by
  obtain ⟨g1, g2, g3, g4, g5, g6, g7, ⟨x1, x2, x3, x4, x5⟩, g10, g11, g12, g13⟩ := g
  have f : ∀ k, ¬ (35 ≤ k ∧ k ≤ 38) ∧ ¬ (41 ≤ k ∧ k ≤ 43) ∧ ¬ (46 ≤ k ∧ k ≤ 51) ∧ ¬ (57 ≤ k ∧ k ≤ 58) → τ'.1 k = τ.1 k := fun k q => h.1 k q.1 q.2.1 q.2.2.1 q.2.2.2
  have a : ∀ q, ¬ (23 ≤ q ∧ q ≤ 31) → τ'.2 q = τ.2 q := h.2
  exact ⟨g1, g2, g3, g4, g5, g6, LM_r (f 24 (by omega)) (a 15 (by omega)) (a 16 (by omega)) g7, ⟨x1, by rw [f 0 (by omega)]; exact x2, by rw [f 8 (by omega)]; exact x3, x4, by rw [a 1 (by omega), a 2 (by omega)]; exact x5⟩, by rw [a 3 (by omega)]; exact g10, by rw [a 4 (by omega)]; exact g11, by rw [a 5 (by omega)]; exact g12, by rw [f 7 (by omega)]; exact g13⟩
theorem SX.TX {σ : zS} {s : Nat} {D : SD} (g : SX σ s D) : TX σ D.n D.N := by
  obtain ⟨g1, g2, g3, g4, g5, g6, g7, ⟨x1, x2, x3, x4⟩, ⟨jm, j1, j2⟩, -⟩ := g
  exact ⟨x2, x1, jm, j1, j2⟩
theorem SM.TM {τ : zS} {s : Nat} {D : SD} (g : SM τ s D) : TM τ D.n D.N := by
  obtain ⟨g1, g2, g3, g4, g5, g6, g7, hH, -⟩ := g
  exact ⟨hH.2.1, hH.1, hN_of g6 g7 hH⟩
theorem k6 {k : Nat} (h : k ≤ 5) : k = 0 ∨ k = 1 ∨ k = 2 ∨ k = 3 ∨ k = 4 ∨ k = 5 := by omega
theorem kI {a b : Nat} (ha : a ≤ 5) (hb : b ≤ 5) : (nI a = nI b) = (a = b) := propext (nI_eq (by omega) (by omega))
theorem k_3 {k : Nat} (h : k ≤ 5) : (nI k = 3) = (k = 3) := kI h (b := 3) (by decide)
theorem k_4 {k : Nat} (h : k ≤ 5) : (nI k = 4) = (k = 4) := kI h (b := 4) (by decide)
theorem k_5 {k : Nat} (h : k ≤ 5) : (nI k = 5) = (k = 5) := kI h (b := 5) (by decide)
theorem k_0 {k : Nat} (h : k ≤ 5) : (nI k = 0) = (k = 0) := kI h (b := 0) (by decide)
theorem k_1 {k : Nat} (h : k ≤ 5) : (nI k = 1) = (k = 1) := kI h (b := 1) (by decide)
theorem nI_h {a : Nat} (ha : a < 2 ^ 31) : nI a / 2 = nI (a / 2) := pk_div (d := 2) ha (by decide) (by decide)
theorem x_reachOf {σ : zS} {s : Nat} {D : SD} (g : SX σ s D) : ∃ σ', f_X_reachOf (nI s) σ = some (nI D.rc, σ') ∧ xs3 σ σ' := by
  obtain ⟨g1, g2, g3, g4, g5, g6, g7, ⟨x1, x2, x3, x4⟩, -, g10, g11, g12, g13⟩ := g
  unfold f_X_reachOf SD.rc
  rw [zin_n g1 (by decide), zlt_s, zin_n g1 (by decide), nI_clamp (by omega), g10, g12]
  simp only [k_3 g2, k_4 g2, k_5 g2]
  by_cases h3 : D.k = 3
  · rw [if_pos h3, if_pos h3, nI_h (by omega)]
    exact ⟨σ, rfl, xs3_rfl⟩
  · rw [if_neg h3, if_neg h3]
    by_cases h4 : D.k = 4
    · rw [if_pos h4, if_pos h4]
      obtain ⟨σ', e1, e2⟩ := x_farWith 0 g7 g6 x2 x3
      rw [e1, zbd_s, (D.f_eq 0).1, nI_add]
      exact ⟨σ', rfl, e2⟩
    · rw [if_neg h4, if_neg h4]
      by_cases h5 : D.k = 5
      · rw [if_pos h5, if_pos h5]
        obtain ⟨σ', e1, e2⟩ := x_farWith 1 g7 g6 x2 x3
        rw [e1, zbd_s, (D.f_eq 1).1, nI_add]
        have := (D.f_eq 1).2
        refine ⟨σ', ?_, e2⟩
        unfold zmax
        by_cases h0 : D.mo + D.f 1 = 0
        · rw [h0]; rfl
        · rw [nI_s1 (by omega)]
          by_cases h1 : D.mo + D.f 1 - 1 = 0
          · rw [h1]; rfl
          · rw [if_pos (show (0 : Int32) < nI (D.mo + D.f 1 - 1) from nI_lt (a := 0) (b := D.mo + D.f 1 - 1) (by omega) (by omega))]
      · rw [if_neg h5, if_neg h5]
        exact ⟨σ, rfl, xs3_rfl⟩
theorem m_reach {τ : zS} {s : Nat} {D : SD} (g : SM τ s D) : ∃ τ', f_M_reach (nI s) τ = some (nI D.rc, τ') ∧ ms3 τ τ' := by
  obtain ⟨g1, g2, g3, g4, g5, g6, g7, ⟨x1, x2, x3, x4, x5⟩, g10, g11, g12, g13⟩ := g
  unfold f_M_reach f_M_reach_27 SD.rc
  rw [zin_n g1 (by decide), zlt_s, zin_n g1 (by decide), nI_clamp (by omega), g10, g12]
  by_cases h5 : D.k = 5
  · rw [if_pos (by rw [h5]; rfl), if_neg (by omega), if_neg (by omega), if_pos h5]
    obtain ⟨τ', e1, e2⟩ := m_farBy 1 g7 g6 x2 x3
    have e3 : τ'.2 3 s = nI D.k := by rw [e2.2 3 (by decide) (by decide)]; exact g10
    rw [e1, zbd_s]
    dsimp only
    rw [zlt_s, (D.f_eq 1).1, zin_n g1 (by decide), e3, h5, if_neg (by decide), zin_n g1 (by decide), if_neg (by decide)]
    have := (D.f_eq 1).2
    refine ⟨τ', ?_, e2⟩
    by_cases h0 : D.f 1 = 0
    · rw [h0]
      by_cases h1 : D.mo = 0
      · rw [h1]; rfl
      · rw [show nI D.mo + (nI 0 - 1) = nI (D.mo + 0 - 1) from by rw [show nI 0 - 1 = (-1 : Int32) from rfl, nI_a1 (by omega)]; rfl, if_pos (nI_pos' (by omega))]
    · rw [nI_s1 (by omega), nI_add, if_pos (nI_pos' (by omega)), show D.mo + (D.f 1 - 1) = D.mo + D.f 1 - 1 by omega]
  · rw [if_neg (by rw [k_5 g2]; exact h5), zin_n g1 (by decide)]
    simp only [k_3 g2, k_4 g2]
    by_cases h3 : D.k = 3
    · rw [if_pos h3, if_pos h3, nI_h (by omega)]
      exact ⟨τ, rfl, ms3_rfl⟩
    · rw [if_neg h3, if_neg h3, zin_n g1 (by decide)]
      by_cases h4 : D.k = 4
      · rw [if_pos h4, if_pos h4]
        obtain ⟨τ', e1, e2⟩ := m_farBy 0 g7 g6 x2 x3
        rw [e1, zbd_s, (D.f_eq 0).1, nI_add]
        exact ⟨τ', rfl, e2⟩
      · rw [if_neg h4, if_neg h4, if_neg h5, if_pos (nI_pos' (by omega))]
        exact ⟨τ, rfl, ms3_rfl⟩
def SD.mid (D : SD) : Nat := if D.k = 5 then D.lf else D.pl D.ho
theorem x_middleOf {σ : zS} {s : Nat} {D : SD} (g : SX σ s D) : f_X_middleOf (nI s) σ = some (nI D.mid, σ) := by
  obtain ⟨g1, g2, g3, g4, g5, g6, g7, ⟨x1, x2, x3, x4⟩, -, g10, g11, g12, g13⟩ := g
  unfold f_X_middleOf SD.mid
  rw [zin_n g1 (by decide), nI_clamp (by omega), g10]
  simp only [k_5 g2]
  by_cases h5 : D.k = 5
  · rw [if_pos h5, if_pos h5, g13]
  · rw [if_neg h5, if_neg h5, zin_n g1 (by decide), g11, zin_n (by omega) (by decide), nI_clamp (by omega), (x4 D.ho (by omega)).2.2.1]
theorem m_middle {τ : zS} {s : Nat} {D : SD} (g : SM τ s D) : f_M_middle (nI s) τ = some (nI D.mid, τ) := by
  obtain ⟨g1, g2, g3, g4, g5, g6, g7, ⟨x1, x2, x3, x4, x5⟩, g10, g11, g12, g13⟩ := g
  unfold f_M_middle SD.mid
  rw [zin_n g1 (by decide), nI_clamp (by omega), g10]
  simp only [k_5 g2]
  by_cases h5 : D.k = 5
  · rw [if_pos h5, if_pos h5, g13]
  · rw [if_neg h5, if_neg h5, zin_n g1 (by decide), g11, zin_n (by omega) (by decide), nI_clamp (by omega), (x5 D.ho (by omega)).2.2.1]
theorem sim_shapeTold : @zSim (Int32 × Int32) R (fun a => f_X_shapeTold a.1 a.2) (fun a => f_M_shapeTold a.1 a.2) := by
  intro ⟨x, y⟩ σ τ hR
  dsimp only
  obtain ⟨a1, a2, a3, a4, a5, -⟩ := id hR.2.1
  unfold f_X_shapeTold f_M_shapeTold
  rw [sh_knows, m_isShape a2, zbd_s, zbd_s, a1]
  by_cases h1 : 0 ≤ x ∧ x < τ.1 3
  · rw [bI_t h1]
    simp only [if_neg one0]
    have h1' := h1
    obtain ⟨ns, hns, a2'⟩ := a2
    rw [a2'] at h1'
    obtain ⟨s, hs, rfl⟩ := (kn_iff (by omega)).mp h1'
    have hs12 : s < 12 := by omega
    obtain ⟨D, hX, hM⟩ := R_D hR h1.2 (by omega)
    simp only [zin_n hs12 (show 12 < 2 ^ 31 by decide), nI_clamp (show s < 2 ^ 31 by omega), a3 s hs12, a4 s hs12, a5 s hs12]
    by_cases h : y = 0
    · rw [if_pos h, if_pos h]; exact ⟨_, _, _, rfl, rfl, hR⟩
    rw [if_neg h, if_neg h]
    by_cases h : y = 1
    · rw [if_pos h, if_pos h]; exact ⟨_, _, _, rfl, rfl, hR⟩
    rw [if_neg h, if_neg h]
    by_cases h : y = 2
    · rw [if_pos h, if_pos h]; exact ⟨_, _, _, rfl, rfl, hR⟩
    rw [if_neg h, if_neg h]
    by_cases h : y = 3
    · rw [if_pos h, if_pos h]
      obtain ⟨σ', e1, e2⟩ := x_reachOf hX
      obtain ⟨τ', g1, g2⟩ := m_reach hM
      rw [e1, g1]
      exact ⟨_, _, _, rfl, rfl, R_s (xq_3 e2) (mq_3 g2) hR⟩
    rw [if_neg h, if_neg h]
    by_cases h : y = 4
    · rw [if_pos h, if_pos h, x_middleOf hX, m_middle hM]
      exact ⟨_, _, _, rfl, rfl, hR⟩
    rw [if_neg h, if_neg h]
    exact ⟨_, _, _, rfl, rfl, hR⟩
  · rw [bI_f h1]
    simp only [if_true]
    exact ⟨_, _, _, rfl, rfl, hR⟩
