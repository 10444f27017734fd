/-! ===== the relation ===== -/
def HM (τ : zS) (n nr : Nat) (pl hu : Nat → Nat) : Prop := n ≤ 20 ∧ τ.1 0 = nI n ∧ τ.1 8 = nI nr ∧ nr ≤ 6 ∧ ∀ i, i < 20 → pl i < 1600 ∧ hu i ≤ 1 ∧ τ.2 1 i = nI (pl i) ∧ τ.2 2 i = nI (hu i)
/-- houses, the law in force, what is joined -/
def RJ (σ τ : zS) : Prop := ∃ (c e : Nat → Nat) (ln m n nr : Nat) (pl hu : Nat → Nat), WF c ln e m ∧ LX σ c ln e m ∧ LM τ c ln e m ∧ HX σ n nr pl hu ∧ HM τ n nr pl hu ∧ JX σ c ln n nr pl hu
/-- all texts -/
def G8 (tx lx c5 c6 : Int32) (ln lf : List Int32) (an af : List (Nat → Int32)) (tm rm : Int32) (codes starts : Nat → Int32) : Prop := tx = tm ∧ lx = rm ∧ ∃ T r : Nat, 1 ≤ T ∧ T ≤ 6 ∧ tm = nI T ∧ r < T ∧ rm = nI r ∧ c5 = nI (43 + r) ∧ c6 = nI (49 + r) ∧ ∀ t, t < T → ∃ (c e : Nat → Nat) (n m : Nat), WF c n e m ∧ n + m ≤ 160 ∧ ln.getD t 0 = nI n ∧ lf.getD t 0 = nI m ∧ starts (4 * t) = nI 0 ∧ starts (4 * t + 1) = nI n ∧ starts (4 * t + 2) = nI (n + m) ∧ (∀ i, i < n → an.getD t (fun _ => 0) i = xc (c i) ∧ codes (200 * t + i) = mc (c i)) ∧ ∀ i, i < m → af.getD t (fun _ => 0) i = xc (e i) ∧ codes (200 * t + (n + i)) = mc (e i)
abbrev R2 (σ τ : zS) : Prop := G2 (σ.1 503) (σ.2 23) (σ.2 24) (σ.2 25) (τ.1 3) (τ.2 3) (τ.2 4) (τ.2 5) (τ.1 0)
abbrev R3 (σ τ : zS) : Prop := G3 (σ.1 15) (τ.1 7)
abbrev R4 (σ τ : zS) : Prop := G4 (σ.1 308) (σ.2 21) (σ.2 22) (τ.1 8) (τ.2 6) (τ.2 7) (τ.2 8) (τ.2 9) (τ.2 10)
abbrev R5 (σ τ : zS) : Prop := G5 (σ.1 602) (σ.2 26) (σ.2 27) (τ.1 14) (τ.2 11) (τ.2 12) (τ.1 3)
abbrev R6 (σ τ : zS) : Prop := G6 (σ.1 13) (σ.2 14) (τ.1 17) (τ.2 13)
abbrev R7 (σ τ : zS) : Prop := G7 (σ.1 102) (σ.2 15) (τ.1 20) (τ.2 14)
abbrev R8 (σ τ : zS) : Prop := G8 (σ.1 202) (σ.1 14) (σ.1 305) (σ.1 306) [σ.1 1043, σ.1 1044, σ.1 1045, σ.1 1046, σ.1 1047, σ.1 1048] [σ.1 1049, σ.1 1050, σ.1 1051, σ.1 1052, σ.1 1053, σ.1 1054] [σ.2 43, σ.2 44, σ.2 45, σ.2 46, σ.2 47, σ.2 48] [σ.2 49, σ.2 50, σ.2 51, σ.2 52, σ.2 53, σ.2 54] (τ.1 23) (τ.1 24) (τ.2 15) (τ.2 16)
abbrev R9 (σ τ : zS) : Prop := G9 (σ.1 702) (σ.1 703) (σ.1 704) (σ.1 705) (σ.1 706) (σ.2 28) (σ.2 29) (τ.1 25) (τ.1 26) (τ.1 27) (τ.1 28) (τ.1 29) (τ.2 17) (τ.2 18) (τ.1 0) (τ.1 14) (τ.1 23)
abbrev R10 (σ τ : zS) : Prop := G10 (σ.2 30) (σ.2 31) [σ.2 37, σ.2 38, σ.2 39, σ.2 40] (τ.2 19) (τ.2 20) (τ.2 21)
def R (σ τ : zS) : Prop := RJ σ τ ∧ R2 σ τ ∧ R3 σ τ ∧ R4 σ τ ∧ R5 σ τ ∧ R6 σ τ ∧ R7 σ τ ∧ R8 σ τ ∧ R9 σ τ ∧ R10 σ τ
/-- what RJ looks at is the same -/
def xr (σ σ' : zS) : Prop := (∀ k, (305 ≤ k ∧ k ≤ 308) ∨ (1043 ≤ k ∧ k ≤ 1056) → σ'.1 k = σ.1 k) ∧ ∀ q, (17 ≤ q ∧ q ≤ 19) ∨ (43 ≤ q ∧ q ≤ 56) → σ'.2 q = σ.2 q
def mr (τ τ' : zS) : Prop := (∀ k, k = 0 ∨ k = 8 ∨ k = 24 → τ'.1 k = τ.1 k) ∧ ∀ q, q = 1 ∨ q = 2 ∨ q = 15 ∨ q = 16 → τ'.2 q = τ.2 q
theorem RJ_s {σ σ' τ τ' : zS} (h : xr σ σ') (g : mr τ τ') (hR : RJ σ τ) : RJ σ' τ' := by
  obtain ⟨c, e, ln, m, n, nr, pl, hu, hW, ⟨a, b, h1, h2, h3, h4, h5, h6, h7, h8, h9, h10⟩, ⟨t, m1, m2, m3, m4, m5, m6, m7, m8⟩, ⟨k1, k2, k3, k4⟩, ⟨l1, l2, l3, l4, l5⟩, jm, j1, j2⟩ := hR
  refine ⟨c, e, ln, m, n, nr, pl, hu, hW, ⟨a, b, h1, h2, ?_, ?_, ?_, ?_, h7, h8, ?_, ?_⟩, ⟨t, m1, ?_, ?_, ?_, ?_, m6, ?_, ?_⟩, ⟨k1, ?_, ?_, ?_⟩, ⟨l1, ?_, ?_, l4, ?_⟩, jm, ?_, j2⟩
  · rw [h.1 305 (by omega)]; exact h3
  · rw [h.1 306 (by omega)]; exact h4
  · unfold zln at h5 ⊢; rw [h.1 _ (by omega)]; exact h5
  · unfold zln at h6 ⊢; rw [h.1 _ (by omega)]; exact h6
  · intro i hi; rw [h.2 a (by omega)]; exact h9 i hi
  · intro i hi; rw [h.2 b (by omega)]; exact h10 i hi
  · rw [g.1 24 (by omega)]; exact m2
  · rw [g.2 16 (by omega)]; exact m3
  · rw [g.2 16 (by omega)]; exact m4
  · rw [g.2 16 (by omega)]; exact m5
  · intro i hi; rw [g.2 15 (by omega)]; exact m7 i hi
  · intro i hi; rw [g.2 15 (by omega)]; exact m8 i hi
  · rw [h.1 307 (by omega)]; exact k2
  · rw [h.1 308 (by omega)]; exact k3
  · intro i hi; rw [h.2 17 (by omega), h.2 18 (by omega)]; exact k4 i hi
  · rw [g.1 0 (by omega)]; exact l2
  · rw [g.1 8 (by omega)]; exact l3
  · intro i hi; rw [g.2 1 (by omega), g.2 2 (by omega)]; exact l5 i hi
  · intro x hx; rw [h.2 19 (by omega)]; exact j1 x hx
/-- only scratch has changed -/
def xq (σ σ' : zS) : Prop := (∀ k, ¬ (103 ≤ k ∧ k ≤ 108) → ¬ (901 ≤ k ∧ k ≤ 908) → ¬ (1001 ≤ k ∧ k ≤ 1008) → k ≠ 1102 → σ'.1 k = σ.1 k) ∧ ∀ q, ¬ (12 ≤ q ∧ q ≤ 13) → q ≠ 16 → q ≠ 20 → ¬ (32 ≤ q ∧ q ≤ 35) → σ'.2 q = σ.2 q
def mq (τ τ' : zS) : Prop := (∀ k, ¬ (35 ≤ k ∧ k ≤ 38) → ¬ (41 ≤ k ∧ k ≤ 43) → ¬ (46 ≤ k ∧ k ≤ 51) → ¬ (57 ≤ k ∧ k ≤ 58) → τ'.1 k = τ.1 k) ∧ ∀ q, ¬ (23 ≤ q ∧ q ≤ 31) → τ'.2 q = τ.2 q
theorem xq_rfl {σ : zS} : xq σ σ := ⟨fun _ _ _ _ _ => rfl, fun _ _ _ _ _ => rfl⟩
theorem mq_rfl {σ : zS} : mq σ σ := ⟨fun _ _ _ _ _ => rfl, fun _ _ => rfl⟩
theorem xq_tr {a b c : zS} (h : xq a b) (g : xq b c) : xq a c := ⟨fun k h1 h2 h3 h4 => (g.1 k h1 h2 h3 h4).trans (h.1 k h1 h2 h3 h4), fun q h1 h2 h3 h4 => (g.2 q h1 h2 h3 h4).trans (h.2 q h1 h2 h3 h4)⟩
theorem mq_tr {a b c : zS} (h : mq a b) (g : mq b c) : mq a c := ⟨fun k h1 h2 h3 h4 => (g.1 k h1 h2 h3 h4).trans (h.1 k h1 h2 h3 h4), fun q h1 => (g.2 q h1).trans (h.2 q h1)⟩
theorem xq_3 {a b : zS} (h : xs3 a b) : xq a b := ⟨fun k _ _ _ h4 => h.1 k h4, fun q _ _ _ h4 => h.2 q (by omega) (by omega)⟩
theorem mq_3 {a b : zS} (h : ms3 a b) : mq a b := ⟨fun k _ _ _ _ => by rw [h.1], fun q h1 => h.2 q (by omega) (by omega)⟩
theorem R_s {σ σ' τ τ' : zS} (h : xq σ σ') (g : mq τ τ') (hR : R σ τ) : R σ' τ' := by
  obtain ⟨r1, r2, r3, r4, r5, r6, r7, r8, r9, r10⟩ := hR
  have f : ∀ k, ¬ (103 ≤ k ∧ k ≤ 108) ∧ ¬ (901 ≤ k ∧ k ≤ 908) ∧ ¬ (1001 ≤ k ∧ k ≤ 1008) ∧ k ≠ 1102 → σ'.1 k = σ.1 k := fun k q => h.1 k q.1 q.2.1 q.2.2.1 q.2.2.2
  have a : ∀ q, ¬ (12 ≤ q ∧ q ≤ 13) ∧ q ≠ 16 ∧ q ≠ 20 ∧ ¬ (32 ≤ q ∧ q ≤ 35) → σ'.2 q = σ.2 q := fun k q => h.2 k q.1 q.2.1 q.2.2.1 q.2.2.2
  have f' : ∀ k, ¬ (35 ≤ k ∧ k ≤ 38) ∧ ¬ (41 ≤ k ∧ k ≤ 43) ∧ ¬ (46 ≤ k ∧ k ≤ 51) ∧ ¬ (57 ≤ k ∧ k ≤ 58) → τ'.1 k = τ.1 k := fun k q => g.1 k q.1 q.2.1 q.2.2.1 q.2.2.2
  have a' : ∀ q, ¬ (23 ≤ q ∧ q ≤ 31) → τ'.2 q = τ.2 q := g.2
  refine ⟨RJ_s ⟨fun k q => f k (by omega), fun k q => a k (by omega)⟩ ⟨fun k q => f' k (by omega), fun k q => a' k (by omega)⟩ r1, ?_, ?_, ?_, ?_, ?_, ?_, ?_, ?_, ?_⟩
  · unfold R2; rw [f 503 (by omega), a 23 (by omega), a 24 (by omega), a 25 (by omega), f' 3 (by omega), f' 0 (by omega), a' 3 (by omega), a' 4 (by omega), a' 5 (by omega)]; exact r2
  · unfold R3; rw [f 15 (by omega), f' 7 (by omega)]; exact r3
  · unfold R4; rw [f 308 (by omega), a 21 (by omega), a 22 (by omega), f' 8 (by omega), a' 6 (by omega), a' 7 (by omega), a' 8 (by omega), a' 9 (by omega), a' 10 (by omega)]; exact r4
  · unfold R5; rw [f 602 (by omega), a 26 (by omega), a 27 (by omega), f' 14 (by omega), f' 3 (by omega), a' 11 (by omega), a' 12 (by omega)]; exact r5
  · unfold R6; rw [f 13 (by omega), a 14 (by omega), f' 17 (by omega), a' 13 (by omega)]; exact r6
  · unfold R7; rw [f 102 (by omega), a 15 (by omega), f' 20 (by omega), a' 14 (by omega)]; exact r7
  · unfold R8; rw [f 202 (by omega), f 14 (by omega), f 305 (by omega), f 306 (by omega), f 1043 (by omega), f 1044 (by omega), f 1045 (by omega), f 1046 (by omega), f 1047 (by omega), f 1048 (by omega), f 1049 (by omega), f 1050 (by omega), f 1051 (by omega), f 1052 (by omega), f 1053 (by omega), f 1054 (by omega), a 43 (by omega), a 44 (by omega), a 45 (by omega), a 46 (by omega), a 47 (by omega), a 48 (by omega), a 49 (by omega), a 50 (by omega), a 51 (by omega), a 52 (by omega), a 53 (by omega), a 54 (by omega), f' 23 (by omega), f' 24 (by omega), a' 15 (by omega), a' 16 (by omega)]; exact r8
  · unfold R9; rw [f 702 (by omega), f 703 (by omega), f 704 (by omega), f 705 (by omega), f 706 (by omega), a 28 (by omega), a 29 (by omega), f' 25 (by omega), f' 26 (by omega), f' 27 (by omega), f' 28 (by omega), f' 29 (by omega), f' 0 (by omega), f' 14 (by omega), f' 23 (by omega), a' 17 (by omega), a' 18 (by omega)]; exact r9
  · unfold R10; rw [a 30 (by omega), a 31 (by omega), a 37 (by omega), a 38 (by omega), a 39 (by omega), a 40 (by omega), a' 19 (by omega), a' 20 (by omega), a' 21 (by omega)]; exact r10
/-- houses of both -/
theorem R_h {σ τ : zS} (h : R σ τ) : σ.1 307 = τ.1 0 ∧ bd (τ.1 0) 20 := by
  obtain ⟨⟨c, e, ln, m, n, nr, pl, hu, -, -, -, ⟨k1, k2, -⟩, ⟨-, l2, -⟩, -⟩, -⟩ := h
  exact ⟨by rw [k2, l2], n, k1, l2⟩
/-! ===== near, far ===== -/
theorem hN_of {τ : zS} {c e : Nat → Nat} {ln m n nr : Nat} {pl hu : Nat → Nat} (hW : WF c ln e m) (hL : LM τ c ln e m) (hH : HM τ n nr pl hu) : hnr τ n (nrl c ln n nr pl hu) := by
  intro τ' hm a b ha hb
  obtain ⟨l1, l2, l3, l4, l5⟩ := hH
  have e1 : τ'.2 1 = τ.2 1 := hm.2 1 (by decide) (by decide)
  have e2 : τ'.2 2 = τ.2 2 := hm.2 2 (by decide) (by decide)
  obtain ⟨a1, a2, a3, a4⟩ := l5 a (by omega)
  obtain ⟨b1, b2, b3, b4⟩ := l5 b (by omega)
  obtain ⟨τ'', h1, h2⟩ := m_areNear (p := pl a) (q := pl b) (hs := hu a + hu b) (nh := n) (nr := nr) (LM_s hm hL) hW a1 b1 (by rw [hm.1]; exact l2) (by rw [hm.1]; exact l3)
  refine ⟨τ'', ?_, ms3_tr hm h2⟩
  unfold f_M_nearTwo
  rw [zin_n (by omega) (by decide), zin_n (by omega) (by decide), zin_n (by omega) (by decide), zin_n (by omega) (by decide), nI_clamp (by omega), nI_clamp (by omega), e1, e2, a3, a4, b3, b4, nI_add, h1, zbd_s, zbo_b]
  rfl
theorem sim_near : @zSim (Int32 × Int32) R (fun a => f_X_near a.1 a.2) (fun a => f_M_near a.1 a.2) := by
  intro ⟨x, y⟩ σ τ hR
  obtain ⟨hh, hb⟩ := R_h hR
  dsimp only
  unfold f_X_near f_M_near
  rw [vi_knows, m_isHouse hb, hh, zbd_s, zbd_s, vi_knows, m_isHouse hb, hh, zbd_s, zbd_s]
  by_cases h1 : 0 ≤ x ∧ x < τ.1 0
  · rw [bI_t h1]
    by_cases h2 : 0 ≤ y ∧ y < τ.1 0
    · rw [bI_t h2]
      simp only [if_neg (show ¬ (1 : Int32) = 0 by decide)]
      by_cases h3 : x = y
      · simp only [if_pos h3]
        exact ⟨_, _, _, rfl, rfl, hR⟩
      · simp only [if_neg h3]
        obtain ⟨⟨c, e, ln, m, n, nr, pl, hu, hW, hLX, hLM, hHX, hHM, jm, j1, j2⟩, -⟩ := id hR
        have hn : τ.1 0 = nI n := hHM.2.1
        have hn20 := hHM.1
        rw [hn] at h1 h2
        obtain ⟨a, ha, rfl⟩ := (kn_iff (by omega)).mp h1
        obtain ⟨b, hb', rfl⟩ := (kn_iff (by omega)).mp h2
        obtain ⟨τ', g1, g2⟩ := hN_of hW hLM hHM τ ms3_rfl a b ha hb'
        have hab : a ≠ b := fun q => h3 (by rw [q])
        rw [zin_n (by omega) (by decide), nI_clamp (by omega), j1 a (by omega), x_has (by have := (j2 a ha).1; omega) (by omega), g1]
        simp only [zbd_s]
        have e : bI ((jm a).testBit b = true) = bI (nrl c ln n nr pl hu a b = true) := by
          unfold bI
          by_cases q : nrl c ln n nr pl hu a b = true
          · rw [if_pos q, if_pos (((j2 a ha).2 b).mpr ⟨hb', hab, q⟩)]
          · rw [if_neg q, if_neg (fun w => q (((j2 a ha).2 b).mp w).2.2)]
        rw [e]
        have hR' := R_s xq_rfl (mq_3 g2) hR
        by_cases q : nrl c ln n nr pl hu a b = true
        · rw [bI_t q]
          exact ⟨1, σ, τ', rfl, rfl, hR'⟩
        · rw [bI_f q]
          exact ⟨0, σ, τ', rfl, rfl, hR'⟩
    · rw [bI_f h2]
      simp only [if_neg (show ¬ (1 : Int32) = 0 by decide), if_true]
      exact ⟨_, _, _, rfl, rfl, hR⟩
  · rw [bI_f h1]
    simp only [if_true]
    exact ⟨_, _, _, rfl, rfl, hR⟩
theorem sim_far : @zSim Int32 R (fun a => f_X_far a) (fun a => f_M_far a) := by
  intro x σ τ hR
  dsimp only
  unfold f_X_far f_M_far
  rw [x_isBit, m_in, zbd_s, zbd_s]
  by_cases h1 : 0 ≤ x ∧ x ≤ 1
  · rw [bI_t h1]
    simp only [if_neg (show ¬ (1 : Int32) = 0 by decide)]
    obtain ⟨⟨c, e, ln, m, n, nr, pl, hu, hW, hLX, hLM, hHX, hHM, hJ⟩, -⟩ := id hR
    obtain ⟨σ', g1, g2⟩ := x_farWith x hLX hW hHX.2.1 hHX.2.2.1
    obtain ⟨τ', g3, g4⟩ := m_farBy x hLM hW hHM.2.1 hHM.2.2.1
    rw [g1, g3]
    exact ⟨_, _, _, rfl, rfl, R_s (xq_3 g2) (mq_3 g4) hR⟩
  · rw [bI_f h1]
    simp only [if_true]
    exact ⟨_, _, _, rfl, rfl, hR⟩
