/-! ===== operations after which houses are joined anew ===== -/
def RH (σ τ : zS) : Prop := ∃ (n nr : Nat) (pl hu : Nat → Nat), HX σ n nr pl hu ∧ HM τ n nr pl hu
theorem LX_r {σ σ' : zS} {c e : Nat → Nat} {n m : Nat} (f : ∀ k, (k = 305 ∨ k = 306 ∨ (1043 ≤ k ∧ k ≤ 1056)) → σ'.1 k = σ.1 k) (g : ∀ q, 43 ≤ q ∧ q ≤ 56 → σ'.2 q = σ.2 q) (hL : LX σ c n e m) : LX σ' c n e m := by
  obtain ⟨a, b, h1, h2, h3, h4, h5, h6, h7, h8, h9, h10⟩ := hL
  refine ⟨a, b, h1, h2, by rw [f 305 (by omega)]; exact h3, by rw [f 306 (by omega)]; exact h4, ?_, ?_, h7, h8, ?_, ?_⟩
  · unfold zln at h5 ⊢; rw [f _ (by omega)]; exact h5
  · unfold zln at h6 ⊢; rw [f _ (by omega)]; exact h6
  · intro i hi; rw [g a (by omega)]; exact h9 i hi
  · intro i hi; rw [g b (by omega)]; exact h10 i hi
theorem LM_r {τ τ' : zS} {c e : Nat → Nat} {n m : Nat} (f : τ'.1 24 = τ.1 24) (g : τ'.2 15 = τ.2 15) (g' : τ'.2 16 = τ.2 16) (hL : LM τ c n e m) : LM τ' c n e m := by
  obtain ⟨t, m1, m2, m3, m4, m5, m6, m7, m8⟩ := hL
  exact ⟨t, m1, by rw [f]; exact m2, by rw [g']; exact m3, by rw [g']; exact m4, by rw [g']; exact m5, m6, by rw [g]; exact m7, by rw [g]; exact m8⟩
theorem join_R {σ τ : zS} {c e : Nat → Nat} {ln m : Nat} (hW : WF c ln e m) (hL : LX σ c ln e m) (hM : LM τ c ln e m) (hH : RH σ τ) (r2 : R2 σ τ) (r3 : R3 σ τ) (r4 : R4 σ τ) (r5 : R5 σ τ) (r6 : R6 σ τ) (r7 : R7 σ τ) (r8 : R8 σ τ) (r9 : R9 σ τ) (r10 : R10 σ τ) : ∃ σ', f_Vi_joinAll σ = some (0, σ') ∧ (∀ k, k ≠ 1102 → σ'.1 k = σ.1 k) ∧ R σ' τ := by
  obtain ⟨n, nr, pl, hu, hX, hM2⟩ := hH
  obtain ⟨σ', h1, h2, h3⟩ := x_joinAll hW hL hX
  have f : ∀ k, k ≠ 1102 → σ'.1 k = σ.1 k := h2.1
  have a : ∀ q, q ≠ 19 ∧ q ≠ 34 ∧ q ≠ 35 → σ'.2 q = σ.2 q := fun q h => h2.2 q h.1 h.2.1 h.2.2
  refine ⟨σ', h1, h2.1, ⟨c, e, ln, m, n, nr, pl, hu, hW, LX_s4 h2 hL, hM, HX_s4 h2 hX, hM2, h3⟩, ?_, ?_, ?_, ?_, ?_, ?_, ?_, ?_, ?_⟩
  · unfold R2; rw [f 503 (by omega), a 23 (by omega), a 24 (by omega), a 25 (by omega)]; exact r2
  · unfold R3; rw [f 15 (by omega)]; exact r3
  · unfold R4; rw [f 308 (by omega), a 21 (by omega), a 22 (by omega)]; exact r4
  · unfold R5; rw [f 602 (by omega), a 26 (by omega), a 27 (by omega)]; exact r5
  · unfold R6; rw [f 13 (by omega), a 14 (by omega)]; exact r6
  · unfold R7; rw [f 102 (by omega), a 15 (by omega)]; exact r7
  · unfold R8; rw [f 202 (by omega), f 14 (by omega), f 305 (by omega), f 306 (by omega), f 1043 (by omega), f 1044 (by omega), f 1045 (by omega), f 1046 (by omega), f 1047 (by omega), f 1048 (by omega), f 1049 (by omega), f 1050 (by omega), f 1051 (by omega), f 1052 (by omega), f 1053 (by omega), f 1054 (by omega), a 43 (by omega), a 44 (by omega), a 45 (by omega), a 46 (by omega), a 47 (by omega), a 48 (by omega), a 49 (by omega), a 50 (by omega), a 51 (by omega), a 52 (by omega), a 53 (by omega), a 54 (by omega)]; exact r8
  · unfold R9; rw [f 702 (by omega), f 703 (by omega), f 704 (by omega), f 705 (by omega), f 706 (by omega), a 28 (by omega), a 29 (by omega)]; exact r9
  · unfold R10; rw [a 30 (by omega), a 31 (by omega), a 37 (by omega), a 38 (by omega), a 39 (by omega), a 40 (by omega)]; exact r10
theorem sim_house : @zSim (Int32 × Int32) R (fun a => f_X_house a.1 a.2) (fun a => f_M_house a.1 a.2) := by
  intro ⟨x, y⟩ σ τ hR
  dsimp only
  unfold f_X_house f_M_house
  rw [x_isPlace, m_isPlace, zbd_s, zbd_s]
  by_cases h1 : 0 ≤ x ∧ x ≤ 1599
  · rw [bI_t h1]
    simp only [if_neg one0]
    rw [x_isBit, m_in, zbd_s, zbd_s]
    by_cases h2 : 0 ≤ y ∧ y ≤ 1
    · rw [bI_t h2]
      simp only [if_neg one0]
      obtain ⟨p, hp, rfl⟩ := bd_of (N := 1599) (by decide) h1
      obtain ⟨u, hu1, rfl⟩ := bd_of (N := 1) (by decide) h2
      obtain ⟨⟨c, e, ln, m, n, nr, pl, hu, hW, hLX, hLM, ⟨x1, x2, x3, x4⟩, ⟨m1, m2, m3, m4, m5⟩, hJ⟩, ⟨a1, a2, a3, a4, a5, a6, a7, a8⟩, r3, r4, r5, r6, r7, r8, ⟨c1, c2, c3, c4, c5, c6, c7, c8, c9, c10, c11, c12, c13, c14, c15, c16, c17⟩, r10⟩ := id hR
      unfold f_Vi_add
      by_cases hn2 : n = 20
      · have e1 : ¬ σ.1 307 < 20 := by rw [x2, hn2]; decide
        have e2 : τ.1 0 = 20 := by rw [m2, hn2]; rfl
        rw [if_neg e1, if_pos e2]
        exact ⟨_, σ, τ, rfl, rfl, hR⟩
      · have e1 : σ.1 307 < 20 := by rw [x2]; exact nI_lt (show n < 20 by omega) (by decide)
        have e2 : ¬ τ.1 0 = 20 := by rw [m2]; exact fun q => hn2 ((nI_eq (by omega) (by decide)).mp q)
        rw [if_pos e1, if_neg e2]
        simp only [zlt_s, za1, zg1, x2, m2, zin_n (show n < 20 by omega) (show 20 < 2 ^ 31 by decide), nI_1]
        let σ1 := zsg (zsa (zsa σ 17 (nI n) (nI p)) 18 (nI n) (nI u)) 307 (nI (n + 1))
        let τ1 := zsg (zsa (zsa τ 1 (nI n) (nI p)) 2 (nI n) (nI u)) 0 (nI (n + 1))
        have hn31 : n < 2 ^ 31 := by omega
        have hH : RH σ1 τ1 := by
          refine ⟨n + 1, nr, fun i => if i = n then p else pl i, fun i => if i = n then u else hu i, ⟨by omega, rfl, x3, fun i hi => ?_⟩, ⟨by omega, rfl, m3, m4, fun i hi => ?_⟩⟩
          · show (if i = n then p else pl i) < 1600 ∧ (if i = n then u else hu i) ≤ 1 ∧ upd (σ.2 17) (nI n).toNatClampNeg (nI p) i = nI (if i = n then p else pl i) ∧ upd (σ.2 18) (nI n).toNatClampNeg (nI u) i = nI (if i = n then u else hu i)
            rw [nI_clamp hn31]
            unfold upd
            by_cases hi2 : i = n
            · simp only [if_pos hi2]; exact ⟨by omega, hu1, trivial, trivial⟩
            · simp only [if_neg hi2]; exact x4 i hi
          · show (if i = n then p else pl i) < 1600 ∧ (if i = n then u else hu i) ≤ 1 ∧ upd (τ.2 1) (nI n).toNatClampNeg (nI p) i = nI (if i = n then p else pl i) ∧ upd (τ.2 2) (nI n).toNatClampNeg (nI u) i = nI (if i = n then u else hu i)
            rw [nI_clamp hn31]
            unfold upd
            by_cases hi2 : i = n
            · simp only [if_pos hi2]; exact ⟨by omega, hu1, trivial, trivial⟩
            · simp only [if_neg hi2]; exact m5 i hi
        obtain ⟨σ', g1, g2, g3⟩ := join_R (σ := σ1) (τ := τ1) hW (LX_r (fun k hk => by show upd σ.1 307 _ k = _; unfold upd; rw [if_neg (by omega)]) (fun q hq => by show va_up (va_up σ.2 17 _) 18 _ q = _; unfold va_up; rw [if_neg (by omega), if_neg (by omega)]) hLX) (LM_r rfl rfl rfl hLM) hH ⟨a1, a2, a3, a4, a5, a6, a7, fun i hi hin => ⟨(a8 i hi hin).1, nI_ltL (a := n) (by rw [← m2]; exact (a8 i hi hin).2) (by omega) (by omega)⟩⟩ r3 r4 r5 r6 r7 r8 ⟨c1, c2, c3, c4, c5, c6, c7, c8, c9, c10, c11, Int32.le_trans (by rw [m2] at c12; exact c12) (nI_le (show n ≤ n + 1 by omega) (by omega)), c13, c14, c15, c16, c17⟩ r10
        refine ⟨nI (n + 1) - 1, σ', τ1, ?_, rfl, g3⟩
        show zbd (zbd (f_Vi_joinAll σ1) _) _ = _
        rw [g1, zbd_s, zbd_s, g2 307 (by decide)]
        rfl
    · rw [bI_f h2]
      simp only [if_true]
      exact ⟨_, _, _, rfl, rfl, hR⟩
  · rw [bI_f h1]
    simp only [if_true]
    exact ⟨_, _, _, rfl, rfl, hR⟩
theorem sim_hut : @zSim (Int32 × Int32) R (fun a => f_X_hut a.1 a.2) (fun a => f_M_hut a.1 a.2) := by
  intro ⟨x, y⟩ σ τ hR
  obtain ⟨hh, hb⟩ := R_h hR
  dsimp only
  unfold f_X_hut f_M_hut
  rw [vi_knows, m_isHouse hb, zbd_s, zbd_s, hh]
  by_cases h1 : 0 ≤ x ∧ x < τ.1 0
  · rw [bI_t h1]
    simp only [if_neg one0]
    rw [x_isBit, m_in, zbd_s, zbd_s]
    by_cases h2 : 0 ≤ y ∧ y ≤ 1
    · rw [bI_t h2]
      simp only [if_neg one0]
      obtain ⟨u, hu1, rfl⟩ := bd_of (N := 1) (by decide) h2
      obtain ⟨⟨c, e, ln, m, n, nr, pl, hu, hW, hLX, hLM, ⟨x1, x2, x3, x4⟩, ⟨m1, m2, m3, m4, m5⟩, hJ⟩, r2, r3, r4, r5, r6, r7, r8, r9, r10⟩ := id hR
      rw [m2] at h1
      obtain ⟨k, hk, rfl⟩ := (kn_iff (by omega)).mp h1
      have hk31 : k < 2 ^ 31 := by omega
      simp only [zlt_s, zin_n (show k < 20 by omega) (show 20 < 2 ^ 31 by decide), nI_clamp hk31]
      have hH : RH (zsa σ 18 (nI k) (nI u)) (zsa τ 2 (nI k) (nI u)) := by
        refine ⟨n, nr, pl, fun i => if i = k then u else hu i, ⟨x1, x2, x3, fun i hi => ?_⟩, ⟨m1, m2, m3, m4, fun i hi => ?_⟩⟩
        · show pl i < 1600 ∧ (if i = k then u else hu i) ≤ 1 ∧ σ.2 17 i = nI (pl i) ∧ upd (σ.2 18) (nI k).toNatClampNeg (nI u) i = nI (if i = k then u else hu i)
          rw [nI_clamp hk31]
          unfold upd
          obtain ⟨q1, q2, q3, q4⟩ := x4 i hi
          by_cases hi2 : i = k
          · simp only [if_pos hi2]; exact ⟨q1, hu1, q3, trivial⟩
          · simp only [if_neg hi2]; exact ⟨q1, q2, q3, q4⟩
        · show pl i < 1600 ∧ (if i = k then u else hu i) ≤ 1 ∧ τ.2 1 i = nI (pl i) ∧ upd (τ.2 2) (nI k).toNatClampNeg (nI u) i = nI (if i = k then u else hu i)
          rw [nI_clamp hk31]
          unfold upd
          obtain ⟨q1, q2, q3, q4⟩ := m5 i hi
          by_cases hi2 : i = k
          · simp only [if_pos hi2]; exact ⟨q1, hu1, q3, trivial⟩
          · simp only [if_neg hi2]; exact ⟨q1, q2, q3, q4⟩
      obtain ⟨σ', g1, g2, g3⟩ := join_R (σ := zsa σ 18 (nI k) (nI u)) (τ := zsa τ 2 (nI k) (nI u)) hW (LX_r (σ := σ) (fun k hk => rfl) (fun q hq => by show va_up σ.2 18 _ q = _; unfold va_up; rw [if_neg (by omega)]) hLX) (LM_r rfl rfl rfl hLM) hH r2 r3 r4 r5 r6 r7 r8 r9 r10
      rw [g1, zbd_s, (x4 k (by omega)).2.2.2, (m5 k (by omega)).2.2.2]
      exact ⟨_, _, _, rfl, rfl, g3⟩
    · rw [bI_f h2]
      simp only [if_true]
      exact ⟨_, _, _, rfl, rfl, hR⟩
  · rw [bI_f h1]
    simp only [if_true]
    exact ⟨_, _, _, rfl, rfl, hR⟩
theorem zsm_i {β : Type} {a : Nat} {x : Option β} (h : a < 2147483648) : zsm a x = x := if_pos h
theorem lst6 {α : Type} (f : Nat → α) (d : α) {t : Nat} (ht : t < 6) (b : Nat) : [f b, f (b + 1), f (b + 2), f (b + 3), f (b + 4), f (b + 5)].getD t d = f (b + t) := by
  have : t = 0 ∨ t = 1 ∨ t = 2 ∨ t = 3 ∨ t = 4 ∨ t = 5 := by omega
  rcases this with rfl | rfl | rfl | rfl | rfl | rfl <;> rfl
theorem enf_R {σ τ τ0 : zS} {t : Nat} (hr : τ.1 24 = nI t) (ht : nI t < τ.1 23) (ht6 : t < 2 ^ 31) (h8 : R8 σ τ0) (e23 : τ.1 23 = τ0.1 23) (e15 : τ.2 15 = τ0.2 15) (e16 : τ.2 16 = τ0.2 16) (hH : RH σ τ) (r2 : R2 σ τ) (r3 : R3 σ τ) (r4 : R4 σ τ) (r5 : R5 σ τ) (r6 : R6 σ τ) (r7 : R7 σ τ) (r9 : R9 σ τ) (r10 : R10 σ τ) : ∃ σ', f_X_enforce (nI t) σ = some (0, σ') ∧ σ'.1 307 = σ.1 307 ∧ R σ' τ := by
  obtain ⟨b1, -, T, r, t1, t2, t3, t4, -, -, -, t6⟩ := id h8
  rw [e23, t3] at ht
  have htT : t < T := (nI_ltI ht6 (by omega)).mp ht
  obtain ⟨c, e, n, m, hW, hnm, q1, q2, q3, q4, q5, q6, q7⟩ := t6 t htT
  let σ1 := zsg (zsg (zsg σ 14 (nI t)) 305 (nI (43 + t))) 306 (nI (49 + t))
  have q1' : σ.1 (1043 + t) = nI n := by
    rw [← lst6 σ.1 0 (show t < 6 by omega) 1043]; exact q1
  have q2' : σ.1 (1049 + t) = nI m := by
    rw [← lst6 σ.1 0 (show t < 6 by omega) 1049]; exact q2
  have p1 : ∀ i, [σ.2 43, σ.2 44, σ.2 45, σ.2 46, σ.2 47, σ.2 48].getD t (fun _ => 0) i = σ.2 (43 + t) i := fun i => congrFun (lst6 σ.2 (fun _ => 0) (show t < 6 by omega) 43) i
  have p2 : ∀ i, [σ.2 49, σ.2 50, σ.2 51, σ.2 52, σ.2 53, σ.2 54].getD t (fun _ => 0) i = σ.2 (49 + t) i := fun i => congrFun (lst6 σ.2 (fun _ => 0) (show t < 6 by omega) 49) i
  have hL : LX σ1 c n e m := by
    refine ⟨43 + t, 49 + t, by omega, by omega, rfl, rfl, ?_, ?_, by omega, by omega, fun i hi => ?_, fun i hi => ?_⟩
    · unfold zln
      show (upd (upd (upd σ.1 14 _) 305 _) 306 _ (1000 + (43 + t))).toNatClampNeg = n
      unfold upd
      rw [if_neg (by omega), if_neg (by omega), if_neg (by omega), show 1000 + (43 + t) = 1043 + t by omega, q1', nI_clamp (by omega)]
    · unfold zln
      show (upd (upd (upd σ.1 14 _) 305 _) 306 _ (1000 + (49 + t))).toNatClampNeg = m
      unfold upd
      rw [if_neg (by omega), if_neg (by omega), if_neg (by omega), show 1000 + (49 + t) = 1049 + t by omega, q2', nI_clamp (by omega)]
    · show σ.2 (43 + t) i = _
      rw [← p1]; exact (q6 i hi).1
    · show σ.2 (49 + t) i = _
      rw [← p2]; exact (q7 i hi).1
  have hM : LM τ c n e m := ⟨t, by omega, hr, by rw [e16]; exact q3, by rw [e16]; exact q4, by rw [e16]; exact q5, by omega, fun i hi => by rw [e15]; exact (q6 i hi).2, fun i hi => by rw [e15]; exact (q7 i hi).2⟩
  have h8' : R8 σ1 τ := by
    refine ⟨?_, ?_, T, t, t1, t2, ?_, htT, hr, rfl, rfl, ?_⟩
    · rw [e23]; exact b1
    · rw [hr]; rfl
    · rw [e23]; exact t3
    · intro t' ht'
      rw [e15, e16]
      exact t6 t' ht'
  obtain ⟨σ', g1, g2, g3⟩ := join_R (σ := σ1) (τ := τ) hW hL hM hH r2 r3 r4 r5 r6 r7 h8' r9 r10
  refine ⟨σ', ?_, g2 307 (by decide), g3⟩
  unfold f_X_enforce f_Vi_obey
  rw [zlt_s, zin_n (by omega) (by decide), zin_n (by omega) (by decide), nI_clamp (by omega), zsm_i (by omega), zlt_s, zsm_i (by omega), zlt_s]
  show zbd (zbd (f_Vi_joinAll σ1) _) _ = _
  rw [g1]
  rfl
theorem sim_force : @zSim Int32 R (fun a => f_X_force a) (fun a => f_M_force a) := by
  intro x σ τ hR
  dsimp only
  obtain ⟨⟨c, e, ln, m, n, nr, pl, hu, hW, hLX, hLM, hHX, hHM, hJ⟩, r2, r3, r4, r5, r6, r7, r8, r9, r10⟩ := id hR
  obtain ⟨b1, b2, T, r, t1, t2, t3, -⟩ := id r8
  unfold f_X_force f_M_force
  rw [tx_knows, m_in, zbd_s, zbd_s, b1, m_know (N := 6) (by decide) ⟨T, t2, t3⟩]
  by_cases h1 : 0 ≤ x ∧ x < τ.1 23
  · rw [bI_t h1]
    simp only [if_neg one0]
    have h1' := h1
    rw [t3] at h1'
    obtain ⟨t, ht, rfl⟩ := (kn_iff (by omega)).mp h1'
    obtain ⟨σ', g1, g2, g3⟩ := enf_R (σ := σ) (τ := zsg τ 24 (nI t)) (τ0 := τ) (t := t) rfl h1.2 (by omega) r8 rfl rfl rfl ⟨n, nr, pl, hu, hHX, hHM⟩ r2 r3 r4 r5 r6 r7 r9 r10
    rw [zlt_s, zlt_s, zlt_s, g1, zbd_s, b2]
    exact ⟨_, _, _, rfl, rfl, g3⟩
  · rw [bI_f h1]
    simp only [if_true]
    exact ⟨_, _, _, rfl, rfl, hR⟩
