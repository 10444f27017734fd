/-! ===== the reference's next, to its end ===== -/
theorem m_sign {c b : Nat} (hc : c ≤ 255) {τ : zS} (h5 : τ.1 35 = nI b) : (if nI c = 40 then f_M_next_358 (nI c) τ else (if nI c = 41 then f_M_next_358 (nI c) τ else (if nI c = 59 then f_M_next_358 (nI c) τ else (if nI c = 43 then f_M_next_358 (nI c) τ else (if nI c = 45 then f_M_next_358 (nI c) τ else (if nI c = 42 then f_M_next_358 (nI c) τ else (if nI c = 60 then f_M_next_358 (nI c) τ else (if nI c = 61 then f_M_next_358 (nI c) τ else f_M_next_363 (nI c) 0 τ)))))))) = some (0, zsg (zsg τ 37 (mtk (scode c))) 35 (nI (b + 1))) := by
  have e1 : f_M_next_358 (nI c) τ = some (0, zsg (zsg τ 37 (nI c)) 35 (nI (b + 1))) := by
    unfold f_M_next_358 f_M_next_363 f_M_next_374
    rw [if_neg one0, zlt_s, zlt_s, zgn (show 35 ≠ 37 by decide), h5, nI_1]
  have e2 : f_M_next_363 (nI c) 0 τ = some (0, zsg (zsg τ 37 (-1)) 35 (nI (b + 1))) := by
    unfold f_M_next_363 f_M_next_374
    rw [if_pos rfl, zlt_s, zlt_s, zgn (show 35 ≠ 37 by decide), h5, nI_1]
  rw [e1, e2]
  simp only [show (40 : Int32) = nI 40 from rfl, show (41 : Int32) = nI 41 from rfl, show (42 : Int32) = nI 42 from rfl, show (43 : Int32) = nI 43 from rfl, show (45 : Int32) = nI 45 from rfl, show (59 : Int32) = nI 59 from rfl, show (60 : Int32) = nI 60 from rfl, show (61 : Int32) = nI 61 from rfl, cI hc 40 (by decide), cI hc 41 (by decide), cI hc 42 (by decide), cI hc 43 (by decide), cI hc 45 (by decide), cI hc 59 (by decide), cI hc 60 (by decide), cI hc 61 (by decide)]
  by_cases q1 : c = 40
  · subst q1; rfl
  by_cases q2 : c = 41
  · subst q2; rfl
  by_cases q3 : c = 59
  · subst q3; rfl
  by_cases q4 : c = 43
  · subst q4; rfl
  by_cases q5 : c = 45
  · subst q5; rfl
  by_cases q6 : c = 42
  · subst q6; rfl
  by_cases q7 : c = 60
  · subst q7; rfl
  by_cases q8 : c = 61
  · subst q8; rfl
  have hs : scode c = 30001 := by
    unfold scode
    rw [if_neg q1, if_neg q2, if_neg q6, if_neg q4, if_neg q5, if_neg q3, if_neg q7, if_neg q8]
  rw [if_neg q1, if_neg q2, if_neg q3, if_neg q4, if_neg q5, if_neg q6, if_neg q7, if_neg q8, hs]
  rfl
/-- the reference's next from a place on -/
theorem m_next {T : Nat → Nat} {n a : Nat} {τ : zS} (hT : TMc τ T n) (ha : a ≤ n) (h5 : τ.1 35 = nI a) : ∃ τ', f_M_next τ = some (0, τ') ∧ mf τ τ' ∧ τ'.1 36 = nI (tB T n a) ∧ τ'.1 35 = nI (tE T n a) ∧ τ'.1 37 = mtk (tK T n a) ∧ ((tK T n a < 10006 ∨ tK T n a = 30002 ∨ tK T n a = 30003) → τ'.1 38 = nI (mvl (tK T n a))) := by
  have hn := hT.2.1
  obtain ⟨τ1, k1, k2, k3⟩ := m_skip hT (n - a) a zfu τ (by omega) (by unfold zfu; omega) mf_rfl h5
  have e0 : f_M_next τ = f_M_next_52 τ1 := k1
  rw [e0]
  have hb := tB_b (T := T) ha
  have k3 : τ1.1 35 = nI (tB T n a) := k3
  unfold tE tK
  generalize hbb : tB T n a = b at k3 hb ⊢
  unfold f_M_next_52
  rw [zlt_s, zlt_s, zlt_s]
  have hx1 : mf τ (zsg (zsg (zsg τ1 36 (τ1.1 35)) 37 0) 38 0) := mf_g (mf_g (mf_g k2 (by omega)) (by omega)) (by omega)
  have f5 : (zsg (zsg (zsg τ1 36 (τ1.1 35)) 37 0) 38 0).1 35 = nI b := by rw [zgn (by decide), zgn (by decide), zgn (by decide)]; exact k3
  have f6 : (zsg (zsg (zsg τ1 36 (τ1.1 35)) 37 0) 38 0).1 36 = nI b := by rw [zgn (by decide), zgn (by decide), zgs]; exact k3
  have f7 : (zsg (zsg (zsg τ1 36 (τ1.1 35)) 37 0) 38 0).1 37 = 0 := by rw [zgn (by decide), zgs]
  have f8 : (zsg (zsg (zsg τ1 36 (τ1.1 35)) 37 0) 38 0).1 38 = 0 := zgs _ _ _
  generalize zsg (zsg (zsg τ1 36 (τ1.1 35)) 37 0) 38 0 = τ2 at hx1 f5 f6 f7 f8 ⊢
  have hT2 := TMc_s hx1 hT
  obtain ⟨t1, t2, t3⟩ := hT2
  rw [f5, t1]
  unfold eB kB
  by_cases h1 : n ≤ b
  · rw [if_pos (show nI b = nI n by rw [show b = n by omega])]
    simp only [if_pos h1]
    refine ⟨τ2, rfl, hx1, f6, ?_, f7, fun h => absurd h (by decide)⟩
    rw [f5, show b = n by omega]
  · rw [if_neg (fun q => absurd ((nI_eq (by omega) (by omega)).mp q) (by omega)), zin_n (by omega) (by decide), nI_clamp (by omega), (t3 b (by omega)).2, zlt_s, m_inL (t3 b (by omega)).1, zbd_s]
    dsimp only
    simp only [if_neg h1]
    by_cases h2 : isL (T b) = true
    · rw [bI_t h2, if_neg one0]
      simp only [if_pos h2]
      obtain ⟨x', τ3, q1, q2, q3, q4, q5⟩ := m_letL (b := b) hT (n - b) b zfu (0 : Int64) τ2 (by omega) (by unfold zfu; omega) (Nat.le_refl b) hx1 f5 (fun _ => by rw [Nat.sub_self]; rfl)
      have hl := lru_b isL T (n - b) b
      have e1 : f_M_letters τ2 = f_M_letters_76 x' (nI (lru isL T (n - b) b - b)) τ3 := by
        rw [Nat.sub_self] at q1
        exact q1
      rw [e1]
      unfold f_M_letters_76 wtk
      have g6 : τ3.1 36 = nI b := (q3 36 (by decide)).trans f6
      by_cases h7 : lru isL T (n - b) b - b ≤ 7
      · rw [if_pos (show nI (lru isL T (n - b) b - b) ≤ 7 from nI_le (b := 7) h7 (by decide)), zbd_s]
        dsimp only
        rw [q5 h7]
        simp only [if_pos h7]
        have hW : pkw T b (lru isL T (n - b) b - b) < 2 ^ 63 := by
          have h9 : pkw T b (lru isL T (n - b) b - b) < 256 ^ (lru isL T (n - b) b - b) := pkw_lt _ (fun i hi => by have := (t3 (b + i) (by omega)).1; omega)
          have : 256 ^ (lru isL T (n - b) b - b) ≤ 256 ^ 7 := Nat.pow_le_pow_right (by decide) h7
          omega
        obtain ⟨v, w1, w2⟩ := fnd_tok hW τ3
        have e2 := m_111 (x := lN (pkw T b (lru isL T (n - b) b - b))) (τ := τ3) 11 0 zfu (by omega) (by decide)
        rw [show nI 0 = (0 : Int32) from rfl] at e2
        rw [e2, w1]
        refine ⟨_, rfl, mf_g (mf_g q2 (by omega)) (by omega), ?_, ?_, ?_, fun h => ?_⟩
        · rw [zgn (by decide), zgn (by decide)]; exact g6
        · rw [zgn (by decide), zgn (by decide)]; exact q4
        · rw [zgn (by decide), zgs]
        · rw [zgs]; exact w2 h
      · rw [if_neg (show ¬ nI (lru isL T (n - b) b - b) ≤ 7 from nI_ge (a := 7) (by omega) (by omega)), zbd_s]
        dsimp only
        simp only [if_neg h7]
        have e2 := m_111 (x := 0) (τ := τ3) 11 0 zfu (by omega) (by decide)
        rw [show nI 0 = (0 : Int32) from rfl, show fnd 0 11 0 = 11 by decide] at e2
        rw [e2, show f_M_next_136 (nI 11) τ3 = some (0, zsg (zsg τ3 37 (-1)) 38 9) from rfl]
        refine ⟨_, rfl, mf_g (mf_g q2 (by omega)) (by omega), ?_, ?_, ?_, fun h => absurd h (by decide)⟩
        · rw [zgn (by decide), zgn (by decide)]; exact g6
        · rw [zgn (by decide), zgn (by decide)]; exact q4
        · rw [zgn (by decide), zgs]; rfl
    · rw [bI_f h2, if_pos rfl]
      simp only [if_neg h2]
      rw [m_inD (t3 b (by omega)).1, zbd_s]
      dsimp only
      by_cases h3 : isD (T b) = true
      · rw [bI_t h3, if_neg one0]
        simp only [if_pos h3]
        obtain ⟨τ3, q1, q2, q3, q4, q5⟩ := m_numL (b := b) hT (n - b) b zfu τ2 (by omega) (by unfold zfu; omega) (Nat.le_refl b) hx1 f5 (fun _ => by rw [f8, Nat.sub_self]; rfl)
        have hl := lru_b isD T (n - b) b
        rw [Nat.sub_self] at q1
        have e1 : f_M_next_214 zfu 0 τ2 = f_M_next_293 (nI (lru isD T (n - b) b - b)) τ3 := q1
        rw [e1]
        unfold f_M_next_293 f_M_next_304 ntk
        have g6 : τ3.1 36 = nI b := q3.trans f6
        by_cases h4 : lru isD T (n - b) b - b ≤ 4
        · have hv : nmv T b (lru isD T (n - b) b - b) < 10000 := by
            have hn' : nmv T b (lru isD T (n - b) b - b) < 10 ^ (lru isD T (n - b) b - b) := nmv_b _ (fun i hi => by
              have := lru_in isD T (n - b) b (b + i) (by omega) (by omega)
              unfold isD at this
              rw [decide_eq_true_iff] at this
              omega)
            have : 10 ^ (lru isD T (n - b) b - b) ≤ 10 ^ 4 := Nat.pow_le_pow_right (by decide) h4
            omega
          rw [if_pos (show nI (lru isD T (n - b) b - b) ≤ 4 from nI_le (b := 4) h4 (by decide)), zlt_s]
          simp only [if_pos h4]
          refine ⟨_, rfl, mf_g q2 (by omega), (zgn (by decide)).trans g6, (zgn (by decide)).trans q4, ?_, fun _ => ?_⟩
          · rw [zgs]; unfold mtk; rw [if_pos hv]
          · rw [zgn (by decide), q5 h4]; unfold mvl; rw [if_pos hv]
        · rw [if_neg (show ¬ nI (lru isD T (n - b) b - b) ≤ 4 from nI_ge (a := 4) (by omega) (by omega)), zlt_s]
          simp only [if_neg h4]
          exact ⟨_, rfl, mf_g q2 (by omega), (zgn (by decide)).trans g6, (zgn (by decide)).trans q4, zgs _ _ _, fun h => absurd h (by decide)⟩
      · rw [bI_f h3, if_pos rfl]
        simp only [if_neg h3]
        rw [m_sign (t3 b (by omega)).1 f5]
        refine ⟨_, rfl, mf_g (mf_g hx1 (by omega)) (by omega), ?_, zgs _ _ _, ?_, fun h => ?_⟩
        · rw [zgn (by decide), zgn (by decide)]; exact f6
        · rw [zgn (by decide), zgs]
        · exfalso
          revert h
          unfold scode
          repeat' split
          all_goals omega
