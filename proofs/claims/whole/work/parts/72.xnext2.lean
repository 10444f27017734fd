/-! ===== X's next, to its end ===== -/
theorem x_word39 {T : Nat → Nat} {n b e : Nat} {σ : zS} (hT : TXc σ T n) (h5 : σ.1 105 = nI b) (h6 : σ.1 106 = nI e) (hbe : b < e) (hen : e ≤ n) (hL : ∀ i, b ≤ i → i < e → isL (T i) = true) : f_Rd_takeWord_39 σ = some (0, zsg σ 107 (xt (wtk T b (e - b)))) := by
  have H : ∀ k, k < 12 → 1 ≤ k → f_Rd_isHere k σ = some (bI (e - b ≤ 7 ∧ pkw T b (e - b) = wpk.getD k 0), σ) := fun k h1 h2 => x_isHere hT h5 h6 hbe hen hL h1 h2
  unfold f_Rd_takeWord_39 f_Rd_takeWord_193 wtk wcode
  simp only [H 1 (by decide) (by decide), H 2 (by decide) (by decide), H 3 (by decide) (by decide), H 4 (by decide) (by decide), H 5 (by decide) (by decide), H 6 (by decide) (by decide), H 7 (by decide) (by decide), H 8 (by decide) (by decide), H 9 (by decide) (by decide), H 10 (by decide) (by decide), H 11 (by decide) (by decide), zbd_s, zlt_s, show wpk.getD 1 0 = 1852137842 from rfl, show wpk.getD 2 0 = 6709618 from rfl, show wpk.getD 3 0 = 28530 from rfl, show wpk.getD 4 0 = 6385252 from rfl, show wpk.getD 5 0 = 7237492 from rfl, show wpk.getD 6 0 = 418497262196 from rfl, show wpk.getD 7 0 = 1936286821 from rfl, show wpk.getD 8 0 = 1752527987 from rfl, show wpk.getD 9 0 = 114827921155443 from rfl, show wpk.getD 10 0 = 1819238758 from rfl, show wpk.getD 11 0 = 32195308547892595 from rfl]
  generalize pkw T b (e - b) = W
  by_cases h7 : e - b ≤ 7
  · simp only [h7, true_and, if_true]
    have hb : ∀ k : Nat, ∀ x y : Option (Int32 × zS), (if bI (W = k) = 0 then x else y) = if W = k then y else x := by
      intro k x y
      by_cases q : W = k
      · rw [bI_t q, if_neg one0, if_pos q]
      · rw [bI_f q, if_pos rfl, if_neg q]
    simp only [hb]
    by_cases q1 : W = 1852137842
    · simp only [q1, if_true]; rfl
    simp only [q1, if_false]
    by_cases q2 : W = 6709618
    · simp only [q2, if_true]; rfl
    simp only [q2, if_false]
    by_cases q3 : W = 28530
    · simp only [q3, if_true]; rfl
    simp only [q3, if_false]
    by_cases q4 : W = 6385252
    · simp only [q4, if_true]; rfl
    simp only [q4, if_false]
    by_cases q5 : W = 7237492
    · simp only [q5, if_true]; rfl
    simp only [q5, if_false]
    by_cases q6 : W = 418497262196
    · simp only [q6, if_true]; rfl
    simp only [q6, if_false]
    by_cases q7 : W = 1936286821
    · simp only [q7, if_true]; rfl
    simp only [q7, if_false]
    by_cases q8 : W = 1752527987
    · simp only [q8, if_true]; rfl
    simp only [q8, if_false]
    by_cases q9 : W = 114827921155443
    · simp only [q9, if_true]; rfl
    simp only [q9, if_false]
    by_cases q10 : W = 1819238758
    · simp only [q10, if_true]; rfl
    simp only [q10, if_false]
    by_cases q11 : W = 32195308547892595
    · simp only [q11, if_true]; rfl
    simp only [q11, if_false]
    rfl
  · have hb : ∀ k : Nat, bI (e - b ≤ 7 ∧ W = k) = 0 := fun k => bI_f (fun q => h7 q.1)
    simp only [hb, if_true, if_neg h7]
    rfl
theorem x_numL {T : Nat → Nat} {n b : Nat} {σ : zS} (hT : TXc σ T n) : ∀ (r e f : Nat) (σ' : zS), e + r = n → r < f → b ≤ e → xf σ σ' → σ'.1 105 = nI b → σ'.1 106 = nI e → (e - b ≤ 4 → σ'.1 108 = nI (nmv T b (e - b))) → ∃ σ'', f_Rd_takeNumber_5 f σ' = f_Rd_takeNumber_68 σ'' ∧ xf σ σ'' ∧ σ''.1 105 = nI b ∧ σ''.1 106 = nI (lru isD T r e) ∧ (lru isD T r e - b ≤ 4 → σ''.1 108 = nI (nmv T b (lru isD T r e - b))) := by
  intro r
  induction r with
  | zero =>
    intro e f σ' ha hf hbe hx h5 h6 h8
    obtain ⟨f, rfl⟩ : ∃ m, f = m + 1 := ⟨f - 1, by omega⟩
    refine ⟨σ', ?_, hx, h5, h6, h8⟩
    show f_Rd_takeNumber_5b _ _ = _
    unfold f_Rd_takeNumber_5b
    rw [h6, (TXc_s hx hT).1, if_pos (nI_le (by omega) (by have := hT.2.1; omega))]
  | succ r ih =>
    intro e f σ' ha hf hbe hx h5 h6 h8
    obtain ⟨f, rfl⟩ : ∃ m, f = m + 1 := ⟨f - 1, by omega⟩
    obtain ⟨t1, t2, t3⟩ := TXc_s hx hT
    obtain ⟨c1, c2⟩ := t3 e (by omega)
    have e0 : f_Rd_takeNumber_5 (f + 1) σ' = f_Rd_takeNumber_5b (fun σ => f_Rd_takeNumber_5 f σ) σ' := rfl
    rw [e0]
    unfold f_Rd_takeNumber_5b
    rw [h6, t1, if_neg (nI_ge (by omega) (by omega)), zin_n (by omega) (by decide), nI_clamp (by omega), c2, x_isDigit c1, zbd_s]
    dsimp only
    rw [h6, zin_n (by omega) (by decide), zlt_s, nI_clamp (by omega), c2, zlt_s, zgn (show 106 ≠ 108 by decide), h6, nI_1]
    show ∃ σ'' : zS, _ ∧ _ ∧ _ ∧ σ''.1 106 = nI (if isD (T e) = true then lru isD T r (e + 1) else e) ∧ ((if isD (T e) = true then lru isD T r (e + 1) else e) - b ≤ 4 → σ''.1 108 = nI (nmv T b ((if isD (T e) = true then lru isD T r (e + 1) else e) - b)))
    by_cases h1 : isD (T e) = true
    · rw [bI_t h1, if_neg one0, if_pos h1]
      refine ih (e + 1) f _ (by omega) (by omega) (by omega) (xf_g (xf_g hx (by omega)) (by omega)) ((zgn (by decide)).trans ((zgn (by decide)).trans h5)) (zgs _ _ _) (fun hl => ?_)
      rw [zgn (show 108 ≠ 106 by decide), zgs, h8 (by omega), show e + 1 - b = e - b + 1 by omega]
      have hd : 48 ≤ T e ∧ T e ≤ 57 := by
        unfold isD at h1
        rw [decide_eq_true_iff] at h1
        exact h1
      show _ = nI (10 * nmv T b (e - b) + (T (b + (e - b)) - 48))
      rw [show b + (e - b) = e by omega, show (10 : Int32) = nI 10 from rfl, nI_mul, nI_add, show (48 : Int32) = nI 48 from rfl, nI_sub (by omega)]
      congr 1
      omega
    · rw [bI_f h1, if_pos rfl, if_neg h1]
      exact ⟨σ', rfl, hx, h5, h6, h8⟩
theorem xt_n {q : Nat} (h : q < 10000) : xt q = 2 := if_pos h
/-- X's next from a place on -/
theorem x_next {T : Nat → Nat} {n a : Nat} {σ : zS} (hT : TXc σ T n) (ha : a ≤ n) (h6 : σ.1 106 = nI a) : ∃ σ', f_Rd_next σ = some (0, σ') ∧ xf σ σ' ∧ σ'.1 105 = nI (tB T n a) ∧ σ'.1 106 = nI (tE T n a) ∧ σ'.1 107 = xt (tK T n a) ∧ (tK T n a < 10000 → σ'.1 108 = nI (tK T n a)) := by
  have hn := hT.2.1
  obtain ⟨σ1, k1, k2, k3⟩ := x_skip hT (n - a) a zfu (zsg σ 105 (nI a)) (by omega) (by unfold zfu; omega) (xf_g xf_rfl (by omega)) (zgs _ _ _)
  have e0 : f_Rd_next σ = f_Rd_next_8 zfu (zsg σ 105 (nI a)) := by
    unfold f_Rd_next
    rw [zlt_s, h6]
  rw [e0, k1]
  have hb := tB_b (T := T) ha
  have k3 : σ1.1 105 = nI (tB T n a) := k3
  unfold tE tK
  generalize hbb : tB T n a = b at k3 hb ⊢
  unfold f_Rd_next_60
  rw [zlt_s]
  have hx1 : xf σ (zsg σ1 106 (σ1.1 105)) := xf_g k2 (by omega)
  have f5 : (zsg σ1 106 (σ1.1 105)).1 105 = nI b := (zgn (by decide)).trans k3
  have f6 : (zsg σ1 106 (σ1.1 105)).1 106 = nI b := by rw [zgs]; exact k3
  generalize zsg σ1 106 (σ1.1 105) = σ2 at hx1 f5 f6 ⊢
  have hT2 := TXc_s hx1 hT
  obtain ⟨t1, t2, t3⟩ := hT2
  rw [f5, t1]
  unfold eB kB
  by_cases h1 : n ≤ b
  · rw [if_neg (nI_nlt h1 (by omega)), zlt_s]
    simp only [if_pos h1]
    refine ⟨_, rfl, xf_g hx1 (by omega), ?_, ?_, ?_, fun h => absurd h (by decide)⟩
    · rw [zgn (by decide)]; exact f5
    · rw [zgn (by decide), f6, show b = n by omega]
    · rw [zgs]; rfl
  · rw [if_pos (nI_lt (by omega) (by omega)), zin_n (by omega) (by decide), nI_clamp (by omega), (t3 b (by omega)).2, x_isLetter (t3 b (by omega)).1, zbd_s]
    dsimp only
    simp only [if_neg h1]
    by_cases h2 : isL (T b) = true
    · rw [bI_t h2, if_neg one0]
      simp only [if_pos h2]
      obtain ⟨σ3, q1, q2, q3, q4⟩ := x_wordL hT (n - b) b zfu σ2 (by omega) (by unfold zfu; omega) hx1 f5 f6
      have hl := lru_b isL T (n - b) b
      have hl1 := lru_1 (r := n - b) (by omega) h2
      have q5 := x_word39 (TXc_s q2 hT) q3 q4 (by omega) (by omega) (fun i hi1 hi2 => lru_in isL T (n - b) b i hi1 hi2)
      have e1 : f_Rd_takeWord σ2 = some (0, zsg σ3 107 (xt (wtk T b (lru isL T (n - b) b - b)))) := by
        unfold f_Rd_takeWord
        rw [q1, q5]
      rw [e1, zbd_s]
      refine ⟨_, rfl, xf_g q2 (by omega), (zgn (by decide)).trans q3, (zgn (by decide)).trans q4, zgs _ _ _, fun h => ?_⟩
      exfalso
      have : ∀ W, ¬ wcode W < 10000 := by
        intro W
        unfold wcode
        repeat' split
        all_goals omega
      unfold wtk at h
      split at h
      · exact this _ h
      · omega
    · rw [bI_f h2, if_pos rfl]
      simp only [if_neg h2]
      rw [f5, zin_n (by omega) (by decide), nI_clamp (by omega), (t3 b (by omega)).2, x_isDigit (t3 b (by omega)).1, zbd_s]
      dsimp only
      by_cases h3 : isD (T b) = true
      · rw [bI_t h3, if_neg one0]
        simp only [if_pos h3]
        obtain ⟨σ3, q1, q2, q3, q4, q5⟩ := x_numL (b := b) hT (n - b) b zfu (zsg σ2 108 0) (by omega) (by unfold zfu; omega) (Nat.le_refl b) (xf_g hx1 (by omega)) ((zgn (by decide)).trans f5) ((zgn (by decide)).trans f6) (fun _ => by rw [zgs, Nat.sub_self]; rfl)
        have hl := lru_b isD T (n - b) b
        have hl1 := lru_1 (r := n - b) (by omega) h3
        have e1 : f_Rd_takeNumber σ2 = f_Rd_takeNumber_68 σ3 := by
          unfold f_Rd_takeNumber
          rw [zlt_s, q1]
        rw [e1]
        unfold f_Rd_takeNumber_68 f_Rd_takeNumber_87 ntk
        rw [q3, q4, nI_sub (by omega)]
        by_cases h4 : lru isD T (n - b) b - b ≤ 4
        · have hv : nmv T b (lru isD T (n - b) b - b) < 10000 := by
            have hn' : nmv T b (lru isD T (n - b) b - b) < 10 ^ (lru isD T (n - b) b - b) := nmv_b _ (fun i hi => by
              have := lru_in isD T (n - b) b (b + i) (by omega) (by omega)
              unfold isD at this
              rw [decide_eq_true_iff] at this
              omega)
            have : 10 ^ (lru isD T (n - b) b - b) ≤ 10 ^ 4 := Nat.pow_le_pow_right (by decide) h4
            omega
          rw [if_neg (show ¬ 4 < nI (lru isD T (n - b) b - b) from nI_nlt (a := 4) h4 (by decide)), if_pos h4, zlt_s, zbd_s, xt_n hv]
          exact ⟨_, rfl, xf_g q2 (by omega), (zgn (by decide)).trans q3, (zgn (by decide)).trans q4, zgs _ _ _, fun _ => (zgn (by decide)).trans (q5 h4)⟩
        · rw [if_pos (show 4 < nI (lru isD T (n - b) b - b) from nI_lt (a := 4) (by omega) (by omega)), if_neg h4, zlt_s, zbd_s]
          exact ⟨_, rfl, xf_g q2 (by omega), (zgn (by decide)).trans q3, (zgn (by decide)).trans q4, zgs _ _ _, fun h => absurd h (by decide)⟩
      · rw [bI_f h3, if_pos rfl]
        simp only [if_neg h3]
        rw [zlt_s, f5, nI_1, zgn (show 105 ≠ 106 by decide), f5, zin_n (by omega) (by decide), nI_clamp (by omega), zg2, (t3 b (by omega)).2, x_signOf (t3 b (by omega)).1, zbd_s, zlt_s]
        refine ⟨_, rfl, xf_g (xf_g hx1 (by omega)) (by omega), (zgn (by decide)).trans ((zgn (by decide)).trans f5), (zgn (by decide)).trans (zgs _ _ _), zgs _ _ _, fun h => ?_⟩
        exfalso
        unfold scode at h
        repeat' split at h
        all_goals omega
