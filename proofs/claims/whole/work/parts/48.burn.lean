/-! ===== burn, count ===== -/
theorem p31 {m : Nat} (h : m < 2 ^ 20) : m < 2 ^ 31 := by omega
theorem lt20 {m n : Nat} (hn : n ≤ 20) (h : m < 2 ^ n) : m < 2 ^ 20 := Nat.lt_of_lt_of_le h (Nat.pow_le_pow_right (by decide) hn)
theorem isC_0 {N : Nat → Nat → Bool} {n : Nat} : isC N n 0 0 0 := ⟨sb_rfl, (fun a b _ _ h => by rw [Nat.zero_testBit] at h; cases h), fun D _ _ => sb_0⟩
theorem low_lt {r l n : Nat} (h : lowB r l) (hr : r < 2 ^ n) : l < n := tb_lt hr h.1
theorem burn_L {σ τ : zS} {n W : Nat} {N : Nat → Nat → Bool} (hX : TX σ n N) (hM : TM τ n N) (hW : W < 2 ^ n) : ∀ (r k f f' acc : Nat) (τ' : zS), k + r = n → r < f → r < f' → ms3 τ τ' → ∃ (v : Int32) (τ'' : zS), f_Vi_heldBy_11 f (nI W) (nI acc) (nI k) σ = some (v, σ) ∧ f_M_burn_21 f' (nI W) (nI acc) (nI k) τ' = some (v, τ'') ∧ ms3 τ τ'' := by
  have hn20 := hX.2.1
  have hW20 : W < 2 ^ 20 := lt20 hn20 hW
  intro r
  induction r with
  | zero =>
    intro k f f' acc τ' hk hf hf' hm
    obtain ⟨f, rfl⟩ : ∃ m, f = m + 1 := ⟨f - 1, by omega⟩
    obtain ⟨f', rfl⟩ : ∃ m, f' = m + 1 := ⟨f' - 1, by omega⟩
    refine ⟨nI acc, τ', ?_, ?_, hm⟩
    · show f_Vi_heldBy_11b _ _ _ _ _ = _
      unfold f_Vi_heldBy_11b
      rw [hX.1, if_pos (nI_le (by omega) (by omega))]
    · show f_M_burn_21b _ _ _ _ _ = _
      unfold f_M_burn_21b
      rw [(TM_s hm hM).1, if_pos (nI_le (by omega) (by omega))]
  | succ r ih =>
    intro k f f' acc τ' hk hf hf' hm
    obtain ⟨f, rfl⟩ : ∃ m, f = m + 1 := ⟨f - 1, by omega⟩
    obtain ⟨f', rfl⟩ : ∃ m, f' = m + 1 := ⟨f' - 1, by omega⟩
    have hM' := TM_s hm hM
    have eX : f_Vi_heldBy_11 (f + 1) (nI W) (nI acc) (nI k) σ = f_Vi_heldBy_11b (fun x2 x3 x4 σ => f_Vi_heldBy_11 f x2 x3 x4 σ) (nI W) (nI acc) (nI k) σ := rfl
    have eM : f_M_burn_21 (f' + 1) (nI W) (nI acc) (nI k) τ' = f_M_burn_21b (fun x2 x3 x4 σ => f_M_burn_21 f' x2 x3 x4 σ) (nI W) (nI acc) (nI k) τ' := rfl
    rw [eX, eM]
    unfold f_Vi_heldBy_11b f_M_burn_21b f_Vi_heldBy_67 f_M_burn_82 f_M_burn_80 f_M_burn_82
    rw [hX.1, hM'.1, if_neg (nI_ge (by omega) (by omega)), if_neg (nI_ge (by omega) (by omega)), zlt_s, zlt_s, zlt_s, nb_shl (by omega), and_not hW20 (by omega), x_has (p31 hW20) (by omega), zbd_s, nI_1]
    have hr20 : rst W k < 2 ^ 20 := rst_lt hW20
    have hrn : rst W k < 2 ^ n := rst_lt hW
    by_cases hb : W.testBit k = true
    · rw [bI_t hb, if_neg one0, if_pos ((has_1 (p31 hW20) (by omega)).mpr hb)]
      by_cases h0 : rst W k = 0
      · rw [h0]
        have e1 : nI 0 &&& -(nI 0) = nI 0 := by decide
        obtain ⟨g1, -, -⟩ := x_cls (s := 0) (c := 0) (al := nI 0) hX (fun m _ => nb_and m 0) (Nat.two_pow_pos n)
        rw [e1, g1, zbd_s, cls_eq isC_0, if_pos rfl, if_pos (show nI 0 = 0 from rfl)]
        exact ih (k + 1) f f' acc τ' (by omega) (by omega) (by omega) hm
      · obtain ⟨l, hl, e2, hlow⟩ := m_lowBit (τ := τ') hr20 h0
        have hln : l < n := low_lt hlow hrn
        obtain ⟨g1, -, -⟩ := x_cls (s := rst W k) (c := 2 ^ l) (al := nI (rst W k)) hX (fun m _ => nb_and m (rst W k)) (pow_lt hln)
        obtain ⟨τ2, g2, g3, g4, -⟩ := m_cls (s := rst W k) hM' (p31 hr20) hln
        have hm2 := ms3_tr hm g3
        rw [and_neg hr20 hlow, g1, zbd_s, if_neg (show ¬ nI (rst W k) = 0 from fun q => h0 ((nI_eq (b := 0) (p31 hr20) (by decide)).mp q)), e2, zbd_s]
        dsimp only
        rw [g2, zbd_s]
        dsimp only
        by_cases h5 : nI (cls N n (rst W k) (2 ^ l)) = nI (rst W k)
        · rw [if_pos h5, if_pos h5, zlt_s, show nI acc ||| (0 : Int32) = nI acc from Int32.or_zero]
          exact ih (k + 1) f f' acc τ2 (by omega) (by omega) (by omega) hm2
        · rw [if_neg h5, if_neg h5, zlt_s, zlt_s, nb_or]
          exact ih (k + 1) f f' (acc ||| 2 ^ k) τ2 (by omega) (by omega) (by omega) hm2
    · rw [bI_f hb, if_pos rfl, if_neg (fun q => hb ((has_1 (p31 hW20) (by omega)).mp q))]
      exact ih (k + 1) f f' acc τ' (by omega) (by omega) (by omega) hm
theorem sim_burn : @zSim Int32 R (fun a => f_X_burn a) (fun a => f_M_burn a) := by
  intro x σ τ hR
  obtain ⟨hh, hb⟩ := R_h hR
  obtain ⟨n, N, hX, hM⟩ := R_T hR
  dsimp only
  unfold f_X_burn f_M_burn f_Vi_heldBy
  rw [vi_knows, m_isHouse hb, zbd_s, zbd_s, hh, hM.1]
  by_cases h1 : 0 ≤ x ∧ x < nI n
  · rw [bI_t h1]
    simp only [if_neg one0]
    have hn20 := hX.2.1
    obtain ⟨h, hh', rfl⟩ := (kn_iff (by omega)).mp h1
    obtain ⟨τ', g1, g2⟩ := m_townOf hM hh'
    obtain ⟨v, τ2, e1, e2, e3⟩ := burn_L hX hM (tw_isC hX hh').2 n 0 zfu zfu 0 τ' (by omega) (by unfold zfu; omega) (by unfold zfu; omega) g2
    rw [show nI 0 = (0 : Int32) from rfl] at e1 e2
    rw [x_townOf hX hh', g1]
    simp only [zbd_s]
    rw [e1, e2]
    exact ⟨_, _, _, rfl, rfl, R_s xq_rfl (mq_3 e3) hR⟩
  · rw [bI_f h1]
    simp only [if_true]
    exact ⟨_, _, _, rfl, rfl, hR⟩
theorem count_L {σ τ : zS} {n : Nat} {N : Nat → Nat → Bool} (hX : TX σ n N) (hM : TM τ n N) : ∀ (r k f f' acc : Nat) (cnt : Int32) (τ' : zS), k + r = n → r < f → r < f' → acc < 2 ^ n → ms3 τ τ' → ∃ (v : Int32) (τ'' : zS), f_Vi_countTowns_6 f (nI acc) cnt (nI k) σ = some (v, σ) ∧ f_M_count_64 f' cnt (nI acc) (nI k) τ' = some (v, τ'') ∧ ms3 τ τ'' := by
  have hn20 := hX.2.1
  intro r
  induction r with
  | zero =>
    intro k f f' acc cnt τ' hk hf hf' _ hm
    obtain ⟨f, rfl⟩ : ∃ m, f = m + 1 := ⟨f - 1, by omega⟩
    obtain ⟨f', rfl⟩ : ∃ m, f' = m + 1 := ⟨f' - 1, by omega⟩
    refine ⟨cnt, τ', ?_, ?_, hm⟩
    · show f_Vi_countTowns_6b _ _ _ _ _ = _
      unfold f_Vi_countTowns_6b
      rw [hX.1, if_pos (nI_le (by omega) (by omega))]
    · show f_M_count_64b _ _ _ _ _ = _
      unfold f_M_count_64b
      rw [(TM_s hm hM).1, if_pos (nI_le (by omega) (by omega))]
  | succ r ih =>
    intro k f f' acc cnt τ' hk hf hf' hacc hm
    obtain ⟨f, rfl⟩ : ∃ m, f = m + 1 := ⟨f - 1, by omega⟩
    obtain ⟨f', rfl⟩ : ∃ m, f' = m + 1 := ⟨f' - 1, by omega⟩
    have hM' := TM_s hm hM
    have eX : f_Vi_countTowns_6 (f + 1) (nI acc) cnt (nI k) σ = f_Vi_countTowns_6b (fun x1 x2 x3 σ => f_Vi_countTowns_6 f x1 x2 x3 σ) (nI acc) cnt (nI k) σ := rfl
    have eM : f_M_count_64 (f' + 1) cnt (nI acc) (nI k) τ' = f_M_count_64b (fun x2 x3 x4 σ => f_M_count_64 f' x2 x3 x4 σ) cnt (nI acc) (nI k) τ' := rfl
    rw [eX, eM]
    have ha20 := lt20 hn20 hacc
    unfold f_Vi_countTowns_6b f_M_count_64b f_Vi_countTowns_33 f_M_count_94
    rw [hX.1, hM'.1, if_neg (nI_ge (by omega) (by omega)), if_neg (nI_ge (by omega) (by omega)), x_has (p31 ha20) (by omega), zbd_s]
    by_cases hb : acc.testBit k = true
    · rw [bI_t hb, if_neg one0, if_neg (fun q => (has_0 (p31 ha20) (by omega)).mp q hb), nI_1]
      exact ih (k + 1) f f' acc cnt τ' (by omega) (by omega) (by omega) hacc hm
    · obtain ⟨τ2, g1, g2⟩ := m_townOf hM' (show k < n by omega)
      rw [bI_f hb, if_pos rfl, if_pos ((has_0 (p31 ha20) (by omega)).mpr hb), g1, zbd_s]
      dsimp only
      rw [x_townOf hX (show k < n by omega), zbd_s, zlt_s, zlt_s, nb_or, nI_1]
      exact ih (k + 1) f f' (acc ||| twn N n k) (cnt + 1) τ2 (by omega) (by omega) (by omega) (or_lt hacc (tw_isC hX (by omega)).2) (ms3_tr hm g2)
theorem sim_count : @zSim Int32 R (fun a => f_X_count a) (fun a => f_M_count a) := by
  intro x σ τ hR
  obtain ⟨hh, hb⟩ := R_h hR
  obtain ⟨n, N, hX, hM⟩ := R_T hR
  obtain ⟨⟨c, e, ln, m, n', nr, pl, hu, hW, hLX, hLM, hHX, hHM, hJ⟩, r2, r3, r4, r5, r6, r7, r8, -⟩ := id hR
  dsimp only
  unfold f_X_count f_M_count f_Vi_countTowns
  by_cases h : x = 0
  · rw [if_pos h, if_pos h, hh]; exact ⟨_, _, _, rfl, rfl, hR⟩
  rw [if_neg h, if_neg h]
  by_cases h : x = 1
  · rw [if_pos h, if_pos h]
    obtain ⟨v, τ2, e1, e2, e3⟩ := count_L hX hM n 0 zfu zfu 0 0 τ (by omega) (by have := hX.2.1; unfold zfu; omega) (by have := hX.2.1; unfold zfu; omega) (Nat.two_pow_pos n) ms3_rfl
    rw [show nI 0 = (0 : Int32) from rfl] at e1 e2
    rw [e1, e2]
    exact ⟨_, _, _, rfl, rfl, R_s xq_rfl (mq_3 e3) hR⟩
  rw [if_neg h, if_neg h]
  by_cases h : x = 2
  · rw [if_pos h, if_pos h, r2.1]; exact ⟨_, _, _, rfl, rfl, hR⟩
  rw [if_neg h, if_neg h]
  by_cases h : x = 3
  · rw [if_pos h, if_pos h, r4.1]; exact ⟨_, _, _, rfl, rfl, hR⟩
  rw [if_neg h, if_neg h]
  by_cases h : x = 4
  · rw [if_pos h, if_pos h, r5.1]; exact ⟨_, _, _, rfl, rfl, hR⟩
  rw [if_neg h, if_neg h]
  by_cases h : x = 5
  · rw [if_pos h, if_pos h, r6.1]; exact ⟨_, _, _, rfl, rfl, hR⟩
  rw [if_neg h, if_neg h]
  by_cases h : x = 6
  · rw [if_pos h, if_pos h, r8.1]; exact ⟨_, _, _, rfl, rfl, hR⟩
  rw [if_neg h, if_neg h]
  by_cases h : x = 7
  · rw [if_pos h, if_pos h, r8.2.1]; exact ⟨_, _, _, rfl, rfl, hR⟩
  rw [if_neg h, if_neg h]
  by_cases h : x = 8
  · rw [if_pos h, if_pos h, r7.1]; exact ⟨_, _, _, rfl, rfl, hR⟩
  rw [if_neg h, if_neg h]
  exact ⟨_, _, _, rfl, rfl, hR⟩
