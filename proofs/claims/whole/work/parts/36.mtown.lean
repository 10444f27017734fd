/-! ===== the reference: what is reached ===== -/
def ms3 (τ τ' : zS) : Prop := τ'.1 = τ.1 ∧ ∀ q, q ≠ 24 → q ≠ 25 → τ'.2 q = τ.2 q
theorem ms3_rfl {τ : zS} : ms3 τ τ := ⟨rfl, fun _ _ _ => rfl⟩
theorem ms3_tr {a b c : zS} (h : ms3 a b) (g : ms3 b c) : ms3 a c := ⟨g.1.trans h.1, fun q h1 h2 => (g.2 q h1 h2).trans (h.2 q h1 h2)⟩
/-- whether two houses are near, as the reference tells it -/
def hnr (τ : zS) (n : Nat) (nr : Nat → Nat → Bool) : Prop := ∀ τ', ms3 τ τ' → ∀ a b, a < n → b < n → ∃ τ'', f_M_nearTwo (nI a) (nI b) τ' = some (bI (nr a b = true), τ'') ∧ ms3 τ τ''
theorem pow_lt {b n : Nat} (h : b < n) : 2 ^ b < 2 ^ n := Nat.pow_lt_pow_right (by decide) h
theorem m_rinner {k7 : Int32 → Int32 → Int32 → zS → Option (Int32 × zS)} {k16 : Int32 → Int32 → Int32 → Int32 → zS → Option (Int32 × zS)} {τ : zS} {nr : Nat → Nat → Bool} {n s done a : Nat} (hN : hnr τ n nr) (hn : τ.1 0 = nI n) (hn2 : n ≤ 20) (hs : s < 2 ^ 31) (ha : a < n) : ∀ (r b f seen : Nat) (τ' : zS), b + r = n → r < f → ms3 τ τ' → seen < 2 ^ n → ∃ seen' τ'', f_M_reached_57 k7 k16 f (nI s) (nI seen) (nI done) (nI a) (nI b) τ' = k16 (nI s) (nI seen') (nI done) (nI (a + 1)) τ'' ∧ ms3 τ τ'' ∧ seen' < 2 ^ n ∧ ∀ i, seen'.testBit i = true ↔ (seen.testBit i = true ∨ (b ≤ i ∧ i < n ∧ s.testBit i = true ∧ nr a i = true)) := by
  have h20 : 2 ^ n ≤ 2 ^ 20 := Nat.pow_le_pow_right (by decide) hn2
  intro r
  induction r with
  | zero =>
    intro b f seen τ' hb hf hm hse
    obtain ⟨f, rfl⟩ : ∃ m, f = m + 1 := ⟨f - 1, by omega⟩
    refine ⟨seen, τ', ?_, hm, hse, fun i => ⟨Or.inl, ?_⟩⟩
    · show f_M_reached_57b _ _ _ _ _ _ _ _ _ = _
      unfold f_M_reached_57b f_M_reached_113
      rw [hm.1, hn, if_pos (nI_le (by omega) (by omega)), nI_1]
    · rintro (q | ⟨h1, h2, -⟩)
      · exact q
      · omega
  | succ r ih =>
    intro b f seen τ' hb hf hm hse
    obtain ⟨f, rfl⟩ : ∃ m, f = m + 1 := ⟨f - 1, by omega⟩
    have step : ∃ seen1 τ1, f_M_reached_57 k7 k16 (f + 1) (nI s) (nI seen) (nI done) (nI a) (nI b) τ' = f_M_reached_57 k7 k16 f (nI s) (nI seen1) (nI done) (nI a) (nI (b + 1)) τ1 ∧ ms3 τ τ1 ∧ seen1 < 2 ^ n ∧ ∀ i, seen1.testBit i = true ↔ (seen.testBit i = true ∨ (i = b ∧ s.testBit i = true ∧ nr a i = true)) := by
      have e0 : f_M_reached_57 k7 k16 (f + 1) (nI s) (nI seen) (nI done) (nI a) (nI b) τ' = f_M_reached_57b k7 k16 (fun x2 x3 x4 x5 x6 σ => f_M_reached_57 k7 k16 f x2 x3 x4 x5 x6 σ) (nI s) (nI seen) (nI done) (nI a) (nI b) τ' := rfl
      rw [e0]
      unfold f_M_reached_57b f_M_reached_107 f_M_reached_105 f_M_reached_107
      rw [hm.1, hn, if_neg (nI_ge (by omega) (by omega)), nb_has hs (by omega), nb_has (by omega) (by omega), nI_1]
      by_cases h1 : s.testBit b = true
      · rw [bI_t h1, if_pos rfl]
        by_cases h2 : seen.testBit b = true
        · rw [bI_t h2, if_neg (show ¬ (1 : Int32) = 0 by decide)]
          refine ⟨seen, τ', rfl, hm, hse, fun i => ⟨Or.inl, ?_⟩⟩
          rintro (q | ⟨rfl, -⟩)
          · exact q
          · exact h2
        · obtain ⟨τ1, g1, g2⟩ := hN τ' hm a b ha (by omega)
          rw [bI_f h2, if_pos rfl, g1, zbd_s]
          by_cases h3 : nr a b = true
          · refine ⟨seen ||| 2 ^ b, τ1, ?_, g2, or_lt hse (pow_lt (by omega)), fun i => ?_⟩
            · rw [bI_t h3, if_neg (show ¬ (1 : Int32) = 0 by decide), zlt_s, nb_shl (by omega), nb_or]
            · rw [tb_or, tb_pow]
              constructor
              · rintro (q | rfl)
                · exact Or.inl q
                · exact Or.inr ⟨rfl, h1, h3⟩
              · rintro (q | ⟨rfl, -⟩)
                · exact Or.inl q
                · exact Or.inr rfl
          · refine ⟨seen, τ1, ?_, g2, hse, fun i => ⟨Or.inl, ?_⟩⟩
            · rw [bI_f h3, if_pos rfl, zlt_s, Int32.or_zero]
            · rintro (q | ⟨rfl, -, g⟩)
              · exact q
              · exact absurd g h3
      · rw [bI_f h1, if_neg (show ¬ (0 : Int32) = 1 by decide)]
        refine ⟨seen, τ', rfl, hm, hse, fun i => ⟨Or.inl, ?_⟩⟩
        rintro (q | ⟨rfl, g, -⟩)
        · exact q
        · exact absurd g h1
    obtain ⟨seen1, τ1, e1, g1, g2, g3⟩ := step
    obtain ⟨seen2, τ2, e2, k1, k2, k3⟩ := ih (b + 1) f seen1 τ1 (by omega) (by omega) g1 g2
    refine ⟨seen2, τ2, e1.trans e2, k1, k2, fun i => ?_⟩
    rw [k3, g3]
    constructor
    · rintro ((q | ⟨rfl, q⟩) | ⟨q1, q2⟩)
      · exact Or.inl q
      · exact Or.inr ⟨Nat.le_refl _, by omega, q⟩
      · exact Or.inr ⟨by omega, q2⟩
    · rintro (q | ⟨q1, q2, q3⟩)
      · exact Or.inl (Or.inl q)
      · by_cases e : i = b
        · exact Or.inl (Or.inr ⟨e, q3⟩)
        · exact Or.inr ⟨by omega, q2, q3⟩
/-- what holds of seen and done -/
def rI (nr : Nat → Nat → Bool) (n s c seen done : Nat) : Prop := seen < 2 ^ n ∧ sb c seen ∧ sb done seen ∧ (∀ D, sb c D → cld nr n s D → sb seen D) ∧ ∀ a b, b < n → done.testBit a = true → s.testBit b = true → nr a b = true → seen.testBit b = true
theorem sb_lt {a b n : Nat} (h : sb a b) (hb : b < 2 ^ n) : a < 2 ^ n := by
  apply Nat.lt_pow_two_of_testBit
  intro i hi
  cases ha : a.testBit i with
  | false => rfl
  | true => have := tb_lt hb (h i ha); omega
theorem m_router {k7 : Int32 → Int32 → Int32 → zS → Option (Int32 × zS)} {τ : zS} {nr : Nat → Nat → Bool} {n s c : Nat} (hN : hnr τ n nr) (hn : τ.1 0 = nI n) (hn2 : n ≤ 20) (hs : s < 2 ^ 31) : ∀ (r a f seen done : Nat) (τ' : zS), a + r = n → r < f → ms3 τ τ' → rI nr n s c seen done → ∃ seen' done' τ'', f_M_reached_16 k7 f (nI s) (nI seen) (nI done) (nI a) τ' = k7 (nI s) (nI seen') (nI done') τ'' ∧ ms3 τ τ'' ∧ rI nr n s c seen' done' ∧ sb seen seen' ∧ sb done done' ∧ ∀ i, a ≤ i → i < n → seen.testBit i = true → done'.testBit i = true := by
  have h20 : 2 ^ n ≤ 2 ^ 20 := Nat.pow_le_pow_right (by decide) hn2
  intro r
  induction r with
  | zero =>
    intro a f seen done τ' ha hf hm hI
    obtain ⟨f, rfl⟩ : ∃ m, f = m + 1 := ⟨f - 1, by omega⟩
    refine ⟨seen, done, τ', ?_, hm, hI, sb_rfl, sb_rfl, fun i h1 h2 => by omega⟩
    show f_M_reached_16b _ _ _ _ _ _ _ = _
    unfold f_M_reached_16b
    rw [hm.1, hn, if_pos (nI_le (by omega) (by omega))]
  | succ r ih =>
    intro a f seen done τ' ha hf hm hI
    obtain ⟨f, rfl⟩ : ∃ m, f = m + 1 := ⟨f - 1, by omega⟩
    have hdn : done < 2 ^ n := sb_lt hI.2.2.1 hI.1
    have e0 : f_M_reached_16 k7 (f + 1) (nI s) (nI seen) (nI done) (nI a) τ' = f_M_reached_16b k7 (fun x2 x3 x4 x5 σ => f_M_reached_16 k7 f x2 x3 x4 x5 σ) (nI s) (nI seen) (nI done) (nI a) τ' := rfl
    have step : ∃ seen1 done1 τ1, f_M_reached_16 k7 (f + 1) (nI s) (nI seen) (nI done) (nI a) τ' = f_M_reached_16 k7 f (nI s) (nI seen1) (nI done1) (nI (a + 1)) τ1 ∧ ms3 τ τ1 ∧ rI nr n s c seen1 done1 ∧ sb seen seen1 ∧ sb done done1 ∧ (seen.testBit a = true → done1.testBit a = true) := by
      rw [e0]
      unfold f_M_reached_16b f_M_reached_113
      rw [hm.1, hn, if_neg (nI_ge (by omega) (by omega)), nb_has (by have := hI.1; omega) (by omega), nb_has (by omega) (by omega), nI_1]
      by_cases h1 : seen.testBit a = true
      · rw [bI_t h1, if_pos rfl]
        by_cases h2 : done.testBit a = true
        · rw [bI_t h2, if_neg (show ¬ (1 : Int32) = 0 by decide)]
          exact ⟨seen, done, τ', rfl, hm, hI, sb_rfl, sb_rfl, fun _ => h2⟩
        · rw [bI_f h2, if_pos rfl, zlt_s, nb_shl (by omega), nb_or]
          obtain ⟨seen1, τ1, e1, g1, g2, g3⟩ := m_rinner (k7 := k7) (k16 := fun x2 x3 x4 x5 σ => f_M_reached_16 k7 f x2 x3 x4 x5 σ) (done := done ||| 2 ^ a) hN hn hn2 hs (show a < n by omega) n 0 zfu seen τ' (by omega) (by unfold zfu; omega) hm hI.1
          refine ⟨seen1, done ||| 2 ^ a, τ1, e1, g1, ⟨g2, fun i h => (g3 i).mpr (Or.inl (hI.2.1 i h)), ?_, ?_, ?_⟩, fun i h => (g3 i).mpr (Or.inl h), fun i h => (tb_or _ _ _).mpr (Or.inl h), fun _ => (tb_or _ _ _).mpr (Or.inr ((tb_pow _ _).mpr rfl))⟩
          · intro i h
            rcases (tb_or _ _ _).mp h with q | q
            · exact (g3 i).mpr (Or.inl (hI.2.2.1 i q))
            · rw [(tb_pow _ _).mp q]
              exact (g3 a).mpr (Or.inl h1)
          · intro D d1 d2 i h
            rcases (g3 i).mp h with q | ⟨-, q2, q3, q4⟩
            · exact hI.2.2.2.1 D d1 d2 i q
            · by_cases e : a = i
              · rw [← e]; exact hI.2.2.2.1 D d1 d2 a h1
              · exact d2 a i (by omega) q2 (hI.2.2.2.1 D d1 d2 a h1) q3 q4 e
          · intro x b hb hx hsb hnr
            rcases (tb_or _ _ _).mp hx with q | q
            · exact (g3 b).mpr (Or.inl (hI.2.2.2.2 x b hb q hsb hnr))
            · rw [(tb_pow _ _).mp q] at hnr
              exact (g3 b).mpr (Or.inr ⟨Nat.zero_le _, hb, hsb, hnr⟩)
      · rw [bI_f h1, if_neg (show ¬ (0 : Int32) = 1 by decide)]
        exact ⟨seen, done, τ', rfl, hm, hI, sb_rfl, sb_rfl, fun h => absurd h h1⟩
    obtain ⟨seen1, done1, τ1, e1, g1, g2, g3, g4, g5⟩ := step
    obtain ⟨seen2, done2, τ2, e2, k1, k2, k3, k4, k5⟩ := ih (a + 1) f seen1 done1 τ1 (by omega) (by omega) g1 g2
    refine ⟨seen2, done2, τ2, e1.trans e2, k1, k2, sb_tr g3 k3, sb_tr g4 k4, fun i h1 h2 h3 => ?_⟩
    by_cases e : i = a
    · subst e; exact k4 i (g5 h3)
    · exact k5 i (by omega) h2 (g3 i h3)
theorem m_rwhile {τ : zS} {nr : Nat → Nat → Bool} {n s c : Nat} (hN : hnr τ n nr) (hn : τ.1 0 = nI n) (hn2 : n ≤ 20) (hs : s < 2 ^ 31) : ∀ (r f seen done : Nat) (τ' : zS), 20 ≤ cn done 20 + r → r < f → ms3 τ τ' → rI nr n s c seen done → ∃ C τ'', C < 2 ^ n ∧ f_M_reached_7 f (nI s) (nI seen) (nI done) τ' = some (nI C, τ'') ∧ ms3 τ τ'' ∧ isC nr n s c C := by
  have h20 : 2 ^ n ≤ 2 ^ 20 := Nat.pow_le_pow_right (by decide) hn2
  intro r
  induction r with
  | zero =>
    intro f seen done τ' hc hf hm hI
    obtain ⟨f, rfl⟩ : ∃ m, f = m + 1 := ⟨f - 1, by omega⟩
    have hdn : done < 2 ^ n := sb_lt hI.2.2.1 hI.1
    have he : seen = done := by
      apply Classical.byContradiction
      intro hne
      obtain ⟨i, h1, h2⟩ := sb_ne hI.2.2.1 (fun h => hne h.symm)
      have := cn_lt hI.2.2.1 h1 h2 20 (by have := tb_lt hI.1 h1; omega)
      have := cn_le seen 20
      omega
    subst he
    refine ⟨seen, τ', hI.1, ?_, hm, hI.2.1, ?_, hI.2.2.2.1⟩
    · show f_M_reached_7b _ _ _ _ _ = _
      unfold f_M_reached_7b
      rw [if_pos rfl]
    · intro a b _ hb h1 h2 h3 _
      exact hI.2.2.2.2 a b hb h1 h2 h3
  | succ r ih =>
    intro f seen done τ' hc hf hm hI
    obtain ⟨f, rfl⟩ : ∃ m, f = m + 1 := ⟨f - 1, by omega⟩
    have hdn : done < 2 ^ n := sb_lt hI.2.2.1 hI.1
    have e0 : f_M_reached_7 (f + 1) (nI s) (nI seen) (nI done) τ' = f_M_reached_7b (fun x2 x3 x4 σ => f_M_reached_7 f x2 x3 x4 σ) (nI s) (nI seen) (nI done) τ' := rfl
    by_cases he : seen = done
    · subst he
      refine ⟨seen, τ', hI.1, ?_, hm, hI.2.1, ?_, hI.2.2.2.1⟩
      · rw [e0]
        unfold f_M_reached_7b
        rw [if_pos rfl]
      · intro a b _ hb h1 h2 h3 _
        exact hI.2.2.2.2 a b hb h1 h2 h3
    · obtain ⟨seen1, done1, τ1, e1, g1, g2, g3, g4, g5⟩ := m_router (k7 := fun x2 x3 x4 σ => f_M_reached_7 f x2 x3 x4 σ) hN hn hn2 hs n 0 zfu seen done τ' (by omega) (by unfold zfu; omega) hm hI
      have hsd : sb seen done1 := fun i h => g5 i (Nat.zero_le _) (tb_lt hI.1 h) h
      obtain ⟨i, h1, h2⟩ := sb_ne hI.2.2.1 (fun h => he h.symm)
      have c1 := cn_lt hI.2.2.1 h1 h2 20 (by have := tb_lt hI.1 h1; omega)
      have c2 := cn_mono hsd 20
      obtain ⟨C, τ2, k1, k2, k3, k4⟩ := ih f seen1 done1 τ1 (by omega) (by omega) g1 g2
      refine ⟨C, τ2, k1, ?_, k3, k4⟩
      rw [e0]
      unfold f_M_reached_7b
      rw [if_neg (fun h => he (nI_inj (by have := hI.1; omega) (by omega) h))]
      exact e1.trans k2
theorem sb_0 {b : Nat} : sb 0 b := fun i q => by rw [Nat.zero_testBit] at q; cases q
theorem m_reached {τ τ' : zS} {nr : Nat → Nat → Bool} {n s h : Nat} (hN : hnr τ n nr) (hn : τ.1 0 = nI n) (hn2 : n ≤ 20) (hs : s < 2 ^ 31) (hh : h < n) (hm : ms3 τ τ') : ∃ C τ'', C < 2 ^ n ∧ f_M_reached (nI h) (nI s) τ' = some (nI C, τ'') ∧ ms3 τ τ'' ∧ isC nr n s (2 ^ h) C := by
  unfold f_M_reached
  rw [zlt_s, nb_shl (by omega)]
  refine m_rwhile (c := 2 ^ h) hN hn hn2 hs 20 zfu (2 ^ h) 0 τ' (by omega) (by unfold zfu; omega) hm ⟨pow_lt hh, sb_rfl, fun i q => (by rw [Nat.zero_testBit] at q; cases q), fun D h _ => h, fun a b _ q => (by rw [Nat.zero_testBit] at q; cases q)⟩
