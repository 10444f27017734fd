/-! ===== bridge ===== -/
def cl (N : Nat → Nat → Bool) (n D : Nat) : Prop := cld N n (2 ^ n - 1) D
theorem cl_or {N : Nat → Nat → Bool} {n A B : Nat} (h : cl N n A) (g : cl N n B) : cl N n (A ||| B) := by
  intro a b ha hb h1 h2 h3 h4
  rw [tb_or] at h1 ⊢
  rcases h1 with h1 | h1
  · exact Or.inl (h a b ha hb h1 h2 h3 h4)
  · exact Or.inr (g a b ha hb h1 h2 h3 h4)
theorem cl_tw {σ : zS} {N : Nat → Nat → Bool} {n h D : Nat} (hT : TX σ n N) (hh : h < n) (hc : cl N n D) (hD : D.testBit h = true) : sb (twn N n h) D := by
  refine (tw_isC hT hh).1.2.2 D (fun i hi => ?_) hc
  rw [tb_pow] at hi
  rw [hi]; exact hD
theorem tw_self {σ : zS} {N : Nat → Nat → Bool} {n h : Nat} (hT : TX σ n N) (hh : h < n) : (twn N n h).testBit h = true := (tw_isC hT hh).1.1 h ((tb_pow h h).mpr rfl)
def PL (σ τ : zS) (pl : Nat → Nat) : Prop := ∀ i, i < 20 → pl i < 1600 ∧ σ.2 17 i = nI (pl i) ∧ τ.2 1 i = nI (pl i)
theorem nap_lt {p q : Nat} (hp : p < 1600) (hq : q < 1600) : nap p q < 100 := by
  unfold nap nd
  omega
theorem x_isByOne {σ τ : zS} {n H ms h : Nat} {N : Nat → Nat → Bool} {pl : Nat → Nat} (hT : TX σ n N) (hP : PL σ τ pl) (hH : H < 2 ^ n) (hms : ms ≤ 80) (hh : h < n) : ∀ (r k f : Nat), k + r = n → r < f → ∃ b : Bool, f_Vi_isByOne_3 f (nI h) (nI H) (nI ms) (nI k) σ = some (bI (b = true), σ) ∧ (b = true ↔ ∃ j, k ≤ j ∧ j < n ∧ H.testBit j = true ∧ nap (pl h) (pl j) ≤ ms) := by
  have hn20 := hT.2.1
  have hH20 := lt20 hn20 hH
  intro r
  induction r with
  | zero =>
    intro k f hk hf
    obtain ⟨f, rfl⟩ : ∃ m, f = m + 1 := ⟨f - 1, by omega⟩
    refine ⟨false, ?_, ?_⟩
    · show f_Vi_isByOne_3b _ _ _ _ _ _ = _
      unfold f_Vi_isByOne_3b
      rw [hT.1, if_pos (nI_le (by omega) (by omega))]
      rfl
    · constructor
      · intro h; cases h
      · rintro ⟨j, h1, h2, -⟩; omega
  | succ r ih =>
    intro k f hk hf
    obtain ⟨f, rfl⟩ : ∃ m, f = m + 1 := ⟨f - 1, by omega⟩
    obtain ⟨b, g1, g2⟩ := ih (k + 1) f (by omega) (by omega)
    have eX : f_Vi_isByOne_3 (f + 1) (nI h) (nI H) (nI ms) (nI k) σ = f_Vi_isByOne_3b (fun x1 x2 x3 x4 σ => f_Vi_isByOne_3 f x1 x2 x3 x4 σ) (nI h) (nI H) (nI ms) (nI k) σ := rfl
    rw [eX]
    unfold f_Vi_isByOne_3b f_Vi_isByOne_43
    obtain ⟨p1, p2, -⟩ := hP h (by omega)
    obtain ⟨q1, q2, -⟩ := hP k (by omega)
    rw [hT.1, if_neg (nI_ge (by omega) (by omega)), x_has (p31 hH20) (by omega), zbd_s, zin_n (by omega) (by decide), zin_n (by omega) (by decide), nI_clamp (by omega), nI_clamp (by omega), nI_1]
    dsimp only
    rw [p2, q2, x_apart p1 q1, zbd_s]
    dsimp only
    have hrec : (∃ j, k ≤ j ∧ j < n ∧ H.testBit j = true ∧ nap (pl h) (pl j) ≤ ms) ↔ ((H.testBit k = true ∧ nap (pl h) (pl k) ≤ ms) ∨ ∃ j, k + 1 ≤ j ∧ j < n ∧ H.testBit j = true ∧ nap (pl h) (pl j) ≤ ms) := by
      constructor
      · rintro ⟨j, h1, h2, h3, h4⟩
        by_cases e : j = k
        · subst e; exact Or.inl ⟨h3, h4⟩
        · exact Or.inr ⟨j, by omega, h2, h3, h4⟩
      · rintro (⟨h3, h4⟩ | ⟨j, h1, h2, h3, h4⟩)
        · exact ⟨k, by omega, by omega, h3, h4⟩
        · exact ⟨j, by omega, h2, h3, h4⟩
    rw [hrec]
    have hnap := nap_lt p1 q1
    by_cases hb : H.testBit k = true
    · rw [bI_t hb, if_neg one0]
      by_cases hd : nap (pl h) (pl k) ≤ ms
      · rw [if_neg (nI_nlt hd (by omega))]
        exact ⟨true, rfl, by simp [hb, hd]⟩
      · rw [if_pos (nI_lt (by omega) (by omega))]
        refine ⟨b, g1, ?_⟩
        rw [g2]
        constructor
        · exact Or.inr
        · rintro (q | q)
          · exact absurd q.2 hd
          · exact q
    · rw [bI_f hb, if_pos rfl]
      refine ⟨b, g1, ?_⟩
      rw [g2]
      constructor
      · exact Or.inr
      · rintro (q | q)
        · exact absurd q.1 hb
        · exact q
/-- what is held in the next round -/
def nxt (N : Nat → Nat → Bool) (n ms : Nat) (pl : Nat → Nat) (H G : Nat) : Prop := G < 2 ^ n ∧ cl N n G ∧ ∀ i, G.testBit i = true ↔ H.testBit i = true ∨ ∃ o, o < n ∧ (∃ k, k < n ∧ H.testBit k = true ∧ nap (pl o) (pl k) ≤ ms) ∧ (twn N n o).testBit i = true
theorem x_held {σ τ : zS} {n H ms : Nat} {N : Nat → Nat → Bool} {pl : Nat → Nat} (hT : TX σ n N) (hP : PL σ τ pl) (hH : H < 2 ^ n) (hms : ms ≤ 80) : ∀ (r k f D : Nat), k + r = n → r < f → D < 2 ^ n → cl N n D → ∃ G, f_Vi_heldNext_5 f (nI H) (nI ms) (nI D) (nI k) σ = some (nI G, σ) ∧ G < 2 ^ n ∧ cl N n G ∧ ∀ i, G.testBit i = true ↔ D.testBit i = true ∨ ∃ o, k ≤ o ∧ o < n ∧ (∃ k, k < n ∧ H.testBit k = true ∧ nap (pl o) (pl k) ≤ ms) ∧ (twn N n o).testBit i = true := by
  have hn20 := hT.2.1
  intro r
  induction r with
  | zero =>
    intro k f D hk hf hD hc
    obtain ⟨f, rfl⟩ : ∃ m, f = m + 1 := ⟨f - 1, by omega⟩
    refine ⟨D, ?_, hD, hc, fun i => ?_⟩
    · show f_Vi_heldNext_5b _ _ _ _ _ _ = _
      unfold f_Vi_heldNext_5b
      rw [hT.1, if_pos (nI_le (by omega) (by omega))]
    · constructor
      · exact Or.inl
      · rintro (q | ⟨o, h1, h2, -⟩)
        · exact q
        · omega
  | succ r ih =>
    intro k f D hk hf hD hc
    obtain ⟨f, rfl⟩ : ∃ m, f = m + 1 := ⟨f - 1, by omega⟩
    have hkn : k < n := by omega
    have hD20 := lt20 hn20 hD
    have eX : f_Vi_heldNext_5 (f + 1) (nI H) (nI ms) (nI D) (nI k) σ = f_Vi_heldNext_5b (fun x1 x2 x3 x4 σ => f_Vi_heldNext_5 f x1 x2 x3 x4 σ) (nI H) (nI ms) (nI D) (nI k) σ := rfl
    rw [eX]
    unfold f_Vi_heldNext_5b f_Vi_heldNext_43 f_Vi_isByOne
    obtain ⟨b, b1, b2⟩ := x_isByOne (h := k) hT hP hH hms hkn n 0 zfu (by omega) (by unfold zfu; omega)
    rw [show nI 0 = (0 : Int32) from rfl] at b1
    rw [hT.1, if_neg (nI_ge (by omega) (by omega)), x_has (p31 hD20) (by omega), zbd_s, nI_1]
    dsimp only
    rw [b1, zbd_s]
    dsimp only
    by_cases hb : D.testBit k = true
    · rw [bI_t hb, if_neg one0]
      obtain ⟨G, e1, e2, e3, e4⟩ := ih (k + 1) f D (by omega) (by omega) hD hc
      refine ⟨G, e1, e2, e3, fun i => ?_⟩
      rw [e4]
      constructor
      · rintro (q | ⟨o, h1, h2, h3, h4⟩)
        · exact Or.inl q
        · exact Or.inr ⟨o, by omega, h2, h3, h4⟩
      · rintro (q | ⟨o, h1, h2, h3, h4⟩)
        · exact Or.inl q
        · by_cases e : o = k
          · subst e; exact Or.inl (cl_tw hT hkn hc hb i h4)
          · exact Or.inr ⟨o, by omega, h2, h3, h4⟩
    · rw [bI_f hb, if_pos rfl]
      by_cases hby : b = true
      · rw [bI_t hby, if_neg one0, x_townOf hT hkn, zbd_s, zlt_s, nb_or]
        have ht := tw_isC hT hkn
        obtain ⟨G, e1, e2, e3, e4⟩ := ih (k + 1) f (D ||| twn N n k) (by omega) (by omega) (or_lt hD ht.2) (cl_or hc ht.1.2.1)
        refine ⟨G, e1, e2, e3, fun i => ?_⟩
        rw [e4, tb_or]
        constructor
        · rintro ((q | q) | ⟨o, h1, h2, h3, h4⟩)
          · exact Or.inl q
          · obtain ⟨j, j1, j2, j3, j4⟩ := b2.mp hby
            exact Or.inr ⟨k, by omega, hkn, ⟨j, j2, j3, j4⟩, q⟩
          · exact Or.inr ⟨o, by omega, h2, h3, h4⟩
        · rintro (q | ⟨o, h1, h2, h3, h4⟩)
          · exact Or.inl (Or.inl q)
          · by_cases e : o = k
            · subst e; exact Or.inl (Or.inr h4)
            · exact Or.inr ⟨o, by omega, h2, h3, h4⟩
      · rw [bI_f hby, if_pos rfl]
        obtain ⟨G, e1, e2, e3, e4⟩ := ih (k + 1) f D (by omega) (by omega) hD hc
        refine ⟨G, e1, e2, e3, fun i => ?_⟩
        rw [e4]
        constructor
        · rintro (q | ⟨o, h1, h2, h3, h4⟩)
          · exact Or.inl q
          · exact Or.inr ⟨o, by omega, h2, h3, h4⟩
        · rintro (q | ⟨o, h1, h2, h3, h4⟩)
          · exact Or.inl q
          · by_cases e : o = k
            · subst e
              obtain ⟨j, j2, j3, j4⟩ := h3
              exact absurd (b2.mpr ⟨j, by omega, j2, j3, j4⟩) hby
            · exact Or.inr ⟨o, by omega, h2, h3, h4⟩
theorem x_heldNext {σ τ : zS} {n H ms : Nat} {N : Nat → Nat → Bool} {pl : Nat → Nat} (hT : TX σ n N) (hP : PL σ τ pl) (hH : H < 2 ^ n) (hc : cl N n H) (hms : ms ≤ 80) : ∃ G, f_Vi_heldNext (nI H) (nI ms) σ = some (nI G, σ) ∧ nxt N n ms pl H G := by
  unfold f_Vi_heldNext
  obtain ⟨G, e1, e2, e3, e4⟩ := x_held hT hP hH hms n 0 zfu H (by omega) (by have := hT.2.1; unfold zfu; omega) hH hc
  refine ⟨G, e1, e2, e3, fun i => ?_⟩
  rw [e4]
  constructor
  · rintro (q | ⟨o, h1, h2⟩)
    · exact Or.inl q
    · exact Or.inr ⟨o, h2⟩
  · rintro (q | ⟨o, h2⟩)
    · exact Or.inl q
    · exact Or.inr ⟨o, by omega, h2⟩
theorem nxt_eq {N : Nat → Nat → Bool} {n ms : Nat} {pl : Nat → Nat} {H G G' : Nat} (h : nxt N n ms pl H G) (g : nxt N n ms pl H G') : G = G' := sb_anti (fun i q => (g.2.2 i).mpr ((h.2.2 i).mp q)) (fun i q => (h.2.2 i).mpr ((g.2.2 i).mp q))
theorem m_b79 {k44 : Int32 → Int32 → Int32 → Int32 → Int32 → zS → Option (Int32 × zS)} {k67 : Int32 → Int32 → Int32 → Int32 → Int32 → Int32 → zS → Option (Int32 × zS)} {σ τ : zS} {n H ms h : Nat} {N : Nat → Nat → Bool} {pl : Nat → Nat} {x2 x6 : Int32} (hX : TX σ n N) (hM : TM τ n N) (hP : PL σ τ pl) (hH : H < 2 ^ n) (hms : ms ≤ 80) (hh : h < n) : ∀ (r o f D : Nat) (τ' : zS), o + r = n → r < f → D < 2 ^ n → cl N n D → ms3 τ τ' → ∃ G τ'', f_M_bridge_79 k44 k67 f x2 (nI ms) (nI D) (nI H) x6 (nI h) (nI o) τ' = k67 x2 (nI ms) (nI G) (nI H) x6 (nI (h + 1)) τ'' ∧ ms3 τ τ'' ∧ G < 2 ^ n ∧ cl N n G ∧ ∀ i, G.testBit i = true ↔ D.testBit i = true ∨ ∃ o', o ≤ o' ∧ o' < n ∧ H.testBit h = true ∧ nap (pl h) (pl o') ≤ ms ∧ (twn N n o').testBit i = true := by
  have hn20 := hX.2.1
  have hH20 := lt20 hn20 hH
  intro r
  induction r with
  | zero =>
    intro o f D τ' hk hf hD hc hm
    obtain ⟨f, rfl⟩ : ∃ m, f = m + 1 := ⟨f - 1, by omega⟩
    refine ⟨D, τ', ?_, hm, hD, hc, fun i => ?_⟩
    · show f_M_bridge_79b _ _ _ _ _ _ _ _ _ _ _ = _
      unfold f_M_bridge_79b f_M_bridge_147
      rw [(TM_s hm hM).1, if_pos (nI_le (by omega) (by omega)), nI_1]
    · constructor
      · exact Or.inl
      · rintro (q | ⟨o, h1, h2, -⟩)
        · exact q
        · omega
  | succ r ih =>
    intro o f D τ' hk hf hD hc hm
    obtain ⟨f, rfl⟩ : ∃ m, f = m + 1 := ⟨f - 1, by omega⟩
    have hon : o < n := by omega
    have hD20 := lt20 hn20 hD
    have hM' := TM_s hm hM
    have eM : f_M_bridge_79 k44 k67 (f + 1) x2 (nI ms) (nI D) (nI H) x6 (nI h) (nI o) τ' = f_M_bridge_79b k44 k67 (fun x2 x3 x4 x5 x6 x7 x8 σ => f_M_bridge_79 k44 k67 f x2 x3 x4 x5 x6 x7 x8 σ) x2 (nI ms) (nI D) (nI H) x6 (nI h) (nI o) τ' := rfl
    rw [eM]
    unfold f_M_bridge_79b f_M_bridge_147 f_M_bridge_141
    obtain ⟨p1, -, p2⟩ := hP h (by omega)
    obtain ⟨q1, -, q2⟩ := hP o (by omega)
    have e1 : τ'.2 1 = τ.2 1 := hm.2 1 (by decide) (by decide)
    rw [hM'.1, if_neg (nI_ge (by omega) (by omega)), zin_n (by omega) (by decide), zin_n (by omega) (by decide), nI_clamp (by omega), nI_clamp (by omega), e1, p2, q2, m_apart p1 q1, zbd_s, nI_1, nI_1]
    dsimp only
    have hnap := nap_lt p1 q1
    by_cases hb : H.testBit h = true
    · rw [if_pos ((has_1 (p31 hH20) (by omega)).mpr hb)]
      by_cases hD2 : D.testBit o = true
      · rw [if_neg (fun q => (has_0 (p31 hD20) (by omega)).mp q hD2)]
        obtain ⟨G, τ2, g1, g2, g3, g4, g5⟩ := ih (o + 1) f D τ' (by omega) (by omega) hD hc hm
        refine ⟨G, τ2, g1, g2, g3, g4, fun i => ?_⟩
        rw [g5]
        constructor
        · rintro (q | ⟨o', h1, h2⟩)
          · exact Or.inl q
          · exact Or.inr ⟨o', by omega, h2⟩
        · rintro (q | ⟨o', h1, h2, h3, h4, h5⟩)
          · exact Or.inl q
          · by_cases e : o' = o
            · subst e; exact Or.inl (cl_tw hX hon hc hD2 i h5)
            · exact Or.inr ⟨o', by omega, h2, h3, h4, h5⟩
      · rw [if_pos ((has_0 (p31 hD20) (by omega)).mpr hD2)]
        by_cases hd : nap (pl h) (pl o) ≤ ms
        · rw [if_neg (nI_nlt hd (by omega))]
          obtain ⟨τ1, t1, t2⟩ := m_townOf hM' hon
          have ht := tw_isC hX hon
          rw [t1, zbd_s, zlt_s, nb_or]
          obtain ⟨G, τ2, g1, g2, g3, g4, g5⟩ := ih (o + 1) f (D ||| twn N n o) τ1 (by omega) (by omega) (or_lt hD ht.2) (cl_or hc ht.1.2.1) (ms3_tr hm t2)
          refine ⟨G, τ2, g1, g2, g3, g4, fun i => ?_⟩
          rw [g5, tb_or]
          constructor
          · rintro ((q | q) | ⟨o', h1, h2⟩)
            · exact Or.inl q
            · exact Or.inr ⟨o, by omega, hon, hb, hd, q⟩
            · exact Or.inr ⟨o', by omega, h2⟩
          · rintro (q | ⟨o', h1, h2, h3, h4, h5⟩)
            · exact Or.inl (Or.inl q)
            · by_cases e : o' = o
              · subst e; exact Or.inl (Or.inr h5)
              · exact Or.inr ⟨o', by omega, h2, h3, h4, h5⟩
        · rw [if_pos (nI_lt (by omega) (by omega))]
          obtain ⟨G, τ2, g1, g2, g3, g4, g5⟩ := ih (o + 1) f D τ' (by omega) (by omega) hD hc hm
          refine ⟨G, τ2, g1, g2, g3, g4, fun i => ?_⟩
          rw [g5]
          constructor
          · rintro (q | ⟨o', h1, h2⟩)
            · exact Or.inl q
            · exact Or.inr ⟨o', by omega, h2⟩
          · rintro (q | ⟨o', h1, h2, h3, h4, h5⟩)
            · exact Or.inl q
            · by_cases e : o' = o
              · subst e; exact absurd h4 hd
              · exact Or.inr ⟨o', by omega, h2, h3, h4, h5⟩
    · rw [if_neg (fun q => hb ((has_1 (p31 hH20) (by omega)).mp q))]
      refine ⟨D, τ', rfl, hm, hD, hc, fun i => ?_⟩
      constructor
      · exact Or.inl
      · rintro (q | ⟨o', h1, h2, h3, -⟩)
        · exact q
        · exact absurd h3 hb
theorem m_b67 {k44 : Int32 → Int32 → Int32 → Int32 → Int32 → zS → Option (Int32 × zS)} {σ τ : zS} {n H ms : Nat} {N : Nat → Nat → Bool} {pl : Nat → Nat} {x2 x6 : Int32} (hX : TX σ n N) (hM : TM τ n N) (hP : PL σ τ pl) (hH : H < 2 ^ n) (hms : ms ≤ 80) : ∀ (r h f D : Nat) (τ' : zS), h + r = n → r < f → D < 2 ^ n → cl N n D → ms3 τ τ' → ∃ G τ'', f_M_bridge_67 k44 f x2 (nI ms) (nI D) (nI H) x6 (nI h) τ' = k44 x2 (nI ms) (nI G) (nI H) (x6 + 1) τ'' ∧ ms3 τ τ'' ∧ G < 2 ^ n ∧ cl N n G ∧ ∀ i, G.testBit i = true ↔ D.testBit i = true ∨ ∃ h', h ≤ h' ∧ h' < n ∧ ∃ o', o' < n ∧ H.testBit h' = true ∧ nap (pl h') (pl o') ≤ ms ∧ (twn N n o').testBit i = true := by
  have hn20 := hX.2.1
  intro r
  induction r with
  | zero =>
    intro h f D τ' hk hf hD hc hm
    obtain ⟨f, rfl⟩ : ∃ m, f = m + 1 := ⟨f - 1, by omega⟩
    refine ⟨D, τ', ?_, hm, hD, hc, fun i => ?_⟩
    · show f_M_bridge_67b _ _ _ _ _ _ _ _ _ = _
      unfold f_M_bridge_67b
      rw [(TM_s hm hM).1, if_pos (nI_le (by omega) (by omega))]
    · constructor
      · exact Or.inl
      · rintro (q | ⟨o, h1, h2, -⟩)
        · exact q
        · omega
  | succ r ih =>
    intro h f D τ' hk hf hD hc hm
    obtain ⟨f, rfl⟩ : ∃ m, f = m + 1 := ⟨f - 1, by omega⟩
    obtain ⟨G1, τ1, e1, e2, e3, e4, e5⟩ := m_b79 (k44 := k44) (k67 := fun x2 x3 x4 x5 x6 x7 σ => f_M_bridge_67 k44 f x2 x3 x4 x5 x6 x7 σ) (x2 := x2) (x6 := x6) hX hM hP hH hms (show h < n by omega) n 0 zfu D τ' (by omega) (by unfold zfu; omega) hD hc hm
    obtain ⟨G, τ2, g1, g2, g3, g4, g5⟩ := ih (h + 1) f G1 τ1 (by omega) (by omega) e3 e4 e2
    refine ⟨G, τ2, ?_, g2, g3, g4, fun i => ?_⟩
    · show f_M_bridge_67b _ _ _ _ _ _ _ _ _ = _
      unfold f_M_bridge_67b
      rw [(TM_s hm hM).1, if_neg (nI_ge (by omega) (by omega))]
      exact e1.trans g1
    · rw [g5, e5]
      constructor
      · rintro ((q | ⟨o', h1, h2, h3, h4⟩) | ⟨h', h1, h2⟩)
        · exact Or.inl q
        · exact Or.inr ⟨h, by omega, by omega, o', h2, h3, h4⟩
        · exact Or.inr ⟨h', by omega, h2⟩
      · rintro (q | ⟨h', h1, h2, o', h3, h4⟩)
        · exact Or.inl (Or.inl q)
        · by_cases e : h' = h
          · subst e; exact Or.inl (Or.inr ⟨o', by omega, h3, h4⟩)
          · exact Or.inr ⟨h', by omega, h2, o', h3, h4⟩
theorem bridge_L {σ τ : zS} {n ms b : Nat} {N : Nat → Nat → Bool} {pl : Nat → Nat} (hX : TX σ n N) (hM : TM τ n N) (hP : PL σ τ pl) (hms : ms ≤ 80) (hb : b < n) : ∀ (d r f f' H W : Nat) (τ' : zS), 20 ≤ cn H 20 + d → d < f → d + 1 < f' → r + 1 ≤ cn H 20 → H < 2 ^ n → W < 2 ^ n → H ≠ W → cl N n H → ms3 τ τ' → ∃ (v : Int32) (τ'' : zS), f_Vi_roundsTo_10 f (nI b) (nI ms) (nI H) (nI r) σ = some (v, σ) ∧ f_M_bridge_44 f' (nI b) (nI ms) (nI H) (nI W) (nI r) τ' = some (v, τ'') ∧ ms3 τ τ'' := by
  have hn20 := hX.2.1
  intro d
  induction d with
  | zero =>
    intro r f f' H W τ' hd hf hf' hr hH hW hne hc hm
    obtain ⟨f, rfl⟩ : ∃ m, f = m + 1 := ⟨f - 1, by omega⟩
    obtain ⟨f', rfl⟩ : ∃ m, f' = m + 1 := ⟨f' - 1, by omega⟩
    have hH20 := lt20 hn20 hH
    have hb1 : H.testBit b = true := by
      apply Classical.byContradiction
      intro hq
      have h1 : sb H (H ||| 2 ^ b) := fun i q => (tb_or _ _ _).mpr (Or.inl q)
      have h2 := cn_lt h1 ((tb_or _ _ _).mpr (Or.inr ((tb_pow b b).mpr rfl))) hq 20 (by omega)
      have h3 := cn_le (H ||| 2 ^ b) 20
      omega
    have hr20 : r < 20 := by have := cn_le H 20; omega
    refine ⟨nI r, τ', ?_, ?_, hm⟩
    · show f_Vi_roundsTo_10b _ _ _ _ _ _ = _
      unfold f_Vi_roundsTo_10b
      rw [if_neg (show ¬ (20 : Int32) < nI r from nI_nlt (show r ≤ 20 by omega) (by decide)), x_has (p31 hH20) (by omega), zbd_s, bI_t hb1, if_neg one0]
    · show f_M_bridge_44b _ _ _ _ _ _ _ = _
      unfold f_M_bridge_44b f_M_bridge_159
      rw [if_neg (fun q => (has_0 (p31 hH20) (by omega)).mp q hb1), if_pos ((has_1 (p31 hH20) (by omega)).mpr hb1)]
  | succ d ih =>
    intro r f f' H W τ' hd hf hf' hr hH hW hne hc hm
    obtain ⟨f, rfl⟩ : ∃ m, f = m + 1 := ⟨f - 1, by omega⟩
    obtain ⟨f', rfl⟩ : ∃ m, f' = m + 1 := ⟨f' - 1, by omega⟩
    have hH20 := lt20 hn20 hH
    have hr20 : r < 20 := by have := cn_le H 20; omega
    have eX : f_Vi_roundsTo_10 (f + 1) (nI b) (nI ms) (nI H) (nI r) σ = f_Vi_roundsTo_10b (fun x2 x3 x4 x5 σ => f_Vi_roundsTo_10 f x2 x3 x4 x5 σ) (nI b) (nI ms) (nI H) (nI r) σ := rfl
    have eM : f_M_bridge_44 (f' + 1) (nI b) (nI ms) (nI H) (nI W) (nI r) τ' = f_M_bridge_44b (fun x2 x3 x4 x5 x6 σ => f_M_bridge_44 f' x2 x3 x4 x5 x6 σ) (nI b) (nI ms) (nI H) (nI W) (nI r) τ' := rfl
    rw [eX, eM]
    unfold f_Vi_roundsTo_10b f_M_bridge_44b f_M_bridge_159
    rw [if_neg (show ¬ (20 : Int32) < nI r from nI_nlt (show r ≤ 20 by omega) (by decide)), x_has (p31 hH20) (by omega), zbd_s]
    dsimp only
    by_cases hb1 : H.testBit b = true
    · rw [bI_t hb1, if_neg one0, if_neg (fun q => (has_0 (p31 hH20) (by omega)).mp q hb1), if_pos ((has_1 (p31 hH20) (by omega)).mpr hb1)]
      exact ⟨_, _, rfl, rfl, hm⟩
    · rw [bI_f hb1, if_pos rfl, if_pos ((has_0 (p31 hH20) (by omega)).mpr hb1), if_neg (fun q => hne ((nI_eq (p31 hH20) (p31 (lt20 hn20 hW))).mp q))]
      obtain ⟨G, e1, e2⟩ := x_heldNext hX hP hH hc hms
      obtain ⟨G', τ1, g1, g2, g3, g4, g5⟩ := m_b67 (k44 := fun x2 x3 x4 x5 x6 σ => f_M_bridge_44 f' x2 x3 x4 x5 x6 σ) (x2 := nI b) (x6 := nI r) hX hM hP hH hms n 0 zfu H τ' (by omega) (by unfold zfu; omega) hH hc hm
      have hG : G' = G := by
        refine nxt_eq (N := N) (n := n) (ms := ms) (pl := pl) (H := H) ⟨g3, g4, fun i => ?_⟩ e2
        rw [g5]
        constructor
        · rintro (q | ⟨h', -, h2, o', h3, h4, h5, h6⟩)
          · exact Or.inl q
          · exact Or.inr ⟨o', h3, ⟨h', h2, h4, by rw [nap_comm]; exact h5⟩, h6⟩
        · rintro (q | ⟨o', h3, ⟨h', h2, h4, h5⟩, h6⟩)
          · exact Or.inl q
          · exact Or.inr ⟨h', by omega, h2, o', h3, h4, by rw [nap_comm]; exact h5, h6⟩
      subst hG
      rw [e1, zbd_s, show (0 : Int32) = nI 0 from rfl, g1, nI_1]
      dsimp only
      by_cases hGH : G' = H
      · subst hGH
        obtain ⟨f', rfl⟩ : ∃ m, f' = m + 1 := ⟨f' - 1, by omega⟩
        rw [if_pos rfl]
        refine ⟨-3, τ1, rfl, ?_, g2⟩
        show f_M_bridge_44b _ _ _ _ _ _ _ = _
        unfold f_M_bridge_44b f_M_bridge_159
        rw [if_pos ((has_0 (p31 hH20) (by omega)).mpr hb1), if_pos rfl, if_neg (fun q => hb1 ((has_1 (p31 hH20) (by omega)).mp q))]
      · have hG20 := lt20 hn20 g3
        rw [if_neg (fun q => hGH ((nI_eq (p31 hG20) (p31 hH20)).mp q))]
        have hsub : sb H G' := fun i q => (g5 i).mpr (Or.inl q)
        obtain ⟨i, h1, h2⟩ := sb_ne hsub (fun q => hGH q.symm)
        have hcn := cn_lt hsub h1 h2 20 (tb_lt hG20 h1)
        exact ih (r + 1) f f' G' H τ1 (by omega) (by omega) (by omega) (by omega) g3 hH hGH g4 g2
theorem sim_bridge : @zSim (Int32 × Int32 × Int32) R (fun a => f_X_bridge a.1 a.2.1 a.2.2) (fun a => f_M_bridge a.1 a.2.1 a.2.2) := by
  intro ⟨x, y, z⟩ σ τ hR
  obtain ⟨hh, hb⟩ := R_h hR
  dsimp only
  unfold f_X_bridge f_M_bridge
  rw [vi_knows, m_isHouse hb, zbd_s, zbd_s, hh]
  by_cases h1 : 0 ≤ x ∧ x < τ.1 0
  · rw [bI_t h1]
    simp only [if_neg one0]
    rw [vi_knows, m_isHouse hb, zbd_s, zbd_s, hh]
    by_cases h2 : 0 ≤ y ∧ y < τ.1 0
    · rw [bI_t h2]
      simp only [if_neg one0]
      rw [x_isFrom, m_in, zbd_s, zbd_s]
      by_cases h3 : 0 ≤ z ∧ z ≤ 80
      · rw [bI_t h3]
        simp only [if_neg one0]
        obtain ⟨ms, hms, rfl⟩ := bd_of (N := 80) (by decide) h3
        obtain ⟨⟨c, e, ln, m, n, nr, pl, hu, hW, hLX, hLM, hHX, hHM, jm, j1, j2⟩, -⟩ := id hR
        have hX : TX σ n (nrl c ln n nr pl hu) := ⟨hHX.2.1, hHX.1, jm, j1, j2⟩
        have hM : TM τ n (nrl c ln n nr pl hu) := ⟨hHM.2.1, hHM.1, hN_of hW hLM hHM⟩
        have hP : PL σ τ pl := fun i hi => ⟨(hHX.2.2.2 i hi).1, (hHX.2.2.2 i hi).2.2.1, (hHM.2.2.2.2 i hi).2.2.1⟩
        have hn20 := hX.2.1
        rw [hM.1] at h1 h2
        obtain ⟨a, ha, rfl⟩ := (kn_iff (by omega)).mp h1
        obtain ⟨b, hb', rfl⟩ := (kn_iff (by omega)).mp h2
        obtain ⟨τ1, t1, t2⟩ := m_townOf hM ha
        have ht := tw_isC hX ha
        have hself := tw_self hX ha
        have hcn1 : 1 ≤ cn (twn (nrl c ln n nr pl hu) n a) 20 := by
          have := cn_lt (a := 0) sb_0 hself (by rw [Nat.zero_testBit]; decide) 20 (by omega)
          omega
        have hne : twn (nrl c ln n nr pl hu) n a ≠ 0 := by
          intro q
          rw [q, Nat.zero_testBit] at hself
          cases hself
        obtain ⟨v, τ2, e1, e2, e3⟩ := bridge_L hX hM hP hms hb' 20 0 zfu zfu (twn (nrl c ln n nr pl hu) n a) 0 τ1 (by omega) (by decide) (by decide) (by omega) ht.2 (Nat.two_pow_pos n) hne ht.1.2.1 t2
        unfold f_Vi_roundsTo
        rw [show nI 0 = (0 : Int32) from rfl] at e1 e2
        rw [x_townOf hX ha, t1]
        simp only [zbd_s]
        rw [e1, e2]
        exact ⟨_, _, _, rfl, rfl, R_s xq_rfl (mq_3 e3) hR⟩
      · rw [bI_f h3]
        simp only [if_true]
        exact ⟨_, _, _, rfl, rfl, hR⟩
    · rw [bI_f h2]
      simp only [if_true]
      exact ⟨_, _, _, rfl, rfl, hR⟩
  · rw [bI_f h1]
    simp only [if_true]
    exact ⟨_, _, _, rfl, rfl, hR⟩
