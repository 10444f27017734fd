/-! ===== steps, may, wells, who, meet ===== -/
theorem cbd_of {σ : zS} {we no : Nat → Nat} (hL : LC σ we no) : cbd we no := fun i hi => ⟨(hL i hi).2.2.1, (hL i hi).2.2.2.1, (hL i hi).2.2.2.2.1, (hL i hi).2.2.2.2.2⟩
theorem LC_s {σ σ' : zS} {we no : Nat → Nat} (h1 : σ'.2 21 = σ.2 21) (h2 : σ'.2 22 = σ.2 22) (hL : LC σ we no) : LC σ' we no := by
  unfold LC
  rw [h1, h2]
  exact hL
theorem xq_w12 {σ : zS} {g : Nat → Int32} : xq σ (wv σ 12 g) := ⟨fun _ _ _ _ _ => rfl, fun q h _ _ _ => wv_ne σ g (by omega)⟩
theorem xq_w13 {σ : zS} {g : Nat → Int32} : xq σ (wv σ 13 g) := ⟨fun _ _ _ _ _ => rfl, fun q h _ _ _ => wv_ne σ g (by omega)⟩
theorem sim_steps : @zSim (Int32 × Int32) R (fun a => f_X_steps a.1 a.2) (fun a => f_M_steps a.1 a.2) := by
  intro ⟨x, y⟩ σ τ hR
  dsimp only
  unfold f_X_steps f_M_steps
  rw [x_isPlace, m_isPlace, zbd_s, zbd_s]
  by_cases h1 : 0 ≤ x ∧ x ≤ 1599
  · rw [bI_t h1]
    simp only [if_neg one0]
    rw [x_isPlace, m_isPlace, zbd_s, zbd_s]
    by_cases h2 : 0 ≤ y ∧ y ≤ 1599
    · rw [bI_t h2]
      simp only [if_neg one0]
      obtain ⟨p, hp, rfl⟩ := bd_of (N := 1599) (by decide) h1
      obtain ⟨q, hq, rfl⟩ := bd_of (N := 1599) (by decide) h2
      obtain ⟨we, no, hL, hC⟩ := R_c hR
      obtain ⟨τ', D, k1, k2, k3, k4⟩ := m_spreads hC (cbd_of hL) (s := p) (by omega)
      obtain ⟨g', w1, w2⟩ := walk_12 hL k3 (by omega)
      rw [k1, w1, zbd_s, zbd_s, zin_n (by omega) (by decide), zin_n (by omega) (by decide), nI_clamp (by omega)]
      dsimp only
      rw [wv_q, w2 q (by omega), k4 q (by omega)]
      exact ⟨_, _, _, rfl, rfl, R_s xq_w12 (mq_5 k2) hR⟩
    · rw [bI_f h2]
      simp only [if_true]
      exact ⟨_, _, _, rfl, rfl, hR⟩
  · rw [bI_f h1]
    simp only [if_true]
    exact ⟨_, _, _, rfl, rfl, hR⟩
theorem why2 {σ τ : zS} {i p s q : Nat} {D : SD} {t m : Int32} (hX : SX σ s D) (hM : SM τ s D) (hi : i < 8) (hp : p < 1600) (hq : q < 1600) (e1 : σ.2 26 i = nI p) (e2 : τ.2 11 i = nI p) (e3 : σ.2 27 i = nI s) (e4 : τ.2 12 i = nI s) (e5 : τ.2 28 q = t) : ∃ (r : Int32) (σ' τ' : zS), f_X_whyNot (nI i) (nI q) t m σ = some (r, σ') ∧ f_M_why (nI i) (nI q) m τ = some (r, τ') ∧ xa9 σ σ' ∧ mb τ τ' := by
  obtain ⟨σ1, x1, x2, x3⟩ := x_meas9 hX
  obtain ⟨-, τ1, -, g1, -, -, g2, g3, g4⟩ := isOut2 hX hM hi hp e1 e2 e3 e4
  unfold f_X_whyNot f_M_why
  rw [zin_n hi (by decide), nI_clamp (by omega), e3, x1, g1, zbd_s, zbd_s]
  dsimp only
  rw [zin_n hi (by decide), x2.2 26 (by decide) (by decide) (by decide), e1, x3 σ1 (fun _ _ => rfl) rfl p hp, zbd_s]
  dsimp only
  by_cases h : D.ins p = true
  · rw [bI_t h, if_neg one0, bI_f (fun w => w h), if_pos rfl, x3 σ1 (fun _ _ => rfl) rfl q hq, zin_n hi (by decide), g2.2 12 (by decide) (by decide), e4, m_isIn (SM_s (mq_b g2) hM) g3 g4 hq, zbd_s, zbd_s]
    dsimp only
    by_cases h2 : D.ins q = true
    · rw [bI_t h2, if_neg one0, if_neg one0, zin_n hq (by decide), nI_clamp (by omega), g2.2 28 (by decide) (by decide), e5]
      by_cases h3 : t ≤ m
      · rw [if_pos h3, if_pos h3]
        exact ⟨_, _, _, rfl, rfl, x2, g2⟩
      · rw [if_neg h3, if_neg h3]
        exact ⟨_, _, _, rfl, rfl, x2, g2⟩
    · rw [bI_f h2, if_pos rfl, if_pos rfl]
      exact ⟨_, _, _, rfl, rfl, x2, g2⟩
  · rw [bI_f h, if_pos rfl, bI_t h, if_neg one0, zin_n hi (by decide), zin_n hi (by decide), x2.2 26 (by decide) (by decide) (by decide), g2.2 11 (by decide) (by decide), e1, e2, x_apart hp hq, m_apart hp hq, zbd_s, zbd_s]
    dsimp only
    by_cases h2 : 2 < nI (nap p q)
    · rw [if_pos h2, if_pos h2]
      exact ⟨_, _, _, rfl, rfl, x2, g2⟩
    · rw [if_neg h2, if_neg h2]
      exact ⟨_, _, _, rfl, rfl, x2, g2⟩
theorem sim_may : @zSim (Int32 × Int32 × Int32) R (fun a => f_X_may a.1 a.2.1 a.2.2) (fun a => f_M_may a.1 a.2.1 a.2.2) := by
  intro ⟨x, y, z⟩ σ τ hR
  dsimp only
  obtain ⟨b1, b2, -⟩ := id hR.2.2.2.2.1
  unfold f_X_may f_M_may
  rw [pe_knows, m_isPerson b2, zbd_s, zbd_s, b1]
  by_cases h1 : 0 ≤ x ∧ x < τ.1 14
  · rw [bI_t h1]
    simp only [if_neg one0]
    rw [x_isPlace, m_isPlace, zbd_s, zbd_s]
    by_cases h2 : 0 ≤ y ∧ y ≤ 1599
    · rw [bI_t h2]
      simp only [if_neg one0]
      rw [x_isFrom, m_in, zbd_s, zbd_s]
      by_cases h3 : 0 ≤ z ∧ z ≤ 9999
      · rw [bI_t h3]
        simp only [if_neg one0]
        obtain ⟨i, p, s, hi, rfl, hp, e1, e2, hs, e3, e4, hs'⟩ := R_P hR h1
        obtain ⟨q, hq, rfl⟩ := bd_of (N := 1599) (by decide) h2
        obtain ⟨we, no, hL, hC⟩ := R_c hR
        obtain ⟨τ1, D1, k1, k2, k3, k4⟩ := m_spreads hC (cbd_of hL) (s := p) hp
        obtain ⟨-, D2, -, -, j3, -⟩ := m_spreads hC (cbd_of hL) (s := q) (by omega)
        obtain ⟨g', w1, w2⟩ := walk_12 hL j3 (by omega)
        obtain ⟨D, hX, hM⟩ := R_D hR hs' (by omega)
        rw [w1, zbd_s, zin_n hi (by decide), zin_n hi (by decide), nI_clamp (by omega), e2, k1, zbd_s]
        dsimp only
        rw [wv_ne σ g' (show 26 ≠ 12 by decide), e1, zin_n (by omega) (by decide), nI_clamp (by omega), wv_q, w2 p hp]
        obtain ⟨r, σ', τ', q1, q2, q3, q4⟩ := why2 (σ := wv σ 12 g') (τ := τ1) (i := i) (p := p) (s := s) (q := q) (t := nI (D2 p)) (m := z) (SX_s xq_w12 hX) (SM_s (mq_5 k2) hM) hi hp (by omega) (by rw [wv_ne σ g' (by decide)]; exact e1) (by rw [k2.2 11 (by decide) (by decide) (by decide)]; exact e2) (by rw [wv_ne σ g' (by decide)]; exact e3) (by rw [k2.2 12 (by decide) (by decide) (by decide)]; exact e4) (by rw [k4 q (by omega), few_sym hp (by omega) k3 j3])
        rw [q1, q2, zbd_s, zbd_s]
        exact ⟨_, _, _, rfl, rfl, R_s (xq_tr xq_w12 (xq_a9 q3)) (mq_tr (mq_5 k2) (mq_b q4)) hR⟩
      · rw [bI_f h3]
        simp only [if_true]
        exact ⟨_, _, _, rfl, rfl, hR⟩
    · rw [bI_f h2]
      simp only [if_true]
      exact ⟨_, _, _, rfl, rfl, hR⟩
  · rw [bI_f h1]
    simp only [if_true]
    exact ⟨_, _, _, rfl, rfl, hR⟩
theorem wells_L {σ τ : zS} {i p s W : Nat} {D : SD} {m : Int32} {wl Dd : Nat → Nat} (hX : SX σ s D) (hM : SM τ s D) (hi : i < 8) (hp : p < 1600) (e1 : σ.2 26 i = nI p) (e2 : τ.2 11 i = nI p) (e3 : σ.2 27 i = nI s) (e4 : τ.2 12 i = nI s) (hW : W ≤ 10) (e5 : σ.1 13 = nI W) (e6 : τ.1 17 = nI W) (e7 : ∀ k, k < 10 → wl k < 1600 ∧ σ.2 14 k = nI (wl k) ∧ τ.2 13 k = nI (wl k)) (e8 : ∀ v, v < 1600 → σ.2 12 v = nI (Dd v) ∧ τ.2 28 v = nI (Dd v)) : ∀ (r k f : Nat) (acc : Int32) (σ' τ' : zS), k + r = W → r < f → xa9 σ σ' → mb τ τ' → ∃ (v : Int32) (σ'' τ'' : zS), f_X_wells_53 f (nI i) m acc (nI k) σ' = some (v, σ'') ∧ f_M_wells_40 f (nI i) m acc (nI k) τ' = some (v, τ'') ∧ xa9 σ σ'' ∧ mb τ τ'' := by
  intro r
  induction r with
  | zero =>
    intro k f acc σ' τ' hk hf hx hm
    obtain ⟨f, rfl⟩ : ∃ m, f = m + 1 := ⟨f - 1, by omega⟩
    refine ⟨acc, σ', τ', ?_, ?_, hx, hm⟩
    · show f_X_wells_53b _ _ _ _ _ _ = _
      unfold f_X_wells_53b
      rw [hx.1 13 (by omega) (by omega), e5, if_pos (nI_le (by omega) (by omega))]
    · show f_M_wells_40b _ _ _ _ _ _ = _
      unfold f_M_wells_40b
      rw [hm.1 17 (by omega), e6, if_pos (nI_le (by omega) (by omega))]
  | succ r ih =>
    intro k f acc σ' τ' hk hf hx hm
    obtain ⟨f, rfl⟩ : ∃ m, f = m + 1 := ⟨f - 1, by omega⟩
    have eX : f_X_wells_53 (f + 1) (nI i) m acc (nI k) σ' = f_X_wells_53b (fun x1 x2 x3 x4 σ => f_X_wells_53 f x1 x2 x3 x4 σ) (nI i) m acc (nI k) σ' := rfl
    have eM : f_M_wells_40 (f + 1) (nI i) m acc (nI k) τ' = f_M_wells_40b (fun x1 x2 x3 x4 σ => f_M_wells_40 f x1 x2 x3 x4 σ) (nI i) m acc (nI k) τ' := rfl
    rw [eX, eM]
    unfold f_X_wells_53b f_M_wells_40b f_X_wells_96 f_M_wells_74
    obtain ⟨v1, v2, v3⟩ := e7 k (by omega)
    obtain ⟨u1, u2⟩ := e8 (wl k) v1
    obtain ⟨r', σ2, τ2, q1, q2, q3, q4⟩ := why2 (σ := σ') (τ := τ') (q := wl k) (t := nI (Dd (wl k))) (m := m) (SX_s (xq_a9 hx) hX) (SM_s (mq_b hm) hM) hi hp v1 (by rw [hx.2 26 (by decide) (by decide) (by decide)]; exact e1) (by rw [hm.2 11 (by decide) (by decide)]; exact e2) (by rw [hx.2 27 (by decide) (by decide) (by decide)]; exact e3) (by rw [hm.2 12 (by decide) (by decide)]; exact e4) (by rw [hm.2 28 (by decide) (by decide)]; exact u2)
    rw [hx.1 13 (by omega) (by omega), e5, if_neg (nI_ge (by omega) (by omega)), hm.1 17 (by omega), e6, if_neg (nI_ge (by omega) (by omega)), zin_n (by omega) (by decide), zin_n (by omega) (by decide), zlt_s, nI_clamp (by omega), hx.2 14 (by decide) (by decide) (by decide), v2, hm.2 13 (by decide) (by decide), v3, zin_n v1 (by decide), nI_clamp (by omega), hx.2 12 (by decide) (by decide) (by decide), u1, q1, q2, zbd_s, zbd_s, nI_1]
    dsimp only
    by_cases h : r' = 0
    · rw [if_pos h, if_pos h]
      exact ih (k + 1) f _ σ2 τ2 (by omega) (by omega) (xa9_tr hx q3) (mb_tr hm q4)
    · rw [if_neg h, if_neg h, zlt_s, Int32.or_zero]
      exact ih (k + 1) f _ σ2 τ2 (by omega) (by omega) (xa9_tr hx q3) (mb_tr hm q4)
theorem R_W {σ τ : zS} (hR : R σ τ) : ∃ (W : Nat) (wl : Nat → Nat), W ≤ 10 ∧ σ.1 13 = nI W ∧ τ.1 17 = nI W ∧ ∀ k, k < 10 → wl k < 1600 ∧ σ.2 14 k = nI (wl k) ∧ τ.2 13 k = nI (wl k) := by
  obtain ⟨-, -, -, -, -, ⟨a1, ⟨W, hW, a2⟩, a3, a4⟩, -⟩ := hR
  refine ⟨W, fun k => (τ.2 13 k).toNatClampNeg, hW, by rw [a1]; exact a2, a2, fun k hk => ?_⟩
  obtain ⟨n, hn, e⟩ := a4 k hk
  rw [a3 k hk]
  show (τ.2 13 k).toNatClampNeg < 1600 ∧ τ.2 13 k = nI (τ.2 13 k).toNatClampNeg ∧ τ.2 13 k = nI (τ.2 13 k).toNatClampNeg
  rw [e, nI_clamp (by omega)]
  exact ⟨by omega, rfl, rfl⟩
theorem sim_wells : @zSim (Int32 × Int32) R (fun a => f_X_wells a.1 a.2) (fun a => f_M_wells a.1 a.2) := by
  intro ⟨x, z⟩ σ τ hR
  dsimp only
  obtain ⟨b1, b2, -⟩ := id hR.2.2.2.2.1
  unfold f_X_wells f_M_wells
  rw [pe_knows, m_isPerson b2, zbd_s, zbd_s, b1]
  by_cases h1 : 0 ≤ x ∧ x < τ.1 14
  · rw [bI_t h1]
    simp only [if_neg one0]
    rw [x_isFrom, m_in, zbd_s, zbd_s]
    by_cases h3 : 0 ≤ z ∧ z ≤ 9999
    · rw [bI_t h3]
      simp only [if_neg one0]
      obtain ⟨i, p, s, hi, rfl, hp, e1, e2, hs, e3, e4, hs'⟩ := R_P hR h1
      obtain ⟨we, no, hL, hC⟩ := R_c hR
      obtain ⟨τ1, D1, k1, k2, k3, k4⟩ := m_spreads hC (cbd_of hL) (s := p) hp
      obtain ⟨g', w1, w2⟩ := walk_12 hL k3 hp
      obtain ⟨D, hX, hM⟩ := R_D hR hs' (by omega)
      obtain ⟨W, wl, hW, c1, c2, c3⟩ := R_W hR
      rw [zin_n hi (by decide), zin_n hi (by decide), nI_clamp (by omega), e1, e2, w1, k1, zbd_s, zbd_s]
      dsimp only
      obtain ⟨v, σ', τ', q1, q2, q3, q4⟩ := wells_L (σ := wv σ 12 g') (τ := τ1) (i := i) (p := p) (s := s) (m := z) (wl := wl) (Dd := D1) (SX_s xq_w12 hX) (SM_s (mq_5 k2) hM) hi hp (by rw [wv_ne σ g' (by decide)]; exact e1) (by rw [k2.2 11 (by decide) (by decide) (by decide)]; exact e2) (by rw [wv_ne σ g' (by decide)]; exact e3) (by rw [k2.2 12 (by decide) (by decide) (by decide)]; exact e4) hW c1 (by rw [k2.1 17 (by decide) (by decide)]; exact c2) (fun k hk => by rw [wv_ne σ g' (by decide), k2.2 13 (by decide) (by decide) (by decide)]; exact c3 k hk) (fun v hv => ⟨by rw [wv_q]; exact w2 v hv, k4 v hv⟩) W 0 zfu 0 (wv σ 12 g') τ1 (by omega) (by unfold zfu; omega) xa9_rfl mb_rfl
      rw [show nI 0 = (0 : Int32) from rfl] at q1 q2
      exact ⟨v, σ', τ', q1, q2, R_s (xq_tr xq_w12 (xq_a9 q3)) (mq_tr (mq_5 k2) (mq_b q4)) hR⟩
    · rw [bI_f h3]
      simp only [if_true]
      exact ⟨_, _, _, rfl, rfl, hR⟩
  · rw [bI_f h1]
    simp only [if_true]
    exact ⟨_, _, _, rfl, rfl, hR⟩
/-- spread and look -/
def mw (τ τ' : zS) : Prop := (∀ k, ¬ (46 ≤ k ∧ k ≤ 51) → k ≠ 57 → k ≠ 58 → τ'.1 k = τ.1 k) ∧ ∀ q, q ≠ 24 → q ≠ 25 → q ≠ 28 → q ≠ 29 → q ≠ 30 → τ'.2 q = τ.2 q
theorem mw_rfl {a : zS} : mw a a := ⟨fun _ _ _ _ => rfl, fun _ _ _ _ _ _ => rfl⟩
theorem mw_tr {a b c : zS} (h : mw a b) (g : mw b c) : mw a c := ⟨fun k q1 q2 q3 => (g.1 k q1 q2 q3).trans (h.1 k q1 q2 q3), fun q h0 h1 h2 h3 h4 => (g.2 q h0 h1 h2 h3 h4).trans (h.2 q h0 h1 h2 h3 h4)⟩
theorem mw_b {a b : zS} (h : mb a b) : mw a b := ⟨fun k q1 _ _ => h.1 k q1, fun q h0 h1 _ _ _ => h.2 q h0 h1⟩
theorem mw_5 {a b : zS} (h : ms5 a b) : mw a b := ⟨fun k _ q2 q3 => h.1 k q2 q3, fun q _ _ h2 h3 h4 => h.2 q h2 h3 h4⟩
theorem mq_ww {a b : zS} (h : mw a b) : mq a b := ⟨fun k _ _ h3 h4 => h.1 k h3 (by omega) (by omega), fun q h1 => h.2 q (by omega) (by omega) (by omega) (by omega) (by omega)⟩
theorem CMx_w {τ τ' : zS} {we no : Nat → Nat} (h : mw τ τ') (hC : CMx τ we no) : CMx τ' we no := fun τ2 g1 g2 => hC τ2 (g1.trans (h.1 8 (by omega) (by decide) (by decide))) (fun q hq => (g2 q hq).trans (h.2 q (by omega) (by omega) (by omega) (by omega) (by omega)))
theorem who_L {σ τ : zS} {p N : Nat} {m : Int32} {we no Dp : Nat → Nat} (hR : R σ τ) (hC : CMx τ we no) (hB : cbd we no) (hF : few we no p Dp) (hp : p < 1600) (hN8 : N ≤ 8) (hN : τ.1 14 = nI N) (hN2 : σ.1 602 = nI N) (e8 : ∀ v, v < 1600 → σ.2 12 v = nI (Dp v)) : ∀ (r k f : Nat) (acc : Int32) (σ' τ' : zS), k + r = N → r < f → xa9 σ σ' → mw τ τ' → ∃ (v : Int32) (σ'' τ'' : zS), f_X_who_38 f (nI p) m acc (nI k) σ' = some (v, σ'') ∧ f_M_who_26 f (nI p) m acc (nI k) τ' = some (v, τ'') ∧ xa9 σ σ'' ∧ mw τ τ'' := by
  intro r
  induction r with
  | zero =>
    intro k f acc σ' τ' hk hf hx hm
    obtain ⟨f, rfl⟩ : ∃ m, f = m + 1 := ⟨f - 1, by omega⟩
    refine ⟨acc, σ', τ', ?_, ?_, hx, hm⟩
    · show f_X_who_38b _ _ _ _ _ _ = _
      unfold f_X_who_38b
      rw [hx.1 602 (by omega) (by omega), hN2, if_pos (nI_le (by omega) (by omega))]
    · show f_M_who_26b _ _ _ _ _ _ = _
      unfold f_M_who_26b
      rw [hm.1 14 (by omega) (by omega) (by omega), hN, if_pos (nI_le (by omega) (by omega))]
  | succ r ih =>
    intro k f acc σ' τ' hk hf hx hm
    obtain ⟨f, rfl⟩ : ∃ m, f = m + 1 := ⟨f - 1, by omega⟩
    have eX : f_X_who_38 (f + 1) (nI p) m acc (nI k) σ' = f_X_who_38b (fun x1 x2 x3 x4 σ => f_X_who_38 f x1 x2 x3 x4 σ) (nI p) m acc (nI k) σ' := rfl
    have eM : f_M_who_26 (f + 1) (nI p) m acc (nI k) τ' = f_M_who_26b (fun x1 x2 x3 x4 σ => f_M_who_26 f x1 x2 x3 x4 σ) (nI p) m acc (nI k) τ' := rfl
    rw [eX, eM]
    unfold f_X_who_38b f_M_who_26b f_X_who_83 f_M_who_66
    obtain ⟨i, q, s, hi, hki, hq, e1, e2, hs, e3, e4, hs'⟩ := R_P (x := nI k) hR ⟨nI_pos' (by omega), by rw [hN]; exact nI_lt (by omega) (by omega)⟩
    have hik : i = k := ((nI_eq (by omega) (by omega)).mp hki).symm
    subst hik
    obtain ⟨D, hX, hM⟩ := R_D hR hs' (by omega)
    have f1 : σ'.2 26 i = nI q := by rw [hx.2 26 (by decide) (by decide) (by decide)]; exact e1
    have f2 : τ'.2 11 i = nI q := by rw [hm.2 11 (by decide) (by decide) (by decide) (by decide) (by decide)]; exact e2
    have f3 : σ'.2 27 i = nI s := by rw [hx.2 27 (by decide) (by decide) (by decide)]; exact e3
    have f4 : τ'.2 12 i = nI s := by rw [hm.2 12 (by decide) (by decide) (by decide) (by decide) (by decide)]; exact e4
    obtain ⟨τ1, D1, k1, k2, k3, k4⟩ := m_spreads (CMx_w hm hC) hB (s := q) hq
    obtain ⟨r', σ2, τ2, q1, q2, q3, q4⟩ := why2 (σ := σ') (τ := τ1) (i := i) (p := q) (s := s) (q := p) (t := nI (Dp q)) (m := m) (SX_s (xq_a9 hx) hX) (SM_s (mq_tr (mq_ww hm) (mq_5 k2)) hM) hi hq hp f1 (by rw [k2.2 11 (by decide) (by decide) (by decide)]; exact f2) f3 (by rw [k2.2 12 (by decide) (by decide) (by decide)]; exact f4) (by rw [k4 p hp, few_sym hq hp k3 hF])
    rw [hx.1 602 (by omega) (by omega), hN2, if_neg (nI_ge (by omega) (by omega)), hm.1 14 (by omega) (by omega) (by omega), hN, if_neg (nI_ge (by omega) (by omega)), zin_n hi (by decide), zin_n hi (by decide), nI_clamp (by omega), f1, f2, zin_n hq (by decide), nI_clamp (by omega), hx.2 12 (by decide) (by decide) (by decide), e8 q hq, q1, k1, zbd_s, zbd_s]
    dsimp only
    rw [q2, zbd_s, nI_1]
    dsimp only
    by_cases h : r' = 0
    · rw [if_pos h, if_pos h]
      exact ih (i + 1) f _ σ2 τ2 (by omega) (by omega) (xa9_tr hx q3) (mw_tr hm (mw_tr (mw_5 k2) (mw_b q4)))
    · rw [if_neg h, if_neg h, zlt_s, Int32.or_zero]
      exact ih (i + 1) f _ σ2 τ2 (by omega) (by omega) (xa9_tr hx q3) (mw_tr hm (mw_tr (mw_5 k2) (mw_b q4)))
theorem sim_who : @zSim (Int32 × Int32) R (fun a => f_X_who a.1 a.2) (fun a => f_M_who a.1 a.2) := by
  intro ⟨x, z⟩ σ τ hR
  dsimp only
  unfold f_X_who f_M_who
  rw [x_isPlace, m_isPlace, zbd_s, zbd_s]
  by_cases h1 : 0 ≤ x ∧ x ≤ 1599
  · rw [bI_t h1]
    simp only [if_neg one0]
    rw [x_isFrom, m_in, zbd_s, zbd_s]
    by_cases h3 : 0 ≤ z ∧ z ≤ 9999
    · rw [bI_t h3]
      simp only [if_neg one0]
      obtain ⟨p, hp, rfl⟩ := bd_of (N := 1599) (by decide) h1
      obtain ⟨we, no, hL, hC⟩ := R_c hR
      obtain ⟨-, Dp, -, -, k3, -⟩ := m_spreads hC (cbd_of hL) (s := p) (by omega)
      obtain ⟨g', w1, w2⟩ := walk_12 hL k3 (by omega)
      obtain ⟨b1, ⟨N, hN8, b2⟩, -⟩ := id hR.2.2.2.2.1
      rw [w1, zbd_s]
      dsimp only
      obtain ⟨v, σ', τ', q1, q2, q3, q4⟩ := who_L (σ := wv σ 12 g') (τ := τ) (p := p) (m := z) (R_s xq_w12 mq_rfl hR) hC (cbd_of hL) k3 (by omega) hN8 b2 (by rw [wv_1, b1]; exact b2) (fun v hv => by rw [wv_q]; exact w2 v hv) N 0 zfu 0 (wv σ 12 g') τ (by omega) (by unfold zfu; omega) xa9_rfl mw_rfl
      rw [show nI 0 = (0 : Int32) from rfl] at q1 q2
      exact ⟨v, σ', τ', q1, q2, R_s (xq_tr xq_w12 (xq_a9 q3)) (mq_ww q4) hR⟩
    · rw [bI_f h3]
      simp only [if_true]
      exact ⟨_, _, _, rfl, rfl, hR⟩
  · rw [bI_f h1]
    simp only [if_true]
    exact ⟨_, _, _, rfl, rfl, hR⟩
