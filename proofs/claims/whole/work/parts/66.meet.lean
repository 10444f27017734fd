/-! ===== meet ===== -/
def mtI (A B : Nat → Nat) (b n : Int32) : Prop := b = -1 ∨ ∃ j, j < 1600 ∧ b = nI j ∧ n = nI (A j) + nI (B j)
theorem m1_ne {j : Nat} (h : j < 2 ^ 31) : ¬ nI j = -1 := by
  intro e
  have := nI_pos' h
  rw [e] at this
  exact absurd this (by decide)
theorem meet_L {σ τ : zS} {D E : SD} {A B : Nat → Nat} {w : Int32} (h9 : H9 σ D) (h10 : H10 σ E) (e1 : ∀ v, v < 1600 → σ.2 12 v = nI (A v)) (e2 : ∀ v, v < 1600 → σ.2 13 v = nI (B v)) (e3 : ∀ v, v < 1600 → τ.2 31 v = nI (A v)) (e4 : ∀ v, v < 1600 → τ.2 28 v = nI (B v)) (e5 : ∀ v, v < 1600 → τ.2 26 v = bI (D.ins v = true)) (e6 : ∀ v, v < 1600 → τ.2 27 v = bI (E.ins v = true)) : ∀ (r p f : Nat) (b n : Int32), p + r = 1600 → r < f → mtI A B b n → ∃ (b' n' : Int32), f_X_meetingPlace_82 f b n (nI p) σ = some (b', σ) ∧ f_M_meet_136 f w b n (nI p) τ = some (if b' = -1 then -1 else if w = 0 then b' else n', τ) ∧ mtI A B b' n' := by
  intro r
  induction r with
  | zero =>
    intro p f b n hp hf hI
    obtain ⟨f, rfl⟩ : ∃ m, f = m + 1 := ⟨f - 1, by omega⟩
    refine ⟨b, n, ?_, ?_, hI⟩
    · show f_X_meetingPlace_82b _ _ _ _ _ = _
      unfold f_X_meetingPlace_82b
      rw [if_pos (show (1600 : Int32) ≤ nI p from nI_le (show 1600 ≤ p by omega) (by omega))]
    · show f_M_meet_136b _ _ _ _ _ _ = _
      unfold f_M_meet_136b
      rw [if_pos (show (1600 : Int32) ≤ nI p from nI_le (show 1600 ≤ p by omega) (by omega))]
      by_cases h : b = -1
      · rw [if_pos h, if_pos h]
      · rw [if_neg h, if_neg h]
        by_cases h2 : w = 0
        · rw [if_pos h2, if_pos h2]
        · rw [if_neg h2, if_neg h2]
  | succ r ih =>
    intro p f b n hp hf hI
    obtain ⟨f, rfl⟩ : ∃ m, f = m + 1 := ⟨f - 1, by omega⟩
    have hp' : p < 1600 := by omega
    have eX : f_X_meetingPlace_82 (f + 1) b n (nI p) σ = f_X_meetingPlace_82b (fun x3 x4 x5 σ => f_X_meetingPlace_82 f x3 x4 x5 σ) b n (nI p) σ := rfl
    have eM : f_M_meet_136 (f + 1) w b n (nI p) τ = f_M_meet_136b (fun x3 x4 x5 x6 σ => f_M_meet_136 f x3 x4 x5 x6 σ) w b n (nI p) τ := rfl
    rw [eX, eM]
    unfold f_X_meetingPlace_82b f_M_meet_136b f_X_meetingPlace_119 f_X_meetingPlace_150 f_M_meet_194 f_M_meet_202
    rw [if_neg (show ¬ (1600 : Int32) ≤ nI p from nI_ge hp' (by decide)), if_neg (show ¬ (1600 : Int32) ≤ nI p from nI_ge hp' (by decide))]
    simp only [zin_n hp' (show 1600 < 2 ^ 31 by decide), nI_clamp (show p < 2 ^ 31 by omega), e1 p hp', e2 p hp', e3 p hp', e4 p hp', e5 p hp', e6 p hp', zlt_s, nI_1, h9 σ (fun _ _ => rfl) rfl p hp', h10 σ (fun _ _ => rfl) rfl p hp', zbd_s]
    have hup : mtI A B (nI p) (nI (A p) + nI (B p)) := Or.inr ⟨p, hp', rfl, rfl⟩
    by_cases h1 : D.ins p = true
    · by_cases h2 : E.ins p = true
      · simp only [bI_t h1, bI_t h2, if_neg one0]
        by_cases h3 : b = -1
        · simp only [if_pos h3]
          exact ih (p + 1) f _ _ (by omega) (by omega) hup
        · simp only [if_neg h3]
          by_cases h4 : n ≤ nI (A p) + nI (B p)
          · simp only [if_pos h4]
            exact ih (p + 1) f _ _ (by omega) (by omega) hI
          · simp only [if_neg h4]
            exact ih (p + 1) f _ _ (by omega) (by omega) hup
      · simp only [bI_t h1, bI_f h2, if_neg one0, if_true, ite_self]
        exact ih (p + 1) f _ _ (by omega) (by omega) hI
    · simp only [bI_f h1, if_true, ite_self]
      exact ih (p + 1) f _ _ (by omega) (by omega) hI
def metT (x1 x2 x3 : Int32) (σ : zS) : Option (Int32 × zS) :=
  zin x2 8 (zbd (f_M_spreads (σ.2 11 x2.toNatClampNeg) σ) fun _ σ1 =>
  zin x1 8 (zbd (f_M_marksOne (σ1.2 12 x1.toNatClampNeg) σ1) fun r3 σ2 =>
  zin x2 8 (zbd (f_M_marksOther (σ2.2 12 x2.toNatClampNeg) σ2) fun _ σ4 =>
  f_M_meet_136 zfu x3 (-1) 0 0 σ4)))
theorem m_kept {τ : zS} {x1 x2 x3 : Int32} : ∀ (r p f : Nat) (g : Nat → Int32), p + r = 1600 → r < f → ∃ g', f_M_meet_68 f x1 x2 x3 (nI p) (wv τ 31 g) = metT x1 x2 x3 (wv τ 31 g') ∧ ∀ j, g' j = if p ≤ j ∧ j < 1600 then τ.2 28 j else g j := by
  intro r
  induction r with
  | zero =>
    intro p f g hp hf
    obtain ⟨f, rfl⟩ : ∃ m, f = m + 1 := ⟨f - 1, by omega⟩
    refine ⟨g, ?_, fun j => by rw [if_neg (by omega)]⟩
    show f_M_meet_68b _ _ _ _ _ _ = _
    unfold f_M_meet_68b
    rw [if_pos (show (1600 : Int32) ≤ nI p from nI_le (show 1600 ≤ p by omega) (by omega))]
    rfl
  | succ r ih =>
    intro p f g hp hf
    obtain ⟨f, rfl⟩ : ∃ m, f = m + 1 := ⟨f - 1, by omega⟩
    obtain ⟨g', h1, h2⟩ := ih (p + 1) f (upd g p (τ.2 28 p)) (by omega) (by omega)
    refine ⟨g', ?_, fun j => ?_⟩
    · have e0 : f_M_meet_68 (f + 1) x1 x2 x3 (nI p) (wv τ 31 g) = f_M_meet_68b (fun x1 x2 x3 x4 σ => f_M_meet_68 f x1 x2 x3 x4 σ) x1 x2 x3 (nI p) (wv τ 31 g) := rfl
      rw [e0]
      unfold f_M_meet_68b
      rw [if_neg (show ¬ (1600 : Int32) ≤ nI p from nI_ge (show p < 1600 by omega) (by decide)), zin_n (by omega) (by decide), zin_n (by omega) (by decide), zlt_s, nI_clamp (by omega), wv_ne τ g (show 28 ≠ 31 by decide), zsa_wv _ _ _ _ (by omega), nI_1]
      exact h1
    · rw [h2 j]
      unfold upd
      by_cases hj : j = p
      · subst hj
        rw [if_neg (by omega), if_pos rfl, if_pos (by omega)]
      · rw [if_neg hj]
        by_cases h3 : p + 1 ≤ j ∧ j < 1600
        · rw [if_pos h3, if_pos (by omega)]
        · rw [if_neg h3, if_neg (by omega)]
theorem sim_meet : @zSim (Int32 × Int32 × Int32) R (fun a => f_X_meet a.1 a.2.1 a.2.2) (fun a => f_M_meet a.1 a.2.1 a.2.2) := by
  intro ⟨x, y, z⟩ σ τ hR
  dsimp only
  obtain ⟨b1, b2, -⟩ := id hR.2.2.2.2.1
  unfold f_X_meet f_M_meet
  rw [pe_knows, m_isPerson b2, zbd_s, zbd_s, b1]
  by_cases h1 : 0 ≤ x ∧ x < τ.1 14
  · rw [bI_t h1]
    simp only [if_neg one0]
    rw [pe_knows, m_isPerson b2, zbd_s, zbd_s, b1]
    by_cases h2 : 0 ≤ y ∧ y < τ.1 14
    · rw [bI_t h2]
      simp only [if_neg one0]
      by_cases hxy : x = y
      · simp only [if_pos hxy]
        exact ⟨_, _, _, rfl, rfl, hR⟩
      · simp only [if_neg hxy]
        rw [x_isBit, m_in, zbd_s, zbd_s]
        by_cases h3 : 0 ≤ z ∧ z ≤ 1
        · rw [bI_t h3]
          simp only [if_neg one0]
          obtain ⟨i, p, s, hi, rfl, hp, e1, e2, hs, e3, e4, hs'⟩ := R_P hR h1
          obtain ⟨j, q, o, hj, rfl, hq, f1, f2, ho, f3, f4, ho'⟩ := R_P hR h2
          obtain ⟨D, hX, hM⟩ := R_D hR hs' (by omega)
          obtain ⟨E, hY, hN⟩ := R_D hR ho' (by omega)
          obtain ⟨σ1, τ1, k1, k2, k3, k4, k5, k6, k7⟩ := isOut2 hX hM hi hp e1 e2 e3 e4
          rw [k1, k2, zbd_s, zbd_s]
          dsimp only
          by_cases h4 : D.ins p = true
          · rw [bI_f (fun w => w h4), if_pos rfl, if_pos rfl]
            obtain ⟨σ2, τ2, l1, l2, l3, l4, l5, l6, l7⟩ := isOut2 (σ := σ1) (τ := τ1) (SX_s (xq_a9 k3) hY) (SM_s (mq_b k5) hN) hj hq (by rw [k3.2 26 (by decide) (by decide) (by decide)]; exact f1) (by rw [k5.2 11 (by decide) (by decide)]; exact f2) (by rw [k3.2 27 (by decide) (by decide) (by decide)]; exact f3) (by rw [k5.2 12 (by decide) (by decide)]; exact f4)
            rw [l1, l2, zbd_s, zbd_s]
            dsimp only
            have hx2 : xa9 σ σ2 := xa9_tr k3 l3
            have hm2 : mb τ τ2 := mb_tr k5 l5
            by_cases h5 : E.ins q = true
            · rw [bI_f (fun w => w h5), if_pos rfl, if_pos rfl]
              obtain ⟨we, no, hL, hC⟩ := R_c hR
              have hB := cbd_of hL
              have p26 : σ2.2 26 = σ.2 26 := hx2.2 26 (by decide) (by decide) (by decide)
              have p27 : σ2.2 27 = σ.2 27 := hx2.2 27 (by decide) (by decide) (by decide)
              have m11 : τ2.2 11 = τ.2 11 := hm2.2 11 (by decide) (by decide)
              have m12 : τ2.2 12 = τ.2 12 := hm2.2 12 (by decide) (by decide)
              -- X
              obtain ⟨σ3, a1, a2, a3⟩ := x_meas9 (SX_s (xq_a9 hx2) hX)
              obtain ⟨σ4, c1, c2, c3⟩ := x_meas10 (SX_s (xq_a9 (xa9_tr hx2 a2)) hY)
              have q26 : σ4.2 26 = σ.2 26 := by rw [c2.2 26 (by decide) (by decide) (by decide), a2.2 26 (by decide) (by decide) (by decide), p26]
              have q21 : σ4.2 21 = σ.2 21 := by rw [c2.2 21 (by decide) (by decide) (by decide), a2.2 21 (by decide) (by decide) (by decide), hx2.2 21 (by decide) (by decide) (by decide)]
              have q22 : σ4.2 22 = σ.2 22 := by rw [c2.2 22 (by decide) (by decide) (by decide), a2.2 22 (by decide) (by decide) (by decide), hx2.2 22 (by decide) (by decide) (by decide)]
              -- M
              obtain ⟨τ3, A, t1, t2, t3, t4⟩ := m_spreads (CMx_w (mw_b hm2) hC) hB (s := p) hp
              obtain ⟨g3, u1, u2⟩ := m_kept (τ := τ3) (x1 := nI i) (x2 := nI j) (x3 := z) 1600 0 zfu (τ3.2 31) (by omega) (by decide)
              rw [wv_self] at u1
              have hmq4 : mq τ (wv τ3 31 g3) := mq_tr (mq_tr (mq_b hm2) (mq_5 t2)) (mq_w (by omega))
              have hC4 : CMx (wv τ3 31 g3) we no := fun τ9 g1 g2 => CMx_w (mw_tr (mw_b hm2) (mw_5 t2)) hC τ9 g1 (fun q hq => (g2 q hq).trans (wv_ne τ3 g3 (by omega)))
              obtain ⟨τ5, B, v1, v2, v3, v4⟩ := m_spreads hC4 hB (s := q) hq
              obtain ⟨τ6, y1, y2, y3, y4⟩ := m_marksOne (SM_s (mq_tr hmq4 (mq_5 v2)) hM)
              obtain ⟨τ7, z1, z2, z3, z4⟩ := m_marksOther (SM_s (mq_tr (mq_tr hmq4 (mq_5 v2)) y2) hN)
              obtain ⟨g1, w1, w2⟩ := walk_12 (LC_s q21 q22 hL) t3 hp
              obtain ⟨g2, x1, x2⟩ := walk_13 (LC_s (σ' := wv σ4 12 g1) (by rw [wv_ne σ4 g1 (by decide)]; exact q21) (by rw [wv_ne σ4 g1 (by decide)]; exact q22) hL) v3 hq
              have hmA : f_X_meetingPlace (nI i) (nI j) σ2 = f_X_meetingPlace_82 zfu (-1) 0 0 (wv (wv σ4 12 g1) 13 g2) := by
                unfold f_X_meetingPlace
                rw [zin_n hi (by decide), nI_clamp (by omega), p27, e3, a1, zbd_s]
                dsimp only
                rw [zin_n hj (by decide), nI_clamp (by omega), a2.2 27 (by decide) (by decide) (by decide), p27, f3, c1, zbd_s]
                dsimp only
                rw [zin_n hi (by decide), q26, e1, w1, zbd_s]
                dsimp only
                rw [zin_n hj (by decide), wv_ne σ4 g1 (by decide), q26, f1, x1, zbd_s]
              have hmB : (zin (nI i) 8 (zbd (f_M_spreads (τ2.2 11 (nI i).toNatClampNeg) τ2) fun _ σ11 => f_M_meet_68 zfu (nI i) (nI j) z 0 σ11)) = f_M_meet_136 zfu z (-1) 0 0 τ7 := by
                rw [zin_n hi (by decide), nI_clamp (by omega), m11, e2, t1, zbd_s]
                have u1' : f_M_meet_68 zfu (nI i) (nI j) z 0 τ3 = metT (nI i) (nI j) z (wv τ3 31 g3) := u1
                dsimp only
                rw [u1']
                unfold metT
                rw [zin_n hj (by decide), nI_clamp (by omega), wv_ne τ3 g3 (by decide), t2.2 11 (by decide) (by decide) (by decide), m11, f2, v1, zbd_s]
                dsimp only
                rw [zin_n hi (by decide), nI_clamp (by omega), v2.2 12 (by decide) (by decide) (by decide), wv_ne τ3 g3 (by decide), t2.2 12 (by decide) (by decide) (by decide), m12, e4, y1, zbd_s]
                dsimp only
                rw [zin_n hj (by decide), y3 12 (by decide) (by decide) (by decide), v2.2 12 (by decide) (by decide) (by decide), wv_ne τ3 g3 (by decide), t2.2 12 (by decide) (by decide) (by decide), m12, f4, z1, zbd_s]
              rw [hmA, hmB]
              have s12 : ∀ v, v < 1600 → (wv (wv σ4 12 g1) 13 g2).2 12 v = nI (A v) := fun v hv => by rw [wv_ne _ g2 (by decide), wv_q]; exact w2 v hv
              have s13 : ∀ v, v < 1600 → (wv (wv σ4 12 g1) 13 g2).2 13 v = nI (B v) := fun v hv => by rw [wv_q]; exact x2 v hv
              obtain ⟨b', n', r1, r2, r3⟩ := meet_L (σ := wv (wv σ4 12 g1) 13 g2) (τ := τ7) (D := D) (E := E) (A := A) (B := B) (w := z) (fun σ9 h1 h2 => a3 σ9 (fun k hk => (h1 k hk).trans (c2.1 k (by omega) (by omega))) (by rw [h2, wv_ne _ g2 (by decide), wv_ne _ g1 (by decide)]; exact c2.2 32 (by decide) (by decide) (by decide))) (fun σ9 h1 h2 => c3 σ9 h1 (by rw [h2, wv_ne _ g2 (by decide), wv_ne _ g1 (by decide)])) s12 s13 (fun v hv => by rw [z3 31 (by decide) (by decide) (by decide), y3 31 (by decide) (by decide) (by decide), v2.2 31 (by decide) (by decide) (by decide), wv_q, u2 v, if_pos ⟨by omega, hv⟩]; exact t4 v hv) (fun v hv => by rw [z3 28 (by decide) (by decide) (by decide), y3 28 (by decide) (by decide) (by decide)]; exact v4 v hv) (fun v hv => by rw [z3 26 (by decide) (by decide) (by decide)]; exact y4 v hv) z4 1600 0 zfu (-1) 0 (by omega) (by decide) (Or.inl rfl)
              rw [show nI 0 = (0 : Int32) from rfl] at r1 r2
              rw [r1, r2, zbd_s]
              dsimp only
              have hxq : xq σ (wv (wv σ4 12 g1) 13 g2) := xq_tr (xq_tr (xq_tr (xq_tr (xq_a9 hx2) (xq_a9 a2)) (xq_a10 c2)) xq_w12) xq_w13
              have hmq : mq τ τ7 := mq_tr (mq_tr (mq_tr hmq4 (mq_5 v2)) y2) z2
              have hR' := R_s hxq hmq hR
              rcases r3 with r3 | ⟨k, hk, r3, r4⟩
              · rw [if_pos r3, if_pos r3]
                exact ⟨_, _, _, rfl, rfl, hR'⟩
              · have hne : ¬ b' = -1 := by rw [r3]; exact m1_ne (by omega)
                rw [if_neg hne, if_neg hne]
                by_cases hz : z = 0
                · rw [if_pos hz, if_pos hz]
                  exact ⟨_, _, _, rfl, rfl, hR'⟩
                · rw [if_neg hz, if_neg hz, r3, zin_n hk (by decide), zin_n hk (by decide), nI_clamp (by omega), s12 k hk, s13 k hk, r4]
                  exact ⟨_, _, _, rfl, rfl, hR'⟩
            · rw [bI_t h5, if_neg one0, if_neg one0]
              exact ⟨_, _, _, rfl, rfl, R_s (xq_a9 hx2) (mq_b hm2) hR⟩
          · rw [bI_t h4, if_neg one0, if_neg one0]
            exact ⟨_, _, _, rfl, rfl, R_s (xq_a9 k3) (mq_b k5) hR⟩
        · rw [bI_f h3]
          simp only [if_true]
          exact ⟨_, _, _, rfl, rfl, hR⟩
    · rw [bI_f h2]
      simp only [if_true]
      exact ⟨_, _, _, rfl, rfl, hR⟩
  · rw [bI_f h1]
    simp only [if_true]
    exact ⟨_, _, _, rfl, rfl, hR⟩
