/-! ===== shed ===== -/
def nearD (cd : Nat → Nat) (n dx dy hs nh nr : Nat) : Bool := decide (¬ vl cd (fct (nI (dx * dx + dy * dy)) (nI (dx + dy)) (nI hs) (nI nh) 0 (nI nr)) n = 0)
theorem nearB_D (cd : Nat → Nat) (n p q hs nh nr : Nat) : nearB cd n p q hs nh nr = nearD cd n (nd (p % 40) (q % 40)) (nd (p / 40) (q / 40)) hs nh nr := rfl
/-- what has been looked at -/
def LK (σ : zS) (cd : Nat → Nat) (n nh nr : Nat) : Prop := ∀ dx dy u, dx < 40 → dy < 40 → u < 2 → σ.2 20 (u * 1600 + dy * 40 + dx) = 0 ∨ σ.2 20 (u * 1600 + dy * 40 + dx) = (if nearD cd n dx dy (1 + u) nh nr = true then 1 else 2)
def xs5 (σ σ' : zS) : Prop := (∀ k, k ≠ 1102 → σ'.1 k = σ.1 k) ∧ ∀ q, q ≠ 20 → q ≠ 34 → q ≠ 35 → σ'.2 q = σ.2 q
theorem xs5_tr {a b c : zS} (h : xs5 a b) (g : xs5 b c) : xs5 a c := ⟨fun k q => (g.1 k q).trans (h.1 k q), fun q h0 h1 h2 => (g.2 q h0 h1 h2).trans (h.2 q h0 h1 h2)⟩
theorem xs5_rfl {a : zS} : xs5 a a := ⟨fun _ _ => rfl, fun _ _ _ _ => rfl⟩
theorem xs5_3 {a b : zS} (h : xs3 a b) : xs5 a b := ⟨h.1, fun q _ h1 h2 => h.2 q h1 h2⟩
theorem xq_5 {a b : zS} (h : xs5 a b) : xq a b := ⟨fun k _ _ _ h4 => h.1 k h4, fun q _ h2 h3 h4 => h.2 q (by omega) (by omega) (by omega)⟩
theorem LX_5 {σ σ' : zS} {c e : Nat → Nat} {n m : Nat} (h : xs5 σ σ') (hL : LX σ c n e m) : LX σ' c n e m := LX_r (fun k hk => h.1 k (by omega)) (fun q hq => h.2 q (by omega) (by omega) (by omega)) hL
theorem HX_5 {σ σ' : zS} {n nr : Nat} {pl hu : Nat → Nat} (h : xs5 σ σ') (hH : HX σ n nr pl hu) : HX σ' n nr pl hu := by
  obtain ⟨h1, h2, h3, h4⟩ := hH
  refine ⟨h1, by rw [h.1 307 (by decide)]; exact h2, by rw [h.1 308 (by decide)]; exact h3, fun i hi => ?_⟩
  rw [h.2 17 (by decide) (by decide) (by decide), h.2 18 (by decide) (by decide) (by decide)]
  exact h4 i hi
theorem xs5_20 {σ : zS} {i v : Int32} : xs5 σ (zsa σ 20 i v) := ⟨fun _ _ => rfl, fun q h _ _ => by rw [za2]; unfold va_up; rw [if_neg h]⟩
theorem x_hutIsNear {σ : zS} {c e : Nat → Nat} {ln m n nr p h : Nat} {pl hu : Nat → Nat} (hW : WF c ln e m) (hL : LX σ c ln e m) (hH : HX σ n nr pl hu) (hK : LK σ c ln n nr) (hp : p < 1600) (hh : h < n) : ∃ σ', f_Vi_hutIsNear (nI p) (nI h) σ = some (bI (nearB c ln p (pl h) (1 + hu h) n nr = true), σ') ∧ xs5 σ σ' ∧ LK σ' c ln n nr := by
  obtain ⟨h1, h2, h3, h4⟩ := hH
  obtain ⟨q1, q2, q3, q4⟩ := h4 h (by omega)
  have hdx : nd (p % 40) (pl h % 40) < 40 := by unfold nd; omega
  have hdy : nd (p / 40) (pl h / 40) < 40 := by unfold nd; omega
  unfold f_Vi_hutIsNear
  rw [zin_n (by omega) (by decide), zlt_s, zin_n (by omega) (by decide), zlt_s, zin_n (by omega) (by decide), zlt_s, nI_clamp (by omega), q3, q4, zrem_n (by omega), zrem_n (by omega), zdiv_n (by omega), zdiv_n (by omega), zabs_nd (by omega) (by omega), zabs_nd (by omega) (by omega), show (1600 : Int32) = nI 1600 from rfl, show (40 : Int32) = nI 40 from rfl, nI_mul, nI_mul, nI_add, nI_add]
  have hi : hu h * 1600 + nd (p / 40) (pl h / 40) * 40 + nd (p % 40) (pl h % 40) < 3200 := by
    have : hu h * 1600 ≤ 1600 := by have := Nat.mul_le_mul_right 1600 q2; omega
    omega
  generalize hid : hu h * 1600 + nd (p / 40) (pl h / 40) * 40 + nd (p % 40) (pl h % 40) = i at hi
  rw [zin_n hi (by decide), nI_clamp (by omega)]
  have hk := hK (nd (p % 40) (pl h % 40)) (nd (p / 40) (pl h / 40)) (hu h) hdx hdy (by omega)
  rw [hid, ← nearB_D] at hk
  unfold f_Vi_hutIsNear_88 f_Vi_hutIsNear_89
  by_cases h0 : σ.2 20 i = 0
  · rw [if_pos h0]
    obtain ⟨σ1, e1, e2⟩ := x_areNear (p := p) (q := pl h) (ih := 1) (u := hu h) (j := h) hL hW hp q1 (by omega) q3 q4 h2 h3
    rw [show (1 : Int32) = nI 1 from rfl] at *
    rw [e1, zbd_s]
    dsimp only
    have e20 : σ1.2 20 = σ.2 20 := e2.2 20 (by decide) (by decide)
    have key : ∀ v : Int32, v = (if nearB c ln p (pl h) (1 + hu h) n nr = true then 1 else 2) → LK (zsa σ1 20 (nI i) v) c ln n nr := by
      intro v hv dx dy u h5 h6 h7
      rw [za2]
      show upd (σ1.2 20) (nI i).toNatClampNeg v _ = 0 ∨ upd (σ1.2 20) (nI i).toNatClampNeg v _ = _
      rw [nI_clamp (by omega)]
      unfold upd
      by_cases hc : u * 1600 + dy * 40 + dx = i
      · rw [if_pos hc]
        right
        rw [← hid] at hc
        have hu1 : u = hu h := by
          have c1 : u = 0 ∨ u = 1 := by omega
          have c2 : hu h = 0 ∨ hu h = 1 := by omega
          rcases c1 with c1 | c1 <;> rcases c2 with c2 | c2 <;> rw [c1, c2] at hc <;> omega
        rw [hu1] at hc
        have e3 : dy = nd (p / 40) (pl h / 40) ∧ dx = nd (p % 40) (pl h % 40) := by omega
        rw [hv, hu1, e3.1, e3.2, ← nearB_D]
      · rw [if_neg hc, e20]
        exact hK dx dy u h5 h6 h7
    by_cases hn : nearB c ln p (pl h) (1 + hu h) n nr = true
    · rw [bI_t hn, if_neg (show ¬ (1 : Int32) = 0 by decide), zin_n hi (by decide), zlt_s, zin_n hi (by decide), nI_clamp (by omega)]
      have e4 : (zsa σ1 20 (nI i) 1).2 20 i = 1 := by
        rw [za2]
        show upd (σ1.2 20) (nI i).toNatClampNeg 1 i = 1
        rw [nI_clamp (by omega)]
        unfold upd
        rw [if_pos rfl]
      rw [show nI 1 = (1 : Int32) from rfl, e4, if_pos rfl]
      exact ⟨_, rfl, xs5_tr (xs5_3 e2) xs5_20, key 1 (by rw [if_pos hn])⟩
    · rw [bI_f hn, if_pos rfl, zin_n hi (by decide), zlt_s, zin_n hi (by decide), nI_clamp (by omega)]
      have e4 : (zsa σ1 20 (nI i) 2).2 20 i = 2 := by
        rw [za2]
        show upd (σ1.2 20) (nI i).toNatClampNeg 2 i = 2
        rw [nI_clamp (by omega)]
        unfold upd
        rw [if_pos rfl]
      rw [e4, if_neg (by decide)]
      exact ⟨_, rfl, xs5_tr (xs5_3 e2) xs5_20, key 2 (by rw [if_neg hn])⟩
  · rw [if_neg h0, zin_n hi (by decide), nI_clamp (by omega)]
    rcases hk with hk | hk
    · exact absurd hk h0
    · rw [hk]
      by_cases hn : nearB c ln p (pl h) (1 + hu h) n nr = true
      · rw [if_pos hn, if_pos rfl, bI_t hn]
        exact ⟨σ, rfl, xs5_rfl, hK⟩
      · rw [if_neg hn, if_neg (by decide), bI_f hn]
        exact ⟨σ, rfl, xs5_rfl, hK⟩
theorem shed_J {σ τ : zS} {c e : Nat → Nat} {ln m n nr p T : Nat} {pl hu : Nat → Nat} (hW : WF c ln e m) (hL : LX σ c ln e m) (hH : HX σ n nr pl hu) (hLM : LM τ c ln e m) (hHM : HM τ n nr pl hu) (hp : p < 1600) (hT : T < 2 ^ n) : ∀ (r k f f' : Nat) (σ' τ' : zS), k + r = n → r < f → r < f' → xs5 σ σ' → LK σ' c ln n nr → ms3 τ τ' → ∃ (b : Bool) (σ'' τ'' : zS), f_Vi_hutJoins_2 f (nI p) (nI T) (nI k) σ' = some (bI (b = true), σ'') ∧ f_M_joins_2 f' (nI p) (nI T) (nI k) τ' = some (bI (b = true), τ'') ∧ xs5 σ σ'' ∧ LK σ'' c ln n nr ∧ ms3 τ τ'' := by
  have hn20 := hH.1
  have hT20 := lt20 hn20 hT
  intro r
  induction r with
  | zero =>
    intro k f f' σ' τ' hk hf hf' hx hK hm
    obtain ⟨f, rfl⟩ : ∃ m, f = m + 1 := ⟨f - 1, by omega⟩
    obtain ⟨f', rfl⟩ : ∃ m, f' = m + 1 := ⟨f' - 1, by omega⟩
    refine ⟨false, σ', τ', ?_, ?_, hx, hK, hm⟩
    · show f_Vi_hutJoins_2b _ _ _ _ _ = _
      unfold f_Vi_hutJoins_2b
      rw [(HX_5 hx hH).2.1, if_pos (nI_le (by omega) (by omega))]
      rfl
    · show f_M_joins_2b _ _ _ _ _ = _
      unfold f_M_joins_2b
      rw [hm.1, hHM.2.1, if_pos (nI_le (by omega) (by omega))]
      rfl
  | succ r ih =>
    intro k f f' σ' τ' hk hf hf' hx hK hm
    obtain ⟨f, rfl⟩ : ∃ m, f = m + 1 := ⟨f - 1, by omega⟩
    obtain ⟨f', rfl⟩ : ∃ m, f' = m + 1 := ⟨f' - 1, by omega⟩
    have eX : f_Vi_hutJoins_2 (f + 1) (nI p) (nI T) (nI k) σ' = f_Vi_hutJoins_2b (fun x1 x2 x3 σ => f_Vi_hutJoins_2 f x1 x2 x3 σ) (nI p) (nI T) (nI k) σ' := rfl
    have eM : f_M_joins_2 (f' + 1) (nI p) (nI T) (nI k) τ' = f_M_joins_2b (fun x1 x2 x3 σ => f_M_joins_2 f' x1 x2 x3 σ) (nI p) (nI T) (nI k) τ' := rfl
    rw [eX, eM]
    unfold f_Vi_hutJoins_2b f_M_joins_2b f_Vi_hutJoins_29 f_M_joins_43
    have hm1 : τ'.2 1 = τ.2 1 := hm.2 1 (by decide) (by decide)
    have hm2 : τ'.2 2 = τ.2 2 := hm.2 2 (by decide) (by decide)
    obtain ⟨p1, p2, p3, p4⟩ := hHM.2.2.2.2 k (by omega)
    rw [(HX_5 hx hH).2.1, hm.1, hHM.2.1, if_neg (nI_ge (by omega) (by omega)), if_neg (nI_ge (by omega) (by omega)), x_has (p31 hT20) (by omega), zbd_s, nI_1, zin_n (by omega) (by decide), zin_n (by omega) (by decide), nI_clamp (by omega), hm1, hm2, p3, p4]
    dsimp only
    by_cases hb : T.testBit k = true
    · rw [bI_t hb, if_neg one0, if_pos ((has_1 (p31 hT20) (by omega)).mpr hb)]
      obtain ⟨σ1, e1, e2, e3⟩ := x_hutIsNear hW (LX_5 hx hL) (HX_5 hx hH) hK hp (show k < n by omega)
      obtain ⟨τ1, g1, g2⟩ := m_areNear (p := p) (q := pl k) (hs := 1 + hu k) (nh := n) (nr := nr) (LM_s hm hLM) hW hp p1 (by rw [hm.1]; exact hHM.2.1) (by rw [hm.1]; exact hHM.2.2.1)
      rw [e1, show (1 : Int32) + nI (hu k) = nI (1 + hu k) from nI_add 1 (hu k), g1, zbd_s, zbd_s]
      dsimp only
      by_cases hn : nearB c ln p (pl k) (1 + hu k) n nr = true
      · rw [bI_t hn, if_neg one0, if_neg one0]
        exact ⟨true, σ1, τ1, rfl, rfl, xs5_tr hx e2, e3, ms3_tr hm g2⟩
      · rw [bI_f hn, if_pos rfl, if_pos rfl]
        exact ih (k + 1) f f' σ1 τ1 (by omega) (by omega) (by omega) (xs5_tr hx e2) e3 (ms3_tr hm g2)
    · rw [bI_f hb, if_pos rfl, if_neg (fun q => hb ((has_1 (p31 hT20) (by omega)).mp q))]
      exact ih (k + 1) f f' σ' τ' (by omega) (by omega) (by omega) hx hK hm
theorem shed_L {σ τ : zS} {c e : Nat → Nat} {ln m n nr A B : Nat} {pl hu : Nat → Nat} (hW : WF c ln e m) (hL : LX σ c ln e m) (hH : HX σ n nr pl hu) (hLM : LM τ c ln e m) (hHM : HM τ n nr pl hu) (hA : A < 2 ^ n) (hB : B < 2 ^ n) : ∀ (r k f f' : Nat) (σ' τ' : zS), k + r = 1600 → r < f → r < f' → xs5 σ σ' → LK σ' c ln n nr → ms3 τ τ' → ∃ (v : Int32) (σ'' τ'' : zS), f_Vi_shedFor_10 f (nI A) (nI B) (nI k) σ' = some (v, σ'') ∧ f_M_shed_46 f' (nI A) (nI B) (nI k) τ' = some (v, τ'') ∧ xs5 σ σ'' ∧ ms3 τ τ'' := by
  have hn20 := hH.1
  intro r
  induction r with
  | zero =>
    intro k f f' σ' τ' hk hf hf' hx hK hm
    obtain ⟨f, rfl⟩ : ∃ m, f = m + 1 := ⟨f - 1, by omega⟩
    obtain ⟨f', rfl⟩ : ∃ m, f' = m + 1 := ⟨f' - 1, by omega⟩
    refine ⟨-6, σ', τ', ?_, ?_, hx, hm⟩
    · show f_Vi_shedFor_10b _ _ _ _ _ = _
      unfold f_Vi_shedFor_10b
      rw [if_pos (show (1600 : Int32) ≤ nI k from nI_le (show 1600 ≤ k by omega) (by omega))]
    · show f_M_shed_46b _ _ _ _ _ = _
      unfold f_M_shed_46b
      rw [if_pos (show (1600 : Int32) ≤ nI k from nI_le (show 1600 ≤ k by omega) (by omega))]
  | succ r ih =>
    intro k f f' σ' τ' hk hf hf' hx hK hm
    obtain ⟨f, rfl⟩ : ∃ m, f = m + 1 := ⟨f - 1, by omega⟩
    obtain ⟨f', rfl⟩ : ∃ m, f' = m + 1 := ⟨f' - 1, by omega⟩
    have eX : f_Vi_shedFor_10 (f + 1) (nI A) (nI B) (nI k) σ' = f_Vi_shedFor_10b (fun x1 x2 x3 σ => f_Vi_shedFor_10 f x1 x2 x3 σ) (nI A) (nI B) (nI k) σ' := rfl
    have eM : f_M_shed_46 (f' + 1) (nI A) (nI B) (nI k) τ' = f_M_shed_46b (fun x3 x4 x5 σ => f_M_shed_46 f' x3 x4 x5 σ) (nI A) (nI B) (nI k) τ' := rfl
    rw [eX, eM]
    unfold f_Vi_shedFor_10b f_M_shed_46b f_Vi_shedFor_37 f_M_shed_78 f_Vi_hutJoins f_M_joins
    rw [if_neg (show ¬ (1600 : Int32) ≤ nI k from nI_ge (show k < 1600 by omega) (by decide)), if_neg (show ¬ (1600 : Int32) ≤ nI k from nI_ge (show k < 1600 by omega) (by decide)), nI_1]
    obtain ⟨b1, σ1, τ1, e1, e2, e3, e4, e5⟩ := shed_J (p := k) hW hL hH hLM hHM (by omega) hA n 0 zfu zfu σ' τ' (by omega) (by unfold zfu; omega) (by unfold zfu; omega) hx hK hm
    obtain ⟨b2, σ2, τ2, g1, g2, g3, g4, g5⟩ := shed_J (p := k) hW hL hH hLM hHM (by omega) hB n 0 zfu zfu σ1 τ1 (by omega) (by unfold zfu; omega) (by unfold zfu; omega) e3 e4 e5
    rw [show nI 0 = (0 : Int32) from rfl] at e1 e2 g1 g2
    rw [e1, e2, zbd_s, zbd_s]
    dsimp only
    by_cases h1 : b1 = true
    · rw [bI_t h1, if_neg one0, if_neg one0, g1, g2, zbd_s, zbd_s]
      dsimp only
      by_cases h2 : b2 = true
      · rw [bI_t h2, if_neg one0, if_neg one0]
        exact ⟨_, σ2, τ2, rfl, rfl, g3, g5⟩
      · rw [bI_f h2, if_pos rfl, if_pos rfl]
        exact ih (k + 1) f f' σ2 τ2 (by omega) (by omega) (by omega) g3 g4 g5
    · rw [bI_f h1, if_pos rfl, if_pos rfl]
      exact ih (k + 1) f f' σ1 τ1 (by omega) (by omega) (by omega) e3 e4 e5
theorem sim_shed : @zSim (Int32 × Int32) R (fun a => f_X_shed a.1 a.2) (fun a => f_M_shed a.1 a.2) := by
  intro ⟨x, y⟩ σ τ hR
  obtain ⟨hh, hb⟩ := R_h hR
  dsimp only
  unfold f_X_shed f_M_shed
  rw [vi_knows, m_isHouse hb, zbd_s, zbd_s, hh]
  by_cases h1 : 0 ≤ x ∧ x < τ.1 0
  · rw [bI_t h1]
    simp only [if_neg one0]
    rw [vi_knows, m_isHouse hb, zbd_s, zbd_s, hh]
    by_cases h2 : 0 ≤ y ∧ y < τ.1 0
    · rw [bI_t h2]
      simp only [if_neg one0]
      obtain ⟨⟨c, e, ln, m, n, nr, pl, hu, hW, hLX, hLM, hHX, hHM, jm, j1, j2⟩, -⟩ := id hR
      have hX : TX σ n (nrl c ln n nr pl hu) := ⟨hHX.2.1, hHX.1, jm, j1, j2⟩
      have hM : TM τ n (nrl c ln n nr pl hu) := ⟨hHM.2.1, hHM.1, hN_of hW hLM hHM⟩
      have hn20 := hX.2.1
      rw [hM.1] at h1 h2
      obtain ⟨a, ha, rfl⟩ := (kn_iff (by omega)).mp h1
      obtain ⟨b, hb', rfl⟩ := (kn_iff (by omega)).mp h2
      obtain ⟨τ1, t1, t2⟩ := m_townOf hM ha
      have hA := (tw_isC hX ha).2
      have hA20 := lt20 hn20 hA
      rw [x_townOf hX ha, t1]
      simp only [zbd_s]
      rw [x_has (p31 hA20) (by omega), zbd_s]
      dsimp only
      by_cases hab : (twn (nrl c ln n nr pl hu) n a).testBit b = true
      · rw [bI_t hab, if_neg one0, if_pos ((has_1 (p31 hA20) (by omega)).mpr hab)]
        exact ⟨_, _, _, rfl, rfl, R_s xq_rfl (mq_3 t2) hR⟩
      · rw [bI_f hab, if_pos rfl, if_neg (fun q => hab ((has_1 (p31 hA20) (by omega)).mp q))]
        obtain ⟨τ2, s1, s2⟩ := m_townOf (TM_s t2 hM) hb'
        have hB := (tw_isC hX hb').2
        rw [x_townOf hX hb', s1]
        simp only [zbd_s]
        unfold f_Vi_shedFor
        rw [zlt_s]
        have x0 : xs5 σ (zsf σ 20 3200 0) := ⟨fun _ _ => rfl, fun q h _ _ => zsf_ne h⟩
        have k0 : LK (zsf σ 20 3200 0) c ln n nr := by
          intro dx dy u h5 h6 h7
          left
          show va_up σ.2 20 (zfl 3200 0 (σ.2 20)) 20 _ = 0
          unfold va_up zfl
          have : u * 1600 ≤ 1600 := by have := Nat.mul_le_mul_right 1600 (show u ≤ 1 by omega); omega
          rw [if_pos rfl, if_pos (by omega)]
        obtain ⟨v, σ3, τ3, g1, g2, g3, g4⟩ := shed_L hW hLX hHX hLM hHM hA hB 1600 0 zfu zfu (zsf σ 20 3200 0) τ2 (by omega) (by decide) (by decide) x0 k0 (ms3_tr t2 s2)
        rw [show nI 0 = (0 : Int32) from rfl] at g1 g2
        rw [g1, g2]
        exact ⟨_, _, _, rfl, rfl, R_s (xq_5 g3) (mq_3 g4) hR⟩
    · rw [bI_f h2]
      simp only [if_true]
      exact ⟨_, _, _, rfl, rfl, hR⟩
  · rw [bI_f h1]
    simp only [if_true]
    exact ⟨_, _, _, rfl, rfl, hR⟩
