/-! ===== the class joins its houses anew ===== -/
def xs4 (σ σ' : zS) : Prop := (∀ k, k ≠ 1102 → σ'.1 k = σ.1 k) ∧ ∀ q, q ≠ 19 → q ≠ 34 → q ≠ 35 → σ'.2 q = σ.2 q
theorem xs4_rfl {σ : zS} : xs4 σ σ := ⟨fun _ _ => rfl, fun _ _ _ _ => rfl⟩
theorem xs4_tr {a b c : zS} (h : xs4 a b) (g : xs4 b c) : xs4 a c := ⟨fun k q => (g.1 k q).trans (h.1 k q), fun q h0 h1 h2 => (g.2 q h0 h1 h2).trans (h.2 q h0 h1 h2)⟩
theorem xs4_3 {a b : zS} (h : xs3 a b) : xs4 a b := ⟨h.1, fun q _ h1 h2 => h.2 q h1 h2⟩
theorem LX_s4 {σ σ' : zS} {c e : Nat → Nat} {n m : Nat} (h : xs4 σ σ') (hL : LX σ c n e m) : LX σ' c n e m := by
  obtain ⟨a, b, h1, h2, h3, h4, h5, h6, h7, h8, h9, h10⟩ := hL
  refine ⟨a, b, h1, h2, by rw [h.1 305 (by decide)]; exact h3, by rw [h.1 306 (by decide)]; exact h4, ?_, ?_, h7, h8, ?_, ?_⟩
  · unfold zln at h5 ⊢; rw [h.1 _ (by omega)]; exact h5
  · unfold zln at h6 ⊢; rw [h.1 _ (by omega)]; exact h6
  · intro i hi; rw [h.2 a (by omega) (by omega) (by omega)]; exact h9 i hi
  · intro i hi; rw [h.2 b (by omega) (by omega) (by omega)]; exact h10 i hi
/-- houses, as numbers -/
def HX (σ : zS) (n nr : Nat) (pl hu : Nat → Nat) : Prop := n ≤ 20 ∧ σ.1 307 = nI n ∧ σ.1 308 = nI nr ∧ ∀ i, i < 20 → pl i < 1600 ∧ hu i ≤ 1 ∧ σ.2 17 i = nI (pl i) ∧ σ.2 18 i = nI (hu i)
theorem HX_s4 {σ σ' : zS} {n nr : Nat} {pl hu : Nat → Nat} (h : xs4 σ σ') (hH : HX σ n nr pl hu) : HX σ' n nr pl hu := by
  obtain ⟨h1, h2, h3, h4⟩ := hH
  refine ⟨h1, by rw [h.1 307 (by decide)]; exact h2, by rw [h.1 308 (by decide)]; exact h3, fun i hi => ?_⟩
  rw [h.2 17 (by decide) (by decide) (by decide), h.2 18 (by decide) (by decide) (by decide)]
  exact h4 i hi
/-- whether two houses are near -/
def nrl (c : Nat → Nat) (ln n nr : Nat) (pl hu : Nat → Nat) : Nat → Nat → Bool := fun a b => nearB c ln (pl a) (pl b) (hu a + hu b) n nr
theorem nrl_comm (c : Nat → Nat) (ln n nr : Nat) (pl hu : Nat → Nat) (a b : Nat) : nrl c ln n nr pl hu a b = nrl c ln n nr pl hu b a := by
  unfold nrl
  rw [nearB_comm, Nat.add_comm]
def prc (a b x y : Nat) : Prop := x ≠ y ∧ ((x < a ∧ y < a) ∨ (x = a ∧ y < b) ∨ (y = a ∧ x < b))
def JI (N : Nat → Nat → Bool) (a b : Nat) (σ : zS) : Prop := ∃ jm : Nat → Nat, (∀ x, x < 20 → σ.2 19 x = nI (jm x) ∧ jm x < 2 ^ 20) ∧ ∀ x y, x < 20 → ((jm x).testBit y = true ↔ (prc a b x y ∧ N x y = true))
theorem JI_s {N : Nat → Nat → Bool} {a b : Nat} {σ σ' : zS} (h : σ'.2 19 = σ.2 19) (hJ : JI N a b σ) : JI N a b σ' := by
  obtain ⟨jm, h1, h2⟩ := hJ
  exact ⟨jm, fun x hx => by rw [h]; exact h1 x hx, h2⟩
theorem x_jinner {k10 : Int32 → zS → Option (Int32 × zS)} {c e : Nat → Nat} {ln m n nr a : Nat} {pl hu : Nat → Nat} {σ : zS} (hW : WF c ln e m) (hL : LX σ c ln e m) (hH : HX σ n nr pl hu) (ha : a < n) : ∀ (r b f : Nat) (σ' : zS), b + r = a → r < f → xs4 σ σ' → JI (nrl c ln n nr pl hu) a b σ' → ∃ σ'', f_Vi_joinAll_20 k10 f (nI a) (nI b) σ' = k10 (nI (a + 1)) σ'' ∧ xs4 σ σ'' ∧ JI (nrl c ln n nr pl hu) a a σ'' := by
  have hn20 := hH.1
  intro r
  induction r with
  | zero =>
    intro b f σ' hb hf hm hJ
    obtain ⟨f, rfl⟩ : ∃ m, f = m + 1 := ⟨f - 1, by omega⟩
    have hba : b = a := by omega
    subst hba
    refine ⟨σ', ?_, hm, hJ⟩
    show f_Vi_joinAll_20b _ _ _ _ _ = _
    unfold f_Vi_joinAll_20b
    rw [if_pos (Int32.le_refl _), nI_1]
  | succ r ih =>
    intro b f σ' hb hf hm hJ
    obtain ⟨f, rfl⟩ : ∃ m, f = m + 1 := ⟨f - 1, by omega⟩
    have e0 : f_Vi_joinAll_20 k10 (f + 1) (nI a) (nI b) σ' = f_Vi_joinAll_20b k10 (fun x1 x2 σ => f_Vi_joinAll_20 k10 f x1 x2 σ) (nI a) (nI b) σ' := rfl
    obtain ⟨-, g2, g3, g4⟩ := HX_s4 hm hH
    obtain ⟨ka1, ka2, ka3, ka4⟩ := g4 a (by omega)
    obtain ⟨kb1, kb2, kb3, kb4⟩ := g4 b (by omega)
    obtain ⟨σ1, h1, h2⟩ := x_areNear (p := pl a) (q := pl b) (ih := hu a) (u := hu b) (j := b) (LX_s4 hm hL) hW ka1 kb1 (by omega) kb3 kb4 g2 g3
    have hm1 : xs4 σ σ1 := xs4_tr hm (xs4_3 h2)
    have h19 : σ1.2 19 = σ'.2 19 := h2.2 19 (by decide) (by decide)
    obtain ⟨jm, j1, j2⟩ := JI_s h19 hJ
    have step : ∃ σ2, f_Vi_joinAll_20 k10 (f + 1) (nI a) (nI b) σ' = f_Vi_joinAll_20 k10 f (nI a) (nI (b + 1)) σ2 ∧ xs4 σ σ2 ∧ JI (nrl c ln n nr pl hu) a (b + 1) σ2 := by
      rw [e0]
      unfold f_Vi_joinAll_20b f_Vi_joinAll_69
      rw [if_neg (nI_ge (by omega) (by omega)), zin_n (by omega) (by decide), zin_n (by omega) (by decide), nI_clamp (by omega), nI_clamp (by omega), ka3, ka4, h1, zbd_s, nI_1]
      by_cases hnr : nearB c ln (pl a) (pl b) (hu a + hu b) n nr = true
      · rw [bI_t hnr, if_neg (show ¬ (1 : Int32) = 0 by decide), zin_n (by omega) (by decide), zin_n (by omega) (by decide), zlt_s, zin_n (by omega) (by decide), zin_n (by omega) (by decide), zlt_s, nb_shl (by omega), nb_shl (by omega)]
        refine ⟨_, rfl, ?_, ?_⟩
        · refine xs4_tr hm1 ⟨fun _ _ => rfl, fun q q1 _ _ => ?_⟩
          simp only [za2, va_up, if_neg q1]
        · have ea : σ1.2 19 a = nI (jm a) := (j1 a (by omega)).1
          have eb : σ1.2 19 b = nI (jm b) := (j1 b (by omega)).1
          refine ⟨fun x => if x = b then jm b ||| 2 ^ a else if x = a then jm a ||| 2 ^ b else jm x, fun x hx => ?_, fun x y hx => ?_⟩
          · simp only [za2, va_up, if_true, nI_clamp (show a < 2 ^ 31 by omega), nI_clamp (show b < 2 ^ 31 by omega)]
            unfold upd
            by_cases e1 : x = b
            · subst e1
              simp only [if_true, if_neg (show ¬ x = a by omega)]
              rw [eb, nb_or]
              exact ⟨rfl, or_lt (j1 x hx).2 (pow_lt (by omega))⟩
            · simp only [if_neg e1]
              by_cases e2 : x = a
              · subst e2
                simp only [if_true]
                rw [ea, nb_or]
                exact ⟨rfl, or_lt (j1 x hx).2 (pow_lt (by omega))⟩
              · simp only [if_neg e2]
                exact j1 x hx
          · have hnab : nrl c ln n nr pl hu a b = true := hnr
            have hnba : nrl c ln n nr pl hu b a = true := by rw [nrl_comm]; exact hnr
            by_cases e1 : x = b
            · subst e1
              simp only [if_true]
              rw [tb_or, tb_pow, j2 x y hx]
              unfold prc
              constructor
              · rintro (⟨⟨q1, q2⟩, q3⟩ | rfl)
                · exact ⟨⟨q1, by omega⟩, q3⟩
                · exact ⟨⟨by omega, by omega⟩, hnba⟩
              · rintro ⟨⟨q1, q2⟩, q3⟩
                by_cases e : y = a
                · exact Or.inr e
                · exact Or.inl ⟨⟨q1, by omega⟩, q3⟩
            · simp only [if_neg e1]
              by_cases e2 : x = a
              · subst e2
                simp only [if_true]
                rw [tb_or, tb_pow, j2 x y hx]
                unfold prc
                constructor
                · rintro (⟨⟨q1, q2⟩, q3⟩ | rfl)
                  · exact ⟨⟨q1, by omega⟩, q3⟩
                  · exact ⟨⟨by omega, by omega⟩, hnab⟩
                · rintro ⟨⟨q1, q2⟩, q3⟩
                  by_cases e : y = b
                  · exact Or.inr e
                  · exact Or.inl ⟨⟨q1, by omega⟩, q3⟩
              · simp only [if_neg e2]
                rw [j2 x y hx]
                unfold prc
                constructor
                · rintro ⟨⟨q1, q2⟩, q3⟩
                  exact ⟨⟨q1, by omega⟩, q3⟩
                · rintro ⟨⟨q1, q2⟩, q3⟩
                  exact ⟨⟨q1, by omega⟩, q3⟩
      · rw [bI_f hnr, if_pos rfl]
        refine ⟨σ1, rfl, hm1, jm, j1, fun x y hx => ?_⟩
        rw [j2 x y hx]
        have hnab : ¬ nrl c ln n nr pl hu a b = true := hnr
        have hnba : ¬ nrl c ln n nr pl hu b a = true := by rw [nrl_comm]; exact hnr
        unfold prc
        constructor
        · rintro ⟨⟨q1, q2⟩, q3⟩
          exact ⟨⟨q1, by omega⟩, q3⟩
        · rintro ⟨⟨q1, q2⟩, q3⟩
          refine ⟨⟨q1, ?_⟩, q3⟩
          rcases q2 with q2 | ⟨rfl, q2⟩ | ⟨rfl, q2⟩
          · exact Or.inl q2
          · by_cases e : y = b
            · subst e; exact absurd q3 hnab
            · exact Or.inr (Or.inl ⟨rfl, by omega⟩)
          · by_cases e : x = b
            · subst e; exact absurd q3 hnba
            · exact Or.inr (Or.inr ⟨rfl, by omega⟩)
    obtain ⟨σ2, s1, s2, s3⟩ := step
    obtain ⟨σ3, t1, t2, t3⟩ := ih (b + 1) f σ2 (by omega) (by omega) s2 s3
    exact ⟨σ3, s1.trans t1, t2, t3⟩
theorem x_jouter {c e : Nat → Nat} {ln m n nr : Nat} {pl hu : Nat → Nat} {σ : zS} (hW : WF c ln e m) (hL : LX σ c ln e m) (hH : HX σ n nr pl hu) : ∀ (r a f : Nat) (σ' : zS), a + r = n → r < f → xs4 σ σ' → JI (nrl c ln n nr pl hu) a 0 σ' → ∃ σ'', f_Vi_joinAll_10 f (nI a) σ' = some (0, σ'') ∧ xs4 σ σ'' ∧ JI (nrl c ln n nr pl hu) n 0 σ'' := by
  have hn20 := hH.1
  intro r
  induction r with
  | zero =>
    intro a f σ' ha hf hm hJ
    obtain ⟨f, rfl⟩ : ∃ m, f = m + 1 := ⟨f - 1, by omega⟩
    have han : a = n := by omega
    subst han
    refine ⟨σ', ?_, hm, hJ⟩
    show f_Vi_joinAll_10b _ _ _ = _
    unfold f_Vi_joinAll_10b
    rw [(HX_s4 hm hH).2.1, if_pos (Int32.le_refl _)]
  | succ r ih =>
    intro a f σ' ha hf hm hJ
    obtain ⟨f, rfl⟩ : ∃ m, f = m + 1 := ⟨f - 1, by omega⟩
    obtain ⟨σ1, h1, h2, h3⟩ := x_jinner (k10 := fun x1 σ => f_Vi_joinAll_10 f x1 σ) hW hL hH (show a < n by omega) a 0 zfu σ' (by omega) (by unfold zfu; omega) hm hJ
    have h3' : JI (nrl c ln n nr pl hu) (a + 1) 0 σ1 := by
      obtain ⟨jm, j1, j2⟩ := h3
      refine ⟨jm, j1, fun x y hx => ?_⟩
      rw [j2 x y hx]
      unfold prc
      constructor
      · rintro ⟨⟨q1, q2⟩, q3⟩; exact ⟨⟨q1, by omega⟩, q3⟩
      · rintro ⟨⟨q1, q2⟩, q3⟩; exact ⟨⟨q1, by omega⟩, q3⟩
    obtain ⟨σ2, t1, t2, t3⟩ := ih (a + 1) f σ1 (by omega) (by omega) h2 h3'
    refine ⟨σ2, ?_, t2, t3⟩
    show f_Vi_joinAll_10b _ _ _ = _
    unfold f_Vi_joinAll_10b
    rw [(HX_s4 hm hH).2.1, if_neg (nI_ge (by omega) (by omega))]
    exact h1.trans t1
/-- what joined tells, as it always is -/
def JX (σ : zS) (c : Nat → Nat) (ln n nr : Nat) (pl hu : Nat → Nat) : Prop := ∃ jm : Nat → Nat, (∀ x, x < 20 → σ.2 19 x = nI (jm x)) ∧ jok (nrl c ln n nr pl hu) n jm
theorem x_joinAll {c e : Nat → Nat} {ln m n nr : Nat} {pl hu : Nat → Nat} {σ : zS} (hW : WF c ln e m) (hL : LX σ c ln e m) (hH : HX σ n nr pl hu) : ∃ σ', f_Vi_joinAll σ = some (0, σ') ∧ xs4 σ σ' ∧ JX σ' c ln n nr pl hu := by
  have hn20 := hH.1
  unfold f_Vi_joinAll
  rw [zlt_s]
  have s0 : xs4 σ (zsf σ 19 20 0) := ⟨fun _ _ => rfl, fun q h _ _ => by show va_up σ.2 19 _ q = _; unfold va_up; rw [if_neg h]⟩
  have j0 : JI (nrl c ln n nr pl hu) 0 0 (zsf σ 19 20 0) := by
    refine ⟨fun _ => 0, fun x hx => ⟨?_, show (0 : Nat) < 2 ^ 20 by decide⟩, fun x y hx => ?_⟩
    · show va_up σ.2 19 (zfl 20 0 (σ.2 19)) 19 x = _
      simp only [va_up, if_true, zfl, if_pos hx]
      rfl
    · rw [Nat.zero_testBit]
      unfold prc
      constructor
      · intro h; cases h
      · rintro ⟨⟨_, q2⟩, _⟩; omega
  obtain ⟨σ', h1, h2, jm, h3, h4⟩ := x_jouter hW hL hH n 0 zfu _ (by omega) (by unfold zfu; omega) s0 j0
  refine ⟨σ', h1, h2, jm, fun x hx => (h3 x hx).1, fun a ha => ⟨(h3 a (by omega)).2, fun b => ?_⟩⟩
  rw [h4 a b (by omega)]
  unfold prc
  constructor
  · rintro ⟨⟨q1, q2⟩, q3⟩; exact ⟨by omega, q1, q3⟩
  · rintro ⟨q1, q2, q3⟩; exact ⟨⟨q2, Or.inl ⟨ha, q1⟩⟩, q3⟩
