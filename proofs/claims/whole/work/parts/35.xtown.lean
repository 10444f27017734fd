/-! ===== the class: what comes together ===== -/
def gx (jm : Nat → Nat) (s came : Nat) : Nat → Nat → Nat → Nat
  | 0, _, g => g
  | r + 1, h, g => gx jm s came r (h + 1) (if came.testBit h = true then g ||| (jm h &&& s) else g)
theorem gx_tb {jm : Nat → Nat} {s came : Nat} : ∀ (r h g i : Nat), (gx jm s came r h g).testBit i = true ↔ g.testBit i = true ∨ ∃ a, h ≤ a ∧ a < h + r ∧ came.testBit a = true ∧ (jm a).testBit i = true ∧ s.testBit i = true
  | 0, h, g, i => by
    constructor
    · exact Or.inl
    · rintro (q | ⟨a, h1, h2, -⟩)
      · exact q
      · omega
  | r + 1, h, g, i => by
    unfold gx
    rw [gx_tb r (h + 1)]
    by_cases hc : came.testBit h = true
    · rw [if_pos hc, tb_or, tb_and]
      constructor
      · rintro ((q | q) | ⟨a, h1, h2, h3⟩)
        · exact Or.inl q
        · exact Or.inr ⟨h, by omega, by omega, hc, q⟩
        · exact Or.inr ⟨a, by omega, by omega, h3⟩
      · rintro (q | ⟨a, h1, h2, h3, h4⟩)
        · exact Or.inl (Or.inl q)
        · by_cases e : a = h
          · subst e; exact Or.inl (Or.inr h4)
          · exact Or.inr ⟨a, by omega, by omega, h3, h4⟩
    · rw [if_neg hc]
      constructor
      · rintro (q | ⟨a, h1, h2, h3⟩)
        · exact Or.inl q
        · exact Or.inr ⟨a, by omega, by omega, h3⟩
      · rintro (q | ⟨a, h1, h2, h3, h4⟩)
        · exact Or.inl q
        · by_cases e : a = h
          · subst e; exact absurd h3 hc
          · exact Or.inr ⟨a, by omega, by omega, h3, h4⟩
theorem gx_lt {jm : Nat → Nat} {s came : Nat} : ∀ (r h g : Nat), g < 2 ^ 20 → (∀ a, h ≤ a → a < h + r → jm a < 2 ^ 20) → gx jm s came r h g < 2 ^ 20
  | 0, _, _, hg, _ => hg
  | r + 1, h, g, hg, hj => by
    unfold gx
    refine gx_lt r (h + 1) _ ?_ (fun a h1 h2 => hj a (by omega) (by omega))
    split
    · exact or_lt hg (and_lt (hj h (by omega) (by omega)))
    · exact hg
theorem x_sinner {k5 : Int32 → Int32 → Int32 → zS → Option (Int32 × zS)} {σ : zS} {al x4 : Int32} {n s came : Nat} {jm : Nat → Nat} (hn : σ.1 307 = nI n) (hn2 : n ≤ 20) (hj : ∀ a, a < n → σ.2 19 a = nI (jm a) ∧ jm a < 2 ^ 20) (hal : ∀ m, m < 2 ^ 20 → nI m &&& al = nI (m &&& s)) (hc : came < 2 ^ 20) : ∀ (r h g f : Nat), h + r = n → g < 2 ^ 20 → r < f → f_Vi_spreadFrom_18 k5 f al (nI came) x4 (nI g) (nI h) σ = (if nI (gx jm s came r h g) = nI came then some (nI came, σ) else k5 al (nI (gx jm s came r h g)) (x4 + 1) σ) := by
  intro r
  induction r with
  | zero =>
    intro h g f hh hg hf
    obtain ⟨f, rfl⟩ : ∃ m, f = m + 1 := ⟨f - 1, by omega⟩
    show f_Vi_spreadFrom_18b _ _ _ _ _ _ _ _ = _
    unfold f_Vi_spreadFrom_18b
    rw [hn, if_pos (nI_le (by omega) (by omega))]
    rfl
  | succ r ih =>
    intro h g f hh hg hf
    obtain ⟨f, rfl⟩ : ∃ m, f = m + 1 := ⟨f - 1, by omega⟩
    show f_Vi_spreadFrom_18b _ _ _ _ _ _ _ _ = _
    unfold f_Vi_spreadFrom_18b f_Vi_spreadFrom_50
    rw [hn, if_neg (nI_ge (by omega) (by omega)), x_has (by omega) (by omega), zbd_s, nI_1]
    unfold gx
    by_cases hb : came.testBit h = true
    · rw [bI_t hb, if_neg (show ¬ (1 : Int32) = 0 by decide), if_pos hb, zin_n (by omega) (by decide), zlt_s, nI_clamp (by omega), (hj h (by omega)).1, hal _ (hj h (by omega)).2, nb_or]
      exact ih (h + 1) _ f (by omega) (or_lt hg (and_lt (hj h (by omega)).2)) (by omega)
    · rw [bI_f hb, if_pos rfl, if_neg hb]
      exact ih (h + 1) g f (by omega) hg (by omega)
theorem nI_inj {a b : Nat} (ha : a < 2 ^ 31) (hb : b < 2 ^ 31) (h : nI a = nI b) : a = b := (nI_eq ha hb).mp h
/-- the mask of what is near a house -/
def jok (nr : Nat → Nat → Bool) (n : Nat) (jm : Nat → Nat) : Prop := ∀ a, a < n → jm a < 2 ^ 20 ∧ ∀ b, (jm a).testBit b = true ↔ (b < n ∧ a ≠ b ∧ nr a b = true)
theorem x_spread {σ : zS} {al : Int32} {n s : Nat} {jm : Nat → Nat} {nr : Nat → Nat → Bool} (hn : σ.1 307 = nI n) (hn2 : n ≤ 20) (hj : ∀ a, a < n → σ.2 19 a = nI (jm a)) (hk : jok nr n jm) (hal : ∀ m, m < 2 ^ 20 → nI m &&& al = nI (m &&& s)) (c : Nat) (hc0 : c < 2 ^ n) : ∀ (r rd f came : Nat), rd + r = 20 → came < 2 ^ n → sb c came → (∀ D, sb c D → cld nr n s D → sb came D) → (came = 0 ∨ rd + 1 ≤ cn came 20) → r < f → ∃ C, C < 2 ^ n ∧ f_Vi_spreadFrom_5 f al (nI came) (nI rd) σ = some (nI C, σ) ∧ isC nr n s c C := by
  have h20 : 2 ^ n ≤ 2 ^ 20 := Nat.pow_le_pow_right (by decide) hn2
  intro r
  induction r with
  | zero =>
    intro rd f came hr hc hs hm hcn hf
    obtain ⟨f, rfl⟩ : ∃ m, f = m + 1 := ⟨f - 1, by omega⟩
    have hrd : rd = 20 := by omega
    subst hrd
    have h0 : came = 0 := by
      rcases hcn with h | h
      · exact h
      · have := cn_le came 20; omega
    subst h0
    refine ⟨0, Nat.two_pow_pos n, ?_, hs, ?_, hm⟩
    · show f_Vi_spreadFrom_5b _ _ _ _ _ = _
      unfold f_Vi_spreadFrom_5b
      rw [if_pos (show (20 : Int32) ≤ nI 20 by decide)]
    · intro a b _ _ h
      rw [Nat.zero_testBit] at h
      cases h
  | succ r ih =>
    intro rd f came hr hc hs hm hcn hf
    obtain ⟨f, rfl⟩ : ∃ m, f = m + 1 := ⟨f - 1, by omega⟩
    have hc20 : came < 2 ^ 20 := Nat.lt_of_lt_of_le hc h20
    have hg20 : gx jm s came n 0 came < 2 ^ 20 := gx_lt n 0 came hc20 (fun a _ h2 => (hk a (by omega)).1)
    have e5 : f_Vi_spreadFrom_5 (f + 1) al (nI came) (nI rd) σ = (if nI (gx jm s came n 0 came) = nI came then some (nI came, σ) else f_Vi_spreadFrom_5 f al (nI (gx jm s came n 0 came)) (nI rd + 1) σ) := by
      show f_Vi_spreadFrom_5b _ _ _ _ _ = _
      unfold f_Vi_spreadFrom_5b
      rw [if_neg (show ¬ (20 : Int32) ≤ nI rd from nI_ge (b := 20) (by omega) (by decide))]
      exact x_sinner hn hn2 (fun a ha => ⟨hj a ha, (hk a ha).1⟩) hal hc20 n 0 came zfu (by omega) hc20 (by unfold zfu; omega)
    have hgt : ∀ i, (gx jm s came n 0 came).testBit i = true ↔ came.testBit i = true ∨ ∃ a, a < n ∧ came.testBit a = true ∧ i < n ∧ a ≠ i ∧ nr a i = true ∧ s.testBit i = true := by
      intro i
      rw [gx_tb]
      constructor
      · rintro (q | ⟨a, -, h2, h3, h4, h5⟩)
        · exact Or.inl q
        · have h2 : a < n := by omega
          have := ((hk a h2).2 i).mp h4
          exact Or.inr ⟨a, h2, h3, this.1, this.2.1, this.2.2, h5⟩
      · rintro (q | ⟨a, h2, h3, h4, h5, h6, h7⟩)
        · exact Or.inl q
        · exact Or.inr ⟨a, by omega, by omega, h3, ((hk a h2).2 i).mpr ⟨h4, h5, h6⟩, h7⟩
    have hsub : sb came (gx jm s came n 0 came) := fun i h => (hgt i).mpr (Or.inl h)
    rw [e5]
    by_cases he : gx jm s came n 0 came = came
    · rw [he, if_pos rfl]
      refine ⟨came, hc, rfl, hs, ?_, hm⟩
      intro a b ha hb h1 h2 h3 h4
      have := (hgt b).mpr (Or.inr ⟨a, ha, h1, hb, h4, h3, h2⟩)
      rw [he] at this
      exact this
    · rw [if_neg (fun h => he (nI_inj (by omega) (by omega) h)), nI_1]
      have hgn : gx jm s came n 0 came < 2 ^ n := by
        apply Nat.lt_pow_two_of_testBit
        intro i hi
        cases hb : (gx jm s came n 0 came).testBit i with
        | false => rfl
        | true =>
          rcases (hgt i).mp hb with q | ⟨a, -, -, h4, -⟩
          · have := tb_lt hc q; omega
          · omega
      refine ih (rd + 1) f _ (by omega) hgn (sb_tr hs hsub) ?_ (Or.inr ?_) (by omega)
      · intro D h1 h2 i hi
        rcases (hgt i).mp hi with q | ⟨a, g1, g2, g3, g4, g5, g6⟩
        · exact hm D h1 h2 i q
        · exact h2 a i g1 g3 (hm D h1 h2 a g2) g6 g5 g4
      · obtain ⟨i, h1, h2⟩ := sb_ne hsub (fun h => he h.symm)
        have hi : i < 20 := tb_lt hg20 h1
        have := cn_lt hsub h1 h2 20 hi
        rcases hcn with h | h
        · subst h
          exfalso
          rcases (hgt i).mp h1 with q | ⟨a, -, g2, -⟩
          · exact h2 q
          · rw [Nat.zero_testBit] at g2; cases g2
        · omega
theorem x_spreadFrom {σ : zS} {al : Int32} {n s c : Nat} {jm : Nat → Nat} {nr : Nat → Nat → Bool} (hn : σ.1 307 = nI n) (hn2 : n ≤ 20) (hj : ∀ a, a < n → σ.2 19 a = nI (jm a)) (hk : jok nr n jm) (hal : ∀ m, m < 2 ^ 20 → nI m &&& al = nI (m &&& s)) (hc : c < 2 ^ n) : ∃ C, C < 2 ^ n ∧ f_Vi_spreadFrom (nI c) al σ = some (nI C, σ) ∧ isC nr n s c C := by
  refine x_spread hn hn2 hj hk hal c hc 20 0 zfu c (by omega) hc sb_rfl (fun D h _ => h) ?_ (by unfold zfu; omega)
  by_cases h : c = 0
  · exact Or.inl h
  · refine Or.inr ?_
    obtain ⟨i, h1, h2⟩ := sb_ne (a := 0) (b := c) (fun i h => by rw [Nat.zero_testBit] at h; cases h) (fun e => h e.symm)
    have hi : i < 20 := Nat.lt_of_lt_of_le (tb_lt hc h1) hn2
    have := cn_lt (a := 0) (b := c) (fun i h => by rw [Nat.zero_testBit] at h; cases h) h1 h2 20 hi
    omega
