/-! ===== X's next ===== -/
theorem zgs (σ : zS) (k : Nat) (v : Int32) : (zsg σ k v).1 k = v := if_pos rfl
theorem zgn {σ : zS} {k j : Nat} {v : Int32} (h : j ≠ k) : (zsg σ k v).1 j = σ.1 j := if_neg h
def xt (q : Nat) : Int32 := if q < 10000 then 2 else if q < 20000 then nI (17 + (q - 10000)) else if q < 30000 then ([15, 16, 8, 9, 10, 11, 12, 13, 14] : List Int32).getD (q - 20000) 0 else ([0, 1, 3, 4, 5, 6, 7] : List Int32).getD (q - 30000) 0
def TXc (σ : zS) (T : Nat → Nat) (n : Nat) : Prop := σ.1 102 = nI n ∧ n ≤ 160 ∧ ∀ i, i < n → T i ≤ 255 ∧ σ.2 15 i = nI (T i)
def xf (σ σ' : zS) : Prop := (∀ k, ¬ (105 ≤ k ∧ k ≤ 108) → σ'.1 k = σ.1 k) ∧ σ'.2 = σ.2
theorem xf_rfl {a : zS} : xf a a := ⟨fun _ _ => rfl, rfl⟩
theorem xf_tr {a b c : zS} (h : xf a b) (g : xf b c) : xf a c := ⟨fun k q => (g.1 k q).trans (h.1 k q), g.2.trans h.2⟩
theorem xf_g {a σ : zS} {k : Nat} {v : Int32} (h : xf a σ) (hk : 105 ≤ k ∧ k ≤ 108) : xf a (zsg σ k v) := xf_tr h ⟨fun j q => zgn (by omega), rfl⟩
theorem TXc_s {σ σ' : zS} {T : Nat → Nat} {n : Nat} (h : xf σ σ') (g : TXc σ T n) : TXc σ' T n := by
  obtain ⟨h1, h2, h3⟩ := g
  exact ⟨by rw [h.1 102 (by omega)]; exact h1, h2, fun i hi => by rw [h.2]; exact h3 i hi⟩
theorem x_isLetter {c : Nat} (hc : c ≤ 255) (σ : zS) : f_Rd_isLetter (nI c) σ = some (bI (isL c = true), σ) := by
  unfold f_Rd_isLetter isL
  by_cases h1 : c < 97
  · rw [if_pos (show nI c < 97 from nI_lt (b := 97) h1 (by decide)), bI_f (by rw [decide_eq_true_iff]; omega)]
  · rw [if_neg (show ¬ nI c < 97 from nI_nlt (b := 97) (by omega) (by omega))]
    by_cases h2 : 122 < c
    · rw [if_pos (show 122 < nI c from nI_lt (a := 122) h2 (by omega)), bI_f (by rw [decide_eq_true_iff]; omega)]
    · rw [if_neg (show ¬ 122 < nI c from nI_nlt (a := 122) (by omega) (by decide)), bI_t (by rw [decide_eq_true_iff]; omega)]
theorem x_isDigit {c : Nat} (hc : c ≤ 255) (σ : zS) : f_Rd_isDigit (nI c) σ = some (bI (isD c = true), σ) := by
  unfold f_Rd_isDigit isD
  by_cases h1 : c < 48
  · rw [if_pos (show nI c < 48 from nI_lt (b := 48) h1 (by decide)), bI_f (by rw [decide_eq_true_iff]; omega)]
  · rw [if_neg (show ¬ nI c < 48 from nI_nlt (b := 48) (by omega) (by omega))]
    by_cases h2 : 57 < c
    · rw [if_pos (show 57 < nI c from nI_lt (a := 57) h2 (by omega)), bI_f (by rw [decide_eq_true_iff]; omega)]
    · rw [if_neg (show ¬ 57 < nI c from nI_nlt (a := 57) (by omega) (by decide)), bI_t (by rw [decide_eq_true_iff]; omega)]
theorem cI {a : Nat} (ha : a ≤ 255) (b : Nat) (hb : b < 2 ^ 31) : (nI a = nI b) = (a = b) := propext (nI_eq (by omega) hb)
theorem x_signOf {c : Nat} (hc : c ≤ 255) (σ : zS) : f_Rd_signOf (nI c) σ = some (xt (scode c), σ) := by
  unfold f_Rd_signOf scode
  simp only [show (40 : Int32) = nI 40 from rfl, show (41 : Int32) = nI 41 from rfl, show (42 : Int32) = nI 42 from rfl, show (43 : Int32) = nI 43 from rfl, show (45 : Int32) = nI 45 from rfl, show (59 : Int32) = nI 59 from rfl, show (60 : Int32) = nI 60 from rfl, show (61 : Int32) = nI 61 from rfl, cI hc 40 (by decide), cI hc 41 (by decide), cI hc 42 (by decide), cI hc 43 (by decide), cI hc 45 (by decide), cI hc 59 (by decide), cI hc 60 (by decide), cI hc 61 (by decide)]
  by_cases h1 : c = 40
  · rw [if_pos h1, if_pos h1]; rfl
  · rw [if_neg h1, if_neg h1]
    by_cases h2 : c = 41
    · rw [if_pos h2, if_pos h2]; rfl
    · rw [if_neg h2, if_neg h2]
      by_cases h3 : c = 42
      · rw [if_pos h3, if_pos h3]; rfl
      · rw [if_neg h3, if_neg h3]
        by_cases h4 : c = 43
        · rw [if_pos h4, if_pos h4]; rfl
        · rw [if_neg h4, if_neg h4]
          by_cases h5 : c = 45
          · rw [if_pos h5, if_pos h5]; rfl
          · rw [if_neg h5, if_neg h5]
            by_cases h6 : c = 59
            · rw [if_pos h6, if_pos h6]; rfl
            · rw [if_neg h6, if_neg h6]
              by_cases h7 : c = 60
              · rw [if_pos h7, if_pos h7]; rfl
              · rw [if_neg h7, if_neg h7]
                by_cases h8 : c = 61
                · rw [if_pos h8, if_pos h8]; rfl
                · rw [if_neg h8, if_neg h8]; rfl
theorem x_skip {T : Nat → Nat} {n : Nat} {σ : zS} (hT : TXc σ T n) : ∀ (r a f : Nat) (σ' : zS), a + r = n → r < f → xf σ σ' → σ'.1 105 = nI a → ∃ σ'', f_Rd_next_8 f σ' = f_Rd_next_60 σ'' ∧ xf σ σ'' ∧ σ''.1 105 = nI (lru isB T r a) := by
  intro r
  induction r with
  | zero =>
    intro a f σ' ha hf hx h5
    obtain ⟨f, rfl⟩ : ∃ m, f = m + 1 := ⟨f - 1, by omega⟩
    refine ⟨σ', ?_, hx, h5⟩
    show f_Rd_next_8b _ _ = _
    unfold f_Rd_next_8b
    rw [h5, (TXc_s hx hT).1, if_pos (nI_le (by omega) (by have := hT.2.1; omega))]
  | succ r ih =>
    intro a f σ' ha hf hx h5
    obtain ⟨f, rfl⟩ : ∃ m, f = m + 1 := ⟨f - 1, by omega⟩
    obtain ⟨t1, t2, t3⟩ := TXc_s hx hT
    obtain ⟨c1, c2⟩ := t3 a (by omega)
    have e0 : f_Rd_next_8 (f + 1) σ' = f_Rd_next_8b (fun σ => f_Rd_next_8 f σ) σ' := rfl
    rw [e0]
    unfold f_Rd_next_8b f_Rd_next_47
    rw [h5, t1, if_neg (nI_ge (by omega) (by omega)), zin_n (by omega) (by decide), nI_clamp (by omega), c2, zin_n (by omega) (by decide), zlt_s, nI_1]
    simp only [show (32 : Int32) = nI 32 from rfl, show (10 : Int32) = nI 10 from rfl, cI c1 32 (by decide), cI c1 10 (by decide)]
    show ∃ σ'' : zS, _ ∧ _ ∧ σ''.1 105 = nI (if isB (T a) = true then lru isB T r (a + 1) else a)
    have hB : isB (T a) = true ↔ (T a = 32 ∨ T a = 10) := by unfold isB; rw [decide_eq_true_iff]
    have hgo := ih (a + 1) f (zsg σ' 105 (nI (a + 1))) (by omega) (by omega) (xf_g hx (by omega)) (zgs _ _ _)
    by_cases h1 : T a = 32
    · rw [if_pos h1, if_pos (hB.mpr (Or.inl h1))]
      exact hgo
    · rw [if_neg h1]
      by_cases h2 : T a = 10
      · rw [if_pos h2, if_pos (hB.mpr (Or.inr h2))]
        exact hgo
      · rw [if_neg h2, if_neg (fun q => by rcases hB.mp q with q | q <;> contradiction)]
        exact ⟨σ', rfl, hx, h5⟩
theorem x_wordL {T : Nat → Nat} {n b : Nat} {σ : zS} (hT : TXc σ T n) : ∀ (r e f : Nat) (σ' : zS), e + r = n → r < f → xf σ σ' → σ'.1 105 = nI b → σ'.1 106 = nI e → ∃ σ'', f_Rd_takeWord_0 f σ' = f_Rd_takeWord_39 σ'' ∧ xf σ σ'' ∧ σ''.1 105 = nI b ∧ σ''.1 106 = nI (lru isL T r e) := by
  intro r
  induction r with
  | zero =>
    intro e f σ' ha hf hx h5 h6
    obtain ⟨f, rfl⟩ : ∃ m, f = m + 1 := ⟨f - 1, by omega⟩
    refine ⟨σ', ?_, hx, h5, h6⟩
    show f_Rd_takeWord_0b _ _ = _
    unfold f_Rd_takeWord_0b
    rw [h6, (TXc_s hx hT).1, if_pos (nI_le (by omega) (by have := hT.2.1; omega))]
  | succ r ih =>
    intro e f σ' ha hf hx h5 h6
    obtain ⟨f, rfl⟩ : ∃ m, f = m + 1 := ⟨f - 1, by omega⟩
    obtain ⟨t1, t2, t3⟩ := TXc_s hx hT
    obtain ⟨c1, c2⟩ := t3 e (by omega)
    have e0 : f_Rd_takeWord_0 (f + 1) σ' = f_Rd_takeWord_0b (fun σ => f_Rd_takeWord_0 f σ) σ' := rfl
    rw [e0]
    unfold f_Rd_takeWord_0b
    rw [h6, t1, if_neg (nI_ge (by omega) (by omega)), zin_n (by omega) (by decide), nI_clamp (by omega), c2, x_isLetter c1, zbd_s]
    dsimp only
    rw [h6, zlt_s, nI_1]
    show ∃ σ'' : zS, _ ∧ _ ∧ _ ∧ σ''.1 106 = nI (if isL (T e) = true then lru isL T r (e + 1) else e)
    by_cases h1 : isL (T e) = true
    · rw [bI_t h1, if_neg one0, if_pos h1]
      exact ih (e + 1) f _ (by omega) (by omega) (xf_g hx (by omega)) ((zgn (by decide)).trans h5) (zgs _ _ _)
    · rw [bI_f h1, if_pos rfl, if_neg h1]
      exact ⟨σ', rfl, hx, h5, h6⟩
def mtc (T : Nat → Nat) (b k : Nat) : Nat → Nat → Bool
  | 0, _ => true
  | r + 1, i => decide (T (b + i) = ch k i) && mtc T b k r (i + 1)
theorem mtc_iff {T : Nat → Nat} {b k : Nat} : ∀ r i, mtc T b k r i = true ↔ ∀ j, j < r → T (b + (i + j)) = ch k (i + j)
  | 0, i => ⟨fun _ j h => absurd h (Nat.not_lt_zero j), fun _ => rfl⟩
  | r + 1, i => by
    have h := mtc_iff (T := T) (b := b) (k := k) r (i + 1)
    show (decide (T (b + i) = ch k i) && mtc T b k r (i + 1)) = true ↔ _
    rw [Bool.and_eq_true, decide_eq_true_iff, h]
    constructor
    · rintro ⟨h1, h2⟩ j hj
      cases j with
      | zero => exact h1
      | succ j =>
        have := h2 j (by omega)
        rw [show i + 1 + j = i + (j + 1) by omega] at this
        exact this
    · intro q
      refine ⟨q 0 (by omega), fun j hj => ?_⟩
      have := q (j + 1) (by omega)
      rw [show i + (j + 1) = i + 1 + j by omega] at this
      exact this
theorem x_hereL {T : Nat → Nat} {n b k : Nat} {σ : zS} (hT : TXc σ T n) (h5 : σ.1 105 = nI b) (hk : k < 12) (hk1 : 1 ≤ k) (hb : b + wln k ≤ n) : ∀ (r i f : Nat), i + r = wln k → r < f → f_Rd_isHere_20 f k (nI i) σ = some (bI (mtc T b k r i = true), σ) := by
  obtain ⟨c1, c2, c3, c4, c5⟩ := ch_ok k hk hk1
  have hsi : ∀ x : Option (Int32 × zS), zsi k x = x := fun x => if_pos hk
  have hw : zSlen.getD k 0 = wln k := rfl
  intro r
  induction r with
  | zero =>
    intro i f hi hf
    obtain ⟨f, rfl⟩ : ∃ m, f = m + 1 := ⟨f - 1, by omega⟩
    show f_Rd_isHere_20b _ _ _ _ = _
    unfold f_Rd_isHere_20b
    rw [hsi, hw, if_pos (nI_le (by omega) (by omega))]
    rfl
  | succ r ih =>
    intro i f hi hf
    obtain ⟨f, rfl⟩ : ∃ m, f = m + 1 := ⟨f - 1, by omega⟩
    obtain ⟨t1, t2, t3⟩ := hT
    obtain ⟨d1, d2⟩ := t3 (b + i) (by omega)
    have e0 : f_Rd_isHere_20 (f + 1) k (nI i) σ = f_Rd_isHere_20b (fun x1 x2 σ => f_Rd_isHere_20 f x1 x2 σ) k (nI i) σ := rfl
    rw [e0]
    unfold f_Rd_isHere_20b
    rw [hsi, hsi, hw, if_neg (nI_ge (by omega) (by omega)), h5, nI_add, zin_n (by omega) (by decide), zin_n (show i < wln k by omega) (by omega), nI_clamp (by omega), d2, c5 i (by omega) (by omega), nI_1]
    dsimp only
    rw [ih (i + 1) f (by omega) (by omega)]
    show _ = some (bI ((decide (T (b + i) = ch k i) && mtc T b k r (i + 1)) = true), σ)
    have hci := cI d1 (ch k i) (by have := c4 i (by omega); rw [Nat.zero_add] at this; omega)
    by_cases h : T (b + i) = ch k i
    · rw [if_pos (hci.mpr h), decide_eq_true h, Bool.true_and]
    · rw [if_neg (fun q => h (hci.mp q)), decide_eq_false h, Bool.false_and]
      rfl
theorem x_isHere {T : Nat → Nat} {n b e k : Nat} {σ : zS} (hT : TXc σ T n) (h5 : σ.1 105 = nI b) (h6 : σ.1 106 = nI e) (hbe : b < e) (hen : e ≤ n) (hL : ∀ i, b ≤ i → i < e → isL (T i) = true) (hk : k < 12) (hk1 : 1 ≤ k) : f_Rd_isHere k σ = some (bI (e - b ≤ 7 ∧ pkw T b (e - b) = wpk.getD k 0), σ) := by
  obtain ⟨c1, c2, c3, c4, c5⟩ := ch_ok k hk hk1
  have hn := hT.2.1
  have hT2 : ∀ i, i < e - b → 97 ≤ T (b + i) ∧ T (b + i) ≤ 122 := fun i hi => by
    have := hL (b + i) (by omega) (by omega)
    unfold isL at this
    rw [decide_eq_true_iff] at this
    exact this
  have hiff := here_iff (T := T) (b := b) (l := e - b) hk hk1 (by omega) hT2
  unfold f_Rd_isHere
  rw [show ∀ x : Option (Int32 × zS), zsi k x = x from fun x => if_pos hk, h5, h6, nI_sub (by omega), show zSlen.getD k 0 = wln k from rfl]
  by_cases h : wln k = e - b
  · have hx := x_hereL hT h5 hk hk1 (by omega) (wln k) 0 zfu (by omega) (by unfold zfu; omega)
    rw [show nI 0 = (0 : Int32) from rfl] at hx
    rw [if_pos (by rw [h]), hx]
    by_cases h2 : mtc T b k (wln k) 0 = true
    · have h3 := (mtc_iff (wln k) 0).mp h2
      have h4 := hiff.mp ⟨h, fun i hi => by have := h3 i (by omega); rw [Nat.zero_add] at this ⊢; exact this⟩
      rw [bI_t h2, bI_t h4]
    · rw [bI_f h2, bI_f (fun q => h2 ((mtc_iff (wln k) 0).mpr (fun j hj => by have := (hiff.mpr q).2 j (by omega); rw [Nat.zero_add] at this ⊢; exact this)))]
  · rw [if_neg (fun q => h ((nI_eq (by omega) (by omega)).mp q)), bI_f (fun q => h (hiff.mpr q).1)]
