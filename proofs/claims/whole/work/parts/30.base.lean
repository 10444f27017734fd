/-! PURE MATHEMATICS from here on: the functions f_X_.. and f_M_.. answer alike. Words first. -/
theorem zbd_s {α β : Type} (q : α × zS) (f : α → zS → Option β) : zbd (some q) f = f q.1 q.2 := rfl
theorem zbd_n {α β : Type} (f : α → zS → Option β) : zbd none f = none := rfl
theorem zlt_s {α β : Type} (x : α) (f : α → β) : zlt x f = f x := rfl
theorem zg1 (σ : zS) (k : Nat) (v : Int32) : (zsg σ k v).1 = upd σ.1 k v := rfl
theorem zg2 (σ : zS) (k : Nat) (v : Int32) : (zsg σ k v).2 = σ.2 := rfl
theorem za1 (σ : zS) (q : Nat) (i v : Int32) : (zsa σ q i v).1 = σ.1 := rfl
theorem za2 (σ : zS) (q : Nat) (i v : Int32) : (zsa σ q i v).2 = va_up σ.2 q (upd (σ.2 q) i.toNatClampNeg v) := rfl
theorem zin_i {β : Type} {i : Int32} {n : Nat} {x : Option β} (h : vp_in i n) : zin i n x = x := if_neg h
theorem zin_n {β : Type} {j n : Nat} {x : Option β} (h : j < n) (hn : n < 2 ^ 31) : zin (nI j) n x = x := zin_i (vp_in_nI h hn)
def bI (p : Prop) [Decidable p] : Int32 := if p then 1 else 0
theorem bI_t {p : Prop} [Decidable p] (h : p) : bI p = 1 := if_pos h
theorem bI_f {p : Prop} [Decidable p] (h : ¬ p) : bI p = 0 := if_neg h
theorem bI_0 {p : Prop} [Decidable p] : bI p = 0 ↔ ¬ p := by
  unfold bI
  by_cases h : p <;> simp [h]
theorem zbo_b {β : Type} {p : Prop} [Decidable p] {x : Option β} : zbo (bI p) x = x := by
  unfold zbo bI
  by_cases h : p
  · rw [if_pos h]; exact if_pos (by decide)
  · rw [if_neg h]; exact if_pos (by decide)
theorem zbo_1 {β : Type} {x : Option β} : zbo 1 x = x := if_pos (by decide)
theorem zbo_0 {β : Type} {x : Option β} : zbo 0 x = x := if_pos (by decide)
def bd (x : Int32) (N : Nat) : Prop := ∃ n : Nat, n ≤ N ∧ x = nI n
def eqN (n : Nat) (f g : Nat → Int32) : Prop := ∀ i, i < n → f i = g i
theorem bd_le {x : Int32} {N M : Nat} (h : bd x N) (hm : N ≤ M) : bd x M := by
  obtain ⟨n, h1, h2⟩ := h
  exact ⟨n, by omega, h2⟩
theorem bd_of {x : Int32} {N : Nat} (hN : N < 2 ^ 31) (h : 0 ≤ x ∧ x ≤ nI N) : bd x N := by
  obtain ⟨e, hj⟩ := z_nn h.1
  exact ⟨_, z_nle h.1 hN h.2, e⟩
theorem bd_iff {x : Int32} {N : Nat} (hN : N < 2 ^ 31) : (0 ≤ x ∧ x ≤ nI N) ↔ bd x N := by
  refine ⟨bd_of hN, ?_⟩
  rintro ⟨n, h1, rfl⟩
  exact ⟨nI_pos' (by omega), nI_le h1 (by omega)⟩
theorem x_isFrom (v lo hi : Int32) (σ : zS) : f_X_isFrom v lo hi σ = some (bI (lo ≤ v ∧ v ≤ hi), σ) := by
  unfold f_X_isFrom bI
  by_cases h1 : v < lo
  · rw [if_pos h1, if_neg (fun h => absurd h.1 (Int32.not_le.mpr h1))]
  · rw [if_neg h1]
    by_cases h2 : hi < v
    · rw [if_pos h2, if_neg (fun h => absurd h.2 (Int32.not_le.mpr h2))]
    · rw [if_neg h2, if_pos ⟨Int32.not_lt.mp h1, Int32.not_lt.mp h2⟩]
theorem m_in (v lo hi : Int32) (σ : zS) : f_M_in v lo hi σ = some (bI (lo ≤ v ∧ v ≤ hi), σ) := x_isFrom v lo hi σ
theorem x_isPlace (p : Int32) (σ : zS) : f_X_isPlace p σ = some (bI (0 ≤ p ∧ p ≤ 1599), σ) := by
  unfold f_X_isPlace
  rw [x_isFrom]
  simp only [zbd_s, zbo_b]
theorem m_isPlace (p : Int32) (σ : zS) : f_M_isPlace p σ = some (bI (0 ≤ p ∧ p ≤ 1599), σ) := x_isPlace p σ
theorem x_isBit (p : Int32) (σ : zS) : f_X_isBit p σ = some (bI (0 ≤ p ∧ p ≤ 1), σ) := by
  unfold f_X_isBit
  rw [x_isFrom]
  simp only [zbd_s, zbo_b]
theorem x_isSheet (p : Int32) (σ : zS) : f_X_isSheet p σ = some (bI (0 ≤ p ∧ p ≤ 3), σ) := by
  unfold f_X_isSheet
  rw [x_isFrom]
  simp only [zbd_s, zbo_b]
/-- a number is one of the n first: told by both in their ways -/
def kn (x n : Int32) : Prop := 0 ≤ x ∧ x < n
theorem kn_iff {x : Int32} {n : Nat} (hn : n < 2 ^ 31) : kn x (nI n) ↔ ∃ j, j < n ∧ x = nI j := by
  constructor
  · rintro ⟨h1, h2⟩
    obtain ⟨e, hj⟩ := z_nn h1
    exact ⟨_, z_nlt h1 hn h2, e⟩
  · rintro ⟨j, h1, rfl⟩
    exact ⟨nI_pos' (by omega), nI_lt h1 hn⟩
theorem kn_m {x : Int32} {n : Nat} (hn : n < 2 ^ 30) : (0 ≤ x ∧ x ≤ nI n - 1) ↔ kn x (nI n) := by
  unfold kn
  rw [Int32.le_iff_toInt_le, Int32.le_iff_toInt_le, Int32.lt_iff_toInt_lt, show (1 : Int32) = nI 1 from rfl, pk_sub_toInt (by omega) (by decide), nI_toInt (by omega)]
  have : (0 : Int32).toInt = 0 := rfl
  omega
theorem knows_eq (x n : Int32) (σ : zS) : (if x < 0 then some ((0 : Int32), σ) else (if n ≤ x then some (0, σ) else some (1, σ))) = some (bI (0 ≤ x ∧ x < n), σ) := by
  unfold bI
  by_cases h1 : x < 0
  · rw [if_pos h1, if_neg (fun h => absurd h.1 (Int32.not_le.mpr h1))]
  · rw [if_neg h1]
    by_cases h2 : n ≤ x
    · rw [if_pos h2, if_neg (fun h => absurd h.2 (Int32.not_lt.mpr h2))]
    · rw [if_neg h2, if_pos ⟨Int32.not_lt.mp h1, Int32.not_le.mp h2⟩]
theorem sh_knows (x : Int32) (σ : zS) : f_Sh_knows x σ = some (bI (0 ≤ x ∧ x < σ.1 503), σ) := knows_eq x (σ.1 503) σ
theorem pe_knows (x : Int32) (σ : zS) : f_Pe_knows x σ = some (bI (0 ≤ x ∧ x < σ.1 602), σ) := knows_eq x (σ.1 602) σ
theorem vi_knows (x : Int32) (σ : zS) : f_Vi_knows x σ = some (bI (0 ≤ x ∧ x < σ.1 307), σ) := knows_eq x (σ.1 307) σ
theorem tx_knows (x : Int32) (σ : zS) : f_Tx_knows x σ = some (bI (0 ≤ x ∧ x < σ.1 202), σ) := knows_eq x (σ.1 202) σ
theorem m_know {x n : Int32} {N : Nat} (hN : N < 2 ^ 30) (h : bd n N) : bI (0 ≤ x ∧ x ≤ n - 1) = bI (0 ≤ x ∧ x < n) := by
  obtain ⟨j, hj, rfl⟩ := h
  have e : (0 ≤ x ∧ x ≤ nI j - 1) ↔ (0 ≤ x ∧ x < nI j) := kn_m (by omega)
  unfold bI
  by_cases h : 0 ≤ x ∧ x < nI j
  · rw [if_pos h, if_pos (e.mpr h)]
  · rw [if_neg h, if_neg (fun q => h (e.mp q))]
theorem m_isHouse {x : Int32} {σ : zS} (h : bd (σ.1 0) 20) : f_M_isHouse x σ = some (bI (0 ≤ x ∧ x < σ.1 0), σ) := by
  unfold f_M_isHouse
  rw [m_in, ← m_know (by decide) h]
  simp only [zbd_s, zbo_b]
theorem m_isShape {x : Int32} {σ : zS} (h : bd (σ.1 3) 12) : f_M_isShape x σ = some (bI (0 ≤ x ∧ x < σ.1 3), σ) := by
  unfold f_M_isShape
  rw [m_in, ← m_know (by decide) h]
  simp only [zbd_s, zbo_b]
theorem m_isPerson {x : Int32} {σ : zS} (h : bd (σ.1 14) 8) : f_M_isPerson x σ = some (bI (0 ≤ x ∧ x < σ.1 14), σ) := by
  unfold f_M_isPerson
  rw [m_in, ← m_know (by decide) h]
  simp only [zbd_s, zbo_b]
/-! ===== the relation, by groups over their own parts ===== -/
/-- houses -/
def G1 (hx : Int32) (px ux : Nat → Int32) (hm : Int32) (pm um : Nat → Int32) : Prop := hx = hm ∧ bd hm 20 ∧ eqN 20 px pm ∧ eqN 20 ux um ∧ (∀ i, i < 20 → bd (pm i) 1599) ∧ (∀ i, i < 20 → bd (um i) 1)
/-- shapes -/
def G2 (sx : Int32) (kx ox mx : Nat → Int32) (sm : Int32) (km om mm : Nat → Int32) (hm : Int32) : Prop := sx = sm ∧ bd sm 12 ∧ eqN 12 kx km ∧ eqN 12 ox om ∧ eqN 12 mx mm ∧ (∀ i, i < 12 → bd (km i) 5) ∧ (∀ i, i < 12 → bd (mm i) 30) ∧ (∀ i, i < 12 → nI i < sm → 0 ≤ om i ∧ om i < hm)
/-- the loaf -/
def G3 (lx lm : Int32) : Prop := lx = lm ∧ bd lm 1599
/-- what a step across a border costs -/
def cst (way att fr to wi : Nat → Int32) (w a b : Int32) : Nat → Int32
  | 0 => 1
  | n + 1 => cst way att fr to wi w a b n + (if way n = w ∧ att n = a ∧ fr n ≤ b ∧ b ≤ to n then wi n else 0)
/-- ravines -/
def G4 (rx : Int32) (wx nx : Nat → Int32) (rm : Int32) (way att fr to wi : Nat → Int32) : Prop := rx = rm ∧ ∃ n : Nat, n ≤ 6 ∧ rm = nI n ∧ (∀ r, r < n → (way r = 0 ∨ way r = 1) ∧ (∃ a, 1 ≤ a ∧ a ≤ 39 ∧ att r = nI a) ∧ (∃ f t, f ≤ t ∧ t ≤ 39 ∧ fr r = nI f ∧ to r = nI t) ∧ ∃ w, 1 ≤ w ∧ w ≤ 99 ∧ wi r = nI w) ∧ (∀ x y, x < 40 → y < 40 → wx (40 * y + x) = cst way att fr to wi 0 (nI x) (nI y) n ∧ nx (40 * y + x) = cst way att fr to wi 1 (nI y) (nI x) n)
/-- people -/
def G5 (px : Int32) (ax bx : Nat → Int32) (pm : Int32) (am bm : Nat → Int32) (sm : Int32) : Prop := px = pm ∧ bd pm 8 ∧ eqN 8 ax am ∧ eqN 8 bx bm ∧ (∀ i, i < 8 → bd (am i) 1599) ∧ (∀ i, i < 8 → nI i < pm → 0 ≤ bm i ∧ bm i < sm)
/-- wells -/
def G6 (wx : Int32) (ax : Nat → Int32) (wm : Int32) (am : Nat → Int32) : Prop := wx = wm ∧ bd wm 10 ∧ eqN 10 ax am ∧ (∀ i, i < 10 → bd (am i) 1599)
/-- the tape -/
def G7 (tx : Int32) (ax : Nat → Int32) (tm : Int32) (am : Nat → Int32) : Prop := tx = tm ∧ ∃ n, n ≤ 160 ∧ tm = nI n ∧ ∀ i, i < n → ax i = am i ∧ bd (am i) 255
/-- the image -/
def G9 (m0 h0 p0 l0 r0 : Int32) (ux ax : Nat → Int32) (m1 h1 p1 l1 r1 : Int32) (um am : Nat → Int32) (hm pm tm : Int32) : Prop := m0 = m1 ∧ h0 = h1 ∧ p0 = p1 ∧ l0 = l1 ∧ r0 = r1 ∧ bd m1 1 ∧ eqN 20 ux um ∧ eqN 8 ax am ∧ (∀ i, i < 20 → bd (um i) 1) ∧ (∀ i, i < 8 → bd (am i) 1599) ∧ bd h1 20 ∧ h1 ≤ hm ∧ bd p1 8 ∧ p1 ≤ pm ∧ bd l1 1599 ∧ 0 ≤ r1 ∧ r1 < tm
/-- sheets -/
def G10 (so le : Nat → Int32) (rows : List (Nat → Int32)) (sm lm cm : Nat → Int32) : Prop := eqN 4 so sm ∧ eqN 4 le lm ∧ (∀ s, s < 4 → bd (lm s) 40 ∧ (sm s = -1 ∨ bd (sm s) 2)) ∧ ∀ s, s < 4 → ∀ i, i < 40 → rows.getD s (fun _ => 0) i = cm (40 * s + i)
