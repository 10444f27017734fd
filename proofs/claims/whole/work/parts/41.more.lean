/-! ===== taken, sheets, image, feed ===== -/
def und (a b : Nat) : Bool := b == 0 || a == b || (b == 1 && decide (2 ≤ a)) || (b == 2 && decide (4 ≤ a)) || (b == 4 && a == 5)
theorem x_isOf (m : Nat) {a b : Nat} (ha : a < 6) (hb : b < 7) (σ : zS) : f_X_isOfKind_4 (m + 7) (nI b) (nI a) 0 σ = some (bI (und a b = true), σ) := by
  have ha' : a = 0 ∨ a = 1 ∨ a = 2 ∨ a = 3 ∨ a = 4 ∨ a = 5 := by omega
  have hb' : b = 0 ∨ b = 1 ∨ b = 2 ∨ b = 3 ∨ b = 4 ∨ b = 5 ∨ b = 6 := by omega
  rcases ha' with rfl | rfl | rfl | rfl | rfl | rfl <;> rcases hb' with rfl | rfl | rfl | rfl | rfl | rfl | rfl <;> rfl
theorem x_isOfKind {a b : Nat} (ha : a < 6) (hb : b < 7) (σ : zS) : f_X_isOfKind (nI a) (nI b) σ = some (bI (und a b = true), σ) := by
  unfold f_X_isOfKind
  exact x_isOf 18446744073709551609 ha hb σ
theorem m_isUnder {a b : Nat} (ha : a < 6) (hb : b < 7) (σ : zS) : f_M_isUnder (nI a) (nI b) σ = some (bI (und a b = true), σ) := by
  have ha' : a = 0 ∨ a = 1 ∨ a = 2 ∨ a = 3 ∨ a = 4 ∨ a = 5 := by omega
  have hb' : b = 0 ∨ b = 1 ∨ b = 2 ∨ b = 3 ∨ b = 4 ∨ b = 5 ∨ b = 6 := by omega
  rcases ha' with rfl | rfl | rfl | rfl | rfl | rfl <;> rcases hb' with rfl | rfl | rfl | rfl | rfl | rfl | rfl <;> rfl
theorem und6 {a : Nat} (ha : a < 6) : ¬ und a 6 = true := by
  have ha' : a = 0 ∨ a = 1 ∨ a = 2 ∨ a = 3 ∨ a = 4 ∨ a = 5 := by omega
  rcases ha' with rfl | rfl | rfl | rfl | rfl | rfl <;> decide
theorem nI_sub {a b : Nat} (h : b ≤ a) : nI a - nI b = nI (a - b) := pk_sub h
theorem sim_taken : @zSim (Int32 × Int32) R (fun a => f_X_taken a.1 a.2) (fun a => f_M_taken a.1 a.2) := by
  intro ⟨x, y⟩ σ τ hR
  obtain ⟨hh, hb⟩ := R_h hR
  dsimp only
  unfold f_X_taken f_M_taken
  rw [x_isFrom, m_in, zbd_s, zbd_s]
  by_cases h1 : 0 ≤ y ∧ y ≤ 6
  · rw [bI_t h1]
    simp only [if_neg one0]
    rw [x_isFrom, m_in, zbd_s, zbd_s]
    by_cases h2 : 0 ≤ x ∧ x ≤ 31
    · rw [bI_t h2]
      simp only [if_neg one0]
      obtain ⟨b, hb6, rfl⟩ := bd_of (N := 6) (by decide) h1
      obtain ⟨i, hi, rfl⟩ := bd_of (N := 31) (by decide) h2
      obtain ⟨⟨c, e, ln, m, n, nr, pl, hu, hW, hLX, hLM, hHX, hHM, hJ⟩, ⟨a1, ⟨ns, hns, a2⟩, a3, a4, a5, a6, a7, a8⟩, -⟩ := id hR
      have hn : τ.1 0 = nI n := hHM.2.1
      have hn20 := hHM.1
      by_cases h20 : 20 ≤ i
      · rw [if_pos (show (20 : Int32) ≤ nI i from nI_le h20 (by omega)), if_pos (show (20 : Int32) ≤ nI i from nI_le h20 (by omega))]
        rw [show nI i - 20 = nI (i - 20) from nI_sub h20]
        unfold f_X_shapeTaken
        rw [sh_knows, zbd_s, a1, a2]
        by_cases h3 : i - 20 < ns
        · rw [bI_t (show 0 ≤ nI (i - 20) ∧ nI (i - 20) < nI ns from ⟨nI_pos' (by omega), nI_lt h3 (by omega)⟩)]
          simp only [if_neg one0]
          obtain ⟨k, hk, ek⟩ := a6 (i - 20) (by omega)
          rw [if_pos (nI_lt h3 (by omega)), zin_n (by omega) (by decide), nI_clamp (by omega), a3 (i - 20) (by omega), ek, x_isOfKind (by omega) (by omega), zbd_s]
          by_cases hb5 : b = 6
          · subst hb5
            rw [if_pos (show (6 : Int32) ≤ nI 6 from nI_le (Nat.le_refl _) (by decide)), bI_f (und6 (by omega))]
            exact ⟨_, _, _, rfl, rfl, hR⟩
          · rw [if_neg (show ¬ (6 : Int32) ≤ nI b from nI_ge (show b < 6 by omega) (by decide)), zin_n (by omega) (by decide), m_isUnder (by omega) (by omega), zbd_s]
            by_cases hu : und k b = true
            · rw [bI_t hu]
              exact ⟨_, _, _, rfl, rfl, hR⟩
            · rw [bI_f hu]
              exact ⟨_, _, _, rfl, rfl, hR⟩
        · rw [bI_f (show ¬ (0 ≤ nI (i - 20) ∧ nI (i - 20) < nI ns) from fun q => nI_nlt (Nat.le_of_not_lt h3) (by omega) q.2), if_neg (nI_nlt (Nat.le_of_not_lt h3) (by omega))]
          exact ⟨_, _, _, rfl, rfl, hR⟩
      · rw [if_neg (show ¬ (20 : Int32) ≤ nI i from nI_ge (show i < 20 by omega) (by decide)), if_neg (show ¬ (20 : Int32) ≤ nI i from nI_ge (show i < 20 by omega) (by decide))]
        unfold f_X_houseTaken
        rw [vi_knows, zbd_s, hh, hn]
        by_cases h3 : i < n
        · rw [bI_t (show 0 ≤ nI i ∧ nI i < nI n from ⟨nI_pos' (by omega), nI_lt h3 (by omega)⟩), if_neg one0, if_pos (nI_lt h3 (by omega))]
          by_cases h6 : nI b = 6
          · rw [if_pos h6, if_pos h6, zin_n (by omega) (by decide), zin_n (by omega) (by decide), nI_clamp (by omega), (hHX.2.2.2 i (by omega)).2.2.1, (hHM.2.2.2.2 i (by omega)).2.2.1]
            exact ⟨_, _, _, rfl, rfl, hR⟩
          · rw [if_neg h6, if_neg h6]
            exact ⟨_, _, _, rfl, rfl, hR⟩
        · rw [bI_f (show ¬ (0 ≤ nI i ∧ nI i < nI n) from fun q => nI_nlt (Nat.le_of_not_lt h3) (by omega) q.2), if_neg (nI_nlt (Nat.le_of_not_lt h3) (by omega))]
          exact ⟨_, _, _, rfl, rfl, hR⟩
    · rw [bI_f h2]
      simp only [if_true]
      exact ⟨_, _, _, rfl, rfl, hR⟩
  · rw [bI_f h1]
    simp only [if_true]
    exact ⟨_, _, _, rfl, rfl, hR⟩
/-- one array written -/
def wv (σ : zS) (q : Nat) (f : Nat → Int32) : zS := (σ.1, va_up σ.2 q f)
theorem wv_1 (σ : zS) (q : Nat) (f : Nat → Int32) : (wv σ q f).1 = σ.1 := rfl
theorem wv_q (σ : zS) (q : Nat) (f : Nat → Int32) : (wv σ q f).2 q = f := by simp [wv, va_up]
theorem wv_ne (σ : zS) {q k : Nat} (f : Nat → Int32) (h : k ≠ q) : (wv σ q f).2 k = σ.2 k := by simp [wv, va_up, h]
theorem zsa_wv (σ : zS) (q : Nat) (f : Nat → Int32) {i : Nat} (v : Int32) (hi : i < 2 ^ 31) : zsa (wv σ q f) q (nI i) v = wv σ q (upd f i v) := by
  unfold zsa
  rw [nI_clamp hi, wv_q]
  unfold wv
  congr 1
  funext k
  simp only [va_up]
  split <;> rfl
theorem wv_self (σ : zS) (q : Nat) : wv σ q (σ.2 q) = σ := by
  unfold wv
  congr 1
  funext k
  simp only [va_up]
  split
  · next h => rw [h]
  · rfl
theorem G10_row {σ τ : zS} : R10 σ τ ↔ (eqN 4 (σ.2 30) (τ.2 19) ∧ eqN 4 (σ.2 31) (τ.2 20) ∧ (∀ s, s < 4 → bd (τ.2 20 s) 40 ∧ (τ.2 19 s = -1 ∨ bd (τ.2 19 s) 2)) ∧ ∀ s, s < 4 → ∀ i, i < 40 → σ.2 (37 + s) i = τ.2 21 (40 * s + i)) := by
  have e : ∀ s, s < 4 → [σ.2 37, σ.2 38, σ.2 39, σ.2 40].getD s (fun _ => 0) = σ.2 (37 + s) := by
    intro s hs
    have : s = 0 ∨ s = 1 ∨ s = 2 ∨ s = 3 := by omega
    rcases this with rfl | rfl | rfl | rfl <;> rfl
  constructor
  · rintro ⟨a, b, c, d⟩
    exact ⟨a, b, c, fun s hs i hi => by rw [← e s hs]; exact d s hs i hi⟩
  · rintro ⟨a, b, c, d⟩
    exact ⟨a, b, c, fun s hs i hi => by rw [e s hs]; exact d s hs i hi⟩
theorem zrw_i {β : Type} {a : Nat} {x : Option β} (h : 37 ≤ a ∧ a < 41) : zrw a x = x := if_pos h
theorem m_sheetL {τ : zS} {s : Nat} (hs : s < 4) : ∀ (r k f : Nat) (g : Nat → Int32), k + r = 40 → r < f → ∃ g', f_M_sheet_70 f (nI s) (nI k) (wv τ 21 g) = some (1, wv τ 21 g') ∧ ∀ j, g' j = if 40 * s + k ≤ j ∧ j < 40 * s + 40 then 0 else g j := by
  intro r
  induction r with
  | zero =>
    intro k f g hk hf
    obtain ⟨f, rfl⟩ : ∃ m, f = m + 1 := ⟨f - 1, by omega⟩
    refine ⟨g, ?_, fun j => by rw [if_neg (by omega)]⟩
    show f_M_sheet_70b _ _ _ _ = _
    unfold f_M_sheet_70b
    rw [if_pos (show (40 : Int32) ≤ nI k from nI_le (show 40 ≤ k by omega) (by omega))]
  | succ r ih =>
    intro k f g hk hf
    obtain ⟨f, rfl⟩ : ∃ m, f = m + 1 := ⟨f - 1, by omega⟩
    obtain ⟨g', h1, h2⟩ := ih (k + 1) f (upd g (40 * s + k) 0) (by omega) (by omega)
    refine ⟨g', ?_, fun j => ?_⟩
    · show f_M_sheet_70b _ _ _ _ = _
      unfold f_M_sheet_70b
      rw [if_neg (show ¬ (40 : Int32) ≤ nI k from nI_ge (show k < 40 by omega) (by decide)), show (40 : Int32) * nI s + nI k = nI (40 * s + k) from by rw [← nI_add, ← nI_mul]; rfl, zin_n (by omega) (by decide), zlt_s, zsa_wv _ _ _ _ (by omega), nI_1]
      exact h1
    · rw [h2 j]
      unfold upd
      by_cases hj : j = 40 * s + k
      · rw [if_neg (by omega), if_pos hj, if_pos (by omega)]
      · rw [if_neg hj]
        by_cases h3 : 40 * s + (k + 1) ≤ j ∧ j < 40 * s + 40
        · rw [if_pos h3, if_pos (by omega)]
        · rw [if_neg h3, if_neg (by omega)]
theorem R_10 {σ τ σ' τ' : zS} (hR : R σ τ) (h1 : σ'.1 = σ.1) (h2 : ∀ q, q ≠ 30 → q ≠ 31 → (q < 37 ∨ 40 < q) → σ'.2 q = σ.2 q) (g1 : τ'.1 = τ.1) (g2 : ∀ q, q ≠ 19 → q ≠ 20 → q ≠ 21 → τ'.2 q = τ.2 q) (h : R10 σ' τ') : R σ' τ' := by
  obtain ⟨r1, r2, r3, r4, r5, r6, r7, r8, r9, r10⟩ := hR
  have f : ∀ k, σ'.1 k = σ.1 k := fun k => by rw [h1]
  have f' : ∀ k, τ'.1 k = τ.1 k := fun k => by rw [g1]
  have a : ∀ q, q ≠ 30 ∧ q ≠ 31 ∧ (q < 37 ∨ 40 < q) → σ'.2 q = σ.2 q := fun q h => h2 q h.1 h.2.1 h.2.2
  have a' : ∀ q, q ≠ 19 ∧ q ≠ 20 ∧ q ≠ 21 → τ'.2 q = τ.2 q := fun q h => g2 q h.1 h.2.1 h.2.2
  refine ⟨RJ_s ⟨fun k q => f k, fun k q => a k (by omega)⟩ ⟨fun k q => f' k, fun k q => a' k (by omega)⟩ r1, ?_, ?_, ?_, ?_, ?_, ?_, ?_, ?_, h⟩
  · unfold R2; rw [f 503, a 23 (by omega), a 24 (by omega), a 25 (by omega), f' 3, f' 0, a' 3 (by omega), a' 4 (by omega), a' 5 (by omega)]; exact r2
  · unfold R3; rw [f 15, f' 7]; exact r3
  · unfold R4; rw [f 308, a 21 (by omega), a 22 (by omega), f' 8, a' 6 (by omega), a' 7 (by omega), a' 8 (by omega), a' 9 (by omega), a' 10 (by omega)]; exact r4
  · unfold R5; rw [f 602, a 26 (by omega), a 27 (by omega), f' 14, f' 3, a' 11 (by omega), a' 12 (by omega)]; exact r5
  · unfold R6; rw [f 13, a 14 (by omega), f' 17, a' 13 (by omega)]; exact r6
  · unfold R7; rw [f 102, a 15 (by omega), f' 20, a' 14 (by omega)]; exact r7
  · unfold R8; rw [f 202, f 14, f 305, f 306, f 1043, f 1044, f 1045, f 1046, f 1047, f 1048, f 1049, f 1050, f 1051, f 1052, f 1053, f 1054, a 43 (by omega), a 44 (by omega), a 45 (by omega), a 46 (by omega), a 47 (by omega), a 48 (by omega), a 49 (by omega), a 50 (by omega), a 51 (by omega), a 52 (by omega), a 53 (by omega), a 54 (by omega), f' 23, f' 24, a' 15 (by omega), a' 16 (by omega)]; exact r8
  · unfold R9; rw [f 702, f 703, f 704, f 705, f 706, a 28 (by omega), a 29 (by omega), f' 25, f' 26, f' 27, f' 28, f' 29, f' 0, f' 14, f' 23, a' 17 (by omega), a' 18 (by omega)]; exact r9
theorem zsf_ne {σ : zS} {q N k : Nat} {v : Int32} (h : k ≠ q) : (zsf σ q N v).2 k = σ.2 k := by simp [zsf, va_up, h]
theorem neg1 : ¬ (1 : Int32) = -1 ∧ (-1 : Int32) = -1 := by decide
theorem renew_sim {σ τ : zS} {s : Nat} {so n : Int32} (hR : R σ τ) (hs : s < 4) (hso : so = -1 ∨ bd so 2) (hn : bd n 40) : ∃ σ' τ', f_St_renew (nI s) so n σ = some (0, σ') ∧ f_M_sheet_66 (nI s) (nI s) n (zsa τ 19 (nI s) so) = some (1, τ') ∧ R σ' τ' := by
  obtain ⟨a1, a2, a3, a4⟩ := G10_row.mp hR.2.2.2.2.2.2.2.2.2
  let τ1 := zsa (zsa τ 19 (nI s) so) 20 (nI s) n
  obtain ⟨g', h1, h2⟩ := m_sheetL (τ := τ1) hs 40 0 zfu (τ1.2 21) rfl (by decide)
  let σ1 := zsf (zsa (zsa σ 30 (nI s) so) 31 (nI s) n) (37 + s) 40 0
  refine ⟨σ1, wv τ1 21 g', ?_, ?_, R_10 hR rfl ?_ rfl ?_ (G10_row.mpr ⟨?_, ?_, ?_, ?_⟩)⟩
  · unfold f_St_renew
    rw [zin_n hs (by decide), zlt_s, zin_n hs (by decide), zlt_s, zin_n hs (by decide), nI_clamp (by omega), zrw_i (by omega)]
    rfl
  · unfold f_M_sheet_66
    rw [zin_n hs (by decide), zlt_s]
    rw [wv_self] at h1
    exact h1
  · intro q q1 q2 q3
    show va_up (va_up (va_up σ.2 30 _) 31 _) (37 + s) _ q = _
    unfold va_up
    rw [if_neg (by omega), if_neg q2, if_neg q1]
  · intro q q1 q2 q3
    show va_up (va_up (va_up τ.2 19 _) 20 _) 21 _ q = _
    unfold va_up
    rw [if_neg q3, if_neg q2, if_neg q1]
  · rw [show σ1.2 30 = upd (σ.2 30) (nI s).toNatClampNeg so from zsf_ne (by omega)]
    exact eqN_u a1 rfl
  · rw [show σ1.2 31 = upd (σ.2 31) (nI s).toNatClampNeg n from zsf_ne (by omega)]
    exact eqN_u a2 rfl
  · intro t ht
    show bd (upd (τ.2 20) (nI s).toNatClampNeg n t) 40 ∧ (upd (τ.2 19) (nI s).toNatClampNeg so t = -1 ∨ bd (upd (τ.2 19) (nI s).toNatClampNeg so t) 2)
    unfold upd
    by_cases hst : t = (nI s).toNatClampNeg
    · rw [if_pos hst, if_pos hst]; exact ⟨hn, hso⟩
    · rw [if_neg hst, if_neg hst]; exact a3 t ht
  · intro t ht i hi
    show va_up (va_up (va_up σ.2 30 _) 31 _) (37 + s) _ (37 + t) i = g' (40 * t + i)
    have e0 : τ1.2 21 = τ.2 21 := rfl
    rw [h2, e0]
    unfold va_up
    by_cases hst : t = s
    · subst hst
      rw [if_pos rfl, if_pos (by omega)]
      show zfl 40 0 _ i = 0
      unfold zfl
      rw [if_pos hi]
    · rw [if_neg (by omega), if_neg (by omega), if_neg (by omega), if_neg (by omega)]
      exact a4 t ht i hi
theorem nI_le' {a : Nat} {x : Int32} (ha : a < 2 ^ 31) (h : x ≤ nI a) (h0 : 0 ≤ x) : bd x a := bd_of ha ⟨h0, h⟩
theorem sort_of {so : Int32} (h : -1 ≤ so ∧ so ≤ 2) : so = -1 ∨ bd so 2 := by
  by_cases q : 0 ≤ so
  · exact Or.inr (bd_of (by decide) ⟨q, h.2⟩)
  · left
    have h1 := h.1
    rw [Int32.le_iff_toInt_le] at q h1
    apply Int32.toInt_inj.mp
    have e1 : (-1 : Int32).toInt = -1 := rfl
    have e0 : (0 : Int32).toInt = 0 := rfl
    rw [e1] at h1 ⊢
    rw [e0] at q
    omega
theorem sim_sheet : @zSim (Int32 × Int32 × Int32) R (fun a => f_X_sheet a.1 a.2.1 a.2.2) (fun a => f_M_sheet a.1 a.2.1 a.2.2) := by
  intro ⟨x, so, n⟩ σ τ hR
  dsimp only
  unfold f_X_sheet f_M_sheet
  rw [x_isSheet, m_in, zbd_s, zbd_s]
  by_cases h1 : 0 ≤ x ∧ x ≤ 3
  · rw [bI_t h1]
    simp only [if_neg one0]
    obtain ⟨s, hs, rfl⟩ := bd_of (N := 3) (by decide) h1
    rw [x_isFrom, m_in, zbd_s, zbd_s]
    by_cases h2 : -1 ≤ so ∧ so ≤ 2
    · rw [bI_t h2]
      simp only [if_neg one0]
      unfold f_M_sheet_32 f_M_sheet_44
      by_cases h3 : so = -1
      · subst h3
        simp only [if_true, zin_n (show s < 4 by omega) (show 4 < 2 ^ 31 by decide), zlt_s]
        obtain ⟨σ', τ', e1, e2, e3⟩ := renew_sim (so := -1) (n := 0) hR (show s < 4 by omega) (Or.inl rfl) ⟨0, by decide, rfl⟩
        rw [e1, e2, zbd_s]
        exact ⟨_, _, _, rfl, rfl, e3⟩
      · simp only [if_neg h3, zin_n (show s < 4 by omega) (show 4 < 2 ^ 31 by decide), zlt_s]
        by_cases h4 : n ≤ 40
        · rw [if_pos h4, if_pos h4]
          by_cases h5 : 0 ≤ n
          · rw [if_pos h5, if_pos h5]
            obtain ⟨σ', τ', e1, e2, e3⟩ := renew_sim (so := so) (n := n) hR (show s < 4 by omega) (sort_of h2) (bd_of (by decide) ⟨h5, h4⟩)
            rw [e1, e2, zbd_s]
            exact ⟨_, _, _, rfl, rfl, e3⟩
          · rw [if_neg h5, if_neg h5]
            exact ⟨_, _, _, rfl, rfl, hR⟩
        · rw [if_neg h4, if_neg h4]
          exact ⟨_, _, _, rfl, rfl, hR⟩
    · rw [bI_f h2]
      simp only [if_true]
      exact ⟨_, _, _, rfl, rfl, hR⟩
  · rw [bI_f h1]
    simp only [if_true]
    exact ⟨_, _, _, rfl, rfl, hR⟩
