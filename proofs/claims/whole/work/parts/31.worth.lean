/-! A TEXT's code, told apart from both numberings: q < 10000 a number, 10000 + i the name i, 20000 not, 20001 -, 20002 or, 20003 and, 20004 <, 20005 =, 20006 +, 20007 -, 20008 *. -/
def vd (q : Nat) : Prop := q < 10006 ∨ (20000 ≤ q ∧ q < 20009)
def mc (q : Nat) : Int32 := if q < 10000 then nI (100000 + q) else if q < 20000 then nI (q - 10000) else ([13, 19, 11, 12, 14, 15, 16, 17, 18] : List Int32).getD (q - 20000) 0
def xc (q : Nat) : Int32 := if q < 10000 then nI q else if q < 20000 then -(nI (17 + (q - 10000))) else -(([15, 16, 8, 9, 10, 11, 12, 13, 14] : List Int32).getD (q - 20000) 0)
def bn (q : Nat) (a b : Int32) : Int32 := if q = 20002 then (if a = 0 ∧ b = 0 then 0 else 1) else if q = 20003 then (if a = 0 ∨ b = 0 then 0 else 1) else if q = 20004 then (if a < b then 1 else 0) else if q = 20005 then (if a = b then 1 else 0) else if q = 20006 then a + b else if q = 20007 then a - b else a * b
def sd (q d : Nat) : Nat := if q < 20000 then d + 1 else if q < 20002 then d else d - 1
def sf (q : Nat) (fa : Nat → Int32) (d : Nat) (f : Nat → Int32) : Nat → Int32 :=
  if q < 20000 then upd f d (if q < 10000 then nI q else fa (q - 10000))
  else if q = 20000 then upd f (d - 1) (if f (d - 1) = 0 then 1 else 0)
  else if q = 20001 then upd f (d - 1) (-(f (d - 1)))
  else upd f (d - 2) (bn q (f (d - 2)) (f (d - 1)))
def okd (q d : Nat) : Prop := if q < 20000 then d < 31 else if q < 20002 then 1 ≤ d else 2 ≤ d
def wfc (cd : Nat → Nat) : Nat → Nat → Nat → Prop
  | 0, _, d => d = 1
  | r + 1, j, d => vd (cd j) ∧ okd (cd j) d ∧ wfc cd r (j + 1) (sd (cd j) d)
def vr (cd : Nat → Nat) (fa : Nat → Int32) : Nat → Nat → Nat → (Nat → Int32) → (Nat → Int32)
  | 0, _, _, f => f
  | r + 1, j, d, f => vr cd fa r (j + 1) (sd (cd j) d) (sf (cd j) fa d f)
def vl (cd : Nat → Nat) (fa : Nat → Int32) (n : Nat) : Int32 := vr cd fa n 0 0 (fun _ => 0) 0
theorem sf_eq {q d : Nat} {fa f g : Nat → Int32} (h : eqN d f g) (ho : okd q d) : eqN (sd q d) (sf q fa d f) (sf q fa d g) := by
  intro i hi
  unfold sd at hi
  unfold okd at ho
  unfold sf
  by_cases h1 : q < 20000
  · simp only [h1, if_true] at hi ho ⊢
    unfold upd
    by_cases e : i = d
    · simp [e]
    · simp only [e, if_false]
      exact h i (by omega)
  · simp only [h1, if_false] at hi ho ⊢
    by_cases h2 : q < 20002
    · simp only [h2, if_true] at hi ho
      by_cases h3 : q = 20000
      · simp only [h3, if_true]
        unfold upd
        rw [h (d - 1) (by omega), h i hi]
      · have h4 : q = 20001 := by omega
        simp only [h4, show ¬ (20001 : Nat) = 20000 by decide, if_true, if_false]
        unfold upd
        rw [h (d - 1) (by omega), h i hi]
    · simp only [h2, if_false] at hi ho
      simp only [show ¬ q = 20000 by omega, show ¬ q = 20001 by omega, if_false]
      unfold upd
      rw [h (d - 1) (by omega), h (d - 2) (by omega), h i (by omega)]
theorem vr_eq {cd : Nat → Nat} {fa : Nat → Int32} : ∀ (r j d : Nat) (f g : Nat → Int32), eqN d f g → wfc cd r j d → vr cd fa r j d f 0 = vr cd fa r j d g 0
  | 0, j, d, f, g, h, hw => h 0 (by rw [show d = 1 from hw]; decide)
  | r + 1, j, d, f, g, h, hw => vr_eq r (j + 1) _ _ _ (sf_eq h hw.2.1) hw.2.2
theorem vr_vl {cd : Nat → Nat} {fa : Nat → Int32} {n : Nat} {f : Nat → Int32} (hw : wfc cd n 0 0) : vr cd fa n 0 0 f 0 = vl cd fa n := vr_eq n 0 0 f _ (fun i h => absurd h (Nat.not_lt_zero i)) hw
theorem wfc_ok {cd : Nat → Nat} : ∀ (r j d : Nat), d ≤ 31 → wfc cd r j d → ∀ i, i < r → vd (cd (j + i))
  | 0, _, _, _, _, i, hi => absurd hi (Nat.not_lt_zero i)
  | r + 1, j, d, hd, hw, i, hi => by
    cases i with
    | zero => exact hw.1
    | succ i =>
      have hd2 : sd (cd j) d ≤ 31 := by
        have := hw.2.1
        unfold okd at this
        unfold sd
        split at this
        · rename_i h1; simp only [h1, if_true]; omega
        · rename_i h1
          simp only [h1, if_false]
          split <;> omega
      have := wfc_ok r (j + 1) _ hd2 hw.2.2 i (by omega)
      rw [show j + 1 + i = j + (i + 1) by omega] at this
      exact this
/-! ===== the reference's worth ===== -/
theorem m_two (q : Nat) (h1 : 20002 ≤ q) (h2 : q < 20009) (a b : Int32) (σ : zS) : f_M_two (mc q) a b σ = some (bn q a b, σ) := by
  rcases (show q = 20002 ∨ q = 20003 ∨ q = 20004 ∨ q = 20005 ∨ q = 20006 ∨ q = 20007 ∨ q = 20008 by omega) with rfl | rfl | rfl | rfl | rfl | rfl | rfl
  · show f_M_two 11 a b σ = _
    unfold f_M_two f_M_two_52 bn
    by_cases e1 : a = 0 <;> by_cases e2 : b = 0 <;> simp [e1, e2]
  · show f_M_two 12 a b σ = _
    unfold f_M_two bn
    rw [if_neg (by decide)]
    by_cases e1 : a = 0 <;> by_cases e2 : b = 0 <;> simp [e1, e2]
  · show f_M_two 14 a b σ = _
    unfold f_M_two bn
    rw [if_neg (by decide), if_neg (by decide)]
    by_cases e1 : b ≤ a
    · simp [e1, Int32.not_lt.mpr e1]
    · simp [e1, Int32.not_le.mp e1]
  · show f_M_two 15 a b σ = _
    unfold f_M_two bn
    rw [if_neg (by decide), if_neg (by decide), if_neg (by decide)]
    by_cases e1 : a = b <;> simp [e1]
  · show f_M_two 16 a b σ = _
    unfold f_M_two bn
    rw [if_neg (by decide), if_neg (by decide), if_neg (by decide), if_neg (by decide)]
    simp
  · show f_M_two 17 a b σ = _
    unfold f_M_two bn
    rw [if_neg (by decide), if_neg (by decide), if_neg (by decide), if_neg (by decide), if_neg (by decide)]
    simp
  · show f_M_two 18 a b σ = _
    unfold f_M_two bn
    rw [if_neg (by decide), if_neg (by decide), if_neg (by decide), if_neg (by decide), if_neg (by decide), if_neg (by decide)]
    simp
/-- the state with another stack -/
def m24 (σ : zS) (f : Nat → Int32) : zS := (σ.1, va_up σ.2 24 f)
theorem zsa_m24 {σ : zS} {i : Nat} (v : Int32) (hi : i < 2 ^ 31) : zsa σ 24 (nI i) v = m24 σ (upd (σ.2 24) i v) := by
  unfold zsa m24
  rw [nI_clamp hi]
theorem m24_m24 (σ : zS) (f g : Nat → Int32) : m24 (m24 σ f) g = m24 σ g := by
  unfold m24
  simp only
  rw [bx_uu]
theorem m24_24 (σ : zS) (f : Nat → Int32) : (m24 σ f).2 24 = f := by simp [m24, va_up]
theorem m24_ne (σ : zS) (f : Nat → Int32) {q : Nat} (h : q ≠ 24) : (m24 σ f).2 q = σ.2 q := by simp [m24, va_up, h]
theorem m24_self (σ : zS) : m24 σ (σ.2 24) = σ := by
  unfold m24
  obtain ⟨a, b⟩ := σ
  simp only [Prod.mk.injEq, true_and]
  funext q
  unfold va_up
  split
  · rename_i h; rw [h]
  · rfl
