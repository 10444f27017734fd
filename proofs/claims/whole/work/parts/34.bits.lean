/-! masks: numbers below 2^20 as sets -/
theorem nb_and (a b : Nat) : nI a &&& nI b = nI (a &&& b) := by
  apply Int32.toBitVec_inj.mp
  show (Int32.ofNat a).toBitVec &&& (Int32.ofNat b).toBitVec = (Int32.ofNat (a &&& b)).toBitVec
  apply BitVec.eq_of_toNat_eq
  simp [Int32.toBitVec_ofNat', BitVec.toNat_ofNat, Nat.and_mod_two_pow]
theorem nb_or (a b : Nat) : nI a ||| nI b = nI (a ||| b) := by
  apply Int32.toBitVec_inj.mp
  show (Int32.ofNat a).toBitVec ||| (Int32.ofNat b).toBitVec = (Int32.ofNat (a ||| b)).toBitVec
  apply BitVec.eq_of_toNat_eq
  simp [Int32.toBitVec_ofNat', BitVec.toNat_ofNat, Nat.or_mod_two_pow]
theorem nb_s : ∀ n, n < 32 → ((nI n &&& 31).toBitVec.smod 32).toNat = n := by
  have h : (List.range 32).all (fun n => decide (((nI n &&& 31).toBitVec.smod 32).toNat = n)) = true := by decide +kernel
  intro n hn
  exact of_decide_eq_true (List.all_eq_true.mp h n (List.mem_range.mpr hn))
theorem nb_shl {i : Nat} (hi : i < 31) : zshl 1 (nI i) = nI (2 ^ i) := by
  unfold zshl
  have h : 2 ^ i < 2 ^ 32 := Nat.pow_lt_pow_right (by decide) (by omega)
  have := pk_shlN (n := 1) (nI i &&& 31) i (nb_s i (by omega)) (by omega)
  rw [Nat.one_mul] at this
  exact this
theorem nb_has {m i : Nat} (hm : m < 2 ^ 31) (hi : i < 31) : zshr (nI m) (nI i) &&& 1 = bI (m.testBit i = true) := by
  unfold zshr
  rw [pk_shrN hm (nI i &&& 31) i (nb_s i (by omega)), pk_andN (m := 1) (Nat.lt_of_le_of_lt (Nat.div_le_self _ _) (by omega)) 1 (by decide)]
  have e : m.testBit i = decide (m / 2 ^ i % 2 = 1) := by
    rw [Nat.testBit_eq_decide_div_mod_eq]
  unfold bI
  rw [e]
  have h2 : m / 2 ^ i % 2 < 2 := Nat.mod_lt _ (by decide)
  by_cases h : m / 2 ^ i % 2 = 1
  · simp only [Nat.pow_one, h, decide_true, if_true]
    rfl
  · have h0 : m / 2 ^ i % 2 = 0 := by omega
    simp only [Nat.pow_one, h0]
    rfl
theorem x_has {m i : Nat} (hm : m < 2 ^ 31) (hi : i < 31) (σ : zS) : f_X_has (nI m) (nI i) σ = some (bI (m.testBit i = true), σ) := by
  unfold f_X_has
  rw [nb_has hm hi]
  unfold bI
  by_cases h : m.testBit i = true
  · rw [if_pos h, if_neg (by decide)]
  · rw [if_neg h, if_pos rfl]
def sb (a b : Nat) : Prop := ∀ i, a.testBit i = true → b.testBit i = true
theorem sb_rfl {a : Nat} : sb a a := fun _ h => h
theorem sb_tr {a b c : Nat} (h : sb a b) (g : sb b c) : sb a c := fun i q => g i (h i q)
theorem sb_anti {a b : Nat} (h : sb a b) (g : sb b a) : a = b := by
  apply Nat.eq_of_testBit_eq
  intro i
  cases ha : a.testBit i with
  | true => exact (h i ha).symm
  | false =>
    cases hb : b.testBit i with
    | true => rw [g i hb] at ha; cases ha
    | false => rfl
theorem tb_or (a b i : Nat) : (a ||| b).testBit i = true ↔ a.testBit i = true ∨ b.testBit i = true := by
  rw [Nat.testBit_or]
  cases a.testBit i <;> cases b.testBit i <;> simp
theorem tb_and (a b i : Nat) : (a &&& b).testBit i = true ↔ a.testBit i = true ∧ b.testBit i = true := by
  rw [Nat.testBit_and]
  cases a.testBit i <;> cases b.testBit i <;> simp
theorem tb_pow (k i : Nat) : (2 ^ k).testBit i = true ↔ i = k := by
  rw [Nat.testBit_two_pow]
  constructor
  · intro h; exact (of_decide_eq_true h).symm
  · intro h; exact decide_eq_true h.symm
theorem tb_lt {m i n : Nat} (hm : m < 2 ^ n) (h : m.testBit i = true) : i < n := by
  rcases Nat.lt_or_ge i n with q | q
  · exact q
  · rw [Nat.testBit_lt_two_pow (Nat.lt_of_lt_of_le hm (Nat.pow_le_pow_right (by decide) q))] at h
    cases h
theorem or_lt {a b n : Nat} (ha : a < 2 ^ n) (hb : b < 2 ^ n) : a ||| b < 2 ^ n := Nat.or_lt_two_pow ha hb
theorem and_lt {a b n : Nat} (ha : a < 2 ^ n) : a &&& b < 2 ^ n := Nat.lt_of_le_of_lt Nat.and_le_left ha
/-- how many of the first n -/
def cn (m : Nat) : Nat → Nat
  | 0 => 0
  | n + 1 => cn m n + (if m.testBit n = true then 1 else 0)
theorem cn_le (m : Nat) : ∀ n, cn m n ≤ n
  | 0 => Nat.le_refl _
  | n + 1 => by
    have := cn_le m n
    unfold cn
    split <;> omega
theorem cn_mono {a b : Nat} (h : sb a b) : ∀ n, cn a n ≤ cn b n
  | 0 => Nat.le_refl _
  | n + 1 => by
    have := cn_mono h n
    unfold cn
    by_cases g : a.testBit n = true
    · rw [if_pos g, if_pos (h n g)]; omega
    · rw [if_neg g]; omega
theorem cn_lt {a b i : Nat} (h : sb a b) (hb : b.testBit i = true) (ha : ¬ a.testBit i = true) : ∀ n, i < n → cn a n < cn b n
  | 0, hi => absurd hi (Nat.not_lt_zero _)
  | n + 1, hi => by
    unfold cn
    by_cases e : i = n
    · subst e
      have := cn_mono h i
      rw [if_pos hb, if_neg ha]; omega
    · have := cn_lt h hb ha n (by omega)
      by_cases g : a.testBit n = true
      · rw [if_pos g, if_pos (h n g)]; omega
      · rw [if_neg g]; split <;> omega
theorem sb_ne {a b : Nat} (h : sb a b) (hne : a ≠ b) : ∃ i, b.testBit i = true ∧ ¬ a.testBit i = true := by
  apply Classical.byContradiction
  intro hn
  apply hne
  apply sb_anti h
  intro i hi
  apply Classical.byContradiction
  intro ha
  exact hn ⟨i, hi, ha⟩
/-- a set that is closed, and the least one -/
def cld (nr : Nat → Nat → Bool) (n s D : Nat) : Prop := ∀ a b, a < n → b < n → D.testBit a = true → s.testBit b = true → nr a b = true → a ≠ b → D.testBit b = true
def isC (nr : Nat → Nat → Bool) (n s c C : Nat) : Prop := sb c C ∧ cld nr n s C ∧ ∀ D, sb c D → cld nr n s D → sb C D
theorem isC_eq {nr : Nat → Nat → Bool} {n s c C C' : Nat} (h : isC nr n s c C) (h' : isC nr n s c C') : C = C' := sb_anti (h.2.2 C' h'.1 h'.2.1) (h'.2.2 C h.1 h.2.1)
