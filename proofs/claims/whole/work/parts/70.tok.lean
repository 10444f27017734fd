/-! ===== tokens, told apart from both ===== -/
def lru (P : Nat → Bool) (T : Nat → Nat) : Nat → Nat → Nat
  | 0, a => a
  | r + 1, a => if P (T a) = true then lru P T r (a + 1) else a
theorem lru_b (P : Nat → Bool) (T : Nat → Nat) : ∀ r a, a ≤ lru P T r a ∧ lru P T r a ≤ a + r
  | 0, a => ⟨Nat.le_refl a, Nat.le_refl a⟩
  | r + 1, a => by
    have h := lru_b P T r (a + 1)
    show a ≤ (if P (T a) = true then lru P T r (a + 1) else a) ∧ (if P (T a) = true then lru P T r (a + 1) else a) ≤ a + (r + 1)
    by_cases e : P (T a) = true
    · rw [if_pos e]; omega
    · rw [if_neg e]; omega
theorem lru_in (P : Nat → Bool) (T : Nat → Nat) : ∀ r a i, a ≤ i → i < lru P T r a → P (T i) = true
  | 0, a, i, h1, h2 => absurd (show i < a from h2) (by omega)
  | r + 1, a, i, h1, h2 => by
    have h2 : i < (if P (T a) = true then lru P T r (a + 1) else a) := h2
    by_cases e : P (T a) = true
    · rw [if_pos e] at h2
      by_cases q : i = a
      · rw [q]; exact e
      · exact lru_in P T r (a + 1) i (by omega) h2
    · rw [if_neg e] at h2
      omega
theorem lru_1 {P : Nat → Bool} {T : Nat → Nat} {r a : Nat} (hr : 0 < r) (h : P (T a) = true) : a < lru P T r a := by
  obtain ⟨r, rfl⟩ : ∃ m, r = m + 1 := ⟨r - 1, by omega⟩
  have := (lru_b P T r (a + 1)).1
  show a < (if P (T a) = true then lru P T r (a + 1) else a)
  rw [if_pos h]
  omega
def isB (c : Nat) : Bool := decide (c = 32 ∨ c = 10)
def isL (c : Nat) : Bool := decide (97 ≤ c ∧ c ≤ 122)
def isD (c : Nat) : Bool := decide (48 ≤ c ∧ c ≤ 57)
def pkw (T : Nat → Nat) (b : Nat) : Nat → Nat
  | 0 => 0
  | l + 1 => 256 * pkw T b l + T (b + l)
def nmv (T : Nat → Nat) (b : Nat) : Nat → Nat
  | 0 => 0
  | l + 1 => 10 * nmv T b l + (T (b + l) - 48)
def wcode (W : Nat) : Nat := if W = 1852137842 then 30002 else if W = 6709618 then 30003 else if W = 28530 then 20002 else if W = 6385252 then 20003 else if W = 7237492 then 20000 else if W = 418497262196 then 10000 else if W = 1936286821 then 10001 else if W = 1752527987 then 10002 else if W = 114827921155443 then 10003 else if W = 1819238758 then 10004 else if W = 32195308547892595 then 10005 else 30001
def scode (c : Nat) : Nat := if c = 40 then 30004 else if c = 41 then 30005 else if c = 42 then 20008 else if c = 43 then 20006 else if c = 45 then 20007 else if c = 59 then 30006 else if c = 60 then 20004 else if c = 61 then 20005 else 30001
def wtk (T : Nat → Nat) (b l : Nat) : Nat := if l ≤ 7 then wcode (pkw T b l) else 30001
def ntk (T : Nat → Nat) (b l : Nat) : Nat := if l ≤ 4 then nmv T b l else 30001
def eB (T : Nat → Nat) (n b : Nat) : Nat := if n ≤ b then n else if isL (T b) = true then lru isL T (n - b) b else if isD (T b) = true then lru isD T (n - b) b else b + 1
def kB (T : Nat → Nat) (n b : Nat) : Nat := if n ≤ b then 30000 else if isL (T b) = true then wtk T b (lru isL T (n - b) b - b) else if isD (T b) = true then ntk T b (lru isD T (n - b) b - b) else scode (T b)
def tB (T : Nat → Nat) (n a : Nat) : Nat := lru isB T (n - a) a
def tE (T : Nat → Nat) (n a : Nat) : Nat := eB T n (tB T n a)
def tK (T : Nat → Nat) (n a : Nat) : Nat := kB T n (tB T n a)
theorem tB_b {T : Nat → Nat} {n a : Nat} (h : a ≤ n) : a ≤ tB T n a ∧ tB T n a ≤ n := by
  have := lru_b isB T (n - a) a
  unfold tB
  omega
theorem eB_b {T : Nat → Nat} {n b : Nat} (h : b ≤ n) : b ≤ eB T n b ∧ eB T n b ≤ n ∧ (b < n → b < eB T n b) := by
  unfold eB
  by_cases h1 : n ≤ b
  · rw [if_pos h1]; omega
  · rw [if_neg h1]
    by_cases h2 : isL (T b) = true
    · rw [if_pos h2]
      have := lru_b isL T (n - b) b
      have := lru_1 (r := n - b) (by omega) h2
      omega
    · rw [if_neg h2]
      by_cases h3 : isD (T b) = true
      · rw [if_pos h3]
        have := lru_b isD T (n - b) b
        have := lru_1 (r := n - b) (by omega) h3
        omega
      · rw [if_neg h3]; omega
theorem nmv_b {T : Nat → Nat} {b : Nat} : ∀ l, (∀ i, i < l → T (b + i) ≤ 57) → nmv T b l < 10 ^ l
  | 0, _ => (show (0 : Nat) < 1 by decide)
  | l + 1, h => by
    have h1 := nmv_b l (fun i hi => h i (by omega))
    have h2 := h l (by omega)
    show 10 * nmv T b l + (T (b + l) - 48) < 10 ^ (l + 1)
    rw [Nat.pow_succ]
    omega
/-- which tokens there are -/
def vt (q : Nat) : Prop := q < 10006 ∨ q = 20000 ∨ (20002 ≤ q ∧ q ≤ 20008) ∨ (30000 ≤ q ∧ q ≤ 30006)
theorem wcode_v (W : Nat) : wcode W ≠ 30000 ∧ vt (wcode W) := by
  unfold wcode vt
  repeat' split
  all_goals omega
theorem scode_v (c : Nat) : scode c ≠ 30000 ∧ vt (scode c) := by
  unfold scode vt
  repeat' split
  all_goals omega
theorem kB_v {T : Nat → Nat} {n b : Nat} (hb : b ≤ n) : vt (kB T n b) ∧ (kB T n b = 30000 ↔ b = n) := by
  unfold kB
  by_cases h1 : n ≤ b
  · rw [if_pos h1]
    exact ⟨by unfold vt; omega, by omega⟩
  · rw [if_neg h1]
    by_cases h2 : isL (T b) = true
    · rw [if_pos h2]
      unfold wtk
      by_cases h3 : lru isL T (n - b) b - b ≤ 7
      · rw [if_pos h3]
        have := wcode_v (pkw T b (lru isL T (n - b) b - b))
        exact ⟨this.2, by omega⟩
      · rw [if_neg h3]
        exact ⟨by unfold vt; omega, by omega⟩
    · rw [if_neg h2]
      by_cases h3 : isD (T b) = true
      · rw [if_pos h3]
        unfold ntk
        by_cases h4 : lru isD T (n - b) b - b ≤ 4
        · rw [if_pos h4]
          have hn : nmv T b (lru isD T (n - b) b - b) < 10 ^ (lru isD T (n - b) b - b) := nmv_b _ (fun i hi => by
            have := lru_in isD T (n - b) b (b + i) (by omega) (by omega)
            unfold isD at this
            rw [decide_eq_true_iff] at this
            omega)
          have : 10 ^ (lru isD T (n - b) b - b) ≤ 10 ^ 4 := Nat.pow_le_pow_right (by decide) h4
          exact ⟨by unfold vt; omega, by omega⟩
        · rw [if_neg h4]
          exact ⟨by unfold vt; omega, by omega⟩
      · rw [if_neg h3]
        have := scode_v (T b)
        exact ⟨this.2, by omega⟩
theorem tK_v {T : Nat → Nat} {n a : Nat} (ha : a ≤ n) : vt (tK T n a) := (kB_v (tB_b ha).2).1
theorem tE_b {T : Nat → Nat} {n a : Nat} (ha : a ≤ n) : a ≤ tE T n a ∧ tE T n a ≤ n ∧ (tK T n a ≠ 30000 → tB T n a < n ∧ tB T n a < tE T n a) := by
  have h1 := tB_b (T := T) ha
  have h2 := eB_b (T := T) h1.2
  have h3 := (kB_v (T := T) h1.2).2
  unfold tE tK
  refine ⟨by omega, h2.2.1, fun h => ?_⟩
  have : tB T n a < n := by
    have : ¬ tB T n a = n := fun e => h (h3.mpr e)
    omega
  exact ⟨this, h2.2.2 this⟩
/-! packed words -/
theorem pkw_lt {T : Nat → Nat} {b : Nat} : ∀ l, (∀ i, i < l → T (b + i) < 256) → pkw T b l < 256 ^ l
  | 0, _ => (show (0 : Nat) < 1 by decide)
  | l + 1, h => by
    have h1 := pkw_lt l (fun i hi => h i (by omega))
    have h2 := h l (by omega)
    show 256 * pkw T b l + T (b + l) < 256 ^ (l + 1)
    rw [Nat.pow_succ]
    omega
theorem pkw_ge {T : Nat → Nat} {b : Nat} : ∀ l, (∀ i, i < l + 1 → 1 ≤ T (b + i)) → 256 ^ l ≤ pkw T b (l + 1)
  | 0, h => by
    have := h 0 (by omega)
    show 1 ≤ 256 * 0 + T (b + 0)
    omega
  | l + 1, h => by
    have h1 := pkw_ge l (fun i hi => h i (by omega))
    show 256 ^ (l + 1) ≤ 256 * pkw T b (l + 1) + T (b + (l + 1))
    rw [Nat.pow_succ]
    omega
theorem pkw_eq {T U : Nat → Nat} {b c : Nat} : ∀ l, (∀ i, i < l → T (b + i) < 256 ∧ U (c + i) < 256) → (pkw T b l = pkw U c l ↔ ∀ i, i < l → T (b + i) = U (c + i))
  | 0, _ => ⟨fun _ i h => absurd h (Nat.not_lt_zero i), fun _ => rfl⟩
  | l + 1, h => by
    have h1 := pkw_eq l (fun i hi => h i (by omega))
    have h2 := h l (by omega)
    have e : (pkw T b (l + 1) = pkw U c (l + 1)) ↔ (pkw T b l = pkw U c l ∧ T (b + l) = U (c + l)) := by
      show (256 * pkw T b l + T (b + l) = 256 * pkw U c l + U (c + l)) ↔ _
      omega
    rw [e, h1]
    constructor
    · rintro ⟨q1, q2⟩ i hi
      by_cases w : i = l
      · rw [w]; exact q2
      · exact q1 i (by omega)
    · intro q
      exact ⟨fun i hi => q i (by omega), q l (by omega)⟩
def wch : List (List Nat) := [[], [110, 101, 97, 114], [102, 97, 114], [111, 114], [97, 110, 100], [110, 111, 116], [97, 112, 97, 114, 116], [115, 105, 100, 101], [104, 117, 116, 115], [104, 111, 117, 115, 101, 115], [108, 111, 97, 102], [114, 97, 118, 105, 110, 101, 115]]
def ch (k j : Nat) : Nat := (wch.getD k []).getD j 0
def wln (k : Nat) : Nat := zSlen.getD k 0
def wpk : List Nat := [0, 1852137842, 6709618, 28530, 6385252, 7237492, 418497262196, 1936286821, 1752527987, 114827921155443, 1819238758, 32195308547892595]
theorem ch_ok : ∀ k, k < 12 → 1 ≤ k → wln k ≤ 7 ∧ 1 ≤ wln k ∧ pkw (ch k) 0 (wln k) = wpk.getD k 0 ∧ (∀ j, j < 7 → ch k (0 + j) < 256) ∧ ∀ j, j < 7 → j < wln k → zchr k (nI j) = nI (ch k j) := by decide +kernel
/-- at a place there is word k -/
theorem here_iff {T : Nat → Nat} {b l k : Nat} (hk : k < 12) (hk1 : 1 ≤ k) (hl : 1 ≤ l) (hT : ∀ i, i < l → 97 ≤ T (b + i) ∧ T (b + i) ≤ 122) : (wln k = l ∧ ∀ i, i < l → T (b + i) = ch k (0 + i)) ↔ (l ≤ 7 ∧ pkw T b l = wpk.getD k 0) := by
  obtain ⟨c1, c2, c3, c4, c5⟩ := ch_ok k hk hk1
  constructor
  · rintro ⟨rfl, h⟩
    refine ⟨c1, ?_⟩
    rw [← c3]
    exact (pkw_eq (wln k) (fun i hi => ⟨by have := hT i hi; omega, c4 i (by omega)⟩)).mpr h
  · rintro ⟨h1, h2⟩
    have hlt := pkw_lt (T := T) (b := b) l (fun i hi => by have := hT i hi; omega)
    obtain ⟨l', rfl⟩ : ∃ m, l = m + 1 := ⟨l - 1, by omega⟩
    have hge := pkw_ge (T := T) (b := b) l' (fun i hi => by have := hT i hi; omega)
    rw [h2, ← c3] at hlt hge
    have hw : wln k = l' + 1 := by
      have g1 := pkw_lt (T := ch k) (b := 0) (wln k) (fun i hi => c4 i (by omega))
      have g2 : 256 ^ (wln k - 1) ≤ pkw (ch k) 0 (wln k) := by
        have : ∀ k, k < 12 → 1 ≤ k → 256 ^ (wln k - 1) ≤ pkw (ch k) 0 (wln k) := by decide +kernel
        exact this k hk hk1
      have a1 : 256 ^ l' < 256 ^ (wln k) := Nat.lt_of_le_of_lt hge g1
      have a2 : 256 ^ (wln k - 1) < 256 ^ (l' + 1) := Nat.lt_of_le_of_lt g2 hlt
      have b1 := (Nat.pow_lt_pow_iff_right (a := 256) (by decide)).mp a1
      have b2 := (Nat.pow_lt_pow_iff_right (a := 256) (by decide)).mp a2
      omega
    refine ⟨hw, ?_⟩
    rw [← c3, hw] at h2
    exact (pkw_eq (l' + 1) (fun i hi => ⟨by have := hT i hi; omega, c4 i (by omega)⟩)).mp h2
