/-! ===== the fewest steps: what both come to ===== -/
def edg (we no : Nat → Nat) (u v w : Nat) : Prop := u < 1600 ∧ v < 1600 ∧ ((v = u + 1 ∧ ¬ v % 40 = 0 ∧ w = we v) ∨ (u = v + 1 ∧ ¬ u % 40 = 0 ∧ w = we u) ∨ (v = u + 40 ∧ w = no v) ∨ (u = v + 40 ∧ w = no u))
theorem edg_sym {we no : Nat → Nat} {u v w : Nat} (h : edg we no u v w) : edg we no v u w := by
  obtain ⟨h1, h2, h3⟩ := h
  refine ⟨h2, h1, ?_⟩
  rcases h3 with h | h | h | h
  · exact Or.inr (Or.inl h)
  · exact Or.inl h
  · exact Or.inr (Or.inr (Or.inr h))
  · exact Or.inr (Or.inr (Or.inl h))
def stb (we no E : Nat → Nat) : Prop := ∀ u v w, edg we no u v w → E v ≤ E u + w
def sou (we no : Nat → Nat) (s : Nat) (d : Nat → Nat) : Prop := ∀ E : Nat → Nat, stb we no E → E s = 0 → (∀ v, v < 1600 → E v ≤ 1000000000) → ∀ v, v < 1600 → E v ≤ d v
def few (we no : Nat → Nat) (s : Nat) (d : Nat → Nat) : Prop := stb we no d ∧ d s = 0 ∧ (∀ v, v < 1600 → d v ≤ 1000000000) ∧ sou we no s d
theorem few_uni {we no d e : Nat → Nat} {s : Nat} (h : few we no s d) (g : few we no s e) (v : Nat) (hv : v < 1600) : d v = e v :=
  Nat.le_antisymm (g.2.2.2 d h.1 h.2.1 h.2.2.1 v hv) (h.2.2.2 e g.1 g.2.1 g.2.2.1 v hv)
theorem few_sym1 {we no d e : Nat → Nat} {s t : Nat} (hs : s < 1600) (ht : t < 1600) (h : few we no s d) (g : few we no t e) : d t ≤ e s := by
  have q := g.2.2.2 (fun v => d t - d v) (fun u v w hw => by
    have := h.1 v u w (edg_sym hw)
    show d t - d v ≤ d t - d u + w
    omega) (by show d t - d t = 0; omega) (fun v hv => by
    have := h.2.2.1 t ht
    show d t - d v ≤ _
    omega) s hs
  have h0 := h.2.1
  have : d t - d s ≤ e s := q
  omega
theorem few_sym {we no d e : Nat → Nat} {s t : Nat} (hs : s < 1600) (ht : t < 1600) (h : few we no s d) (g : few we no t e) : d t = e s :=
  Nat.le_antisymm (few_sym1 hs ht h g) (few_sym1 ht hs g h)
/-! counting -/
def ctq (q : Nat → Bool) : Nat → Nat
  | 0 => 0
  | n + 1 => ctq q n + (if q n = true then 1 else 0)
theorem ctq_le (q : Nat → Bool) : ∀ n, ctq q n ≤ n
  | 0 => Nat.le_refl 0
  | n + 1 => by
    have := ctq_le q n
    show ctq q n + _ ≤ _
    split <;> omega
theorem ctq_mono {p q : Nat → Bool} : ∀ n, (∀ i, i < n → p i = true → q i = true) → ctq p n ≤ ctq q n
  | 0, _ => Nat.le_refl 0
  | n + 1, h => by
    have h1 := ctq_mono n (fun i hi => h i (by omega))
    have h2 := h n (by omega)
    show ctq p n + _ ≤ ctq q n + _
    by_cases e : p n = true
    · rw [if_pos e, if_pos (h2 e)]; omega
    · rw [if_neg e]; omega
theorem ctq_lt {p q : Nat → Bool} {j : Nat} : ∀ n, (∀ i, i < n → p i = true → q i = true) → j < n → q j = true → p j = false → ctq p n < ctq q n
  | 0, _, hj, _, _ => absurd hj (Nat.not_lt_zero j)
  | n + 1, h, hj, h1, h2 => by
    show ctq p n + _ < ctq q n + _
    by_cases e : j = n
    · subst e
      have := ctq_mono j (fun i hi => h i (by omega))
      rw [if_pos h1, if_neg (by rw [h2]; decide)]
      omega
    · have h3 := ctq_lt n (fun i hi => h i (by omega)) (show j < n by omega) h1 h2
      have h4 := h n (by omega)
      by_cases e : p n = true
      · rw [if_pos e, if_pos (h4 e)]; omega
      · rw [if_neg e]; omega
theorem ctq_0 {q : Nat → Bool} : ∀ n, ctq q n = 0 → ∀ i, i < n → q i = false
  | 0, _, i, hi => absurd hi (Nat.not_lt_zero i)
  | n + 1, h, i, hi => by
    have h : ctq q n + (if q n = true then 1 else 0) = 0 := h
    by_cases e : i = n
    · subst e
      by_cases w : q i = true
      · rw [if_pos w] at h; omega
      · exact Bool.eq_false_iff.mpr w
    · exact ctq_0 n (by omega) i (by omega)
theorem ctq_ext {p q : Nat → Bool} (n : Nat) (h : ∀ i, i < n → p i = q i) : ctq p n = ctq q n :=
  Nat.le_antisymm (ctq_mono n (fun i hi e => by rw [← h i hi]; exact e)) (ctq_mono n (fun i hi e => by rw [h i hi]; exact e))
def ub (q : Nat → Bool) (j : Nat) (b : Bool) : Nat → Bool := fun i => if i = j then b else q i
theorem ctq_up {q : Nat → Bool} {j : Nat} : ∀ n, j < n → q j = false → ctq (ub q j true) n = ctq q n + 1
  | 0, hj, _ => absurd hj (Nat.not_lt_zero j)
  | n + 1, hj, h => by
    show ctq _ n + _ = ctq q n + _ + 1
    by_cases e : j = n
    · subst e
      rw [ctq_ext j (p := ub q j true) (q := q) (fun i hi => if_neg (by omega)), if_pos (show ub q j true j = true from if_pos rfl), if_neg (by rw [h]; decide)]
    · rw [ctq_up n (by omega) h, show ub q j true n = q n from if_neg (by omega)]
      omega
theorem ctq_dn {q : Nat → Bool} {j n : Nat} (hj : j < n) (h : q j = true) : ctq (ub q j false) n + 1 = ctq q n := by
  have := ctq_up (q := ub q j false) (j := j) n hj (if_pos rfl)
  rw [← this]
  exact ctq_ext n (fun i _ => by
    unfold ub
    by_cases e : i = j
    · rw [if_pos e, e]; exact h.symm
    · rw [if_neg e, if_neg e])
theorem ctq_full {q : Nat → Bool} {j n : Nat} (hj : j < n) (h : q j = false) : ctq q n < n := by
  have := ctq_up n hj h
  have := ctq_le (ub q j true) n
  omega
/-! sums -/
def sm (d : Nat → Nat) : Nat → Nat
  | 0 => 0
  | n + 1 => sm d n + d n
def uq (d : Nat → Nat) (j x : Nat) : Nat → Nat := fun i => if i = j then x else d i
theorem sm_ext {d e : Nat → Nat} : ∀ n, (∀ i, i < n → d i = e i) → sm d n = sm e n
  | 0, _ => rfl
  | n + 1, h => by
    show sm d n + d n = sm e n + e n
    rw [sm_ext n (fun i hi => h i (by omega)), h n (by omega)]
theorem sm_lt {d : Nat → Nat} {j x : Nat} (hx : x < d j) : ∀ n, j < n → sm (uq d j x) n < sm d n
  | 0, hj => absurd hj (Nat.not_lt_zero j)
  | n + 1, hj => by
    show sm (uq d j x) n + uq d j x n < sm d n + d n
    by_cases e : j = n
    · subst e
      rw [sm_ext j (d := uq d j x) (e := d) (fun i hi => if_neg (by omega)), show uq d j x j = x from if_pos rfl]
      omega
    · have := sm_lt hx n (by omega)
      rw [show uq d j x n = d n from if_neg (by omega)]
      omega
theorem sm_bd {d : Nat → Nat} {B : Nat} : ∀ n, (∀ i, i < n → d i ≤ B) → sm d n ≤ n * B
  | 0, _ => by show 0 ≤ _; omega
  | n + 1, h => by
    have := sm_bd n (fun i hi => h i (by omega))
    have := h n (by omega)
    show sm d n + d n ≤ (n + 1) * B
    rw [Nat.succ_mul]
    omega
/-! ===== a sweep ===== -/
def swp (we no : Nat → Nat) (C : Nat → Nat → Prop) (d d' : Nat → Nat) (b : Bool) : Prop := (∀ v, d' v ≤ d v) ∧ (∀ E : Nat → Nat, stb we no E → (∀ v, v < 1600 → E v ≤ d v) → ∀ v, v < 1600 → E v ≤ d' v) ∧ (∀ u v w, edg we no u v w → C u v → d' v ≤ d u + w) ∧ (b = false → ∀ v, d' v = d v)
theorem swp_rfl {we no : Nat → Nat} {d : Nat → Nat} : swp we no (fun _ _ => False) d d false := ⟨fun _ => Nat.le_refl _, fun _ _ h => h, fun _ _ _ _ h => absurd h id, fun _ _ => rfl⟩
theorem swp_tr {we no : Nat → Nat} {C1 C2 : Nat → Nat → Prop} {d d1 d2 : Nat → Nat} {b1 b2 : Bool} (h : swp we no C1 d d1 b1) (g : swp we no C2 d1 d2 b2) : swp we no (fun u v => C1 u v ∨ C2 u v) d d2 (b1 || b2) := by
  obtain ⟨h1, h2, h3, h4⟩ := h
  obtain ⟨g1, g2, g3, g4⟩ := g
  refine ⟨fun v => Nat.le_trans (g1 v) (h1 v), fun E q1 q2 => g2 E q1 (h2 E q1 q2), fun u v w he hc => ?_, fun hb v => ?_⟩
  · rcases hc with hc | hc
    · exact Nat.le_trans (g1 v) (h3 u v w he hc)
    · have := g3 u v w he hc
      have := h1 u
      omega
  · have : b1 = false ∧ b2 = false := by cases b1 <;> cases b2 <;> simp_all
    rw [g4 this.2 v, h4 this.1 v]
theorem swp_w {we no : Nat → Nat} {C C' : Nat → Nat → Prop} {d d' : Nat → Nat} {b : Bool} (hc : ∀ u v, C' u v → C u v) (h : swp we no C d d' b) : swp we no C' d d' b :=
  ⟨h.1, h.2.1, fun u v w he hC => h.2.2.1 u v w he (hc u v hC), h.2.2.2⟩
theorem rlx_no {we no d : Nat → Nat} {u v w : Nat} (he : edg we no u v w) (h : d v ≤ d u + w) : swp we no (fun a b => a = u ∧ b = v) d d false := by
  refine ⟨fun _ => Nat.le_refl _, fun _ _ q => q, ?_, fun _ _ => rfl⟩
  rintro a b w' he' ⟨rfl, rfl⟩
  have : w' = w := by
    obtain ⟨_, _, h1⟩ := he
    obtain ⟨_, _, h2⟩ := he'
    omega
  rw [this]; exact h
theorem rlx_yes {we no d : Nat → Nat} {u v w : Nat} (he : edg we no u v w) (h : d u + w < d v) : swp we no (fun a b => a = u ∧ b = v) d (uq d v (d u + w)) true := by
  refine ⟨fun i => ?_, fun E q1 q2 i hi => ?_, ?_, fun hb => absurd hb (by decide)⟩
  · unfold uq
    split
    · rename_i e; rw [e]; omega
    · exact Nat.le_refl _
  · unfold uq
    split
    · rename_i e
      have := q1 u v w he
      have := q2 u he.1
      rw [e]; omega
    · exact q2 i hi
  · rintro a b w' he' ⟨rfl, rfl⟩
    have : w' = w := by
      obtain ⟨_, _, h1⟩ := he
      obtain ⟨_, _, h2⟩ := he'
      omega
    rw [this]
    show (if _ then _ else _) ≤ _
    rw [if_pos rfl]
    omega
/-- after a sweep over all one more is as it will be -/
theorem low_un {D d : Nat → Nat} : ∀ (m v : Nat), D v ≤ m → v < 1600 → ¬ d v = D v → ∃ v0, v0 < 1600 ∧ ¬ d v0 = D v0 ∧ ∀ u, u < 1600 → D u < D v0 → d u = D u := by
  intro m
  induction m with
  | zero =>
    intro v hm hv hd
    exact ⟨v, hv, hd, fun u _ hu => absurd hu (by omega)⟩
  | succ m ih =>
    intro v hm hv hd
    by_cases h : ∃ u, u < 1600 ∧ D u < D v ∧ ¬ d u = D u
    · obtain ⟨u, hu, h1, h2⟩ := h
      exact ih u (by omega) hu h2
    · refine ⟨v, hv, hd, fun u hu h1 => ?_⟩
      by_cases e : d u = D u
      · exact e
      · exact absurd ⟨u, hu, h1, e⟩ h
theorem few_tight {we no D : Nat → Nat} {s v : Nat} (hF : few we no s D) (hv : v < 1600) (hs : ¬ v = s) (hD : D v < 1000000000) : ∃ u w, edg we no u v w ∧ D v = D u + w := by
  by_cases h : ∃ u w, edg we no u v w ∧ D v = D u + w
  · exact h
  · exfalso
    have hn : ∀ u w, edg we no u v w → D v + 1 ≤ D u + w := by
      intro u w he
      have h1 := hF.1 u v w he
      have h2 : ¬ D v = D u + w := fun e => h ⟨u, w, he, e⟩
      omega
    have hE := hF.2.2.2 (uq D v (D v + 1)) (by
      intro a b w he
      unfold uq
      have hab : ¬ a = b := by
        obtain ⟨_, _, h1⟩ := he
        omega
      by_cases hb : b = v
      · subst hb
        rw [if_pos rfl, if_neg hab]
        exact hn a w he
      · rw [if_neg hb]
        have h1 := hF.1 a b w he
        by_cases ha : a = v
        · subst ha
          rw [if_pos rfl]; omega
        · rw [if_neg ha]; exact h1) (by
      show (if _ then _ else _) = 0
      rw [if_neg (fun e => hs e.symm)]
      exact hF.2.1) (by
      intro i hi
      unfold uq
      split
      · omega
      · exact hF.2.2.1 i hi) v hv
    have : (if v = v then D v + 1 else D v) ≤ D v := hE
    rw [if_pos rfl] at this
    omega
def uns (D d : Nat → Nat) : Nat := ctq (fun v => decide (¬ d v = D v)) 1600
theorem swp_step {we no D d d' : Nat → Nat} {s : Nat} {b : Bool} (hF : few we no s D) (h1 : ∀ p, p < 1600 → 1 ≤ we p ∧ 1 ≤ no p) (h : swp we no (fun _ _ => True) d d' b) (hD : ∀ v, v < 1600 → D v ≤ d v) (hB : ∀ v, v < 1600 → d v ≤ 1000000000) (hs : d s = 0) : (∀ v, v < 1600 → D v ≤ d' v) ∧ (uns D d = 0 → uns D d' = 0) ∧ (¬ uns D d = 0 → uns D d' < uns D d) ∧ (b = false → uns D d = 0) := by
  have hD' : ∀ v, v < 1600 → D v ≤ d' v := h.2.1 D hF.1 hD
  have hm : ∀ i, i < 1600 → decide (¬ d' i = D i) = true → decide (¬ d i = D i) = true := by
    intro i hi q
    rw [decide_eq_true_iff] at q ⊢
    have := hD' i hi
    have := h.1 i
    omega
  have h3 : ¬ uns D d = 0 → uns D d' < uns D d := by
    intro q
    have : ∃ v, v < 1600 ∧ ¬ d v = D v := by
      by_cases e : ∃ v, v < 1600 ∧ ¬ d v = D v
      · exact e
      · exfalso
        apply q
        unfold uns
        have : ctq (fun v => decide (¬ d v = D v)) 1600 = ctq (fun _ => false) 1600 := ctq_ext 1600 (fun i hi => by
          show decide _ = false
          rw [decide_eq_false_iff_not]
          exact fun w => e ⟨i, hi, w⟩)
        rw [this]
        have hz : ∀ n, ctq (fun _ => false) n = 0 := by
          intro n
          induction n with
          | zero => rfl
          | succ n ih => show ctq _ n + _ = 0; rw [ih]; rfl
        exact hz 1600
    obtain ⟨v, hv, hd⟩ := this
    obtain ⟨v0, k1, k2, k3⟩ := low_un (D := D) (d := d) (D v) v (Nat.le_refl _) hv hd
    have hlt : D v0 < d v0 := by have := hD v0 k1; omega
    have hvs : ¬ v0 = s := by
      intro e
      rw [e, hs] at hlt
      omega
    obtain ⟨u, w, he, ht⟩ := few_tight hF k1 hvs (by have := hB v0 k1; omega)
    have hw : 1 ≤ w := by
      obtain ⟨e1, e2, e3⟩ := he
      have q1 := h1 u e1
      have q2 := h1 v0 e2
      omega
    have hu : d u = D u := k3 u he.1 (by omega)
    have hn := h.2.2.1 u v0 w he trivial
    have hd' := hD' v0 k1
    unfold uns
    refine ctq_lt (j := v0) 1600 hm k1 ?_ ?_
    · rw [decide_eq_true_iff]; exact k2
    · rw [decide_eq_false_iff_not]; omega
  refine ⟨hD', fun q => ?_, h3, fun hb => ?_⟩
  · have : ctq (fun v => decide (¬ d' v = D v)) 1600 ≤ ctq (fun v => decide (¬ d v = D v)) 1600 := ctq_mono 1600 hm
    unfold uns at q ⊢
    omega
  · by_cases q : uns D d = 0
    · exact q
    · exfalso
      have h4 := h3 q
      have : uns D d' = uns D d := by
        unfold uns
        exact ctq_ext 1600 (fun i _ => by show decide _ = decide _; rw [h.2.2.2 hb i])
      omega
theorem uns_0 {D d : Nat → Nat} (h : uns D d = 0) (v : Nat) (hv : v < 1600) : d v = D v := by
  have := ctq_0 1600 h v hv
  rw [decide_eq_false_iff_not] at this
  omega
