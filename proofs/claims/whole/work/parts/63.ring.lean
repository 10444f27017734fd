/-! ===== the reference's ring ===== -/
theorem m_costL {τ : zS} {n : Nat} {w a b : Int32} (hn : τ.1 8 = nI n) (h6 : n ≤ 6) : ∀ (r k f : Nat), k + r = n → r < f → f_M_cost_6 f w a b (cst (τ.2 6) (τ.2 7) (τ.2 8) (τ.2 9) (τ.2 10) w a b k) (nI k) τ = some (cst (τ.2 6) (τ.2 7) (τ.2 8) (τ.2 9) (τ.2 10) w a b n, τ) := by
  intro r
  induction r with
  | zero =>
    intro k f hk hf
    obtain ⟨f, rfl⟩ : ∃ m, f = m + 1 := ⟨f - 1, by omega⟩
    show f_M_cost_6b _ _ _ _ _ _ _ = _
    unfold f_M_cost_6b
    rw [hn, if_pos (nI_le (by omega) (by omega)), show k = n by omega]
  | succ r ih =>
    intro k f hk hf
    obtain ⟨f, rfl⟩ : ∃ m, f = m + 1 := ⟨f - 1, by omega⟩
    have e0 : f_M_cost_6 (f + 1) w a b (cst (τ.2 6) (τ.2 7) (τ.2 8) (τ.2 9) (τ.2 10) w a b k) (nI k) τ = f_M_cost_6b (fun x1 x2 x3 x4 x5 σ => f_M_cost_6 f x1 x2 x3 x4 x5 σ) w a b (cst (τ.2 6) (τ.2 7) (τ.2 8) (τ.2 9) (τ.2 10) w a b k) (nI k) τ := rfl
    rw [e0, ← ih (k + 1) f (by omega) (by omega)]
    unfold f_M_cost_6b f_M_cost_70 f_M_cost_71
    rw [hn, if_neg (nI_ge (by omega) (by omega))]
    simp only [zin_n (show k < 6 by omega) (show 6 < 2 ^ 31 by decide), nI_clamp (show k < 2 ^ 31 by omega), m_in, zbd_s, zlt_s, nI_1]
    show _ = f_M_cost_6 f w a b (cst (τ.2 6) (τ.2 7) (τ.2 8) (τ.2 9) (τ.2 10) w a b k + (if τ.2 6 k = w ∧ τ.2 7 k = a ∧ τ.2 8 k ≤ b ∧ b ≤ τ.2 9 k then τ.2 10 k else 0)) (nI (k + 1)) τ
    by_cases h1 : τ.2 6 k = w
    · rw [if_pos h1]
      by_cases h2 : τ.2 7 k = a
      · rw [if_pos h2]
        by_cases h3 : τ.2 8 k ≤ b ∧ b ≤ τ.2 9 k
        · rw [bI_t h3, if_neg one0, if_pos ⟨h1, h2, h3.1, h3.2⟩]
        · rw [bI_f h3, if_pos rfl, if_neg (fun q => h3 q.2.2)]
      · rw [if_neg h2, if_neg (fun q => h2 q.2.1)]
    · rw [if_neg h1, if_neg (fun q => h1 q.1)]
theorem cst_bd {way att fr to wi : Nat → Int32} {w a b : Int32} : ∀ n, (∀ r, r < n → ∃ x, 1 ≤ x ∧ x ≤ 99 ∧ wi r = nI x) → ∃ c, cst way att fr to wi w a b n = nI c ∧ 1 ≤ c ∧ c ≤ 1 + 99 * n
  | 0, _ => ⟨1, rfl, by omega, by omega⟩
  | n + 1, h => by
    obtain ⟨c, h1, h2, h3⟩ := cst_bd (way := way) (att := att) (fr := fr) (to := to) (w := w) (a := a) (b := b) n (fun r hr => h r (by omega))
    obtain ⟨x, x1, x2, x3⟩ := h n (by omega)
    show ∃ c, cst way att fr to wi w a b n + (if way n = w ∧ att n = a ∧ fr n ≤ b ∧ b ≤ to n then wi n else 0) = nI c ∧ _
    by_cases e : way n = w ∧ att n = a ∧ fr n ≤ b ∧ b ≤ to n
    · rw [if_pos e, h1, x3, nI_add]
      exact ⟨c + x, rfl, by omega, by omega⟩
    · rw [if_neg e, h1, Int32.add_zero]
      exact ⟨c, rfl, by omega, by omega⟩
def CMx (τ : zS) (we no : Nat → Nat) : Prop := ∀ τ' : zS, τ'.1 8 = τ.1 8 → (∀ q, 6 ≤ q ∧ q ≤ 10 → τ'.2 q = τ.2 q) → ∀ x y, x < 40 → y < 40 → f_M_cost 0 (nI x) (nI y) τ' = some (nI (we (40 * y + x)), τ') ∧ f_M_cost 1 (nI y) (nI x) τ' = some (nI (no (40 * y + x)), τ')
theorem R_c {σ τ : zS} (hR : R σ τ) : ∃ we no, LC σ we no ∧ CMx τ we no := by
  obtain ⟨-, -, -, ⟨h1, n, h2, h3, h4, h5⟩, -⟩ := hR
  have hw : ∀ r, r < n → ∃ x, 1 ≤ x ∧ x ≤ 99 ∧ τ.2 10 r = nI x := fun r hr => (h4 r hr).2.2.2
  have hb : ∀ w a b, ∃ c, cst (τ.2 6) (τ.2 7) (τ.2 8) (τ.2 9) (τ.2 10) w a b n = nI c ∧ 1 ≤ c ∧ c ≤ 595 := by
    intro w a b
    obtain ⟨c, c1, c2, c3⟩ := cst_bd (way := τ.2 6) (att := τ.2 7) (fr := τ.2 8) (to := τ.2 9) (w := w) (a := a) (b := b) n hw
    exact ⟨c, c1, c2, by omega⟩
  have hcl : ∀ x y, x < 40 → y < 40 → (σ.2 21 (40 * y + x) = nI (σ.2 21 (40 * y + x)).toNatClampNeg ∧ 1 ≤ (σ.2 21 (40 * y + x)).toNatClampNeg ∧ (σ.2 21 (40 * y + x)).toNatClampNeg ≤ 595) ∧ (σ.2 22 (40 * y + x) = nI (σ.2 22 (40 * y + x)).toNatClampNeg ∧ 1 ≤ (σ.2 22 (40 * y + x)).toNatClampNeg ∧ (σ.2 22 (40 * y + x)).toNatClampNeg ≤ 595) := by
    intro x y hx hy
    obtain ⟨e1, e2⟩ := h5 x y hx hy
    obtain ⟨c, c1, c2, c3⟩ := hb 0 (nI x) (nI y)
    obtain ⟨k, k1, k2, k3⟩ := hb 1 (nI y) (nI x)
    rw [e1, e2, c1, k1, nI_clamp (by omega), nI_clamp (by omega)]
    exact ⟨⟨rfl, c2, c3⟩, rfl, k2, k3⟩
  refine ⟨fun p => (σ.2 21 p).toNatClampNeg, fun p => (σ.2 22 p).toNatClampNeg, fun i hi => ?_, fun τ' g1 g2 x y hx hy => ?_⟩
  · have := hcl (i % 40) (i / 40) (by omega) (by omega)
    rw [show 40 * (i / 40) + i % 40 = i by omega] at this
    exact ⟨this.1.1, this.2.1, this.1.2.1, this.1.2.2, this.2.2.1, this.2.2.2⟩
  · have hn : τ'.1 8 = nI n := by rw [g1]; exact h3
    have e := hcl x y hx hy
    unfold f_M_cost
    constructor
    · have q := m_costL (w := 0) (a := nI x) (b := nI y) hn h2 n 0 zfu (by omega) (by unfold zfu; omega)
      rw [g2 6 (by omega), g2 7 (by omega), g2 8 (by omega), g2 9 (by omega), g2 10 (by omega), ← (h5 x y hx hy).1] at q
      show _ = some (nI (σ.2 21 (40 * y + x)).toNatClampNeg, τ')
      rw [← e.1.1, ← q]
      rfl
    · have q := m_costL (w := 1) (a := nI y) (b := nI x) hn h2 n 0 zfu (by omega) (by unfold zfu; omega)
      rw [g2 6 (by omega), g2 7 (by omega), g2 8 (by omega), g2 9 (by omega), g2 10 (by omega), ← (h5 x y hx hy).2] at q
      show _ = some (nI (σ.2 22 (40 * y + x)).toNatClampNeg, τ')
      rw [← e.2.1, ← q]
      rfl
def ms5 (τ τ' : zS) : Prop := (∀ k, k ≠ 57 → k ≠ 58 → τ'.1 k = τ.1 k) ∧ ∀ q, q ≠ 28 → q ≠ 29 → q ≠ 30 → τ'.2 q = τ.2 q
theorem ms5_rfl {a : zS} : ms5 a a := ⟨fun _ _ _ => rfl, fun _ _ _ _ => rfl⟩
theorem ms5_tr {a b c : zS} (h : ms5 a b) (g : ms5 b c) : ms5 a c := ⟨fun k q1 q2 => (g.1 k q1 q2).trans (h.1 k q1 q2), fun q h0 h1 h2 => (g.2 q h0 h1 h2).trans (h.2 q h0 h1 h2)⟩
theorem mq_5 {a b : zS} (h : ms5 a b) : mq a b := ⟨fun k _ _ _ h4 => h.1 k (by omega) (by omega), fun q h1 => h.2 q (by omega) (by omega) (by omega)⟩
theorem ms5_g {a τ : zS} {k : Nat} {v : Int32} (h : ms5 a τ) (hk : k = 57 ∨ k = 58) : ms5 a (zsg τ k v) := ms5_tr h ⟨fun j q1 q2 => by show upd τ.1 k v j = _; unfold upd; rw [if_neg (by omega)], fun _ _ _ _ => rfl⟩
theorem ms5_a {a τ : zS} {k : Nat} {i v : Int32} (h : ms5 a τ) (hk : k = 28 ∨ k = 29 ∨ k = 30) : ms5 a (zsa τ k i v) := ms5_tr h ⟨fun _ _ _ => rfl, fun q q1 q2 q3 => by rw [za2]; unfold va_up; rw [if_neg (by omega)]⟩
def RGx (τ : zS) (fr : Nat) (d : Nat → Nat) (w : Nat → Bool) : Prop := AD d (τ.2 28) ∧ (∀ i, i < 1600 → τ.2 30 i = bI (w i = true)) ∧ τ.1 57 = nI fr ∧ fr < 1600 ∧ τ.1 58 = nI (ctq w 1600) ∧ ∃ q : Nat → Nat, (∀ i, i < ctq w 1600 → τ.2 29 ((fr + i) % 1600) = nI (q i) ∧ q i < 1600 ∧ w (q i) = true) ∧ ∀ i j, i < ctq w 1600 → j < ctq w 1600 → q i = q j → i = j
def RLx (we no : Nat → Nat) (u : Nat) (S : Nat → Prop) (d : Nat → Nat) (w : Nat → Bool) (d' : Nat → Nat) (w' : Nat → Bool) : Prop := (∀ i, d' i ≤ d i) ∧ d' u = d u ∧ (∀ i, w i = true → w' i = true) ∧ (∀ i, ¬ d' i = d i → w' i = true) ∧ 2 * sm d' 1600 + ctq w' 1600 ≤ 2 * sm d 1600 + ctq w 1600 ∧ (∀ E : Nat → Nat, stb we no E → (∀ v, v < 1600 → E v ≤ d v) → ∀ v, v < 1600 → E v ≤ d' v) ∧ ∀ v c, edg we no u v c → S v → d' v ≤ d u + c
theorem RLx_no {we no : Nat → Nat} {u : Nat} {S : Nat → Prop} {d : Nat → Nat} {w : Nat → Bool} (h : ∀ v c, edg we no u v c → ¬ S v) : RLx we no u S d w d w :=
  ⟨fun _ => Nat.le_refl _, rfl, fun _ h => h, fun _ h => absurd rfl h, Nat.le_refl _, fun _ _ h => h, fun v c he hS => absurd hS (h v c he)⟩
theorem RLx_tr {we no : Nat → Nat} {u : Nat} {S1 S2 S : Nat → Prop} {d d1 d2 : Nat → Nat} {w w1 w2 : Nat → Bool} (h : RLx we no u S1 d w d1 w1) (g : RLx we no u S2 d1 w1 d2 w2) (hS : ∀ v, S v → S1 v ∨ S2 v) : RLx we no u S d w d2 w2 := by
  obtain ⟨h1, h2, h3, h4, h5, h6, h7⟩ := h
  obtain ⟨g1, g2, g3, g4, g5, g6, g7⟩ := g
  refine ⟨fun i => Nat.le_trans (g1 i) (h1 i), g2.trans h2, fun i e => g3 i (h3 i e), fun i e => ?_, Nat.le_trans g5 h5, fun E q1 q2 => g6 E q1 (h6 E q1 q2), fun v c he hv => ?_⟩
  · by_cases e1 : d1 i = d i
    · exact g4 i (by rw [e1]; exact e)
    · exact g3 i (h4 i e1)
  · rcases hS v hv with q | q
    · exact Nat.le_trans (g1 v) (h7 v c he q)
    · rw [← h2]; exact g7 v c he q
theorem edg_c {we no : Nat → Nat} {u v c c' : Nat} (h : edg we no u v c) (g : edg we no u v c') : c = c' := by
  obtain ⟨_, _, h1⟩ := h
  obtain ⟨_, _, h2⟩ := g
  omega
theorem zsa_n {σ : zS} {q k : Nat} {i v : Int32} (h : k ≠ q) : (zsa σ q i v).2 k = σ.2 k := by rw [za2]; unfold va_up; rw [if_neg h]
theorem zsa_q {σ : zS} {q i : Nat} {v : Int32} (hi : i < 2 ^ 31) : (zsa σ q (nI i) v).2 q = upd (σ.2 q) i v := by rw [za2, nI_clamp hi]; unfold va_up; rw [if_pos rfl]
theorem rix {fr i M : Nat} (h : fr < 1600) (hM : M < 1600) (hi : i < M) : ¬ (fr + i) % 1600 = (fr + M) % 1600 := by omega
theorem ms_le {a b c e : Nat} (h : a < b) (k : c ≤ e + 1) : 2 * a + c ≤ 2 * b + e := by omega
theorem m_tries {τ : zS} {fr u v c : Nat} {d : Nat → Nat} {w : Nat → Bool} {we no : Nat → Nat} (h : RGx τ fr d w) (he : edg we no u v c) (hc : c ≤ 595) (hc1 : 1 ≤ c) : ∃ (τ' : zS) (d' : Nat → Nat) (w' : Nat → Bool), f_M_tries (nI u) (nI v) (nI c) τ = some (0, τ') ∧ RGx τ' fr d' w' ∧ RLx we no u (fun x => x = v) d w d' w' ∧ ms5 τ τ' := by
  have h0 := h
  obtain ⟨hA, hW, hf, hf1, hm, q, hq, hi⟩ := h
  have hu := he.1
  have hv := he.2.1
  unfold f_M_tries
  rw [zin_n hu (by decide), zin_n hv (by decide), nI_clamp (by omega), nI_clamp (by omega)]
  by_cases hh : d v ≤ d u + c
  · rw [if_pos ((rl_c hA hu hv hc).mpr hh)]
    refine ⟨τ, d, w, rfl, h0, ⟨fun _ => Nat.le_refl _, rfl, fun _ h => h, fun _ h => absurd rfl h, Nat.le_refl _, fun _ _ h => h, ?_⟩, ms5_rfl⟩
    intro x c' hx e
    subst e
    rw [edg_c hx he]; exact hh
  · have hlt : d u + c < d v := by omega
    rw [if_neg (fun e => hh ((rl_c hA hu hv hc).mp e)), zin_n hu (by decide), zin_n hv (by decide), zlt_s, zin_n hv (by decide)]
    have huv : ¬ u = v := by intro e; rw [e] at hlt; omega
    have hA' := AD_up (u := u) (v := v) (w := c) hA hu hv hlt
    have hrl : ∀ w' : Nat → Bool, (∀ i, w i = true → w' i = true) → w' v = true → ctq w' 1600 ≤ ctq w 1600 + 1 → RLx we no u (fun x => x = v) d w (uq d v (d u + c)) w' := by
      intro w' k1 k2 k3
      refine ⟨fun i => ?_, if_neg huv, k1, fun i e => ?_, ms_le (sm_lt (d := d) (j := v) (x := d u + c) hlt 1600 hv) k3, fun E q1 q2 i hi => ?_, ?_⟩
      · unfold uq
        split
        · rename_i e; rw [e]; omega
        · exact Nat.le_refl _
      · by_cases e1 : i = v
        · rw [e1]; exact k2
        · exact absurd (if_neg e1) e
      · unfold uq
        split
        · rename_i e
          have := q1 u v c he
          have := q2 u hu
          rw [e]; omega
        · exact q2 i hi
      · intro x c' hx e
        subst e
        rw [edg_c hx he]
        show (if _ then _ else _) ≤ _
        rw [if_pos rfl]
        omega
    have e30 : (zsa τ 28 (nI v) (τ.2 28 u + nI c)).2 30 = τ.2 30 := zsa_n (by decide)
    have e28 : (zsa τ 28 (nI v) (τ.2 28 u + nI c)).2 28 = upd (τ.2 28) v (τ.2 28 u + nI c) := zsa_q (by omega)
    rw [e30, hW v hv]
    cases hwv : w v with
    | true =>
      rw [if_neg (show ¬ bI (true = true) = 0 from one0)]
      refine ⟨_, uq d v (d u + c), w, rfl, ⟨?_, hW, hf, hf1, hm, q, hq, hi⟩, hrl w (fun _ h => h) hwv (Nat.le_succ _), ms5_a ms5_rfl (by omega)⟩
      rw [e28]; exact hA'
    | false =>
      rw [if_pos (show bI (false = true) = 0 from rfl), zin_n hv (by decide), zlt_s]
      have hm16 := ctq_full hv hwv
      have hup0 : ∀ _ : Nat, ctq (ub w v true) 1600 ≤ ctq w 1600 + 1 := fun _ => Nat.le_of_eq (ctq_up 1600 hv hwv)
      have hup : ∀ _ : Nat, ctq (ub w v true) 1600 = ctq w 1600 + 1 := fun _ => ctq_up 1600 hv hwv
      generalize ctq w 1600 = M at hm hq hi hm16 hup
      generalize hτ2 : zsa (zsa τ 28 (nI v) (τ.2 28 u + nI c)) 30 (nI v) (vp_nar .boolean 1) = τ2
      have f57 : τ2.1 57 = nI fr := by rw [← hτ2]; exact hf
      have f58 : τ2.1 58 = nI (M) := by rw [← hτ2]; exact hm
      have a28 : τ2.2 28 = upd (τ.2 28) v (τ.2 28 u + nI c) := by rw [← hτ2, zsa_n (by decide)]; exact e28
      have a29 : τ2.2 29 = τ.2 29 := by rw [← hτ2, zsa_n (by decide), zsa_n (by decide)]
      have a30 : τ2.2 30 = upd (τ.2 30) v 1 := by
        rw [← hτ2, zsa_q (by omega), zsa_n (by decide), show vp_nar .boolean 1 = (1 : Int32) from rfl]
      have hms : ms5 τ τ2 := by rw [← hτ2]; exact ms5_a (ms5_a ms5_rfl (by omega)) (by omega)
      rw [f57, f58, nI_add, show zrem (nI (fr + M)) 1600 = nI ((fr + M) % 1600) from pk_rem (d := 1600) (by omega) (by decide) (by decide), zin_n (by omega) (by decide), zlt_s, zlt_s]
      obtain ⟨ix, hix⟩ : ∃ x, x = (fr + M) % 1600 := ⟨_, rfl⟩
      rw [← hix]
      have hix2 : ix < 1600 := by omega
      generalize hτ3 : zsa τ2 29 (nI (ix)) (nI v) = τ3
      have g57 : τ3.1 57 = nI fr := by rw [← hτ3]; exact f57
      have g58 : τ3.1 58 = nI (M) := by rw [← hτ3]; exact f58
      have b28 : τ3.2 28 = upd (τ.2 28) v (τ.2 28 u + nI c) := by rw [← hτ3, zsa_n (by decide)]; exact a28
      have b29 : τ3.2 29 = upd (τ.2 29) (ix) (nI v) := by
        rw [← hτ3, zsa_q (by omega), a29]
      have b30 : τ3.2 30 = upd (τ.2 30) v 1 := by rw [← hτ3, zsa_n (by decide)]; exact a30
      have hms3 : ms5 τ τ3 := by rw [← hτ3]; exact ms5_a hms (by omega)
      refine ⟨_, uq d v (d u + c), ub w v true, rfl, ⟨?_, ?_, ?_, hf1, ?_, uq q (M) v, ?_, ?_⟩, hrl _ (fun i e => ?_) (if_pos rfl) (hup0 0), ms5_g hms3 (by omega)⟩
      · rw [zg2, b28]; exact hA'
      · intro i hi'
        rw [zg2, b30]
        unfold upd ub
        by_cases e : i = v
        · rw [if_pos e, if_pos e]; rfl
        · rw [if_neg e, if_neg e]; exact hW i hi'
      · rw [zg1]; exact g57
      · rw [zg1, hup 0, g58, nI_1]; rfl
      · intro i hi'
        rw [hup 0] at hi'
        rw [zg2, b29]
        unfold upd uq
        by_cases e : i = M
        · rw [e, if_pos hix.symm, if_pos rfl]
          exact ⟨rfl, hv, if_pos rfl⟩
        · have k := hq i (by omega)
          rw [if_neg (by rw [hix]; exact rix hf1 hm16 (show i < M by omega)), if_neg e]
          refine ⟨k.1, k.2.1, ?_⟩
          unfold ub
          split
          · rfl
          · exact k.2.2
      · intro i j hi' hj' e
        rw [hup 0] at hi' hj'
        unfold uq at e
        by_cases e1 : i = M
        · by_cases e2 : j = M
          · omega
          · rw [if_pos e1, if_neg e2] at e
            have := (hq j (by omega)).2.2
            rw [← e, hwv] at this
            exact absurd this (by decide)
        · by_cases e2 : j = M
          · rw [if_neg e1, if_pos e2] at e
            have := (hq i (by omega)).2.2
            rw [e, hwv] at this
            exact absurd this (by decide)
          · rw [if_neg e1, if_neg e2] at e
            exact hi i j (by omega) (by omega) e
      · unfold ub
        split
        · rfl
        · exact e
theorem CMx_s {τ τ' : zS} {we no : Nat → Nat} (h : ms5 τ τ') (hC : CMx τ we no) : CMx τ' we no := fun τ2 g1 g2 => hC τ2 (g1.trans (h.1 8 (by decide) (by decide))) (fun q hq => (g2 q hq).trans (h.2 q (by omega) (by omega) (by omega)))
def cbd (we no : Nat → Nat) : Prop := ∀ i, i < 1600 → 1 ≤ we i ∧ we i ≤ 595 ∧ 1 ≤ no i ∧ no i ≤ 595
theorem m_s193 {τ : zS} {fr u : Nat} {d : Nat → Nat} {w : Nat → Bool} {we no : Nat → Nat} (k62 : zS → Option (Int32 × zS)) (hC : CMx τ we no) (hB : cbd we no) (h : RGx τ fr d w) (hu : u < 1600) : ∃ (τ' : zS) (d' : Nat → Nat) (w' : Nat → Bool), f_M_spreads_193 k62 (nI u) (nI (u % 40)) (nI (u / 40)) τ = k62 τ' ∧ RGx τ' fr d' w' ∧ RLx we no u (fun x => x + 1 = u) d w d' w' ∧ ms5 τ τ' := by
  unfold f_M_spreads_193 f_M_spreads_213
  by_cases hx : u % 40 = 0
  · rw [hx, if_pos (show nI 0 ≤ 0 by decide)]
    exact ⟨τ, d, w, rfl, h, RLx_no (fun v c he hS => by obtain ⟨_, _, h1⟩ := he; omega), ms5_rfl⟩
  · rw [if_neg (nI_nle (by omega) (by omega)), (hC τ rfl (fun _ _ => rfl) (u % 40) (u / 40) (by omega) (by omega)).1, show 40 * (u / 40) + u % 40 = u by omega, zbd_s]
    have he : edg we no u (u - 1) (we u) := ⟨hu, by omega, Or.inr (Or.inl ⟨by omega, by omega, rfl⟩)⟩
    obtain ⟨τ', d', w', k1, k2, k3, k4⟩ := m_tries h he (hB u hu).2.1 (hB u hu).1
    dsimp only
    rw [nI_s1 (by omega), k1, zbd_s]
    exact ⟨τ', d', w', rfl, k2, RLx_tr k3 (RLx_no (S := fun _ => False) (fun _ _ _ h => h)) (fun v hv => Or.inl (by omega)), k4⟩
theorem m_s167 {τ : zS} {fr u : Nat} {d : Nat → Nat} {w : Nat → Bool} {we no : Nat → Nat} (k62 : zS → Option (Int32 × zS)) (hC : CMx τ we no) (hB : cbd we no) (h : RGx τ fr d w) (hu : u < 1600) : ∃ (τ' : zS) (d' : Nat → Nat) (w' : Nat → Bool), f_M_spreads_167 k62 (nI u) (nI (u % 40)) (nI (u / 40)) τ = k62 τ' ∧ RGx τ' fr d' w' ∧ RLx we no u (fun x => x + 1 = u ∨ x = u + 40) d w d' w' ∧ ms5 τ τ' := by
  unfold f_M_spreads_167
  by_cases hx : u / 40 = 39
  · rw [if_pos (show (39 : Int32) ≤ nI (u / 40) by rw [hx]; decide)]
    obtain ⟨τ', d', w', k1, k2, k3, k4⟩ := m_s193 k62 hC hB h hu
    exact ⟨τ', d', w', k1, k2, RLx_tr (RLx_no (S := fun x => x = u + 40) (fun v c he hS => by obtain ⟨_, _, h1⟩ := he; omega)) k3 (fun v hv => hv.symm), k4⟩
  · rw [if_neg (show ¬ (39 : Int32) ≤ nI (u / 40) from nI_ge (show u / 40 < 39 by omega) (by decide)), nI_1, (hC τ rfl (fun _ _ => rfl) (u % 40) (u / 40 + 1) (by omega) (by omega)).2, show 40 * (u / 40 + 1) + u % 40 = u + 40 by omega, zbd_s]
    have he : edg we no u (u + 40) (no (u + 40)) := ⟨hu, by omega, Or.inr (Or.inr (Or.inl ⟨by omega, rfl⟩))⟩
    obtain ⟨τ1, d1, w1, k1, k2, k3, k4⟩ := m_tries h he (hB (u + 40) (by omega)).2.2.2 (hB (u + 40) (by omega)).2.2.1
    dsimp only
    rw [p40, k1, zbd_s]
    obtain ⟨τ', d', w', q1, q2, q3, q4⟩ := m_s193 k62 (CMx_s k4 hC) hB k2 hu
    exact ⟨τ', d', w', q1, q2, RLx_tr k3 q3 (fun v hv => hv.symm), ms5_tr k4 q4⟩
theorem m_s143 {τ : zS} {fr u : Nat} {d : Nat → Nat} {w : Nat → Bool} {we no : Nat → Nat} (k62 : zS → Option (Int32 × zS)) (hC : CMx τ we no) (hB : cbd we no) (h : RGx τ fr d w) (hu : u < 1600) : ∃ (τ' : zS) (d' : Nat → Nat) (w' : Nat → Bool), f_M_spreads_143 k62 (nI u) (nI (u % 40)) (nI (u / 40)) τ = k62 τ' ∧ RGx τ' fr d' w' ∧ RLx we no u (fun x => x = u + 1 ∨ x + 1 = u ∨ x = u + 40) d w d' w' ∧ ms5 τ τ' := by
  unfold f_M_spreads_143
  by_cases hx : u % 40 = 39
  · rw [if_pos (show (39 : Int32) ≤ nI (u % 40) by rw [hx]; decide)]
    obtain ⟨τ', d', w', k1, k2, k3, k4⟩ := m_s167 k62 hC hB h hu
    exact ⟨τ', d', w', k1, k2, RLx_tr (RLx_no (S := fun x => x = u + 1) (fun v c he hS => by obtain ⟨_, _, h1⟩ := he; omega)) k3 (fun v hv => hv), k4⟩
  · rw [if_neg (show ¬ (39 : Int32) ≤ nI (u % 40) from nI_ge (show u % 40 < 39 by omega) (by decide)), nI_1, (hC τ rfl (fun _ _ => rfl) (u % 40 + 1) (u / 40) (by omega) (by omega)).1, show 40 * (u / 40) + (u % 40 + 1) = u + 1 by omega, zbd_s]
    have he : edg we no u (u + 1) (we (u + 1)) := ⟨hu, by omega, Or.inl ⟨by omega, by omega, rfl⟩⟩
    obtain ⟨τ1, d1, w1, k1, k2, k3, k4⟩ := m_tries h he (hB (u + 1) (by omega)).2.1 (hB (u + 1) (by omega)).1
    dsimp only
    rw [nI_1, k1, zbd_s]
    obtain ⟨τ', d', w', q1, q2, q3, q4⟩ := m_s167 k62 (CMx_s k4 hC) hB k2 hu
    exact ⟨τ', d', w', q1, q2, RLx_tr k3 q3 (fun v hv => hv), ms5_tr k4 q4⟩
