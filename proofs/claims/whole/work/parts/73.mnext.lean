/-! ===== the reference's next (rows on lN are the laws' BITS) ===== -/
theorem wb_tb (n : Nat) : (lN n).toBitVec = BitVec.ofNat 64 n := rfl
theorem wb_inj {a b : Int64} (h : a.toBitVec = b.toBitVec) : a = b := Int64.toBitVec_inj.mp h
theorem wb_c : ∀ k, k < 64 → ((nI k).toInt64 &&& 63) = lN k := by decide +kernel
theorem wb_sm : ∀ k, k < 64 → (BitVec.ofNat 64 k).smod 64 = BitVec.ofNat 64 k := by decide +kernel
theorem wb_shl (n : Nat) {k : Nat} (hk : k < 64) : lN n <<< ((nI k).toInt64 &&& 63) = lN (n * 2 ^ k) := by
  rw [wb_c k hk]
  apply wb_inj
  rw [Int64.toBitVec_shiftLeft, wb_tb, wb_tb, wb_tb, wb_sm k hk]
  apply BitVec.eq_of_toNat_eq
  rw [BitVec.shiftLeft_eq', BitVec.toNat_shiftLeft, BitVec.toNat_ofNat, BitVec.toNat_ofNat, BitVec.toNat_ofNat, Nat.mod_eq_of_lt (show k < 2 ^ 64 by omega), Nat.shiftLeft_eq, Nat.mul_mod, Nat.mod_mod, ← Nat.mul_mod]
theorem u_tn {n : Nat} (h : n < 2 ^ 64) : (UInt64.ofNat n).toNat = n := Nat.mod_eq_of_lt h
theorem g_or {k p a b : Nat} (hp : 2 ^ k = p) (ha : a < p) (h : b * p + a < 2 ^ 64) : lN (b * p) ||| lN a = lN (b * p + a) := by
  subst hp
  have h1 : b * 2 ^ k ||| a = b * 2 ^ k + a := by rw [← Nat.shiftLeft_eq, Nat.shiftLeft_add_eq_or_of_lt ha]
  have h3 : UInt64.ofNat (b * 2 ^ k) ||| UInt64.ofNat a = UInt64.ofNat (b * 2 ^ k + a) := UInt64.toNat_inj.mp (by rw [UInt64.toNat_or, u_tn (by omega), u_tn (by omega), u_tn h, h1])
  have h2 := congrArg UInt64.toInt64 h3
  exact h2
def mtk (q : Nat) : Int32 := if q < 10000 then 1 else if q < 20000 then 2 else if q < 30000 then ([6, 19, 4, 5, 60, 61, 43, 45, 42] : List Int32).getD (q - 20000) 0 else ([0, -1, 3, 3, 40, 41, 59] : List Int32).getD (q - 30000) 0
def mvl (q : Nat) : Nat := if q < 10000 then q else if q < 20000 then q - 10000 else q - 30002
def TMc (τ : zS) (T : Nat → Nat) (n : Nat) : Prop := τ.1 20 = nI n ∧ n ≤ 160 ∧ ∀ i, i < n → T i ≤ 255 ∧ τ.2 14 i = nI (T i)
def mf (τ τ' : zS) : Prop := (∀ k, ¬ (35 ≤ k ∧ k ≤ 38) → τ'.1 k = τ.1 k) ∧ τ'.2 = τ.2
theorem mf_rfl {a : zS} : mf a a := ⟨fun _ _ => rfl, rfl⟩
theorem mf_tr {a b c : zS} (h : mf a b) (g : mf b c) : mf a c := ⟨fun k q => (g.1 k q).trans (h.1 k q), g.2.trans h.2⟩
theorem mf_g {a σ : zS} {k : Nat} {v : Int32} (h : mf a σ) (hk : 35 ≤ k ∧ k ≤ 38) : mf a (zsg σ k v) := mf_tr h ⟨fun j q => zgn (by omega), rfl⟩
theorem TMc_s {τ τ' : zS} {T : Nat → Nat} {n : Nat} (h : mf τ τ') (g : TMc τ T n) : TMc τ' T n := by
  obtain ⟨h1, h2, h3⟩ := g
  exact ⟨by rw [h.1 20 (by omega)]; exact h1, h2, fun i hi => by rw [h.2]; exact h3 i hi⟩
theorem m_inL {c : Nat} (hc : c ≤ 255) (σ : zS) : f_M_in (nI c) 97 122 σ = some (bI (isL c = true), σ) := by
  rw [m_in]
  have : (97 ≤ nI c ∧ nI c ≤ 122) ↔ isL c = true := by
    unfold isL
    rw [decide_eq_true_iff, show (97 : Int32) = nI 97 from rfl, show (122 : Int32) = nI 122 from rfl, nI_leI (by decide) (by omega), nI_leI (by omega) (by decide)]
  by_cases h : isL c = true
  · rw [bI_t h, bI_t (this.mpr h)]
  · rw [bI_f h, bI_f (fun q => h (this.mp q))]
theorem m_inD {c : Nat} (hc : c ≤ 255) (σ : zS) : f_M_in (nI c) 48 57 σ = some (bI (isD c = true), σ) := by
  rw [m_in]
  have : (48 ≤ nI c ∧ nI c ≤ 57) ↔ isD c = true := by
    unfold isD
    rw [decide_eq_true_iff, show (48 : Int32) = nI 48 from rfl, show (57 : Int32) = nI 57 from rfl, nI_leI (by decide) (by omega), nI_leI (by omega) (by decide)]
  by_cases h : isD c = true
  · rw [bI_t h, bI_t (this.mpr h)]
  · rw [bI_f h, bI_f (fun q => h (this.mp q))]
theorem m_skip {T : Nat → Nat} {n : Nat} {τ : zS} (hT : TMc τ T n) : ∀ (r a f : Nat) (τ' : zS), a + r = n → r < f → mf τ τ' → τ'.1 35 = nI a → ∃ τ'', f_M_next_0 f τ' = f_M_next_52 τ'' ∧ mf τ τ'' ∧ τ''.1 35 = nI (lru isB T r a) := by
  intro r
  induction r with
  | zero =>
    intro a f τ' ha hf hx h5
    obtain ⟨f, rfl⟩ : ∃ m, f = m + 1 := ⟨f - 1, by omega⟩
    refine ⟨τ', ?_, hx, h5⟩
    show f_M_next_0b _ _ = _
    unfold f_M_next_0b
    rw [h5, (TMc_s hx hT).1, if_pos (nI_le (by omega) (by have := hT.2.1; omega))]
  | succ r ih =>
    intro a f τ' ha hf hx h5
    obtain ⟨f, rfl⟩ : ∃ m, f = m + 1 := ⟨f - 1, by omega⟩
    obtain ⟨t1, t2, t3⟩ := TMc_s hx hT
    obtain ⟨c1, c2⟩ := t3 a (by omega)
    have e0 : f_M_next_0 (f + 1) τ' = f_M_next_0b (fun σ => f_M_next_0 f σ) τ' := rfl
    rw [e0]
    unfold f_M_next_0b f_M_next_39
    rw [h5, t1, if_neg (nI_ge (by omega) (by omega)), zin_n (by omega) (by decide), nI_clamp (by omega), c2, zin_n (by omega) (by decide), zlt_s, nI_1]
    simp only [show (32 : Int32) = nI 32 from rfl, show (10 : Int32) = nI 10 from rfl, cI c1 32 (by decide), cI c1 10 (by decide)]
    show ∃ σ'' : zS, _ ∧ _ ∧ σ''.1 35 = nI (if isB (T a) = true then lru isB T r (a + 1) else a)
    have hB : isB (T a) = true ↔ (T a = 32 ∨ T a = 10) := by unfold isB; rw [decide_eq_true_iff]
    have hgo := ih (a + 1) f (zsg τ' 35 (nI (a + 1))) (by omega) (by omega) (mf_g hx (by omega)) (zgs _ _ _)
    by_cases h1 : T a = 32
    · rw [if_pos h1, if_pos (hB.mpr (Or.inl h1))]
      exact hgo
    · rw [if_neg h1]
      by_cases h2 : T a = 10
      · rw [if_pos h2, if_pos (hB.mpr (Or.inr h2))]
        exact hgo
      · rw [if_neg h2, if_neg (fun q => by rcases hB.mp q with q | q <;> contradiction)]
        exact ⟨τ', rfl, hx, h5⟩
theorem m_letL {T : Nat → Nat} {n b : Nat} {τ : zS} (hT : TMc τ T n) : ∀ (r e f : Nat) (x : Int64) (τ' : zS), e + r = n → r < f → b ≤ e → mf τ τ' → τ'.1 35 = nI e → (e - b ≤ 7 → x = lN (pkw T b (e - b))) → ∃ (x' : Int64) (τ'' : zS), f_M_letters_4 f x (nI (e - b)) τ' = f_M_letters_76 x' (nI (lru isL T r e - b)) τ'' ∧ mf τ τ'' ∧ (∀ k, k ≠ 35 → τ''.1 k = τ'.1 k) ∧ τ''.1 35 = nI (lru isL T r e) ∧ (lru isL T r e - b ≤ 7 → x' = lN (pkw T b (lru isL T r e - b))) := by
  intro r
  induction r with
  | zero =>
    intro e f x τ' ha hf hbe hx h5 h8
    obtain ⟨f, rfl⟩ : ∃ m, f = m + 1 := ⟨f - 1, by omega⟩
    refine ⟨x, τ', ?_, hx, fun _ _ => rfl, h5, h8⟩
    show f_M_letters_4b _ _ _ _ = _
    unfold f_M_letters_4b
    rw [h5, (TMc_s hx hT).1, if_pos (nI_le (by omega) (by have := hT.2.1; omega))]
    rfl
  | succ r ih =>
    intro e f x τ' ha hf hbe hx h5 h8
    obtain ⟨f, rfl⟩ : ∃ m, f = m + 1 := ⟨f - 1, by omega⟩
    obtain ⟨t1, t2, t3⟩ := TMc_s hx hT
    obtain ⟨c1, c2⟩ := t3 e (by omega)
    have e0 : f_M_letters_4 (f + 1) x (nI (e - b)) τ' = f_M_letters_4b (fun x1 x3 σ => f_M_letters_4 f x1 x3 σ) x (nI (e - b)) τ' := rfl
    rw [e0]
    unfold f_M_letters_4b f_M_letters_59
    rw [h5, t1, if_neg (nI_ge (by omega) (by omega)), zin_n (by omega) (by decide), nI_clamp (by omega), c2, m_inL c1, zbd_s]
    dsimp only
    rw [h5, zin_n (by omega) (by decide), nI_clamp (by omega), c2, zlt_s, zlt_s, nI_1, nI_1]
    show ∃ (x' : Int64) (τ'' : zS), _ = f_M_letters_76 x' (nI ((if isL (T e) = true then lru isL T r (e + 1) else e) - b)) τ'' ∧ _ ∧ _ ∧ τ''.1 35 = nI (if isL (T e) = true then lru isL T r (e + 1) else e) ∧ ((if isL (T e) = true then lru isL T r (e + 1) else e) - b ≤ 7 → x' = lN (pkw T b ((if isL (T e) = true then lru isL T r (e + 1) else e) - b)))
    by_cases h1 : isL (T e) = true
    · rw [bI_t h1, if_neg one0]
      simp only [if_pos h1]
      have hgo : ∀ y : Int64, (e + 1 - b ≤ 7 → y = lN (pkw T b (e + 1 - b))) → ∃ (x' : Int64) (τ'' : zS), f_M_letters_4 f y (nI (e - b + 1)) (zsg τ' 35 (nI (e + 1))) = f_M_letters_76 x' (nI (lru isL T r (e + 1) - b)) τ'' ∧ mf τ τ'' ∧ (∀ k, k ≠ 35 → τ''.1 k = τ'.1 k) ∧ τ''.1 35 = nI (lru isL T r (e + 1)) ∧ (lru isL T r (e + 1) - b ≤ 7 → x' = lN (pkw T b (lru isL T r (e + 1) - b))) := by
        intro y hy
        obtain ⟨x', τ'', q1, q2, q3, q4, q5⟩ := ih (e + 1) f y (zsg τ' 35 (nI (e + 1))) (by omega) (by omega) (by omega) (mf_g hx (by omega)) (zgs _ _ _) hy
        rw [show e + 1 - b = e - b + 1 by omega] at q1
        exact ⟨x', τ'', q1, q2, fun k hk => (q3 k hk).trans (zgn hk), q4, q5⟩
      by_cases h2 : 8 ≤ e - b
      · rw [if_pos (show (8 : Int32) ≤ nI (e - b) from nI_le (a := 8) h2 (by omega))]
        exact hgo x (fun h => absurd h (by omega))
      · rw [if_neg (show ¬ (8 : Int32) ≤ nI (e - b) from nI_ge (b := 8) (by omega) (by decide))]
        refine hgo _ (fun h7 => ?_)
        rw [h8 (by omega), nI_l (by omega)]
        unfold zlshl
        rw [show (8 : Int32) = nI 8 from rfl, wb_shl _ (show 8 < 64 by decide)]
        have hlt : pkw T b (e - b) < 256 ^ 6 := by
          have h9 : pkw T b (e - b) < 256 ^ (e - b) := pkw_lt _ (fun i hi => by have := (t3 (b + i) (by omega)).1; omega)
          have : 256 ^ (e - b) ≤ 256 ^ 6 := Nat.pow_le_pow_right (by decide) (by omega)
          omega
        have := g_or (k := 8) (p := 2 ^ 8) (a := T e) (b := pkw T b (e - b)) rfl (by omega) (by omega)
        rw [this, show e + 1 - b = e - b + 1 by omega]
        show _ = lN (256 * pkw T b (e - b) + T (b + (e - b)))
        rw [show b + (e - b) = e by omega]
        congr 1
        omega
    · rw [bI_f h1, if_pos rfl]
      simp only [if_neg h1]
      exact ⟨x, τ', rfl, hx, fun _ _ => rfl, h5, h8⟩
def fnd (x : Int64) : Nat → Nat → Nat
  | 0, k => k
  | r + 1, k => if zWords k = x then k else fnd x r (k + 1)
theorem m_111 {x : Int64} {τ : zS} : ∀ (r k f : Nat), k + r = 11 → r < f → f_M_next_111 f x (nI k) τ = f_M_next_136 (nI (fnd x r k)) τ := by
  intro r
  induction r with
  | zero =>
    intro k f hk hf
    obtain ⟨f, rfl⟩ : ∃ m, f = m + 1 := ⟨f - 1, by omega⟩
    show f_M_next_111b _ _ _ _ = _
    unfold f_M_next_111b
    rw [if_pos (show (11 : Int32) ≤ nI k from nI_le (a := 11) (by omega) (by omega))]
    rfl
  | succ r ih =>
    intro k f hk hf
    obtain ⟨f, rfl⟩ : ∃ m, f = m + 1 := ⟨f - 1, by omega⟩
    show f_M_next_111b _ _ _ _ = f_M_next_136 (nI (if zWords k = x then k else fnd x r (k + 1))) τ
    unfold f_M_next_111b
    rw [if_neg (show ¬ (11 : Int32) ≤ nI k from nI_ge (b := 11) (by omega) (by decide)), zin_n (by omega) (by decide), nI_clamp (by omega), nI_1]
    dsimp only
    rw [ih (k + 1) f (by omega) (by omega)]
    by_cases h : zWords k = x
    · rw [if_pos h, if_pos h]
    · rw [if_neg h, if_neg h]
theorem fnd_tok {W : Nat} (hW : W < 2 ^ 63) (τ : zS) : ∃ v, f_M_next_136 (nI (fnd (lN W) 11 0)) τ = some (0, zsg (zsg τ 37 (mtk (wcode W))) 38 v) ∧ ((wcode W < 10006 ∨ wcode W = 30002 ∨ wcode W = 30003) → v = nI (mvl (wcode W))) := by
  by_cases q1 : W = 1852137842
  · subst q1; exact ⟨0, rfl, fun _ => rfl⟩
  by_cases q2 : W = 6709618
  · subst q2; exact ⟨1, rfl, fun _ => rfl⟩
  by_cases q3 : W = 28530
  · subst q3; exact ⟨6, rfl, fun h => absurd h (by decide)⟩
  by_cases q4 : W = 6385252
  · subst q4; exact ⟨7, rfl, fun h => absurd h (by decide)⟩
  by_cases q5 : W = 7237492
  · subst q5; exact ⟨8, rfl, fun h => absurd h (by decide)⟩
  by_cases q6 : W = 418497262196
  · subst q6; exact ⟨0, rfl, fun _ => rfl⟩
  by_cases q7 : W = 1936286821
  · subst q7; exact ⟨1, rfl, fun _ => rfl⟩
  by_cases q8 : W = 1752527987
  · subst q8; exact ⟨2, rfl, fun _ => rfl⟩
  by_cases q9 : W = 114827921155443
  · subst q9; exact ⟨3, rfl, fun _ => rfl⟩
  by_cases q10 : W = 1819238758
  · subst q10; exact ⟨4, rfl, fun _ => rfl⟩
  by_cases q11 : W = 32195308547892595
  · subst q11; exact ⟨5, rfl, fun _ => rfl⟩
  have hw : wcode W = 30001 := by
    unfold wcode
    rw [if_neg q1, if_neg q2, if_neg q3, if_neg q4, if_neg q5, if_neg q6, if_neg q7, if_neg q8, if_neg q9, if_neg q10, if_neg q11]
  have hf : fnd (lN W) 11 0 = 11 := by
    have hn : ∀ a : Nat, a < 2 ^ 63 → ¬ W = a → ¬ lN a = lN W := fun a ha h q => h ((pk_lEQ ha hW).mp q).symm
    simp only [fnd]
    rw [show zWords 0 = lN 1852137842 from rfl, show zWords (0 + 1) = lN 6709618 from rfl, show zWords (0 + 1 + 1) = lN 418497262196 from rfl, show zWords (0 + 1 + 1 + 1) = lN 1936286821 from rfl, show zWords (0 + 1 + 1 + 1 + 1) = lN 1752527987 from rfl, show zWords (0 + 1 + 1 + 1 + 1 + 1) = lN 114827921155443 from rfl, show zWords (0 + 1 + 1 + 1 + 1 + 1 + 1) = lN 1819238758 from rfl, show zWords (0 + 1 + 1 + 1 + 1 + 1 + 1 + 1) = lN 32195308547892595 from rfl, show zWords (0 + 1 + 1 + 1 + 1 + 1 + 1 + 1 + 1) = lN 28530 from rfl, show zWords (0 + 1 + 1 + 1 + 1 + 1 + 1 + 1 + 1 + 1) = lN 6385252 from rfl, show zWords (0 + 1 + 1 + 1 + 1 + 1 + 1 + 1 + 1 + 1 + 1) = lN 7237492 from rfl, if_neg (hn _ (by decide) q1), if_neg (hn _ (by decide) q2), if_neg (hn _ (by decide) q6), if_neg (hn _ (by decide) q7), if_neg (hn _ (by decide) q8), if_neg (hn _ (by decide) q9), if_neg (hn _ (by decide) q10), if_neg (hn _ (by decide) q11), if_neg (hn _ (by decide) q3), if_neg (hn _ (by decide) q4), if_neg (hn _ (by decide) q5)]
  rw [hf, hw]
  exact ⟨9, rfl, fun h => absurd h (by decide)⟩
theorem m_numL {T : Nat → Nat} {n b : Nat} {τ : zS} (hT : TMc τ T n) : ∀ (r e f : Nat) (τ' : zS), e + r = n → r < f → b ≤ e → mf τ τ' → τ'.1 35 = nI e → (e - b ≤ 4 → τ'.1 38 = nI (nmv T b (e - b))) → ∃ τ'', f_M_next_214 f (nI (e - b)) τ' = f_M_next_293 (nI (lru isD T r e - b)) τ'' ∧ mf τ τ'' ∧ τ''.1 36 = τ'.1 36 ∧ τ''.1 35 = nI (lru isD T r e) ∧ (lru isD T r e - b ≤ 4 → τ''.1 38 = nI (nmv T b (lru isD T r e - b))) := by
  intro r
  induction r with
  | zero =>
    intro e f τ' ha hf hbe hx h5 h8
    obtain ⟨f, rfl⟩ : ∃ m, f = m + 1 := ⟨f - 1, by omega⟩
    refine ⟨τ', ?_, hx, rfl, h5, h8⟩
    show f_M_next_214b _ _ _ = _
    unfold f_M_next_214b
    rw [h5, (TMc_s hx hT).1, if_pos (nI_le (by omega) (by have := hT.2.1; omega))]
    rfl
  | succ r ih =>
    intro e f τ' ha hf hbe hx h5 h8
    obtain ⟨f, rfl⟩ : ∃ m, f = m + 1 := ⟨f - 1, by omega⟩
    obtain ⟨t1, t2, t3⟩ := TMc_s hx hT
    obtain ⟨c1, c2⟩ := t3 e (by omega)
    have e0 : f_M_next_214 (f + 1) (nI (e - b)) τ' = f_M_next_214b (fun x2 σ => f_M_next_214 f x2 σ) (nI (e - b)) τ' := rfl
    rw [e0]
    unfold f_M_next_214b f_M_next_274
    rw [h5, t1, if_neg (nI_ge (by omega) (by omega)), zin_n (by omega) (by decide), nI_clamp (by omega), c2, m_inD c1, zbd_s]
    dsimp only
    rw [h5, zin_n (by omega) (by decide), nI_clamp (by omega), c2, zlt_s, zlt_s, zlt_s, zlt_s, zgn (show 35 ≠ 38 by decide), zgn (show 35 ≠ 38 by decide), h5, nI_1, nI_1]
    show ∃ τ'' : zS, _ = f_M_next_293 (nI ((if isD (T e) = true then lru isD T r (e + 1) else e) - b)) τ'' ∧ _ ∧ _ ∧ τ''.1 35 = nI (if isD (T e) = true then lru isD T r (e + 1) else e) ∧ ((if isD (T e) = true then lru isD T r (e + 1) else e) - b ≤ 4 → τ''.1 38 = nI (nmv T b ((if isD (T e) = true then lru isD T r (e + 1) else e) - b)))
    by_cases h1 : isD (T e) = true
    · rw [bI_t h1, if_neg one0]
      simp only [if_pos h1]
      have hgo : ∀ y : Int32, (e + 1 - b ≤ 4 → y = nI (nmv T b (e + 1 - b))) → ∃ τ'' : zS, f_M_next_214 f (nI (e - b + 1)) (zsg (zsg τ' 38 y) 35 (nI (e + 1))) = f_M_next_293 (nI (lru isD T r (e + 1) - b)) τ'' ∧ mf τ τ'' ∧ τ''.1 36 = τ'.1 36 ∧ τ''.1 35 = nI (lru isD T r (e + 1)) ∧ (lru isD T r (e + 1) - b ≤ 4 → τ''.1 38 = nI (nmv T b (lru isD T r (e + 1) - b))) := by
        intro y hy
        obtain ⟨τ'', q1, q2, q3, q4, q5⟩ := ih (e + 1) f (zsg (zsg τ' 38 y) 35 (nI (e + 1))) (by omega) (by omega) (by omega) (mf_g (mf_g hx (by omega)) (by omega)) (zgs _ _ _) (fun h => by rw [zgn (by decide), zgs]; exact hy h)
        rw [show e + 1 - b = e - b + 1 by omega] at q1
        exact ⟨τ'', q1, q2, q3.trans ((zgn (by decide)).trans (zgn (by decide))), q4, q5⟩
      by_cases h2 : 4 ≤ e - b
      · rw [if_pos (show (4 : Int32) ≤ nI (e - b) from nI_le (a := 4) h2 (by omega))]
        exact hgo 0 (fun h => absurd h (by omega))
      · rw [if_neg (show ¬ (4 : Int32) ≤ nI (e - b) from nI_ge (b := 4) (by omega) (by decide))]
        refine hgo _ (fun h7 => ?_)
        rw [h8 (by omega), show e + 1 - b = e - b + 1 by omega]
        have hd : 48 ≤ T e ∧ T e ≤ 57 := by
          unfold isD at h1
          rw [decide_eq_true_iff] at h1
          exact h1
        show _ = nI (10 * nmv T b (e - b) + (T (b + (e - b)) - 48))
        rw [show b + (e - b) = e by omega, show (10 : Int32) = nI 10 from rfl, nI_mul, nI_add, show (48 : Int32) = nI 48 from rfl, nI_sub (by omega)]
        congr 1
        omega
    · rw [bI_f h1, if_pos rfl]
      simp only [if_neg h1]
      exact ⟨τ', rfl, hx, rfl, h5, h8⟩
