/-! ===== back, ravine, houses ===== -/
theorem m_back56 {τ : zS} {n : Nat} (hn : τ.1 27 = nI n) (hn8 : n ≤ 8) : ∀ (r k f : Nat) (g : Nat → Int32), k + r = n → r < f → ∃ g', f_M_back_56 f (nI k) (wv τ 11 g) = some (τ.1 0, wv τ 11 g') ∧ ∀ j, g' j = if k ≤ j ∧ j < n then τ.2 18 j else g j := by
  intro r
  induction r with
  | zero =>
    intro k f g hk hf
    obtain ⟨f, rfl⟩ : ∃ m, f = m + 1 := ⟨f - 1, by omega⟩
    refine ⟨g, ?_, fun j => by rw [if_neg (by omega)]⟩
    show f_M_back_56b _ _ _ = _
    unfold f_M_back_56b
    rw [wv_1, hn, if_pos (nI_le (by omega) (by omega))]
  | succ r ih =>
    intro k f g hk hf
    obtain ⟨f, rfl⟩ : ∃ m, f = m + 1 := ⟨f - 1, by omega⟩
    obtain ⟨g', h1, h2⟩ := ih (k + 1) f (upd g k (τ.2 18 k)) (by omega) (by omega)
    refine ⟨g', ?_, fun j => ?_⟩
    · show f_M_back_56b _ _ _ = _
      unfold f_M_back_56b
      rw [wv_1, hn, if_neg (nI_ge (by omega) (by omega)), zin_n (by omega) (by decide), zin_n (by omega) (by decide), zlt_s, nI_clamp (by omega), zsa_wv _ _ _ _ (by omega), nI_1, wv_ne τ g (by decide)]
      exact h1
    · rw [h2 j]
      unfold upd
      by_cases hj : j = k
      · subst hj
        rw [if_neg (by omega), if_pos rfl, if_pos (by omega)]
      · rw [if_neg hj]
        by_cases h3 : k + 1 ≤ j ∧ j < n
        · rw [if_pos h3, if_pos (by omega)]
        · rw [if_neg h3, if_neg (by omega)]
theorem m_back28 {τ : zS} {n : Nat} (hn : τ.1 26 = nI n) (hn8 : n ≤ 20) : ∀ (r k f : Nat) (g : Nat → Int32), k + r = n → r < f → ∃ g', f_M_back_28 f (nI k) (wv τ 2 g) = f_M_back_56 zfu 0 (wv τ 2 g') ∧ ∀ j, g' j = if k ≤ j ∧ j < n then τ.2 17 j else g j := by
  intro r
  induction r with
  | zero =>
    intro k f g hk hf
    obtain ⟨f, rfl⟩ : ∃ m, f = m + 1 := ⟨f - 1, by omega⟩
    refine ⟨g, ?_, fun j => by rw [if_neg (by omega)]⟩
    show f_M_back_28b _ _ _ = _
    unfold f_M_back_28b
    rw [wv_1, hn, if_pos (nI_le (by omega) (by omega))]
  | succ r ih =>
    intro k f g hk hf
    obtain ⟨f, rfl⟩ : ∃ m, f = m + 1 := ⟨f - 1, by omega⟩
    obtain ⟨g', h1, h2⟩ := ih (k + 1) f (upd g k (τ.2 17 k)) (by omega) (by omega)
    refine ⟨g', ?_, fun j => ?_⟩
    · show f_M_back_28b _ _ _ = _
      unfold f_M_back_28b
      rw [wv_1, hn, if_neg (nI_ge (by omega) (by omega)), zin_n (by omega) (by decide), zin_n (by omega) (by decide), zlt_s, nI_clamp (by omega), zsa_wv _ _ _ _ (by omega), nI_1, wv_ne τ g (by decide)]
      exact h1
    · rw [h2 j]
      unfold upd
      by_cases hj : j = k
      · subst hj
        rw [if_neg (by omega), if_pos rfl, if_pos (by omega)]
      · rw [if_neg hj]
        by_cases h3 : k + 1 ≤ j ∧ j < n
        · rw [if_pos h3, if_pos (by omega)]
        · rw [if_neg h3, if_neg (by omega)]
theorem zcp_n {β : Type} {n N M : Nat} {x : Option β} (hN : n ≤ N) (hM : n ≤ M) (h : n < 2 ^ 31) : zcp 0 0 (nI n) N M x = x := by
  unfold zcp
  rw [if_neg]
  rintro (q | q | q | q | q)
  · exact absurd q (by decide)
  · exact absurd q (by decide)
  · exact nI_pos h q
  · rw [nI_clamp h, show (0 : Int32).toNatClampNeg = 0 from rfl] at q; omega
  · rw [nI_clamp h, show (0 : Int32).toNatClampNeg = 0 from rfl] at q; omega
theorem sim_back : @zSim Unit R (fun a => f_X_back) (fun a => f_M_back) := by
  intro _ σ τ hR
  obtain ⟨⟨c, e, ln, m, n, nr, pl, hu, hW, hLX, hLM, ⟨x1, x2, x3, x4⟩, ⟨m1, m2, m3, m4, m5⟩, hJ⟩, r2, r3, r4, ⟨b1, b2, b3, b4, b5, b6⟩, r6, r7, r8, r9, r10⟩ := id hR
  obtain ⟨c1, c2, c3, c4, c5, c6, c7, c8, c9, c10, ⟨ih, hih, c11⟩, c12, ⟨ip, hip, c13⟩, c14, c15, c16, c17⟩ := id r9
  obtain ⟨-, -, T, r, t1, t2, t3, -⟩ := id r8
  dsimp only
  unfold f_X_back f_M_back
  rw [c1]
  by_cases h1 : τ.1 25 = 0
  · rw [if_pos h1, if_pos h1]
    exact ⟨_, _, _, rfl, rfl, hR⟩
  · rw [if_neg h1, if_neg h1]
    have c16' : 0 ≤ τ.1 29 ∧ τ.1 29 < nI T := ⟨c16, by rw [← t3]; exact c17⟩
    obtain ⟨t, ht, et⟩ := (kn_iff (by omega)).mp c16'
    let τ1 := zsg (zsg τ 7 (τ.1 28)) 24 (τ.1 29)
    obtain ⟨g, h2, h3⟩ := m_back28 (τ := τ1) (n := ih) c11 hih ih 0 zfu (τ1.2 2) (by omega) (by unfold zfu; omega)
    let τ2 := wv τ1 2 g
    obtain ⟨g', h4, h5⟩ := m_back56 (τ := τ2) (n := ip) c13 hip ip 0 zfu (τ2.2 11) (by omega) (by unfold zfu; omega)
    rw [wv_self, show nI 0 = (0 : Int32) from rfl] at h2 h4
    have eM : (zlt (zsg τ 7 (τ.1 28)) fun σ1 => zlt (zsg σ1 24 (σ1.1 29)) fun σ2 => f_M_back_28 zfu 0 σ2) = some (τ.1 0, wv τ2 11 g') := h2.trans h4
    rw [eM]
    let σ1 := zsg (zsc (zsc σ 28 18 0 0 (nI ih)) 29 26 0 0 (nI ip)) 15 (σ.1 705)
    have eih : σ.1 703 = nI ih := by rw [c2, c11]
    have eip : σ.1 704 = nI ip := by rw [c3, c13]
    have hH : RH σ1 (wv τ2 11 g') := by
      refine ⟨n, nr, pl, fun i => if i < ih then (τ.2 17 i).toNatClampNeg else hu i, ⟨x1, x2, x3, fun i hi => ?_⟩, ⟨m1, m2, m3, m4, fun i hi => ?_⟩⟩
      · show pl i < 1600 ∧ (if i < ih then (τ.2 17 i).toNatClampNeg else hu i) ≤ 1 ∧ σ.2 17 i = nI (pl i) ∧ va_cpy (σ.2 28) (σ.2 18) 0 0 (nI ih).toNatClampNeg i = nI (if i < ih then (τ.2 17 i).toNatClampNeg else hu i)
        obtain ⟨q1, q2, q3, q4⟩ := x4 i hi
        obtain ⟨v, hv, ev⟩ := c9 i hi
        rw [nI_clamp (by omega)]
        by_cases hi2 : i < ih
        · simp only [if_pos hi2]
          rw [pk_cpy_in (Nat.zero_le _) (by omega), Nat.zero_add, Nat.sub_zero, c7 i hi, ev, nI_clamp (by omega)]
          exact ⟨q1, hv, q3, rfl⟩
        · simp only [if_neg hi2]
          rw [pk_cpy_out (by omega)]
          exact ⟨q1, q2, q3, q4⟩
      · show pl i < 1600 ∧ (if i < ih then (τ.2 17 i).toNatClampNeg else hu i) ≤ 1 ∧ τ.2 1 i = nI (pl i) ∧ g i = nI (if i < ih then (τ.2 17 i).toNatClampNeg else hu i)
        obtain ⟨q1, q2, q3, q4⟩ := m5 i hi
        obtain ⟨v, hv, ev⟩ := c9 i hi
        rw [h3 i]
        by_cases hi2 : i < ih
        · simp only [if_pos hi2, if_pos (show 0 ≤ i ∧ i < ih from ⟨Nat.zero_le _, hi2⟩)]
          show _ ∧ _ ∧ _ ∧ τ.2 17 i = _
          rw [ev, nI_clamp (by omega)]
          exact ⟨q1, hv, q3, rfl⟩
        · simp only [if_neg hi2, if_neg (show ¬ (0 ≤ i ∧ i < ih) from fun q => hi2 q.2)]
          exact ⟨q1, q2, q3, q4⟩
    have h5' : R5 σ1 (wv τ2 11 g') := by
      show G5 (σ.1 602) (va_cpy (σ.2 29) (σ.2 26) 0 0 (nI ip).toNatClampNeg) (σ.2 27) (τ.1 14) g' (τ.2 12) (τ.1 3)
      refine ⟨b1, b2, fun i hi => ?_, b4, fun i hi => ?_, b6⟩
      · rw [nI_clamp (by omega), h5 i]
        by_cases hi2 : i < ip
        · rw [if_pos ⟨Nat.zero_le _, hi2⟩, pk_cpy_in (Nat.zero_le _) (by omega), Nat.zero_add, Nat.sub_zero]
          exact c8 i hi
        · rw [if_neg (fun q => hi2 q.2), pk_cpy_out (by omega)]
          exact b3 i hi
      · rw [h5 i]
        by_cases hi2 : i < ip
        · rw [if_pos ⟨Nat.zero_le _, hi2⟩]
          exact c10 i hi
        · rw [if_neg (fun q => hi2 q.2)]
          exact b5 i hi
    obtain ⟨σ', g1, g2, g3⟩ := enf_R (σ := σ1) (τ := wv τ2 11 g') (τ0 := τ) (t := t) et (by rw [← et]; exact c17) (by omega) r8 rfl rfl rfl hH r2 ⟨c4, c15⟩ r4 h5' r6 r7 r9 r10
    rw [eih, zcp_n hih hih (by omega), zlt_s]
    have eip' : (zsc σ 28 18 0 0 (nI ih)).1 704 = nI ip := eip
    rw [eip', zcp_n hip hip (by omega), zlt_s, zlt_s]
    have e6 : (zsg (zsc (zsc σ 28 18 0 0 (nI ih)) 29 26 0 0 (nI ip)) 15 ((zsc (zsc σ 28 18 0 0 (nI ih)) 29 26 0 0 (nI ip)).1 705)) = σ1 := rfl
    have e7 : σ1.1 706 = nI t := by show σ.1 706 = _; rw [c5, et]
    rw [e6, e7, g1, zbd_s]
    refine ⟨_, σ', _, rfl, ?_, g3⟩
    show some (τ.1 0, _) = some (σ'.1 307, _)
    rw [g2, show σ1.1 307 = σ.1 307 from rfl, x2, m2]
theorem cst_upd {way att fr to wi way' att' fr' to' wi' : Nat → Int32} {w a b : Int32} : ∀ n, (∀ i, i < n → way i = way' i ∧ att i = att' i ∧ fr i = fr' i ∧ to i = to' i ∧ wi i = wi' i) → cst way att fr to wi w a b n = cst way' att' fr' to' wi' w a b n
  | 0, _ => rfl
  | n + 1, h => by
    obtain ⟨h1, h2, h3, h4, h5⟩ := h n (by omega)
    unfold cst
    rw [cst_upd n (fun i hi => h i (by omega)), h1, h2, h3, h4, h5]
theorem la_split0 {σ : zS} {a t : Nat} {w : Int32} (ha : a < 40) (ht : t < 40) : ∀ (r k f : Nat) (g : Nat → Int32), k + r = t + 1 → r < f → ∃ g', f_La_split_3 f 0 (nI a) (nI t) w (nI k) (wv σ 21 g) = some (0, wv σ 21 g') ∧ ∀ x y, x < 40 → g' (40 * y + x) = g (40 * y + x) + (if x = a ∧ k ≤ y ∧ y ≤ t then w else 0) := by
  intro r
  induction r with
  | zero =>
    intro k f g hk hf
    obtain ⟨f, rfl⟩ : ∃ m, f = m + 1 := ⟨f - 1, by omega⟩
    refine ⟨g, ?_, fun x y hx => by rw [if_neg (by omega), Int32.add_zero]⟩
    show f_La_split_3b _ _ _ _ _ _ _ = _
    unfold f_La_split_3b
    rw [if_pos (nI_lt (by omega) (by omega))]
  | succ r ih =>
    intro k f g hk hf
    obtain ⟨f, rfl⟩ : ∃ m, f = m + 1 := ⟨f - 1, by omega⟩
    obtain ⟨g', h1, h2⟩ := ih (k + 1) f (upd g (k * 40 + a) (g (k * 40 + a) + w)) (by omega) (by omega)
    refine ⟨g', ?_, fun x y hx => ?_⟩
    · show f_La_split_3b _ _ _ _ _ _ _ = _
      unfold f_La_split_3b f_La_split_51
      rw [if_neg (nI_nlt (by omega) (by omega)), if_pos rfl, show nI k * 40 + nI a = nI (k * 40 + a) from by rw [← nI_add, ← nI_mul]; rfl, zin_n (by omega) (by decide), zin_n (by omega) (by decide), zlt_s, nI_clamp (by omega), wv_q, zsa_wv _ _ _ _ (by omega), nI_1]
      exact h1
    · rw [h2 x y hx]
      unfold upd
      by_cases hj : 40 * y + x = k * 40 + a
      · have hxy : x = a ∧ y = k := by omega
        rw [if_pos hj, if_neg (by omega), Int32.add_zero, if_pos (by omega), hj]
      · rw [if_neg hj]
        by_cases h3 : x = a ∧ k + 1 ≤ y ∧ y ≤ t
        · rw [if_pos h3, if_pos (by omega)]
        · rw [if_neg h3, if_neg (by omega)]
theorem la_split1 {σ : zS} {a t : Nat} {w : Int32} (ha : a < 40) (ht : t < 40) : ∀ (r k f : Nat) (g : Nat → Int32), k + r = t + 1 → r < f → ∃ g', f_La_split_3 f 1 (nI a) (nI t) w (nI k) (wv σ 22 g) = some (0, wv σ 22 g') ∧ ∀ x y, x < 40 → g' (40 * y + x) = g (40 * y + x) + (if y = a ∧ k ≤ x ∧ x ≤ t then w else 0) := by
  intro r
  induction r with
  | zero =>
    intro k f g hk hf
    obtain ⟨f, rfl⟩ : ∃ m, f = m + 1 := ⟨f - 1, by omega⟩
    refine ⟨g, ?_, fun x y hx => by rw [if_neg (by omega), Int32.add_zero]⟩
    show f_La_split_3b _ _ _ _ _ _ _ = _
    unfold f_La_split_3b
    rw [if_pos (nI_lt (by omega) (by omega))]
  | succ r ih =>
    intro k f g hk hf
    obtain ⟨f, rfl⟩ : ∃ m, f = m + 1 := ⟨f - 1, by omega⟩
    obtain ⟨g', h1, h2⟩ := ih (k + 1) f (upd g (a * 40 + k) (g (a * 40 + k) + w)) (by omega) (by omega)
    refine ⟨g', ?_, fun x y hx => ?_⟩
    · show f_La_split_3b _ _ _ _ _ _ _ = _
      unfold f_La_split_3b f_La_split_51
      rw [if_neg (nI_nlt (by omega) (by omega)), if_neg one0, show nI a * 40 + nI k = nI (a * 40 + k) from by rw [← nI_add, ← nI_mul]; rfl, zin_n (by omega) (by decide), zin_n (by omega) (by decide), zlt_s, nI_clamp (by omega), wv_q, zsa_wv _ _ _ _ (by omega), nI_1]
      exact h1
    · rw [h2 x y hx]
      unfold upd
      by_cases hj : 40 * y + x = a * 40 + k
      · have hxy : x = k ∧ y = a := by omega
        rw [if_pos hj, if_neg (by omega), Int32.add_zero, if_pos (by omega), hj]
      · rw [if_neg hj]
        by_cases h3 : y = a ∧ k + 1 ≤ x ∧ x ≤ t
        · rw [if_pos h3, if_pos (by omega)]
        · rw [if_neg h3, if_neg (by omega)]
theorem cst_S {way att fr to wi : Nat → Int32} {w a b p1 p2 p3 p4 p5 : Int32} {n : Nat} : cst (upd way n p1) (upd att n p2) (upd fr n p3) (upd to n p4) (upd wi n p5) w a b (n + 1) = cst way att fr to wi w a b n + (if p1 = w ∧ p2 = a ∧ p3 ≤ b ∧ b ≤ p4 then p5 else 0) := by
  show cst _ _ _ _ _ _ _ _ n + _ = _
  rw [cst_upd n (way' := way) (att' := att) (fr' := fr) (to' := to) (wi' := wi) (fun i hi => by simp only [upd, if_neg (show ¬ i = n by omega)]; exact ⟨trivial, trivial, trivial, trivial, trivial⟩)]
  simp only [upd, if_true]
theorem x_ravine_no {a b c d e : Int32} {σ : zS} (h : ¬ ((0 ≤ a ∧ a ≤ 1) ∧ (1 ≤ b ∧ b ≤ 39) ∧ (0 ≤ c ∧ c ≤ 39) ∧ (c ≤ d ∧ d ≤ 39) ∧ (1 ≤ e ∧ e ≤ 99))) : f_X_ravine a b c d e σ = some (-2, σ) ∧ f_M_ravine a b c d e σ = some (-2, σ) := by
  unfold f_X_ravine f_X_ravine_21 f_X_ravine_22 f_X_ravine_49 f_X_ravine_50 f_M_ravine
  simp only [x_isBit, x_isFrom, m_in, zbd_s]
  by_cases h1 : 0 ≤ a ∧ a ≤ 1
  · by_cases h2 : 1 ≤ b ∧ b ≤ 39
    · by_cases h3 : 0 ≤ c ∧ c ≤ 39
      · by_cases h4 : c ≤ d ∧ d ≤ 39
        · by_cases h5 : 1 ≤ e ∧ e ≤ 99
          · exact absurd ⟨h1, h2, h3, h4, h5⟩ h
          · simp only [bI_t h1, bI_t h2, bI_t h3, bI_t h4, bI_f h5, if_neg one0, if_true]; exact ⟨trivial, trivial⟩
        · simp only [bI_t h1, bI_t h2, bI_t h3, bI_f h4, if_neg one0, if_true]; exact ⟨trivial, trivial⟩
      · simp only [bI_t h1, bI_t h2, bI_f h3, if_neg one0, if_true]; exact ⟨trivial, trivial⟩
    · simp only [bI_t h1, bI_f h2, if_neg one0, if_true]
      constructor
      · by_cases h3 : 0 ≤ c ∧ c ≤ 39
        · by_cases h4 : c ≤ d ∧ d ≤ 39
          · simp only [bI_t h3, bI_t h4, if_neg one0]
          · simp only [bI_t h3, bI_f h4, if_neg one0, if_true]
        · simp only [bI_f h3, if_true]
      · trivial
  · simp only [bI_f h1, if_true]
    constructor
    · by_cases h3 : 0 ≤ c ∧ c ≤ 39
      · by_cases h4 : c ≤ d ∧ d ≤ 39
        · simp only [bI_t h3, bI_t h4, if_neg one0]
        · simp only [bI_t h3, bI_f h4, if_neg one0, if_true]
      · simp only [bI_f h3, if_true]
    · trivial
theorem and4 {p q r s : Prop} {p' q' : Prop} [Decidable (p ∧ q ∧ r ∧ s)] [Decidable (p' ∧ q')] (h : (p ∧ q ∧ r ∧ s) ↔ (p' ∧ q')) (x : Int32) : (if p ∧ q ∧ r ∧ s then x else 0) = (if p' ∧ q' then x else 0) := by
  by_cases c : p' ∧ q'
  · rw [if_pos c, if_pos (h.mpr c)]
  · rw [if_neg c, if_neg (fun d => c (h.mp d))]
theorem sim_ravine : @zSim (Int32 × Int32 × Int32 × Int32 × Int32) R (fun a => f_X_ravine a.1 a.2.1 a.2.2.1 a.2.2.2.1 a.2.2.2.2) (fun a => f_M_ravine a.1 a.2.1 a.2.2.1 a.2.2.2.1 a.2.2.2.2) := by
  intro ⟨v, x, y, z, w⟩ σ τ hR
  dsimp only
  by_cases hall : (0 ≤ v ∧ v ≤ 1) ∧ (1 ≤ x ∧ x ≤ 39) ∧ (0 ≤ y ∧ y ≤ 39) ∧ (y ≤ z ∧ z ≤ 39) ∧ (1 ≤ w ∧ w ≤ 99)
  · obtain ⟨h1, h2, h3, h4, h5⟩ := hall
    unfold f_X_ravine f_X_ravine_21 f_X_ravine_22 f_X_ravine_49 f_X_ravine_50 f_M_ravine
    simp only [x_isBit, x_isFrom, m_in, zbd_s, bI_t h1, bI_t h2, bI_t h3, bI_t h4, bI_t h5, if_neg one0]
    obtain ⟨⟨c, e, ln, m, n, nr, pl, hu, hW, hLX, hLM, ⟨x1, x2, x3, x4⟩, ⟨m1, m2, m3, m4, m5⟩, hJ⟩, r2, r3, ⟨d1, n', hn', d2, d3, d4⟩, r5, r6, r7, r8, r9, r10⟩ := id hR
    have hnn : n' = nr := by rw [d2] at m3; exact (nI_eq (by omega) (by omega)).mp m3
    subst hnn
    by_cases hn6 : n' = 6
    · have e1 : ¬ σ.1 308 < 6 := by rw [x3, hn6]; decide
      have e2 : τ.1 8 = 6 := by rw [d2, hn6]; rfl
      rw [if_neg e1, if_pos e2]
      exact ⟨_, σ, τ, rfl, rfl, hR⟩
    · have e1 : σ.1 308 < 6 := by rw [x3]; exact nI_lt (show n' < 6 by omega) (by decide)
      have e2 : ¬ τ.1 8 = 6 := by rw [d2]; exact fun q => hn6 ((nI_eq (by omega) (by decide)).mp q)
      rw [if_pos e1, if_neg e2]
      obtain ⟨fr, hfr, rfl⟩ := bd_of (N := 39) (by decide) h3
      obtain ⟨to, hto, rfl⟩ := bd_of (x := z) (N := 39) (by decide) ⟨Int32.le_trans h3.1 h4.1, h4.2⟩
      obtain ⟨at', hat, rfl⟩ := bd_of (x := x) (N := 39) (by decide) ⟨Int32.le_trans (show (0 : Int32) ≤ 1 by decide) h2.1, h2.2⟩
      obtain ⟨wd, hwd, rfl⟩ := bd_of (x := w) (N := 99) (by decide) ⟨Int32.le_trans (show (0 : Int32) ≤ 1 by decide) h5.1, h5.2⟩
      have hft : fr ≤ to := (nI_leI (by omega) (by omega)).mp h4.1
      have hat1 : 1 ≤ at' := (nI_leI (a := 1) (by omega) (by omega)).mp h2.1
      have hwd1 : 1 ≤ wd := (nI_leI (a := 1) (by omega) (by omega)).mp h5.1
      have hv : v = 0 ∨ v = 1 := by
        obtain ⟨k, hk, rfl⟩ := bd_of (N := 1) (by decide) h1
        have : k = 0 ∨ k = 1 := by omega
        rcases this with rfl | rfl
        · exact Or.inl rfl
        · exact Or.inr rfl
      let τ1 := zsg (zsa (zsa (zsa (zsa (zsa τ 6 (nI n') v) 7 (nI n') (nI at')) 8 (nI n') (nI fr)) 9 (nI n') (nI to)) 10 (nI n') (nI wd)) 8 (nI (n' + 1))
      have hn31 : (nI n').toNatClampNeg = n' := nI_clamp (by omega)
      have eM : (zin (τ.1 8) 6 (zlt (zsa τ 6 (τ.1 8) v) fun σ11 => zin (σ11.1 8) 6 (zlt (zsa σ11 7 (σ11.1 8) (nI at')) fun σ12 => zin (σ12.1 8) 6 (zlt (zsa σ12 8 (σ12.1 8) (nI fr)) fun σ13 => zin (σ13.1 8) 6 (zlt (zsa σ13 9 (σ13.1 8) (nI to)) fun σ14 => zin (σ14.1 8) 6 (zlt (zsa σ14 10 (σ14.1 8) (nI wd)) fun σ15 => zlt (zsg σ15 8 ((σ15.1 8) + 1)) fun σ16 => some (σ16.1 8, σ16))))))) = some (nI (n' + 1), τ1) := by
        simp only [zlt_s, za1, zg1, d2, zin_n (show n' < 6 by omega) (show 6 < 2 ^ 31 by decide), nI_1]
        rfl
      rw [eM]
      have hsp : ∃ w' n'' : Nat → Int32, f_La_split v (nI at') (nI fr) (nI to) (nI wd) σ = some (0, wv (wv σ 21 w') 22 n'') ∧ ∀ x y, x < 40 → y < 40 → (w' (40 * y + x) = σ.2 21 (40 * y + x) + (if v = 0 ∧ nI at' = nI x ∧ nI fr ≤ nI y ∧ nI y ≤ nI to then nI wd else 0)) ∧ (n'' (40 * y + x) = σ.2 22 (40 * y + x) + (if v = 1 ∧ nI at' = nI y ∧ nI fr ≤ nI x ∧ nI x ≤ nI to then nI wd else 0)) := by
        unfold f_La_split
        rcases hv with rfl | rfl
        · obtain ⟨g', k1, k2⟩ := la_split0 (σ := σ) (a := at') (t := to) (w := nI wd) (by omega) (by omega) (to + 1 - fr) fr zfu (σ.2 21) (by omega) (by unfold zfu; omega)
          rw [wv_self] at k1
          refine ⟨g', σ.2 22, ?_, fun x y hx hy => ⟨?_, ?_⟩⟩
          · rw [k1]
            have : wv (wv σ 21 g') 22 (σ.2 22) = wv σ 21 g' := wv_self (wv σ 21 g') 22
            rw [this]
          · rw [k2 x y hx]
            congr 1
            by_cases q : x = at' ∧ fr ≤ y ∧ y ≤ to
            · rw [if_pos q, if_pos ⟨rfl, by rw [q.1], nI_le q.2.1 (by omega), nI_le q.2.2 (by omega)⟩]
            · rw [if_neg q, if_neg (fun p => q ⟨((nI_eq (by omega) (by omega)).mp p.2.1).symm, (nI_leI (by omega) (by omega)).mp p.2.2.1, (nI_leI (by omega) (by omega)).mp p.2.2.2⟩)]
          · rw [if_neg (fun p => absurd p.1 (by decide)), Int32.add_zero]
        · obtain ⟨g', k1, k2⟩ := la_split1 (σ := σ) (a := at') (t := to) (w := nI wd) (by omega) (by omega) (to + 1 - fr) fr zfu (σ.2 22) (by omega) (by unfold zfu; omega)
          rw [wv_self] at k1
          refine ⟨σ.2 21, g', ?_, fun x y hx hy => ⟨?_, ?_⟩⟩
          · rw [k1, wv_self]
          · rw [if_neg (fun p => absurd p.1 (by decide)), Int32.add_zero]
          · rw [k2 x y hx]
            congr 1
            by_cases q : y = at' ∧ fr ≤ x ∧ x ≤ to
            · rw [if_pos q, if_pos ⟨rfl, by rw [q.1], nI_le q.2.1 (by omega), nI_le q.2.2 (by omega)⟩]
            · rw [if_neg q, if_neg (fun p => q ⟨((nI_eq (by omega) (by omega)).mp p.2.1).symm, (nI_leI (by omega) (by omega)).mp p.2.2.1, (nI_leI (by omega) (by omega)).mp p.2.2.2⟩)]
      obtain ⟨w', n'', k1, k2⟩ := hsp
      let σ1 := zsg (wv (wv σ 21 w') 22 n'') 308 (nI (n' + 1))
      have hH : RH σ1 τ1 := ⟨n, n' + 1, pl, hu, ⟨x1, x2, rfl, x4⟩, ⟨m1, m2, rfl, by omega, m5⟩⟩
      have h4' : R4 σ1 τ1 := by
        show G4 (nI (n' + 1)) w' n'' (nI (n' + 1)) (upd (τ.2 6) (nI n').toNatClampNeg v) (upd (τ.2 7) (nI n').toNatClampNeg (nI at')) (upd (τ.2 8) (nI n').toNatClampNeg (nI fr)) (upd (τ.2 9) (nI n').toNatClampNeg (nI to)) (upd (τ.2 10) (nI n').toNatClampNeg (nI wd))
        rw [hn31]
        refine ⟨rfl, n' + 1, by omega, rfl, fun r hr => ?_, fun x y hx hy => ?_⟩
        · by_cases hrn : r = n'
          · subst hrn
            simp only [upd, if_true]
            exact ⟨hv, ⟨at', hat1, hat, rfl⟩, ⟨fr, to, hft, hto, rfl, rfl⟩, wd, hwd1, hwd, rfl⟩
          · simp only [upd, if_neg hrn]
            exact d3 r (by omega)
        · rw [cst_S, cst_S, (k2 x y hx hy).1, (k2 x y hx hy).2, (d4 x y hx hy).1, (d4 x y hx hy).2]
          exact ⟨rfl, rfl⟩
      obtain ⟨σ', g1, g2, g3⟩ := join_R (σ := σ1) (τ := τ1) hW (LX_r (σ := σ) (fun k hk => by show upd σ.1 308 _ k = _; unfold upd; rw [if_neg (by omega)]) (fun q hq => by show va_up (va_up σ.2 21 _) 22 _ q = _; unfold va_up; rw [if_neg (by omega), if_neg (by omega)]) hLX) (LM_r rfl rfl rfl hLM) hH r2 r3 h4' r5 r6 r7 r8 r9 r10
      rw [k1]
      simp only [zbd_s, zlt_s]
      have e8 : (wv (wv σ 21 w') 22 n'').1 308 + 1 = nI (n' + 1) := by rw [wv_1, wv_1, x3, nI_1]
      rw [e8, show zsg (wv (wv σ 21 w') 22 n'') 308 (nI (n' + 1)) = σ1 from rfl, g1]
      refine ⟨nI (n' + 1), σ', τ1, ?_, rfl, g3⟩
      show some (σ'.1 308, σ') = _
      rw [g2 308 (by decide)]
      rfl
  · obtain ⟨e1, -⟩ := x_ravine_no (σ := σ) hall
    obtain ⟨-, e2⟩ := x_ravine_no (σ := τ) hall
    rw [e1, e2]
    exact ⟨_, _, _, rfl, rfl, hR⟩
