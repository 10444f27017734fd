/-! ===== towns: town, burn, count ===== -/
noncomputable def cls (N : Nat → Nat → Bool) (n s c : Nat) : Nat := Classical.epsilon (fun C => isC N n s c C)
theorem cls_eq {N : Nat → Nat → Bool} {n s c C : Nat} (h : isC N n s c C) : cls N n s c = C := isC_eq (Classical.epsilon_spec (p := fun C => isC N n s c C) ⟨C, h⟩) h
theorem cld_s {N : Nat → Nat → Bool} {n s s' D : Nat} (h : ∀ b, b < n → s.testBit b = s'.testBit b) : cld N n s D ↔ cld N n s' D := by
  constructor
  · intro q a b ha hb h1 h2 h3 h4
    exact q a b ha hb h1 (by rw [h b hb]; exact h2) h3 h4
  · intro q a b ha hb h1 h2 h3 h4
    exact q a b ha hb h1 (by rw [← h b hb]; exact h2) h3 h4
theorem isC_s {N : Nat → Nat → Bool} {n s s' c C : Nat} (h : ∀ b, b < n → s.testBit b = s'.testBit b) (q : isC N n s c C) : isC N n s' c C := ⟨q.1, (cld_s h).mp q.2.1, fun D h1 h2 => q.2.2 D h1 ((cld_s h).mpr h2)⟩
/-- houses and what is joined, in each -/
def TX (σ : zS) (n : Nat) (N : Nat → Nat → Bool) : Prop := σ.1 307 = nI n ∧ n ≤ 20 ∧ ∃ jm : Nat → Nat, (∀ a, a < 20 → σ.2 19 a = nI (jm a)) ∧ jok N n jm
def TM (τ : zS) (n : Nat) (N : Nat → Nat → Bool) : Prop := τ.1 0 = nI n ∧ n ≤ 20 ∧ hnr τ n N
noncomputable def twn (N : Nat → Nat → Bool) (n h : Nat) : Nat := cls N n (2 ^ n - 1) (2 ^ h)
theorem x_cls {σ : zS} {al : Int32} {n s c : Nat} {N : Nat → Nat → Bool} (hT : TX σ n N) (hal : ∀ m, m < 2 ^ 20 → nI m &&& al = nI (m &&& s)) (hc : c < 2 ^ n) : f_Vi_spreadFrom (nI c) al σ = some (nI (cls N n s c), σ) ∧ cls N n s c < 2 ^ n ∧ isC N n s c (cls N n s c) := by
  obtain ⟨h1, h2, jm, h3, h4⟩ := hT
  obtain ⟨C, g1, g2, g3⟩ := x_spreadFrom (σ := σ) (al := al) (n := n) (s := s) (c := c) (jm := jm) (nr := N) h1 h2 (fun a ha => h3 a (by omega)) h4 hal hc
  rw [cls_eq g3]
  exact ⟨g2, g1, g3⟩
theorem hnr_s {τ τ' : zS} {n : Nat} {N : Nat → Nat → Bool} (h : ms3 τ τ') (g : hnr τ n N) : hnr τ' n N := by
  intro τ2 h2 a b ha hb
  obtain ⟨τ3, e1, e2⟩ := g τ2 (ms3_tr h h2) a b ha hb
  refine ⟨τ3, e1, e2.1.trans h.1.symm, fun q h3 h4 => (e2.2 q h3 h4).trans (h.2 q h3 h4).symm⟩
theorem TM_s {τ τ' : zS} {n : Nat} {N : Nat → Nat → Bool} (h : ms3 τ τ') (g : TM τ n N) : TM τ' n N := ⟨by rw [h.1]; exact g.1, g.2.1, hnr_s h g.2.2⟩
theorem m_cls {τ : zS} {n s h : Nat} {N : Nat → Nat → Bool} (hT : TM τ n N) (hs : s < 2 ^ 31) (hh : h < n) : ∃ τ', f_M_reached (nI h) (nI s) τ = some (nI (cls N n s (2 ^ h)), τ') ∧ ms3 τ τ' ∧ cls N n s (2 ^ h) < 2 ^ n ∧ isC N n s (2 ^ h) (cls N n s (2 ^ h)) := by
  obtain ⟨C, τ', g1, g2, g3, g4⟩ := m_reached hT.2.2 hT.1 hT.2.1 hs hh ms3_rfl
  rw [cls_eq g4]
  exact ⟨τ', g2, g3, g1, g4⟩
theorem tb_m1 (n i : Nat) : (2 ^ n - 1).testBit i = decide (i < n) := Nat.testBit_two_pow_sub_one n i
theorem cls_s {N : Nat → Nat → Bool} {n s s' c C : Nat} (h : ∀ b, b < n → s.testBit b = s'.testBit b) (q : isC N n s c C) : cls N n s' c = C := cls_eq (isC_s h q)
theorem and_m1 : ∀ m, m < 2 ^ 20 → nI m &&& (-1 : Int32) = nI (m &&& (2 ^ 20 - 1)) := by
  intro m hm
  rw [show nI m &&& (-1 : Int32) = nI m from Int32.and_neg_one, Nat.and_two_pow_sub_one_eq_mod, Nat.mod_eq_of_lt hm]
theorem tw_isC {σ : zS} {n h : Nat} {N : Nat → Nat → Bool} (hT : TX σ n N) (hh : h < n) : isC N n (2 ^ n - 1) (2 ^ h) (twn N n h) ∧ twn N n h < 2 ^ n := by
  obtain ⟨-, g2, g3⟩ := x_cls (s := 2 ^ n - 1) (c := 2 ^ h) (al := nI (2 ^ n - 1)) hT (fun m _ => nb_and m (2 ^ n - 1)) (pow_lt hh)
  exact ⟨g3, g2⟩
theorem x_townOf {σ : zS} {n h : Nat} {N : Nat → Nat → Bool} (hT : TX σ n N) (hh : h < n) : f_Vi_townOf (nI h) σ = some (nI (twn N n h), σ) := by
  have hn20 := hT.2.1
  unfold f_Vi_townOf
  obtain ⟨g1, g2, g3⟩ := x_cls (s := 2 ^ 20 - 1) (c := 2 ^ h) (al := -1) hT and_m1 (pow_lt hh)
  rw [nb_shl (by omega), g1, zbd_s]
  unfold twn
  rw [cls_s (s := 2 ^ 20 - 1) (s' := 2 ^ n - 1) (fun b hb => by rw [tb_m1, tb_m1]; simp; omega) g3]
theorem nI_p1 {n : Nat} (hn : n ≤ 20) : zshl 1 (nI n) - 1 = nI (2 ^ n - 1) := by
  rw [nb_shl (by omega), nI_s1 (Nat.one_le_two_pow)]
theorem m_townOf {τ : zS} {n h : Nat} {N : Nat → Nat → Bool} (hT : TM τ n N) (hh : h < n) : ∃ τ', f_M_townOf (nI h) τ = some (nI (twn N n h), τ') ∧ ms3 τ τ' := by
  have hn20 := hT.2.1
  obtain ⟨τ', g1, g2, -⟩ := m_cls (s := 2 ^ n - 1) hT (by have : 2 ^ n ≤ 2 ^ 20 := Nat.pow_le_pow_right (by decide) hn20; omega) hh
  refine ⟨τ', ?_, g2⟩
  unfold f_M_townOf f_M_all
  rw [zbd_s, hT.1, nI_p1 hn20, g1, zbd_s]
  rfl
theorem R_T {σ τ : zS} (hR : R σ τ) : ∃ n N, TX σ n N ∧ TM τ n N := by
  obtain ⟨⟨c, e, ln, m, n, nr, pl, hu, hW, hLX, hLM, hHX, hHM, jm, j1, j2⟩, -⟩ := hR
  exact ⟨n, nrl c ln n nr pl hu, ⟨hHX.2.1, hHX.1, jm, j1, j2⟩, ⟨hHM.2.1, hHM.1, hN_of hW hLM hHM⟩⟩
theorem sim_town : @zSim Int32 R (fun a => f_X_town a) (fun a => f_M_town a) := by
  intro x σ τ hR
  obtain ⟨hh, hb⟩ := R_h hR
  obtain ⟨n, N, hX, hM⟩ := R_T hR
  dsimp only
  unfold f_X_town f_M_town
  rw [vi_knows, m_isHouse hb, zbd_s, zbd_s, hh, hM.1]
  by_cases h1 : 0 ≤ x ∧ x < nI n
  · rw [bI_t h1]
    simp only [if_neg one0]
    have hn20 := hX.2.1
    obtain ⟨h, hh', rfl⟩ := (kn_iff (by omega)).mp h1
    obtain ⟨τ', g1, g2⟩ := m_townOf hM hh'
    rw [x_townOf hX hh', g1]
    exact ⟨_, _, _, rfl, rfl, R_s xq_rfl (mq_3 g2) hR⟩
  · rw [bI_f h1]
    simp only [if_true]
    exact ⟨_, _, _, rfl, rfl, hR⟩
/-! the lowest of a set -/
def lowB (r l : Nat) : Prop := r.testBit l = true ∧ ∀ j, j < l → ¬ r.testBit j = true
theorem ex_bit {r : Nat} (h : r ≠ 0) : ∃ i, r.testBit i = true := by
  obtain ⟨i, h1, -⟩ := sb_ne (a := 0) (b := r) sb_0 (fun e => h e.symm)
  exact ⟨i, h1⟩
theorem has_1 {m i : Nat} (hm : m < 2 ^ 31) (hi : i < 31) : (zshr (nI m) (nI i) &&& 1 = 1) ↔ m.testBit i = true := by
  rw [nb_has hm hi]
  unfold bI
  by_cases h : m.testBit i = true <;> simp [h]
theorem has_0 {m i : Nat} (hm : m < 2 ^ 31) (hi : i < 31) : (zshr (nI m) (nI i) &&& 1 = 0) ↔ ¬ m.testBit i = true := by
  rw [nb_has hm hi]
  unfold bI
  by_cases h : m.testBit i = true <;> simp [h]
theorem m_low {τ : zS} {r i : Nat} (hr : r < 2 ^ 20) (hi : r.testBit i = true) : ∀ (d k f : Nat), k + d = i → d < f → (∀ j, j < k → ¬ r.testBit j = true) → ∃ l, l < 20 ∧ f_M_lowBit_2 f (nI r) (nI k) τ = some (nI l, τ) ∧ lowB r l := by
  have hi20 : i < 20 := tb_lt hr hi
  intro d
  induction d with
  | zero =>
    intro k f hk hf hj
    obtain ⟨f, rfl⟩ : ∃ m, f = m + 1 := ⟨f - 1, by omega⟩
    have hki : k = i := by omega
    subst hki
    refine ⟨k, hi20, ?_, hi, hj⟩
    show f_M_lowBit_2b _ _ _ _ = _
    unfold f_M_lowBit_2b
    rw [if_neg (fun q => (has_0 (by omega) (by omega)).mp q hi)]
  | succ d ih =>
    intro k f hk hf hj
    obtain ⟨f, rfl⟩ : ∃ m, f = m + 1 := ⟨f - 1, by omega⟩
    by_cases hb : r.testBit k = true
    · refine ⟨k, by omega, ?_, hb, hj⟩
      show f_M_lowBit_2b _ _ _ _ = _
      unfold f_M_lowBit_2b
      rw [if_neg (fun q => (has_0 (by omega) (by omega)).mp q hb)]
    · obtain ⟨l, h1, h2, h3⟩ := ih (k + 1) f (by omega) (by omega) (fun j hj' => by
        by_cases e : j = k
        · rw [e]; exact hb
        · exact hj j (by omega))
      refine ⟨l, h1, ?_, h3⟩
      show f_M_lowBit_2b _ _ _ _ = _
      unfold f_M_lowBit_2b
      rw [if_pos ((has_0 (by omega) (by omega)).mpr hb), nI_1]
      exact h2
theorem m_lowBit {τ : zS} {r : Nat} (hr : r < 2 ^ 20) (h0 : r ≠ 0) : ∃ l, l < 20 ∧ f_M_lowBit (nI r) τ = some (nI l, τ) ∧ lowB r l := by
  obtain ⟨i, hi⟩ := ex_bit h0
  have hi20 : i < 20 := tb_lt hr hi
  unfold f_M_lowBit
  exact m_low hr hi i 0 zfu (by omega) (by unfold zfu; omega) (fun j hj => by omega)
theorem and_neg {r l : Nat} (hr : r < 2 ^ 20) (hl : lowB r l) : nI r &&& -(nI r) = nI (2 ^ l) := by
  have hl20 : l < 20 := tb_lt hr hl.1
  have hr0 : r ≠ 0 := by
    intro e
    have := hl.1
    rw [e, Nat.zero_testBit] at this
    cases this
  obtain ⟨x, rfl⟩ : ∃ x, r = x + 1 := ⟨r - 1, by omega⟩
  -- r = 2^l * (2 q + 1)
  have hmod : (x + 1) % 2 ^ l = 0 := by
    apply Nat.eq_of_testBit_eq
    intro j
    rw [Nat.testBit_mod_two_pow, Nat.zero_testBit]
    by_cases hj : j < l
    · have := hl.2 j hj
      simp only [Bool.not_eq_true] at this
      rw [this, Bool.and_false]
    · simp [hj]
  have hodd : (x + 1) / 2 ^ l % 2 = 1 := by
    have := hl.1
    rw [Nat.testBit_eq_decide_div_mod_eq] at this
    exact of_decide_eq_true this
  obtain ⟨q, hq⟩ : ∃ q, (x + 1) / 2 ^ l = 2 * q + 1 := ⟨(x + 1) / 2 ^ l / 2, by omega⟩
  have hx : x + 1 = 2 ^ l * (2 * q + 1) := by
    have := Nat.div_add_mod (x + 1) (2 ^ l)
    rw [hmod, hq] at this
    omega
  have hp : 1 ≤ 2 ^ l := Nat.one_le_two_pow
  have hx' : x = 2 ^ l * (2 * q) + (2 ^ l - 1) := by
    have : 2 ^ l * (2 * q + 1) = 2 ^ l * (2 * q) + 2 ^ l := by rw [Nat.mul_add, Nat.mul_one]
    omega
  have b1 : ∀ i, (x + 1).testBit i = if i < l then false else (2 * q + 1).testBit (i - l) := by
    intro i
    have := Nat.testBit_two_pow_mul_add (2 * q + 1) (b := 0) (i := l) (by omega) i
    rw [Nat.add_zero, ← hx] at this
    rw [this, Nat.zero_testBit]
  have b2 : ∀ i, x.testBit i = if i < l then true else (2 * q).testBit (i - l) := by
    intro i
    have := Nat.testBit_two_pow_mul_add (2 * q) (b := 2 ^ l - 1) (i := l) (by omega) i
    rw [← hx'] at this
    rw [this, tb_m1]
    by_cases hi : i < l
    · rw [if_pos hi, if_pos hi]; simp [hi]
    · rw [if_neg hi, if_neg hi]
  apply Int32.toBitVec_inj.mp
  rw [Int32.toBitVec_and, Int32.toBitVec_neg]
  show BitVec.ofNat 32 (x + 1) &&& -(BitVec.ofNat 32 (x + 1)) = BitVec.ofNat 32 (2 ^ l)
  apply BitVec.eq_of_toNat_eq
  rw [BitVec.toNat_and, BitVec.toNat_neg, BitVec.toNat_ofNat, BitVec.toNat_ofNat, Nat.mod_eq_of_lt (show x + 1 < 2 ^ 32 by omega)]
  have hl2 : 2 ^ l < 2 ^ 32 := pow_lt (by omega)
  rw [Nat.mod_eq_of_lt hl2, Nat.mod_eq_of_lt (show 2 ^ 32 - (x + 1) < 2 ^ 32 by omega)]
  apply Nat.eq_of_testBit_eq
  intro i
  rw [Nat.testBit_and, Nat.testBit_two_pow_sub_succ (by omega), b1, b2, Nat.testBit_two_pow]
  by_cases hi : i < l
  · rw [if_pos hi]; simp; omega
  · rw [if_neg hi, if_neg hi]
    by_cases hil : i = l
    · subst hil
      rw [Nat.sub_self]
      have : i < 32 := by omega
      simp [this]
    · obtain ⟨j, hj⟩ : ∃ j, i - l = j + 1 := ⟨i - l - 1, by omega⟩
      rw [hj, Nat.testBit_succ, Nat.testBit_succ, show (2 * q + 1) / 2 = q by omega, show 2 * q / 2 = q by omega]
      have : ¬ l = i := fun e => hil e.symm
      cases q.testBit j <;> simp [this]
/-- without one -/
def rst (W k : Nat) : Nat := W &&& ((2 ^ 20 - 1) ^^^ 2 ^ k)
theorem rst_tb {W k i : Nat} (hW : W < 2 ^ 20) (hk : k < 20) : (rst W k).testBit i = true ↔ W.testBit i = true ∧ i ≠ k := by
  unfold rst
  rw [tb_and]
  constructor
  · rintro ⟨h1, h2⟩
    refine ⟨h1, fun e => ?_⟩
    subst e
    rw [Nat.testBit_xor, tb_m1, Nat.testBit_two_pow] at h2
    simp [hk] at h2
  · rintro ⟨h1, h2⟩
    refine ⟨h1, ?_⟩
    have := tb_lt hW h1
    have h3 : ¬ k = i := fun e => h2 e.symm
    rw [Nat.testBit_xor, tb_m1, Nat.testBit_two_pow]
    simp [this, h3]
theorem rst_lt {W k n : Nat} (hW : W < 2 ^ n) : rst W k < 2 ^ n := and_lt hW
theorem and_not {W k : Nat} (hW : W < 2 ^ 20) (hk : k < 20) : nI W &&& (nI (2 ^ k) ^^^ (-1)) = nI (rst W k) := by
  apply Int32.toBitVec_inj.mp
  rw [Int32.toBitVec_and, Int32.toBitVec_xor]
  show BitVec.ofNat 32 W &&& (BitVec.ofNat 32 (2 ^ k) ^^^ (-1 : BitVec 32)) = BitVec.ofNat 32 (rst W k)
  apply BitVec.eq_of_getLsbD_eq
  intro i hi
  rw [BitVec.getLsbD_and, BitVec.getLsbD_xor, BitVec.getLsbD_ofNat, BitVec.getLsbD_ofNat, BitVec.getLsbD_ofNat]
  have e1 : (-1 : BitVec 32).getLsbD i = true := by
    have : ∀ i, i < 32 → (-1 : BitVec 32).getLsbD i = true := by decide
    exact this i hi
  rw [e1, Nat.testBit_two_pow]
  have hd : decide (i < 32) = true := decide_eq_true hi
  rw [hd]
  have hr := rst_tb (W := W) (k := k) (i := i) hW hk
  cases hb : (rst W k).testBit i with
  | true =>
    obtain ⟨h1, h2⟩ := hr.mp hb
    have h3 : ¬ k = i := fun e => h2 e.symm
    simp [h1, h3]
  | false =>
    by_cases h1 : W.testBit i = true
    · have : k = i := by
        apply Classical.byContradiction
        intro h3
        rw [hr.mpr ⟨h1, fun e => h3 e.symm⟩] at hb
        cases hb
      simp [this]
    · simp only [Bool.not_eq_true] at h1
      simp [h1]
