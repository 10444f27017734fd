/-! ===== near, far of a law ===== -/
def nd (a b : Nat) : Nat := (a - b) + (b - a)
theorem nd_comm (a b : Nat) : nd a b = nd b a := by unfold nd; omega
def nap (p q : Nat) : Nat := nd (p % 40) (q % 40) + nd (p / 40) (q / 40)
def nsq (p q : Nat) : Nat := nd (p % 40) (q % 40) * nd (p % 40) (q % 40) + nd (p / 40) (q / 40) * nd (p / 40) (q / 40)
theorem nap_comm (p q : Nat) : nap p q = nap q p := by unfold nap; rw [nd_comm (p % 40), nd_comm (p / 40)]
theorem nsq_comm (p q : Nat) : nsq p q = nsq q p := by unfold nsq; rw [nd_comm (p % 40), nd_comm (p / 40)]
theorem zrem_n {p : Nat} (hp : p < 2 ^ 31) : zrem (nI p) 40 = nI (p % 40) := pk_rem (d := 40) hp (by decide) (by decide)
theorem zdiv_n {p : Nat} (hp : p < 2 ^ 31) : nI p / 40 = nI (p / 40) := pk_div (d := 40) hp (by decide) (by decide)
theorem sub_nd {a b : Nat} (ha : a < 2 ^ 20) (hb : b < 2 ^ 20) : (b ≤ a ∧ nI a - nI b = nI (nd a b) ∧ 0 ≤ nI a - nI b) ∨ (a < b ∧ nI a - nI b = -(nI (nd a b)) ∧ ¬ 0 ≤ nI a - nI b) := by
  by_cases h : b ≤ a
  · refine Or.inl ⟨h, ?_, ?_⟩
    · rw [pk_sub h]; congr 1; unfold nd; omega
    · rw [pk_sub h]; exact nI_pos' (by omega)
  · have h2 : a ≤ b := by omega
    refine Or.inr ⟨by omega, ?_, ?_⟩
    · rw [show nd a b = b - a by unfold nd; omega, ← pk_sub h2, Int32.neg_sub]
    · exact Int32.not_le.mpr (pk_sneg (by omega) (by omega))
theorem zabs_nd {a b : Nat} (ha : a < 2 ^ 20) (hb : b < 2 ^ 20) : zabs (nI a - nI b) = nI (nd a b) := by
  unfold zabs
  rcases sub_nd ha hb with ⟨h1, h2, h3⟩ | ⟨h1, h2, h3⟩
  · rw [if_pos h3, h2]
  · rw [if_neg h3, h2, Int32.zero_sub, Int32.neg_neg]
theorem mabs_nd {a b : Nat} (ha : a < 2 ^ 20) (hb : b < 2 ^ 20) (σ : zS) : f_M_abs (nI a - nI b) σ = some (nI (nd a b), σ) := by
  unfold f_M_abs
  rcases sub_nd ha hb with ⟨h1, h2, h3⟩ | ⟨h1, h2, h3⟩
  · rw [if_pos h3, h2]
  · rw [if_neg h3, h2, Int32.neg_neg]
theorem sq_nd {a b : Nat} (ha : a < 2 ^ 20) (hb : b < 2 ^ 20) : (nI a - nI b) * (nI a - nI b) = nI (nd a b * nd a b) := by
  rcases sub_nd ha hb with ⟨h1, h2, h3⟩ | ⟨h1, h2, h3⟩
  · rw [h2, nI_mul]
  · rw [h2, Int32.neg_mul, Int32.mul_neg, Int32.neg_neg, nI_mul]
theorem m_apart {p q : Nat} (hp : p < 1600) (hq : q < 1600) (σ : zS) : f_M_apart (nI p) (nI q) σ = some (nI (nap p q), σ) := by
  unfold f_M_apart
  rw [zrem_n (by omega), zrem_n (by omega), zdiv_n (by omega), zdiv_n (by omega), mabs_nd (by omega) (by omega), zbd_s, mabs_nd (by omega) (by omega), zbd_s, nI_add]
  rfl
theorem x_apart {p q : Nat} (hp : p < 1600) (hq : q < 1600) (σ : zS) : f_X_apart (nI p) (nI q) σ = some (nI (nap p q), σ) := by
  unfold f_X_apart
  rw [zrem_n (by omega), zrem_n (by omega), zdiv_n (by omega), zdiv_n (by omega), zabs_nd (by omega) (by omega), zabs_nd (by omega) (by omega), nI_add]
  rfl
def fct (a b c d e g : Int32) : Nat → Int32 := fun i => if i = 0 then a else if i = 1 then b else if i = 2 then c else if i = 3 then d else if i = 4 then e else g
theorem vr_fa {cd : Nat → Nat} {fa fb : Nat → Int32} (hf : ∀ i, i < 6 → fa i = fb i) : ∀ (r j d : Nat) (f : Nat → Int32), (∀ i, i < r → vd (cd (j + i))) → vr cd fa r j d f = vr cd fb r j d f
  | 0, _, _, _, _ => rfl
  | r + 1, j, d, f, hv => by
    unfold vr
    have e : sf (cd j) fa d f = sf (cd j) fb d f := by
      have hj := hv 0 (by omega)
      unfold sf
      by_cases h1 : cd j < 20000
      · simp only [h1, if_true]
        by_cases h2 : cd j < 10000
        · simp only [h2, if_true]
        · have h3 : cd j - 10000 < 6 := by unfold vd at hj; rw [Nat.add_zero] at hj; omega
          rw [hf _ h3]
      · simp only [h1, if_false]
    rw [e]
    exact vr_fa hf r (j + 1) _ _ (fun i hi => by have := hv (i + 1) (by omega); rw [show j + (i + 1) = j + 1 + i by omega] at this; exact this)
theorem vl_fa {cd : Nat → Nat} {fa fb : Nat → Int32} {n : Nat} (hf : ∀ i, i < 6 → fa i = fb i) (hw : wfc cd n 0 0) : vl cd fa n = vl cd fb n := by
  unfold vl
  rw [vr_fa hf n 0 0 _ (fun i hi => wfc_ok n 0 0 (by omega) hw i hi)]
def nearB (cd : Nat → Nat) (n p q hs nh nr : Nat) : Bool := decide (¬ vl cd (fct (nI (nsq p q)) (nI (nap p q)) (nI hs) (nI nh) 0 (nI nr)) n = 0)
theorem nearB_comm (cd : Nat → Nat) (n p q hs nh nr : Nat) : nearB cd n p q hs nh nr = nearB cd n q p hs nh nr := by
  unfold nearB
  rw [nsq_comm, nap_comm]
def farV (cd : Nat → Nat) (n : Nat) (l : Int32) (nh nr : Nat) : Int32 := zmax 0 (zmin 50 (vl cd (fct 0 0 0 (nI nh) l (nI nr)) n))
theorem farV_bd (cd : Nat → Nat) (n : Nat) (l : Int32) (nh nr : Nat) : bd (farV cd n l nh nr) 50 := by
  unfold farV
  generalize vl cd (fct 0 0 0 (nI nh) l (nI nr)) n = v
  refine bd_of (by decide) ?_
  unfold zmax zmin
  by_cases h1 : v < 50
  · rw [if_pos h1]
    by_cases h2 : 0 < v
    · rw [if_pos h2]
      exact ⟨Int32.le_of_lt h2, Int32.le_of_lt h1⟩
    · rw [if_neg h2]; exact ⟨by decide, by decide⟩
  · rw [if_neg h1, if_pos (by decide)]; exact ⟨by decide, by decide⟩
/-- the law's code, as the class and as the reference have it -/
def LX (σ : zS) (c : Nat → Nat) (n : Nat) (e : Nat → Nat) (m : Nat) : Prop := ∃ a b : Nat, (43 ≤ a ∧ a < 57) ∧ (43 ≤ b ∧ b < 57) ∧ σ.1 305 = nI a ∧ σ.1 306 = nI b ∧ zln σ a = n ∧ zln σ b = m ∧ n ≤ 160 ∧ m ≤ 160 ∧ (∀ i, i < n → σ.2 a i = xc (c i)) ∧ ∀ i, i < m → σ.2 b i = xc (e i)
def LM (τ : zS) (c : Nat → Nat) (n : Nat) (e : Nat → Nat) (m : Nat) : Prop := ∃ t : Nat, t < 6 ∧ τ.1 24 = nI t ∧ τ.2 16 (4 * t) = nI 0 ∧ τ.2 16 (4 * t + 1) = nI n ∧ τ.2 16 (4 * t + 2) = nI (n + m) ∧ n + m ≤ 200 ∧ (∀ i, i < n → τ.2 15 (200 * t + i) = mc (c i)) ∧ ∀ i, i < m → τ.2 15 (200 * t + (n + i)) = mc (e i)
def WF (c : Nat → Nat) (n : Nat) (e : Nat → Nat) (m : Nat) : Prop := wfc c n 0 0 ∧ wfc e m 0 0
/-- only what reckons has changed -/
def xs3 (σ σ' : zS) : Prop := (∀ k, k ≠ 1102 → σ'.1 k = σ.1 k) ∧ ∀ q, q ≠ 34 → q ≠ 35 → σ'.2 q = σ.2 q
theorem xs3_rfl {σ : zS} : xs3 σ σ := ⟨fun _ _ => rfl, fun _ _ _ => rfl⟩
theorem xs3_tr {a b c : zS} (h : xs3 a b) (g : xs3 b c) : xs3 a c := ⟨fun k q => (g.1 k q).trans (h.1 k q), fun q h1 h2 => (g.2 q h1 h2).trans (h.2 q h1 h2)⟩
theorem LX_s {σ σ' : zS} {c e : Nat → Nat} {n m : Nat} (h : xs3 σ σ') (hL : LX σ c n e m) : LX σ' c n e m := by
  obtain ⟨a, b, h1, h2, h3, h4, h5, h6, h7, h8, h9, h10⟩ := hL
  refine ⟨a, b, h1, h2, by rw [h.1 305 (by decide)]; exact h3, by rw [h.1 306 (by decide)]; exact h4, ?_, ?_, h7, h8, ?_, ?_⟩
  · unfold zln at h5 ⊢; rw [h.1 _ (by omega)]; exact h5
  · unfold zln at h6 ⊢; rw [h.1 _ (by omega)]; exact h6
  · intro i hi; rw [h.2 a (by omega) (by omega)]; exact h9 i hi
  · intro i hi; rw [h.2 b (by omega) (by omega)]; exact h10 i hi
theorem LM_s {τ τ' : zS} {c e : Nat → Nat} {n m : Nat} (h : ms3 τ τ') (hL : LM τ c n e m) : LM τ' c n e m := by
  obtain ⟨t, h1, h2, h3, h4, h5, h6, h7, h8⟩ := hL
  refine ⟨t, h1, by rw [h.1]; exact h2, ?_, ?_, ?_, h6, ?_, ?_⟩
  · rw [h.2 16 (by decide) (by decide)]; exact h3
  · rw [h.2 16 (by decide) (by decide)]; exact h4
  · rw [h.2 16 (by decide) (by decide)]; exact h5
  · intro i hi; rw [h.2 15 (by decide) (by decide)]; exact h7 i hi
  · intro i hi; rw [h.2 15 (by decide) (by decide)]; exact h8 i hi
theorem rk_tellPair (a b c : Int32) (σ : zS) : ∃ f, f_Rk_tellPair a b c σ = some (0, (σ.1, va_up σ.2 34 f)) ∧ f 0 = a ∧ f 1 = b ∧ f 2 = c ∧ ∀ i, 3 ≤ i → f i = σ.2 34 i := by
  refine ⟨upd (upd (upd (σ.2 34) 0 a) 1 b) 2 c, ?_, rfl, rfl, rfl, fun i hi => ?_⟩
  · unfold f_Rk_tellPair
    rw [show (0 : Int32) = nI 0 from rfl, show (1 : Int32) = nI 1 from rfl, show (2 : Int32) = nI 2 from rfl, zin_n (by decide) (by decide), zlt_s, zin_n (by decide) (by decide), zlt_s, zin_n (by decide) (by decide), zlt_s]
    unfold zsa
    rw [nI_clamp (by decide), nI_clamp (by decide), nI_clamp (by decide)]
    simp only [bx_uu]
    simp only [va_up, if_true]
  · unfold upd
    rw [if_neg (by omega), if_neg (by omega), if_neg (by omega)]
theorem rk_tellAll (a b c : Int32) (σ : zS) : ∃ f, f_Rk_tellAll a b c σ = some (0, (σ.1, va_up σ.2 34 f)) ∧ f 3 = a ∧ f 4 = b ∧ f 5 = c ∧ ∀ i, i < 3 → f i = σ.2 34 i := by
  refine ⟨upd (upd (upd (σ.2 34) 3 a) 4 b) 5 c, ?_, rfl, rfl, rfl, fun i hi => ?_⟩
  · unfold f_Rk_tellAll
    rw [show (0 : Int32) = nI 0 from rfl, show (3 : Int32) = nI 3 from rfl, show (4 : Int32) = nI 4 from rfl, show (5 : Int32) = nI 5 from rfl, zin_n (by decide) (by decide), zlt_s, zin_n (by decide) (by decide), zlt_s, zin_n (by decide) (by decide), zlt_s]
    unfold zsa
    rw [nI_clamp (by decide), nI_clamp (by decide), nI_clamp (by decide)]
    simp only [bx_uu]
    simp only [va_up, if_true]
  · unfold upd
    rw [if_neg (by omega), if_neg (by omega), if_neg (by omega)]
theorem xs3_34 (σ : zS) (f : Nat → Int32) : xs3 σ (σ.1, va_up σ.2 34 f) := ⟨fun _ _ => rfl, fun q h _ => by show va_up σ.2 34 f q = _; unfold va_up; rw [if_neg h]⟩
theorem xs3_35 (σ : zS) (d : Nat) (f : Nat → Int32) : xs3 σ (x35 σ d f) := ⟨fun k h => x35_f σ d f h, fun q _ h => x35_ne σ d f h⟩
/-- the facts told, then the worth of the near text -/
theorem x_tell {σ : zS} {c e : Nat → Nat} {n m : Nat} (hL : LX σ c n e m) (hW : WF c n e m) (a1 a2 a3 a4 a5 a6 : Int32) (w : Bool) : ∃ σ1 σ2 σ3, f_Rk_tellPair a1 a2 a3 σ = some (0, σ1) ∧ f_Rk_tellAll a4 a5 a6 σ1 = some (0, σ2) ∧ xs3 σ σ1 ∧ xs3 σ σ3 ∧ f_Rk_worth ((if w = true then σ2.1 305 else σ2.1 306).toNatClampNeg) σ2 = some (if w = true then vl c (fct a1 a2 a3 a4 a5 a6) n else vl e (fct a1 a2 a3 a4 a5 a6) m, σ3) ∧ σ2.1 = σ.1 := by
  obtain ⟨f, e1, g0, g1, g2, -⟩ := rk_tellPair a1 a2 a3 σ
  obtain ⟨g, e2, g3, g4, g5, g6⟩ := rk_tellAll a4 a5 a6 (σ.1, va_up σ.2 34 f)
  have hf : ∀ i, i < 6 → g i = fct a1 a2 a3 a4 a5 a6 i := by
    intro i hi
    have k0 : ∀ i, i < 3 → g i = f i := fun i hi => by rw [g6 i hi]; show va_up σ.2 34 f 34 i = _; simp [va_up]
    rcases (show i = 0 ∨ i = 1 ∨ i = 2 ∨ i = 3 ∨ i = 4 ∨ i = 5 by omega) with rfl | rfl | rfl | rfl | rfl | rfl
    · rw [k0 0 (by decide), g0]; rfl
    · rw [k0 1 (by decide), g1]; rfl
    · rw [k0 2 (by decide), g2]; rfl
    · rw [g3]; rfl
    · rw [g4]; rfl
    · rw [g5]; rfl
  have s1 : xs3 σ (σ.1, va_up σ.2 34 f) := xs3_34 σ f
  have s2 : xs3 σ ((σ.1, va_up (va_up σ.2 34 f) 34 g) : zS) := xs3_tr s1 (xs3_34 (σ.1, va_up σ.2 34 f) g)
  have h34 : ((σ.1, va_up (va_up σ.2 34 f) 34 g) : zS).2 34 = g := by simp [va_up]
  obtain ⟨a, b, h1, h2, h3, h4, h5, h6, h7, h8, h9, h10⟩ := LX_s s2 hL
  cases w with
  | true =>
    obtain ⟨q, hq⟩ := x_worth h1 h5 h7 h9 hW.1
    rw [h34, vl_fa hf hW.1] at hq
    refine ⟨_, _, _, e1, e2, s1, xs3_tr s2 (xs3_35 _ 1 q), ?_, rfl⟩
    simp only [if_true]
    rw [h3, nI_clamp (by omega)]
    exact hq
  | false =>
    obtain ⟨q, hq⟩ := x_worth h2 h6 h8 h10 hW.2
    rw [h34, vl_fa hf hW.2] at hq
    refine ⟨_, _, _, e1, e2, s1, xs3_tr s2 (xs3_35 _ 1 q), ?_, rfl⟩
    simp only [Bool.false_eq_true, if_false]
    rw [h4, nI_clamp (by omega)]
    exact hq
theorem x_areNear {σ : zS} {c e : Nat → Nat} {n m p q ih u j nh nr : Nat} (hL : LX σ c n e m) (hW : WF c n e m) (hp : p < 1600) (hq : q < 1600) (hj : j < 20) (e1 : σ.2 17 j = nI q) (e2 : σ.2 18 j = nI u) (e3 : σ.1 307 = nI nh) (e4 : σ.1 308 = nI nr) : ∃ σ', f_Vi_areNear (nI p) (nI ih) (nI j) σ = some (bI (nearB c n p q (ih + u) nh nr = true), σ') ∧ xs3 σ σ' := by
  obtain ⟨σ1, σ2, σ3, h1, h2, s1, s3, h3, h4⟩ := x_tell hL hW (nI (nsq p q)) (nI (nap p q)) (nI (ih + u)) (nI nh) 0 (nI nr) true
  refine ⟨σ3, ?_, s3⟩
  unfold f_Vi_areNear
  rw [zin_n hj (by decide), zlt_s, zin_n hj (by decide), zlt_s, zin_n hj (by decide), nI_clamp (by omega), e1, e2, zrem_n (by omega), zrem_n (by omega), zdiv_n (by omega), zdiv_n (by omega), sq_nd (by omega) (by omega), sq_nd (by omega) (by omega), zabs_nd (by omega) (by omega), zabs_nd (by omega) (by omega), nI_add, nI_add, nI_add]
  have h1' : f_Rk_tellPair (nI (nd (p % 40) (q % 40) * nd (p % 40) (q % 40) + nd (p / 40) (q / 40) * nd (p / 40) (q / 40))) (nI (nd (p % 40) (q % 40) + nd (p / 40) (q / 40))) (nI (ih + u)) σ = some (0, σ1) := h1
  rw [h1', zbd_s, s1.1 307 (by decide), s1.1 308 (by decide), e3, e4, h2, zbd_s]
  simp only [if_true] at h3
  rw [h3, zbd_s]
  unfold nearB bI
  by_cases hv : vl c (fct (nI (nsq p q)) (nI (nap p q)) (nI (ih + u)) (nI nh) 0 (nI nr)) n = 0
  · simp [hv]
  · simp [hv]
theorem x_farWith {σ : zS} {c e : Nat → Nat} {n m nh nr : Nat} (l : Int32) (hL : LX σ c n e m) (hW : WF c n e m) (e3 : σ.1 307 = nI nh) (e4 : σ.1 308 = nI nr) : ∃ σ', f_Vi_farWith l σ = some (farV e m l nh nr, σ') ∧ xs3 σ σ' := by
  obtain ⟨σ1, σ2, σ3, h1, h2, s1, s3, h3, h4⟩ := x_tell hL hW 0 0 0 (nI nh) l (nI nr) false
  refine ⟨σ3, ?_, s3⟩
  unfold f_Vi_farWith
  rw [h1, zbd_s, s1.1 307 (by decide), s1.1 308 (by decide), e3, e4, h2, zbd_s]
  simp only [Bool.false_eq_true, if_false] at h3
  rw [h3, zbd_s]
  rfl
/-- the reference's facts -/
theorem m_named {τ : zS} (a b c d e g : Int32) : ∃ f, zin (β := Int32 × zS) 0 6 (some (0, zsa τ 25 0 a)) = some (0, zsa τ 25 0 a) ∧ zsa (zsa (zsa (zsa (zsa (zsa τ 25 0 a) 25 1 b) 25 2 c) 25 3 d) 25 4 e) 25 5 g = (τ.1, va_up τ.2 25 f) ∧ ∀ i, i < 6 → f i = fct a b c d e g i := by
  refine ⟨upd (upd (upd (upd (upd (upd (τ.2 25) 0 a) 1 b) 2 c) 3 d) 4 e) 5 g, rfl, ?_, ?_⟩
  · unfold zsa
    rw [show (0 : Int32).toNatClampNeg = 0 from rfl, show (1 : Int32).toNatClampNeg = 1 from rfl, show (2 : Int32).toNatClampNeg = 2 from rfl, show (3 : Int32).toNatClampNeg = 3 from rfl, show (4 : Int32).toNatClampNeg = 4 from rfl, show (5 : Int32).toNatClampNeg = 5 from rfl]
    simp only [bx_uu]
    simp only [va_up, if_true]
  · intro i hi
    rcases (show i = 0 ∨ i = 1 ∨ i = 2 ∨ i = 3 ∨ i = 4 ∨ i = 5 by omega) with rfl | rfl | rfl | rfl | rfl | rfl <;> rfl
theorem ms3_25 (τ : zS) (f : Nat → Int32) : ms3 τ (τ.1, va_up τ.2 25 f) := ⟨rfl, fun q _ h => by show va_up τ.2 25 f q = _; unfold va_up; rw [if_neg h]⟩
theorem ms3_24 (τ : zS) (f : Nat → Int32) : ms3 τ (m24 τ f) := ⟨rfl, fun q h _ => m24_ne τ f h⟩
theorem m_tell {τ : zS} {c e : Nat → Nat} {n m : Nat} (hL : LM τ c n e m) (hW : WF c n e m) (f : Nat → Int32) (a1 a2 a3 a4 a5 a6 : Int32) (hf : ∀ i, i < 6 → f i = fct a1 a2 a3 a4 a5 a6 i) : (∃ τ', f_M_worth 0 (τ.1, va_up τ.2 25 f) = some (vl c (fct a1 a2 a3 a4 a5 a6) n, τ') ∧ ms3 τ τ') ∧ ∃ τ', f_M_worth 1 (τ.1, va_up τ.2 25 f) = some (vl e (fct a1 a2 a3 a4 a5 a6) m, τ') ∧ ms3 τ τ' := by
  have s1 := ms3_25 τ f
  have h25 : ((τ.1, va_up τ.2 25 f) : zS).2 25 = f := by simp [va_up]
  obtain ⟨t, h1, h2, h3, h4, h5, h6, h7, h8⟩ := LM_s s1 hL
  constructor
  · obtain ⟨g, hg⟩ := m_worth (p := 0) (s := 0) (e := n) (cd := c) (by decide) h2 h1 h3 h4 (by omega) (Nat.zero_le _) (fun i hi => by rw [Nat.zero_add]; exact h7 i hi) hW.1
    rw [h25, Nat.sub_zero, vl_fa hf hW.1] at hg
    exact ⟨_, hg, ms3_tr s1 (ms3_24 _ g)⟩
  · obtain ⟨g, hg⟩ := m_worth (p := 1) (s := n) (e := n + m) (cd := e) (by decide) h2 h1 h4 h5 h6 (Nat.le_add_right _ _) (fun i hi => h8 i (by omega)) (by rw [Nat.add_sub_cancel_left]; exact hW.2)
    rw [h25, Nat.add_sub_cancel_left, vl_fa hf hW.2] at hg
    exact ⟨_, hg, ms3_tr s1 (ms3_24 _ g)⟩
theorem m_areNear {τ : zS} {c e : Nat → Nat} {n m p q hs nh nr : Nat} (hL : LM τ c n e m) (hW : WF c n e m) (hp : p < 1600) (hq : q < 1600) (e3 : τ.1 0 = nI nh) (e4 : τ.1 8 = nI nr) : ∃ τ', f_M_areNear (nI p) (nI q) (nI hs) τ = some (bI (nearB c n p q hs nh nr = true), τ') ∧ ms3 τ τ' := by
  obtain ⟨f, -, h1, h2⟩ := m_named (τ := τ) (nI (nsq p q)) (nI (nap p q)) (nI hs) (nI nh) 0 (nI nr)
  obtain ⟨⟨τ', h3, h4⟩, -⟩ := m_tell hL hW f _ _ _ _ _ _ h2
  refine ⟨τ', ?_, h4⟩
  unfold f_M_areNear
  rw [zlt_s, zlt_s, zrem_n (by omega), zrem_n (by omega), zdiv_n (by omega), zdiv_n (by omega), sq_nd (by omega) (by omega), sq_nd (by omega) (by omega), nI_add]
  have z : ∀ (k : Nat) (x : Option (Int32 × zS)), k < 6 → zin (nI k) 6 x = x := fun k x hk => zin_n hk (by decide)
  rw [show (0 : Int32) = nI 0 from rfl, z 0 _ (by decide), zlt_s, m_apart hp hq, zbd_s, show (1 : Int32) = nI 1 from rfl, z 1 _ (by decide), zlt_s, show (2 : Int32) = nI 2 from rfl, z 2 _ (by decide), zlt_s, show (3 : Int32) = nI 3 from rfl, z 3 _ (by decide), zlt_s, show (4 : Int32) = nI 4 from rfl, z 4 _ (by decide), zlt_s, show (5 : Int32) = nI 5 from rfl, z 5 _ (by decide), zlt_s]
  simp only [za1]
  rw [e3, e4]
  have h1' : zsa (zsa (zsa (zsa (zsa (zsa τ 25 (nI 0) (nI (nd (p % 40) (q % 40) * nd (p % 40) (q % 40) + nd (p / 40) (q / 40) * nd (p / 40) (q / 40)))) 25 (nI 1) (nI (nap p q))) 25 (nI 2) (nI hs)) 25 (nI 3) (nI nh)) 25 (nI 4) (nI 0)) 25 (nI 5) (nI nr) = (τ.1, va_up τ.2 25 f) := h1
  rw [h1', show nI 0 = (0 : Int32) from rfl, h3, zbd_s]
  unfold nearB bI
  by_cases hv : vl c (fct (nI (nsq p q)) (nI (nap p q)) (nI hs) (nI nh) 0 (nI nr)) n = 0
  · simp [hv]
  · simp [hv, show (nI 1) = (1 : Int32) from rfl]
theorem m_farBy {τ : zS} {c e : Nat → Nat} {n m nh nr : Nat} (l : Int32) (hL : LM τ c n e m) (hW : WF c n e m) (e3 : τ.1 0 = nI nh) (e4 : τ.1 8 = nI nr) : ∃ τ', f_M_farBy l τ = some (farV e m l nh nr, τ') ∧ ms3 τ τ' := by
  obtain ⟨f, -, h1, h2⟩ := m_named (τ := τ) 0 0 0 (nI nh) l (nI nr)
  obtain ⟨-, τ', h3, h4⟩ := m_tell hL hW f _ _ _ _ _ _ h2
  refine ⟨τ', ?_, h4⟩
  unfold f_M_farBy
  have z : ∀ (k : Nat) (x : Option (Int32 × zS)), k < 6 → zin (nI k) 6 x = x := fun k x hk => zin_n hk (by decide)
  rw [show zin (β := Int32 × zS) 0 6 = zin (nI 0) 6 from rfl, z 0 _ (by decide), zlt_s, show zin (β := Int32 × zS) 1 6 = zin (nI 1) 6 from rfl, z 1 _ (by decide), zlt_s, show zin (β := Int32 × zS) 2 6 = zin (nI 2) 6 from rfl, z 2 _ (by decide), zlt_s, show zin (β := Int32 × zS) 3 6 = zin (nI 3) 6 from rfl, z 3 _ (by decide), zlt_s, show zin (β := Int32 × zS) 4 6 = zin (nI 4) 6 from rfl, z 4 _ (by decide), zlt_s, show zin (β := Int32 × zS) 5 6 = zin (nI 5) 6 from rfl, z 5 _ (by decide), zlt_s]
  simp only [za1]
  rw [e3, e4, h1, h3, zbd_s]
  unfold farV zmax zmin
  generalize vl e (fct 0 0 0 (nI nh) l (nI nr)) m = v
  by_cases h0 : 0 ≤ v
  · rw [if_pos h0]
    by_cases h5 : v ≤ 50
    · rw [if_pos h5]
      by_cases h6 : v < 50
      · rw [if_pos h6]
        by_cases h7 : 0 < v
        · rw [if_pos h7]
        · rw [if_neg h7, show v = 0 from Int32.le_antisymm (Int32.not_lt.mp h7) h0]
      · rw [if_neg h6, if_pos (by decide), show v = 50 from Int32.le_antisymm h5 (Int32.not_lt.mp h6)]
    · rw [if_neg h5, if_neg (fun h => h5 (Int32.le_of_lt h)), if_pos (by decide)]
  · rw [if_neg h0, if_pos (Int32.lt_of_lt_of_le (Int32.not_le.mp h0) (by decide)), if_neg (fun h => h0 (Int32.le_of_lt h))]
