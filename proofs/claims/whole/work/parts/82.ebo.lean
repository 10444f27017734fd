/-! ===== an E in both ===== -/
def Rs0 (T : Nat → Nat) (n t : Nat) (τ : zS) (out : List Nat) (a : Nat) : Prop := TMc τ T n ∧ τ.1 43 = nI out.length ∧ (∀ i, i < out.length → τ.2 15 (200 * t + i) = mc (out.getD i 0)) ∧ τ.1 35 = nI a ∧ a ≤ n ∧ out.length ≤ a ∧ τ.1 23 = nI t ∧ t < 6
theorem Rs0_of {T : Nat → Nat} {n t a : Nat} {τ0 τ : zS} {H out : List Nat} (h : Rst T n t τ0 τ H out a) : Rs0 T n t τ out a := by
  obtain ⟨h1, h2, h3, h4, h5, h6, h7, h8, h9, h10, h11, h12⟩ := h
  exact ⟨h2, h6, h7, h8, h9, by omega, h11, h12⟩
theorem m_next0 {T : Nat → Nat} {n t a : Nat} {τ : zS} {out : List Nat} (h : Rs0 T n t τ out a) : ∃ τ', f_M_next τ = some (0, τ') ∧ mf τ τ' ∧ Rs0 T n t τ' out (tE T n a) ∧ τ'.1 36 = nI (tB T n a) ∧ τ'.1 37 = mtk (tK T n a) ∧ ((tK T n a < 10006 ∨ tK T n a = 30002 ∨ tK T n a = 30003) → τ'.1 38 = nI (mvl (tK T n a))) := by
  obtain ⟨h2, h6, h7, h8, h9, h10, h11, h12⟩ := h
  obtain ⟨τ', k1, k2, k3, k4, k5, k6⟩ := m_next h2 h9 h8
  have hE := tE_b (T := T) h9
  refine ⟨τ', k1, k2, ⟨TMc_s k2 h2, ?_, ?_, k4, hE.2.1, by omega, ?_, h12⟩, k3, k5, k6⟩
  · rw [k2.1 43 (by omega)]; exact h6
  · rw [k2.2]; exact h7
  · rw [k2.1 23 (by omega)]; exact h11
def xE (KX : zS → Option (Int32 × zS)) (σ : zS) : Option (Int32 × zS) :=
  zbd (f_Rd_readOrK 0 σ) fun r8 σ7 =>
  (if r8 = 0 then
  some (0, σ7)
  else
  zbd (f_Rd_pass 7 σ7) fun r10 σ9 =>
  (if r10 = 0 then
  some (0, σ9)
  else
  KX σ9))
theorem m_E {T : Nat → Nat} {n t a : Nat} {τ : zS} {out : List Nat} (h : Rs0 T n t τ out a) {ok : Bool} {b a' k : Nat} {o' : List Nat} (hk : k ≤ 161 + n) (hr : ∀ N, run T n (N + k) 2 [] out a = some (ok, b, o', a')) : ∃ τ', f_M_eRead τ = some (bI (ok = true), τ') ∧ mz t τ τ' ∧ τ'.1 36 = nI b ∧ (ok = true → Rs0 T n t τ' o' a') := by
  obtain ⟨h2, h6, h7, h8, h9, h10, h11, h12⟩ := h
  have hn := h2.2.1
  have hR : Rst T n t τ (zsg (zsg τ 41 0) 42 0) [] out a := by
    refine ⟨mz_g (mz_g mz_rfl (by omega)) (by omega), TMc_z ((zgn (by decide)).trans (zgn (by decide))) rfl h2, (zgn (by decide)).trans (zgs _ _ _), trivial, zgs _ _ _, ?_, h7, ?_, h9, ?_, ?_, h12⟩
    · rw [zgn (by decide), zgn (by decide)]; exact h6
    · rw [zgn (by decide), zgn (by decide)]; exact h8
    · show 0 + out.length ≤ a
      omega
    · rw [zgn (by decide), zgn (by decide)]; exact h11
  have hz := hr (zfu - k)
  rw [show zfu - k + k = zfu by unfold zfu; omega] at hz
  obtain ⟨τ', q1, q2, q3, q4⟩ := m_run zfu 2 [] out a _ 1 1 hR (by decide) (Or.inr (Or.inr ⟨rfl, rfl, rfl⟩)) ok b o' a' hz
  refine ⟨τ', ?_, q2, q3, fun w => Rs0_of (q4 w)⟩
  unfold f_M_eRead
  rw [zlt_s, zlt_s]
  exact q1
theorem e_both {T : Nat → Nat} {n t a : Nat} {σ0 σ τ : zS} {out : List Nat} (hX : Xst T n σ0 σ out a) (hM : Rs0 T n t τ out a) :
    (∃ (b : Nat) (σ' τ' : zS), (∀ KX, xE KX σ = some (0, σ')) ∧ xz σ0 σ' ∧ σ'.1 105 = nI b ∧ f_M_eRead τ = some (0, τ') ∧ mz t τ τ' ∧ τ'.1 36 = nI b) ∨
    (∃ (a' : Nat) (cs : List Nat) (σ' τ' : zS), (∀ KX, xE KX σ = KX σ') ∧ Xst T n σ0 σ' (out ++ cs) a' ∧ f_M_eRead τ = some (1, τ') ∧ mz t τ τ' ∧ Rs0 T n t τ' (out ++ cs) a' ∧ a < a' ∧ cs.length ≤ a' - a ∧ dvr cs 0 1) := by
  have hl : out.length ≤ a := hM.2.2.2.2.2.1
  rcases x_E σ0 σ out a hX hl with ⟨σ2, b, q1, q2, q3, q4⟩ | ⟨σ2, a2, cs, q1, q2, q3⟩
  · left
    obtain ⟨k, p1, p2⟩ := q4 2 [] out cx_E
    obtain ⟨τ', r1, r2, r3, -⟩ := m_E hM (ok := false) (by omega) p2
    refine ⟨b, σ2, τ', fun KX => ?_, q2, q3, r1, r2, r3⟩
    unfold xE
    have q1' : f_Rd_readOrK 0 σ = some (0, σ2) := q1
    rw [q1', zbd_s, if_pos rfl]
  · have hS := q3
    obtain ⟨g1, g2, g3, g4, -⟩ := hS
    have hX2 := q2
    obtain ⟨h1, h2, h3, h4, h5, h6, h7, h8, h9⟩ := hX2
    have q1' : f_Rd_readOrK 0 σ = some (1, σ2) := q1
    have x7 := (xt_c (tK_v (T := T) h3)).2.2.2.2.2.1
    by_cases c : tK T n a2 = 30006
    · right
      have hlt := lt_of_E (T := T) h3 (by omega)
      obtain ⟨k, p1, p2⟩ := E_ok q3 c out
      obtain ⟨τ', r1, r2, r3, r4⟩ := m_E hM p1 p2
      obtain ⟨σ3, l1, l2⟩ := x_nextS q2
      refine ⟨tE T n a2, cs, σ3, τ', fun KX => ?_, l2, r1, r2, r4 rfl, by omega, by omega, g4 0 (by omega)⟩
      unfold xE f_Rd_pass
      rw [q1', zbd_s]
      dsimp only
      rw [if_neg one0, h6, if_pos (x7.mpr c), l1, zbd_s, zbd_s]
      dsimp only
      rw [if_neg one0]
    · left
      obtain ⟨k, p1, p2⟩ := E_no q3 c out
      obtain ⟨τ', r1, r2, r3, -⟩ := m_E hM p1 p2
      refine ⟨_, σ2, τ', fun KX => ?_, h1, h4, r1, r2, r3⟩
      unfold xE f_Rd_pass
      rw [q1', zbd_s]
      dsimp only
      rw [if_neg one0, h6, if_neg (fun w => c (x7.mp w)), zbd_s]
      dsimp only
      rw [if_pos rfl]
/-! ===== text, the reference's loop ===== -/
def my (t : Nat) (τ τ' : zS) : Prop := (∀ k, ¬ (35 ≤ k ∧ k ≤ 38) → ¬ (41 ≤ k ∧ k ≤ 43) → τ'.1 k = τ.1 k) ∧ (∀ q, q ≠ 15 → q ≠ 16 → q ≠ 23 → τ'.2 q = τ.2 q) ∧ (∀ i, i < 200 * t → τ'.2 15 i = τ.2 15 i) ∧ ∀ i, i < 4 * t → τ'.2 16 i = τ.2 16 i
theorem my_rfl {t : Nat} {a : zS} : my t a a := ⟨fun _ _ _ => rfl, fun _ _ _ _ => rfl, fun _ _ => rfl, fun _ _ => rfl⟩
theorem my_tr {t : Nat} {a b c : zS} (h : my t a b) (g : my t b c) : my t a c := ⟨fun k q1 q2 => (g.1 k q1 q2).trans (h.1 k q1 q2), fun q h0 h1 h2 => (g.2.1 q h0 h1 h2).trans (h.2.1 q h0 h1 h2), fun i hi => (g.2.2.1 i hi).trans (h.2.2.1 i hi), fun i hi => (g.2.2.2 i hi).trans (h.2.2.2 i hi)⟩
theorem my_z {t : Nat} {a b : zS} (h : mz t a b) : my t a b := ⟨h.1, fun q h0 _ h2 => h.2.1 q h0 h2, h.2.2, fun i _ => by rw [h.2.1 16 (by decide) (by decide)]⟩
theorem my_f {t : Nat} {a b : zS} (h : mf a b) : my t a b := my_z (mz_f h)
theorem my_s {t p : Nat} {a : zS} {v : Int32} (hp : p < 4) (ht : t < 6) : my t a (zsa a 16 (nI (4 * t + p)) v) := by
  refine ⟨fun _ _ _ => rfl, fun q _ h1 _ => zsa_n h1, fun i _ => by rw [zsa_n (by decide)], fun i hi => ?_⟩
  rw [zsa_q (by omega)]
  unfold upd
  rw [if_neg (by omega)]
theorem Rs0_s {T : Nat → Nat} {n t a : Nat} {τ : zS} {out : List Nat} {i v : Int32} (h : Rs0 T n t τ out a) : Rs0 T n t (zsa τ 16 i v) out a := by
  obtain ⟨h2, h6, h7, h8, h9, h10, h11, h12⟩ := h
  exact ⟨TMc_z rfl (zsa_n (by decide)) h2, h6, fun i hi => by rw [zsa_n (by decide)]; exact h7 i hi, h8, h9, h10, h11, h12⟩
theorem m_t0 {f : Nat} {x2 : Int32} {τ : zS} : f_M_text_26 (f + 1) 0 x2 τ = f_M_text_122 0 τ := by
  show f_M_text_26b _ _ _ _ = _
  unfold f_M_text_26b f_M_text_101
  split
  · rw [if_pos rfl]
  · rw [if_pos rfl, if_pos rfl]
theorem m_part {T : Nat → Nat} {n t a p : Nat} {τ : zS} {out : List Nat} (hp : p < 2) (f : Nat) (h : Rs0 T n t τ out a) : ∃ τ2, Rs0 T n t τ2 out (tE T n a) ∧ my t τ τ2 ∧ τ2.1 36 = nI (tB T n a) ∧ τ2.2 16 = upd (τ.2 16) (4 * t + p) (nI out.length) ∧ (¬ tK T n a = 30002 + p → f_M_text_26 (f + 2) 1 (nI p) τ = f_M_text_122 0 τ2) ∧ (tK T n a = 30002 + p → f_M_text_26 (f + 2) 1 (nI p) τ = zbd (f_M_eRead τ2) fun r3 σ2 => (if r3 = 0 then f_M_text_122 0 σ2 else f_M_text_26 (f + 1) 1 (nI (p + 1)) σ2)) := by
  obtain ⟨τ1, k1, k2, k3, k4, k5, k6⟩ := m_next0 h
  have h12 := h.2.2.2.2.2.2.2
  have h11 : τ1.1 23 = nI t := k3.2.2.2.2.2.2.1
  have h43 : τ1.1 43 = nI out.length := k3.2.1
  have hv := tK_v (T := T) h.2.2.2.2.1
  obtain ⟨-, -, -, -, -, -, -, -, m3⟩ := mtk_c hv
  have e0 : f_M_text_26 (f + 2) 1 (nI p) τ = f_M_text_26b (fun x1 x2 σ => f_M_text_26 (f + 1) x1 x2 σ) 1 (nI p) τ := rfl
  have hidx : (4 : Int32) * nI t + nI p = nI (4 * t + p) := by rw [show (4 : Int32) = nI 4 from rfl, nI_mul, nI_add]
  have h60 : ∀ y : Int32, f_M_text_60 (fun x1 x2 σ => f_M_text_26 (f + 1) x1 x2 σ) (nI p) y τ1 = (if y = 0 then f_M_text_122 0 (zsa τ1 16 (nI (4 * t + p)) (nI out.length)) else zbd (f_M_eRead (zsa τ1 16 (nI (4 * t + p)) (nI out.length))) fun r3 σ2 => (if r3 = 0 then f_M_text_122 0 σ2 else f_M_text_26 (f + 1) 1 (nI (p + 1)) σ2)) := by
    intro y
    unfold f_M_text_60 f_M_text_93 f_M_text_94
    rw [h11, hidx, zin_n (by omega) (by decide), zlt_s, h43, nI_1]
    dsimp only
    rw [m_t0]
    split
    · rfl
    · congr 1
      funext r3 σ2
      rw [m_t0]
  refine ⟨zsa τ1 16 (nI (4 * t + p)) (nI out.length), Rs0_s k3, my_tr (my_f k2) (my_s (by omega) h12), k4, ?_, fun hne => ?_, fun he => ?_⟩
  · rw [zsa_q (by omega), k2.2]
  · rw [e0]
    unfold f_M_text_26b f_M_text_59
    rw [if_neg (show ¬ (2 : Int32) ≤ nI p from nI_ge (b := 2) hp (by decide)), if_neg one0, k1, zbd_s]
    dsimp only
    rw [k5]
    by_cases c : tK T n a = 30002 ∨ tK T n a = 30003
    · rw [if_pos (m3.mpr c), k6 (Or.inr c)]
      have hmv : mvl (tK T n a) = tK T n a - 30002 := by unfold mvl; rw [if_neg (by omega), if_neg (by omega)]
      rw [if_neg (fun w => by rw [hmv] at w; have := (nI_eq (by omega) (by omega)).mp w; omega), h60 0, if_pos rfl]
    · rw [if_neg (fun w => c (m3.mp w)), h60 0, if_pos rfl]
  · rw [e0]
    unfold f_M_text_26b f_M_text_59
    rw [if_neg (show ¬ (2 : Int32) ≤ nI p from nI_ge (b := 2) hp (by decide)), if_neg one0, k1, zbd_s]
    dsimp only
    have c : tK T n a = 30002 ∨ tK T n a = 30003 := by omega
    rw [k5, if_pos (m3.mpr c), k6 (Or.inr c)]
    have hmv : mvl (tK T n a) = p := by unfold mvl; rw [if_neg (by omega), if_neg (by omega)]; omega
    rw [hmv, if_pos rfl, h60 1, if_neg one0]
theorem m_tend {T : Nat → Nat} {n t a : Nat} {τ : zS} {out : List Nat} (f : Nat) (h : Rs0 T n t τ out a) : ∃ τ2, Rs0 T n t τ2 out (tE T n a) ∧ my t τ τ2 ∧ τ2.2 16 = τ.2 16 ∧ τ2.1 36 = nI (tB T n a) ∧ f_M_text_26 (f + 1) 1 2 τ = f_M_text_122 (bI (tK T n a = 30000)) τ2 := by
  obtain ⟨τ1, k1, k2, k3, k4, k5, k6⟩ := m_next0 h
  have hv := tK_v (T := T) h.2.2.2.2.1
  obtain ⟨-, -, -, -, -, -, -, m0, -⟩ := mtk_c hv
  refine ⟨τ1, k3, my_f k2, by rw [k2.2], k4, ?_⟩
  show f_M_text_26b _ _ _ _ = _
  unfold f_M_text_26b f_M_text_101 f_M_text_121
  rw [if_pos (show (2 : Int32) ≤ 2 by decide), if_neg one0, k1, zbd_s]
  dsimp only
  rw [k5]
  by_cases c : tK T n a = 30000
  · rw [if_pos (m0.mpr c), bI_t c]
  · rw [if_neg (fun w => c (m0.mp w)), bI_f c]
