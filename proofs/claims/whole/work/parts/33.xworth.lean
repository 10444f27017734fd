/-! ===== the class's worth ===== -/
def x35 (σ : zS) (d : Nat) (f : Nat → Int32) : zS := (upd σ.1 1102 (nI d), va_up σ.2 35 f)
theorem x35_t (σ : zS) (d : Nat) (f : Nat → Int32) : (x35 σ d f).1 1102 = nI d := by simp [x35, upd]
theorem x35_35 (σ : zS) (d : Nat) (f : Nat → Int32) : (x35 σ d f).2 35 = f := by simp [x35, va_up]
theorem x35_ne (σ : zS) (d : Nat) (f : Nat → Int32) {q : Nat} (h : q ≠ 35) : (x35 σ d f).2 q = σ.2 q := by simp [x35, va_up, h]
theorem x35_f (σ : zS) (d : Nat) (f : Nat → Int32) {q : Nat} (h : q ≠ 1102) : (x35 σ d f).1 q = σ.1 q := by simp [x35, upd, h]
theorem x35_ln (σ : zS) (d : Nat) (f : Nat → Int32) {a : Nat} (h : a < 57) : zln (x35 σ d f) a = zln σ a := by
  unfold zln
  rw [x35_f σ d f (by omega)]
theorem x35_x35 (σ : zS) (d e : Nat) (f g : Nat → Int32) : x35 (x35 σ d f) e g = x35 σ e g := by
  unfold x35
  simp only [Prod.mk.injEq]
  refine ⟨?_, bx_uu _ _ _ _⟩
  funext q
  unfold upd
  split <;> rfl
theorem zsa_x35 {σ : zS} {d i : Nat} {f : Nat → Int32} (v : Int32) (hi : i < 2 ^ 31) : zsa (x35 σ d f) 35 (nI i) v = x35 σ d (upd f i v) := by
  unfold zsa
  rw [nI_clamp hi, x35_35]
  unfold x35
  simp only
  rw [bx_uu]
theorem zsg_x35 {σ : zS} {d e : Nat} {f : Nat → Int32} : zsg (x35 σ d f) 1102 (nI e) = x35 σ e f := by
  unfold zsg x35
  simp only [Prod.mk.injEq, and_true]
  funext q
  unfold upd
  split <;> rfl
theorem x35_self {σ : zS} {d : Nat} (h : σ.1 1102 = nI d) : x35 σ d (σ.2 35) = σ := by
  obtain ⟨a, b⟩ := σ
  unfold x35
  simp only [Prod.mk.injEq]
  refine ⟨?_, ?_⟩
  · funext q
    unfold upd
    split
    · rename_i e; rw [e]; exact h.symm
    · rfl
  · funext q
    unfold va_up
    split
    · rename_i e; rw [e]
    · rfl
theorem rk_push {σ : zS} {d : Nat} {f : Nat → Int32} (v : Int32) (hd : d < 31) : f_Rk_push v (x35 σ d f) = some (0, x35 σ (d + 1) (upd f d v)) := by
  unfold f_Rk_push
  rw [x35_t, if_neg (show ¬ (31 : Int32) ≤ nI d from nI_ge (b := 31) hd (by decide)), zin_n hd (by decide), zlt_s, zsa_x35 v (by omega), x35_t, nI_1, zlt_s, zsg_x35]
theorem rk_turn {σ : zS} {d : Nat} {f : Nat → Int32} (q : Nat) (hq : q = 20000 ∨ q = 20001) (hd : 1 ≤ d) (hd2 : d ≤ 31) (fa : Nat → Int32) : f_Rk_turnTop (-(xc q)) (x35 σ d f) = some (0, x35 σ d (sf q fa d f)) := by
  unfold f_Rk_turnTop
  rw [x35_t, if_pos (show (1 : Int32) ≤ nI d from nI_le (a := 1) hd (by omega)), nI_s1 hd, zin_n (by omega) (by decide), zlt_s, nI_clamp (by omega), x35_35]
  unfold f_Rk_turnTop_30 f_Rk_turnTop_53
  simp only [x35_t, nI_s1 hd, zin_n (show d - 1 < 31 by omega) (by decide), zlt_s, zsa_x35 _ (show d - 1 < 2 ^ 31 by omega)]
  rcases hq with rfl | rfl
  · rw [show -(xc 20000) = 15 from by decide, if_neg (show ¬ (15 : Int32) = 16 by decide), if_neg (show ¬ (15 : Int32) = 16 by decide)]
    rw [show sf 20000 fa d f = upd f (d - 1) (if f (d - 1) = 0 then 1 else 0) from rfl]
    split <;> rfl
  · rw [show -(xc 20001) = 16 from by decide, if_pos rfl, if_pos rfl]
    rw [show sf 20001 fa d f = upd f (d - 1) (-(f (d - 1))) from rfl]
    split <;> rfl
theorem rk_join {σ : zS} {d : Nat} {f : Nat → Int32} (q : Nat) (h1 : 20002 ≤ q) (h2 : q < 20009) (hd : 2 ≤ d) (hd2 : d ≤ 31) (fa : Nat → Int32) : f_Rk_joinTwo (-(xc q)) (x35 σ d f) = some (0, x35 σ (d - 1) (sf q fa d f)) := by
  unfold f_Rk_joinTwo
  rw [x35_t, if_pos (show (2 : Int32) ≤ nI d from nI_le (a := 2) hd (by omega)), zlt_s, nI_s1 (by omega), zsg_x35, x35_t, nI_s1 (by omega), show d - 1 - 1 = d - 2 by omega, zin_n (by omega) (by decide), zlt_s, zin_n (by omega) (by decide), zlt_s, nI_clamp (by omega), nI_clamp (by omega), x35_35]
  unfold f_Rk_joinTwo_98 f_Rk_joinTwo_129 f_Rk_joinTwo_103 f_Rk_joinTwo_130 f_Rk_joinTwo_154 f_Rk_joinTwo_178
  simp only [zin_n (show d - 2 < 31 by omega) (by decide), zlt_s, zsa_x35 _ (show d - 2 < 2 ^ 31 by omega)]
  have es : sf q fa d f = upd f (d - 2) (bn q (f (d - 2)) (f (d - 1))) := by
    unfold sf
    rw [if_neg (by omega), if_neg (by omega), if_neg (by omega)]
  rw [es]
  generalize f (d - 2) = a
  generalize f (d - 1) = b
  rcases (show q = 20002 ∨ q = 20003 ∨ q = 20004 ∨ q = 20005 ∨ q = 20006 ∨ q = 20007 ∨ q = 20008 by omega) with rfl | rfl | rfl | rfl | rfl | rfl | rfl
  · rw [show -(xc 20002) = 8 from by decide, if_pos rfl]
    unfold bn
    by_cases e1 : a = 0 <;> by_cases e2 : b = 0 <;> simp [e1, e2]
  · rw [show -(xc 20003) = 9 from by decide, if_neg (show ¬ (9 : Int32) = 8 by decide), if_pos rfl]
    unfold bn
    by_cases e1 : a = 0 <;> by_cases e2 : b = 0 <;> simp [e1, e2]
  · rw [show -(xc 20004) = 10 from by decide, if_neg (show ¬ (10 : Int32) = 8 by decide), if_neg (show ¬ (10 : Int32) = 9 by decide), if_pos rfl]
    unfold bn
    by_cases e1 : b ≤ a
    · simp [e1, Int32.not_lt.mpr e1]
    · simp [e1, Int32.not_le.mp e1]
  · rw [show -(xc 20005) = 11 from by decide, if_neg (show ¬ (11 : Int32) = 8 by decide), if_neg (show ¬ (11 : Int32) = 9 by decide), if_neg (show ¬ (11 : Int32) = 10 by decide), if_pos rfl]
    unfold bn
    by_cases e1 : a = b <;> simp [e1]
  · rw [show -(xc 20006) = 12 from by decide, if_neg (show ¬ (12 : Int32) = 8 by decide), if_neg (show ¬ (12 : Int32) = 9 by decide), if_neg (show ¬ (12 : Int32) = 10 by decide), if_neg (show ¬ (12 : Int32) = 11 by decide), if_pos rfl]
    unfold bn
    simp
  · rw [show -(xc 20007) = 13 from by decide, if_neg (show ¬ (13 : Int32) = 8 by decide), if_neg (show ¬ (13 : Int32) = 9 by decide), if_neg (show ¬ (13 : Int32) = 10 by decide), if_neg (show ¬ (13 : Int32) = 11 by decide), if_neg (show ¬ (13 : Int32) = 12 by decide), if_pos rfl]
    unfold bn
    simp
  · rw [show -(xc 20008) = 14 from by decide, if_neg (show ¬ (14 : Int32) = 8 by decide), if_neg (show ¬ (14 : Int32) = 9 by decide), if_neg (show ¬ (14 : Int32) = 10 by decide), if_neg (show ¬ (14 : Int32) = 11 by decide), if_neg (show ¬ (14 : Int32) = 12 by decide), if_neg (show ¬ (14 : Int32) = 13 by decide)]
    unfold bn
    simp
theorem ztx_i {β : Type} {a : Nat} {x : Option β} (h : 43 ≤ a ∧ a < 57) : ztx a x = x := if_pos h
theorem nI_neg_le {n : Nat} (h : n < 2 ^ 31) : ¬ 0 < -(nI n) := by
  rw [Int32.lt_iff_toInt_lt, sb_negT h]
  have : (0 : Int32).toInt = 0 := rfl
  omega
theorem nI_negneg (n : Nat) : - -(nI n) = nI n := Int32.neg_neg
theorem x_wstep {k : Nat → Int32 → zS → Option (Int32 × zS)} {σ : zS} {f : Nat → Int32} {a d j len q : Nat} (ha : 43 ≤ a ∧ a < 57) (hl : zln σ a = len) (hj : j < len) (hl2 : len ≤ 160) (hc : σ.2 a j = xc q) (hv : vd q) (ho : okd q d) (hd : d ≤ 31) : f_Rk_worth_7b k a (nI j) (x35 σ d f) = k a (nI (j + 1)) (x35 σ (sd q d) (sf q (σ.2 34) d f)) := by
  unfold f_Rk_worth_7b
  rw [ztx_i ha, x35_ln σ d f ha.2, hl, if_neg (nI_ge hj (by omega)), ztx_i ha, zin_n hj (by omega), nI_clamp (by omega), x35_ne σ d f (by omega), hc, zlt_s, x35_ne σ d f (show 34 ≠ 35 by decide)]
  unfold f_Rk_worth_89
  rw [nI_1]
  by_cases h1 : q < 10000
  · have ex : xc q = nI q := by unfold xc; rw [if_pos h1]
    have h2 : q < 20000 := by omega
    unfold okd at ho
    simp only [h2, if_true] at ho
    rw [ex, if_neg (nI_neg_le (by omega)), ztx_i ha, zin_n hj (by omega), rk_push _ ho, zbd_s]
    unfold sd sf
    simp only [h2, h1, if_true]
  · by_cases h2 : q < 20000
    · have h3 : q < 10006 := by unfold vd at hv; omega
      have ex : xc q = -(nI (17 + (q - 10000))) := by unfold xc; rw [if_neg h1, if_pos h2]
      unfold okd at ho
      simp only [h2, if_true] at ho
      have e17 : nI (17 + (q - 10000)) - 17 = nI (q - 10000) := by
        have h := pk_sub (a := 17 + (q - 10000)) (b := 17) (Nat.le_add_right _ _)
        rw [Nat.add_sub_cancel_left] at h
        exact h
      rw [ex, nI_negneg, if_pos (show (0 : Int32) < nI (17 + (q - 10000)) from nI_lt (a := 0) (by omega) (by omega)), if_neg (show ¬ nI (17 + (q - 10000)) < (17 : Int32) from nI_nlt (b := 17) (by omega) (by omega)), if_neg (show ¬ (23 : Int32) ≤ nI (17 + (q - 10000)) from nI_ge (b := 23) (by omega) (by decide)), e17, zin_n (by omega) (by decide), nI_clamp (by omega)]
      unfold f_Rk_worth_58 f_Rk_worth_89
      rw [rk_push _ ho, zbd_s]
      unfold sd sf
      simp only [h2, h1, if_true, if_false, nI_1]
    · have h3 : 20000 ≤ q ∧ q < 20009 := by unfold vd at hv; omega
      have g1 : (0 : Int32) < -(xc q) ∧ -(xc q) < (17 : Int32) := by
        rcases (show q = 20000 ∨ q = 20001 ∨ q = 20002 ∨ q = 20003 ∨ q = 20004 ∨ q = 20005 ∨ q = 20006 ∨ q = 20007 ∨ q = 20008 by omega) with rfl | rfl | rfl | rfl | rfl | rfl | rfl | rfl | rfl <;> decide
      rw [if_pos g1.1, if_pos g1.2]
      unfold okd at ho
      simp only [h2, if_false] at ho
      by_cases h4 : q < 20002
      · simp only [h4, if_true] at ho
        have e76 : f_Rk_worth_76 k a (nI j) (-(xc q)) (x35 σ d f) = k a (nI (j + 1)) (x35 σ d (sf q (σ.2 34) d f)) := by
          unfold f_Rk_worth_76 f_Rk_worth_89
          rw [rk_turn q (by omega) ho hd (σ.2 34), zbd_s, nI_1]
        have esd : sd q d = d := by unfold sd; rw [if_neg h2, if_pos h4]
        rw [e76, esd]
        rcases (show q = 20000 ∨ q = 20001 by omega) with rfl | rfl
        · rw [if_pos (show -(xc 20000) = 15 by decide)]
        · rw [if_neg (show ¬ -(xc 20001) = 15 by decide), if_pos (show -(xc 20001) = 16 by decide)]
      · simp only [h4, if_false] at ho
        have g2 : ¬ -(xc q) = 15 ∧ ¬ -(xc q) = 16 := by
          rcases (show q = 20002 ∨ q = 20003 ∨ q = 20004 ∨ q = 20005 ∨ q = 20006 ∨ q = 20007 ∨ q = 20008 by omega) with rfl | rfl | rfl | rfl | rfl | rfl | rfl <;> decide
        have esd : sd q d = d - 1 := by unfold sd; rw [if_neg h2, if_neg h4]
        rw [if_neg g2.1, if_neg g2.2, rk_join q (by omega) h3.2 ho hd (σ.2 34), zbd_s, esd]
theorem x_wloop {σ : zS} {cd : Nat → Nat} {a len : Nat} (ha : 43 ≤ a ∧ a < 57) (hl : zln σ a = len) (hl2 : len ≤ 160) (hc : ∀ i, i < len → σ.2 a i = xc (cd i)) : ∀ (r j d n : Nat) (f : Nat → Int32), j + r = len → d ≤ 31 → wfc cd r j d → r < n → f_Rk_worth_7 n a (nI j) (x35 σ d f) = some (vr cd (σ.2 34) r j d f 0, x35 σ 1 (vr cd (σ.2 34) r j d f)) := by
  intro r
  induction r with
  | zero =>
    intro j d n f hj hd hw hn
    obtain ⟨n, rfl⟩ : ∃ m, n = m + 1 := ⟨n - 1, by omega⟩
    show f_Rk_worth_7b _ _ _ _ = _
    have hd1 : d = 1 := hw
    subst hd1
    unfold f_Rk_worth_7b
    rw [ztx_i ha, x35_ln σ 1 f ha.2, hl, if_pos (nI_le (by omega) (by omega)), x35_t, if_neg (show ¬ nI 1 ≤ (0 : Int32) by decide), show (0 : Int32) = nI 0 from rfl, zin_n (by decide) (by decide), nI_clamp (by decide), x35_35]
    rfl
  | succ r ih =>
    intro j d n f hj hd hw hn
    obtain ⟨n, rfl⟩ : ∃ m, n = m + 1 := ⟨n - 1, by omega⟩
    show f_Rk_worth_7b _ _ _ _ = _
    rw [x_wstep ha hl (by omega) hl2 (hc j (by omega)) hw.1 hw.2.1 hd]
    exact ih (j + 1) _ n _ (by omega) (sd_le hd hw.2.1) hw.2.2 (by omega)
theorem x_worth {σ : zS} {cd : Nat → Nat} {a len : Nat} (ha : 43 ≤ a ∧ a < 57) (hl : zln σ a = len) (hl2 : len ≤ 160) (hc : ∀ i, i < len → σ.2 a i = xc (cd i)) (hw : wfc cd len 0 0) : ∃ f, f_Rk_worth a σ = some (vl cd (σ.2 34) len, x35 σ 1 f) := by
  refine ⟨vr cd (σ.2 34) len 0 0 (σ.2 35), ?_⟩
  unfold f_Rk_worth
  rw [zlt_s]
  have e0 : zsg σ 1102 0 = x35 σ 0 (σ.2 35) := by
    unfold zsg x35
    simp only [Prod.mk.injEq]
    refine ⟨rfl, ?_⟩
    funext q
    unfold va_up
    split
    · rename_i e; rw [e]
    · rfl
  rw [e0]
  have := x_wloop ha hl hl2 hc len 0 0 zfu (σ.2 35) (by omega) (by omega) hw (by unfold zfu; omega)
  rw [vr_vl hw] at this
  exact this
