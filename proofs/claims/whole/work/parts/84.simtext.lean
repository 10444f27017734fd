/-! ===== text ===== -/
theorem wfc_of : ∀ (l : List Nat) (j d : Nat) (c : Nat → Nat), (∀ i, i < l.length → c (j + i) = l.getD i 0) → dvr l d 1 → wfc c l.length j d
  | [], j, d, c, _, h => h
  | q :: l, j, d, c, hc, h => by
    have h0 : c j = q := hc 0 (Nat.succ_pos _)
    show vd (c j) ∧ okd (c j) d ∧ wfc c l.length (j + 1) (sd (c j) d)
    rw [h0]
    refine ⟨h.1, h.2.1, wfc_of l (j + 1) _ c (fun i hi => ?_) h.2.2⟩
    have := hc (i + 1) (Nat.succ_lt_succ hi)
    rw [show j + (i + 1) = j + 1 + i by omega] at this
    exact this
theorem dvr_ne {l : List Nat} (h : dvr l 0 1) : 0 < l.length := by
  cases l with
  | nil => exact absurd (show (0 : Nat) = 1 from h) (by decide)
  | cons q l => exact Nat.succ_pos _
theorem getD_l {l1 l2 : List Nat} {i : Nat} (h : i < l1.length) : (l1 ++ l2).getD i 0 = l1.getD i 0 := by
  simp [List.getD, List.getElem?_append_left h]
theorem getD_r {l1 l2 : List Nat} {i : Nat} : (l1 ++ l2).getD (l1.length + i) 0 = l2.getD i 0 := by
  simp [List.getD, List.getElem?_append_right]
theorem gd43 {α : Type} (f : Nat → α) (z : α) {t : Nat} (h : t < 6) : [f 43, f 44, f 45, f 46, f 47, f 48].getD t z = f (43 + t) := by
  rcases (show t = 0 ∨ t = 1 ∨ t = 2 ∨ t = 3 ∨ t = 4 ∨ t = 5 by omega) with rfl | rfl | rfl | rfl | rfl | rfl <;> rfl
theorem gd49 {α : Type} (f : Nat → α) (z : α) {t : Nat} (h : t < 6) : [f 49, f 50, f 51, f 52, f 53, f 54].getD t z = f (49 + t) := by
  rcases (show t = 0 ∨ t = 1 ∨ t = 2 ∨ t = 3 ∨ t = 4 ∨ t = 5 by omega) with rfl | rfl | rfl | rfl | rfl | rfl <;> rfl
theorem gd1043 {α : Type} (f : Nat → α) (z : α) {t : Nat} (h : t < 6) : [f 1043, f 1044, f 1045, f 1046, f 1047, f 1048].getD t z = f (1043 + t) := by
  rcases (show t = 0 ∨ t = 1 ∨ t = 2 ∨ t = 3 ∨ t = 4 ∨ t = 5 by omega) with rfl | rfl | rfl | rfl | rfl | rfl <;> rfl
theorem gd1049 {α : Type} (f : Nat → α) (z : α) {t : Nat} (h : t < 6) : [f 1049, f 1050, f 1051, f 1052, f 1053, f 1054].getD t z = f (1049 + t) := by
  rcases (show t = 0 ∨ t = 1 ∨ t = 2 ∨ t = 3 ∨ t = 4 ∨ t = 5 by omega) with rfl | rfl | rfl | rfl | rfl | rfl <;> rfl
/-- one text, as R8 has it -/
def T8 (σ τ : zS) (t : Nat) : Prop := ∃ (c e : Nat → Nat) (n m : Nat), WF c n e m ∧ n + m ≤ 160 ∧ σ.1 (1043 + t) = nI n ∧ σ.1 (1049 + t) = nI m ∧ τ.2 16 (4 * t) = nI 0 ∧ τ.2 16 (4 * t + 1) = nI n ∧ τ.2 16 (4 * t + 2) = nI (n + m) ∧ (∀ i, i < n → σ.2 (43 + t) i = xc (c i) ∧ τ.2 15 (200 * t + i) = mc (c i)) ∧ ∀ i, i < m → σ.2 (49 + t) i = xc (e i) ∧ τ.2 15 (200 * t + (n + i)) = mc (e i)
theorem R8_iff {σ τ : zS} : R8 σ τ ↔ (σ.1 202 = τ.1 23 ∧ σ.1 14 = τ.1 24 ∧ ∃ T r : Nat, 1 ≤ T ∧ T ≤ 6 ∧ τ.1 23 = nI T ∧ r < T ∧ τ.1 24 = nI r ∧ σ.1 305 = nI (43 + r) ∧ σ.1 306 = nI (49 + r) ∧ ∀ t, t < T → T8 σ τ t) := by
  constructor
  · rintro ⟨h1, h2, T, r, g1, g2, g3, g4, g5, g6, g7, g8⟩
    refine ⟨h1, h2, T, r, g1, g2, g3, g4, g5, g6, g7, fun t ht => ?_⟩
    obtain ⟨c, e, n, m, k1, k2, k3, k4, k5, k6, k7, k8, k9⟩ := g8 t ht
    rw [gd1043 σ.1 0 (by omega)] at k3
    rw [gd1049 σ.1 0 (by omega)] at k4
    rw [gd43 σ.2 (fun _ => 0) (by omega)] at k8
    rw [gd49 σ.2 (fun _ => 0) (by omega)] at k9
    exact ⟨c, e, n, m, k1, k2, k3, k4, k5, k6, k7, k8, k9⟩
  · rintro ⟨h1, h2, T, r, g1, g2, g3, g4, g5, g6, g7, g8⟩
    refine ⟨h1, h2, T, r, g1, g2, g3, g4, g5, g6, g7, fun t ht => ?_⟩
    obtain ⟨c, e, n, m, k1, k2, k3, k4, k5, k6, k7, k8, k9⟩ := g8 t ht
    rw [gd1043 σ.1 0 (by omega), gd1049 σ.1 0 (by omega), gd43 σ.2 (fun _ => 0) (by omega), gd49 σ.2 (fun _ => 0) (by omega)]
    exact ⟨c, e, n, m, k1, k2, k3, k4, k5, k6, k7, k8, k9⟩
theorem T8_s {σ σ' τ τ' : zS} {t T : Nat} (ht : t < T) (f1 : σ'.1 (1043 + t) = σ.1 (1043 + t)) (f2 : σ'.1 (1049 + t) = σ.1 (1049 + t)) (f3 : σ'.2 (43 + t) = σ.2 (43 + t)) (f4 : σ'.2 (49 + t) = σ.2 (49 + t)) (g : ∀ i, i < 200 * T → τ'.2 15 i = τ.2 15 i) (g' : ∀ i, i < 4 * T → τ'.2 16 i = τ.2 16 i) (h : T8 σ τ t) : T8 σ' τ' t := by
  obtain ⟨c, e, n, m, k1, k2, k3, k4, k5, k6, k7, k8, k9⟩ := h
  refine ⟨c, e, n, m, k1, k2, by rw [f1]; exact k3, by rw [f2]; exact k4, by rw [g' _ (by omega)]; exact k5, by rw [g' _ (by omega)]; exact k6, by rw [g' _ (by omega)]; exact k7, fun i hi => ?_, fun i hi => ?_⟩
  · rw [f3, g _ (by omega)]; exact k8 i hi
  · rw [f4, g _ (by omega)]; exact k9 i hi
theorem sim_text : @zSim Unit R (fun _ => f_X_text) (fun _ => f_M_text) := by
  intro _ σ τ hR
  dsimp only
  obtain ⟨-, -, -, -, -, -, ⟨a1, n, a2, a3, a4⟩, r8, -, -⟩ := id hR
  obtain ⟨h1, h2, t, r, g1, g2, g3, g4, g5, g6, g7, g8⟩ := R8_iff.mp r8
  have hTX : TXc σ (fun i => (τ.2 14 i).toNatClampNeg) n := by
    refine ⟨by rw [a1]; exact a3, a2, fun i hi => ?_⟩
    obtain ⟨e1, m, hm, e2⟩ := a4 i hi
    show (τ.2 14 i).toNatClampNeg ≤ 255 ∧ σ.2 15 i = nI (τ.2 14 i).toNatClampNeg
    rw [e1, e2, nI_clamp (by omega)]
    exact ⟨hm, rfl⟩
  have hTM : TMc τ (fun i => (τ.2 14 i).toNatClampNeg) n := by
    refine ⟨a3, a2, fun i hi => ?_⟩
    obtain ⟨e1, m, hm, e2⟩ := a4 i hi
    show (τ.2 14 i).toNatClampNeg ≤ 255 ∧ τ.2 14 i = nI (τ.2 14 i).toNatClampNeg
    rw [e2, nI_clamp (by omega)]
    exact ⟨hm, rfl⟩
  unfold f_X_text f_M_text
  rw [h1, g3]
  by_cases h6 : t = 6
  · subst h6
    rw [if_neg (show ¬ nI 6 < 6 by decide), if_pos (show nI 6 = 6 from rfl)]
    exact ⟨_, _, _, rfl, rfl, hR⟩
  · have ht6 : t < 6 := by omega
    rw [if_pos (show nI t < 6 from nI_lt (b := 6) ht6 (by decide)), if_neg (show ¬ nI t = 6 from fun w => h6 ((nI_eq (b := 6) (by omega) (by decide)).mp w)), zlt_s, zlt_s]
    have i2 : (4 : Int32) * nI t + 2 = nI (4 * t + 2) := by rw [show (4 : Int32) = nI 4 from rfl, nI_mul, show (2 : Int32) = nI 2 from rfl, nI_add]
    rcases text_both hTX hTM g3 ht6 with ⟨b, σ1, τ1, k1, k2, k3, k4, k5, k6⟩ | ⟨cs1, cs2, σ1, τ1, k1, k2, k3, k4, k5, k6, k7, k8, k9, k10, k11, k12, k13, k14, k15⟩
    · rw [k1, k4, zbd_s]
      dsimp only
      unfold f_Rd_clear f_M_text_122
      have e23 : τ1.1 23 = nI t := by rw [k5.1 23 (by omega) (by omega)]; exact g3
      rw [if_pos rfl, zlt_s, zbd_s, k3, e23, i2, zin_n (by omega) (by decide), zlt_s, zlt_s, if_pos rfl, zgn (show 36 ≠ 20 by decide)]
      have e36 : (zsa τ1 16 (nI (4 * t + 2)) (τ1.1 43)).1 36 = nI b := k6
      rw [e36]
      refine ⟨_, _, _, rfl, rfl, ?_⟩
      have hm15 : ∀ i, i < 200 * t → (zsg (zsa τ1 16 (nI (4 * t + 2)) (τ1.1 43)) 20 0).2 15 i = τ.2 15 i := fun i hi => by rw [zg2, zsa_n (by decide)]; exact k5.2.2.1 i hi
      have hm16 : ∀ i, i < 4 * t → (zsg (zsa τ1 16 (nI (4 * t + 2)) (τ1.1 43)) 20 0).2 16 i = τ.2 16 i := fun i hi => by
        rw [zg2, zsa_q (by omega)]
        unfold upd
        rw [if_neg (by omega)]
        exact k5.2.2.2 i hi
      have hf : ∀ k, k ≠ 102 → ¬ (103 ≤ k ∧ k ≤ 108) → (zsg σ1 102 0).1 k = σ.1 k := fun k q1 q2 => (zgn q1).trans (k2.1 k q2)
      have ha : ∀ q, q ≠ 16 → (zsg σ1 102 0).2 q = σ.2 q := k2.2
      have hf' : ∀ k, k ≠ 20 → ¬ (35 ≤ k ∧ k ≤ 38) → ¬ (41 ≤ k ∧ k ≤ 43) → (zsg (zsa τ1 16 (nI (4 * t + 2)) (τ1.1 43)) 20 0).1 k = τ.1 k := fun k q1 q2 q3 => (zgn (σ := zsa τ1 16 (nI (4 * t + 2)) (τ1.1 43)) q1).trans (k5.1 k q2 q3)
      refine R_txt hR (fun k q1 q2 _ _ => hf k q1 q2) (fun q q1 _ => ha q q1) (fun k q1 q2 q3 _ => hf' k q1 q2 q3) (fun q q1 q2 q3 => by rw [zg2, zsa_n q2]; exact k5.2.1 q q1 q2 q3) (zgs _ _ _) (zgs _ _ _) (fun c n e m => LX_r (fun k hk => hf k (by omega) (by omega)) (fun q hq => ha q (by omega))) (LM_p g5 g4 (by omega) (hf' 24 (by omega) (by omega) (by omega)) hm15 hm16) (fun x hx => by rw [hf' 23 (by omega) (by omega) (by omega)]; exact hx) ?_
      refine R8_iff.mpr ⟨by rw [hf 202 (by omega) (by omega), hf' 23 (by omega) (by omega) (by omega)]; exact h1, by rw [hf 14 (by omega) (by omega), hf' 24 (by omega) (by omega) (by omega)]; exact h2, t, r, g1, g2, by rw [hf' 23 (by omega) (by omega) (by omega)]; exact g3, g4, by rw [hf' 24 (by omega) (by omega) (by omega)]; exact g5, by rw [hf 305 (by omega) (by omega)]; exact g6, by rw [hf 306 (by omega) (by omega)]; exact g7, fun u hu => ?_⟩
      exact T8_s hu (hf _ (by omega) (by omega)) (hf _ (by omega) (by omega)) (ha _ (by omega)) (ha _ (by omega)) hm15 hm16 (g8 u hu)
    · have hlen : (cs1 ++ cs2).length = cs1.length + cs2.length := List.length_append
      rw [hlen] at k4 k5 k8 k9 k14
      have hc1 := dvr_ne k12
      have hc2 := dvr_ne k13
      rw [k1, k6, zbd_s]
      dsimp only
      unfold f_Rd_clear f_M_text_122 f_Tx_add
      have e202 : σ1.1 202 = nI t := by rw [k2.1 202 (by omega), h1]; exact g3
      have e305 : σ1.1 305 = nI (43 + r) := by rw [k2.1 305 (by omega)]; exact g6
      have e306 : σ1.1 306 = nI (49 + r) := by rw [k2.1 306 (by omega)]; exact g7
      have hgd : zagd σ1 := by
        unfold zagd
        rw [e202, k3, k4, e305, e306, nI_clamp (by omega), nI_clamp (by omega), nI_clamp (by omega)]
        refine ⟨nI_pos' (by omega), nI_lt (b := 6) ht6 (by decide), nI_lt (a := 0) hc1 (by omega), nI_lt (b := 160) k15 (by decide), nI_le (by omega) (by omega), nI_le (b := 160) k14 (by decide), by omega, by omega, by omega, by omega⟩
      rw [if_neg one0, if_pos (show σ1.1 202 < 6 by rw [e202]; exact nI_lt (b := 6) ht6 (by decide)), if_pos hgd, zbd_s, zlt_s, zbd_s, e202, nI_1]
      have e23 : τ1.1 23 = nI t := by rw [k7.1 23 (by omega) (by omega)]; exact g3
      rw [e23, i2, zin_n (by omega) (by decide), zlt_s, zlt_s, if_neg one0, zlt_s]
      have e23' : (zsg (zsa τ1 16 (nI (4 * t + 2)) (τ1.1 43)) 20 0).1 23 = nI t := (zgn (σ := zsa τ1 16 (nI (4 * t + 2)) (τ1.1 43)) (by decide)).trans e23
      rw [e23', nI_1, zgs]
      refine ⟨nI (t + 1) - 1, _, _, rfl, rfl, ?_⟩
      -- X's state
      have hz1 : ∀ k, k ≠ 1043 + t → k ≠ 1049 + t → (zad2 σ1).1 k = σ1.1 k := by
        intro k q1 q2
        unfold zad2 zad1 zst
        rw [e202, nI_clamp (by omega)]
        show upd (upd σ1.1 (1000 + (43 + t)) _) (1000 + (49 + t)) _ k = _
        unfold upd
        rw [if_neg (by omega), if_neg (by omega)]
      have hz2 : ∀ q, q ≠ 43 + t → q ≠ 49 + t → (zad2 σ1).2 q = σ1.2 q := by
        intro q q1 q2
        unfold zad2 zad1 zst
        rw [e202, nI_clamp (by omega)]
        show va_up (va_up σ1.2 (43 + t) _) (49 + t) _ q = _
        unfold va_up
        rw [if_neg q2, if_neg q1]
      have hz3 : (zad2 σ1).1 (1043 + t) = nI cs1.length := by
        unfold zad2 zad1 zst
        rw [e202, k3, k4, nI_clamp (by omega), nI_clamp (by omega), nI_clamp (by omega)]
        show upd (upd σ1.1 (1000 + (43 + t)) _) (1000 + (49 + t)) _ (1043 + t) = _
        unfold upd
        rw [if_neg (by omega), if_pos (by omega)]
      have hz4 : (zad2 σ1).1 (1049 + t) = nI cs2.length := by
        unfold zad2 zad1 zst
        rw [e202, k3, k4, nI_clamp (by omega), nI_clamp (by omega), nI_clamp (by omega)]
        show upd (upd σ1.1 (1000 + (43 + t)) _) (1000 + (49 + t)) _ (1049 + t) = _
        unfold upd
        rw [if_pos (by omega), Nat.add_sub_cancel_left]
      have hz5 : ∀ i, i < cs1.length → (zad2 σ1).2 (43 + t) i = xc (cs1.getD i 0) := by
        intro i hi
        unfold zad2 zad1 zst
        rw [e202, k3, k4, nI_clamp (by omega), nI_clamp (by omega), nI_clamp (by omega)]
        show va_up (va_up σ1.2 (43 + t) _) (49 + t) _ (43 + t) i = _
        unfold va_up
        rw [if_neg (by omega), if_pos rfl]
        unfold va_cpy
        rw [if_pos (by omega), show 0 + (i - 0) = i by omega, k5 i (by omega), getD_l hi]
      have hz6 : ∀ i, i < cs2.length → (zad2 σ1).2 (49 + t) i = xc (cs2.getD i 0) := by
        intro i hi
        unfold zad2 zad1 zst
        rw [e202, k3, k4, nI_clamp (by omega), nI_clamp (by omega), nI_clamp (by omega)]
        show va_up (va_up σ1.2 (43 + t) _) (49 + t) _ (49 + t) i = _
        unfold va_up
        rw [if_pos rfl]
        unfold va_cpy
        rw [if_pos (by omega), show cs1.length + (i - 0) = cs1.length + i by omega, k5 _ (by omega), getD_r]
      generalize zad2 σ1 = σ2 at hz1 hz2 hz3 hz4 hz5 hz6 ⊢
      have hf : ∀ k, k ≠ 102 → ¬ (103 ≤ k ∧ k ≤ 108) → k ≠ 202 → k ≠ 1043 + t → k ≠ 1049 + t → (zsg (zsg σ2 202 (nI (t + 1))) 102 0).1 k = σ.1 k := fun k q1 q2 q3 q4 q5 => (zgn q1).trans ((zgn q3).trans ((hz1 k q4 q5).trans (k2.1 k q2)))
      have ha : ∀ q, q ≠ 16 → q ≠ 43 + t → q ≠ 49 + t → (zsg (zsg σ2 202 (nI (t + 1))) 102 0).2 q = σ.2 q := fun q q1 q2 q3 => (hz2 q q2 q3).trans (k2.2 q q1)
      have hx202 : (zsg (zsg σ2 202 (nI (t + 1))) 102 0).1 202 = nI (t + 1) := (zgn (by decide)).trans (zgs _ _ _)
      have hx102 : (zsg (zsg σ2 202 (nI (t + 1))) 102 0).1 102 = 0 := zgs _ _ _
      have hy3 : (zsg (zsg σ2 202 (nI (t + 1))) 102 0).1 (1043 + t) = nI cs1.length := (zgn (by omega)).trans ((zgn (by omega)).trans hz3)
      have hy4 : (zsg (zsg σ2 202 (nI (t + 1))) 102 0).1 (1049 + t) = nI cs2.length := (zgn (by omega)).trans ((zgn (by omega)).trans hz4)
      have hy5 : ∀ i, i < cs1.length → (zsg (zsg σ2 202 (nI (t + 1))) 102 0).2 (43 + t) i = xc (cs1.getD i 0) := hz5
      have hy6 : ∀ i, i < cs2.length → (zsg (zsg σ2 202 (nI (t + 1))) 102 0).2 (49 + t) i = xc (cs2.getD i 0) := hz6
      generalize zsg (zsg σ2 202 (nI (t + 1))) 102 0 = σ' at hf ha hx202 hx102 hy3 hy4 hy5 hy6 ⊢
      -- the reference's state
      have hf' : ∀ k, k ≠ 20 → ¬ (35 ≤ k ∧ k ≤ 38) → ¬ (41 ≤ k ∧ k ≤ 43) → k ≠ 23 → (zsg (zsg (zsa τ1 16 (nI (4 * t + 2)) (τ1.1 43)) 20 0) 23 (nI (t + 1))).1 k = τ.1 k := fun k q1 q2 q3 q4 => (zgn q4).trans ((zgn (σ := zsa τ1 16 (nI (4 * t + 2)) (τ1.1 43)) q1).trans (k7.1 k q2 q3))
      have ha' : ∀ q, q ≠ 15 → q ≠ 16 → q ≠ 23 → (zsg (zsg (zsa τ1 16 (nI (4 * t + 2)) (τ1.1 43)) 20 0) 23 (nI (t + 1))).2 q = τ.2 q := fun q q1 q2 q3 => by rw [zg2, zg2, zsa_n q2]; exact k7.2.1 q q1 q2 q3
      have hm15 : ∀ i, i < 200 * t → (zsg (zsg (zsa τ1 16 (nI (4 * t + 2)) (τ1.1 43)) 20 0) 23 (nI (t + 1))).2 15 i = τ.2 15 i := fun i hi => by rw [zg2, zg2, zsa_n (by decide)]; exact k7.2.2.1 i hi
      have hm16 : ∀ i, i < 4 * t → (zsg (zsg (zsa τ1 16 (nI (4 * t + 2)) (τ1.1 43)) 20 0) 23 (nI (t + 1))).2 16 i = τ.2 16 i := fun i hi => by
        rw [zg2, zg2, zsa_q (by omega)]
        unfold upd
        rw [if_neg (by omega)]
        exact k7.2.2.2 i hi
      have hn15 : ∀ i, i < cs1.length + cs2.length → (zsg (zsg (zsa τ1 16 (nI (4 * t + 2)) (τ1.1 43)) 20 0) 23 (nI (t + 1))).2 15 (200 * t + i) = mc ((cs1 ++ cs2).getD i 0) := fun i hi => by rw [zg2, zg2, zsa_n (by decide)]; exact k9 i hi
      have hs0 : (zsg (zsg (zsa τ1 16 (nI (4 * t + 2)) (τ1.1 43)) 20 0) 23 (nI (t + 1))).2 16 (4 * t) = nI 0 := by
        rw [zg2, zg2, zsa_q (by omega)]
        unfold upd
        rw [if_neg (by omega)]
        exact k10
      have hs1 : (zsg (zsg (zsa τ1 16 (nI (4 * t + 2)) (τ1.1 43)) 20 0) 23 (nI (t + 1))).2 16 (4 * t + 1) = nI cs1.length := by
        rw [zg2, zg2, zsa_q (by omega)]
        unfold upd
        rw [if_neg (by omega)]
        exact k11
      have hs2 : (zsg (zsg (zsa τ1 16 (nI (4 * t + 2)) (τ1.1 43)) 20 0) 23 (nI (t + 1))).2 16 (4 * t + 2) = nI (cs1.length + cs2.length) := by
        rw [zg2, zg2, zsa_q (by omega)]
        unfold upd
        rw [if_pos rfl]
        exact k8
      have hx20 : (zsg (zsg (zsa τ1 16 (nI (4 * t + 2)) (τ1.1 43)) 20 0) 23 (nI (t + 1))).1 20 = 0 := (zgn (by decide)).trans (zgs _ _ _)
      have hx23 : (zsg (zsg (zsa τ1 16 (nI (4 * t + 2)) (τ1.1 43)) 20 0) 23 (nI (t + 1))).1 23 = nI (t + 1) := zgs _ _ _
      generalize zsg (zsg (zsa τ1 16 (nI (4 * t + 2)) (τ1.1 43)) 20 0) 23 (nI (t + 1)) = τ' at hf' ha' hm15 hm16 hn15 hs0 hs1 hs2 hx20 hx23 ⊢
      have hLX : ∀ c n e m, LX σ c n e m → LX σ' c n e m := by
        intro c n e m hL
        obtain ⟨a, b, q1, q2, q3, q4, q5, q6, q7, q8, q9, q10⟩ := hL
        have ea : a = 43 + r := by rw [g6] at q3; exact ((nI_eq (by omega) (by omega)).mp q3).symm
        have eb : b = 49 + r := by rw [g7] at q4; exact ((nI_eq (by omega) (by omega)).mp q4).symm
        subst ea eb
        refine ⟨43 + r, 49 + r, q1, q2, ?_, ?_, ?_, ?_, q7, q8, ?_, ?_⟩
        · rw [hf 305 (by omega) (by omega) (by omega) (by omega) (by omega)]; exact q3
        · rw [hf 306 (by omega) (by omega) (by omega) (by omega) (by omega)]; exact q4
        · unfold zln at q5 ⊢; rw [hf _ (by omega) (by omega) (by omega) (by omega) (by omega)]; exact q5
        · unfold zln at q6 ⊢; rw [hf _ (by omega) (by omega) (by omega) (by omega) (by omega)]; exact q6
        · intro i hi; rw [ha _ (by omega) (by omega) (by omega)]; exact q9 i hi
        · intro i hi; rw [ha _ (by omega) (by omega) (by omega)]; exact q10 i hi
      refine R_txt hR (fun k q1 q2 q3 q4 => hf k q1 q2 q3 (by omega) (by omega)) (fun q q1 q2 => ha q q1 (by omega) (by omega)) hf' ha' hx102 hx20 hLX (LM_p g5 g4 (by omega) (hf' 24 (by omega) (by omega) (by omega) (by omega)) hm15 hm16) (fun x hx => by rw [hx23]; rw [g3] at hx; exact Int32.lt_of_lt_of_le hx (nI_le (by omega) (by omega))) ?_
      refine R8_iff.mpr ⟨by rw [hx202, hx23], by rw [hf 14 (by omega) (by omega) (by omega) (by omega) (by omega), hf' 24 (by omega) (by omega) (by omega) (by omega)]; exact h2, t + 1, r, by omega, by omega, hx23, by omega, by rw [hf' 24 (by omega) (by omega) (by omega) (by omega)]; exact g5, by rw [hf 305 (by omega) (by omega) (by omega) (by omega) (by omega)]; exact g6, by rw [hf 306 (by omega) (by omega) (by omega) (by omega) (by omega)]; exact g7, fun u hu => ?_⟩
      by_cases hut : u = t
      · subst hut
        exact ⟨fun i => cs1.getD i 0, fun i => cs2.getD i 0, cs1.length, cs2.length, ⟨wfc_of cs1 0 0 _ (fun i _ => by rw [Nat.zero_add]) k12, wfc_of cs2 0 0 _ (fun i _ => by rw [Nat.zero_add]) k13⟩, k14, hy3, hy4, hs0, hs1, hs2, fun i hi => ⟨hy5 i hi, by rw [hn15 i (by omega), getD_l hi]⟩, fun i hi => ⟨hy6 i hi, by rw [hn15 _ (by omega), getD_r]⟩⟩
      · exact T8_s (T := t) (by omega) (hf _ (by omega) (by omega) (by omega) (by omega) (by omega)) (hf _ (by omega) (by omega) (by omega) (by omega) (by omega)) (ha _ (by omega) (by omega) (by omega)) (ha _ (by omega) (by omega) (by omega)) hm15 hm16 (g8 u (by omega))
