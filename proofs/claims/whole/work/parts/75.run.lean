/-! ===== a machine for an E, told apart from both ===== -/
def rk (s : Nat) : Nat := if s = 0 then 0 else if s = 20002 then 1 else if s = 20003 then 2 else if s = 20000 then 3 else if s = 20004 ∨ s = 20005 then 4 else if s = 20006 ∨ s = 20007 then 5 else if s = 20008 then 6 else 7
def vh (s : Nat) : Prop := s = 0 ∨ (20000 ≤ s ∧ s ≤ 20008)
def hs (s : Nat) : Int32 := if s = 0 then 0 else mc s
def unw (r : Nat) : List Nat → List Nat → List Nat × List Nat
  | [], out => ([], out)
  | s :: H, out => if r ≤ rk s then unw r H (out ++ [s]) else (s :: H, out)
def oc : List Nat → Nat
  | [] => 0
  | s :: H => oc H + (if s = 0 ∨ s = 20000 ∨ s = 20001 then 1 else 0)
def topr : List Nat → Nat
  | [] => 0
  | s :: _ => rk s
def hst (f : Nat → Int32) : List Nat → Prop
  | [] => True
  | s :: H => f H.length = hs s ∧ vh s ∧ hst f H
theorem hst_up {f : Nat → Int32} {v : Int32} : ∀ (H : List Nat) {k : Nat}, H.length ≤ k → hst f H → hst (upd f k v) H
  | [], _, _, _ => trivial
  | s :: H, k, hk, h => by
    have hk' : H.length + 1 ≤ k := hk
    refine ⟨?_, h.2.1, hst_up H (by omega) h.2.2⟩
    unfold upd
    rw [if_neg (by omega)]
    exact h.1
def no (b : Nat) : Option (Bool × Nat × List Nat × Nat) := some (false, b, [], 0)
def run (T : Nat → Nat) (n : Nat) : Nat → Nat → List Nat → List Nat → Nat → Option (Bool × Nat × List Nat × Nat)
  | 0, _, _, _, _ => none
  | N + 1, w, H, out, a =>
    if w = 0 then
      if tK T n a = 30006 then (if (unw 1 H out).1 = [] then some (true, tB T n a, (unw 1 H out).2, tE T n a) else no (tB T n a))
      else if tK T n a = 30005 then (if (unw 1 H out).1 = [] then no (tB T n a) else run T n N 0 (unw 7 (unw 1 H out).1.tail (unw 1 H out).2).1 (unw 7 (unw 1 H out).1.tail (unw 1 H out).2).2 (tE T n a))
      else if 20002 ≤ tK T n a ∧ tK T n a ≤ 20008 then
        (if rk (tK T n a) = 4 ∧ topr (unw (if rk (tK T n a) = 4 then 5 else rk (tK T n a)) H out).1 = 4 then no (tB T n a)
        else run T n N (if tK T n a ≤ 20003 then 2 else 1) (tK T n a :: (unw (if rk (tK T n a) = 4 then 5 else rk (tK T n a)) H out).1) (unw (if rk (tK T n a) = 4 then 5 else rk (tK T n a)) H out).2 (tE T n a))
      else no (tB T n a)
    else
      if tK T n a < 20000 then run T n N 0 (unw 7 H (out ++ [tK T n a])).1 (unw 7 H (out ++ [tK T n a])).2 (tE T n a)
      else if tK T n a = 20000 ∧ w = 2 then (if oc H = 5 then no (tB T n a) else run T n N 2 (20000 :: H) out (tE T n a))
      else if tK T n a = 20007 then (if oc H = 5 then no (tB T n a) else run T n N 1 (20001 :: H) out (tE T n a))
      else if tK T n a = 30004 then (if oc H = 5 then no (tB T n a) else run T n N 2 (0 :: H) out (tE T n a))
      else no (tB T n a)
/-! ===== the reference does as the machine ===== -/
def mz (t : Nat) (τ τ' : zS) : Prop := (∀ k, ¬ (35 ≤ k ∧ k ≤ 38) → ¬ (41 ≤ k ∧ k ≤ 43) → τ'.1 k = τ.1 k) ∧ (∀ q, q ≠ 15 → q ≠ 23 → τ'.2 q = τ.2 q) ∧ ∀ i, i < 200 * t → τ'.2 15 i = τ.2 15 i
theorem mz_rfl {t : Nat} {a : zS} : mz t a a := ⟨fun _ _ _ => rfl, fun _ _ _ => rfl, fun _ _ => rfl⟩
theorem mz_tr {t : Nat} {a b c : zS} (h : mz t a b) (g : mz t b c) : mz t a c := ⟨fun k q1 q2 => (g.1 k q1 q2).trans (h.1 k q1 q2), fun q h0 h1 => (g.2.1 q h0 h1).trans (h.2.1 q h0 h1), fun i hi => (g.2.2 i hi).trans (h.2.2 i hi)⟩
theorem mz_f {t : Nat} {a b : zS} (h : mf a b) : mz t a b := ⟨fun k q1 _ => h.1 k q1, fun q _ _ => by rw [h.2], fun i _ => by rw [h.2]⟩
theorem mz_g {t : Nat} {a τ : zS} {k : Nat} {v : Int32} (h : mz t a τ) (hk : 41 ≤ k ∧ k ≤ 43) : mz t a (zsg τ k v) := mz_tr h ⟨fun j _ _ => zgn (by omega), fun _ _ _ => rfl, fun _ _ => rfl⟩
def Rst (T : Nat → Nat) (n t : Nat) (τ0 τ : zS) (H out : List Nat) (a : Nat) : Prop := mz t τ0 τ ∧ TMc τ T n ∧ τ.1 41 = nI H.length ∧ hst (τ.2 23) H ∧ τ.1 42 = nI (oc H) ∧ τ.1 43 = nI out.length ∧ (∀ i, i < out.length → τ.2 15 (200 * t + i) = mc (out.getD i 0)) ∧ τ.1 35 = nI a ∧ a ≤ n ∧ H.length + out.length ≤ a ∧ τ.1 23 = nI t ∧ t < 6
theorem TMc_z {τ τ' : zS} {T : Nat → Nat} {n : Nat} (h1 : τ'.1 20 = τ.1 20) (h2 : τ'.2 14 = τ.2 14) (g : TMc τ T n) : TMc τ' T n := by
  unfold TMc
  rw [h1, h2]
  exact g
theorem oc_le : ∀ H : List Nat, oc H ≤ H.length
  | [] => Nat.le_refl 0
  | s :: H => by
    have := oc_le H
    show oc H + _ ≤ H.length + 1
    split <;> omega
theorem m_rank {s : Nat} (h : vh s) (τ : zS) : f_M_rank (hs s) τ = some (nI (rk s), τ) := by
  rcases (show s = 0 ∨ s = 20000 ∨ s = 20001 ∨ s = 20002 ∨ s = 20003 ∨ s = 20004 ∨ s = 20005 ∨ s = 20006 ∨ s = 20007 ∨ s = 20008 by unfold vh at h; omega) with rfl | rfl | rfl | rfl | rfl | rfl | rfl | rfl | rfl | rfl <;> rfl
theorem rk_le (s : Nat) : rk s ≤ 7 := by
  unfold rk
  repeat' split
  all_goals omega
theorem getD_app {l : List Nat} {s i : Nat} : (l ++ [s]).getD i 0 = if i < l.length then l.getD i 0 else if i = l.length then s else 0 := by
  by_cases h : i < l.length
  · rw [if_pos h]
    simp [List.getD, List.getElem?_append_left h]
  · rw [if_neg h]
    by_cases h2 : i = l.length
    · rw [if_pos h2, h2]
      simp [List.getD]
    · rw [if_neg h2]
      have : (l ++ [s])[i]? = none := List.getElem?_eq_none (by simp; omega)
      simp [List.getD, this]
theorem m_puts {T : Nat → Nat} {n t s a : Nat} {τ0 τ : zS} {H out : List Nat} (h : Rst T n t τ0 τ H out a) (hl : H.length + out.length + 1 ≤ a) : ∃ τ', f_M_puts (mc s) τ = some (0, τ') ∧ Rst T n t τ0 τ' H (out ++ [s]) a ∧ ∀ k, k ≠ 43 → τ'.1 k = τ.1 k := by
  obtain ⟨h1, h2, h3, h4, h5, h6, h7, h8, h9, h10, h11, h12⟩ := h
  have hn := h2.2.1
  unfold f_M_puts
  have e1 : (200 : Int32) * τ.1 23 + τ.1 43 = nI (200 * t + out.length) := by rw [h11, h6, show (200 : Int32) = nI 200 from rfl, nI_mul, nI_add]
  rw [e1, zin_n (by omega) (by decide), zlt_s, zlt_s]
  refine ⟨_, rfl, ⟨?_, ?_, ?_, ?_, ?_, ?_, ?_, ?_, h9, ?_, ?_, h12⟩, fun k hk => zgn hk⟩
  · refine mz_g (mz_tr h1 ⟨fun _ _ _ => rfl, fun q q1 q2 => zsa_n q1, fun i hi => ?_⟩) (by omega)
    rw [zsa_q (by omega)]
    unfold upd
    rw [if_neg (by omega)]
  · refine TMc_z ?_ ?_ h2
    · rw [zgn (by decide)]; rfl
    · rw [zg2, zsa_n (by decide)]
  · rw [zgn (by decide)]; exact h3
  · rw [zg2, zsa_n (by decide)]; exact h4
  · rw [zgn (by decide)]; exact h5
  · have e43 : (zsa τ 15 (nI (200 * t + out.length)) (mc s)).1 43 = τ.1 43 := rfl
    rw [zgs, e43, h6, nI_1, List.length_append]
    rfl
  · intro i hi
    rw [List.length_append] at hi
    have hi : i < out.length + 1 := hi
    rw [zg2, zsa_q (by omega), getD_app]
    unfold upd
    by_cases e : i = out.length
    · rw [if_pos (by omega), if_neg (by omega), if_pos e]
    · rw [if_neg (by omega), if_pos (by omega)]
      exact h7 i (by omega)
  · rw [zgn (by decide)]; exact h8
  · rw [List.length_append]
    show H.length + (out.length + 1) ≤ a
    omega
  · rw [zgn (by decide)]; exact h11
theorem hs_mc {s : Nat} (h : ¬ s = 0) : hs s = mc s := if_neg h
theorem oc_c {s : Nat} {H : List Nat} (h : ¬ s = 0) : oc (s :: H) = oc H + (if s = 20000 ∨ s = 20001 then 1 else 0) := by
  show oc H + _ = _
  congr 1
  by_cases e : s = 20000 ∨ s = 20001
  · rw [if_pos (Or.inr e), if_pos e]
  · rw [if_neg (by omega), if_neg e]
theorem m_unwL {T : Nat → Nat} {n t a r : Nat} {τ0 : zS} (hr : 1 ≤ r) (hr7 : r ≤ 7) : ∀ (H out : List Nat) (f : Nat) (τ : zS), Rst T n t τ0 τ H out a → H.length < f → ∃ τ', f_M_unwinds_0 f (nI r) τ = some (0, τ') ∧ Rst T n t τ0 τ' (unw r H out).1 (unw r H out).2 a ∧ τ'.1 36 = τ.1 36 ∧ τ'.1 37 = τ.1 37
  | [], out, f, τ, h, hf => by
    obtain ⟨f, rfl⟩ : ∃ m, f = m + 1 := ⟨f - 1, by omega⟩
    refine ⟨τ, ?_, h, rfl, rfl⟩
    show f_M_unwinds_0b _ _ _ = _
    unfold f_M_unwinds_0b
    have e : τ.1 41 = nI 0 := h.2.2.1
    rw [e, if_pos (show nI 0 ≤ 0 by decide)]
  | s :: H, out, f, τ, h, hf => by
    obtain ⟨f, rfl⟩ : ∃ m, f = m + 1 := ⟨f - 1, by omega⟩
    have hf' : H.length + 1 < f + 1 := hf
    have h0 := h
    obtain ⟨h1, h2, h3, ⟨k1, k2, k3⟩, h5, h6, h7, h8, h9, h10, h11, h12⟩ := h
    have hn := h2.2.1
    have h10' : H.length + 1 + out.length ≤ a := h10
    have h3' : τ.1 41 = nI (H.length + 1) := h3
    have e0 : f_M_unwinds_0 (f + 1) (nI r) τ = f_M_unwinds_0b (fun x1 σ => f_M_unwinds_0 f x1 σ) (nI r) τ := rfl
    rw [e0]
    unfold f_M_unwinds_0b f_M_unwinds_62 f_M_unwinds_67
    rw [h3', if_neg (nI_nle (by omega) (by omega)), nI_s1 (by omega), Nat.add_sub_cancel, zin_n (by omega) (by decide), nI_clamp (by omega), k1, m_rank k2, zbd_s]
    dsimp only
    have hrk := rk_le s
    by_cases hlt : r ≤ rk s
    · rw [if_neg (nI_nlt hlt (by omega)), zlt_s]
      have hs0 : ¬ s = 0 := by
        intro e
        rw [e] at hlt
        have : rk 0 = 0 := rfl
        omega
      rw [h3', nI_s1 (by omega), Nat.add_sub_cancel, zgs, zin_n (by omega) (by decide), zlt_s, nI_clamp (by omega), zg2, k1, hs_mc hs0, zgn (show 42 ≠ 41 by decide), h5]
      have hu : unw r (s :: H) out = unw r H (out ++ [s]) := if_pos hlt
      rw [hu]
      have hgo : ∀ y : Int32, nI (oc (s :: H)) - y = nI (oc H) → ∃ τ', (zlt (zsg (zsg τ 41 (nI H.length)) 42 (nI (oc (s :: H)) - y)) fun σ1 => zbd (f_M_puts (mc s) σ1) fun _ σ2 => f_M_unwinds_0 f (nI r) σ2) = some (0, τ') ∧ Rst T n t τ0 τ' (unw r H (out ++ [s])).1 (unw r H (out ++ [s])).2 a ∧ τ'.1 36 = τ.1 36 ∧ τ'.1 37 = τ.1 37 := by
        intro y hy
        rw [zlt_s, hy]
        have hR1 : Rst T n t τ0 (zsg (zsg τ 41 (nI H.length)) 42 (nI (oc H))) H out a := by
          refine ⟨mz_g (mz_g h1 (by omega)) (by omega), TMc_z ((zgn (by decide)).trans (zgn (by decide))) rfl h2, (zgn (by decide)).trans (zgs _ _ _), k3, zgs _ _ _, ?_, h7, ?_, h9, by omega, ?_, h12⟩
          · rw [zgn (by decide), zgn (by decide)]; exact h6
          · rw [zgn (by decide), zgn (by decide)]; exact h8
          · rw [zgn (by decide), zgn (by decide)]; exact h11
        obtain ⟨τ1, p1, p2, p36⟩ := m_puts (s := s) hR1 (by omega)
        obtain ⟨τ2, q1, q2, q3, q4⟩ := m_unwL hr hr7 H (out ++ [s]) f τ1 p2 (by omega)
        rw [p1, zbd_s]
        refine ⟨τ2, q1, q2, ?_, ?_⟩
        · rw [q3, p36 36 (by decide), zgn (by decide), zgn (by decide)]
        · rw [q4, p36 37 (by decide), zgn (by decide), zgn (by decide)]
      have hoc := oc_c (s := s) (H := H) hs0
      have hsv : 20000 ≤ s ∧ s ≤ 20008 := by unfold vh at k2; omega
      by_cases e1 : s = 20000
      · rw [if_pos (show mc s = 13 by rw [e1]; rfl)]
        exact hgo 1 (by rw [hoc, if_pos (Or.inl e1), nI_s1 (by omega), Nat.add_sub_cancel])
      · by_cases e2 : s = 20001
        · rw [if_neg (show ¬ mc s = 13 by rw [e2]; decide), if_pos (show mc s = 19 by rw [e2]; rfl)]
          exact hgo 1 (by rw [hoc, if_pos (Or.inr e2), nI_s1 (by omega), Nat.add_sub_cancel])
        · have hne : ¬ mc s = 13 ∧ ¬ mc s = 19 := by
            rcases (show s = 20002 ∨ s = 20003 ∨ s = 20004 ∨ s = 20005 ∨ s = 20006 ∨ s = 20007 ∨ s = 20008 by omega) with rfl | rfl | rfl | rfl | rfl | rfl | rfl <;> decide
          rw [if_neg hne.1, if_neg hne.2]
          exact hgo 0 (by rw [hoc, if_neg (by omega), Nat.add_zero, Int32.sub_zero])
    · rw [if_pos (nI_lt (by omega) (by omega))]
      have hu : unw r (s :: H) out = (s :: H, out) := if_neg hlt
      rw [hu]
      exact ⟨τ, rfl, h0, rfl, rfl⟩
theorem m_unw {T : Nat → Nat} {n t a r : Nat} {τ0 τ : zS} {H out : List Nat} (hr : 1 ≤ r) (hr7 : r ≤ 7) (h : Rst T n t τ0 τ H out a) : ∃ τ', f_M_unwinds (nI r) τ = some (0, τ') ∧ Rst T n t τ0 τ' (unw r H out).1 (unw r H out).2 a ∧ τ'.1 36 = τ.1 36 ∧ τ'.1 37 = τ.1 37 := by
  have h10 := h.2.2.2.2.2.2.2.2.2.1
  have hn := h.2.1.2.1
  have h9 := h.2.2.2.2.2.2.2.2.1
  exact m_unwL hr hr7 H out zfu τ h (by unfold zfu; omega)
