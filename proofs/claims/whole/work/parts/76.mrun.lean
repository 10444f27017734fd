/-! ===== the reference's E ===== -/
theorem mtk_c {q : Nat} (h : vt q) : (mtk q = 59 ↔ q = 30006) ∧ (mtk q = 41 ↔ q = 30005) ∧ (mtk q = 1 ↔ q < 10000) ∧ (mtk q = 2 ↔ (10000 ≤ q ∧ q < 20000)) ∧ (mtk q = 6 ↔ q = 20000) ∧ (mtk q = 45 ↔ q = 20007) ∧ (mtk q = 40 ↔ q = 30004) ∧ (mtk q = 0 ↔ q = 30000) ∧ (mtk q = 3 ↔ (q = 30002 ∨ q = 30003)) := by
  by_cases h1 : q < 10000
  · have e : mtk q = 1 := if_pos h1
    rw [e]
    refine ⟨?_, ?_, ?_, ?_, ?_, ?_, ?_, ?_, ?_⟩ <;> constructor <;> intro w <;> first | omega | exact absurd w (by decide) | rfl
  · by_cases h2 : q < 20000
    · have e : mtk q = 2 := by unfold mtk; rw [if_neg h1, if_pos h2]
      rw [e]
      refine ⟨?_, ?_, ?_, ?_, ?_, ?_, ?_, ?_, ?_⟩ <;> constructor <;> intro w <;> first | omega | exact absurd w (by decide) | rfl
    · rcases (show q = 20000 ∨ q = 20002 ∨ q = 20003 ∨ q = 20004 ∨ q = 20005 ∨ q = 20006 ∨ q = 20007 ∨ q = 20008 ∨ q = 30000 ∨ q = 30001 ∨ q = 30002 ∨ q = 30003 ∨ q = 30004 ∨ q = 30005 ∨ q = 30006 by unfold vt at h; omega) with rfl | rfl | rfl | rfl | rfl | rfl | rfl | rfl | rfl | rfl | rfl | rfl | rfl | rfl | rfl <;> decide
theorem m_signOf {q : Nat} (h : vt q) {τ : zS} (h7 : τ.1 37 = mtk q) : f_M_signOf τ = some (if 20002 ≤ q ∧ q ≤ 20008 then mc q else -1, τ) := by
  unfold f_M_signOf
  rw [h7]
  by_cases h1 : q < 10000
  · have e : mtk q = 1 := if_pos h1
    rw [e, if_neg (show ¬ (20002 ≤ q ∧ q ≤ 20008) by omega)]
    rfl
  · by_cases h2 : q < 20000
    · have e : mtk q = 2 := by unfold mtk; rw [if_neg h1, if_pos h2]
      rw [e, if_neg (show ¬ (20002 ≤ q ∧ q ≤ 20008) by omega)]
      rfl
    · rcases (show q = 20000 ∨ q = 20002 ∨ q = 20003 ∨ q = 20004 ∨ q = 20005 ∨ q = 20006 ∨ q = 20007 ∨ q = 20008 ∨ q = 30000 ∨ q = 30001 ∨ q = 30002 ∨ q = 30003 ∨ q = 30004 ∨ q = 30005 ∨ q = 30006 by unfold vt at h; omega) with rfl | rfl | rfl | rfl | rfl | rfl | rfl | rfl | rfl | rfl | rfl | rfl | rfl | rfl | rfl <;> rfl
theorem m_nextR {T : Nat → Nat} {n t a : Nat} {τ0 τ : zS} {H out : List Nat} (h : Rst T n t τ0 τ H out a) : ∃ τ', f_M_next τ = some (0, τ') ∧ Rst T n t τ0 τ' H out (tE T n a) ∧ τ'.1 36 = nI (tB T n a) ∧ τ'.1 37 = mtk (tK T n a) ∧ ((tK T n a < 10006 ∨ tK T n a = 30002 ∨ tK T n a = 30003) → τ'.1 38 = nI (mvl (tK T n a))) := by
  obtain ⟨h1, h2, h3, h4, h5, h6, h7, h8, h9, h10, h11, h12⟩ := h
  obtain ⟨τ', k1, k2, k3, k4, k5, k6⟩ := m_next h2 h9 h8
  have hE := tE_b (T := T) h9
  refine ⟨τ', k1, ⟨mz_tr h1 (mz_f k2), TMc_s k2 h2, ?_, ?_, ?_, ?_, ?_, k4, hE.2.1, by omega, ?_, h12⟩, k3, k5, k6⟩
  · rw [k2.1 41 (by omega)]; exact h3
  · rw [k2.2]; exact h4
  · rw [k2.1 42 (by omega)]; exact h5
  · rw [k2.1 43 (by omega)]; exact h6
  · rw [k2.2]; exact h7
  · rw [k2.1 23 (by omega)]; exact h11
theorem m_holds {T : Nat → Nat} {n t a s : Nat} {τ0 τ : zS} {H out : List Nat} (h : Rst T n t τ0 τ H out a) (hl : H.length + out.length + 1 ≤ a) (hs1 : 20002 ≤ s ∧ s ≤ 20008) : ∃ τ', f_M_holds (mc s) τ = some (0, τ') ∧ Rst T n t τ0 τ' (s :: H) out a ∧ τ'.1 36 = τ.1 36 := by
  obtain ⟨h1, h2, h3, h4, h5, h6, h7, h8, h9, h10, h11, h12⟩ := h
  have hn := h2.2.1
  unfold f_M_holds
  rw [h3, zin_n (by omega) (by decide), zlt_s, zlt_s]
  have e41 : (zsa τ 23 (nI H.length) (mc s)).1 41 = τ.1 41 := rfl
  rw [e41, h3, nI_1]
  refine ⟨_, rfl, ⟨?_, ?_, ?_, ⟨?_, ?_, ?_⟩, ?_, ?_, ?_, ?_, h9, ?_, ?_, h12⟩, zgn (by decide)⟩
  · exact mz_g (mz_tr h1 ⟨fun _ _ _ => rfl, fun q q1 q2 => zsa_n q2, fun i hi => by rw [zsa_n (by decide)]⟩) (by omega)
  · refine TMc_z ?_ ?_ h2
    · rw [zgn (by decide)]; rfl
    · rw [zg2, zsa_n (by decide)]
  · rw [zgs]; rfl
  · rw [zg2, zsa_q (by omega), hs_mc (by omega)]
    unfold upd
    rw [if_pos rfl]
  · unfold vh; omega
  · rw [zg2, zsa_q (by omega)]
    exact hst_up H (Nat.le_refl _) h4
  · rw [zgn (by decide), oc_c (by omega), if_neg (by omega), Nat.add_zero]; exact h5
  · rw [zgn (by decide)]; exact h6
  · rw [zg2, zsa_n (by decide)]; exact h7
  · rw [zgn (by decide)]; exact h8
  · show H.length + 1 + out.length ≤ a
    omega
  · rw [zgn (by decide)]; exact h11
theorem m_opens {T : Nat → Nat} {n t a s : Nat} {τ0 τ : zS} {H out : List Nat} (h : Rst T n t τ0 τ H out a) (hl : H.length + out.length + 1 ≤ a) (ho : oc H ≤ 5) (hs1 : s = 0 ∨ s = 20000 ∨ s = 20001) : ∃ τ', f_M_opensOne (hs s) τ = some (bI (¬ oc H = 5), τ') ∧ mz t τ0 τ' ∧ τ'.1 36 = τ.1 36 ∧ (¬ oc H = 5 → Rst T n t τ0 τ' (s :: H) out a) := by
  obtain ⟨h1, h2, h3, h4, h5, h6, h7, h8, h9, h10, h11, h12⟩ := h
  have hn := h2.2.1
  unfold f_M_opensOne f_M_holds
  rw [h5]
  by_cases h0 : oc H = 5
  · rw [if_pos (show nI (oc H) = 5 by rw [h0]; rfl), bI_f (fun q => q h0)]
    exact ⟨τ, rfl, h1, rfl, fun q => absurd h0 q⟩
  · rw [if_neg (show ¬ nI (oc H) = 5 from fun q => h0 ((nI_eq (b := 5) (by omega) (by decide)).mp q)), bI_t h0, zlt_s, zgn (show 41 ≠ 42 by decide), h3, zin_n (by omega) (by decide), zlt_s, zlt_s, nI_1]
    have e41 : (zsa (zsg τ 42 (nI (oc H + 1))) 23 (nI H.length) (hs s)).1 41 = τ.1 41 := zgn (σ := τ) (k := 42) (j := 41) (v := nI (oc H + 1)) (by decide)
    rw [e41, h3, nI_1, zbd_s]
    refine ⟨_, rfl, ?_, ?_, fun _ => ⟨?_, ?_, ?_, ⟨?_, ?_, ?_⟩, ?_, ?_, ?_, ?_, h9, ?_, ?_, h12⟩⟩
    · exact mz_g (mz_tr (mz_g h1 (by omega)) ⟨fun _ _ _ => rfl, fun q q1 q2 => zsa_n q2, fun i hi => by rw [zsa_n (by decide)]⟩) (by omega)
    · rw [zgn (by decide)]; exact zgn (σ := τ) (k := 42) (j := 36) (v := nI (oc H + 1)) (by decide)
    · exact mz_g (mz_tr (mz_g h1 (by omega)) ⟨fun _ _ _ => rfl, fun q q1 q2 => zsa_n q2, fun i hi => by rw [zsa_n (by decide)]⟩) (by omega)
    · refine TMc_z ?_ ?_ h2
      · rw [zgn (by decide)]; exact zgn (σ := τ) (k := 42) (j := 20) (v := nI (oc H + 1)) (by decide)
      · rw [zg2, zsa_n (by decide), zg2]
    · rw [zgs]; rfl
    · rw [zg2, zsa_q (by omega)]
      unfold upd
      rw [if_pos rfl]
    · unfold vh; omega
    · rw [zg2, zsa_q (by omega), zg2]
      exact hst_up H (Nat.le_refl _) h4
    · rw [zgn (by decide)]
      show (zsg τ 42 (nI (oc H + 1))).1 42 = nI (oc H + _)
      rw [zgs, if_pos hs1]
    · rw [zgn (by decide)]
      show (zsg τ 42 (nI (oc H + 1))).1 43 = _
      rw [zgn (by decide)]; exact h6
    · rw [zg2, zsa_n (by decide), zg2]; exact h7
    · rw [zgn (by decide)]
      show (zsg τ 42 (nI (oc H + 1))).1 35 = _
      rw [zgn (by decide)]; exact h8
    · show H.length + 1 + out.length ≤ a
      omega
    · rw [zgn (by decide)]
      show (zsg τ 42 (nI (oc H + 1))).1 23 = _
      rw [zgn (by decide)]; exact h11
theorem unw_len (r : Nat) : ∀ (H out : List Nat), (unw r H out).1.length + (unw r H out).2.length = H.length + out.length
  | [], out => rfl
  | s :: H, out => by
    have h := unw_len r H (out ++ [s])
    rw [List.length_append] at h
    have h : (unw r H (out ++ [s])).1.length + (unw r H (out ++ [s])).2.length = H.length + (out.length + 1) := h
    by_cases e : r ≤ rk s
    · have hu : unw r (s :: H) out = unw r H (out ++ [s]) := if_pos e
      rw [hu, List.length_cons]; omega
    · have hu : unw r (s :: H) out = (s :: H, out) := if_neg e
      rw [hu]
theorem unw_oc (r : Nat) : ∀ (H out : List Nat), oc (unw r H out).1 ≤ oc H
  | [], out => Nat.le_refl _
  | s :: H, out => by
    have h := unw_oc r H (out ++ [s])
    by_cases e : r ≤ rk s
    · have hu : unw r (s :: H) out = unw r H (out ++ [s]) := if_pos e
      rw [hu]
      show _ ≤ oc H + _
      omega
    · have hu : unw r (s :: H) out = (s :: H, out) := if_neg e
      rw [hu]
      exact Nat.le_refl _
theorem rk_4 {q : Nat} : (nI (rk q) = 4) = (rk q = 4) := propext (nI_eq (b := 4) (by have := rk_le q; omega) (by decide))
theorem m_btw17 {T : Nat → Nat} {n t a q r : Nat} {τ0 τ : zS} {H out : List Nat} (h : Rst T n t τ0 τ H out a) (hl : H.length + out.length + 1 ≤ a) (hq : 20002 ≤ q ∧ q ≤ 20008) (hr : 1 ≤ r) (hr7 : r ≤ 7) : ∃ τ', f_M_between_17 (mc q) (nI r) τ = some (bI (¬ (rk q = 4 ∧ topr (unw r H out).1 = 4)), τ') ∧ mz t τ0 τ' ∧ τ'.1 36 = τ.1 36 ∧ (¬ (rk q = 4 ∧ topr (unw r H out).1 = 4) → Rst T n t τ0 τ' (q :: (unw r H out).1) (unw r H out).2 a) := by
  obtain ⟨τ1, k1, k2, k3, k4⟩ := m_unw hr hr7 h
  have hlen := unw_len r H out
  have hmr : ∀ σ : zS, f_M_rank (mc q) σ = some (nI (rk q), σ) := fun σ => by
    have := m_rank (s := q) (by unfold vh; omega) σ
    rw [hs_mc (by omega)] at this
    exact this
  unfold f_M_between_17 f_M_between_55
  rw [k1, zbd_s]
  dsimp only
  rw [hmr, zbd_s]
  dsimp only
  obtain ⟨τ2, l1, l2, l3⟩ := m_holds (s := q) k2 (by omega) hq
  have hgo : zbd (f_M_holds (mc q) τ1) (fun _ σ1 => some ((1 : Int32), σ1)) = some (1, τ2) := by rw [l1, zbd_s]
  rw [hgo]
  have hend : (¬ (rk q = 4 ∧ topr (unw r H out).1 = 4)) → ∃ τ', some ((1 : Int32), τ2) = some (bI (¬ (rk q = 4 ∧ topr (unw r H out).1 = 4)), τ') ∧ mz t τ0 τ' ∧ τ'.1 36 = τ.1 36 ∧ (¬ (rk q = 4 ∧ topr (unw r H out).1 = 4) → Rst T n t τ0 τ' (q :: (unw r H out).1) (unw r H out).2 a) := fun hne => ⟨τ2, by rw [bI_t hne], l2.1, l3.trans k3, fun _ => l2⟩
  by_cases h4 : rk q = 4
  · rw [if_pos (rk_4.mpr h4)]
    cases hU : (unw r H out).1 with
    | nil =>
      rw [hU] at k2 hend
      rw [k2.2.2.1, if_pos (show nI ([] : List Nat).length ≤ 0 by decide)]
      exact hend (fun w => absurd w.2 (by decide))
    | cons s U =>
      rw [hU] at k2 hend hlen
      obtain ⟨j1, j2, j3⟩ := k2.2.2.2.1
      have hn := k2.2.1.2.1
      have hle := k2.2.2.2.2.2.2.2.2.2.1
      have han := k2.2.2.2.2.2.2.2.2.1
      have hlen' : U.length + 1 + (unw r H out).2.length = H.length + out.length := hlen
      have hle' : U.length + 1 + (unw r H out).2.length ≤ a := hle
      have e41 : τ1.1 41 = nI (U.length + 1) := k2.2.2.1
      rw [e41, if_neg (nI_nle (by omega) (by omega)), nI_s1 (by omega), Nat.add_sub_cancel, zin_n (by omega) (by decide), nI_clamp (by omega), j1, m_rank j2, zbd_s]
      dsimp only
      rw [hgo]
      by_cases h5 : rk s = 4
      · rw [if_pos (rk_4.mpr h5)]
        refine ⟨τ1, ?_, k2.1, k3, fun w => absurd ⟨h4, h5⟩ w⟩
        rw [bI_f (fun w => w ⟨h4, h5⟩)]
      · rw [if_neg (fun w => h5 (rk_4.mp w))]
        exact hend (fun w => h5 w.2)
  · rw [if_neg (fun w => h4 (rk_4.mp w))]
    exact hend (fun w => h4 w.1)
theorem m_between {T : Nat → Nat} {n t a q : Nat} {τ0 τ : zS} {H out : List Nat} (h : Rst T n t τ0 τ H out a) (hl : H.length + out.length + 1 ≤ a) (hq : 20002 ≤ q ∧ q ≤ 20008) : ∃ τ', f_M_between (mc q) τ = some (bI (¬ (rk q = 4 ∧ topr (unw (if rk q = 4 then 5 else rk q) H out).1 = 4)), τ') ∧ mz t τ0 τ' ∧ τ'.1 36 = τ.1 36 ∧ (¬ (rk q = 4 ∧ topr (unw (if rk q = 4 then 5 else rk q) H out).1 = 4) → Rst T n t τ0 τ' (q :: (unw (if rk q = 4 then 5 else rk q) H out).1) (unw (if rk q = 4 then 5 else rk q) H out).2 a) := by
  have hmr : ∀ σ : zS, f_M_rank (mc q) σ = some (nI (rk q), σ) := fun σ => by
    have := m_rank (s := q) (by unfold vh; omega) σ
    rw [hs_mc (by omega)] at this
    exact this
  have hr1 : 1 ≤ rk q := by
    rcases (show q = 20002 ∨ q = 20003 ∨ q = 20004 ∨ q = 20005 ∨ q = 20006 ∨ q = 20007 ∨ q = 20008 by omega) with rfl | rfl | rfl | rfl | rfl | rfl | rfl <;> decide
  have hr7 := rk_le q
  unfold f_M_between
  rw [hmr, zbd_s]
  dsimp only
  by_cases h4 : rk q = 4
  · rw [if_pos (rk_4.mpr h4)]
    simp only [if_pos h4]
    exact m_btw17 h hl hq (by decide) (by decide)
  · rw [if_neg (fun w => h4 (rk_4.mp w)), hmr, zbd_s]
    simp only [if_neg h4]
    exact m_btw17 h hl hq hr1 hr7
