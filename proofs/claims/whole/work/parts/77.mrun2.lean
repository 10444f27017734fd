/-! ===== the reference's E does as the machine ===== -/
theorem mc_n {q : Nat} (h : q < 10000) : mc q = nI (100000 + q) := if_pos h
theorem mc_w {q : Nat} (h1 : ¬ q < 10000) (h2 : q < 20000) : mc q = nI (q - 10000) := by unfold mc; rw [if_neg h1, if_pos h2]
theorem m_run {T : Nat → Nat} {n t : Nat} {τ0 : zS} : ∀ (N w : Nat) (H out : List Nat) (a : Nat) (τ : zS) (x1 x2 : Int32), Rst T n t τ0 τ H out a → oc H ≤ 5 → ((w = 0 ∧ x1 = 0) ∨ (w = 1 ∧ x1 = 1 ∧ x2 = 0) ∨ (w = 2 ∧ x1 = 1 ∧ x2 = 1)) → ∀ (ok : Bool) (b : Nat) (o' : List Nat) (a' : Nat), run T n N w H out a = some (ok, b, o', a') → ∃ τ', f_M_eRead_14 N x1 x2 τ = some (bI (ok = true), τ') ∧ mz t τ0 τ' ∧ τ'.1 36 = nI b ∧ (ok = true → Rst T n t τ0 τ' [] o' a') := by
  intro N
  induction N with
  | zero =>
    intro w H out a τ x1 x2 _ _ _ ok b o' a' h
    exact absurd h (by intro q; cases q)
  | succ N ih =>
    intro w H out a τ x1 x2 hR ho hw ok b o' a' h
    have han := hR.2.2.2.2.2.2.2.2.1
    have hle := hR.2.2.2.2.2.2.2.2.2.1
    have hv := tK_v (T := T) han
    have hE := tE_b (T := T) han
    obtain ⟨τ1, k1, k2, k3, k4, k5⟩ := m_nextR hR
    obtain ⟨m59, m41, m1, m2, m6, m45, m40, -, -⟩ := mtk_c hv
    have e0 : f_M_eRead_14 (N + 1) x1 x2 τ = f_M_eRead_14b (fun x1 x2 σ => f_M_eRead_14 N x1 x2 σ) x1 x2 τ := rfl
    rw [e0]
    unfold f_M_eRead_14b
    rw [k1, zbd_s]
    dsimp only
    rw [k4]
    unfold run at h
    -- a refusal
    have hno : ∀ (σ : zS), mz t τ0 σ → σ.1 36 = nI (tB T n a) → no (tB T n a) = some (ok, b, o', a') → ∃ τ', some ((0 : Int32), σ) = some (bI (ok = true), τ') ∧ mz t τ0 τ' ∧ τ'.1 36 = nI b ∧ (ok = true → Rst T n t τ0 τ' [] o' a') := by
      intro σ q1 q2 q3
      unfold no at q3
      have e := Option.some.inj q3
      have e1 : ok = false := (congrArg Prod.fst e).symm
      have e2 : b = tB T n a := (congrArg (fun z => z.2.1) e).symm
      exact ⟨σ, by rw [e1]; rfl, q1, by rw [e2]; exact q2, fun w => by rw [e1] at w; exact absurd w (by decide)⟩
    rcases hw with ⟨rfl, rfl⟩ | ⟨rfl, rfl, rfl⟩ | ⟨rfl, rfl, rfl⟩
    · rw [if_pos rfl]
      rw [if_pos rfl] at h
      by_cases h1 : tK T n a = 30006
      · rw [if_pos (m59.mpr h1)]
        rw [if_pos h1] at h
        obtain ⟨τ2, u1, u2, u3, u4⟩ := m_unw (r := 1) (by decide) (by decide) k2
        have u1' : f_M_unwinds 1 τ1 = some (0, τ2) := u1
        rw [u1', zbd_s]
        dsimp only
        by_cases h2 : (unw 1 H out).1 = []
        · rw [if_pos h2] at h
          rw [h2] at u2
          have e41 : τ2.1 41 = 0 := u2.2.2.1
          rw [if_pos e41]
          have e := Option.some.inj h
          have e1 : ok = true := (congrArg Prod.fst e).symm
          have e2 : b = tB T n a := (congrArg (fun z => z.2.1) e).symm
          have e3 : o' = (unw 1 H out).2 := (congrArg (fun z => z.2.2.1) e).symm
          have e4 : a' = tE T n a := (congrArg (fun z => z.2.2.2) e).symm
          refine ⟨τ2, by rw [e1]; rfl, u2.1, by rw [e2, u3]; exact k3, fun _ => by rw [e3, e4]; exact u2⟩
        · rw [if_neg h2] at h
          have e41 : ¬ τ2.1 41 = 0 := by
            rw [u2.2.2.1]
            have hln := u2.2.2.2.2.2.2.2.2.2.1
            have hln2 := u2.2.2.2.2.2.2.2.2.1
            have hn := u2.2.1.2.1
            have hpos : 0 < (unw 1 H out).1.length := by
              cases hU : (unw 1 H out).1 with
              | nil => exact absurd hU h2
              | cons s U => exact Nat.succ_pos _
            exact nI_ne0 hpos (by omega)
          rw [if_neg e41]
          exact hno τ2 u2.1 (u3.trans k3) h
      · rw [if_neg (fun q => h1 (m59.mp q))]
        rw [if_neg h1] at h
        by_cases h2 : tK T n a = 30005
        · rw [if_pos (m41.mpr h2)]
          rw [if_pos h2] at h
          obtain ⟨τ2, u1, u2, u3, u4⟩ := m_unw (r := 1) (by decide) (by decide) k2
          have u1' : f_M_unwinds 1 τ1 = some (0, τ2) := u1
          rw [u1', zbd_s]
          dsimp only
          have hoc := unw_oc 1 H out
          cases hU : (unw 1 H out).1 with
          | nil =>
            rw [hU, if_pos rfl] at h
            rw [hU] at u2
            have e41 : τ2.1 41 = 0 := u2.2.2.1
            rw [if_pos e41]
            exact hno τ2 u2.1 (u3.trans k3) h
          | cons s U =>
            rw [hU, if_neg (by intro q; cases q)] at h
            rw [hU] at u2 hoc
            have h : run T n N 0 (unw 7 U (unw 1 H out).2).1 (unw 7 U (unw 1 H out).2).2 (tE T n a) = some (ok, b, o', a') := h
            obtain ⟨g1, g2, g3, ⟨g4a, g4b, g4c⟩, g5, g6, g7, g8, g9, g10, g11, g12⟩ := u2
            have hn := g2.2.1
            have g10' : U.length + 1 + (unw 1 H out).2.length ≤ tE T n a := g10
            have e41 : τ2.1 41 = nI (U.length + 1) := g3
            rw [e41, if_neg (nI_ne0 (by omega) (by omega)), zlt_s, nI_s1 (by omega), Nat.add_sub_cancel, zgn (show 42 ≠ 41 by decide), g5]
            have hs0 : s = 0 := by
              have : ∀ (H out : List Nat) (s : Nat) (U : List Nat), (unw 1 H out).1 = s :: U → ¬ 1 ≤ rk s := by
                intro H
                induction H with
                | nil => intro out s U e; cases e
                | cons x H ihH =>
                  intro out s U e
                  by_cases q : 1 ≤ rk x
                  · have hu : unw 1 (x :: H) out = unw 1 H (out ++ [x]) := if_pos q
                    rw [hu] at e
                    exact ihH _ s U e
                  · have hu : unw 1 (x :: H) out = (x :: H, out) := if_neg q
                    rw [hu] at e
                    have : x = s := (List.cons.inj e).1
                    rw [← this]; exact q
              have h9 := this H out s U hU
              unfold vh at g4b
              rcases g4b with g | g
              · exact g
              · exfalso
                apply h9
                rcases (show s = 20000 ∨ s = 20001 ∨ s = 20002 ∨ s = 20003 ∨ s = 20004 ∨ s = 20005 ∨ s = 20006 ∨ s = 20007 ∨ s = 20008 by omega) with rfl | rfl | rfl | rfl | rfl | rfl | rfl | rfl | rfl <;> decide
            have hocs : oc (s :: U) = oc U + 1 := by
              show oc U + _ = _
              rw [if_pos (Or.inl hs0)]
            rw [hocs, nI_s1 (by omega), Nat.add_sub_cancel, zlt_s]
            have hR3 : Rst T n t τ0 (zsg (zsg τ2 41 (nI U.length)) 42 (nI (oc U))) U (unw 1 H out).2 (tE T n a) := by
              refine ⟨mz_g (mz_g g1 (by omega)) (by omega), TMc_z ((zgn (by decide)).trans (zgn (by decide))) rfl g2, (zgn (by decide)).trans (zgs _ _ _), g4c, zgs _ _ _, ?_, g7, ?_, g9, by omega, ?_, g12⟩
              · rw [zgn (by decide), zgn (by decide)]; exact g6
              · rw [zgn (by decide), zgn (by decide)]; exact g8
              · rw [zgn (by decide), zgn (by decide)]; exact g11
            obtain ⟨τ3, v1, v2, v3, v4⟩ := m_unw (r := 7) (by decide) (by decide) hR3
            have v1' : f_M_unwinds 7 (zsg (zsg τ2 41 (nI U.length)) 42 (nI (oc U))) = some (0, τ3) := v1
            rw [v1', zbd_s]
            have hoc7 := unw_oc 7 U (unw 1 H out).2
            exact ih 0 _ _ _ τ3 0 x2 v2 (by omega) (Or.inl ⟨rfl, rfl⟩) ok b o' a' h
        · rw [if_neg (fun q => h2 (m41.mp q)), m_signOf hv k4, zbd_s]
          rw [if_neg h2] at h
          dsimp only
          by_cases h3 : 20002 ≤ tK T n a ∧ tK T n a ≤ 20008
          · rw [if_pos h3] at h
            simp only [if_pos h3]
            have hmn : ¬ mc (tK T n a) = -1 ∧ (12 < mc (tK T n a) ↔ ¬ tK T n a ≤ 20003) := by
              rcases (show tK T n a = 20002 ∨ tK T n a = 20003 ∨ tK T n a = 20004 ∨ tK T n a = 20005 ∨ tK T n a = 20006 ∨ tK T n a = 20007 ∨ tK T n a = 20008 by omega) with e | e | e | e | e | e | e <;> rw [e] <;> decide
            rw [if_neg hmn.1]
            have hsl := (hE.2.2 (by omega)).2
            have hb1 := (tB_b (T := T) han).1
            obtain ⟨τ2, u1, u2, u3, u4⟩ := m_between (q := tK T n a) k2 (by omega) h3
            rw [u1, zbd_s]
            dsimp only
            unfold f_M_eRead_262
            by_cases h4 : rk (tK T n a) = 4 ∧ topr (unw (if rk (tK T n a) = 4 then 5 else rk (tK T n a)) H out).1 = 4
            · rw [if_pos h4] at h
              rw [bI_f (fun q => q h4), if_pos rfl]
              exact hno τ2 u2 (u3.trans k3) h
            · rw [if_neg h4] at h
              rw [bI_t h4, if_neg one0]
              have hocu := unw_oc (if rk (tK T n a) = 4 then 5 else rk (tK T n a)) H out
              have hoc2 : oc (tK T n a :: (unw (if rk (tK T n a) = 4 then 5 else rk (tK T n a)) H out).1) ≤ 5 := by
                rw [oc_c (show ¬ tK T n a = 0 by omega), if_neg (show ¬ (tK T n a = 20000 ∨ tK T n a = 20001) by omega)]; omega
              by_cases h5 : tK T n a ≤ 20003
              · rw [if_pos h5] at h
                rw [if_neg (fun q => hmn.2.mp q h5)]
                exact ih 2 _ _ _ τ2 1 1 (u4 h4) hoc2 (Or.inr (Or.inr ⟨rfl, rfl, rfl⟩)) ok b o' a' h
              · rw [if_neg h5] at h
                rw [if_pos (hmn.2.mpr h5)]
                exact ih 1 _ _ _ τ2 1 0 (u4 h4) hoc2 (Or.inr (Or.inl ⟨rfl, rfl, rfl⟩)) ok b o' a' h
          · rw [if_neg h3] at h
            simp only [if_neg h3, if_true]
            exact hno τ1 k2.1 k3 h
    all_goals
      rw [if_neg one0]
      rw [if_neg (by decide)] at h
      have hsl : tK T n a ≠ 30000 → H.length + out.length + 1 ≤ tE T n a := fun q => by
        have h7 := (hE.2.2 q).2
        have h8 := (tB_b (T := T) han).1
        omega
      by_cases h1 : tK T n a < 20000
      · rw [if_pos h1] at h
        obtain ⟨τ2, p1, p2, p3⟩ := m_puts (s := tK T n a) k2 (hsl (by omega))
        obtain ⟨τ3, v1, v2, v3, v4⟩ := m_unw (r := 7) (by decide) (by decide) p2
        have v1' : f_M_unwinds 7 τ2 = some (0, τ3) := v1
        have hoc7 := unw_oc 7 H (out ++ [tK T n a])
        have hlt6 : tK T n a < 10006 := by unfold vt at hv; omega
        have k5' := k5 (Or.inl hlt6)
        have hfin : ∀ y : Int32, f_M_eRead_61 (fun x1 x2 σ => f_M_eRead_14 N x1 x2 σ) y (mc (tK T n a)) τ1 = f_M_eRead_14 N 0 y τ3 := fun y => by
          unfold f_M_eRead_61
          rw [p1, zbd_s]
          dsimp only
          rw [v1', zbd_s]
        by_cases h2 : tK T n a < 10000
        · rw [if_pos (m1.mpr h2)]
          unfold f_M_eRead_38
          rw [k4, if_pos (m1.mpr h2), k5', show mvl (tK T n a) = tK T n a from if_pos h2, show (100000 : Int32) + nI (tK T n a) = nI (100000 + tK T n a) from nI_add 100000 _, ← mc_n h2, hfin]
          exact ih 0 _ _ _ τ3 0 _ v2 (by omega) (Or.inl ⟨rfl, rfl⟩) ok b o' a' h
        · rw [if_neg (fun q => h2 (m1.mp q)), if_pos (m2.mpr ⟨by omega, h1⟩)]
          unfold f_M_eRead_38
          rw [k4, if_neg (fun q => h2 (m1.mp q)), k5', show mvl (tK T n a) = tK T n a - 10000 by unfold mvl; rw [if_neg h2, if_pos h1], ← mc_w h2 h1, hfin]
          exact ih 0 _ _ _ τ3 0 _ v2 (by omega) (Or.inl ⟨rfl, rfl⟩) ok b o' a' h
      · rw [if_neg h1] at h
        rw [if_neg (fun q => h1 (by have := m1.mp q; omega)), if_neg (fun q => h1 (m2.mp q).2)]
        have h99 : ¬ (tK T n a = 20000) ∨ True := Or.inr trivial
        have hcont : ∀ {ok : Bool} {b : Nat} {o' : List Nat} {a' : Nat} (x : Int32), (if tK T n a = 20007 then (if oc H = 5 then no (tB T n a) else run T n N 1 (20001 :: H) out (tE T n a)) else if tK T n a = 30004 then (if oc H = 5 then no (tB T n a) else run T n N 2 (0 :: H) out (tE T n a)) else no (tB T n a)) = some (ok, b, o', a') → (∀ (σ : zS), mz t τ0 σ → σ.1 36 = nI (tB T n a) → no (tB T n a) = some (ok, b, o', a') → ∃ τ', some ((0 : Int32), σ) = some (bI (ok = true), τ') ∧ mz t τ0 τ' ∧ τ'.1 36 = nI b ∧ (ok = true → Rst T n t τ0 τ' [] o' a')) → ∃ τ', f_M_eRead_99 (fun x1 x2 σ => f_M_eRead_14 N x1 x2 σ) 1 τ1 = some (bI (ok = true), τ') ∧ mz t τ0 τ' ∧ τ'.1 36 = nI b ∧ (ok = true → Rst T n t τ0 τ' [] o' a') := by
          intro ok b o' a' _ h hno
          unfold f_M_eRead_99
          rw [k4]
          by_cases h3 : tK T n a = 20007
          · rw [if_pos h3] at h
            rw [if_pos (m45.mpr h3)]
            obtain ⟨τ2, u1, u2, u3, u4⟩ := m_opens (s := 20001) k2 (hsl (by omega)) ho (by omega)
            have u1' : f_M_opensOne 19 τ1 = some (bI (¬ oc H = 5), τ2) := u1
            rw [u1', zbd_s]
            dsimp only
            by_cases h4 : oc H = 5
            · rw [if_pos h4] at h
              rw [bI_f (fun q => q h4), if_pos rfl]
              exact hno τ2 u2 (u3.trans k3) h
            · rw [if_neg h4] at h
              rw [bI_t h4, if_neg one0]
              exact ih 1 _ _ _ τ2 1 0 (u4 h4) (by rw [oc_c (by decide), if_pos (Or.inr rfl)]; omega) (Or.inr (Or.inl ⟨rfl, rfl, rfl⟩)) ok b o' a' h
          · rw [if_neg h3] at h
            rw [if_neg (fun q => h3 (m45.mp q))]
            by_cases h5 : tK T n a = 30004
            · rw [if_pos h5] at h
              rw [if_pos (m40.mpr h5)]
              obtain ⟨τ2, u1, u2, u3, u4⟩ := m_opens (s := 0) k2 (hsl (by omega)) ho (by omega)
              have u1' : f_M_opensOne 0 τ1 = some (bI (¬ oc H = 5), τ2) := u1
              rw [u1', zbd_s]
              dsimp only
              by_cases h4 : oc H = 5
              · rw [if_pos h4] at h
                rw [bI_f (fun q => q h4), if_pos rfl]
                exact hno τ2 u2 (u3.trans k3) h
              · rw [if_neg h4] at h
                rw [bI_t h4, if_neg one0]
                exact ih 2 _ _ _ τ2 1 1 (u4 h4) (by show oc H + _ ≤ 5; rw [if_pos (Or.inl rfl)]; omega) (Or.inr (Or.inr ⟨rfl, rfl, rfl⟩)) ok b o' a' h
            · rw [if_neg h5] at h
              rw [if_neg (fun q => h5 (m40.mp q))]
              exact hno τ1 k2.1 k3 h
        by_cases h2 : tK T n a = 20000
        · rw [if_pos (m6.mpr h2)]
          first
          | rw [if_neg (fun q => absurd q.2 (by decide))] at h
            rw [if_pos rfl]
            exact hcont 0 h hno
          | rw [if_pos ⟨h2, rfl⟩] at h
            rw [if_neg one0]
            obtain ⟨τ2, u1, u2, u3, u4⟩ := m_opens (s := 20000) k2 (hsl (by omega)) ho (by omega)
            have u1' : f_M_opensOne 13 τ1 = some (bI (¬ oc H = 5), τ2) := u1
            rw [u1', zbd_s]
            dsimp only
            by_cases h4 : oc H = 5
            · rw [if_pos h4] at h
              rw [bI_f (fun q => q h4), if_pos rfl]
              exact hno τ2 u2 (u3.trans k3) h
            · rw [if_neg h4] at h
              rw [bI_t h4, if_neg one0]
              exact ih 2 _ _ _ τ2 1 1 (u4 h4) (by rw [oc_c (by decide), if_pos (Or.inl rfl)]; omega) (Or.inr (Or.inr ⟨rfl, rfl, rfl⟩)) ok b o' a' h
        · rw [if_neg (fun q => h2 (m6.mp q))]
          rw [if_neg (fun q => h2 q.1)] at h
          exact hcont 0 h hno
