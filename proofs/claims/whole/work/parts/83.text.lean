/-! ===== a TEXT in both ===== -/
def xs8 (σ σ' : zS) : Prop := (∀ k, ¬ (103 ≤ k ∧ k ≤ 108) → σ'.1 k = σ.1 k) ∧ ∀ q, q ≠ 16 → σ'.2 q = σ.2 q
theorem xs8_tr {a b c : zS} (h : xs8 a b) (g : xs8 b c) : xs8 a c := ⟨fun k q => (g.1 k q).trans (h.1 k q), fun q h1 => (g.2 q h1).trans (h.2 q h1)⟩
theorem xs8_z {a b : zS} (h : xz a b) : xs8 a b := ⟨fun k q => h.1 k (by omega) (by omega), h.2⟩
theorem xs8_g {σ : zS} {k : Nat} {v : Int32} (hk : 103 ≤ k ∧ k ≤ 108) : xs8 σ (zsg σ k v) := ⟨fun j q => zgn (by omega), fun _ _ => rfl⟩
def xT2 (σ : zS) : Option (Int32 × zS) := if (σ.1 107) = 0 then some (1, σ) else some (0, σ)
def xT1 (σ9 : zS) : Option (Int32 × zS) :=
  zlt (zsg σ9 104 (σ9.1 103)) fun σ11 =>
  zbd (f_Rd_pass 4 σ11) fun r13 σ12 =>
  (if r13 = 0 then
  some (0, σ12)
  else
  xE xT2 σ12)
theorem x_readText (σ : zS) : f_Rd_readText σ = (zbd (f_Rd_next (zsg (zsg (zsg σ 103 0) 104 0) 106 0)) fun _ σ4 => zbd (f_Rd_pass 3 σ4) fun r6 σ5 => (if r6 = 0 then some (0, σ5) else xE xT1 σ5)) := rfl
theorem text_both {T : Nat → Nat} {n t : Nat} {σ τ : zS} (hX : TXc σ T n) (hM : TMc τ T n) (ht : τ.1 23 = nI t) (ht6 : t < 6) :
    (∃ (b : Nat) (σ1 τ1 : zS), f_Rd_readText σ = some (0, σ1) ∧ xs8 σ σ1 ∧ σ1.1 105 = nI b ∧ f_M_text_26 zfu 1 0 (zsg (zsg τ 35 0) 43 0) = f_M_text_122 0 τ1 ∧ my t τ τ1 ∧ τ1.1 36 = nI b) ∨
    (∃ (cs1 cs2 : List Nat) (σ1 τ1 : zS), f_Rd_readText σ = some (1, σ1) ∧ xs8 σ σ1 ∧ σ1.1 104 = nI cs1.length ∧ σ1.1 103 = nI (cs1 ++ cs2).length ∧ (∀ i, i < (cs1 ++ cs2).length → σ1.2 16 i = xc ((cs1 ++ cs2).getD i 0)) ∧ f_M_text_26 zfu 1 0 (zsg (zsg τ 35 0) 43 0) = f_M_text_122 1 τ1 ∧ my t τ τ1 ∧ τ1.1 43 = nI (cs1 ++ cs2).length ∧ (∀ i, i < (cs1 ++ cs2).length → τ1.2 15 (200 * t + i) = mc ((cs1 ++ cs2).getD i 0)) ∧ τ1.2 16 (4 * t) = nI 0 ∧ τ1.2 16 (4 * t + 1) = nI cs1.length ∧ dvr cs1 0 1 ∧ dvr cs2 0 1 ∧ (cs1 ++ cs2).length ≤ 160 ∧ cs1.length < 160) := by
  have hn := hX.2.1
  obtain ⟨F, hF⟩ : ∃ F, zfu = F + 1 + 2 := ⟨zfu - 3, by unfold zfu; omega⟩
  rw [x_readText]
  -- the reference begins
  have hmy0 : my t τ (zsg (zsg τ 35 0) 43 0) := ⟨fun k q1 q2 => (zgn (by omega)).trans (zgn (by omega)), fun _ _ _ _ => rfl, fun _ _ => rfl, fun _ _ => rfl⟩
  have hM1 : Rs0 T n t (zsg (zsg τ 35 0) 43 0) [] 0 := by
    refine ⟨TMc_z ((zgn (by decide)).trans (zgn (by decide))) rfl hM, zgs _ _ _, fun i hi => absurd hi (Nat.not_lt_zero i), (zgn (by decide)).trans (zgs _ _ _), Nat.zero_le n, Nat.le_refl 0, ?_, ht6⟩
    rw [zgn (by decide), zgn (by decide)]; exact ht
  generalize zsg (zsg τ 35 0) 43 0 = τa at hmy0 hM1 ⊢
  obtain ⟨τb, b1, b2, b3, b4, b5, b6⟩ := m_part (p := 0) (by decide) (F + 1) hM1
  rw [← hF, show nI 0 = (0 : Int32) from rfl] at b5 b6
  -- X begins
  have hs0 : xs8 σ (zsg (zsg (zsg σ 103 0) 104 0) 106 0) := xs8_tr (xs8_tr (xs8_g (by omega)) (xs8_g (by omega))) (xs8_g (by omega))
  have hX1 : TXc (zsg (zsg (zsg σ 103 0) 104 0) 106 0) T n := ⟨by rw [zgn (by decide), zgn (by decide), zgn (by decide)]; exact hX.1, hn, hX.2.2⟩
  have h103 : (zsg (zsg (zsg σ 103 0) 104 0) 106 0).1 103 = nI 0 := by rw [zgn (by decide), zgn (by decide), zgs]; rfl
  have h106 : (zsg (zsg (zsg σ 103 0) 104 0) 106 0).1 106 = nI 0 := by rw [zgs]; rfl
  generalize zsg (zsg (zsg σ 103 0) 104 0) 106 0 = σb at hs0 hX1 h103 h106 ⊢
  obtain ⟨σ4, k1, k2, k3, k4, k5, k6⟩ := x_next hX1 (Nat.zero_le n) h106
  have hS4 : Xst T n σb σ4 [] 0 := ⟨xz_f k2, TXc_s k2 hX1, Nat.zero_le n, k3, k4, k5, k6, by rw [k2.1 103 (by omega)]; exact h103, fun i hi => absurd hi (Nat.not_lt_zero i)⟩
  rw [k1, zbd_s]
  dsimp only
  unfold f_Rd_pass
  rw [k5]
  have x3 := (xt_c (tK_v (T := T) (Nat.zero_le n))).2.2.2.2.2.2.1
  by_cases c1 : tK T n 0 = 30002
  · rw [if_pos (x3.mpr c1)]
    obtain ⟨σ5, l1, l2⟩ := x_nextS hS4
    rw [l1, zbd_s, zbd_s]
    dsimp only
    rw [if_neg one0, b6 c1]
    have hlt0 := lt_of_E (T := T) (Nat.zero_le n) (show ¬ tK T n 0 = 30000 by omega)
    rcases e_both l2 b1 with ⟨b, σ', τ', e1, e2, e3, e4, e5, e6⟩ | ⟨a1, cs1, σ9, τ9, e1, e2, e4, e5, e6, e7, e8, e9⟩
    · rw [e1, e4, zbd_s]
      exact Or.inl ⟨b, σ', τ', rfl, xs8_tr hs0 (xs8_z e2), e3, rfl, my_tr hmy0 (my_tr b2 (my_z e5)), e6⟩
    · rw [e1, e4, zbd_s]
      dsimp only
      rw [if_neg one0]
      rw [List.nil_append] at e2 e6
      obtain ⟨τc, d1, d2, d3, d4, d5, d6⟩ := m_part (p := 1) (by decide) F e6
      rw [show 0 + 1 = 1 from rfl]
      unfold xT1
      rw [zlt_s]
      have e2' := e2
      obtain ⟨g1, g2, g3, g4, g5, g6, g7, g8, g9⟩ := e2'
      have hS11 : Xst T n (zsg σ9 104 (σ9.1 103)) (zsg σ9 104 (σ9.1 103)) cs1 a1 := by
        refine ⟨xz_rfl, ⟨?_, g2.2.1, g2.2.2⟩, g3, ?_, ?_, ?_, ?_, ?_, g9⟩
        · rw [zgn (by decide)]; exact g2.1
        · rw [zgn (by decide)]; exact g4
        · rw [zgn (by decide)]; exact g5
        · rw [zgn (by decide)]; exact g6
        · rw [zgn (by decide)]; exact g7
        · rw [zgn (by decide)]; exact g8
      have h104 : (zsg σ9 104 (σ9.1 103)).1 104 = nI cs1.length := by rw [zgs]; exact g8
      have hs9 : xs8 σ (zsg σ9 104 (σ9.1 103)) := xs8_tr (xs8_tr hs0 (xs8_z g1)) (xs8_g (by omega))
      generalize zsg σ9 104 (σ9.1 103) = σc at hS11 h104 hs9 ⊢
      have hS11' := hS11
      obtain ⟨-, -, f3, f4, f5, f6, -⟩ := hS11'
      unfold f_Rd_pass
      rw [f6]
      have x4 := (xt_c (tK_v (T := T) f3)).2.2.2.2.2.2.2.1
      have hmyc : my t τ τc := my_tr hmy0 (my_tr b2 (my_tr (my_z e5) d2))
      by_cases c2 : tK T n a1 = 30003
      · rw [if_pos (x4.mpr c2)]
        obtain ⟨σ12, m1, m2⟩ := x_nextS hS11
        rw [m1, zbd_s, zbd_s]
        dsimp only
        rw [if_neg one0, d6 c2]
        have hlt1 := lt_of_E (T := T) f3 (show ¬ tK T n a1 = 30000 by omega)
        rcases e_both m2 d1 with ⟨b, σ', τ', p1, p2, p3, p4, p5, p6⟩ | ⟨a2, cs2, σ16, τ16, p1, p2, p4, p5, p6, p7, p8, p9⟩
        · rw [p1, p4, zbd_s]
          exact Or.inl ⟨b, σ', τ', rfl, xs8_tr hs9 (xs8_z p2), p3, rfl, my_tr hmyc (my_z p5), p6⟩
        · rw [p1, p4, zbd_s]
          dsimp only
          rw [if_neg one0]
          obtain ⟨τe, q1, q2, q3, q4, q5⟩ := m_tend F p6
          have q5' : f_M_text_26 (F + 1) 1 (nI (1 + 1)) τ16 = f_M_text_122 (bI (tK T n a2 = 30000)) τe := q5
          rw [q5']
          unfold xT2
          obtain ⟨j1, j2, j3, j4, j5, j6, j7, j8, j9⟩ := p2
          have x0 := (xt_c (tK_v (T := T) j3)).2.2.2.2.2.2.2.2
          have hmye : my t τ τe := my_tr hmyc (my_tr (my_z p5) q2)
          rw [j6]
          by_cases c3 : tK T n a2 = 30000
          · rw [if_pos (x0.mpr c3), bI_t c3]
            obtain ⟨o1, o2, o3, o4, o5, o6, o7, o8⟩ := q1
            have hz16 : τe.2 16 = upd (upd (τa.2 16) (4 * t) (nI 0)) (4 * t + 1) (nI cs1.length) := by
              rw [q3, p5.2.1 16 (by decide) (by decide), d4, e5.2.1 16 (by decide) (by decide), b4]
              rfl
            refine Or.inr ⟨cs1, cs2, σ16, τe, rfl, xs8_tr hs9 (xs8_z j1), ?_, j8, j9, rfl, hmye, o2, o3, ?_, ?_, e9, p9, by omega, by omega⟩
            · rw [j1.1 104 (by decide) (by omega)]; exact h104
            · rw [hz16]
              unfold upd
              rw [if_neg (by omega), if_pos rfl]
            · rw [hz16]
              unfold upd
              rw [if_pos rfl]
          · rw [if_neg (fun w => c3 (x0.mp w)), bI_f c3]
            exact Or.inl ⟨_, σ16, τe, rfl, xs8_tr hs9 (xs8_z j1), j4, rfl, hmye, q4⟩
      · rw [if_neg (fun w => c2 (x4.mp w)), zbd_s]
        dsimp only
        rw [if_pos rfl, d5 c2]
        exact Or.inl ⟨_, σc, τc, rfl, hs9, f4, rfl, hmyc, d3⟩
  · rw [if_neg (fun w => c1 (x3.mp w)), zbd_s]
    dsimp only
    rw [if_pos rfl, b5 c1]
    exact Or.inl ⟨_, σ4, τb, rfl, xs8_tr hs0 (xs8_z (xz_f k2)), k3, rfl, my_tr hmy0 b2, b3⟩
/-! ===== the relation behind a TEXT ===== -/
theorem R_txt {σ σ' τ τ' : zS} (hR : R σ τ) (f : ∀ k, k ≠ 102 → ¬ (103 ≤ k ∧ k ≤ 108) → k ≠ 202 → ¬ (1043 ≤ k ∧ k ≤ 1054) → σ'.1 k = σ.1 k) (a : ∀ q, q ≠ 16 → ¬ (43 ≤ q ∧ q ≤ 54) → σ'.2 q = σ.2 q) (f' : ∀ k, k ≠ 20 → ¬ (35 ≤ k ∧ k ≤ 38) → ¬ (41 ≤ k ∧ k ≤ 43) → k ≠ 23 → τ'.1 k = τ.1 k) (a' : ∀ q, q ≠ 15 → q ≠ 16 → q ≠ 23 → τ'.2 q = τ.2 q) (h102 : σ'.1 102 = 0) (h20 : τ'.1 20 = 0) (hLX : ∀ c n e m, LX σ c n e m → LX σ' c n e m) (hLM : ∀ c n e m, LM τ c n e m → LM τ' c n e m) (h23 : ∀ x, x < τ.1 23 → x < τ'.1 23) (r8 : R8 σ' τ') : R σ' τ' := by
  obtain ⟨⟨c, e, ln, m, n, nr, pl, hu, hW, hL, hL2, ⟨k1, k2, k3, k4⟩, ⟨l1, l2, l3, l4, l5⟩, jm, j1, j2⟩, r2, r3, r4, r5, r6, r7, -, r9, r10⟩ := hR
  have F : ∀ k, k ≠ 102 ∧ ¬ (103 ≤ k ∧ k ≤ 108) ∧ k ≠ 202 ∧ ¬ (1043 ≤ k ∧ k ≤ 1054) → σ'.1 k = σ.1 k := fun k q => f k q.1 q.2.1 q.2.2.1 q.2.2.2
  have A : ∀ q, q ≠ 16 ∧ ¬ (43 ≤ q ∧ q ≤ 54) → σ'.2 q = σ.2 q := fun k q => a k q.1 q.2
  have F' : ∀ k, k ≠ 20 ∧ ¬ (35 ≤ k ∧ k ≤ 38) ∧ ¬ (41 ≤ k ∧ k ≤ 43) ∧ k ≠ 23 → τ'.1 k = τ.1 k := fun k q => f' k q.1 q.2.1 q.2.2.1 q.2.2.2
  have A' : ∀ q, q ≠ 15 ∧ q ≠ 16 ∧ q ≠ 23 → τ'.2 q = τ.2 q := fun k q => a' k q.1 q.2.1 q.2.2
  refine ⟨⟨c, e, ln, m, n, nr, pl, hu, hW, hLX _ _ _ _ hL, hLM _ _ _ _ hL2, ⟨k1, ?_, ?_, ?_⟩, ⟨l1, ?_, ?_, l4, ?_⟩, jm, ?_, j2⟩, ?_, ?_, ?_, ?_, ?_, ?_, r8, ?_, ?_⟩
  · rw [F 307 (by omega)]; exact k2
  · rw [F 308 (by omega)]; exact k3
  · intro i hi; rw [A 17 (by omega), A 18 (by omega)]; exact k4 i hi
  · rw [F' 0 (by omega)]; exact l2
  · rw [F' 8 (by omega)]; exact l3
  · intro i hi; rw [A' 1 (by omega), A' 2 (by omega)]; exact l5 i hi
  · intro x hx; rw [A 19 (by omega)]; exact j1 x hx
  · unfold R2; rw [F 503 (by omega), A 23 (by omega), A 24 (by omega), A 25 (by omega), F' 3 (by omega), F' 0 (by omega), A' 3 (by omega), A' 4 (by omega), A' 5 (by omega)]; exact r2
  · unfold R3; rw [F 15 (by omega), F' 7 (by omega)]; exact r3
  · unfold R4; rw [F 308 (by omega), A 21 (by omega), A 22 (by omega), F' 8 (by omega), A' 6 (by omega), A' 7 (by omega), A' 8 (by omega), A' 9 (by omega), A' 10 (by omega)]; exact r4
  · unfold R5; rw [F 602 (by omega), A 26 (by omega), A 27 (by omega), F' 14 (by omega), F' 3 (by omega), A' 11 (by omega), A' 12 (by omega)]; exact r5
  · unfold R6; rw [F 13 (by omega), A 14 (by omega), F' 17 (by omega), A' 13 (by omega)]; exact r6
  · exact ⟨by rw [h102, h20], 0, by omega, h20, fun i hi => absurd hi (Nat.not_lt_zero i)⟩
  · unfold R9
    rw [F 702 (by omega), F 703 (by omega), F 704 (by omega), F 705 (by omega), F 706 (by omega), A 28 (by omega), A 29 (by omega), F' 25 (by omega), F' 26 (by omega), F' 27 (by omega), F' 28 (by omega), F' 29 (by omega), F' 0 (by omega), F' 14 (by omega), A' 17 (by omega), A' 18 (by omega)]
    obtain ⟨c1, c2, c3, c4, c5, c6, c7, c8, c9, c10, c11, c12, c13, c14, c15, c16, c17⟩ := r9
    exact ⟨c1, c2, c3, c4, c5, c6, c7, c8, c9, c10, c11, c12, c13, c14, c15, c16, h23 _ c17⟩
  · unfold R10; rw [A 30 (by omega), A 31 (by omega), A 37 (by omega), A 38 (by omega), A 39 (by omega), A 40 (by omega), A' 19 (by omega), A' 20 (by omega), A' 21 (by omega)]; exact r10
/-- the law's codes stay where no text is written over them -/
theorem LM_p {τ τ' : zS} {t r : Nat} (hr : τ.1 24 = nI r) (hrt : r < t) (ht6 : t ≤ 6) (f : τ'.1 24 = τ.1 24) (g : ∀ i, i < 200 * t → τ'.2 15 i = τ.2 15 i) (g' : ∀ i, i < 4 * t → τ'.2 16 i = τ.2 16 i) (c : Nat → Nat) (n : Nat) (e : Nat → Nat) (m : Nat) (hL : LM τ c n e m) : LM τ' c n e m := by
  obtain ⟨u, m1, m2, m3, m4, m5, m6, m7, m8⟩ := hL
  have hu : u = r := by rw [hr] at m2; exact ((nI_eq (by omega) (by omega)).mp m2).symm
  subst hu
  refine ⟨u, m1, by rw [f]; exact m2, ?_, ?_, ?_, m6, ?_, ?_⟩
  · rw [g' _ (by omega)]; exact m3
  · rw [g' _ (by omega)]; exact m4
  · rw [g' _ (by omega)]; exact m5
  · intro i hi; rw [g _ (by omega)]; exact m7 i hi
  · intro i hi; rw [g _ (by omega)]; exact m8 i hi
