/-! ===== both begin alike ===== -/
theorem e_run {T : Nat → Nat} {n a : Nat} {σ0 σ : zS} {out : List Nat} (hX : Xst T n σ0 σ out a) (hl : out.length ≤ a) :
    (∃ b k, k ≤ 161 + n ∧ ∀ N, run T n (N + k) 2 [] out a = no b) ∨
    (∃ (a' b k : Nat) (cs : List Nat) (σ' : zS), (∀ KX, xE KX σ = KX σ') ∧ Xst T n σ0 σ' (out ++ cs) a' ∧ k ≤ 161 + n ∧ ∀ N, run T n (N + k) 2 [] out a = some (true, b, out ++ cs, a')) := by
  rcases x_E σ0 σ out a hX hl with ⟨σ2, b, q1, q2, q3, q4⟩ | ⟨σ2, a2, cs, q1, q2, q3⟩
  · left
    obtain ⟨k, p1, p2⟩ := q4 2 [] out cx_E
    exact ⟨b, k, by omega, p2⟩
  · have hX2 := q2
    obtain ⟨h1, h2, h3, h4, h5, h6, h7, h8, h9⟩ := hX2
    have q1' : f_Rd_readOrK 0 σ = some (1, σ2) := q1
    have x7 := (xt_c (tK_v (T := T) h3)).2.2.2.2.2.1
    by_cases c : tK T n a2 = 30006
    · right
      obtain ⟨k, p1, p2⟩ := E_ok q3 c out
      obtain ⟨σ3, l1, l2⟩ := x_nextS q2
      refine ⟨tE T n a2, tB T n a2, k, cs, σ3, fun KX => ?_, l2, p1, p2⟩
      unfold xE f_Rd_pass
      rw [q1', zbd_s]
      dsimp only
      rw [if_neg one0, h6, if_pos (x7.mpr c), l1, zbd_s, zbd_s]
      dsimp only
      rw [if_neg one0]
    · left
      obtain ⟨k, p1, p2⟩ := E_no q3 c out
      exact ⟨_, k, p1, p2⟩
def t0l : List Nat := [110, 101, 97, 114, 32, 97, 112, 97, 114, 116, 32, 60, 32, 53, 48, 32, 97, 110, 100, 32, 104, 117, 116, 115, 32, 60, 32, 50, 32, 59, 32, 102, 97, 114, 32, 49, 50, 32, 45, 32, 108, 111, 97, 102, 32, 42, 32, 52, 32, 59]
def T0 (i : Nat) : Nat := t0l.getD i 0
theorem T0_ok : ∀ i, i < 50 → T0 i ≤ 255 ∧ zchr 0 (nI i) = nI (T0 i) := by decide +kernel
def c01 : List Nat := [10000, 50, 20004, 10002, 2, 20004, 20003]
def c02 : List Nat := [12, 10004, 4, 20008, 20007]
theorem T0_a : tK T0 50 0 = 30002 ∧ tE T0 50 0 = 4 := by decide +kernel
theorem T0_b : run T0 50 400 2 [] [] 4 = some (true, 29, c01, 30) := by decide +kernel
theorem T0_c : tK T0 50 30 = 30003 ∧ tE T0 50 30 = 34 := by decide +kernel
theorem T0_d : run T0 50 400 2 [] c01 34 = some (true, 49, c01 ++ c02, 50) := by decide +kernel
theorem T0_e : tK T0 50 50 = 30000 := by decide +kernel
theorem x_app : ∀ (r i f : Nat) (σ : zS), i + r = 50 → r < f → σ.1 102 = nI i → (∀ j, j < i → σ.2 15 j = nI (T0 j)) → ∃ σ', f_X_ini_142 f (nI i) σ = some (0, σ') ∧ σ'.1 102 = nI 50 ∧ (∀ j, j < 50 → σ'.2 15 j = nI (T0 j)) ∧ (∀ k, k ≠ 102 → σ'.1 k = σ.1 k) ∧ ∀ q, q ≠ 15 → σ'.2 q = σ.2 q := by
  intro r
  induction r with
  | zero =>
    intro i f σ hi hf h1 h2
    obtain ⟨f, rfl⟩ : ∃ m, f = m + 1 := ⟨f - 1, by omega⟩
    have hi50 : i = 50 := by omega
    subst hi50
    refine ⟨σ, ?_, h1, h2, fun _ _ => rfl, fun _ _ => rfl⟩
    unfold f_X_ini_142
    rw [if_pos (show nI 50 ≤ nI 50 by decide)]
  | succ r ih =>
    intro i f σ hi hf h1 h2
    obtain ⟨f, rfl⟩ : ∃ m, f = m + 1 := ⟨f - 1, by omega⟩
    have hT := T0_ok i (by omega)
    have e1 : f_Rd_append (nI (T0 i)) σ = some (0, zsg (zsa σ 15 (nI i) (nI (T0 i))) 102 (nI (i + 1))) := by
      unfold f_Rd_append
      rw [h1, if_neg (show ¬ (160 : Int32) ≤ nI i from nI_ge (b := 160) (by omega) (by decide)), zin_n (by omega) (by decide), zlt_s, zlt_s]
      have : (zsa σ 15 (nI i) (nI (T0 i))).1 102 = nI i := h1
      rw [this, nI_1]
    obtain ⟨σ', k1, k2, k3, k4, k5⟩ := ih (i + 1) f (zsg (zsa σ 15 (nI i) (nI (T0 i))) 102 (nI (i + 1))) (by omega) (by omega) (zgs _ _ _) (fun j hj => by
      rw [zg2, zsa_q (by omega)]
      unfold upd
      by_cases e : j = i
      · rw [if_pos e, e]
      · rw [if_neg e]; exact h2 j (by omega))
    refine ⟨σ', ?_, k2, k3, fun k hk => (k4 k hk).trans (zgn (σ := zsa σ 15 (nI i) (nI (T0 i))) hk), fun q hq => (k5 q hq).trans (by rw [zg2]; exact zsa_n hq)⟩
    unfold f_X_ini_142
    rw [if_neg (nI_ge (by omega) (by omega)), zin_n (by omega) (by decide), hT.2, e1, zbd_s, nI_1]
    exact k1
theorem run_inj {T : Nat → Nat} {n k a b a' : Nat} {out o' : List Nat} {r : Option (Bool × Nat × List Nat × Nat)} (hk : k ≤ 161 + n) (hn : n = 50) (h : ∀ N, run T n (N + k) 2 [] out a = r) (g : run T n 400 2 [] out a = some (true, b, o', a')) : r = some (true, b, o', a') := by
  have := h (400 - k)
  rw [show 400 - k + k = 400 by omega] at this
  rw [← this]; exact g
theorem x_first {σ : zS} (h1 : σ.1 102 = nI 50) (h2 : ∀ j, j < 50 → σ.2 15 j = nI (T0 j)) : ∃ σ', f_Rd_readText σ = some (1, σ') ∧ xs8 σ σ' ∧ σ'.1 104 = nI 7 ∧ σ'.1 103 = nI 12 ∧ ∀ i, i < 12 → σ'.2 16 i = xc ((c01 ++ c02).getD i 0) := by
  have hX : TXc σ T0 50 := ⟨h1, by decide, fun i hi => ⟨(T0_ok i hi).1, h2 i hi⟩⟩
  rw [x_readText]
  have hs0 : xs8 σ (zsg (zsg (zsg σ 103 0) 104 0) 106 0) := xs8_tr (xs8_tr (xs8_g (by omega)) (xs8_g (by omega))) (xs8_g (by omega))
  have hX1 : TXc (zsg (zsg (zsg σ 103 0) 104 0) 106 0) T0 50 := ⟨by rw [zgn (by decide), zgn (by decide), zgn (by decide)]; exact hX.1, hX.2.1, hX.2.2⟩
  have h103 : (zsg (zsg (zsg σ 103 0) 104 0) 106 0).1 103 = nI 0 := by rw [zgn (by decide), zgn (by decide), zgs]; rfl
  have h106 : (zsg (zsg (zsg σ 103 0) 104 0) 106 0).1 106 = nI 0 := by rw [zgs]; rfl
  generalize zsg (zsg (zsg σ 103 0) 104 0) 106 0 = σb at hs0 hX1 h103 h106 ⊢
  obtain ⟨σ4, k1, k2, k3, k4, k5, k6⟩ := x_next hX1 (Nat.zero_le 50) h106
  have hS4 : Xst T0 50 σb σ4 [] 0 := ⟨xz_f k2, TXc_s k2 hX1, Nat.zero_le 50, k3, k4, k5, k6, by rw [k2.1 103 (by omega)]; exact h103, fun i hi => absurd hi (Nat.not_lt_zero i)⟩
  rw [k1, zbd_s]
  dsimp only
  unfold f_Rd_pass
  rw [k5, T0_a.1, if_pos (show xt 30002 = 3 from rfl)]
  obtain ⟨σ5, l1, l2⟩ := x_nextS hS4
  rw [l1, zbd_s, zbd_s]
  dsimp only
  rw [if_neg one0]
  rw [T0_a.2] at l2
  rcases e_run l2 (by decide) with ⟨b, k, e1, e2⟩ | ⟨a', b, k, cs, σ9, e1, e2, e3, e4⟩
  · exact absurd (run_inj e1 rfl e2 T0_b) (by unfold no; intro w; have := congrArg Prod.fst (Option.some.inj w); exact Bool.false_ne_true this)
  · have e5 := Option.some.inj (run_inj e3 rfl e4 T0_b)
    have e6 : [] ++ cs = c01 := congrArg (fun z => z.2.2.1) e5
    have e7 : a' = 30 := congrArg (fun z => z.2.2.2) e5
    rw [e1]
    rw [e6, e7] at e2
    unfold xT1
    rw [zlt_s]
    obtain ⟨g1, g2, g3, g4, g5, g6, g7, g8, g9⟩ := e2
    have hS11 : Xst T0 50 (zsg σ9 104 (σ9.1 103)) (zsg σ9 104 (σ9.1 103)) c01 30 := by
      refine ⟨xz_rfl, ⟨?_, g2.2.1, g2.2.2⟩, g3, ?_, ?_, ?_, ?_, ?_, g9⟩
      · rw [zgn (by decide)]; exact g2.1
      · rw [zgn (by decide)]; exact g4
      · rw [zgn (by decide)]; exact g5
      · rw [zgn (by decide)]; exact g6
      · rw [zgn (by decide)]; exact g7
      · rw [zgn (by decide)]; exact g8
    have h104 : (zsg σ9 104 (σ9.1 103)).1 104 = nI 7 := by rw [zgs]; exact g8
    have hs9 : xs8 σ (zsg σ9 104 (σ9.1 103)) := xs8_tr (xs8_tr hs0 (xs8_z g1)) (xs8_g (by omega))
    generalize zsg σ9 104 (σ9.1 103) = σc at hS11 h104 hs9 ⊢
    have hS11' := hS11
    obtain ⟨-, -, f3, f4, f5, f6, -⟩ := hS11'
    unfold f_Rd_pass
    rw [f6, T0_c.1, if_pos (show xt 30003 = 4 from rfl)]
    obtain ⟨σ12, m1, m2⟩ := x_nextS hS11
    rw [m1, zbd_s, zbd_s]
    dsimp only
    rw [if_neg one0]
    rw [T0_c.2] at m2
    rcases e_run m2 (by decide) with ⟨b, k, p1, p2⟩ | ⟨a2, b, k, cs2, σ16, p1, p2, p3, p4⟩
    · exact absurd (run_inj p1 rfl p2 T0_d) (by unfold no; intro w; have := congrArg Prod.fst (Option.some.inj w); exact Bool.false_ne_true this)
    · have p5 := Option.some.inj (run_inj p3 rfl p4 T0_d)
      have p6 : c01 ++ cs2 = c01 ++ c02 := congrArg (fun z => z.2.2.1) p5
      have p7 : a2 = 50 := congrArg (fun z => z.2.2.2) p5
      rw [p1]
      rw [p6, p7] at p2
      obtain ⟨j1, j2, j3, j4, j5, j6, j7, j8, j9⟩ := p2
      unfold xT2
      rw [j6, T0_e, if_pos (show xt 30000 = 0 from rfl)]
      refine ⟨σ16, rfl, xs8_tr hs9 (xs8_z j1), ?_, j8, j9⟩
      rw [j1.1 104 (by decide) (by omega)]; exact h104
theorem m_first0 : ∃ τ, f_M_ini zm0 = some (0, τ) ∧ τ.1 = zm0.1 ∧ (∀ q, q ≠ 15 → q ≠ 16 → τ.2 q = zm0.2 q) ∧ (∀ i, i < 12 → τ.2 15 i = mc ((c01 ++ c02).getD i 0)) ∧ τ.2 16 0 = nI 0 ∧ τ.2 16 1 = nI 7 ∧ τ.2 16 2 = nI 12 := by
  refine ⟨_, rfl, rfl, fun q h1 h2 => ?_, by decide +kernel, by decide +kernel, by decide +kernel, by decide +kernel⟩
  iterate 14 rw [zsa_n (by assumption)]
theorem dvr_c01 : dvr c01 0 1 := by
  show (vd 10000 ∧ okd 10000 0 ∧ vd 50 ∧ okd 50 1 ∧ vd 20004 ∧ okd 20004 2 ∧ vd 10002 ∧ okd 10002 1 ∧ vd 2 ∧ okd 2 2 ∧ vd 20004 ∧ okd 20004 3 ∧ vd 20003 ∧ okd 20003 2 ∧ (1 : Nat) = 1)
  unfold vd okd
  simp
theorem dvr_c02 : dvr c02 0 1 := by
  show (vd 12 ∧ okd 12 0 ∧ vd 10004 ∧ okd 10004 1 ∧ vd 4 ∧ okd 4 2 ∧ vd 20008 ∧ okd 20008 3 ∧ vd 20007 ∧ okd 20007 2 ∧ (1 : Nat) = 1)
  unfold vd okd
  simp
theorem bd_0 (N : Nat) : bd 0 N := ⟨0, Nat.zero_le N, rfl⟩
theorem R_start : ∃ (ox om : Int32 × zS), f_X_ini zs0 = some ox ∧ f_M_ini zm0 = some om ∧ R ox.2 om.2 := by
  obtain ⟨τ, t1, t2, t3, t4, t5, t6, t7⟩ := m_first0
  obtain ⟨σ1, a1, a2, a3, a4, a5⟩ := x_app 50 0 zfu zs0 (by omega) (by decide) rfl (fun j hj => absurd hj (Nat.not_lt_zero j))
  obtain ⟨σ2, b1, b2, b3, b4, b5⟩ := x_first a2 a3
  have F2 : ∀ k, k ≠ 102 → ¬ (103 ≤ k ∧ k ≤ 108) → σ2.1 k = zs0.1 k := fun k q1 q2 => (b2.1 k q2).trans (a4 k q1)
  have A2 : ∀ q, q ≠ 15 → q ≠ 16 → σ2.2 q = zs0.2 q := fun q q1 q2 => (b2.2 q q2).trans (a5 q q1)
  have e202 : σ2.1 202 = nI 0 := F2 202 (by omega) (by omega)
  have e305 : σ2.1 305 = nI 55 := F2 305 (by omega) (by omega)
  have e306 : σ2.1 306 = nI 56 := F2 306 (by omega) (by omega)
  have hgd : zagd σ2 := by
    unfold zagd
    rw [e202, b3, b4, e305, e306]
    decide
  -- behind the first text
  have hz1 : ∀ k, k ≠ 1043 → k ≠ 1049 → (zad2 σ2).1 k = σ2.1 k := by
    intro k q1 q2
    unfold zad2 zad1 zst
    rw [e202]
    show upd (upd σ2.1 1043 _) 1049 _ k = _
    unfold upd
    rw [if_neg q2, if_neg q1]
  have hz2 : ∀ q, q ≠ 43 → q ≠ 49 → (zad2 σ2).2 q = σ2.2 q := by
    intro q q1 q2
    unfold zad2 zad1 zst
    rw [e202]
    show va_up (va_up σ2.2 43 _) 49 _ q = _
    unfold va_up
    rw [if_neg q2, if_neg q1]
  have hz3 : (zad2 σ2).1 1043 = nI 7 := by
    unfold zad2 zad1 zst
    rw [e202, b3, b4]
    rfl
  have hz4 : (zad2 σ2).1 1049 = nI 5 := by
    unfold zad2 zad1 zst
    rw [e202, b3, b4]
    rfl
  have hz5 : ∀ i, i < 7 → (zad2 σ2).2 43 i = xc (c01.getD i 0) := by
    intro i hi
    unfold zad2 zad1 zst
    rw [e202, b3, b4, nI_clamp (by decide), nI_clamp (by decide), nI_clamp (by decide)]
    dsimp only
    unfold va_up
    rw [if_neg (by decide), if_pos rfl]
    unfold va_cpy
    rw [if_pos (by omega), show 0 + (i - 0) = i by omega, b5 i (by omega), getD_l (show i < c01.length from hi)]
  have hz6 : ∀ i, i < 5 → (zad2 σ2).2 49 i = xc (c02.getD i 0) := by
    intro i hi
    unfold zad2 zad1 zst
    rw [e202, b3, b4, nI_clamp (by decide), nI_clamp (by decide), nI_clamp (by decide)]
    dsimp only
    unfold va_up
    rw [if_pos rfl]
    unfold va_cpy
    rw [if_pos (by omega), show 7 + (i - 0) = c01.length + i by show _ = 7 + i; omega, b5 _ (by show 7 + i < 12; omega), getD_r]
  generalize hσ3 : zad2 σ2 = σ3 at hz1 hz2 hz3 hz4 hz5 hz6
  let σ4 := zsg (zsg (zsg (zsg σ3 202 (nI 1)) 102 0) 305 (nI 43)) 306 (nI 49)
  have F : ∀ k, k ≠ 102 → ¬ (103 ≤ k ∧ k ≤ 108) → k ≠ 202 → k ≠ 305 → k ≠ 306 → k ≠ 1043 → k ≠ 1049 → σ4.1 k = zs0.1 k := fun k q1 q2 q3 q4 q5 q6 q7 => (zgn q5).trans ((zgn q4).trans ((zgn q1).trans ((zgn q3).trans ((hz1 k q6 q7).trans (F2 k q1 q2)))))
  have A : ∀ q, q ≠ 15 → q ≠ 16 → q ≠ 43 → q ≠ 49 → σ4.2 q = zs0.2 q := fun q q1 q2 q3 q4 => (hz2 q q3 q4).trans (A2 q q1 q2)
  have f0 : ∀ k, k ≠ 102 ∧ ¬ (103 ≤ k ∧ k ≤ 108) ∧ k ≠ 202 ∧ k ≠ 305 ∧ k ≠ 306 ∧ k ≠ 1043 ∧ k ≠ 1049 → σ4.1 k = 0 := fun k q => by
    rw [F k q.1 q.2.1 q.2.2.1 q.2.2.2.1 q.2.2.2.2.1 q.2.2.2.2.2.1 q.2.2.2.2.2.2]
    show (if k = 305 then (55 : Int32) else if k = 306 then 56 else 0) = 0
    rw [if_neg q.2.2.2.1, if_neg q.2.2.2.2.1]
  have a0 : ∀ q, q ≠ 15 ∧ q ≠ 16 ∧ q ≠ 43 ∧ q ≠ 49 ∧ q ≠ 21 ∧ q ≠ 22 ∧ q ≠ 30 → ∀ i, σ4.2 q i = 0 := fun q w i => by
    rw [A q w.1 w.2.1 w.2.2.1 w.2.2.2.1]
    show (if q = 21 ∨ q = 22 then zfl 1600 1 (fun _ => 0) else if q = 30 then zfl 4 (-1) (fun _ => 0) else fun _ => 0) i = 0
    rw [if_neg (by omega), if_neg w.2.2.2.2.2.2]
  have g0 : ∀ k, k ≠ 23 → τ.1 k = 0 := fun k hk => by
    rw [t2]
    exact if_neg hk
  have g23 : τ.1 23 = nI 1 := by rw [t2]; rfl
  have b0 : ∀ q, q ≠ 15 ∧ q ≠ 16 ∧ q ≠ 19 → ∀ i, τ.2 q i = 0 := fun q w i => by
    rw [t3 q w.1 w.2.1]
    show (if q = 19 then _ else fun _ => 0) i = 0
    rw [if_neg w.2.2]
  have hWF : WF (fun i => c01.getD i 0) 7 (fun i => c02.getD i 0) 5 := ⟨wfc_of c01 0 0 _ (fun i _ => by rw [Nat.zero_add]) dvr_c01, wfc_of c02 0 0 _ (fun i _ => by rw [Nat.zero_add]) dvr_c02⟩
  have x1043 : σ4.1 1043 = nI 7 := (zgn (by decide)).trans ((zgn (by decide)).trans ((zgn (by decide)).trans ((zgn (by decide)).trans hz3)))
  have x1049 : σ4.1 1049 = nI 5 := (zgn (by decide)).trans ((zgn (by decide)).trans ((zgn (by decide)).trans ((zgn (by decide)).trans hz4)))
  have x305 : σ4.1 305 = nI 43 := (zgn (by decide)).trans (zgs _ _ _)
  have x306 : σ4.1 306 = nI 49 := zgs _ _ _
  have x202 : σ4.1 202 = nI 1 := (zgn (by decide)).trans ((zgn (by decide)).trans ((zgn (by decide)).trans (zgs _ _ _)))
  have x102 : σ4.1 102 = 0 := (zgn (by decide)).trans ((zgn (by decide)).trans (zgs _ _ _))
  have x43 : ∀ i, i < 7 → σ4.2 43 i = xc (c01.getD i 0) := hz5
  have x49 : ∀ i, i < 5 → σ4.2 49 i = xc (c02.getD i 0) := hz6
  have hc1 : ∀ i, i < 7 → τ.2 15 i = mc (c01.getD i 0) := fun i hi => by rw [t4 i (by omega), getD_l (show i < c01.length from hi)]
  have hc2 : ∀ i, i < 5 → τ.2 15 (7 + i) = mc (c02.getD i 0) := fun i hi => by rw [t4 _ (by omega), show 7 + i = c01.length + i from rfl, getD_r]
  have hLX : LX σ4 (fun i => c01.getD i 0) 7 (fun i => c02.getD i 0) 5 := ⟨43, 49, by omega, by omega, x305, x306, by unfold zln; rw [x1043]; rfl, by unfold zln; rw [x1049]; rfl, by omega, by omega, x43, x49⟩
  have hLM : LM τ (fun i => c01.getD i 0) 7 (fun i => c02.getD i 0) 5 := ⟨0, by omega, g0 24 (by decide), t5, t6, t7, by omega, fun i hi => by rw [Nat.mul_zero, Nat.zero_add]; exact hc1 i hi, fun i hi => by rw [Nat.mul_zero, Nat.zero_add]; exact hc2 i hi⟩
  have hRH : RH σ4 τ := ⟨0, 0, fun _ => 0, fun _ => 0, ⟨by omega, f0 307 (by omega), f0 308 (by omega), fun i hi => ⟨Nat.zero_lt_succ _, Nat.zero_le _, a0 17 (by omega) i, a0 18 (by omega) i⟩⟩, ⟨by omega, g0 0 (by decide), g0 8 (by decide), by omega, fun i hi => ⟨Nat.zero_lt_succ _, Nat.zero_le _, b0 1 (by omega) i, b0 2 (by omega) i⟩⟩⟩
  have neg : ∀ i, i < 100 → ¬ nI i < 0 := fun i hi => nI_pos (by omega)
  have r2 : R2 σ4 τ := by
    unfold R2 G2
    rw [f0 503 (by omega), g0 3 (by decide), g0 0 (by decide)]
    exact ⟨rfl, bd_0 12, fun i _ => by rw [a0 23 (by omega), b0 3 (by omega)], fun i _ => by rw [a0 24 (by omega), b0 4 (by omega)], fun i _ => by rw [a0 25 (by omega), b0 5 (by omega)], fun i _ => by rw [b0 3 (by omega)]; exact bd_0 5, fun i _ => by rw [b0 5 (by omega)]; exact bd_0 30, fun i hi w => absurd w (neg i (by omega))⟩
  have r3 : R3 σ4 τ := by
    unfold R3 G3
    rw [f0 15 (by omega), g0 7 (by decide)]
    exact ⟨rfl, bd_0 1599⟩
  have r4 : R4 σ4 τ := by
    unfold R4 G4
    rw [f0 308 (by omega), g0 8 (by decide)]
    refine ⟨rfl, 0, by omega, rfl, fun r hr => absurd hr (Nat.not_lt_zero r), fun x y hx hy => ?_⟩
    rw [A 21 (by decide) (by decide) (by decide) (by decide), A 22 (by decide) (by decide) (by decide) (by decide)]
    have : ∀ q, q = 21 ∨ q = 22 → zs0.2 q (40 * y + x) = 1 := fun q hq => by
      show (if q = 21 ∨ q = 22 then zfl 1600 1 (fun _ => 0) else if q = 30 then zfl 4 (-1) (fun _ => 0) else fun _ => 0) (40 * y + x) = 1
      rw [if_pos hq]
      exact if_pos (by omega)
    exact ⟨this 21 (Or.inl rfl), this 22 (Or.inr rfl)⟩
  have r5 : R5 σ4 τ := by
    unfold R5 G5
    rw [f0 602 (by omega), g0 14 (by decide), g0 3 (by decide)]
    exact ⟨rfl, bd_0 8, fun i _ => by rw [a0 26 (by omega), b0 11 (by omega)], fun i _ => by rw [a0 27 (by omega), b0 12 (by omega)], fun i _ => by rw [b0 11 (by omega)]; exact bd_0 1599, fun i hi w => absurd w (neg i (by omega))⟩
  have r6 : R6 σ4 τ := by
    unfold R6 G6
    rw [f0 13 (by omega), g0 17 (by decide)]
    exact ⟨rfl, bd_0 10, fun i _ => by rw [a0 14 (by omega), b0 13 (by omega)], fun i _ => by rw [b0 13 (by omega)]; exact bd_0 1599⟩
  have r7 : R7 σ4 τ := by
    unfold R7 G7
    rw [x102, g0 20 (by decide)]
    exact ⟨rfl, 0, by omega, rfl, fun i hi => absurd hi (Nat.not_lt_zero i)⟩
  have r8 : R8 σ4 τ := by
    refine R8_iff.mpr ⟨by rw [x202, g23], by rw [f0 14 (by omega), g0 24 (by decide)], 1, 0, by omega, by omega, g23, by omega, g0 24 (by decide), x305, x306, fun t ht => ?_⟩
    have ht0 : t = 0 := by omega
    subst ht0
    exact ⟨_, _, 7, 5, hWF, by omega, x1043, x1049, t5, t6, t7, fun i hi => ⟨x43 i hi, by rw [Nat.mul_zero, Nat.zero_add]; exact hc1 i hi⟩, fun i hi => ⟨x49 i hi, by rw [Nat.mul_zero, Nat.zero_add]; exact hc2 i hi⟩⟩
  have r9 : R9 σ4 τ := by
    unfold R9 G9
    rw [f0 702 (by omega), f0 703 (by omega), f0 704 (by omega), f0 705 (by omega), f0 706 (by omega), g0 25 (by decide), g0 26 (by decide), g0 27 (by decide), g0 28 (by decide), g0 29 (by decide), g0 0 (by decide), g0 14 (by decide), g23]
    exact ⟨rfl, rfl, rfl, rfl, rfl, bd_0 1, fun i _ => by rw [a0 28 (by omega), b0 17 (by omega)], fun i _ => by rw [a0 29 (by omega), b0 18 (by omega)], fun i _ => by rw [b0 17 (by omega)]; exact bd_0 1, fun i _ => by rw [b0 18 (by omega)]; exact bd_0 1599, bd_0 20, by decide, bd_0 8, by decide, bd_0 1599, by decide, by decide⟩
  have r10 : R10 σ4 τ := by
    unfold R10 G10
    have h19 : ∀ s, s < 4 → τ.2 19 s = -1 := by
      rw [t3 19 (by decide) (by decide)]
      decide
    have h30 : ∀ s, s < 4 → σ4.2 30 s = -1 := by
      rw [A 30 (by decide) (by decide) (by decide) (by decide)]
      decide
    refine ⟨fun s hs => by rw [h30 s hs, h19 s hs], fun s hs => by rw [a0 31 (by omega), b0 20 (by omega)], fun s hs => ⟨by rw [b0 20 (by omega)]; exact bd_0 40, Or.inl (h19 s hs)⟩, fun s hs i hi => ?_⟩
    rw [b0 21 (by omega)]
    rcases (show s = 0 ∨ s = 1 ∨ s = 2 ∨ s = 3 by omega) with rfl | rfl | rfl | rfl
    · exact a0 37 (by omega) i
    · exact a0 38 (by omega) i
    · exact a0 39 (by omega) i
    · exact a0 40 (by omega) i
  obtain ⟨σ', j1, j2, j3⟩ := join_R (σ := σ4) (τ := τ) hWF hLX hLM hRH r2 r3 r4 r5 r6 r7 r8 r9 r10
  refine ⟨(0, σ'), (0, τ), ?_, t1, j3⟩
  have a1' : f_X_ini_142 zfu 0 zs0 = some (0, σ1) := a1
  have e1 : f_Tx_add σ2 = some (nI 0 + 1 - 1, zsg σ3 202 (nI 1)) := by
    unfold f_Tx_add
    rw [if_pos (show σ2.1 202 < 6 by rw [e202]; decide), if_pos hgd, e202, hσ3]
    rfl
  unfold f_X_ini
  rw [a1', zbd_s]
  dsimp only
  rw [b1, zbd_s]
  dsimp only
  rw [e1, zbd_s]
  unfold f_Rd_clear
  dsimp only
  rw [zlt_s, zbd_s, show ∀ x : Option (Int32 × zS), zin 0 6 x = x from fun x => zin_n (j := 0) (by decide) (by decide), show ∀ x : Option (Int32 × zS), zin 0 6 x = x from fun x => zin_n (j := 0) (by decide) (by decide)]
  unfold f_Vi_obey
  rw [show (43 + (0 : Int32).toNatClampNeg) = 43 from rfl, show (49 + (0 : Int32).toNatClampNeg) = 49 from rfl, zsm_i (by decide), zlt_s, zsm_i (by decide), zlt_s]
  show zbd (zbd (f_Vi_joinAll σ4) _) _ = _
  rw [j1]
  rfl
