/-! ===== X reads: terms, sums ===== -/
theorem x_termL {T : Nat → Nat} {n o : Nat} {rOr rNot rOne : Int32 → zS → Option (Int32 × zS)} (hI : SPx T n 7 o (f_Rd_readOne rOr rNot rOne)) {σ0 : zS} {out : List Nat} {a : Nat} (hla : out.length ≤ a) : ∀ (f i a1 : Nat) (σ : zS) (cs : List Nat), n - a1 < f → i ≤ a1 → Xst T n σ0 σ (out ++ cs) a1 → Pa T n 6 7 o a a1 cs → RS T n σ0 out (Fa T n 6 o a) (Su T n 6 o a) (f_Rd_readTerm_12 rOr rNot rOne f (nI o) (nI i) σ) := by
  intro f
  induction f with
  | zero =>
    intro i a1 σ cs hf _ _ _
    exact absurd hf (Nat.not_lt_zero _)
  | succ f ih =>
    intro i a1 σ cs hf hi hX hP
    have hX0 := hX
    obtain ⟨h1, h2, h3, h4, h5, h6, h7, h8, h9⟩ := hX
    have hn := h2.2.1
    have hP0 := hP
    obtain ⟨p1, p2, p3, p4, p5⟩ := hP
    have hv := tK_v (T := T) h3
    obtain ⟨⟨x8, x9, x15, x10, x11, x12, x13, x14⟩, -⟩ := xt_c hv
    show RS T n σ0 out _ _ (f_Rd_readTerm_12b rOr rNot rOne (fun x1 x2 σ => f_Rd_readTerm_12 rOr rNot rOne f x1 x2 σ) (nI o) (nI i) σ)
    unfold f_Rd_readTerm_12b
    by_cases c1 : 160 ≤ i
    · rw [if_pos (show (160 : Int32) ≤ nI i from nI_le (a := 160) c1 (by omega))]
      have he := tK_end (T := T) (show n ≤ a1 by omega) h3
      exact Or.inr ⟨σ, a1, cs, rfl, hX0, Pa_end hP0 (fun hb => by unfold isb at hb; omega)⟩
    · rw [if_neg (show ¬ (160 : Int32) ≤ nI i from nI_ge (b := 160) (by omega) (by decide)), h6]
      by_cases c2 : tK T n a1 = 20008
      · have hlt := lt_of_E (T := T) h3 (by omega)
        have hb : isb 20008 := ⟨by decide, by decide⟩
        obtain ⟨σ1, k1, k2⟩ := x_nextS hX0
        rw [if_pos (x14.mpr c2), k1, zbd_s]
        dsimp only
        rcases hI σ0 σ1 (out ++ cs) (tE T n a1) k2 (by rw [List.length_append]; omega) with ⟨σ2, b, q1, q2, q3, q4⟩ | ⟨σ2, a2, cs2, q1, q2, q3⟩
        · rw [q1, zbd_s]
          exact Or.inl ⟨σ2, b, rfl, q2, q3, Pa_fail (by decide) p5 p1 p2 c2 hb (by decide) q4⟩
        · have hq := q3
          obtain ⟨g1, g2, g3, -, -⟩ := hq
          rw [q1, zbd_s]
          dsimp only
          rw [if_neg one0]
          obtain ⟨σ3, l1, l2⟩ := x_write (s := 20008) q2 (by rw [List.length_append, List.length_append]; omega)
          have l1' : f_Rd_write (-14) σ2 = some (0, σ3) := l1
          rw [l1', zbd_s, nI_1]
          refine ih (i + 1) a2 σ3 (cs ++ cs2 ++ [20008]) (by omega) (by omega) ?_ (Pa_next (by decide) p5 p1 p2 p3 p4 c2 hb (by decide) q3 (fun K2 t _ hN => Nx_l hN))
          rw [List.append_assoc, List.append_assoc] at l2
          rw [List.append_assoc]
          exact l2
      · rw [if_neg (fun w => c2 (x14.mp w))]
        exact Or.inr ⟨σ, a1, cs, rfl, hX0, Pa_end hP0 (fun hb w => c2 ((rk_6 hb).mp w))⟩
theorem x_term {T : Nat → Nat} {n o : Nat} {rOr rNot rOne : Int32 → zS → Option (Int32 × zS)} (hI : SPx T n 7 o (f_Rd_readOne rOr rNot rOne)) : SPx T n 6 o (f_Rd_readTerm rOr rNot rOne) := by
  intro σ0 σ out a hX hl
  unfold f_Rd_readTerm
  rcases hI σ0 σ out a hX hl with ⟨σ2, b, q1, q2, q3, q4⟩ | ⟨σ2, a2, cs2, q1, q2, q3⟩
  · rw [q1, zbd_s]
    exact Or.inl ⟨σ2, b, rfl, q2, q3, Fa_up (by decide) q4⟩
  · rw [q1, zbd_s]
    dsimp only
    rw [if_neg one0]
    have hn := q2.2.1.2.1
    exact x_termL hI hl zfu 0 a2 σ2 cs2 (by unfold zfu; omega) (by omega) q2 (Pa_up (by decide) q3)
theorem x_sumL {T : Nat → Nat} {n o : Nat} {rOr rNot rOne : Int32 → zS → Option (Int32 × zS)} (hI : SPx T n 6 o (f_Rd_readTerm rOr rNot rOne)) {σ0 : zS} {out : List Nat} {a : Nat} (hla : out.length ≤ a) : ∀ (f i a1 : Nat) (σ : zS) (cs : List Nat), n - a1 < f → i ≤ a1 → Xst T n σ0 σ (out ++ cs) a1 → Pa T n 5 6 o a a1 cs → RS T n σ0 out (Fa T n 5 o a) (Su T n 5 o a) (f_Rd_readSum_12 rOr rNot rOne f (nI o) (nI i) σ) := by
  intro f
  induction f with
  | zero =>
    intro i a1 σ cs hf _ _ _
    exact absurd hf (Nat.not_lt_zero _)
  | succ f ih =>
    intro i a1 σ cs hf hi hX hP
    have hX0 := hX
    obtain ⟨h1, h2, h3, h4, h5, h6, h7, h8, h9⟩ := hX
    have hn := h2.2.1
    have hP0 := hP
    obtain ⟨p1, p2, p3, p4, p5⟩ := hP
    have hv := tK_v (T := T) h3
    obtain ⟨⟨x8, x9, x15, x10, x11, x12, x13, x14⟩, -⟩ := xt_c hv
    show RS T n σ0 out _ _ (f_Rd_readSum_12b rOr rNot rOne (fun x1 x2 σ => f_Rd_readSum_12 rOr rNot rOne f x1 x2 σ) (nI o) (nI i) σ)
    unfold f_Rd_readSum_12b
    by_cases c1 : 160 ≤ i
    · rw [if_pos (show (160 : Int32) ≤ nI i from nI_le (a := 160) c1 (by omega))]
      have he := tK_end (T := T) (show n ≤ a1 by omega) h3
      exact Or.inr ⟨σ, a1, cs, rfl, hX0, Pa_end hP0 (fun hb => by unfold isb at hb; omega)⟩
    · rw [if_neg (show ¬ (160 : Int32) ≤ nI i from nI_ge (b := 160) (by omega) (by decide)), h6]
      by_cases c2 : tK T n a1 = 20006 ∨ tK T n a1 = 20007
      · have hlt := lt_of_E (T := T) h3 (by omega)
        have hb : isb (tK T n a1) := ⟨by omega, by omega⟩
        have hr5 : rk (tK T n a1) = 5 := (rk_5 hb).mpr c2
        have hxc : -(xt (tK T n a1)) = xc (tK T n a1) := by rcases c2 with e | e <;> rw [e] <;> rfl
        obtain ⟨σ1, k1, k2⟩ := x_nextS hX0
        have hgo : ∀ r : Option (Int32 × zS), (if xt (tK T n a1) = 12 then r else (if xt (tK T n a1) = 13 then r else some (1, σ))) = r := by
          intro r
          rcases c2 with e | e
          · rw [if_pos (x12.mpr e)]
          · rw [if_neg (fun w => by have := x12.mp w; omega), if_pos (x13.mpr e)]
        rw [hgo]
        unfold f_Rd_readSum_37
        rw [zlt_s, h6, k1, zbd_s]
        dsimp only
        rcases hI σ0 σ1 (out ++ cs) (tE T n a1) k2 (by rw [List.length_append]; omega) with ⟨σ2, b, q1, q2, q3, q4⟩ | ⟨σ2, a2, cs2, q1, q2, q3⟩
        · rw [q1, zbd_s]
          exact Or.inl ⟨σ2, b, rfl, q2, q3, Pa_fail (by decide) p5 p1 p2 rfl hb hr5 q4⟩
        · have hq := q3
          obtain ⟨g1, g2, g3, -, -⟩ := hq
          rw [q1, zbd_s]
          dsimp only
          rw [if_neg one0]
          obtain ⟨σ3, l1, l2⟩ := x_write (s := (tK T n a1)) q2 (by rw [List.length_append, List.length_append]; omega)
          rw [hxc, l1, zbd_s, nI_1]
          refine ih (i + 1) a2 σ3 (cs ++ cs2 ++ [(tK T n a1)]) (by omega) (by omega) ?_ (Pa_next (by decide) p5 p1 p2 p3 p4 rfl hb hr5 q3 (fun K2 t _ hN => Nx_l hN))
          rw [List.append_assoc, List.append_assoc] at l2
          rw [List.append_assoc]
          exact l2
      · rw [if_neg (fun w => c2 (Or.inl (x12.mp w))), if_neg (fun w => c2 (Or.inr (x13.mp w)))]
        exact Or.inr ⟨σ, a1, cs, rfl, hX0, Pa_end hP0 (fun hb w => c2 ((rk_5 hb).mp w))⟩
theorem x_sum {T : Nat → Nat} {n o : Nat} {rOr rNot rOne : Int32 → zS → Option (Int32 × zS)} (hI : SPx T n 6 o (f_Rd_readTerm rOr rNot rOne)) : SPx T n 5 o (f_Rd_readSum rOr rNot rOne) := by
  intro σ0 σ out a hX hl
  unfold f_Rd_readSum
  rcases hI σ0 σ out a hX hl with ⟨σ2, b, q1, q2, q3, q4⟩ | ⟨σ2, a2, cs2, q1, q2, q3⟩
  · rw [q1, zbd_s]
    exact Or.inl ⟨σ2, b, rfl, q2, q3, Fa_up (by decide) q4⟩
  · rw [q1, zbd_s]
    dsimp only
    rw [if_neg one0]
    have hn := q2.2.1.2.1
    exact x_sumL hI hl zfu 0 a2 σ2 cs2 (by unfold zfu; omega) (by omega) q2 (Pa_up (by decide) q3)
/-! ===== compared, not ===== -/
theorem x_cmp {T : Nat → Nat} {n o : Nat} {rOr rNot rOne : Int32 → zS → Option (Int32 × zS)} (hI : SPx T n 5 o (f_Rd_readSum rOr rNot rOne)) : SPx T n 4 o (f_Rd_readCompared rOr rNot rOne) := by
  intro σ0 σ out a hX hl
  unfold f_Rd_readCompared
  rcases hI σ0 σ out a hX hl with ⟨σ2, b, q1, q2, q3, q4⟩ | ⟨σ2, a1, cs, q1, q2, q3⟩
  · rw [q1, zbd_s]
    exact Or.inl ⟨σ2, b, rfl, q2, q3, Fa_up (by decide) q4⟩
  · have hS := q3
    obtain ⟨p1, p2, p3, p4, p5⟩ := hS
    have hX1 := q2
    obtain ⟨h1, h2, h3, h4, h5, h6, h7, h8, h9⟩ := hX1
    have hn := h2.2.1
    obtain ⟨⟨x8, x9, x15, x10, x11, x12, x13, x14⟩, -⟩ := xt_c (tK_v (T := T) h3)
    rw [q1, zbd_s]
    dsimp only
    rw [if_neg one0, zlt_s, h6]
    by_cases c2 : tK T n a1 = 20004 ∨ tK T n a1 = 20005
    · have hlt := lt_of_E (T := T) h3 (by omega)
      have hb : isb (tK T n a1) := ⟨by omega, by omega⟩
      have hr4 : rk (tK T n a1) = 4 := (rk_44 hb).mpr c2
      have hxc : -(xt (tK T n a1)) = xc (tK T n a1) := by rcases c2 with e | e <;> rw [e] <;> rfl
      have hgo : ∀ r : Option (Int32 × zS), (if xt (tK T n a1) = 10 then r else (if xt (tK T n a1) = 11 then r else some (1, σ2))) = r := by
        intro r
        rcases c2 with e | e
        · rw [if_pos (x10.mpr e)]
        · rw [if_neg (fun w => by have := x10.mp w; omega), if_pos (x11.mpr e)]
      rw [hgo]
      unfold f_Rd_readCompared_29
      obtain ⟨σ3, k1, k2⟩ := x_nextS q2
      rw [k1, zbd_s]
      dsimp only
      have hp : ∀ (w : Nat) (H out : List Nat), cx T n 4 o a w H → ∃ (k : Nat) (cs' K : List Nat), k ≤ a1 - a ∧ cs = cs' ++ K ∧ (∀ s, s ∈ K → (if 4 = 4 then 5 else 4) ≤ rk s) ∧ Nx 5 K (tK T n a1) ∧ ∀ N, run T n (N + k) w H out a = run T n N 0 (K ++ H) (out ++ cs') a1 := fun w H out hc => p5 w H out (cx_up (by decide) hc)
      rcases hI σ0 σ3 (out ++ cs) (tE T n a1) k2 (by rw [List.length_append]; omega) with ⟨σ4, b, q1, q2, q3, q4⟩ | ⟨σ4, a2, cs2, q1, q2, q3⟩
      · rw [q1, zbd_s]
        exact Or.inl ⟨σ4, b, rfl, q2, q3, Pa_fail (L := 4) (by decide) hp p1 p2 rfl hb hr4 q4⟩
      · have hq := q3
        obtain ⟨g1, g2, g3, -, -⟩ := hq
        rw [q1, zbd_s]
        dsimp only
        rw [if_neg one0]
        obtain ⟨σ5, l1, l2⟩ := x_write (s := tK T n a1) q2 (by rw [List.length_append, List.length_append]; omega)
        rw [hxc, l1, zbd_s]
        refine Or.inr ⟨σ5, a2, cs ++ cs2 ++ [tK T n a1], rfl, ?_, Pa_next (L := 4) (by decide) hp p1 p2 p3 (fun d hd => p4 d (by rw [show dl 5 = dl 4 + 1 from rfl]; omega)) rfl hb hr4 q3 (fun K2 t hK hN => Nx_4 hr4 hK hN)⟩
        rw [List.append_assoc, List.append_assoc] at l2
        rw [List.append_assoc]
        exact l2
    · rw [if_neg (fun w => c2 (Or.inl (x10.mp w))), if_neg (fun w => c2 (Or.inr (x11.mp w)))]
      exact Or.inr ⟨σ2, a1, cs, rfl, q2, Pa_end (Pa_up (L := 4) (by decide) q3) (fun hb w => c2 ((rk_44 hb).mp w))⟩
theorem x_not {T : Nat → Nat} {n o : Nat} {rOr rNot rOne : Int32 → zS → Option (Int32 × zS)} (ho : o ≤ 5) (hr : o < 5 → SPx T n 3 (o + 1) rNot) (hI : SPx T n 4 o (f_Rd_readCompared rOr rNot rOne)) : SPx T n 3 o (f_Rd_readNot rOr rNot rOne) := by
  intro σ0 σ out a hX hl
  have hX0 := hX
  obtain ⟨h1, h2, h3, h4, h5, h6, h7, h8, h9⟩ := hX
  have hn := h2.2.1
  obtain ⟨⟨x8, x9, x15, x10, x11, x12, x13, x14⟩, -⟩ := xt_c (tK_v (T := T) h3)
  unfold f_Rd_readNot
  rw [h6]
  by_cases c1 : tK T n a = 20000
  · rw [if_pos (x15.mpr c1)]
    by_cases c2 : o < 5
    · rw [if_pos ((o_lt ho).mpr c2), nI_1]
      have hlt := lt_of_E (T := T) h3 (by omega)
      obtain ⟨σ1, k1, k2⟩ := x_nextS hX0
      rw [k1, zbd_s]
      dsimp only
      rcases hr c2 σ0 σ1 out (tE T n a) k2 (by omega) with ⟨σ2, b, q1, q2, q3, q4⟩ | ⟨σ2, a2, cs, q1, q2, q3⟩
      · rw [q1, zbd_s]
        exact Or.inl ⟨σ2, b, rfl, q2, q3, Fa_not h3 c1 c2 q4⟩
      · have hq := q3
        obtain ⟨g1, g2, g3, -, -⟩ := hq
        rw [q1, zbd_s]
        dsimp only
        rw [if_neg one0]
        obtain ⟨σ3, l1, l2⟩ := x_write (s := 20000) q2 (by rw [List.length_append]; omega)
        have l1' : f_Rd_write (-15) σ2 = some (0, σ3) := l1
        rw [l1', zbd_s]
        refine Or.inr ⟨σ3, a2, cs ++ [20000], rfl, ?_, Su_not h3 c1 c2 q3⟩
        rw [← List.append_assoc]
        exact l2
    · rw [if_neg (fun w => c2 ((o_lt ho).mp w))]
      have h5 : o = 5 := by omega
      subst h5
      exact Or.inl ⟨σ, _, rfl, h1, h4, Fa_not5 h3 c1⟩
  · rw [if_neg (fun w => c1 (x15.mp w))]
    rcases hI σ0 σ out a hX0 hl with ⟨σ2, b, q1, q2, q3, q4⟩ | ⟨σ2, a2, cs, q1, q2, q3⟩
    · rw [q1, zbd_s, zbo_0]
      exact Or.inl ⟨σ2, b, rfl, q2, q3, Fa_34 c1 q4⟩
    · rw [q1, zbd_s, zbo_1]
      exact Or.inr ⟨σ2, a2, cs, rfl, q2, Su_34 c1 q3⟩
/-! ===== and, or ===== -/
theorem x_andL {T : Nat → Nat} {n o : Nat} {rOr rNot rOne : Int32 → zS → Option (Int32 × zS)} (hI : SPx T n 3 o (f_Rd_readNot rOr rNot rOne)) {σ0 : zS} {out : List Nat} {a : Nat} (hla : out.length ≤ a) : ∀ (f i a1 : Nat) (σ : zS) (cs : List Nat), n - a1 < f → i ≤ a1 → Xst T n σ0 σ (out ++ cs) a1 → Pa T n 2 3 o a a1 cs → RS T n σ0 out (Fa T n 2 o a) (Su T n 2 o a) (f_Rd_readAnd_12 rOr rNot rOne f (nI o) (nI i) σ) := by
  intro f
  induction f with
  | zero =>
    intro i a1 σ cs hf _ _ _
    exact absurd hf (Nat.not_lt_zero _)
  | succ f ih =>
    intro i a1 σ cs hf hi hX hP
    have hX0 := hX
    obtain ⟨h1, h2, h3, h4, h5, h6, h7, h8, h9⟩ := hX
    have hn := h2.2.1
    have hP0 := hP
    obtain ⟨p1, p2, p3, p4, p5⟩ := hP
    have hv := tK_v (T := T) h3
    obtain ⟨⟨x8, x9, x15, x10, x11, x12, x13, x14⟩, -⟩ := xt_c hv
    show RS T n σ0 out _ _ (f_Rd_readAnd_12b rOr rNot rOne (fun x1 x2 σ => f_Rd_readAnd_12 rOr rNot rOne f x1 x2 σ) (nI o) (nI i) σ)
    unfold f_Rd_readAnd_12b
    by_cases c1 : 160 ≤ i
    · rw [if_pos (show (160 : Int32) ≤ nI i from nI_le (a := 160) c1 (by omega))]
      have he := tK_end (T := T) (show n ≤ a1 by omega) h3
      exact Or.inr ⟨σ, a1, cs, rfl, hX0, Pa_end hP0 (fun hb => by unfold isb at hb; omega)⟩
    · rw [if_neg (show ¬ (160 : Int32) ≤ nI i from nI_ge (b := 160) (by omega) (by decide)), h6]
      by_cases c2 : tK T n a1 = 20003
      · have hlt := lt_of_E (T := T) h3 (by omega)
        have hb : isb 20003 := ⟨by decide, by decide⟩
        obtain ⟨σ1, k1, k2⟩ := x_nextS hX0
        rw [if_pos (x9.mpr c2), k1, zbd_s]
        dsimp only
        rcases hI σ0 σ1 (out ++ cs) (tE T n a1) k2 (by rw [List.length_append]; omega) with ⟨σ2, b, q1, q2, q3, q4⟩ | ⟨σ2, a2, cs2, q1, q2, q3⟩
        · rw [q1, zbd_s]
          exact Or.inl ⟨σ2, b, rfl, q2, q3, Pa_fail (by decide) p5 p1 p2 c2 hb (by decide) q4⟩
        · have hq := q3
          obtain ⟨g1, g2, g3, -, -⟩ := hq
          rw [q1, zbd_s]
          dsimp only
          rw [if_neg one0]
          obtain ⟨σ3, l1, l2⟩ := x_write (s := 20003) q2 (by rw [List.length_append, List.length_append]; omega)
          have l1' : f_Rd_write (-9) σ2 = some (0, σ3) := l1
          rw [l1', zbd_s, nI_1]
          refine ih (i + 1) a2 σ3 (cs ++ cs2 ++ [20003]) (by omega) (by omega) ?_ (Pa_next (by decide) p5 p1 p2 p3 p4 c2 hb (by decide) q3 (fun K2 t _ hN => Nx_l hN))
          rw [List.append_assoc, List.append_assoc] at l2
          rw [List.append_assoc]
          exact l2
      · rw [if_neg (fun w => c2 (x9.mp w))]
        exact Or.inr ⟨σ, a1, cs, rfl, hX0, Pa_end hP0 (fun hb w => c2 ((rk_2 hb).mp w))⟩
theorem x_and {T : Nat → Nat} {n o : Nat} {rOr rNot rOne : Int32 → zS → Option (Int32 × zS)} (hI : SPx T n 3 o (f_Rd_readNot rOr rNot rOne)) : SPx T n 2 o (f_Rd_readAnd rOr rNot rOne) := by
  intro σ0 σ out a hX hl
  unfold f_Rd_readAnd
  rcases hI σ0 σ out a hX hl with ⟨σ2, b, q1, q2, q3, q4⟩ | ⟨σ2, a2, cs2, q1, q2, q3⟩
  · rw [q1, zbd_s]
    exact Or.inl ⟨σ2, b, rfl, q2, q3, Fa_up (by decide) q4⟩
  · rw [q1, zbd_s]
    dsimp only
    rw [if_neg one0]
    have hn := q2.2.1.2.1
    exact x_andL hI hl zfu 0 a2 σ2 cs2 (by unfold zfu; omega) (by omega) q2 (Pa_up (by decide) q3)
theorem x_orL {T : Nat → Nat} {n o : Nat} {rOr rNot rOne : Int32 → zS → Option (Int32 × zS)} (hI : SPx T n 2 o (f_Rd_readAnd rOr rNot rOne)) {σ0 : zS} {out : List Nat} {a : Nat} (hla : out.length ≤ a) : ∀ (f i a1 : Nat) (σ : zS) (cs : List Nat), n - a1 < f → i ≤ a1 → Xst T n σ0 σ (out ++ cs) a1 → Pa T n 1 2 o a a1 cs → RS T n σ0 out (Fa T n 1 o a) (Su T n 1 o a) (f_Rd_readOr_12 rOr rNot rOne f (nI o) (nI i) σ) := by
  intro f
  induction f with
  | zero =>
    intro i a1 σ cs hf _ _ _
    exact absurd hf (Nat.not_lt_zero _)
  | succ f ih =>
    intro i a1 σ cs hf hi hX hP
    have hX0 := hX
    obtain ⟨h1, h2, h3, h4, h5, h6, h7, h8, h9⟩ := hX
    have hn := h2.2.1
    have hP0 := hP
    obtain ⟨p1, p2, p3, p4, p5⟩ := hP
    have hv := tK_v (T := T) h3
    obtain ⟨⟨x8, x9, x15, x10, x11, x12, x13, x14⟩, -⟩ := xt_c hv
    show RS T n σ0 out _ _ (f_Rd_readOr_12b rOr rNot rOne (fun x1 x2 σ => f_Rd_readOr_12 rOr rNot rOne f x1 x2 σ) (nI o) (nI i) σ)
    unfold f_Rd_readOr_12b
    by_cases c1 : 160 ≤ i
    · rw [if_pos (show (160 : Int32) ≤ nI i from nI_le (a := 160) c1 (by omega))]
      have he := tK_end (T := T) (show n ≤ a1 by omega) h3
      exact Or.inr ⟨σ, a1, cs, rfl, hX0, Pa_end hP0 (fun hb => by unfold isb at hb; omega)⟩
    · rw [if_neg (show ¬ (160 : Int32) ≤ nI i from nI_ge (b := 160) (by omega) (by decide)), h6]
      by_cases c2 : tK T n a1 = 20002
      · have hlt := lt_of_E (T := T) h3 (by omega)
        have hb : isb 20002 := ⟨by decide, by decide⟩
        obtain ⟨σ1, k1, k2⟩ := x_nextS hX0
        rw [if_pos (x8.mpr c2), k1, zbd_s]
        dsimp only
        rcases hI σ0 σ1 (out ++ cs) (tE T n a1) k2 (by rw [List.length_append]; omega) with ⟨σ2, b, q1, q2, q3, q4⟩ | ⟨σ2, a2, cs2, q1, q2, q3⟩
        · rw [q1, zbd_s]
          exact Or.inl ⟨σ2, b, rfl, q2, q3, Pa_fail (by decide) p5 p1 p2 c2 hb (by decide) q4⟩
        · have hq := q3
          obtain ⟨g1, g2, g3, -, -⟩ := hq
          rw [q1, zbd_s]
          dsimp only
          rw [if_neg one0]
          obtain ⟨σ3, l1, l2⟩ := x_write (s := 20002) q2 (by rw [List.length_append, List.length_append]; omega)
          have l1' : f_Rd_write (-8) σ2 = some (0, σ3) := l1
          rw [l1', zbd_s, nI_1]
          refine ih (i + 1) a2 σ3 (cs ++ cs2 ++ [20002]) (by omega) (by omega) ?_ (Pa_next (by decide) p5 p1 p2 p3 p4 c2 hb (by decide) q3 (fun K2 t _ hN => Nx_l hN))
          rw [List.append_assoc, List.append_assoc] at l2
          rw [List.append_assoc]
          exact l2
      · rw [if_neg (fun w => c2 (x8.mp w))]
        exact Or.inr ⟨σ, a1, cs, rfl, hX0, Pa_end hP0 (fun hb w => c2 ((rk_1 hb).mp w))⟩
theorem x_or {T : Nat → Nat} {n o : Nat} {rOr rNot rOne : Int32 → zS → Option (Int32 × zS)} (hI : SPx T n 2 o (f_Rd_readAnd rOr rNot rOne)) : SPx T n 1 o (f_Rd_readOr rOr rNot rOne) := by
  intro σ0 σ out a hX hl
  unfold f_Rd_readOr
  rcases hI σ0 σ out a hX hl with ⟨σ2, b, q1, q2, q3, q4⟩ | ⟨σ2, a2, cs2, q1, q2, q3⟩
  · rw [q1, zbd_s]
    exact Or.inl ⟨σ2, b, rfl, q2, q3, Fa_up (by decide) q4⟩
  · rw [q1, zbd_s]
    dsimp only
    rw [if_neg one0]
    have hn := q2.2.1.2.1
    exact x_orL hI hl zfu 0 a2 σ2 cs2 (by unfold zfu; omega) (by omega) q2 (Pa_up (by decide) q3)
/-! ===== the knot ===== -/
theorem x_kn {T : Nat → Nat} {n : Nat} : ∀ (m o : Nat), o ≤ 5 → 6 ≤ m + o → SPx T n 1 o (zkn m).1 ∧ SPx T n 3 o (zkn m).2.1 ∧ SP7 T n o (zkn m).2.2
  | 0, o, ho, h => absurd h (by omega)
  | m + 1, o, ho, h => by
    have hrec : o < 5 → SPx T n 1 (o + 1) (zkn m).1 ∧ SPx T n 3 (o + 1) (zkn m).2.1 ∧ SP7 T n (o + 1) (zkn m).2.2 := fun q => x_kn m (o + 1) (by omega) (by omega)
    have s7 : SP7 T n o (f_Rd_readOne (zkn m).1 (zkn m).2.1 (zkn m).2.2) := x_one ho (fun q => ⟨(hrec q).1, (hrec q).2.2⟩)
    have s3 : SPx T n 3 o (f_Rd_readNot (zkn m).1 (zkn m).2.1 (zkn m).2.2) := x_not ho (fun q => (hrec q).2.1) (x_cmp (x_sum (x_term (SP_7 s7))))
    exact ⟨x_or (x_and s3), s3, s7⟩
theorem x_E {T : Nat → Nat} {n : Nat} : SPx T n 1 0 f_Rd_readOrK := (x_kn 8 0 (by decide) (by decide)).1
