/-! ===== not, ONE, the end of an E ===== -/
theorem tp_20000 (H : List Nat) : topr (20000 :: H) < cL 3 := show rk 20000 < 4 by decide
theorem tp_0 (H : List Nat) : topr (0 :: H) < 1 := show rk 0 < 1 by decide
theorem lt_of_E {T : Nat → Nat} {n a : Nat} (ha : a ≤ n) (h : ¬ tK T n a = 30000) : a < tE T n a ∧ tE T n a ≤ n := by
  have h1 := tE_b (T := T) ha
  have h2 := tB_b (T := T) ha
  have := h1.2.2 h
  omega
/-- one step of the machine where something is wanted -/
theorem run_not {T : Nat → Nat} {n a : Nat} {H out : List Nat} (N : Nat) (h : tK T n a = 20000) (ho : ¬ oc H = 5) : run T n (N + 1) 2 H out a = run T n N 2 (20000 :: H) out (tE T n a) := by
  show (if _ then _ else _) = _
  rw [if_neg (by decide), if_neg (by omega), if_pos ⟨h, rfl⟩, if_neg ho]
theorem run_not5 {T : Nat → Nat} {n a : Nat} {H out : List Nat} (N : Nat) (h : tK T n a = 20000) (ho : oc H = 5) : run T n (N + 1) 2 H out a = no (tB T n a) := by
  show (if _ then _ else _) = _
  rw [if_neg (by decide), if_neg (by omega), if_pos ⟨h, rfl⟩, if_pos ho]
theorem run_one {T : Nat → Nat} {n a w : Nat} {H out : List Nat} (N : Nat) (hw : ¬ w = 0) (h : tK T n a < 20000) : run T n (N + 1) w H out a = run T n N 0 (unw 7 H (out ++ [tK T n a])).1 (unw 7 H (out ++ [tK T n a])).2 (tE T n a) := by
  show (if _ then _ else _) = _
  rw [if_neg hw, if_pos h]
theorem run_neg {T : Nat → Nat} {n a w : Nat} {H out : List Nat} (N : Nat) (hw : ¬ w = 0) (h : tK T n a = 20007) (ho : ¬ oc H = 5) : run T n (N + 1) w H out a = run T n N 1 (20001 :: H) out (tE T n a) := by
  show (if _ then _ else _) = _
  rw [if_neg hw, if_neg (by omega), if_neg (by omega), if_pos h, if_neg ho]
theorem run_par {T : Nat → Nat} {n a w : Nat} {H out : List Nat} (N : Nat) (hw : ¬ w = 0) (h : tK T n a = 30004) (ho : ¬ oc H = 5) : run T n (N + 1) w H out a = run T n N 2 (0 :: H) out (tE T n a) := by
  show (if _ then _ else _) = _
  rw [if_neg hw, if_neg (by omega), if_neg (by omega), if_neg (by omega), if_pos h, if_neg ho]
theorem run_ff {T : Nat → Nat} {n a w : Nat} {H out : List Nat} (N : Nat) (hw : ¬ w = 0) (h : ¬ tK T n a < 20000) (hn : ¬ (tK T n a = 20000 ∧ w = 2)) (h5 : oc H = 5 ∨ (¬ tK T n a = 20007 ∧ ¬ tK T n a = 30004)) : run T n (N + 1) w H out a = no (tB T n a) := by
  show (if _ then _ else _) = _
  rw [if_neg hw, if_neg h, if_neg hn]
  by_cases e1 : tK T n a = 20007
  · rw [if_pos e1, if_pos (by omega)]
  · rw [if_neg e1]
    by_cases e2 : tK T n a = 30004
    · rw [if_pos e2, if_pos (by omega)]
    · rw [if_neg e2]
theorem Su_not {T : Nat → Nat} {n o a a2 : Nat} {cs : List Nat} (ha : a ≤ n) (h : tK T n a = 20000) (ho : o < 5) (hs : Su T n 3 (o + 1) (tE T n a) a2 cs) : Su T n 3 o a a2 (cs ++ [20000]) := by
  obtain ⟨g1, g2, g3, g4, g5⟩ := hs
  have hlt := lt_of_E (T := T) ha (by omega)
  refine ⟨by omega, g2, ?_, fun d hd => ?_, fun w H out hc => ?_⟩
  · rw [List.length_append]
    show cs.length + 1 ≤ _
    omega
  · exact dvr_app _ _ _ _ _ (g4 d (by omega)) (dvr_un (Or.inl rfl))
  · obtain ⟨c1, c2, c3⟩ := hc
    have hw : w = 2 := by omega
    subst hw
    obtain ⟨k, cs', K, q1, q2, q3, q4, q5⟩ := g5 2 (20000 :: H) out ⟨by rw [oc_c (by decide), if_pos (Or.inl rfl), c1], tp_20000 H, Or.inl ⟨rfl, Or.inl (by decide)⟩⟩
    refine ⟨k + 1, cs', K ++ [20000], by omega, ?_, ?_, Nx_l q4, fun N => ?_⟩
    · rw [q2, List.append_assoc]
    · intro s hs
      rcases List.mem_append.mp hs with hs | hs
      · exact q3 s hs
      · rw [List.mem_singleton.mp hs]; decide
    · rw [show N + (k + 1) = N + k + 1 by omega, run_not (N + k) h (by omega), q5 N]
      congr 1
      rw [List.append_assoc]; rfl
theorem Fa_not {T : Nat → Nat} {n o a b : Nat} (ha : a ≤ n) (h : tK T n a = 20000) (ho : o < 5) (hs : Fa T n 3 (o + 1) (tE T n a) b) : Fa T n 3 o a b := by
  intro w H out hc
  obtain ⟨c1, c2, c3⟩ := hc
  have hw : w = 2 := by omega
  subst hw
  have hlt := lt_of_E (T := T) ha (by omega)
  obtain ⟨k, q1, q2⟩ := hs 2 (20000 :: H) out ⟨by rw [oc_c (by decide), if_pos (Or.inl rfl), c1], tp_20000 H, Or.inl ⟨rfl, Or.inl (by decide)⟩⟩
  refine ⟨k + 1, by omega, fun N => ?_⟩
  rw [show N + (k + 1) = N + k + 1 by omega, run_not (N + k) h (by omega), q2 N]
theorem Fa_not5 {T : Nat → Nat} {n a : Nat} (ha : a ≤ n) (h : tK T n a = 20000) : Fa T n 3 5 a (tB T n a) := by
  intro w H out hc
  obtain ⟨c1, c2, c3⟩ := hc
  have hw : w = 2 := by omega
  subst hw
  exact ⟨1, by omega, fun N => run_not5 N h c1⟩
theorem cx_34 {T : Nat → Nat} {n o a w : Nat} {H : List Nat} (h : ¬ tK T n a = 20000) (hc : cx T n 3 o a w H) : cx T n 4 o a w H := by
  obtain ⟨c1, c2, c3⟩ := hc
  exact ⟨c1, c2, Or.inl ⟨by omega, Or.inr h⟩⟩
theorem Fa_34 {T : Nat → Nat} {n o a b : Nat} (h : ¬ tK T n a = 20000) (hf : Fa T n 4 o a b) : Fa T n 3 o a b := fun w H out hc => hf w H out (cx_34 h hc)
theorem Su_34 {T : Nat → Nat} {n o a a' : Nat} {cs : List Nat} (h : ¬ tK T n a = 20000) (hs : Su T n 4 o a a' cs) : Su T n 3 o a a' cs := by
  obtain ⟨g1, g2, g3, g4, g5⟩ := hs
  refine ⟨g1, g2, g3, g4, fun w H out hc => ?_⟩
  obtain ⟨k, cs', K, q1, q2, q3, q4, q5⟩ := g5 w H out (cx_34 h hc)
  refine ⟨k, cs', K, q1, q2, fun s hs => by have := q3 s hs; omega, fun hb => ?_, q5⟩
  have := (rk_b hb).2.2
  rcases q4 hb with w | w
  · exact Or.inl (by omega)
  · exact Or.inr w
/-! ONE: behind any signs -/
def cg (T : Nat → Nat) (n o a w : Nat) (H : List Nat) : Prop := oc H = o ∧ (w = 1 ∨ (w = 2 ∧ ¬ tK T n a = 20000))
def Fa7 (T : Nat → Nat) (n o a b : Nat) : Prop := ∀ (w : Nat) (H out : List Nat), cg T n o a w H → ∃ k, k ≤ n + 1 - a ∧ ∀ N, run T n (N + k) w H out a = no b
def Su7 (T : Nat → Nat) (n o a a' : Nat) (cs : List Nat) : Prop := a < a' ∧ a' ≤ n ∧ cs.length ≤ a' - a ∧ DP 7 o cs ∧ ∀ (w : Nat) (H out : List Nat), cg T n o a w H → ∃ k, k ≤ a' - a ∧ ∀ N, run T n (N + k) w H out a = run T n N 0 (unw 7 H (out ++ cs)).1 (unw 7 H (out ++ cs)).2 a'
theorem cg_7 {T : Nat → Nat} {n o a w : Nat} {H : List Nat} (hc : cx T n 7 o a w H) : cg T n o a w H := by
  obtain ⟨c1, c2, c3⟩ := hc
  exact ⟨c1, by omega⟩
theorem Fa_7 {T : Nat → Nat} {n o a b : Nat} (h : Fa7 T n o a b) : Fa T n 7 o a b := fun w H out hc => h w H out (cg_7 hc)
theorem Su_7 {T : Nat → Nat} {n o a a' : Nat} {cs : List Nat} (h : Su7 T n o a a' cs) : Su T n 7 o a a' cs := by
  obtain ⟨g1, g2, g3, g4, g5⟩ := h
  refine ⟨g1, g2, g3, g4, fun w H out hc => ?_⟩
  obtain ⟨k, q1, q2⟩ := g5 w H out (cg_7 hc)
  refine ⟨k, cs, [], q1, (List.append_nil cs).symm, fun s hs => absurd hs (List.not_mem_nil), fun hb => Or.inl ?_, fun N => ?_⟩
  · have := (rk_b hb).2.1
    omega
  · rw [q2 N, unw_no (out ++ cs) (show topr H < 7 from hc.2.1)]
    rfl
theorem cg_w {T : Nat → Nat} {n o a w : Nat} {H : List Nat} (hc : cg T n o a w H) : ¬ w = 0 ∧ ¬ (tK T n a = 20000 ∧ w = 2) := by
  obtain ⟨c1, c2⟩ := hc
  omega
theorem Su7_one {T : Nat → Nat} {n o a : Nat} (ha : a ≤ n) (h : tK T n a < 20000) (ho : o ≤ 5) : Su7 T n o a (tE T n a) [tK T n a] := by
  have hlt := lt_of_E (T := T) ha (by omega)
  have hv := tK_v (T := T) ha
  refine ⟨hlt.1, hlt.2, ?_, fun d hd => ?_, fun w H out hc => ⟨1, by omega, fun N => run_one N (cg_w hc).1 h⟩⟩
  · show 1 ≤ _
    omega
  · have hd : d ≤ 5 * o + 5 := hd
    exact dvr_one (by unfold vt at hv; omega) (by omega)
theorem Su7_neg {T : Nat → Nat} {n o a a2 : Nat} {cs : List Nat} (ha : a ≤ n) (h : tK T n a = 20007) (ho : o < 5) (hs : Su7 T n (o + 1) (tE T n a) a2 cs) : Su7 T n o a a2 (cs ++ [20001]) := by
  obtain ⟨g1, g2, g3, g4, g5⟩ := hs
  have hlt := lt_of_E (T := T) ha (by omega)
  refine ⟨by omega, g2, ?_, fun d hd => ?_, fun w H out hc => ?_⟩
  · rw [List.length_append]
    show cs.length + 1 ≤ _
    omega
  · exact dvr_app _ _ _ _ _ (g4 d (by omega)) (dvr_un (Or.inr rfl))
  · obtain ⟨k, q1, q2⟩ := g5 1 (20001 :: H) out ⟨by rw [oc_c (by decide), if_pos (Or.inr rfl), hc.1], Or.inl rfl⟩
    refine ⟨k + 1, by omega, fun N => ?_⟩
    have hu : unw 7 (20001 :: H) (out ++ cs) = unw 7 H (out ++ cs ++ [20001]) := if_pos (by decide)
    rw [show N + (k + 1) = N + k + 1 by omega, run_neg (N + k) (cg_w hc).1 h (by rw [hc.1]; omega), q2 N, hu, List.append_assoc]
theorem Fa7_neg {T : Nat → Nat} {n o a b : Nat} (ha : a ≤ n) (h : tK T n a = 20007) (ho : o < 5) (hs : Fa7 T n (o + 1) (tE T n a) b) : Fa7 T n o a b := by
  intro w H out hc
  have hlt := lt_of_E (T := T) ha (by omega)
  obtain ⟨k, q1, q2⟩ := hs 1 (20001 :: H) out ⟨by rw [oc_c (by decide), if_pos (Or.inr rfl), hc.1], Or.inl rfl⟩
  refine ⟨k + 1, by omega, fun N => ?_⟩
  rw [show N + (k + 1) = N + k + 1 by omega, run_neg (N + k) (cg_w hc).1 h (by rw [hc.1]; omega), q2 N]
theorem Fa7_ff {T : Nat → Nat} {n o a : Nat} (ha : a ≤ n) (h : ¬ tK T n a < 20000) (h5 : o = 5 ∨ (¬ tK T n a = 20007 ∧ ¬ tK T n a = 30004)) : Fa7 T n o a (tB T n a) := by
  intro w H out hc
  exact ⟨1, by omega, fun N => run_ff N (cg_w hc).1 h (cg_w hc).2 (by rw [hc.1]; exact h5)⟩
/-- behind an E something stands that can't -/
theorem run_nx {T : Nat → Nat} {n a : Nat} {K H out : List Nat} (hK : ∀ s, s ∈ K → 1 ≤ rk s) (hN : Nx 1 K (tK T n a)) (hH : topr H < 1) (h1 : tK T n a = 30006 → ¬ H = []) (h2 : tK T n a = 30005 → H = []) (N : Nat) : run T n (N + 1) 0 (K ++ H) out a = no (tB T n a) := by
  have hu := unw_app (r := 1) K H out hK hH
  by_cases e1 : tK T n a = 30006
  · show (if _ then _ else _) = _
    rw [if_pos rfl, if_pos e1, hu, if_neg (h1 e1)]
  · by_cases e2 : tK T n a = 30005
    · show (if _ then _ else _) = _
      rw [if_pos rfl, if_neg e1, if_pos e2, hu, if_pos (h2 e2)]
    · by_cases e3 : isb (tK T n a)
      · have h3 := (rk_b e3).1
        rcases hN e3 with w | w
        · omega
        · refine run_bl N rfl e3 ⟨w.1, ?_⟩
          rw [if_pos w.1, unw_1]
          exact blk_app K H w.2
      · exact run_el N e1 e2 e3
theorem cx_par {T : Nat → Nat} {n o a a1 w : Nat} {H : List Nat} (hc : cg T n o a w H) : cx T n 1 (o + 1) a1 2 (0 :: H) := by
  refine ⟨?_, tp_0 H, Or.inl ⟨rfl, Or.inl (by decide)⟩⟩
  show oc H + _ = _
  rw [if_pos (Or.inl rfl), hc.1]
theorem Su7_par {T : Nat → Nat} {n o a a2 : Nat} {cs : List Nat} (ha : a ≤ n) (h : tK T n a = 30004) (ho : o < 5) (hs : Su T n 1 (o + 1) (tE T n a) a2 cs) (h2 : tK T n a2 = 30005) : Su7 T n o a (tE T n a2) cs := by
  obtain ⟨g1, g2, g3, g4, g5⟩ := hs
  have hlt := lt_of_E (T := T) ha (by omega)
  have hlt2 := lt_of_E (T := T) g2 (by omega)
  refine ⟨by omega, hlt2.2, by omega, fun d hd => ?_, fun w H out hc => ?_⟩
  · have hd : d ≤ 5 * o + 5 := hd
    exact g4 d (by show d ≤ 5 * (o + 1) + 0; omega)
  · obtain ⟨k, cs', K, q1, q2, q3, q4, q5⟩ := g5 2 (0 :: H) out (cx_par hc)
    refine ⟨k + 2, by omega, fun N => ?_⟩
    rw [show N + (k + 2) = N + 1 + k + 1 by omega, run_par (N + 1 + k) (cg_w hc).1 h (by rw [hc.1]; omega), q5 (N + 1)]
    have hu := unw_app (r := 1) K (0 :: H) (out ++ cs') q3 (tp_0 H)
    show (if _ then _ else _) = _
    rw [if_pos rfl, if_neg (by omega), if_pos h2, hu, if_neg (by intro w; cases w), List.append_assoc, ← q2]
    rfl
theorem Fa7_par2 {T : Nat → Nat} {n o a a2 : Nat} {cs : List Nat} (ha : a ≤ n) (h : tK T n a = 30004) (ho : o < 5) (hs : Su T n 1 (o + 1) (tE T n a) a2 cs) (h2 : ¬ tK T n a2 = 30005) : Fa7 T n o a (tB T n a2) := by
  obtain ⟨g1, g2, g3, g4, g5⟩ := hs
  have hlt := lt_of_E (T := T) ha (by omega)
  intro w H out hc
  obtain ⟨k, cs', K, q1, q2, q3, q4, q5⟩ := g5 2 (0 :: H) out (cx_par hc)
  refine ⟨k + 2, by omega, fun N => ?_⟩
  rw [show N + (k + 2) = N + 1 + k + 1 by omega, run_par (N + 1 + k) (cg_w hc).1 h (by rw [hc.1]; omega), q5 (N + 1)]
  exact run_nx q3 q4 (tp_0 H) (fun _ w => by cases w) (fun w => absurd w h2) N
theorem Fa7_par {T : Nat → Nat} {n o a b : Nat} (ha : a ≤ n) (h : tK T n a = 30004) (ho : o < 5) (hs : Fa T n 1 (o + 1) (tE T n a) b) : Fa7 T n o a b := by
  intro w H out hc
  have hlt := lt_of_E (T := T) ha (by omega)
  obtain ⟨k, q1, q2⟩ := hs 2 (0 :: H) out (cx_par hc)
  refine ⟨k + 1, by omega, fun N => ?_⟩
  rw [show N + (k + 1) = N + k + 1 by omega, run_par (N + k) (cg_w hc).1 h (by rw [hc.1]; omega), q2 N]
/-- an E up to its ; -/
theorem cx_E {T : Nat → Nat} {n a : Nat} : cx T n 1 0 a 2 [] := ⟨rfl, by decide, Or.inl ⟨rfl, Or.inl (by decide)⟩⟩
theorem E_ok {T : Nat → Nat} {n a a2 : Nat} {cs : List Nat} (hs : Su T n 1 0 a a2 cs) (h : tK T n a2 = 30006) (out : List Nat) : ∃ k, k ≤ 161 + n ∧ ∀ N, run T n (N + k) 2 [] out a = some (true, tB T n a2, out ++ cs, tE T n a2) := by
  obtain ⟨g1, g2, g3, g4, g5⟩ := hs
  obtain ⟨k, cs', K, q1, q2, q3, q4, q5⟩ := g5 2 [] out cx_E
  refine ⟨k + 1, by omega, fun N => ?_⟩
  rw [show N + (k + 1) = N + 1 + k by omega, q5 (N + 1)]
  have hu := unw_app (r := 1) K [] (out ++ cs') q3 (by decide)
  show (if _ then _ else _) = _
  rw [if_pos rfl, if_pos h, hu, if_pos rfl, List.append_assoc, ← q2]
theorem E_no {T : Nat → Nat} {n a a2 : Nat} {cs : List Nat} (hs : Su T n 1 0 a a2 cs) (h : ¬ tK T n a2 = 30006) (out : List Nat) : ∃ k, k ≤ 161 + n ∧ ∀ N, run T n (N + k) 2 [] out a = no (tB T n a2) := by
  obtain ⟨g1, g2, g3, g4, g5⟩ := hs
  obtain ⟨k, cs', K, q1, q2, q3, q4, q5⟩ := g5 2 [] out cx_E
  refine ⟨k + 1, by omega, fun N => ?_⟩
  rw [show N + (k + 1) = N + 1 + k by omega, q5 (N + 1)]
  exact run_nx q3 q4 (by decide) (fun w => absurd w h) (fun _ => rfl) N
