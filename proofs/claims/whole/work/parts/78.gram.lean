/-! ===== what reading at a level means for the machine ===== -/
def isb (t : Nat) : Prop := 20002 ≤ t ∧ t ≤ 20008
def drp (r : Nat) : List Nat → List Nat
  | [] => []
  | s :: H => if r ≤ rk s then drp r H else s :: H
theorem unw_1 (r : Nat) : ∀ (H out : List Nat), (unw r H out).1 = drp r H
  | [], _ => rfl
  | s :: H, out => by
    by_cases e : r ≤ rk s
    · have hu : unw r (s :: H) out = unw r H (out ++ [s]) := if_pos e
      have hd : drp r (s :: H) = drp r H := if_pos e
      rw [hu, hd]
      exact unw_1 r H _
    · have hu : unw r (s :: H) out = (s :: H, out) := if_neg e
      have hd : drp r (s :: H) = s :: H := if_neg e
      rw [hu, hd]
def blk (K : List Nat) : Prop := topr (drp 5 K) = 4
theorem blk_app : ∀ (K H : List Nat), blk K → blk (K ++ H)
  | [], H, h => absurd (show topr [] = 4 from h) (by decide)
  | s :: K, H, h => by
    by_cases e : 5 ≤ rk s
    · have h1 : drp 5 (s :: K) = drp 5 K := if_pos e
      have h2 : drp 5 (s :: K ++ H) = drp 5 (K ++ H) := if_pos e
      unfold blk at h ⊢
      rw [h1] at h
      rw [h2]
      exact blk_app K H h
    · have h1 : drp 5 (s :: K) = s :: K := if_neg e
      have h2 : drp 5 (s :: K ++ H) = s :: (K ++ H) := if_neg e
      unfold blk at h ⊢
      rw [h1] at h
      rw [h2]
      exact h
theorem blk_sn {t : Nat} (ht : rk t = 4) : ∀ K : List Nat, (∀ s, s ∈ K → 5 ≤ rk s) → blk (K ++ [t])
  | [], _ => by
    have h1 : drp 5 ([] ++ [t]) = [t] := if_neg (by omega)
    unfold blk
    rw [h1]
    exact ht
  | s :: K, h => by
    have h2 : drp 5 (s :: K ++ [t]) = drp 5 (K ++ [t]) := if_pos (h s (List.mem_cons_self ..))
    unfold blk
    rw [h2]
    exact blk_sn ht K (fun x hx => h x (List.mem_cons_of_mem _ hx))
theorem unw_no {r : Nat} {H : List Nat} (out : List Nat) (h : topr H < r) : unw r H out = (H, out) := by
  cases H with
  | nil => rfl
  | cons s H => exact if_neg (show ¬ r ≤ rk s by have : rk s < r := h; omega)
theorem unw_app {r : Nat} : ∀ (K H out : List Nat), (∀ s, s ∈ K → r ≤ rk s) → topr H < r → unw r (K ++ H) out = (H, out ++ K)
  | [], H, out, _, h => by rw [List.nil_append, List.append_nil]; exact unw_no out h
  | s :: K, H, out, hK, h => by
    have hu : unw r (s :: K ++ H) out = unw r (K ++ H) (out ++ [s]) := if_pos (hK s (List.mem_cons_self ..))
    rw [hu, unw_app K H (out ++ [s]) (fun x hx => hK x (List.mem_cons_of_mem _ hx)) h, List.append_assoc]
    rfl
def Nx (L : Nat) (K : List Nat) (t : Nat) : Prop := isb t → rk t < L ∨ (rk t = 4 ∧ blk K)
def cL (L : Nat) : Nat := if L = 3 then 4 else L
def cx (T : Nat → Nat) (n L o a w : Nat) (H : List Nat) : Prop := oc H = o ∧ topr H < cL L ∧ ((w = 2 ∧ (L ≤ 3 ∨ ¬ tK T n a = 20000)) ∨ (w = 1 ∧ 4 < L))
def dl (L : Nat) : Nat := ([0, 0, 1, 2, 2, 3, 4, 5] : List Nat).getD L 0
def dvr : List Nat → Nat → Nat → Prop
  | [], d, e => d = e
  | q :: l, d, e => vd q ∧ okd q d ∧ dvr l (sd q d) e
theorem dvr_app : ∀ (l1 l2 : List Nat) (d e f : Nat), dvr l1 d e → dvr l2 e f → dvr (l1 ++ l2) d f
  | [], l2, d, e, f, h1, h2 => by
    have h1 : d = e := h1
    rw [h1]; exact h2
  | q :: l, l2, d, e, f, h1, h2 => ⟨h1.1, h1.2.1, dvr_app l l2 _ e f h1.2.2 h2⟩
def DP (L o : Nat) (cs : List Nat) : Prop := ∀ d, d ≤ 5 * o + dl L → dvr cs d (d + 1)
theorem dvr_bin {q d : Nat} (h : isb q) : dvr [q] (d + 2) (d + 1) := by
  unfold isb at h
  refine ⟨?_, ?_, ?_⟩
  · unfold vd; omega
  · unfold okd; rw [if_neg (by omega), if_neg (by omega)]; omega
  · show sd q (d + 2) = d + 1
    unfold sd; rw [if_neg (by omega), if_neg (by omega)]; omega
theorem dvr_un {q d : Nat} (h : q = 20000 ∨ q = 20001) : dvr [q] (d + 1) (d + 1) := by
  refine ⟨?_, ?_, ?_⟩
  · unfold vd; omega
  · unfold okd; rw [if_neg (by omega), if_pos (by omega)]; omega
  · show sd q (d + 1) = d + 1
    unfold sd; rw [if_neg (by omega), if_pos (by omega)]
theorem dvr_one {q d : Nat} (h : q < 10006) (hd : d < 31) : dvr [q] d (d + 1) := by
  refine ⟨?_, ?_, ?_⟩
  · unfold vd; omega
  · unfold okd; rw [if_pos (by omega)]; exact hd
  · show sd q d = d + 1
    unfold sd; rw [if_pos (by omega)]
def Fa (T : Nat → Nat) (n L o a b : Nat) : Prop := ∀ (w : Nat) (H out : List Nat), cx T n L o a w H → ∃ k, k ≤ n + 1 - a ∧ ∀ N, run T n (N + k) w H out a = no b
def Pa (T : Nat → Nat) (n L M o a a' : Nat) (cs : List Nat) : Prop := a < a' ∧ a' ≤ n ∧ cs.length ≤ a' - a ∧ DP L o cs ∧ ∀ (w : Nat) (H out : List Nat), cx T n L o a w H → ∃ (k : Nat) (cs' K : List Nat), k ≤ a' - a ∧ cs = cs' ++ K ∧ (∀ s, s ∈ K → L ≤ rk s) ∧ Nx M K (tK T n a') ∧ ∀ N, run T n (N + k) w H out a = run T n N 0 (K ++ H) (out ++ cs') a'
abbrev Su (T : Nat → Nat) (n L o a a' : Nat) (cs : List Nat) : Prop := Pa T n L L o a a' cs
theorem rk_b {q : Nat} (h : isb q) : 1 ≤ rk q ∧ rk q ≤ 6 ∧ ¬ rk q = 3 := by
  unfold isb at h
  rcases (show q = 20002 ∨ q = 20003 ∨ q = 20004 ∨ q = 20005 ∨ q = 20006 ∨ q = 20007 ∨ q = 20008 by omega) with rfl | rfl | rfl | rfl | rfl | rfl | rfl <;> decide
theorem oc_b {q : Nat} {H : List Nat} (h : isb q) : oc (q :: H) = oc H := by
  unfold isb at h
  rw [oc_c (by omega), if_neg (by omega), Nat.add_zero]
/-- a sign between two, one step of the machine -/
theorem run_op {T : Nat → Nat} {n a q : Nat} {H out : List Nat} (N : Nat) (hq : tK T n a = q) (hb : isb q) (h : ¬ (rk q = 4 ∧ topr (unw (if rk q = 4 then 5 else rk q) H out).1 = 4)) : run T n (N + 1) 0 H out a = run T n N (if q ≤ 20003 then 2 else 1) (q :: (unw (if rk q = 4 then 5 else rk q) H out).1) (unw (if rk q = 4 then 5 else rk q) H out).2 (tE T n a) := by
  subst hq
  unfold isb at hb
  show (if _ then _ else _) = _
  rw [if_pos rfl, if_neg (by omega), if_neg (by omega), if_pos hb, if_neg h]
theorem run_bl {T : Nat → Nat} {n a q : Nat} {H out : List Nat} (N : Nat) (hq : tK T n a = q) (hb : isb q) (h : rk q = 4 ∧ topr (unw (if rk q = 4 then 5 else rk q) H out).1 = 4) : run T n (N + 1) 0 H out a = no (tB T n a) := by
  subst hq
  unfold isb at hb
  show (if _ then _ else _) = _
  rw [if_pos rfl, if_neg (by omega), if_neg (by omega), if_pos hb, if_pos h]
theorem run_el {T : Nat → Nat} {n a : Nat} {H out : List Nat} (N : Nat) (h1 : ¬ tK T n a = 30006) (h2 : ¬ tK T n a = 30005) (h3 : ¬ isb (tK T n a)) : run T n (N + 1) 0 H out a = no (tB T n a) := by
  unfold isb at h3
  show (if _ then _ else _) = _
  rw [if_pos rfl, if_neg h1, if_neg h2, if_neg h3]
theorem cx_up {T : Nat → Nat} {n L o a w : Nat} {H : List Nat} (hL : L = 1 ∨ L = 2 ∨ L = 4 ∨ L = 5 ∨ L = 6) (h : cx T n L o a w H) : cx T n (L + 1) o a w H := by
  obtain ⟨h1, h2, h3⟩ := h
  unfold cL at h2
  refine ⟨h1, ?_, ?_⟩
  · unfold cL
    split <;> split at h2 <;> omega
  · omega
theorem dl_up {L : Nat} (hL : L = 1 ∨ L = 2 ∨ L = 4 ∨ L = 5 ∨ L = 6) : dl (L + 1) = dl L + 1 := by
  rcases hL with rfl | rfl | rfl | rfl | rfl <;> rfl
theorem Fa_up {T : Nat → Nat} {n L o a b : Nat} (hL : L = 1 ∨ L = 2 ∨ L = 4 ∨ L = 5 ∨ L = 6) (h : Fa T n (L + 1) o a b) : Fa T n L o a b := fun w H out hc => h w H out (cx_up hL hc)
theorem Pa_up {T : Nat → Nat} {n L o a a' : Nat} {cs : List Nat} (hL : L = 1 ∨ L = 2 ∨ L = 4 ∨ L = 5 ∨ L = 6) (h : Su T n (L + 1) o a a' cs) : Pa T n L (L + 1) o a a' cs := by
  obtain ⟨h1, h2, h3, h4, h5⟩ := h
  refine ⟨h1, h2, h3, fun d hd => h4 d (by rw [dl_up hL]; omega), fun w H out hc => ?_⟩
  obtain ⟨k, cs', K, q1, q2, q3, q4, q5⟩ := h5 w H out (cx_up hL hc)
  exact ⟨k, cs', K, q1, q2, fun s hs => by have := q3 s hs; omega, q4, q5⟩
/-- the loop ends -/
theorem Pa_end {T : Nat → Nat} {n L o a a' : Nat} {cs : List Nat} (h : Pa T n L (L + 1) o a a' cs) (ht : isb (tK T n a') → ¬ rk (tK T n a') = L) : Su T n L o a a' cs := by
  obtain ⟨h1, h2, h3, h4, h5⟩ := h
  refine ⟨h1, h2, h3, h4, fun w H out hc => ?_⟩
  obtain ⟨k, cs', K, q1, q2, q3, q4, q5⟩ := h5 w H out hc
  refine ⟨k, cs', K, q1, q2, q3, fun hb => ?_, q5⟩
  rcases q4 hb with q | q
  · have := ht hb
    exact Or.inl (by omega)
  · exact Or.inr q
theorem cx_op {T : Nat → Nat} {n L o a a2 q w : Nat} {H : List Nat} (hL : L = 1 ∨ L = 2 ∨ L = 4 ∨ L = 5 ∨ L = 6) (hb : isb q) (hr : rk q = L) (h : cx T n L o a w H) : cx T n (L + 1) o a2 (if q ≤ 20003 then 2 else 1) (q :: H) := by
  obtain ⟨h1, h2, h3⟩ := h
  refine ⟨by rw [oc_b hb]; exact h1, ?_, ?_⟩
  · show rk q < cL (L + 1)
    unfold cL
    split <;> omega
  · unfold isb at hb
    by_cases e : q ≤ 20003
    · rw [if_pos e]
      refine Or.inl ⟨rfl, Or.inl ?_⟩
      rcases (show q = 20002 ∨ q = 20003 by omega) with rfl | rfl
      · have : rk 20002 = 1 := rfl
        omega
      · have : rk 20003 = 2 := rfl
        omega
    · rw [if_neg e]
      refine Or.inr ⟨rfl, ?_⟩
      rcases (show q = 20004 ∨ q = 20005 ∨ q = 20006 ∨ q = 20007 ∨ q = 20008 by omega) with rfl | rfl | rfl | rfl | rfl
      · have : rk 20004 = 4 := rfl
        omega
      · have : rk 20005 = 4 := rfl
        omega
      · have : rk 20006 = 5 := rfl
        omega
      · have : rk 20007 = 5 := rfl
        omega
      · have : rk 20008 = 6 := rfl
        omega
/-- what the machine does at a sign of this level behind what was read -/
theorem op_step {T : Nat → Nat} {n L q a : Nat} {H K out : List Nat} (hL : L = 1 ∨ L = 2 ∨ L = 4 ∨ L = 5 ∨ L = 6) (hq : tK T n a = q) (hb : isb q) (hr : rk q = L) (hK : ∀ s, s ∈ K → (if L = 4 then 5 else L) ≤ rk s) (hH : topr H < L) (N : Nat) : run T n (N + 1) 0 (K ++ H) out a = run T n N (if q ≤ 20003 then 2 else 1) (q :: H) (out ++ K) (tE T n a) := by
  have hu : unw (if rk q = 4 then 5 else rk q) (K ++ H) out = (H, out ++ K) := by
    rw [hr]
    refine unw_app K H out hK ?_
    split <;> omega
  rw [run_op N hq hb (by rw [hu]; intro w; have : topr H = 4 := w.2; omega), hu]
theorem lt_of_K {T : Nat → Nat} {n a : Nat} (ha : a ≤ n) (h : isb (tK T n a)) : a < tE T n a ∧ tE T n a ≤ n := by
  have h1 := tE_b (T := T) ha
  have h2 := tB_b (T := T) ha
  unfold isb at h
  have := h1.2.2 (by omega)
  omega
theorem Pa_fail {T : Nat → Nat} {n L M o a a1 q b : Nat} {cs : List Nat} (hL : L = 1 ∨ L = 2 ∨ L = 4 ∨ L = 5 ∨ L = 6) (hp : ∀ (w : Nat) (H out : List Nat), cx T n L o a w H → ∃ (k : Nat) (cs' K : List Nat), k ≤ a1 - a ∧ cs = cs' ++ K ∧ (∀ s, s ∈ K → (if L = 4 then 5 else L) ≤ rk s) ∧ Nx M K (tK T n a1) ∧ ∀ N, run T n (N + k) w H out a = run T n N 0 (K ++ H) (out ++ cs') a1) (h1 : a < a1) (h2 : a1 ≤ n) (hq : tK T n a1 = q) (hb : isb q) (hr : rk q = L) (hf : Fa T n (L + 1) o (tE T n a1) b) : Fa T n L o a b := by
  intro w H out hc
  obtain ⟨k, cs', K, q1, q2, q3, q4, q5⟩ := hp w H out hc
  obtain ⟨k2, p1, p2⟩ := hf _ (q :: H) ((out ++ cs') ++ K) (cx_op hL hb hr hc)
  have hlt := lt_of_K h2 (by rw [hq]; exact hb)
  have hH : topr H < L := by have := hc.2.1; unfold cL at this; split at this <;> omega
  refine ⟨k2 + 1 + k, by omega, fun N => ?_⟩
  rw [show N + (k2 + 1 + k) = (N + k2 + 1) + k by omega, q5 (N + k2 + 1), op_step hL hq hb hr q3 hH]
  exact p2 N
theorem Pa_next {T : Nat → Nat} {n L M M' o a a1 a2 q : Nat} {cs cs2 : List Nat} (hL : L = 1 ∨ L = 2 ∨ L = 4 ∨ L = 5 ∨ L = 6) (hp : ∀ (w : Nat) (H out : List Nat), cx T n L o a w H → ∃ (k : Nat) (cs' K : List Nat), k ≤ a1 - a ∧ cs = cs' ++ K ∧ (∀ s, s ∈ K → (if L = 4 then 5 else L) ≤ rk s) ∧ Nx M K (tK T n a1) ∧ ∀ N, run T n (N + k) w H out a = run T n N 0 (K ++ H) (out ++ cs') a1) (h1 : a < a1) (h2 : a1 ≤ n) (h3 : cs.length ≤ a1 - a) (h4 : DP L o cs) (hq : tK T n a1 = q) (hb : isb q) (hr : rk q = L) (hs : Su T n (L + 1) o (tE T n a1) a2 cs2) (hN : ∀ K2 t, (∀ s, s ∈ K2 → L + 1 ≤ rk s) → Nx (L + 1) K2 t → Nx M' (K2 ++ [q]) t) : Pa T n L M' o a a2 (cs ++ cs2 ++ [q]) := by
  obtain ⟨g1, g2, g3, g4, g5⟩ := hs
  have hlt := lt_of_K h2 (by rw [hq]; exact hb)
  refine ⟨by omega, g2, ?_, ?_, fun w H out hc => ?_⟩
  · rw [List.length_append, List.length_append]
    show cs.length + cs2.length + 1 ≤ _
    omega
  · intro d hd
    have e1 := h4 d hd
    have e2 := g4 (d + 1) (by rw [dl_up hL]; omega)
    exact dvr_app _ _ _ _ _ (dvr_app _ _ _ _ _ e1 e2) (dvr_bin hb)
  · obtain ⟨k, cs', K, q1, q2, q3, q4, q5⟩ := hp w H out hc
    obtain ⟨k2, cs2', K2, p1, p2, p3, p4, p5⟩ := g5 _ (q :: H) ((out ++ cs') ++ K) (cx_op hL hb hr hc)
    have hH : topr H < L := by have := hc.2.1; unfold cL at this; split at this <;> omega
    refine ⟨k2 + 1 + k, cs ++ cs2', K2 ++ [q], by omega, ?_, ?_, ?_, fun N => ?_⟩
    · rw [p2, ← List.append_assoc, ← List.append_assoc]
    · intro s hs
      rcases List.mem_append.mp hs with hs | hs
      · have := p3 s hs; omega
      · rw [List.mem_singleton.mp hs]; omega
    · exact hN K2 _ p3 p4
    · rw [show N + (k2 + 1 + k) = (N + k2 + 1) + k by omega, q5 (N + k2 + 1), op_step hL hq hb hr q3 hH, p5 N, q2]
      congr 1
      · rw [List.append_assoc]; rfl
      · rw [List.append_assoc, List.append_assoc, List.append_assoc]
theorem Nx_l {L q t : Nat} {K2 : List Nat} (h : Nx L K2 t) : Nx L (K2 ++ [q]) t := by
  intro hb2
  rcases h hb2 with w | w
  · exact Or.inl w
  · exact Or.inr ⟨w.1, blk_app K2 [q] w.2⟩
theorem Nx_4 {q t : Nat} {K2 : List Nat} (hq : rk q = 4) (hK : ∀ s, s ∈ K2 → 5 ≤ rk s) (h : Nx 5 K2 t) : Nx 4 (K2 ++ [q]) t := by
  intro hb2
  rcases h hb2 with w | w
  · by_cases e : rk t = 4
    · exact Or.inr ⟨e, blk_sn hq K2 hK⟩
    · exact Or.inl (by omega)
  · exact Or.inr ⟨w.1, blk_app K2 [q] w.2⟩
