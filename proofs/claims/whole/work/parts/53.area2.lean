/-! ===== the X area ===== -/
def xa10 (σ σ' : zS) : Prop := (∀ k, ¬ (1001 ≤ k ∧ k ≤ 1008) → k ≠ 1102 → σ'.1 k = σ.1 k) ∧ ∀ q, q ≠ 33 → q ≠ 34 → q ≠ 35 → σ'.2 q = σ.2 q
theorem xa10_rfl {a : zS} : xa10 a a := ⟨fun _ _ _ => rfl, fun _ _ _ _ => rfl⟩
theorem xa10_tr {a b c : zS} (h : xa10 a b) (g : xa10 b c) : xa10 a c := ⟨fun k q1 q2 => (g.1 k q1 q2).trans (h.1 k q1 q2), fun q h0 h1 h2 => (g.2 q h0 h1 h2).trans (h.2 q h0 h1 h2)⟩
theorem xa10_3 {a b : zS} (h : xs3 a b) : xa10 a b := ⟨fun k _ h2 => h.1 k h2, fun q _ h1 h2 => h.2 q h1 h2⟩
theorem xq_a10 {a b : zS} (h : xa10 a b) : xq a b := ⟨fun k h1 h2 h3 h4 => h.1 k (by omega) h4, fun q h1 h2 h3 h4 => h.2 q (by omega) (by omega) (by omega)⟩
theorem xa10_g {a σ : zS} {k : Nat} {v : Int32} (h : xa10 a σ) (hk : 1001 ≤ k ∧ k ≤ 1008) : xa10 a (zsg σ k v) := xa10_tr h ⟨fun j q1 q2 => by show upd σ.1 k v j = _; unfold upd; rw [if_neg (by omega)], fun _ _ _ _ => rfl⟩
theorem xa10_a {a σ : zS} {i v : Int32} (h : xa10 a σ) : xa10 a (zsa σ 33 i v) := xa10_tr h ⟨fun _ _ _ => rfl, fun q q1 _ _ => by rw [za2]; unfold va_up; rw [if_neg q1]⟩
def XA10 (σ : zS) (cnt : Nat) (cp : Nat → Nat) (B : Bx) (sq fl : Bool) (rc : Nat) : Prop := σ.1 1001 = nI cnt ∧ cnt ≤ 20 ∧ (∀ i, i < cnt → cp i < 1600 ∧ σ.2 33 i = nI (cp i)) ∧ σ.1 1002 = nI rc ∧ σ.1 1003 = B.1 ∧ σ.1 1004 = B.2.1 ∧ σ.1 1005 = B.2.2.1 ∧ σ.1 1006 = B.2.2.2 ∧ σ.1 1007 = bI (sq = true) ∧ σ.1 1008 = bI (fl = true)
theorem XA10_s {σ σ' : zS} {cnt : Nat} {cp : Nat → Nat} {B : Bx} {sq fl : Bool} {rc : Nat} (h : ∀ k, 1001 ≤ k ∧ k ≤ 1008 → σ'.1 k = σ.1 k) (g : σ'.2 33 = σ.2 33) (q : XA10 σ cnt cp B sq fl rc) : XA10 σ' cnt cp B sq fl rc := by
  obtain ⟨q1, q2, q3, q4, q5, q6, q7, q8, q9, q10⟩ := q
  exact ⟨by rw [h _ (by omega)]; exact q1, q2, by rw [g]; exact q3, by rw [h _ (by omega)]; exact q4, by rw [h _ (by omega)]; exact q5, by rw [h _ (by omega)]; exact q6, by rw [h _ (by omega)]; exact q7, by rw [h _ (by omega)]; exact q8, by rw [h _ (by omega)]; exact q9, by rw [h _ (by omega)]; exact q10⟩
theorem ar_isInBox10 {σ : zS} {cnt : Nat} {cp : Nat → Nat} {B : Bx} {sq fl : Bool} {rc p : Nat} {r : Int32} (h : XA10 σ cnt cp B sq fl rc) (hp : p < 1600) : f_Ar_isInBox_10 (nI p) r σ = some (bI (inb B p r = true), σ) := by
  obtain ⟨q1, q2, q3, q4, q5, q6, q7, q8, q9, q10⟩ := h
  unfold f_Ar_isInBox_10
  rw [x_isFrom, zbd_s, zrem_n (by omega), q5, q6]
  dsimp only
  rw [x_isFrom, zbd_s, zdiv_n (by omega), q7, q8]
  dsimp only
  unfold inb
  by_cases h1 : B.1 - r ≤ nI (p % 40) ∧ nI (p % 40) ≤ B.2.1 + r
  · rw [bI_t h1, if_neg one0]
    by_cases h2 : B.2.2.1 - r ≤ nI (p / 40) ∧ nI (p / 40) ≤ B.2.2.2 + r
    · rw [bI_t h2, if_neg one0, bI_t (decide_eq_true ⟨h1, h2⟩)]
    · rw [bI_f h2, if_pos rfl, bI_f (fun q => h2 (of_decide_eq_true q).2)]
  · rw [bI_f h1, if_pos rfl, bI_f (fun q => h1 (of_decide_eq_true q).1)]
theorem ar_isByOne10 {σ : zS} {cnt : Nat} {cp : Nat → Nat} {B : Bx} {sq fl : Bool} {rc p : Nat} (h : XA10 σ cnt cp B sq fl rc) (hp : p < 1600) (hrc : rc ≤ 80) : f_Ar_isByOne_10 (nI p) σ = some (bI (by1 cp cnt rc p = true), σ) := by
  obtain ⟨q1, q2, q3, q4, q5, q6, q7, q8, q9, q10⟩ := h
  have key : ∀ (r k f : Nat), k + r = cnt → r < f → ∃ b : Bool, f_Ar_isByOne_10_2 f (nI p) (nI k) σ = some (bI (b = true), σ) ∧ (b = true ↔ ∃ i, k ≤ i ∧ i < cnt ∧ nap p (cp i) ≤ rc) := by
    intro r
    induction r with
    | zero =>
      intro k f hk hf
      obtain ⟨f, rfl⟩ : ∃ m, f = m + 1 := ⟨f - 1, by omega⟩
      refine ⟨false, ?_, ?_⟩
      · show f_Ar_isByOne_10_2b _ _ _ _ = _
        unfold f_Ar_isByOne_10_2b
        rw [q1, if_pos (nI_le (by omega) (by omega))]
        rfl
      · constructor
        · intro h; cases h
        · rintro ⟨i, h1, h2, -⟩; omega
    | succ r ih =>
      intro k f hk hf
      obtain ⟨f, rfl⟩ : ∃ m, f = m + 1 := ⟨f - 1, by omega⟩
      obtain ⟨b, e1, e2⟩ := ih (k + 1) f (by omega) (by omega)
      have eX : f_Ar_isByOne_10_2 (f + 1) (nI p) (nI k) σ = f_Ar_isByOne_10_2b (fun x1 x2 σ => f_Ar_isByOne_10_2 f x1 x2 σ) (nI p) (nI k) σ := rfl
      obtain ⟨c1, c2⟩ := q3 k (by omega)
      rw [eX]
      unfold f_Ar_isByOne_10_2b
      rw [q1, if_neg (nI_ge (by omega) (by omega)), zin_n (by omega) (by decide), nI_clamp (by omega), c2, x_apart hp c1, zbd_s]
      dsimp only
      rw [q4]
      have hnap := nap_lt hp c1
      by_cases hd : nap p (cp k) ≤ rc
      · rw [if_neg (nI_nlt hd (by omega))]
        exact ⟨true, rfl, by simp only [true_iff]; exact ⟨k, by omega, by omega, hd⟩⟩
      · rw [if_pos (nI_lt (by omega) (by omega)), nI_1]
        refine ⟨b, e1, ?_⟩
        rw [e2]
        constructor
        · rintro ⟨i, h1, h2⟩; exact ⟨i, by omega, h2⟩
        · rintro ⟨i, h1, h2, h3⟩
          by_cases e : i = k
          · subst e; exact absurd h3 hd
          · exact ⟨i, by omega, h2, h3⟩
  unfold f_Ar_isByOne_10
  obtain ⟨b, e1, e2⟩ := key cnt 0 zfu (by omega) (by unfold zfu; omega)
  rw [show nI 0 = (0 : Int32) from rfl] at e1
  rw [e1]
  have : b = by1 cp cnt rc p := by
    rw [Bool.eq_iff_iff, e2, by1_iff]
    constructor
    · rintro ⟨i, -, h⟩; exact ⟨i, h⟩
    · rintro ⟨i, h⟩; exact ⟨i, by omega, h⟩
  rw [this]
theorem ar_holds10 {σ : zS} {cnt : Nat} {cp : Nat → Nat} {B : Bx} {sq fl : Bool} {rc p : Nat} (h : XA10 σ cnt cp B sq fl rc) (hp : p < 1600) (hrc : rc ≤ 80) : f_Ar_holds_10 (nI p) σ = some (bI ((if sq = true then inb B p (nI rc) else ((fl && inb B p 0) || by1 cp cnt rc p)) = true), σ) := by
  have e1 := ar_isByOne10 h hp hrc
  have e2 : ∀ r, f_Ar_isInBox_10 (nI p) r σ = some (bI (inb B p r = true), σ) := fun r => ar_isInBox10 h hp
  obtain ⟨q1, q2, q3, q4, q5, q6, q7, q8, q9, q10⟩ := h
  unfold f_Ar_holds_10 f_Ar_holds_10_33 f_Ar_holds_10_41
  rw [q9, q10, q4, e2, e2, e1]
  simp only [zbd_s]
  cases sq with
  | true =>
    rw [bI_t rfl, if_neg one0, zbo_b, if_pos rfl]
  | false =>
    rw [bI_f (show ¬ false = true by decide), if_pos rfl, if_neg (show ¬ false = true by decide), e1]
    simp only [zbd_s]
    have e3 : (if bI (by1 cp cnt rc p = true) = 0 then some ((0 : Int32), σ) else some (1, σ)) = some (bI (by1 cp cnt rc p = true), σ) := by
      by_cases hb : by1 cp cnt rc p = true
      · rw [bI_t hb, if_neg one0]
      · rw [bI_f hb, if_pos rfl]
    rw [e3]
    cases fl with
    | true =>
      rw [bI_t rfl, if_neg one0, Bool.true_and]
      by_cases hb : inb B p 0 = true
      · rw [bI_t hb, if_neg one0, hb, Bool.true_or, bI_t rfl]
      · rw [bI_f hb, if_pos rfl]
        simp only [Bool.not_eq_true] at hb
        rw [hb, Bool.false_or]
    | false =>
      rw [bI_f (show ¬ false = true by decide), if_pos rfl, Bool.false_and, Bool.false_or]
theorem ar_clear10 {σ : zS} {sq : Bool} {rc : Nat} (cp : Nat → Nat) : ∃ σ', f_Ar_clear_10 (bI (sq = true)) (nI rc) σ = some (0, σ') ∧ XA10 σ' 0 cp (40, -1, 40, -1) sq false rc ∧ xa10 σ σ' := by
  refine ⟨zsg (zsg (zsg (zsg (zsg (zsg (zsg (zsg σ 1001 0) 1007 (bI (sq = true))) 1008 0) 1002 (nI rc)) 1003 40) 1005 40) 1004 (-1)) 1006 (-1), ?_, ⟨rfl, by omega, fun i hi => absurd hi (Nat.not_lt_zero i), rfl, rfl, rfl, rfl, rfl, rfl, rfl⟩, ?_⟩
  · unfold f_Ar_clear_10
    simp only [zlt_s]
    rw [zbo_b]
  · exact xa10_g (xa10_g (xa10_g (xa10_g (xa10_g (xa10_g (xa10_g (xa10_g xa10_rfl (by omega)) (by omega)) (by omega)) (by omega)) (by omega)) (by omega)) (by omega)) (by omega)
theorem ar_include10 {σ : zS} {cnt : Nat} {cp : Nat → Nat} {B : Bx} {sq fl : Bool} {rc p : Nat} (h : XA10 σ cnt cp B sq fl rc) (hc : cnt < 20) (hp : p < 1600) : ∃ σ', f_Ar_include_10 (nI p) σ = some (0, σ') ∧ XA10 σ' (cnt + 1) (fun i => if i = cnt then p else cp i) (bst B p) sq fl rc ∧ xa10 σ σ' := by
  obtain ⟨q1, q2, q3, q4, q5, q6, q7, q8, q9, q10⟩ := h
  refine ⟨zsg (zsg (zsg (zsg (zsg (zsa σ 33 (nI cnt) (nI p)) 1001 (nI (cnt + 1))) 1003 (zmin B.1 (nI (p % 40)))) 1004 (zmax B.2.1 (nI (p % 40)))) 1005 (zmin B.2.2.1 (nI (p / 40)))) 1006 (zmax B.2.2.2 (nI (p / 40))), ?_, ⟨rfl, by omega, fun i hi => ?_, q4, rfl, rfl, rfl, rfl, q9, q10⟩, ?_⟩
  · unfold f_Ar_include_10
    rw [q1, if_pos (show nI cnt < 20 from nI_lt (show cnt < 20 by omega) (by decide)), zin_n hc (by decide)]
    simp only [zlt_s, zg1, za1, upd, Nat.reduceEqDiff, reduceIte, q1, q5, q6, q7, q8, nI_1, zrem_n (show p < 2 ^ 31 by omega), zdiv_n (show p < 2 ^ 31 by omega)]
  · show (if i = cnt then p else cp i) < 1600 ∧ upd (σ.2 33) (nI cnt).toNatClampNeg (nI p) i = nI (if i = cnt then p else cp i)
    rw [nI_clamp (by omega)]
    unfold upd
    by_cases e : i = cnt
    · simp only [if_pos e]; exact ⟨hp, trivial⟩
    · simp only [if_neg e]; exact q3 i (by omega)
  · exact xa10_g (xa10_g (xa10_g (xa10_g (xa10_g (xa10_a xa10_rfl) (by omega)) (by omega)) (by omega)) (by omega)) (by omega)
theorem ar_fill10 {σ : zS} {cnt : Nat} {cp : Nat → Nat} {B : Bx} {sq : Bool} {rc mo : Nat} (h : XA10 σ cnt cp B sq false rc) : ∃ σ', f_Ar_fillUpTo_10 (nI (2 * mo)) σ = some (0, σ') ∧ XA10 σ' cnt cp B sq (fil mo B) rc ∧ xa10 σ σ' := by
  obtain ⟨q1, q2, q3, q4, q5, q6, q7, q8, q9, q10⟩ := h
  refine ⟨zsg σ 1008 (bI (fil mo B = true)), ?_, ⟨q1, q2, q3, q4, q5, q6, q7, q8, q9, rfl⟩, xa10_g xa10_rfl (by omega)⟩
  unfold f_Ar_fillUpTo_10 f_Ar_fillUpTo_10_31 f_Ar_fillUpTo_10_32 fil
  rw [q5, q6, q7, q8, zbo_0, zbo_1, zlt_s, zlt_s]
  by_cases h1 : nI (2 * mo) < B.2.1 - B.1
  · rw [if_pos h1, bI_f (fun q => (of_decide_eq_true q).1 h1)]
  · rw [if_neg h1]
    by_cases h2 : nI (2 * mo) < B.2.2.2 - B.2.2.1
    · rw [if_pos h2, bI_f (fun q => (of_decide_eq_true q).2 h2)]
    · rw [if_neg h2, bI_t (decide_eq_true ⟨h1, h2⟩)]
theorem SX_a10 {σ σ' : zS} {s : Nat} {D : SD} (h : xa10 σ σ') (g : SX σ s D) : SX σ' s D := SX_s (xq_a10 h) g
theorem x_meas10L {σ : zS} {s T : Nat} {D : SD} {sq : Bool} {rc : Nat} (g : SX σ s D) (hT : T < 2 ^ 20) : ∀ (r h f cnt : Nat) (cp : Nat → Nat) (σ' : zS), h + r = D.n → r < f → xa10 σ σ' → XA10 σ' cnt cp (bfo T D.pl h) sq false rc → CP cp cnt T D.pl h → ∃ (σ'' : zS) (cnt' : Nat) (cp' : Nat → Nat), f_X_measure_10_79 f (nI s) (nI D.k) (nI T) (nI h) σ' = some (0, σ'') ∧ xa10 σ σ'' ∧ XA10 σ'' cnt' cp' (bfo T D.pl D.n) sq (if D.k = 3 then fil D.mo (bfo T D.pl D.n) else false) rc ∧ CP cp' cnt' T D.pl D.n := by
  have hn20 := g.TX.2.1
  intro r
  induction r with
  | zero =>
    intro h f cnt cp σ' hh hf hx hA hC
    obtain ⟨f, rfl⟩ : ∃ m, f = m + 1 := ⟨f - 1, by omega⟩
    have hhn : h = D.n := by omega
    subst hhn
    have g' := SX_a10 hx g
    obtain ⟨g1, g2, g3, g4, g5, g6, g7, ⟨x1, x2, x3, x4⟩, -, g10, g11, g12, g13⟩ := g'
    have eX : f_X_measure_10_79 (f + 1) (nI s) (nI D.k) (nI T) (nI D.n) σ' = f_X_measure_10_79b (fun x2 x3 x5 x6 σ => f_X_measure_10_79 f x2 x3 x5 x6 σ) (nI s) (nI D.k) (nI T) (nI D.n) σ' := rfl
    rw [eX]
    unfold f_X_measure_10_79b
    rw [x2, if_pos (Int32.le_refl _), zin_n g1 (by decide), nI_clamp (by omega), g12]
    simp only [k_3 g2]
    by_cases h3 : D.k = 3
    · rw [if_pos h3]
      obtain ⟨σ2, e1, e2, e3⟩ := ar_fill10 (mo := D.mo) hA
      rw [show (2 : Int32) * nI D.mo = nI (2 * D.mo) from nI_mul 2 D.mo, e1, zbd_s]
      refine ⟨σ2, cnt, cp, rfl, xa10_tr hx e3, ?_, hC⟩
      rw [if_pos h3]; exact e2
    · rw [if_neg h3]
      refine ⟨σ', cnt, cp, rfl, hx, ?_, hC⟩
      rw [if_neg h3]; exact hA
  | succ r ih =>
    intro h f cnt cp σ' hh hf hx hA hC
    obtain ⟨f, rfl⟩ : ∃ m, f = m + 1 := ⟨f - 1, by omega⟩
    have g' := SX_a10 hx g
    obtain ⟨g1, g2, g3, g4, g5, g6, g7, ⟨x1, x2, x3, x4⟩, -, g10, g11, g12, g13⟩ := g'
    obtain ⟨p1, p2, p3, p4⟩ := x4 h (by omega)
    have eX : f_X_measure_10_79 (f + 1) (nI s) (nI D.k) (nI T) (nI h) σ' = f_X_measure_10_79b (fun x2 x3 x5 x6 σ => f_X_measure_10_79 f x2 x3 x5 x6 σ) (nI s) (nI D.k) (nI T) (nI h) σ' := rfl
    rw [eX]
    unfold f_X_measure_10_79b f_X_measure_10_115
    rw [x2, if_neg (nI_ge (by omega) (by omega)), x_has (p31 hT) (by omega), zbd_s, nI_1]
    dsimp only
    rw [zin_n (by omega) (by decide), nI_clamp (by omega), p3]
    obtain ⟨c1, c2, c3⟩ := hC
    by_cases hb : T.testBit h = true
    · rw [bI_t hb, if_neg one0]
      obtain ⟨σ2, e1, e2, e3⟩ := ar_include10 (p := D.pl h) hA (by omega) p1
      rw [e1, zbd_s]
      have eb : bfo T D.pl (h + 1) = bst (bfo T D.pl h) (D.pl h) := by
        show (if T.testBit h = true then _ else _) = _
        rw [if_pos hb]
      refine ih (h + 1) f (cnt + 1) _ σ2 (by omega) (by omega) (xa10_tr hx e3) (by rw [eb]; exact e2) ⟨by omega, fun i hi => ?_, fun j hj htj => ?_⟩
      · by_cases e : i = cnt
        · simp only [if_pos e]; exact ⟨h, by omega, hb, rfl⟩
        · simp only [if_neg e]
          obtain ⟨j, j1, j2, j3⟩ := c2 i (by omega)
          exact ⟨j, by omega, j2, j3⟩
      · by_cases e : j = h
        · subst e; exact ⟨cnt, by omega, by simp only [if_true]⟩
        · obtain ⟨i, i1, i2⟩ := c3 j (by omega) htj
          exact ⟨i, by omega, by simp only [if_neg (show ¬ i = cnt by omega)]; exact i2⟩
    · rw [bI_f hb, if_pos rfl]
      have eb : bfo T D.pl (h + 1) = bfo T D.pl h := by
        show (if T.testBit h = true then _ else _) = _
        rw [if_neg hb]
      refine ih (h + 1) f cnt cp σ' (by omega) (by omega) hx (by rw [eb]; exact hA) ⟨by omega, fun i hi => ?_, fun j hj htj => ?_⟩
      · obtain ⟨j, j1, j2, j3⟩ := c2 i hi
        exact ⟨j, by omega, j2, j3⟩
      · by_cases e : j = h
        · subst e; exact absurd htj hb
        · exact c3 j (by omega) htj
theorem by1_H10 {cp : Nat → Nat} {cnt T n rc p : Nat} {pl : Nat → Nat} (h : CP cp cnt T pl n) : by1 cp cnt rc p = byH T pl n rc p := by
  obtain ⟨c1, c2, c3⟩ := h
  rw [Bool.eq_iff_iff, by1_iff, byH_iff]
  constructor
  · rintro ⟨i, h1, h2⟩
    obtain ⟨j, j1, j2, j3⟩ := c2 i h1
    exact ⟨j, j1, j2, by rw [← j3]; exact h2⟩
  · rintro ⟨j, j1, j2, j3⟩
    obtain ⟨i, h1, h2⟩ := c3 j j1 j2
    exact ⟨i, h1, by rw [h2]; exact j3⟩
/-- the area tells of the shape, as long as nobody touches it -/
def H10 (σ : zS) (D : SD) : Prop := ∀ σ', (∀ k, 1001 ≤ k ∧ k ≤ 1008 → σ'.1 k = σ.1 k) → σ'.2 33 = σ.2 33 → ∀ p, p < 1600 → f_Ar_holds_10 (nI p) σ' = some (bI (D.ins p = true), σ')
theorem H10_of {σ : zS} {D : SD} {cnt : Nat} {cp : Nat → Nat} {B : Bx} {sq fl : Bool} {rc : Nat} (hA : XA10 σ cnt cp B sq fl rc) (hrc : rc ≤ 80) (hi : ∀ p, p < 1600 → (if sq = true then inb B p (nI rc) else ((fl && inb B p 0) || by1 cp cnt rc p)) = D.ins p) : H10 σ D := by
  intro σ' h1 h2 p hp
  rw [ar_holds10 (XA10_s h1 h2 hA) hp hrc, hi p hp]
theorem x_meas10 {σ : zS} {s : Nat} {D : SD} (g : SX σ s D) : ∃ σ', f_X_measure_10 (nI s) σ = some (0, σ') ∧ xa10 σ σ' ∧ H10 σ' D := by
  obtain ⟨g1, g2, g3, g4, g5, g6, g7, ⟨x1, x2, x3, x4⟩, -, g10, g11, g12, g13⟩ := id g
  have hrc := D.rc_le g4
  obtain ⟨σ1, e1, e2⟩ := x_reachOf g
  unfold f_X_measure_10 f_X_measure_10_74
  rw [zin_n g1 (by decide), zlt_s, zin_n g1 (by decide), zlt_s, nI_clamp (by omega), g10, g11]
  simp only [k_5 g2, k_0 g2]
  by_cases h5 : D.k = 5
  · rw [if_pos h5, e1, zbd_s]
    unfold f_Ar_measureLoaf_10
    obtain ⟨σ2, c1, c2, c3⟩ := ar_clear10 (σ := σ1) (sq := true) (rc := D.rc) (fun _ => 0)
    rw [bI_t rfl] at c1
    dsimp only
    rw [c1, zbd_s]
    obtain ⟨σ3, d1, d2, d3⟩ := ar_include10 (p := D.lf) c2 (by decide) g5
    dsimp only
    rw [g13, d1, zbd_s, zbd_s]
    refine ⟨σ3, rfl, xa10_tr (xa10_tr (xa10_3 e2) c3) d3, H10_of d2 hrc (fun p hp => ?_)⟩
    rw [if_pos rfl]
    unfold SD.ins SD.B
    rw [if_neg (by omega), if_neg (by omega), if_neg (by omega), if_pos h5]
  · rw [if_neg h5, show (2 : Int32) = nI 2 from rfl, x_isOfKind (b := 2) (by omega) (by decide), zbd_s]
    dsimp only
    rw [e1, zbd_s]
    dsimp only
    obtain ⟨σ2, c1, c2, c3⟩ := ar_clear10 (σ := σ1) (sq := und D.k 2) (rc := D.rc) (fun _ => 0)
    rw [c1, zbd_s]
    dsimp only
    have hx2 : xa10 σ σ2 := xa10_tr (xa10_3 e2) c3
    have g' := SX_a10 hx2 g
    have hno : D.ho < 20 := by omega
    by_cases h0 : D.k = 0
    · rw [if_pos h0, nb_shl (by omega)]
      obtain ⟨σ3, cnt, cp, d1, d2, d3, d4⟩ := x_meas10L (T := 2 ^ D.ho) (sq := und D.k 2) (rc := D.rc) g' (pow_lt hno) D.n 0 zfu 0 (fun _ => 0) σ2 (by omega) (by unfold zfu; omega) xa10_rfl c2 ⟨by omega, fun i hi => absurd hi (Nat.not_lt_zero i), fun j hj => absurd hj (Nat.not_lt_zero j)⟩
      rw [show nI 0 = (0 : Int32) from rfl] at d1
      refine ⟨σ3, d1, xa10_tr hx2 d2, H10_of d3 hrc (fun p hp => ?_)⟩
      have hs : und D.k 2 = false := by rw [h0]; rfl
      rw [hs, if_neg (by decide), if_neg (by omega), Bool.false_and, Bool.false_or, by1_H10 d4]
      unfold SD.ins
      rw [if_pos h0, Bool.eq_iff_iff, byH_iff, decide_eq_true_iff]
      constructor
      · rintro ⟨h, j1, j2, j3⟩
        rw [tb_pow] at j2
        rw [← j2]; exact j3
      · intro q
        exact ⟨D.ho, g3, (tb_pow _ _).mpr rfl, q⟩
    · rw [if_neg h0, x_townOf g'.TX g3, zbd_s]
      dsimp only
      have hT20 : D.T < 2 ^ 20 := lt20 x1 (tw_isC g'.TX g3).2
      obtain ⟨σ3, cnt, cp, d1, d2, d3, d4⟩ := x_meas10L (T := D.T) (sq := und D.k 2) (rc := D.rc) g' hT20 D.n 0 zfu 0 (fun _ => 0) σ2 (by omega) (by unfold zfu; omega) xa10_rfl c2 ⟨by omega, fun i hi => absurd hi (Nat.not_lt_zero i), fun j hj => absurd hj (Nat.not_lt_zero j)⟩
      rw [show nI 0 = (0 : Int32) from rfl] at d1
      refine ⟨σ3, d1, xa10_tr hx2 d2, H10_of d3 hrc (fun p hp => ?_)⟩
      rw [by1_H10 d4]
      have hB : D.B = bfo D.T D.pl D.n := by unfold SD.B; rw [if_neg h5]
      unfold SD.ins
      rw [hB]
      have hk : D.k = 1 ∨ D.k = 2 ∨ D.k = 3 ∨ D.k = 4 := by omega
      rcases hk with hk | hk | hk | hk
      · have hs : und D.k 2 = false := by rw [hk]; rfl
        rw [hs, if_neg (by decide), if_neg (by omega), if_neg h0, if_pos hk, Bool.false_and, Bool.false_or]
      · have hs : und D.k 2 = true := by rw [hk]; rfl
        rw [hs, if_pos rfl, if_neg h0, if_neg (by omega), if_neg (by omega)]
      · have hs : und D.k 2 = false := by rw [hk]; rfl
        rw [hs, if_neg (by decide), if_pos hk, if_neg h0, if_neg (by omega), if_pos hk, Bool.or_comm]
      · have hs : und D.k 2 = true := by rw [hk]; rfl
        rw [hs, if_pos rfl, if_neg h0, if_neg (by omega), if_neg (by omega)]
