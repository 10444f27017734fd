/-! ===== the reference looks at a shape ===== -/
def mb (τ τ' : zS) : Prop := (∀ k, ¬ (46 ≤ k ∧ k ≤ 51) → τ'.1 k = τ.1 k) ∧ ∀ q, q ≠ 24 → q ≠ 25 → τ'.2 q = τ.2 q
theorem mb_rfl {a : zS} : mb a a := ⟨fun _ _ => rfl, fun _ _ _ => rfl⟩
theorem mb_tr {a b c : zS} (h : mb a b) (g : mb b c) : mb a c := ⟨fun k q => (g.1 k q).trans (h.1 k q), fun q h1 h2 => (g.2 q h1 h2).trans (h.2 q h1 h2)⟩
theorem mb_3 {a b : zS} (h : ms3 a b) : mb a b := ⟨fun k _ => by rw [h.1], h.2⟩
theorem mq_b {a b : zS} (h : mb a b) : mq a b := ⟨fun k _ _ h3 _ => h.1 k h3, fun q h1 => h.2 q (by omega) (by omega)⟩
theorem mb_g {a τ : zS} {k : Nat} {v : Int32} (h : mb a τ) (hk : 46 ≤ k ∧ k ≤ 51) : mb a (zsg τ k v) := mb_tr h ⟨fun j q => by show upd τ.1 k v j = _; unfold upd; rw [if_neg (by omega)], fun _ _ _ => rfl⟩
def MA (τ : zS) (rc T : Nat) (B : Bx) : Prop := τ.1 46 = nI rc ∧ τ.1 47 = nI T ∧ τ.1 48 = B.1 ∧ τ.1 49 = B.2.1 ∧ τ.1 50 = B.2.2.1 ∧ τ.1 51 = B.2.2.2
theorem MA_s {τ τ' : zS} {rc T : Nat} {B : Bx} (h : ∀ k, 46 ≤ k ∧ k ≤ 51 → τ'.1 k = τ.1 k) (q : MA τ rc T B) : MA τ' rc T B := by
  obtain ⟨q1, q2, q3, q4, q5, q6⟩ := q
  exact ⟨by rw [h _ (by omega)]; exact q1, by rw [h _ (by omega)]; exact q2, by rw [h _ (by omega)]; exact q3, by rw [h _ (by omega)]; exact q4, by rw [h _ (by omega)]; exact q5, by rw [h _ (by omega)]; exact q6⟩
theorem if_min (a x : Int32) {α : Type} (f : Int32 → α) : (if a ≤ x then f a else f x) = f (zmin a x) := by
  unfold zmin
  by_cases h : x < a
  · rw [if_pos h, if_neg (Int32.not_le.mpr h)]
  · rw [if_neg h, if_pos (Int32.not_lt.mp h)]
theorem if_max (a x : Int32) {α : Type} (f : Int32 → α) : (if x ≤ a then f a else f x) = f (zmax a x) := by
  unfold zmax
  by_cases h : a < x
  · rw [if_pos h, if_neg (Int32.not_le.mpr h)]
  · rw [if_neg h, if_pos (Int32.not_lt.mp h)]
theorem m_spans {τ : zS} {rc T p : Nat} {B : Bx} (h : MA τ rc T B) (hp : p < 1600) : ∃ τ', f_M_spans (nI p) τ = some (0, τ') ∧ MA τ' rc T (bst B p) ∧ mb τ τ' := by
  obtain ⟨q1, q2, q3, q4, q5, q6⟩ := h
  refine ⟨zsg (zsg (zsg (zsg τ 48 (zmin B.1 (nI (p % 40)))) 49 (zmax B.2.1 (nI (p % 40)))) 50 (zmin B.2.2.1 (nI (p / 40)))) 51 (zmax B.2.2.2 (nI (p / 40))), ?_, ⟨q1, q2, rfl, rfl, rfl, rfl⟩, mb_g (mb_g (mb_g (mb_g mb_rfl (by omega)) (by omega)) (by omega)) (by omega)⟩
  unfold f_M_spans
  rw [zlt_s, zlt_s, zrem_n (by omega), zdiv_n (by omega), q3]
  rw [if_min B.1 (nI (p % 40)) (fun z => f_M_spans_27 (nI (p % 40)) (nI (p / 40)) z τ)]
  unfold f_M_spans_27
  rw [zlt_s]
  have e4 : (zsg τ 48 (zmin B.1 (nI (p % 40)))).1 49 = B.2.1 := q4
  rw [e4, if_max B.2.1 (nI (p % 40)) (fun z => f_M_spans_47 (nI (p / 40)) z (zsg τ 48 (zmin B.1 (nI (p % 40)))))]
  unfold f_M_spans_47
  rw [zlt_s]
  have e5 : (zsg (zsg τ 48 (zmin B.1 (nI (p % 40)))) 49 (zmax B.2.1 (nI (p % 40)))).1 50 = B.2.2.1 := q5
  rw [e5, if_min B.2.2.1 (nI (p / 40)) (fun z => f_M_spans_67 (nI (p / 40)) z (zsg (zsg τ 48 (zmin B.1 (nI (p % 40)))) 49 (zmax B.2.1 (nI (p % 40)))))]
  unfold f_M_spans_67
  rw [zlt_s]
  have e6 : (zsg (zsg (zsg τ 48 (zmin B.1 (nI (p % 40)))) 49 (zmax B.2.1 (nI (p % 40)))) 50 (zmin B.2.2.1 (nI (p / 40)))).1 51 = B.2.2.2 := q6
  rw [e6, if_max B.2.2.2 (nI (p / 40)) (fun z => f_M_spans_87 z (zsg (zsg (zsg τ 48 (zmin B.1 (nI (p % 40)))) 49 (zmax B.2.1 (nI (p % 40)))) 50 (zmin B.2.2.1 (nI (p / 40)))))]
  rfl
theorem m_looksL {τ : zS} {s rc T : Nat} {D : SD} (g : SM τ s D) (h5 : ¬ D.k = 5) (hT : T < 2 ^ 20) : ∀ (r h f : Nat) (τ' : zS), h + r = D.n → r < f → mb τ τ' → MA τ' rc T (bfo T D.pl h) → ∃ τ'', f_M_looks_65 f (nI s) (nI h) τ' = some (0, τ'') ∧ mb τ τ'' ∧ MA τ'' rc T (bfo T D.pl D.n) := by
  have hn20 := g.TM.2.1
  intro r
  induction r with
  | zero =>
    intro h f τ' hh hf hm hA
    obtain ⟨f, rfl⟩ : ∃ m, f = m + 1 := ⟨f - 1, by omega⟩
    have hhn : h = D.n := by omega
    subst hhn
    have g' := SM_s (mq_b hm) g
    refine ⟨τ', ?_, hm, hA⟩
    show f_M_looks_65b _ _ _ _ = _
    unfold f_M_looks_65b
    rw [g'.TM.1, if_pos (Int32.le_refl _)]
  | succ r ih =>
    intro h f τ' hh hf hm hA
    obtain ⟨f, rfl⟩ : ∃ m, f = m + 1 := ⟨f - 1, by omega⟩
    have g' := SM_s (mq_b hm) g
    obtain ⟨g1, g2, g3, g4, g5, g6, g7, ⟨x1, x2, x3, x4, x5⟩, g10, g11, g12, g13⟩ := g'
    obtain ⟨p1, p2, p3, p4⟩ := x5 h (by omega)
    have eM : f_M_looks_65 (f + 1) (nI s) (nI h) τ' = f_M_looks_65b (fun x1 x2 σ => f_M_looks_65 f x1 x2 σ) (nI s) (nI h) τ' := rfl
    rw [eM]
    unfold f_M_looks_65b f_M_looks_105
    rw [x2, if_neg (nI_ge (by omega) (by omega)), zin_n g1 (by decide), nI_clamp (by omega), g10, if_neg (show ¬ nI D.k = 5 from fun q => h5 ((nI_eq (b := 5) (by omega) (by decide)).mp q)), hA.2.1, zin_n (by omega) (by decide), nI_clamp (by omega), p3, nI_1]
    by_cases hb : T.testBit h = true
    · rw [if_pos ((has_1 (p31 hT) (by omega)).mpr hb)]
      obtain ⟨τ2, e1, e2, e3⟩ := m_spans (p := D.pl h) hA p1
      have eb : bfo T D.pl (h + 1) = bst (bfo T D.pl h) (D.pl h) := by
        show (if T.testBit h = true then _ else _) = _
        rw [if_pos hb]
      rw [e1, zbd_s]
      exact ih (h + 1) f τ2 (by omega) (by omega) (mb_tr hm e3) (by rw [eb]; exact e2)
    · rw [if_neg (fun q => hb ((has_1 (p31 hT) (by omega)).mp q))]
      have eb : bfo T D.pl (h + 1) = bfo T D.pl h := by
        show (if T.testBit h = true then _ else _) = _
        rw [if_neg hb]
      exact ih (h + 1) f τ' (by omega) (by omega) hm (by rw [eb]; exact hA)
theorem m_looks {τ : zS} {s : Nat} {D : SD} (g : SM τ s D) : ∃ τ', f_M_looks (nI s) τ = some (0, τ') ∧ mb τ τ' ∧ MA τ' D.rc D.T D.B ∧ D.T < 2 ^ 20 := by
  obtain ⟨g1, g2, g3, g4, g5, g6, g7, ⟨x1, x2, x3, x4, x5⟩, g10, g11, g12, g13⟩ := id g
  obtain ⟨τ1, e1, e2⟩ := m_reach g
  unfold f_M_looks f_M_looks_63
  rw [e1, zbd_s]
  dsimp only
  rw [zlt_s, zin_n g1 (by decide), nI_clamp (by omega)]
  have m1 : mb τ (zsg τ1 46 (nI D.rc)) := mb_g (mb_3 e2) (by omega)
  have s1 := SM_s (mq_b m1) g
  obtain ⟨-, -, -, -, -, -, -, -, -, s11, -⟩ := id s1
  rw [s11]
  obtain ⟨τ2, t1, t2⟩ := m_townOf s1.TM g3
  have hT20 : D.T < 2 ^ 20 := by
    obtain ⟨-, -, -, hc, -⟩ := m_cls (s := 2 ^ D.n - 1) s1.TM (by have : 2 ^ D.n ≤ 2 ^ 20 := Nat.pow_le_pow_right (by decide) x1; omega) g3
    exact lt20 x1 hc
  rw [t1, zbd_s]
  dsimp only
  rw [zlt_s, zlt_s, zlt_s, zlt_s, zlt_s, zin_n g1 (by decide)]
  let τ3 := zsg (zsg (zsg (zsg (zsg τ2 47 (nI D.T)) 48 40) 49 (-1)) 50 40) 51 (-1)
  have m3 : mb τ τ3 := mb_g (mb_g (mb_g (mb_g (mb_g (mb_tr m1 (mb_3 t2)) (by omega)) (by omega)) (by omega)) (by omega)) (by omega)
  have s3 := SM_s (mq_b m3) g
  obtain ⟨-, -, -, -, -, -, -, -, s10, -, -, s13⟩ := id s3
  have a3 : MA τ3 D.rc D.T (40, -1, 40, -1) := ⟨by show τ2.1 46 = _; rw [t2.1]; rfl, rfl, rfl, rfl, rfl, rfl⟩
  have e10 : τ3.2 3 s = nI D.k := s10
  show ∃ τ', (if τ3.2 3 s = 5 then zbd (f_M_spans (τ3.1 7) τ3) fun _ σ11 => f_M_looks_65 zfu (nI s) 0 σ11 else f_M_looks_65 zfu (nI s) 0 τ3) = some (0, τ') ∧ _
  rw [e10]
  by_cases h5 : D.k = 5
  · rw [if_pos (by rw [h5]; rfl), s13]
    obtain ⟨τ4, u1, u2, u3⟩ := m_spans (p := D.lf) a3 g5
    rw [u1, zbd_s]
    have m4 := mb_tr m3 u3
    have s4 := SM_s (mq_b m4) g
    refine ⟨τ4, ?_, m4, ?_, hT20⟩
    · show f_M_looks_65b (fun x1 x2 σ => f_M_looks_65 18446744073709551615 x1 x2 σ) (nI s) 0 τ4 = _
      unfold f_M_looks_65b
      obtain ⟨-, -, -, -, -, -, -, -, v10, -⟩ := id s4
      rw [s4.TM.1, if_neg (show ¬ nI D.n ≤ 0 from nI_ge (a := 0) (by omega) (by omega)), zin_n g1 (by decide), nI_clamp (by omega), v10, if_pos (by rw [h5]; rfl)]
    · unfold SD.B
      rw [if_pos h5]
      exact u2
  · rw [if_neg (show ¬ nI D.k = 5 from fun q => h5 ((nI_eq (b := 5) (by omega) (by decide)).mp q))]
    obtain ⟨τ4, u1, u2, u3⟩ := m_looksL (rc := D.rc) (T := D.T) g h5 hT20 D.n 0 zfu τ3 (by omega) (by unfold zfu; omega) m3 a3
    refine ⟨τ4, u1, u2, ?_, hT20⟩
    unfold SD.B
    rw [if_neg h5]
    exact u3
theorem m_isBox {τ : zS} {rc T p : Nat} {B : Bx} {r : Int32} (h : MA τ rc T B) (hp : p < 1600) : f_M_isBox (nI p) r τ = some (bI (inb B p r = true), τ) := by
  obtain ⟨q1, q2, q3, q4, q5, q6⟩ := h
  unfold f_M_isBox
  rw [m_in, zbd_s, zrem_n (by omega), q3, q4]
  dsimp only
  rw [m_in, zbd_s, zdiv_n (by omega), q5, q6]
  dsimp only
  unfold inb
  by_cases h1 : B.1 - r ≤ nI (p % 40) ∧ nI (p % 40) ≤ B.2.1 + r
  · rw [bI_t h1, if_neg one0]
    by_cases h2 : B.2.2.1 - r ≤ nI (p / 40) ∧ nI (p / 40) ≤ B.2.2.2 + r
    · rw [bI_t h2, if_neg one0, bI_t (decide_eq_true ⟨h1, h2⟩)]
    · rw [bI_f h2, if_pos rfl, bI_f (fun q => h2 (of_decide_eq_true q).2)]
  · rw [bI_f h1, if_pos rfl, bI_f (fun q => h1 (of_decide_eq_true q).1)]
theorem m_byHouses {τ : zS} {rc T p n nr : Nat} {B : Bx} {pl hu : Nat → Nat} (h : MA τ rc T B) (hH : HM τ n nr pl hu) (hT : T < 2 ^ 20) (hrc : rc ≤ 80) (hp : p < 1600) : f_M_byHouses (nI p) τ = some (bI (byH T pl n rc p = true), τ) := by
  obtain ⟨q1, q2, q3, q4, q5, q6⟩ := h
  obtain ⟨x1, x2, x3, x4, x5⟩ := hH
  have key : ∀ (r k f : Nat), k + r = n → r < f → ∃ b : Bool, f_M_byHouses_2 f (nI p) (nI k) τ = some (bI (b = true), τ) ∧ (b = true ↔ ∃ i, k ≤ i ∧ i < n ∧ T.testBit i = true ∧ nap p (pl i) ≤ rc) := by
    intro r
    induction r with
    | zero =>
      intro k f hk hf
      obtain ⟨f, rfl⟩ : ∃ m, f = m + 1 := ⟨f - 1, by omega⟩
      refine ⟨false, ?_, ?_⟩
      · show f_M_byHouses_2b _ _ _ _ = _
        unfold f_M_byHouses_2b
        rw [x2, if_pos (nI_le (by omega) (by omega))]
        rfl
      · constructor
        · intro h; cases h
        · rintro ⟨i, h1, h2, -⟩; omega
    | succ r ih =>
      intro k f hk hf
      obtain ⟨f, rfl⟩ : ∃ m, f = m + 1 := ⟨f - 1, by omega⟩
      obtain ⟨b, e1, e2⟩ := ih (k + 1) f (by omega) (by omega)
      have eX : f_M_byHouses_2 (f + 1) (nI p) (nI k) τ = f_M_byHouses_2b (fun x1 x2 σ => f_M_byHouses_2 f x1 x2 σ) (nI p) (nI k) τ := rfl
      obtain ⟨c1, c2, c3, c4⟩ := x5 k (by omega)
      rw [eX]
      unfold f_M_byHouses_2b f_M_byHouses_41
      rw [x2, if_neg (nI_ge (by omega) (by omega)), q2, zin_n (by omega) (by decide), nI_clamp (by omega), c3, m_apart hp c1, zbd_s, nI_1]
      dsimp only
      rw [q1]
      have hnap := nap_lt hp c1
      by_cases hb : T.testBit k = true
      · rw [if_pos ((has_1 (p31 hT) (by omega)).mpr hb)]
        by_cases hd : nap p (pl k) ≤ rc
        · rw [if_neg (nI_nlt hd (by omega))]
          exact ⟨true, rfl, by simp only [true_iff]; exact ⟨k, by omega, by omega, hb, hd⟩⟩
        · rw [if_pos (nI_lt (by omega) (by omega))]
          refine ⟨b, e1, ?_⟩
          rw [e2]
          constructor
          · rintro ⟨i, h1, h2⟩; exact ⟨i, by omega, h2⟩
          · rintro ⟨i, h1, h2, h3, h4⟩
            by_cases e : i = k
            · subst e; exact absurd h4 hd
            · exact ⟨i, by omega, h2, h3, h4⟩
      · rw [if_neg (fun q => hb ((has_1 (p31 hT) (by omega)).mp q))]
        refine ⟨b, e1, ?_⟩
        rw [e2]
        constructor
        · rintro ⟨i, h1, h2⟩; exact ⟨i, by omega, h2⟩
        · rintro ⟨i, h1, h2, h3, h4⟩
          by_cases e : i = k
          · subst e; exact absurd h3 hb
          · exact ⟨i, by omega, h2, h3, h4⟩
  unfold f_M_byHouses
  obtain ⟨b, e1, e2⟩ := key n 0 zfu (by omega) (by unfold zfu; omega)
  rw [show nI 0 = (0 : Int32) from rfl] at e1
  rw [e1]
  have : b = byH T pl n rc p := by
    rw [Bool.eq_iff_iff, e2, byH_iff]
    constructor
    · rintro ⟨i, -, h⟩; exact ⟨i, h⟩
    · rintro ⟨i, h⟩; exact ⟨i, by omega, h⟩
  rw [this]
theorem m_isIn {τ : zS} {s p : Nat} {D : SD} (g : SM τ s D) (hA : MA τ D.rc D.T D.B) (hT : D.T < 2 ^ 20) (hp : p < 1600) : f_M_isIn (nI s) (nI p) τ = some (bI (D.ins p = true), τ) := by
  obtain ⟨g1, g2, g3, g4, g5, g6, g7, hH, g10, g11, g12, g13⟩ := id g
  have hrc := D.rc_le g4
  have hn20 := hH.1
  obtain ⟨q1, q2, q3, q4, q5, q6⟩ := id hA
  unfold f_M_isIn f_M_isIn_121
  rw [zin_n g1 (by decide), nI_clamp (by omega), g10]
  simp only [k_0 g2, k_1 g2, k_3 g2]
  unfold SD.ins
  by_cases h0 : D.k = 0
  · rw [if_pos h0, if_pos h0, m_middle g, zbd_s]
    dsimp only
    have hm : D.mid = D.pl D.ho := by unfold SD.mid; rw [if_neg (by omega)]
    have hpl := (hH.2.2.2.2 D.ho (by omega)).1
    rw [hm, m_apart hp hpl, zbd_s]
    dsimp only
    rw [q1]
    have hnap := nap_lt hp hpl
    by_cases hd : nap p (D.pl D.ho) ≤ D.rc
    · rw [if_neg (nI_nlt hd (by omega)), bI_t (decide_eq_true hd)]
    · rw [if_pos (nI_lt (by omega) (by omega)), bI_f (fun q => hd (of_decide_eq_true q))]
  · rw [if_neg h0, if_neg h0, m_byHouses hA hH hT hrc hp]
    simp only [zbd_s]
    by_cases h1 : D.k = 1
    · rw [if_pos h1, if_pos h1, zbo_b]
    · rw [if_neg h1, if_neg h1]
      by_cases h3 : D.k = 3
      · rw [if_pos h3, if_pos h3]
        by_cases hb : byH D.T D.pl D.n D.rc p = true
        · rw [bI_t hb, if_neg one0, hb, Bool.true_or, bI_t rfl]
        · rw [bI_f hb, if_pos rfl]
          simp only [Bool.not_eq_true] at hb
          rw [hb, Bool.false_or, zin_n g1 (by decide), g12, zin_n g1 (by decide), show (2 : Int32) * nI D.mo = nI (2 * D.mo) from nI_mul 2 D.mo, q3, q4, q5, q6, m_isBox hA hp, zbd_s]
          dsimp only
          unfold fil
          by_cases c1 : nI (2 * D.mo) < D.B.2.1 - D.B.1
          · rw [if_pos c1, bI_f (by simp [c1])]
          · rw [if_neg c1]
            by_cases c2 : nI (2 * D.mo) < D.B.2.2.2 - D.B.2.2.1
            · rw [if_pos c2, bI_f (by simp [c2])]
            · rw [if_neg c2, decide_eq_true (show _ ∧ _ from ⟨c1, c2⟩), Bool.true_and]
              by_cases c3 : inb D.B p 0 = true
              · rw [bI_t c3, if_neg one0]
              · rw [bI_f c3, if_pos rfl]
      · rw [if_neg h3, if_neg h3, q1, m_isBox hA hp, zbd_s, zbo_b]
/-- both look at a shape -/
theorem look {σ τ : zS} {s : Nat} (hR : R σ τ) (hs : nI s < τ.1 3) (hs2 : s < 2 ^ 31) : ∃ D σ' τ', SX σ s D ∧ SM τ s D ∧ f_X_measure_9 (nI s) σ = some (0, σ') ∧ xa9 σ σ' ∧ H9 σ' D ∧ f_M_looks (nI s) τ = some (0, τ') ∧ mb τ τ' ∧ MA τ' D.rc D.T D.B ∧ D.T < 2 ^ 20 := by
  obtain ⟨D, hX, hM⟩ := R_D hR hs hs2
  obtain ⟨σ', e1, e2, e3⟩ := x_meas9 hX
  obtain ⟨τ', g1, g2, g3, g4⟩ := m_looks hM
  exact ⟨D, σ', τ', hX, hM, e1, e2, e3, g1, g2, g3, g4⟩
theorem sim_within : @zSim (Int32 × Int32) R (fun a => f_X_within a.1 a.2) (fun a => f_M_within a.1 a.2) := by
  intro ⟨x, y⟩ σ τ hR
  dsimp only
  obtain ⟨a1, a2, -⟩ := id hR.2.1
  unfold f_X_within f_M_within
  rw [sh_knows, m_isShape a2, zbd_s, zbd_s, a1]
  by_cases h1 : 0 ≤ x ∧ x < τ.1 3
  · rw [bI_t h1]
    simp only [if_neg one0]
    rw [x_isPlace, m_isPlace, zbd_s, zbd_s]
    by_cases h2 : 0 ≤ y ∧ y ≤ 1599
    · rw [bI_t h2]
      simp only [if_neg one0]
      obtain ⟨p, hp, rfl⟩ := bd_of (N := 1599) (by decide) h2
      have h1' := h1
      obtain ⟨ns, hns, a2'⟩ := a2
      rw [a2'] at h1'
      obtain ⟨s, hs, rfl⟩ := (kn_iff (by omega)).mp h1'
      obtain ⟨D, σ', τ', hX, hM, e1, e2, e3, g1, g2, g3, g4⟩ := look hR h1.2 (by omega)
      rw [e1, g1]
      simp only [zbd_s]
      rw [e3 σ' (fun _ _ => rfl) rfl p (by omega), m_isIn (SM_s (mq_b g2) hM) g3 g4 (show p < 1600 by omega)]
      simp only [zbd_s]
      have hR' := R_s (xq_a9 e2) (mq_b g2) hR
      by_cases hi : D.ins p = true
      · rw [bI_t hi]; exact ⟨_, _, _, rfl, rfl, hR'⟩
      · rw [bI_f hi]; exact ⟨_, _, _, rfl, rfl, hR'⟩
    · rw [bI_f h2]
      simp only [if_true]
      exact ⟨_, _, _, rfl, rfl, hR⟩
  · rw [bI_f h1]
    simp only [if_true]
    exact ⟨_, _, _, rfl, rfl, hR⟩
