/-! ===== plain operations ===== -/
theorem xr_rfl {σ : zS} : xr σ σ := ⟨fun _ _ => rfl, fun _ _ => rfl⟩
theorem mr_rfl {σ : zS} : mr σ σ := ⟨fun _ _ => rfl, fun _ _ => rfl⟩
theorem xr_tr {a b c : zS} (h : xr a b) (g : xr b c) : xr a c := ⟨fun k q => (g.1 k q).trans (h.1 k q), fun k q => (g.2 k q).trans (h.2 k q)⟩
theorem mr_tr {a b c : zS} (h : mr a b) (g : mr b c) : mr a c := ⟨fun k q => (g.1 k q).trans (h.1 k q), fun k q => (g.2 k q).trans (h.2 k q)⟩
theorem xr_g {a σ : zS} {k : Nat} {v : Int32} (h : xr a σ) (hk : k < 305 ∨ (308 < k ∧ k < 1043)) : xr a (zsg σ k v) := xr_tr h ⟨fun j q => by show upd σ.1 k v j = _; unfold upd; rw [if_neg (by omega)], fun j q => rfl⟩
theorem mr_g {a σ : zS} {k : Nat} {v : Int32} (h : mr a σ) (hk : k ≠ 0 ∧ k ≠ 8 ∧ k ≠ 24) : mr a (zsg σ k v) := mr_tr h ⟨fun j q => by show upd σ.1 k v j = _; unfold upd; rw [if_neg (by omega)], fun j q => rfl⟩
theorem xr_v {a σ : zS} {k : Nat} {f : Nat → Int32} (h : xr a σ) (hk : k < 17 ∨ (19 < k ∧ k < 43)) : xr a (σ.1, va_up σ.2 k f) := xr_tr h ⟨fun j q => rfl, fun j q => by show va_up σ.2 k f j = _; unfold va_up; rw [if_neg (by omega)]⟩
theorem mr_v {a σ : zS} {k : Nat} {f : Nat → Int32} (h : mr a σ) (hk : k ≠ 1 ∧ k ≠ 2 ∧ k ≠ 15 ∧ k ≠ 16) : mr a (σ.1, va_up σ.2 k f) := mr_tr h ⟨fun j q => rfl, fun j q => by show va_up σ.2 k f j = _; unfold va_up; rw [if_neg (by omega)]⟩
theorem xr_a {a σ : zS} {k : Nat} {i v : Int32} (h : xr a σ) (hk : k < 17 ∨ (19 < k ∧ k < 43)) : xr a (zsa σ k i v) := xr_v h hk
theorem mr_a {a σ : zS} {k : Nat} {i v : Int32} (h : mr a σ) (hk : k ≠ 1 ∧ k ≠ 2 ∧ k ≠ 15 ∧ k ≠ 16) : mr a (zsa σ k i v) := mr_v h hk
theorem eqN_u {N j : Nat} {f g : Nat → Int32} {v w : Int32} (h : eqN N f g) (hv : v = w) : eqN N (upd f j v) (upd g j w) := by
  intro i hi
  unfold upd
  subst hv
  split
  · rfl
  · exact h i hi
theorem all_u {N j : Nat} {P : Int32 → Prop} {f : Nat → Int32} {v : Int32} (h : ∀ i, i < N → P (f i)) (hv : P v) : ∀ i, i < N → P (upd f j v i) := by
  intro i hi
  unfold upd
  split
  · exact hv
  · exact h i hi
theorem all_ub {N M j : Nat} {f : Nat → Int32} {v : Int32} (h : ∀ i, i < N → bd (f i) M) (hv : bd v M) : ∀ i, i < N → bd (upd f j v i) M := all_u (P := fun z => bd z M) h hv
theorem one0 : ¬ (1 : Int32) = 0 := by decide
theorem nI_ltL {x : Int32} {a b : Nat} (h : x < nI a) (hab : a ≤ b) (hb : b < 2 ^ 31) : x < nI b := Int32.lt_of_lt_of_le h (nI_le hab hb)
theorem sim_loaf : @zSim Int32 R (fun a => f_X_loaf a) (fun a => f_M_loaf a) := by
  intro x σ τ hR
  dsimp only
  unfold f_X_loaf f_M_loaf
  rw [x_isPlace, m_isPlace, zbd_s, zbd_s]
  by_cases h1 : 0 ≤ x ∧ x ≤ 1599
  · rw [bI_t h1]
    simp only [if_neg one0, zlt_s]
    obtain ⟨r1, r2, r3, r4, r5, r6, r7, r8, r9, r10⟩ := hR
    refine ⟨_, zsg σ 15 x, zsg τ 7 x, rfl, by rw [r3.1], RJ_s (xr_g xr_rfl (by omega)) (mr_g mr_rfl (by omega)) r1, r2, ⟨rfl, bd_of (by decide) h1⟩, r4, r5, r6, r7, r8, r9, r10⟩
  · rw [bI_f h1]
    simp only [if_true]
    exact ⟨_, _, _, rfl, rfl, hR⟩
theorem sim_shape : @zSim (Int32 × Int32 × Int32) R (fun a => f_X_shape a.1 a.2.1 a.2.2) (fun a => f_M_shape a.1 a.2.1 a.2.2) := by
  intro ⟨k, x, y⟩ σ τ hR
  obtain ⟨hh, hb⟩ := R_h hR
  dsimp only
  unfold f_X_shape f_M_shape
  rw [x_isFrom, m_in, zbd_s, zbd_s]
  by_cases h1 : 0 ≤ k ∧ k ≤ 5
  · rw [bI_t h1]
    simp only [if_neg one0]
    rw [x_isFrom, m_in, zbd_s, zbd_s]
    by_cases h2 : 0 ≤ y ∧ y ≤ 30
    · rw [bI_t h2]
      simp only [if_neg one0]
      rw [vi_knows, m_isHouse hb, hh, zbd_s, zbd_s]
      by_cases h3 : 0 ≤ x ∧ x < τ.1 0
      · rw [bI_t h3]
        simp only [if_neg one0]
        obtain ⟨r1, ⟨a1, ⟨n, hn, a2⟩, a3, a4, a5, a6, a7, a8⟩, r3, r4, ⟨b1, b2, b3, b4, b5, b6⟩, r6, r7, r8, r9, r10⟩ := hR
        unfold f_Sh_add
        have a1' : σ.1 503 = nI n := by rw [a1, a2]
        by_cases hn2 : n = 12
        · have e1 : ¬ σ.1 503 < 12 := by rw [a1', hn2]; decide
          have e2 : τ.1 3 = 12 := by rw [a2, hn2]; rfl
          rw [if_neg e1, if_pos e2]
          exact ⟨_, σ, τ, rfl, rfl, r1, ⟨a1, ⟨n, hn, a2⟩, a3, a4, a5, a6, a7, a8⟩, r3, r4, ⟨b1, b2, b3, b4, b5, b6⟩, r6, r7, r8, r9, r10⟩
        · have e1 : σ.1 503 < 12 := by rw [a1']; exact nI_lt (show n < 12 by omega) (by decide)
          have e2 : ¬ τ.1 3 = 12 := by rw [a2]; exact fun q => hn2 ((nI_eq (by omega) (by decide)).mp q)
          rw [if_pos e1, if_neg e2]
          simp only [zlt_s, za1, zg1, zg2, za2, a1', a2, zin_n (show n < 12 by omega) (show 12 < 2 ^ 31 by decide), nI_clamp (show n < 2 ^ 31 by omega), nI_1, zbd_s]
          refine ⟨nI (n + 1) - 1, _, _, rfl, rfl, RJ_s (xr_g (xr_a (xr_a (xr_a xr_rfl (by omega)) (by omega)) (by omega)) (by omega)) (mr_g (mr_a (mr_a (mr_a mr_rfl (by omega)) (by omega)) (by omega)) (by omega)) r1, ⟨rfl, ⟨n + 1, by omega, rfl⟩, ?_, ?_, ?_, ?_, ?_, ?_⟩, r3, r4, ⟨b1, b2, b3, b4, b5, ?_⟩, r6, r7, r8, r9, r10⟩
          · exact eqN_u a3 rfl
          · exact eqN_u a4 rfl
          · exact eqN_u a5 rfl
          · exact all_ub a6 (bd_of (by decide) h1)
          · exact all_ub a7 (bd_of (by decide) h2)
          · intro i hi hin
            show 0 ≤ upd (τ.2 4) (nI n).toNatClampNeg x i ∧ upd (τ.2 4) (nI n).toNatClampNeg x i < τ.1 0
            rw [nI_clamp (by omega)]
            unfold upd
            split
            · exact h3
            · refine a8 i hi ?_
              rw [a2]
              have : i < n + 1 := (nI_ltI (by omega) (by omega)).mp hin
              exact nI_lt (by omega) (by omega)
          · intro i hi hin
            have := b6 i hi hin
            exact ⟨this.1, nI_ltL (a := n) (by rw [a2] at this; exact this.2) (by omega) (by omega)⟩
      · rw [bI_f h3]
        simp only [if_true]
        exact ⟨_, _, _, rfl, rfl, hR⟩
    · rw [bI_f h2]
      simp only [if_true]
      exact ⟨_, _, _, rfl, rfl, hR⟩
  · rw [bI_f h1]
    simp only [if_true]
    exact ⟨_, _, _, rfl, rfl, hR⟩
theorem sim_person : @zSim (Int32 × Int32) R (fun a => f_X_person a.1 a.2) (fun a => f_M_person a.1 a.2) := by
  intro ⟨x, y⟩ σ τ hR
  dsimp only
  unfold f_X_person f_M_person
  rw [x_isPlace, m_isPlace, zbd_s, zbd_s]
  by_cases h1 : 0 ≤ x ∧ x ≤ 1599
  · rw [bI_t h1]
    simp only [if_neg one0]
    obtain ⟨r1, r2, r3, r4, ⟨b1, ⟨n, hn, b2⟩, b3, b4, b5, b6⟩, r6, r7, r8, r9, r10⟩ := id hR
    obtain ⟨a1, a2, -⟩ := id r2
    rw [sh_knows, m_isShape a2, zbd_s, zbd_s, a1]
    by_cases h2 : 0 ≤ y ∧ y < τ.1 3
    · rw [bI_t h2]
      simp only [if_neg one0]
      unfold f_Pe_add
      have b1' : σ.1 602 = nI n := by rw [b1, b2]
      by_cases hn2 : n = 8
      · have e1 : ¬ σ.1 602 < 8 := by rw [b1', hn2]; decide
        have e2 : τ.1 14 = 8 := by rw [b2, hn2]; rfl
        rw [if_neg e1, if_pos e2]
        exact ⟨_, σ, τ, rfl, rfl, hR⟩
      · have e1 : σ.1 602 < 8 := by rw [b1']; exact nI_lt (show n < 8 by omega) (by decide)
        have e2 : ¬ τ.1 14 = 8 := by rw [b2]; exact fun q => hn2 ((nI_eq (by omega) (by decide)).mp q)
        rw [if_pos e1, if_neg e2]
        simp only [zlt_s, za1, zg1, zg2, za2, b1', b2, zin_n (show n < 8 by omega) (show 8 < 2 ^ 31 by decide), nI_clamp (show n < 2 ^ 31 by omega), nI_1, zbd_s]
        obtain ⟨c1, c2, c3, c4, c5, c6, c7, c8, c9, c10, c11, c12, c13, c14, c15, c16, c17⟩ := r9
        refine ⟨nI (n + 1) - 1, _, _, rfl, rfl, RJ_s (xr_g (xr_a (xr_a xr_rfl (by omega)) (by omega)) (by omega)) (mr_g (mr_a (mr_a mr_rfl (by omega)) (by omega)) (by omega)) r1, r2, r3, r4, ⟨rfl, ⟨n + 1, by omega, rfl⟩, ?_, ?_, ?_, ?_⟩, r6, r7, r8, ⟨c1, c2, c3, c4, c5, c6, c7, c8, c9, c10, c11, c12, c13, ?_, c15, c16, c17⟩, r10⟩
        · exact eqN_u b3 rfl
        · exact eqN_u b4 rfl
        · exact all_ub b5 (bd_of (by decide) h1)
        · intro i hi hin
          show 0 ≤ upd (τ.2 12) (nI n).toNatClampNeg y i ∧ upd (τ.2 12) (nI n).toNatClampNeg y i < τ.1 3
          rw [nI_clamp (by omega)]
          unfold upd
          split
          · exact h2
          · refine b6 i hi ?_
            rw [b2]
            have : i < n + 1 := (nI_ltI (by omega) (by omega)).mp hin
            exact nI_lt (by omega) (by omega)
        · rw [b2] at c14
          exact Int32.le_trans c14 (nI_le (by omega) (by omega))
    · rw [bI_f h2]
      simp only [if_true]
      exact ⟨_, _, _, rfl, rfl, hR⟩
  · rw [bI_f h1]
    simp only [if_true]
    exact ⟨_, _, _, rfl, rfl, hR⟩
theorem sim_moves : @zSim (Int32 × Int32) R (fun a => f_X_moves a.1 a.2) (fun a => f_M_moves a.1 a.2) := by
  intro ⟨x, y⟩ σ τ hR
  dsimp only
  obtain ⟨r1, r2, r3, r4, ⟨b1, b2, b3, b4, b5, b6⟩, r6, r7, r8, r9, r10⟩ := id hR
  unfold f_X_moves f_M_moves
  rw [pe_knows, m_isPerson b2, zbd_s, zbd_s, b1]
  by_cases h1 : 0 ≤ x ∧ x < τ.1 14
  · rw [bI_t h1]
    simp only [if_neg one0]
    rw [x_isPlace, m_isPlace, zbd_s, zbd_s]
    by_cases h2 : 0 ≤ y ∧ y ≤ 1599
    · rw [bI_t h2]
      simp only [if_neg one0]
      obtain ⟨n, hn, b2'⟩ := b2
      rw [b2'] at h1
      obtain ⟨i, hi, rfl⟩ := (kn_iff (by omega)).mp h1
      simp only [zlt_s, zin_n (show i < 8 by omega) (show 8 < 2 ^ 31 by decide), nI_clamp (show i < 2 ^ 31 by omega)]
      refine ⟨_, zsa σ 26 (nI i) y, zsa τ 11 (nI i) y, rfl, by rw [b3 i (by omega)], RJ_s (xr_a xr_rfl (by omega)) (mr_a mr_rfl (by omega)) r1, r2, r3, r4, ⟨b1, ⟨n, hn, b2'⟩, ?_, b4, ?_, b6⟩, r6, r7, r8, r9, r10⟩
      · exact eqN_u b3 rfl
      · exact all_ub b5 (bd_of (by decide) h2)
    · rw [bI_f h2]
      simp only [if_true]
      exact ⟨_, _, _, rfl, rfl, hR⟩
  · rw [bI_f h1]
    simp only [if_true]
    exact ⟨_, _, _, rfl, rfl, hR⟩
theorem sim_well : @zSim Int32 R (fun a => f_X_well a) (fun a => f_M_well a) := by
  intro x σ τ hR
  dsimp only
  unfold f_X_well f_M_well
  rw [x_isPlace, m_isPlace, zbd_s, zbd_s]
  by_cases h1 : 0 ≤ x ∧ x ≤ 1599
  · rw [bI_t h1]
    simp only [if_neg one0]
    obtain ⟨r1, r2, r3, r4, r5, ⟨a1, ⟨n, hn, a2⟩, a3, a4⟩, r7, r8, r9, r10⟩ := id hR
    have a1' : σ.1 13 = nI n := by rw [a1, a2]
    by_cases hn2 : n = 10
    · have e1 : ¬ σ.1 13 < 10 := by rw [a1', hn2]; decide
      have e2 : τ.1 17 = 10 := by rw [a2, hn2]; rfl
      rw [if_neg e1, if_pos e2]
      exact ⟨_, σ, τ, rfl, rfl, hR⟩
    · have e1 : σ.1 13 < 10 := by rw [a1']; exact nI_lt (show n < 10 by omega) (by decide)
      have e2 : ¬ τ.1 17 = 10 := by rw [a2]; exact fun q => hn2 ((nI_eq (by omega) (by decide)).mp q)
      rw [if_pos e1, if_neg e2]
      simp only [zlt_s, za1, zg1, zg2, za2, a1', a2, zin_n (show n < 10 by omega) (show 10 < 2 ^ 31 by decide), nI_clamp (show n < 2 ^ 31 by omega), nI_1, zbd_s]
      refine ⟨nI (n + 1) - 1, _, _, rfl, rfl, RJ_s (xr_g (xr_a xr_rfl (by omega)) (by omega)) (mr_g (mr_a mr_rfl (by omega)) (by omega)) r1, r2, r3, r4, r5, ⟨rfl, ⟨n + 1, by omega, rfl⟩, ?_, ?_⟩, r7, r8, r9, r10⟩
      · exact eqN_u a3 rfl
      · exact all_ub a4 (bd_of (by decide) h1)
  · rw [bI_f h1]
    simp only [if_true]
    exact ⟨_, _, _, rfl, rfl, hR⟩
