/-! ===== image, feed ===== -/
theorem m_image65 {τ : zS} : ∀ (r k f : Nat) (g : Nat → Int32), k + r = 8 → r < f → ∃ g', f_M_image_65 f (nI k) (wv τ 18 g) = some (τ.1 0, wv τ 18 g') ∧ ∀ j, g' j = if k ≤ j ∧ j < 8 then τ.2 11 j else g j := by
  intro r
  induction r with
  | zero =>
    intro k f g hk hf
    obtain ⟨f, rfl⟩ : ∃ m, f = m + 1 := ⟨f - 1, by omega⟩
    refine ⟨g, ?_, fun j => by rw [if_neg (by omega)]⟩
    show f_M_image_65b _ _ _ = _
    unfold f_M_image_65b
    rw [if_pos (show (8 : Int32) ≤ nI k from nI_le (show 8 ≤ k by omega) (by omega)), wv_1]
  | succ r ih =>
    intro k f g hk hf
    obtain ⟨f, rfl⟩ : ∃ m, f = m + 1 := ⟨f - 1, by omega⟩
    obtain ⟨g', h1, h2⟩ := ih (k + 1) f (upd g k (τ.2 11 k)) (by omega) (by omega)
    refine ⟨g', ?_, fun j => ?_⟩
    · show f_M_image_65b _ _ _ = _
      unfold f_M_image_65b
      rw [if_neg (show ¬ (8 : Int32) ≤ nI k from nI_ge (show k < 8 by omega) (by decide)), zin_n (by omega) (by decide), zin_n (by omega) (by decide), zlt_s, nI_clamp (by omega), zsa_wv _ _ _ _ (by omega), nI_1, wv_ne τ g (by decide)]
      exact h1
    · rw [h2 j]
      unfold upd
      by_cases hj : j = k
      · subst hj
        rw [if_neg (by omega), if_pos rfl, if_pos (by omega)]
      · rw [if_neg hj]
        by_cases h3 : k + 1 ≤ j ∧ j < 8
        · rw [if_pos h3, if_pos (by omega)]
        · rw [if_neg h3, if_neg (by omega)]
theorem m_image39 {τ : zS} : ∀ (r k f : Nat) (g : Nat → Int32), k + r = 20 → r < f → ∃ g', f_M_image_39 f (nI k) (wv τ 17 g) = f_M_image_65 zfu 0 (wv τ 17 g') ∧ ∀ j, g' j = if k ≤ j ∧ j < 20 then τ.2 2 j else g j := by
  intro r
  induction r with
  | zero =>
    intro k f g hk hf
    obtain ⟨f, rfl⟩ : ∃ m, f = m + 1 := ⟨f - 1, by omega⟩
    refine ⟨g, ?_, fun j => by rw [if_neg (by omega)]⟩
    show f_M_image_39b _ _ _ = _
    unfold f_M_image_39b
    rw [if_pos (show (20 : Int32) ≤ nI k from nI_le (show 20 ≤ k by omega) (by omega))]
  | succ r ih =>
    intro k f g hk hf
    obtain ⟨f, rfl⟩ : ∃ m, f = m + 1 := ⟨f - 1, by omega⟩
    obtain ⟨g', h1, h2⟩ := ih (k + 1) f (upd g k (τ.2 2 k)) (by omega) (by omega)
    refine ⟨g', ?_, fun j => ?_⟩
    · show f_M_image_39b _ _ _ = _
      unfold f_M_image_39b
      rw [if_neg (show ¬ (20 : Int32) ≤ nI k from nI_ge (show k < 20 by omega) (by decide)), zin_n (by omega) (by decide), zin_n (by omega) (by decide), zlt_s, nI_clamp (by omega), zsa_wv _ _ _ _ (by omega), nI_1, wv_ne τ g (by decide)]
      exact h1
    · rw [h2 j]
      unfold upd
      by_cases hj : j = k
      · subst hj
        rw [if_neg (by omega), if_pos rfl, if_pos (by omega)]
      · rw [if_neg hj]
        by_cases h3 : k + 1 ≤ j ∧ j < 20
        · rw [if_pos h3, if_pos (by omega)]
        · rw [if_neg h3, if_neg (by omega)]
theorem sim_image : @zSim Unit R (fun a => f_X_image) (fun a => f_M_image) := by
  intro _ σ τ hR
  obtain ⟨r1, r2, r3, r4, ⟨b1, b2, b3, b4, b5, b6⟩, r6, r7, r8, r9, r10⟩ := id hR
  obtain ⟨c, e, ln, m, n, nr, pl, hu, hW, hLX, hLM, ⟨x1, x2, x3, x4⟩, ⟨m1, m2, m3, m4, m5⟩, hJ⟩ := id r1
  dsimp only
  let τ1 := zsg (zsg (zsg (zsg (zsg τ 25 1) 26 (τ.1 0)) 27 (τ.1 14)) 28 (τ.1 7)) 29 (τ.1 24)
  obtain ⟨g, h1, h2⟩ := m_image39 (τ := τ1) 20 0 zfu (τ1.2 17) rfl (by decide)
  let τ2 := wv τ1 17 g
  obtain ⟨g', h3, h4⟩ := m_image65 (τ := τ2) 8 0 zfu (τ2.2 18) rfl (by decide)
  rw [wv_self, show nI 0 = (0 : Int32) from rfl] at h1 h3
  have eM : f_M_image τ = some (τ.1 0, wv τ2 18 g') := by
    unfold f_M_image
    rw [zlt_s, zlt_s, zlt_s, zlt_s, zlt_s]
    exact h1.trans h3
  let σ1 := zsg (zsg (zsg (zsg (zsg σ 702 1) 703 (σ.1 307)) 704 (σ.1 602)) 705 (σ.1 15)) 706 (σ.1 14)
  let σ2 := zsc (zsc σ1 18 28 0 0 20) 26 29 0 0 8
  have eX : f_X_image σ = some (σ.1 307, σ2) := rfl
  rw [eX, eM]
  obtain ⟨T, r, t1, t2, t3, t4, t5, -⟩ := r8.2.2
  refine ⟨σ.1 307, σ2, wv τ2 18 g', rfl, by rw [x2, m2], ?_, r2, r3, r4, ⟨b1, b2, b3, b4, b5, b6⟩, r6, r7, r8, ?_, r10⟩
  · exact RJ_s (xr_v (xr_v (xr_g (xr_g (xr_g (xr_g (xr_g xr_rfl (by omega)) (by omega)) (by omega)) (by omega)) (by omega)) (by omega)) (by omega)) (mr_v (mr_v (mr_g (mr_g (mr_g (mr_g (mr_g mr_rfl (by omega)) (by omega)) (by omega)) (by omega)) (by omega)) (by omega)) (by omega)) r1
  · show G9 1 (σ.1 307) (σ.1 602) (σ.1 15) (σ.1 14) (σ2.2 28) (σ2.2 29) 1 (τ.1 0) (τ.1 14) (τ.1 7) (τ.1 24) g g' (τ.1 0) (τ.1 14) (τ.1 23)
    refine ⟨rfl, by rw [x2, m2], b1, r3.1, r8.2.1, ⟨1, by decide, rfl⟩, ?_, ?_, ?_, ?_, ⟨n, m1, m2⟩, Int32.le_refl _, b2, Int32.le_refl _, r3.2, ?_, ?_⟩
    · intro i hi
      rw [h2, if_pos ⟨Nat.zero_le _, hi⟩]
      show va_cpy (σ.2 18) (σ.2 28) 0 0 20 i = τ.2 2 i
      rw [pk_cpy_in (Nat.zero_le _) (by omega), Nat.zero_add, Nat.sub_zero, (x4 i hi).2.2.2, (m5 i hi).2.2.2]
    · intro i hi
      rw [h4, if_pos ⟨Nat.zero_le _, hi⟩]
      show va_cpy (σ.2 26) (σ.2 29) 0 0 8 i = τ.2 11 i
      rw [pk_cpy_in (Nat.zero_le _) (by omega), Nat.zero_add, Nat.sub_zero, b3 i hi]
    · intro i hi
      rw [h2, if_pos ⟨Nat.zero_le _, hi⟩]
      exact ⟨hu i, (m5 i hi).2.1, (m5 i hi).2.2.2⟩
    · intro i hi
      rw [h4, if_pos ⟨Nat.zero_le _, hi⟩]
      exact b5 i hi
    · rw [t5]; exact nI_pos' (by omega)
    · rw [t5, t3]; exact nI_lt t4 (by omega)
theorem byte_eq (w : Int64) {k : Nat} (hk : k < 8) : ((zlushr w (8 * nI k)).toInt32 &&& 255) = ((zlshr w (8 * nI k)) &&& 255).toInt32 := by
  have e : ∀ k, k < 8 → ((8 * nI k).toInt64.toUInt64 &&& Int64.toUInt64 63).toBitVec.toNat = 8 * k ∧ ((8 * nI k).toInt64 &&& 63).toBitVec.smod 64 = BitVec.ofNat 64 (8 * k) := by decide +kernel
  obtain ⟨e1, e2⟩ := e k hk
  unfold zlushr zlshr
  apply Int32.toBitVec_inj.mp
  apply BitVec.eq_of_getLsbD_eq
  intro i hi
  rw [Int32.toBitVec_and, Int64.toBitVec_toInt32, Int64.toBitVec_toInt32, Int64.toBitVec_and, Int64.toBitVec_shiftRight, e2]
  have b32 : ∀ i, i < 32 → (Int32.toBitVec 255).getLsbD i = decide (i < 8) := by decide
  have b64 : ∀ i, i < 32 → (Int64.toBitVec 255).getLsbD i = decide (i < 8) := by decide
  rw [BitVec.getLsbD_and, BitVec.getLsbD_signExtend, BitVec.getLsbD_signExtend, BitVec.getLsbD_and, b32 i hi, b64 i hi]
  rw [if_pos (by omega), if_pos (by omega)]
  by_cases h8 : i < 8
  · have e3 : ((w.toUInt64 >>> ((8 * nI k).toInt64.toUInt64 &&& Int64.toUInt64 63)).toInt64).toBitVec = w.toBitVec >>> (8 * k) := by
      show (w.toUInt64 >>> ((8 * nI k).toInt64.toUInt64 &&& Int64.toUInt64 63)).toBitVec = _
      rw [UInt64.toBitVec_shiftRight]
      apply BitVec.eq_of_toNat_eq
      rw [BitVec.toNat_ushiftRight, BitVec.ushiftRight_eq', BitVec.toNat_ushiftRight, BitVec.toNat_umod, e1]
      rw [show (8 * k) % BitVec.toNat (64 : BitVec 64) = 8 * k from Nat.mod_eq_of_lt (show 8 * k < 64 by omega)]
      rfl
    have e4 : w.toBitVec.sshiftRight' (BitVec.ofNat 64 (8 * k)) = w.toBitVec.sshiftRight (8 * k) := by
      unfold BitVec.sshiftRight'
      rw [BitVec.toNat_ofNat, Nat.mod_eq_of_lt (by omega)]
    rw [e3, e4, BitVec.getLsbD_ushiftRight, BitVec.getLsbD_sshiftRight, if_pos (by omega)]
    have e6 : ¬ 64 ≤ i := by omega
    simp [h8, hi, e6]
  · simp [h8]
theorem byte_bd (x : Int32) : bd (x &&& 255) 255 := by
  obtain ⟨j, h1, h2⟩ := pk_andE x (m := 255) 8 (by decide)
  exact ⟨j, by omega, h2⟩
theorem app_R {σ τ : zS} {t : Nat} {v : Int32} (hR : R σ τ) (h1 : τ.1 20 = nI t) (ht : t < 160) (hv : bd v 255) : R (zsg (zsa σ 15 (nI t) v) 102 (nI (t + 1))) (zsg (zsa τ 14 (nI t) v) 20 (nI (t + 1))) := by
  obtain ⟨r1, r2, r3, r4, r5, r6, ⟨b1, n, hn, b2, b3⟩, r8, r9, r10⟩ := hR
  refine ⟨RJ_s (xr_g (xr_a xr_rfl (by omega)) (by omega)) (mr_g (mr_a mr_rfl (by omega)) (by omega)) r1, r2, r3, r4, r5, r6, ⟨rfl, t + 1, by omega, rfl, fun i hi => ?_⟩, r8, r9, r10⟩
  have hnt : n = t := by rw [b2] at h1; exact (nI_eq (by omega) (by omega)).mp h1
  subst hnt
  show upd (σ.2 15) (nI n).toNatClampNeg v i = upd (τ.2 14) (nI n).toNatClampNeg v i ∧ bd (upd (τ.2 14) (nI n).toNatClampNeg v i) 255
  rw [nI_clamp (by omega)]
  unfold upd
  by_cases hi2 : i = n
  · rw [if_pos hi2, if_pos hi2]; exact ⟨rfl, hv⟩
  · rw [if_neg hi2, if_neg hi2]; exact b3 i (by omega)
theorem feed_L {w : Int64} : ∀ (k t f f' : Nat) (σ τ : zS), k ≤ 8 → t + k ≤ 160 → k < f → k < f' → R σ τ → τ.1 20 = nI t → ∃ σ' τ', f_X_feed_36 f w (nI k - 1) σ = some (nI (t + k), σ') ∧ f_M_feed_33 f' w (nI k - 1) τ = some (nI (t + k), τ') ∧ R σ' τ' := by
  intro k
  induction k with
  | zero =>
    intro t f f' σ τ _ ht hf hf' hR h1
    obtain ⟨f, rfl⟩ : ∃ m, f = m + 1 := ⟨f - 1, by omega⟩
    obtain ⟨f', rfl⟩ : ∃ m, f' = m + 1 := ⟨f' - 1, by omega⟩
    have h2 : σ.1 102 = nI t := by rw [hR.2.2.2.2.2.2.1.1, h1]
    refine ⟨σ, τ, ?_, ?_, hR⟩
    · show f_X_feed_36b _ _ _ _ = _
      unfold f_X_feed_36b
      rw [if_pos (by decide), h2]
      rfl
    · show f_M_feed_33b _ _ _ _ = _
      unfold f_M_feed_33b
      rw [if_pos (by decide), h1]
      rfl
  | succ k ih =>
    intro t f f' σ τ hk ht hf hf' hR h1
    obtain ⟨f, rfl⟩ : ∃ m, f = m + 1 := ⟨f - 1, by omega⟩
    obtain ⟨f', rfl⟩ : ∃ m, f' = m + 1 := ⟨f' - 1, by omega⟩
    have h2 : σ.1 102 = nI t := by rw [hR.2.2.2.2.2.2.1.1, h1]
    have em : nI k + -1 = nI k - 1 := by rw [Int32.sub_eq_add_neg]
    obtain ⟨σ', τ', e1, e2, e3⟩ := ih (t + 1) f f' _ _ (by omega) (by omega) (by omega) (by omega) (app_R (v := (zlushr w (8 * nI k)).toInt32 &&& 255) hR h1 (by omega) (byte_bd _)) rfl
    refine ⟨σ', τ', ?_, ?_, e3⟩
    · show f_X_feed_36b _ _ _ _ = _
      unfold f_X_feed_36b f_Rd_append
      rw [nI_pred, if_neg (nI_pos (by omega)), h2, if_neg (show ¬ (160 : Int32) ≤ nI t from nI_ge (show t < 160 by omega) (by decide)), zin_n (by omega) (by decide), zlt_s, za1, h2, nI_1, zlt_s, zbd_s, em, show t + (k + 1) = t + 1 + k by omega]
      exact e1
    · show f_M_feed_33b _ _ _ _ = _
      unfold f_M_feed_33b
      rw [nI_pred, if_neg (nI_pos (by omega)), h1, zin_n (by omega) (by decide), zlt_s, za1, h1, nI_1, zlt_s, em, show t + (k + 1) = t + 1 + k by omega, ← byte_eq w (by omega)]
      exact e2
theorem sim_feed : @zSim (Int64 × Int32) R (fun a => f_X_feed a.1 a.2) (fun a => f_M_feed a.1 a.2) := by
  intro ⟨w, n⟩ σ τ hR
  dsimp only
  unfold f_X_feed f_M_feed
  rw [x_isFrom, m_in, zbd_s, zbd_s]
  by_cases h1 : 1 ≤ n ∧ n ≤ 8
  · rw [bI_t h1]
    simp only [if_neg one0]
    obtain ⟨k, hk, rfl⟩ := bd_of (x := n) (N := 8) (by decide) ⟨Int32.le_trans (show (0 : Int32) ≤ 1 by decide) h1.1, h1.2⟩
    obtain ⟨b1, t, ht, b2, b3⟩ := hR.2.2.2.2.2.2.1
    rw [b1, b2, nI_add]
    by_cases h2 : t + k ≤ 160
    · rw [if_pos (show nI (t + k) ≤ 160 from nI_le h2 (by decide)), if_pos (show nI (t + k) ≤ 160 from nI_le h2 (by decide)), zlt_s, zlt_s]
      obtain ⟨σ', τ', e1, e2, e3⟩ := feed_L (w := w) k t zfu zfu σ τ hk h2 (show k < 18446744073709551616 by omega) (show k < 18446744073709551616 by omega) hR b2
      exact ⟨_, σ', τ', e1, e2, e3⟩
    · rw [if_neg (show ¬ nI (t + k) ≤ 160 from nI_ge (show 160 < t + k by omega) (by omega)), if_neg (show ¬ nI (t + k) ≤ 160 from nI_ge (show 160 < t + k by omega) (by omega))]
      exact ⟨_, _, _, rfl, rfl, hR⟩
  · rw [bI_f h1]
    simp only [if_true]
    exact ⟨_, _, _, rfl, rfl, hR⟩
