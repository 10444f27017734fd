theorem q_494 : Cond.code yJ7_copyOfRange_feecc cJ7_copyOfRange_feecc 3 (some (.array .int)) ∈ zW := z_w 494 (by decide +kernel) (by decide +kernel)
theorem q_495 : Cond.methodLink RJ7 351 yJ7_copyOfRangeInt_feecc ∈ zW := z_w 495 (by decide +kernel) (by decide +kernel)
theorem q_496 : Cond.static yJ7_copyOfRangeInt_feecc ∈ zW := z_w 496 (by decide +kernel) (by decide +kernel)
theorem q_497 : Cond.code yJ7_copyOfRangeInt_feecc cJ7_copyOfRangeInt_feecc 5 (some (.array .int)) ∈ zW := z_w 497 (by decide +kernel) (by decide +kernel)
theorem q_498 : Cond.methodLink RJ7 343 yJ7_checkLength_df160 ∈ zW := z_w 498 (by decide +kernel) (by decide +kernel)
theorem q_499 : Cond.static yJ7_checkLength_df160 ∈ zW := z_w 499 (by decide +kernel) (by decide +kernel)
theorem q_500 : Cond.code yJ7_checkLength_df160 cJ7_checkLength_df160 2 none ∈ zW := z_w 500 (by decide +kernel) (by decide +kernel)
theorem q_501 : Cond.methodLink RJ7 304 yJ9_min_7cf53 ∈ zW := z_w 501 (by decide +kernel) (by decide +kernel)
theorem q_504 : Cond.methodLink RJ7 150 arraycopyName ∈ zW := z_w 504 (by decide +kernel) (by decide +kernel)
/-! copyOfRange; a TEXT is added; text(). -/
theorem zr_eq {l : Launch} {d : zD} {F : zF} {ws ws' : va_W} {lv : List (Option Value)} {pc k n : Nat} {st : List Value} (h : ws = ws') (K : V l d F k n ws' lv pc st) : V l d F k n ws lv pc st := h ▸ K
theorem zr_copyk {l : Launch} {d : zD} {F : zF} {k n : Nat} {ws : va_W} {lv : List (Option Value)} {pc : Nat} {st : List Value} {own : String} {cc : ByteArray} {nL fr lo : Nat} {idx a0 a1 n0 n1 x y z : Nat} {f g : Nat → Int32} {sp dp cn : Int32} {ws' : va_W} (q0 q1 : Nat) (h0 : ws[q0]? = some (a0, .inl (d.2.1, n0, .inl f))) (h1 : ws[q1]? = some (a1, .inl (d.2.1, n1, .inl g))) (hsp : sp = nI x) (hdp : dp = nI y) (hcn : cn = nI z) (hx : x < 2 ^ 31) (hy : y < 2 ^ 31) (hz : z < 2 ^ 31) (g4 : x + z ≤ n0) (g5 : y + z ≤ n1) (hw : ws.set q1 (a1, .inl (d.2.1, n1, .inl (va_cpy f g x y z))) = ws') (pc' : Nat) (C : zOk d F own cc nL fr lo) (hd : decode cc pc = .ok (.invokestatic idx, 3)) (hp : pc + 3 = pc') (hq : Cond.methodLink own idx arraycopyName ∈ zW) (hm : 1 ≤ fr ∧ 8 + (nativeFrameWords "java/lang/System" "arraycopy" 5 + 11) ≤ lo) (hr : (st.map fun v => v.category).sum ≤ 8) (K : V l d F k n ws' lv pc' st) : V l d F k n ws lv pc (.int cn :: .int dp :: .ref a1 :: .int sp :: .ref a0 :: st) := by
  subst hp
  subst hw
  subst hsp
  subst hdp
  subst hcn
  obtain ⟨p, e, R, s, m, args, below, meth, c, Q, A⟩ := F
  intro H locs ls hP hD hS hl
  have hts := C.2.2.2.2.1
  exact va_copyi (D := d.1) (ty := .int) C.1 C.2.1 hl.1.symm C.2.2.2.1 (hts _ hq) (hts _ q_506) (hts _ q_505) (hts _ q_89) C.2.2.2.2.2.2.1 hP hD hS q0 q1 0 0 h0 h1 rfl rfl rfl (nI_pos hx) (nI_pos hy) (nI_pos hz) (by rw [nI_clamp hx, nI_clamp hz]; exact g4) (by rw [nI_clamp hy, nI_clamp hz]; exact g5) (fun _ _ => rfl) (Nat.le_trans hm.1 C.2.2.2.2.2.2.2.1) (by have h1 := hm.2; have h2 := C.2.2.2.2.2.2.2.2.1; omega) hd (fun H1 locs1 hP1 hD1 hS1 => K H1 locs1 ls (by rw [nI_clamp hx, nI_clamp hy, nI_clamp hz] at hP1; exact hP1) (by rw [nI_clamp hx, nI_clamp hy, nI_clamp hz] at hD1; exact hD1) hS1 hl)
theorem zr_mmink {l : Launch} {d : zD} {F : zF} {k n : Nat} {ws : va_W} {lv : List (Option Value)} {pc : Nat} {st : List Value} {own : String} {cc : ByteArray} {nL fr lo : Nat} {idx kc ns : Nat} {x y : Int32} (pc' : Nat) (C : zOk d F own cc nL fr lo) (G : zRm F kc ns) (hk : k ≤ kc) (hn : n ≤ ns) (hd : decode cc pc = .ok (.invokestatic idx, 3)) (hp : pc + 3 = pc') (hq : Cond.methodLink own idx yJ9_min_7cf53 ∈ zW) (hm : 1 ≤ fr ∧ 21 ≤ lo) (hr : (st.map fun v => v.category).sum ≤ 8) (K : V l d F k n ws lv pc' (.int (zmin x y) :: st)) : V l d F k n ws lv pc (.int y :: .int x :: st) := by
  subst hp
  obtain ⟨p, e, R, s, m, args, below, meth, c, Q, A⟩ := F
  intro H locs ls hP hD hS hl
  have hts := C.2.2.2.2.1
  exact va_mmin C.1 C.2.1 hl.1.symm C.2.2.2.1 (hts _ hq) (hts _ q_502) (hts _ q_88) (hts _ q_503) (Nat.le_trans hm.1 C.2.2.2.2.2.2.2.1) (by have h1 := hm.2; have h2 := C.2.2.2.2.2.2.2.2.1; omega) (Nat.le_trans hk G.1) (Nat.le_trans hn G.2) hd (K H locs ls hP hD hS hl)
theorem zr_callV0 {l : Launch} {d : zD} {F : zF} {ws : va_W} {lv : List (Option Value)} {pc : Nat} {own : String} {cc : ByteArray} {nL fr lo : Nat} {y : MethodName} {cy : ByteArray} {k n kc ns nY fY lY np idx ci b N : Nat} {ret : Option FieldType} {As rest st0 : List Value} {ws' : va_W} {r : Option Value} {Cn : String} {T : u_T} {fs : List Value} (hy : zY y cy nY ret np) (hy2 : Cond.instanceMethod y ∈ zW ∧ Cond.selects Cn y y ∈ zW) (q0 : Nat) (he : ws[q0]? = some (b, .inr (ci, fs))) (hc : classes[ci]? = some (Cn, T, N)) (M : zM l y cy nY ret fY lY d (.ref b :: As) ws ws' r) (hAs : As.length = np) (hst : As.reverse ++ .ref b :: rest = st0) (pc' : Nat) (C : zOk d F own cc nL fr lo) (G : zRm F kc ns) (hk : k ≤ kc) (hn : n ≤ ns) (hd : decode cc pc = .ok (.invokevirtual idx, 3)) (hp : pc + 3 = pc') (hq : Cond.methodLink own idx y ∈ zW) (hm : fY + 1 ≤ fr ∧ 8 + (nY + 11) + lY ≤ lo) (hr : (rest.map fun v => v.category).sum ≤ 8) (K : V l d F k n ws' lv pc' (r.toList ++ rest)) : V l d F k n ws lv pc st0 := by
  refine zr_eq (ws' := [] ++ (ws ++ [])) (by simp) ?_
  refine zr_callVa (kc := kc) (ns := ns) hy hy2 q0 he hc (zM_a M) hAs hst pc' C G hk hn hd hp hq hm hr (fun r' w' hw => ?_)
  obtain ⟨rfl, rfl⟩ := hw
  refine zr_eq (ws' := w') (by simp) K
theorem zr_callS0 {l : Launch} {d : zD} {F : zF} {ws : va_W} {lv : List (Option Value)} {pc : Nat} {own : String} {cc : ByteArray} {nL fr lo : Nat} {y : MethodName} {cy : ByteArray} {k n kc ns nY fY lY np idx : Nat} {ret : Option FieldType} {As rest st0 : List Value} {ws' : va_W} {r : Option Value} (hy : zY y cy nY ret np) (hy2 : Cond.static y ∈ zW) (M : zM l y cy nY ret fY lY d As ws ws' r) (hAs : As.length = np) (hst : As.reverse ++ rest = st0) (pc' : Nat) (C : zOk d F own cc nL fr lo) (G : zRm F kc ns) (hk : k ≤ kc) (hn : n ≤ ns) (hd : decode cc pc = .ok (.invokestatic idx, 3)) (hp : pc + 3 = pc') (hq : Cond.methodLink own idx y ∈ zW) (hm : fY + 1 ≤ fr ∧ 8 + (nY + 11) + lY ≤ lo) (hr : (rest.map fun v => v.category).sum ≤ 8) (K : V l d F k n ws' lv pc' (r.toList ++ rest)) : V l d F k n ws lv pc st0 := by
  refine zr_eq (ws' := [] ++ (ws ++ [])) (by simp) ?_
  refine zr_callSa (kc := kc) (ns := ns) hy hy2 (zM_a M) hAs hst pc' C G hk hn hd hp hq hm hr (fun r' w' hw => ?_)
  obtain ⟨rfl, rfl⟩ := hw
  refine zr_eq (ws' := w') (by simp) K
theorem y_chl : zY yJ7_checkLength_df160 cJ7_checkLength_df160 2 none 2 := ⟨q_500, q_78, by decide +kernel, by decide +kernel, by decide +kernel⟩
theorem y_cori : zY yJ7_copyOfRangeInt_feecc cJ7_copyOfRangeInt_feecc 5 (some (.array .int)) 3 := ⟨q_497, q_78, by decide +kernel, by decide +kernel, by decide +kernel⟩
theorem y_cor : zY yJ7_copyOfRange_feecc cJ7_copyOfRange_feecc 3 (some (.array .int)) 3 := ⟨q_494, q_78, by decide +kernel, by decide +kernel, by decide +kernel⟩
theorem m_chl {l : Launch} {d : zD} {ws : va_W} {x y : Int32} (h : x ≤ y) : zM l yJ7_checkLength_df160 cJ7_checkLength_df160 2 none 0 0 d [.int x, .int y] ws ws none := by
  refine zM_of [some (.int x), some (.int y)] (by decide +kernel) rfl (Nat.le_of_ble_eq_true rfl) (fun F C T => ?_)
  refine zr_iload_n 1 1 C (by decide +kernel) rfl rfl ?_
  refine zr_iload_n 0 2 C (by decide +kernel) rfl rfl ?_
  refine zr_icmp_ge (off := 35) (X := some ()) (Y := none) (out := ()) 37 5 C (by decide +kernel) (by decide) rfl (if_pos h) (fun _ => ?_) (fun h => by cases h)
  exact zr_vret C (by decide +kernel) T
theorem m_cori {l : Launch} {d : zD} {ws : va_W} {a : Nat} {f : Nat → Int32} {x y : Nat} (q0 : Nat) (he : ws[q0]? = some (a, .inl (d.2.1, 160, .inl f))) (hxy : x ≤ y) (hy : y ≤ 160) : zMa l yJ7_copyOfRangeInt_feecc cJ7_copyOfRangeInt_feecc 5 (some (.array .int)) 1 60 1 160 d [.ref a, .int (nI x), .int (nI y)] ws (fun r w => ∃ q, r = some (.ref q) ∧ w = ws ++ [(q, .inl (d.2.1, y - x, .inl (va_cpy f (fun _ => 0) x 0 (y - x))))]) := by
  refine zMa_of [some (.ref a), some (.int (nI x)), some (.int (nI y)), none, none] (by decide +kernel) rfl (Nat.le_of_ble_eq_true rfl) (fun F C G I T => ?_)
  have hq0 : q0 < ws.length := (List.getElem?_eq_some_iff.mp he).1
  refine zr_iload_n 1 1 C (by decide +kernel) rfl rfl ?_
  refine zr_iload_n 2 2 C (by decide +kernel) rfl rfl ?_
  refine zr_callS0 (idx := 343) y_chl q_499 (As := [.int (nI x), .int (nI y)]) (m_chl (nI_le hxy (by omega))) rfl rfl 5 C G (Nat.zero_le _) (Nat.zero_le _) (by decide +kernel) rfl q_498 (zb2 rfl rfl) (Nat.le_of_ble_eq_true rfl) ?_
  refine zr_iload_n 2 6 C (by decide +kernel) rfl rfl ?_
  refine zr_iload_n 1 7 C (by decide +kernel) rfl rfl ?_
  refine zr_isub 8 C (by decide +kernel) rfl ?_
  rw [pk_sub hxy]
  refine zr_istore_n 3 [some (.ref a), some (.int (nI x)), some (.int (nI y)), some (.int (nI (y - x))), none] 9 C (by decide +kernel) rfl (by decide) rfl rfl ?_
  refine zr_iload_n 3 10 C (by decide +kernel) rfl rfl ?_
  refine zr_newi (N := y - x) (kc := 1) (ns := 160) 12 C G (nI_pos (by omega)) (nI_clamp (by omega)) (by omega) (by omega) (by omega) (by decide +kernel) rfl (fun q => ?_)
  refine zr_astore 4 [some (.ref a), some (.int (nI x)), some (.int (nI y)), some (.int (nI (y - x))), some (.ref q)] 14 C (by decide +kernel) rfl (by decide) rfl rfl ?_
  refine zr_aload_n 0 15 C (by decide +kernel) rfl rfl ?_
  refine zr_iload_n 1 16 C (by decide +kernel) rfl rfl ?_
  refine zr_aload 4 18 C (by decide +kernel) rfl rfl ?_
  refine zr_iconst (v := 0) 0 19 C (by decide +kernel) rfl rfl ?_
  refine zr_aload_n 0 20 C (by decide +kernel) rfl rfl ?_
  refine zr_alen (N := 0) (t0 := 0) q0 (by rw [List.getElem?_append_left hq0]; exact he) rfl 21 C (by decide +kernel) rfl ?_
  refine zr_iload_n 1 22 C (by decide +kernel) rfl rfl ?_
  refine zr_isub 23 C (by decide +kernel) rfl ?_
  refine zr_iload_n 3 24 C (by decide +kernel) rfl rfl ?_
  refine zr_mmink (idx := 304) (kc := 1) (ns := 160) 27 C G (by omega) (by omega) (by decide +kernel) rfl q_501 (zb2 rfl rfl) (Nat.le_of_ble_eq_true rfl) ?_
  have em : zmin (nI (160, (Sum.inl f : (Nat → Int32) ⊕ (Nat → Int64) ⊕ (Nat → UInt32) ⊕ (Nat → UInt64) ⊕ (Nat → Option Nat))).1 - nI x) (nI (y - x)) = nI (y - x) := by
    show zmin (nI 160 - nI x) (nI (y - x)) = _
    rw [pk_sub (show x ≤ 160 by omega)]
    unfold zmin
    by_cases h : nI (y - x) < nI (160 - x)
    · rw [if_pos h]
    · rw [if_neg h]
      rw [nI_ltI (by omega) (by omega)] at h
      congr 1
      omega
  rw [em]
  refine zr_copyk (idx := 150) (n0 := 160) (n1 := y - x) (f := f) (g := fun _ => 0) (x := x) (y := 0) (z := y - x) (ws' := ws ++ [(q, .inl (d.2.1, y - x, .inl (va_cpy f (fun _ => 0) x 0 (y - x))))]) q0 ws.length (by rw [List.getElem?_append_left hq0]; exact he) (by rw [List.getElem?_append_right (Nat.le_refl _)]; simp) rfl nI_0.symm rfl (by omega) (by decide) (by omega) (by omega) (by omega) (by rw [List.set_append_right _ _ (Nat.le_refl _)]; simp) 30 C (by decide +kernel) rfl q_504 (zb2 rfl rfl) (Nat.le_of_ble_eq_true rfl) ?_
  refine zr_aload 4 32 C (by decide +kernel) rfl rfl ?_
  exact zr_areta C (by decide +kernel) T (by omega) (by omega) ⟨q, rfl, rfl⟩
theorem m_cor {l : Launch} {d : zD} {ws : va_W} {a : Nat} {f : Nat → Int32} {x y : Nat} (q0 : Nat) (he : ws[q0]? = some (a, .inl (d.2.1, 160, .inl f))) (hxy : x ≤ y) (hy : y ≤ 160) (hc : 0 < x ∨ y < 160) : zMa l yJ7_copyOfRange_feecc cJ7_copyOfRange_feecc 3 (some (.array .int)) 2 90 1 160 d [.ref a, .int (nI x), .int (nI y)] ws (fun r w => ∃ q, r = some (.ref q) ∧ w = ws ++ [(q, .inl (d.2.1, y - x, .inl (va_cpy f (fun _ => 0) x 0 (y - x))))]) := by
  refine zMa_of [some (.ref a), some (.int (nI x)), some (.int (nI y))] (by decide +kernel) rfl (Nat.le_of_ble_eq_true rfl) (fun F C G I T => ?_)
  have key : V l d F 0 0 ws [some (.ref a), some (.int (nI x)), some (.int (nI y))] 10 [] := by
    refine zr_aload_n 0 11 C (by decide +kernel) rfl rfl ?_
    refine zr_iload_n 1 12 C (by decide +kernel) rfl rfl ?_
    refine zr_iload_n 2 13 C (by decide +kernel) rfl rfl ?_
    refine zr_eq (ws' := [] ++ (ws ++ [])) (by simp) ?_
    refine zr_callSa (idx := 351) (kc := 1) (ns := 160) y_cori q_496 (As := [.ref a, .int (nI x), .int (nI y)]) (m_cori q0 he hxy hy) rfl rfl 16 C G (by omega) (by omega) (by decide +kernel) rfl q_495 (zb2 rfl rfl) (Nat.le_of_ble_eq_true rfl) (fun r w hw => ?_)
    obtain ⟨q, rfl, rfl⟩ := hw
    refine zr_eq (ws' := ws ++ [(q, .inl (d.2.1, y - x, .inl (va_cpy f (fun _ => 0) x 0 (y - x))))]) (by simp) ?_
    exact zr_areta C (by decide +kernel) T (by omega) (by omega) ⟨q, rfl, rfl⟩
  refine zr_iload_n 1 1 C (by decide +kernel) rfl rfl ?_
  refine zr_if_ne (off := 9) (X := if x = 0 then some () else none) (Y := if x = 0 then none else some ()) (out := ()) 10 4 C (by decide +kernel) (by decide) rfl ?_ (fun _ => key) (fun hx => ?_)
  · by_cases h : x = 0
    · subst h; simp [nI_0]
    · rw [if_neg (nI_ne0 (by omega) (by omega)), if_neg h]
  · have hx0 : x = 0 := by
      by_cases h : x = 0
      · exact h
      · rw [if_neg h] at hx; cases hx
    refine zr_iload_n 2 5 C (by decide +kernel) rfl rfl ?_
    refine zr_aload_n 0 6 C (by decide +kernel) rfl rfl ?_
    refine zr_alen (N := 0) (t0 := 0) q0 he rfl 7 C (by decide +kernel) rfl ?_
    refine zr_icmp_eq (off := 10) (X := none) (Y := some ()) (out := ()) 17 10 C (by decide +kernel) (by decide) rfl (if_neg ?_) (fun h => by cases h) (fun _ => key)
    show ¬ nI y = nI 160
    rw [nI_eq (by omega) (by decide)]
    omega
theorem z_cellq {cA : ClassId} {N : Nat} {f f' : Nat → Option Nat} (h : ∀ i, i < N → f i = f' i) : vp_cell cA (N, .inr (.inr (.inr (.inr f)))) = vp_cell cA (N, .inr (.inr (.inr (.inr f')))) := by
  rw [vp_cell_q, vp_cell_q]
  unfold arrV
  congr 1
  apply Array.ext
  · simp
  · intro i h1 h2
    simp at h1 h2 ⊢
    rw [h i (by omega)]
theorem zr_cong {l : Launch} {d : zD} {F : zF} {k n : Nat} {ws : va_W} {lv : List (Option Value)} {pc : Nat} {st : List Value} {a N : Nat} {cA : ClassId} {f f' : Nat → Option Nat} (q0 : Nat) (he : ws[q0]? = some (a, .inl (cA, N, .inr (.inr (.inr (.inr f)))))) (h : ∀ i, i < N → f i = f' i) (ws' : va_W) (hw : ws.set q0 (a, .inl (cA, N, .inr (.inr (.inr (.inr f'))))) = ws') (K : V l d F k n ws' lv pc st) : V l d F k n ws lv pc st := by
  subst hw
  obtain ⟨p, e, R, s, m, args, below, meth, c, Q, A⟩ := F
  intro H locs ls hP hD hS hl
  have hq0 : q0 < ws.length := (List.getElem?_eq_some_iff.mp he).1
  refine K H locs ls ?_ (hD.set he) hS hl
  intro j x hj
  rw [List.getElem?_set] at hj
  by_cases e : q0 = j
  · rw [if_pos e, if_pos (by omega)] at hj
    cases hj
    have := hP q0 _ he
    show H[a]? = some (vp_cell _ _)
    rw [← z_cellq h]
    exact this
  · rw [if_neg e] at hj
    exact hP j x hj
def XWg (d : zD) (h : Nat → Nat) (σ : zS) (a b : Nat) (f1 f2 f3 : Nat → Option Nat) : va_W := [(h 0, .inr (10, [.ref (h 1), .ref (h 2), .ref (h 3), .ref (h 4), .ref (h 5), .ref (h 6), .ref (h 7), .ref (h 8), .ref (h 9), .ref (h 10), .ref (h 12), .ref (h 13), .ref (h 14), .int (σ.1 13), .int (σ.1 14), .int (σ.1 15)])), (h 1, .inr (4, [.ref (h 15), .ref (h 16), .int (σ.1 102), .int (σ.1 103), .int (σ.1 104), .int (σ.1 105), .int (σ.1 106), .int (σ.1 107), .int (σ.1 108)])), (h 2, .inr (8, [.ref (h 41), .ref (h 42), .int (σ.1 202)])), (h 3, .inr (9, [.ref (h 17), .ref (h 18), .ref (h 19), .ref (h 20), .ref (h 11), .ref a, .ref b, .int (σ.1 307), .int (σ.1 308)])), (h 4, .inr (2, [.ref (h 21), .ref (h 22)])), (h 5, .inr (6, [.ref (h 23), .ref (h 24), .ref (h 25), .int (σ.1 503)])), (h 6, .inr (3, [.ref (h 26), .ref (h 27), .int (σ.1 602)])), (h 7, .inr (1, [.ref (h 28), .ref (h 29), .int (σ.1 702), .int (σ.1 703), .int (σ.1 704), .int (σ.1 705), .int (σ.1 706)])), (h 8, .inr (7, [.ref (h 36), .ref (h 30), .ref (h 31)])), (h 9, .inr (0, [.ref (h 32), .int (σ.1 901), .int (σ.1 902), .int (σ.1 903), .int (σ.1 904), .int (σ.1 905), .int (σ.1 906), .int (σ.1 907), .int (σ.1 908)])), (h 10, .inr (0, [.ref (h 33), .int (σ.1 1001), .int (σ.1 1002), .int (σ.1 1003), .int (σ.1 1004), .int (σ.1 1005), .int (σ.1 1006), .int (σ.1 1007), .int (σ.1 1008)])), (h 11, .inr (5, [.ref (h 34), .ref (h 35), .int (σ.1 1102)])), (h 12, .inl (d.2.1, 1600, .inl (σ.2 12))), (h 13, .inl (d.2.1, 1600, .inl (σ.2 13))), (h 14, .inl (d.2.1, 10, .inl (σ.2 14))), (h 15, .inl (d.2.1, 160, .inl (σ.2 15))), (h 16, .inl (d.2.1, 160, .inl (σ.2 16))), (h 17, .inl (d.2.1, 20, .inl (σ.2 17))), (h 18, .inl (d.2.1, 20, .inl (σ.2 18))), (h 19, .inl (d.2.1, 20, .inl (σ.2 19))), (h 20, .inl (d.2.1, 3200, .inl (σ.2 20))), (h 21, .inl (d.2.1, 1600, .inl (σ.2 21))), (h 22, .inl (d.2.1, 1600, .inl (σ.2 22))), (h 23, .inl (d.2.1, 12, .inl (σ.2 23))), (h 24, .inl (d.2.1, 12, .inl (σ.2 24))), (h 25, .inl (d.2.1, 12, .inl (σ.2 25))), (h 26, .inl (d.2.1, 8, .inl (σ.2 26))), (h 27, .inl (d.2.1, 8, .inl (σ.2 27))), (h 28, .inl (d.2.1, 20, .inl (σ.2 28))), (h 29, .inl (d.2.1, 8, .inl (σ.2 29))), (h 30, .inl (d.2.1, 4, .inl (σ.2 30))), (h 31, .inl (d.2.1, 4, .inl (σ.2 31))), (h 32, .inl (d.2.1, 20, .inl (σ.2 32))), (h 33, .inl (d.2.1, 20, .inl (σ.2 33))), (h 34, .inl (d.2.1, 6, .inl (σ.2 34))), (h 35, .inl (d.2.1, 31, .inl (σ.2 35))), (h 36, .inl (d.2.2.2.2.1, 4, .inr (.inr (.inr (.inr f1))))), (h 37, .inl (d.2.1, 40, .inl (σ.2 37))), (h 38, .inl (d.2.1, 40, .inl (σ.2 38))), (h 39, .inl (d.2.1, 40, .inl (σ.2 39))), (h 40, .inl (d.2.1, 40, .inl (σ.2 40))), (h 41, .inl (d.2.2.2.2.1, 6, .inr (.inr (.inr (.inr f2))))), (h 42, .inl (d.2.2.2.2.1, 6, .inr (.inr (.inr (.inr f3))))), (h 43, .inl (d.2.1, (σ.1 1043).toNatClampNeg, .inl (σ.2 43))), (h 44, .inl (d.2.1, (σ.1 1044).toNatClampNeg, .inl (σ.2 44))), (h 45, .inl (d.2.1, (σ.1 1045).toNatClampNeg, .inl (σ.2 45))), (h 46, .inl (d.2.1, (σ.1 1046).toNatClampNeg, .inl (σ.2 46))), (h 47, .inl (d.2.1, (σ.1 1047).toNatClampNeg, .inl (σ.2 47))), (h 48, .inl (d.2.1, (σ.1 1048).toNatClampNeg, .inl (σ.2 48))), (h 49, .inl (d.2.1, (σ.1 1049).toNatClampNeg, .inl (σ.2 49))), (h 50, .inl (d.2.1, (σ.1 1050).toNatClampNeg, .inl (σ.2 50))), (h 51, .inl (d.2.1, (σ.1 1051).toNatClampNeg, .inl (σ.2 51))), (h 52, .inl (d.2.1, (σ.1 1052).toNatClampNeg, .inl (σ.2 52))), (h 53, .inl (d.2.1, (σ.1 1053).toNatClampNeg, .inl (σ.2 53))), (h 54, .inl (d.2.1, (σ.1 1054).toNatClampNeg, .inl (σ.2 54))), (h 55, .inl (d.2.1, (σ.1 1055).toNatClampNeg, .inl (σ.2 55))), (h 56, .inl (d.2.1, (σ.1 1056).toNatClampNeg, .inl (σ.2 56)))]
theorem XW_g {d : zD} {h : Nat → Nat} {σ : zS} : XW d h σ = XWg d h σ (h (σ.1 305).toNatClampNeg) (h (σ.1 306).toNatClampNeg) (fun i => some (h (37 + i))) (fun i => some (h (43 + i))) (fun i => some (h (49 + i))) := rfl
def zst (σ : zS) (q len : Nat) (g : Nat → Int32) : zS := (upd σ.1 (1000 + q) (nI len), va_up σ.2 q g)
set_option maxRecDepth 8000 in
theorem x_newn {l : Launch} {d : zD} {F : zF} {h : Nat → Nat} {σ : zS} {lv : List (Option Value)} {pc k n t len x : Nat} {st : List Value} {g : Nat → Int32} (ht : t < 6) (hlen : len < 2 ^ 31) (h5 : (σ.1 305).toNatClampNeg ≠ 43 + t) (h6 : (σ.1 306).toNatClampNeg ≠ 43 + t) (K : V l d F k n (XW d (va_up h (43 + t) x) (zst σ (43 + t) len g)) lv pc st) : V l d F k n (XWg d h σ (h (σ.1 305).toNatClampNeg) (h (σ.1 306).toNatClampNeg) (fun i => some (h (37 + i))) (va_up (fun i => some (h (43 + i))) t (some x)) (fun i => some (h (49 + i))) ++ [(x, .inl (d.2.1, len, .inl g))]) lv pc st := by
  rw [XW_g] at K
  have e5 : (zst σ (43 + t) len g).1 305 = σ.1 305 := by show upd _ _ _ _ = _; exact pk_un (by omega)
  have e6 : (zst σ (43 + t) len g).1 306 = σ.1 306 := by show upd _ _ _ _ = _; exact pk_un (by omega)
  rw [e5, e6, show va_up h (43 + t) x (σ.1 305).toNatClampNeg = h (σ.1 305).toNatClampNeg from if_neg h5, show va_up h (43 + t) x (σ.1 306).toNatClampNeg = h (σ.1 306).toNatClampNeg from if_neg h6] at K
  have g2 : (fun i => some (va_up h (43 + t) x (43 + i))) = (va_up (fun i => some (h (43 + i))) t (some x)) := by
    funext i
    unfold va_up
    by_cases e : i = t
    · subst e; simp
    · simp [e, show ¬ 43 + i = 43 + t by omega]
  have g3 : (fun i => some (va_up h (43 + t) x (49 + i))) = (fun i => some (h (49 + i))) := by
    funext i
    unfold va_up
    simp [show ¬ 49 + i = 43 + t by omega]
    
    
  rw [g2, g3] at K
  refine zr_cong (f' := fun i => some (va_up h (43 + t) x (37 + i))) 36 rfl (fun i hi => by show _ = some (if _ then _ else _); rw [if_neg (by omega)]) (XWg d h σ (h (σ.1 305).toNatClampNeg) (h (σ.1 306).toNatClampNeg) (fun i => some (va_up h (43 + t) x (37 + i))) (va_up (fun i => some (h (43 + i))) t (some x)) (fun i => some (h (49 + i))) ++ [(x, .inl (d.2.1, len, .inl g))]) rfl ?_

  have el : (nI len).toNatClampNeg = len := nI_clamp hlen
  rw [show ((len, (.inl g : (Nat → Int32) ⊕ (Nat → Int64) ⊕ (Nat → UInt32) ⊕ (Nat → UInt64) ⊕ (Nat → Option Nat))) : vp_A) = ((nI len).toNatClampNeg, .inl g) by rw [el]]
  rcases (show t = 0 ∨ t = 1 ∨ t = 2 ∨ t = 3 ∨ t = 4 ∨ t = 5 by omega) with rfl | rfl | rfl | rfl | rfl | rfl
  · exact zr_world [0, 1, 2, 3, 4, 5, 6, 7, 8, 9, 10, 11, 12, 13, 14, 15, 16, 17, 18, 19, 20, 21, 22, 23, 24, 25, 26, 27, 28, 29, 30, 31, 32, 33, 34, 35, 36, 37, 38, 39, 40, 41, 42, 57, 44, 45, 46, 47, 48, 49, 50, 51, 52, 53, 54, 55, 56] (by decide) rfl K
  · exact zr_world [0, 1, 2, 3, 4, 5, 6, 7, 8, 9, 10, 11, 12, 13, 14, 15, 16, 17, 18, 19, 20, 21, 22, 23, 24, 25, 26, 27, 28, 29, 30, 31, 32, 33, 34, 35, 36, 37, 38, 39, 40, 41, 42, 43, 57, 45, 46, 47, 48, 49, 50, 51, 52, 53, 54, 55, 56] (by decide) rfl K
  · exact zr_world [0, 1, 2, 3, 4, 5, 6, 7, 8, 9, 10, 11, 12, 13, 14, 15, 16, 17, 18, 19, 20, 21, 22, 23, 24, 25, 26, 27, 28, 29, 30, 31, 32, 33, 34, 35, 36, 37, 38, 39, 40, 41, 42, 43, 44, 57, 46, 47, 48, 49, 50, 51, 52, 53, 54, 55, 56] (by decide) rfl K
  · exact zr_world [0, 1, 2, 3, 4, 5, 6, 7, 8, 9, 10, 11, 12, 13, 14, 15, 16, 17, 18, 19, 20, 21, 22, 23, 24, 25, 26, 27, 28, 29, 30, 31, 32, 33, 34, 35, 36, 37, 38, 39, 40, 41, 42, 43, 44, 45, 57, 47, 48, 49, 50, 51, 52, 53, 54, 55, 56] (by decide) rfl K
  · exact zr_world [0, 1, 2, 3, 4, 5, 6, 7, 8, 9, 10, 11, 12, 13, 14, 15, 16, 17, 18, 19, 20, 21, 22, 23, 24, 25, 26, 27, 28, 29, 30, 31, 32, 33, 34, 35, 36, 37, 38, 39, 40, 41, 42, 43, 44, 45, 46, 57, 48, 49, 50, 51, 52, 53, 54, 55, 56] (by decide) rfl K
  · exact zr_world [0, 1, 2, 3, 4, 5, 6, 7, 8, 9, 10, 11, 12, 13, 14, 15, 16, 17, 18, 19, 20, 21, 22, 23, 24, 25, 26, 27, 28, 29, 30, 31, 32, 33, 34, 35, 36, 37, 38, 39, 40, 41, 42, 43, 44, 45, 46, 47, 57, 49, 50, 51, 52, 53, 54, 55, 56] (by decide) rfl K
set_option maxRecDepth 8000 in
theorem x_newf {l : Launch} {d : zD} {F : zF} {h : Nat → Nat} {σ : zS} {lv : List (Option Value)} {pc k n t len x : Nat} {st : List Value} {g : Nat → Int32} (ht : t < 6) (hlen : len < 2 ^ 31) (h5 : (σ.1 305).toNatClampNeg ≠ 49 + t) (h6 : (σ.1 306).toNatClampNeg ≠ 49 + t) (K : V l d F k n (XW d (va_up h (49 + t) x) (zst σ (49 + t) len g)) lv pc st) : V l d F k n (XWg d h σ (h (σ.1 305).toNatClampNeg) (h (σ.1 306).toNatClampNeg) (fun i => some (h (37 + i))) (fun i => some (h (43 + i))) (va_up (fun i => some (h (49 + i))) t (some x)) ++ [(x, .inl (d.2.1, len, .inl g))]) lv pc st := by
  rw [XW_g] at K
  have e5 : (zst σ (49 + t) len g).1 305 = σ.1 305 := by show upd _ _ _ _ = _; exact pk_un (by omega)
  have e6 : (zst σ (49 + t) len g).1 306 = σ.1 306 := by show upd _ _ _ _ = _; exact pk_un (by omega)
  rw [e5, e6, show va_up h (49 + t) x (σ.1 305).toNatClampNeg = h (σ.1 305).toNatClampNeg from if_neg h5, show va_up h (49 + t) x (σ.1 306).toNatClampNeg = h (σ.1 306).toNatClampNeg from if_neg h6] at K
  have g2 : (fun i => some (va_up h (49 + t) x (43 + i))) = (fun i => some (va_up h (49 + t) x (43 + i))) := by
    funext i
    rfl
    
    
    
  have g3 : (fun i => some (va_up h (49 + t) x (49 + i))) = (va_up (fun i => some (h (49 + i))) t (some x)) := by
    funext i
    unfold va_up
    by_cases e : i = t
    · subst e; simp
    · simp [e, show ¬ 49 + i = 49 + t by omega]
  rw [g2, g3] at K
  refine zr_cong (f' := fun i => some (va_up h (49 + t) x (37 + i))) 36 rfl (fun i hi => by show _ = some (if _ then _ else _); rw [if_neg (by omega)]) (XWg d h σ (h (σ.1 305).toNatClampNeg) (h (σ.1 306).toNatClampNeg) (fun i => some (va_up h (49 + t) x (37 + i))) (fun i => some (h (43 + i))) (va_up (fun i => some (h (49 + i))) t (some x)) ++ [(x, .inl (d.2.1, len, .inl g))]) rfl ?_
  refine zr_cong (f' := fun i => some (va_up h (49 + t) x (43 + i))) 41 rfl (fun i hi => by show _ = some (if _ then _ else _); rw [if_neg (by omega)]) (XWg d h σ (h (σ.1 305).toNatClampNeg) (h (σ.1 306).toNatClampNeg) (fun i => some (va_up h (49 + t) x (37 + i))) (fun i => some (va_up h (49 + t) x (43 + i))) (va_up (fun i => some (h (49 + i))) t (some x)) ++ [(x, .inl (d.2.1, len, .inl g))]) rfl ?_
  have el : (nI len).toNatClampNeg = len := nI_clamp hlen
  rw [show ((len, (.inl g : (Nat → Int32) ⊕ (Nat → Int64) ⊕ (Nat → UInt32) ⊕ (Nat → UInt64) ⊕ (Nat → Option Nat))) : vp_A) = ((nI len).toNatClampNeg, .inl g) by rw [el]]
  rcases (show t = 0 ∨ t = 1 ∨ t = 2 ∨ t = 3 ∨ t = 4 ∨ t = 5 by omega) with rfl | rfl | rfl | rfl | rfl | rfl
  · exact zr_world [0, 1, 2, 3, 4, 5, 6, 7, 8, 9, 10, 11, 12, 13, 14, 15, 16, 17, 18, 19, 20, 21, 22, 23, 24, 25, 26, 27, 28, 29, 30, 31, 32, 33, 34, 35, 36, 37, 38, 39, 40, 41, 42, 43, 44, 45, 46, 47, 48, 57, 50, 51, 52, 53, 54, 55, 56] (by decide) rfl K
  · exact zr_world [0, 1, 2, 3, 4, 5, 6, 7, 8, 9, 10, 11, 12, 13, 14, 15, 16, 17, 18, 19, 20, 21, 22, 23, 24, 25, 26, 27, 28, 29, 30, 31, 32, 33, 34, 35, 36, 37, 38, 39, 40, 41, 42, 43, 44, 45, 46, 47, 48, 49, 57, 51, 52, 53, 54, 55, 56] (by decide) rfl K
  · exact zr_world [0, 1, 2, 3, 4, 5, 6, 7, 8, 9, 10, 11, 12, 13, 14, 15, 16, 17, 18, 19, 20, 21, 22, 23, 24, 25, 26, 27, 28, 29, 30, 31, 32, 33, 34, 35, 36, 37, 38, 39, 40, 41, 42, 43, 44, 45, 46, 47, 48, 49, 50, 57, 52, 53, 54, 55, 56] (by decide) rfl K
  · exact zr_world [0, 1, 2, 3, 4, 5, 6, 7, 8, 9, 10, 11, 12, 13, 14, 15, 16, 17, 18, 19, 20, 21, 22, 23, 24, 25, 26, 27, 28, 29, 30, 31, 32, 33, 34, 35, 36, 37, 38, 39, 40, 41, 42, 43, 44, 45, 46, 47, 48, 49, 50, 51, 57, 53, 54, 55, 56] (by decide) rfl K
  · exact zr_world [0, 1, 2, 3, 4, 5, 6, 7, 8, 9, 10, 11, 12, 13, 14, 15, 16, 17, 18, 19, 20, 21, 22, 23, 24, 25, 26, 27, 28, 29, 30, 31, 32, 33, 34, 35, 36, 37, 38, 39, 40, 41, 42, 43, 44, 45, 46, 47, 48, 49, 50, 51, 52, 57, 54, 55, 56] (by decide) rfl K
  · exact zr_world [0, 1, 2, 3, 4, 5, 6, 7, 8, 9, 10, 11, 12, 13, 14, 15, 16, 17, 18, 19, 20, 21, 22, 23, 24, 25, 26, 27, 28, 29, 30, 31, 32, 33, 34, 35, 36, 37, 38, 39, 40, 41, 42, 43, 44, 45, 46, 47, 48, 49, 50, 51, 52, 53, 57, 55, 56] (by decide) rfl K
