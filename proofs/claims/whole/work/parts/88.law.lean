/-! the law's loop, and its start -/
def zLw (F : zF) (b : Nat) : Prop := match F with
  | (_, _, R, s, _, args, below, meth, _, Q, A) => Q = lw_Z below #[Value.ref b] s ∧ args = #[Value.ref b] ∧ R = room_1 ∧ A = (fun q => s.heap.size ≤ q) ∧ meth.sig.returnType = ret ∧ meth.locks = false
theorem zl_end {l : Launch} {d : zD} {F : zF} {ws : va_W} {lv : List (Option Value)} {k n b fr lo : Nat} (C : zOk d F RL cL_law 4 fr lo) (Z : zLw F b) (hk : k ≤ 600000) (hn : n ≤ 7302250) : V l d F k n ws lv 1427 [.int 1] := by
  obtain ⟨p, e, R, s, m, args, below, meth, c, Q, A⟩ := F
  intro H locs ls hP hD hS hl
  obtain ⟨rfl, rfl, rfl, rfl, hr, hlk⟩ := Z
  refine va_forget hS.2.2 ?_
  refine W.widen hk hn ?_
  exact lw_ret C.1 C.2.1 hr hlk (by decide +kernel)
theorem z_gt {L j : Nat} (hL : L ≤ 3072) (hj : 6 * j ≤ 3072) : (nI L - 6 < nI (6 * j)) ↔ ¬ 6 * j + 6 ≤ L := by
  rw [Int32.lt_iff_toInt_lt, show (6 : Int32) = nI 6 from rfl, pk_sub_toInt (by omega) (by omega), nI_toInt (by omega)]
  omega
set_option maxHeartbeats 4000000 in
theorem zl_loop {l : Launch} {d : zD} {F : zF} {g : Nat → Nat} {ad av : Nat → Nat} {b L : Nat} {xs : Nat → Int32} {R : zS → zS → Prop} (S : zSims R) (C : zOk d F RL cL_law 4 123 3576) (G : zRm F 600000 7302250) (E : zXe d ad av) (B : zSc F b L xs) (Z : zLw F b) (hL : L ≤ 3072) : ∀ (m j : Nat), 6 * j ≤ 3072 + 6 → 3072 + 12 ≤ m + 6 * j → ∀ (h : Nat → Nat) (σ τ : zS), R σ τ → (6 * j ≤ 3072) → V l d F (91 + 2 * j) (22517 + 320 * j) (XW d h σ ++ MW d g τ) [some (.ref b), some (.ref (h 0)), some (.ref (g 0)), some (.int (nI (6 * j)))] 18 [] := by
  intro m
  induction m with
  | zero =>
    intro j h1 h2 h σ τ hR h3
    omega
  | succ m ih =>
    intro j h1 h2 h σ τ hR h3
    refine zr_iload_n 3 19 C (by decide +kernel) rfl rfl ?_
    refine zr_aload_n 0 20 C (by decide +kernel) rfl rfl ?_
    refine zl_slen 21 C B (by decide +kernel) rfl ?_
    refine zr_bipush (v := 6) 6 23 C (by decide +kernel) rfl rfl ?_
    refine zr_isub 24 C (by decide +kernel) rfl ?_
    by_cases hj : 6 * j + 6 ≤ L
    · refine zr_icmp_gt (off := 1402) (X := none) (Y := some ()) (out := ()) 1426 27 C (by decide +kernel) (by decide) rfl (if_neg (fun h => (z_gt hL h3).mp h hj)) (fun h => by cases h) (fun _ => ?_)
      have hi : ∀ q : Nat, q < 6 → vp_in (nI (6 * j) + nI q) L := fun q hq => by
        rw [nI_add]
        exact vp_in_nI (by omega) (by omega)
      have nx : ∀ (h' : Nat → Nat), h' 0 = h 0 → ∀ σ' τ', R σ' τ' → V l d F ((91 + 2 * j) + 2) ((22517 + 320 * j) + 320) (XW d h' σ' ++ MW d g τ') [some (.ref b), some (.ref (h' 0)), some (.ref (g 0)), some (.int (nI (6 * j)))] 1420 [] := fun h' hh σ' τ' hR' => by
        have e6 : nI (6 * j) + 6 = nI (6 * (j + 1)) := by
          rw [show (6 : Int32) = nI 6 from rfl, nI_add]
          rfl
        refine zr_iinc (v := nI (6 * (j + 1))) (j := 6) 3 [some (.ref b), some (.ref (h' 0)), some (.ref (g 0)), some (.int (nI (6 * (j + 1))))] 1423 C (by decide +kernel) rfl rfl e6 (by decide) rfl rfl ?_
        refine zr_goto (off := -1405) 18 C (by decide +kernel) (by decide) ?_
        by_cases h9 : 6 * (j + 1) ≤ 3072
        · exact zr_widen (k' := 91 + 2 * (j + 1)) (n' := 22517 + 320 * (j + 1)) (by omega) (by omega) (ih (j + 1) (by omega) (by omega) h' σ' τ' hR' h9)
        · exact absurd hL (by omega)
      refine zr_aload_n 0 28 C (by decide +kernel) rfl rfl ?_
      refine zr_iload_n 3 29 C (by decide +kernel) rfl rfl ?_
      refine zl_sld (by have := hi 0 (by decide); rwa [nI_0, Int32.add_zero] at this) 30 C B (by decide +kernel) rfl ?_
      refine zr_bipush (v := 63) 63 32 C (by decide +kernel) rfl rfl ?_
      refine zr_iand 33 C (by decide +kernel) rfl ?_
      refine zr_tcase (dflt := 1387) (lw := 0) (hi := 35) (offs := #[159, 192, 225, 258, 281, 304, 327, 390, 403, 426, 469, 492, 525, 558, 581, 624, 657, 720, 753, 786, 819, 852, 875, 918, 951, 984, 1027, 1060, 1103, 1126, 1139, 1152, 1195, 1238, 1301, 1354]) (len := 159) (off := 159) (j := 0) (X := some ()) (Y := some ()) (out := ()) 0 192 C (by decide +kernel) (by decide) (by decide) rfl (by decide) (ite_self _) (fun _ => zl_house S C G (by omega) (by omega) E B hi hR (fun h' hh σ' τ' hR' => ?_)) (fun hn0 _ => ?_)
      · exact nx h' hh σ' τ' hR'
      refine zr_tcase (dflt := 1387) (lw := 0) (hi := 35) (offs := #[159, 192, 225, 258, 281, 304, 327, 390, 403, 426, 469, 492, 525, 558, 581, 624, 657, 720, 753, 786, 819, 852, 875, 918, 951, 984, 1027, 1060, 1103, 1126, 1139, 1152, 1195, 1238, 1301, 1354]) (len := 159) (off := 192) (j := 1) (X := some ()) (Y := some ()) (out := ()) 1 225 C (by decide +kernel) (by decide) (by decide) rfl (by decide) (ite_self _) (fun _ => zl_hut S C G (by omega) (by omega) E B hi hR (fun h' hh σ' τ' hR' => ?_)) (fun hn1 _ => ?_)
      · exact nx h' hh σ' τ' hR'
      refine zr_tcase (dflt := 1387) (lw := 0) (hi := 35) (offs := #[159, 192, 225, 258, 281, 304, 327, 390, 403, 426, 469, 492, 525, 558, 581, 624, 657, 720, 753, 786, 819, 852, 875, 918, 951, 984, 1027, 1060, 1103, 1126, 1139, 1152, 1195, 1238, 1301, 1354]) (len := 159) (off := 225) (j := 2) (X := some ()) (Y := some ()) (out := ()) 2 258 C (by decide +kernel) (by decide) (by decide) rfl (by decide) (ite_self _) (fun _ => zl_near S C G (by omega) (by omega) E B hi hR (fun h' hh σ' τ' hR' => ?_)) (fun hn2 _ => ?_)
      · exact nx h' hh σ' τ' hR'
      refine zr_tcase (dflt := 1387) (lw := 0) (hi := 35) (offs := #[159, 192, 225, 258, 281, 304, 327, 390, 403, 426, 469, 492, 525, 558, 581, 624, 657, 720, 753, 786, 819, 852, 875, 918, 951, 984, 1027, 1060, 1103, 1126, 1139, 1152, 1195, 1238, 1301, 1354]) (len := 159) (off := 258) (j := 3) (X := some ()) (Y := some ()) (out := ()) 3 291 C (by decide +kernel) (by decide) (by decide) rfl (by decide) (ite_self _) (fun _ => zl_far S C G (by omega) (by omega) E B hi hR (fun h' hh σ' τ' hR' => ?_)) (fun hn3 _ => ?_)
      · exact nx h' hh σ' τ' hR'
      refine zr_tcase (dflt := 1387) (lw := 0) (hi := 35) (offs := #[159, 192, 225, 258, 281, 304, 327, 390, 403, 426, 469, 492, 525, 558, 581, 624, 657, 720, 753, 786, 819, 852, 875, 918, 951, 984, 1027, 1060, 1103, 1126, 1139, 1152, 1195, 1238, 1301, 1354]) (len := 159) (off := 281) (j := 4) (X := some ()) (Y := some ()) (out := ()) 4 314 C (by decide +kernel) (by decide) (by decide) rfl (by decide) (ite_self _) (fun _ => zl_town S C G (by omega) (by omega) E B hi hR (fun h' hh σ' τ' hR' => ?_)) (fun hn4 _ => ?_)
      · exact nx h' hh σ' τ' hR'
      refine zr_tcase (dflt := 1387) (lw := 0) (hi := 35) (offs := #[159, 192, 225, 258, 281, 304, 327, 390, 403, 426, 469, 492, 525, 558, 581, 624, 657, 720, 753, 786, 819, 852, 875, 918, 951, 984, 1027, 1060, 1103, 1126, 1139, 1152, 1195, 1238, 1301, 1354]) (len := 159) (off := 304) (j := 5) (X := some ()) (Y := some ()) (out := ()) 5 337 C (by decide +kernel) (by decide) (by decide) rfl (by decide) (ite_self _) (fun _ => zl_burn S C G (by omega) (by omega) E B hi hR (fun h' hh σ' τ' hR' => ?_)) (fun hn5 _ => ?_)
      · exact nx h' hh σ' τ' hR'
      refine zr_tcase (dflt := 1387) (lw := 0) (hi := 35) (offs := #[159, 192, 225, 258, 281, 304, 327, 390, 403, 426, 469, 492, 525, 558, 581, 624, 657, 720, 753, 786, 819, 852, 875, 918, 951, 984, 1027, 1060, 1103, 1126, 1139, 1152, 1195, 1238, 1301, 1354]) (len := 159) (off := 327) (j := 6) (X := some ()) (Y := some ()) (out := ()) 6 360 C (by decide +kernel) (by decide) (by decide) rfl (by decide) (ite_self _) (fun _ => zl_feed S C G (by omega) (by omega) E B hi hR (fun h' hh σ' τ' hR' => ?_)) (fun hn6 _ => ?_)
      · exact nx h' hh σ' τ' hR'
      refine zr_tcase (dflt := 1387) (lw := 0) (hi := 35) (offs := #[159, 192, 225, 258, 281, 304, 327, 390, 403, 426, 469, 492, 525, 558, 581, 624, 657, 720, 753, 786, 819, 852, 875, 918, 951, 984, 1027, 1060, 1103, 1126, 1139, 1152, 1195, 1238, 1301, 1354]) (len := 159) (off := 390) (j := 7) (X := some ()) (Y := some ()) (out := ()) 7 423 C (by decide +kernel) (by decide) (by decide) rfl (by decide) (ite_self _) (fun _ => zl_text S C G (by omega) (by omega) E B hi hR (fun h' hh σ' τ' hR' => ?_)) (fun hn7 _ => ?_)
      · exact nx h' hh σ' τ' hR'
      refine zr_tcase (dflt := 1387) (lw := 0) (hi := 35) (offs := #[159, 192, 225, 258, 281, 304, 327, 390, 403, 426, 469, 492, 525, 558, 581, 624, 657, 720, 753, 786, 819, 852, 875, 918, 951, 984, 1027, 1060, 1103, 1126, 1139, 1152, 1195, 1238, 1301, 1354]) (len := 159) (off := 403) (j := 8) (X := some ()) (Y := some ()) (out := ()) 8 436 C (by decide +kernel) (by decide) (by decide) rfl (by decide) (ite_self _) (fun _ => zl_force S C G (by omega) (by omega) E B hi hR (fun h' hh σ' τ' hR' => ?_)) (fun hn8 _ => ?_)
      · exact nx h' hh σ' τ' hR'
      refine zr_tcase (dflt := 1387) (lw := 0) (hi := 35) (offs := #[159, 192, 225, 258, 281, 304, 327, 390, 403, 426, 469, 492, 525, 558, 581, 624, 657, 720, 753, 786, 819, 852, 875, 918, 951, 984, 1027, 1060, 1103, 1126, 1139, 1152, 1195, 1238, 1301, 1354]) (len := 159) (off := 426) (j := 9) (X := some ()) (Y := some ()) (out := ()) 9 459 C (by decide +kernel) (by decide) (by decide) rfl (by decide) (ite_self _) (fun _ => zl_shape S C G (by omega) (by omega) E B hi hR (fun h' hh σ' τ' hR' => ?_)) (fun hn9 _ => ?_)
      · exact nx h' hh σ' τ' hR'
      refine zr_tcase (dflt := 1387) (lw := 0) (hi := 35) (offs := #[159, 192, 225, 258, 281, 304, 327, 390, 403, 426, 469, 492, 525, 558, 581, 624, 657, 720, 753, 786, 819, 852, 875, 918, 951, 984, 1027, 1060, 1103, 1126, 1139, 1152, 1195, 1238, 1301, 1354]) (len := 159) (off := 469) (j := 10) (X := some ()) (Y := some ()) (out := ()) 10 502 C (by decide +kernel) (by decide) (by decide) rfl (by decide) (ite_self _) (fun _ => zl_loaf S C G (by omega) (by omega) E B hi hR (fun h' hh σ' τ' hR' => ?_)) (fun hn10 _ => ?_)
      · exact nx h' hh σ' τ' hR'
      refine zr_tcase (dflt := 1387) (lw := 0) (hi := 35) (offs := #[159, 192, 225, 258, 281, 304, 327, 390, 403, 426, 469, 492, 525, 558, 581, 624, 657, 720, 753, 786, 819, 852, 875, 918, 951, 984, 1027, 1060, 1103, 1126, 1139, 1152, 1195, 1238, 1301, 1354]) (len := 159) (off := 492) (j := 11) (X := some ()) (Y := some ()) (out := ()) 11 525 C (by decide +kernel) (by decide) (by decide) rfl (by decide) (ite_self _) (fun _ => zl_shapeTold S C G (by omega) (by omega) E B hi hR (fun h' hh σ' τ' hR' => ?_)) (fun hn11 _ => ?_)
      · exact nx h' hh σ' τ' hR'
      refine zr_tcase (dflt := 1387) (lw := 0) (hi := 35) (offs := #[159, 192, 225, 258, 281, 304, 327, 390, 403, 426, 469, 492, 525, 558, 581, 624, 657, 720, 753, 786, 819, 852, 875, 918, 951, 984, 1027, 1060, 1103, 1126, 1139, 1152, 1195, 1238, 1301, 1354]) (len := 159) (off := 525) (j := 12) (X := some ()) (Y := some ()) (out := ()) 12 558 C (by decide +kernel) (by decide) (by decide) rfl (by decide) (ite_self _) (fun _ => zl_within S C G (by omega) (by omega) E B hi hR (fun h' hh σ' τ' hR' => ?_)) (fun hn12 _ => ?_)
      · exact nx h' hh σ' τ' hR'
      refine zr_tcase (dflt := 1387) (lw := 0) (hi := 35) (offs := #[159, 192, 225, 258, 281, 304, 327, 390, 403, 426, 469, 492, 525, 558, 581, 624, 657, 720, 753, 786, 819, 852, 875, 918, 951, 984, 1027, 1060, 1103, 1126, 1139, 1152, 1195, 1238, 1301, 1354]) (len := 159) (off := 558) (j := 13) (X := some ()) (Y := some ()) (out := ()) 13 591 C (by decide +kernel) (by decide) (by decide) rfl (by decide) (ite_self _) (fun _ => zl_size S C G (by omega) (by omega) E B hi hR (fun h' hh σ' τ' hR' => ?_)) (fun hn13 _ => ?_)
      · exact nx h' hh σ' τ' hR'
      refine zr_tcase (dflt := 1387) (lw := 0) (hi := 35) (offs := #[159, 192, 225, 258, 281, 304, 327, 390, 403, 426, 469, 492, 525, 558, 581, 624, 657, 720, 753, 786, 819, 852, 875, 918, 951, 984, 1027, 1060, 1103, 1126, 1139, 1152, 1195, 1238, 1301, 1354]) (len := 159) (off := 581) (j := 14) (X := some ()) (Y := some ()) (out := ()) 14 614 C (by decide +kernel) (by decide) (by decide) rfl (by decide) (ite_self _) (fun _ => zl_both S C G (by omega) (by omega) E B hi hR (fun h' hh σ' τ' hR' => ?_)) (fun hn14 _ => ?_)
      · exact nx h' hh σ' τ' hR'
      refine zr_tcase (dflt := 1387) (lw := 0) (hi := 35) (offs := #[159, 192, 225, 258, 281, 304, 327, 390, 403, 426, 469, 492, 525, 558, 581, 624, 657, 720, 753, 786, 819, 852, 875, 918, 951, 984, 1027, 1060, 1103, 1126, 1139, 1152, 1195, 1238, 1301, 1354]) (len := 159) (off := 624) (j := 15) (X := some ()) (Y := some ()) (out := ()) 15 657 C (by decide +kernel) (by decide) (by decide) rfl (by decide) (ite_self _) (fun _ => zl_laid S C G (by omega) (by omega) E B hi hR (fun h' hh σ' τ' hR' => ?_)) (fun hn15 _ => ?_)
      · exact nx h' hh σ' τ' hR'
      refine zr_tcase (dflt := 1387) (lw := 0) (hi := 35) (offs := #[159, 192, 225, 258, 281, 304, 327, 390, 403, 426, 469, 492, 525, 558, 581, 624, 657, 720, 753, 786, 819, 852, 875, 918, 951, 984, 1027, 1060, 1103, 1126, 1139, 1152, 1195, 1238, 1301, 1354]) (len := 159) (off := 657) (j := 16) (X := some ()) (Y := some ()) (out := ()) 16 690 C (by decide +kernel) (by decide) (by decide) rfl (by decide) (ite_self _) (fun _ => zl_ravine S C G (by omega) (by omega) E B hi hR (fun h' hh σ' τ' hR' => ?_)) (fun hn16 _ => ?_)
      · exact nx h' hh σ' τ' hR'
      refine zr_tcase (dflt := 1387) (lw := 0) (hi := 35) (offs := #[159, 192, 225, 258, 281, 304, 327, 390, 403, 426, 469, 492, 525, 558, 581, 624, 657, 720, 753, 786, 819, 852, 875, 918, 951, 984, 1027, 1060, 1103, 1126, 1139, 1152, 1195, 1238, 1301, 1354]) (len := 159) (off := 720) (j := 17) (X := some ()) (Y := some ()) (out := ()) 17 753 C (by decide +kernel) (by decide) (by decide) rfl (by decide) (ite_self _) (fun _ => zl_steps S C G (by omega) (by omega) E B hi hR (fun h' hh σ' τ' hR' => ?_)) (fun hn17 _ => ?_)
      · exact nx h' hh σ' τ' hR'
      refine zr_tcase (dflt := 1387) (lw := 0) (hi := 35) (offs := #[159, 192, 225, 258, 281, 304, 327, 390, 403, 426, 469, 492, 525, 558, 581, 624, 657, 720, 753, 786, 819, 852, 875, 918, 951, 984, 1027, 1060, 1103, 1126, 1139, 1152, 1195, 1238, 1301, 1354]) (len := 159) (off := 753) (j := 18) (X := some ()) (Y := some ()) (out := ()) 18 786 C (by decide +kernel) (by decide) (by decide) rfl (by decide) (ite_self _) (fun _ => zl_person S C G (by omega) (by omega) E B hi hR (fun h' hh σ' τ' hR' => ?_)) (fun hn18 _ => ?_)
      · exact nx h' hh σ' τ' hR'
      refine zr_tcase (dflt := 1387) (lw := 0) (hi := 35) (offs := #[159, 192, 225, 258, 281, 304, 327, 390, 403, 426, 469, 492, 525, 558, 581, 624, 657, 720, 753, 786, 819, 852, 875, 918, 951, 984, 1027, 1060, 1103, 1126, 1139, 1152, 1195, 1238, 1301, 1354]) (len := 159) (off := 786) (j := 19) (X := some ()) (Y := some ()) (out := ()) 19 819 C (by decide +kernel) (by decide) (by decide) rfl (by decide) (ite_self _) (fun _ => zl_moves S C G (by omega) (by omega) E B hi hR (fun h' hh σ' τ' hR' => ?_)) (fun hn19 _ => ?_)
      · exact nx h' hh σ' τ' hR'
      refine zr_tcase (dflt := 1387) (lw := 0) (hi := 35) (offs := #[159, 192, 225, 258, 281, 304, 327, 390, 403, 426, 469, 492, 525, 558, 581, 624, 657, 720, 753, 786, 819, 852, 875, 918, 951, 984, 1027, 1060, 1103, 1126, 1139, 1152, 1195, 1238, 1301, 1354]) (len := 159) (off := 819) (j := 20) (X := some ()) (Y := some ()) (out := ()) 20 852 C (by decide +kernel) (by decide) (by decide) rfl (by decide) (ite_self _) (fun _ => zl_personTold S C G (by omega) (by omega) E B hi hR (fun h' hh σ' τ' hR' => ?_)) (fun hn20 _ => ?_)
      · exact nx h' hh σ' τ' hR'
      refine zr_tcase (dflt := 1387) (lw := 0) (hi := 35) (offs := #[159, 192, 225, 258, 281, 304, 327, 390, 403, 426, 469, 492, 525, 558, 581, 624, 657, 720, 753, 786, 819, 852, 875, 918, 951, 984, 1027, 1060, 1103, 1126, 1139, 1152, 1195, 1238, 1301, 1354]) (len := 159) (off := 852) (j := 21) (X := some ()) (Y := some ()) (out := ()) 21 885 C (by decide +kernel) (by decide) (by decide) rfl (by decide) (ite_self _) (fun _ => zl_well S C G (by omega) (by omega) E B hi hR (fun h' hh σ' τ' hR' => ?_)) (fun hn21 _ => ?_)
      · exact nx h' hh σ' τ' hR'
      refine zr_tcase (dflt := 1387) (lw := 0) (hi := 35) (offs := #[159, 192, 225, 258, 281, 304, 327, 390, 403, 426, 469, 492, 525, 558, 581, 624, 657, 720, 753, 786, 819, 852, 875, 918, 951, 984, 1027, 1060, 1103, 1126, 1139, 1152, 1195, 1238, 1301, 1354]) (len := 159) (off := 875) (j := 22) (X := some ()) (Y := some ()) (out := ()) 22 908 C (by decide +kernel) (by decide) (by decide) rfl (by decide) (ite_self _) (fun _ => zl_may S C G (by omega) (by omega) E B hi hR (fun h' hh σ' τ' hR' => ?_)) (fun hn22 _ => ?_)
      · exact nx h' hh σ' τ' hR'
      refine zr_tcase (dflt := 1387) (lw := 0) (hi := 35) (offs := #[159, 192, 225, 258, 281, 304, 327, 390, 403, 426, 469, 492, 525, 558, 581, 624, 657, 720, 753, 786, 819, 852, 875, 918, 951, 984, 1027, 1060, 1103, 1126, 1139, 1152, 1195, 1238, 1301, 1354]) (len := 159) (off := 918) (j := 23) (X := some ()) (Y := some ()) (out := ()) 23 951 C (by decide +kernel) (by decide) (by decide) rfl (by decide) (ite_self _) (fun _ => zl_wells S C G (by omega) (by omega) E B hi hR (fun h' hh σ' τ' hR' => ?_)) (fun hn23 _ => ?_)
      · exact nx h' hh σ' τ' hR'
      refine zr_tcase (dflt := 1387) (lw := 0) (hi := 35) (offs := #[159, 192, 225, 258, 281, 304, 327, 390, 403, 426, 469, 492, 525, 558, 581, 624, 657, 720, 753, 786, 819, 852, 875, 918, 951, 984, 1027, 1060, 1103, 1126, 1139, 1152, 1195, 1238, 1301, 1354]) (len := 159) (off := 951) (j := 24) (X := some ()) (Y := some ()) (out := ()) 24 984 C (by decide +kernel) (by decide) (by decide) rfl (by decide) (ite_self _) (fun _ => zl_who S C G (by omega) (by omega) E B hi hR (fun h' hh σ' τ' hR' => ?_)) (fun hn24 _ => ?_)
      · exact nx h' hh σ' τ' hR'
      refine zr_tcase (dflt := 1387) (lw := 0) (hi := 35) (offs := #[159, 192, 225, 258, 281, 304, 327, 390, 403, 426, 469, 492, 525, 558, 581, 624, 657, 720, 753, 786, 819, 852, 875, 918, 951, 984, 1027, 1060, 1103, 1126, 1139, 1152, 1195, 1238, 1301, 1354]) (len := 159) (off := 984) (j := 25) (X := some ()) (Y := some ()) (out := ()) 25 1017 C (by decide +kernel) (by decide) (by decide) rfl (by decide) (ite_self _) (fun _ => zl_meet S C G (by omega) (by omega) E B hi hR (fun h' hh σ' τ' hR' => ?_)) (fun hn25 _ => ?_)
      · exact nx h' hh σ' τ' hR'
      refine zr_tcase (dflt := 1387) (lw := 0) (hi := 35) (offs := #[159, 192, 225, 258, 281, 304, 327, 390, 403, 426, 469, 492, 525, 558, 581, 624, 657, 720, 753, 786, 819, 852, 875, 918, 951, 984, 1027, 1060, 1103, 1126, 1139, 1152, 1195, 1238, 1301, 1354]) (len := 159) (off := 1027) (j := 26) (X := some ()) (Y := some ()) (out := ()) 26 1060 C (by decide +kernel) (by decide) (by decide) rfl (by decide) (ite_self _) (fun _ => zl_shed S C G (by omega) (by omega) E B hi hR (fun h' hh σ' τ' hR' => ?_)) (fun hn26 _ => ?_)
      · exact nx h' hh σ' τ' hR'
      refine zr_tcase (dflt := 1387) (lw := 0) (hi := 35) (offs := #[159, 192, 225, 258, 281, 304, 327, 390, 403, 426, 469, 492, 525, 558, 581, 624, 657, 720, 753, 786, 819, 852, 875, 918, 951, 984, 1027, 1060, 1103, 1126, 1139, 1152, 1195, 1238, 1301, 1354]) (len := 159) (off := 1060) (j := 27) (X := some ()) (Y := some ()) (out := ()) 27 1093 C (by decide +kernel) (by decide) (by decide) rfl (by decide) (ite_self _) (fun _ => zl_bridge S C G (by omega) (by omega) E B hi hR (fun h' hh σ' τ' hR' => ?_)) (fun hn27 _ => ?_)
      · exact nx h' hh σ' τ' hR'
      refine zr_tcase (dflt := 1387) (lw := 0) (hi := 35) (offs := #[159, 192, 225, 258, 281, 304, 327, 390, 403, 426, 469, 492, 525, 558, 581, 624, 657, 720, 753, 786, 819, 852, 875, 918, 951, 984, 1027, 1060, 1103, 1126, 1139, 1152, 1195, 1238, 1301, 1354]) (len := 159) (off := 1103) (j := 28) (X := some ()) (Y := some ()) (out := ()) 28 1136 C (by decide +kernel) (by decide) (by decide) rfl (by decide) (ite_self _) (fun _ => zl_count S C G (by omega) (by omega) E B hi hR (fun h' hh σ' τ' hR' => ?_)) (fun hn28 _ => ?_)
      · exact nx h' hh σ' τ' hR'
      refine zr_tcase (dflt := 1387) (lw := 0) (hi := 35) (offs := #[159, 192, 225, 258, 281, 304, 327, 390, 403, 426, 469, 492, 525, 558, 581, 624, 657, 720, 753, 786, 819, 852, 875, 918, 951, 984, 1027, 1060, 1103, 1126, 1139, 1152, 1195, 1238, 1301, 1354]) (len := 159) (off := 1126) (j := 29) (X := some ()) (Y := some ()) (out := ()) 29 1159 C (by decide +kernel) (by decide) (by decide) rfl (by decide) (ite_self _) (fun _ => zl_image S C G (by omega) (by omega) E B hi hR (fun h' hh σ' τ' hR' => ?_)) (fun hn29 _ => ?_)
      · exact nx h' hh σ' τ' hR'
      refine zr_tcase (dflt := 1387) (lw := 0) (hi := 35) (offs := #[159, 192, 225, 258, 281, 304, 327, 390, 403, 426, 469, 492, 525, 558, 581, 624, 657, 720, 753, 786, 819, 852, 875, 918, 951, 984, 1027, 1060, 1103, 1126, 1139, 1152, 1195, 1238, 1301, 1354]) (len := 159) (off := 1139) (j := 30) (X := some ()) (Y := some ()) (out := ()) 30 1172 C (by decide +kernel) (by decide) (by decide) rfl (by decide) (ite_self _) (fun _ => zl_back S C G (by omega) (by omega) E B hi hR (fun h' hh σ' τ' hR' => ?_)) (fun hn30 _ => ?_)
      · exact nx h' hh σ' τ' hR'
      refine zr_tcase (dflt := 1387) (lw := 0) (hi := 35) (offs := #[159, 192, 225, 258, 281, 304, 327, 390, 403, 426, 469, 492, 525, 558, 581, 624, 657, 720, 753, 786, 819, 852, 875, 918, 951, 984, 1027, 1060, 1103, 1126, 1139, 1152, 1195, 1238, 1301, 1354]) (len := 159) (off := 1152) (j := 31) (X := some ()) (Y := some ()) (out := ()) 31 1185 C (by decide +kernel) (by decide) (by decide) rfl (by decide) (ite_self _) (fun _ => zl_sheet S C G (by omega) (by omega) E B hi hR (fun h' hh σ' τ' hR' => ?_)) (fun hn31 _ => ?_)
      · exact nx h' hh σ' τ' hR'
      refine zr_tcase (dflt := 1387) (lw := 0) (hi := 35) (offs := #[159, 192, 225, 258, 281, 304, 327, 390, 403, 426, 469, 492, 525, 558, 581, 624, 657, 720, 753, 786, 819, 852, 875, 918, 951, 984, 1027, 1060, 1103, 1126, 1139, 1152, 1195, 1238, 1301, 1354]) (len := 159) (off := 1195) (j := 32) (X := some ()) (Y := some ()) (out := ()) 32 1228 C (by decide +kernel) (by decide) (by decide) rfl (by decide) (ite_self _) (fun _ => zl_cell S C G (by omega) (by omega) E B hi hR (fun h' hh σ' τ' hR' => ?_)) (fun hn32 _ => ?_)
      · exact nx h' hh σ' τ' hR'
      refine zr_tcase (dflt := 1387) (lw := 0) (hi := 35) (offs := #[159, 192, 225, 258, 281, 304, 327, 390, 403, 426, 469, 492, 525, 558, 581, 624, 657, 720, 753, 786, 819, 852, 875, 918, 951, 984, 1027, 1060, 1103, 1126, 1139, 1152, 1195, 1238, 1301, 1354]) (len := 159) (off := 1238) (j := 33) (X := some ()) (Y := some ()) (out := ()) 33 1271 C (by decide +kernel) (by decide) (by decide) rfl (by decide) (ite_self _) (fun _ => zl_copy S C G (by omega) (by omega) E B hi hR (fun h' hh σ' τ' hR' => ?_)) (fun hn33 _ => ?_)
      · exact nx h' hh σ' τ' hR'
      refine zr_tcase (dflt := 1387) (lw := 0) (hi := 35) (offs := #[159, 192, 225, 258, 281, 304, 327, 390, 403, 426, 469, 492, 525, 558, 581, 624, 657, 720, 753, 786, 819, 852, 875, 918, 951, 984, 1027, 1060, 1103, 1126, 1139, 1152, 1195, 1238, 1301, 1354]) (len := 159) (off := 1301) (j := 34) (X := some ()) (Y := some ()) (out := ()) 34 1334 C (by decide +kernel) (by decide) (by decide) rfl (by decide) (ite_self _) (fun _ => zl_houses S C G (by omega) (by omega) E B hi hR (fun h' hh σ' τ' hR' => ?_)) (fun hn34 _ => ?_)
      · exact nx h' hh σ' τ' hR'
      refine zr_tcase (dflt := 1387) (lw := 0) (hi := 35) (offs := #[159, 192, 225, 258, 281, 304, 327, 390, 403, 426, 469, 492, 525, 558, 581, 624, 657, 720, 753, 786, 819, 852, 875, 918, 951, 984, 1027, 1060, 1103, 1126, 1139, 1152, 1195, 1238, 1301, 1354]) (len := 159) (off := 1354) (j := 35) (X := some ()) (Y := some ()) (out := ()) 35 1387 C (by decide +kernel) (by decide) (by decide) rfl (by decide) (ite_self _) (fun _ => zl_taken S C G (by omega) (by omega) E B hi hR (fun h' hh σ' τ' hR' => ?_)) (fun hn35 _ => ?_)
      · exact nx h' hh σ' τ' hR'
      refine zr_tdflt (dflt := 1387) (lw := 0) (hi := 35) (offs := #[159, 192, 225, 258, 281, 304, 327, 390, 403, 426, 469, 492, 525, 558, 581, 624, 657, 720, 753, 786, 819, 852, 875, 918, 951, 984, 1027, 1060, 1103, 1126, 1139, 1152, 1195, 1238, 1301, 1354]) (len := 159) 1420 C (by decide +kernel) (by decide) (by decide) (fun jj hj hx => ?_) ?_
      · rcases (show jj = 0 ∨ jj = 1 ∨ jj = 2 ∨ jj = 3 ∨ jj = 4 ∨ jj = 5 ∨ jj = 6 ∨ jj = 7 ∨ jj = 8 ∨ jj = 9 ∨ jj = 10 ∨ jj = 11 ∨ jj = 12 ∨ jj = 13 ∨ jj = 14 ∨ jj = 15 ∨ jj = 16 ∨ jj = 17 ∨ jj = 18 ∨ jj = 19 ∨ jj = 20 ∨ jj = 21 ∨ jj = 22 ∨ jj = 23 ∨ jj = 24 ∨ jj = 25 ∨ jj = 26 ∨ jj = 27 ∨ jj = 28 ∨ jj = 29 ∨ jj = 30 ∨ jj = 31 ∨ jj = 32 ∨ jj = 33 ∨ jj = 34 ∨ jj = 35 by have hj2 : jj < 36 := hj; omega) with rfl | rfl | rfl | rfl | rfl | rfl | rfl | rfl | rfl | rfl | rfl | rfl | rfl | rfl | rfl | rfl | rfl | rfl | rfl | rfl | rfl | rfl | rfl | rfl | rfl | rfl | rfl | rfl | rfl | rfl | rfl | rfl | rfl | rfl | rfl | rfl
        · exact absurd (z_ti (c := 0) (by decide) hx) hn0
        · exact absurd (z_ti (c := 1) (by decide) hx) hn1
        · exact absurd (z_ti (c := 2) (by decide) hx) hn2
        · exact absurd (z_ti (c := 3) (by decide) hx) hn3
        · exact absurd (z_ti (c := 4) (by decide) hx) hn4
        · exact absurd (z_ti (c := 5) (by decide) hx) hn5
        · exact absurd (z_ti (c := 6) (by decide) hx) hn6
        · exact absurd (z_ti (c := 7) (by decide) hx) hn7
        · exact absurd (z_ti (c := 8) (by decide) hx) hn8
        · exact absurd (z_ti (c := 9) (by decide) hx) hn9
        · exact absurd (z_ti (c := 10) (by decide) hx) hn10
        · exact absurd (z_ti (c := 11) (by decide) hx) hn11
        · exact absurd (z_ti (c := 12) (by decide) hx) hn12
        · exact absurd (z_ti (c := 13) (by decide) hx) hn13
        · exact absurd (z_ti (c := 14) (by decide) hx) hn14
        · exact absurd (z_ti (c := 15) (by decide) hx) hn15
        · exact absurd (z_ti (c := 16) (by decide) hx) hn16
        · exact absurd (z_ti (c := 17) (by decide) hx) hn17
        · exact absurd (z_ti (c := 18) (by decide) hx) hn18
        · exact absurd (z_ti (c := 19) (by decide) hx) hn19
        · exact absurd (z_ti (c := 20) (by decide) hx) hn20
        · exact absurd (z_ti (c := 21) (by decide) hx) hn21
        · exact absurd (z_ti (c := 22) (by decide) hx) hn22
        · exact absurd (z_ti (c := 23) (by decide) hx) hn23
        · exact absurd (z_ti (c := 24) (by decide) hx) hn24
        · exact absurd (z_ti (c := 25) (by decide) hx) hn25
        · exact absurd (z_ti (c := 26) (by decide) hx) hn26
        · exact absurd (z_ti (c := 27) (by decide) hx) hn27
        · exact absurd (z_ti (c := 28) (by decide) hx) hn28
        · exact absurd (z_ti (c := 29) (by decide) hx) hn29
        · exact absurd (z_ti (c := 30) (by decide) hx) hn30
        · exact absurd (z_ti (c := 31) (by decide) hx) hn31
        · exact absurd (z_ti (c := 32) (by decide) hx) hn32
        · exact absurd (z_ti (c := 33) (by decide) hx) hn33
        · exact absurd (z_ti (c := 34) (by decide) hx) hn34
        · exact absurd (z_ti (c := 35) (by decide) hx) hn35
      exact zr_widen (Nat.le_add_right _ _) (Nat.le_add_right _ _) (nx h rfl σ τ hR)
    · refine zr_icmp_gt (off := 1402) (X := some ()) (Y := none) (out := ()) 1426 27 C (by decide +kernel) (by decide) rfl (if_pos ((z_gt hL h3).mpr hj)) (fun _ => ?_) (fun h => by cases h)
      refine zr_iconst (v := 1) 1 1427 C (by decide +kernel) rfl rfl ?_
      exact zl_end C Z (by omega) (by omega)
set_option maxHeartbeats 4000000 in
set_option maxRecDepth 8000 in
theorem zl_start {l : Launch} {d : zD} {F : zF} {ad av : Nat → Nat} {b L : Nat} {xs : Nat → Int32} {R : zS → zS → Prop} (S : zSims R) {ox om : Int32 × zS} (hx : f_X_ini zs0 = some ox) (hm : f_M_ini zm0 = some om) (hR : R ox.2 om.2) (C : zOk d F RL cL_law 4 200 8000) (G : zRm F 600000 7302250) (E : zXe d ad av) (B : zSc F b L xs) (Z : zLw F b) (hL : L ≤ 3072) : V l d F 0 0 [] [some (.ref b), none, none, none] 0 [] := by
  refine zr_new (idx := 7) (ci := 10) (fs := [.null, .null, .null, .null, .null, .null, .null, .null, .null, .null, .null, .null, .null, .int 0, .int 0, .int 0]) (kc := 600000) (ns := 7302250) inX10 tyX10 tyX10_ok rfl (fun j hj => by rcases (show j = 0 ∨ j = 1 ∨ j = 2 ∨ j = 3 ∨ j = 4 ∨ j = 5 ∨ j = 6 ∨ j = 7 ∨ j = 8 ∨ j = 9 ∨ j = 10 ∨ j = 11 ∨ j = 12 ∨ j = 13 ∨ j = 14 ∨ j = 15 by omega) with rfl | rfl | rfl | rfl | rfl | rfl | rfl | rfl | rfl | rfl | rfl | rfl | rfl | rfl | rfl | rfl <;> rfl) q_91 q_92 q_72 3 C G (by omega) (by omega) (by decide +kernel) rfl (fun q => ?_)
  refine zr_dup 4 C (by decide +kernel) rfl rfl ?_
  refine zr_eq (ws' := [] ++ ([(q, .inr (10, [.null, .null, .null, .null, .null, .null, .null, .null, .null, .null, .null, .null, .null, .int 0, .int 0, .int 0]))] ++ [])) rfl ?_
  refine zr_callIa (idx := 9) (kc := 600000) (ns := 7302250) (rest := [.ref q]) y_X_init ⟨rfl, q_94⟩ (As := []) (m_X_init E hx) rfl rfl 7 C G (by omega) (by omega) (by decide +kernel) rfl q_93 (zb2 rfl rfl) (Nat.le_of_ble_eq_true rfl) (fun rr w hw => ?_)
  obtain ⟨rfl, h, rfl, rfl⟩ := hw
  refine zr_eq (ws' := XW d h ox.2) (by simp) ?_
  refine zr_astore_n 1 [some (.ref b), some (.ref (h 0)), none, none] 8 C (by decide +kernel) rfl (by decide) rfl rfl ?_
  refine zr_new (idx := 10) (ci := 11) (fs := [.int 0, .null, .null, .int 0, .null, .null, .null, .int 0, .int 0, .null, .null, .null, .null, .null, .int 0, .null, .null, .int 0, .null, .null, .int 0, .null, .null, .int 0, .int 0, .int 0, .int 0, .int 0, .int 0, .int 0, .null, .null, .null, .null, .null, .int 0, .int 0, .int 0, .int 0, .null, .null, .int 0, .int 0, .int 0, .null, .null, .int 0, .int 0, .int 0, .int 0, .int 0, .int 0, .null, .null, .null, .null, .null, .int 0, .int 0, .null]) (kc := 600000) (ns := 7302250) inX11 tyX11 tyX11_ok rfl (fun j hj => by rcases (show j = 0 ∨ j = 1 ∨ j = 2 ∨ j = 3 ∨ j = 4 ∨ j = 5 ∨ j = 6 ∨ j = 7 ∨ j = 8 ∨ j = 9 ∨ j = 10 ∨ j = 11 ∨ j = 12 ∨ j = 13 ∨ j = 14 ∨ j = 15 ∨ j = 16 ∨ j = 17 ∨ j = 18 ∨ j = 19 ∨ j = 20 ∨ j = 21 ∨ j = 22 ∨ j = 23 ∨ j = 24 ∨ j = 25 ∨ j = 26 ∨ j = 27 ∨ j = 28 ∨ j = 29 ∨ j = 30 ∨ j = 31 ∨ j = 32 ∨ j = 33 ∨ j = 34 ∨ j = 35 ∨ j = 36 ∨ j = 37 ∨ j = 38 ∨ j = 39 ∨ j = 40 ∨ j = 41 ∨ j = 42 ∨ j = 43 ∨ j = 44 ∨ j = 45 ∨ j = 46 ∨ j = 47 ∨ j = 48 ∨ j = 49 ∨ j = 50 ∨ j = 51 ∨ j = 52 ∨ j = 53 ∨ j = 54 ∨ j = 55 ∨ j = 56 ∨ j = 57 ∨ j = 58 ∨ j = 59 by omega) with rfl | rfl | rfl | rfl | rfl | rfl | rfl | rfl | rfl | rfl | rfl | rfl | rfl | rfl | rfl | rfl | rfl | rfl | rfl | rfl | rfl | rfl | rfl | rfl | rfl | rfl | rfl | rfl | rfl | rfl | rfl | rfl | rfl | rfl | rfl | rfl | rfl | rfl | rfl | rfl | rfl | rfl | rfl | rfl | rfl | rfl | rfl | rfl | rfl | rfl | rfl | rfl | rfl | rfl | rfl | rfl | rfl | rfl | rfl | rfl <;> rfl) q_966 q_967 q_90 11 C G (by omega) (by omega) (by decide +kernel) rfl (fun q => ?_)
  refine zr_dup 12 C (by decide +kernel) rfl rfl ?_
  refine zr_eq (ws' := XW d h ox.2 ++ ([(q, .inr (11, [.int 0, .null, .null, .int 0, .null, .null, .null, .int 0, .int 0, .null, .null, .null, .null, .null, .int 0, .null, .null, .int 0, .null, .null, .int 0, .null, .null, .int 0, .int 0, .int 0, .int 0, .int 0, .int 0, .int 0, .null, .null, .null, .null, .null, .int 0, .int 0, .int 0, .int 0, .null, .null, .int 0, .int 0, .int 0, .null, .null, .int 0, .int 0, .int 0, .int 0, .int 0, .int 0, .null, .null, .null, .null, .null, .int 0, .int 0, .null]))] ++ [])) (by simp) ?_
  refine zr_callIa (idx := 12) (kc := 600000) (ns := 7302250) (rest := [.ref q]) y_M_init ⟨rfl, q_969⟩ (As := []) (m_M_init hm) rfl rfl 15 C G (by omega) (by omega) (by decide +kernel) rfl q_968 (zb2 rfl rfl) (Nat.le_of_ble_eq_true rfl) (fun rr w hw => ?_)
  obtain ⟨rfl, g, rfl, rfl⟩ := hw
  refine zr_eq (ws' := XW d h ox.2 ++ MW d g om.2) (by simp) ?_
  refine zr_astore_n 2 [some (.ref b), some (.ref (h 0)), some (.ref (g 0)), none] 16 C (by decide +kernel) rfl (by decide) rfl rfl ?_
  refine zr_iconst (v := 0) 0 17 C (by decide +kernel) rfl rfl ?_
  refine zr_istore_n 3 [some (.ref b), some (.ref (h 0)), some (.ref (g 0)), some (.int 0)] 18 C (by decide +kernel) rfl (by decide) rfl rfl ?_
  refine zr_widen (k' := 91 + 2 * 0) (n' := 22517 + 320 * 0) (by omega) (by omega) ?_
  have := zl_loop (l := l) (g := g) S (zOk_le (by omega) (by omega) C) G E B Z hL 3084 0 (by omega) (by omega) h ox.2 om.2 hR (by omega)
  rw [Nat.mul_zero, nI_0] at this
  exact this
theorem z_arr {s : State} {args : Array Value} {ty : FieldType} (h : (Cond.arrayClass ty).before args s = true) (ho : ∀ C, ty ≠ .object C) : ∃ c : ClassId, ArrOfT s c ty ∧ va_RA s c ty := by
  obtain ⟨c, k, comp, h1, h2, h3⟩ := Cond.arrayClass_spec h
  refine ⟨c, fun N z => ⟨(fun q hq => by cases hq), k, h2, comp, h3⟩, ?_⟩
  cases ty <;> first | exact h1 | exact absurd rfl (ho _)
set_option maxHeartbeats 4000000 in
theorem law_from {p : Program} {e : Env} {s : State} {m : MethodId} {below : List Frame} {meth : Method} {c : Code} (l : Launch) {b L : Nat} {xs : Nat → Int32} (hL : L ≤ 3072) (C0 : lw_At p s m meth c b L xs) {R : zS → zS → Prop} (S : zSims R) {ox om : Int32 × zS} (hx0 : f_X_ini zs0 = some ox) (hm0 : f_M_ini zm0 = some om) (hR : R ox.2 om.2) : W p l e room_1 s m #[Value.ref b] below meth c s.heap [] 0 0 (lw_Z below #[Value.ref b] s) (entryFrame m ([Value.ref b] : List Value).toArray 4) := by
  obtain ⟨hx, hb, hr, hml, hown, hts, hX, hbl, hlocks, hgv⟩ := id C0
  obtain ⟨ad, av, hE⟩ := zEn_0 hts hgv
  have htz : ∀ w ∈ zW, w.before #[Value.ref b] s = true := fun w hw => hts w (List.mem_filter.mp hw).1
  obtain ⟨c0, iS0, hKn0⟩ := u_known (C := RX0) (T := TX0) (N := 9) (n := 9) htz inX0 (htz _ q_324)
  obtain ⟨c1, iS1, hKn1⟩ := u_known (C := RX1) (T := TX1) (N := 7) (n := 7) htz inX1 (htz _ q_274)
  obtain ⟨c2, iS2, hKn2⟩ := u_known (C := RX2) (T := TX2) (N := 2) (n := 2) htz inX2 (htz _ q_216)
  obtain ⟨c3, iS3, hKn3⟩ := u_known (C := RX3) (T := TX3) (N := 3) (n := 3) htz inX3 (htz _ q_255)
  obtain ⟨c4, iS4, hKn4⟩ := u_known (C := RX4) (T := TX4) (N := 9) (n := 9) htz inX4 (htz _ q_100)
  obtain ⟨c5, iS5, hKn5⟩ := u_known (C := RX5) (T := TX5) (N := 3) (n := 3) htz inX5 (htz _ q_167)
  obtain ⟨c6, iS6, hKn6⟩ := u_known (C := RX6) (T := TX6) (N := 4) (n := 4) htz inX6 (htz _ q_232)
  obtain ⟨c7, iS7, hKn7⟩ := u_known (C := RX7) (T := TX7) (N := 3) (n := 3) htz inX7 (htz _ q_304)
  obtain ⟨c8, iS8, hKn8⟩ := u_known (C := RX8) (T := TX8) (N := 3) (n := 3) htz inX8 (htz _ q_140)
  obtain ⟨c9, iS9, hKn9⟩ := u_known (C := RX9) (T := TX9) (N := 9) (n := 9) htz inX9 (htz _ q_161)
  obtain ⟨c10, iS10, hKn10⟩ := u_known (C := RX10) (T := TX10) (N := 16) (n := 16) htz inX10 (htz _ q_92)
  obtain ⟨c11, iS11, hKn11⟩ := u_known (C := RX11) (T := TX11) (N := 60) (n := 60) htz inX11 (htz _ q_967)
  obtain ⟨cI, aI⟩ := z_arr (htz _ q_138) (fun _ h => by cases h)
  obtain ⟨cZ, aZ⟩ := z_arr (htz _ q_1173) (fun _ h => by cases h)
  obtain ⟨cJ, aJ⟩ := z_arr (htz _ q_1172) (fun _ h => by cases h)
  obtain ⟨comp, cQ, kQ, f1, f2, f3, f4⟩ := z_over (hts (Cond.arrayOver (.array .int)) (List.mem_of_getElem? (i := 146) (by decide +kernel)))
  have aQ : ArrOfT s cQ (.array .int) ∧ va_RA s cQ (.array .int) := ⟨fun N z => ⟨(fun q hq => by cases hq), kQ, f2, comp, f3⟩, f4⟩
  obtain ⟨D, hKc⟩ : ∃ D : va_G, ∀ (k : Nat) (q : vw_C), classes[k]? = some q → u_Kn s q.1 q.2.1 q.2.2 (D.1 k) (D.2 k) := by
    refine ⟨(fun k => if k = 0 then c0 else if k = 1 then c1 else if k = 2 then c2 else if k = 3 then c3 else if k = 4 then c4 else if k = 5 then c5 else if k = 6 then c6 else if k = 7 then c7 else if k = 8 then c8 else if k = 9 then c9 else if k = 10 then c10 else c11, fun k => if k = 0 then iS0 else if k = 1 then iS1 else if k = 2 then iS2 else if k = 3 then iS3 else if k = 4 then iS4 else if k = 5 then iS5 else if k = 6 then iS6 else if k = 7 then iS7 else if k = 8 then iS8 else if k = 9 then iS9 else if k = 10 then iS10 else iS11), ?_⟩
    intro k q hq
    match k, hq with
    | 0, hq => cases hq; exact hKn0
    | 1, hq => cases hq; exact hKn1
    | 2, hq => cases hq; exact hKn2
    | 3, hq => cases hq; exact hKn3
    | 4, hq => cases hq; exact hKn4
    | 5, hq => cases hq; exact hKn5
    | 6, hq => cases hq; exact hKn6
    | 7, hq => cases hq; exact hKn7
    | 8, hq => cases hq; exact hKn8
    | 9, hq => cases hq; exact hKn9
    | 10, hq => cases hq; exact hKn10
    | 11, hq => cases hq; exact hKn11
    | k + 12, hq => simp [classes] at hq
  have hK : va_K D classes (zt (D, cI, cZ, cJ, cQ, zEn ad av)) s := ⟨hKc, fun k q h => by
    match k, h with
    | 0, h => cases h; exact aI
    | 1, h => cases h; exact aZ
    | 2, h => cases h; exact aJ
    | 3, h => cases h; exact aQ
    | k + 4, h => simp [zt] at h⟩
  have hl := lv_entry ([.ref b]) (n := 4) (Nat.le_of_ble_eq_true rfl)
  rw [lg_entry_eq]
  refine zl_start (l := l) (d := (D, cI, cZ, cJ, cQ, zEn ad av)) (F := (p, e, room_1, s, m, #[Value.ref b], below, meth, c, lw_Z below #[Value.ref b] s, fun q => s.heap.size ≤ q)) S hx0 hm0 hR ⟨hx, hb, hml, hown, htz, fun _ h => h, hK, (by decide), (by decide), zEn_c ad av, hE⟩ ⟨(by decide), (by decide)⟩ (fun A U h => h) ⟨hX, hbl, Nat.not_le.mpr hbl⟩ ⟨rfl, rfl, rfl, rfl, hr, hlocks⟩ hL s.heap [] _ (fun k q h => by simp at h) ⟨fun i j p q h => by simp at h, fun k q h => by simp at h⟩ va_S.rf ?_
  rw [hml]
  exact hl
