theorem q_608 : Cond.methodLink RL 13 yX10_house ∈ zW := z_w 608 (by decide +kernel) (by decide +kernel)
theorem q_625 : Cond.methodLink RL 18 yX10_hut ∈ zW := z_w 625 (by decide +kernel) (by decide +kernel)
theorem q_634 : Cond.methodLink RL 22 yX10_near ∈ zW := z_w 634 (by decide +kernel) (by decide +kernel)
theorem q_641 : Cond.methodLink RL 26 yX10_far ∈ zW := z_w 641 (by decide +kernel) (by decide +kernel)
theorem q_653 : Cond.methodLink RL 31 yX10_town ∈ zW := z_w 653 (by decide +kernel) (by decide +kernel)
theorem q_666 : Cond.methodLink RL 35 yX10_burn ∈ zW := z_w 666 (by decide +kernel) (by decide +kernel)
theorem q_675 : Cond.methodLink RL 41 yX10_feed ∈ zW := z_w 675 (by decide +kernel) (by decide +kernel)
theorem q_679 : Cond.methodLink RL 46 yX10_text ∈ zW := z_w 679 (by decide +kernel) (by decide +kernel)
theorem q_680 : Cond.instanceMethod yX10_text ∈ zW := z_w 680 (by decide +kernel) (by decide +kernel)
theorem q_681 : Cond.selects RX10 yX10_text yX10_text ∈ zW := z_w 681 (by decide +kernel) (by decide +kernel)
theorem q_682 : Cond.code yX10_text cX10_text 3 (some .int) ∈ zW := z_w 682 (by decide +kernel) (by decide +kernel)
theorem q_683 : Cond.methodLink RL 51 yX10_force ∈ zW := z_w 683 (by decide +kernel) (by decide +kernel)
theorem q_695 : Cond.methodLink RL 55 yX10_shape ∈ zW := z_w 695 (by decide +kernel) (by decide +kernel)
theorem q_703 : Cond.methodLink RL 60 yX10_loaf ∈ zW := z_w 703 (by decide +kernel) (by decide +kernel)
theorem q_707 : Cond.methodLink RL 64 yX10_shapeTold ∈ zW := z_w 707 (by decide +kernel) (by decide +kernel)
theorem q_724 : Cond.methodLink RL 68 yX10_within ∈ zW := z_w 724 (by decide +kernel) (by decide +kernel)
theorem q_774 : Cond.methodLink RL 72 yX10_size ∈ zW := z_w 774 (by decide +kernel) (by decide +kernel)
theorem q_778 : Cond.methodLink RL 76 yX10_both ∈ zW := z_w 778 (by decide +kernel) (by decide +kernel)
theorem q_782 : Cond.methodLink RL 80 yX10_laid ∈ zW := z_w 782 (by decide +kernel) (by decide +kernel)
theorem q_786 : Cond.methodLink RL 84 yX10_ravine ∈ zW := z_w 786 (by decide +kernel) (by decide +kernel)
theorem q_794 : Cond.methodLink RL 89 yX10_steps ∈ zW := z_w 794 (by decide +kernel) (by decide +kernel)
theorem q_815 : Cond.methodLink RL 93 yX10_person ∈ zW := z_w 815 (by decide +kernel) (by decide +kernel)
theorem q_823 : Cond.methodLink RL 97 yX10_moves ∈ zW := z_w 823 (by decide +kernel) (by decide +kernel)
theorem q_831 : Cond.methodLink RL 101 yX10_personTold ∈ zW := z_w 831 (by decide +kernel) (by decide +kernel)
theorem q_839 : Cond.methodLink RL 105 yX10_well ∈ zW := z_w 839 (by decide +kernel) (by decide +kernel)
theorem q_843 : Cond.methodLink RL 109 yX10_may ∈ zW := z_w 843 (by decide +kernel) (by decide +kernel)
theorem q_852 : Cond.methodLink RL 113 yX10_wells ∈ zW := z_w 852 (by decide +kernel) (by decide +kernel)
theorem q_856 : Cond.methodLink RL 117 yX10_who ∈ zW := z_w 856 (by decide +kernel) (by decide +kernel)
theorem q_860 : Cond.methodLink RL 121 yX10_meet ∈ zW := z_w 860 (by decide +kernel) (by decide +kernel)
theorem q_868 : Cond.methodLink RL 125 yX10_shed ∈ zW := z_w 868 (by decide +kernel) (by decide +kernel)
theorem q_884 : Cond.methodLink RL 129 yX10_bridge ∈ zW := z_w 884 (by decide +kernel) (by decide +kernel)
theorem q_901 : Cond.methodLink RL 133 yX10_count ∈ zW := z_w 901 (by decide +kernel) (by decide +kernel)
theorem q_909 : Cond.methodLink RL 137 yX10_image ∈ zW := z_w 909 (by decide +kernel) (by decide +kernel)
theorem q_914 : Cond.methodLink RL 141 yX10_back ∈ zW := z_w 914 (by decide +kernel) (by decide +kernel)
theorem q_918 : Cond.methodLink RL 145 yX10_sheet ∈ zW := z_w 918 (by decide +kernel) (by decide +kernel)
theorem q_929 : Cond.methodLink RL 149 yX10_cell ∈ zW := z_w 929 (by decide +kernel) (by decide +kernel)
theorem q_945 : Cond.methodLink RL 153 yX10_copy ∈ zW := z_w 945 (by decide +kernel) (by decide +kernel)
theorem q_949 : Cond.methodLink RL 157 yX10_houses ∈ zW := z_w 949 (by decide +kernel) (by decide +kernel)
theorem q_954 : Cond.methodLink RL 162 yX10_taken ∈ zW := z_w 954 (by decide +kernel) (by decide +kernel)
theorem q_1174 : Cond.methodLink RL 17 yX11_house ∈ zW := z_w 1174 (by decide +kernel) (by decide +kernel)
theorem q_1184 : Cond.methodLink RL 21 yX11_hut ∈ zW := z_w 1184 (by decide +kernel) (by decide +kernel)
theorem q_1192 : Cond.methodLink RL 45 yX11_feed ∈ zW := z_w 1192 (by decide +kernel) (by decide +kernel)
theorem q_1197 : Cond.methodLink RL 50 yX11_text ∈ zW := z_w 1197 (by decide +kernel) (by decide +kernel)
theorem q_1241 : Cond.methodLink RL 54 yX11_force ∈ zW := z_w 1241 (by decide +kernel) (by decide +kernel)
theorem q_1245 : Cond.methodLink RL 25 yX11_near ∈ zW := z_w 1245 (by decide +kernel) (by decide +kernel)
theorem q_1270 : Cond.methodLink RL 30 yX11_far ∈ zW := z_w 1270 (by decide +kernel) (by decide +kernel)
theorem q_1278 : Cond.methodLink RL 34 yX11_town ∈ zW := z_w 1278 (by decide +kernel) (by decide +kernel)
theorem q_1294 : Cond.methodLink RL 38 yX11_burn ∈ zW := z_w 1294 (by decide +kernel) (by decide +kernel)
theorem q_1301 : Cond.methodLink RL 59 yX11_shape ∈ zW := z_w 1301 (by decide +kernel) (by decide +kernel)
theorem q_1305 : Cond.methodLink RL 63 yX11_loaf ∈ zW := z_w 1305 (by decide +kernel) (by decide +kernel)
theorem q_1309 : Cond.methodLink RL 67 yX11_shapeTold ∈ zW := z_w 1309 (by decide +kernel) (by decide +kernel)
theorem q_1325 : Cond.methodLink RL 71 yX11_within ∈ zW := z_w 1325 (by decide +kernel) (by decide +kernel)
theorem q_1349 : Cond.methodLink RL 75 yX11_size ∈ zW := z_w 1349 (by decide +kernel) (by decide +kernel)
theorem q_1357 : Cond.methodLink RL 79 yX11_both ∈ zW := z_w 1357 (by decide +kernel) (by decide +kernel)
theorem q_1365 : Cond.methodLink RL 83 yX11_laid ∈ zW := z_w 1365 (by decide +kernel) (by decide +kernel)
theorem q_1369 : Cond.methodLink RL 88 yX11_ravine ∈ zW := z_w 1369 (by decide +kernel) (by decide +kernel)
theorem q_1373 : Cond.methodLink RL 92 yX11_steps ∈ zW := z_w 1373 (by decide +kernel) (by decide +kernel)
theorem q_1390 : Cond.methodLink RL 96 yX11_person ∈ zW := z_w 1390 (by decide +kernel) (by decide +kernel)
theorem q_1394 : Cond.methodLink RL 100 yX11_moves ∈ zW := z_w 1394 (by decide +kernel) (by decide +kernel)
theorem q_1402 : Cond.methodLink RL 104 yX11_personTold ∈ zW := z_w 1402 (by decide +kernel) (by decide +kernel)
theorem q_1410 : Cond.methodLink RL 108 yX11_well ∈ zW := z_w 1410 (by decide +kernel) (by decide +kernel)
theorem q_1414 : Cond.methodLink RL 112 yX11_may ∈ zW := z_w 1414 (by decide +kernel) (by decide +kernel)
theorem q_1422 : Cond.methodLink RL 116 yX11_wells ∈ zW := z_w 1422 (by decide +kernel) (by decide +kernel)
theorem q_1426 : Cond.methodLink RL 120 yX11_who ∈ zW := z_w 1426 (by decide +kernel) (by decide +kernel)
theorem q_1430 : Cond.methodLink RL 124 yX11_meet ∈ zW := z_w 1430 (by decide +kernel) (by decide +kernel)
theorem q_1434 : Cond.methodLink RL 128 yX11_shed ∈ zW := z_w 1434 (by decide +kernel) (by decide +kernel)
theorem q_1442 : Cond.methodLink RL 132 yX11_bridge ∈ zW := z_w 1442 (by decide +kernel) (by decide +kernel)
theorem q_1446 : Cond.methodLink RL 136 yX11_count ∈ zW := z_w 1446 (by decide +kernel) (by decide +kernel)
theorem q_1450 : Cond.methodLink RL 140 yX11_image ∈ zW := z_w 1450 (by decide +kernel) (by decide +kernel)
theorem q_1454 : Cond.methodLink RL 144 yX11_back ∈ zW := z_w 1454 (by decide +kernel) (by decide +kernel)
theorem q_1458 : Cond.methodLink RL 148 yX11_sheet ∈ zW := z_w 1458 (by decide +kernel) (by decide +kernel)
theorem q_1462 : Cond.methodLink RL 152 yX11_cell ∈ zW := z_w 1462 (by decide +kernel) (by decide +kernel)
theorem q_1466 : Cond.methodLink RL 156 yX11_copy ∈ zW := z_w 1466 (by decide +kernel) (by decide +kernel)
theorem q_1470 : Cond.methodLink RL 161 yX11_houses ∈ zW := z_w 1470 (by decide +kernel) (by decide +kernel)
theorem q_1475 : Cond.methodLink RL 165 yX11_taken ∈ zW := z_w 1475 (by decide +kernel) (by decide +kernel)
theorem q_1482 : Cond.constantLong RL 39 (4294967295) ∈ zW := z_w 1482 (by decide +kernel) (by decide +kernel)
/-! the law's own rows -/
def zSc (F : zF) (b L : Nat) (xs : Nat → Int32) : Prop := match F with
  | (_, _, _, s, _, _, _, _, _, _, A) => va_X b L xs s s.heap ∧ b < s.heap.size ∧ ¬ A b
theorem zl_sld {l : Launch} {d : zD} {F : zF} {k n : Nat} {ws : va_W} {lv : List (Option Value)} {pc : Nat} {st : List Value} {own : String} {cc : ByteArray} {nL fr lo : Nat} {b L : Nat} {xs : Nat → Int32} {i : Int32} (hin : vp_in i L) (pc' : Nat) (C : zOk d F own cc nL fr lo) (B : zSc F b L xs) (hd : decode cc pc = .ok (.iaload, 1)) (hp : pc + 1 = pc') (K : V l d F k n ws lv pc' (.int (xs i.toNatClampNeg) :: st)) : V l d F k n ws lv pc (.int i :: .ref b :: st) := by
  subst hp
  obtain ⟨p, e, R, s, m, args, below, meth, c, Q, A⟩ := F
  intro H locs ls hP hD hS hl
  exact va_sld C.1 C.2.1 B.1 B.2.1 B.2.2 hS hin hd (K H locs ls hP hD hS hl)
theorem zl_slen {l : Launch} {d : zD} {F : zF} {k n : Nat} {ws : va_W} {lv : List (Option Value)} {pc : Nat} {st : List Value} {own : String} {cc : ByteArray} {nL fr lo : Nat} {b L : Nat} {xs : Nat → Int32} (pc' : Nat) (C : zOk d F own cc nL fr lo) (B : zSc F b L xs) (hd : decode cc pc = .ok (.arraylength, 1)) (hp : pc + 1 = pc') (K : V l d F k n ws lv pc' (.int (nI L) :: st)) : V l d F k n ws lv pc (.ref b :: st) := by
  subst hp
  obtain ⟨p, e, R, s, m, args, below, meth, c, Q, A⟩ := F
  intro H locs ls hP hD hS hl
  exact va_slen C.1 C.2.1 B.1 B.2.1 B.2.2 hS hd (K H locs ls hP hD hS hl)
theorem zl_cx {l : Launch} {d : zD} {F : zF} {h g : Nat → Nat} {σ σ' τ : zS} {lv : List (Option Value)} {pc : Nat} {own : String} {cc : ByteArray} {nL fr lo : Nat} {y : MethodName} {cy : ByteArray} {k n kc ns nY fY lY np idx : Nat} {ret : Option FieldType} {As rest st0 : List Value} {r : Option Value} (hy : zY y cy nY ret np) (hy2 : Cond.instanceMethod y ∈ zW ∧ Cond.selects RX10 y y ∈ zW) (M : zM l y cy nY ret fY lY d (.ref (h 0) :: As) (XW d h σ) (XW d h σ') r) (hAs : As.length = np) (hst : As.reverse ++ .ref (h 0) :: rest = st0) (pc' : Nat) (C : zOk d F own cc nL fr lo) (G : zRm F kc ns) (hk : k ≤ kc) (hn : n ≤ ns) (hd : decode cc pc = .ok (.invokevirtual idx, 3)) (hp : pc + 3 = pc') (hq : Cond.methodLink own idx y ∈ zW) (hm : fY + 1 ≤ fr ∧ 8 + (nY + 11) + lY ≤ lo) (hr : (rest.map fun v => v.category).sum ≤ 8) (K : V l d F k n (XW d h σ' ++ MW d g τ) lv pc' (r.toList ++ rest)) : V l d F k n (XW d h σ ++ MW d g τ) lv pc st0 := by
  refine zr_eq (ws' := [] ++ (XW d h σ ++ MW d g τ)) rfl ?_
  refine zr_callVa (kc := kc) (ns := ns) hy hy2 0 rfl rfl (zM_a M) hAs hst pc' C G hk hn hd hp hq hm hr (fun r' w' hw => ?_)
  obtain ⟨rfl, rfl⟩ := hw
  exact K
theorem zl_cxa {l : Launch} {d : zD} {F : zF} {h g : Nat → Nat} {σ τ : zS} {lv : List (Option Value)} {pc : Nat} {own : String} {cc : ByteArray} {nL fr lo : Nat} {y : MethodName} {cy : ByteArray} {k n kc ns mc ms nY fY lY np idx : Nat} {ret : Option FieldType} {As rest st0 : List Value} {out : Int32 × zS} (hy : zY y cy nY ret np) (hy2 : Cond.instanceMethod y ∈ zW ∧ Cond.selects RX10 y y ∈ zW) (M : zMa l y cy nY ret fY lY mc ms d (.ref (h 0) :: As) (XW d h σ) (fun r w => ∃ h', r = some (.int out.1) ∧ w = XW d h' out.2 ∧ ∀ i, i < 43 → h' i = h i)) (hAs : As.length = np) (hst : As.reverse ++ .ref (h 0) :: rest = st0) (pc' : Nat) (C : zOk d F own cc nL fr lo) (G : zRm F kc ns) (hk : k + mc ≤ kc) (hn : n + ms ≤ ns) (hd : decode cc pc = .ok (.invokevirtual idx, 3)) (hp : pc + 3 = pc') (hq : Cond.methodLink own idx y ∈ zW) (hm : fY + 1 ≤ fr ∧ 8 + (nY + 11) + lY ≤ lo) (hr : (rest.map fun v => v.category).sum ≤ 8) (K : ∀ h' : Nat → Nat, h' 0 = h 0 → V l d F (k + mc) (n + ms) (XW d h' out.2 ++ MW d g τ) lv pc' (.int out.1 :: rest)) : V l d F k n (XW d h σ ++ MW d g τ) lv pc st0 := by
  refine zr_eq (ws' := [] ++ (XW d h σ ++ MW d g τ)) rfl ?_
  refine zr_callVa (kc := kc) (ns := ns) hy hy2 0 rfl rfl M hAs hst pc' C G hk hn hd hp hq hm hr (fun r' w' hw => ?_)
  obtain ⟨h', rfl, rfl, hh⟩ := hw
  exact K h' (hh 0 (by omega))
theorem zl_cm {l : Launch} {d : zD} {F : zF} {h g : Nat → Nat} {σ τ τ' : zS} {lv : List (Option Value)} {pc : Nat} {own : String} {cc : ByteArray} {nL fr lo : Nat} {y : MethodName} {cy : ByteArray} {k n kc ns nY fY lY np idx : Nat} {ret : Option FieldType} {As rest st0 : List Value} {r : Option Value} (hy : zY y cy nY ret np) (hy2 : Cond.instanceMethod y ∈ zW ∧ Cond.selects RX11 y y ∈ zW) (M : zM l y cy nY ret fY lY d (.ref (g 0) :: As) (MW d g τ) (MW d g τ') r) (hAs : As.length = np) (hst : As.reverse ++ .ref (g 0) :: rest = st0) (pc' : Nat) (C : zOk d F own cc nL fr lo) (G : zRm F kc ns) (hk : k ≤ kc) (hn : n ≤ ns) (hd : decode cc pc = .ok (.invokevirtual idx, 3)) (hp : pc + 3 = pc') (hq : Cond.methodLink own idx y ∈ zW) (hm : fY + 1 ≤ fr ∧ 8 + (nY + 11) + lY ≤ lo) (hr : (rest.map fun v => v.category).sum ≤ 8) (K : V l d F k n (XW d h σ ++ MW d g τ') lv pc' (r.toList ++ rest)) : V l d F k n (XW d h σ ++ MW d g τ) lv pc st0 := by
  refine zr_eq (ws' := XW d h σ ++ (MW d g τ ++ [])) (by rw [List.append_nil]) ?_
  refine zr_callVa (kc := kc) (ns := ns) hy hy2 0 rfl rfl (zM_a M) hAs hst pc' C G hk hn hd hp hq hm hr (fun r' w' hw => ?_)
  obtain ⟨rfl, rfl⟩ := hw
  exact zr_eq (by rw [List.append_nil]) K
/-- an operation of both, with the same answer -/
def zSim {α : Type} (R : zS → zS → Prop) (fx fm : α → zS → Option (Int32 × zS)) : Prop := ∀ (a : α) (σ τ : zS), R σ τ → ∃ (r : Int32) (σ' τ' : zS), fx a σ = some (r, σ') ∧ fm a τ = some (r, τ') ∧ R σ' τ'
def zSims (R : zS → zS → Prop) : Prop :=
  @zSim (Int32 × Int32) R (fun a => f_X_house a.1 a.2) (fun a => f_M_house a.1 a.2) ∧
  @zSim (Int32 × Int32) R (fun a => f_X_hut a.1 a.2) (fun a => f_M_hut a.1 a.2) ∧
  @zSim (Int32 × Int32) R (fun a => f_X_near a.1 a.2) (fun a => f_M_near a.1 a.2) ∧
  @zSim (Int32) R (fun a => f_X_far a) (fun a => f_M_far a) ∧
  @zSim (Int32) R (fun a => f_X_town a) (fun a => f_M_town a) ∧
  @zSim (Int32) R (fun a => f_X_burn a) (fun a => f_M_burn a) ∧
  @zSim (Int64 × Int32) R (fun a => f_X_feed a.1 a.2) (fun a => f_M_feed a.1 a.2) ∧
  @zSim (Unit) R (fun a => f_X_text ) (fun a => f_M_text ) ∧
  @zSim (Int32) R (fun a => f_X_force a) (fun a => f_M_force a) ∧
  @zSim (Int32 × Int32 × Int32) R (fun a => f_X_shape a.1 a.2.1 a.2.2) (fun a => f_M_shape a.1 a.2.1 a.2.2) ∧
  @zSim (Int32) R (fun a => f_X_loaf a) (fun a => f_M_loaf a) ∧
  @zSim (Int32 × Int32) R (fun a => f_X_shapeTold a.1 a.2) (fun a => f_M_shapeTold a.1 a.2) ∧
  @zSim (Int32 × Int32) R (fun a => f_X_within a.1 a.2) (fun a => f_M_within a.1 a.2) ∧
  @zSim (Int32) R (fun a => f_X_size a) (fun a => f_M_size a) ∧
  @zSim (Int32 × Int32 × Int32) R (fun a => f_X_both a.1 a.2.1 a.2.2) (fun a => f_M_both a.1 a.2.1 a.2.2) ∧
  @zSim (Int32 × Int32) R (fun a => f_X_laid a.1 a.2) (fun a => f_M_laid a.1 a.2) ∧
  @zSim (Int32 × Int32 × Int32 × Int32 × Int32) R (fun a => f_X_ravine a.1 a.2.1 a.2.2.1 a.2.2.2.1 a.2.2.2.2) (fun a => f_M_ravine a.1 a.2.1 a.2.2.1 a.2.2.2.1 a.2.2.2.2) ∧
  @zSim (Int32 × Int32) R (fun a => f_X_steps a.1 a.2) (fun a => f_M_steps a.1 a.2) ∧
  @zSim (Int32 × Int32) R (fun a => f_X_person a.1 a.2) (fun a => f_M_person a.1 a.2) ∧
  @zSim (Int32 × Int32) R (fun a => f_X_moves a.1 a.2) (fun a => f_M_moves a.1 a.2) ∧
  @zSim (Int32 × Int32) R (fun a => f_X_personTold a.1 a.2) (fun a => f_M_personTold a.1 a.2) ∧
  @zSim (Int32) R (fun a => f_X_well a) (fun a => f_M_well a) ∧
  @zSim (Int32 × Int32 × Int32) R (fun a => f_X_may a.1 a.2.1 a.2.2) (fun a => f_M_may a.1 a.2.1 a.2.2) ∧
  @zSim (Int32 × Int32) R (fun a => f_X_wells a.1 a.2) (fun a => f_M_wells a.1 a.2) ∧
  @zSim (Int32 × Int32) R (fun a => f_X_who a.1 a.2) (fun a => f_M_who a.1 a.2) ∧
  @zSim (Int32 × Int32 × Int32) R (fun a => f_X_meet a.1 a.2.1 a.2.2) (fun a => f_M_meet a.1 a.2.1 a.2.2) ∧
  @zSim (Int32 × Int32) R (fun a => f_X_shed a.1 a.2) (fun a => f_M_shed a.1 a.2) ∧
  @zSim (Int32 × Int32 × Int32) R (fun a => f_X_bridge a.1 a.2.1 a.2.2) (fun a => f_M_bridge a.1 a.2.1 a.2.2) ∧
  @zSim (Int32) R (fun a => f_X_count a) (fun a => f_M_count a) ∧
  @zSim (Unit) R (fun a => f_X_image ) (fun a => f_M_image ) ∧
  @zSim (Unit) R (fun a => f_X_back ) (fun a => f_M_back ) ∧
  @zSim (Int32 × Int32 × Int32) R (fun a => f_X_sheet a.1 a.2.1 a.2.2) (fun a => f_M_sheet a.1 a.2.1 a.2.2) ∧
  @zSim (Int32 × Int32 × Int32) R (fun a => f_X_cell a.1 a.2.1 a.2.2) (fun a => f_M_cell a.1 a.2.1 a.2.2) ∧
  @zSim (Int32 × Int32 × Int32 × Int32 × Int32) R (fun a => f_X_copy a.1 a.2.1 a.2.2.1 a.2.2.2.1 a.2.2.2.2) (fun a => f_M_copy a.1 a.2.1 a.2.2.1 a.2.2.2.1 a.2.2.2.2) ∧
  @zSim (Int32 × Int32 × Int32 × Int32) R (fun a => f_X_houses a.1 a.2.1 a.2.2.1 a.2.2.2) (fun a => f_M_houses a.1 a.2.1 a.2.2.1 a.2.2.2) ∧
  @zSim (Int32 × Int32) R (fun a => f_X_taken a.1 a.2) (fun a => f_M_taken a.1 a.2)
theorem y_X_text : zY yX10_text cX10_text 3 (some .int) 0 := ⟨q_682, q_72, by decide +kernel, by decide +kernel, by decide +kernel⟩
