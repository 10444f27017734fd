/-! StepsBeyond.sheet(III)I -/
def f_X_sheet (p1 : Int32) (p2 : Int32) (p3 : Int32) (σ : zS) : Option (Int32 × zS) :=
  zbd (f_X_isSheet p1 σ) fun r2 σ1 =>
  (if r2 = 0 then
  some (-2, σ1)
  else
  zbd (f_X_isFrom p2 (-1) 2 σ1) fun r4 σ3 =>
  (if r4 = 0 then
  some (-2, σ3)
  else
  (if p2 = (-1) then
  zbd (f_St_renew p1 (-1) 0 σ3) fun _ σ6 =>
  some (1, σ6)
  else
  (if p3 ≤ 40 then
  (if 0 ≤ p3 then
  zbd (f_St_renew p1 p2 p3 σ3) fun _ σ5 =>
  some (1, σ5)
  else
  some (-14, σ3))
  else
  some (-2, σ3)))))
set_option maxRecDepth 4000 in
theorem m_X_sheet {l : Launch} {d : zD} {h : Nat → Nat} {out : Int32 × zS} {σ : zS} {ad av : Nat → Nat} {p1 : Int32} {p2 : Int32} {p3 : Int32} (E : zXe d ad av) (hf : f_X_sheet p1 p2 p3 σ = some out) : zM l yX10_sheet cX10_sheet 4 (some .int) 2 46 d [.ref (h 0), .int p1, .int p2, .int p3] (XW d h σ) (XW d h out.2) (some (.int out.1)) := by
  refine zM_of [some (.ref (h 0)), some (.int p1), some (.int p2), some (.int p3)] (by decide +kernel) rfl (Nat.le_of_ble_eq_true rfl) (fun F C T => ?_)
  unfold f_X_sheet at hf
  refine zr_iload_n 1 1 C (by decide +kernel) rfl rfl ?_
  refine k_X_isSheet (idx := 276) 4 C E (by decide +kernel) rfl q_922 (zb2 rfl rfl) (Nat.le_of_ble_eq_true rfl) hf (fun r2 σ1 hf => ?_)
  refine zr_if_eq (off := 12) 16 7 C (by decide +kernel) (by decide) rfl hf (fun hf => ?_) (fun hf => ?_)
  · refine zr_bipush (v := (-2)) (-2) 18 C (by decide +kernel) rfl rfl ?_
    obtain rfl := Option.some.inj hf
    exact zr_iret C (by decide +kernel) T
  · refine zr_iload_n 2 8 C (by decide +kernel) rfl rfl ?_
    refine zr_iconst (v := (-1)) (-1) 9 C (by decide +kernel) rfl rfl ?_
    refine zr_iconst (v := 2) 2 10 C (by decide +kernel) rfl rfl ?_
    refine k_X_isFrom (idx := 159) 13 C E (by decide +kernel) rfl q_615 (zb2 rfl rfl) (Nat.le_of_ble_eq_true rfl) hf (fun r4 σ3 hf => ?_)
    refine zr_if_ne (off := 6) 19 16 C (by decide +kernel) (by decide) rfl hf (fun hf => ?_) (fun hf => ?_)
    · refine zr_iload_n 2 20 C (by decide +kernel) rfl rfl ?_
      refine zr_iconst (v := (-1)) (-1) 21 C (by decide +kernel) rfl rfl ?_
      refine zr_icmp_ne (off := 15) 36 24 C (by decide +kernel) (by decide) rfl hf (fun hf => ?_) (fun hf => ?_)
      · refine zr_iload_n 3 37 C (by decide +kernel) rfl rfl ?_
        refine zr_bipush (v := 40) 40 39 C (by decide +kernel) rfl rfl ?_
        refine zr_icmp_le (off := 6) 45 42 C (by decide +kernel) (by decide) rfl hf (fun hf => ?_) (fun hf => ?_)
        · refine zr_iload_n 3 46 C (by decide +kernel) rfl rfl ?_
          refine zr_if_ge (off := 6) 52 49 C (by decide +kernel) (by decide) rfl hf (fun hf => ?_) (fun hf => ?_)
          · refine zr_aload_n 0 53 C (by decide +kernel) rfl rfl ?_
            refine xg_0_7 (idx := 61) 56 C (by decide +kernel) rfl q_565 ?_
            refine zr_iload_n 1 57 C (by decide +kernel) rfl rfl ?_
            refine zr_iload_n 2 58 C (by decide +kernel) rfl rfl ?_
            refine zr_iload_n 3 59 C (by decide +kernel) rfl rfl ?_
            refine k_St_renew (idx := 279) 62 C E (by decide +kernel) rfl q_925 (zb2 rfl rfl) (Nat.le_of_ble_eq_true rfl) hf (fun _ σ5 hf => ?_)
            refine zr_iconst (v := 1) 1 63 C (by decide +kernel) rfl rfl ?_
            obtain rfl := Option.some.inj hf
            exact zr_iret C (by decide +kernel) T
          · refine zr_bipush (v := (-14)) (-14) 51 C (by decide +kernel) rfl rfl ?_
            obtain rfl := Option.some.inj hf
            exact zr_iret C (by decide +kernel) T
        · refine zr_bipush (v := (-2)) (-2) 44 C (by decide +kernel) rfl rfl ?_
          obtain rfl := Option.some.inj hf
          exact zr_iret C (by decide +kernel) T
      · refine zr_aload_n 0 25 C (by decide +kernel) rfl rfl ?_
        refine xg_0_7 (idx := 61) 28 C (by decide +kernel) rfl q_565 ?_
        refine zr_iload_n 1 29 C (by decide +kernel) rfl rfl ?_
        refine zr_iconst (v := (-1)) (-1) 30 C (by decide +kernel) rfl rfl ?_
        refine zr_iconst (v := 0) 0 31 C (by decide +kernel) rfl rfl ?_
        refine k_St_renew (idx := 279) 34 C E (by decide +kernel) rfl q_925 (zb2 rfl rfl) (Nat.le_of_ble_eq_true rfl) hf (fun _ σ6 hf => ?_)
        refine zr_iconst (v := 1) 1 35 C (by decide +kernel) rfl rfl ?_
        obtain rfl := Option.some.inj hf
        exact zr_iret C (by decide +kernel) T
    · refine zr_bipush (v := (-2)) (-2) 18 C (by decide +kernel) rfl rfl ?_
      obtain rfl := Option.some.inj hf
      exact zr_iret C (by decide +kernel) T
theorem y_X_sheet : zY yX10_sheet cX10_sheet 4 (some .int) 3 := ⟨q_921, q_72, by decide +kernel, by decide +kernel, by decide +kernel⟩
theorem k_X_sheet {l : Launch} {d : zD} {F : zF} {h : Nat → Nat} {σ : zS} {lv : List (Option Value)} {pc : Nat} {own : String} {cc : ByteArray} {nL fr lo idx : Nat} {rest : List Value} {β : Type} {kf : Int32 → zS → Option β} {o2 : β} {ad av : Nat → Nat}  {p1 : Int32} {p2 : Int32} {p3 : Int32} (pc' : Nat) (C : zOk d F own cc nL fr lo) (E : zXe d ad av) (hd : decode cc pc = .ok (.invokevirtual idx, 3)) (hp : pc + 3 = pc') (hq : Cond.methodLink own idx yX10_sheet ∈ zW) (hm : 2 + 1 ≤ fr ∧ 8 + (4 + 11) + 46 ≤ lo) (hr : (rest.map fun v => v.category).sum ≤ 8) (hf : zbd (f_X_sheet p1 p2 p3 σ) kf = some o2) (K : ∀ (r : Int32) (σ' : zS), kf r σ' = some o2 → V l d F 0 0 (XW d h σ') lv pc' (.int r :: rest)) : V l d F 0 0 (XW d h σ) lv pc (.int p3 :: .int p2 :: .int p1 :: .ref (h 0) :: rest) := by
  obtain ⟨q, h1, h2⟩ := zbd_some hf
  exact zr_callV y_X_sheet ⟨q_919, q_920⟩ 0 rfl rfl (As := [.int p1, .int p2, .int p3]) (m_X_sheet E h1) rfl rfl pc' C hd hp hq hm hr (K _ _ h2)
/-! StepsBeyond.cell(III)I -/
def f_X_cell (p1 : Int32) (p2 : Int32) (p3 : Int32) (σ : zS) : Option (Int32 × zS) :=
  zbd (f_X_isSheet p1 σ) fun r2 σ1 =>
  (if r2 = 0 then
  some (-2, σ1)
  else
  zbd (f_St_isMissing p1 σ1) fun r4 σ3 =>
  (if r4 = 0 then
  zbd (f_St_hasRun p1 p2 1 σ3) fun r6 σ5 =>
  (if r6 = 0 then
  some (-12, σ5)
  else
  zbd (f_St_put p1 p2 p3 σ5) fun _ σ7 =>
  some (1, σ7))
  else
  some (-11, σ3)))
set_option maxRecDepth 4000 in
theorem m_X_cell {l : Launch} {d : zD} {h : Nat → Nat} {out : Int32 × zS} {σ : zS} {ad av : Nat → Nat} {p1 : Int32} {p2 : Int32} {p3 : Int32} (E : zXe d ad av) (hf : f_X_cell p1 p2 p3 σ = some out) : zM l yX10_cell cX10_cell 4 (some .int) 2 42 d [.ref (h 0), .int p1, .int p2, .int p3] (XW d h σ) (XW d h out.2) (some (.int out.1)) := by
  refine zM_of [some (.ref (h 0)), some (.int p1), some (.int p2), some (.int p3)] (by decide +kernel) rfl (Nat.le_of_ble_eq_true rfl) (fun F C T => ?_)
  unfold f_X_cell at hf
  refine zr_iload_n 1 1 C (by decide +kernel) rfl rfl ?_
  refine k_X_isSheet (idx := 276) 4 C E (by decide +kernel) rfl q_922 (zb2 rfl rfl) (Nat.le_of_ble_eq_true rfl) hf (fun r2 σ1 hf => ?_)
  refine zr_if_ne (off := 6) 10 7 C (by decide +kernel) (by decide) rfl hf (fun hf => ?_) (fun hf => ?_)
  · refine zr_aload_n 0 11 C (by decide +kernel) rfl rfl ?_
    refine xg_0_7 (idx := 61) 14 C (by decide +kernel) rfl q_565 ?_
    refine zr_iload_n 1 15 C (by decide +kernel) rfl rfl ?_
    refine k_St_isMissing (idx := 283) 18 C E (by decide +kernel) rfl q_933 (zb2 rfl rfl) (Nat.le_of_ble_eq_true rfl) hf (fun r4 σ3 hf => ?_)
    refine zr_if_eq (off := 6) 24 21 C (by decide +kernel) (by decide) rfl hf (fun hf => ?_) (fun hf => ?_)
    · refine zr_aload_n 0 25 C (by decide +kernel) rfl rfl ?_
      refine xg_0_7 (idx := 61) 28 C (by decide +kernel) rfl q_565 ?_
      refine zr_iload_n 1 29 C (by decide +kernel) rfl rfl ?_
      refine zr_iload_n 2 30 C (by decide +kernel) rfl rfl ?_
      refine zr_iconst (v := 1) 1 31 C (by decide +kernel) rfl rfl ?_
      refine k_St_hasRun (idx := 286) 34 C E (by decide +kernel) rfl q_937 (zb2 rfl rfl) (Nat.le_of_ble_eq_true rfl) hf (fun r6 σ5 hf => ?_)
      refine zr_if_ne (off := 6) 40 37 C (by decide +kernel) (by decide) rfl hf (fun hf => ?_) (fun hf => ?_)
      · refine zr_aload_n 0 41 C (by decide +kernel) rfl rfl ?_
        refine xg_0_7 (idx := 61) 44 C (by decide +kernel) rfl q_565 ?_
        refine zr_iload_n 1 45 C (by decide +kernel) rfl rfl ?_
        refine zr_iload_n 2 46 C (by decide +kernel) rfl rfl ?_
        refine zr_iload_n 3 47 C (by decide +kernel) rfl rfl ?_
        refine k_St_put (idx := 289) 50 C E (by decide +kernel) rfl q_941 (zb2 rfl rfl) (Nat.le_of_ble_eq_true rfl) hf (fun _ σ7 hf => ?_)
        refine zr_iconst (v := 1) 1 51 C (by decide +kernel) rfl rfl ?_
        obtain rfl := Option.some.inj hf
        exact zr_iret C (by decide +kernel) T
      · refine zr_bipush (v := (-12)) (-12) 39 C (by decide +kernel) rfl rfl ?_
        obtain rfl := Option.some.inj hf
        exact zr_iret C (by decide +kernel) T
    · refine zr_bipush (v := (-11)) (-11) 23 C (by decide +kernel) rfl rfl ?_
      obtain rfl := Option.some.inj hf
      exact zr_iret C (by decide +kernel) T
  · refine zr_bipush (v := (-2)) (-2) 9 C (by decide +kernel) rfl rfl ?_
    obtain rfl := Option.some.inj hf
    exact zr_iret C (by decide +kernel) T
theorem y_X_cell : zY yX10_cell cX10_cell 4 (some .int) 3 := ⟨q_932, q_72, by decide +kernel, by decide +kernel, by decide +kernel⟩
theorem k_X_cell {l : Launch} {d : zD} {F : zF} {h : Nat → Nat} {σ : zS} {lv : List (Option Value)} {pc : Nat} {own : String} {cc : ByteArray} {nL fr lo idx : Nat} {rest : List Value} {β : Type} {kf : Int32 → zS → Option β} {o2 : β} {ad av : Nat → Nat}  {p1 : Int32} {p2 : Int32} {p3 : Int32} (pc' : Nat) (C : zOk d F own cc nL fr lo) (E : zXe d ad av) (hd : decode cc pc = .ok (.invokevirtual idx, 3)) (hp : pc + 3 = pc') (hq : Cond.methodLink own idx yX10_cell ∈ zW) (hm : 2 + 1 ≤ fr ∧ 8 + (4 + 11) + 42 ≤ lo) (hr : (rest.map fun v => v.category).sum ≤ 8) (hf : zbd (f_X_cell p1 p2 p3 σ) kf = some o2) (K : ∀ (r : Int32) (σ' : zS), kf r σ' = some o2 → V l d F 0 0 (XW d h σ') lv pc' (.int r :: rest)) : V l d F 0 0 (XW d h σ) lv pc (.int p3 :: .int p2 :: .int p1 :: .ref (h 0) :: rest) := by
  obtain ⟨q, h1, h2⟩ := zbd_some hf
  exact zr_callV y_X_cell ⟨q_930, q_931⟩ 0 rfl rfl (As := [.int p1, .int p2, .int p3]) (m_X_cell E h1) rfl rfl pc' C hd hp hq hm hr (K _ _ h2)
/-! StepsBeyond.copy(IIIII)I -/
def f_X_copy (p1 : Int32) (p2 : Int32) (p3 : Int32) (p4 : Int32) (p5 : Int32) (σ : zS) : Option (Int32 × zS) :=
  zbd (f_X_isSheet p1 σ) fun r2 σ1 =>
  (if r2 = 0 then
  some (-2, σ1)
  else
  zbd (f_X_isSheet p3 σ1) fun r4 σ3 =>
  (if r4 = 0 then
  some (-2, σ3)
  else
  zbd (f_St_isMissing p1 σ3) fun r6 σ5 =>
  (if r6 = 0 then
  zbd (f_St_isMissing p3 σ5) fun r8 σ7 =>
  (if r8 = 0 then
  zin p1 4 (zin p3 4 ((if (σ7.2 30 p1.toNatClampNeg) = (σ7.2 30 p3.toNatClampNeg) then
  zbd (f_St_hasRun p1 p2 p5 σ7) fun r10 σ9 =>
  (if r10 = 0 then
  some (-12, σ9)
  else
  zbd (f_St_hasRun p3 p4 p5 σ9) fun r12 σ11 =>
  (if r12 = 0 then
  some (-12, σ11)
  else
  zin p1 4 (zin p3 4 (zrw (37 + p1.toNatClampNeg) (zrw (37 + p3.toNatClampNeg) (zcp p2 p4 p5 40 40 (zlt (zsc σ11 (37 + p1.toNatClampNeg) (37 + p3.toNatClampNeg) p2 p4 p5) fun σ13 =>
  some (p5, σ13))))))))
  else
  some (-13, σ7))))
  else
  some (-11, σ7))
  else
  some (-11, σ5))))
set_option maxRecDepth 4000 in
theorem m_X_copy {l : Launch} {d : zD} {h : Nat → Nat} {out : Int32 × zS} {σ : zS} {ad av : Nat → Nat} {p1 : Int32} {p2 : Int32} {p3 : Int32} {p4 : Int32} {p5 : Int32} (E : zXe d ad av) (hf : f_X_copy p1 p2 p3 p4 p5 σ = some out) : zM l yX10_copy cX10_copy 6 (some .int) 2 60 d [.ref (h 0), .int p1, .int p2, .int p3, .int p4, .int p5] (XW d h σ) (XW d h out.2) (some (.int out.1)) := by
  refine zM_of [some (.ref (h 0)), some (.int p1), some (.int p2), some (.int p3), some (.int p4), some (.int p5)] (by decide +kernel) rfl (Nat.le_of_ble_eq_true rfl) (fun F C T => ?_)
  unfold f_X_copy at hf
  refine zr_iload_n 1 1 C (by decide +kernel) rfl rfl ?_
  refine k_X_isSheet (idx := 276) 4 C E (by decide +kernel) rfl q_922 (zb2 rfl rfl) (Nat.le_of_ble_eq_true rfl) hf (fun r2 σ1 hf => ?_)
  refine zr_if_eq (off := 10) 14 7 C (by decide +kernel) (by decide) rfl hf (fun hf => ?_) (fun hf => ?_)
  · refine zr_bipush (v := (-2)) (-2) 16 C (by decide +kernel) rfl rfl ?_
    obtain rfl := Option.some.inj hf
    exact zr_iret C (by decide +kernel) T
  · refine zr_iload_n 3 8 C (by decide +kernel) rfl rfl ?_
    refine k_X_isSheet (idx := 276) 11 C E (by decide +kernel) rfl q_922 (zb2 rfl rfl) (Nat.le_of_ble_eq_true rfl) hf (fun r4 σ3 hf => ?_)
    refine zr_if_ne (off := 6) 17 14 C (by decide +kernel) (by decide) rfl hf (fun hf => ?_) (fun hf => ?_)
    · refine zr_aload_n 0 18 C (by decide +kernel) rfl rfl ?_
      refine xg_0_7 (idx := 61) 21 C (by decide +kernel) rfl q_565 ?_
      refine zr_iload_n 1 22 C (by decide +kernel) rfl rfl ?_
      refine k_St_isMissing (idx := 283) 25 C E (by decide +kernel) rfl q_933 (zb2 rfl rfl) (Nat.le_of_ble_eq_true rfl) hf (fun r6 σ5 hf => ?_)
      refine zr_if_ne (off := 14) 39 28 C (by decide +kernel) (by decide) rfl hf (fun hf => ?_) (fun hf => ?_)
      · refine zr_bipush (v := (-11)) (-11) 41 C (by decide +kernel) rfl rfl ?_
        obtain rfl := Option.some.inj hf
        exact zr_iret C (by decide +kernel) T
      · refine zr_aload_n 0 29 C (by decide +kernel) rfl rfl ?_
        refine xg_0_7 (idx := 61) 32 C (by decide +kernel) rfl q_565 ?_
        refine zr_iload_n 3 33 C (by decide +kernel) rfl rfl ?_
        refine k_St_isMissing (idx := 283) 36 C E (by decide +kernel) rfl q_933 (zb2 rfl rfl) (Nat.le_of_ble_eq_true rfl) hf (fun r8 σ7 hf => ?_)
        refine zr_if_eq (off := 6) 42 39 C (by decide +kernel) (by decide) rfl hf (fun hf => ?_) (fun hf => ?_)
        · refine zr_aload_n 0 43 C (by decide +kernel) rfl rfl ?_
          refine xg_0_7 (idx := 61) 46 C (by decide +kernel) rfl q_565 ?_
          refine xg_8_1 (idx := 292) 49 C (by decide +kernel) rfl q_314 ?_
          refine zr_iload_n 1 50 C (by decide +kernel) rfl rfl ?_
          refine xl_30 51 C (by decide +kernel) rfl hf (fun hf => ?_)
          refine zr_aload_n 0 52 C (by decide +kernel) rfl rfl ?_
          refine xg_0_7 (idx := 61) 55 C (by decide +kernel) rfl q_565 ?_
          refine xg_8_1 (idx := 292) 58 C (by decide +kernel) rfl q_314 ?_
          refine zr_iload_n 3 59 C (by decide +kernel) rfl rfl ?_
          refine xl_30 60 C (by decide +kernel) rfl hf (fun hf => ?_)
          refine zr_icmp_eq (off := 6) 66 63 C (by decide +kernel) (by decide) rfl hf (fun hf => ?_) (fun hf => ?_)
          · refine zr_aload_n 0 67 C (by decide +kernel) rfl rfl ?_
            refine xg_0_7 (idx := 61) 70 C (by decide +kernel) rfl q_565 ?_
            refine zr_iload_n 1 71 C (by decide +kernel) rfl rfl ?_
            refine zr_iload_n 2 72 C (by decide +kernel) rfl rfl ?_
            refine zr_iload 5 74 C (by decide +kernel) rfl rfl ?_
            refine k_St_hasRun (idx := 286) 77 C E (by decide +kernel) rfl q_937 (zb2 rfl rfl) (Nat.le_of_ble_eq_true rfl) hf (fun r10 σ9 hf => ?_)
            refine zr_if_eq (off := 18) 95 80 C (by decide +kernel) (by decide) rfl hf (fun hf => ?_) (fun hf => ?_)
            · refine zr_bipush (v := (-12)) (-12) 97 C (by decide +kernel) rfl rfl ?_
              obtain rfl := Option.some.inj hf
              exact zr_iret C (by decide +kernel) T
            · refine zr_aload_n 0 81 C (by decide +kernel) rfl rfl ?_
              refine xg_0_7 (idx := 61) 84 C (by decide +kernel) rfl q_565 ?_
              refine zr_iload_n 3 85 C (by decide +kernel) rfl rfl ?_
              refine zr_iload 4 87 C (by decide +kernel) rfl rfl ?_
              refine zr_iload 5 89 C (by decide +kernel) rfl rfl ?_
              refine k_St_hasRun (idx := 286) 92 C E (by decide +kernel) rfl q_937 (zb2 rfl rfl) (Nat.le_of_ble_eq_true rfl) hf (fun r12 σ11 hf => ?_)
              refine zr_if_ne (off := 6) 98 95 C (by decide +kernel) (by decide) rfl hf (fun hf => ?_) (fun hf => ?_)
              · refine zr_aload_n 0 99 C (by decide +kernel) rfl rfl ?_
                refine xg_0_7 (idx := 61) 102 C (by decide +kernel) rfl q_565 ?_
                refine xg_8_0 (idx := 295) 105 C (by decide +kernel) rfl q_312 ?_
                refine zr_iload_n 1 106 C (by decide +kernel) rfl rfl ?_
                refine xa_36 107 C (by decide +kernel) rfl hf (fun hf => ?_)
                refine zr_iload_n 2 108 C (by decide +kernel) rfl rfl ?_
                refine zr_aload_n 0 109 C (by decide +kernel) rfl rfl ?_
                refine xg_0_7 (idx := 61) 112 C (by decide +kernel) rfl q_565 ?_
                refine xg_8_0 (idx := 295) 115 C (by decide +kernel) rfl q_312 ?_
                refine zr_iload_n 3 116 C (by decide +kernel) rfl rfl ?_
                refine xa_36 117 C (by decide +kernel) rfl hf (fun hf => ?_)
                refine zr_iload 4 119 C (by decide +kernel) rfl rfl ?_
                refine zr_iload 5 121 C (by decide +kernel) rfl rfl ?_
                refine xc_rows (idx := 269) 124 C (by decide +kernel) rfl q_913 (zb2 rfl rfl) (Nat.le_of_ble_eq_true rfl) hf (fun σ13 hf => ?_)
                refine zr_iload 5 126 C (by decide +kernel) rfl rfl ?_
                obtain rfl := Option.some.inj hf
                exact zr_iret C (by decide +kernel) T
              · refine zr_bipush (v := (-12)) (-12) 97 C (by decide +kernel) rfl rfl ?_
                obtain rfl := Option.some.inj hf
                exact zr_iret C (by decide +kernel) T
          · refine zr_bipush (v := (-13)) (-13) 65 C (by decide +kernel) rfl rfl ?_
            obtain rfl := Option.some.inj hf
            exact zr_iret C (by decide +kernel) T
        · refine zr_bipush (v := (-11)) (-11) 41 C (by decide +kernel) rfl rfl ?_
          obtain rfl := Option.some.inj hf
          exact zr_iret C (by decide +kernel) T
    · refine zr_bipush (v := (-2)) (-2) 16 C (by decide +kernel) rfl rfl ?_
      obtain rfl := Option.some.inj hf
      exact zr_iret C (by decide +kernel) T
theorem y_X_copy : zY yX10_copy cX10_copy 6 (some .int) 5 := ⟨q_948, q_72, by decide +kernel, by decide +kernel, by decide +kernel⟩
theorem k_X_copy {l : Launch} {d : zD} {F : zF} {h : Nat → Nat} {σ : zS} {lv : List (Option Value)} {pc : Nat} {own : String} {cc : ByteArray} {nL fr lo idx : Nat} {rest : List Value} {β : Type} {kf : Int32 → zS → Option β} {o2 : β} {ad av : Nat → Nat}  {p1 : Int32} {p2 : Int32} {p3 : Int32} {p4 : Int32} {p5 : Int32} (pc' : Nat) (C : zOk d F own cc nL fr lo) (E : zXe d ad av) (hd : decode cc pc = .ok (.invokevirtual idx, 3)) (hp : pc + 3 = pc') (hq : Cond.methodLink own idx yX10_copy ∈ zW) (hm : 2 + 1 ≤ fr ∧ 8 + (6 + 11) + 60 ≤ lo) (hr : (rest.map fun v => v.category).sum ≤ 8) (hf : zbd (f_X_copy p1 p2 p3 p4 p5 σ) kf = some o2) (K : ∀ (r : Int32) (σ' : zS), kf r σ' = some o2 → V l d F 0 0 (XW d h σ') lv pc' (.int r :: rest)) : V l d F 0 0 (XW d h σ) lv pc (.int p5 :: .int p4 :: .int p3 :: .int p2 :: .int p1 :: .ref (h 0) :: rest) := by
  obtain ⟨q, h1, h2⟩ := zbd_some hf
  exact zr_callV y_X_copy ⟨q_946, q_947⟩ 0 rfl rfl (As := [.int p1, .int p2, .int p3, .int p4, .int p5]) (m_X_copy E h1) rfl rfl pc' C hd hp hq hm hr (K _ _ h2)
/-! StepsBeyond.houses(IIII)I -/
def f_X_houses_134 (k66 : Int32 → Int32 → Int32 → Int32 → Int32 → zS → Option (Int32 × zS)) (x1 : Int32) (x3 : Int32) (x4 : Int32) (x5 : Int32) (x6 : Int32) (σ : zS) : Option (Int32 × zS) :=
  k66 x1 x3 x4 x5 (x6 + 1) σ
set_option maxRecDepth 4000 in
theorem w_X_houses_134 {l : Launch} {d : zD} {F : zF} {h : Nat → Nat} {out : Int32 × zS} {ad av : Nat → Nat}  {k66 : Int32 → Int32 → Int32 → Int32 → Int32 → zS → Option (Int32 × zS)} (C : zOk d F RX10 cX10_houses 8 6 137) (T : zRt d F (some .int) (some (.int out.1)) (XW d h out.2)) (E : zXe d ad av) (H66 : ∀ (x1 : Int32) (x3 : Int32) (x4 : Int32) (x5 : Int32) (x6 : Int32) (σ : zS), k66 x1 x3 x4 x5 x6 σ = some out → V l d F 0 0 (XW d h σ) [some (.ref (h 0)), some (.int x1), none, some (.int x3), some (.int x4), some (.int x5), some (.int x6), none] 66 []) (x1 : Int32) (x3 : Int32) (x4 : Int32) (x5 : Int32) (x6 : Int32) (σ : zS) (hf : f_X_houses_134 k66 x1 x3 x4 x5 x6 σ = some out) : V l d F 0 0 (XW d h σ) [some (.ref (h 0)), some (.int x1), none, some (.int x3), some (.int x4), some (.int x5), some (.int x6), none] 134 [] := by
  unfold f_X_houses_134 at hf
  refine zr_iinc (j := 1) 6 [some (.ref (h 0)), some (.int x1), none, some (.int x3), some (.int x4), some (.int x5), some (.int (x6 + 1)), none] 137 C (by decide +kernel) rfl rfl rfl (by decide) rfl rfl ?_
  refine zr_goto (off := -71) 66 C (by decide +kernel) (by decide) ?_
  exact H66 _ _ _ _ _ _ hf
def f_X_houses_66b (k66 : Int32 → Int32 → Int32 → Int32 → Int32 → zS → Option (Int32 × zS)) (x1 : Int32) (x3 : Int32) (x4 : Int32) (x5 : Int32) (x6 : Int32) (σ : zS) : Option (Int32 × zS) :=
  (if x4 ≤ x6 then
  some (x5, σ)
  else
  zlt (x3 + (2 * x6)) fun v1 => 
  zbd (f_St_hasRun x1 v1 2 σ) fun r3 σ2 =>
  (if r3 = 0 then
  some (-12, σ2)
  else
  zin x1 4 (zrw (37 + x1.toNatClampNeg) (zin v1 40 (zin x1 4 (zrw (37 + x1.toNatClampNeg) (zin (v1 + 1) 40 (zbd (f_X_house (σ2.2 (37 + x1.toNatClampNeg) v1.toNatClampNeg) (σ2.2 (37 + x1.toNatClampNeg) (v1 + 1).toNatClampNeg) σ2) fun r5 σ4 =>
  (if r5 < 0 then
  f_X_houses_134 k66 x1 x3 x4 x5 x6 σ4
  else
  f_X_houses_134 k66 x1 x3 x4 (x5 + 1) x6 σ4)))))))))
set_option maxRecDepth 4000 in
theorem w_X_houses_66b {l : Launch} {d : zD} {F : zF} {h : Nat → Nat} {out : Int32 × zS} {ad av : Nat → Nat}  {k66 : Int32 → Int32 → Int32 → Int32 → Int32 → zS → Option (Int32 × zS)} (C : zOk d F RX10 cX10_houses 8 6 137) (T : zRt d F (some .int) (some (.int out.1)) (XW d h out.2)) (E : zXe d ad av) (H66 : ∀ (x1 : Int32) (x3 : Int32) (x4 : Int32) (x5 : Int32) (x6 : Int32) (σ : zS), k66 x1 x3 x4 x5 x6 σ = some out → V l d F 0 0 (XW d h σ) [some (.ref (h 0)), some (.int x1), none, some (.int x3), some (.int x4), some (.int x5), some (.int x6), none] 66 []) (x1 : Int32) (x3 : Int32) (x4 : Int32) (x5 : Int32) (x6 : Int32) (σ : zS) (hf : f_X_houses_66b k66 x1 x3 x4 x5 x6 σ = some out) : V l d F 0 0 (XW d h σ) [some (.ref (h 0)), some (.int x1), none, some (.int x3), some (.int x4), some (.int x5), some (.int x6), none] 66 [] := by
  unfold f_X_houses_66b at hf
  refine zr_iload 6 68 C (by decide +kernel) rfl rfl ?_
  refine zr_iload 4 70 C (by decide +kernel) rfl rfl ?_
  refine zr_icmp_ge (off := 70) 140 73 C (by decide +kernel) (by decide) rfl hf (fun hf => ?_) (fun hf => ?_)
  · refine zr_iload 5 142 C (by decide +kernel) rfl rfl ?_
    obtain rfl := Option.some.inj hf
    exact zr_iret C (by decide +kernel) T
  · refine zr_iload_n 3 74 C (by decide +kernel) rfl rfl ?_
    refine zr_iconst (v := 2) 2 75 C (by decide +kernel) rfl rfl ?_
    refine zr_iload 6 77 C (by decide +kernel) rfl rfl ?_
    refine zr_imul 78 C (by decide +kernel) rfl ?_
    refine zr_iadd 79 C (by decide +kernel) rfl ?_
    refine zr_name hf (fun v1 hf => ?_)
    refine zr_istore 7 [some (.ref (h 0)), some (.int x1), none, some (.int x3), some (.int x4), some (.int x5), some (.int x6), some (.int v1)] 81 C (by decide +kernel) rfl (by decide) rfl rfl ?_
    refine zr_aload_n 0 82 C (by decide +kernel) rfl rfl ?_
    refine xg_0_7 (idx := 61) 85 C (by decide +kernel) rfl q_565 ?_
    refine zr_iload_n 1 86 C (by decide +kernel) rfl rfl ?_
    refine zr_iload 7 88 C (by decide +kernel) rfl rfl ?_
    refine zr_iconst (v := 2) 2 89 C (by decide +kernel) rfl rfl ?_
    refine k_St_hasRun (idx := 286) 92 C E (by decide +kernel) rfl q_937 (zb2 rfl rfl) (Nat.le_of_ble_eq_true rfl) hf (fun r3 σ2 hf => ?_)
    refine zr_if_ne (off := 6) 98 95 C (by decide +kernel) (by decide) rfl hf (fun hf => ?_) (fun hf => ?_)
    · refine zr_aload_n 0 99 C (by decide +kernel) rfl rfl ?_
      refine zr_aload_n 0 100 C (by decide +kernel) rfl rfl ?_
      refine xg_0_7 (idx := 61) 103 C (by decide +kernel) rfl q_565 ?_
      refine xg_8_0 (idx := 295) 106 C (by decide +kernel) rfl q_312 ?_
      refine zr_iload_n 1 107 C (by decide +kernel) rfl rfl ?_
      refine xa_36 108 C (by decide +kernel) rfl hf (fun hf => ?_)
      refine zr_iload 7 110 C (by decide +kernel) rfl rfl ?_
      refine xl_rows 111 C (by decide +kernel) rfl hf (fun hf => ?_)
      refine zr_aload_n 0 112 C (by decide +kernel) rfl rfl ?_
      refine xg_0_7 (idx := 61) 115 C (by decide +kernel) rfl q_565 ?_
      refine xg_8_0 (idx := 295) 118 C (by decide +kernel) rfl q_312 ?_
      refine zr_iload_n 1 119 C (by decide +kernel) rfl rfl ?_
      refine xa_36 120 C (by decide +kernel) rfl hf (fun hf => ?_)
      refine zr_iload 7 122 C (by decide +kernel) rfl rfl ?_
      refine zr_iconst (v := 1) 1 123 C (by decide +kernel) rfl rfl ?_
      refine zr_iadd 124 C (by decide +kernel) rfl ?_
      refine xl_rows 125 C (by decide +kernel) rfl hf (fun hf => ?_)
      refine k_X_house (idx := 298) 128 C E (by decide +kernel) rfl q_953 (zb2 rfl rfl) (Nat.le_of_ble_eq_true rfl) hf (fun r5 σ4 hf => ?_)
      refine zr_if_lt (off := 6) 134 131 C (by decide +kernel) (by decide) rfl hf (fun hf => ?_) (fun hf => ?_)
      · refine zr_less (zA (zA (zN (zA (zA (zA (zA (zN zE)))))))) ?_
        exact w_X_houses_134 C T E H66 _ _ _ _ _ _ hf
      · refine zr_iinc (j := 1) 5 [some (.ref (h 0)), some (.int x1), none, some (.int x3), some (.int x4), some (.int (x5 + 1)), some (.int x6), some (.int v1)] 134 C (by decide +kernel) rfl rfl rfl (by decide) rfl rfl ?_
        refine zr_less (zA (zA (zN (zA (zA (zA (zA (zN zE)))))))) ?_
        exact w_X_houses_134 C T E H66 _ _ _ _ _ _ hf
    · refine zr_bipush (v := (-12)) (-12) 97 C (by decide +kernel) rfl rfl ?_
      obtain rfl := Option.some.inj hf
      exact zr_iret C (by decide +kernel) T
def f_X_houses_66  : Nat → Int32 → Int32 → Int32 → Int32 → Int32 → zS → Option (Int32 × zS)
  | 0, _, _, _, _, _, _ => none
  | n + 1, x1, x3, x4, x5, x6,  σ => f_X_houses_66b (fun x1 x3 x4 x5 x6 σ => f_X_houses_66  n x1 x3 x4 x5 x6 σ) x1 x3 x4 x5 x6 σ
theorem w_X_houses_66 {l : Launch} {d : zD} {F : zF} {h : Nat → Nat} {out : Int32 × zS} {ad av : Nat → Nat}   (C : zOk d F RX10 cX10_houses 8 6 137) (T : zRt d F (some .int) (some (.int out.1)) (XW d h out.2)) (E : zXe d ad av)  : ∀ (n : Nat) (x1 : Int32) (x3 : Int32) (x4 : Int32) (x5 : Int32) (x6 : Int32) (σ : zS), f_X_houses_66  n x1 x3 x4 x5 x6 σ = some out → V l d F 0 0 (XW d h σ) [some (.ref (h 0)), some (.int x1), none, some (.int x3), some (.int x4), some (.int x5), some (.int x6), none] 66 [] := by
  intro n
  induction n with
  | zero =>
    intro x1 x3 x4 x5 x6 σ hf
    cases hf
  | succ n ih =>
    intro x1 x3 x4 x5 x6 σ hf
    exact w_X_houses_66b C T E ih x1 x3 x4 x5 x6 σ hf
def f_X_houses (p1 : Int32) (p2 : Int32) (p3 : Int32) (p4 : Int32) (σ : zS) : Option (Int32 × zS) :=
  zbd (f_X_isSheet p1 σ) fun r2 σ1 =>
  (if r2 = 0 then
  some (-2, σ1)
  else
  zbd (f_X_isFrom p2 0 2 σ1) fun r4 σ3 =>
  (if r4 = 0 then
  some (-2, σ3)
  else
  zbd (f_X_isFrom p4 0 20 σ3) fun r6 σ5 =>
  (if r6 = 0 then
  some (-2, σ5)
  else
  zbd (f_St_isMissing p1 σ5) fun r8 σ7 =>
  (if r8 = 0 then
  zin p1 4 ((if (σ7.2 30 p1.toNatClampNeg) = p2 then
  f_X_houses_66 zfu p1 p3 p4 0 0 σ7
  else
  some (-13, σ7)))
  else
  some (-11, σ7)))))
set_option maxRecDepth 4000 in
theorem m_X_houses {l : Launch} {d : zD} {h : Nat → Nat} {out : Int32 × zS} {σ : zS} {ad av : Nat → Nat} {p1 : Int32} {p2 : Int32} {p3 : Int32} {p4 : Int32} (E : zXe d ad av) (hf : f_X_houses p1 p2 p3 p4 σ = some out) : zM l yX10_houses cX10_houses 8 (some .int) 6 137 d [.ref (h 0), .int p1, .int p2, .int p3, .int p4] (XW d h σ) (XW d h out.2) (some (.int out.1)) := by
  refine zM_of [some (.ref (h 0)), some (.int p1), some (.int p2), some (.int p3), some (.int p4), none, none, none] (by decide +kernel) rfl (Nat.le_of_ble_eq_true rfl) (fun F C T => ?_)
  unfold f_X_houses at hf
  refine zr_iload_n 1 1 C (by decide +kernel) rfl rfl ?_
  refine k_X_isSheet (idx := 276) 4 C E (by decide +kernel) rfl q_922 (zb2 rfl rfl) (Nat.le_of_ble_eq_true rfl) hf (fun r2 σ1 hf => ?_)
  refine zr_if_eq (off := 23) 27 7 C (by decide +kernel) (by decide) rfl hf (fun hf => ?_) (fun hf => ?_)
  · refine zr_bipush (v := (-2)) (-2) 29 C (by decide +kernel) rfl rfl ?_
    obtain rfl := Option.some.inj hf
    exact zr_iret C (by decide +kernel) T
  · refine zr_iload_n 2 8 C (by decide +kernel) rfl rfl ?_
    refine zr_iconst (v := 0) 0 9 C (by decide +kernel) rfl rfl ?_
    refine zr_iconst (v := 2) 2 10 C (by decide +kernel) rfl rfl ?_
    refine k_X_isFrom (idx := 159) 13 C E (by decide +kernel) rfl q_615 (zb2 rfl rfl) (Nat.le_of_ble_eq_true rfl) hf (fun r4 σ3 hf => ?_)
    refine zr_if_eq (off := 14) 27 16 C (by decide +kernel) (by decide) rfl hf (fun hf => ?_) (fun hf => ?_)
    · refine zr_bipush (v := (-2)) (-2) 29 C (by decide +kernel) rfl rfl ?_
      obtain rfl := Option.some.inj hf
      exact zr_iret C (by decide +kernel) T
    · refine zr_iload 4 18 C (by decide +kernel) rfl rfl ?_
      refine zr_iconst (v := 0) 0 19 C (by decide +kernel) rfl rfl ?_
      refine zr_bipush (v := 20) 20 21 C (by decide +kernel) rfl rfl ?_
      refine k_X_isFrom (idx := 159) 24 C E (by decide +kernel) rfl q_615 (zb2 rfl rfl) (Nat.le_of_ble_eq_true rfl) hf (fun r6 σ5 hf => ?_)
      refine zr_if_ne (off := 6) 30 27 C (by decide +kernel) (by decide) rfl hf (fun hf => ?_) (fun hf => ?_)
      · refine zr_aload_n 0 31 C (by decide +kernel) rfl rfl ?_
        refine xg_0_7 (idx := 61) 34 C (by decide +kernel) rfl q_565 ?_
        refine zr_iload_n 1 35 C (by decide +kernel) rfl rfl ?_
        refine k_St_isMissing (idx := 283) 38 C E (by decide +kernel) rfl q_933 (zb2 rfl rfl) (Nat.le_of_ble_eq_true rfl) hf (fun r8 σ7 hf => ?_)
        refine zr_if_eq (off := 6) 44 41 C (by decide +kernel) (by decide) rfl hf (fun hf => ?_) (fun hf => ?_)
        · refine zr_aload_n 0 45 C (by decide +kernel) rfl rfl ?_
          refine xg_0_7 (idx := 61) 48 C (by decide +kernel) rfl q_565 ?_
          refine xg_8_1 (idx := 292) 51 C (by decide +kernel) rfl q_314 ?_
          refine zr_iload_n 1 52 C (by decide +kernel) rfl rfl ?_
          refine xl_30 53 C (by decide +kernel) rfl hf (fun hf => ?_)
          refine zr_iload_n 2 54 C (by decide +kernel) rfl rfl ?_
          refine zr_icmp_eq (off := 6) 60 57 C (by decide +kernel) (by decide) rfl hf (fun hf => ?_) (fun hf => ?_)
          · refine zr_iconst (v := 0) 0 61 C (by decide +kernel) rfl rfl ?_
            refine zr_istore 5 [some (.ref (h 0)), some (.int p1), some (.int p2), some (.int p3), some (.int p4), some (.int 0), none, none] 63 C (by decide +kernel) rfl (by decide) rfl rfl ?_
            refine zr_iconst (v := 0) 0 64 C (by decide +kernel) rfl rfl ?_
            refine zr_istore 6 [some (.ref (h 0)), some (.int p1), some (.int p2), some (.int p3), some (.int p4), some (.int 0), some (.int 0), none] 66 C (by decide +kernel) rfl (by decide) rfl rfl ?_
            refine zr_less (zA (zA (zN (zA (zA (zA (zA (zN zE)))))))) ?_
            exact w_X_houses_66 C T E zfu _ _ _ _ _ _ hf
          · refine zr_bipush (v := (-13)) (-13) 59 C (by decide +kernel) rfl rfl ?_
            obtain rfl := Option.some.inj hf
            exact zr_iret C (by decide +kernel) T
        · refine zr_bipush (v := (-11)) (-11) 43 C (by decide +kernel) rfl rfl ?_
          obtain rfl := Option.some.inj hf
          exact zr_iret C (by decide +kernel) T
      · refine zr_bipush (v := (-2)) (-2) 29 C (by decide +kernel) rfl rfl ?_
        obtain rfl := Option.some.inj hf
        exact zr_iret C (by decide +kernel) T
theorem y_X_houses : zY yX10_houses cX10_houses 8 (some .int) 4 := ⟨q_952, q_72, by decide +kernel, by decide +kernel, by decide +kernel⟩
theorem k_X_houses {l : Launch} {d : zD} {F : zF} {h : Nat → Nat} {σ : zS} {lv : List (Option Value)} {pc : Nat} {own : String} {cc : ByteArray} {nL fr lo idx : Nat} {rest : List Value} {β : Type} {kf : Int32 → zS → Option β} {o2 : β} {ad av : Nat → Nat}  {p1 : Int32} {p2 : Int32} {p3 : Int32} {p4 : Int32} (pc' : Nat) (C : zOk d F own cc nL fr lo) (E : zXe d ad av) (hd : decode cc pc = .ok (.invokevirtual idx, 3)) (hp : pc + 3 = pc') (hq : Cond.methodLink own idx yX10_houses ∈ zW) (hm : 6 + 1 ≤ fr ∧ 8 + (8 + 11) + 137 ≤ lo) (hr : (rest.map fun v => v.category).sum ≤ 8) (hf : zbd (f_X_houses p1 p2 p3 p4 σ) kf = some o2) (K : ∀ (r : Int32) (σ' : zS), kf r σ' = some o2 → V l d F 0 0 (XW d h σ') lv pc' (.int r :: rest)) : V l d F 0 0 (XW d h σ) lv pc (.int p4 :: .int p3 :: .int p2 :: .int p1 :: .ref (h 0) :: rest) := by
  obtain ⟨q, h1, h2⟩ := zbd_some hf
  exact zr_callV y_X_houses ⟨q_950, q_951⟩ 0 rfl rfl (As := [.int p1, .int p2, .int p3, .int p4]) (m_X_houses E h1) rfl rfl pc' C hd hp hq hm hr (K _ _ h2)
/-! StepsBeyond.houseTaken(II)I -/
def f_X_houseTaken (p1 : Int32) (p2 : Int32) (σ : zS) : Option (Int32 × zS) :=
  zbd (f_Vi_knows p1 σ) fun r2 σ1 =>
  (if r2 = 0 then
  some (-11, σ1)
  else
  (if p2 = 6 then
  zin p1 20 (some (σ1.2 17 p1.toNatClampNeg, σ1))
  else
  some (-13, σ1)))
set_option maxRecDepth 4000 in
theorem m_X_houseTaken {l : Launch} {d : zD} {h : Nat → Nat} {out : Int32 × zS} {σ : zS} {ad av : Nat → Nat} {p1 : Int32} {p2 : Int32} (E : zXe d ad av) (hf : f_X_houseTaken p1 p2 σ = some out) : zM l yX10_houseTaken cX10_houseTaken 3 (some .int) 1 21 d [.ref (h 0), .int p1, .int p2] (XW d h σ) (XW d h out.2) (some (.int out.1)) := by
  refine zM_of [some (.ref (h 0)), some (.int p1), some (.int p2)] (by decide +kernel) rfl (Nat.le_of_ble_eq_true rfl) (fun F C T => ?_)
  unfold f_X_houseTaken at hf
  refine zr_aload_n 0 1 C (by decide +kernel) rfl rfl ?_
  refine xg_0_2 (idx := 26) 4 C (by decide +kernel) rfl q_560 ?_
  refine zr_iload_n 1 5 C (by decide +kernel) rfl rfl ?_
  refine k_Vi_knows (idx := 133) 8 C E (by decide +kernel) rfl q_629 (zb2 rfl rfl) (Nat.le_of_ble_eq_true rfl) hf (fun r2 σ1 hf => ?_)
  refine zr_if_ne (off := 6) 14 11 C (by decide +kernel) (by decide) rfl hf (fun hf => ?_) (fun hf => ?_)
  · refine zr_iload_n 2 15 C (by decide +kernel) rfl rfl ?_
    refine zr_bipush (v := 6) 6 17 C (by decide +kernel) rfl rfl ?_
    refine zr_icmp_ne (off := 15) 32 20 C (by decide +kernel) (by decide) rfl hf (fun hf => ?_) (fun hf => ?_)
    · refine zr_bipush (v := (-13)) (-13) 34 C (by decide +kernel) rfl rfl ?_
      obtain rfl := Option.some.inj hf
      exact zr_iret C (by decide +kernel) T
    · refine zr_aload_n 0 21 C (by decide +kernel) rfl rfl ?_
      refine xg_0_2 (idx := 26) 24 C (by decide +kernel) rfl q_560 ?_
      refine xg_3_0 (idx := 318) 27 C (by decide +kernel) rfl q_183 ?_
      refine zr_iload_n 1 28 C (by decide +kernel) rfl rfl ?_
      refine xl_17 29 C (by decide +kernel) rfl hf (fun hf => ?_)
      refine zr_goto (off := 5) 34 C (by decide +kernel) (by decide) ?_
      obtain rfl := Option.some.inj hf
      exact zr_iret C (by decide +kernel) T
  · refine zr_bipush (v := (-11)) (-11) 13 C (by decide +kernel) rfl rfl ?_
    obtain rfl := Option.some.inj hf
    exact zr_iret C (by decide +kernel) T
theorem y_X_houseTaken : zY yX10_houseTaken cX10_houseTaken 3 (some .int) 2 := ⟨q_961, q_72, by decide +kernel, by decide +kernel, by decide +kernel⟩
theorem k_X_houseTaken {l : Launch} {d : zD} {F : zF} {h : Nat → Nat} {σ : zS} {lv : List (Option Value)} {pc : Nat} {own : String} {cc : ByteArray} {nL fr lo idx : Nat} {rest : List Value} {β : Type} {kf : Int32 → zS → Option β} {o2 : β} {ad av : Nat → Nat}  {p1 : Int32} {p2 : Int32} (pc' : Nat) (C : zOk d F own cc nL fr lo) (E : zXe d ad av) (hd : decode cc pc = .ok (.invokevirtual idx, 3)) (hp : pc + 3 = pc') (hq : Cond.methodLink own idx yX10_houseTaken ∈ zW) (hm : 1 + 1 ≤ fr ∧ 8 + (3 + 11) + 21 ≤ lo) (hr : (rest.map fun v => v.category).sum ≤ 8) (hf : zbd (f_X_houseTaken p1 p2 σ) kf = some o2) (K : ∀ (r : Int32) (σ' : zS), kf r σ' = some o2 → V l d F 0 0 (XW d h σ') lv pc' (.int r :: rest)) : V l d F 0 0 (XW d h σ) lv pc (.int p2 :: .int p1 :: .ref (h 0) :: rest) := by
  obtain ⟨q, h1, h2⟩ := zbd_some hf
  exact zr_callV y_X_houseTaken ⟨q_960, q_34⟩ 0 rfl rfl (As := [.int p1, .int p2]) (m_X_houseTaken E h1) rfl rfl pc' C hd hp hq hm hr (K _ _ h2)
/-! StepsBeyond.shapeTaken(II)I -/
def f_X_shapeTaken (p1 : Int32) (p2 : Int32) (σ : zS) : Option (Int32 × zS) :=
  zbd (f_Sh_knows p1 σ) fun r2 σ1 =>
  (if r2 = 0 then
  some (-11, σ1)
  else
  zin p1 12 (zbd (f_X_isOfKind (σ1.2 23 p1.toNatClampNeg) p2 σ1) fun r4 σ3 =>
  (if r4 = 0 then
  some (-13, σ3)
  else
  some (p1, σ3))))
set_option maxRecDepth 4000 in
theorem m_X_shapeTaken {l : Launch} {d : zD} {h : Nat → Nat} {out : Int32 × zS} {σ : zS} {ad av : Nat → Nat} {p1 : Int32} {p2 : Int32} (E : zXe d ad av) (hf : f_X_shapeTaken p1 p2 σ = some out) : zM l yX10_shapeTaken cX10_shapeTaken 3 (some .int) 2 45 d [.ref (h 0), .int p1, .int p2] (XW d h σ) (XW d h out.2) (some (.int out.1)) := by
  refine zM_of [some (.ref (h 0)), some (.int p1), some (.int p2)] (by decide +kernel) rfl (Nat.le_of_ble_eq_true rfl) (fun F C T => ?_)
  unfold f_X_shapeTaken at hf
  refine zr_aload_n 0 1 C (by decide +kernel) rfl rfl ?_
  refine xg_0_4 (idx := 40) 4 C (by decide +kernel) rfl q_562 ?_
  refine zr_iload_n 1 5 C (by decide +kernel) rfl rfl ?_
  refine k_Sh_knows (idx := 185) 8 C E (by decide +kernel) rfl q_711 (zb2 rfl rfl) (Nat.le_of_ble_eq_true rfl) hf (fun r2 σ1 hf => ?_)
  refine zr_if_ne (off := 6) 14 11 C (by decide +kernel) (by decide) rfl hf (fun hf => ?_) (fun hf => ?_)
  · refine zr_aload_n 0 15 C (by decide +kernel) rfl rfl ?_
    refine xg_0_4 (idx := 40) 18 C (by decide +kernel) rfl q_562 ?_
    refine xg_5_0 (idx := 186) 21 C (by decide +kernel) rfl q_238 ?_
    refine zr_iload_n 1 22 C (by decide +kernel) rfl rfl ?_
    refine xl_23 23 C (by decide +kernel) rfl hf (fun hf => ?_)
    refine zr_iload_n 2 24 C (by decide +kernel) rfl rfl ?_
    refine k_X_isOfKind (idx := 319) 27 C E (by decide +kernel) rfl q_746 (zb2 rfl rfl) (Nat.le_of_ble_eq_true rfl) hf (fun r4 σ3 hf => ?_)
    refine zr_if_eq (off := 7) 34 30 C (by decide +kernel) (by decide) rfl hf (fun hf => ?_) (fun hf => ?_)
    · refine zr_bipush (v := (-13)) (-13) 36 C (by decide +kernel) rfl rfl ?_
      obtain rfl := Option.some.inj hf
      exact zr_iret C (by decide +kernel) T
    · refine zr_iload_n 1 31 C (by decide +kernel) rfl rfl ?_
      refine zr_goto (off := 5) 36 C (by decide +kernel) (by decide) ?_
      obtain rfl := Option.some.inj hf
      exact zr_iret C (by decide +kernel) T
  · refine zr_bipush (v := (-11)) (-11) 13 C (by decide +kernel) rfl rfl ?_
    obtain rfl := Option.some.inj hf
    exact zr_iret C (by decide +kernel) T
theorem y_X_shapeTaken : zY yX10_shapeTaken cX10_shapeTaken 3 (some .int) 2 := ⟨q_965, q_72, by decide +kernel, by decide +kernel, by decide +kernel⟩
theorem k_X_shapeTaken {l : Launch} {d : zD} {F : zF} {h : Nat → Nat} {σ : zS} {lv : List (Option Value)} {pc : Nat} {own : String} {cc : ByteArray} {nL fr lo idx : Nat} {rest : List Value} {β : Type} {kf : Int32 → zS → Option β} {o2 : β} {ad av : Nat → Nat}  {p1 : Int32} {p2 : Int32} (pc' : Nat) (C : zOk d F own cc nL fr lo) (E : zXe d ad av) (hd : decode cc pc = .ok (.invokevirtual idx, 3)) (hp : pc + 3 = pc') (hq : Cond.methodLink own idx yX10_shapeTaken ∈ zW) (hm : 2 + 1 ≤ fr ∧ 8 + (3 + 11) + 45 ≤ lo) (hr : (rest.map fun v => v.category).sum ≤ 8) (hf : zbd (f_X_shapeTaken p1 p2 σ) kf = some o2) (K : ∀ (r : Int32) (σ' : zS), kf r σ' = some o2 → V l d F 0 0 (XW d h σ') lv pc' (.int r :: rest)) : V l d F 0 0 (XW d h σ) lv pc (.int p2 :: .int p1 :: .ref (h 0) :: rest) := by
  obtain ⟨q, h1, h2⟩ := zbd_some hf
  exact zr_callV y_X_shapeTaken ⟨q_964, q_35⟩ 0 rfl rfl (As := [.int p1, .int p2]) (m_X_shapeTaken E h1) rfl rfl pc' C hd hp hq hm hr (K _ _ h2)
/-! StepsBeyond.taken(II)I -/
def f_X_taken (p1 : Int32) (p2 : Int32) (σ : zS) : Option (Int32 × zS) :=
  zbd (f_X_isFrom p2 0 6 σ) fun r2 σ1 =>
  (if r2 = 0 then
  some (-2, σ1)
  else
  zbd (f_X_isFrom p1 0 31 σ1) fun r4 σ3 =>
  (if r4 = 0 then
  some (-12, σ3)
  else
  (if 20 ≤ p1 then
  zbd (f_X_shapeTaken (p1 - 20) p2 σ3) fun r6 σ5 =>
  some (r6, σ5)
  else
  zbd (f_X_houseTaken p1 p2 σ3) fun r8 σ7 =>
  some (r8, σ7))))
set_option maxRecDepth 4000 in
theorem m_X_taken {l : Launch} {d : zD} {h : Nat → Nat} {out : Int32 × zS} {σ : zS} {ad av : Nat → Nat} {p1 : Int32} {p2 : Int32} (E : zXe d ad av) (hf : f_X_taken p1 p2 σ = some out) : zM l yX10_taken cX10_taken 3 (some .int) 3 67 d [.ref (h 0), .int p1, .int p2] (XW d h σ) (XW d h out.2) (some (.int out.1)) := by
  refine zM_of [some (.ref (h 0)), some (.int p1), some (.int p2)] (by decide +kernel) rfl (Nat.le_of_ble_eq_true rfl) (fun F C T => ?_)
  unfold f_X_taken at hf
  refine zr_iload_n 2 1 C (by decide +kernel) rfl rfl ?_
  refine zr_iconst (v := 0) 0 2 C (by decide +kernel) rfl rfl ?_
  refine zr_bipush (v := 6) 6 4 C (by decide +kernel) rfl rfl ?_
  refine k_X_isFrom (idx := 159) 7 C E (by decide +kernel) rfl q_615 (zb2 rfl rfl) (Nat.le_of_ble_eq_true rfl) hf (fun r2 σ1 hf => ?_)
  refine zr_if_ne (off := 6) 13 10 C (by decide +kernel) (by decide) rfl hf (fun hf => ?_) (fun hf => ?_)
  · refine zr_iload_n 1 14 C (by decide +kernel) rfl rfl ?_
    refine zr_iconst (v := 0) 0 15 C (by decide +kernel) rfl rfl ?_
    refine zr_bipush (v := 31) 31 17 C (by decide +kernel) rfl rfl ?_
    refine k_X_isFrom (idx := 159) 20 C E (by decide +kernel) rfl q_615 (zb2 rfl rfl) (Nat.le_of_ble_eq_true rfl) hf (fun r4 σ3 hf => ?_)
    refine zr_if_ne (off := 6) 26 23 C (by decide +kernel) (by decide) rfl hf (fun hf => ?_) (fun hf => ?_)
    · refine zr_iload_n 1 27 C (by decide +kernel) rfl rfl ?_
      refine zr_bipush (v := 20) 20 29 C (by decide +kernel) rfl rfl ?_
      refine zr_icmp_ge (off := 12) 41 32 C (by decide +kernel) (by decide) rfl hf (fun hf => ?_) (fun hf => ?_)
      · refine zr_aload_n 0 42 C (by decide +kernel) rfl rfl ?_
        refine zr_iload_n 1 43 C (by decide +kernel) rfl rfl ?_
        refine zr_bipush (v := 20) 20 45 C (by decide +kernel) rfl rfl ?_
        refine zr_isub 46 C (by decide +kernel) rfl ?_
        refine zr_iload_n 2 47 C (by decide +kernel) rfl rfl ?_
        refine k_X_shapeTaken (idx := 304) 50 C E (by decide +kernel) rfl q_962 (zb2 rfl rfl) (Nat.le_of_ble_eq_true rfl) hf (fun r6 σ5 hf => ?_)
        obtain rfl := Option.some.inj hf
        exact zr_iret C (by decide +kernel) T
      · refine zr_aload_n 0 33 C (by decide +kernel) rfl rfl ?_
        refine zr_iload_n 1 34 C (by decide +kernel) rfl rfl ?_
        refine zr_iload_n 2 35 C (by decide +kernel) rfl rfl ?_
        refine k_X_houseTaken (idx := 301) 38 C E (by decide +kernel) rfl q_958 (zb2 rfl rfl) (Nat.le_of_ble_eq_true rfl) hf (fun r8 σ7 hf => ?_)
        refine zr_goto (off := 12) 50 C (by decide +kernel) (by decide) ?_
        obtain rfl := Option.some.inj hf
        exact zr_iret C (by decide +kernel) T
    · refine zr_bipush (v := (-12)) (-12) 25 C (by decide +kernel) rfl rfl ?_
      obtain rfl := Option.some.inj hf
      exact zr_iret C (by decide +kernel) T
  · refine zr_bipush (v := (-2)) (-2) 12 C (by decide +kernel) rfl rfl ?_
    obtain rfl := Option.some.inj hf
    exact zr_iret C (by decide +kernel) T
theorem y_X_taken : zY yX10_taken cX10_taken 3 (some .int) 2 := ⟨q_957, q_72, by decide +kernel, by decide +kernel, by decide +kernel⟩
theorem k_X_taken {l : Launch} {d : zD} {F : zF} {h : Nat → Nat} {σ : zS} {lv : List (Option Value)} {pc : Nat} {own : String} {cc : ByteArray} {nL fr lo idx : Nat} {rest : List Value} {β : Type} {kf : Int32 → zS → Option β} {o2 : β} {ad av : Nat → Nat}  {p1 : Int32} {p2 : Int32} (pc' : Nat) (C : zOk d F own cc nL fr lo) (E : zXe d ad av) (hd : decode cc pc = .ok (.invokevirtual idx, 3)) (hp : pc + 3 = pc') (hq : Cond.methodLink own idx yX10_taken ∈ zW) (hm : 3 + 1 ≤ fr ∧ 8 + (3 + 11) + 67 ≤ lo) (hr : (rest.map fun v => v.category).sum ≤ 8) (hf : zbd (f_X_taken p1 p2 σ) kf = some o2) (K : ∀ (r : Int32) (σ' : zS), kf r σ' = some o2 → V l d F 0 0 (XW d h σ') lv pc' (.int r :: rest)) : V l d F 0 0 (XW d h σ) lv pc (.int p2 :: .int p1 :: .ref (h 0) :: rest) := by
  obtain ⟨q, h1, h2⟩ := zbd_some hf
  exact zr_callV y_X_taken ⟨q_955, q_956⟩ 0 rfl rfl (As := [.int p1, .int p2]) (m_X_taken E h1) rfl rfl pc' C hd hp hq hm hr (K _ _ h2)
