/-! StepsBeyondModel.in(III)Z -/
def f_M_in (p0 : Int32) (p1 : Int32) (p2 : Int32) (σ : zS) : Option (Int32 × zS) :=
  (if p0 < p1 then
  some (0, σ)
  else
  (if p2 < p0 then
  some (0, σ)
  else
  some (1, σ)))
set_option maxRecDepth 4000 in
theorem m_M_in {l : Launch} {d : zD} {h : Nat → Nat} {out : Int32 × zS} {σ : zS} {p0 : Int32} {p1 : Int32} {p2 : Int32} (hf : f_M_in p0 p1 p2 σ = some out) : zM l yX11_in cX11_in 3 (some .boolean) 0 0 d [.int p0, .int p1, .int p2] (MW d h σ) (MW d h out.2) (some (.int out.1)) := by
  refine zM_of [some (.int p0), some (.int p1), some (.int p2)] (by decide +kernel) rfl (Nat.le_of_ble_eq_true rfl) (fun F C T => ?_)
  unfold f_M_in at hf
  refine zr_iload_n 0 1 C (by decide +kernel) rfl rfl ?_
  refine zr_iload_n 1 2 C (by decide +kernel) rfl rfl ?_
  refine zr_icmp_lt (off := 12) 14 5 C (by decide +kernel) (by decide) rfl hf (fun hf => ?_) (fun hf => ?_)
  · refine zr_iconst (v := 0) 0 15 C (by decide +kernel) rfl rfl ?_
    cases hf
    exact zr_zret C (by decide +kernel) rfl T
  · refine zr_iload_n 0 6 C (by decide +kernel) rfl rfl ?_
    refine zr_iload_n 2 7 C (by decide +kernel) rfl rfl ?_
    refine zr_icmp_gt (off := 7) 14 10 C (by decide +kernel) (by decide) rfl hf (fun hf => ?_) (fun hf => ?_)
    · refine zr_iconst (v := 0) 0 15 C (by decide +kernel) rfl rfl ?_
      cases hf
      exact zr_zret C (by decide +kernel) rfl T
    · refine zr_iconst (v := 1) 1 11 C (by decide +kernel) rfl rfl ?_
      refine zr_goto (off := 4) 15 C (by decide +kernel) (by decide) ?_
      cases hf
      exact zr_zret C (by decide +kernel) rfl T
theorem y_M_in : zY yX11_in cX11_in 3 (some .boolean) 3 := ⟨q_1183, q_90, by decide +kernel, by decide +kernel, by decide +kernel⟩
theorem k_M_in {l : Launch} {d : zD} {F : zF} {h : Nat → Nat} {σ : zS} {lv : List (Option Value)} {pc : Nat} {own : String} {cc : ByteArray} {nL fr lo idx : Nat} {rest : List Value} {β : Type} {kf : Int32 → zS → Option β} {o2 : β} {p0 : Int32} {p1 : Int32} {p2 : Int32} (pc' : Nat) (C : zOk d F own cc nL fr lo) (hd : decode cc pc = .ok (.invokestatic idx, 3)) (hp : pc + 3 = pc') (hq : Cond.methodLink own idx yX11_in ∈ zW) (hm : 0 + 1 ≤ fr ∧ 8 + (3 + 11) + 0 ≤ lo) (hr : (rest.map fun v => v.category).sum ≤ 8) (hf : zbd (f_M_in p0 p1 p2 σ) kf = some o2) (K : ∀ (r : Int32) (σ' : zS), kf r σ' = some o2 → V l d F 0 0 (MW d h σ') lv pc' (.int r :: rest)) : V l d F 0 0 (MW d h σ) lv pc (.int p2 :: .int p1 :: .int p0 :: rest) := by
  obtain ⟨q, h1, h2⟩ := zbd_some hf
  exact zr_callS y_M_in q_1182 (As := [.int p0, .int p1, .int p2]) (m_M_in h1) rfl rfl pc' C hd hp hq hm hr (K _ _ h2)
/-! StepsBeyondModel.isPlace(I)Z -/
def f_M_isPlace (p0 : Int32) (σ : zS) : Option (Int32 × zS) :=
  zbd (f_M_in p0 0 1599 σ) fun r2 σ1 =>
  zbo r2 (some (r2, σ1))
set_option maxRecDepth 4000 in
theorem m_M_isPlace {l : Launch} {d : zD} {h : Nat → Nat} {out : Int32 × zS} {σ : zS} {p0 : Int32} (hf : f_M_isPlace p0 σ = some out) : zM l yX11_isPlace cX11_isPlace 1 (some .boolean) 1 22 d [.int p0] (MW d h σ) (MW d h out.2) (some (.int out.1)) := by
  refine zM_of [some (.int p0)] (by decide +kernel) rfl (Nat.le_of_ble_eq_true rfl) (fun F C T => ?_)
  unfold f_M_isPlace at hf
  refine zr_iload_n 0 1 C (by decide +kernel) rfl rfl ?_
  refine zr_iconst (v := 0) 0 2 C (by decide +kernel) rfl rfl ?_
  refine zr_sipush (v := 1599) 1599 5 C (by decide +kernel) rfl rfl ?_
  refine k_M_in (idx := 139) 8 C (by decide +kernel) rfl q_1181 (zb2 rfl rfl) (Nat.le_of_ble_eq_true rfl) hf (fun r2 σ1 hf => ?_)
  obtain ⟨hz, hf⟩ := zbo_some hf
  cases hf
  exact zr_zret C (by decide +kernel) hz T
theorem y_M_isPlace : zY yX11_isPlace cX11_isPlace 1 (some .boolean) 1 := ⟨q_1180, q_90, by decide +kernel, by decide +kernel, by decide +kernel⟩
theorem k_M_isPlace {l : Launch} {d : zD} {F : zF} {h : Nat → Nat} {σ : zS} {lv : List (Option Value)} {pc : Nat} {own : String} {cc : ByteArray} {nL fr lo idx : Nat} {rest : List Value} {β : Type} {kf : Int32 → zS → Option β} {o2 : β} {p0 : Int32} (pc' : Nat) (C : zOk d F own cc nL fr lo) (hd : decode cc pc = .ok (.invokestatic idx, 3)) (hp : pc + 3 = pc') (hq : Cond.methodLink own idx yX11_isPlace ∈ zW) (hm : 1 + 1 ≤ fr ∧ 8 + (1 + 11) + 22 ≤ lo) (hr : (rest.map fun v => v.category).sum ≤ 8) (hf : zbd (f_M_isPlace p0 σ) kf = some o2) (K : ∀ (r : Int32) (σ' : zS), kf r σ' = some o2 → V l d F 0 0 (MW d h σ') lv pc' (.int r :: rest)) : V l d F 0 0 (MW d h σ) lv pc (.int p0 :: rest) := by
  obtain ⟨q, h1, h2⟩ := zbd_some hf
  exact zr_callS y_M_isPlace q_1179 (As := [.int p0]) (m_M_isPlace h1) rfl rfl pc' C hd hp hq hm hr (K _ _ h2)
/-! StepsBeyondModel.isHouse(I)Z -/
def f_M_isHouse (p1 : Int32) (σ : zS) : Option (Int32 × zS) :=
  zbd (f_M_in p1 0 ((σ.1 0) - 1) σ) fun r2 σ1 =>
  zbo r2 (some (r2, σ1))
set_option maxRecDepth 4000 in
theorem m_M_isHouse {l : Launch} {d : zD} {h : Nat → Nat} {out : Int32 × zS} {σ : zS} {p1 : Int32} (hf : f_M_isHouse p1 σ = some out) : zM l yX11_isHouse cX11_isHouse 2 (some .boolean) 1 22 d [.ref (h 0), .int p1] (MW d h σ) (MW d h out.2) (some (.int out.1)) := by
  refine zM_of [some (.ref (h 0)), some (.int p1)] (by decide +kernel) rfl (Nat.le_of_ble_eq_true rfl) (fun F C T => ?_)
  unfold f_M_isHouse at hf
  refine zr_iload_n 1 1 C (by decide +kernel) rfl rfl ?_
  refine zr_iconst (v := 0) 0 2 C (by decide +kernel) rfl rfl ?_
  refine zr_aload_n 0 3 C (by decide +kernel) rfl rfl ?_
  refine mg_0_0 (idx := 143) 6 C (by decide +kernel) rfl q_991 ?_
  refine zr_iconst (v := 1) 1 7 C (by decide +kernel) rfl rfl ?_
  refine zr_isub 8 C (by decide +kernel) rfl ?_
  refine k_M_in (idx := 139) 11 C (by decide +kernel) rfl q_1181 (zb2 rfl rfl) (Nat.le_of_ble_eq_true rfl) hf (fun r2 σ1 hf => ?_)
  obtain ⟨hz, hf⟩ := zbo_some hf
  cases hf
  exact zr_zret C (by decide +kernel) hz T
theorem y_M_isHouse : zY yX11_isHouse cX11_isHouse 2 (some .boolean) 1 := ⟨q_1191, q_90, by decide +kernel, by decide +kernel, by decide +kernel⟩
theorem k_M_isHouse {l : Launch} {d : zD} {F : zF} {h : Nat → Nat} {σ : zS} {lv : List (Option Value)} {pc : Nat} {own : String} {cc : ByteArray} {nL fr lo idx : Nat} {rest : List Value} {β : Type} {kf : Int32 → zS → Option β} {o2 : β} {p1 : Int32} (pc' : Nat) (C : zOk d F own cc nL fr lo) (hd : decode cc pc = .ok (.invokevirtual idx, 3)) (hp : pc + 3 = pc') (hq : Cond.methodLink own idx yX11_isHouse ∈ zW) (hm : 1 + 1 ≤ fr ∧ 8 + (2 + 11) + 22 ≤ lo) (hr : (rest.map fun v => v.category).sum ≤ 8) (hf : zbd (f_M_isHouse p1 σ) kf = some o2) (K : ∀ (r : Int32) (σ' : zS), kf r σ' = some o2 → V l d F 0 0 (MW d h σ') lv pc' (.int r :: rest)) : V l d F 0 0 (MW d h σ) lv pc (.int p1 :: .ref (h 0) :: rest) := by
  obtain ⟨q, h1, h2⟩ := zbd_some hf
  exact zr_callV y_M_isHouse ⟨q_1190, q_37⟩ 0 rfl rfl (As := [.int p1]) (m_M_isHouse h1) rfl rfl pc' C hd hp hq hm hr (K _ _ h2)
/-! StepsBeyondModel.abs(I)I -/
def f_M_abs (p0 : Int32) (σ : zS) : Option (Int32 × zS) :=
  (if 0 ≤ p0 then
  some (p0, σ)
  else
  some (-p0, σ))
set_option maxRecDepth 4000 in
theorem m_M_abs {l : Launch} {d : zD} {h : Nat → Nat} {out : Int32 × zS} {σ : zS} {p0 : Int32} (hf : f_M_abs p0 σ = some out) : zM l yX11_abs cX11_abs 1 (some .int) 0 0 d [.int p0] (MW d h σ) (MW d h out.2) (some (.int out.1)) := by
  refine zM_of [some (.int p0)] (by decide +kernel) rfl (Nat.le_of_ble_eq_true rfl) (fun F C T => ?_)
  unfold f_M_abs at hf
  refine zr_iload_n 0 1 C (by decide +kernel) rfl rfl ?_
  refine zr_if_ge (off := 8) 9 4 C (by decide +kernel) (by decide) rfl hf (fun hf => ?_) (fun hf => ?_)
  · refine zr_iload_n 0 10 C (by decide +kernel) rfl rfl ?_
    cases hf
    exact zr_iret C (by decide +kernel) T
  · refine zr_iload_n 0 5 C (by decide +kernel) rfl rfl ?_
    refine zr_ineg 6 C (by decide +kernel) rfl ?_
    refine zr_goto (off := 4) 10 C (by decide +kernel) (by decide) ?_
    cases hf
    exact zr_iret C (by decide +kernel) T
theorem y_M_abs : zY yX11_abs cX11_abs 1 (some .int) 1 := ⟨q_1262, q_90, by decide +kernel, by decide +kernel, by decide +kernel⟩
theorem k_M_abs {l : Launch} {d : zD} {F : zF} {h : Nat → Nat} {σ : zS} {lv : List (Option Value)} {pc : Nat} {own : String} {cc : ByteArray} {nL fr lo idx : Nat} {rest : List Value} {β : Type} {kf : Int32 → zS → Option β} {o2 : β} {p0 : Int32} (pc' : Nat) (C : zOk d F own cc nL fr lo) (hd : decode cc pc = .ok (.invokestatic idx, 3)) (hp : pc + 3 = pc') (hq : Cond.methodLink own idx yX11_abs ∈ zW) (hm : 0 + 1 ≤ fr ∧ 8 + (1 + 11) + 0 ≤ lo) (hr : (rest.map fun v => v.category).sum ≤ 8) (hf : zbd (f_M_abs p0 σ) kf = some o2) (K : ∀ (r : Int32) (σ' : zS), kf r σ' = some o2 → V l d F 0 0 (MW d h σ') lv pc' (.int r :: rest)) : V l d F 0 0 (MW d h σ) lv pc (.int p0 :: rest) := by
  obtain ⟨q, h1, h2⟩ := zbd_some hf
  exact zr_callS y_M_abs q_1261 (As := [.int p0]) (m_M_abs h1) rfl rfl pc' C hd hp hq hm hr (K _ _ h2)
/-! StepsBeyondModel.apart(II)I -/
def f_M_apart (p0 : Int32) (p1 : Int32) (σ : zS) : Option (Int32 × zS) :=
  zbd (f_M_abs ((zrem p0 40) - (zrem p1 40)) σ) fun r2 σ1 =>
  zbd (f_M_abs ((p0 / 40) - (p1 / 40)) σ1) fun r4 σ3 =>
  some (r2 + r4, σ3)
set_option maxRecDepth 4000 in
theorem m_M_apart {l : Launch} {d : zD} {h : Nat → Nat} {out : Int32 × zS} {σ : zS} {p0 : Int32} {p1 : Int32} (hf : f_M_apart p0 p1 σ = some out) : zM l yX11_apart cX11_apart 2 (some .int) 1 20 d [.int p0, .int p1] (MW d h σ) (MW d h out.2) (some (.int out.1)) := by
  refine zM_of [some (.int p0), some (.int p1)] (by decide +kernel) rfl (Nat.le_of_ble_eq_true rfl) (fun F C T => ?_)
  unfold f_M_apart at hf
  refine zr_iload_n 0 1 C (by decide +kernel) rfl rfl ?_
  refine zr_bipush (v := 40) 40 3 C (by decide +kernel) rfl rfl ?_
  refine zr_irem 4 C (by decide +kernel) rfl (by decide) ?_
  refine zr_iload_n 1 5 C (by decide +kernel) rfl rfl ?_
  refine zr_bipush (v := 40) 40 7 C (by decide +kernel) rfl rfl ?_
  refine zr_irem 8 C (by decide +kernel) rfl (by decide) ?_
  refine zr_isub 9 C (by decide +kernel) rfl ?_
  refine k_M_abs (idx := 146) 12 C (by decide +kernel) rfl q_1260 (zb2 rfl rfl) (Nat.le_of_ble_eq_true rfl) hf (fun r2 σ1 hf => ?_)
  refine zr_iload_n 0 13 C (by decide +kernel) rfl rfl ?_
  refine zr_bipush (v := 40) 40 15 C (by decide +kernel) rfl rfl ?_
  refine zr_idiv 16 C (by decide +kernel) rfl (by decide) ?_
  refine zr_iload_n 1 17 C (by decide +kernel) rfl rfl ?_
  refine zr_bipush (v := 40) 40 19 C (by decide +kernel) rfl rfl ?_
  refine zr_idiv 20 C (by decide +kernel) rfl (by decide) ?_
  refine zr_isub 21 C (by decide +kernel) rfl ?_
  refine k_M_abs (idx := 146) 24 C (by decide +kernel) rfl q_1260 (zb2 rfl rfl) (Nat.le_of_ble_eq_true rfl) hf (fun r4 σ3 hf => ?_)
  refine zr_iadd 25 C (by decide +kernel) rfl ?_
  cases hf
  exact zr_iret C (by decide +kernel) T
theorem y_M_apart : zY yX11_apart cX11_apart 2 (some .int) 2 := ⟨q_1259, q_90, by decide +kernel, by decide +kernel, by decide +kernel⟩
theorem k_M_apart {l : Launch} {d : zD} {F : zF} {h : Nat → Nat} {σ : zS} {lv : List (Option Value)} {pc : Nat} {own : String} {cc : ByteArray} {nL fr lo idx : Nat} {rest : List Value} {β : Type} {kf : Int32 → zS → Option β} {o2 : β} {p0 : Int32} {p1 : Int32} (pc' : Nat) (C : zOk d F own cc nL fr lo) (hd : decode cc pc = .ok (.invokestatic idx, 3)) (hp : pc + 3 = pc') (hq : Cond.methodLink own idx yX11_apart ∈ zW) (hm : 1 + 1 ≤ fr ∧ 8 + (2 + 11) + 20 ≤ lo) (hr : (rest.map fun v => v.category).sum ≤ 8) (hf : zbd (f_M_apart p0 p1 σ) kf = some o2) (K : ∀ (r : Int32) (σ' : zS), kf r σ' = some o2 → V l d F 0 0 (MW d h σ') lv pc' (.int r :: rest)) : V l d F 0 0 (MW d h σ) lv pc (.int p1 :: .int p0 :: rest) := by
  obtain ⟨q, h1, h2⟩ := zbd_some hf
  exact zr_callS y_M_apart q_1258 (As := [.int p0, .int p1]) (m_M_apart h1) rfl rfl pc' C hd hp hq hm hr (K _ _ h2)
/-! StepsBeyondModel.house(II)I -/
def f_M_house (p1 : Int32) (p2 : Int32) (σ : zS) : Option (Int32 × zS) :=
  zbd (f_M_isPlace p1 σ) fun r2 σ1 =>
  (if r2 = 0 then
  some (-2, σ1)
  else
  zbd (f_M_in p2 0 1 σ1) fun r4 σ3 =>
  (if r4 = 0 then
  some (-2, σ3)
  else
  (if (σ3.1 0) = 20 then
  some (-4, σ3)
  else
  zin (σ3.1 0) 20 (zlt (zsa σ3 1 (σ3.1 0) p1) fun σ5 =>
  zin (σ5.1 0) 20 (zlt (zsa σ5 2 (σ5.1 0) p2) fun σ6 =>
  zlt (zsg σ6 0 ((σ6.1 0) + 1)) fun σ7 =>
  some ((σ7.1 0) - 1, σ7))))))
set_option maxRecDepth 4000 in
theorem m_M_house {l : Launch} {d : zD} {h : Nat → Nat} {out : Int32 × zS} {σ : zS} {p1 : Int32} {p2 : Int32} (hf : f_M_house p1 p2 σ = some out) : zM l yX11_house cX11_house 3 (some .int) 2 42 d [.ref (h 0), .int p1, .int p2] (MW d h σ) (MW d h out.2) (some (.int out.1)) := by
  refine zM_of [some (.ref (h 0)), some (.int p1), some (.int p2)] (by decide +kernel) rfl (Nat.le_of_ble_eq_true rfl) (fun F C T => ?_)
  unfold f_M_house at hf
  refine zr_iload_n 1 1 C (by decide +kernel) rfl rfl ?_
  refine k_M_isPlace (idx := 150) 4 C (by decide +kernel) rfl q_1178 (zb2 rfl rfl) (Nat.le_of_ble_eq_true rfl) hf (fun r2 σ1 hf => ?_)
  refine zr_if_eq (off := 12) 16 7 C (by decide +kernel) (by decide) rfl hf (fun hf => ?_) (fun hf => ?_)
  · refine zr_bipush (v := (-2)) (-2) 18 C (by decide +kernel) rfl rfl ?_
    cases hf
    exact zr_iret C (by decide +kernel) T
  · refine zr_iload_n 2 8 C (by decide +kernel) rfl rfl ?_
    refine zr_iconst (v := 0) 0 9 C (by decide +kernel) rfl rfl ?_
    refine zr_iconst (v := 1) 1 10 C (by decide +kernel) rfl rfl ?_
    refine k_M_in (idx := 139) 13 C (by decide +kernel) rfl q_1181 (zb2 rfl rfl) (Nat.le_of_ble_eq_true rfl) hf (fun r4 σ3 hf => ?_)
    refine zr_if_ne (off := 6) 19 16 C (by decide +kernel) (by decide) rfl hf (fun hf => ?_) (fun hf => ?_)
    · refine zr_aload_n 0 20 C (by decide +kernel) rfl rfl ?_
      refine mg_0_0 (idx := 143) 23 C (by decide +kernel) rfl q_991 ?_
      refine zr_bipush (v := 20) 20 25 C (by decide +kernel) rfl rfl ?_
      refine zr_icmp_ne (off := 6) 31 28 C (by decide +kernel) (by decide) rfl hf (fun hf => ?_) (fun hf => ?_)
      · refine zr_aload_n 0 32 C (by decide +kernel) rfl rfl ?_
        refine mg_0_1 (idx := 7) 35 C (by decide +kernel) rfl q_992 ?_
        refine zr_aload_n 0 36 C (by decide +kernel) rfl rfl ?_
        refine mg_0_0 (idx := 143) 39 C (by decide +kernel) rfl q_991 ?_
        refine zr_iload_n 1 40 C (by decide +kernel) rfl rfl ?_
        refine ms_1 41 C (by decide +kernel) rfl hf (fun σ5 hf => ?_)
        refine zr_aload_n 0 42 C (by decide +kernel) rfl rfl ?_
        refine mg_0_2 (idx := 13) 45 C (by decide +kernel) rfl q_993 ?_
        refine zr_aload_n 0 46 C (by decide +kernel) rfl rfl ?_
        refine mg_0_0 (idx := 143) 49 C (by decide +kernel) rfl q_991 ?_
        refine zr_iload_n 2 50 C (by decide +kernel) rfl rfl ?_
        refine ms_2 51 C (by decide +kernel) rfl hf (fun σ6 hf => ?_)
        refine zr_aload_n 0 52 C (by decide +kernel) rfl rfl ?_
        refine zr_dup 53 C (by decide +kernel) rfl rfl ?_
        refine mg_0_0 (idx := 143) 56 C (by decide +kernel) rfl q_991 ?_
        refine zr_iconst (v := 1) 1 57 C (by decide +kernel) rfl rfl ?_
        refine zr_iadd 58 C (by decide +kernel) rfl ?_
        refine mp_0_0 (idx := 143) 61 C (by decide +kernel) rfl q_991 hf (fun σ7 hf => ?_)
        refine zr_aload_n 0 62 C (by decide +kernel) rfl rfl ?_
        refine mg_0_0 (idx := 143) 65 C (by decide +kernel) rfl q_991 ?_
        refine zr_iconst (v := 1) 1 66 C (by decide +kernel) rfl rfl ?_
        refine zr_isub 67 C (by decide +kernel) rfl ?_
        cases hf
        exact zr_iret C (by decide +kernel) T
      · refine zr_bipush (v := (-4)) (-4) 30 C (by decide +kernel) rfl rfl ?_
        cases hf
        exact zr_iret C (by decide +kernel) T
    · refine zr_bipush (v := (-2)) (-2) 18 C (by decide +kernel) rfl rfl ?_
      cases hf
      exact zr_iret C (by decide +kernel) T
theorem y_M_house : zY yX11_house cX11_house 3 (some .int) 2 := ⟨q_1177, q_90, by decide +kernel, by decide +kernel, by decide +kernel⟩
theorem k_M_house {l : Launch} {d : zD} {F : zF} {h : Nat → Nat} {σ : zS} {lv : List (Option Value)} {pc : Nat} {own : String} {cc : ByteArray} {nL fr lo idx : Nat} {rest : List Value} {β : Type} {kf : Int32 → zS → Option β} {o2 : β} {p1 : Int32} {p2 : Int32} (pc' : Nat) (C : zOk d F own cc nL fr lo) (hd : decode cc pc = .ok (.invokevirtual idx, 3)) (hp : pc + 3 = pc') (hq : Cond.methodLink own idx yX11_house ∈ zW) (hm : 2 + 1 ≤ fr ∧ 8 + (3 + 11) + 42 ≤ lo) (hr : (rest.map fun v => v.category).sum ≤ 8) (hf : zbd (f_M_house p1 p2 σ) kf = some o2) (K : ∀ (r : Int32) (σ' : zS), kf r σ' = some o2 → V l d F 0 0 (MW d h σ') lv pc' (.int r :: rest)) : V l d F 0 0 (MW d h σ) lv pc (.int p2 :: .int p1 :: .ref (h 0) :: rest) := by
  obtain ⟨q, h1, h2⟩ := zbd_some hf
  exact zr_callV y_M_house ⟨q_1175, q_1176⟩ 0 rfl rfl (As := [.int p1, .int p2]) (m_M_house h1) rfl rfl pc' C hd hp hq hm hr (K _ _ h2)
/-! StepsBeyondModel.hut(II)I -/
def f_M_hut (p1 : Int32) (p2 : Int32) (σ : zS) : Option (Int32 × zS) :=
  zbd (f_M_isHouse p1 σ) fun r2 σ1 =>
  (if r2 = 0 then
  some (-1, σ1)
  else
  zbd (f_M_in p2 0 1 σ1) fun r4 σ3 =>
  (if r4 = 0 then
  some (-2, σ3)
  else
  zin p1 20 (zlt (σ3.2 2 p1.toNatClampNeg) fun v5 => 
  zin p1 20 (zlt (zsa σ3 2 p1 p2) fun σ6 =>
  some (v5, σ6)))))
set_option maxRecDepth 4000 in
theorem m_M_hut {l : Launch} {d : zD} {h : Nat → Nat} {out : Int32 × zS} {σ : zS} {p1 : Int32} {p2 : Int32} (hf : f_M_hut p1 p2 σ = some out) : zM l yX11_hut cX11_hut 4 (some .int) 2 43 d [.ref (h 0), .int p1, .int p2] (MW d h σ) (MW d h out.2) (some (.int out.1)) := by
  refine zM_of [some (.ref (h 0)), some (.int p1), some (.int p2), none] (by decide +kernel) rfl (Nat.le_of_ble_eq_true rfl) (fun F C T => ?_)
  unfold f_M_hut at hf
  refine zr_aload_n 0 1 C (by decide +kernel) rfl rfl ?_
  refine zr_iload_n 1 2 C (by decide +kernel) rfl rfl ?_
  refine k_M_isHouse (idx := 154) 5 C (by decide +kernel) rfl q_1188 (zb2 rfl rfl) (Nat.le_of_ble_eq_true rfl) hf (fun r2 σ1 hf => ?_)
  refine zr_if_ne (off := 5) 10 8 C (by decide +kernel) (by decide) rfl hf (fun hf => ?_) (fun hf => ?_)
  · refine zr_iload_n 2 11 C (by decide +kernel) rfl rfl ?_
    refine zr_iconst (v := 0) 0 12 C (by decide +kernel) rfl rfl ?_
    refine zr_iconst (v := 1) 1 13 C (by decide +kernel) rfl rfl ?_
    refine k_M_in (idx := 139) 16 C (by decide +kernel) rfl q_1181 (zb2 rfl rfl) (Nat.le_of_ble_eq_true rfl) hf (fun r4 σ3 hf => ?_)
    refine zr_if_ne (off := 6) 22 19 C (by decide +kernel) (by decide) rfl hf (fun hf => ?_) (fun hf => ?_)
    · refine zr_aload_n 0 23 C (by decide +kernel) rfl rfl ?_
      refine mg_0_2 (idx := 13) 26 C (by decide +kernel) rfl q_993 ?_
      refine zr_iload_n 1 27 C (by decide +kernel) rfl rfl ?_
      refine ml_2 28 C (by decide +kernel) rfl hf (fun hf => ?_)
      refine zr_name hf (fun v5 hf => ?_)
      refine zr_istore_n 3 [some (.ref (h 0)), some (.int p1), some (.int p2), some (.int v5)] 29 C (by decide +kernel) rfl (by decide) rfl rfl ?_
      refine zr_aload_n 0 30 C (by decide +kernel) rfl rfl ?_
      refine mg_0_2 (idx := 13) 33 C (by decide +kernel) rfl q_993 ?_
      refine zr_iload_n 1 34 C (by decide +kernel) rfl rfl ?_
      refine zr_iload_n 2 35 C (by decide +kernel) rfl rfl ?_
      refine ms_2 36 C (by decide +kernel) rfl hf (fun σ6 hf => ?_)
      refine zr_iload_n 3 37 C (by decide +kernel) rfl rfl ?_
      cases hf
      exact zr_iret C (by decide +kernel) T
    · refine zr_bipush (v := (-2)) (-2) 21 C (by decide +kernel) rfl rfl ?_
      cases hf
      exact zr_iret C (by decide +kernel) T
  · refine zr_iconst (v := (-1)) (-1) 9 C (by decide +kernel) rfl rfl ?_
    cases hf
    exact zr_iret C (by decide +kernel) T
theorem y_M_hut : zY yX11_hut cX11_hut 4 (some .int) 2 := ⟨q_1187, q_90, by decide +kernel, by decide +kernel, by decide +kernel⟩
theorem k_M_hut {l : Launch} {d : zD} {F : zF} {h : Nat → Nat} {σ : zS} {lv : List (Option Value)} {pc : Nat} {own : String} {cc : ByteArray} {nL fr lo idx : Nat} {rest : List Value} {β : Type} {kf : Int32 → zS → Option β} {o2 : β} {p1 : Int32} {p2 : Int32} (pc' : Nat) (C : zOk d F own cc nL fr lo) (hd : decode cc pc = .ok (.invokevirtual idx, 3)) (hp : pc + 3 = pc') (hq : Cond.methodLink own idx yX11_hut ∈ zW) (hm : 2 + 1 ≤ fr ∧ 8 + (4 + 11) + 43 ≤ lo) (hr : (rest.map fun v => v.category).sum ≤ 8) (hf : zbd (f_M_hut p1 p2 σ) kf = some o2) (K : ∀ (r : Int32) (σ' : zS), kf r σ' = some o2 → V l d F 0 0 (MW d h σ') lv pc' (.int r :: rest)) : V l d F 0 0 (MW d h σ) lv pc (.int p2 :: .int p1 :: .ref (h 0) :: rest) := by
  obtain ⟨q, h1, h2⟩ := zbd_some hf
  exact zr_callV y_M_hut ⟨q_1185, q_1186⟩ 0 rfl rfl (As := [.int p1, .int p2]) (m_M_hut h1) rfl rfl pc' C hd hp hq hm hr (K _ _ h2)
